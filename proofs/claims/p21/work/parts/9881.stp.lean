/-! LAYER 2, one call of the law over the typed states (by program) -/
def sc_feed (U S N : Nat) (x1 x2 x3 x4 x5 : Int32) (t : CS) (s : RS) : Option (CS × RS) := (u_X11_feed U S N x1 x2 x3 x4 x5 t).bind fun q => (g_feed U S N x1 x2 x3 x4 x5 s).bind fun p => some (q.2, p.2)
def sc_end (U S N : Nat) (x1 : Int32) (t : CS) (s : RS) : Option (CS × RS) := (u_X11_end U S N x1 t).bind fun q => (g_end U S N x1 s).bind fun p => some (q.2, p.2)
def sc_assemble (U S N : Nat) (t : CS) (s : RS) : Option (CS × RS) := (u_X11_assemble U S N t).bind fun q => (g_assemble U S N s).bind fun p => some (q.2, p.2)
def sc_fault (U S N : Nat) (x1 : Int32) (t : CS) (s : RS) : Option (CS × RS) := (u_X11_fault U S N x1 t).bind fun q => (g_fault U S N x1 s).bind fun p => some (q.2, p.2)
def sc_made (U S N : Nat) (x1 : Int32) (t : CS) (s : RS) : Option (CS × RS) := (u_X11_made U S N x1 t).bind fun q => (g_made U S N x1 s).bind fun p => some (q.2, p.2)
def sc_mount (U S N : Nat) (x1 : Int32) (t : CS) (s : RS) : Option (CS × RS) := (u_X11_mount U S N x1 t).bind fun q => (g_mount U S N x1 s).bind fun p => some (q.2, p.2)
def sc_begin (U S N : Nat) (x1 x2 : Int32) (t : CS) (s : RS) : Option (CS × RS) := (u_X11_begin U S N x1 x2 t).bind fun q => (g_begin U S N x1 x2 s).bind fun p => some (q.2, p.2)
def sc_halt (U S N : Nat) (x1 : Int32) (t : CS) (s : RS) : Option (CS × RS) := (u_X11_halt U S N x1 t).bind fun q => (g_halt U S N x1 s).bind fun p => some (q.2, p.2)
def sc_key (U S N : Nat) (x1 x2 : Int32) (t : CS) (s : RS) : Option (CS × RS) := (u_X11_key U S N x1 x2 t).bind fun q => (g_key U S N x1 x2 s).bind fun p => some (q.2, p.2)
def sc_set (U S N : Nat) (x1 x2 : Int32) (t : CS) (s : RS) : Option (CS × RS) := (u_X11_set U S N x1 x2 t).bind fun q => (g_set U S N x1 x2 s).bind fun p => some (q.2, p.2)
def sc_deposit (U S N : Nat) (x1 x2 x3 : Int32) (t : CS) (s : RS) : Option (CS × RS) := (u_X11_deposit U S N x1 x2 x3 t).bind fun q => (g_deposit U S N x1 x2 x3 s).bind fun p => some (q.2, p.2)
def sc_run (U S N : Nat) (x1 : Int32) (t : CS) (s : RS) : Option (CS × RS) := (u_X11_run U S N x1 t).bind fun q => (g_run U S N x1 s).bind fun p => some (q.2, p.2)
def sc_user (U S N : Nat) (x1 x2 : Int32) (t : CS) (s : RS) : Option (CS × RS) := (u_X11_user U S N x1 x2 t).bind fun q => (g_user U S N x1 x2 s).bind fun p => some (q.2, p.2)
def sc_look (U S N : Nat) (x1 : Int32) (t : CS) (s : RS) : Option (CS × RS) := (u_X11_look U S N x1 t).bind fun q => (g_look_ U S N x1 s).bind fun p => some (q.2, p.2)
def sc_word (U S N : Nat) (x1 x2 : Int32) (t : CS) (s : RS) : Option (CS × RS) := (u_X11_word U S N x1 x2 t).bind fun q => (g_word__ U S N x1 x2 s).bind fun p => some (q.2, p.2)
def sc_core (U S N : Nat) (x1 x2 : Int32) (t : CS) (s : RS) : Option (CS × RS) := (u_X11_core U S N x1 x2 t).bind fun q => (g_core U S N x1 x2 s).bind fun p => some (q.2, p.2)
def sc_drum (U S N : Nat) (x1 x2 : Int32) (t : CS) (s : RS) : Option (CS × RS) := (u_X11_drum U S N x1 x2 t).bind fun q => (g_drum U S N x1 x2 s).bind fun p => some (q.2, p.2)
def sc_slot (U S N : Nat) (x1 x2 : Int32) (t : CS) (s : RS) : Option (CS × RS) := (u_X11_slot U S N x1 x2 t).bind fun q => (g_slot U S N x1 x2 s).bind fun p => some (q.2, p.2)
def sc_block (U S N : Nat) (x1 x2 x3 : Int32) (t : CS) (s : RS) : Option (CS × RS) := (u_X11_block U S N x1 x2 x3 t).bind fun q => (g_block U S N x1 x2 x3 s).bind fun p => some (q.2, p.2)
def sc_paper (U S N : Nat) (x1 x2 : Int32) (t : CS) (s : RS) : Option (CS × RS) := (u_X11_paper U S N x1 x2 t).bind fun q => (g_paper U S N x1 x2 s).bind fun p => if q.1 = p.1 then some (q.2, p.2) else none
def stp (U S N : Nat) (op x1 x2 x3 x4 x5 : Int32) (t : CS) (s : RS) : Option (CS × RS) :=
  if op = 0 then sc_feed U S N x1 x2 x3 x4 x5 t s else
  if op = 1 then sc_end U S N x1 t s else
  if op = 2 then sc_assemble U S N t s else
  if op = 3 then sc_fault U S N x1 t s else
  if op = 4 then sc_made U S N x1 t s else
  if op = 5 then sc_mount U S N x1 t s else
  if op = 6 then sc_begin U S N x1 x2 t s else
  if op = 7 then sc_halt U S N x1 t s else
  if op = 8 then sc_key U S N x1 x2 t s else
  if op = 9 then sc_set U S N x1 x2 t s else
  if op = 10 then sc_deposit U S N x1 x2 x3 t s else
  if op = 11 then sc_run U S N x1 t s else
  if op = 12 then sc_user U S N x1 x2 t s else
  if op = 13 then sc_look U S N x1 t s else
  if op = 14 then sc_word U S N x1 x2 t s else
  if op = 15 then sc_core U S N x1 x2 t s else
  if op = 16 then sc_drum U S N x1 x2 t s else
  if op = 17 then sc_slot U S N x1 x2 t s else
  if op = 18 then sc_block U S N x1 x2 x3 t s else
  if op = 19 then sc_paper U S N x1 x2 t s else
  some (t, s)
theorem xS_at {g : CG} {L i : Nat} {xs : Nat → Int32} (hg : g.1.2.2 = (L, xs)) (hL : L < 4000) (hi : i < L) : xS g (nI i) = some (xs i) := by
  unfold xS
  rw [hg, if_neg (nI_in hi (by omega)), nI_clamp (by omega)]
theorem st_c {m : Mem} {n0 a r U S : Nat} (W : ZW m n0 a r U S) {t : CS} {s : RS} {c : Option (Int32 × CS)} {q : Int32 × CS} {f : Option Nat → Mem → Option (Int32 × Mem)} (h : ∀ {a0f : Option Nat}, a0f = adr (n0, ZM m n0 a r U S t s) a U S (11, 0, 0) → IM (n0, ZM m n0 a r U S t s) a U S id c (f a0f (EC (n0, ZM m n0 a r U S t s) a U S t))) (hc : c = some q) {R : Option (Unit × Mem)} {F : Int32 × Mem → Option (Unit × Mem)} (hF : F (q.1, ZM m n0 a r U S q.2 s) = R) : ((mck (ZM m n0 a r U S t s) (some a) 11).bind fun b => (f (some b) (ZM m n0 a r U S t s)).bind F) = R := by
  rw [z_ck W]
  have h2 := z_c W (h (a0f := some a) (by unfold adr; rw [if_pos rfl])) hc
  show (f (some a) _).bind F = R
  rw [h2]
  exact hF
theorem st_r {m : Mem} {n0 a r U S : Nat} (W : ZW m n0 a r U S) {t : CS} {s : RS} {c : Option (Int32 × RS)} {q : Int32 × RS} {f : Option Nat → Mem → Option (Int32 × Mem)} (h : f (some r) (EM (EC (n0, m) a U S t) r (pcs U S) s) = c.map (em (EC (n0, m) a U S t) r U S)) (hc : c = some q) {R : Option (Unit × Mem)} {F : Int32 × Mem → Option (Unit × Mem)} (hF : F (q.1, ZM m n0 a r U S t q.2) = R) : ((mck (ZM m n0 a r U S t s) (some r) 12).bind fun b => (f (some b) (ZM m n0 a r U S t s)).bind F) = R := by
  rw [z_rk W]
  have h2 := z_r (f := f (some r)) h hc
  show (f (some r) _).bind F = R
  rw [h2]
  exact hF
theorem if_y {β : Type} {c : Prop} [Decidable c] {A B R : β} (h : c) (e : A = R) : (if c then A else B) = R := by rw [if_pos h]; exact e
theorem if_n {β : Type} {c : Prop} [Decidable c] {A B R : β} (h : ¬ c) (e : B = R) : (if c then A else B) = R := by rw [if_neg h]; exact e
set_option maxRecDepth 10000 in
theorem h_law {g : CG} {L i N : Nat} {xs : Nat → Int32} (hg : g.1.2.2 = (L, xs)) (hL : L < 4000) (hi : i + 6 ≤ L) {m : Mem} {n0 a r U S : Nat} (W : ZW m n0 a r U S) {k58 : Nat → (Option Nat) → (Option Nat) → Int32 → Mem → Option (Unit × Mem)} {t t2 : CS} {s s2 : RS} (h : stp U S N (xs i &&& 31) (xs (i + 1)) (xs (i + 2)) (xs (i + 3)) (xs (i + 4)) (xs (i + 5)) t s = some (t2, s2)) : H_L_law_58 N g U S k58 2 (some a) (some r) (nI i) (ZM m n0 a r U S t s) = k58 2 (some a) (some r) (nI (i + 6)) (ZM m n0 a r U S t2 s2) := by
  have e0 := xS_at hg hL (show i < L by omega)
  have e1 : xS g (nI i + 1) = some (xs (i + 1)) := by rw [show nI i + 1 = nI (i + 1) from nI_add i 1]; exact xS_at hg hL (by omega)
  have e2 : xS g (nI i + 2) = some (xs (i + 2)) := by rw [show nI i + 2 = nI (i + 2) from nI_add i 2]; exact xS_at hg hL (by omega)
  have e3 : xS g (nI i + 3) = some (xs (i + 3)) := by rw [show nI i + 3 = nI (i + 3) from nI_add i 3]; exact xS_at hg hL (by omega)
  have e4 : xS g (nI i + 4) = some (xs (i + 4)) := by rw [show nI i + 4 = nI (i + 4) from nI_add i 4]; exact xS_at hg hL (by omega)
  have e5 : xS g (nI i + 5) = some (xs (i + 5)) := by rw [show nI i + 5 = nI (i + 5) from nI_add i 5]; exact xS_at hg hL (by omega)
  have e6 : nI i + 6 = nI (i + 6) := nI_add i 6
  unfold H_L_law_58
  refine if_n ?_ ?_
  · rw [hg]
    show ¬ (nI L - nI 6) < nI i
    have h1 : (nI L - nI 6).toInt = (L : Int) - 6 := by
      rw [show nI L = nI (L - 6) + nI 6 by rw [nI_add]; congr 1; omega, Int32.add_sub_cancel, nI_toInt (by omega)]
      omega
    rw [Int32.lt_iff_toInt_lt, h1, nI_toInt (by omega)]
    omega
  refine bnd e0 ?_
  unfold stp at h
  generalize xs i &&& 31 = op at h ⊢
  by_cases c0 : op = 0
  · replace h := ifT h c0
    refine if_y c0 ?_
    unfold sc_feed at h
    refine bnd e1 ?_
    refine bnd e2 ?_
    refine bnd e3 ?_
    refine bnd e4 ?_
    refine bnd e5 ?_
    obtain ⟨q, hq, h⟩ := ob h
    obtain ⟨p, hp, h⟩ := ob h
    cases h
    refine st_c W (f := fun z => f_X11_feed N z (xs (i + 1)) (xs (i + 2)) (xs (i + 3)) (xs (i + 4)) (xs (i + 5))) (fun e => ue_u_X11_feed (Z_W W t s) e _ _ _ _ _ _) hq ?_
    refine bnd e1 ?_
    refine bnd e2 ?_
    refine bnd e3 ?_
    refine bnd e4 ?_
    refine bnd e5 ?_
    refine st_r W (f := fun z => f_X12_feed N z (xs (i + 1)) (xs (i + 2)) (xs (i + 3)) (xs (i + 4)) (xs (i + 5))) (e_g_feed (show r < (EC (n0, m) a U S q.2).1 from W.2.1) _ _ _ _ _ _) hp ?_
    unfold f_L_law_788
    rw [e6]
  replace h := ifF h c0
  refine if_n c0 ?_
  by_cases c1 : op = 1
  · replace h := ifT h c1
    refine if_y c1 ?_
    unfold sc_end at h
    refine bnd e1 ?_
    obtain ⟨q, hq, h⟩ := ob h
    obtain ⟨p, hp, h⟩ := ob h
    cases h
    refine st_c W (f := fun z => f_X11_end N z (xs (i + 1))) (fun e => ue_u_X11_end (Z_W W t s) e _ _) hq ?_
    refine bnd e1 ?_
    refine st_r W (f := fun z => f_X12_end N z (xs (i + 1))) (e_g_end (show r < (EC (n0, m) a U S q.2).1 from W.2.1) _ _) hp ?_
    unfold f_L_law_788
    rw [e6]
  replace h := ifF h c1
  refine if_n c1 ?_
  by_cases c2 : op = 2
  · replace h := ifT h c2
    refine if_y c2 ?_
    unfold sc_assemble at h
    obtain ⟨q, hq, h⟩ := ob h
    obtain ⟨p, hp, h⟩ := ob h
    cases h
    refine st_c W (f := fun z => f_X11_assemble N z ) (fun e => ue_u_X11_assemble (Z_W W t s) e _) hq ?_
    refine st_r W (f := fun z => f_X12_assemble N z ) (e_g_assemble (show r < (EC (n0, m) a U S q.2).1 from W.2.1) _) hp ?_
    unfold f_L_law_788
    rw [e6]
  replace h := ifF h c2
  refine if_n c2 ?_
  by_cases c3 : op = 3
  · replace h := ifT h c3
    refine if_y c3 ?_
    unfold sc_fault at h
    refine bnd e1 ?_
    obtain ⟨q, hq, h⟩ := ob h
    obtain ⟨p, hp, h⟩ := ob h
    cases h
    refine st_c W (f := fun z => f_X11_fault N z (xs (i + 1))) (fun e => ue_u_X11_fault (Z_W W t s) e _ _) hq ?_
    refine bnd e1 ?_
    refine st_r W (f := fun z => f_X12_fault N z (xs (i + 1))) (e_g_fault (show r < (EC (n0, m) a U S q.2).1 from W.2.1) _ _) hp ?_
    unfold f_L_law_788
    rw [e6]
  replace h := ifF h c3
  refine if_n c3 ?_
  by_cases c4 : op = 4
  · replace h := ifT h c4
    refine if_y c4 ?_
    unfold sc_made at h
    refine bnd e1 ?_
    obtain ⟨q, hq, h⟩ := ob h
    obtain ⟨p, hp, h⟩ := ob h
    cases h
    refine st_c W (f := fun z => f_X11_made N z (xs (i + 1))) (fun e => ue_u_X11_made (Z_W W t s) e _ _) hq ?_
    refine bnd e1 ?_
    refine st_r W (f := fun z => f_X12_made N z (xs (i + 1))) (e_g_made (show r < (EC (n0, m) a U S q.2).1 from W.2.1) _ _) hp ?_
    unfold f_L_law_788
    rw [e6]
  replace h := ifF h c4
  refine if_n c4 ?_
  by_cases c5 : op = 5
  · replace h := ifT h c5
    refine if_y c5 ?_
    unfold sc_mount at h
    refine bnd e1 ?_
    obtain ⟨q, hq, h⟩ := ob h
    obtain ⟨p, hp, h⟩ := ob h
    cases h
    refine st_c W (f := fun z => f_X11_mount N z (xs (i + 1))) (fun e => ue_u_X11_mount (Z_W W t s) e _ _) hq ?_
    refine bnd e1 ?_
    refine st_r W (f := fun z => f_X12_mount N z (xs (i + 1))) (e_g_mount (show r < (EC (n0, m) a U S q.2).1 from W.2.1) _ _) hp ?_
    unfold f_L_law_788
    rw [e6]
  replace h := ifF h c5
  refine if_n c5 ?_
  by_cases c6 : op = 6
  · replace h := ifT h c6
    refine if_y c6 ?_
    unfold sc_begin at h
    refine bnd e1 ?_
    refine bnd e2 ?_
    obtain ⟨q, hq, h⟩ := ob h
    obtain ⟨p, hp, h⟩ := ob h
    cases h
    refine st_c W (f := fun z => f_X11_begin N z (xs (i + 1)) (xs (i + 2))) (fun e => ue_u_X11_begin (Z_W W t s) e _ _ _) hq ?_
    refine bnd e1 ?_
    refine bnd e2 ?_
    refine st_r W (f := fun z => f_X12_begin N z (xs (i + 1)) (xs (i + 2))) (e_g_begin (show r < (EC (n0, m) a U S q.2).1 from W.2.1) _ _ _) hp ?_
    unfold f_L_law_788
    rw [e6]
  replace h := ifF h c6
  refine if_n c6 ?_
  by_cases c7 : op = 7
  · replace h := ifT h c7
    refine if_y c7 ?_
    unfold sc_halt at h
    refine bnd e1 ?_
    obtain ⟨q, hq, h⟩ := ob h
    obtain ⟨p, hp, h⟩ := ob h
    cases h
    refine st_c W (f := fun z => f_X11_halt N z (xs (i + 1))) (fun e => ue_u_X11_halt (Z_W W t s) e _ _) hq ?_
    refine bnd e1 ?_
    refine st_r W (f := fun z => f_X12_halt N z (xs (i + 1))) (e_g_halt (show r < (EC (n0, m) a U S q.2).1 from W.2.1) _ _) hp ?_
    unfold f_L_law_788
    rw [e6]
  replace h := ifF h c7
  refine if_n c7 ?_
  by_cases c8 : op = 8
  · replace h := ifT h c8
    refine if_y c8 ?_
    unfold sc_key at h
    refine bnd e1 ?_
    refine bnd e2 ?_
    obtain ⟨q, hq, h⟩ := ob h
    obtain ⟨p, hp, h⟩ := ob h
    cases h
    refine st_c W (f := fun z => f_X11_key N z (xs (i + 1)) (xs (i + 2))) (fun e => ue_u_X11_key (Z_W W t s) e _ _ _) hq ?_
    refine bnd e1 ?_
    refine bnd e2 ?_
    refine st_r W (f := fun z => f_X12_key N z (xs (i + 1)) (xs (i + 2))) (e_g_key (show r < (EC (n0, m) a U S q.2).1 from W.2.1) _ _ _) hp ?_
    unfold f_L_law_788
    rw [e6]
  replace h := ifF h c8
  refine if_n c8 ?_
  by_cases c9 : op = 9
  · replace h := ifT h c9
    refine if_y c9 ?_
    unfold sc_set at h
    refine bnd e1 ?_
    refine bnd e2 ?_
    obtain ⟨q, hq, h⟩ := ob h
    obtain ⟨p, hp, h⟩ := ob h
    cases h
    refine st_c W (f := fun z => f_X11_set N z (xs (i + 1)) (xs (i + 2))) (fun e => ue_u_X11_set (Z_W W t s) e _ _ _) hq ?_
    refine bnd e1 ?_
    refine bnd e2 ?_
    refine st_r W (f := fun z => f_X12_set N z (xs (i + 1)) (xs (i + 2))) (e_g_set (show r < (EC (n0, m) a U S q.2).1 from W.2.1) _ _ _) hp ?_
    unfold f_L_law_788
    rw [e6]
  replace h := ifF h c9
  refine if_n c9 ?_
  by_cases c10 : op = 10
  · replace h := ifT h c10
    refine if_y c10 ?_
    unfold sc_deposit at h
    refine bnd e1 ?_
    refine bnd e2 ?_
    refine bnd e3 ?_
    obtain ⟨q, hq, h⟩ := ob h
    obtain ⟨p, hp, h⟩ := ob h
    cases h
    refine st_c W (f := fun z => f_X11_deposit N z (xs (i + 1)) (xs (i + 2)) (xs (i + 3))) (fun e => ue_u_X11_deposit (Z_W W t s) e _ _ _ _) hq ?_
    refine bnd e1 ?_
    refine bnd e2 ?_
    refine bnd e3 ?_
    refine st_r W (f := fun z => f_X12_deposit N z (xs (i + 1)) (xs (i + 2)) (xs (i + 3))) (e_g_deposit (show r < (EC (n0, m) a U S q.2).1 from W.2.1) _ _ _ _) hp ?_
    unfold f_L_law_788
    rw [e6]
  replace h := ifF h c10
  refine if_n c10 ?_
  by_cases c11 : op = 11
  · replace h := ifT h c11
    refine if_y c11 ?_
    unfold sc_run at h
    refine bnd e1 ?_
    obtain ⟨q, hq, h⟩ := ob h
    obtain ⟨p, hp, h⟩ := ob h
    cases h
    refine st_c W (f := fun z => f_X11_run N z (xs (i + 1))) (fun e => ue_u_X11_run (Z_W W t s) e _ _) hq ?_
    refine bnd e1 ?_
    refine st_r W (f := fun z => f_X12_run N z (xs (i + 1))) (e_g_run (show r < (EC (n0, m) a U S q.2).1 from W.2.1) _ _) hp ?_
    unfold f_L_law_788
    rw [e6]
  replace h := ifF h c11
  refine if_n c11 ?_
  by_cases c12 : op = 12
  · replace h := ifT h c12
    refine if_y c12 ?_
    unfold sc_user at h
    refine bnd e1 ?_
    refine bnd e2 ?_
    obtain ⟨q, hq, h⟩ := ob h
    obtain ⟨p, hp, h⟩ := ob h
    cases h
    refine st_c W (f := fun z => f_X11_user N z (xs (i + 1)) (xs (i + 2))) (fun e => ue_u_X11_user (Z_W W t s) e _ _ _) hq ?_
    refine bnd e1 ?_
    refine bnd e2 ?_
    refine st_r W (f := fun z => f_X12_user N z (xs (i + 1)) (xs (i + 2))) (e_g_user (show r < (EC (n0, m) a U S q.2).1 from W.2.1) _ _ _) hp ?_
    unfold f_L_law_788
    rw [e6]
  replace h := ifF h c12
  refine if_n c12 ?_
  by_cases c13 : op = 13
  · replace h := ifT h c13
    refine if_y c13 ?_
    unfold sc_look at h
    refine bnd e1 ?_
    obtain ⟨q, hq, h⟩ := ob h
    obtain ⟨p, hp, h⟩ := ob h
    cases h
    refine st_c W (f := fun z => f_X11_look N z (xs (i + 1))) (fun e => ue_u_X11_look (Z_W W t s) e _ _) hq ?_
    refine bnd e1 ?_
    refine st_r W (f := fun z => f_X12_look_ N z (xs (i + 1))) (e_g_look_ (show r < (EC (n0, m) a U S q.2).1 from W.2.1) _ _) hp ?_
    unfold f_L_law_788
    rw [e6]
  replace h := ifF h c13
  refine if_n c13 ?_
  by_cases c14 : op = 14
  · replace h := ifT h c14
    refine if_y c14 ?_
    unfold sc_word at h
    refine bnd e1 ?_
    refine bnd e2 ?_
    obtain ⟨q, hq, h⟩ := ob h
    obtain ⟨p, hp, h⟩ := ob h
    cases h
    refine st_c W (f := fun z => f_X11_word N z (xs (i + 1)) (xs (i + 2))) (fun e => ue_u_X11_word (Z_W W t s) e _ _ _) hq ?_
    refine bnd e1 ?_
    refine bnd e2 ?_
    refine st_r W (f := fun z => f_X12_word__ N z (xs (i + 1)) (xs (i + 2))) (e_g_word__ (show r < (EC (n0, m) a U S q.2).1 from W.2.1) _ _ _) hp ?_
    unfold f_L_law_788
    rw [e6]
  replace h := ifF h c14
  refine if_n c14 ?_
  by_cases c15 : op = 15
  · replace h := ifT h c15
    refine if_y c15 ?_
    unfold sc_core at h
    refine bnd e1 ?_
    refine bnd e2 ?_
    obtain ⟨q, hq, h⟩ := ob h
    obtain ⟨p, hp, h⟩ := ob h
    cases h
    refine st_c W (f := fun z => f_X11_core N z (xs (i + 1)) (xs (i + 2))) (fun e => ue_u_X11_core (Z_W W t s) e _ _ _) hq ?_
    refine bnd e1 ?_
    refine bnd e2 ?_
    refine st_r W (f := fun z => f_X12_core N z (xs (i + 1)) (xs (i + 2))) (e_g_core (show r < (EC (n0, m) a U S q.2).1 from W.2.1) _ _ _) hp ?_
    unfold f_L_law_788
    rw [e6]
  replace h := ifF h c15
  refine if_n c15 ?_
  by_cases c16 : op = 16
  · replace h := ifT h c16
    refine if_y c16 ?_
    unfold sc_drum at h
    refine bnd e1 ?_
    refine bnd e2 ?_
    obtain ⟨q, hq, h⟩ := ob h
    obtain ⟨p, hp, h⟩ := ob h
    cases h
    refine st_c W (f := fun z => f_X11_drum N z (xs (i + 1)) (xs (i + 2))) (fun e => ue_u_X11_drum (Z_W W t s) e _ _ _) hq ?_
    refine bnd e1 ?_
    refine bnd e2 ?_
    refine st_r W (f := fun z => f_X12_drum N z (xs (i + 1)) (xs (i + 2))) (e_g_drum (show r < (EC (n0, m) a U S q.2).1 from W.2.1) _ _ _) hp ?_
    unfold f_L_law_788
    rw [e6]
  replace h := ifF h c16
  refine if_n c16 ?_
  by_cases c17 : op = 17
  · replace h := ifT h c17
    refine if_y c17 ?_
    unfold sc_slot at h
    refine bnd e1 ?_
    refine bnd e2 ?_
    obtain ⟨q, hq, h⟩ := ob h
    obtain ⟨p, hp, h⟩ := ob h
    cases h
    refine st_c W (f := fun z => f_X11_slot N z (xs (i + 1)) (xs (i + 2))) (fun e => ue_u_X11_slot (Z_W W t s) e _ _ _) hq ?_
    refine bnd e1 ?_
    refine bnd e2 ?_
    refine st_r W (f := fun z => f_X12_slot N z (xs (i + 1)) (xs (i + 2))) (e_g_slot (show r < (EC (n0, m) a U S q.2).1 from W.2.1) _ _ _) hp ?_
    unfold f_L_law_788
    rw [e6]
  replace h := ifF h c17
  refine if_n c17 ?_
  by_cases c18 : op = 18
  · replace h := ifT h c18
    refine if_y c18 ?_
    unfold sc_block at h
    refine bnd e1 ?_
    refine bnd e2 ?_
    refine bnd e3 ?_
    obtain ⟨q, hq, h⟩ := ob h
    obtain ⟨p, hp, h⟩ := ob h
    cases h
    refine st_c W (f := fun z => f_X11_block N z (xs (i + 1)) (xs (i + 2)) (xs (i + 3))) (fun e => ue_u_X11_block (Z_W W t s) e _ _ _ _) hq ?_
    refine bnd e1 ?_
    refine bnd e2 ?_
    refine bnd e3 ?_
    refine st_r W (f := fun z => f_X12_block N z (xs (i + 1)) (xs (i + 2)) (xs (i + 3))) (e_g_block (show r < (EC (n0, m) a U S q.2).1 from W.2.1) _ _ _ _) hp ?_
    unfold f_L_law_788
    rw [e6]
  replace h := ifF h c18
  refine if_n c18 ?_
  by_cases c19 : op = 19
  · replace h := ifT h c19
    refine if_y c19 ?_
    unfold sc_paper at h
    refine bnd e1 ?_
    refine bnd e2 ?_
    obtain ⟨q, hq, h⟩ := ob h
    obtain ⟨p, hp, h⟩ := ob h
    obtain ⟨hc, h⟩ := oy h
    cases h
    refine st_c W (f := fun z => f_X11_paper N z (xs (i + 1)) (xs (i + 2))) (fun e => ue_u_X11_paper (Z_W W t s) e _ _ _) hq ?_
    refine bnd e1 ?_
    refine bnd e2 ?_
    refine st_r W (f := fun z => f_X12_paper N z (xs (i + 1)) (xs (i + 2))) (e_g_paper (show r < (EC (n0, m) a U S q.2).1 from W.2.1) _ _ _) hp ?_
    refine if_y hc ?_
    unfold f_L_law_788
    rw [e6]
  replace h := ifF h c19
  refine if_n c19 ?_
  cases h
  unfold f_L_law_788
  rw [e6]
