/-! LAYER 2, what the reference's constructor leaves -/
def nr (a h : Int32) : Int32 := if 1 ≤ a then (if a ≤ h then a else h) else 1
theorem nr_X12 (N : Nat) (a h : Int32) (m : Mem) : f_X12_near N a 1 h m = some (nr a h, m) := by
  unfold f_X12_near nr f_X12_near_19
  by_cases h1 : (1 : Int32) ≤ a
  · rw [if_pos h1, if_pos h1]
    by_cases h2 : a ≤ h
    · rw [if_pos h2, if_pos h2]
    · rw [if_neg h2, if_neg h2]
  · rw [if_neg h1, if_neg h1]
theorem nr_mm (a h : Int32) (hh : (1 : Int32) ≤ h) : mmax 1 (mmin h a) = nr a h := by
  unfold mmax mmin nr
  rw [Int32.le_iff_toInt_le] at hh
  have e1 : (1 : Int32).toInt = 1 := rfl
  rw [e1] at hh
  simp only [Int32.le_iff_toInt_le, Int32.lt_iff_toInt_lt, e1]
  repeat' split
  all_goals first
    | rfl
    | (apply Int32.toInt_inj.mp; omega)
    | omega
def sA (s : RS) (k : Nat) (f : Nat → Int32) : RS := (s.1, up1 s.2.1 k f, s.2.2)
theorem sA_s (s : RS) (k : Nat) (f : Nat → Int32) : (sA s k f).2.1 k = f := up1_s _ _ _
theorem sA_id (s : RS) (k : Nat) {f : Nat → Int32} (h : s.2.1 k = f) : s = sA s k f := by
  obtain ⟨a, b, c⟩ := s
  have hb : b = up1 b k f := by
    funext j
    unfold up1
    by_cases hj : j = k
    · rw [if_pos hj, hj]; exact h
    · rw [if_neg hj]
  show (a, b, c) = (a, up1 b k f, c)
  rw [← hb]
theorem sA_p (s : RS) (k j : Nat) (f : Nat → Int32) (v : Int32) : pA (sA s k (fil f j v)) k j v = sA s k (fil f (j + 1) v) := by
  unfold pA sA
  dsimp only
  rw [up1_s, fil_s]
  congr 2
  funext i
  unfold up1
  by_cases hi : i = k
  · rw [if_pos hi, if_pos hi]
  · rw [if_neg hi, if_neg hi, if_neg hi]
theorem fil_0 (f : Nat → Int32) (v : Int32) : fil f 0 v = f := by
  funext j
  unfold fil
  rw [if_neg (Nat.not_lt_zero j)]
section
variable {μ : Mem} {r U S : Nat}
theorem e_fil (hr : r < μ.1) {ps : List Pc} (hn : (ps.map (·.1)).Nodup) (s : RS) {k n j : Nat} (h : lk ps k = some (0, n, none)) (hk : k < 79) (hi : isI k = false) (f : Nat → Int32) (hj : j < n) (hN : n < 2 ^ 31) {F : Mem → Option (Unit × Mem)} : ((mfR (EM μ r ps (sA s k (fil f j (-1)))) (some r) 12 k).bind fun v1 => (mbI (EM μ r ps (sA s k (fil f j (-1)))) 0 v1 (nI j) ((-1))).bind F) = F (EM μ r ps (sA s k (fil f (j + 1) (-1)))) := by
  rw [e_fR hr _ hk hi]
  show (mbI _ 0 (fnd ps μ.1 k) (nI j) (-1)).bind F = _
  rw [e_bI hr hn _ h]
  unfold wA
  rw [if_neg (nI_in hj hN), nI_clamp (by omega), sA_p]
  rfl
theorem i_475 (hr : r < μ.1) (N : Nat) (s : RS) (f : Nat → Int32) : ∀ (n j : Nat), 4096 < j + n → j ≤ 4096 → L_X12_init_475 N U S n (some r) (nI j) (EM μ r (pcs U S) (sA s 25 (fil f j (-1)))) = some ((), EM μ r (pcs U S) (sA s 25 (fil f 4096 (-1)))) := by
  intro n
  induction n with
  | zero => intro j h1 h2; omega
  | succ n ih =>
    intro j h1 h2
    show H_X12_init_475 N U S (L_X12_init_475 N U S n) (some r) (nI j) _ = _
    unfold H_X12_init_475
    by_cases hj : 4096 ≤ j
    · rw [if_pos (show (4096 : Int32) ≤ nI j from nI_le (a := 4096) hj (by omega))]
      have : j = 4096 := by omega
      subst this
      rfl
    · rw [if_neg (show ¬ (4096 : Int32) ≤ nI j from nI_ge (b := 4096) (by omega) (by decide)), e_fil hr (pcs_nd U S) s (lk_25 U S) (by decide) rfl f (by omega) (by decide), nI_1]
      exact ih (j + 1) (by omega) (by omega)
theorem i_451 (hr : r < μ.1) {N : Nat} (hN : 4096 < N) (s : RS) (hU : U < 1000) (f g : Nat → Int32) (h25 : s.2.1 25 = g) : ∀ (n j : Nat), U < j + n → j ≤ U → L_X12_init_451 N U S n (some r) (nI U) (nI j) (EM μ r (pcs U S) (sA s 41 (fil f j (-1)))) = some ((), EM μ r (pcs U S) (sA (sA s 41 (fil f U (-1))) 25 (fil g 4096 (-1)))) := by
  intro n
  induction n with
  | zero => intro j h1 h2; omega
  | succ n ih =>
    intro j h1 h2
    show H_X12_init_451 N U S (L_X12_init_451 N U S n) (some r) (nI U) (nI j) _ = _
    unfold H_X12_init_451
    by_cases hj : U ≤ j
    · rw [if_pos (nI_le hj (by omega))]
      have : j = U := by omega
      subst this
      have := i_475 (U := j) (S := S) hr N (sA s 41 (fil f j (-1))) g N 0 (by omega) (by omega)
      rw [fil_0, ← sA_id _ 25 (show (sA s 41 (fil f j (-1))).2.1 25 = g by unfold sA; dsimp only; rw [up1_n _ _ (by decide)]; exact h25)] at this
      exact this
    · rw [if_neg (nI_ge (by omega) (by omega)), e_fil hr (pcs_nd U S) s (lk_41 U S) (by decide) rfl f (by omega) (by omega), nI_1]
      exact ih (j + 1) (by omega) (by omega)
theorem take_ap {α : Type} {l : List α} {i : Nat} {p : α} (h : l[i]? = some p) : l.take (i + 1) = l.take i ++ [p] := by
  rw [List.take_succ, h]
  rfl
theorem st_na {β : Type} (hr : r < μ.1) {i k t n : Nat} {s : RS} (hp : (pcs U S)[i]? = some (k, t, n, none)) (hk : k < 79) (hi : isI k = false) (hf : fnd ((pcs U S).take i) μ.1 k = none) (hs : s.2.1 k = fun _ => 0) {F : Mem → Option β} {R : Option β} (h : F (EM μ r ((pcs U S).take (i + 1)) s) = R) : ((some (mnaI (EM μ r ((pcs U S).take i) s) t n)).bind fun m => (mpR m (some r) 12 k (some (EM μ r ((pcs U S).take i) s).1)).bind F) = R := by
  show (mpR _ _ _ _ _).bind F = R
  rw [e_na hr s hk hi hf hs, ← take_ap hp]
  exact h
theorem st_nq {β : Type} (hr : r < μ.1) {i k n m : Nat} {s : RS} (hp : (pcs U S)[i]? = some (k, 3, n, some m)) (hk : k < 79) (hi : isI k = false) (hf : fnd ((pcs U S).take i) μ.1 k = none) (hs : s.2.2 k = fun _ _ => 0) {F : Mem → Option β} {R : Option β} (h : F (EM μ r ((pcs U S).take (i + 1)) s) = R) : ((some (mmna (EM μ r ((pcs U S).take i) s) n m)).bind fun m => (mpR m (some r) 12 k (some (EM μ r ((pcs U S).take i) s).1)).bind F) = R := by
  show (mpR _ _ _ _ _).bind F = R
  rw [e_nq hr s hk hi hf hs, ← take_ap hp]
  exact h
theorem ig {β : Type} {c : Prop} [Decidable c] {A B R : β} (h : ¬ c) (e : B = R) : (if c then A else B) = R := by rw [if_neg h]; exact e
theorem g_ok {U : Nat} (h : U < 1000) : ¬ nI U < 0 ∧ (nI U).toNatClampNeg = U := by
  have := nI_in (c := U) (N := U + 1) (by omega) (by omega)
  exact ⟨fun z => this (Or.inl z), nI_clamp (by omega)⟩
/-- the numbers that the reference starts with -/
def rI0 (a1 a2 a3 a4 : Int32) : Nat → Int32 := up1 (up1 (up1 (up1 (up1 (up1 (fun _ => 0) 8 (-1)) 64 (-1)) 31 (nr a1 6)) 32 (nr a2 4)) 33 (nr a3 64)) 34 (nr a4 64)
def rs0 (U S : Nat) (a1 a2 a3 a4 : Int32) : RS := sA (sA (sA (rI0 a1 a2 a3 a4, fun _ _ => 0, fun _ _ _ => 0) 38 (fil (fun _ => 0) S (-1))) 41 (fil (fun _ => 0) U (-1))) 25 (fil (fun _ => 0) 4096 (-1))
set_option maxRecDepth 10000 in
theorem i_244 (hr : r < μ.1) {N : Nat} (hN : 4096 < N) (hU : U < 1000) (hS : S < 1000) (s : RS) (h32 : s.1 32 = nI S) (hz : s.2 = (fun _ _ => 0, fun _ _ _ => 0)) : ∀ (n j : Nat), S < j + n → j ≤ S → L_X12_init_244 N U S n (some r) (nI U) (nI j) (EM μ r ((pcs U S).take 18) (sA s 38 (fil (fun _ => 0) j (-1)))) = some ((), EM μ r (pcs U S) (sA (sA (sA s 38 (fil (fun _ => 0) S (-1))) 41 (fil (fun _ => 0) U (-1))) 25 (fil (fun _ => 0) 4096 (-1)))) := by
  intro n
  have GU := g_ok hU
  induction n with
  | zero => intro j h1 h2; omega
  | succ n ih =>
    intro j h1 h2
    show H_X12_init_244 N U S (L_X12_init_244 N U S n) (some r) (nI U) (nI j) _ = _
    unfold H_X12_init_244
    refine bnd (e_fI hr _ (by decide) rfl) ?_
    rw [show (sA s 38 (fil (fun _ => 0) j (-1))).1 32 = nI S from h32]
    by_cases hj : S ≤ j
    · rw [if_pos (nI_le hj (by omega))]
      have : j = S := by omega
      subst this
      generalize hs2 : sA s 38 (fil (fun _ => 0) j (-1)) = s2
      have hA : ∀ k, k ≠ 38 → s2.2.1 k = fun _ => 0 := by
        intro k hk
        rw [← hs2]
        unfold sA
        dsimp only
        rw [up1_n _ _ hk, hz]
      have hG : ∀ k, s2.2.2 k = fun _ _ => 0 := by
        intro k
        rw [← hs2]
        unfold sA
        dsimp only
        rw [hz]
      rw [if_neg (not_not_intro GU)]
      refine st_na (i := 18) (k := 41) hr rfl (by decide) rfl rfl (hA _ (by decide)) ?_
      rw [if_neg (not_not_intro GU)]
      refine st_na (i := 19) (k := 42) hr rfl (by decide) rfl rfl (hA _ (by decide)) ?_
      rw [if_neg (not_not_intro GU)]
      refine st_na (i := 20) (k := 43) hr rfl (by decide) rfl rfl (hA _ (by decide)) ?_
      rw [if_neg (not_not_intro GU)]
      refine st_na (i := 21) (k := 44) hr rfl (by decide) rfl rfl (hA _ (by decide)) ?_
      rw [if_neg (not_not_intro GU)]
      refine st_na (i := 22) (k := 45) hr rfl (by decide) rfl rfl (hA _ (by decide)) ?_
      rw [if_neg (not_not_intro GU)]
      refine st_na (i := 23) (k := 46) hr rfl (by decide) rfl rfl (hA _ (by decide)) ?_
      rw [if_neg (not_not_intro GU)]
      refine st_na (i := 24) (k := 47) hr rfl (by decide) rfl rfl (hA _ (by decide)) ?_
      rw [if_neg (not_not_intro GU)]
      refine st_na (i := 25) (k := 48) hr rfl (by decide) rfl rfl (hA _ (by decide)) ?_
      rw [if_neg (not_not_intro GU)]
      refine st_nq (i := 26) (k := 49) hr rfl (by decide) rfl rfl (hG _) ?_
      rw [if_neg (not_not_intro GU)]
      refine st_na (i := 27) (k := 50) hr rfl (by decide) rfl rfl (hA _ (by decide)) ?_
      rw [if_neg (not_not_intro GU)]
      refine st_na (i := 28) (k := 51) hr rfl (by decide) rfl rfl (hA _ (by decide)) ?_
      rw [if_neg (not_not_intro GU)]
      refine st_nq (i := 29) (k := 52) hr rfl (by decide) rfl rfl (hG _) ?_
      rw [if_neg (not_not_intro GU)]
      refine st_na (i := 30) (k := 53) hr rfl (by decide) rfl rfl (hA _ (by decide)) ?_
      rw [if_neg (not_not_intro GU)]
      refine st_nq (i := 31) (k := 54) hr rfl (by decide) rfl rfl (hG _) ?_
      rw [if_neg (not_not_intro GU)]
      refine st_na (i := 32) (k := 55) hr rfl (by decide) rfl rfl (hA _ (by decide)) ?_
      rw [if_neg (not_not_intro GU)]
      refine st_na (i := 33) (k := 56) hr rfl (by decide) rfl rfl (hA _ (by decide)) ?_
      rw [if_neg (not_not_intro GU)]
      refine st_na (i := 34) (k := 57) hr rfl (by decide) rfl rfl (hA _ (by decide)) ?_
      rw [if_neg (not_not_intro GU)]
      refine st_na (i := 35) (k := 58) hr rfl (by decide) rfl rfl (hA _ (by decide)) ?_
      rw [if_neg (not_not_intro GU)]
      refine st_na (i := 36) (k := 59) hr rfl (by decide) rfl rfl (hA _ (by decide)) ?_
      rw [if_neg (not_not_intro GU)]
      refine st_na (i := 37) (k := 60) hr rfl (by decide) rfl rfl (hA _ (by decide)) ?_
      rw [if_neg (not_not_intro GU)]
      refine st_na (i := 38) (k := 61) hr rfl (by decide) rfl rfl (hA _ (by decide)) ?_
      show L_X12_init_451 N U j N (some r) (nI U) 0 (EM μ r (pcs U j) s2) = _
      have := i_451 (U := U) (S := j) hr hN s2 hU (fun _ => 0) (fun _ => 0) (hA 25 (by decide)) N 0 (by omega) (by omega)
      rw [fil_0, ← sA_id _ 41 (hA 41 (by decide))] at this
      exact this
    · rw [if_neg (nI_ge (by omega) (by omega)), e_fil hr (List.Sublist.nodup ((List.take_sublist 18 (pcs U S)).map _) (pcs_nd U S)) s (show lk ((pcs U S).take 18) 38 = some (0, S, none) from rfl) (by decide) rfl (fun _ => 0) (by omega) (by omega), nI_1]
      exact ih (j + 1) (by omega) (by omega)
set_option maxRecDepth 10000 in
theorem k_X12 {N : Nat} (hN : 4096 < N) (hU : U < 1000) (hS : S < 1000) (hr : r < μ.1) (hc : μ.2 r = .inr (12, df_X12)) {a1 a2 a3 a4 : Int32} (h1 : nr a1 6 = nI U) (h2 : nr a2 4 = nI S) : f_X12_init N U S (some r) a1 a2 a3 a4 μ = some ((), EM μ r (pcs U S) (rs0 U S a1 a2 a3 a4)) := by
  have GU := g_ok hU
  have GS := g_ok hS
  have hz : μ = EM μ r ((pcs U S).take 0) (fun _ => 0, fun _ _ => 0, fun _ _ _ => 0) := ext_0 hc
  conv => lhs; rw [hz]
  unfold f_X12_init
  have GS' : ¬ nr a2 4 < 0 ∧ (nr a2 4).toNatClampNeg = S := by rw [h2]; exact GS
  have GU' : ¬ nr a1 6 < 0 ∧ (nr a1 6).toNatClampNeg = U := by rw [h1]; exact GU
  refine bnd (e_ck hr _) ?_
  refine st_na (i := 0) (k := 0) hr rfl (by decide) rfl rfl rfl ?_
  refine st_na (i := 1) (k := 2) hr rfl (by decide) rfl rfl rfl ?_
  refine bnd (e_pI hr _ (by decide) rfl _) ?_
  refine st_na (i := 2) (k := 17) hr rfl (by decide) rfl rfl rfl ?_
  refine st_na (i := 3) (k := 18) hr rfl (by decide) rfl rfl rfl ?_
  refine st_na (i := 4) (k := 19) hr rfl (by decide) rfl rfl rfl ?_
  refine st_na (i := 5) (k := 20) hr rfl (by decide) rfl rfl rfl ?_
  refine st_na (i := 6) (k := 22) hr rfl (by decide) rfl rfl rfl ?_
  refine st_na (i := 7) (k := 23) hr rfl (by decide) rfl rfl rfl ?_
  refine st_na (i := 8) (k := 24) hr rfl (by decide) rfl rfl rfl ?_
  refine st_na (i := 9) (k := 25) hr rfl (by decide) rfl rfl rfl ?_
  refine st_na (i := 10) (k := 26) hr rfl (by decide) rfl rfl rfl ?_
  refine st_na (i := 11) (k := 62) hr rfl (by decide) rfl rfl rfl ?_
  refine bnd (e_pI hr _ (by decide) rfl _) ?_
  refine bnd (nr_X12 _ _ _ _) ?_
  dsimp only
  refine bnd (e_pI hr _ (by decide) rfl _) ?_
  refine bnd (nr_X12 _ _ _ _) ?_
  dsimp only
  refine bnd (e_pI hr _ (by decide) rfl _) ?_
  refine bnd (nr_X12 _ _ _ _) ?_
  dsimp only
  refine bnd (e_pI hr _ (by decide) rfl _) ?_
  refine bnd (nr_X12 _ _ _ _) ?_
  dsimp only
  refine bnd (e_pI hr _ (by decide) rfl _) ?_
  refine bnd (e_fI hr _ (by decide) rfl) ?_
  refine bnd (e_fI hr _ (by decide) rfl) ?_
  refine ig (not_not_intro GS') ?_
  refine st_nq (i := 12) (k := 35) hr rfl (by decide) rfl rfl rfl ?_
  refine ig (not_not_intro GU') ?_
  refine st_nq (i := 13) (k := 36) hr rfl (by decide) rfl rfl rfl ?_
  refine ig (not_not_intro GU') ?_
  refine st_nq (i := 14) (k := 37) hr rfl (by decide) rfl rfl rfl ?_
  refine bnd (e_fI hr _ (by decide) rfl) ?_
  refine ig (not_not_intro GS') ?_
  refine st_na (i := 15) (k := 38) hr rfl (by decide) rfl rfl rfl ?_
  refine bnd (e_fI hr _ (by decide) rfl) ?_
  refine ig (not_not_intro GS') ?_
  refine st_na (i := 16) (k := 39) hr rfl (by decide) rfl rfl rfl ?_
  refine bnd (e_fI hr _ (by decide) rfl) ?_
  refine ig (not_not_intro GS') ?_
  refine st_na (i := 17) (k := 40) hr rfl (by decide) rfl rfl rfl ?_
  have := i_244 (U := U) (S := S) hr hN hU hS (rI0 a1 a2 a3 a4, fun _ _ => 0, fun _ _ _ => 0) h2 rfl N 0 (by omega) (by omega)
  rw [fil_0, ← sA_id _ 38 rfl] at this
  rw [show (pI (pI (pI (pI (pI (pI (fun _ => 0, fun _ _ => 0, fun _ _ _ => 0) 8 (-1)) 64 (-1)) 31 (nr a1 6)) 32 (nr a2 4)) 33 (nr a3 64)) 34 (nr a4 64)).1 31 = nI U from h1]
  exact this
end
