/-! LAYER 3, the assemblers side by side: words that are laid one behind the other -/
def LQ (t : CS) (i p : Nat) (w : Nat → Int32) (s : RS) (k : Nat) (sk : RS) : Prop := sk.1 = up1 s.1 11 (nI (p + k)) ∧ sk.2.2 = s.2.2 ∧ (∀ j, j ≠ 22 → j ≠ 23 → sk.2.1 j = s.2.1 j) ∧ ((s.1 9 = 0 ∧ sk.2 = s.2) ∨ (¬ s.1 9 = 0 ∧ RSh ((lyS t i p w k).2.1 7 i 0) sk))
section
variable {U S N n c m T i p : Nat} {b : Nat → Int32} {P ν : Nat → Nat} {t : CS} {s : RS} {w : Nat → Int32}
theorem lies_0 {x : Nat} (h11 : s.1 11 = nI x) (hx : x < 4096) (h9 : s.1 9 = 0) (v : Int32) : g_lies U S N v s = some ((), pI s 11 (nI (x + 1))) := by
  unfold g_lies g_lies_75
  rw [h11, if_pos ((leL (k := 4095) (c := 4095) rfl (by omega) (by decide)).mpr (by omega)), if_pos h9, nI_1]
  rfl
theorem lies_1 {x : Nat} (h11 : s.1 11 = nI x) (hx : x < 4096) (h9 : ¬ s.1 9 = 0) (h24 : s.2.1 24 x = 0) (v : Int32) : g_lies U S N v s = some ((), pI (pA (pA s 23 x 1) 22 x (v &&& 4095)) 11 (nI (x + 1))) := by
  unfold g_lies g_lies_75
  rw [h11, if_pos ((leL (k := 4095) (c := 4095) rfl (by omega) (by decide)).mpr (by omega)), if_neg h9, rA_y (by decide) hx, Option.bind_some, if_pos h24, wZ_y (by decide) hx _ _ (Or.inr rfl), Option.bind_some]
  rw [show (pA s 23 x 1).1 11 = nI x from h11, wA_y (by decide) hx, Option.bind_some]
  rw [show (pA (pA s 23 x 1) 22 x (v &&& 4095)).1 11 = nI x from h11, nI_1]
  rfl
theorem lies_x {x : Nat} (hf : FZ s) (h11 : s.1 11 = nI x) (hx : x ≤ 4096) (hbad : x = 4096 ∨ (¬ s.1 9 = 0 ∧ ¬ s.2.1 24 x = 0)) (v : Int32) : ∃ s2, g_lies U S N v s = some ((), s2) ∧ SL s s2 ∧ FZ s2 ∧ ¬ s2.1 5 = 0 := by
  unfold g_lies
  rw [h11]
  by_cases c : x = 4096
  · rw [if_neg (fun z => by have := (leL (k := 4095) (c := 4095) rfl (by omega) (by decide)).mp z; omega), g_fails_eq hf, Option.bind_some]
    exact ⟨_, rfl, flt_SL _ _, flt_FZ hf (by decide), flt_ne (by decide)⟩
  · obtain ⟨h9, h24⟩ := hbad.resolve_left c
    rw [if_pos ((leL (k := 4095) (c := 4095) rfl (by omega) (by decide)).mpr (by omega)), if_neg h9, rA_y (by decide) (by omega), Option.bind_some, if_neg h24, g_fails_eq hf, Option.bind_some]
    exact ⟨_, rfl, flt_SL _ _, flt_FZ hf (by decide), flt_ne (by decide)⟩
theorem LQ_0 (h11 : s.1 11 = nI p) (hR : RSh (t.2.1 7 i 0) s) : LQ t i p w s 0 s := by
  refine ⟨?_, rfl, fun _ _ _ => rfl, ?_⟩
  · funext j
    by_cases e : j = 11
    · rw [e, up1_s, h11]; rfl
    · rw [up1_n _ _ e]
  · by_cases c : s.1 9 = 0
    · exact Or.inl ⟨c, rfl⟩
    · exact Or.inr ⟨c, hR⟩
theorem LQ_s {k : Nat} {sk : RS} (h : LQ t i p w s k sk) (hf : FZ s) (hp : p + k ≤ 4096) {v : Int32} (hv : v &&& 4095 = w k) : (p + k < 4096 ∧ (s.1 9 = 0 ∨ s.2.1 24 (p + k) = 0) → ∃ s2, g_lies U S N v sk = some ((), s2) ∧ LQ t i p w s (k + 1) s2) ∧ (¬ (p + k < 4096 ∧ (s.1 9 = 0 ∨ s.2.1 24 (p + k) = 0)) → ∃ s2, g_lies U S N v sk = some ((), s2) ∧ SL sk s2 ∧ FZ s2 ∧ ¬ s2.1 5 = 0) := by
  obtain ⟨h1, h2, h3, h4⟩ := h
  have e11 : sk.1 11 = nI (p + k) := by rw [h1, up1_s]
  have e9 : sk.1 9 = s.1 9 := by rw [h1]; rfl
  have e5 : FZ sk := by unfold FZ; rw [h1]; exact hf
  have e24 : sk.2.1 24 = s.2.1 24 := h3 24 (by decide) (by decide)
  constructor
  · rintro ⟨c1, c2⟩
    by_cases c9 : s.1 9 = 0
    · refine ⟨_, lies_0 e11 c1 (e9.trans c9) v, ?_⟩
      obtain ⟨-, hs⟩ := h4.resolve_right (fun z => z.1 c9)
      refine ⟨?_, h2, h3, Or.inl ⟨c9, hs⟩⟩
      show up1 sk.1 11 _ = _
      rw [h1, up1_u]
      rfl
    · obtain ⟨-, hR⟩ := h4.resolve_left (fun z => c9 z.1)
      have c24 : sk.2.1 24 (p + k) = 0 := by rw [e24]; exact c2.resolve_left c9
      refine ⟨_, lies_1 e11 c1 (by rw [e9]; exact c9) c24 v, ?_⟩
      refine ⟨?_, h2, fun j j1 j2 => ?_, Or.inr ⟨c9, ?_⟩⟩
      · show up1 sk.1 11 _ = _
        rw [h1, up1_u]
        rfl
      · show up1 (up1 sk.2.1 23 _) 22 _ j = _
        rw [up1_n _ _ j1, up1_n _ _ j2]
        exact h3 j j1 j2
      · have hw : W12 (v &&& 4095) := w12_and v
        obtain ⟨x, hx, ex⟩ := hw
        have := RSh_t hR c1 hx c24
        rw [show lyS t i p w (k + 1) = lyT (lyS t i p w k) i (p + k) (w k) from rfl, ly_r, ← hv, ex]
        exact RSh_s this ⟨rfl, rfl, rfl, rfl⟩
  · intro hno
    refine lies_x e5 e11 hp ?_ v
    by_cases c1 : p + k = 4096
    · exact Or.inl c1
    · refine Or.inr ⟨fun z => hno ⟨by omega, Or.inl (by rw [← e9]; exact z)⟩, fun z => hno ⟨by omega, Or.inr (by rw [← e24]; exact z)⟩⟩
theorem LQ_SF {k : Nat} {sk : RS} (h : LQ t i p w s k sk) : SF s sk := by
  obtain ⟨h1, h2, h3, -⟩ := h
  exact ⟨fun j hj => by rw [h1, up1_n _ _ (by omega)], fun j hj => h3 j (by omega) (by omega), h2⟩
/-- laid words leave the two alike -/
theorem JS_LQ (h : JS b n P c m T ν i t s) (h10 : t.1 0 0 10 = nI p) {k : Nat} {sk : RS} (hk : p + k ≤ 4096) (hw : ∀ j, W12 (w j)) (hs : LQ t i p w s k sk) (hx : ∀ x : Int32, x = nI (p + k) → True) : JS b n P c m T ν i (qI (if t.1 0 0 6 = 0 then t else lyS t i p w k) 0 0 10 (nI (p + k))) sk := by
  obtain ⟨hE, h2, h3, h4, h5, h29, h28, h7, hf, h8, h6, h12⟩ := h
  obtain ⟨q1, q2, q3, q4, q5, q6, q7, q8, q9, q10⟩ := hE
  obtain ⟨s1, s2, s3, s4⟩ := hs
  have e : ∀ j, j ≠ 11 → sk.1 j = s.1 j := fun j hj => by rw [s1, up1_n _ _ hj]
  have hG : GA t (lyS t i p w k) := GA_lyS ⟨q10, AF_refl t⟩ h3 p w k
  have hcn : ∀ k2, p + k2 ≤ 4096 → (lyS t i p w k2).1 7 i 1 = nI (cn ((lyS t i p w k2).2.1 7 i 0) 4096) := by
    intro k2
    induction k2 with
    | zero => intro _; exact h4
    | succ k2 ih =>
      intro hk2
      refine ly_c (t := lyS t i p w k2) (by omega) ?_ (ih (by omega))
      obtain ⟨y, hy, ey⟩ := hw k2
      rw [ey]
      exact nI_ne (by omega)
  have base : ∀ t' : CS, SR t t' → CA t' → t'.1 7 i 1 = nI (cn (t'.2.1 7 i 0) 4096) → RSh (t'.2.1 7 i 0) sk → JS b n P c m T ν i (qI t' 0 0 10 (nI (p + k))) sk := by
    intro t' sr hca hcc hrr
    have hE' : EX b n P c m T ν t' s := EX_SR ⟨q1, q2, q3, q4, q5, q6, q7, q8, q9, q10⟩ sr hca
    obtain ⟨a1, a2, a3, a4, a5, a6, a7, a8, a9, a10⟩ := hE'
    obtain ⟨-, -, -, -, -, -, g7, g8, g9, g10, g11⟩ := sr
    refine ⟨⟨a1, a2, a3, a4, RN_s a5 (e 21 (by decide)) (s3 17 (by decide) (by decide)) (s3 18 (by decide) (by decide)) (s3 19 (by decide) (by decide)) (s3 20 (by decide) (by decide)), ⟨(e 3 (by decide)).trans a6.1, by rw [s3 2 (by decide) (by decide)]; exact a6.2⟩, (e 10 (by decide)).trans a7, ?_, (e 9 (by decide)).trans a9, (GA_0 ⟨a10, AF_refl t'⟩ 10 _).1⟩, h2, ?_, hcc, ⟨p + k, hk, rfl⟩, (e 29 (by decide)).trans h29, (e 28 (by decide)).trans h28, ?_, ?_, ?_, ?_, hrr⟩
    · rw [s1, up1_s]; rfl
    · show t'.2.2.2.1 0 0 3 = some i; rw [g11]; exact h3
    · show t'.1 0 0 7 = 0; rw [g8]; exact h7
    · unfold FZ; rw [e 5 (by decide)]; exact hf
    · show t'.1 0 0 8 = 0 ∨ t'.1 0 0 8 = 1; rw [g9]; exact h8
    · show t'.1 0 0 6 = 0 ∨ t'.1 0 0 6 = 1; rw [g7]; exact h6
  by_cases c6 : t.1 0 0 6 = 0
  · rw [if_pos c6]
    obtain ⟨-, hs2⟩ := s4.resolve_right (fun z => z.1 (q9.trans c6))
    exact base t (SR_0 t) q10 h4 (RSh_s h12 ⟨by rw [hs2], by rw [hs2], by rw [hs2], by rw [hs2]⟩)
  · rw [if_neg c6]
    obtain ⟨-, hR⟩ := s4.resolve_left (fun z => c6 (q9.symm.trans z.1))
    exact base _ (SR_lyS t i p w k) hG.1 (hcn k hk) hR
/-- may the words be laid: as the class asks, and as the reference finds -/
theorem ml_iff (h : JS b n P c m T ν i t s) {j : Nat} (hj : j < 4096) : (t.1 0 0 6 = 0 ∨ t.2.1 7 i 0 j < 4096) ↔ (s.1 9 = 0 ∨ s.2.1 24 j = 0) := by
  obtain ⟨⟨-, -, -, -, -, -, -, -, q9, -⟩, -, -, -, -, -, -, -, -, -, -, h12⟩ := h
  rw [q9]
  rcases rsh_l h12 hj with ⟨k1, k2, -⟩ | ⟨k1, k2, -⟩
  · rw [k1]
    exact ⟨fun z => z.elim Or.inl (fun y => absurd y k2), fun z => z.elim Or.inl (fun y => absurd y (by decide))⟩
  · exact ⟨fun z => z.elim Or.inl (fun _ => Or.inr k1), fun z => z.elim Or.inl (fun _ => Or.inr k2)⟩
theorem ml_all (h : JS b n P c m T ν i t s) {k : Nat} : mlOK t i p k ↔ (p + k ≤ 4096 ∧ ∀ y, y < k → p + y < 4096 ∧ (s.1 9 = 0 ∨ s.2.1 24 (p + y) = 0)) := by
  unfold mlOK
  constructor
  · rintro ⟨h1, h2⟩
    refine ⟨h1, fun y hy => ⟨by omega, (ml_iff h (by omega)).mp ?_⟩⟩
    rcases h2 with k | k
    · exact Or.inl k
    · exact Or.inr (k _ (by omega) (by omega))
  · rintro ⟨h1, h2⟩
    refine ⟨h1, ?_⟩
    by_cases c6 : t.1 0 0 6 = 0
    · exact Or.inl c6
    · refine Or.inr (fun j j1 j2 => ?_)
      have := (h2 (j - p) (by omega)).2
      rw [show p + (j - p) = j by omega] at this
      exact ((ml_iff h (by omega)).mpr this).resolve_left c6
/-- ZBLOCK -/
theorem j_zeros (hN : 5000 < N) (h : JS b n P c m T ν i t s) {a : Nat} (hl : LA b n P c m t s a) (h4 : t.1 0 0 4 = 0) (h5 : s.1 5 = 0) (h9 : t.1 0 0 9 = nI a) (hk : kA t (nI a) = 1) : ∃ t2 s2, u_X0_passZeros U S N t = some ((), t2) ∧ g_told U S N 3 s = some ((), s2) ∧ OUT b n P c m i s t2 s2 := by
  obtain ⟨hE, h2, h3, h4', hpl, h6, h7, h8, hf, hd8, hd6, hsh⟩ := id h
  obtain ⟨-, -, ⟨-, -, ec, -, hc, -⟩, -, -, -, -, h11, hs9, hCA⟩ := id hE
  obtain ⟨e1, -, -, -⟩ := LA_k hE hl
  obtain ⟨s1, y, s2, v1, v2, tk, v4, v5, v6, v7⟩ := ta_eq (U := U) (S := S) hN hE hf h5 h6 hpl hl (Or.inl (by rw [← e1]; exact hk))
  obtain ⟨p, hp, ep⟩ := id hpl
  obtain ⟨c1, c2⟩ := c_zeros (U := U) (S := S) hN hCA ec hc h4 h9 hl.1 h3 h2 hp ep
  unfold g_told
  rw [if_pos (show ¬ (3 : Int32) = 4 by decide), v1, Option.bind_some]
  dsimp only
  rw [if_neg (show ¬ (3 : Int32) = 1 by decide), if_pos (show ¬ (3 : Int32) = 2 by decide), if_pos (show ¬ (3 : Int32) = 0 by decide), v2, Option.bind_some]
  dsimp only
  -- a fault: no word is laid
  have f177 : ∀ (f : Nat) (x y : Int32) (sx : RS), ¬ sx.1 5 = 0 → l_told_177 U S N (f + 1) x y sx = some ((), sx) := by
    intro f x y sx hx
    show h_told_177 U S N (l_told_177 U S N f) x y sx = _
    unfold h_told_177 g_told_201
    by_cases q : x ≤ y
    · rw [if_pos q]
    · rw [if_neg q, if_pos hx]
  obtain ⟨N', hN'⟩ : ∃ k, N = k + 1 := ⟨N - 1, by omega⟩
  cases er : rv t 1 (a + 1) with
  | none =>
    have hfb := v6 er
    obtain ⟨t2, q1, q2⟩ := c2 (Or.inl er)
    refine ⟨t2, s2, q1, ?_, v5, SF_SL v4, Or.inl ⟨q2, hfb⟩⟩
    have := f177 N' y 0 s2 hfb
    rw [← hN'] at this
    exact this
  | some pr =>
    obtain ⟨w1, w2⟩ := v7 pr er
    obtain ⟨v, a2⟩ := pr
    obtain ⟨⟨k, hk4, ek⟩, -⟩ := rv_w hCA er
    have ek' : v = nI k := ek
    subst ek'
    have w1' : y = nI k := w1
    rw [w1']
    have hJ2 := JS_SL h v4 v5
    have srq : SR t (qI t 0 0 9 (nI a2)) := SR_9 t _
    rcases w2 with ⟨k1, k2⟩ | ⟨k1, k2, k3⟩
    · have e177 := f177 N' (nI k) 0 s2 k2
      rw [← hN'] at e177
      rw [e177]
      by_cases ok : mlOK t i p k
      · refine ⟨_, s2, c1 k a2 er hk4 ok, rfl, v5, SF_SL v4, Or.inr (Or.inl ⟨?_, k2, ?_⟩)⟩
        · by_cases c6 : t.1 0 0 6 = 0
          · rw [if_pos c6]; exact h4
          · rw [if_neg c6]
            show (lyS (qI t 0 0 9 (nI a2)) i p (fun _ => 0) k).1 0 0 4 = 0
            rw [(lyS_f p (fun _ => 0) k).1 0 (by decide)]
            exact h4
        · by_cases c6 : t.1 0 0 6 = 0
          · rw [if_pos c6]; exact k1
          · rw [if_neg c6]
            show kA (lyS (qI t 0 0 9 (nI a2)) i p (fun _ => 0) k) ((lyS (qI t 0 0 9 (nI a2)) i p (fun _ => 0) k).1 0 0 9) = 6
            rw [(lyS_f p (fun _ => 0) k).1 0 (by decide), (SR_k (SR_lyS (qI t 0 0 9 (nI a2)) i p (fun _ => 0) k)).1]
            exact k1
      · obtain ⟨t2, q1, q2⟩ := c2 (Or.inr ⟨k, a2, er, hk4, ok⟩)
        exact ⟨t2, s2, q1, rfl, v5, SF_SL v4, Or.inl ⟨q2, k2⟩⟩
    · have hJq := JS_9 hJ2 (nI a2)
      have loop : ∀ (f x : Nat) (sx : RS), x ≤ k → k + 1 < x + f → LQ (qI t 0 0 9 (nI a2)) i p (fun _ => 0) s2 x sx → (∀ y, y < x → p + y < 4096 ∧ (s2.1 9 = 0 ∨ s2.2.1 24 (p + y) = 0)) → (mlOK t i p k → ∃ s3, l_told_177 U S N f (nI k) (nI x) sx = some ((), s3) ∧ LQ (qI t 0 0 9 (nI a2)) i p (fun _ => 0) s2 k s3) ∧ (¬ mlOK t i p k → ∃ s3, l_told_177 U S N f (nI k) (nI x) sx = some ((), s3) ∧ SF s2 s3 ∧ FZ s3 ∧ ¬ s3.1 5 = 0) := by
        intro f
        induction f with
        | zero => intro x sx q1 q2; omega
        | succ f ih =>
          intro x sx q1 q2 q3 q4
          have sx5 : sx.1 5 = 0 := by rw [q3.1]; exact k2
          have st1 : l_told_177 U S N (f + 1) (nI k) (nI x) sx = h_told_177 U S N (l_told_177 U S N f) (nI k) (nI x) sx := rfl
          rw [st1]
          unfold h_told_177 g_told_201
          by_cases cx : x = k
          · rw [if_pos ((leI (by omega) (by omega)).mpr (by omega))]
            refine ⟨fun _ => ⟨sx, rfl, by rw [← cx]; exact q3⟩, fun nok => absurd ((ml_all hJ2).mpr ⟨?_, fun y hy => q4 y (by omega)⟩) nok⟩
            by_cases k0 : k = 0
            · omega
            · have := (q4 (k - 1) (by omega)).1; omega
          · rw [if_neg (fun z => by have := (leI (by omega) (by omega)).mp z; omega), if_neg (not_not_intro sx5)]
            have hpx : p + x ≤ 4096 := by
              by_cases x0 : x = 0
              · omega
              · have := (q4 (x - 1) (by omega)).1; omega
            obtain ⟨l1, l2⟩ := LQ_s (U := U) (S := S) (N := N) q3 v5 hpx (v := 0) rfl
            by_cases ok1 : p + x < 4096 ∧ (s2.1 9 = 0 ∨ s2.2.1 24 (p + x) = 0)
            · obtain ⟨s3, r1, r2⟩ := l1 ok1
              rw [r1, Option.bind_some, nI_1]
              refine ih (x + 1) s3 (by omega) (by omega) r2 (fun y hy => ?_)
              by_cases e : y = x
              · rw [e]; exact ok1
              · exact q4 y (by omega)
            · obtain ⟨s3, r1, r2, r3, r4⟩ := l2 ok1
              rw [r1, Option.bind_some]
              obtain ⟨f, rfl⟩ : ∃ k, f = k + 1 := ⟨f - 1, by omega⟩
              dsimp only
              rw [f177 f _ _ s3 r4]
              refine ⟨fun ok => absurd (((ml_all hJ2).mp ok).2 x (by omega)) ok1, fun _ => ⟨s3, rfl, SF_t (LQ_SF q3) (SF_SL r2), r3, r4⟩⟩
      have hs11 : s2.1 11 = nI p := by rw [v4.1 11 (by decide), h11, ep]
      obtain ⟨l1, l2⟩ := loop N 0 s2 (by omega) (by omega) (LQ_0 hs11 hJ2.2.2.2.2.2.2.2.2.2.2.2) (fun y hy => absurd hy (Nat.not_lt_zero y))
      by_cases ok : mlOK t i p k
      · obtain ⟨s3, r1, r2⟩ := l1 ok
        have cc := c1 k a2 er hk4 ok
        have hpk : p + k ≤ 4096 := ok.1
        have hJf := JS_LQ hJq ep hpk (fun _ => w12_0) r2 (fun _ _ => trivial)
        refine ⟨_, s3, cc, r1, ?_, SF_t (SF_SL v4) (LQ_SF r2), Or.inr (Or.inr ⟨?_, ?_, a2, T, ν, ?_, hJf, ?_⟩)⟩
        · unfold FZ; rw [r2.1]; exact v5
        · by_cases c6 : t.1 0 0 6 = 0
          · rw [if_pos c6]; exact h4
          · rw [if_neg c6]
            show (lyS (qI t 0 0 9 (nI a2)) i p (fun _ => 0) k).1 0 0 4 = 0
            rw [(lyS_f p (fun _ => 0) k).1 0 (by decide)]
            exact h4
        · rw [r2.1]; exact k2
        · by_cases c6 : t.1 0 0 6 = 0
          · rw [if_pos c6]; rfl
          · rw [if_neg c6]
            show (lyS (qI t 0 0 9 (nI a2)) i p (fun _ => 0) k).1 0 0 9 = _
            rw [(lyS_f p (fun _ => 0) k).1 0 (by decide)]
            rfl
        · have hl3 : LA b n P c m t s3 a2 := LA_SL k3 (by rw [r2.1]; rfl) (by rw [r2.1]; rfl) (by rw [r2.1]; rfl) (by rw [r2.1]; rfl) (by rw [r2.1]; rfl)
          by_cases c6 : t.1 0 0 6 = 0
          · rw [if_pos c6]; exact hl3
          · rw [if_neg c6]
            show LA b n P c m (lyS (qI t 0 0 9 (nI a2)) i p (fun _ => 0) k) s3 a2
            exact LA_SR (t := qI t 0 0 9 (nI a2)) hl3 (SR_lyS _ i p (fun _ => 0) k)
      · obtain ⟨s3, r1, r2, r3, r4⟩ := l2 ok
        obtain ⟨t2, q1, q2⟩ := c2 (Or.inr ⟨k, a2, er, hk4, ok⟩)
        exact ⟨t2, s3, q1, r1, r3, SF_t (SF_SL v4) r2, Or.inl ⟨q2, r4⟩⟩
end
