/-! LAYER 3, the assemblers side by side: the sheet -/
def cn (X : Nat → Int32) : Nat → Nat
  | 0 => 0
  | k + 1 => cn X k + (if X k = -1 then 0 else 1)
theorem cn_o {X : Nat → Int32} {p : Nat} (x : Int32) : ∀ k, k ≤ p → cn (upd X p x) k = cn X k := by
  intro k
  induction k with
  | zero => intro _; rfl
  | succ k ih =>
    intro h
    show cn (upd X p x) k + (if upd X p x k = -1 then 0 else 1) = cn X k + (if X k = -1 then 0 else 1)
    rw [ih (by omega), upd_n _ _ (by omega)]
theorem cn_u {X : Nat → Int32} {p : Nat} {x : Int32} (hx : ¬ x = -1) : ∀ k, p < k → cn (upd X p x) k = cn X k + (if X p = -1 then 1 else 0) := by
  intro k
  induction k with
  | zero => intro h; omega
  | succ k ih =>
    intro h
    show cn (upd X p x) k + (if upd X p x k = -1 then 0 else 1) = cn X k + (if X k = -1 then 0 else 1) + _
    by_cases e : k = p
    · rw [e, upd_y, cn_o x p (Nat.le_refl _), if_neg hx]
      by_cases c : X p = -1
      · rw [if_pos c, if_pos c]
      · rw [if_neg c, if_neg c]
    · rw [ih (by omega), upd_n _ _ e]
      omega
theorem cn_le (X : Nat → Int32) : ∀ k, cn X k ≤ k := by
  intro k
  induction k with
  | zero => exact Nat.le_refl _
  | succ k ih =>
    show cn X k + (if X k = -1 then 0 else 1) ≤ k + 1
    split <;> omega
def lyT (t : CS) (i p : Nat) (x : Int32) : CS := if t.2.1 7 i 0 p = -1 then qA (qI t 7 i 1 (t.1 7 i 1 + 1)) 7 i 0 p x else qA t 7 i 0 p x
def RSh (X : Nat → Int32) (s : RS) : Prop := (∀ p, p < 4096 → (s.2.1 23 p = 0 ∨ s.2.1 23 p = 1) ∧ (s.2.1 24 p = 0 ∨ s.2.1 24 p = 1) ∧ (s.2.1 24 p = 1 → ∃ v, v < 4096 ∧ s.2.1 22 p = nI v ∧ X p = nI (4096 + v)) ∧ (s.2.1 24 p = 0 → s.2.1 23 p = 1 → W12 (s.2.1 22 p) ∧ X p = s.2.1 22 p) ∧ (s.2.1 24 p = 0 → s.2.1 23 p = 0 → X p = -1)) ∧ ∀ k, k < 32 → ∃ z, z ≤ 128 ∧ s.2.1 26 k = nI (128 * k + 128 - z) - 1 ∧ ∀ p, 128 * k ≤ p → p < 128 * k + 128 → (s.2.1 24 p = 1 ↔ 128 * k + 128 - z ≤ p)
theorem or_lit {v : Nat} (h : v < 4096) : (4096 : Int32) ||| nI v = nI (4096 + v) := by
  rw [show (4096 : Int32) = nI 4096 from rfl, or_nI _ _ (by decide) (by omega)]
  have := or12 (l := 1) h
  rw [show 1 * 2 ^ 12 = 4096 by decide] at this
  rw [this]
section
variable {U S N i : Nat} {t : CS} {s : RS} {X X0 : Nat → Int32}
theorem e_lay {p : Nat} (hp : p < 4096) (x : Int32) : u_X7_lay U S N i (nI p) x t = some ((), lyT t i p x) := by
  unfold u_X7_lay u_X7_lay_32 lyT
  rw [if_neg (nI_nn (by omega)), if_pos ((ltL (k := 4096) (c := 4096) rfl (by omega) (by decide)).mpr hp), rH_y (by decide) hp, Option.bind_some]
  by_cases c : t.2.1 7 i 0 p = -1
  · rw [if_neg (not_not_intro c), if_pos c, Option.bind_some, wH_y (by decide) hp]
    rfl
  · rw [if_pos c, if_neg c, wH_y (by decide) hp]
    rfl
theorem ly_r (p : Nat) (x : Int32) : (lyT t i p x).2.1 7 i 0 = upd (t.2.1 7 i 0) p x := by
  unfold lyT
  split
  · show up3 t.2.1 7 i 0 (upd (t.2.1 7 i 0) p x) 7 i 0 = _
    rw [up3_s]
  · show up3 t.2.1 7 i 0 (upd (t.2.1 7 i 0) p x) 7 i 0 = _
    rw [up3_s]
theorem ly_c {p : Nat} {x : Int32} (hp : p < 4096) (hx : ¬ x = -1) (h : t.1 7 i 1 = nI (cn (t.2.1 7 i 0) 4096)) : (lyT t i p x).1 7 i 1 = nI (cn ((lyT t i p x).2.1 7 i 0) 4096) := by
  rw [ly_r, cn_u hx 4096 hp]
  unfold lyT
  by_cases c : t.2.1 7 i 0 p = -1
  · rw [if_pos c, if_pos c]
    show up3 t.1 7 i 1 (t.1 7 i 1 + 1) 7 i 1 = _
    rw [up3_s, h, nI_1]
  · rw [if_neg c, if_neg c, Nat.add_zero]
    show t.1 7 i 1 = _
    rw [h]
/-- what a laid word leaves -/
theorem ly_f (p : Nat) (x : Int32) : (∀ k, k ≠ 7 → (lyT t i p x).1 k = t.1 k) ∧ (∀ k, k ≠ 7 → (lyT t i p x).2.1 k = t.2.1 k) ∧ (lyT t i p x).2.2 = t.2.2 := by
  unfold lyT
  split
  · refine ⟨fun k hk => ?_, fun k hk => ?_, rfl⟩
    · funext a c
      show up3 t.1 7 i 1 _ k a c = _
      rw [up3_n _ _ (fun e => hk e.1)]
    · funext a c
      show up3 t.2.1 7 i 0 _ k a c = _
      rw [up3_n _ _ (fun e => hk e.1)]
  · refine ⟨fun k hk => rfl, fun k hk => ?_, rfl⟩
    funext a c
    show up3 t.2.1 7 i 0 _ k a c = _
    rw [up3_n _ _ (fun e => hk e.1)]
theorem rsh_l (h : RSh X s) {p : Nat} (hp : p < 4096) : (s.2.1 24 p = 1 ∧ ¬ X p < 4096 ∧ (4096 : Int32) ≤ X p) ∨ (s.2.1 24 p = 0 ∧ X p < 4096 ∧ ¬ (4096 : Int32) ≤ X p) := by
  obtain ⟨h1, h2, h3, h4, h5⟩ := h.1 p hp
  rcases h2 with c | c
  · refine Or.inr ⟨c, ?_⟩
    rcases h1 with d | d
    · rw [h5 c d]; decide
    · obtain ⟨⟨v, hv, ev⟩, e⟩ := h4 c d
      rw [e, ev]
      refine ⟨(ltL (k := 4096) (c := 4096) rfl (by omega) (by decide)).mpr hv, fun z => ?_⟩
      have := (Lle (k := 4096) (c := 4096) rfl (by omega) (by decide)).mp z
      omega
  · refine Or.inl ⟨c, ?_⟩
    obtain ⟨v, hv, -, e⟩ := h3 c
    rw [e]
    refine ⟨fun z => ?_, (Lle (k := 4096) (c := 4096) rfl (by omega) (by decide)).mpr (by omega)⟩
    have := (ltL (k := 4096) (c := 4096) rfl (by omega) (by decide)).mp z
    omega
theorem RSh_s {s2 : RS} (h : RSh X s) (e : s2.2.1 22 = s.2.1 22 ∧ s2.2.1 23 = s.2.1 23 ∧ s2.2.1 24 = s.2.1 24 ∧ s2.2.1 26 = s.2.1 26) : RSh X s2 := by
  unfold RSh at *
  rw [e.1, e.2.1, e.2.2.1, e.2.2.2]
  exact h
/-- a word of the text is laid -/
theorem RSh_t (h : RSh X s) {p v : Nat} (hp : p < 4096) (hv : v < 4096) (h24 : s.2.1 24 p = 0) : RSh (upd X p (nI v)) (pA (pA s 23 p 1) 22 p (nI v)) := by
  have r22 : (pA (pA s 23 p 1) 22 p (nI v)).2.1 22 = upd (s.2.1 22) p (nI v) := rfl
  have r23 : (pA (pA s 23 p 1) 22 p (nI v)).2.1 23 = upd (s.2.1 23) p 1 := rfl
  have r24 : (pA (pA s 23 p 1) 22 p (nI v)).2.1 24 = s.2.1 24 := rfl
  have r26 : (pA (pA s 23 p 1) 22 p (nI v)).2.1 26 = s.2.1 26 := rfl
  unfold RSh
  rw [r22, r23, r24, r26]
  refine ⟨fun j hj => ?_, h.2⟩
  by_cases e : j = p
  · subst e
    rw [upd_y, upd_y, upd_y]
    exact ⟨Or.inr rfl, Or.inl h24, fun z => by rw [h24] at z; exact absurd z (by decide), fun _ _ => ⟨⟨v, hv, rfl⟩, rfl⟩, fun _ z => absurd z (by decide)⟩
  · rw [upd_n _ _ e, upd_n _ _ e, upd_n _ _ e]
    exact h.1 j hj
/-- a literal is laid -/
theorem RSh_lit (h : RSh X s) {k z v : Nat} (hk : k < 32) (hz : z < 128) (hv : v < 4096) (h26 : s.2.1 26 k = nI (128 * k + 128 - z) - 1) (hp : ∀ p, 128 * k ≤ p → p < 128 * k + 128 → (s.2.1 24 p = 1 ↔ 128 * k + 128 - z ≤ p)) : RSh (upd X (128 * k + 127 - z) (nI (4096 + v))) (pA (pA (pA s 24 (128 * k + 127 - z) 1) 22 (128 * k + 127 - z) (nI v)) 26 k (s.2.1 26 k - 1)) := by
  generalize hq : 128 * k + 127 - z = q
  have r22 : (pA (pA (pA s 24 q 1) 22 q (nI v)) 26 k (s.2.1 26 k - 1)).2.1 22 = upd (s.2.1 22) q (nI v) := rfl
  have r23 : (pA (pA (pA s 24 q 1) 22 q (nI v)) 26 k (s.2.1 26 k - 1)).2.1 23 = s.2.1 23 := rfl
  have r24 : (pA (pA (pA s 24 q 1) 22 q (nI v)) 26 k (s.2.1 26 k - 1)).2.1 24 = upd (s.2.1 24) q 1 := rfl
  have r26 : (pA (pA (pA s 24 q 1) 22 q (nI v)) 26 k (s.2.1 26 k - 1)).2.1 26 = upd (s.2.1 26) k (s.2.1 26 k - 1) := rfl
  unfold RSh
  rw [r22, r23, r24, r26]
  refine ⟨fun j hj => ?_, fun k2 hk2 => ?_⟩
  · by_cases e : j = q
    · subst e
      rw [upd_y, upd_y, upd_y]
      exact ⟨(h.1 j hj).1, Or.inr rfl, fun _ => ⟨v, hv, rfl, rfl⟩, fun z => absurd z (by decide), fun z => absurd z (by decide)⟩
    · rw [upd_n _ _ e, upd_n _ _ e, upd_n _ _ e]
      exact h.1 j hj
  · by_cases e : k2 = k
    · subst e
      refine ⟨z + 1, by omega, ?_, fun p p1 p2 => ?_⟩
      · rw [upd_y, h26, nI_m1 (by omega)]
        congr 2
      · by_cases e2 : p = q
        · subst e2
          rw [upd_y]
          exact ⟨fun _ => by omega, fun _ => rfl⟩
        · rw [upd_n _ _ e2, hp p p1 p2]
          omega
    · obtain ⟨z2, y1, y2, y3⟩ := h.2 k2 hk2
      refine ⟨z2, y1, by rw [upd_n _ _ e]; exact y2, fun p p1 p2 => ?_⟩
      rw [upd_n _ _ (by omega)]
      exact y3 p p1 p2
/-- the greatest place in a stretch with a property -/
theorem max_ex {Q : Nat → Prop} (lo : Nat) : ∀ z, (∃ p, lo ≤ p ∧ p < lo + z ∧ Q p ∧ ∀ j, p < j → j < lo + z → ¬ Q j) ∨ (∀ p, lo ≤ p → p < lo + z → ¬ Q p) := by
  intro z
  induction z with
  | zero => exact Or.inr (fun p h1 h2 => by omega)
  | succ z ih =>
    by_cases c : Q (lo + z)
    · exact Or.inl ⟨lo + z, by omega, by omega, c, fun j h1 h2 => by omega⟩
    · rcases ih with ⟨p, h1, h2, h3, h4⟩ | h
      · refine Or.inl ⟨p, h1, by omega, h3, fun j h5 h6 => ?_⟩
        by_cases e : j = lo + z
        · rw [e]; exact c
        · exact h4 j h5 (by omega)
      · refine Or.inr (fun p h1 h2 => ?_)
        by_cases e : p = lo + z
        · rw [e]; exact c
        · exact h p h1 (by omega)
/-- down through literals that are not the one wanted, in the class -/
theorem ff_lc {k : Nat} (hk : k < 32) (W : Int32) {q : Nat} : ∀ (d f : Nat), q + d < 128 * k + 128 → 128 * k ≤ q → (∀ p, q < p → p ≤ q + d → (∃ v, v < 4096 ∧ t.2.1 7 i 0 p = nI (4096 + v)) ∧ ¬ t.2.1 7 i 0 p = W) → ul_X7_literalPlace_15 U S N (f + d) i (nI (128 * k)) W (nI (q + d)) t = ul_X7_literalPlace_15 U S N f i (nI (128 * k)) W (nI q) t := by
  intro d
  induction d with
  | zero => intro f _ _ _; rfl
  | succ d ih =>
    intro f h1 h2 h3
    obtain ⟨⟨v, hv, ev⟩, hw⟩ := h3 (q + (d + 1)) (by omega) (Nat.le_refl _)
    show uh_X7_literalPlace_15 U S N (ul_X7_literalPlace_15 U S N (f + d)) i (nI (128 * k)) W (nI (q + (d + 1))) t = _
    unfold uh_X7_literalPlace_15
    rw [if_neg (fun z => by have := (ltI (by omega) (by omega)).mp z; omega), if_neg (nI_nn (by omega)), if_neg (fun z => by have := (Lle (k := 4096) (c := 4096) rfl (by omega) (by decide)).mp z; omega)]
    simp only [rH_y (show 4096 < 2 ^ 31 by decide) (show q + (d + 1) < 4096 by omega), Option.bind_some]
    rw [if_pos (by rw [ev]; exact nI_ne (by omega)), if_pos hw, if_pos (by rw [ev]; exact (Lle (k := 4096) (c := 4096) rfl (by omega) (by decide)).mpr (by omega)), sub_1, nI_m1 (by omega), show q + (d + 1) - 1 = q + d by omega]
    exact ih f (by omega) h2 (fun p p1 p2 => h3 p p1 (by omega))
theorem ff_lr {k z v : Nat} {wh : Int32} (hk : k < 32) (hz : z ≤ 128) (h26 : s.2.1 26 k = nI (128 * k + 128 - z) - 1) {q : Nat} : ∀ (d f : Nat), q + d < 128 * k + 128 → 128 * k + 128 - z ≤ q + 1 → (∀ p, q < p → p ≤ q + d → ¬ s.2.1 22 p = nI v) → l_literalFor_28 U S N (f + d) (nI v) (nI k) wh (nI (q + d)) s = l_literalFor_28 U S N f (nI v) (nI k) wh (nI q) s := by
  intro d
  induction d with
  | zero => intro f _ _ _; rfl
  | succ d ih =>
    intro f h1 h2 h3
    show h_literalFor_28 U S N (l_literalFor_28 U S N (f + d)) (nI v) (nI k) wh (nI (q + (d + 1))) s = _
    unfold h_literalFor_28
    have hgt : ¬ nI (q + (d + 1)) ≤ s.2.1 26 k := by
      rw [h26]
      by_cases c : 128 * k + 128 - z = 0
      · rw [c]
        rw [Int32.le_iff_toInt_le, nI_toInt (by omega)]
        have : (nI 0 - 1 : Int32).toInt = -1 := by decide
        omega
      · rw [nI_m1 (by omega)]
        intro y
        have := (leI (by omega) (by omega)).mp y
        omega
    rw [rA_y (by decide) hk, Option.bind_some, if_neg hgt, rA_y (by decide) (by omega), Option.bind_some, if_pos (h3 _ (by omega) (Nat.le_refl _)), sub_1, nI_m1 (by omega), show q + (d + 1) - 1 = q + d by omega]
    exact ih f (by omega) h2 (fun p p1 p2 => h3 p p1 (by omega))
/-- a literal's place: found, new, or none -/
theorem lit_eq (hN : 5000 < N) (hX : t.2.1 7 i 0 = X) (hR : RSh X0 s) {p0 : Nat} (hp0 : p0 < 4096) (hXX : X = upd X0 p0 0) (h24 : s.2.1 24 p0 = 0) (h11 : s.1 11 = nI p0) (hf : FZ s) {k v : Nat} (hk : k < 32) (hv : v < 4096) (wh : Int32) : (∃ q, q < 4096 ∧ u_X7_literalPlace U S N i (nI (128 * k)) (nI v) t = some (nI q, t) ∧ g_literalFor U S N (nI v) (nI k) wh s = some (nI q, s)) ∨ (∃ q s2, q < 4096 ∧ ¬ q = p0 ∧ u_X7_literalPlace U S N i (nI (128 * k)) (nI v) t = some (nI q, lyT t i q (nI (4096 + v))) ∧ g_literalFor U S N (nI v) (nI k) wh s = some (nI q, s2) ∧ RSh (upd X0 q (nI (4096 + v))) s2 ∧ s2.2.1 24 p0 = 0 ∧ s2.1 = s.1 ∧ (∀ j, j ≠ 22 → j ≠ 24 → j ≠ 26 → s2.2.1 j = s.2.1 j) ∧ s2.2.2 = s.2.2) ∨ (u_X7_literalPlace U S N i (nI (128 * k)) (nI v) t = some (-1, t) ∧ g_literalFor U S N (nI v) (nI k) wh s = some (0, flt s 8 wh)) := by
  obtain ⟨z, hz, h26, hpg⟩ := hR.2 k hk
  have ew : (4096 : Int32) ||| nI v = nI (4096 + v) := or_lit hv
  have ey : nI (128 * k) + 128 - 1 = nI (128 * k + 127) := by
    rw [show (128 : Int32) = nI 128 from rfl, nI_add, nI_m1 (by omega)]
    rfl
  have e0 : u_X7_literalPlace U S N i (nI (128 * k)) (nI v) t = ul_X7_literalPlace_15 U S N N i (nI (128 * k)) (nI (4096 + v)) (nI (128 * k + 127)) t := by
    unfold u_X7_literalPlace
    rw [ew, ey]
  have e1 : g_literalFor U S N (nI v) (nI k) wh s = l_literalFor_28 U S N N (nI v) (nI k) wh (nI (128 * k + 127)) s := by
    unfold g_literalFor
    rw [if_pos ((leL (k := 31) (c := 31) rfl (by omega) (by decide)).mpr (by omega)), show (128 : Int32) = nI 128 from rfl, mul_nI, show (127 : Int32) = nI 127 from rfl, nI_add]
  rw [e0, e1]
  -- the literals of the page
  have lits : ∀ p, 128 * k + 128 - z ≤ p → p < 128 * k + 128 → ∃ w, w < 4096 ∧ s.2.1 22 p = nI w ∧ t.2.1 7 i 0 p = nI (4096 + w) := by
    intro p p1 p2
    have hl : s.2.1 24 p = 1 := (hpg p (by omega) p2).mpr p1
    obtain ⟨w, w1, w2, w3⟩ := (hR.1 p (by omega)).2.2.1 hl
    refine ⟨w, w1, w2, ?_⟩
    rw [hX, hXX, upd_n _ _ (fun e => by rw [e, h24] at hl; exact absurd hl (by decide))]
    exact w3
  have same : ∀ p, 128 * k + 128 - z ≤ p → p < 128 * k + 128 → (t.2.1 7 i 0 p = nI (4096 + v) ↔ s.2.1 22 p = nI v) := by
    intro p p1 p2
    obtain ⟨w, w1, w2, w3⟩ := lits p p1 p2
    rw [w2, w3, eqI (by omega) (by omega), eqI (by omega) (by omega)]
    omega
  rcases max_ex (Q := fun p => s.2.1 22 p = nI v) (128 * k + 128 - z) z with ⟨q, q1, q2, q3, q4⟩ | hno
  · refine Or.inl ⟨q, by omega, ?_, ?_⟩
    · have := ff_lc (U := U) (S := S) (N := N) (i := i) (t := t) hk (nI (4096 + v)) (q := q) (128 * k + 127 - q) (N - (128 * k + 127 - q)) (by omega) (by omega) (fun p p1 p2 => ⟨by obtain ⟨w, w1, -, w3⟩ := lits p (by omega) (by omega); exact ⟨w, w1, w3⟩, fun e => q4 p p1 (by omega) ((same p (by omega) (by omega)).mp e)⟩)
      rw [show N - (128 * k + 127 - q) + (128 * k + 127 - q) = N by omega, show q + (128 * k + 127 - q) = 128 * k + 127 by omega] at this
      rw [this]
      obtain ⟨f, hf2⟩ : ∃ f, N - (128 * k + 127 - q) = f + 1 := ⟨N - (128 * k + 127 - q) - 1, by omega⟩
      rw [hf2]
      show uh_X7_literalPlace_15 U S N (ul_X7_literalPlace_15 U S N f) i (nI (128 * k)) (nI (4096 + v)) (nI q) t = _
      unfold uh_X7_literalPlace_15
      rw [if_neg (fun z => by have := (ltI (by omega) (by omega)).mp z; omega), if_neg (nI_nn (by omega)), if_neg (fun z => by have := (Lle (k := 4096) (c := 4096) rfl (by omega) (by decide)).mp z; omega)]
      simp only [rH_y (show 4096 < 2 ^ 31 by decide) (show q < 4096 by omega), Option.bind_some]
      have eq := (same q q1 (by omega)).mpr q3
      rw [if_pos (by rw [eq]; exact nI_ne (by omega)), if_neg (not_not_intro eq)]
    · have := ff_lr (U := U) (S := S) (N := N) (wh := wh) hk hz h26 (q := q) (v := v) (128 * k + 127 - q) (N - (128 * k + 127 - q)) (by omega) (by omega) (fun p p1 p2 => q4 p p1 (by omega))
      rw [show N - (128 * k + 127 - q) + (128 * k + 127 - q) = N by omega, show q + (128 * k + 127 - q) = 128 * k + 127 by omega] at this
      rw [this]
      obtain ⟨f, hf2⟩ : ∃ f, N - (128 * k + 127 - q) = f + 1 := ⟨N - (128 * k + 127 - q) - 1, by omega⟩
      rw [hf2]
      show h_literalFor_28 U S N (l_literalFor_28 U S N f) (nI v) (nI k) wh (nI q) s = _
      unfold h_literalFor_28
      have hgt : ¬ nI q ≤ s.2.1 26 k := by
        rw [h26]
        by_cases c : 128 * k + 128 - z = 0
        · rw [c, Int32.le_iff_toInt_le, nI_toInt (by omega)]
          have : (nI 0 - 1 : Int32).toInt = -1 := by decide
          omega
        · rw [nI_m1 (by omega)]
          intro y
          have := (leI (by omega) (by omega)).mp y
          omega
      rw [rA_y (by decide) hk, Option.bind_some, if_neg hgt, rA_y (by decide) (by omega), Option.bind_some, if_neg (not_not_intro q3)]
  · by_cases c128 : z = 128
    · subst c128
      refine Or.inr (Or.inr ⟨?_, ?_⟩)
      · have := ff_lc (U := U) (S := S) (N := N) (i := i) (t := t) hk (nI (4096 + v)) (q := 128 * k) 127 (N - 127) (by omega) (by omega) (fun p p1 p2 => ⟨by obtain ⟨w, w1, -, w3⟩ := lits p (by omega) (by omega); exact ⟨w, w1, w3⟩, fun e => hno p (by omega) (by omega) ((same p (by omega) (by omega)).mp e)⟩)
        rw [show N - 127 + 127 = N by omega] at this
        rw [this]
        obtain ⟨f, hf2⟩ : ∃ f, N - 127 = f + 1 + 1 := ⟨N - 129, by omega⟩
        rw [hf2]
        obtain ⟨w, w1, w2, w3⟩ := lits (128 * k) (by omega) (by omega)
        show uh_X7_literalPlace_15 U S N (uh_X7_literalPlace_15 U S N (ul_X7_literalPlace_15 U S N f)) i (nI (128 * k)) (nI (4096 + v)) (nI (128 * k)) t = _
        unfold uh_X7_literalPlace_15
        rw [if_neg (fun z => by have := (ltI (by omega) (by omega)).mp z; omega), if_neg (nI_nn (by omega)), if_neg (fun z => by have := (Lle (k := 4096) (c := 4096) rfl (by omega) (by decide)).mp z; omega)]
        simp only [rH_y (show 4096 < 2 ^ 31 by decide) (show 128 * k < 4096 by omega), Option.bind_some]
        rw [if_pos (by rw [w3]; exact nI_ne (by omega)), if_pos (fun e => hno _ (by omega) (by omega) ((same _ (by omega) (by omega)).mp e)), if_pos (by rw [w3]; exact (Lle (k := 4096) (c := 4096) rfl (by omega) (by decide)).mpr (by omega)), sub_1]
        unfold u_X7_literalPlace_90
        rw [if_pos]
        by_cases k0 : k = 0
        · subst k0; decide
        · rw [nI_m1 (by omega)]
          exact (ltI (by omega) (by omega)).mpr (by omega)
      · by_cases k0 : k = 0
        · subst k0
          have := ff_lr (U := U) (S := S) (N := N) (wh := wh) (k := 0) (by decide) hz h26 (q := 0) (v := v) 127 (N - 127) (by omega) (by omega) (fun p p1 p2 => hno p (by omega) (by omega))
          rw [show N - 127 + 127 = N by omega] at this
          refine Eq.trans this ?_
          obtain ⟨f, hf2⟩ : ∃ f, N - 127 = f + 1 + 1 := ⟨N - 129, by omega⟩
          rw [hf2]
          show h_literalFor_28 U S N (h_literalFor_28 U S N (l_literalFor_28 U S N f)) (nI v) (nI 0) wh (nI 0) s = _
          have h26' : s.2.1 26 0 = -1 := by rw [h26]; decide
          unfold h_literalFor_28 g_literalFor_96
          rw [rA_y (by decide) (show 0 < 32 by decide), Option.bind_some, h26', if_neg (by decide), rA_y (by decide) (show 0 < 4096 by decide), Option.bind_some, if_pos (hno 0 (by omega) (by omega)), Option.bind_some, if_pos (by decide), Option.bind_some, if_pos (by decide), g_fails_eq hf]
          rfl
        · have := ff_lr (U := U) (S := S) (N := N) (wh := wh) hk hz h26 (q := 128 * k - 1) (v := v) 128 (N - 128) (by omega) (by omega) (fun p p1 p2 => hno p (by omega) (by omega))
          rw [show N - 128 + 128 = N by omega, show 128 * k - 1 + 128 = 128 * k + 127 by omega] at this
          rw [this]
          obtain ⟨f, hf2⟩ : ∃ f, N - 128 = f + 1 := ⟨N - 129, by omega⟩
          rw [hf2]
          show h_literalFor_28 U S N (l_literalFor_28 U S N f) (nI v) (nI k) wh (nI (128 * k - 1)) s = _
          have h26' : s.2.1 26 k = nI (128 * k - 1) := by
            rw [h26, show 128 * k + 128 - 128 = 128 * k by omega, nI_m1 (by omega)]
          unfold h_literalFor_28 g_literalFor_96
          rw [rA_y (by decide) hk, Option.bind_some, h26', if_pos ((leI (by omega) (by omega)).mpr (Nat.le_refl _)), Option.bind_some, show (128 : Int32) = nI 128 from rfl, mul_nI, if_pos ((ltI (by omega) (by omega)).mpr (by omega)), g_fails_eq hf]
          rfl
    · -- the next place
      have hz2 : z < 128 := by omega
      have h26' : s.2.1 26 k = nI (128 * k + 127 - z) := by
        rw [h26, nI_m1 (by omega)]
        congr 1
        omega
      have hgt : nI (128 * k + 127 - z) ≤ s.2.1 26 k := by rw [h26']; exact (leI (by omega) (by omega)).mpr (Nat.le_refl _)
      have r := ff_lr (U := U) (S := S) (N := N) (wh := wh) hk hz h26 (q := 128 * k + 127 - z) (v := v) z (N - z) (by omega) (by omega) (fun p p1 p2 => hno p (by omega) (by omega))
      rw [show N - z + z = N by omega, show 128 * k + 127 - z + z = 128 * k + 127 by omega] at r
      have cc := ff_lc (U := U) (S := S) (N := N) (i := i) (t := t) hk (nI (4096 + v)) (q := 128 * k + 127 - z) z (N - z) (by omega) (by omega) (fun p p1 p2 => ⟨by obtain ⟨w, w1, -, w3⟩ := lits p (by omega) (by omega); exact ⟨w, w1, w3⟩, fun e => hno p (by omega) (by omega) ((same p (by omega) (by omega)).mp e)⟩)
      rw [show N - z + z = N by omega, show 128 * k + 127 - z + z = 128 * k + 127 by omega] at cc
      rw [r, cc]
      obtain ⟨f, hf2⟩ : ∃ f, N - z = f + 1 := ⟨N - z - 1, by omega⟩
      rw [hf2]
      have hlit := RSh_lit hR hk hz2 hv h26 hpg
      have h24q : s.2.1 24 (128 * k + 127 - z) = 0 := by
        rcases (hR.1 (128 * k + 127 - z) (by omega)).2.1 with y | y
        · exact y
        · have := (hpg _ (by omega) (by omega)).mp y
          omega
      generalize hq : 128 * k + 127 - z = q at *
      have hq4 : q < 4096 := by omega
      obtain ⟨x1, -, -, x4, x5⟩ := hR.1 q hq4
      have ec : ul_X7_literalPlace_15 U S N (f + 1) i (nI (128 * k)) (nI (4096 + v)) (nI q) t = if ¬ t.2.1 7 i 0 q = -1 then (if ¬ t.2.1 7 i 0 q = nI (4096 + v) then (if (4096 : Int32) ≤ t.2.1 7 i 0 q then ul_X7_literalPlace_15 U S N f i (nI (128 * k)) (nI (4096 + v)) (nI q + -1) t else some (-1, t)) else some (nI q, t)) else some (nI q, lyT t i q (nI (4096 + v))) := by
        show uh_X7_literalPlace_15 U S N (ul_X7_literalPlace_15 U S N f) i (nI (128 * k)) (nI (4096 + v)) (nI q) t = _
        unfold uh_X7_literalPlace_15
        rw [if_neg (fun z => by have := (ltI (by omega) (by omega)).mp z; omega), if_neg (nI_nn (by omega)), if_neg (fun z => by have := (Lle (k := 4096) (c := 4096) rfl (by omega) (by decide)).mp z; omega)]
        simp only [rH_y (show 4096 < 2 ^ 31 by decide) hq4, Option.bind_some, e_lay hq4]
      have er : l_literalFor_28 U S N (f + 1) (nI v) (nI k) wh (nI q) s = if ¬ s.2.1 23 q = 0 then some (0, flt s 8 wh) else if ¬ nI q = s.1 11 then some (nI q, pA (pA (pA s 24 q 1) 22 q (nI v)) 26 k (s.2.1 26 k - 1)) else some (0, flt s 8 wh) := by
        show h_literalFor_28 U S N (l_literalFor_28 U S N f) (nI v) (nI k) wh (nI q) s = _
        have e96 : g_literalFor_96 U S N wh s = some (0, flt s 8 wh) := by
          unfold g_literalFor_96
          rw [g_fails_eq hf]
          rfl
        unfold h_literalFor_28
        rw [rA_y (by decide) hk, Option.bind_some, if_pos hgt, Option.bind_some, h26', show (128 : Int32) = nI 128 from rfl, mul_nI, if_neg (fun z => by have := (ltI (by omega) (by omega)).mp z; omega), rA_y (by decide) hq4, Option.bind_some, e96, wZ_y (by decide) hq4 _ _ (Or.inr rfl), Option.bind_some, wA_y (by decide) hq4, Option.bind_some, rA_y (by decide) hk, Option.bind_some, wA_y (by decide) hk, Option.bind_some]
        show _ = (if ¬ s.2.1 23 q = 0 then _ else if ¬ nI q = s.1 11 then some (nI q, pA (pA (pA s 24 q 1) 22 q (nI v)) 26 k (nI q - 1)) else _)
        rw [← h26']
        rfl
      rw [ec, er]
      -- the word itself, or a word of the text: no room
      have full : W12 (t.2.1 7 i 0 q) → (if ¬ t.2.1 7 i 0 q = -1 then (if ¬ t.2.1 7 i 0 q = nI (4096 + v) then (if (4096 : Int32) ≤ t.2.1 7 i 0 q then ul_X7_literalPlace_15 U S N f i (nI (128 * k)) (nI (4096 + v)) (nI q + -1) t else some (-1, t)) else some (nI q, t)) else some (nI q, lyT t i q (nI (4096 + v)))) = some (-1, t) := by
        rintro ⟨w, hw, ew2⟩
        rw [ew2, if_pos (nI_ne (show w < 2 ^ 31 by omega)), if_pos (fun e => by have := (eqI (by omega) (by omega)).mp e; omega), if_neg (fun z => by have := (Lle (k := 4096) (c := 4096) rfl (by omega) (by decide)).mp z; omega)]
      by_cases cp : q = p0
      · refine Or.inr (Or.inr ⟨full ?_, ?_⟩)
        · rw [hX, hXX, cp, upd_y]; exact w12_0
        · rw [h11, cp, if_neg (not_not_intro rfl)]
          split <;> rfl
      · have hXq : t.2.1 7 i 0 q = X0 q := by rw [hX, hXX, upd_n _ _ cp]
        rcases x1 with y | y
        · refine Or.inr (Or.inl ⟨q, _, hq4, cp, ?_, ?_, hlit, ?_, rfl, ?_, rfl⟩)
          · rw [hXq, x5 h24q y, if_neg (not_not_intro rfl)]
          · rw [if_neg (not_not_intro y), h11, if_pos (fun e => cp ((eqI (by omega) (by omega)).mp e))]
          · show upd (s.2.1 24) q 1 p0 = 0
            rw [upd_n _ _ (Ne.symm cp)]
            exact h24
          · intro j j1 j2 j3
            show up1 (up1 (up1 s.2.1 24 _) 22 _) 26 _ j = _
            rw [up1_n _ _ j3, up1_n _ _ j1, up1_n _ _ j2]
        · obtain ⟨y1, y2⟩ := x4 h24q y
          refine Or.inr (Or.inr ⟨full ?_, ?_⟩)
          · rw [hXq, y2]; exact y1
          · rw [y, if_pos (by decide)]
end
