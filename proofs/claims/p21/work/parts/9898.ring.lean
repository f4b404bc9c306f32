/-! LAYER 3, rows of 16 and the queue -/
theorem md16 {n : Nat} (h : n < 2 ^ 20) : nI n - nI n / 16 * 16 = nI (n % 16) := by
  rw [show (16 : Int32) = nI 16 from rfl, pk_div (by omega) (by decide) (by decide), show nI (n / 16) * nI 16 = nI (n / 16 * 16) from (Int32.ofNat_mul _ _).symm]
  have : nI n = nI (n % 16) + nI (n / 16 * 16) := by rw [nI_add]; congr 1; omega
  rw [this, Int32.add_sub_cancel]
section
variable {U S N : Nat} {t : CS} {s : RS}
theorem full_y {r M : Nat} (h : t.1 6 r 2 = nI M) (hM : M ≤ 16) : u_X6_isFull U S N r t = some (if M = 16 then 1 else 0, t) := by
  unfold u_X6_isFull u_X6_isFull_14
  rw [h]
  by_cases hc : M = 16
  · rw [if_neg (show ¬ nI M < (16 : Int32) from fun z => by have := (ltI (b := 16) (by omega) (by decide)).mp z; omega), if_pos hc]; rfl
  · rw [if_pos (show nI M < (16 : Int32) from (ltI (b := 16) (by omega) (by decide)).mpr (by omega)), if_neg hc]; rfl
theorem app_y {r F M : Nat} (h1 : t.1 6 r 1 = nI F) (h2 : t.1 6 r 2 = nI M) (hF : F < 16) (hM : M < 16) (c : Int32) : u_X6_append U S N r c t = some ((), qI (qA t 6 r 0 ((F + M) % 16) c) 6 r 2 (nI (M + 1))) := by
  unfold u_X6_append
  rw [full_y h2 (by omega), if_neg (by omega)]
  simp only [Option.bind_some, if_true]
  rw [if_neg (by decide), h1, h2, nI_add, md16 (by omega), wH_y (by decide) (Nat.mod_lt _ (by decide))]
  simp only [Option.bind_some]
  rw [show (qA t 6 r 0 ((F + M) % 16) c).1 6 r 2 = nI M from h2, nI_1]
theorem ring_app {f n : Int32} {a : Nat → Int32} {m : Int32} {b : Nat → Int32} {F M : Nat} (hF : F < 16) (hM : M < 16) (e1 : f = nI F) (h : ∀ i, i < M → a ((F + i) % 16) = b i) (c : Int32) : ring f (nI (M + 1)) (upd a ((F + M) % 16) c) (nI (M + 1)) (upd b M c) := by
  refine ⟨F, M + 1, hF, by omega, e1, rfl, rfl, fun i hi => ?_⟩
  unfold upd
  by_cases h1 : i = M
  · subst h1; rw [if_pos rfl, if_pos rfl]
  · rw [if_neg (by omega), if_neg h1, h i (by omega)]
/-- what a row is -/
theorem SmG_upd (H : Sim U S t s) {t2 : CS} {s2 : RS} (hG : SmG U t2 s2) (f1 : ∀ ci j k, ci ≠ 6 → t2.1 ci j k = t.1 ci j k) (f2 : ∀ ci j k, ci ≠ 6 → t2.2.1 ci j k = t.2.1 ci j k) (f3 : t2.2.2 = t.2.2) (f4 : s2.1 = s.1) (f5 : ∀ k, k ≠ 50 → k ≠ 53 → s2.2.1 k = s.2.1 k) (f6 : ∀ k, k ≠ 49 → k ≠ 52 → s2.2.2 k = s.2.2 k) : Sim U S t2 s2 := by
  obtain ⟨hA, hSs, hB0, hC, hR, hL, hK, hQ, _, hM, hT0⟩ := H
  have e3 : t2.2.2.2.1 = t.2.2.2.1 := by rw [f3]
  have e4 : t2.2.2.2.2 = t.2.2.2.2 := by rw [f3]
  refine ⟨?_, ?_, ?_, ?_, ?_, ?_, ?_, ?_, hG, ?_, ?_⟩
  · intro p hp j
    have hne : p.2 ≠ 50 ∧ p.2 ≠ 53 := by
      have : ∀ p, p ∈ mU → p.2 ≠ 50 ∧ p.2 ≠ 53 := by decide
      exact this p hp
    rw [f1 _ _ _ (by decide), f5 _ hne.1 hne.2, hA p hp j]
  · intro p hp j
    have hne : p.2 ≠ 50 ∧ p.2 ≠ 53 := by
      have : ∀ p, p ∈ mS → p.2 ≠ 50 ∧ p.2 ≠ 53 := by decide
      exact this p hp
    rw [f1 _ _ _ (by decide), f5 _ hne.1 hne.2, hSs p hp j]
  · intro p hp
    have hne : p.1 ≠ 6 := by
      have : ∀ p, p ∈ mB → p.1 ≠ 6 := by decide
      exact this p hp
    rw [f1 _ _ _ hne, f4, hB0 p hp]
  · intro p hp j i
    have hne : p.1 ≠ 6 ∧ p.2.2 ≠ 49 ∧ p.2.2 ≠ 52 := by
      have : ∀ p, p ∈ mC → p.1 ≠ 6 ∧ p.2.2 ≠ 49 ∧ p.2.2 ≠ 52 := by decide
      exact this p hp
    rw [f2 _ _ _ hne.1, f6 _ hne.2.1 hne.2.2, hC p hp j i]
  · unfold SmR
    rw [f4, f5 41 (by decide) (by decide), f5 38 (by decide) (by decide), e3]
    refine ⟨hR.1, fun j hj => ?_, fun j hj => ?_, hR.2.2.2⟩
    · rw [f1 _ _ _ (by decide)]; exact hR.2.1 j hj
    · rw [f1 _ _ _ (by decide)]; exact hR.2.2.1 j hj
  · unfold SmL
    rw [f4, f1 _ _ _ (by decide), e3]
    exact hL
  · unfold SmK
    rw [f4, f1 _ _ _ (by decide), e3]
    exact hK
  · unfold SmQ isQ
    rw [f4, f5 62 (by decide) (by decide), e4]
    exact hQ
  · unfold SmM
    rw [e3, f5 25 (by decide) (by decide)]
    obtain ⟨i, h1, h2, h3, h4⟩ := hM
    exact ⟨i, h1, h2, h3, fun p hp => by rw [f2 _ _ _ (by decide)]; exact h4 p hp⟩
  · unfold SmT
    rw [f4, f5 0 (by decide) (by decide), f2 _ _ _ (by decide)]
    exact hT0
end
