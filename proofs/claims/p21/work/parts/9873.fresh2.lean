/-! LAYER 2, the fresh ShareEight as a typed state: its cells -/
section
variable {ad : Nat × Nat × Nat → Option Nat} {n0 U S : Nat} {q sp : Int32}
theorem fr_U (i b : Nat) (h2 : ad (10, i, 2) = some (b + 1)) (h3 : ad (10, i, 3) = some (b + 2)) (h4 : ad (10, i, 4) = some (b + 3)) (h5 : ad (6, 2 * i, 0) = some (b + 4)) (h6 : ad (6, 2 * i, 1) = some (b + 5)) (h7 : ad (6, 2 * i + 1, 0) = some (b + 6)) (h8 : ad (6, 2 * i + 1, 1) = some (b + 7)) : (kU i).map (cel ad U S (cs0 q sp)) = uBlk b i := by
  have e1 : cel ad U S (cs0 q sp) (10, i, 0) = .inr (10, [aI (nI i), aR (ad (10, i, 2)), aR (ad (10, i, 3)), aR (ad (10, i, 4)), aR (ad (6, 2 * i, 0)), aR (ad (6, 2 * i + 1, 0)), aI 0, aI 0, aI 0, aI 0, aI 0, aI 0, aI 0, aI 0, aI 0, aI 0, aI 0, aI 0, aI 0, aR none]) := rfl
  have e2 : cel ad U S (cs0 q sp) (6, 2 * i, 0) = .inr (6, [aR (ad (6, 2 * i, 1)), aI 0, aI 0]) := rfl
  have e3 : cel ad U S (cs0 q sp) (6, 2 * i + 1, 0) = .inr (6, [aR (ad (6, 2 * i + 1, 1)), aI 0, aI 0]) := rfl
  unfold kU uBlk
  simp only [List.map_cons, List.map_nil, e1, e2, e3, h2, h3, h4, h5, h6, h7, h8]
  rfl
theorem fr_S (j b : Nat) (h2 : ad (8, j, 2) = some (b + 1)) : (kS j).map (cel ad U S (cs0 q sp)) = sBlk b j := by
  have e1 : cel ad U S (cs0 q sp) (8, j, 0) = .inr (8, [aI (nI j), aR (ad (8, j, 2)), aR none, aI 0, aI 0]) := rfl
  unfold kS sBlk
  simp only [List.map_cons, List.map_nil, e1, h2]
  rfl
theorem fr_Us (A : ∀ i K, (keys U S)[i]? = some K → ad K = some (n0 + i)) : ∀ j, j ≤ U → ((List.range j).flatMap kU).map (cel ad U S (cs0 q sp)) = uCells (n0 + 20) j := by
  intro j
  induction j with
  | zero => intro _; rfl
  | succ j ih =>
    intro hj
    have A8 : ∀ (K : Nat × Nat × Nat) (c : Nat), c < 8 → (kU j)[c]? = some K → ad K = some (n0 + 20 + 8 * j + c) := by
      intro K c hc h
      rw [A _ _ (ky_U (by omega) hc h)]
      congr 1
      omega
    rw [List.range_succ, List.flatMap_append, List.map_append, ih (by omega), List.flatMap_singleton, uCells_s, fr_U j (n0 + 20 + 8 * j) (A8 _ 1 (by decide) rfl) (A8 _ 2 (by decide) rfl) (A8 _ 3 (by decide) rfl) (A8 _ 4 (by decide) rfl) (A8 _ 5 (by decide) rfl) (A8 _ 6 (by decide) rfl) (A8 _ 7 (by decide) rfl)]
theorem fr_Ss (A : ∀ i K, (keys U S)[i]? = some K → ad K = some (n0 + i)) : ∀ j, j ≤ S → ((List.range j).flatMap kS).map (cel ad U S (cs0 q sp)) = sCells (n0 + (21 + 8 * U)) j := by
  intro j
  induction j with
  | zero => intro _; rfl
  | succ j ih =>
    intro hj
    rw [List.range_succ, List.flatMap_append, List.map_append, ih (by omega), List.flatMap_singleton, sCells_s, fr_S j (n0 + (21 + 8 * U) + 2 * j)]
    rw [A _ _ (ky_S (c := 1) (j := j) (by omega) (by decide) rfl)]
    congr 1
    omega
theorem fr_0 (A : ∀ i K, (keys U S)[i]? = some K → ad K = some (n0 + i)) : k0.map (cel ad U S (cs0 q sp)) = cA n0 ++ [hE (n0 + 17) U S q sp, ch0, mc0, .inl (4, U, .inr (.inr (usF (n0 + 17 + 3) 8 U)))] := by
  have B : ∀ (c : Nat) (K : Nat × Nat × Nat), k0[c]? = some K → ad K = some (n0 + c) := fun c K h => A _ _ (ky_0 h)
  have f1 : (fun i => if i < U then ad (10, i, 0) else none) = usF (n0 + 17 + 3) 8 U := by
    funext i
    unfold usF
    by_cases hi : i < U
    · rw [if_pos hi, if_pos hi, A _ _ (ky_U (c := 0) hi (by decide) rfl)]
      congr 1
      omega
    · rw [if_neg hi, if_neg hi]
  have g1 : ad (2, 0, 2) = some (n0 + 17 + (3 + 8 * U)) := by
    rw [A (20 + 8 * U) (2, 0, 2) (by rw [ky_l (Nat.le_refl _), Nat.sub_self]; rfl)]
    congr 1
    omega
  have g2 : ad (5, 0, 0) = some (n0 + 17 + (4 + 8 * U + 2 * S)) := by
    rw [A (21 + 8 * U + 2 * S) (5, 0, 0) ?_]
    · congr 1
      omega
    · rw [ky_l (by omega), show 21 + 8 * U + 2 * S - (20 + 8 * U) = 2 * S + 1 by omega]
      show ((List.range S).flatMap kS ++ [(5, 0, 0), (5, 0, 1)])[2 * S]? = _
      rw [List.getElem?_append_right (by rw [fm_len kS 2 (fun _ => rfl)]; omega), fm_len kS 2 (fun _ => rfl), Nat.sub_self]
      rfl
  have c1 : cel ad U S (cs0 q sp) (0, 0, 0) = .inr (0, [aR (ad (4, 0, 0)), aR (ad (9, 0, 0)), aR (ad (7, 0, 0)), aR (ad (7, 1, 0)), aI 0, aI (-1), aI 0, aI 0, aI 0, aI 0, aI 128]) := rfl
  have c2 : cel ad U S (cs0 q sp) (4, 0, 0) = .inr (4, [aR (ad (4, 0, 1)), aR (ad (4, 0, 2)), aR (ad (4, 0, 3)), aI (nI nm0.1), aI 0]) := rfl
  have c3 : cel ad U S (cs0 q sp) (9, 0, 0) = .inr (9, [aR (ad (4, 0, 0)), aR (ad (9, 0, 2)), aR (ad (9, 0, 3)), aR (ad (9, 0, 4)), aR (ad (9, 0, 5)), aI 0, aR (ad (9, 0, 7)), aI 0, aI 0]) := rfl
  have c4 : cel ad U S (cs0 q sp) (7, 0, 0) = .inr (7, [aR (ad (7, 0, 1)), aI 0]) := rfl
  have c5 : cel ad U S (cs0 q sp) (7, 1, 0) = .inr (7, [aR (ad (7, 1, 1)), aI 0]) := rfl
  have c6 : cel ad U S (cs0 q sp) (2, 0, 0) = .inr (2, [aR (ad (2, 0, 1)), aR (ad (2, 0, 2)), aR (ad (5, 0, 0)), aR (ad (1, 0, 0)), aR (ad (3, 0, 0)), aI q, aI sp, aI 0, aR none, aI 0, aI 0, aI 0]) := rfl
  have c7 : cel ad U S (cs0 q sp) (1, 0, 0) = ch0 := rfl
  have c8 : cel ad U S (cs0 q sp) (3, 0, 0) = mc0 := rfl
  have c9 : cel ad U S (cs0 q sp) (2, 0, 1) = .inl (4, U, .inr (.inr (fun i => if i < U then ad (10, i, 0) else none))) := rfl
  have c10 : cel ad U S (cs0 q sp) (11, 0, 1) = .inl (0, 2000, .inl (fun _ => 0)) := rfl
  have c11 : cel ad U S (cs0 q sp) (4, 0, 1) = .inl (1, 1054, .inr (.inl nm0.2.1)) := rfl
  have c12 : cel ad U S (cs0 q sp) (4, 0, 2) = .inl (0, 1054, .inl nm0.2.2.1) := rfl
  have c13 : cel ad U S (cs0 q sp) (4, 0, 3) = .inl (0, 1054, .inl nm0.2.2.2) := rfl
  have c14 : ∀ k, k < 4 → cel ad U S (cs0 q sp) (9, 0, k + 2) = .inl (0, 2001, .inl (fun _ => 0)) := by
    intro k hk
    match k, hk with
    | 0, _ => rfl
    | 1, _ => rfl
    | 2, _ => rfl
    | 3, _ => rfl
  have c15 : cel ad U S (cs0 q sp) (9, 0, 7) = .inl (0, 0, .inl (fun _ => 0)) := rfl
  have c16 : ∀ k, cel ad U S (cs0 q sp) (7, k, 1) = .inl (0, 4096, .inl (fil (fun _ => 0) 4096 (-1))) := fun _ => rfl
  unfold k0
  simp only [List.map_cons, List.map_nil, c1, c2, c3, c4, c5, c6, c7, c8, c9, c10, c11, c12, c13, c15, c16, f1, g1, g2, c14 0 (by decide), c14 1 (by decide), c14 2 (by decide), c14 3 (by decide)]
  rw [B 2 (4, 0, 0) rfl, B 6 (9, 0, 0) rfl, B 12 (7, 0, 0) rfl, B 14 (7, 1, 0) rfl, B 3 (4, 0, 1) rfl, B 4 (4, 0, 2) rfl, B 5 (4, 0, 3) rfl, B 7 (9, 0, 2) rfl, B 8 (9, 0, 3) rfl, B 9 (9, 0, 4) rfl, B 10 (9, 0, 5) rfl, B 11 (9, 0, 7) rfl, B 13 (7, 0, 1) rfl, B 15 (7, 1, 1) rfl, B 19 (2, 0, 1) rfl, B 17 (1, 0, 0) rfl, B 18 (3, 0, 0) rfl]
  rfl
theorem fr_all (A : ∀ i K, (keys U S)[i]? = some K → ad K = some (n0 + i)) : (keys U S).map (cel ad U S (cs0 q sp)) = cC n0 U S q sp := by
  have g3 : ad (5, 0, 1) = some (n0 + 17 + (5 + 8 * U + 2 * S)) := by
    rw [A (22 + 8 * U + 2 * S) (5, 0, 1) ?_]
    · congr 1
      omega
    · rw [ky_l (by omega), show 22 + 8 * U + 2 * S - (20 + 8 * U) = (2 * S + 1) + 1 by omega]
      show ((List.range S).flatMap kS ++ [(5, 0, 0), (5, 0, 1)])[2 * S + 1]? = _
      rw [List.getElem?_append_right (by rw [fm_len kS 2 (fun _ => rfl)]; omega), fm_len kS 2 (fun _ => rfl), Nat.add_sub_cancel_left]
      rfl
  have f2 : (fun i => if i < S then ad (8, i, 0) else none) = usF (n0 + 17 + (3 + 8 * U) + 1) 2 S := by
    funext i
    unfold usF
    by_cases hi : i < S
    · rw [if_pos hi, if_pos hi, A _ _ (ky_S (c := 0) hi (by decide) rfl)]
      congr 1
      omega
    · rw [if_neg hi, if_neg hi]
  have c17 : cel ad U S (cs0 q sp) (2, 0, 2) = .inl (5, S, .inr (.inr (fun i => if i < S then ad (8, i, 0) else none))) := rfl
  have c18 : cel ad U S (cs0 q sp) (5, 0, 0) = .inr (5, [aR (ad (5, 0, 1)), aI 0]) := rfl
  have c19 : cel ad U S (cs0 q sp) (5, 0, 1) = .inl (4, U, .inr (.inr (fun _ => none))) := rfl
  rw [keys_eq, List.map_append, fr_0 A, List.map_append, fr_Us A U (Nat.le_refl _), List.map_append, List.map_append, fr_Ss A S (Nat.le_refl _)]
  simp only [List.map_cons, List.map_nil, c17, c18, c19, f2, g3]
  unfold cC hC gL
  rw [hK_len]
  unfold hK hL
  simp only [List.append_assoc, List.cons_append, List.nil_append]
  rw [show n0 + 17 + 3 = n0 + 20 by omega, show n0 + 17 + (3 + 8 * U) + 1 = n0 + (21 + 8 * U) by omega]
theorem fr_E (A : ∀ i K, (keys U S)[i]? = some K → ad K = some (n0 + i)) : cel ad U S (cs0 q sp) (11, 0, 0) = cE n0 := by
  have B : ∀ (c : Nat) (K : Nat × Nat × Nat), k0[c]? = some K → ad K = some (n0 + c) := fun c K h => A _ _ (ky_0 h)
  have c1 : cel ad U S (cs0 q sp) (11, 0, 0) = .inr (11, [aR (ad (11, 0, 1)), aI 0, aR (ad (0, 0, 0)), aR (ad (2, 0, 0))]) := rfl
  rw [c1, B 0 (11, 0, 1) rfl, B 1 (0, 0, 0) rfl, B 16 (2, 0, 0) rfl]
  rfl
end
/-- where the reference's cell comes, both objects made -/
theorem fresh_Z {U S : Nat} (hU : U < 7) (hS : S < 5) {μ : Mem} {a : Nat} (ha : a < μ.1) (q sp : Int32) (c : ACl) : EC (μ.1, madd (ext μ a (cE μ.1) (cC μ.1 U S q sp)) c) a U S (cs0 q sp) = madd (ext μ a (cE μ.1) (cC μ.1 U S q sp)) c := by
  have A : ∀ i K, (keys U S)[i]? = some K → adr (μ.1, madd (ext μ a (cE μ.1) (cC μ.1 U S q sp)) c) a U S K = some (μ.1 + i) := fun i K h => ad_i hU hS h
  refine mem_eq rfl fun b => ?_
  unfold EC
  rw [fr_all A, fr_E A]
  show (ext (μ.1, (madd (ext μ a (cE μ.1) (cC μ.1 U S q sp)) c).2) a (cE μ.1) (cC μ.1 U S q sp)).2 b = _
  by_cases hb : b = a
  · subst hb
    rw [ext_a]
    unfold madd va_up
    dsimp only
    rw [if_neg (by rw [ext_n]; omega), ext_a]
  · by_cases hl : μ.1 ≤ b ∧ b - μ.1 < (cC μ.1 U S q sp).length
    · obtain ⟨i, rfl⟩ : ∃ i, b = μ.1 + i := ⟨b - μ.1, by omega⟩
      have hi : i < (cC μ.1 U S q sp).length := by omega
      refine Eq.trans (ext_new (μ := (μ.1, (madd (ext μ a (cE μ.1) (cC μ.1 U S q sp)) c).2)) _ _ ha (List.getElem?_eq_getElem hi)) ?_
      unfold madd va_up
      dsimp only
      rw [if_neg (by rw [ext_n]; omega), ext_new _ _ ha (List.getElem?_eq_getElem hi)]
    · by_cases h2 : b < μ.1
      · exact ext_old (μ := (μ.1, (madd (ext μ a (cE μ.1) (cC μ.1 U S q sp)) c).2)) _ _ hb h2
      · exact ext_far (μ := (μ.1, (madd (ext μ a (cE μ.1) (cC μ.1 U S q sp)) c).2)) _ _ hb (by show μ.1 + _ ≤ b; omega)
