/-! LAYER 2, the fresh ShareEight as a typed state -/
theorem fm_len {α : Type} (f : Nat → List α) (w : Nat) (hw : ∀ i, (f i).length = w) : ∀ n, ((List.range n).flatMap f).length = w * n := by
  intro n
  induction n with
  | zero => rfl
  | succ n ih => rw [List.range_succ, List.flatMap_append, List.length_append, ih, List.flatMap_singleton, hw, Nat.mul_succ]
theorem fm_at {α : Type} (f : Nat → List α) (w : Nat) (hw : ∀ i, (f i).length = w) : ∀ n i c, i < n → c < w → ((List.range n).flatMap f)[w * i + c]? = (f i)[c]? := by
  intro n
  induction n with
  | zero => intro i c h; omega
  | succ n ih =>
    intro i c hi hc
    rw [List.range_succ, List.flatMap_append, List.flatMap_singleton]
    by_cases h : i < n
    · have : w * i + w ≤ w * n := by rw [← Nat.mul_succ]; exact Nat.mul_le_mul_left w h
      rw [List.getElem?_append_left (by rw [fm_len f w hw]; omega), ih i c h hc]
    · have : i = n := by omega
      subst this
      rw [List.getElem?_append_right (by rw [fm_len f w hw]; omega), fm_len f w hw, Nat.add_sub_cancel_left]
def kU (i : Nat) : List (Nat × Nat × Nat) := [(10, i, 0), (10, i, 2), (10, i, 3), (10, i, 4), (6, 2 * i, 0), (6, 2 * i, 1), (6, 2 * i + 1, 0), (6, 2 * i + 1, 1)]
def kS (j : Nat) : List (Nat × Nat × Nat) := [(8, j, 0), (8, j, 2)]
def k0 : List (Nat × Nat × Nat) := [(11, 0, 1), (0, 0, 0), (4, 0, 0), (4, 0, 1), (4, 0, 2), (4, 0, 3), (9, 0, 0), (9, 0, 2), (9, 0, 3), (9, 0, 4), (9, 0, 5), (9, 0, 7), (7, 0, 0), (7, 0, 1), (7, 1, 0), (7, 1, 1), (2, 0, 0), (1, 0, 0), (3, 0, 0), (2, 0, 1)]
theorem keys_eq (U S : Nat) : keys U S = k0 ++ ((List.range U).flatMap kU ++ ([(2, 0, 2)] ++ ((List.range S).flatMap kS ++ [(5, 0, 0), (5, 0, 1)]))) := rfl
theorem keys_len (U S : Nat) : (keys U S).length = 23 + 8 * U + 2 * S := by
  rw [keys_eq]
  simp only [List.length_append, fm_len kU 8 (fun _ => rfl), fm_len kS 2 (fun _ => rfl)]
  show 20 + (8 * U + (1 + (2 * S + 2))) = _
  omega
theorem ky_0 {U S c : Nat} {K : Nat × Nat × Nat} (h : k0[c]? = some K) : (keys U S)[c]? = some K := by
  rw [keys_eq, List.getElem?_append_left (List.getElem?_eq_some_iff.mp h).1, h]
theorem ky_U {U S i c : Nat} {K : Nat × Nat × Nat} (hi : i < U) (hc : c < 8) (h : (kU i)[c]? = some K) : (keys U S)[20 + 8 * i + c]? = some K := by
  rw [keys_eq, List.getElem?_append_right (by show 20 ≤ _; omega), show 20 + 8 * i + c - k0.length = 8 * i + c by show 20 + 8 * i + c - 20 = _; omega, List.getElem?_append_left (by rw [fm_len kU 8 (fun _ => rfl)]; omega), fm_at kU 8 (fun _ => rfl) U i c hi hc, h]
theorem ky_l {U S c : Nat} (hc : 20 + 8 * U ≤ c) : (keys U S)[c]? = ([(2, 0, 2)] ++ ((List.range S).flatMap kS ++ [(5, 0, 0), (5, 0, 1)]))[c - (20 + 8 * U)]? := by
  rw [keys_eq, List.getElem?_append_right (by show 20 ≤ c; omega), show c - k0.length = c - 20 from rfl, List.getElem?_append_right (by rw [fm_len kU 8 (fun _ => rfl)]; omega), fm_len kU 8 (fun _ => rfl)]
  congr 1
  omega
theorem ky_S {U S j c : Nat} {K : Nat × Nat × Nat} (hj : j < S) (hc : c < 2) (h : (kS j)[c]? = some K) : (keys U S)[21 + 8 * U + 2 * j + c]? = some K := by
  rw [ky_l (by omega), show 21 + 8 * U + 2 * j + c - (20 + 8 * U) = (2 * j + c) + 1 by omega]
  show ((List.range S).flatMap kS ++ [(5, 0, 0), (5, 0, 1)])[2 * j + c]? = _
  rw [List.getElem?_append_left (by rw [fm_len kS 2 (fun _ => rfl)]; omega), fm_at kS 2 (fun _ => rfl) S j c hj hc, h]
section
variable {μ : BM} {a U S : Nat}
theorem ad_i (hU : U < 7) (hS : S < 5) {i : Nat} {K : Nat × Nat × Nat} (h : (keys U S)[i]? = some K) : adr μ a U S K = some (μ.1 + i) := by
  obtain ⟨hi, e⟩ := List.getElem?_eq_some_iff.mp h
  have hn := keys_nd U hU S hS
  have hm : K ∈ keys U S := e ▸ List.getElem_mem hi
  unfold adr
  rw [if_neg (fun e2 : K = (11, 0, 0) => hn.2 (e2 ▸ hm)), if_pos hm, ← e, List.Nodup.idxOf_getElem hn.1 i hi]
end
/-- ShareEight's state as it is made -/
noncomputable def cs0 (q sp : Int32) : CS := (fun ci j k => if ci = 10 ∧ k = 0 then nI j else if ci = 8 ∧ k = 0 then nI j else if ci = 0 ∧ k = 5 then -1 else if ci = 0 ∧ k = 10 then 128 else if ci = 4 ∧ k = 3 then nI nm0.1 else if ci = 2 ∧ k = 5 then q else if ci = 2 ∧ k = 6 then sp else 0, fun ci j k => if ci = 7 then fil (fun _ => 0) 4096 (-1) else if ci = 4 ∧ k = 1 then nm0.2.2.1 else if ci = 4 ∧ k = 2 then nm0.2.2.2 else fun _ => 0, nm0.2.1, fun ci j k => if ci = 0 ∧ k = 2 then some 0 else if ci = 0 ∧ k = 3 then some 1 else if ci = 9 ∧ k = 6 then some 0 else none, fun _ => none)
