/-! LAYER 2, what the constructors leave -/
theorem x_ck {μ : Mem} {a : Nat} (ha : a < μ.1) (ci : Nat) (fs : List AV) (L : List ACl) : mck (ext μ a (.inr (ci, fs)) L) (some a) ci = some a := by
  have h : a < (ext μ a (.inr (ci, fs)) L).1 := by rw [ext_n]; omega
  unfold mck
  dsimp only
  rw [if_pos h, ext_a]
  dsimp only
  rw [if_pos rfl]
theorem x_fV {μ : Mem} {a : Nat} (ha : a < μ.1) (ci k : Nat) (fs : List AV) (L : List ACl) : mfV (ext μ a (.inr (ci, fs)) L) (some a) ci k = fs[k]? := by
  have h : a < (ext μ a (.inr (ci, fs)) L).1 := by rw [ext_n]; omega
  unfold mfV
  dsimp only
  rw [if_pos h, ext_a]
  dsimp only
  rw [if_pos rfl]
theorem x_fI {μ : Mem} {a : Nat} (ha : a < μ.1) (ci k : Nat) (fs : List AV) (L : List ACl) : mfI (ext μ a (.inr (ci, fs)) L) (some a) ci k = fI fs[k]? := by
  unfold mfI
  rw [x_fV ha]
  rcases fs[k]? with _ | x | x | x | x <;> rfl
theorem x_fR {μ : Mem} {a : Nat} (ha : a < μ.1) (ci k : Nat) (fs : List AV) (L : List ACl) : mfR (ext μ a (.inr (ci, fs)) L) (some a) ci k = fR fs[k]? := by
  unfold mfR
  rw [x_fV ha]
  rcases fs[k]? with _ | x | x | x | x <;> rfl
theorem x_pV {μ : Mem} {a : Nat} (ha : a < μ.1) (ci k : Nat) (fs : List AV) (L : List ACl) (v : AV) : mpV (ext μ a (.inr (ci, fs)) L) (some a) ci k v = if k < fs.length then some (ext μ a (.inr (ci, fs.set k v)) L) else none := by
  have h : a < (ext μ a (.inr (ci, fs)) L).1 := by rw [ext_n]; omega
  unfold mpV
  dsimp only
  rw [if_pos h, ext_a]
  dsimp only
  by_cases hk : k < fs.length
  · rw [if_pos ⟨rfl, hk⟩, if_pos hk]
    congr 1
    refine mem_eq rfl fun b => ?_
    unfold va_up
    dsimp only
    by_cases hb : b = a
    · subst hb; rw [if_pos rfl, ext_a]
    · rw [if_neg hb]; unfold ext; dsimp only; rw [if_neg hb, if_neg hb]
  · rw [if_neg (fun z => hk z.2), if_neg hk]
theorem x_pI {μ : Mem} {a : Nat} (ha : a < μ.1) (ci k : Nat) (fs : List AV) (L : List ACl) (x : Int32) : mpI (ext μ a (.inr (ci, fs)) L) (some a) ci k x = if k < fs.length then some (ext μ a (.inr (ci, fs.set k (aI x))) L) else none := x_pV ha ci k fs L (aI x)
theorem x_pR {μ : Mem} {a : Nat} (ha : a < μ.1) (ci k : Nat) (fs : List AV) (L : List ACl) (x : Option Nat) : mpR (ext μ a (.inr (ci, fs)) L) (some a) ci k x = if k < fs.length then some (ext μ a (.inr (ci, fs.set k (aR x))) L) else none := x_pV ha ci k fs L (aR x)
theorem x_pZ {μ : Mem} {a : Nat} (ha : a < μ.1) (ci k : Nat) (fs : List AV) (L : List ACl) (x : Int32) : mpZ (ext μ a (.inr (ci, fs)) L) (some a) ci k x = if x = 0 ∨ x = 1 then (if k < fs.length then some (ext μ a (.inr (ci, fs.set k (aI x))) L) else none) else none := by
  unfold mpZ
  rw [x_pV ha]
theorem x_naI {μ : Mem} {a : Nat} (ha : a < μ.1) (E : ACl) (L : List ACl) (t n : Nat) : mnaI (ext μ a E L) t n = ext μ a E (L ++ [.inl (t, n, .inl (fun _ => 0))]) := ext_madd ha E L _
theorem x_naJ {μ : Mem} {a : Nat} (ha : a < μ.1) (E : ACl) (L : List ACl) (n : Nat) : mnaJ (ext μ a E L) n = ext μ a E (L ++ [.inl (1, n, .inr (.inl (fun _ => 0)))]) := ext_madd ha E L _
theorem x_naR {μ : Mem} {a : Nat} (ha : a < μ.1) (E : ACl) (L : List ACl) (t n : Nat) : mnaR (ext μ a E L) t n = ext μ a E (L ++ [.inl (t, n, .inr (.inr (fun _ => none)))]) := ext_madd ha E L _
theorem k_X6 (N : Nat) {μ : Mem} {a : Nat} (ha : a < μ.1) (hc : μ.2 a = .inr (6, df_X6)) : f_X6_init N (some a) μ = some ((), ext μ a (.inr (6, [aR (some μ.1), aI 0, aI 0])) [.inl (0, 16, .inl (fun _ => 0))]) := by
  conv => lhs; rw [ext_0 hc]
  unfold f_X6_init df_X6
  simp [x_ck ha, x_naI ha, x_pR ha, x_pI ha, ext_n]
theorem k_X8 (N : Nat) {μ : Mem} {a : Nat} (ha : a < μ.1) (hc : μ.2 a = .inr (8, df_X8)) (z : Int32) : f_X8_init N (some a) z μ = some ((), ext μ a (.inr (8, [aI z, aR (some μ.1), aR none, aI 0, aI 0])) [.inl (0, 4096, .inl (fun _ => 0))]) := by
  conv => lhs; rw [ext_0 hc]
  unfold f_X8_init df_X8
  simp [x_ck ha, x_naI ha, x_pR ha, x_pI ha, x_pZ ha, ext_n]
theorem k_X1 (N : Nat) {μ : Mem} {a : Nat} (ha : a < μ.1) (hc : μ.2 a = .inr (1, df_X1)) : f_X1_init N (some a) μ = some ((), ext μ a (.inr (1, [aI 0, aR none, aR none, aI 0, aI 0, aI 0, aI 0, aI 0])) []) := by
  conv => lhs; rw [ext_0 hc]
  unfold f_X1_init df_X1
  simp [x_ck ha, x_pR ha, x_pI ha, x_pZ ha, ext_n]
theorem k_X3 (N : Nat) {μ : Mem} {a : Nat} (ha : a < μ.1) (hc : μ.2 a = .inr (3, df_X3)) : f_X3_init N (some a) μ = some ((), ext μ a (.inr (3, [aI 0, aI 0])) []) := by
  conv => lhs; rw [ext_0 hc]
  unfold f_X3_init df_X3
  simp [x_ck ha, x_pR ha, x_pI ha, x_pZ ha, ext_n]
theorem k_X9 (N : Nat) {μ : Mem} {a : Nat} (ha : a < μ.1) (hc : μ.2 a = .inr (9, df_X9)) (r : Option Nat) : f_X9_init N (some a) r μ = some ((), ext μ a (.inr (9, [aR r, aR (some μ.1), aR (some (μ.1 + 1)), aR (some (μ.1 + 2)), aR (some (μ.1 + 3)), aI 0, aR (some (μ.1 + 4)), aI 0, aI 0])) [.inl (0, 2001, .inl (fun _ => 0)), .inl (0, 2001, .inl (fun _ => 0)), .inl (0, 2001, .inl (fun _ => 0)), .inl (0, 2001, .inl (fun _ => 0)), .inl (0, 0, .inl (fun _ => 0))]) := by
  conv => lhs; rw [ext_0 hc]
  unfold f_X9_init df_X9
  simp [x_ck ha, x_naI ha, x_pR ha, x_pI ha, ext_n]
/-- a constructor of a cell that was just made -/
theorem x_sub {μ : Mem} {a : Nat} (ha : a < μ.1) (E : ACl) (L : List ACl) (c : ACl) : μ.1 + L.length < (ext μ a E (L ++ [c])).1 ∧ (ext μ a E (L ++ [c])).2 (μ.1 + L.length) = c := by
  refine ⟨by rw [ext_n]; simp, ext_new _ _ ha ?_⟩
  rw [List.getElem?_append_right (Nat.le_refl _)]
  simp
theorem x_in {μ : Mem} {a i : Nat} (ha : a < μ.1) (E : ACl) (L : List ACl) (c : ACl) (hi : i = μ.1 + L.length) (E2 : ACl) (L2 : List ACl) : ext (ext μ a E (L ++ [c])) i E2 L2 = ext μ a E (L ++ (E2 :: L2)) := by
  subst hi
  rw [ext_in ha E (L ++ [c]) (by simp) E2 L2]
  congr 1
  rw [List.set_append_right _ _ (Nat.le_refl _)]
  simp
theorem k_X10 (N : Nat) {μ : Mem} {a : Nat} (ha : a < μ.1) (hc : μ.2 a = .inr (10, df_X10)) (z : Int32) : f_X10_init N (some a) z μ = some ((), ext μ a (.inr (10, [aI z, aR (some μ.1), aR (some (μ.1 + 1)), aR (some (μ.1 + 2)), aR (some (μ.1 + 3)), aR (some (μ.1 + 5)), aI 0, aI 0, aI 0, aI 0, aI 0, aI 0, aI 0, aI 0, aI 0, aI 0, aI 0, aI 0, aI 0, aR none])) [.inl (0, 4096, .inl (fun _ => 0)), .inl (0, 1024, .inl (fun _ => 0)), .inl (0, 500, .inl (fun _ => 0)), .inr (6, [aR (some (μ.1 + 4)), aI 0, aI 0]), .inl (0, 16, .inl (fun _ => 0)), .inr (6, [aR (some (μ.1 + 6)), aI 0, aI 0]), .inl (0, 16, .inl (fun _ => 0))]) := by
  conv => lhs; rw [ext_0 hc]
  unfold f_X10_init df_X10
  simp only [x_ck ha, x_naI ha, x_pR ha, x_pI ha, ext_n, Option.bind_some, ext_madd ha, List.length_cons, List.length_nil, List.nil_append, List.cons_append, List.set_cons_zero, List.set_cons_succ, Nat.zero_add, Nat.add_zero, Nat.reduceAdd, Nat.reduceLT, if_true]
  rw [k_X6]
  rotate_left
  · rw [ext_n]; simp
  · exact ext_new _ _ ha rfl
  rw [ext_in ha _ _ (by simp)]
  simp only [x_ck ha, x_naI ha, x_pR ha, x_pI ha, ext_n, Option.bind_some, ext_madd ha, List.length_cons, List.length_nil, List.nil_append, List.cons_append, List.set_cons_zero, List.set_cons_succ, Nat.zero_add, Nat.add_zero, Nat.reduceAdd, Nat.reduceLT, if_true]
  rw [k_X6]
  rotate_left
  · rw [ext_n]; simp
  · exact ext_new _ _ ha rfl
  rw [ext_in ha _ _ (by simp)]
  simp only [x_ck ha, x_naI ha, x_pR ha, x_pI ha, ext_n, Option.bind_some, ext_madd ha, List.length_cons, List.length_nil, List.nil_append, List.cons_append, List.set_cons_zero, List.set_cons_succ, Nat.zero_add, Nat.add_zero, Nat.reduceAdd, Nat.reduceLT, if_true]
