/-! LAYER 2, a fresh ShareEight -/
theorem mmax1 {U : Nat} (h1 : 1 ≤ U) (h2 : U < 2 ^ 31) : mmax 1 (nI U) = nI U := by
  unfold mmax
  by_cases h : U = 1
  · subst h; decide
  · rw [if_pos (show (1 : Int32) < nI U from nI_lt (a := 1) (by omega) (by omega))]
theorem usF_0 (n0 st : Nat) : usF n0 st 0 = fun _ => none := by
  funext i; unfold usF; simp
def ch0 : ACl := .inr (1, [aI 0, aR none, aR none, aI 0, aI 0, aI 0, aI 0, aI 0])
def mc0 : ACl := .inr (3, [aI 0, aI 0])
/-- House's cells -/
def hK (n0 U : Nat) : List ACl := hL n0 U ch0 mc0 U
def hC (n0 U S : Nat) : List ACl := gL n0 S (hK n0 U) S ++ [.inr (5, [aR (some (n0 + (5 + 8 * U + 2 * S))), aI 0]), .inl (4, U, .inr (.inr (fun _ => none)))]
def hE (n0 U S : Nat) (q sp : Int32) : ACl := .inr (2, [aR (some (n0 + 2)), aR (some (n0 + (3 + 8 * U))), aR (some (n0 + (4 + 8 * U + 2 * S))), aR (some n0), aR (some (n0 + 1)), aI q, aI sp, aI 0, aR none, aI 0, aI 0, aI 0])
theorem hK_len (n0 U : Nat) : (hK n0 U).length = 3 + 8 * U := hL_len n0 U _ _ U
theorem k_X2 {N U S : Nat} (hN : 10 < N) (hU : 1 ≤ U ∧ U ≤ 6) (hS : 1 ≤ S ∧ S ≤ 4) {μ : Mem} {a : Nat} (ha : a < μ.1) (hc : μ.2 a = .inr (2, df_X2)) (q sp : Int32) : f_X2_init N U S (some a) (nI U) (nI S) q sp μ = some ((), ext μ a (hE μ.1 U S q sp) (hC μ.1 U S)) := by
  conv => lhs; rw [ext_0 hc]
  unfold f_X2_init df_X2
  simp only [x_ck ha, ext_madd ha, ext_n, Option.bind_some, List.length_nil, List.nil_append, Nat.add_zero]
  rw [k_X1]
  rotate_left
  · rw [ext_n]; simp
  · exact ext_new (i := 0) _ _ ha rfl
  rw [ext_in0 ha _ _ (by simp)]
  simp only [x_ck ha, x_pR ha, x_pI ha, ext_n, Option.bind_some, ext_madd ha, List.length_cons, List.length_nil, List.nil_append, List.cons_append, List.append_nil, List.set_cons_zero, List.set_cons_succ, Nat.zero_add, Nat.add_zero, Nat.reduceAdd, Nat.reduceLT, if_true]
  rw [k_X3]
  rotate_left
  · rw [ext_n]; simp
  · exact ext_new (i := 1) _ _ ha rfl
  rw [ext_in ha _ _ (by simp)]
  simp only [x_ck ha, x_pR ha, x_pI ha, ext_n, Option.bind_some, ext_madd ha, List.length_cons, List.length_nil, List.nil_append, List.cons_append, List.append_nil, List.set_cons_zero, List.set_cons_succ, Nat.zero_add, Nat.add_zero, Nat.reduceAdd, Nat.reduceLT, if_true]
  rw [mmax1 hU.1 (by omega), if_neg (fun z => z ⟨nI_pos (by omega), nI_clamp (by omega)⟩)]
  simp only [x_naR ha, x_pR ha, ext_n, Option.bind_some, List.length_cons, List.length_nil, List.nil_append, List.cons_append, List.set_cons_zero, List.set_cons_succ, Nat.zero_add, Nat.reduceAdd, Nat.reduceLT, if_true]
  have h1 := usr_loop ha ch0 mc0 [aR (some (μ.1 + 2)), aR none, aR none, aR (some μ.1), aR (some (μ.1 + 1)), aI 0, aI 0, aI 0, aR none, aI 0, aI 0, aI 0] rfl N U S hU.2 (nI S) q sp N 0 (by omega) (by omega)
  have e9 : hL μ.1 U ch0 mc0 0 = [ch0, mc0, .inl (4, U, .inr (.inr (fun _ => none)))] := by unfold hL; rw [usF_0]; rfl
  rw [e9] at h1
  refine Eq.trans h1 ?_
  unfold ex66
  rw [mmax1 hS.1 (by omega), if_neg (fun z => z ⟨nI_pos (by omega), nI_clamp (by omega)⟩)]
  show ((some (mnaR (ext μ a _ (hK μ.1 U)) 5 S)).bind fun μ3 => (mpR μ3 (some a) 2 1 (some (ext μ a _ (hK μ.1 U)).1)).bind fun μ4 => L_X2_init_113 N U S N 0 (some a) q sp 0 μ4) = _
  simp only [x_naR ha, x_pR ha, ext_n, Option.bind_some, List.length_cons, List.length_nil, List.set_cons_zero, List.set_cons_succ, Nat.zero_add, Nat.reduceAdd, Nat.reduceLT, if_true]
  have h2 := slt_loop ha (hK μ.1 U) [aR (some (μ.1 + 2)), aR (some (μ.1 + (hK μ.1 U).length)), aR none, aR (some μ.1), aR (some (μ.1 + 1)), aI 0, aI 0, aI 0, aR none, aI 0, aI 0, aI 0] rfl N U S hS.2 q sp N 0 (by omega) (by omega)
  have e0 : gL μ.1 S (hK μ.1 U) 0 = hK μ.1 U ++ [.inl (5, S, .inr (.inr (fun _ => none)))] := by unfold gL; rw [usF_0]; rfl
  rw [e0] at h2
  refine Eq.trans h2 ?_
  unfold ex113
  have hgl : (gL μ.1 S (hK μ.1 U) S).length = 4 + 8 * U + 2 * S := by rw [gL_len, hK_len]; omega
  have hg2 : (gL μ.1 S (hK μ.1 U) S ++ [(Sum.inr (5, df_X5) : ACl)])[2]? = some (.inl (4, U, .inr (.inr (usF (μ.1 + 3) 8 U)))) := by
    rw [List.getElem?_append_left (by rw [hgl]; omega)]
    unfold gL
    rw [List.getElem?_append_left (by rw [hK_len]; omega)]
    rfl
  simp only [ext_madd ha, x_fR ha, ext_n, Option.bind_some, List.getElem?_cons_zero, fR]
  rw [x_al ha _ _ hg2 (by decide)]
  simp only [Option.bind_some]
  obtain ⟨h3, h4⟩ := x_sub ha (.inr (2, [aR (some (μ.1 + 2)), aR (some (μ.1 + (hK μ.1 U).length)), aR none, aR (some μ.1), aR (some (μ.1 + 1)), aI 0, aI 0, aI 0, aR none, aI 0, aI 0, aI 0])) (gL μ.1 S (hK μ.1 U) S) (.inr (5, df_X5))
  rw [k_X5 N U S h3 h4 hU, x_in ha _ _ _ rfl]
  simp only [x_pR ha, x_pI ha, ext_n, Option.bind_some, List.length_append, List.length_cons, List.length_nil, List.set_cons_zero, List.set_cons_succ, Nat.zero_add, Nat.reduceAdd, Nat.reduceLT, if_true]
  unfold hE hC
  rw [hgl, hK_len, show 4 + 8 * U + 2 * S + 1 = 5 + 8 * U + 2 * S by omega]
/-- the nearest in 1 .. m -/
theorem near_ex (n : Int32) {m : Nat} (h1 : 1 ≤ m) (h2 : m < 1000) : ∃ U : Nat, (1 ≤ U ∧ U ≤ m) ∧ mmax 1 (mmin (nI m) n) = nI U := by
  have hm : (nI m).toInt = (m : Int) := nI_toInt (by omega)
  have h1' : (1 : Int32).toInt = 1 := rfl
  by_cases c1 : n < nI m
  · have e1 : mmin (nI m) n = n := by unfold mmin; rw [if_pos c1]
    rw [e1]
    unfold mmax
    rw [Int32.lt_iff_toInt_lt, hm] at c1
    by_cases c2 : (1 : Int32) < n
    · rw [if_pos c2]
      rw [Int32.lt_iff_toInt_lt, h1'] at c2
      have h0 : ¬ n < 0 := by
        rw [Int32.lt_iff_toInt_lt]
        show ¬ n.toInt < 0
        omega
      obtain ⟨j, hj, rfl⟩ := nI_of h0
      rw [nI_toInt hj] at c1 c2
      exact ⟨j, ⟨by omega, by omega⟩, rfl⟩
    · rw [if_neg c2]
      exact ⟨1, ⟨Nat.le_refl _, h1⟩, rfl⟩
  · have e1 : mmin (nI m) n = nI m := by unfold mmin; rw [if_neg c1]
    rw [e1, mmax1 h1 (by omega)]
    exact ⟨m, ⟨h1, Nat.le_refl _⟩, rfl⟩
/-- Assembler's cells -/
def aE (n0 : Nat) : ACl := .inr (0, [aR (some n0), aR (some (n0 + 4)), aR (some (n0 + 10)), aR (some (n0 + 12)), aI 0, aI (-1), aI 0, aI 0, aI 0, aI 0, aI 128])
noncomputable def aC (n0 : Nat) : List ACl := nmE (n0 + 1) nm0 :: (nmL nm0 ++ [.inr (9, [aR (some n0), aR (some (n0 + 5)), aR (some (n0 + 6)), aR (some (n0 + 7)), aR (some (n0 + 8)), aI 0, aR (some (n0 + 9)), aI 0, aI 0]), .inl (0, 2001, .inl (fun _ => 0)), .inl (0, 2001, .inl (fun _ => 0)), .inl (0, 2001, .inl (fun _ => 0)), .inl (0, 2001, .inl (fun _ => 0)), .inl (0, 0, .inl (fun _ => 0)), .inr (7, [aR (some (n0 + 11)), aI 0]), .inl (0, 4096, .inl (fil (fun _ => 0) 4096 (-1))), .inr (7, [aR (some (n0 + 13)), aI 0]), .inl (0, 4096, .inl (fil (fun _ => 0) 4096 (-1)))])
theorem aC_len (n0 : Nat) : (aC n0).length = 14 := rfl
theorem k_X0' {N : Nat} (hN : 4096 < N) {μ : Mem} {a : Nat} (ha : a < μ.1) (hc : μ.2 a = .inr (0, df_X0)) : f_X0_init N (some a) μ = some ((), ext μ a (aE μ.1) (aC μ.1)) := k_X0 hN ha hc
/-- ShareEight's cells: the tape, the assembler, the house -/
def cE (n0 : Nat) : ACl := .inr (11, [aR (some n0), aI 0, aR (some (n0 + 1)), aR (some (n0 + 16))])
noncomputable def cA (n0 : Nat) : List ACl := [(.inl (0, 2000, .inl (fun _ => 0))), aE (n0 + 2)] ++ aC (n0 + 2)
noncomputable def cC (n0 U S : Nat) (q sp : Int32) : List ACl := cA n0 ++ (hE (n0 + 17) U S q sp :: hC (n0 + 17) U S)
theorem cA_len (n0 : Nat) : (cA n0).length = 16 := by unfold cA; rw [List.length_append, aC_len]; rfl
theorem bnd {α β : Type} {o : Option α} {f : α → Option β} {x : α} {r : Option β} (h1 : o = some x) (h2 : f x = r) : o.bind f = r := by rw [h1]; exact h2
theorem k_X11 {N U S : Nat} (hN : 4096 < N) (hU : 1 ≤ U ∧ U ≤ 6) (hS : 1 ≤ S ∧ S ≤ 4) {μ : Mem} {a : Nat} (ha : a < μ.1) (hc : μ.2 a = .inr (11, df_X11)) {a1 a2 a3 a4 : Int32} (h1 : mmax 1 (mmin 6 a1) = nI U) (h2 : mmax 1 (mmin 4 a2) = nI S) : f_X11_init N U S (some a) a1 a2 a3 a4 μ = some ((), ext μ a (cE μ.1) (cC μ.1 U S (mmax 1 (mmin 64 a3)) (mmax 1 (mmin 64 a4)))) := by
  have e0 : mck (ext μ a (.inr (11, [aR none, aI 0, aR none, aR none])) []) (some a) 11 = some a := x_ck ha _ _ _
  have e1 : mpR (mnaI (ext μ a (.inr (11, [aR none, aI 0, aR none, aR none])) []) 0 2000) (some a) 11 0 (some (ext μ a (.inr (11, [aR none, aI 0, aR none, aR none])) []).1) = some (ext μ a (.inr (11, [aR (some μ.1), aI 0, aR none, aR none])) [(.inl (0, 2000, .inl (fun _ => 0)))]) := by
    rw [x_naI ha, x_pR ha, if_pos (by simp)]; rfl
  have e2 : mpI (ext μ a (.inr (11, [aR (some μ.1), aI 0, aR none, aR none])) [(.inl (0, 2000, .inl (fun _ => 0)))]) (some a) 11 1 0 = some (ext μ a (.inr (11, [aR (some μ.1), aI 0, aR none, aR none])) [(.inl (0, 2000, .inl (fun _ => 0)))]) := by
    rw [x_pI ha, if_pos (by simp)]; rfl
  have e3 : madd (ext μ a (.inr (11, [aR (some μ.1), aI 0, aR none, aR none])) [(.inl (0, 2000, .inl (fun _ => 0)))]) (.inr (0, df_X0)) = ext μ a (.inr (11, [aR (some μ.1), aI 0, aR none, aR none])) [(.inl (0, 2000, .inl (fun _ => 0))), .inr (0, df_X0)] := ext_madd ha _ _ _
  have e4 : f_X0_init N (some (ext μ a (.inr (11, [aR (some μ.1), aI 0, aR none, aR none])) [(.inl (0, 2000, .inl (fun _ => 0)))]).1) (madd (ext μ a (.inr (11, [aR (some μ.1), aI 0, aR none, aR none])) [(.inl (0, 2000, .inl (fun _ => 0)))]) (.inr (0, df_X0))) = some ((), ext μ a (.inr (11, [aR (some μ.1), aI 0, aR none, aR none])) (cA μ.1)) := by
    obtain ⟨q1, q2⟩ := x_sub ha (.inr (11, [aR (some μ.1), aI 0, aR none, aR none])) [(.inl (0, 2000, .inl (fun _ => 0)))] (.inr (0, df_X0))
    rw [ext_madd ha, ext_n, k_X0' hN q1 q2, x_in ha _ _ _ rfl, ext_n]
    rfl
  have e5 : mpR (ext μ a (.inr (11, [aR (some μ.1), aI 0, aR none, aR none])) (cA μ.1)) (some a) 11 2 (some (ext μ a (.inr (11, [aR (some μ.1), aI 0, aR none, aR none])) [(.inl (0, 2000, .inl (fun _ => 0)))]).1) = some (ext μ a (.inr (11, [aR (some μ.1), aI 0, aR (some (μ.1 + 1)), aR none])) (cA μ.1)) := by
    rw [x_pR ha, if_pos (by simp)]; rfl
  have e6 : f_X2_init N U S (some (ext μ a (.inr (11, [aR (some μ.1), aI 0, aR (some (μ.1 + 1)), aR none])) (cA μ.1)).1) (nI U) (nI S) (mmax 1 (mmin 64 a3)) (mmax 1 (mmin 64 a4)) (madd (ext μ a (.inr (11, [aR (some μ.1), aI 0, aR (some (μ.1 + 1)), aR none])) (cA μ.1)) (.inr (2, df_X2))) = some ((), ext μ a (.inr (11, [aR (some μ.1), aI 0, aR (some (μ.1 + 1)), aR none])) (cC μ.1 U S (mmax 1 (mmin 64 a3)) (mmax 1 (mmin 64 a4)))) := by
    obtain ⟨q1, q2⟩ := x_sub ha (.inr (11, [aR (some μ.1), aI 0, aR (some (μ.1 + 1)), aR none])) (cA μ.1) (.inr (2, df_X2))
    rw [ext_madd ha, ext_n, k_X2 (by omega) hU hS q1 q2, x_in ha _ _ _ rfl, ext_n, List.length_append, cA_len]
    rfl
  have e7 : mpR (ext μ a (.inr (11, [aR (some μ.1), aI 0, aR (some (μ.1 + 1)), aR none])) (cC μ.1 U S (mmax 1 (mmin 64 a3)) (mmax 1 (mmin 64 a4)))) (some a) 11 3 (some (ext μ a (.inr (11, [aR (some μ.1), aI 0, aR (some (μ.1 + 1)), aR none])) (cA μ.1)).1) = some (ext μ a (cE μ.1) (cC μ.1 U S (mmax 1 (mmin 64 a3)) (mmax 1 (mmin 64 a4)))) := by
    rw [x_pR ha, if_pos (by simp), ext_n, cA_len]; rfl
  conv => lhs; rw [ext_0 hc]
  unfold f_X11_init df_X11
  refine bnd e0 ?_
  refine bnd rfl ?_
  refine bnd e1 ?_
  refine bnd e2 ?_
  refine bnd rfl ?_
  refine bnd e4 ?_
  refine bnd e5 ?_
  refine bnd rfl ?_
  refine bnd (x := (nI U, _)) (by unfold f_X11_nearest; rw [h1]) ?_
  refine bnd (x := (nI S, _)) (by unfold f_X11_nearest; rw [h2]) ?_
  refine bnd (x := (mmax 1 (mmin 64 a3), _)) rfl ?_
  refine bnd (x := (mmax 1 (mmin 64 a4), _)) rfl ?_
  refine bnd e6 ?_
  refine bnd e7 ?_
  rfl
