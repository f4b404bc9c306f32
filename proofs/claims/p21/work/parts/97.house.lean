/-! LAYER 2, what House() leaves -/
theorem x_bR {μ : Mem} {a i t n j ci b : Nat} (ha : a < μ.1) (E : ACl) (L : List ACl) {f : Nat → Option Nat} (hi : L[i]? = some (.inl (t, n, .inr (.inr f)))) (hj : j < n) (hn : n < 2 ^ 31) (hck : mck (ext μ a E L) (some b) ci = some b) : mbR (ext μ a E L) t ci (some (μ.1 + i)) (nI j) (some b) = some (ext μ a E (L.set i (.inl (t, n, .inr (.inr (va_up f j (some b))))))) := by
  unfold mbR
  rw [x_maV ha E L hi]
  dsimp only
  rw [if_neg (nI_in hj hn), nI_clamp (by omega), if_pos (Or.inr hck)]
  unfold mbV
  dsimp only
  rw [x_up ha E L (List.getElem?_eq_some_iff.mp hi).1]
theorem x_ckN {μ : Mem} {a i ci : Nat} (ha : a < μ.1) (E : ACl) (L : List ACl) {fs : List AV} (hi : L[i]? = some (.inr (ci, fs))) : mck (ext μ a E L) (some (μ.1 + i)) ci = some (μ.1 + i) := by
  have h : μ.1 + i < (ext μ a E L).1 := by rw [ext_n]; have := (List.getElem?_eq_some_iff.mp hi).1; omega
  unfold mck
  dsimp only
  rw [if_pos h, ext_new E L ha hi]
  dsimp only
  rw [if_pos rfl]
/-- a user's cells, from address n0 on -/
def uBlk (n0 j : Nat) : List ACl := [.inr (10, [aI (nI j), aR (some (n0 + 1)), aR (some (n0 + 2)), aR (some (n0 + 3)), aR (some (n0 + 4)), aR (some (n0 + 6)), aI 0, aI 0, aI 0, aI 0, aI 0, aI 0, aI 0, aI 0, aI 0, aI 0, aI 0, aI 0, aI 0, aR none]), .inl (0, 4096, .inl (fun _ => 0)), .inl (0, 1024, .inl (fun _ => 0)), .inl (0, 500, .inl (fun _ => 0)), .inr (6, [aR (some (n0 + 5)), aI 0, aI 0]), .inl (0, 16, .inl (fun _ => 0)), .inr (6, [aR (some (n0 + 7)), aI 0, aI 0]), .inl (0, 16, .inl (fun _ => 0))]
def sBlk (n0 j : Nat) : List ACl := [.inr (8, [aI (nI j), aR (some (n0 + 1)), aR none, aI 0, aI 0]), .inl (0, 4096, .inl (fun _ => 0))]
def uCells (n0 : Nat) : Nat → List ACl
  | 0 => []
  | j + 1 => uCells n0 j ++ uBlk (n0 + 8 * j) j
def sCells (n0 : Nat) : Nat → List ACl
  | 0 => []
  | j + 1 => sCells n0 j ++ sBlk (n0 + 2 * j) j
theorem uCells_s (n0 j : Nat) : uCells n0 (j + 1) = uCells n0 j ++ uBlk (n0 + 8 * j) j := rfl
theorem sCells_s (n0 j : Nat) : sCells n0 (j + 1) = sCells n0 j ++ sBlk (n0 + 2 * j) j := rfl
theorem uBlk_0 (n0 j : Nat) : ∃ q, (uBlk n0 j)[0]? = some (.inr (10, q)) := ⟨_, rfl⟩
theorem sBlk_0 (n0 j : Nat) : ∃ q, (sBlk n0 j)[0]? = some (.inr (8, q)) := ⟨_, rfl⟩
theorem uCells_len (n0 j : Nat) : (uCells n0 j).length = 8 * j := by
  induction j with
  | zero => rfl
  | succ j ih => unfold uCells; rw [List.length_append, ih]; show 8 * j + 8 = _; omega
theorem sCells_len (n0 j : Nat) : (sCells n0 j).length = 2 * j := by
  induction j with
  | zero => rfl
  | succ j ih => unfold sCells; rw [List.length_append, ih]; show 2 * j + 2 = _; omega
/-- the array of what was made: every 'st' addresses one -/
def usF (n0 st j : Nat) : Nat → Option Nat := fun i => if i < j then some (n0 + st * i) else none
theorem usF_s (n0 st j : Nat) : va_up (usF n0 st j) j (some (n0 + st * j)) = usF n0 st (j + 1) := by
  funext i
  unfold va_up usF
  by_cases h : i = j
  · subst h; simp
  · by_cases h2 : i < j
    · simp [h, h2, Nat.lt_succ_of_lt h2]
    · have : ¬ i < j + 1 := by omega
      simp [h, h2, this]
/-- one more user -/
theorem mk_user (N : Nat) {μ : Mem} {a : Nat} (ha : a < μ.1) (E : ACl) (L : List ACl) (j : Nat) : f_X10_init N (some (μ.1 + L.length)) (nI j) (ext μ a E (L ++ [.inr (10, df_X10)])) = some ((), ext μ a E (L ++ uBlk (μ.1 + L.length) j)) := by
  obtain ⟨h1, h2⟩ := x_sub ha E L (.inr (10, df_X10))
  rw [k_X10 N h1 h2 (nI j), x_in ha E L _ rfl, ext_n]
  have e : (L ++ [(Sum.inr (10, df_X10) : ACl)]).length = L.length + 1 := by simp
  rw [e]
  rfl
theorem mk_slot (N : Nat) {μ : Mem} {a : Nat} (ha : a < μ.1) (E : ACl) (L : List ACl) (j : Nat) : f_X8_init N (some (μ.1 + L.length)) (nI j) (ext μ a E (L ++ [.inr (8, df_X8)])) = some ((), ext μ a E (L ++ sBlk (μ.1 + L.length) j)) := by
  obtain ⟨h1, h2⟩ := x_sub ha E L (.inr (8, df_X8))
  rw [k_X8 N h1 h2 (nI j), x_in ha E L _ rfl, ext_n]
  have e : (L ++ [(Sum.inr (8, df_X8) : ACl)]).length = L.length + 1 := by simp
  rw [e]
  rfl
theorem k_X5 (N U S : Nat) {μ : Mem} {a : Nat} (ha : a < μ.1) (hc : μ.2 a = .inr (5, df_X5)) (hU : 1 ≤ U ∧ U ≤ 6) : f_X5_init N U S (some a) (nI U) μ = some ((), ext μ a (.inr (5, [aR (some μ.1), aI 0])) [.inl (4, U, .inr (.inr (fun _ => none)))]) := by
  have hm : mmax 1 (nI U) = nI U := by
    unfold mmax
    by_cases h : U = 1
    · subst h; decide
    · rw [if_pos (show (1 : Int32) < nI U from nI_lt (a := 1) (by omega) (by omega))]
  conv => lhs; rw [ext_0 hc]
  unfold f_X5_init df_X5
  simp only [x_ck ha, x_pI ha, Option.bind_some, hm, List.length_cons, List.length_nil, List.set_cons_zero, List.set_cons_succ, Nat.zero_add, Nat.reduceAdd, Nat.reduceLT, if_true]
  rw [if_neg (fun z => z ⟨nI_pos (by omega), nI_clamp (by omega)⟩)]
  simp only [x_naR ha, x_pR ha, ext_n, Option.bind_some, List.length_cons, List.length_nil, List.nil_append, List.set_cons_zero, List.set_cons_succ, Nat.zero_add, Nat.add_zero, Nat.reduceAdd, Nat.reduceLT, if_true]
/-- House's cells when j users are made -/
def hL (n0 U : Nat) (p0 p1 : ACl) (j : Nat) : List ACl := [p0, p1, .inl (4, U, .inr (.inr (usF (n0 + 3) 8 j)))] ++ uCells (n0 + 3) j
theorem hL_len (n0 U : Nat) (p0 p1 : ACl) (j : Nat) : (hL n0 U p0 p1 j).length = 3 + 8 * j := by
  unfold hL; rw [List.length_append, uCells_len]; rfl
def ex66 (N U S : Nat) (a0 : Option Nat) (a2 a3 a4 : Int32) (μ : Mem) : Option (Unit × Mem) := if ¬ (¬ (mmax 1 a2) < 0 ∧ (mmax 1 a2).toNatClampNeg = S) then none else (some (mnaR μ 5 S)).bind fun μ3 => (mpR μ3 a0 2 1 (some μ.1)).bind fun μ4 => L_X2_init_113 N U S N 0 a0 a3 a4 0 μ4
theorem usr_loop {μ : Mem} {a : Nat} (ha : a < μ.1) (p0 p1 : ACl) (fs : List AV) (hfs : fs[0]? = some (aR (some (μ.1 + 2)))) (N U S : Nat) (hU : U ≤ 6) (a2 a3 a4 : Int32) : ∀ (n j : Nat), U < j + n → j ≤ U → L_X2_init_66 N U S n j (some a) a2 a3 a4 (nI j) (ext μ a (.inr (2, fs)) (hL μ.1 U p0 p1 j)) = ex66 N U S (some a) a2 a3 a4 (ext μ a (.inr (2, fs)) (hL μ.1 U p0 p1 U)) := by
  intro n
  induction n with
  | zero => intro j h1 h2; omega
  | succ n ih =>
    intro j h1 h2
    show H_X2_init_66 N U S (L_X2_init_66 N U S n) j (some a) a2 a3 a4 (nI j) _ = _
    unfold H_X2_init_66
    have hal : mal (ext μ a (.inr (2, fs)) (hL μ.1 U p0 p1 j)) (some (μ.1 + 2)) = some (nI U) := x_al (i := 2) ha _ _ (f := .inr (.inr (usF (μ.1 + 3) 8 j))) rfl (by decide)
    simp only [x_fR ha, hfs, fR, Option.bind_some, hal]
    by_cases hk : U ≤ j
    · have : j = U := by omega
      subst this
      rw [if_pos (nI_le (Nat.le_refl _) (by omega)), if_neg (fun z => z rfl)]
      rfl
    · rw [if_neg (nI_ge (by omega) (by omega)), if_neg (fun z => z (by omega))]
      rw [ext_madd ha, ext_n, mk_user N ha]
      simp only [Option.bind_some]
      have hlen := hL_len μ.1 U p0 p1 j
      have hck : mck (ext μ a (.inr (2, fs)) (hL μ.1 U p0 p1 j ++ uBlk (μ.1 + (hL μ.1 U p0 p1 j).length) j)) (some (μ.1 + (hL μ.1 U p0 p1 j).length)) 10 = some (μ.1 + (hL μ.1 U p0 p1 j).length) := by
        obtain ⟨q, hq⟩ := uBlk_0 (μ.1 + (hL μ.1 U p0 p1 j).length) j
        exact x_ckN ha _ _ (fs := q) (by rw [List.getElem?_append_right (Nat.le_refl _), Nat.sub_self]; exact hq)
      rw [x_bR (i := 2) (f := usF (μ.1 + 3) 8 j) ha _ _ rfl (by omega) (by omega) hck]
      simp only [Option.bind_some]
      rw [nI_1]
      have e : (hL μ.1 U p0 p1 j ++ uBlk (μ.1 + (hL μ.1 U p0 p1 j).length) j).set 2 (.inl (4, U, .inr (.inr (va_up (usF (μ.1 + 3) 8 j) j (some (μ.1 + (hL μ.1 U p0 p1 j).length)))))) = hL μ.1 U p0 p1 (j + 1) := by
        rw [hlen, show μ.1 + (3 + 8 * j) = μ.1 + 3 + 8 * j by omega, usF_s]
        unfold hL
        rw [uCells_s, List.append_assoc]
        rfl
      rw [e]
      exact ih (j + 1) (by omega) (by omega)
/-- House's cells when j slots are made, K0 being what was there before the array of slots -/
def gL (n0 S : Nat) (K0 : List ACl) (j : Nat) : List ACl := K0 ++ ([.inl (5, S, .inr (.inr (usF (n0 + K0.length + 1) 2 j)))] ++ sCells (n0 + K0.length + 1) j)
theorem gL_len (n0 S : Nat) (K0 : List ACl) (j : Nat) : (gL n0 S K0 j).length = K0.length + (1 + 2 * j) := by
  unfold gL; rw [List.length_append, List.length_append, sCells_len]; rfl
theorem gL_at (n0 S : Nat) (K0 : List ACl) (j : Nat) : (gL n0 S K0 j)[K0.length]? = some (.inl (5, S, .inr (.inr (usF (n0 + K0.length + 1) 2 j)))) := by
  unfold gL; rw [List.getElem?_append_right (Nat.le_refl _), Nat.sub_self]; rfl
def ex113 (N U S : Nat) (a0 : Option Nat) (a3 a4 : Int32) (μ : Mem) : Option (Unit × Mem) := (some (madd μ (.inr (5, df_X5)))).bind fun μ3 => (mfR μ3 a0 2 0).bind fun v4 => (mal μ3 v4).bind fun v5 => (f_X5_init N U S (some μ.1) v5 μ3).bind fun q6 => (mpR q6.2 a0 2 2 (some μ.1)).bind fun μ7 => (mpI μ7 a0 2 5 a3).bind fun μ8 => (mpI μ8 a0 2 6 a4).bind fun μ9 => some ((), μ9)
theorem slt_loop {μ : Mem} {a : Nat} (ha : a < μ.1) (K0 : List ACl) (fs : List AV) (hfs : fs[1]? = some (aR (some (μ.1 + K0.length)))) (N U S : Nat) (hS : S ≤ 4) (a3 a4 : Int32) : ∀ (n j : Nat), S < j + n → j ≤ S → L_X2_init_113 N U S n j (some a) a3 a4 (nI j) (ext μ a (.inr (2, fs)) (gL μ.1 S K0 j)) = ex113 N U S (some a) a3 a4 (ext μ a (.inr (2, fs)) (gL μ.1 S K0 S)) := by
  intro n
  induction n with
  | zero => intro j h1 h2; omega
  | succ n ih =>
    intro j h1 h2
    show H_X2_init_113 N U S (L_X2_init_113 N U S n) j (some a) a3 a4 (nI j) _ = _
    unfold H_X2_init_113
    have hal : mal (ext μ a (.inr (2, fs)) (gL μ.1 S K0 j)) (some (μ.1 + K0.length)) = some (nI S) := x_al ha _ _ (gL_at μ.1 S K0 j) (by decide)
    simp only [x_fR ha, hfs, fR, Option.bind_some, hal]
    by_cases hk : S ≤ j
    · have : j = S := by omega
      subst this
      rw [if_pos (nI_le (Nat.le_refl _) (by omega)), if_neg (fun z => z rfl)]
      rfl
    · rw [if_neg (nI_ge (by omega) (by omega)), if_neg (fun z => z (by omega))]
      rw [ext_madd ha, ext_n, mk_slot N ha]
      simp only [Option.bind_some]
      have hlen := gL_len μ.1 S K0 j
      have hck : mck (ext μ a (.inr (2, fs)) (gL μ.1 S K0 j ++ sBlk (μ.1 + (gL μ.1 S K0 j).length) j)) (some (μ.1 + (gL μ.1 S K0 j).length)) 8 = some (μ.1 + (gL μ.1 S K0 j).length) := by
        obtain ⟨q, hq⟩ := sBlk_0 (μ.1 + (gL μ.1 S K0 j).length) j
        exact x_ckN ha _ _ (fs := q) (by rw [List.getElem?_append_right (Nat.le_refl _), Nat.sub_self]; exact hq)
      have hat : (gL μ.1 S K0 j ++ sBlk (μ.1 + (gL μ.1 S K0 j).length) j)[K0.length]? = some (.inl (5, S, .inr (.inr (usF (μ.1 + K0.length + 1) 2 j)))) := by
        rw [List.getElem?_append_left (by rw [hlen]; omega)]
        exact gL_at μ.1 S K0 j
      rw [x_bR ha _ _ hat (by omega) (by omega) hck]
      simp only [Option.bind_some]
      rw [nI_1]
      have e : (gL μ.1 S K0 j ++ sBlk (μ.1 + (gL μ.1 S K0 j).length) j).set K0.length (.inl (5, S, .inr (.inr (va_up (usF (μ.1 + K0.length + 1) 2 j) j (some (μ.1 + (gL μ.1 S K0 j).length)))))) = gL μ.1 S K0 (j + 1) := by
        rw [hlen, show μ.1 + (K0.length + (1 + 2 * j)) = μ.1 + K0.length + 1 + 2 * j by omega, usF_s]
        unfold gL
        rw [sCells_s, List.append_assoc, List.append_assoc, List.set_append_right _ _ (Nat.le_refl _), Nat.sub_self]
        rfl
      rw [e]
      exact ih (j + 1) (by omega) (by omega)
