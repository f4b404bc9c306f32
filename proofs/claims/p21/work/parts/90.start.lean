/-! THE LAW'S ENTRY: classes, arrays, constants; then what is left is a statement about functions -/
def fl0 : List Cond := flatC (Jvm.Cond.and given_1 narrow_1)
def stm (i : Nat) : Term := match i with
  | 0 => Term.string "ShareEight$Names" 32
  | 1 => Term.string "ShareEight$Tokens" 89
  | 2 => Term.string "ShareEightModel" 101
  | _ => Term.string "ShareEightModel" 107
def soff (i : Nat) : Nat := match i with
  | 0 => 120
  | 1 => 345
  | 2 => 384
  | _ => 581
theorem st_fv : (List.range 53).all (fun j => decide (fl0[7 + j]? = some (Cond.eq (.elem (Term.static "ShareEight$Names" "FIXED_VALUES" "[I") (.int (Int32.ofNat j))) (.int (x_fv.getD j 0))))) = true := by decide +kernel
theorem st_cd : (List.range 48).all (fun j => decide (fl0[68 + j]? = some (Cond.eq (.elem (Term.static "ShareEightModel" "CODES" "[I") (.int (Int32.ofNat j))) (.int (x_cd.getD j 0))))) = true := by decide +kernel
theorem st_by : (List.range 4).all (fun i => (List.range (x_len.getD i 0)).all (fun j => decide (fl0[soff i + j]? = some (Cond.eq (.elem (Term.field (stm i) "java/lang/String" "value" "[B") (.int (Int32.ofNat j))) (.int ((x_byt.getD i []).getD j 0)))))) = true := by decide +kernel
theorem st_hd : (List.range 4).all (fun i => decide (fl0[soff i - 4]? = some (Cond.exactly (stm i) "java/lang/String") ∧ fl0[soff i - 3]? = some (Cond.eq (.field (stm i) "java/lang/String" "coder" "B") (.int 0)) ∧ fl0[soff i - 2]? = some (Cond.arrayOf (Term.field (stm i) "java/lang/String" "value" "[B") .byte) ∧ fl0[soff i - 1]? = some (Cond.eq (.length (Term.field (stm i) "java/lang/String" "value" "[B")) (.int (Int32.ofNat (x_len.getD i 0)))))) = true := by decide +kernel
theorem all_at {n : Nat} {p : Nat → Bool} (h : (List.range n).all p = true) {i : Nat} (hi : i < n) : p i = true := List.all_eq_true.mp h i (List.mem_range.mpr hi)

theorem st_ne : (fl0[359]? = some (Cond.not (Cond.eq (stm 0) (stm 1)))) ∧ (fl0[574]? = some (Cond.not (Cond.eq (stm 0) (stm 2)))) ∧ (fl0[612]? = some (Cond.not (Cond.eq (stm 0) (stm 3)))) ∧ (fl0[575]? = some (Cond.not (Cond.eq (stm 1) (stm 2)))) ∧ (fl0[613]? = some (Cond.not (Cond.eq (stm 1) (stm 3)))) ∧ (fl0[615]? = some (Cond.not (Cond.eq (stm 2) (stm 3)))) := by decide +kernel
set_option maxHeartbeats 4000000 in
theorem ext_start {s : State} {b L : Nat} {xs : Nat → Int32} (D : va_G) (tys : List (ClassId × FieldType)) (hL : L ≤ 3076) (hts : ∀ w ∈ lw_tbl, w.before #[Value.ref b] s = true) (hX : va_X b L xs s s.heap) (hbl : b < s.heap.size) (hgv : (Jvm.Cond.and given_1 narrow_1).before #[Value.ref b] s = true) : ∃ ext : Nat → Nat, ext 2 = b ∧ Ext ((s.heap.size, ext, L, xs), D, tys) s := by
  have hfl : ∀ c ∈ fl0, c.before #[Value.ref b] s = true := flat_of_before _ hgv
  have hA : ∀ a : Nat, a < s.heap.size → ¬ (fun q : Nat => s.heap.size ≤ q) a := fun a h => Nat.not_le.mpr h
  obtain ⟨t0, e0, T0⟩ := va_Tof (args := #[Value.ref b]) (s := s) (tm := (Term.static "ShareEight$Names" "FIXED_VALUES" "[I")) (ty := .int) (N := 53) (f := fun j => .int (x_fv.getD j 0)) (A := fun q : Nat => s.heap.size ≤ q) (by decide) (hfl _ (List.mem_of_getElem? (i := 5) (by decide +kernel))) (va_eqt (hfl _ (List.mem_of_getElem? (i := 6) (by decide +kernel)))) (fun j hj => va_eqt (hfl _ (List.mem_of_getElem? (of_decide_eq_true (all_at st_fv hj))))) hA
  obtain ⟨t1, e1, T1⟩ := va_Tof (args := #[Value.ref b]) (s := s) (tm := (Term.static "ShareEightModel" "CODES" "[I")) (ty := .int) (N := 48) (f := fun j => .int (x_cd.getD j 0)) (A := fun q : Nat => s.heap.size ≤ q) (by decide) (hfl _ (List.mem_of_getElem? (i := 66) (by decide +kernel))) (va_eqt (hfl _ (List.mem_of_getElem? (i := 67) (by decide +kernel)))) (fun j hj => va_eqt (hfl _ (List.mem_of_getElem? (of_decide_eq_true (all_at st_cd hj))))) hA
  have hhd := fun (i : Nat) (hi : i < 4) => of_decide_eq_true (all_at st_hd hi)
  obtain ⟨adK, adV, hE, hev⟩ := vk_Sof (args := #[Value.ref b]) (s := s) (N := 4) (tm := stm) (len := x_len) (byt := x_byt) (A := fun q : Nat => s.heap.size ≤ q)
    (fun i hi => by have := slen_lt hi; unfold slen at this; omega)
    (fun i hi => hfl _ (List.mem_of_getElem? (hhd i hi).1)) (fun i hi => hfl _ (List.mem_of_getElem? (hhd i hi).2.1)) (fun i hi => hfl _ (List.mem_of_getElem? (hhd i hi).2.2.1)) (fun i hi => hfl _ (List.mem_of_getElem? (hhd i hi).2.2.2))
    (fun i hi j hj => hfl _ (List.mem_of_getElem? (of_decide_eq_true (all_at (all_at st_by hi) hj))))
    (fun i j hi hj hij => by
      obtain ⟨n01, n02, n03, n12, n13, n23⟩ := st_ne
      rcases i with _ | _ | _ | _ | i <;> rcases j with _ | _ | _ | _ | j <;> first | omega | exact absurd rfl hij | exact Or.inl (hfl _ (List.mem_of_getElem? n01)) | exact Or.inl (hfl _ (List.mem_of_getElem? n02)) | exact Or.inl (hfl _ (List.mem_of_getElem? n03)) | exact Or.inl (hfl _ (List.mem_of_getElem? n12)) | exact Or.inl (hfl _ (List.mem_of_getElem? n13)) | exact Or.inl (hfl _ (List.mem_of_getElem? n23)) | exact Or.inr (hfl _ (List.mem_of_getElem? n01)) | exact Or.inr (hfl _ (List.mem_of_getElem? n02)) | exact Or.inr (hfl _ (List.mem_of_getElem? n03)) | exact Or.inr (hfl _ (List.mem_of_getElem? n12)) | exact Or.inr (hfl _ (List.mem_of_getElem? n13)) | exact Or.inr (hfl _ (List.mem_of_getElem? n23))) hA
  have hZq : va_Zq "jdk/internal/util/Preconditions" "SIOOBE_FORMATTER" "Ljava/util/function/BiFunction;" (fun q : Nat => s.heap.size ≤ q) s s.heap := va_Zqof (hts _ (List.mem_append_right _ (tin1 (List.mem_of_getElem? (i := 70) (by decide +kernel))))) (hts _ (List.mem_append_right _ (tin1 (List.mem_of_getElem? (i := 6) (by decide +kernel))))) (hfl _ (List.mem_of_getElem? (i := 61) (by decide +kernel))) hA
  obtain ⟨t30, hq⟩ : ∃ t30 : Nat, va_Z "jdk/internal/util/Preconditions" "SIOOBE_FORMATTER" "Ljava/util/function/BiFunction;" .null (fun q : Nat => s.heap.size ≤ q) s s.heap ∨ va_Z "jdk/internal/util/Preconditions" "SIOOBE_FORMATTER" "Ljava/util/function/BiFunction;" (.ref t30) (fun q : Nat => s.heap.size ≤ q) s s.heap := by
    rcases hZq with h | ⟨t, h⟩
    · exact ⟨0, Or.inl h⟩
    · exact ⟨t, Or.inr h⟩
  have hcs : va_Z "java/lang/String" "COMPACT_STRINGS" "Z" (.int 1) (fun q : Nat => s.heap.size ≤ q) s s.heap := va_Zof (hts _ (List.mem_append_right _ (tin1 (List.mem_of_getElem? (i := 54) (by decide +kernel))))) (hts _ (List.mem_append_right _ (tin1 (List.mem_of_getElem? (i := 4) (by decide +kernel))))) (va_eqi (hfl _ (List.mem_of_getElem? (i := 60) (by decide +kernel)))) hA
  have hz0 := va_Zref (A := fun q : Nat => s.heap.size ≤ q) (hts _ (List.mem_append_right _ (tin1 (List.mem_of_getElem? (i := 43) (by decide +kernel))))) (hts _ (List.mem_append_right _ (tin1 (List.mem_of_getElem? (i := 3) (by decide +kernel))))) e0 hA
  have hz1 := va_Zref (A := fun q : Nat => s.heap.size ≤ q) (hts _ (List.mem_append_right _ (tin6 (List.mem_of_getElem? (i := 93) (by decide +kernel))))) (hts _ (List.mem_append_right _ (tin1 (List.mem_of_getElem? (i := 19) (by decide +kernel))))) e1 hA
  have hsame : (Term.string "ShareEightModel" 67).eval #[Value.ref b] s none [] s = some (.ref (adK 1)) := by
    obtain ⟨y, h1, h2⟩ := Cond.eq_one (show (Cond.eq (Term.string "ShareEight$Tokens" 89) (Term.string "ShareEightModel" 67)).holds #[Value.ref b] s none s [] = true from (hfl _ (List.mem_of_getElem? (i := 379) (by decide +kernel))))
    have h3 := hev 1 (by decide)
    have h4 : some y = some (Value.ref (adK 1)) := h1.symm.trans h3
    rw [h2, h4]
  obtain ⟨scr, x1, x2, x3, x4, x5⟩ := hX
  have hT2 : va_T .int b L (fun j => .int (xs j)) (fun q : Nat => s.heap.size ≤ q) s s.heap := ⟨scr, x1, x2, x3, by omega, by rw [x4], x5, Nat.not_le.mpr hbl⟩
  refine ⟨fun k => if k = 0 then t0 else if k = 1 then t1 else if k = 2 then b else if k = 30 then t30 else if k < 20 then adK (k - 10) else adV (k - 20), rfl, ?_⟩
  have eK : ∀ i, i < 4 → (fun k => if k = 0 then t0 else if k = 1 then t1 else if k = 2 then b else if k = 30 then t30 else if k < 20 then adK (k - 10) else adV (k - 20)) (10 + i) = adK i := fun i hi => by
    dsimp only
    rw [if_neg (by omega), if_neg (by omega), if_neg (by omega), if_neg (by omega), if_pos (by omega), Nat.add_sub_cancel_left]
  have eV : ∀ i, i < 4 → (fun k => if k = 0 then t0 else if k = 1 then t1 else if k = 2 then b else if k = 30 then t30 else if k < 20 then adK (k - 10) else adV (k - 20)) (20 + i) = adV i := fun i hi => by
    dsimp only
    rw [if_neg (by omega), if_neg (by omega), if_neg (by omega), if_neg (by omega), if_neg (by omega), Nat.add_sub_cancel_left]
  refine ⟨hz0, T0, hz1, T1, hcs, ⟨fun i hi => ?_, fun i j hi hj h => hE.2 i j hi hj ?_⟩, hT2, hq, vk_R.of (A := #[Value.ref b]) (hts _ (List.mem_append_right _ (tin1 (List.mem_of_getElem? (i := 44) (by decide +kernel))))) (hev 0 (by decide)), vk_R.of (A := #[Value.ref b]) (hts _ (List.mem_append_right _ (tin3 (List.mem_of_getElem? (i := 102) (by decide +kernel))))) (hev 1 (by decide)), vk_R.of (A := #[Value.ref b]) (hts _ (List.mem_append_right _ (tin6 (List.mem_of_getElem? (i := 38) (by decide +kernel))))) hsame, vk_R.of (A := #[Value.ref b]) (hts _ (List.mem_append_right _ (tin6 (List.mem_of_getElem? (i := 56) (by decide +kernel))))) (hev 2 (by decide)), vk_R.of (A := #[Value.ref b]) (hts _ (List.mem_append_right _ (tin6 (List.mem_of_getElem? (i := 63) (by decide +kernel))))) (hev 3 (by decide))⟩
  · have h1 := eK i hi
    have h2 := eV i hi
    have h3 := hE.1 i hi
    rw [← h1, ← h2] at h3
    exact h3
  · have h1 := eK i hi
    have h2 := eK j hj
    exact h1.symm.trans (Eq.trans h h2)

