/-! LAYER 0, the JDK's methods of texts, Math, Arrays.fill -/
theorem v_nret {x : CX} {l : Launch} {g : CG} {M : MI} {nL k n : Nat} {μ0 μ μ9 : Mem} {pc : Nat} {lv : LV} {v rv : Int32} {ty : FieldType} (C : Cx x l g M) (F : Prom x g M μ0 (some (aI rv)) μ9) (hM : M.2.2.2.2.1 = some ty ∧ k = M.2.2.2.2.2.cells ∧ n ≤ M.2.2.2.2.2.slots) (hz : narrow ty (.int v) = .int v) (d : decode M.1 pc = .ok (.ireturn, 1)) (h : some (v, μ) = some (rv, μ9)) : V x g nL k n μ pc lv [aI v] := by
  cases h
  obtain ⟨p, l0, e, R, s, m, args, below, meth, c, Q⟩ := x
  intro h0 H locs ls h1 h2 h3
  obtain ⟨hr, rfl, hn⟩ := hM
  have hQ : Q = MQ below (CtQ g M μ0 (some (aI v)) μ) args s M.2.2.2.2.2.cells M.2.2.2.2.2.slots (fun q => g.1.1 ≤ q) := F.2
  show W p l0 e R s m args below meth c H locs M.2.2.2.2.2.cells n Q (F0 m pc ls ([aI v].map (av_v g.1)))
  rw [hQ]
  exact W.widen (Nat.le_refl _) hn (W.zret C.1 C.2.1 (C.2.2.2.2.2.2.2.2.2.2.1.trans hr) hz (fun t ht _ => v_end (r := some (aI v)) (n := n) C F rfl h0 h1 h2 t ht) h2.2.2 d C.2.2.2.2.2.2.1)
theorem v_i2b {x : CX} {l : Launch} {g : CG} {M : MI} {nL k n : Nat} {μ : Mem} {pc : Nat} {lv : LV} {st : List AV} (C : Cx x l g M) {a : Int32} (d : decode M.1 pc = .ok (.i2b, 1)) (kk : V x g nL k n μ (pc + 1) lv (aI a.toInt8.toInt32 :: st)) : V x g nL k n μ pc lv (aI a :: st) := by
  obtain ⟨p, l0, e, R, s, m, args, below, meth, c, Q⟩ := x
  intro h0 H locs ls h1 h2 h3
  exact lv_i2b C.1 C.2.1 d rfl (kk h0 H locs ls h1 h2 h3)
def CfX (own : String) (idx : Nat) (y : MethodName) (M : MI) (n : Nat) : Prop := CfB own idx y M n ∧ Cond.instanceMethod y ∈ lw_ok ∧ Cond.selects y.cls y y ∈ lw_ok ∧ y.cls = "java/lang/String"
theorem v_callX {x : CX} {l : Launch} {g : CG} {M M' : MI} {nL k n idx nn b' : Nat} {μ μ' : Mem} {pc : Nat} {lv : LV} {st stk As : List AV} {y : MethodName} {r : Option AV} (C : Cx x l g M) (d : decode M.1 pc = .ok (.invokevirtual idx, 3)) (cf : CfX M.2.2.1 idx y M' nn) (hR : Rm M M' k n) (hL : M.2.1 = nL ∧ As.length = nn) (hrec : ∃ i, i < 4 ∧ b' = 10 + i) (hst : stk = As.reverse ++ aX b' :: st) (hw8 : stw g.1 st ≤ 8) (hc : Ct l y M' g (aX b' :: As) μ r μ') (kk : V x g nL (k + M'.2.2.2.2.2.cells) (n + M'.2.2.2.2.2.slots) μ' (pc + 3) lv (r.toList ++ st)) : V x g nL k n μ pc lv stk := by
  refine v_sz C fun H locs ls h0 hz h1 h2 h3 => ?_
  obtain ⟨i, hi, rfl⟩ := hrec
  have pre := ctP_pre (av := aX (10 + i) :: As) C hz h1 h2
  refine v_back C h0 hz h2 h3 (a := ((aX (10 + i) :: As).map (av_v g.1)).toArray) ?_ kk
  obtain ⟨p, l0, e, R, s, m, args, below, meth, c, Q⟩ := x
  obtain ⟨⟨c1, c2, c3, c4, c5, c6⟩, c7, c8, c9⟩ := cf
  obtain ⟨hR1, hR2⟩ := hR
  have hRR : R = M.2.2.2.2.2 := C.2.2.2.2.2.2.2.2.2.1
  have hll : l0 = l := C.2.2.2.2.2.2.2.2.1
  subst hll
  have hstack : (F0 m pc ls (stk.map (av_v g.1))).stack = (As.map (av_v g.1)).reverse ++ .ref (g.1.2.1 (10 + i)) :: st.map (av_v g.1) := by
    subst hst
    show (As.reverse ++ aX (10 + i) :: st).map (av_v g.1) = _
    rw [List.map_append, List.map_reverse]
    rfl
  have hpv : PreV s H y.cls (g.1.2.1 (10 + i)) (CtP g (aX (10 + i) :: As) μ) (As.map (av_v g.1)) := ⟨pre.1, by rw [c9]; exact vk_recv (i := i) (Cex C).2.2.2.2.2.1 hi h2, pre.2⟩
  have fix : CallFix p m c M.1 M.2.1 s args lw_ok M.2.2.1 := ⟨C.1, C.2.1, C.2.2.1, C.2.2.2.1, C.2.2.2.2.1⟩
  have hsz : (F0 m pc ls (stk.map (av_v g.1))).locals.size = M.2.1 := by rw [hL.1]; exact h3.1
  have hlen : (As.map (av_v g.1)).length = nn := by rw [List.length_map]; exact hL.2
  have hw0 : 2 * (F0 m pc ls (stk.map (av_v g.1))).monitorRoom + ((st.map (av_v g.1)).map fun v => v.category).sum ≤ 8 := by show 2 * 0 + _ ≤ 8; rw [Nat.mul_zero, Nat.zero_add, stw_eq]; exact hw8
  rcases c3 with c3 | ⟨host, c3⟩
  · exact va_runV fix hc ⟨callB_of nn C.2.2.2.2.1 (ws_good c1) rfl rfl rfl (C.2.2.2.2.1 _ c2) (C.2.2.2.2.1 _ c3) ⟨c4, c5, c6⟩ (by rw [hRR]; exact hR1), C.2.2.2.2.1 _ c7, C.2.2.2.2.1 _ c8⟩ hpv rfl hlen hsz hstack hw0 d (by rw [hRR]; exact hR2)
  · exact va_runVN fix hc ⟨va_cnB nn C.2.2.2.2.1 (ws_good c1) rfl rfl rfl (Cns C _ c3) (C.2.2.2.2.1 _ c2) ⟨c4, c5, c6⟩ (by rw [hRR]; exact hR1), C.2.2.2.2.1 _ c7, C.2.2.2.2.1 _ c8⟩ hpv rfl hlen hsz hstack hw0 d (by rw [hRR]; exact hR2)
theorem c_coder (l : Launch) (g : CG) {i : Nat} (hi : i < 4) (μ : Mem) : Ct l yJ0_coder_7d493 mi_J0_coder_7d493 g [aX (10 + i)] μ (some (aI 0)) μ := ct_of ⟨by decide, rfl, rfl⟩ (Nat.le_of_ble_eq_true rfl) fun x C F => by
  refine v_getsC C dJ0_coder_7d493_0 (ok1 53 (by decide +kernel) rfl) ?_
  refine v_if_eq (tgt := 13) C dJ0_coder_7d493_3 (by decide) (fun c => absurd c (by decide)) (fun c => ?_)
  refine v_aloadX_n C dJ0_coder_7d493_6 rfl ?_
  refine v_xcod C dJ0_coder_7d493_7 hi (ok8 93 (by decide +kernel) rfl) ?_
  refine v_goto (tgt := 14) C dJ0_coder_7d493_10 (by decide) ?_
  exact v_nret C F ⟨rfl, rfl, Nat.le_refl _⟩ rfl dJ0_coder_7d493_14 rfl
theorem c_isL (l : Launch) (g : CG) {i : Nat} (hi : i < 4) (μ : Mem) : Ct l yJ0_isLatin1_aae02 mi_J0_isLatin1_aae02 g [aX (10 + i)] μ (some (aI 1)) μ := ct_of ⟨by decide, rfl, rfl⟩ (Nat.le_of_ble_eq_true rfl) fun x C F => by
  refine v_getsC C dJ0_isLatin1_aae02_0 (ok1 53 (by decide +kernel) rfl) ?_
  refine v_if_eq (tgt := 17) C dJ0_isLatin1_aae02_3 (by decide) (fun c => absurd c (by decide)) (fun c => ?_)
  refine v_aloadX_n C dJ0_isLatin1_aae02_6 rfl ?_
  refine v_xcod C dJ0_isLatin1_aae02_7 hi (ok8 93 (by decide +kernel) rfl) ?_
  refine v_if_ne (tgt := 17) C dJ0_isLatin1_aae02_10 (by decide) (fun c => absurd rfl c) (fun c => ?_)
  refine v_iconst (v := 1) C dJ0_isLatin1_aae02_13 rfl ?_
  refine v_goto (tgt := 18) C dJ0_isLatin1_aae02_14 (by decide) ?_
  exact v_nret C F ⟨rfl, rfl, Nat.le_refl _⟩ rfl dJ0_isLatin1_aae02_18 rfl
def slen (i : Nat) : Nat := x_len.getD i 0
theorem shr0 (a : Int32) : a >>> ((0 : Int32) &&& 31) = a := by
  show a >>> (0 : Int32) = a
  exact Int32.toBitVec_inj.mp (by simp)
theorem c_len (l : Launch) (g : CG) {i : Nat} (hi : i < 4) (μ : Mem) : Ct l yJ0_length_8abf5 mi_J0_length_8abf5 g [aX (10 + i)] μ (some (aI (Int32.ofNat (slen i)))) μ := ct_of ⟨by decide, rfl, rfl⟩ (Nat.le_of_ble_eq_true rfl) fun x C F => by
  refine v_aloadX_n C dJ0_length_8abf5_0 rfl ?_
  refine v_xval C dJ0_length_8abf5_1 hi (ok8 92 (by decide +kernel) rfl) ?_
  refine v_xlb C dJ0_length_8abf5_4 hi ?_
  refine v_aloadX_n C dJ0_length_8abf5_5 rfl ?_
  refine v_callX (As := []) C dJ0_length_8abf5_6 ⟨⟨(ok1 52 rfl rfl), (ok1 4 (by decide +kernel) rfl), Or.inl (ok1 49 (by decide +kernel) rfl), by decide, by decide, rfl⟩, (ok1 50 (by decide +kernel) rfl), (ok1 51 (by decide +kernel) rfl), rfl⟩ ⟨⟨Nat.le_of_ble_eq_true rfl, Nat.le_of_ble_eq_true rfl⟩, Nat.le_of_ble_eq_true rfl, Nat.le_of_ble_eq_true rfl⟩ ⟨rfl, rfl⟩ ⟨i, hi, rfl⟩ rfl (Nat.le_of_ble_eq_true rfl) (c_coder _ _ hi _) ?_
  refine v_ishr C dJ0_length_8abf5_9 ?_
  refine v_iret C F ⟨rfl, rfl, Nat.le_refl _⟩ dJ0_length_8abf5_10 ?_
  rw [shr0]
  rfl
theorem c_pchk (l : Launch) (g : CG) {a b : Int32} (h1 : ¬ a < 0) (h2 : a < b) {o : AV} (ho : o = aR none ∨ o = aX 30) (μ : Mem) : Ct l yJ3_checkIndex_8e157 mi_J3_checkIndex_8e157 g [aI a, aI b, o] μ (some (aI a)) μ := ct_of ⟨by decide, rfl, rfl⟩ (by rcases ho with rfl | rfl <;> exact Nat.le_of_ble_eq_true rfl) fun x C F => by
  refine v_iload_n C dJ3_checkIndex_8e157_0 rfl ?_
  refine v_if_lt (tgt := 9) C dJ3_checkIndex_8e157_1 (by decide) (fun c => absurd c h1) (fun c => ?_)
  refine v_iload_n C dJ3_checkIndex_8e157_4 rfl ?_
  refine v_iload_n C dJ3_checkIndex_8e157_5 rfl ?_
  refine v_icmp_lt (tgt := 16) C dJ3_checkIndex_8e157_6 (by decide) (fun c => ?_) (fun c => absurd h2 c)
  refine v_iload_n C dJ3_checkIndex_8e157_16 rfl ?_
  exact v_iret C F ⟨rfl, rfl, Nat.le_refl _⟩ dJ3_checkIndex_8e157_17 rfl
theorem c_chk (l : Launch) (g : CG) {a b : Int32} (h1 : ¬ a < 0) (h2 : a < b) (μ : Mem) : Ct l yJ0_checkIndex_df160 mi_J0_checkIndex_df160 g [aI a, aI b] μ none μ := ct_of ⟨by decide, rfl, rfl⟩ (Nat.le_of_ble_eq_true rfl) fun x C F => by
  refine v_iload_n C dJ0_checkIndex_df160_0 rfl ?_
  refine v_iload_n C dJ0_checkIndex_df160_1 rfl ?_
  refine v_getsF C dJ0_checkIndex_df160_2 (ok1 69 (by decide +kernel) rfl) fun o ho => ?_
  refine v_callS (As := [_, _, _]) C dJ0_checkIndex_df160_5 ⟨⟨(ok1 73 rfl rfl), (ok1 6 (by decide +kernel) rfl), Or.inl (ok1 71 (by decide +kernel) rfl), by decide, by decide, rfl⟩, (ok1 72 (by decide +kernel) rfl)⟩ ⟨⟨Nat.le_of_ble_eq_true rfl, Nat.le_of_ble_eq_true rfl⟩, Nat.le_of_ble_eq_true rfl, Nat.le_of_ble_eq_true rfl⟩ ⟨rfl, rfl⟩ rfl (Nat.le_of_ble_eq_true rfl) (c_pchk _ _ h1 h2 ho _) ?_
  refine v_pop C dJ0_checkIndex_df160_8 rfl ?_
  exact v_vret C F ⟨rfl, rfl, Nat.le_refl _⟩ dJ0_checkIndex_df160_9 rfl
/-- charAt -/
def schr (i : Nat) (j : Int32) : Int32 := (((x_byt.getD i []).getD j.toNatClampNeg 0 &&& 255).toUInt32 % 65536).toInt32
theorem lt_len {i : Nat} (hi : i < 4) {j : Int32} (h : ¬ (j < 0 ∨ slen i ≤ j.toNatClampNeg)) : ¬ j < 0 ∧ j < Int32.ofNat (slen i) := by
  refine ⟨fun z => h (Or.inl z), ?_⟩
  have h0 : ¬ j < 0 := fun z => h (Or.inl z)
  have h1 : j.toNatClampNeg < slen i := Nat.not_le.mp fun z => h (Or.inr z)
  have hs : slen i < 1000 := by
    rcases i with _ | _ | _ | _ | i
    · decide
    · decide
    · decide
    · decide
    · omega
  obtain ⟨q, hq, rfl⟩ := nI_of h0
  rw [nI_clamp hq] at h1
  exact nI_lt h1 (by omega)
theorem c_lchr (l : Launch) (g : CG) {i : Nat} (hi : i < 4) {j : Int32} (hj : ¬ (j < 0 ∨ slen i ≤ j.toNatClampNeg)) (μ : Mem) : Ct l yJ1_charAt_3b067 mi_J1_charAt_3b067 g [aX (20 + i), aI j] μ (some (aI (schr i j))) μ := ct_of ⟨by decide, rfl, rfl⟩ (Nat.le_of_ble_eq_true rfl) fun x C F => by
  obtain ⟨h1, h2⟩ := lt_len hi hj
  refine v_iload_n C dJ1_charAt_3b067_0 rfl ?_
  refine v_aloadX_n C dJ1_charAt_3b067_1 rfl ?_
  refine v_xlb C dJ1_charAt_3b067_2 hi ?_
  refine v_callS (As := [_, _]) C dJ1_charAt_3b067_3 ⟨⟨(ok1 68 rfl rfl), (ok1 4 (by decide +kernel) rfl), Or.inl (ok1 66 (by decide +kernel) rfl), by decide, by decide, rfl⟩, (ok1 67 (by decide +kernel) rfl)⟩ ⟨⟨Nat.le_of_ble_eq_true rfl, Nat.le_of_ble_eq_true rfl⟩, Nat.le_of_ble_eq_true rfl, Nat.le_of_ble_eq_true rfl⟩ ⟨rfl, rfl⟩ rfl (Nat.le_of_ble_eq_true rfl) (c_chk _ _ h1 h2 _) ?_
  refine v_aloadX_n C dJ1_charAt_3b067_6 rfl ?_
  refine v_iload_n C dJ1_charAt_3b067_7 rfl ?_
  refine v_xbl C dJ1_charAt_3b067_8 hi hj ?_
  refine v_sipush (v := 255) C dJ1_charAt_3b067_9 rfl ?_
  refine v_iand C dJ1_charAt_3b067_12 ?_
  refine v_i2c C dJ1_charAt_3b067_13 ?_
  exact v_nret C F ⟨rfl, rfl, Nat.le_refl _⟩ (pk_nc _) dJ1_charAt_3b067_14 rfl
theorem c_chr (l : Launch) (g : CG) {i : Nat} (hi : i < 4) {j : Int32} (hj : ¬ (j < 0 ∨ slen i ≤ j.toNatClampNeg)) (μ : Mem) : Ct l yJ0_charAt_5068e mi_J0_charAt_5068e g [aX (10 + i), aI j] μ (some (aI (schr i j))) μ := ct_of ⟨by decide, rfl, rfl⟩ (Nat.le_of_ble_eq_true rfl) fun x C F => by
  refine v_aloadX_n C dJ0_charAt_5068e_0 rfl ?_
  refine v_callX (As := []) C dJ0_charAt_5068e_1 ⟨⟨(ok1 62 rfl rfl), (ok1 4 (by decide +kernel) rfl), Or.inl (ok1 59 (by decide +kernel) rfl), by decide, by decide, rfl⟩, (ok1 60 (by decide +kernel) rfl), (ok1 61 (by decide +kernel) rfl), rfl⟩ ⟨⟨Nat.le_of_ble_eq_true rfl, Nat.le_of_ble_eq_true rfl⟩, Nat.le_of_ble_eq_true rfl, Nat.le_of_ble_eq_true rfl⟩ ⟨rfl, rfl⟩ ⟨i, hi, rfl⟩ rfl (Nat.le_of_ble_eq_true rfl) (c_isL _ _ hi _) ?_
  refine v_if_eq (tgt := 16) C dJ0_charAt_5068e_4 (by decide) (fun c => absurd c (by decide)) (fun c => ?_)
  refine v_aloadX_n C dJ0_charAt_5068e_7 rfl ?_
  refine v_xval C dJ0_charAt_5068e_8 hi (ok8 92 (by decide +kernel) rfl) ?_
  refine v_iload_n C dJ0_charAt_5068e_11 rfl ?_
  refine v_callS (As := [_, _]) C dJ0_charAt_5068e_12 ⟨⟨(ok1 65 rfl rfl), (ok1 5 (by decide +kernel) rfl), Or.inl (ok1 63 (by decide +kernel) rfl), by decide, by decide, rfl⟩, (ok1 64 (by decide +kernel) rfl)⟩ ⟨⟨Nat.le_of_ble_eq_true rfl, Nat.le_of_ble_eq_true rfl⟩, Nat.le_of_ble_eq_true rfl, Nat.le_of_ble_eq_true rfl⟩ ⟨rfl, rfl⟩ rfl (Nat.le_of_ble_eq_true rfl) (c_lchr _ _ hi hj _) ?_
  exact v_nret C F ⟨rfl, rfl, Nat.le_refl _⟩ (pk_nc _) dJ0_charAt_5068e_15 rfl
def mmax (a b : Int32) : Int32 := if a < b then b else a
def mmin (a b : Int32) : Int32 := if b < a then b else a
theorem v_mmax {x : CX} {l : Launch} {g : CG} {M : MI} {nL k n idx : Nat} {μ : Mem} {pc : Nat} {lv : LV} {st : List AV} {a b : Int32} (C : Cx x l g M) (d : decode M.1 pc = .ok (.invokestatic idx, 3)) (hw : Cond.methodLink M.2.2.1 idx Lib.Math.max.name ∈ lw_ok ∧ Cond.static Lib.Math.max.name ∈ lw_ok ∧ Cond.initialized "java/lang/Math" ∈ lw_ok ∧ Cond.code Lib.Math.max.name Lib.Math.max.code 2 (some .int) ∈ lw_ok) (hL : M.2.1 = nL) (hR : (1 ≤ M.2.2.2.2.2.frames ∧ stw g.1 st + 13 ≤ M.2.2.2.2.2.locals) ∧ k ≤ M.2.2.2.2.2.cells ∧ n ≤ M.2.2.2.2.2.slots) (kk : V x g nL k n μ (pc + 3) lv (aI (mmax a b) :: st)) : V x g nL k n μ pc lv (aI b :: aI a :: st) := by
  obtain ⟨p, l0, e, R, s, m, args, below, meth, c, Q⟩ := x
  intro h0 H locs ls h1 h2 h3
  have hRR : R = M.2.2.2.2.2 := C.2.2.2.2.2.2.2.2.2.1
  exact va_mmax C.1 C.2.1 (by rw [C.2.2.1, hL]; exact h3.1.symm) C.2.2.2.1 (C.2.2.2.2.1 _ hw.1) (C.2.2.2.2.1 _ hw.2.1) (C.2.2.2.2.1 _ hw.2.2.1) (C.2.2.2.2.1 _ hw.2.2.2) (by rw [hRR]; exact hR.1.1) (by rw [hRR, stw_eq]; exact hR.1.2) (by rw [hRR]; exact hR.2.1) (by rw [hRR]; exact hR.2.2) d (kk h0 H locs ls h1 h2 h3)
theorem v_mmin {x : CX} {l : Launch} {g : CG} {M : MI} {nL k n idx : Nat} {μ : Mem} {pc : Nat} {lv : LV} {st : List AV} {a b : Int32} (C : Cx x l g M) (d : decode M.1 pc = .ok (.invokestatic idx, 3)) (hw : Cond.methodLink M.2.2.1 idx Lib.Math.min.name ∈ lw_ok ∧ Cond.static Lib.Math.min.name ∈ lw_ok ∧ Cond.initialized "java/lang/Math" ∈ lw_ok ∧ Cond.code Lib.Math.min.name Lib.Math.min.code 2 (some .int) ∈ lw_ok) (hL : M.2.1 = nL) (hR : (1 ≤ M.2.2.2.2.2.frames ∧ stw g.1 st + 13 ≤ M.2.2.2.2.2.locals) ∧ k ≤ M.2.2.2.2.2.cells ∧ n ≤ M.2.2.2.2.2.slots) (kk : V x g nL k n μ (pc + 3) lv (aI (mmin a b) :: st)) : V x g nL k n μ pc lv (aI b :: aI a :: st) := by
  obtain ⟨p, l0, e, R, s, m, args, below, meth, c, Q⟩ := x
  intro h0 H locs ls h1 h2 h3
  have hRR : R = M.2.2.2.2.2 := C.2.2.2.2.2.2.2.2.2.1
  exact va_mmin C.1 C.2.1 (by rw [C.2.2.1, hL]; exact h3.1.symm) C.2.2.2.1 (C.2.2.2.2.1 _ hw.1) (C.2.2.2.2.1 _ hw.2.1) (C.2.2.2.2.1 _ hw.2.2.1) (C.2.2.2.2.1 _ hw.2.2.2) (by rw [hRR]; exact hR.1.1) (by rw [hRR, stw_eq]; exact hR.1.2) (by rw [hRR]; exact hR.2.1) (by rw [hRR]; exact hR.2.2) d (kk h0 H locs ls h1 h2 h3)
def mcpy (μ : Mem) (r : Option Nat) (sp : Int32) (q : Option Nat) (dp n : Int32) : Option Mem := match maV μ 0 r, maV μ 0 q with
  | some (n0, .inl f), some (n1, .inl h) => if sp < 0 ∨ dp < 0 ∨ n < 0 ∨ n0 < sp.toNatClampNeg + n.toNatClampNeg ∨ n1 < dp.toNatClampNeg + n.toNatClampNeg then none else mbV μ 0 q n1 (.inl (va_cpy f h sp.toNatClampNeg dp.toNatClampNeg n.toNatClampNeg))
  | _, _ => none
theorem v_acopy {x : CX} {l : Launch} {g : CG} {M : MI} {nL k n idx : Nat} {μ μ2 : Mem} {pc : Nat} {lv : LV} {st : List AV} {r q : Option Nat} {sp dp m0 : Int32} (C : Cx x l g M) (d : decode M.1 pc = .ok (.invokestatic idx, 3)) (hw : Cond.methodLink M.2.2.1 idx arraycopyName ∈ lw_ok ∧ Cond.native arraycopyName ∈ lw_ok ∧ Cond.static arraycopyName ∈ lw_ok ∧ Cond.initialized "java/lang/System" ∈ lw_ok) (hL : M.2.1 = nL) (hR : 1 ≤ M.2.2.2.2.2.frames ∧ stw g.1 st + (nativeFrameWords "java/lang/System" "arraycopy" 5 + 11) ≤ M.2.2.2.2.2.locals) (e : mcpy μ r sp q dp m0 = some μ2) (kk : V x g nL k n μ2 (pc + 3) lv st) : V x g nL k n μ pc lv (aI m0 :: aI dp :: aR q :: aI sp :: aR r :: st) := by
  obtain ⟨p, l0, e0, R, s, m, args, below, meth, c, Q⟩ := x
  intro h0 H locs ls h1 h2 h3
  have hRR : R = M.2.2.2.2.2 := C.2.2.2.2.2.2.2.2.2.1
  unfold mcpy at e
  split at e
  · rename_i n0 f n1 h ev ev2
    obtain ⟨hin, e⟩ := oz e
    obtain ⟨a, rfl, ha, hc⟩ := maV_spec ev
    obtain ⟨b, rfl, hb, hc2⟩ := maV_spec ev2
    cases e
    have hfit : ∀ i, i < m0.toNatClampNeg → fits .int (.int (f (sp.toNatClampNeg + i))) = true := fun _ _ => rfl
    exact va_copyi C.1 C.2.1 (by rw [C.2.2.1, hL]; exact h3.1.symm) C.2.2.2.1 (C.2.2.2.2.1 _ hw.1) (C.2.2.2.2.1 _ hw.2.1) (C.2.2.2.2.1 _ hw.2.2.1) (C.2.2.2.2.1 _ hw.2.2.2) C.2.2.2.2.2.1 h1 (hw_D g μ) h2 a b 0 0 (arr_at ha hc) (arr_at hb hc2) (tyat (Cty C) (t := 0) (ty := .int) rfl) (tyat (Cty C) (t := 0) (ty := .int) rfl) rfl (fun z => hin (Or.inl z)) (fun z => hin (Or.inr (Or.inl z))) (fun z => hin (Or.inr (Or.inr (Or.inl z)))) (by omega) (by omega) hfit (by rw [hRR]; exact hR.1) (by rw [hRR, stw_eq]; exact hR.2) d (fun H1 locs1 y _ w => kk h0 H1 locs1 ls (hold_set (E := .inl (0, n1, .inl (va_cpy f h sp.toNatClampNeg dp.toNatClampNeg m0.toNatClampNeg))) rfl y) w h3)
  · cases e
