/-! LAYER 0, indexOf; what the texts' methods answer -/
def canE (c : Int32) : Int32 := if c < 0 then 0 else if 255 < c then 0 else 1
theorem c_can (l : Launch) (g : CG) (c : Int32) (μ : Mem) : Ct l yJ1_canEncode_9a6ad mi_J1_canEncode_9a6ad g [aI c] μ (some (aI (canE c))) μ := ct_of ⟨by decide, rfl, rfl⟩ (Nat.le_of_ble_eq_true rfl) fun x C F => by
  refine v_iload_n C dJ1_canEncode_9a6ad_0 rfl ?_
  refine v_if_lt (tgt := 15) C dJ1_canEncode_9a6ad_1 (by decide) (fun h1 => ?_) (fun h1 => ?_)
  · refine v_iconst (v := 0) C dJ1_canEncode_9a6ad_15 rfl ?_
    exact v_nret C F ⟨rfl, rfl, Nat.le_refl _⟩ rfl dJ1_canEncode_9a6ad_16 (by unfold canE; rw [if_pos h1])
  · refine v_iload_n C dJ1_canEncode_9a6ad_4 rfl ?_
    refine v_sipush (v := 255) C dJ1_canEncode_9a6ad_5 rfl ?_
    refine v_icmp_gt (tgt := 15) C dJ1_canEncode_9a6ad_8 (by decide) (fun h2 => ?_) (fun h2 => ?_)
    · refine v_iconst (v := 0) C dJ1_canEncode_9a6ad_15 rfl ?_
      exact v_nret C F ⟨rfl, rfl, Nat.le_refl _⟩ rfl dJ1_canEncode_9a6ad_16 (by unfold canE; rw [if_neg h1, if_pos h2])
    · refine v_iconst (v := 1) C dJ1_canEncode_9a6ad_11 rfl ?_
      refine v_goto (tgt := 16) C dJ1_canEncode_9a6ad_12 (by decide) ?_
      exact v_nret C F ⟨rfl, rfl, Nat.le_refl _⟩ rfl dJ1_canEncode_9a6ad_16 (by unfold canE; rw [if_neg h1, if_neg h2])
def ixc (L : List Int32) (c : Int32) (mx : Nat) : Nat → Nat → Int32
  | 0, _ => -1
  | n + 1, j => if mx ≤ j then -1 else if ¬ L.getD j 0 = c then ixc L c mx n (j + 1) else Int32.ofNat j
theorem slen_lt {i : Nat} (hi : i < 4) : slen i < 1000 := by
  rcases i with _ | _ | _ | _ | i
  · decide
  · decide
  · decide
  · decide
  · omega
theorem p_lixc {x : CX} {l : Launch} {g : CG} {i : Nat} (hi : i < 4) {ch fr c rv : Int32} {μ0 μ : Mem} (C : Cx x l g mi_J1_indexOfChar_4cfef) (F : Prom x g mi_J1_indexOfChar_4cfef μ0 (some (aI rv)) μ) : ∀ (n j : Nat), slen i < j + n → ixc (x_byt.getD i []) c (slen i) n j = rv → j ≤ slen i → V x g 6 0 0 μ 7 [(5, aI (nI j)), (4, aI c), (0, aX (20 + i)), (1, aI ch), (2, aI fr), (3, aI (nI (slen i)))] [] := by
  have hs := slen_lt hi
  intro n
  induction n with
  | zero => intro j h1 h2 h3; omega
  | succ n ih =>
    intro j h1 h2 h3
    unfold ixc at h2
    refine v_iload C dJ1_indexOfChar_4cfef_7 rfl ?_
    refine v_iload_n C dJ1_indexOfChar_4cfef_9 rfl ?_
    refine v_icmp_ge (tgt := 31) C dJ1_indexOfChar_4cfef_10 (by decide) (fun c1 => ?_) (fun c1 => ?_)
    · rw [nI_leI (by omega) (by omega)] at c1
      rw [if_pos c1] at h2
      refine v_iconst (v := -1) C dJ1_indexOfChar_4cfef_31 rfl ?_
      exact v_iret C F ⟨rfl, rfl, Nat.le_refl _⟩ dJ1_indexOfChar_4cfef_32 (by rw [← h2])
    · rw [nI_leI (by omega) (by omega)] at c1
      rw [if_neg c1] at h2
      refine v_aloadX_n C dJ1_indexOfChar_4cfef_13 rfl ?_
      refine v_iload C dJ1_indexOfChar_4cfef_14 rfl ?_
      refine v_xbl C dJ1_indexOfChar_4cfef_16 hi (nI_in (N := slen i) (by omega) (by omega)) ?_
      rw [nI_clamp (by omega : j < 2 ^ 31)]
      refine v_iload C dJ1_indexOfChar_4cfef_17 rfl ?_
      refine v_icmp_ne (tgt := 25) C dJ1_indexOfChar_4cfef_19 (by decide) (fun c2 => ?_) (fun c2 => ?_)
      · rw [if_pos c2] at h2
        refine v_iinc (w := 1) C dJ1_indexOfChar_4cfef_25 rfl rfl (by decide) ?_
        refine v_goto (tgt := 7) C dJ1_indexOfChar_4cfef_28 (by decide) ?_
        rw [nI_1]
        exact ih (j + 1) (by omega) h2 (by omega)
      · rw [if_neg c2] at h2
        refine v_iload C dJ1_indexOfChar_4cfef_22 rfl ?_
        exact v_iret C F ⟨rfl, rfl, Nat.le_refl _⟩ dJ1_indexOfChar_4cfef_24 (by rw [← h2]; rfl)
theorem c_lixc (l : Launch) (g : CG) {i : Nat} (hi : i < 4) (ch : Int32) {j : Nat} (hj : j ≤ slen i) (μ : Mem) : Ct l yJ1_indexOfChar_4cfef mi_J1_indexOfChar_4cfef g [aX (20 + i), aI ch, aI (nI j), aI (nI (slen i))] μ (some (aI (ixc (x_byt.getD i []) ch.toInt8.toInt32 (slen i) (slen i + 1) j))) μ := ct_of ⟨by decide, rfl, rfl⟩ (Nat.le_of_ble_eq_true rfl) fun x C F => by
  refine v_iload_n C dJ1_indexOfChar_4cfef_0 rfl ?_
  refine v_i2b C dJ1_indexOfChar_4cfef_1 ?_
  refine v_istore C dJ1_indexOfChar_4cfef_2 (by decide) ?_
  refine v_iload_n C dJ1_indexOfChar_4cfef_4 rfl ?_
  refine v_istore C dJ1_indexOfChar_4cfef_5 (by decide) ?_
  exact p_lixc hi C F (slen i + 1) j (by omega) rfl hj
/-- indexOf from a place on -/
def six (i : Nat) (ch fr : Int32) : Int32 := if canE ch = 0 then -1 else if mmax fr 0 < nI (slen i) then ixc (x_byt.getD i []) ch.toInt8.toInt32 (slen i) (slen i + 1) (mmax fr 0).toNatClampNeg else -1
theorem mmin_self (a : Int32) : mmin a a = a := by unfold mmin; split <;> rfl
theorem c_lix (l : Launch) (g : CG) {i : Nat} (hi : i < 4) (ch fr : Int32) (μ : Mem) : Ct l yJ1_indexOf_4cfef mi_J1_indexOf_4cfef g [aX (20 + i), aI ch, aI fr, aI (nI (slen i))] μ (some (aI (six i ch fr))) μ := ct_of ⟨by decide, rfl, rfl⟩ (Nat.le_of_ble_eq_true rfl) fun x C F => by
  have hs := slen_lt hi
  refine v_iload_n C dJ1_indexOf_4cfef_0 rfl ?_
  refine v_callS (As := [_]) C dJ1_indexOf_4cfef_1 ⟨⟨(ok3 117 rfl rfl), (ok1 5 (by decide +kernel) rfl), Or.inl (ok3 115 (by decide +kernel) rfl), by decide, by decide, rfl⟩, (ok3 116 (by decide +kernel) rfl)⟩ ⟨⟨Nat.le_of_ble_eq_true rfl, Nat.le_of_ble_eq_true rfl⟩, Nat.le_of_ble_eq_true rfl, Nat.le_of_ble_eq_true rfl⟩ ⟨rfl, rfl⟩ rfl (Nat.le_of_ble_eq_true rfl) (c_can _ _ _ _) ?_
  refine v_if_ne (tgt := 9) C dJ1_indexOf_4cfef_4 (by decide) (fun c1 => ?_) (fun c1 => ?_)
  · refine v_iload_n C dJ1_indexOf_4cfef_9 rfl ?_
    refine v_iconst (v := 0) C dJ1_indexOf_4cfef_10 rfl ?_
    refine v_mmax C dJ1_indexOf_4cfef_11 ⟨(ok3 118 (by decide +kernel) rfl), (ok1 219 (by decide +kernel) rfl), (ok1 12 (by decide +kernel) rfl), (ok1 220 rfl rfl)⟩ rfl ⟨⟨Nat.le_of_ble_eq_true rfl, Nat.le_of_ble_eq_true rfl⟩, Nat.le_of_ble_eq_true rfl, Nat.le_of_ble_eq_true rfl⟩ ?_
    refine v_istore_n C dJ1_indexOf_4cfef_14 (by decide) ?_
    refine v_iload_n C dJ1_indexOf_4cfef_15 rfl ?_
    refine v_aloadX_n C dJ1_indexOf_4cfef_16 rfl ?_
    refine v_xlb C dJ1_indexOf_4cfef_17 hi ?_
    refine v_mmin C dJ1_indexOf_4cfef_18 ⟨(ok3 119 (by decide +kernel) rfl), (ok1 216 (by decide +kernel) rfl), (ok1 12 (by decide +kernel) rfl), (ok1 217 rfl rfl)⟩ rfl ⟨⟨Nat.le_of_ble_eq_true rfl, Nat.le_of_ble_eq_true rfl⟩, Nat.le_of_ble_eq_true rfl, Nat.le_of_ble_eq_true rfl⟩ ?_
    rw [show mmin (nI (slen i)) (Int32.ofNat (x_len.getD i 0)) = nI (slen i) from mmin_self _]
    refine v_istore_n C dJ1_indexOf_4cfef_21 (by decide) ?_
    refine v_iload_n C dJ1_indexOf_4cfef_22 rfl ?_
    refine v_iload_n C dJ1_indexOf_4cfef_23 rfl ?_
    refine v_icmp_lt (tgt := 29) C dJ1_indexOf_4cfef_24 (by decide) (fun c2 => ?_) (fun c2 => ?_)
    · have h0 : ¬ mmax fr 0 < 0 := by
        unfold mmax
        split
        · decide
        · assumption
      obtain ⟨j, hj, he⟩ := nI_of h0
      have hu : six i ch fr = ixc (x_byt.getD i []) ch.toInt8.toInt32 (slen i) (slen i + 1) j := by
        unfold six
        rw [if_neg c1, if_pos c2, he, nI_clamp hj]
      rw [hu] at F
      rw [he] at c2 ⊢
      rw [nI_ltI hj (by omega)] at c2
      refine v_aloadX_n C dJ1_indexOf_4cfef_29 rfl ?_
      refine v_iload_n C dJ1_indexOf_4cfef_30 rfl ?_
      refine v_iload_n C dJ1_indexOf_4cfef_31 rfl ?_
      refine v_iload_n C dJ1_indexOf_4cfef_32 rfl ?_
      refine v_callS (As := [_, _, _, _]) C dJ1_indexOf_4cfef_33 ⟨⟨(ok3 122 rfl rfl), (ok1 5 (by decide +kernel) rfl), Or.inl (ok3 120 (by decide +kernel) rfl), by decide, by decide, rfl⟩, (ok3 121 (by decide +kernel) rfl)⟩ ⟨⟨Nat.le_of_ble_eq_true rfl, Nat.le_of_ble_eq_true rfl⟩, Nat.le_of_ble_eq_true rfl, Nat.le_of_ble_eq_true rfl⟩ ⟨rfl, rfl⟩ rfl (Nat.le_of_ble_eq_true rfl) (c_lixc _ _ hi _ (by omega) _) ?_
      exact v_iret C F ⟨rfl, rfl, Nat.le_refl _⟩ dJ1_indexOf_4cfef_36 rfl
    · refine v_iconst (v := -1) C dJ1_indexOf_4cfef_27 rfl ?_
      exact v_iret C F ⟨rfl, rfl, Nat.le_refl _⟩ dJ1_indexOf_4cfef_28 (by unfold six; rw [if_neg c1, if_neg c2])
  · refine v_iconst (v := -1) C dJ1_indexOf_4cfef_7 rfl ?_
    exact v_iret C F ⟨rfl, rfl, Nat.le_refl _⟩ dJ1_indexOf_4cfef_8 (by unfold six; rw [if_pos (Classical.not_not.mp c1)])
theorem c_ix2 (l : Launch) (g : CG) {i : Nat} (hi : i < 4) (ch fr : Int32) (μ : Mem) : Ct l yJ0_indexOf_7cf53 mi_J0_indexOf_7cf53 g [aX (10 + i), aI ch, aI fr] μ (some (aI (six i ch fr))) μ := ct_of ⟨by decide, rfl, rfl⟩ (Nat.le_of_ble_eq_true rfl) fun x C F => by
  refine v_aloadX_n C dJ0_indexOf_7cf53_0 rfl ?_
  refine v_callX (As := []) C dJ0_indexOf_7cf53_1 ⟨⟨(ok1 62 rfl rfl), (ok1 4 (by decide +kernel) rfl), Or.inl (ok1 59 (by decide +kernel) rfl), by decide, by decide, rfl⟩, (ok1 60 (by decide +kernel) rfl), (ok1 61 (by decide +kernel) rfl), rfl⟩ ⟨⟨Nat.le_of_ble_eq_true rfl, Nat.le_of_ble_eq_true rfl⟩, Nat.le_of_ble_eq_true rfl, Nat.le_of_ble_eq_true rfl⟩ ⟨rfl, rfl⟩ ⟨i, hi, rfl⟩ rfl (Nat.le_of_ble_eq_true rfl) (c_isL _ _ hi _) ?_
  refine v_if_eq (tgt := 23) C dJ0_indexOf_7cf53_4 (by decide) (fun c => absurd c (by decide)) (fun c => ?_)
  refine v_aloadX_n C dJ0_indexOf_7cf53_7 rfl ?_
  refine v_xval C dJ0_indexOf_7cf53_8 hi (ok8 92 (by decide +kernel) rfl) ?_
  refine v_iload_n C dJ0_indexOf_7cf53_11 rfl ?_
  refine v_iload_n C dJ0_indexOf_7cf53_12 rfl ?_
  refine v_aloadX_n C dJ0_indexOf_7cf53_13 rfl ?_
  refine v_callX (As := []) C dJ0_indexOf_7cf53_14 ⟨⟨(ok1 48 rfl rfl), (ok1 4 (by decide +kernel) rfl), Or.inl (ok3 111 (by decide +kernel) rfl), by decide, by decide, rfl⟩, (ok1 46 (by decide +kernel) rfl), (ok1 47 (by decide +kernel) rfl), rfl⟩ ⟨⟨Nat.le_of_ble_eq_true rfl, Nat.le_of_ble_eq_true rfl⟩, Nat.le_of_ble_eq_true rfl, Nat.le_of_ble_eq_true rfl⟩ ⟨rfl, rfl⟩ ⟨i, hi, rfl⟩ rfl (Nat.le_of_ble_eq_true rfl) (c_len _ _ hi _) ?_
  refine v_callS (As := [_, _, _, _]) C dJ0_indexOf_7cf53_17 ⟨⟨(ok3 114 rfl rfl), (ok1 5 (by decide +kernel) rfl), Or.inl (ok3 112 (by decide +kernel) rfl), by decide, by decide, rfl⟩, (ok3 113 (by decide +kernel) rfl)⟩ ⟨⟨Nat.le_of_ble_eq_true rfl, Nat.le_of_ble_eq_true rfl⟩, Nat.le_of_ble_eq_true rfl, Nat.le_of_ble_eq_true rfl⟩ ⟨rfl, rfl⟩ rfl (Nat.le_of_ble_eq_true rfl) (c_lix _ _ hi _ _ _) ?_
  refine v_goto (tgt := 36) C dJ0_indexOf_7cf53_20 (by decide) ?_
  exact v_iret C F ⟨rfl, rfl, Nat.le_refl _⟩ dJ0_indexOf_7cf53_36 rfl
theorem c_ix1 (l : Launch) (g : CG) {i : Nat} (hi : i < 4) (ch : Int32) (μ : Mem) : Ct l yJ0_indexOf_0f7a4 mi_J0_indexOf_0f7a4 g [aX (10 + i), aI ch] μ (some (aI (six i ch 0))) μ := ct_of ⟨by decide, rfl, rfl⟩ (Nat.le_of_ble_eq_true rfl) fun x C F => by
  refine v_aloadX_n C dJ0_indexOf_0f7a4_0 rfl ?_
  refine v_iload_n C dJ0_indexOf_0f7a4_1 rfl ?_
  refine v_iconst (v := 0) C dJ0_indexOf_0f7a4_2 rfl ?_
  refine v_callX (As := [_, _]) C dJ0_indexOf_0f7a4_3 ⟨⟨(ok3 110 rfl rfl), (ok1 4 (by decide +kernel) rfl), Or.inl (ok3 107 (by decide +kernel) rfl), by decide, by decide, rfl⟩, (ok3 108 (by decide +kernel) rfl), (ok3 109 (by decide +kernel) rfl), rfl⟩ ⟨⟨Nat.le_of_ble_eq_true rfl, Nat.le_of_ble_eq_true rfl⟩, Nat.le_of_ble_eq_true rfl, Nat.le_of_ble_eq_true rfl⟩ ⟨rfl, rfl⟩ ⟨i, hi, rfl⟩ rfl (Nat.le_of_ble_eq_true rfl) (c_ix2 _ _ hi _ _ _) ?_
  exact v_iret C F ⟨rfl, rfl, Nat.le_refl _⟩ dJ0_indexOf_0f7a4_6 rfl
-- what the shallow functions use
def sLen (k : Nat) : Option Int32 := if 10 ≤ k ∧ k < 14 then some (nI (slen (k - 10))) else none
def sChr (k : Nat) (j : Int32) : Option Int32 := if 10 ≤ k ∧ k < 14 ∧ ¬ (j < 0 ∨ slen (k - 10) ≤ j.toNatClampNeg) then some (schr (k - 10) j) else none
def sIx1 (k : Nat) (c : Int32) : Option Int32 := if 10 ≤ k ∧ k < 14 then some (six (k - 10) c 0) else none
def sIx2 (k : Nat) (c fr : Int32) : Option Int32 := if 10 ≤ k ∧ k < 14 then some (six (k - 10) c fr) else none
theorem xt {k : Nat} (h : 10 ≤ k) (h2 : k < 14) : ∃ i, i < 4 ∧ k = 10 + i := ⟨k - 10, by omega, by omega⟩
theorem xsLen {k : Nat} {q : Int32} (e : sLen k = some q) : ∃ i, i < 4 ∧ k = 10 + i := xt (oy e).1.1 (oy e).1.2
theorem xsChr {k : Nat} {j q : Int32} (e : sChr k j = some q) : ∃ i, i < 4 ∧ k = 10 + i := xt (oy e).1.1 (oy e).1.2.1
theorem xsIx1 {k : Nat} {j q : Int32} (e : sIx1 k j = some q) : ∃ i, i < 4 ∧ k = 10 + i := xt (oy e).1.1 (oy e).1.2
theorem xsIx2 {k : Nat} {j f q : Int32} (e : sIx2 k j f = some q) : ∃ i, i < 4 ∧ k = 10 + i := xt (oy e).1.1 (oy e).1.2
theorem csLen {l : Launch} {g : CG} {μ : Mem} {k : Nat} {q : Int32} (e : sLen k = some q) : Ct l yJ0_length_8abf5 mi_J0_length_8abf5 g [aX k] μ (some (aI q)) μ := by
  obtain ⟨i, hi, rfl⟩ := xsLen e
  have e2 := (oy e).2
  rw [Nat.add_sub_cancel_left] at e2
  cases e2
  exact c_len l g hi μ
theorem csChr {l : Launch} {g : CG} {μ : Mem} {k : Nat} {j q : Int32} (e : sChr k j = some q) : Ct l yJ0_charAt_5068e mi_J0_charAt_5068e g [aX k, aI j] μ (some (aI q)) μ := by
  obtain ⟨i, hi, rfl⟩ := xsChr e
  have e2 := (oy e).2
  have e3 := (oy e).1.2.2
  rw [Nat.add_sub_cancel_left] at e2 e3
  cases e2
  exact c_chr l g hi e3 μ
theorem csIx1 {l : Launch} {g : CG} {μ : Mem} {k : Nat} {j q : Int32} (e : sIx1 k j = some q) : Ct l yJ0_indexOf_0f7a4 mi_J0_indexOf_0f7a4 g [aX k, aI j] μ (some (aI q)) μ := by
  obtain ⟨i, hi, rfl⟩ := xsIx1 e
  have e2 := (oy e).2
  rw [Nat.add_sub_cancel_left] at e2
  cases e2
  exact c_ix1 l g hi j μ
theorem csIx2 {l : Launch} {g : CG} {μ : Mem} {k : Nat} {j f q : Int32} (e : sIx2 k j f = some q) : Ct l yJ0_indexOf_7cf53 mi_J0_indexOf_7cf53 g [aX k, aI j, aI f] μ (some (aI q)) μ := by
  obtain ⟨i, hi, rfl⟩ := xsIx2 e
  have e2 := (oy e).2
  rw [Nat.add_sub_cancel_left] at e2
  cases e2
  exact c_ix2 l g hi j f μ
