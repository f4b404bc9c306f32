/-! LAYER 3, what the other methods leave alone, further -/
section
variable {U S N : Nat}
theorem fr_uh_X3_shift_47 {t0 : CS} {k47 : (Option Nat) → Int32 → Int32 → Int32 → Int32 → Int32 → CS → Option (Unit × CS)} {a0 : Option Nat} {a1 : Int32} {a2 : Int32} {a3 : Int32} {a4 : Int32} {a5 : Int32} {μ : CS} (hk47 : ∀ {x0 : (Option Nat)} {x1 : Int32} {x2 : Int32} {x3 : Int32} {x4 : Int32} {x5 : Int32} {y : CS}, Fr t0 y → Fp t0 (k47 x0 x1 x2 x3 x4 x5 y)) (h : Fr t0 μ) : Fp t0 (uh_X3_shift_47 U S N k47 a0 a1 a2 a3 a4 a5 μ) := by
  unfold uh_X3_shift_47
  refine fp_i ?_ ?_
  · refine fp_b (fr_u_X3_setLong (by assumption)) (fun q1 hq1 => ?_)
    exact fp_s (by assumption)
  · refine fp_i ?_ ?_
    · exact fr_u_X3_shift_89 hk47 (by assumption)
    · refine fp_v (fun j1 => ?_)
      refine fp_t (fq_s (Fr_I (by assumption))) (fun μ2 hμ2 => ?_)
      exact fr_u_X3_shift_89 hk47 (by assumption)
theorem fr_ul_X3_shift_47 (f : Nat) {t0 : CS} : ∀ {a0 : Option Nat} {a1 : Int32} {a2 : Int32} {a3 : Int32} {a4 : Int32} {a5 : Int32} {μ : CS} , Fr t0 μ → Fp t0 (ul_X3_shift_47 U S N f a0 a1 a2 a3 a4 a5 μ) := by
  induction f with
  | zero => intro a0 a1 a2 a3 a4 a5 μ _; exact fp_n
  | succ f ih =>
    intro a0 a1 a2 a3 a4 a5 μ h
    exact fr_uh_X3_shift_47 (fun {a0} {a1} {a2} {a3} {a4} {a5} {μ} hh => ih hh) h
theorem fr_u_X3_shift_44 {t0 : CS} {a0 : Option Nat} {a1 : Int32} {a2 : Int32} {a3 : Int32} {a4 : Int32} {μ : CS} (h : Fr t0 μ) : Fp t0 (u_X3_shift_44 U S N a0 a1 a2 a3 a4 μ) := by
  unfold u_X3_shift_44
  exact fr_ul_X3_shift_47 _ (by assumption)
theorem fr_u_X3_shift_30 {t0 : CS} {a0 : Option Nat} {a1 : Int32} {a2 : Int32} {a3 : Int32} {s0 : Int32} {μ : CS} (h : Fr t0 μ) : Fp t0 (u_X3_shift_30 U S N a0 a1 a2 a3 s0 μ) := by
  unfold u_X3_shift_30
  refine fp_i ?_ ?_
  · exact fr_u_X3_shift_44 (by assumption)
  · refine fp_v (fun j1 => ?_)
    refine fp_t (fq_s (Fr_I (by assumption))) (fun μ1 hμ1 => ?_)
    exact fr_u_X3_shift_44 (by assumption)
theorem fr_u_X3_shift {t0 : CS} {a0 : Option Nat} {a1 : Int32} {a2 : Int32} {μ : CS} (h : Fr t0 μ) : Fp t0 (u_X3_shift U S N a0 a1 a2 μ) := by
  unfold u_X3_shift
  refine fp_v (fun j1 => ?_)
  refine fp_i ?_ ?_
  · exact fr_u_X3_shift_30 (by assumption)
  · exact fr_u_X3_shift_30 (by assumption)
theorem fr_u_X3_reckon {t0 : CS} {a0 : Option Nat} {a1 : Int32} {a2 : Int32} {μ : CS} (h : Fr t0 μ) : Fp t0 (u_X3_reckon U S N a0 a1 a2 μ) := by
  unfold u_X3_reckon
  refine fp_i ?_ ?_
  · refine fp_v (fun j1 => ?_)
    refine fp_b (fr_u_X3_setLong (by assumption)) (fun q3 hq3 => ?_)
    refine fp_t (fq_s (Fr_I (by assumption))) (fun μ4 hμ4 => ?_)
    exact fr_u_X3_reckon_70 (by assumption)
  · refine fp_i ?_ ?_
    · refine fp_b (fr_u_X3_divide (by assumption)) (fun q5 hq5 => ?_)
      exact fr_u_X3_reckon_70 (by assumption)
    · refine fp_b (fr_u_X3_shift (by assumption)) (fun q6 hq6 => ?_)
      exact fr_u_X3_reckon_70 (by assumption)
theorem fr_u_X3_extend_131 {t0 : CS} {a1 : Option Nat} {a2 : Option Nat} {a4 : Int32} {μ : CS} (h : Fr t0 μ) : Fp t0 (u_X3_extend_131 U S N a1 a2 a4 μ) := by
  unfold u_X3_extend_131
  refine fp_i ?_ ?_
  · exact fr_u_X3_extend_173 (by assumption)
  · refine fp_v (fun j1 => ?_)
    refine fp_v (fun j2 => ?_)
    refine fp_v (fun v3 => ?_)
    refine fp_t (fq_s (Fr_I (by assumption))) (fun μ5 hμ5 => ?_)
    refine fp_b (fr_u_X3_reckon (by assumption)) (fun q6 hq6 => ?_)
    exact fr_u_X3_extend_173 (by assumption)
theorem fr_u_X3_extend_38 {t0 : CS} {a1 : Option Nat} {a2 : Option Nat} {a3 : Int32} {a4 : Int32} {μ : CS} (h : Fr t0 μ) : Fp t0 (u_X3_extend_38 U S N a1 a2 a3 a4 μ) := by
  unfold u_X3_extend_38
  refine fp_v (fun j1 => ?_)
  refine fp_i ?_ ?_
  · refine fp_t (fq_s (Fr_I (by assumption))) (fun μ2 hμ2 => ?_)
    refine fp_t (fq_s (Fr_I (by assumption))) (fun μ3 hμ3 => ?_)
    exact fr_u_X3_extend_131 (by assumption)
  · refine fp_i ?_ ?_
    · refine fp_t (fq_s (Fr_I (by assumption))) (fun μ6 hμ6 => ?_)
      exact fr_u_X3_extend_131 (by assumption)
    · refine fp_i ?_ ?_
      · refine fp_t (fq_s (Fr_I (by assumption))) (fun μ8 hμ8 => ?_)
        refine fp_t (fq_s (Fr_I (by assumption))) (fun μ9 hμ9 => ?_)
        exact fr_u_X3_extend_131 (by assumption)
      · exact fr_u_X3_extend_131 (by assumption)
theorem fr_u_X3_extend {t0 : CS} {a1 : Option Nat} {a2 : Option Nat} {a3 : Int32} {μ : CS} (h : Fr t0 μ) : Fp t0 (u_X3_extend U S N a1 a2 a3 μ) := by
  unfold u_X3_extend
  refine fp_i ?_ ?_
  · exact fr_u_X3_extend_19 (by assumption)
  · refine fp_i ?_ ?_
    · refine fp_i ?_ ?_
      · exact fr_u_X3_extend_38 (by assumption)
      · refine fp_v (fun j1 => ?_)
        refine fp_t (fq_s (Fr_I (by assumption))) (fun μ1 hμ1 => ?_)
        exact fr_u_X3_extend_38 (by assumption)
    · exact fr_u_X3_extend_19 (by assumption)
theorem fr_u_X3_skipIf_18 {t0 : CS} {μ : CS} (h : Fr t0 μ) : Fp t0 (u_X3_skipIf_18 U S N μ) := by
  unfold u_X3_skipIf_18
  exact fp_s (by assumption)
theorem fr_u_X3_skipIf {t0 : CS} {a0 : Option Nat} {a1 : Int32} {μ : CS} (h : Fr t0 μ) : Fp t0 (u_X3_skipIf U S N a0 a1 μ) := by
  unfold u_X3_skipIf
  refine fp_i ?_ ?_
  · exact fr_u_X3_skipIf_18 (by assumption)
  · refine fp_v (fun j1 => ?_)
    refine fp_t (fq_s (Fr_I (by assumption))) (fun μ2 hμ2 => ?_)
    exact fr_u_X3_skipIf_18 (by assumption)
theorem fr_u_X3_skipOrStop_122 {t0 : CS} {μ : CS} (h : Fr t0 μ) : Fp t0 (u_X3_skipOrStop_122 U S N μ) := by
  unfold u_X3_skipOrStop_122
  exact fp_s (by assumption)
theorem fr_u_X3_skipOrStop_110 {t0 : CS} {a0 : Option Nat} {a1 : Int32} {μ : CS} (h : Fr t0 μ) : Fp t0 (u_X3_skipOrStop_110 U S N a0 a1 μ) := by
  unfold u_X3_skipOrStop_110
  refine fp_i ?_ ?_
  · exact fr_u_X3_skipOrStop_122 (by assumption)
  · refine fp_v (fun j1 => ?_)
    refine fp_t (fq_s (Fr_I (by assumption))) (fun μ1 hμ1 => ?_)
    exact fr_u_X3_skipOrStop_122 (by assumption)
theorem fr_u_X3_skipOrStop_91 {t0 : CS} {a0 : Option Nat} {a1 : Int32} {μ : CS} (h : Fr t0 μ) : Fp t0 (u_X3_skipOrStop_91 U S N a0 a1 μ) := by
  unfold u_X3_skipOrStop_91
  refine fp_i ?_ ?_
  · exact fr_u_X3_skipOrStop_110 (by assumption)
  · refine fp_v (fun j1 => ?_)
    refine fp_t (fq_s (Fr_I (by assumption))) (fun μ3 hμ3 => ?_)
    exact fr_u_X3_skipOrStop_110 (by assumption)
theorem fr_u_X3_skipOrStop_75 {t0 : CS} {a0 : Option Nat} {a1 : Int32} {s0 : Option Nat} {s1 : Int32} {μ : CS} (h : Fr t0 μ) : Fp t0 (u_X3_skipOrStop_75 U S N a0 a1 s0 s1 μ) := by
  unfold u_X3_skipOrStop_75
  refine fp_b (fr_u_X3_skipIf (by assumption)) (fun q1 hq1 => ?_)
  refine fp_i ?_ ?_
  · exact fr_u_X3_skipOrStop_91 (by assumption)
  · refine fp_v (fun j1 => ?_)
    refine fp_t (fq_s (Fr_I (by assumption))) (fun μ2 hμ2 => ?_)
    exact fr_u_X3_skipOrStop_91 (by assumption)
theorem fr_u_X3_skipOrStop_67 {t0 : CS} {a0 : Option Nat} {a1 : Int32} {s0 : Option Nat} {s1 : Int32} {s2 : Int32} {μ : CS} (h : Fr t0 μ) : Fp t0 (u_X3_skipOrStop_67 U S N a0 a1 s0 s1 s2 μ) := by
  unfold u_X3_skipOrStop_67
  refine fp_i ?_ ?_
  · exact fr_u_X3_skipOrStop_75 (by assumption)
  · exact fr_u_X3_skipOrStop_75 (by assumption)
theorem fr_u_X3_skipOrStop_52 {t0 : CS} {a0 : Option Nat} {a1 : Int32} {s0 : Int32} {μ : CS} (h : Fr t0 μ) : Fp t0 (u_X3_skipOrStop_52 U S N a0 a1 s0 μ) := by
  unfold u_X3_skipOrStop_52
  refine fp_i ?_ ?_
  · exact fr_u_X3_skipOrStop_67 (by assumption)
  · exact fr_u_X3_skipOrStop_67 (by assumption)
theorem fr_u_X3_skipOrStop_51 {t0 : CS} {a0 : Option Nat} {a1 : Int32} {μ : CS} (h : Fr t0 μ) : Fp t0 (u_X3_skipOrStop_51 U S N a0 a1 μ) := by
  unfold u_X3_skipOrStop_51
  exact fr_u_X3_skipOrStop_52 (by assumption)
theorem fr_u_X3_skipOrStop_47 {t0 : CS} {a0 : Option Nat} {a1 : Int32} {μ : CS} (h : Fr t0 μ) : Fp t0 (u_X3_skipOrStop_47 U S N a0 a1 μ) := by
  unfold u_X3_skipOrStop_47
  exact fr_u_X3_skipOrStop_52 (by assumption)
theorem fr_u_X3_skipOrStop_32 {t0 : CS} {a0 : Option Nat} {a1 : Int32} {μ : CS} (h : Fr t0 μ) : Fp t0 (u_X3_skipOrStop_32 U S N a0 a1 μ) := by
  unfold u_X3_skipOrStop_32
  refine fp_i ?_ ?_
  · exact fr_u_X3_skipOrStop_51 (by assumption)
  · refine fp_v (fun j1 => ?_)
    refine fp_i ?_ ?_
    · exact fr_u_X3_skipOrStop_51 (by assumption)
    · exact fr_u_X3_skipOrStop_47 (by assumption)
theorem fr_u_X3_skipOrStop_18 {t0 : CS} {a0 : Option Nat} {a1 : Int32} {μ : CS} (h : Fr t0 μ) : Fp t0 (u_X3_skipOrStop_18 U S N a0 a1 μ) := by
  unfold u_X3_skipOrStop_18
  refine fp_i ?_ ?_
  · exact fr_u_X3_skipOrStop_32 (by assumption)
  · refine fp_v (fun j1 => ?_)
    refine fp_i ?_ ?_
    · exact fr_u_X3_skipOrStop_47 (by assumption)
    · exact fr_u_X3_skipOrStop_32 (by assumption)
theorem fr_u_X3_skipOrStop {t0 : CS} {a0 : Option Nat} {a1 : Int32} {μ : CS} (h : Fr t0 μ) : Fp t0 (u_X3_skipOrStop U S N a0 a1 μ) := by
  unfold u_X3_skipOrStop
  refine fp_i ?_ ?_
  · exact fr_u_X3_skipOrStop_18 (by assumption)
  · refine fp_v (fun j1 => ?_)
    refine fp_i ?_ ?_
    · exact fr_u_X3_skipOrStop_47 (by assumption)
    · exact fr_u_X3_skipOrStop_18 (by assumption)
theorem fr_u_X3_turn_130 {t0 : CS} {μ : CS} (h : Fr t0 μ) : Fp t0 (u_X3_turn_130 U S N μ) := by
  unfold u_X3_turn_130
  exact fp_s (by assumption)
theorem fr_u_X3_both {t0 : CS} {a0 : Option Nat} {μ : CS} (h : Fr t0 μ) : Fp t0 (u_X3_both U S N a0 μ) := by
  unfold u_X3_both
  refine fp_v (fun j1 => ?_)
  exact fp_s (by assumption)
theorem fr_u_X3_setBoth {t0 : CS} {a0 : Option Nat} {a1 : Int32} {μ : CS} (h : Fr t0 μ) : Fp t0 (u_X3_setBoth U S N a0 a1 μ) := by
  unfold u_X3_setBoth
  refine fp_v (fun j1 => ?_)
  refine fp_t (fq_s (Fr_I (by assumption))) (fun μ1 hμ1 => ?_)
  refine fp_t (fq_s (Fr_I (by assumption))) (fun μ2 hμ2 => ?_)
  exact fp_s (by assumption)
theorem fr_u_X3_turn_11 {t0 : CS} {a0 : Option Nat} {a1 : Int32} {s0 : Int32} {μ : CS} (h : Fr t0 μ) : Fp t0 (u_X3_turn_11 U S N a0 a1 s0 μ) := by
  unfold u_X3_turn_11
  refine fp_i ?_ ?_
  · refine fp_i ?_ ?_
    · exact fr_u_X3_turn_130 (by assumption)
    · refine fp_v (fun j1 => ?_)
      refine fp_t (fq_s (Fr_I (by assumption))) (fun μ3 hμ3 => ?_)
      exact fr_u_X3_turn_130 (by assumption)
  · refine fp_i ?_ ?_
    · refine fp_b (fr_u_X3_both (by assumption)) (fun q4 hq4 => ?_)
      refine fp_b (fr_u_X3_setBoth (by assumption)) (fun q5 hq5 => ?_)
      exact fr_u_X3_turn_130 (by assumption)
    · refine fp_i ?_ ?_
      · refine fp_b (fr_u_X3_both (by assumption)) (fun q6 hq6 => ?_)
        refine fp_b (fr_u_X3_setBoth (by assumption)) (fun q7 hq7 => ?_)
        exact fr_u_X3_turn_130 (by assumption)
      · exact fr_u_X3_turn_130 (by assumption)
theorem fr_u_X3_turn {t0 : CS} {a0 : Option Nat} {a1 : Int32} {μ : CS} (h : Fr t0 μ) : Fp t0 (u_X3_turn U S N a0 a1 μ) := by
  unfold u_X3_turn
  refine fp_i ?_ ?_
  · exact fr_u_X3_turn_11 (by assumption)
  · exact fr_u_X3_turn_11 (by assumption)
theorem fr_u_X3_operate_77 {t0 : CS} {a0 : Option Nat} {a1 : Int32} {μ : CS} (h : Fr t0 μ) : Fp t0 (u_X3_operate_77 U S N a0 a1 μ) := by
  unfold u_X3_operate_77
  refine fp_b (fr_u_X3_turn (by assumption)) (fun q1 hq1 => ?_)
  exact fp_s (by assumption)
theorem fr_u_X3_operate_61 {t0 : CS} {a0 : Option Nat} {a1 : Int32} {μ : CS} (h : Fr t0 μ) : Fp t0 (u_X3_operate_61 U S N a0 a1 μ) := by
  unfold u_X3_operate_61
  refine fp_i ?_ ?_
  · exact fr_u_X3_operate_77 (by assumption)
  · refine fp_b (fr_u_X3_both (by assumption)) (fun q1 hq1 => ?_)
    refine fp_b (fr_u_X3_setBoth (by assumption)) (fun q2 hq2 => ?_)
    exact fr_u_X3_operate_77 (by assumption)
theorem fr_u_X3_operate_44 {t0 : CS} {a0 : Option Nat} {a1 : Int32} {μ : CS} (h : Fr t0 μ) : Fp t0 (u_X3_operate_44 U S N a0 a1 μ) := by
  unfold u_X3_operate_44
  refine fp_i ?_ ?_
  · exact fr_u_X3_operate_61 (by assumption)
  · refine fp_v (fun j1 => ?_)
    refine fp_t (fq_s (Fr_I (by assumption))) (fun μ2 hμ2 => ?_)
    exact fr_u_X3_operate_61 (by assumption)
theorem fr_u_X3_operate_25 {t0 : CS} {a0 : Option Nat} {a1 : Int32} {μ : CS} (h : Fr t0 μ) : Fp t0 (u_X3_operate_25 U S N a0 a1 μ) := by
  unfold u_X3_operate_25
  refine fp_i ?_ ?_
  · exact fr_u_X3_operate_44 (by assumption)
  · refine fp_v (fun j1 => ?_)
    refine fp_t (fq_s (Fr_I (by assumption))) (fun μ2 hμ2 => ?_)
    exact fr_u_X3_operate_44 (by assumption)
theorem fr_u_X3_operate_13 {t0 : CS} {a0 : Option Nat} {a1 : Int32} {μ : CS} (h : Fr t0 μ) : Fp t0 (u_X3_operate_13 U S N a0 a1 μ) := by
  unfold u_X3_operate_13
  refine fp_i ?_ ?_
  · exact fr_u_X3_operate_25 (by assumption)
  · refine fp_v (fun j1 => ?_)
    refine fp_t (fq_s (Fr_I (by assumption))) (fun μ1 hμ1 => ?_)
    exact fr_u_X3_operate_25 (by assumption)
theorem fr_u_X3_operate {t0 : CS} {a0 : Option Nat} {a1 : Int32} {μ : CS} (h : Fr t0 μ) : Fp t0 (u_X3_operate U S N a0 a1 μ) := by
  unfold u_X3_operate
  refine fp_i ?_ ?_
  · exact fr_u_X3_operate_13 (by assumption)
  · refine fp_v (fun j1 => ?_)
    refine fp_t (fq_s (Fr_I (by assumption))) (fun μ1 hμ1 => ?_)
    exact fr_u_X3_operate_13 (by assumption)
theorem fr_u_X6_isEmpty_12 {t0 : CS} {s0 : Int32} {μ : CS} (h : Fr t0 μ) : Fp t0 (u_X6_isEmpty_12 U S N s0 μ) := by
  unfold u_X6_isEmpty_12
  exact fp_z (by assumption)
theorem fr_u_X6_isEmpty {t0 : CS} {a0 : Nat} {μ : CS} (h : Fr t0 μ) : Fp t0 (u_X6_isEmpty U S N a0 μ) := by
  unfold u_X6_isEmpty
  refine fp_i ?_ ?_
  · exact fr_u_X6_isEmpty_12 (by assumption)
  · exact fr_u_X6_isEmpty_12 (by assumption)
theorem fr_u_X3_callMonitor_172 {t0 : CS} {s0 : Option Nat} {s1 : Int32} {μ : CS} (h : Fr t0 μ) : Fp t0 (u_X3_callMonitor_172 U S N s0 s1 μ) := by
  unfold u_X3_callMonitor_172
  refine fp_b (fr_u_X3_skipIf (by assumption)) (fun q1 hq1 => ?_)
  exact fp_z (by assumption)
theorem fr_u_X6_drop {t0 : CS} {a0 : Nat} {μ : CS} (h : Fr t0 μ) : Fp t0 (u_X6_drop U S N a0 μ) := by
  unfold u_X6_drop
  refine fp_b (fr_u_X6_isEmpty (by assumption)) (fun q1 hq1 => ?_)
  refine fp_i ?_ ?_
  · refine fp_i fp_n ?_
    refine fp_t (fq_s (Fr_I (by assumption))) (fun μ4 hμ4 => ?_)
    refine fp_t (fq_s (Fr_I (by assumption))) (fun μ6 hμ6 => ?_)
    exact fp_s (by assumption)
  · exact fp_s (by assumption)
theorem fr_u_X6_head_20 {t0 : CS} {s0 : Int32} {μ : CS} (h : Fr t0 μ) : Fp t0 (u_X6_head_20 U S N s0 μ) := by
  unfold u_X6_head_20
  exact fp_s (by assumption)
theorem fr_u_X6_head {t0 : CS} {a0 : Nat} {μ : CS} (h : Fr t0 μ) : Fp t0 (u_X6_head U S N a0 μ) := by
  unfold u_X6_head
  refine fp_b (fr_u_X6_isEmpty (by assumption)) (fun q1 hq1 => ?_)
  refine fp_i ?_ ?_
  · refine fp_v (fun v5 => ?_)
    exact fr_u_X6_head_20 (by assumption)
  · exact fr_u_X6_head_20 (by assumption)
theorem fr_u_X3_readKey_58 {t0 : CS} {μ : CS} (h : Fr t0 μ) : Fp t0 (u_X3_readKey_58 U S N μ) := by
  unfold u_X3_readKey_58
  exact fp_z (by assumption)
theorem fr_u_X3_waitFor {t0 : CS} {a1 : Option Nat} {a2 : Int32} {μ : CS} (h : Fr t0 μ) : Fp t0 (u_X3_waitFor U S N a1 a2 μ) := by
  unfold u_X3_waitFor
  refine fp_v (fun j1 => ?_)
  refine fp_t (fq_s (Fr_I (by assumption))) (fun μ2 hμ2 => ?_)
  refine fp_t (fq_s (Fr_I (by assumption))) (fun μ3 hμ3 => ?_)
  exact fp_z (by assumption)
theorem fr_u_X3_readKey {t0 : CS} {a1 : Option Nat} {a2 : Int32} {μ : CS} (h : Fr t0 μ) : Fp t0 (u_X3_readKey U S N a1 a2 μ) := by
  unfold u_X3_readKey
  refine fp_v (fun j1 => ?_)
  refine fp_b (fr_u_X6_isEmpty (by assumption)) (fun q2 hq2 => ?_)
  refine fp_i ?_ ?_
  · refine fp_b (fr_u_X6_head (by assumption)) (fun q5 hq5 => ?_)
    refine fp_i ?_ ?_
    · refine fp_t (fq_s (Fr_I (by assumption))) (fun μ8 hμ8 => ?_)
      exact fr_u_X3_readKey_58 (by assumption)
    · refine fp_t (fq_s (Fr_I (by assumption))) (fun μ9 hμ9 => ?_)
      refine fp_b (fr_u_X6_drop (by assumption)) (fun q11 hq11 => ?_)
      exact fr_u_X3_readKey_58 (by assumption)
  · refine fp_b (fr_u_X3_waitFor (by assumption)) (fun q13 hq13 => ?_)
    exact fp_z (by assumption)
theorem fr_u_X3_callMonitor_205 {t0 : CS} {s1 : Option Nat} {s2 : Int32} {μ : CS} (h : Fr t0 μ) : Fp t0 (u_X3_callMonitor_205 U S N s1 s2 μ) := by
  unfold u_X3_callMonitor_205
  refine fp_b (fr_u_X3_readKey (by assumption)) (fun q1 hq1 => ?_)
  exact fp_z (by assumption)
theorem fr_u_X3_callMonitor_191 {t0 : CS} {a1 : Option Nat} {a2 : Int32} {μ : CS} (h : Fr t0 μ) : Fp t0 (u_X3_callMonitor_191 U S N a1 a2 μ) := by
  unfold u_X3_callMonitor_191
  refine fp_i ?_ ?_
  · exact fr_u_X3_callMonitor_205 (by assumption)
  · exact fr_u_X3_callMonitor_205 (by assumption)
theorem fr_u_X3_callMonitor_270 {t0 : CS} {μ : CS} (h : Fr t0 μ) : Fp t0 (u_X3_callMonitor_270 U S N μ) := by
  unfold u_X3_callMonitor_270
  exact fp_z (by assumption)
theorem fr_u_X3_sendLetter {t0 : CS} {a1 : Option Nat} {μ : CS} (h : Fr t0 μ) : Fp t0 (u_X3_sendLetter U S N a1 μ) := by
  unfold u_X3_sendLetter
  refine fp_v (fun j1 => ?_)
  refine fp_b (fr_u_X6_isFull (by assumption)) (fun q2 hq2 => ?_)
  refine fp_i ?_ ?_
  · refine fp_b (fr_u_X6_append (by assumption)) (fun q6 hq6 => ?_)
    exact fp_z (by assumption)
  · refine fp_b (fr_u_X3_waitFor (by assumption)) (fun q8 hq8 => ?_)
    exact fp_z (by assumption)
theorem fr_u_X3_callMonitor_216 {t0 : CS} {a1 : Option Nat} {μ : CS} (h : Fr t0 μ) : Fp t0 (u_X3_callMonitor_216 U S N a1 μ) := by
  unfold u_X3_callMonitor_216
  refine fp_b (fr_u_X3_sendLetter (by assumption)) (fun q1 hq1 => ?_)
  exact fp_z (by assumption)
theorem fr_u_X3_fallAsleep_28 {t0 : CS} {a1 : Option Nat} {μ : CS} (h : Fr t0 μ) : Fp t0 (u_X3_fallAsleep_28 U S N a1 μ) := by
  unfold u_X3_fallAsleep_28
  refine fp_v (fun j1 => ?_)
  refine fp_t (fq_s (Fr_I (by assumption))) (fun μ1 hμ1 => ?_)
  exact fp_s (by assumption)
theorem fr_u_X3_fallAsleep {t0 : CS} {a1 : Option Nat} {μ : CS} (h : Fr t0 μ) : Fp t0 (u_X3_fallAsleep U S N a1 μ) := by
  unfold u_X3_fallAsleep
  refine fp_v (fun j1 => ?_)
  refine fp_i ?_ ?_
  · exact fr_u_X3_fallAsleep_28 (by assumption)
  · refine fp_t (fq_s (Fr_I (by assumption))) (fun μ2 hμ2 => ?_)
    refine fp_t (fq_s (Fr_I (by assumption))) (fun μ5 hμ5 => ?_)
    exact fr_u_X3_fallAsleep_28 (by assumption)
theorem fr_u_X3_callMonitor_257 {t0 : CS} {a1 : Option Nat} {s0 : Option Nat} {s1 : Int32} {μ : CS} (h : Fr t0 μ) : Fp t0 (u_X3_callMonitor_257 U S N a1 s0 s1 μ) := by
  unfold u_X3_callMonitor_257
  refine fp_v (fun j1 => ?_)
  refine fp_t (fq_s (Fr_I (by assumption))) (fun μ1 hμ1 => ?_)
  refine fp_v (fun j2 => ?_)
  refine fp_t (fq_s (Fr_I (by assumption))) (fun μ3 hμ3 => ?_)
  exact fp_z (by assumption)
theorem fr_u_X3_callMonitor_239 {t0 : CS} {a1 : Option Nat} {a2 : Int32} {μ : CS} (h : Fr t0 μ) : Fp t0 (u_X3_callMonitor_239 U S N a1 a2 μ) := by
  unfold u_X3_callMonitor_239
  refine fp_v (fun j1 => ?_)
  refine fp_t (fq_s (Fr_I (by assumption))) (fun μ1 hμ1 => ?_)
  refine fp_i ?_ ?_
  · exact fr_u_X3_callMonitor_257 (by assumption)
  · exact fr_u_X3_callMonitor_257 (by assumption)
theorem fr_u_X3_callMonitor {t0 : CS} {a1 : Option Nat} {a2 : Int32} {μ : CS} (h : Fr t0 μ) : Fp t0 (u_X3_callMonitor U S N a1 a2 μ) := by
  unfold u_X3_callMonitor
  refine fp_i ?_ ?_
  · refine fp_v (fun j1 => ?_)
    refine fp_b (fr_u_X6_isEmpty (by assumption)) (fun q2 hq2 => ?_)
    refine fp_i ?_ ?_
    · exact fr_u_X3_callMonitor_172 (by assumption)
    · exact fr_u_X3_callMonitor_172 (by assumption)
  · refine fp_i ?_ ?_
    · refine fp_v (fun j2 => ?_)
      refine fp_t (fq_s (Fr_I (by assumption))) (fun μ4 hμ4 => ?_)
      refine fp_b (fr_u_X6_drop (by assumption)) (fun q6 hq6 => ?_)
      exact fp_z (by assumption)
    · refine fp_i ?_ ?_
      · exact fr_u_X3_callMonitor_191 (by assumption)
      · refine fp_i ?_ ?_
        · exact fr_u_X3_callMonitor_191 (by assumption)
        · refine fp_i ?_ ?_
          · refine fp_b (fr_u_X3_skipIf (by assumption)) (fun q8 hq8 => ?_)
            exact fp_z (by assumption)
          · refine fp_i ?_ ?_
            · exact fr_u_X3_callMonitor_270 (by assumption)
            · refine fp_i ?_ ?_
              · exact fr_u_X3_callMonitor_216 (by assumption)
              · refine fp_i ?_ ?_
                · exact fr_u_X3_callMonitor_216 (by assumption)
                · refine fp_i ?_ ?_
                  · exact fr_u_X3_callMonitor_270 (by assumption)
                  · refine fp_i ?_ ?_
                    · exact fr_u_X3_callMonitor_270 (by assumption)
                    · refine fp_i ?_ ?_
                      · exact fr_u_X3_callMonitor_270 (by assumption)
                      · refine fp_i ?_ ?_
                        · exact fr_u_X3_callMonitor_270 (by assumption)
                        · refine fp_i ?_ ?_
                          · exact fr_u_X3_callMonitor_270 (by assumption)
                          · refine fp_i ?_ ?_
                            · exact fr_u_X3_callMonitor_270 (by assumption)
                            · refine fp_i ?_ ?_
                              · refine fp_v (fun j3 => ?_)
                                refine fp_t (fq_s (Fr_I (by assumption))) (fun μ10 hμ10 => ?_)
                                exact fp_z (by assumption)
                              · refine fp_i ?_ ?_
                                · refine fp_b (fr_u_X3_fallAsleep (by assumption)) (fun q11 hq11 => ?_)
                                  exact fp_z (by assumption)
                                · refine fp_i ?_ ?_
                                  · exact fr_u_X3_callMonitor_239 (by assumption)
                                  · refine fp_i ?_ ?_
                                    · exact fr_u_X3_callMonitor_239 (by assumption)
                                    · refine fp_b (fr_u_X3_goWrong (by assumption)) (fun q13 hq13 => ?_)
                                      exact fp_z (by assumption)
theorem fr_u_X3_addressOf_63 {t0 : CS} {a1 : Option Nat} {a3 : Int32} {μ : CS} (h : Fr t0 μ) : Fp t0 (u_X3_addressOf_63 U S N a1 a3 μ) := by
  unfold u_X3_addressOf_63
  refine fp_v (fun j1 => ?_)
  refine fp_v (fun v2 => ?_)
  exact fp_s (by assumption)
theorem fr_u_X3_addressOf_24 {t0 : CS} {a1 : Option Nat} {a2 : Int32} {a3 : Int32} {μ : CS} (h : Fr t0 μ) : Fp t0 (u_X3_addressOf_24 U S N a1 a2 a3 μ) := by
  unfold u_X3_addressOf_24
  refine fp_i ?_ ?_
  · refine fp_i ?_ ?_
    · exact fr_u_X3_addressOf_63 (by assumption)
    · refine fp_i ?_ ?_
      · exact fr_u_X3_addressOf_63 (by assumption)
      · refine fp_v (fun j1 => ?_)
        refine fp_v (fun v2 => ?_)
        refine fp_b (fr_u_X8_put (by assumption)) (fun q3 hq3 => ?_)
        exact fr_u_X3_addressOf_63 (by assumption)
  · exact fp_s (by assumption)
theorem fr_u_X3_addressOf {t0 : CS} {a1 : Option Nat} {a2 : Int32} {μ : CS} (h : Fr t0 μ) : Fp t0 (u_X3_addressOf U S N a1 a2 μ) := by
  unfold u_X3_addressOf
  refine fp_i ?_ ?_
  · exact fr_u_X3_addressOf_24 (by assumption)
  · exact fr_u_X3_addressOf_24 (by assumption)
theorem fr_u_X3_refer_193 {t0 : CS} {μ : CS} (h : Fr t0 μ) : Fp t0 (u_X3_refer_193 U S N μ) := by
  unfold u_X3_refer_193
  exact fp_s (by assumption)
theorem fr_u_X3_refer_138 {t0 : CS} {s0 : Option Nat} {s1 : Int32} {μ : CS} (h : Fr t0 μ) : Fp t0 (u_X3_refer_138 U S N s0 s1 μ) := by
  unfold u_X3_refer_138
  refine fp_b (fr_u_X3_skipIf (by assumption)) (fun q1 hq1 => ?_)
  exact fr_u_X3_refer_193 (by assumption)
theorem fr_u_X3_refer {t0 : CS} {a1 : Option Nat} {a2 : Option Nat} {a3 : Int32} {a4 : Int32} {μ : CS} (h : Fr t0 μ) : Fp t0 (u_X3_refer U S N a1 a2 a3 a4 μ) := by
  unfold u_X3_refer
  refine fp_b (fr_u_X3_addressOf (by assumption)) (fun q1 hq1 => ?_)
  refine fp_i ?_ ?_
  · refine fp_v (fun j1 => ?_)
    refine fp_v (fun j2 => ?_)
    refine fp_v (fun v5 => ?_)
    refine fp_t (fq_s (Fr_I (by assumption))) (fun μ6 hμ6 => ?_)
    exact fr_u_X3_refer_193 (by assumption)
  · refine fp_i ?_ ?_
    · refine fp_v (fun j3 => ?_)
      refine fp_v (fun j4 => ?_)
      refine fp_v (fun v9 => ?_)
      refine fp_t (fq_s (Fr_I (by assumption))) (fun μ10 hμ10 => ?_)
      refine fp_t (fq_s (Fr_I (by assumption))) (fun μ12 hμ12 => ?_)
      exact fr_u_X3_refer_193 (by assumption)
    · refine fp_i ?_ ?_
      · refine fp_v (fun j5 => ?_)
        refine fp_v (fun v14 => ?_)
        refine fp_b (fr_u_X8_put (by assumption)) (fun q15 hq15 => ?_)
        refine fp_i ?_ ?_
        · exact fr_u_X3_refer_138 (by assumption)
        · exact fr_u_X3_refer_138 (by assumption)
      · refine fp_i ?_ ?_
        · refine fp_v (fun j6 => ?_)
          refine fp_v (fun j7 => ?_)
          refine fp_b (fr_u_X8_put (by assumption)) (fun q18 hq18 => ?_)
          refine fp_t (fq_s (Fr_I (by assumption))) (fun μ20 hμ20 => ?_)
          exact fr_u_X3_refer_193 (by assumption)
        · refine fp_i ?_ ?_
          · refine fp_v (fun j8 => ?_)
            refine fp_v (fun j9 => ?_)
            refine fp_b (fr_u_X8_put (by assumption)) (fun q22 hq22 => ?_)
            refine fp_t (fq_s (Fr_I (by assumption))) (fun μ24 hμ24 => ?_)
            exact fr_u_X3_refer_193 (by assumption)
          · refine fp_v (fun j10 => ?_)
            refine fp_t (fq_s (Fr_I (by assumption))) (fun μ25 hμ25 => ?_)
            exact fr_u_X3_refer_193 (by assumption)
theorem fr_u_X3_step {t0 : CS} {a1 : Option Nat} {a2 : Option Nat} {a3 : Int32} {μ : CS} (h : Fr t0 μ) : Fp t0 (u_X3_step U S N a1 a2 a3 μ) := by
  unfold u_X3_step
  refine fp_t (fq_s (Fr_I (by assumption))) (fun μ1 hμ1 => ?_)
  refine fp_v (fun j1 => ?_)
  refine fp_t (fq_s (Fr_I (by assumption))) (fun μ3 hμ3 => ?_)
  refine fp_v (fun j2 => ?_)
  refine fp_v (fun v6 => ?_)
  refine fp_t (fq_s (Fr_I (by assumption))) (fun μ8 hμ8 => ?_)
  refine fp_i ?_ ?_
  · refine fp_i ?_ ?_
    · refine fp_i ?_ ?_
      · refine fp_i ?_ ?_
        · refine fp_b (fr_u_X3_extend (by assumption)) (fun q9 hq9 => ?_)
          exact fp_z (by assumption)
        · refine fp_b (fr_u_X3_skipOrStop (by assumption)) (fun q11 hq11 => ?_)
          exact fp_z (by assumption)
      · refine fp_b (fr_u_X3_operate (by assumption)) (fun q12 hq12 => ?_)
        exact fp_z (by assumption)
    · refine fp_b (fr_u_X3_callMonitor (by assumption)) (fun q13 hq13 => ?_)
      exact fp_z (by assumption)
  · refine fp_b (fr_u_X3_refer (by assumption)) (fun q15 hq15 => ?_)
    exact fp_z (by assumption)
theorem fr_u_X2_process_115 {t0 : CS} {μ : CS} (h : Fr t0 μ) : Fp t0 (u_X2_process_115 U S N μ) := by
  unfold u_X2_process_115
  exact fp_s (by assumption)
theorem fr_u_X2_endQuantum_39 {t0 : CS} {μ : CS} (h : Fr t0 μ) : Fp t0 (u_X2_endQuantum_39 U S N μ) := by
  unfold u_X2_endQuantum_39
  exact fp_s (by assumption)
theorem fr_u_X2_endQuantum {t0 : CS} {a1 : Option Nat} {μ : CS} (h : Fr t0 μ) : Fp t0 (u_X2_endQuantum U S N a1 μ) := by
  unfold u_X2_endQuantum
  refine fp_b (fr_u_X2_endTurn (by assumption)) (fun q1 hq1 => ?_)
  refine fp_i ?_ ?_
  · refine fp_t (fq_s (Fr_R (by assumption))) (fun μ5 hμ5 => ?_)
    refine fp_t (fq_s (Fr_I (by assumption))) (fun μ7 hμ7 => ?_)
    exact fr_u_X2_endQuantum_39 (by assumption)
  · refine fp_b (fr_u_X5_append (by assumption)) (fun q9 hq9 => ?_)
    exact fr_u_X2_endQuantum_39 (by assumption)
theorem fr_u_X2_process_77 {t0 : CS} {a1 : Option Nat} {μ : CS} (h : Fr t0 μ) : Fp t0 (u_X2_process_77 U S N a1 μ) := by
  unfold u_X2_process_77
  refine fp_t (fq_s (Fr_I (by assumption))) (fun μ2 hμ2 => ?_)
  refine fp_v (fun j1 => ?_)
  refine fp_i ?_ ?_
  · refine fp_i ?_ ?_
    · exact fr_u_X2_process_115 (by assumption)
    · refine fp_b (fr_u_X2_endQuantum (by assumption)) (fun q5 hq5 => ?_)
      exact fr_u_X2_process_115 (by assumption)
  · refine fp_b (fr_u_X2_endTurn (by assumption)) (fun q7 hq7 => ?_)
    exact fr_u_X2_process_115 (by assumption)
theorem fr_u_X2_process_11 {t0 : CS} {μ : CS} (h : Fr t0 μ) : Fp t0 (u_X2_process_11 U S N μ) := by
  unfold u_X2_process_11
  refine fp_v (fun v1 => ?_)
  refine fp_i ?_ ?_
  · exact fr_u_X2_process_27 (by assumption)
  · refine fp_v (fun j1 => ?_)
    refine fp_v (fun v2 => ?_)
    refine fp_i ?_ ?_
    · refine fp_v (fun v4 => ?_)
      refine fp_b (fr_u_X3_step (by assumption)) (fun q6 hq6 => ?_)
      refine fp_i ?_ ?_
      · exact fr_u_X2_process_77 (by assumption)
      · refine fp_t (fq_s (Fr_I (by assumption))) (fun μ9 hμ9 => ?_)
        refine fp_t (fq_s (Fr_I (by assumption))) (fun μ11 hμ11 => ?_)
        exact fr_u_X2_process_77 (by assumption)
    · exact fr_u_X2_process_27 (by assumption)
theorem fr_u_X5_at_22 {t0 : CS} {s0 : Option Nat} {μ : CS} (h : Fr t0 μ) : Fp t0 (u_X5_at_22 U S N s0 μ) := by
  unfold u_X5_at_22
  exact fp_s (by assumption)
theorem fr_u_X5_at_12 {t0 : CS} {μ : CS} (h : Fr t0 μ) : Fp t0 (u_X5_at_12 U S N μ) := by
  unfold u_X5_at_12
  exact fr_u_X5_at_22 (by assumption)
theorem fr_u_X5_at {t0 : CS} {a1 : Int32} {μ : CS} (h : Fr t0 μ) : Fp t0 (u_X5_at U S N a1 μ) := by
  unfold u_X5_at
  refine fp_i ?_ ?_
  · exact fr_u_X5_at_12 (by assumption)
  · refine fp_i ?_ ?_
    · refine fp_v (fun v3 => ?_)
      exact fr_u_X5_at_22 (by assumption)
    · exact fr_u_X5_at_12 (by assumption)
theorem fr_u_X2_chooseRunning_66 {t0 : CS} {k2 : Int32 → CS → Option (Unit × CS)} {a1 : Int32} {μ : CS} (hk2 : ∀ {x0 : Int32} {y : CS}, Fr t0 y → Fp t0 (k2 x0 y)) (h : Fr t0 μ) : Fp t0 (u_X2_chooseRunning_66 U S N k2 a1 μ) := by
  unfold u_X2_chooseRunning_66
  exact hk2 (by assumption)
theorem fr_u_X1_isTakingOut_21 {t0 : CS} {s0 : Int32} {μ : CS} (h : Fr t0 μ) : Fp t0 (u_X1_isTakingOut_21 U S N s0 μ) := by
  unfold u_X1_isTakingOut_21
  exact fp_z (by assumption)
theorem fr_u_X1_isTakingOut_20 {t0 : CS} {μ : CS} (h : Fr t0 μ) : Fp t0 (u_X1_isTakingOut_20 U S N μ) := by
  unfold u_X1_isTakingOut_20
  exact fr_u_X1_isTakingOut_21 (by assumption)
theorem fr_u_X1_isTakingOut {t0 : CS} {a1 : Option Nat} {μ : CS} (h : Fr t0 μ) : Fp t0 (u_X1_isTakingOut U S N a1 μ) := by
  unfold u_X1_isTakingOut
  refine fp_i ?_ ?_
  · exact fr_u_X1_isTakingOut_20 (by assumption)
  · refine fp_v (fun v2 => ?_)
    refine fp_i ?_ ?_
    · exact fr_u_X1_isTakingOut_20 (by assumption)
    · exact fr_u_X1_isTakingOut_21 (by assumption)
theorem fr_uh_X2_chooseRunning_2 {t0 : CS} {k2 : Int32 → CS → Option (Unit × CS)} {a1 : Int32} {μ : CS} (hk2 : ∀ {x0 : Int32} {y : CS}, Fr t0 y → Fp t0 (k2 x0 y)) (h : Fr t0 μ) : Fp t0 (uh_X2_chooseRunning_2 U S N k2 a1 μ) := by
  unfold uh_X2_chooseRunning_2
  refine fp_i ?_ ?_
  · exact fp_s (by assumption)
  · refine fp_b (fr_u_X5_at (by assumption)) (fun q4 hq4 => ?_)
    refine fp_v (fun v_ => ?_)
    refine fp_i ?_ ?_
    · exact fr_u_X2_chooseRunning_66 hk2 (by assumption)
    · refine fp_v (fun j1 => ?_)
      refine fp_v (fun v6 => ?_)
      refine fp_i ?_ ?_
      · exact fr_u_X2_chooseRunning_66 hk2 (by assumption)
      · refine fp_b (fr_u_X1_isTakingOut (by assumption)) (fun q8 hq8 => ?_)
        refine fp_i ?_ ?_
        · exact fr_u_X2_chooseRunning_66 hk2 (by assumption)
        · refine fp_b (fr_u_X5_remove (by assumption)) (fun q11 hq11 => ?_)
          refine fp_t (fq_s (Fr_R (by assumption))) (fun μ13 hμ13 => ?_)
          refine fp_t (fq_s (Fr_I (by assumption))) (fun μ15 hμ15 => ?_)
          exact fp_s (by assumption)
theorem fr_ul_X2_chooseRunning_2 (f : Nat) {t0 : CS} : ∀ {a1 : Int32} {μ : CS} , Fr t0 μ → Fp t0 (ul_X2_chooseRunning_2 U S N f a1 μ) := by
  induction f with
  | zero => intro a1 μ _; exact fp_n
  | succ f ih =>
    intro a1 μ h
    exact fr_uh_X2_chooseRunning_2 (fun {a1} {μ} hh => ih hh) h
theorem fr_u_X2_chooseRunning {t0 : CS} {μ : CS} (h : Fr t0 μ) : Fp t0 (u_X2_chooseRunning U S N μ) := by
  unfold u_X2_chooseRunning
  exact fr_ul_X2_chooseRunning_2 _ (by assumption)
theorem fr_u_X2_process {t0 : CS} {μ : CS} (h : Fr t0 μ) : Fp t0 (u_X2_process U S N μ) := by
  unfold u_X2_process
  refine fp_v (fun v1 => ?_)
  refine fp_i ?_ ?_
  · exact fr_u_X2_process_11 (by assumption)
  · refine fp_b (fr_u_X2_chooseRunning (by assumption)) (fun q2 hq2 => ?_)
    exact fr_u_X2_process_11 (by assumption)
theorem fr_u_X2_tick_109 {t0 : CS} {μ : CS} (h : Fr t0 μ) : Fp t0 (u_X2_tick_109 U S N μ) := by
  unfold u_X2_tick_109
  refine fp_b (fr_u_X2_process (by assumption)) (fun q1 hq1 => ?_)
  exact fp_s (by assumption)
theorem fr_u_X2_serveBlocks_62 {t0 : CS} {μ : CS} (h : Fr t0 μ) : Fp t0 (u_X2_serveBlocks_62 U S N μ) := by
  unfold u_X2_serveBlocks_62
  exact fp_z (by assumption)
theorem fr_u_X1_start {t0 : CS} {a1 : Int32} {a2 : Option Nat} {a3 : Option Nat} {μ : CS} (h : Fr t0 μ) : Fp t0 (u_X1_start U S N a1 a2 a3 μ) := by
  unfold u_X1_start
  refine fp_t (fq_s (Fr_I (by assumption))) (fun μ1 hμ1 => ?_)
  refine fp_t (fq_s (Fr_R (by assumption))) (fun μ2 hμ2 => ?_)
  refine fp_t (fq_s (Fr_R (by assumption))) (fun μ3 hμ3 => ?_)
  refine fp_t (fq_s (Fr_I (by assumption))) (fun μ4 hμ4 => ?_)
  exact fp_s (by assumption)
theorem fr_u_X2_serveBlocks_45 {t0 : CS} {k4 : (Option Nat) → Int32 → CS → Option (Int32 × CS)} {a1 : Option Nat} {a2 : Int32} {μ : CS} (hk4 : ∀ {x0 : (Option Nat)} {x1 : Int32} {y : CS}, Fr t0 y → Fp t0 (k4 x0 x1 y)) (h : Fr t0 μ) : Fp t0 (u_X2_serveBlocks_45 U S N k4 a1 a2 μ) := by
  unfold u_X2_serveBlocks_45
  exact hk4 (by assumption)
theorem fr_u_X2_serveBlocks_43 {t0 : CS} {k4 : (Option Nat) → Int32 → CS → Option (Int32 × CS)} {a2 : Int32} {a3 : Option Nat} {μ : CS} (hk4 : ∀ {x0 : (Option Nat)} {x1 : Int32} {y : CS}, Fr t0 y → Fp t0 (k4 x0 x1 y)) (h : Fr t0 μ) : Fp t0 (u_X2_serveBlocks_43 U S N k4 a2 a3 μ) := by
  unfold u_X2_serveBlocks_43
  exact fr_u_X2_serveBlocks_45 hk4 (by assumption)
theorem fr_uh_X2_serveBlocks_4 {t0 : CS} {k4 : (Option Nat) → Int32 → CS → Option (Int32 × CS)} {a1 : Option Nat} {a2 : Int32} {μ : CS} (hk4 : ∀ {x0 : (Option Nat)} {x1 : Int32} {y : CS}, Fr t0 y → Fp t0 (k4 x0 x1 y)) (h : Fr t0 μ) : Fp t0 (uh_X2_serveBlocks_4 U S N k4 a1 a2 μ) := by
  unfold uh_X2_serveBlocks_4
  refine fp_i ?_ ?_
  · refine fp_i ?_ ?_
    · exact fr_u_X2_serveBlocks_62 (by assumption)
    · refine fp_v (fun j1 => ?_)
      refine fp_v (fun v3 => ?_)
      refine fp_i ?_ ?_
      · refine fp_v (fun v6 => ?_)
        refine fp_b (fr_u_X1_start (by assumption)) (fun q7 hq7 => ?_)
        exact fp_z (by assumption)
      · exact fr_u_X2_serveBlocks_62 (by assumption)
  · refine fp_v (fun v10 => ?_)
    refine fp_i ?_ ?_
    · exact fr_u_X2_serveBlocks_45 hk4 (by assumption)
    · refine fp_i ?_ ?_
      · exact fr_u_X2_serveBlocks_43 hk4 (by assumption)
      · refine fp_v (fun j2 => ?_)
        refine fp_i ?_ ?_
        · exact fr_u_X2_serveBlocks_45 hk4 (by assumption)
        · exact fr_u_X2_serveBlocks_43 hk4 (by assumption)
theorem fr_ul_X2_serveBlocks_4 (f : Nat) {t0 : CS} : ∀ {a1 : Option Nat} {a2 : Int32} {μ : CS} , Fr t0 μ → Fp t0 (ul_X2_serveBlocks_4 U S N f a1 a2 μ) := by
  induction f with
  | zero => intro a1 a2 μ _; exact fp_n
  | succ f ih =>
    intro a1 a2 μ h
    exact fr_uh_X2_serveBlocks_4 (fun {a1} {a2} {μ} hh => ih hh) h
theorem fr_u_X2_serveBlocks {t0 : CS} {μ : CS} (h : Fr t0 μ) : Fp t0 (u_X2_serveBlocks U S N μ) := by
  unfold u_X2_serveBlocks
  exact fr_ul_X2_serveBlocks_4 _ (by assumption)
theorem fr_u_X2_lookForTask_37 {t0 : CS} {μ : CS} (h : Fr t0 μ) : Fp t0 (u_X2_lookForTask_37 U S N μ) := by
  unfold u_X2_lookForTask_37
  exact fp_s (by assumption)
theorem fr_u_X2_firstWithoutSlot_35 {t0 : CS} {k2 : Int32 → CS → Option (Option Nat × CS)} {a1 : Int32} {μ : CS} (hk2 : ∀ {x0 : Int32} {y : CS}, Fr t0 y → Fp t0 (k2 x0 y)) (h : Fr t0 μ) : Fp t0 (u_X2_firstWithoutSlot_35 U S N k2 a1 μ) := by
  unfold u_X2_firstWithoutSlot_35
  exact hk2 (by assumption)
theorem fr_uh_X2_firstWithoutSlot_2 {t0 : CS} {k2 : Int32 → CS → Option (Option Nat × CS)} {a1 : Int32} {μ : CS} (hk2 : ∀ {x0 : Int32} {y : CS}, Fr t0 y → Fp t0 (k2 x0 y)) (h : Fr t0 μ) : Fp t0 (uh_X2_firstWithoutSlot_2 U S N k2 a1 μ) := by
  unfold uh_X2_firstWithoutSlot_2
  refine fp_i ?_ ?_
  · exact fp_s (by assumption)
  · refine fp_b (fr_u_X5_at (by assumption)) (fun q4 hq4 => ?_)
    refine fp_v (fun v_ => ?_)
    refine fp_i ?_ ?_
    · exact fr_u_X2_firstWithoutSlot_35 hk2 (by assumption)
    · refine fp_v (fun j1 => ?_)
      refine fp_v (fun v6 => ?_)
      refine fp_i ?_ ?_
      · exact fr_u_X2_firstWithoutSlot_35 hk2 (by assumption)
      · exact fp_s (by assumption)
end
