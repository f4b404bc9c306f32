/-! LAYER 3, what the other methods leave alone, further -/
section
variable {U S N : Nat}
theorem fr_ul_X2_firstWithoutSlot_2 (f : Nat) {t0 : CS} : ∀ {a1 : Int32} {μ : CS} , Fr t0 μ → Fp t0 (ul_X2_firstWithoutSlot_2 U S N f a1 μ) := by
  induction f with
  | zero => intro a1 μ _; exact fp_n
  | succ f ih =>
    intro a1 μ h
    exact fr_uh_X2_firstWithoutSlot_2 (fun {a1} {μ} hh => ih hh) h
theorem fr_u_X2_firstWithoutSlot {t0 : CS} {μ : CS} (h : Fr t0 μ) : Fp t0 (u_X2_firstWithoutSlot U S N μ) := by
  unfold u_X2_firstWithoutSlot
  exact fr_ul_X2_firstWithoutSlot_2 _ (by assumption)
theorem fr_uh_X2_freeSlot_2 {t0 : CS} {k2 : Int32 → CS → Option (Option Nat × CS)} {a1 : Int32} {μ : CS} (hk2 : ∀ {x0 : Int32} {y : CS}, Fr t0 y → Fp t0 (k2 x0 y)) (h : Fr t0 μ) : Fp t0 (uh_X2_freeSlot_2 U S N k2 a1 μ) := by
  unfold uh_X2_freeSlot_2
  refine fp_i ?_ ?_
  · exact fp_s (by assumption)
  · refine fp_v (fun v4 => ?_)
    refine fp_v (fun v5 => ?_)
    refine fp_i ?_ ?_
    · exact hk2 (by assumption)
    · refine fp_v (fun v7 => ?_)
      exact fp_s (by assumption)
theorem fr_ul_X2_freeSlot_2 (f : Nat) {t0 : CS} : ∀ {a1 : Int32} {μ : CS} , Fr t0 μ → Fp t0 (ul_X2_freeSlot_2 U S N f a1 μ) := by
  induction f with
  | zero => intro a1 μ _; exact fp_n
  | succ f ih =>
    intro a1 μ h
    exact fr_uh_X2_freeSlot_2 (fun {a1} {μ} hh => ih hh) h
theorem fr_u_X2_freeSlot {t0 : CS} {μ : CS} (h : Fr t0 μ) : Fp t0 (u_X2_freeSlot U S N μ) := by
  unfold u_X2_freeSlot
  exact fr_ul_X2_freeSlot_2 _ (by assumption)
theorem fr_u_X2_serveQueue_25 {t0 : CS} {a1 : Option Nat} {a2 : Option Nat} {μ : CS} (h : Fr t0 μ) : Fp t0 (u_X2_serveQueue_25 U S N a1 a2 μ) := by
  unfold u_X2_serveQueue_25
  refine fp_i ?_ ?_
  · refine fp_v (fun j1 => ?_)
    refine fp_i ?_ ?_
    · refine fp_b (fr_u_X8_release (by assumption)) (fun q2 hq2 => ?_)
      refine fp_b (fr_u_X1_start (by assumption)) (fun q5 hq5 => ?_)
      exact fp_z (by assumption)
    · refine fp_v (fun v8 => ?_)
      refine fp_b (fr_u_X1_start (by assumption)) (fun q9 hq9 => ?_)
      exact fp_z (by assumption)
  · exact fp_z (by assumption)
theorem fr_u_X2_slotToClear_84 {t0 : CS} {k4 : (Option Nat) → Int32 → CS → Option (Option Nat × CS)} {a1 : Option Nat} {a2 : Int32} {μ : CS} (hk4 : ∀ {x0 : (Option Nat)} {x1 : Int32} {y : CS}, Fr t0 y → Fp t0 (k4 x0 x1 y)) (h : Fr t0 μ) : Fp t0 (u_X2_slotToClear_84 U S N k4 a1 a2 μ) := by
  unfold u_X2_slotToClear_84
  exact hk4 (by assumption)
theorem fr_uh_X2_slotToClear_4 {t0 : CS} {k4 : (Option Nat) → Int32 → CS → Option (Option Nat × CS)} {a1 : Option Nat} {a2 : Int32} {μ : CS} (hk4 : ∀ {x0 : (Option Nat)} {x1 : Int32} {y : CS}, Fr t0 y → Fp t0 (k4 x0 x1 y)) (h : Fr t0 μ) : Fp t0 (uh_X2_slotToClear_4 U S N k4 a1 a2 μ) := by
  unfold uh_X2_slotToClear_4
  refine fp_i ?_ ?_
  · exact fp_s (by assumption)
  · refine fp_v (fun v4 => ?_)
    refine fp_v (fun v5 => ?_)
    refine fp_i ?_ ?_
    · exact fr_u_X2_slotToClear_84 hk4 (by assumption)
    · refine fp_v (fun j1 => ?_)
      refine fp_i ?_ ?_
      · refine fp_i ?_ ?_
        · refine fp_i ?_ ?_
          · exact fr_u_X2_slotToClear_84 hk4 (by assumption)
          · refine fp_v (fun v9 => ?_)
            refine fp_i ?_ ?_
            · exact fr_u_X2_slotToClear_84 hk4 (by assumption)
            · refine fp_v (fun v11 => ?_)
              refine fp_i ?_ ?_
              · exact fr_u_X2_slotToClear_84 hk4 (by assumption)
              · refine fp_v (fun v13 => ?_)
                exact fr_u_X2_slotToClear_84 hk4 (by assumption)
        · refine fp_v (fun v15 => ?_)
          exact fp_s (by assumption)
      · exact fr_u_X2_slotToClear_84 hk4 (by assumption)
theorem fr_ul_X2_slotToClear_4 (f : Nat) {t0 : CS} : ∀ {a1 : Option Nat} {a2 : Int32} {μ : CS} , Fr t0 μ → Fp t0 (ul_X2_slotToClear_4 U S N f a1 a2 μ) := by
  induction f with
  | zero => intro a1 a2 μ _; exact fp_n
  | succ f ih =>
    intro a1 a2 μ h
    exact fr_uh_X2_slotToClear_4 (fun {a1} {a2} {μ} hh => ih hh) h
theorem fr_u_X2_slotToClear {t0 : CS} {μ : CS} (h : Fr t0 μ) : Fp t0 (u_X2_slotToClear U S N μ) := by
  unfold u_X2_slotToClear
  exact fr_ul_X2_slotToClear_4 _ (by assumption)
theorem fr_u_X2_serveQueue {t0 : CS} {μ : CS} (h : Fr t0 μ) : Fp t0 (u_X2_serveQueue U S N μ) := by
  unfold u_X2_serveQueue
  refine fp_b (fr_u_X2_firstWithoutSlot (by assumption)) (fun q1 hq1 => ?_)
  refine fp_v (fun v_ => ?_)
  refine fp_i ?_ ?_
  · refine fp_b (fr_u_X2_freeSlot (by assumption)) (fun q3 hq3 => ?_)
    refine fp_v (fun v_ => ?_)
    refine fp_i ?_ ?_
    · exact fr_u_X2_serveQueue_25 (by assumption)
    · refine fp_b (fr_u_X2_slotToClear (by assumption)) (fun q5 hq5 => ?_)
      refine fp_v (fun v_ => ?_)
      exact fr_u_X2_serveQueue_25 (by assumption)
  · exact fp_z (by assumption)
theorem fr_u_X2_lookForTask {t0 : CS} {μ : CS} (h : Fr t0 μ) : Fp t0 (u_X2_lookForTask U S N μ) := by
  unfold u_X2_lookForTask
  refine fp_i ?_ ?_
  · refine fp_b (fr_u_X2_serveBlocks (by assumption)) (fun q3 hq3 => ?_)
    refine fp_i ?_ ?_
    · exact fr_u_X2_lookForTask_37 (by assumption)
    · refine fp_b (fr_u_X2_serveQueue (by assumption)) (fun q5 hq5 => ?_)
      exact fr_u_X2_lookForTask_37 (by assumption)
  · refine fp_b (fr_u_X2_serveQueue (by assumption)) (fun q7 hq7 => ?_)
    refine fp_i ?_ ?_
    · exact fr_u_X2_lookForTask_37 (by assumption)
    · refine fp_b (fr_u_X2_serveBlocks (by assumption)) (fun q9 hq9 => ?_)
      exact fr_u_X2_lookForTask_37 (by assumption)
theorem fr_u_X2_tick_95 {t0 : CS} {μ : CS} (h : Fr t0 μ) : Fp t0 (u_X2_tick_95 U S N μ) := by
  unfold u_X2_tick_95
  refine fp_b (fr_u_X1_isIdle (by assumption)) (fun q2 hq2 => ?_)
  refine fp_i ?_ ?_
  · exact fr_u_X2_tick_109 (by assumption)
  · refine fp_b (fr_u_X2_lookForTask (by assumption)) (fun q4 hq4 => ?_)
    exact fr_u_X2_tick_109 (by assumption)
theorem fr_u_X1_advance_14 {t0 : CS} {μ : CS} (h : Fr t0 μ) : Fp t0 (u_X1_advance_14 U S N μ) := by
  unfold u_X1_advance_14
  exact fp_z (by assumption)
theorem fr_u_X1_moveBlockStep_99 {t0 : CS} {μ : CS} (h : Fr t0 μ) : Fp t0 (u_X1_moveBlockStep_99 U S N μ) := by
  unfold u_X1_moveBlockStep_99
  exact fp_s (by assumption)
theorem fr_u_X1_moveBlockStep_93 {t0 : CS} {k18 : (Option Nat) → (Option Nat) → Int32 → Int32 → CS → Option (Unit × CS)} {a1 : Option Nat} {a2 : Option Nat} {a3 : Int32} {a4 : Int32} {μ : CS} (hk18 : ∀ {x0 : (Option Nat)} {x1 : (Option Nat)} {x2 : Int32} {x3 : Int32} {y : CS}, Fr t0 y → Fp t0 (k18 x0 x1 x2 x3 y)) (h : Fr t0 μ) : Fp t0 (u_X1_moveBlockStep_93 U S N k18 a1 a2 a3 a4 μ) := by
  unfold u_X1_moveBlockStep_93
  exact hk18 (by assumption)
theorem fr_uh_X1_moveBlockStep_18 {t0 : CS} {k18 : (Option Nat) → (Option Nat) → Int32 → Int32 → CS → Option (Unit × CS)} {a1 : Option Nat} {a2 : Option Nat} {a3 : Int32} {a4 : Int32} {μ : CS} (hk18 : ∀ {x0 : (Option Nat)} {x1 : (Option Nat)} {x2 : Int32} {x3 : Int32} {y : CS}, Fr t0 y → Fp t0 (k18 x0 x1 x2 x3 y)) (h : Fr t0 μ) : Fp t0 (uh_X1_moveBlockStep_18 U S N k18 a1 a2 a3 a4 μ) := by
  unfold uh_X1_moveBlockStep_18
  refine fp_i ?_ ?_
  · exact fr_u_X1_moveBlockStep_99 (by assumption)
  · refine fp_i ?_ ?_
    · exact fr_u_X1_moveBlockStep_99 (by assumption)
    · refine fp_v (fun j1 => ?_)
      refine fp_i ?_ ?_
      · refine fp_v (fun j2 => ?_)
        refine fp_v (fun v6 => ?_)
        refine fp_t (fq_wH (by assumption) (by decide) (by decide)) (fun μ7 hμ7 => ?_)
        exact fr_u_X1_moveBlockStep_93 hk18 (by assumption)
      · refine fp_v (fun v9 => ?_)
        refine fp_v (fun j3 => ?_)
        refine fp_b (fr_u_X8_put (by assumption)) (fun q10 hq10 => ?_)
        exact fr_u_X1_moveBlockStep_93 hk18 (by assumption)
theorem fr_ul_X1_moveBlockStep_18 (f : Nat) {t0 : CS} : ∀ {a1 : Option Nat} {a2 : Option Nat} {a3 : Int32} {a4 : Int32} {μ : CS} , Fr t0 μ → Fp t0 (ul_X1_moveBlockStep_18 U S N f a1 a2 a3 a4 μ) := by
  induction f with
  | zero => intro a1 a2 a3 a4 μ _; exact fp_n
  | succ f ih =>
    intro a1 a2 a3 a4 μ h
    exact fr_uh_X1_moveBlockStep_18 (fun {a1} {a2} {a3} {a4} {μ} hh => ih hh) h
theorem fr_u_X1_moveBlockStep {t0 : CS} {a1 : Option Nat} {a2 : Option Nat} {μ : CS} (h : Fr t0 μ) : Fp t0 (u_X1_moveBlockStep U S N a1 a2 μ) := by
  unfold u_X1_moveBlockStep
  refine fp_v (fun j1 => ?_)
  exact fr_ul_X1_moveBlockStep_18 _ (by assumption)
theorem fr_u_X1_advance_134 {t0 : CS} {s0 : Int32} {μ : CS} (h : Fr t0 μ) : Fp t0 (u_X1_advance_134 U S N s0 μ) := by
  unfold u_X1_advance_134
  exact fp_z (by assumption)
theorem fr_u_X1_advance_126 {t0 : CS} {s0 : Int32} {s1 : Int32} {μ : CS} (h : Fr t0 μ) : Fp t0 (u_X1_advance_126 U S N s0 s1 μ) := by
  unfold u_X1_advance_126
  refine fp_i ?_ ?_
  · exact fr_u_X1_advance_134 (by assumption)
  · exact fr_u_X1_advance_134 (by assumption)
theorem fr_u_X1_advance_117 {t0 : CS} {s0 : Int32} {μ : CS} (h : Fr t0 μ) : Fp t0 (u_X1_advance_117 U S N s0 μ) := by
  unfold u_X1_advance_117
  exact fr_u_X1_advance_126 (by assumption)
theorem fr_u_X1_advance_86 {t0 : CS} {μ : CS} (h : Fr t0 μ) : Fp t0 (u_X1_advance_86 U S N μ) := by
  unfold u_X1_advance_86
  refine fp_t (fq_s (Fr_I (by assumption))) (fun μ2 hμ2 => ?_)
  refine fp_i ?_ ?_
  · exact fr_u_X1_advance_117 (by assumption)
  · refine fp_i ?_ ?_
    · exact fr_u_X1_advance_126 (by assumption)
    · exact fr_u_X1_advance_117 (by assumption)
theorem fr_u_X1_copyStep_35 {t0 : CS} {μ : CS} (h : Fr t0 μ) : Fp t0 (u_X1_copyStep_35 U S N μ) := by
  unfold u_X1_copyStep_35
  exact fp_s (by assumption)
theorem fr_u_X1_copyStep {t0 : CS} {a1 : Nat × Nat × Nat} {a2 : Nat × Nat × Nat} {μ : CS} (hKey : a2.1 ≠ 4 ∧ a2.1 ≠ 11) (h : Fr t0 μ) : Fp t0 (u_X1_copyStep U S N a1 a2 μ) := by
  unfold u_X1_copyStep
  refine fp_i ?_ ?_
  · exact fr_u_X1_copyStep_35 (by assumption)
  · refine fp_i ?_ ?_
    · exact fr_u_X1_copyStep_35 (by assumption)
    · refine fp_t (fq_cp (by assumption) hKey.1 hKey.2) (fun μ5 hμ5 => ?_)
      exact fr_u_X1_copyStep_35 (by assumption)
theorem fr_u_X1_advance {t0 : CS} {μ : CS} (h : Fr t0 μ) : Fp t0 (u_X1_advance U S N μ) := by
  unfold u_X1_advance
  refine fp_v (fun v1 => ?_)
  refine fp_i ?_ ?_
  · exact fr_u_X1_advance_14 (by assumption)
  · refine fp_v (fun v2 => ?_)
    refine fp_i ?_ ?_
    · refine fp_i ?_ ?_
      · refine fp_i ?_ ?_
        · refine fp_v (fun v5 => ?_)
          refine fp_v (fun v6 => ?_)
          refine fp_b (fr_u_X1_moveBlockStep (by assumption)) (fun q7 hq7 => ?_)
          exact fr_u_X1_advance_86 (by assumption)
        · refine fp_v (fun v9 => ?_)
          refine fp_v (fun j1 => ?_)
          refine fp_v (fun v11 => ?_)
          refine fp_v (fun j2 => ?_)
          refine fp_b (fr_u_X1_copyStep (by dsimp only; exact ⟨by decide, by decide⟩) (by assumption)) (fun q13 hq13 => ?_)
          exact fr_u_X1_advance_86 (by assumption)
      · refine fp_v (fun v15 => ?_)
        refine fp_v (fun j3 => ?_)
        refine fp_v (fun v17 => ?_)
        refine fp_v (fun j4 => ?_)
        refine fp_b (fr_u_X1_copyStep (by dsimp only; exact ⟨by decide, by decide⟩) (by assumption)) (fun q19 hq19 => ?_)
        exact fr_u_X1_advance_86 (by assumption)
    · exact fr_u_X1_advance_14 (by assumption)
theorem fr_u_X2_finishTask_8 {t0 : CS} {μ : CS} (h : Fr t0 μ) : Fp t0 (u_X2_finishTask_8 U S N μ) := by
  unfold u_X2_finishTask_8
  exact fp_s (by assumption)
theorem fr_u_X2_finishBlock {t0 : CS} {a1 : Option Nat} {a2 : Option Nat} {μ : CS} (h : Fr t0 μ) : Fp t0 (u_X2_finishBlock U S N a1 a2 μ) := by
  unfold u_X2_finishBlock
  refine fp_t (fq_qZ (by assumption)) (fun μ2 hμ2 => ?_)
  refine fp_t (fq_s (Fr_I (by assumption))) (fun μ5 hμ5 => ?_)
  refine fp_v (fun j1 => ?_)
  refine fp_t (fq_s (Fr_I (by assumption))) (fun μ6 hμ6 => ?_)
  refine fp_t (fq_s (Fr_I (by assumption))) (fun μ8 hμ8 => ?_)
  refine fp_t (fq_s (Fr_I (by assumption))) (fun μ10 hμ10 => ?_)
  refine fp_v (fun j2 => ?_)
  refine fp_t (fq_qZ (by assumption)) (fun μ11 hμ11 => ?_)
  refine fp_b (fr_u_X2_makeReady (by assumption)) (fun q12 hq12 => ?_)
  exact fp_s (by assumption)
theorem fr_u_X1_clear {t0 : CS} {μ : CS} (h : Fr t0 μ) : Fp t0 (u_X1_clear U S N μ) := by
  unfold u_X1_clear
  refine fp_b (fr_u_X1_start (by assumption)) (fun q1 hq1 => ?_)
  exact fp_s (by assumption)
theorem fr_u_X2_finishTask_86 {t0 : CS} {μ : CS} (h : Fr t0 μ) : Fp t0 (u_X2_finishTask_86 U S N μ) := by
  unfold u_X2_finishTask_86
  refine fp_b (fr_u_X1_clear (by assumption)) (fun q2 hq2 => ?_)
  exact fp_s (by assumption)
theorem fr_u_X8_give {t0 : CS} {a0 : Nat} {a1 : Option Nat} {μ : CS} (h : Fr t0 μ) : Fp t0 (u_X8_give U S N a0 a1 μ) := by
  unfold u_X8_give
  refine fp_t (fq_s (Fr_R (by assumption))) (fun μ1 hμ1 => ?_)
  refine fp_v (fun j1 => ?_)
  refine fp_t (fq_s (Fr_R (by assumption))) (fun μ2 hμ2 => ?_)
  refine fp_t (fq_qZ (by assumption)) (fun μ3 hμ3 => ?_)
  refine fp_t (fq_qZ (by assumption)) (fun μ4 hμ4 => ?_)
  exact fp_s (by assumption)
theorem fr_u_X2_finishTask {t0 : CS} {a1 : Option Nat} {a2 : Option Nat} {μ : CS} (h : Fr t0 μ) : Fp t0 (u_X2_finishTask U S N a1 a2 μ) := by
  unfold u_X2_finishTask
  refine fp_i ?_ ?_
  · exact fr_u_X2_finishTask_8 (by assumption)
  · refine fp_i ?_ ?_
    · refine fp_t (fq_qZ (by assumption)) (fun μ2 hμ2 => ?_)
      refine fp_i ?_ ?_
      · refine fp_i ?_ ?_
        · refine fp_b (fr_u_X2_finishBlock (by assumption)) (fun q7 hq7 => ?_)
          exact fr_u_X2_finishTask_86 (by assumption)
        · refine fp_v (fun j1 => ?_)
          refine fp_b (fr_u_X8_give (by assumption)) (fun q9 hq9 => ?_)
          refine fp_t (fq_s (Fr_I (by assumption))) (fun μ13 hμ13 => ?_)
          exact fr_u_X2_finishTask_86 (by assumption)
      · refine fp_v (fun j2 => ?_)
        refine fp_b (fr_u_X8_release (by assumption)) (fun q14 hq14 => ?_)
        refine fp_t (fq_s (Fr_I (by assumption))) (fun μ18 hμ18 => ?_)
        exact fr_u_X2_finishTask_86 (by assumption)
    · exact fr_u_X2_finishTask_8 (by assumption)
theorem fr_u_X2_attend_45 {t0 : CS} {μ : CS} (h : Fr t0 μ) : Fp t0 (u_X2_attend_45 U S N μ) := by
  unfold u_X2_attend_45
  exact fp_s (by assumption)
theorem fr_u_X10_print_26 {t0 : CS} {a0 : Nat} {μ : CS} (h : Fr t0 μ) : Fp t0 (u_X10_print_26 U S N a0 μ) := by
  unfold u_X10_print_26
  refine fp_t (fq_s (Fr_I (by assumption))) (fun μ2 hμ2 => ?_)
  refine fp_b (fr_u_X6_drop (by assumption)) (fun q4 hq4 => ?_)
  exact fp_s (by assumption)
theorem fr_u_X10_print {t0 : CS} {a0 : Nat} {μ : CS} (h : Fr t0 μ) : Fp t0 (u_X10_print U S N a0 μ) := by
  unfold u_X10_print
  refine fp_i ?_ ?_
  · exact fr_u_X10_print_26 (by assumption)
  · refine fp_b (fr_u_X6_head (by assumption)) (fun q5 hq5 => ?_)
    refine fp_t (fq_wH (by assumption) (by decide) (by decide)) (fun μ7 hμ7 => ?_)
    exact fr_u_X10_print_26 (by assumption)
theorem fr_u_X2_attend_76 {t0 : CS} {μ : CS} (h : Fr t0 μ) : Fp t0 (u_X2_attend_76 U S N μ) := by
  unfold u_X2_attend_76
  exact fp_s (by assumption)
theorem fr_u_X2_attend_24 {t0 : CS} {a1 : Option Nat} {μ : CS} (h : Fr t0 μ) : Fp t0 (u_X2_attend_24 U S N a1 μ) := by
  unfold u_X2_attend_24
  refine fp_v (fun j1 => ?_)
  refine fp_b (fr_u_X6_isEmpty (by assumption)) (fun q2 hq2 => ?_)
  refine fp_i ?_ ?_
  · exact fr_u_X2_attend_45 (by assumption)
  · refine fp_i ?_ ?_
    · refine fp_b (fr_u_X10_print (by assumption)) (fun q6 hq6 => ?_)
      refine fp_t (fq_s (Fr_I (by assumption))) (fun μ10 hμ10 => ?_)
      refine fp_i ?_ ?_
      · exact fr_u_X2_attend_76 (by assumption)
      · refine fp_b (fr_u_X2_makeReady (by assumption)) (fun q12 hq12 => ?_)
        exact fr_u_X2_attend_76 (by assumption)
    · exact fr_u_X2_attend_45 (by assumption)
theorem fr_u_X2_attend {t0 : CS} {a1 : Option Nat} {μ : CS} (h : Fr t0 μ) : Fp t0 (u_X2_attend U S N a1 μ) := by
  unfold u_X2_attend
  refine fp_v (fun j1 => ?_)
  refine fp_i ?_ ?_
  · exact fr_u_X2_attend_24 (by assumption)
  · refine fp_i ?_ ?_
    · exact fr_u_X2_attend_24 (by assumption)
    · refine fp_b (fr_u_X2_makeReady (by assumption)) (fun q4 hq4 => ?_)
      exact fr_u_X2_attend_24 (by assumption)
theorem fr_u_X2_tick_51 {t0 : CS} {k12 : Int32 → CS → Option (Unit × CS)} {a1 : Int32} {μ : CS} (hk12 : ∀ {x0 : Int32} {y : CS}, Fr t0 y → Fp t0 (k12 x0 y)) (h : Fr t0 μ) : Fp t0 (u_X2_tick_51 U S N k12 a1 μ) := by
  unfold u_X2_tick_51
  exact hk12 (by assumption)
theorem fr_u_X2_tick_46 {t0 : CS} {k12 : Int32 → CS → Option (Unit × CS)} {a1 : Int32} {a2 : Option Nat} {μ : CS} (hk12 : ∀ {x0 : Int32} {y : CS}, Fr t0 y → Fp t0 (k12 x0 y)) (h : Fr t0 μ) : Fp t0 (u_X2_tick_46 U S N k12 a1 a2 μ) := by
  unfold u_X2_tick_46
  refine fp_b (fr_u_X2_attend (by assumption)) (fun q1 hq1 => ?_)
  exact fr_u_X2_tick_51 hk12 (by assumption)
theorem fr_uh_X2_tick_12 {t0 : CS} {k12 : Int32 → CS → Option (Unit × CS)} {a1 : Int32} {μ : CS} (hk12 : ∀ {x0 : Int32} {y : CS}, Fr t0 y → Fp t0 (k12 x0 y)) (h : Fr t0 μ) : Fp t0 (uh_X2_tick_12 U S N k12 a1 μ) := by
  unfold uh_X2_tick_12
  refine fp_i ?_ ?_
  · refine fp_b (fr_u_X1_isIdle (by assumption)) (fun q4 hq4 => ?_)
    refine fp_i ?_ ?_
    · exact fr_u_X2_tick_95 (by assumption)
    · refine fp_b (fr_u_X1_advance (by assumption)) (fun q7 hq7 => ?_)
      refine fp_i ?_ ?_
      · exact fr_u_X2_tick_95 (by assumption)
      · refine fp_v (fun v10 => ?_)
        refine fp_v (fun v12 => ?_)
        refine fp_b (fr_u_X2_finishTask (by assumption)) (fun q13 hq13 => ?_)
        exact fr_u_X2_tick_95 (by assumption)
  · refine fp_v (fun v16 => ?_)
    refine fp_i ?_ ?_
    · exact fr_u_X2_tick_46 hk12 (by assumption)
    · refine fp_i ?_ ?_
      · exact fr_u_X2_tick_51 hk12 (by assumption)
      · exact fr_u_X2_tick_46 hk12 (by assumption)
theorem fr_ul_X2_tick_12 (f : Nat) {t0 : CS} : ∀ {a1 : Int32} {μ : CS} , Fr t0 μ → Fp t0 (ul_X2_tick_12 U S N f a1 μ) := by
  induction f with
  | zero => intro a1 μ _; exact fp_n
  | succ f ih =>
    intro a1 μ h
    exact fr_uh_X2_tick_12 (fun {a1} {μ} hh => ih hh) h
theorem fr_u_X2_tick {t0 : CS} {μ : CS} (h : Fr t0 μ) : Fp t0 (u_X2_tick U S N μ) := by
  unfold u_X2_tick
  refine fp_t (fq_s (Fr_I (by assumption))) (fun μ2 hμ2 => ?_)
  exact fr_ul_X2_tick_12 _ (by assumption)
theorem fr_uh_X11_run_24 {t0 : CS} {k24 : Int32 → Int32 → Int32 → CS → Option (Int32 × CS)} {a1 : Int32} {a2 : Int32} {a3 : Int32} {μ : CS} (hk24 : ∀ {x0 : Int32} {x1 : Int32} {x2 : Int32} {y : CS}, Fr t0 y → Fp t0 (k24 x0 x1 x2 y)) (h : Fr t0 μ) : Fp t0 (uh_X11_run_24 U S N k24 a1 a2 a3 μ) := by
  unfold uh_X11_run_24
  refine fp_i ?_ ?_
  · exact fp_s (by assumption)
  · refine fp_b (fr_u_X2_tick (by assumption)) (fun q4 hq4 => ?_)
    exact hk24 (by assumption)
theorem fr_ul_X11_run_24 (f : Nat) {t0 : CS} : ∀ {a1 : Int32} {a2 : Int32} {a3 : Int32} {μ : CS} , Fr t0 μ → Fp t0 (ul_X11_run_24 U S N f a1 a2 a3 μ) := by
  induction f with
  | zero => intro a1 a2 a3 μ _; exact fp_n
  | succ f ih =>
    intro a1 a2 a3 μ h
    exact fr_uh_X11_run_24 (fun {a1} {a2} {a3} {μ} hh => ih hh) h
theorem fr_u_X11_run {t0 : CS} {a1 : Int32} {μ : CS} (h : Fr t0 μ) : Fp t0 (u_X11_run U S N a1 μ) := by
  unfold u_X11_run
  refine fp_i ?_ ?_
  · exact fr_u_X11_run_12 (by assumption)
  · refine fp_i ?_ ?_
    · exact fr_ul_X11_run_24 _ (by assumption)
    · exact fr_u_X11_run_12 (by assumption)
theorem fr_u_X11_user_70 {t0 : CS} {s0 : Int32} {μ : CS} (h : Fr t0 μ) : Fp t0 (u_X11_user_70 U S N s0 μ) := by
  unfold u_X11_user_70
  exact fp_s (by assumption)
theorem fr_u_X11_user_105 {t0 : CS} {s0 : Int32} {μ : CS} (h : Fr t0 μ) : Fp t0 (u_X11_user_105 U S N s0 μ) := by
  unfold u_X11_user_105
  exact fp_s (by assumption)
theorem fr_u_X10_register_150 {t0 : CS} {μ : CS} (h : Fr t0 μ) : Fp t0 (u_X10_register_150 U S N μ) := by
  unfold u_X10_register_150
  exact fp_s (by assumption)
theorem fr_u_X10_register_149 {t0 : CS} {s0 : Int32} {μ : CS} (h : Fr t0 μ) : Fp t0 (u_X10_register_149 U S N s0 μ) := by
  unfold u_X10_register_149
  exact fp_s (by assumption)
theorem fr_u_X10_register {t0 : CS} {a0 : Nat} {a1 : Int32} {μ : CS} (h : Fr t0 μ) : Fp t0 (u_X10_register U S N a0 a1 μ) := by
  unfold u_X10_register
  refine fp_i ?_ ?_
  · exact fp_s (by assumption)
  · refine fp_i ?_ ?_
    · exact fp_s (by assumption)
    · refine fp_i ?_ ?_
      · exact fp_s (by assumption)
      · refine fp_i ?_ ?_
        · exact fp_s (by assumption)
        · refine fp_i ?_ ?_
          · exact fp_s (by assumption)
          · refine fp_i ?_ ?_
            · exact fp_s (by assumption)
            · refine fp_i ?_ ?_
              · exact fp_s (by assumption)
              · refine fp_i ?_ ?_
                · exact fp_s (by assumption)
                · refine fp_i ?_ ?_
                  · exact fp_s (by assumption)
                  · refine fp_i ?_ ?_
                    · exact fr_u_X10_register_150 (by assumption)
                    · refine fp_i ?_ ?_
                      · exact fr_u_X10_register_150 (by assumption)
                      · refine fp_i ?_ ?_
                        · exact fp_s (by assumption)
                        · refine fp_i ?_ ?_
                          · exact fp_s (by assumption)
                          · refine fp_i ?_ ?_
                            · refine fp_i ?_ ?_
                              · exact fr_u_X10_register_149 (by assumption)
                              · exact fr_u_X10_register_149 (by assumption)
                            · exact fr_u_X10_register_150 (by assumption)
theorem fr_u_X11_user {t0 : CS} {a1 : Int32} {a2 : Int32} {μ : CS} (h : Fr t0 μ) : Fp t0 (u_X11_user U S N a1 a2 μ) := by
  unfold u_X11_user
  refine fp_b (fr_u_X2_userAt (by assumption)) (fun q2 hq2 => ?_)
  refine fp_v (fun v_ => ?_)
  refine fp_i ?_ ?_
  · refine fp_i ?_ ?_
    · refine fp_v (fun j1 => ?_)
      refine fp_v (fun v4 => ?_)
      refine fp_i ?_ ?_
      · refine fp_v (fun v5 => ?_)
        refine fp_v (fun j2 => ?_)
        exact fr_u_X11_user_70 (by assumption)
      · exact fr_u_X11_user_70 (by assumption)
    · refine fp_i ?_ ?_
      · refine fp_b (fr_u_X5_placeOf (by assumption)) (fun q9 hq9 => ?_)
        exact fp_s (by assumption)
      · refine fp_i ?_ ?_
        · refine fp_v (fun v12 => ?_)
          refine fp_i ?_ ?_
          · exact fr_u_X11_user_105 (by assumption)
          · exact fr_u_X11_user_105 (by assumption)
        · refine fp_v (fun j3 => ?_)
          refine fp_b (fr_u_X10_register (by assumption)) (fun q15 hq15 => ?_)
          exact fp_s (by assumption)
  · exact fp_s (by assumption)
theorem fr_u_X11_look_96 {t0 : CS} {s0 : Int32} {μ : CS} (h : Fr t0 μ) : Fp t0 (u_X11_look_96 U S N s0 μ) := by
  unfold u_X11_look_96
  exact fp_s (by assumption)
theorem fr_u_X1_register_83 {t0 : CS} {s0 : Int32} {μ : CS} (h : Fr t0 μ) : Fp t0 (u_X1_register_83 U S N s0 μ) := by
  unfold u_X1_register_83
  exact fp_s (by assumption)
theorem fr_u_X1_register_107 {t0 : CS} {s0 : Int32} {μ : CS} (h : Fr t0 μ) : Fp t0 (u_X1_register_107 U S N s0 μ) := by
  unfold u_X1_register_107
  exact fp_s (by assumption)
theorem fr_u_X1_register_123 {t0 : CS} {μ : CS} (h : Fr t0 μ) : Fp t0 (u_X1_register_123 U S N μ) := by
  unfold u_X1_register_123
  exact fp_s (by assumption)
theorem fr_u_X1_register {t0 : CS} {a1 : Int32} {μ : CS} (h : Fr t0 μ) : Fp t0 (u_X1_register U S N a1 μ) := by
  unfold u_X1_register
  refine fp_i ?_ ?_
  · exact fp_s (by assumption)
  · refine fp_i ?_ ?_
    · refine fp_v (fun v2 => ?_)
      refine fp_i ?_ ?_
      · refine fp_v (fun v3 => ?_)
        refine fp_v (fun j1 => ?_)
        exact fr_u_X1_register_83 (by assumption)
      · exact fr_u_X1_register_83 (by assumption)
    · refine fp_i ?_ ?_
      · exact fp_s (by assumption)
      · refine fp_i ?_ ?_
        · refine fp_v (fun v6 => ?_)
          refine fp_i ?_ ?_
          · refine fp_v (fun v7 => ?_)
            refine fp_v (fun j2 => ?_)
            exact fr_u_X1_register_107 (by assumption)
          · exact fr_u_X1_register_107 (by assumption)
        · refine fp_i ?_ ?_
          · exact fp_s (by assumption)
          · refine fp_i ?_ ?_
            · exact fp_s (by assumption)
            · refine fp_i ?_ ?_
              · exact fr_u_X1_register_123 (by assumption)
              · refine fp_i ?_ ?_
                · exact fr_u_X1_register_123 (by assumption)
                · refine fp_i ?_ ?_
                  · exact fr_u_X1_register_123 (by assumption)
                  · refine fp_i ?_ ?_
                    · exact fr_u_X1_register_123 (by assumption)
                    · refine fp_i ?_ ?_
                      · exact fp_s (by assumption)
                      · exact fr_u_X1_register_123 (by assumption)
theorem fr_u_X11_look_129 {t0 : CS} {a1 : Int32} {μ : CS} (h : Fr t0 μ) : Fp t0 (u_X11_look_129 U S N a1 μ) := by
  unfold u_X11_look_129
  refine fp_b (fr_u_X1_register (by assumption)) (fun q3 hq3 => ?_)
  exact fp_s (by assumption)
theorem fr_u_X11_look {t0 : CS} {a1 : Int32} {μ : CS} (h : Fr t0 μ) : Fp t0 (u_X11_look U S N a1 μ) := by
  unfold u_X11_look
  refine fp_i ?_ ?_
  · exact fp_s (by assumption)
  · refine fp_i ?_ ?_
    · refine fp_v (fun v4 => ?_)
      refine fp_i ?_ ?_
      · refine fp_v (fun v6 => ?_)
        refine fp_v (fun j1 => ?_)
        exact fr_u_X11_look_96 (by assumption)
      · exact fr_u_X11_look_96 (by assumption)
    · refine fp_i ?_ ?_
      · exact fr_u_X11_look_129 (by assumption)
      · refine fp_i ?_ ?_
        · exact fr_u_X11_look_129 (by assumption)
        · refine fp_i ?_ ?_
          · exact fr_u_X11_look_129 (by assumption)
          · refine fp_i ?_ ?_
            · exact fr_u_X11_look_129 (by assumption)
            · refine fp_i ?_ ?_
              · exact fr_u_X11_look_129 (by assumption)
              · refine fp_i ?_ ?_
                · exact fr_u_X11_look_129 (by assumption)
                · refine fp_i ?_ ?_
                  · exact fp_s (by assumption)
                  · refine fp_i ?_ ?_
                    · exact fp_s (by assumption)
                    · refine fp_i ?_ ?_
                      · exact fp_s (by assumption)
                      · refine fp_i ?_ ?_
                        · exact fp_s (by assumption)
                        · exact fr_u_X11_look_129 (by assumption)
theorem fr_u_X11_word_29 {t0 : CS} {s0 : Int32} {μ : CS} (h : Fr t0 μ) : Fp t0 (u_X11_word_29 U S N s0 μ) := by
  unfold u_X11_word_29
  exact fp_s (by assumption)
theorem fr_u_X11_word_20 {t0 : CS} {μ : CS} (h : Fr t0 μ) : Fp t0 (u_X11_word_20 U S N μ) := by
  unfold u_X11_word_20
  exact fr_u_X11_word_29 (by assumption)
theorem fr_u_X10_fetch_33 {t0 : CS} {s0 : Int32} {μ : CS} (h : Fr t0 μ) : Fp t0 (u_X10_fetch_33 U S N s0 μ) := by
  unfold u_X10_fetch_33
  exact fp_s (by assumption)
theorem fr_u_X10_fetch {t0 : CS} {a0 : Nat} {a1 : Int32} {μ : CS} (h : Fr t0 μ) : Fp t0 (u_X10_fetch U S N a0 a1 μ) := by
  unfold u_X10_fetch
  refine fp_v (fun v1 => ?_)
  refine fp_i ?_ ?_
  · refine fp_v (fun v2 => ?_)
    refine fp_v (fun j1 => ?_)
    refine fp_v (fun v4 => ?_)
    exact fr_u_X10_fetch_33 (by assumption)
  · refine fp_v (fun v6 => ?_)
    exact fr_u_X10_fetch_33 (by assumption)
theorem fr_u_X11_word {t0 : CS} {a1 : Int32} {a2 : Int32} {μ : CS} (h : Fr t0 μ) : Fp t0 (u_X11_word U S N a1 a2 μ) := by
  unfold u_X11_word
  refine fp_b (fr_u_X2_userAt (by assumption)) (fun q2 hq2 => ?_)
  refine fp_v (fun v_ => ?_)
  refine fp_i ?_ ?_
  · exact fr_u_X11_word_20 (by assumption)
  · refine fp_b (fr_u_X11_isWord (by assumption)) (fun q4 hq4 => ?_)
    refine fp_i ?_ ?_
    · refine fp_v (fun j1 => ?_)
      refine fp_b (fr_u_X10_fetch (by assumption)) (fun q5 hq5 => ?_)
      exact fr_u_X11_word_29 (by assumption)
    · exact fr_u_X11_word_20 (by assumption)
theorem fr_u_X2_slotAt_23 {t0 : CS} {s0 : Option Nat} {μ : CS} (h : Fr t0 μ) : Fp t0 (u_X2_slotAt_23 U S N s0 μ) := by
  unfold u_X2_slotAt_23
  exact fp_s (by assumption)
theorem fr_u_X2_slotAt_13 {t0 : CS} {μ : CS} (h : Fr t0 μ) : Fp t0 (u_X2_slotAt_13 U S N μ) := by
  unfold u_X2_slotAt_13
  exact fr_u_X2_slotAt_23 (by assumption)
theorem fr_u_X2_slotAt {t0 : CS} {a1 : Int32} {μ : CS} (h : Fr t0 μ) : Fp t0 (u_X2_slotAt U S N a1 μ) := by
  unfold u_X2_slotAt
  refine fp_i ?_ ?_
  · exact fr_u_X2_slotAt_13 (by assumption)
  · refine fp_i ?_ ?_
    · refine fp_v (fun v4 => ?_)
      exact fr_u_X2_slotAt_23 (by assumption)
    · exact fr_u_X2_slotAt_13 (by assumption)
theorem fr_u_X11_core_30 {t0 : CS} {s0 : Int32} {μ : CS} (h : Fr t0 μ) : Fp t0 (u_X11_core_30 U S N s0 μ) := by
  unfold u_X11_core_30
  exact fp_s (by assumption)
theorem fr_u_X11_core_20 {t0 : CS} {μ : CS} (h : Fr t0 μ) : Fp t0 (u_X11_core_20 U S N μ) := by
  unfold u_X11_core_20
  exact fr_u_X11_core_30 (by assumption)
theorem fr_u_X11_core {t0 : CS} {a1 : Int32} {a2 : Int32} {μ : CS} (h : Fr t0 μ) : Fp t0 (u_X11_core U S N a1 a2 μ) := by
  unfold u_X11_core
  refine fp_b (fr_u_X2_slotAt (by assumption)) (fun q2 hq2 => ?_)
  refine fp_v (fun v_ => ?_)
  refine fp_i ?_ ?_
  · exact fr_u_X11_core_20 (by assumption)
  · refine fp_b (fr_u_X11_isWord (by assumption)) (fun q4 hq4 => ?_)
    refine fp_i ?_ ?_
    · refine fp_v (fun j1 => ?_)
      refine fp_v (fun v6 => ?_)
      exact fr_u_X11_core_30 (by assumption)
    · exact fr_u_X11_core_20 (by assumption)
theorem fr_u_X11_drum_30 {t0 : CS} {s0 : Int32} {μ : CS} (h : Fr t0 μ) : Fp t0 (u_X11_drum_30 U S N s0 μ) := by
  unfold u_X11_drum_30
  exact fp_s (by assumption)
theorem fr_u_X11_drum_20 {t0 : CS} {μ : CS} (h : Fr t0 μ) : Fp t0 (u_X11_drum_20 U S N μ) := by
  unfold u_X11_drum_20
  exact fr_u_X11_drum_30 (by assumption)
theorem fr_u_X11_drum {t0 : CS} {a1 : Int32} {a2 : Int32} {μ : CS} (h : Fr t0 μ) : Fp t0 (u_X11_drum U S N a1 a2 μ) := by
  unfold u_X11_drum
  refine fp_b (fr_u_X2_userAt (by assumption)) (fun q2 hq2 => ?_)
  refine fp_v (fun v_ => ?_)
  refine fp_i ?_ ?_
  · exact fr_u_X11_drum_20 (by assumption)
  · refine fp_b (fr_u_X11_isWord (by assumption)) (fun q4 hq4 => ?_)
    refine fp_i ?_ ?_
    · refine fp_v (fun j1 => ?_)
      refine fp_v (fun v6 => ?_)
      exact fr_u_X11_drum_30 (by assumption)
    · exact fr_u_X11_drum_20 (by assumption)
theorem fr_u_X8_register_46 {t0 : CS} {s0 : Int32} {μ : CS} (h : Fr t0 μ) : Fp t0 (u_X8_register_46 U S N s0 μ) := by
  unfold u_X8_register_46
  exact fp_s (by assumption)
theorem fr_u_X8_register_59 {t0 : CS} {s0 : Int32} {μ : CS} (h : Fr t0 μ) : Fp t0 (u_X8_register_59 U S N s0 μ) := by
  unfold u_X8_register_59
  exact fp_s (by assumption)
theorem fr_u_X8_register_72 {t0 : CS} {s0 : Int32} {μ : CS} (h : Fr t0 μ) : Fp t0 (u_X8_register_72 U S N s0 μ) := by
  unfold u_X8_register_72
  exact fp_s (by assumption)
theorem fr_u_X8_register {t0 : CS} {a0 : Nat} {a1 : Int32} {μ : CS} (h : Fr t0 μ) : Fp t0 (u_X8_register U S N a0 a1 μ) := by
  unfold u_X8_register
  refine fp_i ?_ ?_
  · refine fp_v (fun v1 => ?_)
    refine fp_i ?_ ?_
    · refine fp_v (fun v2 => ?_)
      refine fp_v (fun j1 => ?_)
      exact fr_u_X8_register_46 (by assumption)
    · exact fr_u_X8_register_46 (by assumption)
  · refine fp_i ?_ ?_
    · refine fp_i ?_ ?_
      · exact fr_u_X8_register_59 (by assumption)
      · exact fr_u_X8_register_59 (by assumption)
    · refine fp_i ?_ ?_
      · refine fp_i ?_ ?_
        · exact fr_u_X8_register_72 (by assumption)
        · exact fr_u_X8_register_72 (by assumption)
      · exact fp_s (by assumption)
theorem fr_u_X11_slot_22 {t0 : CS} {s0 : Int32} {μ : CS} (h : Fr t0 μ) : Fp t0 (u_X11_slot_22 U S N s0 μ) := by
  unfold u_X11_slot_22
  exact fp_s (by assumption)
theorem fr_u_X11_slot {t0 : CS} {a1 : Int32} {a2 : Int32} {μ : CS} (h : Fr t0 μ) : Fp t0 (u_X11_slot U S N a1 a2 μ) := by
  unfold u_X11_slot
  refine fp_b (fr_u_X2_slotAt (by assumption)) (fun q2 hq2 => ?_)
  refine fp_v (fun v_ => ?_)
  refine fp_i ?_ ?_
  · refine fp_v (fun j1 => ?_)
    refine fp_b (fr_u_X8_register (by assumption)) (fun q4 hq4 => ?_)
    exact fr_u_X11_slot_22 (by assumption)
  · exact fr_u_X11_slot_22 (by assumption)
theorem fr_u_X11_block_36 {t0 : CS} {μ : CS} (h : Fr t0 μ) : Fp t0 (u_X11_block_36 U S N μ) := by
  unfold u_X11_block_36
  exact fp_s (by assumption)
theorem fr_u_X11_block {t0 : CS} {a1 : Int32} {a2 : Int32} {a3 : Int32} {μ : CS} (h : Fr t0 μ) : Fp t0 (u_X11_block U S N a1 a2 a3 μ) := by
  unfold u_X11_block
  refine fp_b (fr_u_X2_userAt (by assumption)) (fun q2 hq2 => ?_)
  refine fp_v (fun v_ => ?_)
  refine fp_i ?_ ?_
  · exact fr_u_X11_block_36 (by assumption)
  · refine fp_i ?_ ?_
    · exact fr_u_X11_block_36 (by assumption)
    · refine fp_i ?_ ?_
      · exact fr_u_X11_block_36 (by assumption)
      · refine fp_i ?_ ?_
        · exact fr_u_X11_block_36 (by assumption)
        · refine fp_i ?_ ?_
          · refine fp_v (fun j1 => ?_)
            refine fp_v (fun v5 => ?_)
            exact fp_s (by assumption)
          · exact fr_u_X11_block_36 (by assumption)
theorem fr_u_X10_letterOnPaper_29 {t0 : CS} {s0 : Int32} {μ : CS} (h : Fr t0 μ) : Fp t0 (u_X10_letterOnPaper_29 U S N s0 μ) := by
  unfold u_X10_letterOnPaper_29
  exact fp_s (by assumption)
theorem fr_u_X10_letterOnPaper_19 {t0 : CS} {μ : CS} (h : Fr t0 μ) : Fp t0 (u_X10_letterOnPaper_19 U S N μ) := by
  unfold u_X10_letterOnPaper_19
  exact fr_u_X10_letterOnPaper_29 (by assumption)
theorem fr_u_X10_letterOnPaper {t0 : CS} {a0 : Nat} {a1 : Int32} {μ : CS} (h : Fr t0 μ) : Fp t0 (u_X10_letterOnPaper U S N a0 a1 μ) := by
  unfold u_X10_letterOnPaper
  refine fp_i ?_ ?_
  · exact fr_u_X10_letterOnPaper_19 (by assumption)
  · refine fp_i ?_ ?_
    · exact fr_u_X10_letterOnPaper_19 (by assumption)
    · refine fp_i ?_ ?_
      · refine fp_v (fun v3 => ?_)
        exact fr_u_X10_letterOnPaper_29 (by assumption)
      · exact fr_u_X10_letterOnPaper_19 (by assumption)
theorem fr_u_X11_paper_22 {t0 : CS} {s0 : Int32} {μ : CS} (h : Fr t0 μ) : Fp t0 (u_X11_paper_22 U S N s0 μ) := by
  unfold u_X11_paper_22
  exact fp_s (by assumption)
theorem fr_u_X11_paper {t0 : CS} {a1 : Int32} {a2 : Int32} {μ : CS} (h : Fr t0 μ) : Fp t0 (u_X11_paper U S N a1 a2 μ) := by
  unfold u_X11_paper
  refine fp_b (fr_u_X2_userAt (by assumption)) (fun q2 hq2 => ?_)
  refine fp_v (fun v_ => ?_)
  refine fp_i ?_ ?_
  · refine fp_v (fun j1 => ?_)
    refine fp_b (fr_u_X10_letterOnPaper (by assumption)) (fun q4 hq4 => ?_)
    exact fr_u_X11_paper_22 (by assumption)
  · exact fr_u_X11_paper_22 (by assumption)
end
