/-! LAYER 3, what the reference's other methods leave alone, further -/
section
variable {U S N : Nat}
theorem fs_g_third_119 {z0 : RS} {a1 : Int32} {μ : RS} (h : Fs z0 μ) : Gp z0 (g_third_119 U S N a1 μ) := by
  unfold g_third_119
  refine gp_i ?_ ?_
  · refine gp_b (fs_g_word_ (by assumption)) (fun q2 hq2 => ?_)
    refine gp_v (fun v5 => ?_)
    refine gp_v (fun v7 => ?_)
    refine gp_i ?_ ?_
    · refine gp_i ?_ ?_
      · exact fs_l_third_246 _ (by assumption)
      · refine gp_v (fun v9 => ?_)
        refine gp_i ?_ ?_
        · refine gp_i gp_n ?_
          refine gp_i gp_n ?_
          refine gp_t (gq_wA (by assumption)) (fun μ11 hμ11 => ?_)
          exact fs_g_third_324 (by assumption)
        · refine gp_t (gq_wA (by assumption)) (fun μ13 hμ13 => ?_)
          exact gp_s (by assumption)
    · refine gp_v (fun v15 => ?_)
      refine gp_v (fun v17 => ?_)
      refine gp_t (gq_wA (by assumption)) (fun μ19 hμ19 => ?_)
      exact fs_g_third_324 (by assumption)
  · exact gp_s (by assumption)
theorem fs_g_third_64 {z0 : RS} {a1 : Int32} {μ : RS} (h : Fs z0 μ) : Gp z0 (g_third_64 U S N a1 μ) := by
  unfold g_third_64
  refine gp_b (fs_g_has (by assumption)) (fun q1 hq1 => ?_)
  refine gp_i ?_ ?_
  · refine gp_b (fs_g_has (by assumption)) (fun q3 hq3 => ?_)
    refine gp_i ?_ ?_
    · exact fs_g_third_119 (by assumption)
    · refine gp_v (fun v7 => ?_)
      refine gp_t (gq_wA (by assumption)) (fun μ8 hμ8 => ?_)
      refine gp_t (gq_wA (by assumption)) (fun μ10 hμ10 => ?_)
      exact fs_g_third_119 (by assumption)
  · refine gp_v (fun v12 => ?_)
    refine gp_v (fun v14 => ?_)
    refine gp_t (gq_wA (by assumption)) (fun μ15 hμ15 => ?_)
    exact fs_g_third_119 (by assumption)
theorem fs_g_third_17 {z0 : RS} {a1 : Int32} {μ : RS} (h : Fs z0 μ) : Gp z0 (g_third_17 U S N a1 μ) := by
  unfold g_third_17
  refine gp_b (fs_g_has (by assumption)) (fun q1 hq1 => ?_)
  refine gp_i ?_ ?_
  · exact fs_g_third_64 (by assumption)
  · refine gp_b (fs_g_has (by assumption)) (fun q3 hq3 => ?_)
    refine gp_i ?_ ?_
    · exact fs_g_third_64 (by assumption)
    · refine gp_v (fun v6 => ?_)
      refine gp_v (fun v9 => ?_)
      refine gp_t (gq_wA (by assumption)) (fun μ10 hμ10 => ?_)
      refine gp_t (gq_wA (by assumption)) (fun μ12 hμ12 => ?_)
      exact fs_g_third_119 (by assumption)
theorem fs_g_third {z0 : RS} {a1 : Int32} {μ : RS} (h : Fs z0 μ) : Gp z0 (g_third U S N a1 μ) := by
  unfold g_third
  refine gp_b (fs_g_has (by assumption)) (fun q1 hq1 => ?_)
  refine gp_i ?_ ?_
  · exact fs_g_third_17 (by assumption)
  · refine gp_t (gq_wA (by assumption)) (fun μ4 hμ4 => ?_)
    exact fs_g_third_17 (by assumption)
theorem fs_g_step_139 {z0 : RS} {a1 : Int32} {a4 : Int32} {μ : RS} (h : Fs z0 μ) : Gp z0 (g_step_139 U S N a1 a4 μ) := by
  unfold g_step_139
  refine gp_i ?_ ?_
  · refine gp_v (fun v2 => ?_)
    refine gp_t (gq_wA (by assumption)) (fun μ3 hμ3 => ?_)
    refine gp_t (gq_s (Fs_I (by assumption) (by decide))) (fun μ5 hμ5 => ?_)
    exact gp_s (by assumption)
  · exact gp_s (by assumption)
theorem fs_g_second_135 {z0 : RS} {μ : RS} (h : Fs z0 μ) : Gp z0 (g_second_135 U S N μ) := by
  unfold g_second_135
  exact gp_s (by assumption)
theorem fs_g_second_119 {z0 : RS} {a1 : Int32} {μ : RS} (h : Fs z0 μ) : Gp z0 (g_second_119 U S N a1 μ) := by
  unfold g_second_119
  refine gp_b (fs_g_has (by assumption)) (fun q1 hq1 => ?_)
  refine gp_i ?_ ?_
  · exact fs_g_second_135 (by assumption)
  · refine gp_t (gq_wA (by assumption)) (fun μ4 hμ4 => ?_)
    exact fs_g_second_135 (by assumption)
theorem fs_g_second_96 {z0 : RS} {a1 : Int32} {μ : RS} (h : Fs z0 μ) : Gp z0 (g_second_96 U S N a1 μ) := by
  unfold g_second_96
  refine gp_b (fs_g_has (by assumption)) (fun q1 hq1 => ?_)
  refine gp_i ?_ ?_
  · exact fs_g_second_119 (by assumption)
  · refine gp_v (fun v4 => ?_)
    refine gp_v (fun v6 => ?_)
    refine gp_t (gq_wA (by assumption)) (fun μ7 hμ7 => ?_)
    exact fs_g_second_119 (by assumption)
theorem fs_g_second_79 {z0 : RS} {a1 : Int32} {μ : RS} (h : Fs z0 μ) : Gp z0 (g_second_79 U S N a1 μ) := by
  unfold g_second_79
  refine gp_b (fs_g_has (by assumption)) (fun q1 hq1 => ?_)
  refine gp_i ?_ ?_
  · exact fs_g_second_96 (by assumption)
  · refine gp_t (gq_wA (by assumption)) (fun μ4 hμ4 => ?_)
    exact fs_g_second_96 (by assumption)
theorem fs_g_skip {z0 : RS} {a1 : Int32} {μ : RS} (h : Fs z0 μ) : Gp z0 (g_skip U S N a1 μ) := by
  unfold g_skip
  refine gp_v (fun v3 => ?_)
  refine gp_t (gq_wA (by assumption)) (fun μ4 hμ4 => ?_)
  exact gp_s (by assumption)
theorem fs_g_second_63 {z0 : RS} {a1 : Int32} {s0 : Int32} {μ : RS} (h : Fs z0 μ) : Gp z0 (g_second_63 U S N a1 s0 μ) := by
  unfold g_second_63
  refine gp_b (fs_g_has (by assumption)) (fun q1 hq1 => ?_)
  refine gp_i ?_ ?_
  · exact fs_g_second_79 (by assumption)
  · refine gp_b (fs_g_skip (by assumption)) (fun q3 hq3 => ?_)
    exact fs_g_second_79 (by assumption)
theorem fs_g_second_62 {z0 : RS} {a1 : Int32} {μ : RS} (h : Fs z0 μ) : Gp z0 (g_second_62 U S N a1 μ) := by
  unfold g_second_62
  exact fs_g_second_63 (by assumption)
theorem fs_g_second_58 {z0 : RS} {a1 : Int32} {μ : RS} (h : Fs z0 μ) : Gp z0 (g_second_58 U S N a1 μ) := by
  unfold g_second_58
  exact fs_g_second_63 (by assumption)
theorem fs_g_second_39 {z0 : RS} {a1 : Int32} {μ : RS} (h : Fs z0 μ) : Gp z0 (g_second_39 U S N a1 μ) := by
  unfold g_second_39
  refine gp_b (fs_g_has (by assumption)) (fun q1 hq1 => ?_)
  refine gp_i ?_ ?_
  · exact fs_g_second_62 (by assumption)
  · refine gp_v (fun v4 => ?_)
    refine gp_i ?_ ?_
    · exact fs_g_second_62 (by assumption)
    · exact fs_g_second_58 (by assumption)
theorem fs_g_second_21 {z0 : RS} {a1 : Int32} {μ : RS} (h : Fs z0 μ) : Gp z0 (g_second_21 U S N a1 μ) := by
  unfold g_second_21
  refine gp_b (fs_g_has (by assumption)) (fun q1 hq1 => ?_)
  refine gp_i ?_ ?_
  · exact fs_g_second_39 (by assumption)
  · refine gp_v (fun v4 => ?_)
    refine gp_i ?_ ?_
    · exact fs_g_second_58 (by assumption)
    · exact fs_g_second_39 (by assumption)
theorem fs_g_second {z0 : RS} {a1 : Int32} {μ : RS} (h : Fs z0 μ) : Gp z0 (g_second U S N a1 μ) := by
  unfold g_second
  refine gp_b (fs_g_has (by assumption)) (fun q1 hq1 => ?_)
  refine gp_i ?_ ?_
  · exact fs_g_second_21 (by assumption)
  · refine gp_v (fun v4 => ?_)
    refine gp_i ?_ ?_
    · exact fs_g_second_58 (by assumption)
    · exact fs_g_second_21 (by assumption)
theorem fs_g_first_240 {z0 : RS} {a1 : Int32} {a2 : Int32} {μ : RS} (h : Fs z0 μ) : Gp z0 (g_first_240 U S N a1 a2 μ) := by
  unfold g_first_240
  refine gp_t (gq_wA (by assumption)) (fun μ2 hμ2 => ?_)
  refine gp_t (gq_wA (by assumption)) (fun μ4 hμ4 => ?_)
  exact gp_s (by assumption)
theorem fs_g_first_193 {z0 : RS} {a1 : Int32} {a2 : Int32} {μ : RS} (h : Fs z0 μ) : Gp z0 (g_first_193 U S N a1 a2 μ) := by
  unfold g_first_193
  refine gp_b (fs_g_has (by assumption)) (fun q1 hq1 => ?_)
  refine gp_i ?_ ?_
  · exact fs_g_first_240 (by assumption)
  · refine gp_b (fs_g_has (by assumption)) (fun q3 hq3 => ?_)
    refine gp_i ?_ ?_
    · exact fs_g_first_240 (by assumption)
    · refine gp_b (fs_g_has (by assumption)) (fun q5 hq5 => ?_)
      refine gp_i ?_ ?_
      · exact fs_g_first_240 (by assumption)
      · exact fs_g_first_240 (by assumption)
theorem fs_g_first_186 {z0 : RS} {k132 : Int32 → Int32 → Int32 → Int32 → RS → Option (Unit × RS)} {a1 : Int32} {a3 : Int32} {a4 : Int32} {s0 : Int32} {μ : RS} (hk132 : ∀ {x0 : Int32} {x1 : Int32} {x2 : Int32} {x3 : Int32} {y : RS}, Fs z0 y → Gp z0 (k132 x0 x1 x2 x3 y)) (h : Fs z0 μ) : Gp z0 (g_first_186 U S N k132 a1 a3 a4 s0 μ) := by
  unfold g_first_186
  exact hk132 (by assumption)
theorem fs_h_first_132 {z0 : RS} {k132 : Int32 → Int32 → Int32 → Int32 → RS → Option (Unit × RS)} {a1 : Int32} {a2 : Int32} {a3 : Int32} {a4 : Int32} {μ : RS} (hk132 : ∀ {x0 : Int32} {x1 : Int32} {x2 : Int32} {x3 : Int32} {y : RS}, Fs z0 y → Gp z0 (k132 x0 x1 x2 x3 y)) (h : Fs z0 μ) : Gp z0 (h_first_132 U S N k132 a1 a2 a3 a4 μ) := by
  unfold h_first_132
  refine gp_i ?_ ?_
  · exact fs_g_first_193 (by assumption)
  · refine gp_b (fs_g_has (by assumption)) (fun q1 hq1 => ?_)
    refine gp_b (fs_g_has (by assumption)) (fun q3 hq3 => ?_)
    refine gp_i ?_ ?_
    · exact fs_g_first_193 (by assumption)
    · refine gp_b (fs_g_has (by assumption)) (fun q5 hq5 => ?_)
      refine gp_i ?_ ?_
      · exact fs_g_first_186 hk132 (by assumption)
      · exact fs_g_first_186 hk132 (by assumption)
theorem fs_l_first_132 (f : Nat) {z0 : RS} : ∀ {a1 : Int32} {a2 : Int32} {a3 : Int32} {a4 : Int32} {μ : RS} , Fs z0 μ → Gp z0 (l_first_132 U S N f a1 a2 a3 a4 μ) := by
  induction f with
  | zero => intro a1 a2 a3 a4 μ _; exact gp_n
  | succ f ih =>
    intro a1 a2 a3 a4 μ h
    exact fs_h_first_132 (fun {a1} {a2} {a3} {a4} {μ} hh => ih hh) h
theorem fs_g_first_128 {z0 : RS} {a1 : Int32} {a2 : Int32} {s0 : Int32} {μ : RS} (h : Fs z0 μ) : Gp z0 (g_first_128 U S N a1 a2 s0 μ) := by
  unfold g_first_128
  exact fs_l_first_132 _ (by assumption)
theorem fs_g_first_115 {z0 : RS} {a1 : Int32} {a2 : Int32} {μ : RS} (h : Fs z0 μ) : Gp z0 (g_first_115 U S N a1 a2 μ) := by
  unfold g_first_115
  refine gp_b (fs_g_has (by assumption)) (fun q1 hq1 => ?_)
  refine gp_i ?_ ?_
  · exact fs_g_first_128 (by assumption)
  · exact fs_g_first_128 (by assumption)
theorem fs_g_first_81 {z0 : RS} {a1 : Int32} {μ : RS} (h : Fs z0 μ) : Gp z0 (g_first_81 U S N a1 μ) := by
  unfold g_first_81
  refine gp_v (fun v2 => ?_)
  refine gp_v (fun v4 => ?_)
  refine gp_b (fs_g_has (by assumption)) (fun q5 hq5 => ?_)
  refine gp_i ?_ ?_
  · exact fs_g_first_115 (by assumption)
  · exact fs_g_first_115 (by assumption)
theorem fs_g_first_58 {z0 : RS} {a1 : Int32} {μ : RS} (h : Fs z0 μ) : Gp z0 (g_first_58 U S N a1 μ) := by
  unfold g_first_58
  refine gp_b (fs_g_has (by assumption)) (fun q1 hq1 => ?_)
  refine gp_i ?_ ?_
  · exact fs_g_first_81 (by assumption)
  · refine gp_v (fun v5 => ?_)
    refine gp_t (gq_wA (by assumption)) (fun μ6 hμ6 => ?_)
    exact fs_g_first_81 (by assumption)
theorem fs_g_first_33 {z0 : RS} {a1 : Int32} {μ : RS} (h : Fs z0 μ) : Gp z0 (g_first_33 U S N a1 μ) := by
  unfold g_first_33
  refine gp_b (fs_g_has (by assumption)) (fun q1 hq1 => ?_)
  refine gp_i ?_ ?_
  · exact fs_g_first_58 (by assumption)
  · refine gp_v (fun v5 => ?_)
    refine gp_t (gq_wA (by assumption)) (fun μ6 hμ6 => ?_)
    exact fs_g_first_58 (by assumption)
theorem fs_g_first_17 {z0 : RS} {a1 : Int32} {μ : RS} (h : Fs z0 μ) : Gp z0 (g_first_17 U S N a1 μ) := by
  unfold g_first_17
  refine gp_b (fs_g_has (by assumption)) (fun q1 hq1 => ?_)
  refine gp_i ?_ ?_
  · exact fs_g_first_33 (by assumption)
  · refine gp_t (gq_wA (by assumption)) (fun μ4 hμ4 => ?_)
    exact fs_g_first_33 (by assumption)
theorem fs_g_first {z0 : RS} {a1 : Int32} {μ : RS} (h : Fs z0 μ) : Gp z0 (g_first U S N a1 μ) := by
  unfold g_first
  refine gp_b (fs_g_has (by assumption)) (fun q1 hq1 => ?_)
  refine gp_i ?_ ?_
  · exact fs_g_first_17 (by assumption)
  · refine gp_t (gq_wA (by assumption)) (fun μ4 hμ4 => ?_)
    exact fs_g_first_17 (by assumption)
theorem fs_g_device_371 {z0 : RS} {μ : RS} (h : Fs z0 μ) : Gp z0 (g_device_371 U S N μ) := by
  unfold g_device_371
  exact gp_z (by assumption)
theorem fs_h_goes_12 {z0 : RS} {k12 : Int32 → Int32 → RS → Option (Unit × RS)} {a1 : Int32} {a2 : Int32} {μ : RS} (hk12 : ∀ {x0 : Int32} {x1 : Int32} {y : RS}, Fs z0 y → Gp z0 (k12 x0 x1 y)) (h : Fs z0 μ) : Gp z0 (h_goes_12 U S N k12 a1 a2 μ) := by
  unfold h_goes_12
  refine gp_v (fun v2 => ?_)
  refine gp_i ?_ ?_
  · exact gp_s (by assumption)
  · refine gp_v (fun v4 => ?_)
    refine gp_v (fun v6 => ?_)
    refine gp_v (fun v7 => ?_)
    refine gp_t (gq_wG (by assumption)) (fun μ8 hμ8 => ?_)
    exact hk12 (by assumption)
theorem fs_l_goes_12 (f : Nat) {z0 : RS} : ∀ {a1 : Int32} {a2 : Int32} {μ : RS} , Fs z0 μ → Gp z0 (l_goes_12 U S N f a1 a2 μ) := by
  induction f with
  | zero => intro a1 a2 μ _; exact gp_n
  | succ f ih =>
    intro a1 a2 μ h
    exact fs_h_goes_12 (fun {a1} {a2} {μ} hh => ih hh) h
theorem fs_g_goes {z0 : RS} {a1 : Int32} {μ : RS} (h : Fs z0 μ) : Gp z0 (g_goes U S N a1 μ) := by
  unfold g_goes
  refine gp_v (fun v2 => ?_)
  refine gp_t (gq_wA (by assumption)) (fun μ3 hμ3 => ?_)
  exact fs_l_goes_12 _ (by assumption)
theorem fs_g_device_203 {z0 : RS} {a1 : Int32} {μ : RS} (h : Fs z0 μ) : Gp z0 (g_device_203 U S N a1 μ) := by
  unfold g_device_203
  refine gp_v (fun v2 => ?_)
  refine gp_v (fun v4 => ?_)
  refine gp_v (fun v6 => ?_)
  refine gp_t (gq_wG (by assumption)) (fun μ7 hμ7 => ?_)
  refine gp_v (fun v9 => ?_)
  refine gp_t (gq_wA (by assumption)) (fun μ10 hμ10 => ?_)
  exact fs_g_device_371 (by assumption)
theorem fs_g_device_274 {z0 : RS} {a1 : Int32} {μ : RS} (h : Fs z0 μ) : Gp z0 (g_device_274 U S N a1 μ) := by
  unfold g_device_274
  refine gp_t (gq_wA (by assumption)) (fun μ2 hμ2 => ?_)
  exact fs_g_device_371 (by assumption)
theorem fs_g_device_321 {z0 : RS} {a1 : Int32} {s1 : Int32} {s2 : Int32} {μ : RS} (h : Fs z0 μ) : Gp z0 (g_device_321 U S N a1 s1 s2 μ) := by
  unfold g_device_321
  refine gp_t (gq_wZ (by assumption)) (fun μ1 hμ1 => ?_)
  refine gp_v (fun v4 => ?_)
  refine gp_t (gq_wA (by assumption)) (fun μ5 hμ5 => ?_)
  refine gp_v (fun v8 => ?_)
  refine gp_t (gq_wA (by assumption)) (fun μ9 hμ9 => ?_)
  refine gp_t (gq_wA (by assumption)) (fun μ12 hμ12 => ?_)
  refine gp_t (gq_s (Fs_I (by assumption) (by decide))) (fun μ14 hμ14 => ?_)
  exact gp_z (by assumption)
theorem fs_g_device_294 {z0 : RS} {a1 : Int32} {μ : RS} (h : Fs z0 μ) : Gp z0 (g_device_294 U S N a1 μ) := by
  unfold g_device_294
  refine gp_t (gq_wA (by assumption)) (fun μ2 hμ2 => ?_)
  refine gp_i ?_ ?_
  · exact fs_g_device_321 (by assumption)
  · exact fs_g_device_321 (by assumption)
theorem fs_g_device {z0 : RS} {a1 : Int32} {μ : RS} (h : Fs z0 μ) : Gp z0 (g_device U S N a1 μ) := by
  unfold g_device
  refine gp_i ?_ ?_
  · refine gp_v (fun v3 => ?_)
    refine gp_i ?_ ?_
    · exact fs_g_device_371 (by assumption)
    · refine gp_b (fs_g_skip (by assumption)) (fun q4 hq4 => ?_)
      exact fs_g_device_371 (by assumption)
  · refine gp_i ?_ ?_
    · refine gp_t (gq_wA (by assumption)) (fun μ7 hμ7 => ?_)
      refine gp_v (fun v9 => ?_)
      refine gp_i ?_ ?_
      · exact fs_g_device_371 (by assumption)
      · refine gp_b (fs_g_goes (by assumption)) (fun q10 hq10 => ?_)
        exact fs_g_device_371 (by assumption)
    · refine gp_i ?_ ?_
      · refine gp_v (fun v13 => ?_)
        refine gp_v (fun v15 => ?_)
        refine gp_v (fun v16 => ?_)
        refine gp_t (gq_wA (by assumption)) (fun μ17 hμ17 => ?_)
        exact fs_g_device_371 (by assumption)
      · refine gp_i ?_ ?_
        · refine gp_v (fun v20 => ?_)
          refine gp_v (fun v21 => ?_)
          refine gp_t (gq_wA (by assumption)) (fun μ22 hμ22 => ?_)
          refine gp_b (fs_g_goes (by assumption)) (fun q23 hq23 => ?_)
          exact fs_g_device_371 (by assumption)
        · refine gp_i ?_ ?_
          · refine gp_b (fs_g_skip (by assumption)) (fun q25 hq25 => ?_)
            exact fs_g_device_371 (by assumption)
          · refine gp_i ?_ ?_
            · exact fs_g_device_203 (by assumption)
            · refine gp_i ?_ ?_
              · exact fs_g_device_203 (by assumption)
              · refine gp_i ?_ ?_
                · refine gp_t (gq_wA (by assumption)) (fun μ28 hμ28 => ?_)
                  exact fs_g_device_371 (by assumption)
                · refine gp_i ?_ ?_
                  · refine gp_v (fun v30 => ?_)
                    refine gp_i ?_ ?_
                    · exact fs_g_device_274 (by assumption)
                    · refine gp_t (gq_wA (by assumption)) (fun μ32 hμ32 => ?_)
                      refine gp_v (fun v36 => ?_)
                      refine gp_t (gq_wA (by assumption)) (fun μ37 hμ37 => ?_)
                      exact fs_g_device_274 (by assumption)
                  · refine gp_i ?_ ?_
                    · exact fs_g_device_294 (by assumption)
                    · refine gp_i ?_ ?_
                      · exact fs_g_device_294 (by assumption)
                      · exact fs_g_device_371 (by assumption)
theorem fs_g_memory__279 {z0 : RS} {μ : RS} (h : Fs z0 μ) : Gp z0 (g_memory__279 U S N μ) := by
  unfold g_memory__279
  exact gp_s (by assumption)
theorem fs_g_memory__169 {z0 : RS} {a1 : Int32} {a5 : Int32} {μ : RS} (h : Fs z0 μ) : Gp z0 (g_memory__169 U S N a1 a5 μ) := by
  unfold g_memory__169
  refine gp_t (gq_wA (by assumption)) (fun μ2 hμ2 => ?_)
  exact fs_g_memory__279 (by assumption)
theorem fs_g_memory__78 {z0 : RS} {a1 : Int32} {a2 : Int32} {a4 : Int32} {μ : RS} (h : Fs z0 μ) : Gp z0 (g_memory__78 U S N a1 a2 a4 μ) := by
  unfold g_memory__78
  refine gp_i ?_ ?_
  · refine gp_v (fun v2 => ?_)
    refine gp_b (fs_g_load (by assumption)) (fun q3 hq3 => ?_)
    refine gp_t (gq_wA (by assumption)) (fun μ5 hμ5 => ?_)
    exact fs_g_memory__279 (by assumption)
  · refine gp_i ?_ ?_
    · refine gp_v (fun v7 => ?_)
      refine gp_b (fs_g_load (by assumption)) (fun q8 hq8 => ?_)
      refine gp_i ?_ ?_
      · exact fs_g_memory__169 (by assumption)
      · refine gp_v (fun v12 => ?_)
        refine gp_t (gq_wA (by assumption)) (fun μ13 hμ13 => ?_)
        exact fs_g_memory__169 (by assumption)
    · refine gp_i ?_ ?_
      · refine gp_b (fs_g_load (by assumption)) (fun q14 hq14 => ?_)
        refine gp_b (fs_g_store (by assumption)) (fun q16 hq16 => ?_)
        refine gp_b (fs_g_load (by assumption)) (fun q18 hq18 => ?_)
        refine gp_i ?_ ?_
        · exact fs_g_memory__279 (by assumption)
        · refine gp_b (fs_g_skip (by assumption)) (fun q20 hq20 => ?_)
          exact fs_g_memory__279 (by assumption)
      · refine gp_i ?_ ?_
        · refine gp_v (fun v23 => ?_)
          refine gp_b (fs_g_store (by assumption)) (fun q24 hq24 => ?_)
          refine gp_t (gq_wA (by assumption)) (fun μ27 hμ27 => ?_)
          exact fs_g_memory__279 (by assumption)
        · refine gp_i ?_ ?_
          · refine gp_v (fun v29 => ?_)
            refine gp_b (fs_g_store (by assumption)) (fun q30 hq30 => ?_)
            refine gp_t (gq_wA (by assumption)) (fun μ33 hμ33 => ?_)
            exact fs_g_memory__279 (by assumption)
          · refine gp_t (gq_wA (by assumption)) (fun μ35 hμ35 => ?_)
            exact fs_g_memory__279 (by assumption)
theorem fs_g_memory__69 {z0 : RS} {a1 : Int32} {a2 : Int32} {a4 : Int32} {μ : RS} (h : Fs z0 μ) : Gp z0 (g_memory__69 U S N a1 a2 a4 μ) := by
  unfold g_memory__69
  refine gp_b (fs_g_load (by assumption)) (fun q1 hq1 => ?_)
  exact fs_g_memory__78 (by assumption)
theorem fs_g_memory__27 {z0 : RS} {a1 : Int32} {a2 : Int32} {s0 : Int32} {s1 : Int32} {μ : RS} (h : Fs z0 μ) : Gp z0 (g_memory__27 U S N a1 a2 s0 s1 μ) := by
  unfold g_memory__27
  refine gp_i ?_ ?_
  · exact fs_g_memory__78 (by assumption)
  · refine gp_b (fs_g_in (by assumption)) (fun q2 hq2 => ?_)
    refine gp_i ?_ ?_
    · exact fs_g_memory__69 (by assumption)
    · refine gp_b (fs_g_load (by assumption)) (fun q3 hq3 => ?_)
      refine gp_b (fs_g_store (by assumption)) (fun q5 hq5 => ?_)
      exact fs_g_memory__69 (by assumption)
theorem fs_g_memory_ {z0 : RS} {a1 : Int32} {a2 : Int32} {a3 : Int32} {μ : RS} (h : Fs z0 μ) : Gp z0 (g_memory_ U S N a1 a2 a3 μ) := by
  unfold g_memory_
  refine gp_i ?_ ?_
  · exact fs_g_memory__27 (by assumption)
  · exact fs_g_memory__27 (by assumption)
theorem fs_g_step {z0 : RS} {a1 : Int32} {μ : RS} (h : Fs z0 μ) : Gp z0 (g_step U S N a1 μ) := by
  unfold g_step
  refine gp_v (fun v2 => ?_)
  refine gp_b (fs_g_load (by assumption)) (fun q3 hq3 => ?_)
  refine gp_t (gq_s (Fs_I (by assumption) (by decide))) (fun μ5 hμ5 => ?_)
  refine gp_b (fs_g_isWrong (by assumption)) (fun q6 hq6 => ?_)
  refine gp_i ?_ ?_
  · refine gp_b (fs_g_mustWait (by assumption)) (fun q8 hq8 => ?_)
    refine gp_i ?_ ?_
    · refine gp_t (gq_wA (by assumption)) (fun μ11 hμ11 => ?_)
      refine gp_i ?_ ?_
      · refine gp_i ?_ ?_
        · refine gp_i ?_ ?_
          · refine gp_i ?_ ?_
            · refine gp_b (fs_g_third (by assumption)) (fun q15 hq15 => ?_)
              exact fs_g_step_139 (by assumption)
            · refine gp_b (fs_g_second (by assumption)) (fun q17 hq17 => ?_)
              exact fs_g_step_139 (by assumption)
          · refine gp_b (fs_g_first (by assumption)) (fun q19 hq19 => ?_)
            exact fs_g_step_139 (by assumption)
        · refine gp_b (fs_g_device (by assumption)) (fun q21 hq21 => ?_)
          exact fs_g_step_139 (by assumption)
      · refine gp_b (fs_g_memory_ (by assumption)) (fun q23 hq23 => ?_)
        exact fs_g_step_139 (by assumption)
    · exact gp_s (by assumption)
  · refine gp_t (gq_wA (by assumption)) (fun μ26 hμ26 => ?_)
    exact gp_s (by assumption)
theorem fs_g_processes_105 {z0 : RS} {μ : RS} (h : Fs z0 μ) : Gp z0 (g_processes_105 U S N μ) := by
  unfold g_processes_105
  refine gp_b (fs_g_step (by assumption)) (fun q2 hq2 => ?_)
  refine gp_t (gq_s (Fs_I (by assumption) (by decide))) (fun μ5 hμ5 => ?_)
  refine gp_v (fun v7 => ?_)
  refine gp_i ?_ ?_
  · refine gp_i ?_ ?_
    · refine gp_v (fun v11 => ?_)
      refine gp_t (gq_wZ (by assumption)) (fun μ12 hμ12 => ?_)
      refine gp_i ?_ ?_
      · refine gp_t (gq_s (Fs_I (by assumption) (by decide))) (fun μ14 hμ14 => ?_)
        refine gp_b (fs_g_becomesReady (by assumption)) (fun q15 hq15 => ?_)
        exact gp_s (by assumption)
      · refine gp_t (gq_s (Fs_I (by assumption) (by decide))) (fun μ18 hμ18 => ?_)
        exact gp_s (by assumption)
    · exact gp_s (by assumption)
  · refine gp_v (fun v21 => ?_)
    refine gp_t (gq_wZ (by assumption)) (fun μ22 hμ22 => ?_)
    refine gp_t (gq_s (Fs_I (by assumption) (by decide))) (fun μ23 hμ23 => ?_)
    exact gp_s (by assumption)
theorem fs_g_processes_70 {z0 : RS} {μ : RS} (h : Fs z0 μ) : Gp z0 (g_processes_70 U S N μ) := by
  unfold g_processes_70
  refine gp_i ?_ ?_
  · refine gp_b (fs_g_leavesQueue (by assumption)) (fun q3 hq3 => ?_)
    refine gp_t (gq_s (Fs_I (by assumption) (by decide))) (fun μ6 hμ6 => ?_)
    exact fs_g_processes_105 (by assumption)
  · refine gp_t (gq_s (Fs_I (by assumption) (by decide))) (fun μ8 hμ8 => ?_)
    exact gp_s (by assumption)
theorem fs_g_processes_64 {z0 : RS} {k10 : Int32 → RS → Option (Unit × RS)} {a1 : Int32} {μ : RS} (hk10 : ∀ {x0 : Int32} {y : RS}, Fs z0 y → Gp z0 (k10 x0 y)) (h : Fs z0 μ) : Gp z0 (g_processes_64 U S N k10 a1 μ) := by
  unfold g_processes_64
  exact hk10 (by assumption)
theorem fs_g_processes_59 {z0 : RS} {k10 : Int32 → RS → Option (Unit × RS)} {a1 : Int32} {a2 : Int32} {μ : RS} (hk10 : ∀ {x0 : Int32} {y : RS}, Fs z0 y → Gp z0 (k10 x0 y)) (h : Fs z0 μ) : Gp z0 (g_processes_59 U S N k10 a1 a2 μ) := by
  unfold g_processes_59
  refine gp_t (gq_s (Fs_I (by assumption) (by decide))) (fun μ1 hμ1 => ?_)
  exact fs_g_processes_64 hk10 (by assumption)
theorem fs_h_processes_10 {z0 : RS} {k10 : Int32 → RS → Option (Unit × RS)} {a1 : Int32} {μ : RS} (hk10 : ∀ {x0 : Int32} {y : RS}, Fs z0 y → Gp z0 (k10 x0 y)) (h : Fs z0 μ) : Gp z0 (h_processes_10 U S N k10 a1 μ) := by
  unfold h_processes_10
  refine gp_i ?_ ?_
  · exact fs_g_processes_70 (by assumption)
  · refine gp_i ?_ ?_
    · exact fs_g_processes_70 (by assumption)
    · refine gp_v (fun v4 => ?_)
      refine gp_v (fun v6 => ?_)
      refine gp_i ?_ ?_
      · exact fs_g_processes_64 hk10 (by assumption)
      · refine gp_i ?_ ?_
        · exact fs_g_processes_59 hk10 (by assumption)
        · refine gp_i ?_ ?_
          · exact fs_g_processes_64 hk10 (by assumption)
          · exact fs_g_processes_59 hk10 (by assumption)
theorem fs_l_processes_10 (f : Nat) {z0 : RS} : ∀ {a1 : Int32} {μ : RS} , Fs z0 μ → Gp z0 (l_processes_10 U S N f a1 μ) := by
  induction f with
  | zero => intro a1 μ _; exact gp_n
  | succ f ih =>
    intro a1 μ h
    exact fs_h_processes_10 (fun {a1} {μ} hh => ih hh) h
theorem fs_g_processes {z0 : RS} {μ : RS} (h : Fs z0 μ) : Gp z0 (g_processes U S N μ) := by
  unfold g_processes
  refine gp_i ?_ ?_
  · exact fs_g_processes_105 (by assumption)
  · exact fs_l_processes_10 _ (by assumption)
theorem fs_g_tick_53 {z0 : RS} {μ : RS} (h : Fs z0 μ) : Gp z0 (g_tick_53 U S N μ) := by
  unfold g_tick_53
  refine gp_b (fs_g_processes (by assumption)) (fun q1 hq1 => ?_)
  exact gp_s (by assumption)
theorem fs_g_blocksTask_90 {z0 : RS} {s0 : Int32} {μ : RS} (h : Fs z0 μ) : Gp z0 (g_blocksTask_90 U S N s0 μ) := by
  unfold g_blocksTask_90
  exact gp_z (by assumption)
theorem fs_g_blocksTask_80 {z0 : RS} {a1 : Int32} {μ : RS} (h : Fs z0 μ) : Gp z0 (g_blocksTask_80 U S N a1 μ) := by
  unfold g_blocksTask_80
  refine gp_i ?_ ?_
  · exact fs_g_blocksTask_90 (by assumption)
  · exact fs_g_blocksTask_90 (by assumption)
theorem fs_g_starts {z0 : RS} {a1 : Int32} {a2 : Int32} {a3 : Int32} {μ : RS} (h : Fs z0 μ) : Gp z0 (g_starts U S N a1 a2 a3 μ) := by
  unfold g_starts
  refine gp_t (gq_s (Fs_I (by assumption) (by decide))) (fun μ1 hμ1 => ?_)
  refine gp_t (gq_s (Fs_I (by assumption) (by decide))) (fun μ2 hμ2 => ?_)
  refine gp_t (gq_s (Fs_I (by assumption) (by decide))) (fun μ3 hμ3 => ?_)
  refine gp_t (gq_s (Fs_I (by assumption) (by decide))) (fun μ4 hμ4 => ?_)
  exact gp_s (by assumption)
theorem fs_g_blocksTask_70 {z0 : RS} {a1 : Int32} {s1 : Int32} {μ : RS} (h : Fs z0 μ) : Gp z0 (g_blocksTask_70 U S N a1 s1 μ) := by
  unfold g_blocksTask_70
  refine gp_v (fun v2 => ?_)
  refine gp_b (fs_g_starts (by assumption)) (fun q3 hq3 => ?_)
  exact fs_g_blocksTask_80 (by assumption)
theorem fs_g_blocksTask_44 {z0 : RS} {k4 : Int32 → Int32 → RS → Option (Int32 × RS)} {a1 : Int32} {a2 : Int32} {μ : RS} (hk4 : ∀ {x0 : Int32} {x1 : Int32} {y : RS}, Fs z0 y → Gp z0 (k4 x0 x1 y)) (h : Fs z0 μ) : Gp z0 (g_blocksTask_44 U S N k4 a1 a2 μ) := by
  unfold g_blocksTask_44
  exact hk4 (by assumption)
theorem fs_g_blocksTask_42 {z0 : RS} {k4 : Int32 → Int32 → RS → Option (Int32 × RS)} {a2 : Int32} {μ : RS} (hk4 : ∀ {x0 : Int32} {x1 : Int32} {y : RS}, Fs z0 y → Gp z0 (k4 x0 x1 y)) (h : Fs z0 μ) : Gp z0 (g_blocksTask_42 U S N k4 a2 μ) := by
  unfold g_blocksTask_42
  exact fs_g_blocksTask_44 hk4 (by assumption)
theorem fs_h_blocksTask_4 {z0 : RS} {k4 : Int32 → Int32 → RS → Option (Int32 × RS)} {a1 : Int32} {a2 : Int32} {μ : RS} (hk4 : ∀ {x0 : Int32} {x1 : Int32} {y : RS}, Fs z0 y → Gp z0 (k4 x0 x1 y)) (h : Fs z0 μ) : Gp z0 (h_blocksTask_4 U S N k4 a1 a2 μ) := by
  unfold h_blocksTask_4
  refine gp_i ?_ ?_
  · refine gp_i ?_ ?_
    · exact fs_g_blocksTask_80 (by assumption)
    · refine gp_v (fun v3 => ?_)
      refine gp_i ?_ ?_
      · exact fs_g_blocksTask_70 (by assumption)
      · exact fs_g_blocksTask_70 (by assumption)
  · refine gp_v (fun v5 => ?_)
    refine gp_i ?_ ?_
    · exact fs_g_blocksTask_44 hk4 (by assumption)
    · refine gp_i ?_ ?_
      · exact fs_g_blocksTask_42 hk4 (by assumption)
      · refine gp_v (fun v7 => ?_)
        refine gp_v (fun v9 => ?_)
        refine gp_i ?_ ?_
        · exact fs_g_blocksTask_44 hk4 (by assumption)
        · exact fs_g_blocksTask_42 hk4 (by assumption)
theorem fs_l_blocksTask_4 (f : Nat) {z0 : RS} : ∀ {a1 : Int32} {a2 : Int32} {μ : RS} , Fs z0 μ → Gp z0 (l_blocksTask_4 U S N f a1 a2 μ) := by
  induction f with
  | zero => intro a1 a2 μ _; exact gp_n
  | succ f ih =>
    intro a1 a2 μ h
    exact fs_h_blocksTask_4 (fun {a1} {a2} {μ} hh => ih hh) h
theorem fs_g_blocksTask {z0 : RS} {μ : RS} (h : Fs z0 μ) : Gp z0 (g_blocksTask U S N μ) := by
  unfold g_blocksTask
  exact fs_l_blocksTask_4 _ (by assumption)
theorem fs_g_looksFor_34 {z0 : RS} {μ : RS} (h : Fs z0 μ) : Gp z0 (g_looksFor_34 U S N μ) := by
  unfold g_looksFor_34
  exact gp_s (by assumption)
theorem fs_g_queuesTask_144 {z0 : RS} {a1 : Int32} {a2 : Int32} {μ : RS} (h : Fs z0 μ) : Gp z0 (g_queuesTask_144 U S N a1 a2 μ) := by
  unfold g_queuesTask_144
  refine gp_b (fs_g_starts (by assumption)) (fun q1 hq1 => ?_)
  exact gp_z (by assumption)
theorem fs_g_queuesTask_129 {z0 : RS} {a1 : Int32} {a2 : Int32} {μ : RS} (h : Fs z0 μ) : Gp z0 (g_queuesTask_129 U S N a1 a2 μ) := by
  unfold g_queuesTask_129
  refine gp_v (fun v2 => ?_)
  refine gp_i ?_ ?_
  · exact fs_g_queuesTask_144 (by assumption)
  · refine gp_b (fs_g_nobodys (by assumption)) (fun q3 hq3 => ?_)
    exact fs_g_queuesTask_144 (by assumption)
theorem fs_g_queuesTask_89 {z0 : RS} {a1 : Int32} {a2 : Int32} {μ : RS} (h : Fs z0 μ) : Gp z0 (g_queuesTask_89 U S N a1 a2 μ) := by
  unfold g_queuesTask_89
  refine gp_i ?_ ?_
  · refine gp_v (fun v2 => ?_)
    refine gp_i ?_ ?_
    · exact fs_g_queuesTask_129 (by assumption)
    · refine gp_v (fun v4 => ?_)
      refine gp_i ?_ ?_
      · exact fs_g_queuesTask_129 (by assumption)
      · refine gp_v (fun v6 => ?_)
        refine gp_b (fs_g_starts (by assumption)) (fun q7 hq7 => ?_)
        exact gp_z (by assumption)
  · exact gp_z (by assumption)
end
