/-! LAYER 3, what the reference's other methods leave alone, further -/
section
variable {U S N : Nat}
theorem fs_g_given_97 {z0 : RS} {k50 : Int32 → RS → Option (Int32 × RS)} {a1 : Int32} {μ : RS} (hk50 : ∀ {x0 : Int32} {y : RS}, Fs z0 y → Gp z0 (k50 x0 y)) (h : Fs z0 μ) : Gp z0 (g_given_97 U S N k50 a1 μ) := by
  unfold g_given_97
  exact hk50 (by assumption)
theorem fs_h_given_50 {z0 : RS} {k50 : Int32 → RS → Option (Int32 × RS)} {a1 : Int32} {μ : RS} (hk50 : ∀ {x0 : Int32} {y : RS}, Fs z0 y → Gp z0 (k50 x0 y)) (h : Fs z0 μ) : Gp z0 (h_given_50 U S N k50 a1 μ) := by
  unfold h_given_50
  refine gp_i ?_ ?_
  · exact gp_s (by assumption)
  · refine gp_v (fun v4 => ?_)
    refine gp_v (fun v5 => ?_)
    refine gp_i ?_ ?_
    · exact fs_g_given_97 hk50 (by assumption)
    · refine gp_v (fun v7 => ?_)
      refine gp_i ?_ ?_
      · exact fs_g_given_97 hk50 (by assumption)
      · refine gp_v (fun v9 => ?_)
        refine gp_i ?_ ?_
        · exact fs_g_given_97 hk50 (by assumption)
        · exact gp_s (by assumption)
theorem fs_l_given_50 (f : Nat) {z0 : RS} : ∀ {a1 : Int32} {μ : RS} , Fs z0 μ → Gp z0 (l_given_50 U S N f a1 μ) := by
  induction f with
  | zero => intro a1 μ _; exact gp_n
  | succ f ih =>
    intro a1 μ h
    exact fs_h_given_50 (fun {a1} {μ} hh => ih hh) h
theorem fs_g_given_42 {z0 : RS} {k2 : Int32 → RS → Option (Int32 × RS)} {a1 : Int32} {μ : RS} (hk2 : ∀ {x0 : Int32} {y : RS}, Fs z0 y → Gp z0 (k2 x0 y)) (h : Fs z0 μ) : Gp z0 (g_given_42 U S N k2 a1 μ) := by
  unfold g_given_42
  exact hk2 (by assumption)
theorem fs_h_given_2 {z0 : RS} {k2 : Int32 → RS → Option (Int32 × RS)} {a1 : Int32} {μ : RS} (hk2 : ∀ {x0 : Int32} {y : RS}, Fs z0 y → Gp z0 (k2 x0 y)) (h : Fs z0 μ) : Gp z0 (h_given_2 U S N k2 a1 μ) := by
  unfold h_given_2
  refine gp_i ?_ ?_
  · exact fs_l_given_50 _ (by assumption)
  · refine gp_v (fun v4 => ?_)
    refine gp_v (fun v5 => ?_)
    refine gp_i ?_ ?_
    · exact fs_g_given_42 hk2 (by assumption)
    · refine gp_v (fun v8 => ?_)
      refine gp_v (fun v9 => ?_)
      refine gp_i ?_ ?_
      · exact fs_g_given_42 hk2 (by assumption)
      · exact gp_s (by assumption)
theorem fs_l_given_2 (f : Nat) {z0 : RS} : ∀ {a1 : Int32} {μ : RS} , Fs z0 μ → Gp z0 (l_given_2 U S N f a1 μ) := by
  induction f with
  | zero => intro a1 μ _; exact gp_n
  | succ f ih =>
    intro a1 μ h
    exact fs_h_given_2 (fun {a1} {μ} hh => ih hh) h
theorem fs_g_given {z0 : RS} {μ : RS} (h : Fs z0 μ) : Gp z0 (g_given U S N μ) := by
  unfold g_given
  exact fs_l_given_2 _ (by assumption)
theorem fs_g_queuesTask_73 {z0 : RS} {k57 : Int32 → Int32 → Int32 → RS → Option (Int32 × RS)} {a1 : Int32} {a2 : Int32} {a3 : Int32} {μ : RS} (hk57 : ∀ {x0 : Int32} {x1 : Int32} {x2 : Int32} {y : RS}, Fs z0 y → Gp z0 (k57 x0 x1 x2 y)) (h : Fs z0 μ) : Gp z0 (g_queuesTask_73 U S N k57 a1 a2 a3 μ) := by
  unfold g_queuesTask_73
  exact hk57 (by assumption)
theorem fs_h_queuesTask_57 {z0 : RS} {k57 : Int32 → Int32 → Int32 → RS → Option (Int32 × RS)} {a1 : Int32} {a2 : Int32} {a3 : Int32} {μ : RS} (hk57 : ∀ {x0 : Int32} {x1 : Int32} {x2 : Int32} {y : RS}, Fs z0 y → Gp z0 (k57 x0 x1 x2 y)) (h : Fs z0 μ) : Gp z0 (h_queuesTask_57 U S N k57 a1 a2 a3 μ) := by
  unfold h_queuesTask_57
  refine gp_i ?_ ?_
  · refine gp_i ?_ ?_
    · exact fs_g_queuesTask_89 (by assumption)
    · refine gp_b (fs_g_given (by assumption)) (fun q1 hq1 => ?_)
      exact fs_g_queuesTask_89 (by assumption)
  · refine gp_v (fun v4 => ?_)
    refine gp_i ?_ ?_
    · exact fs_g_queuesTask_73 hk57 (by assumption)
    · exact fs_g_queuesTask_73 hk57 (by assumption)
theorem fs_l_queuesTask_57 (f : Nat) {z0 : RS} : ∀ {a1 : Int32} {a2 : Int32} {a3 : Int32} {μ : RS} , Fs z0 μ → Gp z0 (l_queuesTask_57 U S N f a1 a2 a3 μ) := by
  induction f with
  | zero => intro a1 a2 a3 μ _; exact gp_n
  | succ f ih =>
    intro a1 a2 a3 μ h
    exact fs_h_queuesTask_57 (fun {a1} {a2} {a3} {μ} hh => ih hh) h
theorem fs_g_queuesTask_35 {z0 : RS} {k9 : Int32 → Int32 → RS → Option (Int32 × RS)} {a1 : Int32} {a2 : Int32} {μ : RS} (hk9 : ∀ {x0 : Int32} {x1 : Int32} {y : RS}, Fs z0 y → Gp z0 (k9 x0 x1 y)) (h : Fs z0 μ) : Gp z0 (g_queuesTask_35 U S N k9 a1 a2 μ) := by
  unfold g_queuesTask_35
  exact hk9 (by assumption)
theorem fs_h_queuesTask_9 {z0 : RS} {k9 : Int32 → Int32 → RS → Option (Int32 × RS)} {a1 : Int32} {a2 : Int32} {μ : RS} (hk9 : ∀ {x0 : Int32} {x1 : Int32} {y : RS}, Fs z0 y → Gp z0 (k9 x0 x1 y)) (h : Fs z0 μ) : Gp z0 (h_queuesTask_9 U S N k9 a1 a2 μ) := by
  unfold h_queuesTask_9
  refine gp_i ?_ ?_
  · refine gp_i ?_ ?_
    · exact fs_l_queuesTask_57 _ (by assumption)
    · exact gp_z (by assumption)
  · refine gp_v (fun v4 => ?_)
    refine gp_v (fun v5 => ?_)
    refine gp_i ?_ ?_
    · exact fs_g_queuesTask_35 hk9 (by assumption)
    · refine gp_v (fun v7 => ?_)
      exact fs_g_queuesTask_35 hk9 (by assumption)
theorem fs_l_queuesTask_9 (f : Nat) {z0 : RS} : ∀ {a1 : Int32} {a2 : Int32} {μ : RS} , Fs z0 μ → Gp z0 (l_queuesTask_9 U S N f a1 a2 μ) := by
  induction f with
  | zero => intro a1 a2 μ _; exact gp_n
  | succ f ih =>
    intro a1 a2 μ h
    exact fs_h_queuesTask_9 (fun {a1} {a2} {μ} hh => ih hh) h
theorem fs_g_queuesTask {z0 : RS} {μ : RS} (h : Fs z0 μ) : Gp z0 (g_queuesTask U S N μ) := by
  unfold g_queuesTask
  exact fs_l_queuesTask_9 _ (by assumption)
theorem fs_g_looksFor {z0 : RS} {μ : RS} (h : Fs z0 μ) : Gp z0 (g_looksFor U S N μ) := by
  unfold g_looksFor
  refine gp_i ?_ ?_
  · refine gp_b (fs_g_blocksTask (by assumption)) (fun q2 hq2 => ?_)
    refine gp_i ?_ ?_
    · exact fs_g_looksFor_34 (by assumption)
    · refine gp_b (fs_g_queuesTask (by assumption)) (fun q4 hq4 => ?_)
      exact fs_g_looksFor_34 (by assumption)
  · refine gp_b (fs_g_queuesTask (by assumption)) (fun q6 hq6 => ?_)
    refine gp_i ?_ ?_
    · exact fs_g_looksFor_34 (by assumption)
    · refine gp_b (fs_g_blocksTask (by assumption)) (fun q8 hq8 => ?_)
      exact fs_g_looksFor_34 (by assumption)
theorem fs_g_tick_42 {z0 : RS} {μ : RS} (h : Fs z0 μ) : Gp z0 (g_tick_42 U S N μ) := by
  unfold g_tick_42
  refine gp_i ?_ ?_
  · exact fs_g_tick_53 (by assumption)
  · refine gp_b (fs_g_looksFor (by assumption)) (fun q2 hq2 => ?_)
    exact fs_g_tick_53 (by assumption)
theorem fs_g_moves_204 {z0 : RS} {μ : RS} (h : Fs z0 μ) : Gp z0 (g_moves_204 U S N μ) := by
  unfold g_moves_204
  exact gp_s (by assumption)
theorem fs_g_ends_158 {z0 : RS} {s1 : Int32} {μ : RS} (h : Fs z0 μ) : Gp z0 (g_ends_158 U S N s1 μ) := by
  unfold g_ends_158
  refine gp_t (gq_pZ (by assumption) (by decide)) (fun μ1 hμ1 => ?_)
  refine gp_t (gq_s (Fs_I (by assumption) (by decide))) (fun μ2 hμ2 => ?_)
  exact gp_s (by assumption)
theorem fs_g_ends_144 {z0 : RS} {μ : RS} (h : Fs z0 μ) : Gp z0 (g_ends_144 U S N μ) := by
  unfold g_ends_144
  refine gp_i ?_ ?_
  · exact fs_g_ends_158 (by assumption)
  · exact fs_g_ends_158 (by assumption)
theorem fs_g_ends {z0 : RS} {a1 : Int32} {μ : RS} (h : Fs z0 μ) : Gp z0 (g_ends U S N a1 μ) := by
  unfold g_ends
  refine gp_i ?_ ?_
  · refine gp_i ?_ ?_
    · refine gp_t (gq_wA (by assumption)) (fun μ4 hμ4 => ?_)
      refine gp_v (fun v6 => ?_)
      refine gp_t (gq_wA (by assumption)) (fun μ7 hμ7 => ?_)
      refine gp_t (gq_s (Fs_I (by assumption) (by decide))) (fun μ9 hμ9 => ?_)
      refine gp_t (gq_s (Fs_I (by assumption) (by decide))) (fun μ11 hμ11 => ?_)
      refine gp_v (fun v14 => ?_)
      refine gp_t (gq_wZ (by assumption)) (fun μ15 hμ15 => ?_)
      refine gp_b (fs_g_becomesReady (by assumption)) (fun q16 hq16 => ?_)
      exact fs_g_ends_144 (by assumption)
    · refine gp_t (gq_wA (by assumption)) (fun μ20 hμ20 => ?_)
      refine gp_t (gq_wA (by assumption)) (fun μ23 hμ23 => ?_)
      refine gp_t (gq_wZ (by assumption)) (fun μ26 hμ26 => ?_)
      refine gp_t (gq_wZ (by assumption)) (fun μ29 hμ29 => ?_)
      refine gp_t (gq_s (Fs_I (by assumption) (by decide))) (fun μ31 hμ31 => ?_)
      exact fs_g_ends_144 (by assumption)
  · refine gp_b (fs_g_nobodys (by assumption)) (fun q33 hq33 => ?_)
    refine gp_t (gq_s (Fs_I (by assumption) (by decide))) (fun μ36 hμ36 => ?_)
    exact fs_g_ends_144 (by assumption)
theorem fs_g_moves_196 {z0 : RS} {a1 : Int32} {s0 : Int32} {s1 : Int32} {μ : RS} (h : Fs z0 μ) : Gp z0 (g_moves_196 U S N a1 s0 s1 μ) := by
  unfold g_moves_196
  refine gp_i ?_ ?_
  · exact fs_g_moves_204 (by assumption)
  · refine gp_b (fs_g_ends (by assumption)) (fun q1 hq1 => ?_)
    exact fs_g_moves_204 (by assumption)
theorem fs_g_moves_159 {z0 : RS} {k7 : Int32 → Int32 → RS → Option (Unit × RS)} {a1 : Int32} {a2 : Int32} {μ : RS} (hk7 : ∀ {x0 : Int32} {x1 : Int32} {y : RS}, Fs z0 y → Gp z0 (k7 x0 x1 y)) (h : Fs z0 μ) : Gp z0 (g_moves_159 U S N k7 a1 a2 μ) := by
  unfold g_moves_159
  refine gp_t (gq_s (Fs_I (by assumption) (by decide))) (fun μ2 hμ2 => ?_)
  exact hk7 (by assumption)
theorem fs_h_moves_7 {z0 : RS} {k7 : Int32 → Int32 → RS → Option (Unit × RS)} {a1 : Int32} {a2 : Int32} {μ : RS} (hk7 : ∀ {x0 : Int32} {x1 : Int32} {y : RS}, Fs z0 y → Gp z0 (k7 x0 x1 y)) (h : Fs z0 μ) : Gp z0 (h_moves_7 U S N k7 a1 a2 μ) := by
  unfold h_moves_7
  refine gp_i ?_ ?_
  · refine gp_i ?_ ?_
    · exact fs_g_moves_196 (by assumption)
    · exact fs_g_moves_196 (by assumption)
  · refine gp_v (fun v4 => ?_)
    refine gp_v (fun v7 => ?_)
    refine gp_i ?_ ?_
    · refine gp_i ?_ ?_
      · refine gp_i ?_ ?_
        · refine gp_v (fun v13 => ?_)
          refine gp_b (fs_g_load (by assumption)) (fun q14 hq14 => ?_)
          refine gp_t (gq_wG (by assumption)) (fun μ16 hμ16 => ?_)
          exact fs_g_moves_159 hk7 (by assumption)
        · refine gp_v (fun v18 => ?_)
          refine gp_v (fun v19 => ?_)
          refine gp_b (fs_g_store (by assumption)) (fun q20 hq20 => ?_)
          exact fs_g_moves_159 hk7 (by assumption)
      · refine gp_v (fun v24 => ?_)
        refine gp_v (fun v27 => ?_)
        refine gp_v (fun v29 => ?_)
        refine gp_t (gq_wG (by assumption)) (fun μ30 hμ30 => ?_)
        exact fs_g_moves_159 hk7 (by assumption)
    · refine gp_v (fun v32 => ?_)
      refine gp_v (fun v36 => ?_)
      refine gp_v (fun v38 => ?_)
      refine gp_t (gq_wG (by assumption)) (fun μ39 hμ39 => ?_)
      exact fs_g_moves_159 hk7 (by assumption)
theorem fs_l_moves_7 (f : Nat) {z0 : RS} : ∀ {a1 : Int32} {a2 : Int32} {μ : RS} , Fs z0 μ → Gp z0 (l_moves_7 U S N f a1 a2 μ) := by
  induction f with
  | zero => intro a1 a2 μ _; exact gp_n
  | succ f ih =>
    intro a1 a2 μ h
    exact fs_h_moves_7 (fun {a1} {a2} {μ} hh => ih hh) h
theorem fs_g_moves {z0 : RS} {μ : RS} (h : Fs z0 μ) : Gp z0 (g_moves U S N μ) := by
  unfold g_moves
  exact fs_l_moves_7 _ (by assumption)
theorem fs_g_clocks_50 {z0 : RS} {μ : RS} (h : Fs z0 μ) : Gp z0 (g_clocks_50 U S N μ) := by
  unfold g_clocks_50
  exact gp_s (by assumption)
theorem fs_g_clocks_170 {z0 : RS} {μ : RS} (h : Fs z0 μ) : Gp z0 (g_clocks_170 U S N μ) := by
  unfold g_clocks_170
  exact gp_s (by assumption)
theorem fs_h_clocks_106 {z0 : RS} {k106 : Int32 → Int32 → RS → Option (Unit × RS)} {a1 : Int32} {a2 : Int32} {μ : RS} (hk106 : ∀ {x0 : Int32} {x1 : Int32} {y : RS}, Fs z0 y → Gp z0 (k106 x0 x1 y)) (h : Fs z0 μ) : Gp z0 (h_clocks_106 U S N k106 a1 a2 μ) := by
  unfold h_clocks_106
  refine gp_v (fun v2 => ?_)
  refine gp_i ?_ ?_
  · refine gp_t (gq_wA (by assumption)) (fun μ6 hμ6 => ?_)
    refine gp_v (fun v8 => ?_)
    refine gp_i ?_ ?_
    · exact fs_g_clocks_170 (by assumption)
    · refine gp_b (fs_g_becomesReady (by assumption)) (fun q9 hq9 => ?_)
      exact fs_g_clocks_170 (by assumption)
  · refine gp_v (fun v12 => ?_)
    refine gp_v (fun v14 => ?_)
    refine gp_v (fun v15 => ?_)
    refine gp_t (gq_wG (by assumption)) (fun μ16 hμ16 => ?_)
    exact hk106 (by assumption)
theorem fs_l_clocks_106 (f : Nat) {z0 : RS} : ∀ {a1 : Int32} {a2 : Int32} {μ : RS} , Fs z0 μ → Gp z0 (l_clocks_106 U S N f a1 a2 μ) := by
  induction f with
  | zero => intro a1 a2 μ _; exact gp_n
  | succ f ih =>
    intro a1 a2 μ h
    exact fs_h_clocks_106 (fun {a1} {a2} {μ} hh => ih hh) h
theorem fs_g_clocks_84 {z0 : RS} {a1 : Int32} {μ : RS} (h : Fs z0 μ) : Gp z0 (g_clocks_84 U S N a1 μ) := by
  unfold g_clocks_84
  refine gp_v (fun v2 => ?_)
  refine gp_t (gq_wA (by assumption)) (fun μ3 hμ3 => ?_)
  refine gp_v (fun v5 => ?_)
  refine gp_t (gq_wA (by assumption)) (fun μ6 hμ6 => ?_)
  exact fs_l_clocks_106 _ (by assumption)
theorem fs_g_clocks_28 {z0 : RS} {a1 : Int32} {μ : RS} (h : Fs z0 μ) : Gp z0 (g_clocks_28 U S N a1 μ) := by
  unfold g_clocks_28
  refine gp_v (fun v2 => ?_)
  refine gp_i ?_ ?_
  · exact fs_g_clocks_50 (by assumption)
  · refine gp_v (fun v5 => ?_)
    refine gp_i ?_ ?_
    · refine gp_v (fun v7 => ?_)
      refine gp_i ?_ ?_
      · exact fs_g_clocks_84 (by assumption)
      · refine gp_v (fun v9 => ?_)
        refine gp_v (fun v11 => ?_)
        refine gp_v (fun v13 => ?_)
        refine gp_v (fun v14 => ?_)
        refine gp_t (gq_wG (by assumption)) (fun μ15 hμ15 => ?_)
        exact fs_g_clocks_84 (by assumption)
    · exact fs_g_clocks_50 (by assumption)
theorem fs_g_clocks {z0 : RS} {a1 : Int32} {μ : RS} (h : Fs z0 μ) : Gp z0 (g_clocks U S N a1 μ) := by
  unfold g_clocks
  refine gp_v (fun v2 => ?_)
  refine gp_i ?_ ?_
  · exact fs_g_clocks_28 (by assumption)
  · refine gp_v (fun v5 => ?_)
    refine gp_i ?_ ?_
    · exact fs_g_clocks_28 (by assumption)
    · refine gp_b (fs_g_becomesReady (by assumption)) (fun q6 hq6 => ?_)
      exact fs_g_clocks_28 (by assumption)
theorem fs_h_tick_12 {z0 : RS} {k12 : Int32 → RS → Option (Unit × RS)} {a1 : Int32} {μ : RS} (hk12 : ∀ {x0 : Int32} {y : RS}, Fs z0 y → Gp z0 (k12 x0 y)) (h : Fs z0 μ) : Gp z0 (h_tick_12 U S N k12 a1 μ) := by
  unfold h_tick_12
  refine gp_i ?_ ?_
  · refine gp_i ?_ ?_
    · exact fs_g_tick_42 (by assumption)
    · refine gp_b (fs_g_moves (by assumption)) (fun q3 hq3 => ?_)
      exact fs_g_tick_42 (by assumption)
  · refine gp_b (fs_g_clocks (by assumption)) (fun q5 hq5 => ?_)
    exact hk12 (by assumption)
theorem fs_l_tick_12 (f : Nat) {z0 : RS} : ∀ {a1 : Int32} {μ : RS} , Fs z0 μ → Gp z0 (l_tick_12 U S N f a1 μ) := by
  induction f with
  | zero => intro a1 μ _; exact gp_n
  | succ f ih =>
    intro a1 μ h
    exact fs_h_tick_12 (fun {a1} {μ} hh => ih hh) h
theorem fs_g_tick {z0 : RS} {μ : RS} (h : Fs z0 μ) : Gp z0 (g_tick U S N μ) := by
  unfold g_tick
  refine gp_t (gq_s (Fs_I (by assumption) (by decide))) (fun μ2 hμ2 => ?_)
  exact fs_l_tick_12 _ (by assumption)
theorem fs_h_run_20 {z0 : RS} {k20 : Int32 → Int32 → Int32 → RS → Option (Int32 × RS)} {a1 : Int32} {a2 : Int32} {a3 : Int32} {μ : RS} (hk20 : ∀ {x0 : Int32} {x1 : Int32} {x2 : Int32} {y : RS}, Fs z0 y → Gp z0 (k20 x0 x1 x2 y)) (h : Fs z0 μ) : Gp z0 (h_run_20 U S N k20 a1 a2 a3 μ) := by
  unfold h_run_20
  refine gp_i ?_ ?_
  · exact gp_s (by assumption)
  · refine gp_b (fs_g_tick (by assumption)) (fun q2 hq2 => ?_)
    exact hk20 (by assumption)
theorem fs_l_run_20 (f : Nat) {z0 : RS} : ∀ {a1 : Int32} {a2 : Int32} {a3 : Int32} {μ : RS} , Fs z0 μ → Gp z0 (l_run_20 U S N f a1 a2 a3 μ) := by
  induction f with
  | zero => intro a1 a2 a3 μ _; exact gp_n
  | succ f ih =>
    intro a1 a2 a3 μ h
    exact fs_h_run_20 (fun {a1} {a2} {a3} {μ} hh => ih hh) h
theorem fs_g_run {z0 : RS} {a1 : Int32} {μ : RS} (h : Fs z0 μ) : Gp z0 (g_run U S N a1 μ) := by
  unfold g_run
  refine gp_b (fs_g_in (by assumption)) (fun q1 hq1 => ?_)
  refine gp_i ?_ ?_
  · exact fs_l_run_20 _ (by assumption)
  · exact gp_s (by assumption)
theorem fs_h_user_156 {z0 : RS} {k156 : Int32 → Int32 → RS → Option (Int32 × RS)} {a1 : Int32} {a3 : Int32} {μ : RS} (hk156 : ∀ {x0 : Int32} {x1 : Int32} {y : RS}, Fs z0 y → Gp z0 (k156 x0 x1 y)) (h : Fs z0 μ) : Gp z0 (h_user_156 U S N k156 a1 a3 μ) := by
  unfold h_user_156
  refine gp_i ?_ ?_
  · exact gp_s (by assumption)
  · refine gp_v (fun v3 => ?_)
    refine gp_i ?_ ?_
    · exact hk156 (by assumption)
    · exact gp_s (by assumption)
theorem fs_l_user_156 (f : Nat) {z0 : RS} : ∀ {a1 : Int32} {a3 : Int32} {μ : RS} , Fs z0 μ → Gp z0 (l_user_156 U S N f a1 a3 μ) := by
  induction f with
  | zero => intro a1 a3 μ _; exact gp_n
  | succ f ih =>
    intro a1 a3 μ h
    exact fs_h_user_156 (fun {a1} {a3} {μ} hh => ih hh) h
theorem fs_g_user_218 {z0 : RS} {s0 : Int32} {μ : RS} (h : Fs z0 μ) : Gp z0 (g_user_218 U S N s0 μ) := by
  unfold g_user_218
  exact gp_s (by assumption)
theorem fs_g_user_235 {z0 : RS} {s0 : Int32} {μ : RS} (h : Fs z0 μ) : Gp z0 (g_user_235 U S N s0 μ) := by
  unfold g_user_235
  exact gp_s (by assumption)
theorem fs_g_user {z0 : RS} {a1 : Int32} {a2 : Int32} {μ : RS} (h : Fs z0 μ) : Gp z0 (g_user U S N a1 a2 μ) := by
  unfold g_user
  refine gp_b (fs_g_isUser (by assumption)) (fun q1 hq1 => ?_)
  refine gp_i ?_ ?_
  · refine gp_i ?_ ?_
    · refine gp_v (fun v4 => ?_)
      exact gp_s (by assumption)
    · refine gp_i ?_ ?_
      · refine gp_v (fun v6 => ?_)
        exact gp_s (by assumption)
      · refine gp_i ?_ ?_
        · refine gp_v (fun v8 => ?_)
          exact gp_s (by assumption)
        · refine gp_i ?_ ?_
          · refine gp_v (fun v10 => ?_)
            exact gp_s (by assumption)
          · refine gp_i ?_ ?_
            · refine gp_v (fun v12 => ?_)
              exact gp_s (by assumption)
            · refine gp_i ?_ ?_
              · refine gp_v (fun v14 => ?_)
                exact gp_s (by assumption)
              · refine gp_i ?_ ?_
                · refine gp_v (fun v16 => ?_)
                  exact gp_s (by assumption)
                · refine gp_i ?_ ?_
                  · refine gp_v (fun v18 => ?_)
                    exact gp_s (by assumption)
                  · refine gp_i ?_ ?_
                    · refine gp_v (fun v20 => ?_)
                      exact gp_s (by assumption)
                    · refine gp_i ?_ ?_
                      · refine gp_v (fun v22 => ?_)
                        exact gp_s (by assumption)
                      · refine gp_i ?_ ?_
                        · exact fs_l_user_156 _ (by assumption)
                        · refine gp_i ?_ ?_
                          · refine gp_v (fun v24 => ?_)
                            exact gp_s (by assumption)
                          · refine gp_i ?_ ?_
                            · refine gp_v (fun v26 => ?_)
                              exact gp_s (by assumption)
                            · refine gp_i ?_ ?_
                              · refine gp_v (fun v28 => ?_)
                                refine gp_i ?_ ?_
                                · exact fs_g_user_218 (by assumption)
                                · refine gp_v (fun v30 => ?_)
                                  exact fs_g_user_218 (by assumption)
                              · refine gp_i ?_ ?_
                                · refine gp_i ?_ ?_
                                  · exact fs_g_user_235 (by assumption)
                                  · exact fs_g_user_235 (by assumption)
                                · exact gp_s (by assumption)
  · exact gp_s (by assumption)
theorem fs_g_look__98 {z0 : RS} {s0 : Int32} {μ : RS} (h : Fs z0 μ) : Gp z0 (g_look__98 U S N s0 μ) := by
  unfold g_look__98
  exact gp_s (by assumption)
theorem fs_g_look__114 {z0 : RS} {s0 : Int32} {μ : RS} (h : Fs z0 μ) : Gp z0 (g_look__114 U S N s0 μ) := by
  unfold g_look__114
  exact gp_s (by assumption)
theorem fs_g_look__130 {z0 : RS} {s0 : Int32} {μ : RS} (h : Fs z0 μ) : Gp z0 (g_look__130 U S N s0 μ) := by
  unfold g_look__130
  exact gp_s (by assumption)
theorem fs_g_look_ {z0 : RS} {a1 : Int32} {μ : RS} (h : Fs z0 μ) : Gp z0 (g_look_ U S N a1 μ) := by
  unfold g_look_
  refine gp_i ?_ ?_
  · exact gp_s (by assumption)
  · refine gp_i ?_ ?_
    · exact gp_s (by assumption)
    · refine gp_i ?_ ?_
      · exact gp_s (by assumption)
      · refine gp_i ?_ ?_
        · refine gp_i ?_ ?_
          · exact fs_g_look__98 (by assumption)
          · exact fs_g_look__98 (by assumption)
        · refine gp_i ?_ ?_
          · refine gp_i ?_ ?_
            · exact fs_g_look__114 (by assumption)
            · exact fs_g_look__114 (by assumption)
          · refine gp_i ?_ ?_
            · refine gp_i ?_ ?_
              · exact fs_g_look__130 (by assumption)
              · exact fs_g_look__130 (by assumption)
            · refine gp_i ?_ ?_
              · exact gp_s (by assumption)
              · refine gp_i ?_ ?_
                · exact gp_s (by assumption)
                · refine gp_i ?_ ?_
                  · exact gp_s (by assumption)
                  · refine gp_i ?_ ?_
                    · exact gp_s (by assumption)
                    · refine gp_i ?_ ?_
                      · exact gp_s (by assumption)
                      · refine gp_i ?_ ?_
                        · exact gp_s (by assumption)
                        · refine gp_i ?_ ?_
                          · exact gp_s (by assumption)
                          · exact gp_s (by assumption)
theorem fs_g_word___15 {z0 : RS} {μ : RS} (h : Fs z0 μ) : Gp z0 (g_word___15 U S N μ) := by
  unfold g_word___15
  exact gp_s (by assumption)
theorem fs_g_word___51 {z0 : RS} {s0 : Int32} {μ : RS} (h : Fs z0 μ) : Gp z0 (g_word___51 U S N s0 μ) := by
  unfold g_word___51
  exact gp_s (by assumption)
theorem fs_g_word__ {z0 : RS} {a1 : Int32} {a2 : Int32} {μ : RS} (h : Fs z0 μ) : Gp z0 (g_word__ U S N a1 a2 μ) := by
  unfold g_word__
  refine gp_b (fs_g_isUser (by assumption)) (fun q1 hq1 => ?_)
  refine gp_i ?_ ?_
  · exact fs_g_word___15 (by assumption)
  · refine gp_b (fs_g_isWord (by assumption)) (fun q3 hq3 => ?_)
    refine gp_i ?_ ?_
    · refine gp_v (fun v5 => ?_)
      refine gp_i ?_ ?_
      · refine gp_v (fun v8 => ?_)
        refine gp_v (fun v9 => ?_)
        refine gp_v (fun v10 => ?_)
        exact fs_g_word___51 (by assumption)
      · refine gp_v (fun v12 => ?_)
        refine gp_v (fun v13 => ?_)
        exact fs_g_word___51 (by assumption)
    · exact fs_g_word___15 (by assumption)
theorem fs_g_core_33 {z0 : RS} {s0 : Int32} {μ : RS} (h : Fs z0 μ) : Gp z0 (g_core_33 U S N s0 μ) := by
  unfold g_core_33
  exact gp_s (by assumption)
theorem fs_g_core_32 {z0 : RS} {μ : RS} (h : Fs z0 μ) : Gp z0 (g_core_32 U S N μ) := by
  unfold g_core_32
  exact fs_g_core_33 (by assumption)
theorem fs_g_core {z0 : RS} {a1 : Int32} {a2 : Int32} {μ : RS} (h : Fs z0 μ) : Gp z0 (g_core U S N a1 a2 μ) := by
  unfold g_core
  refine gp_b (fs_g_in (by assumption)) (fun q2 hq2 => ?_)
  refine gp_i ?_ ?_
  · exact fs_g_core_32 (by assumption)
  · refine gp_b (fs_g_isWord (by assumption)) (fun q3 hq3 => ?_)
    refine gp_i ?_ ?_
    · exact fs_g_core_32 (by assumption)
    · refine gp_v (fun v5 => ?_)
      refine gp_v (fun v6 => ?_)
      exact fs_g_core_33 (by assumption)
theorem fs_g_drum_27 {z0 : RS} {s0 : Int32} {μ : RS} (h : Fs z0 μ) : Gp z0 (g_drum_27 U S N s0 μ) := by
  unfold g_drum_27
  exact gp_s (by assumption)
theorem fs_g_drum_26 {z0 : RS} {μ : RS} (h : Fs z0 μ) : Gp z0 (g_drum_26 U S N μ) := by
  unfold g_drum_26
  exact fs_g_drum_27 (by assumption)
theorem fs_g_drum {z0 : RS} {a1 : Int32} {a2 : Int32} {μ : RS} (h : Fs z0 μ) : Gp z0 (g_drum U S N a1 a2 μ) := by
  unfold g_drum
  refine gp_b (fs_g_isUser (by assumption)) (fun q1 hq1 => ?_)
  refine gp_i ?_ ?_
  · exact fs_g_drum_26 (by assumption)
  · refine gp_b (fs_g_isWord (by assumption)) (fun q3 hq3 => ?_)
    refine gp_i ?_ ?_
    · exact fs_g_drum_26 (by assumption)
    · refine gp_v (fun v5 => ?_)
      refine gp_v (fun v6 => ?_)
      exact fs_g_drum_27 (by assumption)
theorem fs_g_slot_65 {z0 : RS} {s0 : Int32} {μ : RS} (h : Fs z0 μ) : Gp z0 (g_slot_65 U S N s0 μ) := by
  unfold g_slot_65
  exact gp_s (by assumption)
theorem fs_g_slot_80 {z0 : RS} {s0 : Int32} {μ : RS} (h : Fs z0 μ) : Gp z0 (g_slot_80 U S N s0 μ) := by
  unfold g_slot_80
  exact gp_s (by assumption)
theorem fs_g_slot {z0 : RS} {a1 : Int32} {a2 : Int32} {μ : RS} (h : Fs z0 μ) : Gp z0 (g_slot U S N a1 a2 μ) := by
  unfold g_slot
  refine gp_b (fs_g_in (by assumption)) (fun q2 hq2 => ?_)
  refine gp_i ?_ ?_
  · refine gp_i ?_ ?_
    · refine gp_v (fun v4 => ?_)
      exact gp_s (by assumption)
    · refine gp_i ?_ ?_
      · refine gp_v (fun v6 => ?_)
        refine gp_i ?_ ?_
        · exact fs_g_slot_65 (by assumption)
        · exact fs_g_slot_65 (by assumption)
      · refine gp_i ?_ ?_
        · refine gp_v (fun v8 => ?_)
          refine gp_i ?_ ?_
          · exact fs_g_slot_80 (by assumption)
          · exact fs_g_slot_80 (by assumption)
        · exact gp_s (by assumption)
  · exact gp_s (by assumption)
theorem fs_g_block_46 {z0 : RS} {s0 : Int32} {μ : RS} (h : Fs z0 μ) : Gp z0 (g_block_46 U S N s0 μ) := by
  unfold g_block_46
  exact gp_s (by assumption)
theorem fs_g_block_45 {z0 : RS} {μ : RS} (h : Fs z0 μ) : Gp z0 (g_block_45 U S N μ) := by
  unfold g_block_45
  exact fs_g_block_46 (by assumption)
theorem fs_g_block {z0 : RS} {a1 : Int32} {a2 : Int32} {a3 : Int32} {μ : RS} (h : Fs z0 μ) : Gp z0 (g_block U S N a1 a2 a3 μ) := by
  unfold g_block
  refine gp_b (fs_g_isUser (by assumption)) (fun q1 hq1 => ?_)
  refine gp_i ?_ ?_
  · exact fs_g_block_45 (by assumption)
  · refine gp_b (fs_g_in (by assumption)) (fun q3 hq3 => ?_)
    refine gp_i ?_ ?_
    · exact fs_g_block_45 (by assumption)
    · refine gp_b (fs_g_in (by assumption)) (fun q4 hq4 => ?_)
      refine gp_i ?_ ?_
      · exact fs_g_block_45 (by assumption)
      · refine gp_v (fun v6 => ?_)
        refine gp_v (fun v7 => ?_)
        exact fs_g_block_46 (by assumption)
theorem fs_g_paper_42 {z0 : RS} {s0 : Int32} {μ : RS} (h : Fs z0 μ) : Gp z0 (g_paper_42 U S N s0 μ) := by
  unfold g_paper_42
  exact gp_s (by assumption)
theorem fs_g_paper_41 {z0 : RS} {μ : RS} (h : Fs z0 μ) : Gp z0 (g_paper_41 U S N μ) := by
  unfold g_paper_41
  exact fs_g_paper_42 (by assumption)
theorem fs_g_paper {z0 : RS} {a1 : Int32} {a2 : Int32} {μ : RS} (h : Fs z0 μ) : Gp z0 (g_paper U S N a1 a2 μ) := by
  unfold g_paper
  refine gp_b (fs_g_isUser (by assumption)) (fun q1 hq1 => ?_)
  refine gp_i ?_ ?_
  · exact fs_g_paper_41 (by assumption)
  · refine gp_v (fun v4 => ?_)
    refine gp_b (fs_g_in (by assumption)) (fun q5 hq5 => ?_)
    refine gp_i ?_ ?_
    · exact fs_g_paper_41 (by assumption)
    · refine gp_v (fun v7 => ?_)
      refine gp_v (fun v8 => ?_)
      exact fs_g_paper_42 (by assumption)
end
