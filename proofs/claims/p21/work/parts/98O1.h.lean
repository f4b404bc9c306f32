/-! LAYER 3, what the reference's other methods leave alone -/
def Fs (z0 s : RS) : Prop := s.1 29 = z0.1 29
def Gp {α : Type} (z0 : RS) (o : Option (α × RS)) : Prop := ∀ x s2, o = some (x, s2) → Fs z0 s2
def Gq (z0 : RS) (o : Option RS) : Prop := ∀ s2, o = some s2 → Fs z0 s2
theorem Fs_I {z0 s : RS} {k : Nat} {x : Int32} (h : Fs z0 s) (hk : 29 ≠ k) : Fs z0 (pI s k x) := by
  unfold Fs at *
  show up1 s.1 k x 29 = _
  rw [up1_n _ _ hk]
  exact h
theorem gq_s {z0 s : RS} (h : Fs z0 s) : Gq z0 (some s) := fun s2 e => by rw [← Option.some.inj e]; exact h
theorem gq_pZ {z0 s : RS} {k : Nat} {x : Int32} (h : Fs z0 s) (hk : 29 ≠ k) : Gq z0 (pZ s k x) := by
  intro s2 e
  unfold pZ at e
  split at e
  · rw [← Option.some.inj e]
    exact Fs_I h hk
  · cases e
theorem gq_wA {z0 s : RS} {n k : Nat} {i x : Int32} (h : Fs z0 s) : Gq z0 (wA n s k i x) := by
  intro s2 e
  unfold wA at e
  split at e
  · cases e
  · rw [← Option.some.inj e]
    exact h
theorem gq_wZ {z0 s : RS} {n k : Nat} {i x : Int32} (h : Fs z0 s) : Gq z0 (wZ n s k i x) := by
  intro s2 e
  unfold wZ at e
  split at e
  · cases e
  · split at e
    · rw [← Option.some.inj e]
      exact h
    · cases e
theorem gq_wG {z0 s : RS} {n k j : Nat} {i x : Int32} (h : Fs z0 s) : Gq z0 (wG n s k j i x) := by
  intro s2 e
  unfold wG at e
  split at e
  · cases e
  · rw [← Option.some.inj e]
    exact h
theorem gp_n {α : Type} {z0 : RS} : Gp z0 (none : Option (α × RS)) := fun _ _ e => by cases e
theorem gp_s {α : Type} {z0 s : RS} {x : α} (h : Fs z0 s) : Gp z0 (some (x, s)) := fun _ s2 e => by rw [← (Prod.mk.inj (Option.some.inj e)).2]; exact h
theorem gp_z {z0 s : RS} {x : Int32} (h : Fs z0 s) : Gp z0 (rZ x s) := by
  intro y s2 e
  unfold rZ at e
  split at e
  · rw [← (Prod.mk.inj (Option.some.inj e)).2]
    exact h
  · cases e
theorem gp_i {α : Type} {z0 : RS} {c : Prop} [Decidable c] {a b : Option (α × RS)} (h1 : Gp z0 a) (h2 : Gp z0 b) : Gp z0 (if c then a else b) := by
  split
  · exact h1
  · exact h2
theorem gp_v {α β : Type} {z0 : RS} {o : Option β} {k : β → Option (α × RS)} (h : ∀ v, Gp z0 (k v)) : Gp z0 (o.bind k) := by
  cases o with
  | none => exact gp_n
  | some v => exact h v
theorem gp_t {α : Type} {z0 : RS} {o : Option RS} {k : RS → Option (α × RS)} (h1 : Gq z0 o) (h : ∀ s, Fs z0 s → Gp z0 (k s)) : Gp z0 (o.bind k) := by
  cases o with
  | none => exact gp_n
  | some v => exact h v (h1 v rfl)
theorem gp_b {α β : Type} {z0 : RS} {o : Option (β × RS)} {k : β × RS → Option (α × RS)} (h1 : Gp z0 o) (h : ∀ q, Fs z0 q.2 → Gp z0 (k q)) : Gp z0 (o.bind k) := by
  cases o with
  | none => exact gp_n
  | some v => exact h v (h1 v.1 v.2 rfl)
section
variable {U S N : Nat}
theorem fs_h_put_3 {z0 : RS} {k3 : Int32 → Int32 → RS → Option (Unit × RS)} {a1 : Int32} {a2 : Int32} {μ : RS} (hk3 : ∀ {x0 : Int32} {x1 : Int32} {y : RS}, Fs z0 y → Gp z0 (k3 x0 x1 y)) (h : Fs z0 μ) : Gp z0 (h_put_3 U S N k3 a1 a2 μ) := by
  unfold h_put_3
  refine gp_i ?_ ?_
  · exact gp_s (by assumption)
  · refine gp_t (gq_wA (by assumption)) (fun μ3 hμ3 => ?_)
    refine gp_t (gq_s (Fs_I (by assumption) (by decide))) (fun μ5 hμ5 => ?_)
    exact hk3 (by assumption)
theorem fs_l_put_3 (f : Nat) {z0 : RS} : ∀ {a1 : Int32} {a2 : Int32} {μ : RS} , Fs z0 μ → Gp z0 (l_put_3 U S N f a1 a2 μ) := by
  induction f with
  | zero => intro a1 a2 μ _; exact gp_n
  | succ f ih =>
    intro a1 a2 μ h
    exact fs_h_put_3 (fun {a1} {a2} {μ} hh => ih hh) h
theorem fs_g_put {z0 : RS} {a1 : Int32} {μ : RS} (h : Fs z0 μ) : Gp z0 (g_put U S N a1 μ) := by
  unfold g_put
  exact fs_l_put_3 _ (by assumption)
theorem fs_g_feed {z0 : RS} {a1 : Int32} {a2 : Int32} {a3 : Int32} {a4 : Int32} {a5 : Int32} {μ : RS} (h : Fs z0 μ) : Gp z0 (g_feed U S N a1 a2 a3 a4 a5 μ) := by
  unfold g_feed
  refine gp_i ?_ ?_
  · refine gp_b (fs_g_put (by assumption)) (fun q2 hq2 => ?_)
    refine gp_b (fs_g_put (by assumption)) (fun q4 hq4 => ?_)
    refine gp_b (fs_g_put (by assumption)) (fun q6 hq6 => ?_)
    refine gp_b (fs_g_put (by assumption)) (fun q8 hq8 => ?_)
    refine gp_b (fs_g_put (by assumption)) (fun q10 hq10 => ?_)
    exact gp_s (by assumption)
  · exact gp_s (by assumption)
theorem fs_g_in_15 {z0 : RS} {s0 : Int32} {μ : RS} (h : Fs z0 μ) : Gp z0 (g_in_15 U S N s0 μ) := by
  unfold g_in_15
  exact gp_z (by assumption)
theorem fs_g_in_14 {z0 : RS} {μ : RS} (h : Fs z0 μ) : Gp z0 (g_in_14 U S N μ) := by
  unfold g_in_14
  exact fs_g_in_15 (by assumption)
theorem fs_g_in {z0 : RS} {a0 : Int32} {a1 : Int32} {a2 : Int32} {μ : RS} (h : Fs z0 μ) : Gp z0 (g_in U S N a0 a1 a2 μ) := by
  unfold g_in
  refine gp_i ?_ ?_
  · exact fs_g_in_14 (by assumption)
  · refine gp_i ?_ ?_
    · exact fs_g_in_14 (by assumption)
    · exact fs_g_in_15 (by assumption)
theorem fs_g_end {z0 : RS} {a1 : Int32} {μ : RS} (h : Fs z0 μ) : Gp z0 (g_end U S N a1 μ) := by
  unfold g_end
  refine gp_b (fs_g_in (by assumption)) (fun q2 hq2 => ?_)
  refine gp_i ?_ ?_
  · refine gp_t (gq_s (Fs_I (by assumption) (by decide))) (fun μ3 hμ3 => ?_)
    exact gp_z (by assumption)
  · exact gp_z (by assumption)
theorem fs_g_made_21 {z0 : RS} {s0 : Int32} {μ : RS} (h : Fs z0 μ) : Gp z0 (g_made_21 U S N s0 μ) := by
  unfold g_made_21
  exact gp_s (by assumption)
theorem fs_g_made {z0 : RS} {a1 : Int32} {μ : RS} (h : Fs z0 μ) : Gp z0 (g_made U S N a1 μ) := by
  unfold g_made
  refine gp_b (fs_g_in (by assumption)) (fun q1 hq1 => ?_)
  refine gp_i ?_ ?_
  · exact fs_g_made_21 (by assumption)
  · refine gp_v (fun v3 => ?_)
    exact fs_g_made_21 (by assumption)
theorem fs_g_isUser {z0 : RS} {a1 : Int32} {μ : RS} (h : Fs z0 μ) : Gp z0 (g_isUser U S N a1 μ) := by
  unfold g_isUser
  refine gp_b (fs_g_in (by assumption)) (fun q2 hq2 => ?_)
  exact gp_z (by assumption)
theorem fs_g_rests_44 {z0 : RS} {s0 : Int32} {μ : RS} (h : Fs z0 μ) : Gp z0 (g_rests_44 U S N s0 μ) := by
  unfold g_rests_44
  exact gp_z (by assumption)
theorem fs_g_rests_43 {z0 : RS} {μ : RS} (h : Fs z0 μ) : Gp z0 (g_rests_43 U S N μ) := by
  unfold g_rests_43
  exact fs_g_rests_44 (by assumption)
theorem fs_g_rests_39 {z0 : RS} {μ : RS} (h : Fs z0 μ) : Gp z0 (g_rests_39 U S N μ) := by
  unfold g_rests_39
  exact fs_g_rests_44 (by assumption)
theorem fs_g_rests {z0 : RS} {a1 : Int32} {μ : RS} (h : Fs z0 μ) : Gp z0 (g_rests U S N a1 μ) := by
  unfold g_rests
  refine gp_b (fs_g_isUser (by assumption)) (fun q1 hq1 => ?_)
  refine gp_i ?_ ?_
  · exact fs_g_rests_43 (by assumption)
  · refine gp_v (fun v4 => ?_)
    refine gp_i ?_ ?_
    · exact fs_g_rests_39 (by assumption)
    · refine gp_v (fun v6 => ?_)
      refine gp_i ?_ ?_
      · exact fs_g_rests_39 (by assumption)
      · refine gp_v (fun v8 => ?_)
        refine gp_i ?_ ?_
        · exact fs_g_rests_43 (by assumption)
        · exact fs_g_rests_39 (by assumption)
theorem fs_g_mount_16 {z0 : RS} {μ : RS} (h : Fs z0 μ) : Gp z0 (g_mount_16 U S N μ) := by
  unfold g_mount_16
  exact gp_z (by assumption)
theorem fs_g_isMoved_20 {z0 : RS} {s0 : Int32} {μ : RS} (h : Fs z0 μ) : Gp z0 (g_isMoved_20 U S N s0 μ) := by
  unfold g_isMoved_20
  exact gp_z (by assumption)
theorem fs_g_isMoved_19 {z0 : RS} {μ : RS} (h : Fs z0 μ) : Gp z0 (g_isMoved_19 U S N μ) := by
  unfold g_isMoved_19
  exact fs_g_isMoved_20 (by assumption)
theorem fs_g_isMoved {z0 : RS} {a1 : Int32} {μ : RS} (h : Fs z0 μ) : Gp z0 (g_isMoved U S N a1 μ) := by
  unfold g_isMoved
  refine gp_i ?_ ?_
  · exact fs_g_isMoved_19 (by assumption)
  · refine gp_i ?_ ?_
    · exact fs_g_isMoved_19 (by assumption)
    · exact fs_g_isMoved_20 (by assumption)
theorem fs_g_mount_74 {z0 : RS} {k40 : Int32 → Int32 → RS → Option (Int32 × RS)} {a1 : Int32} {a2 : Int32} {s0 : Nat} {s1 : Int32} {s2 : Int32} {μ : RS} (hk40 : ∀ {x0 : Int32} {x1 : Int32} {y : RS}, Fs z0 y → Gp z0 (k40 x0 x1 y)) (h : Fs z0 μ) : Gp z0 (g_mount_74 U S N k40 a1 a2 s0 s1 s2 μ) := by
  unfold g_mount_74
  refine gp_t (gq_wG (by assumption)) (fun μ1 hμ1 => ?_)
  exact hk40 (by assumption)
theorem fs_h_mount_40 {z0 : RS} {k40 : Int32 → Int32 → RS → Option (Int32 × RS)} {a1 : Int32} {a2 : Int32} {μ : RS} (hk40 : ∀ {x0 : Int32} {x1 : Int32} {y : RS}, Fs z0 y → Gp z0 (k40 x0 x1 y)) (h : Fs z0 μ) : Gp z0 (h_mount_40 U S N k40 a1 a2 μ) := by
  unfold h_mount_40
  refine gp_i ?_ ?_
  · refine gp_t (gq_wA (by assumption)) (fun μ2 hμ2 => ?_)
    refine gp_t (gq_wA (by assumption)) (fun μ4 hμ4 => ?_)
    refine gp_t (gq_wA (by assumption)) (fun μ6 hμ6 => ?_)
    refine gp_t (gq_wA (by assumption)) (fun μ8 hμ8 => ?_)
    refine gp_t (gq_wA (by assumption)) (fun μ10 hμ10 => ?_)
    exact gp_z (by assumption)
  · refine gp_v (fun v12 => ?_)
    refine gp_v (fun v14 => ?_)
    refine gp_i ?_ ?_
    · refine gp_v (fun v16 => ?_)
      exact fs_g_mount_74 hk40 (by assumption)
    · exact fs_g_mount_74 hk40 (by assumption)
theorem fs_l_mount_40 (f : Nat) {z0 : RS} : ∀ {a1 : Int32} {a2 : Int32} {μ : RS} , Fs z0 μ → Gp z0 (l_mount_40 U S N f a1 a2 μ) := by
  induction f with
  | zero => intro a1 a2 μ _; exact gp_n
  | succ f ih =>
    intro a1 a2 μ h
    exact fs_h_mount_40 (fun {a1} {a2} {μ} hh => ih hh) h
theorem fs_g_mount_38 {z0 : RS} {a1 : Int32} {μ : RS} (h : Fs z0 μ) : Gp z0 (g_mount_38 U S N a1 μ) := by
  unfold g_mount_38
  exact fs_l_mount_40 _ (by assumption)
theorem fs_g_nobodys {z0 : RS} {a1 : Int32} {μ : RS} (h : Fs z0 μ) : Gp z0 (g_nobodys U S N a1 μ) := by
  unfold g_nobodys
  refine gp_v (fun v3 => ?_)
  refine gp_t (gq_wA (by assumption)) (fun μ4 hμ4 => ?_)
  refine gp_t (gq_wA (by assumption)) (fun μ6 hμ6 => ?_)
  refine gp_t (gq_wZ (by assumption)) (fun μ8 hμ8 => ?_)
  refine gp_t (gq_wZ (by assumption)) (fun μ10 hμ10 => ?_)
  exact gp_s (by assumption)
theorem fs_g_mount {z0 : RS} {a1 : Int32} {μ : RS} (h : Fs z0 μ) : Gp z0 (g_mount U S N a1 μ) := by
  unfold g_mount
  refine gp_b (fs_g_rests (by assumption)) (fun q1 hq1 => ?_)
  refine gp_i ?_ ?_
  · exact fs_g_mount_16 (by assumption)
  · refine gp_b (fs_g_isMoved (by assumption)) (fun q3 hq3 => ?_)
    refine gp_i ?_ ?_
    · refine gp_v (fun v6 => ?_)
      refine gp_i ?_ ?_
      · exact fs_g_mount_38 (by assumption)
      · refine gp_v (fun v8 => ?_)
        refine gp_b (fs_g_nobodys (by assumption)) (fun q9 hq9 => ?_)
        exact fs_g_mount_38 (by assumption)
    · exact fs_g_mount_16 (by assumption)
theorem fs_g_begin_24 {z0 : RS} {μ : RS} (h : Fs z0 μ) : Gp z0 (g_begin_24 U S N μ) := by
  unfold g_begin_24
  exact gp_z (by assumption)
theorem fs_g_isWord {z0 : RS} {a0 : Int32} {μ : RS} (h : Fs z0 μ) : Gp z0 (g_isWord U S N a0 μ) := by
  unfold g_isWord
  refine gp_b (fs_g_in (by assumption)) (fun q1 hq1 => ?_)
  exact gp_z (by assumption)
theorem fs_g_becomesReady {z0 : RS} {a1 : Int32} {μ : RS} (h : Fs z0 μ) : Gp z0 (g_becomesReady U S N a1 μ) := by
  unfold g_becomesReady
  refine gp_t (gq_wA (by assumption)) (fun μ2 hμ2 => ?_)
  refine gp_t (gq_wA (by assumption)) (fun μ5 hμ5 => ?_)
  refine gp_t (gq_s (Fs_I (by assumption) (by decide))) (fun μ7 hμ7 => ?_)
  exact gp_s (by assumption)
theorem fs_g_begin {z0 : RS} {a1 : Int32} {a2 : Int32} {μ : RS} (h : Fs z0 μ) : Gp z0 (g_begin U S N a1 a2 μ) := by
  unfold g_begin
  refine gp_b (fs_g_rests (by assumption)) (fun q1 hq1 => ?_)
  refine gp_i ?_ ?_
  · exact fs_g_begin_24 (by assumption)
  · refine gp_v (fun v4 => ?_)
    refine gp_i ?_ ?_
    · exact fs_g_begin_24 (by assumption)
    · refine gp_b (fs_g_isWord (by assumption)) (fun q5 hq5 => ?_)
      refine gp_i ?_ ?_
      · refine gp_t (gq_wA (by assumption)) (fun μ7 hμ7 => ?_)
        refine gp_b (fs_g_becomesReady (by assumption)) (fun q8 hq8 => ?_)
        exact gp_z (by assumption)
      · exact fs_g_begin_24 (by assumption)
theorem fs_g_halt_22 {z0 : RS} {μ : RS} (h : Fs z0 μ) : Gp z0 (g_halt_22 U S N μ) := by
  unfold g_halt_22
  exact gp_z (by assumption)
theorem fs_g_leavesQueue_40 {z0 : RS} {k4 : Int32 → Int32 → Int32 → RS → Option (Unit × RS)} {a1 : Int32} {a2 : Int32} {a3 : Int32} {μ : RS} (hk4 : ∀ {x0 : Int32} {x1 : Int32} {x2 : Int32} {y : RS}, Fs z0 y → Gp z0 (k4 x0 x1 x2 y)) (h : Fs z0 μ) : Gp z0 (g_leavesQueue_40 U S N k4 a1 a2 a3 μ) := by
  unfold g_leavesQueue_40
  exact hk4 (by assumption)
theorem fs_h_leavesQueue_4 {z0 : RS} {k4 : Int32 → Int32 → Int32 → RS → Option (Unit × RS)} {a1 : Int32} {a2 : Int32} {a3 : Int32} {μ : RS} (hk4 : ∀ {x0 : Int32} {x1 : Int32} {x2 : Int32} {y : RS}, Fs z0 y → Gp z0 (k4 x0 x1 x2 y)) (h : Fs z0 μ) : Gp z0 (h_leavesQueue_4 U S N k4 a1 a2 a3 μ) := by
  unfold h_leavesQueue_4
  refine gp_i ?_ ?_
  · refine gp_t (gq_s (Fs_I (by assumption) (by decide))) (fun μ2 hμ2 => ?_)
    exact gp_s (by assumption)
  · refine gp_v (fun v4 => ?_)
    refine gp_i ?_ ?_
    · refine gp_v (fun v7 => ?_)
      refine gp_t (gq_wA (by assumption)) (fun μ8 hμ8 => ?_)
      exact fs_g_leavesQueue_40 hk4 (by assumption)
    · exact fs_g_leavesQueue_40 hk4 (by assumption)
theorem fs_l_leavesQueue_4 (f : Nat) {z0 : RS} : ∀ {a1 : Int32} {a2 : Int32} {a3 : Int32} {μ : RS} , Fs z0 μ → Gp z0 (l_leavesQueue_4 U S N f a1 a2 a3 μ) := by
  induction f with
  | zero => intro a1 a2 a3 μ _; exact gp_n
  | succ f ih =>
    intro a1 a2 a3 μ h
    exact fs_h_leavesQueue_4 (fun {a1} {a2} {a3} {μ} hh => ih hh) h
theorem fs_g_leavesQueue {z0 : RS} {a1 : Int32} {μ : RS} (h : Fs z0 μ) : Gp z0 (g_leavesQueue U S N a1 μ) := by
  unfold g_leavesQueue
  exact fs_l_leavesQueue_4 _ (by assumption)
theorem fs_g_halt_54 {z0 : RS} {a1 : Int32} {μ : RS} (h : Fs z0 μ) : Gp z0 (g_halt_54 U S N a1 μ) := by
  unfold g_halt_54
  refine gp_t (gq_wA (by assumption)) (fun μ2 hμ2 => ?_)
  exact gp_z (by assumption)
theorem fs_g_halt {z0 : RS} {a1 : Int32} {μ : RS} (h : Fs z0 μ) : Gp z0 (g_halt U S N a1 μ) := by
  unfold g_halt
  refine gp_b (fs_g_isUser (by assumption)) (fun q1 hq1 => ?_)
  refine gp_i ?_ ?_
  · exact fs_g_halt_22 (by assumption)
  · refine gp_v (fun v4 => ?_)
    refine gp_b (fs_g_in (by assumption)) (fun q5 hq5 => ?_)
    refine gp_i ?_ ?_
    · refine gp_b (fs_g_leavesQueue (by assumption)) (fun q6 hq6 => ?_)
      refine gp_i ?_ ?_
      · exact fs_g_halt_54 (by assumption)
      · refine gp_v (fun v11 => ?_)
        refine gp_t (gq_wZ (by assumption)) (fun μ12 hμ12 => ?_)
        refine gp_t (gq_s (Fs_I (by assumption) (by decide))) (fun μ13 hμ13 => ?_)
        exact fs_g_halt_54 (by assumption)
    · exact fs_g_halt_22 (by assumption)
theorem fs_g_key_18 {z0 : RS} {μ : RS} (h : Fs z0 μ) : Gp z0 (g_key_18 U S N μ) := by
  unfold g_key_18
  exact gp_z (by assumption)
theorem fs_g_key_82 {z0 : RS} {μ : RS} (h : Fs z0 μ) : Gp z0 (g_key_82 U S N μ) := by
  unfold g_key_82
  exact gp_z (by assumption)
theorem fs_g_key {z0 : RS} {a1 : Int32} {a2 : Int32} {μ : RS} (h : Fs z0 μ) : Gp z0 (g_key U S N a1 a2 μ) := by
  unfold g_key
  refine gp_b (fs_g_isUser (by assumption)) (fun q1 hq1 => ?_)
  refine gp_i ?_ ?_
  · exact fs_g_key_18 (by assumption)
  · refine gp_b (fs_g_in (by assumption)) (fun q3 hq3 => ?_)
    refine gp_i ?_ ?_
    · refine gp_v (fun v5 => ?_)
      refine gp_i ?_ ?_
      · refine gp_v (fun v7 => ?_)
        refine gp_v (fun v9 => ?_)
        refine gp_t (gq_wG (by assumption)) (fun μ10 hμ10 => ?_)
        refine gp_v (fun v12 => ?_)
        refine gp_t (gq_wA (by assumption)) (fun μ13 hμ13 => ?_)
        refine gp_v (fun v15 => ?_)
        refine gp_i ?_ ?_
        · exact fs_g_key_82 (by assumption)
        · refine gp_b (fs_g_becomesReady (by assumption)) (fun q16 hq16 => ?_)
          exact fs_g_key_82 (by assumption)
      · refine gp_v (fun v19 => ?_)
        refine gp_t (gq_wA (by assumption)) (fun μ20 hμ20 => ?_)
        exact gp_z (by assumption)
    · exact fs_g_key_18 (by assumption)
theorem fs_g_set_15 {z0 : RS} {μ : RS} (h : Fs z0 μ) : Gp z0 (g_set_15 U S N μ) := by
  unfold g_set_15
  exact gp_z (by assumption)
theorem fs_g_set {z0 : RS} {a1 : Int32} {a2 : Int32} {μ : RS} (h : Fs z0 μ) : Gp z0 (g_set U S N a1 a2 μ) := by
  unfold g_set
  refine gp_b (fs_g_isUser (by assumption)) (fun q1 hq1 => ?_)
  refine gp_i ?_ ?_
  · exact fs_g_set_15 (by assumption)
  · refine gp_b (fs_g_isWord (by assumption)) (fun q3 hq3 => ?_)
    refine gp_i ?_ ?_
    · refine gp_t (gq_wA (by assumption)) (fun μ5 hμ5 => ?_)
      exact gp_z (by assumption)
    · exact fs_g_set_15 (by assumption)
theorem fs_g_deposit_30 {z0 : RS} {μ : RS} (h : Fs z0 μ) : Gp z0 (g_deposit_30 U S N μ) := by
  unfold g_deposit_30
  exact gp_z (by assumption)
theorem fs_g_store {z0 : RS} {a1 : Int32} {a2 : Int32} {a3 : Int32} {μ : RS} (h : Fs z0 μ) : Gp z0 (g_store U S N a1 a2 a3 μ) := by
  unfold g_store
  refine gp_v (fun v3 => ?_)
  refine gp_v (fun v4 => ?_)
  refine gp_t (gq_wG (by assumption)) (fun μ5 hμ5 => ?_)
  refine gp_v (fun v8 => ?_)
  refine gp_t (gq_wZ (by assumption)) (fun μ9 hμ9 => ?_)
  exact gp_s (by assumption)
theorem fs_g_deposit_61 {z0 : RS} {μ : RS} (h : Fs z0 μ) : Gp z0 (g_deposit_61 U S N μ) := by
  unfold g_deposit_61
  exact gp_z (by assumption)
theorem fs_g_deposit {z0 : RS} {a1 : Int32} {a2 : Int32} {a3 : Int32} {μ : RS} (h : Fs z0 μ) : Gp z0 (g_deposit U S N a1 a2 a3 μ) := by
  unfold g_deposit
  refine gp_b (fs_g_rests (by assumption)) (fun q1 hq1 => ?_)
  refine gp_i ?_ ?_
  · exact fs_g_deposit_30 (by assumption)
  · refine gp_b (fs_g_isMoved (by assumption)) (fun q3 hq3 => ?_)
    refine gp_i ?_ ?_
    · exact fs_g_deposit_30 (by assumption)
    · refine gp_b (fs_g_isWord (by assumption)) (fun q5 hq5 => ?_)
      refine gp_i ?_ ?_
      · exact fs_g_deposit_30 (by assumption)
      · refine gp_b (fs_g_isWord (by assumption)) (fun q6 hq6 => ?_)
        refine gp_i ?_ ?_
        · refine gp_v (fun v8 => ?_)
          refine gp_i ?_ ?_
          · refine gp_b (fs_g_store (by assumption)) (fun q9 hq9 => ?_)
            exact fs_g_deposit_61 (by assumption)
          · refine gp_v (fun v12 => ?_)
            refine gp_t (gq_wG (by assumption)) (fun μ13 hμ13 => ?_)
            exact fs_g_deposit_61 (by assumption)
        · exact fs_g_deposit_30 (by assumption)
theorem fs_g_load {z0 : RS} {a1 : Int32} {a2 : Int32} {μ : RS} (h : Fs z0 μ) : Gp z0 (g_load U S N a1 a2 μ) := by
  unfold g_load
  refine gp_v (fun v3 => ?_)
  refine gp_v (fun v4 => ?_)
  refine gp_v (fun v5 => ?_)
  exact gp_s (by assumption)
theorem fs_g_isWrong_228 {z0 : RS} {μ : RS} (h : Fs z0 μ) : Gp z0 (g_isWrong_228 U S N μ) := by
  unfold g_isWrong_228
  exact gp_z (by assumption)
theorem fs_g_isWrong_55 {z0 : RS} {μ : RS} (h : Fs z0 μ) : Gp z0 (g_isWrong_55 U S N μ) := by
  unfold g_isWrong_55
  refine gp_i ?_ ?_
  · refine gp_i ?_ ?_
    · exact fs_g_isWrong_228 (by assumption)
    · refine gp_i ?_ ?_
      · exact fs_g_isWrong_228 (by assumption)
      · refine gp_i ?_ ?_
        · exact fs_g_isWrong_228 (by assumption)
        · refine gp_i ?_ ?_
          · exact fs_g_isWrong_228 (by assumption)
          · refine gp_i ?_ ?_
            · exact fs_g_isWrong_228 (by assumption)
            · refine gp_i ?_ ?_
              · exact fs_g_isWrong_228 (by assumption)
              · refine gp_i ?_ ?_
                · exact fs_g_isWrong_228 (by assumption)
                · refine gp_i ?_ ?_
                  · exact fs_g_isWrong_228 (by assumption)
                  · refine gp_i ?_ ?_
                    · exact fs_g_isWrong_228 (by assumption)
                    · refine gp_i ?_ ?_
                      · exact fs_g_isWrong_228 (by assumption)
                      · refine gp_i ?_ ?_
                        · exact fs_g_isWrong_228 (by assumption)
                        · refine gp_i ?_ ?_
                          · exact fs_g_isWrong_228 (by assumption)
                          · refine gp_i ?_ ?_
                            · exact fs_g_isWrong_228 (by assumption)
                            · refine gp_i ?_ ?_
                              · exact fs_g_isWrong_228 (by assumption)
                              · refine gp_i ?_ ?_
                                · exact fs_g_isWrong_228 (by assumption)
                                · refine gp_i ?_ ?_
                                  · exact fs_g_isWrong_228 (by assumption)
                                  · refine gp_i ?_ ?_
                                    · exact fs_g_isWrong_228 (by assumption)
                                    · refine gp_i ?_ ?_
                                      · exact fs_g_isWrong_228 (by assumption)
                                      · exact gp_z (by assumption)
  · exact gp_z (by assumption)
theorem fs_g_isWrong_54 {z0 : RS} {s0 : Int32} {μ : RS} (h : Fs z0 μ) : Gp z0 (g_isWrong_54 U S N s0 μ) := by
  unfold g_isWrong_54
  exact gp_z (by assumption)
theorem fs_g_isWrong_49 {z0 : RS} {μ : RS} (h : Fs z0 μ) : Gp z0 (g_isWrong_49 U S N μ) := by
  unfold g_isWrong_49
  exact fs_g_isWrong_54 (by assumption)
theorem fs_g_isWrong {z0 : RS} {μ : RS} (h : Fs z0 μ) : Gp z0 (g_isWrong U S N μ) := by
  unfold g_isWrong
  refine gp_i ?_ ?_
  · exact fs_g_isWrong_55 (by assumption)
  · refine gp_i ?_ ?_
    · exact fs_g_isWrong_55 (by assumption)
    · refine gp_i ?_ ?_
      · exact fs_g_isWrong_49 (by assumption)
      · refine gp_i ?_ ?_
        · exact fs_g_isWrong_54 (by assumption)
        · exact fs_g_isWrong_49 (by assumption)
theorem fs_g_mustWait_89 {z0 : RS} {s0 : Int32} {μ : RS} (h : Fs z0 μ) : Gp z0 (g_mustWait_89 U S N s0 μ) := by
  unfold g_mustWait_89
  exact gp_z (by assumption)
theorem fs_g_mustWait_74 {z0 : RS} {a1 : Int32} {μ : RS} (h : Fs z0 μ) : Gp z0 (g_mustWait_74 U S N a1 μ) := by
  unfold g_mustWait_74
  refine gp_v (fun v2 => ?_)
  refine gp_i ?_ ?_
  · exact fs_g_mustWait_89 (by assumption)
  · exact fs_g_mustWait_89 (by assumption)
theorem fs_g_mustWait_56 {z0 : RS} {a1 : Int32} {μ : RS} (h : Fs z0 μ) : Gp z0 (g_mustWait_56 U S N a1 μ) := by
  unfold g_mustWait_56
  refine gp_v (fun v2 => ?_)
  refine gp_i ?_ ?_
  · exact fs_g_mustWait_74 (by assumption)
  · refine gp_t (gq_wA (by assumption)) (fun μ4 hμ4 => ?_)
    exact fs_g_mustWait_74 (by assumption)
theorem fs_g_mustWait_36 {z0 : RS} {a1 : Int32} {μ : RS} (h : Fs z0 μ) : Gp z0 (g_mustWait_36 U S N a1 μ) := by
  unfold g_mustWait_36
  refine gp_i ?_ ?_
  · exact fs_g_mustWait_56 (by assumption)
  · refine gp_i ?_ ?_
    · exact fs_g_mustWait_74 (by assumption)
    · exact fs_g_mustWait_56 (by assumption)
theorem fs_g_mustWait_20 {z0 : RS} {a1 : Int32} {μ : RS} (h : Fs z0 μ) : Gp z0 (g_mustWait_20 U S N a1 μ) := by
  unfold g_mustWait_20
  refine gp_v (fun v2 => ?_)
  refine gp_i ?_ ?_
  · exact fs_g_mustWait_36 (by assumption)
  · refine gp_t (gq_wA (by assumption)) (fun μ4 hμ4 => ?_)
    exact fs_g_mustWait_36 (by assumption)
theorem fs_g_mustWait {z0 : RS} {a1 : Int32} {μ : RS} (h : Fs z0 μ) : Gp z0 (g_mustWait U S N a1 μ) := by
  unfold g_mustWait
  refine gp_i ?_ ?_
  · exact fs_g_mustWait_20 (by assumption)
  · refine gp_i ?_ ?_
    · exact fs_g_mustWait_36 (by assumption)
    · exact fs_g_mustWait_20 (by assumption)
theorem fs_g_has_14 {z0 : RS} {s0 : Int32} {μ : RS} (h : Fs z0 μ) : Gp z0 (g_has_14 U S N s0 μ) := by
  unfold g_has_14
  exact gp_z (by assumption)
theorem fs_g_has {z0 : RS} {a1 : Int32} {μ : RS} (h : Fs z0 μ) : Gp z0 (g_has U S N a1 μ) := by
  unfold g_has
  refine gp_i ?_ ?_
  · exact fs_g_has_14 (by assumption)
  · exact fs_g_has_14 (by assumption)
theorem fs_g_word_ {z0 : RS} {a1 : Int32} {μ : RS} (h : Fs z0 μ) : Gp z0 (g_word_ U S N a1 μ) := by
  unfold g_word_
  refine gp_v (fun v2 => ?_)
  refine gp_b (fs_g_load (by assumption)) (fun q3 hq3 => ?_)
  refine gp_v (fun v7 => ?_)
  refine gp_t (gq_wA (by assumption)) (fun μ8 hμ8 => ?_)
  exact gp_s (by assumption)
theorem fs_g_third_324 {z0 : RS} {a1 : Int32} {a4 : Int32} {μ : RS} (h : Fs z0 μ) : Gp z0 (g_third_324 U S N a1 a4 μ) := by
  unfold g_third_324
  refine gp_t (gq_wA (by assumption)) (fun μ2 hμ2 => ?_)
  refine gp_t (gq_wA (by assumption)) (fun μ4 hμ4 => ?_)
  exact gp_s (by assumption)
theorem fs_g_third_318 {z0 : RS} {k246 : Int32 → Int32 → Int32 → Int32 → RS → Option (Unit × RS)} {a1 : Int32} {a2 : Int32} {a4 : Int32} {a5 : Int32} {μ : RS} (hk246 : ∀ {x0 : Int32} {x1 : Int32} {x2 : Int32} {x3 : Int32} {y : RS}, Fs z0 y → Gp z0 (k246 x0 x1 x2 x3 y)) (h : Fs z0 μ) : Gp z0 (g_third_318 U S N k246 a1 a2 a4 a5 μ) := by
  unfold g_third_318
  exact hk246 (by assumption)
theorem fs_g_third_301 {z0 : RS} {k246 : Int32 → Int32 → Int32 → Int32 → RS → Option (Unit × RS)} {a1 : Int32} {a2 : Int32} {a4 : Int32} {a5 : Int32} {s1 : Int32} {s2 : Int32} {μ : RS} (hk246 : ∀ {x0 : Int32} {x1 : Int32} {x2 : Int32} {x3 : Int32} {y : RS}, Fs z0 y → Gp z0 (k246 x0 x1 x2 x3 y)) (h : Fs z0 μ) : Gp z0 (g_third_301 U S N k246 a1 a2 a4 a5 s1 s2 μ) := by
  unfold g_third_301
  refine gp_t (gq_wA (by assumption)) (fun μ1 hμ1 => ?_)
  refine gp_v (fun v3 => ?_)
  exact fs_g_third_318 hk246 (by assumption)
theorem fs_h_third_246 {z0 : RS} {k246 : Int32 → Int32 → Int32 → Int32 → RS → Option (Unit × RS)} {a1 : Int32} {a2 : Int32} {a4 : Int32} {a5 : Int32} {μ : RS} (hk246 : ∀ {x0 : Int32} {x1 : Int32} {x2 : Int32} {x3 : Int32} {y : RS}, Fs z0 y → Gp z0 (k246 x0 x1 x2 x3 y)) (h : Fs z0 μ) : Gp z0 (h_third_246 U S N k246 a1 a2 a4 a5 μ) := by
  unfold h_third_246
  refine gp_i ?_ ?_
  · exact fs_g_third_324 (by assumption)
  · refine gp_i ?_ ?_
    · refine gp_i ?_ ?_
      · exact fs_g_third_301 hk246 (by assumption)
      · exact fs_g_third_301 hk246 (by assumption)
    · refine gp_t (gq_wA (by assumption)) (fun μ3 hμ3 => ?_)
      exact fs_g_third_318 hk246 (by assumption)
theorem fs_l_third_246 (f : Nat) {z0 : RS} : ∀ {a1 : Int32} {a2 : Int32} {a4 : Int32} {a5 : Int32} {μ : RS} , Fs z0 μ → Gp z0 (l_third_246 U S N f a1 a2 a4 a5 μ) := by
  induction f with
  | zero => intro a1 a2 a4 a5 μ _; exact gp_n
  | succ f ih =>
    intro a1 a2 a4 a5 μ h
    exact fs_h_third_246 (fun {a1} {a2} {a4} {a5} {μ} hh => ih hh) h
end
