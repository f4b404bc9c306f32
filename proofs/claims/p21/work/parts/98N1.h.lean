/-! LAYER 3, what the other methods leave alone: names, letters; a tape stays a tape -/
def B8 (x : Int32) : Prop := ∃ j, j < 256 ∧ x = nI j
def Fr (t0 t : CS) : Prop := t.2.1 4 = t0.2.1 4 ∧ t.2.2.1 = t0.2.2.1 ∧ ((∀ i, B8 (t0.2.1 11 0 0 i)) → ∀ i, B8 (t.2.1 11 0 0 i))
def Fp {α : Type} (t0 : CS) (o : Option (α × CS)) : Prop := ∀ x t2, o = some (x, t2) → Fr t0 t2
def Fq (t0 : CS) (o : Option CS) : Prop := ∀ t2, o = some t2 → Fr t0 t2
theorem Fr_0 (t : CS) : Fr t t := ⟨rfl, rfl, fun h => h⟩
theorem Fr_I {t0 t : CS} {a b c : Nat} {x : Int32} (h : Fr t0 t) : Fr t0 (qI t a b c x) := h
theorem Fr_R {t0 t : CS} {a b c : Nat} {x : Option Nat} (h : Fr t0 t) : Fr t0 (qR t a b c x) := h
theorem Fr_Q {t0 t : CS} {i : Nat} {x : Option Nat} (h : Fr t0 t) : Fr t0 (qQ t i x) := h
theorem Fr_F {t0 t : CS} {a b c : Nat} {f : Nat → Int32} (h : Fr t0 t) (h4 : a ≠ 4) (h11 : a ≠ 11) : Fr t0 (qF t a b c f) := by
  have e4 : (qF t a b c f).2.1 4 = t.2.1 4 := by
    funext j k
    show up3 t.2.1 a b c f 4 j k = _
    rw [up3_n _ _ (fun z => h4 z.1.symm)]
  have e11 : (qF t a b c f).2.1 11 0 0 = t.2.1 11 0 0 := by
    show up3 t.2.1 a b c f 11 0 0 = _
    rw [up3_n _ _ (fun z => h11 z.1.symm)]
  exact ⟨e4.trans h.1, h.2.1, fun g => by rw [e11]; exact h.2.2 g⟩
theorem fq_s {t0 t : CS} (h : Fr t0 t) : Fq t0 (some t) := fun t2 e => by rw [← Option.some.inj e]; exact h
theorem fq_wH {t0 t : CS} {n a b c : Nat} {i x : Int32} (h : Fr t0 t) (h4 : a ≠ 4) (h11 : a ≠ 11) : Fq t0 (wH n t a b c i x) := by
  intro t2 e
  unfold wH at e
  split at e
  · cases e
  · rw [← Option.some.inj e]
    exact Fr_F h h4 h11
theorem fq_cp {t0 t : CS} {n0 n1 a b c : Nat} {f : Nat → Int32} {sp dp n : Int32} (h : Fr t0 t) (h4 : a ≠ 4) (h11 : a ≠ 11) : Fq t0 (cpH t n0 f sp n1 a b c dp n) := by
  intro t2 e
  unfold cpH at e
  split at e
  · cases e
  · rw [← Option.some.inj e]
    exact Fr_F h h4 h11
theorem b8_and (x : Int32) : B8 (x &&& 255) := ⟨_, Nat.mod_lt _ (by decide), and_md x (m := 8) (by decide) 255 rfl⟩
theorem fq_w11 {t0 t : CS} {n : Nat} {i x : Int32} (h : Fr t0 t) : Fq t0 (wH n t 11 0 0 i (x &&& 255)) := by
  intro t2 e
  unfold wH at e
  split at e
  · cases e
  · rw [← Option.some.inj e]
    refine ⟨?_, h.2.1, fun g k => ?_⟩
    · rw [← h.1]
      funext j k
      show up3 t.2.1 11 0 0 (upd (t.2.1 11 0 0) i.toNatClampNeg (x &&& 255)) 4 j k = _
      rw [up3_n _ _ (fun z => absurd z.1 (by decide))]
    · show B8 (up3 t.2.1 11 0 0 (upd (t.2.1 11 0 0) i.toNatClampNeg (x &&& 255)) 11 0 0 k)
      rw [up3_s]
      exact upd_all (P := B8) (h.2.2 g) (b8_and x) _ k
theorem fq_wU {t0 t : CS} {U : Nat} {i : Int32} {x : Option Nat} (h : Fr t0 t) : Fq t0 (wU U t i x) := by
  intro t2 e
  unfold wU at e
  split at e
  · cases e
  · rw [← Option.some.inj e]
    exact h
theorem fq_qZ {t0 t : CS} {a b c : Nat} {x : Int32} (h : Fr t0 t) : Fq t0 (qZ t a b c x) := by
  intro t2 e
  unfold qZ at e
  split at e
  · rw [← Option.some.inj e]
    exact h
  · cases e
theorem fp_n {α : Type} {t0 : CS} : Fp t0 (none : Option (α × CS)) := fun _ _ e => by cases e
theorem fp_s {α : Type} {t0 t : CS} {x : α} (h : Fr t0 t) : Fp t0 (some (x, t)) := fun _ t2 e => by rw [← (Prod.mk.inj (Option.some.inj e)).2]; exact h
theorem fp_z {t0 t : CS} {x : Int32} (h : Fr t0 t) : Fp t0 (cZ x t) := by
  intro y t2 e
  unfold cZ at e
  split at e
  · rw [← (Prod.mk.inj (Option.some.inj e)).2]
    exact h
  · cases e
theorem fp_i {α : Type} {t0 : CS} {c : Prop} [Decidable c] {a b : Option (α × CS)} (h1 : Fp t0 a) (h2 : Fp t0 b) : Fp t0 (if c then a else b) := by
  split
  · exact h1
  · exact h2
theorem fp_v {α β : Type} {t0 : CS} {o : Option β} {k : β → Option (α × CS)} (h : ∀ v, Fp t0 (k v)) : Fp t0 (o.bind k) := by
  cases o with
  | none => exact fp_n
  | some v => exact h v
theorem fp_t {α : Type} {t0 : CS} {o : Option CS} {k : CS → Option (α × CS)} (h1 : Fq t0 o) (h : ∀ t, Fr t0 t → Fp t0 (k t)) : Fp t0 (o.bind k) := by
  cases o with
  | none => exact fp_n
  | some v => exact h v (h1 v rfl)
theorem fp_b {α β : Type} {t0 : CS} {o : Option (β × CS)} {k : β × CS → Option (α × CS)} (h1 : Fp t0 o) (h : ∀ q, Fr t0 q.2 → Fp t0 (k q)) : Fp t0 (o.bind k) := by
  cases o with
  | none => exact fp_n
  | some v => exact h v (h1 v.1 v.2 rfl)
section
variable {U S N : Nat}
theorem fr_u_X11_nearest {t0 : CS} {a0 : Int32} {a1 : Int32} {μ : CS} (h : Fr t0 μ) : Fp t0 (u_X11_nearest U S N a0 a1 μ) := by
  unfold u_X11_nearest
  exact fp_s (by assumption)
theorem fr_u_X11_feedFour_49 {t0 : CS} {μ : CS} (h : Fr t0 μ) : Fp t0 (u_X11_feedFour_49 U S N μ) := by
  unfold u_X11_feedFour_49
  exact fp_s (by assumption)
theorem fr_uh_X11_feedFour_3 {t0 : CS} {k3 : Int32 → Int32 → CS → Option (Unit × CS)} {a1 : Int32} {a2 : Int32} {μ : CS} (hk3 : ∀ {x0 : Int32} {x1 : Int32} {y : CS}, Fr t0 y → Fp t0 (k3 x0 x1 y)) (h : Fr t0 μ) : Fp t0 (uh_X11_feedFour_3 U S N k3 a1 a2 μ) := by
  unfold uh_X11_feedFour_3
  refine fp_i ?_ ?_
  · exact fr_u_X11_feedFour_49 (by assumption)
  · refine fp_i ?_ ?_
    · exact fr_u_X11_feedFour_49 (by assumption)
    · refine fp_t (fq_w11 (by assumption)) (fun μ4 hμ4 => ?_)
      refine fp_t (fq_s (Fr_I (by assumption))) (fun μ6 hμ6 => ?_)
      exact hk3 (by assumption)
theorem fr_ul_X11_feedFour_3 (f : Nat) {t0 : CS} : ∀ {a1 : Int32} {a2 : Int32} {μ : CS} , Fr t0 μ → Fp t0 (ul_X11_feedFour_3 U S N f a1 a2 μ) := by
  induction f with
  | zero => intro a1 a2 μ _; exact fp_n
  | succ f ih =>
    intro a1 a2 μ h
    exact fr_uh_X11_feedFour_3 (fun {a1} {a2} {μ} hh => ih hh) h
theorem fr_u_X11_feedFour {t0 : CS} {a1 : Int32} {μ : CS} (h : Fr t0 μ) : Fp t0 (u_X11_feedFour U S N a1 μ) := by
  unfold u_X11_feedFour
  exact fr_ul_X11_feedFour_3 _ (by assumption)
theorem fr_u_X11_feed {t0 : CS} {a1 : Int32} {a2 : Int32} {a3 : Int32} {a4 : Int32} {a5 : Int32} {μ : CS} (h : Fr t0 μ) : Fp t0 (u_X11_feed U S N a1 a2 a3 a4 a5 μ) := by
  unfold u_X11_feed
  refine fp_i ?_ ?_
  · refine fp_b (fr_u_X11_feedFour (by assumption)) (fun q2 hq2 => ?_)
    refine fp_b (fr_u_X11_feedFour (by assumption)) (fun q4 hq4 => ?_)
    refine fp_b (fr_u_X11_feedFour (by assumption)) (fun q6 hq6 => ?_)
    refine fp_b (fr_u_X11_feedFour (by assumption)) (fun q8 hq8 => ?_)
    refine fp_b (fr_u_X11_feedFour (by assumption)) (fun q10 hq10 => ?_)
    exact fp_s (by assumption)
  · exact fp_s (by assumption)
theorem fr_u_X11_end_12 {t0 : CS} {μ : CS} (h : Fr t0 μ) : Fp t0 (u_X11_end_12 U S N μ) := by
  unfold u_X11_end_12
  exact fp_z (by assumption)
theorem fr_u_X11_end {t0 : CS} {a1 : Int32} {μ : CS} (h : Fr t0 μ) : Fp t0 (u_X11_end U S N a1 μ) := by
  unfold u_X11_end
  refine fp_i ?_ ?_
  · exact fr_u_X11_end_12 (by assumption)
  · refine fp_i ?_ ?_
    · refine fp_t (fq_s (Fr_I (by assumption))) (fun μ2 hμ2 => ?_)
      exact fp_z (by assumption)
    · exact fr_u_X11_end_12 (by assumption)
theorem fr_u_X7_at_35 {t0 : CS} {s0 : Int32} {μ : CS} (h : Fr t0 μ) : Fp t0 (u_X7_at_35 U S N s0 μ) := by
  unfold u_X7_at_35
  exact fp_s (by assumption)
theorem fr_u_X7_at_21 {t0 : CS} {μ : CS} (h : Fr t0 μ) : Fp t0 (u_X7_at_21 U S N μ) := by
  unfold u_X7_at_21
  exact fr_u_X7_at_35 (by assumption)
theorem fr_u_X7_at {t0 : CS} {a0 : Nat} {a1 : Int32} {μ : CS} (h : Fr t0 μ) : Fp t0 (u_X7_at U S N a0 a1 μ) := by
  unfold u_X7_at
  refine fp_i ?_ ?_
  · exact fr_u_X7_at_21 (by assumption)
  · refine fp_i ?_ ?_
    · exact fr_u_X7_at_21 (by assumption)
    · refine fp_v (fun v2 => ?_)
      refine fp_i ?_ ?_
      · refine fp_v (fun v4 => ?_)
        exact fr_u_X7_at_35 (by assumption)
      · exact fr_u_X7_at_21 (by assumption)
theorem fr_u_X11_made {t0 : CS} {a1 : Int32} {μ : CS} (h : Fr t0 μ) : Fp t0 (u_X11_made U S N a1 μ) := by
  unfold u_X11_made
  refine fp_v (fun v2 => ?_)
  refine fp_v (fun j1 => ?_)
  refine fp_b (fr_u_X7_at (by assumption)) (fun q3 hq3 => ?_)
  exact fp_s (by assumption)
theorem fr_u_X2_userAt_23 {t0 : CS} {s0 : Option Nat} {μ : CS} (h : Fr t0 μ) : Fp t0 (u_X2_userAt_23 U S N s0 μ) := by
  unfold u_X2_userAt_23
  exact fp_s (by assumption)
theorem fr_u_X2_userAt_13 {t0 : CS} {μ : CS} (h : Fr t0 μ) : Fp t0 (u_X2_userAt_13 U S N μ) := by
  unfold u_X2_userAt_13
  exact fr_u_X2_userAt_23 (by assumption)
theorem fr_u_X2_userAt {t0 : CS} {a1 : Int32} {μ : CS} (h : Fr t0 μ) : Fp t0 (u_X2_userAt U S N a1 μ) := by
  unfold u_X2_userAt
  refine fp_i ?_ ?_
  · exact fr_u_X2_userAt_13 (by assumption)
  · refine fp_i ?_ ?_
    · refine fp_v (fun v4 => ?_)
      exact fr_u_X2_userAt_23 (by assumption)
    · exact fr_u_X2_userAt_13 (by assumption)
theorem fr_u_X11_mount_24 {t0 : CS} {μ : CS} (h : Fr t0 μ) : Fp t0 (u_X11_mount_24 U S N μ) := by
  unfold u_X11_mount_24
  exact fp_z (by assumption)
theorem fr_u_X1_isMoving_20 {t0 : CS} {s0 : Int32} {μ : CS} (h : Fr t0 μ) : Fp t0 (u_X1_isMoving_20 U S N s0 μ) := by
  unfold u_X1_isMoving_20
  exact fp_z (by assumption)
theorem fr_u_X1_isMoving_19 {t0 : CS} {μ : CS} (h : Fr t0 μ) : Fp t0 (u_X1_isMoving_19 U S N μ) := by
  unfold u_X1_isMoving_19
  exact fr_u_X1_isMoving_20 (by assumption)
theorem fr_u_X1_isMoving {t0 : CS} {a1 : Option Nat} {μ : CS} (h : Fr t0 μ) : Fp t0 (u_X1_isMoving U S N a1 μ) := by
  unfold u_X1_isMoving
  refine fp_i ?_ ?_
  · exact fr_u_X1_isMoving_19 (by assumption)
  · refine fp_v (fun v2 => ?_)
    refine fp_i ?_ ?_
    · exact fr_u_X1_isMoving_19 (by assumption)
    · exact fr_u_X1_isMoving_20 (by assumption)
theorem fr_u_X2_mayChange_30 {t0 : CS} {s0 : Int32} {μ : CS} (h : Fr t0 μ) : Fp t0 (u_X2_mayChange_30 U S N s0 μ) := by
  unfold u_X2_mayChange_30
  exact fp_z (by assumption)
theorem fr_u_X2_mayChange_29 {t0 : CS} {μ : CS} (h : Fr t0 μ) : Fp t0 (u_X2_mayChange_29 U S N μ) := by
  unfold u_X2_mayChange_29
  exact fr_u_X2_mayChange_30 (by assumption)
theorem fr_u_X2_mayChange_14 {t0 : CS} {a1 : Option Nat} {μ : CS} (h : Fr t0 μ) : Fp t0 (u_X2_mayChange_14 U S N a1 μ) := by
  unfold u_X2_mayChange_14
  refine fp_b (fr_u_X1_isMoving (by assumption)) (fun q2 hq2 => ?_)
  refine fp_i ?_ ?_
  · exact fr_u_X2_mayChange_29 (by assumption)
  · exact fr_u_X2_mayChange_30 (by assumption)
theorem fr_u_X10_hasStopped_23 {t0 : CS} {s0 : Int32} {μ : CS} (h : Fr t0 μ) : Fp t0 (u_X10_hasStopped_23 U S N s0 μ) := by
  unfold u_X10_hasStopped_23
  exact fp_z (by assumption)
theorem fr_u_X10_hasStopped_18 {t0 : CS} {μ : CS} (h : Fr t0 μ) : Fp t0 (u_X10_hasStopped_18 U S N μ) := by
  unfold u_X10_hasStopped_18
  exact fr_u_X10_hasStopped_23 (by assumption)
theorem fr_u_X10_hasStopped {t0 : CS} {a0 : Nat} {μ : CS} (h : Fr t0 μ) : Fp t0 (u_X10_hasStopped U S N a0 μ) := by
  unfold u_X10_hasStopped
  refine fp_i ?_ ?_
  · exact fr_u_X10_hasStopped_18 (by assumption)
  · refine fp_i ?_ ?_
    · exact fr_u_X10_hasStopped_23 (by assumption)
    · exact fr_u_X10_hasStopped_18 (by assumption)
theorem fr_u_X2_mayChange {t0 : CS} {a1 : Option Nat} {μ : CS} (h : Fr t0 μ) : Fp t0 (u_X2_mayChange U S N a1 μ) := by
  unfold u_X2_mayChange
  refine fp_v (fun j1 => ?_)
  refine fp_i ?_ ?_
  · exact fr_u_X2_mayChange_14 (by assumption)
  · refine fp_b (fr_u_X10_hasStopped (by assumption)) (fun q2 hq2 => ?_)
    refine fp_i ?_ ?_
    · exact fr_u_X2_mayChange_29 (by assumption)
    · exact fr_u_X2_mayChange_14 (by assumption)
theorem fr_u_X7_copyTo_48 {t0 : CS} {μ : CS} (h : Fr t0 μ) : Fp t0 (u_X7_copyTo_48 U S N μ) := by
  unfold u_X7_copyTo_48
  exact fp_s (by assumption)
theorem fr_u_X7_copyTo_41 {t0 : CS} {k2 : Nat → Nat → Int32 → CS → Option (Unit × CS)} {a0 : Nat} {a1 : Nat} {a2 : Int32} {s0 : Nat} {s1 : Int32} {s2 : Int32} {μ : CS} (hk2 : ∀ {x0 : Nat} {x1 : Nat} {x2 : Int32} {y : CS}, Fr t0 y → Fp t0 (k2 x0 x1 x2 y)) (h : Fr t0 μ) : Fp t0 (u_X7_copyTo_41 U S N k2 a0 a1 a2 s0 s1 s2 μ) := by
  unfold u_X7_copyTo_41
  refine fp_t (fq_wH (by assumption) (by decide) (by decide)) (fun μ1 hμ1 => ?_)
  exact hk2 (by assumption)
theorem fr_uh_X7_copyTo_2 {t0 : CS} {k2 : Nat → Nat → Int32 → CS → Option (Unit × CS)} {a0 : Nat} {a1 : Nat} {a2 : Int32} {μ : CS} (hk2 : ∀ {x0 : Nat} {x1 : Nat} {x2 : Int32} {y : CS}, Fr t0 y → Fp t0 (k2 x0 x1 x2 y)) (h : Fr t0 μ) : Fp t0 (uh_X7_copyTo_2 U S N k2 a0 a1 a2 μ) := by
  unfold uh_X7_copyTo_2
  refine fp_i ?_ ?_
  · exact fr_u_X7_copyTo_48 (by assumption)
  · refine fp_i ?_ ?_
    · exact fr_u_X7_copyTo_48 (by assumption)
    · refine fp_v (fun v3 => ?_)
      refine fp_i ?_ ?_
      · refine fp_v (fun v5 => ?_)
        exact fr_u_X7_copyTo_41 hk2 (by assumption)
      · exact fr_u_X7_copyTo_41 hk2 (by assumption)
theorem fr_ul_X7_copyTo_2 (f : Nat) {t0 : CS} : ∀ {a0 : Nat} {a1 : Nat} {a2 : Int32} {μ : CS} , Fr t0 μ → Fp t0 (ul_X7_copyTo_2 U S N f a0 a1 a2 μ) := by
  induction f with
  | zero => intro a0 a1 a2 μ _; exact fp_n
  | succ f ih =>
    intro a0 a1 a2 μ h
    exact fr_uh_X7_copyTo_2 (fun {a0} {a1} {a2} {μ} hh => ih hh) h
theorem fr_u_X7_copyTo {t0 : CS} {a0 : Nat} {a1 : Nat} {μ : CS} (h : Fr t0 μ) : Fp t0 (u_X7_copyTo U S N a0 a1 μ) := by
  unfold u_X7_copyTo
  exact fr_ul_X7_copyTo_2 _ (by assumption)
theorem fr_u_X10_clearRegisters {t0 : CS} {a0 : Nat} {μ : CS} (h : Fr t0 μ) : Fp t0 (u_X10_clearRegisters U S N a0 μ) := by
  unfold u_X10_clearRegisters
  refine fp_t (fq_s (Fr_I (by assumption))) (fun μ1 hμ1 => ?_)
  refine fp_t (fq_s (Fr_I (by assumption))) (fun μ2 hμ2 => ?_)
  refine fp_t (fq_s (Fr_I (by assumption))) (fun μ3 hμ3 => ?_)
  refine fp_t (fq_s (Fr_I (by assumption))) (fun μ4 hμ4 => ?_)
  exact fp_s (by assumption)
theorem fr_u_X2_load_14 {t0 : CS} {a1 : Option Nat} {a2 : Option Nat} {μ : CS} (h : Fr t0 μ) : Fp t0 (u_X2_load_14 U S N a1 a2 μ) := by
  unfold u_X2_load_14
  refine fp_v (fun j1 => ?_)
  refine fp_v (fun j2 => ?_)
  refine fp_b (fr_u_X7_copyTo (by assumption)) (fun q2 hq2 => ?_)
  refine fp_b (fr_u_X10_clearRegisters (by assumption)) (fun q4 hq4 => ?_)
  refine fp_t (fq_s (Fr_I (by assumption))) (fun μ6 hμ6 => ?_)
  exact fp_s (by assumption)
theorem fr_u_X8_release_15 {t0 : CS} {a0 : Nat} {μ : CS} (h : Fr t0 μ) : Fp t0 (u_X8_release_15 U S N a0 μ) := by
  unfold u_X8_release_15
  refine fp_t (fq_s (Fr_R (by assumption))) (fun μ1 hμ1 => ?_)
  refine fp_t (fq_qZ (by assumption)) (fun μ2 hμ2 => ?_)
  refine fp_t (fq_qZ (by assumption)) (fun μ3 hμ3 => ?_)
  exact fp_s (by assumption)
theorem fr_u_X8_release {t0 : CS} {a0 : Nat} {μ : CS} (h : Fr t0 μ) : Fp t0 (u_X8_release U S N a0 μ) := by
  unfold u_X8_release
  refine fp_v (fun v1 => ?_)
  refine fp_i ?_ ?_
  · exact fr_u_X8_release_15 (by assumption)
  · refine fp_v (fun v2 => ?_)
    refine fp_v (fun j1 => ?_)
    refine fp_t (fq_s (Fr_R (by assumption))) (fun μ3 hμ3 => ?_)
    exact fr_u_X8_release_15 (by assumption)
theorem fr_u_X2_load {t0 : CS} {a1 : Option Nat} {a2 : Option Nat} {μ : CS} (h : Fr t0 μ) : Fp t0 (u_X2_load U S N a1 a2 μ) := by
  unfold u_X2_load
  refine fp_v (fun j1 => ?_)
  refine fp_v (fun v1 => ?_)
  refine fp_i ?_ ?_
  · exact fr_u_X2_load_14 (by assumption)
  · refine fp_v (fun v2 => ?_)
    refine fp_v (fun j2 => ?_)
    refine fp_b (fr_u_X8_release (by assumption)) (fun q3 hq3 => ?_)
    exact fr_u_X2_load_14 (by assumption)
theorem fr_u_X11_mount {t0 : CS} {a1 : Int32} {μ : CS} (h : Fr t0 μ) : Fp t0 (u_X11_mount U S N a1 μ) := by
  unfold u_X11_mount
  refine fp_b (fr_u_X2_userAt (by assumption)) (fun q2 hq2 => ?_)
  refine fp_v (fun v_ => ?_)
  refine fp_i ?_ ?_
  · exact fr_u_X11_mount_24 (by assumption)
  · refine fp_b (fr_u_X2_mayChange (by assumption)) (fun q5 hq5 => ?_)
    refine fp_i ?_ ?_
    · refine fp_v (fun v9 => ?_)
      refine fp_b (fr_u_X2_load (by assumption)) (fun q10 hq10 => ?_)
      exact fp_z (by assumption)
    · exact fr_u_X11_mount_24 (by assumption)
theorem fr_u_X11_begin_27 {t0 : CS} {μ : CS} (h : Fr t0 μ) : Fp t0 (u_X11_begin_27 U S N μ) := by
  unfold u_X11_begin_27
  exact fp_z (by assumption)
theorem fr_u_X11_isWord_16 {t0 : CS} {s0 : Int32} {μ : CS} (h : Fr t0 μ) : Fp t0 (u_X11_isWord_16 U S N s0 μ) := by
  unfold u_X11_isWord_16
  exact fp_z (by assumption)
theorem fr_u_X11_isWord_15 {t0 : CS} {μ : CS} (h : Fr t0 μ) : Fp t0 (u_X11_isWord_15 U S N μ) := by
  unfold u_X11_isWord_15
  exact fr_u_X11_isWord_16 (by assumption)
theorem fr_u_X11_isWord {t0 : CS} {a0 : Int32} {μ : CS} (h : Fr t0 μ) : Fp t0 (u_X11_isWord U S N a0 μ) := by
  unfold u_X11_isWord
  refine fp_i ?_ ?_
  · exact fr_u_X11_isWord_15 (by assumption)
  · refine fp_i ?_ ?_
    · exact fr_u_X11_isWord_15 (by assumption)
    · exact fr_u_X11_isWord_16 (by assumption)
theorem fr_u_X5_append_32 {t0 : CS} {μ : CS} (h : Fr t0 μ) : Fp t0 (u_X5_append_32 U S N μ) := by
  unfold u_X5_append_32
  exact fp_s (by assumption)
theorem fr_u_X5_append {t0 : CS} {a1 : Option Nat} {μ : CS} (h : Fr t0 μ) : Fp t0 (u_X5_append U S N a1 μ) := by
  unfold u_X5_append
  refine fp_i ?_ ?_
  · exact fr_u_X5_append_32 (by assumption)
  · refine fp_t (fq_wU (by assumption)) (fun μ6 hμ6 => ?_)
    refine fp_t (fq_s (Fr_I (by assumption))) (fun μ8 hμ8 => ?_)
    exact fr_u_X5_append_32 (by assumption)
theorem fr_u_X2_makeReady {t0 : CS} {a1 : Option Nat} {μ : CS} (h : Fr t0 μ) : Fp t0 (u_X2_makeReady U S N a1 μ) := by
  unfold u_X2_makeReady
  refine fp_v (fun j1 => ?_)
  refine fp_t (fq_s (Fr_I (by assumption))) (fun μ1 hμ1 => ?_)
  refine fp_b (fr_u_X5_append (by assumption)) (fun q3 hq3 => ?_)
  exact fp_s (by assumption)
theorem fr_u_X11_begin {t0 : CS} {a1 : Int32} {a2 : Int32} {μ : CS} (h : Fr t0 μ) : Fp t0 (u_X11_begin U S N a1 a2 μ) := by
  unfold u_X11_begin
  refine fp_b (fr_u_X2_userAt (by assumption)) (fun q2 hq2 => ?_)
  refine fp_v (fun v_ => ?_)
  refine fp_i ?_ ?_
  · exact fr_u_X11_begin_27 (by assumption)
  · refine fp_b (fr_u_X11_isWord (by assumption)) (fun q4 hq4 => ?_)
    refine fp_i ?_ ?_
    · exact fr_u_X11_begin_27 (by assumption)
    · refine fp_v (fun j1 => ?_)
      refine fp_b (fr_u_X10_hasStopped (by assumption)) (fun q5 hq5 => ?_)
      refine fp_i ?_ ?_
      · refine fp_t (fq_s (Fr_I (by assumption))) (fun μ7 hμ7 => ?_)
        refine fp_b (fr_u_X2_makeReady (by assumption)) (fun q9 hq9 => ?_)
        exact fp_z (by assumption)
      · exact fr_u_X11_begin_27 (by assumption)
theorem fr_u_X11_halt_20 {t0 : CS} {μ : CS} (h : Fr t0 μ) : Fp t0 (u_X11_halt_20 U S N μ) := by
  unfold u_X11_halt_20
  exact fp_z (by assumption)
theorem fr_u_X10_mayBeHalted_37 {t0 : CS} {s0 : Int32} {μ : CS} (h : Fr t0 μ) : Fp t0 (u_X10_mayBeHalted_37 U S N s0 μ) := by
  unfold u_X10_mayBeHalted_37
  exact fp_z (by assumption)
theorem fr_u_X10_mayBeHalted_32 {t0 : CS} {μ : CS} (h : Fr t0 μ) : Fp t0 (u_X10_mayBeHalted_32 U S N μ) := by
  unfold u_X10_mayBeHalted_32
  exact fr_u_X10_mayBeHalted_37 (by assumption)
theorem fr_u_X10_mayBeHalted {t0 : CS} {a0 : Nat} {μ : CS} (h : Fr t0 μ) : Fp t0 (u_X10_mayBeHalted U S N a0 μ) := by
  unfold u_X10_mayBeHalted
  refine fp_i ?_ ?_
  · exact fr_u_X10_mayBeHalted_32 (by assumption)
  · refine fp_i ?_ ?_
    · exact fr_u_X10_mayBeHalted_32 (by assumption)
    · refine fp_i ?_ ?_
      · exact fr_u_X10_mayBeHalted_32 (by assumption)
      · refine fp_i ?_ ?_
        · exact fr_u_X10_mayBeHalted_37 (by assumption)
        · exact fr_u_X10_mayBeHalted_32 (by assumption)
theorem fr_uh_X5_placeOf_2 {t0 : CS} {k2 : (Option Nat) → Int32 → CS → Option (Int32 × CS)} {a1 : Option Nat} {a2 : Int32} {μ : CS} (hk2 : ∀ {x0 : (Option Nat)} {x1 : Int32} {y : CS}, Fr t0 y → Fp t0 (k2 x0 x1 y)) (h : Fr t0 μ) : Fp t0 (uh_X5_placeOf_2 U S N k2 a1 a2 μ) := by
  unfold uh_X5_placeOf_2
  refine fp_i ?_ ?_
  · exact fp_s (by assumption)
  · refine fp_v (fun v3 => ?_)
    refine fp_i ?_ ?_
    · exact hk2 (by assumption)
    · exact fp_s (by assumption)
theorem fr_ul_X5_placeOf_2 (f : Nat) {t0 : CS} : ∀ {a1 : Option Nat} {a2 : Int32} {μ : CS} , Fr t0 μ → Fp t0 (ul_X5_placeOf_2 U S N f a1 a2 μ) := by
  induction f with
  | zero => intro a1 a2 μ _; exact fp_n
  | succ f ih =>
    intro a1 a2 μ h
    exact fr_uh_X5_placeOf_2 (fun {a1} {a2} {μ} hh => ih hh) h
theorem fr_u_X5_placeOf {t0 : CS} {a1 : Option Nat} {μ : CS} (h : Fr t0 μ) : Fp t0 (u_X5_placeOf U S N a1 μ) := by
  unfold u_X5_placeOf
  exact fr_ul_X5_placeOf_2 _ (by assumption)
theorem fr_uh_X5_remove_14 {t0 : CS} {k14 : Int32 → CS → Option (Unit × CS)} {a3 : Int32} {μ : CS} (hk14 : ∀ {x0 : Int32} {y : CS}, Fr t0 y → Fp t0 (k14 x0 y)) (h : Fr t0 μ) : Fp t0 (uh_X5_remove_14 U S N k14 a3 μ) := by
  unfold uh_X5_remove_14
  refine fp_i ?_ ?_
  · refine fp_t (fq_s (Fr_I (by assumption))) (fun μ3 hμ3 => ?_)
    refine fp_t (fq_wU (by assumption)) (fun μ6 hμ6 => ?_)
    exact fp_s (by assumption)
  · refine fp_v (fun v9 => ?_)
    refine fp_t (fq_wU (by assumption)) (fun μ10 hμ10 => ?_)
    exact hk14 (by assumption)
theorem fr_ul_X5_remove_14 (f : Nat) {t0 : CS} : ∀ {a3 : Int32} {μ : CS} , Fr t0 μ → Fp t0 (ul_X5_remove_14 U S N f a3 μ) := by
  induction f with
  | zero => intro a3 μ _; exact fp_n
  | succ f ih =>
    intro a3 μ h
    exact fr_uh_X5_remove_14 (fun {a3} {μ} hh => ih hh) h
theorem fr_u_X5_remove {t0 : CS} {a1 : Option Nat} {μ : CS} (h : Fr t0 μ) : Fp t0 (u_X5_remove U S N a1 μ) := by
  unfold u_X5_remove
  refine fp_b (fr_u_X5_placeOf (by assumption)) (fun q1 hq1 => ?_)
  refine fp_i ?_ ?_
  · exact fr_ul_X5_remove_14 _ (by assumption)
  · exact fp_s (by assumption)
theorem fr_u_X2_stop_27 {t0 : CS} {μ : CS} (h : Fr t0 μ) : Fp t0 (u_X2_stop_27 U S N μ) := by
  unfold u_X2_stop_27
  exact fp_s (by assumption)
theorem fr_u_X2_endTurn_25 {t0 : CS} {μ : CS} (h : Fr t0 μ) : Fp t0 (u_X2_endTurn_25 U S N μ) := by
  unfold u_X2_endTurn_25
  exact fp_s (by assumption)
theorem fr_u_X2_endTurn {t0 : CS} {a1 : Option Nat} {μ : CS} (h : Fr t0 μ) : Fp t0 (u_X2_endTurn U S N a1 μ) := by
  unfold u_X2_endTurn
  refine fp_t (fq_s (Fr_R (by assumption))) (fun μ1 hμ1 => ?_)
  refine fp_t (fq_s (Fr_I (by assumption))) (fun μ2 hμ2 => ?_)
  refine fp_v (fun j1 => ?_)
  refine fp_v (fun v3 => ?_)
  refine fp_i ?_ ?_
  · exact fr_u_X2_endTurn_25 (by assumption)
  · refine fp_v (fun v4 => ?_)
    refine fp_v (fun j2 => ?_)
    refine fp_t (fq_qZ (by assumption)) (fun μ5 hμ5 => ?_)
    exact fr_u_X2_endTurn_25 (by assumption)
theorem fr_u_X2_stop {t0 : CS} {a1 : Option Nat} {μ : CS} (h : Fr t0 μ) : Fp t0 (u_X2_stop U S N a1 μ) := by
  unfold u_X2_stop
  refine fp_v (fun j1 => ?_)
  refine fp_t (fq_s (Fr_I (by assumption))) (fun μ1 hμ1 => ?_)
  refine fp_b (fr_u_X5_remove (by assumption)) (fun q3 hq3 => ?_)
  refine fp_v (fun v5 => ?_)
  refine fp_i ?_ ?_
  · exact fr_u_X2_stop_27 (by assumption)
  · refine fp_b (fr_u_X2_endTurn (by assumption)) (fun q6 hq6 => ?_)
    exact fr_u_X2_stop_27 (by assumption)
theorem fr_u_X11_halt {t0 : CS} {a1 : Int32} {μ : CS} (h : Fr t0 μ) : Fp t0 (u_X11_halt U S N a1 μ) := by
  unfold u_X11_halt
  refine fp_b (fr_u_X2_userAt (by assumption)) (fun q2 hq2 => ?_)
  refine fp_v (fun v_ => ?_)
  refine fp_i ?_ ?_
  · exact fr_u_X11_halt_20 (by assumption)
  · refine fp_v (fun j1 => ?_)
    refine fp_b (fr_u_X10_mayBeHalted (by assumption)) (fun q4 hq4 => ?_)
    refine fp_i ?_ ?_
    · refine fp_b (fr_u_X2_stop (by assumption)) (fun q7 hq7 => ?_)
      exact fp_z (by assumption)
    · exact fr_u_X11_halt_20 (by assumption)
theorem fr_u_X11_key_23 {t0 : CS} {μ : CS} (h : Fr t0 μ) : Fp t0 (u_X11_key_23 U S N μ) := by
  unfold u_X11_key_23
  exact fp_z (by assumption)
theorem fr_u_X6_isFull_14 {t0 : CS} {s0 : Int32} {μ : CS} (h : Fr t0 μ) : Fp t0 (u_X6_isFull_14 U S N s0 μ) := by
  unfold u_X6_isFull_14
  exact fp_z (by assumption)
theorem fr_u_X6_isFull {t0 : CS} {a0 : Nat} {μ : CS} (h : Fr t0 μ) : Fp t0 (u_X6_isFull U S N a0 μ) := by
  unfold u_X6_isFull
  refine fp_i ?_ ?_
  · exact fr_u_X6_isFull_14 (by assumption)
  · exact fr_u_X6_isFull_14 (by assumption)
theorem fr_u_X6_append {t0 : CS} {a0 : Nat} {a1 : Int32} {μ : CS} (h : Fr t0 μ) : Fp t0 (u_X6_append U S N a0 a1 μ) := by
  unfold u_X6_append
  refine fp_b (fr_u_X6_isFull (by assumption)) (fun q1 hq1 => ?_)
  refine fp_i ?_ ?_
  · refine fp_i fp_n ?_
    refine fp_t (fq_wH (by assumption) (by decide) (by decide)) (fun μ6 hμ6 => ?_)
    refine fp_t (fq_s (Fr_I (by assumption))) (fun μ8 hμ8 => ?_)
    exact fp_s (by assumption)
  · exact fp_s (by assumption)
theorem fr_u_X2_press_43 {t0 : CS} {μ : CS} (h : Fr t0 μ) : Fp t0 (u_X2_press_43 U S N μ) := by
  unfold u_X2_press_43
  exact fp_z (by assumption)
theorem fr_u_X2_press {t0 : CS} {a1 : Option Nat} {a2 : Int32} {μ : CS} (h : Fr t0 μ) : Fp t0 (u_X2_press U S N a1 a2 μ) := by
  unfold u_X2_press
  refine fp_v (fun j1 => ?_)
  refine fp_b (fr_u_X6_isFull (by assumption)) (fun q2 hq2 => ?_)
  refine fp_i ?_ ?_
  · refine fp_b (fr_u_X6_append (by assumption)) (fun q5 hq5 => ?_)
    refine fp_i ?_ ?_
    · exact fr_u_X2_press_43 (by assumption)
    · refine fp_b (fr_u_X2_makeReady (by assumption)) (fun q8 hq8 => ?_)
      exact fr_u_X2_press_43 (by assumption)
  · refine fp_t (fq_s (Fr_I (by assumption))) (fun μ11 hμ11 => ?_)
    exact fp_z (by assumption)
theorem fr_u_X11_key {t0 : CS} {a1 : Int32} {a2 : Int32} {μ : CS} (h : Fr t0 μ) : Fp t0 (u_X11_key U S N a1 a2 μ) := by
  unfold u_X11_key
  refine fp_b (fr_u_X2_userAt (by assumption)) (fun q2 hq2 => ?_)
  refine fp_v (fun v_ => ?_)
  refine fp_i ?_ ?_
  · exact fr_u_X11_key_23 (by assumption)
  · refine fp_i ?_ ?_
    · exact fr_u_X11_key_23 (by assumption)
    · refine fp_i ?_ ?_
      · refine fp_b (fr_u_X2_press (by assumption)) (fun q5 hq5 => ?_)
        exact fp_z (by assumption)
      · exact fr_u_X11_key_23 (by assumption)
theorem fr_u_X11_set_20 {t0 : CS} {μ : CS} (h : Fr t0 μ) : Fp t0 (u_X11_set_20 U S N μ) := by
  unfold u_X11_set_20
  exact fp_z (by assumption)
theorem fr_u_X11_set {t0 : CS} {a1 : Int32} {a2 : Int32} {μ : CS} (h : Fr t0 μ) : Fp t0 (u_X11_set U S N a1 a2 μ) := by
  unfold u_X11_set
  refine fp_b (fr_u_X2_userAt (by assumption)) (fun q2 hq2 => ?_)
  refine fp_v (fun v_ => ?_)
  refine fp_i ?_ ?_
  · exact fr_u_X11_set_20 (by assumption)
  · refine fp_b (fr_u_X11_isWord (by assumption)) (fun q4 hq4 => ?_)
    refine fp_i ?_ ?_
    · refine fp_v (fun j1 => ?_)
      refine fp_t (fq_s (Fr_I (by assumption))) (fun μ5 hμ5 => ?_)
      exact fp_z (by assumption)
    · exact fr_u_X11_set_20 (by assumption)
theorem fr_u_X11_deposit_41 {t0 : CS} {μ : CS} (h : Fr t0 μ) : Fp t0 (u_X11_deposit_41 U S N μ) := by
  unfold u_X11_deposit_41
  exact fp_z (by assumption)
theorem fr_u_X8_put {t0 : CS} {a0 : Nat} {a1 : Int32} {a2 : Int32} {μ : CS} (h : Fr t0 μ) : Fp t0 (u_X8_put U S N a0 a1 a2 μ) := by
  unfold u_X8_put
  refine fp_t (fq_wH (by assumption) (by decide) (by decide)) (fun μ2 hμ2 => ?_)
  refine fp_t (fq_qZ (by assumption)) (fun μ3 hμ3 => ?_)
  exact fp_s (by assumption)
theorem fr_u_X10_store_30 {t0 : CS} {μ : CS} (h : Fr t0 μ) : Fp t0 (u_X10_store_30 U S N μ) := by
  unfold u_X10_store_30
  exact fp_s (by assumption)
theorem fr_u_X10_store {t0 : CS} {a0 : Nat} {a1 : Int32} {a2 : Int32} {μ : CS} (h : Fr t0 μ) : Fp t0 (u_X10_store U S N a0 a1 a2 μ) := by
  unfold u_X10_store
  refine fp_v (fun v1 => ?_)
  refine fp_i ?_ ?_
  · refine fp_v (fun v2 => ?_)
    refine fp_v (fun j1 => ?_)
    refine fp_b (fr_u_X8_put (by assumption)) (fun q3 hq3 => ?_)
    exact fr_u_X10_store_30 (by assumption)
  · refine fp_t (fq_wH (by assumption) (by decide) (by decide)) (fun μ6 hμ6 => ?_)
    exact fr_u_X10_store_30 (by assumption)
theorem fr_u_X11_deposit {t0 : CS} {a1 : Int32} {a2 : Int32} {a3 : Int32} {μ : CS} (h : Fr t0 μ) : Fp t0 (u_X11_deposit U S N a1 a2 a3 μ) := by
  unfold u_X11_deposit
  refine fp_b (fr_u_X2_userAt (by assumption)) (fun q2 hq2 => ?_)
  refine fp_v (fun v_ => ?_)
  refine fp_i ?_ ?_
  · exact fr_u_X11_deposit_41 (by assumption)
  · refine fp_b (fr_u_X11_isWord (by assumption)) (fun q4 hq4 => ?_)
    refine fp_i ?_ ?_
    · exact fr_u_X11_deposit_41 (by assumption)
    · refine fp_b (fr_u_X11_isWord (by assumption)) (fun q5 hq5 => ?_)
      refine fp_i ?_ ?_
      · exact fr_u_X11_deposit_41 (by assumption)
      · refine fp_b (fr_u_X2_mayChange (by assumption)) (fun q7 hq7 => ?_)
        refine fp_i ?_ ?_
        · refine fp_v (fun j1 => ?_)
          refine fp_b (fr_u_X10_store (by assumption)) (fun q9 hq9 => ?_)
          exact fp_z (by assumption)
        · exact fr_u_X11_deposit_41 (by assumption)
theorem fr_u_X11_run_12 {t0 : CS} {μ : CS} (h : Fr t0 μ) : Fp t0 (u_X11_run_12 U S N μ) := by
  unfold u_X11_run_12
  exact fp_s (by assumption)
theorem fr_u_X1_isIdle_12 {t0 : CS} {s0 : Int32} {μ : CS} (h : Fr t0 μ) : Fp t0 (u_X1_isIdle_12 U S N s0 μ) := by
  unfold u_X1_isIdle_12
  exact fp_z (by assumption)
theorem fr_u_X1_isIdle {t0 : CS} {μ : CS} (h : Fr t0 μ) : Fp t0 (u_X1_isIdle U S N μ) := by
  unfold u_X1_isIdle
  refine fp_i ?_ ?_
  · exact fr_u_X1_isIdle_12 (by assumption)
  · exact fr_u_X1_isIdle_12 (by assumption)
theorem fr_u_X2_process_27 {t0 : CS} {μ : CS} (h : Fr t0 μ) : Fp t0 (u_X2_process_27 U S N μ) := by
  unfold u_X2_process_27
  refine fp_t (fq_s (Fr_I (by assumption))) (fun μ2 hμ2 => ?_)
  exact fp_s (by assumption)
theorem fr_u_X3_goWrong {t0 : CS} {a1 : Option Nat} {μ : CS} (h : Fr t0 μ) : Fp t0 (u_X3_goWrong U S N a1 μ) := by
  unfold u_X3_goWrong
  refine fp_v (fun j1 => ?_)
  refine fp_t (fq_s (Fr_I (by assumption))) (fun μ2 hμ2 => ?_)
  refine fp_t (fq_s (Fr_I (by assumption))) (fun μ3 hμ3 => ?_)
  exact fp_z (by assumption)
theorem fr_u_X3_extend_19 {t0 : CS} {a1 : Option Nat} {μ : CS} (h : Fr t0 μ) : Fp t0 (u_X3_extend_19 U S N a1 μ) := by
  unfold u_X3_extend_19
  refine fp_b (fr_u_X3_goWrong (by assumption)) (fun q1 hq1 => ?_)
  exact fp_z (by assumption)
theorem fr_u_X3_extend_173 {t0 : CS} {μ : CS} (h : Fr t0 μ) : Fp t0 (u_X3_extend_173 U S N μ) := by
  unfold u_X3_extend_173
  exact fp_z (by assumption)
theorem fr_u_X3_setLong {t0 : CS} {a0 : Option Nat} {a1 : Int32} {μ : CS} (h : Fr t0 μ) : Fp t0 (u_X3_setLong U S N a0 a1 μ) := by
  unfold u_X3_setLong
  refine fp_v (fun j1 => ?_)
  refine fp_t (fq_s (Fr_I (by assumption))) (fun μ1 hμ1 => ?_)
  refine fp_t (fq_s (Fr_I (by assumption))) (fun μ2 hμ2 => ?_)
  exact fp_s (by assumption)
theorem fr_u_X3_reckon_70 {t0 : CS} {μ : CS} (h : Fr t0 μ) : Fp t0 (u_X3_reckon_70 U S N μ) := by
  unfold u_X3_reckon_70
  exact fp_s (by assumption)
theorem fr_u_X3_divide_12 {t0 : CS} {a0 : Option Nat} {μ : CS} (h : Fr t0 μ) : Fp t0 (u_X3_divide_12 U S N a0 μ) := by
  unfold u_X3_divide_12
  refine fp_v (fun j1 => ?_)
  refine fp_t (fq_s (Fr_I (by assumption))) (fun μ1 hμ1 => ?_)
  exact fp_s (by assumption)
theorem fr_u_X3_divide {t0 : CS} {a0 : Option Nat} {a1 : Int32} {μ : CS} (h : Fr t0 μ) : Fp t0 (u_X3_divide U S N a0 a1 μ) := by
  unfold u_X3_divide
  refine fp_i ?_ ?_
  · exact fr_u_X3_divide_12 (by assumption)
  · refine fp_v (fun j1 => ?_)
    refine fp_i ?_ ?_
    · refine fp_i fp_n ?_
      refine fp_t (fq_s (Fr_I (by assumption))) (fun μ4 hμ4 => ?_)
      refine fp_i fp_n ?_
      refine fp_t (fq_s (Fr_I (by assumption))) (fun μ5 hμ5 => ?_)
      refine fp_t (fq_s (Fr_I (by assumption))) (fun μ6 hμ6 => ?_)
      exact fp_s (by assumption)
    · exact fr_u_X3_divide_12 (by assumption)
theorem fr_u_X3_shift_89 {t0 : CS} {k47 : (Option Nat) → Int32 → Int32 → Int32 → Int32 → Int32 → CS → Option (Unit × CS)} {a0 : Option Nat} {a1 : Int32} {a2 : Int32} {a3 : Int32} {a4 : Int32} {a5 : Int32} {μ : CS} (hk47 : ∀ {x0 : (Option Nat)} {x1 : Int32} {x2 : Int32} {x3 : Int32} {x4 : Int32} {x5 : Int32} {y : CS}, Fr t0 y → Fp t0 (k47 x0 x1 x2 x3 x4 x5 y)) (h : Fr t0 μ) : Fp t0 (u_X3_shift_89 U S N k47 a0 a1 a2 a3 a4 a5 μ) := by
  unfold u_X3_shift_89
  exact hk47 (by assumption)
end
