/-! LAYER 1: X7.at, X11.made, X2.userAt, X10.hasStopped, X1.isMoving, X2.mayChange, X8.release, X7.copyTo, X10.clearRegisters, X2.load, X11.mount, X11.isWord, X5.append, X2.makeReady, X11.begin, X10.mayBeHalted, X5.placeOf, X5.remove, X2.endTurn, X2.stop, X11.halt, X6.isFull, X6.append (by program) -/
def f_X7_at_35 (N : Nat) (s0 : Int32) (μ : Mem) : Option (Int32 × Mem) :=
  some (s0, μ)
def f_X7_at_21 (N : Nat) (μ : Mem) : Option (Int32 × Mem) :=
  f_X7_at_35 N ((-1)) μ
def f_X7_at (N : Nat) (a0 : Option Nat) (a1 : Int32) (μ : Mem) : Option (Int32 × Mem) :=
  if a1 < 0 then
    f_X7_at_21 N μ
  else
    if (4096 : Int32) ≤ a1 then
      f_X7_at_21 N μ
    else
      (mfR μ a0 7 0).bind fun v1 =>
      (maI μ 0 v1 a1).bind fun v2 =>
      if ¬ v2 = (((-1)) : Int32) then
        (mfR μ a0 7 0).bind fun v3 =>
        (maI μ 0 v3 a1).bind fun v4 =>
        f_X7_at_35 N (v4 &&& 4095) μ
      else
        f_X7_at_21 N μ
set_option maxRecDepth 100000 in
set_option maxHeartbeats 4000000 in
theorem p_X7_at_35 {x : CX} {l : Launch} {g : CG} {rv : Int32} {μ0 μ9 : Mem} (C : Cx x l g mi_X7_at) (F : Prom x g mi_X7_at μ0 (some (aI rv)) μ9) {N : Nat} {s0 : Int32} {μ : Mem} (h : f_X7_at_35 N s0 μ = some (rv, μ9)) : V x g 2 0 0 μ 35 [] [aI s0] := by
  unfold f_X7_at_35 at h
  exact v_iret C F ⟨rfl, rfl, Nat.le_refl _⟩ dX7_at_35 h
set_option maxRecDepth 100000 in
set_option maxHeartbeats 4000000 in
theorem p_X7_at_21 {x : CX} {l : Launch} {g : CG} {rv : Int32} {μ0 μ9 : Mem} (C : Cx x l g mi_X7_at) (F : Prom x g mi_X7_at μ0 (some (aI rv)) μ9) {N : Nat} {μ : Mem} (h : f_X7_at_21 N μ = some (rv, μ9)) : V x g 2 0 0 μ 21 [] [] := by
  unfold f_X7_at_21 at h
  refine v_iconst (v := -1) C dX7_at_21 rfl ?_
  refine v_goto (tgt := 35) C dX7_at_22 (by decide) ?_
  exact v_sb (p_X7_at_35 C F h) trivial
set_option maxRecDepth 100000 in
set_option maxHeartbeats 4000000 in
theorem p_X7_at {x : CX} {l : Launch} {g : CG} {rv : Int32} {μ0 μ9 : Mem} (C : Cx x l g mi_X7_at) (F : Prom x g mi_X7_at μ0 (some (aI rv)) μ9) {N : Nat} {a0 : Option Nat} {a1 : Int32} {μ : Mem} (h : f_X7_at N a0 a1 μ = some (rv, μ9)) : V x g 2 0 0 μ 0 [(0, aR a0), (1, aI a1)] [] := by
  unfold f_X7_at at h
  refine v_iload_n C dX7_at_0 rfl ?_
  refine v_if_lt (tgt := 21) C dX7_at_1 (by decide) (fun c => ?_) (fun c => ?_)
  · replace h := ifT h c
    exact v_sb (p_X7_at_21 C F h) trivial
  · replace h := ifF h c
    refine v_iload_n C dX7_at_4 rfl ?_
    refine v_sipush (v := 4096) C dX7_at_5 rfl ?_
    refine v_icmp_ge (tgt := 21) C dX7_at_8 (by decide) (fun c => ?_) (fun c => ?_)
    · replace h := ifT h c
      exact v_sb (p_X7_at_21 C F h) trivial
    · replace h := ifF h c
      refine v_aload_n C dX7_at_11 rfl ?_
      obtain ⟨v, e, h⟩ := ob h
      refine v_getR C dX7_at_12 gf_X7_9 e ?_
      refine v_iload_n C dX7_at_15 rfl ?_
      obtain ⟨v, e, h⟩ := ob h
      refine v_iaload C dX7_at_16 e ?_
      refine v_iconst (v := -1) C dX7_at_17 rfl ?_
      refine v_icmp_ne (tgt := 25) C dX7_at_18 (by decide) (fun c => ?_) (fun c => ?_)
      · replace h := ifT h c
        refine v_aload_n C dX7_at_25 rfl ?_
        obtain ⟨v, e, h⟩ := ob h
        refine v_getR C dX7_at_26 gf_X7_9 e ?_
        refine v_iload_n C dX7_at_29 rfl ?_
        obtain ⟨v, e, h⟩ := ob h
        refine v_iaload C dX7_at_30 e ?_
        refine v_sipush (v := 4095) C dX7_at_31 rfl ?_
        refine v_iand C dX7_at_34 ?_
        exact v_sb (p_X7_at_35 C F h) trivial
      · replace h := ifF h c
        exact v_sb (p_X7_at_21 C F h) trivial
set_option maxRecDepth 100000 in
set_option maxHeartbeats 4000000 in
theorem c_X7_at (l : Launch) (g : CG) (N : Nat) (a0 : Option Nat) (a1 : Int32) (μ : Mem) (rv : Int32) (μ9 : Mem) (h : f_X7_at N a0 a1 μ = some (rv, μ9)) : Ct l yX7_at mi_X7_at g [aR a0, aI a1] μ (some (aI rv)) μ9 := ct_of ⟨by decide, rfl, rfl⟩ (Nat.le_of_ble_eq_true rfl) fun x C F => p_X7_at C F h
def f_X11_made (N : Nat) (a0 : Option Nat) (a1 : Int32) (μ : Mem) : Option (Int32 × Mem) :=
  (mfR μ a0 11 2).bind fun v1 =>
  (mfR μ v1 0 2).bind fun v2 =>
  (mck μ v2 7).bind fun b4 =>
  (f_X7_at N (some b4) a1 μ).bind fun q3 =>
  some (q3.1, q3.2)
set_option maxRecDepth 100000 in
set_option maxHeartbeats 4000000 in
theorem p_X11_made {x : CX} {l : Launch} {g : CG} {rv : Int32} {μ0 μ9 : Mem} (C : Cx x l g mi_X11_made) (F : Prom x g mi_X11_made μ0 (some (aI rv)) μ9) {N : Nat} {a0 : Option Nat} {a1 : Int32} {μ : Mem} (h : f_X11_made N a0 a1 μ = some (rv, μ9)) : V x g 2 0 0 μ 0 [(0, aR a0), (1, aI a1)] [] := by
  unfold f_X11_made at h
  refine v_aload_n C dX11_made_0 rfl ?_
  obtain ⟨v, e, h⟩ := ob h
  refine v_getR C dX11_made_1 gf_X11_20 e ?_
  obtain ⟨v, e, h⟩ := ob h
  refine v_getR C dX11_made_4 gf_X11_67 e ?_
  refine v_iload_n C dX11_made_7 rfl ?_
  obtain ⟨b, e0, h⟩ := ob h
  obtain ⟨q, e, h⟩ := ob h
  refine v_callV (As := [_]) C dX11_made_8 cf_X11_71 (rm_X11_made_X7_at) ⟨rfl, rfl⟩ e0 rfl (Nat.le_of_ble_eq_true rfl) (c_X7_at _ _ N _ _ _ q.1 q.2 e) ?_
  exact v_iret C F ⟨rfl, rfl, Nat.le_refl _⟩ dX11_made_11 h
set_option maxRecDepth 100000 in
set_option maxHeartbeats 4000000 in
theorem c_X11_made (l : Launch) (g : CG) (N : Nat) (a0 : Option Nat) (a1 : Int32) (μ : Mem) (rv : Int32) (μ9 : Mem) (h : f_X11_made N a0 a1 μ = some (rv, μ9)) : Ct l yX11_made mi_X11_made g [aR a0, aI a1] μ (some (aI rv)) μ9 := ct_of ⟨by decide, rfl, rfl⟩ (Nat.le_of_ble_eq_true rfl) fun x C F => p_X11_made C F h
def f_X2_userAt_23 (N : Nat) (s0 : Option Nat) (μ : Mem) : Option (Option Nat × Mem) :=
  some (s0, μ)
def f_X2_userAt_13 (N : Nat) (μ : Mem) : Option (Option Nat × Mem) :=
  f_X2_userAt_23 N none μ
def f_X2_userAt (N : Nat) (a0 : Option Nat) (a1 : Int32) (μ : Mem) : Option (Option Nat × Mem) :=
  if a1 < 0 then
    f_X2_userAt_13 N μ
  else
    (mfR μ a0 2 0).bind fun v1 =>
    (mal μ v1).bind fun v2 =>
    if a1 < v2 then
      (mfR μ a0 2 0).bind fun v3 =>
      (maR μ 4 v3 a1).bind fun v4 =>
      f_X2_userAt_23 N v4 μ
    else
      f_X2_userAt_13 N μ
set_option maxRecDepth 100000 in
set_option maxHeartbeats 4000000 in
theorem p_X2_userAt_23 {x : CX} {l : Launch} {g : CG} {rv : Option Nat} {μ0 μ9 : Mem} (C : Cx x l g mi_X2_userAt) (F : Prom x g mi_X2_userAt μ0 (some (aR rv)) μ9) {N : Nat} {s0 : Option Nat} {μ : Mem} (h : f_X2_userAt_23 N s0 μ = some (rv, μ9)) : V x g 2 0 0 μ 23 [] [aR s0] := by
  unfold f_X2_userAt_23 at h
  exact v_aret C F ⟨rfl, rfl, Nat.le_refl _⟩ dX2_userAt_23 h
set_option maxRecDepth 100000 in
set_option maxHeartbeats 4000000 in
theorem p_X2_userAt_13 {x : CX} {l : Launch} {g : CG} {rv : Option Nat} {μ0 μ9 : Mem} (C : Cx x l g mi_X2_userAt) (F : Prom x g mi_X2_userAt μ0 (some (aR rv)) μ9) {N : Nat} {μ : Mem} (h : f_X2_userAt_13 N μ = some (rv, μ9)) : V x g 2 0 0 μ 13 [] [] := by
  unfold f_X2_userAt_13 at h
  refine v_null C dX2_userAt_13 ?_
  refine v_goto (tgt := 23) C dX2_userAt_14 (by decide) ?_
  exact v_sb (p_X2_userAt_23 C F h) trivial
set_option maxRecDepth 100000 in
set_option maxHeartbeats 4000000 in
theorem p_X2_userAt {x : CX} {l : Launch} {g : CG} {rv : Option Nat} {μ0 μ9 : Mem} (C : Cx x l g mi_X2_userAt) (F : Prom x g mi_X2_userAt μ0 (some (aR rv)) μ9) {N : Nat} {a0 : Option Nat} {a1 : Int32} {μ : Mem} (h : f_X2_userAt N a0 a1 μ = some (rv, μ9)) : V x g 2 0 0 μ 0 [(0, aR a0), (1, aI a1)] [] := by
  unfold f_X2_userAt at h
  refine v_iload_n C dX2_userAt_0 rfl ?_
  refine v_if_lt (tgt := 13) C dX2_userAt_1 (by decide) (fun c => ?_) (fun c => ?_)
  · replace h := ifT h c
    exact v_sb (p_X2_userAt_13 C F h) trivial
  · replace h := ifF h c
    refine v_iload_n C dX2_userAt_4 rfl ?_
    refine v_aload_n C dX2_userAt_5 rfl ?_
    obtain ⟨v, e, h⟩ := ob h
    refine v_getR C dX2_userAt_6 gf_X2_50 e ?_
    obtain ⟨v, e, h⟩ := ob h
    refine v_alen C dX2_userAt_9 e ?_
    refine v_icmp_lt (tgt := 17) C dX2_userAt_10 (by decide) (fun c => ?_) (fun c => ?_)
    · replace h := ifT h c
      refine v_aload_n C dX2_userAt_17 rfl ?_
      obtain ⟨v, e, h⟩ := ob h
      refine v_getR C dX2_userAt_18 gf_X2_50 e ?_
      refine v_iload_n C dX2_userAt_21 rfl ?_
      obtain ⟨v, e, h⟩ := ob h
      refine v_aaload4 C dX2_userAt_22 e ?_
      exact v_sb (p_X2_userAt_23 C F h) trivial
    · replace h := ifF h c
      exact v_sb (p_X2_userAt_13 C F h) trivial
set_option maxRecDepth 100000 in
set_option maxHeartbeats 4000000 in
theorem c_X2_userAt (l : Launch) (g : CG) (N : Nat) (a0 : Option Nat) (a1 : Int32) (μ : Mem) (rv : Option Nat) (μ9 : Mem) (h : f_X2_userAt N a0 a1 μ = some (rv, μ9)) : Ct l yX2_userAt mi_X2_userAt g [aR a0, aI a1] μ (some (aR rv)) μ9 := ct_of ⟨by decide, rfl, rfl⟩ (Nat.le_of_ble_eq_true rfl) fun x C F => p_X2_userAt C F h
def f_X10_hasStopped_23 (N : Nat) (s0 : Int32) (μ : Mem) : Option (Int32 × Mem) :=
  retZ s0 μ
def f_X10_hasStopped_18 (N : Nat) (μ : Mem) : Option (Int32 × Mem) :=
  f_X10_hasStopped_23 N 1 μ
def f_X10_hasStopped (N : Nat) (a0 : Option Nat) (μ : Mem) : Option (Int32 × Mem) :=
  (mfI μ a0 10 8).bind fun v1 =>
  if v1 = (6 : Int32) then
    f_X10_hasStopped_18 N μ
  else
    (mfI μ a0 10 8).bind fun v2 =>
    if ¬ v2 = (7 : Int32) then
      f_X10_hasStopped_23 N 0 μ
    else
      f_X10_hasStopped_18 N μ
set_option maxRecDepth 100000 in
set_option maxHeartbeats 4000000 in
theorem p_X10_hasStopped_23 {x : CX} {l : Launch} {g : CG} {rv : Int32} {μ0 μ9 : Mem} (C : Cx x l g mi_X10_hasStopped) (F : Prom x g mi_X10_hasStopped μ0 (some (aI rv)) μ9) {N : Nat} {s0 : Int32} {μ : Mem} (h : f_X10_hasStopped_23 N s0 μ = some (rv, μ9)) : V x g 1 0 0 μ 23 [] [aI s0] := by
  unfold f_X10_hasStopped_23 at h
  exact v_zret C F ⟨rfl, rfl, Nat.le_refl _⟩ dX10_hasStopped_23 h
set_option maxRecDepth 100000 in
set_option maxHeartbeats 4000000 in
theorem p_X10_hasStopped_18 {x : CX} {l : Launch} {g : CG} {rv : Int32} {μ0 μ9 : Mem} (C : Cx x l g mi_X10_hasStopped) (F : Prom x g mi_X10_hasStopped μ0 (some (aI rv)) μ9) {N : Nat} {μ : Mem} (h : f_X10_hasStopped_18 N μ = some (rv, μ9)) : V x g 1 0 0 μ 18 [] [] := by
  unfold f_X10_hasStopped_18 at h
  refine v_iconst (v := 1) C dX10_hasStopped_18 rfl ?_
  refine v_goto (tgt := 23) C dX10_hasStopped_19 (by decide) ?_
  exact v_sb (p_X10_hasStopped_23 C F h) trivial
set_option maxRecDepth 100000 in
set_option maxHeartbeats 4000000 in
theorem p_X10_hasStopped {x : CX} {l : Launch} {g : CG} {rv : Int32} {μ0 μ9 : Mem} (C : Cx x l g mi_X10_hasStopped) (F : Prom x g mi_X10_hasStopped μ0 (some (aI rv)) μ9) {N : Nat} {a0 : Option Nat} {μ : Mem} (h : f_X10_hasStopped N a0 μ = some (rv, μ9)) : V x g 1 0 0 μ 0 [(0, aR a0)] [] := by
  unfold f_X10_hasStopped at h
  refine v_aload_n C dX10_hasStopped_0 rfl ?_
  obtain ⟨v, e, h⟩ := ob h
  refine v_getI C dX10_hasStopped_1 gf_X10_38 e ?_
  refine v_bipush (v := 6) C dX10_hasStopped_4 rfl ?_
  refine v_icmp_eq (tgt := 18) C dX10_hasStopped_6 (by decide) (fun c => ?_) (fun c => ?_)
  · replace h := ifT h c
    exact v_sb (p_X10_hasStopped_18 C F h) trivial
  · replace h := ifF h c
    refine v_aload_n C dX10_hasStopped_9 rfl ?_
    obtain ⟨v, e, h⟩ := ob h
    refine v_getI C dX10_hasStopped_10 gf_X10_38 e ?_
    refine v_bipush (v := 7) C dX10_hasStopped_13 rfl ?_
    refine v_icmp_ne (tgt := 22) C dX10_hasStopped_15 (by decide) (fun c => ?_) (fun c => ?_)
    · replace h := ifT h c
      refine v_iconst (v := 0) C dX10_hasStopped_22 rfl ?_
      exact v_sb (p_X10_hasStopped_23 C F h) trivial
    · replace h := ifF h c
      exact v_sb (p_X10_hasStopped_18 C F h) trivial
set_option maxRecDepth 100000 in
set_option maxHeartbeats 4000000 in
theorem c_X10_hasStopped (l : Launch) (g : CG) (N : Nat) (a0 : Option Nat) (μ : Mem) (rv : Int32) (μ9 : Mem) (h : f_X10_hasStopped N a0 μ = some (rv, μ9)) : Ct l yX10_hasStopped mi_X10_hasStopped g [aR a0] μ (some (aI rv)) μ9 := ct_of ⟨by decide, rfl, rfl⟩ (Nat.le_of_ble_eq_true rfl) fun x C F => p_X10_hasStopped C F h
def f_X1_isMoving_20 (N : Nat) (s0 : Int32) (μ : Mem) : Option (Int32 × Mem) :=
  retZ s0 μ
def f_X1_isMoving_19 (N : Nat) (μ : Mem) : Option (Int32 × Mem) :=
  f_X1_isMoving_20 N 0 μ
def f_X1_isMoving (N : Nat) (a0 : Option Nat) (a1 : Option Nat) (μ : Mem) : Option (Int32 × Mem) :=
  (mfI μ a0 1 0).bind fun v1 =>
  if v1 = 0 then
    f_X1_isMoving_19 N μ
  else
    (mfR μ a0 1 1).bind fun v2 =>
    if ¬ v2 = a1 then
      f_X1_isMoving_19 N μ
    else
      f_X1_isMoving_20 N 1 μ
set_option maxRecDepth 100000 in
set_option maxHeartbeats 4000000 in
theorem p_X1_isMoving_20 {x : CX} {l : Launch} {g : CG} {rv : Int32} {μ0 μ9 : Mem} (C : Cx x l g mi_X1_isMoving) (F : Prom x g mi_X1_isMoving μ0 (some (aI rv)) μ9) {N : Nat} {s0 : Int32} {μ : Mem} (h : f_X1_isMoving_20 N s0 μ = some (rv, μ9)) : V x g 2 0 0 μ 20 [] [aI s0] := by
  unfold f_X1_isMoving_20 at h
  exact v_zret C F ⟨rfl, rfl, Nat.le_refl _⟩ dX1_isMoving_20 h
set_option maxRecDepth 100000 in
set_option maxHeartbeats 4000000 in
theorem p_X1_isMoving_19 {x : CX} {l : Launch} {g : CG} {rv : Int32} {μ0 μ9 : Mem} (C : Cx x l g mi_X1_isMoving) (F : Prom x g mi_X1_isMoving μ0 (some (aI rv)) μ9) {N : Nat} {μ : Mem} (h : f_X1_isMoving_19 N μ = some (rv, μ9)) : V x g 2 0 0 μ 19 [] [] := by
  unfold f_X1_isMoving_19 at h
  refine v_iconst (v := 0) C dX1_isMoving_19 rfl ?_
  exact v_sb (p_X1_isMoving_20 C F h) trivial
set_option maxRecDepth 100000 in
set_option maxHeartbeats 4000000 in
theorem p_X1_isMoving {x : CX} {l : Launch} {g : CG} {rv : Int32} {μ0 μ9 : Mem} (C : Cx x l g mi_X1_isMoving) (F : Prom x g mi_X1_isMoving μ0 (some (aI rv)) μ9) {N : Nat} {a0 : Option Nat} {a1 : Option Nat} {μ : Mem} (h : f_X1_isMoving N a0 a1 μ = some (rv, μ9)) : V x g 2 0 0 μ 0 [(0, aR a0), (1, aR a1)] [] := by
  unfold f_X1_isMoving at h
  refine v_aload_n C dX1_isMoving_0 rfl ?_
  obtain ⟨v, e, h⟩ := ob h
  refine v_getI C dX1_isMoving_1 gf_X1_9 e ?_
  refine v_if_eq (tgt := 19) C dX1_isMoving_4 (by decide) (fun c => ?_) (fun c => ?_)
  · replace h := ifT h c
    exact v_sb (p_X1_isMoving_19 C F h) trivial
  · replace h := ifF h c
    refine v_aload_n C dX1_isMoving_7 rfl ?_
    obtain ⟨v, e, h⟩ := ob h
    refine v_getR C dX1_isMoving_8 gf_X1_15 e ?_
    refine v_aload_n C dX1_isMoving_11 rfl ?_
    refine v_acmp_ne (tgt := 19) C dX1_isMoving_12 (by decide) (fun c => ?_) (fun c => ?_)
    · replace h := ifT h c
      exact v_sb (p_X1_isMoving_19 C F h) trivial
    · replace h := ifF h c
      refine v_iconst (v := 1) C dX1_isMoving_15 rfl ?_
      refine v_goto (tgt := 20) C dX1_isMoving_16 (by decide) ?_
      exact v_sb (p_X1_isMoving_20 C F h) trivial
set_option maxRecDepth 100000 in
set_option maxHeartbeats 4000000 in
theorem c_X1_isMoving (l : Launch) (g : CG) (N : Nat) (a0 : Option Nat) (a1 : Option Nat) (μ : Mem) (rv : Int32) (μ9 : Mem) (h : f_X1_isMoving N a0 a1 μ = some (rv, μ9)) : Ct l yX1_isMoving mi_X1_isMoving g [aR a0, aR a1] μ (some (aI rv)) μ9 := ct_of ⟨by decide, rfl, rfl⟩ (Nat.le_of_ble_eq_true rfl) fun x C F => p_X1_isMoving C F h
def f_X2_mayChange_30 (N : Nat) (s0 : Int32) (μ : Mem) : Option (Int32 × Mem) :=
  retZ s0 μ
def f_X2_mayChange_29 (N : Nat) (μ : Mem) : Option (Int32 × Mem) :=
  f_X2_mayChange_30 N 0 μ
def f_X2_mayChange_14 (N : Nat) (a0 : Option Nat) (a1 : Option Nat) (μ : Mem) : Option (Int32 × Mem) :=
  (mfR μ a0 2 3).bind fun v1 =>
  (mck μ v1 1).bind fun b3 =>
  (f_X1_isMoving N (some b3) a1 μ).bind fun q2 =>
  if ¬ q2.1 = 0 then
    f_X2_mayChange_29 N q2.2
  else
    f_X2_mayChange_30 N 1 q2.2
def f_X2_mayChange (N : Nat) (a0 : Option Nat) (a1 : Option Nat) (μ : Mem) : Option (Int32 × Mem) :=
  (mfI μ a1 10 8).bind fun v1 =>
  if v1 = 0 then
    f_X2_mayChange_14 N a0 a1 μ
  else
    (mck μ a1 10).bind fun b3 =>
    (f_X10_hasStopped N (some b3) μ).bind fun q2 =>
    if q2.1 = 0 then
      f_X2_mayChange_29 N q2.2
    else
      f_X2_mayChange_14 N a0 a1 q2.2
set_option maxRecDepth 100000 in
set_option maxHeartbeats 4000000 in
theorem p_X2_mayChange_30 {x : CX} {l : Launch} {g : CG} {rv : Int32} {μ0 μ9 : Mem} (C : Cx x l g mi_X2_mayChange) (F : Prom x g mi_X2_mayChange μ0 (some (aI rv)) μ9) {N : Nat} {s0 : Int32} {μ : Mem} (h : f_X2_mayChange_30 N s0 μ = some (rv, μ9)) : V x g 2 0 0 μ 30 [] [aI s0] := by
  unfold f_X2_mayChange_30 at h
  exact v_zret C F ⟨rfl, rfl, Nat.le_refl _⟩ dX2_mayChange_30 h
set_option maxRecDepth 100000 in
set_option maxHeartbeats 4000000 in
theorem p_X2_mayChange_29 {x : CX} {l : Launch} {g : CG} {rv : Int32} {μ0 μ9 : Mem} (C : Cx x l g mi_X2_mayChange) (F : Prom x g mi_X2_mayChange μ0 (some (aI rv)) μ9) {N : Nat} {μ : Mem} (h : f_X2_mayChange_29 N μ = some (rv, μ9)) : V x g 2 0 0 μ 29 [] [] := by
  unfold f_X2_mayChange_29 at h
  refine v_iconst (v := 0) C dX2_mayChange_29 rfl ?_
  exact v_sb (p_X2_mayChange_30 C F h) trivial
set_option maxRecDepth 100000 in
set_option maxHeartbeats 4000000 in
theorem p_X2_mayChange_14 {x : CX} {l : Launch} {g : CG} {rv : Int32} {μ0 μ9 : Mem} (C : Cx x l g mi_X2_mayChange) (F : Prom x g mi_X2_mayChange μ0 (some (aI rv)) μ9) {N : Nat} {a0 : Option Nat} {a1 : Option Nat} {μ : Mem} (h : f_X2_mayChange_14 N a0 a1 μ = some (rv, μ9)) : V x g 2 0 0 μ 14 [(0, aR a0), (1, aR a1)] [] := by
  unfold f_X2_mayChange_14 at h
  refine v_aload_n C dX2_mayChange_14 rfl ?_
  obtain ⟨v, e, h⟩ := ob h
  refine v_getR C dX2_mayChange_15 gf_X2_12 e ?_
  refine v_aload_n C dX2_mayChange_18 rfl ?_
  obtain ⟨b, e0, h⟩ := ob h
  obtain ⟨q, e, h⟩ := ob h
  refine v_callV (As := [_]) C dX2_mayChange_19 cf_X2_84 (rm_X2_mayChange_X1_isMoving) ⟨rfl, rfl⟩ e0 rfl (Nat.le_of_ble_eq_true rfl) (c_X1_isMoving _ _ N _ _ _ q.1 q.2 e) ?_
  refine v_if_ne (tgt := 29) C dX2_mayChange_22 (by decide) (fun c => ?_) (fun c => ?_)
  · replace h := ifT h c
    exact v_sb (p_X2_mayChange_29 C F h) trivial
  · replace h := ifF h c
    refine v_iconst (v := 1) C dX2_mayChange_25 rfl ?_
    refine v_goto (tgt := 30) C dX2_mayChange_26 (by decide) ?_
    exact v_sb (p_X2_mayChange_30 C F h) trivial
set_option maxRecDepth 100000 in
set_option maxHeartbeats 4000000 in
theorem p_X2_mayChange {x : CX} {l : Launch} {g : CG} {rv : Int32} {μ0 μ9 : Mem} (C : Cx x l g mi_X2_mayChange) (F : Prom x g mi_X2_mayChange μ0 (some (aI rv)) μ9) {N : Nat} {a0 : Option Nat} {a1 : Option Nat} {μ : Mem} (h : f_X2_mayChange N a0 a1 μ = some (rv, μ9)) : V x g 2 0 0 μ 0 [(0, aR a0), (1, aR a1)] [] := by
  unfold f_X2_mayChange at h
  refine v_aload_n C dX2_mayChange_0 rfl ?_
  obtain ⟨v, e, h⟩ := ob h
  refine v_getI C dX2_mayChange_1 gf_X2_77 e ?_
  refine v_if_eq (tgt := 14) C dX2_mayChange_4 (by decide) (fun c => ?_) (fun c => ?_)
  · replace h := ifT h c
    exact v_sb (p_X2_mayChange_14 C F h) ⟨rfl, rfl, trivial⟩
  · replace h := ifF h c
    refine v_aload_n C dX2_mayChange_7 rfl ?_
    obtain ⟨b, e0, h⟩ := ob h
    obtain ⟨q, e, h⟩ := ob h
    refine v_callV (As := []) C dX2_mayChange_8 cf_X2_80 (rm_X2_mayChange_X10_hasStopped) ⟨rfl, rfl⟩ e0 rfl (Nat.le_of_ble_eq_true rfl) (c_X10_hasStopped _ _ N _ _ q.1 q.2 e) ?_
    refine v_if_eq (tgt := 29) C dX2_mayChange_11 (by decide) (fun c => ?_) (fun c => ?_)
    · replace h := ifT h c
      exact v_sb (p_X2_mayChange_29 C F h) trivial
    · replace h := ifF h c
      exact v_sb (p_X2_mayChange_14 C F h) ⟨rfl, rfl, trivial⟩
set_option maxRecDepth 100000 in
set_option maxHeartbeats 4000000 in
theorem c_X2_mayChange (l : Launch) (g : CG) (N : Nat) (a0 : Option Nat) (a1 : Option Nat) (μ : Mem) (rv : Int32) (μ9 : Mem) (h : f_X2_mayChange N a0 a1 μ = some (rv, μ9)) : Ct l yX2_mayChange mi_X2_mayChange g [aR a0, aR a1] μ (some (aI rv)) μ9 := ct_of ⟨by decide, rfl, rfl⟩ (Nat.le_of_ble_eq_true rfl) fun x C F => p_X2_mayChange C F h
def f_X8_release_15 (N : Nat) (a0 : Option Nat) (μ : Mem) : Option (Unit × Mem) :=
  (mpR μ a0 8 2 none).bind fun μ1 =>
  (mpZ μ1 a0 8 3 0).bind fun μ2 =>
  (mpZ μ2 a0 8 4 0).bind fun μ3 =>
  some ((), μ3)
def f_X8_release (N : Nat) (a0 : Option Nat) (μ : Mem) : Option (Unit × Mem) :=
  (mfR μ a0 8 2).bind fun v1 =>
  if v1 = none then
    f_X8_release_15 N a0 μ
  else
    (mfR μ a0 8 2).bind fun v2 =>
    (mpR μ v2 10 19 none).bind fun μ3 =>
    f_X8_release_15 N a0 μ3
set_option maxRecDepth 100000 in
set_option maxHeartbeats 4000000 in
theorem p_X8_release_15 {x : CX} {l : Launch} {g : CG} {rv : Unit} {μ0 μ9 : Mem} (C : Cx x l g mi_X8_release) (F : Prom x g mi_X8_release μ0 none μ9) {N : Nat} {a0 : Option Nat} {μ : Mem} (h : f_X8_release_15 N a0 μ = some (rv, μ9)) : V x g 1 0 0 μ 15 [(0, aR a0)] [] := by
  unfold f_X8_release_15 at h
  refine v_aload_n C dX8_release_15 rfl ?_
  refine v_null C dX8_release_16 ?_
  obtain ⟨m, e, h⟩ := ob h
  refine v_putR C dX8_release_17 (pf_X8_15 _) rfl e ?_
  refine v_aload_n C dX8_release_20 rfl ?_
  refine v_iconst (v := 0) C dX8_release_21 rfl ?_
  obtain ⟨m, e, h⟩ := ob h
  refine v_putZ C dX8_release_22 (pf_X8_19 _) e ?_
  refine v_aload_n C dX8_release_25 rfl ?_
  refine v_iconst (v := 0) C dX8_release_26 rfl ?_
  obtain ⟨m, e, h⟩ := ob h
  refine v_putZ C dX8_release_27 (pf_X8_23 _) e ?_
  exact v_vret C F ⟨rfl, rfl, Nat.le_refl _⟩ dX8_release_30 h
set_option maxRecDepth 100000 in
set_option maxHeartbeats 4000000 in
theorem p_X8_release {x : CX} {l : Launch} {g : CG} {rv : Unit} {μ0 μ9 : Mem} (C : Cx x l g mi_X8_release) (F : Prom x g mi_X8_release μ0 none μ9) {N : Nat} {a0 : Option Nat} {μ : Mem} (h : f_X8_release N a0 μ = some (rv, μ9)) : V x g 1 0 0 μ 0 [(0, aR a0)] [] := by
  unfold f_X8_release at h
  refine v_aload_n C dX8_release_0 rfl ?_
  obtain ⟨v, e, h⟩ := ob h
  refine v_getR C dX8_release_1 gf_X8_15 e ?_
  refine v_ifnull (tgt := 15) C dX8_release_4 (by decide) (fun c => ?_) (fun c => ?_)
  · replace h := ifT h c
    exact v_sb (p_X8_release_15 C F h) ⟨rfl, trivial⟩
  · replace h := ifF h c
    refine v_aload_n C dX8_release_7 rfl ?_
    obtain ⟨v, e, h⟩ := ob h
    refine v_getR C dX8_release_8 gf_X8_15 e ?_
    refine v_null C dX8_release_11 ?_
    obtain ⟨m, e, h⟩ := ob h
    refine v_putR C dX8_release_12 (pf_X8_30 _) rfl e ?_
    exact v_sb (p_X8_release_15 C F h) ⟨rfl, trivial⟩
set_option maxRecDepth 100000 in
set_option maxHeartbeats 4000000 in
theorem c_X8_release (l : Launch) (g : CG) (N : Nat) (a0 : Option Nat) (μ : Mem) (rv : Unit) (μ9 : Mem) (h : f_X8_release N a0 μ = some (rv, μ9)) : Ct l yX8_release mi_X8_release g [aR a0] μ none μ9 := ct_of ⟨by decide, rfl, rfl⟩ (Nat.le_of_ble_eq_true rfl) fun x C F => p_X8_release C F h
def f_X7_copyTo_48 (N : Nat) (μ : Mem) : Option (Unit × Mem) :=
  some ((), μ)
def f_X7_copyTo_41 (N : Nat) (k2 : (Option Nat) → (Option Nat) → Int32 → Mem → Option (Unit × Mem)) (a0 : Option Nat) (a1 : Option Nat) (a2 : Int32) (s0 : Option Nat) (s1 : Int32) (s2 : Int32) (μ : Mem) : Option (Unit × Mem) :=
  (mbI μ 0 s0 s1 s2).bind fun μ1 =>
  k2 a0 a1 (a2 + 1) μ1
def H_X7_copyTo_2 (N : Nat) (k2 : (Option Nat) → (Option Nat) → Int32 → Mem → Option (Unit × Mem)) (a0 : Option Nat) (a1 : Option Nat) (a2 : Int32) (μ : Mem) : Option (Unit × Mem) :=
  if (4096 : Int32) ≤ a2 then
    f_X7_copyTo_48 N μ
  else
    (mal μ a1).bind fun v1 =>
    if v1 ≤ a2 then
      f_X7_copyTo_48 N μ
    else
      (mfR μ a0 7 0).bind fun v2 =>
      (maI μ 0 v2 a2).bind fun v3 =>
      if ¬ v3 = (((-1)) : Int32) then
        (mfR μ a0 7 0).bind fun v4 =>
        (maI μ 0 v4 a2).bind fun v5 =>
        f_X7_copyTo_41 N k2 a0 a1 a2 a1 a2 (v5 &&& 4095) μ
      else
        f_X7_copyTo_41 N k2 a0 a1 a2 a1 a2 0 μ
def L_X7_copyTo_2 (N : Nat) : Nat → (Option Nat) → (Option Nat) → Int32 → Mem → Option (Unit × Mem)
  | 0 => fun _ _ _ _ => none
  | n + 1 => H_X7_copyTo_2 N (L_X7_copyTo_2 N n)
def f_X7_copyTo (N : Nat) (a0 : Option Nat) (a1 : Option Nat) (μ : Mem) : Option (Unit × Mem) :=
  L_X7_copyTo_2 N N a0 a1 0 μ
set_option maxRecDepth 100000 in
set_option maxHeartbeats 4000000 in
theorem p_X7_copyTo_48 {x : CX} {l : Launch} {g : CG} {rv : Unit} {μ0 μ9 : Mem} (C : Cx x l g mi_X7_copyTo) (F : Prom x g mi_X7_copyTo μ0 none μ9) {N : Nat} {μ : Mem} (h : f_X7_copyTo_48 N μ = some (rv, μ9)) : V x g 3 0 0 μ 48 [] [] := by
  unfold f_X7_copyTo_48 at h
  exact v_vret C F ⟨rfl, rfl, Nat.le_refl _⟩ dX7_copyTo_48 h
set_option maxRecDepth 100000 in
set_option maxHeartbeats 4000000 in
theorem p_X7_copyTo_41 {x : CX} {l : Launch} {g : CG} {rv : Unit} {μ0 μ9 : Mem} (C : Cx x l g mi_X7_copyTo) (F : Prom x g mi_X7_copyTo μ0 none μ9) {N : Nat} {k2 : (Option Nat) → (Option Nat) → Int32 → Mem → Option (Unit × Mem)} (hk2 : ∀ (a0 : Option Nat) (a1 : Option Nat) (a2 : Int32) (μ : Mem), k2 a0 a1 a2 μ = some (rv, μ9) → V x g 3 0 0 μ 2 [(0, aR a0), (1, aR a1), (2, aI a2)] []) {a0 : Option Nat} {a1 : Option Nat} {a2 : Int32} {s0 : Option Nat} {s1 : Int32} {s2 : Int32} {μ : Mem} (h : f_X7_copyTo_41 N k2 a0 a1 a2 s0 s1 s2 μ = some (rv, μ9)) : V x g 3 0 0 μ 41 [(0, aR a0), (1, aR a1), (2, aI a2)] [aI s2, aI s1, aR s0] := by
  unfold f_X7_copyTo_41 at h
  obtain ⟨m, e, h⟩ := ob h
  refine v_iastore C dX7_copyTo_41 e ?_
  refine v_iinc (w := 1) C dX7_copyTo_42 rfl rfl (by decide) ?_
  refine v_goto (tgt := 2) C dX7_copyTo_45 (by decide) ?_
  exact v_sb (hk2 _ _ _ _ h) ⟨rfl, rfl, rfl, trivial⟩
set_option maxRecDepth 100000 in
set_option maxHeartbeats 4000000 in
theorem pH_X7_copyTo_2 {x : CX} {l : Launch} {g : CG} {rv : Unit} {μ0 μ9 : Mem} (C : Cx x l g mi_X7_copyTo) (F : Prom x g mi_X7_copyTo μ0 none μ9) {N : Nat} {k2 : (Option Nat) → (Option Nat) → Int32 → Mem → Option (Unit × Mem)} (hk2 : ∀ (a0 : Option Nat) (a1 : Option Nat) (a2 : Int32) (μ : Mem), k2 a0 a1 a2 μ = some (rv, μ9) → V x g 3 0 0 μ 2 [(0, aR a0), (1, aR a1), (2, aI a2)] []) {a0 : Option Nat} {a1 : Option Nat} {a2 : Int32} {μ : Mem} (h : H_X7_copyTo_2 N k2 a0 a1 a2 μ = some (rv, μ9)) : V x g 3 0 0 μ 2 [(0, aR a0), (1, aR a1), (2, aI a2)] [] := by
  unfold H_X7_copyTo_2 at h
  refine v_iload_n C dX7_copyTo_2 rfl ?_
  refine v_sipush (v := 4096) C dX7_copyTo_3 rfl ?_
  refine v_icmp_ge (tgt := 48) C dX7_copyTo_6 (by decide) (fun c => ?_) (fun c => ?_)
  · replace h := ifT h c
    exact v_sb (p_X7_copyTo_48 C F h) trivial
  · replace h := ifF h c
    refine v_iload_n C dX7_copyTo_9 rfl ?_
    refine v_aload_n C dX7_copyTo_10 rfl ?_
    obtain ⟨v, e, h⟩ := ob h
    refine v_alen C dX7_copyTo_11 e ?_
    refine v_icmp_ge (tgt := 48) C dX7_copyTo_12 (by decide) (fun c => ?_) (fun c => ?_)
    · replace h := ifT h c
      exact v_sb (p_X7_copyTo_48 C F h) trivial
    · replace h := ifF h c
      refine v_aload_n C dX7_copyTo_15 rfl ?_
      refine v_iload_n C dX7_copyTo_16 rfl ?_
      refine v_aload_n C dX7_copyTo_17 rfl ?_
      obtain ⟨v, e, h⟩ := ob h
      refine v_getR C dX7_copyTo_18 gf_X7_9 e ?_
      refine v_iload_n C dX7_copyTo_21 rfl ?_
      obtain ⟨v, e, h⟩ := ob h
      refine v_iaload C dX7_copyTo_22 e ?_
      refine v_iconst (v := -1) C dX7_copyTo_23 rfl ?_
      refine v_icmp_ne (tgt := 31) C dX7_copyTo_24 (by decide) (fun c => ?_) (fun c => ?_)
      · replace h := ifT h c
        refine v_aload_n C dX7_copyTo_31 rfl ?_
        obtain ⟨v, e, h⟩ := ob h
        refine v_getR C dX7_copyTo_32 gf_X7_9 e ?_
        refine v_iload_n C dX7_copyTo_35 rfl ?_
        obtain ⟨v, e, h⟩ := ob h
        refine v_iaload C dX7_copyTo_36 e ?_
        refine v_sipush (v := 4095) C dX7_copyTo_37 rfl ?_
        refine v_iand C dX7_copyTo_40 ?_
        exact v_sb (p_X7_copyTo_41 C F hk2 h) ⟨rfl, rfl, rfl, trivial⟩
      · replace h := ifF h c
        refine v_iconst (v := 0) C dX7_copyTo_27 rfl ?_
        refine v_goto (tgt := 41) C dX7_copyTo_28 (by decide) ?_
        exact v_sb (p_X7_copyTo_41 C F hk2 h) ⟨rfl, rfl, rfl, trivial⟩
set_option maxRecDepth 100000 in
set_option maxHeartbeats 4000000 in
theorem pL_X7_copyTo_2 {x : CX} {l : Launch} {g : CG} {rv : Unit} {μ0 μ9 : Mem} (C : Cx x l g mi_X7_copyTo) (F : Prom x g mi_X7_copyTo μ0 none μ9) (N : Nat) (n : Nat) : ∀ (a0 : Option Nat) (a1 : Option Nat) (a2 : Int32) (μ : Mem), L_X7_copyTo_2 N n a0 a1 a2 μ = some (rv, μ9) → V x g 3 0 0 μ 2 [(0, aR a0), (1, aR a1), (2, aI a2)] [] := by
  induction n with
  | zero => intro a0 a1 a2 μ h; cases h
  | succ n ih => intro a0 a1 a2 μ h; exact pH_X7_copyTo_2 C F ih h
set_option maxRecDepth 100000 in
set_option maxHeartbeats 4000000 in
theorem p_X7_copyTo {x : CX} {l : Launch} {g : CG} {rv : Unit} {μ0 μ9 : Mem} (C : Cx x l g mi_X7_copyTo) (F : Prom x g mi_X7_copyTo μ0 none μ9) {N : Nat} {a0 : Option Nat} {a1 : Option Nat} {μ : Mem} (h : f_X7_copyTo N a0 a1 μ = some (rv, μ9)) : V x g 3 0 0 μ 0 [(0, aR a0), (1, aR a1)] [] := by
  unfold f_X7_copyTo at h
  refine v_iconst (v := 0) C dX7_copyTo_0 rfl ?_
  refine v_istore_n C dX7_copyTo_1 (by decide) ?_
  exact v_sb (pL_X7_copyTo_2 C F N N _ _ _ _ h) ⟨rfl, rfl, rfl, trivial⟩
set_option maxRecDepth 100000 in
set_option maxHeartbeats 4000000 in
theorem c_X7_copyTo (l : Launch) (g : CG) (N : Nat) (a0 : Option Nat) (a1 : Option Nat) (μ : Mem) (rv : Unit) (μ9 : Mem) (h : f_X7_copyTo N a0 a1 μ = some (rv, μ9)) : Ct l yX7_copyTo mi_X7_copyTo g [aR a0, aR a1] μ none μ9 := ct_of ⟨by decide, rfl, rfl⟩ (Nat.le_of_ble_eq_true rfl) fun x C F => p_X7_copyTo C F h
def f_X10_clearRegisters (N : Nat) (a0 : Option Nat) (μ : Mem) : Option (Unit × Mem) :=
  (mpI μ a0 10 9 128).bind fun μ1 =>
  (mpI μ1 a0 10 10 0).bind fun μ2 =>
  (mpI μ2 a0 10 11 0).bind fun μ3 =>
  (mpI μ3 a0 10 12 0).bind fun μ4 =>
  some ((), μ4)
set_option maxRecDepth 100000 in
set_option maxHeartbeats 4000000 in
theorem p_X10_clearRegisters {x : CX} {l : Launch} {g : CG} {rv : Unit} {μ0 μ9 : Mem} (C : Cx x l g mi_X10_clearRegisters) (F : Prom x g mi_X10_clearRegisters μ0 none μ9) {N : Nat} {a0 : Option Nat} {μ : Mem} (h : f_X10_clearRegisters N a0 μ = some (rv, μ9)) : V x g 1 0 0 μ 0 [(0, aR a0)] [] := by
  unfold f_X10_clearRegisters at h
  refine v_aload_n C dX10_clearRegisters_0 rfl ?_
  refine v_sipush (v := 128) C dX10_clearRegisters_1 rfl ?_
  obtain ⟨m, e, h⟩ := ob h
  refine v_putI C dX10_clearRegisters_4 (pf_X10_41 _) e ?_
  refine v_aload_n C dX10_clearRegisters_7 rfl ?_
  refine v_iconst (v := 0) C dX10_clearRegisters_8 rfl ?_
  obtain ⟨m, e, h⟩ := ob h
  refine v_putI C dX10_clearRegisters_9 (pf_X10_44 _) e ?_
  refine v_aload_n C dX10_clearRegisters_12 rfl ?_
  refine v_iconst (v := 0) C dX10_clearRegisters_13 rfl ?_
  obtain ⟨m, e, h⟩ := ob h
  refine v_putI C dX10_clearRegisters_14 (pf_X10_47 _) e ?_
  refine v_aload_n C dX10_clearRegisters_17 rfl ?_
  refine v_iconst (v := 0) C dX10_clearRegisters_18 rfl ?_
  obtain ⟨m, e, h⟩ := ob h
  refine v_putI C dX10_clearRegisters_19 (pf_X10_50 _) e ?_
  exact v_vret C F ⟨rfl, rfl, Nat.le_refl _⟩ dX10_clearRegisters_22 h
set_option maxRecDepth 100000 in
set_option maxHeartbeats 4000000 in
theorem c_X10_clearRegisters (l : Launch) (g : CG) (N : Nat) (a0 : Option Nat) (μ : Mem) (rv : Unit) (μ9 : Mem) (h : f_X10_clearRegisters N a0 μ = some (rv, μ9)) : Ct l yX10_clearRegisters mi_X10_clearRegisters g [aR a0] μ none μ9 := ct_of ⟨by decide, rfl, rfl⟩ (Nat.le_of_ble_eq_true rfl) fun x C F => p_X10_clearRegisters C F h
def f_X2_load_14 (N : Nat) (a1 : Option Nat) (a2 : Option Nat) (μ : Mem) : Option (Unit × Mem) :=
  (mfR μ a1 10 1).bind fun v1 =>
  (mck μ a2 7).bind fun b3 =>
  (f_X7_copyTo N (some b3) v1 μ).bind fun q2 =>
  (mck q2.2 a1 10).bind fun b5 =>
  (f_X10_clearRegisters N (some b5) q2.2).bind fun q4 =>
  (mpI q4.2 a1 10 8 6).bind fun μ6 =>
  some ((), μ6)
def f_X2_load (N : Nat) (a0 : Option Nat) (a1 : Option Nat) (a2 : Option Nat) (μ : Mem) : Option (Unit × Mem) :=
  (mfR μ a1 10 19).bind fun v1 =>
  if v1 = none then
    f_X2_load_14 N a1 a2 μ
  else
    (mfR μ a1 10 19).bind fun v2 =>
    (mck μ v2 8).bind fun b4 =>
    (f_X8_release N (some b4) μ).bind fun q3 =>
    f_X2_load_14 N a1 a2 q3.2
set_option maxRecDepth 100000 in
set_option maxHeartbeats 4000000 in
theorem p_X2_load_14 {x : CX} {l : Launch} {g : CG} {rv : Unit} {μ0 μ9 : Mem} (C : Cx x l g mi_X2_load) (F : Prom x g mi_X2_load μ0 none μ9) {N : Nat} {a1 : Option Nat} {a2 : Option Nat} {μ : Mem} (h : f_X2_load_14 N a1 a2 μ = some (rv, μ9)) : V x g 3 0 0 μ 14 [(1, aR a1), (2, aR a2)] [] := by
  unfold f_X2_load_14 at h
  refine v_aload_n C dX2_load_14 rfl ?_
  refine v_aload_n C dX2_load_15 rfl ?_
  obtain ⟨v, e, h⟩ := ob h
  refine v_getR C dX2_load_16 gf_X2_95 e ?_
  obtain ⟨b, e0, h⟩ := ob h
  obtain ⟨q, e, h⟩ := ob h
  refine v_callV (As := [_]) C dX2_load_19 cf_X2_99 (rm_X2_load_X7_copyTo) ⟨rfl, rfl⟩ e0 rfl (Nat.le_of_ble_eq_true rfl) (c_X7_copyTo _ _ N _ _ _ q.1 q.2 e) ?_
  refine v_aload_n C dX2_load_22 rfl ?_
  obtain ⟨b, e0, h⟩ := ob h
  obtain ⟨q, e, h⟩ := ob h
  refine v_callV (As := []) C dX2_load_23 cf_X2_105 (rm_X2_load_X10_clearRegisters) ⟨rfl, rfl⟩ e0 rfl (Nat.le_of_ble_eq_true rfl) (c_X10_clearRegisters _ _ N _ _ q.1 q.2 e) ?_
  refine v_aload_n C dX2_load_26 rfl ?_
  refine v_bipush (v := 6) C dX2_load_27 rfl ?_
  obtain ⟨m, e, h⟩ := ob h
  refine v_putI C dX2_load_29 (pf_X2_77 _) e ?_
  exact v_vret C F ⟨rfl, rfl, Nat.le_refl _⟩ dX2_load_32 h
set_option maxRecDepth 100000 in
set_option maxHeartbeats 4000000 in
theorem p_X2_load {x : CX} {l : Launch} {g : CG} {rv : Unit} {μ0 μ9 : Mem} (C : Cx x l g mi_X2_load) (F : Prom x g mi_X2_load μ0 none μ9) {N : Nat} {a0 : Option Nat} {a1 : Option Nat} {a2 : Option Nat} {μ : Mem} (h : f_X2_load N a0 a1 a2 μ = some (rv, μ9)) : V x g 3 0 0 μ 0 [(0, aR a0), (1, aR a1), (2, aR a2)] [] := by
  unfold f_X2_load at h
  refine v_aload_n C dX2_load_0 rfl ?_
  obtain ⟨v, e, h⟩ := ob h
  refine v_getR C dX2_load_1 gf_X2_88 e ?_
  refine v_ifnull (tgt := 14) C dX2_load_4 (by decide) (fun c => ?_) (fun c => ?_)
  · replace h := ifT h c
    exact v_sb (p_X2_load_14 C F h) ⟨rfl, rfl, trivial⟩
  · replace h := ifF h c
    refine v_aload_n C dX2_load_7 rfl ?_
    obtain ⟨v, e, h⟩ := ob h
    refine v_getR C dX2_load_8 gf_X2_88 e ?_
    obtain ⟨b, e0, h⟩ := ob h
    obtain ⟨q, e, h⟩ := ob h
    refine v_callV (As := []) C dX2_load_11 cf_X2_92 (rm_X2_load_X8_release) ⟨rfl, rfl⟩ e0 rfl (Nat.le_of_ble_eq_true rfl) (c_X8_release _ _ N _ _ q.1 q.2 e) ?_
    exact v_sb (p_X2_load_14 C F h) ⟨rfl, rfl, trivial⟩
set_option maxRecDepth 100000 in
set_option maxHeartbeats 4000000 in
theorem c_X2_load (l : Launch) (g : CG) (N : Nat) (a0 : Option Nat) (a1 : Option Nat) (a2 : Option Nat) (μ : Mem) (rv : Unit) (μ9 : Mem) (h : f_X2_load N a0 a1 a2 μ = some (rv, μ9)) : Ct l yX2_load mi_X2_load g [aR a0, aR a1, aR a2] μ none μ9 := ct_of ⟨by decide, rfl, rfl⟩ (Nat.le_of_ble_eq_true rfl) fun x C F => p_X2_load C F h
def f_X11_mount_24 (N : Nat) (μ : Mem) : Option (Int32 × Mem) :=
  retZ 0 μ
def f_X11_mount (N : Nat) (a0 : Option Nat) (a1 : Int32) (μ : Mem) : Option (Int32 × Mem) :=
  (mfR μ a0 11 3).bind fun v1 =>
  (mck μ v1 2).bind fun b3 =>
  (f_X2_userAt N (some b3) a1 μ).bind fun q2 =>
  if q2.1 = none then
    f_X11_mount_24 N q2.2
  else
    (mfR q2.2 a0 11 3).bind fun v4 =>
    (mck q2.2 v4 2).bind fun b6 =>
    (f_X2_mayChange N (some b6) q2.1 q2.2).bind fun q5 =>
    if ¬ q5.1 = 0 then
      (mfR q5.2 a0 11 3).bind fun v7 =>
      (mfR q5.2 a0 11 2).bind fun v8 =>
      (mfR q5.2 v8 0 2).bind fun v9 =>
      (mck q5.2 v7 2).bind fun b11 =>
      (f_X2_load N (some b11) q2.1 v9 q5.2).bind fun q10 =>
      retZ 1 q10.2
    else
      f_X11_mount_24 N q5.2
set_option maxRecDepth 100000 in
set_option maxHeartbeats 4000000 in
theorem p_X11_mount_24 {x : CX} {l : Launch} {g : CG} {rv : Int32} {μ0 μ9 : Mem} (C : Cx x l g mi_X11_mount) (F : Prom x g mi_X11_mount μ0 (some (aI rv)) μ9) {N : Nat} {μ : Mem} (h : f_X11_mount_24 N μ = some (rv, μ9)) : V x g 3 0 0 μ 24 [] [] := by
  unfold f_X11_mount_24 at h
  refine v_iconst (v := 0) C dX11_mount_24 rfl ?_
  exact v_zret C F ⟨rfl, rfl, Nat.le_refl _⟩ dX11_mount_25 h
set_option maxRecDepth 100000 in
set_option maxHeartbeats 4000000 in
theorem p_X11_mount {x : CX} {l : Launch} {g : CG} {rv : Int32} {μ0 μ9 : Mem} (C : Cx x l g mi_X11_mount) (F : Prom x g mi_X11_mount μ0 (some (aI rv)) μ9) {N : Nat} {a0 : Option Nat} {a1 : Int32} {μ : Mem} (h : f_X11_mount N a0 a1 μ = some (rv, μ9)) : V x g 3 0 0 μ 0 [(0, aR a0), (1, aI a1)] [] := by
  unfold f_X11_mount at h
  refine v_aload_n C dX11_mount_0 rfl ?_
  obtain ⟨v, e, h⟩ := ob h
  refine v_getR C dX11_mount_1 gf_X11_33 e ?_
  refine v_iload_n C dX11_mount_4 rfl ?_
  obtain ⟨b, e0, h⟩ := ob h
  obtain ⟨q, e, h⟩ := ob h
  refine v_callV (As := [_]) C dX11_mount_5 cf_X11_77 (rm_X11_mount_X2_userAt) ⟨rfl, rfl⟩ e0 rfl (Nat.le_of_ble_eq_true rfl) (c_X2_userAt _ _ N _ _ _ q.1 q.2 e) ?_
  refine v_astore_n C dX11_mount_8 (by decide) ?_
  refine v_aload_n C dX11_mount_9 rfl ?_
  refine v_ifnull (tgt := 24) C dX11_mount_10 (by decide) (fun c => ?_) (fun c => ?_)
  · replace h := ifT h c
    exact v_sb (p_X11_mount_24 C F h) trivial
  · replace h := ifF h c
    refine v_aload_n C dX11_mount_13 rfl ?_
    obtain ⟨v, e, h⟩ := ob h
    refine v_getR C dX11_mount_14 gf_X11_33 e ?_
    refine v_aload_n C dX11_mount_17 rfl ?_
    obtain ⟨b, e0, h⟩ := ob h
    obtain ⟨q, e, h⟩ := ob h
    refine v_callV (As := [_]) C dX11_mount_18 cf_X11_81 (rm_X11_mount_X2_mayChange) ⟨rfl, rfl⟩ e0 rfl (Nat.le_of_ble_eq_true rfl) (c_X2_mayChange _ _ N _ _ _ q.1 q.2 e) ?_
    refine v_if_ne (tgt := 26) C dX11_mount_21 (by decide) (fun c => ?_) (fun c => ?_)
    · replace h := ifT h c
      refine v_aload_n C dX11_mount_26 rfl ?_
      obtain ⟨v, e, h⟩ := ob h
      refine v_getR C dX11_mount_27 gf_X11_33 e ?_
      refine v_aload_n C dX11_mount_30 rfl ?_
      refine v_aload_n C dX11_mount_31 rfl ?_
      obtain ⟨v, e, h⟩ := ob h
      refine v_getR C dX11_mount_32 gf_X11_20 e ?_
      obtain ⟨v, e, h⟩ := ob h
      refine v_getR C dX11_mount_35 gf_X11_67 e ?_
      obtain ⟨b, e0, h⟩ := ob h
      obtain ⟨q, e, h⟩ := ob h
      refine v_callV (As := [_, _]) C dX11_mount_38 cf_X11_85 (rm_X11_mount_X2_load) ⟨rfl, rfl⟩ e0 rfl (Nat.le_of_ble_eq_true rfl) (c_X2_load _ _ N _ _ _ _ q.1 q.2 e) ?_
      refine v_iconst (v := 1) C dX11_mount_41 rfl ?_
      exact v_zret C F ⟨rfl, rfl, Nat.le_refl _⟩ dX11_mount_42 h
    · replace h := ifF h c
      exact v_sb (p_X11_mount_24 C F h) trivial
set_option maxRecDepth 100000 in
set_option maxHeartbeats 4000000 in
theorem c_X11_mount (l : Launch) (g : CG) (N : Nat) (a0 : Option Nat) (a1 : Int32) (μ : Mem) (rv : Int32) (μ9 : Mem) (h : f_X11_mount N a0 a1 μ = some (rv, μ9)) : Ct l yX11_mount mi_X11_mount g [aR a0, aI a1] μ (some (aI rv)) μ9 := ct_of ⟨by decide, rfl, rfl⟩ (Nat.le_of_ble_eq_true rfl) fun x C F => p_X11_mount C F h
def f_X11_isWord_16 (N : Nat) (s0 : Int32) (μ : Mem) : Option (Int32 × Mem) :=
  retZ s0 μ
def f_X11_isWord_15 (N : Nat) (μ : Mem) : Option (Int32 × Mem) :=
  f_X11_isWord_16 N 0 μ
def f_X11_isWord (N : Nat) (a0 : Int32) (μ : Mem) : Option (Int32 × Mem) :=
  if a0 < 0 then
    f_X11_isWord_15 N μ
  else
    if (4096 : Int32) ≤ a0 then
      f_X11_isWord_15 N μ
    else
      f_X11_isWord_16 N 1 μ
set_option maxRecDepth 100000 in
set_option maxHeartbeats 4000000 in
theorem p_X11_isWord_16 {x : CX} {l : Launch} {g : CG} {rv : Int32} {μ0 μ9 : Mem} (C : Cx x l g mi_X11_isWord) (F : Prom x g mi_X11_isWord μ0 (some (aI rv)) μ9) {N : Nat} {s0 : Int32} {μ : Mem} (h : f_X11_isWord_16 N s0 μ = some (rv, μ9)) : V x g 1 0 0 μ 16 [] [aI s0] := by
  unfold f_X11_isWord_16 at h
  exact v_zret C F ⟨rfl, rfl, Nat.le_refl _⟩ dX11_isWord_16 h
set_option maxRecDepth 100000 in
set_option maxHeartbeats 4000000 in
theorem p_X11_isWord_15 {x : CX} {l : Launch} {g : CG} {rv : Int32} {μ0 μ9 : Mem} (C : Cx x l g mi_X11_isWord) (F : Prom x g mi_X11_isWord μ0 (some (aI rv)) μ9) {N : Nat} {μ : Mem} (h : f_X11_isWord_15 N μ = some (rv, μ9)) : V x g 1 0 0 μ 15 [] [] := by
  unfold f_X11_isWord_15 at h
  refine v_iconst (v := 0) C dX11_isWord_15 rfl ?_
  exact v_sb (p_X11_isWord_16 C F h) trivial
set_option maxRecDepth 100000 in
set_option maxHeartbeats 4000000 in
theorem p_X11_isWord {x : CX} {l : Launch} {g : CG} {rv : Int32} {μ0 μ9 : Mem} (C : Cx x l g mi_X11_isWord) (F : Prom x g mi_X11_isWord μ0 (some (aI rv)) μ9) {N : Nat} {a0 : Int32} {μ : Mem} (h : f_X11_isWord N a0 μ = some (rv, μ9)) : V x g 1 0 0 μ 0 [(0, aI a0)] [] := by
  unfold f_X11_isWord at h
  refine v_iload_n C dX11_isWord_0 rfl ?_
  refine v_if_lt (tgt := 15) C dX11_isWord_1 (by decide) (fun c => ?_) (fun c => ?_)
  · replace h := ifT h c
    exact v_sb (p_X11_isWord_15 C F h) trivial
  · replace h := ifF h c
    refine v_iload_n C dX11_isWord_4 rfl ?_
    refine v_sipush (v := 4096) C dX11_isWord_5 rfl ?_
    refine v_icmp_ge (tgt := 15) C dX11_isWord_8 (by decide) (fun c => ?_) (fun c => ?_)
    · replace h := ifT h c
      exact v_sb (p_X11_isWord_15 C F h) trivial
    · replace h := ifF h c
      refine v_iconst (v := 1) C dX11_isWord_11 rfl ?_
      refine v_goto (tgt := 16) C dX11_isWord_12 (by decide) ?_
      exact v_sb (p_X11_isWord_16 C F h) trivial
set_option maxRecDepth 100000 in
set_option maxHeartbeats 4000000 in
theorem c_X11_isWord (l : Launch) (g : CG) (N : Nat) (a0 : Int32) (μ : Mem) (rv : Int32) (μ9 : Mem) (h : f_X11_isWord N a0 μ = some (rv, μ9)) : Ct l yX11_isWord mi_X11_isWord g [aI a0] μ (some (aI rv)) μ9 := ct_of ⟨by decide, rfl, rfl⟩ (Nat.le_of_ble_eq_true rfl) fun x C F => p_X11_isWord C F h
def f_X5_append_32 (N : Nat) (μ : Mem) : Option (Unit × Mem) :=
  some ((), μ)
def f_X5_append (N : Nat) (a0 : Option Nat) (a1 : Option Nat) (μ : Mem) : Option (Unit × Mem) :=
  (mfI μ a0 5 1).bind fun v1 =>
  (mfR μ a0 5 0).bind fun v2 =>
  (mal μ v2).bind fun v3 =>
  if v3 ≤ v1 then
    f_X5_append_32 N μ
  else
    (mfR μ a0 5 0).bind fun v4 =>
    (mfI μ a0 5 1).bind fun v5 =>
    (mbR μ 4 10 v4 v5 a1).bind fun μ6 =>
    (mfI μ6 a0 5 1).bind fun v7 =>
    (mpI μ6 a0 5 1 (v7 + 1)).bind fun μ8 =>
    f_X5_append_32 N μ8
set_option maxRecDepth 100000 in
set_option maxHeartbeats 4000000 in
theorem p_X5_append_32 {x : CX} {l : Launch} {g : CG} {rv : Unit} {μ0 μ9 : Mem} (C : Cx x l g mi_X5_append) (F : Prom x g mi_X5_append μ0 none μ9) {N : Nat} {μ : Mem} (h : f_X5_append_32 N μ = some (rv, μ9)) : V x g 2 0 0 μ 32 [] [] := by
  unfold f_X5_append_32 at h
  exact v_vret C F ⟨rfl, rfl, Nat.le_refl _⟩ dX5_append_32 h
set_option maxRecDepth 100000 in
set_option maxHeartbeats 4000000 in
theorem p_X5_append {x : CX} {l : Launch} {g : CG} {rv : Unit} {μ0 μ9 : Mem} (C : Cx x l g mi_X5_append) (F : Prom x g mi_X5_append μ0 none μ9) {N : Nat} {a0 : Option Nat} {a1 : Option Nat} {μ : Mem} (h : f_X5_append N a0 a1 μ = some (rv, μ9)) : V x g 2 0 0 μ 0 [(0, aR a0), (1, aR a1)] [] := by
  unfold f_X5_append at h
  refine v_aload_n C dX5_append_0 rfl ?_
  obtain ⟨v, e, h⟩ := ob h
  refine v_getI C dX5_append_1 gf_X5_9 e ?_
  refine v_aload_n C dX5_append_4 rfl ?_
  obtain ⟨v, e, h⟩ := ob h
  refine v_getR C dX5_append_5 gf_X5_23 e ?_
  obtain ⟨v, e, h⟩ := ob h
  refine v_alen C dX5_append_8 e ?_
  refine v_icmp_ge (tgt := 32) C dX5_append_9 (by decide) (fun c => ?_) (fun c => ?_)
  · replace h := ifT h c
    exact v_sb (p_X5_append_32 C F h) trivial
  · replace h := ifF h c
    refine v_aload_n C dX5_append_12 rfl ?_
    obtain ⟨v, e, h⟩ := ob h
    refine v_getR C dX5_append_13 gf_X5_23 e ?_
    refine v_aload_n C dX5_append_16 rfl ?_
    obtain ⟨v, e, h⟩ := ob h
    refine v_getI C dX5_append_17 gf_X5_9 e ?_
    refine v_aload_n C dX5_append_20 rfl ?_
    obtain ⟨m, e, h⟩ := ob h
    refine v_aastV C ⟨rfl, rfl⟩ dX5_append_21 e ?_
    refine v_aload_n C dX5_append_22 rfl ?_
    refine v_dup C dX5_append_23 rfl ?_
    obtain ⟨v, e, h⟩ := ob h
    refine v_getI C dX5_append_24 gf_X5_9 e ?_
    refine v_iconst (v := 1) C dX5_append_27 rfl ?_
    refine v_iadd C dX5_append_28 ?_
    obtain ⟨m, e, h⟩ := ob h
    refine v_putI C dX5_append_29 (pf_X5_9 _) e ?_
    exact v_sb (p_X5_append_32 C F h) trivial
set_option maxRecDepth 100000 in
set_option maxHeartbeats 4000000 in
theorem c_X5_append (l : Launch) (g : CG) (N : Nat) (a0 : Option Nat) (a1 : Option Nat) (μ : Mem) (rv : Unit) (μ9 : Mem) (h : f_X5_append N a0 a1 μ = some (rv, μ9)) : Ct l yX5_append mi_X5_append g [aR a0, aR a1] μ none μ9 := ct_of ⟨by decide, rfl, rfl⟩ (Nat.le_of_ble_eq_true rfl) fun x C F => p_X5_append C F h
def f_X2_makeReady (N : Nat) (a0 : Option Nat) (a1 : Option Nat) (μ : Mem) : Option (Unit × Mem) :=
  (mpI μ a1 10 8 1).bind fun μ1 =>
  (mfR μ1 a0 2 2).bind fun v2 =>
  (mck μ1 v2 5).bind fun b4 =>
  (f_X5_append N (some b4) a1 μ1).bind fun q3 =>
  some ((), q3.2)
set_option maxRecDepth 100000 in
set_option maxHeartbeats 4000000 in
theorem p_X2_makeReady {x : CX} {l : Launch} {g : CG} {rv : Unit} {μ0 μ9 : Mem} (C : Cx x l g mi_X2_makeReady) (F : Prom x g mi_X2_makeReady μ0 none μ9) {N : Nat} {a0 : Option Nat} {a1 : Option Nat} {μ : Mem} (h : f_X2_makeReady N a0 a1 μ = some (rv, μ9)) : V x g 2 0 0 μ 0 [(0, aR a0), (1, aR a1)] [] := by
  unfold f_X2_makeReady at h
  refine v_aload_n C dX2_makeReady_0 rfl ?_
  refine v_iconst (v := 1) C dX2_makeReady_1 rfl ?_
  obtain ⟨m, e, h⟩ := ob h
  refine v_putI C dX2_makeReady_2 (pf_X2_77 _) e ?_
  refine v_aload_n C dX2_makeReady_5 rfl ?_
  obtain ⟨v, e, h⟩ := ob h
  refine v_getR C dX2_makeReady_6 gf_X2_67 e ?_
  refine v_aload_n C dX2_makeReady_9 rfl ?_
  obtain ⟨b, e0, h⟩ := ob h
  obtain ⟨q, e, h⟩ := ob h
  refine v_callV (As := [_]) C dX2_makeReady_10 cf_X2_108 (rm_X2_makeReady_X5_append) ⟨rfl, rfl⟩ e0 rfl (Nat.le_of_ble_eq_true rfl) (c_X5_append _ _ N _ _ _ q.1 q.2 e) ?_
  exact v_vret C F ⟨rfl, rfl, Nat.le_refl _⟩ dX2_makeReady_13 h
set_option maxRecDepth 100000 in
set_option maxHeartbeats 4000000 in
theorem c_X2_makeReady (l : Launch) (g : CG) (N : Nat) (a0 : Option Nat) (a1 : Option Nat) (μ : Mem) (rv : Unit) (μ9 : Mem) (h : f_X2_makeReady N a0 a1 μ = some (rv, μ9)) : Ct l yX2_makeReady mi_X2_makeReady g [aR a0, aR a1] μ none μ9 := ct_of ⟨by decide, rfl, rfl⟩ (Nat.le_of_ble_eq_true rfl) fun x C F => p_X2_makeReady C F h
def f_X11_begin_27 (N : Nat) (μ : Mem) : Option (Int32 × Mem) :=
  retZ 0 μ
def f_X11_begin (N : Nat) (a0 : Option Nat) (a1 : Int32) (a2 : Int32) (μ : Mem) : Option (Int32 × Mem) :=
  (mfR μ a0 11 3).bind fun v1 =>
  (mck μ v1 2).bind fun b3 =>
  (f_X2_userAt N (some b3) a1 μ).bind fun q2 =>
  if q2.1 = none then
    f_X11_begin_27 N q2.2
  else
    (f_X11_isWord N a2 q2.2).bind fun q4 =>
    if q4.1 = 0 then
      f_X11_begin_27 N q4.2
    else
      (mck q4.2 q2.1 10).bind fun b6 =>
      (f_X10_hasStopped N (some b6) q4.2).bind fun q5 =>
      if ¬ q5.1 = 0 then
        (mpI q5.2 q2.1 10 9 a2).bind fun μ7 =>
        (mfR μ7 a0 11 3).bind fun v8 =>
        (mck μ7 v8 2).bind fun b10 =>
        (f_X2_makeReady N (some b10) q2.1 μ7).bind fun q9 =>
        retZ 1 q9.2
      else
        f_X11_begin_27 N q5.2
set_option maxRecDepth 100000 in
set_option maxHeartbeats 4000000 in
theorem p_X11_begin_27 {x : CX} {l : Launch} {g : CG} {rv : Int32} {μ0 μ9 : Mem} (C : Cx x l g mi_X11_begin) (F : Prom x g mi_X11_begin μ0 (some (aI rv)) μ9) {N : Nat} {μ : Mem} (h : f_X11_begin_27 N μ = some (rv, μ9)) : V x g 4 0 0 μ 27 [] [] := by
  unfold f_X11_begin_27 at h
  refine v_iconst (v := 0) C dX11_begin_27 rfl ?_
  exact v_zret C F ⟨rfl, rfl, Nat.le_refl _⟩ dX11_begin_28 h
set_option maxRecDepth 100000 in
set_option maxHeartbeats 4000000 in
theorem p_X11_begin {x : CX} {l : Launch} {g : CG} {rv : Int32} {μ0 μ9 : Mem} (C : Cx x l g mi_X11_begin) (F : Prom x g mi_X11_begin μ0 (some (aI rv)) μ9) {N : Nat} {a0 : Option Nat} {a1 : Int32} {a2 : Int32} {μ : Mem} (h : f_X11_begin N a0 a1 a2 μ = some (rv, μ9)) : V x g 4 0 0 μ 0 [(0, aR a0), (1, aI a1), (2, aI a2)] [] := by
  unfold f_X11_begin at h
  refine v_aload_n C dX11_begin_0 rfl ?_
  obtain ⟨v, e, h⟩ := ob h
  refine v_getR C dX11_begin_1 gf_X11_33 e ?_
  refine v_iload_n C dX11_begin_4 rfl ?_
  obtain ⟨b, e0, h⟩ := ob h
  obtain ⟨q, e, h⟩ := ob h
  refine v_callV (As := [_]) C dX11_begin_5 cf_X11_77 (rm_X11_begin_X2_userAt) ⟨rfl, rfl⟩ e0 rfl (Nat.le_of_ble_eq_true rfl) (c_X2_userAt _ _ N _ _ _ q.1 q.2 e) ?_
  refine v_astore_n C dX11_begin_8 (by decide) ?_
  refine v_aload_n C dX11_begin_9 rfl ?_
  refine v_ifnull (tgt := 27) C dX11_begin_10 (by decide) (fun c => ?_) (fun c => ?_)
  · replace h := ifT h c
    exact v_sb (p_X11_begin_27 C F h) trivial
  · replace h := ifF h c
    refine v_iload_n C dX11_begin_13 rfl ?_
    obtain ⟨q, e, h⟩ := ob h
    refine v_callS (As := [_]) C dX11_begin_14 cf_X11_89 (rm_X11_begin_X11_isWord) ⟨rfl, rfl⟩ rfl (Nat.le_of_ble_eq_true rfl) (c_X11_isWord _ _ N _ _ q.1 q.2 e) ?_
    refine v_if_eq (tgt := 27) C dX11_begin_17 (by decide) (fun c => ?_) (fun c => ?_)
    · replace h := ifT h c
      exact v_sb (p_X11_begin_27 C F h) trivial
    · replace h := ifF h c
      refine v_aload_n C dX11_begin_20 rfl ?_
      obtain ⟨b, e0, h⟩ := ob h
      obtain ⟨q, e, h⟩ := ob h
      refine v_callV (As := []) C dX11_begin_21 cf_X11_93 (rm_X11_begin_X10_hasStopped) ⟨rfl, rfl⟩ e0 rfl (Nat.le_of_ble_eq_true rfl) (c_X10_hasStopped _ _ N _ _ q.1 q.2 e) ?_
      refine v_if_ne (tgt := 29) C dX11_begin_24 (by decide) (fun c => ?_) (fun c => ?_)
      · replace h := ifT h c
        refine v_aload_n C dX11_begin_29 rfl ?_
        refine v_iload_n C dX11_begin_30 rfl ?_
        obtain ⟨m, e, h⟩ := ob h
        refine v_putI C dX11_begin_31 (pf_X11_99 _) e ?_
        refine v_aload_n C dX11_begin_34 rfl ?_
        obtain ⟨v, e, h⟩ := ob h
        refine v_getR C dX11_begin_35 gf_X11_33 e ?_
        refine v_aload_n C dX11_begin_38 rfl ?_
        obtain ⟨b, e0, h⟩ := ob h
        obtain ⟨q, e, h⟩ := ob h
        refine v_callV (As := [_]) C dX11_begin_39 cf_X11_102 (rm_X11_begin_X2_makeReady) ⟨rfl, rfl⟩ e0 rfl (Nat.le_of_ble_eq_true rfl) (c_X2_makeReady _ _ N _ _ _ q.1 q.2 e) ?_
        refine v_iconst (v := 1) C dX11_begin_42 rfl ?_
        exact v_zret C F ⟨rfl, rfl, Nat.le_refl _⟩ dX11_begin_43 h
      · replace h := ifF h c
        exact v_sb (p_X11_begin_27 C F h) trivial
set_option maxRecDepth 100000 in
set_option maxHeartbeats 4000000 in
theorem c_X11_begin (l : Launch) (g : CG) (N : Nat) (a0 : Option Nat) (a1 : Int32) (a2 : Int32) (μ : Mem) (rv : Int32) (μ9 : Mem) (h : f_X11_begin N a0 a1 a2 μ = some (rv, μ9)) : Ct l yX11_begin mi_X11_begin g [aR a0, aI a1, aI a2] μ (some (aI rv)) μ9 := ct_of ⟨by decide, rfl, rfl⟩ (Nat.le_of_ble_eq_true rfl) fun x C F => p_X11_begin C F h
def f_X10_mayBeHalted_37 (N : Nat) (s0 : Int32) (μ : Mem) : Option (Int32 × Mem) :=
  retZ s0 μ
def f_X10_mayBeHalted_32 (N : Nat) (μ : Mem) : Option (Int32 × Mem) :=
  f_X10_mayBeHalted_37 N 1 μ
def f_X10_mayBeHalted (N : Nat) (a0 : Option Nat) (μ : Mem) : Option (Int32 × Mem) :=
  (mfI μ a0 10 8).bind fun v1 =>
  if v1 = (1 : Int32) then
    f_X10_mayBeHalted_32 N μ
  else
    (mfI μ a0 10 8).bind fun v2 =>
    if v2 = (4 : Int32) then
      f_X10_mayBeHalted_32 N μ
    else
      (mfI μ a0 10 8).bind fun v3 =>
      if v3 = (2 : Int32) then
        f_X10_mayBeHalted_32 N μ
      else
        (mfI μ a0 10 8).bind fun v4 =>
        if ¬ v4 = (3 : Int32) then
          f_X10_mayBeHalted_37 N 0 μ
        else
          f_X10_mayBeHalted_32 N μ
set_option maxRecDepth 100000 in
set_option maxHeartbeats 4000000 in
theorem p_X10_mayBeHalted_37 {x : CX} {l : Launch} {g : CG} {rv : Int32} {μ0 μ9 : Mem} (C : Cx x l g mi_X10_mayBeHalted) (F : Prom x g mi_X10_mayBeHalted μ0 (some (aI rv)) μ9) {N : Nat} {s0 : Int32} {μ : Mem} (h : f_X10_mayBeHalted_37 N s0 μ = some (rv, μ9)) : V x g 1 0 0 μ 37 [] [aI s0] := by
  unfold f_X10_mayBeHalted_37 at h
  exact v_zret C F ⟨rfl, rfl, Nat.le_refl _⟩ dX10_mayBeHalted_37 h
set_option maxRecDepth 100000 in
set_option maxHeartbeats 4000000 in
theorem p_X10_mayBeHalted_32 {x : CX} {l : Launch} {g : CG} {rv : Int32} {μ0 μ9 : Mem} (C : Cx x l g mi_X10_mayBeHalted) (F : Prom x g mi_X10_mayBeHalted μ0 (some (aI rv)) μ9) {N : Nat} {μ : Mem} (h : f_X10_mayBeHalted_32 N μ = some (rv, μ9)) : V x g 1 0 0 μ 32 [] [] := by
  unfold f_X10_mayBeHalted_32 at h
  refine v_iconst (v := 1) C dX10_mayBeHalted_32 rfl ?_
  refine v_goto (tgt := 37) C dX10_mayBeHalted_33 (by decide) ?_
  exact v_sb (p_X10_mayBeHalted_37 C F h) trivial
set_option maxRecDepth 100000 in
set_option maxHeartbeats 4000000 in
theorem p_X10_mayBeHalted {x : CX} {l : Launch} {g : CG} {rv : Int32} {μ0 μ9 : Mem} (C : Cx x l g mi_X10_mayBeHalted) (F : Prom x g mi_X10_mayBeHalted μ0 (some (aI rv)) μ9) {N : Nat} {a0 : Option Nat} {μ : Mem} (h : f_X10_mayBeHalted N a0 μ = some (rv, μ9)) : V x g 1 0 0 μ 0 [(0, aR a0)] [] := by
  unfold f_X10_mayBeHalted at h
  refine v_aload_n C dX10_mayBeHalted_0 rfl ?_
  obtain ⟨v, e, h⟩ := ob h
  refine v_getI C dX10_mayBeHalted_1 gf_X10_38 e ?_
  refine v_iconst (v := 1) C dX10_mayBeHalted_4 rfl ?_
  refine v_icmp_eq (tgt := 32) C dX10_mayBeHalted_5 (by decide) (fun c => ?_) (fun c => ?_)
  · replace h := ifT h c
    exact v_sb (p_X10_mayBeHalted_32 C F h) trivial
  · replace h := ifF h c
    refine v_aload_n C dX10_mayBeHalted_8 rfl ?_
    obtain ⟨v, e, h⟩ := ob h
    refine v_getI C dX10_mayBeHalted_9 gf_X10_38 e ?_
    refine v_iconst (v := 4) C dX10_mayBeHalted_12 rfl ?_
    refine v_icmp_eq (tgt := 32) C dX10_mayBeHalted_13 (by decide) (fun c => ?_) (fun c => ?_)
    · replace h := ifT h c
      exact v_sb (p_X10_mayBeHalted_32 C F h) trivial
    · replace h := ifF h c
      refine v_aload_n C dX10_mayBeHalted_16 rfl ?_
      obtain ⟨v, e, h⟩ := ob h
      refine v_getI C dX10_mayBeHalted_17 gf_X10_38 e ?_
      refine v_iconst (v := 2) C dX10_mayBeHalted_20 rfl ?_
      refine v_icmp_eq (tgt := 32) C dX10_mayBeHalted_21 (by decide) (fun c => ?_) (fun c => ?_)
      · replace h := ifT h c
        exact v_sb (p_X10_mayBeHalted_32 C F h) trivial
      · replace h := ifF h c
        refine v_aload_n C dX10_mayBeHalted_24 rfl ?_
        obtain ⟨v, e, h⟩ := ob h
        refine v_getI C dX10_mayBeHalted_25 gf_X10_38 e ?_
        refine v_iconst (v := 3) C dX10_mayBeHalted_28 rfl ?_
        refine v_icmp_ne (tgt := 36) C dX10_mayBeHalted_29 (by decide) (fun c => ?_) (fun c => ?_)
        · replace h := ifT h c
          refine v_iconst (v := 0) C dX10_mayBeHalted_36 rfl ?_
          exact v_sb (p_X10_mayBeHalted_37 C F h) trivial
        · replace h := ifF h c
          exact v_sb (p_X10_mayBeHalted_32 C F h) trivial
set_option maxRecDepth 100000 in
set_option maxHeartbeats 4000000 in
theorem c_X10_mayBeHalted (l : Launch) (g : CG) (N : Nat) (a0 : Option Nat) (μ : Mem) (rv : Int32) (μ9 : Mem) (h : f_X10_mayBeHalted N a0 μ = some (rv, μ9)) : Ct l yX10_mayBeHalted mi_X10_mayBeHalted g [aR a0] μ (some (aI rv)) μ9 := ct_of ⟨by decide, rfl, rfl⟩ (Nat.le_of_ble_eq_true rfl) fun x C F => p_X10_mayBeHalted C F h
def H_X5_placeOf_2 (N : Nat) (k2 : (Option Nat) → (Option Nat) → Int32 → Mem → Option (Int32 × Mem)) (a0 : Option Nat) (a1 : Option Nat) (a2 : Int32) (μ : Mem) : Option (Int32 × Mem) :=
  (mfI μ a0 5 1).bind fun v1 =>
  if v1 ≤ a2 then
    some ((-1), μ)
  else
    (mfR μ a0 5 0).bind fun v2 =>
    (maR μ 4 v2 a2).bind fun v3 =>
    if ¬ v3 = a1 then
      k2 a0 a1 (a2 + 1) μ
    else
      some (a2, μ)
def L_X5_placeOf_2 (N : Nat) : Nat → (Option Nat) → (Option Nat) → Int32 → Mem → Option (Int32 × Mem)
  | 0 => fun _ _ _ _ => none
  | n + 1 => H_X5_placeOf_2 N (L_X5_placeOf_2 N n)
def f_X5_placeOf (N : Nat) (a0 : Option Nat) (a1 : Option Nat) (μ : Mem) : Option (Int32 × Mem) :=
  L_X5_placeOf_2 N N a0 a1 0 μ
set_option maxRecDepth 100000 in
set_option maxHeartbeats 4000000 in
theorem pH_X5_placeOf_2 {x : CX} {l : Launch} {g : CG} {rv : Int32} {μ0 μ9 : Mem} (C : Cx x l g mi_X5_placeOf) (F : Prom x g mi_X5_placeOf μ0 (some (aI rv)) μ9) {N : Nat} {k2 : (Option Nat) → (Option Nat) → Int32 → Mem → Option (Int32 × Mem)} (hk2 : ∀ (a0 : Option Nat) (a1 : Option Nat) (a2 : Int32) (μ : Mem), k2 a0 a1 a2 μ = some (rv, μ9) → V x g 3 0 0 μ 2 [(0, aR a0), (1, aR a1), (2, aI a2)] []) {a0 : Option Nat} {a1 : Option Nat} {a2 : Int32} {μ : Mem} (h : H_X5_placeOf_2 N k2 a0 a1 a2 μ = some (rv, μ9)) : V x g 3 0 0 μ 2 [(0, aR a0), (1, aR a1), (2, aI a2)] [] := by
  unfold H_X5_placeOf_2 at h
  refine v_iload_n C dX5_placeOf_2 rfl ?_
  refine v_aload_n C dX5_placeOf_3 rfl ?_
  obtain ⟨v, e, h⟩ := ob h
  refine v_getI C dX5_placeOf_4 gf_X5_9 e ?_
  refine v_icmp_ge (tgt := 28) C dX5_placeOf_7 (by decide) (fun c => ?_) (fun c => ?_)
  · replace h := ifT h c
    refine v_iconst (v := -1) C dX5_placeOf_28 rfl ?_
    exact v_iret C F ⟨rfl, rfl, Nat.le_refl _⟩ dX5_placeOf_29 h
  · replace h := ifF h c
    refine v_aload_n C dX5_placeOf_10 rfl ?_
    obtain ⟨v, e, h⟩ := ob h
    refine v_getR C dX5_placeOf_11 gf_X5_23 e ?_
    refine v_iload_n C dX5_placeOf_14 rfl ?_
    obtain ⟨v, e, h⟩ := ob h
    refine v_aaload4 C dX5_placeOf_15 e ?_
    refine v_aload_n C dX5_placeOf_16 rfl ?_
    refine v_acmp_ne (tgt := 22) C dX5_placeOf_17 (by decide) (fun c => ?_) (fun c => ?_)
    · replace h := ifT h c
      refine v_iinc (w := 1) C dX5_placeOf_22 rfl rfl (by decide) ?_
      refine v_goto (tgt := 2) C dX5_placeOf_25 (by decide) ?_
      exact v_sb (hk2 _ _ _ _ h) ⟨rfl, rfl, rfl, trivial⟩
    · replace h := ifF h c
      refine v_iload_n C dX5_placeOf_20 rfl ?_
      exact v_iret C F ⟨rfl, rfl, Nat.le_refl _⟩ dX5_placeOf_21 h
set_option maxRecDepth 100000 in
set_option maxHeartbeats 4000000 in
theorem pL_X5_placeOf_2 {x : CX} {l : Launch} {g : CG} {rv : Int32} {μ0 μ9 : Mem} (C : Cx x l g mi_X5_placeOf) (F : Prom x g mi_X5_placeOf μ0 (some (aI rv)) μ9) (N : Nat) (n : Nat) : ∀ (a0 : Option Nat) (a1 : Option Nat) (a2 : Int32) (μ : Mem), L_X5_placeOf_2 N n a0 a1 a2 μ = some (rv, μ9) → V x g 3 0 0 μ 2 [(0, aR a0), (1, aR a1), (2, aI a2)] [] := by
  induction n with
  | zero => intro a0 a1 a2 μ h; cases h
  | succ n ih => intro a0 a1 a2 μ h; exact pH_X5_placeOf_2 C F ih h
set_option maxRecDepth 100000 in
set_option maxHeartbeats 4000000 in
theorem p_X5_placeOf {x : CX} {l : Launch} {g : CG} {rv : Int32} {μ0 μ9 : Mem} (C : Cx x l g mi_X5_placeOf) (F : Prom x g mi_X5_placeOf μ0 (some (aI rv)) μ9) {N : Nat} {a0 : Option Nat} {a1 : Option Nat} {μ : Mem} (h : f_X5_placeOf N a0 a1 μ = some (rv, μ9)) : V x g 3 0 0 μ 0 [(0, aR a0), (1, aR a1)] [] := by
  unfold f_X5_placeOf at h
  refine v_iconst (v := 0) C dX5_placeOf_0 rfl ?_
  refine v_istore_n C dX5_placeOf_1 (by decide) ?_
  exact v_sb (pL_X5_placeOf_2 C F N N _ _ _ _ h) ⟨rfl, rfl, rfl, trivial⟩
set_option maxRecDepth 100000 in
set_option maxHeartbeats 4000000 in
theorem c_X5_placeOf (l : Launch) (g : CG) (N : Nat) (a0 : Option Nat) (a1 : Option Nat) (μ : Mem) (rv : Int32) (μ9 : Mem) (h : f_X5_placeOf N a0 a1 μ = some (rv, μ9)) : Ct l yX5_placeOf mi_X5_placeOf g [aR a0, aR a1] μ (some (aI rv)) μ9 := ct_of ⟨by decide, rfl, rfl⟩ (Nat.le_of_ble_eq_true rfl) fun x C F => p_X5_placeOf C F h
def H_X5_remove_14 (N : Nat) (k14 : (Option Nat) → Int32 → Mem → Option (Unit × Mem)) (a0 : Option Nat) (a3 : Int32) (μ : Mem) : Option (Unit × Mem) :=
  (mfI μ a0 5 1).bind fun v1 =>
  if v1 ≤ (a3 + 1) then
    (mfI μ a0 5 1).bind fun v2 =>
    (mpI μ a0 5 1 (v2 - 1)).bind fun μ3 =>
    (mfR μ3 a0 5 0).bind fun v4 =>
    (mfI μ3 a0 5 1).bind fun v5 =>
    (mbR μ3 4 10 v4 v5 none).bind fun μ6 =>
    some ((), μ6)
  else
    (mfR μ a0 5 0).bind fun v7 =>
    (mfR μ a0 5 0).bind fun v8 =>
    (maR μ 4 v8 (a3 + 1)).bind fun v9 =>
    (mbR μ 4 10 v7 a3 v9).bind fun μ10 =>
    k14 a0 (a3 + 1) μ10
def L_X5_remove_14 (N : Nat) : Nat → (Option Nat) → Int32 → Mem → Option (Unit × Mem)
  | 0 => fun _ _ _ => none
  | n + 1 => H_X5_remove_14 N (L_X5_remove_14 N n)
def f_X5_remove (N : Nat) (a0 : Option Nat) (a1 : Option Nat) (μ : Mem) : Option (Unit × Mem) :=
  (mck μ a0 5).bind fun b2 =>
  (f_X5_placeOf N (some b2) a1 μ).bind fun q1 =>
  if ¬ q1.1 = (((-1)) : Int32) then
    L_X5_remove_14 N N a0 q1.1 q1.2
  else
    some ((), q1.2)
set_option maxRecDepth 100000 in
set_option maxHeartbeats 4000000 in
theorem pH_X5_remove_14 {x : CX} {l : Launch} {g : CG} {rv : Unit} {μ0 μ9 : Mem} (C : Cx x l g mi_X5_remove) (F : Prom x g mi_X5_remove μ0 none μ9) {N : Nat} {k14 : (Option Nat) → Int32 → Mem → Option (Unit × Mem)} (hk14 : ∀ (a0 : Option Nat) (a3 : Int32) (μ : Mem), k14 a0 a3 μ = some (rv, μ9) → V x g 4 0 0 μ 14 [(0, aR a0), (3, aI a3)] []) {a0 : Option Nat} {a3 : Int32} {μ : Mem} (h : H_X5_remove_14 N k14 a0 a3 μ = some (rv, μ9)) : V x g 4 0 0 μ 14 [(0, aR a0), (3, aI a3)] [] := by
  unfold H_X5_remove_14 at h
  refine v_iload_n C dX5_remove_14 rfl ?_
  refine v_iconst (v := 1) C dX5_remove_15 rfl ?_
  refine v_iadd C dX5_remove_16 ?_
  refine v_aload_n C dX5_remove_17 rfl ?_
  obtain ⟨v, e, h⟩ := ob h
  refine v_getI C dX5_remove_18 gf_X5_9 e ?_
  refine v_icmp_ge (tgt := 44) C dX5_remove_21 (by decide) (fun c => ?_) (fun c => ?_)
  · replace h := ifT h c
    refine v_aload_n C dX5_remove_44 rfl ?_
    refine v_dup C dX5_remove_45 rfl ?_
    obtain ⟨v, e, h⟩ := ob h
    refine v_getI C dX5_remove_46 gf_X5_9 e ?_
    refine v_iconst (v := 1) C dX5_remove_49 rfl ?_
    refine v_isub C dX5_remove_50 ?_
    obtain ⟨m, e, h⟩ := ob h
    refine v_putI C dX5_remove_51 (pf_X5_9 _) e ?_
    refine v_aload_n C dX5_remove_54 rfl ?_
    obtain ⟨v, e, h⟩ := ob h
    refine v_getR C dX5_remove_55 gf_X5_23 e ?_
    refine v_aload_n C dX5_remove_58 rfl ?_
    obtain ⟨v, e, h⟩ := ob h
    refine v_getI C dX5_remove_59 gf_X5_9 e ?_
    refine v_null C dX5_remove_62 ?_
    obtain ⟨m, e, h⟩ := ob h
    refine v_aastV C ⟨rfl, rfl⟩ dX5_remove_63 e ?_
    exact v_vret C F ⟨rfl, rfl, Nat.le_refl _⟩ dX5_remove_64 h
  · replace h := ifF h c
    refine v_aload_n C dX5_remove_24 rfl ?_
    obtain ⟨v, e, h⟩ := ob h
    refine v_getR C dX5_remove_25 gf_X5_23 e ?_
    refine v_iload_n C dX5_remove_28 rfl ?_
    refine v_aload_n C dX5_remove_29 rfl ?_
    obtain ⟨v, e, h⟩ := ob h
    refine v_getR C dX5_remove_30 gf_X5_23 e ?_
    refine v_iload_n C dX5_remove_33 rfl ?_
    refine v_iconst (v := 1) C dX5_remove_34 rfl ?_
    refine v_iadd C dX5_remove_35 ?_
    obtain ⟨v, e, h⟩ := ob h
    refine v_aaload4 C dX5_remove_36 e ?_
    obtain ⟨m, e, h⟩ := ob h
    refine v_aastV C ⟨rfl, rfl⟩ dX5_remove_37 e ?_
    refine v_iinc (w := 1) C dX5_remove_38 rfl rfl (by decide) ?_
    refine v_goto (tgt := 14) C dX5_remove_41 (by decide) ?_
    exact v_sb (hk14 _ _ _ h) ⟨rfl, rfl, trivial⟩
set_option maxRecDepth 100000 in
set_option maxHeartbeats 4000000 in
theorem pL_X5_remove_14 {x : CX} {l : Launch} {g : CG} {rv : Unit} {μ0 μ9 : Mem} (C : Cx x l g mi_X5_remove) (F : Prom x g mi_X5_remove μ0 none μ9) (N : Nat) (n : Nat) : ∀ (a0 : Option Nat) (a3 : Int32) (μ : Mem), L_X5_remove_14 N n a0 a3 μ = some (rv, μ9) → V x g 4 0 0 μ 14 [(0, aR a0), (3, aI a3)] [] := by
  induction n with
  | zero => intro a0 a3 μ h; cases h
  | succ n ih => intro a0 a3 μ h; exact pH_X5_remove_14 C F ih h
set_option maxRecDepth 100000 in
set_option maxHeartbeats 4000000 in
theorem p_X5_remove {x : CX} {l : Launch} {g : CG} {rv : Unit} {μ0 μ9 : Mem} (C : Cx x l g mi_X5_remove) (F : Prom x g mi_X5_remove μ0 none μ9) {N : Nat} {a0 : Option Nat} {a1 : Option Nat} {μ : Mem} (h : f_X5_remove N a0 a1 μ = some (rv, μ9)) : V x g 4 0 0 μ 0 [(0, aR a0), (1, aR a1)] [] := by
  unfold f_X5_remove at h
  refine v_aload_n C dX5_remove_0 rfl ?_
  refine v_aload_n C dX5_remove_1 rfl ?_
  obtain ⟨b, e0, h⟩ := ob h
  obtain ⟨q, e, h⟩ := ob h
  refine v_callV (As := [_]) C dX5_remove_2 cf_X5_27 (rm_X5_remove_X5_placeOf) ⟨rfl, rfl⟩ e0 rfl (Nat.le_of_ble_eq_true rfl) (c_X5_placeOf _ _ N _ _ _ q.1 q.2 e) ?_
  refine v_istore_n C dX5_remove_5 (by decide) ?_
  refine v_iload_n C dX5_remove_6 rfl ?_
  refine v_iconst (v := -1) C dX5_remove_7 rfl ?_
  refine v_icmp_ne (tgt := 12) C dX5_remove_8 (by decide) (fun c => ?_) (fun c => ?_)
  · replace h := ifT h c
    refine v_iload_n C dX5_remove_12 rfl ?_
    refine v_istore_n C dX5_remove_13 (by decide) ?_
    exact v_sb (pL_X5_remove_14 C F N N _ _ _ h) ⟨rfl, rfl, trivial⟩
  · replace h := ifF h c
    exact v_vret C F ⟨rfl, rfl, Nat.le_refl _⟩ dX5_remove_11 h
set_option maxRecDepth 100000 in
set_option maxHeartbeats 4000000 in
theorem c_X5_remove (l : Launch) (g : CG) (N : Nat) (a0 : Option Nat) (a1 : Option Nat) (μ : Mem) (rv : Unit) (μ9 : Mem) (h : f_X5_remove N a0 a1 μ = some (rv, μ9)) : Ct l yX5_remove mi_X5_remove g [aR a0, aR a1] μ none μ9 := ct_of ⟨by decide, rfl, rfl⟩ (Nat.le_of_ble_eq_true rfl) fun x C F => p_X5_remove C F h
def f_X2_endTurn_25 (N : Nat) (μ : Mem) : Option (Unit × Mem) :=
  some ((), μ)
def f_X2_endTurn (N : Nat) (a0 : Option Nat) (a1 : Option Nat) (μ : Mem) : Option (Unit × Mem) :=
  (mpR μ a0 2 8 none).bind fun μ1 =>
  (mpI μ1 a0 2 9 0).bind fun μ2 =>
  (mfR μ2 a1 10 19).bind fun v3 =>
  if v3 = none then
    f_X2_endTurn_25 N μ2
  else
    (mfR μ2 a1 10 19).bind fun v4 =>
    (mpZ μ2 v4 8 4 1).bind fun μ5 =>
    f_X2_endTurn_25 N μ5
set_option maxRecDepth 100000 in
set_option maxHeartbeats 4000000 in
theorem p_X2_endTurn_25 {x : CX} {l : Launch} {g : CG} {rv : Unit} {μ0 μ9 : Mem} (C : Cx x l g mi_X2_endTurn) (F : Prom x g mi_X2_endTurn μ0 none μ9) {N : Nat} {μ : Mem} (h : f_X2_endTurn_25 N μ = some (rv, μ9)) : V x g 2 0 0 μ 25 [] [] := by
  unfold f_X2_endTurn_25 at h
  exact v_vret C F ⟨rfl, rfl, Nat.le_refl _⟩ dX2_endTurn_25 h
set_option maxRecDepth 100000 in
set_option maxHeartbeats 4000000 in
theorem p_X2_endTurn {x : CX} {l : Launch} {g : CG} {rv : Unit} {μ0 μ9 : Mem} (C : Cx x l g mi_X2_endTurn) (F : Prom x g mi_X2_endTurn μ0 none μ9) {N : Nat} {a0 : Option Nat} {a1 : Option Nat} {μ : Mem} (h : f_X2_endTurn N a0 a1 μ = some (rv, μ9)) : V x g 2 0 0 μ 0 [(0, aR a0), (1, aR a1)] [] := by
  unfold f_X2_endTurn at h
  refine v_aload_n C dX2_endTurn_0 rfl ?_
  refine v_null C dX2_endTurn_1 ?_
  obtain ⟨m, e, h⟩ := ob h
  refine v_putR C dX2_endTurn_2 (pf_X2_29 _) rfl e ?_
  refine v_aload_n C dX2_endTurn_5 rfl ?_
  refine v_iconst (v := 0) C dX2_endTurn_6 rfl ?_
  obtain ⟨m, e, h⟩ := ob h
  refine v_putI C dX2_endTurn_7 (pf_X2_33 _) e ?_
  refine v_aload_n C dX2_endTurn_10 rfl ?_
  obtain ⟨v, e, h⟩ := ob h
  refine v_getR C dX2_endTurn_11 gf_X2_88 e ?_
  refine v_ifnull (tgt := 25) C dX2_endTurn_14 (by decide) (fun c => ?_) (fun c => ?_)
  · replace h := ifT h c
    exact v_sb (p_X2_endTurn_25 C F h) trivial
  · replace h := ifF h c
    refine v_aload_n C dX2_endTurn_17 rfl ?_
    obtain ⟨v, e, h⟩ := ob h
    refine v_getR C dX2_endTurn_18 gf_X2_88 e ?_
    refine v_iconst (v := 1) C dX2_endTurn_21 rfl ?_
    obtain ⟨m, e, h⟩ := ob h
    refine v_putZ C dX2_endTurn_22 (pf_X2_205 _) e ?_
    exact v_sb (p_X2_endTurn_25 C F h) trivial
set_option maxRecDepth 100000 in
set_option maxHeartbeats 4000000 in
theorem c_X2_endTurn (l : Launch) (g : CG) (N : Nat) (a0 : Option Nat) (a1 : Option Nat) (μ : Mem) (rv : Unit) (μ9 : Mem) (h : f_X2_endTurn N a0 a1 μ = some (rv, μ9)) : Ct l yX2_endTurn mi_X2_endTurn g [aR a0, aR a1] μ none μ9 := ct_of ⟨by decide, rfl, rfl⟩ (Nat.le_of_ble_eq_true rfl) fun x C F => p_X2_endTurn C F h
def f_X2_stop_27 (N : Nat) (μ : Mem) : Option (Unit × Mem) :=
  some ((), μ)
def f_X2_stop (N : Nat) (a0 : Option Nat) (a1 : Option Nat) (μ : Mem) : Option (Unit × Mem) :=
  (mpI μ a1 10 8 6).bind fun μ1 =>
  (mfR μ1 a0 2 2).bind fun v2 =>
  (mck μ1 v2 5).bind fun b4 =>
  (f_X5_remove N (some b4) a1 μ1).bind fun q3 =>
  (mfR q3.2 a0 2 8).bind fun v5 =>
  if ¬ v5 = a1 then
    f_X2_stop_27 N q3.2
  else
    (mck q3.2 a0 2).bind fun b7 =>
    (f_X2_endTurn N (some b7) a1 q3.2).bind fun q6 =>
    f_X2_stop_27 N q6.2
set_option maxRecDepth 100000 in
set_option maxHeartbeats 4000000 in
theorem p_X2_stop_27 {x : CX} {l : Launch} {g : CG} {rv : Unit} {μ0 μ9 : Mem} (C : Cx x l g mi_X2_stop) (F : Prom x g mi_X2_stop μ0 none μ9) {N : Nat} {μ : Mem} (h : f_X2_stop_27 N μ = some (rv, μ9)) : V x g 2 0 0 μ 27 [] [] := by
  unfold f_X2_stop_27 at h
  exact v_vret C F ⟨rfl, rfl, Nat.le_refl _⟩ dX2_stop_27 h
set_option maxRecDepth 100000 in
set_option maxHeartbeats 4000000 in
theorem p_X2_stop {x : CX} {l : Launch} {g : CG} {rv : Unit} {μ0 μ9 : Mem} (C : Cx x l g mi_X2_stop) (F : Prom x g mi_X2_stop μ0 none μ9) {N : Nat} {a0 : Option Nat} {a1 : Option Nat} {μ : Mem} (h : f_X2_stop N a0 a1 μ = some (rv, μ9)) : V x g 2 0 0 μ 0 [(0, aR a0), (1, aR a1)] [] := by
  unfold f_X2_stop at h
  refine v_aload_n C dX2_stop_0 rfl ?_
  refine v_bipush (v := 6) C dX2_stop_1 rfl ?_
  obtain ⟨m, e, h⟩ := ob h
  refine v_putI C dX2_stop_3 (pf_X2_77 _) e ?_
  refine v_aload_n C dX2_stop_6 rfl ?_
  obtain ⟨v, e, h⟩ := ob h
  refine v_getR C dX2_stop_7 gf_X2_67 e ?_
  refine v_aload_n C dX2_stop_10 rfl ?_
  obtain ⟨b, e0, h⟩ := ob h
  obtain ⟨q, e, h⟩ := ob h
  refine v_callV (As := [_]) C dX2_stop_11 cf_X2_112 (rm_X2_stop_X5_remove) ⟨rfl, rfl⟩ e0 rfl (Nat.le_of_ble_eq_true rfl) (c_X5_remove _ _ N _ _ _ q.1 q.2 e) ?_
  refine v_aload_n C dX2_stop_14 rfl ?_
  obtain ⟨v, e, h⟩ := ob h
  refine v_getR C dX2_stop_15 gf_X2_29 e ?_
  refine v_aload_n C dX2_stop_18 rfl ?_
  refine v_acmp_ne (tgt := 27) C dX2_stop_19 (by decide) (fun c => ?_) (fun c => ?_)
  · replace h := ifT h c
    exact v_sb (p_X2_stop_27 C F h) trivial
  · replace h := ifF h c
    refine v_aload_n C dX2_stop_22 rfl ?_
    refine v_aload_n C dX2_stop_23 rfl ?_
    obtain ⟨b, e0, h⟩ := ob h
    obtain ⟨q, e, h⟩ := ob h
    refine v_callV (As := [_]) C dX2_stop_24 cf_X2_115 (rm_X2_stop_X2_endTurn) ⟨rfl, rfl⟩ e0 rfl (Nat.le_of_ble_eq_true rfl) (c_X2_endTurn _ _ N _ _ _ q.1 q.2 e) ?_
    exact v_sb (p_X2_stop_27 C F h) trivial
set_option maxRecDepth 100000 in
set_option maxHeartbeats 4000000 in
theorem c_X2_stop (l : Launch) (g : CG) (N : Nat) (a0 : Option Nat) (a1 : Option Nat) (μ : Mem) (rv : Unit) (μ9 : Mem) (h : f_X2_stop N a0 a1 μ = some (rv, μ9)) : Ct l yX2_stop mi_X2_stop g [aR a0, aR a1] μ none μ9 := ct_of ⟨by decide, rfl, rfl⟩ (Nat.le_of_ble_eq_true rfl) fun x C F => p_X2_stop C F h
def f_X11_halt_20 (N : Nat) (μ : Mem) : Option (Int32 × Mem) :=
  retZ 0 μ
def f_X11_halt (N : Nat) (a0 : Option Nat) (a1 : Int32) (μ : Mem) : Option (Int32 × Mem) :=
  (mfR μ a0 11 3).bind fun v1 =>
  (mck μ v1 2).bind fun b3 =>
  (f_X2_userAt N (some b3) a1 μ).bind fun q2 =>
  if q2.1 = none then
    f_X11_halt_20 N q2.2
  else
    (mck q2.2 q2.1 10).bind fun b5 =>
    (f_X10_mayBeHalted N (some b5) q2.2).bind fun q4 =>
    if ¬ q4.1 = 0 then
      (mfR q4.2 a0 11 3).bind fun v6 =>
      (mck q4.2 v6 2).bind fun b8 =>
      (f_X2_stop N (some b8) q2.1 q4.2).bind fun q7 =>
      retZ 1 q7.2
    else
      f_X11_halt_20 N q4.2
set_option maxRecDepth 100000 in
set_option maxHeartbeats 4000000 in
theorem p_X11_halt_20 {x : CX} {l : Launch} {g : CG} {rv : Int32} {μ0 μ9 : Mem} (C : Cx x l g mi_X11_halt) (F : Prom x g mi_X11_halt μ0 (some (aI rv)) μ9) {N : Nat} {μ : Mem} (h : f_X11_halt_20 N μ = some (rv, μ9)) : V x g 3 0 0 μ 20 [] [] := by
  unfold f_X11_halt_20 at h
  refine v_iconst (v := 0) C dX11_halt_20 rfl ?_
  exact v_zret C F ⟨rfl, rfl, Nat.le_refl _⟩ dX11_halt_21 h
set_option maxRecDepth 100000 in
set_option maxHeartbeats 4000000 in
theorem p_X11_halt {x : CX} {l : Launch} {g : CG} {rv : Int32} {μ0 μ9 : Mem} (C : Cx x l g mi_X11_halt) (F : Prom x g mi_X11_halt μ0 (some (aI rv)) μ9) {N : Nat} {a0 : Option Nat} {a1 : Int32} {μ : Mem} (h : f_X11_halt N a0 a1 μ = some (rv, μ9)) : V x g 3 0 0 μ 0 [(0, aR a0), (1, aI a1)] [] := by
  unfold f_X11_halt at h
  refine v_aload_n C dX11_halt_0 rfl ?_
  obtain ⟨v, e, h⟩ := ob h
  refine v_getR C dX11_halt_1 gf_X11_33 e ?_
  refine v_iload_n C dX11_halt_4 rfl ?_
  obtain ⟨b, e0, h⟩ := ob h
  obtain ⟨q, e, h⟩ := ob h
  refine v_callV (As := [_]) C dX11_halt_5 cf_X11_77 (rm_X11_halt_X2_userAt) ⟨rfl, rfl⟩ e0 rfl (Nat.le_of_ble_eq_true rfl) (c_X2_userAt _ _ N _ _ _ q.1 q.2 e) ?_
  refine v_astore_n C dX11_halt_8 (by decide) ?_
  refine v_aload_n C dX11_halt_9 rfl ?_
  refine v_ifnull (tgt := 20) C dX11_halt_10 (by decide) (fun c => ?_) (fun c => ?_)
  · replace h := ifT h c
    exact v_sb (p_X11_halt_20 C F h) trivial
  · replace h := ifF h c
    refine v_aload_n C dX11_halt_13 rfl ?_
    obtain ⟨b, e0, h⟩ := ob h
    obtain ⟨q, e, h⟩ := ob h
    refine v_callV (As := []) C dX11_halt_14 cf_X11_106 (rm_X11_halt_X10_mayBeHalted) ⟨rfl, rfl⟩ e0 rfl (Nat.le_of_ble_eq_true rfl) (c_X10_mayBeHalted _ _ N _ _ q.1 q.2 e) ?_
    refine v_if_ne (tgt := 22) C dX11_halt_17 (by decide) (fun c => ?_) (fun c => ?_)
    · replace h := ifT h c
      refine v_aload_n C dX11_halt_22 rfl ?_
      obtain ⟨v, e, h⟩ := ob h
      refine v_getR C dX11_halt_23 gf_X11_33 e ?_
      refine v_aload_n C dX11_halt_26 rfl ?_
      obtain ⟨b, e0, h⟩ := ob h
      obtain ⟨q, e, h⟩ := ob h
      refine v_callV (As := [_]) C dX11_halt_27 cf_X11_109 (rm_X11_halt_X2_stop) ⟨rfl, rfl⟩ e0 rfl (Nat.le_of_ble_eq_true rfl) (c_X2_stop _ _ N _ _ _ q.1 q.2 e) ?_
      refine v_iconst (v := 1) C dX11_halt_30 rfl ?_
      exact v_zret C F ⟨rfl, rfl, Nat.le_refl _⟩ dX11_halt_31 h
    · replace h := ifF h c
      exact v_sb (p_X11_halt_20 C F h) trivial
set_option maxRecDepth 100000 in
set_option maxHeartbeats 4000000 in
theorem c_X11_halt (l : Launch) (g : CG) (N : Nat) (a0 : Option Nat) (a1 : Int32) (μ : Mem) (rv : Int32) (μ9 : Mem) (h : f_X11_halt N a0 a1 μ = some (rv, μ9)) : Ct l yX11_halt mi_X11_halt g [aR a0, aI a1] μ (some (aI rv)) μ9 := ct_of ⟨by decide, rfl, rfl⟩ (Nat.le_of_ble_eq_true rfl) fun x C F => p_X11_halt C F h
def f_X6_isFull_14 (N : Nat) (s0 : Int32) (μ : Mem) : Option (Int32 × Mem) :=
  retZ s0 μ
def f_X6_isFull (N : Nat) (a0 : Option Nat) (μ : Mem) : Option (Int32 × Mem) :=
  (mfI μ a0 6 2).bind fun v1 =>
  if v1 < (16 : Int32) then
    f_X6_isFull_14 N 0 μ
  else
    f_X6_isFull_14 N 1 μ
set_option maxRecDepth 100000 in
set_option maxHeartbeats 4000000 in
theorem p_X6_isFull_14 {x : CX} {l : Launch} {g : CG} {rv : Int32} {μ0 μ9 : Mem} (C : Cx x l g mi_X6_isFull) (F : Prom x g mi_X6_isFull μ0 (some (aI rv)) μ9) {N : Nat} {s0 : Int32} {μ : Mem} (h : f_X6_isFull_14 N s0 μ = some (rv, μ9)) : V x g 1 0 0 μ 14 [] [aI s0] := by
  unfold f_X6_isFull_14 at h
  exact v_zret C F ⟨rfl, rfl, Nat.le_refl _⟩ dX6_isFull_14 h
set_option maxRecDepth 100000 in
set_option maxHeartbeats 4000000 in
theorem p_X6_isFull {x : CX} {l : Launch} {g : CG} {rv : Int32} {μ0 μ9 : Mem} (C : Cx x l g mi_X6_isFull) (F : Prom x g mi_X6_isFull μ0 (some (aI rv)) μ9) {N : Nat} {a0 : Option Nat} {μ : Mem} (h : f_X6_isFull N a0 μ = some (rv, μ9)) : V x g 1 0 0 μ 0 [(0, aR a0)] [] := by
  unfold f_X6_isFull at h
  refine v_aload_n C dX6_isFull_0 rfl ?_
  obtain ⟨v, e, h⟩ := ob h
  refine v_getI C dX6_isFull_1 gf_X6_19 e ?_
  refine v_bipush (v := 16) C dX6_isFull_4 rfl ?_
  refine v_icmp_lt (tgt := 13) C dX6_isFull_6 (by decide) (fun c => ?_) (fun c => ?_)
  · replace h := ifT h c
    refine v_iconst (v := 0) C dX6_isFull_13 rfl ?_
    exact v_sb (p_X6_isFull_14 C F h) trivial
  · replace h := ifF h c
    refine v_iconst (v := 1) C dX6_isFull_9 rfl ?_
    refine v_goto (tgt := 14) C dX6_isFull_10 (by decide) ?_
    exact v_sb (p_X6_isFull_14 C F h) trivial
set_option maxRecDepth 100000 in
set_option maxHeartbeats 4000000 in
theorem c_X6_isFull (l : Launch) (g : CG) (N : Nat) (a0 : Option Nat) (μ : Mem) (rv : Int32) (μ9 : Mem) (h : f_X6_isFull N a0 μ = some (rv, μ9)) : Ct l yX6_isFull mi_X6_isFull g [aR a0] μ (some (aI rv)) μ9 := ct_of ⟨by decide, rfl, rfl⟩ (Nat.le_of_ble_eq_true rfl) fun x C F => p_X6_isFull C F h
def f_X6_append (N : Nat) (a0 : Option Nat) (a1 : Int32) (μ : Mem) : Option (Unit × Mem) :=
  (mck μ a0 6).bind fun b2 =>
  (f_X6_isFull N (some b2) μ).bind fun q1 =>
  if q1.1 = 0 then
    (mfR q1.2 a0 6 0).bind fun v3 =>
    (mfI q1.2 a0 6 1).bind fun v4 =>
    (mfI q1.2 a0 6 2).bind fun v5 =>
    if (16 : Int32) = 0 then none else
    (mbI q1.2 0 v3 ((v4 + v5) - (v4 + v5) / 16 * 16) a1).bind fun μ6 =>
    (mfI μ6 a0 6 2).bind fun v7 =>
    (mpI μ6 a0 6 2 (v7 + 1)).bind fun μ8 =>
    some ((), μ8)
  else
    some ((), q1.2)
set_option maxRecDepth 100000 in
set_option maxHeartbeats 4000000 in
theorem p_X6_append {x : CX} {l : Launch} {g : CG} {rv : Unit} {μ0 μ9 : Mem} (C : Cx x l g mi_X6_append) (F : Prom x g mi_X6_append μ0 none μ9) {N : Nat} {a0 : Option Nat} {a1 : Int32} {μ : Mem} (h : f_X6_append N a0 a1 μ = some (rv, μ9)) : V x g 2 0 0 μ 0 [(0, aR a0), (1, aI a1)] [] := by
  unfold f_X6_append at h
  refine v_aload_n C dX6_append_0 rfl ?_
  obtain ⟨b, e0, h⟩ := ob h
  obtain ⟨q, e, h⟩ := ob h
  refine v_callV (As := []) C dX6_append_1 cf_X6_22 (rm_X6_append_X6_isFull) ⟨rfl, rfl⟩ e0 rfl (Nat.le_of_ble_eq_true rfl) (c_X6_isFull _ _ N _ _ q.1 q.2 e) ?_
  refine v_if_eq (tgt := 8) C dX6_append_4 (by decide) (fun c => ?_) (fun c => ?_)
  · replace h := ifT h c
    refine v_aload_n C dX6_append_8 rfl ?_
    obtain ⟨v, e, h⟩ := ob h
    refine v_getR C dX6_append_9 gf_X6_9 e ?_
    refine v_aload_n C dX6_append_12 rfl ?_
    obtain ⟨v, e, h⟩ := ob h
    refine v_getI C dX6_append_13 gf_X6_15 e ?_
    refine v_aload_n C dX6_append_16 rfl ?_
    obtain ⟨v, e, h⟩ := ob h
    refine v_getI C dX6_append_17 gf_X6_19 e ?_
    refine v_iadd C dX6_append_20 ?_
    refine v_bipush (v := 16) C dX6_append_21 rfl ?_
    obtain ⟨c0, h⟩ := oz h
    refine v_irem C dX6_append_23 c0 ?_
    refine v_iload_n C dX6_append_24 rfl ?_
    obtain ⟨m, e, h⟩ := ob h
    refine v_iastore C dX6_append_25 e ?_
    refine v_aload_n C dX6_append_26 rfl ?_
    refine v_dup C dX6_append_27 rfl ?_
    obtain ⟨v, e, h⟩ := ob h
    refine v_getI C dX6_append_28 gf_X6_19 e ?_
    refine v_iconst (v := 1) C dX6_append_31 rfl ?_
    refine v_iadd C dX6_append_32 ?_
    obtain ⟨m, e, h⟩ := ob h
    refine v_putI C dX6_append_33 (pf_X6_19 _) e ?_
    exact v_vret C F ⟨rfl, rfl, Nat.le_refl _⟩ dX6_append_36 h
  · replace h := ifF h c
    exact v_vret C F ⟨rfl, rfl, Nat.le_refl _⟩ dX6_append_7 h
set_option maxRecDepth 100000 in
set_option maxHeartbeats 4000000 in
theorem c_X6_append (l : Launch) (g : CG) (N : Nat) (a0 : Option Nat) (a1 : Int32) (μ : Mem) (rv : Unit) (μ9 : Mem) (h : f_X6_append N a0 a1 μ = some (rv, μ9)) : Ct l yX6_append mi_X6_append g [aR a0, aI a1] μ none μ9 := ct_of ⟨by decide, rfl, rfl⟩ (Nat.le_of_ble_eq_true rfl) fun x C F => p_X6_append C F h
