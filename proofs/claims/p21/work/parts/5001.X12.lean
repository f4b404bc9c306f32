/-! LAYER 1, ShareEightModel: near, put, feed, in, end, isLetter, at, isDigit, fails, number, look, isNext, take (by program) -/
def f_X12_near_19 (N : Nat) (s0 : Int32) (μ : Mem) : Option (Int32 × Mem) :=
  some (s0, μ)
def f_X12_near (N : Nat) (a0 : Int32) (a1 : Int32) (a2 : Int32) (μ : Mem) : Option (Int32 × Mem) :=
  if a1 ≤ a0 then
    if a0 ≤ a2 then
      f_X12_near_19 N a0 μ
    else
      f_X12_near_19 N a2 μ
  else
    f_X12_near_19 N a1 μ
set_option maxRecDepth 100000 in
set_option maxHeartbeats 4000000 in
theorem p_X12_near_19 {x : CX} {l : Launch} {g : CG} {rv : Int32} {μ0 μ9 : Mem} (C : Cx x l g mi_X12_near) (F : Prom x g mi_X12_near μ0 (some (aI rv)) μ9) {N : Nat} {s0 : Int32} {μ : Mem} (h : f_X12_near_19 N s0 μ = some (rv, μ9)) : V x g 3 0 0 μ 19 [] [aI s0] := by
  unfold f_X12_near_19 at h
  exact v_iret C F ⟨rfl, rfl, Nat.le_refl _⟩ dX12_near_19 h
set_option maxRecDepth 100000 in
set_option maxHeartbeats 4000000 in
theorem p_X12_near {x : CX} {l : Launch} {g : CG} {rv : Int32} {μ0 μ9 : Mem} (C : Cx x l g mi_X12_near) (F : Prom x g mi_X12_near μ0 (some (aI rv)) μ9) {N : Nat} {a0 : Int32} {a1 : Int32} {a2 : Int32} {μ : Mem} (h : f_X12_near N a0 a1 a2 μ = some (rv, μ9)) : V x g 3 0 0 μ 0 [(0, aI a0), (1, aI a1), (2, aI a2)] [] := by
  unfold f_X12_near at h
  refine v_iload_n C dX12_near_0 rfl ?_
  refine v_iload_n C dX12_near_1 rfl ?_
  refine v_icmp_ge (tgt := 9) C dX12_near_2 (by decide) (fun c => ?_) (fun c => ?_)
  · replace h := ifT h c
    refine v_iload_n C dX12_near_9 rfl ?_
    refine v_iload_n C dX12_near_10 rfl ?_
    refine v_icmp_le (tgt := 18) C dX12_near_11 (by decide) (fun c => ?_) (fun c => ?_)
    · replace h := ifT h c
      refine v_iload_n C dX12_near_18 rfl ?_
      exact v_sb (p_X12_near_19 C F h) trivial
    · replace h := ifF h c
      refine v_iload_n C dX12_near_14 rfl ?_
      refine v_goto (tgt := 19) C dX12_near_15 (by decide) ?_
      exact v_sb (p_X12_near_19 C F h) trivial
  · replace h := ifF h c
    refine v_iload_n C dX12_near_5 rfl ?_
    refine v_goto (tgt := 19) C dX12_near_6 (by decide) ?_
    exact v_sb (p_X12_near_19 C F h) trivial
set_option maxRecDepth 100000 in
set_option maxHeartbeats 4000000 in
theorem c_X12_near (l : Launch) (g : CG) (N : Nat) (a0 : Int32) (a1 : Int32) (a2 : Int32) (μ : Mem) (rv : Int32) (μ9 : Mem) (h : f_X12_near N a0 a1 a2 μ = some (rv, μ9)) : Ct l yX12_near mi_X12_near g [aI a0, aI a1, aI a2] μ (some (aI rv)) μ9 := ct_of ⟨by decide, rfl, rfl⟩ (Nat.le_of_ble_eq_true rfl) fun x C F => p_X12_near C F h
def H_X12_put_3 (N : Nat) (k3 : (Option Nat) → Int32 → Int32 → Mem → Option (Unit × Mem)) (a0 : Option Nat) (a1 : Int32) (a2 : Int32) (μ : Mem) : Option (Unit × Mem) :=
  if a2 < 0 then
    some ((), μ)
  else
    (mfR μ a0 12 0).bind fun v1 =>
    (mfI μ a0 12 1).bind fun v2 =>
    (mbI μ 0 v1 v2 ((a1 >>> (a2 &&& 31)) &&& 255)).bind fun μ3 =>
    (mfI μ3 a0 12 1).bind fun v4 =>
    (mpI μ3 a0 12 1 (v4 + 1)).bind fun μ5 =>
    k3 a0 a1 (a2 + (-8)) μ5
def L_X12_put_3 (N : Nat) : Nat → (Option Nat) → Int32 → Int32 → Mem → Option (Unit × Mem)
  | 0 => fun _ _ _ _ => none
  | n + 1 => H_X12_put_3 N (L_X12_put_3 N n)
def f_X12_put (N : Nat) (a0 : Option Nat) (a1 : Int32) (μ : Mem) : Option (Unit × Mem) :=
  L_X12_put_3 N N a0 a1 24 μ
set_option maxRecDepth 100000 in
set_option maxHeartbeats 4000000 in
theorem pH_X12_put_3 {x : CX} {l : Launch} {g : CG} {rv : Unit} {μ0 μ9 : Mem} (C : Cx x l g mi_X12_put) (F : Prom x g mi_X12_put μ0 none μ9) {N : Nat} {k3 : (Option Nat) → Int32 → Int32 → Mem → Option (Unit × Mem)} (hk3 : ∀ (a0 : Option Nat) (a1 : Int32) (a2 : Int32) (μ : Mem), k3 a0 a1 a2 μ = some (rv, μ9) → V x g 3 0 0 μ 3 [(0, aR a0), (1, aI a1), (2, aI a2)] []) {a0 : Option Nat} {a1 : Int32} {a2 : Int32} {μ : Mem} (h : H_X12_put_3 N k3 a0 a1 a2 μ = some (rv, μ9)) : V x g 3 0 0 μ 3 [(0, aR a0), (1, aI a1), (2, aI a2)] [] := by
  unfold H_X12_put_3 at h
  refine v_iload_n C dX12_put_3 rfl ?_
  refine v_if_lt (tgt := 39) C dX12_put_4 (by decide) (fun c => ?_) (fun c => ?_)
  · replace h := ifT h c
    exact v_vret C F ⟨rfl, rfl, Nat.le_refl _⟩ dX12_put_39 h
  · replace h := ifF h c
    refine v_aload_n C dX12_put_7 rfl ?_
    obtain ⟨v, e, h⟩ := ob h
    refine v_getR C dX12_put_8 gf_X12_1 e ?_
    refine v_aload_n C dX12_put_11 rfl ?_
    obtain ⟨v, e, h⟩ := ob h
    refine v_getI C dX12_put_12 gf_X12_7 e ?_
    refine v_iload_n C dX12_put_15 rfl ?_
    refine v_iload_n C dX12_put_16 rfl ?_
    refine v_ishr C dX12_put_17 ?_
    refine v_sipush (v := 255) C dX12_put_18 rfl ?_
    refine v_iand C dX12_put_21 ?_
    obtain ⟨m, e, h⟩ := ob h
    refine v_iastore C dX12_put_22 e ?_
    refine v_aload_n C dX12_put_23 rfl ?_
    refine v_dup C dX12_put_24 rfl ?_
    obtain ⟨v, e, h⟩ := ob h
    refine v_getI C dX12_put_25 gf_X12_7 e ?_
    refine v_iconst (v := 1) C dX12_put_28 rfl ?_
    refine v_iadd C dX12_put_29 ?_
    obtain ⟨m, e, h⟩ := ob h
    refine v_putI C dX12_put_30 (pf_X12_7 _) e ?_
    refine v_iinc (w := -8) C dX12_put_33 rfl rfl (by decide) ?_
    refine v_goto (tgt := 3) C dX12_put_36 (by decide) ?_
    exact v_sb (hk3 _ _ _ _ h) ⟨rfl, rfl, rfl, trivial⟩
set_option maxRecDepth 100000 in
set_option maxHeartbeats 4000000 in
theorem pL_X12_put_3 {x : CX} {l : Launch} {g : CG} {rv : Unit} {μ0 μ9 : Mem} (C : Cx x l g mi_X12_put) (F : Prom x g mi_X12_put μ0 none μ9) (N : Nat) (n : Nat) : ∀ (a0 : Option Nat) (a1 : Int32) (a2 : Int32) (μ : Mem), L_X12_put_3 N n a0 a1 a2 μ = some (rv, μ9) → V x g 3 0 0 μ 3 [(0, aR a0), (1, aI a1), (2, aI a2)] [] := by
  induction n with
  | zero => intro a0 a1 a2 μ h; cases h
  | succ n ih => intro a0 a1 a2 μ h; exact pH_X12_put_3 C F ih h
set_option maxRecDepth 100000 in
set_option maxHeartbeats 4000000 in
theorem p_X12_put {x : CX} {l : Launch} {g : CG} {rv : Unit} {μ0 μ9 : Mem} (C : Cx x l g mi_X12_put) (F : Prom x g mi_X12_put μ0 none μ9) {N : Nat} {a0 : Option Nat} {a1 : Int32} {μ : Mem} (h : f_X12_put N a0 a1 μ = some (rv, μ9)) : V x g 3 0 0 μ 0 [(0, aR a0), (1, aI a1)] [] := by
  unfold f_X12_put at h
  refine v_bipush (v := 24) C dX12_put_0 rfl ?_
  refine v_istore_n C dX12_put_2 (by decide) ?_
  exact v_sb (pL_X12_put_3 C F N N _ _ _ _ h) ⟨rfl, rfl, rfl, trivial⟩
set_option maxRecDepth 100000 in
set_option maxHeartbeats 4000000 in
theorem c_X12_put (l : Launch) (g : CG) (N : Nat) (a0 : Option Nat) (a1 : Int32) (μ : Mem) (rv : Unit) (μ9 : Mem) (h : f_X12_put N a0 a1 μ = some (rv, μ9)) : Ct l yX12_put mi_X12_put g [aR a0, aI a1] μ none μ9 := ct_of ⟨by decide, rfl, rfl⟩ (Nat.le_of_ble_eq_true rfl) fun x C F => p_X12_put C F h
def f_X12_feed (N : Nat) (a0 : Option Nat) (a1 : Int32) (a2 : Int32) (a3 : Int32) (a4 : Int32) (a5 : Int32) (μ : Mem) : Option (Int32 × Mem) :=
  (mfI μ a0 12 1).bind fun v1 =>
  if (v1 + 20) ≤ (2000 : Int32) then
    (mck μ a0 12).bind fun b3 =>
    (f_X12_put N (some b3) a1 μ).bind fun q2 =>
    (mck q2.2 a0 12).bind fun b5 =>
    (f_X12_put N (some b5) a2 q2.2).bind fun q4 =>
    (mck q4.2 a0 12).bind fun b7 =>
    (f_X12_put N (some b7) a3 q4.2).bind fun q6 =>
    (mck q6.2 a0 12).bind fun b9 =>
    (f_X12_put N (some b9) a4 q6.2).bind fun q8 =>
    (mck q8.2 a0 12).bind fun b11 =>
    (f_X12_put N (some b11) a5 q8.2).bind fun q10 =>
    (mfI q10.2 a0 12 1).bind fun v12 =>
    some (v12, q10.2)
  else
    some ((-1), μ)
set_option maxRecDepth 100000 in
set_option maxHeartbeats 4000000 in
theorem p_X12_feed {x : CX} {l : Launch} {g : CG} {rv : Int32} {μ0 μ9 : Mem} (C : Cx x l g mi_X12_feed) (F : Prom x g mi_X12_feed μ0 (some (aI rv)) μ9) {N : Nat} {a0 : Option Nat} {a1 : Int32} {a2 : Int32} {a3 : Int32} {a4 : Int32} {a5 : Int32} {μ : Mem} (h : f_X12_feed N a0 a1 a2 a3 a4 a5 μ = some (rv, μ9)) : V x g 6 0 0 μ 0 [(0, aR a0), (1, aI a1), (2, aI a2), (3, aI a3), (4, aI a4), (5, aI a5)] [] := by
  unfold f_X12_feed at h
  refine v_aload_n C dX12_feed_0 rfl ?_
  obtain ⟨v, e, h⟩ := ob h
  refine v_getI C dX12_feed_1 gf_X12_7 e ?_
  refine v_bipush (v := 20) C dX12_feed_4 rfl ?_
  refine v_iadd C dX12_feed_6 ?_
  refine v_sipush (v := 2000) C dX12_feed_7 rfl ?_
  refine v_icmp_le (tgt := 15) C dX12_feed_10 (by decide) (fun c => ?_) (fun c => ?_)
  · replace h := ifT h c
    refine v_aload_n C dX12_feed_15 rfl ?_
    refine v_iload_n C dX12_feed_16 rfl ?_
    obtain ⟨b, e0, h⟩ := ob h
    obtain ⟨q, e, h⟩ := ob h
    refine v_callV (As := [_]) C dX12_feed_17 cf_X12_11 (rm_X12_feed_X12_put) ⟨rfl, rfl⟩ e0 rfl (Nat.le_of_ble_eq_true rfl) (c_X12_put _ _ N _ _ _ q.1 q.2 e) ?_
    refine v_aload_n C dX12_feed_20 rfl ?_
    refine v_iload_n C dX12_feed_21 rfl ?_
    obtain ⟨b, e0, h⟩ := ob h
    obtain ⟨q, e, h⟩ := ob h
    refine v_callV (As := [_]) C dX12_feed_22 cf_X12_11 (rm_X12_feed_X12_put) ⟨rfl, rfl⟩ e0 rfl (Nat.le_of_ble_eq_true rfl) (c_X12_put _ _ N _ _ _ q.1 q.2 e) ?_
    refine v_aload_n C dX12_feed_25 rfl ?_
    refine v_iload_n C dX12_feed_26 rfl ?_
    obtain ⟨b, e0, h⟩ := ob h
    obtain ⟨q, e, h⟩ := ob h
    refine v_callV (As := [_]) C dX12_feed_27 cf_X12_11 (rm_X12_feed_X12_put) ⟨rfl, rfl⟩ e0 rfl (Nat.le_of_ble_eq_true rfl) (c_X12_put _ _ N _ _ _ q.1 q.2 e) ?_
    refine v_aload_n C dX12_feed_30 rfl ?_
    refine v_iload C dX12_feed_31 rfl ?_
    obtain ⟨b, e0, h⟩ := ob h
    obtain ⟨q, e, h⟩ := ob h
    refine v_callV (As := [_]) C dX12_feed_33 cf_X12_11 (rm_X12_feed_X12_put) ⟨rfl, rfl⟩ e0 rfl (Nat.le_of_ble_eq_true rfl) (c_X12_put _ _ N _ _ _ q.1 q.2 e) ?_
    refine v_aload_n C dX12_feed_36 rfl ?_
    refine v_iload C dX12_feed_37 rfl ?_
    obtain ⟨b, e0, h⟩ := ob h
    obtain ⟨q, e, h⟩ := ob h
    refine v_callV (As := [_]) C dX12_feed_39 cf_X12_11 (rm_X12_feed_X12_put) ⟨rfl, rfl⟩ e0 rfl (Nat.le_of_ble_eq_true rfl) (c_X12_put _ _ N _ _ _ q.1 q.2 e) ?_
    refine v_aload_n C dX12_feed_42 rfl ?_
    obtain ⟨v, e, h⟩ := ob h
    refine v_getI C dX12_feed_43 gf_X12_7 e ?_
    exact v_iret C F ⟨rfl, rfl, Nat.le_refl _⟩ dX12_feed_46 h
  · replace h := ifF h c
    refine v_iconst (v := -1) C dX12_feed_13 rfl ?_
    exact v_iret C F ⟨rfl, rfl, Nat.le_refl _⟩ dX12_feed_14 h
set_option maxRecDepth 100000 in
set_option maxHeartbeats 4000000 in
theorem c_X12_feed (l : Launch) (g : CG) (N : Nat) (a0 : Option Nat) (a1 : Int32) (a2 : Int32) (a3 : Int32) (a4 : Int32) (a5 : Int32) (μ : Mem) (rv : Int32) (μ9 : Mem) (h : f_X12_feed N a0 a1 a2 a3 a4 a5 μ = some (rv, μ9)) : Ct l yX12_feed mi_X12_feed g [aR a0, aI a1, aI a2, aI a3, aI a4, aI a5] μ (some (aI rv)) μ9 := ct_of ⟨by decide, rfl, rfl⟩ (Nat.le_of_ble_eq_true rfl) fun x C F => p_X12_feed C F h
def f_X12_in_15 (N : Nat) (s0 : Int32) (μ : Mem) : Option (Int32 × Mem) :=
  retZ s0 μ
def f_X12_in_14 (N : Nat) (μ : Mem) : Option (Int32 × Mem) :=
  f_X12_in_15 N 0 μ
def f_X12_in (N : Nat) (a0 : Int32) (a1 : Int32) (a2 : Int32) (μ : Mem) : Option (Int32 × Mem) :=
  if a0 < a1 then
    f_X12_in_14 N μ
  else
    if a2 < a0 then
      f_X12_in_14 N μ
    else
      f_X12_in_15 N 1 μ
set_option maxRecDepth 100000 in
set_option maxHeartbeats 4000000 in
theorem p_X12_in_15 {x : CX} {l : Launch} {g : CG} {rv : Int32} {μ0 μ9 : Mem} (C : Cx x l g mi_X12_in) (F : Prom x g mi_X12_in μ0 (some (aI rv)) μ9) {N : Nat} {s0 : Int32} {μ : Mem} (h : f_X12_in_15 N s0 μ = some (rv, μ9)) : V x g 3 0 0 μ 15 [] [aI s0] := by
  unfold f_X12_in_15 at h
  exact v_zret C F ⟨rfl, rfl, Nat.le_refl _⟩ dX12_in_15 h
set_option maxRecDepth 100000 in
set_option maxHeartbeats 4000000 in
theorem p_X12_in_14 {x : CX} {l : Launch} {g : CG} {rv : Int32} {μ0 μ9 : Mem} (C : Cx x l g mi_X12_in) (F : Prom x g mi_X12_in μ0 (some (aI rv)) μ9) {N : Nat} {μ : Mem} (h : f_X12_in_14 N μ = some (rv, μ9)) : V x g 3 0 0 μ 14 [] [] := by
  unfold f_X12_in_14 at h
  refine v_iconst (v := 0) C dX12_in_14 rfl ?_
  exact v_sb (p_X12_in_15 C F h) trivial
set_option maxRecDepth 100000 in
set_option maxHeartbeats 4000000 in
theorem p_X12_in {x : CX} {l : Launch} {g : CG} {rv : Int32} {μ0 μ9 : Mem} (C : Cx x l g mi_X12_in) (F : Prom x g mi_X12_in μ0 (some (aI rv)) μ9) {N : Nat} {a0 : Int32} {a1 : Int32} {a2 : Int32} {μ : Mem} (h : f_X12_in N a0 a1 a2 μ = some (rv, μ9)) : V x g 3 0 0 μ 0 [(0, aI a0), (1, aI a1), (2, aI a2)] [] := by
  unfold f_X12_in at h
  refine v_iload_n C dX12_in_0 rfl ?_
  refine v_iload_n C dX12_in_1 rfl ?_
  refine v_icmp_lt (tgt := 14) C dX12_in_2 (by decide) (fun c => ?_) (fun c => ?_)
  · replace h := ifT h c
    exact v_sb (p_X12_in_14 C F h) trivial
  · replace h := ifF h c
    refine v_iload_n C dX12_in_5 rfl ?_
    refine v_iload_n C dX12_in_6 rfl ?_
    refine v_icmp_gt (tgt := 14) C dX12_in_7 (by decide) (fun c => ?_) (fun c => ?_)
    · replace h := ifT h c
      exact v_sb (p_X12_in_14 C F h) trivial
    · replace h := ifF h c
      refine v_iconst (v := 1) C dX12_in_10 rfl ?_
      refine v_goto (tgt := 15) C dX12_in_11 (by decide) ?_
      exact v_sb (p_X12_in_15 C F h) trivial
set_option maxRecDepth 100000 in
set_option maxHeartbeats 4000000 in
theorem c_X12_in (l : Launch) (g : CG) (N : Nat) (a0 : Int32) (a1 : Int32) (a2 : Int32) (μ : Mem) (rv : Int32) (μ9 : Mem) (h : f_X12_in N a0 a1 a2 μ = some (rv, μ9)) : Ct l yX12_in mi_X12_in g [aI a0, aI a1, aI a2] μ (some (aI rv)) μ9 := ct_of ⟨by decide, rfl, rfl⟩ (Nat.le_of_ble_eq_true rfl) fun x C F => p_X12_in C F h
def f_X12_end (N : Nat) (a0 : Option Nat) (a1 : Int32) (μ : Mem) : Option (Int32 × Mem) :=
  (mfI μ a0 12 1).bind fun v1 =>
  (f_X12_in N a1 0 v1 μ).bind fun q2 =>
  if ¬ q2.1 = 0 then
    (mpI q2.2 a0 12 1 a1).bind fun μ3 =>
    retZ 1 μ3
  else
    retZ 0 q2.2
set_option maxRecDepth 100000 in
set_option maxHeartbeats 4000000 in
theorem p_X12_end {x : CX} {l : Launch} {g : CG} {rv : Int32} {μ0 μ9 : Mem} (C : Cx x l g mi_X12_end) (F : Prom x g mi_X12_end μ0 (some (aI rv)) μ9) {N : Nat} {a0 : Option Nat} {a1 : Int32} {μ : Mem} (h : f_X12_end N a0 a1 μ = some (rv, μ9)) : V x g 2 0 0 μ 0 [(0, aR a0), (1, aI a1)] [] := by
  unfold f_X12_end at h
  refine v_iload_n C dX12_end_0 rfl ?_
  refine v_iconst (v := 0) C dX12_end_1 rfl ?_
  refine v_aload_n C dX12_end_2 rfl ?_
  obtain ⟨v, e, h⟩ := ob h
  refine v_getI C dX12_end_3 gf_X12_7 e ?_
  obtain ⟨q, e, h⟩ := ob h
  refine v_callS (As := [_, _, _]) C dX12_end_6 cf_X12_15 (rm_X12_end_X12_in) ⟨rfl, rfl⟩ rfl (Nat.le_of_ble_eq_true rfl) (c_X12_in _ _ N _ _ _ _ q.1 q.2 e) ?_
  refine v_if_ne (tgt := 14) C dX12_end_9 (by decide) (fun c => ?_) (fun c => ?_)
  · replace h := ifT h c
    refine v_aload_n C dX12_end_14 rfl ?_
    refine v_iload_n C dX12_end_15 rfl ?_
    obtain ⟨m, e, h⟩ := ob h
    refine v_putI C dX12_end_16 (pf_X12_7 _) e ?_
    refine v_iconst (v := 1) C dX12_end_19 rfl ?_
    exact v_zret C F ⟨rfl, rfl, Nat.le_refl _⟩ dX12_end_20 h
  · replace h := ifF h c
    refine v_iconst (v := 0) C dX12_end_12 rfl ?_
    exact v_zret C F ⟨rfl, rfl, Nat.le_refl _⟩ dX12_end_13 h
set_option maxRecDepth 100000 in
set_option maxHeartbeats 4000000 in
theorem c_X12_end (l : Launch) (g : CG) (N : Nat) (a0 : Option Nat) (a1 : Int32) (μ : Mem) (rv : Int32) (μ9 : Mem) (h : f_X12_end N a0 a1 μ = some (rv, μ9)) : Ct l yX12_end mi_X12_end g [aR a0, aI a1] μ (some (aI rv)) μ9 := ct_of ⟨by decide, rfl, rfl⟩ (Nat.le_of_ble_eq_true rfl) fun x C F => p_X12_end C F h
def f_X12_isLetter (N : Nat) (a0 : Int32) (μ : Mem) : Option (Int32 × Mem) :=
  (f_X12_in N a0 65 90 μ).bind fun q1 =>
  retZ q1.1 q1.2
set_option maxRecDepth 100000 in
set_option maxHeartbeats 4000000 in
theorem p_X12_isLetter {x : CX} {l : Launch} {g : CG} {rv : Int32} {μ0 μ9 : Mem} (C : Cx x l g mi_X12_isLetter) (F : Prom x g mi_X12_isLetter μ0 (some (aI rv)) μ9) {N : Nat} {a0 : Int32} {μ : Mem} (h : f_X12_isLetter N a0 μ = some (rv, μ9)) : V x g 1 0 0 μ 0 [(0, aI a0)] [] := by
  unfold f_X12_isLetter at h
  refine v_iload_n C dX12_isLetter_0 rfl ?_
  refine v_bipush (v := 65) C dX12_isLetter_1 rfl ?_
  refine v_bipush (v := 90) C dX12_isLetter_3 rfl ?_
  obtain ⟨q, e, h⟩ := ob h
  refine v_callS (As := [_, _, _]) C dX12_isLetter_5 cf_X12_15 (rm_X12_isLetter_X12_in) ⟨rfl, rfl⟩ rfl (Nat.le_of_ble_eq_true rfl) (c_X12_in _ _ N _ _ _ _ q.1 q.2 e) ?_
  exact v_zret C F ⟨rfl, rfl, Nat.le_refl _⟩ dX12_isLetter_8 h
set_option maxRecDepth 100000 in
set_option maxHeartbeats 4000000 in
theorem c_X12_isLetter (l : Launch) (g : CG) (N : Nat) (a0 : Int32) (μ : Mem) (rv : Int32) (μ9 : Mem) (h : f_X12_isLetter N a0 μ = some (rv, μ9)) : Ct l yX12_isLetter mi_X12_isLetter g [aI a0] μ (some (aI rv)) μ9 := ct_of ⟨by decide, rfl, rfl⟩ (Nat.le_of_ble_eq_true rfl) fun x C F => p_X12_isLetter C F h
def f_X12_at_19 (N : Nat) (s0 : Int32) (μ : Mem) : Option (Int32 × Mem) :=
  some (s0, μ)
def f_X12_at (N : Nat) (a0 : Option Nat) (a1 : Int32) (μ : Mem) : Option (Int32 × Mem) :=
  (mfI μ a0 12 3).bind fun v1 =>
  if v1 ≤ a1 then
    f_X12_at_19 N 10 μ
  else
    (mfR μ a0 12 2).bind fun v2 =>
    (maI μ 0 v2 a1).bind fun v3 =>
    f_X12_at_19 N v3 μ
set_option maxRecDepth 100000 in
set_option maxHeartbeats 4000000 in
theorem p_X12_at_19 {x : CX} {l : Launch} {g : CG} {rv : Int32} {μ0 μ9 : Mem} (C : Cx x l g mi_X12_at) (F : Prom x g mi_X12_at μ0 (some (aI rv)) μ9) {N : Nat} {s0 : Int32} {μ : Mem} (h : f_X12_at_19 N s0 μ = some (rv, μ9)) : V x g 2 0 0 μ 19 [] [aI s0] := by
  unfold f_X12_at_19 at h
  exact v_iret C F ⟨rfl, rfl, Nat.le_refl _⟩ dX12_at_19 h
set_option maxRecDepth 100000 in
set_option maxHeartbeats 4000000 in
theorem p_X12_at {x : CX} {l : Launch} {g : CG} {rv : Int32} {μ0 μ9 : Mem} (C : Cx x l g mi_X12_at) (F : Prom x g mi_X12_at μ0 (some (aI rv)) μ9) {N : Nat} {a0 : Option Nat} {a1 : Int32} {μ : Mem} (h : f_X12_at N a0 a1 μ = some (rv, μ9)) : V x g 2 0 0 μ 0 [(0, aR a0), (1, aI a1)] [] := by
  unfold f_X12_at at h
  refine v_iload_n C dX12_at_0 rfl ?_
  refine v_aload_n C dX12_at_1 rfl ?_
  obtain ⟨v, e, h⟩ := ob h
  refine v_getI C dX12_at_2 gf_X12_25 e ?_
  refine v_icmp_ge (tgt := 17) C dX12_at_5 (by decide) (fun c => ?_) (fun c => ?_)
  · replace h := ifT h c
    refine v_bipush (v := 10) C dX12_at_17 rfl ?_
    exact v_sb (p_X12_at_19 C F h) trivial
  · replace h := ifF h c
    refine v_aload_n C dX12_at_8 rfl ?_
    obtain ⟨v, e, h⟩ := ob h
    refine v_getR C dX12_at_9 gf_X12_28 e ?_
    refine v_iload_n C dX12_at_12 rfl ?_
    obtain ⟨v, e, h⟩ := ob h
    refine v_iaload C dX12_at_13 e ?_
    refine v_goto (tgt := 19) C dX12_at_14 (by decide) ?_
    exact v_sb (p_X12_at_19 C F h) trivial
set_option maxRecDepth 100000 in
set_option maxHeartbeats 4000000 in
theorem c_X12_at (l : Launch) (g : CG) (N : Nat) (a0 : Option Nat) (a1 : Int32) (μ : Mem) (rv : Int32) (μ9 : Mem) (h : f_X12_at N a0 a1 μ = some (rv, μ9)) : Ct l yX12_at mi_X12_at g [aR a0, aI a1] μ (some (aI rv)) μ9 := ct_of ⟨by decide, rfl, rfl⟩ (Nat.le_of_ble_eq_true rfl) fun x C F => p_X12_at C F h
def f_X12_isDigit (N : Nat) (a0 : Int32) (μ : Mem) : Option (Int32 × Mem) :=
  (f_X12_in N a0 48 57 μ).bind fun q1 =>
  retZ q1.1 q1.2
set_option maxRecDepth 100000 in
set_option maxHeartbeats 4000000 in
theorem p_X12_isDigit {x : CX} {l : Launch} {g : CG} {rv : Int32} {μ0 μ9 : Mem} (C : Cx x l g mi_X12_isDigit) (F : Prom x g mi_X12_isDigit μ0 (some (aI rv)) μ9) {N : Nat} {a0 : Int32} {μ : Mem} (h : f_X12_isDigit N a0 μ = some (rv, μ9)) : V x g 1 0 0 μ 0 [(0, aI a0)] [] := by
  unfold f_X12_isDigit at h
  refine v_iload_n C dX12_isDigit_0 rfl ?_
  refine v_bipush (v := 48) C dX12_isDigit_1 rfl ?_
  refine v_bipush (v := 57) C dX12_isDigit_3 rfl ?_
  obtain ⟨q, e, h⟩ := ob h
  refine v_callS (As := [_, _, _]) C dX12_isDigit_5 cf_X12_15 (rm_X12_isDigit_X12_in) ⟨rfl, rfl⟩ rfl (Nat.le_of_ble_eq_true rfl) (c_X12_in _ _ N _ _ _ _ q.1 q.2 e) ?_
  exact v_zret C F ⟨rfl, rfl, Nat.le_refl _⟩ dX12_isDigit_8 h
set_option maxRecDepth 100000 in
set_option maxHeartbeats 4000000 in
theorem c_X12_isDigit (l : Launch) (g : CG) (N : Nat) (a0 : Int32) (μ : Mem) (rv : Int32) (μ9 : Mem) (h : f_X12_isDigit N a0 μ = some (rv, μ9)) : Ct l yX12_isDigit mi_X12_isDigit g [aI a0] μ (some (aI rv)) μ9 := ct_of ⟨by decide, rfl, rfl⟩ (Nat.le_of_ble_eq_true rfl) fun x C F => p_X12_isDigit C F h
def f_X12_fails (N : Nat) (a0 : Option Nat) (a1 : Int32) (a2 : Int32) (μ : Mem) : Option (Unit × Mem) :=
  (mfI μ a0 12 5).bind fun v1 =>
  if v1 ≤ 0 then
    (mpI μ a0 12 5 a1).bind fun μ2 =>
    (mpI μ2 a0 12 6 a2).bind fun μ3 =>
    some ((), μ3)
  else
    some ((), μ)
set_option maxRecDepth 100000 in
set_option maxHeartbeats 4000000 in
theorem p_X12_fails {x : CX} {l : Launch} {g : CG} {rv : Unit} {μ0 μ9 : Mem} (C : Cx x l g mi_X12_fails) (F : Prom x g mi_X12_fails μ0 none μ9) {N : Nat} {a0 : Option Nat} {a1 : Int32} {a2 : Int32} {μ : Mem} (h : f_X12_fails N a0 a1 a2 μ = some (rv, μ9)) : V x g 3 0 0 μ 0 [(0, aR a0), (1, aI a1), (2, aI a2)] [] := by
  unfold f_X12_fails at h
  refine v_aload_n C dX12_fails_0 rfl ?_
  obtain ⟨v, e, h⟩ := ob h
  refine v_getI C dX12_fails_1 gf_X12_19 e ?_
  refine v_if_le (tgt := 8) C dX12_fails_4 (by decide) (fun c => ?_) (fun c => ?_)
  · replace h := ifT h c
    refine v_aload_n C dX12_fails_8 rfl ?_
    refine v_iload_n C dX12_fails_9 rfl ?_
    obtain ⟨m, e, h⟩ := ob h
    refine v_putI C dX12_fails_10 (pf_X12_19 _) e ?_
    refine v_aload_n C dX12_fails_13 rfl ?_
    refine v_iload_n C dX12_fails_14 rfl ?_
    obtain ⟨m, e, h⟩ := ob h
    refine v_putI C dX12_fails_15 (pf_X12_22 _) e ?_
    exact v_vret C F ⟨rfl, rfl, Nat.le_refl _⟩ dX12_fails_18 h
  · replace h := ifF h c
    exact v_vret C F ⟨rfl, rfl, Nat.le_refl _⟩ dX12_fails_7 h
set_option maxRecDepth 100000 in
set_option maxHeartbeats 4000000 in
theorem c_X12_fails (l : Launch) (g : CG) (N : Nat) (a0 : Option Nat) (a1 : Int32) (a2 : Int32) (μ : Mem) (rv : Unit) (μ9 : Mem) (h : f_X12_fails N a0 a1 a2 μ = some (rv, μ9)) : Ct l yX12_fails mi_X12_fails g [aR a0, aI a1, aI a2] μ none μ9 := ct_of ⟨by decide, rfl, rfl⟩ (Nat.le_of_ble_eq_true rfl) fun x C F => p_X12_fails C F h
def f_X12_number_104 (N : Nat) (μ : Mem) : Option (Unit × Mem) :=
  some ((), μ)
def f_X12_number_98 (N : Nat) (a0 : Option Nat) (a1 : Int32) (μ : Mem) : Option (Unit × Mem) :=
  (mck μ a0 12).bind fun b2 =>
  (f_X12_fails N (some b2) 1 a1 μ).bind fun q1 =>
  f_X12_number_104 N q1.2
def f_X12_number_84 (N : Nat) (a0 : Option Nat) (a1 : Int32) (a3 : Int32) (μ : Mem) : Option (Unit × Mem) :=
  if a3 = 0 then
    f_X12_number_98 N a0 a1 μ
  else
    (mfI μ a0 12 14).bind fun v1 =>
    if v1 ≤ (4095 : Int32) then
      f_X12_number_104 N μ
    else
      f_X12_number_98 N a0 a1 μ
def f_X12_number_53 (N : Nat) (k21 : (Option Nat) → Int32 → Int32 → Int32 → Int32 → Mem → Option (Unit × Mem)) (a0 : Option Nat) (a1 : Int32) (a2 : Int32) (a4 : Int32) (s0 : Int32) (μ : Mem) : Option (Unit × Mem) :=
  (mfI μ a0 12 14).bind fun v1 =>
  (mfI μ a0 12 10).bind fun v2 =>
  (mfR μ a0 12 2).bind fun v3 =>
  (maI μ 0 v3 a4).bind fun v4 =>
  (mpI μ a0 12 14 (((v1 * v2) + v4) - 48)).bind fun μ5 =>
  k21 a0 a1 a2 s0 (a4 + 1) μ5
def H_X12_number_21 (N : Nat) (k21 : (Option Nat) → Int32 → Int32 → Int32 → Int32 → Mem → Option (Unit × Mem)) (a0 : Option Nat) (a1 : Int32) (a2 : Int32) (a3 : Int32) (a4 : Int32) (μ : Mem) : Option (Unit × Mem) :=
  if a2 ≤ a4 then
    f_X12_number_84 N a0 a1 a3 μ
  else
    if a3 = 0 then
      f_X12_number_84 N a0 a1 a3 μ
    else
      (mfR μ a0 12 2).bind fun v1 =>
      (maI μ 0 v1 a4).bind fun v2 =>
      (mfI μ a0 12 10).bind fun v3 =>
      if v3 ≤ (v2 - 48) then
        f_X12_number_53 N k21 a0 a1 a2 a4 0 μ
      else
        f_X12_number_53 N k21 a0 a1 a2 a4 1 μ
def L_X12_number_21 (N : Nat) : Nat → (Option Nat) → Int32 → Int32 → Int32 → Int32 → Mem → Option (Unit × Mem)
  | 0 => fun _ _ _ _ _ _ => none
  | n + 1 => H_X12_number_21 N (L_X12_number_21 N n)
def f_X12_number_17 (N : Nat) (a0 : Option Nat) (a1 : Int32) (a2 : Int32) (s0 : Int32) (μ : Mem) : Option (Unit × Mem) :=
  L_X12_number_21 N N a0 a1 a2 s0 a1 μ
def f_X12_number (N : Nat) (a0 : Option Nat) (a1 : Int32) (a2 : Int32) (μ : Mem) : Option (Unit × Mem) :=
  (mpI μ a0 12 14 0).bind fun μ1 =>
  if (4 : Int32) < (a2 - a1) then
    f_X12_number_17 N a0 a1 a2 0 μ1
  else
    f_X12_number_17 N a0 a1 a2 1 μ1
set_option maxRecDepth 100000 in
set_option maxHeartbeats 4000000 in
theorem p_X12_number_104 {x : CX} {l : Launch} {g : CG} {rv : Unit} {μ0 μ9 : Mem} (C : Cx x l g mi_X12_number) (F : Prom x g mi_X12_number μ0 none μ9) {N : Nat} {μ : Mem} (h : f_X12_number_104 N μ = some (rv, μ9)) : V x g 5 0 0 μ 104 [] [] := by
  unfold f_X12_number_104 at h
  exact v_vret C F ⟨rfl, rfl, Nat.le_refl _⟩ dX12_number_104 h
set_option maxRecDepth 100000 in
set_option maxHeartbeats 4000000 in
theorem p_X12_number_98 {x : CX} {l : Launch} {g : CG} {rv : Unit} {μ0 μ9 : Mem} (C : Cx x l g mi_X12_number) (F : Prom x g mi_X12_number μ0 none μ9) {N : Nat} {a0 : Option Nat} {a1 : Int32} {μ : Mem} (h : f_X12_number_98 N a0 a1 μ = some (rv, μ9)) : V x g 5 0 0 μ 98 [(0, aR a0), (1, aI a1)] [] := by
  unfold f_X12_number_98 at h
  refine v_aload_n C dX12_number_98 rfl ?_
  refine v_iconst (v := 1) C dX12_number_99 rfl ?_
  refine v_iload_n C dX12_number_100 rfl ?_
  obtain ⟨b, e0, h⟩ := ob h
  obtain ⟨q, e, h⟩ := ob h
  refine v_callV (As := [_, _]) C dX12_number_101 cf_X12_57 (rm_X12_number_X12_fails) ⟨rfl, rfl⟩ e0 rfl (Nat.le_of_ble_eq_true rfl) (c_X12_fails _ _ N _ _ _ _ q.1 q.2 e) ?_
  exact v_sb (p_X12_number_104 C F h) trivial
set_option maxRecDepth 100000 in
set_option maxHeartbeats 4000000 in
theorem p_X12_number_84 {x : CX} {l : Launch} {g : CG} {rv : Unit} {μ0 μ9 : Mem} (C : Cx x l g mi_X12_number) (F : Prom x g mi_X12_number μ0 none μ9) {N : Nat} {a0 : Option Nat} {a1 : Int32} {a3 : Int32} {μ : Mem} (h : f_X12_number_84 N a0 a1 a3 μ = some (rv, μ9)) : V x g 5 0 0 μ 84 [(0, aR a0), (1, aI a1), (3, aI a3)] [] := by
  unfold f_X12_number_84 at h
  refine v_iload_n C dX12_number_84 rfl ?_
  refine v_if_eq (tgt := 98) C dX12_number_85 (by decide) (fun c => ?_) (fun c => ?_)
  · replace h := ifT h c
    exact v_sb (p_X12_number_98 C F h) ⟨rfl, rfl, trivial⟩
  · replace h := ifF h c
    refine v_aload_n C dX12_number_88 rfl ?_
    obtain ⟨v, e, h⟩ := ob h
    refine v_getI C dX12_number_89 gf_X12_64 e ?_
    refine v_sipush (v := 4095) C dX12_number_92 rfl ?_
    refine v_icmp_le (tgt := 104) C dX12_number_95 (by decide) (fun c => ?_) (fun c => ?_)
    · replace h := ifT h c
      exact v_sb (p_X12_number_104 C F h) trivial
    · replace h := ifF h c
      exact v_sb (p_X12_number_98 C F h) ⟨rfl, rfl, trivial⟩
set_option maxRecDepth 100000 in
set_option maxHeartbeats 4000000 in
theorem p_X12_number_53 {x : CX} {l : Launch} {g : CG} {rv : Unit} {μ0 μ9 : Mem} (C : Cx x l g mi_X12_number) (F : Prom x g mi_X12_number μ0 none μ9) {N : Nat} {k21 : (Option Nat) → Int32 → Int32 → Int32 → Int32 → Mem → Option (Unit × Mem)} (hk21 : ∀ (a0 : Option Nat) (a1 : Int32) (a2 : Int32) (a3 : Int32) (a4 : Int32) (μ : Mem), k21 a0 a1 a2 a3 a4 μ = some (rv, μ9) → V x g 5 0 0 μ 21 [(0, aR a0), (1, aI a1), (2, aI a2), (3, aI a3), (4, aI a4)] []) {a0 : Option Nat} {a1 : Int32} {a2 : Int32} {a4 : Int32} {s0 : Int32} {μ : Mem} (h : f_X12_number_53 N k21 a0 a1 a2 a4 s0 μ = some (rv, μ9)) : V x g 5 0 0 μ 53 [(0, aR a0), (1, aI a1), (2, aI a2), (4, aI a4)] [aI s0] := by
  unfold f_X12_number_53 at h
  refine v_istore_n C dX12_number_53 (by decide) ?_
  refine v_aload_n C dX12_number_54 rfl ?_
  refine v_aload_n C dX12_number_55 rfl ?_
  obtain ⟨v, e, h⟩ := ob h
  refine v_getI C dX12_number_56 gf_X12_64 e ?_
  refine v_aload_n C dX12_number_59 rfl ?_
  obtain ⟨v, e, h⟩ := ob h
  refine v_getI C dX12_number_60 gf_X12_74 e ?_
  refine v_imul C dX12_number_63 ?_
  refine v_aload_n C dX12_number_64 rfl ?_
  obtain ⟨v, e, h⟩ := ob h
  refine v_getR C dX12_number_65 gf_X12_28 e ?_
  refine v_iload C dX12_number_68 rfl ?_
  obtain ⟨v, e, h⟩ := ob h
  refine v_iaload C dX12_number_70 e ?_
  refine v_iadd C dX12_number_71 ?_
  refine v_bipush (v := 48) C dX12_number_72 rfl ?_
  refine v_isub C dX12_number_74 ?_
  obtain ⟨m, e, h⟩ := ob h
  refine v_putI C dX12_number_75 (pf_X12_64 _) e ?_
  refine v_iinc (w := 1) C dX12_number_78 rfl rfl (by decide) ?_
  refine v_goto (tgt := 21) C dX12_number_81 (by decide) ?_
  exact v_sb (hk21 _ _ _ _ _ _ h) ⟨rfl, rfl, rfl, rfl, rfl, trivial⟩
set_option maxRecDepth 100000 in
set_option maxHeartbeats 4000000 in
theorem pH_X12_number_21 {x : CX} {l : Launch} {g : CG} {rv : Unit} {μ0 μ9 : Mem} (C : Cx x l g mi_X12_number) (F : Prom x g mi_X12_number μ0 none μ9) {N : Nat} {k21 : (Option Nat) → Int32 → Int32 → Int32 → Int32 → Mem → Option (Unit × Mem)} (hk21 : ∀ (a0 : Option Nat) (a1 : Int32) (a2 : Int32) (a3 : Int32) (a4 : Int32) (μ : Mem), k21 a0 a1 a2 a3 a4 μ = some (rv, μ9) → V x g 5 0 0 μ 21 [(0, aR a0), (1, aI a1), (2, aI a2), (3, aI a3), (4, aI a4)] []) {a0 : Option Nat} {a1 : Int32} {a2 : Int32} {a3 : Int32} {a4 : Int32} {μ : Mem} (h : H_X12_number_21 N k21 a0 a1 a2 a3 a4 μ = some (rv, μ9)) : V x g 5 0 0 μ 21 [(0, aR a0), (1, aI a1), (2, aI a2), (3, aI a3), (4, aI a4)] [] := by
  unfold H_X12_number_21 at h
  refine v_iload C dX12_number_21 rfl ?_
  refine v_iload_n C dX12_number_23 rfl ?_
  refine v_icmp_ge (tgt := 84) C dX12_number_24 (by decide) (fun c => ?_) (fun c => ?_)
  · replace h := ifT h c
    exact v_sb (p_X12_number_84 C F h) ⟨rfl, rfl, rfl, trivial⟩
  · replace h := ifF h c
    refine v_iload_n C dX12_number_27 rfl ?_
    refine v_if_eq (tgt := 84) C dX12_number_28 (by decide) (fun c => ?_) (fun c => ?_)
    · replace h := ifT h c
      exact v_sb (p_X12_number_84 C F h) ⟨rfl, rfl, rfl, trivial⟩
    · replace h := ifF h c
      refine v_aload_n C dX12_number_31 rfl ?_
      obtain ⟨v, e, h⟩ := ob h
      refine v_getR C dX12_number_32 gf_X12_28 e ?_
      refine v_iload C dX12_number_35 rfl ?_
      obtain ⟨v, e, h⟩ := ob h
      refine v_iaload C dX12_number_37 e ?_
      refine v_bipush (v := 48) C dX12_number_38 rfl ?_
      refine v_isub C dX12_number_40 ?_
      refine v_aload_n C dX12_number_41 rfl ?_
      obtain ⟨v, e, h⟩ := ob h
      refine v_getI C dX12_number_42 gf_X12_74 e ?_
      refine v_icmp_ge (tgt := 52) C dX12_number_45 (by decide) (fun c => ?_) (fun c => ?_)
      · replace h := ifT h c
        refine v_iconst (v := 0) C dX12_number_52 rfl ?_
        exact v_sb (p_X12_number_53 C F hk21 h) ⟨rfl, rfl, rfl, rfl, trivial⟩
      · replace h := ifF h c
        refine v_iconst (v := 1) C dX12_number_48 rfl ?_
        refine v_goto (tgt := 53) C dX12_number_49 (by decide) ?_
        exact v_sb (p_X12_number_53 C F hk21 h) ⟨rfl, rfl, rfl, rfl, trivial⟩
set_option maxRecDepth 100000 in
set_option maxHeartbeats 4000000 in
theorem pL_X12_number_21 {x : CX} {l : Launch} {g : CG} {rv : Unit} {μ0 μ9 : Mem} (C : Cx x l g mi_X12_number) (F : Prom x g mi_X12_number μ0 none μ9) (N : Nat) (n : Nat) : ∀ (a0 : Option Nat) (a1 : Int32) (a2 : Int32) (a3 : Int32) (a4 : Int32) (μ : Mem), L_X12_number_21 N n a0 a1 a2 a3 a4 μ = some (rv, μ9) → V x g 5 0 0 μ 21 [(0, aR a0), (1, aI a1), (2, aI a2), (3, aI a3), (4, aI a4)] [] := by
  induction n with
  | zero => intro a0 a1 a2 a3 a4 μ h; cases h
  | succ n ih => intro a0 a1 a2 a3 a4 μ h; exact pH_X12_number_21 C F ih h
set_option maxRecDepth 100000 in
set_option maxHeartbeats 4000000 in
theorem p_X12_number_17 {x : CX} {l : Launch} {g : CG} {rv : Unit} {μ0 μ9 : Mem} (C : Cx x l g mi_X12_number) (F : Prom x g mi_X12_number μ0 none μ9) {N : Nat} {a0 : Option Nat} {a1 : Int32} {a2 : Int32} {s0 : Int32} {μ : Mem} (h : f_X12_number_17 N a0 a1 a2 s0 μ = some (rv, μ9)) : V x g 5 0 0 μ 17 [(0, aR a0), (1, aI a1), (2, aI a2)] [aI s0] := by
  unfold f_X12_number_17 at h
  refine v_istore_n C dX12_number_17 (by decide) ?_
  refine v_iload_n C dX12_number_18 rfl ?_
  refine v_istore C dX12_number_19 (by decide) ?_
  exact v_sb (pL_X12_number_21 C F N N _ _ _ _ _ _ h) ⟨rfl, rfl, rfl, rfl, rfl, trivial⟩
set_option maxRecDepth 100000 in
set_option maxHeartbeats 4000000 in
theorem p_X12_number {x : CX} {l : Launch} {g : CG} {rv : Unit} {μ0 μ9 : Mem} (C : Cx x l g mi_X12_number) (F : Prom x g mi_X12_number μ0 none μ9) {N : Nat} {a0 : Option Nat} {a1 : Int32} {a2 : Int32} {μ : Mem} (h : f_X12_number N a0 a1 a2 μ = some (rv, μ9)) : V x g 5 0 0 μ 0 [(0, aR a0), (1, aI a1), (2, aI a2)] [] := by
  unfold f_X12_number at h
  refine v_aload_n C dX12_number_0 rfl ?_
  refine v_iconst (v := 0) C dX12_number_1 rfl ?_
  obtain ⟨m, e, h⟩ := ob h
  refine v_putI C dX12_number_2 (pf_X12_64 _) e ?_
  refine v_iload_n C dX12_number_5 rfl ?_
  refine v_iload_n C dX12_number_6 rfl ?_
  refine v_isub C dX12_number_7 ?_
  refine v_iconst (v := 4) C dX12_number_8 rfl ?_
  refine v_icmp_gt (tgt := 16) C dX12_number_9 (by decide) (fun c => ?_) (fun c => ?_)
  · replace h := ifT h c
    refine v_iconst (v := 0) C dX12_number_16 rfl ?_
    exact v_sb (p_X12_number_17 C F h) ⟨rfl, rfl, rfl, trivial⟩
  · replace h := ifF h c
    refine v_iconst (v := 1) C dX12_number_12 rfl ?_
    refine v_goto (tgt := 17) C dX12_number_13 (by decide) ?_
    exact v_sb (p_X12_number_17 C F h) ⟨rfl, rfl, rfl, trivial⟩
set_option maxRecDepth 100000 in
set_option maxHeartbeats 4000000 in
theorem c_X12_number (l : Launch) (g : CG) (N : Nat) (a0 : Option Nat) (a1 : Int32) (a2 : Int32) (μ : Mem) (rv : Unit) (μ9 : Mem) (h : f_X12_number N a0 a1 a2 μ = some (rv, μ9)) : Ct l yX12_number mi_X12_number g [aR a0, aI a1, aI a2] μ none μ9 := ct_of ⟨by decide, rfl, rfl⟩ (Nat.le_of_ble_eq_true rfl) fun x C F => p_X12_number C F h
def f_X12_look_90 (N : Nat) (a0 : Option Nat) (a1 : Int32) (μ : Mem) : Option (Unit × Mem) :=
  (mpI μ a0 12 13 a1).bind fun μ1 =>
  (mpI μ1 a0 12 12 5).bind fun μ2 =>
  (mpI μ2 a0 12 16 a1).bind fun μ3 =>
  some ((), μ3)
def H_X12_look_65 (N : Nat) (k65 : (Option Nat) → Int32 → Mem → Option (Unit × Mem)) (a0 : Option Nat) (a1 : Int32) (μ : Mem) : Option (Unit × Mem) :=
  (mfI μ a0 12 3).bind fun v1 =>
  if v1 ≤ a1 then
    f_X12_look_90 N a0 a1 μ
  else
    (mfR μ a0 12 2).bind fun v2 =>
    (maI μ 0 v2 a1).bind fun v3 =>
    if v3 = (10 : Int32) then
      f_X12_look_90 N a0 a1 μ
    else
      k65 a0 (a1 + 1) μ
def L_X12_look_65 (N : Nat) : Nat → (Option Nat) → Int32 → Mem → Option (Unit × Mem)
  | 0 => fun _ _ _ => none
  | n + 1 => H_X12_look_65 N (L_X12_look_65 N n)
def f_X12_look_304 (N : Nat) (a0 : Option Nat) (a3 : Int32) (μ : Mem) : Option (Unit × Mem) :=
  (mpI μ a0 12 16 a3).bind fun μ1 =>
  some ((), μ1)
def f_X12_look_260 (N : Nat) (a0 : Option Nat) (a3 : Int32) (μ : Mem) : Option (Unit × Mem) :=
  (mck μ a0 12).bind fun b2 =>
  (f_X12_at N (some b2) a3 μ).bind fun q1 =>
  (mpI q1.2 a0 12 14 (q1.1 ||| 128)).bind fun μ3 =>
  f_X12_look_304 N a0 (a3 + 1) μ3
def f_X12_look_254 (N : Nat) (a0 : Option Nat) (a1 : Int32) (a3 : Int32) (μ : Mem) : Option (Unit × Mem) :=
  (mck μ a0 12).bind fun b2 =>
  (f_X12_fails N (some b2) 1 a1 μ).bind fun q1 =>
  f_X12_look_260 N a0 a3 q1.2
def H_X12_look_189 (N : Nat) (k189 : (Option Nat) → Int32 → Int32 → Mem → Option (Unit × Mem)) (a0 : Option Nat) (a1 : Int32) (a3 : Int32) (μ : Mem) : Option (Unit × Mem) :=
  (mck μ a0 12).bind fun b2 =>
  (f_X12_at N (some b2) a3 μ).bind fun q1 =>
  (f_X12_isDigit N q1.1 q1.2).bind fun q3 =>
  if q3.1 = 0 then
    (mpI q3.2 a0 12 12 2).bind fun μ4 =>
    (mck μ4 a0 12).bind fun b6 =>
    (f_X12_number N (some b6) a1 a3 μ4).bind fun q5 =>
    f_X12_look_304 N a0 a3 q5.2
  else
    k189 a0 a1 (a3 + 1) q3.2
def L_X12_look_189 (N : Nat) : Nat → (Option Nat) → Int32 → Int32 → Mem → Option (Unit × Mem)
  | 0 => fun _ _ _ _ => none
  | n + 1 => H_X12_look_189 N (L_X12_look_189 N n)
def f_X12_look_146 (N : Nat) (k124 : (Option Nat) → Int32 → Int32 → Mem → Option (Unit × Mem)) (a0 : Option Nat) (a1 : Int32) (a3 : Int32) (μ : Mem) : Option (Unit × Mem) :=
  k124 a0 a1 (a3 + 1) μ
def H_X12_look_124 (N : Nat) (k124 : (Option Nat) → Int32 → Int32 → Mem → Option (Unit × Mem)) (a0 : Option Nat) (a1 : Int32) (a3 : Int32) (μ : Mem) : Option (Unit × Mem) :=
  (mck μ a0 12).bind fun b2 =>
  (f_X12_at N (some b2) a3 μ).bind fun q1 =>
  (f_X12_isLetter N q1.1 q1.2).bind fun q3 =>
  if ¬ q3.1 = 0 then
    f_X12_look_146 N k124 a0 a1 a3 q3.2
  else
    (mck q3.2 a0 12).bind fun b5 =>
    (f_X12_at N (some b5) a3 q3.2).bind fun q4 =>
    (f_X12_isDigit N q4.1 q4.2).bind fun q6 =>
    if q6.1 = 0 then
      (mpI q6.2 a0 12 12 1).bind fun μ7 =>
      (mpI μ7 a0 12 15 (a3 - a1)).bind fun μ8 =>
      (mfI μ8 a0 12 15).bind fun v9 =>
      if v9 ≤ (7 : Int32) then
        f_X12_look_304 N a0 a3 μ8
      else
        (mck μ8 a0 12).bind fun b11 =>
        (f_X12_fails N (some b11) 1 a1 μ8).bind fun q10 =>
        f_X12_look_304 N a0 a3 q10.2
    else
      f_X12_look_146 N k124 a0 a1 a3 q6.2
def L_X12_look_124 (N : Nat) : Nat → (Option Nat) → Int32 → Int32 → Mem → Option (Unit × Mem)
  | 0 => fun _ _ _ _ => none
  | n + 1 => H_X12_look_124 N (L_X12_look_124 N n)
def f_X12_look_30 (N : Nat) (a0 : Option Nat) (a1 : Int32) (μ : Mem) : Option (Unit × Mem) :=
  (mpI μ a0 12 13 a1).bind fun μ1 =>
  (mfI μ1 a0 12 3).bind fun v2 =>
  if v2 ≤ a1 then
    L_X12_look_65 N N a0 a1 μ1
  else
    (mfR μ1 a0 12 2).bind fun v3 =>
    (maI μ1 0 v3 a1).bind fun v4 =>
    if v4 = (10 : Int32) then
      L_X12_look_65 N N a0 a1 μ1
    else
      (mfR μ1 a0 12 2).bind fun v5 =>
      (maI μ1 0 v5 a1).bind fun v6 =>
      if ¬ v6 = (47 : Int32) then
        (mfR μ1 a0 12 2).bind fun v7 =>
        (maI μ1 0 v7 a1).bind fun v8 =>
        (f_X12_isLetter N v8 μ1).bind fun q9 =>
        if q9.1 = 0 then
          (f_X12_isDigit N v8 q9.2).bind fun q10 =>
          if q10.1 = 0 then
            if ¬ v8 = (34 : Int32) then
              (mpI q10.2 a0 12 12 4).bind fun μ11 =>
              (mpI μ11 a0 12 14 v8).bind fun μ12 =>
              (sIx1 11 v8).bind fun q13 =>
              if 0 ≤ q13 then
                f_X12_look_304 N a0 (a1 + 1) μ12
              else
                (mck μ12 a0 12).bind fun b15 =>
                (f_X12_fails N (some b15) 1 a1 μ12).bind fun q14 =>
                f_X12_look_304 N a0 (a1 + 1) q14.2
            else
              (mpI q10.2 a0 12 12 3).bind fun μ16 =>
              (mck μ16 a0 12).bind fun b18 =>
              (f_X12_at N (some b18) (a1 + 1) μ16).bind fun q17 =>
              (f_X12_in N q17.1 32 126 q17.2).bind fun q19 =>
              if q19.1 = 0 then
                f_X12_look_254 N a0 a1 (a1 + 1) q19.2
              else
                (mfI q19.2 a0 12 3).bind fun v20 =>
                if (a1 + 1) < v20 then
                  f_X12_look_260 N a0 (a1 + 1) q19.2
                else
                  f_X12_look_254 N a0 a1 (a1 + 1) q19.2
          else
            L_X12_look_189 N N a0 a1 (a1 + 1) q10.2
        else
          L_X12_look_124 N N a0 a1 (a1 + 1) q9.2
      else
        L_X12_look_65 N N a0 a1 μ1
def H_X12_look_5 (N : Nat) (k5 : (Option Nat) → Int32 → Mem → Option (Unit × Mem)) (a0 : Option Nat) (a1 : Int32) (μ : Mem) : Option (Unit × Mem) :=
  (mfI μ a0 12 3).bind fun v1 =>
  if v1 ≤ a1 then
    f_X12_look_30 N a0 a1 μ
  else
    (mfR μ a0 12 2).bind fun v2 =>
    (maI μ 0 v2 a1).bind fun v3 =>
    if ¬ v3 = (32 : Int32) then
      f_X12_look_30 N a0 a1 μ
    else
      k5 a0 (a1 + 1) μ
def L_X12_look_5 (N : Nat) : Nat → (Option Nat) → Int32 → Mem → Option (Unit × Mem)
  | 0 => fun _ _ _ => none
  | n + 1 => H_X12_look_5 N (L_X12_look_5 N n)
def f_X12_look (N : Nat) (a0 : Option Nat) (μ : Mem) : Option (Unit × Mem) :=
  (mfI μ a0 12 4).bind fun v1 =>
  L_X12_look_5 N N a0 v1 μ
set_option maxRecDepth 100000 in
set_option maxHeartbeats 4000000 in
theorem p_X12_look_90 {x : CX} {l : Launch} {g : CG} {rv : Unit} {μ0 μ9 : Mem} (C : Cx x l g mi_X12_look) (F : Prom x g mi_X12_look μ0 none μ9) {N : Nat} {a0 : Option Nat} {a1 : Int32} {μ : Mem} (h : f_X12_look_90 N a0 a1 μ = some (rv, μ9)) : V x g 4 0 0 μ 90 [(0, aR a0), (1, aI a1)] [] := by
  unfold f_X12_look_90 at h
  refine v_aload_n C dX12_look_90 rfl ?_
  refine v_iload_n C dX12_look_91 rfl ?_
  obtain ⟨m, e, h⟩ := ob h
  refine v_putI C dX12_look_92 (pf_X12_34 _) e ?_
  refine v_aload_n C dX12_look_95 rfl ?_
  refine v_iconst (v := 5) C dX12_look_96 rfl ?_
  obtain ⟨m, e, h⟩ := ob h
  refine v_putI C dX12_look_97 (pf_X12_37 _) e ?_
  refine v_aload_n C dX12_look_100 rfl ?_
  refine v_iload_n C dX12_look_101 rfl ?_
  obtain ⟨m, e, h⟩ := ob h
  refine v_putI C dX12_look_102 (pf_X12_40 _) e ?_
  exact v_vret C F ⟨rfl, rfl, Nat.le_refl _⟩ dX12_look_105 h
set_option maxRecDepth 100000 in
set_option maxHeartbeats 4000000 in
theorem pH_X12_look_65 {x : CX} {l : Launch} {g : CG} {rv : Unit} {μ0 μ9 : Mem} (C : Cx x l g mi_X12_look) (F : Prom x g mi_X12_look μ0 none μ9) {N : Nat} {k65 : (Option Nat) → Int32 → Mem → Option (Unit × Mem)} (hk65 : ∀ (a0 : Option Nat) (a1 : Int32) (μ : Mem), k65 a0 a1 μ = some (rv, μ9) → V x g 4 0 0 μ 65 [(0, aR a0), (1, aI a1)] []) {a0 : Option Nat} {a1 : Int32} {μ : Mem} (h : H_X12_look_65 N k65 a0 a1 μ = some (rv, μ9)) : V x g 4 0 0 μ 65 [(0, aR a0), (1, aI a1)] [] := by
  unfold H_X12_look_65 at h
  refine v_iload_n C dX12_look_65 rfl ?_
  refine v_aload_n C dX12_look_66 rfl ?_
  obtain ⟨v, e, h⟩ := ob h
  refine v_getI C dX12_look_67 gf_X12_25 e ?_
  refine v_icmp_ge (tgt := 90) C dX12_look_70 (by decide) (fun c => ?_) (fun c => ?_)
  · replace h := ifT h c
    exact v_sb (p_X12_look_90 C F h) ⟨rfl, rfl, trivial⟩
  · replace h := ifF h c
    refine v_aload_n C dX12_look_73 rfl ?_
    obtain ⟨v, e, h⟩ := ob h
    refine v_getR C dX12_look_74 gf_X12_28 e ?_
    refine v_iload_n C dX12_look_77 rfl ?_
    obtain ⟨v, e, h⟩ := ob h
    refine v_iaload C dX12_look_78 e ?_
    refine v_bipush (v := 10) C dX12_look_79 rfl ?_
    refine v_icmp_eq (tgt := 90) C dX12_look_81 (by decide) (fun c => ?_) (fun c => ?_)
    · replace h := ifT h c
      exact v_sb (p_X12_look_90 C F h) ⟨rfl, rfl, trivial⟩
    · replace h := ifF h c
      refine v_iinc (w := 1) C dX12_look_84 rfl rfl (by decide) ?_
      refine v_goto (tgt := 65) C dX12_look_87 (by decide) ?_
      exact v_sb (hk65 _ _ _ h) ⟨rfl, rfl, trivial⟩
set_option maxRecDepth 100000 in
set_option maxHeartbeats 4000000 in
theorem pL_X12_look_65 {x : CX} {l : Launch} {g : CG} {rv : Unit} {μ0 μ9 : Mem} (C : Cx x l g mi_X12_look) (F : Prom x g mi_X12_look μ0 none μ9) (N : Nat) (n : Nat) : ∀ (a0 : Option Nat) (a1 : Int32) (μ : Mem), L_X12_look_65 N n a0 a1 μ = some (rv, μ9) → V x g 4 0 0 μ 65 [(0, aR a0), (1, aI a1)] [] := by
  induction n with
  | zero => intro a0 a1 μ h; cases h
  | succ n ih => intro a0 a1 μ h; exact pH_X12_look_65 C F ih h
set_option maxRecDepth 100000 in
set_option maxHeartbeats 4000000 in
theorem p_X12_look_304 {x : CX} {l : Launch} {g : CG} {rv : Unit} {μ0 μ9 : Mem} (C : Cx x l g mi_X12_look) (F : Prom x g mi_X12_look μ0 none μ9) {N : Nat} {a0 : Option Nat} {a3 : Int32} {μ : Mem} (h : f_X12_look_304 N a0 a3 μ = some (rv, μ9)) : V x g 4 0 0 μ 304 [(0, aR a0), (3, aI a3)] [] := by
  unfold f_X12_look_304 at h
  refine v_aload_n C dX12_look_304 rfl ?_
  refine v_iload_n C dX12_look_305 rfl ?_
  obtain ⟨m, e, h⟩ := ob h
  refine v_putI C dX12_look_306 (pf_X12_40 _) e ?_
  exact v_vret C F ⟨rfl, rfl, Nat.le_refl _⟩ dX12_look_309 h
set_option maxRecDepth 100000 in
set_option maxHeartbeats 4000000 in
theorem p_X12_look_260 {x : CX} {l : Launch} {g : CG} {rv : Unit} {μ0 μ9 : Mem} (C : Cx x l g mi_X12_look) (F : Prom x g mi_X12_look μ0 none μ9) {N : Nat} {a0 : Option Nat} {a3 : Int32} {μ : Mem} (h : f_X12_look_260 N a0 a3 μ = some (rv, μ9)) : V x g 4 0 0 μ 260 [(0, aR a0), (3, aI a3)] [] := by
  unfold f_X12_look_260 at h
  refine v_aload_n C dX12_look_260 rfl ?_
  refine v_aload_n C dX12_look_261 rfl ?_
  refine v_iload_n C dX12_look_262 rfl ?_
  obtain ⟨b, e0, h⟩ := ob h
  obtain ⟨q, e, h⟩ := ob h
  refine v_callV (As := [_]) C dX12_look_263 cf_X12_47 (rm_X12_look_X12_at) ⟨rfl, rfl⟩ e0 rfl (Nat.le_of_ble_eq_true rfl) (c_X12_at _ _ N _ _ _ q.1 q.2 e) ?_
  refine v_sipush (v := 128) C dX12_look_266 rfl ?_
  refine v_ior C dX12_look_269 ?_
  obtain ⟨m, e, h⟩ := ob h
  refine v_putI C dX12_look_270 (pf_X12_64 _) e ?_
  refine v_iinc (w := 1) C dX12_look_273 rfl rfl (by decide) ?_
  refine v_goto (tgt := 304) C dX12_look_276 (by decide) ?_
  exact v_sb (p_X12_look_304 C F h) ⟨rfl, rfl, trivial⟩
set_option maxRecDepth 100000 in
set_option maxHeartbeats 4000000 in
theorem p_X12_look_254 {x : CX} {l : Launch} {g : CG} {rv : Unit} {μ0 μ9 : Mem} (C : Cx x l g mi_X12_look) (F : Prom x g mi_X12_look μ0 none μ9) {N : Nat} {a0 : Option Nat} {a1 : Int32} {a3 : Int32} {μ : Mem} (h : f_X12_look_254 N a0 a1 a3 μ = some (rv, μ9)) : V x g 4 0 0 μ 254 [(0, aR a0), (1, aI a1), (3, aI a3)] [] := by
  unfold f_X12_look_254 at h
  refine v_aload_n C dX12_look_254 rfl ?_
  refine v_iconst (v := 1) C dX12_look_255 rfl ?_
  refine v_iload_n C dX12_look_256 rfl ?_
  obtain ⟨b, e0, h⟩ := ob h
  obtain ⟨q, e, h⟩ := ob h
  refine v_callV (As := [_, _]) C dX12_look_257 cf_X12_57 (rm_X12_look_X12_fails) ⟨rfl, rfl⟩ e0 rfl (Nat.le_of_ble_eq_true rfl) (c_X12_fails _ _ N _ _ _ _ q.1 q.2 e) ?_
  exact v_sb (p_X12_look_260 C F h) ⟨rfl, rfl, trivial⟩
set_option maxRecDepth 100000 in
set_option maxHeartbeats 4000000 in
theorem pH_X12_look_189 {x : CX} {l : Launch} {g : CG} {rv : Unit} {μ0 μ9 : Mem} (C : Cx x l g mi_X12_look) (F : Prom x g mi_X12_look μ0 none μ9) {N : Nat} {k189 : (Option Nat) → Int32 → Int32 → Mem → Option (Unit × Mem)} (hk189 : ∀ (a0 : Option Nat) (a1 : Int32) (a3 : Int32) (μ : Mem), k189 a0 a1 a3 μ = some (rv, μ9) → V x g 4 0 0 μ 189 [(0, aR a0), (1, aI a1), (3, aI a3)] []) {a0 : Option Nat} {a1 : Int32} {a3 : Int32} {μ : Mem} (h : H_X12_look_189 N k189 a0 a1 a3 μ = some (rv, μ9)) : V x g 4 0 0 μ 189 [(0, aR a0), (1, aI a1), (3, aI a3)] [] := by
  unfold H_X12_look_189 at h
  refine v_aload_n C dX12_look_189 rfl ?_
  refine v_iload_n C dX12_look_190 rfl ?_
  obtain ⟨b, e0, h⟩ := ob h
  obtain ⟨q, e, h⟩ := ob h
  refine v_callV (As := [_]) C dX12_look_191 cf_X12_47 (rm_X12_look_X12_at) ⟨rfl, rfl⟩ e0 rfl (Nat.le_of_ble_eq_true rfl) (c_X12_at _ _ N _ _ _ q.1 q.2 e) ?_
  obtain ⟨q, e, h⟩ := ob h
  refine v_callS (As := [_]) C dX12_look_194 cf_X12_51 (rm_X12_look_X12_isDigit) ⟨rfl, rfl⟩ rfl (Nat.le_of_ble_eq_true rfl) (c_X12_isDigit _ _ N _ _ q.1 q.2 e) ?_
  refine v_if_eq (tgt := 206) C dX12_look_197 (by decide) (fun c => ?_) (fun c => ?_)
  · replace h := ifT h c
    refine v_aload_n C dX12_look_206 rfl ?_
    refine v_iconst (v := 2) C dX12_look_207 rfl ?_
    obtain ⟨m, e, h⟩ := ob h
    refine v_putI C dX12_look_208 (pf_X12_37 _) e ?_
    refine v_aload_n C dX12_look_211 rfl ?_
    refine v_iload_n C dX12_look_212 rfl ?_
    refine v_iload_n C dX12_look_213 rfl ?_
    obtain ⟨b, e0, h⟩ := ob h
    obtain ⟨q, e, h⟩ := ob h
    refine v_callV (As := [_, _]) C dX12_look_214 cf_X12_61 (rm_X12_look_X12_number) ⟨rfl, rfl⟩ e0 rfl (Nat.le_of_ble_eq_true rfl) (c_X12_number _ _ N _ _ _ _ q.1 q.2 e) ?_
    refine v_goto (tgt := 304) C dX12_look_217 (by decide) ?_
    exact v_sb (p_X12_look_304 C F h) ⟨rfl, rfl, trivial⟩
  · replace h := ifF h c
    refine v_iinc (w := 1) C dX12_look_200 rfl rfl (by decide) ?_
    refine v_goto (tgt := 189) C dX12_look_203 (by decide) ?_
    exact v_sb (hk189 _ _ _ _ h) ⟨rfl, rfl, rfl, trivial⟩
set_option maxRecDepth 100000 in
set_option maxHeartbeats 4000000 in
theorem pL_X12_look_189 {x : CX} {l : Launch} {g : CG} {rv : Unit} {μ0 μ9 : Mem} (C : Cx x l g mi_X12_look) (F : Prom x g mi_X12_look μ0 none μ9) (N : Nat) (n : Nat) : ∀ (a0 : Option Nat) (a1 : Int32) (a3 : Int32) (μ : Mem), L_X12_look_189 N n a0 a1 a3 μ = some (rv, μ9) → V x g 4 0 0 μ 189 [(0, aR a0), (1, aI a1), (3, aI a3)] [] := by
  induction n with
  | zero => intro a0 a1 a3 μ h; cases h
  | succ n ih => intro a0 a1 a3 μ h; exact pH_X12_look_189 C F ih h
set_option maxRecDepth 100000 in
set_option maxHeartbeats 4000000 in
theorem p_X12_look_146 {x : CX} {l : Launch} {g : CG} {rv : Unit} {μ0 μ9 : Mem} (C : Cx x l g mi_X12_look) (F : Prom x g mi_X12_look μ0 none μ9) {N : Nat} {k124 : (Option Nat) → Int32 → Int32 → Mem → Option (Unit × Mem)} (hk124 : ∀ (a0 : Option Nat) (a1 : Int32) (a3 : Int32) (μ : Mem), k124 a0 a1 a3 μ = some (rv, μ9) → V x g 4 0 0 μ 124 [(0, aR a0), (1, aI a1), (3, aI a3)] []) {a0 : Option Nat} {a1 : Int32} {a3 : Int32} {μ : Mem} (h : f_X12_look_146 N k124 a0 a1 a3 μ = some (rv, μ9)) : V x g 4 0 0 μ 146 [(0, aR a0), (1, aI a1), (3, aI a3)] [] := by
  unfold f_X12_look_146 at h
  refine v_iinc (w := 1) C dX12_look_146 rfl rfl (by decide) ?_
  refine v_goto (tgt := 124) C dX12_look_149 (by decide) ?_
  exact v_sb (hk124 _ _ _ _ h) ⟨rfl, rfl, rfl, trivial⟩
set_option maxRecDepth 100000 in
set_option maxHeartbeats 4000000 in
theorem pH_X12_look_124 {x : CX} {l : Launch} {g : CG} {rv : Unit} {μ0 μ9 : Mem} (C : Cx x l g mi_X12_look) (F : Prom x g mi_X12_look μ0 none μ9) {N : Nat} {k124 : (Option Nat) → Int32 → Int32 → Mem → Option (Unit × Mem)} (hk124 : ∀ (a0 : Option Nat) (a1 : Int32) (a3 : Int32) (μ : Mem), k124 a0 a1 a3 μ = some (rv, μ9) → V x g 4 0 0 μ 124 [(0, aR a0), (1, aI a1), (3, aI a3)] []) {a0 : Option Nat} {a1 : Int32} {a3 : Int32} {μ : Mem} (h : H_X12_look_124 N k124 a0 a1 a3 μ = some (rv, μ9)) : V x g 4 0 0 μ 124 [(0, aR a0), (1, aI a1), (3, aI a3)] [] := by
  unfold H_X12_look_124 at h
  refine v_aload_n C dX12_look_124 rfl ?_
  refine v_iload_n C dX12_look_125 rfl ?_
  obtain ⟨b, e0, h⟩ := ob h
  obtain ⟨q, e, h⟩ := ob h
  refine v_callV (As := [_]) C dX12_look_126 cf_X12_47 (rm_X12_look_X12_at) ⟨rfl, rfl⟩ e0 rfl (Nat.le_of_ble_eq_true rfl) (c_X12_at _ _ N _ _ _ q.1 q.2 e) ?_
  obtain ⟨q, e, h⟩ := ob h
  refine v_callS (As := [_]) C dX12_look_129 cf_X12_43 (rm_X12_look_X12_isLetter) ⟨rfl, rfl⟩ rfl (Nat.le_of_ble_eq_true rfl) (c_X12_isLetter _ _ N _ _ q.1 q.2 e) ?_
  refine v_if_ne (tgt := 146) C dX12_look_132 (by decide) (fun c => ?_) (fun c => ?_)
  · replace h := ifT h c
    exact v_sb (p_X12_look_146 C F hk124 h) ⟨rfl, rfl, rfl, trivial⟩
  · replace h := ifF h c
    refine v_aload_n C dX12_look_135 rfl ?_
    refine v_iload_n C dX12_look_136 rfl ?_
    obtain ⟨b, e0, h⟩ := ob h
    obtain ⟨q, e, h⟩ := ob h
    refine v_callV (As := [_]) C dX12_look_137 cf_X12_47 (rm_X12_look_X12_at) ⟨rfl, rfl⟩ e0 rfl (Nat.le_of_ble_eq_true rfl) (c_X12_at _ _ N _ _ _ q.1 q.2 e) ?_
    obtain ⟨q, e, h⟩ := ob h
    refine v_callS (As := [_]) C dX12_look_140 cf_X12_51 (rm_X12_look_X12_isDigit) ⟨rfl, rfl⟩ rfl (Nat.le_of_ble_eq_true rfl) (c_X12_isDigit _ _ N _ _ q.1 q.2 e) ?_
    refine v_if_eq (tgt := 152) C dX12_look_143 (by decide) (fun c => ?_) (fun c => ?_)
    · replace h := ifT h c
      refine v_aload_n C dX12_look_152 rfl ?_
      refine v_iconst (v := 1) C dX12_look_153 rfl ?_
      obtain ⟨m, e, h⟩ := ob h
      refine v_putI C dX12_look_154 (pf_X12_37 _) e ?_
      refine v_aload_n C dX12_look_157 rfl ?_
      refine v_iload_n C dX12_look_158 rfl ?_
      refine v_iload_n C dX12_look_159 rfl ?_
      refine v_isub C dX12_look_160 ?_
      obtain ⟨m, e, h⟩ := ob h
      refine v_putI C dX12_look_161 (pf_X12_54 _) e ?_
      refine v_aload_n C dX12_look_164 rfl ?_
      obtain ⟨v, e, h⟩ := ob h
      refine v_getI C dX12_look_165 gf_X12_54 e ?_
      refine v_bipush (v := 7) C dX12_look_168 rfl ?_
      refine v_icmp_le (tgt := 304) C dX12_look_170 (by decide) (fun c => ?_) (fun c => ?_)
      · replace h := ifT h c
        exact v_sb (p_X12_look_304 C F h) ⟨rfl, rfl, trivial⟩
      · replace h := ifF h c
        refine v_aload_n C dX12_look_173 rfl ?_
        refine v_iconst (v := 1) C dX12_look_174 rfl ?_
        refine v_iload_n C dX12_look_175 rfl ?_
        obtain ⟨b, e0, h⟩ := ob h
        obtain ⟨q, e, h⟩ := ob h
        refine v_callV (As := [_, _]) C dX12_look_176 cf_X12_57 (rm_X12_look_X12_fails) ⟨rfl, rfl⟩ e0 rfl (Nat.le_of_ble_eq_true rfl) (c_X12_fails _ _ N _ _ _ _ q.1 q.2 e) ?_
        refine v_goto (tgt := 304) C dX12_look_179 (by decide) ?_
        exact v_sb (p_X12_look_304 C F h) ⟨rfl, rfl, trivial⟩
    · replace h := ifF h c
      exact v_sb (p_X12_look_146 C F hk124 h) ⟨rfl, rfl, rfl, trivial⟩
set_option maxRecDepth 100000 in
set_option maxHeartbeats 4000000 in
theorem pL_X12_look_124 {x : CX} {l : Launch} {g : CG} {rv : Unit} {μ0 μ9 : Mem} (C : Cx x l g mi_X12_look) (F : Prom x g mi_X12_look μ0 none μ9) (N : Nat) (n : Nat) : ∀ (a0 : Option Nat) (a1 : Int32) (a3 : Int32) (μ : Mem), L_X12_look_124 N n a0 a1 a3 μ = some (rv, μ9) → V x g 4 0 0 μ 124 [(0, aR a0), (1, aI a1), (3, aI a3)] [] := by
  induction n with
  | zero => intro a0 a1 a3 μ h; cases h
  | succ n ih => intro a0 a1 a3 μ h; exact pH_X12_look_124 C F ih h
set_option maxRecDepth 100000 in
set_option maxHeartbeats 4000000 in
theorem p_X12_look_30 {x : CX} {l : Launch} {g : CG} {rv : Unit} {μ0 μ9 : Mem} (C : Cx x l g mi_X12_look) (F : Prom x g mi_X12_look μ0 none μ9) {N : Nat} {a0 : Option Nat} {a1 : Int32} {μ : Mem} (h : f_X12_look_30 N a0 a1 μ = some (rv, μ9)) : V x g 4 0 0 μ 30 [(0, aR a0), (1, aI a1)] [] := by
  unfold f_X12_look_30 at h
  refine v_aload_n C dX12_look_30 rfl ?_
  refine v_iload_n C dX12_look_31 rfl ?_
  obtain ⟨m, e, h⟩ := ob h
  refine v_putI C dX12_look_32 (pf_X12_34 _) e ?_
  refine v_iload_n C dX12_look_35 rfl ?_
  refine v_aload_n C dX12_look_36 rfl ?_
  obtain ⟨v, e, h⟩ := ob h
  refine v_getI C dX12_look_37 gf_X12_25 e ?_
  refine v_icmp_ge (tgt := 65) C dX12_look_40 (by decide) (fun c => ?_) (fun c => ?_)
  · replace h := ifT h c
    exact v_sb (pL_X12_look_65 C F N N _ _ _ h) ⟨rfl, rfl, trivial⟩
  · replace h := ifF h c
    refine v_aload_n C dX12_look_43 rfl ?_
    obtain ⟨v, e, h⟩ := ob h
    refine v_getR C dX12_look_44 gf_X12_28 e ?_
    refine v_iload_n C dX12_look_47 rfl ?_
    obtain ⟨v, e, h⟩ := ob h
    refine v_iaload C dX12_look_48 e ?_
    refine v_bipush (v := 10) C dX12_look_49 rfl ?_
    refine v_icmp_eq (tgt := 65) C dX12_look_51 (by decide) (fun c => ?_) (fun c => ?_)
    · replace h := ifT h c
      exact v_sb (pL_X12_look_65 C F N N _ _ _ h) ⟨rfl, rfl, trivial⟩
    · replace h := ifF h c
      refine v_aload_n C dX12_look_54 rfl ?_
      obtain ⟨v, e, h⟩ := ob h
      refine v_getR C dX12_look_55 gf_X12_28 e ?_
      refine v_iload_n C dX12_look_58 rfl ?_
      obtain ⟨v, e, h⟩ := ob h
      refine v_iaload C dX12_look_59 e ?_
      refine v_bipush (v := 47) C dX12_look_60 rfl ?_
      refine v_icmp_ne (tgt := 106) C dX12_look_62 (by decide) (fun c => ?_) (fun c => ?_)
      · replace h := ifT h c
        refine v_aload_n C dX12_look_106 rfl ?_
        obtain ⟨v, e, h⟩ := ob h
        refine v_getR C dX12_look_107 gf_X12_28 e ?_
        refine v_iload_n C dX12_look_110 rfl ?_
        obtain ⟨v, e, h⟩ := ob h
        refine v_iaload C dX12_look_111 e ?_
        refine v_istore_n C dX12_look_112 (by decide) ?_
        refine v_iload_n C dX12_look_113 rfl ?_
        refine v_iconst (v := 1) C dX12_look_114 rfl ?_
        refine v_iadd C dX12_look_115 ?_
        refine v_istore_n C dX12_look_116 (by decide) ?_
        refine v_iload_n C dX12_look_117 rfl ?_
        obtain ⟨q, e, h⟩ := ob h
        refine v_callS (As := [_]) C dX12_look_118 cf_X12_43 (rm_X12_look_X12_isLetter) ⟨rfl, rfl⟩ rfl (Nat.le_of_ble_eq_true rfl) (c_X12_isLetter _ _ N _ _ q.1 q.2 e) ?_
        refine v_if_eq (tgt := 182) C dX12_look_121 (by decide) (fun c => ?_) (fun c => ?_)
        · replace h := ifT h c
          refine v_iload_n C dX12_look_182 rfl ?_
          obtain ⟨q, e, h⟩ := ob h
          refine v_callS (As := [_]) C dX12_look_183 cf_X12_51 (rm_X12_look_X12_isDigit) ⟨rfl, rfl⟩ rfl (Nat.le_of_ble_eq_true rfl) (c_X12_isDigit _ _ N _ _ q.1 q.2 e) ?_
          refine v_if_eq (tgt := 220) C dX12_look_186 (by decide) (fun c => ?_) (fun c => ?_)
          · replace h := ifT h c
            refine v_iload_n C dX12_look_220 rfl ?_
            refine v_bipush (v := 34) C dX12_look_221 rfl ?_
            refine v_icmp_ne (tgt := 279) C dX12_look_223 (by decide) (fun c => ?_) (fun c => ?_)
            · replace h := ifT h c
              refine v_aload_n C dX12_look_279 rfl ?_
              refine v_iconst (v := 4) C dX12_look_280 rfl ?_
              obtain ⟨m, e, h⟩ := ob h
              refine v_putI C dX12_look_281 (pf_X12_37 _) e ?_
              refine v_aload_n C dX12_look_284 rfl ?_
              refine v_iload_n C dX12_look_285 rfl ?_
              obtain ⟨m, e, h⟩ := ob h
              refine v_putI C dX12_look_286 (pf_X12_64 _) e ?_
              refine v_ldcX C dX12_look_289 (Cex C).2.2.2.2.2.2.2.2.2.2.1 ?_
              refine v_iload_n C dX12_look_291 rfl ?_
              obtain ⟨q, e, h⟩ := ob h
              refine v_callX (As := [_]) C dX12_look_292 cf_X12_69 (rm_X12_look_J0_indexOf_0f7a4) ⟨rfl, rfl⟩ (xsIx1 e) rfl (Nat.le_of_ble_eq_true rfl) (csIx1 e) ?_
              refine v_if_ge (tgt := 304) C dX12_look_295 (by decide) (fun c => ?_) (fun c => ?_)
              · replace h := ifT h c
                exact v_sb (p_X12_look_304 C F h) ⟨rfl, rfl, trivial⟩
              · replace h := ifF h c
                refine v_aload_n C dX12_look_298 rfl ?_
                refine v_iconst (v := 1) C dX12_look_299 rfl ?_
                refine v_iload_n C dX12_look_300 rfl ?_
                obtain ⟨b, e0, h⟩ := ob h
                obtain ⟨q, e, h⟩ := ob h
                refine v_callV (As := [_, _]) C dX12_look_301 cf_X12_57 (rm_X12_look_X12_fails) ⟨rfl, rfl⟩ e0 rfl (Nat.le_of_ble_eq_true rfl) (c_X12_fails _ _ N _ _ _ _ q.1 q.2 e) ?_
                exact v_sb (p_X12_look_304 C F h) ⟨rfl, rfl, trivial⟩
            · replace h := ifF h c
              refine v_aload_n C dX12_look_226 rfl ?_
              refine v_iconst (v := 3) C dX12_look_227 rfl ?_
              obtain ⟨m, e, h⟩ := ob h
              refine v_putI C dX12_look_228 (pf_X12_37 _) e ?_
              refine v_aload_n C dX12_look_231 rfl ?_
              refine v_iload_n C dX12_look_232 rfl ?_
              obtain ⟨b, e0, h⟩ := ob h
              obtain ⟨q, e, h⟩ := ob h
              refine v_callV (As := [_]) C dX12_look_233 cf_X12_47 (rm_X12_look_X12_at) ⟨rfl, rfl⟩ e0 rfl (Nat.le_of_ble_eq_true rfl) (c_X12_at _ _ N _ _ _ q.1 q.2 e) ?_
              refine v_bipush (v := 32) C dX12_look_236 rfl ?_
              refine v_bipush (v := 126) C dX12_look_238 rfl ?_
              obtain ⟨q, e, h⟩ := ob h
              refine v_callS (As := [_, _, _]) C dX12_look_240 cf_X12_15 (rm_X12_look_X12_in) ⟨rfl, rfl⟩ rfl (Nat.le_of_ble_eq_true rfl) (c_X12_in _ _ N _ _ _ _ q.1 q.2 e) ?_
              refine v_if_eq (tgt := 254) C dX12_look_243 (by decide) (fun c => ?_) (fun c => ?_)
              · replace h := ifT h c
                exact v_sb (p_X12_look_254 C F h) ⟨rfl, rfl, rfl, trivial⟩
              · replace h := ifF h c
                refine v_iload_n C dX12_look_246 rfl ?_
                refine v_aload_n C dX12_look_247 rfl ?_
                obtain ⟨v, e, h⟩ := ob h
                refine v_getI C dX12_look_248 gf_X12_25 e ?_
                refine v_icmp_lt (tgt := 260) C dX12_look_251 (by decide) (fun c => ?_) (fun c => ?_)
                · replace h := ifT h c
                  exact v_sb (p_X12_look_260 C F h) ⟨rfl, rfl, trivial⟩
                · replace h := ifF h c
                  exact v_sb (p_X12_look_254 C F h) ⟨rfl, rfl, rfl, trivial⟩
          · replace h := ifF h c
            exact v_sb (pL_X12_look_189 C F N N _ _ _ _ h) ⟨rfl, rfl, rfl, trivial⟩
        · replace h := ifF h c
          exact v_sb (pL_X12_look_124 C F N N _ _ _ _ h) ⟨rfl, rfl, rfl, trivial⟩
      · replace h := ifF h c
        exact v_sb (pL_X12_look_65 C F N N _ _ _ h) ⟨rfl, rfl, trivial⟩
set_option maxRecDepth 100000 in
set_option maxHeartbeats 4000000 in
theorem pH_X12_look_5 {x : CX} {l : Launch} {g : CG} {rv : Unit} {μ0 μ9 : Mem} (C : Cx x l g mi_X12_look) (F : Prom x g mi_X12_look μ0 none μ9) {N : Nat} {k5 : (Option Nat) → Int32 → Mem → Option (Unit × Mem)} (hk5 : ∀ (a0 : Option Nat) (a1 : Int32) (μ : Mem), k5 a0 a1 μ = some (rv, μ9) → V x g 4 0 0 μ 5 [(0, aR a0), (1, aI a1)] []) {a0 : Option Nat} {a1 : Int32} {μ : Mem} (h : H_X12_look_5 N k5 a0 a1 μ = some (rv, μ9)) : V x g 4 0 0 μ 5 [(0, aR a0), (1, aI a1)] [] := by
  unfold H_X12_look_5 at h
  refine v_iload_n C dX12_look_5 rfl ?_
  refine v_aload_n C dX12_look_6 rfl ?_
  obtain ⟨v, e, h⟩ := ob h
  refine v_getI C dX12_look_7 gf_X12_25 e ?_
  refine v_icmp_ge (tgt := 30) C dX12_look_10 (by decide) (fun c => ?_) (fun c => ?_)
  · replace h := ifT h c
    exact v_sb (p_X12_look_30 C F h) ⟨rfl, rfl, trivial⟩
  · replace h := ifF h c
    refine v_aload_n C dX12_look_13 rfl ?_
    obtain ⟨v, e, h⟩ := ob h
    refine v_getR C dX12_look_14 gf_X12_28 e ?_
    refine v_iload_n C dX12_look_17 rfl ?_
    obtain ⟨v, e, h⟩ := ob h
    refine v_iaload C dX12_look_18 e ?_
    refine v_bipush (v := 32) C dX12_look_19 rfl ?_
    refine v_icmp_ne (tgt := 30) C dX12_look_21 (by decide) (fun c => ?_) (fun c => ?_)
    · replace h := ifT h c
      exact v_sb (p_X12_look_30 C F h) ⟨rfl, rfl, trivial⟩
    · replace h := ifF h c
      refine v_iinc (w := 1) C dX12_look_24 rfl rfl (by decide) ?_
      refine v_goto (tgt := 5) C dX12_look_27 (by decide) ?_
      exact v_sb (hk5 _ _ _ h) ⟨rfl, rfl, trivial⟩
set_option maxRecDepth 100000 in
set_option maxHeartbeats 4000000 in
theorem pL_X12_look_5 {x : CX} {l : Launch} {g : CG} {rv : Unit} {μ0 μ9 : Mem} (C : Cx x l g mi_X12_look) (F : Prom x g mi_X12_look μ0 none μ9) (N : Nat) (n : Nat) : ∀ (a0 : Option Nat) (a1 : Int32) (μ : Mem), L_X12_look_5 N n a0 a1 μ = some (rv, μ9) → V x g 4 0 0 μ 5 [(0, aR a0), (1, aI a1)] [] := by
  induction n with
  | zero => intro a0 a1 μ h; cases h
  | succ n ih => intro a0 a1 μ h; exact pH_X12_look_5 C F ih h
set_option maxRecDepth 100000 in
set_option maxHeartbeats 4000000 in
theorem p_X12_look {x : CX} {l : Launch} {g : CG} {rv : Unit} {μ0 μ9 : Mem} (C : Cx x l g mi_X12_look) (F : Prom x g mi_X12_look μ0 none μ9) {N : Nat} {a0 : Option Nat} {μ : Mem} (h : f_X12_look N a0 μ = some (rv, μ9)) : V x g 4 0 0 μ 0 [(0, aR a0)] [] := by
  unfold f_X12_look at h
  refine v_aload_n C dX12_look_0 rfl ?_
  obtain ⟨v, e, h⟩ := ob h
  refine v_getI C dX12_look_1 gf_X12_31 e ?_
  refine v_istore_n C dX12_look_4 (by decide) ?_
  exact v_sb (pL_X12_look_5 C F N N _ _ _ h) ⟨rfl, rfl, trivial⟩
set_option maxRecDepth 100000 in
set_option maxHeartbeats 4000000 in
theorem c_X12_look (l : Launch) (g : CG) (N : Nat) (a0 : Option Nat) (μ : Mem) (rv : Unit) (μ9 : Mem) (h : f_X12_look N a0 μ = some (rv, μ9)) : Ct l yX12_look mi_X12_look g [aR a0] μ none μ9 := ct_of ⟨by decide, rfl, rfl⟩ (Nat.le_of_ble_eq_true rfl) fun x C F => p_X12_look C F h
def f_X12_isNext_53 (N : Nat) (s0 : Int32) (μ : Mem) : Option (Int32 × Mem) :=
  retZ s0 μ
def f_X12_isNext_52 (N : Nat) (μ : Mem) : Option (Int32 × Mem) :=
  f_X12_isNext_53 N 0 μ
def f_X12_isNext_30 (N : Nat) (a0 : Option Nat) (a1 : Int32) (a2 : Int32) (μ : Mem) : Option (Int32 × Mem) :=
  (mfI μ a0 12 3).bind fun v1 =>
  if v1 ≤ a2 then
    f_X12_isNext_52 N μ
  else
    (mfR μ a0 12 2).bind fun v2 =>
    (maI μ 0 v2 a2).bind fun v3 =>
    if ¬ v3 = a1 then
      f_X12_isNext_52 N μ
    else
      f_X12_isNext_53 N 1 μ
def H_X12_isNext_5 (N : Nat) (k5 : (Option Nat) → Int32 → Int32 → Mem → Option (Int32 × Mem)) (a0 : Option Nat) (a1 : Int32) (a2 : Int32) (μ : Mem) : Option (Int32 × Mem) :=
  (mfI μ a0 12 3).bind fun v1 =>
  if v1 ≤ a2 then
    f_X12_isNext_30 N a0 a1 a2 μ
  else
    (mfR μ a0 12 2).bind fun v2 =>
    (maI μ 0 v2 a2).bind fun v3 =>
    if ¬ v3 = (32 : Int32) then
      f_X12_isNext_30 N a0 a1 a2 μ
    else
      k5 a0 a1 (a2 + 1) μ
def L_X12_isNext_5 (N : Nat) : Nat → (Option Nat) → Int32 → Int32 → Mem → Option (Int32 × Mem)
  | 0 => fun _ _ _ _ => none
  | n + 1 => H_X12_isNext_5 N (L_X12_isNext_5 N n)
def f_X12_isNext (N : Nat) (a0 : Option Nat) (a1 : Int32) (μ : Mem) : Option (Int32 × Mem) :=
  (mfI μ a0 12 16).bind fun v1 =>
  L_X12_isNext_5 N N a0 a1 v1 μ
set_option maxRecDepth 100000 in
set_option maxHeartbeats 4000000 in
theorem p_X12_isNext_53 {x : CX} {l : Launch} {g : CG} {rv : Int32} {μ0 μ9 : Mem} (C : Cx x l g mi_X12_isNext) (F : Prom x g mi_X12_isNext μ0 (some (aI rv)) μ9) {N : Nat} {s0 : Int32} {μ : Mem} (h : f_X12_isNext_53 N s0 μ = some (rv, μ9)) : V x g 3 0 0 μ 53 [] [aI s0] := by
  unfold f_X12_isNext_53 at h
  exact v_zret C F ⟨rfl, rfl, Nat.le_refl _⟩ dX12_isNext_53 h
set_option maxRecDepth 100000 in
set_option maxHeartbeats 4000000 in
theorem p_X12_isNext_52 {x : CX} {l : Launch} {g : CG} {rv : Int32} {μ0 μ9 : Mem} (C : Cx x l g mi_X12_isNext) (F : Prom x g mi_X12_isNext μ0 (some (aI rv)) μ9) {N : Nat} {μ : Mem} (h : f_X12_isNext_52 N μ = some (rv, μ9)) : V x g 3 0 0 μ 52 [] [] := by
  unfold f_X12_isNext_52 at h
  refine v_iconst (v := 0) C dX12_isNext_52 rfl ?_
  exact v_sb (p_X12_isNext_53 C F h) trivial
set_option maxRecDepth 100000 in
set_option maxHeartbeats 4000000 in
theorem p_X12_isNext_30 {x : CX} {l : Launch} {g : CG} {rv : Int32} {μ0 μ9 : Mem} (C : Cx x l g mi_X12_isNext) (F : Prom x g mi_X12_isNext μ0 (some (aI rv)) μ9) {N : Nat} {a0 : Option Nat} {a1 : Int32} {a2 : Int32} {μ : Mem} (h : f_X12_isNext_30 N a0 a1 a2 μ = some (rv, μ9)) : V x g 3 0 0 μ 30 [(0, aR a0), (1, aI a1), (2, aI a2)] [] := by
  unfold f_X12_isNext_30 at h
  refine v_iload_n C dX12_isNext_30 rfl ?_
  refine v_aload_n C dX12_isNext_31 rfl ?_
  obtain ⟨v, e, h⟩ := ob h
  refine v_getI C dX12_isNext_32 gf_X12_25 e ?_
  refine v_icmp_ge (tgt := 52) C dX12_isNext_35 (by decide) (fun c => ?_) (fun c => ?_)
  · replace h := ifT h c
    exact v_sb (p_X12_isNext_52 C F h) trivial
  · replace h := ifF h c
    refine v_aload_n C dX12_isNext_38 rfl ?_
    obtain ⟨v, e, h⟩ := ob h
    refine v_getR C dX12_isNext_39 gf_X12_28 e ?_
    refine v_iload_n C dX12_isNext_42 rfl ?_
    obtain ⟨v, e, h⟩ := ob h
    refine v_iaload C dX12_isNext_43 e ?_
    refine v_iload_n C dX12_isNext_44 rfl ?_
    refine v_icmp_ne (tgt := 52) C dX12_isNext_45 (by decide) (fun c => ?_) (fun c => ?_)
    · replace h := ifT h c
      exact v_sb (p_X12_isNext_52 C F h) trivial
    · replace h := ifF h c
      refine v_iconst (v := 1) C dX12_isNext_48 rfl ?_
      refine v_goto (tgt := 53) C dX12_isNext_49 (by decide) ?_
      exact v_sb (p_X12_isNext_53 C F h) trivial
set_option maxRecDepth 100000 in
set_option maxHeartbeats 4000000 in
theorem pH_X12_isNext_5 {x : CX} {l : Launch} {g : CG} {rv : Int32} {μ0 μ9 : Mem} (C : Cx x l g mi_X12_isNext) (F : Prom x g mi_X12_isNext μ0 (some (aI rv)) μ9) {N : Nat} {k5 : (Option Nat) → Int32 → Int32 → Mem → Option (Int32 × Mem)} (hk5 : ∀ (a0 : Option Nat) (a1 : Int32) (a2 : Int32) (μ : Mem), k5 a0 a1 a2 μ = some (rv, μ9) → V x g 3 0 0 μ 5 [(0, aR a0), (1, aI a1), (2, aI a2)] []) {a0 : Option Nat} {a1 : Int32} {a2 : Int32} {μ : Mem} (h : H_X12_isNext_5 N k5 a0 a1 a2 μ = some (rv, μ9)) : V x g 3 0 0 μ 5 [(0, aR a0), (1, aI a1), (2, aI a2)] [] := by
  unfold H_X12_isNext_5 at h
  refine v_iload_n C dX12_isNext_5 rfl ?_
  refine v_aload_n C dX12_isNext_6 rfl ?_
  obtain ⟨v, e, h⟩ := ob h
  refine v_getI C dX12_isNext_7 gf_X12_25 e ?_
  refine v_icmp_ge (tgt := 30) C dX12_isNext_10 (by decide) (fun c => ?_) (fun c => ?_)
  · replace h := ifT h c
    exact v_sb (p_X12_isNext_30 C F h) ⟨rfl, rfl, rfl, trivial⟩
  · replace h := ifF h c
    refine v_aload_n C dX12_isNext_13 rfl ?_
    obtain ⟨v, e, h⟩ := ob h
    refine v_getR C dX12_isNext_14 gf_X12_28 e ?_
    refine v_iload_n C dX12_isNext_17 rfl ?_
    obtain ⟨v, e, h⟩ := ob h
    refine v_iaload C dX12_isNext_18 e ?_
    refine v_bipush (v := 32) C dX12_isNext_19 rfl ?_
    refine v_icmp_ne (tgt := 30) C dX12_isNext_21 (by decide) (fun c => ?_) (fun c => ?_)
    · replace h := ifT h c
      exact v_sb (p_X12_isNext_30 C F h) ⟨rfl, rfl, rfl, trivial⟩
    · replace h := ifF h c
      refine v_iinc (w := 1) C dX12_isNext_24 rfl rfl (by decide) ?_
      refine v_goto (tgt := 5) C dX12_isNext_27 (by decide) ?_
      exact v_sb (hk5 _ _ _ _ h) ⟨rfl, rfl, rfl, trivial⟩
set_option maxRecDepth 100000 in
set_option maxHeartbeats 4000000 in
theorem pL_X12_isNext_5 {x : CX} {l : Launch} {g : CG} {rv : Int32} {μ0 μ9 : Mem} (C : Cx x l g mi_X12_isNext) (F : Prom x g mi_X12_isNext μ0 (some (aI rv)) μ9) (N : Nat) (n : Nat) : ∀ (a0 : Option Nat) (a1 : Int32) (a2 : Int32) (μ : Mem), L_X12_isNext_5 N n a0 a1 a2 μ = some (rv, μ9) → V x g 3 0 0 μ 5 [(0, aR a0), (1, aI a1), (2, aI a2)] [] := by
  induction n with
  | zero => intro a0 a1 a2 μ h; cases h
  | succ n ih => intro a0 a1 a2 μ h; exact pH_X12_isNext_5 C F ih h
set_option maxRecDepth 100000 in
set_option maxHeartbeats 4000000 in
theorem p_X12_isNext {x : CX} {l : Launch} {g : CG} {rv : Int32} {μ0 μ9 : Mem} (C : Cx x l g mi_X12_isNext) (F : Prom x g mi_X12_isNext μ0 (some (aI rv)) μ9) {N : Nat} {a0 : Option Nat} {a1 : Int32} {μ : Mem} (h : f_X12_isNext N a0 a1 μ = some (rv, μ9)) : V x g 3 0 0 μ 0 [(0, aR a0), (1, aI a1)] [] := by
  unfold f_X12_isNext at h
  refine v_aload_n C dX12_isNext_0 rfl ?_
  obtain ⟨v, e, h⟩ := ob h
  refine v_getI C dX12_isNext_1 gf_X12_40 e ?_
  refine v_istore_n C dX12_isNext_4 (by decide) ?_
  exact v_sb (pL_X12_isNext_5 C F N N _ _ _ _ h) ⟨rfl, rfl, rfl, trivial⟩
set_option maxRecDepth 100000 in
set_option maxHeartbeats 4000000 in
theorem c_X12_isNext (l : Launch) (g : CG) (N : Nat) (a0 : Option Nat) (a1 : Int32) (μ : Mem) (rv : Int32) (μ9 : Mem) (h : f_X12_isNext N a0 a1 μ = some (rv, μ9)) : Ct l yX12_isNext mi_X12_isNext g [aR a0, aI a1] μ (some (aI rv)) μ9 := ct_of ⟨by decide, rfl, rfl⟩ (Nat.le_of_ble_eq_true rfl) fun x C F => p_X12_isNext C F h
def f_X12_take (N : Nat) (a0 : Option Nat) (μ : Mem) : Option (Unit × Mem) :=
  (mfI μ a0 12 16).bind fun v1 =>
  (mpI μ a0 12 4 v1).bind fun μ2 =>
  (mck μ2 a0 12).bind fun b4 =>
  (f_X12_look N (some b4) μ2).bind fun q3 =>
  some ((), q3.2)
set_option maxRecDepth 100000 in
set_option maxHeartbeats 4000000 in
theorem p_X12_take {x : CX} {l : Launch} {g : CG} {rv : Unit} {μ0 μ9 : Mem} (C : Cx x l g mi_X12_take) (F : Prom x g mi_X12_take μ0 none μ9) {N : Nat} {a0 : Option Nat} {μ : Mem} (h : f_X12_take N a0 μ = some (rv, μ9)) : V x g 1 0 0 μ 0 [(0, aR a0)] [] := by
  unfold f_X12_take at h
  refine v_aload_n C dX12_take_0 rfl ?_
  refine v_aload_n C dX12_take_1 rfl ?_
  obtain ⟨v, e, h⟩ := ob h
  refine v_getI C dX12_take_2 gf_X12_40 e ?_
  obtain ⟨m, e, h⟩ := ob h
  refine v_putI C dX12_take_5 (pf_X12_31 _) e ?_
  refine v_aload_n C dX12_take_8 rfl ?_
  obtain ⟨b, e0, h⟩ := ob h
  obtain ⟨q, e, h⟩ := ob h
  refine v_callV (As := []) C dX12_take_9 cf_X12_77 (rm_X12_take_X12_look) ⟨rfl, rfl⟩ e0 rfl (Nat.le_of_ble_eq_true rfl) (c_X12_look _ _ N _ _ q.1 q.2 e) ?_
  exact v_vret C F ⟨rfl, rfl, Nat.le_refl _⟩ dX12_take_12 h
set_option maxRecDepth 100000 in
set_option maxHeartbeats 4000000 in
theorem c_X12_take (l : Launch) (g : CG) (N : Nat) (a0 : Option Nat) (μ : Mem) (rv : Unit) (μ9 : Mem) (h : f_X12_take N a0 μ = some (rv, μ9)) : Ct l yX12_take mi_X12_take g [aR a0] μ none μ9 := ct_of ⟨by decide, rfl, rfl⟩ (Nat.le_of_ble_eq_true rfl) fun x C F => p_X12_take C F h
