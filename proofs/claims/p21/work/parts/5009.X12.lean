/-! LAYER 1, ShareEightModel: blocksTask, looksFor, isWrong, mustWait, skip, memory, goes (by program) -/
def f_X12_blocksTask_90 (N : Nat) (s0 : Int32) (μ : Mem) : Option (Int32 × Mem) :=
  retZ s0 μ
def f_X12_blocksTask_80 (N : Nat) (a1 : Int32) (μ : Mem) : Option (Int32 × Mem) :=
  if a1 = (((-1)) : Int32) then
    f_X12_blocksTask_90 N 0 μ
  else
    f_X12_blocksTask_90 N 1 μ
def f_X12_blocksTask_70 (N : Nat) (a0 : Option Nat) (a1 : Int32) (s0 : Option Nat) (s1 : Int32) (μ : Mem) : Option (Int32 × Mem) :=
  (mfR μ a0 12 41).bind fun v1 =>
  (maI μ 0 v1 a1).bind fun v2 =>
  (mck μ s0 12).bind fun b4 =>
  (f_X12_starts N (some b4) s1 a1 v2 μ).bind fun q3 =>
  f_X12_blocksTask_80 N a1 q3.2
def f_X12_blocksTask_44 (N : Nat) (k4 : (Option Nat) → Int32 → Int32 → Mem → Option (Int32 × Mem)) (a0 : Option Nat) (a1 : Int32) (a2 : Int32) (μ : Mem) : Option (Int32 × Mem) :=
  k4 a0 a1 (a2 + 1) μ
def f_X12_blocksTask_42 (N : Nat) (k4 : (Option Nat) → Int32 → Int32 → Mem → Option (Int32 × Mem)) (a0 : Option Nat) (a2 : Int32) (μ : Mem) : Option (Int32 × Mem) :=
  f_X12_blocksTask_44 N k4 a0 a2 a2 μ
def H_X12_blocksTask_4 (N : Nat) (k4 : (Option Nat) → Int32 → Int32 → Mem → Option (Int32 × Mem)) (a0 : Option Nat) (a1 : Int32) (a2 : Int32) (μ : Mem) : Option (Int32 × Mem) :=
  (mfI μ a0 12 31).bind fun v1 =>
  if v1 ≤ a2 then
    if a1 = (((-1)) : Int32) then
      f_X12_blocksTask_80 N a1 μ
    else
      (mfR μ a0 12 61).bind fun v2 =>
      (maI μ 2 v2 a1).bind fun v3 =>
      if v3 = 0 then
        f_X12_blocksTask_70 N a0 a1 a0 3 μ
      else
        f_X12_blocksTask_70 N a0 a1 a0 4 μ
  else
    (mfR μ a0 12 42).bind fun v4 =>
    (maI μ 0 v4 a2).bind fun v5 =>
    if ¬ v5 = (5 : Int32) then
      f_X12_blocksTask_44 N k4 a0 a1 a2 μ
    else
      if a1 = (((-1)) : Int32) then
        f_X12_blocksTask_42 N k4 a0 a2 μ
      else
        (mfR μ a0 12 58).bind fun v6 =>
        (maI μ 0 v6 a2).bind fun v7 =>
        (mfR μ a0 12 58).bind fun v8 =>
        (maI μ 0 v8 a1).bind fun v9 =>
        if v9 ≤ v7 then
          f_X12_blocksTask_44 N k4 a0 a1 a2 μ
        else
          f_X12_blocksTask_42 N k4 a0 a2 μ
def L_X12_blocksTask_4 (N : Nat) : Nat → (Option Nat) → Int32 → Int32 → Mem → Option (Int32 × Mem)
  | 0 => fun _ _ _ _ => none
  | n + 1 => H_X12_blocksTask_4 N (L_X12_blocksTask_4 N n)
def f_X12_blocksTask (N : Nat) (a0 : Option Nat) (μ : Mem) : Option (Int32 × Mem) :=
  L_X12_blocksTask_4 N N a0 ((-1)) 0 μ
set_option maxRecDepth 100000 in
set_option maxHeartbeats 4000000 in
theorem p_X12_blocksTask_90 {x : CX} {l : Launch} {g : CG} {rv : Int32} {μ0 μ9 : Mem} (C : Cx x l g mi_X12_blocksTask) (F : Prom x g mi_X12_blocksTask μ0 (some (aI rv)) μ9) {N : Nat} {s0 : Int32} {μ : Mem} (h : f_X12_blocksTask_90 N s0 μ = some (rv, μ9)) : V x g 3 0 0 μ 90 [] [aI s0] := by
  unfold f_X12_blocksTask_90 at h
  exact v_zret C F ⟨rfl, rfl, Nat.le_refl _⟩ dX12_blocksTask_90 h
set_option maxRecDepth 100000 in
set_option maxHeartbeats 4000000 in
theorem p_X12_blocksTask_80 {x : CX} {l : Launch} {g : CG} {rv : Int32} {μ0 μ9 : Mem} (C : Cx x l g mi_X12_blocksTask) (F : Prom x g mi_X12_blocksTask μ0 (some (aI rv)) μ9) {N : Nat} {a1 : Int32} {μ : Mem} (h : f_X12_blocksTask_80 N a1 μ = some (rv, μ9)) : V x g 3 0 0 μ 80 [(1, aI a1)] [] := by
  unfold f_X12_blocksTask_80 at h
  refine v_iload_n C dX12_blocksTask_80 rfl ?_
  refine v_iconst (v := -1) C dX12_blocksTask_81 rfl ?_
  refine v_icmp_eq (tgt := 89) C dX12_blocksTask_82 (by decide) (fun c => ?_) (fun c => ?_)
  · replace h := ifT h c
    refine v_iconst (v := 0) C dX12_blocksTask_89 rfl ?_
    exact v_sb (p_X12_blocksTask_90 C F h) trivial
  · replace h := ifF h c
    refine v_iconst (v := 1) C dX12_blocksTask_85 rfl ?_
    refine v_goto (tgt := 90) C dX12_blocksTask_86 (by decide) ?_
    exact v_sb (p_X12_blocksTask_90 C F h) trivial
set_option maxRecDepth 100000 in
set_option maxHeartbeats 4000000 in
theorem p_X12_blocksTask_70 {x : CX} {l : Launch} {g : CG} {rv : Int32} {μ0 μ9 : Mem} (C : Cx x l g mi_X12_blocksTask) (F : Prom x g mi_X12_blocksTask μ0 (some (aI rv)) μ9) {N : Nat} {a0 : Option Nat} {a1 : Int32} {s0 : Option Nat} {s1 : Int32} {μ : Mem} (h : f_X12_blocksTask_70 N a0 a1 s0 s1 μ = some (rv, μ9)) : V x g 3 0 0 μ 70 [(0, aR a0), (1, aI a1)] [aI s1, aR s0] := by
  unfold f_X12_blocksTask_70 at h
  refine v_iload_n C dX12_blocksTask_70 rfl ?_
  refine v_aload_n C dX12_blocksTask_71 rfl ?_
  obtain ⟨v, e, h⟩ := ob h
  refine v_getR C dX12_blocksTask_72 gf_X12_275 e ?_
  refine v_iload_n C dX12_blocksTask_75 rfl ?_
  obtain ⟨v, e, h⟩ := ob h
  refine v_iaload C dX12_blocksTask_76 e ?_
  obtain ⟨b, e0, h⟩ := ob h
  obtain ⟨q, e, h⟩ := ob h
  refine v_callV (As := [_, _, _]) C dX12_blocksTask_77 cf_X12_423 (rm_X12_blocksTask_X12_starts) ⟨rfl, rfl⟩ e0 rfl (Nat.le_of_ble_eq_true rfl) (c_X12_starts _ _ N _ _ _ _ _ q.1 q.2 e) ?_
  exact v_sb (p_X12_blocksTask_80 C F h) ⟨rfl, trivial⟩
set_option maxRecDepth 100000 in
set_option maxHeartbeats 4000000 in
theorem p_X12_blocksTask_44 {x : CX} {l : Launch} {g : CG} {rv : Int32} {μ0 μ9 : Mem} (C : Cx x l g mi_X12_blocksTask) (F : Prom x g mi_X12_blocksTask μ0 (some (aI rv)) μ9) {N : Nat} {k4 : (Option Nat) → Int32 → Int32 → Mem → Option (Int32 × Mem)} (hk4 : ∀ (a0 : Option Nat) (a1 : Int32) (a2 : Int32) (μ : Mem), k4 a0 a1 a2 μ = some (rv, μ9) → V x g 3 0 0 μ 4 [(0, aR a0), (1, aI a1), (2, aI a2)] []) {a0 : Option Nat} {a1 : Int32} {a2 : Int32} {μ : Mem} (h : f_X12_blocksTask_44 N k4 a0 a1 a2 μ = some (rv, μ9)) : V x g 3 0 0 μ 44 [(0, aR a0), (1, aI a1), (2, aI a2)] [] := by
  unfold f_X12_blocksTask_44 at h
  refine v_iinc (w := 1) C dX12_blocksTask_44 rfl rfl (by decide) ?_
  refine v_goto (tgt := 4) C dX12_blocksTask_47 (by decide) ?_
  exact v_sb (hk4 _ _ _ _ h) ⟨rfl, rfl, rfl, trivial⟩
set_option maxRecDepth 100000 in
set_option maxHeartbeats 4000000 in
theorem p_X12_blocksTask_42 {x : CX} {l : Launch} {g : CG} {rv : Int32} {μ0 μ9 : Mem} (C : Cx x l g mi_X12_blocksTask) (F : Prom x g mi_X12_blocksTask μ0 (some (aI rv)) μ9) {N : Nat} {k4 : (Option Nat) → Int32 → Int32 → Mem → Option (Int32 × Mem)} (hk4 : ∀ (a0 : Option Nat) (a1 : Int32) (a2 : Int32) (μ : Mem), k4 a0 a1 a2 μ = some (rv, μ9) → V x g 3 0 0 μ 4 [(0, aR a0), (1, aI a1), (2, aI a2)] []) {a0 : Option Nat} {a2 : Int32} {μ : Mem} (h : f_X12_blocksTask_42 N k4 a0 a2 μ = some (rv, μ9)) : V x g 3 0 0 μ 42 [(0, aR a0), (2, aI a2)] [] := by
  unfold f_X12_blocksTask_42 at h
  refine v_iload_n C dX12_blocksTask_42 rfl ?_
  refine v_istore_n C dX12_blocksTask_43 (by decide) ?_
  exact v_sb (p_X12_blocksTask_44 C F hk4 h) ⟨rfl, rfl, rfl, trivial⟩
set_option maxRecDepth 100000 in
set_option maxHeartbeats 4000000 in
theorem pH_X12_blocksTask_4 {x : CX} {l : Launch} {g : CG} {rv : Int32} {μ0 μ9 : Mem} (C : Cx x l g mi_X12_blocksTask) (F : Prom x g mi_X12_blocksTask μ0 (some (aI rv)) μ9) {N : Nat} {k4 : (Option Nat) → Int32 → Int32 → Mem → Option (Int32 × Mem)} (hk4 : ∀ (a0 : Option Nat) (a1 : Int32) (a2 : Int32) (μ : Mem), k4 a0 a1 a2 μ = some (rv, μ9) → V x g 3 0 0 μ 4 [(0, aR a0), (1, aI a1), (2, aI a2)] []) {a0 : Option Nat} {a1 : Int32} {a2 : Int32} {μ : Mem} (h : H_X12_blocksTask_4 N k4 a0 a1 a2 μ = some (rv, μ9)) : V x g 3 0 0 μ 4 [(0, aR a0), (1, aI a1), (2, aI a2)] [] := by
  unfold H_X12_blocksTask_4 at h
  refine v_iload_n C dX12_blocksTask_4 rfl ?_
  refine v_aload_n C dX12_blocksTask_5 rfl ?_
  obtain ⟨v, e, h⟩ := ob h
  refine v_getI C dX12_blocksTask_6 gf_X12_243 e ?_
  refine v_icmp_ge (tgt := 50) C dX12_blocksTask_9 (by decide) (fun c => ?_) (fun c => ?_)
  · replace h := ifT h c
    refine v_iload_n C dX12_blocksTask_50 rfl ?_
    refine v_iconst (v := -1) C dX12_blocksTask_51 rfl ?_
    refine v_icmp_eq (tgt := 80) C dX12_blocksTask_52 (by decide) (fun c => ?_) (fun c => ?_)
    · replace h := ifT h c
      exact v_sb (p_X12_blocksTask_80 C F h) ⟨rfl, trivial⟩
    · replace h := ifF h c
      refine v_aload_n C dX12_blocksTask_55 rfl ?_
      refine v_aload_n C dX12_blocksTask_56 rfl ?_
      obtain ⟨v, e, h⟩ := ob h
      refine v_getR C dX12_blocksTask_57 gf_X12_335 e ?_
      refine v_iload_n C dX12_blocksTask_60 rfl ?_
      obtain ⟨v, e, h⟩ := ob h
      refine v_baload C dX12_blocksTask_61 e ?_
      refine v_if_eq (tgt := 69) C dX12_blocksTask_62 (by decide) (fun c => ?_) (fun c => ?_)
      · replace h := ifT h c
        refine v_iconst (v := 3) C dX12_blocksTask_69 rfl ?_
        exact v_sb (p_X12_blocksTask_70 C F h) ⟨rfl, rfl, trivial⟩
      · replace h := ifF h c
        refine v_iconst (v := 4) C dX12_blocksTask_65 rfl ?_
        refine v_goto (tgt := 70) C dX12_blocksTask_66 (by decide) ?_
        exact v_sb (p_X12_blocksTask_70 C F h) ⟨rfl, rfl, trivial⟩
  · replace h := ifF h c
    refine v_aload_n C dX12_blocksTask_12 rfl ?_
    obtain ⟨v, e, h⟩ := ob h
    refine v_getR C dX12_blocksTask_13 gf_X12_278 e ?_
    refine v_iload_n C dX12_blocksTask_16 rfl ?_
    obtain ⟨v, e, h⟩ := ob h
    refine v_iaload C dX12_blocksTask_17 e ?_
    refine v_iconst (v := 5) C dX12_blocksTask_18 rfl ?_
    refine v_icmp_ne (tgt := 44) C dX12_blocksTask_19 (by decide) (fun c => ?_) (fun c => ?_)
    · replace h := ifT h c
      exact v_sb (p_X12_blocksTask_44 C F hk4 h) ⟨rfl, rfl, rfl, trivial⟩
    · replace h := ifF h c
      refine v_iload_n C dX12_blocksTask_22 rfl ?_
      refine v_iconst (v := -1) C dX12_blocksTask_23 rfl ?_
      refine v_icmp_eq (tgt := 42) C dX12_blocksTask_24 (by decide) (fun c => ?_) (fun c => ?_)
      · replace h := ifT h c
        exact v_sb (p_X12_blocksTask_42 C F hk4 h) ⟨rfl, rfl, trivial⟩
      · replace h := ifF h c
        refine v_aload_n C dX12_blocksTask_27 rfl ?_
        obtain ⟨v, e, h⟩ := ob h
        refine v_getR C dX12_blocksTask_28 gf_X12_326 e ?_
        refine v_iload_n C dX12_blocksTask_31 rfl ?_
        obtain ⟨v, e, h⟩ := ob h
        refine v_iaload C dX12_blocksTask_32 e ?_
        refine v_aload_n C dX12_blocksTask_33 rfl ?_
        obtain ⟨v, e, h⟩ := ob h
        refine v_getR C dX12_blocksTask_34 gf_X12_326 e ?_
        refine v_iload_n C dX12_blocksTask_37 rfl ?_
        obtain ⟨v, e, h⟩ := ob h
        refine v_iaload C dX12_blocksTask_38 e ?_
        refine v_icmp_ge (tgt := 44) C dX12_blocksTask_39 (by decide) (fun c => ?_) (fun c => ?_)
        · replace h := ifT h c
          exact v_sb (p_X12_blocksTask_44 C F hk4 h) ⟨rfl, rfl, rfl, trivial⟩
        · replace h := ifF h c
          exact v_sb (p_X12_blocksTask_42 C F hk4 h) ⟨rfl, rfl, trivial⟩
set_option maxRecDepth 100000 in
set_option maxHeartbeats 4000000 in
theorem pL_X12_blocksTask_4 {x : CX} {l : Launch} {g : CG} {rv : Int32} {μ0 μ9 : Mem} (C : Cx x l g mi_X12_blocksTask) (F : Prom x g mi_X12_blocksTask μ0 (some (aI rv)) μ9) (N : Nat) (n : Nat) : ∀ (a0 : Option Nat) (a1 : Int32) (a2 : Int32) (μ : Mem), L_X12_blocksTask_4 N n a0 a1 a2 μ = some (rv, μ9) → V x g 3 0 0 μ 4 [(0, aR a0), (1, aI a1), (2, aI a2)] [] := by
  induction n with
  | zero => intro a0 a1 a2 μ h; cases h
  | succ n ih => intro a0 a1 a2 μ h; exact pH_X12_blocksTask_4 C F ih h
set_option maxRecDepth 100000 in
set_option maxHeartbeats 4000000 in
theorem p_X12_blocksTask {x : CX} {l : Launch} {g : CG} {rv : Int32} {μ0 μ9 : Mem} (C : Cx x l g mi_X12_blocksTask) (F : Prom x g mi_X12_blocksTask μ0 (some (aI rv)) μ9) {N : Nat} {a0 : Option Nat} {μ : Mem} (h : f_X12_blocksTask N a0 μ = some (rv, μ9)) : V x g 3 0 0 μ 0 [(0, aR a0)] [] := by
  unfold f_X12_blocksTask at h
  refine v_iconst (v := -1) C dX12_blocksTask_0 rfl ?_
  refine v_istore_n C dX12_blocksTask_1 (by decide) ?_
  refine v_iconst (v := 0) C dX12_blocksTask_2 rfl ?_
  refine v_istore_n C dX12_blocksTask_3 (by decide) ?_
  exact v_sb (pL_X12_blocksTask_4 C F N N _ _ _ _ h) ⟨rfl, rfl, rfl, trivial⟩
set_option maxRecDepth 100000 in
set_option maxHeartbeats 4000000 in
theorem c_X12_blocksTask (l : Launch) (g : CG) (N : Nat) (a0 : Option Nat) (μ : Mem) (rv : Int32) (μ9 : Mem) (h : f_X12_blocksTask N a0 μ = some (rv, μ9)) : Ct l yX12_blocksTask mi_X12_blocksTask g [aR a0] μ (some (aI rv)) μ9 := ct_of ⟨by decide, rfl, rfl⟩ (Nat.le_of_ble_eq_true rfl) fun x C F => p_X12_blocksTask C F h
def f_X12_looksFor_34 (N : Nat) (μ : Mem) : Option (Unit × Mem) :=
  some ((), μ)
def f_X12_looksFor (N : Nat) (a0 : Option Nat) (μ : Mem) : Option (Unit × Mem) :=
  (mfI μ a0 12 77).bind fun v1 =>
  if v1 = 0 then
    (mck μ a0 12).bind fun b3 =>
    (f_X12_blocksTask N (some b3) μ).bind fun q2 =>
    if ¬ q2.1 = 0 then
      f_X12_looksFor_34 N q2.2
    else
      (mck q2.2 a0 12).bind fun b5 =>
      (f_X12_queuesTask N (some b5) q2.2).bind fun q4 =>
      f_X12_looksFor_34 N q4.2
  else
    (mck μ a0 12).bind fun b7 =>
    (f_X12_queuesTask N (some b7) μ).bind fun q6 =>
    if ¬ q6.1 = 0 then
      f_X12_looksFor_34 N q6.2
    else
      (mck q6.2 a0 12).bind fun b9 =>
      (f_X12_blocksTask N (some b9) q6.2).bind fun q8 =>
      f_X12_looksFor_34 N q8.2
set_option maxRecDepth 100000 in
set_option maxHeartbeats 4000000 in
theorem p_X12_looksFor_34 {x : CX} {l : Launch} {g : CG} {rv : Unit} {μ0 μ9 : Mem} (C : Cx x l g mi_X12_looksFor) (F : Prom x g mi_X12_looksFor μ0 none μ9) {N : Nat} {μ : Mem} (h : f_X12_looksFor_34 N μ = some (rv, μ9)) : V x g 1 0 0 μ 34 [] [] := by
  unfold f_X12_looksFor_34 at h
  exact v_vret C F ⟨rfl, rfl, Nat.le_refl _⟩ dX12_looksFor_34 h
set_option maxRecDepth 100000 in
set_option maxHeartbeats 4000000 in
theorem p_X12_looksFor {x : CX} {l : Launch} {g : CG} {rv : Unit} {μ0 μ9 : Mem} (C : Cx x l g mi_X12_looksFor) (F : Prom x g mi_X12_looksFor μ0 none μ9) {N : Nat} {a0 : Option Nat} {μ : Mem} (h : f_X12_looksFor N a0 μ = some (rv, μ9)) : V x g 1 0 0 μ 0 [(0, aR a0)] [] := by
  unfold f_X12_looksFor at h
  refine v_aload_n C dX12_looksFor_0 rfl ?_
  obtain ⟨v, e, h⟩ := ob h
  refine v_getI C dX12_looksFor_1 gf_X12_414 e ?_
  refine v_if_eq (tgt := 22) C dX12_looksFor_4 (by decide) (fun c => ?_) (fun c => ?_)
  · replace h := ifT h c
    refine v_aload_n C dX12_looksFor_22 rfl ?_
    obtain ⟨b, e0, h⟩ := ob h
    obtain ⟨q, e, h⟩ := ob h
    refine v_callV (As := []) C dX12_looksFor_23 cf_X12_420 (rm_X12_looksFor_X12_blocksTask) ⟨rfl, rfl⟩ e0 rfl (Nat.le_of_ble_eq_true rfl) (c_X12_blocksTask _ _ N _ _ q.1 q.2 e) ?_
    refine v_if_ne (tgt := 34) C dX12_looksFor_26 (by decide) (fun c => ?_) (fun c => ?_)
    · replace h := ifT h c
      exact v_sb (p_X12_looksFor_34 C F h) trivial
    · replace h := ifF h c
      refine v_aload_n C dX12_looksFor_29 rfl ?_
      obtain ⟨b, e0, h⟩ := ob h
      obtain ⟨q, e, h⟩ := ob h
      refine v_callV (As := []) C dX12_looksFor_30 cf_X12_417 (rm_X12_looksFor_X12_queuesTask) ⟨rfl, rfl⟩ e0 rfl (Nat.le_of_ble_eq_true rfl) (c_X12_queuesTask _ _ N _ _ q.1 q.2 e) ?_
      refine v_pop C dX12_looksFor_33 rfl ?_
      exact v_sb (p_X12_looksFor_34 C F h) trivial
  · replace h := ifF h c
    refine v_aload_n C dX12_looksFor_7 rfl ?_
    obtain ⟨b, e0, h⟩ := ob h
    obtain ⟨q, e, h⟩ := ob h
    refine v_callV (As := []) C dX12_looksFor_8 cf_X12_417 (rm_X12_looksFor_X12_queuesTask) ⟨rfl, rfl⟩ e0 rfl (Nat.le_of_ble_eq_true rfl) (c_X12_queuesTask _ _ N _ _ q.1 q.2 e) ?_
    refine v_if_ne (tgt := 34) C dX12_looksFor_11 (by decide) (fun c => ?_) (fun c => ?_)
    · replace h := ifT h c
      exact v_sb (p_X12_looksFor_34 C F h) trivial
    · replace h := ifF h c
      refine v_aload_n C dX12_looksFor_14 rfl ?_
      obtain ⟨b, e0, h⟩ := ob h
      obtain ⟨q, e, h⟩ := ob h
      refine v_callV (As := []) C dX12_looksFor_15 cf_X12_420 (rm_X12_looksFor_X12_blocksTask) ⟨rfl, rfl⟩ e0 rfl (Nat.le_of_ble_eq_true rfl) (c_X12_blocksTask _ _ N _ _ q.1 q.2 e) ?_
      refine v_pop C dX12_looksFor_18 rfl ?_
      refine v_goto (tgt := 34) C dX12_looksFor_19 (by decide) ?_
      exact v_sb (p_X12_looksFor_34 C F h) trivial
set_option maxRecDepth 100000 in
set_option maxHeartbeats 4000000 in
theorem c_X12_looksFor (l : Launch) (g : CG) (N : Nat) (a0 : Option Nat) (μ : Mem) (rv : Unit) (μ9 : Mem) (h : f_X12_looksFor N a0 μ = some (rv, μ9)) : Ct l yX12_looksFor mi_X12_looksFor g [aR a0] μ none μ9 := ct_of ⟨by decide, rfl, rfl⟩ (Nat.le_of_ble_eq_true rfl) fun x C F => p_X12_looksFor C F h
def f_X12_isWrong_228 (N : Nat) (μ : Mem) : Option (Int32 × Mem) :=
  retZ 0 μ
def f_X12_isWrong_55 (N : Nat) (a0 : Option Nat) (μ : Mem) : Option (Int32 × Mem) :=
  (mfI μ a0 12 78).bind fun v1 =>
  if (v1 >>> ((9 : Int32) &&& 31)) = (6 : Int32) then
    (mfI μ a0 12 78).bind fun v2 =>
    if v2 = 3097 then
      f_X12_isWrong_228 N μ
    else
      if v2 = 3098 then
        f_X12_isWrong_228 N μ
      else
        if v2 = 3100 then
          f_X12_isWrong_228 N μ
        else
          if v2 = 3102 then
            f_X12_isWrong_228 N μ
          else
            if v2 = 3105 then
              f_X12_isWrong_228 N μ
            else
              if v2 = 3106 then
                f_X12_isWrong_228 N μ
              else
                if v2 = 3108 then
                  f_X12_isWrong_228 N μ
                else
                  if v2 = 3110 then
                    f_X12_isWrong_228 N μ
                  else
                    if v2 = 3201 then
                      f_X12_isWrong_228 N μ
                    else
                      if v2 = 3202 then
                        f_X12_isWrong_228 N μ
                      else
                        if v2 = 3203 then
                          f_X12_isWrong_228 N μ
                        else
                          if v2 = 3212 then
                            f_X12_isWrong_228 N μ
                          else
                            if v2 = 3220 then
                              f_X12_isWrong_228 N μ
                            else
                              if v2 = 3228 then
                                f_X12_isWrong_228 N μ
                              else
                                if v2 = 3343 then
                                  f_X12_isWrong_228 N μ
                                else
                                  if v2 = 3344 then
                                    f_X12_isWrong_228 N μ
                                  else
                                    if v2 = 3360 then
                                      f_X12_isWrong_228 N μ
                                    else
                                      if v2 = 3361 then
                                        f_X12_isWrong_228 N μ
                                      else
                                        retZ 1 μ
  else
    retZ 0 μ
def f_X12_isWrong_54 (N : Nat) (s0 : Int32) (μ : Mem) : Option (Int32 × Mem) :=
  retZ s0 μ
def f_X12_isWrong_49 (N : Nat) (μ : Mem) : Option (Int32 × Mem) :=
  f_X12_isWrong_54 N 1 μ
def f_X12_isWrong (N : Nat) (a0 : Option Nat) (μ : Mem) : Option (Int32 × Mem) :=
  (mfI μ a0 12 78).bind fun v1 =>
  if ¬ (v1 >>> ((9 : Int32) &&& 31)) = (7 : Int32) then
    f_X12_isWrong_55 N a0 μ
  else
    (mfI μ a0 12 78).bind fun v2 =>
    if ¬ (v2 &&& 257) = (257 : Int32) then
      f_X12_isWrong_55 N a0 μ
    else
      (mfI μ a0 12 78).bind fun v3 =>
      if (v3 &&& 14) = (2 : Int32) then
        f_X12_isWrong_49 N μ
      else
        (mfI μ a0 12 78).bind fun v4 =>
        if ¬ (v4 &&& 14) = (8 : Int32) then
          f_X12_isWrong_54 N 0 μ
        else
          f_X12_isWrong_49 N μ
set_option maxRecDepth 100000 in
set_option maxHeartbeats 4000000 in
theorem p_X12_isWrong_228 {x : CX} {l : Launch} {g : CG} {rv : Int32} {μ0 μ9 : Mem} (C : Cx x l g mi_X12_isWrong) (F : Prom x g mi_X12_isWrong μ0 (some (aI rv)) μ9) {N : Nat} {μ : Mem} (h : f_X12_isWrong_228 N μ = some (rv, μ9)) : V x g 1 0 0 μ 228 [] [] := by
  unfold f_X12_isWrong_228 at h
  refine v_iconst (v := 0) C dX12_isWrong_228 rfl ?_
  exact v_zret C F ⟨rfl, rfl, Nat.le_refl _⟩ dX12_isWrong_229 h
set_option maxRecDepth 100000 in
set_option maxHeartbeats 4000000 in
theorem p_X12_isWrong_55 {x : CX} {l : Launch} {g : CG} {rv : Int32} {μ0 μ9 : Mem} (C : Cx x l g mi_X12_isWrong) (F : Prom x g mi_X12_isWrong μ0 (some (aI rv)) μ9) {N : Nat} {a0 : Option Nat} {μ : Mem} (h : f_X12_isWrong_55 N a0 μ = some (rv, μ9)) : V x g 1 0 0 μ 55 [(0, aR a0)] [] := by
  unfold f_X12_isWrong_55 at h
  refine v_aload_n C dX12_isWrong_55 rfl ?_
  obtain ⟨v, e, h⟩ := ob h
  refine v_getI C dX12_isWrong_56 gf_X12_438 e ?_
  refine v_bipush (v := 9) C dX12_isWrong_59 rfl ?_
  refine v_ishr C dX12_isWrong_61 ?_
  refine v_bipush (v := 6) C dX12_isWrong_62 rfl ?_
  refine v_icmp_eq (tgt := 69) C dX12_isWrong_64 (by decide) (fun c => ?_) (fun c => ?_)
  · replace h := ifT h c
    refine v_aload_n C dX12_isWrong_69 rfl ?_
    obtain ⟨v, e, h⟩ := ob h
    refine v_getI C dX12_isWrong_70 gf_X12_438 e ?_
    refine v_lookupswitch (dt := 230) (cs := [(3097, 228), (3098, 228), (3100, 228), (3102, 228), (3105, 228), (3106, 228), (3108, 228), (3110, 228), (3201, 228), (3202, 228), (3203, 228), (3212, 228), (3220, 228), (3228, 228), (3343, 228), (3344, 228), (3360, 228), (3361, 228)]) C dX12_isWrong_73 rfl (by decide) (by decide) ?_
    refine v_case (fun c => ?_) (fun c => ?_)
    · replace h := ifT h c
      exact v_sb (p_X12_isWrong_228 C F h) trivial
    · replace h := ifF h c
      refine v_case (fun c => ?_) (fun c => ?_)
      · replace h := ifT h c
        exact v_sb (p_X12_isWrong_228 C F h) trivial
      · replace h := ifF h c
        refine v_case (fun c => ?_) (fun c => ?_)
        · replace h := ifT h c
          exact v_sb (p_X12_isWrong_228 C F h) trivial
        · replace h := ifF h c
          refine v_case (fun c => ?_) (fun c => ?_)
          · replace h := ifT h c
            exact v_sb (p_X12_isWrong_228 C F h) trivial
          · replace h := ifF h c
            refine v_case (fun c => ?_) (fun c => ?_)
            · replace h := ifT h c
              exact v_sb (p_X12_isWrong_228 C F h) trivial
            · replace h := ifF h c
              refine v_case (fun c => ?_) (fun c => ?_)
              · replace h := ifT h c
                exact v_sb (p_X12_isWrong_228 C F h) trivial
              · replace h := ifF h c
                refine v_case (fun c => ?_) (fun c => ?_)
                · replace h := ifT h c
                  exact v_sb (p_X12_isWrong_228 C F h) trivial
                · replace h := ifF h c
                  refine v_case (fun c => ?_) (fun c => ?_)
                  · replace h := ifT h c
                    exact v_sb (p_X12_isWrong_228 C F h) trivial
                  · replace h := ifF h c
                    refine v_case (fun c => ?_) (fun c => ?_)
                    · replace h := ifT h c
                      exact v_sb (p_X12_isWrong_228 C F h) trivial
                    · replace h := ifF h c
                      refine v_case (fun c => ?_) (fun c => ?_)
                      · replace h := ifT h c
                        exact v_sb (p_X12_isWrong_228 C F h) trivial
                      · replace h := ifF h c
                        refine v_case (fun c => ?_) (fun c => ?_)
                        · replace h := ifT h c
                          exact v_sb (p_X12_isWrong_228 C F h) trivial
                        · replace h := ifF h c
                          refine v_case (fun c => ?_) (fun c => ?_)
                          · replace h := ifT h c
                            exact v_sb (p_X12_isWrong_228 C F h) trivial
                          · replace h := ifF h c
                            refine v_case (fun c => ?_) (fun c => ?_)
                            · replace h := ifT h c
                              exact v_sb (p_X12_isWrong_228 C F h) trivial
                            · replace h := ifF h c
                              refine v_case (fun c => ?_) (fun c => ?_)
                              · replace h := ifT h c
                                exact v_sb (p_X12_isWrong_228 C F h) trivial
                              · replace h := ifF h c
                                refine v_case (fun c => ?_) (fun c => ?_)
                                · replace h := ifT h c
                                  exact v_sb (p_X12_isWrong_228 C F h) trivial
                                · replace h := ifF h c
                                  refine v_case (fun c => ?_) (fun c => ?_)
                                  · replace h := ifT h c
                                    exact v_sb (p_X12_isWrong_228 C F h) trivial
                                  · replace h := ifF h c
                                    refine v_case (fun c => ?_) (fun c => ?_)
                                    · replace h := ifT h c
                                      exact v_sb (p_X12_isWrong_228 C F h) trivial
                                    · replace h := ifF h c
                                      refine v_case (fun c => ?_) (fun c => ?_)
                                      · replace h := ifT h c
                                        exact v_sb (p_X12_isWrong_228 C F h) trivial
                                      · replace h := ifF h c
                                        refine v_caseD ?_
                                        refine v_iconst (v := 1) C dX12_isWrong_230 rfl ?_
                                        exact v_zret C F ⟨rfl, rfl, Nat.le_refl _⟩ dX12_isWrong_231 h
  · replace h := ifF h c
    refine v_iconst (v := 0) C dX12_isWrong_67 rfl ?_
    exact v_zret C F ⟨rfl, rfl, Nat.le_refl _⟩ dX12_isWrong_68 h
set_option maxRecDepth 100000 in
set_option maxHeartbeats 4000000 in
theorem p_X12_isWrong_54 {x : CX} {l : Launch} {g : CG} {rv : Int32} {μ0 μ9 : Mem} (C : Cx x l g mi_X12_isWrong) (F : Prom x g mi_X12_isWrong μ0 (some (aI rv)) μ9) {N : Nat} {s0 : Int32} {μ : Mem} (h : f_X12_isWrong_54 N s0 μ = some (rv, μ9)) : V x g 1 0 0 μ 54 [] [aI s0] := by
  unfold f_X12_isWrong_54 at h
  exact v_zret C F ⟨rfl, rfl, Nat.le_refl _⟩ dX12_isWrong_54 h
set_option maxRecDepth 100000 in
set_option maxHeartbeats 4000000 in
theorem p_X12_isWrong_49 {x : CX} {l : Launch} {g : CG} {rv : Int32} {μ0 μ9 : Mem} (C : Cx x l g mi_X12_isWrong) (F : Prom x g mi_X12_isWrong μ0 (some (aI rv)) μ9) {N : Nat} {μ : Mem} (h : f_X12_isWrong_49 N μ = some (rv, μ9)) : V x g 1 0 0 μ 49 [] [] := by
  unfold f_X12_isWrong_49 at h
  refine v_iconst (v := 1) C dX12_isWrong_49 rfl ?_
  refine v_goto (tgt := 54) C dX12_isWrong_50 (by decide) ?_
  exact v_sb (p_X12_isWrong_54 C F h) trivial
set_option maxRecDepth 100000 in
set_option maxHeartbeats 4000000 in
theorem p_X12_isWrong {x : CX} {l : Launch} {g : CG} {rv : Int32} {μ0 μ9 : Mem} (C : Cx x l g mi_X12_isWrong) (F : Prom x g mi_X12_isWrong μ0 (some (aI rv)) μ9) {N : Nat} {a0 : Option Nat} {μ : Mem} (h : f_X12_isWrong N a0 μ = some (rv, μ9)) : V x g 1 0 0 μ 0 [(0, aR a0)] [] := by
  unfold f_X12_isWrong at h
  refine v_aload_n C dX12_isWrong_0 rfl ?_
  obtain ⟨v, e, h⟩ := ob h
  refine v_getI C dX12_isWrong_1 gf_X12_438 e ?_
  refine v_bipush (v := 9) C dX12_isWrong_4 rfl ?_
  refine v_ishr C dX12_isWrong_6 ?_
  refine v_bipush (v := 7) C dX12_isWrong_7 rfl ?_
  refine v_icmp_ne (tgt := 55) C dX12_isWrong_9 (by decide) (fun c => ?_) (fun c => ?_)
  · replace h := ifT h c
    exact v_sb (p_X12_isWrong_55 C F h) ⟨rfl, trivial⟩
  · replace h := ifF h c
    refine v_aload_n C dX12_isWrong_12 rfl ?_
    obtain ⟨v, e, h⟩ := ob h
    refine v_getI C dX12_isWrong_13 gf_X12_438 e ?_
    refine v_sipush (v := 257) C dX12_isWrong_16 rfl ?_
    refine v_iand C dX12_isWrong_19 ?_
    refine v_sipush (v := 257) C dX12_isWrong_20 rfl ?_
    refine v_icmp_ne (tgt := 55) C dX12_isWrong_23 (by decide) (fun c => ?_) (fun c => ?_)
    · replace h := ifT h c
      exact v_sb (p_X12_isWrong_55 C F h) ⟨rfl, trivial⟩
    · replace h := ifF h c
      refine v_aload_n C dX12_isWrong_26 rfl ?_
      obtain ⟨v, e, h⟩ := ob h
      refine v_getI C dX12_isWrong_27 gf_X12_438 e ?_
      refine v_bipush (v := 14) C dX12_isWrong_30 rfl ?_
      refine v_iand C dX12_isWrong_32 ?_
      refine v_iconst (v := 2) C dX12_isWrong_33 rfl ?_
      refine v_icmp_eq (tgt := 49) C dX12_isWrong_34 (by decide) (fun c => ?_) (fun c => ?_)
      · replace h := ifT h c
        exact v_sb (p_X12_isWrong_49 C F h) trivial
      · replace h := ifF h c
        refine v_aload_n C dX12_isWrong_37 rfl ?_
        obtain ⟨v, e, h⟩ := ob h
        refine v_getI C dX12_isWrong_38 gf_X12_438 e ?_
        refine v_bipush (v := 14) C dX12_isWrong_41 rfl ?_
        refine v_iand C dX12_isWrong_43 ?_
        refine v_bipush (v := 8) C dX12_isWrong_44 rfl ?_
        refine v_icmp_ne (tgt := 53) C dX12_isWrong_46 (by decide) (fun c => ?_) (fun c => ?_)
        · replace h := ifT h c
          refine v_iconst (v := 0) C dX12_isWrong_53 rfl ?_
          exact v_sb (p_X12_isWrong_54 C F h) trivial
        · replace h := ifF h c
          exact v_sb (p_X12_isWrong_49 C F h) trivial
set_option maxRecDepth 100000 in
set_option maxHeartbeats 4000000 in
theorem c_X12_isWrong (l : Launch) (g : CG) (N : Nat) (a0 : Option Nat) (μ : Mem) (rv : Int32) (μ9 : Mem) (h : f_X12_isWrong N a0 μ = some (rv, μ9)) : Ct l yX12_isWrong mi_X12_isWrong g [aR a0] μ (some (aI rv)) μ9 := ct_of ⟨by decide, rfl, rfl⟩ (Nat.le_of_ble_eq_true rfl) fun x C F => p_X12_isWrong C F h
def f_X12_mustWait_89 (N : Nat) (s0 : Int32) (μ : Mem) : Option (Int32 × Mem) :=
  retZ s0 μ
def f_X12_mustWait_74 (N : Nat) (a0 : Option Nat) (a1 : Int32) (μ : Mem) : Option (Int32 × Mem) :=
  (mfR μ a0 12 42).bind fun v1 =>
  (maI μ 0 v1 a1).bind fun v2 =>
  if v2 = (1 : Int32) then
    f_X12_mustWait_89 N 0 μ
  else
    f_X12_mustWait_89 N 1 μ
def f_X12_mustWait_56 (N : Nat) (a0 : Option Nat) (a1 : Int32) (μ : Mem) : Option (Int32 × Mem) :=
  (mfR μ a0 12 53).bind fun v1 =>
  (maI μ 0 v1 a1).bind fun v2 =>
  if ¬ v2 = (16 : Int32) then
    f_X12_mustWait_74 N a0 a1 μ
  else
    (mfR μ a0 12 42).bind fun v3 =>
    (mbI μ 0 v3 a1 3).bind fun μ4 =>
    f_X12_mustWait_74 N a0 a1 μ4
def f_X12_mustWait_36 (N : Nat) (a0 : Option Nat) (a1 : Int32) (μ : Mem) : Option (Int32 × Mem) :=
  (mfI μ a0 12 78).bind fun v1 =>
  if v1 = (3108 : Int32) then
    f_X12_mustWait_56 N a0 a1 μ
  else
    (mfI μ a0 12 78).bind fun v2 =>
    if ¬ v2 = (3110 : Int32) then
      f_X12_mustWait_74 N a0 a1 μ
    else
      f_X12_mustWait_56 N a0 a1 μ
def f_X12_mustWait_20 (N : Nat) (a0 : Option Nat) (a1 : Int32) (μ : Mem) : Option (Int32 × Mem) :=
  (mfR μ a0 12 50).bind fun v1 =>
  (maI μ 0 v1 a1).bind fun v2 =>
  if ¬ v2 = 0 then
    f_X12_mustWait_36 N a0 a1 μ
  else
    (mfR μ a0 12 42).bind fun v3 =>
    (mbI μ 0 v3 a1 2).bind fun μ4 =>
    f_X12_mustWait_36 N a0 a1 μ4
def f_X12_mustWait (N : Nat) (a0 : Option Nat) (a1 : Int32) (μ : Mem) : Option (Int32 × Mem) :=
  (mfI μ a0 12 78).bind fun v1 =>
  if v1 = (3100 : Int32) then
    f_X12_mustWait_20 N a0 a1 μ
  else
    (mfI μ a0 12 78).bind fun v2 =>
    if ¬ v2 = (3102 : Int32) then
      f_X12_mustWait_36 N a0 a1 μ
    else
      f_X12_mustWait_20 N a0 a1 μ
set_option maxRecDepth 100000 in
set_option maxHeartbeats 4000000 in
theorem p_X12_mustWait_89 {x : CX} {l : Launch} {g : CG} {rv : Int32} {μ0 μ9 : Mem} (C : Cx x l g mi_X12_mustWait) (F : Prom x g mi_X12_mustWait μ0 (some (aI rv)) μ9) {N : Nat} {s0 : Int32} {μ : Mem} (h : f_X12_mustWait_89 N s0 μ = some (rv, μ9)) : V x g 2 0 0 μ 89 [] [aI s0] := by
  unfold f_X12_mustWait_89 at h
  exact v_zret C F ⟨rfl, rfl, Nat.le_refl _⟩ dX12_mustWait_89 h
set_option maxRecDepth 100000 in
set_option maxHeartbeats 4000000 in
theorem p_X12_mustWait_74 {x : CX} {l : Launch} {g : CG} {rv : Int32} {μ0 μ9 : Mem} (C : Cx x l g mi_X12_mustWait) (F : Prom x g mi_X12_mustWait μ0 (some (aI rv)) μ9) {N : Nat} {a0 : Option Nat} {a1 : Int32} {μ : Mem} (h : f_X12_mustWait_74 N a0 a1 μ = some (rv, μ9)) : V x g 2 0 0 μ 74 [(0, aR a0), (1, aI a1)] [] := by
  unfold f_X12_mustWait_74 at h
  refine v_aload_n C dX12_mustWait_74 rfl ?_
  obtain ⟨v, e, h⟩ := ob h
  refine v_getR C dX12_mustWait_75 gf_X12_278 e ?_
  refine v_iload_n C dX12_mustWait_78 rfl ?_
  obtain ⟨v, e, h⟩ := ob h
  refine v_iaload C dX12_mustWait_79 e ?_
  refine v_iconst (v := 1) C dX12_mustWait_80 rfl ?_
  refine v_icmp_eq (tgt := 88) C dX12_mustWait_81 (by decide) (fun c => ?_) (fun c => ?_)
  · replace h := ifT h c
    refine v_iconst (v := 0) C dX12_mustWait_88 rfl ?_
    exact v_sb (p_X12_mustWait_89 C F h) trivial
  · replace h := ifF h c
    refine v_iconst (v := 1) C dX12_mustWait_84 rfl ?_
    refine v_goto (tgt := 89) C dX12_mustWait_85 (by decide) ?_
    exact v_sb (p_X12_mustWait_89 C F h) trivial
set_option maxRecDepth 100000 in
set_option maxHeartbeats 4000000 in
theorem p_X12_mustWait_56 {x : CX} {l : Launch} {g : CG} {rv : Int32} {μ0 μ9 : Mem} (C : Cx x l g mi_X12_mustWait) (F : Prom x g mi_X12_mustWait μ0 (some (aI rv)) μ9) {N : Nat} {a0 : Option Nat} {a1 : Int32} {μ : Mem} (h : f_X12_mustWait_56 N a0 a1 μ = some (rv, μ9)) : V x g 2 0 0 μ 56 [(0, aR a0), (1, aI a1)] [] := by
  unfold f_X12_mustWait_56 at h
  refine v_aload_n C dX12_mustWait_56 rfl ?_
  obtain ⟨v, e, h⟩ := ob h
  refine v_getR C dX12_mustWait_57 gf_X12_311 e ?_
  refine v_iload_n C dX12_mustWait_60 rfl ?_
  obtain ⟨v, e, h⟩ := ob h
  refine v_iaload C dX12_mustWait_61 e ?_
  refine v_bipush (v := 16) C dX12_mustWait_62 rfl ?_
  refine v_icmp_ne (tgt := 74) C dX12_mustWait_64 (by decide) (fun c => ?_) (fun c => ?_)
  · replace h := ifT h c
    exact v_sb (p_X12_mustWait_74 C F h) ⟨rfl, rfl, trivial⟩
  · replace h := ifF h c
    refine v_aload_n C dX12_mustWait_67 rfl ?_
    obtain ⟨v, e, h⟩ := ob h
    refine v_getR C dX12_mustWait_68 gf_X12_278 e ?_
    refine v_iload_n C dX12_mustWait_71 rfl ?_
    refine v_iconst (v := 3) C dX12_mustWait_72 rfl ?_
    obtain ⟨m, e, h⟩ := ob h
    refine v_iastore C dX12_mustWait_73 e ?_
    exact v_sb (p_X12_mustWait_74 C F h) ⟨rfl, rfl, trivial⟩
set_option maxRecDepth 100000 in
set_option maxHeartbeats 4000000 in
theorem p_X12_mustWait_36 {x : CX} {l : Launch} {g : CG} {rv : Int32} {μ0 μ9 : Mem} (C : Cx x l g mi_X12_mustWait) (F : Prom x g mi_X12_mustWait μ0 (some (aI rv)) μ9) {N : Nat} {a0 : Option Nat} {a1 : Int32} {μ : Mem} (h : f_X12_mustWait_36 N a0 a1 μ = some (rv, μ9)) : V x g 2 0 0 μ 36 [(0, aR a0), (1, aI a1)] [] := by
  unfold f_X12_mustWait_36 at h
  refine v_aload_n C dX12_mustWait_36 rfl ?_
  obtain ⟨v, e, h⟩ := ob h
  refine v_getI C dX12_mustWait_37 gf_X12_438 e ?_
  refine v_sipush (v := 3108) C dX12_mustWait_40 rfl ?_
  refine v_icmp_eq (tgt := 56) C dX12_mustWait_43 (by decide) (fun c => ?_) (fun c => ?_)
  · replace h := ifT h c
    exact v_sb (p_X12_mustWait_56 C F h) ⟨rfl, rfl, trivial⟩
  · replace h := ifF h c
    refine v_aload_n C dX12_mustWait_46 rfl ?_
    obtain ⟨v, e, h⟩ := ob h
    refine v_getI C dX12_mustWait_47 gf_X12_438 e ?_
    refine v_sipush (v := 3110) C dX12_mustWait_50 rfl ?_
    refine v_icmp_ne (tgt := 74) C dX12_mustWait_53 (by decide) (fun c => ?_) (fun c => ?_)
    · replace h := ifT h c
      exact v_sb (p_X12_mustWait_74 C F h) ⟨rfl, rfl, trivial⟩
    · replace h := ifF h c
      exact v_sb (p_X12_mustWait_56 C F h) ⟨rfl, rfl, trivial⟩
set_option maxRecDepth 100000 in
set_option maxHeartbeats 4000000 in
theorem p_X12_mustWait_20 {x : CX} {l : Launch} {g : CG} {rv : Int32} {μ0 μ9 : Mem} (C : Cx x l g mi_X12_mustWait) (F : Prom x g mi_X12_mustWait μ0 (some (aI rv)) μ9) {N : Nat} {a0 : Option Nat} {a1 : Int32} {μ : Mem} (h : f_X12_mustWait_20 N a0 a1 μ = some (rv, μ9)) : V x g 2 0 0 μ 20 [(0, aR a0), (1, aI a1)] [] := by
  unfold f_X12_mustWait_20 at h
  refine v_aload_n C dX12_mustWait_20 rfl ?_
  obtain ⟨v, e, h⟩ := ob h
  refine v_getR C dX12_mustWait_21 gf_X12_302 e ?_
  refine v_iload_n C dX12_mustWait_24 rfl ?_
  obtain ⟨v, e, h⟩ := ob h
  refine v_iaload C dX12_mustWait_25 e ?_
  refine v_if_ne (tgt := 36) C dX12_mustWait_26 (by decide) (fun c => ?_) (fun c => ?_)
  · replace h := ifT h c
    exact v_sb (p_X12_mustWait_36 C F h) ⟨rfl, rfl, trivial⟩
  · replace h := ifF h c
    refine v_aload_n C dX12_mustWait_29 rfl ?_
    obtain ⟨v, e, h⟩ := ob h
    refine v_getR C dX12_mustWait_30 gf_X12_278 e ?_
    refine v_iload_n C dX12_mustWait_33 rfl ?_
    refine v_iconst (v := 2) C dX12_mustWait_34 rfl ?_
    obtain ⟨m, e, h⟩ := ob h
    refine v_iastore C dX12_mustWait_35 e ?_
    exact v_sb (p_X12_mustWait_36 C F h) ⟨rfl, rfl, trivial⟩
set_option maxRecDepth 100000 in
set_option maxHeartbeats 4000000 in
theorem p_X12_mustWait {x : CX} {l : Launch} {g : CG} {rv : Int32} {μ0 μ9 : Mem} (C : Cx x l g mi_X12_mustWait) (F : Prom x g mi_X12_mustWait μ0 (some (aI rv)) μ9) {N : Nat} {a0 : Option Nat} {a1 : Int32} {μ : Mem} (h : f_X12_mustWait N a0 a1 μ = some (rv, μ9)) : V x g 2 0 0 μ 0 [(0, aR a0), (1, aI a1)] [] := by
  unfold f_X12_mustWait at h
  refine v_aload_n C dX12_mustWait_0 rfl ?_
  obtain ⟨v, e, h⟩ := ob h
  refine v_getI C dX12_mustWait_1 gf_X12_438 e ?_
  refine v_sipush (v := 3100) C dX12_mustWait_4 rfl ?_
  refine v_icmp_eq (tgt := 20) C dX12_mustWait_7 (by decide) (fun c => ?_) (fun c => ?_)
  · replace h := ifT h c
    exact v_sb (p_X12_mustWait_20 C F h) ⟨rfl, rfl, trivial⟩
  · replace h := ifF h c
    refine v_aload_n C dX12_mustWait_10 rfl ?_
    obtain ⟨v, e, h⟩ := ob h
    refine v_getI C dX12_mustWait_11 gf_X12_438 e ?_
    refine v_sipush (v := 3102) C dX12_mustWait_14 rfl ?_
    refine v_icmp_ne (tgt := 36) C dX12_mustWait_17 (by decide) (fun c => ?_) (fun c => ?_)
    · replace h := ifT h c
      exact v_sb (p_X12_mustWait_36 C F h) ⟨rfl, rfl, trivial⟩
    · replace h := ifF h c
      exact v_sb (p_X12_mustWait_20 C F h) ⟨rfl, rfl, trivial⟩
set_option maxRecDepth 100000 in
set_option maxHeartbeats 4000000 in
theorem c_X12_mustWait (l : Launch) (g : CG) (N : Nat) (a0 : Option Nat) (a1 : Int32) (μ : Mem) (rv : Int32) (μ9 : Mem) (h : f_X12_mustWait N a0 a1 μ = some (rv, μ9)) : Ct l yX12_mustWait mi_X12_mustWait g [aR a0, aI a1] μ (some (aI rv)) μ9 := ct_of ⟨by decide, rfl, rfl⟩ (Nat.le_of_ble_eq_true rfl) fun x C F => p_X12_mustWait C F h
def f_X12_skip (N : Nat) (a0 : Option Nat) (a1 : Int32) (μ : Mem) : Option (Unit × Mem) :=
  (mfR μ a0 12 45).bind fun v1 =>
  (mfR μ a0 12 45).bind fun v2 =>
  (maI μ 0 v2 a1).bind fun v3 =>
  (mbI μ 0 v1 a1 ((v3 + 1) &&& 4095)).bind fun μ4 =>
  some ((), μ4)
set_option maxRecDepth 100000 in
set_option maxHeartbeats 4000000 in
theorem p_X12_skip {x : CX} {l : Launch} {g : CG} {rv : Unit} {μ0 μ9 : Mem} (C : Cx x l g mi_X12_skip) (F : Prom x g mi_X12_skip μ0 none μ9) {N : Nat} {a0 : Option Nat} {a1 : Int32} {μ : Mem} (h : f_X12_skip N a0 a1 μ = some (rv, μ9)) : V x g 2 0 0 μ 0 [(0, aR a0), (1, aI a1)] [] := by
  unfold f_X12_skip at h
  refine v_aload_n C dX12_skip_0 rfl ?_
  obtain ⟨v, e, h⟩ := ob h
  refine v_getR C dX12_skip_1 gf_X12_287 e ?_
  refine v_iload_n C dX12_skip_4 rfl ?_
  refine v_aload_n C dX12_skip_5 rfl ?_
  obtain ⟨v, e, h⟩ := ob h
  refine v_getR C dX12_skip_6 gf_X12_287 e ?_
  refine v_iload_n C dX12_skip_9 rfl ?_
  obtain ⟨v, e, h⟩ := ob h
  refine v_iaload C dX12_skip_10 e ?_
  refine v_iconst (v := 1) C dX12_skip_11 rfl ?_
  refine v_iadd C dX12_skip_12 ?_
  refine v_sipush (v := 4095) C dX12_skip_13 rfl ?_
  refine v_iand C dX12_skip_16 ?_
  obtain ⟨m, e, h⟩ := ob h
  refine v_iastore C dX12_skip_17 e ?_
  exact v_vret C F ⟨rfl, rfl, Nat.le_refl _⟩ dX12_skip_18 h
set_option maxRecDepth 100000 in
set_option maxHeartbeats 4000000 in
theorem c_X12_skip (l : Launch) (g : CG) (N : Nat) (a0 : Option Nat) (a1 : Int32) (μ : Mem) (rv : Unit) (μ9 : Mem) (h : f_X12_skip N a0 a1 μ = some (rv, μ9)) : Ct l yX12_skip mi_X12_skip g [aR a0, aI a1] μ none μ9 := ct_of ⟨by decide, rfl, rfl⟩ (Nat.le_of_ble_eq_true rfl) fun x C F => p_X12_skip C F h
def f_X12_memory__279 (N : Nat) (μ : Mem) : Option (Unit × Mem) :=
  some ((), μ)
def f_X12_memory__169 (N : Nat) (a0 : Option Nat) (a1 : Int32) (a5 : Int32) (μ : Mem) : Option (Unit × Mem) :=
  (mfR μ a0 12 43).bind fun v1 =>
  (mbI μ 0 v1 a1 (a5 &&& 4095)).bind fun μ2 =>
  f_X12_memory__279 N μ2
def f_X12_memory__78 (N : Nat) (a0 : Option Nat) (a1 : Int32) (a2 : Int32) (a4 : Int32) (μ : Mem) : Option (Unit × Mem) :=
  if a2 = 0 then
    (mfR μ a0 12 43).bind fun v1 =>
    (maI μ 0 v1 a1).bind fun v2 =>
    (mck μ a0 12).bind fun b4 =>
    (f_X12_load N (some b4) a1 a4 μ).bind fun q3 =>
    (mbI q3.2 0 v1 a1 (v2 &&& q3.1)).bind fun μ5 =>
    f_X12_memory__279 N μ5
  else
    if a2 = 1 then
      (mfR μ a0 12 43).bind fun v6 =>
      (maI μ 0 v6 a1).bind fun v7 =>
      (mck μ a0 12).bind fun b9 =>
      (f_X12_load N (some b9) a1 a4 μ).bind fun q8 =>
      if (v7 + q8.1) ≤ (4095 : Int32) then
        f_X12_memory__169 N a0 a1 (v7 + q8.1) q8.2
      else
        (mfR q8.2 a0 12 46).bind fun v10 =>
        (mfR q8.2 a0 12 46).bind fun v11 =>
        (maI q8.2 0 v11 a1).bind fun v12 =>
        (mbI q8.2 0 v10 a1 (1 - v12)).bind fun μ13 =>
        f_X12_memory__169 N a0 a1 (v7 + q8.1) μ13
    else
      if a2 = 2 then
        (mck μ a0 12).bind fun b15 =>
        (f_X12_load N (some b15) a1 a4 μ).bind fun q14 =>
        (mck q14.2 a0 12).bind fun b17 =>
        (f_X12_store N (some b17) a1 a4 (q14.1 + 1) q14.2).bind fun q16 =>
        (mck q16.2 a0 12).bind fun b19 =>
        (f_X12_load N (some b19) a1 a4 q16.2).bind fun q18 =>
        if ¬ q18.1 = 0 then
          f_X12_memory__279 N q18.2
        else
          (mck q18.2 a0 12).bind fun b21 =>
          (f_X12_skip N (some b21) a1 q18.2).bind fun q20 =>
          f_X12_memory__279 N q20.2
      else
        if a2 = 3 then
          (mfR μ a0 12 43).bind fun v22 =>
          (maI μ 0 v22 a1).bind fun v23 =>
          (mck μ a0 12).bind fun b25 =>
          (f_X12_store N (some b25) a1 a4 v23 μ).bind fun q24 =>
          (mfR q24.2 a0 12 43).bind fun v26 =>
          (mbI q24.2 0 v26 a1 0).bind fun μ27 =>
          f_X12_memory__279 N μ27
        else
          if a2 = 4 then
            (mfR μ a0 12 45).bind fun v28 =>
            (maI μ 0 v28 a1).bind fun v29 =>
            (mck μ a0 12).bind fun b31 =>
            (f_X12_store N (some b31) a1 a4 v29 μ).bind fun q30 =>
            (mfR q30.2 a0 12 45).bind fun v32 =>
            (mbI q30.2 0 v32 a1 ((a4 + 1) &&& 4095)).bind fun μ33 =>
            f_X12_memory__279 N μ33
          else
            (mfR μ a0 12 45).bind fun v34 =>
            (mbI μ 0 v34 a1 a4).bind fun μ35 =>
            f_X12_memory__279 N μ35
def f_X12_memory__69 (N : Nat) (a0 : Option Nat) (a1 : Int32) (a2 : Int32) (a4 : Int32) (μ : Mem) : Option (Unit × Mem) :=
  (mck μ a0 12).bind fun b2 =>
  (f_X12_load N (some b2) a1 a4 μ).bind fun q1 =>
  f_X12_memory__78 N a0 a1 a2 q1.1 q1.2
def f_X12_memory__27 (N : Nat) (a0 : Option Nat) (a1 : Int32) (a2 : Int32) (s0 : Int32) (s1 : Int32) (μ : Mem) : Option (Unit × Mem) :=
  (mfI μ a0 12 78).bind fun v1 =>
  if (v1 &&& 256) = 0 then
    f_X12_memory__78 N a0 a1 a2 (s0 ||| s1) μ
  else
    (f_X12_in N (s0 ||| s1) 8 15 μ).bind fun q2 =>
    if q2.1 = 0 then
      f_X12_memory__69 N a0 a1 a2 (s0 ||| s1) q2.2
    else
      (mck q2.2 a0 12).bind fun b4 =>
      (f_X12_load N (some b4) a1 (s0 ||| s1) q2.2).bind fun q3 =>
      (mck q3.2 a0 12).bind fun b6 =>
      (f_X12_store N (some b6) a1 (s0 ||| s1) (q3.1 + 1) q3.2).bind fun q5 =>
      f_X12_memory__69 N a0 a1 a2 (s0 ||| s1) q5.2
def f_X12_memory_ (N : Nat) (a0 : Option Nat) (a1 : Int32) (a2 : Int32) (a3 : Int32) (μ : Mem) : Option (Unit × Mem) :=
  (mfI μ a0 12 78).bind fun v1 =>
  (mfI μ a0 12 78).bind fun v2 =>
  if ¬ (v2 &&& 128) = 0 then
    f_X12_memory__27 N a0 a1 a2 (v1 &&& 127) (a3 &&& 3968) μ
  else
    f_X12_memory__27 N a0 a1 a2 (v1 &&& 127) 0 μ
set_option maxRecDepth 100000 in
set_option maxHeartbeats 4000000 in
theorem p_X12_memory__279 {x : CX} {l : Launch} {g : CG} {rv : Unit} {μ0 μ9 : Mem} (C : Cx x l g mi_X12_memory_) (F : Prom x g mi_X12_memory_ μ0 none μ9) {N : Nat} {μ : Mem} (h : f_X12_memory__279 N μ = some (rv, μ9)) : V x g 6 0 0 μ 279 [] [] := by
  unfold f_X12_memory__279 at h
  exact v_vret C F ⟨rfl, rfl, Nat.le_refl _⟩ dX12_memory__279 h
set_option maxRecDepth 100000 in
set_option maxHeartbeats 4000000 in
theorem p_X12_memory__169 {x : CX} {l : Launch} {g : CG} {rv : Unit} {μ0 μ9 : Mem} (C : Cx x l g mi_X12_memory_) (F : Prom x g mi_X12_memory_ μ0 none μ9) {N : Nat} {a0 : Option Nat} {a1 : Int32} {a5 : Int32} {μ : Mem} (h : f_X12_memory__169 N a0 a1 a5 μ = some (rv, μ9)) : V x g 6 0 0 μ 169 [(0, aR a0), (1, aI a1), (5, aI a5)] [] := by
  unfold f_X12_memory__169 at h
  refine v_aload_n C dX12_memory__169 rfl ?_
  obtain ⟨v, e, h⟩ := ob h
  refine v_getR C dX12_memory__170 gf_X12_281 e ?_
  refine v_iload_n C dX12_memory__173 rfl ?_
  refine v_iload C dX12_memory__174 rfl ?_
  refine v_sipush (v := 4095) C dX12_memory__176 rfl ?_
  refine v_iand C dX12_memory__179 ?_
  obtain ⟨m, e, h⟩ := ob h
  refine v_iastore C dX12_memory__180 e ?_
  refine v_goto (tgt := 279) C dX12_memory__181 (by decide) ?_
  exact v_sb (p_X12_memory__279 C F h) trivial
set_option maxRecDepth 100000 in
set_option maxHeartbeats 4000000 in
theorem p_X12_memory__78 {x : CX} {l : Launch} {g : CG} {rv : Unit} {μ0 μ9 : Mem} (C : Cx x l g mi_X12_memory_) (F : Prom x g mi_X12_memory_ μ0 none μ9) {N : Nat} {a0 : Option Nat} {a1 : Int32} {a2 : Int32} {a4 : Int32} {μ : Mem} (h : f_X12_memory__78 N a0 a1 a2 a4 μ = some (rv, μ9)) : V x g 6 0 0 μ 78 [(0, aR a0), (1, aI a1), (2, aI a2), (4, aI a4)] [] := by
  unfold f_X12_memory__78 at h
  refine v_iload_n C dX12_memory__78 rfl ?_
  refine v_tableswitch (dt := 271) (cs := [(0, 112), (1, 131), (2, 184), (3, 218), (4, 241)]) C dX12_memory__79 (by decide) (by decide) (by decide) (by decide) ?_
  refine v_case (fun c => ?_) (fun c => ?_)
  · replace h := ifT h c
    refine v_aload_n C dX12_memory__112 rfl ?_
    obtain ⟨v, e, h⟩ := ob h
    refine v_getR C dX12_memory__113 gf_X12_281 e ?_
    refine v_iload_n C dX12_memory__116 rfl ?_
    refine v_dup2 C dX12_memory__117 rfl rfl ?_
    obtain ⟨v, e, h⟩ := ob h
    refine v_iaload C dX12_memory__118 e ?_
    refine v_aload_n C dX12_memory__119 rfl ?_
    refine v_iload_n C dX12_memory__120 rfl ?_
    refine v_iload C dX12_memory__121 rfl ?_
    obtain ⟨b, e0, h⟩ := ob h
    obtain ⟨q, e, h⟩ := ob h
    refine v_callV (As := [_, _]) C dX12_memory__123 cf_X12_399 (rm_X12_memory__X12_load) ⟨rfl, rfl⟩ e0 rfl (Nat.le_of_ble_eq_true rfl) (c_X12_load _ _ N _ _ _ _ q.1 q.2 e) ?_
    refine v_iand C dX12_memory__126 ?_
    obtain ⟨m, e, h⟩ := ob h
    refine v_iastore C dX12_memory__127 e ?_
    refine v_goto (tgt := 279) C dX12_memory__128 (by decide) ?_
    exact v_sb (p_X12_memory__279 C F h) trivial
  · replace h := ifF h c
    refine v_case (fun c => ?_) (fun c => ?_)
    · replace h := ifT h c
      refine v_aload_n C dX12_memory__131 rfl ?_
      obtain ⟨v, e, h⟩ := ob h
      refine v_getR C dX12_memory__132 gf_X12_281 e ?_
      refine v_iload_n C dX12_memory__135 rfl ?_
      obtain ⟨v, e, h⟩ := ob h
      refine v_iaload C dX12_memory__136 e ?_
      refine v_aload_n C dX12_memory__137 rfl ?_
      refine v_iload_n C dX12_memory__138 rfl ?_
      refine v_iload C dX12_memory__139 rfl ?_
      obtain ⟨b, e0, h⟩ := ob h
      obtain ⟨q, e, h⟩ := ob h
      refine v_callV (As := [_, _]) C dX12_memory__141 cf_X12_399 (rm_X12_memory__X12_load) ⟨rfl, rfl⟩ e0 rfl (Nat.le_of_ble_eq_true rfl) (c_X12_load _ _ N _ _ _ _ q.1 q.2 e) ?_
      refine v_iadd C dX12_memory__144 ?_
      refine v_istore C dX12_memory__145 (by decide) ?_
      refine v_iload C dX12_memory__147 rfl ?_
      refine v_sipush (v := 4095) C dX12_memory__149 rfl ?_
      refine v_icmp_le (tgt := 169) C dX12_memory__152 (by decide) (fun c => ?_) (fun c => ?_)
      · replace h := ifT h c
        exact v_sb (p_X12_memory__169 C F h) ⟨rfl, rfl, rfl, trivial⟩
      · replace h := ifF h c
        refine v_aload_n C dX12_memory__155 rfl ?_
        obtain ⟨v, e, h⟩ := ob h
        refine v_getR C dX12_memory__156 gf_X12_290 e ?_
        refine v_iload_n C dX12_memory__159 rfl ?_
        refine v_iconst (v := 1) C dX12_memory__160 rfl ?_
        refine v_aload_n C dX12_memory__161 rfl ?_
        obtain ⟨v, e, h⟩ := ob h
        refine v_getR C dX12_memory__162 gf_X12_290 e ?_
        refine v_iload_n C dX12_memory__165 rfl ?_
        obtain ⟨v, e, h⟩ := ob h
        refine v_iaload C dX12_memory__166 e ?_
        refine v_isub C dX12_memory__167 ?_
        obtain ⟨m, e, h⟩ := ob h
        refine v_iastore C dX12_memory__168 e ?_
        exact v_sb (p_X12_memory__169 C F h) ⟨rfl, rfl, rfl, trivial⟩
    · replace h := ifF h c
      refine v_case (fun c => ?_) (fun c => ?_)
      · replace h := ifT h c
        refine v_aload_n C dX12_memory__184 rfl ?_
        refine v_iload_n C dX12_memory__185 rfl ?_
        refine v_iload C dX12_memory__186 rfl ?_
        refine v_aload_n C dX12_memory__188 rfl ?_
        refine v_iload_n C dX12_memory__189 rfl ?_
        refine v_iload C dX12_memory__190 rfl ?_
        obtain ⟨b, e0, h⟩ := ob h
        obtain ⟨q, e, h⟩ := ob h
        refine v_callV (As := [_, _]) C dX12_memory__192 cf_X12_399 (rm_X12_memory__X12_load) ⟨rfl, rfl⟩ e0 rfl (Nat.le_of_ble_eq_true rfl) (c_X12_load _ _ N _ _ _ _ q.1 q.2 e) ?_
        refine v_iconst (v := 1) C dX12_memory__195 rfl ?_
        refine v_iadd C dX12_memory__196 ?_
        obtain ⟨b, e0, h⟩ := ob h
        obtain ⟨q, e, h⟩ := ob h
        refine v_callV (As := [_, _, _]) C dX12_memory__197 cf_X12_368 (rm_X12_memory__X12_store) ⟨rfl, rfl⟩ e0 rfl (Nat.le_of_ble_eq_true rfl) (c_X12_store _ _ N _ _ _ _ _ q.1 q.2 e) ?_
        refine v_aload_n C dX12_memory__200 rfl ?_
        refine v_iload_n C dX12_memory__201 rfl ?_
        refine v_iload C dX12_memory__202 rfl ?_
        obtain ⟨b, e0, h⟩ := ob h
        obtain ⟨q, e, h⟩ := ob h
        refine v_callV (As := [_, _]) C dX12_memory__204 cf_X12_399 (rm_X12_memory__X12_load) ⟨rfl, rfl⟩ e0 rfl (Nat.le_of_ble_eq_true rfl) (c_X12_load _ _ N _ _ _ _ q.1 q.2 e) ?_
        refine v_if_ne (tgt := 279) C dX12_memory__207 (by decide) (fun c => ?_) (fun c => ?_)
        · replace h := ifT h c
          exact v_sb (p_X12_memory__279 C F h) trivial
        · replace h := ifF h c
          refine v_aload_n C dX12_memory__210 rfl ?_
          refine v_iload_n C dX12_memory__211 rfl ?_
          obtain ⟨b, e0, h⟩ := ob h
          obtain ⟨q, e, h⟩ := ob h
          refine v_callV (As := [_]) C dX12_memory__212 cf_X12_460 (rm_X12_memory__X12_skip) ⟨rfl, rfl⟩ e0 rfl (Nat.le_of_ble_eq_true rfl) (c_X12_skip _ _ N _ _ _ q.1 q.2 e) ?_
          refine v_goto (tgt := 279) C dX12_memory__215 (by decide) ?_
          exact v_sb (p_X12_memory__279 C F h) trivial
      · replace h := ifF h c
        refine v_case (fun c => ?_) (fun c => ?_)
        · replace h := ifT h c
          refine v_aload_n C dX12_memory__218 rfl ?_
          refine v_iload_n C dX12_memory__219 rfl ?_
          refine v_iload C dX12_memory__220 rfl ?_
          refine v_aload_n C dX12_memory__222 rfl ?_
          obtain ⟨v, e, h⟩ := ob h
          refine v_getR C dX12_memory__223 gf_X12_281 e ?_
          refine v_iload_n C dX12_memory__226 rfl ?_
          obtain ⟨v, e, h⟩ := ob h
          refine v_iaload C dX12_memory__227 e ?_
          obtain ⟨b, e0, h⟩ := ob h
          obtain ⟨q, e, h⟩ := ob h
          refine v_callV (As := [_, _, _]) C dX12_memory__228 cf_X12_368 (rm_X12_memory__X12_store) ⟨rfl, rfl⟩ e0 rfl (Nat.le_of_ble_eq_true rfl) (c_X12_store _ _ N _ _ _ _ _ q.1 q.2 e) ?_
          refine v_aload_n C dX12_memory__231 rfl ?_
          obtain ⟨v, e, h⟩ := ob h
          refine v_getR C dX12_memory__232 gf_X12_281 e ?_
          refine v_iload_n C dX12_memory__235 rfl ?_
          refine v_iconst (v := 0) C dX12_memory__236 rfl ?_
          obtain ⟨m, e, h⟩ := ob h
          refine v_iastore C dX12_memory__237 e ?_
          refine v_goto (tgt := 279) C dX12_memory__238 (by decide) ?_
          exact v_sb (p_X12_memory__279 C F h) trivial
        · replace h := ifF h c
          refine v_case (fun c => ?_) (fun c => ?_)
          · replace h := ifT h c
            refine v_aload_n C dX12_memory__241 rfl ?_
            refine v_iload_n C dX12_memory__242 rfl ?_
            refine v_iload C dX12_memory__243 rfl ?_
            refine v_aload_n C dX12_memory__245 rfl ?_
            obtain ⟨v, e, h⟩ := ob h
            refine v_getR C dX12_memory__246 gf_X12_287 e ?_
            refine v_iload_n C dX12_memory__249 rfl ?_
            obtain ⟨v, e, h⟩ := ob h
            refine v_iaload C dX12_memory__250 e ?_
            obtain ⟨b, e0, h⟩ := ob h
            obtain ⟨q, e, h⟩ := ob h
            refine v_callV (As := [_, _, _]) C dX12_memory__251 cf_X12_368 (rm_X12_memory__X12_store) ⟨rfl, rfl⟩ e0 rfl (Nat.le_of_ble_eq_true rfl) (c_X12_store _ _ N _ _ _ _ _ q.1 q.2 e) ?_
            refine v_aload_n C dX12_memory__254 rfl ?_
            obtain ⟨v, e, h⟩ := ob h
            refine v_getR C dX12_memory__255 gf_X12_287 e ?_
            refine v_iload_n C dX12_memory__258 rfl ?_
            refine v_iload C dX12_memory__259 rfl ?_
            refine v_iconst (v := 1) C dX12_memory__261 rfl ?_
            refine v_iadd C dX12_memory__262 ?_
            refine v_sipush (v := 4095) C dX12_memory__263 rfl ?_
            refine v_iand C dX12_memory__266 ?_
            obtain ⟨m, e, h⟩ := ob h
            refine v_iastore C dX12_memory__267 e ?_
            refine v_goto (tgt := 279) C dX12_memory__268 (by decide) ?_
            exact v_sb (p_X12_memory__279 C F h) trivial
          · replace h := ifF h c
            refine v_caseD ?_
            refine v_aload_n C dX12_memory__271 rfl ?_
            obtain ⟨v, e, h⟩ := ob h
            refine v_getR C dX12_memory__272 gf_X12_287 e ?_
            refine v_iload_n C dX12_memory__275 rfl ?_
            refine v_iload C dX12_memory__276 rfl ?_
            obtain ⟨m, e, h⟩ := ob h
            refine v_iastore C dX12_memory__278 e ?_
            exact v_sb (p_X12_memory__279 C F h) trivial
set_option maxRecDepth 100000 in
set_option maxHeartbeats 4000000 in
theorem p_X12_memory__69 {x : CX} {l : Launch} {g : CG} {rv : Unit} {μ0 μ9 : Mem} (C : Cx x l g mi_X12_memory_) (F : Prom x g mi_X12_memory_ μ0 none μ9) {N : Nat} {a0 : Option Nat} {a1 : Int32} {a2 : Int32} {a4 : Int32} {μ : Mem} (h : f_X12_memory__69 N a0 a1 a2 a4 μ = some (rv, μ9)) : V x g 6 0 0 μ 69 [(0, aR a0), (1, aI a1), (2, aI a2), (4, aI a4)] [] := by
  unfold f_X12_memory__69 at h
  refine v_aload_n C dX12_memory__69 rfl ?_
  refine v_iload_n C dX12_memory__70 rfl ?_
  refine v_iload C dX12_memory__71 rfl ?_
  obtain ⟨b, e0, h⟩ := ob h
  obtain ⟨q, e, h⟩ := ob h
  refine v_callV (As := [_, _]) C dX12_memory__73 cf_X12_399 (rm_X12_memory__X12_load) ⟨rfl, rfl⟩ e0 rfl (Nat.le_of_ble_eq_true rfl) (c_X12_load _ _ N _ _ _ _ q.1 q.2 e) ?_
  refine v_istore C dX12_memory__76 (by decide) ?_
  exact v_sb (p_X12_memory__78 C F h) ⟨rfl, rfl, rfl, rfl, trivial⟩
set_option maxRecDepth 100000 in
set_option maxHeartbeats 4000000 in
theorem p_X12_memory__27 {x : CX} {l : Launch} {g : CG} {rv : Unit} {μ0 μ9 : Mem} (C : Cx x l g mi_X12_memory_) (F : Prom x g mi_X12_memory_ μ0 none μ9) {N : Nat} {a0 : Option Nat} {a1 : Int32} {a2 : Int32} {s0 : Int32} {s1 : Int32} {μ : Mem} (h : f_X12_memory__27 N a0 a1 a2 s0 s1 μ = some (rv, μ9)) : V x g 6 0 0 μ 27 [(0, aR a0), (1, aI a1), (2, aI a2)] [aI s1, aI s0] := by
  unfold f_X12_memory__27 at h
  refine v_ior C dX12_memory__27 ?_
  refine v_istore C dX12_memory__28 (by decide) ?_
  refine v_aload_n C dX12_memory__30 rfl ?_
  obtain ⟨v, e, h⟩ := ob h
  refine v_getI C dX12_memory__31 gf_X12_438 e ?_
  refine v_sipush (v := 256) C dX12_memory__34 rfl ?_
  refine v_iand C dX12_memory__37 ?_
  refine v_if_eq (tgt := 78) C dX12_memory__38 (by decide) (fun c => ?_) (fun c => ?_)
  · replace h := ifT h c
    exact v_sb (p_X12_memory__78 C F h) ⟨rfl, rfl, rfl, rfl, trivial⟩
  · replace h := ifF h c
    refine v_iload C dX12_memory__41 rfl ?_
    refine v_bipush (v := 8) C dX12_memory__43 rfl ?_
    refine v_bipush (v := 15) C dX12_memory__45 rfl ?_
    obtain ⟨q, e, h⟩ := ob h
    refine v_callS (As := [_, _, _]) C dX12_memory__47 cf_X12_15 (rm_X12_memory__X12_in) ⟨rfl, rfl⟩ rfl (Nat.le_of_ble_eq_true rfl) (c_X12_in _ _ N _ _ _ _ q.1 q.2 e) ?_
    refine v_if_eq (tgt := 69) C dX12_memory__50 (by decide) (fun c => ?_) (fun c => ?_)
    · replace h := ifT h c
      exact v_sb (p_X12_memory__69 C F h) ⟨rfl, rfl, rfl, rfl, trivial⟩
    · replace h := ifF h c
      refine v_aload_n C dX12_memory__53 rfl ?_
      refine v_iload_n C dX12_memory__54 rfl ?_
      refine v_iload C dX12_memory__55 rfl ?_
      refine v_aload_n C dX12_memory__57 rfl ?_
      refine v_iload_n C dX12_memory__58 rfl ?_
      refine v_iload C dX12_memory__59 rfl ?_
      obtain ⟨b, e0, h⟩ := ob h
      obtain ⟨q, e, h⟩ := ob h
      refine v_callV (As := [_, _]) C dX12_memory__61 cf_X12_399 (rm_X12_memory__X12_load) ⟨rfl, rfl⟩ e0 rfl (Nat.le_of_ble_eq_true rfl) (c_X12_load _ _ N _ _ _ _ q.1 q.2 e) ?_
      refine v_iconst (v := 1) C dX12_memory__64 rfl ?_
      refine v_iadd C dX12_memory__65 ?_
      obtain ⟨b, e0, h⟩ := ob h
      obtain ⟨q, e, h⟩ := ob h
      refine v_callV (As := [_, _, _]) C dX12_memory__66 cf_X12_368 (rm_X12_memory__X12_store) ⟨rfl, rfl⟩ e0 rfl (Nat.le_of_ble_eq_true rfl) (c_X12_store _ _ N _ _ _ _ _ q.1 q.2 e) ?_
      exact v_sb (p_X12_memory__69 C F h) ⟨rfl, rfl, rfl, rfl, trivial⟩
set_option maxRecDepth 100000 in
set_option maxHeartbeats 4000000 in
theorem p_X12_memory_ {x : CX} {l : Launch} {g : CG} {rv : Unit} {μ0 μ9 : Mem} (C : Cx x l g mi_X12_memory_) (F : Prom x g mi_X12_memory_ μ0 none μ9) {N : Nat} {a0 : Option Nat} {a1 : Int32} {a2 : Int32} {a3 : Int32} {μ : Mem} (h : f_X12_memory_ N a0 a1 a2 a3 μ = some (rv, μ9)) : V x g 6 0 0 μ 0 [(0, aR a0), (1, aI a1), (2, aI a2), (3, aI a3)] [] := by
  unfold f_X12_memory_ at h
  refine v_aload_n C dX12_memory__0 rfl ?_
  obtain ⟨v, e, h⟩ := ob h
  refine v_getI C dX12_memory__1 gf_X12_438 e ?_
  refine v_bipush (v := 127) C dX12_memory__4 rfl ?_
  refine v_iand C dX12_memory__6 ?_
  refine v_aload_n C dX12_memory__7 rfl ?_
  obtain ⟨v, e, h⟩ := ob h
  refine v_getI C dX12_memory__8 gf_X12_438 e ?_
  refine v_sipush (v := 128) C dX12_memory__11 rfl ?_
  refine v_iand C dX12_memory__14 ?_
  refine v_if_ne (tgt := 22) C dX12_memory__15 (by decide) (fun c => ?_) (fun c => ?_)
  · replace h := ifT h c
    refine v_iload_n C dX12_memory__22 rfl ?_
    refine v_sipush (v := 3968) C dX12_memory__23 rfl ?_
    refine v_iand C dX12_memory__26 ?_
    exact v_sb (p_X12_memory__27 C F h) ⟨rfl, rfl, rfl, trivial⟩
  · replace h := ifF h c
    refine v_iconst (v := 0) C dX12_memory__18 rfl ?_
    refine v_goto (tgt := 27) C dX12_memory__19 (by decide) ?_
    exact v_sb (p_X12_memory__27 C F h) ⟨rfl, rfl, rfl, trivial⟩
set_option maxRecDepth 100000 in
set_option maxHeartbeats 4000000 in
theorem c_X12_memory_ (l : Launch) (g : CG) (N : Nat) (a0 : Option Nat) (a1 : Int32) (a2 : Int32) (a3 : Int32) (μ : Mem) (rv : Unit) (μ9 : Mem) (h : f_X12_memory_ N a0 a1 a2 a3 μ = some (rv, μ9)) : Ct l yX12_memory_ mi_X12_memory_ g [aR a0, aI a1, aI a2, aI a3] μ none μ9 := ct_of ⟨by decide, rfl, rfl⟩ (Nat.le_of_ble_eq_true rfl) fun x C F => p_X12_memory_ C F h
def H_X12_goes_12 (N : Nat) (k12 : (Option Nat) → Int32 → Int32 → Mem → Option (Unit × Mem)) (a0 : Option Nat) (a1 : Int32) (a2 : Int32) (μ : Mem) : Option (Unit × Mem) :=
  (mfR μ a0 12 50).bind fun v1 =>
  (maI μ 0 v1 a1).bind fun v2 =>
  if v2 ≤ a2 then
    some ((), μ)
  else
    (mfR μ a0 12 49).bind fun v3 =>
    (maR μ 3 v3 a1).bind fun v4 =>
    (mfR μ a0 12 49).bind fun v5 =>
    (maR μ 3 v5 a1).bind fun v6 =>
    (maI μ 0 v6 (a2 + 1)).bind fun v7 =>
    (mbI μ 0 v4 a2 v7).bind fun μ8 =>
    k12 a0 a1 (a2 + 1) μ8
def L_X12_goes_12 (N : Nat) : Nat → (Option Nat) → Int32 → Int32 → Mem → Option (Unit × Mem)
  | 0 => fun _ _ _ _ => none
  | n + 1 => H_X12_goes_12 N (L_X12_goes_12 N n)
def f_X12_goes (N : Nat) (a0 : Option Nat) (a1 : Int32) (μ : Mem) : Option (Unit × Mem) :=
  (mfR μ a0 12 50).bind fun v1 =>
  (maI μ 0 v1 a1).bind fun v2 =>
  (mbI μ 0 v1 a1 (v2 - 1)).bind fun μ3 =>
  L_X12_goes_12 N N a0 a1 0 μ3
set_option maxRecDepth 100000 in
set_option maxHeartbeats 4000000 in
theorem pH_X12_goes_12 {x : CX} {l : Launch} {g : CG} {rv : Unit} {μ0 μ9 : Mem} (C : Cx x l g mi_X12_goes) (F : Prom x g mi_X12_goes μ0 none μ9) {N : Nat} {k12 : (Option Nat) → Int32 → Int32 → Mem → Option (Unit × Mem)} (hk12 : ∀ (a0 : Option Nat) (a1 : Int32) (a2 : Int32) (μ : Mem), k12 a0 a1 a2 μ = some (rv, μ9) → V x g 3 0 0 μ 12 [(0, aR a0), (1, aI a1), (2, aI a2)] []) {a0 : Option Nat} {a1 : Int32} {a2 : Int32} {μ : Mem} (h : H_X12_goes_12 N k12 a0 a1 a2 μ = some (rv, μ9)) : V x g 3 0 0 μ 12 [(0, aR a0), (1, aI a1), (2, aI a2)] [] := by
  unfold H_X12_goes_12 at h
  refine v_iload_n C dX12_goes_12 rfl ?_
  refine v_aload_n C dX12_goes_13 rfl ?_
  obtain ⟨v, e, h⟩ := ob h
  refine v_getR C dX12_goes_14 gf_X12_302 e ?_
  refine v_iload_n C dX12_goes_17 rfl ?_
  obtain ⟨v, e, h⟩ := ob h
  refine v_iaload C dX12_goes_18 e ?_
  refine v_icmp_ge (tgt := 46) C dX12_goes_19 (by decide) (fun c => ?_) (fun c => ?_)
  · replace h := ifT h c
    exact v_vret C F ⟨rfl, rfl, Nat.le_refl _⟩ dX12_goes_46 h
  · replace h := ifF h c
    refine v_aload_n C dX12_goes_22 rfl ?_
    obtain ⟨v, e, h⟩ := ob h
    refine v_getR C dX12_goes_23 gf_X12_299 e ?_
    refine v_iload_n C dX12_goes_26 rfl ?_
    obtain ⟨v, e, h⟩ := ob h
    refine v_aaload3 C dX12_goes_27 e ?_
    refine v_iload_n C dX12_goes_28 rfl ?_
    refine v_aload_n C dX12_goes_29 rfl ?_
    obtain ⟨v, e, h⟩ := ob h
    refine v_getR C dX12_goes_30 gf_X12_299 e ?_
    refine v_iload_n C dX12_goes_33 rfl ?_
    obtain ⟨v, e, h⟩ := ob h
    refine v_aaload3 C dX12_goes_34 e ?_
    refine v_iload_n C dX12_goes_35 rfl ?_
    refine v_iconst (v := 1) C dX12_goes_36 rfl ?_
    refine v_iadd C dX12_goes_37 ?_
    obtain ⟨v, e, h⟩ := ob h
    refine v_iaload C dX12_goes_38 e ?_
    obtain ⟨m, e, h⟩ := ob h
    refine v_iastore C dX12_goes_39 e ?_
    refine v_iinc (w := 1) C dX12_goes_40 rfl rfl (by decide) ?_
    refine v_goto (tgt := 12) C dX12_goes_43 (by decide) ?_
    exact v_sb (hk12 _ _ _ _ h) ⟨rfl, rfl, rfl, trivial⟩
set_option maxRecDepth 100000 in
set_option maxHeartbeats 4000000 in
theorem pL_X12_goes_12 {x : CX} {l : Launch} {g : CG} {rv : Unit} {μ0 μ9 : Mem} (C : Cx x l g mi_X12_goes) (F : Prom x g mi_X12_goes μ0 none μ9) (N : Nat) (n : Nat) : ∀ (a0 : Option Nat) (a1 : Int32) (a2 : Int32) (μ : Mem), L_X12_goes_12 N n a0 a1 a2 μ = some (rv, μ9) → V x g 3 0 0 μ 12 [(0, aR a0), (1, aI a1), (2, aI a2)] [] := by
  induction n with
  | zero => intro a0 a1 a2 μ h; cases h
  | succ n ih => intro a0 a1 a2 μ h; exact pH_X12_goes_12 C F ih h
set_option maxRecDepth 100000 in
set_option maxHeartbeats 4000000 in
theorem p_X12_goes {x : CX} {l : Launch} {g : CG} {rv : Unit} {μ0 μ9 : Mem} (C : Cx x l g mi_X12_goes) (F : Prom x g mi_X12_goes μ0 none μ9) {N : Nat} {a0 : Option Nat} {a1 : Int32} {μ : Mem} (h : f_X12_goes N a0 a1 μ = some (rv, μ9)) : V x g 3 0 0 μ 0 [(0, aR a0), (1, aI a1)] [] := by
  unfold f_X12_goes at h
  refine v_aload_n C dX12_goes_0 rfl ?_
  obtain ⟨v, e, h⟩ := ob h
  refine v_getR C dX12_goes_1 gf_X12_302 e ?_
  refine v_iload_n C dX12_goes_4 rfl ?_
  refine v_dup2 C dX12_goes_5 rfl rfl ?_
  obtain ⟨v, e, h⟩ := ob h
  refine v_iaload C dX12_goes_6 e ?_
  refine v_iconst (v := 1) C dX12_goes_7 rfl ?_
  refine v_isub C dX12_goes_8 ?_
  obtain ⟨m, e, h⟩ := ob h
  refine v_iastore C dX12_goes_9 e ?_
  refine v_iconst (v := 0) C dX12_goes_10 rfl ?_
  refine v_istore_n C dX12_goes_11 (by decide) ?_
  exact v_sb (pL_X12_goes_12 C F N N _ _ _ _ h) ⟨rfl, rfl, rfl, trivial⟩
set_option maxRecDepth 100000 in
set_option maxHeartbeats 4000000 in
theorem c_X12_goes (l : Launch) (g : CG) (N : Nat) (a0 : Option Nat) (a1 : Int32) (μ : Mem) (rv : Unit) (μ9 : Mem) (h : f_X12_goes N a0 a1 μ = some (rv, μ9)) : Ct l yX12_goes mi_X12_goes g [aR a0, aI a1] μ none μ9 := ct_of ⟨by decide, rfl, rfl⟩ (Nat.le_of_ble_eq_true rfl) fun x C F => p_X12_goes C F h
