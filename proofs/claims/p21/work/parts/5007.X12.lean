/-! LAYER 1, ShareEightModel: leavesQueue, halt, key, set, store, deposit, clocks, load (by program) -/
def f_X12_leavesQueue_40 (N : Nat) (k4 : (Option Nat) → Int32 → Int32 → Int32 → Mem → Option (Unit × Mem)) (a0 : Option Nat) (a1 : Int32) (a2 : Int32) (a3 : Int32) (μ : Mem) : Option (Unit × Mem) :=
  k4 a0 a1 a2 (a3 + 1) μ
def H_X12_leavesQueue_4 (N : Nat) (k4 : (Option Nat) → Int32 → Int32 → Int32 → Mem → Option (Unit × Mem)) (a0 : Option Nat) (a1 : Int32) (a2 : Int32) (a3 : Int32) (μ : Mem) : Option (Unit × Mem) :=
  (mfI μ a0 12 63).bind fun v1 =>
  if v1 ≤ a3 then
    (mpI μ a0 12 63 a2).bind fun μ2 =>
    some ((), μ2)
  else
    (mfR μ a0 12 62).bind fun v3 =>
    (maI μ 0 v3 a3).bind fun v4 =>
    if ¬ v4 = a1 then
      (mfR μ a0 12 62).bind fun v5 =>
      (mfR μ a0 12 62).bind fun v6 =>
      (maI μ 0 v6 a3).bind fun v7 =>
      (mbI μ 0 v5 a2 v7).bind fun μ8 =>
      f_X12_leavesQueue_40 N k4 a0 a1 (a2 + 1) a3 μ8
    else
      f_X12_leavesQueue_40 N k4 a0 a1 a2 a3 μ
def L_X12_leavesQueue_4 (N : Nat) : Nat → (Option Nat) → Int32 → Int32 → Int32 → Mem → Option (Unit × Mem)
  | 0 => fun _ _ _ _ _ => none
  | n + 1 => H_X12_leavesQueue_4 N (L_X12_leavesQueue_4 N n)
def f_X12_leavesQueue (N : Nat) (a0 : Option Nat) (a1 : Int32) (μ : Mem) : Option (Unit × Mem) :=
  L_X12_leavesQueue_4 N N a0 a1 0 0 μ
set_option maxRecDepth 100000 in
set_option maxHeartbeats 4000000 in
theorem p_X12_leavesQueue_40 {x : CX} {l : Launch} {g : CG} {rv : Unit} {μ0 μ9 : Mem} (C : Cx x l g mi_X12_leavesQueue) (F : Prom x g mi_X12_leavesQueue μ0 none μ9) {N : Nat} {k4 : (Option Nat) → Int32 → Int32 → Int32 → Mem → Option (Unit × Mem)} (hk4 : ∀ (a0 : Option Nat) (a1 : Int32) (a2 : Int32) (a3 : Int32) (μ : Mem), k4 a0 a1 a2 a3 μ = some (rv, μ9) → V x g 4 0 0 μ 4 [(0, aR a0), (1, aI a1), (2, aI a2), (3, aI a3)] []) {a0 : Option Nat} {a1 : Int32} {a2 : Int32} {a3 : Int32} {μ : Mem} (h : f_X12_leavesQueue_40 N k4 a0 a1 a2 a3 μ = some (rv, μ9)) : V x g 4 0 0 μ 40 [(0, aR a0), (1, aI a1), (2, aI a2), (3, aI a3)] [] := by
  unfold f_X12_leavesQueue_40 at h
  refine v_iinc (w := 1) C dX12_leavesQueue_40 rfl rfl (by decide) ?_
  refine v_goto (tgt := 4) C dX12_leavesQueue_43 (by decide) ?_
  exact v_sb (hk4 _ _ _ _ _ h) ⟨rfl, rfl, rfl, rfl, trivial⟩
set_option maxRecDepth 100000 in
set_option maxHeartbeats 4000000 in
theorem pH_X12_leavesQueue_4 {x : CX} {l : Launch} {g : CG} {rv : Unit} {μ0 μ9 : Mem} (C : Cx x l g mi_X12_leavesQueue) (F : Prom x g mi_X12_leavesQueue μ0 none μ9) {N : Nat} {k4 : (Option Nat) → Int32 → Int32 → Int32 → Mem → Option (Unit × Mem)} (hk4 : ∀ (a0 : Option Nat) (a1 : Int32) (a2 : Int32) (a3 : Int32) (μ : Mem), k4 a0 a1 a2 a3 μ = some (rv, μ9) → V x g 4 0 0 μ 4 [(0, aR a0), (1, aI a1), (2, aI a2), (3, aI a3)] []) {a0 : Option Nat} {a1 : Int32} {a2 : Int32} {a3 : Int32} {μ : Mem} (h : H_X12_leavesQueue_4 N k4 a0 a1 a2 a3 μ = some (rv, μ9)) : V x g 4 0 0 μ 4 [(0, aR a0), (1, aI a1), (2, aI a2), (3, aI a3)] [] := by
  unfold H_X12_leavesQueue_4 at h
  refine v_iload_n C dX12_leavesQueue_4 rfl ?_
  refine v_aload_n C dX12_leavesQueue_5 rfl ?_
  obtain ⟨v, e, h⟩ := ob h
  refine v_getI C dX12_leavesQueue_6 gf_X12_338 e ?_
  refine v_icmp_ge (tgt := 46) C dX12_leavesQueue_9 (by decide) (fun c => ?_) (fun c => ?_)
  · replace h := ifT h c
    refine v_aload_n C dX12_leavesQueue_46 rfl ?_
    refine v_iload_n C dX12_leavesQueue_47 rfl ?_
    obtain ⟨m, e, h⟩ := ob h
    refine v_putI C dX12_leavesQueue_48 (pf_X12_338 _) e ?_
    exact v_vret C F ⟨rfl, rfl, Nat.le_refl _⟩ dX12_leavesQueue_51 h
  · replace h := ifF h c
    refine v_aload_n C dX12_leavesQueue_12 rfl ?_
    obtain ⟨v, e, h⟩ := ob h
    refine v_getR C dX12_leavesQueue_13 gf_X12_234 e ?_
    refine v_iload_n C dX12_leavesQueue_16 rfl ?_
    obtain ⟨v, e, h⟩ := ob h
    refine v_iaload C dX12_leavesQueue_17 e ?_
    refine v_iload_n C dX12_leavesQueue_18 rfl ?_
    refine v_icmp_ne (tgt := 25) C dX12_leavesQueue_19 (by decide) (fun c => ?_) (fun c => ?_)
    · replace h := ifT h c
      refine v_aload_n C dX12_leavesQueue_25 rfl ?_
      obtain ⟨v, e, h⟩ := ob h
      refine v_getR C dX12_leavesQueue_26 gf_X12_234 e ?_
      refine v_iload_n C dX12_leavesQueue_29 rfl ?_
      refine v_aload_n C dX12_leavesQueue_30 rfl ?_
      obtain ⟨v, e, h⟩ := ob h
      refine v_getR C dX12_leavesQueue_31 gf_X12_234 e ?_
      refine v_iload_n C dX12_leavesQueue_34 rfl ?_
      obtain ⟨v, e, h⟩ := ob h
      refine v_iaload C dX12_leavesQueue_35 e ?_
      obtain ⟨m, e, h⟩ := ob h
      refine v_iastore C dX12_leavesQueue_36 e ?_
      refine v_iinc (w := 1) C dX12_leavesQueue_37 rfl rfl (by decide) ?_
      exact v_sb (p_X12_leavesQueue_40 C F hk4 h) ⟨rfl, rfl, rfl, rfl, trivial⟩
    · replace h := ifF h c
      refine v_goto (tgt := 40) C dX12_leavesQueue_22 (by decide) ?_
      exact v_sb (p_X12_leavesQueue_40 C F hk4 h) ⟨rfl, rfl, rfl, rfl, trivial⟩
set_option maxRecDepth 100000 in
set_option maxHeartbeats 4000000 in
theorem pL_X12_leavesQueue_4 {x : CX} {l : Launch} {g : CG} {rv : Unit} {μ0 μ9 : Mem} (C : Cx x l g mi_X12_leavesQueue) (F : Prom x g mi_X12_leavesQueue μ0 none μ9) (N : Nat) (n : Nat) : ∀ (a0 : Option Nat) (a1 : Int32) (a2 : Int32) (a3 : Int32) (μ : Mem), L_X12_leavesQueue_4 N n a0 a1 a2 a3 μ = some (rv, μ9) → V x g 4 0 0 μ 4 [(0, aR a0), (1, aI a1), (2, aI a2), (3, aI a3)] [] := by
  induction n with
  | zero => intro a0 a1 a2 a3 μ h; cases h
  | succ n ih => intro a0 a1 a2 a3 μ h; exact pH_X12_leavesQueue_4 C F ih h
set_option maxRecDepth 100000 in
set_option maxHeartbeats 4000000 in
theorem p_X12_leavesQueue {x : CX} {l : Launch} {g : CG} {rv : Unit} {μ0 μ9 : Mem} (C : Cx x l g mi_X12_leavesQueue) (F : Prom x g mi_X12_leavesQueue μ0 none μ9) {N : Nat} {a0 : Option Nat} {a1 : Int32} {μ : Mem} (h : f_X12_leavesQueue N a0 a1 μ = some (rv, μ9)) : V x g 4 0 0 μ 0 [(0, aR a0), (1, aI a1)] [] := by
  unfold f_X12_leavesQueue at h
  refine v_iconst (v := 0) C dX12_leavesQueue_0 rfl ?_
  refine v_istore_n C dX12_leavesQueue_1 (by decide) ?_
  refine v_iconst (v := 0) C dX12_leavesQueue_2 rfl ?_
  refine v_istore_n C dX12_leavesQueue_3 (by decide) ?_
  exact v_sb (pL_X12_leavesQueue_4 C F N N _ _ _ _ _ h) ⟨rfl, rfl, rfl, rfl, trivial⟩
set_option maxRecDepth 100000 in
set_option maxHeartbeats 4000000 in
theorem c_X12_leavesQueue (l : Launch) (g : CG) (N : Nat) (a0 : Option Nat) (a1 : Int32) (μ : Mem) (rv : Unit) (μ9 : Mem) (h : f_X12_leavesQueue N a0 a1 μ = some (rv, μ9)) : Ct l yX12_leavesQueue mi_X12_leavesQueue g [aR a0, aI a1] μ none μ9 := ct_of ⟨by decide, rfl, rfl⟩ (Nat.le_of_ble_eq_true rfl) fun x C F => p_X12_leavesQueue C F h
def f_X12_halt_22 (N : Nat) (μ : Mem) : Option (Int32 × Mem) :=
  retZ 0 μ
def f_X12_halt_54 (N : Nat) (a0 : Option Nat) (a1 : Int32) (μ : Mem) : Option (Int32 × Mem) :=
  (mfR μ a0 12 42).bind fun v1 =>
  (mbI μ 0 v1 a1 6).bind fun μ2 =>
  retZ 1 μ2
def f_X12_halt (N : Nat) (a0 : Option Nat) (a1 : Int32) (μ : Mem) : Option (Int32 × Mem) :=
  (mck μ a0 12).bind fun b2 =>
  (f_X12_isUser N (some b2) a1 μ).bind fun q1 =>
  if q1.1 = 0 then
    f_X12_halt_22 N q1.2
  else
    (mfR q1.2 a0 12 42).bind fun v3 =>
    (maI q1.2 0 v3 a1).bind fun v4 =>
    (f_X12_in N v4 1 4 q1.2).bind fun q5 =>
    if ¬ q5.1 = 0 then
      (mck q5.2 a0 12).bind fun b7 =>
      (f_X12_leavesQueue N (some b7) a1 q5.2).bind fun q6 =>
      (mfI q6.2 a0 12 64).bind fun v8 =>
      if ¬ v8 = a1 then
        f_X12_halt_54 N a0 a1 q6.2
      else
        (mfR q6.2 a0 12 40).bind fun v9 =>
        (mfR q6.2 a0 12 41).bind fun v10 =>
        (maI q6.2 0 v10 a1).bind fun v11 =>
        (mbZ q6.2 2 v9 v11 1).bind fun μ12 =>
        (mpI μ12 a0 12 64 ((-1))).bind fun μ13 =>
        f_X12_halt_54 N a0 a1 μ13
    else
      f_X12_halt_22 N q5.2
set_option maxRecDepth 100000 in
set_option maxHeartbeats 4000000 in
theorem p_X12_halt_22 {x : CX} {l : Launch} {g : CG} {rv : Int32} {μ0 μ9 : Mem} (C : Cx x l g mi_X12_halt) (F : Prom x g mi_X12_halt μ0 (some (aI rv)) μ9) {N : Nat} {μ : Mem} (h : f_X12_halt_22 N μ = some (rv, μ9)) : V x g 2 0 0 μ 22 [] [] := by
  unfold f_X12_halt_22 at h
  refine v_iconst (v := 0) C dX12_halt_22 rfl ?_
  exact v_zret C F ⟨rfl, rfl, Nat.le_refl _⟩ dX12_halt_23 h
set_option maxRecDepth 100000 in
set_option maxHeartbeats 4000000 in
theorem p_X12_halt_54 {x : CX} {l : Launch} {g : CG} {rv : Int32} {μ0 μ9 : Mem} (C : Cx x l g mi_X12_halt) (F : Prom x g mi_X12_halt μ0 (some (aI rv)) μ9) {N : Nat} {a0 : Option Nat} {a1 : Int32} {μ : Mem} (h : f_X12_halt_54 N a0 a1 μ = some (rv, μ9)) : V x g 2 0 0 μ 54 [(0, aR a0), (1, aI a1)] [] := by
  unfold f_X12_halt_54 at h
  refine v_aload_n C dX12_halt_54 rfl ?_
  obtain ⟨v, e, h⟩ := ob h
  refine v_getR C dX12_halt_55 gf_X12_278 e ?_
  refine v_iload_n C dX12_halt_58 rfl ?_
  refine v_bipush (v := 6) C dX12_halt_59 rfl ?_
  obtain ⟨m, e, h⟩ := ob h
  refine v_iastore C dX12_halt_61 e ?_
  refine v_iconst (v := 1) C dX12_halt_62 rfl ?_
  exact v_zret C F ⟨rfl, rfl, Nat.le_refl _⟩ dX12_halt_63 h
set_option maxRecDepth 100000 in
set_option maxHeartbeats 4000000 in
theorem p_X12_halt {x : CX} {l : Launch} {g : CG} {rv : Int32} {μ0 μ9 : Mem} (C : Cx x l g mi_X12_halt) (F : Prom x g mi_X12_halt μ0 (some (aI rv)) μ9) {N : Nat} {a0 : Option Nat} {a1 : Int32} {μ : Mem} (h : f_X12_halt N a0 a1 μ = some (rv, μ9)) : V x g 2 0 0 μ 0 [(0, aR a0), (1, aI a1)] [] := by
  unfold f_X12_halt at h
  refine v_aload_n C dX12_halt_0 rfl ?_
  refine v_iload_n C dX12_halt_1 rfl ?_
  obtain ⟨b, e0, h⟩ := ob h
  obtain ⟨q, e, h⟩ := ob h
  refine v_callV (As := [_]) C dX12_halt_2 cf_X12_341 (rm_X12_halt_X12_isUser) ⟨rfl, rfl⟩ e0 rfl (Nat.le_of_ble_eq_true rfl) (c_X12_isUser _ _ N _ _ _ q.1 q.2 e) ?_
  refine v_if_eq (tgt := 22) C dX12_halt_5 (by decide) (fun c => ?_) (fun c => ?_)
  · replace h := ifT h c
    exact v_sb (p_X12_halt_22 C F h) trivial
  · replace h := ifF h c
    refine v_aload_n C dX12_halt_8 rfl ?_
    obtain ⟨v, e, h⟩ := ob h
    refine v_getR C dX12_halt_9 gf_X12_278 e ?_
    refine v_iload_n C dX12_halt_12 rfl ?_
    obtain ⟨v, e, h⟩ := ob h
    refine v_iaload C dX12_halt_13 e ?_
    refine v_iconst (v := 1) C dX12_halt_14 rfl ?_
    refine v_iconst (v := 4) C dX12_halt_15 rfl ?_
    obtain ⟨q, e, h⟩ := ob h
    refine v_callS (As := [_, _, _]) C dX12_halt_16 cf_X12_15 (rm_X12_halt_X12_in) ⟨rfl, rfl⟩ rfl (Nat.le_of_ble_eq_true rfl) (c_X12_in _ _ N _ _ _ _ q.1 q.2 e) ?_
    refine v_if_ne (tgt := 24) C dX12_halt_19 (by decide) (fun c => ?_) (fun c => ?_)
    · replace h := ifT h c
      refine v_aload_n C dX12_halt_24 rfl ?_
      refine v_iload_n C dX12_halt_25 rfl ?_
      obtain ⟨b, e0, h⟩ := ob h
      obtain ⟨q, e, h⟩ := ob h
      refine v_callV (As := [_]) C dX12_halt_26 cf_X12_365 (rm_X12_halt_X12_leavesQueue) ⟨rfl, rfl⟩ e0 rfl (Nat.le_of_ble_eq_true rfl) (c_X12_leavesQueue _ _ N _ _ _ q.1 q.2 e) ?_
      refine v_aload_n C dX12_halt_29 rfl ?_
      obtain ⟨v, e, h⟩ := ob h
      refine v_getI C dX12_halt_30 gf_X12_237 e ?_
      refine v_iload_n C dX12_halt_33 rfl ?_
      refine v_icmp_ne (tgt := 54) C dX12_halt_34 (by decide) (fun c => ?_) (fun c => ?_)
      · replace h := ifT h c
        exact v_sb (p_X12_halt_54 C F h) ⟨rfl, rfl, trivial⟩
      · replace h := ifF h c
        refine v_aload_n C dX12_halt_37 rfl ?_
        obtain ⟨v, e, h⟩ := ob h
        refine v_getR C dX12_halt_38 gf_X12_272 e ?_
        refine v_aload_n C dX12_halt_41 rfl ?_
        obtain ⟨v, e, h⟩ := ob h
        refine v_getR C dX12_halt_42 gf_X12_275 e ?_
        refine v_iload_n C dX12_halt_45 rfl ?_
        obtain ⟨v, e, h⟩ := ob h
        refine v_iaload C dX12_halt_46 e ?_
        refine v_iconst (v := 1) C dX12_halt_47 rfl ?_
        obtain ⟨m, e, h⟩ := ob h
        refine v_bastore C dX12_halt_48 e ?_
        refine v_aload_n C dX12_halt_49 rfl ?_
        refine v_iconst (v := -1) C dX12_halt_50 rfl ?_
        obtain ⟨m, e, h⟩ := ob h
        refine v_putI C dX12_halt_51 (pf_X12_237 _) e ?_
        exact v_sb (p_X12_halt_54 C F h) ⟨rfl, rfl, trivial⟩
    · replace h := ifF h c
      exact v_sb (p_X12_halt_22 C F h) trivial
set_option maxRecDepth 100000 in
set_option maxHeartbeats 4000000 in
theorem c_X12_halt (l : Launch) (g : CG) (N : Nat) (a0 : Option Nat) (a1 : Int32) (μ : Mem) (rv : Int32) (μ9 : Mem) (h : f_X12_halt N a0 a1 μ = some (rv, μ9)) : Ct l yX12_halt mi_X12_halt g [aR a0, aI a1] μ (some (aI rv)) μ9 := ct_of ⟨by decide, rfl, rfl⟩ (Nat.le_of_ble_eq_true rfl) fun x C F => p_X12_halt C F h
def f_X12_key_18 (N : Nat) (μ : Mem) : Option (Int32 × Mem) :=
  retZ 0 μ
def f_X12_key_82 (N : Nat) (μ : Mem) : Option (Int32 × Mem) :=
  retZ 1 μ
def f_X12_key (N : Nat) (a0 : Option Nat) (a1 : Int32) (a2 : Int32) (μ : Mem) : Option (Int32 × Mem) :=
  (mck μ a0 12).bind fun b2 =>
  (f_X12_isUser N (some b2) a1 μ).bind fun q1 =>
  if q1.1 = 0 then
    f_X12_key_18 N q1.2
  else
    (f_X12_in N a2 0 127 q1.2).bind fun q3 =>
    if ¬ q3.1 = 0 then
      (mfR q3.2 a0 12 50).bind fun v4 =>
      (maI q3.2 0 v4 a1).bind fun v5 =>
      if ¬ v5 = (16 : Int32) then
        (mfR q3.2 a0 12 49).bind fun v6 =>
        (maR q3.2 3 v6 a1).bind fun v7 =>
        (mfR q3.2 a0 12 50).bind fun v8 =>
        (maI q3.2 0 v8 a1).bind fun v9 =>
        (mbI q3.2 0 v7 v9 a2).bind fun μ10 =>
        (mfR μ10 a0 12 50).bind fun v11 =>
        (maI μ10 0 v11 a1).bind fun v12 =>
        (mbI μ10 0 v11 a1 (v12 + 1)).bind fun μ13 =>
        (mfR μ13 a0 12 42).bind fun v14 =>
        (maI μ13 0 v14 a1).bind fun v15 =>
        if ¬ v15 = (2 : Int32) then
          f_X12_key_82 N μ13
        else
          (mck μ13 a0 12).bind fun b17 =>
          (f_X12_becomesReady N (some b17) a1 μ13).bind fun q16 =>
          f_X12_key_82 N q16.2
      else
        (mfR q3.2 a0 12 51).bind fun v18 =>
        (maI q3.2 0 v18 a1).bind fun v19 =>
        (mbI q3.2 0 v18 a1 (v19 + 1)).bind fun μ20 =>
        retZ 0 μ20
    else
      f_X12_key_18 N q3.2
set_option maxRecDepth 100000 in
set_option maxHeartbeats 4000000 in
theorem p_X12_key_18 {x : CX} {l : Launch} {g : CG} {rv : Int32} {μ0 μ9 : Mem} (C : Cx x l g mi_X12_key) (F : Prom x g mi_X12_key μ0 (some (aI rv)) μ9) {N : Nat} {μ : Mem} (h : f_X12_key_18 N μ = some (rv, μ9)) : V x g 3 0 0 μ 18 [] [] := by
  unfold f_X12_key_18 at h
  refine v_iconst (v := 0) C dX12_key_18 rfl ?_
  exact v_zret C F ⟨rfl, rfl, Nat.le_refl _⟩ dX12_key_19 h
set_option maxRecDepth 100000 in
set_option maxHeartbeats 4000000 in
theorem p_X12_key_82 {x : CX} {l : Launch} {g : CG} {rv : Int32} {μ0 μ9 : Mem} (C : Cx x l g mi_X12_key) (F : Prom x g mi_X12_key μ0 (some (aI rv)) μ9) {N : Nat} {μ : Mem} (h : f_X12_key_82 N μ = some (rv, μ9)) : V x g 3 0 0 μ 82 [] [] := by
  unfold f_X12_key_82 at h
  refine v_iconst (v := 1) C dX12_key_82 rfl ?_
  exact v_zret C F ⟨rfl, rfl, Nat.le_refl _⟩ dX12_key_83 h
set_option maxRecDepth 100000 in
set_option maxHeartbeats 4000000 in
theorem p_X12_key {x : CX} {l : Launch} {g : CG} {rv : Int32} {μ0 μ9 : Mem} (C : Cx x l g mi_X12_key) (F : Prom x g mi_X12_key μ0 (some (aI rv)) μ9) {N : Nat} {a0 : Option Nat} {a1 : Int32} {a2 : Int32} {μ : Mem} (h : f_X12_key N a0 a1 a2 μ = some (rv, μ9)) : V x g 3 0 0 μ 0 [(0, aR a0), (1, aI a1), (2, aI a2)] [] := by
  unfold f_X12_key at h
  refine v_aload_n C dX12_key_0 rfl ?_
  refine v_iload_n C dX12_key_1 rfl ?_
  obtain ⟨b, e0, h⟩ := ob h
  obtain ⟨q, e, h⟩ := ob h
  refine v_callV (As := [_]) C dX12_key_2 cf_X12_341 (rm_X12_key_X12_isUser) ⟨rfl, rfl⟩ e0 rfl (Nat.le_of_ble_eq_true rfl) (c_X12_isUser _ _ N _ _ _ q.1 q.2 e) ?_
  refine v_if_eq (tgt := 18) C dX12_key_5 (by decide) (fun c => ?_) (fun c => ?_)
  · replace h := ifT h c
    exact v_sb (p_X12_key_18 C F h) trivial
  · replace h := ifF h c
    refine v_iload_n C dX12_key_8 rfl ?_
    refine v_iconst (v := 0) C dX12_key_9 rfl ?_
    refine v_bipush (v := 127) C dX12_key_10 rfl ?_
    obtain ⟨q, e, h⟩ := ob h
    refine v_callS (As := [_, _, _]) C dX12_key_12 cf_X12_15 (rm_X12_key_X12_in) ⟨rfl, rfl⟩ rfl (Nat.le_of_ble_eq_true rfl) (c_X12_in _ _ N _ _ _ _ q.1 q.2 e) ?_
    refine v_if_ne (tgt := 20) C dX12_key_15 (by decide) (fun c => ?_) (fun c => ?_)
    · replace h := ifT h c
      refine v_aload_n C dX12_key_20 rfl ?_
      obtain ⟨v, e, h⟩ := ob h
      refine v_getR C dX12_key_21 gf_X12_302 e ?_
      refine v_iload_n C dX12_key_24 rfl ?_
      obtain ⟨v, e, h⟩ := ob h
      refine v_iaload C dX12_key_25 e ?_
      refine v_bipush (v := 16) C dX12_key_26 rfl ?_
      refine v_icmp_ne (tgt := 43) C dX12_key_28 (by decide) (fun c => ?_) (fun c => ?_)
      · replace h := ifT h c
        refine v_aload_n C dX12_key_43 rfl ?_
        obtain ⟨v, e, h⟩ := ob h
        refine v_getR C dX12_key_44 gf_X12_299 e ?_
        refine v_iload_n C dX12_key_47 rfl ?_
        obtain ⟨v, e, h⟩ := ob h
        refine v_aaload3 C dX12_key_48 e ?_
        refine v_aload_n C dX12_key_49 rfl ?_
        obtain ⟨v, e, h⟩ := ob h
        refine v_getR C dX12_key_50 gf_X12_302 e ?_
        refine v_iload_n C dX12_key_53 rfl ?_
        obtain ⟨v, e, h⟩ := ob h
        refine v_iaload C dX12_key_54 e ?_
        refine v_iload_n C dX12_key_55 rfl ?_
        obtain ⟨m, e, h⟩ := ob h
        refine v_iastore C dX12_key_56 e ?_
        refine v_aload_n C dX12_key_57 rfl ?_
        obtain ⟨v, e, h⟩ := ob h
        refine v_getR C dX12_key_58 gf_X12_302 e ?_
        refine v_iload_n C dX12_key_61 rfl ?_
        refine v_dup2 C dX12_key_62 rfl rfl ?_
        obtain ⟨v, e, h⟩ := ob h
        refine v_iaload C dX12_key_63 e ?_
        refine v_iconst (v := 1) C dX12_key_64 rfl ?_
        refine v_iadd C dX12_key_65 ?_
        obtain ⟨m, e, h⟩ := ob h
        refine v_iastore C dX12_key_66 e ?_
        refine v_aload_n C dX12_key_67 rfl ?_
        obtain ⟨v, e, h⟩ := ob h
        refine v_getR C dX12_key_68 gf_X12_278 e ?_
        refine v_iload_n C dX12_key_71 rfl ?_
        obtain ⟨v, e, h⟩ := ob h
        refine v_iaload C dX12_key_72 e ?_
        refine v_iconst (v := 2) C dX12_key_73 rfl ?_
        refine v_icmp_ne (tgt := 82) C dX12_key_74 (by decide) (fun c => ?_) (fun c => ?_)
        · replace h := ifT h c
          exact v_sb (p_X12_key_82 C F h) trivial
        · replace h := ifF h c
          refine v_aload_n C dX12_key_77 rfl ?_
          refine v_iload_n C dX12_key_78 rfl ?_
          obtain ⟨b, e0, h⟩ := ob h
          obtain ⟨q, e, h⟩ := ob h
          refine v_callV (As := [_]) C dX12_key_79 cf_X12_362 (rm_X12_key_X12_becomesReady) ⟨rfl, rfl⟩ e0 rfl (Nat.le_of_ble_eq_true rfl) (c_X12_becomesReady _ _ N _ _ _ q.1 q.2 e) ?_
          exact v_sb (p_X12_key_82 C F h) trivial
      · replace h := ifF h c
        refine v_aload_n C dX12_key_31 rfl ?_
        obtain ⟨v, e, h⟩ := ob h
        refine v_getR C dX12_key_32 gf_X12_305 e ?_
        refine v_iload_n C dX12_key_35 rfl ?_
        refine v_dup2 C dX12_key_36 rfl rfl ?_
        obtain ⟨v, e, h⟩ := ob h
        refine v_iaload C dX12_key_37 e ?_
        refine v_iconst (v := 1) C dX12_key_38 rfl ?_
        refine v_iadd C dX12_key_39 ?_
        obtain ⟨m, e, h⟩ := ob h
        refine v_iastore C dX12_key_40 e ?_
        refine v_iconst (v := 0) C dX12_key_41 rfl ?_
        exact v_zret C F ⟨rfl, rfl, Nat.le_refl _⟩ dX12_key_42 h
    · replace h := ifF h c
      exact v_sb (p_X12_key_18 C F h) trivial
set_option maxRecDepth 100000 in
set_option maxHeartbeats 4000000 in
theorem c_X12_key (l : Launch) (g : CG) (N : Nat) (a0 : Option Nat) (a1 : Int32) (a2 : Int32) (μ : Mem) (rv : Int32) (μ9 : Mem) (h : f_X12_key N a0 a1 a2 μ = some (rv, μ9)) : Ct l yX12_key mi_X12_key g [aR a0, aI a1, aI a2] μ (some (aI rv)) μ9 := ct_of ⟨by decide, rfl, rfl⟩ (Nat.le_of_ble_eq_true rfl) fun x C F => p_X12_key C F h
def f_X12_set_15 (N : Nat) (μ : Mem) : Option (Int32 × Mem) :=
  retZ 0 μ
def f_X12_set (N : Nat) (a0 : Option Nat) (a1 : Int32) (a2 : Int32) (μ : Mem) : Option (Int32 × Mem) :=
  (mck μ a0 12).bind fun b2 =>
  (f_X12_isUser N (some b2) a1 μ).bind fun q1 =>
  if q1.1 = 0 then
    f_X12_set_15 N q1.2
  else
    (f_X12_isWord N a2 q1.2).bind fun q3 =>
    if ¬ q3.1 = 0 then
      (mfR q3.2 a0 12 47).bind fun v4 =>
      (mbI q3.2 0 v4 a1 a2).bind fun μ5 =>
      retZ 1 μ5
    else
      f_X12_set_15 N q3.2
set_option maxRecDepth 100000 in
set_option maxHeartbeats 4000000 in
theorem p_X12_set_15 {x : CX} {l : Launch} {g : CG} {rv : Int32} {μ0 μ9 : Mem} (C : Cx x l g mi_X12_set) (F : Prom x g mi_X12_set μ0 (some (aI rv)) μ9) {N : Nat} {μ : Mem} (h : f_X12_set_15 N μ = some (rv, μ9)) : V x g 3 0 0 μ 15 [] [] := by
  unfold f_X12_set_15 at h
  refine v_iconst (v := 0) C dX12_set_15 rfl ?_
  exact v_zret C F ⟨rfl, rfl, Nat.le_refl _⟩ dX12_set_16 h
set_option maxRecDepth 100000 in
set_option maxHeartbeats 4000000 in
theorem p_X12_set {x : CX} {l : Launch} {g : CG} {rv : Int32} {μ0 μ9 : Mem} (C : Cx x l g mi_X12_set) (F : Prom x g mi_X12_set μ0 (some (aI rv)) μ9) {N : Nat} {a0 : Option Nat} {a1 : Int32} {a2 : Int32} {μ : Mem} (h : f_X12_set N a0 a1 a2 μ = some (rv, μ9)) : V x g 3 0 0 μ 0 [(0, aR a0), (1, aI a1), (2, aI a2)] [] := by
  unfold f_X12_set at h
  refine v_aload_n C dX12_set_0 rfl ?_
  refine v_iload_n C dX12_set_1 rfl ?_
  obtain ⟨b, e0, h⟩ := ob h
  obtain ⟨q, e, h⟩ := ob h
  refine v_callV (As := [_]) C dX12_set_2 cf_X12_341 (rm_X12_set_X12_isUser) ⟨rfl, rfl⟩ e0 rfl (Nat.le_of_ble_eq_true rfl) (c_X12_isUser _ _ N _ _ _ q.1 q.2 e) ?_
  refine v_if_eq (tgt := 15) C dX12_set_5 (by decide) (fun c => ?_) (fun c => ?_)
  · replace h := ifT h c
    exact v_sb (p_X12_set_15 C F h) trivial
  · replace h := ifF h c
    refine v_iload_n C dX12_set_8 rfl ?_
    obtain ⟨q, e, h⟩ := ob h
    refine v_callS (As := [_]) C dX12_set_9 cf_X12_359 (rm_X12_set_X12_isWord) ⟨rfl, rfl⟩ rfl (Nat.le_of_ble_eq_true rfl) (c_X12_isWord _ _ N _ _ q.1 q.2 e) ?_
    refine v_if_ne (tgt := 17) C dX12_set_12 (by decide) (fun c => ?_) (fun c => ?_)
    · replace h := ifT h c
      refine v_aload_n C dX12_set_17 rfl ?_
      obtain ⟨v, e, h⟩ := ob h
      refine v_getR C dX12_set_18 gf_X12_293 e ?_
      refine v_iload_n C dX12_set_21 rfl ?_
      refine v_iload_n C dX12_set_22 rfl ?_
      obtain ⟨m, e, h⟩ := ob h
      refine v_iastore C dX12_set_23 e ?_
      refine v_iconst (v := 1) C dX12_set_24 rfl ?_
      exact v_zret C F ⟨rfl, rfl, Nat.le_refl _⟩ dX12_set_25 h
    · replace h := ifF h c
      exact v_sb (p_X12_set_15 C F h) trivial
set_option maxRecDepth 100000 in
set_option maxHeartbeats 4000000 in
theorem c_X12_set (l : Launch) (g : CG) (N : Nat) (a0 : Option Nat) (a1 : Int32) (a2 : Int32) (μ : Mem) (rv : Int32) (μ9 : Mem) (h : f_X12_set N a0 a1 a2 μ = some (rv, μ9)) : Ct l yX12_set mi_X12_set g [aR a0, aI a1, aI a2] μ (some (aI rv)) μ9 := ct_of ⟨by decide, rfl, rfl⟩ (Nat.le_of_ble_eq_true rfl) fun x C F => p_X12_set C F h
def f_X12_store (N : Nat) (a0 : Option Nat) (a1 : Int32) (a2 : Int32) (a3 : Int32) (μ : Mem) : Option (Unit × Mem) :=
  (mfR μ a0 12 35).bind fun v1 =>
  (mfR μ a0 12 41).bind fun v2 =>
  (maI μ 0 v2 a1).bind fun v3 =>
  (maR μ 3 v1 v3).bind fun v4 =>
  (mbI μ 0 v4 (a2 &&& 4095) (a3 &&& 4095)).bind fun μ5 =>
  (mfR μ5 a0 12 39).bind fun v6 =>
  (mfR μ5 a0 12 41).bind fun v7 =>
  (maI μ5 0 v7 a1).bind fun v8 =>
  (mbZ μ5 2 v6 v8 1).bind fun μ9 =>
  some ((), μ9)
set_option maxRecDepth 100000 in
set_option maxHeartbeats 4000000 in
theorem p_X12_store {x : CX} {l : Launch} {g : CG} {rv : Unit} {μ0 μ9 : Mem} (C : Cx x l g mi_X12_store) (F : Prom x g mi_X12_store μ0 none μ9) {N : Nat} {a0 : Option Nat} {a1 : Int32} {a2 : Int32} {a3 : Int32} {μ : Mem} (h : f_X12_store N a0 a1 a2 a3 μ = some (rv, μ9)) : V x g 4 0 0 μ 0 [(0, aR a0), (1, aI a1), (2, aI a2), (3, aI a3)] [] := by
  unfold f_X12_store at h
  refine v_aload_n C dX12_store_0 rfl ?_
  obtain ⟨v, e, h⟩ := ob h
  refine v_getR C dX12_store_1 gf_X12_257 e ?_
  refine v_aload_n C dX12_store_4 rfl ?_
  obtain ⟨v, e, h⟩ := ob h
  refine v_getR C dX12_store_5 gf_X12_275 e ?_
  refine v_iload_n C dX12_store_8 rfl ?_
  obtain ⟨v, e, h⟩ := ob h
  refine v_iaload C dX12_store_9 e ?_
  obtain ⟨v, e, h⟩ := ob h
  refine v_aaload3 C dX12_store_10 e ?_
  refine v_iload_n C dX12_store_11 rfl ?_
  refine v_sipush (v := 4095) C dX12_store_12 rfl ?_
  refine v_iand C dX12_store_15 ?_
  refine v_iload_n C dX12_store_16 rfl ?_
  refine v_sipush (v := 4095) C dX12_store_17 rfl ?_
  refine v_iand C dX12_store_20 ?_
  obtain ⟨m, e, h⟩ := ob h
  refine v_iastore C dX12_store_21 e ?_
  refine v_aload_n C dX12_store_22 rfl ?_
  obtain ⟨v, e, h⟩ := ob h
  refine v_getR C dX12_store_23 gf_X12_269 e ?_
  refine v_aload_n C dX12_store_26 rfl ?_
  obtain ⟨v, e, h⟩ := ob h
  refine v_getR C dX12_store_27 gf_X12_275 e ?_
  refine v_iload_n C dX12_store_30 rfl ?_
  obtain ⟨v, e, h⟩ := ob h
  refine v_iaload C dX12_store_31 e ?_
  refine v_iconst (v := 1) C dX12_store_32 rfl ?_
  obtain ⟨m, e, h⟩ := ob h
  refine v_bastore C dX12_store_33 e ?_
  exact v_vret C F ⟨rfl, rfl, Nat.le_refl _⟩ dX12_store_34 h
set_option maxRecDepth 100000 in
set_option maxHeartbeats 4000000 in
theorem c_X12_store (l : Launch) (g : CG) (N : Nat) (a0 : Option Nat) (a1 : Int32) (a2 : Int32) (a3 : Int32) (μ : Mem) (rv : Unit) (μ9 : Mem) (h : f_X12_store N a0 a1 a2 a3 μ = some (rv, μ9)) : Ct l yX12_store mi_X12_store g [aR a0, aI a1, aI a2, aI a3] μ none μ9 := ct_of ⟨by decide, rfl, rfl⟩ (Nat.le_of_ble_eq_true rfl) fun x C F => p_X12_store C F h
def f_X12_deposit_30 (N : Nat) (μ : Mem) : Option (Int32 × Mem) :=
  retZ 0 μ
def f_X12_deposit_61 (N : Nat) (μ : Mem) : Option (Int32 × Mem) :=
  retZ 1 μ
def f_X12_deposit (N : Nat) (a0 : Option Nat) (a1 : Int32) (a2 : Int32) (a3 : Int32) (μ : Mem) : Option (Int32 × Mem) :=
  (mck μ a0 12).bind fun b2 =>
  (f_X12_rests N (some b2) a1 μ).bind fun q1 =>
  if q1.1 = 0 then
    f_X12_deposit_30 N q1.2
  else
    (mck q1.2 a0 12).bind fun b4 =>
    (f_X12_isMoved N (some b4) a1 q1.2).bind fun q3 =>
    if ¬ q3.1 = 0 then
      f_X12_deposit_30 N q3.2
    else
      (f_X12_isWord N a2 q3.2).bind fun q5 =>
      if q5.1 = 0 then
        f_X12_deposit_30 N q5.2
      else
        (f_X12_isWord N a3 q5.2).bind fun q6 =>
        if ¬ q6.1 = 0 then
          (mfR q6.2 a0 12 41).bind fun v7 =>
          (maI q6.2 0 v7 a1).bind fun v8 =>
          if ¬ v8 = (((-1)) : Int32) then
            (mck q6.2 a0 12).bind fun b10 =>
            (f_X12_store N (some b10) a1 a2 a3 q6.2).bind fun q9 =>
            f_X12_deposit_61 N q9.2
          else
            (mfR q6.2 a0 12 36).bind fun v11 =>
            (maR q6.2 3 v11 a1).bind fun v12 =>
            (mbI q6.2 0 v12 a2 a3).bind fun μ13 =>
            f_X12_deposit_61 N μ13
        else
          f_X12_deposit_30 N q6.2
set_option maxRecDepth 100000 in
set_option maxHeartbeats 4000000 in
theorem p_X12_deposit_30 {x : CX} {l : Launch} {g : CG} {rv : Int32} {μ0 μ9 : Mem} (C : Cx x l g mi_X12_deposit) (F : Prom x g mi_X12_deposit μ0 (some (aI rv)) μ9) {N : Nat} {μ : Mem} (h : f_X12_deposit_30 N μ = some (rv, μ9)) : V x g 4 0 0 μ 30 [] [] := by
  unfold f_X12_deposit_30 at h
  refine v_iconst (v := 0) C dX12_deposit_30 rfl ?_
  exact v_zret C F ⟨rfl, rfl, Nat.le_refl _⟩ dX12_deposit_31 h
set_option maxRecDepth 100000 in
set_option maxHeartbeats 4000000 in
theorem p_X12_deposit_61 {x : CX} {l : Launch} {g : CG} {rv : Int32} {μ0 μ9 : Mem} (C : Cx x l g mi_X12_deposit) (F : Prom x g mi_X12_deposit μ0 (some (aI rv)) μ9) {N : Nat} {μ : Mem} (h : f_X12_deposit_61 N μ = some (rv, μ9)) : V x g 4 0 0 μ 61 [] [] := by
  unfold f_X12_deposit_61 at h
  refine v_iconst (v := 1) C dX12_deposit_61 rfl ?_
  exact v_zret C F ⟨rfl, rfl, Nat.le_refl _⟩ dX12_deposit_62 h
set_option maxRecDepth 100000 in
set_option maxHeartbeats 4000000 in
theorem p_X12_deposit {x : CX} {l : Launch} {g : CG} {rv : Int32} {μ0 μ9 : Mem} (C : Cx x l g mi_X12_deposit) (F : Prom x g mi_X12_deposit μ0 (some (aI rv)) μ9) {N : Nat} {a0 : Option Nat} {a1 : Int32} {a2 : Int32} {a3 : Int32} {μ : Mem} (h : f_X12_deposit N a0 a1 a2 a3 μ = some (rv, μ9)) : V x g 4 0 0 μ 0 [(0, aR a0), (1, aI a1), (2, aI a2), (3, aI a3)] [] := by
  unfold f_X12_deposit at h
  refine v_aload_n C dX12_deposit_0 rfl ?_
  refine v_iload_n C dX12_deposit_1 rfl ?_
  obtain ⟨b, e0, h⟩ := ob h
  obtain ⟨q, e, h⟩ := ob h
  refine v_callV (As := [_]) C dX12_deposit_2 cf_X12_350 (rm_X12_deposit_X12_rests) ⟨rfl, rfl⟩ e0 rfl (Nat.le_of_ble_eq_true rfl) (c_X12_rests _ _ N _ _ _ q.1 q.2 e) ?_
  refine v_if_eq (tgt := 30) C dX12_deposit_5 (by decide) (fun c => ?_) (fun c => ?_)
  · replace h := ifT h c
    exact v_sb (p_X12_deposit_30 C F h) trivial
  · replace h := ifF h c
    refine v_aload_n C dX12_deposit_8 rfl ?_
    refine v_iload_n C dX12_deposit_9 rfl ?_
    obtain ⟨b, e0, h⟩ := ob h
    obtain ⟨q, e, h⟩ := ob h
    refine v_callV (As := [_]) C dX12_deposit_10 cf_X12_353 (rm_X12_deposit_X12_isMoved) ⟨rfl, rfl⟩ e0 rfl (Nat.le_of_ble_eq_true rfl) (c_X12_isMoved _ _ N _ _ _ q.1 q.2 e) ?_
    refine v_if_ne (tgt := 30) C dX12_deposit_13 (by decide) (fun c => ?_) (fun c => ?_)
    · replace h := ifT h c
      exact v_sb (p_X12_deposit_30 C F h) trivial
    · replace h := ifF h c
      refine v_iload_n C dX12_deposit_16 rfl ?_
      obtain ⟨q, e, h⟩ := ob h
      refine v_callS (As := [_]) C dX12_deposit_17 cf_X12_359 (rm_X12_deposit_X12_isWord) ⟨rfl, rfl⟩ rfl (Nat.le_of_ble_eq_true rfl) (c_X12_isWord _ _ N _ _ q.1 q.2 e) ?_
      refine v_if_eq (tgt := 30) C dX12_deposit_20 (by decide) (fun c => ?_) (fun c => ?_)
      · replace h := ifT h c
        exact v_sb (p_X12_deposit_30 C F h) trivial
      · replace h := ifF h c
        refine v_iload_n C dX12_deposit_23 rfl ?_
        obtain ⟨q, e, h⟩ := ob h
        refine v_callS (As := [_]) C dX12_deposit_24 cf_X12_359 (rm_X12_deposit_X12_isWord) ⟨rfl, rfl⟩ rfl (Nat.le_of_ble_eq_true rfl) (c_X12_isWord _ _ N _ _ q.1 q.2 e) ?_
        refine v_if_ne (tgt := 32) C dX12_deposit_27 (by decide) (fun c => ?_) (fun c => ?_)
        · replace h := ifT h c
          refine v_aload_n C dX12_deposit_32 rfl ?_
          obtain ⟨v, e, h⟩ := ob h
          refine v_getR C dX12_deposit_33 gf_X12_275 e ?_
          refine v_iload_n C dX12_deposit_36 rfl ?_
          obtain ⟨v, e, h⟩ := ob h
          refine v_iaload C dX12_deposit_37 e ?_
          refine v_iconst (v := -1) C dX12_deposit_38 rfl ?_
          refine v_icmp_ne (tgt := 54) C dX12_deposit_39 (by decide) (fun c => ?_) (fun c => ?_)
          · replace h := ifT h c
            refine v_aload_n C dX12_deposit_54 rfl ?_
            refine v_iload_n C dX12_deposit_55 rfl ?_
            refine v_iload_n C dX12_deposit_56 rfl ?_
            refine v_iload_n C dX12_deposit_57 rfl ?_
            obtain ⟨b, e0, h⟩ := ob h
            obtain ⟨q, e, h⟩ := ob h
            refine v_callV (As := [_, _, _]) C dX12_deposit_58 cf_X12_368 (rm_X12_deposit_X12_store) ⟨rfl, rfl⟩ e0 rfl (Nat.le_of_ble_eq_true rfl) (c_X12_store _ _ N _ _ _ _ _ q.1 q.2 e) ?_
            exact v_sb (p_X12_deposit_61 C F h) trivial
          · replace h := ifF h c
            refine v_aload_n C dX12_deposit_42 rfl ?_
            obtain ⟨v, e, h⟩ := ob h
            refine v_getR C dX12_deposit_43 gf_X12_260 e ?_
            refine v_iload_n C dX12_deposit_46 rfl ?_
            obtain ⟨v, e, h⟩ := ob h
            refine v_aaload3 C dX12_deposit_47 e ?_
            refine v_iload_n C dX12_deposit_48 rfl ?_
            refine v_iload_n C dX12_deposit_49 rfl ?_
            obtain ⟨m, e, h⟩ := ob h
            refine v_iastore C dX12_deposit_50 e ?_
            refine v_goto (tgt := 61) C dX12_deposit_51 (by decide) ?_
            exact v_sb (p_X12_deposit_61 C F h) trivial
        · replace h := ifF h c
          exact v_sb (p_X12_deposit_30 C F h) trivial
set_option maxRecDepth 100000 in
set_option maxHeartbeats 4000000 in
theorem c_X12_deposit (l : Launch) (g : CG) (N : Nat) (a0 : Option Nat) (a1 : Int32) (a2 : Int32) (a3 : Int32) (μ : Mem) (rv : Int32) (μ9 : Mem) (h : f_X12_deposit N a0 a1 a2 a3 μ = some (rv, μ9)) : Ct l yX12_deposit mi_X12_deposit g [aR a0, aI a1, aI a2, aI a3] μ (some (aI rv)) μ9 := ct_of ⟨by decide, rfl, rfl⟩ (Nat.le_of_ble_eq_true rfl) fun x C F => p_X12_deposit C F h
def f_X12_clocks_50 (N : Nat) (μ : Mem) : Option (Unit × Mem) :=
  some ((), μ)
def f_X12_clocks_170 (N : Nat) (μ : Mem) : Option (Unit × Mem) :=
  some ((), μ)
def H_X12_clocks_106 (N : Nat) (k106 : (Option Nat) → Int32 → Int32 → Mem → Option (Unit × Mem)) (a0 : Option Nat) (a1 : Int32) (a2 : Int32) (μ : Mem) : Option (Unit × Mem) :=
  (mfR μ a0 12 53).bind fun v1 =>
  (maI μ 0 v1 a1).bind fun v2 =>
  if v2 ≤ a2 then
    (mfR μ a0 12 56).bind fun v3 =>
    (mfI μ a0 12 66).bind fun v4 =>
    (mfI μ a0 12 34).bind fun v5 =>
    (mbI μ 0 v3 a1 (v4 + v5)).bind fun μ6 =>
    (mfR μ6 a0 12 42).bind fun v7 =>
    (maI μ6 0 v7 a1).bind fun v8 =>
    if ¬ v8 = (3 : Int32) then
      f_X12_clocks_170 N μ6
    else
      (mck μ6 a0 12).bind fun b10 =>
      (f_X12_becomesReady N (some b10) a1 μ6).bind fun q9 =>
      f_X12_clocks_170 N q9.2
  else
    (mfR μ a0 12 52).bind fun v11 =>
    (maR μ 3 v11 a1).bind fun v12 =>
    (mfR μ a0 12 52).bind fun v13 =>
    (maR μ 3 v13 a1).bind fun v14 =>
    (maI μ 0 v14 (a2 + 1)).bind fun v15 =>
    (mbI μ 0 v12 a2 v15).bind fun μ16 =>
    k106 a0 a1 (a2 + 1) μ16
def L_X12_clocks_106 (N : Nat) : Nat → (Option Nat) → Int32 → Int32 → Mem → Option (Unit × Mem)
  | 0 => fun _ _ _ _ => none
  | n + 1 => H_X12_clocks_106 N (L_X12_clocks_106 N n)
def f_X12_clocks_84 (N : Nat) (a0 : Option Nat) (a1 : Int32) (μ : Mem) : Option (Unit × Mem) :=
  (mfR μ a0 12 55).bind fun v1 =>
  (maI μ 0 v1 a1).bind fun v2 =>
  (mbI μ 0 v1 a1 (v2 + 1)).bind fun μ3 =>
  (mfR μ3 a0 12 53).bind fun v4 =>
  (maI μ3 0 v4 a1).bind fun v5 =>
  (mbI μ3 0 v4 a1 (v5 - 1)).bind fun μ6 =>
  L_X12_clocks_106 N N a0 a1 0 μ6
def f_X12_clocks_28 (N : Nat) (a0 : Option Nat) (a1 : Int32) (μ : Mem) : Option (Unit × Mem) :=
  (mfR μ a0 12 53).bind fun v1 =>
  (maI μ 0 v1 a1).bind fun v2 =>
  if v2 = 0 then
    f_X12_clocks_50 N μ
  else
    (mfI μ a0 12 66).bind fun v3 =>
    (mfR μ a0 12 56).bind fun v4 =>
    (maI μ 0 v4 a1).bind fun v5 =>
    if v5 ≤ v3 then
      (mfR μ a0 12 55).bind fun v6 =>
      (maI μ 0 v6 a1).bind fun v7 =>
      if (500 : Int32) ≤ v7 then
        f_X12_clocks_84 N a0 a1 μ
      else
        (mfR μ a0 12 54).bind fun v8 =>
        (maR μ 3 v8 a1).bind fun v9 =>
        (mfR μ a0 12 55).bind fun v10 =>
        (maI μ 0 v10 a1).bind fun v11 =>
        (mfR μ a0 12 52).bind fun v12 =>
        (maR μ 3 v12 a1).bind fun v13 =>
        (maI μ 0 v13 0).bind fun v14 =>
        (mbI μ 0 v9 v11 v14).bind fun μ15 =>
        f_X12_clocks_84 N a0 a1 μ15
    else
      f_X12_clocks_50 N μ
def f_X12_clocks (N : Nat) (a0 : Option Nat) (a1 : Int32) (μ : Mem) : Option (Unit × Mem) :=
  (mfR μ a0 12 42).bind fun v1 =>
  (maI μ 0 v1 a1).bind fun v2 =>
  if ¬ v2 = (4 : Int32) then
    f_X12_clocks_28 N a0 a1 μ
  else
    (mfI μ a0 12 66).bind fun v3 =>
    (mfR μ a0 12 57).bind fun v4 =>
    (maI μ 0 v4 a1).bind fun v5 =>
    if v3 < v5 then
      f_X12_clocks_28 N a0 a1 μ
    else
      (mck μ a0 12).bind fun b7 =>
      (f_X12_becomesReady N (some b7) a1 μ).bind fun q6 =>
      f_X12_clocks_28 N a0 a1 q6.2
set_option maxRecDepth 100000 in
set_option maxHeartbeats 4000000 in
theorem p_X12_clocks_50 {x : CX} {l : Launch} {g : CG} {rv : Unit} {μ0 μ9 : Mem} (C : Cx x l g mi_X12_clocks) (F : Prom x g mi_X12_clocks μ0 none μ9) {N : Nat} {μ : Mem} (h : f_X12_clocks_50 N μ = some (rv, μ9)) : V x g 3 0 0 μ 50 [] [] := by
  unfold f_X12_clocks_50 at h
  exact v_vret C F ⟨rfl, rfl, Nat.le_refl _⟩ dX12_clocks_50 h
set_option maxRecDepth 100000 in
set_option maxHeartbeats 4000000 in
theorem p_X12_clocks_170 {x : CX} {l : Launch} {g : CG} {rv : Unit} {μ0 μ9 : Mem} (C : Cx x l g mi_X12_clocks) (F : Prom x g mi_X12_clocks μ0 none μ9) {N : Nat} {μ : Mem} (h : f_X12_clocks_170 N μ = some (rv, μ9)) : V x g 3 0 0 μ 170 [] [] := by
  unfold f_X12_clocks_170 at h
  exact v_vret C F ⟨rfl, rfl, Nat.le_refl _⟩ dX12_clocks_170 h
set_option maxRecDepth 100000 in
set_option maxHeartbeats 4000000 in
theorem pH_X12_clocks_106 {x : CX} {l : Launch} {g : CG} {rv : Unit} {μ0 μ9 : Mem} (C : Cx x l g mi_X12_clocks) (F : Prom x g mi_X12_clocks μ0 none μ9) {N : Nat} {k106 : (Option Nat) → Int32 → Int32 → Mem → Option (Unit × Mem)} (hk106 : ∀ (a0 : Option Nat) (a1 : Int32) (a2 : Int32) (μ : Mem), k106 a0 a1 a2 μ = some (rv, μ9) → V x g 3 0 0 μ 106 [(0, aR a0), (1, aI a1), (2, aI a2)] []) {a0 : Option Nat} {a1 : Int32} {a2 : Int32} {μ : Mem} (h : H_X12_clocks_106 N k106 a0 a1 a2 μ = some (rv, μ9)) : V x g 3 0 0 μ 106 [(0, aR a0), (1, aI a1), (2, aI a2)] [] := by
  unfold H_X12_clocks_106 at h
  refine v_iload_n C dX12_clocks_106 rfl ?_
  refine v_aload_n C dX12_clocks_107 rfl ?_
  obtain ⟨v, e, h⟩ := ob h
  refine v_getR C dX12_clocks_108 gf_X12_311 e ?_
  refine v_iload_n C dX12_clocks_111 rfl ?_
  obtain ⟨v, e, h⟩ := ob h
  refine v_iaload C dX12_clocks_112 e ?_
  refine v_icmp_ge (tgt := 140) C dX12_clocks_113 (by decide) (fun c => ?_) (fun c => ?_)
  · replace h := ifT h c
    refine v_aload_n C dX12_clocks_140 rfl ?_
    obtain ⟨v, e, h⟩ := ob h
    refine v_getR C dX12_clocks_141 gf_X12_320 e ?_
    refine v_iload_n C dX12_clocks_144 rfl ?_
    refine v_aload_n C dX12_clocks_145 rfl ?_
    obtain ⟨v, e, h⟩ := ob h
    refine v_getI C dX12_clocks_146 gf_X12_378 e ?_
    refine v_aload_n C dX12_clocks_149 rfl ?_
    obtain ⟨v, e, h⟩ := ob h
    refine v_getI C dX12_clocks_150 gf_X12_252 e ?_
    refine v_iadd C dX12_clocks_153 ?_
    obtain ⟨m, e, h⟩ := ob h
    refine v_iastore C dX12_clocks_154 e ?_
    refine v_aload_n C dX12_clocks_155 rfl ?_
    obtain ⟨v, e, h⟩ := ob h
    refine v_getR C dX12_clocks_156 gf_X12_278 e ?_
    refine v_iload_n C dX12_clocks_159 rfl ?_
    obtain ⟨v, e, h⟩ := ob h
    refine v_iaload C dX12_clocks_160 e ?_
    refine v_iconst (v := 3) C dX12_clocks_161 rfl ?_
    refine v_icmp_ne (tgt := 170) C dX12_clocks_162 (by decide) (fun c => ?_) (fun c => ?_)
    · replace h := ifT h c
      exact v_sb (p_X12_clocks_170 C F h) trivial
    · replace h := ifF h c
      refine v_aload_n C dX12_clocks_165 rfl ?_
      refine v_iload_n C dX12_clocks_166 rfl ?_
      obtain ⟨b, e0, h⟩ := ob h
      obtain ⟨q, e, h⟩ := ob h
      refine v_callV (As := [_]) C dX12_clocks_167 cf_X12_362 (rm_X12_clocks_X12_becomesReady) ⟨rfl, rfl⟩ e0 rfl (Nat.le_of_ble_eq_true rfl) (c_X12_becomesReady _ _ N _ _ _ q.1 q.2 e) ?_
      exact v_sb (p_X12_clocks_170 C F h) trivial
  · replace h := ifF h c
    refine v_aload_n C dX12_clocks_116 rfl ?_
    obtain ⟨v, e, h⟩ := ob h
    refine v_getR C dX12_clocks_117 gf_X12_308 e ?_
    refine v_iload_n C dX12_clocks_120 rfl ?_
    obtain ⟨v, e, h⟩ := ob h
    refine v_aaload3 C dX12_clocks_121 e ?_
    refine v_iload_n C dX12_clocks_122 rfl ?_
    refine v_aload_n C dX12_clocks_123 rfl ?_
    obtain ⟨v, e, h⟩ := ob h
    refine v_getR C dX12_clocks_124 gf_X12_308 e ?_
    refine v_iload_n C dX12_clocks_127 rfl ?_
    obtain ⟨v, e, h⟩ := ob h
    refine v_aaload3 C dX12_clocks_128 e ?_
    refine v_iload_n C dX12_clocks_129 rfl ?_
    refine v_iconst (v := 1) C dX12_clocks_130 rfl ?_
    refine v_iadd C dX12_clocks_131 ?_
    obtain ⟨v, e, h⟩ := ob h
    refine v_iaload C dX12_clocks_132 e ?_
    obtain ⟨m, e, h⟩ := ob h
    refine v_iastore C dX12_clocks_133 e ?_
    refine v_iinc (w := 1) C dX12_clocks_134 rfl rfl (by decide) ?_
    refine v_goto (tgt := 106) C dX12_clocks_137 (by decide) ?_
    exact v_sb (hk106 _ _ _ _ h) ⟨rfl, rfl, rfl, trivial⟩
set_option maxRecDepth 100000 in
set_option maxHeartbeats 4000000 in
theorem pL_X12_clocks_106 {x : CX} {l : Launch} {g : CG} {rv : Unit} {μ0 μ9 : Mem} (C : Cx x l g mi_X12_clocks) (F : Prom x g mi_X12_clocks μ0 none μ9) (N : Nat) (n : Nat) : ∀ (a0 : Option Nat) (a1 : Int32) (a2 : Int32) (μ : Mem), L_X12_clocks_106 N n a0 a1 a2 μ = some (rv, μ9) → V x g 3 0 0 μ 106 [(0, aR a0), (1, aI a1), (2, aI a2)] [] := by
  induction n with
  | zero => intro a0 a1 a2 μ h; cases h
  | succ n ih => intro a0 a1 a2 μ h; exact pH_X12_clocks_106 C F ih h
set_option maxRecDepth 100000 in
set_option maxHeartbeats 4000000 in
theorem p_X12_clocks_84 {x : CX} {l : Launch} {g : CG} {rv : Unit} {μ0 μ9 : Mem} (C : Cx x l g mi_X12_clocks) (F : Prom x g mi_X12_clocks μ0 none μ9) {N : Nat} {a0 : Option Nat} {a1 : Int32} {μ : Mem} (h : f_X12_clocks_84 N a0 a1 μ = some (rv, μ9)) : V x g 3 0 0 μ 84 [(0, aR a0), (1, aI a1)] [] := by
  unfold f_X12_clocks_84 at h
  refine v_aload_n C dX12_clocks_84 rfl ?_
  obtain ⟨v, e, h⟩ := ob h
  refine v_getR C dX12_clocks_85 gf_X12_317 e ?_
  refine v_iload_n C dX12_clocks_88 rfl ?_
  refine v_dup2 C dX12_clocks_89 rfl rfl ?_
  obtain ⟨v, e, h⟩ := ob h
  refine v_iaload C dX12_clocks_90 e ?_
  refine v_iconst (v := 1) C dX12_clocks_91 rfl ?_
  refine v_iadd C dX12_clocks_92 ?_
  obtain ⟨m, e, h⟩ := ob h
  refine v_iastore C dX12_clocks_93 e ?_
  refine v_aload_n C dX12_clocks_94 rfl ?_
  obtain ⟨v, e, h⟩ := ob h
  refine v_getR C dX12_clocks_95 gf_X12_311 e ?_
  refine v_iload_n C dX12_clocks_98 rfl ?_
  refine v_dup2 C dX12_clocks_99 rfl rfl ?_
  obtain ⟨v, e, h⟩ := ob h
  refine v_iaload C dX12_clocks_100 e ?_
  refine v_iconst (v := 1) C dX12_clocks_101 rfl ?_
  refine v_isub C dX12_clocks_102 ?_
  obtain ⟨m, e, h⟩ := ob h
  refine v_iastore C dX12_clocks_103 e ?_
  refine v_iconst (v := 0) C dX12_clocks_104 rfl ?_
  refine v_istore_n C dX12_clocks_105 (by decide) ?_
  exact v_sb (pL_X12_clocks_106 C F N N _ _ _ _ h) ⟨rfl, rfl, rfl, trivial⟩
set_option maxRecDepth 100000 in
set_option maxHeartbeats 4000000 in
theorem p_X12_clocks_28 {x : CX} {l : Launch} {g : CG} {rv : Unit} {μ0 μ9 : Mem} (C : Cx x l g mi_X12_clocks) (F : Prom x g mi_X12_clocks μ0 none μ9) {N : Nat} {a0 : Option Nat} {a1 : Int32} {μ : Mem} (h : f_X12_clocks_28 N a0 a1 μ = some (rv, μ9)) : V x g 3 0 0 μ 28 [(0, aR a0), (1, aI a1)] [] := by
  unfold f_X12_clocks_28 at h
  refine v_aload_n C dX12_clocks_28 rfl ?_
  obtain ⟨v, e, h⟩ := ob h
  refine v_getR C dX12_clocks_29 gf_X12_311 e ?_
  refine v_iload_n C dX12_clocks_32 rfl ?_
  obtain ⟨v, e, h⟩ := ob h
  refine v_iaload C dX12_clocks_33 e ?_
  refine v_if_eq (tgt := 50) C dX12_clocks_34 (by decide) (fun c => ?_) (fun c => ?_)
  · replace h := ifT h c
    exact v_sb (p_X12_clocks_50 C F h) trivial
  · replace h := ifF h c
    refine v_aload_n C dX12_clocks_37 rfl ?_
    obtain ⟨v, e, h⟩ := ob h
    refine v_getI C dX12_clocks_38 gf_X12_378 e ?_
    refine v_aload_n C dX12_clocks_41 rfl ?_
    obtain ⟨v, e, h⟩ := ob h
    refine v_getR C dX12_clocks_42 gf_X12_320 e ?_
    refine v_iload_n C dX12_clocks_45 rfl ?_
    obtain ⟨v, e, h⟩ := ob h
    refine v_iaload C dX12_clocks_46 e ?_
    refine v_icmp_ge (tgt := 51) C dX12_clocks_47 (by decide) (fun c => ?_) (fun c => ?_)
    · replace h := ifT h c
      refine v_aload_n C dX12_clocks_51 rfl ?_
      obtain ⟨v, e, h⟩ := ob h
      refine v_getR C dX12_clocks_52 gf_X12_317 e ?_
      refine v_iload_n C dX12_clocks_55 rfl ?_
      obtain ⟨v, e, h⟩ := ob h
      refine v_iaload C dX12_clocks_56 e ?_
      refine v_sipush (v := 500) C dX12_clocks_57 rfl ?_
      refine v_icmp_ge (tgt := 84) C dX12_clocks_60 (by decide) (fun c => ?_) (fun c => ?_)
      · replace h := ifT h c
        exact v_sb (p_X12_clocks_84 C F h) ⟨rfl, rfl, trivial⟩
      · replace h := ifF h c
        refine v_aload_n C dX12_clocks_63 rfl ?_
        obtain ⟨v, e, h⟩ := ob h
        refine v_getR C dX12_clocks_64 gf_X12_314 e ?_
        refine v_iload_n C dX12_clocks_67 rfl ?_
        obtain ⟨v, e, h⟩ := ob h
        refine v_aaload3 C dX12_clocks_68 e ?_
        refine v_aload_n C dX12_clocks_69 rfl ?_
        obtain ⟨v, e, h⟩ := ob h
        refine v_getR C dX12_clocks_70 gf_X12_317 e ?_
        refine v_iload_n C dX12_clocks_73 rfl ?_
        obtain ⟨v, e, h⟩ := ob h
        refine v_iaload C dX12_clocks_74 e ?_
        refine v_aload_n C dX12_clocks_75 rfl ?_
        obtain ⟨v, e, h⟩ := ob h
        refine v_getR C dX12_clocks_76 gf_X12_308 e ?_
        refine v_iload_n C dX12_clocks_79 rfl ?_
        obtain ⟨v, e, h⟩ := ob h
        refine v_aaload3 C dX12_clocks_80 e ?_
        refine v_iconst (v := 0) C dX12_clocks_81 rfl ?_
        obtain ⟨v, e, h⟩ := ob h
        refine v_iaload C dX12_clocks_82 e ?_
        obtain ⟨m, e, h⟩ := ob h
        refine v_iastore C dX12_clocks_83 e ?_
        exact v_sb (p_X12_clocks_84 C F h) ⟨rfl, rfl, trivial⟩
    · replace h := ifF h c
      exact v_sb (p_X12_clocks_50 C F h) trivial
set_option maxRecDepth 100000 in
set_option maxHeartbeats 4000000 in
theorem p_X12_clocks {x : CX} {l : Launch} {g : CG} {rv : Unit} {μ0 μ9 : Mem} (C : Cx x l g mi_X12_clocks) (F : Prom x g mi_X12_clocks μ0 none μ9) {N : Nat} {a0 : Option Nat} {a1 : Int32} {μ : Mem} (h : f_X12_clocks N a0 a1 μ = some (rv, μ9)) : V x g 3 0 0 μ 0 [(0, aR a0), (1, aI a1)] [] := by
  unfold f_X12_clocks at h
  refine v_aload_n C dX12_clocks_0 rfl ?_
  obtain ⟨v, e, h⟩ := ob h
  refine v_getR C dX12_clocks_1 gf_X12_278 e ?_
  refine v_iload_n C dX12_clocks_4 rfl ?_
  obtain ⟨v, e, h⟩ := ob h
  refine v_iaload C dX12_clocks_5 e ?_
  refine v_iconst (v := 4) C dX12_clocks_6 rfl ?_
  refine v_icmp_ne (tgt := 28) C dX12_clocks_7 (by decide) (fun c => ?_) (fun c => ?_)
  · replace h := ifT h c
    exact v_sb (p_X12_clocks_28 C F h) ⟨rfl, rfl, trivial⟩
  · replace h := ifF h c
    refine v_aload_n C dX12_clocks_10 rfl ?_
    obtain ⟨v, e, h⟩ := ob h
    refine v_getI C dX12_clocks_11 gf_X12_378 e ?_
    refine v_aload_n C dX12_clocks_14 rfl ?_
    obtain ⟨v, e, h⟩ := ob h
    refine v_getR C dX12_clocks_15 gf_X12_323 e ?_
    refine v_iload_n C dX12_clocks_18 rfl ?_
    obtain ⟨v, e, h⟩ := ob h
    refine v_iaload C dX12_clocks_19 e ?_
    refine v_icmp_lt (tgt := 28) C dX12_clocks_20 (by decide) (fun c => ?_) (fun c => ?_)
    · replace h := ifT h c
      exact v_sb (p_X12_clocks_28 C F h) ⟨rfl, rfl, trivial⟩
    · replace h := ifF h c
      refine v_aload_n C dX12_clocks_23 rfl ?_
      refine v_iload_n C dX12_clocks_24 rfl ?_
      obtain ⟨b, e0, h⟩ := ob h
      obtain ⟨q, e, h⟩ := ob h
      refine v_callV (As := [_]) C dX12_clocks_25 cf_X12_362 (rm_X12_clocks_X12_becomesReady) ⟨rfl, rfl⟩ e0 rfl (Nat.le_of_ble_eq_true rfl) (c_X12_becomesReady _ _ N _ _ _ q.1 q.2 e) ?_
      exact v_sb (p_X12_clocks_28 C F h) ⟨rfl, rfl, trivial⟩
set_option maxRecDepth 100000 in
set_option maxHeartbeats 4000000 in
theorem c_X12_clocks (l : Launch) (g : CG) (N : Nat) (a0 : Option Nat) (a1 : Int32) (μ : Mem) (rv : Unit) (μ9 : Mem) (h : f_X12_clocks N a0 a1 μ = some (rv, μ9)) : Ct l yX12_clocks mi_X12_clocks g [aR a0, aI a1] μ none μ9 := ct_of ⟨by decide, rfl, rfl⟩ (Nat.le_of_ble_eq_true rfl) fun x C F => p_X12_clocks C F h
def f_X12_load (N : Nat) (a0 : Option Nat) (a1 : Int32) (a2 : Int32) (μ : Mem) : Option (Int32 × Mem) :=
  (mfR μ a0 12 35).bind fun v1 =>
  (mfR μ a0 12 41).bind fun v2 =>
  (maI μ 0 v2 a1).bind fun v3 =>
  (maR μ 3 v1 v3).bind fun v4 =>
  (maI μ 0 v4 (a2 &&& 4095)).bind fun v5 =>
  some (v5, μ)
set_option maxRecDepth 100000 in
set_option maxHeartbeats 4000000 in
theorem p_X12_load {x : CX} {l : Launch} {g : CG} {rv : Int32} {μ0 μ9 : Mem} (C : Cx x l g mi_X12_load) (F : Prom x g mi_X12_load μ0 (some (aI rv)) μ9) {N : Nat} {a0 : Option Nat} {a1 : Int32} {a2 : Int32} {μ : Mem} (h : f_X12_load N a0 a1 a2 μ = some (rv, μ9)) : V x g 3 0 0 μ 0 [(0, aR a0), (1, aI a1), (2, aI a2)] [] := by
  unfold f_X12_load at h
  refine v_aload_n C dX12_load_0 rfl ?_
  obtain ⟨v, e, h⟩ := ob h
  refine v_getR C dX12_load_1 gf_X12_257 e ?_
  refine v_aload_n C dX12_load_4 rfl ?_
  obtain ⟨v, e, h⟩ := ob h
  refine v_getR C dX12_load_5 gf_X12_275 e ?_
  refine v_iload_n C dX12_load_8 rfl ?_
  obtain ⟨v, e, h⟩ := ob h
  refine v_iaload C dX12_load_9 e ?_
  obtain ⟨v, e, h⟩ := ob h
  refine v_aaload3 C dX12_load_10 e ?_
  refine v_iload_n C dX12_load_11 rfl ?_
  refine v_sipush (v := 4095) C dX12_load_12 rfl ?_
  refine v_iand C dX12_load_15 ?_
  obtain ⟨v, e, h⟩ := ob h
  refine v_iaload C dX12_load_16 e ?_
  exact v_iret C F ⟨rfl, rfl, Nat.le_refl _⟩ dX12_load_17 h
set_option maxRecDepth 100000 in
set_option maxHeartbeats 4000000 in
theorem c_X12_load (l : Launch) (g : CG) (N : Nat) (a0 : Option Nat) (a1 : Int32) (a2 : Int32) (μ : Mem) (rv : Int32) (μ9 : Mem) (h : f_X12_load N a0 a1 a2 μ = some (rv, μ9)) : Ct l yX12_load mi_X12_load g [aR a0, aI a1, aI a2] μ (some (aI rv)) μ9 := ct_of ⟨by decide, rfl, rfl⟩ (Nat.le_of_ble_eq_true rfl) fun x C F => p_X12_load C F h
