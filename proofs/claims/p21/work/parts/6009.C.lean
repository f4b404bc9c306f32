/-! LAYER 1: X2.finishBlock, X1.start, X1.clear, X2.finishTask, X5.at, X2.firstWithoutSlot, X2.freeSlot, X2.slotToClear, X2.serveQueue, X2.serveBlocks, X2.lookForTask, X1.isTakingOut, X2.chooseRunning (by program) -/
def f_X2_finishBlock (N : Nat) (a0 : Option Nat) (a1 : Option Nat) (a2 : Option Nat) (μ : Mem) : Option (Unit × Mem) :=
  (mfR μ a0 2 3).bind fun v1 =>
  (mpZ μ v1 1 4 1).bind fun μ2 =>
  (mfR μ2 a0 2 3).bind fun v3 =>
  (mfI μ2 v3 1 7).bind fun v4 =>
  (mpI μ2 v3 1 7 (v4 + 1)).bind fun μ5 =>
  (mpI μ5 a1 10 10 0).bind fun μ6 =>
  (mfI μ6 a1 10 14).bind fun v7 =>
  (mpI μ6 a1 10 14 (v7 + 1)).bind fun μ8 =>
  (mfI μ8 a0 2 11).bind fun v9 =>
  (mpI μ8 a0 2 11 (v9 + 1)).bind fun μ10 =>
  (mpZ μ10 a2 8 4 1).bind fun μ11 =>
  (mck μ11 a0 2).bind fun b13 =>
  (f_X2_makeReady N (some b13) a1 μ11).bind fun q12 =>
  some ((), q12.2)
set_option maxRecDepth 100000 in
set_option maxHeartbeats 4000000 in
theorem p_X2_finishBlock {x : CX} {l : Launch} {g : CG} {rv : Unit} {μ0 μ9 : Mem} (C : Cx x l g mi_X2_finishBlock) (F : Prom x g mi_X2_finishBlock μ0 none μ9) {N : Nat} {a0 : Option Nat} {a1 : Option Nat} {a2 : Option Nat} {μ : Mem} (h : f_X2_finishBlock N a0 a1 a2 μ = some (rv, μ9)) : V x g 3 0 0 μ 0 [(0, aR a0), (1, aR a1), (2, aR a2)] [] := by
  unfold f_X2_finishBlock at h
  refine v_aload_n C dX2_finishBlock_0 rfl ?_
  obtain ⟨v, e, h⟩ := ob h
  refine v_getR C dX2_finishBlock_1 gf_X2_12 e ?_
  refine v_iconst (v := 1) C dX2_finishBlock_4 rfl ?_
  obtain ⟨m, e, h⟩ := ob h
  refine v_putZ C dX2_finishBlock_5 (pf_X2_176 _) e ?_
  refine v_aload_n C dX2_finishBlock_8 rfl ?_
  obtain ⟨v, e, h⟩ := ob h
  refine v_getR C dX2_finishBlock_9 gf_X2_12 e ?_
  refine v_dup C dX2_finishBlock_12 rfl ?_
  obtain ⟨v, e, h⟩ := ob h
  refine v_getI C dX2_finishBlock_13 gf_X2_198 e ?_
  refine v_iconst (v := 1) C dX2_finishBlock_16 rfl ?_
  refine v_iadd C dX2_finishBlock_17 ?_
  obtain ⟨m, e, h⟩ := ob h
  refine v_putI C dX2_finishBlock_18 (pf_X2_198 _) e ?_
  refine v_aload_n C dX2_finishBlock_21 rfl ?_
  refine v_iconst (v := 0) C dX2_finishBlock_22 rfl ?_
  obtain ⟨m, e, h⟩ := ob h
  refine v_putI C dX2_finishBlock_23 (pf_X2_201 _) e ?_
  refine v_aload_n C dX2_finishBlock_26 rfl ?_
  refine v_dup C dX2_finishBlock_27 rfl ?_
  obtain ⟨v, e, h⟩ := ob h
  refine v_getI C dX2_finishBlock_28 gf_X2_204 e ?_
  refine v_iconst (v := 1) C dX2_finishBlock_31 rfl ?_
  refine v_iadd C dX2_finishBlock_32 ?_
  obtain ⟨m, e, h⟩ := ob h
  refine v_putI C dX2_finishBlock_33 (pf_X2_204 _) e ?_
  refine v_aload_n C dX2_finishBlock_36 rfl ?_
  refine v_dup C dX2_finishBlock_37 rfl ?_
  obtain ⟨v, e, h⟩ := ob h
  refine v_getI C dX2_finishBlock_38 gf_X2_39 e ?_
  refine v_iconst (v := 1) C dX2_finishBlock_41 rfl ?_
  refine v_iadd C dX2_finishBlock_42 ?_
  obtain ⟨m, e, h⟩ := ob h
  refine v_putI C dX2_finishBlock_43 (pf_X2_39 _) e ?_
  refine v_aload_n C dX2_finishBlock_46 rfl ?_
  refine v_iconst (v := 1) C dX2_finishBlock_47 rfl ?_
  obtain ⟨m, e, h⟩ := ob h
  refine v_putZ C dX2_finishBlock_48 (pf_X2_205 _) e ?_
  refine v_aload_n C dX2_finishBlock_51 rfl ?_
  refine v_aload_n C dX2_finishBlock_52 rfl ?_
  obtain ⟨b, e0, h⟩ := ob h
  obtain ⟨q, e, h⟩ := ob h
  refine v_callV (As := [_]) C dX2_finishBlock_53 cf_X2_132 (rm_X2_finishBlock_X2_makeReady) ⟨rfl, rfl⟩ e0 rfl (Nat.le_of_ble_eq_true rfl) (c_X2_makeReady _ _ N _ _ _ q.1 q.2 e) ?_
  exact v_vret C F ⟨rfl, rfl, Nat.le_refl _⟩ dX2_finishBlock_56 h
set_option maxRecDepth 100000 in
set_option maxHeartbeats 4000000 in
theorem c_X2_finishBlock (l : Launch) (g : CG) (N : Nat) (a0 : Option Nat) (a1 : Option Nat) (a2 : Option Nat) (μ : Mem) (rv : Unit) (μ9 : Mem) (h : f_X2_finishBlock N a0 a1 a2 μ = some (rv, μ9)) : Ct l yX2_finishBlock mi_X2_finishBlock g [aR a0, aR a1, aR a2] μ none μ9 := ct_of ⟨by decide, rfl, rfl⟩ (Nat.le_of_ble_eq_true rfl) fun x C F => p_X2_finishBlock C F h
def f_X1_start (N : Nat) (a0 : Option Nat) (a1 : Int32) (a2 : Option Nat) (a3 : Option Nat) (μ : Mem) : Option (Unit × Mem) :=
  (mpI μ a0 1 0 a1).bind fun μ1 =>
  (mpR μ1 a0 1 1 a2).bind fun μ2 =>
  (mpR μ2 a0 1 2 a3).bind fun μ3 =>
  (mpI μ3 a0 1 3 0).bind fun μ4 =>
  some ((), μ4)
set_option maxRecDepth 100000 in
set_option maxHeartbeats 4000000 in
theorem p_X1_start {x : CX} {l : Launch} {g : CG} {rv : Unit} {μ0 μ9 : Mem} (C : Cx x l g mi_X1_start) (F : Prom x g mi_X1_start μ0 none μ9) {N : Nat} {a0 : Option Nat} {a1 : Int32} {a2 : Option Nat} {a3 : Option Nat} {μ : Mem} (h : f_X1_start N a0 a1 a2 a3 μ = some (rv, μ9)) : V x g 4 0 0 μ 0 [(0, aR a0), (1, aI a1), (2, aR a2), (3, aR a3)] [] := by
  unfold f_X1_start at h
  refine v_aload_n C dX1_start_0 rfl ?_
  refine v_iload_n C dX1_start_1 rfl ?_
  obtain ⟨m, e, h⟩ := ob h
  refine v_putI C dX1_start_2 (pf_X1_9 _) e ?_
  refine v_aload_n C dX1_start_5 rfl ?_
  refine v_aload_n C dX1_start_6 rfl ?_
  obtain ⟨m, e, h⟩ := ob h
  refine v_putR C dX1_start_7 (pf_X1_15 _) rfl e ?_
  refine v_aload_n C dX1_start_10 rfl ?_
  refine v_aload_n C dX1_start_11 rfl ?_
  obtain ⟨m, e, h⟩ := ob h
  refine v_putR C dX1_start_12 (pf_X1_19 _) rfl e ?_
  refine v_aload_n C dX1_start_15 rfl ?_
  refine v_iconst (v := 0) C dX1_start_16 rfl ?_
  obtain ⟨m, e, h⟩ := ob h
  refine v_putI C dX1_start_17 (pf_X1_23 _) e ?_
  exact v_vret C F ⟨rfl, rfl, Nat.le_refl _⟩ dX1_start_20 h
set_option maxRecDepth 100000 in
set_option maxHeartbeats 4000000 in
theorem c_X1_start (l : Launch) (g : CG) (N : Nat) (a0 : Option Nat) (a1 : Int32) (a2 : Option Nat) (a3 : Option Nat) (μ : Mem) (rv : Unit) (μ9 : Mem) (h : f_X1_start N a0 a1 a2 a3 μ = some (rv, μ9)) : Ct l yX1_start mi_X1_start g [aR a0, aI a1, aR a2, aR a3] μ none μ9 := ct_of ⟨by decide, rfl, rfl⟩ (Nat.le_of_ble_eq_true rfl) fun x C F => p_X1_start C F h
def f_X1_clear (N : Nat) (a0 : Option Nat) (μ : Mem) : Option (Unit × Mem) :=
  (mck μ a0 1).bind fun b2 =>
  (f_X1_start N (some b2) 0 none none μ).bind fun q1 =>
  some ((), q1.2)
set_option maxRecDepth 100000 in
set_option maxHeartbeats 4000000 in
theorem p_X1_clear {x : CX} {l : Launch} {g : CG} {rv : Unit} {μ0 μ9 : Mem} (C : Cx x l g mi_X1_clear) (F : Prom x g mi_X1_clear μ0 none μ9) {N : Nat} {a0 : Option Nat} {μ : Mem} (h : f_X1_clear N a0 μ = some (rv, μ9)) : V x g 1 0 0 μ 0 [(0, aR a0)] [] := by
  unfold f_X1_clear at h
  refine v_aload_n C dX1_clear_0 rfl ?_
  refine v_iconst (v := 0) C dX1_clear_1 rfl ?_
  refine v_null C dX1_clear_2 ?_
  refine v_null C dX1_clear_3 ?_
  obtain ⟨b, e0, h⟩ := ob h
  obtain ⟨q, e, h⟩ := ob h
  refine v_callV (As := [_, _, _]) C dX1_clear_4 cf_X1_39 (rm_X1_clear_X1_start) ⟨rfl, rfl⟩ e0 rfl (Nat.le_of_ble_eq_true rfl) (c_X1_start _ _ N _ _ _ _ _ q.1 q.2 e) ?_
  exact v_vret C F ⟨rfl, rfl, Nat.le_refl _⟩ dX1_clear_7 h
set_option maxRecDepth 100000 in
set_option maxHeartbeats 4000000 in
theorem c_X1_clear (l : Launch) (g : CG) (N : Nat) (a0 : Option Nat) (μ : Mem) (rv : Unit) (μ9 : Mem) (h : f_X1_clear N a0 μ = some (rv, μ9)) : Ct l yX1_clear mi_X1_clear g [aR a0] μ none μ9 := ct_of ⟨by decide, rfl, rfl⟩ (Nat.le_of_ble_eq_true rfl) fun x C F => p_X1_clear C F h
def f_X2_finishTask_8 (N : Nat) (μ : Mem) : Option (Unit × Mem) :=
  some ((), μ)
def f_X2_finishTask_86 (N : Nat) (a0 : Option Nat) (μ : Mem) : Option (Unit × Mem) :=
  (mfR μ a0 2 3).bind fun v1 =>
  (mck μ v1 1).bind fun b3 =>
  (f_X1_clear N (some b3) μ).bind fun q2 =>
  some ((), q2.2)
def f_X2_finishTask (N : Nat) (a0 : Option Nat) (a1 : Option Nat) (a2 : Option Nat) (μ : Mem) : Option (Unit × Mem) :=
  if a1 = none then
    f_X2_finishTask_8 N μ
  else
    if ¬ a2 = none then
      (mfR μ a0 2 3).bind fun v1 =>
      (mpZ μ v1 1 4 0).bind fun μ2 =>
      (mfR μ2 a0 2 3).bind fun v3 =>
      (mfI μ2 v3 1 0).bind fun v4 =>
      if ¬ v4 = (1 : Int32) then
        (mfR μ2 a0 2 3).bind fun v5 =>
        (mfI μ2 v5 1 0).bind fun v6 =>
        if ¬ v6 = (2 : Int32) then
          (mck μ2 a0 2).bind fun b8 =>
          (f_X2_finishBlock N (some b8) a1 a2 μ2).bind fun q7 =>
          f_X2_finishTask_86 N a0 q7.2
        else
          (mck μ2 a2 8).bind fun b10 =>
          (f_X8_give N (some b10) a1 μ2).bind fun q9 =>
          (mfR q9.2 a0 2 3).bind fun v11 =>
          (mfI q9.2 v11 1 5).bind fun v12 =>
          (mpI q9.2 v11 1 5 (v12 + 1)).bind fun μ13 =>
          f_X2_finishTask_86 N a0 μ13
      else
        (mck μ2 a2 8).bind fun b15 =>
        (f_X8_release N (some b15) μ2).bind fun q14 =>
        (mfR q14.2 a0 2 3).bind fun v16 =>
        (mfI q14.2 v16 1 6).bind fun v17 =>
        (mpI q14.2 v16 1 6 (v17 + 1)).bind fun μ18 =>
        f_X2_finishTask_86 N a0 μ18
    else
      f_X2_finishTask_8 N μ
set_option maxRecDepth 100000 in
set_option maxHeartbeats 4000000 in
theorem p_X2_finishTask_8 {x : CX} {l : Launch} {g : CG} {rv : Unit} {μ0 μ9 : Mem} (C : Cx x l g mi_X2_finishTask) (F : Prom x g mi_X2_finishTask μ0 none μ9) {N : Nat} {μ : Mem} (h : f_X2_finishTask_8 N μ = some (rv, μ9)) : V x g 3 0 0 μ 8 [] [] := by
  unfold f_X2_finishTask_8 at h
  exact v_vret C F ⟨rfl, rfl, Nat.le_refl _⟩ dX2_finishTask_8 h
set_option maxRecDepth 100000 in
set_option maxHeartbeats 4000000 in
theorem p_X2_finishTask_86 {x : CX} {l : Launch} {g : CG} {rv : Unit} {μ0 μ9 : Mem} (C : Cx x l g mi_X2_finishTask) (F : Prom x g mi_X2_finishTask μ0 none μ9) {N : Nat} {a0 : Option Nat} {μ : Mem} (h : f_X2_finishTask_86 N a0 μ = some (rv, μ9)) : V x g 3 0 0 μ 86 [(0, aR a0)] [] := by
  unfold f_X2_finishTask_86 at h
  refine v_aload_n C dX2_finishTask_86 rfl ?_
  obtain ⟨v, e, h⟩ := ob h
  refine v_getR C dX2_finishTask_87 gf_X2_12 e ?_
  obtain ⟨b, e0, h⟩ := ob h
  obtain ⟨q, e, h⟩ := ob h
  refine v_callV (As := []) C dX2_finishTask_90 cf_X2_195 (rm_X2_finishTask_X1_clear) ⟨rfl, rfl⟩ e0 rfl (Nat.le_of_ble_eq_true rfl) (c_X1_clear _ _ N _ _ q.1 q.2 e) ?_
  exact v_vret C F ⟨rfl, rfl, Nat.le_refl _⟩ dX2_finishTask_93 h
set_option maxRecDepth 100000 in
set_option maxHeartbeats 4000000 in
theorem p_X2_finishTask {x : CX} {l : Launch} {g : CG} {rv : Unit} {μ0 μ9 : Mem} (C : Cx x l g mi_X2_finishTask) (F : Prom x g mi_X2_finishTask μ0 none μ9) {N : Nat} {a0 : Option Nat} {a1 : Option Nat} {a2 : Option Nat} {μ : Mem} (h : f_X2_finishTask N a0 a1 a2 μ = some (rv, μ9)) : V x g 3 0 0 μ 0 [(0, aR a0), (1, aR a1), (2, aR a2)] [] := by
  unfold f_X2_finishTask at h
  refine v_aload_n C dX2_finishTask_0 rfl ?_
  refine v_ifnull (tgt := 8) C dX2_finishTask_1 (by decide) (fun c => ?_) (fun c => ?_)
  · replace h := ifT h c
    exact v_sb (p_X2_finishTask_8 C F h) trivial
  · replace h := ifF h c
    refine v_aload_n C dX2_finishTask_4 rfl ?_
    refine v_ifnonnull (tgt := 9) C dX2_finishTask_5 (by decide) (fun c => ?_) (fun c => ?_)
    · replace h := ifT h c
      refine v_aload_n C dX2_finishTask_9 rfl ?_
      obtain ⟨v, e, h⟩ := ob h
      refine v_getR C dX2_finishTask_10 gf_X2_12 e ?_
      refine v_iconst (v := 0) C dX2_finishTask_13 rfl ?_
      obtain ⟨m, e, h⟩ := ob h
      refine v_putZ C dX2_finishTask_14 (pf_X2_176 _) e ?_
      refine v_aload_n C dX2_finishTask_17 rfl ?_
      obtain ⟨v, e, h⟩ := ob h
      refine v_getR C dX2_finishTask_18 gf_X2_12 e ?_
      obtain ⟨v, e, h⟩ := ob h
      refine v_getI C dX2_finishTask_21 gf_X2_180 e ?_
      refine v_iconst (v := 1) C dX2_finishTask_24 rfl ?_
      refine v_icmp_ne (tgt := 48) C dX2_finishTask_25 (by decide) (fun c => ?_) (fun c => ?_)
      · replace h := ifT h c
        refine v_aload_n C dX2_finishTask_48 rfl ?_
        obtain ⟨v, e, h⟩ := ob h
        refine v_getR C dX2_finishTask_49 gf_X2_12 e ?_
        obtain ⟨v, e, h⟩ := ob h
        refine v_getI C dX2_finishTask_52 gf_X2_180 e ?_
        refine v_iconst (v := 2) C dX2_finishTask_55 rfl ?_
        refine v_icmp_ne (tgt := 80) C dX2_finishTask_56 (by decide) (fun c => ?_) (fun c => ?_)
        · replace h := ifT h c
          refine v_aload_n C dX2_finishTask_80 rfl ?_
          refine v_aload_n C dX2_finishTask_81 rfl ?_
          refine v_aload_n C dX2_finishTask_82 rfl ?_
          obtain ⟨b, e0, h⟩ := ob h
          obtain ⟨q, e, h⟩ := ob h
          refine v_callV (As := [_, _]) C dX2_finishTask_83 cf_X2_192 (rm_X2_finishTask_X2_finishBlock) ⟨rfl, rfl⟩ e0 rfl (Nat.le_of_ble_eq_true rfl) (c_X2_finishBlock _ _ N _ _ _ _ q.1 q.2 e) ?_
          exact v_sb (p_X2_finishTask_86 C F h) ⟨rfl, trivial⟩
        · replace h := ifF h c
          refine v_aload_n C dX2_finishTask_59 rfl ?_
          refine v_aload_n C dX2_finishTask_60 rfl ?_
          obtain ⟨b, e0, h⟩ := ob h
          obtain ⟨q, e, h⟩ := ob h
          refine v_callV (As := [_]) C dX2_finishTask_61 cf_X2_186 (rm_X2_finishTask_X8_give) ⟨rfl, rfl⟩ e0 rfl (Nat.le_of_ble_eq_true rfl) (c_X8_give _ _ N _ _ _ q.1 q.2 e) ?_
          refine v_aload_n C dX2_finishTask_64 rfl ?_
          obtain ⟨v, e, h⟩ := ob h
          refine v_getR C dX2_finishTask_65 gf_X2_12 e ?_
          refine v_dup C dX2_finishTask_68 rfl ?_
          obtain ⟨v, e, h⟩ := ob h
          refine v_getI C dX2_finishTask_69 gf_X2_189 e ?_
          refine v_iconst (v := 1) C dX2_finishTask_72 rfl ?_
          refine v_iadd C dX2_finishTask_73 ?_
          obtain ⟨m, e, h⟩ := ob h
          refine v_putI C dX2_finishTask_74 (pf_X2_189 _) e ?_
          refine v_goto (tgt := 86) C dX2_finishTask_77 (by decide) ?_
          exact v_sb (p_X2_finishTask_86 C F h) ⟨rfl, trivial⟩
      · replace h := ifF h c
        refine v_aload_n C dX2_finishTask_28 rfl ?_
        obtain ⟨b, e0, h⟩ := ob h
        obtain ⟨q, e, h⟩ := ob h
        refine v_callV (As := []) C dX2_finishTask_29 cf_X2_92 (rm_X2_finishTask_X8_release) ⟨rfl, rfl⟩ e0 rfl (Nat.le_of_ble_eq_true rfl) (c_X8_release _ _ N _ _ q.1 q.2 e) ?_
        refine v_aload_n C dX2_finishTask_32 rfl ?_
        obtain ⟨v, e, h⟩ := ob h
        refine v_getR C dX2_finishTask_33 gf_X2_12 e ?_
        refine v_dup C dX2_finishTask_36 rfl ?_
        obtain ⟨v, e, h⟩ := ob h
        refine v_getI C dX2_finishTask_37 gf_X2_183 e ?_
        refine v_iconst (v := 1) C dX2_finishTask_40 rfl ?_
        refine v_iadd C dX2_finishTask_41 ?_
        obtain ⟨m, e, h⟩ := ob h
        refine v_putI C dX2_finishTask_42 (pf_X2_183 _) e ?_
        refine v_goto (tgt := 86) C dX2_finishTask_45 (by decide) ?_
        exact v_sb (p_X2_finishTask_86 C F h) ⟨rfl, trivial⟩
    · replace h := ifF h c
      exact v_sb (p_X2_finishTask_8 C F h) trivial
set_option maxRecDepth 100000 in
set_option maxHeartbeats 4000000 in
theorem c_X2_finishTask (l : Launch) (g : CG) (N : Nat) (a0 : Option Nat) (a1 : Option Nat) (a2 : Option Nat) (μ : Mem) (rv : Unit) (μ9 : Mem) (h : f_X2_finishTask N a0 a1 a2 μ = some (rv, μ9)) : Ct l yX2_finishTask mi_X2_finishTask g [aR a0, aR a1, aR a2] μ none μ9 := ct_of ⟨by decide, rfl, rfl⟩ (Nat.le_of_ble_eq_true rfl) fun x C F => p_X2_finishTask C F h
def f_X5_at_22 (N : Nat) (s0 : Option Nat) (μ : Mem) : Option (Option Nat × Mem) :=
  some (s0, μ)
def f_X5_at_12 (N : Nat) (μ : Mem) : Option (Option Nat × Mem) :=
  f_X5_at_22 N none μ
def f_X5_at (N : Nat) (a0 : Option Nat) (a1 : Int32) (μ : Mem) : Option (Option Nat × Mem) :=
  if a1 < 0 then
    f_X5_at_12 N μ
  else
    (mfI μ a0 5 1).bind fun v1 =>
    if a1 < v1 then
      (mfR μ a0 5 0).bind fun v2 =>
      (maR μ 4 v2 a1).bind fun v3 =>
      f_X5_at_22 N v3 μ
    else
      f_X5_at_12 N μ
set_option maxRecDepth 100000 in
set_option maxHeartbeats 4000000 in
theorem p_X5_at_22 {x : CX} {l : Launch} {g : CG} {rv : Option Nat} {μ0 μ9 : Mem} (C : Cx x l g mi_X5_at) (F : Prom x g mi_X5_at μ0 (some (aR rv)) μ9) {N : Nat} {s0 : Option Nat} {μ : Mem} (h : f_X5_at_22 N s0 μ = some (rv, μ9)) : V x g 2 0 0 μ 22 [] [aR s0] := by
  unfold f_X5_at_22 at h
  exact v_aret C F ⟨rfl, rfl, Nat.le_refl _⟩ dX5_at_22 h
set_option maxRecDepth 100000 in
set_option maxHeartbeats 4000000 in
theorem p_X5_at_12 {x : CX} {l : Launch} {g : CG} {rv : Option Nat} {μ0 μ9 : Mem} (C : Cx x l g mi_X5_at) (F : Prom x g mi_X5_at μ0 (some (aR rv)) μ9) {N : Nat} {μ : Mem} (h : f_X5_at_12 N μ = some (rv, μ9)) : V x g 2 0 0 μ 12 [] [] := by
  unfold f_X5_at_12 at h
  refine v_null C dX5_at_12 ?_
  refine v_goto (tgt := 22) C dX5_at_13 (by decide) ?_
  exact v_sb (p_X5_at_22 C F h) trivial
set_option maxRecDepth 100000 in
set_option maxHeartbeats 4000000 in
theorem p_X5_at {x : CX} {l : Launch} {g : CG} {rv : Option Nat} {μ0 μ9 : Mem} (C : Cx x l g mi_X5_at) (F : Prom x g mi_X5_at μ0 (some (aR rv)) μ9) {N : Nat} {a0 : Option Nat} {a1 : Int32} {μ : Mem} (h : f_X5_at N a0 a1 μ = some (rv, μ9)) : V x g 2 0 0 μ 0 [(0, aR a0), (1, aI a1)] [] := by
  unfold f_X5_at at h
  refine v_iload_n C dX5_at_0 rfl ?_
  refine v_if_lt (tgt := 12) C dX5_at_1 (by decide) (fun c => ?_) (fun c => ?_)
  · replace h := ifT h c
    exact v_sb (p_X5_at_12 C F h) trivial
  · replace h := ifF h c
    refine v_iload_n C dX5_at_4 rfl ?_
    refine v_aload_n C dX5_at_5 rfl ?_
    obtain ⟨v, e, h⟩ := ob h
    refine v_getI C dX5_at_6 gf_X5_9 e ?_
    refine v_icmp_lt (tgt := 16) C dX5_at_9 (by decide) (fun c => ?_) (fun c => ?_)
    · replace h := ifT h c
      refine v_aload_n C dX5_at_16 rfl ?_
      obtain ⟨v, e, h⟩ := ob h
      refine v_getR C dX5_at_17 gf_X5_23 e ?_
      refine v_iload_n C dX5_at_20 rfl ?_
      obtain ⟨v, e, h⟩ := ob h
      refine v_aaload4 C dX5_at_21 e ?_
      exact v_sb (p_X5_at_22 C F h) trivial
    · replace h := ifF h c
      exact v_sb (p_X5_at_12 C F h) trivial
set_option maxRecDepth 100000 in
set_option maxHeartbeats 4000000 in
theorem c_X5_at (l : Launch) (g : CG) (N : Nat) (a0 : Option Nat) (a1 : Int32) (μ : Mem) (rv : Option Nat) (μ9 : Mem) (h : f_X5_at N a0 a1 μ = some (rv, μ9)) : Ct l yX5_at mi_X5_at g [aR a0, aI a1] μ (some (aR rv)) μ9 := ct_of ⟨by decide, rfl, rfl⟩ (Nat.le_of_ble_eq_true rfl) fun x C F => p_X5_at C F h
def f_X2_firstWithoutSlot_35 (N : Nat) (k2 : (Option Nat) → Int32 → Mem → Option (Option Nat × Mem)) (a0 : Option Nat) (a1 : Int32) (μ : Mem) : Option (Option Nat × Mem) :=
  k2 a0 (a1 + 1) μ
def H_X2_firstWithoutSlot_2 (N : Nat) (k2 : (Option Nat) → Int32 → Mem → Option (Option Nat × Mem)) (a0 : Option Nat) (a1 : Int32) (μ : Mem) : Option (Option Nat × Mem) :=
  (mfR μ a0 2 2).bind fun v1 =>
  (mfI μ v1 5 1).bind fun v2 =>
  if v2 ≤ a1 then
    some (none, μ)
  else
    (mfR μ a0 2 2).bind fun v3 =>
    (mck μ v3 5).bind fun b5 =>
    (f_X5_at N (some b5) a1 μ).bind fun q4 =>
    if q4.1 = none then
      f_X2_firstWithoutSlot_35 N k2 a0 a1 q4.2
    else
      (mfR q4.2 q4.1 10 19).bind fun v6 =>
      if ¬ v6 = none then
        f_X2_firstWithoutSlot_35 N k2 a0 a1 q4.2
      else
        some (q4.1, q4.2)
def L_X2_firstWithoutSlot_2 (N : Nat) : Nat → (Option Nat) → Int32 → Mem → Option (Option Nat × Mem)
  | 0 => fun _ _ _ => none
  | n + 1 => H_X2_firstWithoutSlot_2 N (L_X2_firstWithoutSlot_2 N n)
def f_X2_firstWithoutSlot (N : Nat) (a0 : Option Nat) (μ : Mem) : Option (Option Nat × Mem) :=
  L_X2_firstWithoutSlot_2 N N a0 0 μ
set_option maxRecDepth 100000 in
set_option maxHeartbeats 4000000 in
theorem p_X2_firstWithoutSlot_35 {x : CX} {l : Launch} {g : CG} {rv : Option Nat} {μ0 μ9 : Mem} (C : Cx x l g mi_X2_firstWithoutSlot) (F : Prom x g mi_X2_firstWithoutSlot μ0 (some (aR rv)) μ9) {N : Nat} {k2 : (Option Nat) → Int32 → Mem → Option (Option Nat × Mem)} (hk2 : ∀ (a0 : Option Nat) (a1 : Int32) (μ : Mem), k2 a0 a1 μ = some (rv, μ9) → V x g 3 0 0 μ 2 [(0, aR a0), (1, aI a1)] []) {a0 : Option Nat} {a1 : Int32} {μ : Mem} (h : f_X2_firstWithoutSlot_35 N k2 a0 a1 μ = some (rv, μ9)) : V x g 3 0 0 μ 35 [(0, aR a0), (1, aI a1)] [] := by
  unfold f_X2_firstWithoutSlot_35 at h
  refine v_iinc (w := 1) C dX2_firstWithoutSlot_35 rfl rfl (by decide) ?_
  refine v_goto (tgt := 2) C dX2_firstWithoutSlot_38 (by decide) ?_
  exact v_sb (hk2 _ _ _ h) ⟨rfl, rfl, trivial⟩
set_option maxRecDepth 100000 in
set_option maxHeartbeats 4000000 in
theorem pH_X2_firstWithoutSlot_2 {x : CX} {l : Launch} {g : CG} {rv : Option Nat} {μ0 μ9 : Mem} (C : Cx x l g mi_X2_firstWithoutSlot) (F : Prom x g mi_X2_firstWithoutSlot μ0 (some (aR rv)) μ9) {N : Nat} {k2 : (Option Nat) → Int32 → Mem → Option (Option Nat × Mem)} (hk2 : ∀ (a0 : Option Nat) (a1 : Int32) (μ : Mem), k2 a0 a1 μ = some (rv, μ9) → V x g 3 0 0 μ 2 [(0, aR a0), (1, aI a1)] []) {a0 : Option Nat} {a1 : Int32} {μ : Mem} (h : H_X2_firstWithoutSlot_2 N k2 a0 a1 μ = some (rv, μ9)) : V x g 3 0 0 μ 2 [(0, aR a0), (1, aI a1)] [] := by
  unfold H_X2_firstWithoutSlot_2 at h
  refine v_iload_n C dX2_firstWithoutSlot_2 rfl ?_
  refine v_aload_n C dX2_firstWithoutSlot_3 rfl ?_
  obtain ⟨v, e, h⟩ := ob h
  refine v_getR C dX2_firstWithoutSlot_4 gf_X2_67 e ?_
  obtain ⟨v, e, h⟩ := ob h
  refine v_getI C dX2_firstWithoutSlot_7 gf_X2_241 e ?_
  refine v_icmp_ge (tgt := 41) C dX2_firstWithoutSlot_10 (by decide) (fun c => ?_) (fun c => ?_)
  · replace h := ifT h c
    refine v_null C dX2_firstWithoutSlot_41 ?_
    exact v_aret C F ⟨rfl, rfl, Nat.le_refl _⟩ dX2_firstWithoutSlot_42 h
  · replace h := ifF h c
    refine v_aload_n C dX2_firstWithoutSlot_13 rfl ?_
    obtain ⟨v, e, h⟩ := ob h
    refine v_getR C dX2_firstWithoutSlot_14 gf_X2_67 e ?_
    refine v_iload_n C dX2_firstWithoutSlot_17 rfl ?_
    obtain ⟨b, e0, h⟩ := ob h
    obtain ⟨q, e, h⟩ := ob h
    refine v_callV (As := [_]) C dX2_firstWithoutSlot_18 cf_X2_242 (rm_X2_firstWithoutSlot_X5_at) ⟨rfl, rfl⟩ e0 rfl (Nat.le_of_ble_eq_true rfl) (c_X5_at _ _ N _ _ _ q.1 q.2 e) ?_
    refine v_astore_n C dX2_firstWithoutSlot_21 (by decide) ?_
    refine v_aload_n C dX2_firstWithoutSlot_22 rfl ?_
    refine v_ifnull (tgt := 35) C dX2_firstWithoutSlot_23 (by decide) (fun c => ?_) (fun c => ?_)
    · replace h := ifT h c
      exact v_sb (p_X2_firstWithoutSlot_35 C F hk2 h) ⟨rfl, rfl, trivial⟩
    · replace h := ifF h c
      refine v_aload_n C dX2_firstWithoutSlot_26 rfl ?_
      obtain ⟨v, e, h⟩ := ob h
      refine v_getR C dX2_firstWithoutSlot_27 gf_X2_88 e ?_
      refine v_ifnonnull (tgt := 35) C dX2_firstWithoutSlot_30 (by decide) (fun c => ?_) (fun c => ?_)
      · replace h := ifT h c
        exact v_sb (p_X2_firstWithoutSlot_35 C F hk2 h) ⟨rfl, rfl, trivial⟩
      · replace h := ifF h c
        refine v_aload_n C dX2_firstWithoutSlot_33 rfl ?_
        exact v_aret C F ⟨rfl, rfl, Nat.le_refl _⟩ dX2_firstWithoutSlot_34 h
set_option maxRecDepth 100000 in
set_option maxHeartbeats 4000000 in
theorem pL_X2_firstWithoutSlot_2 {x : CX} {l : Launch} {g : CG} {rv : Option Nat} {μ0 μ9 : Mem} (C : Cx x l g mi_X2_firstWithoutSlot) (F : Prom x g mi_X2_firstWithoutSlot μ0 (some (aR rv)) μ9) (N : Nat) (n : Nat) : ∀ (a0 : Option Nat) (a1 : Int32) (μ : Mem), L_X2_firstWithoutSlot_2 N n a0 a1 μ = some (rv, μ9) → V x g 3 0 0 μ 2 [(0, aR a0), (1, aI a1)] [] := by
  induction n with
  | zero => intro a0 a1 μ h; cases h
  | succ n ih => intro a0 a1 μ h; exact pH_X2_firstWithoutSlot_2 C F ih h
set_option maxRecDepth 100000 in
set_option maxHeartbeats 4000000 in
theorem p_X2_firstWithoutSlot {x : CX} {l : Launch} {g : CG} {rv : Option Nat} {μ0 μ9 : Mem} (C : Cx x l g mi_X2_firstWithoutSlot) (F : Prom x g mi_X2_firstWithoutSlot μ0 (some (aR rv)) μ9) {N : Nat} {a0 : Option Nat} {μ : Mem} (h : f_X2_firstWithoutSlot N a0 μ = some (rv, μ9)) : V x g 3 0 0 μ 0 [(0, aR a0)] [] := by
  unfold f_X2_firstWithoutSlot at h
  refine v_iconst (v := 0) C dX2_firstWithoutSlot_0 rfl ?_
  refine v_istore_n C dX2_firstWithoutSlot_1 (by decide) ?_
  exact v_sb (pL_X2_firstWithoutSlot_2 C F N N _ _ _ h) ⟨rfl, rfl, trivial⟩
set_option maxRecDepth 100000 in
set_option maxHeartbeats 4000000 in
theorem c_X2_firstWithoutSlot (l : Launch) (g : CG) (N : Nat) (a0 : Option Nat) (μ : Mem) (rv : Option Nat) (μ9 : Mem) (h : f_X2_firstWithoutSlot N a0 μ = some (rv, μ9)) : Ct l yX2_firstWithoutSlot mi_X2_firstWithoutSlot g [aR a0] μ (some (aR rv)) μ9 := ct_of ⟨by decide, rfl, rfl⟩ (Nat.le_of_ble_eq_true rfl) fun x C F => p_X2_firstWithoutSlot C F h
def H_X2_freeSlot_2 (N : Nat) (k2 : (Option Nat) → Int32 → Mem → Option (Option Nat × Mem)) (a0 : Option Nat) (a1 : Int32) (μ : Mem) : Option (Option Nat × Mem) :=
  (mfR μ a0 2 1).bind fun v1 =>
  (mal μ v1).bind fun v2 =>
  if v2 ≤ a1 then
    some (none, μ)
  else
    (mfR μ a0 2 1).bind fun v3 =>
    (maR μ 5 v3 a1).bind fun v4 =>
    (mfR μ v4 8 2).bind fun v5 =>
    if ¬ v5 = none then
      k2 a0 (a1 + 1) μ
    else
      (mfR μ a0 2 1).bind fun v6 =>
      (maR μ 5 v6 a1).bind fun v7 =>
      some (v7, μ)
def L_X2_freeSlot_2 (N : Nat) : Nat → (Option Nat) → Int32 → Mem → Option (Option Nat × Mem)
  | 0 => fun _ _ _ => none
  | n + 1 => H_X2_freeSlot_2 N (L_X2_freeSlot_2 N n)
def f_X2_freeSlot (N : Nat) (a0 : Option Nat) (μ : Mem) : Option (Option Nat × Mem) :=
  L_X2_freeSlot_2 N N a0 0 μ
set_option maxRecDepth 100000 in
set_option maxHeartbeats 4000000 in
theorem pH_X2_freeSlot_2 {x : CX} {l : Launch} {g : CG} {rv : Option Nat} {μ0 μ9 : Mem} (C : Cx x l g mi_X2_freeSlot) (F : Prom x g mi_X2_freeSlot μ0 (some (aR rv)) μ9) {N : Nat} {k2 : (Option Nat) → Int32 → Mem → Option (Option Nat × Mem)} (hk2 : ∀ (a0 : Option Nat) (a1 : Int32) (μ : Mem), k2 a0 a1 μ = some (rv, μ9) → V x g 2 0 0 μ 2 [(0, aR a0), (1, aI a1)] []) {a0 : Option Nat} {a1 : Int32} {μ : Mem} (h : H_X2_freeSlot_2 N k2 a0 a1 μ = some (rv, μ9)) : V x g 2 0 0 μ 2 [(0, aR a0), (1, aI a1)] [] := by
  unfold H_X2_freeSlot_2 at h
  refine v_iload_n C dX2_freeSlot_2 rfl ?_
  refine v_aload_n C dX2_freeSlot_3 rfl ?_
  obtain ⟨v, e, h⟩ := ob h
  refine v_getR C dX2_freeSlot_4 gf_X2_59 e ?_
  obtain ⟨v, e, h⟩ := ob h
  refine v_alen C dX2_freeSlot_7 e ?_
  refine v_icmp_ge (tgt := 36) C dX2_freeSlot_8 (by decide) (fun c => ?_) (fun c => ?_)
  · replace h := ifT h c
    refine v_null C dX2_freeSlot_36 ?_
    exact v_aret C F ⟨rfl, rfl, Nat.le_refl _⟩ dX2_freeSlot_37 h
  · replace h := ifF h c
    refine v_aload_n C dX2_freeSlot_11 rfl ?_
    obtain ⟨v, e, h⟩ := ob h
    refine v_getR C dX2_freeSlot_12 gf_X2_59 e ?_
    refine v_iload_n C dX2_freeSlot_15 rfl ?_
    obtain ⟨v, e, h⟩ := ob h
    refine v_aaload5 C dX2_freeSlot_16 e ?_
    obtain ⟨v, e, h⟩ := ob h
    refine v_getR C dX2_freeSlot_17 gf_X2_238 e ?_
    refine v_ifnonnull (tgt := 30) C dX2_freeSlot_20 (by decide) (fun c => ?_) (fun c => ?_)
    · replace h := ifT h c
      refine v_iinc (w := 1) C dX2_freeSlot_30 rfl rfl (by decide) ?_
      refine v_goto (tgt := 2) C dX2_freeSlot_33 (by decide) ?_
      exact v_sb (hk2 _ _ _ h) ⟨rfl, rfl, trivial⟩
    · replace h := ifF h c
      refine v_aload_n C dX2_freeSlot_23 rfl ?_
      obtain ⟨v, e, h⟩ := ob h
      refine v_getR C dX2_freeSlot_24 gf_X2_59 e ?_
      refine v_iload_n C dX2_freeSlot_27 rfl ?_
      obtain ⟨v, e, h⟩ := ob h
      refine v_aaload5 C dX2_freeSlot_28 e ?_
      exact v_aret C F ⟨rfl, rfl, Nat.le_refl _⟩ dX2_freeSlot_29 h
set_option maxRecDepth 100000 in
set_option maxHeartbeats 4000000 in
theorem pL_X2_freeSlot_2 {x : CX} {l : Launch} {g : CG} {rv : Option Nat} {μ0 μ9 : Mem} (C : Cx x l g mi_X2_freeSlot) (F : Prom x g mi_X2_freeSlot μ0 (some (aR rv)) μ9) (N : Nat) (n : Nat) : ∀ (a0 : Option Nat) (a1 : Int32) (μ : Mem), L_X2_freeSlot_2 N n a0 a1 μ = some (rv, μ9) → V x g 2 0 0 μ 2 [(0, aR a0), (1, aI a1)] [] := by
  induction n with
  | zero => intro a0 a1 μ h; cases h
  | succ n ih => intro a0 a1 μ h; exact pH_X2_freeSlot_2 C F ih h
set_option maxRecDepth 100000 in
set_option maxHeartbeats 4000000 in
theorem p_X2_freeSlot {x : CX} {l : Launch} {g : CG} {rv : Option Nat} {μ0 μ9 : Mem} (C : Cx x l g mi_X2_freeSlot) (F : Prom x g mi_X2_freeSlot μ0 (some (aR rv)) μ9) {N : Nat} {a0 : Option Nat} {μ : Mem} (h : f_X2_freeSlot N a0 μ = some (rv, μ9)) : V x g 2 0 0 μ 0 [(0, aR a0)] [] := by
  unfold f_X2_freeSlot at h
  refine v_iconst (v := 0) C dX2_freeSlot_0 rfl ?_
  refine v_istore_n C dX2_freeSlot_1 (by decide) ?_
  exact v_sb (pL_X2_freeSlot_2 C F N N _ _ _ h) ⟨rfl, rfl, trivial⟩
set_option maxRecDepth 100000 in
set_option maxHeartbeats 4000000 in
theorem c_X2_freeSlot (l : Launch) (g : CG) (N : Nat) (a0 : Option Nat) (μ : Mem) (rv : Option Nat) (μ9 : Mem) (h : f_X2_freeSlot N a0 μ = some (rv, μ9)) : Ct l yX2_freeSlot mi_X2_freeSlot g [aR a0] μ (some (aR rv)) μ9 := ct_of ⟨by decide, rfl, rfl⟩ (Nat.le_of_ble_eq_true rfl) fun x C F => p_X2_freeSlot C F h
def f_X2_slotToClear_84 (N : Nat) (k4 : (Option Nat) → (Option Nat) → Int32 → Mem → Option (Option Nat × Mem)) (a0 : Option Nat) (a1 : Option Nat) (a2 : Int32) (μ : Mem) : Option (Option Nat × Mem) :=
  k4 a0 a1 (a2 + 1) μ
def H_X2_slotToClear_4 (N : Nat) (k4 : (Option Nat) → (Option Nat) → Int32 → Mem → Option (Option Nat × Mem)) (a0 : Option Nat) (a1 : Option Nat) (a2 : Int32) (μ : Mem) : Option (Option Nat × Mem) :=
  (mfR μ a0 2 1).bind fun v1 =>
  (mal μ v1).bind fun v2 =>
  if v2 ≤ a2 then
    some (a1, μ)
  else
    (mfR μ a0 2 1).bind fun v3 =>
    (maR μ 5 v3 a2).bind fun v4 =>
    (mfR μ v4 8 2).bind fun v5 =>
    if v5 = none then
      f_X2_slotToClear_84 N k4 a0 a1 a2 μ
    else
      (mfI μ v5 10 8).bind fun v6 =>
      if ¬ v6 = (5 : Int32) then
        (mfI μ v5 10 8).bind fun v7 =>
        if v7 = (1 : Int32) then
          if ¬ a1 = none then
            f_X2_slotToClear_84 N k4 a0 a1 a2 μ
          else
            (mfR μ a0 2 1).bind fun v8 =>
            (maR μ 5 v8 a2).bind fun v9 =>
            (mfI μ v9 8 4).bind fun v10 =>
            if v10 = 0 then
              f_X2_slotToClear_84 N k4 a0 a1 a2 μ
            else
              (mfR μ a0 2 8).bind fun v11 =>
              if v5 = v11 then
                f_X2_slotToClear_84 N k4 a0 a1 a2 μ
              else
                (mfR μ a0 2 1).bind fun v12 =>
                (maR μ 5 v12 a2).bind fun v13 =>
                f_X2_slotToClear_84 N k4 a0 v13 a2 μ
        else
          (mfR μ a0 2 1).bind fun v14 =>
          (maR μ 5 v14 a2).bind fun v15 =>
          some (v15, μ)
      else
        f_X2_slotToClear_84 N k4 a0 a1 a2 μ
def L_X2_slotToClear_4 (N : Nat) : Nat → (Option Nat) → (Option Nat) → Int32 → Mem → Option (Option Nat × Mem)
  | 0 => fun _ _ _ _ => none
  | n + 1 => H_X2_slotToClear_4 N (L_X2_slotToClear_4 N n)
def f_X2_slotToClear (N : Nat) (a0 : Option Nat) (μ : Mem) : Option (Option Nat × Mem) :=
  L_X2_slotToClear_4 N N a0 none 0 μ
set_option maxRecDepth 100000 in
set_option maxHeartbeats 4000000 in
theorem p_X2_slotToClear_84 {x : CX} {l : Launch} {g : CG} {rv : Option Nat} {μ0 μ9 : Mem} (C : Cx x l g mi_X2_slotToClear) (F : Prom x g mi_X2_slotToClear μ0 (some (aR rv)) μ9) {N : Nat} {k4 : (Option Nat) → (Option Nat) → Int32 → Mem → Option (Option Nat × Mem)} (hk4 : ∀ (a0 : Option Nat) (a1 : Option Nat) (a2 : Int32) (μ : Mem), k4 a0 a1 a2 μ = some (rv, μ9) → V x g 4 0 0 μ 4 [(0, aR a0), (1, aR a1), (2, aI a2)] []) {a0 : Option Nat} {a1 : Option Nat} {a2 : Int32} {μ : Mem} (h : f_X2_slotToClear_84 N k4 a0 a1 a2 μ = some (rv, μ9)) : V x g 4 0 0 μ 84 [(0, aR a0), (1, aR a1), (2, aI a2)] [] := by
  unfold f_X2_slotToClear_84 at h
  refine v_iinc (w := 1) C dX2_slotToClear_84 rfl rfl (by decide) ?_
  refine v_goto (tgt := 4) C dX2_slotToClear_87 (by decide) ?_
  exact v_sb (hk4 _ _ _ _ h) ⟨rfl, rfl, rfl, trivial⟩
set_option maxRecDepth 100000 in
set_option maxHeartbeats 4000000 in
theorem pH_X2_slotToClear_4 {x : CX} {l : Launch} {g : CG} {rv : Option Nat} {μ0 μ9 : Mem} (C : Cx x l g mi_X2_slotToClear) (F : Prom x g mi_X2_slotToClear μ0 (some (aR rv)) μ9) {N : Nat} {k4 : (Option Nat) → (Option Nat) → Int32 → Mem → Option (Option Nat × Mem)} (hk4 : ∀ (a0 : Option Nat) (a1 : Option Nat) (a2 : Int32) (μ : Mem), k4 a0 a1 a2 μ = some (rv, μ9) → V x g 4 0 0 μ 4 [(0, aR a0), (1, aR a1), (2, aI a2)] []) {a0 : Option Nat} {a1 : Option Nat} {a2 : Int32} {μ : Mem} (h : H_X2_slotToClear_4 N k4 a0 a1 a2 μ = some (rv, μ9)) : V x g 4 0 0 μ 4 [(0, aR a0), (1, aR a1), (2, aI a2)] [] := by
  unfold H_X2_slotToClear_4 at h
  refine v_iload_n C dX2_slotToClear_4 rfl ?_
  refine v_aload_n C dX2_slotToClear_5 rfl ?_
  obtain ⟨v, e, h⟩ := ob h
  refine v_getR C dX2_slotToClear_6 gf_X2_59 e ?_
  obtain ⟨v, e, h⟩ := ob h
  refine v_alen C dX2_slotToClear_9 e ?_
  refine v_icmp_ge (tgt := 90) C dX2_slotToClear_10 (by decide) (fun c => ?_) (fun c => ?_)
  · replace h := ifT h c
    refine v_aload_n C dX2_slotToClear_90 rfl ?_
    exact v_aret C F ⟨rfl, rfl, Nat.le_refl _⟩ dX2_slotToClear_91 h
  · replace h := ifF h c
    refine v_aload_n C dX2_slotToClear_13 rfl ?_
    obtain ⟨v, e, h⟩ := ob h
    refine v_getR C dX2_slotToClear_14 gf_X2_59 e ?_
    refine v_iload_n C dX2_slotToClear_17 rfl ?_
    obtain ⟨v, e, h⟩ := ob h
    refine v_aaload5 C dX2_slotToClear_18 e ?_
    obtain ⟨v, e, h⟩ := ob h
    refine v_getR C dX2_slotToClear_19 gf_X2_238 e ?_
    refine v_astore_n C dX2_slotToClear_22 (by decide) ?_
    refine v_aload_n C dX2_slotToClear_23 rfl ?_
    refine v_ifnull (tgt := 84) C dX2_slotToClear_24 (by decide) (fun c => ?_) (fun c => ?_)
    · replace h := ifT h c
      exact v_sb (p_X2_slotToClear_84 C F hk4 h) ⟨rfl, rfl, rfl, trivial⟩
    · replace h := ifF h c
      refine v_aload_n C dX2_slotToClear_27 rfl ?_
      obtain ⟨v, e, h⟩ := ob h
      refine v_getI C dX2_slotToClear_28 gf_X2_77 e ?_
      refine v_iconst (v := 5) C dX2_slotToClear_31 rfl ?_
      refine v_icmp_ne (tgt := 38) C dX2_slotToClear_32 (by decide) (fun c => ?_) (fun c => ?_)
      · replace h := ifT h c
        refine v_aload_n C dX2_slotToClear_38 rfl ?_
        obtain ⟨v, e, h⟩ := ob h
        refine v_getI C dX2_slotToClear_39 gf_X2_77 e ?_
        refine v_iconst (v := 1) C dX2_slotToClear_42 rfl ?_
        refine v_icmp_eq (tgt := 53) C dX2_slotToClear_43 (by decide) (fun c => ?_) (fun c => ?_)
        · replace h := ifT h c
          refine v_aload_n C dX2_slotToClear_53 rfl ?_
          refine v_ifnonnull (tgt := 84) C dX2_slotToClear_54 (by decide) (fun c => ?_) (fun c => ?_)
          · replace h := ifT h c
            exact v_sb (p_X2_slotToClear_84 C F hk4 h) ⟨rfl, rfl, rfl, trivial⟩
          · replace h := ifF h c
            refine v_aload_n C dX2_slotToClear_57 rfl ?_
            obtain ⟨v, e, h⟩ := ob h
            refine v_getR C dX2_slotToClear_58 gf_X2_59 e ?_
            refine v_iload_n C dX2_slotToClear_61 rfl ?_
            obtain ⟨v, e, h⟩ := ob h
            refine v_aaload5 C dX2_slotToClear_62 e ?_
            obtain ⟨v, e, h⟩ := ob h
            refine v_getI C dX2_slotToClear_63 gf_X2_205 e ?_
            refine v_if_eq (tgt := 84) C dX2_slotToClear_66 (by decide) (fun c => ?_) (fun c => ?_)
            · replace h := ifT h c
              exact v_sb (p_X2_slotToClear_84 C F hk4 h) ⟨rfl, rfl, rfl, trivial⟩
            · replace h := ifF h c
              refine v_aload_n C dX2_slotToClear_69 rfl ?_
              refine v_aload_n C dX2_slotToClear_70 rfl ?_
              obtain ⟨v, e, h⟩ := ob h
              refine v_getR C dX2_slotToClear_71 gf_X2_29 e ?_
              refine v_acmp_eq (tgt := 84) C dX2_slotToClear_74 (by decide) (fun c => ?_) (fun c => ?_)
              · replace h := ifT h c
                exact v_sb (p_X2_slotToClear_84 C F hk4 h) ⟨rfl, rfl, rfl, trivial⟩
              · replace h := ifF h c
                refine v_aload_n C dX2_slotToClear_77 rfl ?_
                obtain ⟨v, e, h⟩ := ob h
                refine v_getR C dX2_slotToClear_78 gf_X2_59 e ?_
                refine v_iload_n C dX2_slotToClear_81 rfl ?_
                obtain ⟨v, e, h⟩ := ob h
                refine v_aaload5 C dX2_slotToClear_82 e ?_
                refine v_astore_n C dX2_slotToClear_83 (by decide) ?_
                exact v_sb (p_X2_slotToClear_84 C F hk4 h) ⟨rfl, rfl, rfl, trivial⟩
        · replace h := ifF h c
          refine v_aload_n C dX2_slotToClear_46 rfl ?_
          obtain ⟨v, e, h⟩ := ob h
          refine v_getR C dX2_slotToClear_47 gf_X2_59 e ?_
          refine v_iload_n C dX2_slotToClear_50 rfl ?_
          obtain ⟨v, e, h⟩ := ob h
          refine v_aaload5 C dX2_slotToClear_51 e ?_
          exact v_aret C F ⟨rfl, rfl, Nat.le_refl _⟩ dX2_slotToClear_52 h
      · replace h := ifF h c
        refine v_goto (tgt := 84) C dX2_slotToClear_35 (by decide) ?_
        exact v_sb (p_X2_slotToClear_84 C F hk4 h) ⟨rfl, rfl, rfl, trivial⟩
set_option maxRecDepth 100000 in
set_option maxHeartbeats 4000000 in
theorem pL_X2_slotToClear_4 {x : CX} {l : Launch} {g : CG} {rv : Option Nat} {μ0 μ9 : Mem} (C : Cx x l g mi_X2_slotToClear) (F : Prom x g mi_X2_slotToClear μ0 (some (aR rv)) μ9) (N : Nat) (n : Nat) : ∀ (a0 : Option Nat) (a1 : Option Nat) (a2 : Int32) (μ : Mem), L_X2_slotToClear_4 N n a0 a1 a2 μ = some (rv, μ9) → V x g 4 0 0 μ 4 [(0, aR a0), (1, aR a1), (2, aI a2)] [] := by
  induction n with
  | zero => intro a0 a1 a2 μ h; cases h
  | succ n ih => intro a0 a1 a2 μ h; exact pH_X2_slotToClear_4 C F ih h
set_option maxRecDepth 100000 in
set_option maxHeartbeats 4000000 in
theorem p_X2_slotToClear {x : CX} {l : Launch} {g : CG} {rv : Option Nat} {μ0 μ9 : Mem} (C : Cx x l g mi_X2_slotToClear) (F : Prom x g mi_X2_slotToClear μ0 (some (aR rv)) μ9) {N : Nat} {a0 : Option Nat} {μ : Mem} (h : f_X2_slotToClear N a0 μ = some (rv, μ9)) : V x g 4 0 0 μ 0 [(0, aR a0)] [] := by
  unfold f_X2_slotToClear at h
  refine v_null C dX2_slotToClear_0 ?_
  refine v_astore_n C dX2_slotToClear_1 (by decide) ?_
  refine v_iconst (v := 0) C dX2_slotToClear_2 rfl ?_
  refine v_istore_n C dX2_slotToClear_3 (by decide) ?_
  exact v_sb (pL_X2_slotToClear_4 C F N N _ _ _ _ h) ⟨rfl, rfl, rfl, trivial⟩
set_option maxRecDepth 100000 in
set_option maxHeartbeats 4000000 in
theorem c_X2_slotToClear (l : Launch) (g : CG) (N : Nat) (a0 : Option Nat) (μ : Mem) (rv : Option Nat) (μ9 : Mem) (h : f_X2_slotToClear N a0 μ = some (rv, μ9)) : Ct l yX2_slotToClear mi_X2_slotToClear g [aR a0] μ (some (aR rv)) μ9 := ct_of ⟨by decide, rfl, rfl⟩ (Nat.le_of_ble_eq_true rfl) fun x C F => p_X2_slotToClear C F h
def f_X2_serveQueue_25 (N : Nat) (a0 : Option Nat) (a1 : Option Nat) (a2 : Option Nat) (μ : Mem) : Option (Int32 × Mem) :=
  if ¬ a2 = none then
    (mfI μ a2 8 3).bind fun v1 =>
    if v1 = 0 then
      (mck μ a2 8).bind fun b3 =>
      (f_X8_release N (some b3) μ).bind fun q2 =>
      (mfR q2.2 a0 2 3).bind fun v4 =>
      (mck q2.2 v4 1).bind fun b6 =>
      (f_X1_start N (some b6) 2 a1 a2 q2.2).bind fun q5 =>
      retZ 1 q5.2
    else
      (mfR μ a0 2 3).bind fun v7 =>
      (mfR μ a2 8 2).bind fun v8 =>
      (mck μ v7 1).bind fun b10 =>
      (f_X1_start N (some b10) 1 v8 a2 μ).bind fun q9 =>
      retZ 1 q9.2
  else
    retZ 0 μ
def f_X2_serveQueue (N : Nat) (a0 : Option Nat) (μ : Mem) : Option (Int32 × Mem) :=
  (mck μ a0 2).bind fun b2 =>
  (f_X2_firstWithoutSlot N (some b2) μ).bind fun q1 =>
  if ¬ q1.1 = none then
    (mck q1.2 a0 2).bind fun b4 =>
    (f_X2_freeSlot N (some b4) q1.2).bind fun q3 =>
    if ¬ q3.1 = none then
      f_X2_serveQueue_25 N a0 q1.1 q3.1 q3.2
    else
      (mck q3.2 a0 2).bind fun b6 =>
      (f_X2_slotToClear N (some b6) q3.2).bind fun q5 =>
      f_X2_serveQueue_25 N a0 q1.1 q5.1 q5.2
  else
    retZ 0 q1.2
set_option maxRecDepth 100000 in
set_option maxHeartbeats 4000000 in
theorem p_X2_serveQueue_25 {x : CX} {l : Launch} {g : CG} {rv : Int32} {μ0 μ9 : Mem} (C : Cx x l g mi_X2_serveQueue) (F : Prom x g mi_X2_serveQueue μ0 (some (aI rv)) μ9) {N : Nat} {a0 : Option Nat} {a1 : Option Nat} {a2 : Option Nat} {μ : Mem} (h : f_X2_serveQueue_25 N a0 a1 a2 μ = some (rv, μ9)) : V x g 3 0 0 μ 25 [(0, aR a0), (1, aR a1), (2, aR a2)] [] := by
  unfold f_X2_serveQueue_25 at h
  refine v_aload_n C dX2_serveQueue_25 rfl ?_
  refine v_ifnonnull (tgt := 31) C dX2_serveQueue_26 (by decide) (fun c => ?_) (fun c => ?_)
  · replace h := ifT h c
    refine v_aload_n C dX2_serveQueue_31 rfl ?_
    obtain ⟨v, e, h⟩ := ob h
    refine v_getI C dX2_serveQueue_32 gf_X2_235 e ?_
    refine v_if_eq (tgt := 53) C dX2_serveQueue_35 (by decide) (fun c => ?_) (fun c => ?_)
    · replace h := ifT h c
      refine v_aload_n C dX2_serveQueue_53 rfl ?_
      obtain ⟨b, e0, h⟩ := ob h
      obtain ⟨q, e, h⟩ := ob h
      refine v_callV (As := []) C dX2_serveQueue_54 cf_X2_92 (rm_X2_serveQueue_X8_release) ⟨rfl, rfl⟩ e0 rfl (Nat.le_of_ble_eq_true rfl) (c_X8_release _ _ N _ _ q.1 q.2 e) ?_
      refine v_aload_n C dX2_serveQueue_57 rfl ?_
      obtain ⟨v, e, h⟩ := ob h
      refine v_getR C dX2_serveQueue_58 gf_X2_12 e ?_
      refine v_iconst (v := 2) C dX2_serveQueue_61 rfl ?_
      refine v_aload_n C dX2_serveQueue_62 rfl ?_
      refine v_aload_n C dX2_serveQueue_63 rfl ?_
      obtain ⟨b, e0, h⟩ := ob h
      obtain ⟨q, e, h⟩ := ob h
      refine v_callV (As := [_, _, _]) C dX2_serveQueue_64 cf_X2_220 (rm_X2_serveQueue_X1_start) ⟨rfl, rfl⟩ e0 rfl (Nat.le_of_ble_eq_true rfl) (c_X1_start _ _ N _ _ _ _ _ q.1 q.2 e) ?_
      refine v_iconst (v := 1) C dX2_serveQueue_67 rfl ?_
      exact v_zret C F ⟨rfl, rfl, Nat.le_refl _⟩ dX2_serveQueue_68 h
    · replace h := ifF h c
      refine v_aload_n C dX2_serveQueue_38 rfl ?_
      obtain ⟨v, e, h⟩ := ob h
      refine v_getR C dX2_serveQueue_39 gf_X2_12 e ?_
      refine v_iconst (v := 1) C dX2_serveQueue_42 rfl ?_
      refine v_aload_n C dX2_serveQueue_43 rfl ?_
      obtain ⟨v, e, h⟩ := ob h
      refine v_getR C dX2_serveQueue_44 gf_X2_238 e ?_
      refine v_aload_n C dX2_serveQueue_47 rfl ?_
      obtain ⟨b, e0, h⟩ := ob h
      obtain ⟨q, e, h⟩ := ob h
      refine v_callV (As := [_, _, _]) C dX2_serveQueue_48 cf_X2_220 (rm_X2_serveQueue_X1_start) ⟨rfl, rfl⟩ e0 rfl (Nat.le_of_ble_eq_true rfl) (c_X1_start _ _ N _ _ _ _ _ q.1 q.2 e) ?_
      refine v_iconst (v := 1) C dX2_serveQueue_51 rfl ?_
      exact v_zret C F ⟨rfl, rfl, Nat.le_refl _⟩ dX2_serveQueue_52 h
  · replace h := ifF h c
    refine v_iconst (v := 0) C dX2_serveQueue_29 rfl ?_
    exact v_zret C F ⟨rfl, rfl, Nat.le_refl _⟩ dX2_serveQueue_30 h
set_option maxRecDepth 100000 in
set_option maxHeartbeats 4000000 in
theorem p_X2_serveQueue {x : CX} {l : Launch} {g : CG} {rv : Int32} {μ0 μ9 : Mem} (C : Cx x l g mi_X2_serveQueue) (F : Prom x g mi_X2_serveQueue μ0 (some (aI rv)) μ9) {N : Nat} {a0 : Option Nat} {μ : Mem} (h : f_X2_serveQueue N a0 μ = some (rv, μ9)) : V x g 3 0 0 μ 0 [(0, aR a0)] [] := by
  unfold f_X2_serveQueue at h
  refine v_aload_n C dX2_serveQueue_0 rfl ?_
  obtain ⟨b, e0, h⟩ := ob h
  obtain ⟨q, e, h⟩ := ob h
  refine v_callV (As := []) C dX2_serveQueue_1 cf_X2_224 (rm_X2_serveQueue_X2_firstWithoutSlot) ⟨rfl, rfl⟩ e0 rfl (Nat.le_of_ble_eq_true rfl) (c_X2_firstWithoutSlot _ _ N _ _ q.1 q.2 e) ?_
  refine v_astore_n C dX2_serveQueue_4 (by decide) ?_
  refine v_aload_n C dX2_serveQueue_5 rfl ?_
  refine v_ifnonnull (tgt := 11) C dX2_serveQueue_6 (by decide) (fun c => ?_) (fun c => ?_)
  · replace h := ifT h c
    refine v_aload_n C dX2_serveQueue_11 rfl ?_
    obtain ⟨b, e0, h⟩ := ob h
    obtain ⟨q, e, h⟩ := ob h
    refine v_callV (As := []) C dX2_serveQueue_12 cf_X2_228 (rm_X2_serveQueue_X2_freeSlot) ⟨rfl, rfl⟩ e0 rfl (Nat.le_of_ble_eq_true rfl) (c_X2_freeSlot _ _ N _ _ q.1 q.2 e) ?_
    refine v_astore_n C dX2_serveQueue_15 (by decide) ?_
    refine v_aload_n C dX2_serveQueue_16 rfl ?_
    refine v_ifnonnull (tgt := 25) C dX2_serveQueue_17 (by decide) (fun c => ?_) (fun c => ?_)
    · replace h := ifT h c
      exact v_sb (p_X2_serveQueue_25 C F h) ⟨rfl, rfl, rfl, trivial⟩
    · replace h := ifF h c
      refine v_aload_n C dX2_serveQueue_20 rfl ?_
      obtain ⟨b, e0, h⟩ := ob h
      obtain ⟨q, e, h⟩ := ob h
      refine v_callV (As := []) C dX2_serveQueue_21 cf_X2_232 (rm_X2_serveQueue_X2_slotToClear) ⟨rfl, rfl⟩ e0 rfl (Nat.le_of_ble_eq_true rfl) (c_X2_slotToClear _ _ N _ _ q.1 q.2 e) ?_
      refine v_astore_n C dX2_serveQueue_24 (by decide) ?_
      exact v_sb (p_X2_serveQueue_25 C F h) ⟨rfl, rfl, rfl, trivial⟩
  · replace h := ifF h c
    refine v_iconst (v := 0) C dX2_serveQueue_9 rfl ?_
    exact v_zret C F ⟨rfl, rfl, Nat.le_refl _⟩ dX2_serveQueue_10 h
set_option maxRecDepth 100000 in
set_option maxHeartbeats 4000000 in
theorem c_X2_serveQueue (l : Launch) (g : CG) (N : Nat) (a0 : Option Nat) (μ : Mem) (rv : Int32) (μ9 : Mem) (h : f_X2_serveQueue N a0 μ = some (rv, μ9)) : Ct l yX2_serveQueue mi_X2_serveQueue g [aR a0] μ (some (aI rv)) μ9 := ct_of ⟨by decide, rfl, rfl⟩ (Nat.le_of_ble_eq_true rfl) fun x C F => p_X2_serveQueue C F h
def f_X2_serveBlocks_62 (N : Nat) (μ : Mem) : Option (Int32 × Mem) :=
  retZ 0 μ
def f_X2_serveBlocks_45 (N : Nat) (k4 : (Option Nat) → (Option Nat) → Int32 → Mem → Option (Int32 × Mem)) (a0 : Option Nat) (a1 : Option Nat) (a2 : Int32) (μ : Mem) : Option (Int32 × Mem) :=
  k4 a0 a1 (a2 + 1) μ
def f_X2_serveBlocks_43 (N : Nat) (k4 : (Option Nat) → (Option Nat) → Int32 → Mem → Option (Int32 × Mem)) (a0 : Option Nat) (a2 : Int32) (a3 : Option Nat) (μ : Mem) : Option (Int32 × Mem) :=
  f_X2_serveBlocks_45 N k4 a0 a3 a2 μ
def H_X2_serveBlocks_4 (N : Nat) (k4 : (Option Nat) → (Option Nat) → Int32 → Mem → Option (Int32 × Mem)) (a0 : Option Nat) (a1 : Option Nat) (a2 : Int32) (μ : Mem) : Option (Int32 × Mem) :=
  (mfR μ a0 2 0).bind fun v1 =>
  (mal μ v1).bind fun v2 =>
  if v2 ≤ a2 then
    if a1 = none then
      f_X2_serveBlocks_62 N μ
    else
      (mfR μ a1 10 19).bind fun v3 =>
      if ¬ v3 = none then
        (mfR μ a0 2 3).bind fun v4 =>
        (mfI μ a1 10 18).bind fun v5 =>
        (mfR μ a1 10 19).bind fun v6 =>
        (mck μ v4 1).bind fun b8 =>
        (f_X1_start N (some b8) v5 a1 v6 μ).bind fun q7 =>
        retZ 1 q7.2
      else
        f_X2_serveBlocks_62 N μ
  else
    (mfR μ a0 2 0).bind fun v9 =>
    (maR μ 4 v9 a2).bind fun v10 =>
    (mfI μ v10 10 8).bind fun v11 =>
    if ¬ v11 = (5 : Int32) then
      f_X2_serveBlocks_45 N k4 a0 a1 a2 μ
    else
      if a1 = none then
        f_X2_serveBlocks_43 N k4 a0 a2 v10 μ
      else
        (mfI μ v10 10 17).bind fun v12 =>
        (mfI μ a1 10 17).bind fun v13 =>
        if v13 ≤ v12 then
          f_X2_serveBlocks_45 N k4 a0 a1 a2 μ
        else
          f_X2_serveBlocks_43 N k4 a0 a2 v10 μ
def L_X2_serveBlocks_4 (N : Nat) : Nat → (Option Nat) → (Option Nat) → Int32 → Mem → Option (Int32 × Mem)
  | 0 => fun _ _ _ _ => none
  | n + 1 => H_X2_serveBlocks_4 N (L_X2_serveBlocks_4 N n)
def f_X2_serveBlocks (N : Nat) (a0 : Option Nat) (μ : Mem) : Option (Int32 × Mem) :=
  L_X2_serveBlocks_4 N N a0 none 0 μ
set_option maxRecDepth 100000 in
set_option maxHeartbeats 4000000 in
theorem p_X2_serveBlocks_62 {x : CX} {l : Launch} {g : CG} {rv : Int32} {μ0 μ9 : Mem} (C : Cx x l g mi_X2_serveBlocks) (F : Prom x g mi_X2_serveBlocks μ0 (some (aI rv)) μ9) {N : Nat} {μ : Mem} (h : f_X2_serveBlocks_62 N μ = some (rv, μ9)) : V x g 4 0 0 μ 62 [] [] := by
  unfold f_X2_serveBlocks_62 at h
  refine v_iconst (v := 0) C dX2_serveBlocks_62 rfl ?_
  exact v_zret C F ⟨rfl, rfl, Nat.le_refl _⟩ dX2_serveBlocks_63 h
set_option maxRecDepth 100000 in
set_option maxHeartbeats 4000000 in
theorem p_X2_serveBlocks_45 {x : CX} {l : Launch} {g : CG} {rv : Int32} {μ0 μ9 : Mem} (C : Cx x l g mi_X2_serveBlocks) (F : Prom x g mi_X2_serveBlocks μ0 (some (aI rv)) μ9) {N : Nat} {k4 : (Option Nat) → (Option Nat) → Int32 → Mem → Option (Int32 × Mem)} (hk4 : ∀ (a0 : Option Nat) (a1 : Option Nat) (a2 : Int32) (μ : Mem), k4 a0 a1 a2 μ = some (rv, μ9) → V x g 4 0 0 μ 4 [(0, aR a0), (1, aR a1), (2, aI a2)] []) {a0 : Option Nat} {a1 : Option Nat} {a2 : Int32} {μ : Mem} (h : f_X2_serveBlocks_45 N k4 a0 a1 a2 μ = some (rv, μ9)) : V x g 4 0 0 μ 45 [(0, aR a0), (1, aR a1), (2, aI a2)] [] := by
  unfold f_X2_serveBlocks_45 at h
  refine v_iinc (w := 1) C dX2_serveBlocks_45 rfl rfl (by decide) ?_
  refine v_goto (tgt := 4) C dX2_serveBlocks_48 (by decide) ?_
  exact v_sb (hk4 _ _ _ _ h) ⟨rfl, rfl, rfl, trivial⟩
set_option maxRecDepth 100000 in
set_option maxHeartbeats 4000000 in
theorem p_X2_serveBlocks_43 {x : CX} {l : Launch} {g : CG} {rv : Int32} {μ0 μ9 : Mem} (C : Cx x l g mi_X2_serveBlocks) (F : Prom x g mi_X2_serveBlocks μ0 (some (aI rv)) μ9) {N : Nat} {k4 : (Option Nat) → (Option Nat) → Int32 → Mem → Option (Int32 × Mem)} (hk4 : ∀ (a0 : Option Nat) (a1 : Option Nat) (a2 : Int32) (μ : Mem), k4 a0 a1 a2 μ = some (rv, μ9) → V x g 4 0 0 μ 4 [(0, aR a0), (1, aR a1), (2, aI a2)] []) {a0 : Option Nat} {a2 : Int32} {a3 : Option Nat} {μ : Mem} (h : f_X2_serveBlocks_43 N k4 a0 a2 a3 μ = some (rv, μ9)) : V x g 4 0 0 μ 43 [(0, aR a0), (2, aI a2), (3, aR a3)] [] := by
  unfold f_X2_serveBlocks_43 at h
  refine v_aload_n C dX2_serveBlocks_43 rfl ?_
  refine v_astore_n C dX2_serveBlocks_44 (by decide) ?_
  exact v_sb (p_X2_serveBlocks_45 C F hk4 h) ⟨rfl, rfl, rfl, trivial⟩
set_option maxRecDepth 100000 in
set_option maxHeartbeats 4000000 in
theorem pH_X2_serveBlocks_4 {x : CX} {l : Launch} {g : CG} {rv : Int32} {μ0 μ9 : Mem} (C : Cx x l g mi_X2_serveBlocks) (F : Prom x g mi_X2_serveBlocks μ0 (some (aI rv)) μ9) {N : Nat} {k4 : (Option Nat) → (Option Nat) → Int32 → Mem → Option (Int32 × Mem)} (hk4 : ∀ (a0 : Option Nat) (a1 : Option Nat) (a2 : Int32) (μ : Mem), k4 a0 a1 a2 μ = some (rv, μ9) → V x g 4 0 0 μ 4 [(0, aR a0), (1, aR a1), (2, aI a2)] []) {a0 : Option Nat} {a1 : Option Nat} {a2 : Int32} {μ : Mem} (h : H_X2_serveBlocks_4 N k4 a0 a1 a2 μ = some (rv, μ9)) : V x g 4 0 0 μ 4 [(0, aR a0), (1, aR a1), (2, aI a2)] [] := by
  unfold H_X2_serveBlocks_4 at h
  refine v_iload_n C dX2_serveBlocks_4 rfl ?_
  refine v_aload_n C dX2_serveBlocks_5 rfl ?_
  obtain ⟨v, e, h⟩ := ob h
  refine v_getR C dX2_serveBlocks_6 gf_X2_50 e ?_
  obtain ⟨v, e, h⟩ := ob h
  refine v_alen C dX2_serveBlocks_9 e ?_
  refine v_icmp_ge (tgt := 51) C dX2_serveBlocks_10 (by decide) (fun c => ?_) (fun c => ?_)
  · replace h := ifT h c
    refine v_aload_n C dX2_serveBlocks_51 rfl ?_
    refine v_ifnull (tgt := 62) C dX2_serveBlocks_52 (by decide) (fun c => ?_) (fun c => ?_)
    · replace h := ifT h c
      exact v_sb (p_X2_serveBlocks_62 C F h) trivial
    · replace h := ifF h c
      refine v_aload_n C dX2_serveBlocks_55 rfl ?_
      obtain ⟨v, e, h⟩ := ob h
      refine v_getR C dX2_serveBlocks_56 gf_X2_88 e ?_
      refine v_ifnonnull (tgt := 64) C dX2_serveBlocks_59 (by decide) (fun c => ?_) (fun c => ?_)
      · replace h := ifT h c
        refine v_aload_n C dX2_serveBlocks_64 rfl ?_
        obtain ⟨v, e, h⟩ := ob h
        refine v_getR C dX2_serveBlocks_65 gf_X2_12 e ?_
        refine v_aload_n C dX2_serveBlocks_68 rfl ?_
        obtain ⟨v, e, h⟩ := ob h
        refine v_getI C dX2_serveBlocks_69 gf_X2_217 e ?_
        refine v_aload_n C dX2_serveBlocks_72 rfl ?_
        refine v_aload_n C dX2_serveBlocks_73 rfl ?_
        obtain ⟨v, e, h⟩ := ob h
        refine v_getR C dX2_serveBlocks_74 gf_X2_88 e ?_
        obtain ⟨b, e0, h⟩ := ob h
        obtain ⟨q, e, h⟩ := ob h
        refine v_callV (As := [_, _, _]) C dX2_serveBlocks_77 cf_X2_220 (rm_X2_serveBlocks_X1_start) ⟨rfl, rfl⟩ e0 rfl (Nat.le_of_ble_eq_true rfl) (c_X1_start _ _ N _ _ _ _ _ q.1 q.2 e) ?_
        refine v_iconst (v := 1) C dX2_serveBlocks_80 rfl ?_
        exact v_zret C F ⟨rfl, rfl, Nat.le_refl _⟩ dX2_serveBlocks_81 h
      · replace h := ifF h c
        exact v_sb (p_X2_serveBlocks_62 C F h) trivial
  · replace h := ifF h c
    refine v_aload_n C dX2_serveBlocks_13 rfl ?_
    obtain ⟨v, e, h⟩ := ob h
    refine v_getR C dX2_serveBlocks_14 gf_X2_50 e ?_
    refine v_iload_n C dX2_serveBlocks_17 rfl ?_
    obtain ⟨v, e, h⟩ := ob h
    refine v_aaload4 C dX2_serveBlocks_18 e ?_
    refine v_astore_n C dX2_serveBlocks_19 (by decide) ?_
    refine v_aload_n C dX2_serveBlocks_20 rfl ?_
    obtain ⟨v, e, h⟩ := ob h
    refine v_getI C dX2_serveBlocks_21 gf_X2_77 e ?_
    refine v_iconst (v := 5) C dX2_serveBlocks_24 rfl ?_
    refine v_icmp_ne (tgt := 45) C dX2_serveBlocks_25 (by decide) (fun c => ?_) (fun c => ?_)
    · replace h := ifT h c
      exact v_sb (p_X2_serveBlocks_45 C F hk4 h) ⟨rfl, rfl, rfl, trivial⟩
    · replace h := ifF h c
      refine v_aload_n C dX2_serveBlocks_28 rfl ?_
      refine v_ifnull (tgt := 43) C dX2_serveBlocks_29 (by decide) (fun c => ?_) (fun c => ?_)
      · replace h := ifT h c
        exact v_sb (p_X2_serveBlocks_43 C F hk4 h) ⟨rfl, rfl, rfl, trivial⟩
      · replace h := ifF h c
        refine v_aload_n C dX2_serveBlocks_32 rfl ?_
        obtain ⟨v, e, h⟩ := ob h
        refine v_getI C dX2_serveBlocks_33 gf_X2_214 e ?_
        refine v_aload_n C dX2_serveBlocks_36 rfl ?_
        obtain ⟨v, e, h⟩ := ob h
        refine v_getI C dX2_serveBlocks_37 gf_X2_214 e ?_
        refine v_icmp_ge (tgt := 45) C dX2_serveBlocks_40 (by decide) (fun c => ?_) (fun c => ?_)
        · replace h := ifT h c
          exact v_sb (p_X2_serveBlocks_45 C F hk4 h) ⟨rfl, rfl, rfl, trivial⟩
        · replace h := ifF h c
          exact v_sb (p_X2_serveBlocks_43 C F hk4 h) ⟨rfl, rfl, rfl, trivial⟩
set_option maxRecDepth 100000 in
set_option maxHeartbeats 4000000 in
theorem pL_X2_serveBlocks_4 {x : CX} {l : Launch} {g : CG} {rv : Int32} {μ0 μ9 : Mem} (C : Cx x l g mi_X2_serveBlocks) (F : Prom x g mi_X2_serveBlocks μ0 (some (aI rv)) μ9) (N : Nat) (n : Nat) : ∀ (a0 : Option Nat) (a1 : Option Nat) (a2 : Int32) (μ : Mem), L_X2_serveBlocks_4 N n a0 a1 a2 μ = some (rv, μ9) → V x g 4 0 0 μ 4 [(0, aR a0), (1, aR a1), (2, aI a2)] [] := by
  induction n with
  | zero => intro a0 a1 a2 μ h; cases h
  | succ n ih => intro a0 a1 a2 μ h; exact pH_X2_serveBlocks_4 C F ih h
set_option maxRecDepth 100000 in
set_option maxHeartbeats 4000000 in
theorem p_X2_serveBlocks {x : CX} {l : Launch} {g : CG} {rv : Int32} {μ0 μ9 : Mem} (C : Cx x l g mi_X2_serveBlocks) (F : Prom x g mi_X2_serveBlocks μ0 (some (aI rv)) μ9) {N : Nat} {a0 : Option Nat} {μ : Mem} (h : f_X2_serveBlocks N a0 μ = some (rv, μ9)) : V x g 4 0 0 μ 0 [(0, aR a0)] [] := by
  unfold f_X2_serveBlocks at h
  refine v_null C dX2_serveBlocks_0 ?_
  refine v_astore_n C dX2_serveBlocks_1 (by decide) ?_
  refine v_iconst (v := 0) C dX2_serveBlocks_2 rfl ?_
  refine v_istore_n C dX2_serveBlocks_3 (by decide) ?_
  exact v_sb (pL_X2_serveBlocks_4 C F N N _ _ _ _ h) ⟨rfl, rfl, rfl, trivial⟩
set_option maxRecDepth 100000 in
set_option maxHeartbeats 4000000 in
theorem c_X2_serveBlocks (l : Launch) (g : CG) (N : Nat) (a0 : Option Nat) (μ : Mem) (rv : Int32) (μ9 : Mem) (h : f_X2_serveBlocks N a0 μ = some (rv, μ9)) : Ct l yX2_serveBlocks mi_X2_serveBlocks g [aR a0] μ (some (aI rv)) μ9 := ct_of ⟨by decide, rfl, rfl⟩ (Nat.le_of_ble_eq_true rfl) fun x C F => p_X2_serveBlocks C F h
def f_X2_lookForTask_37 (N : Nat) (μ : Mem) : Option (Unit × Mem) :=
  some ((), μ)
def f_X2_lookForTask (N : Nat) (a0 : Option Nat) (μ : Mem) : Option (Unit × Mem) :=
  (mfR μ a0 2 3).bind fun v1 =>
  (mfI μ v1 1 4).bind fun v2 =>
  if v2 = 0 then
    (mck μ a0 2).bind fun b4 =>
    (f_X2_serveBlocks N (some b4) μ).bind fun q3 =>
    if ¬ q3.1 = 0 then
      f_X2_lookForTask_37 N q3.2
    else
      (mck q3.2 a0 2).bind fun b6 =>
      (f_X2_serveQueue N (some b6) q3.2).bind fun q5 =>
      f_X2_lookForTask_37 N q5.2
  else
    (mck μ a0 2).bind fun b8 =>
    (f_X2_serveQueue N (some b8) μ).bind fun q7 =>
    if ¬ q7.1 = 0 then
      f_X2_lookForTask_37 N q7.2
    else
      (mck q7.2 a0 2).bind fun b10 =>
      (f_X2_serveBlocks N (some b10) q7.2).bind fun q9 =>
      f_X2_lookForTask_37 N q9.2
set_option maxRecDepth 100000 in
set_option maxHeartbeats 4000000 in
theorem p_X2_lookForTask_37 {x : CX} {l : Launch} {g : CG} {rv : Unit} {μ0 μ9 : Mem} (C : Cx x l g mi_X2_lookForTask) (F : Prom x g mi_X2_lookForTask μ0 none μ9) {N : Nat} {μ : Mem} (h : f_X2_lookForTask_37 N μ = some (rv, μ9)) : V x g 1 0 0 μ 37 [] [] := by
  unfold f_X2_lookForTask_37 at h
  exact v_vret C F ⟨rfl, rfl, Nat.le_refl _⟩ dX2_lookForTask_37 h
set_option maxRecDepth 100000 in
set_option maxHeartbeats 4000000 in
theorem p_X2_lookForTask {x : CX} {l : Launch} {g : CG} {rv : Unit} {μ0 μ9 : Mem} (C : Cx x l g mi_X2_lookForTask) (F : Prom x g mi_X2_lookForTask μ0 none μ9) {N : Nat} {a0 : Option Nat} {μ : Mem} (h : f_X2_lookForTask N a0 μ = some (rv, μ9)) : V x g 1 0 0 μ 0 [(0, aR a0)] [] := by
  unfold f_X2_lookForTask at h
  refine v_aload_n C dX2_lookForTask_0 rfl ?_
  obtain ⟨v, e, h⟩ := ob h
  refine v_getR C dX2_lookForTask_1 gf_X2_12 e ?_
  obtain ⟨v, e, h⟩ := ob h
  refine v_getI C dX2_lookForTask_4 gf_X2_176 e ?_
  refine v_if_eq (tgt := 25) C dX2_lookForTask_7 (by decide) (fun c => ?_) (fun c => ?_)
  · replace h := ifT h c
    refine v_aload_n C dX2_lookForTask_25 rfl ?_
    obtain ⟨b, e0, h⟩ := ob h
    obtain ⟨q, e, h⟩ := ob h
    refine v_callV (As := []) C dX2_lookForTask_26 cf_X2_211 (rm_X2_lookForTask_X2_serveBlocks) ⟨rfl, rfl⟩ e0 rfl (Nat.le_of_ble_eq_true rfl) (c_X2_serveBlocks _ _ N _ _ q.1 q.2 e) ?_
    refine v_if_ne (tgt := 37) C dX2_lookForTask_29 (by decide) (fun c => ?_) (fun c => ?_)
    · replace h := ifT h c
      exact v_sb (p_X2_lookForTask_37 C F h) trivial
    · replace h := ifF h c
      refine v_aload_n C dX2_lookForTask_32 rfl ?_
      obtain ⟨b, e0, h⟩ := ob h
      obtain ⟨q, e, h⟩ := ob h
      refine v_callV (As := []) C dX2_lookForTask_33 cf_X2_208 (rm_X2_lookForTask_X2_serveQueue) ⟨rfl, rfl⟩ e0 rfl (Nat.le_of_ble_eq_true rfl) (c_X2_serveQueue _ _ N _ _ q.1 q.2 e) ?_
      refine v_pop C dX2_lookForTask_36 rfl ?_
      exact v_sb (p_X2_lookForTask_37 C F h) trivial
  · replace h := ifF h c
    refine v_aload_n C dX2_lookForTask_10 rfl ?_
    obtain ⟨b, e0, h⟩ := ob h
    obtain ⟨q, e, h⟩ := ob h
    refine v_callV (As := []) C dX2_lookForTask_11 cf_X2_208 (rm_X2_lookForTask_X2_serveQueue) ⟨rfl, rfl⟩ e0 rfl (Nat.le_of_ble_eq_true rfl) (c_X2_serveQueue _ _ N _ _ q.1 q.2 e) ?_
    refine v_if_ne (tgt := 37) C dX2_lookForTask_14 (by decide) (fun c => ?_) (fun c => ?_)
    · replace h := ifT h c
      exact v_sb (p_X2_lookForTask_37 C F h) trivial
    · replace h := ifF h c
      refine v_aload_n C dX2_lookForTask_17 rfl ?_
      obtain ⟨b, e0, h⟩ := ob h
      obtain ⟨q, e, h⟩ := ob h
      refine v_callV (As := []) C dX2_lookForTask_18 cf_X2_211 (rm_X2_lookForTask_X2_serveBlocks) ⟨rfl, rfl⟩ e0 rfl (Nat.le_of_ble_eq_true rfl) (c_X2_serveBlocks _ _ N _ _ q.1 q.2 e) ?_
      refine v_pop C dX2_lookForTask_21 rfl ?_
      refine v_goto (tgt := 37) C dX2_lookForTask_22 (by decide) ?_
      exact v_sb (p_X2_lookForTask_37 C F h) trivial
set_option maxRecDepth 100000 in
set_option maxHeartbeats 4000000 in
theorem c_X2_lookForTask (l : Launch) (g : CG) (N : Nat) (a0 : Option Nat) (μ : Mem) (rv : Unit) (μ9 : Mem) (h : f_X2_lookForTask N a0 μ = some (rv, μ9)) : Ct l yX2_lookForTask mi_X2_lookForTask g [aR a0] μ none μ9 := ct_of ⟨by decide, rfl, rfl⟩ (Nat.le_of_ble_eq_true rfl) fun x C F => p_X2_lookForTask C F h
def f_X1_isTakingOut_21 (N : Nat) (s0 : Int32) (μ : Mem) : Option (Int32 × Mem) :=
  retZ s0 μ
def f_X1_isTakingOut_20 (N : Nat) (μ : Mem) : Option (Int32 × Mem) :=
  f_X1_isTakingOut_21 N 0 μ
def f_X1_isTakingOut (N : Nat) (a0 : Option Nat) (a1 : Option Nat) (μ : Mem) : Option (Int32 × Mem) :=
  (mfI μ a0 1 0).bind fun v1 =>
  if ¬ v1 = (1 : Int32) then
    f_X1_isTakingOut_20 N μ
  else
    (mfR μ a0 1 1).bind fun v2 =>
    if ¬ v2 = a1 then
      f_X1_isTakingOut_20 N μ
    else
      f_X1_isTakingOut_21 N 1 μ
set_option maxRecDepth 100000 in
set_option maxHeartbeats 4000000 in
theorem p_X1_isTakingOut_21 {x : CX} {l : Launch} {g : CG} {rv : Int32} {μ0 μ9 : Mem} (C : Cx x l g mi_X1_isTakingOut) (F : Prom x g mi_X1_isTakingOut μ0 (some (aI rv)) μ9) {N : Nat} {s0 : Int32} {μ : Mem} (h : f_X1_isTakingOut_21 N s0 μ = some (rv, μ9)) : V x g 2 0 0 μ 21 [] [aI s0] := by
  unfold f_X1_isTakingOut_21 at h
  exact v_zret C F ⟨rfl, rfl, Nat.le_refl _⟩ dX1_isTakingOut_21 h
set_option maxRecDepth 100000 in
set_option maxHeartbeats 4000000 in
theorem p_X1_isTakingOut_20 {x : CX} {l : Launch} {g : CG} {rv : Int32} {μ0 μ9 : Mem} (C : Cx x l g mi_X1_isTakingOut) (F : Prom x g mi_X1_isTakingOut μ0 (some (aI rv)) μ9) {N : Nat} {μ : Mem} (h : f_X1_isTakingOut_20 N μ = some (rv, μ9)) : V x g 2 0 0 μ 20 [] [] := by
  unfold f_X1_isTakingOut_20 at h
  refine v_iconst (v := 0) C dX1_isTakingOut_20 rfl ?_
  exact v_sb (p_X1_isTakingOut_21 C F h) trivial
set_option maxRecDepth 100000 in
set_option maxHeartbeats 4000000 in
theorem p_X1_isTakingOut {x : CX} {l : Launch} {g : CG} {rv : Int32} {μ0 μ9 : Mem} (C : Cx x l g mi_X1_isTakingOut) (F : Prom x g mi_X1_isTakingOut μ0 (some (aI rv)) μ9) {N : Nat} {a0 : Option Nat} {a1 : Option Nat} {μ : Mem} (h : f_X1_isTakingOut N a0 a1 μ = some (rv, μ9)) : V x g 2 0 0 μ 0 [(0, aR a0), (1, aR a1)] [] := by
  unfold f_X1_isTakingOut at h
  refine v_aload_n C dX1_isTakingOut_0 rfl ?_
  obtain ⟨v, e, h⟩ := ob h
  refine v_getI C dX1_isTakingOut_1 gf_X1_9 e ?_
  refine v_iconst (v := 1) C dX1_isTakingOut_4 rfl ?_
  refine v_icmp_ne (tgt := 20) C dX1_isTakingOut_5 (by decide) (fun c => ?_) (fun c => ?_)
  · replace h := ifT h c
    exact v_sb (p_X1_isTakingOut_20 C F h) trivial
  · replace h := ifF h c
    refine v_aload_n C dX1_isTakingOut_8 rfl ?_
    obtain ⟨v, e, h⟩ := ob h
    refine v_getR C dX1_isTakingOut_9 gf_X1_15 e ?_
    refine v_aload_n C dX1_isTakingOut_12 rfl ?_
    refine v_acmp_ne (tgt := 20) C dX1_isTakingOut_13 (by decide) (fun c => ?_) (fun c => ?_)
    · replace h := ifT h c
      exact v_sb (p_X1_isTakingOut_20 C F h) trivial
    · replace h := ifF h c
      refine v_iconst (v := 1) C dX1_isTakingOut_16 rfl ?_
      refine v_goto (tgt := 21) C dX1_isTakingOut_17 (by decide) ?_
      exact v_sb (p_X1_isTakingOut_21 C F h) trivial
set_option maxRecDepth 100000 in
set_option maxHeartbeats 4000000 in
theorem c_X1_isTakingOut (l : Launch) (g : CG) (N : Nat) (a0 : Option Nat) (a1 : Option Nat) (μ : Mem) (rv : Int32) (μ9 : Mem) (h : f_X1_isTakingOut N a0 a1 μ = some (rv, μ9)) : Ct l yX1_isTakingOut mi_X1_isTakingOut g [aR a0, aR a1] μ (some (aI rv)) μ9 := ct_of ⟨by decide, rfl, rfl⟩ (Nat.le_of_ble_eq_true rfl) fun x C F => p_X1_isTakingOut C F h
def f_X2_chooseRunning_66 (N : Nat) (k2 : (Option Nat) → Int32 → Mem → Option (Unit × Mem)) (a0 : Option Nat) (a1 : Int32) (μ : Mem) : Option (Unit × Mem) :=
  k2 a0 (a1 + 1) μ
def H_X2_chooseRunning_2 (N : Nat) (k2 : (Option Nat) → Int32 → Mem → Option (Unit × Mem)) (a0 : Option Nat) (a1 : Int32) (μ : Mem) : Option (Unit × Mem) :=
  (mfR μ a0 2 2).bind fun v1 =>
  (mfI μ v1 5 1).bind fun v2 =>
  if v2 ≤ a1 then
    some ((), μ)
  else
    (mfR μ a0 2 2).bind fun v3 =>
    (mck μ v3 5).bind fun b5 =>
    (f_X5_at N (some b5) a1 μ).bind fun q4 =>
    if q4.1 = none then
      f_X2_chooseRunning_66 N k2 a0 a1 q4.2
    else
      (mfR q4.2 q4.1 10 19).bind fun v6 =>
      if v6 = none then
        f_X2_chooseRunning_66 N k2 a0 a1 q4.2
      else
        (mfR q4.2 a0 2 3).bind fun v7 =>
        (mck q4.2 v7 1).bind fun b9 =>
        (f_X1_isTakingOut N (some b9) q4.1 q4.2).bind fun q8 =>
        if ¬ q8.1 = 0 then
          f_X2_chooseRunning_66 N k2 a0 a1 q8.2
        else
          (mfR q8.2 a0 2 2).bind fun v10 =>
          (mck q8.2 v10 5).bind fun b12 =>
          (f_X5_remove N (some b12) q4.1 q8.2).bind fun q11 =>
          (mpR q11.2 a0 2 8 q4.1).bind fun μ13 =>
          (mfI μ13 a0 2 5).bind fun v14 =>
          (mpI μ13 a0 2 9 v14).bind fun μ15 =>
          some ((), μ15)
def L_X2_chooseRunning_2 (N : Nat) : Nat → (Option Nat) → Int32 → Mem → Option (Unit × Mem)
  | 0 => fun _ _ _ => none
  | n + 1 => H_X2_chooseRunning_2 N (L_X2_chooseRunning_2 N n)
def f_X2_chooseRunning (N : Nat) (a0 : Option Nat) (μ : Mem) : Option (Unit × Mem) :=
  L_X2_chooseRunning_2 N N a0 0 μ
set_option maxRecDepth 100000 in
set_option maxHeartbeats 4000000 in
theorem p_X2_chooseRunning_66 {x : CX} {l : Launch} {g : CG} {rv : Unit} {μ0 μ9 : Mem} (C : Cx x l g mi_X2_chooseRunning) (F : Prom x g mi_X2_chooseRunning μ0 none μ9) {N : Nat} {k2 : (Option Nat) → Int32 → Mem → Option (Unit × Mem)} (hk2 : ∀ (a0 : Option Nat) (a1 : Int32) (μ : Mem), k2 a0 a1 μ = some (rv, μ9) → V x g 3 0 0 μ 2 [(0, aR a0), (1, aI a1)] []) {a0 : Option Nat} {a1 : Int32} {μ : Mem} (h : f_X2_chooseRunning_66 N k2 a0 a1 μ = some (rv, μ9)) : V x g 3 0 0 μ 66 [(0, aR a0), (1, aI a1)] [] := by
  unfold f_X2_chooseRunning_66 at h
  refine v_iinc (w := 1) C dX2_chooseRunning_66 rfl rfl (by decide) ?_
  refine v_goto (tgt := 2) C dX2_chooseRunning_69 (by decide) ?_
  exact v_sb (hk2 _ _ _ h) ⟨rfl, rfl, trivial⟩
set_option maxRecDepth 100000 in
set_option maxHeartbeats 4000000 in
theorem pH_X2_chooseRunning_2 {x : CX} {l : Launch} {g : CG} {rv : Unit} {μ0 μ9 : Mem} (C : Cx x l g mi_X2_chooseRunning) (F : Prom x g mi_X2_chooseRunning μ0 none μ9) {N : Nat} {k2 : (Option Nat) → Int32 → Mem → Option (Unit × Mem)} (hk2 : ∀ (a0 : Option Nat) (a1 : Int32) (μ : Mem), k2 a0 a1 μ = some (rv, μ9) → V x g 3 0 0 μ 2 [(0, aR a0), (1, aI a1)] []) {a0 : Option Nat} {a1 : Int32} {μ : Mem} (h : H_X2_chooseRunning_2 N k2 a0 a1 μ = some (rv, μ9)) : V x g 3 0 0 μ 2 [(0, aR a0), (1, aI a1)] [] := by
  unfold H_X2_chooseRunning_2 at h
  refine v_iload_n C dX2_chooseRunning_2 rfl ?_
  refine v_aload_n C dX2_chooseRunning_3 rfl ?_
  obtain ⟨v, e, h⟩ := ob h
  refine v_getR C dX2_chooseRunning_4 gf_X2_67 e ?_
  obtain ⟨v, e, h⟩ := ob h
  refine v_getI C dX2_chooseRunning_7 gf_X2_241 e ?_
  refine v_icmp_ge (tgt := 72) C dX2_chooseRunning_10 (by decide) (fun c => ?_) (fun c => ?_)
  · replace h := ifT h c
    exact v_vret C F ⟨rfl, rfl, Nat.le_refl _⟩ dX2_chooseRunning_72 h
  · replace h := ifF h c
    refine v_aload_n C dX2_chooseRunning_13 rfl ?_
    obtain ⟨v, e, h⟩ := ob h
    refine v_getR C dX2_chooseRunning_14 gf_X2_67 e ?_
    refine v_iload_n C dX2_chooseRunning_17 rfl ?_
    obtain ⟨b, e0, h⟩ := ob h
    obtain ⟨q, e, h⟩ := ob h
    refine v_callV (As := [_]) C dX2_chooseRunning_18 cf_X2_242 (rm_X2_chooseRunning_X5_at) ⟨rfl, rfl⟩ e0 rfl (Nat.le_of_ble_eq_true rfl) (c_X5_at _ _ N _ _ _ q.1 q.2 e) ?_
    refine v_astore_n C dX2_chooseRunning_21 (by decide) ?_
    refine v_aload_n C dX2_chooseRunning_22 rfl ?_
    refine v_ifnull (tgt := 66) C dX2_chooseRunning_23 (by decide) (fun c => ?_) (fun c => ?_)
    · replace h := ifT h c
      exact v_sb (p_X2_chooseRunning_66 C F hk2 h) ⟨rfl, rfl, trivial⟩
    · replace h := ifF h c
      refine v_aload_n C dX2_chooseRunning_26 rfl ?_
      obtain ⟨v, e, h⟩ := ob h
      refine v_getR C dX2_chooseRunning_27 gf_X2_88 e ?_
      refine v_ifnull (tgt := 66) C dX2_chooseRunning_30 (by decide) (fun c => ?_) (fun c => ?_)
      · replace h := ifT h c
        exact v_sb (p_X2_chooseRunning_66 C F hk2 h) ⟨rfl, rfl, trivial⟩
      · replace h := ifF h c
        refine v_aload_n C dX2_chooseRunning_33 rfl ?_
        obtain ⟨v, e, h⟩ := ob h
        refine v_getR C dX2_chooseRunning_34 gf_X2_12 e ?_
        refine v_aload_n C dX2_chooseRunning_37 rfl ?_
        obtain ⟨b, e0, h⟩ := ob h
        obtain ⟨q, e, h⟩ := ob h
        refine v_callV (As := [_]) C dX2_chooseRunning_38 cf_X2_256 (rm_X2_chooseRunning_X1_isTakingOut) ⟨rfl, rfl⟩ e0 rfl (Nat.le_of_ble_eq_true rfl) (c_X1_isTakingOut _ _ N _ _ _ q.1 q.2 e) ?_
        refine v_if_ne (tgt := 66) C dX2_chooseRunning_41 (by decide) (fun c => ?_) (fun c => ?_)
        · replace h := ifT h c
          exact v_sb (p_X2_chooseRunning_66 C F hk2 h) ⟨rfl, rfl, trivial⟩
        · replace h := ifF h c
          refine v_aload_n C dX2_chooseRunning_44 rfl ?_
          obtain ⟨v, e, h⟩ := ob h
          refine v_getR C dX2_chooseRunning_45 gf_X2_67 e ?_
          refine v_aload_n C dX2_chooseRunning_48 rfl ?_
          obtain ⟨b, e0, h⟩ := ob h
          obtain ⟨q, e, h⟩ := ob h
          refine v_callV (As := [_]) C dX2_chooseRunning_49 cf_X2_112 (rm_X2_chooseRunning_X5_remove) ⟨rfl, rfl⟩ e0 rfl (Nat.le_of_ble_eq_true rfl) (c_X5_remove _ _ N _ _ _ q.1 q.2 e) ?_
          refine v_aload_n C dX2_chooseRunning_52 rfl ?_
          refine v_aload_n C dX2_chooseRunning_53 rfl ?_
          obtain ⟨m, e, h⟩ := ob h
          refine v_putR C dX2_chooseRunning_54 (pf_X2_29 _) rfl e ?_
          refine v_aload_n C dX2_chooseRunning_57 rfl ?_
          refine v_aload_n C dX2_chooseRunning_58 rfl ?_
          obtain ⟨v, e, h⟩ := ob h
          refine v_getI C dX2_chooseRunning_59 gf_X2_71 e ?_
          obtain ⟨m, e, h⟩ := ob h
          refine v_putI C dX2_chooseRunning_62 (pf_X2_33 _) e ?_
          exact v_vret C F ⟨rfl, rfl, Nat.le_refl _⟩ dX2_chooseRunning_65 h
set_option maxRecDepth 100000 in
set_option maxHeartbeats 4000000 in
theorem pL_X2_chooseRunning_2 {x : CX} {l : Launch} {g : CG} {rv : Unit} {μ0 μ9 : Mem} (C : Cx x l g mi_X2_chooseRunning) (F : Prom x g mi_X2_chooseRunning μ0 none μ9) (N : Nat) (n : Nat) : ∀ (a0 : Option Nat) (a1 : Int32) (μ : Mem), L_X2_chooseRunning_2 N n a0 a1 μ = some (rv, μ9) → V x g 3 0 0 μ 2 [(0, aR a0), (1, aI a1)] [] := by
  induction n with
  | zero => intro a0 a1 μ h; cases h
  | succ n ih => intro a0 a1 μ h; exact pH_X2_chooseRunning_2 C F ih h
set_option maxRecDepth 100000 in
set_option maxHeartbeats 4000000 in
theorem p_X2_chooseRunning {x : CX} {l : Launch} {g : CG} {rv : Unit} {μ0 μ9 : Mem} (C : Cx x l g mi_X2_chooseRunning) (F : Prom x g mi_X2_chooseRunning μ0 none μ9) {N : Nat} {a0 : Option Nat} {μ : Mem} (h : f_X2_chooseRunning N a0 μ = some (rv, μ9)) : V x g 3 0 0 μ 0 [(0, aR a0)] [] := by
  unfold f_X2_chooseRunning at h
  refine v_iconst (v := 0) C dX2_chooseRunning_0 rfl ?_
  refine v_istore_n C dX2_chooseRunning_1 (by decide) ?_
  exact v_sb (pL_X2_chooseRunning_2 C F N N _ _ _ h) ⟨rfl, rfl, trivial⟩
set_option maxRecDepth 100000 in
set_option maxHeartbeats 4000000 in
theorem c_X2_chooseRunning (l : Launch) (g : CG) (N : Nat) (a0 : Option Nat) (μ : Mem) (rv : Unit) (μ9 : Mem) (h : f_X2_chooseRunning N a0 μ = some (rv, μ9)) : Ct l yX2_chooseRunning mi_X2_chooseRunning g [aR a0] μ none μ9 := ct_of ⟨by decide, rfl, rfl⟩ (Nat.le_of_ble_eq_true rfl) fun x C F => p_X2_chooseRunning C F h
