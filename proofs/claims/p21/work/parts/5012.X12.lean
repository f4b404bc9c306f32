/-! LAYER 1, ShareEightModel: step, processes, tick, run, user (by program) -/
def f_X12_step_139 (N : Nat) (a0 : Option Nat) (a1 : Int32) (a4 : Int32) (μ : Mem) : Option (Unit × Mem) :=
  if ¬ a4 = 0 then
    (mfR μ a0 12 48).bind fun v1 =>
    (maI μ 0 v1 a1).bind fun v2 =>
    (mbI μ 0 v1 a1 (v2 + 1)).bind fun μ3 =>
    (mfI μ3 a0 12 75).bind fun v4 =>
    (mpI μ3 a0 12 75 (v4 + 1)).bind fun μ5 =>
    some ((), μ5)
  else
    some ((), μ)
def f_X12_step (N : Nat) (a0 : Option Nat) (a1 : Int32) (μ : Mem) : Option (Unit × Mem) :=
  (mfR μ a0 12 45).bind fun v1 =>
  (maI μ 0 v1 a1).bind fun v2 =>
  (mck μ a0 12).bind fun b4 =>
  (f_X12_load N (some b4) a1 v2 μ).bind fun q3 =>
  (mpI q3.2 a0 12 78 q3.1).bind fun μ5 =>
  (mck μ5 a0 12).bind fun b7 =>
  (f_X12_isWrong N (some b7) μ5).bind fun q6 =>
  if q6.1 = 0 then
    (mck q6.2 a0 12).bind fun b9 =>
    (f_X12_mustWait N (some b9) a1 q6.2).bind fun q8 =>
    if q8.1 = 0 then
      (mfR q8.2 a0 12 45).bind fun v10 =>
      (mbI q8.2 0 v10 a1 ((v2 + 1) &&& 4095)).bind fun μ11 =>
      (mfI μ11 a0 12 78).bind fun v12 =>
      if (6 : Int32) ≤ (v12 >>> ((9 : Int32) &&& 31)) then
        if ¬ (v12 >>> ((9 : Int32) &&& 31)) = (6 : Int32) then
          (mfI μ11 a0 12 78).bind fun v13 =>
          if ¬ (v13 &&& 256) = 0 then
            (mfI μ11 a0 12 78).bind fun v14 =>
            if ¬ (v14 &&& 1) = 0 then
              (mck μ11 a0 12).bind fun b16 =>
              (f_X12_third N (some b16) a1 μ11).bind fun q15 =>
              f_X12_step_139 N a0 a1 1 q15.2
            else
              (mck μ11 a0 12).bind fun b18 =>
              (f_X12_second N (some b18) a1 μ11).bind fun q17 =>
              f_X12_step_139 N a0 a1 1 q17.2
          else
            (mck μ11 a0 12).bind fun b20 =>
            (f_X12_first N (some b20) a1 μ11).bind fun q19 =>
            f_X12_step_139 N a0 a1 1 q19.2
        else
          (mck μ11 a0 12).bind fun b22 =>
          (f_X12_device N (some b22) a1 μ11).bind fun q21 =>
          f_X12_step_139 N a0 a1 q21.1 q21.2
      else
        (mck μ11 a0 12).bind fun b24 =>
        (f_X12_memory_ N (some b24) a1 (v12 >>> ((9 : Int32) &&& 31)) v2 μ11).bind fun q23 =>
        f_X12_step_139 N a0 a1 1 q23.2
    else
      some ((), q8.2)
  else
    (mfR q6.2 a0 12 42).bind fun v25 =>
    (mbI q6.2 0 v25 a1 7).bind fun μ26 =>
    some ((), μ26)
set_option maxRecDepth 100000 in
set_option maxHeartbeats 4000000 in
theorem p_X12_step_139 {x : CX} {l : Launch} {g : CG} {rv : Unit} {μ0 μ9 : Mem} (C : Cx x l g mi_X12_step) (F : Prom x g mi_X12_step μ0 none μ9) {N : Nat} {a0 : Option Nat} {a1 : Int32} {a4 : Int32} {μ : Mem} (h : f_X12_step_139 N a0 a1 a4 μ = some (rv, μ9)) : V x g 5 0 0 μ 139 [(0, aR a0), (1, aI a1), (4, aI a4)] [] := by
  unfold f_X12_step_139 at h
  refine v_iload C dX12_step_139 rfl ?_
  refine v_if_ne (tgt := 145) C dX12_step_141 (by decide) (fun c => ?_) (fun c => ?_)
  · replace h := ifT h c
    refine v_aload_n C dX12_step_145 rfl ?_
    obtain ⟨v, e, h⟩ := ob h
    refine v_getR C dX12_step_146 gf_X12_296 e ?_
    refine v_iload_n C dX12_step_149 rfl ?_
    refine v_dup2 C dX12_step_150 rfl rfl ?_
    obtain ⟨v, e, h⟩ := ob h
    refine v_iaload C dX12_step_151 e ?_
    refine v_iconst (v := 1) C dX12_step_152 rfl ?_
    refine v_iadd C dX12_step_153 ?_
    obtain ⟨m, e, h⟩ := ob h
    refine v_iastore C dX12_step_154 e ?_
    refine v_aload_n C dX12_step_155 rfl ?_
    refine v_dup C dX12_step_156 rfl ?_
    obtain ⟨v, e, h⟩ := ob h
    refine v_getI C dX12_step_157 gf_X12_372 e ?_
    refine v_iconst (v := 1) C dX12_step_160 rfl ?_
    refine v_iadd C dX12_step_161 ?_
    obtain ⟨m, e, h⟩ := ob h
    refine v_putI C dX12_step_162 (pf_X12_372 _) e ?_
    exact v_vret C F ⟨rfl, rfl, Nat.le_refl _⟩ dX12_step_165 h
  · replace h := ifF h c
    exact v_vret C F ⟨rfl, rfl, Nat.le_refl _⟩ dX12_step_144 h
set_option maxRecDepth 100000 in
set_option maxHeartbeats 4000000 in
theorem p_X12_step {x : CX} {l : Launch} {g : CG} {rv : Unit} {μ0 μ9 : Mem} (C : Cx x l g mi_X12_step) (F : Prom x g mi_X12_step μ0 none μ9) {N : Nat} {a0 : Option Nat} {a1 : Int32} {μ : Mem} (h : f_X12_step N a0 a1 μ = some (rv, μ9)) : V x g 5 0 0 μ 0 [(0, aR a0), (1, aI a1)] [] := by
  unfold f_X12_step at h
  refine v_aload_n C dX12_step_0 rfl ?_
  obtain ⟨v, e, h⟩ := ob h
  refine v_getR C dX12_step_1 gf_X12_287 e ?_
  refine v_iload_n C dX12_step_4 rfl ?_
  obtain ⟨v, e, h⟩ := ob h
  refine v_iaload C dX12_step_5 e ?_
  refine v_istore_n C dX12_step_6 (by decide) ?_
  refine v_aload_n C dX12_step_7 rfl ?_
  refine v_aload_n C dX12_step_8 rfl ?_
  refine v_iload_n C dX12_step_9 rfl ?_
  refine v_iload_n C dX12_step_10 rfl ?_
  obtain ⟨b, e0, h⟩ := ob h
  obtain ⟨q, e, h⟩ := ob h
  refine v_callV (As := [_, _]) C dX12_step_11 cf_X12_399 (rm_X12_step_X12_load) ⟨rfl, rfl⟩ e0 rfl (Nat.le_of_ble_eq_true rfl) (c_X12_load _ _ N _ _ _ _ q.1 q.2 e) ?_
  obtain ⟨m, e, h⟩ := ob h
  refine v_putI C dX12_step_14 (pf_X12_438 _) e ?_
  refine v_aload_n C dX12_step_17 rfl ?_
  obtain ⟨b, e0, h⟩ := ob h
  obtain ⟨q, e, h⟩ := ob h
  refine v_callV (As := []) C dX12_step_18 cf_X12_441 (rm_X12_step_X12_isWrong) ⟨rfl, rfl⟩ e0 rfl (Nat.le_of_ble_eq_true rfl) (c_X12_isWrong _ _ N _ _ q.1 q.2 e) ?_
  refine v_if_eq (tgt := 33) C dX12_step_21 (by decide) (fun c => ?_) (fun c => ?_)
  · replace h := ifT h c
    refine v_aload_n C dX12_step_33 rfl ?_
    refine v_iload_n C dX12_step_34 rfl ?_
    obtain ⟨b, e0, h⟩ := ob h
    obtain ⟨q, e, h⟩ := ob h
    refine v_callV (As := [_]) C dX12_step_35 cf_X12_444 (rm_X12_step_X12_mustWait) ⟨rfl, rfl⟩ e0 rfl (Nat.le_of_ble_eq_true rfl) (c_X12_mustWait _ _ N _ _ _ q.1 q.2 e) ?_
    refine v_if_eq (tgt := 42) C dX12_step_38 (by decide) (fun c => ?_) (fun c => ?_)
    · replace h := ifT h c
      refine v_aload_n C dX12_step_42 rfl ?_
      obtain ⟨v, e, h⟩ := ob h
      refine v_getR C dX12_step_43 gf_X12_287 e ?_
      refine v_iload_n C dX12_step_46 rfl ?_
      refine v_iload_n C dX12_step_47 rfl ?_
      refine v_iconst (v := 1) C dX12_step_48 rfl ?_
      refine v_iadd C dX12_step_49 ?_
      refine v_sipush (v := 4095) C dX12_step_50 rfl ?_
      refine v_iand C dX12_step_53 ?_
      obtain ⟨m, e, h⟩ := ob h
      refine v_iastore C dX12_step_54 e ?_
      refine v_aload_n C dX12_step_55 rfl ?_
      obtain ⟨v, e, h⟩ := ob h
      refine v_getI C dX12_step_56 gf_X12_438 e ?_
      refine v_bipush (v := 9) C dX12_step_59 rfl ?_
      refine v_ishr C dX12_step_61 ?_
      refine v_istore_n C dX12_step_62 (by decide) ?_
      refine v_iconst (v := 1) C dX12_step_63 rfl ?_
      refine v_istore C dX12_step_64 (by decide) ?_
      refine v_iload_n C dX12_step_66 rfl ?_
      refine v_bipush (v := 6) C dX12_step_67 rfl ?_
      refine v_icmp_ge (tgt := 82) C dX12_step_69 (by decide) (fun c => ?_) (fun c => ?_)
      · replace h := ifT h c
        refine v_iload_n C dX12_step_82 rfl ?_
        refine v_bipush (v := 6) C dX12_step_83 rfl ?_
        refine v_icmp_ne (tgt := 98) C dX12_step_85 (by decide) (fun c => ?_) (fun c => ?_)
        · replace h := ifT h c
          refine v_aload_n C dX12_step_98 rfl ?_
          obtain ⟨v, e, h⟩ := ob h
          refine v_getI C dX12_step_99 gf_X12_438 e ?_
          refine v_sipush (v := 256) C dX12_step_102 rfl ?_
          refine v_iand C dX12_step_105 ?_
          refine v_if_ne (tgt := 117) C dX12_step_106 (by decide) (fun c => ?_) (fun c => ?_)
          · replace h := ifT h c
            refine v_aload_n C dX12_step_117 rfl ?_
            obtain ⟨v, e, h⟩ := ob h
            refine v_getI C dX12_step_118 gf_X12_438 e ?_
            refine v_iconst (v := 1) C dX12_step_121 rfl ?_
            refine v_iand C dX12_step_122 ?_
            refine v_if_ne (tgt := 134) C dX12_step_123 (by decide) (fun c => ?_) (fun c => ?_)
            · replace h := ifT h c
              refine v_aload_n C dX12_step_134 rfl ?_
              refine v_iload_n C dX12_step_135 rfl ?_
              obtain ⟨b, e0, h⟩ := ob h
              obtain ⟨q, e, h⟩ := ob h
              refine v_callV (As := [_]) C dX12_step_136 cf_X12_457 (rm_X12_step_X12_third) ⟨rfl, rfl⟩ e0 rfl (Nat.le_of_ble_eq_true rfl) (c_X12_third _ _ N _ _ _ q.1 q.2 e) ?_
              exact v_sb (p_X12_step_139 C F h) ⟨rfl, rfl, rfl, trivial⟩
            · replace h := ifF h c
              refine v_aload_n C dX12_step_126 rfl ?_
              refine v_iload_n C dX12_step_127 rfl ?_
              obtain ⟨b, e0, h⟩ := ob h
              obtain ⟨q, e, h⟩ := ob h
              refine v_callV (As := [_]) C dX12_step_128 cf_X12_455 (rm_X12_step_X12_second) ⟨rfl, rfl⟩ e0 rfl (Nat.le_of_ble_eq_true rfl) (c_X12_second _ _ N _ _ _ q.1 q.2 e) ?_
              refine v_goto (tgt := 139) C dX12_step_131 (by decide) ?_
              exact v_sb (p_X12_step_139 C F h) ⟨rfl, rfl, rfl, trivial⟩
          · replace h := ifF h c
            refine v_aload_n C dX12_step_109 rfl ?_
            refine v_iload_n C dX12_step_110 rfl ?_
            obtain ⟨b, e0, h⟩ := ob h
            obtain ⟨q, e, h⟩ := ob h
            refine v_callV (As := [_]) C dX12_step_111 cf_X12_452 (rm_X12_step_X12_first) ⟨rfl, rfl⟩ e0 rfl (Nat.le_of_ble_eq_true rfl) (c_X12_first _ _ N _ _ _ q.1 q.2 e) ?_
            refine v_goto (tgt := 139) C dX12_step_114 (by decide) ?_
            exact v_sb (p_X12_step_139 C F h) ⟨rfl, rfl, rfl, trivial⟩
        · replace h := ifF h c
          refine v_aload_n C dX12_step_88 rfl ?_
          refine v_iload_n C dX12_step_89 rfl ?_
          obtain ⟨b, e0, h⟩ := ob h
          obtain ⟨q, e, h⟩ := ob h
          refine v_callV (As := [_]) C dX12_step_90 cf_X12_449 (rm_X12_step_X12_device) ⟨rfl, rfl⟩ e0 rfl (Nat.le_of_ble_eq_true rfl) (c_X12_device _ _ N _ _ _ q.1 q.2 e) ?_
          refine v_istore C dX12_step_93 (by decide) ?_
          refine v_goto (tgt := 139) C dX12_step_95 (by decide) ?_
          exact v_sb (p_X12_step_139 C F h) ⟨rfl, rfl, rfl, trivial⟩
      · replace h := ifF h c
        refine v_aload_n C dX12_step_72 rfl ?_
        refine v_iload_n C dX12_step_73 rfl ?_
        refine v_iload_n C dX12_step_74 rfl ?_
        refine v_iload_n C dX12_step_75 rfl ?_
        obtain ⟨b, e0, h⟩ := ob h
        obtain ⟨q, e, h⟩ := ob h
        refine v_callV (As := [_, _, _]) C dX12_step_76 cf_X12_447 (rm_X12_step_X12_memory_) ⟨rfl, rfl⟩ e0 rfl (Nat.le_of_ble_eq_true rfl) (c_X12_memory_ _ _ N _ _ _ _ _ q.1 q.2 e) ?_
        refine v_goto (tgt := 139) C dX12_step_79 (by decide) ?_
        exact v_sb (p_X12_step_139 C F h) ⟨rfl, rfl, rfl, trivial⟩
    · replace h := ifF h c
      exact v_vret C F ⟨rfl, rfl, Nat.le_refl _⟩ dX12_step_41 h
  · replace h := ifF h c
    refine v_aload_n C dX12_step_24 rfl ?_
    obtain ⟨v, e, h⟩ := ob h
    refine v_getR C dX12_step_25 gf_X12_278 e ?_
    refine v_iload_n C dX12_step_28 rfl ?_
    refine v_bipush (v := 7) C dX12_step_29 rfl ?_
    obtain ⟨m, e, h⟩ := ob h
    refine v_iastore C dX12_step_31 e ?_
    exact v_vret C F ⟨rfl, rfl, Nat.le_refl _⟩ dX12_step_32 h
set_option maxRecDepth 100000 in
set_option maxHeartbeats 4000000 in
theorem c_X12_step (l : Launch) (g : CG) (N : Nat) (a0 : Option Nat) (a1 : Int32) (μ : Mem) (rv : Unit) (μ9 : Mem) (h : f_X12_step N a0 a1 μ = some (rv, μ9)) : Ct l yX12_step mi_X12_step g [aR a0, aI a1] μ none μ9 := ct_of ⟨by decide, rfl, rfl⟩ (Nat.le_of_ble_eq_true rfl) fun x C F => p_X12_step C F h
def f_X12_processes_105 (N : Nat) (a0 : Option Nat) (μ : Mem) : Option (Unit × Mem) :=
  (mfI μ a0 12 64).bind fun v1 =>
  (mck μ a0 12).bind fun b3 =>
  (f_X12_step N (some b3) v1 μ).bind fun q2 =>
  (mfI q2.2 a0 12 65).bind fun v4 =>
  (mpI q2.2 a0 12 65 (v4 - 1)).bind fun μ5 =>
  (mfR μ5 a0 12 42).bind fun v6 =>
  (maI μ5 0 v6 v1).bind fun v7 =>
  if v7 = (1 : Int32) then
    (mfI μ5 a0 12 65).bind fun v8 =>
    if v8 ≤ 0 then
      (mfR μ5 a0 12 40).bind fun v9 =>
      (mfR μ5 a0 12 41).bind fun v10 =>
      (maI μ5 0 v10 v1).bind fun v11 =>
      (mbZ μ5 2 v9 v11 1).bind fun μ12 =>
      (mfI μ12 a0 12 63).bind fun v13 =>
      if ¬ v13 = 0 then
        (mpI μ12 a0 12 64 ((-1))).bind fun μ14 =>
        (mck μ14 a0 12).bind fun b16 =>
        (f_X12_becomesReady N (some b16) v1 μ14).bind fun q15 =>
        some ((), q15.2)
      else
        (mfI μ12 a0 12 33).bind fun v17 =>
        (mpI μ12 a0 12 65 v17).bind fun μ18 =>
        some ((), μ18)
    else
      some ((), μ5)
  else
    (mfR μ5 a0 12 40).bind fun v19 =>
    (mfR μ5 a0 12 41).bind fun v20 =>
    (maI μ5 0 v20 v1).bind fun v21 =>
    (mbZ μ5 2 v19 v21 1).bind fun μ22 =>
    (mpI μ22 a0 12 64 ((-1))).bind fun μ23 =>
    some ((), μ23)
def f_X12_processes_70 (N : Nat) (a0 : Option Nat) (μ : Mem) : Option (Unit × Mem) :=
  (mfI μ a0 12 64).bind fun v1 =>
  if ¬ v1 = (((-1)) : Int32) then
    (mfI μ a0 12 64).bind fun v2 =>
    (mck μ a0 12).bind fun b4 =>
    (f_X12_leavesQueue N (some b4) v2 μ).bind fun q3 =>
    (mfI q3.2 a0 12 33).bind fun v5 =>
    (mpI q3.2 a0 12 65 v5).bind fun μ6 =>
    f_X12_processes_105 N a0 μ6
  else
    (mfI μ a0 12 74).bind fun v7 =>
    (mpI μ a0 12 74 (v7 + 1)).bind fun μ8 =>
    some ((), μ8)
def f_X12_processes_64 (N : Nat) (k10 : (Option Nat) → Int32 → Mem → Option (Unit × Mem)) (a0 : Option Nat) (a1 : Int32) (μ : Mem) : Option (Unit × Mem) :=
  k10 a0 (a1 + 1) μ
def f_X12_processes_59 (N : Nat) (k10 : (Option Nat) → Int32 → Mem → Option (Unit × Mem)) (a0 : Option Nat) (a1 : Int32) (a2 : Int32) (μ : Mem) : Option (Unit × Mem) :=
  (mpI μ a0 12 64 a2).bind fun μ1 =>
  f_X12_processes_64 N k10 a0 a1 μ1
def H_X12_processes_10 (N : Nat) (k10 : (Option Nat) → Int32 → Mem → Option (Unit × Mem)) (a0 : Option Nat) (a1 : Int32) (μ : Mem) : Option (Unit × Mem) :=
  (mfI μ a0 12 63).bind fun v1 =>
  if v1 ≤ a1 then
    f_X12_processes_70 N a0 μ
  else
    (mfI μ a0 12 64).bind fun v2 =>
    if ¬ v2 = (((-1)) : Int32) then
      f_X12_processes_70 N a0 μ
    else
      (mfR μ a0 12 62).bind fun v3 =>
      (maI μ 0 v3 a1).bind fun v4 =>
      (mfR μ a0 12 41).bind fun v5 =>
      (maI μ 0 v5 v4).bind fun v6 =>
      if v6 = (((-1)) : Int32) then
        f_X12_processes_64 N k10 a0 a1 μ
      else
        (mfI μ a0 12 67).bind fun v7 =>
        if ¬ v7 = (1 : Int32) then
          f_X12_processes_59 N k10 a0 a1 v4 μ
        else
          (mfI μ a0 12 68).bind fun v8 =>
          if v8 = v4 then
            f_X12_processes_64 N k10 a0 a1 μ
          else
            f_X12_processes_59 N k10 a0 a1 v4 μ
def L_X12_processes_10 (N : Nat) : Nat → (Option Nat) → Int32 → Mem → Option (Unit × Mem)
  | 0 => fun _ _ _ => none
  | n + 1 => H_X12_processes_10 N (L_X12_processes_10 N n)
def f_X12_processes (N : Nat) (a0 : Option Nat) (μ : Mem) : Option (Unit × Mem) :=
  (mfI μ a0 12 64).bind fun v1 =>
  if ¬ v1 = (((-1)) : Int32) then
    f_X12_processes_105 N a0 μ
  else
    L_X12_processes_10 N N a0 0 μ
set_option maxRecDepth 100000 in
set_option maxHeartbeats 4000000 in
theorem p_X12_processes_105 {x : CX} {l : Launch} {g : CG} {rv : Unit} {μ0 μ9 : Mem} (C : Cx x l g mi_X12_processes) (F : Prom x g mi_X12_processes μ0 none μ9) {N : Nat} {a0 : Option Nat} {μ : Mem} (h : f_X12_processes_105 N a0 μ = some (rv, μ9)) : V x g 3 0 0 μ 105 [(0, aR a0)] [] := by
  unfold f_X12_processes_105 at h
  refine v_aload_n C dX12_processes_105 rfl ?_
  obtain ⟨v, e, h⟩ := ob h
  refine v_getI C dX12_processes_106 gf_X12_237 e ?_
  refine v_istore_n C dX12_processes_109 (by decide) ?_
  refine v_aload_n C dX12_processes_110 rfl ?_
  refine v_iload_n C dX12_processes_111 rfl ?_
  obtain ⟨b, e0, h⟩ := ob h
  obtain ⟨q, e, h⟩ := ob h
  refine v_callV (As := [_]) C dX12_processes_112 cf_X12_435 (rm_X12_processes_X12_step) ⟨rfl, rfl⟩ e0 rfl (Nat.le_of_ble_eq_true rfl) (c_X12_step _ _ N _ _ _ q.1 q.2 e) ?_
  refine v_aload_n C dX12_processes_115 rfl ?_
  refine v_dup C dX12_processes_116 rfl ?_
  obtain ⟨v, e, h⟩ := ob h
  refine v_getI C dX12_processes_117 gf_X12_432 e ?_
  refine v_iconst (v := 1) C dX12_processes_120 rfl ?_
  refine v_isub C dX12_processes_121 ?_
  obtain ⟨m, e, h⟩ := ob h
  refine v_putI C dX12_processes_122 (pf_X12_432 _) e ?_
  refine v_aload_n C dX12_processes_125 rfl ?_
  obtain ⟨v, e, h⟩ := ob h
  refine v_getR C dX12_processes_126 gf_X12_278 e ?_
  refine v_iload_n C dX12_processes_129 rfl ?_
  obtain ⟨v, e, h⟩ := ob h
  refine v_iaload C dX12_processes_130 e ?_
  refine v_iconst (v := 1) C dX12_processes_131 rfl ?_
  refine v_icmp_eq (tgt := 153) C dX12_processes_132 (by decide) (fun c => ?_) (fun c => ?_)
  · replace h := ifT h c
    refine v_aload_n C dX12_processes_153 rfl ?_
    obtain ⟨v, e, h⟩ := ob h
    refine v_getI C dX12_processes_154 gf_X12_432 e ?_
    refine v_if_le (tgt := 161) C dX12_processes_157 (by decide) (fun c => ?_) (fun c => ?_)
    · replace h := ifT h c
      refine v_aload_n C dX12_processes_161 rfl ?_
      obtain ⟨v, e, h⟩ := ob h
      refine v_getR C dX12_processes_162 gf_X12_272 e ?_
      refine v_aload_n C dX12_processes_165 rfl ?_
      obtain ⟨v, e, h⟩ := ob h
      refine v_getR C dX12_processes_166 gf_X12_275 e ?_
      refine v_iload_n C dX12_processes_169 rfl ?_
      obtain ⟨v, e, h⟩ := ob h
      refine v_iaload C dX12_processes_170 e ?_
      refine v_iconst (v := 1) C dX12_processes_171 rfl ?_
      obtain ⟨m, e, h⟩ := ob h
      refine v_bastore C dX12_processes_172 e ?_
      refine v_aload_n C dX12_processes_173 rfl ?_
      obtain ⟨v, e, h⟩ := ob h
      refine v_getI C dX12_processes_174 gf_X12_338 e ?_
      refine v_if_ne (tgt := 189) C dX12_processes_177 (by decide) (fun c => ?_) (fun c => ?_)
      · replace h := ifT h c
        refine v_aload_n C dX12_processes_189 rfl ?_
        refine v_iconst (v := -1) C dX12_processes_190 rfl ?_
        obtain ⟨m, e, h⟩ := ob h
        refine v_putI C dX12_processes_191 (pf_X12_237 _) e ?_
        refine v_aload_n C dX12_processes_194 rfl ?_
        refine v_iload_n C dX12_processes_195 rfl ?_
        obtain ⟨b, e0, h⟩ := ob h
        obtain ⟨q, e, h⟩ := ob h
        refine v_callV (As := [_]) C dX12_processes_196 cf_X12_362 (rm_X12_processes_X12_becomesReady) ⟨rfl, rfl⟩ e0 rfl (Nat.le_of_ble_eq_true rfl) (c_X12_becomesReady _ _ N _ _ _ q.1 q.2 e) ?_
        exact v_vret C F ⟨rfl, rfl, Nat.le_refl _⟩ dX12_processes_199 h
      · replace h := ifF h c
        refine v_aload_n C dX12_processes_180 rfl ?_
        refine v_aload_n C dX12_processes_181 rfl ?_
        obtain ⟨v, e, h⟩ := ob h
        refine v_getI C dX12_processes_182 gf_X12_249 e ?_
        obtain ⟨m, e, h⟩ := ob h
        refine v_putI C dX12_processes_185 (pf_X12_432 _) e ?_
        exact v_vret C F ⟨rfl, rfl, Nat.le_refl _⟩ dX12_processes_188 h
    · replace h := ifF h c
      exact v_vret C F ⟨rfl, rfl, Nat.le_refl _⟩ dX12_processes_160 h
  · replace h := ifF h c
    refine v_aload_n C dX12_processes_135 rfl ?_
    obtain ⟨v, e, h⟩ := ob h
    refine v_getR C dX12_processes_136 gf_X12_272 e ?_
    refine v_aload_n C dX12_processes_139 rfl ?_
    obtain ⟨v, e, h⟩ := ob h
    refine v_getR C dX12_processes_140 gf_X12_275 e ?_
    refine v_iload_n C dX12_processes_143 rfl ?_
    obtain ⟨v, e, h⟩ := ob h
    refine v_iaload C dX12_processes_144 e ?_
    refine v_iconst (v := 1) C dX12_processes_145 rfl ?_
    obtain ⟨m, e, h⟩ := ob h
    refine v_bastore C dX12_processes_146 e ?_
    refine v_aload_n C dX12_processes_147 rfl ?_
    refine v_iconst (v := -1) C dX12_processes_148 rfl ?_
    obtain ⟨m, e, h⟩ := ob h
    refine v_putI C dX12_processes_149 (pf_X12_237 _) e ?_
    exact v_vret C F ⟨rfl, rfl, Nat.le_refl _⟩ dX12_processes_152 h
set_option maxRecDepth 100000 in
set_option maxHeartbeats 4000000 in
theorem p_X12_processes_70 {x : CX} {l : Launch} {g : CG} {rv : Unit} {μ0 μ9 : Mem} (C : Cx x l g mi_X12_processes) (F : Prom x g mi_X12_processes μ0 none μ9) {N : Nat} {a0 : Option Nat} {μ : Mem} (h : f_X12_processes_70 N a0 μ = some (rv, μ9)) : V x g 3 0 0 μ 70 [(0, aR a0)] [] := by
  unfold f_X12_processes_70 at h
  refine v_aload_n C dX12_processes_70 rfl ?_
  obtain ⟨v, e, h⟩ := ob h
  refine v_getI C dX12_processes_71 gf_X12_237 e ?_
  refine v_iconst (v := -1) C dX12_processes_74 rfl ?_
  refine v_icmp_ne (tgt := 89) C dX12_processes_75 (by decide) (fun c => ?_) (fun c => ?_)
  · replace h := ifT h c
    refine v_aload_n C dX12_processes_89 rfl ?_
    refine v_aload_n C dX12_processes_90 rfl ?_
    obtain ⟨v, e, h⟩ := ob h
    refine v_getI C dX12_processes_91 gf_X12_237 e ?_
    obtain ⟨b, e0, h⟩ := ob h
    obtain ⟨q, e, h⟩ := ob h
    refine v_callV (As := [_]) C dX12_processes_94 cf_X12_365 (rm_X12_processes_X12_leavesQueue) ⟨rfl, rfl⟩ e0 rfl (Nat.le_of_ble_eq_true rfl) (c_X12_leavesQueue _ _ N _ _ _ q.1 q.2 e) ?_
    refine v_aload_n C dX12_processes_97 rfl ?_
    refine v_aload_n C dX12_processes_98 rfl ?_
    obtain ⟨v, e, h⟩ := ob h
    refine v_getI C dX12_processes_99 gf_X12_249 e ?_
    obtain ⟨m, e, h⟩ := ob h
    refine v_putI C dX12_processes_102 (pf_X12_432 _) e ?_
    exact v_sb (p_X12_processes_105 C F h) ⟨rfl, trivial⟩
  · replace h := ifF h c
    refine v_aload_n C dX12_processes_78 rfl ?_
    refine v_dup C dX12_processes_79 rfl ?_
    obtain ⟨v, e, h⟩ := ob h
    refine v_getI C dX12_processes_80 gf_X12_429 e ?_
    refine v_iconst (v := 1) C dX12_processes_83 rfl ?_
    refine v_iadd C dX12_processes_84 ?_
    obtain ⟨m, e, h⟩ := ob h
    refine v_putI C dX12_processes_85 (pf_X12_429 _) e ?_
    exact v_vret C F ⟨rfl, rfl, Nat.le_refl _⟩ dX12_processes_88 h
set_option maxRecDepth 100000 in
set_option maxHeartbeats 4000000 in
theorem p_X12_processes_64 {x : CX} {l : Launch} {g : CG} {rv : Unit} {μ0 μ9 : Mem} (C : Cx x l g mi_X12_processes) (F : Prom x g mi_X12_processes μ0 none μ9) {N : Nat} {k10 : (Option Nat) → Int32 → Mem → Option (Unit × Mem)} (hk10 : ∀ (a0 : Option Nat) (a1 : Int32) (μ : Mem), k10 a0 a1 μ = some (rv, μ9) → V x g 3 0 0 μ 10 [(0, aR a0), (1, aI a1)] []) {a0 : Option Nat} {a1 : Int32} {μ : Mem} (h : f_X12_processes_64 N k10 a0 a1 μ = some (rv, μ9)) : V x g 3 0 0 μ 64 [(0, aR a0), (1, aI a1)] [] := by
  unfold f_X12_processes_64 at h
  refine v_iinc (w := 1) C dX12_processes_64 rfl rfl (by decide) ?_
  refine v_goto (tgt := 10) C dX12_processes_67 (by decide) ?_
  exact v_sb (hk10 _ _ _ h) ⟨rfl, rfl, trivial⟩
set_option maxRecDepth 100000 in
set_option maxHeartbeats 4000000 in
theorem p_X12_processes_59 {x : CX} {l : Launch} {g : CG} {rv : Unit} {μ0 μ9 : Mem} (C : Cx x l g mi_X12_processes) (F : Prom x g mi_X12_processes μ0 none μ9) {N : Nat} {k10 : (Option Nat) → Int32 → Mem → Option (Unit × Mem)} (hk10 : ∀ (a0 : Option Nat) (a1 : Int32) (μ : Mem), k10 a0 a1 μ = some (rv, μ9) → V x g 3 0 0 μ 10 [(0, aR a0), (1, aI a1)] []) {a0 : Option Nat} {a1 : Int32} {a2 : Int32} {μ : Mem} (h : f_X12_processes_59 N k10 a0 a1 a2 μ = some (rv, μ9)) : V x g 3 0 0 μ 59 [(0, aR a0), (1, aI a1), (2, aI a2)] [] := by
  unfold f_X12_processes_59 at h
  refine v_aload_n C dX12_processes_59 rfl ?_
  refine v_iload_n C dX12_processes_60 rfl ?_
  obtain ⟨m, e, h⟩ := ob h
  refine v_putI C dX12_processes_61 (pf_X12_237 _) e ?_
  exact v_sb (p_X12_processes_64 C F hk10 h) ⟨rfl, rfl, trivial⟩
set_option maxRecDepth 100000 in
set_option maxHeartbeats 4000000 in
theorem pH_X12_processes_10 {x : CX} {l : Launch} {g : CG} {rv : Unit} {μ0 μ9 : Mem} (C : Cx x l g mi_X12_processes) (F : Prom x g mi_X12_processes μ0 none μ9) {N : Nat} {k10 : (Option Nat) → Int32 → Mem → Option (Unit × Mem)} (hk10 : ∀ (a0 : Option Nat) (a1 : Int32) (μ : Mem), k10 a0 a1 μ = some (rv, μ9) → V x g 3 0 0 μ 10 [(0, aR a0), (1, aI a1)] []) {a0 : Option Nat} {a1 : Int32} {μ : Mem} (h : H_X12_processes_10 N k10 a0 a1 μ = some (rv, μ9)) : V x g 3 0 0 μ 10 [(0, aR a0), (1, aI a1)] [] := by
  unfold H_X12_processes_10 at h
  refine v_iload_n C dX12_processes_10 rfl ?_
  refine v_aload_n C dX12_processes_11 rfl ?_
  obtain ⟨v, e, h⟩ := ob h
  refine v_getI C dX12_processes_12 gf_X12_338 e ?_
  refine v_icmp_ge (tgt := 70) C dX12_processes_15 (by decide) (fun c => ?_) (fun c => ?_)
  · replace h := ifT h c
    exact v_sb (p_X12_processes_70 C F h) ⟨rfl, trivial⟩
  · replace h := ifF h c
    refine v_aload_n C dX12_processes_18 rfl ?_
    obtain ⟨v, e, h⟩ := ob h
    refine v_getI C dX12_processes_19 gf_X12_237 e ?_
    refine v_iconst (v := -1) C dX12_processes_22 rfl ?_
    refine v_icmp_ne (tgt := 70) C dX12_processes_23 (by decide) (fun c => ?_) (fun c => ?_)
    · replace h := ifT h c
      exact v_sb (p_X12_processes_70 C F h) ⟨rfl, trivial⟩
    · replace h := ifF h c
      refine v_aload_n C dX12_processes_26 rfl ?_
      obtain ⟨v, e, h⟩ := ob h
      refine v_getR C dX12_processes_27 gf_X12_234 e ?_
      refine v_iload_n C dX12_processes_30 rfl ?_
      obtain ⟨v, e, h⟩ := ob h
      refine v_iaload C dX12_processes_31 e ?_
      refine v_istore_n C dX12_processes_32 (by decide) ?_
      refine v_aload_n C dX12_processes_33 rfl ?_
      obtain ⟨v, e, h⟩ := ob h
      refine v_getR C dX12_processes_34 gf_X12_275 e ?_
      refine v_iload_n C dX12_processes_37 rfl ?_
      obtain ⟨v, e, h⟩ := ob h
      refine v_iaload C dX12_processes_38 e ?_
      refine v_iconst (v := -1) C dX12_processes_39 rfl ?_
      refine v_icmp_eq (tgt := 64) C dX12_processes_40 (by decide) (fun c => ?_) (fun c => ?_)
      · replace h := ifT h c
        exact v_sb (p_X12_processes_64 C F hk10 h) ⟨rfl, rfl, trivial⟩
      · replace h := ifF h c
        refine v_aload_n C dX12_processes_43 rfl ?_
        obtain ⟨v, e, h⟩ := ob h
        refine v_getI C dX12_processes_44 gf_X12_344 e ?_
        refine v_iconst (v := 1) C dX12_processes_47 rfl ?_
        refine v_icmp_ne (tgt := 59) C dX12_processes_48 (by decide) (fun c => ?_) (fun c => ?_)
        · replace h := ifT h c
          exact v_sb (p_X12_processes_59 C F hk10 h) ⟨rfl, rfl, rfl, trivial⟩
        · replace h := ifF h c
          refine v_aload_n C dX12_processes_51 rfl ?_
          obtain ⟨v, e, h⟩ := ob h
          refine v_getI C dX12_processes_52 gf_X12_347 e ?_
          refine v_iload_n C dX12_processes_55 rfl ?_
          refine v_icmp_eq (tgt := 64) C dX12_processes_56 (by decide) (fun c => ?_) (fun c => ?_)
          · replace h := ifT h c
            exact v_sb (p_X12_processes_64 C F hk10 h) ⟨rfl, rfl, trivial⟩
          · replace h := ifF h c
            exact v_sb (p_X12_processes_59 C F hk10 h) ⟨rfl, rfl, rfl, trivial⟩
set_option maxRecDepth 100000 in
set_option maxHeartbeats 4000000 in
theorem pL_X12_processes_10 {x : CX} {l : Launch} {g : CG} {rv : Unit} {μ0 μ9 : Mem} (C : Cx x l g mi_X12_processes) (F : Prom x g mi_X12_processes μ0 none μ9) (N : Nat) (n : Nat) : ∀ (a0 : Option Nat) (a1 : Int32) (μ : Mem), L_X12_processes_10 N n a0 a1 μ = some (rv, μ9) → V x g 3 0 0 μ 10 [(0, aR a0), (1, aI a1)] [] := by
  induction n with
  | zero => intro a0 a1 μ h; cases h
  | succ n ih => intro a0 a1 μ h; exact pH_X12_processes_10 C F ih h
set_option maxRecDepth 100000 in
set_option maxHeartbeats 4000000 in
theorem p_X12_processes {x : CX} {l : Launch} {g : CG} {rv : Unit} {μ0 μ9 : Mem} (C : Cx x l g mi_X12_processes) (F : Prom x g mi_X12_processes μ0 none μ9) {N : Nat} {a0 : Option Nat} {μ : Mem} (h : f_X12_processes N a0 μ = some (rv, μ9)) : V x g 3 0 0 μ 0 [(0, aR a0)] [] := by
  unfold f_X12_processes at h
  refine v_aload_n C dX12_processes_0 rfl ?_
  obtain ⟨v, e, h⟩ := ob h
  refine v_getI C dX12_processes_1 gf_X12_237 e ?_
  refine v_iconst (v := -1) C dX12_processes_4 rfl ?_
  refine v_icmp_ne (tgt := 105) C dX12_processes_5 (by decide) (fun c => ?_) (fun c => ?_)
  · replace h := ifT h c
    exact v_sb (p_X12_processes_105 C F h) ⟨rfl, trivial⟩
  · replace h := ifF h c
    refine v_iconst (v := 0) C dX12_processes_8 rfl ?_
    refine v_istore_n C dX12_processes_9 (by decide) ?_
    exact v_sb (pL_X12_processes_10 C F N N _ _ _ h) ⟨rfl, rfl, trivial⟩
set_option maxRecDepth 100000 in
set_option maxHeartbeats 4000000 in
theorem c_X12_processes (l : Launch) (g : CG) (N : Nat) (a0 : Option Nat) (μ : Mem) (rv : Unit) (μ9 : Mem) (h : f_X12_processes N a0 μ = some (rv, μ9)) : Ct l yX12_processes mi_X12_processes g [aR a0] μ none μ9 := ct_of ⟨by decide, rfl, rfl⟩ (Nat.le_of_ble_eq_true rfl) fun x C F => p_X12_processes C F h
def f_X12_tick_53 (N : Nat) (a0 : Option Nat) (μ : Mem) : Option (Unit × Mem) :=
  (mck μ a0 12).bind fun b2 =>
  (f_X12_processes N (some b2) μ).bind fun q1 =>
  some ((), q1.2)
def f_X12_tick_42 (N : Nat) (a0 : Option Nat) (μ : Mem) : Option (Unit × Mem) :=
  (mfI μ a0 12 67).bind fun v1 =>
  if ¬ v1 = 0 then
    f_X12_tick_53 N a0 μ
  else
    (mck μ a0 12).bind fun b3 =>
    (f_X12_looksFor N (some b3) μ).bind fun q2 =>
    f_X12_tick_53 N a0 q2.2
def H_X12_tick_12 (N : Nat) (k12 : (Option Nat) → Int32 → Mem → Option (Unit × Mem)) (a0 : Option Nat) (a1 : Int32) (μ : Mem) : Option (Unit × Mem) :=
  (mfI μ a0 12 31).bind fun v1 =>
  if v1 ≤ a1 then
    (mfI μ a0 12 67).bind fun v2 =>
    if v2 ≤ 0 then
      f_X12_tick_42 N a0 μ
    else
      (mck μ a0 12).bind fun b4 =>
      (f_X12_moves N (some b4) μ).bind fun q3 =>
      f_X12_tick_42 N a0 q3.2
  else
    (mck μ a0 12).bind fun b6 =>
    (f_X12_clocks N (some b6) a1 μ).bind fun q5 =>
    k12 a0 (a1 + 1) q5.2
def L_X12_tick_12 (N : Nat) : Nat → (Option Nat) → Int32 → Mem → Option (Unit × Mem)
  | 0 => fun _ _ _ => none
  | n + 1 => H_X12_tick_12 N (L_X12_tick_12 N n)
def f_X12_tick (N : Nat) (a0 : Option Nat) (μ : Mem) : Option (Unit × Mem) :=
  (mfI μ a0 12 66).bind fun v1 =>
  (mpI μ a0 12 66 (v1 + 1)).bind fun μ2 =>
  L_X12_tick_12 N N a0 0 μ2
set_option maxRecDepth 100000 in
set_option maxHeartbeats 4000000 in
theorem p_X12_tick_53 {x : CX} {l : Launch} {g : CG} {rv : Unit} {μ0 μ9 : Mem} (C : Cx x l g mi_X12_tick) (F : Prom x g mi_X12_tick μ0 none μ9) {N : Nat} {a0 : Option Nat} {μ : Mem} (h : f_X12_tick_53 N a0 μ = some (rv, μ9)) : V x g 2 0 0 μ 53 [(0, aR a0)] [] := by
  unfold f_X12_tick_53 at h
  refine v_aload_n C dX12_tick_53 rfl ?_
  obtain ⟨b, e0, h⟩ := ob h
  obtain ⟨q, e, h⟩ := ob h
  refine v_callV (As := []) C dX12_tick_54 cf_X12_390 (rm_X12_tick_X12_processes) ⟨rfl, rfl⟩ e0 rfl (Nat.le_of_ble_eq_true rfl) (c_X12_processes _ _ N _ _ q.1 q.2 e) ?_
  exact v_vret C F ⟨rfl, rfl, Nat.le_refl _⟩ dX12_tick_57 h
set_option maxRecDepth 100000 in
set_option maxHeartbeats 4000000 in
theorem p_X12_tick_42 {x : CX} {l : Launch} {g : CG} {rv : Unit} {μ0 μ9 : Mem} (C : Cx x l g mi_X12_tick) (F : Prom x g mi_X12_tick μ0 none μ9) {N : Nat} {a0 : Option Nat} {μ : Mem} (h : f_X12_tick_42 N a0 μ = some (rv, μ9)) : V x g 2 0 0 μ 42 [(0, aR a0)] [] := by
  unfold f_X12_tick_42 at h
  refine v_aload_n C dX12_tick_42 rfl ?_
  obtain ⟨v, e, h⟩ := ob h
  refine v_getI C dX12_tick_43 gf_X12_344 e ?_
  refine v_if_ne (tgt := 53) C dX12_tick_46 (by decide) (fun c => ?_) (fun c => ?_)
  · replace h := ifT h c
    exact v_sb (p_X12_tick_53 C F h) ⟨rfl, trivial⟩
  · replace h := ifF h c
    refine v_aload_n C dX12_tick_49 rfl ?_
    obtain ⟨b, e0, h⟩ := ob h
    obtain ⟨q, e, h⟩ := ob h
    refine v_callV (As := []) C dX12_tick_50 cf_X12_387 (rm_X12_tick_X12_looksFor) ⟨rfl, rfl⟩ e0 rfl (Nat.le_of_ble_eq_true rfl) (c_X12_looksFor _ _ N _ _ q.1 q.2 e) ?_
    exact v_sb (p_X12_tick_53 C F h) ⟨rfl, trivial⟩
set_option maxRecDepth 100000 in
set_option maxHeartbeats 4000000 in
theorem pH_X12_tick_12 {x : CX} {l : Launch} {g : CG} {rv : Unit} {μ0 μ9 : Mem} (C : Cx x l g mi_X12_tick) (F : Prom x g mi_X12_tick μ0 none μ9) {N : Nat} {k12 : (Option Nat) → Int32 → Mem → Option (Unit × Mem)} (hk12 : ∀ (a0 : Option Nat) (a1 : Int32) (μ : Mem), k12 a0 a1 μ = some (rv, μ9) → V x g 2 0 0 μ 12 [(0, aR a0), (1, aI a1)] []) {a0 : Option Nat} {a1 : Int32} {μ : Mem} (h : H_X12_tick_12 N k12 a0 a1 μ = some (rv, μ9)) : V x g 2 0 0 μ 12 [(0, aR a0), (1, aI a1)] [] := by
  unfold H_X12_tick_12 at h
  refine v_iload_n C dX12_tick_12 rfl ?_
  refine v_aload_n C dX12_tick_13 rfl ?_
  obtain ⟨v, e, h⟩ := ob h
  refine v_getI C dX12_tick_14 gf_X12_243 e ?_
  refine v_icmp_ge (tgt := 31) C dX12_tick_17 (by decide) (fun c => ?_) (fun c => ?_)
  · replace h := ifT h c
    refine v_aload_n C dX12_tick_31 rfl ?_
    obtain ⟨v, e, h⟩ := ob h
    refine v_getI C dX12_tick_32 gf_X12_344 e ?_
    refine v_if_le (tgt := 42) C dX12_tick_35 (by decide) (fun c => ?_) (fun c => ?_)
    · replace h := ifT h c
      exact v_sb (p_X12_tick_42 C F h) ⟨rfl, trivial⟩
    · replace h := ifF h c
      refine v_aload_n C dX12_tick_38 rfl ?_
      obtain ⟨b, e0, h⟩ := ob h
      obtain ⟨q, e, h⟩ := ob h
      refine v_callV (As := []) C dX12_tick_39 cf_X12_384 (rm_X12_tick_X12_moves) ⟨rfl, rfl⟩ e0 rfl (Nat.le_of_ble_eq_true rfl) (c_X12_moves _ _ N _ _ q.1 q.2 e) ?_
      exact v_sb (p_X12_tick_42 C F h) ⟨rfl, trivial⟩
  · replace h := ifF h c
    refine v_aload_n C dX12_tick_20 rfl ?_
    refine v_iload_n C dX12_tick_21 rfl ?_
    obtain ⟨b, e0, h⟩ := ob h
    obtain ⟨q, e, h⟩ := ob h
    refine v_callV (As := [_]) C dX12_tick_22 cf_X12_381 (rm_X12_tick_X12_clocks) ⟨rfl, rfl⟩ e0 rfl (Nat.le_of_ble_eq_true rfl) (c_X12_clocks _ _ N _ _ _ q.1 q.2 e) ?_
    refine v_iinc (w := 1) C dX12_tick_25 rfl rfl (by decide) ?_
    refine v_goto (tgt := 12) C dX12_tick_28 (by decide) ?_
    exact v_sb (hk12 _ _ _ h) ⟨rfl, rfl, trivial⟩
set_option maxRecDepth 100000 in
set_option maxHeartbeats 4000000 in
theorem pL_X12_tick_12 {x : CX} {l : Launch} {g : CG} {rv : Unit} {μ0 μ9 : Mem} (C : Cx x l g mi_X12_tick) (F : Prom x g mi_X12_tick μ0 none μ9) (N : Nat) (n : Nat) : ∀ (a0 : Option Nat) (a1 : Int32) (μ : Mem), L_X12_tick_12 N n a0 a1 μ = some (rv, μ9) → V x g 2 0 0 μ 12 [(0, aR a0), (1, aI a1)] [] := by
  induction n with
  | zero => intro a0 a1 μ h; cases h
  | succ n ih => intro a0 a1 μ h; exact pH_X12_tick_12 C F ih h
set_option maxRecDepth 100000 in
set_option maxHeartbeats 4000000 in
theorem p_X12_tick {x : CX} {l : Launch} {g : CG} {rv : Unit} {μ0 μ9 : Mem} (C : Cx x l g mi_X12_tick) (F : Prom x g mi_X12_tick μ0 none μ9) {N : Nat} {a0 : Option Nat} {μ : Mem} (h : f_X12_tick N a0 μ = some (rv, μ9)) : V x g 2 0 0 μ 0 [(0, aR a0)] [] := by
  unfold f_X12_tick at h
  refine v_aload_n C dX12_tick_0 rfl ?_
  refine v_dup C dX12_tick_1 rfl ?_
  obtain ⟨v, e, h⟩ := ob h
  refine v_getI C dX12_tick_2 gf_X12_378 e ?_
  refine v_iconst (v := 1) C dX12_tick_5 rfl ?_
  refine v_iadd C dX12_tick_6 ?_
  obtain ⟨m, e, h⟩ := ob h
  refine v_putI C dX12_tick_7 (pf_X12_378 _) e ?_
  refine v_iconst (v := 0) C dX12_tick_10 rfl ?_
  refine v_istore_n C dX12_tick_11 (by decide) ?_
  exact v_sb (pL_X12_tick_12 C F N N _ _ _ h) ⟨rfl, rfl, trivial⟩
set_option maxRecDepth 100000 in
set_option maxHeartbeats 4000000 in
theorem c_X12_tick (l : Launch) (g : CG) (N : Nat) (a0 : Option Nat) (μ : Mem) (rv : Unit) (μ9 : Mem) (h : f_X12_tick N a0 μ = some (rv, μ9)) : Ct l yX12_tick mi_X12_tick g [aR a0] μ none μ9 := ct_of ⟨by decide, rfl, rfl⟩ (Nat.le_of_ble_eq_true rfl) fun x C F => p_X12_tick C F h
def H_X12_run_20 (N : Nat) (k20 : (Option Nat) → Int32 → Int32 → Int32 → Mem → Option (Int32 × Mem)) (a0 : Option Nat) (a1 : Int32) (a2 : Int32) (a3 : Int32) (μ : Mem) : Option (Int32 × Mem) :=
  if a1 ≤ a3 then
    (mfI μ a0 12 75).bind fun v1 =>
    some (v1 - a2, μ)
  else
    (mck μ a0 12).bind fun b3 =>
    (f_X12_tick N (some b3) μ).bind fun q2 =>
    k20 a0 a1 a2 (a3 + 1) q2.2
def L_X12_run_20 (N : Nat) : Nat → (Option Nat) → Int32 → Int32 → Int32 → Mem → Option (Int32 × Mem)
  | 0 => fun _ _ _ _ _ => none
  | n + 1 => H_X12_run_20 N (L_X12_run_20 N n)
def f_X12_run (N : Nat) (a0 : Option Nat) (a1 : Int32) (μ : Mem) : Option (Int32 × Mem) :=
  (f_X12_in N a1 1 20000 μ).bind fun q1 =>
  if ¬ q1.1 = 0 then
    (mfI q1.2 a0 12 75).bind fun v2 =>
    L_X12_run_20 N N a0 a1 v2 0 q1.2
  else
    some ((-1), q1.2)
set_option maxRecDepth 100000 in
set_option maxHeartbeats 4000000 in
theorem pH_X12_run_20 {x : CX} {l : Launch} {g : CG} {rv : Int32} {μ0 μ9 : Mem} (C : Cx x l g mi_X12_run) (F : Prom x g mi_X12_run μ0 (some (aI rv)) μ9) {N : Nat} {k20 : (Option Nat) → Int32 → Int32 → Int32 → Mem → Option (Int32 × Mem)} (hk20 : ∀ (a0 : Option Nat) (a1 : Int32) (a2 : Int32) (a3 : Int32) (μ : Mem), k20 a0 a1 a2 a3 μ = some (rv, μ9) → V x g 4 0 0 μ 20 [(0, aR a0), (1, aI a1), (2, aI a2), (3, aI a3)] []) {a0 : Option Nat} {a1 : Int32} {a2 : Int32} {a3 : Int32} {μ : Mem} (h : H_X12_run_20 N k20 a0 a1 a2 a3 μ = some (rv, μ9)) : V x g 4 0 0 μ 20 [(0, aR a0), (1, aI a1), (2, aI a2), (3, aI a3)] [] := by
  unfold H_X12_run_20 at h
  refine v_iload_n C dX12_run_20 rfl ?_
  refine v_iload_n C dX12_run_21 rfl ?_
  refine v_icmp_ge (tgt := 35) C dX12_run_22 (by decide) (fun c => ?_) (fun c => ?_)
  · replace h := ifT h c
    refine v_aload_n C dX12_run_35 rfl ?_
    obtain ⟨v, e, h⟩ := ob h
    refine v_getI C dX12_run_36 gf_X12_372 e ?_
    refine v_iload_n C dX12_run_39 rfl ?_
    refine v_isub C dX12_run_40 ?_
    exact v_iret C F ⟨rfl, rfl, Nat.le_refl _⟩ dX12_run_41 h
  · replace h := ifF h c
    refine v_aload_n C dX12_run_25 rfl ?_
    obtain ⟨b, e0, h⟩ := ob h
    obtain ⟨q, e, h⟩ := ob h
    refine v_callV (As := []) C dX12_run_26 cf_X12_375 (rm_X12_run_X12_tick) ⟨rfl, rfl⟩ e0 rfl (Nat.le_of_ble_eq_true rfl) (c_X12_tick _ _ N _ _ q.1 q.2 e) ?_
    refine v_iinc (w := 1) C dX12_run_29 rfl rfl (by decide) ?_
    refine v_goto (tgt := 20) C dX12_run_32 (by decide) ?_
    exact v_sb (hk20 _ _ _ _ _ h) ⟨rfl, rfl, rfl, rfl, trivial⟩
set_option maxRecDepth 100000 in
set_option maxHeartbeats 4000000 in
theorem pL_X12_run_20 {x : CX} {l : Launch} {g : CG} {rv : Int32} {μ0 μ9 : Mem} (C : Cx x l g mi_X12_run) (F : Prom x g mi_X12_run μ0 (some (aI rv)) μ9) (N : Nat) (n : Nat) : ∀ (a0 : Option Nat) (a1 : Int32) (a2 : Int32) (a3 : Int32) (μ : Mem), L_X12_run_20 N n a0 a1 a2 a3 μ = some (rv, μ9) → V x g 4 0 0 μ 20 [(0, aR a0), (1, aI a1), (2, aI a2), (3, aI a3)] [] := by
  induction n with
  | zero => intro a0 a1 a2 a3 μ h; cases h
  | succ n ih => intro a0 a1 a2 a3 μ h; exact pH_X12_run_20 C F ih h
set_option maxRecDepth 100000 in
set_option maxHeartbeats 4000000 in
theorem p_X12_run {x : CX} {l : Launch} {g : CG} {rv : Int32} {μ0 μ9 : Mem} (C : Cx x l g mi_X12_run) (F : Prom x g mi_X12_run μ0 (some (aI rv)) μ9) {N : Nat} {a0 : Option Nat} {a1 : Int32} {μ : Mem} (h : f_X12_run N a0 a1 μ = some (rv, μ9)) : V x g 4 0 0 μ 0 [(0, aR a0), (1, aI a1)] [] := by
  unfold f_X12_run at h
  refine v_iload_n C dX12_run_0 rfl ?_
  refine v_iconst (v := 1) C dX12_run_1 rfl ?_
  refine v_sipush (v := 20000) C dX12_run_2 rfl ?_
  obtain ⟨q, e, h⟩ := ob h
  refine v_callS (As := [_, _, _]) C dX12_run_5 cf_X12_15 (rm_X12_run_X12_in) ⟨rfl, rfl⟩ rfl (Nat.le_of_ble_eq_true rfl) (c_X12_in _ _ N _ _ _ _ q.1 q.2 e) ?_
  refine v_if_ne (tgt := 13) C dX12_run_8 (by decide) (fun c => ?_) (fun c => ?_)
  · replace h := ifT h c
    refine v_aload_n C dX12_run_13 rfl ?_
    obtain ⟨v, e, h⟩ := ob h
    refine v_getI C dX12_run_14 gf_X12_372 e ?_
    refine v_istore_n C dX12_run_17 (by decide) ?_
    refine v_iconst (v := 0) C dX12_run_18 rfl ?_
    refine v_istore_n C dX12_run_19 (by decide) ?_
    exact v_sb (pL_X12_run_20 C F N N _ _ _ _ _ h) ⟨rfl, rfl, rfl, rfl, trivial⟩
  · replace h := ifF h c
    refine v_iconst (v := -1) C dX12_run_11 rfl ?_
    exact v_iret C F ⟨rfl, rfl, Nat.le_refl _⟩ dX12_run_12 h
set_option maxRecDepth 100000 in
set_option maxHeartbeats 4000000 in
theorem c_X12_run (l : Launch) (g : CG) (N : Nat) (a0 : Option Nat) (a1 : Int32) (μ : Mem) (rv : Int32) (μ9 : Mem) (h : f_X12_run N a0 a1 μ = some (rv, μ9)) : Ct l yX12_run mi_X12_run g [aR a0, aI a1] μ (some (aI rv)) μ9 := ct_of ⟨by decide, rfl, rfl⟩ (Nat.le_of_ble_eq_true rfl) fun x C F => p_X12_run C F h
def H_X12_user_156 (N : Nat) (k156 : (Option Nat) → Int32 → Int32 → Mem → Option (Int32 × Mem)) (a0 : Option Nat) (a1 : Int32) (a3 : Int32) (μ : Mem) : Option (Int32 × Mem) :=
  (mfI μ a0 12 63).bind fun v1 =>
  if v1 ≤ a3 then
    some ((-1), μ)
  else
    (mfR μ a0 12 62).bind fun v2 =>
    (maI μ 0 v2 a3).bind fun v3 =>
    if ¬ v3 = a1 then
      k156 a0 a1 (a3 + 1) μ
    else
      some (a3, μ)
def L_X12_user_156 (N : Nat) : Nat → (Option Nat) → Int32 → Int32 → Mem → Option (Int32 × Mem)
  | 0 => fun _ _ _ _ => none
  | n + 1 => H_X12_user_156 N (L_X12_user_156 N n)
def f_X12_user_218 (N : Nat) (s0 : Int32) (μ : Mem) : Option (Int32 × Mem) :=
  some (s0, μ)
def f_X12_user_235 (N : Nat) (s0 : Int32) (μ : Mem) : Option (Int32 × Mem) :=
  some (s0, μ)
def f_X12_user (N : Nat) (a0 : Option Nat) (a1 : Int32) (a2 : Int32) (μ : Mem) : Option (Int32 × Mem) :=
  (mck μ a0 12).bind fun b2 =>
  (f_X12_isUser N (some b2) a1 μ).bind fun q1 =>
  if ¬ q1.1 = 0 then
    if a2 = 0 then
      (mfR q1.2 a0 12 42).bind fun v3 =>
      (maI q1.2 0 v3 a1).bind fun v4 =>
      some (v4, q1.2)
    else
      if a2 = 1 then
        (mfR q1.2 a0 12 45).bind fun v5 =>
        (maI q1.2 0 v5 a1).bind fun v6 =>
        some (v6, q1.2)
      else
        if a2 = 2 then
          (mfR q1.2 a0 12 43).bind fun v7 =>
          (maI q1.2 0 v7 a1).bind fun v8 =>
          some (v8, q1.2)
        else
          if a2 = 3 then
            (mfR q1.2 a0 12 46).bind fun v9 =>
            (maI q1.2 0 v9 a1).bind fun v10 =>
            some (v10, q1.2)
          else
            if a2 = 4 then
              (mfR q1.2 a0 12 44).bind fun v11 =>
              (maI q1.2 0 v11 a1).bind fun v12 =>
              some (v12, q1.2)
            else
              if a2 = 5 then
                (mfR q1.2 a0 12 48).bind fun v13 =>
                (maI q1.2 0 v13 a1).bind fun v14 =>
                some (v14, q1.2)
              else
                if a2 = 6 then
                  (mfR q1.2 a0 12 50).bind fun v15 =>
                  (maI q1.2 0 v15 a1).bind fun v16 =>
                  some (v16, q1.2)
                else
                  if a2 = 7 then
                    (mfR q1.2 a0 12 53).bind fun v17 =>
                    (maI q1.2 0 v17 a1).bind fun v18 =>
                    some (v18, q1.2)
                  else
                    if a2 = 8 then
                      (mfR q1.2 a0 12 55).bind fun v19 =>
                      (maI q1.2 0 v19 a1).bind fun v20 =>
                      some (v20, q1.2)
                    else
                      if a2 = 9 then
                        (mfR q1.2 a0 12 41).bind fun v21 =>
                        (maI q1.2 0 v21 a1).bind fun v22 =>
                        some (v22, q1.2)
                      else
                        if a2 = 10 then
                          L_X12_user_156 N N a0 a1 0 q1.2
                        else
                          if a2 = 11 then
                            (mfR q1.2 a0 12 51).bind fun v23 =>
                            (maI q1.2 0 v23 a1).bind fun v24 =>
                            some (v24, q1.2)
                          else
                            if a2 = 12 then
                              (mfR q1.2 a0 12 47).bind fun v25 =>
                              (maI q1.2 0 v25 a1).bind fun v26 =>
                              some (v26, q1.2)
                            else
                              if a2 = 13 then
                                (mfR q1.2 a0 12 42).bind fun v27 =>
                                (maI q1.2 0 v27 a1).bind fun v28 =>
                                if ¬ v28 = (4 : Int32) then
                                  f_X12_user_218 N ((-1)) q1.2
                                else
                                  (mfR q1.2 a0 12 57).bind fun v29 =>
                                  (maI q1.2 0 v29 a1).bind fun v30 =>
                                  f_X12_user_218 N v30 q1.2
                              else
                                if a2 = 14 then
                                  (mfI q1.2 a0 12 64).bind fun v31 =>
                                  if ¬ v31 = a1 then
                                    f_X12_user_235 N ((-1)) q1.2
                                  else
                                    (mfI q1.2 a0 12 65).bind fun v32 =>
                                    f_X12_user_235 N v32 q1.2
                                else
                                  some ((-1), q1.2)
  else
    some ((-1), q1.2)
set_option maxRecDepth 100000 in
set_option maxHeartbeats 4000000 in
theorem pH_X12_user_156 {x : CX} {l : Launch} {g : CG} {rv : Int32} {μ0 μ9 : Mem} (C : Cx x l g mi_X12_user) (F : Prom x g mi_X12_user μ0 (some (aI rv)) μ9) {N : Nat} {k156 : (Option Nat) → Int32 → Int32 → Mem → Option (Int32 × Mem)} (hk156 : ∀ (a0 : Option Nat) (a1 : Int32) (a3 : Int32) (μ : Mem), k156 a0 a1 a3 μ = some (rv, μ9) → V x g 4 0 0 μ 156 [(0, aR a0), (1, aI a1), (3, aI a3)] []) {a0 : Option Nat} {a1 : Int32} {a3 : Int32} {μ : Mem} (h : H_X12_user_156 N k156 a0 a1 a3 μ = some (rv, μ9)) : V x g 4 0 0 μ 156 [(0, aR a0), (1, aI a1), (3, aI a3)] [] := by
  unfold H_X12_user_156 at h
  refine v_iload_n C dX12_user_156 rfl ?_
  refine v_aload_n C dX12_user_157 rfl ?_
  obtain ⟨v, e, h⟩ := ob h
  refine v_getI C dX12_user_158 gf_X12_338 e ?_
  refine v_icmp_ge (tgt := 182) C dX12_user_161 (by decide) (fun c => ?_) (fun c => ?_)
  · replace h := ifT h c
    refine v_iconst (v := -1) C dX12_user_182 rfl ?_
    exact v_iret C F ⟨rfl, rfl, Nat.le_refl _⟩ dX12_user_183 h
  · replace h := ifF h c
    refine v_aload_n C dX12_user_164 rfl ?_
    obtain ⟨v, e, h⟩ := ob h
    refine v_getR C dX12_user_165 gf_X12_234 e ?_
    refine v_iload_n C dX12_user_168 rfl ?_
    obtain ⟨v, e, h⟩ := ob h
    refine v_iaload C dX12_user_169 e ?_
    refine v_iload_n C dX12_user_170 rfl ?_
    refine v_icmp_ne (tgt := 176) C dX12_user_171 (by decide) (fun c => ?_) (fun c => ?_)
    · replace h := ifT h c
      refine v_iinc (w := 1) C dX12_user_176 rfl rfl (by decide) ?_
      refine v_goto (tgt := 156) C dX12_user_179 (by decide) ?_
      exact v_sb (hk156 _ _ _ _ h) ⟨rfl, rfl, rfl, trivial⟩
    · replace h := ifF h c
      refine v_iload_n C dX12_user_174 rfl ?_
      exact v_iret C F ⟨rfl, rfl, Nat.le_refl _⟩ dX12_user_175 h
set_option maxRecDepth 100000 in
set_option maxHeartbeats 4000000 in
theorem pL_X12_user_156 {x : CX} {l : Launch} {g : CG} {rv : Int32} {μ0 μ9 : Mem} (C : Cx x l g mi_X12_user) (F : Prom x g mi_X12_user μ0 (some (aI rv)) μ9) (N : Nat) (n : Nat) : ∀ (a0 : Option Nat) (a1 : Int32) (a3 : Int32) (μ : Mem), L_X12_user_156 N n a0 a1 a3 μ = some (rv, μ9) → V x g 4 0 0 μ 156 [(0, aR a0), (1, aI a1), (3, aI a3)] [] := by
  induction n with
  | zero => intro a0 a1 a3 μ h; cases h
  | succ n ih => intro a0 a1 a3 μ h; exact pH_X12_user_156 C F ih h
set_option maxRecDepth 100000 in
set_option maxHeartbeats 4000000 in
theorem p_X12_user_218 {x : CX} {l : Launch} {g : CG} {rv : Int32} {μ0 μ9 : Mem} (C : Cx x l g mi_X12_user) (F : Prom x g mi_X12_user μ0 (some (aI rv)) μ9) {N : Nat} {s0 : Int32} {μ : Mem} (h : f_X12_user_218 N s0 μ = some (rv, μ9)) : V x g 4 0 0 μ 218 [] [aI s0] := by
  unfold f_X12_user_218 at h
  exact v_iret C F ⟨rfl, rfl, Nat.le_refl _⟩ dX12_user_218 h
set_option maxRecDepth 100000 in
set_option maxHeartbeats 4000000 in
theorem p_X12_user_235 {x : CX} {l : Launch} {g : CG} {rv : Int32} {μ0 μ9 : Mem} (C : Cx x l g mi_X12_user) (F : Prom x g mi_X12_user μ0 (some (aI rv)) μ9) {N : Nat} {s0 : Int32} {μ : Mem} (h : f_X12_user_235 N s0 μ = some (rv, μ9)) : V x g 4 0 0 μ 235 [] [aI s0] := by
  unfold f_X12_user_235 at h
  exact v_iret C F ⟨rfl, rfl, Nat.le_refl _⟩ dX12_user_235 h
set_option maxRecDepth 100000 in
set_option maxHeartbeats 4000000 in
theorem p_X12_user {x : CX} {l : Launch} {g : CG} {rv : Int32} {μ0 μ9 : Mem} (C : Cx x l g mi_X12_user) (F : Prom x g mi_X12_user μ0 (some (aI rv)) μ9) {N : Nat} {a0 : Option Nat} {a1 : Int32} {a2 : Int32} {μ : Mem} (h : f_X12_user N a0 a1 a2 μ = some (rv, μ9)) : V x g 4 0 0 μ 0 [(0, aR a0), (1, aI a1), (2, aI a2)] [] := by
  unfold f_X12_user at h
  refine v_aload_n C dX12_user_0 rfl ?_
  refine v_iload_n C dX12_user_1 rfl ?_
  obtain ⟨b, e0, h⟩ := ob h
  obtain ⟨q, e, h⟩ := ob h
  refine v_callV (As := [_]) C dX12_user_2 cf_X12_341 (rm_X12_user_X12_isUser) ⟨rfl, rfl⟩ e0 rfl (Nat.le_of_ble_eq_true rfl) (c_X12_isUser _ _ N _ _ _ q.1 q.2 e) ?_
  refine v_if_ne (tgt := 10) C dX12_user_5 (by decide) (fun c => ?_) (fun c => ?_)
  · replace h := ifT h c
    refine v_iload_n C dX12_user_10 rfl ?_
    refine v_tableswitch (dt := 236) (cs := [(0, 84), (1, 91), (2, 98), (3, 105), (4, 112), (5, 119), (6, 126), (7, 133), (8, 140), (9, 147), (10, 154), (11, 184), (12, 191), (13, 198), (14, 219)]) C dX12_user_11 (by decide) (by decide) (by decide) (by decide) ?_
    refine v_case (fun c => ?_) (fun c => ?_)
    · replace h := ifT h c
      refine v_aload_n C dX12_user_84 rfl ?_
      obtain ⟨v, e, h⟩ := ob h
      refine v_getR C dX12_user_85 gf_X12_278 e ?_
      refine v_iload_n C dX12_user_88 rfl ?_
      obtain ⟨v, e, h⟩ := ob h
      refine v_iaload C dX12_user_89 e ?_
      exact v_iret C F ⟨rfl, rfl, Nat.le_refl _⟩ dX12_user_90 h
    · replace h := ifF h c
      refine v_case (fun c => ?_) (fun c => ?_)
      · replace h := ifT h c
        refine v_aload_n C dX12_user_91 rfl ?_
        obtain ⟨v, e, h⟩ := ob h
        refine v_getR C dX12_user_92 gf_X12_287 e ?_
        refine v_iload_n C dX12_user_95 rfl ?_
        obtain ⟨v, e, h⟩ := ob h
        refine v_iaload C dX12_user_96 e ?_
        exact v_iret C F ⟨rfl, rfl, Nat.le_refl _⟩ dX12_user_97 h
      · replace h := ifF h c
        refine v_case (fun c => ?_) (fun c => ?_)
        · replace h := ifT h c
          refine v_aload_n C dX12_user_98 rfl ?_
          obtain ⟨v, e, h⟩ := ob h
          refine v_getR C dX12_user_99 gf_X12_281 e ?_
          refine v_iload_n C dX12_user_102 rfl ?_
          obtain ⟨v, e, h⟩ := ob h
          refine v_iaload C dX12_user_103 e ?_
          exact v_iret C F ⟨rfl, rfl, Nat.le_refl _⟩ dX12_user_104 h
        · replace h := ifF h c
          refine v_case (fun c => ?_) (fun c => ?_)
          · replace h := ifT h c
            refine v_aload_n C dX12_user_105 rfl ?_
            obtain ⟨v, e, h⟩ := ob h
            refine v_getR C dX12_user_106 gf_X12_290 e ?_
            refine v_iload_n C dX12_user_109 rfl ?_
            obtain ⟨v, e, h⟩ := ob h
            refine v_iaload C dX12_user_110 e ?_
            exact v_iret C F ⟨rfl, rfl, Nat.le_refl _⟩ dX12_user_111 h
          · replace h := ifF h c
            refine v_case (fun c => ?_) (fun c => ?_)
            · replace h := ifT h c
              refine v_aload_n C dX12_user_112 rfl ?_
              obtain ⟨v, e, h⟩ := ob h
              refine v_getR C dX12_user_113 gf_X12_284 e ?_
              refine v_iload_n C dX12_user_116 rfl ?_
              obtain ⟨v, e, h⟩ := ob h
              refine v_iaload C dX12_user_117 e ?_
              exact v_iret C F ⟨rfl, rfl, Nat.le_refl _⟩ dX12_user_118 h
            · replace h := ifF h c
              refine v_case (fun c => ?_) (fun c => ?_)
              · replace h := ifT h c
                refine v_aload_n C dX12_user_119 rfl ?_
                obtain ⟨v, e, h⟩ := ob h
                refine v_getR C dX12_user_120 gf_X12_296 e ?_
                refine v_iload_n C dX12_user_123 rfl ?_
                obtain ⟨v, e, h⟩ := ob h
                refine v_iaload C dX12_user_124 e ?_
                exact v_iret C F ⟨rfl, rfl, Nat.le_refl _⟩ dX12_user_125 h
              · replace h := ifF h c
                refine v_case (fun c => ?_) (fun c => ?_)
                · replace h := ifT h c
                  refine v_aload_n C dX12_user_126 rfl ?_
                  obtain ⟨v, e, h⟩ := ob h
                  refine v_getR C dX12_user_127 gf_X12_302 e ?_
                  refine v_iload_n C dX12_user_130 rfl ?_
                  obtain ⟨v, e, h⟩ := ob h
                  refine v_iaload C dX12_user_131 e ?_
                  exact v_iret C F ⟨rfl, rfl, Nat.le_refl _⟩ dX12_user_132 h
                · replace h := ifF h c
                  refine v_case (fun c => ?_) (fun c => ?_)
                  · replace h := ifT h c
                    refine v_aload_n C dX12_user_133 rfl ?_
                    obtain ⟨v, e, h⟩ := ob h
                    refine v_getR C dX12_user_134 gf_X12_311 e ?_
                    refine v_iload_n C dX12_user_137 rfl ?_
                    obtain ⟨v, e, h⟩ := ob h
                    refine v_iaload C dX12_user_138 e ?_
                    exact v_iret C F ⟨rfl, rfl, Nat.le_refl _⟩ dX12_user_139 h
                  · replace h := ifF h c
                    refine v_case (fun c => ?_) (fun c => ?_)
                    · replace h := ifT h c
                      refine v_aload_n C dX12_user_140 rfl ?_
                      obtain ⟨v, e, h⟩ := ob h
                      refine v_getR C dX12_user_141 gf_X12_317 e ?_
                      refine v_iload_n C dX12_user_144 rfl ?_
                      obtain ⟨v, e, h⟩ := ob h
                      refine v_iaload C dX12_user_145 e ?_
                      exact v_iret C F ⟨rfl, rfl, Nat.le_refl _⟩ dX12_user_146 h
                    · replace h := ifF h c
                      refine v_case (fun c => ?_) (fun c => ?_)
                      · replace h := ifT h c
                        refine v_aload_n C dX12_user_147 rfl ?_
                        obtain ⟨v, e, h⟩ := ob h
                        refine v_getR C dX12_user_148 gf_X12_275 e ?_
                        refine v_iload_n C dX12_user_151 rfl ?_
                        obtain ⟨v, e, h⟩ := ob h
                        refine v_iaload C dX12_user_152 e ?_
                        exact v_iret C F ⟨rfl, rfl, Nat.le_refl _⟩ dX12_user_153 h
                      · replace h := ifF h c
                        refine v_case (fun c => ?_) (fun c => ?_)
                        · replace h := ifT h c
                          refine v_iconst (v := 0) C dX12_user_154 rfl ?_
                          refine v_istore_n C dX12_user_155 (by decide) ?_
                          exact v_sb (pL_X12_user_156 C F N N _ _ _ _ h) ⟨rfl, rfl, rfl, trivial⟩
                        · replace h := ifF h c
                          refine v_case (fun c => ?_) (fun c => ?_)
                          · replace h := ifT h c
                            refine v_aload_n C dX12_user_184 rfl ?_
                            obtain ⟨v, e, h⟩ := ob h
                            refine v_getR C dX12_user_185 gf_X12_305 e ?_
                            refine v_iload_n C dX12_user_188 rfl ?_
                            obtain ⟨v, e, h⟩ := ob h
                            refine v_iaload C dX12_user_189 e ?_
                            exact v_iret C F ⟨rfl, rfl, Nat.le_refl _⟩ dX12_user_190 h
                          · replace h := ifF h c
                            refine v_case (fun c => ?_) (fun c => ?_)
                            · replace h := ifT h c
                              refine v_aload_n C dX12_user_191 rfl ?_
                              obtain ⟨v, e, h⟩ := ob h
                              refine v_getR C dX12_user_192 gf_X12_293 e ?_
                              refine v_iload_n C dX12_user_195 rfl ?_
                              obtain ⟨v, e, h⟩ := ob h
                              refine v_iaload C dX12_user_196 e ?_
                              exact v_iret C F ⟨rfl, rfl, Nat.le_refl _⟩ dX12_user_197 h
                            · replace h := ifF h c
                              refine v_case (fun c => ?_) (fun c => ?_)
                              · replace h := ifT h c
                                refine v_aload_n C dX12_user_198 rfl ?_
                                obtain ⟨v, e, h⟩ := ob h
                                refine v_getR C dX12_user_199 gf_X12_278 e ?_
                                refine v_iload_n C dX12_user_202 rfl ?_
                                obtain ⟨v, e, h⟩ := ob h
                                refine v_iaload C dX12_user_203 e ?_
                                refine v_iconst (v := 4) C dX12_user_204 rfl ?_
                                refine v_icmp_ne (tgt := 217) C dX12_user_205 (by decide) (fun c => ?_) (fun c => ?_)
                                · replace h := ifT h c
                                  refine v_iconst (v := -1) C dX12_user_217 rfl ?_
                                  exact v_sb (p_X12_user_218 C F h) trivial
                                · replace h := ifF h c
                                  refine v_aload_n C dX12_user_208 rfl ?_
                                  obtain ⟨v, e, h⟩ := ob h
                                  refine v_getR C dX12_user_209 gf_X12_323 e ?_
                                  refine v_iload_n C dX12_user_212 rfl ?_
                                  obtain ⟨v, e, h⟩ := ob h
                                  refine v_iaload C dX12_user_213 e ?_
                                  refine v_goto (tgt := 218) C dX12_user_214 (by decide) ?_
                                  exact v_sb (p_X12_user_218 C F h) trivial
                              · replace h := ifF h c
                                refine v_case (fun c => ?_) (fun c => ?_)
                                · replace h := ifT h c
                                  refine v_aload_n C dX12_user_219 rfl ?_
                                  obtain ⟨v, e, h⟩ := ob h
                                  refine v_getI C dX12_user_220 gf_X12_237 e ?_
                                  refine v_iload_n C dX12_user_223 rfl ?_
                                  refine v_icmp_ne (tgt := 234) C dX12_user_224 (by decide) (fun c => ?_) (fun c => ?_)
                                  · replace h := ifT h c
                                    refine v_iconst (v := -1) C dX12_user_234 rfl ?_
                                    exact v_sb (p_X12_user_235 C F h) trivial
                                  · replace h := ifF h c
                                    refine v_aload_n C dX12_user_227 rfl ?_
                                    obtain ⟨v, e, h⟩ := ob h
                                    refine v_getI C dX12_user_228 gf_X12_432 e ?_
                                    refine v_goto (tgt := 235) C dX12_user_231 (by decide) ?_
                                    exact v_sb (p_X12_user_235 C F h) trivial
                                · replace h := ifF h c
                                  refine v_caseD ?_
                                  refine v_iconst (v := -1) C dX12_user_236 rfl ?_
                                  exact v_iret C F ⟨rfl, rfl, Nat.le_refl _⟩ dX12_user_237 h
  · replace h := ifF h c
    refine v_iconst (v := -1) C dX12_user_8 rfl ?_
    exact v_iret C F ⟨rfl, rfl, Nat.le_refl _⟩ dX12_user_9 h
set_option maxRecDepth 100000 in
set_option maxHeartbeats 4000000 in
theorem c_X12_user (l : Launch) (g : CG) (N : Nat) (a0 : Option Nat) (a1 : Int32) (a2 : Int32) (μ : Mem) (rv : Int32) (μ9 : Mem) (h : f_X12_user N a0 a1 a2 μ = some (rv, μ9)) : Ct l yX12_user mi_X12_user g [aR a0, aI a1, aI a2] μ (some (aI rv)) μ9 := ct_of ⟨by decide, rfl, rfl⟩ (Nat.le_of_ble_eq_true rfl) fun x C F => p_X12_user C F h
