/-! LAYER 1, ShareEightModel: second, word, third (by program) -/
def f_X12_second_135 (N : Nat) (μ : Mem) : Option (Unit × Mem) :=
  some ((), μ)
def f_X12_second_119 (N : Nat) (a0 : Option Nat) (a1 : Int32) (μ : Mem) : Option (Unit × Mem) :=
  (mck μ a0 12).bind fun b2 =>
  (f_X12_has N (some b2) 2 μ).bind fun q1 =>
  if q1.1 = 0 then
    f_X12_second_135 N q1.2
  else
    (mfR q1.2 a0 12 42).bind fun v3 =>
    (mbI q1.2 0 v3 a1 6).bind fun μ4 =>
    f_X12_second_135 N μ4
def f_X12_second_96 (N : Nat) (a0 : Option Nat) (a1 : Int32) (μ : Mem) : Option (Unit × Mem) :=
  (mck μ a0 12).bind fun b2 =>
  (f_X12_has N (some b2) 4 μ).bind fun q1 =>
  if q1.1 = 0 then
    f_X12_second_119 N a0 a1 q1.2
  else
    (mfR q1.2 a0 12 43).bind fun v3 =>
    (maI q1.2 0 v3 a1).bind fun v4 =>
    (mfR q1.2 a0 12 47).bind fun v5 =>
    (maI q1.2 0 v5 a1).bind fun v6 =>
    (mbI q1.2 0 v3 a1 (v4 ||| v6)).bind fun μ7 =>
    f_X12_second_119 N a0 a1 μ7
def f_X12_second_79 (N : Nat) (a0 : Option Nat) (a1 : Int32) (μ : Mem) : Option (Unit × Mem) :=
  (mck μ a0 12).bind fun b2 =>
  (f_X12_has N (some b2) 128 μ).bind fun q1 =>
  if q1.1 = 0 then
    f_X12_second_96 N a0 a1 q1.2
  else
    (mfR q1.2 a0 12 43).bind fun v3 =>
    (mbI q1.2 0 v3 a1 0).bind fun μ4 =>
    f_X12_second_96 N a0 a1 μ4
def f_X12_second_63 (N : Nat) (a0 : Option Nat) (a1 : Int32) (s0 : Int32) (μ : Mem) : Option (Unit × Mem) :=
  (mck μ a0 12).bind fun b2 =>
  (f_X12_has N (some b2) 8 μ).bind fun q1 =>
  if s0 = q1.1 then
    f_X12_second_79 N a0 a1 q1.2
  else
    (mck q1.2 a0 12).bind fun b4 =>
    (f_X12_skip N (some b4) a1 q1.2).bind fun q3 =>
    f_X12_second_79 N a0 a1 q3.2
def f_X12_second_62 (N : Nat) (a0 : Option Nat) (a1 : Int32) (μ : Mem) : Option (Unit × Mem) :=
  f_X12_second_63 N a0 a1 0 μ
def f_X12_second_58 (N : Nat) (a0 : Option Nat) (a1 : Int32) (μ : Mem) : Option (Unit × Mem) :=
  f_X12_second_63 N a0 a1 1 μ
def f_X12_second_39 (N : Nat) (a0 : Option Nat) (a1 : Int32) (μ : Mem) : Option (Unit × Mem) :=
  (mck μ a0 12).bind fun b2 =>
  (f_X12_has N (some b2) 16 μ).bind fun q1 =>
  if q1.1 = 0 then
    f_X12_second_62 N a0 a1 q1.2
  else
    (mfR q1.2 a0 12 46).bind fun v3 =>
    (maI q1.2 0 v3 a1).bind fun v4 =>
    if ¬ v4 = (1 : Int32) then
      f_X12_second_62 N a0 a1 q1.2
    else
      f_X12_second_58 N a0 a1 q1.2
def f_X12_second_21 (N : Nat) (a0 : Option Nat) (a1 : Int32) (μ : Mem) : Option (Unit × Mem) :=
  (mck μ a0 12).bind fun b2 =>
  (f_X12_has N (some b2) 32 μ).bind fun q1 =>
  if q1.1 = 0 then
    f_X12_second_39 N a0 a1 q1.2
  else
    (mfR q1.2 a0 12 43).bind fun v3 =>
    (maI q1.2 0 v3 a1).bind fun v4 =>
    if v4 = 0 then
      f_X12_second_58 N a0 a1 q1.2
    else
      f_X12_second_39 N a0 a1 q1.2
def f_X12_second (N : Nat) (a0 : Option Nat) (a1 : Int32) (μ : Mem) : Option (Unit × Mem) :=
  (mck μ a0 12).bind fun b2 =>
  (f_X12_has N (some b2) 64 μ).bind fun q1 =>
  if q1.1 = 0 then
    f_X12_second_21 N a0 a1 q1.2
  else
    (mfR q1.2 a0 12 43).bind fun v3 =>
    (maI q1.2 0 v3 a1).bind fun v4 =>
    if (2047 : Int32) < v4 then
      f_X12_second_58 N a0 a1 q1.2
    else
      f_X12_second_21 N a0 a1 q1.2
set_option maxRecDepth 100000 in
set_option maxHeartbeats 4000000 in
theorem p_X12_second_135 {x : CX} {l : Launch} {g : CG} {rv : Unit} {μ0 μ9 : Mem} (C : Cx x l g mi_X12_second) (F : Prom x g mi_X12_second μ0 none μ9) {N : Nat} {μ : Mem} (h : f_X12_second_135 N μ = some (rv, μ9)) : V x g 3 0 0 μ 135 [] [] := by
  unfold f_X12_second_135 at h
  exact v_vret C F ⟨rfl, rfl, Nat.le_refl _⟩ dX12_second_135 h
set_option maxRecDepth 100000 in
set_option maxHeartbeats 4000000 in
theorem p_X12_second_119 {x : CX} {l : Launch} {g : CG} {rv : Unit} {μ0 μ9 : Mem} (C : Cx x l g mi_X12_second) (F : Prom x g mi_X12_second μ0 none μ9) {N : Nat} {a0 : Option Nat} {a1 : Int32} {μ : Mem} (h : f_X12_second_119 N a0 a1 μ = some (rv, μ9)) : V x g 3 0 0 μ 119 [(0, aR a0), (1, aI a1)] [] := by
  unfold f_X12_second_119 at h
  refine v_aload_n C dX12_second_119 rfl ?_
  refine v_iconst (v := 2) C dX12_second_120 rfl ?_
  obtain ⟨b, e0, h⟩ := ob h
  obtain ⟨q, e, h⟩ := ob h
  refine v_callV (As := [_]) C dX12_second_121 cf_X12_463 (rm_X12_second_X12_has) ⟨rfl, rfl⟩ e0 rfl (Nat.le_of_ble_eq_true rfl) (c_X12_has _ _ N _ _ _ q.1 q.2 e) ?_
  refine v_if_eq (tgt := 135) C dX12_second_124 (by decide) (fun c => ?_) (fun c => ?_)
  · replace h := ifT h c
    exact v_sb (p_X12_second_135 C F h) trivial
  · replace h := ifF h c
    refine v_aload_n C dX12_second_127 rfl ?_
    obtain ⟨v, e, h⟩ := ob h
    refine v_getR C dX12_second_128 gf_X12_278 e ?_
    refine v_iload_n C dX12_second_131 rfl ?_
    refine v_bipush (v := 6) C dX12_second_132 rfl ?_
    obtain ⟨m, e, h⟩ := ob h
    refine v_iastore C dX12_second_134 e ?_
    exact v_sb (p_X12_second_135 C F h) trivial
set_option maxRecDepth 100000 in
set_option maxHeartbeats 4000000 in
theorem p_X12_second_96 {x : CX} {l : Launch} {g : CG} {rv : Unit} {μ0 μ9 : Mem} (C : Cx x l g mi_X12_second) (F : Prom x g mi_X12_second μ0 none μ9) {N : Nat} {a0 : Option Nat} {a1 : Int32} {μ : Mem} (h : f_X12_second_96 N a0 a1 μ = some (rv, μ9)) : V x g 3 0 0 μ 96 [(0, aR a0), (1, aI a1)] [] := by
  unfold f_X12_second_96 at h
  refine v_aload_n C dX12_second_96 rfl ?_
  refine v_iconst (v := 4) C dX12_second_97 rfl ?_
  obtain ⟨b, e0, h⟩ := ob h
  obtain ⟨q, e, h⟩ := ob h
  refine v_callV (As := [_]) C dX12_second_98 cf_X12_463 (rm_X12_second_X12_has) ⟨rfl, rfl⟩ e0 rfl (Nat.le_of_ble_eq_true rfl) (c_X12_has _ _ N _ _ _ q.1 q.2 e) ?_
  refine v_if_eq (tgt := 119) C dX12_second_101 (by decide) (fun c => ?_) (fun c => ?_)
  · replace h := ifT h c
    exact v_sb (p_X12_second_119 C F h) ⟨rfl, rfl, trivial⟩
  · replace h := ifF h c
    refine v_aload_n C dX12_second_104 rfl ?_
    obtain ⟨v, e, h⟩ := ob h
    refine v_getR C dX12_second_105 gf_X12_281 e ?_
    refine v_iload_n C dX12_second_108 rfl ?_
    refine v_dup2 C dX12_second_109 rfl rfl ?_
    obtain ⟨v, e, h⟩ := ob h
    refine v_iaload C dX12_second_110 e ?_
    refine v_aload_n C dX12_second_111 rfl ?_
    obtain ⟨v, e, h⟩ := ob h
    refine v_getR C dX12_second_112 gf_X12_293 e ?_
    refine v_iload_n C dX12_second_115 rfl ?_
    obtain ⟨v, e, h⟩ := ob h
    refine v_iaload C dX12_second_116 e ?_
    refine v_ior C dX12_second_117 ?_
    obtain ⟨m, e, h⟩ := ob h
    refine v_iastore C dX12_second_118 e ?_
    exact v_sb (p_X12_second_119 C F h) ⟨rfl, rfl, trivial⟩
set_option maxRecDepth 100000 in
set_option maxHeartbeats 4000000 in
theorem p_X12_second_79 {x : CX} {l : Launch} {g : CG} {rv : Unit} {μ0 μ9 : Mem} (C : Cx x l g mi_X12_second) (F : Prom x g mi_X12_second μ0 none μ9) {N : Nat} {a0 : Option Nat} {a1 : Int32} {μ : Mem} (h : f_X12_second_79 N a0 a1 μ = some (rv, μ9)) : V x g 3 0 0 μ 79 [(0, aR a0), (1, aI a1)] [] := by
  unfold f_X12_second_79 at h
  refine v_aload_n C dX12_second_79 rfl ?_
  refine v_sipush (v := 128) C dX12_second_80 rfl ?_
  obtain ⟨b, e0, h⟩ := ob h
  obtain ⟨q, e, h⟩ := ob h
  refine v_callV (As := [_]) C dX12_second_83 cf_X12_463 (rm_X12_second_X12_has) ⟨rfl, rfl⟩ e0 rfl (Nat.le_of_ble_eq_true rfl) (c_X12_has _ _ N _ _ _ q.1 q.2 e) ?_
  refine v_if_eq (tgt := 96) C dX12_second_86 (by decide) (fun c => ?_) (fun c => ?_)
  · replace h := ifT h c
    exact v_sb (p_X12_second_96 C F h) ⟨rfl, rfl, trivial⟩
  · replace h := ifF h c
    refine v_aload_n C dX12_second_89 rfl ?_
    obtain ⟨v, e, h⟩ := ob h
    refine v_getR C dX12_second_90 gf_X12_281 e ?_
    refine v_iload_n C dX12_second_93 rfl ?_
    refine v_iconst (v := 0) C dX12_second_94 rfl ?_
    obtain ⟨m, e, h⟩ := ob h
    refine v_iastore C dX12_second_95 e ?_
    exact v_sb (p_X12_second_96 C F h) ⟨rfl, rfl, trivial⟩
set_option maxRecDepth 100000 in
set_option maxHeartbeats 4000000 in
theorem p_X12_second_63 {x : CX} {l : Launch} {g : CG} {rv : Unit} {μ0 μ9 : Mem} (C : Cx x l g mi_X12_second) (F : Prom x g mi_X12_second μ0 none μ9) {N : Nat} {a0 : Option Nat} {a1 : Int32} {s0 : Int32} {μ : Mem} (h : f_X12_second_63 N a0 a1 s0 μ = some (rv, μ9)) : V x g 3 0 0 μ 63 [(0, aR a0), (1, aI a1)] [aI s0] := by
  unfold f_X12_second_63 at h
  refine v_istore_n C dX12_second_63 (by decide) ?_
  refine v_iload_n C dX12_second_64 rfl ?_
  refine v_aload_n C dX12_second_65 rfl ?_
  refine v_bipush (v := 8) C dX12_second_66 rfl ?_
  obtain ⟨b, e0, h⟩ := ob h
  obtain ⟨q, e, h⟩ := ob h
  refine v_callV (As := [_]) C dX12_second_68 cf_X12_463 (rm_X12_second_X12_has) ⟨rfl, rfl⟩ e0 rfl (Nat.le_of_ble_eq_true rfl) (c_X12_has _ _ N _ _ _ q.1 q.2 e) ?_
  refine v_icmp_eq (tgt := 79) C dX12_second_71 (by decide) (fun c => ?_) (fun c => ?_)
  · replace h := ifT h c
    exact v_sb (p_X12_second_79 C F h) ⟨rfl, rfl, trivial⟩
  · replace h := ifF h c
    refine v_aload_n C dX12_second_74 rfl ?_
    refine v_iload_n C dX12_second_75 rfl ?_
    obtain ⟨b, e0, h⟩ := ob h
    obtain ⟨q, e, h⟩ := ob h
    refine v_callV (As := [_]) C dX12_second_76 cf_X12_460 (rm_X12_second_X12_skip) ⟨rfl, rfl⟩ e0 rfl (Nat.le_of_ble_eq_true rfl) (c_X12_skip _ _ N _ _ _ q.1 q.2 e) ?_
    exact v_sb (p_X12_second_79 C F h) ⟨rfl, rfl, trivial⟩
set_option maxRecDepth 100000 in
set_option maxHeartbeats 4000000 in
theorem p_X12_second_62 {x : CX} {l : Launch} {g : CG} {rv : Unit} {μ0 μ9 : Mem} (C : Cx x l g mi_X12_second) (F : Prom x g mi_X12_second μ0 none μ9) {N : Nat} {a0 : Option Nat} {a1 : Int32} {μ : Mem} (h : f_X12_second_62 N a0 a1 μ = some (rv, μ9)) : V x g 3 0 0 μ 62 [(0, aR a0), (1, aI a1)] [] := by
  unfold f_X12_second_62 at h
  refine v_iconst (v := 0) C dX12_second_62 rfl ?_
  exact v_sb (p_X12_second_63 C F h) ⟨rfl, rfl, trivial⟩
set_option maxRecDepth 100000 in
set_option maxHeartbeats 4000000 in
theorem p_X12_second_58 {x : CX} {l : Launch} {g : CG} {rv : Unit} {μ0 μ9 : Mem} (C : Cx x l g mi_X12_second) (F : Prom x g mi_X12_second μ0 none μ9) {N : Nat} {a0 : Option Nat} {a1 : Int32} {μ : Mem} (h : f_X12_second_58 N a0 a1 μ = some (rv, μ9)) : V x g 3 0 0 μ 58 [(0, aR a0), (1, aI a1)] [] := by
  unfold f_X12_second_58 at h
  refine v_iconst (v := 1) C dX12_second_58 rfl ?_
  refine v_goto (tgt := 63) C dX12_second_59 (by decide) ?_
  exact v_sb (p_X12_second_63 C F h) ⟨rfl, rfl, trivial⟩
set_option maxRecDepth 100000 in
set_option maxHeartbeats 4000000 in
theorem p_X12_second_39 {x : CX} {l : Launch} {g : CG} {rv : Unit} {μ0 μ9 : Mem} (C : Cx x l g mi_X12_second) (F : Prom x g mi_X12_second μ0 none μ9) {N : Nat} {a0 : Option Nat} {a1 : Int32} {μ : Mem} (h : f_X12_second_39 N a0 a1 μ = some (rv, μ9)) : V x g 3 0 0 μ 39 [(0, aR a0), (1, aI a1)] [] := by
  unfold f_X12_second_39 at h
  refine v_aload_n C dX12_second_39 rfl ?_
  refine v_bipush (v := 16) C dX12_second_40 rfl ?_
  obtain ⟨b, e0, h⟩ := ob h
  obtain ⟨q, e, h⟩ := ob h
  refine v_callV (As := [_]) C dX12_second_42 cf_X12_463 (rm_X12_second_X12_has) ⟨rfl, rfl⟩ e0 rfl (Nat.le_of_ble_eq_true rfl) (c_X12_has _ _ N _ _ _ q.1 q.2 e) ?_
  refine v_if_eq (tgt := 62) C dX12_second_45 (by decide) (fun c => ?_) (fun c => ?_)
  · replace h := ifT h c
    exact v_sb (p_X12_second_62 C F h) ⟨rfl, rfl, trivial⟩
  · replace h := ifF h c
    refine v_aload_n C dX12_second_48 rfl ?_
    obtain ⟨v, e, h⟩ := ob h
    refine v_getR C dX12_second_49 gf_X12_290 e ?_
    refine v_iload_n C dX12_second_52 rfl ?_
    obtain ⟨v, e, h⟩ := ob h
    refine v_iaload C dX12_second_53 e ?_
    refine v_iconst (v := 1) C dX12_second_54 rfl ?_
    refine v_icmp_ne (tgt := 62) C dX12_second_55 (by decide) (fun c => ?_) (fun c => ?_)
    · replace h := ifT h c
      exact v_sb (p_X12_second_62 C F h) ⟨rfl, rfl, trivial⟩
    · replace h := ifF h c
      exact v_sb (p_X12_second_58 C F h) ⟨rfl, rfl, trivial⟩
set_option maxRecDepth 100000 in
set_option maxHeartbeats 4000000 in
theorem p_X12_second_21 {x : CX} {l : Launch} {g : CG} {rv : Unit} {μ0 μ9 : Mem} (C : Cx x l g mi_X12_second) (F : Prom x g mi_X12_second μ0 none μ9) {N : Nat} {a0 : Option Nat} {a1 : Int32} {μ : Mem} (h : f_X12_second_21 N a0 a1 μ = some (rv, μ9)) : V x g 3 0 0 μ 21 [(0, aR a0), (1, aI a1)] [] := by
  unfold f_X12_second_21 at h
  refine v_aload_n C dX12_second_21 rfl ?_
  refine v_bipush (v := 32) C dX12_second_22 rfl ?_
  obtain ⟨b, e0, h⟩ := ob h
  obtain ⟨q, e, h⟩ := ob h
  refine v_callV (As := [_]) C dX12_second_24 cf_X12_463 (rm_X12_second_X12_has) ⟨rfl, rfl⟩ e0 rfl (Nat.le_of_ble_eq_true rfl) (c_X12_has _ _ N _ _ _ q.1 q.2 e) ?_
  refine v_if_eq (tgt := 39) C dX12_second_27 (by decide) (fun c => ?_) (fun c => ?_)
  · replace h := ifT h c
    exact v_sb (p_X12_second_39 C F h) ⟨rfl, rfl, trivial⟩
  · replace h := ifF h c
    refine v_aload_n C dX12_second_30 rfl ?_
    obtain ⟨v, e, h⟩ := ob h
    refine v_getR C dX12_second_31 gf_X12_281 e ?_
    refine v_iload_n C dX12_second_34 rfl ?_
    obtain ⟨v, e, h⟩ := ob h
    refine v_iaload C dX12_second_35 e ?_
    refine v_if_eq (tgt := 58) C dX12_second_36 (by decide) (fun c => ?_) (fun c => ?_)
    · replace h := ifT h c
      exact v_sb (p_X12_second_58 C F h) ⟨rfl, rfl, trivial⟩
    · replace h := ifF h c
      exact v_sb (p_X12_second_39 C F h) ⟨rfl, rfl, trivial⟩
set_option maxRecDepth 100000 in
set_option maxHeartbeats 4000000 in
theorem p_X12_second {x : CX} {l : Launch} {g : CG} {rv : Unit} {μ0 μ9 : Mem} (C : Cx x l g mi_X12_second) (F : Prom x g mi_X12_second μ0 none μ9) {N : Nat} {a0 : Option Nat} {a1 : Int32} {μ : Mem} (h : f_X12_second N a0 a1 μ = some (rv, μ9)) : V x g 3 0 0 μ 0 [(0, aR a0), (1, aI a1)] [] := by
  unfold f_X12_second at h
  refine v_aload_n C dX12_second_0 rfl ?_
  refine v_bipush (v := 64) C dX12_second_1 rfl ?_
  obtain ⟨b, e0, h⟩ := ob h
  obtain ⟨q, e, h⟩ := ob h
  refine v_callV (As := [_]) C dX12_second_3 cf_X12_463 (rm_X12_second_X12_has) ⟨rfl, rfl⟩ e0 rfl (Nat.le_of_ble_eq_true rfl) (c_X12_has _ _ N _ _ _ q.1 q.2 e) ?_
  refine v_if_eq (tgt := 21) C dX12_second_6 (by decide) (fun c => ?_) (fun c => ?_)
  · replace h := ifT h c
    exact v_sb (p_X12_second_21 C F h) ⟨rfl, rfl, trivial⟩
  · replace h := ifF h c
    refine v_aload_n C dX12_second_9 rfl ?_
    obtain ⟨v, e, h⟩ := ob h
    refine v_getR C dX12_second_10 gf_X12_281 e ?_
    refine v_iload_n C dX12_second_13 rfl ?_
    obtain ⟨v, e, h⟩ := ob h
    refine v_iaload C dX12_second_14 e ?_
    refine v_sipush (v := 2047) C dX12_second_15 rfl ?_
    refine v_icmp_gt (tgt := 58) C dX12_second_18 (by decide) (fun c => ?_) (fun c => ?_)
    · replace h := ifT h c
      exact v_sb (p_X12_second_58 C F h) ⟨rfl, rfl, trivial⟩
    · replace h := ifF h c
      exact v_sb (p_X12_second_21 C F h) ⟨rfl, rfl, trivial⟩
set_option maxRecDepth 100000 in
set_option maxHeartbeats 4000000 in
theorem c_X12_second (l : Launch) (g : CG) (N : Nat) (a0 : Option Nat) (a1 : Int32) (μ : Mem) (rv : Unit) (μ9 : Mem) (h : f_X12_second N a0 a1 μ = some (rv, μ9)) : Ct l yX12_second mi_X12_second g [aR a0, aI a1] μ none μ9 := ct_of ⟨by decide, rfl, rfl⟩ (Nat.le_of_ble_eq_true rfl) fun x C F => p_X12_second C F h
def f_X12_word_ (N : Nat) (a0 : Option Nat) (a1 : Int32) (μ : Mem) : Option (Int32 × Mem) :=
  (mfR μ a0 12 45).bind fun v1 =>
  (maI μ 0 v1 a1).bind fun v2 =>
  (mck μ a0 12).bind fun b4 =>
  (f_X12_load N (some b4) a1 v2 μ).bind fun q3 =>
  (mfR q3.2 a0 12 45).bind fun v5 =>
  (mfR q3.2 a0 12 45).bind fun v6 =>
  (maI q3.2 0 v6 a1).bind fun v7 =>
  (mbI q3.2 0 v5 a1 ((v7 + 1) &&& 4095)).bind fun μ8 =>
  some (q3.1, μ8)
set_option maxRecDepth 100000 in
set_option maxHeartbeats 4000000 in
theorem p_X12_word_ {x : CX} {l : Launch} {g : CG} {rv : Int32} {μ0 μ9 : Mem} (C : Cx x l g mi_X12_word_) (F : Prom x g mi_X12_word_ μ0 (some (aI rv)) μ9) {N : Nat} {a0 : Option Nat} {a1 : Int32} {μ : Mem} (h : f_X12_word_ N a0 a1 μ = some (rv, μ9)) : V x g 3 0 0 μ 0 [(0, aR a0), (1, aI a1)] [] := by
  unfold f_X12_word_ at h
  refine v_aload_n C dX12_word__0 rfl ?_
  refine v_iload_n C dX12_word__1 rfl ?_
  refine v_aload_n C dX12_word__2 rfl ?_
  obtain ⟨v, e, h⟩ := ob h
  refine v_getR C dX12_word__3 gf_X12_287 e ?_
  refine v_iload_n C dX12_word__6 rfl ?_
  obtain ⟨v, e, h⟩ := ob h
  refine v_iaload C dX12_word__7 e ?_
  obtain ⟨b, e0, h⟩ := ob h
  obtain ⟨q, e, h⟩ := ob h
  refine v_callV (As := [_, _]) C dX12_word__8 cf_X12_399 (rm_X12_word__X12_load) ⟨rfl, rfl⟩ e0 rfl (Nat.le_of_ble_eq_true rfl) (c_X12_load _ _ N _ _ _ _ q.1 q.2 e) ?_
  refine v_istore_n C dX12_word__11 (by decide) ?_
  refine v_aload_n C dX12_word__12 rfl ?_
  obtain ⟨v, e, h⟩ := ob h
  refine v_getR C dX12_word__13 gf_X12_287 e ?_
  refine v_iload_n C dX12_word__16 rfl ?_
  refine v_aload_n C dX12_word__17 rfl ?_
  obtain ⟨v, e, h⟩ := ob h
  refine v_getR C dX12_word__18 gf_X12_287 e ?_
  refine v_iload_n C dX12_word__21 rfl ?_
  obtain ⟨v, e, h⟩ := ob h
  refine v_iaload C dX12_word__22 e ?_
  refine v_iconst (v := 1) C dX12_word__23 rfl ?_
  refine v_iadd C dX12_word__24 ?_
  refine v_sipush (v := 4095) C dX12_word__25 rfl ?_
  refine v_iand C dX12_word__28 ?_
  obtain ⟨m, e, h⟩ := ob h
  refine v_iastore C dX12_word__29 e ?_
  refine v_iload_n C dX12_word__30 rfl ?_
  exact v_iret C F ⟨rfl, rfl, Nat.le_refl _⟩ dX12_word__31 h
set_option maxRecDepth 100000 in
set_option maxHeartbeats 4000000 in
theorem c_X12_word_ (l : Launch) (g : CG) (N : Nat) (a0 : Option Nat) (a1 : Int32) (μ : Mem) (rv : Int32) (μ9 : Mem) (h : f_X12_word_ N a0 a1 μ = some (rv, μ9)) : Ct l yX12_word_ mi_X12_word_ g [aR a0, aI a1] μ (some (aI rv)) μ9 := ct_of ⟨by decide, rfl, rfl⟩ (Nat.le_of_ble_eq_true rfl) fun x C F => p_X12_word_ C F h
def f_X12_third_324 (N : Nat) (a0 : Option Nat) (a1 : Int32) (a4 : Int32) (μ : Mem) : Option (Unit × Mem) :=
  (mfR μ a0 12 43).bind fun v1 =>
  (mbI μ 0 v1 a1 (a4 >>> ((12 : Int32) &&& 31))).bind fun μ2 =>
  (mfR μ2 a0 12 44).bind fun v3 =>
  (mbI μ2 0 v3 a1 (a4 &&& 4095)).bind fun μ4 =>
  some ((), μ4)
def f_X12_third_318 (N : Nat) (k246 : (Option Nat) → Int32 → Int32 → Int32 → Int32 → Mem → Option (Unit × Mem)) (a0 : Option Nat) (a1 : Int32) (a2 : Int32) (a4 : Int32) (a5 : Int32) (μ : Mem) : Option (Unit × Mem) :=
  k246 a0 a1 a2 a4 (a5 + (-1)) μ
def f_X12_third_301 (N : Nat) (k246 : (Option Nat) → Int32 → Int32 → Int32 → Int32 → Mem → Option (Unit × Mem)) (a0 : Option Nat) (a1 : Int32) (a2 : Int32) (a4 : Int32) (a5 : Int32) (s0 : Option Nat) (s1 : Int32) (s2 : Int32) (μ : Mem) : Option (Unit × Mem) :=
  (mbI μ 0 s0 s1 s2).bind fun μ1 =>
  (mfR μ1 a0 12 46).bind fun v2 =>
  (maI μ1 0 v2 a1).bind fun v3 =>
  f_X12_third_318 N k246 a0 a1 a2 ((a4 >>> ((1 : Int32) &&& 31)) ||| (v3 <<< ((23 : Int32) &&& 31))) a5 μ1
def H_X12_third_246 (N : Nat) (k246 : (Option Nat) → Int32 → Int32 → Int32 → Int32 → Mem → Option (Unit × Mem)) (a0 : Option Nat) (a1 : Int32) (a2 : Int32) (a4 : Int32) (a5 : Int32) (μ : Mem) : Option (Unit × Mem) :=
  if a5 ≤ 0 then
    f_X12_third_324 N a0 a1 a4 μ
  else
    if ¬ a2 = (10 : Int32) then
      (mfR μ a0 12 46).bind fun v1 =>
      if ¬ a2 = (12 : Int32) then
        f_X12_third_301 N k246 a0 a1 a2 a4 a5 v1 a1 0 μ
      else
        f_X12_third_301 N k246 a0 a1 a2 a4 a5 v1 a1 (a4 >>> ((23 : Int32) &&& 31)) μ
    else
      (mfR μ a0 12 46).bind fun v2 =>
      (mbI μ 0 v2 a1 (a4 >>> ((23 : Int32) &&& 31))).bind fun μ3 =>
      f_X12_third_318 N k246 a0 a1 a2 ((a4 <<< ((1 : Int32) &&& 31)) &&& ((16777215))) a5 μ3
def L_X12_third_246 (N : Nat) : Nat → (Option Nat) → Int32 → Int32 → Int32 → Int32 → Mem → Option (Unit × Mem)
  | 0 => fun _ _ _ _ _ _ => none
  | n + 1 => H_X12_third_246 N (L_X12_third_246 N n)
def f_X12_third_119 (N : Nat) (a0 : Option Nat) (a1 : Int32) (μ : Mem) : Option (Unit × Mem) :=
  (mfI μ a0 12 78).bind fun v1 =>
  if ¬ (v1 &&& 14) = 0 then
    (mck μ a0 12).bind fun b3 =>
    (f_X12_word_ N (some b3) a1 μ).bind fun q2 =>
    (mfR q2.2 a0 12 43).bind fun v4 =>
    (maI q2.2 0 v4 a1).bind fun v5 =>
    (mfR q2.2 a0 12 44).bind fun v6 =>
    (maI q2.2 0 v6 a1).bind fun v7 =>
    if ¬ (v1 &&& 14) = (4 : Int32) then
      if ¬ (v1 &&& 14) = (6 : Int32) then
        L_X12_third_246 N N a0 a1 (v1 &&& 14) ((4096 * v5) + v7) ((q2.1 &&& 31) + 1) q2.2
      else
        (mfR q2.2 a0 12 43).bind fun v8 =>
        (maI q2.2 0 v8 a1).bind fun v9 =>
        if v9 < q2.1 then
          if (q2.1 : Int32) = 0 then none else
          if (q2.1 : Int32) = 0 then none else
          (mfR q2.2 a0 12 46).bind fun v10 =>
          (mbI q2.2 0 v10 a1 0).bind fun μ11 =>
          f_X12_third_324 N a0 a1 (((((4096 * v5) + v7) - ((4096 * v5) + v7) / q2.1 * q2.1) * 4096) + (((4096 * v5) + v7) / q2.1)) μ11
        else
          (mfR q2.2 a0 12 46).bind fun v12 =>
          (mbI q2.2 0 v12 a1 1).bind fun μ13 =>
          some ((), μ13)
    else
      (mfR q2.2 a0 12 44).bind fun v14 =>
      (maI q2.2 0 v14 a1).bind fun v15 =>
      (mfR q2.2 a0 12 43).bind fun v16 =>
      (maI q2.2 0 v16 a1).bind fun v17 =>
      (mfR q2.2 a0 12 46).bind fun v18 =>
      (mbI q2.2 0 v18 a1 0).bind fun μ19 =>
      f_X12_third_324 N a0 a1 ((q2.1 * v15) + v17) μ19
  else
    some ((), μ)
def f_X12_third_64 (N : Nat) (a0 : Option Nat) (a1 : Int32) (μ : Mem) : Option (Unit × Mem) :=
  (mck μ a0 12).bind fun b2 =>
  (f_X12_has N (some b2) 64 μ).bind fun q1 =>
  if q1.1 = 0 then
    (mck q1.2 a0 12).bind fun b4 =>
    (f_X12_has N (some b4) 16 q1.2).bind fun q3 =>
    if q3.1 = 0 then
      f_X12_third_119 N a0 a1 q3.2
    else
      (mfR q3.2 a0 12 44).bind fun v5 =>
      (mfR q3.2 a0 12 43).bind fun v6 =>
      (maI q3.2 0 v6 a1).bind fun v7 =>
      (mbI q3.2 0 v5 a1 v7).bind fun μ8 =>
      (mfR μ8 a0 12 43).bind fun v9 =>
      (mbI μ8 0 v9 a1 0).bind fun μ10 =>
      f_X12_third_119 N a0 a1 μ10
  else
    (mfR q1.2 a0 12 43).bind fun v11 =>
    (maI q1.2 0 v11 a1).bind fun v12 =>
    (mfR q1.2 a0 12 44).bind fun v13 =>
    (maI q1.2 0 v13 a1).bind fun v14 =>
    (mbI q1.2 0 v11 a1 (v12 ||| v14)).bind fun μ15 =>
    f_X12_third_119 N a0 a1 μ15
def f_X12_third_17 (N : Nat) (a0 : Option Nat) (a1 : Int32) (μ : Mem) : Option (Unit × Mem) :=
  (mck μ a0 12).bind fun b2 =>
  (f_X12_has N (some b2) 64 μ).bind fun q1 =>
  if q1.1 = 0 then
    f_X12_third_64 N a0 a1 q1.2
  else
    (mck q1.2 a0 12).bind fun b4 =>
    (f_X12_has N (some b4) 16 q1.2).bind fun q3 =>
    if q3.1 = 0 then
      f_X12_third_64 N a0 a1 q3.2
    else
      (mfR q3.2 a0 12 43).bind fun v5 =>
      (maI q3.2 0 v5 a1).bind fun v6 =>
      (mfR q3.2 a0 12 43).bind fun v7 =>
      (mfR q3.2 a0 12 44).bind fun v8 =>
      (maI q3.2 0 v8 a1).bind fun v9 =>
      (mbI q3.2 0 v7 a1 v9).bind fun μ10 =>
      (mfR μ10 a0 12 44).bind fun v11 =>
      (mbI μ10 0 v11 a1 v6).bind fun μ12 =>
      f_X12_third_119 N a0 a1 μ12
def f_X12_third (N : Nat) (a0 : Option Nat) (a1 : Int32) (μ : Mem) : Option (Unit × Mem) :=
  (mck μ a0 12).bind fun b2 =>
  (f_X12_has N (some b2) 128 μ).bind fun q1 =>
  if q1.1 = 0 then
    f_X12_third_17 N a0 a1 q1.2
  else
    (mfR q1.2 a0 12 43).bind fun v3 =>
    (mbI q1.2 0 v3 a1 0).bind fun μ4 =>
    f_X12_third_17 N a0 a1 μ4
set_option maxRecDepth 100000 in
set_option maxHeartbeats 4000000 in
theorem p_X12_third_324 {x : CX} {l : Launch} {g : CG} {rv : Unit} {μ0 μ9 : Mem} (C : Cx x l g mi_X12_third) (F : Prom x g mi_X12_third μ0 none μ9) {N : Nat} {a0 : Option Nat} {a1 : Int32} {a4 : Int32} {μ : Mem} (h : f_X12_third_324 N a0 a1 a4 μ = some (rv, μ9)) : V x g 6 0 0 μ 324 [(0, aR a0), (1, aI a1), (4, aI a4)] [] := by
  unfold f_X12_third_324 at h
  refine v_aload_n C dX12_third_324 rfl ?_
  obtain ⟨v, e, h⟩ := ob h
  refine v_getR C dX12_third_325 gf_X12_281 e ?_
  refine v_iload_n C dX12_third_328 rfl ?_
  refine v_iload C dX12_third_329 rfl ?_
  refine v_bipush (v := 12) C dX12_third_331 rfl ?_
  refine v_ishr C dX12_third_333 ?_
  obtain ⟨m, e, h⟩ := ob h
  refine v_iastore C dX12_third_334 e ?_
  refine v_aload_n C dX12_third_335 rfl ?_
  obtain ⟨v, e, h⟩ := ob h
  refine v_getR C dX12_third_336 gf_X12_284 e ?_
  refine v_iload_n C dX12_third_339 rfl ?_
  refine v_iload C dX12_third_340 rfl ?_
  refine v_sipush (v := 4095) C dX12_third_342 rfl ?_
  refine v_iand C dX12_third_345 ?_
  obtain ⟨m, e, h⟩ := ob h
  refine v_iastore C dX12_third_346 e ?_
  exact v_vret C F ⟨rfl, rfl, Nat.le_refl _⟩ dX12_third_347 h
set_option maxRecDepth 100000 in
set_option maxHeartbeats 4000000 in
theorem p_X12_third_318 {x : CX} {l : Launch} {g : CG} {rv : Unit} {μ0 μ9 : Mem} (C : Cx x l g mi_X12_third) (F : Prom x g mi_X12_third μ0 none μ9) {N : Nat} {k246 : (Option Nat) → Int32 → Int32 → Int32 → Int32 → Mem → Option (Unit × Mem)} (hk246 : ∀ (a0 : Option Nat) (a1 : Int32) (a2 : Int32) (a4 : Int32) (a5 : Int32) (μ : Mem), k246 a0 a1 a2 a4 a5 μ = some (rv, μ9) → V x g 6 0 0 μ 246 [(0, aR a0), (1, aI a1), (2, aI a2), (4, aI a4), (5, aI a5)] []) {a0 : Option Nat} {a1 : Int32} {a2 : Int32} {a4 : Int32} {a5 : Int32} {μ : Mem} (h : f_X12_third_318 N k246 a0 a1 a2 a4 a5 μ = some (rv, μ9)) : V x g 6 0 0 μ 318 [(0, aR a0), (1, aI a1), (2, aI a2), (4, aI a4), (5, aI a5)] [] := by
  unfold f_X12_third_318 at h
  refine v_iinc (w := -1) C dX12_third_318 rfl rfl (by decide) ?_
  refine v_goto (tgt := 246) C dX12_third_321 (by decide) ?_
  exact v_sb (hk246 _ _ _ _ _ _ h) ⟨rfl, rfl, rfl, rfl, rfl, trivial⟩
set_option maxRecDepth 100000 in
set_option maxHeartbeats 4000000 in
theorem p_X12_third_301 {x : CX} {l : Launch} {g : CG} {rv : Unit} {μ0 μ9 : Mem} (C : Cx x l g mi_X12_third) (F : Prom x g mi_X12_third μ0 none μ9) {N : Nat} {k246 : (Option Nat) → Int32 → Int32 → Int32 → Int32 → Mem → Option (Unit × Mem)} (hk246 : ∀ (a0 : Option Nat) (a1 : Int32) (a2 : Int32) (a4 : Int32) (a5 : Int32) (μ : Mem), k246 a0 a1 a2 a4 a5 μ = some (rv, μ9) → V x g 6 0 0 μ 246 [(0, aR a0), (1, aI a1), (2, aI a2), (4, aI a4), (5, aI a5)] []) {a0 : Option Nat} {a1 : Int32} {a2 : Int32} {a4 : Int32} {a5 : Int32} {s0 : Option Nat} {s1 : Int32} {s2 : Int32} {μ : Mem} (h : f_X12_third_301 N k246 a0 a1 a2 a4 a5 s0 s1 s2 μ = some (rv, μ9)) : V x g 6 0 0 μ 301 [(0, aR a0), (1, aI a1), (2, aI a2), (4, aI a4), (5, aI a5)] [aI s2, aI s1, aR s0] := by
  unfold f_X12_third_301 at h
  obtain ⟨m, e, h⟩ := ob h
  refine v_iastore C dX12_third_301 e ?_
  refine v_iload C dX12_third_302 rfl ?_
  refine v_iconst (v := 1) C dX12_third_304 rfl ?_
  refine v_ishr C dX12_third_305 ?_
  refine v_aload_n C dX12_third_306 rfl ?_
  obtain ⟨v, e, h⟩ := ob h
  refine v_getR C dX12_third_307 gf_X12_290 e ?_
  refine v_iload_n C dX12_third_310 rfl ?_
  obtain ⟨v, e, h⟩ := ob h
  refine v_iaload C dX12_third_311 e ?_
  refine v_bipush (v := 23) C dX12_third_312 rfl ?_
  refine v_ishl C dX12_third_314 ?_
  refine v_ior C dX12_third_315 ?_
  refine v_istore C dX12_third_316 (by decide) ?_
  exact v_sb (p_X12_third_318 C F hk246 h) ⟨rfl, rfl, rfl, rfl, rfl, trivial⟩
set_option maxRecDepth 100000 in
set_option maxHeartbeats 4000000 in
theorem pH_X12_third_246 {x : CX} {l : Launch} {g : CG} {rv : Unit} {μ0 μ9 : Mem} (C : Cx x l g mi_X12_third) (F : Prom x g mi_X12_third μ0 none μ9) {N : Nat} {k246 : (Option Nat) → Int32 → Int32 → Int32 → Int32 → Mem → Option (Unit × Mem)} (hk246 : ∀ (a0 : Option Nat) (a1 : Int32) (a2 : Int32) (a4 : Int32) (a5 : Int32) (μ : Mem), k246 a0 a1 a2 a4 a5 μ = some (rv, μ9) → V x g 6 0 0 μ 246 [(0, aR a0), (1, aI a1), (2, aI a2), (4, aI a4), (5, aI a5)] []) {a0 : Option Nat} {a1 : Int32} {a2 : Int32} {a4 : Int32} {a5 : Int32} {μ : Mem} (h : H_X12_third_246 N k246 a0 a1 a2 a4 a5 μ = some (rv, μ9)) : V x g 6 0 0 μ 246 [(0, aR a0), (1, aI a1), (2, aI a2), (4, aI a4), (5, aI a5)] [] := by
  unfold H_X12_third_246 at h
  refine v_iload C dX12_third_246 rfl ?_
  refine v_if_le (tgt := 324) C dX12_third_248 (by decide) (fun c => ?_) (fun c => ?_)
  · replace h := ifT h c
    exact v_sb (p_X12_third_324 C F h) ⟨rfl, rfl, rfl, trivial⟩
  · replace h := ifF h c
    refine v_iload_n C dX12_third_251 rfl ?_
    refine v_bipush (v := 10) C dX12_third_252 rfl ?_
    refine v_icmp_ne (tgt := 281) C dX12_third_254 (by decide) (fun c => ?_) (fun c => ?_)
    · replace h := ifT h c
      refine v_aload_n C dX12_third_281 rfl ?_
      obtain ⟨v, e, h⟩ := ob h
      refine v_getR C dX12_third_282 gf_X12_290 e ?_
      refine v_iload_n C dX12_third_285 rfl ?_
      refine v_iload_n C dX12_third_286 rfl ?_
      refine v_bipush (v := 12) C dX12_third_287 rfl ?_
      refine v_icmp_ne (tgt := 300) C dX12_third_289 (by decide) (fun c => ?_) (fun c => ?_)
      · replace h := ifT h c
        refine v_iconst (v := 0) C dX12_third_300 rfl ?_
        exact v_sb (p_X12_third_301 C F hk246 h) ⟨rfl, rfl, rfl, rfl, rfl, trivial⟩
      · replace h := ifF h c
        refine v_iload C dX12_third_292 rfl ?_
        refine v_bipush (v := 23) C dX12_third_294 rfl ?_
        refine v_ishr C dX12_third_296 ?_
        refine v_goto (tgt := 301) C dX12_third_297 (by decide) ?_
        exact v_sb (p_X12_third_301 C F hk246 h) ⟨rfl, rfl, rfl, rfl, rfl, trivial⟩
    · replace h := ifF h c
      refine v_aload_n C dX12_third_257 rfl ?_
      obtain ⟨v, e, h⟩ := ob h
      refine v_getR C dX12_third_258 gf_X12_290 e ?_
      refine v_iload_n C dX12_third_261 rfl ?_
      refine v_iload C dX12_third_262 rfl ?_
      refine v_bipush (v := 23) C dX12_third_264 rfl ?_
      refine v_ishr C dX12_third_266 ?_
      obtain ⟨m, e, h⟩ := ob h
      refine v_iastore C dX12_third_267 e ?_
      refine v_iload C dX12_third_268 rfl ?_
      refine v_iconst (v := 1) C dX12_third_270 rfl ?_
      refine v_ishl C dX12_third_271 ?_
      refine v_ldcw C dX12_third_272 kc_X12_468 ?_
      refine v_iand C dX12_third_275 ?_
      refine v_istore C dX12_third_276 (by decide) ?_
      refine v_goto (tgt := 318) C dX12_third_278 (by decide) ?_
      exact v_sb (p_X12_third_318 C F hk246 h) ⟨rfl, rfl, rfl, rfl, rfl, trivial⟩
set_option maxRecDepth 100000 in
set_option maxHeartbeats 4000000 in
theorem pL_X12_third_246 {x : CX} {l : Launch} {g : CG} {rv : Unit} {μ0 μ9 : Mem} (C : Cx x l g mi_X12_third) (F : Prom x g mi_X12_third μ0 none μ9) (N : Nat) (n : Nat) : ∀ (a0 : Option Nat) (a1 : Int32) (a2 : Int32) (a4 : Int32) (a5 : Int32) (μ : Mem), L_X12_third_246 N n a0 a1 a2 a4 a5 μ = some (rv, μ9) → V x g 6 0 0 μ 246 [(0, aR a0), (1, aI a1), (2, aI a2), (4, aI a4), (5, aI a5)] [] := by
  induction n with
  | zero => intro a0 a1 a2 a4 a5 μ h; cases h
  | succ n ih => intro a0 a1 a2 a4 a5 μ h; exact pH_X12_third_246 C F ih h
set_option maxRecDepth 100000 in
set_option maxHeartbeats 4000000 in
theorem p_X12_third_119 {x : CX} {l : Launch} {g : CG} {rv : Unit} {μ0 μ9 : Mem} (C : Cx x l g mi_X12_third) (F : Prom x g mi_X12_third μ0 none μ9) {N : Nat} {a0 : Option Nat} {a1 : Int32} {μ : Mem} (h : f_X12_third_119 N a0 a1 μ = some (rv, μ9)) : V x g 6 0 0 μ 119 [(0, aR a0), (1, aI a1)] [] := by
  unfold f_X12_third_119 at h
  refine v_aload_n C dX12_third_119 rfl ?_
  obtain ⟨v, e, h⟩ := ob h
  refine v_getI C dX12_third_120 gf_X12_438 e ?_
  refine v_bipush (v := 14) C dX12_third_123 rfl ?_
  refine v_iand C dX12_third_125 ?_
  refine v_istore_n C dX12_third_126 (by decide) ?_
  refine v_iload_n C dX12_third_127 rfl ?_
  refine v_if_ne (tgt := 132) C dX12_third_128 (by decide) (fun c => ?_) (fun c => ?_)
  · replace h := ifT h c
    refine v_aload_n C dX12_third_132 rfl ?_
    refine v_iload_n C dX12_third_133 rfl ?_
    obtain ⟨b, e0, h⟩ := ob h
    obtain ⟨q, e, h⟩ := ob h
    refine v_callV (As := [_]) C dX12_third_134 cf_X12_466 (rm_X12_third_X12_word_) ⟨rfl, rfl⟩ e0 rfl (Nat.le_of_ble_eq_true rfl) (c_X12_word_ _ _ N _ _ _ q.1 q.2 e) ?_
    refine v_istore_n C dX12_third_137 (by decide) ?_
    refine v_sipush (v := 4096) C dX12_third_138 rfl ?_
    refine v_aload_n C dX12_third_141 rfl ?_
    obtain ⟨v, e, h⟩ := ob h
    refine v_getR C dX12_third_142 gf_X12_281 e ?_
    refine v_iload_n C dX12_third_145 rfl ?_
    obtain ⟨v, e, h⟩ := ob h
    refine v_iaload C dX12_third_146 e ?_
    refine v_imul C dX12_third_147 ?_
    refine v_aload_n C dX12_third_148 rfl ?_
    obtain ⟨v, e, h⟩ := ob h
    refine v_getR C dX12_third_149 gf_X12_284 e ?_
    refine v_iload_n C dX12_third_152 rfl ?_
    obtain ⟨v, e, h⟩ := ob h
    refine v_iaload C dX12_third_153 e ?_
    refine v_iadd C dX12_third_154 ?_
    refine v_istore C dX12_third_155 (by decide) ?_
    refine v_iload_n C dX12_third_157 rfl ?_
    refine v_iconst (v := 4) C dX12_third_158 rfl ?_
    refine v_icmp_ne (tgt := 189) C dX12_third_159 (by decide) (fun c => ?_) (fun c => ?_)
    · replace h := ifT h c
      refine v_iload_n C dX12_third_189 rfl ?_
      refine v_bipush (v := 6) C dX12_third_190 rfl ?_
      refine v_icmp_ne (tgt := 238) C dX12_third_192 (by decide) (fun c => ?_) (fun c => ?_)
      · replace h := ifT h c
        refine v_iload_n C dX12_third_238 rfl ?_
        refine v_bipush (v := 31) C dX12_third_239 rfl ?_
        refine v_iand C dX12_third_241 ?_
        refine v_iconst (v := 1) C dX12_third_242 rfl ?_
        refine v_iadd C dX12_third_243 ?_
        refine v_istore C dX12_third_244 (by decide) ?_
        exact v_sb (pL_X12_third_246 C F N N _ _ _ _ _ _ h) ⟨rfl, rfl, rfl, rfl, rfl, trivial⟩
      · replace h := ifF h c
        refine v_aload_n C dX12_third_195 rfl ?_
        obtain ⟨v, e, h⟩ := ob h
        refine v_getR C dX12_third_196 gf_X12_281 e ?_
        refine v_iload_n C dX12_third_199 rfl ?_
        obtain ⟨v, e, h⟩ := ob h
        refine v_iaload C dX12_third_200 e ?_
        refine v_iload_n C dX12_third_201 rfl ?_
        refine v_icmp_lt (tgt := 213) C dX12_third_202 (by decide) (fun c => ?_) (fun c => ?_)
        · replace h := ifT h c
          refine v_iload C dX12_third_213 rfl ?_
          refine v_iload_n C dX12_third_215 rfl ?_
          obtain ⟨c0, h⟩ := oz h
          refine v_irem C dX12_third_216 c0 ?_
          refine v_sipush (v := 4096) C dX12_third_217 rfl ?_
          refine v_imul C dX12_third_220 ?_
          refine v_iload C dX12_third_221 rfl ?_
          refine v_iload_n C dX12_third_223 rfl ?_
          obtain ⟨c0, h⟩ := oz h
          refine v_idiv C dX12_third_224 c0 ?_
          refine v_iadd C dX12_third_225 ?_
          refine v_istore C dX12_third_226 (by decide) ?_
          refine v_aload_n C dX12_third_228 rfl ?_
          obtain ⟨v, e, h⟩ := ob h
          refine v_getR C dX12_third_229 gf_X12_290 e ?_
          refine v_iload_n C dX12_third_232 rfl ?_
          refine v_iconst (v := 0) C dX12_third_233 rfl ?_
          obtain ⟨m, e, h⟩ := ob h
          refine v_iastore C dX12_third_234 e ?_
          refine v_goto (tgt := 324) C dX12_third_235 (by decide) ?_
          exact v_sb (p_X12_third_324 C F h) ⟨rfl, rfl, rfl, trivial⟩
        · replace h := ifF h c
          refine v_aload_n C dX12_third_205 rfl ?_
          obtain ⟨v, e, h⟩ := ob h
          refine v_getR C dX12_third_206 gf_X12_290 e ?_
          refine v_iload_n C dX12_third_209 rfl ?_
          refine v_iconst (v := 1) C dX12_third_210 rfl ?_
          obtain ⟨m, e, h⟩ := ob h
          refine v_iastore C dX12_third_211 e ?_
          exact v_vret C F ⟨rfl, rfl, Nat.le_refl _⟩ dX12_third_212 h
    · replace h := ifF h c
      refine v_iload_n C dX12_third_162 rfl ?_
      refine v_aload_n C dX12_third_163 rfl ?_
      obtain ⟨v, e, h⟩ := ob h
      refine v_getR C dX12_third_164 gf_X12_284 e ?_
      refine v_iload_n C dX12_third_167 rfl ?_
      obtain ⟨v, e, h⟩ := ob h
      refine v_iaload C dX12_third_168 e ?_
      refine v_imul C dX12_third_169 ?_
      refine v_aload_n C dX12_third_170 rfl ?_
      obtain ⟨v, e, h⟩ := ob h
      refine v_getR C dX12_third_171 gf_X12_281 e ?_
      refine v_iload_n C dX12_third_174 rfl ?_
      obtain ⟨v, e, h⟩ := ob h
      refine v_iaload C dX12_third_175 e ?_
      refine v_iadd C dX12_third_176 ?_
      refine v_istore C dX12_third_177 (by decide) ?_
      refine v_aload_n C dX12_third_179 rfl ?_
      obtain ⟨v, e, h⟩ := ob h
      refine v_getR C dX12_third_180 gf_X12_290 e ?_
      refine v_iload_n C dX12_third_183 rfl ?_
      refine v_iconst (v := 0) C dX12_third_184 rfl ?_
      obtain ⟨m, e, h⟩ := ob h
      refine v_iastore C dX12_third_185 e ?_
      refine v_goto (tgt := 324) C dX12_third_186 (by decide) ?_
      exact v_sb (p_X12_third_324 C F h) ⟨rfl, rfl, rfl, trivial⟩
  · replace h := ifF h c
    exact v_vret C F ⟨rfl, rfl, Nat.le_refl _⟩ dX12_third_131 h
set_option maxRecDepth 100000 in
set_option maxHeartbeats 4000000 in
theorem p_X12_third_64 {x : CX} {l : Launch} {g : CG} {rv : Unit} {μ0 μ9 : Mem} (C : Cx x l g mi_X12_third) (F : Prom x g mi_X12_third μ0 none μ9) {N : Nat} {a0 : Option Nat} {a1 : Int32} {μ : Mem} (h : f_X12_third_64 N a0 a1 μ = some (rv, μ9)) : V x g 6 0 0 μ 64 [(0, aR a0), (1, aI a1)] [] := by
  unfold f_X12_third_64 at h
  refine v_aload_n C dX12_third_64 rfl ?_
  refine v_bipush (v := 64) C dX12_third_65 rfl ?_
  obtain ⟨b, e0, h⟩ := ob h
  obtain ⟨q, e, h⟩ := ob h
  refine v_callV (As := [_]) C dX12_third_67 cf_X12_463 (rm_X12_third_X12_has) ⟨rfl, rfl⟩ e0 rfl (Nat.le_of_ble_eq_true rfl) (c_X12_has _ _ N _ _ _ q.1 q.2 e) ?_
  refine v_if_eq (tgt := 91) C dX12_third_70 (by decide) (fun c => ?_) (fun c => ?_)
  · replace h := ifT h c
    refine v_aload_n C dX12_third_91 rfl ?_
    refine v_bipush (v := 16) C dX12_third_92 rfl ?_
    obtain ⟨b, e0, h⟩ := ob h
    obtain ⟨q, e, h⟩ := ob h
    refine v_callV (As := [_]) C dX12_third_94 cf_X12_463 (rm_X12_third_X12_has) ⟨rfl, rfl⟩ e0 rfl (Nat.le_of_ble_eq_true rfl) (c_X12_has _ _ N _ _ _ q.1 q.2 e) ?_
    refine v_if_eq (tgt := 119) C dX12_third_97 (by decide) (fun c => ?_) (fun c => ?_)
    · replace h := ifT h c
      exact v_sb (p_X12_third_119 C F h) ⟨rfl, rfl, trivial⟩
    · replace h := ifF h c
      refine v_aload_n C dX12_third_100 rfl ?_
      obtain ⟨v, e, h⟩ := ob h
      refine v_getR C dX12_third_101 gf_X12_284 e ?_
      refine v_iload_n C dX12_third_104 rfl ?_
      refine v_aload_n C dX12_third_105 rfl ?_
      obtain ⟨v, e, h⟩ := ob h
      refine v_getR C dX12_third_106 gf_X12_281 e ?_
      refine v_iload_n C dX12_third_109 rfl ?_
      obtain ⟨v, e, h⟩ := ob h
      refine v_iaload C dX12_third_110 e ?_
      obtain ⟨m, e, h⟩ := ob h
      refine v_iastore C dX12_third_111 e ?_
      refine v_aload_n C dX12_third_112 rfl ?_
      obtain ⟨v, e, h⟩ := ob h
      refine v_getR C dX12_third_113 gf_X12_281 e ?_
      refine v_iload_n C dX12_third_116 rfl ?_
      refine v_iconst (v := 0) C dX12_third_117 rfl ?_
      obtain ⟨m, e, h⟩ := ob h
      refine v_iastore C dX12_third_118 e ?_
      exact v_sb (p_X12_third_119 C F h) ⟨rfl, rfl, trivial⟩
  · replace h := ifF h c
    refine v_aload_n C dX12_third_73 rfl ?_
    obtain ⟨v, e, h⟩ := ob h
    refine v_getR C dX12_third_74 gf_X12_281 e ?_
    refine v_iload_n C dX12_third_77 rfl ?_
    refine v_dup2 C dX12_third_78 rfl rfl ?_
    obtain ⟨v, e, h⟩ := ob h
    refine v_iaload C dX12_third_79 e ?_
    refine v_aload_n C dX12_third_80 rfl ?_
    obtain ⟨v, e, h⟩ := ob h
    refine v_getR C dX12_third_81 gf_X12_284 e ?_
    refine v_iload_n C dX12_third_84 rfl ?_
    obtain ⟨v, e, h⟩ := ob h
    refine v_iaload C dX12_third_85 e ?_
    refine v_ior C dX12_third_86 ?_
    obtain ⟨m, e, h⟩ := ob h
    refine v_iastore C dX12_third_87 e ?_
    refine v_goto (tgt := 119) C dX12_third_88 (by decide) ?_
    exact v_sb (p_X12_third_119 C F h) ⟨rfl, rfl, trivial⟩
set_option maxRecDepth 100000 in
set_option maxHeartbeats 4000000 in
theorem p_X12_third_17 {x : CX} {l : Launch} {g : CG} {rv : Unit} {μ0 μ9 : Mem} (C : Cx x l g mi_X12_third) (F : Prom x g mi_X12_third μ0 none μ9) {N : Nat} {a0 : Option Nat} {a1 : Int32} {μ : Mem} (h : f_X12_third_17 N a0 a1 μ = some (rv, μ9)) : V x g 6 0 0 μ 17 [(0, aR a0), (1, aI a1)] [] := by
  unfold f_X12_third_17 at h
  refine v_aload_n C dX12_third_17 rfl ?_
  refine v_bipush (v := 64) C dX12_third_18 rfl ?_
  obtain ⟨b, e0, h⟩ := ob h
  obtain ⟨q, e, h⟩ := ob h
  refine v_callV (As := [_]) C dX12_third_20 cf_X12_463 (rm_X12_third_X12_has) ⟨rfl, rfl⟩ e0 rfl (Nat.le_of_ble_eq_true rfl) (c_X12_has _ _ N _ _ _ q.1 q.2 e) ?_
  refine v_if_eq (tgt := 64) C dX12_third_23 (by decide) (fun c => ?_) (fun c => ?_)
  · replace h := ifT h c
    exact v_sb (p_X12_third_64 C F h) ⟨rfl, rfl, trivial⟩
  · replace h := ifF h c
    refine v_aload_n C dX12_third_26 rfl ?_
    refine v_bipush (v := 16) C dX12_third_27 rfl ?_
    obtain ⟨b, e0, h⟩ := ob h
    obtain ⟨q, e, h⟩ := ob h
    refine v_callV (As := [_]) C dX12_third_29 cf_X12_463 (rm_X12_third_X12_has) ⟨rfl, rfl⟩ e0 rfl (Nat.le_of_ble_eq_true rfl) (c_X12_has _ _ N _ _ _ q.1 q.2 e) ?_
    refine v_if_eq (tgt := 64) C dX12_third_32 (by decide) (fun c => ?_) (fun c => ?_)
    · replace h := ifT h c
      exact v_sb (p_X12_third_64 C F h) ⟨rfl, rfl, trivial⟩
    · replace h := ifF h c
      refine v_aload_n C dX12_third_35 rfl ?_
      obtain ⟨v, e, h⟩ := ob h
      refine v_getR C dX12_third_36 gf_X12_281 e ?_
      refine v_iload_n C dX12_third_39 rfl ?_
      obtain ⟨v, e, h⟩ := ob h
      refine v_iaload C dX12_third_40 e ?_
      refine v_istore_n C dX12_third_41 (by decide) ?_
      refine v_aload_n C dX12_third_42 rfl ?_
      obtain ⟨v, e, h⟩ := ob h
      refine v_getR C dX12_third_43 gf_X12_281 e ?_
      refine v_iload_n C dX12_third_46 rfl ?_
      refine v_aload_n C dX12_third_47 rfl ?_
      obtain ⟨v, e, h⟩ := ob h
      refine v_getR C dX12_third_48 gf_X12_284 e ?_
      refine v_iload_n C dX12_third_51 rfl ?_
      obtain ⟨v, e, h⟩ := ob h
      refine v_iaload C dX12_third_52 e ?_
      obtain ⟨m, e, h⟩ := ob h
      refine v_iastore C dX12_third_53 e ?_
      refine v_aload_n C dX12_third_54 rfl ?_
      obtain ⟨v, e, h⟩ := ob h
      refine v_getR C dX12_third_55 gf_X12_284 e ?_
      refine v_iload_n C dX12_third_58 rfl ?_
      refine v_iload_n C dX12_third_59 rfl ?_
      obtain ⟨m, e, h⟩ := ob h
      refine v_iastore C dX12_third_60 e ?_
      refine v_goto (tgt := 119) C dX12_third_61 (by decide) ?_
      exact v_sb (p_X12_third_119 C F h) ⟨rfl, rfl, trivial⟩
set_option maxRecDepth 100000 in
set_option maxHeartbeats 4000000 in
theorem p_X12_third {x : CX} {l : Launch} {g : CG} {rv : Unit} {μ0 μ9 : Mem} (C : Cx x l g mi_X12_third) (F : Prom x g mi_X12_third μ0 none μ9) {N : Nat} {a0 : Option Nat} {a1 : Int32} {μ : Mem} (h : f_X12_third N a0 a1 μ = some (rv, μ9)) : V x g 6 0 0 μ 0 [(0, aR a0), (1, aI a1)] [] := by
  unfold f_X12_third at h
  refine v_aload_n C dX12_third_0 rfl ?_
  refine v_sipush (v := 128) C dX12_third_1 rfl ?_
  obtain ⟨b, e0, h⟩ := ob h
  obtain ⟨q, e, h⟩ := ob h
  refine v_callV (As := [_]) C dX12_third_4 cf_X12_463 (rm_X12_third_X12_has) ⟨rfl, rfl⟩ e0 rfl (Nat.le_of_ble_eq_true rfl) (c_X12_has _ _ N _ _ _ q.1 q.2 e) ?_
  refine v_if_eq (tgt := 17) C dX12_third_7 (by decide) (fun c => ?_) (fun c => ?_)
  · replace h := ifT h c
    exact v_sb (p_X12_third_17 C F h) ⟨rfl, rfl, trivial⟩
  · replace h := ifF h c
    refine v_aload_n C dX12_third_10 rfl ?_
    obtain ⟨v, e, h⟩ := ob h
    refine v_getR C dX12_third_11 gf_X12_281 e ?_
    refine v_iload_n C dX12_third_14 rfl ?_
    refine v_iconst (v := 0) C dX12_third_15 rfl ?_
    obtain ⟨m, e, h⟩ := ob h
    refine v_iastore C dX12_third_16 e ?_
    exact v_sb (p_X12_third_17 C F h) ⟨rfl, rfl, trivial⟩
set_option maxRecDepth 100000 in
set_option maxHeartbeats 4000000 in
theorem c_X12_third (l : Launch) (g : CG) (N : Nat) (a0 : Option Nat) (a1 : Int32) (μ : Mem) (rv : Unit) (μ9 : Mem) (h : f_X12_third N a0 a1 μ = some (rv, μ9)) : Ct l yX12_third mi_X12_third g [aR a0, aI a1] μ none μ9 := ct_of ⟨by decide, rfl, rfl⟩ (Nat.le_of_ble_eq_true rfl) fun x C F => p_X12_third C F h
