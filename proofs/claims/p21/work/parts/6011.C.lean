/-! LAYER 1: X3.operate, X3.skipOrStop, X3.setLong, X3.divide, X3.shift, X3.reckon, X3.extend, X3.step (by program) -/
def f_X3_operate_77 (N : Nat) (a0 : Option Nat) (a1 : Int32) (μ : Mem) : Option (Unit × Mem) :=
  (f_X3_turn N a0 a1 μ).bind fun q1 =>
  some ((), q1.2)
def f_X3_operate_61 (N : Nat) (a0 : Option Nat) (a1 : Int32) (μ : Mem) : Option (Unit × Mem) :=
  if (a1 &&& 1) = 0 then
    f_X3_operate_77 N a0 a1 μ
  else
    (f_X3_both N a0 μ).bind fun q1 =>
    (f_X3_setBoth N a0 (q1.1 + 1) q1.2).bind fun q2 =>
    f_X3_operate_77 N a0 a1 q2.2
def f_X3_operate_44 (N : Nat) (a0 : Option Nat) (a1 : Int32) (μ : Mem) : Option (Unit × Mem) :=
  if (a1 &&& 16) = 0 then
    f_X3_operate_61 N a0 a1 μ
  else
    (mfI μ a0 10 11).bind fun v1 =>
    (mpI μ a0 10 11 (v1 ^^^ 1)).bind fun μ2 =>
    f_X3_operate_61 N a0 a1 μ2
def f_X3_operate_25 (N : Nat) (a0 : Option Nat) (a1 : Int32) (μ : Mem) : Option (Unit × Mem) :=
  if (a1 &&& 32) = 0 then
    f_X3_operate_44 N a0 a1 μ
  else
    (mfI μ a0 10 10).bind fun v1 =>
    (mpI μ a0 10 10 (v1 ^^^ 4095)).bind fun μ2 =>
    f_X3_operate_44 N a0 a1 μ2
def f_X3_operate_13 (N : Nat) (a0 : Option Nat) (a1 : Int32) (μ : Mem) : Option (Unit × Mem) :=
  if (a1 &&& 64) = 0 then
    f_X3_operate_25 N a0 a1 μ
  else
    (mpI μ a0 10 11 0).bind fun μ1 =>
    f_X3_operate_25 N a0 a1 μ1
def f_X3_operate (N : Nat) (a0 : Option Nat) (a1 : Int32) (μ : Mem) : Option (Unit × Mem) :=
  if (a1 &&& 128) = 0 then
    f_X3_operate_13 N a0 a1 μ
  else
    (mpI μ a0 10 10 0).bind fun μ1 =>
    f_X3_operate_13 N a0 a1 μ1
set_option maxRecDepth 100000 in
set_option maxHeartbeats 4000000 in
theorem p_X3_operate_77 {x : CX} {l : Launch} {g : CG} {rv : Unit} {μ0 μ9 : Mem} (C : Cx x l g mi_X3_operate) (F : Prom x g mi_X3_operate μ0 none μ9) {N : Nat} {a0 : Option Nat} {a1 : Int32} {μ : Mem} (h : f_X3_operate_77 N a0 a1 μ = some (rv, μ9)) : V x g 2 0 0 μ 77 [(0, aR a0), (1, aI a1)] [] := by
  unfold f_X3_operate_77 at h
  refine v_aload_n C dX3_operate_77 rfl ?_
  refine v_iload_n C dX3_operate_78 rfl ?_
  obtain ⟨q, e, h⟩ := ob h
  refine v_callS (As := [_, _]) C dX3_operate_79 cf_X3_73 (rm_X3_operate_X3_turn) ⟨rfl, rfl⟩ rfl (Nat.le_of_ble_eq_true rfl) (c_X3_turn _ _ N _ _ _ q.1 q.2 e) ?_
  exact v_vret C F ⟨rfl, rfl, Nat.le_refl _⟩ dX3_operate_82 h
set_option maxRecDepth 100000 in
set_option maxHeartbeats 4000000 in
theorem p_X3_operate_61 {x : CX} {l : Launch} {g : CG} {rv : Unit} {μ0 μ9 : Mem} (C : Cx x l g mi_X3_operate) (F : Prom x g mi_X3_operate μ0 none μ9) {N : Nat} {a0 : Option Nat} {a1 : Int32} {μ : Mem} (h : f_X3_operate_61 N a0 a1 μ = some (rv, μ9)) : V x g 2 0 0 μ 61 [(0, aR a0), (1, aI a1)] [] := by
  unfold f_X3_operate_61 at h
  refine v_iload_n C dX3_operate_61 rfl ?_
  refine v_iconst (v := 1) C dX3_operate_62 rfl ?_
  refine v_iand C dX3_operate_63 ?_
  refine v_if_eq (tgt := 77) C dX3_operate_64 (by decide) (fun c => ?_) (fun c => ?_)
  · replace h := ifT h c
    exact v_sb (p_X3_operate_77 C F h) ⟨rfl, rfl, trivial⟩
  · replace h := ifF h c
    refine v_aload_n C dX3_operate_67 rfl ?_
    refine v_aload_n C dX3_operate_68 rfl ?_
    obtain ⟨q, e, h⟩ := ob h
    refine v_callS (As := [_]) C dX3_operate_69 cf_X3_66 (rm_X3_operate_X3_both) ⟨rfl, rfl⟩ rfl (Nat.le_of_ble_eq_true rfl) (c_X3_both _ _ N _ _ q.1 q.2 e) ?_
    refine v_iconst (v := 1) C dX3_operate_72 rfl ?_
    refine v_iadd C dX3_operate_73 ?_
    obtain ⟨q, e, h⟩ := ob h
    refine v_callS (As := [_, _]) C dX3_operate_74 cf_X3_70 (rm_X3_operate_X3_setBoth) ⟨rfl, rfl⟩ rfl (Nat.le_of_ble_eq_true rfl) (c_X3_setBoth _ _ N _ _ _ q.1 q.2 e) ?_
    exact v_sb (p_X3_operate_77 C F h) ⟨rfl, rfl, trivial⟩
set_option maxRecDepth 100000 in
set_option maxHeartbeats 4000000 in
theorem p_X3_operate_44 {x : CX} {l : Launch} {g : CG} {rv : Unit} {μ0 μ9 : Mem} (C : Cx x l g mi_X3_operate) (F : Prom x g mi_X3_operate μ0 none μ9) {N : Nat} {a0 : Option Nat} {a1 : Int32} {μ : Mem} (h : f_X3_operate_44 N a0 a1 μ = some (rv, μ9)) : V x g 2 0 0 μ 44 [(0, aR a0), (1, aI a1)] [] := by
  unfold f_X3_operate_44 at h
  refine v_iload_n C dX3_operate_44 rfl ?_
  refine v_bipush (v := 16) C dX3_operate_45 rfl ?_
  refine v_iand C dX3_operate_47 ?_
  refine v_if_eq (tgt := 61) C dX3_operate_48 (by decide) (fun c => ?_) (fun c => ?_)
  · replace h := ifT h c
    exact v_sb (p_X3_operate_61 C F h) ⟨rfl, rfl, trivial⟩
  · replace h := ifF h c
    refine v_aload_n C dX3_operate_51 rfl ?_
    refine v_dup C dX3_operate_52 rfl ?_
    obtain ⟨v, e, h⟩ := ob h
    refine v_getI C dX3_operate_53 gf_X3_59 e ?_
    refine v_iconst (v := 1) C dX3_operate_56 rfl ?_
    refine v_ixor C dX3_operate_57 ?_
    obtain ⟨m, e, h⟩ := ob h
    refine v_putI C dX3_operate_58 (pf_X3_59 _) e ?_
    exact v_sb (p_X3_operate_61 C F h) ⟨rfl, rfl, trivial⟩
set_option maxRecDepth 100000 in
set_option maxHeartbeats 4000000 in
theorem p_X3_operate_25 {x : CX} {l : Launch} {g : CG} {rv : Unit} {μ0 μ9 : Mem} (C : Cx x l g mi_X3_operate) (F : Prom x g mi_X3_operate μ0 none μ9) {N : Nat} {a0 : Option Nat} {a1 : Int32} {μ : Mem} (h : f_X3_operate_25 N a0 a1 μ = some (rv, μ9)) : V x g 2 0 0 μ 25 [(0, aR a0), (1, aI a1)] [] := by
  unfold f_X3_operate_25 at h
  refine v_iload_n C dX3_operate_25 rfl ?_
  refine v_bipush (v := 32) C dX3_operate_26 rfl ?_
  refine v_iand C dX3_operate_28 ?_
  refine v_if_eq (tgt := 44) C dX3_operate_29 (by decide) (fun c => ?_) (fun c => ?_)
  · replace h := ifT h c
    exact v_sb (p_X3_operate_44 C F h) ⟨rfl, rfl, trivial⟩
  · replace h := ifF h c
    refine v_aload_n C dX3_operate_32 rfl ?_
    refine v_dup C dX3_operate_33 rfl ?_
    obtain ⟨v, e, h⟩ := ob h
    refine v_getI C dX3_operate_34 gf_X3_56 e ?_
    refine v_sipush (v := 4095) C dX3_operate_37 rfl ?_
    refine v_ixor C dX3_operate_40 ?_
    obtain ⟨m, e, h⟩ := ob h
    refine v_putI C dX3_operate_41 (pf_X3_56 _) e ?_
    exact v_sb (p_X3_operate_44 C F h) ⟨rfl, rfl, trivial⟩
set_option maxRecDepth 100000 in
set_option maxHeartbeats 4000000 in
theorem p_X3_operate_13 {x : CX} {l : Launch} {g : CG} {rv : Unit} {μ0 μ9 : Mem} (C : Cx x l g mi_X3_operate) (F : Prom x g mi_X3_operate μ0 none μ9) {N : Nat} {a0 : Option Nat} {a1 : Int32} {μ : Mem} (h : f_X3_operate_13 N a0 a1 μ = some (rv, μ9)) : V x g 2 0 0 μ 13 [(0, aR a0), (1, aI a1)] [] := by
  unfold f_X3_operate_13 at h
  refine v_iload_n C dX3_operate_13 rfl ?_
  refine v_bipush (v := 64) C dX3_operate_14 rfl ?_
  refine v_iand C dX3_operate_16 ?_
  refine v_if_eq (tgt := 25) C dX3_operate_17 (by decide) (fun c => ?_) (fun c => ?_)
  · replace h := ifT h c
    exact v_sb (p_X3_operate_25 C F h) ⟨rfl, rfl, trivial⟩
  · replace h := ifF h c
    refine v_aload_n C dX3_operate_20 rfl ?_
    refine v_iconst (v := 0) C dX3_operate_21 rfl ?_
    obtain ⟨m, e, h⟩ := ob h
    refine v_putI C dX3_operate_22 (pf_X3_59 _) e ?_
    exact v_sb (p_X3_operate_25 C F h) ⟨rfl, rfl, trivial⟩
set_option maxRecDepth 100000 in
set_option maxHeartbeats 4000000 in
theorem p_X3_operate {x : CX} {l : Launch} {g : CG} {rv : Unit} {μ0 μ9 : Mem} (C : Cx x l g mi_X3_operate) (F : Prom x g mi_X3_operate μ0 none μ9) {N : Nat} {a0 : Option Nat} {a1 : Int32} {μ : Mem} (h : f_X3_operate N a0 a1 μ = some (rv, μ9)) : V x g 2 0 0 μ 0 [(0, aR a0), (1, aI a1)] [] := by
  unfold f_X3_operate at h
  refine v_iload_n C dX3_operate_0 rfl ?_
  refine v_sipush (v := 128) C dX3_operate_1 rfl ?_
  refine v_iand C dX3_operate_4 ?_
  refine v_if_eq (tgt := 13) C dX3_operate_5 (by decide) (fun c => ?_) (fun c => ?_)
  · replace h := ifT h c
    exact v_sb (p_X3_operate_13 C F h) ⟨rfl, rfl, trivial⟩
  · replace h := ifF h c
    refine v_aload_n C dX3_operate_8 rfl ?_
    refine v_iconst (v := 0) C dX3_operate_9 rfl ?_
    obtain ⟨m, e, h⟩ := ob h
    refine v_putI C dX3_operate_10 (pf_X3_56 _) e ?_
    exact v_sb (p_X3_operate_13 C F h) ⟨rfl, rfl, trivial⟩
set_option maxRecDepth 100000 in
set_option maxHeartbeats 4000000 in
theorem c_X3_operate (l : Launch) (g : CG) (N : Nat) (a0 : Option Nat) (a1 : Int32) (μ : Mem) (rv : Unit) (μ9 : Mem) (h : f_X3_operate N a0 a1 μ = some (rv, μ9)) : Ct l yX3_operate mi_X3_operate g [aR a0, aI a1] μ none μ9 := ct_of ⟨by decide, rfl, rfl⟩ (Nat.le_of_ble_eq_true rfl) fun x C F => p_X3_operate C F h
def f_X3_skipOrStop_122 (N : Nat) (μ : Mem) : Option (Unit × Mem) :=
  some ((), μ)
def f_X3_skipOrStop_110 (N : Nat) (a0 : Option Nat) (a1 : Int32) (μ : Mem) : Option (Unit × Mem) :=
  if (a1 &&& 2) = 0 then
    f_X3_skipOrStop_122 N μ
  else
    (mpI μ a0 10 8 6).bind fun μ1 =>
    f_X3_skipOrStop_122 N μ1
def f_X3_skipOrStop_91 (N : Nat) (a0 : Option Nat) (a1 : Int32) (μ : Mem) : Option (Unit × Mem) :=
  if (a1 &&& 4) = 0 then
    f_X3_skipOrStop_110 N a0 a1 μ
  else
    (mfI μ a0 10 10).bind fun v1 =>
    (mfI μ a0 10 13).bind fun v2 =>
    (mpI μ a0 10 10 (v1 ||| v2)).bind fun μ3 =>
    f_X3_skipOrStop_110 N a0 a1 μ3
def f_X3_skipOrStop_75 (N : Nat) (a0 : Option Nat) (a1 : Int32) (s0 : Option Nat) (s1 : Int32) (μ : Mem) : Option (Unit × Mem) :=
  (f_X3_skipIf N s0 s1 μ).bind fun q1 =>
  if (a1 &&& 128) = 0 then
    f_X3_skipOrStop_91 N a0 a1 q1.2
  else
    (mpI q1.2 a0 10 10 0).bind fun μ2 =>
    f_X3_skipOrStop_91 N a0 a1 μ2
def f_X3_skipOrStop_67 (N : Nat) (a0 : Option Nat) (a1 : Int32) (s0 : Option Nat) (s1 : Int32) (s2 : Int32) (μ : Mem) : Option (Unit × Mem) :=
  if s1 = s2 then
    f_X3_skipOrStop_75 N a0 a1 s0 0 μ
  else
    f_X3_skipOrStop_75 N a0 a1 s0 1 μ
def f_X3_skipOrStop_52 (N : Nat) (a0 : Option Nat) (a1 : Int32) (s0 : Int32) (μ : Mem) : Option (Unit × Mem) :=
  if (a1 &&& 8) = 0 then
    f_X3_skipOrStop_67 N a0 a1 a0 s0 0 μ
  else
    f_X3_skipOrStop_67 N a0 a1 a0 s0 1 μ
def f_X3_skipOrStop_51 (N : Nat) (a0 : Option Nat) (a1 : Int32) (μ : Mem) : Option (Unit × Mem) :=
  f_X3_skipOrStop_52 N a0 a1 0 μ
def f_X3_skipOrStop_47 (N : Nat) (a0 : Option Nat) (a1 : Int32) (μ : Mem) : Option (Unit × Mem) :=
  f_X3_skipOrStop_52 N a0 a1 1 μ
def f_X3_skipOrStop_32 (N : Nat) (a0 : Option Nat) (a1 : Int32) (μ : Mem) : Option (Unit × Mem) :=
  if (a1 &&& 16) = 0 then
    f_X3_skipOrStop_51 N a0 a1 μ
  else
    (mfI μ a0 10 11).bind fun v1 =>
    if ¬ v1 = (1 : Int32) then
      f_X3_skipOrStop_51 N a0 a1 μ
    else
      f_X3_skipOrStop_47 N a0 a1 μ
def f_X3_skipOrStop_18 (N : Nat) (a0 : Option Nat) (a1 : Int32) (μ : Mem) : Option (Unit × Mem) :=
  if (a1 &&& 32) = 0 then
    f_X3_skipOrStop_32 N a0 a1 μ
  else
    (mfI μ a0 10 10).bind fun v1 =>
    if v1 = 0 then
      f_X3_skipOrStop_47 N a0 a1 μ
    else
      f_X3_skipOrStop_32 N a0 a1 μ
def f_X3_skipOrStop (N : Nat) (a0 : Option Nat) (a1 : Int32) (μ : Mem) : Option (Unit × Mem) :=
  if (a1 &&& 64) = 0 then
    f_X3_skipOrStop_18 N a0 a1 μ
  else
    (mfI μ a0 10 10).bind fun v1 =>
    if ¬ (v1 &&& 2048) = 0 then
      f_X3_skipOrStop_47 N a0 a1 μ
    else
      f_X3_skipOrStop_18 N a0 a1 μ
set_option maxRecDepth 100000 in
set_option maxHeartbeats 4000000 in
theorem p_X3_skipOrStop_122 {x : CX} {l : Launch} {g : CG} {rv : Unit} {μ0 μ9 : Mem} (C : Cx x l g mi_X3_skipOrStop) (F : Prom x g mi_X3_skipOrStop μ0 none μ9) {N : Nat} {μ : Mem} (h : f_X3_skipOrStop_122 N μ = some (rv, μ9)) : V x g 3 0 0 μ 122 [] [] := by
  unfold f_X3_skipOrStop_122 at h
  exact v_vret C F ⟨rfl, rfl, Nat.le_refl _⟩ dX3_skipOrStop_122 h
set_option maxRecDepth 100000 in
set_option maxHeartbeats 4000000 in
theorem p_X3_skipOrStop_110 {x : CX} {l : Launch} {g : CG} {rv : Unit} {μ0 μ9 : Mem} (C : Cx x l g mi_X3_skipOrStop) (F : Prom x g mi_X3_skipOrStop μ0 none μ9) {N : Nat} {a0 : Option Nat} {a1 : Int32} {μ : Mem} (h : f_X3_skipOrStop_110 N a0 a1 μ = some (rv, μ9)) : V x g 3 0 0 μ 110 [(0, aR a0), (1, aI a1)] [] := by
  unfold f_X3_skipOrStop_110 at h
  refine v_iload_n C dX3_skipOrStop_110 rfl ?_
  refine v_iconst (v := 2) C dX3_skipOrStop_111 rfl ?_
  refine v_iand C dX3_skipOrStop_112 ?_
  refine v_if_eq (tgt := 122) C dX3_skipOrStop_113 (by decide) (fun c => ?_) (fun c => ?_)
  · replace h := ifT h c
    exact v_sb (p_X3_skipOrStop_122 C F h) trivial
  · replace h := ifF h c
    refine v_aload_n C dX3_skipOrStop_116 rfl ?_
    refine v_bipush (v := 6) C dX3_skipOrStop_117 rfl ?_
    obtain ⟨m, e, h⟩ := ob h
    refine v_putI C dX3_skipOrStop_119 (pf_X3_79 _) e ?_
    exact v_sb (p_X3_skipOrStop_122 C F h) trivial
set_option maxRecDepth 100000 in
set_option maxHeartbeats 4000000 in
theorem p_X3_skipOrStop_91 {x : CX} {l : Launch} {g : CG} {rv : Unit} {μ0 μ9 : Mem} (C : Cx x l g mi_X3_skipOrStop) (F : Prom x g mi_X3_skipOrStop μ0 none μ9) {N : Nat} {a0 : Option Nat} {a1 : Int32} {μ : Mem} (h : f_X3_skipOrStop_91 N a0 a1 μ = some (rv, μ9)) : V x g 3 0 0 μ 91 [(0, aR a0), (1, aI a1)] [] := by
  unfold f_X3_skipOrStop_91 at h
  refine v_iload_n C dX3_skipOrStop_91 rfl ?_
  refine v_iconst (v := 4) C dX3_skipOrStop_92 rfl ?_
  refine v_iand C dX3_skipOrStop_93 ?_
  refine v_if_eq (tgt := 110) C dX3_skipOrStop_94 (by decide) (fun c => ?_) (fun c => ?_)
  · replace h := ifT h c
    exact v_sb (p_X3_skipOrStop_110 C F h) ⟨rfl, rfl, trivial⟩
  · replace h := ifF h c
    refine v_aload_n C dX3_skipOrStop_97 rfl ?_
    refine v_dup C dX3_skipOrStop_98 rfl ?_
    obtain ⟨v, e, h⟩ := ob h
    refine v_getI C dX3_skipOrStop_99 gf_X3_56 e ?_
    refine v_aload_n C dX3_skipOrStop_102 rfl ?_
    obtain ⟨v, e, h⟩ := ob h
    refine v_getI C dX3_skipOrStop_103 gf_X3_76 e ?_
    refine v_ior C dX3_skipOrStop_106 ?_
    obtain ⟨m, e, h⟩ := ob h
    refine v_putI C dX3_skipOrStop_107 (pf_X3_56 _) e ?_
    exact v_sb (p_X3_skipOrStop_110 C F h) ⟨rfl, rfl, trivial⟩
set_option maxRecDepth 100000 in
set_option maxHeartbeats 4000000 in
theorem p_X3_skipOrStop_75 {x : CX} {l : Launch} {g : CG} {rv : Unit} {μ0 μ9 : Mem} (C : Cx x l g mi_X3_skipOrStop) (F : Prom x g mi_X3_skipOrStop μ0 none μ9) {N : Nat} {a0 : Option Nat} {a1 : Int32} {s0 : Option Nat} {s1 : Int32} {μ : Mem} (h : f_X3_skipOrStop_75 N a0 a1 s0 s1 μ = some (rv, μ9)) : V x g 3 0 0 μ 75 [(0, aR a0), (1, aI a1)] [aI s1, aR s0] := by
  unfold f_X3_skipOrStop_75 at h
  obtain ⟨q, e, h⟩ := ob h
  refine v_callS (As := [_, _]) C dX3_skipOrStop_75 cf_X3_62 (rm_X3_skipOrStop_X3_skipIf) ⟨rfl, rfl⟩ rfl (Nat.le_of_ble_eq_true rfl) (c_X3_skipIf _ _ N _ _ _ q.1 q.2 e) ?_
  refine v_iload_n C dX3_skipOrStop_78 rfl ?_
  refine v_sipush (v := 128) C dX3_skipOrStop_79 rfl ?_
  refine v_iand C dX3_skipOrStop_82 ?_
  refine v_if_eq (tgt := 91) C dX3_skipOrStop_83 (by decide) (fun c => ?_) (fun c => ?_)
  · replace h := ifT h c
    exact v_sb (p_X3_skipOrStop_91 C F h) ⟨rfl, rfl, trivial⟩
  · replace h := ifF h c
    refine v_aload_n C dX3_skipOrStop_86 rfl ?_
    refine v_iconst (v := 0) C dX3_skipOrStop_87 rfl ?_
    obtain ⟨m, e, h⟩ := ob h
    refine v_putI C dX3_skipOrStop_88 (pf_X3_56 _) e ?_
    exact v_sb (p_X3_skipOrStop_91 C F h) ⟨rfl, rfl, trivial⟩
set_option maxRecDepth 100000 in
set_option maxHeartbeats 4000000 in
theorem p_X3_skipOrStop_67 {x : CX} {l : Launch} {g : CG} {rv : Unit} {μ0 μ9 : Mem} (C : Cx x l g mi_X3_skipOrStop) (F : Prom x g mi_X3_skipOrStop μ0 none μ9) {N : Nat} {a0 : Option Nat} {a1 : Int32} {s0 : Option Nat} {s1 : Int32} {s2 : Int32} {μ : Mem} (h : f_X3_skipOrStop_67 N a0 a1 s0 s1 s2 μ = some (rv, μ9)) : V x g 3 0 0 μ 67 [(0, aR a0), (1, aI a1)] [aI s2, aI s1, aR s0] := by
  unfold f_X3_skipOrStop_67 at h
  refine v_icmp_eq (tgt := 74) C dX3_skipOrStop_67 (by decide) (fun c => ?_) (fun c => ?_)
  · replace h := ifT h c
    refine v_iconst (v := 0) C dX3_skipOrStop_74 rfl ?_
    exact v_sb (p_X3_skipOrStop_75 C F h) ⟨rfl, rfl, trivial⟩
  · replace h := ifF h c
    refine v_iconst (v := 1) C dX3_skipOrStop_70 rfl ?_
    refine v_goto (tgt := 75) C dX3_skipOrStop_71 (by decide) ?_
    exact v_sb (p_X3_skipOrStop_75 C F h) ⟨rfl, rfl, trivial⟩
set_option maxRecDepth 100000 in
set_option maxHeartbeats 4000000 in
theorem p_X3_skipOrStop_52 {x : CX} {l : Launch} {g : CG} {rv : Unit} {μ0 μ9 : Mem} (C : Cx x l g mi_X3_skipOrStop) (F : Prom x g mi_X3_skipOrStop μ0 none μ9) {N : Nat} {a0 : Option Nat} {a1 : Int32} {s0 : Int32} {μ : Mem} (h : f_X3_skipOrStop_52 N a0 a1 s0 μ = some (rv, μ9)) : V x g 3 0 0 μ 52 [(0, aR a0), (1, aI a1)] [aI s0] := by
  unfold f_X3_skipOrStop_52 at h
  refine v_istore_n C dX3_skipOrStop_52 (by decide) ?_
  refine v_aload_n C dX3_skipOrStop_53 rfl ?_
  refine v_iload_n C dX3_skipOrStop_54 rfl ?_
  refine v_iload_n C dX3_skipOrStop_55 rfl ?_
  refine v_bipush (v := 8) C dX3_skipOrStop_56 rfl ?_
  refine v_iand C dX3_skipOrStop_58 ?_
  refine v_if_eq (tgt := 66) C dX3_skipOrStop_59 (by decide) (fun c => ?_) (fun c => ?_)
  · replace h := ifT h c
    refine v_iconst (v := 0) C dX3_skipOrStop_66 rfl ?_
    exact v_sb (p_X3_skipOrStop_67 C F h) ⟨rfl, rfl, trivial⟩
  · replace h := ifF h c
    refine v_iconst (v := 1) C dX3_skipOrStop_62 rfl ?_
    refine v_goto (tgt := 67) C dX3_skipOrStop_63 (by decide) ?_
    exact v_sb (p_X3_skipOrStop_67 C F h) ⟨rfl, rfl, trivial⟩
set_option maxRecDepth 100000 in
set_option maxHeartbeats 4000000 in
theorem p_X3_skipOrStop_51 {x : CX} {l : Launch} {g : CG} {rv : Unit} {μ0 μ9 : Mem} (C : Cx x l g mi_X3_skipOrStop) (F : Prom x g mi_X3_skipOrStop μ0 none μ9) {N : Nat} {a0 : Option Nat} {a1 : Int32} {μ : Mem} (h : f_X3_skipOrStop_51 N a0 a1 μ = some (rv, μ9)) : V x g 3 0 0 μ 51 [(0, aR a0), (1, aI a1)] [] := by
  unfold f_X3_skipOrStop_51 at h
  refine v_iconst (v := 0) C dX3_skipOrStop_51 rfl ?_
  exact v_sb (p_X3_skipOrStop_52 C F h) ⟨rfl, rfl, trivial⟩
set_option maxRecDepth 100000 in
set_option maxHeartbeats 4000000 in
theorem p_X3_skipOrStop_47 {x : CX} {l : Launch} {g : CG} {rv : Unit} {μ0 μ9 : Mem} (C : Cx x l g mi_X3_skipOrStop) (F : Prom x g mi_X3_skipOrStop μ0 none μ9) {N : Nat} {a0 : Option Nat} {a1 : Int32} {μ : Mem} (h : f_X3_skipOrStop_47 N a0 a1 μ = some (rv, μ9)) : V x g 3 0 0 μ 47 [(0, aR a0), (1, aI a1)] [] := by
  unfold f_X3_skipOrStop_47 at h
  refine v_iconst (v := 1) C dX3_skipOrStop_47 rfl ?_
  refine v_goto (tgt := 52) C dX3_skipOrStop_48 (by decide) ?_
  exact v_sb (p_X3_skipOrStop_52 C F h) ⟨rfl, rfl, trivial⟩
set_option maxRecDepth 100000 in
set_option maxHeartbeats 4000000 in
theorem p_X3_skipOrStop_32 {x : CX} {l : Launch} {g : CG} {rv : Unit} {μ0 μ9 : Mem} (C : Cx x l g mi_X3_skipOrStop) (F : Prom x g mi_X3_skipOrStop μ0 none μ9) {N : Nat} {a0 : Option Nat} {a1 : Int32} {μ : Mem} (h : f_X3_skipOrStop_32 N a0 a1 μ = some (rv, μ9)) : V x g 3 0 0 μ 32 [(0, aR a0), (1, aI a1)] [] := by
  unfold f_X3_skipOrStop_32 at h
  refine v_iload_n C dX3_skipOrStop_32 rfl ?_
  refine v_bipush (v := 16) C dX3_skipOrStop_33 rfl ?_
  refine v_iand C dX3_skipOrStop_35 ?_
  refine v_if_eq (tgt := 51) C dX3_skipOrStop_36 (by decide) (fun c => ?_) (fun c => ?_)
  · replace h := ifT h c
    exact v_sb (p_X3_skipOrStop_51 C F h) ⟨rfl, rfl, trivial⟩
  · replace h := ifF h c
    refine v_aload_n C dX3_skipOrStop_39 rfl ?_
    obtain ⟨v, e, h⟩ := ob h
    refine v_getI C dX3_skipOrStop_40 gf_X3_59 e ?_
    refine v_iconst (v := 1) C dX3_skipOrStop_43 rfl ?_
    refine v_icmp_ne (tgt := 51) C dX3_skipOrStop_44 (by decide) (fun c => ?_) (fun c => ?_)
    · replace h := ifT h c
      exact v_sb (p_X3_skipOrStop_51 C F h) ⟨rfl, rfl, trivial⟩
    · replace h := ifF h c
      exact v_sb (p_X3_skipOrStop_47 C F h) ⟨rfl, rfl, trivial⟩
set_option maxRecDepth 100000 in
set_option maxHeartbeats 4000000 in
theorem p_X3_skipOrStop_18 {x : CX} {l : Launch} {g : CG} {rv : Unit} {μ0 μ9 : Mem} (C : Cx x l g mi_X3_skipOrStop) (F : Prom x g mi_X3_skipOrStop μ0 none μ9) {N : Nat} {a0 : Option Nat} {a1 : Int32} {μ : Mem} (h : f_X3_skipOrStop_18 N a0 a1 μ = some (rv, μ9)) : V x g 3 0 0 μ 18 [(0, aR a0), (1, aI a1)] [] := by
  unfold f_X3_skipOrStop_18 at h
  refine v_iload_n C dX3_skipOrStop_18 rfl ?_
  refine v_bipush (v := 32) C dX3_skipOrStop_19 rfl ?_
  refine v_iand C dX3_skipOrStop_21 ?_
  refine v_if_eq (tgt := 32) C dX3_skipOrStop_22 (by decide) (fun c => ?_) (fun c => ?_)
  · replace h := ifT h c
    exact v_sb (p_X3_skipOrStop_32 C F h) ⟨rfl, rfl, trivial⟩
  · replace h := ifF h c
    refine v_aload_n C dX3_skipOrStop_25 rfl ?_
    obtain ⟨v, e, h⟩ := ob h
    refine v_getI C dX3_skipOrStop_26 gf_X3_56 e ?_
    refine v_if_eq (tgt := 47) C dX3_skipOrStop_29 (by decide) (fun c => ?_) (fun c => ?_)
    · replace h := ifT h c
      exact v_sb (p_X3_skipOrStop_47 C F h) ⟨rfl, rfl, trivial⟩
    · replace h := ifF h c
      exact v_sb (p_X3_skipOrStop_32 C F h) ⟨rfl, rfl, trivial⟩
set_option maxRecDepth 100000 in
set_option maxHeartbeats 4000000 in
theorem p_X3_skipOrStop {x : CX} {l : Launch} {g : CG} {rv : Unit} {μ0 μ9 : Mem} (C : Cx x l g mi_X3_skipOrStop) (F : Prom x g mi_X3_skipOrStop μ0 none μ9) {N : Nat} {a0 : Option Nat} {a1 : Int32} {μ : Mem} (h : f_X3_skipOrStop N a0 a1 μ = some (rv, μ9)) : V x g 3 0 0 μ 0 [(0, aR a0), (1, aI a1)] [] := by
  unfold f_X3_skipOrStop at h
  refine v_iload_n C dX3_skipOrStop_0 rfl ?_
  refine v_bipush (v := 64) C dX3_skipOrStop_1 rfl ?_
  refine v_iand C dX3_skipOrStop_3 ?_
  refine v_if_eq (tgt := 18) C dX3_skipOrStop_4 (by decide) (fun c => ?_) (fun c => ?_)
  · replace h := ifT h c
    exact v_sb (p_X3_skipOrStop_18 C F h) ⟨rfl, rfl, trivial⟩
  · replace h := ifF h c
    refine v_aload_n C dX3_skipOrStop_7 rfl ?_
    obtain ⟨v, e, h⟩ := ob h
    refine v_getI C dX3_skipOrStop_8 gf_X3_56 e ?_
    refine v_sipush (v := 2048) C dX3_skipOrStop_11 rfl ?_
    refine v_iand C dX3_skipOrStop_14 ?_
    refine v_if_ne (tgt := 47) C dX3_skipOrStop_15 (by decide) (fun c => ?_) (fun c => ?_)
    · replace h := ifT h c
      exact v_sb (p_X3_skipOrStop_47 C F h) ⟨rfl, rfl, trivial⟩
    · replace h := ifF h c
      exact v_sb (p_X3_skipOrStop_18 C F h) ⟨rfl, rfl, trivial⟩
set_option maxRecDepth 100000 in
set_option maxHeartbeats 4000000 in
theorem c_X3_skipOrStop (l : Launch) (g : CG) (N : Nat) (a0 : Option Nat) (a1 : Int32) (μ : Mem) (rv : Unit) (μ9 : Mem) (h : f_X3_skipOrStop N a0 a1 μ = some (rv, μ9)) : Ct l yX3_skipOrStop mi_X3_skipOrStop g [aR a0, aI a1] μ none μ9 := ct_of ⟨by decide, rfl, rfl⟩ (Nat.le_of_ble_eq_true rfl) fun x C F => p_X3_skipOrStop C F h
def f_X3_setLong (N : Nat) (a0 : Option Nat) (a1 : Int32) (μ : Mem) : Option (Unit × Mem) :=
  (mpI μ a0 10 10 ((a1 >>> ((12 : Int32) &&& 31)) &&& 4095)).bind fun μ1 =>
  (mpI μ1 a0 10 12 (a1 &&& 4095)).bind fun μ2 =>
  some ((), μ2)
set_option maxRecDepth 100000 in
set_option maxHeartbeats 4000000 in
theorem p_X3_setLong {x : CX} {l : Launch} {g : CG} {rv : Unit} {μ0 μ9 : Mem} (C : Cx x l g mi_X3_setLong) (F : Prom x g mi_X3_setLong μ0 none μ9) {N : Nat} {a0 : Option Nat} {a1 : Int32} {μ : Mem} (h : f_X3_setLong N a0 a1 μ = some (rv, μ9)) : V x g 2 0 0 μ 0 [(0, aR a0), (1, aI a1)] [] := by
  unfold f_X3_setLong at h
  refine v_aload_n C dX3_setLong_0 rfl ?_
  refine v_iload_n C dX3_setLong_1 rfl ?_
  refine v_bipush (v := 12) C dX3_setLong_2 rfl ?_
  refine v_ishr C dX3_setLong_4 ?_
  refine v_sipush (v := 4095) C dX3_setLong_5 rfl ?_
  refine v_iand C dX3_setLong_8 ?_
  obtain ⟨m, e, h⟩ := ob h
  refine v_putI C dX3_setLong_9 (pf_X3_56 _) e ?_
  refine v_aload_n C dX3_setLong_12 rfl ?_
  refine v_iload_n C dX3_setLong_13 rfl ?_
  refine v_sipush (v := 4095) C dX3_setLong_14 rfl ?_
  refine v_iand C dX3_setLong_17 ?_
  obtain ⟨m, e, h⟩ := ob h
  refine v_putI C dX3_setLong_18 (pf_X3_86 _) e ?_
  exact v_vret C F ⟨rfl, rfl, Nat.le_refl _⟩ dX3_setLong_21 h
set_option maxRecDepth 100000 in
set_option maxHeartbeats 4000000 in
theorem c_X3_setLong (l : Launch) (g : CG) (N : Nat) (a0 : Option Nat) (a1 : Int32) (μ : Mem) (rv : Unit) (μ9 : Mem) (h : f_X3_setLong N a0 a1 μ = some (rv, μ9)) : Ct l yX3_setLong mi_X3_setLong g [aR a0, aI a1] μ none μ9 := ct_of ⟨by decide, rfl, rfl⟩ (Nat.le_of_ble_eq_true rfl) fun x C F => p_X3_setLong C F h
def f_X3_divide_12 (N : Nat) (a0 : Option Nat) (μ : Mem) : Option (Unit × Mem) :=
  (mpI μ a0 10 11 1).bind fun μ1 =>
  some ((), μ1)
def f_X3_divide (N : Nat) (a0 : Option Nat) (a1 : Int32) (μ : Mem) : Option (Unit × Mem) :=
  if a1 ≤ 0 then
    f_X3_divide_12 N a0 μ
  else
    (mfI μ a0 10 10).bind fun v1 =>
    if v1 < a1 then
      (mfI μ a0 10 10).bind fun v2 =>
      (mfI μ a0 10 12).bind fun v3 =>
      if (a1 : Int32) = 0 then none else
      (mpI μ a0 10 12 (((v2 <<< ((12 : Int32) &&& 31)) ||| v3) / a1)).bind fun μ4 =>
      if (a1 : Int32) = 0 then none else
      (mpI μ4 a0 10 10 (((v2 <<< ((12 : Int32) &&& 31)) ||| v3) - ((v2 <<< ((12 : Int32) &&& 31)) ||| v3) / a1 * a1)).bind fun μ5 =>
      (mpI μ5 a0 10 11 0).bind fun μ6 =>
      some ((), μ6)
    else
      f_X3_divide_12 N a0 μ
set_option maxRecDepth 100000 in
set_option maxHeartbeats 4000000 in
theorem p_X3_divide_12 {x : CX} {l : Launch} {g : CG} {rv : Unit} {μ0 μ9 : Mem} (C : Cx x l g mi_X3_divide) (F : Prom x g mi_X3_divide μ0 none μ9) {N : Nat} {a0 : Option Nat} {μ : Mem} (h : f_X3_divide_12 N a0 μ = some (rv, μ9)) : V x g 3 0 0 μ 12 [(0, aR a0)] [] := by
  unfold f_X3_divide_12 at h
  refine v_aload_n C dX3_divide_12 rfl ?_
  refine v_iconst (v := 1) C dX3_divide_13 rfl ?_
  obtain ⟨m, e, h⟩ := ob h
  refine v_putI C dX3_divide_14 (pf_X3_59 _) e ?_
  exact v_vret C F ⟨rfl, rfl, Nat.le_refl _⟩ dX3_divide_17 h
set_option maxRecDepth 100000 in
set_option maxHeartbeats 4000000 in
theorem p_X3_divide {x : CX} {l : Launch} {g : CG} {rv : Unit} {μ0 μ9 : Mem} (C : Cx x l g mi_X3_divide) (F : Prom x g mi_X3_divide μ0 none μ9) {N : Nat} {a0 : Option Nat} {a1 : Int32} {μ : Mem} (h : f_X3_divide N a0 a1 μ = some (rv, μ9)) : V x g 3 0 0 μ 0 [(0, aR a0), (1, aI a1)] [] := by
  unfold f_X3_divide at h
  refine v_iload_n C dX3_divide_0 rfl ?_
  refine v_if_le (tgt := 12) C dX3_divide_1 (by decide) (fun c => ?_) (fun c => ?_)
  · replace h := ifT h c
    exact v_sb (p_X3_divide_12 C F h) ⟨rfl, trivial⟩
  · replace h := ifF h c
    refine v_aload_n C dX3_divide_4 rfl ?_
    obtain ⟨v, e, h⟩ := ob h
    refine v_getI C dX3_divide_5 gf_X3_56 e ?_
    refine v_iload_n C dX3_divide_8 rfl ?_
    refine v_icmp_lt (tgt := 18) C dX3_divide_9 (by decide) (fun c => ?_) (fun c => ?_)
    · replace h := ifT h c
      refine v_aload_n C dX3_divide_18 rfl ?_
      obtain ⟨v, e, h⟩ := ob h
      refine v_getI C dX3_divide_19 gf_X3_56 e ?_
      refine v_bipush (v := 12) C dX3_divide_22 rfl ?_
      refine v_ishl C dX3_divide_24 ?_
      refine v_aload_n C dX3_divide_25 rfl ?_
      obtain ⟨v, e, h⟩ := ob h
      refine v_getI C dX3_divide_26 gf_X3_86 e ?_
      refine v_ior C dX3_divide_29 ?_
      refine v_istore_n C dX3_divide_30 (by decide) ?_
      refine v_aload_n C dX3_divide_31 rfl ?_
      refine v_iload_n C dX3_divide_32 rfl ?_
      refine v_iload_n C dX3_divide_33 rfl ?_
      obtain ⟨c0, h⟩ := oz h
      refine v_idiv C dX3_divide_34 c0 ?_
      obtain ⟨m, e, h⟩ := ob h
      refine v_putI C dX3_divide_35 (pf_X3_86 _) e ?_
      refine v_aload_n C dX3_divide_38 rfl ?_
      refine v_iload_n C dX3_divide_39 rfl ?_
      refine v_iload_n C dX3_divide_40 rfl ?_
      obtain ⟨c0, h⟩ := oz h
      refine v_irem C dX3_divide_41 c0 ?_
      obtain ⟨m, e, h⟩ := ob h
      refine v_putI C dX3_divide_42 (pf_X3_56 _) e ?_
      refine v_aload_n C dX3_divide_45 rfl ?_
      refine v_iconst (v := 0) C dX3_divide_46 rfl ?_
      obtain ⟨m, e, h⟩ := ob h
      refine v_putI C dX3_divide_47 (pf_X3_59 _) e ?_
      exact v_vret C F ⟨rfl, rfl, Nat.le_refl _⟩ dX3_divide_50 h
    · replace h := ifF h c
      exact v_sb (p_X3_divide_12 C F h) ⟨rfl, trivial⟩
set_option maxRecDepth 100000 in
set_option maxHeartbeats 4000000 in
theorem c_X3_divide (l : Launch) (g : CG) (N : Nat) (a0 : Option Nat) (a1 : Int32) (μ : Mem) (rv : Unit) (μ9 : Mem) (h : f_X3_divide N a0 a1 μ = some (rv, μ9)) : Ct l yX3_divide mi_X3_divide g [aR a0, aI a1] μ none μ9 := ct_of ⟨by decide, rfl, rfl⟩ (Nat.le_of_ble_eq_true rfl) fun x C F => p_X3_divide C F h
def f_X3_shift_89 (N : Nat) (k47 : (Option Nat) → Int32 → Int32 → Int32 → Int32 → Int32 → Mem → Option (Unit × Mem)) (a0 : Option Nat) (a1 : Int32) (a2 : Int32) (a3 : Int32) (a4 : Int32) (a5 : Int32) (μ : Mem) : Option (Unit × Mem) :=
  k47 a0 a1 a2 a3 a4 (a5 + 1) μ
def H_X3_shift_47 (N : Nat) (k47 : (Option Nat) → Int32 → Int32 → Int32 → Int32 → Int32 → Mem → Option (Unit × Mem)) (a0 : Option Nat) (a1 : Int32) (a2 : Int32) (a3 : Int32) (a4 : Int32) (a5 : Int32) (μ : Mem) : Option (Unit × Mem) :=
  if a2 ≤ a5 then
    (f_X3_setLong N a0 a3 μ).bind fun q1 =>
    some ((), q1.2)
  else
    if ¬ a1 = (10 : Int32) then
      f_X3_shift_89 N k47 a0 a1 a2 ((a3 >>> ((1 : Int32) &&& 31)) ||| (a4 <<< ((23 : Int32) &&& 31))) a4 a5 μ
    else
      (mpI μ a0 10 11 ((a3 >>> ((23 : Int32) &&& 31)) &&& 1)).bind fun μ2 =>
      f_X3_shift_89 N k47 a0 a1 a2 ((a3 <<< ((1 : Int32) &&& 31)) &&& ((16777215))) a4 a5 μ2
def L_X3_shift_47 (N : Nat) : Nat → (Option Nat) → Int32 → Int32 → Int32 → Int32 → Int32 → Mem → Option (Unit × Mem)
  | 0 => fun _ _ _ _ _ _ _ => none
  | n + 1 => H_X3_shift_47 N (L_X3_shift_47 N n)
def f_X3_shift_44 (N : Nat) (a0 : Option Nat) (a1 : Int32) (a2 : Int32) (a3 : Int32) (a4 : Int32) (μ : Mem) : Option (Unit × Mem) :=
  L_X3_shift_47 N N a0 a1 a2 a3 a4 0 μ
def f_X3_shift_30 (N : Nat) (a0 : Option Nat) (a1 : Int32) (a2 : Int32) (a3 : Int32) (s0 : Int32) (μ : Mem) : Option (Unit × Mem) :=
  if a1 = (10 : Int32) then
    f_X3_shift_44 N a0 a1 a2 a3 s0 μ
  else
    (mpI μ a0 10 11 s0).bind fun μ1 =>
    f_X3_shift_44 N a0 a1 a2 a3 s0 μ1
def f_X3_shift (N : Nat) (a0 : Option Nat) (a1 : Int32) (a2 : Int32) (μ : Mem) : Option (Unit × Mem) :=
  (mfI μ a0 10 10).bind fun v1 =>
  (mfI μ a0 10 12).bind fun v2 =>
  if ¬ a1 = (12 : Int32) then
    f_X3_shift_30 N a0 a1 a2 ((v1 <<< ((12 : Int32) &&& 31)) ||| v2) 0 μ
  else
    (mfI μ a0 10 10).bind fun v3 =>
    f_X3_shift_30 N a0 a1 a2 ((v1 <<< ((12 : Int32) &&& 31)) ||| v2) (v3 >>> ((11 : Int32) &&& 31)) μ
set_option maxRecDepth 100000 in
set_option maxHeartbeats 4000000 in
theorem p_X3_shift_89 {x : CX} {l : Launch} {g : CG} {rv : Unit} {μ0 μ9 : Mem} (C : Cx x l g mi_X3_shift) (F : Prom x g mi_X3_shift μ0 none μ9) {N : Nat} {k47 : (Option Nat) → Int32 → Int32 → Int32 → Int32 → Int32 → Mem → Option (Unit × Mem)} (hk47 : ∀ (a0 : Option Nat) (a1 : Int32) (a2 : Int32) (a3 : Int32) (a4 : Int32) (a5 : Int32) (μ : Mem), k47 a0 a1 a2 a3 a4 a5 μ = some (rv, μ9) → V x g 6 0 0 μ 47 [(0, aR a0), (1, aI a1), (2, aI a2), (3, aI a3), (4, aI a4), (5, aI a5)] []) {a0 : Option Nat} {a1 : Int32} {a2 : Int32} {a3 : Int32} {a4 : Int32} {a5 : Int32} {μ : Mem} (h : f_X3_shift_89 N k47 a0 a1 a2 a3 a4 a5 μ = some (rv, μ9)) : V x g 6 0 0 μ 89 [(0, aR a0), (1, aI a1), (2, aI a2), (3, aI a3), (4, aI a4), (5, aI a5)] [] := by
  unfold f_X3_shift_89 at h
  refine v_iinc (w := 1) C dX3_shift_89 rfl rfl (by decide) ?_
  refine v_goto (tgt := 47) C dX3_shift_92 (by decide) ?_
  exact v_sb (hk47 _ _ _ _ _ _ _ h) ⟨rfl, rfl, rfl, rfl, rfl, rfl, trivial⟩
set_option maxRecDepth 100000 in
set_option maxHeartbeats 4000000 in
theorem pH_X3_shift_47 {x : CX} {l : Launch} {g : CG} {rv : Unit} {μ0 μ9 : Mem} (C : Cx x l g mi_X3_shift) (F : Prom x g mi_X3_shift μ0 none μ9) {N : Nat} {k47 : (Option Nat) → Int32 → Int32 → Int32 → Int32 → Int32 → Mem → Option (Unit × Mem)} (hk47 : ∀ (a0 : Option Nat) (a1 : Int32) (a2 : Int32) (a3 : Int32) (a4 : Int32) (a5 : Int32) (μ : Mem), k47 a0 a1 a2 a3 a4 a5 μ = some (rv, μ9) → V x g 6 0 0 μ 47 [(0, aR a0), (1, aI a1), (2, aI a2), (3, aI a3), (4, aI a4), (5, aI a5)] []) {a0 : Option Nat} {a1 : Int32} {a2 : Int32} {a3 : Int32} {a4 : Int32} {a5 : Int32} {μ : Mem} (h : H_X3_shift_47 N k47 a0 a1 a2 a3 a4 a5 μ = some (rv, μ9)) : V x g 6 0 0 μ 47 [(0, aR a0), (1, aI a1), (2, aI a2), (3, aI a3), (4, aI a4), (5, aI a5)] [] := by
  unfold H_X3_shift_47 at h
  refine v_iload C dX3_shift_47 rfl ?_
  refine v_iload_n C dX3_shift_49 rfl ?_
  refine v_icmp_ge (tgt := 95) C dX3_shift_50 (by decide) (fun c => ?_) (fun c => ?_)
  · replace h := ifT h c
    refine v_aload_n C dX3_shift_95 rfl ?_
    refine v_iload_n C dX3_shift_96 rfl ?_
    obtain ⟨q, e, h⟩ := ob h
    refine v_callS (As := [_, _]) C dX3_shift_97 cf_X3_93 (rm_X3_shift_X3_setLong) ⟨rfl, rfl⟩ rfl (Nat.le_of_ble_eq_true rfl) (c_X3_setLong _ _ N _ _ _ q.1 q.2 e) ?_
    exact v_vret C F ⟨rfl, rfl, Nat.le_refl _⟩ dX3_shift_100 h
  · replace h := ifF h c
    refine v_iload_n C dX3_shift_53 rfl ?_
    refine v_bipush (v := 10) C dX3_shift_54 rfl ?_
    refine v_icmp_ne (tgt := 79) C dX3_shift_56 (by decide) (fun c => ?_) (fun c => ?_)
    · replace h := ifT h c
      refine v_iload_n C dX3_shift_79 rfl ?_
      refine v_iconst (v := 1) C dX3_shift_80 rfl ?_
      refine v_ishr C dX3_shift_81 ?_
      refine v_iload C dX3_shift_82 rfl ?_
      refine v_bipush (v := 23) C dX3_shift_84 rfl ?_
      refine v_ishl C dX3_shift_86 ?_
      refine v_ior C dX3_shift_87 ?_
      refine v_istore_n C dX3_shift_88 (by decide) ?_
      exact v_sb (p_X3_shift_89 C F hk47 h) ⟨rfl, rfl, rfl, rfl, rfl, rfl, trivial⟩
    · replace h := ifF h c
      refine v_aload_n C dX3_shift_59 rfl ?_
      refine v_iload_n C dX3_shift_60 rfl ?_
      refine v_bipush (v := 23) C dX3_shift_61 rfl ?_
      refine v_ishr C dX3_shift_63 ?_
      refine v_iconst (v := 1) C dX3_shift_64 rfl ?_
      refine v_iand C dX3_shift_65 ?_
      obtain ⟨m, e, h⟩ := ob h
      refine v_putI C dX3_shift_66 (pf_X3_59 _) e ?_
      refine v_iload_n C dX3_shift_69 rfl ?_
      refine v_iconst (v := 1) C dX3_shift_70 rfl ?_
      refine v_ishl C dX3_shift_71 ?_
      refine v_ldc C dX3_shift_72 kc_X3_102 ?_
      refine v_iand C dX3_shift_74 ?_
      refine v_istore_n C dX3_shift_75 (by decide) ?_
      refine v_goto (tgt := 89) C dX3_shift_76 (by decide) ?_
      exact v_sb (p_X3_shift_89 C F hk47 h) ⟨rfl, rfl, rfl, rfl, rfl, rfl, trivial⟩
set_option maxRecDepth 100000 in
set_option maxHeartbeats 4000000 in
theorem pL_X3_shift_47 {x : CX} {l : Launch} {g : CG} {rv : Unit} {μ0 μ9 : Mem} (C : Cx x l g mi_X3_shift) (F : Prom x g mi_X3_shift μ0 none μ9) (N : Nat) (n : Nat) : ∀ (a0 : Option Nat) (a1 : Int32) (a2 : Int32) (a3 : Int32) (a4 : Int32) (a5 : Int32) (μ : Mem), L_X3_shift_47 N n a0 a1 a2 a3 a4 a5 μ = some (rv, μ9) → V x g 6 0 0 μ 47 [(0, aR a0), (1, aI a1), (2, aI a2), (3, aI a3), (4, aI a4), (5, aI a5)] [] := by
  induction n with
  | zero => intro a0 a1 a2 a3 a4 a5 μ h; cases h
  | succ n ih => intro a0 a1 a2 a3 a4 a5 μ h; exact pH_X3_shift_47 C F ih h
set_option maxRecDepth 100000 in
set_option maxHeartbeats 4000000 in
theorem p_X3_shift_44 {x : CX} {l : Launch} {g : CG} {rv : Unit} {μ0 μ9 : Mem} (C : Cx x l g mi_X3_shift) (F : Prom x g mi_X3_shift μ0 none μ9) {N : Nat} {a0 : Option Nat} {a1 : Int32} {a2 : Int32} {a3 : Int32} {a4 : Int32} {μ : Mem} (h : f_X3_shift_44 N a0 a1 a2 a3 a4 μ = some (rv, μ9)) : V x g 6 0 0 μ 44 [(0, aR a0), (1, aI a1), (2, aI a2), (3, aI a3), (4, aI a4)] [] := by
  unfold f_X3_shift_44 at h
  refine v_iconst (v := 0) C dX3_shift_44 rfl ?_
  refine v_istore C dX3_shift_45 (by decide) ?_
  exact v_sb (pL_X3_shift_47 C F N N _ _ _ _ _ _ _ h) ⟨rfl, rfl, rfl, rfl, rfl, rfl, trivial⟩
set_option maxRecDepth 100000 in
set_option maxHeartbeats 4000000 in
theorem p_X3_shift_30 {x : CX} {l : Launch} {g : CG} {rv : Unit} {μ0 μ9 : Mem} (C : Cx x l g mi_X3_shift) (F : Prom x g mi_X3_shift μ0 none μ9) {N : Nat} {a0 : Option Nat} {a1 : Int32} {a2 : Int32} {a3 : Int32} {s0 : Int32} {μ : Mem} (h : f_X3_shift_30 N a0 a1 a2 a3 s0 μ = some (rv, μ9)) : V x g 6 0 0 μ 30 [(0, aR a0), (1, aI a1), (2, aI a2), (3, aI a3)] [aI s0] := by
  unfold f_X3_shift_30 at h
  refine v_istore C dX3_shift_30 (by decide) ?_
  refine v_iload_n C dX3_shift_32 rfl ?_
  refine v_bipush (v := 10) C dX3_shift_33 rfl ?_
  refine v_icmp_eq (tgt := 44) C dX3_shift_35 (by decide) (fun c => ?_) (fun c => ?_)
  · replace h := ifT h c
    exact v_sb (p_X3_shift_44 C F h) ⟨rfl, rfl, rfl, rfl, rfl, trivial⟩
  · replace h := ifF h c
    refine v_aload_n C dX3_shift_38 rfl ?_
    refine v_iload C dX3_shift_39 rfl ?_
    obtain ⟨m, e, h⟩ := ob h
    refine v_putI C dX3_shift_41 (pf_X3_59 _) e ?_
    exact v_sb (p_X3_shift_44 C F h) ⟨rfl, rfl, rfl, rfl, rfl, trivial⟩
set_option maxRecDepth 100000 in
set_option maxHeartbeats 4000000 in
theorem p_X3_shift {x : CX} {l : Launch} {g : CG} {rv : Unit} {μ0 μ9 : Mem} (C : Cx x l g mi_X3_shift) (F : Prom x g mi_X3_shift μ0 none μ9) {N : Nat} {a0 : Option Nat} {a1 : Int32} {a2 : Int32} {μ : Mem} (h : f_X3_shift N a0 a1 a2 μ = some (rv, μ9)) : V x g 6 0 0 μ 0 [(0, aR a0), (1, aI a1), (2, aI a2)] [] := by
  unfold f_X3_shift at h
  refine v_aload_n C dX3_shift_0 rfl ?_
  obtain ⟨v, e, h⟩ := ob h
  refine v_getI C dX3_shift_1 gf_X3_56 e ?_
  refine v_bipush (v := 12) C dX3_shift_4 rfl ?_
  refine v_ishl C dX3_shift_6 ?_
  refine v_aload_n C dX3_shift_7 rfl ?_
  obtain ⟨v, e, h⟩ := ob h
  refine v_getI C dX3_shift_8 gf_X3_86 e ?_
  refine v_ior C dX3_shift_11 ?_
  refine v_istore_n C dX3_shift_12 (by decide) ?_
  refine v_iload_n C dX3_shift_13 rfl ?_
  refine v_bipush (v := 12) C dX3_shift_14 rfl ?_
  refine v_icmp_ne (tgt := 29) C dX3_shift_16 (by decide) (fun c => ?_) (fun c => ?_)
  · replace h := ifT h c
    refine v_iconst (v := 0) C dX3_shift_29 rfl ?_
    exact v_sb (p_X3_shift_30 C F h) ⟨rfl, rfl, rfl, rfl, trivial⟩
  · replace h := ifF h c
    refine v_aload_n C dX3_shift_19 rfl ?_
    obtain ⟨v, e, h⟩ := ob h
    refine v_getI C dX3_shift_20 gf_X3_56 e ?_
    refine v_bipush (v := 11) C dX3_shift_23 rfl ?_
    refine v_ishr C dX3_shift_25 ?_
    refine v_goto (tgt := 30) C dX3_shift_26 (by decide) ?_
    exact v_sb (p_X3_shift_30 C F h) ⟨rfl, rfl, rfl, rfl, trivial⟩
set_option maxRecDepth 100000 in
set_option maxHeartbeats 4000000 in
theorem c_X3_shift (l : Launch) (g : CG) (N : Nat) (a0 : Option Nat) (a1 : Int32) (a2 : Int32) (μ : Mem) (rv : Unit) (μ9 : Mem) (h : f_X3_shift N a0 a1 a2 μ = some (rv, μ9)) : Ct l yX3_shift mi_X3_shift g [aR a0, aI a1, aI a2] μ none μ9 := ct_of ⟨by decide, rfl, rfl⟩ (Nat.le_of_ble_eq_true rfl) fun x C F => p_X3_shift C F h
def f_X3_reckon_70 (N : Nat) (μ : Mem) : Option (Unit × Mem) :=
  some ((), μ)
def f_X3_reckon (N : Nat) (a0 : Option Nat) (a1 : Int32) (a2 : Int32) (μ : Mem) : Option (Unit × Mem) :=
  if a1 = 4 then
    (mfI μ a0 10 12).bind fun v1 =>
    (mfI μ a0 10 10).bind fun v2 =>
    (f_X3_setLong N a0 ((a2 * v1) + v2) μ).bind fun q3 =>
    (mpI q3.2 a0 10 11 0).bind fun μ4 =>
    f_X3_reckon_70 N μ4
  else
    if a1 = 6 then
      (f_X3_divide N a0 a2 μ).bind fun q5 =>
      f_X3_reckon_70 N q5.2
    else
      (f_X3_shift N a0 a1 ((a2 &&& 31) + 1) μ).bind fun q6 =>
      f_X3_reckon_70 N q6.2
set_option maxRecDepth 100000 in
set_option maxHeartbeats 4000000 in
theorem p_X3_reckon_70 {x : CX} {l : Launch} {g : CG} {rv : Unit} {μ0 μ9 : Mem} (C : Cx x l g mi_X3_reckon) (F : Prom x g mi_X3_reckon μ0 none μ9) {N : Nat} {μ : Mem} (h : f_X3_reckon_70 N μ = some (rv, μ9)) : V x g 3 0 0 μ 70 [] [] := by
  unfold f_X3_reckon_70 at h
  exact v_vret C F ⟨rfl, rfl, Nat.le_refl _⟩ dX3_reckon_70 h
set_option maxRecDepth 100000 in
set_option maxHeartbeats 4000000 in
theorem p_X3_reckon {x : CX} {l : Launch} {g : CG} {rv : Unit} {μ0 μ9 : Mem} (C : Cx x l g mi_X3_reckon) (F : Prom x g mi_X3_reckon μ0 none μ9) {N : Nat} {a0 : Option Nat} {a1 : Int32} {a2 : Int32} {μ : Mem} (h : f_X3_reckon N a0 a1 a2 μ = some (rv, μ9)) : V x g 3 0 0 μ 0 [(0, aR a0), (1, aI a1), (2, aI a2)] [] := by
  unfold f_X3_reckon at h
  refine v_iload_n C dX3_reckon_0 rfl ?_
  refine v_lookupswitch (dt := 59) (cs := [(4, 28), (6, 51)]) C dX3_reckon_1 rfl (by decide) (by decide) ?_
  refine v_case (fun c => ?_) (fun c => ?_)
  · replace h := ifT h c
    refine v_aload_n C dX3_reckon_28 rfl ?_
    refine v_iload_n C dX3_reckon_29 rfl ?_
    refine v_aload_n C dX3_reckon_30 rfl ?_
    obtain ⟨v, e, h⟩ := ob h
    refine v_getI C dX3_reckon_31 gf_X3_86 e ?_
    refine v_imul C dX3_reckon_34 ?_
    refine v_aload_n C dX3_reckon_35 rfl ?_
    obtain ⟨v, e, h⟩ := ob h
    refine v_getI C dX3_reckon_36 gf_X3_56 e ?_
    refine v_iadd C dX3_reckon_39 ?_
    obtain ⟨q, e, h⟩ := ob h
    refine v_callS (As := [_, _]) C dX3_reckon_40 cf_X3_93 (rm_X3_reckon_X3_setLong) ⟨rfl, rfl⟩ rfl (Nat.le_of_ble_eq_true rfl) (c_X3_setLong _ _ N _ _ _ q.1 q.2 e) ?_
    refine v_aload_n C dX3_reckon_43 rfl ?_
    refine v_iconst (v := 0) C dX3_reckon_44 rfl ?_
    obtain ⟨m, e, h⟩ := ob h
    refine v_putI C dX3_reckon_45 (pf_X3_59 _) e ?_
    refine v_goto (tgt := 70) C dX3_reckon_48 (by decide) ?_
    exact v_sb (p_X3_reckon_70 C F h) trivial
  · replace h := ifF h c
    refine v_case (fun c => ?_) (fun c => ?_)
    · replace h := ifT h c
      refine v_aload_n C dX3_reckon_51 rfl ?_
      refine v_iload_n C dX3_reckon_52 rfl ?_
      obtain ⟨q, e, h⟩ := ob h
      refine v_callS (As := [_, _]) C dX3_reckon_53 cf_X3_96 (rm_X3_reckon_X3_divide) ⟨rfl, rfl⟩ rfl (Nat.le_of_ble_eq_true rfl) (c_X3_divide _ _ N _ _ _ q.1 q.2 e) ?_
      refine v_goto (tgt := 70) C dX3_reckon_56 (by decide) ?_
      exact v_sb (p_X3_reckon_70 C F h) trivial
    · replace h := ifF h c
      refine v_caseD ?_
      refine v_aload_n C dX3_reckon_59 rfl ?_
      refine v_iload_n C dX3_reckon_60 rfl ?_
      refine v_iload_n C dX3_reckon_61 rfl ?_
      refine v_bipush (v := 31) C dX3_reckon_62 rfl ?_
      refine v_iand C dX3_reckon_64 ?_
      refine v_iconst (v := 1) C dX3_reckon_65 rfl ?_
      refine v_iadd C dX3_reckon_66 ?_
      obtain ⟨q, e, h⟩ := ob h
      refine v_callS (As := [_, _, _]) C dX3_reckon_67 cf_X3_99 (rm_X3_reckon_X3_shift) ⟨rfl, rfl⟩ rfl (Nat.le_of_ble_eq_true rfl) (c_X3_shift _ _ N _ _ _ _ q.1 q.2 e) ?_
      exact v_sb (p_X3_reckon_70 C F h) trivial
set_option maxRecDepth 100000 in
set_option maxHeartbeats 4000000 in
theorem c_X3_reckon (l : Launch) (g : CG) (N : Nat) (a0 : Option Nat) (a1 : Int32) (a2 : Int32) (μ : Mem) (rv : Unit) (μ9 : Mem) (h : f_X3_reckon N a0 a1 a2 μ = some (rv, μ9)) : Ct l yX3_reckon mi_X3_reckon g [aR a0, aI a1, aI a2] μ none μ9 := ct_of ⟨by decide, rfl, rfl⟩ (Nat.le_of_ble_eq_true rfl) fun x C F => p_X3_reckon C F h
def f_X3_extend_19 (N : Nat) (a0 : Option Nat) (a1 : Option Nat) (μ : Mem) : Option (Int32 × Mem) :=
  (mck μ a0 3).bind fun b2 =>
  (f_X3_goWrong N (some b2) a1 μ).bind fun q1 =>
  retZ q1.1 q1.2
def f_X3_extend_173 (N : Nat) (μ : Mem) : Option (Int32 × Mem) :=
  retZ 1 μ
def f_X3_extend_131 (N : Nat) (a1 : Option Nat) (a2 : Option Nat) (a4 : Int32) (μ : Mem) : Option (Int32 × Mem) :=
  if a4 = 0 then
    f_X3_extend_173 N μ
  else
    (mfR μ a2 8 1).bind fun v1 =>
    (mfI μ a1 10 9).bind fun v2 =>
    (maI μ 0 v1 (v2 &&& 4095)).bind fun v3 =>
    (mfI μ a1 10 9).bind fun v4 =>
    (mpI μ a1 10 9 ((v4 + 1) &&& 4095)).bind fun μ5 =>
    (f_X3_reckon N a1 a4 v3 μ5).bind fun q6 =>
    f_X3_extend_173 N q6.2
def f_X3_extend_38 (N : Nat) (a1 : Option Nat) (a2 : Option Nat) (a3 : Int32) (a4 : Int32) (μ : Mem) : Option (Int32 × Mem) :=
  (mfI μ a1 10 10).bind fun v1 =>
  if (a3 &&& 80) = 16 then
    (mpI μ a1 10 12 v1).bind fun μ2 =>
    (mpI μ2 a1 10 10 0).bind fun μ3 =>
    f_X3_extend_131 N a1 a2 a4 μ3
  else
    if (a3 &&& 80) = 64 then
      (mfI μ a1 10 10).bind fun v4 =>
      (mfI μ a1 10 12).bind fun v5 =>
      (mpI μ a1 10 10 (v4 ||| v5)).bind fun μ6 =>
      f_X3_extend_131 N a1 a2 a4 μ6
    else
      if (a3 &&& 80) = 80 then
        (mfI μ a1 10 12).bind fun v7 =>
        (mpI μ a1 10 10 v7).bind fun μ8 =>
        (mpI μ8 a1 10 12 v1).bind fun μ9 =>
        f_X3_extend_131 N a1 a2 a4 μ9
      else
        f_X3_extend_131 N a1 a2 a4 μ
def f_X3_extend (N : Nat) (a0 : Option Nat) (a1 : Option Nat) (a2 : Option Nat) (a3 : Int32) (μ : Mem) : Option (Int32 × Mem) :=
  if (a3 &&& 14) = (2 : Int32) then
    f_X3_extend_19 N a0 a1 μ
  else
    if ¬ (a3 &&& 14) = (8 : Int32) then
      if (a3 &&& 128) = 0 then
        f_X3_extend_38 N a1 a2 a3 (a3 &&& 14) μ
      else
        (mpI μ a1 10 10 0).bind fun μ1 =>
        f_X3_extend_38 N a1 a2 a3 (a3 &&& 14) μ1
    else
      f_X3_extend_19 N a0 a1 μ
set_option maxRecDepth 100000 in
set_option maxHeartbeats 4000000 in
theorem p_X3_extend_19 {x : CX} {l : Launch} {g : CG} {rv : Int32} {μ0 μ9 : Mem} (C : Cx x l g mi_X3_extend) (F : Prom x g mi_X3_extend μ0 (some (aI rv)) μ9) {N : Nat} {a0 : Option Nat} {a1 : Option Nat} {μ : Mem} (h : f_X3_extend_19 N a0 a1 μ = some (rv, μ9)) : V x g 7 0 0 μ 19 [(0, aR a0), (1, aR a1)] [] := by
  unfold f_X3_extend_19 at h
  refine v_aload_n C dX3_extend_19 rfl ?_
  refine v_aload_n C dX3_extend_20 rfl ?_
  obtain ⟨b, e0, h⟩ := ob h
  obtain ⟨q, e, h⟩ := ob h
  refine v_callV (As := [_]) C dX3_extend_21 cf_X3_82 (rm_X3_extend_X3_goWrong) ⟨rfl, rfl⟩ e0 rfl (Nat.le_of_ble_eq_true rfl) (c_X3_goWrong _ _ N _ _ _ q.1 q.2 e) ?_
  exact v_zret C F ⟨rfl, rfl, Nat.le_refl _⟩ dX3_extend_24 h
set_option maxRecDepth 100000 in
set_option maxHeartbeats 4000000 in
theorem p_X3_extend_173 {x : CX} {l : Launch} {g : CG} {rv : Int32} {μ0 μ9 : Mem} (C : Cx x l g mi_X3_extend) (F : Prom x g mi_X3_extend μ0 (some (aI rv)) μ9) {N : Nat} {μ : Mem} (h : f_X3_extend_173 N μ = some (rv, μ9)) : V x g 7 0 0 μ 173 [] [] := by
  unfold f_X3_extend_173 at h
  refine v_iconst (v := 1) C dX3_extend_173 rfl ?_
  exact v_zret C F ⟨rfl, rfl, Nat.le_refl _⟩ dX3_extend_174 h
set_option maxRecDepth 100000 in
set_option maxHeartbeats 4000000 in
theorem p_X3_extend_131 {x : CX} {l : Launch} {g : CG} {rv : Int32} {μ0 μ9 : Mem} (C : Cx x l g mi_X3_extend) (F : Prom x g mi_X3_extend μ0 (some (aI rv)) μ9) {N : Nat} {a1 : Option Nat} {a2 : Option Nat} {a4 : Int32} {μ : Mem} (h : f_X3_extend_131 N a1 a2 a4 μ = some (rv, μ9)) : V x g 7 0 0 μ 131 [(1, aR a1), (2, aR a2), (4, aI a4)] [] := by
  unfold f_X3_extend_131 at h
  refine v_iload C dX3_extend_131 rfl ?_
  refine v_if_eq (tgt := 173) C dX3_extend_133 (by decide) (fun c => ?_) (fun c => ?_)
  · replace h := ifT h c
    exact v_sb (p_X3_extend_173 C F h) trivial
  · replace h := ifF h c
    refine v_aload_n C dX3_extend_136 rfl ?_
    obtain ⟨v, e, h⟩ := ob h
    refine v_getR C dX3_extend_137 gf_X3_23 e ?_
    refine v_aload_n C dX3_extend_140 rfl ?_
    obtain ⟨v, e, h⟩ := ob h
    refine v_getI C dX3_extend_141 gf_X3_18 e ?_
    refine v_sipush (v := 4095) C dX3_extend_144 rfl ?_
    refine v_iand C dX3_extend_147 ?_
    obtain ⟨v, e, h⟩ := ob h
    refine v_iaload C dX3_extend_148 e ?_
    refine v_istore C dX3_extend_149 (by decide) ?_
    refine v_aload_n C dX3_extend_151 rfl ?_
    refine v_aload_n C dX3_extend_152 rfl ?_
    obtain ⟨v, e, h⟩ := ob h
    refine v_getI C dX3_extend_153 gf_X3_18 e ?_
    refine v_iconst (v := 1) C dX3_extend_156 rfl ?_
    refine v_iadd C dX3_extend_157 ?_
    refine v_sipush (v := 4095) C dX3_extend_158 rfl ?_
    refine v_iand C dX3_extend_161 ?_
    obtain ⟨m, e, h⟩ := ob h
    refine v_putI C dX3_extend_162 (pf_X3_18 _) e ?_
    refine v_aload_n C dX3_extend_165 rfl ?_
    refine v_iload C dX3_extend_166 rfl ?_
    refine v_iload C dX3_extend_168 rfl ?_
    obtain ⟨q, e, h⟩ := ob h
    refine v_callS (As := [_, _, _]) C dX3_extend_170 cf_X3_89 (rm_X3_extend_X3_reckon) ⟨rfl, rfl⟩ rfl (Nat.le_of_ble_eq_true rfl) (c_X3_reckon _ _ N _ _ _ _ q.1 q.2 e) ?_
    exact v_sb (p_X3_extend_173 C F h) trivial
set_option maxRecDepth 100000 in
set_option maxHeartbeats 4000000 in
theorem p_X3_extend_38 {x : CX} {l : Launch} {g : CG} {rv : Int32} {μ0 μ9 : Mem} (C : Cx x l g mi_X3_extend) (F : Prom x g mi_X3_extend μ0 (some (aI rv)) μ9) {N : Nat} {a1 : Option Nat} {a2 : Option Nat} {a3 : Int32} {a4 : Int32} {μ : Mem} (h : f_X3_extend_38 N a1 a2 a3 a4 μ = some (rv, μ9)) : V x g 7 0 0 μ 38 [(1, aR a1), (2, aR a2), (3, aI a3), (4, aI a4)] [] := by
  unfold f_X3_extend_38 at h
  refine v_aload_n C dX3_extend_38 rfl ?_
  obtain ⟨v, e, h⟩ := ob h
  refine v_getI C dX3_extend_39 gf_X3_56 e ?_
  refine v_istore C dX3_extend_42 (by decide) ?_
  refine v_iload_n C dX3_extend_44 rfl ?_
  refine v_bipush (v := 80) C dX3_extend_45 rfl ?_
  refine v_iand C dX3_extend_47 ?_
  refine v_lookupswitch (dt := 131) (cs := [(16, 117), (64, 101), (80, 84)]) C dX3_extend_48 rfl (by decide) (by decide) ?_
  refine v_case (fun c => ?_) (fun c => ?_)
  · replace h := ifT h c
    refine v_aload_n C dX3_extend_117 rfl ?_
    refine v_iload C dX3_extend_118 rfl ?_
    obtain ⟨m, e, h⟩ := ob h
    refine v_putI C dX3_extend_120 (pf_X3_86 _) e ?_
    refine v_aload_n C dX3_extend_123 rfl ?_
    refine v_iconst (v := 0) C dX3_extend_124 rfl ?_
    obtain ⟨m, e, h⟩ := ob h
    refine v_putI C dX3_extend_125 (pf_X3_56 _) e ?_
    refine v_goto (tgt := 131) C dX3_extend_128 (by decide) ?_
    exact v_sb (p_X3_extend_131 C F h) ⟨rfl, rfl, rfl, trivial⟩
  · replace h := ifF h c
    refine v_case (fun c => ?_) (fun c => ?_)
    · replace h := ifT h c
      refine v_aload_n C dX3_extend_101 rfl ?_
      refine v_dup C dX3_extend_102 rfl ?_
      obtain ⟨v, e, h⟩ := ob h
      refine v_getI C dX3_extend_103 gf_X3_56 e ?_
      refine v_aload_n C dX3_extend_106 rfl ?_
      obtain ⟨v, e, h⟩ := ob h
      refine v_getI C dX3_extend_107 gf_X3_86 e ?_
      refine v_ior C dX3_extend_110 ?_
      obtain ⟨m, e, h⟩ := ob h
      refine v_putI C dX3_extend_111 (pf_X3_56 _) e ?_
      refine v_goto (tgt := 131) C dX3_extend_114 (by decide) ?_
      exact v_sb (p_X3_extend_131 C F h) ⟨rfl, rfl, rfl, trivial⟩
    · replace h := ifF h c
      refine v_case (fun c => ?_) (fun c => ?_)
      · replace h := ifT h c
        refine v_aload_n C dX3_extend_84 rfl ?_
        refine v_aload_n C dX3_extend_85 rfl ?_
        obtain ⟨v, e, h⟩ := ob h
        refine v_getI C dX3_extend_86 gf_X3_86 e ?_
        obtain ⟨m, e, h⟩ := ob h
        refine v_putI C dX3_extend_89 (pf_X3_56 _) e ?_
        refine v_aload_n C dX3_extend_92 rfl ?_
        refine v_iload C dX3_extend_93 rfl ?_
        obtain ⟨m, e, h⟩ := ob h
        refine v_putI C dX3_extend_95 (pf_X3_86 _) e ?_
        refine v_goto (tgt := 131) C dX3_extend_98 (by decide) ?_
        exact v_sb (p_X3_extend_131 C F h) ⟨rfl, rfl, rfl, trivial⟩
      · replace h := ifF h c
        refine v_caseD ?_
        exact v_sb (p_X3_extend_131 C F h) ⟨rfl, rfl, rfl, trivial⟩
set_option maxRecDepth 100000 in
set_option maxHeartbeats 4000000 in
theorem p_X3_extend {x : CX} {l : Launch} {g : CG} {rv : Int32} {μ0 μ9 : Mem} (C : Cx x l g mi_X3_extend) (F : Prom x g mi_X3_extend μ0 (some (aI rv)) μ9) {N : Nat} {a0 : Option Nat} {a1 : Option Nat} {a2 : Option Nat} {a3 : Int32} {μ : Mem} (h : f_X3_extend N a0 a1 a2 a3 μ = some (rv, μ9)) : V x g 7 0 0 μ 0 [(0, aR a0), (1, aR a1), (2, aR a2), (3, aI a3)] [] := by
  unfold f_X3_extend at h
  refine v_iload_n C dX3_extend_0 rfl ?_
  refine v_bipush (v := 14) C dX3_extend_1 rfl ?_
  refine v_iand C dX3_extend_3 ?_
  refine v_istore C dX3_extend_4 (by decide) ?_
  refine v_iload C dX3_extend_6 rfl ?_
  refine v_iconst (v := 2) C dX3_extend_8 rfl ?_
  refine v_icmp_eq (tgt := 19) C dX3_extend_9 (by decide) (fun c => ?_) (fun c => ?_)
  · replace h := ifT h c
    exact v_sb (p_X3_extend_19 C F h) ⟨rfl, rfl, trivial⟩
  · replace h := ifF h c
    refine v_iload C dX3_extend_12 rfl ?_
    refine v_bipush (v := 8) C dX3_extend_14 rfl ?_
    refine v_icmp_ne (tgt := 25) C dX3_extend_16 (by decide) (fun c => ?_) (fun c => ?_)
    · replace h := ifT h c
      refine v_iload_n C dX3_extend_25 rfl ?_
      refine v_sipush (v := 128) C dX3_extend_26 rfl ?_
      refine v_iand C dX3_extend_29 ?_
      refine v_if_eq (tgt := 38) C dX3_extend_30 (by decide) (fun c => ?_) (fun c => ?_)
      · replace h := ifT h c
        exact v_sb (p_X3_extend_38 C F h) ⟨rfl, rfl, rfl, rfl, trivial⟩
      · replace h := ifF h c
        refine v_aload_n C dX3_extend_33 rfl ?_
        refine v_iconst (v := 0) C dX3_extend_34 rfl ?_
        obtain ⟨m, e, h⟩ := ob h
        refine v_putI C dX3_extend_35 (pf_X3_56 _) e ?_
        exact v_sb (p_X3_extend_38 C F h) ⟨rfl, rfl, rfl, rfl, trivial⟩
    · replace h := ifF h c
      exact v_sb (p_X3_extend_19 C F h) ⟨rfl, rfl, trivial⟩
set_option maxRecDepth 100000 in
set_option maxHeartbeats 4000000 in
theorem c_X3_extend (l : Launch) (g : CG) (N : Nat) (a0 : Option Nat) (a1 : Option Nat) (a2 : Option Nat) (a3 : Int32) (μ : Mem) (rv : Int32) (μ9 : Mem) (h : f_X3_extend N a0 a1 a2 a3 μ = some (rv, μ9)) : Ct l yX3_extend mi_X3_extend g [aR a0, aR a1, aR a2, aI a3] μ (some (aI rv)) μ9 := ct_of ⟨by decide, rfl, rfl⟩ (Nat.le_of_ble_eq_true rfl) fun x C F => p_X3_extend C F h
def f_X3_step (N : Nat) (a0 : Option Nat) (a1 : Option Nat) (a2 : Option Nat) (a3 : Int32) (μ : Mem) : Option (Int32 × Mem) :=
  (mpI μ a0 3 0 a3).bind fun μ1 =>
  (mfI μ1 a1 10 9).bind fun v2 =>
  (mpI μ1 a0 3 1 (v2 &&& 4095)).bind fun μ3 =>
  (mfR μ3 a2 8 1).bind fun v4 =>
  (mfI μ3 a0 3 1).bind fun v5 =>
  (maI μ3 0 v4 v5).bind fun v6 =>
  (mfI μ3 a0 3 1).bind fun v7 =>
  (mpI μ3 a1 10 9 ((v7 + 1) &&& 4095)).bind fun μ8 =>
  if (6 : Int32) ≤ (v6 >>> ((9 : Int32) &&& 31)) then
    if ¬ (v6 >>> ((9 : Int32) &&& 31)) = (6 : Int32) then
      if ¬ (v6 &&& 256) = 0 then
        if ¬ (v6 &&& 1) = 0 then
          (mck μ8 a0 3).bind fun b10 =>
          (f_X3_extend N (some b10) a1 a2 v6 μ8).bind fun q9 =>
          retZ q9.1 q9.2
        else
          (f_X3_skipOrStop N a1 v6 μ8).bind fun q11 =>
          retZ 1 q11.2
      else
        (f_X3_operate N a1 v6 μ8).bind fun q12 =>
        retZ 1 q12.2
    else
      (mck μ8 a0 3).bind fun b14 =>
      (f_X3_callMonitor N (some b14) a1 v6 μ8).bind fun q13 =>
      retZ q13.1 q13.2
  else
    (mck μ8 a0 3).bind fun b16 =>
    (f_X3_refer N (some b16) a1 a2 (v6 >>> ((9 : Int32) &&& 31)) v6 μ8).bind fun q15 =>
    retZ 1 q15.2
set_option maxRecDepth 100000 in
set_option maxHeartbeats 4000000 in
theorem p_X3_step {x : CX} {l : Launch} {g : CG} {rv : Int32} {μ0 μ9 : Mem} (C : Cx x l g mi_X3_step) (F : Prom x g mi_X3_step μ0 (some (aI rv)) μ9) {N : Nat} {a0 : Option Nat} {a1 : Option Nat} {a2 : Option Nat} {a3 : Int32} {μ : Mem} (h : f_X3_step N a0 a1 a2 a3 μ = some (rv, μ9)) : V x g 6 0 0 μ 0 [(0, aR a0), (1, aR a1), (2, aR a2), (3, aI a3)] [] := by
  unfold f_X3_step at h
  refine v_aload_n C dX3_step_0 rfl ?_
  refine v_iload_n C dX3_step_1 rfl ?_
  obtain ⟨m, e, h⟩ := ob h
  refine v_putI C dX3_step_2 (pf_X3_9 _) e ?_
  refine v_aload_n C dX3_step_5 rfl ?_
  refine v_aload_n C dX3_step_6 rfl ?_
  obtain ⟨v, e, h⟩ := ob h
  refine v_getI C dX3_step_7 gf_X3_18 e ?_
  refine v_sipush (v := 4095) C dX3_step_10 rfl ?_
  refine v_iand C dX3_step_13 ?_
  obtain ⟨m, e, h⟩ := ob h
  refine v_putI C dX3_step_14 (pf_X3_15 _) e ?_
  refine v_aload_n C dX3_step_17 rfl ?_
  obtain ⟨v, e, h⟩ := ob h
  refine v_getR C dX3_step_18 gf_X3_23 e ?_
  refine v_aload_n C dX3_step_21 rfl ?_
  obtain ⟨v, e, h⟩ := ob h
  refine v_getI C dX3_step_22 gf_X3_15 e ?_
  obtain ⟨v, e, h⟩ := ob h
  refine v_iaload C dX3_step_25 e ?_
  refine v_istore C dX3_step_26 (by decide) ?_
  refine v_aload_n C dX3_step_28 rfl ?_
  refine v_aload_n C dX3_step_29 rfl ?_
  obtain ⟨v, e, h⟩ := ob h
  refine v_getI C dX3_step_30 gf_X3_15 e ?_
  refine v_iconst (v := 1) C dX3_step_33 rfl ?_
  refine v_iadd C dX3_step_34 ?_
  refine v_sipush (v := 4095) C dX3_step_35 rfl ?_
  refine v_iand C dX3_step_38 ?_
  obtain ⟨m, e, h⟩ := ob h
  refine v_putI C dX3_step_39 (pf_X3_18 _) e ?_
  refine v_iload C dX3_step_42 rfl ?_
  refine v_bipush (v := 9) C dX3_step_44 rfl ?_
  refine v_ishr C dX3_step_46 ?_
  refine v_istore C dX3_step_47 (by decide) ?_
  refine v_iload C dX3_step_49 rfl ?_
  refine v_bipush (v := 6) C dX3_step_51 rfl ?_
  refine v_icmp_ge (tgt := 68) C dX3_step_53 (by decide) (fun c => ?_) (fun c => ?_)
  · replace h := ifT h c
    refine v_iload C dX3_step_68 rfl ?_
    refine v_bipush (v := 6) C dX3_step_70 rfl ?_
    refine v_icmp_ne (tgt := 83) C dX3_step_72 (by decide) (fun c => ?_) (fun c => ?_)
    · replace h := ifT h c
      refine v_iload C dX3_step_83 rfl ?_
      refine v_sipush (v := 256) C dX3_step_85 rfl ?_
      refine v_iand C dX3_step_88 ?_
      refine v_if_ne (tgt := 100) C dX3_step_89 (by decide) (fun c => ?_) (fun c => ?_)
      · replace h := ifT h c
        refine v_iload C dX3_step_100 rfl ?_
        refine v_iconst (v := 1) C dX3_step_102 rfl ?_
        refine v_iand C dX3_step_103 ?_
        refine v_if_ne (tgt := 115) C dX3_step_104 (by decide) (fun c => ?_) (fun c => ?_)
        · replace h := ifT h c
          refine v_aload_n C dX3_step_115 rfl ?_
          refine v_aload_n C dX3_step_116 rfl ?_
          refine v_aload_n C dX3_step_117 rfl ?_
          refine v_iload C dX3_step_118 rfl ?_
          obtain ⟨b, e0, h⟩ := ob h
          obtain ⟨q, e, h⟩ := ob h
          refine v_callV (As := [_, _, _]) C dX3_step_120 cf_X3_44 (rm_X3_step_X3_extend) ⟨rfl, rfl⟩ e0 rfl (Nat.le_of_ble_eq_true rfl) (c_X3_extend _ _ N _ _ _ _ _ q.1 q.2 e) ?_
          exact v_zret C F ⟨rfl, rfl, Nat.le_refl _⟩ dX3_step_123 h
        · replace h := ifF h c
          refine v_aload_n C dX3_step_107 rfl ?_
          refine v_iload C dX3_step_108 rfl ?_
          obtain ⟨q, e, h⟩ := ob h
          refine v_callS (As := [_, _]) C dX3_step_110 cf_X3_41 (rm_X3_step_X3_skipOrStop) ⟨rfl, rfl⟩ rfl (Nat.le_of_ble_eq_true rfl) (c_X3_skipOrStop _ _ N _ _ _ q.1 q.2 e) ?_
          refine v_iconst (v := 1) C dX3_step_113 rfl ?_
          exact v_zret C F ⟨rfl, rfl, Nat.le_refl _⟩ dX3_step_114 h
      · replace h := ifF h c
        refine v_aload_n C dX3_step_92 rfl ?_
        refine v_iload C dX3_step_93 rfl ?_
        obtain ⟨q, e, h⟩ := ob h
        refine v_callS (As := [_, _]) C dX3_step_95 cf_X3_37 (rm_X3_step_X3_operate) ⟨rfl, rfl⟩ rfl (Nat.le_of_ble_eq_true rfl) (c_X3_operate _ _ N _ _ _ q.1 q.2 e) ?_
        refine v_iconst (v := 1) C dX3_step_98 rfl ?_
        exact v_zret C F ⟨rfl, rfl, Nat.le_refl _⟩ dX3_step_99 h
    · replace h := ifF h c
      refine v_aload_n C dX3_step_75 rfl ?_
      refine v_aload_n C dX3_step_76 rfl ?_
      refine v_iload C dX3_step_77 rfl ?_
      obtain ⟨b, e0, h⟩ := ob h
      obtain ⟨q, e, h⟩ := ob h
      refine v_callV (As := [_, _]) C dX3_step_79 cf_X3_33 (rm_X3_step_X3_callMonitor) ⟨rfl, rfl⟩ e0 rfl (Nat.le_of_ble_eq_true rfl) (c_X3_callMonitor _ _ N _ _ _ _ q.1 q.2 e) ?_
      exact v_zret C F ⟨rfl, rfl, Nat.le_refl _⟩ dX3_step_82 h
  · replace h := ifF h c
    refine v_aload_n C dX3_step_56 rfl ?_
    refine v_aload_n C dX3_step_57 rfl ?_
    refine v_aload_n C dX3_step_58 rfl ?_
    refine v_iload C dX3_step_59 rfl ?_
    refine v_iload C dX3_step_61 rfl ?_
    obtain ⟨b, e0, h⟩ := ob h
    obtain ⟨q, e, h⟩ := ob h
    refine v_callV (As := [_, _, _, _]) C dX3_step_63 cf_X3_29 (rm_X3_step_X3_refer) ⟨rfl, rfl⟩ e0 rfl (Nat.le_of_ble_eq_true rfl) (c_X3_refer _ _ N _ _ _ _ _ _ q.1 q.2 e) ?_
    refine v_iconst (v := 1) C dX3_step_66 rfl ?_
    exact v_zret C F ⟨rfl, rfl, Nat.le_refl _⟩ dX3_step_67 h
set_option maxRecDepth 100000 in
set_option maxHeartbeats 4000000 in
theorem c_X3_step (l : Launch) (g : CG) (N : Nat) (a0 : Option Nat) (a1 : Option Nat) (a2 : Option Nat) (a3 : Int32) (μ : Mem) (rv : Int32) (μ9 : Mem) (h : f_X3_step N a0 a1 a2 a3 μ = some (rv, μ9)) : Ct l yX3_step mi_X3_step g [aR a0, aR a1, aR a2, aI a3] μ (some (aI rv)) μ9 := ct_of ⟨by decide, rfl, rfl⟩ (Nat.le_of_ble_eq_true rfl) fun x C F => p_X3_step C F h
