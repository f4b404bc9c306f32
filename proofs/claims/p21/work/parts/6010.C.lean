/-! LAYER 1: X3.addressOf, X3.skipIf, X3.refer, X3.waitFor, X3.readKey, X3.sendLetter, X3.fallAsleep, X3.goWrong, X3.callMonitor, X3.both, X3.setBoth, X3.turn (by program) -/
def f_X3_addressOf_63 (N : Nat) (a1 : Option Nat) (a3 : Int32) (μ : Mem) : Option (Int32 × Mem) :=
  (mfR μ a1 8 1).bind fun v1 =>
  (maI μ 0 v1 a3).bind fun v2 =>
  some (v2 &&& 4095, μ)
def f_X3_addressOf_24 (N : Nat) (a1 : Option Nat) (a2 : Int32) (a3 : Int32) (μ : Mem) : Option (Int32 × Mem) :=
  if ¬ (a2 &&& 256) = 0 then
    if a3 < (8 : Int32) then
      f_X3_addressOf_63 N a1 a3 μ
    else
      if (15 : Int32) < a3 then
        f_X3_addressOf_63 N a1 a3 μ
      else
        (mfR μ a1 8 1).bind fun v1 =>
        (maI μ 0 v1 a3).bind fun v2 =>
        (mck μ a1 8).bind fun b4 =>
        (f_X8_put N (some b4) a3 ((v2 + 1) &&& 4095) μ).bind fun q3 =>
        f_X3_addressOf_63 N a1 a3 q3.2
  else
    some (a3, μ)
def f_X3_addressOf (N : Nat) (a0 : Option Nat) (a1 : Option Nat) (a2 : Int32) (μ : Mem) : Option (Int32 × Mem) :=
  if (a2 &&& 128) = 0 then
    f_X3_addressOf_24 N a1 a2 (a2 &&& 127) μ
  else
    (mfI μ a0 3 1).bind fun v1 =>
    f_X3_addressOf_24 N a1 a2 ((a2 &&& 127) ||| (v1 &&& 3968)) μ
set_option maxRecDepth 100000 in
set_option maxHeartbeats 4000000 in
theorem p_X3_addressOf_63 {x : CX} {l : Launch} {g : CG} {rv : Int32} {μ0 μ9 : Mem} (C : Cx x l g mi_X3_addressOf) (F : Prom x g mi_X3_addressOf μ0 (some (aI rv)) μ9) {N : Nat} {a1 : Option Nat} {a3 : Int32} {μ : Mem} (h : f_X3_addressOf_63 N a1 a3 μ = some (rv, μ9)) : V x g 4 0 0 μ 63 [(1, aR a1), (3, aI a3)] [] := by
  unfold f_X3_addressOf_63 at h
  refine v_aload_n C dX3_addressOf_63 rfl ?_
  obtain ⟨v, e, h⟩ := ob h
  refine v_getR C dX3_addressOf_64 gf_X3_23 e ?_
  refine v_iload_n C dX3_addressOf_67 rfl ?_
  obtain ⟨v, e, h⟩ := ob h
  refine v_iaload C dX3_addressOf_68 e ?_
  refine v_sipush (v := 4095) C dX3_addressOf_69 rfl ?_
  refine v_iand C dX3_addressOf_72 ?_
  exact v_iret C F ⟨rfl, rfl, Nat.le_refl _⟩ dX3_addressOf_73 h
set_option maxRecDepth 100000 in
set_option maxHeartbeats 4000000 in
theorem p_X3_addressOf_24 {x : CX} {l : Launch} {g : CG} {rv : Int32} {μ0 μ9 : Mem} (C : Cx x l g mi_X3_addressOf) (F : Prom x g mi_X3_addressOf μ0 (some (aI rv)) μ9) {N : Nat} {a1 : Option Nat} {a2 : Int32} {a3 : Int32} {μ : Mem} (h : f_X3_addressOf_24 N a1 a2 a3 μ = some (rv, μ9)) : V x g 4 0 0 μ 24 [(1, aR a1), (2, aI a2), (3, aI a3)] [] := by
  unfold f_X3_addressOf_24 at h
  refine v_iload_n C dX3_addressOf_24 rfl ?_
  refine v_sipush (v := 256) C dX3_addressOf_25 rfl ?_
  refine v_iand C dX3_addressOf_28 ?_
  refine v_if_ne (tgt := 34) C dX3_addressOf_29 (by decide) (fun c => ?_) (fun c => ?_)
  · replace h := ifT h c
    refine v_iload_n C dX3_addressOf_34 rfl ?_
    refine v_bipush (v := 8) C dX3_addressOf_35 rfl ?_
    refine v_icmp_lt (tgt := 63) C dX3_addressOf_37 (by decide) (fun c => ?_) (fun c => ?_)
    · replace h := ifT h c
      exact v_sb (p_X3_addressOf_63 C F h) ⟨rfl, rfl, trivial⟩
    · replace h := ifF h c
      refine v_iload_n C dX3_addressOf_40 rfl ?_
      refine v_bipush (v := 15) C dX3_addressOf_41 rfl ?_
      refine v_icmp_gt (tgt := 63) C dX3_addressOf_43 (by decide) (fun c => ?_) (fun c => ?_)
      · replace h := ifT h c
        exact v_sb (p_X3_addressOf_63 C F h) ⟨rfl, rfl, trivial⟩
      · replace h := ifF h c
        refine v_aload_n C dX3_addressOf_46 rfl ?_
        refine v_iload_n C dX3_addressOf_47 rfl ?_
        refine v_aload_n C dX3_addressOf_48 rfl ?_
        obtain ⟨v, e, h⟩ := ob h
        refine v_getR C dX3_addressOf_49 gf_X3_23 e ?_
        refine v_iload_n C dX3_addressOf_52 rfl ?_
        obtain ⟨v, e, h⟩ := ob h
        refine v_iaload C dX3_addressOf_53 e ?_
        refine v_iconst (v := 1) C dX3_addressOf_54 rfl ?_
        refine v_iadd C dX3_addressOf_55 ?_
        refine v_sipush (v := 4095) C dX3_addressOf_56 rfl ?_
        refine v_iand C dX3_addressOf_59 ?_
        obtain ⟨b, e0, h⟩ := ob h
        obtain ⟨q, e, h⟩ := ob h
        refine v_callV (As := [_, _]) C dX3_addressOf_60 cf_X3_48 (rm_X3_addressOf_X8_put) ⟨rfl, rfl⟩ e0 rfl (Nat.le_of_ble_eq_true rfl) (c_X8_put _ _ N _ _ _ _ q.1 q.2 e) ?_
        exact v_sb (p_X3_addressOf_63 C F h) ⟨rfl, rfl, trivial⟩
  · replace h := ifF h c
    refine v_iload_n C dX3_addressOf_32 rfl ?_
    exact v_iret C F ⟨rfl, rfl, Nat.le_refl _⟩ dX3_addressOf_33 h
set_option maxRecDepth 100000 in
set_option maxHeartbeats 4000000 in
theorem p_X3_addressOf {x : CX} {l : Launch} {g : CG} {rv : Int32} {μ0 μ9 : Mem} (C : Cx x l g mi_X3_addressOf) (F : Prom x g mi_X3_addressOf μ0 (some (aI rv)) μ9) {N : Nat} {a0 : Option Nat} {a1 : Option Nat} {a2 : Int32} {μ : Mem} (h : f_X3_addressOf N a0 a1 a2 μ = some (rv, μ9)) : V x g 4 0 0 μ 0 [(0, aR a0), (1, aR a1), (2, aI a2)] [] := by
  unfold f_X3_addressOf at h
  refine v_iload_n C dX3_addressOf_0 rfl ?_
  refine v_bipush (v := 127) C dX3_addressOf_1 rfl ?_
  refine v_iand C dX3_addressOf_3 ?_
  refine v_istore_n C dX3_addressOf_4 (by decide) ?_
  refine v_iload_n C dX3_addressOf_5 rfl ?_
  refine v_sipush (v := 128) C dX3_addressOf_6 rfl ?_
  refine v_iand C dX3_addressOf_9 ?_
  refine v_if_eq (tgt := 24) C dX3_addressOf_10 (by decide) (fun c => ?_) (fun c => ?_)
  · replace h := ifT h c
    exact v_sb (p_X3_addressOf_24 C F h) ⟨rfl, rfl, rfl, trivial⟩
  · replace h := ifF h c
    refine v_iload_n C dX3_addressOf_13 rfl ?_
    refine v_aload_n C dX3_addressOf_14 rfl ?_
    obtain ⟨v, e, h⟩ := ob h
    refine v_getI C dX3_addressOf_15 gf_X3_15 e ?_
    refine v_sipush (v := 3968) C dX3_addressOf_18 rfl ?_
    refine v_iand C dX3_addressOf_21 ?_
    refine v_ior C dX3_addressOf_22 ?_
    refine v_istore_n C dX3_addressOf_23 (by decide) ?_
    exact v_sb (p_X3_addressOf_24 C F h) ⟨rfl, rfl, rfl, trivial⟩
set_option maxRecDepth 100000 in
set_option maxHeartbeats 4000000 in
theorem c_X3_addressOf (l : Launch) (g : CG) (N : Nat) (a0 : Option Nat) (a1 : Option Nat) (a2 : Int32) (μ : Mem) (rv : Int32) (μ9 : Mem) (h : f_X3_addressOf N a0 a1 a2 μ = some (rv, μ9)) : Ct l yX3_addressOf mi_X3_addressOf g [aR a0, aR a1, aI a2] μ (some (aI rv)) μ9 := ct_of ⟨by decide, rfl, rfl⟩ (Nat.le_of_ble_eq_true rfl) fun x C F => p_X3_addressOf C F h
def f_X3_skipIf_18 (N : Nat) (μ : Mem) : Option (Unit × Mem) :=
  some ((), μ)
def f_X3_skipIf (N : Nat) (a0 : Option Nat) (a1 : Int32) (μ : Mem) : Option (Unit × Mem) :=
  if a1 = 0 then
    f_X3_skipIf_18 N μ
  else
    (mfI μ a0 10 9).bind fun v1 =>
    (mpI μ a0 10 9 ((v1 + 1) &&& 4095)).bind fun μ2 =>
    f_X3_skipIf_18 N μ2
set_option maxRecDepth 100000 in
set_option maxHeartbeats 4000000 in
theorem p_X3_skipIf_18 {x : CX} {l : Launch} {g : CG} {rv : Unit} {μ0 μ9 : Mem} (C : Cx x l g mi_X3_skipIf) (F : Prom x g mi_X3_skipIf μ0 none μ9) {N : Nat} {μ : Mem} (h : f_X3_skipIf_18 N μ = some (rv, μ9)) : V x g 2 0 0 μ 18 [] [] := by
  unfold f_X3_skipIf_18 at h
  exact v_vret C F ⟨rfl, rfl, Nat.le_refl _⟩ dX3_skipIf_18 h
set_option maxRecDepth 100000 in
set_option maxHeartbeats 4000000 in
theorem p_X3_skipIf {x : CX} {l : Launch} {g : CG} {rv : Unit} {μ0 μ9 : Mem} (C : Cx x l g mi_X3_skipIf) (F : Prom x g mi_X3_skipIf μ0 none μ9) {N : Nat} {a0 : Option Nat} {a1 : Int32} {μ : Mem} (h : f_X3_skipIf N a0 a1 μ = some (rv, μ9)) : V x g 2 0 0 μ 0 [(0, aR a0), (1, aI a1)] [] := by
  unfold f_X3_skipIf at h
  refine v_iload_n C dX3_skipIf_0 rfl ?_
  refine v_if_eq (tgt := 18) C dX3_skipIf_1 (by decide) (fun c => ?_) (fun c => ?_)
  · replace h := ifT h c
    exact v_sb (p_X3_skipIf_18 C F h) trivial
  · replace h := ifF h c
    refine v_aload_n C dX3_skipIf_4 rfl ?_
    refine v_aload_n C dX3_skipIf_5 rfl ?_
    obtain ⟨v, e, h⟩ := ob h
    refine v_getI C dX3_skipIf_6 gf_X3_18 e ?_
    refine v_iconst (v := 1) C dX3_skipIf_9 rfl ?_
    refine v_iadd C dX3_skipIf_10 ?_
    refine v_sipush (v := 4095) C dX3_skipIf_11 rfl ?_
    refine v_iand C dX3_skipIf_14 ?_
    obtain ⟨m, e, h⟩ := ob h
    refine v_putI C dX3_skipIf_15 (pf_X3_18 _) e ?_
    exact v_sb (p_X3_skipIf_18 C F h) trivial
set_option maxRecDepth 100000 in
set_option maxHeartbeats 4000000 in
theorem c_X3_skipIf (l : Launch) (g : CG) (N : Nat) (a0 : Option Nat) (a1 : Int32) (μ : Mem) (rv : Unit) (μ9 : Mem) (h : f_X3_skipIf N a0 a1 μ = some (rv, μ9)) : Ct l yX3_skipIf mi_X3_skipIf g [aR a0, aI a1] μ none μ9 := ct_of ⟨by decide, rfl, rfl⟩ (Nat.le_of_ble_eq_true rfl) fun x C F => p_X3_skipIf C F h
def f_X3_refer_193 (N : Nat) (μ : Mem) : Option (Unit × Mem) :=
  some ((), μ)
def f_X3_refer_138 (N : Nat) (s0 : Option Nat) (s1 : Int32) (μ : Mem) : Option (Unit × Mem) :=
  (f_X3_skipIf N s0 s1 μ).bind fun q1 =>
  f_X3_refer_193 N q1.2
def f_X3_refer (N : Nat) (a0 : Option Nat) (a1 : Option Nat) (a2 : Option Nat) (a3 : Int32) (a4 : Int32) (μ : Mem) : Option (Unit × Mem) :=
  (mck μ a0 3).bind fun b2 =>
  (f_X3_addressOf N (some b2) a2 a4 μ).bind fun q1 =>
  if a3 = 0 then
    (mfI q1.2 a1 10 10).bind fun v3 =>
    (mfR q1.2 a2 8 1).bind fun v4 =>
    (maI q1.2 0 v4 q1.1).bind fun v5 =>
    (mpI q1.2 a1 10 10 (v3 &&& v5)).bind fun μ6 =>
    f_X3_refer_193 N μ6
  else
    if a3 = 1 then
      (mfI q1.2 a1 10 10).bind fun v7 =>
      (mfR q1.2 a2 8 1).bind fun v8 =>
      (maI q1.2 0 v8 q1.1).bind fun v9 =>
      (mpI q1.2 a1 10 10 ((v7 + v9) &&& 4095)).bind fun μ10 =>
      (mfI μ10 a1 10 11).bind fun v11 =>
      (mpI μ10 a1 10 11 (v11 ^^^ ((v7 + v9) >>> ((12 : Int32) &&& 31)))).bind fun μ12 =>
      f_X3_refer_193 N μ12
    else
      if a3 = 2 then
        (mfR q1.2 a2 8 1).bind fun v13 =>
        (maI q1.2 0 v13 q1.1).bind fun v14 =>
        (mck q1.2 a2 8).bind fun b16 =>
        (f_X8_put N (some b16) q1.1 ((v14 + 1) &&& 4095) q1.2).bind fun q15 =>
        if ¬ ((v14 + 1) &&& 4095) = 0 then
          f_X3_refer_138 N a1 0 q15.2
        else
          f_X3_refer_138 N a1 1 q15.2
      else
        if a3 = 3 then
          (mfI q1.2 a1 10 10).bind fun v17 =>
          (mck q1.2 a2 8).bind fun b19 =>
          (f_X8_put N (some b19) q1.1 v17 q1.2).bind fun q18 =>
          (mpI q18.2 a1 10 10 0).bind fun μ20 =>
          f_X3_refer_193 N μ20
        else
          if a3 = 4 then
            (mfI q1.2 a1 10 9).bind fun v21 =>
            (mck q1.2 a2 8).bind fun b23 =>
            (f_X8_put N (some b23) q1.1 v21 q1.2).bind fun q22 =>
            (mpI q22.2 a1 10 9 ((q1.1 + 1) &&& 4095)).bind fun μ24 =>
            f_X3_refer_193 N μ24
          else
            (mpI q1.2 a1 10 9 q1.1).bind fun μ25 =>
            f_X3_refer_193 N μ25
set_option maxRecDepth 100000 in
set_option maxHeartbeats 4000000 in
theorem p_X3_refer_193 {x : CX} {l : Launch} {g : CG} {rv : Unit} {μ0 μ9 : Mem} (C : Cx x l g mi_X3_refer) (F : Prom x g mi_X3_refer μ0 none μ9) {N : Nat} {μ : Mem} (h : f_X3_refer_193 N μ = some (rv, μ9)) : V x g 8 0 0 μ 193 [] [] := by
  unfold f_X3_refer_193 at h
  exact v_vret C F ⟨rfl, rfl, Nat.le_refl _⟩ dX3_refer_193 h
set_option maxRecDepth 100000 in
set_option maxHeartbeats 4000000 in
theorem p_X3_refer_138 {x : CX} {l : Launch} {g : CG} {rv : Unit} {μ0 μ9 : Mem} (C : Cx x l g mi_X3_refer) (F : Prom x g mi_X3_refer μ0 none μ9) {N : Nat} {s0 : Option Nat} {s1 : Int32} {μ : Mem} (h : f_X3_refer_138 N s0 s1 μ = some (rv, μ9)) : V x g 8 0 0 μ 138 [] [aI s1, aR s0] := by
  unfold f_X3_refer_138 at h
  obtain ⟨q, e, h⟩ := ob h
  refine v_callS (As := [_, _]) C dX3_refer_138 cf_X3_62 (rm_X3_refer_X3_skipIf) ⟨rfl, rfl⟩ rfl (Nat.le_of_ble_eq_true rfl) (c_X3_skipIf _ _ N _ _ _ q.1 q.2 e) ?_
  refine v_goto (tgt := 193) C dX3_refer_141 (by decide) ?_
  exact v_sb (p_X3_refer_193 C F h) trivial
set_option maxRecDepth 100000 in
set_option maxHeartbeats 4000000 in
theorem p_X3_refer {x : CX} {l : Launch} {g : CG} {rv : Unit} {μ0 μ9 : Mem} (C : Cx x l g mi_X3_refer) (F : Prom x g mi_X3_refer μ0 none μ9) {N : Nat} {a0 : Option Nat} {a1 : Option Nat} {a2 : Option Nat} {a3 : Int32} {a4 : Int32} {μ : Mem} (h : f_X3_refer N a0 a1 a2 a3 a4 μ = some (rv, μ9)) : V x g 8 0 0 μ 0 [(0, aR a0), (1, aR a1), (2, aR a2), (3, aI a3), (4, aI a4)] [] := by
  unfold f_X3_refer at h
  refine v_aload_n C dX3_refer_0 rfl ?_
  refine v_aload_n C dX3_refer_1 rfl ?_
  refine v_iload C dX3_refer_2 rfl ?_
  obtain ⟨b, e0, h⟩ := ob h
  obtain ⟨q, e, h⟩ := ob h
  refine v_callV (As := [_, _]) C dX3_refer_4 cf_X3_52 (rm_X3_refer_X3_addressOf) ⟨rfl, rfl⟩ e0 rfl (Nat.le_of_ble_eq_true rfl) (c_X3_addressOf _ _ N _ _ _ _ q.1 q.2 e) ?_
  refine v_istore C dX3_refer_7 (by decide) ?_
  refine v_iload_n C dX3_refer_9 rfl ?_
  refine v_tableswitch (dt := 187) (cs := [(0, 44), (1, 63), (2, 104), (3, 144), (4, 162)]) C dX3_refer_10 (by decide) (by decide) (by decide) (by decide) ?_
  refine v_case (fun c => ?_) (fun c => ?_)
  · replace h := ifT h c
    refine v_aload_n C dX3_refer_44 rfl ?_
    refine v_dup C dX3_refer_45 rfl ?_
    obtain ⟨v, e, h⟩ := ob h
    refine v_getI C dX3_refer_46 gf_X3_56 e ?_
    refine v_aload_n C dX3_refer_49 rfl ?_
    obtain ⟨v, e, h⟩ := ob h
    refine v_getR C dX3_refer_50 gf_X3_23 e ?_
    refine v_iload C dX3_refer_53 rfl ?_
    obtain ⟨v, e, h⟩ := ob h
    refine v_iaload C dX3_refer_55 e ?_
    refine v_iand C dX3_refer_56 ?_
    obtain ⟨m, e, h⟩ := ob h
    refine v_putI C dX3_refer_57 (pf_X3_56 _) e ?_
    refine v_goto (tgt := 193) C dX3_refer_60 (by decide) ?_
    exact v_sb (p_X3_refer_193 C F h) trivial
  · replace h := ifF h c
    refine v_case (fun c => ?_) (fun c => ?_)
    · replace h := ifT h c
      refine v_aload_n C dX3_refer_63 rfl ?_
      obtain ⟨v, e, h⟩ := ob h
      refine v_getI C dX3_refer_64 gf_X3_56 e ?_
      refine v_aload_n C dX3_refer_67 rfl ?_
      obtain ⟨v, e, h⟩ := ob h
      refine v_getR C dX3_refer_68 gf_X3_23 e ?_
      refine v_iload C dX3_refer_71 rfl ?_
      obtain ⟨v, e, h⟩ := ob h
      refine v_iaload C dX3_refer_73 e ?_
      refine v_iadd C dX3_refer_74 ?_
      refine v_istore C dX3_refer_75 (by decide) ?_
      refine v_aload_n C dX3_refer_77 rfl ?_
      refine v_iload C dX3_refer_78 rfl ?_
      refine v_sipush (v := 4095) C dX3_refer_80 rfl ?_
      refine v_iand C dX3_refer_83 ?_
      obtain ⟨m, e, h⟩ := ob h
      refine v_putI C dX3_refer_84 (pf_X3_56 _) e ?_
      refine v_aload_n C dX3_refer_87 rfl ?_
      refine v_dup C dX3_refer_88 rfl ?_
      obtain ⟨v, e, h⟩ := ob h
      refine v_getI C dX3_refer_89 gf_X3_59 e ?_
      refine v_iload C dX3_refer_92 rfl ?_
      refine v_bipush (v := 12) C dX3_refer_94 rfl ?_
      refine v_ishr C dX3_refer_96 ?_
      refine v_ixor C dX3_refer_97 ?_
      obtain ⟨m, e, h⟩ := ob h
      refine v_putI C dX3_refer_98 (pf_X3_59 _) e ?_
      refine v_goto (tgt := 193) C dX3_refer_101 (by decide) ?_
      exact v_sb (p_X3_refer_193 C F h) trivial
    · replace h := ifF h c
      refine v_case (fun c => ?_) (fun c => ?_)
      · replace h := ifT h c
        refine v_aload_n C dX3_refer_104 rfl ?_
        obtain ⟨v, e, h⟩ := ob h
        refine v_getR C dX3_refer_105 gf_X3_23 e ?_
        refine v_iload C dX3_refer_108 rfl ?_
        obtain ⟨v, e, h⟩ := ob h
        refine v_iaload C dX3_refer_110 e ?_
        refine v_iconst (v := 1) C dX3_refer_111 rfl ?_
        refine v_iadd C dX3_refer_112 ?_
        refine v_sipush (v := 4095) C dX3_refer_113 rfl ?_
        refine v_iand C dX3_refer_116 ?_
        refine v_istore C dX3_refer_117 (by decide) ?_
        refine v_aload_n C dX3_refer_119 rfl ?_
        refine v_iload C dX3_refer_120 rfl ?_
        refine v_iload C dX3_refer_122 rfl ?_
        obtain ⟨b, e0, h⟩ := ob h
        obtain ⟨q, e, h⟩ := ob h
        refine v_callV (As := [_, _]) C dX3_refer_124 cf_X3_48 (rm_X3_refer_X8_put) ⟨rfl, rfl⟩ e0 rfl (Nat.le_of_ble_eq_true rfl) (c_X8_put _ _ N _ _ _ _ q.1 q.2 e) ?_
        refine v_aload_n C dX3_refer_127 rfl ?_
        refine v_iload C dX3_refer_128 rfl ?_
        refine v_if_ne (tgt := 137) C dX3_refer_130 (by decide) (fun c => ?_) (fun c => ?_)
        · replace h := ifT h c
          refine v_iconst (v := 0) C dX3_refer_137 rfl ?_
          exact v_sb (p_X3_refer_138 C F h) trivial
        · replace h := ifF h c
          refine v_iconst (v := 1) C dX3_refer_133 rfl ?_
          refine v_goto (tgt := 138) C dX3_refer_134 (by decide) ?_
          exact v_sb (p_X3_refer_138 C F h) trivial
      · replace h := ifF h c
        refine v_case (fun c => ?_) (fun c => ?_)
        · replace h := ifT h c
          refine v_aload_n C dX3_refer_144 rfl ?_
          refine v_iload C dX3_refer_145 rfl ?_
          refine v_aload_n C dX3_refer_147 rfl ?_
          obtain ⟨v, e, h⟩ := ob h
          refine v_getI C dX3_refer_148 gf_X3_56 e ?_
          obtain ⟨b, e0, h⟩ := ob h
          obtain ⟨q, e, h⟩ := ob h
          refine v_callV (As := [_, _]) C dX3_refer_151 cf_X3_48 (rm_X3_refer_X8_put) ⟨rfl, rfl⟩ e0 rfl (Nat.le_of_ble_eq_true rfl) (c_X8_put _ _ N _ _ _ _ q.1 q.2 e) ?_
          refine v_aload_n C dX3_refer_154 rfl ?_
          refine v_iconst (v := 0) C dX3_refer_155 rfl ?_
          obtain ⟨m, e, h⟩ := ob h
          refine v_putI C dX3_refer_156 (pf_X3_56 _) e ?_
          refine v_goto (tgt := 193) C dX3_refer_159 (by decide) ?_
          exact v_sb (p_X3_refer_193 C F h) trivial
        · replace h := ifF h c
          refine v_case (fun c => ?_) (fun c => ?_)
          · replace h := ifT h c
            refine v_aload_n C dX3_refer_162 rfl ?_
            refine v_iload C dX3_refer_163 rfl ?_
            refine v_aload_n C dX3_refer_165 rfl ?_
            obtain ⟨v, e, h⟩ := ob h
            refine v_getI C dX3_refer_166 gf_X3_18 e ?_
            obtain ⟨b, e0, h⟩ := ob h
            obtain ⟨q, e, h⟩ := ob h
            refine v_callV (As := [_, _]) C dX3_refer_169 cf_X3_48 (rm_X3_refer_X8_put) ⟨rfl, rfl⟩ e0 rfl (Nat.le_of_ble_eq_true rfl) (c_X8_put _ _ N _ _ _ _ q.1 q.2 e) ?_
            refine v_aload_n C dX3_refer_172 rfl ?_
            refine v_iload C dX3_refer_173 rfl ?_
            refine v_iconst (v := 1) C dX3_refer_175 rfl ?_
            refine v_iadd C dX3_refer_176 ?_
            refine v_sipush (v := 4095) C dX3_refer_177 rfl ?_
            refine v_iand C dX3_refer_180 ?_
            obtain ⟨m, e, h⟩ := ob h
            refine v_putI C dX3_refer_181 (pf_X3_18 _) e ?_
            refine v_goto (tgt := 193) C dX3_refer_184 (by decide) ?_
            exact v_sb (p_X3_refer_193 C F h) trivial
          · replace h := ifF h c
            refine v_caseD ?_
            refine v_aload_n C dX3_refer_187 rfl ?_
            refine v_iload C dX3_refer_188 rfl ?_
            obtain ⟨m, e, h⟩ := ob h
            refine v_putI C dX3_refer_190 (pf_X3_18 _) e ?_
            exact v_sb (p_X3_refer_193 C F h) trivial
set_option maxRecDepth 100000 in
set_option maxHeartbeats 4000000 in
theorem c_X3_refer (l : Launch) (g : CG) (N : Nat) (a0 : Option Nat) (a1 : Option Nat) (a2 : Option Nat) (a3 : Int32) (a4 : Int32) (μ : Mem) (rv : Unit) (μ9 : Mem) (h : f_X3_refer N a0 a1 a2 a3 a4 μ = some (rv, μ9)) : Ct l yX3_refer mi_X3_refer g [aR a0, aR a1, aR a2, aI a3, aI a4] μ none μ9 := ct_of ⟨by decide, rfl, rfl⟩ (Nat.le_of_ble_eq_true rfl) fun x C F => p_X3_refer C F h
def f_X3_waitFor (N : Nat) (a0 : Option Nat) (a1 : Option Nat) (a2 : Int32) (μ : Mem) : Option (Int32 × Mem) :=
  (mfI μ a0 3 1).bind fun v1 =>
  (mpI μ a1 10 9 v1).bind fun μ2 =>
  (mpI μ2 a1 10 8 a2).bind fun μ3 =>
  retZ 0 μ3
set_option maxRecDepth 100000 in
set_option maxHeartbeats 4000000 in
theorem p_X3_waitFor {x : CX} {l : Launch} {g : CG} {rv : Int32} {μ0 μ9 : Mem} (C : Cx x l g mi_X3_waitFor) (F : Prom x g mi_X3_waitFor μ0 (some (aI rv)) μ9) {N : Nat} {a0 : Option Nat} {a1 : Option Nat} {a2 : Int32} {μ : Mem} (h : f_X3_waitFor N a0 a1 a2 μ = some (rv, μ9)) : V x g 3 0 0 μ 0 [(0, aR a0), (1, aR a1), (2, aI a2)] [] := by
  unfold f_X3_waitFor at h
  refine v_aload_n C dX3_waitFor_0 rfl ?_
  refine v_aload_n C dX3_waitFor_1 rfl ?_
  obtain ⟨v, e, h⟩ := ob h
  refine v_getI C dX3_waitFor_2 gf_X3_15 e ?_
  obtain ⟨m, e, h⟩ := ob h
  refine v_putI C dX3_waitFor_5 (pf_X3_18 _) e ?_
  refine v_aload_n C dX3_waitFor_8 rfl ?_
  refine v_iload_n C dX3_waitFor_9 rfl ?_
  obtain ⟨m, e, h⟩ := ob h
  refine v_putI C dX3_waitFor_10 (pf_X3_79 _) e ?_
  refine v_iconst (v := 0) C dX3_waitFor_13 rfl ?_
  exact v_zret C F ⟨rfl, rfl, Nat.le_refl _⟩ dX3_waitFor_14 h
set_option maxRecDepth 100000 in
set_option maxHeartbeats 4000000 in
theorem c_X3_waitFor (l : Launch) (g : CG) (N : Nat) (a0 : Option Nat) (a1 : Option Nat) (a2 : Int32) (μ : Mem) (rv : Int32) (μ9 : Mem) (h : f_X3_waitFor N a0 a1 a2 μ = some (rv, μ9)) : Ct l yX3_waitFor mi_X3_waitFor g [aR a0, aR a1, aI a2] μ (some (aI rv)) μ9 := ct_of ⟨by decide, rfl, rfl⟩ (Nat.le_of_ble_eq_true rfl) fun x C F => p_X3_waitFor C F h
def f_X3_readKey_58 (N : Nat) (μ : Mem) : Option (Int32 × Mem) :=
  retZ 1 μ
def f_X3_readKey (N : Nat) (a0 : Option Nat) (a1 : Option Nat) (a2 : Int32) (μ : Mem) : Option (Int32 × Mem) :=
  (mfR μ a1 10 4).bind fun v1 =>
  (mck μ v1 6).bind fun b3 =>
  (f_X6_isEmpty N (some b3) μ).bind fun q2 =>
  if q2.1 = 0 then
    (mfR q2.2 a1 10 4).bind fun v4 =>
    (mck q2.2 v4 6).bind fun b6 =>
    (f_X6_head N (some b6) q2.2).bind fun q5 =>
    if a2 = 0 then
      (mfI q5.2 a1 10 10).bind fun v7 =>
      (mpI q5.2 a1 10 10 (v7 ||| (q5.1 ||| 128))).bind fun μ8 =>
      f_X3_readKey_58 N μ8
    else
      (mpI q5.2 a1 10 10 (q5.1 ||| 128)).bind fun μ9 =>
      (mfR μ9 a1 10 4).bind fun v10 =>
      (mck μ9 v10 6).bind fun b12 =>
      (f_X6_drop N (some b12) μ9).bind fun q11 =>
      f_X3_readKey_58 N q11.2
  else
    (mck q2.2 a0 3).bind fun b14 =>
    (f_X3_waitFor N (some b14) a1 2 q2.2).bind fun q13 =>
    retZ q13.1 q13.2
set_option maxRecDepth 100000 in
set_option maxHeartbeats 4000000 in
theorem p_X3_readKey_58 {x : CX} {l : Launch} {g : CG} {rv : Int32} {μ0 μ9 : Mem} (C : Cx x l g mi_X3_readKey) (F : Prom x g mi_X3_readKey μ0 (some (aI rv)) μ9) {N : Nat} {μ : Mem} (h : f_X3_readKey_58 N μ = some (rv, μ9)) : V x g 4 0 0 μ 58 [] [] := by
  unfold f_X3_readKey_58 at h
  refine v_iconst (v := 1) C dX3_readKey_58 rfl ?_
  exact v_zret C F ⟨rfl, rfl, Nat.le_refl _⟩ dX3_readKey_59 h
set_option maxRecDepth 100000 in
set_option maxHeartbeats 4000000 in
theorem p_X3_readKey {x : CX} {l : Launch} {g : CG} {rv : Int32} {μ0 μ9 : Mem} (C : Cx x l g mi_X3_readKey) (F : Prom x g mi_X3_readKey μ0 (some (aI rv)) μ9) {N : Nat} {a0 : Option Nat} {a1 : Option Nat} {a2 : Int32} {μ : Mem} (h : f_X3_readKey N a0 a1 a2 μ = some (rv, μ9)) : V x g 4 0 0 μ 0 [(0, aR a0), (1, aR a1), (2, aI a2)] [] := by
  unfold f_X3_readKey at h
  refine v_aload_n C dX3_readKey_0 rfl ?_
  obtain ⟨v, e, h⟩ := ob h
  refine v_getR C dX3_readKey_1 gf_X3_103 e ?_
  obtain ⟨b, e0, h⟩ := ob h
  obtain ⟨q, e, h⟩ := ob h
  refine v_callV (As := []) C dX3_readKey_4 cf_X3_107 (rm_X3_readKey_X6_isEmpty) ⟨rfl, rfl⟩ e0 rfl (Nat.le_of_ble_eq_true rfl) (c_X6_isEmpty _ _ N _ _ q.1 q.2 e) ?_
  refine v_if_eq (tgt := 17) C dX3_readKey_7 (by decide) (fun c => ?_) (fun c => ?_)
  · replace h := ifT h c
    refine v_aload_n C dX3_readKey_17 rfl ?_
    obtain ⟨v, e, h⟩ := ob h
    refine v_getR C dX3_readKey_18 gf_X3_103 e ?_
    obtain ⟨b, e0, h⟩ := ob h
    obtain ⟨q, e, h⟩ := ob h
    refine v_callV (As := []) C dX3_readKey_21 cf_X3_139 (rm_X3_readKey_X6_head) ⟨rfl, rfl⟩ e0 rfl (Nat.le_of_ble_eq_true rfl) (c_X6_head _ _ N _ _ q.1 q.2 e) ?_
    refine v_sipush (v := 128) C dX3_readKey_24 rfl ?_
    refine v_ior C dX3_readKey_27 ?_
    refine v_istore_n C dX3_readKey_28 (by decide) ?_
    refine v_iload_n C dX3_readKey_29 rfl ?_
    refine v_if_eq (tgt := 48) C dX3_readKey_30 (by decide) (fun c => ?_) (fun c => ?_)
    · replace h := ifT h c
      refine v_aload_n C dX3_readKey_48 rfl ?_
      refine v_dup C dX3_readKey_49 rfl ?_
      obtain ⟨v, e, h⟩ := ob h
      refine v_getI C dX3_readKey_50 gf_X3_56 e ?_
      refine v_iload_n C dX3_readKey_53 rfl ?_
      refine v_ior C dX3_readKey_54 ?_
      obtain ⟨m, e, h⟩ := ob h
      refine v_putI C dX3_readKey_55 (pf_X3_56 _) e ?_
      exact v_sb (p_X3_readKey_58 C F h) trivial
    · replace h := ifF h c
      refine v_aload_n C dX3_readKey_33 rfl ?_
      refine v_iload_n C dX3_readKey_34 rfl ?_
      obtain ⟨m, e, h⟩ := ob h
      refine v_putI C dX3_readKey_35 (pf_X3_56 _) e ?_
      refine v_aload_n C dX3_readKey_38 rfl ?_
      obtain ⟨v, e, h⟩ := ob h
      refine v_getR C dX3_readKey_39 gf_X3_103 e ?_
      obtain ⟨b, e0, h⟩ := ob h
      obtain ⟨q, e, h⟩ := ob h
      refine v_callV (As := []) C dX3_readKey_42 cf_X3_113 (rm_X3_readKey_X6_drop) ⟨rfl, rfl⟩ e0 rfl (Nat.le_of_ble_eq_true rfl) (c_X6_drop _ _ N _ _ q.1 q.2 e) ?_
      refine v_goto (tgt := 58) C dX3_readKey_45 (by decide) ?_
      exact v_sb (p_X3_readKey_58 C F h) trivial
  · replace h := ifF h c
    refine v_aload_n C dX3_readKey_10 rfl ?_
    refine v_aload_n C dX3_readKey_11 rfl ?_
    refine v_iconst (v := 2) C dX3_readKey_12 rfl ?_
    obtain ⟨b, e0, h⟩ := ob h
    obtain ⟨q, e, h⟩ := ob h
    refine v_callV (As := [_, _]) C dX3_readKey_13 cf_X3_136 (rm_X3_readKey_X3_waitFor) ⟨rfl, rfl⟩ e0 rfl (Nat.le_of_ble_eq_true rfl) (c_X3_waitFor _ _ N _ _ _ _ q.1 q.2 e) ?_
    exact v_zret C F ⟨rfl, rfl, Nat.le_refl _⟩ dX3_readKey_16 h
set_option maxRecDepth 100000 in
set_option maxHeartbeats 4000000 in
theorem c_X3_readKey (l : Launch) (g : CG) (N : Nat) (a0 : Option Nat) (a1 : Option Nat) (a2 : Int32) (μ : Mem) (rv : Int32) (μ9 : Mem) (h : f_X3_readKey N a0 a1 a2 μ = some (rv, μ9)) : Ct l yX3_readKey mi_X3_readKey g [aR a0, aR a1, aI a2] μ (some (aI rv)) μ9 := ct_of ⟨by decide, rfl, rfl⟩ (Nat.le_of_ble_eq_true rfl) fun x C F => p_X3_readKey C F h
def f_X3_sendLetter (N : Nat) (a0 : Option Nat) (a1 : Option Nat) (μ : Mem) : Option (Int32 × Mem) :=
  (mfR μ a1 10 5).bind fun v1 =>
  (mck μ v1 6).bind fun b3 =>
  (f_X6_isFull N (some b3) μ).bind fun q2 =>
  if q2.1 = 0 then
    (mfR q2.2 a1 10 5).bind fun v4 =>
    (mfI q2.2 a1 10 10).bind fun v5 =>
    (mck q2.2 v4 6).bind fun b7 =>
    (f_X6_append N (some b7) (v5 &&& 127) q2.2).bind fun q6 =>
    retZ 1 q6.2
  else
    (mck q2.2 a0 3).bind fun b9 =>
    (f_X3_waitFor N (some b9) a1 3 q2.2).bind fun q8 =>
    retZ q8.1 q8.2
set_option maxRecDepth 100000 in
set_option maxHeartbeats 4000000 in
theorem p_X3_sendLetter {x : CX} {l : Launch} {g : CG} {rv : Int32} {μ0 μ9 : Mem} (C : Cx x l g mi_X3_sendLetter) (F : Prom x g mi_X3_sendLetter μ0 (some (aI rv)) μ9) {N : Nat} {a0 : Option Nat} {a1 : Option Nat} {μ : Mem} (h : f_X3_sendLetter N a0 a1 μ = some (rv, μ9)) : V x g 2 0 0 μ 0 [(0, aR a0), (1, aR a1)] [] := by
  unfold f_X3_sendLetter at h
  refine v_aload_n C dX3_sendLetter_0 rfl ?_
  obtain ⟨v, e, h⟩ := ob h
  refine v_getR C dX3_sendLetter_1 gf_X3_143 e ?_
  obtain ⟨b, e0, h⟩ := ob h
  obtain ⟨q, e, h⟩ := ob h
  refine v_callV (As := []) C dX3_sendLetter_4 cf_X3_146 (rm_X3_sendLetter_X6_isFull) ⟨rfl, rfl⟩ e0 rfl (Nat.le_of_ble_eq_true rfl) (c_X6_isFull _ _ N _ _ q.1 q.2 e) ?_
  refine v_if_eq (tgt := 17) C dX3_sendLetter_7 (by decide) (fun c => ?_) (fun c => ?_)
  · replace h := ifT h c
    refine v_aload_n C dX3_sendLetter_17 rfl ?_
    obtain ⟨v, e, h⟩ := ob h
    refine v_getR C dX3_sendLetter_18 gf_X3_143 e ?_
    refine v_aload_n C dX3_sendLetter_21 rfl ?_
    obtain ⟨v, e, h⟩ := ob h
    refine v_getI C dX3_sendLetter_22 gf_X3_56 e ?_
    refine v_bipush (v := 127) C dX3_sendLetter_25 rfl ?_
    refine v_iand C dX3_sendLetter_27 ?_
    obtain ⟨b, e0, h⟩ := ob h
    obtain ⟨q, e, h⟩ := ob h
    refine v_callV (As := [_]) C dX3_sendLetter_28 cf_X3_149 (rm_X3_sendLetter_X6_append) ⟨rfl, rfl⟩ e0 rfl (Nat.le_of_ble_eq_true rfl) (c_X6_append _ _ N _ _ _ q.1 q.2 e) ?_
    refine v_iconst (v := 1) C dX3_sendLetter_31 rfl ?_
    exact v_zret C F ⟨rfl, rfl, Nat.le_refl _⟩ dX3_sendLetter_32 h
  · replace h := ifF h c
    refine v_aload_n C dX3_sendLetter_10 rfl ?_
    refine v_aload_n C dX3_sendLetter_11 rfl ?_
    refine v_iconst (v := 3) C dX3_sendLetter_12 rfl ?_
    obtain ⟨b, e0, h⟩ := ob h
    obtain ⟨q, e, h⟩ := ob h
    refine v_callV (As := [_, _]) C dX3_sendLetter_13 cf_X3_136 (rm_X3_sendLetter_X3_waitFor) ⟨rfl, rfl⟩ e0 rfl (Nat.le_of_ble_eq_true rfl) (c_X3_waitFor _ _ N _ _ _ _ q.1 q.2 e) ?_
    exact v_zret C F ⟨rfl, rfl, Nat.le_refl _⟩ dX3_sendLetter_16 h
set_option maxRecDepth 100000 in
set_option maxHeartbeats 4000000 in
theorem c_X3_sendLetter (l : Launch) (g : CG) (N : Nat) (a0 : Option Nat) (a1 : Option Nat) (μ : Mem) (rv : Int32) (μ9 : Mem) (h : f_X3_sendLetter N a0 a1 μ = some (rv, μ9)) : Ct l yX3_sendLetter mi_X3_sendLetter g [aR a0, aR a1] μ (some (aI rv)) μ9 := ct_of ⟨by decide, rfl, rfl⟩ (Nat.le_of_ble_eq_true rfl) fun x C F => p_X3_sendLetter C F h
def f_X3_fallAsleep_28 (N : Nat) (a1 : Option Nat) (μ : Mem) : Option (Unit × Mem) :=
  (mpI μ a1 10 10 0).bind fun μ1 =>
  some ((), μ1)
def f_X3_fallAsleep (N : Nat) (a0 : Option Nat) (a1 : Option Nat) (μ : Mem) : Option (Unit × Mem) :=
  (mfI μ a1 10 10).bind fun v1 =>
  if v1 = 0 then
    f_X3_fallAsleep_28 N a1 μ
  else
    (mpI μ a1 10 8 4).bind fun μ2 =>
    (mfI μ2 a0 3 0).bind fun v3 =>
    (mfI μ2 a1 10 10).bind fun v4 =>
    (mpI μ2 a1 10 16 (v3 + (16 * v4))).bind fun μ5 =>
    f_X3_fallAsleep_28 N a1 μ5
set_option maxRecDepth 100000 in
set_option maxHeartbeats 4000000 in
theorem p_X3_fallAsleep_28 {x : CX} {l : Launch} {g : CG} {rv : Unit} {μ0 μ9 : Mem} (C : Cx x l g mi_X3_fallAsleep) (F : Prom x g mi_X3_fallAsleep μ0 none μ9) {N : Nat} {a1 : Option Nat} {μ : Mem} (h : f_X3_fallAsleep_28 N a1 μ = some (rv, μ9)) : V x g 2 0 0 μ 28 [(1, aR a1)] [] := by
  unfold f_X3_fallAsleep_28 at h
  refine v_aload_n C dX3_fallAsleep_28 rfl ?_
  refine v_iconst (v := 0) C dX3_fallAsleep_29 rfl ?_
  obtain ⟨m, e, h⟩ := ob h
  refine v_putI C dX3_fallAsleep_30 (pf_X3_56 _) e ?_
  exact v_vret C F ⟨rfl, rfl, Nat.le_refl _⟩ dX3_fallAsleep_33 h
set_option maxRecDepth 100000 in
set_option maxHeartbeats 4000000 in
theorem p_X3_fallAsleep {x : CX} {l : Launch} {g : CG} {rv : Unit} {μ0 μ9 : Mem} (C : Cx x l g mi_X3_fallAsleep) (F : Prom x g mi_X3_fallAsleep μ0 none μ9) {N : Nat} {a0 : Option Nat} {a1 : Option Nat} {μ : Mem} (h : f_X3_fallAsleep N a0 a1 μ = some (rv, μ9)) : V x g 2 0 0 μ 0 [(0, aR a0), (1, aR a1)] [] := by
  unfold f_X3_fallAsleep at h
  refine v_aload_n C dX3_fallAsleep_0 rfl ?_
  obtain ⟨v, e, h⟩ := ob h
  refine v_getI C dX3_fallAsleep_1 gf_X3_56 e ?_
  refine v_if_eq (tgt := 28) C dX3_fallAsleep_4 (by decide) (fun c => ?_) (fun c => ?_)
  · replace h := ifT h c
    exact v_sb (p_X3_fallAsleep_28 C F h) ⟨rfl, trivial⟩
  · replace h := ifF h c
    refine v_aload_n C dX3_fallAsleep_7 rfl ?_
    refine v_iconst (v := 4) C dX3_fallAsleep_8 rfl ?_
    obtain ⟨m, e, h⟩ := ob h
    refine v_putI C dX3_fallAsleep_9 (pf_X3_79 _) e ?_
    refine v_aload_n C dX3_fallAsleep_12 rfl ?_
    refine v_aload_n C dX3_fallAsleep_13 rfl ?_
    obtain ⟨v, e, h⟩ := ob h
    refine v_getI C dX3_fallAsleep_14 gf_X3_9 e ?_
    refine v_bipush (v := 16) C dX3_fallAsleep_17 rfl ?_
    refine v_aload_n C dX3_fallAsleep_19 rfl ?_
    obtain ⟨v, e, h⟩ := ob h
    refine v_getI C dX3_fallAsleep_20 gf_X3_56 e ?_
    refine v_imul C dX3_fallAsleep_23 ?_
    refine v_iadd C dX3_fallAsleep_24 ?_
    obtain ⟨m, e, h⟩ := ob h
    refine v_putI C dX3_fallAsleep_25 (pf_X3_153 _) e ?_
    exact v_sb (p_X3_fallAsleep_28 C F h) ⟨rfl, trivial⟩
set_option maxRecDepth 100000 in
set_option maxHeartbeats 4000000 in
theorem c_X3_fallAsleep (l : Launch) (g : CG) (N : Nat) (a0 : Option Nat) (a1 : Option Nat) (μ : Mem) (rv : Unit) (μ9 : Mem) (h : f_X3_fallAsleep N a0 a1 μ = some (rv, μ9)) : Ct l yX3_fallAsleep mi_X3_fallAsleep g [aR a0, aR a1] μ none μ9 := ct_of ⟨by decide, rfl, rfl⟩ (Nat.le_of_ble_eq_true rfl) fun x C F => p_X3_fallAsleep C F h
def f_X3_goWrong (N : Nat) (a0 : Option Nat) (a1 : Option Nat) (μ : Mem) : Option (Int32 × Mem) :=
  (mfI μ a0 3 1).bind fun v1 =>
  (mpI μ a1 10 9 v1).bind fun μ2 =>
  (mpI μ2 a1 10 8 7).bind fun μ3 =>
  retZ 0 μ3
set_option maxRecDepth 100000 in
set_option maxHeartbeats 4000000 in
theorem p_X3_goWrong {x : CX} {l : Launch} {g : CG} {rv : Int32} {μ0 μ9 : Mem} (C : Cx x l g mi_X3_goWrong) (F : Prom x g mi_X3_goWrong μ0 (some (aI rv)) μ9) {N : Nat} {a0 : Option Nat} {a1 : Option Nat} {μ : Mem} (h : f_X3_goWrong N a0 a1 μ = some (rv, μ9)) : V x g 2 0 0 μ 0 [(0, aR a0), (1, aR a1)] [] := by
  unfold f_X3_goWrong at h
  refine v_aload_n C dX3_goWrong_0 rfl ?_
  refine v_aload_n C dX3_goWrong_1 rfl ?_
  obtain ⟨v, e, h⟩ := ob h
  refine v_getI C dX3_goWrong_2 gf_X3_15 e ?_
  obtain ⟨m, e, h⟩ := ob h
  refine v_putI C dX3_goWrong_5 (pf_X3_18 _) e ?_
  refine v_aload_n C dX3_goWrong_8 rfl ?_
  refine v_bipush (v := 7) C dX3_goWrong_9 rfl ?_
  obtain ⟨m, e, h⟩ := ob h
  refine v_putI C dX3_goWrong_11 (pf_X3_79 _) e ?_
  refine v_iconst (v := 0) C dX3_goWrong_14 rfl ?_
  exact v_zret C F ⟨rfl, rfl, Nat.le_refl _⟩ dX3_goWrong_15 h
set_option maxRecDepth 100000 in
set_option maxHeartbeats 4000000 in
theorem c_X3_goWrong (l : Launch) (g : CG) (N : Nat) (a0 : Option Nat) (a1 : Option Nat) (μ : Mem) (rv : Int32) (μ9 : Mem) (h : f_X3_goWrong N a0 a1 μ = some (rv, μ9)) : Ct l yX3_goWrong mi_X3_goWrong g [aR a0, aR a1] μ (some (aI rv)) μ9 := ct_of ⟨by decide, rfl, rfl⟩ (Nat.le_of_ble_eq_true rfl) fun x C F => p_X3_goWrong C F h
def f_X3_callMonitor_172 (N : Nat) (s0 : Option Nat) (s1 : Int32) (μ : Mem) : Option (Int32 × Mem) :=
  (f_X3_skipIf N s0 s1 μ).bind fun q1 =>
  retZ 1 q1.2
def f_X3_callMonitor_205 (N : Nat) (s0 : Option Nat) (s1 : Option Nat) (s2 : Int32) (μ : Mem) : Option (Int32 × Mem) :=
  (mck μ s0 3).bind fun b2 =>
  (f_X3_readKey N (some b2) s1 s2 μ).bind fun q1 =>
  retZ q1.1 q1.2
def f_X3_callMonitor_191 (N : Nat) (a0 : Option Nat) (a1 : Option Nat) (a2 : Int32) (μ : Mem) : Option (Int32 × Mem) :=
  if ¬ a2 = (3102 : Int32) then
    f_X3_callMonitor_205 N a0 a1 0 μ
  else
    f_X3_callMonitor_205 N a0 a1 1 μ
def f_X3_callMonitor_270 (N : Nat) (μ : Mem) : Option (Int32 × Mem) :=
  retZ 1 μ
def f_X3_callMonitor_216 (N : Nat) (a0 : Option Nat) (a1 : Option Nat) (μ : Mem) : Option (Int32 × Mem) :=
  (mck μ a0 3).bind fun b2 =>
  (f_X3_sendLetter N (some b2) a1 μ).bind fun q1 =>
  retZ q1.1 q1.2
def f_X3_callMonitor_257 (N : Nat) (a0 : Option Nat) (a1 : Option Nat) (s0 : Option Nat) (s1 : Int32) (μ : Mem) : Option (Int32 × Mem) :=
  (mpI μ s0 10 18 s1).bind fun μ1 =>
  (mfI μ1 a0 3 0).bind fun v2 =>
  (mpI μ1 a1 10 17 v2).bind fun μ3 =>
  retZ 0 μ3
def f_X3_callMonitor_239 (N : Nat) (a0 : Option Nat) (a1 : Option Nat) (a2 : Int32) (μ : Mem) : Option (Int32 × Mem) :=
  (mpI μ a1 10 8 5).bind fun μ1 =>
  if ¬ a2 = (3360 : Int32) then
    f_X3_callMonitor_257 N a0 a1 a1 4 μ1
  else
    f_X3_callMonitor_257 N a0 a1 a1 3 μ1
def f_X3_callMonitor (N : Nat) (a0 : Option Nat) (a1 : Option Nat) (a2 : Int32) (μ : Mem) : Option (Int32 × Mem) :=
  if a2 = 3097 then
    (mfR μ a1 10 4).bind fun v1 =>
    (mck μ v1 6).bind fun b3 =>
    (f_X6_isEmpty N (some b3) μ).bind fun q2 =>
    if ¬ q2.1 = 0 then
      f_X3_callMonitor_172 N a1 0 q2.2
    else
      f_X3_callMonitor_172 N a1 1 q2.2
  else
    if a2 = 3098 then
      (mpI μ a1 10 10 0).bind fun μ4 =>
      (mfR μ4 a1 10 4).bind fun v5 =>
      (mck μ4 v5 6).bind fun b7 =>
      (f_X6_drop N (some b7) μ4).bind fun q6 =>
      retZ 1 q6.2
    else
      if a2 = 3100 then
        f_X3_callMonitor_191 N a0 a1 a2 μ
      else
        if a2 = 3102 then
          f_X3_callMonitor_191 N a0 a1 a2 μ
        else
          if a2 = 3105 then
            (f_X3_skipIf N a1 1 μ).bind fun q8 =>
            retZ 1 q8.2
          else
            if a2 = 3106 then
              f_X3_callMonitor_270 N μ
            else
              if a2 = 3108 then
                f_X3_callMonitor_216 N a0 a1 μ
              else
                if a2 = 3110 then
                  f_X3_callMonitor_216 N a0 a1 μ
                else
                  if a2 = 3201 then
                    f_X3_callMonitor_270 N μ
                  else
                    if a2 = 3202 then
                      f_X3_callMonitor_270 N μ
                    else
                      if a2 = 3203 then
                        f_X3_callMonitor_270 N μ
                      else
                        if a2 = 3212 then
                          f_X3_callMonitor_270 N μ
                        else
                          if a2 = 3220 then
                            f_X3_callMonitor_270 N μ
                          else
                            if a2 = 3228 then
                              f_X3_callMonitor_270 N μ
                            else
                              if a2 = 3343 then
                                (mfI μ a1 10 0).bind fun v9 =>
                                (mpI μ a1 10 10 v9).bind fun μ10 =>
                                retZ 1 μ10
                              else
                                if a2 = 3344 then
                                  (mck μ a0 3).bind fun b12 =>
                                  (f_X3_fallAsleep N (some b12) a1 μ).bind fun q11 =>
                                  retZ 1 q11.2
                                else
                                  if a2 = 3360 then
                                    f_X3_callMonitor_239 N a0 a1 a2 μ
                                  else
                                    if a2 = 3361 then
                                      f_X3_callMonitor_239 N a0 a1 a2 μ
                                    else
                                      (mck μ a0 3).bind fun b14 =>
                                      (f_X3_goWrong N (some b14) a1 μ).bind fun q13 =>
                                      retZ q13.1 q13.2
set_option maxRecDepth 100000 in
set_option maxHeartbeats 4000000 in
theorem p_X3_callMonitor_172 {x : CX} {l : Launch} {g : CG} {rv : Int32} {μ0 μ9 : Mem} (C : Cx x l g mi_X3_callMonitor) (F : Prom x g mi_X3_callMonitor μ0 (some (aI rv)) μ9) {N : Nat} {s0 : Option Nat} {s1 : Int32} {μ : Mem} (h : f_X3_callMonitor_172 N s0 s1 μ = some (rv, μ9)) : V x g 3 0 0 μ 172 [] [aI s1, aR s0] := by
  unfold f_X3_callMonitor_172 at h
  obtain ⟨q, e, h⟩ := ob h
  refine v_callS (As := [_, _]) C dX3_callMonitor_172 cf_X3_62 (rm_X3_callMonitor_X3_skipIf) ⟨rfl, rfl⟩ rfl (Nat.le_of_ble_eq_true rfl) (c_X3_skipIf _ _ N _ _ _ q.1 q.2 e) ?_
  refine v_iconst (v := 1) C dX3_callMonitor_175 rfl ?_
  exact v_zret C F ⟨rfl, rfl, Nat.le_refl _⟩ dX3_callMonitor_176 h
set_option maxRecDepth 100000 in
set_option maxHeartbeats 4000000 in
theorem p_X3_callMonitor_205 {x : CX} {l : Launch} {g : CG} {rv : Int32} {μ0 μ9 : Mem} (C : Cx x l g mi_X3_callMonitor) (F : Prom x g mi_X3_callMonitor μ0 (some (aI rv)) μ9) {N : Nat} {s0 : Option Nat} {s1 : Option Nat} {s2 : Int32} {μ : Mem} (h : f_X3_callMonitor_205 N s0 s1 s2 μ = some (rv, μ9)) : V x g 3 0 0 μ 205 [] [aI s2, aR s1, aR s0] := by
  unfold f_X3_callMonitor_205 at h
  obtain ⟨b, e0, h⟩ := ob h
  obtain ⟨q, e, h⟩ := ob h
  refine v_callV (As := [_, _]) C dX3_callMonitor_205 cf_X3_116 (rm_X3_callMonitor_X3_readKey) ⟨rfl, rfl⟩ e0 rfl (Nat.le_of_ble_eq_true rfl) (c_X3_readKey _ _ N _ _ _ _ q.1 q.2 e) ?_
  exact v_zret C F ⟨rfl, rfl, Nat.le_refl _⟩ dX3_callMonitor_208 h
set_option maxRecDepth 100000 in
set_option maxHeartbeats 4000000 in
theorem p_X3_callMonitor_191 {x : CX} {l : Launch} {g : CG} {rv : Int32} {μ0 μ9 : Mem} (C : Cx x l g mi_X3_callMonitor) (F : Prom x g mi_X3_callMonitor μ0 (some (aI rv)) μ9) {N : Nat} {a0 : Option Nat} {a1 : Option Nat} {a2 : Int32} {μ : Mem} (h : f_X3_callMonitor_191 N a0 a1 a2 μ = some (rv, μ9)) : V x g 3 0 0 μ 191 [(0, aR a0), (1, aR a1), (2, aI a2)] [] := by
  unfold f_X3_callMonitor_191 at h
  refine v_aload_n C dX3_callMonitor_191 rfl ?_
  refine v_aload_n C dX3_callMonitor_192 rfl ?_
  refine v_iload_n C dX3_callMonitor_193 rfl ?_
  refine v_sipush (v := 3102) C dX3_callMonitor_194 rfl ?_
  refine v_icmp_ne (tgt := 204) C dX3_callMonitor_197 (by decide) (fun c => ?_) (fun c => ?_)
  · replace h := ifT h c
    refine v_iconst (v := 0) C dX3_callMonitor_204 rfl ?_
    exact v_sb (p_X3_callMonitor_205 C F h) trivial
  · replace h := ifF h c
    refine v_iconst (v := 1) C dX3_callMonitor_200 rfl ?_
    refine v_goto (tgt := 205) C dX3_callMonitor_201 (by decide) ?_
    exact v_sb (p_X3_callMonitor_205 C F h) trivial
set_option maxRecDepth 100000 in
set_option maxHeartbeats 4000000 in
theorem p_X3_callMonitor_270 {x : CX} {l : Launch} {g : CG} {rv : Int32} {μ0 μ9 : Mem} (C : Cx x l g mi_X3_callMonitor) (F : Prom x g mi_X3_callMonitor μ0 (some (aI rv)) μ9) {N : Nat} {μ : Mem} (h : f_X3_callMonitor_270 N μ = some (rv, μ9)) : V x g 3 0 0 μ 270 [] [] := by
  unfold f_X3_callMonitor_270 at h
  refine v_iconst (v := 1) C dX3_callMonitor_270 rfl ?_
  exact v_zret C F ⟨rfl, rfl, Nat.le_refl _⟩ dX3_callMonitor_271 h
set_option maxRecDepth 100000 in
set_option maxHeartbeats 4000000 in
theorem p_X3_callMonitor_216 {x : CX} {l : Launch} {g : CG} {rv : Int32} {μ0 μ9 : Mem} (C : Cx x l g mi_X3_callMonitor) (F : Prom x g mi_X3_callMonitor μ0 (some (aI rv)) μ9) {N : Nat} {a0 : Option Nat} {a1 : Option Nat} {μ : Mem} (h : f_X3_callMonitor_216 N a0 a1 μ = some (rv, μ9)) : V x g 3 0 0 μ 216 [(0, aR a0), (1, aR a1)] [] := by
  unfold f_X3_callMonitor_216 at h
  refine v_aload_n C dX3_callMonitor_216 rfl ?_
  refine v_aload_n C dX3_callMonitor_217 rfl ?_
  obtain ⟨b, e0, h⟩ := ob h
  obtain ⟨q, e, h⟩ := ob h
  refine v_callV (As := [_]) C dX3_callMonitor_218 cf_X3_120 (rm_X3_callMonitor_X3_sendLetter) ⟨rfl, rfl⟩ e0 rfl (Nat.le_of_ble_eq_true rfl) (c_X3_sendLetter _ _ N _ _ _ q.1 q.2 e) ?_
  exact v_zret C F ⟨rfl, rfl, Nat.le_refl _⟩ dX3_callMonitor_221 h
set_option maxRecDepth 100000 in
set_option maxHeartbeats 4000000 in
theorem p_X3_callMonitor_257 {x : CX} {l : Launch} {g : CG} {rv : Int32} {μ0 μ9 : Mem} (C : Cx x l g mi_X3_callMonitor) (F : Prom x g mi_X3_callMonitor μ0 (some (aI rv)) μ9) {N : Nat} {a0 : Option Nat} {a1 : Option Nat} {s0 : Option Nat} {s1 : Int32} {μ : Mem} (h : f_X3_callMonitor_257 N a0 a1 s0 s1 μ = some (rv, μ9)) : V x g 3 0 0 μ 257 [(0, aR a0), (1, aR a1)] [aI s1, aR s0] := by
  unfold f_X3_callMonitor_257 at h
  obtain ⟨m, e, h⟩ := ob h
  refine v_putI C dX3_callMonitor_257 (pf_X3_130 _) e ?_
  refine v_aload_n C dX3_callMonitor_260 rfl ?_
  refine v_aload_n C dX3_callMonitor_261 rfl ?_
  obtain ⟨v, e, h⟩ := ob h
  refine v_getI C dX3_callMonitor_262 gf_X3_9 e ?_
  obtain ⟨m, e, h⟩ := ob h
  refine v_putI C dX3_callMonitor_265 (pf_X3_133 _) e ?_
  refine v_iconst (v := 0) C dX3_callMonitor_268 rfl ?_
  exact v_zret C F ⟨rfl, rfl, Nat.le_refl _⟩ dX3_callMonitor_269 h
set_option maxRecDepth 100000 in
set_option maxHeartbeats 4000000 in
theorem p_X3_callMonitor_239 {x : CX} {l : Launch} {g : CG} {rv : Int32} {μ0 μ9 : Mem} (C : Cx x l g mi_X3_callMonitor) (F : Prom x g mi_X3_callMonitor μ0 (some (aI rv)) μ9) {N : Nat} {a0 : Option Nat} {a1 : Option Nat} {a2 : Int32} {μ : Mem} (h : f_X3_callMonitor_239 N a0 a1 a2 μ = some (rv, μ9)) : V x g 3 0 0 μ 239 [(0, aR a0), (1, aR a1), (2, aI a2)] [] := by
  unfold f_X3_callMonitor_239 at h
  refine v_aload_n C dX3_callMonitor_239 rfl ?_
  refine v_iconst (v := 5) C dX3_callMonitor_240 rfl ?_
  obtain ⟨m, e, h⟩ := ob h
  refine v_putI C dX3_callMonitor_241 (pf_X3_79 _) e ?_
  refine v_aload_n C dX3_callMonitor_244 rfl ?_
  refine v_iload_n C dX3_callMonitor_245 rfl ?_
  refine v_sipush (v := 3360) C dX3_callMonitor_246 rfl ?_
  refine v_icmp_ne (tgt := 256) C dX3_callMonitor_249 (by decide) (fun c => ?_) (fun c => ?_)
  · replace h := ifT h c
    refine v_iconst (v := 4) C dX3_callMonitor_256 rfl ?_
    exact v_sb (p_X3_callMonitor_257 C F h) ⟨rfl, rfl, trivial⟩
  · replace h := ifF h c
    refine v_iconst (v := 3) C dX3_callMonitor_252 rfl ?_
    refine v_goto (tgt := 257) C dX3_callMonitor_253 (by decide) ?_
    exact v_sb (p_X3_callMonitor_257 C F h) ⟨rfl, rfl, trivial⟩
set_option maxRecDepth 100000 in
set_option maxHeartbeats 4000000 in
theorem p_X3_callMonitor {x : CX} {l : Launch} {g : CG} {rv : Int32} {μ0 μ9 : Mem} (C : Cx x l g mi_X3_callMonitor) (F : Prom x g mi_X3_callMonitor μ0 (some (aI rv)) μ9) {N : Nat} {a0 : Option Nat} {a1 : Option Nat} {a2 : Int32} {μ : Mem} (h : f_X3_callMonitor N a0 a1 a2 μ = some (rv, μ9)) : V x g 3 0 0 μ 0 [(0, aR a0), (1, aR a1), (2, aI a2)] [] := by
  unfold f_X3_callMonitor at h
  refine v_iload_n C dX3_callMonitor_0 rfl ?_
  refine v_lookupswitch (dt := 272) (cs := [(3097, 156), (3098, 177), (3100, 191), (3102, 191), (3105, 209), (3106, 270), (3108, 216), (3110, 216), (3201, 270), (3202, 270), (3203, 270), (3212, 270), (3220, 270), (3228, 270), (3343, 229), (3344, 222), (3360, 239), (3361, 239)]) C dX3_callMonitor_1 rfl (by decide) (by decide) ?_
  refine v_case (fun c => ?_) (fun c => ?_)
  · replace h := ifT h c
    refine v_aload_n C dX3_callMonitor_156 rfl ?_
    refine v_aload_n C dX3_callMonitor_157 rfl ?_
    obtain ⟨v, e, h⟩ := ob h
    refine v_getR C dX3_callMonitor_158 gf_X3_103 e ?_
    obtain ⟨b, e0, h⟩ := ob h
    obtain ⟨q, e, h⟩ := ob h
    refine v_callV (As := []) C dX3_callMonitor_161 cf_X3_107 (rm_X3_callMonitor_X6_isEmpty) ⟨rfl, rfl⟩ e0 rfl (Nat.le_of_ble_eq_true rfl) (c_X6_isEmpty _ _ N _ _ q.1 q.2 e) ?_
    refine v_if_ne (tgt := 171) C dX3_callMonitor_164 (by decide) (fun c => ?_) (fun c => ?_)
    · replace h := ifT h c
      refine v_iconst (v := 0) C dX3_callMonitor_171 rfl ?_
      exact v_sb (p_X3_callMonitor_172 C F h) trivial
    · replace h := ifF h c
      refine v_iconst (v := 1) C dX3_callMonitor_167 rfl ?_
      refine v_goto (tgt := 172) C dX3_callMonitor_168 (by decide) ?_
      exact v_sb (p_X3_callMonitor_172 C F h) trivial
  · replace h := ifF h c
    refine v_case (fun c => ?_) (fun c => ?_)
    · replace h := ifT h c
      refine v_aload_n C dX3_callMonitor_177 rfl ?_
      refine v_iconst (v := 0) C dX3_callMonitor_178 rfl ?_
      obtain ⟨m, e, h⟩ := ob h
      refine v_putI C dX3_callMonitor_179 (pf_X3_56 _) e ?_
      refine v_aload_n C dX3_callMonitor_182 rfl ?_
      obtain ⟨v, e, h⟩ := ob h
      refine v_getR C dX3_callMonitor_183 gf_X3_103 e ?_
      obtain ⟨b, e0, h⟩ := ob h
      obtain ⟨q, e, h⟩ := ob h
      refine v_callV (As := []) C dX3_callMonitor_186 cf_X3_113 (rm_X3_callMonitor_X6_drop) ⟨rfl, rfl⟩ e0 rfl (Nat.le_of_ble_eq_true rfl) (c_X6_drop _ _ N _ _ q.1 q.2 e) ?_
      refine v_iconst (v := 1) C dX3_callMonitor_189 rfl ?_
      exact v_zret C F ⟨rfl, rfl, Nat.le_refl _⟩ dX3_callMonitor_190 h
    · replace h := ifF h c
      refine v_case (fun c => ?_) (fun c => ?_)
      · replace h := ifT h c
        exact v_sb (p_X3_callMonitor_191 C F h) ⟨rfl, rfl, rfl, trivial⟩
      · replace h := ifF h c
        refine v_case (fun c => ?_) (fun c => ?_)
        · replace h := ifT h c
          exact v_sb (p_X3_callMonitor_191 C F h) ⟨rfl, rfl, rfl, trivial⟩
        · replace h := ifF h c
          refine v_case (fun c => ?_) (fun c => ?_)
          · replace h := ifT h c
            refine v_aload_n C dX3_callMonitor_209 rfl ?_
            refine v_iconst (v := 1) C dX3_callMonitor_210 rfl ?_
            obtain ⟨q, e, h⟩ := ob h
            refine v_callS (As := [_, _]) C dX3_callMonitor_211 cf_X3_62 (rm_X3_callMonitor_X3_skipIf) ⟨rfl, rfl⟩ rfl (Nat.le_of_ble_eq_true rfl) (c_X3_skipIf _ _ N _ _ _ q.1 q.2 e) ?_
            refine v_iconst (v := 1) C dX3_callMonitor_214 rfl ?_
            exact v_zret C F ⟨rfl, rfl, Nat.le_refl _⟩ dX3_callMonitor_215 h
          · replace h := ifF h c
            refine v_case (fun c => ?_) (fun c => ?_)
            · replace h := ifT h c
              exact v_sb (p_X3_callMonitor_270 C F h) trivial
            · replace h := ifF h c
              refine v_case (fun c => ?_) (fun c => ?_)
              · replace h := ifT h c
                exact v_sb (p_X3_callMonitor_216 C F h) ⟨rfl, rfl, trivial⟩
              · replace h := ifF h c
                refine v_case (fun c => ?_) (fun c => ?_)
                · replace h := ifT h c
                  exact v_sb (p_X3_callMonitor_216 C F h) ⟨rfl, rfl, trivial⟩
                · replace h := ifF h c
                  refine v_case (fun c => ?_) (fun c => ?_)
                  · replace h := ifT h c
                    exact v_sb (p_X3_callMonitor_270 C F h) trivial
                  · replace h := ifF h c
                    refine v_case (fun c => ?_) (fun c => ?_)
                    · replace h := ifT h c
                      exact v_sb (p_X3_callMonitor_270 C F h) trivial
                    · replace h := ifF h c
                      refine v_case (fun c => ?_) (fun c => ?_)
                      · replace h := ifT h c
                        exact v_sb (p_X3_callMonitor_270 C F h) trivial
                      · replace h := ifF h c
                        refine v_case (fun c => ?_) (fun c => ?_)
                        · replace h := ifT h c
                          exact v_sb (p_X3_callMonitor_270 C F h) trivial
                        · replace h := ifF h c
                          refine v_case (fun c => ?_) (fun c => ?_)
                          · replace h := ifT h c
                            exact v_sb (p_X3_callMonitor_270 C F h) trivial
                          · replace h := ifF h c
                            refine v_case (fun c => ?_) (fun c => ?_)
                            · replace h := ifT h c
                              exact v_sb (p_X3_callMonitor_270 C F h) trivial
                            · replace h := ifF h c
                              refine v_case (fun c => ?_) (fun c => ?_)
                              · replace h := ifT h c
                                refine v_aload_n C dX3_callMonitor_229 rfl ?_
                                refine v_aload_n C dX3_callMonitor_230 rfl ?_
                                obtain ⟨v, e, h⟩ := ob h
                                refine v_getI C dX3_callMonitor_231 gf_X3_127 e ?_
                                obtain ⟨m, e, h⟩ := ob h
                                refine v_putI C dX3_callMonitor_234 (pf_X3_56 _) e ?_
                                refine v_iconst (v := 1) C dX3_callMonitor_237 rfl ?_
                                exact v_zret C F ⟨rfl, rfl, Nat.le_refl _⟩ dX3_callMonitor_238 h
                              · replace h := ifF h c
                                refine v_case (fun c => ?_) (fun c => ?_)
                                · replace h := ifT h c
                                  refine v_aload_n C dX3_callMonitor_222 rfl ?_
                                  refine v_aload_n C dX3_callMonitor_223 rfl ?_
                                  obtain ⟨b, e0, h⟩ := ob h
                                  obtain ⟨q, e, h⟩ := ob h
                                  refine v_callV (As := [_]) C dX3_callMonitor_224 cf_X3_123 (rm_X3_callMonitor_X3_fallAsleep) ⟨rfl, rfl⟩ e0 rfl (Nat.le_of_ble_eq_true rfl) (c_X3_fallAsleep _ _ N _ _ _ q.1 q.2 e) ?_
                                  refine v_iconst (v := 1) C dX3_callMonitor_227 rfl ?_
                                  exact v_zret C F ⟨rfl, rfl, Nat.le_refl _⟩ dX3_callMonitor_228 h
                                · replace h := ifF h c
                                  refine v_case (fun c => ?_) (fun c => ?_)
                                  · replace h := ifT h c
                                    exact v_sb (p_X3_callMonitor_239 C F h) ⟨rfl, rfl, rfl, trivial⟩
                                  · replace h := ifF h c
                                    refine v_case (fun c => ?_) (fun c => ?_)
                                    · replace h := ifT h c
                                      exact v_sb (p_X3_callMonitor_239 C F h) ⟨rfl, rfl, rfl, trivial⟩
                                    · replace h := ifF h c
                                      refine v_caseD ?_
                                      refine v_aload_n C dX3_callMonitor_272 rfl ?_
                                      refine v_aload_n C dX3_callMonitor_273 rfl ?_
                                      obtain ⟨b, e0, h⟩ := ob h
                                      obtain ⟨q, e, h⟩ := ob h
                                      refine v_callV (As := [_]) C dX3_callMonitor_274 cf_X3_82 (rm_X3_callMonitor_X3_goWrong) ⟨rfl, rfl⟩ e0 rfl (Nat.le_of_ble_eq_true rfl) (c_X3_goWrong _ _ N _ _ _ q.1 q.2 e) ?_
                                      exact v_zret C F ⟨rfl, rfl, Nat.le_refl _⟩ dX3_callMonitor_277 h
set_option maxRecDepth 100000 in
set_option maxHeartbeats 4000000 in
theorem c_X3_callMonitor (l : Launch) (g : CG) (N : Nat) (a0 : Option Nat) (a1 : Option Nat) (a2 : Int32) (μ : Mem) (rv : Int32) (μ9 : Mem) (h : f_X3_callMonitor N a0 a1 a2 μ = some (rv, μ9)) : Ct l yX3_callMonitor mi_X3_callMonitor g [aR a0, aR a1, aI a2] μ (some (aI rv)) μ9 := ct_of ⟨by decide, rfl, rfl⟩ (Nat.le_of_ble_eq_true rfl) fun x C F => p_X3_callMonitor C F h
def f_X3_both (N : Nat) (a0 : Option Nat) (μ : Mem) : Option (Int32 × Mem) :=
  (mfI μ a0 10 11).bind fun v1 =>
  (mfI μ a0 10 10).bind fun v2 =>
  some ((v1 <<< ((12 : Int32) &&& 31)) ||| v2, μ)
set_option maxRecDepth 100000 in
set_option maxHeartbeats 4000000 in
theorem p_X3_both {x : CX} {l : Launch} {g : CG} {rv : Int32} {μ0 μ9 : Mem} (C : Cx x l g mi_X3_both) (F : Prom x g mi_X3_both μ0 (some (aI rv)) μ9) {N : Nat} {a0 : Option Nat} {μ : Mem} (h : f_X3_both N a0 μ = some (rv, μ9)) : V x g 1 0 0 μ 0 [(0, aR a0)] [] := by
  unfold f_X3_both at h
  refine v_aload_n C dX3_both_0 rfl ?_
  obtain ⟨v, e, h⟩ := ob h
  refine v_getI C dX3_both_1 gf_X3_59 e ?_
  refine v_bipush (v := 12) C dX3_both_4 rfl ?_
  refine v_ishl C dX3_both_6 ?_
  refine v_aload_n C dX3_both_7 rfl ?_
  obtain ⟨v, e, h⟩ := ob h
  refine v_getI C dX3_both_8 gf_X3_56 e ?_
  refine v_ior C dX3_both_11 ?_
  exact v_iret C F ⟨rfl, rfl, Nat.le_refl _⟩ dX3_both_12 h
set_option maxRecDepth 100000 in
set_option maxHeartbeats 4000000 in
theorem c_X3_both (l : Launch) (g : CG) (N : Nat) (a0 : Option Nat) (μ : Mem) (rv : Int32) (μ9 : Mem) (h : f_X3_both N a0 μ = some (rv, μ9)) : Ct l yX3_both mi_X3_both g [aR a0] μ (some (aI rv)) μ9 := ct_of ⟨by decide, rfl, rfl⟩ (Nat.le_of_ble_eq_true rfl) fun x C F => p_X3_both C F h
def f_X3_setBoth (N : Nat) (a0 : Option Nat) (a1 : Int32) (μ : Mem) : Option (Unit × Mem) :=
  (mpI μ a0 10 10 (a1 &&& 4095)).bind fun μ1 =>
  (mpI μ1 a0 10 11 ((a1 >>> ((12 : Int32) &&& 31)) &&& 1)).bind fun μ2 =>
  some ((), μ2)
set_option maxRecDepth 100000 in
set_option maxHeartbeats 4000000 in
theorem p_X3_setBoth {x : CX} {l : Launch} {g : CG} {rv : Unit} {μ0 μ9 : Mem} (C : Cx x l g mi_X3_setBoth) (F : Prom x g mi_X3_setBoth μ0 none μ9) {N : Nat} {a0 : Option Nat} {a1 : Int32} {μ : Mem} (h : f_X3_setBoth N a0 a1 μ = some (rv, μ9)) : V x g 2 0 0 μ 0 [(0, aR a0), (1, aI a1)] [] := by
  unfold f_X3_setBoth at h
  refine v_aload_n C dX3_setBoth_0 rfl ?_
  refine v_iload_n C dX3_setBoth_1 rfl ?_
  refine v_sipush (v := 4095) C dX3_setBoth_2 rfl ?_
  refine v_iand C dX3_setBoth_5 ?_
  obtain ⟨m, e, h⟩ := ob h
  refine v_putI C dX3_setBoth_6 (pf_X3_56 _) e ?_
  refine v_aload_n C dX3_setBoth_9 rfl ?_
  refine v_iload_n C dX3_setBoth_10 rfl ?_
  refine v_bipush (v := 12) C dX3_setBoth_11 rfl ?_
  refine v_ishr C dX3_setBoth_13 ?_
  refine v_iconst (v := 1) C dX3_setBoth_14 rfl ?_
  refine v_iand C dX3_setBoth_15 ?_
  obtain ⟨m, e, h⟩ := ob h
  refine v_putI C dX3_setBoth_16 (pf_X3_59 _) e ?_
  exact v_vret C F ⟨rfl, rfl, Nat.le_refl _⟩ dX3_setBoth_19 h
set_option maxRecDepth 100000 in
set_option maxHeartbeats 4000000 in
theorem c_X3_setBoth (l : Launch) (g : CG) (N : Nat) (a0 : Option Nat) (a1 : Int32) (μ : Mem) (rv : Unit) (μ9 : Mem) (h : f_X3_setBoth N a0 a1 μ = some (rv, μ9)) : Ct l yX3_setBoth mi_X3_setBoth g [aR a0, aI a1] μ none μ9 := ct_of ⟨by decide, rfl, rfl⟩ (Nat.le_of_ble_eq_true rfl) fun x C F => p_X3_setBoth C F h
def f_X3_turn_130 (N : Nat) (μ : Mem) : Option (Unit × Mem) :=
  some ((), μ)
def f_X3_turn_11 (N : Nat) (a0 : Option Nat) (a1 : Int32) (s0 : Int32) (μ : Mem) : Option (Unit × Mem) :=
  if (a1 &&& 12) = 0 then
    if ¬ s0 = (2 : Int32) then
      f_X3_turn_130 N μ
    else
      (mfI μ a0 10 10).bind fun v1 =>
      (mfI μ a0 10 10).bind fun v2 =>
      (mpI μ a0 10 10 (((v1 >>> ((6 : Int32) &&& 31)) ||| (v2 <<< ((6 : Int32) &&& 31))) &&& 4095)).bind fun μ3 =>
      f_X3_turn_130 N μ3
  else
    if (a1 &&& 12) = 4 then
      (f_X3_both N a0 μ).bind fun q4 =>
      (f_X3_setBoth N a0 ((q4.1 <<< (s0 &&& 31)) ||| (q4.1 >>> ((13 - s0) &&& 31))) q4.2).bind fun q5 =>
      f_X3_turn_130 N q5.2
    else
      if (a1 &&& 12) = 8 then
        (f_X3_both N a0 μ).bind fun q6 =>
        (f_X3_setBoth N a0 ((q6.1 >>> (s0 &&& 31)) ||| (q6.1 <<< ((13 - s0) &&& 31))) q6.2).bind fun q7 =>
        f_X3_turn_130 N q7.2
      else
        f_X3_turn_130 N μ
def f_X3_turn (N : Nat) (a0 : Option Nat) (a1 : Int32) (μ : Mem) : Option (Unit × Mem) :=
  if (a1 &&& 2) = 0 then
    f_X3_turn_11 N a0 a1 1 μ
  else
    f_X3_turn_11 N a0 a1 2 μ
set_option maxRecDepth 100000 in
set_option maxHeartbeats 4000000 in
theorem p_X3_turn_130 {x : CX} {l : Launch} {g : CG} {rv : Unit} {μ0 μ9 : Mem} (C : Cx x l g mi_X3_turn) (F : Prom x g mi_X3_turn μ0 none μ9) {N : Nat} {μ : Mem} (h : f_X3_turn_130 N μ = some (rv, μ9)) : V x g 5 0 0 μ 130 [] [] := by
  unfold f_X3_turn_130 at h
  exact v_vret C F ⟨rfl, rfl, Nat.le_refl _⟩ dX3_turn_130 h
set_option maxRecDepth 100000 in
set_option maxHeartbeats 4000000 in
theorem p_X3_turn_11 {x : CX} {l : Launch} {g : CG} {rv : Unit} {μ0 μ9 : Mem} (C : Cx x l g mi_X3_turn) (F : Prom x g mi_X3_turn μ0 none μ9) {N : Nat} {a0 : Option Nat} {a1 : Int32} {s0 : Int32} {μ : Mem} (h : f_X3_turn_11 N a0 a1 s0 μ = some (rv, μ9)) : V x g 5 0 0 μ 11 [(0, aR a0), (1, aI a1)] [aI s0] := by
  unfold f_X3_turn_11 at h
  refine v_istore_n C dX3_turn_11 (by decide) ?_
  refine v_iload_n C dX3_turn_12 rfl ?_
  refine v_bipush (v := 12) C dX3_turn_13 rfl ?_
  refine v_iand C dX3_turn_15 ?_
  refine v_lookupswitch (dt := 130) (cs := [(0, 99), (4, 74), (8, 52)]) C dX3_turn_16 rfl (by decide) (by decide) ?_
  refine v_case (fun c => ?_) (fun c => ?_)
  · replace h := ifT h c
    refine v_iload_n C dX3_turn_99 rfl ?_
    refine v_iconst (v := 2) C dX3_turn_100 rfl ?_
    refine v_icmp_ne (tgt := 130) C dX3_turn_101 (by decide) (fun c => ?_) (fun c => ?_)
    · replace h := ifT h c
      exact v_sb (p_X3_turn_130 C F h) trivial
    · replace h := ifF h c
      refine v_aload_n C dX3_turn_104 rfl ?_
      refine v_aload_n C dX3_turn_105 rfl ?_
      obtain ⟨v, e, h⟩ := ob h
      refine v_getI C dX3_turn_106 gf_X3_56 e ?_
      refine v_bipush (v := 6) C dX3_turn_109 rfl ?_
      refine v_ishr C dX3_turn_111 ?_
      refine v_aload_n C dX3_turn_112 rfl ?_
      obtain ⟨v, e, h⟩ := ob h
      refine v_getI C dX3_turn_113 gf_X3_56 e ?_
      refine v_bipush (v := 6) C dX3_turn_116 rfl ?_
      refine v_ishl C dX3_turn_118 ?_
      refine v_ior C dX3_turn_119 ?_
      refine v_sipush (v := 4095) C dX3_turn_120 rfl ?_
      refine v_iand C dX3_turn_123 ?_
      obtain ⟨m, e, h⟩ := ob h
      refine v_putI C dX3_turn_124 (pf_X3_56 _) e ?_
      refine v_goto (tgt := 130) C dX3_turn_127 (by decide) ?_
      exact v_sb (p_X3_turn_130 C F h) trivial
  · replace h := ifF h c
    refine v_case (fun c => ?_) (fun c => ?_)
    · replace h := ifT h c
      refine v_aload_n C dX3_turn_74 rfl ?_
      obtain ⟨q, e, h⟩ := ob h
      refine v_callS (As := [_]) C dX3_turn_75 cf_X3_66 (rm_X3_turn_X3_both) ⟨rfl, rfl⟩ rfl (Nat.le_of_ble_eq_true rfl) (c_X3_both _ _ N _ _ q.1 q.2 e) ?_
      refine v_istore C dX3_turn_78 (by decide) ?_
      refine v_aload_n C dX3_turn_80 rfl ?_
      refine v_iload C dX3_turn_81 rfl ?_
      refine v_iload_n C dX3_turn_83 rfl ?_
      refine v_ishl C dX3_turn_84 ?_
      refine v_iload C dX3_turn_85 rfl ?_
      refine v_bipush (v := 13) C dX3_turn_87 rfl ?_
      refine v_iload_n C dX3_turn_89 rfl ?_
      refine v_isub C dX3_turn_90 ?_
      refine v_ishr C dX3_turn_91 ?_
      refine v_ior C dX3_turn_92 ?_
      obtain ⟨q, e, h⟩ := ob h
      refine v_callS (As := [_, _]) C dX3_turn_93 cf_X3_70 (rm_X3_turn_X3_setBoth) ⟨rfl, rfl⟩ rfl (Nat.le_of_ble_eq_true rfl) (c_X3_setBoth _ _ N _ _ _ q.1 q.2 e) ?_
      refine v_goto (tgt := 130) C dX3_turn_96 (by decide) ?_
      exact v_sb (p_X3_turn_130 C F h) trivial
    · replace h := ifF h c
      refine v_case (fun c => ?_) (fun c => ?_)
      · replace h := ifT h c
        refine v_aload_n C dX3_turn_52 rfl ?_
        obtain ⟨q, e, h⟩ := ob h
        refine v_callS (As := [_]) C dX3_turn_53 cf_X3_66 (rm_X3_turn_X3_both) ⟨rfl, rfl⟩ rfl (Nat.le_of_ble_eq_true rfl) (c_X3_both _ _ N _ _ q.1 q.2 e) ?_
        refine v_istore_n C dX3_turn_56 (by decide) ?_
        refine v_aload_n C dX3_turn_57 rfl ?_
        refine v_iload_n C dX3_turn_58 rfl ?_
        refine v_iload_n C dX3_turn_59 rfl ?_
        refine v_ishr C dX3_turn_60 ?_
        refine v_iload_n C dX3_turn_61 rfl ?_
        refine v_bipush (v := 13) C dX3_turn_62 rfl ?_
        refine v_iload_n C dX3_turn_64 rfl ?_
        refine v_isub C dX3_turn_65 ?_
        refine v_ishl C dX3_turn_66 ?_
        refine v_ior C dX3_turn_67 ?_
        obtain ⟨q, e, h⟩ := ob h
        refine v_callS (As := [_, _]) C dX3_turn_68 cf_X3_70 (rm_X3_turn_X3_setBoth) ⟨rfl, rfl⟩ rfl (Nat.le_of_ble_eq_true rfl) (c_X3_setBoth _ _ N _ _ _ q.1 q.2 e) ?_
        refine v_goto (tgt := 130) C dX3_turn_71 (by decide) ?_
        exact v_sb (p_X3_turn_130 C F h) trivial
      · replace h := ifF h c
        refine v_caseD ?_
        exact v_sb (p_X3_turn_130 C F h) trivial
set_option maxRecDepth 100000 in
set_option maxHeartbeats 4000000 in
theorem p_X3_turn {x : CX} {l : Launch} {g : CG} {rv : Unit} {μ0 μ9 : Mem} (C : Cx x l g mi_X3_turn) (F : Prom x g mi_X3_turn μ0 none μ9) {N : Nat} {a0 : Option Nat} {a1 : Int32} {μ : Mem} (h : f_X3_turn N a0 a1 μ = some (rv, μ9)) : V x g 5 0 0 μ 0 [(0, aR a0), (1, aI a1)] [] := by
  unfold f_X3_turn at h
  refine v_iload_n C dX3_turn_0 rfl ?_
  refine v_iconst (v := 2) C dX3_turn_1 rfl ?_
  refine v_iand C dX3_turn_2 ?_
  refine v_if_eq (tgt := 10) C dX3_turn_3 (by decide) (fun c => ?_) (fun c => ?_)
  · replace h := ifT h c
    refine v_iconst (v := 1) C dX3_turn_10 rfl ?_
    exact v_sb (p_X3_turn_11 C F h) ⟨rfl, rfl, trivial⟩
  · replace h := ifF h c
    refine v_iconst (v := 2) C dX3_turn_6 rfl ?_
    refine v_goto (tgt := 11) C dX3_turn_7 (by decide) ?_
    exact v_sb (p_X3_turn_11 C F h) ⟨rfl, rfl, trivial⟩
set_option maxRecDepth 100000 in
set_option maxHeartbeats 4000000 in
theorem c_X3_turn (l : Launch) (g : CG) (N : Nat) (a0 : Option Nat) (a1 : Int32) (μ : Mem) (rv : Unit) (μ9 : Mem) (h : f_X3_turn N a0 a1 μ = some (rv, μ9)) : Ct l yX3_turn mi_X3_turn g [aR a0, aI a1] μ none μ9 := ct_of ⟨by decide, rfl, rfl⟩ (Nat.le_of_ble_eq_true rfl) fun x C F => p_X3_turn C F h
