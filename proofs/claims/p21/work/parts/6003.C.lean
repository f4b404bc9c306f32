/-! LAYER 1: X0.report, X0.mayTell, X4.tell, X0.passLabels, X0.isEnd, X0.isStatementName, X0.beginsValue, X0.isLiteralSign, X0.beginsPart, X0.kindOfNamed, X9.otherOf, X4.valueOf (by program) -/
def f_X0_report_50 (N : Nat) (μ : Mem) : Option (Unit × Mem) :=
  some ((), μ)
def f_X0_report_47 (N : Nat) (s0 : Option Nat) (s1 : Int32) (μ : Mem) : Option (Unit × Mem) :=
  (mpI μ s0 0 5 s1).bind fun μ1 =>
  f_X0_report_50 N μ1
def f_X0_report_28 (N : Nat) (a0 : Option Nat) (s0 : Option Nat) (μ : Mem) : Option (Unit × Mem) :=
  (mfR μ a0 0 1).bind fun v1 =>
  (mfI μ v1 9 7).bind fun v2 =>
  f_X0_report_47 N s0 v2 μ
def f_X0_report (N : Nat) (a0 : Option Nat) (a1 : Int32) (a2 : Int32) (μ : Mem) : Option (Unit × Mem) :=
  (mfI μ a0 0 4).bind fun v1 =>
  if ¬ v1 = 0 then
    f_X0_report_50 N μ
  else
    (mpI μ a0 0 4 a1).bind fun μ2 =>
    if a2 < 0 then
      f_X0_report_28 N a0 a0 μ2
    else
      (mfR μ2 a0 0 1).bind fun v3 =>
      (mfI μ2 v3 9 5).bind fun v4 =>
      if a2 < v4 then
        (mfR μ2 a0 0 1).bind fun v5 =>
        (mfR μ2 v5 9 2).bind fun v6 =>
        (maI μ2 0 v6 a2).bind fun v7 =>
        f_X0_report_47 N a0 v7 μ2
      else
        f_X0_report_28 N a0 a0 μ2
set_option maxRecDepth 100000 in
set_option maxHeartbeats 4000000 in
theorem p_X0_report_50 {x : CX} {l : Launch} {g : CG} {rv : Unit} {μ0 μ9 : Mem} (C : Cx x l g mi_X0_report) (F : Prom x g mi_X0_report μ0 none μ9) {N : Nat} {μ : Mem} (h : f_X0_report_50 N μ = some (rv, μ9)) : V x g 3 0 0 μ 50 [] [] := by
  unfold f_X0_report_50 at h
  exact v_vret C F ⟨rfl, rfl, Nat.le_refl _⟩ dX0_report_50 h
set_option maxRecDepth 100000 in
set_option maxHeartbeats 4000000 in
theorem p_X0_report_47 {x : CX} {l : Launch} {g : CG} {rv : Unit} {μ0 μ9 : Mem} (C : Cx x l g mi_X0_report) (F : Prom x g mi_X0_report μ0 none μ9) {N : Nat} {s0 : Option Nat} {s1 : Int32} {μ : Mem} (h : f_X0_report_47 N s0 s1 μ = some (rv, μ9)) : V x g 3 0 0 μ 47 [] [aI s1, aR s0] := by
  unfold f_X0_report_47 at h
  obtain ⟨m, e, h⟩ := ob h
  refine v_putI C dX0_report_47 (pf_X0_41 _) e ?_
  exact v_sb (p_X0_report_50 C F h) trivial
set_option maxRecDepth 100000 in
set_option maxHeartbeats 4000000 in
theorem p_X0_report_28 {x : CX} {l : Launch} {g : CG} {rv : Unit} {μ0 μ9 : Mem} (C : Cx x l g mi_X0_report) (F : Prom x g mi_X0_report μ0 none μ9) {N : Nat} {a0 : Option Nat} {s0 : Option Nat} {μ : Mem} (h : f_X0_report_28 N a0 s0 μ = some (rv, μ9)) : V x g 3 0 0 μ 28 [(0, aR a0)] [aR s0] := by
  unfold f_X0_report_28 at h
  refine v_aload_n C dX0_report_28 rfl ?_
  obtain ⟨v, e, h⟩ := ob h
  refine v_getR C dX0_report_29 gf_X0_23 e ?_
  obtain ⟨v, e, h⟩ := ob h
  refine v_getI C dX0_report_32 gf_X0_80 e ?_
  refine v_goto (tgt := 47) C dX0_report_35 (by decide) ?_
  exact v_sb (p_X0_report_47 C F h) trivial
set_option maxRecDepth 100000 in
set_option maxHeartbeats 4000000 in
theorem p_X0_report {x : CX} {l : Launch} {g : CG} {rv : Unit} {μ0 μ9 : Mem} (C : Cx x l g mi_X0_report) (F : Prom x g mi_X0_report μ0 none μ9) {N : Nat} {a0 : Option Nat} {a1 : Int32} {a2 : Int32} {μ : Mem} (h : f_X0_report N a0 a1 a2 μ = some (rv, μ9)) : V x g 3 0 0 μ 0 [(0, aR a0), (1, aI a1), (2, aI a2)] [] := by
  unfold f_X0_report at h
  refine v_aload_n C dX0_report_0 rfl ?_
  obtain ⟨v, e, h⟩ := ob h
  refine v_getI C dX0_report_1 gf_X0_37 e ?_
  refine v_if_ne (tgt := 50) C dX0_report_4 (by decide) (fun c => ?_) (fun c => ?_)
  · replace h := ifT h c
    exact v_sb (p_X0_report_50 C F h) trivial
  · replace h := ifF h c
    refine v_aload_n C dX0_report_7 rfl ?_
    refine v_iload_n C dX0_report_8 rfl ?_
    obtain ⟨m, e, h⟩ := ob h
    refine v_putI C dX0_report_9 (pf_X0_37 _) e ?_
    refine v_aload_n C dX0_report_12 rfl ?_
    refine v_iload_n C dX0_report_13 rfl ?_
    refine v_if_lt (tgt := 28) C dX0_report_14 (by decide) (fun c => ?_) (fun c => ?_)
    · replace h := ifT h c
      exact v_sb (p_X0_report_28 C F h) ⟨rfl, trivial⟩
    · replace h := ifF h c
      refine v_iload_n C dX0_report_17 rfl ?_
      refine v_aload_n C dX0_report_18 rfl ?_
      obtain ⟨v, e, h⟩ := ob h
      refine v_getR C dX0_report_19 gf_X0_23 e ?_
      obtain ⟨v, e, h⟩ := ob h
      refine v_getI C dX0_report_22 gf_X0_70 e ?_
      refine v_icmp_lt (tgt := 38) C dX0_report_25 (by decide) (fun c => ?_) (fun c => ?_)
      · replace h := ifT h c
        refine v_aload_n C dX0_report_38 rfl ?_
        obtain ⟨v, e, h⟩ := ob h
        refine v_getR C dX0_report_39 gf_X0_23 e ?_
        obtain ⟨v, e, h⟩ := ob h
        refine v_getR C dX0_report_42 gf_X0_83 e ?_
        refine v_iload_n C dX0_report_45 rfl ?_
        obtain ⟨v, e, h⟩ := ob h
        refine v_iaload C dX0_report_46 e ?_
        exact v_sb (p_X0_report_47 C F h) trivial
      · replace h := ifF h c
        exact v_sb (p_X0_report_28 C F h) ⟨rfl, trivial⟩
set_option maxRecDepth 100000 in
set_option maxHeartbeats 4000000 in
theorem c_X0_report (l : Launch) (g : CG) (N : Nat) (a0 : Option Nat) (a1 : Int32) (a2 : Int32) (μ : Mem) (rv : Unit) (μ9 : Mem) (h : f_X0_report N a0 a1 a2 μ = some (rv, μ9)) : Ct l yX0_report mi_X0_report g [aR a0, aI a1, aI a2] μ none μ9 := ct_of ⟨by decide, rfl, rfl⟩ (Nat.le_of_ble_eq_true rfl) fun x C F => p_X0_report C F h
def f_X0_mayTell_102 (N : Nat) (s0 : Int32) (μ : Mem) : Option (Int32 × Mem) :=
  retZ s0 μ
def f_X0_mayTell_90 (N : Nat) (a0 : Option Nat) (μ : Mem) : Option (Int32 × Mem) :=
  (mfI μ a0 0 4).bind fun v1 =>
  if ¬ v1 = 0 then
    f_X0_mayTell_102 N 0 μ
  else
    f_X0_mayTell_102 N 1 μ
def f_X0_mayTell_51 (N : Nat) (a0 : Option Nat) (μ : Mem) : Option (Int32 × Mem) :=
  (mfI μ a0 0 9).bind fun v1 =>
  (mck μ a0 0).bind fun b3 =>
  (f_X0_report N (some b3) 4 v1 μ).bind fun q2 =>
  f_X0_mayTell_90 N a0 q2.2
def f_X0_mayTell_63 (N : Nat) (a0 : Option Nat) (a2 : Int32) (μ : Mem) : Option (Int32 × Mem) :=
  if ¬ a2 = 0 then
    f_X0_mayTell_90 N a0 μ
  else
    (mfR μ a0 0 0).bind fun v1 =>
    (mfI μ v1 4 4).bind fun v2 =>
    if v2 < (200 : Int32) then
      f_X0_mayTell_90 N a0 μ
    else
      (mfI μ a0 0 9).bind fun v3 =>
      (mck μ a0 0).bind fun b5 =>
      (f_X0_report N (some b5) 6 v3 μ).bind fun q4 =>
      f_X0_mayTell_90 N a0 q4.2
def f_X0_mayTell (N : Nat) (a0 : Option Nat) (a1 : Int32) (μ : Mem) : Option (Int32 × Mem) :=
  (mfR μ a0 0 0).bind fun v1 =>
  (mfR μ a0 0 1).bind fun v2 =>
  (mfI μ a0 0 9).bind fun v3 =>
  (mck μ v2 9).bind fun b5 =>
  (f_X9_valueOf N (some b5) v3 μ).bind fun q4 =>
  (mck q4.2 v1 4).bind fun b7 =>
  (f_X4_tellingOf N (some b7) q4.1 q4.2).bind fun q6 =>
  if ¬ q6.1 = (3 : Int32) then
    if q6.1 = (1 : Int32) then
      f_X0_mayTell_51 N a0 q6.2
    else
      if ¬ q6.1 = (2 : Int32) then
        f_X0_mayTell_63 N a0 q6.1 q6.2
      else
        if ¬ a1 = (1 : Int32) then
          f_X0_mayTell_63 N a0 q6.1 q6.2
        else
          f_X0_mayTell_51 N a0 q6.2
  else
    (mfI q6.2 a0 0 9).bind fun v8 =>
    (mck q6.2 a0 0).bind fun b10 =>
    (f_X0_report N (some b10) 5 v8 q6.2).bind fun q9 =>
    f_X0_mayTell_90 N a0 q9.2
set_option maxRecDepth 100000 in
set_option maxHeartbeats 4000000 in
theorem p_X0_mayTell_102 {x : CX} {l : Launch} {g : CG} {rv : Int32} {μ0 μ9 : Mem} (C : Cx x l g mi_X0_mayTell) (F : Prom x g mi_X0_mayTell μ0 (some (aI rv)) μ9) {N : Nat} {s0 : Int32} {μ : Mem} (h : f_X0_mayTell_102 N s0 μ = some (rv, μ9)) : V x g 3 0 0 μ 102 [] [aI s0] := by
  unfold f_X0_mayTell_102 at h
  exact v_zret C F ⟨rfl, rfl, Nat.le_refl _⟩ dX0_mayTell_102 h
set_option maxRecDepth 100000 in
set_option maxHeartbeats 4000000 in
theorem p_X0_mayTell_90 {x : CX} {l : Launch} {g : CG} {rv : Int32} {μ0 μ9 : Mem} (C : Cx x l g mi_X0_mayTell) (F : Prom x g mi_X0_mayTell μ0 (some (aI rv)) μ9) {N : Nat} {a0 : Option Nat} {μ : Mem} (h : f_X0_mayTell_90 N a0 μ = some (rv, μ9)) : V x g 3 0 0 μ 90 [(0, aR a0)] [] := by
  unfold f_X0_mayTell_90 at h
  refine v_aload_n C dX0_mayTell_90 rfl ?_
  obtain ⟨v, e, h⟩ := ob h
  refine v_getI C dX0_mayTell_91 gf_X0_37 e ?_
  refine v_if_ne (tgt := 101) C dX0_mayTell_94 (by decide) (fun c => ?_) (fun c => ?_)
  · replace h := ifT h c
    refine v_iconst (v := 0) C dX0_mayTell_101 rfl ?_
    exact v_sb (p_X0_mayTell_102 C F h) trivial
  · replace h := ifF h c
    refine v_iconst (v := 1) C dX0_mayTell_97 rfl ?_
    refine v_goto (tgt := 102) C dX0_mayTell_98 (by decide) ?_
    exact v_sb (p_X0_mayTell_102 C F h) trivial
set_option maxRecDepth 100000 in
set_option maxHeartbeats 4000000 in
theorem p_X0_mayTell_51 {x : CX} {l : Launch} {g : CG} {rv : Int32} {μ0 μ9 : Mem} (C : Cx x l g mi_X0_mayTell) (F : Prom x g mi_X0_mayTell μ0 (some (aI rv)) μ9) {N : Nat} {a0 : Option Nat} {μ : Mem} (h : f_X0_mayTell_51 N a0 μ = some (rv, μ9)) : V x g 3 0 0 μ 51 [(0, aR a0)] [] := by
  unfold f_X0_mayTell_51 at h
  refine v_aload_n C dX0_mayTell_51 rfl ?_
  refine v_iconst (v := 4) C dX0_mayTell_52 rfl ?_
  refine v_aload_n C dX0_mayTell_53 rfl ?_
  obtain ⟨v, e, h⟩ := ob h
  refine v_getI C dX0_mayTell_54 gf_X0_54 e ?_
  obtain ⟨b, e0, h⟩ := ob h
  obtain ⟨q, e, h⟩ := ob h
  refine v_callV (As := [_, _]) C dX0_mayTell_57 cf_X0_87 (rm_X0_mayTell_X0_report) ⟨rfl, rfl⟩ e0 rfl (Nat.le_of_ble_eq_true rfl) (c_X0_report _ _ N _ _ _ _ q.1 q.2 e) ?_
  refine v_goto (tgt := 90) C dX0_mayTell_60 (by decide) ?_
  exact v_sb (p_X0_mayTell_90 C F h) ⟨rfl, trivial⟩
set_option maxRecDepth 100000 in
set_option maxHeartbeats 4000000 in
theorem p_X0_mayTell_63 {x : CX} {l : Launch} {g : CG} {rv : Int32} {μ0 μ9 : Mem} (C : Cx x l g mi_X0_mayTell) (F : Prom x g mi_X0_mayTell μ0 (some (aI rv)) μ9) {N : Nat} {a0 : Option Nat} {a2 : Int32} {μ : Mem} (h : f_X0_mayTell_63 N a0 a2 μ = some (rv, μ9)) : V x g 3 0 0 μ 63 [(0, aR a0), (2, aI a2)] [] := by
  unfold f_X0_mayTell_63 at h
  refine v_iload_n C dX0_mayTell_63 rfl ?_
  refine v_if_ne (tgt := 90) C dX0_mayTell_64 (by decide) (fun c => ?_) (fun c => ?_)
  · replace h := ifT h c
    exact v_sb (p_X0_mayTell_90 C F h) ⟨rfl, trivial⟩
  · replace h := ifF h c
    refine v_aload_n C dX0_mayTell_67 rfl ?_
    obtain ⟨v, e, h⟩ := ob h
    refine v_getR C dX0_mayTell_68 gf_X0_12 e ?_
    obtain ⟨v, e, h⟩ := ob h
    refine v_getI C dX0_mayTell_71 gf_X0_118 e ?_
    refine v_sipush (v := 200) C dX0_mayTell_74 rfl ?_
    refine v_icmp_lt (tgt := 90) C dX0_mayTell_77 (by decide) (fun c => ?_) (fun c => ?_)
    · replace h := ifT h c
      exact v_sb (p_X0_mayTell_90 C F h) ⟨rfl, trivial⟩
    · replace h := ifF h c
      refine v_aload_n C dX0_mayTell_80 rfl ?_
      refine v_bipush (v := 6) C dX0_mayTell_81 rfl ?_
      refine v_aload_n C dX0_mayTell_83 rfl ?_
      obtain ⟨v, e, h⟩ := ob h
      refine v_getI C dX0_mayTell_84 gf_X0_54 e ?_
      obtain ⟨b, e0, h⟩ := ob h
      obtain ⟨q, e, h⟩ := ob h
      refine v_callV (As := [_, _]) C dX0_mayTell_87 cf_X0_87 (rm_X0_mayTell_X0_report) ⟨rfl, rfl⟩ e0 rfl (Nat.le_of_ble_eq_true rfl) (c_X0_report _ _ N _ _ _ _ q.1 q.2 e) ?_
      exact v_sb (p_X0_mayTell_90 C F h) ⟨rfl, trivial⟩
set_option maxRecDepth 100000 in
set_option maxHeartbeats 4000000 in
theorem p_X0_mayTell {x : CX} {l : Launch} {g : CG} {rv : Int32} {μ0 μ9 : Mem} (C : Cx x l g mi_X0_mayTell) (F : Prom x g mi_X0_mayTell μ0 (some (aI rv)) μ9) {N : Nat} {a0 : Option Nat} {a1 : Int32} {μ : Mem} (h : f_X0_mayTell N a0 a1 μ = some (rv, μ9)) : V x g 3 0 0 μ 0 [(0, aR a0), (1, aI a1)] [] := by
  unfold f_X0_mayTell at h
  refine v_aload_n C dX0_mayTell_0 rfl ?_
  obtain ⟨v, e, h⟩ := ob h
  refine v_getR C dX0_mayTell_1 gf_X0_12 e ?_
  refine v_aload_n C dX0_mayTell_4 rfl ?_
  obtain ⟨v, e, h⟩ := ob h
  refine v_getR C dX0_mayTell_5 gf_X0_23 e ?_
  refine v_aload_n C dX0_mayTell_8 rfl ?_
  obtain ⟨v, e, h⟩ := ob h
  refine v_getI C dX0_mayTell_9 gf_X0_54 e ?_
  obtain ⟨b, e0, h⟩ := ob h
  obtain ⟨q, e, h⟩ := ob h
  refine v_callV (As := [_]) C dX0_mayTell_12 cf_X0_108 (rm_X0_mayTell_X9_valueOf) ⟨rfl, rfl⟩ e0 rfl (Nat.le_of_ble_eq_true rfl) (c_X9_valueOf _ _ N _ _ _ q.1 q.2 e) ?_
  obtain ⟨b, e0, h⟩ := ob h
  obtain ⟨q, e, h⟩ := ob h
  refine v_callV (As := [_]) C dX0_mayTell_15 cf_X0_115 (rm_X0_mayTell_X4_tellingOf) ⟨rfl, rfl⟩ e0 rfl (Nat.le_of_ble_eq_true rfl) (c_X4_tellingOf _ _ N _ _ _ q.1 q.2 e) ?_
  refine v_istore_n C dX0_mayTell_18 (by decide) ?_
  refine v_iload_n C dX0_mayTell_19 rfl ?_
  refine v_iconst (v := 3) C dX0_mayTell_20 rfl ?_
  refine v_icmp_ne (tgt := 36) C dX0_mayTell_21 (by decide) (fun c => ?_) (fun c => ?_)
  · replace h := ifT h c
    refine v_iload_n C dX0_mayTell_36 rfl ?_
    refine v_iconst (v := 1) C dX0_mayTell_37 rfl ?_
    refine v_icmp_eq (tgt := 51) C dX0_mayTell_38 (by decide) (fun c => ?_) (fun c => ?_)
    · replace h := ifT h c
      exact v_sb (p_X0_mayTell_51 C F h) ⟨rfl, trivial⟩
    · replace h := ifF h c
      refine v_iload_n C dX0_mayTell_41 rfl ?_
      refine v_iconst (v := 2) C dX0_mayTell_42 rfl ?_
      refine v_icmp_ne (tgt := 63) C dX0_mayTell_43 (by decide) (fun c => ?_) (fun c => ?_)
      · replace h := ifT h c
        exact v_sb (p_X0_mayTell_63 C F h) ⟨rfl, rfl, trivial⟩
      · replace h := ifF h c
        refine v_iload_n C dX0_mayTell_46 rfl ?_
        refine v_iconst (v := 1) C dX0_mayTell_47 rfl ?_
        refine v_icmp_ne (tgt := 63) C dX0_mayTell_48 (by decide) (fun c => ?_) (fun c => ?_)
        · replace h := ifT h c
          exact v_sb (p_X0_mayTell_63 C F h) ⟨rfl, rfl, trivial⟩
        · replace h := ifF h c
          exact v_sb (p_X0_mayTell_51 C F h) ⟨rfl, trivial⟩
  · replace h := ifF h c
    refine v_aload_n C dX0_mayTell_24 rfl ?_
    refine v_iconst (v := 5) C dX0_mayTell_25 rfl ?_
    refine v_aload_n C dX0_mayTell_26 rfl ?_
    obtain ⟨v, e, h⟩ := ob h
    refine v_getI C dX0_mayTell_27 gf_X0_54 e ?_
    obtain ⟨b, e0, h⟩ := ob h
    obtain ⟨q, e, h⟩ := ob h
    refine v_callV (As := [_, _]) C dX0_mayTell_30 cf_X0_87 (rm_X0_mayTell_X0_report) ⟨rfl, rfl⟩ e0 rfl (Nat.le_of_ble_eq_true rfl) (c_X0_report _ _ N _ _ _ _ q.1 q.2 e) ?_
    refine v_goto (tgt := 90) C dX0_mayTell_33 (by decide) ?_
    exact v_sb (p_X0_mayTell_90 C F h) ⟨rfl, trivial⟩
set_option maxRecDepth 100000 in
set_option maxHeartbeats 4000000 in
theorem c_X0_mayTell (l : Launch) (g : CG) (N : Nat) (a0 : Option Nat) (a1 : Int32) (μ : Mem) (rv : Int32) (μ9 : Mem) (h : f_X0_mayTell N a0 a1 μ = some (rv, μ9)) : Ct l yX0_mayTell mi_X0_mayTell g [aR a0, aI a1] μ (some (aI rv)) μ9 := ct_of ⟨by decide, rfl, rfl⟩ (Nat.le_of_ble_eq_true rfl) fun x C F => p_X0_mayTell C F h
def f_X4_tell_12 (N : Nat) (μ : Mem) : Option (Unit × Mem) :=
  some ((), μ)
def f_X4_tell_32 (N : Nat) (a0 : Option Nat) (a1 : Int32) (a2 : Int32) (a3 : Int32) (μ : Mem) : Option (Unit × Mem) :=
  (mfR μ a0 4 1).bind fun v1 =>
  (mbI μ 0 v1 a1 a2).bind fun μ2 =>
  (mfR μ2 a0 4 2).bind fun v3 =>
  (mbI μ2 0 v3 a1 a3).bind fun μ4 =>
  some ((), μ4)
def f_X4_tell (N : Nat) (a0 : Option Nat) (a1 : Int32) (a2 : Int32) (a3 : Int32) (μ : Mem) : Option (Unit × Mem) :=
  if a1 < 0 then
    f_X4_tell_12 N μ
  else
    (mfI μ a0 4 3).bind fun v1 =>
    if a1 < v1 then
      (mfR μ a0 4 2).bind fun v2 =>
      (maI μ 0 v2 a1).bind fun v3 =>
      if ¬ v3 = 0 then
        f_X4_tell_32 N a0 a1 a2 a3 μ
      else
        (mfI μ a0 4 4).bind fun v4 =>
        (mpI μ a0 4 4 (v4 + 1)).bind fun μ5 =>
        f_X4_tell_32 N a0 a1 a2 a3 μ5
    else
      f_X4_tell_12 N μ
set_option maxRecDepth 100000 in
set_option maxHeartbeats 4000000 in
theorem p_X4_tell_12 {x : CX} {l : Launch} {g : CG} {rv : Unit} {μ0 μ9 : Mem} (C : Cx x l g mi_X4_tell) (F : Prom x g mi_X4_tell μ0 none μ9) {N : Nat} {μ : Mem} (h : f_X4_tell_12 N μ = some (rv, μ9)) : V x g 4 0 0 μ 12 [] [] := by
  unfold f_X4_tell_12 at h
  exact v_vret C F ⟨rfl, rfl, Nat.le_refl _⟩ dX4_tell_12 h
set_option maxRecDepth 100000 in
set_option maxHeartbeats 4000000 in
theorem p_X4_tell_32 {x : CX} {l : Launch} {g : CG} {rv : Unit} {μ0 μ9 : Mem} (C : Cx x l g mi_X4_tell) (F : Prom x g mi_X4_tell μ0 none μ9) {N : Nat} {a0 : Option Nat} {a1 : Int32} {a2 : Int32} {a3 : Int32} {μ : Mem} (h : f_X4_tell_32 N a0 a1 a2 a3 μ = some (rv, μ9)) : V x g 4 0 0 μ 32 [(0, aR a0), (1, aI a1), (2, aI a2), (3, aI a3)] [] := by
  unfold f_X4_tell_32 at h
  refine v_aload_n C dX4_tell_32 rfl ?_
  obtain ⟨v, e, h⟩ := ob h
  refine v_getR C dX4_tell_33 gf_X4_19 e ?_
  refine v_iload_n C dX4_tell_36 rfl ?_
  refine v_iload_n C dX4_tell_37 rfl ?_
  obtain ⟨m, e, h⟩ := ob h
  refine v_iastore C dX4_tell_38 e ?_
  refine v_aload_n C dX4_tell_39 rfl ?_
  obtain ⟨v, e, h⟩ := ob h
  refine v_getR C dX4_tell_40 gf_X4_22 e ?_
  refine v_iload_n C dX4_tell_43 rfl ?_
  refine v_iload_n C dX4_tell_44 rfl ?_
  obtain ⟨m, e, h⟩ := ob h
  refine v_iastore C dX4_tell_45 e ?_
  exact v_vret C F ⟨rfl, rfl, Nat.le_refl _⟩ dX4_tell_46 h
set_option maxRecDepth 100000 in
set_option maxHeartbeats 4000000 in
theorem p_X4_tell {x : CX} {l : Launch} {g : CG} {rv : Unit} {μ0 μ9 : Mem} (C : Cx x l g mi_X4_tell) (F : Prom x g mi_X4_tell μ0 none μ9) {N : Nat} {a0 : Option Nat} {a1 : Int32} {a2 : Int32} {a3 : Int32} {μ : Mem} (h : f_X4_tell N a0 a1 a2 a3 μ = some (rv, μ9)) : V x g 4 0 0 μ 0 [(0, aR a0), (1, aI a1), (2, aI a2), (3, aI a3)] [] := by
  unfold f_X4_tell at h
  refine v_iload_n C dX4_tell_0 rfl ?_
  refine v_if_lt (tgt := 12) C dX4_tell_1 (by decide) (fun c => ?_) (fun c => ?_)
  · replace h := ifT h c
    exact v_sb (p_X4_tell_12 C F h) trivial
  · replace h := ifF h c
    refine v_iload_n C dX4_tell_4 rfl ?_
    refine v_aload_n C dX4_tell_5 rfl ?_
    obtain ⟨v, e, h⟩ := ob h
    refine v_getI C dX4_tell_6 gf_X4_25 e ?_
    refine v_icmp_lt (tgt := 13) C dX4_tell_9 (by decide) (fun c => ?_) (fun c => ?_)
    · replace h := ifT h c
      refine v_aload_n C dX4_tell_13 rfl ?_
      obtain ⟨v, e, h⟩ := ob h
      refine v_getR C dX4_tell_14 gf_X4_22 e ?_
      refine v_iload_n C dX4_tell_17 rfl ?_
      obtain ⟨v, e, h⟩ := ob h
      refine v_iaload C dX4_tell_18 e ?_
      refine v_if_ne (tgt := 32) C dX4_tell_19 (by decide) (fun c => ?_) (fun c => ?_)
      · replace h := ifT h c
        exact v_sb (p_X4_tell_32 C F h) ⟨rfl, rfl, rfl, rfl, trivial⟩
      · replace h := ifF h c
        refine v_aload_n C dX4_tell_22 rfl ?_
        refine v_dup C dX4_tell_23 rfl ?_
        obtain ⟨v, e, h⟩ := ob h
        refine v_getI C dX4_tell_24 gf_X4_29 e ?_
        refine v_iconst (v := 1) C dX4_tell_27 rfl ?_
        refine v_iadd C dX4_tell_28 ?_
        obtain ⟨m, e, h⟩ := ob h
        refine v_putI C dX4_tell_29 (pf_X4_29 _) e ?_
        exact v_sb (p_X4_tell_32 C F h) ⟨rfl, rfl, rfl, rfl, trivial⟩
    · replace h := ifF h c
      exact v_sb (p_X4_tell_12 C F h) trivial
set_option maxRecDepth 100000 in
set_option maxHeartbeats 4000000 in
theorem c_X4_tell (l : Launch) (g : CG) (N : Nat) (a0 : Option Nat) (a1 : Int32) (a2 : Int32) (a3 : Int32) (μ : Mem) (rv : Unit) (μ9 : Mem) (h : f_X4_tell N a0 a1 a2 a3 μ = some (rv, μ9)) : Ct l yX4_tell mi_X4_tell g [aR a0, aI a1, aI a2, aI a3] μ none μ9 := ct_of ⟨by decide, rfl, rfl⟩ (Nat.le_of_ble_eq_true rfl) fun x C F => p_X4_tell C F h
def f_X0_passLabels_106 (N : Nat) (μ : Mem) : Option (Unit × Mem) :=
  some ((), μ)
def f_X0_passLabels_47 (N : Nat) (μ : Mem) : Option (Unit × Mem) :=
  some ((), μ)
def f_X0_passLabels_90 (N : Nat) (k2 : (Option Nat) → Int32 → Mem → Option (Unit × Mem)) (a0 : Option Nat) (a1 : Int32) (μ : Mem) : Option (Unit × Mem) :=
  (mfI μ a0 0 9).bind fun v1 =>
  (mpI μ a0 0 9 (v1 + 2)).bind fun μ2 =>
  k2 a0 (a1 + 1) μ2
def H_X0_passLabels_2 (N : Nat) (k2 : (Option Nat) → Int32 → Mem → Option (Unit × Mem)) (a0 : Option Nat) (a1 : Int32) (μ : Mem) : Option (Unit × Mem) :=
  (mfR μ a0 0 1).bind fun v1 =>
  (mfI μ v1 9 5).bind fun v2 =>
  if v2 < a1 then
    f_X0_passLabels_106 N μ
  else
    (mfI μ a0 0 4).bind fun v3 =>
    if ¬ v3 = 0 then
      f_X0_passLabels_106 N μ
    else
      (mfI μ a0 0 9).bind fun v4 =>
      (mck μ a0 0).bind fun b6 =>
      (f_X0_kindAt N (some b6) v4 μ).bind fun q5 =>
      if ¬ q5.1 = (1 : Int32) then
        f_X0_passLabels_47 N q5.2
      else
        (mfI q5.2 a0 0 9).bind fun v7 =>
        (mck q5.2 a0 0).bind fun b9 =>
        (f_X0_kindAt N (some b9) (v7 + 1) q5.2).bind fun q8 =>
        if q8.1 = (44 : Int32) then
          (mfI q8.2 a0 0 6).bind fun v10 =>
          if ¬ v10 = 0 then
            f_X0_passLabels_90 N k2 a0 a1 q8.2
          else
            (mck q8.2 a0 0).bind fun b12 =>
            (f_X0_mayTell N (some b12) 1 q8.2).bind fun q11 =>
            if q11.1 = 0 then
              f_X0_passLabels_90 N k2 a0 a1 q11.2
            else
              (mfR q11.2 a0 0 0).bind fun v13 =>
              (mfR q11.2 a0 0 1).bind fun v14 =>
              (mfI q11.2 a0 0 9).bind fun v15 =>
              (mck q11.2 v14 9).bind fun b17 =>
              (f_X9_valueOf N (some b17) v15 q11.2).bind fun q16 =>
              (mfI q16.2 a0 0 10).bind fun v18 =>
              (mck q16.2 v13 4).bind fun b20 =>
              (f_X4_tell N (some b20) q16.1 (v18 &&& 4095) 1 q16.2).bind fun q19 =>
              f_X0_passLabels_90 N k2 a0 a1 q19.2
        else
          f_X0_passLabels_47 N q8.2
def L_X0_passLabels_2 (N : Nat) : Nat → (Option Nat) → Int32 → Mem → Option (Unit × Mem)
  | 0 => fun _ _ _ => none
  | n + 1 => H_X0_passLabels_2 N (L_X0_passLabels_2 N n)
def f_X0_passLabels (N : Nat) (a0 : Option Nat) (μ : Mem) : Option (Unit × Mem) :=
  L_X0_passLabels_2 N N a0 0 μ
set_option maxRecDepth 100000 in
set_option maxHeartbeats 4000000 in
theorem p_X0_passLabels_106 {x : CX} {l : Launch} {g : CG} {rv : Unit} {μ0 μ9 : Mem} (C : Cx x l g mi_X0_passLabels) (F : Prom x g mi_X0_passLabels μ0 none μ9) {N : Nat} {μ : Mem} (h : f_X0_passLabels_106 N μ = some (rv, μ9)) : V x g 2 0 0 μ 106 [] [] := by
  unfold f_X0_passLabels_106 at h
  exact v_vret C F ⟨rfl, rfl, Nat.le_refl _⟩ dX0_passLabels_106 h
set_option maxRecDepth 100000 in
set_option maxHeartbeats 4000000 in
theorem p_X0_passLabels_47 {x : CX} {l : Launch} {g : CG} {rv : Unit} {μ0 μ9 : Mem} (C : Cx x l g mi_X0_passLabels) (F : Prom x g mi_X0_passLabels μ0 none μ9) {N : Nat} {μ : Mem} (h : f_X0_passLabels_47 N μ = some (rv, μ9)) : V x g 2 0 0 μ 47 [] [] := by
  unfold f_X0_passLabels_47 at h
  exact v_vret C F ⟨rfl, rfl, Nat.le_refl _⟩ dX0_passLabels_47 h
set_option maxRecDepth 100000 in
set_option maxHeartbeats 4000000 in
theorem p_X0_passLabels_90 {x : CX} {l : Launch} {g : CG} {rv : Unit} {μ0 μ9 : Mem} (C : Cx x l g mi_X0_passLabels) (F : Prom x g mi_X0_passLabels μ0 none μ9) {N : Nat} {k2 : (Option Nat) → Int32 → Mem → Option (Unit × Mem)} (hk2 : ∀ (a0 : Option Nat) (a1 : Int32) (μ : Mem), k2 a0 a1 μ = some (rv, μ9) → V x g 2 0 0 μ 2 [(0, aR a0), (1, aI a1)] []) {a0 : Option Nat} {a1 : Int32} {μ : Mem} (h : f_X0_passLabels_90 N k2 a0 a1 μ = some (rv, μ9)) : V x g 2 0 0 μ 90 [(0, aR a0), (1, aI a1)] [] := by
  unfold f_X0_passLabels_90 at h
  refine v_aload_n C dX0_passLabels_90 rfl ?_
  refine v_dup C dX0_passLabels_91 rfl ?_
  obtain ⟨v, e, h⟩ := ob h
  refine v_getI C dX0_passLabels_92 gf_X0_54 e ?_
  refine v_iconst (v := 2) C dX0_passLabels_95 rfl ?_
  refine v_iadd C dX0_passLabels_96 ?_
  obtain ⟨m, e, h⟩ := ob h
  refine v_putI C dX0_passLabels_97 (pf_X0_54 _) e ?_
  refine v_iinc (w := 1) C dX0_passLabels_100 rfl rfl (by decide) ?_
  refine v_goto (tgt := 2) C dX0_passLabels_103 (by decide) ?_
  exact v_sb (hk2 _ _ _ h) ⟨rfl, rfl, trivial⟩
set_option maxRecDepth 100000 in
set_option maxHeartbeats 4000000 in
theorem pH_X0_passLabels_2 {x : CX} {l : Launch} {g : CG} {rv : Unit} {μ0 μ9 : Mem} (C : Cx x l g mi_X0_passLabels) (F : Prom x g mi_X0_passLabels μ0 none μ9) {N : Nat} {k2 : (Option Nat) → Int32 → Mem → Option (Unit × Mem)} (hk2 : ∀ (a0 : Option Nat) (a1 : Int32) (μ : Mem), k2 a0 a1 μ = some (rv, μ9) → V x g 2 0 0 μ 2 [(0, aR a0), (1, aI a1)] []) {a0 : Option Nat} {a1 : Int32} {μ : Mem} (h : H_X0_passLabels_2 N k2 a0 a1 μ = some (rv, μ9)) : V x g 2 0 0 μ 2 [(0, aR a0), (1, aI a1)] [] := by
  unfold H_X0_passLabels_2 at h
  refine v_iload_n C dX0_passLabels_2 rfl ?_
  refine v_aload_n C dX0_passLabels_3 rfl ?_
  obtain ⟨v, e, h⟩ := ob h
  refine v_getR C dX0_passLabels_4 gf_X0_23 e ?_
  obtain ⟨v, e, h⟩ := ob h
  refine v_getI C dX0_passLabels_7 gf_X0_70 e ?_
  refine v_icmp_gt (tgt := 106) C dX0_passLabels_10 (by decide) (fun c => ?_) (fun c => ?_)
  · replace h := ifT h c
    exact v_sb (p_X0_passLabels_106 C F h) trivial
  · replace h := ifF h c
    refine v_aload_n C dX0_passLabels_13 rfl ?_
    obtain ⟨v, e, h⟩ := ob h
    refine v_getI C dX0_passLabels_14 gf_X0_37 e ?_
    refine v_if_ne (tgt := 106) C dX0_passLabels_17 (by decide) (fun c => ?_) (fun c => ?_)
    · replace h := ifT h c
      exact v_sb (p_X0_passLabels_106 C F h) trivial
    · replace h := ifF h c
      refine v_aload_n C dX0_passLabels_20 rfl ?_
      refine v_aload_n C dX0_passLabels_21 rfl ?_
      obtain ⟨v, e, h⟩ := ob h
      refine v_getI C dX0_passLabels_22 gf_X0_54 e ?_
      obtain ⟨b, e0, h⟩ := ob h
      obtain ⟨q, e, h⟩ := ob h
      refine v_callV (As := [_]) C dX0_passLabels_25 cf_X0_100 (rm_X0_passLabels_X0_kindAt) ⟨rfl, rfl⟩ e0 rfl (Nat.le_of_ble_eq_true rfl) (c_X0_kindAt _ _ N _ _ _ q.1 q.2 e) ?_
      refine v_iconst (v := 1) C dX0_passLabels_28 rfl ?_
      refine v_icmp_ne (tgt := 47) C dX0_passLabels_29 (by decide) (fun c => ?_) (fun c => ?_)
      · replace h := ifT h c
        exact v_sb (p_X0_passLabels_47 C F h) trivial
      · replace h := ifF h c
        refine v_aload_n C dX0_passLabels_32 rfl ?_
        refine v_aload_n C dX0_passLabels_33 rfl ?_
        obtain ⟨v, e, h⟩ := ob h
        refine v_getI C dX0_passLabels_34 gf_X0_54 e ?_
        refine v_iconst (v := 1) C dX0_passLabels_37 rfl ?_
        refine v_iadd C dX0_passLabels_38 ?_
        obtain ⟨b, e0, h⟩ := ob h
        obtain ⟨q, e, h⟩ := ob h
        refine v_callV (As := [_]) C dX0_passLabels_39 cf_X0_100 (rm_X0_passLabels_X0_kindAt) ⟨rfl, rfl⟩ e0 rfl (Nat.le_of_ble_eq_true rfl) (c_X0_kindAt _ _ N _ _ _ q.1 q.2 e) ?_
        refine v_bipush (v := 44) C dX0_passLabels_42 rfl ?_
        refine v_icmp_eq (tgt := 48) C dX0_passLabels_44 (by decide) (fun c => ?_) (fun c => ?_)
        · replace h := ifT h c
          refine v_aload_n C dX0_passLabels_48 rfl ?_
          obtain ⟨v, e, h⟩ := ob h
          refine v_getI C dX0_passLabels_49 gf_X0_44 e ?_
          refine v_if_ne (tgt := 90) C dX0_passLabels_52 (by decide) (fun c => ?_) (fun c => ?_)
          · replace h := ifT h c
            exact v_sb (p_X0_passLabels_90 C F hk2 h) ⟨rfl, rfl, trivial⟩
          · replace h := ifF h c
            refine v_aload_n C dX0_passLabels_55 rfl ?_
            refine v_iconst (v := 1) C dX0_passLabels_56 rfl ?_
            obtain ⟨b, e0, h⟩ := ob h
            obtain ⟨q, e, h⟩ := ob h
            refine v_callV (As := [_]) C dX0_passLabels_57 cf_X0_104 (rm_X0_passLabels_X0_mayTell) ⟨rfl, rfl⟩ e0 rfl (Nat.le_of_ble_eq_true rfl) (c_X0_mayTell _ _ N _ _ _ q.1 q.2 e) ?_
            refine v_if_eq (tgt := 90) C dX0_passLabels_60 (by decide) (fun c => ?_) (fun c => ?_)
            · replace h := ifT h c
              exact v_sb (p_X0_passLabels_90 C F hk2 h) ⟨rfl, rfl, trivial⟩
            · replace h := ifF h c
              refine v_aload_n C dX0_passLabels_63 rfl ?_
              obtain ⟨v, e, h⟩ := ob h
              refine v_getR C dX0_passLabels_64 gf_X0_12 e ?_
              refine v_aload_n C dX0_passLabels_67 rfl ?_
              obtain ⟨v, e, h⟩ := ob h
              refine v_getR C dX0_passLabels_68 gf_X0_23 e ?_
              refine v_aload_n C dX0_passLabels_71 rfl ?_
              obtain ⟨v, e, h⟩ := ob h
              refine v_getI C dX0_passLabels_72 gf_X0_54 e ?_
              obtain ⟨b, e0, h⟩ := ob h
              obtain ⟨q, e, h⟩ := ob h
              refine v_callV (As := [_]) C dX0_passLabels_75 cf_X0_108 (rm_X0_passLabels_X9_valueOf) ⟨rfl, rfl⟩ e0 rfl (Nat.le_of_ble_eq_true rfl) (c_X9_valueOf _ _ N _ _ _ q.1 q.2 e) ?_
              refine v_aload_n C dX0_passLabels_78 rfl ?_
              obtain ⟨v, e, h⟩ := ob h
              refine v_getI C dX0_passLabels_79 gf_X0_57 e ?_
              refine v_sipush (v := 4095) C dX0_passLabels_82 rfl ?_
              refine v_iand C dX0_passLabels_85 ?_
              refine v_iconst (v := 1) C dX0_passLabels_86 rfl ?_
              obtain ⟨b, e0, h⟩ := ob h
              obtain ⟨q, e, h⟩ := ob h
              refine v_callV (As := [_, _, _]) C dX0_passLabels_87 cf_X0_111 (rm_X0_passLabels_X4_tell) ⟨rfl, rfl⟩ e0 rfl (Nat.le_of_ble_eq_true rfl) (c_X4_tell _ _ N _ _ _ _ _ q.1 q.2 e) ?_
              exact v_sb (p_X0_passLabels_90 C F hk2 h) ⟨rfl, rfl, trivial⟩
        · replace h := ifF h c
          exact v_sb (p_X0_passLabels_47 C F h) trivial
set_option maxRecDepth 100000 in
set_option maxHeartbeats 4000000 in
theorem pL_X0_passLabels_2 {x : CX} {l : Launch} {g : CG} {rv : Unit} {μ0 μ9 : Mem} (C : Cx x l g mi_X0_passLabels) (F : Prom x g mi_X0_passLabels μ0 none μ9) (N : Nat) (n : Nat) : ∀ (a0 : Option Nat) (a1 : Int32) (μ : Mem), L_X0_passLabels_2 N n a0 a1 μ = some (rv, μ9) → V x g 2 0 0 μ 2 [(0, aR a0), (1, aI a1)] [] := by
  induction n with
  | zero => intro a0 a1 μ h; cases h
  | succ n ih => intro a0 a1 μ h; exact pH_X0_passLabels_2 C F ih h
set_option maxRecDepth 100000 in
set_option maxHeartbeats 4000000 in
theorem p_X0_passLabels {x : CX} {l : Launch} {g : CG} {rv : Unit} {μ0 μ9 : Mem} (C : Cx x l g mi_X0_passLabels) (F : Prom x g mi_X0_passLabels μ0 none μ9) {N : Nat} {a0 : Option Nat} {μ : Mem} (h : f_X0_passLabels N a0 μ = some (rv, μ9)) : V x g 2 0 0 μ 0 [(0, aR a0)] [] := by
  unfold f_X0_passLabels at h
  refine v_iconst (v := 0) C dX0_passLabels_0 rfl ?_
  refine v_istore_n C dX0_passLabels_1 (by decide) ?_
  exact v_sb (pL_X0_passLabels_2 C F N N _ _ _ h) ⟨rfl, rfl, trivial⟩
set_option maxRecDepth 100000 in
set_option maxHeartbeats 4000000 in
theorem c_X0_passLabels (l : Launch) (g : CG) (N : Nat) (a0 : Option Nat) (μ : Mem) (rv : Unit) (μ9 : Mem) (h : f_X0_passLabels N a0 μ = some (rv, μ9)) : Ct l yX0_passLabels mi_X0_passLabels g [aR a0] μ none μ9 := ct_of ⟨by decide, rfl, rfl⟩ (Nat.le_of_ble_eq_true rfl) fun x C F => p_X0_passLabels C F h
def f_X0_isEnd_21 (N : Nat) (s0 : Int32) (μ : Mem) : Option (Int32 × Mem) :=
  retZ s0 μ
def f_X0_isEnd_16 (N : Nat) (μ : Mem) : Option (Int32 × Mem) :=
  f_X0_isEnd_21 N 1 μ
def f_X0_isEnd (N : Nat) (a0 : Int32) (μ : Mem) : Option (Int32 × Mem) :=
  if a0 = (59 : Int32) then
    f_X0_isEnd_16 N μ
  else
    if a0 = (10 : Int32) then
      f_X0_isEnd_16 N μ
    else
      if ¬ a0 = 0 then
        f_X0_isEnd_21 N 0 μ
      else
        f_X0_isEnd_16 N μ
set_option maxRecDepth 100000 in
set_option maxHeartbeats 4000000 in
theorem p_X0_isEnd_21 {x : CX} {l : Launch} {g : CG} {rv : Int32} {μ0 μ9 : Mem} (C : Cx x l g mi_X0_isEnd) (F : Prom x g mi_X0_isEnd μ0 (some (aI rv)) μ9) {N : Nat} {s0 : Int32} {μ : Mem} (h : f_X0_isEnd_21 N s0 μ = some (rv, μ9)) : V x g 1 0 0 μ 21 [] [aI s0] := by
  unfold f_X0_isEnd_21 at h
  exact v_zret C F ⟨rfl, rfl, Nat.le_refl _⟩ dX0_isEnd_21 h
set_option maxRecDepth 100000 in
set_option maxHeartbeats 4000000 in
theorem p_X0_isEnd_16 {x : CX} {l : Launch} {g : CG} {rv : Int32} {μ0 μ9 : Mem} (C : Cx x l g mi_X0_isEnd) (F : Prom x g mi_X0_isEnd μ0 (some (aI rv)) μ9) {N : Nat} {μ : Mem} (h : f_X0_isEnd_16 N μ = some (rv, μ9)) : V x g 1 0 0 μ 16 [] [] := by
  unfold f_X0_isEnd_16 at h
  refine v_iconst (v := 1) C dX0_isEnd_16 rfl ?_
  refine v_goto (tgt := 21) C dX0_isEnd_17 (by decide) ?_
  exact v_sb (p_X0_isEnd_21 C F h) trivial
set_option maxRecDepth 100000 in
set_option maxHeartbeats 4000000 in
theorem p_X0_isEnd {x : CX} {l : Launch} {g : CG} {rv : Int32} {μ0 μ9 : Mem} (C : Cx x l g mi_X0_isEnd) (F : Prom x g mi_X0_isEnd μ0 (some (aI rv)) μ9) {N : Nat} {a0 : Int32} {μ : Mem} (h : f_X0_isEnd N a0 μ = some (rv, μ9)) : V x g 1 0 0 μ 0 [(0, aI a0)] [] := by
  unfold f_X0_isEnd at h
  refine v_iload_n C dX0_isEnd_0 rfl ?_
  refine v_bipush (v := 59) C dX0_isEnd_1 rfl ?_
  refine v_icmp_eq (tgt := 16) C dX0_isEnd_3 (by decide) (fun c => ?_) (fun c => ?_)
  · replace h := ifT h c
    exact v_sb (p_X0_isEnd_16 C F h) trivial
  · replace h := ifF h c
    refine v_iload_n C dX0_isEnd_6 rfl ?_
    refine v_bipush (v := 10) C dX0_isEnd_7 rfl ?_
    refine v_icmp_eq (tgt := 16) C dX0_isEnd_9 (by decide) (fun c => ?_) (fun c => ?_)
    · replace h := ifT h c
      exact v_sb (p_X0_isEnd_16 C F h) trivial
    · replace h := ifF h c
      refine v_iload_n C dX0_isEnd_12 rfl ?_
      refine v_if_ne (tgt := 20) C dX0_isEnd_13 (by decide) (fun c => ?_) (fun c => ?_)
      · replace h := ifT h c
        refine v_iconst (v := 0) C dX0_isEnd_20 rfl ?_
        exact v_sb (p_X0_isEnd_21 C F h) trivial
      · replace h := ifF h c
        exact v_sb (p_X0_isEnd_16 C F h) trivial
set_option maxRecDepth 100000 in
set_option maxHeartbeats 4000000 in
theorem c_X0_isEnd (l : Launch) (g : CG) (N : Nat) (a0 : Int32) (μ : Mem) (rv : Int32) (μ9 : Mem) (h : f_X0_isEnd N a0 μ = some (rv, μ9)) : Ct l yX0_isEnd mi_X0_isEnd g [aI a0] μ (some (aI rv)) μ9 := ct_of ⟨by decide, rfl, rfl⟩ (Nat.le_of_ble_eq_true rfl) fun x C F => p_X0_isEnd C F h
def f_X0_isStatementName_14 (N : Nat) (s0 : Int32) (μ : Mem) : Option (Int32 × Mem) :=
  retZ s0 μ
def f_X0_isStatementName_13 (N : Nat) (μ : Mem) : Option (Int32 × Mem) :=
  f_X0_isStatementName_14 N 0 μ
def f_X0_isStatementName (N : Nat) (a0 : Int32) (μ : Mem) : Option (Int32 × Mem) :=
  if a0 < 0 then
    f_X0_isStatementName_13 N μ
  else
    if (4 : Int32) < a0 then
      f_X0_isStatementName_13 N μ
    else
      f_X0_isStatementName_14 N 1 μ
set_option maxRecDepth 100000 in
set_option maxHeartbeats 4000000 in
theorem p_X0_isStatementName_14 {x : CX} {l : Launch} {g : CG} {rv : Int32} {μ0 μ9 : Mem} (C : Cx x l g mi_X0_isStatementName) (F : Prom x g mi_X0_isStatementName μ0 (some (aI rv)) μ9) {N : Nat} {s0 : Int32} {μ : Mem} (h : f_X0_isStatementName_14 N s0 μ = some (rv, μ9)) : V x g 1 0 0 μ 14 [] [aI s0] := by
  unfold f_X0_isStatementName_14 at h
  exact v_zret C F ⟨rfl, rfl, Nat.le_refl _⟩ dX0_isStatementName_14 h
set_option maxRecDepth 100000 in
set_option maxHeartbeats 4000000 in
theorem p_X0_isStatementName_13 {x : CX} {l : Launch} {g : CG} {rv : Int32} {μ0 μ9 : Mem} (C : Cx x l g mi_X0_isStatementName) (F : Prom x g mi_X0_isStatementName μ0 (some (aI rv)) μ9) {N : Nat} {μ : Mem} (h : f_X0_isStatementName_13 N μ = some (rv, μ9)) : V x g 1 0 0 μ 13 [] [] := by
  unfold f_X0_isStatementName_13 at h
  refine v_iconst (v := 0) C dX0_isStatementName_13 rfl ?_
  exact v_sb (p_X0_isStatementName_14 C F h) trivial
set_option maxRecDepth 100000 in
set_option maxHeartbeats 4000000 in
theorem p_X0_isStatementName {x : CX} {l : Launch} {g : CG} {rv : Int32} {μ0 μ9 : Mem} (C : Cx x l g mi_X0_isStatementName) (F : Prom x g mi_X0_isStatementName μ0 (some (aI rv)) μ9) {N : Nat} {a0 : Int32} {μ : Mem} (h : f_X0_isStatementName N a0 μ = some (rv, μ9)) : V x g 1 0 0 μ 0 [(0, aI a0)] [] := by
  unfold f_X0_isStatementName at h
  refine v_iload_n C dX0_isStatementName_0 rfl ?_
  refine v_if_lt (tgt := 13) C dX0_isStatementName_1 (by decide) (fun c => ?_) (fun c => ?_)
  · replace h := ifT h c
    exact v_sb (p_X0_isStatementName_13 C F h) trivial
  · replace h := ifF h c
    refine v_iload_n C dX0_isStatementName_4 rfl ?_
    refine v_iconst (v := 4) C dX0_isStatementName_5 rfl ?_
    refine v_icmp_gt (tgt := 13) C dX0_isStatementName_6 (by decide) (fun c => ?_) (fun c => ?_)
    · replace h := ifT h c
      exact v_sb (p_X0_isStatementName_13 C F h) trivial
    · replace h := ifF h c
      refine v_iconst (v := 1) C dX0_isStatementName_9 rfl ?_
      refine v_goto (tgt := 14) C dX0_isStatementName_10 (by decide) ?_
      exact v_sb (p_X0_isStatementName_14 C F h) trivial
set_option maxRecDepth 100000 in
set_option maxHeartbeats 4000000 in
theorem c_X0_isStatementName (l : Launch) (g : CG) (N : Nat) (a0 : Int32) (μ : Mem) (rv : Int32) (μ9 : Mem) (h : f_X0_isStatementName N a0 μ = some (rv, μ9)) : Ct l yX0_isStatementName mi_X0_isStatementName g [aI a0] μ (some (aI rv)) μ9 := ct_of ⟨by decide, rfl, rfl⟩ (Nat.le_of_ble_eq_true rfl) fun x C F => p_X0_isStatementName C F h
def f_X0_beginsValue_58 (N : Nat) (s0 : Int32) (μ : Mem) : Option (Int32 × Mem) :=
  retZ s0 μ
def f_X0_beginsValue_53 (N : Nat) (μ : Mem) : Option (Int32 × Mem) :=
  f_X0_beginsValue_58 N 1 μ
def f_X0_beginsValue_30 (N : Nat) (s0 : Int32) (μ : Mem) : Option (Int32 × Mem) :=
  retZ s0 μ
def f_X0_beginsValue (N : Nat) (a0 : Option Nat) (a1 : Int32) (μ : Mem) : Option (Int32 × Mem) :=
  (mck μ a0 0).bind fun b2 =>
  (f_X0_kindAt N (some b2) a1 μ).bind fun q1 =>
  if ¬ q1.1 = (1 : Int32) then
    if q1.1 = (2 : Int32) then
      f_X0_beginsValue_53 N q1.2
    else
      if q1.1 = (3 : Int32) then
        f_X0_beginsValue_53 N q1.2
      else
        if q1.1 = (46 : Int32) then
          f_X0_beginsValue_53 N q1.2
        else
          if ¬ q1.1 = (45 : Int32) then
            f_X0_beginsValue_58 N 0 q1.2
          else
            f_X0_beginsValue_53 N q1.2
  else
    (mfR q1.2 a0 0 1).bind fun v3 =>
    (mck q1.2 v3 9).bind fun b5 =>
    (f_X9_valueOf N (some b5) a1 q1.2).bind fun q4 =>
    (f_X0_isStatementName N q4.1 q4.2).bind fun q6 =>
    if ¬ q6.1 = 0 then
      f_X0_beginsValue_30 N 0 q6.2
    else
      f_X0_beginsValue_30 N 1 q6.2
set_option maxRecDepth 100000 in
set_option maxHeartbeats 4000000 in
theorem p_X0_beginsValue_58 {x : CX} {l : Launch} {g : CG} {rv : Int32} {μ0 μ9 : Mem} (C : Cx x l g mi_X0_beginsValue) (F : Prom x g mi_X0_beginsValue μ0 (some (aI rv)) μ9) {N : Nat} {s0 : Int32} {μ : Mem} (h : f_X0_beginsValue_58 N s0 μ = some (rv, μ9)) : V x g 3 0 0 μ 58 [] [aI s0] := by
  unfold f_X0_beginsValue_58 at h
  exact v_zret C F ⟨rfl, rfl, Nat.le_refl _⟩ dX0_beginsValue_58 h
set_option maxRecDepth 100000 in
set_option maxHeartbeats 4000000 in
theorem p_X0_beginsValue_53 {x : CX} {l : Launch} {g : CG} {rv : Int32} {μ0 μ9 : Mem} (C : Cx x l g mi_X0_beginsValue) (F : Prom x g mi_X0_beginsValue μ0 (some (aI rv)) μ9) {N : Nat} {μ : Mem} (h : f_X0_beginsValue_53 N μ = some (rv, μ9)) : V x g 3 0 0 μ 53 [] [] := by
  unfold f_X0_beginsValue_53 at h
  refine v_iconst (v := 1) C dX0_beginsValue_53 rfl ?_
  refine v_goto (tgt := 58) C dX0_beginsValue_54 (by decide) ?_
  exact v_sb (p_X0_beginsValue_58 C F h) trivial
set_option maxRecDepth 100000 in
set_option maxHeartbeats 4000000 in
theorem p_X0_beginsValue_30 {x : CX} {l : Launch} {g : CG} {rv : Int32} {μ0 μ9 : Mem} (C : Cx x l g mi_X0_beginsValue) (F : Prom x g mi_X0_beginsValue μ0 (some (aI rv)) μ9) {N : Nat} {s0 : Int32} {μ : Mem} (h : f_X0_beginsValue_30 N s0 μ = some (rv, μ9)) : V x g 3 0 0 μ 30 [] [aI s0] := by
  unfold f_X0_beginsValue_30 at h
  exact v_zret C F ⟨rfl, rfl, Nat.le_refl _⟩ dX0_beginsValue_30 h
set_option maxRecDepth 100000 in
set_option maxHeartbeats 4000000 in
theorem p_X0_beginsValue {x : CX} {l : Launch} {g : CG} {rv : Int32} {μ0 μ9 : Mem} (C : Cx x l g mi_X0_beginsValue) (F : Prom x g mi_X0_beginsValue μ0 (some (aI rv)) μ9) {N : Nat} {a0 : Option Nat} {a1 : Int32} {μ : Mem} (h : f_X0_beginsValue N a0 a1 μ = some (rv, μ9)) : V x g 3 0 0 μ 0 [(0, aR a0), (1, aI a1)] [] := by
  unfold f_X0_beginsValue at h
  refine v_aload_n C dX0_beginsValue_0 rfl ?_
  refine v_iload_n C dX0_beginsValue_1 rfl ?_
  obtain ⟨b, e0, h⟩ := ob h
  obtain ⟨q, e, h⟩ := ob h
  refine v_callV (As := [_]) C dX0_beginsValue_2 cf_X0_100 (rm_X0_beginsValue_X0_kindAt) ⟨rfl, rfl⟩ e0 rfl (Nat.le_of_ble_eq_true rfl) (c_X0_kindAt _ _ N _ _ _ q.1 q.2 e) ?_
  refine v_istore_n C dX0_beginsValue_5 (by decide) ?_
  refine v_iload_n C dX0_beginsValue_6 rfl ?_
  refine v_iconst (v := 1) C dX0_beginsValue_7 rfl ?_
  refine v_icmp_ne (tgt := 31) C dX0_beginsValue_8 (by decide) (fun c => ?_) (fun c => ?_)
  · replace h := ifT h c
    refine v_iload_n C dX0_beginsValue_31 rfl ?_
    refine v_iconst (v := 2) C dX0_beginsValue_32 rfl ?_
    refine v_icmp_eq (tgt := 53) C dX0_beginsValue_33 (by decide) (fun c => ?_) (fun c => ?_)
    · replace h := ifT h c
      exact v_sb (p_X0_beginsValue_53 C F h) trivial
    · replace h := ifF h c
      refine v_iload_n C dX0_beginsValue_36 rfl ?_
      refine v_iconst (v := 3) C dX0_beginsValue_37 rfl ?_
      refine v_icmp_eq (tgt := 53) C dX0_beginsValue_38 (by decide) (fun c => ?_) (fun c => ?_)
      · replace h := ifT h c
        exact v_sb (p_X0_beginsValue_53 C F h) trivial
      · replace h := ifF h c
        refine v_iload_n C dX0_beginsValue_41 rfl ?_
        refine v_bipush (v := 46) C dX0_beginsValue_42 rfl ?_
        refine v_icmp_eq (tgt := 53) C dX0_beginsValue_44 (by decide) (fun c => ?_) (fun c => ?_)
        · replace h := ifT h c
          exact v_sb (p_X0_beginsValue_53 C F h) trivial
        · replace h := ifF h c
          refine v_iload_n C dX0_beginsValue_47 rfl ?_
          refine v_bipush (v := 45) C dX0_beginsValue_48 rfl ?_
          refine v_icmp_ne (tgt := 57) C dX0_beginsValue_50 (by decide) (fun c => ?_) (fun c => ?_)
          · replace h := ifT h c
            refine v_iconst (v := 0) C dX0_beginsValue_57 rfl ?_
            exact v_sb (p_X0_beginsValue_58 C F h) trivial
          · replace h := ifF h c
            exact v_sb (p_X0_beginsValue_53 C F h) trivial
  · replace h := ifF h c
    refine v_aload_n C dX0_beginsValue_11 rfl ?_
    obtain ⟨v, e, h⟩ := ob h
    refine v_getR C dX0_beginsValue_12 gf_X0_23 e ?_
    refine v_iload_n C dX0_beginsValue_15 rfl ?_
    obtain ⟨b, e0, h⟩ := ob h
    obtain ⟨q, e, h⟩ := ob h
    refine v_callV (As := [_]) C dX0_beginsValue_16 cf_X0_108 (rm_X0_beginsValue_X9_valueOf) ⟨rfl, rfl⟩ e0 rfl (Nat.le_of_ble_eq_true rfl) (c_X9_valueOf _ _ N _ _ _ q.1 q.2 e) ?_
    obtain ⟨q, e, h⟩ := ob h
    refine v_callS (As := [_]) C dX0_beginsValue_19 cf_X0_157 (rm_X0_beginsValue_X0_isStatementName) ⟨rfl, rfl⟩ rfl (Nat.le_of_ble_eq_true rfl) (c_X0_isStatementName _ _ N _ _ q.1 q.2 e) ?_
    refine v_if_ne (tgt := 29) C dX0_beginsValue_22 (by decide) (fun c => ?_) (fun c => ?_)
    · replace h := ifT h c
      refine v_iconst (v := 0) C dX0_beginsValue_29 rfl ?_
      exact v_sb (p_X0_beginsValue_30 C F h) trivial
    · replace h := ifF h c
      refine v_iconst (v := 1) C dX0_beginsValue_25 rfl ?_
      refine v_goto (tgt := 30) C dX0_beginsValue_26 (by decide) ?_
      exact v_sb (p_X0_beginsValue_30 C F h) trivial
set_option maxRecDepth 100000 in
set_option maxHeartbeats 4000000 in
theorem c_X0_beginsValue (l : Launch) (g : CG) (N : Nat) (a0 : Option Nat) (a1 : Int32) (μ : Mem) (rv : Int32) (μ9 : Mem) (h : f_X0_beginsValue N a0 a1 μ = some (rv, μ9)) : Ct l yX0_beginsValue mi_X0_beginsValue g [aR a0, aI a1] μ (some (aI rv)) μ9 := ct_of ⟨by decide, rfl, rfl⟩ (Nat.le_of_ble_eq_true rfl) fun x C F => p_X0_beginsValue C F h
def f_X0_isLiteralSign_17 (N : Nat) (s0 : Int32) (μ : Mem) : Option (Int32 × Mem) :=
  retZ s0 μ
def f_X0_isLiteralSign_12 (N : Nat) (μ : Mem) : Option (Int32 × Mem) :=
  f_X0_isLiteralSign_17 N 1 μ
def f_X0_isLiteralSign (N : Nat) (a0 : Int32) (μ : Mem) : Option (Int32 × Mem) :=
  if a0 = (40 : Int32) then
    f_X0_isLiteralSign_12 N μ
  else
    if ¬ a0 = (91 : Int32) then
      f_X0_isLiteralSign_17 N 0 μ
    else
      f_X0_isLiteralSign_12 N μ
set_option maxRecDepth 100000 in
set_option maxHeartbeats 4000000 in
theorem p_X0_isLiteralSign_17 {x : CX} {l : Launch} {g : CG} {rv : Int32} {μ0 μ9 : Mem} (C : Cx x l g mi_X0_isLiteralSign) (F : Prom x g mi_X0_isLiteralSign μ0 (some (aI rv)) μ9) {N : Nat} {s0 : Int32} {μ : Mem} (h : f_X0_isLiteralSign_17 N s0 μ = some (rv, μ9)) : V x g 1 0 0 μ 17 [] [aI s0] := by
  unfold f_X0_isLiteralSign_17 at h
  exact v_zret C F ⟨rfl, rfl, Nat.le_refl _⟩ dX0_isLiteralSign_17 h
set_option maxRecDepth 100000 in
set_option maxHeartbeats 4000000 in
theorem p_X0_isLiteralSign_12 {x : CX} {l : Launch} {g : CG} {rv : Int32} {μ0 μ9 : Mem} (C : Cx x l g mi_X0_isLiteralSign) (F : Prom x g mi_X0_isLiteralSign μ0 (some (aI rv)) μ9) {N : Nat} {μ : Mem} (h : f_X0_isLiteralSign_12 N μ = some (rv, μ9)) : V x g 1 0 0 μ 12 [] [] := by
  unfold f_X0_isLiteralSign_12 at h
  refine v_iconst (v := 1) C dX0_isLiteralSign_12 rfl ?_
  refine v_goto (tgt := 17) C dX0_isLiteralSign_13 (by decide) ?_
  exact v_sb (p_X0_isLiteralSign_17 C F h) trivial
set_option maxRecDepth 100000 in
set_option maxHeartbeats 4000000 in
theorem p_X0_isLiteralSign {x : CX} {l : Launch} {g : CG} {rv : Int32} {μ0 μ9 : Mem} (C : Cx x l g mi_X0_isLiteralSign) (F : Prom x g mi_X0_isLiteralSign μ0 (some (aI rv)) μ9) {N : Nat} {a0 : Int32} {μ : Mem} (h : f_X0_isLiteralSign N a0 μ = some (rv, μ9)) : V x g 1 0 0 μ 0 [(0, aI a0)] [] := by
  unfold f_X0_isLiteralSign at h
  refine v_iload_n C dX0_isLiteralSign_0 rfl ?_
  refine v_bipush (v := 40) C dX0_isLiteralSign_1 rfl ?_
  refine v_icmp_eq (tgt := 12) C dX0_isLiteralSign_3 (by decide) (fun c => ?_) (fun c => ?_)
  · replace h := ifT h c
    exact v_sb (p_X0_isLiteralSign_12 C F h) trivial
  · replace h := ifF h c
    refine v_iload_n C dX0_isLiteralSign_6 rfl ?_
    refine v_bipush (v := 91) C dX0_isLiteralSign_7 rfl ?_
    refine v_icmp_ne (tgt := 16) C dX0_isLiteralSign_9 (by decide) (fun c => ?_) (fun c => ?_)
    · replace h := ifT h c
      refine v_iconst (v := 0) C dX0_isLiteralSign_16 rfl ?_
      exact v_sb (p_X0_isLiteralSign_17 C F h) trivial
    · replace h := ifF h c
      exact v_sb (p_X0_isLiteralSign_12 C F h) trivial
set_option maxRecDepth 100000 in
set_option maxHeartbeats 4000000 in
theorem c_X0_isLiteralSign (l : Launch) (g : CG) (N : Nat) (a0 : Int32) (μ : Mem) (rv : Int32) (μ9 : Mem) (h : f_X0_isLiteralSign N a0 μ = some (rv, μ9)) : Ct l yX0_isLiteralSign mi_X0_isLiteralSign g [aI a0] μ (some (aI rv)) μ9 := ct_of ⟨by decide, rfl, rfl⟩ (Nat.le_of_ble_eq_true rfl) fun x C F => p_X0_isLiteralSign C F h
def f_X0_beginsPart_24 (N : Nat) (s0 : Int32) (μ : Mem) : Option (Int32 × Mem) :=
  retZ s0 μ
def f_X0_beginsPart_19 (N : Nat) (μ : Mem) : Option (Int32 × Mem) :=
  f_X0_beginsPart_24 N 1 μ
def f_X0_beginsPart (N : Nat) (a0 : Option Nat) (a1 : Int32) (μ : Mem) : Option (Int32 × Mem) :=
  (mck μ a0 0).bind fun b2 =>
  (f_X0_beginsValue N (some b2) a1 μ).bind fun q1 =>
  if ¬ q1.1 = 0 then
    f_X0_beginsPart_19 N q1.2
  else
    (mck q1.2 a0 0).bind fun b4 =>
    (f_X0_kindAt N (some b4) a1 q1.2).bind fun q3 =>
    (f_X0_isLiteralSign N q3.1 q3.2).bind fun q5 =>
    if q5.1 = 0 then
      f_X0_beginsPart_24 N 0 q5.2
    else
      f_X0_beginsPart_19 N q5.2
set_option maxRecDepth 100000 in
set_option maxHeartbeats 4000000 in
theorem p_X0_beginsPart_24 {x : CX} {l : Launch} {g : CG} {rv : Int32} {μ0 μ9 : Mem} (C : Cx x l g mi_X0_beginsPart) (F : Prom x g mi_X0_beginsPart μ0 (some (aI rv)) μ9) {N : Nat} {s0 : Int32} {μ : Mem} (h : f_X0_beginsPart_24 N s0 μ = some (rv, μ9)) : V x g 2 0 0 μ 24 [] [aI s0] := by
  unfold f_X0_beginsPart_24 at h
  exact v_zret C F ⟨rfl, rfl, Nat.le_refl _⟩ dX0_beginsPart_24 h
set_option maxRecDepth 100000 in
set_option maxHeartbeats 4000000 in
theorem p_X0_beginsPart_19 {x : CX} {l : Launch} {g : CG} {rv : Int32} {μ0 μ9 : Mem} (C : Cx x l g mi_X0_beginsPart) (F : Prom x g mi_X0_beginsPart μ0 (some (aI rv)) μ9) {N : Nat} {μ : Mem} (h : f_X0_beginsPart_19 N μ = some (rv, μ9)) : V x g 2 0 0 μ 19 [] [] := by
  unfold f_X0_beginsPart_19 at h
  refine v_iconst (v := 1) C dX0_beginsPart_19 rfl ?_
  refine v_goto (tgt := 24) C dX0_beginsPart_20 (by decide) ?_
  exact v_sb (p_X0_beginsPart_24 C F h) trivial
set_option maxRecDepth 100000 in
set_option maxHeartbeats 4000000 in
theorem p_X0_beginsPart {x : CX} {l : Launch} {g : CG} {rv : Int32} {μ0 μ9 : Mem} (C : Cx x l g mi_X0_beginsPart) (F : Prom x g mi_X0_beginsPart μ0 (some (aI rv)) μ9) {N : Nat} {a0 : Option Nat} {a1 : Int32} {μ : Mem} (h : f_X0_beginsPart N a0 a1 μ = some (rv, μ9)) : V x g 2 0 0 μ 0 [(0, aR a0), (1, aI a1)] [] := by
  unfold f_X0_beginsPart at h
  refine v_aload_n C dX0_beginsPart_0 rfl ?_
  refine v_iload_n C dX0_beginsPart_1 rfl ?_
  obtain ⟨b, e0, h⟩ := ob h
  obtain ⟨q, e, h⟩ := ob h
  refine v_callV (As := [_]) C dX0_beginsPart_2 cf_X0_167 (rm_X0_beginsPart_X0_beginsValue) ⟨rfl, rfl⟩ e0 rfl (Nat.le_of_ble_eq_true rfl) (c_X0_beginsValue _ _ N _ _ _ q.1 q.2 e) ?_
  refine v_if_ne (tgt := 19) C dX0_beginsPart_5 (by decide) (fun c => ?_) (fun c => ?_)
  · replace h := ifT h c
    exact v_sb (p_X0_beginsPart_19 C F h) trivial
  · replace h := ifF h c
    refine v_aload_n C dX0_beginsPart_8 rfl ?_
    refine v_iload_n C dX0_beginsPart_9 rfl ?_
    obtain ⟨b, e0, h⟩ := ob h
    obtain ⟨q, e, h⟩ := ob h
    refine v_callV (As := [_]) C dX0_beginsPart_10 cf_X0_100 (rm_X0_beginsPart_X0_kindAt) ⟨rfl, rfl⟩ e0 rfl (Nat.le_of_ble_eq_true rfl) (c_X0_kindAt _ _ N _ _ _ q.1 q.2 e) ?_
    obtain ⟨q, e, h⟩ := ob h
    refine v_callS (As := [_]) C dX0_beginsPart_13 cf_X0_190 (rm_X0_beginsPart_X0_isLiteralSign) ⟨rfl, rfl⟩ rfl (Nat.le_of_ble_eq_true rfl) (c_X0_isLiteralSign _ _ N _ _ q.1 q.2 e) ?_
    refine v_if_eq (tgt := 23) C dX0_beginsPart_16 (by decide) (fun c => ?_) (fun c => ?_)
    · replace h := ifT h c
      refine v_iconst (v := 0) C dX0_beginsPart_23 rfl ?_
      exact v_sb (p_X0_beginsPart_24 C F h) trivial
    · replace h := ifF h c
      exact v_sb (p_X0_beginsPart_19 C F h) trivial
set_option maxRecDepth 100000 in
set_option maxHeartbeats 4000000 in
theorem c_X0_beginsPart (l : Launch) (g : CG) (N : Nat) (a0 : Option Nat) (a1 : Int32) (μ : Mem) (rv : Int32) (μ9 : Mem) (h : f_X0_beginsPart N a0 a1 μ = some (rv, μ9)) : Ct l yX0_beginsPart mi_X0_beginsPart g [aR a0, aI a1] μ (some (aI rv)) μ9 := ct_of ⟨by decide, rfl, rfl⟩ (Nat.le_of_ble_eq_true rfl) fun x C F => p_X0_beginsPart C F h
def f_X0_kindOfNamed_110 (N : Nat) (s0 : Int32) (μ : Mem) : Option (Int32 × Mem) :=
  some (s0, μ)
def f_X0_kindOfNamed_109 (N : Nat) (μ : Mem) : Option (Int32 × Mem) :=
  f_X0_kindOfNamed_110 N 1 μ
def f_X0_kindOfNamed_94 (N : Nat) (a2 : Int32) (s0 : Int32) (μ : Mem) : Option (Int32 × Mem) :=
  if s0 = 0 then
    f_X0_kindOfNamed_109 N μ
  else
    if a2 = 0 then
      f_X0_kindOfNamed_109 N μ
    else
      f_X0_kindOfNamed_110 N 257 μ
def f_X0_kindOfNamed_93 (N : Nat) (a2 : Int32) (μ : Mem) : Option (Int32 × Mem) :=
  f_X0_kindOfNamed_94 N a2 0 μ
def f_X0_kindOfNamed_77 (N : Nat) (a1 : Int32) (s0 : Int32) (μ : Mem) : Option (Int32 × Mem) :=
  if a1 < (5 : Int32) then
    f_X0_kindOfNamed_93 N s0 μ
  else
    if (10 : Int32) < a1 then
      f_X0_kindOfNamed_93 N s0 μ
    else
      f_X0_kindOfNamed_94 N s0 1 μ
def f_X0_kindOfNamed_76 (N : Nat) (a1 : Int32) (μ : Mem) : Option (Int32 × Mem) :=
  f_X0_kindOfNamed_77 N a1 0 μ
def f_X0_kindOfNamed (N : Nat) (a0 : Option Nat) (μ : Mem) : Option (Int32 × Mem) :=
  (mfR μ a0 0 1).bind fun v1 =>
  (mfI μ a0 0 9).bind fun v2 =>
  (mck μ v1 9).bind fun b4 =>
  (f_X9_valueOf N (some b4) v2 μ).bind fun q3 =>
  (mfI q3.2 a0 0 9).bind fun v5 =>
  (mck q3.2 a0 0).bind fun b7 =>
  (f_X0_kindAt N (some b7) (v5 + 1) q3.2).bind fun q6 =>
  if ¬ q6.1 = (61 : Int32) then
    (f_X0_isStatementName N q3.1 q6.2).bind fun q8 =>
    if q8.1 = 0 then
      (mfI q8.2 a0 0 9).bind fun v9 =>
      (mck q8.2 a0 0).bind fun b11 =>
      (f_X0_kindAt N (some b11) (v9 + 1) q8.2).bind fun q10 =>
      if q10.1 = (45 : Int32) then
        f_X0_kindOfNamed_76 N q3.1 q10.2
      else
        (mfI q10.2 a0 0 9).bind fun v12 =>
        (mck q10.2 a0 0).bind fun b14 =>
        (f_X0_beginsPart N (some b14) (v12 + 1) q10.2).bind fun q13 =>
        if q13.1 = 0 then
          f_X0_kindOfNamed_76 N q3.1 q13.2
        else
          f_X0_kindOfNamed_77 N q3.1 1 q13.2
    else
      some (300 + q3.1, q8.2)
  else
    some (256, q6.2)
set_option maxRecDepth 100000 in
set_option maxHeartbeats 4000000 in
theorem p_X0_kindOfNamed_110 {x : CX} {l : Launch} {g : CG} {rv : Int32} {μ0 μ9 : Mem} (C : Cx x l g mi_X0_kindOfNamed) (F : Prom x g mi_X0_kindOfNamed μ0 (some (aI rv)) μ9) {N : Nat} {s0 : Int32} {μ : Mem} (h : f_X0_kindOfNamed_110 N s0 μ = some (rv, μ9)) : V x g 4 0 0 μ 110 [] [aI s0] := by
  unfold f_X0_kindOfNamed_110 at h
  exact v_iret C F ⟨rfl, rfl, Nat.le_refl _⟩ dX0_kindOfNamed_110 h
set_option maxRecDepth 100000 in
set_option maxHeartbeats 4000000 in
theorem p_X0_kindOfNamed_109 {x : CX} {l : Launch} {g : CG} {rv : Int32} {μ0 μ9 : Mem} (C : Cx x l g mi_X0_kindOfNamed) (F : Prom x g mi_X0_kindOfNamed μ0 (some (aI rv)) μ9) {N : Nat} {μ : Mem} (h : f_X0_kindOfNamed_109 N μ = some (rv, μ9)) : V x g 4 0 0 μ 109 [] [] := by
  unfold f_X0_kindOfNamed_109 at h
  refine v_iconst (v := 1) C dX0_kindOfNamed_109 rfl ?_
  exact v_sb (p_X0_kindOfNamed_110 C F h) trivial
set_option maxRecDepth 100000 in
set_option maxHeartbeats 4000000 in
theorem p_X0_kindOfNamed_94 {x : CX} {l : Launch} {g : CG} {rv : Int32} {μ0 μ9 : Mem} (C : Cx x l g mi_X0_kindOfNamed) (F : Prom x g mi_X0_kindOfNamed μ0 (some (aI rv)) μ9) {N : Nat} {a2 : Int32} {s0 : Int32} {μ : Mem} (h : f_X0_kindOfNamed_94 N a2 s0 μ = some (rv, μ9)) : V x g 4 0 0 μ 94 [(2, aI a2)] [aI s0] := by
  unfold f_X0_kindOfNamed_94 at h
  refine v_istore_n C dX0_kindOfNamed_94 (by decide) ?_
  refine v_iload_n C dX0_kindOfNamed_95 rfl ?_
  refine v_if_eq (tgt := 109) C dX0_kindOfNamed_96 (by decide) (fun c => ?_) (fun c => ?_)
  · replace h := ifT h c
    exact v_sb (p_X0_kindOfNamed_109 C F h) trivial
  · replace h := ifF h c
    refine v_iload_n C dX0_kindOfNamed_99 rfl ?_
    refine v_if_eq (tgt := 109) C dX0_kindOfNamed_100 (by decide) (fun c => ?_) (fun c => ?_)
    · replace h := ifT h c
      exact v_sb (p_X0_kindOfNamed_109 C F h) trivial
    · replace h := ifF h c
      refine v_sipush (v := 257) C dX0_kindOfNamed_103 rfl ?_
      refine v_goto (tgt := 110) C dX0_kindOfNamed_106 (by decide) ?_
      exact v_sb (p_X0_kindOfNamed_110 C F h) trivial
set_option maxRecDepth 100000 in
set_option maxHeartbeats 4000000 in
theorem p_X0_kindOfNamed_93 {x : CX} {l : Launch} {g : CG} {rv : Int32} {μ0 μ9 : Mem} (C : Cx x l g mi_X0_kindOfNamed) (F : Prom x g mi_X0_kindOfNamed μ0 (some (aI rv)) μ9) {N : Nat} {a2 : Int32} {μ : Mem} (h : f_X0_kindOfNamed_93 N a2 μ = some (rv, μ9)) : V x g 4 0 0 μ 93 [(2, aI a2)] [] := by
  unfold f_X0_kindOfNamed_93 at h
  refine v_iconst (v := 0) C dX0_kindOfNamed_93 rfl ?_
  exact v_sb (p_X0_kindOfNamed_94 C F h) ⟨rfl, trivial⟩
set_option maxRecDepth 100000 in
set_option maxHeartbeats 4000000 in
theorem p_X0_kindOfNamed_77 {x : CX} {l : Launch} {g : CG} {rv : Int32} {μ0 μ9 : Mem} (C : Cx x l g mi_X0_kindOfNamed) (F : Prom x g mi_X0_kindOfNamed μ0 (some (aI rv)) μ9) {N : Nat} {a1 : Int32} {s0 : Int32} {μ : Mem} (h : f_X0_kindOfNamed_77 N a1 s0 μ = some (rv, μ9)) : V x g 4 0 0 μ 77 [(1, aI a1)] [aI s0] := by
  unfold f_X0_kindOfNamed_77 at h
  refine v_istore_n C dX0_kindOfNamed_77 (by decide) ?_
  refine v_iload_n C dX0_kindOfNamed_78 rfl ?_
  refine v_iconst (v := 5) C dX0_kindOfNamed_79 rfl ?_
  refine v_icmp_lt (tgt := 93) C dX0_kindOfNamed_80 (by decide) (fun c => ?_) (fun c => ?_)
  · replace h := ifT h c
    exact v_sb (p_X0_kindOfNamed_93 C F h) ⟨rfl, trivial⟩
  · replace h := ifF h c
    refine v_iload_n C dX0_kindOfNamed_83 rfl ?_
    refine v_bipush (v := 10) C dX0_kindOfNamed_84 rfl ?_
    refine v_icmp_gt (tgt := 93) C dX0_kindOfNamed_86 (by decide) (fun c => ?_) (fun c => ?_)
    · replace h := ifT h c
      exact v_sb (p_X0_kindOfNamed_93 C F h) ⟨rfl, trivial⟩
    · replace h := ifF h c
      refine v_iconst (v := 1) C dX0_kindOfNamed_89 rfl ?_
      refine v_goto (tgt := 94) C dX0_kindOfNamed_90 (by decide) ?_
      exact v_sb (p_X0_kindOfNamed_94 C F h) ⟨rfl, trivial⟩
set_option maxRecDepth 100000 in
set_option maxHeartbeats 4000000 in
theorem p_X0_kindOfNamed_76 {x : CX} {l : Launch} {g : CG} {rv : Int32} {μ0 μ9 : Mem} (C : Cx x l g mi_X0_kindOfNamed) (F : Prom x g mi_X0_kindOfNamed μ0 (some (aI rv)) μ9) {N : Nat} {a1 : Int32} {μ : Mem} (h : f_X0_kindOfNamed_76 N a1 μ = some (rv, μ9)) : V x g 4 0 0 μ 76 [(1, aI a1)] [] := by
  unfold f_X0_kindOfNamed_76 at h
  refine v_iconst (v := 0) C dX0_kindOfNamed_76 rfl ?_
  exact v_sb (p_X0_kindOfNamed_77 C F h) ⟨rfl, trivial⟩
set_option maxRecDepth 100000 in
set_option maxHeartbeats 4000000 in
theorem p_X0_kindOfNamed {x : CX} {l : Launch} {g : CG} {rv : Int32} {μ0 μ9 : Mem} (C : Cx x l g mi_X0_kindOfNamed) (F : Prom x g mi_X0_kindOfNamed μ0 (some (aI rv)) μ9) {N : Nat} {a0 : Option Nat} {μ : Mem} (h : f_X0_kindOfNamed N a0 μ = some (rv, μ9)) : V x g 4 0 0 μ 0 [(0, aR a0)] [] := by
  unfold f_X0_kindOfNamed at h
  refine v_aload_n C dX0_kindOfNamed_0 rfl ?_
  obtain ⟨v, e, h⟩ := ob h
  refine v_getR C dX0_kindOfNamed_1 gf_X0_23 e ?_
  refine v_aload_n C dX0_kindOfNamed_4 rfl ?_
  obtain ⟨v, e, h⟩ := ob h
  refine v_getI C dX0_kindOfNamed_5 gf_X0_54 e ?_
  obtain ⟨b, e0, h⟩ := ob h
  obtain ⟨q, e, h⟩ := ob h
  refine v_callV (As := [_]) C dX0_kindOfNamed_8 cf_X0_108 (rm_X0_kindOfNamed_X9_valueOf) ⟨rfl, rfl⟩ e0 rfl (Nat.le_of_ble_eq_true rfl) (c_X9_valueOf _ _ N _ _ _ q.1 q.2 e) ?_
  refine v_istore_n C dX0_kindOfNamed_11 (by decide) ?_
  refine v_aload_n C dX0_kindOfNamed_12 rfl ?_
  refine v_aload_n C dX0_kindOfNamed_13 rfl ?_
  obtain ⟨v, e, h⟩ := ob h
  refine v_getI C dX0_kindOfNamed_14 gf_X0_54 e ?_
  refine v_iconst (v := 1) C dX0_kindOfNamed_17 rfl ?_
  refine v_iadd C dX0_kindOfNamed_18 ?_
  obtain ⟨b, e0, h⟩ := ob h
  obtain ⟨q, e, h⟩ := ob h
  refine v_callV (As := [_]) C dX0_kindOfNamed_19 cf_X0_100 (rm_X0_kindOfNamed_X0_kindAt) ⟨rfl, rfl⟩ e0 rfl (Nat.le_of_ble_eq_true rfl) (c_X0_kindAt _ _ N _ _ _ q.1 q.2 e) ?_
  refine v_bipush (v := 61) C dX0_kindOfNamed_22 rfl ?_
  refine v_icmp_ne (tgt := 31) C dX0_kindOfNamed_24 (by decide) (fun c => ?_) (fun c => ?_)
  · replace h := ifT h c
    refine v_iload_n C dX0_kindOfNamed_31 rfl ?_
    obtain ⟨q, e, h⟩ := ob h
    refine v_callS (As := [_]) C dX0_kindOfNamed_32 cf_X0_157 (rm_X0_kindOfNamed_X0_isStatementName) ⟨rfl, rfl⟩ rfl (Nat.le_of_ble_eq_true rfl) (c_X0_isStatementName _ _ N _ _ q.1 q.2 e) ?_
    refine v_if_eq (tgt := 44) C dX0_kindOfNamed_35 (by decide) (fun c => ?_) (fun c => ?_)
    · replace h := ifT h c
      refine v_aload_n C dX0_kindOfNamed_44 rfl ?_
      refine v_aload_n C dX0_kindOfNamed_45 rfl ?_
      obtain ⟨v, e, h⟩ := ob h
      refine v_getI C dX0_kindOfNamed_46 gf_X0_54 e ?_
      refine v_iconst (v := 1) C dX0_kindOfNamed_49 rfl ?_
      refine v_iadd C dX0_kindOfNamed_50 ?_
      obtain ⟨b, e0, h⟩ := ob h
      obtain ⟨q, e, h⟩ := ob h
      refine v_callV (As := [_]) C dX0_kindOfNamed_51 cf_X0_100 (rm_X0_kindOfNamed_X0_kindAt) ⟨rfl, rfl⟩ e0 rfl (Nat.le_of_ble_eq_true rfl) (c_X0_kindAt _ _ N _ _ _ q.1 q.2 e) ?_
      refine v_bipush (v := 45) C dX0_kindOfNamed_54 rfl ?_
      refine v_icmp_eq (tgt := 76) C dX0_kindOfNamed_56 (by decide) (fun c => ?_) (fun c => ?_)
      · replace h := ifT h c
        exact v_sb (p_X0_kindOfNamed_76 C F h) ⟨rfl, trivial⟩
      · replace h := ifF h c
        refine v_aload_n C dX0_kindOfNamed_59 rfl ?_
        refine v_aload_n C dX0_kindOfNamed_60 rfl ?_
        obtain ⟨v, e, h⟩ := ob h
        refine v_getI C dX0_kindOfNamed_61 gf_X0_54 e ?_
        refine v_iconst (v := 1) C dX0_kindOfNamed_64 rfl ?_
        refine v_iadd C dX0_kindOfNamed_65 ?_
        obtain ⟨b, e0, h⟩ := ob h
        obtain ⟨q, e, h⟩ := ob h
        refine v_callV (As := [_]) C dX0_kindOfNamed_66 cf_X0_160 (rm_X0_kindOfNamed_X0_beginsPart) ⟨rfl, rfl⟩ e0 rfl (Nat.le_of_ble_eq_true rfl) (c_X0_beginsPart _ _ N _ _ _ q.1 q.2 e) ?_
        refine v_if_eq (tgt := 76) C dX0_kindOfNamed_69 (by decide) (fun c => ?_) (fun c => ?_)
        · replace h := ifT h c
          exact v_sb (p_X0_kindOfNamed_76 C F h) ⟨rfl, trivial⟩
        · replace h := ifF h c
          refine v_iconst (v := 1) C dX0_kindOfNamed_72 rfl ?_
          refine v_goto (tgt := 77) C dX0_kindOfNamed_73 (by decide) ?_
          exact v_sb (p_X0_kindOfNamed_77 C F h) ⟨rfl, trivial⟩
    · replace h := ifF h c
      refine v_sipush (v := 300) C dX0_kindOfNamed_38 rfl ?_
      refine v_iload_n C dX0_kindOfNamed_41 rfl ?_
      refine v_iadd C dX0_kindOfNamed_42 ?_
      exact v_iret C F ⟨rfl, rfl, Nat.le_refl _⟩ dX0_kindOfNamed_43 h
  · replace h := ifF h c
    refine v_sipush (v := 256) C dX0_kindOfNamed_27 rfl ?_
    exact v_iret C F ⟨rfl, rfl, Nat.le_refl _⟩ dX0_kindOfNamed_30 h
set_option maxRecDepth 100000 in
set_option maxHeartbeats 4000000 in
theorem c_X0_kindOfNamed (l : Launch) (g : CG) (N : Nat) (a0 : Option Nat) (μ : Mem) (rv : Int32) (μ9 : Mem) (h : f_X0_kindOfNamed N a0 μ = some (rv, μ9)) : Ct l yX0_kindOfNamed mi_X0_kindOfNamed g [aR a0] μ (some (aI rv)) μ9 := ct_of ⟨by decide, rfl, rfl⟩ (Nat.le_of_ble_eq_true rfl) fun x C F => p_X0_kindOfNamed C F h
def f_X9_otherOf_22 (N : Nat) (s0 : Int32) (μ : Mem) : Option (Int32 × Mem) :=
  some (s0, μ)
def f_X9_otherOf_12 (N : Nat) (μ : Mem) : Option (Int32 × Mem) :=
  f_X9_otherOf_22 N ((-1)) μ
def f_X9_otherOf (N : Nat) (a0 : Option Nat) (a1 : Int32) (μ : Mem) : Option (Int32 × Mem) :=
  if a1 < 0 then
    f_X9_otherOf_12 N μ
  else
    (mfI μ a0 9 5).bind fun v1 =>
    if a1 < v1 then
      (mfR μ a0 9 4).bind fun v2 =>
      (maI μ 0 v2 a1).bind fun v3 =>
      f_X9_otherOf_22 N v3 μ
    else
      f_X9_otherOf_12 N μ
set_option maxRecDepth 100000 in
set_option maxHeartbeats 4000000 in
theorem p_X9_otherOf_22 {x : CX} {l : Launch} {g : CG} {rv : Int32} {μ0 μ9 : Mem} (C : Cx x l g mi_X9_otherOf) (F : Prom x g mi_X9_otherOf μ0 (some (aI rv)) μ9) {N : Nat} {s0 : Int32} {μ : Mem} (h : f_X9_otherOf_22 N s0 μ = some (rv, μ9)) : V x g 2 0 0 μ 22 [] [aI s0] := by
  unfold f_X9_otherOf_22 at h
  exact v_iret C F ⟨rfl, rfl, Nat.le_refl _⟩ dX9_otherOf_22 h
set_option maxRecDepth 100000 in
set_option maxHeartbeats 4000000 in
theorem p_X9_otherOf_12 {x : CX} {l : Launch} {g : CG} {rv : Int32} {μ0 μ9 : Mem} (C : Cx x l g mi_X9_otherOf) (F : Prom x g mi_X9_otherOf μ0 (some (aI rv)) μ9) {N : Nat} {μ : Mem} (h : f_X9_otherOf_12 N μ = some (rv, μ9)) : V x g 2 0 0 μ 12 [] [] := by
  unfold f_X9_otherOf_12 at h
  refine v_iconst (v := -1) C dX9_otherOf_12 rfl ?_
  refine v_goto (tgt := 22) C dX9_otherOf_13 (by decide) ?_
  exact v_sb (p_X9_otherOf_22 C F h) trivial
set_option maxRecDepth 100000 in
set_option maxHeartbeats 4000000 in
theorem p_X9_otherOf {x : CX} {l : Launch} {g : CG} {rv : Int32} {μ0 μ9 : Mem} (C : Cx x l g mi_X9_otherOf) (F : Prom x g mi_X9_otherOf μ0 (some (aI rv)) μ9) {N : Nat} {a0 : Option Nat} {a1 : Int32} {μ : Mem} (h : f_X9_otherOf N a0 a1 μ = some (rv, μ9)) : V x g 2 0 0 μ 0 [(0, aR a0), (1, aI a1)] [] := by
  unfold f_X9_otherOf at h
  refine v_iload_n C dX9_otherOf_0 rfl ?_
  refine v_if_lt (tgt := 12) C dX9_otherOf_1 (by decide) (fun c => ?_) (fun c => ?_)
  · replace h := ifT h c
    exact v_sb (p_X9_otherOf_12 C F h) trivial
  · replace h := ifF h c
    refine v_iload_n C dX9_otherOf_4 rfl ?_
    refine v_aload_n C dX9_otherOf_5 rfl ?_
    obtain ⟨v, e, h⟩ := ob h
    refine v_getI C dX9_otherOf_6 gf_X9_24 e ?_
    refine v_icmp_lt (tgt := 16) C dX9_otherOf_9 (by decide) (fun c => ?_) (fun c => ?_)
    · replace h := ifT h c
      refine v_aload_n C dX9_otherOf_16 rfl ?_
      obtain ⟨v, e, h⟩ := ob h
      refine v_getR C dX9_otherOf_17 gf_X9_21 e ?_
      refine v_iload_n C dX9_otherOf_20 rfl ?_
      obtain ⟨v, e, h⟩ := ob h
      refine v_iaload C dX9_otherOf_21 e ?_
      exact v_sb (p_X9_otherOf_22 C F h) trivial
    · replace h := ifF h c
      exact v_sb (p_X9_otherOf_12 C F h) trivial
set_option maxRecDepth 100000 in
set_option maxHeartbeats 4000000 in
theorem c_X9_otherOf (l : Launch) (g : CG) (N : Nat) (a0 : Option Nat) (a1 : Int32) (μ : Mem) (rv : Int32) (μ9 : Mem) (h : f_X9_otherOf N a0 a1 μ = some (rv, μ9)) : Ct l yX9_otherOf mi_X9_otherOf g [aR a0, aI a1] μ (some (aI rv)) μ9 := ct_of ⟨by decide, rfl, rfl⟩ (Nat.le_of_ble_eq_true rfl) fun x C F => p_X9_otherOf C F h
def f_X4_valueOf_22 (N : Nat) (s0 : Int32) (μ : Mem) : Option (Int32 × Mem) :=
  some (s0, μ)
def f_X4_valueOf_12 (N : Nat) (μ : Mem) : Option (Int32 × Mem) :=
  f_X4_valueOf_22 N 0 μ
def f_X4_valueOf (N : Nat) (a0 : Option Nat) (a1 : Int32) (μ : Mem) : Option (Int32 × Mem) :=
  if a1 < 0 then
    f_X4_valueOf_12 N μ
  else
    (mfI μ a0 4 3).bind fun v1 =>
    if a1 < v1 then
      (mfR μ a0 4 1).bind fun v2 =>
      (maI μ 0 v2 a1).bind fun v3 =>
      f_X4_valueOf_22 N v3 μ
    else
      f_X4_valueOf_12 N μ
set_option maxRecDepth 100000 in
set_option maxHeartbeats 4000000 in
theorem p_X4_valueOf_22 {x : CX} {l : Launch} {g : CG} {rv : Int32} {μ0 μ9 : Mem} (C : Cx x l g mi_X4_valueOf) (F : Prom x g mi_X4_valueOf μ0 (some (aI rv)) μ9) {N : Nat} {s0 : Int32} {μ : Mem} (h : f_X4_valueOf_22 N s0 μ = some (rv, μ9)) : V x g 2 0 0 μ 22 [] [aI s0] := by
  unfold f_X4_valueOf_22 at h
  exact v_iret C F ⟨rfl, rfl, Nat.le_refl _⟩ dX4_valueOf_22 h
set_option maxRecDepth 100000 in
set_option maxHeartbeats 4000000 in
theorem p_X4_valueOf_12 {x : CX} {l : Launch} {g : CG} {rv : Int32} {μ0 μ9 : Mem} (C : Cx x l g mi_X4_valueOf) (F : Prom x g mi_X4_valueOf μ0 (some (aI rv)) μ9) {N : Nat} {μ : Mem} (h : f_X4_valueOf_12 N μ = some (rv, μ9)) : V x g 2 0 0 μ 12 [] [] := by
  unfold f_X4_valueOf_12 at h
  refine v_iconst (v := 0) C dX4_valueOf_12 rfl ?_
  refine v_goto (tgt := 22) C dX4_valueOf_13 (by decide) ?_
  exact v_sb (p_X4_valueOf_22 C F h) trivial
set_option maxRecDepth 100000 in
set_option maxHeartbeats 4000000 in
theorem p_X4_valueOf {x : CX} {l : Launch} {g : CG} {rv : Int32} {μ0 μ9 : Mem} (C : Cx x l g mi_X4_valueOf) (F : Prom x g mi_X4_valueOf μ0 (some (aI rv)) μ9) {N : Nat} {a0 : Option Nat} {a1 : Int32} {μ : Mem} (h : f_X4_valueOf N a0 a1 μ = some (rv, μ9)) : V x g 2 0 0 μ 0 [(0, aR a0), (1, aI a1)] [] := by
  unfold f_X4_valueOf at h
  refine v_iload_n C dX4_valueOf_0 rfl ?_
  refine v_if_lt (tgt := 12) C dX4_valueOf_1 (by decide) (fun c => ?_) (fun c => ?_)
  · replace h := ifT h c
    exact v_sb (p_X4_valueOf_12 C F h) trivial
  · replace h := ifF h c
    refine v_iload_n C dX4_valueOf_4 rfl ?_
    refine v_aload_n C dX4_valueOf_5 rfl ?_
    obtain ⟨v, e, h⟩ := ob h
    refine v_getI C dX4_valueOf_6 gf_X4_25 e ?_
    refine v_icmp_lt (tgt := 16) C dX4_valueOf_9 (by decide) (fun c => ?_) (fun c => ?_)
    · replace h := ifT h c
      refine v_aload_n C dX4_valueOf_16 rfl ?_
      obtain ⟨v, e, h⟩ := ob h
      refine v_getR C dX4_valueOf_17 gf_X4_19 e ?_
      refine v_iload_n C dX4_valueOf_20 rfl ?_
      obtain ⟨v, e, h⟩ := ob h
      refine v_iaload C dX4_valueOf_21 e ?_
      exact v_sb (p_X4_valueOf_22 C F h) trivial
    · replace h := ifF h c
      exact v_sb (p_X4_valueOf_12 C F h) trivial
set_option maxRecDepth 100000 in
set_option maxHeartbeats 4000000 in
theorem c_X4_valueOf (l : Launch) (g : CG) (N : Nat) (a0 : Option Nat) (a1 : Int32) (μ : Mem) (rv : Int32) (μ9 : Mem) (h : f_X4_valueOf N a0 a1 μ = some (rv, μ9)) : Ct l yX4_valueOf mi_X4_valueOf g [aR a0, aI a1] μ (some (aI rv)) μ9 := ct_of ⟨by decide, rfl, rfl⟩ (Nat.le_of_ble_eq_true rfl) fun x C F => p_X4_valueOf C F h
