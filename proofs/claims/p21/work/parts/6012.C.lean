/-! LAYER 1: X2.endQuantum, X2.process, X2.tick, X11.run, X10.register, X11.user, X1.register, X11.look, X10.fetch, X11.word, X2.slotAt, X11.core (by program) -/
def f_X2_endQuantum_39 (N : Nat) (μ : Mem) : Option (Unit × Mem) :=
  some ((), μ)
def f_X2_endQuantum (N : Nat) (a0 : Option Nat) (a1 : Option Nat) (μ : Mem) : Option (Unit × Mem) :=
  (mck μ a0 2).bind fun b2 =>
  (f_X2_endTurn N (some b2) a1 μ).bind fun q1 =>
  (mfR q1.2 a0 2 2).bind fun v3 =>
  (mfI q1.2 v3 5 1).bind fun v4 =>
  if v4 ≤ 0 then
    (mpR q1.2 a0 2 8 a1).bind fun μ5 =>
    (mfI μ5 a0 2 5).bind fun v6 =>
    (mpI μ5 a0 2 9 v6).bind fun μ7 =>
    f_X2_endQuantum_39 N μ7
  else
    (mfR q1.2 a0 2 2).bind fun v8 =>
    (mck q1.2 v8 5).bind fun b10 =>
    (f_X5_append N (some b10) a1 q1.2).bind fun q9 =>
    f_X2_endQuantum_39 N q9.2
set_option maxRecDepth 100000 in
set_option maxHeartbeats 4000000 in
theorem p_X2_endQuantum_39 {x : CX} {l : Launch} {g : CG} {rv : Unit} {μ0 μ9 : Mem} (C : Cx x l g mi_X2_endQuantum) (F : Prom x g mi_X2_endQuantum μ0 none μ9) {N : Nat} {μ : Mem} (h : f_X2_endQuantum_39 N μ = some (rv, μ9)) : V x g 2 0 0 μ 39 [] [] := by
  unfold f_X2_endQuantum_39 at h
  exact v_vret C F ⟨rfl, rfl, Nat.le_refl _⟩ dX2_endQuantum_39 h
set_option maxRecDepth 100000 in
set_option maxHeartbeats 4000000 in
theorem p_X2_endQuantum {x : CX} {l : Launch} {g : CG} {rv : Unit} {μ0 μ9 : Mem} (C : Cx x l g mi_X2_endQuantum) (F : Prom x g mi_X2_endQuantum μ0 none μ9) {N : Nat} {a0 : Option Nat} {a1 : Option Nat} {μ : Mem} (h : f_X2_endQuantum N a0 a1 μ = some (rv, μ9)) : V x g 2 0 0 μ 0 [(0, aR a0), (1, aR a1)] [] := by
  unfold f_X2_endQuantum at h
  refine v_aload_n C dX2_endQuantum_0 rfl ?_
  refine v_aload_n C dX2_endQuantum_1 rfl ?_
  obtain ⟨b, e0, h⟩ := ob h
  obtain ⟨q, e, h⟩ := ob h
  refine v_callV (As := [_]) C dX2_endQuantum_2 cf_X2_115 (rm_X2_endQuantum_X2_endTurn) ⟨rfl, rfl⟩ e0 rfl (Nat.le_of_ble_eq_true rfl) (c_X2_endTurn _ _ N _ _ _ q.1 q.2 e) ?_
  refine v_aload_n C dX2_endQuantum_5 rfl ?_
  obtain ⟨v, e, h⟩ := ob h
  refine v_getR C dX2_endQuantum_6 gf_X2_67 e ?_
  obtain ⟨v, e, h⟩ := ob h
  refine v_getI C dX2_endQuantum_9 gf_X2_241 e ?_
  refine v_if_le (tgt := 26) C dX2_endQuantum_12 (by decide) (fun c => ?_) (fun c => ?_)
  · replace h := ifT h c
    refine v_aload_n C dX2_endQuantum_26 rfl ?_
    refine v_aload_n C dX2_endQuantum_27 rfl ?_
    obtain ⟨m, e, h⟩ := ob h
    refine v_putR C dX2_endQuantum_28 (pf_X2_29 _) rfl e ?_
    refine v_aload_n C dX2_endQuantum_31 rfl ?_
    refine v_aload_n C dX2_endQuantum_32 rfl ?_
    obtain ⟨v, e, h⟩ := ob h
    refine v_getI C dX2_endQuantum_33 gf_X2_71 e ?_
    obtain ⟨m, e, h⟩ := ob h
    refine v_putI C dX2_endQuantum_36 (pf_X2_33 _) e ?_
    exact v_sb (p_X2_endQuantum_39 C F h) trivial
  · replace h := ifF h c
    refine v_aload_n C dX2_endQuantum_15 rfl ?_
    obtain ⟨v, e, h⟩ := ob h
    refine v_getR C dX2_endQuantum_16 gf_X2_67 e ?_
    refine v_aload_n C dX2_endQuantum_19 rfl ?_
    obtain ⟨b, e0, h⟩ := ob h
    obtain ⟨q, e, h⟩ := ob h
    refine v_callV (As := [_]) C dX2_endQuantum_20 cf_X2_108 (rm_X2_endQuantum_X5_append) ⟨rfl, rfl⟩ e0 rfl (Nat.le_of_ble_eq_true rfl) (c_X5_append _ _ N _ _ _ q.1 q.2 e) ?_
    refine v_goto (tgt := 39) C dX2_endQuantum_23 (by decide) ?_
    exact v_sb (p_X2_endQuantum_39 C F h) trivial
set_option maxRecDepth 100000 in
set_option maxHeartbeats 4000000 in
theorem c_X2_endQuantum (l : Launch) (g : CG) (N : Nat) (a0 : Option Nat) (a1 : Option Nat) (μ : Mem) (rv : Unit) (μ9 : Mem) (h : f_X2_endQuantum N a0 a1 μ = some (rv, μ9)) : Ct l yX2_endQuantum mi_X2_endQuantum g [aR a0, aR a1] μ none μ9 := ct_of ⟨by decide, rfl, rfl⟩ (Nat.le_of_ble_eq_true rfl) fun x C F => p_X2_endQuantum C F h
def f_X2_process_27 (N : Nat) (a0 : Option Nat) (μ : Mem) : Option (Unit × Mem) :=
  (mfI μ a0 2 10).bind fun v1 =>
  (mpI μ a0 2 10 (v1 + 1)).bind fun μ2 =>
  some ((), μ2)
def f_X2_process_115 (N : Nat) (μ : Mem) : Option (Unit × Mem) :=
  some ((), μ)
def f_X2_process_77 (N : Nat) (a0 : Option Nat) (a1 : Option Nat) (μ : Mem) : Option (Unit × Mem) :=
  (mfI μ a0 2 9).bind fun v1 =>
  (mpI μ a0 2 9 (v1 - 1)).bind fun μ2 =>
  (mfI μ2 a1 10 8).bind fun v3 =>
  if v3 = (1 : Int32) then
    (mfI μ2 a0 2 9).bind fun v4 =>
    if 0 < v4 then
      f_X2_process_115 N μ2
    else
      (mck μ2 a0 2).bind fun b6 =>
      (f_X2_endQuantum N (some b6) a1 μ2).bind fun q5 =>
      f_X2_process_115 N q5.2
  else
    (mck μ2 a0 2).bind fun b8 =>
    (f_X2_endTurn N (some b8) a1 μ2).bind fun q7 =>
    f_X2_process_115 N q7.2
def f_X2_process_11 (N : Nat) (a0 : Option Nat) (μ : Mem) : Option (Unit × Mem) :=
  (mfR μ a0 2 8).bind fun v1 =>
  if v1 = none then
    f_X2_process_27 N a0 μ
  else
    (mfR μ v1 10 19).bind fun v2 =>
    if ¬ v2 = none then
      (mfR μ a0 2 4).bind fun v3 =>
      (mfR μ v1 10 19).bind fun v4 =>
      (mfI μ a0 2 7).bind fun v5 =>
      (mck μ v3 3).bind fun b7 =>
      (f_X3_step N (some b7) v1 v4 v5 μ).bind fun q6 =>
      if q6.1 = 0 then
        f_X2_process_77 N a0 v1 q6.2
      else
        (mfI q6.2 v1 10 14).bind fun v8 =>
        (mpI q6.2 v1 10 14 (v8 + 1)).bind fun μ9 =>
        (mfI μ9 a0 2 11).bind fun v10 =>
        (mpI μ9 a0 2 11 (v10 + 1)).bind fun μ11 =>
        f_X2_process_77 N a0 v1 μ11
    else
      f_X2_process_27 N a0 μ
def f_X2_process (N : Nat) (a0 : Option Nat) (μ : Mem) : Option (Unit × Mem) :=
  (mfR μ a0 2 8).bind fun v1 =>
  if ¬ v1 = none then
    f_X2_process_11 N a0 μ
  else
    (mck μ a0 2).bind fun b3 =>
    (f_X2_chooseRunning N (some b3) μ).bind fun q2 =>
    f_X2_process_11 N a0 q2.2
set_option maxRecDepth 100000 in
set_option maxHeartbeats 4000000 in
theorem p_X2_process_27 {x : CX} {l : Launch} {g : CG} {rv : Unit} {μ0 μ9 : Mem} (C : Cx x l g mi_X2_process) (F : Prom x g mi_X2_process μ0 none μ9) {N : Nat} {a0 : Option Nat} {μ : Mem} (h : f_X2_process_27 N a0 μ = some (rv, μ9)) : V x g 2 0 0 μ 27 [(0, aR a0)] [] := by
  unfold f_X2_process_27 at h
  refine v_aload_n C dX2_process_27 rfl ?_
  refine v_dup C dX2_process_28 rfl ?_
  obtain ⟨v, e, h⟩ := ob h
  refine v_getI C dX2_process_29 gf_X2_36 e ?_
  refine v_iconst (v := 1) C dX2_process_32 rfl ?_
  refine v_iadd C dX2_process_33 ?_
  obtain ⟨m, e, h⟩ := ob h
  refine v_putI C dX2_process_34 (pf_X2_36 _) e ?_
  exact v_vret C F ⟨rfl, rfl, Nat.le_refl _⟩ dX2_process_37 h
set_option maxRecDepth 100000 in
set_option maxHeartbeats 4000000 in
theorem p_X2_process_115 {x : CX} {l : Launch} {g : CG} {rv : Unit} {μ0 μ9 : Mem} (C : Cx x l g mi_X2_process) (F : Prom x g mi_X2_process μ0 none μ9) {N : Nat} {μ : Mem} (h : f_X2_process_115 N μ = some (rv, μ9)) : V x g 2 0 0 μ 115 [] [] := by
  unfold f_X2_process_115 at h
  exact v_vret C F ⟨rfl, rfl, Nat.le_refl _⟩ dX2_process_115 h
set_option maxRecDepth 100000 in
set_option maxHeartbeats 4000000 in
theorem p_X2_process_77 {x : CX} {l : Launch} {g : CG} {rv : Unit} {μ0 μ9 : Mem} (C : Cx x l g mi_X2_process) (F : Prom x g mi_X2_process μ0 none μ9) {N : Nat} {a0 : Option Nat} {a1 : Option Nat} {μ : Mem} (h : f_X2_process_77 N a0 a1 μ = some (rv, μ9)) : V x g 2 0 0 μ 77 [(0, aR a0), (1, aR a1)] [] := by
  unfold f_X2_process_77 at h
  refine v_aload_n C dX2_process_77 rfl ?_
  refine v_dup C dX2_process_78 rfl ?_
  obtain ⟨v, e, h⟩ := ob h
  refine v_getI C dX2_process_79 gf_X2_33 e ?_
  refine v_iconst (v := 1) C dX2_process_82 rfl ?_
  refine v_isub C dX2_process_83 ?_
  obtain ⟨m, e, h⟩ := ob h
  refine v_putI C dX2_process_84 (pf_X2_33 _) e ?_
  refine v_aload_n C dX2_process_87 rfl ?_
  obtain ⟨v, e, h⟩ := ob h
  refine v_getI C dX2_process_88 gf_X2_77 e ?_
  refine v_iconst (v := 1) C dX2_process_91 rfl ?_
  refine v_icmp_eq (tgt := 103) C dX2_process_92 (by decide) (fun c => ?_) (fun c => ?_)
  · replace h := ifT h c
    refine v_aload_n C dX2_process_103 rfl ?_
    obtain ⟨v, e, h⟩ := ob h
    refine v_getI C dX2_process_104 gf_X2_33 e ?_
    refine v_if_gt (tgt := 115) C dX2_process_107 (by decide) (fun c => ?_) (fun c => ?_)
    · replace h := ifT h c
      exact v_sb (p_X2_process_115 C F h) trivial
    · replace h := ifF h c
      refine v_aload_n C dX2_process_110 rfl ?_
      refine v_aload_n C dX2_process_111 rfl ?_
      obtain ⟨b, e0, h⟩ := ob h
      obtain ⟨q, e, h⟩ := ob h
      refine v_callV (As := [_]) C dX2_process_112 cf_X2_253 (rm_X2_process_X2_endQuantum) ⟨rfl, rfl⟩ e0 rfl (Nat.le_of_ble_eq_true rfl) (c_X2_endQuantum _ _ N _ _ _ q.1 q.2 e) ?_
      exact v_sb (p_X2_process_115 C F h) trivial
  · replace h := ifF h c
    refine v_aload_n C dX2_process_95 rfl ?_
    refine v_aload_n C dX2_process_96 rfl ?_
    obtain ⟨b, e0, h⟩ := ob h
    obtain ⟨q, e, h⟩ := ob h
    refine v_callV (As := [_]) C dX2_process_97 cf_X2_115 (rm_X2_process_X2_endTurn) ⟨rfl, rfl⟩ e0 rfl (Nat.le_of_ble_eq_true rfl) (c_X2_endTurn _ _ N _ _ _ q.1 q.2 e) ?_
    refine v_goto (tgt := 115) C dX2_process_100 (by decide) ?_
    exact v_sb (p_X2_process_115 C F h) trivial
set_option maxRecDepth 100000 in
set_option maxHeartbeats 4000000 in
theorem p_X2_process_11 {x : CX} {l : Launch} {g : CG} {rv : Unit} {μ0 μ9 : Mem} (C : Cx x l g mi_X2_process) (F : Prom x g mi_X2_process μ0 none μ9) {N : Nat} {a0 : Option Nat} {μ : Mem} (h : f_X2_process_11 N a0 μ = some (rv, μ9)) : V x g 2 0 0 μ 11 [(0, aR a0)] [] := by
  unfold f_X2_process_11 at h
  refine v_aload_n C dX2_process_11 rfl ?_
  obtain ⟨v, e, h⟩ := ob h
  refine v_getR C dX2_process_12 gf_X2_29 e ?_
  refine v_astore_n C dX2_process_15 (by decide) ?_
  refine v_aload_n C dX2_process_16 rfl ?_
  refine v_ifnull (tgt := 27) C dX2_process_17 (by decide) (fun c => ?_) (fun c => ?_)
  · replace h := ifT h c
    exact v_sb (p_X2_process_27 C F h) ⟨rfl, trivial⟩
  · replace h := ifF h c
    refine v_aload_n C dX2_process_20 rfl ?_
    obtain ⟨v, e, h⟩ := ob h
    refine v_getR C dX2_process_21 gf_X2_88 e ?_
    refine v_ifnonnull (tgt := 38) C dX2_process_24 (by decide) (fun c => ?_) (fun c => ?_)
    · replace h := ifT h c
      refine v_aload_n C dX2_process_38 rfl ?_
      obtain ⟨v, e, h⟩ := ob h
      refine v_getR C dX2_process_39 gf_X2_21 e ?_
      refine v_aload_n C dX2_process_42 rfl ?_
      refine v_aload_n C dX2_process_43 rfl ?_
      obtain ⟨v, e, h⟩ := ob h
      refine v_getR C dX2_process_44 gf_X2_88 e ?_
      refine v_aload_n C dX2_process_47 rfl ?_
      obtain ⟨v, e, h⟩ := ob h
      refine v_getI C dX2_process_48 gf_X2_25 e ?_
      obtain ⟨b, e0, h⟩ := ob h
      obtain ⟨q, e, h⟩ := ob h
      refine v_callV (As := [_, _, _]) C dX2_process_51 cf_X2_249 (rm_X2_process_X3_step) ⟨rfl, rfl⟩ e0 rfl (Nat.le_of_ble_eq_true rfl) (c_X3_step _ _ N _ _ _ _ _ q.1 q.2 e) ?_
      refine v_if_eq (tgt := 77) C dX2_process_54 (by decide) (fun c => ?_) (fun c => ?_)
      · replace h := ifT h c
        exact v_sb (p_X2_process_77 C F h) ⟨rfl, rfl, trivial⟩
      · replace h := ifF h c
        refine v_aload_n C dX2_process_57 rfl ?_
        refine v_dup C dX2_process_58 rfl ?_
        obtain ⟨v, e, h⟩ := ob h
        refine v_getI C dX2_process_59 gf_X2_204 e ?_
        refine v_iconst (v := 1) C dX2_process_62 rfl ?_
        refine v_iadd C dX2_process_63 ?_
        obtain ⟨m, e, h⟩ := ob h
        refine v_putI C dX2_process_64 (pf_X2_204 _) e ?_
        refine v_aload_n C dX2_process_67 rfl ?_
        refine v_dup C dX2_process_68 rfl ?_
        obtain ⟨v, e, h⟩ := ob h
        refine v_getI C dX2_process_69 gf_X2_39 e ?_
        refine v_iconst (v := 1) C dX2_process_72 rfl ?_
        refine v_iadd C dX2_process_73 ?_
        obtain ⟨m, e, h⟩ := ob h
        refine v_putI C dX2_process_74 (pf_X2_39 _) e ?_
        exact v_sb (p_X2_process_77 C F h) ⟨rfl, rfl, trivial⟩
    · replace h := ifF h c
      exact v_sb (p_X2_process_27 C F h) ⟨rfl, trivial⟩
set_option maxRecDepth 100000 in
set_option maxHeartbeats 4000000 in
theorem p_X2_process {x : CX} {l : Launch} {g : CG} {rv : Unit} {μ0 μ9 : Mem} (C : Cx x l g mi_X2_process) (F : Prom x g mi_X2_process μ0 none μ9) {N : Nat} {a0 : Option Nat} {μ : Mem} (h : f_X2_process N a0 μ = some (rv, μ9)) : V x g 2 0 0 μ 0 [(0, aR a0)] [] := by
  unfold f_X2_process at h
  refine v_aload_n C dX2_process_0 rfl ?_
  obtain ⟨v, e, h⟩ := ob h
  refine v_getR C dX2_process_1 gf_X2_29 e ?_
  refine v_ifnonnull (tgt := 11) C dX2_process_4 (by decide) (fun c => ?_) (fun c => ?_)
  · replace h := ifT h c
    exact v_sb (p_X2_process_11 C F h) ⟨rfl, trivial⟩
  · replace h := ifF h c
    refine v_aload_n C dX2_process_7 rfl ?_
    obtain ⟨b, e0, h⟩ := ob h
    obtain ⟨q, e, h⟩ := ob h
    refine v_callV (As := []) C dX2_process_8 cf_X2_246 (rm_X2_process_X2_chooseRunning) ⟨rfl, rfl⟩ e0 rfl (Nat.le_of_ble_eq_true rfl) (c_X2_chooseRunning _ _ N _ _ q.1 q.2 e) ?_
    exact v_sb (p_X2_process_11 C F h) ⟨rfl, trivial⟩
set_option maxRecDepth 100000 in
set_option maxHeartbeats 4000000 in
theorem c_X2_process (l : Launch) (g : CG) (N : Nat) (a0 : Option Nat) (μ : Mem) (rv : Unit) (μ9 : Mem) (h : f_X2_process N a0 μ = some (rv, μ9)) : Ct l yX2_process mi_X2_process g [aR a0] μ none μ9 := ct_of ⟨by decide, rfl, rfl⟩ (Nat.le_of_ble_eq_true rfl) fun x C F => p_X2_process C F h
def f_X2_tick_109 (N : Nat) (a0 : Option Nat) (μ : Mem) : Option (Unit × Mem) :=
  (mck μ a0 2).bind fun b2 =>
  (f_X2_process N (some b2) μ).bind fun q1 =>
  some ((), q1.2)
def f_X2_tick_95 (N : Nat) (a0 : Option Nat) (μ : Mem) : Option (Unit × Mem) :=
  (mfR μ a0 2 3).bind fun v1 =>
  (mck μ v1 1).bind fun b3 =>
  (f_X1_isIdle N (some b3) μ).bind fun q2 =>
  if q2.1 = 0 then
    f_X2_tick_109 N a0 q2.2
  else
    (mck q2.2 a0 2).bind fun b5 =>
    (f_X2_lookForTask N (some b5) q2.2).bind fun q4 =>
    f_X2_tick_109 N a0 q4.2
def f_X2_tick_51 (N : Nat) (k12 : (Option Nat) → Int32 → Mem → Option (Unit × Mem)) (a0 : Option Nat) (a1 : Int32) (μ : Mem) : Option (Unit × Mem) :=
  k12 a0 (a1 + 1) μ
def f_X2_tick_46 (N : Nat) (k12 : (Option Nat) → Int32 → Mem → Option (Unit × Mem)) (a0 : Option Nat) (a1 : Int32) (a2 : Option Nat) (μ : Mem) : Option (Unit × Mem) :=
  (mck μ a0 2).bind fun b2 =>
  (f_X2_attend N (some b2) a2 μ).bind fun q1 =>
  f_X2_tick_51 N k12 a0 a1 q1.2
def H_X2_tick_12 (N : Nat) (k12 : (Option Nat) → Int32 → Mem → Option (Unit × Mem)) (a0 : Option Nat) (a1 : Int32) (μ : Mem) : Option (Unit × Mem) :=
  (mfR μ a0 2 0).bind fun v1 =>
  (mal μ v1).bind fun v2 =>
  if v2 ≤ a1 then
    (mfR μ a0 2 3).bind fun v3 =>
    (mck μ v3 1).bind fun b5 =>
    (f_X1_isIdle N (some b5) μ).bind fun q4 =>
    if ¬ q4.1 = 0 then
      f_X2_tick_95 N a0 q4.2
    else
      (mfR q4.2 a0 2 3).bind fun v6 =>
      (mck q4.2 v6 1).bind fun b8 =>
      (f_X1_advance N (some b8) q4.2).bind fun q7 =>
      if q7.1 = 0 then
        f_X2_tick_95 N a0 q7.2
      else
        (mfR q7.2 a0 2 3).bind fun v9 =>
        (mfR q7.2 v9 1 1).bind fun v10 =>
        (mfR q7.2 a0 2 3).bind fun v11 =>
        (mfR q7.2 v11 1 2).bind fun v12 =>
        (mck q7.2 a0 2).bind fun b14 =>
        (f_X2_finishTask N (some b14) v10 v12 q7.2).bind fun q13 =>
        f_X2_tick_95 N a0 q13.2
  else
    (mfR μ a0 2 0).bind fun v15 =>
    (maR μ 4 v15 a1).bind fun v16 =>
    (mfI μ v16 10 8).bind fun v17 =>
    if v17 = (4 : Int32) then
      f_X2_tick_46 N k12 a0 a1 v16 μ
    else
      (mfR μ v16 10 5).bind fun v18 =>
      (mfI μ v18 6 2).bind fun v19 =>
      if v19 ≤ 0 then
        f_X2_tick_51 N k12 a0 a1 μ
      else
        f_X2_tick_46 N k12 a0 a1 v16 μ
def L_X2_tick_12 (N : Nat) : Nat → (Option Nat) → Int32 → Mem → Option (Unit × Mem)
  | 0 => fun _ _ _ => none
  | n + 1 => H_X2_tick_12 N (L_X2_tick_12 N n)
def f_X2_tick (N : Nat) (a0 : Option Nat) (μ : Mem) : Option (Unit × Mem) :=
  (mfI μ a0 2 7).bind fun v1 =>
  (mpI μ a0 2 7 (v1 + 1)).bind fun μ2 =>
  L_X2_tick_12 N N a0 0 μ2
set_option maxRecDepth 100000 in
set_option maxHeartbeats 4000000 in
theorem p_X2_tick_109 {x : CX} {l : Launch} {g : CG} {rv : Unit} {μ0 μ9 : Mem} (C : Cx x l g mi_X2_tick) (F : Prom x g mi_X2_tick μ0 none μ9) {N : Nat} {a0 : Option Nat} {μ : Mem} (h : f_X2_tick_109 N a0 μ = some (rv, μ9)) : V x g 3 0 0 μ 109 [(0, aR a0)] [] := by
  unfold f_X2_tick_109 at h
  refine v_aload_n C dX2_tick_109 rfl ?_
  obtain ⟨b, e0, h⟩ := ob h
  obtain ⟨q, e, h⟩ := ob h
  refine v_callV (As := []) C dX2_tick_110 cf_X2_161 (rm_X2_tick_X2_process) ⟨rfl, rfl⟩ e0 rfl (Nat.le_of_ble_eq_true rfl) (c_X2_process _ _ N _ _ q.1 q.2 e) ?_
  exact v_vret C F ⟨rfl, rfl, Nat.le_refl _⟩ dX2_tick_113 h
set_option maxRecDepth 100000 in
set_option maxHeartbeats 4000000 in
theorem p_X2_tick_95 {x : CX} {l : Launch} {g : CG} {rv : Unit} {μ0 μ9 : Mem} (C : Cx x l g mi_X2_tick) (F : Prom x g mi_X2_tick μ0 none μ9) {N : Nat} {a0 : Option Nat} {μ : Mem} (h : f_X2_tick_95 N a0 μ = some (rv, μ9)) : V x g 3 0 0 μ 95 [(0, aR a0)] [] := by
  unfold f_X2_tick_95 at h
  refine v_aload_n C dX2_tick_95 rfl ?_
  obtain ⟨v, e, h⟩ := ob h
  refine v_getR C dX2_tick_96 gf_X2_12 e ?_
  obtain ⟨b, e0, h⟩ := ob h
  obtain ⟨q, e, h⟩ := ob h
  refine v_callV (As := []) C dX2_tick_99 cf_X2_144 (rm_X2_tick_X1_isIdle) ⟨rfl, rfl⟩ e0 rfl (Nat.le_of_ble_eq_true rfl) (c_X1_isIdle _ _ N _ _ q.1 q.2 e) ?_
  refine v_if_eq (tgt := 109) C dX2_tick_102 (by decide) (fun c => ?_) (fun c => ?_)
  · replace h := ifT h c
    exact v_sb (p_X2_tick_109 C F h) ⟨rfl, trivial⟩
  · replace h := ifF h c
    refine v_aload_n C dX2_tick_105 rfl ?_
    obtain ⟨b, e0, h⟩ := ob h
    obtain ⟨q, e, h⟩ := ob h
    refine v_callV (As := []) C dX2_tick_106 cf_X2_158 (rm_X2_tick_X2_lookForTask) ⟨rfl, rfl⟩ e0 rfl (Nat.le_of_ble_eq_true rfl) (c_X2_lookForTask _ _ N _ _ q.1 q.2 e) ?_
    exact v_sb (p_X2_tick_109 C F h) ⟨rfl, trivial⟩
set_option maxRecDepth 100000 in
set_option maxHeartbeats 4000000 in
theorem p_X2_tick_51 {x : CX} {l : Launch} {g : CG} {rv : Unit} {μ0 μ9 : Mem} (C : Cx x l g mi_X2_tick) (F : Prom x g mi_X2_tick μ0 none μ9) {N : Nat} {k12 : (Option Nat) → Int32 → Mem → Option (Unit × Mem)} (hk12 : ∀ (a0 : Option Nat) (a1 : Int32) (μ : Mem), k12 a0 a1 μ = some (rv, μ9) → V x g 3 0 0 μ 12 [(0, aR a0), (1, aI a1)] []) {a0 : Option Nat} {a1 : Int32} {μ : Mem} (h : f_X2_tick_51 N k12 a0 a1 μ = some (rv, μ9)) : V x g 3 0 0 μ 51 [(0, aR a0), (1, aI a1)] [] := by
  unfold f_X2_tick_51 at h
  refine v_iinc (w := 1) C dX2_tick_51 rfl rfl (by decide) ?_
  refine v_goto (tgt := 12) C dX2_tick_54 (by decide) ?_
  exact v_sb (hk12 _ _ _ h) ⟨rfl, rfl, trivial⟩
set_option maxRecDepth 100000 in
set_option maxHeartbeats 4000000 in
theorem p_X2_tick_46 {x : CX} {l : Launch} {g : CG} {rv : Unit} {μ0 μ9 : Mem} (C : Cx x l g mi_X2_tick) (F : Prom x g mi_X2_tick μ0 none μ9) {N : Nat} {k12 : (Option Nat) → Int32 → Mem → Option (Unit × Mem)} (hk12 : ∀ (a0 : Option Nat) (a1 : Int32) (μ : Mem), k12 a0 a1 μ = some (rv, μ9) → V x g 3 0 0 μ 12 [(0, aR a0), (1, aI a1)] []) {a0 : Option Nat} {a1 : Int32} {a2 : Option Nat} {μ : Mem} (h : f_X2_tick_46 N k12 a0 a1 a2 μ = some (rv, μ9)) : V x g 3 0 0 μ 46 [(0, aR a0), (1, aI a1), (2, aR a2)] [] := by
  unfold f_X2_tick_46 at h
  refine v_aload_n C dX2_tick_46 rfl ?_
  refine v_aload_n C dX2_tick_47 rfl ?_
  obtain ⟨b, e0, h⟩ := ob h
  obtain ⟨q, e, h⟩ := ob h
  refine v_callV (As := [_]) C dX2_tick_48 cf_X2_141 (rm_X2_tick_X2_attend) ⟨rfl, rfl⟩ e0 rfl (Nat.le_of_ble_eq_true rfl) (c_X2_attend _ _ N _ _ _ q.1 q.2 e) ?_
  exact v_sb (p_X2_tick_51 C F hk12 h) ⟨rfl, rfl, trivial⟩
set_option maxRecDepth 100000 in
set_option maxHeartbeats 4000000 in
theorem pH_X2_tick_12 {x : CX} {l : Launch} {g : CG} {rv : Unit} {μ0 μ9 : Mem} (C : Cx x l g mi_X2_tick) (F : Prom x g mi_X2_tick μ0 none μ9) {N : Nat} {k12 : (Option Nat) → Int32 → Mem → Option (Unit × Mem)} (hk12 : ∀ (a0 : Option Nat) (a1 : Int32) (μ : Mem), k12 a0 a1 μ = some (rv, μ9) → V x g 3 0 0 μ 12 [(0, aR a0), (1, aI a1)] []) {a0 : Option Nat} {a1 : Int32} {μ : Mem} (h : H_X2_tick_12 N k12 a0 a1 μ = some (rv, μ9)) : V x g 3 0 0 μ 12 [(0, aR a0), (1, aI a1)] [] := by
  unfold H_X2_tick_12 at h
  refine v_iload_n C dX2_tick_12 rfl ?_
  refine v_aload_n C dX2_tick_13 rfl ?_
  obtain ⟨v, e, h⟩ := ob h
  refine v_getR C dX2_tick_14 gf_X2_50 e ?_
  obtain ⟨v, e, h⟩ := ob h
  refine v_alen C dX2_tick_17 e ?_
  refine v_icmp_ge (tgt := 57) C dX2_tick_18 (by decide) (fun c => ?_) (fun c => ?_)
  · replace h := ifT h c
    refine v_aload_n C dX2_tick_57 rfl ?_
    obtain ⟨v, e, h⟩ := ob h
    refine v_getR C dX2_tick_58 gf_X2_12 e ?_
    obtain ⟨b, e0, h⟩ := ob h
    obtain ⟨q, e, h⟩ := ob h
    refine v_callV (As := []) C dX2_tick_61 cf_X2_144 (rm_X2_tick_X1_isIdle) ⟨rfl, rfl⟩ e0 rfl (Nat.le_of_ble_eq_true rfl) (c_X1_isIdle _ _ N _ _ q.1 q.2 e) ?_
    refine v_if_ne (tgt := 95) C dX2_tick_64 (by decide) (fun c => ?_) (fun c => ?_)
    · replace h := ifT h c
      exact v_sb (p_X2_tick_95 C F h) ⟨rfl, trivial⟩
    · replace h := ifF h c
      refine v_aload_n C dX2_tick_67 rfl ?_
      obtain ⟨v, e, h⟩ := ob h
      refine v_getR C dX2_tick_68 gf_X2_12 e ?_
      obtain ⟨b, e0, h⟩ := ob h
      obtain ⟨q, e, h⟩ := ob h
      refine v_callV (As := []) C dX2_tick_71 cf_X2_147 (rm_X2_tick_X1_advance) ⟨rfl, rfl⟩ e0 rfl (Nat.le_of_ble_eq_true rfl) (c_X1_advance _ _ N _ _ q.1 q.2 e) ?_
      refine v_if_eq (tgt := 95) C dX2_tick_74 (by decide) (fun c => ?_) (fun c => ?_)
      · replace h := ifT h c
        exact v_sb (p_X2_tick_95 C F h) ⟨rfl, trivial⟩
      · replace h := ifF h c
        refine v_aload_n C dX2_tick_77 rfl ?_
        refine v_aload_n C dX2_tick_78 rfl ?_
        obtain ⟨v, e, h⟩ := ob h
        refine v_getR C dX2_tick_79 gf_X2_12 e ?_
        obtain ⟨v, e, h⟩ := ob h
        refine v_getR C dX2_tick_82 gf_X2_150 e ?_
        refine v_aload_n C dX2_tick_85 rfl ?_
        obtain ⟨v, e, h⟩ := ob h
        refine v_getR C dX2_tick_86 gf_X2_12 e ?_
        obtain ⟨v, e, h⟩ := ob h
        refine v_getR C dX2_tick_89 gf_X2_153 e ?_
        obtain ⟨b, e0, h⟩ := ob h
        obtain ⟨q, e, h⟩ := ob h
        refine v_callV (As := [_, _]) C dX2_tick_92 cf_X2_154 (rm_X2_tick_X2_finishTask) ⟨rfl, rfl⟩ e0 rfl (Nat.le_of_ble_eq_true rfl) (c_X2_finishTask _ _ N _ _ _ _ q.1 q.2 e) ?_
        exact v_sb (p_X2_tick_95 C F h) ⟨rfl, trivial⟩
  · replace h := ifF h c
    refine v_aload_n C dX2_tick_21 rfl ?_
    obtain ⟨v, e, h⟩ := ob h
    refine v_getR C dX2_tick_22 gf_X2_50 e ?_
    refine v_iload_n C dX2_tick_25 rfl ?_
    obtain ⟨v, e, h⟩ := ob h
    refine v_aaload4 C dX2_tick_26 e ?_
    refine v_astore_n C dX2_tick_27 (by decide) ?_
    refine v_aload_n C dX2_tick_28 rfl ?_
    obtain ⟨v, e, h⟩ := ob h
    refine v_getI C dX2_tick_29 gf_X2_77 e ?_
    refine v_iconst (v := 4) C dX2_tick_32 rfl ?_
    refine v_icmp_eq (tgt := 46) C dX2_tick_33 (by decide) (fun c => ?_) (fun c => ?_)
    · replace h := ifT h c
      exact v_sb (p_X2_tick_46 C F hk12 h) ⟨rfl, rfl, rfl, trivial⟩
    · replace h := ifF h c
      refine v_aload_n C dX2_tick_36 rfl ?_
      obtain ⟨v, e, h⟩ := ob h
      refine v_getR C dX2_tick_37 gf_X2_135 e ?_
      obtain ⟨v, e, h⟩ := ob h
      refine v_getI C dX2_tick_40 gf_X2_138 e ?_
      refine v_if_le (tgt := 51) C dX2_tick_43 (by decide) (fun c => ?_) (fun c => ?_)
      · replace h := ifT h c
        exact v_sb (p_X2_tick_51 C F hk12 h) ⟨rfl, rfl, trivial⟩
      · replace h := ifF h c
        exact v_sb (p_X2_tick_46 C F hk12 h) ⟨rfl, rfl, rfl, trivial⟩
set_option maxRecDepth 100000 in
set_option maxHeartbeats 4000000 in
theorem pL_X2_tick_12 {x : CX} {l : Launch} {g : CG} {rv : Unit} {μ0 μ9 : Mem} (C : Cx x l g mi_X2_tick) (F : Prom x g mi_X2_tick μ0 none μ9) (N : Nat) (n : Nat) : ∀ (a0 : Option Nat) (a1 : Int32) (μ : Mem), L_X2_tick_12 N n a0 a1 μ = some (rv, μ9) → V x g 3 0 0 μ 12 [(0, aR a0), (1, aI a1)] [] := by
  induction n with
  | zero => intro a0 a1 μ h; cases h
  | succ n ih => intro a0 a1 μ h; exact pH_X2_tick_12 C F ih h
set_option maxRecDepth 100000 in
set_option maxHeartbeats 4000000 in
theorem p_X2_tick {x : CX} {l : Launch} {g : CG} {rv : Unit} {μ0 μ9 : Mem} (C : Cx x l g mi_X2_tick) (F : Prom x g mi_X2_tick μ0 none μ9) {N : Nat} {a0 : Option Nat} {μ : Mem} (h : f_X2_tick N a0 μ = some (rv, μ9)) : V x g 3 0 0 μ 0 [(0, aR a0)] [] := by
  unfold f_X2_tick at h
  refine v_aload_n C dX2_tick_0 rfl ?_
  refine v_dup C dX2_tick_1 rfl ?_
  obtain ⟨v, e, h⟩ := ob h
  refine v_getI C dX2_tick_2 gf_X2_25 e ?_
  refine v_iconst (v := 1) C dX2_tick_5 rfl ?_
  refine v_iadd C dX2_tick_6 ?_
  obtain ⟨m, e, h⟩ := ob h
  refine v_putI C dX2_tick_7 (pf_X2_25 _) e ?_
  refine v_iconst (v := 0) C dX2_tick_10 rfl ?_
  refine v_istore_n C dX2_tick_11 (by decide) ?_
  exact v_sb (pL_X2_tick_12 C F N N _ _ _ h) ⟨rfl, rfl, trivial⟩
set_option maxRecDepth 100000 in
set_option maxHeartbeats 4000000 in
theorem c_X2_tick (l : Launch) (g : CG) (N : Nat) (a0 : Option Nat) (μ : Mem) (rv : Unit) (μ9 : Mem) (h : f_X2_tick N a0 μ = some (rv, μ9)) : Ct l yX2_tick mi_X2_tick g [aR a0] μ none μ9 := ct_of ⟨by decide, rfl, rfl⟩ (Nat.le_of_ble_eq_true rfl) fun x C F => p_X2_tick C F h
def f_X11_run_12 (N : Nat) (μ : Mem) : Option (Int32 × Mem) :=
  some ((-1), μ)
def H_X11_run_24 (N : Nat) (k24 : (Option Nat) → Int32 → Int32 → Int32 → Mem → Option (Int32 × Mem)) (a0 : Option Nat) (a1 : Int32) (a2 : Int32) (a3 : Int32) (μ : Mem) : Option (Int32 × Mem) :=
  if a1 ≤ a3 then
    (mfR μ a0 11 3).bind fun v1 =>
    (mfI μ v1 2 11).bind fun v2 =>
    some (v2 - a2, μ)
  else
    (mfR μ a0 11 3).bind fun v3 =>
    (mck μ v3 2).bind fun b5 =>
    (f_X2_tick N (some b5) μ).bind fun q4 =>
    k24 a0 a1 a2 (a3 + 1) q4.2
def L_X11_run_24 (N : Nat) : Nat → (Option Nat) → Int32 → Int32 → Int32 → Mem → Option (Int32 × Mem)
  | 0 => fun _ _ _ _ _ => none
  | n + 1 => H_X11_run_24 N (L_X11_run_24 N n)
def f_X11_run (N : Nat) (a0 : Option Nat) (a1 : Int32) (μ : Mem) : Option (Int32 × Mem) :=
  if a1 < (1 : Int32) then
    f_X11_run_12 N μ
  else
    if a1 ≤ (20000 : Int32) then
      (mfR μ a0 11 3).bind fun v1 =>
      (mfI μ v1 2 11).bind fun v2 =>
      L_X11_run_24 N N a0 a1 v2 0 μ
    else
      f_X11_run_12 N μ
set_option maxRecDepth 100000 in
set_option maxHeartbeats 4000000 in
theorem p_X11_run_12 {x : CX} {l : Launch} {g : CG} {rv : Int32} {μ0 μ9 : Mem} (C : Cx x l g mi_X11_run) (F : Prom x g mi_X11_run μ0 (some (aI rv)) μ9) {N : Nat} {μ : Mem} (h : f_X11_run_12 N μ = some (rv, μ9)) : V x g 4 0 0 μ 12 [] [] := by
  unfold f_X11_run_12 at h
  refine v_iconst (v := -1) C dX11_run_12 rfl ?_
  exact v_iret C F ⟨rfl, rfl, Nat.le_refl _⟩ dX11_run_13 h
set_option maxRecDepth 100000 in
set_option maxHeartbeats 4000000 in
theorem pH_X11_run_24 {x : CX} {l : Launch} {g : CG} {rv : Int32} {μ0 μ9 : Mem} (C : Cx x l g mi_X11_run) (F : Prom x g mi_X11_run μ0 (some (aI rv)) μ9) {N : Nat} {k24 : (Option Nat) → Int32 → Int32 → Int32 → Mem → Option (Int32 × Mem)} (hk24 : ∀ (a0 : Option Nat) (a1 : Int32) (a2 : Int32) (a3 : Int32) (μ : Mem), k24 a0 a1 a2 a3 μ = some (rv, μ9) → V x g 4 0 0 μ 24 [(0, aR a0), (1, aI a1), (2, aI a2), (3, aI a3)] []) {a0 : Option Nat} {a1 : Int32} {a2 : Int32} {a3 : Int32} {μ : Mem} (h : H_X11_run_24 N k24 a0 a1 a2 a3 μ = some (rv, μ9)) : V x g 4 0 0 μ 24 [(0, aR a0), (1, aI a1), (2, aI a2), (3, aI a3)] [] := by
  unfold H_X11_run_24 at h
  refine v_iload_n C dX11_run_24 rfl ?_
  refine v_iload_n C dX11_run_25 rfl ?_
  refine v_icmp_ge (tgt := 42) C dX11_run_26 (by decide) (fun c => ?_) (fun c => ?_)
  · replace h := ifT h c
    refine v_aload_n C dX11_run_42 rfl ?_
    obtain ⟨v, e, h⟩ := ob h
    refine v_getR C dX11_run_43 gf_X11_33 e ?_
    obtain ⟨v, e, h⟩ := ob h
    refine v_getI C dX11_run_46 gf_X11_123 e ?_
    refine v_iload_n C dX11_run_49 rfl ?_
    refine v_isub C dX11_run_50 ?_
    exact v_iret C F ⟨rfl, rfl, Nat.le_refl _⟩ dX11_run_51 h
  · replace h := ifF h c
    refine v_aload_n C dX11_run_29 rfl ?_
    obtain ⟨v, e, h⟩ := ob h
    refine v_getR C dX11_run_30 gf_X11_33 e ?_
    obtain ⟨b, e0, h⟩ := ob h
    obtain ⟨q, e, h⟩ := ob h
    refine v_callV (As := []) C dX11_run_33 cf_X11_126 (rm_X11_run_X2_tick) ⟨rfl, rfl⟩ e0 rfl (Nat.le_of_ble_eq_true rfl) (c_X2_tick _ _ N _ _ q.1 q.2 e) ?_
    refine v_iinc (w := 1) C dX11_run_36 rfl rfl (by decide) ?_
    refine v_goto (tgt := 24) C dX11_run_39 (by decide) ?_
    exact v_sb (hk24 _ _ _ _ _ h) ⟨rfl, rfl, rfl, rfl, trivial⟩
set_option maxRecDepth 100000 in
set_option maxHeartbeats 4000000 in
theorem pL_X11_run_24 {x : CX} {l : Launch} {g : CG} {rv : Int32} {μ0 μ9 : Mem} (C : Cx x l g mi_X11_run) (F : Prom x g mi_X11_run μ0 (some (aI rv)) μ9) (N : Nat) (n : Nat) : ∀ (a0 : Option Nat) (a1 : Int32) (a2 : Int32) (a3 : Int32) (μ : Mem), L_X11_run_24 N n a0 a1 a2 a3 μ = some (rv, μ9) → V x g 4 0 0 μ 24 [(0, aR a0), (1, aI a1), (2, aI a2), (3, aI a3)] [] := by
  induction n with
  | zero => intro a0 a1 a2 a3 μ h; cases h
  | succ n ih => intro a0 a1 a2 a3 μ h; exact pH_X11_run_24 C F ih h
set_option maxRecDepth 100000 in
set_option maxHeartbeats 4000000 in
theorem p_X11_run {x : CX} {l : Launch} {g : CG} {rv : Int32} {μ0 μ9 : Mem} (C : Cx x l g mi_X11_run) (F : Prom x g mi_X11_run μ0 (some (aI rv)) μ9) {N : Nat} {a0 : Option Nat} {a1 : Int32} {μ : Mem} (h : f_X11_run N a0 a1 μ = some (rv, μ9)) : V x g 4 0 0 μ 0 [(0, aR a0), (1, aI a1)] [] := by
  unfold f_X11_run at h
  refine v_iload_n C dX11_run_0 rfl ?_
  refine v_iconst (v := 1) C dX11_run_1 rfl ?_
  refine v_icmp_lt (tgt := 12) C dX11_run_2 (by decide) (fun c => ?_) (fun c => ?_)
  · replace h := ifT h c
    exact v_sb (p_X11_run_12 C F h) trivial
  · replace h := ifF h c
    refine v_iload_n C dX11_run_5 rfl ?_
    refine v_sipush (v := 20000) C dX11_run_6 rfl ?_
    refine v_icmp_le (tgt := 14) C dX11_run_9 (by decide) (fun c => ?_) (fun c => ?_)
    · replace h := ifT h c
      refine v_aload_n C dX11_run_14 rfl ?_
      obtain ⟨v, e, h⟩ := ob h
      refine v_getR C dX11_run_15 gf_X11_33 e ?_
      obtain ⟨v, e, h⟩ := ob h
      refine v_getI C dX11_run_18 gf_X11_123 e ?_
      refine v_istore_n C dX11_run_21 (by decide) ?_
      refine v_iconst (v := 0) C dX11_run_22 rfl ?_
      refine v_istore_n C dX11_run_23 (by decide) ?_
      exact v_sb (pL_X11_run_24 C F N N _ _ _ _ _ h) ⟨rfl, rfl, rfl, rfl, trivial⟩
    · replace h := ifF h c
      exact v_sb (p_X11_run_12 C F h) trivial
set_option maxRecDepth 100000 in
set_option maxHeartbeats 4000000 in
theorem c_X11_run (l : Launch) (g : CG) (N : Nat) (a0 : Option Nat) (a1 : Int32) (μ : Mem) (rv : Int32) (μ9 : Mem) (h : f_X11_run N a0 a1 μ = some (rv, μ9)) : Ct l yX11_run mi_X11_run g [aR a0, aI a1] μ (some (aI rv)) μ9 := ct_of ⟨by decide, rfl, rfl⟩ (Nat.le_of_ble_eq_true rfl) fun x C F => p_X11_run C F h
def f_X10_register_150 (N : Nat) (μ : Mem) : Option (Int32 × Mem) :=
  some ((-1), μ)
def f_X10_register_149 (N : Nat) (s0 : Int32) (μ : Mem) : Option (Int32 × Mem) :=
  some (s0, μ)
def f_X10_register (N : Nat) (a0 : Option Nat) (a1 : Int32) (μ : Mem) : Option (Int32 × Mem) :=
  if a1 = 0 then
    (mfI μ a0 10 8).bind fun v1 =>
    some (v1, μ)
  else
    if a1 = 1 then
      (mfI μ a0 10 9).bind fun v2 =>
      some (v2, μ)
    else
      if a1 = 2 then
        (mfI μ a0 10 10).bind fun v3 =>
        some (v3, μ)
      else
        if a1 = 3 then
          (mfI μ a0 10 11).bind fun v4 =>
          some (v4, μ)
        else
          if a1 = 4 then
            (mfI μ a0 10 12).bind fun v5 =>
            some (v5, μ)
          else
            if a1 = 5 then
              (mfI μ a0 10 14).bind fun v6 =>
              some (v6, μ)
            else
              if a1 = 6 then
                (mfR μ a0 10 4).bind fun v7 =>
                (mfI μ v7 6 2).bind fun v8 =>
                some (v8, μ)
              else
                if a1 = 7 then
                  (mfR μ a0 10 5).bind fun v9 =>
                  (mfI μ v9 6 2).bind fun v10 =>
                  some (v10, μ)
                else
                  if a1 = 8 then
                    (mfI μ a0 10 6).bind fun v11 =>
                    some (v11, μ)
                  else
                    if a1 = 9 then
                      f_X10_register_150 N μ
                    else
                      if a1 = 10 then
                        f_X10_register_150 N μ
                      else
                        if a1 = 11 then
                          (mfI μ a0 10 15).bind fun v12 =>
                          some (v12, μ)
                        else
                          if a1 = 12 then
                            (mfI μ a0 10 13).bind fun v13 =>
                            some (v13, μ)
                          else
                            if a1 = 13 then
                              (mfI μ a0 10 8).bind fun v14 =>
                              if ¬ v14 = (4 : Int32) then
                                f_X10_register_149 N ((-1)) μ
                              else
                                (mfI μ a0 10 16).bind fun v15 =>
                                f_X10_register_149 N v15 μ
                            else
                              f_X10_register_150 N μ
set_option maxRecDepth 100000 in
set_option maxHeartbeats 4000000 in
theorem p_X10_register_150 {x : CX} {l : Launch} {g : CG} {rv : Int32} {μ0 μ9 : Mem} (C : Cx x l g mi_X10_register) (F : Prom x g mi_X10_register μ0 (some (aI rv)) μ9) {N : Nat} {μ : Mem} (h : f_X10_register_150 N μ = some (rv, μ9)) : V x g 2 0 0 μ 150 [] [] := by
  unfold f_X10_register_150 at h
  refine v_iconst (v := -1) C dX10_register_150 rfl ?_
  exact v_iret C F ⟨rfl, rfl, Nat.le_refl _⟩ dX10_register_151 h
set_option maxRecDepth 100000 in
set_option maxHeartbeats 4000000 in
theorem p_X10_register_149 {x : CX} {l : Launch} {g : CG} {rv : Int32} {μ0 μ9 : Mem} (C : Cx x l g mi_X10_register) (F : Prom x g mi_X10_register μ0 (some (aI rv)) μ9) {N : Nat} {s0 : Int32} {μ : Mem} (h : f_X10_register_149 N s0 μ = some (rv, μ9)) : V x g 2 0 0 μ 149 [] [aI s0] := by
  unfold f_X10_register_149 at h
  exact v_iret C F ⟨rfl, rfl, Nat.le_refl _⟩ dX10_register_149 h
set_option maxRecDepth 100000 in
set_option maxHeartbeats 4000000 in
theorem p_X10_register {x : CX} {l : Launch} {g : CG} {rv : Int32} {μ0 μ9 : Mem} (C : Cx x l g mi_X10_register) (F : Prom x g mi_X10_register μ0 (some (aI rv)) μ9) {N : Nat} {a0 : Option Nat} {a1 : Int32} {μ : Mem} (h : f_X10_register N a0 a1 μ = some (rv, μ9)) : V x g 2 0 0 μ 0 [(0, aR a0), (1, aI a1)] [] := by
  unfold f_X10_register at h
  refine v_iload_n C dX10_register_0 rfl ?_
  refine v_tableswitch (dt := 150) (cs := [(0, 72), (1, 77), (2, 82), (3, 87), (4, 92), (5, 97), (6, 102), (7, 110), (8, 118), (9, 150), (10, 150), (11, 123), (12, 128), (13, 133)]) C dX10_register_1 (by decide) (by decide) (by decide) (by decide) ?_
  refine v_case (fun c => ?_) (fun c => ?_)
  · replace h := ifT h c
    refine v_aload_n C dX10_register_72 rfl ?_
    obtain ⟨v, e, h⟩ := ob h
    refine v_getI C dX10_register_73 gf_X10_38 e ?_
    exact v_iret C F ⟨rfl, rfl, Nat.le_refl _⟩ dX10_register_76 h
  · replace h := ifF h c
    refine v_case (fun c => ?_) (fun c => ?_)
    · replace h := ifT h c
      refine v_aload_n C dX10_register_77 rfl ?_
      obtain ⟨v, e, h⟩ := ob h
      refine v_getI C dX10_register_78 gf_X10_41 e ?_
      exact v_iret C F ⟨rfl, rfl, Nat.le_refl _⟩ dX10_register_81 h
    · replace h := ifF h c
      refine v_case (fun c => ?_) (fun c => ?_)
      · replace h := ifT h c
        refine v_aload_n C dX10_register_82 rfl ?_
        obtain ⟨v, e, h⟩ := ob h
        refine v_getI C dX10_register_83 gf_X10_44 e ?_
        exact v_iret C F ⟨rfl, rfl, Nat.le_refl _⟩ dX10_register_86 h
      · replace h := ifF h c
        refine v_case (fun c => ?_) (fun c => ?_)
        · replace h := ifT h c
          refine v_aload_n C dX10_register_87 rfl ?_
          obtain ⟨v, e, h⟩ := ob h
          refine v_getI C dX10_register_88 gf_X10_47 e ?_
          exact v_iret C F ⟨rfl, rfl, Nat.le_refl _⟩ dX10_register_91 h
        · replace h := ifF h c
          refine v_case (fun c => ?_) (fun c => ?_)
          · replace h := ifT h c
            refine v_aload_n C dX10_register_92 rfl ?_
            obtain ⟨v, e, h⟩ := ob h
            refine v_getI C dX10_register_93 gf_X10_50 e ?_
            exact v_iret C F ⟨rfl, rfl, Nat.le_refl _⟩ dX10_register_96 h
          · replace h := ifF h c
            refine v_case (fun c => ?_) (fun c => ?_)
            · replace h := ifT h c
              refine v_aload_n C dX10_register_97 rfl ?_
              obtain ⟨v, e, h⟩ := ob h
              refine v_getI C dX10_register_98 gf_X10_56 e ?_
              exact v_iret C F ⟨rfl, rfl, Nat.le_refl _⟩ dX10_register_101 h
            · replace h := ifF h c
              refine v_case (fun c => ?_) (fun c => ?_)
              · replace h := ifT h c
                refine v_aload_n C dX10_register_102 rfl ?_
                obtain ⟨v, e, h⟩ := ob h
                refine v_getR C dX10_register_103 gf_X10_24 e ?_
                obtain ⟨v, e, h⟩ := ob h
                refine v_getI C dX10_register_106 gf_X10_94 e ?_
                exact v_iret C F ⟨rfl, rfl, Nat.le_refl _⟩ dX10_register_109 h
              · replace h := ifF h c
                refine v_case (fun c => ?_) (fun c => ?_)
                · replace h := ifT h c
                  refine v_aload_n C dX10_register_110 rfl ?_
                  obtain ⟨v, e, h⟩ := ob h
                  refine v_getR C dX10_register_111 gf_X10_28 e ?_
                  obtain ⟨v, e, h⟩ := ob h
                  refine v_getI C dX10_register_114 gf_X10_94 e ?_
                  exact v_iret C F ⟨rfl, rfl, Nat.le_refl _⟩ dX10_register_117 h
                · replace h := ifF h c
                  refine v_case (fun c => ?_) (fun c => ?_)
                  · replace h := ifT h c
                    refine v_aload_n C dX10_register_118 rfl ?_
                    obtain ⟨v, e, h⟩ := ob h
                    refine v_getI C dX10_register_119 gf_X10_31 e ?_
                    exact v_iret C F ⟨rfl, rfl, Nat.le_refl _⟩ dX10_register_122 h
                  · replace h := ifF h c
                    refine v_case (fun c => ?_) (fun c => ?_)
                    · replace h := ifT h c
                      exact v_sb (p_X10_register_150 C F h) trivial
                    · replace h := ifF h c
                      refine v_case (fun c => ?_) (fun c => ?_)
                      · replace h := ifT h c
                        exact v_sb (p_X10_register_150 C F h) trivial
                      · replace h := ifF h c
                        refine v_case (fun c => ?_) (fun c => ?_)
                        · replace h := ifT h c
                          refine v_aload_n C dX10_register_123 rfl ?_
                          obtain ⟨v, e, h⟩ := ob h
                          refine v_getI C dX10_register_124 gf_X10_59 e ?_
                          exact v_iret C F ⟨rfl, rfl, Nat.le_refl _⟩ dX10_register_127 h
                        · replace h := ifF h c
                          refine v_case (fun c => ?_) (fun c => ?_)
                          · replace h := ifT h c
                            refine v_aload_n C dX10_register_128 rfl ?_
                            obtain ⟨v, e, h⟩ := ob h
                            refine v_getI C dX10_register_129 gf_X10_53 e ?_
                            exact v_iret C F ⟨rfl, rfl, Nat.le_refl _⟩ dX10_register_132 h
                          · replace h := ifF h c
                            refine v_case (fun c => ?_) (fun c => ?_)
                            · replace h := ifT h c
                              refine v_aload_n C dX10_register_133 rfl ?_
                              obtain ⟨v, e, h⟩ := ob h
                              refine v_getI C dX10_register_134 gf_X10_38 e ?_
                              refine v_iconst (v := 4) C dX10_register_137 rfl ?_
                              refine v_icmp_ne (tgt := 148) C dX10_register_138 (by decide) (fun c => ?_) (fun c => ?_)
                              · replace h := ifT h c
                                refine v_iconst (v := -1) C dX10_register_148 rfl ?_
                                exact v_sb (p_X10_register_149 C F h) trivial
                              · replace h := ifF h c
                                refine v_aload_n C dX10_register_141 rfl ?_
                                obtain ⟨v, e, h⟩ := ob h
                                refine v_getI C dX10_register_142 gf_X10_62 e ?_
                                refine v_goto (tgt := 149) C dX10_register_145 (by decide) ?_
                                exact v_sb (p_X10_register_149 C F h) trivial
                            · replace h := ifF h c
                              refine v_caseD ?_
                              exact v_sb (p_X10_register_150 C F h) trivial
set_option maxRecDepth 100000 in
set_option maxHeartbeats 4000000 in
theorem c_X10_register (l : Launch) (g : CG) (N : Nat) (a0 : Option Nat) (a1 : Int32) (μ : Mem) (rv : Int32) (μ9 : Mem) (h : f_X10_register N a0 a1 μ = some (rv, μ9)) : Ct l yX10_register mi_X10_register g [aR a0, aI a1] μ (some (aI rv)) μ9 := ct_of ⟨by decide, rfl, rfl⟩ (Nat.le_of_ble_eq_true rfl) fun x C F => p_X10_register C F h
def f_X11_user_70 (N : Nat) (s0 : Int32) (μ : Mem) : Option (Int32 × Mem) :=
  some (s0, μ)
def f_X11_user_105 (N : Nat) (s0 : Int32) (μ : Mem) : Option (Int32 × Mem) :=
  some (s0, μ)
def f_X11_user (N : Nat) (a0 : Option Nat) (a1 : Int32) (a2 : Int32) (μ : Mem) : Option (Int32 × Mem) :=
  (mfR μ a0 11 3).bind fun v1 =>
  (mck μ v1 2).bind fun b3 =>
  (f_X2_userAt N (some b3) a1 μ).bind fun q2 =>
  if ¬ q2.1 = none then
    if a2 = 9 then
      (mfR q2.2 q2.1 10 19).bind fun v4 =>
      if ¬ v4 = none then
        (mfR q2.2 q2.1 10 19).bind fun v5 =>
        (mfI q2.2 v5 8 0).bind fun v6 =>
        f_X11_user_70 N v6 q2.2
      else
        f_X11_user_70 N ((-1)) q2.2
    else
      if a2 = 10 then
        (mfR q2.2 a0 11 3).bind fun v7 =>
        (mfR q2.2 v7 2 2).bind fun v8 =>
        (mck q2.2 v8 5).bind fun b10 =>
        (f_X5_placeOf N (some b10) q2.1 q2.2).bind fun q9 =>
        some (q9.1, q9.2)
      else
        if a2 = 14 then
          (mfR q2.2 a0 11 3).bind fun v11 =>
          (mfR q2.2 v11 2 8).bind fun v12 =>
          if ¬ v12 = q2.1 then
            f_X11_user_105 N ((-1)) q2.2
          else
            (mfR q2.2 a0 11 3).bind fun v13 =>
            (mfI q2.2 v13 2 9).bind fun v14 =>
            f_X11_user_105 N v14 q2.2
        else
          (mck q2.2 q2.1 10).bind fun b16 =>
          (f_X10_register N (some b16) a2 q2.2).bind fun q15 =>
          some (q15.1, q15.2)
  else
    some ((-1), q2.2)
set_option maxRecDepth 100000 in
set_option maxHeartbeats 4000000 in
theorem p_X11_user_70 {x : CX} {l : Launch} {g : CG} {rv : Int32} {μ0 μ9 : Mem} (C : Cx x l g mi_X11_user) (F : Prom x g mi_X11_user μ0 (some (aI rv)) μ9) {N : Nat} {s0 : Int32} {μ : Mem} (h : f_X11_user_70 N s0 μ = some (rv, μ9)) : V x g 4 0 0 μ 70 [] [aI s0] := by
  unfold f_X11_user_70 at h
  exact v_iret C F ⟨rfl, rfl, Nat.le_refl _⟩ dX11_user_70 h
set_option maxRecDepth 100000 in
set_option maxHeartbeats 4000000 in
theorem p_X11_user_105 {x : CX} {l : Launch} {g : CG} {rv : Int32} {μ0 μ9 : Mem} (C : Cx x l g mi_X11_user) (F : Prom x g mi_X11_user μ0 (some (aI rv)) μ9) {N : Nat} {s0 : Int32} {μ : Mem} (h : f_X11_user_105 N s0 μ = some (rv, μ9)) : V x g 4 0 0 μ 105 [] [aI s0] := by
  unfold f_X11_user_105 at h
  exact v_iret C F ⟨rfl, rfl, Nat.le_refl _⟩ dX11_user_105 h
set_option maxRecDepth 100000 in
set_option maxHeartbeats 4000000 in
theorem p_X11_user {x : CX} {l : Launch} {g : CG} {rv : Int32} {μ0 μ9 : Mem} (C : Cx x l g mi_X11_user) (F : Prom x g mi_X11_user μ0 (some (aI rv)) μ9) {N : Nat} {a0 : Option Nat} {a1 : Int32} {a2 : Int32} {μ : Mem} (h : f_X11_user N a0 a1 a2 μ = some (rv, μ9)) : V x g 4 0 0 μ 0 [(0, aR a0), (1, aI a1), (2, aI a2)] [] := by
  unfold f_X11_user at h
  refine v_aload_n C dX11_user_0 rfl ?_
  obtain ⟨v, e, h⟩ := ob h
  refine v_getR C dX11_user_1 gf_X11_33 e ?_
  refine v_iload_n C dX11_user_4 rfl ?_
  obtain ⟨b, e0, h⟩ := ob h
  obtain ⟨q, e, h⟩ := ob h
  refine v_callV (As := [_]) C dX11_user_5 cf_X11_77 (rm_X11_user_X2_userAt) ⟨rfl, rfl⟩ e0 rfl (Nat.le_of_ble_eq_true rfl) (c_X2_userAt _ _ N _ _ _ q.1 q.2 e) ?_
  refine v_astore_n C dX11_user_8 (by decide) ?_
  refine v_aload_n C dX11_user_9 rfl ?_
  refine v_ifnonnull (tgt := 15) C dX11_user_10 (by decide) (fun c => ?_) (fun c => ?_)
  · replace h := ifT h c
    refine v_iload_n C dX11_user_15 rfl ?_
    refine v_lookupswitch (dt := 106) (cs := [(9, 52), (10, 71), (14, 83)]) C dX11_user_16 rfl (by decide) (by decide) ?_
    refine v_case (fun c => ?_) (fun c => ?_)
    · replace h := ifT h c
      refine v_aload_n C dX11_user_52 rfl ?_
      obtain ⟨v, e, h⟩ := ob h
      refine v_getR C dX11_user_53 gf_X11_129 e ?_
      refine v_ifnonnull (tgt := 63) C dX11_user_56 (by decide) (fun c => ?_) (fun c => ?_)
      · replace h := ifT h c
        refine v_aload_n C dX11_user_63 rfl ?_
        obtain ⟨v, e, h⟩ := ob h
        refine v_getR C dX11_user_64 gf_X11_129 e ?_
        obtain ⟨v, e, h⟩ := ob h
        refine v_getI C dX11_user_67 gf_X11_133 e ?_
        exact v_sb (p_X11_user_70 C F h) trivial
      · replace h := ifF h c
        refine v_iconst (v := -1) C dX11_user_59 rfl ?_
        refine v_goto (tgt := 70) C dX11_user_60 (by decide) ?_
        exact v_sb (p_X11_user_70 C F h) trivial
    · replace h := ifF h c
      refine v_case (fun c => ?_) (fun c => ?_)
      · replace h := ifT h c
        refine v_aload_n C dX11_user_71 rfl ?_
        obtain ⟨v, e, h⟩ := ob h
        refine v_getR C dX11_user_72 gf_X11_33 e ?_
        obtain ⟨v, e, h⟩ := ob h
        refine v_getR C dX11_user_75 gf_X11_138 e ?_
        refine v_aload_n C dX11_user_78 rfl ?_
        obtain ⟨b, e0, h⟩ := ob h
        obtain ⟨q, e, h⟩ := ob h
        refine v_callV (As := [_]) C dX11_user_79 cf_X11_142 (rm_X11_user_X5_placeOf) ⟨rfl, rfl⟩ e0 rfl (Nat.le_of_ble_eq_true rfl) (c_X5_placeOf _ _ N _ _ _ q.1 q.2 e) ?_
        exact v_iret C F ⟨rfl, rfl, Nat.le_refl _⟩ dX11_user_82 h
      · replace h := ifF h c
        refine v_case (fun c => ?_) (fun c => ?_)
        · replace h := ifT h c
          refine v_aload_n C dX11_user_83 rfl ?_
          obtain ⟨v, e, h⟩ := ob h
          refine v_getR C dX11_user_84 gf_X11_33 e ?_
          obtain ⟨v, e, h⟩ := ob h
          refine v_getR C dX11_user_87 gf_X11_148 e ?_
          refine v_aload_n C dX11_user_90 rfl ?_
          refine v_acmp_ne (tgt := 104) C dX11_user_91 (by decide) (fun c => ?_) (fun c => ?_)
          · replace h := ifT h c
            refine v_iconst (v := -1) C dX11_user_104 rfl ?_
            exact v_sb (p_X11_user_105 C F h) trivial
          · replace h := ifF h c
            refine v_aload_n C dX11_user_94 rfl ?_
            obtain ⟨v, e, h⟩ := ob h
            refine v_getR C dX11_user_95 gf_X11_33 e ?_
            obtain ⟨v, e, h⟩ := ob h
            refine v_getI C dX11_user_98 gf_X11_152 e ?_
            refine v_goto (tgt := 105) C dX11_user_101 (by decide) ?_
            exact v_sb (p_X11_user_105 C F h) trivial
        · replace h := ifF h c
          refine v_caseD ?_
          refine v_aload_n C dX11_user_106 rfl ?_
          refine v_iload_n C dX11_user_107 rfl ?_
          obtain ⟨b, e0, h⟩ := ob h
          obtain ⟨q, e, h⟩ := ob h
          refine v_callV (As := [_]) C dX11_user_108 cf_X11_155 (rm_X11_user_X10_register) ⟨rfl, rfl⟩ e0 rfl (Nat.le_of_ble_eq_true rfl) (c_X10_register _ _ N _ _ _ q.1 q.2 e) ?_
          exact v_iret C F ⟨rfl, rfl, Nat.le_refl _⟩ dX11_user_111 h
  · replace h := ifF h c
    refine v_iconst (v := -1) C dX11_user_13 rfl ?_
    exact v_iret C F ⟨rfl, rfl, Nat.le_refl _⟩ dX11_user_14 h
set_option maxRecDepth 100000 in
set_option maxHeartbeats 4000000 in
theorem c_X11_user (l : Launch) (g : CG) (N : Nat) (a0 : Option Nat) (a1 : Int32) (a2 : Int32) (μ : Mem) (rv : Int32) (μ9 : Mem) (h : f_X11_user N a0 a1 a2 μ = some (rv, μ9)) : Ct l yX11_user mi_X11_user g [aR a0, aI a1, aI a2] μ (some (aI rv)) μ9 := ct_of ⟨by decide, rfl, rfl⟩ (Nat.le_of_ble_eq_true rfl) fun x C F => p_X11_user C F h
def f_X1_register_123 (N : Nat) (μ : Mem) : Option (Int32 × Mem) :=
  some ((-1), μ)
def f_X1_register_83 (N : Nat) (s0 : Int32) (μ : Mem) : Option (Int32 × Mem) :=
  some (s0, μ)
def f_X1_register_107 (N : Nat) (s0 : Int32) (μ : Mem) : Option (Int32 × Mem) :=
  some (s0, μ)
def f_X1_register (N : Nat) (a0 : Option Nat) (a1 : Int32) (μ : Mem) : Option (Int32 × Mem) :=
  if a1 = 2 then
    (mfI μ a0 1 0).bind fun v1 =>
    some (v1, μ)
  else
    if a1 = 3 then
      (mfR μ a0 1 1).bind fun v2 =>
      if ¬ v2 = none then
        (mfR μ a0 1 1).bind fun v3 =>
        (mfI μ v3 10 0).bind fun v4 =>
        f_X1_register_83 N v4 μ
      else
        f_X1_register_83 N ((-1)) μ
    else
      if a1 = 4 then
        (mfI μ a0 1 3).bind fun v5 =>
        some (v5, μ)
      else
        if a1 = 5 then
          (mfR μ a0 1 2).bind fun v6 =>
          if ¬ v6 = none then
            (mfR μ a0 1 2).bind fun v7 =>
            (mfI μ v7 8 0).bind fun v8 =>
            f_X1_register_107 N v8 μ
          else
            f_X1_register_107 N ((-1)) μ
        else
          if a1 = 6 then
            (mfI μ a0 1 5).bind fun v9 =>
            some (v9, μ)
          else
            if a1 = 7 then
              (mfI μ a0 1 6).bind fun v10 =>
              some (v10, μ)
            else
              if a1 = 8 then
                f_X1_register_123 N μ
              else
                if a1 = 9 then
                  f_X1_register_123 N μ
                else
                  if a1 = 10 then
                    f_X1_register_123 N μ
                  else
                    if a1 = 11 then
                      f_X1_register_123 N μ
                    else
                      if a1 = 12 then
                        (mfI μ a0 1 7).bind fun v11 =>
                        some (v11, μ)
                      else
                        f_X1_register_123 N μ
set_option maxRecDepth 100000 in
set_option maxHeartbeats 4000000 in
theorem p_X1_register_123 {x : CX} {l : Launch} {g : CG} {rv : Int32} {μ0 μ9 : Mem} (C : Cx x l g mi_X1_register) (F : Prom x g mi_X1_register μ0 (some (aI rv)) μ9) {N : Nat} {μ : Mem} (h : f_X1_register_123 N μ = some (rv, μ9)) : V x g 2 0 0 μ 123 [] [] := by
  unfold f_X1_register_123 at h
  refine v_iconst (v := -1) C dX1_register_123 rfl ?_
  exact v_iret C F ⟨rfl, rfl, Nat.le_refl _⟩ dX1_register_124 h
set_option maxRecDepth 100000 in
set_option maxHeartbeats 4000000 in
theorem p_X1_register_83 {x : CX} {l : Launch} {g : CG} {rv : Int32} {μ0 μ9 : Mem} (C : Cx x l g mi_X1_register) (F : Prom x g mi_X1_register μ0 (some (aI rv)) μ9) {N : Nat} {s0 : Int32} {μ : Mem} (h : f_X1_register_83 N s0 μ = some (rv, μ9)) : V x g 2 0 0 μ 83 [] [aI s0] := by
  unfold f_X1_register_83 at h
  exact v_iret C F ⟨rfl, rfl, Nat.le_refl _⟩ dX1_register_83 h
set_option maxRecDepth 100000 in
set_option maxHeartbeats 4000000 in
theorem p_X1_register_107 {x : CX} {l : Launch} {g : CG} {rv : Int32} {μ0 μ9 : Mem} (C : Cx x l g mi_X1_register) (F : Prom x g mi_X1_register μ0 (some (aI rv)) μ9) {N : Nat} {s0 : Int32} {μ : Mem} (h : f_X1_register_107 N s0 μ = some (rv, μ9)) : V x g 2 0 0 μ 107 [] [aI s0] := by
  unfold f_X1_register_107 at h
  exact v_iret C F ⟨rfl, rfl, Nat.le_refl _⟩ dX1_register_107 h
set_option maxRecDepth 100000 in
set_option maxHeartbeats 4000000 in
theorem p_X1_register {x : CX} {l : Launch} {g : CG} {rv : Int32} {μ0 μ9 : Mem} (C : Cx x l g mi_X1_register) (F : Prom x g mi_X1_register μ0 (some (aI rv)) μ9) {N : Nat} {a0 : Option Nat} {a1 : Int32} {μ : Mem} (h : f_X1_register N a0 a1 μ = some (rv, μ9)) : V x g 2 0 0 μ 0 [(0, aR a0), (1, aI a1)] [] := by
  unfold f_X1_register at h
  refine v_iload_n C dX1_register_0 rfl ?_
  refine v_tableswitch (dt := 123) (cs := [(2, 60), (3, 65), (4, 84), (5, 89), (6, 108), (7, 113), (8, 123), (9, 123), (10, 123), (11, 123), (12, 118)]) C dX1_register_1 (by decide) (by decide) (by decide) (by decide) ?_
  refine v_case (fun c => ?_) (fun c => ?_)
  · replace h := ifT h c
    refine v_aload_n C dX1_register_60 rfl ?_
    obtain ⟨v, e, h⟩ := ob h
    refine v_getI C dX1_register_61 gf_X1_9 e ?_
    exact v_iret C F ⟨rfl, rfl, Nat.le_refl _⟩ dX1_register_64 h
  · replace h := ifF h c
    refine v_case (fun c => ?_) (fun c => ?_)
    · replace h := ifT h c
      refine v_aload_n C dX1_register_65 rfl ?_
      obtain ⟨v, e, h⟩ := ob h
      refine v_getR C dX1_register_66 gf_X1_15 e ?_
      refine v_ifnonnull (tgt := 76) C dX1_register_69 (by decide) (fun c => ?_) (fun c => ?_)
      · replace h := ifT h c
        refine v_aload_n C dX1_register_76 rfl ?_
        obtain ⟨v, e, h⟩ := ob h
        refine v_getR C dX1_register_77 gf_X1_15 e ?_
        obtain ⟨v, e, h⟩ := ob h
        refine v_getI C dX1_register_80 gf_X1_81 e ?_
        exact v_sb (p_X1_register_83 C F h) trivial
      · replace h := ifF h c
        refine v_iconst (v := -1) C dX1_register_72 rfl ?_
        refine v_goto (tgt := 83) C dX1_register_73 (by decide) ?_
        exact v_sb (p_X1_register_83 C F h) trivial
    · replace h := ifF h c
      refine v_case (fun c => ?_) (fun c => ?_)
      · replace h := ifT h c
        refine v_aload_n C dX1_register_84 rfl ?_
        obtain ⟨v, e, h⟩ := ob h
        refine v_getI C dX1_register_85 gf_X1_23 e ?_
        exact v_iret C F ⟨rfl, rfl, Nat.le_refl _⟩ dX1_register_88 h
      · replace h := ifF h c
        refine v_case (fun c => ?_) (fun c => ?_)
        · replace h := ifT h c
          refine v_aload_n C dX1_register_89 rfl ?_
          obtain ⟨v, e, h⟩ := ob h
          refine v_getR C dX1_register_90 gf_X1_19 e ?_
          refine v_ifnonnull (tgt := 100) C dX1_register_93 (by decide) (fun c => ?_) (fun c => ?_)
          · replace h := ifT h c
            refine v_aload_n C dX1_register_100 rfl ?_
            obtain ⟨v, e, h⟩ := ob h
            refine v_getR C dX1_register_101 gf_X1_19 e ?_
            obtain ⟨v, e, h⟩ := ob h
            refine v_getI C dX1_register_104 gf_X1_84 e ?_
            exact v_sb (p_X1_register_107 C F h) trivial
          · replace h := ifF h c
            refine v_iconst (v := -1) C dX1_register_96 rfl ?_
            refine v_goto (tgt := 107) C dX1_register_97 (by decide) ?_
            exact v_sb (p_X1_register_107 C F h) trivial
        · replace h := ifF h c
          refine v_case (fun c => ?_) (fun c => ?_)
          · replace h := ifT h c
            refine v_aload_n C dX1_register_108 rfl ?_
            obtain ⟨v, e, h⟩ := ob h
            refine v_getI C dX1_register_109 gf_X1_30 e ?_
            exact v_iret C F ⟨rfl, rfl, Nat.le_refl _⟩ dX1_register_112 h
          · replace h := ifF h c
            refine v_case (fun c => ?_) (fun c => ?_)
            · replace h := ifT h c
              refine v_aload_n C dX1_register_113 rfl ?_
              obtain ⟨v, e, h⟩ := ob h
              refine v_getI C dX1_register_114 gf_X1_33 e ?_
              exact v_iret C F ⟨rfl, rfl, Nat.le_refl _⟩ dX1_register_117 h
            · replace h := ifF h c
              refine v_case (fun c => ?_) (fun c => ?_)
              · replace h := ifT h c
                exact v_sb (p_X1_register_123 C F h) trivial
              · replace h := ifF h c
                refine v_case (fun c => ?_) (fun c => ?_)
                · replace h := ifT h c
                  exact v_sb (p_X1_register_123 C F h) trivial
                · replace h := ifF h c
                  refine v_case (fun c => ?_) (fun c => ?_)
                  · replace h := ifT h c
                    exact v_sb (p_X1_register_123 C F h) trivial
                  · replace h := ifF h c
                    refine v_case (fun c => ?_) (fun c => ?_)
                    · replace h := ifT h c
                      exact v_sb (p_X1_register_123 C F h) trivial
                    · replace h := ifF h c
                      refine v_case (fun c => ?_) (fun c => ?_)
                      · replace h := ifT h c
                        refine v_aload_n C dX1_register_118 rfl ?_
                        obtain ⟨v, e, h⟩ := ob h
                        refine v_getI C dX1_register_119 gf_X1_36 e ?_
                        exact v_iret C F ⟨rfl, rfl, Nat.le_refl _⟩ dX1_register_122 h
                      · replace h := ifF h c
                        refine v_caseD ?_
                        exact v_sb (p_X1_register_123 C F h) trivial
set_option maxRecDepth 100000 in
set_option maxHeartbeats 4000000 in
theorem c_X1_register (l : Launch) (g : CG) (N : Nat) (a0 : Option Nat) (a1 : Int32) (μ : Mem) (rv : Int32) (μ9 : Mem) (h : f_X1_register N a0 a1 μ = some (rv, μ9)) : Ct l yX1_register mi_X1_register g [aR a0, aI a1] μ (some (aI rv)) μ9 := ct_of ⟨by decide, rfl, rfl⟩ (Nat.le_of_ble_eq_true rfl) fun x C F => p_X1_register C F h
def f_X11_look_129 (N : Nat) (a0 : Option Nat) (a1 : Int32) (μ : Mem) : Option (Int32 × Mem) :=
  (mfR μ a0 11 3).bind fun v1 =>
  (mfR μ v1 2 3).bind fun v2 =>
  (mck μ v2 1).bind fun b4 =>
  (f_X1_register N (some b4) a1 μ).bind fun q3 =>
  some (q3.1, q3.2)
def f_X11_look_96 (N : Nat) (s0 : Int32) (μ : Mem) : Option (Int32 × Mem) :=
  some (s0, μ)
def f_X11_look (N : Nat) (a0 : Option Nat) (a1 : Int32) (μ : Mem) : Option (Int32 × Mem) :=
  if a1 = 0 then
    (mfR μ a0 11 3).bind fun v1 =>
    (mfI μ v1 2 7).bind fun v2 =>
    some (v2, μ)
  else
    if a1 = 1 then
      (mfR μ a0 11 3).bind fun v3 =>
      (mfR μ v3 2 8).bind fun v4 =>
      if ¬ v4 = none then
        (mfR μ a0 11 3).bind fun v5 =>
        (mfR μ v5 2 8).bind fun v6 =>
        (mfI μ v6 10 0).bind fun v7 =>
        f_X11_look_96 N v7 μ
      else
        f_X11_look_96 N ((-1)) μ
    else
      if a1 = 2 then
        f_X11_look_129 N a0 a1 μ
      else
        if a1 = 3 then
          f_X11_look_129 N a0 a1 μ
        else
          if a1 = 4 then
            f_X11_look_129 N a0 a1 μ
          else
            if a1 = 5 then
              f_X11_look_129 N a0 a1 μ
            else
              if a1 = 6 then
                f_X11_look_129 N a0 a1 μ
              else
                if a1 = 7 then
                  f_X11_look_129 N a0 a1 μ
                else
                  if a1 = 8 then
                    (mfR μ a0 11 3).bind fun v8 =>
                    (mfI μ v8 2 10).bind fun v9 =>
                    some (v9, μ)
                  else
                    if a1 = 9 then
                      (mfR μ a0 11 3).bind fun v10 =>
                      (mfR μ v10 2 2).bind fun v11 =>
                      (mfI μ v11 5 1).bind fun v12 =>
                      some (v12, μ)
                    else
                      if a1 = 10 then
                        (mfR μ a0 11 3).bind fun v13 =>
                        (mfI μ v13 2 11).bind fun v14 =>
                        some (v14, μ)
                      else
                        if a1 = 11 then
                          (mfI μ a0 11 1).bind fun v15 =>
                          some (v15, μ)
                        else
                          f_X11_look_129 N a0 a1 μ
set_option maxRecDepth 100000 in
set_option maxHeartbeats 4000000 in
theorem p_X11_look_129 {x : CX} {l : Launch} {g : CG} {rv : Int32} {μ0 μ9 : Mem} (C : Cx x l g mi_X11_look) (F : Prom x g mi_X11_look μ0 (some (aI rv)) μ9) {N : Nat} {a0 : Option Nat} {a1 : Int32} {μ : Mem} (h : f_X11_look_129 N a0 a1 μ = some (rv, μ9)) : V x g 2 0 0 μ 129 [(0, aR a0), (1, aI a1)] [] := by
  unfold f_X11_look_129 at h
  refine v_aload_n C dX11_look_129 rfl ?_
  obtain ⟨v, e, h⟩ := ob h
  refine v_getR C dX11_look_130 gf_X11_33 e ?_
  obtain ⟨v, e, h⟩ := ob h
  refine v_getR C dX11_look_133 gf_X11_168 e ?_
  refine v_iload_n C dX11_look_136 rfl ?_
  obtain ⟨b, e0, h⟩ := ob h
  obtain ⟨q, e, h⟩ := ob h
  refine v_callV (As := [_]) C dX11_look_137 cf_X11_172 (rm_X11_look_X1_register) ⟨rfl, rfl⟩ e0 rfl (Nat.le_of_ble_eq_true rfl) (c_X1_register _ _ N _ _ _ q.1 q.2 e) ?_
  exact v_iret C F ⟨rfl, rfl, Nat.le_refl _⟩ dX11_look_140 h
set_option maxRecDepth 100000 in
set_option maxHeartbeats 4000000 in
theorem p_X11_look_96 {x : CX} {l : Launch} {g : CG} {rv : Int32} {μ0 μ9 : Mem} (C : Cx x l g mi_X11_look) (F : Prom x g mi_X11_look μ0 (some (aI rv)) μ9) {N : Nat} {s0 : Int32} {μ : Mem} (h : f_X11_look_96 N s0 μ = some (rv, μ9)) : V x g 2 0 0 μ 96 [] [aI s0] := by
  unfold f_X11_look_96 at h
  exact v_iret C F ⟨rfl, rfl, Nat.le_refl _⟩ dX11_look_96 h
set_option maxRecDepth 100000 in
set_option maxHeartbeats 4000000 in
theorem p_X11_look {x : CX} {l : Launch} {g : CG} {rv : Int32} {μ0 μ9 : Mem} (C : Cx x l g mi_X11_look) (F : Prom x g mi_X11_look μ0 (some (aI rv)) μ9) {N : Nat} {a0 : Option Nat} {a1 : Int32} {μ : Mem} (h : f_X11_look N a0 a1 μ = some (rv, μ9)) : V x g 2 0 0 μ 0 [(0, aR a0), (1, aI a1)] [] := by
  unfold f_X11_look at h
  refine v_iload_n C dX11_look_0 rfl ?_
  refine v_tableswitch (dt := 129) (cs := [(0, 64), (1, 72), (2, 129), (3, 129), (4, 129), (5, 129), (6, 129), (7, 129), (8, 97), (9, 105), (10, 116), (11, 124)]) C dX11_look_1 (by decide) (by decide) (by decide) (by decide) ?_
  refine v_case (fun c => ?_) (fun c => ?_)
  · replace h := ifT h c
    refine v_aload_n C dX11_look_64 rfl ?_
    obtain ⟨v, e, h⟩ := ob h
    refine v_getR C dX11_look_65 gf_X11_33 e ?_
    obtain ⟨v, e, h⟩ := ob h
    refine v_getI C dX11_look_68 gf_X11_158 e ?_
    exact v_iret C F ⟨rfl, rfl, Nat.le_refl _⟩ dX11_look_71 h
  · replace h := ifF h c
    refine v_case (fun c => ?_) (fun c => ?_)
    · replace h := ifT h c
      refine v_aload_n C dX11_look_72 rfl ?_
      obtain ⟨v, e, h⟩ := ob h
      refine v_getR C dX11_look_73 gf_X11_33 e ?_
      obtain ⟨v, e, h⟩ := ob h
      refine v_getR C dX11_look_76 gf_X11_148 e ?_
      refine v_ifnonnull (tgt := 86) C dX11_look_79 (by decide) (fun c => ?_) (fun c => ?_)
      · replace h := ifT h c
        refine v_aload_n C dX11_look_86 rfl ?_
        obtain ⟨v, e, h⟩ := ob h
        refine v_getR C dX11_look_87 gf_X11_33 e ?_
        obtain ⟨v, e, h⟩ := ob h
        refine v_getR C dX11_look_90 gf_X11_148 e ?_
        obtain ⟨v, e, h⟩ := ob h
        refine v_getI C dX11_look_93 gf_X11_161 e ?_
        exact v_sb (p_X11_look_96 C F h) trivial
      · replace h := ifF h c
        refine v_iconst (v := -1) C dX11_look_82 rfl ?_
        refine v_goto (tgt := 96) C dX11_look_83 (by decide) ?_
        exact v_sb (p_X11_look_96 C F h) trivial
    · replace h := ifF h c
      refine v_case (fun c => ?_) (fun c => ?_)
      · replace h := ifT h c
        exact v_sb (p_X11_look_129 C F h) ⟨rfl, rfl, trivial⟩
      · replace h := ifF h c
        refine v_case (fun c => ?_) (fun c => ?_)
        · replace h := ifT h c
          exact v_sb (p_X11_look_129 C F h) ⟨rfl, rfl, trivial⟩
        · replace h := ifF h c
          refine v_case (fun c => ?_) (fun c => ?_)
          · replace h := ifT h c
            exact v_sb (p_X11_look_129 C F h) ⟨rfl, rfl, trivial⟩
          · replace h := ifF h c
            refine v_case (fun c => ?_) (fun c => ?_)
            · replace h := ifT h c
              exact v_sb (p_X11_look_129 C F h) ⟨rfl, rfl, trivial⟩
            · replace h := ifF h c
              refine v_case (fun c => ?_) (fun c => ?_)
              · replace h := ifT h c
                exact v_sb (p_X11_look_129 C F h) ⟨rfl, rfl, trivial⟩
              · replace h := ifF h c
                refine v_case (fun c => ?_) (fun c => ?_)
                · replace h := ifT h c
                  exact v_sb (p_X11_look_129 C F h) ⟨rfl, rfl, trivial⟩
                · replace h := ifF h c
                  refine v_case (fun c => ?_) (fun c => ?_)
                  · replace h := ifT h c
                    refine v_aload_n C dX11_look_97 rfl ?_
                    obtain ⟨v, e, h⟩ := ob h
                    refine v_getR C dX11_look_98 gf_X11_33 e ?_
                    obtain ⟨v, e, h⟩ := ob h
                    refine v_getI C dX11_look_101 gf_X11_162 e ?_
                    exact v_iret C F ⟨rfl, rfl, Nat.le_refl _⟩ dX11_look_104 h
                  · replace h := ifF h c
                    refine v_case (fun c => ?_) (fun c => ?_)
                    · replace h := ifT h c
                      refine v_aload_n C dX11_look_105 rfl ?_
                      obtain ⟨v, e, h⟩ := ob h
                      refine v_getR C dX11_look_106 gf_X11_33 e ?_
                      obtain ⟨v, e, h⟩ := ob h
                      refine v_getR C dX11_look_109 gf_X11_138 e ?_
                      obtain ⟨v, e, h⟩ := ob h
                      refine v_getI C dX11_look_112 gf_X11_165 e ?_
                      exact v_iret C F ⟨rfl, rfl, Nat.le_refl _⟩ dX11_look_115 h
                    · replace h := ifF h c
                      refine v_case (fun c => ?_) (fun c => ?_)
                      · replace h := ifT h c
                        refine v_aload_n C dX11_look_116 rfl ?_
                        obtain ⟨v, e, h⟩ := ob h
                        refine v_getR C dX11_look_117 gf_X11_33 e ?_
                        obtain ⟨v, e, h⟩ := ob h
                        refine v_getI C dX11_look_120 gf_X11_123 e ?_
                        exact v_iret C F ⟨rfl, rfl, Nat.le_refl _⟩ dX11_look_123 h
                      · replace h := ifF h c
                        refine v_case (fun c => ?_) (fun c => ?_)
                        · replace h := ifT h c
                          refine v_aload_n C dX11_look_124 rfl ?_
                          obtain ⟨v, e, h⟩ := ob h
                          refine v_getI C dX11_look_125 gf_X11_13 e ?_
                          exact v_iret C F ⟨rfl, rfl, Nat.le_refl _⟩ dX11_look_128 h
                        · replace h := ifF h c
                          refine v_caseD ?_
                          exact v_sb (p_X11_look_129 C F h) ⟨rfl, rfl, trivial⟩
set_option maxRecDepth 100000 in
set_option maxHeartbeats 4000000 in
theorem c_X11_look (l : Launch) (g : CG) (N : Nat) (a0 : Option Nat) (a1 : Int32) (μ : Mem) (rv : Int32) (μ9 : Mem) (h : f_X11_look N a0 a1 μ = some (rv, μ9)) : Ct l yX11_look mi_X11_look g [aR a0, aI a1] μ (some (aI rv)) μ9 := ct_of ⟨by decide, rfl, rfl⟩ (Nat.le_of_ble_eq_true rfl) fun x C F => p_X11_look C F h
def f_X10_fetch_33 (N : Nat) (s0 : Int32) (μ : Mem) : Option (Int32 × Mem) :=
  some (s0, μ)
def f_X10_fetch (N : Nat) (a0 : Option Nat) (a1 : Int32) (μ : Mem) : Option (Int32 × Mem) :=
  (mfR μ a0 10 19).bind fun v1 =>
  if ¬ v1 = none then
    (mfR μ a0 10 19).bind fun v2 =>
    (mfR μ v2 8 1).bind fun v3 =>
    (maI μ 0 v3 (a1 &&& 4095)).bind fun v4 =>
    f_X10_fetch_33 N v4 μ
  else
    (mfR μ a0 10 1).bind fun v5 =>
    (maI μ 0 v5 (a1 &&& 4095)).bind fun v6 =>
    f_X10_fetch_33 N v6 μ
set_option maxRecDepth 100000 in
set_option maxHeartbeats 4000000 in
theorem p_X10_fetch_33 {x : CX} {l : Launch} {g : CG} {rv : Int32} {μ0 μ9 : Mem} (C : Cx x l g mi_X10_fetch) (F : Prom x g mi_X10_fetch μ0 (some (aI rv)) μ9) {N : Nat} {s0 : Int32} {μ : Mem} (h : f_X10_fetch_33 N s0 μ = some (rv, μ9)) : V x g 2 0 0 μ 33 [] [aI s0] := by
  unfold f_X10_fetch_33 at h
  exact v_iret C F ⟨rfl, rfl, Nat.le_refl _⟩ dX10_fetch_33 h
set_option maxRecDepth 100000 in
set_option maxHeartbeats 4000000 in
theorem p_X10_fetch {x : CX} {l : Launch} {g : CG} {rv : Int32} {μ0 μ9 : Mem} (C : Cx x l g mi_X10_fetch) (F : Prom x g mi_X10_fetch μ0 (some (aI rv)) μ9) {N : Nat} {a0 : Option Nat} {a1 : Int32} {μ : Mem} (h : f_X10_fetch N a0 a1 μ = some (rv, μ9)) : V x g 2 0 0 μ 0 [(0, aR a0), (1, aI a1)] [] := by
  unfold f_X10_fetch at h
  refine v_aload_n C dX10_fetch_0 rfl ?_
  obtain ⟨v, e, h⟩ := ob h
  refine v_getR C dX10_fetch_1 gf_X10_71 e ?_
  refine v_ifnonnull (tgt := 20) C dX10_fetch_4 (by decide) (fun c => ?_) (fun c => ?_)
  · replace h := ifT h c
    refine v_aload_n C dX10_fetch_20 rfl ?_
    obtain ⟨v, e, h⟩ := ob h
    refine v_getR C dX10_fetch_21 gf_X10_71 e ?_
    obtain ⟨v, e, h⟩ := ob h
    refine v_getR C dX10_fetch_24 gf_X10_78 e ?_
    refine v_iload_n C dX10_fetch_27 rfl ?_
    refine v_sipush (v := 4095) C dX10_fetch_28 rfl ?_
    refine v_iand C dX10_fetch_31 ?_
    obtain ⟨v, e, h⟩ := ob h
    refine v_iaload C dX10_fetch_32 e ?_
    exact v_sb (p_X10_fetch_33 C F h) trivial
  · replace h := ifF h c
    refine v_aload_n C dX10_fetch_7 rfl ?_
    obtain ⟨v, e, h⟩ := ob h
    refine v_getR C dX10_fetch_8 gf_X10_9 e ?_
    refine v_iload_n C dX10_fetch_11 rfl ?_
    refine v_sipush (v := 4095) C dX10_fetch_12 rfl ?_
    refine v_iand C dX10_fetch_15 ?_
    obtain ⟨v, e, h⟩ := ob h
    refine v_iaload C dX10_fetch_16 e ?_
    refine v_goto (tgt := 33) C dX10_fetch_17 (by decide) ?_
    exact v_sb (p_X10_fetch_33 C F h) trivial
set_option maxRecDepth 100000 in
set_option maxHeartbeats 4000000 in
theorem c_X10_fetch (l : Launch) (g : CG) (N : Nat) (a0 : Option Nat) (a1 : Int32) (μ : Mem) (rv : Int32) (μ9 : Mem) (h : f_X10_fetch N a0 a1 μ = some (rv, μ9)) : Ct l yX10_fetch mi_X10_fetch g [aR a0, aI a1] μ (some (aI rv)) μ9 := ct_of ⟨by decide, rfl, rfl⟩ (Nat.le_of_ble_eq_true rfl) fun x C F => p_X10_fetch C F h
def f_X11_word_29 (N : Nat) (s0 : Int32) (μ : Mem) : Option (Int32 × Mem) :=
  some (s0, μ)
def f_X11_word_20 (N : Nat) (μ : Mem) : Option (Int32 × Mem) :=
  f_X11_word_29 N ((-1)) μ
def f_X11_word (N : Nat) (a0 : Option Nat) (a1 : Int32) (a2 : Int32) (μ : Mem) : Option (Int32 × Mem) :=
  (mfR μ a0 11 3).bind fun v1 =>
  (mck μ v1 2).bind fun b3 =>
  (f_X2_userAt N (some b3) a1 μ).bind fun q2 =>
  if q2.1 = none then
    f_X11_word_20 N q2.2
  else
    (f_X11_isWord N a2 q2.2).bind fun q4 =>
    if ¬ q4.1 = 0 then
      (mck q4.2 q2.1 10).bind fun b6 =>
      (f_X10_fetch N (some b6) a2 q4.2).bind fun q5 =>
      f_X11_word_29 N q5.1 q5.2
    else
      f_X11_word_20 N q4.2
set_option maxRecDepth 100000 in
set_option maxHeartbeats 4000000 in
theorem p_X11_word_29 {x : CX} {l : Launch} {g : CG} {rv : Int32} {μ0 μ9 : Mem} (C : Cx x l g mi_X11_word) (F : Prom x g mi_X11_word μ0 (some (aI rv)) μ9) {N : Nat} {s0 : Int32} {μ : Mem} (h : f_X11_word_29 N s0 μ = some (rv, μ9)) : V x g 4 0 0 μ 29 [] [aI s0] := by
  unfold f_X11_word_29 at h
  exact v_iret C F ⟨rfl, rfl, Nat.le_refl _⟩ dX11_word_29 h
set_option maxRecDepth 100000 in
set_option maxHeartbeats 4000000 in
theorem p_X11_word_20 {x : CX} {l : Launch} {g : CG} {rv : Int32} {μ0 μ9 : Mem} (C : Cx x l g mi_X11_word) (F : Prom x g mi_X11_word μ0 (some (aI rv)) μ9) {N : Nat} {μ : Mem} (h : f_X11_word_20 N μ = some (rv, μ9)) : V x g 4 0 0 μ 20 [] [] := by
  unfold f_X11_word_20 at h
  refine v_iconst (v := -1) C dX11_word_20 rfl ?_
  refine v_goto (tgt := 29) C dX11_word_21 (by decide) ?_
  exact v_sb (p_X11_word_29 C F h) trivial
set_option maxRecDepth 100000 in
set_option maxHeartbeats 4000000 in
theorem p_X11_word {x : CX} {l : Launch} {g : CG} {rv : Int32} {μ0 μ9 : Mem} (C : Cx x l g mi_X11_word) (F : Prom x g mi_X11_word μ0 (some (aI rv)) μ9) {N : Nat} {a0 : Option Nat} {a1 : Int32} {a2 : Int32} {μ : Mem} (h : f_X11_word N a0 a1 a2 μ = some (rv, μ9)) : V x g 4 0 0 μ 0 [(0, aR a0), (1, aI a1), (2, aI a2)] [] := by
  unfold f_X11_word at h
  refine v_aload_n C dX11_word_0 rfl ?_
  obtain ⟨v, e, h⟩ := ob h
  refine v_getR C dX11_word_1 gf_X11_33 e ?_
  refine v_iload_n C dX11_word_4 rfl ?_
  obtain ⟨b, e0, h⟩ := ob h
  obtain ⟨q, e, h⟩ := ob h
  refine v_callV (As := [_]) C dX11_word_5 cf_X11_77 (rm_X11_word_X2_userAt) ⟨rfl, rfl⟩ e0 rfl (Nat.le_of_ble_eq_true rfl) (c_X2_userAt _ _ N _ _ _ q.1 q.2 e) ?_
  refine v_astore_n C dX11_word_8 (by decide) ?_
  refine v_aload_n C dX11_word_9 rfl ?_
  refine v_ifnull (tgt := 20) C dX11_word_10 (by decide) (fun c => ?_) (fun c => ?_)
  · replace h := ifT h c
    exact v_sb (p_X11_word_20 C F h) trivial
  · replace h := ifF h c
    refine v_iload_n C dX11_word_13 rfl ?_
    obtain ⟨q, e, h⟩ := ob h
    refine v_callS (As := [_]) C dX11_word_14 cf_X11_89 (rm_X11_word_X11_isWord) ⟨rfl, rfl⟩ rfl (Nat.le_of_ble_eq_true rfl) (c_X11_isWord _ _ N _ _ q.1 q.2 e) ?_
    refine v_if_ne (tgt := 24) C dX11_word_17 (by decide) (fun c => ?_) (fun c => ?_)
    · replace h := ifT h c
      refine v_aload_n C dX11_word_24 rfl ?_
      refine v_iload_n C dX11_word_25 rfl ?_
      obtain ⟨b, e0, h⟩ := ob h
      obtain ⟨q, e, h⟩ := ob h
      refine v_callV (As := [_]) C dX11_word_26 cf_X11_175 (rm_X11_word_X10_fetch) ⟨rfl, rfl⟩ e0 rfl (Nat.le_of_ble_eq_true rfl) (c_X10_fetch _ _ N _ _ _ q.1 q.2 e) ?_
      exact v_sb (p_X11_word_29 C F h) trivial
    · replace h := ifF h c
      exact v_sb (p_X11_word_20 C F h) trivial
set_option maxRecDepth 100000 in
set_option maxHeartbeats 4000000 in
theorem c_X11_word (l : Launch) (g : CG) (N : Nat) (a0 : Option Nat) (a1 : Int32) (a2 : Int32) (μ : Mem) (rv : Int32) (μ9 : Mem) (h : f_X11_word N a0 a1 a2 μ = some (rv, μ9)) : Ct l yX11_word mi_X11_word g [aR a0, aI a1, aI a2] μ (some (aI rv)) μ9 := ct_of ⟨by decide, rfl, rfl⟩ (Nat.le_of_ble_eq_true rfl) fun x C F => p_X11_word C F h
def f_X2_slotAt_23 (N : Nat) (s0 : Option Nat) (μ : Mem) : Option (Option Nat × Mem) :=
  some (s0, μ)
def f_X2_slotAt_13 (N : Nat) (μ : Mem) : Option (Option Nat × Mem) :=
  f_X2_slotAt_23 N none μ
def f_X2_slotAt (N : Nat) (a0 : Option Nat) (a1 : Int32) (μ : Mem) : Option (Option Nat × Mem) :=
  if a1 < 0 then
    f_X2_slotAt_13 N μ
  else
    (mfR μ a0 2 1).bind fun v1 =>
    (mal μ v1).bind fun v2 =>
    if a1 < v2 then
      (mfR μ a0 2 1).bind fun v3 =>
      (maR μ 5 v3 a1).bind fun v4 =>
      f_X2_slotAt_23 N v4 μ
    else
      f_X2_slotAt_13 N μ
set_option maxRecDepth 100000 in
set_option maxHeartbeats 4000000 in
theorem p_X2_slotAt_23 {x : CX} {l : Launch} {g : CG} {rv : Option Nat} {μ0 μ9 : Mem} (C : Cx x l g mi_X2_slotAt) (F : Prom x g mi_X2_slotAt μ0 (some (aR rv)) μ9) {N : Nat} {s0 : Option Nat} {μ : Mem} (h : f_X2_slotAt_23 N s0 μ = some (rv, μ9)) : V x g 2 0 0 μ 23 [] [aR s0] := by
  unfold f_X2_slotAt_23 at h
  exact v_aret C F ⟨rfl, rfl, Nat.le_refl _⟩ dX2_slotAt_23 h
set_option maxRecDepth 100000 in
set_option maxHeartbeats 4000000 in
theorem p_X2_slotAt_13 {x : CX} {l : Launch} {g : CG} {rv : Option Nat} {μ0 μ9 : Mem} (C : Cx x l g mi_X2_slotAt) (F : Prom x g mi_X2_slotAt μ0 (some (aR rv)) μ9) {N : Nat} {μ : Mem} (h : f_X2_slotAt_13 N μ = some (rv, μ9)) : V x g 2 0 0 μ 13 [] [] := by
  unfold f_X2_slotAt_13 at h
  refine v_null C dX2_slotAt_13 ?_
  refine v_goto (tgt := 23) C dX2_slotAt_14 (by decide) ?_
  exact v_sb (p_X2_slotAt_23 C F h) trivial
set_option maxRecDepth 100000 in
set_option maxHeartbeats 4000000 in
theorem p_X2_slotAt {x : CX} {l : Launch} {g : CG} {rv : Option Nat} {μ0 μ9 : Mem} (C : Cx x l g mi_X2_slotAt) (F : Prom x g mi_X2_slotAt μ0 (some (aR rv)) μ9) {N : Nat} {a0 : Option Nat} {a1 : Int32} {μ : Mem} (h : f_X2_slotAt N a0 a1 μ = some (rv, μ9)) : V x g 2 0 0 μ 0 [(0, aR a0), (1, aI a1)] [] := by
  unfold f_X2_slotAt at h
  refine v_iload_n C dX2_slotAt_0 rfl ?_
  refine v_if_lt (tgt := 13) C dX2_slotAt_1 (by decide) (fun c => ?_) (fun c => ?_)
  · replace h := ifT h c
    exact v_sb (p_X2_slotAt_13 C F h) trivial
  · replace h := ifF h c
    refine v_iload_n C dX2_slotAt_4 rfl ?_
    refine v_aload_n C dX2_slotAt_5 rfl ?_
    obtain ⟨v, e, h⟩ := ob h
    refine v_getR C dX2_slotAt_6 gf_X2_59 e ?_
    obtain ⟨v, e, h⟩ := ob h
    refine v_alen C dX2_slotAt_9 e ?_
    refine v_icmp_lt (tgt := 17) C dX2_slotAt_10 (by decide) (fun c => ?_) (fun c => ?_)
    · replace h := ifT h c
      refine v_aload_n C dX2_slotAt_17 rfl ?_
      obtain ⟨v, e, h⟩ := ob h
      refine v_getR C dX2_slotAt_18 gf_X2_59 e ?_
      refine v_iload_n C dX2_slotAt_21 rfl ?_
      obtain ⟨v, e, h⟩ := ob h
      refine v_aaload5 C dX2_slotAt_22 e ?_
      exact v_sb (p_X2_slotAt_23 C F h) trivial
    · replace h := ifF h c
      exact v_sb (p_X2_slotAt_13 C F h) trivial
set_option maxRecDepth 100000 in
set_option maxHeartbeats 4000000 in
theorem c_X2_slotAt (l : Launch) (g : CG) (N : Nat) (a0 : Option Nat) (a1 : Int32) (μ : Mem) (rv : Option Nat) (μ9 : Mem) (h : f_X2_slotAt N a0 a1 μ = some (rv, μ9)) : Ct l yX2_slotAt mi_X2_slotAt g [aR a0, aI a1] μ (some (aR rv)) μ9 := ct_of ⟨by decide, rfl, rfl⟩ (Nat.le_of_ble_eq_true rfl) fun x C F => p_X2_slotAt C F h
def f_X11_core_30 (N : Nat) (s0 : Int32) (μ : Mem) : Option (Int32 × Mem) :=
  some (s0, μ)
def f_X11_core_20 (N : Nat) (μ : Mem) : Option (Int32 × Mem) :=
  f_X11_core_30 N ((-1)) μ
def f_X11_core (N : Nat) (a0 : Option Nat) (a1 : Int32) (a2 : Int32) (μ : Mem) : Option (Int32 × Mem) :=
  (mfR μ a0 11 3).bind fun v1 =>
  (mck μ v1 2).bind fun b3 =>
  (f_X2_slotAt N (some b3) a1 μ).bind fun q2 =>
  if q2.1 = none then
    f_X11_core_20 N q2.2
  else
    (f_X11_isWord N a2 q2.2).bind fun q4 =>
    if ¬ q4.1 = 0 then
      (mfR q4.2 q2.1 8 1).bind fun v5 =>
      (maI q4.2 0 v5 a2).bind fun v6 =>
      f_X11_core_30 N v6 q4.2
    else
      f_X11_core_20 N q4.2
set_option maxRecDepth 100000 in
set_option maxHeartbeats 4000000 in
theorem p_X11_core_30 {x : CX} {l : Launch} {g : CG} {rv : Int32} {μ0 μ9 : Mem} (C : Cx x l g mi_X11_core) (F : Prom x g mi_X11_core μ0 (some (aI rv)) μ9) {N : Nat} {s0 : Int32} {μ : Mem} (h : f_X11_core_30 N s0 μ = some (rv, μ9)) : V x g 4 0 0 μ 30 [] [aI s0] := by
  unfold f_X11_core_30 at h
  exact v_iret C F ⟨rfl, rfl, Nat.le_refl _⟩ dX11_core_30 h
set_option maxRecDepth 100000 in
set_option maxHeartbeats 4000000 in
theorem p_X11_core_20 {x : CX} {l : Launch} {g : CG} {rv : Int32} {μ0 μ9 : Mem} (C : Cx x l g mi_X11_core) (F : Prom x g mi_X11_core μ0 (some (aI rv)) μ9) {N : Nat} {μ : Mem} (h : f_X11_core_20 N μ = some (rv, μ9)) : V x g 4 0 0 μ 20 [] [] := by
  unfold f_X11_core_20 at h
  refine v_iconst (v := -1) C dX11_core_20 rfl ?_
  refine v_goto (tgt := 30) C dX11_core_21 (by decide) ?_
  exact v_sb (p_X11_core_30 C F h) trivial
set_option maxRecDepth 100000 in
set_option maxHeartbeats 4000000 in
theorem p_X11_core {x : CX} {l : Launch} {g : CG} {rv : Int32} {μ0 μ9 : Mem} (C : Cx x l g mi_X11_core) (F : Prom x g mi_X11_core μ0 (some (aI rv)) μ9) {N : Nat} {a0 : Option Nat} {a1 : Int32} {a2 : Int32} {μ : Mem} (h : f_X11_core N a0 a1 a2 μ = some (rv, μ9)) : V x g 4 0 0 μ 0 [(0, aR a0), (1, aI a1), (2, aI a2)] [] := by
  unfold f_X11_core at h
  refine v_aload_n C dX11_core_0 rfl ?_
  obtain ⟨v, e, h⟩ := ob h
  refine v_getR C dX11_core_1 gf_X11_33 e ?_
  refine v_iload_n C dX11_core_4 rfl ?_
  obtain ⟨b, e0, h⟩ := ob h
  obtain ⟨q, e, h⟩ := ob h
  refine v_callV (As := [_]) C dX11_core_5 cf_X11_178 (rm_X11_core_X2_slotAt) ⟨rfl, rfl⟩ e0 rfl (Nat.le_of_ble_eq_true rfl) (c_X2_slotAt _ _ N _ _ _ q.1 q.2 e) ?_
  refine v_astore_n C dX11_core_8 (by decide) ?_
  refine v_aload_n C dX11_core_9 rfl ?_
  refine v_ifnull (tgt := 20) C dX11_core_10 (by decide) (fun c => ?_) (fun c => ?_)
  · replace h := ifT h c
    exact v_sb (p_X11_core_20 C F h) trivial
  · replace h := ifF h c
    refine v_iload_n C dX11_core_13 rfl ?_
    obtain ⟨q, e, h⟩ := ob h
    refine v_callS (As := [_]) C dX11_core_14 cf_X11_89 (rm_X11_core_X11_isWord) ⟨rfl, rfl⟩ rfl (Nat.le_of_ble_eq_true rfl) (c_X11_isWord _ _ N _ _ q.1 q.2 e) ?_
    refine v_if_ne (tgt := 24) C dX11_core_17 (by decide) (fun c => ?_) (fun c => ?_)
    · replace h := ifT h c
      refine v_aload_n C dX11_core_24 rfl ?_
      obtain ⟨v, e, h⟩ := ob h
      refine v_getR C dX11_core_25 gf_X11_182 e ?_
      refine v_iload_n C dX11_core_28 rfl ?_
      obtain ⟨v, e, h⟩ := ob h
      refine v_iaload C dX11_core_29 e ?_
      exact v_sb (p_X11_core_30 C F h) trivial
    · replace h := ifF h c
      exact v_sb (p_X11_core_20 C F h) trivial
set_option maxRecDepth 100000 in
set_option maxHeartbeats 4000000 in
theorem c_X11_core (l : Launch) (g : CG) (N : Nat) (a0 : Option Nat) (a1 : Int32) (a2 : Int32) (μ : Mem) (rv : Int32) (μ9 : Mem) (h : f_X11_core N a0 a1 a2 μ = some (rv, μ9)) : Ct l yX11_core mi_X11_core g [aR a0, aI a1, aI a2] μ (some (aI rv)) μ9 := ct_of ⟨by decide, rfl, rfl⟩ (Nat.le_of_ble_eq_true rfl) fun x C F => p_X11_core C F h
