/-! LAYER 1, ShareEightModel: ends, moves, given, starts, queuesTask (by program) -/
def f_X12_ends_158 (N : Nat) (a0 : Option Nat) (s0 : Option Nat) (s1 : Int32) (μ : Mem) : Option (Unit × Mem) :=
  (mpZ μ s0 12 77 s1).bind fun μ1 =>
  (mpI μ1 a0 12 67 0).bind fun μ2 =>
  some ((), μ2)
def f_X12_ends_144 (N : Nat) (a0 : Option Nat) (μ : Mem) : Option (Unit × Mem) :=
  (mfI μ a0 12 67).bind fun v1 =>
  if v1 ≤ (2 : Int32) then
    f_X12_ends_158 N a0 a0 0 μ
  else
    f_X12_ends_158 N a0 a0 1 μ
def f_X12_ends (N : Nat) (a0 : Option Nat) (a1 : Int32) (μ : Mem) : Option (Unit × Mem) :=
  (mfI μ a0 12 67).bind fun v1 =>
  if ¬ v1 = (1 : Int32) then
    (mfI μ a0 12 67).bind fun v2 =>
    if ¬ v2 = (2 : Int32) then
      (mfR μ a0 12 43).bind fun v3 =>
      (mbI μ 0 v3 a1 0).bind fun μ4 =>
      (mfR μ4 a0 12 48).bind fun v5 =>
      (maI μ4 0 v5 a1).bind fun v6 =>
      (mbI μ4 0 v5 a1 (v6 + 1)).bind fun μ7 =>
      (mfI μ7 a0 12 75).bind fun v8 =>
      (mpI μ7 a0 12 75 (v8 + 1)).bind fun μ9 =>
      (mfI μ9 a0 12 73).bind fun v10 =>
      (mpI μ9 a0 12 73 (v10 + 1)).bind fun μ11 =>
      (mfR μ11 a0 12 40).bind fun v12 =>
      (mfR μ11 a0 12 41).bind fun v13 =>
      (maI μ11 0 v13 a1).bind fun v14 =>
      (mbZ μ11 2 v12 v14 1).bind fun μ15 =>
      (mck μ15 a0 12).bind fun b17 =>
      (f_X12_becomesReady N (some b17) a1 μ15).bind fun q16 =>
      f_X12_ends_144 N a0 q16.2
    else
      (mfR μ a0 12 41).bind fun v18 =>
      (mfI μ a0 12 69).bind fun v19 =>
      (mbI μ 0 v18 a1 v19).bind fun μ20 =>
      (mfR μ20 a0 12 38).bind fun v21 =>
      (mfI μ20 a0 12 69).bind fun v22 =>
      (mbI μ20 0 v21 v22 a1).bind fun μ23 =>
      (mfR μ23 a0 12 39).bind fun v24 =>
      (mfI μ23 a0 12 69).bind fun v25 =>
      (mbZ μ23 2 v24 v25 0).bind fun μ26 =>
      (mfR μ26 a0 12 40).bind fun v27 =>
      (mfI μ26 a0 12 69).bind fun v28 =>
      (mbZ μ26 2 v27 v28 0).bind fun μ29 =>
      (mfI μ29 a0 12 71).bind fun v30 =>
      (mpI μ29 a0 12 71 (v30 + 1)).bind fun μ31 =>
      f_X12_ends_144 N a0 μ31
  else
    (mfI μ a0 12 69).bind fun v32 =>
    (mck μ a0 12).bind fun b34 =>
    (f_X12_nobodys N (some b34) v32 μ).bind fun q33 =>
    (mfI q33.2 a0 12 72).bind fun v35 =>
    (mpI q33.2 a0 12 72 (v35 + 1)).bind fun μ36 =>
    f_X12_ends_144 N a0 μ36
set_option maxRecDepth 100000 in
set_option maxHeartbeats 4000000 in
theorem p_X12_ends_158 {x : CX} {l : Launch} {g : CG} {rv : Unit} {μ0 μ9 : Mem} (C : Cx x l g mi_X12_ends) (F : Prom x g mi_X12_ends μ0 none μ9) {N : Nat} {a0 : Option Nat} {s0 : Option Nat} {s1 : Int32} {μ : Mem} (h : f_X12_ends_158 N a0 s0 s1 μ = some (rv, μ9)) : V x g 2 0 0 μ 158 [(0, aR a0)] [aI s1, aR s0] := by
  unfold f_X12_ends_158 at h
  obtain ⟨m, e, h⟩ := ob h
  refine v_putZ C dX12_ends_158 (pf_X12_414 _) e ?_
  refine v_aload_n C dX12_ends_161 rfl ?_
  refine v_iconst (v := 0) C dX12_ends_162 rfl ?_
  obtain ⟨m, e, h⟩ := ob h
  refine v_putI C dX12_ends_163 (pf_X12_344 _) e ?_
  exact v_vret C F ⟨rfl, rfl, Nat.le_refl _⟩ dX12_ends_166 h
set_option maxRecDepth 100000 in
set_option maxHeartbeats 4000000 in
theorem p_X12_ends_144 {x : CX} {l : Launch} {g : CG} {rv : Unit} {μ0 μ9 : Mem} (C : Cx x l g mi_X12_ends) (F : Prom x g mi_X12_ends μ0 none μ9) {N : Nat} {a0 : Option Nat} {μ : Mem} (h : f_X12_ends_144 N a0 μ = some (rv, μ9)) : V x g 2 0 0 μ 144 [(0, aR a0)] [] := by
  unfold f_X12_ends_144 at h
  refine v_aload_n C dX12_ends_144 rfl ?_
  refine v_aload_n C dX12_ends_145 rfl ?_
  obtain ⟨v, e, h⟩ := ob h
  refine v_getI C dX12_ends_146 gf_X12_344 e ?_
  refine v_iconst (v := 2) C dX12_ends_149 rfl ?_
  refine v_icmp_le (tgt := 157) C dX12_ends_150 (by decide) (fun c => ?_) (fun c => ?_)
  · replace h := ifT h c
    refine v_iconst (v := 0) C dX12_ends_157 rfl ?_
    exact v_sb (p_X12_ends_158 C F h) ⟨rfl, trivial⟩
  · replace h := ifF h c
    refine v_iconst (v := 1) C dX12_ends_153 rfl ?_
    refine v_goto (tgt := 158) C dX12_ends_154 (by decide) ?_
    exact v_sb (p_X12_ends_158 C F h) ⟨rfl, trivial⟩
set_option maxRecDepth 100000 in
set_option maxHeartbeats 4000000 in
theorem p_X12_ends {x : CX} {l : Launch} {g : CG} {rv : Unit} {μ0 μ9 : Mem} (C : Cx x l g mi_X12_ends) (F : Prom x g mi_X12_ends μ0 none μ9) {N : Nat} {a0 : Option Nat} {a1 : Int32} {μ : Mem} (h : f_X12_ends N a0 a1 μ = some (rv, μ9)) : V x g 2 0 0 μ 0 [(0, aR a0), (1, aI a1)] [] := by
  unfold f_X12_ends at h
  refine v_aload_n C dX12_ends_0 rfl ?_
  obtain ⟨v, e, h⟩ := ob h
  refine v_getI C dX12_ends_1 gf_X12_344 e ?_
  refine v_iconst (v := 1) C dX12_ends_4 rfl ?_
  refine v_icmp_ne (tgt := 29) C dX12_ends_5 (by decide) (fun c => ?_) (fun c => ?_)
  · replace h := ifT h c
    refine v_aload_n C dX12_ends_29 rfl ?_
    obtain ⟨v, e, h⟩ := ob h
    refine v_getI C dX12_ends_30 gf_X12_344 e ?_
    refine v_iconst (v := 2) C dX12_ends_33 rfl ?_
    refine v_icmp_ne (tgt := 90) C dX12_ends_34 (by decide) (fun c => ?_) (fun c => ?_)
    · replace h := ifT h c
      refine v_aload_n C dX12_ends_90 rfl ?_
      obtain ⟨v, e, h⟩ := ob h
      refine v_getR C dX12_ends_91 gf_X12_281 e ?_
      refine v_iload_n C dX12_ends_94 rfl ?_
      refine v_iconst (v := 0) C dX12_ends_95 rfl ?_
      obtain ⟨m, e, h⟩ := ob h
      refine v_iastore C dX12_ends_96 e ?_
      refine v_aload_n C dX12_ends_97 rfl ?_
      obtain ⟨v, e, h⟩ := ob h
      refine v_getR C dX12_ends_98 gf_X12_296 e ?_
      refine v_iload_n C dX12_ends_101 rfl ?_
      refine v_dup2 C dX12_ends_102 rfl rfl ?_
      obtain ⟨v, e, h⟩ := ob h
      refine v_iaload C dX12_ends_103 e ?_
      refine v_iconst (v := 1) C dX12_ends_104 rfl ?_
      refine v_iadd C dX12_ends_105 ?_
      obtain ⟨m, e, h⟩ := ob h
      refine v_iastore C dX12_ends_106 e ?_
      refine v_aload_n C dX12_ends_107 rfl ?_
      refine v_dup C dX12_ends_108 rfl ?_
      obtain ⟨v, e, h⟩ := ob h
      refine v_getI C dX12_ends_109 gf_X12_372 e ?_
      refine v_iconst (v := 1) C dX12_ends_112 rfl ?_
      refine v_iadd C dX12_ends_113 ?_
      obtain ⟨m, e, h⟩ := ob h
      refine v_putI C dX12_ends_114 (pf_X12_372 _) e ?_
      refine v_aload_n C dX12_ends_117 rfl ?_
      refine v_dup C dX12_ends_118 rfl ?_
      obtain ⟨v, e, h⟩ := ob h
      refine v_getI C dX12_ends_119 gf_X12_411 e ?_
      refine v_iconst (v := 1) C dX12_ends_122 rfl ?_
      refine v_iadd C dX12_ends_123 ?_
      obtain ⟨m, e, h⟩ := ob h
      refine v_putI C dX12_ends_124 (pf_X12_411 _) e ?_
      refine v_aload_n C dX12_ends_127 rfl ?_
      obtain ⟨v, e, h⟩ := ob h
      refine v_getR C dX12_ends_128 gf_X12_272 e ?_
      refine v_aload_n C dX12_ends_131 rfl ?_
      obtain ⟨v, e, h⟩ := ob h
      refine v_getR C dX12_ends_132 gf_X12_275 e ?_
      refine v_iload_n C dX12_ends_135 rfl ?_
      obtain ⟨v, e, h⟩ := ob h
      refine v_iaload C dX12_ends_136 e ?_
      refine v_iconst (v := 1) C dX12_ends_137 rfl ?_
      obtain ⟨m, e, h⟩ := ob h
      refine v_bastore C dX12_ends_138 e ?_
      refine v_aload_n C dX12_ends_139 rfl ?_
      refine v_iload_n C dX12_ends_140 rfl ?_
      obtain ⟨b, e0, h⟩ := ob h
      obtain ⟨q, e, h⟩ := ob h
      refine v_callV (As := [_]) C dX12_ends_141 cf_X12_362 (rm_X12_ends_X12_becomesReady) ⟨rfl, rfl⟩ e0 rfl (Nat.le_of_ble_eq_true rfl) (c_X12_becomesReady _ _ N _ _ _ q.1 q.2 e) ?_
      exact v_sb (p_X12_ends_144 C F h) ⟨rfl, trivial⟩
    · replace h := ifF h c
      refine v_aload_n C dX12_ends_37 rfl ?_
      obtain ⟨v, e, h⟩ := ob h
      refine v_getR C dX12_ends_38 gf_X12_275 e ?_
      refine v_iload_n C dX12_ends_41 rfl ?_
      refine v_aload_n C dX12_ends_42 rfl ?_
      obtain ⟨v, e, h⟩ := ob h
      refine v_getI C dX12_ends_43 gf_X12_396 e ?_
      obtain ⟨m, e, h⟩ := ob h
      refine v_iastore C dX12_ends_46 e ?_
      refine v_aload_n C dX12_ends_47 rfl ?_
      obtain ⟨v, e, h⟩ := ob h
      refine v_getR C dX12_ends_48 gf_X12_266 e ?_
      refine v_aload_n C dX12_ends_51 rfl ?_
      obtain ⟨v, e, h⟩ := ob h
      refine v_getI C dX12_ends_52 gf_X12_396 e ?_
      refine v_iload_n C dX12_ends_55 rfl ?_
      obtain ⟨m, e, h⟩ := ob h
      refine v_iastore C dX12_ends_56 e ?_
      refine v_aload_n C dX12_ends_57 rfl ?_
      obtain ⟨v, e, h⟩ := ob h
      refine v_getR C dX12_ends_58 gf_X12_269 e ?_
      refine v_aload_n C dX12_ends_61 rfl ?_
      obtain ⟨v, e, h⟩ := ob h
      refine v_getI C dX12_ends_62 gf_X12_396 e ?_
      refine v_iconst (v := 0) C dX12_ends_65 rfl ?_
      obtain ⟨m, e, h⟩ := ob h
      refine v_bastore C dX12_ends_66 e ?_
      refine v_aload_n C dX12_ends_67 rfl ?_
      obtain ⟨v, e, h⟩ := ob h
      refine v_getR C dX12_ends_68 gf_X12_272 e ?_
      refine v_aload_n C dX12_ends_71 rfl ?_
      obtain ⟨v, e, h⟩ := ob h
      refine v_getI C dX12_ends_72 gf_X12_396 e ?_
      refine v_iconst (v := 0) C dX12_ends_75 rfl ?_
      obtain ⟨m, e, h⟩ := ob h
      refine v_bastore C dX12_ends_76 e ?_
      refine v_aload_n C dX12_ends_77 rfl ?_
      refine v_dup C dX12_ends_78 rfl ?_
      obtain ⟨v, e, h⟩ := ob h
      refine v_getI C dX12_ends_79 gf_X12_408 e ?_
      refine v_iconst (v := 1) C dX12_ends_82 rfl ?_
      refine v_iadd C dX12_ends_83 ?_
      obtain ⟨m, e, h⟩ := ob h
      refine v_putI C dX12_ends_84 (pf_X12_408 _) e ?_
      refine v_goto (tgt := 144) C dX12_ends_87 (by decide) ?_
      exact v_sb (p_X12_ends_144 C F h) ⟨rfl, trivial⟩
  · replace h := ifF h c
    refine v_aload_n C dX12_ends_8 rfl ?_
    refine v_aload_n C dX12_ends_9 rfl ?_
    obtain ⟨v, e, h⟩ := ob h
    refine v_getI C dX12_ends_10 gf_X12_396 e ?_
    obtain ⟨b, e0, h⟩ := ob h
    obtain ⟨q, e, h⟩ := ob h
    refine v_callV (As := [_]) C dX12_ends_13 cf_X12_356 (rm_X12_ends_X12_nobodys) ⟨rfl, rfl⟩ e0 rfl (Nat.le_of_ble_eq_true rfl) (c_X12_nobodys _ _ N _ _ _ q.1 q.2 e) ?_
    refine v_aload_n C dX12_ends_16 rfl ?_
    refine v_dup C dX12_ends_17 rfl ?_
    obtain ⟨v, e, h⟩ := ob h
    refine v_getI C dX12_ends_18 gf_X12_405 e ?_
    refine v_iconst (v := 1) C dX12_ends_21 rfl ?_
    refine v_iadd C dX12_ends_22 ?_
    obtain ⟨m, e, h⟩ := ob h
    refine v_putI C dX12_ends_23 (pf_X12_405 _) e ?_
    refine v_goto (tgt := 144) C dX12_ends_26 (by decide) ?_
    exact v_sb (p_X12_ends_144 C F h) ⟨rfl, trivial⟩
set_option maxRecDepth 100000 in
set_option maxHeartbeats 4000000 in
theorem c_X12_ends (l : Launch) (g : CG) (N : Nat) (a0 : Option Nat) (a1 : Int32) (μ : Mem) (rv : Unit) (μ9 : Mem) (h : f_X12_ends N a0 a1 μ = some (rv, μ9)) : Ct l yX12_ends mi_X12_ends g [aR a0, aI a1] μ none μ9 := ct_of ⟨by decide, rfl, rfl⟩ (Nat.le_of_ble_eq_true rfl) fun x C F => p_X12_ends C F h
def f_X12_moves_204 (N : Nat) (μ : Mem) : Option (Unit × Mem) :=
  some ((), μ)
def f_X12_moves_196 (N : Nat) (a0 : Option Nat) (a1 : Int32) (s0 : Int32) (s1 : Int32) (μ : Mem) : Option (Unit × Mem) :=
  if ¬ s0 = s1 then
    f_X12_moves_204 N μ
  else
    (mck μ a0 12).bind fun b2 =>
    (f_X12_ends N (some b2) a1 μ).bind fun q1 =>
    f_X12_moves_204 N q1.2
def f_X12_moves_159 (N : Nat) (k7 : (Option Nat) → Int32 → Int32 → Mem → Option (Unit × Mem)) (a0 : Option Nat) (a1 : Int32) (a2 : Int32) (μ : Mem) : Option (Unit × Mem) :=
  (mfI μ a0 12 70).bind fun v1 =>
  (mpI μ a0 12 70 (v1 + 1)).bind fun μ2 =>
  k7 a0 a1 (a2 + 1) μ2
def H_X12_moves_7 (N : Nat) (k7 : (Option Nat) → Int32 → Int32 → Mem → Option (Unit × Mem)) (a0 : Option Nat) (a1 : Int32) (a2 : Int32) (μ : Mem) : Option (Unit × Mem) :=
  if (16 : Int32) ≤ a2 then
    (mfI μ a0 12 70).bind fun v1 =>
    (mfI μ a0 12 67).bind fun v2 =>
    if (3 : Int32) ≤ v2 then
      f_X12_moves_196 N a0 a1 v1 128 μ
    else
      f_X12_moves_196 N a0 a1 v1 4096 μ
  else
    (mfR μ a0 12 59).bind fun v3 =>
    (maI μ 0 v3 a1).bind fun v4 =>
    (mfI μ a0 12 70).bind fun v5 =>
    (mfR μ a0 12 60).bind fun v6 =>
    (maI μ 0 v6 a1).bind fun v7 =>
    (mfI μ a0 12 70).bind fun v8 =>
    (mfI μ a0 12 67).bind fun v9 =>
    if ¬ v9 = (1 : Int32) then
      (mfI μ a0 12 67).bind fun v10 =>
      if ¬ v10 = (2 : Int32) then
        (mfI μ a0 12 67).bind fun v11 =>
        if ¬ v11 = (3 : Int32) then
          (mfR μ a0 12 37).bind fun v12 =>
          (maR μ 3 v12 a1).bind fun v13 =>
          (mck μ a0 12).bind fun b15 =>
          (f_X12_load N (some b15) a1 ((v4 + v5) &&& 4095) μ).bind fun q14 =>
          (mbI q14.2 0 v13 ((128 * v7) + v8) q14.1).bind fun μ16 =>
          f_X12_moves_159 N k7 a0 a1 a2 μ16
        else
          (mfR μ a0 12 37).bind fun v17 =>
          (maR μ 3 v17 a1).bind fun v18 =>
          (maI μ 0 v18 ((128 * v7) + v8)).bind fun v19 =>
          (mck μ a0 12).bind fun b21 =>
          (f_X12_store N (some b21) a1 ((v4 + v5) &&& 4095) v19 μ).bind fun q20 =>
          f_X12_moves_159 N k7 a0 a1 a2 q20.2
      else
        (mfR μ a0 12 35).bind fun v22 =>
        (mfI μ a0 12 69).bind fun v23 =>
        (maR μ 3 v22 v23).bind fun v24 =>
        (mfI μ a0 12 70).bind fun v25 =>
        (mfR μ a0 12 36).bind fun v26 =>
        (maR μ 3 v26 a1).bind fun v27 =>
        (mfI μ a0 12 70).bind fun v28 =>
        (maI μ 0 v27 v28).bind fun v29 =>
        (mbI μ 0 v24 v25 v29).bind fun μ30 =>
        f_X12_moves_159 N k7 a0 a1 a2 μ30
    else
      (mfR μ a0 12 36).bind fun v31 =>
      (maR μ 3 v31 a1).bind fun v32 =>
      (mfI μ a0 12 70).bind fun v33 =>
      (mfR μ a0 12 35).bind fun v34 =>
      (mfI μ a0 12 69).bind fun v35 =>
      (maR μ 3 v34 v35).bind fun v36 =>
      (mfI μ a0 12 70).bind fun v37 =>
      (maI μ 0 v36 v37).bind fun v38 =>
      (mbI μ 0 v32 v33 v38).bind fun μ39 =>
      f_X12_moves_159 N k7 a0 a1 a2 μ39
def L_X12_moves_7 (N : Nat) : Nat → (Option Nat) → Int32 → Int32 → Mem → Option (Unit × Mem)
  | 0 => fun _ _ _ _ => none
  | n + 1 => H_X12_moves_7 N (L_X12_moves_7 N n)
def f_X12_moves (N : Nat) (a0 : Option Nat) (μ : Mem) : Option (Unit × Mem) :=
  (mfI μ a0 12 68).bind fun v1 =>
  L_X12_moves_7 N N a0 v1 0 μ
set_option maxRecDepth 100000 in
set_option maxHeartbeats 4000000 in
theorem p_X12_moves_204 {x : CX} {l : Launch} {g : CG} {rv : Unit} {μ0 μ9 : Mem} (C : Cx x l g mi_X12_moves) (F : Prom x g mi_X12_moves μ0 none μ9) {N : Nat} {μ : Mem} (h : f_X12_moves_204 N μ = some (rv, μ9)) : V x g 5 0 0 μ 204 [] [] := by
  unfold f_X12_moves_204 at h
  exact v_vret C F ⟨rfl, rfl, Nat.le_refl _⟩ dX12_moves_204 h
set_option maxRecDepth 100000 in
set_option maxHeartbeats 4000000 in
theorem p_X12_moves_196 {x : CX} {l : Launch} {g : CG} {rv : Unit} {μ0 μ9 : Mem} (C : Cx x l g mi_X12_moves) (F : Prom x g mi_X12_moves μ0 none μ9) {N : Nat} {a0 : Option Nat} {a1 : Int32} {s0 : Int32} {s1 : Int32} {μ : Mem} (h : f_X12_moves_196 N a0 a1 s0 s1 μ = some (rv, μ9)) : V x g 5 0 0 μ 196 [(0, aR a0), (1, aI a1)] [aI s1, aI s0] := by
  unfold f_X12_moves_196 at h
  refine v_icmp_ne (tgt := 204) C dX12_moves_196 (by decide) (fun c => ?_) (fun c => ?_)
  · replace h := ifT h c
    exact v_sb (p_X12_moves_204 C F h) trivial
  · replace h := ifF h c
    refine v_aload_n C dX12_moves_199 rfl ?_
    refine v_iload_n C dX12_moves_200 rfl ?_
    obtain ⟨b, e0, h⟩ := ob h
    obtain ⟨q, e, h⟩ := ob h
    refine v_callV (As := [_]) C dX12_moves_201 cf_X12_402 (rm_X12_moves_X12_ends) ⟨rfl, rfl⟩ e0 rfl (Nat.le_of_ble_eq_true rfl) (c_X12_ends _ _ N _ _ _ q.1 q.2 e) ?_
    exact v_sb (p_X12_moves_204 C F h) trivial
set_option maxRecDepth 100000 in
set_option maxHeartbeats 4000000 in
theorem p_X12_moves_159 {x : CX} {l : Launch} {g : CG} {rv : Unit} {μ0 μ9 : Mem} (C : Cx x l g mi_X12_moves) (F : Prom x g mi_X12_moves μ0 none μ9) {N : Nat} {k7 : (Option Nat) → Int32 → Int32 → Mem → Option (Unit × Mem)} (hk7 : ∀ (a0 : Option Nat) (a1 : Int32) (a2 : Int32) (μ : Mem), k7 a0 a1 a2 μ = some (rv, μ9) → V x g 5 0 0 μ 7 [(0, aR a0), (1, aI a1), (2, aI a2)] []) {a0 : Option Nat} {a1 : Int32} {a2 : Int32} {μ : Mem} (h : f_X12_moves_159 N k7 a0 a1 a2 μ = some (rv, μ9)) : V x g 5 0 0 μ 159 [(0, aR a0), (1, aI a1), (2, aI a2)] [] := by
  unfold f_X12_moves_159 at h
  refine v_aload_n C dX12_moves_159 rfl ?_
  refine v_dup C dX12_moves_160 rfl ?_
  obtain ⟨v, e, h⟩ := ob h
  refine v_getI C dX12_moves_161 gf_X12_393 e ?_
  refine v_iconst (v := 1) C dX12_moves_164 rfl ?_
  refine v_iadd C dX12_moves_165 ?_
  obtain ⟨m, e, h⟩ := ob h
  refine v_putI C dX12_moves_166 (pf_X12_393 _) e ?_
  refine v_iinc (w := 1) C dX12_moves_169 rfl rfl (by decide) ?_
  refine v_goto (tgt := 7) C dX12_moves_172 (by decide) ?_
  exact v_sb (hk7 _ _ _ _ h) ⟨rfl, rfl, rfl, trivial⟩
set_option maxRecDepth 100000 in
set_option maxHeartbeats 4000000 in
theorem pH_X12_moves_7 {x : CX} {l : Launch} {g : CG} {rv : Unit} {μ0 μ9 : Mem} (C : Cx x l g mi_X12_moves) (F : Prom x g mi_X12_moves μ0 none μ9) {N : Nat} {k7 : (Option Nat) → Int32 → Int32 → Mem → Option (Unit × Mem)} (hk7 : ∀ (a0 : Option Nat) (a1 : Int32) (a2 : Int32) (μ : Mem), k7 a0 a1 a2 μ = some (rv, μ9) → V x g 5 0 0 μ 7 [(0, aR a0), (1, aI a1), (2, aI a2)] []) {a0 : Option Nat} {a1 : Int32} {a2 : Int32} {μ : Mem} (h : H_X12_moves_7 N k7 a0 a1 a2 μ = some (rv, μ9)) : V x g 5 0 0 μ 7 [(0, aR a0), (1, aI a1), (2, aI a2)] [] := by
  unfold H_X12_moves_7 at h
  refine v_iload_n C dX12_moves_7 rfl ?_
  refine v_bipush (v := 16) C dX12_moves_8 rfl ?_
  refine v_icmp_ge (tgt := 175) C dX12_moves_10 (by decide) (fun c => ?_) (fun c => ?_)
  · replace h := ifT h c
    refine v_aload_n C dX12_moves_175 rfl ?_
    obtain ⟨v, e, h⟩ := ob h
    refine v_getI C dX12_moves_176 gf_X12_393 e ?_
    refine v_aload_n C dX12_moves_179 rfl ?_
    obtain ⟨v, e, h⟩ := ob h
    refine v_getI C dX12_moves_180 gf_X12_344 e ?_
    refine v_iconst (v := 3) C dX12_moves_183 rfl ?_
    refine v_icmp_ge (tgt := 193) C dX12_moves_184 (by decide) (fun c => ?_) (fun c => ?_)
    · replace h := ifT h c
      refine v_sipush (v := 128) C dX12_moves_193 rfl ?_
      exact v_sb (p_X12_moves_196 C F h) ⟨rfl, rfl, trivial⟩
    · replace h := ifF h c
      refine v_sipush (v := 4096) C dX12_moves_187 rfl ?_
      refine v_goto (tgt := 196) C dX12_moves_190 (by decide) ?_
      exact v_sb (p_X12_moves_196 C F h) ⟨rfl, rfl, trivial⟩
  · replace h := ifF h c
    refine v_aload_n C dX12_moves_13 rfl ?_
    obtain ⟨v, e, h⟩ := ob h
    refine v_getR C dX12_moves_14 gf_X12_329 e ?_
    refine v_iload_n C dX12_moves_17 rfl ?_
    obtain ⟨v, e, h⟩ := ob h
    refine v_iaload C dX12_moves_18 e ?_
    refine v_aload_n C dX12_moves_19 rfl ?_
    obtain ⟨v, e, h⟩ := ob h
    refine v_getI C dX12_moves_20 gf_X12_393 e ?_
    refine v_iadd C dX12_moves_23 ?_
    refine v_sipush (v := 4095) C dX12_moves_24 rfl ?_
    refine v_iand C dX12_moves_27 ?_
    refine v_istore_n C dX12_moves_28 (by decide) ?_
    refine v_sipush (v := 128) C dX12_moves_29 rfl ?_
    refine v_aload_n C dX12_moves_32 rfl ?_
    obtain ⟨v, e, h⟩ := ob h
    refine v_getR C dX12_moves_33 gf_X12_332 e ?_
    refine v_iload_n C dX12_moves_36 rfl ?_
    obtain ⟨v, e, h⟩ := ob h
    refine v_iaload C dX12_moves_37 e ?_
    refine v_imul C dX12_moves_38 ?_
    refine v_aload_n C dX12_moves_39 rfl ?_
    obtain ⟨v, e, h⟩ := ob h
    refine v_getI C dX12_moves_40 gf_X12_393 e ?_
    refine v_iadd C dX12_moves_43 ?_
    refine v_istore C dX12_moves_44 (by decide) ?_
    refine v_aload_n C dX12_moves_46 rfl ?_
    obtain ⟨v, e, h⟩ := ob h
    refine v_getI C dX12_moves_47 gf_X12_344 e ?_
    refine v_iconst (v := 1) C dX12_moves_50 rfl ?_
    refine v_icmp_ne (tgt := 82) C dX12_moves_51 (by decide) (fun c => ?_) (fun c => ?_)
    · replace h := ifT h c
      refine v_aload_n C dX12_moves_82 rfl ?_
      obtain ⟨v, e, h⟩ := ob h
      refine v_getI C dX12_moves_83 gf_X12_344 e ?_
      refine v_iconst (v := 2) C dX12_moves_86 rfl ?_
      refine v_icmp_ne (tgt := 118) C dX12_moves_87 (by decide) (fun c => ?_) (fun c => ?_)
      · replace h := ifT h c
        refine v_aload_n C dX12_moves_118 rfl ?_
        obtain ⟨v, e, h⟩ := ob h
        refine v_getI C dX12_moves_119 gf_X12_344 e ?_
        refine v_iconst (v := 3) C dX12_moves_122 rfl ?_
        refine v_icmp_ne (tgt := 144) C dX12_moves_123 (by decide) (fun c => ?_) (fun c => ?_)
        · replace h := ifT h c
          refine v_aload_n C dX12_moves_144 rfl ?_
          obtain ⟨v, e, h⟩ := ob h
          refine v_getR C dX12_moves_145 gf_X12_263 e ?_
          refine v_iload_n C dX12_moves_148 rfl ?_
          obtain ⟨v, e, h⟩ := ob h
          refine v_aaload3 C dX12_moves_149 e ?_
          refine v_iload C dX12_moves_150 rfl ?_
          refine v_aload_n C dX12_moves_152 rfl ?_
          refine v_iload_n C dX12_moves_153 rfl ?_
          refine v_iload_n C dX12_moves_154 rfl ?_
          obtain ⟨b, e0, h⟩ := ob h
          obtain ⟨q, e, h⟩ := ob h
          refine v_callV (As := [_, _]) C dX12_moves_155 cf_X12_399 (rm_X12_moves_X12_load) ⟨rfl, rfl⟩ e0 rfl (Nat.le_of_ble_eq_true rfl) (c_X12_load _ _ N _ _ _ _ q.1 q.2 e) ?_
          obtain ⟨m, e, h⟩ := ob h
          refine v_iastore C dX12_moves_158 e ?_
          exact v_sb (p_X12_moves_159 C F hk7 h) ⟨rfl, rfl, rfl, trivial⟩
        · replace h := ifF h c
          refine v_aload_n C dX12_moves_126 rfl ?_
          refine v_iload_n C dX12_moves_127 rfl ?_
          refine v_iload_n C dX12_moves_128 rfl ?_
          refine v_aload_n C dX12_moves_129 rfl ?_
          obtain ⟨v, e, h⟩ := ob h
          refine v_getR C dX12_moves_130 gf_X12_263 e ?_
          refine v_iload_n C dX12_moves_133 rfl ?_
          obtain ⟨v, e, h⟩ := ob h
          refine v_aaload3 C dX12_moves_134 e ?_
          refine v_iload C dX12_moves_135 rfl ?_
          obtain ⟨v, e, h⟩ := ob h
          refine v_iaload C dX12_moves_137 e ?_
          obtain ⟨b, e0, h⟩ := ob h
          obtain ⟨q, e, h⟩ := ob h
          refine v_callV (As := [_, _, _]) C dX12_moves_138 cf_X12_368 (rm_X12_moves_X12_store) ⟨rfl, rfl⟩ e0 rfl (Nat.le_of_ble_eq_true rfl) (c_X12_store _ _ N _ _ _ _ _ q.1 q.2 e) ?_
          refine v_goto (tgt := 159) C dX12_moves_141 (by decide) ?_
          exact v_sb (p_X12_moves_159 C F hk7 h) ⟨rfl, rfl, rfl, trivial⟩
      · replace h := ifF h c
        refine v_aload_n C dX12_moves_90 rfl ?_
        obtain ⟨v, e, h⟩ := ob h
        refine v_getR C dX12_moves_91 gf_X12_257 e ?_
        refine v_aload_n C dX12_moves_94 rfl ?_
        obtain ⟨v, e, h⟩ := ob h
        refine v_getI C dX12_moves_95 gf_X12_396 e ?_
        obtain ⟨v, e, h⟩ := ob h
        refine v_aaload3 C dX12_moves_98 e ?_
        refine v_aload_n C dX12_moves_99 rfl ?_
        obtain ⟨v, e, h⟩ := ob h
        refine v_getI C dX12_moves_100 gf_X12_393 e ?_
        refine v_aload_n C dX12_moves_103 rfl ?_
        obtain ⟨v, e, h⟩ := ob h
        refine v_getR C dX12_moves_104 gf_X12_260 e ?_
        refine v_iload_n C dX12_moves_107 rfl ?_
        obtain ⟨v, e, h⟩ := ob h
        refine v_aaload3 C dX12_moves_108 e ?_
        refine v_aload_n C dX12_moves_109 rfl ?_
        obtain ⟨v, e, h⟩ := ob h
        refine v_getI C dX12_moves_110 gf_X12_393 e ?_
        obtain ⟨v, e, h⟩ := ob h
        refine v_iaload C dX12_moves_113 e ?_
        obtain ⟨m, e, h⟩ := ob h
        refine v_iastore C dX12_moves_114 e ?_
        refine v_goto (tgt := 159) C dX12_moves_115 (by decide) ?_
        exact v_sb (p_X12_moves_159 C F hk7 h) ⟨rfl, rfl, rfl, trivial⟩
    · replace h := ifF h c
      refine v_aload_n C dX12_moves_54 rfl ?_
      obtain ⟨v, e, h⟩ := ob h
      refine v_getR C dX12_moves_55 gf_X12_260 e ?_
      refine v_iload_n C dX12_moves_58 rfl ?_
      obtain ⟨v, e, h⟩ := ob h
      refine v_aaload3 C dX12_moves_59 e ?_
      refine v_aload_n C dX12_moves_60 rfl ?_
      obtain ⟨v, e, h⟩ := ob h
      refine v_getI C dX12_moves_61 gf_X12_393 e ?_
      refine v_aload_n C dX12_moves_64 rfl ?_
      obtain ⟨v, e, h⟩ := ob h
      refine v_getR C dX12_moves_65 gf_X12_257 e ?_
      refine v_aload_n C dX12_moves_68 rfl ?_
      obtain ⟨v, e, h⟩ := ob h
      refine v_getI C dX12_moves_69 gf_X12_396 e ?_
      obtain ⟨v, e, h⟩ := ob h
      refine v_aaload3 C dX12_moves_72 e ?_
      refine v_aload_n C dX12_moves_73 rfl ?_
      obtain ⟨v, e, h⟩ := ob h
      refine v_getI C dX12_moves_74 gf_X12_393 e ?_
      obtain ⟨v, e, h⟩ := ob h
      refine v_iaload C dX12_moves_77 e ?_
      obtain ⟨m, e, h⟩ := ob h
      refine v_iastore C dX12_moves_78 e ?_
      refine v_goto (tgt := 159) C dX12_moves_79 (by decide) ?_
      exact v_sb (p_X12_moves_159 C F hk7 h) ⟨rfl, rfl, rfl, trivial⟩
set_option maxRecDepth 100000 in
set_option maxHeartbeats 4000000 in
theorem pL_X12_moves_7 {x : CX} {l : Launch} {g : CG} {rv : Unit} {μ0 μ9 : Mem} (C : Cx x l g mi_X12_moves) (F : Prom x g mi_X12_moves μ0 none μ9) (N : Nat) (n : Nat) : ∀ (a0 : Option Nat) (a1 : Int32) (a2 : Int32) (μ : Mem), L_X12_moves_7 N n a0 a1 a2 μ = some (rv, μ9) → V x g 5 0 0 μ 7 [(0, aR a0), (1, aI a1), (2, aI a2)] [] := by
  induction n with
  | zero => intro a0 a1 a2 μ h; cases h
  | succ n ih => intro a0 a1 a2 μ h; exact pH_X12_moves_7 C F ih h
set_option maxRecDepth 100000 in
set_option maxHeartbeats 4000000 in
theorem p_X12_moves {x : CX} {l : Launch} {g : CG} {rv : Unit} {μ0 μ9 : Mem} (C : Cx x l g mi_X12_moves) (F : Prom x g mi_X12_moves μ0 none μ9) {N : Nat} {a0 : Option Nat} {μ : Mem} (h : f_X12_moves N a0 μ = some (rv, μ9)) : V x g 5 0 0 μ 0 [(0, aR a0)] [] := by
  unfold f_X12_moves at h
  refine v_aload_n C dX12_moves_0 rfl ?_
  obtain ⟨v, e, h⟩ := ob h
  refine v_getI C dX12_moves_1 gf_X12_347 e ?_
  refine v_istore_n C dX12_moves_4 (by decide) ?_
  refine v_iconst (v := 0) C dX12_moves_5 rfl ?_
  refine v_istore_n C dX12_moves_6 (by decide) ?_
  exact v_sb (pL_X12_moves_7 C F N N _ _ _ _ h) ⟨rfl, rfl, rfl, trivial⟩
set_option maxRecDepth 100000 in
set_option maxHeartbeats 4000000 in
theorem c_X12_moves (l : Launch) (g : CG) (N : Nat) (a0 : Option Nat) (μ : Mem) (rv : Unit) (μ9 : Mem) (h : f_X12_moves N a0 μ = some (rv, μ9)) : Ct l yX12_moves mi_X12_moves g [aR a0] μ none μ9 := ct_of ⟨by decide, rfl, rfl⟩ (Nat.le_of_ble_eq_true rfl) fun x C F => p_X12_moves C F h
def f_X12_given_97 (N : Nat) (k50 : (Option Nat) → Int32 → Mem → Option (Int32 × Mem)) (a0 : Option Nat) (a1 : Int32) (μ : Mem) : Option (Int32 × Mem) :=
  k50 a0 (a1 + 1) μ
def H_X12_given_50 (N : Nat) (k50 : (Option Nat) → Int32 → Mem → Option (Int32 × Mem)) (a0 : Option Nat) (a1 : Int32) (μ : Mem) : Option (Int32 × Mem) :=
  (mfI μ a0 12 32).bind fun v1 =>
  if v1 ≤ a1 then
    some ((-1), μ)
  else
    (mfR μ a0 12 42).bind fun v2 =>
    (mfR μ a0 12 38).bind fun v3 =>
    (maI μ 0 v3 a1).bind fun v4 =>
    (maI μ 0 v2 v4).bind fun v5 =>
    if v5 = (5 : Int32) then
      f_X12_given_97 N k50 a0 a1 μ
    else
      (mfR μ a0 12 40).bind fun v6 =>
      (maI μ 2 v6 a1).bind fun v7 =>
      if v7 = 0 then
        f_X12_given_97 N k50 a0 a1 μ
      else
        (mfR μ a0 12 38).bind fun v8 =>
        (maI μ 0 v8 a1).bind fun v9 =>
        (mfI μ a0 12 64).bind fun v10 =>
        if v9 = v10 then
          f_X12_given_97 N k50 a0 a1 μ
        else
          some (a1, μ)
def L_X12_given_50 (N : Nat) : Nat → (Option Nat) → Int32 → Mem → Option (Int32 × Mem)
  | 0 => fun _ _ _ => none
  | n + 1 => H_X12_given_50 N (L_X12_given_50 N n)
def f_X12_given_42 (N : Nat) (k2 : (Option Nat) → Int32 → Mem → Option (Int32 × Mem)) (a0 : Option Nat) (a1 : Int32) (μ : Mem) : Option (Int32 × Mem) :=
  k2 a0 (a1 + 1) μ
def H_X12_given_2 (N : Nat) (k2 : (Option Nat) → Int32 → Mem → Option (Int32 × Mem)) (a0 : Option Nat) (a1 : Int32) (μ : Mem) : Option (Int32 × Mem) :=
  (mfI μ a0 12 32).bind fun v1 =>
  if v1 ≤ a1 then
    L_X12_given_50 N N a0 0 μ
  else
    (mfR μ a0 12 42).bind fun v2 =>
    (mfR μ a0 12 38).bind fun v3 =>
    (maI μ 0 v3 a1).bind fun v4 =>
    (maI μ 0 v2 v4).bind fun v5 =>
    if v5 = (1 : Int32) then
      f_X12_given_42 N k2 a0 a1 μ
    else
      (mfR μ a0 12 42).bind fun v6 =>
      (mfR μ a0 12 38).bind fun v7 =>
      (maI μ 0 v7 a1).bind fun v8 =>
      (maI μ 0 v6 v8).bind fun v9 =>
      if v9 = (5 : Int32) then
        f_X12_given_42 N k2 a0 a1 μ
      else
        some (a1, μ)
def L_X12_given_2 (N : Nat) : Nat → (Option Nat) → Int32 → Mem → Option (Int32 × Mem)
  | 0 => fun _ _ _ => none
  | n + 1 => H_X12_given_2 N (L_X12_given_2 N n)
def f_X12_given (N : Nat) (a0 : Option Nat) (μ : Mem) : Option (Int32 × Mem) :=
  L_X12_given_2 N N a0 0 μ
set_option maxRecDepth 100000 in
set_option maxHeartbeats 4000000 in
theorem p_X12_given_97 {x : CX} {l : Launch} {g : CG} {rv : Int32} {μ0 μ9 : Mem} (C : Cx x l g mi_X12_given) (F : Prom x g mi_X12_given μ0 (some (aI rv)) μ9) {N : Nat} {k50 : (Option Nat) → Int32 → Mem → Option (Int32 × Mem)} (hk50 : ∀ (a0 : Option Nat) (a1 : Int32) (μ : Mem), k50 a0 a1 μ = some (rv, μ9) → V x g 2 0 0 μ 50 [(0, aR a0), (1, aI a1)] []) {a0 : Option Nat} {a1 : Int32} {μ : Mem} (h : f_X12_given_97 N k50 a0 a1 μ = some (rv, μ9)) : V x g 2 0 0 μ 97 [(0, aR a0), (1, aI a1)] [] := by
  unfold f_X12_given_97 at h
  refine v_iinc (w := 1) C dX12_given_97 rfl rfl (by decide) ?_
  refine v_goto (tgt := 50) C dX12_given_100 (by decide) ?_
  exact v_sb (hk50 _ _ _ h) ⟨rfl, rfl, trivial⟩
set_option maxRecDepth 100000 in
set_option maxHeartbeats 4000000 in
theorem pH_X12_given_50 {x : CX} {l : Launch} {g : CG} {rv : Int32} {μ0 μ9 : Mem} (C : Cx x l g mi_X12_given) (F : Prom x g mi_X12_given μ0 (some (aI rv)) μ9) {N : Nat} {k50 : (Option Nat) → Int32 → Mem → Option (Int32 × Mem)} (hk50 : ∀ (a0 : Option Nat) (a1 : Int32) (μ : Mem), k50 a0 a1 μ = some (rv, μ9) → V x g 2 0 0 μ 50 [(0, aR a0), (1, aI a1)] []) {a0 : Option Nat} {a1 : Int32} {μ : Mem} (h : H_X12_given_50 N k50 a0 a1 μ = some (rv, μ9)) : V x g 2 0 0 μ 50 [(0, aR a0), (1, aI a1)] [] := by
  unfold H_X12_given_50 at h
  refine v_iload_n C dX12_given_50 rfl ?_
  refine v_aload_n C dX12_given_51 rfl ?_
  obtain ⟨v, e, h⟩ := ob h
  refine v_getI C dX12_given_52 gf_X12_246 e ?_
  refine v_icmp_ge (tgt := 103) C dX12_given_55 (by decide) (fun c => ?_) (fun c => ?_)
  · replace h := ifT h c
    refine v_iconst (v := -1) C dX12_given_103 rfl ?_
    exact v_iret C F ⟨rfl, rfl, Nat.le_refl _⟩ dX12_given_104 h
  · replace h := ifF h c
    refine v_aload_n C dX12_given_58 rfl ?_
    obtain ⟨v, e, h⟩ := ob h
    refine v_getR C dX12_given_59 gf_X12_278 e ?_
    refine v_aload_n C dX12_given_62 rfl ?_
    obtain ⟨v, e, h⟩ := ob h
    refine v_getR C dX12_given_63 gf_X12_266 e ?_
    refine v_iload_n C dX12_given_66 rfl ?_
    obtain ⟨v, e, h⟩ := ob h
    refine v_iaload C dX12_given_67 e ?_
    obtain ⟨v, e, h⟩ := ob h
    refine v_iaload C dX12_given_68 e ?_
    refine v_iconst (v := 5) C dX12_given_69 rfl ?_
    refine v_icmp_eq (tgt := 97) C dX12_given_70 (by decide) (fun c => ?_) (fun c => ?_)
    · replace h := ifT h c
      exact v_sb (p_X12_given_97 C F hk50 h) ⟨rfl, rfl, trivial⟩
    · replace h := ifF h c
      refine v_aload_n C dX12_given_73 rfl ?_
      obtain ⟨v, e, h⟩ := ob h
      refine v_getR C dX12_given_74 gf_X12_272 e ?_
      refine v_iload_n C dX12_given_77 rfl ?_
      obtain ⟨v, e, h⟩ := ob h
      refine v_baload C dX12_given_78 e ?_
      refine v_if_eq (tgt := 97) C dX12_given_79 (by decide) (fun c => ?_) (fun c => ?_)
      · replace h := ifT h c
        exact v_sb (p_X12_given_97 C F hk50 h) ⟨rfl, rfl, trivial⟩
      · replace h := ifF h c
        refine v_aload_n C dX12_given_82 rfl ?_
        obtain ⟨v, e, h⟩ := ob h
        refine v_getR C dX12_given_83 gf_X12_266 e ?_
        refine v_iload_n C dX12_given_86 rfl ?_
        obtain ⟨v, e, h⟩ := ob h
        refine v_iaload C dX12_given_87 e ?_
        refine v_aload_n C dX12_given_88 rfl ?_
        obtain ⟨v, e, h⟩ := ob h
        refine v_getI C dX12_given_89 gf_X12_237 e ?_
        refine v_icmp_eq (tgt := 97) C dX12_given_92 (by decide) (fun c => ?_) (fun c => ?_)
        · replace h := ifT h c
          exact v_sb (p_X12_given_97 C F hk50 h) ⟨rfl, rfl, trivial⟩
        · replace h := ifF h c
          refine v_iload_n C dX12_given_95 rfl ?_
          exact v_iret C F ⟨rfl, rfl, Nat.le_refl _⟩ dX12_given_96 h
set_option maxRecDepth 100000 in
set_option maxHeartbeats 4000000 in
theorem pL_X12_given_50 {x : CX} {l : Launch} {g : CG} {rv : Int32} {μ0 μ9 : Mem} (C : Cx x l g mi_X12_given) (F : Prom x g mi_X12_given μ0 (some (aI rv)) μ9) (N : Nat) (n : Nat) : ∀ (a0 : Option Nat) (a1 : Int32) (μ : Mem), L_X12_given_50 N n a0 a1 μ = some (rv, μ9) → V x g 2 0 0 μ 50 [(0, aR a0), (1, aI a1)] [] := by
  induction n with
  | zero => intro a0 a1 μ h; cases h
  | succ n ih => intro a0 a1 μ h; exact pH_X12_given_50 C F ih h
set_option maxRecDepth 100000 in
set_option maxHeartbeats 4000000 in
theorem p_X12_given_42 {x : CX} {l : Launch} {g : CG} {rv : Int32} {μ0 μ9 : Mem} (C : Cx x l g mi_X12_given) (F : Prom x g mi_X12_given μ0 (some (aI rv)) μ9) {N : Nat} {k2 : (Option Nat) → Int32 → Mem → Option (Int32 × Mem)} (hk2 : ∀ (a0 : Option Nat) (a1 : Int32) (μ : Mem), k2 a0 a1 μ = some (rv, μ9) → V x g 2 0 0 μ 2 [(0, aR a0), (1, aI a1)] []) {a0 : Option Nat} {a1 : Int32} {μ : Mem} (h : f_X12_given_42 N k2 a0 a1 μ = some (rv, μ9)) : V x g 2 0 0 μ 42 [(0, aR a0), (1, aI a1)] [] := by
  unfold f_X12_given_42 at h
  refine v_iinc (w := 1) C dX12_given_42 rfl rfl (by decide) ?_
  refine v_goto (tgt := 2) C dX12_given_45 (by decide) ?_
  exact v_sb (hk2 _ _ _ h) ⟨rfl, rfl, trivial⟩
set_option maxRecDepth 100000 in
set_option maxHeartbeats 4000000 in
theorem pH_X12_given_2 {x : CX} {l : Launch} {g : CG} {rv : Int32} {μ0 μ9 : Mem} (C : Cx x l g mi_X12_given) (F : Prom x g mi_X12_given μ0 (some (aI rv)) μ9) {N : Nat} {k2 : (Option Nat) → Int32 → Mem → Option (Int32 × Mem)} (hk2 : ∀ (a0 : Option Nat) (a1 : Int32) (μ : Mem), k2 a0 a1 μ = some (rv, μ9) → V x g 2 0 0 μ 2 [(0, aR a0), (1, aI a1)] []) {a0 : Option Nat} {a1 : Int32} {μ : Mem} (h : H_X12_given_2 N k2 a0 a1 μ = some (rv, μ9)) : V x g 2 0 0 μ 2 [(0, aR a0), (1, aI a1)] [] := by
  unfold H_X12_given_2 at h
  refine v_iload_n C dX12_given_2 rfl ?_
  refine v_aload_n C dX12_given_3 rfl ?_
  obtain ⟨v, e, h⟩ := ob h
  refine v_getI C dX12_given_4 gf_X12_246 e ?_
  refine v_icmp_ge (tgt := 48) C dX12_given_7 (by decide) (fun c => ?_) (fun c => ?_)
  · replace h := ifT h c
    refine v_iconst (v := 0) C dX12_given_48 rfl ?_
    refine v_istore_n C dX12_given_49 (by decide) ?_
    exact v_sb (pL_X12_given_50 C F N N _ _ _ h) ⟨rfl, rfl, trivial⟩
  · replace h := ifF h c
    refine v_aload_n C dX12_given_10 rfl ?_
    obtain ⟨v, e, h⟩ := ob h
    refine v_getR C dX12_given_11 gf_X12_278 e ?_
    refine v_aload_n C dX12_given_14 rfl ?_
    obtain ⟨v, e, h⟩ := ob h
    refine v_getR C dX12_given_15 gf_X12_266 e ?_
    refine v_iload_n C dX12_given_18 rfl ?_
    obtain ⟨v, e, h⟩ := ob h
    refine v_iaload C dX12_given_19 e ?_
    obtain ⟨v, e, h⟩ := ob h
    refine v_iaload C dX12_given_20 e ?_
    refine v_iconst (v := 1) C dX12_given_21 rfl ?_
    refine v_icmp_eq (tgt := 42) C dX12_given_22 (by decide) (fun c => ?_) (fun c => ?_)
    · replace h := ifT h c
      exact v_sb (p_X12_given_42 C F hk2 h) ⟨rfl, rfl, trivial⟩
    · replace h := ifF h c
      refine v_aload_n C dX12_given_25 rfl ?_
      obtain ⟨v, e, h⟩ := ob h
      refine v_getR C dX12_given_26 gf_X12_278 e ?_
      refine v_aload_n C dX12_given_29 rfl ?_
      obtain ⟨v, e, h⟩ := ob h
      refine v_getR C dX12_given_30 gf_X12_266 e ?_
      refine v_iload_n C dX12_given_33 rfl ?_
      obtain ⟨v, e, h⟩ := ob h
      refine v_iaload C dX12_given_34 e ?_
      obtain ⟨v, e, h⟩ := ob h
      refine v_iaload C dX12_given_35 e ?_
      refine v_iconst (v := 5) C dX12_given_36 rfl ?_
      refine v_icmp_eq (tgt := 42) C dX12_given_37 (by decide) (fun c => ?_) (fun c => ?_)
      · replace h := ifT h c
        exact v_sb (p_X12_given_42 C F hk2 h) ⟨rfl, rfl, trivial⟩
      · replace h := ifF h c
        refine v_iload_n C dX12_given_40 rfl ?_
        exact v_iret C F ⟨rfl, rfl, Nat.le_refl _⟩ dX12_given_41 h
set_option maxRecDepth 100000 in
set_option maxHeartbeats 4000000 in
theorem pL_X12_given_2 {x : CX} {l : Launch} {g : CG} {rv : Int32} {μ0 μ9 : Mem} (C : Cx x l g mi_X12_given) (F : Prom x g mi_X12_given μ0 (some (aI rv)) μ9) (N : Nat) (n : Nat) : ∀ (a0 : Option Nat) (a1 : Int32) (μ : Mem), L_X12_given_2 N n a0 a1 μ = some (rv, μ9) → V x g 2 0 0 μ 2 [(0, aR a0), (1, aI a1)] [] := by
  induction n with
  | zero => intro a0 a1 μ h; cases h
  | succ n ih => intro a0 a1 μ h; exact pH_X12_given_2 C F ih h
set_option maxRecDepth 100000 in
set_option maxHeartbeats 4000000 in
theorem p_X12_given {x : CX} {l : Launch} {g : CG} {rv : Int32} {μ0 μ9 : Mem} (C : Cx x l g mi_X12_given) (F : Prom x g mi_X12_given μ0 (some (aI rv)) μ9) {N : Nat} {a0 : Option Nat} {μ : Mem} (h : f_X12_given N a0 μ = some (rv, μ9)) : V x g 2 0 0 μ 0 [(0, aR a0)] [] := by
  unfold f_X12_given at h
  refine v_iconst (v := 0) C dX12_given_0 rfl ?_
  refine v_istore_n C dX12_given_1 (by decide) ?_
  exact v_sb (pL_X12_given_2 C F N N _ _ _ h) ⟨rfl, rfl, trivial⟩
set_option maxRecDepth 100000 in
set_option maxHeartbeats 4000000 in
theorem c_X12_given (l : Launch) (g : CG) (N : Nat) (a0 : Option Nat) (μ : Mem) (rv : Int32) (μ9 : Mem) (h : f_X12_given N a0 μ = some (rv, μ9)) : Ct l yX12_given mi_X12_given g [aR a0] μ (some (aI rv)) μ9 := ct_of ⟨by decide, rfl, rfl⟩ (Nat.le_of_ble_eq_true rfl) fun x C F => p_X12_given C F h
def f_X12_starts (N : Nat) (a0 : Option Nat) (a1 : Int32) (a2 : Int32) (a3 : Int32) (μ : Mem) : Option (Unit × Mem) :=
  (mpI μ a0 12 67 a1).bind fun μ1 =>
  (mpI μ1 a0 12 68 a2).bind fun μ2 =>
  (mpI μ2 a0 12 69 a3).bind fun μ3 =>
  (mpI μ3 a0 12 70 0).bind fun μ4 =>
  some ((), μ4)
set_option maxRecDepth 100000 in
set_option maxHeartbeats 4000000 in
theorem p_X12_starts {x : CX} {l : Launch} {g : CG} {rv : Unit} {μ0 μ9 : Mem} (C : Cx x l g mi_X12_starts) (F : Prom x g mi_X12_starts μ0 none μ9) {N : Nat} {a0 : Option Nat} {a1 : Int32} {a2 : Int32} {a3 : Int32} {μ : Mem} (h : f_X12_starts N a0 a1 a2 a3 μ = some (rv, μ9)) : V x g 4 0 0 μ 0 [(0, aR a0), (1, aI a1), (2, aI a2), (3, aI a3)] [] := by
  unfold f_X12_starts at h
  refine v_aload_n C dX12_starts_0 rfl ?_
  refine v_iload_n C dX12_starts_1 rfl ?_
  obtain ⟨m, e, h⟩ := ob h
  refine v_putI C dX12_starts_2 (pf_X12_344 _) e ?_
  refine v_aload_n C dX12_starts_5 rfl ?_
  refine v_iload_n C dX12_starts_6 rfl ?_
  obtain ⟨m, e, h⟩ := ob h
  refine v_putI C dX12_starts_7 (pf_X12_347 _) e ?_
  refine v_aload_n C dX12_starts_10 rfl ?_
  refine v_iload_n C dX12_starts_11 rfl ?_
  obtain ⟨m, e, h⟩ := ob h
  refine v_putI C dX12_starts_12 (pf_X12_396 _) e ?_
  refine v_aload_n C dX12_starts_15 rfl ?_
  refine v_iconst (v := 0) C dX12_starts_16 rfl ?_
  obtain ⟨m, e, h⟩ := ob h
  refine v_putI C dX12_starts_17 (pf_X12_393 _) e ?_
  exact v_vret C F ⟨rfl, rfl, Nat.le_refl _⟩ dX12_starts_20 h
set_option maxRecDepth 100000 in
set_option maxHeartbeats 4000000 in
theorem c_X12_starts (l : Launch) (g : CG) (N : Nat) (a0 : Option Nat) (a1 : Int32) (a2 : Int32) (a3 : Int32) (μ : Mem) (rv : Unit) (μ9 : Mem) (h : f_X12_starts N a0 a1 a2 a3 μ = some (rv, μ9)) : Ct l yX12_starts mi_X12_starts g [aR a0, aI a1, aI a2, aI a3] μ none μ9 := ct_of ⟨by decide, rfl, rfl⟩ (Nat.le_of_ble_eq_true rfl) fun x C F => p_X12_starts C F h
def f_X12_queuesTask_144 (N : Nat) (a0 : Option Nat) (a1 : Int32) (a2 : Int32) (μ : Mem) : Option (Int32 × Mem) :=
  (mck μ a0 12).bind fun b2 =>
  (f_X12_starts N (some b2) 2 a1 a2 μ).bind fun q1 =>
  retZ 1 q1.2
def f_X12_queuesTask_129 (N : Nat) (a0 : Option Nat) (a1 : Int32) (a2 : Int32) (μ : Mem) : Option (Int32 × Mem) :=
  (mfR μ a0 12 38).bind fun v1 =>
  (maI μ 0 v1 a2).bind fun v2 =>
  if v2 = (((-1)) : Int32) then
    f_X12_queuesTask_144 N a0 a1 a2 μ
  else
    (mck μ a0 12).bind fun b4 =>
    (f_X12_nobodys N (some b4) a2 μ).bind fun q3 =>
    f_X12_queuesTask_144 N a0 a1 a2 q3.2
def f_X12_queuesTask_89 (N : Nat) (a0 : Option Nat) (a1 : Int32) (a2 : Int32) (μ : Mem) : Option (Int32 × Mem) :=
  if ¬ a2 = (((-1)) : Int32) then
    (mfR μ a0 12 38).bind fun v1 =>
    (maI μ 0 v1 a2).bind fun v2 =>
    if v2 = (((-1)) : Int32) then
      f_X12_queuesTask_129 N a0 a1 a2 μ
    else
      (mfR μ a0 12 39).bind fun v3 =>
      (maI μ 2 v3 a2).bind fun v4 =>
      if v4 = 0 then
        f_X12_queuesTask_129 N a0 a1 a2 μ
      else
        (mfR μ a0 12 38).bind fun v5 =>
        (maI μ 0 v5 a2).bind fun v6 =>
        (mck μ a0 12).bind fun b8 =>
        (f_X12_starts N (some b8) 1 v6 a2 μ).bind fun q7 =>
        retZ 1 q7.2
  else
    retZ 0 μ
def f_X12_queuesTask_73 (N : Nat) (k57 : (Option Nat) → Int32 → Int32 → Int32 → Mem → Option (Int32 × Mem)) (a0 : Option Nat) (a1 : Int32) (a2 : Int32) (a3 : Int32) (μ : Mem) : Option (Int32 × Mem) :=
  k57 a0 a1 a2 (a3 + (-1)) μ
def H_X12_queuesTask_57 (N : Nat) (k57 : (Option Nat) → Int32 → Int32 → Int32 → Mem → Option (Int32 × Mem)) (a0 : Option Nat) (a1 : Int32) (a2 : Int32) (a3 : Int32) (μ : Mem) : Option (Int32 × Mem) :=
  if a3 < 0 then
    if ¬ a2 = (((-1)) : Int32) then
      f_X12_queuesTask_89 N a0 a1 a2 μ
    else
      (mck μ a0 12).bind fun b2 =>
      (f_X12_given N (some b2) μ).bind fun q1 =>
      f_X12_queuesTask_89 N a0 a1 q1.1 q1.2
  else
    (mfR μ a0 12 38).bind fun v3 =>
    (maI μ 0 v3 a3).bind fun v4 =>
    if ¬ v4 = (((-1)) : Int32) then
      f_X12_queuesTask_73 N k57 a0 a1 a2 a3 μ
    else
      f_X12_queuesTask_73 N k57 a0 a1 a3 a3 μ
def L_X12_queuesTask_57 (N : Nat) : Nat → (Option Nat) → Int32 → Int32 → Int32 → Mem → Option (Int32 × Mem)
  | 0 => fun _ _ _ _ _ => none
  | n + 1 => H_X12_queuesTask_57 N (L_X12_queuesTask_57 N n)
def f_X12_queuesTask_35 (N : Nat) (k9 : (Option Nat) → Int32 → Int32 → Mem → Option (Int32 × Mem)) (a0 : Option Nat) (a1 : Int32) (a2 : Int32) (μ : Mem) : Option (Int32 × Mem) :=
  k9 a0 a1 (a2 + (-1)) μ
def H_X12_queuesTask_9 (N : Nat) (k9 : (Option Nat) → Int32 → Int32 → Mem → Option (Int32 × Mem)) (a0 : Option Nat) (a1 : Int32) (a2 : Int32) (μ : Mem) : Option (Int32 × Mem) :=
  if a2 < 0 then
    if ¬ a1 = (((-1)) : Int32) then
      (mfI μ a0 12 32).bind fun v1 =>
      L_X12_queuesTask_57 N N a0 a1 ((-1)) (v1 - 1) μ
    else
      retZ 0 μ
  else
    (mfR μ a0 12 41).bind fun v2 =>
    (mfR μ a0 12 62).bind fun v3 =>
    (maI μ 0 v3 a2).bind fun v4 =>
    (maI μ 0 v2 v4).bind fun v5 =>
    if ¬ v5 = (((-1)) : Int32) then
      f_X12_queuesTask_35 N k9 a0 a1 a2 μ
    else
      (mfR μ a0 12 62).bind fun v6 =>
      (maI μ 0 v6 a2).bind fun v7 =>
      f_X12_queuesTask_35 N k9 a0 v7 a2 μ
def L_X12_queuesTask_9 (N : Nat) : Nat → (Option Nat) → Int32 → Int32 → Mem → Option (Int32 × Mem)
  | 0 => fun _ _ _ _ => none
  | n + 1 => H_X12_queuesTask_9 N (L_X12_queuesTask_9 N n)
def f_X12_queuesTask (N : Nat) (a0 : Option Nat) (μ : Mem) : Option (Int32 × Mem) :=
  (mfI μ a0 12 63).bind fun v1 =>
  L_X12_queuesTask_9 N N a0 ((-1)) (v1 - 1) μ
set_option maxRecDepth 100000 in
set_option maxHeartbeats 4000000 in
theorem p_X12_queuesTask_144 {x : CX} {l : Launch} {g : CG} {rv : Int32} {μ0 μ9 : Mem} (C : Cx x l g mi_X12_queuesTask) (F : Prom x g mi_X12_queuesTask μ0 (some (aI rv)) μ9) {N : Nat} {a0 : Option Nat} {a1 : Int32} {a2 : Int32} {μ : Mem} (h : f_X12_queuesTask_144 N a0 a1 a2 μ = some (rv, μ9)) : V x g 4 0 0 μ 144 [(0, aR a0), (1, aI a1), (2, aI a2)] [] := by
  unfold f_X12_queuesTask_144 at h
  refine v_aload_n C dX12_queuesTask_144 rfl ?_
  refine v_iconst (v := 2) C dX12_queuesTask_145 rfl ?_
  refine v_iload_n C dX12_queuesTask_146 rfl ?_
  refine v_iload_n C dX12_queuesTask_147 rfl ?_
  obtain ⟨b, e0, h⟩ := ob h
  obtain ⟨q, e, h⟩ := ob h
  refine v_callV (As := [_, _, _]) C dX12_queuesTask_148 cf_X12_423 (rm_X12_queuesTask_X12_starts) ⟨rfl, rfl⟩ e0 rfl (Nat.le_of_ble_eq_true rfl) (c_X12_starts _ _ N _ _ _ _ _ q.1 q.2 e) ?_
  refine v_iconst (v := 1) C dX12_queuesTask_151 rfl ?_
  exact v_zret C F ⟨rfl, rfl, Nat.le_refl _⟩ dX12_queuesTask_152 h
set_option maxRecDepth 100000 in
set_option maxHeartbeats 4000000 in
theorem p_X12_queuesTask_129 {x : CX} {l : Launch} {g : CG} {rv : Int32} {μ0 μ9 : Mem} (C : Cx x l g mi_X12_queuesTask) (F : Prom x g mi_X12_queuesTask μ0 (some (aI rv)) μ9) {N : Nat} {a0 : Option Nat} {a1 : Int32} {a2 : Int32} {μ : Mem} (h : f_X12_queuesTask_129 N a0 a1 a2 μ = some (rv, μ9)) : V x g 4 0 0 μ 129 [(0, aR a0), (1, aI a1), (2, aI a2)] [] := by
  unfold f_X12_queuesTask_129 at h
  refine v_aload_n C dX12_queuesTask_129 rfl ?_
  obtain ⟨v, e, h⟩ := ob h
  refine v_getR C dX12_queuesTask_130 gf_X12_266 e ?_
  refine v_iload_n C dX12_queuesTask_133 rfl ?_
  obtain ⟨v, e, h⟩ := ob h
  refine v_iaload C dX12_queuesTask_134 e ?_
  refine v_iconst (v := -1) C dX12_queuesTask_135 rfl ?_
  refine v_icmp_eq (tgt := 144) C dX12_queuesTask_136 (by decide) (fun c => ?_) (fun c => ?_)
  · replace h := ifT h c
    exact v_sb (p_X12_queuesTask_144 C F h) ⟨rfl, rfl, rfl, trivial⟩
  · replace h := ifF h c
    refine v_aload_n C dX12_queuesTask_139 rfl ?_
    refine v_iload_n C dX12_queuesTask_140 rfl ?_
    obtain ⟨b, e0, h⟩ := ob h
    obtain ⟨q, e, h⟩ := ob h
    refine v_callV (As := [_]) C dX12_queuesTask_141 cf_X12_356 (rm_X12_queuesTask_X12_nobodys) ⟨rfl, rfl⟩ e0 rfl (Nat.le_of_ble_eq_true rfl) (c_X12_nobodys _ _ N _ _ _ q.1 q.2 e) ?_
    exact v_sb (p_X12_queuesTask_144 C F h) ⟨rfl, rfl, rfl, trivial⟩
set_option maxRecDepth 100000 in
set_option maxHeartbeats 4000000 in
theorem p_X12_queuesTask_89 {x : CX} {l : Launch} {g : CG} {rv : Int32} {μ0 μ9 : Mem} (C : Cx x l g mi_X12_queuesTask) (F : Prom x g mi_X12_queuesTask μ0 (some (aI rv)) μ9) {N : Nat} {a0 : Option Nat} {a1 : Int32} {a2 : Int32} {μ : Mem} (h : f_X12_queuesTask_89 N a0 a1 a2 μ = some (rv, μ9)) : V x g 4 0 0 μ 89 [(0, aR a0), (1, aI a1), (2, aI a2)] [] := by
  unfold f_X12_queuesTask_89 at h
  refine v_iload_n C dX12_queuesTask_89 rfl ?_
  refine v_iconst (v := -1) C dX12_queuesTask_90 rfl ?_
  refine v_icmp_ne (tgt := 96) C dX12_queuesTask_91 (by decide) (fun c => ?_) (fun c => ?_)
  · replace h := ifT h c
    refine v_aload_n C dX12_queuesTask_96 rfl ?_
    obtain ⟨v, e, h⟩ := ob h
    refine v_getR C dX12_queuesTask_97 gf_X12_266 e ?_
    refine v_iload_n C dX12_queuesTask_100 rfl ?_
    obtain ⟨v, e, h⟩ := ob h
    refine v_iaload C dX12_queuesTask_101 e ?_
    refine v_iconst (v := -1) C dX12_queuesTask_102 rfl ?_
    refine v_icmp_eq (tgt := 129) C dX12_queuesTask_103 (by decide) (fun c => ?_) (fun c => ?_)
    · replace h := ifT h c
      exact v_sb (p_X12_queuesTask_129 C F h) ⟨rfl, rfl, rfl, trivial⟩
    · replace h := ifF h c
      refine v_aload_n C dX12_queuesTask_106 rfl ?_
      obtain ⟨v, e, h⟩ := ob h
      refine v_getR C dX12_queuesTask_107 gf_X12_269 e ?_
      refine v_iload_n C dX12_queuesTask_110 rfl ?_
      obtain ⟨v, e, h⟩ := ob h
      refine v_baload C dX12_queuesTask_111 e ?_
      refine v_if_eq (tgt := 129) C dX12_queuesTask_112 (by decide) (fun c => ?_) (fun c => ?_)
      · replace h := ifT h c
        exact v_sb (p_X12_queuesTask_129 C F h) ⟨rfl, rfl, rfl, trivial⟩
      · replace h := ifF h c
        refine v_aload_n C dX12_queuesTask_115 rfl ?_
        refine v_iconst (v := 1) C dX12_queuesTask_116 rfl ?_
        refine v_aload_n C dX12_queuesTask_117 rfl ?_
        obtain ⟨v, e, h⟩ := ob h
        refine v_getR C dX12_queuesTask_118 gf_X12_266 e ?_
        refine v_iload_n C dX12_queuesTask_121 rfl ?_
        obtain ⟨v, e, h⟩ := ob h
        refine v_iaload C dX12_queuesTask_122 e ?_
        refine v_iload_n C dX12_queuesTask_123 rfl ?_
        obtain ⟨b, e0, h⟩ := ob h
        obtain ⟨q, e, h⟩ := ob h
        refine v_callV (As := [_, _, _]) C dX12_queuesTask_124 cf_X12_423 (rm_X12_queuesTask_X12_starts) ⟨rfl, rfl⟩ e0 rfl (Nat.le_of_ble_eq_true rfl) (c_X12_starts _ _ N _ _ _ _ _ q.1 q.2 e) ?_
        refine v_iconst (v := 1) C dX12_queuesTask_127 rfl ?_
        exact v_zret C F ⟨rfl, rfl, Nat.le_refl _⟩ dX12_queuesTask_128 h
  · replace h := ifF h c
    refine v_iconst (v := 0) C dX12_queuesTask_94 rfl ?_
    exact v_zret C F ⟨rfl, rfl, Nat.le_refl _⟩ dX12_queuesTask_95 h
set_option maxRecDepth 100000 in
set_option maxHeartbeats 4000000 in
theorem p_X12_queuesTask_73 {x : CX} {l : Launch} {g : CG} {rv : Int32} {μ0 μ9 : Mem} (C : Cx x l g mi_X12_queuesTask) (F : Prom x g mi_X12_queuesTask μ0 (some (aI rv)) μ9) {N : Nat} {k57 : (Option Nat) → Int32 → Int32 → Int32 → Mem → Option (Int32 × Mem)} (hk57 : ∀ (a0 : Option Nat) (a1 : Int32) (a2 : Int32) (a3 : Int32) (μ : Mem), k57 a0 a1 a2 a3 μ = some (rv, μ9) → V x g 4 0 0 μ 57 [(0, aR a0), (1, aI a1), (2, aI a2), (3, aI a3)] []) {a0 : Option Nat} {a1 : Int32} {a2 : Int32} {a3 : Int32} {μ : Mem} (h : f_X12_queuesTask_73 N k57 a0 a1 a2 a3 μ = some (rv, μ9)) : V x g 4 0 0 μ 73 [(0, aR a0), (1, aI a1), (2, aI a2), (3, aI a3)] [] := by
  unfold f_X12_queuesTask_73 at h
  refine v_iinc (w := -1) C dX12_queuesTask_73 rfl rfl (by decide) ?_
  refine v_goto (tgt := 57) C dX12_queuesTask_76 (by decide) ?_
  exact v_sb (hk57 _ _ _ _ _ h) ⟨rfl, rfl, rfl, rfl, trivial⟩
set_option maxRecDepth 100000 in
set_option maxHeartbeats 4000000 in
theorem pH_X12_queuesTask_57 {x : CX} {l : Launch} {g : CG} {rv : Int32} {μ0 μ9 : Mem} (C : Cx x l g mi_X12_queuesTask) (F : Prom x g mi_X12_queuesTask μ0 (some (aI rv)) μ9) {N : Nat} {k57 : (Option Nat) → Int32 → Int32 → Int32 → Mem → Option (Int32 × Mem)} (hk57 : ∀ (a0 : Option Nat) (a1 : Int32) (a2 : Int32) (a3 : Int32) (μ : Mem), k57 a0 a1 a2 a3 μ = some (rv, μ9) → V x g 4 0 0 μ 57 [(0, aR a0), (1, aI a1), (2, aI a2), (3, aI a3)] []) {a0 : Option Nat} {a1 : Int32} {a2 : Int32} {a3 : Int32} {μ : Mem} (h : H_X12_queuesTask_57 N k57 a0 a1 a2 a3 μ = some (rv, μ9)) : V x g 4 0 0 μ 57 [(0, aR a0), (1, aI a1), (2, aI a2), (3, aI a3)] [] := by
  unfold H_X12_queuesTask_57 at h
  refine v_iload_n C dX12_queuesTask_57 rfl ?_
  refine v_if_lt (tgt := 79) C dX12_queuesTask_58 (by decide) (fun c => ?_) (fun c => ?_)
  · replace h := ifT h c
    refine v_iload_n C dX12_queuesTask_79 rfl ?_
    refine v_iconst (v := -1) C dX12_queuesTask_80 rfl ?_
    refine v_icmp_ne (tgt := 89) C dX12_queuesTask_81 (by decide) (fun c => ?_) (fun c => ?_)
    · replace h := ifT h c
      exact v_sb (p_X12_queuesTask_89 C F h) ⟨rfl, rfl, rfl, trivial⟩
    · replace h := ifF h c
      refine v_aload_n C dX12_queuesTask_84 rfl ?_
      obtain ⟨b, e0, h⟩ := ob h
      obtain ⟨q, e, h⟩ := ob h
      refine v_callV (As := []) C dX12_queuesTask_85 cf_X12_426 (rm_X12_queuesTask_X12_given) ⟨rfl, rfl⟩ e0 rfl (Nat.le_of_ble_eq_true rfl) (c_X12_given _ _ N _ _ q.1 q.2 e) ?_
      refine v_istore_n C dX12_queuesTask_88 (by decide) ?_
      exact v_sb (p_X12_queuesTask_89 C F h) ⟨rfl, rfl, rfl, trivial⟩
  · replace h := ifF h c
    refine v_aload_n C dX12_queuesTask_61 rfl ?_
    obtain ⟨v, e, h⟩ := ob h
    refine v_getR C dX12_queuesTask_62 gf_X12_266 e ?_
    refine v_iload_n C dX12_queuesTask_65 rfl ?_
    obtain ⟨v, e, h⟩ := ob h
    refine v_iaload C dX12_queuesTask_66 e ?_
    refine v_iconst (v := -1) C dX12_queuesTask_67 rfl ?_
    refine v_icmp_ne (tgt := 73) C dX12_queuesTask_68 (by decide) (fun c => ?_) (fun c => ?_)
    · replace h := ifT h c
      exact v_sb (p_X12_queuesTask_73 C F hk57 h) ⟨rfl, rfl, rfl, rfl, trivial⟩
    · replace h := ifF h c
      refine v_iload_n C dX12_queuesTask_71 rfl ?_
      refine v_istore_n C dX12_queuesTask_72 (by decide) ?_
      exact v_sb (p_X12_queuesTask_73 C F hk57 h) ⟨rfl, rfl, rfl, rfl, trivial⟩
set_option maxRecDepth 100000 in
set_option maxHeartbeats 4000000 in
theorem pL_X12_queuesTask_57 {x : CX} {l : Launch} {g : CG} {rv : Int32} {μ0 μ9 : Mem} (C : Cx x l g mi_X12_queuesTask) (F : Prom x g mi_X12_queuesTask μ0 (some (aI rv)) μ9) (N : Nat) (n : Nat) : ∀ (a0 : Option Nat) (a1 : Int32) (a2 : Int32) (a3 : Int32) (μ : Mem), L_X12_queuesTask_57 N n a0 a1 a2 a3 μ = some (rv, μ9) → V x g 4 0 0 μ 57 [(0, aR a0), (1, aI a1), (2, aI a2), (3, aI a3)] [] := by
  induction n with
  | zero => intro a0 a1 a2 a3 μ h; cases h
  | succ n ih => intro a0 a1 a2 a3 μ h; exact pH_X12_queuesTask_57 C F ih h
set_option maxRecDepth 100000 in
set_option maxHeartbeats 4000000 in
theorem p_X12_queuesTask_35 {x : CX} {l : Launch} {g : CG} {rv : Int32} {μ0 μ9 : Mem} (C : Cx x l g mi_X12_queuesTask) (F : Prom x g mi_X12_queuesTask μ0 (some (aI rv)) μ9) {N : Nat} {k9 : (Option Nat) → Int32 → Int32 → Mem → Option (Int32 × Mem)} (hk9 : ∀ (a0 : Option Nat) (a1 : Int32) (a2 : Int32) (μ : Mem), k9 a0 a1 a2 μ = some (rv, μ9) → V x g 4 0 0 μ 9 [(0, aR a0), (1, aI a1), (2, aI a2)] []) {a0 : Option Nat} {a1 : Int32} {a2 : Int32} {μ : Mem} (h : f_X12_queuesTask_35 N k9 a0 a1 a2 μ = some (rv, μ9)) : V x g 4 0 0 μ 35 [(0, aR a0), (1, aI a1), (2, aI a2)] [] := by
  unfold f_X12_queuesTask_35 at h
  refine v_iinc (w := -1) C dX12_queuesTask_35 rfl rfl (by decide) ?_
  refine v_goto (tgt := 9) C dX12_queuesTask_38 (by decide) ?_
  exact v_sb (hk9 _ _ _ _ h) ⟨rfl, rfl, rfl, trivial⟩
set_option maxRecDepth 100000 in
set_option maxHeartbeats 4000000 in
theorem pH_X12_queuesTask_9 {x : CX} {l : Launch} {g : CG} {rv : Int32} {μ0 μ9 : Mem} (C : Cx x l g mi_X12_queuesTask) (F : Prom x g mi_X12_queuesTask μ0 (some (aI rv)) μ9) {N : Nat} {k9 : (Option Nat) → Int32 → Int32 → Mem → Option (Int32 × Mem)} (hk9 : ∀ (a0 : Option Nat) (a1 : Int32) (a2 : Int32) (μ : Mem), k9 a0 a1 a2 μ = some (rv, μ9) → V x g 4 0 0 μ 9 [(0, aR a0), (1, aI a1), (2, aI a2)] []) {a0 : Option Nat} {a1 : Int32} {a2 : Int32} {μ : Mem} (h : H_X12_queuesTask_9 N k9 a0 a1 a2 μ = some (rv, μ9)) : V x g 4 0 0 μ 9 [(0, aR a0), (1, aI a1), (2, aI a2)] [] := by
  unfold H_X12_queuesTask_9 at h
  refine v_iload_n C dX12_queuesTask_9 rfl ?_
  refine v_if_lt (tgt := 41) C dX12_queuesTask_10 (by decide) (fun c => ?_) (fun c => ?_)
  · replace h := ifT h c
    refine v_iload_n C dX12_queuesTask_41 rfl ?_
    refine v_iconst (v := -1) C dX12_queuesTask_42 rfl ?_
    refine v_icmp_ne (tgt := 48) C dX12_queuesTask_43 (by decide) (fun c => ?_) (fun c => ?_)
    · replace h := ifT h c
      refine v_iconst (v := -1) C dX12_queuesTask_48 rfl ?_
      refine v_istore_n C dX12_queuesTask_49 (by decide) ?_
      refine v_aload_n C dX12_queuesTask_50 rfl ?_
      obtain ⟨v, e, h⟩ := ob h
      refine v_getI C dX12_queuesTask_51 gf_X12_246 e ?_
      refine v_iconst (v := 1) C dX12_queuesTask_54 rfl ?_
      refine v_isub C dX12_queuesTask_55 ?_
      refine v_istore_n C dX12_queuesTask_56 (by decide) ?_
      exact v_sb (pL_X12_queuesTask_57 C F N N _ _ _ _ _ h) ⟨rfl, rfl, rfl, rfl, trivial⟩
    · replace h := ifF h c
      refine v_iconst (v := 0) C dX12_queuesTask_46 rfl ?_
      exact v_zret C F ⟨rfl, rfl, Nat.le_refl _⟩ dX12_queuesTask_47 h
  · replace h := ifF h c
    refine v_aload_n C dX12_queuesTask_13 rfl ?_
    obtain ⟨v, e, h⟩ := ob h
    refine v_getR C dX12_queuesTask_14 gf_X12_275 e ?_
    refine v_aload_n C dX12_queuesTask_17 rfl ?_
    obtain ⟨v, e, h⟩ := ob h
    refine v_getR C dX12_queuesTask_18 gf_X12_234 e ?_
    refine v_iload_n C dX12_queuesTask_21 rfl ?_
    obtain ⟨v, e, h⟩ := ob h
    refine v_iaload C dX12_queuesTask_22 e ?_
    obtain ⟨v, e, h⟩ := ob h
    refine v_iaload C dX12_queuesTask_23 e ?_
    refine v_iconst (v := -1) C dX12_queuesTask_24 rfl ?_
    refine v_icmp_ne (tgt := 35) C dX12_queuesTask_25 (by decide) (fun c => ?_) (fun c => ?_)
    · replace h := ifT h c
      exact v_sb (p_X12_queuesTask_35 C F hk9 h) ⟨rfl, rfl, rfl, trivial⟩
    · replace h := ifF h c
      refine v_aload_n C dX12_queuesTask_28 rfl ?_
      obtain ⟨v, e, h⟩ := ob h
      refine v_getR C dX12_queuesTask_29 gf_X12_234 e ?_
      refine v_iload_n C dX12_queuesTask_32 rfl ?_
      obtain ⟨v, e, h⟩ := ob h
      refine v_iaload C dX12_queuesTask_33 e ?_
      refine v_istore_n C dX12_queuesTask_34 (by decide) ?_
      exact v_sb (p_X12_queuesTask_35 C F hk9 h) ⟨rfl, rfl, rfl, trivial⟩
set_option maxRecDepth 100000 in
set_option maxHeartbeats 4000000 in
theorem pL_X12_queuesTask_9 {x : CX} {l : Launch} {g : CG} {rv : Int32} {μ0 μ9 : Mem} (C : Cx x l g mi_X12_queuesTask) (F : Prom x g mi_X12_queuesTask μ0 (some (aI rv)) μ9) (N : Nat) (n : Nat) : ∀ (a0 : Option Nat) (a1 : Int32) (a2 : Int32) (μ : Mem), L_X12_queuesTask_9 N n a0 a1 a2 μ = some (rv, μ9) → V x g 4 0 0 μ 9 [(0, aR a0), (1, aI a1), (2, aI a2)] [] := by
  induction n with
  | zero => intro a0 a1 a2 μ h; cases h
  | succ n ih => intro a0 a1 a2 μ h; exact pH_X12_queuesTask_9 C F ih h
set_option maxRecDepth 100000 in
set_option maxHeartbeats 4000000 in
theorem p_X12_queuesTask {x : CX} {l : Launch} {g : CG} {rv : Int32} {μ0 μ9 : Mem} (C : Cx x l g mi_X12_queuesTask) (F : Prom x g mi_X12_queuesTask μ0 (some (aI rv)) μ9) {N : Nat} {a0 : Option Nat} {μ : Mem} (h : f_X12_queuesTask N a0 μ = some (rv, μ9)) : V x g 4 0 0 μ 0 [(0, aR a0)] [] := by
  unfold f_X12_queuesTask at h
  refine v_iconst (v := -1) C dX12_queuesTask_0 rfl ?_
  refine v_istore_n C dX12_queuesTask_1 (by decide) ?_
  refine v_aload_n C dX12_queuesTask_2 rfl ?_
  obtain ⟨v, e, h⟩ := ob h
  refine v_getI C dX12_queuesTask_3 gf_X12_338 e ?_
  refine v_iconst (v := 1) C dX12_queuesTask_6 rfl ?_
  refine v_isub C dX12_queuesTask_7 ?_
  refine v_istore_n C dX12_queuesTask_8 (by decide) ?_
  exact v_sb (pL_X12_queuesTask_9 C F N N _ _ _ _ h) ⟨rfl, rfl, rfl, trivial⟩
set_option maxRecDepth 100000 in
set_option maxHeartbeats 4000000 in
theorem c_X12_queuesTask (l : Launch) (g : CG) (N : Nat) (a0 : Option Nat) (μ : Mem) (rv : Int32) (μ9 : Mem) (h : f_X12_queuesTask N a0 μ = some (rv, μ9)) : Ct l yX12_queuesTask mi_X12_queuesTask g [aR a0] μ (some (aI rv)) μ9 := ct_of ⟨by decide, rfl, rfl⟩ (Nat.le_of_ble_eq_true rfl) fun x C F => p_X12_queuesTask C F h
