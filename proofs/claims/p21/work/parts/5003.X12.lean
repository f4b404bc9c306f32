/-! LAYER 1, ShareEightModel: part, all, asked, lies, texts, again (by program) -/
def f_X12_part_78 (N : Nat) (a0 : Option Nat) (μ : Mem) : Option (Int32 × Mem) :=
  (mfI μ a0 12 13).bind fun v1 =>
  (mck μ a0 12).bind fun b3 =>
  (f_X12_fails N (some b3) 2 v1 μ).bind fun q2 =>
  some (0, q2.2)
def f_X12_part_150 (N : Nat) (s0 : Int32) (μ : Mem) : Option (Int32 × Mem) :=
  some (s0 &&& 4095, μ)
def f_X12_part_140 (N : Nat) (a1 : Int32) (a2 : Int32) (μ : Mem) : Option (Int32 × Mem) :=
  if a1 = 0 then
    f_X12_part_150 N a2 μ
  else
    f_X12_part_150 N (-a2) μ
def f_X12_part_127 (N : Nat) (a0 : Option Nat) (a1 : Int32) (a2 : Int32) (μ : Mem) : Option (Int32 × Mem) :=
  (mck μ a0 12).bind fun b2 =>
  (f_X12_take N (some b2) μ).bind fun q1 =>
  if a1 = 0 then
    f_X12_part_140 N a1 a2 q1.2
  else
    (mpI q1.2 a0 12 30 ((-1))).bind fun μ3 =>
    f_X12_part_140 N a1 a2 μ3
def f_X12_part_108 (N : Nat) (a0 : Option Nat) (a1 : Int32) (s0 : Int32) (μ : Mem) : Option (Int32 × Mem) :=
  (mpI μ a0 12 30 ((-1))).bind fun μ1 =>
  (mfI μ1 a0 12 12).bind fun v2 =>
  if ¬ v2 = (1 : Int32) then
    f_X12_part_127 N a0 a1 s0 μ1
  else
    (mck μ1 a0 12).bind fun b4 =>
    (f_X12_named N (some b4) μ1).bind fun q3 =>
    f_X12_part_127 N a0 a1 q3.1 q3.2
def f_X12_part_89 (N : Nat) (a0 : Option Nat) (a1 : Int32) (μ : Mem) : Option (Int32 × Mem) :=
  (mfI μ a0 12 12).bind fun v1 =>
  if ¬ v1 = (4 : Int32) then
    (mfI μ a0 12 14).bind fun v2 =>
    f_X12_part_108 N a0 a1 v2 μ
  else
    (mfI μ a0 12 11).bind fun v3 =>
    f_X12_part_108 N a0 a1 v3 μ
def f_X12_part_53 (N : Nat) (a0 : Option Nat) (a1 : Int32) (μ : Mem) : Option (Int32 × Mem) :=
  (mfI μ a0 12 12).bind fun v1 =>
  if v1 = (5 : Int32) then
    f_X12_part_78 N a0 μ
  else
    (mfI μ a0 12 12).bind fun v2 =>
    if ¬ v2 = (4 : Int32) then
      f_X12_part_89 N a0 a1 μ
    else
      (mfI μ a0 12 14).bind fun v3 =>
      if v3 = (46 : Int32) then
        f_X12_part_89 N a0 a1 μ
      else
        f_X12_part_78 N a0 μ
def f_X12_part_15 (N : Nat) (a0 : Option Nat) (a1 : Int32) (μ : Mem) : Option (Int32 × Mem) :=
  (mfI μ a0 12 5).bind fun v1 =>
  if v1 ≤ 0 then
    (mfI μ a0 12 12).bind fun v2 =>
    if ¬ v2 = (1 : Int32) then
      f_X12_part_53 N a0 a1 μ
    else
      (mfR μ a0 12 2).bind fun v3 =>
      (mfI μ a0 12 13).bind fun v4 =>
      (mfI μ a0 12 15).bind fun v5 =>
      (f_X12_find N 13 v3 v4 v5 μ).bind fun q6 =>
      if ¬ q6.1 = (((-1)) : Int32) then
        f_X12_part_78 N a0 q6.2
      else
        f_X12_part_53 N a0 a1 q6.2
  else
    some (0, μ)
def f_X12_part (N : Nat) (a0 : Option Nat) (μ : Mem) : Option (Int32 × Mem) :=
  (mck μ a0 12).bind fun b2 =>
  (f_X12_isSign N (some b2) 45 μ).bind fun q1 =>
  if q1.1 = 0 then
    f_X12_part_15 N a0 q1.1 q1.2
  else
    (mck q1.2 a0 12).bind fun b4 =>
    (f_X12_take N (some b4) q1.2).bind fun q3 =>
    f_X12_part_15 N a0 q1.1 q3.2
set_option maxRecDepth 100000 in
set_option maxHeartbeats 4000000 in
theorem p_X12_part_78 {x : CX} {l : Launch} {g : CG} {rv : Int32} {μ0 μ9 : Mem} (C : Cx x l g mi_X12_part) (F : Prom x g mi_X12_part μ0 (some (aI rv)) μ9) {N : Nat} {a0 : Option Nat} {μ : Mem} (h : f_X12_part_78 N a0 μ = some (rv, μ9)) : V x g 3 0 0 μ 78 [(0, aR a0)] [] := by
  unfold f_X12_part_78 at h
  refine v_aload_n C dX12_part_78 rfl ?_
  refine v_iconst (v := 2) C dX12_part_79 rfl ?_
  refine v_aload_n C dX12_part_80 rfl ?_
  obtain ⟨v, e, h⟩ := ob h
  refine v_getI C dX12_part_81 gf_X12_34 e ?_
  obtain ⟨b, e0, h⟩ := ob h
  obtain ⟨q, e, h⟩ := ob h
  refine v_callV (As := [_, _]) C dX12_part_84 cf_X12_57 (rm_X12_part_X12_fails) ⟨rfl, rfl⟩ e0 rfl (Nat.le_of_ble_eq_true rfl) (c_X12_fails _ _ N _ _ _ _ q.1 q.2 e) ?_
  refine v_iconst (v := 0) C dX12_part_87 rfl ?_
  exact v_iret C F ⟨rfl, rfl, Nat.le_refl _⟩ dX12_part_88 h
set_option maxRecDepth 100000 in
set_option maxHeartbeats 4000000 in
theorem p_X12_part_150 {x : CX} {l : Launch} {g : CG} {rv : Int32} {μ0 μ9 : Mem} (C : Cx x l g mi_X12_part) (F : Prom x g mi_X12_part μ0 (some (aI rv)) μ9) {N : Nat} {s0 : Int32} {μ : Mem} (h : f_X12_part_150 N s0 μ = some (rv, μ9)) : V x g 3 0 0 μ 150 [] [aI s0] := by
  unfold f_X12_part_150 at h
  refine v_sipush (v := 4095) C dX12_part_150 rfl ?_
  refine v_iand C dX12_part_153 ?_
  exact v_iret C F ⟨rfl, rfl, Nat.le_refl _⟩ dX12_part_154 h
set_option maxRecDepth 100000 in
set_option maxHeartbeats 4000000 in
theorem p_X12_part_140 {x : CX} {l : Launch} {g : CG} {rv : Int32} {μ0 μ9 : Mem} (C : Cx x l g mi_X12_part) (F : Prom x g mi_X12_part μ0 (some (aI rv)) μ9) {N : Nat} {a1 : Int32} {a2 : Int32} {μ : Mem} (h : f_X12_part_140 N a1 a2 μ = some (rv, μ9)) : V x g 3 0 0 μ 140 [(1, aI a1), (2, aI a2)] [] := by
  unfold f_X12_part_140 at h
  refine v_iload_n C dX12_part_140 rfl ?_
  refine v_if_eq (tgt := 149) C dX12_part_141 (by decide) (fun c => ?_) (fun c => ?_)
  · replace h := ifT h c
    refine v_iload_n C dX12_part_149 rfl ?_
    exact v_sb (p_X12_part_150 C F h) trivial
  · replace h := ifF h c
    refine v_iload_n C dX12_part_144 rfl ?_
    refine v_ineg C dX12_part_145 ?_
    refine v_goto (tgt := 150) C dX12_part_146 (by decide) ?_
    exact v_sb (p_X12_part_150 C F h) trivial
set_option maxRecDepth 100000 in
set_option maxHeartbeats 4000000 in
theorem p_X12_part_127 {x : CX} {l : Launch} {g : CG} {rv : Int32} {μ0 μ9 : Mem} (C : Cx x l g mi_X12_part) (F : Prom x g mi_X12_part μ0 (some (aI rv)) μ9) {N : Nat} {a0 : Option Nat} {a1 : Int32} {a2 : Int32} {μ : Mem} (h : f_X12_part_127 N a0 a1 a2 μ = some (rv, μ9)) : V x g 3 0 0 μ 127 [(0, aR a0), (1, aI a1), (2, aI a2)] [] := by
  unfold f_X12_part_127 at h
  refine v_aload_n C dX12_part_127 rfl ?_
  obtain ⟨b, e0, h⟩ := ob h
  obtain ⟨q, e, h⟩ := ob h
  refine v_callV (As := []) C dX12_part_128 cf_X12_126 (rm_X12_part_X12_take) ⟨rfl, rfl⟩ e0 rfl (Nat.le_of_ble_eq_true rfl) (c_X12_take _ _ N _ _ q.1 q.2 e) ?_
  refine v_iload_n C dX12_part_131 rfl ?_
  refine v_if_eq (tgt := 140) C dX12_part_132 (by decide) (fun c => ?_) (fun c => ?_)
  · replace h := ifT h c
    exact v_sb (p_X12_part_140 C F h) ⟨rfl, rfl, trivial⟩
  · replace h := ifF h c
    refine v_aload_n C dX12_part_135 rfl ?_
    refine v_iconst (v := -1) C dX12_part_136 rfl ?_
    obtain ⟨m, e, h⟩ := ob h
    refine v_putI C dX12_part_137 (pf_X12_132 _) e ?_
    exact v_sb (p_X12_part_140 C F h) ⟨rfl, rfl, trivial⟩
set_option maxRecDepth 100000 in
set_option maxHeartbeats 4000000 in
theorem p_X12_part_108 {x : CX} {l : Launch} {g : CG} {rv : Int32} {μ0 μ9 : Mem} (C : Cx x l g mi_X12_part) (F : Prom x g mi_X12_part μ0 (some (aI rv)) μ9) {N : Nat} {a0 : Option Nat} {a1 : Int32} {s0 : Int32} {μ : Mem} (h : f_X12_part_108 N a0 a1 s0 μ = some (rv, μ9)) : V x g 3 0 0 μ 108 [(0, aR a0), (1, aI a1)] [aI s0] := by
  unfold f_X12_part_108 at h
  refine v_istore_n C dX12_part_108 (by decide) ?_
  refine v_aload_n C dX12_part_109 rfl ?_
  refine v_iconst (v := -1) C dX12_part_110 rfl ?_
  obtain ⟨m, e, h⟩ := ob h
  refine v_putI C dX12_part_111 (pf_X12_132 _) e ?_
  refine v_aload_n C dX12_part_114 rfl ?_
  obtain ⟨v, e, h⟩ := ob h
  refine v_getI C dX12_part_115 gf_X12_37 e ?_
  refine v_iconst (v := 1) C dX12_part_118 rfl ?_
  refine v_icmp_ne (tgt := 127) C dX12_part_119 (by decide) (fun c => ?_) (fun c => ?_)
  · replace h := ifT h c
    exact v_sb (p_X12_part_127 C F h) ⟨rfl, rfl, rfl, trivial⟩
  · replace h := ifF h c
    refine v_aload_n C dX12_part_122 rfl ?_
    obtain ⟨b, e0, h⟩ := ob h
    obtain ⟨q, e, h⟩ := ob h
    refine v_callV (As := []) C dX12_part_123 cf_X12_135 (rm_X12_part_X12_named) ⟨rfl, rfl⟩ e0 rfl (Nat.le_of_ble_eq_true rfl) (c_X12_named _ _ N _ _ q.1 q.2 e) ?_
    refine v_istore_n C dX12_part_126 (by decide) ?_
    exact v_sb (p_X12_part_127 C F h) ⟨rfl, rfl, rfl, trivial⟩
set_option maxRecDepth 100000 in
set_option maxHeartbeats 4000000 in
theorem p_X12_part_89 {x : CX} {l : Launch} {g : CG} {rv : Int32} {μ0 μ9 : Mem} (C : Cx x l g mi_X12_part) (F : Prom x g mi_X12_part μ0 (some (aI rv)) μ9) {N : Nat} {a0 : Option Nat} {a1 : Int32} {μ : Mem} (h : f_X12_part_89 N a0 a1 μ = some (rv, μ9)) : V x g 3 0 0 μ 89 [(0, aR a0), (1, aI a1)] [] := by
  unfold f_X12_part_89 at h
  refine v_aload_n C dX12_part_89 rfl ?_
  obtain ⟨v, e, h⟩ := ob h
  refine v_getI C dX12_part_90 gf_X12_37 e ?_
  refine v_iconst (v := 4) C dX12_part_93 rfl ?_
  refine v_icmp_ne (tgt := 104) C dX12_part_94 (by decide) (fun c => ?_) (fun c => ?_)
  · replace h := ifT h c
    refine v_aload_n C dX12_part_104 rfl ?_
    obtain ⟨v, e, h⟩ := ob h
    refine v_getI C dX12_part_105 gf_X12_64 e ?_
    exact v_sb (p_X12_part_108 C F h) ⟨rfl, rfl, trivial⟩
  · replace h := ifF h c
    refine v_aload_n C dX12_part_97 rfl ?_
    obtain ⟨v, e, h⟩ := ob h
    refine v_getI C dX12_part_98 gf_X12_129 e ?_
    refine v_goto (tgt := 108) C dX12_part_101 (by decide) ?_
    exact v_sb (p_X12_part_108 C F h) ⟨rfl, rfl, trivial⟩
set_option maxRecDepth 100000 in
set_option maxHeartbeats 4000000 in
theorem p_X12_part_53 {x : CX} {l : Launch} {g : CG} {rv : Int32} {μ0 μ9 : Mem} (C : Cx x l g mi_X12_part) (F : Prom x g mi_X12_part μ0 (some (aI rv)) μ9) {N : Nat} {a0 : Option Nat} {a1 : Int32} {μ : Mem} (h : f_X12_part_53 N a0 a1 μ = some (rv, μ9)) : V x g 3 0 0 μ 53 [(0, aR a0), (1, aI a1)] [] := by
  unfold f_X12_part_53 at h
  refine v_aload_n C dX12_part_53 rfl ?_
  obtain ⟨v, e, h⟩ := ob h
  refine v_getI C dX12_part_54 gf_X12_37 e ?_
  refine v_iconst (v := 5) C dX12_part_57 rfl ?_
  refine v_icmp_eq (tgt := 78) C dX12_part_58 (by decide) (fun c => ?_) (fun c => ?_)
  · replace h := ifT h c
    exact v_sb (p_X12_part_78 C F h) ⟨rfl, trivial⟩
  · replace h := ifF h c
    refine v_aload_n C dX12_part_61 rfl ?_
    obtain ⟨v, e, h⟩ := ob h
    refine v_getI C dX12_part_62 gf_X12_37 e ?_
    refine v_iconst (v := 4) C dX12_part_65 rfl ?_
    refine v_icmp_ne (tgt := 89) C dX12_part_66 (by decide) (fun c => ?_) (fun c => ?_)
    · replace h := ifT h c
      exact v_sb (p_X12_part_89 C F h) ⟨rfl, rfl, trivial⟩
    · replace h := ifF h c
      refine v_aload_n C dX12_part_69 rfl ?_
      obtain ⟨v, e, h⟩ := ob h
      refine v_getI C dX12_part_70 gf_X12_64 e ?_
      refine v_bipush (v := 46) C dX12_part_73 rfl ?_
      refine v_icmp_eq (tgt := 89) C dX12_part_75 (by decide) (fun c => ?_) (fun c => ?_)
      · replace h := ifT h c
        exact v_sb (p_X12_part_89 C F h) ⟨rfl, rfl, trivial⟩
      · replace h := ifF h c
        exact v_sb (p_X12_part_78 C F h) ⟨rfl, trivial⟩
set_option maxRecDepth 100000 in
set_option maxHeartbeats 4000000 in
theorem p_X12_part_15 {x : CX} {l : Launch} {g : CG} {rv : Int32} {μ0 μ9 : Mem} (C : Cx x l g mi_X12_part) (F : Prom x g mi_X12_part μ0 (some (aI rv)) μ9) {N : Nat} {a0 : Option Nat} {a1 : Int32} {μ : Mem} (h : f_X12_part_15 N a0 a1 μ = some (rv, μ9)) : V x g 3 0 0 μ 15 [(0, aR a0), (1, aI a1)] [] := by
  unfold f_X12_part_15 at h
  refine v_aload_n C dX12_part_15 rfl ?_
  obtain ⟨v, e, h⟩ := ob h
  refine v_getI C dX12_part_16 gf_X12_19 e ?_
  refine v_if_le (tgt := 24) C dX12_part_19 (by decide) (fun c => ?_) (fun c => ?_)
  · replace h := ifT h c
    refine v_aload_n C dX12_part_24 rfl ?_
    obtain ⟨v, e, h⟩ := ob h
    refine v_getI C dX12_part_25 gf_X12_37 e ?_
    refine v_iconst (v := 1) C dX12_part_28 rfl ?_
    refine v_icmp_ne (tgt := 53) C dX12_part_29 (by decide) (fun c => ?_) (fun c => ?_)
    · replace h := ifT h c
      exact v_sb (p_X12_part_53 C F h) ⟨rfl, rfl, trivial⟩
    · replace h := ifF h c
      refine v_ldcX C dX12_part_32 (Cex C).2.2.2.2.2.2.2.2.2.2.2.2 ?_
      refine v_aload_n C dX12_part_34 rfl ?_
      obtain ⟨v, e, h⟩ := ob h
      refine v_getR C dX12_part_35 gf_X12_28 e ?_
      refine v_aload_n C dX12_part_38 rfl ?_
      obtain ⟨v, e, h⟩ := ob h
      refine v_getI C dX12_part_39 gf_X12_34 e ?_
      refine v_aload_n C dX12_part_42 rfl ?_
      obtain ⟨v, e, h⟩ := ob h
      refine v_getI C dX12_part_43 gf_X12_54 e ?_
      obtain ⟨q, e, h⟩ := ob h
      refine v_callS (As := [_, _, _, _]) C dX12_part_46 cf_X12_103 (rm_X12_part_X12_find) ⟨rfl, rfl⟩ rfl (Nat.le_of_ble_eq_true rfl) (c_X12_find _ _ N _ _ _ _ _ q.1 q.2 e) ?_
      refine v_iconst (v := -1) C dX12_part_49 rfl ?_
      refine v_icmp_ne (tgt := 78) C dX12_part_50 (by decide) (fun c => ?_) (fun c => ?_)
      · replace h := ifT h c
        exact v_sb (p_X12_part_78 C F h) ⟨rfl, trivial⟩
      · replace h := ifF h c
        exact v_sb (p_X12_part_53 C F h) ⟨rfl, rfl, trivial⟩
  · replace h := ifF h c
    refine v_iconst (v := 0) C dX12_part_22 rfl ?_
    exact v_iret C F ⟨rfl, rfl, Nat.le_refl _⟩ dX12_part_23 h
set_option maxRecDepth 100000 in
set_option maxHeartbeats 4000000 in
theorem p_X12_part {x : CX} {l : Launch} {g : CG} {rv : Int32} {μ0 μ9 : Mem} (C : Cx x l g mi_X12_part) (F : Prom x g mi_X12_part μ0 (some (aI rv)) μ9) {N : Nat} {a0 : Option Nat} {μ : Mem} (h : f_X12_part N a0 μ = some (rv, μ9)) : V x g 3 0 0 μ 0 [(0, aR a0)] [] := by
  unfold f_X12_part at h
  refine v_aload_n C dX12_part_0 rfl ?_
  refine v_bipush (v := 45) C dX12_part_1 rfl ?_
  obtain ⟨b, e0, h⟩ := ob h
  obtain ⟨q, e, h⟩ := ob h
  refine v_callV (As := [_]) C dX12_part_3 cf_X12_123 (rm_X12_part_X12_isSign) ⟨rfl, rfl⟩ e0 rfl (Nat.le_of_ble_eq_true rfl) (c_X12_isSign _ _ N _ _ _ q.1 q.2 e) ?_
  refine v_istore_n C dX12_part_6 (by decide) ?_
  refine v_iload_n C dX12_part_7 rfl ?_
  refine v_if_eq (tgt := 15) C dX12_part_8 (by decide) (fun c => ?_) (fun c => ?_)
  · replace h := ifT h c
    exact v_sb (p_X12_part_15 C F h) ⟨rfl, rfl, trivial⟩
  · replace h := ifF h c
    refine v_aload_n C dX12_part_11 rfl ?_
    obtain ⟨b, e0, h⟩ := ob h
    obtain ⟨q, e, h⟩ := ob h
    refine v_callV (As := []) C dX12_part_12 cf_X12_126 (rm_X12_part_X12_take) ⟨rfl, rfl⟩ e0 rfl (Nat.le_of_ble_eq_true rfl) (c_X12_take _ _ N _ _ q.1 q.2 e) ?_
    exact v_sb (p_X12_part_15 C F h) ⟨rfl, rfl, trivial⟩
set_option maxRecDepth 100000 in
set_option maxHeartbeats 4000000 in
theorem c_X12_part (l : Launch) (g : CG) (N : Nat) (a0 : Option Nat) (μ : Mem) (rv : Int32) (μ9 : Mem) (h : f_X12_part N a0 μ = some (rv, μ9)) : Ct l yX12_part mi_X12_part g [aR a0] μ (some (aI rv)) μ9 := ct_of ⟨by decide, rfl, rfl⟩ (Nat.le_of_ble_eq_true rfl) fun x C F => p_X12_part C F h
def f_X12_all_106 (N : Nat) (k10 : (Option Nat) → Int32 → Int32 → Mem → Option (Int32 × Mem)) (a0 : Option Nat) (a2 : Int32) (s0 : Int32) (μ : Mem) : Option (Int32 × Mem) :=
  k10 a0 (s0 &&& 4095) a2 μ
def f_X12_all_46 (N : Nat) (k10 : (Option Nat) → Int32 → Int32 → Mem → Option (Int32 × Mem)) (a0 : Option Nat) (a1 : Int32) (μ : Mem) : Option (Int32 × Mem) :=
  (mfI μ a0 12 14).bind fun v1 =>
  (mck μ a0 12).bind fun b3 =>
  (f_X12_take N (some b3) μ).bind fun q2 =>
  (mck q2.2 a0 12).bind fun b5 =>
  (f_X12_part N (some b5) q2.2).bind fun q4 =>
  if ¬ v1 = (43 : Int32) then
    if ¬ v1 = (45 : Int32) then
      if ¬ v1 = (33 : Int32) then
        f_X12_all_106 N k10 a0 ((-1)) (a1 &&& q4.1) q4.2
      else
        f_X12_all_106 N k10 a0 ((-1)) (a1 ||| q4.1) q4.2
    else
      f_X12_all_106 N k10 a0 ((-1)) (a1 - q4.1) q4.2
  else
    f_X12_all_106 N k10 a0 ((-1)) (a1 + q4.1) q4.2
def H_X12_all_10 (N : Nat) (k10 : (Option Nat) → Int32 → Int32 → Mem → Option (Int32 × Mem)) (a0 : Option Nat) (a1 : Int32) (a2 : Int32) (μ : Mem) : Option (Int32 × Mem) :=
  (mck μ a0 12).bind fun b2 =>
  (f_X12_isSign N (some b2) 43 μ).bind fun q1 =>
  if ¬ q1.1 = 0 then
    f_X12_all_46 N k10 a0 a1 q1.2
  else
    (mck q1.2 a0 12).bind fun b4 =>
    (f_X12_isSign N (some b4) 45 q1.2).bind fun q3 =>
    if ¬ q3.1 = 0 then
      f_X12_all_46 N k10 a0 a1 q3.2
    else
      (mck q3.2 a0 12).bind fun b6 =>
      (f_X12_isSign N (some b6) 33 q3.2).bind fun q5 =>
      if ¬ q5.1 = 0 then
        f_X12_all_46 N k10 a0 a1 q5.2
      else
        (mck q5.2 a0 12).bind fun b8 =>
        (f_X12_isSign N (some b8) 38 q5.2).bind fun q7 =>
        if q7.1 = 0 then
          (mpI q7.2 a0 12 30 a2).bind fun μ9 =>
          some (a1, μ9)
        else
          f_X12_all_46 N k10 a0 a1 q7.2
def L_X12_all_10 (N : Nat) : Nat → (Option Nat) → Int32 → Int32 → Mem → Option (Int32 × Mem)
  | 0 => fun _ _ _ _ => none
  | n + 1 => H_X12_all_10 N (L_X12_all_10 N n)
def f_X12_all (N : Nat) (a0 : Option Nat) (μ : Mem) : Option (Int32 × Mem) :=
  (mck μ a0 12).bind fun b2 =>
  (f_X12_part N (some b2) μ).bind fun q1 =>
  (mfI q1.2 a0 12 30).bind fun v3 =>
  L_X12_all_10 N N a0 q1.1 v3 q1.2
set_option maxRecDepth 100000 in
set_option maxHeartbeats 4000000 in
theorem p_X12_all_106 {x : CX} {l : Launch} {g : CG} {rv : Int32} {μ0 μ9 : Mem} (C : Cx x l g mi_X12_all) (F : Prom x g mi_X12_all μ0 (some (aI rv)) μ9) {N : Nat} {k10 : (Option Nat) → Int32 → Int32 → Mem → Option (Int32 × Mem)} (hk10 : ∀ (a0 : Option Nat) (a1 : Int32) (a2 : Int32) (μ : Mem), k10 a0 a1 a2 μ = some (rv, μ9) → V x g 5 0 0 μ 10 [(0, aR a0), (1, aI a1), (2, aI a2)] []) {a0 : Option Nat} {a2 : Int32} {s0 : Int32} {μ : Mem} (h : f_X12_all_106 N k10 a0 a2 s0 μ = some (rv, μ9)) : V x g 5 0 0 μ 106 [(0, aR a0), (2, aI a2)] [aI s0] := by
  unfold f_X12_all_106 at h
  refine v_sipush (v := 4095) C dX12_all_106 rfl ?_
  refine v_iand C dX12_all_109 ?_
  refine v_istore_n C dX12_all_110 (by decide) ?_
  refine v_goto (tgt := 10) C dX12_all_111 (by decide) ?_
  exact v_sb (hk10 _ _ _ _ h) ⟨rfl, rfl, rfl, trivial⟩
set_option maxRecDepth 100000 in
set_option maxHeartbeats 4000000 in
theorem p_X12_all_46 {x : CX} {l : Launch} {g : CG} {rv : Int32} {μ0 μ9 : Mem} (C : Cx x l g mi_X12_all) (F : Prom x g mi_X12_all μ0 (some (aI rv)) μ9) {N : Nat} {k10 : (Option Nat) → Int32 → Int32 → Mem → Option (Int32 × Mem)} (hk10 : ∀ (a0 : Option Nat) (a1 : Int32) (a2 : Int32) (μ : Mem), k10 a0 a1 a2 μ = some (rv, μ9) → V x g 5 0 0 μ 10 [(0, aR a0), (1, aI a1), (2, aI a2)] []) {a0 : Option Nat} {a1 : Int32} {μ : Mem} (h : f_X12_all_46 N k10 a0 a1 μ = some (rv, μ9)) : V x g 5 0 0 μ 46 [(0, aR a0), (1, aI a1)] [] := by
  unfold f_X12_all_46 at h
  refine v_aload_n C dX12_all_46 rfl ?_
  obtain ⟨v, e, h⟩ := ob h
  refine v_getI C dX12_all_47 gf_X12_64 e ?_
  refine v_istore_n C dX12_all_50 (by decide) ?_
  refine v_aload_n C dX12_all_51 rfl ?_
  obtain ⟨b, e0, h⟩ := ob h
  obtain ⟨q, e, h⟩ := ob h
  refine v_callV (As := []) C dX12_all_52 cf_X12_126 (rm_X12_all_X12_take) ⟨rfl, rfl⟩ e0 rfl (Nat.le_of_ble_eq_true rfl) (c_X12_take _ _ N _ _ q.1 q.2 e) ?_
  refine v_aload_n C dX12_all_55 rfl ?_
  obtain ⟨b, e0, h⟩ := ob h
  obtain ⟨q, e, h⟩ := ob h
  refine v_callV (As := []) C dX12_all_56 cf_X12_144 (rm_X12_all_X12_part) ⟨rfl, rfl⟩ e0 rfl (Nat.le_of_ble_eq_true rfl) (c_X12_part _ _ N _ _ q.1 q.2 e) ?_
  refine v_istore C dX12_all_59 (by decide) ?_
  refine v_iconst (v := -1) C dX12_all_61 rfl ?_
  refine v_istore_n C dX12_all_62 (by decide) ?_
  refine v_iload_n C dX12_all_63 rfl ?_
  refine v_bipush (v := 43) C dX12_all_64 rfl ?_
  refine v_icmp_ne (tgt := 76) C dX12_all_66 (by decide) (fun c => ?_) (fun c => ?_)
  · replace h := ifT h c
    refine v_iload_n C dX12_all_76 rfl ?_
    refine v_bipush (v := 45) C dX12_all_77 rfl ?_
    refine v_icmp_ne (tgt := 89) C dX12_all_79 (by decide) (fun c => ?_) (fun c => ?_)
    · replace h := ifT h c
      refine v_iload_n C dX12_all_89 rfl ?_
      refine v_bipush (v := 33) C dX12_all_90 rfl ?_
      refine v_icmp_ne (tgt := 102) C dX12_all_92 (by decide) (fun c => ?_) (fun c => ?_)
      · replace h := ifT h c
        refine v_iload_n C dX12_all_102 rfl ?_
        refine v_iload C dX12_all_103 rfl ?_
        refine v_iand C dX12_all_105 ?_
        exact v_sb (p_X12_all_106 C F hk10 h) ⟨rfl, rfl, trivial⟩
      · replace h := ifF h c
        refine v_iload_n C dX12_all_95 rfl ?_
        refine v_iload C dX12_all_96 rfl ?_
        refine v_ior C dX12_all_98 ?_
        refine v_goto (tgt := 106) C dX12_all_99 (by decide) ?_
        exact v_sb (p_X12_all_106 C F hk10 h) ⟨rfl, rfl, trivial⟩
    · replace h := ifF h c
      refine v_iload_n C dX12_all_82 rfl ?_
      refine v_iload C dX12_all_83 rfl ?_
      refine v_isub C dX12_all_85 ?_
      refine v_goto (tgt := 106) C dX12_all_86 (by decide) ?_
      exact v_sb (p_X12_all_106 C F hk10 h) ⟨rfl, rfl, trivial⟩
  · replace h := ifF h c
    refine v_iload_n C dX12_all_69 rfl ?_
    refine v_iload C dX12_all_70 rfl ?_
    refine v_iadd C dX12_all_72 ?_
    refine v_goto (tgt := 106) C dX12_all_73 (by decide) ?_
    exact v_sb (p_X12_all_106 C F hk10 h) ⟨rfl, rfl, trivial⟩
set_option maxRecDepth 100000 in
set_option maxHeartbeats 4000000 in
theorem pH_X12_all_10 {x : CX} {l : Launch} {g : CG} {rv : Int32} {μ0 μ9 : Mem} (C : Cx x l g mi_X12_all) (F : Prom x g mi_X12_all μ0 (some (aI rv)) μ9) {N : Nat} {k10 : (Option Nat) → Int32 → Int32 → Mem → Option (Int32 × Mem)} (hk10 : ∀ (a0 : Option Nat) (a1 : Int32) (a2 : Int32) (μ : Mem), k10 a0 a1 a2 μ = some (rv, μ9) → V x g 5 0 0 μ 10 [(0, aR a0), (1, aI a1), (2, aI a2)] []) {a0 : Option Nat} {a1 : Int32} {a2 : Int32} {μ : Mem} (h : H_X12_all_10 N k10 a0 a1 a2 μ = some (rv, μ9)) : V x g 5 0 0 μ 10 [(0, aR a0), (1, aI a1), (2, aI a2)] [] := by
  unfold H_X12_all_10 at h
  refine v_aload_n C dX12_all_10 rfl ?_
  refine v_bipush (v := 43) C dX12_all_11 rfl ?_
  obtain ⟨b, e0, h⟩ := ob h
  obtain ⟨q, e, h⟩ := ob h
  refine v_callV (As := [_]) C dX12_all_13 cf_X12_123 (rm_X12_all_X12_isSign) ⟨rfl, rfl⟩ e0 rfl (Nat.le_of_ble_eq_true rfl) (c_X12_isSign _ _ N _ _ _ q.1 q.2 e) ?_
  refine v_if_ne (tgt := 46) C dX12_all_16 (by decide) (fun c => ?_) (fun c => ?_)
  · replace h := ifT h c
    exact v_sb (p_X12_all_46 C F hk10 h) ⟨rfl, rfl, trivial⟩
  · replace h := ifF h c
    refine v_aload_n C dX12_all_19 rfl ?_
    refine v_bipush (v := 45) C dX12_all_20 rfl ?_
    obtain ⟨b, e0, h⟩ := ob h
    obtain ⟨q, e, h⟩ := ob h
    refine v_callV (As := [_]) C dX12_all_22 cf_X12_123 (rm_X12_all_X12_isSign) ⟨rfl, rfl⟩ e0 rfl (Nat.le_of_ble_eq_true rfl) (c_X12_isSign _ _ N _ _ _ q.1 q.2 e) ?_
    refine v_if_ne (tgt := 46) C dX12_all_25 (by decide) (fun c => ?_) (fun c => ?_)
    · replace h := ifT h c
      exact v_sb (p_X12_all_46 C F hk10 h) ⟨rfl, rfl, trivial⟩
    · replace h := ifF h c
      refine v_aload_n C dX12_all_28 rfl ?_
      refine v_bipush (v := 33) C dX12_all_29 rfl ?_
      obtain ⟨b, e0, h⟩ := ob h
      obtain ⟨q, e, h⟩ := ob h
      refine v_callV (As := [_]) C dX12_all_31 cf_X12_123 (rm_X12_all_X12_isSign) ⟨rfl, rfl⟩ e0 rfl (Nat.le_of_ble_eq_true rfl) (c_X12_isSign _ _ N _ _ _ q.1 q.2 e) ?_
      refine v_if_ne (tgt := 46) C dX12_all_34 (by decide) (fun c => ?_) (fun c => ?_)
      · replace h := ifT h c
        exact v_sb (p_X12_all_46 C F hk10 h) ⟨rfl, rfl, trivial⟩
      · replace h := ifF h c
        refine v_aload_n C dX12_all_37 rfl ?_
        refine v_bipush (v := 38) C dX12_all_38 rfl ?_
        obtain ⟨b, e0, h⟩ := ob h
        obtain ⟨q, e, h⟩ := ob h
        refine v_callV (As := [_]) C dX12_all_40 cf_X12_123 (rm_X12_all_X12_isSign) ⟨rfl, rfl⟩ e0 rfl (Nat.le_of_ble_eq_true rfl) (c_X12_isSign _ _ N _ _ _ q.1 q.2 e) ?_
        refine v_if_eq (tgt := 114) C dX12_all_43 (by decide) (fun c => ?_) (fun c => ?_)
        · replace h := ifT h c
          refine v_aload_n C dX12_all_114 rfl ?_
          refine v_iload_n C dX12_all_115 rfl ?_
          obtain ⟨m, e, h⟩ := ob h
          refine v_putI C dX12_all_116 (pf_X12_132 _) e ?_
          refine v_iload_n C dX12_all_119 rfl ?_
          exact v_iret C F ⟨rfl, rfl, Nat.le_refl _⟩ dX12_all_120 h
        · replace h := ifF h c
          exact v_sb (p_X12_all_46 C F hk10 h) ⟨rfl, rfl, trivial⟩
set_option maxRecDepth 100000 in
set_option maxHeartbeats 4000000 in
theorem pL_X12_all_10 {x : CX} {l : Launch} {g : CG} {rv : Int32} {μ0 μ9 : Mem} (C : Cx x l g mi_X12_all) (F : Prom x g mi_X12_all μ0 (some (aI rv)) μ9) (N : Nat) (n : Nat) : ∀ (a0 : Option Nat) (a1 : Int32) (a2 : Int32) (μ : Mem), L_X12_all_10 N n a0 a1 a2 μ = some (rv, μ9) → V x g 5 0 0 μ 10 [(0, aR a0), (1, aI a1), (2, aI a2)] [] := by
  induction n with
  | zero => intro a0 a1 a2 μ h; cases h
  | succ n ih => intro a0 a1 a2 μ h; exact pH_X12_all_10 C F ih h
set_option maxRecDepth 100000 in
set_option maxHeartbeats 4000000 in
theorem p_X12_all {x : CX} {l : Launch} {g : CG} {rv : Int32} {μ0 μ9 : Mem} (C : Cx x l g mi_X12_all) (F : Prom x g mi_X12_all μ0 (some (aI rv)) μ9) {N : Nat} {a0 : Option Nat} {μ : Mem} (h : f_X12_all N a0 μ = some (rv, μ9)) : V x g 5 0 0 μ 0 [(0, aR a0)] [] := by
  unfold f_X12_all at h
  refine v_aload_n C dX12_all_0 rfl ?_
  obtain ⟨b, e0, h⟩ := ob h
  obtain ⟨q, e, h⟩ := ob h
  refine v_callV (As := []) C dX12_all_1 cf_X12_144 (rm_X12_all_X12_part) ⟨rfl, rfl⟩ e0 rfl (Nat.le_of_ble_eq_true rfl) (c_X12_part _ _ N _ _ q.1 q.2 e) ?_
  refine v_istore_n C dX12_all_4 (by decide) ?_
  refine v_aload_n C dX12_all_5 rfl ?_
  obtain ⟨v, e, h⟩ := ob h
  refine v_getI C dX12_all_6 gf_X12_132 e ?_
  refine v_istore_n C dX12_all_9 (by decide) ?_
  exact v_sb (pL_X12_all_10 C F N N _ _ _ _ h) ⟨rfl, rfl, rfl, trivial⟩
set_option maxRecDepth 100000 in
set_option maxHeartbeats 4000000 in
theorem c_X12_all (l : Launch) (g : CG) (N : Nat) (a0 : Option Nat) (μ : Mem) (rv : Int32) (μ9 : Mem) (h : f_X12_all N a0 μ = some (rv, μ9)) : Ct l yX12_all mi_X12_all g [aR a0] μ (some (aI rv)) μ9 := ct_of ⟨by decide, rfl, rfl⟩ (Nat.le_of_ble_eq_true rfl) fun x C F => p_X12_all C F h
def f_X12_asked_20 (N : Nat) (a0 : Option Nat) (s0 : Int32) (μ : Mem) : Option (Int32 × Mem) :=
  (mpZ μ a0 12 29 0).bind fun μ1 =>
  some (s0, μ1)
def f_X12_asked (N : Nat) (a0 : Option Nat) (μ : Mem) : Option (Int32 × Mem) :=
  (mpZ μ a0 12 29 1).bind fun μ1 =>
  (mfI μ1 a0 12 5).bind fun v2 =>
  if ¬ v2 = 0 then
    f_X12_asked_20 N a0 0 μ1
  else
    (mck μ1 a0 12).bind fun b4 =>
    (f_X12_all N (some b4) μ1).bind fun q3 =>
    f_X12_asked_20 N a0 q3.1 q3.2
set_option maxRecDepth 100000 in
set_option maxHeartbeats 4000000 in
theorem p_X12_asked_20 {x : CX} {l : Launch} {g : CG} {rv : Int32} {μ0 μ9 : Mem} (C : Cx x l g mi_X12_asked) (F : Prom x g mi_X12_asked μ0 (some (aI rv)) μ9) {N : Nat} {a0 : Option Nat} {s0 : Int32} {μ : Mem} (h : f_X12_asked_20 N a0 s0 μ = some (rv, μ9)) : V x g 2 0 0 μ 20 [(0, aR a0)] [aI s0] := by
  unfold f_X12_asked_20 at h
  refine v_istore_n C dX12_asked_20 (by decide) ?_
  refine v_aload_n C dX12_asked_21 rfl ?_
  refine v_iconst (v := 0) C dX12_asked_22 rfl ?_
  obtain ⟨m, e, h⟩ := ob h
  refine v_putZ C dX12_asked_23 (pf_X12_141 _) e ?_
  refine v_iload_n C dX12_asked_26 rfl ?_
  exact v_iret C F ⟨rfl, rfl, Nat.le_refl _⟩ dX12_asked_27 h
set_option maxRecDepth 100000 in
set_option maxHeartbeats 4000000 in
theorem p_X12_asked {x : CX} {l : Launch} {g : CG} {rv : Int32} {μ0 μ9 : Mem} (C : Cx x l g mi_X12_asked) (F : Prom x g mi_X12_asked μ0 (some (aI rv)) μ9) {N : Nat} {a0 : Option Nat} {μ : Mem} (h : f_X12_asked N a0 μ = some (rv, μ9)) : V x g 2 0 0 μ 0 [(0, aR a0)] [] := by
  unfold f_X12_asked at h
  refine v_aload_n C dX12_asked_0 rfl ?_
  refine v_iconst (v := 1) C dX12_asked_1 rfl ?_
  obtain ⟨m, e, h⟩ := ob h
  refine v_putZ C dX12_asked_2 (pf_X12_141 _) e ?_
  refine v_aload_n C dX12_asked_5 rfl ?_
  obtain ⟨v, e, h⟩ := ob h
  refine v_getI C dX12_asked_6 gf_X12_19 e ?_
  refine v_if_ne (tgt := 19) C dX12_asked_9 (by decide) (fun c => ?_) (fun c => ?_)
  · replace h := ifT h c
    refine v_iconst (v := 0) C dX12_asked_19 rfl ?_
    exact v_sb (p_X12_asked_20 C F h) ⟨rfl, trivial⟩
  · replace h := ifF h c
    refine v_aload_n C dX12_asked_12 rfl ?_
    obtain ⟨b, e0, h⟩ := ob h
    obtain ⟨q, e, h⟩ := ob h
    refine v_callV (As := []) C dX12_asked_13 cf_X12_177 (rm_X12_asked_X12_all) ⟨rfl, rfl⟩ e0 rfl (Nat.le_of_ble_eq_true rfl) (c_X12_all _ _ N _ _ q.1 q.2 e) ?_
    refine v_goto (tgt := 20) C dX12_asked_16 (by decide) ?_
    exact v_sb (p_X12_asked_20 C F h) ⟨rfl, trivial⟩
set_option maxRecDepth 100000 in
set_option maxHeartbeats 4000000 in
theorem c_X12_asked (l : Launch) (g : CG) (N : Nat) (a0 : Option Nat) (μ : Mem) (rv : Int32) (μ9 : Mem) (h : f_X12_asked N a0 μ = some (rv, μ9)) : Ct l yX12_asked mi_X12_asked g [aR a0] μ (some (aI rv)) μ9 := ct_of ⟨by decide, rfl, rfl⟩ (Nat.le_of_ble_eq_true rfl) fun x C F => p_X12_asked C F h
def f_X12_lies_75 (N : Nat) (a0 : Option Nat) (μ : Mem) : Option (Unit × Mem) :=
  (mfI μ a0 12 11).bind fun v1 =>
  (mpI μ a0 12 11 (v1 + 1)).bind fun μ2 =>
  some ((), μ2)
def f_X12_lies (N : Nat) (a0 : Option Nat) (a1 : Int32) (μ : Mem) : Option (Unit × Mem) :=
  (mfI μ a0 12 11).bind fun v1 =>
  if v1 ≤ (4095 : Int32) then
    (mfI μ a0 12 9).bind fun v2 =>
    if v2 = 0 then
      f_X12_lies_75 N a0 μ
    else
      (mfR μ a0 12 24).bind fun v3 =>
      (mfI μ a0 12 11).bind fun v4 =>
      (maI μ 2 v3 v4).bind fun v5 =>
      if v5 = 0 then
        (mfR μ a0 12 23).bind fun v6 =>
        (mfI μ a0 12 11).bind fun v7 =>
        (mbZ μ 2 v6 v7 1).bind fun μ8 =>
        (mfR μ8 a0 12 22).bind fun v9 =>
        (mfI μ8 a0 12 11).bind fun v10 =>
        (mbI μ8 0 v9 v10 (a1 &&& 4095)).bind fun μ11 =>
        f_X12_lies_75 N a0 μ11
      else
        (mfI μ a0 12 27).bind fun v12 =>
        (mck μ a0 12).bind fun b14 =>
        (f_X12_fails N (some b14) 8 v12 μ).bind fun q13 =>
        some ((), q13.2)
  else
    (mfI μ a0 12 27).bind fun v15 =>
    (mck μ a0 12).bind fun b17 =>
    (f_X12_fails N (some b17) 6 v15 μ).bind fun q16 =>
    some ((), q16.2)
set_option maxRecDepth 100000 in
set_option maxHeartbeats 4000000 in
theorem p_X12_lies_75 {x : CX} {l : Launch} {g : CG} {rv : Unit} {μ0 μ9 : Mem} (C : Cx x l g mi_X12_lies) (F : Prom x g mi_X12_lies μ0 none μ9) {N : Nat} {a0 : Option Nat} {μ : Mem} (h : f_X12_lies_75 N a0 μ = some (rv, μ9)) : V x g 2 0 0 μ 75 [(0, aR a0)] [] := by
  unfold f_X12_lies_75 at h
  refine v_aload_n C dX12_lies_75 rfl ?_
  refine v_dup C dX12_lies_76 rfl ?_
  obtain ⟨v, e, h⟩ := ob h
  refine v_getI C dX12_lies_77 gf_X12_129 e ?_
  refine v_iconst (v := 1) C dX12_lies_80 rfl ?_
  refine v_iadd C dX12_lies_81 ?_
  obtain ⟨m, e, h⟩ := ob h
  refine v_putI C dX12_lies_82 (pf_X12_129 _) e ?_
  exact v_vret C F ⟨rfl, rfl, Nat.le_refl _⟩ dX12_lies_85 h
set_option maxRecDepth 100000 in
set_option maxHeartbeats 4000000 in
theorem p_X12_lies {x : CX} {l : Launch} {g : CG} {rv : Unit} {μ0 μ9 : Mem} (C : Cx x l g mi_X12_lies) (F : Prom x g mi_X12_lies μ0 none μ9) {N : Nat} {a0 : Option Nat} {a1 : Int32} {μ : Mem} (h : f_X12_lies N a0 a1 μ = some (rv, μ9)) : V x g 2 0 0 μ 0 [(0, aR a0), (1, aI a1)] [] := by
  unfold f_X12_lies at h
  refine v_aload_n C dX12_lies_0 rfl ?_
  obtain ⟨v, e, h⟩ := ob h
  refine v_getI C dX12_lies_1 gf_X12_129 e ?_
  refine v_sipush (v := 4095) C dX12_lies_4 rfl ?_
  refine v_icmp_le (tgt := 21) C dX12_lies_7 (by decide) (fun c => ?_) (fun c => ?_)
  · replace h := ifT h c
    refine v_aload_n C dX12_lies_21 rfl ?_
    obtain ⟨v, e, h⟩ := ob h
    refine v_getI C dX12_lies_22 gf_X12_112 e ?_
    refine v_if_eq (tgt := 75) C dX12_lies_25 (by decide) (fun c => ?_) (fun c => ?_)
    · replace h := ifT h c
      exact v_sb (p_X12_lies_75 C F h) ⟨rfl, trivial⟩
    · replace h := ifF h c
      refine v_aload_n C dX12_lies_28 rfl ?_
      obtain ⟨v, e, h⟩ := ob h
      refine v_getR C dX12_lies_29 gf_X12_193 e ?_
      refine v_aload_n C dX12_lies_32 rfl ?_
      obtain ⟨v, e, h⟩ := ob h
      refine v_getI C dX12_lies_33 gf_X12_129 e ?_
      obtain ⟨v, e, h⟩ := ob h
      refine v_baload C dX12_lies_36 e ?_
      refine v_if_eq (tgt := 51) C dX12_lies_37 (by decide) (fun c => ?_) (fun c => ?_)
      · replace h := ifT h c
        refine v_aload_n C dX12_lies_51 rfl ?_
        obtain ⟨v, e, h⟩ := ob h
        refine v_getR C dX12_lies_52 gf_X12_196 e ?_
        refine v_aload_n C dX12_lies_55 rfl ?_
        obtain ⟨v, e, h⟩ := ob h
        refine v_getI C dX12_lies_56 gf_X12_129 e ?_
        refine v_iconst (v := 1) C dX12_lies_59 rfl ?_
        obtain ⟨m, e, h⟩ := ob h
        refine v_bastore C dX12_lies_60 e ?_
        refine v_aload_n C dX12_lies_61 rfl ?_
        obtain ⟨v, e, h⟩ := ob h
        refine v_getR C dX12_lies_62 gf_X12_199 e ?_
        refine v_aload_n C dX12_lies_65 rfl ?_
        obtain ⟨v, e, h⟩ := ob h
        refine v_getI C dX12_lies_66 gf_X12_129 e ?_
        refine v_iload_n C dX12_lies_69 rfl ?_
        refine v_sipush (v := 4095) C dX12_lies_70 rfl ?_
        refine v_iand C dX12_lies_73 ?_
        obtain ⟨m, e, h⟩ := ob h
        refine v_iastore C dX12_lies_74 e ?_
        exact v_sb (p_X12_lies_75 C F h) ⟨rfl, trivial⟩
      · replace h := ifF h c
        refine v_aload_n C dX12_lies_40 rfl ?_
        refine v_bipush (v := 8) C dX12_lies_41 rfl ?_
        refine v_aload_n C dX12_lies_43 rfl ?_
        obtain ⟨v, e, h⟩ := ob h
        refine v_getI C dX12_lies_44 gf_X12_166 e ?_
        obtain ⟨b, e0, h⟩ := ob h
        obtain ⟨q, e, h⟩ := ob h
        refine v_callV (As := [_, _]) C dX12_lies_47 cf_X12_57 (rm_X12_lies_X12_fails) ⟨rfl, rfl⟩ e0 rfl (Nat.le_of_ble_eq_true rfl) (c_X12_fails _ _ N _ _ _ _ q.1 q.2 e) ?_
        exact v_vret C F ⟨rfl, rfl, Nat.le_refl _⟩ dX12_lies_50 h
  · replace h := ifF h c
    refine v_aload_n C dX12_lies_10 rfl ?_
    refine v_bipush (v := 6) C dX12_lies_11 rfl ?_
    refine v_aload_n C dX12_lies_13 rfl ?_
    obtain ⟨v, e, h⟩ := ob h
    refine v_getI C dX12_lies_14 gf_X12_166 e ?_
    obtain ⟨b, e0, h⟩ := ob h
    obtain ⟨q, e, h⟩ := ob h
    refine v_callV (As := [_, _]) C dX12_lies_17 cf_X12_57 (rm_X12_lies_X12_fails) ⟨rfl, rfl⟩ e0 rfl (Nat.le_of_ble_eq_true rfl) (c_X12_fails _ _ N _ _ _ _ q.1 q.2 e) ?_
    exact v_vret C F ⟨rfl, rfl, Nat.le_refl _⟩ dX12_lies_20 h
set_option maxRecDepth 100000 in
set_option maxHeartbeats 4000000 in
theorem c_X12_lies (l : Launch) (g : CG) (N : Nat) (a0 : Option Nat) (a1 : Int32) (μ : Mem) (rv : Unit) (μ9 : Mem) (h : f_X12_lies N a0 a1 μ = some (rv, μ9)) : Ct l yX12_lies mi_X12_lies g [aR a0, aI a1] μ none μ9 := ct_of ⟨by decide, rfl, rfl⟩ (Nat.le_of_ble_eq_true rfl) fun x C F => p_X12_lies C F h
def f_X12_texts_185 (N : Nat) (a0 : Option Nat) (a1 : Int32) (μ : Mem) : Option (Unit × Mem) :=
  (mck μ a0 12).bind fun b2 =>
  (f_X12_fails N (some b2) 1 a1 μ).bind fun q1 =>
  some ((), q1.2)
def f_X12_texts_298 (N : Nat) (μ : Mem) : Option (Unit × Mem) :=
  some ((), μ)
def f_X12_texts_279 (N : Nat) (a0 : Option Nat) (a4 : Int32) (μ : Mem) : Option (Unit × Mem) :=
  (mpI μ a0 12 4 (a4 + 1)).bind fun μ1 =>
  (mfI μ1 a0 12 5).bind fun v2 =>
  if ¬ v2 = 0 then
    f_X12_texts_298 N μ1
  else
    (mck μ1 a0 12).bind fun b4 =>
    (f_X12_look N (some b4) μ1).bind fun q3 =>
    f_X12_texts_298 N q3.2
def f_X12_texts_259 (N : Nat) (k197 : (Option Nat) → Int32 → Int32 → Mem → Option (Unit × Mem)) (a0 : Option Nat) (a4 : Int32) (a6 : Int32) (a7 : Int32) (s0 : Int32) (μ : Mem) : Option (Unit × Mem) :=
  (mck μ a0 12).bind fun b2 =>
  (f_X12_lies N (some b2) ((64 * a7) + s0) μ).bind fun q1 =>
  k197 a0 a4 (a6 + 2) q1.2
def f_X12_texts_232 (N : Nat) (k197 : (Option Nat) → Int32 → Int32 → Mem → Option (Unit × Mem)) (a0 : Option Nat) (a4 : Int32) (a6 : Int32) (s0 : Int32) (μ : Mem) : Option (Unit × Mem) :=
  if a4 ≤ (a6 + 1) then
    f_X12_texts_259 N k197 a0 a4 a6 s0 0 μ
  else
    (mfR μ a0 12 2).bind fun v1 =>
    (maI μ 0 v1 (a6 + 1)).bind fun v2 =>
    f_X12_texts_259 N k197 a0 a4 a6 s0 (v2 &&& 63) μ
def H_X12_texts_197 (N : Nat) (k197 : (Option Nat) → Int32 → Int32 → Mem → Option (Unit × Mem)) (a0 : Option Nat) (a4 : Int32) (a6 : Int32) (μ : Mem) : Option (Unit × Mem) :=
  if a4 < a6 then
    f_X12_texts_279 N a0 a4 μ
  else
    (mfI μ a0 12 5).bind fun v1 =>
    if ¬ v1 = 0 then
      f_X12_texts_279 N a0 a4 μ
    else
      if a4 ≤ a6 then
        f_X12_texts_232 N k197 a0 a4 a6 0 μ
      else
        (mfR μ a0 12 2).bind fun v2 =>
        (maI μ 0 v2 a6).bind fun v3 =>
        f_X12_texts_232 N k197 a0 a4 a6 (v3 &&& 63) μ
def L_X12_texts_197 (N : Nat) : Nat → (Option Nat) → Int32 → Int32 → Mem → Option (Unit × Mem)
  | 0 => fun _ _ _ _ => none
  | n + 1 => H_X12_texts_197 N (L_X12_texts_197 N n)
def f_X12_texts_160 (N : Nat) (a0 : Option Nat) (a1 : Int32) (a2 : Int32) (a3 : Int32) (a4 : Int32) (a5 : Int32) (μ : Mem) : Option (Unit × Mem) :=
  if a5 = 0 then
    f_X12_texts_185 N a0 a1 μ
  else
    (mfI μ a0 12 3).bind fun v1 =>
    if v1 ≤ a4 then
      f_X12_texts_185 N a0 a1 μ
    else
      (mfR μ a0 12 2).bind fun v2 =>
      (maI μ 0 v2 a4).bind fun v3 =>
      if v3 = a3 then
        L_X12_texts_197 N N a0 a4 (a2 + 1) μ
      else
        f_X12_texts_185 N a0 a1 μ
def f_X12_texts_152 (N : Nat) (k109 : (Option Nat) → Int32 → Int32 → Int32 → Int32 → Int32 → Int32 → Mem → Option (Unit × Mem)) (a0 : Option Nat) (a1 : Int32) (a2 : Int32) (a3 : Int32) (a4 : Int32) (a6 : Int32) (s0 : Int32) (μ : Mem) : Option (Unit × Mem) :=
  k109 a0 a1 a2 a3 a4 s0 (a6 + 1) μ
def f_X12_texts_151 (N : Nat) (k109 : (Option Nat) → Int32 → Int32 → Int32 → Int32 → Int32 → Int32 → Mem → Option (Unit × Mem)) (a0 : Option Nat) (a1 : Int32) (a2 : Int32) (a3 : Int32) (a4 : Int32) (a6 : Int32) (μ : Mem) : Option (Unit × Mem) :=
  f_X12_texts_152 N k109 a0 a1 a2 a3 a4 a6 0 μ
def H_X12_texts_109 (N : Nat) (k109 : (Option Nat) → Int32 → Int32 → Int32 → Int32 → Int32 → Int32 → Mem → Option (Unit × Mem)) (a0 : Option Nat) (a1 : Int32) (a2 : Int32) (a3 : Int32) (a4 : Int32) (a5 : Int32) (a6 : Int32) (μ : Mem) : Option (Unit × Mem) :=
  if a4 ≤ a6 then
    f_X12_texts_160 N a0 a1 a2 a3 a4 a5 μ
  else
    (mfI μ a0 12 3).bind fun v1 =>
    if v1 ≤ a6 then
      f_X12_texts_160 N a0 a1 a2 a3 a4 a5 μ
    else
      if a5 = 0 then
        f_X12_texts_151 N k109 a0 a1 a2 a3 a4 a6 μ
      else
        (mfR μ a0 12 2).bind fun v2 =>
        (maI μ 0 v2 a6).bind fun v3 =>
        (f_X12_in N v3 32 126 μ).bind fun q4 =>
        if q4.1 = 0 then
          f_X12_texts_151 N k109 a0 a1 a2 a3 a4 a6 q4.2
        else
          f_X12_texts_152 N k109 a0 a1 a2 a3 a4 a6 1 q4.2
def L_X12_texts_109 (N : Nat) : Nat → (Option Nat) → Int32 → Int32 → Int32 → Int32 → Int32 → Int32 → Mem → Option (Unit × Mem)
  | 0 => fun _ _ _ _ _ _ _ _ => none
  | n + 1 => H_X12_texts_109 N (L_X12_texts_109 N n)
def f_X12_texts_104 (N : Nat) (a0 : Option Nat) (a1 : Int32) (a2 : Int32) (a3 : Int32) (a4 : Int32) (s0 : Int32) (μ : Mem) : Option (Unit × Mem) :=
  L_X12_texts_109 N N a0 a1 a2 a3 a4 s0 a2 μ
def f_X12_texts_93 (N : Nat) (a0 : Option Nat) (a1 : Int32) (a2 : Int32) (a3 : Int32) (a4 : Int32) (μ : Mem) : Option (Unit × Mem) :=
  if a3 = (10 : Int32) then
    f_X12_texts_104 N a0 a1 a2 a3 a4 0 μ
  else
    f_X12_texts_104 N a0 a1 a2 a3 a4 1 μ
def H_X12_texts_55 (N : Nat) (k55 : (Option Nat) → Int32 → Int32 → Int32 → Int32 → Mem → Option (Unit × Mem)) (a0 : Option Nat) (a1 : Int32) (a2 : Int32) (a3 : Int32) (a4 : Int32) (μ : Mem) : Option (Unit × Mem) :=
  (mfI μ a0 12 3).bind fun v1 =>
  if v1 ≤ a4 then
    f_X12_texts_93 N a0 a1 a2 a3 a4 μ
  else
    (mfR μ a0 12 2).bind fun v2 =>
    (maI μ 0 v2 a4).bind fun v3 =>
    if v3 = a3 then
      f_X12_texts_93 N a0 a1 a2 a3 a4 μ
    else
      (mfR μ a0 12 2).bind fun v4 =>
      (maI μ 0 v4 a4).bind fun v5 =>
      if v5 = (10 : Int32) then
        f_X12_texts_93 N a0 a1 a2 a3 a4 μ
      else
        k55 a0 a1 a2 a3 (a4 + 1) μ
def L_X12_texts_55 (N : Nat) : Nat → (Option Nat) → Int32 → Int32 → Int32 → Int32 → Mem → Option (Unit × Mem)
  | 0 => fun _ _ _ _ _ _ => none
  | n + 1 => H_X12_texts_55 N (L_X12_texts_55 N n)
def f_X12_texts_49 (N : Nat) (a0 : Option Nat) (a1 : Int32) (a2 : Int32) (s0 : Int32) (μ : Mem) : Option (Unit × Mem) :=
  L_X12_texts_55 N N a0 a1 a2 s0 (a2 + 1) μ
def f_X12_texts_30 (N : Nat) (a0 : Option Nat) (a1 : Int32) (a2 : Int32) (μ : Mem) : Option (Unit × Mem) :=
  (mfI μ a0 12 3).bind fun v1 =>
  if v1 ≤ a2 then
    f_X12_texts_49 N a0 a1 a2 10 μ
  else
    (mfR μ a0 12 2).bind fun v2 =>
    (maI μ 0 v2 a2).bind fun v3 =>
    f_X12_texts_49 N a0 a1 a2 v3 μ
def H_X12_texts_5 (N : Nat) (k5 : (Option Nat) → Int32 → Int32 → Mem → Option (Unit × Mem)) (a0 : Option Nat) (a1 : Int32) (a2 : Int32) (μ : Mem) : Option (Unit × Mem) :=
  (mfI μ a0 12 3).bind fun v1 =>
  if v1 ≤ a2 then
    f_X12_texts_30 N a0 a1 a2 μ
  else
    (mfR μ a0 12 2).bind fun v2 =>
    (maI μ 0 v2 a2).bind fun v3 =>
    if ¬ v3 = (32 : Int32) then
      f_X12_texts_30 N a0 a1 a2 μ
    else
      k5 a0 a1 (a2 + 1) μ
def L_X12_texts_5 (N : Nat) : Nat → (Option Nat) → Int32 → Int32 → Mem → Option (Unit × Mem)
  | 0 => fun _ _ _ _ => none
  | n + 1 => H_X12_texts_5 N (L_X12_texts_5 N n)
def f_X12_texts (N : Nat) (a0 : Option Nat) (a1 : Int32) (μ : Mem) : Option (Unit × Mem) :=
  (mfI μ a0 12 16).bind fun v1 =>
  L_X12_texts_5 N N a0 a1 v1 μ
set_option maxRecDepth 100000 in
set_option maxHeartbeats 4000000 in
theorem p_X12_texts_185 {x : CX} {l : Launch} {g : CG} {rv : Unit} {μ0 μ9 : Mem} (C : Cx x l g mi_X12_texts) (F : Prom x g mi_X12_texts μ0 none μ9) {N : Nat} {a0 : Option Nat} {a1 : Int32} {μ : Mem} (h : f_X12_texts_185 N a0 a1 μ = some (rv, μ9)) : V x g 9 0 0 μ 185 [(0, aR a0), (1, aI a1)] [] := by
  unfold f_X12_texts_185 at h
  refine v_aload_n C dX12_texts_185 rfl ?_
  refine v_iconst (v := 1) C dX12_texts_186 rfl ?_
  refine v_iload_n C dX12_texts_187 rfl ?_
  obtain ⟨b, e0, h⟩ := ob h
  obtain ⟨q, e, h⟩ := ob h
  refine v_callV (As := [_, _]) C dX12_texts_188 cf_X12_57 (rm_X12_texts_X12_fails) ⟨rfl, rfl⟩ e0 rfl (Nat.le_of_ble_eq_true rfl) (c_X12_fails _ _ N _ _ _ _ q.1 q.2 e) ?_
  exact v_vret C F ⟨rfl, rfl, Nat.le_refl _⟩ dX12_texts_191 h
set_option maxRecDepth 100000 in
set_option maxHeartbeats 4000000 in
theorem p_X12_texts_298 {x : CX} {l : Launch} {g : CG} {rv : Unit} {μ0 μ9 : Mem} (C : Cx x l g mi_X12_texts) (F : Prom x g mi_X12_texts μ0 none μ9) {N : Nat} {μ : Mem} (h : f_X12_texts_298 N μ = some (rv, μ9)) : V x g 9 0 0 μ 298 [] [] := by
  unfold f_X12_texts_298 at h
  exact v_vret C F ⟨rfl, rfl, Nat.le_refl _⟩ dX12_texts_298 h
set_option maxRecDepth 100000 in
set_option maxHeartbeats 4000000 in
theorem p_X12_texts_279 {x : CX} {l : Launch} {g : CG} {rv : Unit} {μ0 μ9 : Mem} (C : Cx x l g mi_X12_texts) (F : Prom x g mi_X12_texts μ0 none μ9) {N : Nat} {a0 : Option Nat} {a4 : Int32} {μ : Mem} (h : f_X12_texts_279 N a0 a4 μ = some (rv, μ9)) : V x g 9 0 0 μ 279 [(0, aR a0), (4, aI a4)] [] := by
  unfold f_X12_texts_279 at h
  refine v_aload_n C dX12_texts_279 rfl ?_
  refine v_iload C dX12_texts_280 rfl ?_
  refine v_iconst (v := 1) C dX12_texts_282 rfl ?_
  refine v_iadd C dX12_texts_283 ?_
  obtain ⟨m, e, h⟩ := ob h
  refine v_putI C dX12_texts_284 (pf_X12_31 _) e ?_
  refine v_aload_n C dX12_texts_287 rfl ?_
  obtain ⟨v, e, h⟩ := ob h
  refine v_getI C dX12_texts_288 gf_X12_19 e ?_
  refine v_if_ne (tgt := 298) C dX12_texts_291 (by decide) (fun c => ?_) (fun c => ?_)
  · replace h := ifT h c
    exact v_sb (p_X12_texts_298 C F h) trivial
  · replace h := ifF h c
    refine v_aload_n C dX12_texts_294 rfl ?_
    obtain ⟨b, e0, h⟩ := ob h
    obtain ⟨q, e, h⟩ := ob h
    refine v_callV (As := []) C dX12_texts_295 cf_X12_77 (rm_X12_texts_X12_look) ⟨rfl, rfl⟩ e0 rfl (Nat.le_of_ble_eq_true rfl) (c_X12_look _ _ N _ _ q.1 q.2 e) ?_
    exact v_sb (p_X12_texts_298 C F h) trivial
set_option maxRecDepth 100000 in
set_option maxHeartbeats 4000000 in
theorem p_X12_texts_259 {x : CX} {l : Launch} {g : CG} {rv : Unit} {μ0 μ9 : Mem} (C : Cx x l g mi_X12_texts) (F : Prom x g mi_X12_texts μ0 none μ9) {N : Nat} {k197 : (Option Nat) → Int32 → Int32 → Mem → Option (Unit × Mem)} (hk197 : ∀ (a0 : Option Nat) (a4 : Int32) (a6 : Int32) (μ : Mem), k197 a0 a4 a6 μ = some (rv, μ9) → V x g 9 0 0 μ 197 [(0, aR a0), (4, aI a4), (6, aI a6)] []) {a0 : Option Nat} {a4 : Int32} {a6 : Int32} {a7 : Int32} {s0 : Int32} {μ : Mem} (h : f_X12_texts_259 N k197 a0 a4 a6 a7 s0 μ = some (rv, μ9)) : V x g 9 0 0 μ 259 [(0, aR a0), (4, aI a4), (6, aI a6), (7, aI a7)] [aI s0] := by
  unfold f_X12_texts_259 at h
  refine v_istore C dX12_texts_259 (by decide) ?_
  refine v_aload_n C dX12_texts_261 rfl ?_
  refine v_bipush (v := 64) C dX12_texts_262 rfl ?_
  refine v_iload C dX12_texts_264 rfl ?_
  refine v_imul C dX12_texts_266 ?_
  refine v_iload C dX12_texts_267 rfl ?_
  refine v_iadd C dX12_texts_269 ?_
  obtain ⟨b, e0, h⟩ := ob h
  obtain ⟨q, e, h⟩ := ob h
  refine v_callV (As := [_]) C dX12_texts_270 cf_X12_190 (rm_X12_texts_X12_lies) ⟨rfl, rfl⟩ e0 rfl (Nat.le_of_ble_eq_true rfl) (c_X12_lies _ _ N _ _ _ q.1 q.2 e) ?_
  refine v_iinc (w := 2) C dX12_texts_273 rfl rfl (by decide) ?_
  refine v_goto (tgt := 197) C dX12_texts_276 (by decide) ?_
  exact v_sb (hk197 _ _ _ _ h) ⟨rfl, rfl, rfl, trivial⟩
set_option maxRecDepth 100000 in
set_option maxHeartbeats 4000000 in
theorem p_X12_texts_232 {x : CX} {l : Launch} {g : CG} {rv : Unit} {μ0 μ9 : Mem} (C : Cx x l g mi_X12_texts) (F : Prom x g mi_X12_texts μ0 none μ9) {N : Nat} {k197 : (Option Nat) → Int32 → Int32 → Mem → Option (Unit × Mem)} (hk197 : ∀ (a0 : Option Nat) (a4 : Int32) (a6 : Int32) (μ : Mem), k197 a0 a4 a6 μ = some (rv, μ9) → V x g 9 0 0 μ 197 [(0, aR a0), (4, aI a4), (6, aI a6)] []) {a0 : Option Nat} {a4 : Int32} {a6 : Int32} {s0 : Int32} {μ : Mem} (h : f_X12_texts_232 N k197 a0 a4 a6 s0 μ = some (rv, μ9)) : V x g 9 0 0 μ 232 [(0, aR a0), (4, aI a4), (6, aI a6)] [aI s0] := by
  unfold f_X12_texts_232 at h
  refine v_istore C dX12_texts_232 (by decide) ?_
  refine v_iload C dX12_texts_234 rfl ?_
  refine v_iconst (v := 1) C dX12_texts_236 rfl ?_
  refine v_iadd C dX12_texts_237 ?_
  refine v_iload C dX12_texts_238 rfl ?_
  refine v_icmp_ge (tgt := 258) C dX12_texts_240 (by decide) (fun c => ?_) (fun c => ?_)
  · replace h := ifT h c
    refine v_iconst (v := 0) C dX12_texts_258 rfl ?_
    exact v_sb (p_X12_texts_259 C F hk197 h) ⟨rfl, rfl, rfl, rfl, trivial⟩
  · replace h := ifF h c
    refine v_aload_n C dX12_texts_243 rfl ?_
    obtain ⟨v, e, h⟩ := ob h
    refine v_getR C dX12_texts_244 gf_X12_28 e ?_
    refine v_iload C dX12_texts_247 rfl ?_
    refine v_iconst (v := 1) C dX12_texts_249 rfl ?_
    refine v_iadd C dX12_texts_250 ?_
    obtain ⟨v, e, h⟩ := ob h
    refine v_iaload C dX12_texts_251 e ?_
    refine v_bipush (v := 63) C dX12_texts_252 rfl ?_
    refine v_iand C dX12_texts_254 ?_
    refine v_goto (tgt := 259) C dX12_texts_255 (by decide) ?_
    exact v_sb (p_X12_texts_259 C F hk197 h) ⟨rfl, rfl, rfl, rfl, trivial⟩
set_option maxRecDepth 100000 in
set_option maxHeartbeats 4000000 in
theorem pH_X12_texts_197 {x : CX} {l : Launch} {g : CG} {rv : Unit} {μ0 μ9 : Mem} (C : Cx x l g mi_X12_texts) (F : Prom x g mi_X12_texts μ0 none μ9) {N : Nat} {k197 : (Option Nat) → Int32 → Int32 → Mem → Option (Unit × Mem)} (hk197 : ∀ (a0 : Option Nat) (a4 : Int32) (a6 : Int32) (μ : Mem), k197 a0 a4 a6 μ = some (rv, μ9) → V x g 9 0 0 μ 197 [(0, aR a0), (4, aI a4), (6, aI a6)] []) {a0 : Option Nat} {a4 : Int32} {a6 : Int32} {μ : Mem} (h : H_X12_texts_197 N k197 a0 a4 a6 μ = some (rv, μ9)) : V x g 9 0 0 μ 197 [(0, aR a0), (4, aI a4), (6, aI a6)] [] := by
  unfold H_X12_texts_197 at h
  refine v_iload C dX12_texts_197 rfl ?_
  refine v_iload C dX12_texts_199 rfl ?_
  refine v_icmp_gt (tgt := 279) C dX12_texts_201 (by decide) (fun c => ?_) (fun c => ?_)
  · replace h := ifT h c
    exact v_sb (p_X12_texts_279 C F h) ⟨rfl, rfl, trivial⟩
  · replace h := ifF h c
    refine v_aload_n C dX12_texts_204 rfl ?_
    obtain ⟨v, e, h⟩ := ob h
    refine v_getI C dX12_texts_205 gf_X12_19 e ?_
    refine v_if_ne (tgt := 279) C dX12_texts_208 (by decide) (fun c => ?_) (fun c => ?_)
    · replace h := ifT h c
      exact v_sb (p_X12_texts_279 C F h) ⟨rfl, rfl, trivial⟩
    · replace h := ifF h c
      refine v_iload C dX12_texts_211 rfl ?_
      refine v_iload C dX12_texts_213 rfl ?_
      refine v_icmp_ge (tgt := 231) C dX12_texts_215 (by decide) (fun c => ?_) (fun c => ?_)
      · replace h := ifT h c
        refine v_iconst (v := 0) C dX12_texts_231 rfl ?_
        exact v_sb (p_X12_texts_232 C F hk197 h) ⟨rfl, rfl, rfl, trivial⟩
      · replace h := ifF h c
        refine v_aload_n C dX12_texts_218 rfl ?_
        obtain ⟨v, e, h⟩ := ob h
        refine v_getR C dX12_texts_219 gf_X12_28 e ?_
        refine v_iload C dX12_texts_222 rfl ?_
        obtain ⟨v, e, h⟩ := ob h
        refine v_iaload C dX12_texts_224 e ?_
        refine v_bipush (v := 63) C dX12_texts_225 rfl ?_
        refine v_iand C dX12_texts_227 ?_
        refine v_goto (tgt := 232) C dX12_texts_228 (by decide) ?_
        exact v_sb (p_X12_texts_232 C F hk197 h) ⟨rfl, rfl, rfl, trivial⟩
set_option maxRecDepth 100000 in
set_option maxHeartbeats 4000000 in
theorem pL_X12_texts_197 {x : CX} {l : Launch} {g : CG} {rv : Unit} {μ0 μ9 : Mem} (C : Cx x l g mi_X12_texts) (F : Prom x g mi_X12_texts μ0 none μ9) (N : Nat) (n : Nat) : ∀ (a0 : Option Nat) (a4 : Int32) (a6 : Int32) (μ : Mem), L_X12_texts_197 N n a0 a4 a6 μ = some (rv, μ9) → V x g 9 0 0 μ 197 [(0, aR a0), (4, aI a4), (6, aI a6)] [] := by
  induction n with
  | zero => intro a0 a4 a6 μ h; cases h
  | succ n ih => intro a0 a4 a6 μ h; exact pH_X12_texts_197 C F ih h
set_option maxRecDepth 100000 in
set_option maxHeartbeats 4000000 in
theorem p_X12_texts_160 {x : CX} {l : Launch} {g : CG} {rv : Unit} {μ0 μ9 : Mem} (C : Cx x l g mi_X12_texts) (F : Prom x g mi_X12_texts μ0 none μ9) {N : Nat} {a0 : Option Nat} {a1 : Int32} {a2 : Int32} {a3 : Int32} {a4 : Int32} {a5 : Int32} {μ : Mem} (h : f_X12_texts_160 N a0 a1 a2 a3 a4 a5 μ = some (rv, μ9)) : V x g 9 0 0 μ 160 [(0, aR a0), (1, aI a1), (2, aI a2), (3, aI a3), (4, aI a4), (5, aI a5)] [] := by
  unfold f_X12_texts_160 at h
  refine v_iload C dX12_texts_160 rfl ?_
  refine v_if_eq (tgt := 185) C dX12_texts_162 (by decide) (fun c => ?_) (fun c => ?_)
  · replace h := ifT h c
    exact v_sb (p_X12_texts_185 C F h) ⟨rfl, rfl, trivial⟩
  · replace h := ifF h c
    refine v_iload C dX12_texts_165 rfl ?_
    refine v_aload_n C dX12_texts_167 rfl ?_
    obtain ⟨v, e, h⟩ := ob h
    refine v_getI C dX12_texts_168 gf_X12_25 e ?_
    refine v_icmp_ge (tgt := 185) C dX12_texts_171 (by decide) (fun c => ?_) (fun c => ?_)
    · replace h := ifT h c
      exact v_sb (p_X12_texts_185 C F h) ⟨rfl, rfl, trivial⟩
    · replace h := ifF h c
      refine v_aload_n C dX12_texts_174 rfl ?_
      obtain ⟨v, e, h⟩ := ob h
      refine v_getR C dX12_texts_175 gf_X12_28 e ?_
      refine v_iload C dX12_texts_178 rfl ?_
      obtain ⟨v, e, h⟩ := ob h
      refine v_iaload C dX12_texts_180 e ?_
      refine v_iload_n C dX12_texts_181 rfl ?_
      refine v_icmp_eq (tgt := 192) C dX12_texts_182 (by decide) (fun c => ?_) (fun c => ?_)
      · replace h := ifT h c
        refine v_iload_n C dX12_texts_192 rfl ?_
        refine v_iconst (v := 1) C dX12_texts_193 rfl ?_
        refine v_iadd C dX12_texts_194 ?_
        refine v_istore C dX12_texts_195 (by decide) ?_
        exact v_sb (pL_X12_texts_197 C F N N _ _ _ _ h) ⟨rfl, rfl, rfl, trivial⟩
      · replace h := ifF h c
        exact v_sb (p_X12_texts_185 C F h) ⟨rfl, rfl, trivial⟩
set_option maxRecDepth 100000 in
set_option maxHeartbeats 4000000 in
theorem p_X12_texts_152 {x : CX} {l : Launch} {g : CG} {rv : Unit} {μ0 μ9 : Mem} (C : Cx x l g mi_X12_texts) (F : Prom x g mi_X12_texts μ0 none μ9) {N : Nat} {k109 : (Option Nat) → Int32 → Int32 → Int32 → Int32 → Int32 → Int32 → Mem → Option (Unit × Mem)} (hk109 : ∀ (a0 : Option Nat) (a1 : Int32) (a2 : Int32) (a3 : Int32) (a4 : Int32) (a5 : Int32) (a6 : Int32) (μ : Mem), k109 a0 a1 a2 a3 a4 a5 a6 μ = some (rv, μ9) → V x g 9 0 0 μ 109 [(0, aR a0), (1, aI a1), (2, aI a2), (3, aI a3), (4, aI a4), (5, aI a5), (6, aI a6)] []) {a0 : Option Nat} {a1 : Int32} {a2 : Int32} {a3 : Int32} {a4 : Int32} {a6 : Int32} {s0 : Int32} {μ : Mem} (h : f_X12_texts_152 N k109 a0 a1 a2 a3 a4 a6 s0 μ = some (rv, μ9)) : V x g 9 0 0 μ 152 [(0, aR a0), (1, aI a1), (2, aI a2), (3, aI a3), (4, aI a4), (6, aI a6)] [aI s0] := by
  unfold f_X12_texts_152 at h
  refine v_istore C dX12_texts_152 (by decide) ?_
  refine v_iinc (w := 1) C dX12_texts_154 rfl rfl (by decide) ?_
  refine v_goto (tgt := 109) C dX12_texts_157 (by decide) ?_
  exact v_sb (hk109 _ _ _ _ _ _ _ _ h) ⟨rfl, rfl, rfl, rfl, rfl, rfl, rfl, trivial⟩
set_option maxRecDepth 100000 in
set_option maxHeartbeats 4000000 in
theorem p_X12_texts_151 {x : CX} {l : Launch} {g : CG} {rv : Unit} {μ0 μ9 : Mem} (C : Cx x l g mi_X12_texts) (F : Prom x g mi_X12_texts μ0 none μ9) {N : Nat} {k109 : (Option Nat) → Int32 → Int32 → Int32 → Int32 → Int32 → Int32 → Mem → Option (Unit × Mem)} (hk109 : ∀ (a0 : Option Nat) (a1 : Int32) (a2 : Int32) (a3 : Int32) (a4 : Int32) (a5 : Int32) (a6 : Int32) (μ : Mem), k109 a0 a1 a2 a3 a4 a5 a6 μ = some (rv, μ9) → V x g 9 0 0 μ 109 [(0, aR a0), (1, aI a1), (2, aI a2), (3, aI a3), (4, aI a4), (5, aI a5), (6, aI a6)] []) {a0 : Option Nat} {a1 : Int32} {a2 : Int32} {a3 : Int32} {a4 : Int32} {a6 : Int32} {μ : Mem} (h : f_X12_texts_151 N k109 a0 a1 a2 a3 a4 a6 μ = some (rv, μ9)) : V x g 9 0 0 μ 151 [(0, aR a0), (1, aI a1), (2, aI a2), (3, aI a3), (4, aI a4), (6, aI a6)] [] := by
  unfold f_X12_texts_151 at h
  refine v_iconst (v := 0) C dX12_texts_151 rfl ?_
  exact v_sb (p_X12_texts_152 C F hk109 h) ⟨rfl, rfl, rfl, rfl, rfl, rfl, trivial⟩
set_option maxRecDepth 100000 in
set_option maxHeartbeats 4000000 in
theorem pH_X12_texts_109 {x : CX} {l : Launch} {g : CG} {rv : Unit} {μ0 μ9 : Mem} (C : Cx x l g mi_X12_texts) (F : Prom x g mi_X12_texts μ0 none μ9) {N : Nat} {k109 : (Option Nat) → Int32 → Int32 → Int32 → Int32 → Int32 → Int32 → Mem → Option (Unit × Mem)} (hk109 : ∀ (a0 : Option Nat) (a1 : Int32) (a2 : Int32) (a3 : Int32) (a4 : Int32) (a5 : Int32) (a6 : Int32) (μ : Mem), k109 a0 a1 a2 a3 a4 a5 a6 μ = some (rv, μ9) → V x g 9 0 0 μ 109 [(0, aR a0), (1, aI a1), (2, aI a2), (3, aI a3), (4, aI a4), (5, aI a5), (6, aI a6)] []) {a0 : Option Nat} {a1 : Int32} {a2 : Int32} {a3 : Int32} {a4 : Int32} {a5 : Int32} {a6 : Int32} {μ : Mem} (h : H_X12_texts_109 N k109 a0 a1 a2 a3 a4 a5 a6 μ = some (rv, μ9)) : V x g 9 0 0 μ 109 [(0, aR a0), (1, aI a1), (2, aI a2), (3, aI a3), (4, aI a4), (5, aI a5), (6, aI a6)] [] := by
  unfold H_X12_texts_109 at h
  refine v_iload C dX12_texts_109 rfl ?_
  refine v_iload C dX12_texts_111 rfl ?_
  refine v_icmp_ge (tgt := 160) C dX12_texts_113 (by decide) (fun c => ?_) (fun c => ?_)
  · replace h := ifT h c
    exact v_sb (p_X12_texts_160 C F h) ⟨rfl, rfl, rfl, rfl, rfl, rfl, trivial⟩
  · replace h := ifF h c
    refine v_iload C dX12_texts_116 rfl ?_
    refine v_aload_n C dX12_texts_118 rfl ?_
    obtain ⟨v, e, h⟩ := ob h
    refine v_getI C dX12_texts_119 gf_X12_25 e ?_
    refine v_icmp_ge (tgt := 160) C dX12_texts_122 (by decide) (fun c => ?_) (fun c => ?_)
    · replace h := ifT h c
      exact v_sb (p_X12_texts_160 C F h) ⟨rfl, rfl, rfl, rfl, rfl, rfl, trivial⟩
    · replace h := ifF h c
      refine v_iload C dX12_texts_125 rfl ?_
      refine v_if_eq (tgt := 151) C dX12_texts_127 (by decide) (fun c => ?_) (fun c => ?_)
      · replace h := ifT h c
        exact v_sb (p_X12_texts_151 C F hk109 h) ⟨rfl, rfl, rfl, rfl, rfl, rfl, trivial⟩
      · replace h := ifF h c
        refine v_aload_n C dX12_texts_130 rfl ?_
        obtain ⟨v, e, h⟩ := ob h
        refine v_getR C dX12_texts_131 gf_X12_28 e ?_
        refine v_iload C dX12_texts_134 rfl ?_
        obtain ⟨v, e, h⟩ := ob h
        refine v_iaload C dX12_texts_136 e ?_
        refine v_bipush (v := 32) C dX12_texts_137 rfl ?_
        refine v_bipush (v := 126) C dX12_texts_139 rfl ?_
        obtain ⟨q, e, h⟩ := ob h
        refine v_callS (As := [_, _, _]) C dX12_texts_141 cf_X12_15 (rm_X12_texts_X12_in) ⟨rfl, rfl⟩ rfl (Nat.le_of_ble_eq_true rfl) (c_X12_in _ _ N _ _ _ _ q.1 q.2 e) ?_
        refine v_if_eq (tgt := 151) C dX12_texts_144 (by decide) (fun c => ?_) (fun c => ?_)
        · replace h := ifT h c
          exact v_sb (p_X12_texts_151 C F hk109 h) ⟨rfl, rfl, rfl, rfl, rfl, rfl, trivial⟩
        · replace h := ifF h c
          refine v_iconst (v := 1) C dX12_texts_147 rfl ?_
          refine v_goto (tgt := 152) C dX12_texts_148 (by decide) ?_
          exact v_sb (p_X12_texts_152 C F hk109 h) ⟨rfl, rfl, rfl, rfl, rfl, rfl, trivial⟩
set_option maxRecDepth 100000 in
set_option maxHeartbeats 4000000 in
theorem pL_X12_texts_109 {x : CX} {l : Launch} {g : CG} {rv : Unit} {μ0 μ9 : Mem} (C : Cx x l g mi_X12_texts) (F : Prom x g mi_X12_texts μ0 none μ9) (N : Nat) (n : Nat) : ∀ (a0 : Option Nat) (a1 : Int32) (a2 : Int32) (a3 : Int32) (a4 : Int32) (a5 : Int32) (a6 : Int32) (μ : Mem), L_X12_texts_109 N n a0 a1 a2 a3 a4 a5 a6 μ = some (rv, μ9) → V x g 9 0 0 μ 109 [(0, aR a0), (1, aI a1), (2, aI a2), (3, aI a3), (4, aI a4), (5, aI a5), (6, aI a6)] [] := by
  induction n with
  | zero => intro a0 a1 a2 a3 a4 a5 a6 μ h; cases h
  | succ n ih => intro a0 a1 a2 a3 a4 a5 a6 μ h; exact pH_X12_texts_109 C F ih h
set_option maxRecDepth 100000 in
set_option maxHeartbeats 4000000 in
theorem p_X12_texts_104 {x : CX} {l : Launch} {g : CG} {rv : Unit} {μ0 μ9 : Mem} (C : Cx x l g mi_X12_texts) (F : Prom x g mi_X12_texts μ0 none μ9) {N : Nat} {a0 : Option Nat} {a1 : Int32} {a2 : Int32} {a3 : Int32} {a4 : Int32} {s0 : Int32} {μ : Mem} (h : f_X12_texts_104 N a0 a1 a2 a3 a4 s0 μ = some (rv, μ9)) : V x g 9 0 0 μ 104 [(0, aR a0), (1, aI a1), (2, aI a2), (3, aI a3), (4, aI a4)] [aI s0] := by
  unfold f_X12_texts_104 at h
  refine v_istore C dX12_texts_104 (by decide) ?_
  refine v_iload_n C dX12_texts_106 rfl ?_
  refine v_istore C dX12_texts_107 (by decide) ?_
  exact v_sb (pL_X12_texts_109 C F N N _ _ _ _ _ _ _ _ h) ⟨rfl, rfl, rfl, rfl, rfl, rfl, rfl, trivial⟩
set_option maxRecDepth 100000 in
set_option maxHeartbeats 4000000 in
theorem p_X12_texts_93 {x : CX} {l : Launch} {g : CG} {rv : Unit} {μ0 μ9 : Mem} (C : Cx x l g mi_X12_texts) (F : Prom x g mi_X12_texts μ0 none μ9) {N : Nat} {a0 : Option Nat} {a1 : Int32} {a2 : Int32} {a3 : Int32} {a4 : Int32} {μ : Mem} (h : f_X12_texts_93 N a0 a1 a2 a3 a4 μ = some (rv, μ9)) : V x g 9 0 0 μ 93 [(0, aR a0), (1, aI a1), (2, aI a2), (3, aI a3), (4, aI a4)] [] := by
  unfold f_X12_texts_93 at h
  refine v_iload_n C dX12_texts_93 rfl ?_
  refine v_bipush (v := 10) C dX12_texts_94 rfl ?_
  refine v_icmp_eq (tgt := 103) C dX12_texts_96 (by decide) (fun c => ?_) (fun c => ?_)
  · replace h := ifT h c
    refine v_iconst (v := 0) C dX12_texts_103 rfl ?_
    exact v_sb (p_X12_texts_104 C F h) ⟨rfl, rfl, rfl, rfl, rfl, trivial⟩
  · replace h := ifF h c
    refine v_iconst (v := 1) C dX12_texts_99 rfl ?_
    refine v_goto (tgt := 104) C dX12_texts_100 (by decide) ?_
    exact v_sb (p_X12_texts_104 C F h) ⟨rfl, rfl, rfl, rfl, rfl, trivial⟩
set_option maxRecDepth 100000 in
set_option maxHeartbeats 4000000 in
theorem pH_X12_texts_55 {x : CX} {l : Launch} {g : CG} {rv : Unit} {μ0 μ9 : Mem} (C : Cx x l g mi_X12_texts) (F : Prom x g mi_X12_texts μ0 none μ9) {N : Nat} {k55 : (Option Nat) → Int32 → Int32 → Int32 → Int32 → Mem → Option (Unit × Mem)} (hk55 : ∀ (a0 : Option Nat) (a1 : Int32) (a2 : Int32) (a3 : Int32) (a4 : Int32) (μ : Mem), k55 a0 a1 a2 a3 a4 μ = some (rv, μ9) → V x g 9 0 0 μ 55 [(0, aR a0), (1, aI a1), (2, aI a2), (3, aI a3), (4, aI a4)] []) {a0 : Option Nat} {a1 : Int32} {a2 : Int32} {a3 : Int32} {a4 : Int32} {μ : Mem} (h : H_X12_texts_55 N k55 a0 a1 a2 a3 a4 μ = some (rv, μ9)) : V x g 9 0 0 μ 55 [(0, aR a0), (1, aI a1), (2, aI a2), (3, aI a3), (4, aI a4)] [] := by
  unfold H_X12_texts_55 at h
  refine v_iload C dX12_texts_55 rfl ?_
  refine v_aload_n C dX12_texts_57 rfl ?_
  obtain ⟨v, e, h⟩ := ob h
  refine v_getI C dX12_texts_58 gf_X12_25 e ?_
  refine v_icmp_ge (tgt := 93) C dX12_texts_61 (by decide) (fun c => ?_) (fun c => ?_)
  · replace h := ifT h c
    exact v_sb (p_X12_texts_93 C F h) ⟨rfl, rfl, rfl, rfl, rfl, trivial⟩
  · replace h := ifF h c
    refine v_aload_n C dX12_texts_64 rfl ?_
    obtain ⟨v, e, h⟩ := ob h
    refine v_getR C dX12_texts_65 gf_X12_28 e ?_
    refine v_iload C dX12_texts_68 rfl ?_
    obtain ⟨v, e, h⟩ := ob h
    refine v_iaload C dX12_texts_70 e ?_
    refine v_iload_n C dX12_texts_71 rfl ?_
    refine v_icmp_eq (tgt := 93) C dX12_texts_72 (by decide) (fun c => ?_) (fun c => ?_)
    · replace h := ifT h c
      exact v_sb (p_X12_texts_93 C F h) ⟨rfl, rfl, rfl, rfl, rfl, trivial⟩
    · replace h := ifF h c
      refine v_aload_n C dX12_texts_75 rfl ?_
      obtain ⟨v, e, h⟩ := ob h
      refine v_getR C dX12_texts_76 gf_X12_28 e ?_
      refine v_iload C dX12_texts_79 rfl ?_
      obtain ⟨v, e, h⟩ := ob h
      refine v_iaload C dX12_texts_81 e ?_
      refine v_bipush (v := 10) C dX12_texts_82 rfl ?_
      refine v_icmp_eq (tgt := 93) C dX12_texts_84 (by decide) (fun c => ?_) (fun c => ?_)
      · replace h := ifT h c
        exact v_sb (p_X12_texts_93 C F h) ⟨rfl, rfl, rfl, rfl, rfl, trivial⟩
      · replace h := ifF h c
        refine v_iinc (w := 1) C dX12_texts_87 rfl rfl (by decide) ?_
        refine v_goto (tgt := 55) C dX12_texts_90 (by decide) ?_
        exact v_sb (hk55 _ _ _ _ _ _ h) ⟨rfl, rfl, rfl, rfl, rfl, trivial⟩
set_option maxRecDepth 100000 in
set_option maxHeartbeats 4000000 in
theorem pL_X12_texts_55 {x : CX} {l : Launch} {g : CG} {rv : Unit} {μ0 μ9 : Mem} (C : Cx x l g mi_X12_texts) (F : Prom x g mi_X12_texts μ0 none μ9) (N : Nat) (n : Nat) : ∀ (a0 : Option Nat) (a1 : Int32) (a2 : Int32) (a3 : Int32) (a4 : Int32) (μ : Mem), L_X12_texts_55 N n a0 a1 a2 a3 a4 μ = some (rv, μ9) → V x g 9 0 0 μ 55 [(0, aR a0), (1, aI a1), (2, aI a2), (3, aI a3), (4, aI a4)] [] := by
  induction n with
  | zero => intro a0 a1 a2 a3 a4 μ h; cases h
  | succ n ih => intro a0 a1 a2 a3 a4 μ h; exact pH_X12_texts_55 C F ih h
set_option maxRecDepth 100000 in
set_option maxHeartbeats 4000000 in
theorem p_X12_texts_49 {x : CX} {l : Launch} {g : CG} {rv : Unit} {μ0 μ9 : Mem} (C : Cx x l g mi_X12_texts) (F : Prom x g mi_X12_texts μ0 none μ9) {N : Nat} {a0 : Option Nat} {a1 : Int32} {a2 : Int32} {s0 : Int32} {μ : Mem} (h : f_X12_texts_49 N a0 a1 a2 s0 μ = some (rv, μ9)) : V x g 9 0 0 μ 49 [(0, aR a0), (1, aI a1), (2, aI a2)] [aI s0] := by
  unfold f_X12_texts_49 at h
  refine v_istore_n C dX12_texts_49 (by decide) ?_
  refine v_iload_n C dX12_texts_50 rfl ?_
  refine v_iconst (v := 1) C dX12_texts_51 rfl ?_
  refine v_iadd C dX12_texts_52 ?_
  refine v_istore C dX12_texts_53 (by decide) ?_
  exact v_sb (pL_X12_texts_55 C F N N _ _ _ _ _ _ h) ⟨rfl, rfl, rfl, rfl, rfl, trivial⟩
set_option maxRecDepth 100000 in
set_option maxHeartbeats 4000000 in
theorem p_X12_texts_30 {x : CX} {l : Launch} {g : CG} {rv : Unit} {μ0 μ9 : Mem} (C : Cx x l g mi_X12_texts) (F : Prom x g mi_X12_texts μ0 none μ9) {N : Nat} {a0 : Option Nat} {a1 : Int32} {a2 : Int32} {μ : Mem} (h : f_X12_texts_30 N a0 a1 a2 μ = some (rv, μ9)) : V x g 9 0 0 μ 30 [(0, aR a0), (1, aI a1), (2, aI a2)] [] := by
  unfold f_X12_texts_30 at h
  refine v_iload_n C dX12_texts_30 rfl ?_
  refine v_aload_n C dX12_texts_31 rfl ?_
  obtain ⟨v, e, h⟩ := ob h
  refine v_getI C dX12_texts_32 gf_X12_25 e ?_
  refine v_icmp_ge (tgt := 47) C dX12_texts_35 (by decide) (fun c => ?_) (fun c => ?_)
  · replace h := ifT h c
    refine v_bipush (v := 10) C dX12_texts_47 rfl ?_
    exact v_sb (p_X12_texts_49 C F h) ⟨rfl, rfl, rfl, trivial⟩
  · replace h := ifF h c
    refine v_aload_n C dX12_texts_38 rfl ?_
    obtain ⟨v, e, h⟩ := ob h
    refine v_getR C dX12_texts_39 gf_X12_28 e ?_
    refine v_iload_n C dX12_texts_42 rfl ?_
    obtain ⟨v, e, h⟩ := ob h
    refine v_iaload C dX12_texts_43 e ?_
    refine v_goto (tgt := 49) C dX12_texts_44 (by decide) ?_
    exact v_sb (p_X12_texts_49 C F h) ⟨rfl, rfl, rfl, trivial⟩
set_option maxRecDepth 100000 in
set_option maxHeartbeats 4000000 in
theorem pH_X12_texts_5 {x : CX} {l : Launch} {g : CG} {rv : Unit} {μ0 μ9 : Mem} (C : Cx x l g mi_X12_texts) (F : Prom x g mi_X12_texts μ0 none μ9) {N : Nat} {k5 : (Option Nat) → Int32 → Int32 → Mem → Option (Unit × Mem)} (hk5 : ∀ (a0 : Option Nat) (a1 : Int32) (a2 : Int32) (μ : Mem), k5 a0 a1 a2 μ = some (rv, μ9) → V x g 9 0 0 μ 5 [(0, aR a0), (1, aI a1), (2, aI a2)] []) {a0 : Option Nat} {a1 : Int32} {a2 : Int32} {μ : Mem} (h : H_X12_texts_5 N k5 a0 a1 a2 μ = some (rv, μ9)) : V x g 9 0 0 μ 5 [(0, aR a0), (1, aI a1), (2, aI a2)] [] := by
  unfold H_X12_texts_5 at h
  refine v_iload_n C dX12_texts_5 rfl ?_
  refine v_aload_n C dX12_texts_6 rfl ?_
  obtain ⟨v, e, h⟩ := ob h
  refine v_getI C dX12_texts_7 gf_X12_25 e ?_
  refine v_icmp_ge (tgt := 30) C dX12_texts_10 (by decide) (fun c => ?_) (fun c => ?_)
  · replace h := ifT h c
    exact v_sb (p_X12_texts_30 C F h) ⟨rfl, rfl, rfl, trivial⟩
  · replace h := ifF h c
    refine v_aload_n C dX12_texts_13 rfl ?_
    obtain ⟨v, e, h⟩ := ob h
    refine v_getR C dX12_texts_14 gf_X12_28 e ?_
    refine v_iload_n C dX12_texts_17 rfl ?_
    obtain ⟨v, e, h⟩ := ob h
    refine v_iaload C dX12_texts_18 e ?_
    refine v_bipush (v := 32) C dX12_texts_19 rfl ?_
    refine v_icmp_ne (tgt := 30) C dX12_texts_21 (by decide) (fun c => ?_) (fun c => ?_)
    · replace h := ifT h c
      exact v_sb (p_X12_texts_30 C F h) ⟨rfl, rfl, rfl, trivial⟩
    · replace h := ifF h c
      refine v_iinc (w := 1) C dX12_texts_24 rfl rfl (by decide) ?_
      refine v_goto (tgt := 5) C dX12_texts_27 (by decide) ?_
      exact v_sb (hk5 _ _ _ _ h) ⟨rfl, rfl, rfl, trivial⟩
set_option maxRecDepth 100000 in
set_option maxHeartbeats 4000000 in
theorem pL_X12_texts_5 {x : CX} {l : Launch} {g : CG} {rv : Unit} {μ0 μ9 : Mem} (C : Cx x l g mi_X12_texts) (F : Prom x g mi_X12_texts μ0 none μ9) (N : Nat) (n : Nat) : ∀ (a0 : Option Nat) (a1 : Int32) (a2 : Int32) (μ : Mem), L_X12_texts_5 N n a0 a1 a2 μ = some (rv, μ9) → V x g 9 0 0 μ 5 [(0, aR a0), (1, aI a1), (2, aI a2)] [] := by
  induction n with
  | zero => intro a0 a1 a2 μ h; cases h
  | succ n ih => intro a0 a1 a2 μ h; exact pH_X12_texts_5 C F ih h
set_option maxRecDepth 100000 in
set_option maxHeartbeats 4000000 in
theorem p_X12_texts {x : CX} {l : Launch} {g : CG} {rv : Unit} {μ0 μ9 : Mem} (C : Cx x l g mi_X12_texts) (F : Prom x g mi_X12_texts μ0 none μ9) {N : Nat} {a0 : Option Nat} {a1 : Int32} {μ : Mem} (h : f_X12_texts N a0 a1 μ = some (rv, μ9)) : V x g 9 0 0 μ 0 [(0, aR a0), (1, aI a1)] [] := by
  unfold f_X12_texts at h
  refine v_aload_n C dX12_texts_0 rfl ?_
  obtain ⟨v, e, h⟩ := ob h
  refine v_getI C dX12_texts_1 gf_X12_40 e ?_
  refine v_istore_n C dX12_texts_4 (by decide) ?_
  exact v_sb (pL_X12_texts_5 C F N N _ _ _ _ h) ⟨rfl, rfl, rfl, trivial⟩
set_option maxRecDepth 100000 in
set_option maxHeartbeats 4000000 in
theorem c_X12_texts (l : Launch) (g : CG) (N : Nat) (a0 : Option Nat) (a1 : Int32) (μ : Mem) (rv : Unit) (μ9 : Mem) (h : f_X12_texts N a0 a1 μ = some (rv, μ9)) : Ct l yX12_texts mi_X12_texts g [aR a0, aI a1] μ none μ9 := ct_of ⟨by decide, rfl, rfl⟩ (Nat.le_of_ble_eq_true rfl) fun x C F => p_X12_texts C F h
def f_X12_again (N : Nat) (a0 : Option Nat) (μ : Mem) : Option (Unit × Mem) :=
  (mpI μ a0 12 5 0).bind fun μ1 =>
  (mck μ1 a0 12).bind fun b3 =>
  (f_X12_look N (some b3) μ1).bind fun q2 =>
  some ((), q2.2)
set_option maxRecDepth 100000 in
set_option maxHeartbeats 4000000 in
theorem p_X12_again {x : CX} {l : Launch} {g : CG} {rv : Unit} {μ0 μ9 : Mem} (C : Cx x l g mi_X12_again) (F : Prom x g mi_X12_again μ0 none μ9) {N : Nat} {a0 : Option Nat} {μ : Mem} (h : f_X12_again N a0 μ = some (rv, μ9)) : V x g 1 0 0 μ 0 [(0, aR a0)] [] := by
  unfold f_X12_again at h
  refine v_aload_n C dX12_again_0 rfl ?_
  refine v_iconst (v := 0) C dX12_again_1 rfl ?_
  obtain ⟨m, e, h⟩ := ob h
  refine v_putI C dX12_again_2 (pf_X12_19 _) e ?_
  refine v_aload_n C dX12_again_5 rfl ?_
  obtain ⟨b, e0, h⟩ := ob h
  obtain ⟨q, e, h⟩ := ob h
  refine v_callV (As := []) C dX12_again_6 cf_X12_77 (rm_X12_again_X12_look) ⟨rfl, rfl⟩ e0 rfl (Nat.le_of_ble_eq_true rfl) (c_X12_look _ _ N _ _ q.1 q.2 e) ?_
  exact v_vret C F ⟨rfl, rfl, Nat.le_refl _⟩ dX12_again_9 h
set_option maxRecDepth 100000 in
set_option maxHeartbeats 4000000 in
theorem c_X12_again (l : Launch) (g : CG) (N : Nat) (a0 : Option Nat) (μ : Mem) (rv : Unit) (μ9 : Mem) (h : f_X12_again N a0 μ = some (rv, μ9)) : Ct l yX12_again mi_X12_again g [aR a0] μ none μ9 := ct_of ⟨by decide, rfl, rfl⟩ (Nat.le_of_ble_eq_true rfl) fun x C F => p_X12_again C F h
