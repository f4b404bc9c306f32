/-! LAYER 1, ShareEightModel: find, findTold, tells, labels, isSign, named (by program) -/
def f_X12_find_86 (N : Nat) (k6 : Nat → (Option Nat) → Int32 → Int32 → Int32 → Int32 → Mem → Option (Int32 × Mem)) (a0 : Nat) (a1 : Option Nat) (a2 : Int32) (a3 : Int32) (a4 : Int32) (a6 : Int32) (a7 : Int32) (μ : Mem) : Option (Int32 × Mem) :=
  if a7 = 0 then
    k6 a0 a1 a2 a3 (a4 + 1) (a6 + 1) μ
  else
    some (a4, μ)
def f_X12_find_78 (N : Nat) (k6 : Nat → (Option Nat) → Int32 → Int32 → Int32 → Int32 → Mem → Option (Int32 × Mem)) (k44 : Nat → (Option Nat) → Int32 → Int32 → Int32 → Int32 → Int32 → Int32 → Int32 → Mem → Option (Int32 × Mem)) (a0 : Nat) (a1 : Option Nat) (a2 : Int32) (a3 : Int32) (a4 : Int32) (a5 : Int32) (a6 : Int32) (a8 : Int32) (s0 : Int32) (μ : Mem) : Option (Int32 × Mem) :=
  k44 a0 a1 a2 a3 a4 a5 a6 s0 (a8 + 1) μ
def H_X12_find_44 (N : Nat) (k6 : Nat → (Option Nat) → Int32 → Int32 → Int32 → Int32 → Mem → Option (Int32 × Mem)) (k44 : Nat → (Option Nat) → Int32 → Int32 → Int32 → Int32 → Int32 → Int32 → Int32 → Mem → Option (Int32 × Mem)) (a0 : Nat) (a1 : Option Nat) (a2 : Int32) (a3 : Int32) (a4 : Int32) (a5 : Int32) (a6 : Int32) (a7 : Int32) (a8 : Int32) (μ : Mem) : Option (Int32 × Mem) :=
  if a3 ≤ a8 then
    f_X12_find_86 N k6 a0 a1 a2 a3 a4 a6 a7 μ
  else
    if a7 = 0 then
      f_X12_find_86 N k6 a0 a1 a2 a3 a4 a6 a7 μ
    else
      (sChr a0 (a5 + a8)).bind fun q1 =>
      (maI μ 0 a1 (a2 + a8)).bind fun v2 =>
      if ¬ q1 = v2 then
        f_X12_find_78 N k6 k44 a0 a1 a2 a3 a4 a5 a6 a8 0 μ
      else
        f_X12_find_78 N k6 k44 a0 a1 a2 a3 a4 a5 a6 a8 1 μ
def L_X12_find_44 (N : Nat) (k6 : Nat → (Option Nat) → Int32 → Int32 → Int32 → Int32 → Mem → Option (Int32 × Mem)) : Nat → Nat → (Option Nat) → Int32 → Int32 → Int32 → Int32 → Int32 → Int32 → Int32 → Mem → Option (Int32 × Mem)
  | 0 => fun _ _ _ _ _ _ _ _ _ _ => none
  | n + 1 => H_X12_find_44 N k6 (L_X12_find_44 N k6 n)
def f_X12_find_39 (N : Nat) (k6 : Nat → (Option Nat) → Int32 → Int32 → Int32 → Int32 → Mem → Option (Int32 × Mem)) (a0 : Nat) (a1 : Option Nat) (a2 : Int32) (a3 : Int32) (a4 : Int32) (a5 : Int32) (a6 : Int32) (s0 : Int32) (μ : Mem) : Option (Int32 × Mem) :=
  L_X12_find_44 N k6 N a0 a1 a2 a3 a4 a5 a6 s0 0 μ
def H_X12_find_6 (N : Nat) (k6 : Nat → (Option Nat) → Int32 → Int32 → Int32 → Int32 → Mem → Option (Int32 × Mem)) (a0 : Nat) (a1 : Option Nat) (a2 : Int32) (a3 : Int32) (a4 : Int32) (a5 : Int32) (μ : Mem) : Option (Int32 × Mem) :=
  (sLen a0).bind fun q1 =>
  if q1 ≤ a5 then
    some ((-1), μ)
  else
    (sIx2 a0 32 a5).bind fun q2 =>
    if ¬ (q2 - a5) = a3 then
      f_X12_find_39 N k6 a0 a1 a2 a3 a4 a5 q2 0 μ
    else
      f_X12_find_39 N k6 a0 a1 a2 a3 a4 a5 q2 1 μ
def L_X12_find_6 (N : Nat) : Nat → Nat → (Option Nat) → Int32 → Int32 → Int32 → Int32 → Mem → Option (Int32 × Mem)
  | 0 => fun _ _ _ _ _ _ _ => none
  | n + 1 => H_X12_find_6 N (L_X12_find_6 N n)
def f_X12_find (N : Nat) (a0 : Nat) (a1 : Option Nat) (a2 : Int32) (a3 : Int32) (μ : Mem) : Option (Int32 × Mem) :=
  L_X12_find_6 N N a0 a1 a2 a3 0 0 μ
set_option maxRecDepth 100000 in
set_option maxHeartbeats 4000000 in
theorem p_X12_find_86 {x : CX} {l : Launch} {g : CG} {rv : Int32} {μ0 μ9 : Mem} (C : Cx x l g mi_X12_find) (F : Prom x g mi_X12_find μ0 (some (aI rv)) μ9) {N : Nat} {k6 : Nat → (Option Nat) → Int32 → Int32 → Int32 → Int32 → Mem → Option (Int32 × Mem)} (hk6 : ∀ (a0 : Nat) (a1 : Option Nat) (a2 : Int32) (a3 : Int32) (a4 : Int32) (a5 : Int32) (μ : Mem), k6 a0 a1 a2 a3 a4 a5 μ = some (rv, μ9) → V x g 9 0 0 μ 6 [(0, aX a0), (1, aR a1), (2, aI a2), (3, aI a3), (4, aI a4), (5, aI a5)] []) {a0 : Nat} {a1 : Option Nat} {a2 : Int32} {a3 : Int32} {a4 : Int32} {a6 : Int32} {a7 : Int32} {μ : Mem} (h : f_X12_find_86 N k6 a0 a1 a2 a3 a4 a6 a7 μ = some (rv, μ9)) : V x g 9 0 0 μ 86 [(0, aX a0), (1, aR a1), (2, aI a2), (3, aI a3), (4, aI a4), (6, aI a6), (7, aI a7)] [] := by
  unfold f_X12_find_86 at h
  refine v_iload C dX12_find_86 rfl ?_
  refine v_if_eq (tgt := 94) C dX12_find_88 (by decide) (fun c => ?_) (fun c => ?_)
  · replace h := ifT h c
    refine v_iinc (w := 1) C dX12_find_94 rfl rfl (by decide) ?_
    refine v_iload C dX12_find_97 rfl ?_
    refine v_iconst (v := 1) C dX12_find_99 rfl ?_
    refine v_iadd C dX12_find_100 ?_
    refine v_istore C dX12_find_101 (by decide) ?_
    refine v_goto (tgt := 6) C dX12_find_103 (by decide) ?_
    exact v_sb (hk6 _ _ _ _ _ _ _ h) ⟨rfl, rfl, rfl, rfl, rfl, rfl, trivial⟩
  · replace h := ifF h c
    refine v_iload C dX12_find_91 rfl ?_
    exact v_iret C F ⟨rfl, rfl, Nat.le_refl _⟩ dX12_find_93 h
set_option maxRecDepth 100000 in
set_option maxHeartbeats 4000000 in
theorem p_X12_find_78 {x : CX} {l : Launch} {g : CG} {rv : Int32} {μ0 μ9 : Mem} (C : Cx x l g mi_X12_find) (F : Prom x g mi_X12_find μ0 (some (aI rv)) μ9) {N : Nat} {k6 : Nat → (Option Nat) → Int32 → Int32 → Int32 → Int32 → Mem → Option (Int32 × Mem)} {k44 : Nat → (Option Nat) → Int32 → Int32 → Int32 → Int32 → Int32 → Int32 → Int32 → Mem → Option (Int32 × Mem)} (hk6 : ∀ (a0 : Nat) (a1 : Option Nat) (a2 : Int32) (a3 : Int32) (a4 : Int32) (a5 : Int32) (μ : Mem), k6 a0 a1 a2 a3 a4 a5 μ = some (rv, μ9) → V x g 9 0 0 μ 6 [(0, aX a0), (1, aR a1), (2, aI a2), (3, aI a3), (4, aI a4), (5, aI a5)] []) (hk44 : ∀ (a0 : Nat) (a1 : Option Nat) (a2 : Int32) (a3 : Int32) (a4 : Int32) (a5 : Int32) (a6 : Int32) (a7 : Int32) (a8 : Int32) (μ : Mem), k44 a0 a1 a2 a3 a4 a5 a6 a7 a8 μ = some (rv, μ9) → V x g 9 0 0 μ 44 [(0, aX a0), (1, aR a1), (2, aI a2), (3, aI a3), (4, aI a4), (5, aI a5), (6, aI a6), (7, aI a7), (8, aI a8)] []) {a0 : Nat} {a1 : Option Nat} {a2 : Int32} {a3 : Int32} {a4 : Int32} {a5 : Int32} {a6 : Int32} {a8 : Int32} {s0 : Int32} {μ : Mem} (h : f_X12_find_78 N k6 k44 a0 a1 a2 a3 a4 a5 a6 a8 s0 μ = some (rv, μ9)) : V x g 9 0 0 μ 78 [(0, aX a0), (1, aR a1), (2, aI a2), (3, aI a3), (4, aI a4), (5, aI a5), (6, aI a6), (8, aI a8)] [aI s0] := by
  unfold f_X12_find_78 at h
  refine v_istore C dX12_find_78 (by decide) ?_
  refine v_iinc (w := 1) C dX12_find_80 rfl rfl (by decide) ?_
  refine v_goto (tgt := 44) C dX12_find_83 (by decide) ?_
  exact v_sb (hk44 _ _ _ _ _ _ _ _ _ _ h) ⟨rfl, rfl, rfl, rfl, rfl, rfl, rfl, rfl, rfl, trivial⟩
set_option maxRecDepth 100000 in
set_option maxHeartbeats 4000000 in
theorem pH_X12_find_44 {x : CX} {l : Launch} {g : CG} {rv : Int32} {μ0 μ9 : Mem} (C : Cx x l g mi_X12_find) (F : Prom x g mi_X12_find μ0 (some (aI rv)) μ9) {N : Nat} {k6 : Nat → (Option Nat) → Int32 → Int32 → Int32 → Int32 → Mem → Option (Int32 × Mem)} {k44 : Nat → (Option Nat) → Int32 → Int32 → Int32 → Int32 → Int32 → Int32 → Int32 → Mem → Option (Int32 × Mem)} (hk6 : ∀ (a0 : Nat) (a1 : Option Nat) (a2 : Int32) (a3 : Int32) (a4 : Int32) (a5 : Int32) (μ : Mem), k6 a0 a1 a2 a3 a4 a5 μ = some (rv, μ9) → V x g 9 0 0 μ 6 [(0, aX a0), (1, aR a1), (2, aI a2), (3, aI a3), (4, aI a4), (5, aI a5)] []) (hk44 : ∀ (a0 : Nat) (a1 : Option Nat) (a2 : Int32) (a3 : Int32) (a4 : Int32) (a5 : Int32) (a6 : Int32) (a7 : Int32) (a8 : Int32) (μ : Mem), k44 a0 a1 a2 a3 a4 a5 a6 a7 a8 μ = some (rv, μ9) → V x g 9 0 0 μ 44 [(0, aX a0), (1, aR a1), (2, aI a2), (3, aI a3), (4, aI a4), (5, aI a5), (6, aI a6), (7, aI a7), (8, aI a8)] []) {a0 : Nat} {a1 : Option Nat} {a2 : Int32} {a3 : Int32} {a4 : Int32} {a5 : Int32} {a6 : Int32} {a7 : Int32} {a8 : Int32} {μ : Mem} (h : H_X12_find_44 N k6 k44 a0 a1 a2 a3 a4 a5 a6 a7 a8 μ = some (rv, μ9)) : V x g 9 0 0 μ 44 [(0, aX a0), (1, aR a1), (2, aI a2), (3, aI a3), (4, aI a4), (5, aI a5), (6, aI a6), (7, aI a7), (8, aI a8)] [] := by
  unfold H_X12_find_44 at h
  refine v_iload C dX12_find_44 rfl ?_
  refine v_iload_n C dX12_find_46 rfl ?_
  refine v_icmp_ge (tgt := 86) C dX12_find_47 (by decide) (fun c => ?_) (fun c => ?_)
  · replace h := ifT h c
    exact v_sb (p_X12_find_86 C F hk6 h) ⟨rfl, rfl, rfl, rfl, rfl, rfl, rfl, trivial⟩
  · replace h := ifF h c
    refine v_iload C dX12_find_50 rfl ?_
    refine v_if_eq (tgt := 86) C dX12_find_52 (by decide) (fun c => ?_) (fun c => ?_)
    · replace h := ifT h c
      exact v_sb (p_X12_find_86 C F hk6 h) ⟨rfl, rfl, rfl, rfl, rfl, rfl, rfl, trivial⟩
    · replace h := ifF h c
      refine v_aloadX_n C dX12_find_55 rfl ?_
      refine v_iload C dX12_find_56 rfl ?_
      refine v_iload C dX12_find_58 rfl ?_
      refine v_iadd C dX12_find_60 ?_
      obtain ⟨q, e, h⟩ := ob h
      refine v_callX (As := [_]) C dX12_find_61 cf_X12_88 (rm_X12_find_J0_charAt_5068e) ⟨rfl, rfl⟩ (xsChr e) rfl (Nat.le_of_ble_eq_true rfl) (csChr e) ?_
      refine v_aload_n C dX12_find_64 rfl ?_
      refine v_iload_n C dX12_find_65 rfl ?_
      refine v_iload C dX12_find_66 rfl ?_
      refine v_iadd C dX12_find_68 ?_
      obtain ⟨v, e, h⟩ := ob h
      refine v_iaload C dX12_find_69 e ?_
      refine v_icmp_ne (tgt := 77) C dX12_find_70 (by decide) (fun c => ?_) (fun c => ?_)
      · replace h := ifT h c
        refine v_iconst (v := 0) C dX12_find_77 rfl ?_
        exact v_sb (p_X12_find_78 C F hk6 hk44 h) ⟨rfl, rfl, rfl, rfl, rfl, rfl, rfl, rfl, trivial⟩
      · replace h := ifF h c
        refine v_iconst (v := 1) C dX12_find_73 rfl ?_
        refine v_goto (tgt := 78) C dX12_find_74 (by decide) ?_
        exact v_sb (p_X12_find_78 C F hk6 hk44 h) ⟨rfl, rfl, rfl, rfl, rfl, rfl, rfl, rfl, trivial⟩
set_option maxRecDepth 100000 in
set_option maxHeartbeats 4000000 in
theorem pL_X12_find_44 {x : CX} {l : Launch} {g : CG} {rv : Int32} {μ0 μ9 : Mem} (C : Cx x l g mi_X12_find) (F : Prom x g mi_X12_find μ0 (some (aI rv)) μ9) (N : Nat) {k6 : Nat → (Option Nat) → Int32 → Int32 → Int32 → Int32 → Mem → Option (Int32 × Mem)} (hk6 : ∀ (a0 : Nat) (a1 : Option Nat) (a2 : Int32) (a3 : Int32) (a4 : Int32) (a5 : Int32) (μ : Mem), k6 a0 a1 a2 a3 a4 a5 μ = some (rv, μ9) → V x g 9 0 0 μ 6 [(0, aX a0), (1, aR a1), (2, aI a2), (3, aI a3), (4, aI a4), (5, aI a5)] []) (n : Nat) : ∀ (a0 : Nat) (a1 : Option Nat) (a2 : Int32) (a3 : Int32) (a4 : Int32) (a5 : Int32) (a6 : Int32) (a7 : Int32) (a8 : Int32) (μ : Mem), L_X12_find_44 N k6 n a0 a1 a2 a3 a4 a5 a6 a7 a8 μ = some (rv, μ9) → V x g 9 0 0 μ 44 [(0, aX a0), (1, aR a1), (2, aI a2), (3, aI a3), (4, aI a4), (5, aI a5), (6, aI a6), (7, aI a7), (8, aI a8)] [] := by
  induction n with
  | zero => intro a0 a1 a2 a3 a4 a5 a6 a7 a8 μ h; cases h
  | succ n ih => intro a0 a1 a2 a3 a4 a5 a6 a7 a8 μ h; exact pH_X12_find_44 C F hk6 ih h
set_option maxRecDepth 100000 in
set_option maxHeartbeats 4000000 in
theorem p_X12_find_39 {x : CX} {l : Launch} {g : CG} {rv : Int32} {μ0 μ9 : Mem} (C : Cx x l g mi_X12_find) (F : Prom x g mi_X12_find μ0 (some (aI rv)) μ9) {N : Nat} {k6 : Nat → (Option Nat) → Int32 → Int32 → Int32 → Int32 → Mem → Option (Int32 × Mem)} (hk6 : ∀ (a0 : Nat) (a1 : Option Nat) (a2 : Int32) (a3 : Int32) (a4 : Int32) (a5 : Int32) (μ : Mem), k6 a0 a1 a2 a3 a4 a5 μ = some (rv, μ9) → V x g 9 0 0 μ 6 [(0, aX a0), (1, aR a1), (2, aI a2), (3, aI a3), (4, aI a4), (5, aI a5)] []) {a0 : Nat} {a1 : Option Nat} {a2 : Int32} {a3 : Int32} {a4 : Int32} {a5 : Int32} {a6 : Int32} {s0 : Int32} {μ : Mem} (h : f_X12_find_39 N k6 a0 a1 a2 a3 a4 a5 a6 s0 μ = some (rv, μ9)) : V x g 9 0 0 μ 39 [(0, aX a0), (1, aR a1), (2, aI a2), (3, aI a3), (4, aI a4), (5, aI a5), (6, aI a6)] [aI s0] := by
  unfold f_X12_find_39 at h
  refine v_istore C dX12_find_39 (by decide) ?_
  refine v_iconst (v := 0) C dX12_find_41 rfl ?_
  refine v_istore C dX12_find_42 (by decide) ?_
  exact v_sb (pL_X12_find_44 C F N hk6 N _ _ _ _ _ _ _ _ _ _ h) ⟨rfl, rfl, rfl, rfl, rfl, rfl, rfl, rfl, rfl, trivial⟩
set_option maxRecDepth 100000 in
set_option maxHeartbeats 4000000 in
theorem pH_X12_find_6 {x : CX} {l : Launch} {g : CG} {rv : Int32} {μ0 μ9 : Mem} (C : Cx x l g mi_X12_find) (F : Prom x g mi_X12_find μ0 (some (aI rv)) μ9) {N : Nat} {k6 : Nat → (Option Nat) → Int32 → Int32 → Int32 → Int32 → Mem → Option (Int32 × Mem)} (hk6 : ∀ (a0 : Nat) (a1 : Option Nat) (a2 : Int32) (a3 : Int32) (a4 : Int32) (a5 : Int32) (μ : Mem), k6 a0 a1 a2 a3 a4 a5 μ = some (rv, μ9) → V x g 9 0 0 μ 6 [(0, aX a0), (1, aR a1), (2, aI a2), (3, aI a3), (4, aI a4), (5, aI a5)] []) {a0 : Nat} {a1 : Option Nat} {a2 : Int32} {a3 : Int32} {a4 : Int32} {a5 : Int32} {μ : Mem} (h : H_X12_find_6 N k6 a0 a1 a2 a3 a4 a5 μ = some (rv, μ9)) : V x g 9 0 0 μ 6 [(0, aX a0), (1, aR a1), (2, aI a2), (3, aI a3), (4, aI a4), (5, aI a5)] [] := by
  unfold H_X12_find_6 at h
  refine v_iload C dX12_find_6 rfl ?_
  refine v_aloadX_n C dX12_find_8 rfl ?_
  obtain ⟨q, e, h⟩ := ob h
  refine v_callX (As := []) C dX12_find_9 cf_X12_81 (rm_X12_find_J0_length_8abf5) ⟨rfl, rfl⟩ (xsLen e) rfl (Nat.le_of_ble_eq_true rfl) (csLen e) ?_
  refine v_icmp_ge (tgt := 106) C dX12_find_12 (by decide) (fun c => ?_) (fun c => ?_)
  · replace h := ifT h c
    refine v_iconst (v := -1) C dX12_find_106 rfl ?_
    exact v_iret C F ⟨rfl, rfl, Nat.le_refl _⟩ dX12_find_107 h
  · replace h := ifF h c
    refine v_aloadX_n C dX12_find_15 rfl ?_
    refine v_bipush (v := 32) C dX12_find_16 rfl ?_
    refine v_iload C dX12_find_18 rfl ?_
    obtain ⟨q, e, h⟩ := ob h
    refine v_callX (As := [_, _]) C dX12_find_20 cf_X12_85 (rm_X12_find_J0_indexOf_7cf53) ⟨rfl, rfl⟩ (xsIx2 e) rfl (Nat.le_of_ble_eq_true rfl) (csIx2 e) ?_
    refine v_istore C dX12_find_23 (by decide) ?_
    refine v_iload C dX12_find_25 rfl ?_
    refine v_iload C dX12_find_27 rfl ?_
    refine v_isub C dX12_find_29 ?_
    refine v_iload_n C dX12_find_30 rfl ?_
    refine v_icmp_ne (tgt := 38) C dX12_find_31 (by decide) (fun c => ?_) (fun c => ?_)
    · replace h := ifT h c
      refine v_iconst (v := 0) C dX12_find_38 rfl ?_
      exact v_sb (p_X12_find_39 C F hk6 h) ⟨rfl, rfl, rfl, rfl, rfl, rfl, rfl, trivial⟩
    · replace h := ifF h c
      refine v_iconst (v := 1) C dX12_find_34 rfl ?_
      refine v_goto (tgt := 39) C dX12_find_35 (by decide) ?_
      exact v_sb (p_X12_find_39 C F hk6 h) ⟨rfl, rfl, rfl, rfl, rfl, rfl, rfl, trivial⟩
set_option maxRecDepth 100000 in
set_option maxHeartbeats 4000000 in
theorem pL_X12_find_6 {x : CX} {l : Launch} {g : CG} {rv : Int32} {μ0 μ9 : Mem} (C : Cx x l g mi_X12_find) (F : Prom x g mi_X12_find μ0 (some (aI rv)) μ9) (N : Nat) (n : Nat) : ∀ (a0 : Nat) (a1 : Option Nat) (a2 : Int32) (a3 : Int32) (a4 : Int32) (a5 : Int32) (μ : Mem), L_X12_find_6 N n a0 a1 a2 a3 a4 a5 μ = some (rv, μ9) → V x g 9 0 0 μ 6 [(0, aX a0), (1, aR a1), (2, aI a2), (3, aI a3), (4, aI a4), (5, aI a5)] [] := by
  induction n with
  | zero => intro a0 a1 a2 a3 a4 a5 μ h; cases h
  | succ n ih => intro a0 a1 a2 a3 a4 a5 μ h; exact pH_X12_find_6 C F ih h
set_option maxRecDepth 100000 in
set_option maxHeartbeats 4000000 in
theorem p_X12_find {x : CX} {l : Launch} {g : CG} {rv : Int32} {μ0 μ9 : Mem} (C : Cx x l g mi_X12_find) (F : Prom x g mi_X12_find μ0 (some (aI rv)) μ9) {N : Nat} {a0 : Nat} {a1 : Option Nat} {a2 : Int32} {a3 : Int32} {μ : Mem} (h : f_X12_find N a0 a1 a2 a3 μ = some (rv, μ9)) : V x g 9 0 0 μ 0 [(0, aX a0), (1, aR a1), (2, aI a2), (3, aI a3)] [] := by
  unfold f_X12_find at h
  refine v_iconst (v := 0) C dX12_find_0 rfl ?_
  refine v_istore C dX12_find_1 (by decide) ?_
  refine v_iconst (v := 0) C dX12_find_3 rfl ?_
  refine v_istore C dX12_find_4 (by decide) ?_
  exact v_sb (pL_X12_find_6 C F N N _ _ _ _ _ _ _ h) ⟨rfl, rfl, rfl, rfl, rfl, rfl, trivial⟩
set_option maxRecDepth 100000 in
set_option maxHeartbeats 4000000 in
theorem c_X12_find (l : Launch) (g : CG) (N : Nat) (a0 : Nat) (a1 : Option Nat) (a2 : Int32) (a3 : Int32) (μ : Mem) (rv : Int32) (μ9 : Mem) (h : f_X12_find N a0 a1 a2 a3 μ = some (rv, μ9)) : Ct l yX12_find mi_X12_find g [aX a0, aR a1, aI a2, aI a3] μ (some (aI rv)) μ9 := ct_of ⟨by decide, rfl, rfl⟩ (Nat.le_of_ble_eq_true rfl) fun x C F => p_X12_find C F h
def f_X12_findTold_78 (N : Nat) (k2 : (Option Nat) → Int32 → Int32 → Int32 → Mem → Option (Int32 × Mem)) (a0 : Option Nat) (a1 : Int32) (a2 : Int32) (a3 : Int32) (a4 : Int32) (μ : Mem) : Option (Int32 × Mem) :=
  if a4 = 0 then
    k2 a0 a1 a2 (a3 + 1) μ
  else
    some (a3, μ)
def f_X12_findTold_70 (N : Nat) (k2 : (Option Nat) → Int32 → Int32 → Int32 → Mem → Option (Int32 × Mem)) (k30 : (Option Nat) → Int32 → Int32 → Int32 → Int32 → Int32 → Mem → Option (Int32 × Mem)) (a0 : Option Nat) (a1 : Int32) (a2 : Int32) (a3 : Int32) (a5 : Int32) (s0 : Int32) (μ : Mem) : Option (Int32 × Mem) :=
  k30 a0 a1 a2 a3 s0 (a5 + 1) μ
def H_X12_findTold_30 (N : Nat) (k2 : (Option Nat) → Int32 → Int32 → Int32 → Mem → Option (Int32 × Mem)) (k30 : (Option Nat) → Int32 → Int32 → Int32 → Int32 → Int32 → Mem → Option (Int32 × Mem)) (a0 : Option Nat) (a1 : Int32) (a2 : Int32) (a3 : Int32) (a4 : Int32) (a5 : Int32) (μ : Mem) : Option (Int32 × Mem) :=
  if a2 ≤ a5 then
    f_X12_findTold_78 N k2 a0 a1 a2 a3 a4 μ
  else
    if a4 = 0 then
      f_X12_findTold_78 N k2 a0 a1 a2 a3 a4 μ
    else
      (mfR μ a0 12 17).bind fun v1 =>
      (maI μ 0 v1 ((7 * a3) + a5)).bind fun v2 =>
      (mfR μ a0 12 2).bind fun v3 =>
      (maI μ 0 v3 (a1 + a5)).bind fun v4 =>
      if ¬ v2 = v4 then
        f_X12_findTold_70 N k2 k30 a0 a1 a2 a3 a5 0 μ
      else
        f_X12_findTold_70 N k2 k30 a0 a1 a2 a3 a5 1 μ
def L_X12_findTold_30 (N : Nat) (k2 : (Option Nat) → Int32 → Int32 → Int32 → Mem → Option (Int32 × Mem)) : Nat → (Option Nat) → Int32 → Int32 → Int32 → Int32 → Int32 → Mem → Option (Int32 × Mem)
  | 0 => fun _ _ _ _ _ _ _ => none
  | n + 1 => H_X12_findTold_30 N k2 (L_X12_findTold_30 N k2 n)
def f_X12_findTold_25 (N : Nat) (k2 : (Option Nat) → Int32 → Int32 → Int32 → Mem → Option (Int32 × Mem)) (a0 : Option Nat) (a1 : Int32) (a2 : Int32) (a3 : Int32) (s0 : Int32) (μ : Mem) : Option (Int32 × Mem) :=
  L_X12_findTold_30 N k2 N a0 a1 a2 a3 s0 0 μ
def H_X12_findTold_2 (N : Nat) (k2 : (Option Nat) → Int32 → Int32 → Int32 → Mem → Option (Int32 × Mem)) (a0 : Option Nat) (a1 : Int32) (a2 : Int32) (a3 : Int32) (μ : Mem) : Option (Int32 × Mem) :=
  (mfI μ a0 12 21).bind fun v1 =>
  if v1 ≤ a3 then
    some ((-1), μ)
  else
    (mfR μ a0 12 18).bind fun v2 =>
    (maI μ 0 v2 a3).bind fun v3 =>
    if ¬ v3 = a2 then
      f_X12_findTold_25 N k2 a0 a1 a2 a3 0 μ
    else
      f_X12_findTold_25 N k2 a0 a1 a2 a3 1 μ
def L_X12_findTold_2 (N : Nat) : Nat → (Option Nat) → Int32 → Int32 → Int32 → Mem → Option (Int32 × Mem)
  | 0 => fun _ _ _ _ _ => none
  | n + 1 => H_X12_findTold_2 N (L_X12_findTold_2 N n)
def f_X12_findTold (N : Nat) (a0 : Option Nat) (a1 : Int32) (a2 : Int32) (μ : Mem) : Option (Int32 × Mem) :=
  L_X12_findTold_2 N N a0 a1 a2 0 μ
set_option maxRecDepth 100000 in
set_option maxHeartbeats 4000000 in
theorem p_X12_findTold_78 {x : CX} {l : Launch} {g : CG} {rv : Int32} {μ0 μ9 : Mem} (C : Cx x l g mi_X12_findTold) (F : Prom x g mi_X12_findTold μ0 (some (aI rv)) μ9) {N : Nat} {k2 : (Option Nat) → Int32 → Int32 → Int32 → Mem → Option (Int32 × Mem)} (hk2 : ∀ (a0 : Option Nat) (a1 : Int32) (a2 : Int32) (a3 : Int32) (μ : Mem), k2 a0 a1 a2 a3 μ = some (rv, μ9) → V x g 6 0 0 μ 2 [(0, aR a0), (1, aI a1), (2, aI a2), (3, aI a3)] []) {a0 : Option Nat} {a1 : Int32} {a2 : Int32} {a3 : Int32} {a4 : Int32} {μ : Mem} (h : f_X12_findTold_78 N k2 a0 a1 a2 a3 a4 μ = some (rv, μ9)) : V x g 6 0 0 μ 78 [(0, aR a0), (1, aI a1), (2, aI a2), (3, aI a3), (4, aI a4)] [] := by
  unfold f_X12_findTold_78 at h
  refine v_iload C dX12_findTold_78 rfl ?_
  refine v_if_eq (tgt := 85) C dX12_findTold_80 (by decide) (fun c => ?_) (fun c => ?_)
  · replace h := ifT h c
    refine v_iinc (w := 1) C dX12_findTold_85 rfl rfl (by decide) ?_
    refine v_goto (tgt := 2) C dX12_findTold_88 (by decide) ?_
    exact v_sb (hk2 _ _ _ _ _ h) ⟨rfl, rfl, rfl, rfl, trivial⟩
  · replace h := ifF h c
    refine v_iload_n C dX12_findTold_83 rfl ?_
    exact v_iret C F ⟨rfl, rfl, Nat.le_refl _⟩ dX12_findTold_84 h
set_option maxRecDepth 100000 in
set_option maxHeartbeats 4000000 in
theorem p_X12_findTold_70 {x : CX} {l : Launch} {g : CG} {rv : Int32} {μ0 μ9 : Mem} (C : Cx x l g mi_X12_findTold) (F : Prom x g mi_X12_findTold μ0 (some (aI rv)) μ9) {N : Nat} {k2 : (Option Nat) → Int32 → Int32 → Int32 → Mem → Option (Int32 × Mem)} {k30 : (Option Nat) → Int32 → Int32 → Int32 → Int32 → Int32 → Mem → Option (Int32 × Mem)} (hk2 : ∀ (a0 : Option Nat) (a1 : Int32) (a2 : Int32) (a3 : Int32) (μ : Mem), k2 a0 a1 a2 a3 μ = some (rv, μ9) → V x g 6 0 0 μ 2 [(0, aR a0), (1, aI a1), (2, aI a2), (3, aI a3)] []) (hk30 : ∀ (a0 : Option Nat) (a1 : Int32) (a2 : Int32) (a3 : Int32) (a4 : Int32) (a5 : Int32) (μ : Mem), k30 a0 a1 a2 a3 a4 a5 μ = some (rv, μ9) → V x g 6 0 0 μ 30 [(0, aR a0), (1, aI a1), (2, aI a2), (3, aI a3), (4, aI a4), (5, aI a5)] []) {a0 : Option Nat} {a1 : Int32} {a2 : Int32} {a3 : Int32} {a5 : Int32} {s0 : Int32} {μ : Mem} (h : f_X12_findTold_70 N k2 k30 a0 a1 a2 a3 a5 s0 μ = some (rv, μ9)) : V x g 6 0 0 μ 70 [(0, aR a0), (1, aI a1), (2, aI a2), (3, aI a3), (5, aI a5)] [aI s0] := by
  unfold f_X12_findTold_70 at h
  refine v_istore C dX12_findTold_70 (by decide) ?_
  refine v_iinc (w := 1) C dX12_findTold_72 rfl rfl (by decide) ?_
  refine v_goto (tgt := 30) C dX12_findTold_75 (by decide) ?_
  exact v_sb (hk30 _ _ _ _ _ _ _ h) ⟨rfl, rfl, rfl, rfl, rfl, rfl, trivial⟩
set_option maxRecDepth 100000 in
set_option maxHeartbeats 4000000 in
theorem pH_X12_findTold_30 {x : CX} {l : Launch} {g : CG} {rv : Int32} {μ0 μ9 : Mem} (C : Cx x l g mi_X12_findTold) (F : Prom x g mi_X12_findTold μ0 (some (aI rv)) μ9) {N : Nat} {k2 : (Option Nat) → Int32 → Int32 → Int32 → Mem → Option (Int32 × Mem)} {k30 : (Option Nat) → Int32 → Int32 → Int32 → Int32 → Int32 → Mem → Option (Int32 × Mem)} (hk2 : ∀ (a0 : Option Nat) (a1 : Int32) (a2 : Int32) (a3 : Int32) (μ : Mem), k2 a0 a1 a2 a3 μ = some (rv, μ9) → V x g 6 0 0 μ 2 [(0, aR a0), (1, aI a1), (2, aI a2), (3, aI a3)] []) (hk30 : ∀ (a0 : Option Nat) (a1 : Int32) (a2 : Int32) (a3 : Int32) (a4 : Int32) (a5 : Int32) (μ : Mem), k30 a0 a1 a2 a3 a4 a5 μ = some (rv, μ9) → V x g 6 0 0 μ 30 [(0, aR a0), (1, aI a1), (2, aI a2), (3, aI a3), (4, aI a4), (5, aI a5)] []) {a0 : Option Nat} {a1 : Int32} {a2 : Int32} {a3 : Int32} {a4 : Int32} {a5 : Int32} {μ : Mem} (h : H_X12_findTold_30 N k2 k30 a0 a1 a2 a3 a4 a5 μ = some (rv, μ9)) : V x g 6 0 0 μ 30 [(0, aR a0), (1, aI a1), (2, aI a2), (3, aI a3), (4, aI a4), (5, aI a5)] [] := by
  unfold H_X12_findTold_30 at h
  refine v_iload C dX12_findTold_30 rfl ?_
  refine v_iload_n C dX12_findTold_32 rfl ?_
  refine v_icmp_ge (tgt := 78) C dX12_findTold_33 (by decide) (fun c => ?_) (fun c => ?_)
  · replace h := ifT h c
    exact v_sb (p_X12_findTold_78 C F hk2 h) ⟨rfl, rfl, rfl, rfl, rfl, trivial⟩
  · replace h := ifF h c
    refine v_iload C dX12_findTold_36 rfl ?_
    refine v_if_eq (tgt := 78) C dX12_findTold_38 (by decide) (fun c => ?_) (fun c => ?_)
    · replace h := ifT h c
      exact v_sb (p_X12_findTold_78 C F hk2 h) ⟨rfl, rfl, rfl, rfl, rfl, trivial⟩
    · replace h := ifF h c
      refine v_aload_n C dX12_findTold_41 rfl ?_
      obtain ⟨v, e, h⟩ := ob h
      refine v_getR C dX12_findTold_42 gf_X12_98 e ?_
      refine v_bipush (v := 7) C dX12_findTold_45 rfl ?_
      refine v_iload_n C dX12_findTold_47 rfl ?_
      refine v_imul C dX12_findTold_48 ?_
      refine v_iload C dX12_findTold_49 rfl ?_
      refine v_iadd C dX12_findTold_51 ?_
      obtain ⟨v, e, h⟩ := ob h
      refine v_iaload C dX12_findTold_52 e ?_
      refine v_aload_n C dX12_findTold_53 rfl ?_
      obtain ⟨v, e, h⟩ := ob h
      refine v_getR C dX12_findTold_54 gf_X12_28 e ?_
      refine v_iload_n C dX12_findTold_57 rfl ?_
      refine v_iload C dX12_findTold_58 rfl ?_
      refine v_iadd C dX12_findTold_60 ?_
      obtain ⟨v, e, h⟩ := ob h
      refine v_iaload C dX12_findTold_61 e ?_
      refine v_icmp_ne (tgt := 69) C dX12_findTold_62 (by decide) (fun c => ?_) (fun c => ?_)
      · replace h := ifT h c
        refine v_iconst (v := 0) C dX12_findTold_69 rfl ?_
        exact v_sb (p_X12_findTold_70 C F hk2 hk30 h) ⟨rfl, rfl, rfl, rfl, rfl, trivial⟩
      · replace h := ifF h c
        refine v_iconst (v := 1) C dX12_findTold_65 rfl ?_
        refine v_goto (tgt := 70) C dX12_findTold_66 (by decide) ?_
        exact v_sb (p_X12_findTold_70 C F hk2 hk30 h) ⟨rfl, rfl, rfl, rfl, rfl, trivial⟩
set_option maxRecDepth 100000 in
set_option maxHeartbeats 4000000 in
theorem pL_X12_findTold_30 {x : CX} {l : Launch} {g : CG} {rv : Int32} {μ0 μ9 : Mem} (C : Cx x l g mi_X12_findTold) (F : Prom x g mi_X12_findTold μ0 (some (aI rv)) μ9) (N : Nat) {k2 : (Option Nat) → Int32 → Int32 → Int32 → Mem → Option (Int32 × Mem)} (hk2 : ∀ (a0 : Option Nat) (a1 : Int32) (a2 : Int32) (a3 : Int32) (μ : Mem), k2 a0 a1 a2 a3 μ = some (rv, μ9) → V x g 6 0 0 μ 2 [(0, aR a0), (1, aI a1), (2, aI a2), (3, aI a3)] []) (n : Nat) : ∀ (a0 : Option Nat) (a1 : Int32) (a2 : Int32) (a3 : Int32) (a4 : Int32) (a5 : Int32) (μ : Mem), L_X12_findTold_30 N k2 n a0 a1 a2 a3 a4 a5 μ = some (rv, μ9) → V x g 6 0 0 μ 30 [(0, aR a0), (1, aI a1), (2, aI a2), (3, aI a3), (4, aI a4), (5, aI a5)] [] := by
  induction n with
  | zero => intro a0 a1 a2 a3 a4 a5 μ h; cases h
  | succ n ih => intro a0 a1 a2 a3 a4 a5 μ h; exact pH_X12_findTold_30 C F hk2 ih h
set_option maxRecDepth 100000 in
set_option maxHeartbeats 4000000 in
theorem p_X12_findTold_25 {x : CX} {l : Launch} {g : CG} {rv : Int32} {μ0 μ9 : Mem} (C : Cx x l g mi_X12_findTold) (F : Prom x g mi_X12_findTold μ0 (some (aI rv)) μ9) {N : Nat} {k2 : (Option Nat) → Int32 → Int32 → Int32 → Mem → Option (Int32 × Mem)} (hk2 : ∀ (a0 : Option Nat) (a1 : Int32) (a2 : Int32) (a3 : Int32) (μ : Mem), k2 a0 a1 a2 a3 μ = some (rv, μ9) → V x g 6 0 0 μ 2 [(0, aR a0), (1, aI a1), (2, aI a2), (3, aI a3)] []) {a0 : Option Nat} {a1 : Int32} {a2 : Int32} {a3 : Int32} {s0 : Int32} {μ : Mem} (h : f_X12_findTold_25 N k2 a0 a1 a2 a3 s0 μ = some (rv, μ9)) : V x g 6 0 0 μ 25 [(0, aR a0), (1, aI a1), (2, aI a2), (3, aI a3)] [aI s0] := by
  unfold f_X12_findTold_25 at h
  refine v_istore C dX12_findTold_25 (by decide) ?_
  refine v_iconst (v := 0) C dX12_findTold_27 rfl ?_
  refine v_istore C dX12_findTold_28 (by decide) ?_
  exact v_sb (pL_X12_findTold_30 C F N hk2 N _ _ _ _ _ _ _ h) ⟨rfl, rfl, rfl, rfl, rfl, rfl, trivial⟩
set_option maxRecDepth 100000 in
set_option maxHeartbeats 4000000 in
theorem pH_X12_findTold_2 {x : CX} {l : Launch} {g : CG} {rv : Int32} {μ0 μ9 : Mem} (C : Cx x l g mi_X12_findTold) (F : Prom x g mi_X12_findTold μ0 (some (aI rv)) μ9) {N : Nat} {k2 : (Option Nat) → Int32 → Int32 → Int32 → Mem → Option (Int32 × Mem)} (hk2 : ∀ (a0 : Option Nat) (a1 : Int32) (a2 : Int32) (a3 : Int32) (μ : Mem), k2 a0 a1 a2 a3 μ = some (rv, μ9) → V x g 6 0 0 μ 2 [(0, aR a0), (1, aI a1), (2, aI a2), (3, aI a3)] []) {a0 : Option Nat} {a1 : Int32} {a2 : Int32} {a3 : Int32} {μ : Mem} (h : H_X12_findTold_2 N k2 a0 a1 a2 a3 μ = some (rv, μ9)) : V x g 6 0 0 μ 2 [(0, aR a0), (1, aI a1), (2, aI a2), (3, aI a3)] [] := by
  unfold H_X12_findTold_2 at h
  refine v_iload_n C dX12_findTold_2 rfl ?_
  refine v_aload_n C dX12_findTold_3 rfl ?_
  obtain ⟨v, e, h⟩ := ob h
  refine v_getI C dX12_findTold_4 gf_X12_92 e ?_
  refine v_icmp_ge (tgt := 91) C dX12_findTold_7 (by decide) (fun c => ?_) (fun c => ?_)
  · replace h := ifT h c
    refine v_iconst (v := -1) C dX12_findTold_91 rfl ?_
    exact v_iret C F ⟨rfl, rfl, Nat.le_refl _⟩ dX12_findTold_92 h
  · replace h := ifF h c
    refine v_aload_n C dX12_findTold_10 rfl ?_
    obtain ⟨v, e, h⟩ := ob h
    refine v_getR C dX12_findTold_11 gf_X12_95 e ?_
    refine v_iload_n C dX12_findTold_14 rfl ?_
    obtain ⟨v, e, h⟩ := ob h
    refine v_iaload C dX12_findTold_15 e ?_
    refine v_iload_n C dX12_findTold_16 rfl ?_
    refine v_icmp_ne (tgt := 24) C dX12_findTold_17 (by decide) (fun c => ?_) (fun c => ?_)
    · replace h := ifT h c
      refine v_iconst (v := 0) C dX12_findTold_24 rfl ?_
      exact v_sb (p_X12_findTold_25 C F hk2 h) ⟨rfl, rfl, rfl, rfl, trivial⟩
    · replace h := ifF h c
      refine v_iconst (v := 1) C dX12_findTold_20 rfl ?_
      refine v_goto (tgt := 25) C dX12_findTold_21 (by decide) ?_
      exact v_sb (p_X12_findTold_25 C F hk2 h) ⟨rfl, rfl, rfl, rfl, trivial⟩
set_option maxRecDepth 100000 in
set_option maxHeartbeats 4000000 in
theorem pL_X12_findTold_2 {x : CX} {l : Launch} {g : CG} {rv : Int32} {μ0 μ9 : Mem} (C : Cx x l g mi_X12_findTold) (F : Prom x g mi_X12_findTold μ0 (some (aI rv)) μ9) (N : Nat) (n : Nat) : ∀ (a0 : Option Nat) (a1 : Int32) (a2 : Int32) (a3 : Int32) (μ : Mem), L_X12_findTold_2 N n a0 a1 a2 a3 μ = some (rv, μ9) → V x g 6 0 0 μ 2 [(0, aR a0), (1, aI a1), (2, aI a2), (3, aI a3)] [] := by
  induction n with
  | zero => intro a0 a1 a2 a3 μ h; cases h
  | succ n ih => intro a0 a1 a2 a3 μ h; exact pH_X12_findTold_2 C F ih h
set_option maxRecDepth 100000 in
set_option maxHeartbeats 4000000 in
theorem p_X12_findTold {x : CX} {l : Launch} {g : CG} {rv : Int32} {μ0 μ9 : Mem} (C : Cx x l g mi_X12_findTold) (F : Prom x g mi_X12_findTold μ0 (some (aI rv)) μ9) {N : Nat} {a0 : Option Nat} {a1 : Int32} {a2 : Int32} {μ : Mem} (h : f_X12_findTold N a0 a1 a2 μ = some (rv, μ9)) : V x g 6 0 0 μ 0 [(0, aR a0), (1, aI a1), (2, aI a2)] [] := by
  unfold f_X12_findTold at h
  refine v_iconst (v := 0) C dX12_findTold_0 rfl ?_
  refine v_istore_n C dX12_findTold_1 (by decide) ?_
  exact v_sb (pL_X12_findTold_2 C F N N _ _ _ _ _ h) ⟨rfl, rfl, rfl, rfl, trivial⟩
set_option maxRecDepth 100000 in
set_option maxHeartbeats 4000000 in
theorem c_X12_findTold (l : Launch) (g : CG) (N : Nat) (a0 : Option Nat) (a1 : Int32) (a2 : Int32) (μ : Mem) (rv : Int32) (μ9 : Mem) (h : f_X12_findTold N a0 a1 a2 μ = some (rv, μ9)) : Ct l yX12_findTold mi_X12_findTold g [aR a0, aI a1, aI a2] μ (some (aI rv)) μ9 := ct_of ⟨by decide, rfl, rfl⟩ (Nat.le_of_ble_eq_true rfl) fun x C F => p_X12_findTold C F h
def f_X12_tells_202 (N : Nat) (μ : Mem) : Option (Unit × Mem) :=
  some ((), μ)
def f_X12_tells_185 (N : Nat) (a0 : Option Nat) (a3 : Int32) (a5 : Int32) (μ : Mem) : Option (Unit × Mem) :=
  if a3 = (((-1)) : Int32) then
    f_X12_tells_202 N μ
  else
    (mfR μ a0 12 19).bind fun v1 =>
    (mbI μ 0 v1 a5 (a3 &&& 4095)).bind fun μ2 =>
    f_X12_tells_202 N μ2
def H_X12_tells_142 (N : Nat) (k142 : (Option Nat) → Int32 → Int32 → Int32 → Int32 → Int32 → Int32 → Mem → Option (Unit × Mem)) (a0 : Option Nat) (a1 : Int32) (a2 : Int32) (a3 : Int32) (a4 : Int32) (a5 : Int32) (a6 : Int32) (μ : Mem) : Option (Unit × Mem) :=
  if a2 ≤ a6 then
    (mfR μ a0 12 20).bind fun v1 =>
    (mbZ μ 2 v1 a5 a4).bind fun μ2 =>
    f_X12_tells_185 N a0 a3 a5 μ2
  else
    (mfR μ a0 12 17).bind fun v3 =>
    (mfR μ a0 12 2).bind fun v4 =>
    (maI μ 0 v4 (a1 + a6)).bind fun v5 =>
    (mbI μ 0 v3 ((7 * a5) + a6) v5).bind fun μ6 =>
    k142 a0 a1 a2 a3 a4 a5 (a6 + 1) μ6
def L_X12_tells_142 (N : Nat) : Nat → (Option Nat) → Int32 → Int32 → Int32 → Int32 → Int32 → Int32 → Mem → Option (Unit × Mem)
  | 0 => fun _ _ _ _ _ _ _ _ => none
  | n + 1 => H_X12_tells_142 N (L_X12_tells_142 N n)
def f_X12_tells_101 (N : Nat) (a0 : Option Nat) (a1 : Int32) (a2 : Int32) (a3 : Int32) (a4 : Int32) (a5 : Int32) (μ : Mem) : Option (Unit × Mem) :=
  (mfI μ a0 12 5).bind fun v1 =>
  if v1 ≤ 0 then
    if ¬ a5 = (((-1)) : Int32) then
      f_X12_tells_185 N a0 a3 a5 μ
    else
      (mfI μ a0 12 21).bind fun v2 =>
      (mfI μ a0 12 21).bind fun v3 =>
      (mpI μ a0 12 21 (v3 + 1)).bind fun μ4 =>
      (mfR μ4 a0 12 18).bind fun v5 =>
      (mbI μ4 0 v5 v2 a2).bind fun μ6 =>
      L_X12_tells_142 N N a0 a1 a2 a3 a4 v2 0 μ6
  else
    some ((), μ)
def f_X12_tells_78 (N : Nat) (a0 : Option Nat) (a1 : Int32) (a2 : Int32) (a3 : Int32) (a4 : Int32) (a5 : Int32) (μ : Mem) : Option (Unit × Mem) :=
  if ¬ a5 = (((-1)) : Int32) then
    f_X12_tells_101 N a0 a1 a2 a3 a4 a5 μ
  else
    (mfI μ a0 12 21).bind fun v1 =>
    if ¬ v1 = (200 : Int32) then
      f_X12_tells_101 N a0 a1 a2 a3 a4 a5 μ
    else
      (mck μ a0 12).bind fun b3 =>
      (f_X12_fails N (some b3) 6 a1 μ).bind fun q2 =>
      f_X12_tells_101 N a0 a1 a2 a3 a4 a5 q2.2
def f_X12_tells_72 (N : Nat) (a0 : Option Nat) (a1 : Int32) (a2 : Int32) (a3 : Int32) (a4 : Int32) (a5 : Int32) (μ : Mem) : Option (Unit × Mem) :=
  (mck μ a0 12).bind fun b2 =>
  (f_X12_fails N (some b2) 4 a1 μ).bind fun q1 =>
  f_X12_tells_78 N a0 a1 a2 a3 a4 a5 q1.2
def f_X12_tells_36 (N : Nat) (a0 : Option Nat) (a1 : Int32) (a2 : Int32) (a3 : Int32) (a4 : Int32) (μ : Mem) : Option (Unit × Mem) :=
  (mck μ a0 12).bind fun b2 =>
  (f_X12_findTold N (some b2) a1 a2 μ).bind fun q1 =>
  (mfI q1.2 a0 12 9).bind fun v3 =>
  if ¬ v3 = 0 then
    f_X12_tells_78 N a0 a1 a2 a3 a4 q1.1 q1.2
  else
    if q1.1 = (((-1)) : Int32) then
      f_X12_tells_78 N a0 a1 a2 a3 a4 q1.1 q1.2
    else
      if ¬ a4 = 0 then
        f_X12_tells_72 N a0 a1 a2 a3 a4 q1.1 q1.2
      else
        (mfR q1.2 a0 12 20).bind fun v4 =>
        (maI q1.2 2 v4 q1.1).bind fun v5 =>
        if v5 = 0 then
          f_X12_tells_78 N a0 a1 a2 a3 a4 q1.1 q1.2
        else
          f_X12_tells_72 N a0 a1 a2 a3 a4 q1.1 q1.2
def f_X12_tells_30 (N : Nat) (a0 : Option Nat) (a1 : Int32) (a2 : Int32) (a3 : Int32) (a4 : Int32) (μ : Mem) : Option (Unit × Mem) :=
  (mck μ a0 12).bind fun b2 =>
  (f_X12_fails N (some b2) 5 a1 μ).bind fun q1 =>
  f_X12_tells_36 N a0 a1 a2 a3 a4 q1.2
def f_X12_tells (N : Nat) (a0 : Option Nat) (a1 : Int32) (a2 : Int32) (a3 : Int32) (a4 : Int32) (μ : Mem) : Option (Unit × Mem) :=
  (mfR μ a0 12 2).bind fun v1 =>
  (f_X12_find N 12 v1 a1 a2 μ).bind fun q2 =>
  if ¬ q2.1 = (((-1)) : Int32) then
    f_X12_tells_30 N a0 a1 a2 a3 a4 q2.2
  else
    (mfR q2.2 a0 12 2).bind fun v3 =>
    (f_X12_find N 13 v3 a1 a2 q2.2).bind fun q4 =>
    if q4.1 = (((-1)) : Int32) then
      f_X12_tells_36 N a0 a1 a2 a3 a4 q4.2
    else
      f_X12_tells_30 N a0 a1 a2 a3 a4 q4.2
set_option maxRecDepth 100000 in
set_option maxHeartbeats 4000000 in
theorem p_X12_tells_202 {x : CX} {l : Launch} {g : CG} {rv : Unit} {μ0 μ9 : Mem} (C : Cx x l g mi_X12_tells) (F : Prom x g mi_X12_tells μ0 none μ9) {N : Nat} {μ : Mem} (h : f_X12_tells_202 N μ = some (rv, μ9)) : V x g 7 0 0 μ 202 [] [] := by
  unfold f_X12_tells_202 at h
  exact v_vret C F ⟨rfl, rfl, Nat.le_refl _⟩ dX12_tells_202 h
set_option maxRecDepth 100000 in
set_option maxHeartbeats 4000000 in
theorem p_X12_tells_185 {x : CX} {l : Launch} {g : CG} {rv : Unit} {μ0 μ9 : Mem} (C : Cx x l g mi_X12_tells) (F : Prom x g mi_X12_tells μ0 none μ9) {N : Nat} {a0 : Option Nat} {a3 : Int32} {a5 : Int32} {μ : Mem} (h : f_X12_tells_185 N a0 a3 a5 μ = some (rv, μ9)) : V x g 7 0 0 μ 185 [(0, aR a0), (3, aI a3), (5, aI a5)] [] := by
  unfold f_X12_tells_185 at h
  refine v_iload_n C dX12_tells_185 rfl ?_
  refine v_iconst (v := -1) C dX12_tells_186 rfl ?_
  refine v_icmp_eq (tgt := 202) C dX12_tells_187 (by decide) (fun c => ?_) (fun c => ?_)
  · replace h := ifT h c
    exact v_sb (p_X12_tells_202 C F h) trivial
  · replace h := ifF h c
    refine v_aload_n C dX12_tells_190 rfl ?_
    obtain ⟨v, e, h⟩ := ob h
    refine v_getR C dX12_tells_191 gf_X12_120 e ?_
    refine v_iload C dX12_tells_194 rfl ?_
    refine v_iload_n C dX12_tells_196 rfl ?_
    refine v_sipush (v := 4095) C dX12_tells_197 rfl ?_
    refine v_iand C dX12_tells_200 ?_
    obtain ⟨m, e, h⟩ := ob h
    refine v_iastore C dX12_tells_201 e ?_
    exact v_sb (p_X12_tells_202 C F h) trivial
set_option maxRecDepth 100000 in
set_option maxHeartbeats 4000000 in
theorem pH_X12_tells_142 {x : CX} {l : Launch} {g : CG} {rv : Unit} {μ0 μ9 : Mem} (C : Cx x l g mi_X12_tells) (F : Prom x g mi_X12_tells μ0 none μ9) {N : Nat} {k142 : (Option Nat) → Int32 → Int32 → Int32 → Int32 → Int32 → Int32 → Mem → Option (Unit × Mem)} (hk142 : ∀ (a0 : Option Nat) (a1 : Int32) (a2 : Int32) (a3 : Int32) (a4 : Int32) (a5 : Int32) (a6 : Int32) (μ : Mem), k142 a0 a1 a2 a3 a4 a5 a6 μ = some (rv, μ9) → V x g 7 0 0 μ 142 [(0, aR a0), (1, aI a1), (2, aI a2), (3, aI a3), (4, aI a4), (5, aI a5), (6, aI a6)] []) {a0 : Option Nat} {a1 : Int32} {a2 : Int32} {a3 : Int32} {a4 : Int32} {a5 : Int32} {a6 : Int32} {μ : Mem} (h : H_X12_tells_142 N k142 a0 a1 a2 a3 a4 a5 a6 μ = some (rv, μ9)) : V x g 7 0 0 μ 142 [(0, aR a0), (1, aI a1), (2, aI a2), (3, aI a3), (4, aI a4), (5, aI a5), (6, aI a6)] [] := by
  unfold H_X12_tells_142 at h
  refine v_iload C dX12_tells_142 rfl ?_
  refine v_iload_n C dX12_tells_144 rfl ?_
  refine v_icmp_ge (tgt := 176) C dX12_tells_145 (by decide) (fun c => ?_) (fun c => ?_)
  · replace h := ifT h c
    refine v_aload_n C dX12_tells_176 rfl ?_
    obtain ⟨v, e, h⟩ := ob h
    refine v_getR C dX12_tells_177 gf_X12_116 e ?_
    refine v_iload C dX12_tells_180 rfl ?_
    refine v_iload C dX12_tells_182 rfl ?_
    obtain ⟨m, e, h⟩ := ob h
    refine v_bastore C dX12_tells_184 e ?_
    exact v_sb (p_X12_tells_185 C F h) ⟨rfl, rfl, rfl, trivial⟩
  · replace h := ifF h c
    refine v_aload_n C dX12_tells_148 rfl ?_
    obtain ⟨v, e, h⟩ := ob h
    refine v_getR C dX12_tells_149 gf_X12_98 e ?_
    refine v_bipush (v := 7) C dX12_tells_152 rfl ?_
    refine v_iload C dX12_tells_154 rfl ?_
    refine v_imul C dX12_tells_156 ?_
    refine v_iload C dX12_tells_157 rfl ?_
    refine v_iadd C dX12_tells_159 ?_
    refine v_aload_n C dX12_tells_160 rfl ?_
    obtain ⟨v, e, h⟩ := ob h
    refine v_getR C dX12_tells_161 gf_X12_28 e ?_
    refine v_iload_n C dX12_tells_164 rfl ?_
    refine v_iload C dX12_tells_165 rfl ?_
    refine v_iadd C dX12_tells_167 ?_
    obtain ⟨v, e, h⟩ := ob h
    refine v_iaload C dX12_tells_168 e ?_
    obtain ⟨m, e, h⟩ := ob h
    refine v_iastore C dX12_tells_169 e ?_
    refine v_iinc (w := 1) C dX12_tells_170 rfl rfl (by decide) ?_
    refine v_goto (tgt := 142) C dX12_tells_173 (by decide) ?_
    exact v_sb (hk142 _ _ _ _ _ _ _ _ h) ⟨rfl, rfl, rfl, rfl, rfl, rfl, rfl, trivial⟩
set_option maxRecDepth 100000 in
set_option maxHeartbeats 4000000 in
theorem pL_X12_tells_142 {x : CX} {l : Launch} {g : CG} {rv : Unit} {μ0 μ9 : Mem} (C : Cx x l g mi_X12_tells) (F : Prom x g mi_X12_tells μ0 none μ9) (N : Nat) (n : Nat) : ∀ (a0 : Option Nat) (a1 : Int32) (a2 : Int32) (a3 : Int32) (a4 : Int32) (a5 : Int32) (a6 : Int32) (μ : Mem), L_X12_tells_142 N n a0 a1 a2 a3 a4 a5 a6 μ = some (rv, μ9) → V x g 7 0 0 μ 142 [(0, aR a0), (1, aI a1), (2, aI a2), (3, aI a3), (4, aI a4), (5, aI a5), (6, aI a6)] [] := by
  induction n with
  | zero => intro a0 a1 a2 a3 a4 a5 a6 μ h; cases h
  | succ n ih => intro a0 a1 a2 a3 a4 a5 a6 μ h; exact pH_X12_tells_142 C F ih h
set_option maxRecDepth 100000 in
set_option maxHeartbeats 4000000 in
theorem p_X12_tells_101 {x : CX} {l : Launch} {g : CG} {rv : Unit} {μ0 μ9 : Mem} (C : Cx x l g mi_X12_tells) (F : Prom x g mi_X12_tells μ0 none μ9) {N : Nat} {a0 : Option Nat} {a1 : Int32} {a2 : Int32} {a3 : Int32} {a4 : Int32} {a5 : Int32} {μ : Mem} (h : f_X12_tells_101 N a0 a1 a2 a3 a4 a5 μ = some (rv, μ9)) : V x g 7 0 0 μ 101 [(0, aR a0), (1, aI a1), (2, aI a2), (3, aI a3), (4, aI a4), (5, aI a5)] [] := by
  unfold f_X12_tells_101 at h
  refine v_aload_n C dX12_tells_101 rfl ?_
  obtain ⟨v, e, h⟩ := ob h
  refine v_getI C dX12_tells_102 gf_X12_19 e ?_
  refine v_if_le (tgt := 109) C dX12_tells_105 (by decide) (fun c => ?_) (fun c => ?_)
  · replace h := ifT h c
    refine v_iload C dX12_tells_109 rfl ?_
    refine v_iconst (v := -1) C dX12_tells_111 rfl ?_
    refine v_icmp_ne (tgt := 185) C dX12_tells_112 (by decide) (fun c => ?_) (fun c => ?_)
    · replace h := ifT h c
      exact v_sb (p_X12_tells_185 C F h) ⟨rfl, rfl, rfl, trivial⟩
    · replace h := ifF h c
      refine v_aload_n C dX12_tells_115 rfl ?_
      obtain ⟨v, e, h⟩ := ob h
      refine v_getI C dX12_tells_116 gf_X12_92 e ?_
      refine v_istore C dX12_tells_119 (by decide) ?_
      refine v_aload_n C dX12_tells_121 rfl ?_
      refine v_dup C dX12_tells_122 rfl ?_
      obtain ⟨v, e, h⟩ := ob h
      refine v_getI C dX12_tells_123 gf_X12_92 e ?_
      refine v_iconst (v := 1) C dX12_tells_126 rfl ?_
      refine v_iadd C dX12_tells_127 ?_
      obtain ⟨m, e, h⟩ := ob h
      refine v_putI C dX12_tells_128 (pf_X12_92 _) e ?_
      refine v_aload_n C dX12_tells_131 rfl ?_
      obtain ⟨v, e, h⟩ := ob h
      refine v_getR C dX12_tells_132 gf_X12_95 e ?_
      refine v_iload C dX12_tells_135 rfl ?_
      refine v_iload_n C dX12_tells_137 rfl ?_
      obtain ⟨m, e, h⟩ := ob h
      refine v_iastore C dX12_tells_138 e ?_
      refine v_iconst (v := 0) C dX12_tells_139 rfl ?_
      refine v_istore C dX12_tells_140 (by decide) ?_
      exact v_sb (pL_X12_tells_142 C F N N _ _ _ _ _ _ _ _ h) ⟨rfl, rfl, rfl, rfl, rfl, rfl, rfl, trivial⟩
  · replace h := ifF h c
    exact v_vret C F ⟨rfl, rfl, Nat.le_refl _⟩ dX12_tells_108 h
set_option maxRecDepth 100000 in
set_option maxHeartbeats 4000000 in
theorem p_X12_tells_78 {x : CX} {l : Launch} {g : CG} {rv : Unit} {μ0 μ9 : Mem} (C : Cx x l g mi_X12_tells) (F : Prom x g mi_X12_tells μ0 none μ9) {N : Nat} {a0 : Option Nat} {a1 : Int32} {a2 : Int32} {a3 : Int32} {a4 : Int32} {a5 : Int32} {μ : Mem} (h : f_X12_tells_78 N a0 a1 a2 a3 a4 a5 μ = some (rv, μ9)) : V x g 7 0 0 μ 78 [(0, aR a0), (1, aI a1), (2, aI a2), (3, aI a3), (4, aI a4), (5, aI a5)] [] := by
  unfold f_X12_tells_78 at h
  refine v_iload C dX12_tells_78 rfl ?_
  refine v_iconst (v := -1) C dX12_tells_80 rfl ?_
  refine v_icmp_ne (tgt := 101) C dX12_tells_81 (by decide) (fun c => ?_) (fun c => ?_)
  · replace h := ifT h c
    exact v_sb (p_X12_tells_101 C F h) ⟨rfl, rfl, rfl, rfl, rfl, rfl, trivial⟩
  · replace h := ifF h c
    refine v_aload_n C dX12_tells_84 rfl ?_
    obtain ⟨v, e, h⟩ := ob h
    refine v_getI C dX12_tells_85 gf_X12_92 e ?_
    refine v_sipush (v := 200) C dX12_tells_88 rfl ?_
    refine v_icmp_ne (tgt := 101) C dX12_tells_91 (by decide) (fun c => ?_) (fun c => ?_)
    · replace h := ifT h c
      exact v_sb (p_X12_tells_101 C F h) ⟨rfl, rfl, rfl, rfl, rfl, rfl, trivial⟩
    · replace h := ifF h c
      refine v_aload_n C dX12_tells_94 rfl ?_
      refine v_bipush (v := 6) C dX12_tells_95 rfl ?_
      refine v_iload_n C dX12_tells_97 rfl ?_
      obtain ⟨b, e0, h⟩ := ob h
      obtain ⟨q, e, h⟩ := ob h
      refine v_callV (As := [_, _]) C dX12_tells_98 cf_X12_57 (rm_X12_tells_X12_fails) ⟨rfl, rfl⟩ e0 rfl (Nat.le_of_ble_eq_true rfl) (c_X12_fails _ _ N _ _ _ _ q.1 q.2 e) ?_
      exact v_sb (p_X12_tells_101 C F h) ⟨rfl, rfl, rfl, rfl, rfl, rfl, trivial⟩
set_option maxRecDepth 100000 in
set_option maxHeartbeats 4000000 in
theorem p_X12_tells_72 {x : CX} {l : Launch} {g : CG} {rv : Unit} {μ0 μ9 : Mem} (C : Cx x l g mi_X12_tells) (F : Prom x g mi_X12_tells μ0 none μ9) {N : Nat} {a0 : Option Nat} {a1 : Int32} {a2 : Int32} {a3 : Int32} {a4 : Int32} {a5 : Int32} {μ : Mem} (h : f_X12_tells_72 N a0 a1 a2 a3 a4 a5 μ = some (rv, μ9)) : V x g 7 0 0 μ 72 [(0, aR a0), (1, aI a1), (2, aI a2), (3, aI a3), (4, aI a4), (5, aI a5)] [] := by
  unfold f_X12_tells_72 at h
  refine v_aload_n C dX12_tells_72 rfl ?_
  refine v_iconst (v := 4) C dX12_tells_73 rfl ?_
  refine v_iload_n C dX12_tells_74 rfl ?_
  obtain ⟨b, e0, h⟩ := ob h
  obtain ⟨q, e, h⟩ := ob h
  refine v_callV (As := [_, _]) C dX12_tells_75 cf_X12_57 (rm_X12_tells_X12_fails) ⟨rfl, rfl⟩ e0 rfl (Nat.le_of_ble_eq_true rfl) (c_X12_fails _ _ N _ _ _ _ q.1 q.2 e) ?_
  exact v_sb (p_X12_tells_78 C F h) ⟨rfl, rfl, rfl, rfl, rfl, rfl, trivial⟩
set_option maxRecDepth 100000 in
set_option maxHeartbeats 4000000 in
theorem p_X12_tells_36 {x : CX} {l : Launch} {g : CG} {rv : Unit} {μ0 μ9 : Mem} (C : Cx x l g mi_X12_tells) (F : Prom x g mi_X12_tells μ0 none μ9) {N : Nat} {a0 : Option Nat} {a1 : Int32} {a2 : Int32} {a3 : Int32} {a4 : Int32} {μ : Mem} (h : f_X12_tells_36 N a0 a1 a2 a3 a4 μ = some (rv, μ9)) : V x g 7 0 0 μ 36 [(0, aR a0), (1, aI a1), (2, aI a2), (3, aI a3), (4, aI a4)] [] := by
  unfold f_X12_tells_36 at h
  refine v_aload_n C dX12_tells_36 rfl ?_
  refine v_iload_n C dX12_tells_37 rfl ?_
  refine v_iload_n C dX12_tells_38 rfl ?_
  obtain ⟨b, e0, h⟩ := ob h
  obtain ⟨q, e, h⟩ := ob h
  refine v_callV (As := [_, _]) C dX12_tells_39 cf_X12_109 (rm_X12_tells_X12_findTold) ⟨rfl, rfl⟩ e0 rfl (Nat.le_of_ble_eq_true rfl) (c_X12_findTold _ _ N _ _ _ _ q.1 q.2 e) ?_
  refine v_istore C dX12_tells_42 (by decide) ?_
  refine v_aload_n C dX12_tells_44 rfl ?_
  obtain ⟨v, e, h⟩ := ob h
  refine v_getI C dX12_tells_45 gf_X12_112 e ?_
  refine v_if_ne (tgt := 78) C dX12_tells_48 (by decide) (fun c => ?_) (fun c => ?_)
  · replace h := ifT h c
    exact v_sb (p_X12_tells_78 C F h) ⟨rfl, rfl, rfl, rfl, rfl, rfl, trivial⟩
  · replace h := ifF h c
    refine v_iload C dX12_tells_51 rfl ?_
    refine v_iconst (v := -1) C dX12_tells_53 rfl ?_
    refine v_icmp_eq (tgt := 78) C dX12_tells_54 (by decide) (fun c => ?_) (fun c => ?_)
    · replace h := ifT h c
      exact v_sb (p_X12_tells_78 C F h) ⟨rfl, rfl, rfl, rfl, rfl, rfl, trivial⟩
    · replace h := ifF h c
      refine v_iload C dX12_tells_57 rfl ?_
      refine v_if_ne (tgt := 72) C dX12_tells_59 (by decide) (fun c => ?_) (fun c => ?_)
      · replace h := ifT h c
        exact v_sb (p_X12_tells_72 C F h) ⟨rfl, rfl, rfl, rfl, rfl, rfl, trivial⟩
      · replace h := ifF h c
        refine v_aload_n C dX12_tells_62 rfl ?_
        obtain ⟨v, e, h⟩ := ob h
        refine v_getR C dX12_tells_63 gf_X12_116 e ?_
        refine v_iload C dX12_tells_66 rfl ?_
        obtain ⟨v, e, h⟩ := ob h
        refine v_baload C dX12_tells_68 e ?_
        refine v_if_eq (tgt := 78) C dX12_tells_69 (by decide) (fun c => ?_) (fun c => ?_)
        · replace h := ifT h c
          exact v_sb (p_X12_tells_78 C F h) ⟨rfl, rfl, rfl, rfl, rfl, rfl, trivial⟩
        · replace h := ifF h c
          exact v_sb (p_X12_tells_72 C F h) ⟨rfl, rfl, rfl, rfl, rfl, rfl, trivial⟩
set_option maxRecDepth 100000 in
set_option maxHeartbeats 4000000 in
theorem p_X12_tells_30 {x : CX} {l : Launch} {g : CG} {rv : Unit} {μ0 μ9 : Mem} (C : Cx x l g mi_X12_tells) (F : Prom x g mi_X12_tells μ0 none μ9) {N : Nat} {a0 : Option Nat} {a1 : Int32} {a2 : Int32} {a3 : Int32} {a4 : Int32} {μ : Mem} (h : f_X12_tells_30 N a0 a1 a2 a3 a4 μ = some (rv, μ9)) : V x g 7 0 0 μ 30 [(0, aR a0), (1, aI a1), (2, aI a2), (3, aI a3), (4, aI a4)] [] := by
  unfold f_X12_tells_30 at h
  refine v_aload_n C dX12_tells_30 rfl ?_
  refine v_iconst (v := 5) C dX12_tells_31 rfl ?_
  refine v_iload_n C dX12_tells_32 rfl ?_
  obtain ⟨b, e0, h⟩ := ob h
  obtain ⟨q, e, h⟩ := ob h
  refine v_callV (As := [_, _]) C dX12_tells_33 cf_X12_57 (rm_X12_tells_X12_fails) ⟨rfl, rfl⟩ e0 rfl (Nat.le_of_ble_eq_true rfl) (c_X12_fails _ _ N _ _ _ _ q.1 q.2 e) ?_
  exact v_sb (p_X12_tells_36 C F h) ⟨rfl, rfl, rfl, rfl, rfl, trivial⟩
set_option maxRecDepth 100000 in
set_option maxHeartbeats 4000000 in
theorem p_X12_tells {x : CX} {l : Launch} {g : CG} {rv : Unit} {μ0 μ9 : Mem} (C : Cx x l g mi_X12_tells) (F : Prom x g mi_X12_tells μ0 none μ9) {N : Nat} {a0 : Option Nat} {a1 : Int32} {a2 : Int32} {a3 : Int32} {a4 : Int32} {μ : Mem} (h : f_X12_tells N a0 a1 a2 a3 a4 μ = some (rv, μ9)) : V x g 7 0 0 μ 0 [(0, aR a0), (1, aI a1), (2, aI a2), (3, aI a3), (4, aI a4)] [] := by
  unfold f_X12_tells at h
  refine v_ldcX C dX12_tells_0 (Cex C).2.2.2.2.2.2.2.2.2.2.2.1 ?_
  refine v_aload_n C dX12_tells_2 rfl ?_
  obtain ⟨v, e, h⟩ := ob h
  refine v_getR C dX12_tells_3 gf_X12_28 e ?_
  refine v_iload_n C dX12_tells_6 rfl ?_
  refine v_iload_n C dX12_tells_7 rfl ?_
  obtain ⟨q, e, h⟩ := ob h
  refine v_callS (As := [_, _, _, _]) C dX12_tells_8 cf_X12_103 (rm_X12_tells_X12_find) ⟨rfl, rfl⟩ rfl (Nat.le_of_ble_eq_true rfl) (c_X12_find _ _ N _ _ _ _ _ q.1 q.2 e) ?_
  refine v_iconst (v := -1) C dX12_tells_11 rfl ?_
  refine v_icmp_ne (tgt := 30) C dX12_tells_12 (by decide) (fun c => ?_) (fun c => ?_)
  · replace h := ifT h c
    exact v_sb (p_X12_tells_30 C F h) ⟨rfl, rfl, rfl, rfl, rfl, trivial⟩
  · replace h := ifF h c
    refine v_ldcX C dX12_tells_15 (Cex C).2.2.2.2.2.2.2.2.2.2.2.2 ?_
    refine v_aload_n C dX12_tells_17 rfl ?_
    obtain ⟨v, e, h⟩ := ob h
    refine v_getR C dX12_tells_18 gf_X12_28 e ?_
    refine v_iload_n C dX12_tells_21 rfl ?_
    refine v_iload_n C dX12_tells_22 rfl ?_
    obtain ⟨q, e, h⟩ := ob h
    refine v_callS (As := [_, _, _, _]) C dX12_tells_23 cf_X12_103 (rm_X12_tells_X12_find) ⟨rfl, rfl⟩ rfl (Nat.le_of_ble_eq_true rfl) (c_X12_find _ _ N _ _ _ _ _ q.1 q.2 e) ?_
    refine v_iconst (v := -1) C dX12_tells_26 rfl ?_
    refine v_icmp_eq (tgt := 36) C dX12_tells_27 (by decide) (fun c => ?_) (fun c => ?_)
    · replace h := ifT h c
      exact v_sb (p_X12_tells_36 C F h) ⟨rfl, rfl, rfl, rfl, rfl, trivial⟩
    · replace h := ifF h c
      exact v_sb (p_X12_tells_30 C F h) ⟨rfl, rfl, rfl, rfl, rfl, trivial⟩
set_option maxRecDepth 100000 in
set_option maxHeartbeats 4000000 in
theorem c_X12_tells (l : Launch) (g : CG) (N : Nat) (a0 : Option Nat) (a1 : Int32) (a2 : Int32) (a3 : Int32) (a4 : Int32) (μ : Mem) (rv : Unit) (μ9 : Mem) (h : f_X12_tells N a0 a1 a2 a3 a4 μ = some (rv, μ9)) : Ct l yX12_tells mi_X12_tells g [aR a0, aI a1, aI a2, aI a3, aI a4] μ none μ9 := ct_of ⟨by decide, rfl, rfl⟩ (Nat.le_of_ble_eq_true rfl) fun x C F => p_X12_tells C F h
def f_X12_labels_63 (N : Nat) (a0 : Option Nat) (μ : Mem) : Option (Unit × Mem) :=
  (mfI μ a0 12 13).bind fun v1 =>
  (mpI μ a0 12 27 v1).bind fun μ2 =>
  some ((), μ2)
def f_X12_labels_60 (N : Nat) (k0 : (Option Nat) → Mem → Option (Unit × Mem)) (a0 : Option Nat) (μ : Mem) : Option (Unit × Mem) :=
  k0 a0 μ
def H_X12_labels_0 (N : Nat) (k0 : (Option Nat) → Mem → Option (Unit × Mem)) (a0 : Option Nat) (μ : Mem) : Option (Unit × Mem) :=
  (mfI μ a0 12 5).bind fun v1 =>
  if ¬ v1 = 0 then
    f_X12_labels_63 N a0 μ
  else
    (mfI μ a0 12 12).bind fun v2 =>
    if ¬ v2 = (1 : Int32) then
      f_X12_labels_63 N a0 μ
    else
      (mck μ a0 12).bind fun b4 =>
      (f_X12_isNext N (some b4) 44 μ).bind fun q3 =>
      if q3.1 = 0 then
        f_X12_labels_63 N a0 q3.2
      else
        (mfI q3.2 a0 12 13).bind fun v5 =>
        (mfI q3.2 a0 12 15).bind fun v6 =>
        (mck q3.2 a0 12).bind fun b8 =>
        (f_X12_take N (some b8) q3.2).bind fun q7 =>
        (mfI q7.2 a0 12 11).bind fun v9 =>
        (mck q7.2 a0 12).bind fun b11 =>
        (f_X12_tells N (some b11) v5 v6 v9 1 q7.2).bind fun q10 =>
        (mfI q10.2 a0 12 5).bind fun v12 =>
        if ¬ v12 = 0 then
          f_X12_labels_60 N k0 a0 q10.2
        else
          (mck q10.2 a0 12).bind fun b14 =>
          (f_X12_take N (some b14) q10.2).bind fun q13 =>
          f_X12_labels_60 N k0 a0 q13.2
def L_X12_labels_0 (N : Nat) : Nat → (Option Nat) → Mem → Option (Unit × Mem)
  | 0 => fun _ _ => none
  | n + 1 => H_X12_labels_0 N (L_X12_labels_0 N n)
def f_X12_labels (N : Nat) (a0 : Option Nat) (μ : Mem) : Option (Unit × Mem) :=
  L_X12_labels_0 N N a0 μ
set_option maxRecDepth 100000 in
set_option maxHeartbeats 4000000 in
theorem p_X12_labels_63 {x : CX} {l : Launch} {g : CG} {rv : Unit} {μ0 μ9 : Mem} (C : Cx x l g mi_X12_labels) (F : Prom x g mi_X12_labels μ0 none μ9) {N : Nat} {a0 : Option Nat} {μ : Mem} (h : f_X12_labels_63 N a0 μ = some (rv, μ9)) : V x g 3 0 0 μ 63 [(0, aR a0)] [] := by
  unfold f_X12_labels_63 at h
  refine v_aload_n C dX12_labels_63 rfl ?_
  refine v_aload_n C dX12_labels_64 rfl ?_
  obtain ⟨v, e, h⟩ := ob h
  refine v_getI C dX12_labels_65 gf_X12_34 e ?_
  obtain ⟨m, e, h⟩ := ob h
  refine v_putI C dX12_labels_68 (pf_X12_166 _) e ?_
  exact v_vret C F ⟨rfl, rfl, Nat.le_refl _⟩ dX12_labels_71 h
set_option maxRecDepth 100000 in
set_option maxHeartbeats 4000000 in
theorem p_X12_labels_60 {x : CX} {l : Launch} {g : CG} {rv : Unit} {μ0 μ9 : Mem} (C : Cx x l g mi_X12_labels) (F : Prom x g mi_X12_labels μ0 none μ9) {N : Nat} {k0 : (Option Nat) → Mem → Option (Unit × Mem)} (hk0 : ∀ (a0 : Option Nat) (μ : Mem), k0 a0 μ = some (rv, μ9) → V x g 3 0 0 μ 0 [(0, aR a0)] []) {a0 : Option Nat} {μ : Mem} (h : f_X12_labels_60 N k0 a0 μ = some (rv, μ9)) : V x g 3 0 0 μ 60 [(0, aR a0)] [] := by
  unfold f_X12_labels_60 at h
  refine v_goto (tgt := 0) C dX12_labels_60 (by decide) ?_
  exact v_sb (hk0 _ _ h) ⟨rfl, trivial⟩
set_option maxRecDepth 100000 in
set_option maxHeartbeats 4000000 in
theorem pH_X12_labels_0 {x : CX} {l : Launch} {g : CG} {rv : Unit} {μ0 μ9 : Mem} (C : Cx x l g mi_X12_labels) (F : Prom x g mi_X12_labels μ0 none μ9) {N : Nat} {k0 : (Option Nat) → Mem → Option (Unit × Mem)} (hk0 : ∀ (a0 : Option Nat) (μ : Mem), k0 a0 μ = some (rv, μ9) → V x g 3 0 0 μ 0 [(0, aR a0)] []) {a0 : Option Nat} {μ : Mem} (h : H_X12_labels_0 N k0 a0 μ = some (rv, μ9)) : V x g 3 0 0 μ 0 [(0, aR a0)] [] := by
  unfold H_X12_labels_0 at h
  refine v_aload_n C dX12_labels_0 rfl ?_
  obtain ⟨v, e, h⟩ := ob h
  refine v_getI C dX12_labels_1 gf_X12_19 e ?_
  refine v_if_ne (tgt := 63) C dX12_labels_4 (by decide) (fun c => ?_) (fun c => ?_)
  · replace h := ifT h c
    exact v_sb (p_X12_labels_63 C F h) ⟨rfl, trivial⟩
  · replace h := ifF h c
    refine v_aload_n C dX12_labels_7 rfl ?_
    obtain ⟨v, e, h⟩ := ob h
    refine v_getI C dX12_labels_8 gf_X12_37 e ?_
    refine v_iconst (v := 1) C dX12_labels_11 rfl ?_
    refine v_icmp_ne (tgt := 63) C dX12_labels_12 (by decide) (fun c => ?_) (fun c => ?_)
    · replace h := ifT h c
      exact v_sb (p_X12_labels_63 C F h) ⟨rfl, trivial⟩
    · replace h := ifF h c
      refine v_aload_n C dX12_labels_15 rfl ?_
      refine v_bipush (v := 44) C dX12_labels_16 rfl ?_
      obtain ⟨b, e0, h⟩ := ob h
      obtain ⟨q, e, h⟩ := ob h
      refine v_callV (As := [_]) C dX12_labels_18 cf_X12_159 (rm_X12_labels_X12_isNext) ⟨rfl, rfl⟩ e0 rfl (Nat.le_of_ble_eq_true rfl) (c_X12_isNext _ _ N _ _ _ q.1 q.2 e) ?_
      refine v_if_eq (tgt := 63) C dX12_labels_21 (by decide) (fun c => ?_) (fun c => ?_)
      · replace h := ifT h c
        exact v_sb (p_X12_labels_63 C F h) ⟨rfl, trivial⟩
      · replace h := ifF h c
        refine v_aload_n C dX12_labels_24 rfl ?_
        obtain ⟨v, e, h⟩ := ob h
        refine v_getI C dX12_labels_25 gf_X12_34 e ?_
        refine v_istore_n C dX12_labels_28 (by decide) ?_
        refine v_aload_n C dX12_labels_29 rfl ?_
        obtain ⟨v, e, h⟩ := ob h
        refine v_getI C dX12_labels_30 gf_X12_54 e ?_
        refine v_istore_n C dX12_labels_33 (by decide) ?_
        refine v_aload_n C dX12_labels_34 rfl ?_
        obtain ⟨b, e0, h⟩ := ob h
        obtain ⟨q, e, h⟩ := ob h
        refine v_callV (As := []) C dX12_labels_35 cf_X12_126 (rm_X12_labels_X12_take) ⟨rfl, rfl⟩ e0 rfl (Nat.le_of_ble_eq_true rfl) (c_X12_take _ _ N _ _ q.1 q.2 e) ?_
        refine v_aload_n C dX12_labels_38 rfl ?_
        refine v_iload_n C dX12_labels_39 rfl ?_
        refine v_iload_n C dX12_labels_40 rfl ?_
        refine v_aload_n C dX12_labels_41 rfl ?_
        obtain ⟨v, e, h⟩ := ob h
        refine v_getI C dX12_labels_42 gf_X12_129 e ?_
        refine v_iconst (v := 1) C dX12_labels_45 rfl ?_
        obtain ⟨b, e0, h⟩ := ob h
        obtain ⟨q, e, h⟩ := ob h
        refine v_callV (As := [_, _, _, _]) C dX12_labels_46 cf_X12_162 (rm_X12_labels_X12_tells) ⟨rfl, rfl⟩ e0 rfl (Nat.le_of_ble_eq_true rfl) (c_X12_tells _ _ N _ _ _ _ _ _ q.1 q.2 e) ?_
        refine v_aload_n C dX12_labels_49 rfl ?_
        obtain ⟨v, e, h⟩ := ob h
        refine v_getI C dX12_labels_50 gf_X12_19 e ?_
        refine v_if_ne (tgt := 60) C dX12_labels_53 (by decide) (fun c => ?_) (fun c => ?_)
        · replace h := ifT h c
          exact v_sb (p_X12_labels_60 C F hk0 h) ⟨rfl, trivial⟩
        · replace h := ifF h c
          refine v_aload_n C dX12_labels_56 rfl ?_
          obtain ⟨b, e0, h⟩ := ob h
          obtain ⟨q, e, h⟩ := ob h
          refine v_callV (As := []) C dX12_labels_57 cf_X12_126 (rm_X12_labels_X12_take) ⟨rfl, rfl⟩ e0 rfl (Nat.le_of_ble_eq_true rfl) (c_X12_take _ _ N _ _ q.1 q.2 e) ?_
          exact v_sb (p_X12_labels_60 C F hk0 h) ⟨rfl, trivial⟩
set_option maxRecDepth 100000 in
set_option maxHeartbeats 4000000 in
theorem pL_X12_labels_0 {x : CX} {l : Launch} {g : CG} {rv : Unit} {μ0 μ9 : Mem} (C : Cx x l g mi_X12_labels) (F : Prom x g mi_X12_labels μ0 none μ9) (N : Nat) (n : Nat) : ∀ (a0 : Option Nat) (μ : Mem), L_X12_labels_0 N n a0 μ = some (rv, μ9) → V x g 3 0 0 μ 0 [(0, aR a0)] [] := by
  induction n with
  | zero => intro a0 μ h; cases h
  | succ n ih => intro a0 μ h; exact pH_X12_labels_0 C F ih h
set_option maxRecDepth 100000 in
set_option maxHeartbeats 4000000 in
theorem p_X12_labels {x : CX} {l : Launch} {g : CG} {rv : Unit} {μ0 μ9 : Mem} (C : Cx x l g mi_X12_labels) (F : Prom x g mi_X12_labels μ0 none μ9) {N : Nat} {a0 : Option Nat} {μ : Mem} (h : f_X12_labels N a0 μ = some (rv, μ9)) : V x g 3 0 0 μ 0 [(0, aR a0)] [] := by
  unfold f_X12_labels at h
  exact v_sb (pL_X12_labels_0 C F N N _ _ h) ⟨rfl, trivial⟩
set_option maxRecDepth 100000 in
set_option maxHeartbeats 4000000 in
theorem c_X12_labels (l : Launch) (g : CG) (N : Nat) (a0 : Option Nat) (μ : Mem) (rv : Unit) (μ9 : Mem) (h : f_X12_labels N a0 μ = some (rv, μ9)) : Ct l yX12_labels mi_X12_labels g [aR a0] μ none μ9 := ct_of ⟨by decide, rfl, rfl⟩ (Nat.le_of_ble_eq_true rfl) fun x C F => p_X12_labels C F h
def f_X12_isSign_28 (N : Nat) (s0 : Int32) (μ : Mem) : Option (Int32 × Mem) :=
  retZ s0 μ
def f_X12_isSign_27 (N : Nat) (μ : Mem) : Option (Int32 × Mem) :=
  f_X12_isSign_28 N 0 μ
def f_X12_isSign (N : Nat) (a0 : Option Nat) (a1 : Int32) (μ : Mem) : Option (Int32 × Mem) :=
  (mfI μ a0 12 5).bind fun v1 =>
  if ¬ v1 = 0 then
    f_X12_isSign_27 N μ
  else
    (mfI μ a0 12 12).bind fun v2 =>
    if ¬ v2 = (4 : Int32) then
      f_X12_isSign_27 N μ
    else
      (mfI μ a0 12 14).bind fun v3 =>
      if ¬ v3 = a1 then
        f_X12_isSign_27 N μ
      else
        f_X12_isSign_28 N 1 μ
set_option maxRecDepth 100000 in
set_option maxHeartbeats 4000000 in
theorem p_X12_isSign_28 {x : CX} {l : Launch} {g : CG} {rv : Int32} {μ0 μ9 : Mem} (C : Cx x l g mi_X12_isSign) (F : Prom x g mi_X12_isSign μ0 (some (aI rv)) μ9) {N : Nat} {s0 : Int32} {μ : Mem} (h : f_X12_isSign_28 N s0 μ = some (rv, μ9)) : V x g 2 0 0 μ 28 [] [aI s0] := by
  unfold f_X12_isSign_28 at h
  exact v_zret C F ⟨rfl, rfl, Nat.le_refl _⟩ dX12_isSign_28 h
set_option maxRecDepth 100000 in
set_option maxHeartbeats 4000000 in
theorem p_X12_isSign_27 {x : CX} {l : Launch} {g : CG} {rv : Int32} {μ0 μ9 : Mem} (C : Cx x l g mi_X12_isSign) (F : Prom x g mi_X12_isSign μ0 (some (aI rv)) μ9) {N : Nat} {μ : Mem} (h : f_X12_isSign_27 N μ = some (rv, μ9)) : V x g 2 0 0 μ 27 [] [] := by
  unfold f_X12_isSign_27 at h
  refine v_iconst (v := 0) C dX12_isSign_27 rfl ?_
  exact v_sb (p_X12_isSign_28 C F h) trivial
set_option maxRecDepth 100000 in
set_option maxHeartbeats 4000000 in
theorem p_X12_isSign {x : CX} {l : Launch} {g : CG} {rv : Int32} {μ0 μ9 : Mem} (C : Cx x l g mi_X12_isSign) (F : Prom x g mi_X12_isSign μ0 (some (aI rv)) μ9) {N : Nat} {a0 : Option Nat} {a1 : Int32} {μ : Mem} (h : f_X12_isSign N a0 a1 μ = some (rv, μ9)) : V x g 2 0 0 μ 0 [(0, aR a0), (1, aI a1)] [] := by
  unfold f_X12_isSign at h
  refine v_aload_n C dX12_isSign_0 rfl ?_
  obtain ⟨v, e, h⟩ := ob h
  refine v_getI C dX12_isSign_1 gf_X12_19 e ?_
  refine v_if_ne (tgt := 27) C dX12_isSign_4 (by decide) (fun c => ?_) (fun c => ?_)
  · replace h := ifT h c
    exact v_sb (p_X12_isSign_27 C F h) trivial
  · replace h := ifF h c
    refine v_aload_n C dX12_isSign_7 rfl ?_
    obtain ⟨v, e, h⟩ := ob h
    refine v_getI C dX12_isSign_8 gf_X12_37 e ?_
    refine v_iconst (v := 4) C dX12_isSign_11 rfl ?_
    refine v_icmp_ne (tgt := 27) C dX12_isSign_12 (by decide) (fun c => ?_) (fun c => ?_)
    · replace h := ifT h c
      exact v_sb (p_X12_isSign_27 C F h) trivial
    · replace h := ifF h c
      refine v_aload_n C dX12_isSign_15 rfl ?_
      obtain ⟨v, e, h⟩ := ob h
      refine v_getI C dX12_isSign_16 gf_X12_64 e ?_
      refine v_iload_n C dX12_isSign_19 rfl ?_
      refine v_icmp_ne (tgt := 27) C dX12_isSign_20 (by decide) (fun c => ?_) (fun c => ?_)
      · replace h := ifT h c
        exact v_sb (p_X12_isSign_27 C F h) trivial
      · replace h := ifF h c
        refine v_iconst (v := 1) C dX12_isSign_23 rfl ?_
        refine v_goto (tgt := 28) C dX12_isSign_24 (by decide) ?_
        exact v_sb (p_X12_isSign_28 C F h) trivial
set_option maxRecDepth 100000 in
set_option maxHeartbeats 4000000 in
theorem c_X12_isSign (l : Launch) (g : CG) (N : Nat) (a0 : Option Nat) (a1 : Int32) (μ : Mem) (rv : Int32) (μ9 : Mem) (h : f_X12_isSign N a0 a1 μ = some (rv, μ9)) : Ct l yX12_isSign mi_X12_isSign g [aR a0, aI a1] μ (some (aI rv)) μ9 := ct_of ⟨by decide, rfl, rfl⟩ (Nat.le_of_ble_eq_true rfl) fun x C F => p_X12_isSign C F h
def f_X12_named_90 (N : Nat) (s0 : Int32) (μ : Mem) : Option (Int32 × Mem) :=
  some (s0, μ)
def f_X12_named_75 (N : Nat) (a0 : Option Nat) (a2 : Int32) (μ : Mem) : Option (Int32 × Mem) :=
  if ¬ a2 = (((-1)) : Int32) then
    (mfR μ a0 12 19).bind fun v1 =>
    (maI μ 0 v1 a2).bind fun v2 =>
    f_X12_named_90 N v2 μ
  else
    f_X12_named_90 N 0 μ
def f_X12_named_66 (N : Nat) (a0 : Option Nat) (a2 : Int32) (μ : Mem) : Option (Int32 × Mem) :=
  (mfI μ a0 12 13).bind fun v1 =>
  (mck μ a0 12).bind fun b3 =>
  (f_X12_fails N (some b3) 3 v1 μ).bind fun q2 =>
  f_X12_named_75 N a0 a2 q2.2
def f_X12_named (N : Nat) (a0 : Option Nat) (μ : Mem) : Option (Int32 × Mem) :=
  (mfR μ a0 12 2).bind fun v1 =>
  (mfI μ a0 12 13).bind fun v2 =>
  (mfI μ a0 12 15).bind fun v3 =>
  (f_X12_find N 12 v1 v2 v3 μ).bind fun q4 =>
  (mpI q4.2 a0 12 30 q4.1).bind fun μ5 =>
  if q4.1 = (((-1)) : Int32) then
    (mfI μ5 a0 12 13).bind fun v6 =>
    (mfI μ5 a0 12 15).bind fun v7 =>
    (mck μ5 a0 12).bind fun b9 =>
    (f_X12_findTold N (some b9) v6 v7 μ5).bind fun q8 =>
    if ¬ q8.1 = (((-1)) : Int32) then
      f_X12_named_75 N a0 q8.1 q8.2
    else
      (mfI q8.2 a0 12 29).bind fun v10 =>
      if ¬ v10 = 0 then
        f_X12_named_66 N a0 q8.1 q8.2
      else
        (mfI q8.2 a0 12 9).bind fun v11 =>
        if v11 = 0 then
          f_X12_named_75 N a0 q8.1 q8.2
        else
          f_X12_named_66 N a0 q8.1 q8.2
  else
    (xI x_cd q4.1).bind fun v12 =>
    some (v12, μ5)
set_option maxRecDepth 100000 in
set_option maxHeartbeats 4000000 in
theorem p_X12_named_90 {x : CX} {l : Launch} {g : CG} {rv : Int32} {μ0 μ9 : Mem} (C : Cx x l g mi_X12_named) (F : Prom x g mi_X12_named μ0 (some (aI rv)) μ9) {N : Nat} {s0 : Int32} {μ : Mem} (h : f_X12_named_90 N s0 μ = some (rv, μ9)) : V x g 3 0 0 μ 90 [] [aI s0] := by
  unfold f_X12_named_90 at h
  exact v_iret C F ⟨rfl, rfl, Nat.le_refl _⟩ dX12_named_90 h
set_option maxRecDepth 100000 in
set_option maxHeartbeats 4000000 in
theorem p_X12_named_75 {x : CX} {l : Launch} {g : CG} {rv : Int32} {μ0 μ9 : Mem} (C : Cx x l g mi_X12_named) (F : Prom x g mi_X12_named μ0 (some (aI rv)) μ9) {N : Nat} {a0 : Option Nat} {a2 : Int32} {μ : Mem} (h : f_X12_named_75 N a0 a2 μ = some (rv, μ9)) : V x g 3 0 0 μ 75 [(0, aR a0), (2, aI a2)] [] := by
  unfold f_X12_named_75 at h
  refine v_iload_n C dX12_named_75 rfl ?_
  refine v_iconst (v := -1) C dX12_named_76 rfl ?_
  refine v_icmp_ne (tgt := 84) C dX12_named_77 (by decide) (fun c => ?_) (fun c => ?_)
  · replace h := ifT h c
    refine v_aload_n C dX12_named_84 rfl ?_
    obtain ⟨v, e, h⟩ := ob h
    refine v_getR C dX12_named_85 gf_X12_120 e ?_
    refine v_iload_n C dX12_named_88 rfl ?_
    obtain ⟨v, e, h⟩ := ob h
    refine v_iaload C dX12_named_89 e ?_
    exact v_sb (p_X12_named_90 C F h) trivial
  · replace h := ifF h c
    refine v_iconst (v := 0) C dX12_named_80 rfl ?_
    refine v_goto (tgt := 90) C dX12_named_81 (by decide) ?_
    exact v_sb (p_X12_named_90 C F h) trivial
set_option maxRecDepth 100000 in
set_option maxHeartbeats 4000000 in
theorem p_X12_named_66 {x : CX} {l : Launch} {g : CG} {rv : Int32} {μ0 μ9 : Mem} (C : Cx x l g mi_X12_named) (F : Prom x g mi_X12_named μ0 (some (aI rv)) μ9) {N : Nat} {a0 : Option Nat} {a2 : Int32} {μ : Mem} (h : f_X12_named_66 N a0 a2 μ = some (rv, μ9)) : V x g 3 0 0 μ 66 [(0, aR a0), (2, aI a2)] [] := by
  unfold f_X12_named_66 at h
  refine v_aload_n C dX12_named_66 rfl ?_
  refine v_iconst (v := 3) C dX12_named_67 rfl ?_
  refine v_aload_n C dX12_named_68 rfl ?_
  obtain ⟨v, e, h⟩ := ob h
  refine v_getI C dX12_named_69 gf_X12_34 e ?_
  obtain ⟨b, e0, h⟩ := ob h
  obtain ⟨q, e, h⟩ := ob h
  refine v_callV (As := [_, _]) C dX12_named_72 cf_X12_57 (rm_X12_named_X12_fails) ⟨rfl, rfl⟩ e0 rfl (Nat.le_of_ble_eq_true rfl) (c_X12_fails _ _ N _ _ _ _ q.1 q.2 e) ?_
  exact v_sb (p_X12_named_75 C F h) ⟨rfl, rfl, trivial⟩
set_option maxRecDepth 100000 in
set_option maxHeartbeats 4000000 in
theorem p_X12_named {x : CX} {l : Launch} {g : CG} {rv : Int32} {μ0 μ9 : Mem} (C : Cx x l g mi_X12_named) (F : Prom x g mi_X12_named μ0 (some (aI rv)) μ9) {N : Nat} {a0 : Option Nat} {μ : Mem} (h : f_X12_named N a0 μ = some (rv, μ9)) : V x g 3 0 0 μ 0 [(0, aR a0)] [] := by
  unfold f_X12_named at h
  refine v_ldcX C dX12_named_0 (Cex C).2.2.2.2.2.2.2.2.2.2.2.1 ?_
  refine v_aload_n C dX12_named_2 rfl ?_
  obtain ⟨v, e, h⟩ := ob h
  refine v_getR C dX12_named_3 gf_X12_28 e ?_
  refine v_aload_n C dX12_named_6 rfl ?_
  obtain ⟨v, e, h⟩ := ob h
  refine v_getI C dX12_named_7 gf_X12_34 e ?_
  refine v_aload_n C dX12_named_10 rfl ?_
  obtain ⟨v, e, h⟩ := ob h
  refine v_getI C dX12_named_11 gf_X12_54 e ?_
  obtain ⟨q, e, h⟩ := ob h
  refine v_callS (As := [_, _, _, _]) C dX12_named_14 cf_X12_103 (rm_X12_named_X12_find) ⟨rfl, rfl⟩ rfl (Nat.le_of_ble_eq_true rfl) (c_X12_find _ _ N _ _ _ _ _ q.1 q.2 e) ?_
  refine v_istore_n C dX12_named_17 (by decide) ?_
  refine v_aload_n C dX12_named_18 rfl ?_
  refine v_iload_n C dX12_named_19 rfl ?_
  obtain ⟨m, e, h⟩ := ob h
  refine v_putI C dX12_named_20 (pf_X12_132 _) e ?_
  refine v_iload_n C dX12_named_23 rfl ?_
  refine v_iconst (v := -1) C dX12_named_24 rfl ?_
  refine v_icmp_eq (tgt := 34) C dX12_named_25 (by decide) (fun c => ?_) (fun c => ?_)
  · replace h := ifT h c
    refine v_aload_n C dX12_named_34 rfl ?_
    refine v_aload_n C dX12_named_35 rfl ?_
    obtain ⟨v, e, h⟩ := ob h
    refine v_getI C dX12_named_36 gf_X12_34 e ?_
    refine v_aload_n C dX12_named_39 rfl ?_
    obtain ⟨v, e, h⟩ := ob h
    refine v_getI C dX12_named_40 gf_X12_54 e ?_
    obtain ⟨b, e0, h⟩ := ob h
    obtain ⟨q, e, h⟩ := ob h
    refine v_callV (As := [_, _]) C dX12_named_43 cf_X12_109 (rm_X12_named_X12_findTold) ⟨rfl, rfl⟩ e0 rfl (Nat.le_of_ble_eq_true rfl) (c_X12_findTold _ _ N _ _ _ _ q.1 q.2 e) ?_
    refine v_istore_n C dX12_named_46 (by decide) ?_
    refine v_iload_n C dX12_named_47 rfl ?_
    refine v_iconst (v := -1) C dX12_named_48 rfl ?_
    refine v_icmp_ne (tgt := 75) C dX12_named_49 (by decide) (fun c => ?_) (fun c => ?_)
    · replace h := ifT h c
      exact v_sb (p_X12_named_75 C F h) ⟨rfl, rfl, trivial⟩
    · replace h := ifF h c
      refine v_aload_n C dX12_named_52 rfl ?_
      obtain ⟨v, e, h⟩ := ob h
      refine v_getI C dX12_named_53 gf_X12_141 e ?_
      refine v_if_ne (tgt := 66) C dX12_named_56 (by decide) (fun c => ?_) (fun c => ?_)
      · replace h := ifT h c
        exact v_sb (p_X12_named_66 C F h) ⟨rfl, rfl, trivial⟩
      · replace h := ifF h c
        refine v_aload_n C dX12_named_59 rfl ?_
        obtain ⟨v, e, h⟩ := ob h
        refine v_getI C dX12_named_60 gf_X12_112 e ?_
        refine v_if_eq (tgt := 75) C dX12_named_63 (by decide) (fun c => ?_) (fun c => ?_)
        · replace h := ifT h c
          exact v_sb (p_X12_named_75 C F h) ⟨rfl, rfl, trivial⟩
        · replace h := ifF h c
          exact v_sb (p_X12_named_66 C F h) ⟨rfl, rfl, trivial⟩
  · replace h := ifF h c
    refine v_getsX1 C dX12_named_28 gs_X12_138 ?_
    refine v_iload_n C dX12_named_31 rfl ?_
    obtain ⟨v, e, h⟩ := ob h
    refine v_xi1 C dX12_named_32 e ?_
    exact v_iret C F ⟨rfl, rfl, Nat.le_refl _⟩ dX12_named_33 h
set_option maxRecDepth 100000 in
set_option maxHeartbeats 4000000 in
theorem c_X12_named (l : Launch) (g : CG) (N : Nat) (a0 : Option Nat) (μ : Mem) (rv : Int32) (μ9 : Mem) (h : f_X12_named N a0 μ = some (rv, μ9)) : Ct l yX12_named mi_X12_named g [aR a0] μ (some (aI rv)) μ9 := ct_of ⟨by decide, rfl, rfl⟩ (Nat.le_of_ble_eq_true rfl) fun x C F => p_X12_named C F h
