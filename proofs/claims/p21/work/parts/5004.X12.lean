/-! LAYER 1, ShareEightModel: beginsV, told, literalFor, literal, memory (by program) -/
def f_X12_beginsV_83 (N : Nat) (s0 : Int32) (μ : Mem) : Option (Int32 × Mem) :=
  retZ s0 μ
def f_X12_beginsV_82 (N : Nat) (μ : Mem) : Option (Int32 × Mem) :=
  f_X12_beginsV_83 N 0 μ
def f_X12_beginsV_78 (N : Nat) (μ : Mem) : Option (Int32 × Mem) :=
  f_X12_beginsV_83 N 1 μ
def f_X12_beginsV_36 (N : Nat) (a0 : Option Nat) (μ : Mem) : Option (Int32 × Mem) :=
  (mfI μ a0 12 12).bind fun v1 =>
  if v1 = (2 : Int32) then
    f_X12_beginsV_78 N μ
  else
    (mfI μ a0 12 12).bind fun v2 =>
    if v2 = (3 : Int32) then
      f_X12_beginsV_78 N μ
    else
      (mfI μ a0 12 12).bind fun v3 =>
      if ¬ v3 = (4 : Int32) then
        f_X12_beginsV_82 N μ
      else
        (mfI μ a0 12 14).bind fun v4 =>
        if v4 = (45 : Int32) then
          f_X12_beginsV_78 N μ
        else
          (mfI μ a0 12 14).bind fun v5 =>
          if ¬ v5 = (46 : Int32) then
            f_X12_beginsV_82 N μ
          else
            f_X12_beginsV_78 N μ
def f_X12_beginsV (N : Nat) (a0 : Option Nat) (μ : Mem) : Option (Int32 × Mem) :=
  (mfI μ a0 12 5).bind fun v1 =>
  if ¬ v1 = 0 then
    f_X12_beginsV_82 N μ
  else
    (mfI μ a0 12 12).bind fun v2 =>
    if ¬ v2 = (1 : Int32) then
      f_X12_beginsV_36 N a0 μ
    else
      (mfR μ a0 12 2).bind fun v3 =>
      (mfI μ a0 12 13).bind fun v4 =>
      (mfI μ a0 12 15).bind fun v5 =>
      (f_X12_find N 13 v3 v4 v5 μ).bind fun q6 =>
      if q6.1 = (((-1)) : Int32) then
        f_X12_beginsV_78 N q6.2
      else
        f_X12_beginsV_36 N a0 q6.2
set_option maxRecDepth 100000 in
set_option maxHeartbeats 4000000 in
theorem p_X12_beginsV_83 {x : CX} {l : Launch} {g : CG} {rv : Int32} {μ0 μ9 : Mem} (C : Cx x l g mi_X12_beginsV) (F : Prom x g mi_X12_beginsV μ0 (some (aI rv)) μ9) {N : Nat} {s0 : Int32} {μ : Mem} (h : f_X12_beginsV_83 N s0 μ = some (rv, μ9)) : V x g 1 0 0 μ 83 [] [aI s0] := by
  unfold f_X12_beginsV_83 at h
  exact v_zret C F ⟨rfl, rfl, Nat.le_refl _⟩ dX12_beginsV_83 h
set_option maxRecDepth 100000 in
set_option maxHeartbeats 4000000 in
theorem p_X12_beginsV_82 {x : CX} {l : Launch} {g : CG} {rv : Int32} {μ0 μ9 : Mem} (C : Cx x l g mi_X12_beginsV) (F : Prom x g mi_X12_beginsV μ0 (some (aI rv)) μ9) {N : Nat} {μ : Mem} (h : f_X12_beginsV_82 N μ = some (rv, μ9)) : V x g 1 0 0 μ 82 [] [] := by
  unfold f_X12_beginsV_82 at h
  refine v_iconst (v := 0) C dX12_beginsV_82 rfl ?_
  exact v_sb (p_X12_beginsV_83 C F h) trivial
set_option maxRecDepth 100000 in
set_option maxHeartbeats 4000000 in
theorem p_X12_beginsV_78 {x : CX} {l : Launch} {g : CG} {rv : Int32} {μ0 μ9 : Mem} (C : Cx x l g mi_X12_beginsV) (F : Prom x g mi_X12_beginsV μ0 (some (aI rv)) μ9) {N : Nat} {μ : Mem} (h : f_X12_beginsV_78 N μ = some (rv, μ9)) : V x g 1 0 0 μ 78 [] [] := by
  unfold f_X12_beginsV_78 at h
  refine v_iconst (v := 1) C dX12_beginsV_78 rfl ?_
  refine v_goto (tgt := 83) C dX12_beginsV_79 (by decide) ?_
  exact v_sb (p_X12_beginsV_83 C F h) trivial
set_option maxRecDepth 100000 in
set_option maxHeartbeats 4000000 in
theorem p_X12_beginsV_36 {x : CX} {l : Launch} {g : CG} {rv : Int32} {μ0 μ9 : Mem} (C : Cx x l g mi_X12_beginsV) (F : Prom x g mi_X12_beginsV μ0 (some (aI rv)) μ9) {N : Nat} {a0 : Option Nat} {μ : Mem} (h : f_X12_beginsV_36 N a0 μ = some (rv, μ9)) : V x g 1 0 0 μ 36 [(0, aR a0)] [] := by
  unfold f_X12_beginsV_36 at h
  refine v_aload_n C dX12_beginsV_36 rfl ?_
  obtain ⟨v, e, h⟩ := ob h
  refine v_getI C dX12_beginsV_37 gf_X12_37 e ?_
  refine v_iconst (v := 2) C dX12_beginsV_40 rfl ?_
  refine v_icmp_eq (tgt := 78) C dX12_beginsV_41 (by decide) (fun c => ?_) (fun c => ?_)
  · replace h := ifT h c
    exact v_sb (p_X12_beginsV_78 C F h) trivial
  · replace h := ifF h c
    refine v_aload_n C dX12_beginsV_44 rfl ?_
    obtain ⟨v, e, h⟩ := ob h
    refine v_getI C dX12_beginsV_45 gf_X12_37 e ?_
    refine v_iconst (v := 3) C dX12_beginsV_48 rfl ?_
    refine v_icmp_eq (tgt := 78) C dX12_beginsV_49 (by decide) (fun c => ?_) (fun c => ?_)
    · replace h := ifT h c
      exact v_sb (p_X12_beginsV_78 C F h) trivial
    · replace h := ifF h c
      refine v_aload_n C dX12_beginsV_52 rfl ?_
      obtain ⟨v, e, h⟩ := ob h
      refine v_getI C dX12_beginsV_53 gf_X12_37 e ?_
      refine v_iconst (v := 4) C dX12_beginsV_56 rfl ?_
      refine v_icmp_ne (tgt := 82) C dX12_beginsV_57 (by decide) (fun c => ?_) (fun c => ?_)
      · replace h := ifT h c
        exact v_sb (p_X12_beginsV_82 C F h) trivial
      · replace h := ifF h c
        refine v_aload_n C dX12_beginsV_60 rfl ?_
        obtain ⟨v, e, h⟩ := ob h
        refine v_getI C dX12_beginsV_61 gf_X12_64 e ?_
        refine v_bipush (v := 45) C dX12_beginsV_64 rfl ?_
        refine v_icmp_eq (tgt := 78) C dX12_beginsV_66 (by decide) (fun c => ?_) (fun c => ?_)
        · replace h := ifT h c
          exact v_sb (p_X12_beginsV_78 C F h) trivial
        · replace h := ifF h c
          refine v_aload_n C dX12_beginsV_69 rfl ?_
          obtain ⟨v, e, h⟩ := ob h
          refine v_getI C dX12_beginsV_70 gf_X12_64 e ?_
          refine v_bipush (v := 46) C dX12_beginsV_73 rfl ?_
          refine v_icmp_ne (tgt := 82) C dX12_beginsV_75 (by decide) (fun c => ?_) (fun c => ?_)
          · replace h := ifT h c
            exact v_sb (p_X12_beginsV_82 C F h) trivial
          · replace h := ifF h c
            exact v_sb (p_X12_beginsV_78 C F h) trivial
set_option maxRecDepth 100000 in
set_option maxHeartbeats 4000000 in
theorem p_X12_beginsV {x : CX} {l : Launch} {g : CG} {rv : Int32} {μ0 μ9 : Mem} (C : Cx x l g mi_X12_beginsV) (F : Prom x g mi_X12_beginsV μ0 (some (aI rv)) μ9) {N : Nat} {a0 : Option Nat} {μ : Mem} (h : f_X12_beginsV N a0 μ = some (rv, μ9)) : V x g 1 0 0 μ 0 [(0, aR a0)] [] := by
  unfold f_X12_beginsV at h
  refine v_aload_n C dX12_beginsV_0 rfl ?_
  obtain ⟨v, e, h⟩ := ob h
  refine v_getI C dX12_beginsV_1 gf_X12_19 e ?_
  refine v_if_ne (tgt := 82) C dX12_beginsV_4 (by decide) (fun c => ?_) (fun c => ?_)
  · replace h := ifT h c
    exact v_sb (p_X12_beginsV_82 C F h) trivial
  · replace h := ifF h c
    refine v_aload_n C dX12_beginsV_7 rfl ?_
    obtain ⟨v, e, h⟩ := ob h
    refine v_getI C dX12_beginsV_8 gf_X12_37 e ?_
    refine v_iconst (v := 1) C dX12_beginsV_11 rfl ?_
    refine v_icmp_ne (tgt := 36) C dX12_beginsV_12 (by decide) (fun c => ?_) (fun c => ?_)
    · replace h := ifT h c
      exact v_sb (p_X12_beginsV_36 C F h) ⟨rfl, trivial⟩
    · replace h := ifF h c
      refine v_ldcX C dX12_beginsV_15 (Cex C).2.2.2.2.2.2.2.2.2.2.2.2 ?_
      refine v_aload_n C dX12_beginsV_17 rfl ?_
      obtain ⟨v, e, h⟩ := ob h
      refine v_getR C dX12_beginsV_18 gf_X12_28 e ?_
      refine v_aload_n C dX12_beginsV_21 rfl ?_
      obtain ⟨v, e, h⟩ := ob h
      refine v_getI C dX12_beginsV_22 gf_X12_34 e ?_
      refine v_aload_n C dX12_beginsV_25 rfl ?_
      obtain ⟨v, e, h⟩ := ob h
      refine v_getI C dX12_beginsV_26 gf_X12_54 e ?_
      obtain ⟨q, e, h⟩ := ob h
      refine v_callS (As := [_, _, _, _]) C dX12_beginsV_29 cf_X12_103 (rm_X12_beginsV_X12_find) ⟨rfl, rfl⟩ rfl (Nat.le_of_ble_eq_true rfl) (c_X12_find _ _ N _ _ _ _ _ q.1 q.2 e) ?_
      refine v_iconst (v := -1) C dX12_beginsV_32 rfl ?_
      refine v_icmp_eq (tgt := 78) C dX12_beginsV_33 (by decide) (fun c => ?_) (fun c => ?_)
      · replace h := ifT h c
        exact v_sb (p_X12_beginsV_78 C F h) trivial
      · replace h := ifF h c
        exact v_sb (p_X12_beginsV_36 C F h) ⟨rfl, trivial⟩
set_option maxRecDepth 100000 in
set_option maxHeartbeats 4000000 in
theorem c_X12_beginsV (l : Launch) (g : CG) (N : Nat) (a0 : Option Nat) (μ : Mem) (rv : Int32) (μ9 : Mem) (h : f_X12_beginsV N a0 μ = some (rv, μ9)) : Ct l yX12_beginsV mi_X12_beginsV g [aR a0] μ (some (aI rv)) μ9 := ct_of ⟨by decide, rfl, rfl⟩ (Nat.le_of_ble_eq_true rfl) fun x C F => p_X12_beginsV C F h
def f_X12_told_201 (N : Nat) (μ : Mem) : Option (Unit × Mem) :=
  some ((), μ)
def f_X12_told_72 (N : Nat) (a0 : Option Nat) (μ : Mem) : Option (Unit × Mem) :=
  (mck μ a0 12).bind fun b2 =>
  (f_X12_again N (some b2) μ).bind fun q1 =>
  f_X12_told_201 N q1.2
def f_X12_told_43 (N : Nat) (a0 : Option Nat) (s0 : Option Nat) (s1 : Int32) (μ : Mem) : Option (Unit × Mem) :=
  (mpI μ s0 12 10 s1).bind fun μ1 =>
  (mfI μ1 a0 12 5).bind fun v2 =>
  if v2 = 0 then
    f_X12_told_72 N a0 μ1
  else
    (mfI μ1 a0 12 5).bind fun v3 =>
    if ¬ v3 = (1 : Int32) then
      f_X12_told_201 N μ1
    else
      (mfI μ1 a0 12 6).bind fun v4 =>
      (mfI μ1 a0 12 13).bind fun v5 =>
      if ¬ v4 = v5 then
        f_X12_told_201 N μ1
      else
        f_X12_told_72 N a0 μ1
def f_X12_told_30 (N : Nat) (a0 : Option Nat) (a1 : Int32) (μ : Mem) : Option (Unit × Mem) :=
  if ¬ a1 = (1 : Int32) then
    f_X12_told_43 N a0 a0 8 μ
  else
    f_X12_told_43 N a0 a0 10 μ
def H_X12_told_177 (N : Nat) (k177 : (Option Nat) → Int32 → Int32 → Mem → Option (Unit × Mem)) (a0 : Option Nat) (a3 : Int32) (a4 : Int32) (μ : Mem) : Option (Unit × Mem) :=
  if a3 ≤ a4 then
    f_X12_told_201 N μ
  else
    (mfI μ a0 12 5).bind fun v1 =>
    if ¬ v1 = 0 then
      f_X12_told_201 N μ
    else
      (mck μ a0 12).bind fun b3 =>
      (f_X12_lies N (some b3) 0 μ).bind fun q2 =>
      k177 a0 a3 (a4 + 1) q2.2
def L_X12_told_177 (N : Nat) : Nat → (Option Nat) → Int32 → Int32 → Mem → Option (Unit × Mem)
  | 0 => fun _ _ _ _ => none
  | n + 1 => H_X12_told_177 N (L_X12_told_177 N n)
def f_X12_told_166 (N : Nat) (μ : Mem) : Option (Unit × Mem) :=
  f_X12_told_201 N μ
def f_X12_told_149 (N : Nat) (a0 : Option Nat) (a4 : Int32) (μ : Mem) : Option (Unit × Mem) :=
  (mfI μ a0 12 5).bind fun v1 =>
  if ¬ v1 = 0 then
    f_X12_told_166 N μ
  else
    (mpI μ a0 12 11 (128 * a4)).bind fun μ2 =>
    f_X12_told_166 N μ2
def f_X12_told_122 (N : Nat) (a0 : Option Nat) (a3 : Int32) (μ : Mem) : Option (Unit × Mem) :=
  (mck μ a0 12).bind fun b2 =>
  (f_X12_asked N (some b2) μ).bind fun q1 =>
  (mfI q1.2 a0 12 5).bind fun v3 =>
  if ¬ v3 = 0 then
    f_X12_told_149 N a0 q1.1 q1.2
  else
    if q1.1 ≤ (31 : Int32) then
      f_X12_told_149 N a0 q1.1 q1.2
    else
      (mck q1.2 a0 12).bind fun b5 =>
      (f_X12_fails N (some b5) 6 a3 q1.2).bind fun q4 =>
      f_X12_told_149 N a0 q1.1 q4.2
def f_X12_told (N : Nat) (a0 : Option Nat) (a1 : Int32) (μ : Mem) : Option (Unit × Mem) :=
  (mfI μ a0 12 13).bind fun v1 =>
  if ¬ a1 = (4 : Int32) then
    (mck μ a0 12).bind fun b3 =>
    (f_X12_take N (some b3) μ).bind fun q2 =>
    if a1 = (1 : Int32) then
      f_X12_told_30 N a0 a1 q2.2
    else
      if ¬ a1 = (2 : Int32) then
        if ¬ a1 = 0 then
          (mck q2.2 a0 12).bind fun b5 =>
          (f_X12_asked N (some b5) q2.2).bind fun q4 =>
          L_X12_told_177 N N a0 q4.1 0 q4.2
        else
          (mfI q2.2 a0 12 13).bind fun v6 =>
          (mfI q2.2 a0 12 5).bind fun v7 =>
          if ¬ v7 = 0 then
            f_X12_told_122 N a0 v6 q2.2
          else
            (mck q2.2 a0 12).bind fun b9 =>
            (f_X12_beginsV N (some b9) q2.2).bind fun q8 =>
            if ¬ q8.1 = 0 then
              f_X12_told_122 N a0 v6 q8.2
            else
              (mfI q8.2 a0 12 11).bind fun v10 =>
              if (128 : Int32) = 0 then none else
              (mpI q8.2 a0 12 11 (((v10 + 127) / 128) * 128)).bind fun μ11 =>
              some ((), μ11)
      else
        f_X12_told_30 N a0 a1 q2.2
  else
    (mck μ a0 12).bind fun b13 =>
    (f_X12_texts N (some b13) v1 μ).bind fun q12 =>
    some ((), q12.2)
set_option maxRecDepth 100000 in
set_option maxHeartbeats 4000000 in
theorem p_X12_told_201 {x : CX} {l : Launch} {g : CG} {rv : Unit} {μ0 μ9 : Mem} (C : Cx x l g mi_X12_told) (F : Prom x g mi_X12_told μ0 none μ9) {N : Nat} {μ : Mem} (h : f_X12_told_201 N μ = some (rv, μ9)) : V x g 5 0 0 μ 201 [] [] := by
  unfold f_X12_told_201 at h
  exact v_vret C F ⟨rfl, rfl, Nat.le_refl _⟩ dX12_told_201 h
set_option maxRecDepth 100000 in
set_option maxHeartbeats 4000000 in
theorem p_X12_told_72 {x : CX} {l : Launch} {g : CG} {rv : Unit} {μ0 μ9 : Mem} (C : Cx x l g mi_X12_told) (F : Prom x g mi_X12_told μ0 none μ9) {N : Nat} {a0 : Option Nat} {μ : Mem} (h : f_X12_told_72 N a0 μ = some (rv, μ9)) : V x g 5 0 0 μ 72 [(0, aR a0)] [] := by
  unfold f_X12_told_72 at h
  refine v_aload_n C dX12_told_72 rfl ?_
  obtain ⟨b, e0, h⟩ := ob h
  obtain ⟨q, e, h⟩ := ob h
  refine v_callV (As := []) C dX12_told_73 cf_X12_183 (rm_X12_told_X12_again) ⟨rfl, rfl⟩ e0 rfl (Nat.le_of_ble_eq_true rfl) (c_X12_again _ _ N _ _ q.1 q.2 e) ?_
  refine v_goto (tgt := 201) C dX12_told_76 (by decide) ?_
  exact v_sb (p_X12_told_201 C F h) trivial
set_option maxRecDepth 100000 in
set_option maxHeartbeats 4000000 in
theorem p_X12_told_43 {x : CX} {l : Launch} {g : CG} {rv : Unit} {μ0 μ9 : Mem} (C : Cx x l g mi_X12_told) (F : Prom x g mi_X12_told μ0 none μ9) {N : Nat} {a0 : Option Nat} {s0 : Option Nat} {s1 : Int32} {μ : Mem} (h : f_X12_told_43 N a0 s0 s1 μ = some (rv, μ9)) : V x g 5 0 0 μ 43 [(0, aR a0)] [aI s1, aR s0] := by
  unfold f_X12_told_43 at h
  obtain ⟨m, e, h⟩ := ob h
  refine v_putI C dX12_told_43 (pf_X12_74 _) e ?_
  refine v_aload_n C dX12_told_46 rfl ?_
  obtain ⟨v, e, h⟩ := ob h
  refine v_getI C dX12_told_47 gf_X12_19 e ?_
  refine v_if_eq (tgt := 72) C dX12_told_50 (by decide) (fun c => ?_) (fun c => ?_)
  · replace h := ifT h c
    exact v_sb (p_X12_told_72 C F h) ⟨rfl, trivial⟩
  · replace h := ifF h c
    refine v_aload_n C dX12_told_53 rfl ?_
    obtain ⟨v, e, h⟩ := ob h
    refine v_getI C dX12_told_54 gf_X12_19 e ?_
    refine v_iconst (v := 1) C dX12_told_57 rfl ?_
    refine v_icmp_ne (tgt := 201) C dX12_told_58 (by decide) (fun c => ?_) (fun c => ?_)
    · replace h := ifT h c
      exact v_sb (p_X12_told_201 C F h) trivial
    · replace h := ifF h c
      refine v_aload_n C dX12_told_61 rfl ?_
      obtain ⟨v, e, h⟩ := ob h
      refine v_getI C dX12_told_62 gf_X12_22 e ?_
      refine v_aload_n C dX12_told_65 rfl ?_
      obtain ⟨v, e, h⟩ := ob h
      refine v_getI C dX12_told_66 gf_X12_34 e ?_
      refine v_icmp_ne (tgt := 201) C dX12_told_69 (by decide) (fun c => ?_) (fun c => ?_)
      · replace h := ifT h c
        exact v_sb (p_X12_told_201 C F h) trivial
      · replace h := ifF h c
        exact v_sb (p_X12_told_72 C F h) ⟨rfl, trivial⟩
set_option maxRecDepth 100000 in
set_option maxHeartbeats 4000000 in
theorem p_X12_told_30 {x : CX} {l : Launch} {g : CG} {rv : Unit} {μ0 μ9 : Mem} (C : Cx x l g mi_X12_told) (F : Prom x g mi_X12_told μ0 none μ9) {N : Nat} {a0 : Option Nat} {a1 : Int32} {μ : Mem} (h : f_X12_told_30 N a0 a1 μ = some (rv, μ9)) : V x g 5 0 0 μ 30 [(0, aR a0), (1, aI a1)] [] := by
  unfold f_X12_told_30 at h
  refine v_aload_n C dX12_told_30 rfl ?_
  refine v_iload_n C dX12_told_31 rfl ?_
  refine v_iconst (v := 1) C dX12_told_32 rfl ?_
  refine v_icmp_ne (tgt := 41) C dX12_told_33 (by decide) (fun c => ?_) (fun c => ?_)
  · replace h := ifT h c
    refine v_bipush (v := 8) C dX12_told_41 rfl ?_
    exact v_sb (p_X12_told_43 C F h) ⟨rfl, trivial⟩
  · replace h := ifF h c
    refine v_bipush (v := 10) C dX12_told_36 rfl ?_
    refine v_goto (tgt := 43) C dX12_told_38 (by decide) ?_
    exact v_sb (p_X12_told_43 C F h) ⟨rfl, trivial⟩
set_option maxRecDepth 100000 in
set_option maxHeartbeats 4000000 in
theorem pH_X12_told_177 {x : CX} {l : Launch} {g : CG} {rv : Unit} {μ0 μ9 : Mem} (C : Cx x l g mi_X12_told) (F : Prom x g mi_X12_told μ0 none μ9) {N : Nat} {k177 : (Option Nat) → Int32 → Int32 → Mem → Option (Unit × Mem)} (hk177 : ∀ (a0 : Option Nat) (a3 : Int32) (a4 : Int32) (μ : Mem), k177 a0 a3 a4 μ = some (rv, μ9) → V x g 5 0 0 μ 177 [(0, aR a0), (3, aI a3), (4, aI a4)] []) {a0 : Option Nat} {a3 : Int32} {a4 : Int32} {μ : Mem} (h : H_X12_told_177 N k177 a0 a3 a4 μ = some (rv, μ9)) : V x g 5 0 0 μ 177 [(0, aR a0), (3, aI a3), (4, aI a4)] [] := by
  unfold H_X12_told_177 at h
  refine v_iload C dX12_told_177 rfl ?_
  refine v_iload_n C dX12_told_179 rfl ?_
  refine v_icmp_ge (tgt := 201) C dX12_told_180 (by decide) (fun c => ?_) (fun c => ?_)
  · replace h := ifT h c
    exact v_sb (p_X12_told_201 C F h) trivial
  · replace h := ifF h c
    refine v_aload_n C dX12_told_183 rfl ?_
    obtain ⟨v, e, h⟩ := ob h
    refine v_getI C dX12_told_184 gf_X12_19 e ?_
    refine v_if_ne (tgt := 201) C dX12_told_187 (by decide) (fun c => ?_) (fun c => ?_)
    · replace h := ifT h c
      exact v_sb (p_X12_told_201 C F h) trivial
    · replace h := ifF h c
      refine v_aload_n C dX12_told_190 rfl ?_
      refine v_iconst (v := 0) C dX12_told_191 rfl ?_
      obtain ⟨b, e0, h⟩ := ob h
      obtain ⟨q, e, h⟩ := ob h
      refine v_callV (As := [_]) C dX12_told_192 cf_X12_190 (rm_X12_told_X12_lies) ⟨rfl, rfl⟩ e0 rfl (Nat.le_of_ble_eq_true rfl) (c_X12_lies _ _ N _ _ _ q.1 q.2 e) ?_
      refine v_iinc (w := 1) C dX12_told_195 rfl rfl (by decide) ?_
      refine v_goto (tgt := 177) C dX12_told_198 (by decide) ?_
      exact v_sb (hk177 _ _ _ _ h) ⟨rfl, rfl, rfl, trivial⟩
set_option maxRecDepth 100000 in
set_option maxHeartbeats 4000000 in
theorem pL_X12_told_177 {x : CX} {l : Launch} {g : CG} {rv : Unit} {μ0 μ9 : Mem} (C : Cx x l g mi_X12_told) (F : Prom x g mi_X12_told μ0 none μ9) (N : Nat) (n : Nat) : ∀ (a0 : Option Nat) (a3 : Int32) (a4 : Int32) (μ : Mem), L_X12_told_177 N n a0 a3 a4 μ = some (rv, μ9) → V x g 5 0 0 μ 177 [(0, aR a0), (3, aI a3), (4, aI a4)] [] := by
  induction n with
  | zero => intro a0 a3 a4 μ h; cases h
  | succ n ih => intro a0 a3 a4 μ h; exact pH_X12_told_177 C F ih h
set_option maxRecDepth 100000 in
set_option maxHeartbeats 4000000 in
theorem p_X12_told_166 {x : CX} {l : Launch} {g : CG} {rv : Unit} {μ0 μ9 : Mem} (C : Cx x l g mi_X12_told) (F : Prom x g mi_X12_told μ0 none μ9) {N : Nat} {μ : Mem} (h : f_X12_told_166 N μ = some (rv, μ9)) : V x g 5 0 0 μ 166 [] [] := by
  unfold f_X12_told_166 at h
  refine v_goto (tgt := 201) C dX12_told_166 (by decide) ?_
  exact v_sb (p_X12_told_201 C F h) trivial
set_option maxRecDepth 100000 in
set_option maxHeartbeats 4000000 in
theorem p_X12_told_149 {x : CX} {l : Launch} {g : CG} {rv : Unit} {μ0 μ9 : Mem} (C : Cx x l g mi_X12_told) (F : Prom x g mi_X12_told μ0 none μ9) {N : Nat} {a0 : Option Nat} {a4 : Int32} {μ : Mem} (h : f_X12_told_149 N a0 a4 μ = some (rv, μ9)) : V x g 5 0 0 μ 149 [(0, aR a0), (4, aI a4)] [] := by
  unfold f_X12_told_149 at h
  refine v_aload_n C dX12_told_149 rfl ?_
  obtain ⟨v, e, h⟩ := ob h
  refine v_getI C dX12_told_150 gf_X12_19 e ?_
  refine v_if_ne (tgt := 166) C dX12_told_153 (by decide) (fun c => ?_) (fun c => ?_)
  · replace h := ifT h c
    exact v_sb (p_X12_told_166 C F h) trivial
  · replace h := ifF h c
    refine v_aload_n C dX12_told_156 rfl ?_
    refine v_sipush (v := 128) C dX12_told_157 rfl ?_
    refine v_iload C dX12_told_160 rfl ?_
    refine v_imul C dX12_told_162 ?_
    obtain ⟨m, e, h⟩ := ob h
    refine v_putI C dX12_told_163 (pf_X12_129 _) e ?_
    exact v_sb (p_X12_told_166 C F h) trivial
set_option maxRecDepth 100000 in
set_option maxHeartbeats 4000000 in
theorem p_X12_told_122 {x : CX} {l : Launch} {g : CG} {rv : Unit} {μ0 μ9 : Mem} (C : Cx x l g mi_X12_told) (F : Prom x g mi_X12_told μ0 none μ9) {N : Nat} {a0 : Option Nat} {a3 : Int32} {μ : Mem} (h : f_X12_told_122 N a0 a3 μ = some (rv, μ9)) : V x g 5 0 0 μ 122 [(0, aR a0), (3, aI a3)] [] := by
  unfold f_X12_told_122 at h
  refine v_aload_n C dX12_told_122 rfl ?_
  obtain ⟨b, e0, h⟩ := ob h
  obtain ⟨q, e, h⟩ := ob h
  refine v_callV (As := []) C dX12_told_123 cf_X12_169 (rm_X12_told_X12_asked) ⟨rfl, rfl⟩ e0 rfl (Nat.le_of_ble_eq_true rfl) (c_X12_asked _ _ N _ _ q.1 q.2 e) ?_
  refine v_istore C dX12_told_126 (by decide) ?_
  refine v_aload_n C dX12_told_128 rfl ?_
  obtain ⟨v, e, h⟩ := ob h
  refine v_getI C dX12_told_129 gf_X12_19 e ?_
  refine v_if_ne (tgt := 149) C dX12_told_132 (by decide) (fun c => ?_) (fun c => ?_)
  · replace h := ifT h c
    exact v_sb (p_X12_told_149 C F h) ⟨rfl, rfl, trivial⟩
  · replace h := ifF h c
    refine v_iload C dX12_told_135 rfl ?_
    refine v_bipush (v := 31) C dX12_told_137 rfl ?_
    refine v_icmp_le (tgt := 149) C dX12_told_139 (by decide) (fun c => ?_) (fun c => ?_)
    · replace h := ifT h c
      exact v_sb (p_X12_told_149 C F h) ⟨rfl, rfl, trivial⟩
    · replace h := ifF h c
      refine v_aload_n C dX12_told_142 rfl ?_
      refine v_bipush (v := 6) C dX12_told_143 rfl ?_
      refine v_iload_n C dX12_told_145 rfl ?_
      obtain ⟨b, e0, h⟩ := ob h
      obtain ⟨q, e, h⟩ := ob h
      refine v_callV (As := [_, _]) C dX12_told_146 cf_X12_57 (rm_X12_told_X12_fails) ⟨rfl, rfl⟩ e0 rfl (Nat.le_of_ble_eq_true rfl) (c_X12_fails _ _ N _ _ _ _ q.1 q.2 e) ?_
      exact v_sb (p_X12_told_149 C F h) ⟨rfl, rfl, trivial⟩
set_option maxRecDepth 100000 in
set_option maxHeartbeats 4000000 in
theorem p_X12_told {x : CX} {l : Launch} {g : CG} {rv : Unit} {μ0 μ9 : Mem} (C : Cx x l g mi_X12_told) (F : Prom x g mi_X12_told μ0 none μ9) {N : Nat} {a0 : Option Nat} {a1 : Int32} {μ : Mem} (h : f_X12_told N a0 a1 μ = some (rv, μ9)) : V x g 5 0 0 μ 0 [(0, aR a0), (1, aI a1)] [] := by
  unfold f_X12_told at h
  refine v_aload_n C dX12_told_0 rfl ?_
  obtain ⟨v, e, h⟩ := ob h
  refine v_getI C dX12_told_1 gf_X12_34 e ?_
  refine v_istore_n C dX12_told_4 (by decide) ?_
  refine v_iload_n C dX12_told_5 rfl ?_
  refine v_iconst (v := 4) C dX12_told_6 rfl ?_
  refine v_icmp_ne (tgt := 16) C dX12_told_7 (by decide) (fun c => ?_) (fun c => ?_)
  · replace h := ifT h c
    refine v_aload_n C dX12_told_16 rfl ?_
    obtain ⟨b, e0, h⟩ := ob h
    obtain ⟨q, e, h⟩ := ob h
    refine v_callV (As := []) C dX12_told_17 cf_X12_126 (rm_X12_told_X12_take) ⟨rfl, rfl⟩ e0 rfl (Nat.le_of_ble_eq_true rfl) (c_X12_take _ _ N _ _ q.1 q.2 e) ?_
    refine v_iload_n C dX12_told_20 rfl ?_
    refine v_iconst (v := 1) C dX12_told_21 rfl ?_
    refine v_icmp_eq (tgt := 30) C dX12_told_22 (by decide) (fun c => ?_) (fun c => ?_)
    · replace h := ifT h c
      exact v_sb (p_X12_told_30 C F h) ⟨rfl, rfl, trivial⟩
    · replace h := ifF h c
      refine v_iload_n C dX12_told_25 rfl ?_
      refine v_iconst (v := 2) C dX12_told_26 rfl ?_
      refine v_icmp_ne (tgt := 79) C dX12_told_27 (by decide) (fun c => ?_) (fun c => ?_)
      · replace h := ifT h c
        refine v_iload_n C dX12_told_79 rfl ?_
        refine v_if_ne (tgt := 169) C dX12_told_80 (by decide) (fun c => ?_) (fun c => ?_)
        · replace h := ifT h c
          refine v_aload_n C dX12_told_169 rfl ?_
          obtain ⟨b, e0, h⟩ := ob h
          obtain ⟨q, e, h⟩ := ob h
          refine v_callV (As := []) C dX12_told_170 cf_X12_169 (rm_X12_told_X12_asked) ⟨rfl, rfl⟩ e0 rfl (Nat.le_of_ble_eq_true rfl) (c_X12_asked _ _ N _ _ q.1 q.2 e) ?_
          refine v_istore_n C dX12_told_173 (by decide) ?_
          refine v_iconst (v := 0) C dX12_told_174 rfl ?_
          refine v_istore C dX12_told_175 (by decide) ?_
          exact v_sb (pL_X12_told_177 C F N N _ _ _ _ h) ⟨rfl, rfl, rfl, trivial⟩
        · replace h := ifF h c
          refine v_aload_n C dX12_told_83 rfl ?_
          obtain ⟨v, e, h⟩ := ob h
          refine v_getI C dX12_told_84 gf_X12_34 e ?_
          refine v_istore_n C dX12_told_87 (by decide) ?_
          refine v_aload_n C dX12_told_88 rfl ?_
          obtain ⟨v, e, h⟩ := ob h
          refine v_getI C dX12_told_89 gf_X12_19 e ?_
          refine v_if_ne (tgt := 122) C dX12_told_92 (by decide) (fun c => ?_) (fun c => ?_)
          · replace h := ifT h c
            exact v_sb (p_X12_told_122 C F h) ⟨rfl, rfl, trivial⟩
          · replace h := ifF h c
            refine v_aload_n C dX12_told_95 rfl ?_
            obtain ⟨b, e0, h⟩ := ob h
            obtain ⟨q, e, h⟩ := ob h
            refine v_callV (As := []) C dX12_told_96 cf_X12_186 (rm_X12_told_X12_beginsV) ⟨rfl, rfl⟩ e0 rfl (Nat.le_of_ble_eq_true rfl) (c_X12_beginsV _ _ N _ _ q.1 q.2 e) ?_
            refine v_if_ne (tgt := 122) C dX12_told_99 (by decide) (fun c => ?_) (fun c => ?_)
            · replace h := ifT h c
              exact v_sb (p_X12_told_122 C F h) ⟨rfl, rfl, trivial⟩
            · replace h := ifF h c
              refine v_aload_n C dX12_told_102 rfl ?_
              refine v_aload_n C dX12_told_103 rfl ?_
              obtain ⟨v, e, h⟩ := ob h
              refine v_getI C dX12_told_104 gf_X12_129 e ?_
              refine v_bipush (v := 127) C dX12_told_107 rfl ?_
              refine v_iadd C dX12_told_109 ?_
              refine v_sipush (v := 128) C dX12_told_110 rfl ?_
              obtain ⟨c0, h⟩ := oz h
              refine v_idiv C dX12_told_113 c0 ?_
              refine v_sipush (v := 128) C dX12_told_114 rfl ?_
              refine v_imul C dX12_told_117 ?_
              obtain ⟨m, e, h⟩ := ob h
              refine v_putI C dX12_told_118 (pf_X12_129 _) e ?_
              exact v_vret C F ⟨rfl, rfl, Nat.le_refl _⟩ dX12_told_121 h
      · replace h := ifF h c
        exact v_sb (p_X12_told_30 C F h) ⟨rfl, rfl, trivial⟩
  · replace h := ifF h c
    refine v_aload_n C dX12_told_10 rfl ?_
    refine v_iload_n C dX12_told_11 rfl ?_
    obtain ⟨b, e0, h⟩ := ob h
    obtain ⟨q, e, h⟩ := ob h
    refine v_callV (As := [_]) C dX12_told_12 cf_X12_180 (rm_X12_told_X12_texts) ⟨rfl, rfl⟩ e0 rfl (Nat.le_of_ble_eq_true rfl) (c_X12_texts _ _ N _ _ _ q.1 q.2 e) ?_
    exact v_vret C F ⟨rfl, rfl, Nat.le_refl _⟩ dX12_told_15 h
set_option maxRecDepth 100000 in
set_option maxHeartbeats 4000000 in
theorem c_X12_told (l : Launch) (g : CG) (N : Nat) (a0 : Option Nat) (a1 : Int32) (μ : Mem) (rv : Unit) (μ9 : Mem) (h : f_X12_told N a0 a1 μ = some (rv, μ9)) : Ct l yX12_told mi_X12_told g [aR a0, aI a1] μ none μ9 := ct_of ⟨by decide, rfl, rfl⟩ (Nat.le_of_ble_eq_true rfl) fun x C F => p_X12_told C F h
def f_X12_literalFor_96 (N : Nat) (a0 : Option Nat) (a3 : Int32) (μ : Mem) : Option (Int32 × Mem) :=
  (mck μ a0 12).bind fun b2 =>
  (f_X12_fails N (some b2) 8 a3 μ).bind fun q1 =>
  some (0, q1.2)
def H_X12_literalFor_28 (N : Nat) (k28 : (Option Nat) → Int32 → Int32 → Int32 → Int32 → Mem → Option (Int32 × Mem)) (a0 : Option Nat) (a1 : Int32) (a2 : Int32) (a3 : Int32) (a4 : Int32) (μ : Mem) : Option (Int32 × Mem) :=
  (mfR μ a0 12 26).bind fun v1 =>
  (maI μ 0 v1 a2).bind fun v2 =>
  if a4 ≤ v2 then
    (mfR μ a0 12 26).bind fun v3 =>
    (maI μ 0 v3 a2).bind fun v4 =>
    if v4 < (128 * a2) then
      f_X12_literalFor_96 N a0 a3 μ
    else
      (mfR μ a0 12 23).bind fun v5 =>
      (maI μ 2 v5 v4).bind fun v6 =>
      if ¬ v6 = 0 then
        f_X12_literalFor_96 N a0 a3 μ
      else
        (mfI μ a0 12 11).bind fun v7 =>
        if ¬ v4 = v7 then
          (mfR μ a0 12 24).bind fun v8 =>
          (mbZ μ 2 v8 v4 1).bind fun μ9 =>
          (mfR μ9 a0 12 22).bind fun v10 =>
          (mbI μ9 0 v10 v4 a1).bind fun μ11 =>
          (mfR μ11 a0 12 26).bind fun v12 =>
          (maI μ11 0 v12 a2).bind fun v13 =>
          (mbI μ11 0 v12 a2 (v13 - 1)).bind fun μ14 =>
          some (v4, μ14)
        else
          f_X12_literalFor_96 N a0 a3 μ
  else
    (mfR μ a0 12 22).bind fun v15 =>
    (maI μ 0 v15 a4).bind fun v16 =>
    if ¬ v16 = a1 then
      k28 a0 a1 a2 a3 (a4 + (-1)) μ
    else
      some (a4, μ)
def L_X12_literalFor_28 (N : Nat) : Nat → (Option Nat) → Int32 → Int32 → Int32 → Int32 → Mem → Option (Int32 × Mem)
  | 0 => fun _ _ _ _ _ _ => none
  | n + 1 => H_X12_literalFor_28 N (L_X12_literalFor_28 N n)
def f_X12_literalFor (N : Nat) (a0 : Option Nat) (a1 : Int32) (a2 : Int32) (a3 : Int32) (μ : Mem) : Option (Int32 × Mem) :=
  if a2 ≤ (31 : Int32) then
    L_X12_literalFor_28 N N a0 a1 a2 a3 ((128 * a2) + 127) μ
  else
    (mfI μ a0 12 27).bind fun v1 =>
    (mck μ a0 12).bind fun b3 =>
    (f_X12_fails N (some b3) 6 v1 μ).bind fun q2 =>
    some (0, q2.2)
set_option maxRecDepth 100000 in
set_option maxHeartbeats 4000000 in
theorem p_X12_literalFor_96 {x : CX} {l : Launch} {g : CG} {rv : Int32} {μ0 μ9 : Mem} (C : Cx x l g mi_X12_literalFor) (F : Prom x g mi_X12_literalFor μ0 (some (aI rv)) μ9) {N : Nat} {a0 : Option Nat} {a3 : Int32} {μ : Mem} (h : f_X12_literalFor_96 N a0 a3 μ = some (rv, μ9)) : V x g 5 0 0 μ 96 [(0, aR a0), (3, aI a3)] [] := by
  unfold f_X12_literalFor_96 at h
  refine v_aload_n C dX12_literalFor_96 rfl ?_
  refine v_bipush (v := 8) C dX12_literalFor_97 rfl ?_
  refine v_iload_n C dX12_literalFor_99 rfl ?_
  obtain ⟨b, e0, h⟩ := ob h
  obtain ⟨q, e, h⟩ := ob h
  refine v_callV (As := [_, _]) C dX12_literalFor_100 cf_X12_57 (rm_X12_literalFor_X12_fails) ⟨rfl, rfl⟩ e0 rfl (Nat.le_of_ble_eq_true rfl) (c_X12_fails _ _ N _ _ _ _ q.1 q.2 e) ?_
  refine v_iconst (v := 0) C dX12_literalFor_103 rfl ?_
  exact v_iret C F ⟨rfl, rfl, Nat.le_refl _⟩ dX12_literalFor_104 h
set_option maxRecDepth 100000 in
set_option maxHeartbeats 4000000 in
theorem pH_X12_literalFor_28 {x : CX} {l : Launch} {g : CG} {rv : Int32} {μ0 μ9 : Mem} (C : Cx x l g mi_X12_literalFor) (F : Prom x g mi_X12_literalFor μ0 (some (aI rv)) μ9) {N : Nat} {k28 : (Option Nat) → Int32 → Int32 → Int32 → Int32 → Mem → Option (Int32 × Mem)} (hk28 : ∀ (a0 : Option Nat) (a1 : Int32) (a2 : Int32) (a3 : Int32) (a4 : Int32) (μ : Mem), k28 a0 a1 a2 a3 a4 μ = some (rv, μ9) → V x g 5 0 0 μ 28 [(0, aR a0), (1, aI a1), (2, aI a2), (3, aI a3), (4, aI a4)] []) {a0 : Option Nat} {a1 : Int32} {a2 : Int32} {a3 : Int32} {a4 : Int32} {μ : Mem} (h : H_X12_literalFor_28 N k28 a0 a1 a2 a3 a4 μ = some (rv, μ9)) : V x g 5 0 0 μ 28 [(0, aR a0), (1, aI a1), (2, aI a2), (3, aI a3), (4, aI a4)] [] := by
  unfold H_X12_literalFor_28 at h
  refine v_iload C dX12_literalFor_28 rfl ?_
  refine v_aload_n C dX12_literalFor_30 rfl ?_
  obtain ⟨v, e, h⟩ := ob h
  refine v_getR C dX12_literalFor_31 gf_X12_213 e ?_
  refine v_iload_n C dX12_literalFor_34 rfl ?_
  obtain ⟨v, e, h⟩ := ob h
  refine v_iaload C dX12_literalFor_35 e ?_
  refine v_icmp_le (tgt := 59) C dX12_literalFor_36 (by decide) (fun c => ?_) (fun c => ?_)
  · replace h := ifT h c
    refine v_aload_n C dX12_literalFor_59 rfl ?_
    obtain ⟨v, e, h⟩ := ob h
    refine v_getR C dX12_literalFor_60 gf_X12_213 e ?_
    refine v_iload_n C dX12_literalFor_63 rfl ?_
    obtain ⟨v, e, h⟩ := ob h
    refine v_iaload C dX12_literalFor_64 e ?_
    refine v_istore C dX12_literalFor_65 (by decide) ?_
    refine v_iload C dX12_literalFor_67 rfl ?_
    refine v_sipush (v := 128) C dX12_literalFor_69 rfl ?_
    refine v_iload_n C dX12_literalFor_72 rfl ?_
    refine v_imul C dX12_literalFor_73 ?_
    refine v_icmp_lt (tgt := 96) C dX12_literalFor_74 (by decide) (fun c => ?_) (fun c => ?_)
    · replace h := ifT h c
      exact v_sb (p_X12_literalFor_96 C F h) ⟨rfl, rfl, trivial⟩
    · replace h := ifF h c
      refine v_aload_n C dX12_literalFor_77 rfl ?_
      obtain ⟨v, e, h⟩ := ob h
      refine v_getR C dX12_literalFor_78 gf_X12_196 e ?_
      refine v_iload C dX12_literalFor_81 rfl ?_
      obtain ⟨v, e, h⟩ := ob h
      refine v_baload C dX12_literalFor_83 e ?_
      refine v_if_ne (tgt := 96) C dX12_literalFor_84 (by decide) (fun c => ?_) (fun c => ?_)
      · replace h := ifT h c
        exact v_sb (p_X12_literalFor_96 C F h) ⟨rfl, rfl, trivial⟩
      · replace h := ifF h c
        refine v_iload C dX12_literalFor_87 rfl ?_
        refine v_aload_n C dX12_literalFor_89 rfl ?_
        obtain ⟨v, e, h⟩ := ob h
        refine v_getI C dX12_literalFor_90 gf_X12_129 e ?_
        refine v_icmp_ne (tgt := 105) C dX12_literalFor_93 (by decide) (fun c => ?_) (fun c => ?_)
        · replace h := ifT h c
          refine v_aload_n C dX12_literalFor_105 rfl ?_
          obtain ⟨v, e, h⟩ := ob h
          refine v_getR C dX12_literalFor_106 gf_X12_193 e ?_
          refine v_iload C dX12_literalFor_109 rfl ?_
          refine v_iconst (v := 1) C dX12_literalFor_111 rfl ?_
          obtain ⟨m, e, h⟩ := ob h
          refine v_bastore C dX12_literalFor_112 e ?_
          refine v_aload_n C dX12_literalFor_113 rfl ?_
          obtain ⟨v, e, h⟩ := ob h
          refine v_getR C dX12_literalFor_114 gf_X12_199 e ?_
          refine v_iload C dX12_literalFor_117 rfl ?_
          refine v_iload_n C dX12_literalFor_119 rfl ?_
          obtain ⟨m, e, h⟩ := ob h
          refine v_iastore C dX12_literalFor_120 e ?_
          refine v_aload_n C dX12_literalFor_121 rfl ?_
          obtain ⟨v, e, h⟩ := ob h
          refine v_getR C dX12_literalFor_122 gf_X12_213 e ?_
          refine v_iload_n C dX12_literalFor_125 rfl ?_
          refine v_dup2 C dX12_literalFor_126 rfl rfl ?_
          obtain ⟨v, e, h⟩ := ob h
          refine v_iaload C dX12_literalFor_127 e ?_
          refine v_iconst (v := 1) C dX12_literalFor_128 rfl ?_
          refine v_isub C dX12_literalFor_129 ?_
          obtain ⟨m, e, h⟩ := ob h
          refine v_iastore C dX12_literalFor_130 e ?_
          refine v_iload C dX12_literalFor_131 rfl ?_
          exact v_iret C F ⟨rfl, rfl, Nat.le_refl _⟩ dX12_literalFor_133 h
        · replace h := ifF h c
          exact v_sb (p_X12_literalFor_96 C F h) ⟨rfl, rfl, trivial⟩
  · replace h := ifF h c
    refine v_aload_n C dX12_literalFor_39 rfl ?_
    obtain ⟨v, e, h⟩ := ob h
    refine v_getR C dX12_literalFor_40 gf_X12_199 e ?_
    refine v_iload C dX12_literalFor_43 rfl ?_
    obtain ⟨v, e, h⟩ := ob h
    refine v_iaload C dX12_literalFor_45 e ?_
    refine v_iload_n C dX12_literalFor_46 rfl ?_
    refine v_icmp_ne (tgt := 53) C dX12_literalFor_47 (by decide) (fun c => ?_) (fun c => ?_)
    · replace h := ifT h c
      refine v_iinc (w := -1) C dX12_literalFor_53 rfl rfl (by decide) ?_
      refine v_goto (tgt := 28) C dX12_literalFor_56 (by decide) ?_
      exact v_sb (hk28 _ _ _ _ _ _ h) ⟨rfl, rfl, rfl, rfl, rfl, trivial⟩
    · replace h := ifF h c
      refine v_iload C dX12_literalFor_50 rfl ?_
      exact v_iret C F ⟨rfl, rfl, Nat.le_refl _⟩ dX12_literalFor_52 h
set_option maxRecDepth 100000 in
set_option maxHeartbeats 4000000 in
theorem pL_X12_literalFor_28 {x : CX} {l : Launch} {g : CG} {rv : Int32} {μ0 μ9 : Mem} (C : Cx x l g mi_X12_literalFor) (F : Prom x g mi_X12_literalFor μ0 (some (aI rv)) μ9) (N : Nat) (n : Nat) : ∀ (a0 : Option Nat) (a1 : Int32) (a2 : Int32) (a3 : Int32) (a4 : Int32) (μ : Mem), L_X12_literalFor_28 N n a0 a1 a2 a3 a4 μ = some (rv, μ9) → V x g 5 0 0 μ 28 [(0, aR a0), (1, aI a1), (2, aI a2), (3, aI a3), (4, aI a4)] [] := by
  induction n with
  | zero => intro a0 a1 a2 a3 a4 μ h; cases h
  | succ n ih => intro a0 a1 a2 a3 a4 μ h; exact pH_X12_literalFor_28 C F ih h
set_option maxRecDepth 100000 in
set_option maxHeartbeats 4000000 in
theorem p_X12_literalFor {x : CX} {l : Launch} {g : CG} {rv : Int32} {μ0 μ9 : Mem} (C : Cx x l g mi_X12_literalFor) (F : Prom x g mi_X12_literalFor μ0 (some (aI rv)) μ9) {N : Nat} {a0 : Option Nat} {a1 : Int32} {a2 : Int32} {a3 : Int32} {μ : Mem} (h : f_X12_literalFor N a0 a1 a2 a3 μ = some (rv, μ9)) : V x g 5 0 0 μ 0 [(0, aR a0), (1, aI a1), (2, aI a2), (3, aI a3)] [] := by
  unfold f_X12_literalFor at h
  refine v_iload_n C dX12_literalFor_0 rfl ?_
  refine v_bipush (v := 31) C dX12_literalFor_1 rfl ?_
  refine v_icmp_le (tgt := 18) C dX12_literalFor_3 (by decide) (fun c => ?_) (fun c => ?_)
  · replace h := ifT h c
    refine v_sipush (v := 128) C dX12_literalFor_18 rfl ?_
    refine v_iload_n C dX12_literalFor_21 rfl ?_
    refine v_imul C dX12_literalFor_22 ?_
    refine v_bipush (v := 127) C dX12_literalFor_23 rfl ?_
    refine v_iadd C dX12_literalFor_25 ?_
    refine v_istore C dX12_literalFor_26 (by decide) ?_
    exact v_sb (pL_X12_literalFor_28 C F N N _ _ _ _ _ _ h) ⟨rfl, rfl, rfl, rfl, rfl, trivial⟩
  · replace h := ifF h c
    refine v_aload_n C dX12_literalFor_6 rfl ?_
    refine v_bipush (v := 6) C dX12_literalFor_7 rfl ?_
    refine v_aload_n C dX12_literalFor_9 rfl ?_
    obtain ⟨v, e, h⟩ := ob h
    refine v_getI C dX12_literalFor_10 gf_X12_166 e ?_
    obtain ⟨b, e0, h⟩ := ob h
    obtain ⟨q, e, h⟩ := ob h
    refine v_callV (As := [_, _]) C dX12_literalFor_13 cf_X12_57 (rm_X12_literalFor_X12_fails) ⟨rfl, rfl⟩ e0 rfl (Nat.le_of_ble_eq_true rfl) (c_X12_fails _ _ N _ _ _ _ q.1 q.2 e) ?_
    refine v_iconst (v := 0) C dX12_literalFor_16 rfl ?_
    exact v_iret C F ⟨rfl, rfl, Nat.le_refl _⟩ dX12_literalFor_17 h
set_option maxRecDepth 100000 in
set_option maxHeartbeats 4000000 in
theorem c_X12_literalFor (l : Launch) (g : CG) (N : Nat) (a0 : Option Nat) (a1 : Int32) (a2 : Int32) (a3 : Int32) (μ : Mem) (rv : Int32) (μ9 : Mem) (h : f_X12_literalFor N a0 a1 a2 a3 μ = some (rv, μ9)) : Ct l yX12_literalFor mi_X12_literalFor g [aR a0, aI a1, aI a2, aI a3] μ (some (aI rv)) μ9 := ct_of ⟨by decide, rfl, rfl⟩ (Nat.le_of_ble_eq_true rfl) fun x C F => p_X12_literalFor C F h
def f_X12_literal_97 (N : Nat) (s0 : Int32) (μ : Mem) : Option (Int32 × Mem) :=
  some (s0, μ)
def f_X12_literal_96 (N : Nat) (μ : Mem) : Option (Int32 × Mem) :=
  f_X12_literal_97 N 0 μ
def f_X12_literal_66 (N : Nat) (a0 : Option Nat) (a1 : Int32) (a2 : Int32) (a4 : Int32) (μ : Mem) : Option (Int32 × Mem) :=
  (mpI μ a0 12 30 ((-1))).bind fun μ1 =>
  (mfI μ1 a0 12 9).bind fun v2 =>
  if v2 = 0 then
    f_X12_literal_96 N μ1
  else
    (mfI μ1 a0 12 5).bind fun v3 =>
    if ¬ v3 = 0 then
      f_X12_literal_96 N μ1
    else
      (mck μ1 a0 12).bind fun b5 =>
      (f_X12_literalFor N (some b5) a4 a2 a1 μ1).bind fun q4 =>
      f_X12_literal_97 N q4.1 q4.2
def f_X12_literal_43 (N : Nat) (a0 : Option Nat) (a1 : Int32) (a2 : Int32) (s0 : Int32) (μ : Mem) : Option (Int32 × Mem) :=
  (mck μ a0 12).bind fun b2 =>
  (f_X12_take N (some b2) μ).bind fun q1 =>
  (mck q1.2 a0 12).bind fun b4 =>
  (f_X12_all N (some b4) q1.2).bind fun q3 =>
  (mck q3.2 a0 12).bind fun b6 =>
  (f_X12_isSign N (some b6) s0 q3.2).bind fun q5 =>
  if q5.1 = 0 then
    f_X12_literal_66 N a0 a1 a2 q3.1 q5.2
  else
    (mck q5.2 a0 12).bind fun b8 =>
    (f_X12_take N (some b8) q5.2).bind fun q7 =>
    f_X12_literal_66 N a0 a1 a2 q3.1 q7.2
def f_X12_literal_26 (N : Nat) (a0 : Option Nat) (a1 : Int32) (s0 : Int32) (μ : Mem) : Option (Int32 × Mem) :=
  (mfI μ a0 12 14).bind fun v1 =>
  if ¬ v1 = (40 : Int32) then
    f_X12_literal_43 N a0 a1 s0 93 μ
  else
    f_X12_literal_43 N a0 a1 s0 41 μ
def f_X12_literal (N : Nat) (a0 : Option Nat) (μ : Mem) : Option (Int32 × Mem) :=
  (mfI μ a0 12 13).bind fun v1 =>
  (mfI μ a0 12 14).bind fun v2 =>
  if ¬ v2 = (40 : Int32) then
    f_X12_literal_26 N a0 v1 0 μ
  else
    (mfI μ a0 12 11).bind fun v3 =>
    if (128 : Int32) = 0 then none else
    f_X12_literal_26 N a0 v1 (v3 / 128) μ
set_option maxRecDepth 100000 in
set_option maxHeartbeats 4000000 in
theorem p_X12_literal_97 {x : CX} {l : Launch} {g : CG} {rv : Int32} {μ0 μ9 : Mem} (C : Cx x l g mi_X12_literal) (F : Prom x g mi_X12_literal μ0 (some (aI rv)) μ9) {N : Nat} {s0 : Int32} {μ : Mem} (h : f_X12_literal_97 N s0 μ = some (rv, μ9)) : V x g 5 0 0 μ 97 [] [aI s0] := by
  unfold f_X12_literal_97 at h
  exact v_iret C F ⟨rfl, rfl, Nat.le_refl _⟩ dX12_literal_97 h
set_option maxRecDepth 100000 in
set_option maxHeartbeats 4000000 in
theorem p_X12_literal_96 {x : CX} {l : Launch} {g : CG} {rv : Int32} {μ0 μ9 : Mem} (C : Cx x l g mi_X12_literal) (F : Prom x g mi_X12_literal μ0 (some (aI rv)) μ9) {N : Nat} {μ : Mem} (h : f_X12_literal_96 N μ = some (rv, μ9)) : V x g 5 0 0 μ 96 [] [] := by
  unfold f_X12_literal_96 at h
  refine v_iconst (v := 0) C dX12_literal_96 rfl ?_
  exact v_sb (p_X12_literal_97 C F h) trivial
set_option maxRecDepth 100000 in
set_option maxHeartbeats 4000000 in
theorem p_X12_literal_66 {x : CX} {l : Launch} {g : CG} {rv : Int32} {μ0 μ9 : Mem} (C : Cx x l g mi_X12_literal) (F : Prom x g mi_X12_literal μ0 (some (aI rv)) μ9) {N : Nat} {a0 : Option Nat} {a1 : Int32} {a2 : Int32} {a4 : Int32} {μ : Mem} (h : f_X12_literal_66 N a0 a1 a2 a4 μ = some (rv, μ9)) : V x g 5 0 0 μ 66 [(0, aR a0), (1, aI a1), (2, aI a2), (4, aI a4)] [] := by
  unfold f_X12_literal_66 at h
  refine v_aload_n C dX12_literal_66 rfl ?_
  refine v_iconst (v := -1) C dX12_literal_67 rfl ?_
  obtain ⟨m, e, h⟩ := ob h
  refine v_putI C dX12_literal_68 (pf_X12_132 _) e ?_
  refine v_aload_n C dX12_literal_71 rfl ?_
  obtain ⟨v, e, h⟩ := ob h
  refine v_getI C dX12_literal_72 gf_X12_112 e ?_
  refine v_if_eq (tgt := 96) C dX12_literal_75 (by decide) (fun c => ?_) (fun c => ?_)
  · replace h := ifT h c
    exact v_sb (p_X12_literal_96 C F h) trivial
  · replace h := ifF h c
    refine v_aload_n C dX12_literal_78 rfl ?_
    obtain ⟨v, e, h⟩ := ob h
    refine v_getI C dX12_literal_79 gf_X12_19 e ?_
    refine v_if_ne (tgt := 96) C dX12_literal_82 (by decide) (fun c => ?_) (fun c => ?_)
    · replace h := ifT h c
      exact v_sb (p_X12_literal_96 C F h) trivial
    · replace h := ifF h c
      refine v_aload_n C dX12_literal_85 rfl ?_
      refine v_iload C dX12_literal_86 rfl ?_
      refine v_iload_n C dX12_literal_88 rfl ?_
      refine v_iload_n C dX12_literal_89 rfl ?_
      obtain ⟨b, e0, h⟩ := ob h
      obtain ⟨q, e, h⟩ := ob h
      refine v_callV (As := [_, _, _]) C dX12_literal_90 cf_X12_209 (rm_X12_literal_X12_literalFor) ⟨rfl, rfl⟩ e0 rfl (Nat.le_of_ble_eq_true rfl) (c_X12_literalFor _ _ N _ _ _ _ _ q.1 q.2 e) ?_
      refine v_goto (tgt := 97) C dX12_literal_93 (by decide) ?_
      exact v_sb (p_X12_literal_97 C F h) trivial
set_option maxRecDepth 100000 in
set_option maxHeartbeats 4000000 in
theorem p_X12_literal_43 {x : CX} {l : Launch} {g : CG} {rv : Int32} {μ0 μ9 : Mem} (C : Cx x l g mi_X12_literal) (F : Prom x g mi_X12_literal μ0 (some (aI rv)) μ9) {N : Nat} {a0 : Option Nat} {a1 : Int32} {a2 : Int32} {s0 : Int32} {μ : Mem} (h : f_X12_literal_43 N a0 a1 a2 s0 μ = some (rv, μ9)) : V x g 5 0 0 μ 43 [(0, aR a0), (1, aI a1), (2, aI a2)] [aI s0] := by
  unfold f_X12_literal_43 at h
  refine v_istore_n C dX12_literal_43 (by decide) ?_
  refine v_aload_n C dX12_literal_44 rfl ?_
  obtain ⟨b, e0, h⟩ := ob h
  obtain ⟨q, e, h⟩ := ob h
  refine v_callV (As := []) C dX12_literal_45 cf_X12_126 (rm_X12_literal_X12_take) ⟨rfl, rfl⟩ e0 rfl (Nat.le_of_ble_eq_true rfl) (c_X12_take _ _ N _ _ q.1 q.2 e) ?_
  refine v_aload_n C dX12_literal_48 rfl ?_
  obtain ⟨b, e0, h⟩ := ob h
  obtain ⟨q, e, h⟩ := ob h
  refine v_callV (As := []) C dX12_literal_49 cf_X12_177 (rm_X12_literal_X12_all) ⟨rfl, rfl⟩ e0 rfl (Nat.le_of_ble_eq_true rfl) (c_X12_all _ _ N _ _ q.1 q.2 e) ?_
  refine v_istore C dX12_literal_52 (by decide) ?_
  refine v_aload_n C dX12_literal_54 rfl ?_
  refine v_iload_n C dX12_literal_55 rfl ?_
  obtain ⟨b, e0, h⟩ := ob h
  obtain ⟨q, e, h⟩ := ob h
  refine v_callV (As := [_]) C dX12_literal_56 cf_X12_123 (rm_X12_literal_X12_isSign) ⟨rfl, rfl⟩ e0 rfl (Nat.le_of_ble_eq_true rfl) (c_X12_isSign _ _ N _ _ _ q.1 q.2 e) ?_
  refine v_if_eq (tgt := 66) C dX12_literal_59 (by decide) (fun c => ?_) (fun c => ?_)
  · replace h := ifT h c
    exact v_sb (p_X12_literal_66 C F h) ⟨rfl, rfl, rfl, rfl, trivial⟩
  · replace h := ifF h c
    refine v_aload_n C dX12_literal_62 rfl ?_
    obtain ⟨b, e0, h⟩ := ob h
    obtain ⟨q, e, h⟩ := ob h
    refine v_callV (As := []) C dX12_literal_63 cf_X12_126 (rm_X12_literal_X12_take) ⟨rfl, rfl⟩ e0 rfl (Nat.le_of_ble_eq_true rfl) (c_X12_take _ _ N _ _ q.1 q.2 e) ?_
    exact v_sb (p_X12_literal_66 C F h) ⟨rfl, rfl, rfl, rfl, trivial⟩
set_option maxRecDepth 100000 in
set_option maxHeartbeats 4000000 in
theorem p_X12_literal_26 {x : CX} {l : Launch} {g : CG} {rv : Int32} {μ0 μ9 : Mem} (C : Cx x l g mi_X12_literal) (F : Prom x g mi_X12_literal μ0 (some (aI rv)) μ9) {N : Nat} {a0 : Option Nat} {a1 : Int32} {s0 : Int32} {μ : Mem} (h : f_X12_literal_26 N a0 a1 s0 μ = some (rv, μ9)) : V x g 5 0 0 μ 26 [(0, aR a0), (1, aI a1)] [aI s0] := by
  unfold f_X12_literal_26 at h
  refine v_istore_n C dX12_literal_26 (by decide) ?_
  refine v_aload_n C dX12_literal_27 rfl ?_
  obtain ⟨v, e, h⟩ := ob h
  refine v_getI C dX12_literal_28 gf_X12_64 e ?_
  refine v_bipush (v := 40) C dX12_literal_31 rfl ?_
  refine v_icmp_ne (tgt := 41) C dX12_literal_33 (by decide) (fun c => ?_) (fun c => ?_)
  · replace h := ifT h c
    refine v_bipush (v := 93) C dX12_literal_41 rfl ?_
    exact v_sb (p_X12_literal_43 C F h) ⟨rfl, rfl, rfl, trivial⟩
  · replace h := ifF h c
    refine v_bipush (v := 41) C dX12_literal_36 rfl ?_
    refine v_goto (tgt := 43) C dX12_literal_38 (by decide) ?_
    exact v_sb (p_X12_literal_43 C F h) ⟨rfl, rfl, rfl, trivial⟩
set_option maxRecDepth 100000 in
set_option maxHeartbeats 4000000 in
theorem p_X12_literal {x : CX} {l : Launch} {g : CG} {rv : Int32} {μ0 μ9 : Mem} (C : Cx x l g mi_X12_literal) (F : Prom x g mi_X12_literal μ0 (some (aI rv)) μ9) {N : Nat} {a0 : Option Nat} {μ : Mem} (h : f_X12_literal N a0 μ = some (rv, μ9)) : V x g 5 0 0 μ 0 [(0, aR a0)] [] := by
  unfold f_X12_literal at h
  refine v_aload_n C dX12_literal_0 rfl ?_
  obtain ⟨v, e, h⟩ := ob h
  refine v_getI C dX12_literal_1 gf_X12_34 e ?_
  refine v_istore_n C dX12_literal_4 (by decide) ?_
  refine v_aload_n C dX12_literal_5 rfl ?_
  obtain ⟨v, e, h⟩ := ob h
  refine v_getI C dX12_literal_6 gf_X12_64 e ?_
  refine v_bipush (v := 40) C dX12_literal_9 rfl ?_
  refine v_icmp_ne (tgt := 25) C dX12_literal_11 (by decide) (fun c => ?_) (fun c => ?_)
  · replace h := ifT h c
    refine v_iconst (v := 0) C dX12_literal_25 rfl ?_
    exact v_sb (p_X12_literal_26 C F h) ⟨rfl, rfl, trivial⟩
  · replace h := ifF h c
    refine v_aload_n C dX12_literal_14 rfl ?_
    obtain ⟨v, e, h⟩ := ob h
    refine v_getI C dX12_literal_15 gf_X12_129 e ?_
    refine v_sipush (v := 128) C dX12_literal_18 rfl ?_
    obtain ⟨c0, h⟩ := oz h
    refine v_idiv C dX12_literal_21 c0 ?_
    refine v_goto (tgt := 26) C dX12_literal_22 (by decide) ?_
    exact v_sb (p_X12_literal_26 C F h) ⟨rfl, rfl, trivial⟩
set_option maxRecDepth 100000 in
set_option maxHeartbeats 4000000 in
theorem c_X12_literal (l : Launch) (g : CG) (N : Nat) (a0 : Option Nat) (μ : Mem) (rv : Int32) (μ9 : Mem) (h : f_X12_literal N a0 μ = some (rv, μ9)) : Ct l yX12_literal mi_X12_literal g [aR a0] μ (some (aI rv)) μ9 := ct_of ⟨by decide, rfl, rfl⟩ (Nat.le_of_ble_eq_true rfl) fun x C F => p_X12_literal C F h
def f_X12_memory_125 (N : Nat) (s0 : Int32) (s1 : Int32) (μ : Mem) : Option (Int32 × Mem) :=
  some (s0 ||| s1, μ)
def f_X12_memory_12 (N : Nat) (a0 : Option Nat) (a2 : Int32) (a3 : Int32) (a4 : Int32) (s0 : Int32) (s1 : Int32) (μ : Mem) : Option (Int32 × Mem) :=
  if (128 : Int32) ≤ a3 then
    if (128 : Int32) = 0 then none else
    (mfI μ a0 12 11).bind fun v1 =>
    if (128 : Int32) = 0 then none else
    if ¬ (a3 / 128) = (v1 / 128) then
      (mfI μ a0 12 9).bind fun v2 =>
      if ¬ v2 = 0 then
        if a2 = 0 then
          (mfI μ a0 12 11).bind fun v3 =>
          if (128 : Int32) = 0 then none else
          (mck μ a0 12).bind fun b5 =>
          (f_X12_literalFor N (some b5) a3 (v3 / 128) a4 μ).bind fun q4 =>
          if (128 : Int32) ≤ q4.1 then
            f_X12_memory_125 N ((s0 ||| s1) ||| 256) (128 ||| (q4.1 &&& 127)) q4.2
          else
            f_X12_memory_125 N ((s0 ||| s1) ||| 256) q4.1 q4.2
        else
          (mck μ a0 12).bind fun b7 =>
          (f_X12_fails N (some b7) 7 a4 μ).bind fun q6 =>
          some (s0 ||| s1, q6.2)
      else
        some (s0 ||| s1, μ)
    else
      some (((s0 ||| s1) ||| 128) ||| (a3 &&& 127), μ)
  else
    some ((s0 ||| s1) ||| a3, μ)
def f_X12_memory (N : Nat) (a0 : Option Nat) (a1 : Int32) (a2 : Int32) (a3 : Int32) (a4 : Int32) (μ : Mem) : Option (Int32 × Mem) :=
  if a2 = 0 then
    f_X12_memory_12 N a0 a2 a3 a4 a1 0 μ
  else
    f_X12_memory_12 N a0 a2 a3 a4 a1 256 μ
set_option maxRecDepth 100000 in
set_option maxHeartbeats 4000000 in
theorem p_X12_memory_125 {x : CX} {l : Launch} {g : CG} {rv : Int32} {μ0 μ9 : Mem} (C : Cx x l g mi_X12_memory) (F : Prom x g mi_X12_memory μ0 (some (aI rv)) μ9) {N : Nat} {s0 : Int32} {s1 : Int32} {μ : Mem} (h : f_X12_memory_125 N s0 s1 μ = some (rv, μ9)) : V x g 7 0 0 μ 125 [] [aI s1, aI s0] := by
  unfold f_X12_memory_125 at h
  refine v_ior C dX12_memory_125 ?_
  exact v_iret C F ⟨rfl, rfl, Nat.le_refl _⟩ dX12_memory_126 h
set_option maxRecDepth 100000 in
set_option maxHeartbeats 4000000 in
theorem p_X12_memory_12 {x : CX} {l : Launch} {g : CG} {rv : Int32} {μ0 μ9 : Mem} (C : Cx x l g mi_X12_memory) (F : Prom x g mi_X12_memory μ0 (some (aI rv)) μ9) {N : Nat} {a0 : Option Nat} {a2 : Int32} {a3 : Int32} {a4 : Int32} {s0 : Int32} {s1 : Int32} {μ : Mem} (h : f_X12_memory_12 N a0 a2 a3 a4 s0 s1 μ = some (rv, μ9)) : V x g 7 0 0 μ 12 [(0, aR a0), (2, aI a2), (3, aI a3), (4, aI a4)] [aI s1, aI s0] := by
  unfold f_X12_memory_12 at h
  refine v_ior C dX12_memory_12 ?_
  refine v_istore C dX12_memory_13 (by decide) ?_
  refine v_iload_n C dX12_memory_15 rfl ?_
  refine v_sipush (v := 128) C dX12_memory_16 rfl ?_
  refine v_icmp_ge (tgt := 27) C dX12_memory_19 (by decide) (fun c => ?_) (fun c => ?_)
  · replace h := ifT h c
    refine v_iload_n C dX12_memory_27 rfl ?_
    refine v_sipush (v := 128) C dX12_memory_28 rfl ?_
    obtain ⟨c0, h⟩ := oz h
    refine v_idiv C dX12_memory_31 c0 ?_
    refine v_aload_n C dX12_memory_32 rfl ?_
    obtain ⟨v, e, h⟩ := ob h
    refine v_getI C dX12_memory_33 gf_X12_129 e ?_
    refine v_sipush (v := 128) C dX12_memory_36 rfl ?_
    obtain ⟨c0, h⟩ := oz h
    refine v_idiv C dX12_memory_39 c0 ?_
    refine v_icmp_ne (tgt := 55) C dX12_memory_40 (by decide) (fun c => ?_) (fun c => ?_)
    · replace h := ifT h c
      refine v_aload_n C dX12_memory_55 rfl ?_
      obtain ⟨v, e, h⟩ := ob h
      refine v_getI C dX12_memory_56 gf_X12_112 e ?_
      refine v_if_ne (tgt := 65) C dX12_memory_59 (by decide) (fun c => ?_) (fun c => ?_)
      · replace h := ifT h c
        refine v_iload_n C dX12_memory_65 rfl ?_
        refine v_if_eq (tgt := 80) C dX12_memory_66 (by decide) (fun c => ?_) (fun c => ?_)
        · replace h := ifT h c
          refine v_aload_n C dX12_memory_80 rfl ?_
          refine v_iload_n C dX12_memory_81 rfl ?_
          refine v_aload_n C dX12_memory_82 rfl ?_
          obtain ⟨v, e, h⟩ := ob h
          refine v_getI C dX12_memory_83 gf_X12_129 e ?_
          refine v_sipush (v := 128) C dX12_memory_86 rfl ?_
          obtain ⟨c0, h⟩ := oz h
          refine v_idiv C dX12_memory_89 c0 ?_
          refine v_iload C dX12_memory_90 rfl ?_
          obtain ⟨b, e0, h⟩ := ob h
          obtain ⟨q, e, h⟩ := ob h
          refine v_callV (As := [_, _, _]) C dX12_memory_92 cf_X12_209 (rm_X12_memory_X12_literalFor) ⟨rfl, rfl⟩ e0 rfl (Nat.le_of_ble_eq_true rfl) (c_X12_literalFor _ _ N _ _ _ _ _ q.1 q.2 e) ?_
          refine v_istore C dX12_memory_95 (by decide) ?_
          refine v_iload C dX12_memory_97 rfl ?_
          refine v_sipush (v := 256) C dX12_memory_99 rfl ?_
          refine v_ior C dX12_memory_102 ?_
          refine v_iload C dX12_memory_103 rfl ?_
          refine v_sipush (v := 128) C dX12_memory_105 rfl ?_
          refine v_icmp_ge (tgt := 116) C dX12_memory_108 (by decide) (fun c => ?_) (fun c => ?_)
          · replace h := ifT h c
            refine v_sipush (v := 128) C dX12_memory_116 rfl ?_
            refine v_iload C dX12_memory_119 rfl ?_
            refine v_bipush (v := 127) C dX12_memory_121 rfl ?_
            refine v_iand C dX12_memory_123 ?_
            refine v_ior C dX12_memory_124 ?_
            exact v_sb (p_X12_memory_125 C F h) trivial
          · replace h := ifF h c
            refine v_iload C dX12_memory_111 rfl ?_
            refine v_goto (tgt := 125) C dX12_memory_113 (by decide) ?_
            exact v_sb (p_X12_memory_125 C F h) trivial
        · replace h := ifF h c
          refine v_aload_n C dX12_memory_69 rfl ?_
          refine v_bipush (v := 7) C dX12_memory_70 rfl ?_
          refine v_iload C dX12_memory_72 rfl ?_
          obtain ⟨b, e0, h⟩ := ob h
          obtain ⟨q, e, h⟩ := ob h
          refine v_callV (As := [_, _]) C dX12_memory_74 cf_X12_57 (rm_X12_memory_X12_fails) ⟨rfl, rfl⟩ e0 rfl (Nat.le_of_ble_eq_true rfl) (c_X12_fails _ _ N _ _ _ _ q.1 q.2 e) ?_
          refine v_iload C dX12_memory_77 rfl ?_
          exact v_iret C F ⟨rfl, rfl, Nat.le_refl _⟩ dX12_memory_79 h
      · replace h := ifF h c
        refine v_iload C dX12_memory_62 rfl ?_
        exact v_iret C F ⟨rfl, rfl, Nat.le_refl _⟩ dX12_memory_64 h
    · replace h := ifF h c
      refine v_iload C dX12_memory_43 rfl ?_
      refine v_sipush (v := 128) C dX12_memory_45 rfl ?_
      refine v_ior C dX12_memory_48 ?_
      refine v_iload_n C dX12_memory_49 rfl ?_
      refine v_bipush (v := 127) C dX12_memory_50 rfl ?_
      refine v_iand C dX12_memory_52 ?_
      refine v_ior C dX12_memory_53 ?_
      exact v_iret C F ⟨rfl, rfl, Nat.le_refl _⟩ dX12_memory_54 h
  · replace h := ifF h c
    refine v_iload C dX12_memory_22 rfl ?_
    refine v_iload_n C dX12_memory_24 rfl ?_
    refine v_ior C dX12_memory_25 ?_
    exact v_iret C F ⟨rfl, rfl, Nat.le_refl _⟩ dX12_memory_26 h
set_option maxRecDepth 100000 in
set_option maxHeartbeats 4000000 in
theorem p_X12_memory {x : CX} {l : Launch} {g : CG} {rv : Int32} {μ0 μ9 : Mem} (C : Cx x l g mi_X12_memory) (F : Prom x g mi_X12_memory μ0 (some (aI rv)) μ9) {N : Nat} {a0 : Option Nat} {a1 : Int32} {a2 : Int32} {a3 : Int32} {a4 : Int32} {μ : Mem} (h : f_X12_memory N a0 a1 a2 a3 a4 μ = some (rv, μ9)) : V x g 7 0 0 μ 0 [(0, aR a0), (1, aI a1), (2, aI a2), (3, aI a3), (4, aI a4)] [] := by
  unfold f_X12_memory at h
  refine v_iload_n C dX12_memory_0 rfl ?_
  refine v_iload_n C dX12_memory_1 rfl ?_
  refine v_if_eq (tgt := 11) C dX12_memory_2 (by decide) (fun c => ?_) (fun c => ?_)
  · replace h := ifT h c
    refine v_iconst (v := 0) C dX12_memory_11 rfl ?_
    exact v_sb (p_X12_memory_12 C F h) ⟨rfl, rfl, rfl, rfl, trivial⟩
  · replace h := ifF h c
    refine v_sipush (v := 256) C dX12_memory_5 rfl ?_
    refine v_goto (tgt := 12) C dX12_memory_8 (by decide) ?_
    exact v_sb (p_X12_memory_12 C F h) ⟨rfl, rfl, rfl, rfl, trivial⟩
set_option maxRecDepth 100000 in
set_option maxHeartbeats 4000000 in
theorem c_X12_memory (l : Launch) (g : CG) (N : Nat) (a0 : Option Nat) (a1 : Int32) (a2 : Int32) (a3 : Int32) (a4 : Int32) (μ : Mem) (rv : Int32) (μ9 : Mem) (h : f_X12_memory N a0 a1 a2 a3 a4 μ = some (rv, μ9)) : Ct l yX12_memory mi_X12_memory g [aR a0, aI a1, aI a2, aI a3, aI a4] μ (some (aI rv)) μ9 := ct_of ⟨by decide, rfl, rfl⟩ (Nat.le_of_ble_eq_true rfl) fun x C F => p_X12_memory C F h
