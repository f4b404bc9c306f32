/-! LAYER 1: X11.drum, X8.register, X11.slot, X11.block, X10.letterOnPaper, X11.paper (by program) -/
def f_X11_drum_30 (N : Nat) (s0 : Int32) (μ : Mem) : Option (Int32 × Mem) :=
  some (s0, μ)
def f_X11_drum_20 (N : Nat) (μ : Mem) : Option (Int32 × Mem) :=
  f_X11_drum_30 N ((-1)) μ
def f_X11_drum (N : Nat) (a0 : Option Nat) (a1 : Int32) (a2 : Int32) (μ : Mem) : Option (Int32 × Mem) :=
  (mfR μ a0 11 3).bind fun v1 =>
  (mck μ v1 2).bind fun b3 =>
  (f_X2_userAt N (some b3) a1 μ).bind fun q2 =>
  if q2.1 = none then
    f_X11_drum_20 N q2.2
  else
    (f_X11_isWord N a2 q2.2).bind fun q4 =>
    if ¬ q4.1 = 0 then
      (mfR q4.2 q2.1 10 1).bind fun v5 =>
      (maI q4.2 0 v5 a2).bind fun v6 =>
      f_X11_drum_30 N v6 q4.2
    else
      f_X11_drum_20 N q4.2
set_option maxRecDepth 100000 in
set_option maxHeartbeats 4000000 in
theorem p_X11_drum_30 {x : CX} {l : Launch} {g : CG} {rv : Int32} {μ0 μ9 : Mem} (C : Cx x l g mi_X11_drum) (F : Prom x g mi_X11_drum μ0 (some (aI rv)) μ9) {N : Nat} {s0 : Int32} {μ : Mem} (h : f_X11_drum_30 N s0 μ = some (rv, μ9)) : V x g 4 0 0 μ 30 [] [aI s0] := by
  unfold f_X11_drum_30 at h
  exact v_iret C F ⟨rfl, rfl, Nat.le_refl _⟩ dX11_drum_30 h
set_option maxRecDepth 100000 in
set_option maxHeartbeats 4000000 in
theorem p_X11_drum_20 {x : CX} {l : Launch} {g : CG} {rv : Int32} {μ0 μ9 : Mem} (C : Cx x l g mi_X11_drum) (F : Prom x g mi_X11_drum μ0 (some (aI rv)) μ9) {N : Nat} {μ : Mem} (h : f_X11_drum_20 N μ = some (rv, μ9)) : V x g 4 0 0 μ 20 [] [] := by
  unfold f_X11_drum_20 at h
  refine v_iconst (v := -1) C dX11_drum_20 rfl ?_
  refine v_goto (tgt := 30) C dX11_drum_21 (by decide) ?_
  exact v_sb (p_X11_drum_30 C F h) trivial
set_option maxRecDepth 100000 in
set_option maxHeartbeats 4000000 in
theorem p_X11_drum {x : CX} {l : Launch} {g : CG} {rv : Int32} {μ0 μ9 : Mem} (C : Cx x l g mi_X11_drum) (F : Prom x g mi_X11_drum μ0 (some (aI rv)) μ9) {N : Nat} {a0 : Option Nat} {a1 : Int32} {a2 : Int32} {μ : Mem} (h : f_X11_drum N a0 a1 a2 μ = some (rv, μ9)) : V x g 4 0 0 μ 0 [(0, aR a0), (1, aI a1), (2, aI a2)] [] := by
  unfold f_X11_drum at h
  refine v_aload_n C dX11_drum_0 rfl ?_
  obtain ⟨v, e, h⟩ := ob h
  refine v_getR C dX11_drum_1 gf_X11_33 e ?_
  refine v_iload_n C dX11_drum_4 rfl ?_
  obtain ⟨b, e0, h⟩ := ob h
  obtain ⟨q, e, h⟩ := ob h
  refine v_callV (As := [_]) C dX11_drum_5 cf_X11_77 (rm_X11_drum_X2_userAt) ⟨rfl, rfl⟩ e0 rfl (Nat.le_of_ble_eq_true rfl) (c_X2_userAt _ _ N _ _ _ q.1 q.2 e) ?_
  refine v_astore_n C dX11_drum_8 (by decide) ?_
  refine v_aload_n C dX11_drum_9 rfl ?_
  refine v_ifnull (tgt := 20) C dX11_drum_10 (by decide) (fun c => ?_) (fun c => ?_)
  · replace h := ifT h c
    exact v_sb (p_X11_drum_20 C F h) trivial
  · replace h := ifF h c
    refine v_iload_n C dX11_drum_13 rfl ?_
    obtain ⟨q, e, h⟩ := ob h
    refine v_callS (As := [_]) C dX11_drum_14 cf_X11_89 (rm_X11_drum_X11_isWord) ⟨rfl, rfl⟩ rfl (Nat.le_of_ble_eq_true rfl) (c_X11_isWord _ _ N _ _ q.1 q.2 e) ?_
    refine v_if_ne (tgt := 24) C dX11_drum_17 (by decide) (fun c => ?_) (fun c => ?_)
    · replace h := ifT h c
      refine v_aload_n C dX11_drum_24 rfl ?_
      obtain ⟨v, e, h⟩ := ob h
      refine v_getR C dX11_drum_25 gf_X11_185 e ?_
      refine v_iload_n C dX11_drum_28 rfl ?_
      obtain ⟨v, e, h⟩ := ob h
      refine v_iaload C dX11_drum_29 e ?_
      exact v_sb (p_X11_drum_30 C F h) trivial
    · replace h := ifF h c
      exact v_sb (p_X11_drum_20 C F h) trivial
set_option maxRecDepth 100000 in
set_option maxHeartbeats 4000000 in
theorem c_X11_drum (l : Launch) (g : CG) (N : Nat) (a0 : Option Nat) (a1 : Int32) (a2 : Int32) (μ : Mem) (rv : Int32) (μ9 : Mem) (h : f_X11_drum N a0 a1 a2 μ = some (rv, μ9)) : Ct l yX11_drum mi_X11_drum g [aR a0, aI a1, aI a2] μ (some (aI rv)) μ9 := ct_of ⟨by decide, rfl, rfl⟩ (Nat.le_of_ble_eq_true rfl) fun x C F => p_X11_drum C F h
def f_X8_register_46 (N : Nat) (s0 : Int32) (μ : Mem) : Option (Int32 × Mem) :=
  some (s0, μ)
def f_X8_register_59 (N : Nat) (s0 : Int32) (μ : Mem) : Option (Int32 × Mem) :=
  some (s0, μ)
def f_X8_register_72 (N : Nat) (s0 : Int32) (μ : Mem) : Option (Int32 × Mem) :=
  some (s0, μ)
def f_X8_register (N : Nat) (a0 : Option Nat) (a1 : Int32) (μ : Mem) : Option (Int32 × Mem) :=
  if a1 = 0 then
    (mfR μ a0 8 2).bind fun v1 =>
    if ¬ v1 = none then
      (mfR μ a0 8 2).bind fun v2 =>
      (mfI μ v2 10 0).bind fun v3 =>
      f_X8_register_46 N v3 μ
    else
      f_X8_register_46 N ((-1)) μ
  else
    if a1 = 1 then
      (mfI μ a0 8 3).bind fun v4 =>
      if v4 = 0 then
        f_X8_register_59 N 0 μ
      else
        f_X8_register_59 N 1 μ
    else
      if a1 = 2 then
        (mfI μ a0 8 4).bind fun v5 =>
        if v5 = 0 then
          f_X8_register_72 N 0 μ
        else
          f_X8_register_72 N 1 μ
      else
        some ((-1), μ)
set_option maxRecDepth 100000 in
set_option maxHeartbeats 4000000 in
theorem p_X8_register_46 {x : CX} {l : Launch} {g : CG} {rv : Int32} {μ0 μ9 : Mem} (C : Cx x l g mi_X8_register) (F : Prom x g mi_X8_register μ0 (some (aI rv)) μ9) {N : Nat} {s0 : Int32} {μ : Mem} (h : f_X8_register_46 N s0 μ = some (rv, μ9)) : V x g 2 0 0 μ 46 [] [aI s0] := by
  unfold f_X8_register_46 at h
  exact v_iret C F ⟨rfl, rfl, Nat.le_refl _⟩ dX8_register_46 h
set_option maxRecDepth 100000 in
set_option maxHeartbeats 4000000 in
theorem p_X8_register_59 {x : CX} {l : Launch} {g : CG} {rv : Int32} {μ0 μ9 : Mem} (C : Cx x l g mi_X8_register) (F : Prom x g mi_X8_register μ0 (some (aI rv)) μ9) {N : Nat} {s0 : Int32} {μ : Mem} (h : f_X8_register_59 N s0 μ = some (rv, μ9)) : V x g 2 0 0 μ 59 [] [aI s0] := by
  unfold f_X8_register_59 at h
  exact v_iret C F ⟨rfl, rfl, Nat.le_refl _⟩ dX8_register_59 h
set_option maxRecDepth 100000 in
set_option maxHeartbeats 4000000 in
theorem p_X8_register_72 {x : CX} {l : Launch} {g : CG} {rv : Int32} {μ0 μ9 : Mem} (C : Cx x l g mi_X8_register) (F : Prom x g mi_X8_register μ0 (some (aI rv)) μ9) {N : Nat} {s0 : Int32} {μ : Mem} (h : f_X8_register_72 N s0 μ = some (rv, μ9)) : V x g 2 0 0 μ 72 [] [aI s0] := by
  unfold f_X8_register_72 at h
  exact v_iret C F ⟨rfl, rfl, Nat.le_refl _⟩ dX8_register_72 h
set_option maxRecDepth 100000 in
set_option maxHeartbeats 4000000 in
theorem p_X8_register {x : CX} {l : Launch} {g : CG} {rv : Int32} {μ0 μ9 : Mem} (C : Cx x l g mi_X8_register) (F : Prom x g mi_X8_register μ0 (some (aI rv)) μ9) {N : Nat} {a0 : Option Nat} {a1 : Int32} {μ : Mem} (h : f_X8_register N a0 a1 μ = some (rv, μ9)) : V x g 2 0 0 μ 0 [(0, aR a0), (1, aI a1)] [] := by
  unfold f_X8_register at h
  refine v_iload_n C dX8_register_0 rfl ?_
  refine v_tableswitch (dt := 73) (cs := [(0, 28), (1, 47), (2, 60)]) C dX8_register_1 (by decide) (by decide) (by decide) (by decide) ?_
  refine v_case (fun c => ?_) (fun c => ?_)
  · replace h := ifT h c
    refine v_aload_n C dX8_register_28 rfl ?_
    obtain ⟨v, e, h⟩ := ob h
    refine v_getR C dX8_register_29 gf_X8_15 e ?_
    refine v_ifnonnull (tgt := 39) C dX8_register_32 (by decide) (fun c => ?_) (fun c => ?_)
    · replace h := ifT h c
      refine v_aload_n C dX8_register_39 rfl ?_
      obtain ⟨v, e, h⟩ := ob h
      refine v_getR C dX8_register_40 gf_X8_15 e ?_
      obtain ⟨v, e, h⟩ := ob h
      refine v_getI C dX8_register_43 gf_X8_36 e ?_
      exact v_sb (p_X8_register_46 C F h) trivial
    · replace h := ifF h c
      refine v_iconst (v := -1) C dX8_register_35 rfl ?_
      refine v_goto (tgt := 46) C dX8_register_36 (by decide) ?_
      exact v_sb (p_X8_register_46 C F h) trivial
  · replace h := ifF h c
    refine v_case (fun c => ?_) (fun c => ?_)
    · replace h := ifT h c
      refine v_aload_n C dX8_register_47 rfl ?_
      obtain ⟨v, e, h⟩ := ob h
      refine v_getI C dX8_register_48 gf_X8_19 e ?_
      refine v_if_eq (tgt := 58) C dX8_register_51 (by decide) (fun c => ?_) (fun c => ?_)
      · replace h := ifT h c
        refine v_iconst (v := 0) C dX8_register_58 rfl ?_
        exact v_sb (p_X8_register_59 C F h) trivial
      · replace h := ifF h c
        refine v_iconst (v := 1) C dX8_register_54 rfl ?_
        refine v_goto (tgt := 59) C dX8_register_55 (by decide) ?_
        exact v_sb (p_X8_register_59 C F h) trivial
    · replace h := ifF h c
      refine v_case (fun c => ?_) (fun c => ?_)
      · replace h := ifT h c
        refine v_aload_n C dX8_register_60 rfl ?_
        obtain ⟨v, e, h⟩ := ob h
        refine v_getI C dX8_register_61 gf_X8_23 e ?_
        refine v_if_eq (tgt := 71) C dX8_register_64 (by decide) (fun c => ?_) (fun c => ?_)
        · replace h := ifT h c
          refine v_iconst (v := 0) C dX8_register_71 rfl ?_
          exact v_sb (p_X8_register_72 C F h) trivial
        · replace h := ifF h c
          refine v_iconst (v := 1) C dX8_register_67 rfl ?_
          refine v_goto (tgt := 72) C dX8_register_68 (by decide) ?_
          exact v_sb (p_X8_register_72 C F h) trivial
      · replace h := ifF h c
        refine v_caseD ?_
        refine v_iconst (v := -1) C dX8_register_73 rfl ?_
        exact v_iret C F ⟨rfl, rfl, Nat.le_refl _⟩ dX8_register_74 h
set_option maxRecDepth 100000 in
set_option maxHeartbeats 4000000 in
theorem c_X8_register (l : Launch) (g : CG) (N : Nat) (a0 : Option Nat) (a1 : Int32) (μ : Mem) (rv : Int32) (μ9 : Mem) (h : f_X8_register N a0 a1 μ = some (rv, μ9)) : Ct l yX8_register mi_X8_register g [aR a0, aI a1] μ (some (aI rv)) μ9 := ct_of ⟨by decide, rfl, rfl⟩ (Nat.le_of_ble_eq_true rfl) fun x C F => p_X8_register C F h
def f_X11_slot_22 (N : Nat) (s0 : Int32) (μ : Mem) : Option (Int32 × Mem) :=
  some (s0, μ)
def f_X11_slot (N : Nat) (a0 : Option Nat) (a1 : Int32) (a2 : Int32) (μ : Mem) : Option (Int32 × Mem) :=
  (mfR μ a0 11 3).bind fun v1 =>
  (mck μ v1 2).bind fun b3 =>
  (f_X2_slotAt N (some b3) a1 μ).bind fun q2 =>
  if ¬ q2.1 = none then
    (mck q2.2 q2.1 8).bind fun b5 =>
    (f_X8_register N (some b5) a2 q2.2).bind fun q4 =>
    f_X11_slot_22 N q4.1 q4.2
  else
    f_X11_slot_22 N ((-1)) q2.2
set_option maxRecDepth 100000 in
set_option maxHeartbeats 4000000 in
theorem p_X11_slot_22 {x : CX} {l : Launch} {g : CG} {rv : Int32} {μ0 μ9 : Mem} (C : Cx x l g mi_X11_slot) (F : Prom x g mi_X11_slot μ0 (some (aI rv)) μ9) {N : Nat} {s0 : Int32} {μ : Mem} (h : f_X11_slot_22 N s0 μ = some (rv, μ9)) : V x g 4 0 0 μ 22 [] [aI s0] := by
  unfold f_X11_slot_22 at h
  exact v_iret C F ⟨rfl, rfl, Nat.le_refl _⟩ dX11_slot_22 h
set_option maxRecDepth 100000 in
set_option maxHeartbeats 4000000 in
theorem p_X11_slot {x : CX} {l : Launch} {g : CG} {rv : Int32} {μ0 μ9 : Mem} (C : Cx x l g mi_X11_slot) (F : Prom x g mi_X11_slot μ0 (some (aI rv)) μ9) {N : Nat} {a0 : Option Nat} {a1 : Int32} {a2 : Int32} {μ : Mem} (h : f_X11_slot N a0 a1 a2 μ = some (rv, μ9)) : V x g 4 0 0 μ 0 [(0, aR a0), (1, aI a1), (2, aI a2)] [] := by
  unfold f_X11_slot at h
  refine v_aload_n C dX11_slot_0 rfl ?_
  obtain ⟨v, e, h⟩ := ob h
  refine v_getR C dX11_slot_1 gf_X11_33 e ?_
  refine v_iload_n C dX11_slot_4 rfl ?_
  obtain ⟨b, e0, h⟩ := ob h
  obtain ⟨q, e, h⟩ := ob h
  refine v_callV (As := [_]) C dX11_slot_5 cf_X11_178 (rm_X11_slot_X2_slotAt) ⟨rfl, rfl⟩ e0 rfl (Nat.le_of_ble_eq_true rfl) (c_X2_slotAt _ _ N _ _ _ q.1 q.2 e) ?_
  refine v_astore_n C dX11_slot_8 (by decide) ?_
  refine v_aload_n C dX11_slot_9 rfl ?_
  refine v_ifnonnull (tgt := 17) C dX11_slot_10 (by decide) (fun c => ?_) (fun c => ?_)
  · replace h := ifT h c
    refine v_aload_n C dX11_slot_17 rfl ?_
    refine v_iload_n C dX11_slot_18 rfl ?_
    obtain ⟨b, e0, h⟩ := ob h
    obtain ⟨q, e, h⟩ := ob h
    refine v_callV (As := [_]) C dX11_slot_19 cf_X11_188 (rm_X11_slot_X8_register) ⟨rfl, rfl⟩ e0 rfl (Nat.le_of_ble_eq_true rfl) (c_X8_register _ _ N _ _ _ q.1 q.2 e) ?_
    exact v_sb (p_X11_slot_22 C F h) trivial
  · replace h := ifF h c
    refine v_iconst (v := -1) C dX11_slot_13 rfl ?_
    refine v_goto (tgt := 22) C dX11_slot_14 (by decide) ?_
    exact v_sb (p_X11_slot_22 C F h) trivial
set_option maxRecDepth 100000 in
set_option maxHeartbeats 4000000 in
theorem c_X11_slot (l : Launch) (g : CG) (N : Nat) (a0 : Option Nat) (a1 : Int32) (a2 : Int32) (μ : Mem) (rv : Int32) (μ9 : Mem) (h : f_X11_slot N a0 a1 a2 μ = some (rv, μ9)) : Ct l yX11_slot mi_X11_slot g [aR a0, aI a1, aI a2] μ (some (aI rv)) μ9 := ct_of ⟨by decide, rfl, rfl⟩ (Nat.le_of_ble_eq_true rfl) fun x C F => p_X11_slot C F h
def f_X11_block_36 (N : Nat) (μ : Mem) : Option (Int32 × Mem) :=
  some ((-1), μ)
def f_X11_block (N : Nat) (a0 : Option Nat) (a1 : Int32) (a2 : Int32) (a3 : Int32) (μ : Mem) : Option (Int32 × Mem) :=
  (mfR μ a0 11 3).bind fun v1 =>
  (mck μ v1 2).bind fun b3 =>
  (f_X2_userAt N (some b3) a1 μ).bind fun q2 =>
  if q2.1 = none then
    f_X11_block_36 N q2.2
  else
    if a2 < 0 then
      f_X11_block_36 N q2.2
    else
      if (8 : Int32) ≤ a2 then
        f_X11_block_36 N q2.2
      else
        if a3 < 0 then
          f_X11_block_36 N q2.2
        else
          if a3 < (128 : Int32) then
            (mfR q2.2 q2.1 10 2).bind fun v4 =>
            (maI q2.2 0 v4 ((a2 * 128) + a3)).bind fun v5 =>
            some (v5, q2.2)
          else
            f_X11_block_36 N q2.2
set_option maxRecDepth 100000 in
set_option maxHeartbeats 4000000 in
theorem p_X11_block_36 {x : CX} {l : Launch} {g : CG} {rv : Int32} {μ0 μ9 : Mem} (C : Cx x l g mi_X11_block) (F : Prom x g mi_X11_block μ0 (some (aI rv)) μ9) {N : Nat} {μ : Mem} (h : f_X11_block_36 N μ = some (rv, μ9)) : V x g 5 0 0 μ 36 [] [] := by
  unfold f_X11_block_36 at h
  refine v_iconst (v := -1) C dX11_block_36 rfl ?_
  exact v_iret C F ⟨rfl, rfl, Nat.le_refl _⟩ dX11_block_37 h
set_option maxRecDepth 100000 in
set_option maxHeartbeats 4000000 in
theorem p_X11_block {x : CX} {l : Launch} {g : CG} {rv : Int32} {μ0 μ9 : Mem} (C : Cx x l g mi_X11_block) (F : Prom x g mi_X11_block μ0 (some (aI rv)) μ9) {N : Nat} {a0 : Option Nat} {a1 : Int32} {a2 : Int32} {a3 : Int32} {μ : Mem} (h : f_X11_block N a0 a1 a2 a3 μ = some (rv, μ9)) : V x g 5 0 0 μ 0 [(0, aR a0), (1, aI a1), (2, aI a2), (3, aI a3)] [] := by
  unfold f_X11_block at h
  refine v_aload_n C dX11_block_0 rfl ?_
  obtain ⟨v, e, h⟩ := ob h
  refine v_getR C dX11_block_1 gf_X11_33 e ?_
  refine v_iload_n C dX11_block_4 rfl ?_
  obtain ⟨b, e0, h⟩ := ob h
  obtain ⟨q, e, h⟩ := ob h
  refine v_callV (As := [_]) C dX11_block_5 cf_X11_77 (rm_X11_block_X2_userAt) ⟨rfl, rfl⟩ e0 rfl (Nat.le_of_ble_eq_true rfl) (c_X2_userAt _ _ N _ _ _ q.1 q.2 e) ?_
  refine v_astore C dX11_block_8 (by decide) ?_
  refine v_aload C dX11_block_10 rfl ?_
  refine v_ifnull (tgt := 36) C dX11_block_12 (by decide) (fun c => ?_) (fun c => ?_)
  · replace h := ifT h c
    exact v_sb (p_X11_block_36 C F h) trivial
  · replace h := ifF h c
    refine v_iload_n C dX11_block_15 rfl ?_
    refine v_if_lt (tgt := 36) C dX11_block_16 (by decide) (fun c => ?_) (fun c => ?_)
    · replace h := ifT h c
      exact v_sb (p_X11_block_36 C F h) trivial
    · replace h := ifF h c
      refine v_iload_n C dX11_block_19 rfl ?_
      refine v_bipush (v := 8) C dX11_block_20 rfl ?_
      refine v_icmp_ge (tgt := 36) C dX11_block_22 (by decide) (fun c => ?_) (fun c => ?_)
      · replace h := ifT h c
        exact v_sb (p_X11_block_36 C F h) trivial
      · replace h := ifF h c
        refine v_iload_n C dX11_block_25 rfl ?_
        refine v_if_lt (tgt := 36) C dX11_block_26 (by decide) (fun c => ?_) (fun c => ?_)
        · replace h := ifT h c
          exact v_sb (p_X11_block_36 C F h) trivial
        · replace h := ifF h c
          refine v_iload_n C dX11_block_29 rfl ?_
          refine v_sipush (v := 128) C dX11_block_30 rfl ?_
          refine v_icmp_lt (tgt := 38) C dX11_block_33 (by decide) (fun c => ?_) (fun c => ?_)
          · replace h := ifT h c
            refine v_aload C dX11_block_38 rfl ?_
            obtain ⟨v, e, h⟩ := ob h
            refine v_getR C dX11_block_40 gf_X11_189 e ?_
            refine v_iload_n C dX11_block_43 rfl ?_
            refine v_sipush (v := 128) C dX11_block_44 rfl ?_
            refine v_imul C dX11_block_47 ?_
            refine v_iload_n C dX11_block_48 rfl ?_
            refine v_iadd C dX11_block_49 ?_
            obtain ⟨v, e, h⟩ := ob h
            refine v_iaload C dX11_block_50 e ?_
            exact v_iret C F ⟨rfl, rfl, Nat.le_refl _⟩ dX11_block_51 h
          · replace h := ifF h c
            exact v_sb (p_X11_block_36 C F h) trivial
set_option maxRecDepth 100000 in
set_option maxHeartbeats 4000000 in
theorem c_X11_block (l : Launch) (g : CG) (N : Nat) (a0 : Option Nat) (a1 : Int32) (a2 : Int32) (a3 : Int32) (μ : Mem) (rv : Int32) (μ9 : Mem) (h : f_X11_block N a0 a1 a2 a3 μ = some (rv, μ9)) : Ct l yX11_block mi_X11_block g [aR a0, aI a1, aI a2, aI a3] μ (some (aI rv)) μ9 := ct_of ⟨by decide, rfl, rfl⟩ (Nat.le_of_ble_eq_true rfl) fun x C F => p_X11_block C F h
def f_X10_letterOnPaper_29 (N : Nat) (s0 : Int32) (μ : Mem) : Option (Int32 × Mem) :=
  some (s0, μ)
def f_X10_letterOnPaper_19 (N : Nat) (μ : Mem) : Option (Int32 × Mem) :=
  f_X10_letterOnPaper_29 N ((-1)) μ
def f_X10_letterOnPaper (N : Nat) (a0 : Option Nat) (a1 : Int32) (μ : Mem) : Option (Int32 × Mem) :=
  if a1 < 0 then
    f_X10_letterOnPaper_19 N μ
  else
    (mfI μ a0 10 6).bind fun v1 =>
    if v1 ≤ a1 then
      f_X10_letterOnPaper_19 N μ
    else
      if a1 < (500 : Int32) then
        (mfR μ a0 10 3).bind fun v2 =>
        (maI μ 0 v2 a1).bind fun v3 =>
        f_X10_letterOnPaper_29 N v3 μ
      else
        f_X10_letterOnPaper_19 N μ
set_option maxRecDepth 100000 in
set_option maxHeartbeats 4000000 in
theorem p_X10_letterOnPaper_29 {x : CX} {l : Launch} {g : CG} {rv : Int32} {μ0 μ9 : Mem} (C : Cx x l g mi_X10_letterOnPaper) (F : Prom x g mi_X10_letterOnPaper μ0 (some (aI rv)) μ9) {N : Nat} {s0 : Int32} {μ : Mem} (h : f_X10_letterOnPaper_29 N s0 μ = some (rv, μ9)) : V x g 2 0 0 μ 29 [] [aI s0] := by
  unfold f_X10_letterOnPaper_29 at h
  exact v_iret C F ⟨rfl, rfl, Nat.le_refl _⟩ dX10_letterOnPaper_29 h
set_option maxRecDepth 100000 in
set_option maxHeartbeats 4000000 in
theorem p_X10_letterOnPaper_19 {x : CX} {l : Launch} {g : CG} {rv : Int32} {μ0 μ9 : Mem} (C : Cx x l g mi_X10_letterOnPaper) (F : Prom x g mi_X10_letterOnPaper μ0 (some (aI rv)) μ9) {N : Nat} {μ : Mem} (h : f_X10_letterOnPaper_19 N μ = some (rv, μ9)) : V x g 2 0 0 μ 19 [] [] := by
  unfold f_X10_letterOnPaper_19 at h
  refine v_iconst (v := -1) C dX10_letterOnPaper_19 rfl ?_
  refine v_goto (tgt := 29) C dX10_letterOnPaper_20 (by decide) ?_
  exact v_sb (p_X10_letterOnPaper_29 C F h) trivial
set_option maxRecDepth 100000 in
set_option maxHeartbeats 4000000 in
theorem p_X10_letterOnPaper {x : CX} {l : Launch} {g : CG} {rv : Int32} {μ0 μ9 : Mem} (C : Cx x l g mi_X10_letterOnPaper) (F : Prom x g mi_X10_letterOnPaper μ0 (some (aI rv)) μ9) {N : Nat} {a0 : Option Nat} {a1 : Int32} {μ : Mem} (h : f_X10_letterOnPaper N a0 a1 μ = some (rv, μ9)) : V x g 2 0 0 μ 0 [(0, aR a0), (1, aI a1)] [] := by
  unfold f_X10_letterOnPaper at h
  refine v_iload_n C dX10_letterOnPaper_0 rfl ?_
  refine v_if_lt (tgt := 19) C dX10_letterOnPaper_1 (by decide) (fun c => ?_) (fun c => ?_)
  · replace h := ifT h c
    exact v_sb (p_X10_letterOnPaper_19 C F h) trivial
  · replace h := ifF h c
    refine v_iload_n C dX10_letterOnPaper_4 rfl ?_
    refine v_aload_n C dX10_letterOnPaper_5 rfl ?_
    obtain ⟨v, e, h⟩ := ob h
    refine v_getI C dX10_letterOnPaper_6 gf_X10_31 e ?_
    refine v_icmp_ge (tgt := 19) C dX10_letterOnPaper_9 (by decide) (fun c => ?_) (fun c => ?_)
    · replace h := ifT h c
      exact v_sb (p_X10_letterOnPaper_19 C F h) trivial
    · replace h := ifF h c
      refine v_iload_n C dX10_letterOnPaper_12 rfl ?_
      refine v_sipush (v := 500) C dX10_letterOnPaper_13 rfl ?_
      refine v_icmp_lt (tgt := 23) C dX10_letterOnPaper_16 (by decide) (fun c => ?_) (fun c => ?_)
      · replace h := ifT h c
        refine v_aload_n C dX10_letterOnPaper_23 rfl ?_
        obtain ⟨v, e, h⟩ := ob h
        refine v_getR C dX10_letterOnPaper_24 gf_X10_18 e ?_
        refine v_iload_n C dX10_letterOnPaper_27 rfl ?_
        obtain ⟨v, e, h⟩ := ob h
        refine v_iaload C dX10_letterOnPaper_28 e ?_
        exact v_sb (p_X10_letterOnPaper_29 C F h) trivial
      · replace h := ifF h c
        exact v_sb (p_X10_letterOnPaper_19 C F h) trivial
set_option maxRecDepth 100000 in
set_option maxHeartbeats 4000000 in
theorem c_X10_letterOnPaper (l : Launch) (g : CG) (N : Nat) (a0 : Option Nat) (a1 : Int32) (μ : Mem) (rv : Int32) (μ9 : Mem) (h : f_X10_letterOnPaper N a0 a1 μ = some (rv, μ9)) : Ct l yX10_letterOnPaper mi_X10_letterOnPaper g [aR a0, aI a1] μ (some (aI rv)) μ9 := ct_of ⟨by decide, rfl, rfl⟩ (Nat.le_of_ble_eq_true rfl) fun x C F => p_X10_letterOnPaper C F h
def f_X11_paper_22 (N : Nat) (s0 : Int32) (μ : Mem) : Option (Int32 × Mem) :=
  some (s0, μ)
def f_X11_paper (N : Nat) (a0 : Option Nat) (a1 : Int32) (a2 : Int32) (μ : Mem) : Option (Int32 × Mem) :=
  (mfR μ a0 11 3).bind fun v1 =>
  (mck μ v1 2).bind fun b3 =>
  (f_X2_userAt N (some b3) a1 μ).bind fun q2 =>
  if ¬ q2.1 = none then
    (mck q2.2 q2.1 10).bind fun b5 =>
    (f_X10_letterOnPaper N (some b5) a2 q2.2).bind fun q4 =>
    f_X11_paper_22 N q4.1 q4.2
  else
    f_X11_paper_22 N ((-1)) q2.2
set_option maxRecDepth 100000 in
set_option maxHeartbeats 4000000 in
theorem p_X11_paper_22 {x : CX} {l : Launch} {g : CG} {rv : Int32} {μ0 μ9 : Mem} (C : Cx x l g mi_X11_paper) (F : Prom x g mi_X11_paper μ0 (some (aI rv)) μ9) {N : Nat} {s0 : Int32} {μ : Mem} (h : f_X11_paper_22 N s0 μ = some (rv, μ9)) : V x g 4 0 0 μ 22 [] [aI s0] := by
  unfold f_X11_paper_22 at h
  exact v_iret C F ⟨rfl, rfl, Nat.le_refl _⟩ dX11_paper_22 h
set_option maxRecDepth 100000 in
set_option maxHeartbeats 4000000 in
theorem p_X11_paper {x : CX} {l : Launch} {g : CG} {rv : Int32} {μ0 μ9 : Mem} (C : Cx x l g mi_X11_paper) (F : Prom x g mi_X11_paper μ0 (some (aI rv)) μ9) {N : Nat} {a0 : Option Nat} {a1 : Int32} {a2 : Int32} {μ : Mem} (h : f_X11_paper N a0 a1 a2 μ = some (rv, μ9)) : V x g 4 0 0 μ 0 [(0, aR a0), (1, aI a1), (2, aI a2)] [] := by
  unfold f_X11_paper at h
  refine v_aload_n C dX11_paper_0 rfl ?_
  obtain ⟨v, e, h⟩ := ob h
  refine v_getR C dX11_paper_1 gf_X11_33 e ?_
  refine v_iload_n C dX11_paper_4 rfl ?_
  obtain ⟨b, e0, h⟩ := ob h
  obtain ⟨q, e, h⟩ := ob h
  refine v_callV (As := [_]) C dX11_paper_5 cf_X11_77 (rm_X11_paper_X2_userAt) ⟨rfl, rfl⟩ e0 rfl (Nat.le_of_ble_eq_true rfl) (c_X2_userAt _ _ N _ _ _ q.1 q.2 e) ?_
  refine v_astore_n C dX11_paper_8 (by decide) ?_
  refine v_aload_n C dX11_paper_9 rfl ?_
  refine v_ifnonnull (tgt := 17) C dX11_paper_10 (by decide) (fun c => ?_) (fun c => ?_)
  · replace h := ifT h c
    refine v_aload_n C dX11_paper_17 rfl ?_
    refine v_iload_n C dX11_paper_18 rfl ?_
    obtain ⟨b, e0, h⟩ := ob h
    obtain ⟨q, e, h⟩ := ob h
    refine v_callV (As := [_]) C dX11_paper_19 cf_X11_192 (rm_X11_paper_X10_letterOnPaper) ⟨rfl, rfl⟩ e0 rfl (Nat.le_of_ble_eq_true rfl) (c_X10_letterOnPaper _ _ N _ _ _ q.1 q.2 e) ?_
    exact v_sb (p_X11_paper_22 C F h) trivial
  · replace h := ifF h c
    refine v_iconst (v := -1) C dX11_paper_13 rfl ?_
    refine v_goto (tgt := 22) C dX11_paper_14 (by decide) ?_
    exact v_sb (p_X11_paper_22 C F h) trivial
set_option maxRecDepth 100000 in
set_option maxHeartbeats 4000000 in
theorem c_X11_paper (l : Launch) (g : CG) (N : Nat) (a0 : Option Nat) (a1 : Int32) (a2 : Int32) (μ : Mem) (rv : Int32) (μ9 : Mem) (h : f_X11_paper N a0 a1 a2 μ = some (rv, μ9)) : Ct l yX11_paper mi_X11_paper g [aR a0, aI a1, aI a2] μ (some (aI rv)) μ9 := ct_of ⟨by decide, rfl, rfl⟩ (Nat.le_of_ble_eq_true rfl) fun x C F => p_X11_paper C F h
