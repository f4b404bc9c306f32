/-! LAYER 1, ShareEightModel: pass, assemble, fault, made, isUser, rests, isMoved, nobodys, mount, isWord, becomesReady, begin (by program) -/
def f_X12_pass_70 (N : Nat) (μ : Mem) : Option (Unit × Mem) :=
  some ((), μ)
def H_X12_pass_28 (N : Nat) (k28 : (Option Nat) → Mem → Option (Unit × Mem)) (a0 : Option Nat) (μ : Mem) : Option (Unit × Mem) :=
  (mfI μ a0 12 5).bind fun v1 =>
  if ¬ v1 = 0 then
    f_X12_pass_70 N μ
  else
    (mfI μ a0 12 28).bind fun v2 =>
    if ¬ v2 = 0 then
      f_X12_pass_70 N μ
    else
      (mfI μ a0 12 4).bind fun v3 =>
      (mfI μ a0 12 3).bind fun v4 =>
      if v4 < v3 then
        f_X12_pass_70 N μ
      else
        (mck μ a0 12).bind fun b6 =>
        (f_X12_line N (some b6) μ).bind fun q5 =>
        (mfI q5.2 a0 12 4).bind fun v7 =>
        (mpI q5.2 a0 12 4 (v7 + 1)).bind fun μ8 =>
        k28 a0 μ8
def L_X12_pass_28 (N : Nat) : Nat → (Option Nat) → Mem → Option (Unit × Mem)
  | 0 => fun _ _ => none
  | n + 1 => H_X12_pass_28 N (L_X12_pass_28 N n)
def f_X12_pass (N : Nat) (a0 : Option Nat) (a1 : Int32) (μ : Mem) : Option (Unit × Mem) :=
  (mpZ μ a0 12 9 a1).bind fun μ1 =>
  (mpI μ1 a0 12 10 8).bind fun μ2 =>
  (mpI μ2 a0 12 11 128).bind fun μ3 =>
  (mpZ μ3 a0 12 28 0).bind fun μ4 =>
  (mpI μ4 a0 12 4 0).bind fun μ5 =>
  L_X12_pass_28 N N a0 μ5
set_option maxRecDepth 100000 in
set_option maxHeartbeats 4000000 in
theorem p_X12_pass_70 {x : CX} {l : Launch} {g : CG} {rv : Unit} {μ0 μ9 : Mem} (C : Cx x l g mi_X12_pass) (F : Prom x g mi_X12_pass μ0 none μ9) {N : Nat} {μ : Mem} (h : f_X12_pass_70 N μ = some (rv, μ9)) : V x g 2 0 0 μ 70 [] [] := by
  unfold f_X12_pass_70 at h
  exact v_vret C F ⟨rfl, rfl, Nat.le_refl _⟩ dX12_pass_70 h
set_option maxRecDepth 100000 in
set_option maxHeartbeats 4000000 in
theorem pH_X12_pass_28 {x : CX} {l : Launch} {g : CG} {rv : Unit} {μ0 μ9 : Mem} (C : Cx x l g mi_X12_pass) (F : Prom x g mi_X12_pass μ0 none μ9) {N : Nat} {k28 : (Option Nat) → Mem → Option (Unit × Mem)} (hk28 : ∀ (a0 : Option Nat) (μ : Mem), k28 a0 μ = some (rv, μ9) → V x g 2 0 0 μ 28 [(0, aR a0)] []) {a0 : Option Nat} {μ : Mem} (h : H_X12_pass_28 N k28 a0 μ = some (rv, μ9)) : V x g 2 0 0 μ 28 [(0, aR a0)] [] := by
  unfold H_X12_pass_28 at h
  refine v_aload_n C dX12_pass_28 rfl ?_
  obtain ⟨v, e, h⟩ := ob h
  refine v_getI C dX12_pass_29 gf_X12_19 e ?_
  refine v_if_ne (tgt := 70) C dX12_pass_32 (by decide) (fun c => ?_) (fun c => ?_)
  · replace h := ifT h c
    exact v_sb (p_X12_pass_70 C F h) trivial
  · replace h := ifF h c
    refine v_aload_n C dX12_pass_35 rfl ?_
    obtain ⟨v, e, h⟩ := ob h
    refine v_getI C dX12_pass_36 gf_X12_147 e ?_
    refine v_if_ne (tgt := 70) C dX12_pass_39 (by decide) (fun c => ?_) (fun c => ?_)
    · replace h := ifT h c
      exact v_sb (p_X12_pass_70 C F h) trivial
    · replace h := ifF h c
      refine v_aload_n C dX12_pass_42 rfl ?_
      obtain ⟨v, e, h⟩ := ob h
      refine v_getI C dX12_pass_43 gf_X12_31 e ?_
      refine v_aload_n C dX12_pass_46 rfl ?_
      obtain ⟨v, e, h⟩ := ob h
      refine v_getI C dX12_pass_47 gf_X12_25 e ?_
      refine v_icmp_gt (tgt := 70) C dX12_pass_50 (by decide) (fun c => ?_) (fun c => ?_)
      · replace h := ifT h c
        exact v_sb (p_X12_pass_70 C F h) trivial
      · replace h := ifF h c
        refine v_aload_n C dX12_pass_53 rfl ?_
        obtain ⟨b, e0, h⟩ := ob h
        obtain ⟨q, e, h⟩ := ob h
        refine v_callV (As := []) C dX12_pass_54 cf_X12_150 (rm_X12_pass_X12_line) ⟨rfl, rfl⟩ e0 rfl (Nat.le_of_ble_eq_true rfl) (c_X12_line _ _ N _ _ q.1 q.2 e) ?_
        refine v_aload_n C dX12_pass_57 rfl ?_
        refine v_dup C dX12_pass_58 rfl ?_
        obtain ⟨v, e, h⟩ := ob h
        refine v_getI C dX12_pass_59 gf_X12_31 e ?_
        refine v_iconst (v := 1) C dX12_pass_62 rfl ?_
        refine v_iadd C dX12_pass_63 ?_
        obtain ⟨m, e, h⟩ := ob h
        refine v_putI C dX12_pass_64 (pf_X12_31 _) e ?_
        refine v_goto (tgt := 28) C dX12_pass_67 (by decide) ?_
        exact v_sb (hk28 _ _ h) ⟨rfl, trivial⟩
set_option maxRecDepth 100000 in
set_option maxHeartbeats 4000000 in
theorem pL_X12_pass_28 {x : CX} {l : Launch} {g : CG} {rv : Unit} {μ0 μ9 : Mem} (C : Cx x l g mi_X12_pass) (F : Prom x g mi_X12_pass μ0 none μ9) (N : Nat) (n : Nat) : ∀ (a0 : Option Nat) (μ : Mem), L_X12_pass_28 N n a0 μ = some (rv, μ9) → V x g 2 0 0 μ 28 [(0, aR a0)] [] := by
  induction n with
  | zero => intro a0 μ h; cases h
  | succ n ih => intro a0 μ h; exact pH_X12_pass_28 C F ih h
set_option maxRecDepth 100000 in
set_option maxHeartbeats 4000000 in
theorem p_X12_pass {x : CX} {l : Launch} {g : CG} {rv : Unit} {μ0 μ9 : Mem} (C : Cx x l g mi_X12_pass) (F : Prom x g mi_X12_pass μ0 none μ9) {N : Nat} {a0 : Option Nat} {a1 : Int32} {μ : Mem} (h : f_X12_pass N a0 a1 μ = some (rv, μ9)) : V x g 2 0 0 μ 0 [(0, aR a0), (1, aI a1)] [] := by
  unfold f_X12_pass at h
  refine v_aload_n C dX12_pass_0 rfl ?_
  refine v_iload_n C dX12_pass_1 rfl ?_
  obtain ⟨m, e, h⟩ := ob h
  refine v_putZ C dX12_pass_2 (pf_X12_112 _) e ?_
  refine v_aload_n C dX12_pass_5 rfl ?_
  refine v_bipush (v := 8) C dX12_pass_6 rfl ?_
  obtain ⟨m, e, h⟩ := ob h
  refine v_putI C dX12_pass_8 (pf_X12_74 _) e ?_
  refine v_aload_n C dX12_pass_11 rfl ?_
  refine v_sipush (v := 128) C dX12_pass_12 rfl ?_
  obtain ⟨m, e, h⟩ := ob h
  refine v_putI C dX12_pass_15 (pf_X12_129 _) e ?_
  refine v_aload_n C dX12_pass_18 rfl ?_
  refine v_iconst (v := 0) C dX12_pass_19 rfl ?_
  obtain ⟨m, e, h⟩ := ob h
  refine v_putZ C dX12_pass_20 (pf_X12_147 _) e ?_
  refine v_aload_n C dX12_pass_23 rfl ?_
  refine v_iconst (v := 0) C dX12_pass_24 rfl ?_
  obtain ⟨m, e, h⟩ := ob h
  refine v_putI C dX12_pass_25 (pf_X12_31 _) e ?_
  exact v_sb (pL_X12_pass_28 C F N N _ _ h) ⟨rfl, trivial⟩
set_option maxRecDepth 100000 in
set_option maxHeartbeats 4000000 in
theorem c_X12_pass (l : Launch) (g : CG) (N : Nat) (a0 : Option Nat) (a1 : Int32) (μ : Mem) (rv : Unit) (μ9 : Mem) (h : f_X12_pass N a0 a1 μ = some (rv, μ9)) : Ct l yX12_pass mi_X12_pass g [aR a0, aI a1] μ none μ9 := ct_of ⟨by decide, rfl, rfl⟩ (Nat.le_of_ble_eq_true rfl) fun x C F => p_X12_pass C F h
def f_X12_assemble_223 (N : Nat) (k166 : (Option Nat) → Int32 → Int32 → Mem → Option (Int32 × Mem)) (a0 : Option Nat) (a2 : Int32) (s0 : Int32) (s1 : Int32) (μ : Mem) : Option (Int32 × Mem) :=
  k166 a0 (s0 + s1) (a2 + 1) μ
def f_X12_assemble_206 (N : Nat) (k166 : (Option Nat) → Int32 → Int32 → Mem → Option (Int32 × Mem)) (a0 : Option Nat) (a1 : Int32) (a2 : Int32) (s0 : Option Nat) (s1 : Int32) (s2 : Int32) (μ : Mem) : Option (Int32 × Mem) :=
  (mbI μ 0 s0 s1 s2).bind fun μ1 =>
  (mfR μ1 a0 12 25).bind fun v2 =>
  (maI μ1 0 v2 a2).bind fun v3 =>
  if ¬ v3 = (((-1)) : Int32) then
    f_X12_assemble_223 N k166 a0 a2 a1 1 μ1
  else
    f_X12_assemble_223 N k166 a0 a2 a1 0 μ1
def f_X12_assemble_196 (N : Nat) (k166 : (Option Nat) → Int32 → Int32 → Mem → Option (Int32 × Mem)) (a0 : Option Nat) (a1 : Int32) (a2 : Int32) (s0 : Option Nat) (s1 : Int32) (μ : Mem) : Option (Int32 × Mem) :=
  (mfR μ a0 12 22).bind fun v1 =>
  (maI μ 0 v1 a2).bind fun v2 =>
  f_X12_assemble_206 N k166 a0 a1 a2 s0 s1 v2 μ
def H_X12_assemble_166 (N : Nat) (k166 : (Option Nat) → Int32 → Int32 → Mem → Option (Int32 × Mem)) (a0 : Option Nat) (a1 : Int32) (a2 : Int32) (μ : Mem) : Option (Int32 × Mem) :=
  if (4096 : Int32) ≤ a2 then
    some (a1, μ)
  else
    (mfR μ a0 12 25).bind fun v1 =>
    (mfR μ a0 12 23).bind fun v2 =>
    (maI μ 2 v2 a2).bind fun v3 =>
    if ¬ v3 = 0 then
      f_X12_assemble_196 N k166 a0 a1 a2 v1 a2 μ
    else
      (mfR μ a0 12 24).bind fun v4 =>
      (maI μ 2 v4 a2).bind fun v5 =>
      if v5 = 0 then
        f_X12_assemble_206 N k166 a0 a1 a2 v1 a2 ((-1)) μ
      else
        f_X12_assemble_196 N k166 a0 a1 a2 v1 a2 μ
def L_X12_assemble_166 (N : Nat) : Nat → (Option Nat) → Int32 → Int32 → Mem → Option (Int32 × Mem)
  | 0 => fun _ _ _ _ => none
  | n + 1 => H_X12_assemble_166 N (L_X12_assemble_166 N n)
def f_X12_assemble_137 (N : Nat) (a0 : Option Nat) (μ : Mem) : Option (Int32 × Mem) :=
  (mfI μ a0 12 5).bind fun v1 =>
  (mpI μ a0 12 7 v1).bind fun μ2 =>
  (mfI μ2 a0 12 6).bind fun v3 =>
  (mpI μ2 a0 12 8 v3).bind fun μ4 =>
  (mfI μ4 a0 12 5).bind fun v5 =>
  if v5 ≤ 0 then
    L_X12_assemble_166 N N a0 0 0 μ4
  else
    some ((-1), μ4)
def H_X12_assemble_94 (N : Nat) (k94 : (Option Nat) → Int32 → Mem → Option (Int32 × Mem)) (a0 : Option Nat) (a1 : Int32) (μ : Mem) : Option (Int32 × Mem) :=
  if (32 : Int32) ≤ a1 then
    (mck μ a0 12).bind fun b2 =>
    (f_X12_pass N (some b2) 0 μ).bind fun q1 =>
    (mfI q1.2 a0 12 5).bind fun v3 =>
    if ¬ v3 = 0 then
      f_X12_assemble_137 N a0 q1.2
    else
      (mck q1.2 a0 12).bind fun b5 =>
      (f_X12_pass N (some b5) 1 q1.2).bind fun q4 =>
      f_X12_assemble_137 N a0 q4.2
  else
    (mfR μ a0 12 26).bind fun v6 =>
    (mbI μ 0 v6 a1 ((128 * a1) + 127)).bind fun μ7 =>
    k94 a0 (a1 + 1) μ7
def L_X12_assemble_94 (N : Nat) : Nat → (Option Nat) → Int32 → Mem → Option (Int32 × Mem)
  | 0 => fun _ _ _ => none
  | n + 1 => H_X12_assemble_94 N (L_X12_assemble_94 N n)
def H_X12_assemble_58 (N : Nat) (k58 : (Option Nat) → Int32 → Mem → Option (Int32 × Mem)) (a0 : Option Nat) (a1 : Int32) (μ : Mem) : Option (Int32 × Mem) :=
  if (4096 : Int32) ≤ a1 then
    L_X12_assemble_94 N N a0 0 μ
  else
    (mfR μ a0 12 23).bind fun v1 =>
    (mbZ μ 2 v1 a1 0).bind fun μ2 =>
    (mfR μ2 a0 12 24).bind fun v3 =>
    (mbZ μ2 2 v3 a1 0).bind fun μ4 =>
    (mfR μ4 a0 12 22).bind fun v5 =>
    (mbI μ4 0 v5 a1 0).bind fun μ6 =>
    k58 a0 (a1 + 1) μ6
def L_X12_assemble_58 (N : Nat) : Nat → (Option Nat) → Int32 → Mem → Option (Int32 × Mem)
  | 0 => fun _ _ _ => none
  | n + 1 => H_X12_assemble_58 N (L_X12_assemble_58 N n)
def H_X12_assemble_15 (N : Nat) (k15 : (Option Nat) → Int32 → Mem → Option (Int32 × Mem)) (a0 : Option Nat) (a1 : Int32) (μ : Mem) : Option (Int32 × Mem) :=
  (mfI μ a0 12 3).bind fun v1 =>
  if v1 ≤ a1 then
    (mpI μ a0 12 5 0).bind fun μ2 =>
    (mpI μ2 a0 12 6 ((-1))).bind fun μ3 =>
    (mpI μ3 a0 12 21 0).bind fun μ4 =>
    L_X12_assemble_58 N N a0 0 μ4
  else
    (mfR μ a0 12 2).bind fun v5 =>
    (mfR μ a0 12 0).bind fun v6 =>
    (maI μ 0 v6 a1).bind fun v7 =>
    (mbI μ 0 v5 a1 v7).bind fun μ8 =>
    k15 a0 (a1 + 1) μ8
def L_X12_assemble_15 (N : Nat) : Nat → (Option Nat) → Int32 → Mem → Option (Int32 × Mem)
  | 0 => fun _ _ _ => none
  | n + 1 => H_X12_assemble_15 N (L_X12_assemble_15 N n)
def f_X12_assemble (N : Nat) (a0 : Option Nat) (μ : Mem) : Option (Int32 × Mem) :=
  (mfI μ a0 12 1).bind fun v1 =>
  (mpI μ a0 12 3 v1).bind fun μ2 =>
  (mpI μ2 a0 12 1 0).bind fun μ3 =>
  L_X12_assemble_15 N N a0 0 μ3
set_option maxRecDepth 100000 in
set_option maxHeartbeats 4000000 in
theorem p_X12_assemble_223 {x : CX} {l : Launch} {g : CG} {rv : Int32} {μ0 μ9 : Mem} (C : Cx x l g mi_X12_assemble) (F : Prom x g mi_X12_assemble μ0 (some (aI rv)) μ9) {N : Nat} {k166 : (Option Nat) → Int32 → Int32 → Mem → Option (Int32 × Mem)} (hk166 : ∀ (a0 : Option Nat) (a1 : Int32) (a2 : Int32) (μ : Mem), k166 a0 a1 a2 μ = some (rv, μ9) → V x g 3 0 0 μ 166 [(0, aR a0), (1, aI a1), (2, aI a2)] []) {a0 : Option Nat} {a2 : Int32} {s0 : Int32} {s1 : Int32} {μ : Mem} (h : f_X12_assemble_223 N k166 a0 a2 s0 s1 μ = some (rv, μ9)) : V x g 3 0 0 μ 223 [(0, aR a0), (2, aI a2)] [aI s1, aI s0] := by
  unfold f_X12_assemble_223 at h
  refine v_iadd C dX12_assemble_223 ?_
  refine v_istore_n C dX12_assemble_224 (by decide) ?_
  refine v_iinc (w := 1) C dX12_assemble_225 rfl rfl (by decide) ?_
  refine v_goto (tgt := 166) C dX12_assemble_228 (by decide) ?_
  exact v_sb (hk166 _ _ _ _ h) ⟨rfl, rfl, rfl, trivial⟩
set_option maxRecDepth 100000 in
set_option maxHeartbeats 4000000 in
theorem p_X12_assemble_206 {x : CX} {l : Launch} {g : CG} {rv : Int32} {μ0 μ9 : Mem} (C : Cx x l g mi_X12_assemble) (F : Prom x g mi_X12_assemble μ0 (some (aI rv)) μ9) {N : Nat} {k166 : (Option Nat) → Int32 → Int32 → Mem → Option (Int32 × Mem)} (hk166 : ∀ (a0 : Option Nat) (a1 : Int32) (a2 : Int32) (μ : Mem), k166 a0 a1 a2 μ = some (rv, μ9) → V x g 3 0 0 μ 166 [(0, aR a0), (1, aI a1), (2, aI a2)] []) {a0 : Option Nat} {a1 : Int32} {a2 : Int32} {s0 : Option Nat} {s1 : Int32} {s2 : Int32} {μ : Mem} (h : f_X12_assemble_206 N k166 a0 a1 a2 s0 s1 s2 μ = some (rv, μ9)) : V x g 3 0 0 μ 206 [(0, aR a0), (1, aI a1), (2, aI a2)] [aI s2, aI s1, aR s0] := by
  unfold f_X12_assemble_206 at h
  obtain ⟨m, e, h⟩ := ob h
  refine v_iastore C dX12_assemble_206 e ?_
  refine v_iload_n C dX12_assemble_207 rfl ?_
  refine v_aload_n C dX12_assemble_208 rfl ?_
  obtain ⟨v, e, h⟩ := ob h
  refine v_getR C dX12_assemble_209 gf_X12_226 e ?_
  refine v_iload_n C dX12_assemble_212 rfl ?_
  obtain ⟨v, e, h⟩ := ob h
  refine v_iaload C dX12_assemble_213 e ?_
  refine v_iconst (v := -1) C dX12_assemble_214 rfl ?_
  refine v_icmp_ne (tgt := 222) C dX12_assemble_215 (by decide) (fun c => ?_) (fun c => ?_)
  · replace h := ifT h c
    refine v_iconst (v := 1) C dX12_assemble_222 rfl ?_
    exact v_sb (p_X12_assemble_223 C F hk166 h) ⟨rfl, rfl, trivial⟩
  · replace h := ifF h c
    refine v_iconst (v := 0) C dX12_assemble_218 rfl ?_
    refine v_goto (tgt := 223) C dX12_assemble_219 (by decide) ?_
    exact v_sb (p_X12_assemble_223 C F hk166 h) ⟨rfl, rfl, trivial⟩
set_option maxRecDepth 100000 in
set_option maxHeartbeats 4000000 in
theorem p_X12_assemble_196 {x : CX} {l : Launch} {g : CG} {rv : Int32} {μ0 μ9 : Mem} (C : Cx x l g mi_X12_assemble) (F : Prom x g mi_X12_assemble μ0 (some (aI rv)) μ9) {N : Nat} {k166 : (Option Nat) → Int32 → Int32 → Mem → Option (Int32 × Mem)} (hk166 : ∀ (a0 : Option Nat) (a1 : Int32) (a2 : Int32) (μ : Mem), k166 a0 a1 a2 μ = some (rv, μ9) → V x g 3 0 0 μ 166 [(0, aR a0), (1, aI a1), (2, aI a2)] []) {a0 : Option Nat} {a1 : Int32} {a2 : Int32} {s0 : Option Nat} {s1 : Int32} {μ : Mem} (h : f_X12_assemble_196 N k166 a0 a1 a2 s0 s1 μ = some (rv, μ9)) : V x g 3 0 0 μ 196 [(0, aR a0), (1, aI a1), (2, aI a2)] [aI s1, aR s0] := by
  unfold f_X12_assemble_196 at h
  refine v_aload_n C dX12_assemble_196 rfl ?_
  obtain ⟨v, e, h⟩ := ob h
  refine v_getR C dX12_assemble_197 gf_X12_199 e ?_
  refine v_iload_n C dX12_assemble_200 rfl ?_
  obtain ⟨v, e, h⟩ := ob h
  refine v_iaload C dX12_assemble_201 e ?_
  refine v_goto (tgt := 206) C dX12_assemble_202 (by decide) ?_
  exact v_sb (p_X12_assemble_206 C F hk166 h) ⟨rfl, rfl, rfl, trivial⟩
set_option maxRecDepth 100000 in
set_option maxHeartbeats 4000000 in
theorem pH_X12_assemble_166 {x : CX} {l : Launch} {g : CG} {rv : Int32} {μ0 μ9 : Mem} (C : Cx x l g mi_X12_assemble) (F : Prom x g mi_X12_assemble μ0 (some (aI rv)) μ9) {N : Nat} {k166 : (Option Nat) → Int32 → Int32 → Mem → Option (Int32 × Mem)} (hk166 : ∀ (a0 : Option Nat) (a1 : Int32) (a2 : Int32) (μ : Mem), k166 a0 a1 a2 μ = some (rv, μ9) → V x g 3 0 0 μ 166 [(0, aR a0), (1, aI a1), (2, aI a2)] []) {a0 : Option Nat} {a1 : Int32} {a2 : Int32} {μ : Mem} (h : H_X12_assemble_166 N k166 a0 a1 a2 μ = some (rv, μ9)) : V x g 3 0 0 μ 166 [(0, aR a0), (1, aI a1), (2, aI a2)] [] := by
  unfold H_X12_assemble_166 at h
  refine v_iload_n C dX12_assemble_166 rfl ?_
  refine v_sipush (v := 4096) C dX12_assemble_167 rfl ?_
  refine v_icmp_ge (tgt := 231) C dX12_assemble_170 (by decide) (fun c => ?_) (fun c => ?_)
  · replace h := ifT h c
    refine v_iload_n C dX12_assemble_231 rfl ?_
    exact v_iret C F ⟨rfl, rfl, Nat.le_refl _⟩ dX12_assemble_232 h
  · replace h := ifF h c
    refine v_aload_n C dX12_assemble_173 rfl ?_
    obtain ⟨v, e, h⟩ := ob h
    refine v_getR C dX12_assemble_174 gf_X12_226 e ?_
    refine v_iload_n C dX12_assemble_177 rfl ?_
    refine v_aload_n C dX12_assemble_178 rfl ?_
    obtain ⟨v, e, h⟩ := ob h
    refine v_getR C dX12_assemble_179 gf_X12_196 e ?_
    refine v_iload_n C dX12_assemble_182 rfl ?_
    obtain ⟨v, e, h⟩ := ob h
    refine v_baload C dX12_assemble_183 e ?_
    refine v_if_ne (tgt := 196) C dX12_assemble_184 (by decide) (fun c => ?_) (fun c => ?_)
    · replace h := ifT h c
      exact v_sb (p_X12_assemble_196 C F hk166 h) ⟨rfl, rfl, rfl, trivial⟩
    · replace h := ifF h c
      refine v_aload_n C dX12_assemble_187 rfl ?_
      obtain ⟨v, e, h⟩ := ob h
      refine v_getR C dX12_assemble_188 gf_X12_193 e ?_
      refine v_iload_n C dX12_assemble_191 rfl ?_
      obtain ⟨v, e, h⟩ := ob h
      refine v_baload C dX12_assemble_192 e ?_
      refine v_if_eq (tgt := 205) C dX12_assemble_193 (by decide) (fun c => ?_) (fun c => ?_)
      · replace h := ifT h c
        refine v_iconst (v := -1) C dX12_assemble_205 rfl ?_
        exact v_sb (p_X12_assemble_206 C F hk166 h) ⟨rfl, rfl, rfl, trivial⟩
      · replace h := ifF h c
        exact v_sb (p_X12_assemble_196 C F hk166 h) ⟨rfl, rfl, rfl, trivial⟩
set_option maxRecDepth 100000 in
set_option maxHeartbeats 4000000 in
theorem pL_X12_assemble_166 {x : CX} {l : Launch} {g : CG} {rv : Int32} {μ0 μ9 : Mem} (C : Cx x l g mi_X12_assemble) (F : Prom x g mi_X12_assemble μ0 (some (aI rv)) μ9) (N : Nat) (n : Nat) : ∀ (a0 : Option Nat) (a1 : Int32) (a2 : Int32) (μ : Mem), L_X12_assemble_166 N n a0 a1 a2 μ = some (rv, μ9) → V x g 3 0 0 μ 166 [(0, aR a0), (1, aI a1), (2, aI a2)] [] := by
  induction n with
  | zero => intro a0 a1 a2 μ h; cases h
  | succ n ih => intro a0 a1 a2 μ h; exact pH_X12_assemble_166 C F ih h
set_option maxRecDepth 100000 in
set_option maxHeartbeats 4000000 in
theorem p_X12_assemble_137 {x : CX} {l : Launch} {g : CG} {rv : Int32} {μ0 μ9 : Mem} (C : Cx x l g mi_X12_assemble) (F : Prom x g mi_X12_assemble μ0 (some (aI rv)) μ9) {N : Nat} {a0 : Option Nat} {μ : Mem} (h : f_X12_assemble_137 N a0 μ = some (rv, μ9)) : V x g 3 0 0 μ 137 [(0, aR a0)] [] := by
  unfold f_X12_assemble_137 at h
  refine v_aload_n C dX12_assemble_137 rfl ?_
  refine v_aload_n C dX12_assemble_138 rfl ?_
  obtain ⟨v, e, h⟩ := ob h
  refine v_getI C dX12_assemble_139 gf_X12_19 e ?_
  obtain ⟨m, e, h⟩ := ob h
  refine v_putI C dX12_assemble_142 (pf_X12_220 _) e ?_
  refine v_aload_n C dX12_assemble_145 rfl ?_
  refine v_aload_n C dX12_assemble_146 rfl ?_
  obtain ⟨v, e, h⟩ := ob h
  refine v_getI C dX12_assemble_147 gf_X12_22 e ?_
  obtain ⟨m, e, h⟩ := ob h
  refine v_putI C dX12_assemble_150 (pf_X12_223 _) e ?_
  refine v_aload_n C dX12_assemble_153 rfl ?_
  obtain ⟨v, e, h⟩ := ob h
  refine v_getI C dX12_assemble_154 gf_X12_19 e ?_
  refine v_if_le (tgt := 162) C dX12_assemble_157 (by decide) (fun c => ?_) (fun c => ?_)
  · replace h := ifT h c
    refine v_iconst (v := 0) C dX12_assemble_162 rfl ?_
    refine v_istore_n C dX12_assemble_163 (by decide) ?_
    refine v_iconst (v := 0) C dX12_assemble_164 rfl ?_
    refine v_istore_n C dX12_assemble_165 (by decide) ?_
    exact v_sb (pL_X12_assemble_166 C F N N _ _ _ _ h) ⟨rfl, rfl, rfl, trivial⟩
  · replace h := ifF h c
    refine v_iconst (v := -1) C dX12_assemble_160 rfl ?_
    exact v_iret C F ⟨rfl, rfl, Nat.le_refl _⟩ dX12_assemble_161 h
set_option maxRecDepth 100000 in
set_option maxHeartbeats 4000000 in
theorem pH_X12_assemble_94 {x : CX} {l : Launch} {g : CG} {rv : Int32} {μ0 μ9 : Mem} (C : Cx x l g mi_X12_assemble) (F : Prom x g mi_X12_assemble μ0 (some (aI rv)) μ9) {N : Nat} {k94 : (Option Nat) → Int32 → Mem → Option (Int32 × Mem)} (hk94 : ∀ (a0 : Option Nat) (a1 : Int32) (μ : Mem), k94 a0 a1 μ = some (rv, μ9) → V x g 3 0 0 μ 94 [(0, aR a0), (1, aI a1)] []) {a0 : Option Nat} {a1 : Int32} {μ : Mem} (h : H_X12_assemble_94 N k94 a0 a1 μ = some (rv, μ9)) : V x g 3 0 0 μ 94 [(0, aR a0), (1, aI a1)] [] := by
  unfold H_X12_assemble_94 at h
  refine v_iload_n C dX12_assemble_94 rfl ?_
  refine v_bipush (v := 32) C dX12_assemble_95 rfl ?_
  refine v_icmp_ge (tgt := 120) C dX12_assemble_97 (by decide) (fun c => ?_) (fun c => ?_)
  · replace h := ifT h c
    refine v_aload_n C dX12_assemble_120 rfl ?_
    refine v_iconst (v := 0) C dX12_assemble_121 rfl ?_
    obtain ⟨b, e0, h⟩ := ob h
    obtain ⟨q, e, h⟩ := ob h
    refine v_callV (As := [_]) C dX12_assemble_122 cf_X12_216 (rm_X12_assemble_X12_pass) ⟨rfl, rfl⟩ e0 rfl (Nat.le_of_ble_eq_true rfl) (c_X12_pass _ _ N _ _ _ q.1 q.2 e) ?_
    refine v_aload_n C dX12_assemble_125 rfl ?_
    obtain ⟨v, e, h⟩ := ob h
    refine v_getI C dX12_assemble_126 gf_X12_19 e ?_
    refine v_if_ne (tgt := 137) C dX12_assemble_129 (by decide) (fun c => ?_) (fun c => ?_)
    · replace h := ifT h c
      exact v_sb (p_X12_assemble_137 C F h) ⟨rfl, trivial⟩
    · replace h := ifF h c
      refine v_aload_n C dX12_assemble_132 rfl ?_
      refine v_iconst (v := 1) C dX12_assemble_133 rfl ?_
      obtain ⟨b, e0, h⟩ := ob h
      obtain ⟨q, e, h⟩ := ob h
      refine v_callV (As := [_]) C dX12_assemble_134 cf_X12_216 (rm_X12_assemble_X12_pass) ⟨rfl, rfl⟩ e0 rfl (Nat.le_of_ble_eq_true rfl) (c_X12_pass _ _ N _ _ _ q.1 q.2 e) ?_
      exact v_sb (p_X12_assemble_137 C F h) ⟨rfl, trivial⟩
  · replace h := ifF h c
    refine v_aload_n C dX12_assemble_100 rfl ?_
    obtain ⟨v, e, h⟩ := ob h
    refine v_getR C dX12_assemble_101 gf_X12_213 e ?_
    refine v_iload_n C dX12_assemble_104 rfl ?_
    refine v_sipush (v := 128) C dX12_assemble_105 rfl ?_
    refine v_iload_n C dX12_assemble_108 rfl ?_
    refine v_imul C dX12_assemble_109 ?_
    refine v_bipush (v := 127) C dX12_assemble_110 rfl ?_
    refine v_iadd C dX12_assemble_112 ?_
    obtain ⟨m, e, h⟩ := ob h
    refine v_iastore C dX12_assemble_113 e ?_
    refine v_iinc (w := 1) C dX12_assemble_114 rfl rfl (by decide) ?_
    refine v_goto (tgt := 94) C dX12_assemble_117 (by decide) ?_
    exact v_sb (hk94 _ _ _ h) ⟨rfl, rfl, trivial⟩
set_option maxRecDepth 100000 in
set_option maxHeartbeats 4000000 in
theorem pL_X12_assemble_94 {x : CX} {l : Launch} {g : CG} {rv : Int32} {μ0 μ9 : Mem} (C : Cx x l g mi_X12_assemble) (F : Prom x g mi_X12_assemble μ0 (some (aI rv)) μ9) (N : Nat) (n : Nat) : ∀ (a0 : Option Nat) (a1 : Int32) (μ : Mem), L_X12_assemble_94 N n a0 a1 μ = some (rv, μ9) → V x g 3 0 0 μ 94 [(0, aR a0), (1, aI a1)] [] := by
  induction n with
  | zero => intro a0 a1 μ h; cases h
  | succ n ih => intro a0 a1 μ h; exact pH_X12_assemble_94 C F ih h
set_option maxRecDepth 100000 in
set_option maxHeartbeats 4000000 in
theorem pH_X12_assemble_58 {x : CX} {l : Launch} {g : CG} {rv : Int32} {μ0 μ9 : Mem} (C : Cx x l g mi_X12_assemble) (F : Prom x g mi_X12_assemble μ0 (some (aI rv)) μ9) {N : Nat} {k58 : (Option Nat) → Int32 → Mem → Option (Int32 × Mem)} (hk58 : ∀ (a0 : Option Nat) (a1 : Int32) (μ : Mem), k58 a0 a1 μ = some (rv, μ9) → V x g 3 0 0 μ 58 [(0, aR a0), (1, aI a1)] []) {a0 : Option Nat} {a1 : Int32} {μ : Mem} (h : H_X12_assemble_58 N k58 a0 a1 μ = some (rv, μ9)) : V x g 3 0 0 μ 58 [(0, aR a0), (1, aI a1)] [] := by
  unfold H_X12_assemble_58 at h
  refine v_iload_n C dX12_assemble_58 rfl ?_
  refine v_sipush (v := 4096) C dX12_assemble_59 rfl ?_
  refine v_icmp_ge (tgt := 92) C dX12_assemble_62 (by decide) (fun c => ?_) (fun c => ?_)
  · replace h := ifT h c
    refine v_iconst (v := 0) C dX12_assemble_92 rfl ?_
    refine v_istore_n C dX12_assemble_93 (by decide) ?_
    exact v_sb (pL_X12_assemble_94 C F N N _ _ _ h) ⟨rfl, rfl, trivial⟩
  · replace h := ifF h c
    refine v_aload_n C dX12_assemble_65 rfl ?_
    obtain ⟨v, e, h⟩ := ob h
    refine v_getR C dX12_assemble_66 gf_X12_196 e ?_
    refine v_iload_n C dX12_assemble_69 rfl ?_
    refine v_iconst (v := 0) C dX12_assemble_70 rfl ?_
    obtain ⟨m, e, h⟩ := ob h
    refine v_bastore C dX12_assemble_71 e ?_
    refine v_aload_n C dX12_assemble_72 rfl ?_
    obtain ⟨v, e, h⟩ := ob h
    refine v_getR C dX12_assemble_73 gf_X12_193 e ?_
    refine v_iload_n C dX12_assemble_76 rfl ?_
    refine v_iconst (v := 0) C dX12_assemble_77 rfl ?_
    obtain ⟨m, e, h⟩ := ob h
    refine v_bastore C dX12_assemble_78 e ?_
    refine v_aload_n C dX12_assemble_79 rfl ?_
    obtain ⟨v, e, h⟩ := ob h
    refine v_getR C dX12_assemble_80 gf_X12_199 e ?_
    refine v_iload_n C dX12_assemble_83 rfl ?_
    refine v_iconst (v := 0) C dX12_assemble_84 rfl ?_
    obtain ⟨m, e, h⟩ := ob h
    refine v_iastore C dX12_assemble_85 e ?_
    refine v_iinc (w := 1) C dX12_assemble_86 rfl rfl (by decide) ?_
    refine v_goto (tgt := 58) C dX12_assemble_89 (by decide) ?_
    exact v_sb (hk58 _ _ _ h) ⟨rfl, rfl, trivial⟩
set_option maxRecDepth 100000 in
set_option maxHeartbeats 4000000 in
theorem pL_X12_assemble_58 {x : CX} {l : Launch} {g : CG} {rv : Int32} {μ0 μ9 : Mem} (C : Cx x l g mi_X12_assemble) (F : Prom x g mi_X12_assemble μ0 (some (aI rv)) μ9) (N : Nat) (n : Nat) : ∀ (a0 : Option Nat) (a1 : Int32) (μ : Mem), L_X12_assemble_58 N n a0 a1 μ = some (rv, μ9) → V x g 3 0 0 μ 58 [(0, aR a0), (1, aI a1)] [] := by
  induction n with
  | zero => intro a0 a1 μ h; cases h
  | succ n ih => intro a0 a1 μ h; exact pH_X12_assemble_58 C F ih h
set_option maxRecDepth 100000 in
set_option maxHeartbeats 4000000 in
theorem pH_X12_assemble_15 {x : CX} {l : Launch} {g : CG} {rv : Int32} {μ0 μ9 : Mem} (C : Cx x l g mi_X12_assemble) (F : Prom x g mi_X12_assemble μ0 (some (aI rv)) μ9) {N : Nat} {k15 : (Option Nat) → Int32 → Mem → Option (Int32 × Mem)} (hk15 : ∀ (a0 : Option Nat) (a1 : Int32) (μ : Mem), k15 a0 a1 μ = some (rv, μ9) → V x g 3 0 0 μ 15 [(0, aR a0), (1, aI a1)] []) {a0 : Option Nat} {a1 : Int32} {μ : Mem} (h : H_X12_assemble_15 N k15 a0 a1 μ = some (rv, μ9)) : V x g 3 0 0 μ 15 [(0, aR a0), (1, aI a1)] [] := by
  unfold H_X12_assemble_15 at h
  refine v_iload_n C dX12_assemble_15 rfl ?_
  refine v_aload_n C dX12_assemble_16 rfl ?_
  obtain ⟨v, e, h⟩ := ob h
  refine v_getI C dX12_assemble_17 gf_X12_25 e ?_
  refine v_icmp_ge (tgt := 41) C dX12_assemble_20 (by decide) (fun c => ?_) (fun c => ?_)
  · replace h := ifT h c
    refine v_aload_n C dX12_assemble_41 rfl ?_
    refine v_iconst (v := 0) C dX12_assemble_42 rfl ?_
    obtain ⟨m, e, h⟩ := ob h
    refine v_putI C dX12_assemble_43 (pf_X12_19 _) e ?_
    refine v_aload_n C dX12_assemble_46 rfl ?_
    refine v_iconst (v := -1) C dX12_assemble_47 rfl ?_
    obtain ⟨m, e, h⟩ := ob h
    refine v_putI C dX12_assemble_48 (pf_X12_22 _) e ?_
    refine v_aload_n C dX12_assemble_51 rfl ?_
    refine v_iconst (v := 0) C dX12_assemble_52 rfl ?_
    obtain ⟨m, e, h⟩ := ob h
    refine v_putI C dX12_assemble_53 (pf_X12_92 _) e ?_
    refine v_iconst (v := 0) C dX12_assemble_56 rfl ?_
    refine v_istore_n C dX12_assemble_57 (by decide) ?_
    exact v_sb (pL_X12_assemble_58 C F N N _ _ _ h) ⟨rfl, rfl, trivial⟩
  · replace h := ifF h c
    refine v_aload_n C dX12_assemble_23 rfl ?_
    obtain ⟨v, e, h⟩ := ob h
    refine v_getR C dX12_assemble_24 gf_X12_28 e ?_
    refine v_iload_n C dX12_assemble_27 rfl ?_
    refine v_aload_n C dX12_assemble_28 rfl ?_
    obtain ⟨v, e, h⟩ := ob h
    refine v_getR C dX12_assemble_29 gf_X12_1 e ?_
    refine v_iload_n C dX12_assemble_32 rfl ?_
    obtain ⟨v, e, h⟩ := ob h
    refine v_iaload C dX12_assemble_33 e ?_
    obtain ⟨m, e, h⟩ := ob h
    refine v_iastore C dX12_assemble_34 e ?_
    refine v_iinc (w := 1) C dX12_assemble_35 rfl rfl (by decide) ?_
    refine v_goto (tgt := 15) C dX12_assemble_38 (by decide) ?_
    exact v_sb (hk15 _ _ _ h) ⟨rfl, rfl, trivial⟩
set_option maxRecDepth 100000 in
set_option maxHeartbeats 4000000 in
theorem pL_X12_assemble_15 {x : CX} {l : Launch} {g : CG} {rv : Int32} {μ0 μ9 : Mem} (C : Cx x l g mi_X12_assemble) (F : Prom x g mi_X12_assemble μ0 (some (aI rv)) μ9) (N : Nat) (n : Nat) : ∀ (a0 : Option Nat) (a1 : Int32) (μ : Mem), L_X12_assemble_15 N n a0 a1 μ = some (rv, μ9) → V x g 3 0 0 μ 15 [(0, aR a0), (1, aI a1)] [] := by
  induction n with
  | zero => intro a0 a1 μ h; cases h
  | succ n ih => intro a0 a1 μ h; exact pH_X12_assemble_15 C F ih h
set_option maxRecDepth 100000 in
set_option maxHeartbeats 4000000 in
theorem p_X12_assemble {x : CX} {l : Launch} {g : CG} {rv : Int32} {μ0 μ9 : Mem} (C : Cx x l g mi_X12_assemble) (F : Prom x g mi_X12_assemble μ0 (some (aI rv)) μ9) {N : Nat} {a0 : Option Nat} {μ : Mem} (h : f_X12_assemble N a0 μ = some (rv, μ9)) : V x g 3 0 0 μ 0 [(0, aR a0)] [] := by
  unfold f_X12_assemble at h
  refine v_aload_n C dX12_assemble_0 rfl ?_
  refine v_aload_n C dX12_assemble_1 rfl ?_
  obtain ⟨v, e, h⟩ := ob h
  refine v_getI C dX12_assemble_2 gf_X12_7 e ?_
  obtain ⟨m, e, h⟩ := ob h
  refine v_putI C dX12_assemble_5 (pf_X12_25 _) e ?_
  refine v_aload_n C dX12_assemble_8 rfl ?_
  refine v_iconst (v := 0) C dX12_assemble_9 rfl ?_
  obtain ⟨m, e, h⟩ := ob h
  refine v_putI C dX12_assemble_10 (pf_X12_7 _) e ?_
  refine v_iconst (v := 0) C dX12_assemble_13 rfl ?_
  refine v_istore_n C dX12_assemble_14 (by decide) ?_
  exact v_sb (pL_X12_assemble_15 C F N N _ _ _ h) ⟨rfl, rfl, trivial⟩
set_option maxRecDepth 100000 in
set_option maxHeartbeats 4000000 in
theorem c_X12_assemble (l : Launch) (g : CG) (N : Nat) (a0 : Option Nat) (μ : Mem) (rv : Int32) (μ9 : Mem) (h : f_X12_assemble N a0 μ = some (rv, μ9)) : Ct l yX12_assemble mi_X12_assemble g [aR a0] μ (some (aI rv)) μ9 := ct_of ⟨by decide, rfl, rfl⟩ (Nat.le_of_ble_eq_true rfl) fun x C F => p_X12_assemble C F h
def f_X12_fault_24 (N : Nat) (s0 : Int32) (μ : Mem) : Option (Int32 × Mem) :=
  some (s0, μ)
def f_X12_fault (N : Nat) (a0 : Option Nat) (a1 : Int32) (μ : Mem) : Option (Int32 × Mem) :=
  if ¬ a1 = 0 then
    if ¬ a1 = (1 : Int32) then
      f_X12_fault_24 N ((-1)) μ
    else
      (mfI μ a0 12 8).bind fun v1 =>
      f_X12_fault_24 N v1 μ
  else
    (mfI μ a0 12 7).bind fun v2 =>
    f_X12_fault_24 N v2 μ
set_option maxRecDepth 100000 in
set_option maxHeartbeats 4000000 in
theorem p_X12_fault_24 {x : CX} {l : Launch} {g : CG} {rv : Int32} {μ0 μ9 : Mem} (C : Cx x l g mi_X12_fault) (F : Prom x g mi_X12_fault μ0 (some (aI rv)) μ9) {N : Nat} {s0 : Int32} {μ : Mem} (h : f_X12_fault_24 N s0 μ = some (rv, μ9)) : V x g 2 0 0 μ 24 [] [aI s0] := by
  unfold f_X12_fault_24 at h
  exact v_iret C F ⟨rfl, rfl, Nat.le_refl _⟩ dX12_fault_24 h
set_option maxRecDepth 100000 in
set_option maxHeartbeats 4000000 in
theorem p_X12_fault {x : CX} {l : Launch} {g : CG} {rv : Int32} {μ0 μ9 : Mem} (C : Cx x l g mi_X12_fault) (F : Prom x g mi_X12_fault μ0 (some (aI rv)) μ9) {N : Nat} {a0 : Option Nat} {a1 : Int32} {μ : Mem} (h : f_X12_fault N a0 a1 μ = some (rv, μ9)) : V x g 2 0 0 μ 0 [(0, aR a0), (1, aI a1)] [] := by
  unfold f_X12_fault at h
  refine v_iload_n C dX12_fault_0 rfl ?_
  refine v_if_ne (tgt := 11) C dX12_fault_1 (by decide) (fun c => ?_) (fun c => ?_)
  · replace h := ifT h c
    refine v_iload_n C dX12_fault_11 rfl ?_
    refine v_iconst (v := 1) C dX12_fault_12 rfl ?_
    refine v_icmp_ne (tgt := 23) C dX12_fault_13 (by decide) (fun c => ?_) (fun c => ?_)
    · replace h := ifT h c
      refine v_iconst (v := -1) C dX12_fault_23 rfl ?_
      exact v_sb (p_X12_fault_24 C F h) trivial
    · replace h := ifF h c
      refine v_aload_n C dX12_fault_16 rfl ?_
      obtain ⟨v, e, h⟩ := ob h
      refine v_getI C dX12_fault_17 gf_X12_223 e ?_
      refine v_goto (tgt := 24) C dX12_fault_20 (by decide) ?_
      exact v_sb (p_X12_fault_24 C F h) trivial
  · replace h := ifF h c
    refine v_aload_n C dX12_fault_4 rfl ?_
    obtain ⟨v, e, h⟩ := ob h
    refine v_getI C dX12_fault_5 gf_X12_220 e ?_
    refine v_goto (tgt := 24) C dX12_fault_8 (by decide) ?_
    exact v_sb (p_X12_fault_24 C F h) trivial
set_option maxRecDepth 100000 in
set_option maxHeartbeats 4000000 in
theorem c_X12_fault (l : Launch) (g : CG) (N : Nat) (a0 : Option Nat) (a1 : Int32) (μ : Mem) (rv : Int32) (μ9 : Mem) (h : f_X12_fault N a0 a1 μ = some (rv, μ9)) : Ct l yX12_fault mi_X12_fault g [aR a0, aI a1] μ (some (aI rv)) μ9 := ct_of ⟨by decide, rfl, rfl⟩ (Nat.le_of_ble_eq_true rfl) fun x C F => p_X12_fault C F h
def f_X12_made_21 (N : Nat) (s0 : Int32) (μ : Mem) : Option (Int32 × Mem) :=
  some (s0, μ)
def f_X12_made (N : Nat) (a0 : Option Nat) (a1 : Int32) (μ : Mem) : Option (Int32 × Mem) :=
  (f_X12_in N a1 0 4095 μ).bind fun q1 =>
  if q1.1 = 0 then
    f_X12_made_21 N ((-1)) q1.2
  else
    (mfR q1.2 a0 12 25).bind fun v2 =>
    (maI q1.2 0 v2 a1).bind fun v3 =>
    f_X12_made_21 N v3 q1.2
set_option maxRecDepth 100000 in
set_option maxHeartbeats 4000000 in
theorem p_X12_made_21 {x : CX} {l : Launch} {g : CG} {rv : Int32} {μ0 μ9 : Mem} (C : Cx x l g mi_X12_made) (F : Prom x g mi_X12_made μ0 (some (aI rv)) μ9) {N : Nat} {s0 : Int32} {μ : Mem} (h : f_X12_made_21 N s0 μ = some (rv, μ9)) : V x g 2 0 0 μ 21 [] [aI s0] := by
  unfold f_X12_made_21 at h
  exact v_iret C F ⟨rfl, rfl, Nat.le_refl _⟩ dX12_made_21 h
set_option maxRecDepth 100000 in
set_option maxHeartbeats 4000000 in
theorem p_X12_made {x : CX} {l : Launch} {g : CG} {rv : Int32} {μ0 μ9 : Mem} (C : Cx x l g mi_X12_made) (F : Prom x g mi_X12_made μ0 (some (aI rv)) μ9) {N : Nat} {a0 : Option Nat} {a1 : Int32} {μ : Mem} (h : f_X12_made N a0 a1 μ = some (rv, μ9)) : V x g 2 0 0 μ 0 [(0, aR a0), (1, aI a1)] [] := by
  unfold f_X12_made at h
  refine v_iload_n C dX12_made_0 rfl ?_
  refine v_iconst (v := 0) C dX12_made_1 rfl ?_
  refine v_sipush (v := 4095) C dX12_made_2 rfl ?_
  obtain ⟨q, e, h⟩ := ob h
  refine v_callS (As := [_, _, _]) C dX12_made_5 cf_X12_15 (rm_X12_made_X12_in) ⟨rfl, rfl⟩ rfl (Nat.le_of_ble_eq_true rfl) (c_X12_in _ _ N _ _ _ _ q.1 q.2 e) ?_
  refine v_if_eq (tgt := 20) C dX12_made_8 (by decide) (fun c => ?_) (fun c => ?_)
  · replace h := ifT h c
    refine v_iconst (v := -1) C dX12_made_20 rfl ?_
    exact v_sb (p_X12_made_21 C F h) trivial
  · replace h := ifF h c
    refine v_aload_n C dX12_made_11 rfl ?_
    obtain ⟨v, e, h⟩ := ob h
    refine v_getR C dX12_made_12 gf_X12_226 e ?_
    refine v_iload_n C dX12_made_15 rfl ?_
    obtain ⟨v, e, h⟩ := ob h
    refine v_iaload C dX12_made_16 e ?_
    refine v_goto (tgt := 21) C dX12_made_17 (by decide) ?_
    exact v_sb (p_X12_made_21 C F h) trivial
set_option maxRecDepth 100000 in
set_option maxHeartbeats 4000000 in
theorem c_X12_made (l : Launch) (g : CG) (N : Nat) (a0 : Option Nat) (a1 : Int32) (μ : Mem) (rv : Int32) (μ9 : Mem) (h : f_X12_made N a0 a1 μ = some (rv, μ9)) : Ct l yX12_made mi_X12_made g [aR a0, aI a1] μ (some (aI rv)) μ9 := ct_of ⟨by decide, rfl, rfl⟩ (Nat.le_of_ble_eq_true rfl) fun x C F => p_X12_made C F h
def f_X12_isUser (N : Nat) (a0 : Option Nat) (a1 : Int32) (μ : Mem) : Option (Int32 × Mem) :=
  (mfI μ a0 12 31).bind fun v1 =>
  (f_X12_in N a1 0 (v1 - 1) μ).bind fun q2 =>
  retZ q2.1 q2.2
set_option maxRecDepth 100000 in
set_option maxHeartbeats 4000000 in
theorem p_X12_isUser {x : CX} {l : Launch} {g : CG} {rv : Int32} {μ0 μ9 : Mem} (C : Cx x l g mi_X12_isUser) (F : Prom x g mi_X12_isUser μ0 (some (aI rv)) μ9) {N : Nat} {a0 : Option Nat} {a1 : Int32} {μ : Mem} (h : f_X12_isUser N a0 a1 μ = some (rv, μ9)) : V x g 2 0 0 μ 0 [(0, aR a0), (1, aI a1)] [] := by
  unfold f_X12_isUser at h
  refine v_iload_n C dX12_isUser_0 rfl ?_
  refine v_iconst (v := 0) C dX12_isUser_1 rfl ?_
  refine v_aload_n C dX12_isUser_2 rfl ?_
  obtain ⟨v, e, h⟩ := ob h
  refine v_getI C dX12_isUser_3 gf_X12_243 e ?_
  refine v_iconst (v := 1) C dX12_isUser_6 rfl ?_
  refine v_isub C dX12_isUser_7 ?_
  obtain ⟨q, e, h⟩ := ob h
  refine v_callS (As := [_, _, _]) C dX12_isUser_8 cf_X12_15 (rm_X12_isUser_X12_in) ⟨rfl, rfl⟩ rfl (Nat.le_of_ble_eq_true rfl) (c_X12_in _ _ N _ _ _ _ q.1 q.2 e) ?_
  exact v_zret C F ⟨rfl, rfl, Nat.le_refl _⟩ dX12_isUser_11 h
set_option maxRecDepth 100000 in
set_option maxHeartbeats 4000000 in
theorem c_X12_isUser (l : Launch) (g : CG) (N : Nat) (a0 : Option Nat) (a1 : Int32) (μ : Mem) (rv : Int32) (μ9 : Mem) (h : f_X12_isUser N a0 a1 μ = some (rv, μ9)) : Ct l yX12_isUser mi_X12_isUser g [aR a0, aI a1] μ (some (aI rv)) μ9 := ct_of ⟨by decide, rfl, rfl⟩ (Nat.le_of_ble_eq_true rfl) fun x C F => p_X12_isUser C F h
def f_X12_rests_44 (N : Nat) (s0 : Int32) (μ : Mem) : Option (Int32 × Mem) :=
  retZ s0 μ
def f_X12_rests_43 (N : Nat) (μ : Mem) : Option (Int32 × Mem) :=
  f_X12_rests_44 N 0 μ
def f_X12_rests_39 (N : Nat) (μ : Mem) : Option (Int32 × Mem) :=
  f_X12_rests_44 N 1 μ
def f_X12_rests (N : Nat) (a0 : Option Nat) (a1 : Int32) (μ : Mem) : Option (Int32 × Mem) :=
  (mck μ a0 12).bind fun b2 =>
  (f_X12_isUser N (some b2) a1 μ).bind fun q1 =>
  if q1.1 = 0 then
    f_X12_rests_43 N q1.2
  else
    (mfR q1.2 a0 12 42).bind fun v3 =>
    (maI q1.2 0 v3 a1).bind fun v4 =>
    if v4 = 0 then
      f_X12_rests_39 N q1.2
    else
      (mfR q1.2 a0 12 42).bind fun v5 =>
      (maI q1.2 0 v5 a1).bind fun v6 =>
      if v6 = (6 : Int32) then
        f_X12_rests_39 N q1.2
      else
        (mfR q1.2 a0 12 42).bind fun v7 =>
        (maI q1.2 0 v7 a1).bind fun v8 =>
        if ¬ v8 = (7 : Int32) then
          f_X12_rests_43 N q1.2
        else
          f_X12_rests_39 N q1.2
set_option maxRecDepth 100000 in
set_option maxHeartbeats 4000000 in
theorem p_X12_rests_44 {x : CX} {l : Launch} {g : CG} {rv : Int32} {μ0 μ9 : Mem} (C : Cx x l g mi_X12_rests) (F : Prom x g mi_X12_rests μ0 (some (aI rv)) μ9) {N : Nat} {s0 : Int32} {μ : Mem} (h : f_X12_rests_44 N s0 μ = some (rv, μ9)) : V x g 2 0 0 μ 44 [] [aI s0] := by
  unfold f_X12_rests_44 at h
  exact v_zret C F ⟨rfl, rfl, Nat.le_refl _⟩ dX12_rests_44 h
set_option maxRecDepth 100000 in
set_option maxHeartbeats 4000000 in
theorem p_X12_rests_43 {x : CX} {l : Launch} {g : CG} {rv : Int32} {μ0 μ9 : Mem} (C : Cx x l g mi_X12_rests) (F : Prom x g mi_X12_rests μ0 (some (aI rv)) μ9) {N : Nat} {μ : Mem} (h : f_X12_rests_43 N μ = some (rv, μ9)) : V x g 2 0 0 μ 43 [] [] := by
  unfold f_X12_rests_43 at h
  refine v_iconst (v := 0) C dX12_rests_43 rfl ?_
  exact v_sb (p_X12_rests_44 C F h) trivial
set_option maxRecDepth 100000 in
set_option maxHeartbeats 4000000 in
theorem p_X12_rests_39 {x : CX} {l : Launch} {g : CG} {rv : Int32} {μ0 μ9 : Mem} (C : Cx x l g mi_X12_rests) (F : Prom x g mi_X12_rests μ0 (some (aI rv)) μ9) {N : Nat} {μ : Mem} (h : f_X12_rests_39 N μ = some (rv, μ9)) : V x g 2 0 0 μ 39 [] [] := by
  unfold f_X12_rests_39 at h
  refine v_iconst (v := 1) C dX12_rests_39 rfl ?_
  refine v_goto (tgt := 44) C dX12_rests_40 (by decide) ?_
  exact v_sb (p_X12_rests_44 C F h) trivial
set_option maxRecDepth 100000 in
set_option maxHeartbeats 4000000 in
theorem p_X12_rests {x : CX} {l : Launch} {g : CG} {rv : Int32} {μ0 μ9 : Mem} (C : Cx x l g mi_X12_rests) (F : Prom x g mi_X12_rests μ0 (some (aI rv)) μ9) {N : Nat} {a0 : Option Nat} {a1 : Int32} {μ : Mem} (h : f_X12_rests N a0 a1 μ = some (rv, μ9)) : V x g 2 0 0 μ 0 [(0, aR a0), (1, aI a1)] [] := by
  unfold f_X12_rests at h
  refine v_aload_n C dX12_rests_0 rfl ?_
  refine v_iload_n C dX12_rests_1 rfl ?_
  obtain ⟨b, e0, h⟩ := ob h
  obtain ⟨q, e, h⟩ := ob h
  refine v_callV (As := [_]) C dX12_rests_2 cf_X12_341 (rm_X12_rests_X12_isUser) ⟨rfl, rfl⟩ e0 rfl (Nat.le_of_ble_eq_true rfl) (c_X12_isUser _ _ N _ _ _ q.1 q.2 e) ?_
  refine v_if_eq (tgt := 43) C dX12_rests_5 (by decide) (fun c => ?_) (fun c => ?_)
  · replace h := ifT h c
    exact v_sb (p_X12_rests_43 C F h) trivial
  · replace h := ifF h c
    refine v_aload_n C dX12_rests_8 rfl ?_
    obtain ⟨v, e, h⟩ := ob h
    refine v_getR C dX12_rests_9 gf_X12_278 e ?_
    refine v_iload_n C dX12_rests_12 rfl ?_
    obtain ⟨v, e, h⟩ := ob h
    refine v_iaload C dX12_rests_13 e ?_
    refine v_if_eq (tgt := 39) C dX12_rests_14 (by decide) (fun c => ?_) (fun c => ?_)
    · replace h := ifT h c
      exact v_sb (p_X12_rests_39 C F h) trivial
    · replace h := ifF h c
      refine v_aload_n C dX12_rests_17 rfl ?_
      obtain ⟨v, e, h⟩ := ob h
      refine v_getR C dX12_rests_18 gf_X12_278 e ?_
      refine v_iload_n C dX12_rests_21 rfl ?_
      obtain ⟨v, e, h⟩ := ob h
      refine v_iaload C dX12_rests_22 e ?_
      refine v_bipush (v := 6) C dX12_rests_23 rfl ?_
      refine v_icmp_eq (tgt := 39) C dX12_rests_25 (by decide) (fun c => ?_) (fun c => ?_)
      · replace h := ifT h c
        exact v_sb (p_X12_rests_39 C F h) trivial
      · replace h := ifF h c
        refine v_aload_n C dX12_rests_28 rfl ?_
        obtain ⟨v, e, h⟩ := ob h
        refine v_getR C dX12_rests_29 gf_X12_278 e ?_
        refine v_iload_n C dX12_rests_32 rfl ?_
        obtain ⟨v, e, h⟩ := ob h
        refine v_iaload C dX12_rests_33 e ?_
        refine v_bipush (v := 7) C dX12_rests_34 rfl ?_
        refine v_icmp_ne (tgt := 43) C dX12_rests_36 (by decide) (fun c => ?_) (fun c => ?_)
        · replace h := ifT h c
          exact v_sb (p_X12_rests_43 C F h) trivial
        · replace h := ifF h c
          exact v_sb (p_X12_rests_39 C F h) trivial
set_option maxRecDepth 100000 in
set_option maxHeartbeats 4000000 in
theorem c_X12_rests (l : Launch) (g : CG) (N : Nat) (a0 : Option Nat) (a1 : Int32) (μ : Mem) (rv : Int32) (μ9 : Mem) (h : f_X12_rests N a0 a1 μ = some (rv, μ9)) : Ct l yX12_rests mi_X12_rests g [aR a0, aI a1] μ (some (aI rv)) μ9 := ct_of ⟨by decide, rfl, rfl⟩ (Nat.le_of_ble_eq_true rfl) fun x C F => p_X12_rests C F h
def f_X12_isMoved_20 (N : Nat) (s0 : Int32) (μ : Mem) : Option (Int32 × Mem) :=
  retZ s0 μ
def f_X12_isMoved_19 (N : Nat) (μ : Mem) : Option (Int32 × Mem) :=
  f_X12_isMoved_20 N 0 μ
def f_X12_isMoved (N : Nat) (a0 : Option Nat) (a1 : Int32) (μ : Mem) : Option (Int32 × Mem) :=
  (mfI μ a0 12 67).bind fun v1 =>
  if v1 ≤ 0 then
    f_X12_isMoved_19 N μ
  else
    (mfI μ a0 12 68).bind fun v2 =>
    if ¬ v2 = a1 then
      f_X12_isMoved_19 N μ
    else
      f_X12_isMoved_20 N 1 μ
set_option maxRecDepth 100000 in
set_option maxHeartbeats 4000000 in
theorem p_X12_isMoved_20 {x : CX} {l : Launch} {g : CG} {rv : Int32} {μ0 μ9 : Mem} (C : Cx x l g mi_X12_isMoved) (F : Prom x g mi_X12_isMoved μ0 (some (aI rv)) μ9) {N : Nat} {s0 : Int32} {μ : Mem} (h : f_X12_isMoved_20 N s0 μ = some (rv, μ9)) : V x g 2 0 0 μ 20 [] [aI s0] := by
  unfold f_X12_isMoved_20 at h
  exact v_zret C F ⟨rfl, rfl, Nat.le_refl _⟩ dX12_isMoved_20 h
set_option maxRecDepth 100000 in
set_option maxHeartbeats 4000000 in
theorem p_X12_isMoved_19 {x : CX} {l : Launch} {g : CG} {rv : Int32} {μ0 μ9 : Mem} (C : Cx x l g mi_X12_isMoved) (F : Prom x g mi_X12_isMoved μ0 (some (aI rv)) μ9) {N : Nat} {μ : Mem} (h : f_X12_isMoved_19 N μ = some (rv, μ9)) : V x g 2 0 0 μ 19 [] [] := by
  unfold f_X12_isMoved_19 at h
  refine v_iconst (v := 0) C dX12_isMoved_19 rfl ?_
  exact v_sb (p_X12_isMoved_20 C F h) trivial
set_option maxRecDepth 100000 in
set_option maxHeartbeats 4000000 in
theorem p_X12_isMoved {x : CX} {l : Launch} {g : CG} {rv : Int32} {μ0 μ9 : Mem} (C : Cx x l g mi_X12_isMoved) (F : Prom x g mi_X12_isMoved μ0 (some (aI rv)) μ9) {N : Nat} {a0 : Option Nat} {a1 : Int32} {μ : Mem} (h : f_X12_isMoved N a0 a1 μ = some (rv, μ9)) : V x g 2 0 0 μ 0 [(0, aR a0), (1, aI a1)] [] := by
  unfold f_X12_isMoved at h
  refine v_aload_n C dX12_isMoved_0 rfl ?_
  obtain ⟨v, e, h⟩ := ob h
  refine v_getI C dX12_isMoved_1 gf_X12_344 e ?_
  refine v_if_le (tgt := 19) C dX12_isMoved_4 (by decide) (fun c => ?_) (fun c => ?_)
  · replace h := ifT h c
    exact v_sb (p_X12_isMoved_19 C F h) trivial
  · replace h := ifF h c
    refine v_aload_n C dX12_isMoved_7 rfl ?_
    obtain ⟨v, e, h⟩ := ob h
    refine v_getI C dX12_isMoved_8 gf_X12_347 e ?_
    refine v_iload_n C dX12_isMoved_11 rfl ?_
    refine v_icmp_ne (tgt := 19) C dX12_isMoved_12 (by decide) (fun c => ?_) (fun c => ?_)
    · replace h := ifT h c
      exact v_sb (p_X12_isMoved_19 C F h) trivial
    · replace h := ifF h c
      refine v_iconst (v := 1) C dX12_isMoved_15 rfl ?_
      refine v_goto (tgt := 20) C dX12_isMoved_16 (by decide) ?_
      exact v_sb (p_X12_isMoved_20 C F h) trivial
set_option maxRecDepth 100000 in
set_option maxHeartbeats 4000000 in
theorem c_X12_isMoved (l : Launch) (g : CG) (N : Nat) (a0 : Option Nat) (a1 : Int32) (μ : Mem) (rv : Int32) (μ9 : Mem) (h : f_X12_isMoved N a0 a1 μ = some (rv, μ9)) : Ct l yX12_isMoved mi_X12_isMoved g [aR a0, aI a1] μ (some (aI rv)) μ9 := ct_of ⟨by decide, rfl, rfl⟩ (Nat.le_of_ble_eq_true rfl) fun x C F => p_X12_isMoved C F h
def f_X12_nobodys (N : Nat) (a0 : Option Nat) (a1 : Int32) (μ : Mem) : Option (Unit × Mem) :=
  (mfR μ a0 12 41).bind fun v1 =>
  (mfR μ a0 12 38).bind fun v2 =>
  (maI μ 0 v2 a1).bind fun v3 =>
  (mbI μ 0 v1 v3 ((-1))).bind fun μ4 =>
  (mfR μ4 a0 12 38).bind fun v5 =>
  (mbI μ4 0 v5 a1 ((-1))).bind fun μ6 =>
  (mfR μ6 a0 12 39).bind fun v7 =>
  (mbZ μ6 2 v7 a1 0).bind fun μ8 =>
  (mfR μ8 a0 12 40).bind fun v9 =>
  (mbZ μ8 2 v9 a1 0).bind fun μ10 =>
  some ((), μ10)
set_option maxRecDepth 100000 in
set_option maxHeartbeats 4000000 in
theorem p_X12_nobodys {x : CX} {l : Launch} {g : CG} {rv : Unit} {μ0 μ9 : Mem} (C : Cx x l g mi_X12_nobodys) (F : Prom x g mi_X12_nobodys μ0 none μ9) {N : Nat} {a0 : Option Nat} {a1 : Int32} {μ : Mem} (h : f_X12_nobodys N a0 a1 μ = some (rv, μ9)) : V x g 2 0 0 μ 0 [(0, aR a0), (1, aI a1)] [] := by
  unfold f_X12_nobodys at h
  refine v_aload_n C dX12_nobodys_0 rfl ?_
  obtain ⟨v, e, h⟩ := ob h
  refine v_getR C dX12_nobodys_1 gf_X12_275 e ?_
  refine v_aload_n C dX12_nobodys_4 rfl ?_
  obtain ⟨v, e, h⟩ := ob h
  refine v_getR C dX12_nobodys_5 gf_X12_266 e ?_
  refine v_iload_n C dX12_nobodys_8 rfl ?_
  obtain ⟨v, e, h⟩ := ob h
  refine v_iaload C dX12_nobodys_9 e ?_
  refine v_iconst (v := -1) C dX12_nobodys_10 rfl ?_
  obtain ⟨m, e, h⟩ := ob h
  refine v_iastore C dX12_nobodys_11 e ?_
  refine v_aload_n C dX12_nobodys_12 rfl ?_
  obtain ⟨v, e, h⟩ := ob h
  refine v_getR C dX12_nobodys_13 gf_X12_266 e ?_
  refine v_iload_n C dX12_nobodys_16 rfl ?_
  refine v_iconst (v := -1) C dX12_nobodys_17 rfl ?_
  obtain ⟨m, e, h⟩ := ob h
  refine v_iastore C dX12_nobodys_18 e ?_
  refine v_aload_n C dX12_nobodys_19 rfl ?_
  obtain ⟨v, e, h⟩ := ob h
  refine v_getR C dX12_nobodys_20 gf_X12_269 e ?_
  refine v_iload_n C dX12_nobodys_23 rfl ?_
  refine v_iconst (v := 0) C dX12_nobodys_24 rfl ?_
  obtain ⟨m, e, h⟩ := ob h
  refine v_bastore C dX12_nobodys_25 e ?_
  refine v_aload_n C dX12_nobodys_26 rfl ?_
  obtain ⟨v, e, h⟩ := ob h
  refine v_getR C dX12_nobodys_27 gf_X12_272 e ?_
  refine v_iload_n C dX12_nobodys_30 rfl ?_
  refine v_iconst (v := 0) C dX12_nobodys_31 rfl ?_
  obtain ⟨m, e, h⟩ := ob h
  refine v_bastore C dX12_nobodys_32 e ?_
  exact v_vret C F ⟨rfl, rfl, Nat.le_refl _⟩ dX12_nobodys_33 h
set_option maxRecDepth 100000 in
set_option maxHeartbeats 4000000 in
theorem c_X12_nobodys (l : Launch) (g : CG) (N : Nat) (a0 : Option Nat) (a1 : Int32) (μ : Mem) (rv : Unit) (μ9 : Mem) (h : f_X12_nobodys N a0 a1 μ = some (rv, μ9)) : Ct l yX12_nobodys mi_X12_nobodys g [aR a0, aI a1] μ none μ9 := ct_of ⟨by decide, rfl, rfl⟩ (Nat.le_of_ble_eq_true rfl) fun x C F => p_X12_nobodys C F h
def f_X12_mount_16 (N : Nat) (μ : Mem) : Option (Int32 × Mem) :=
  retZ 0 μ
def f_X12_mount_74 (N : Nat) (k40 : (Option Nat) → Int32 → Int32 → Mem → Option (Int32 × Mem)) (a0 : Option Nat) (a1 : Int32) (a2 : Int32) (s0 : Option Nat) (s1 : Int32) (s2 : Int32) (μ : Mem) : Option (Int32 × Mem) :=
  (mbI μ 0 s0 s1 s2).bind fun μ1 =>
  k40 a0 a1 (a2 + 1) μ1
def H_X12_mount_40 (N : Nat) (k40 : (Option Nat) → Int32 → Int32 → Mem → Option (Int32 × Mem)) (a0 : Option Nat) (a1 : Int32) (a2 : Int32) (μ : Mem) : Option (Int32 × Mem) :=
  if (4096 : Int32) ≤ a2 then
    (mfR μ a0 12 43).bind fun v1 =>
    (mbI μ 0 v1 a1 0).bind fun μ2 =>
    (mfR μ2 a0 12 44).bind fun v3 =>
    (mbI μ2 0 v3 a1 0).bind fun μ4 =>
    (mfR μ4 a0 12 46).bind fun v5 =>
    (mbI μ4 0 v5 a1 0).bind fun μ6 =>
    (mfR μ6 a0 12 45).bind fun v7 =>
    (mbI μ6 0 v7 a1 128).bind fun μ8 =>
    (mfR μ8 a0 12 42).bind fun v9 =>
    (mbI μ8 0 v9 a1 6).bind fun μ10 =>
    retZ 1 μ10
  else
    (mfR μ a0 12 36).bind fun v11 =>
    (maR μ 3 v11 a1).bind fun v12 =>
    (mfR μ a0 12 25).bind fun v13 =>
    (maI μ 0 v13 a2).bind fun v14 =>
    if ¬ v14 = (((-1)) : Int32) then
      (mfR μ a0 12 25).bind fun v15 =>
      (maI μ 0 v15 a2).bind fun v16 =>
      f_X12_mount_74 N k40 a0 a1 a2 v12 a2 v16 μ
    else
      f_X12_mount_74 N k40 a0 a1 a2 v12 a2 0 μ
def L_X12_mount_40 (N : Nat) : Nat → (Option Nat) → Int32 → Int32 → Mem → Option (Int32 × Mem)
  | 0 => fun _ _ _ _ => none
  | n + 1 => H_X12_mount_40 N (L_X12_mount_40 N n)
def f_X12_mount_38 (N : Nat) (a0 : Option Nat) (a1 : Int32) (μ : Mem) : Option (Int32 × Mem) :=
  L_X12_mount_40 N N a0 a1 0 μ
def f_X12_mount (N : Nat) (a0 : Option Nat) (a1 : Int32) (μ : Mem) : Option (Int32 × Mem) :=
  (mck μ a0 12).bind fun b2 =>
  (f_X12_rests N (some b2) a1 μ).bind fun q1 =>
  if q1.1 = 0 then
    f_X12_mount_16 N q1.2
  else
    (mck q1.2 a0 12).bind fun b4 =>
    (f_X12_isMoved N (some b4) a1 q1.2).bind fun q3 =>
    if q3.1 = 0 then
      (mfR q3.2 a0 12 41).bind fun v5 =>
      (maI q3.2 0 v5 a1).bind fun v6 =>
      if v6 = (((-1)) : Int32) then
        f_X12_mount_38 N a0 a1 q3.2
      else
        (mfR q3.2 a0 12 41).bind fun v7 =>
        (maI q3.2 0 v7 a1).bind fun v8 =>
        (mck q3.2 a0 12).bind fun b10 =>
        (f_X12_nobodys N (some b10) v8 q3.2).bind fun q9 =>
        f_X12_mount_38 N a0 a1 q9.2
    else
      f_X12_mount_16 N q3.2
set_option maxRecDepth 100000 in
set_option maxHeartbeats 4000000 in
theorem p_X12_mount_16 {x : CX} {l : Launch} {g : CG} {rv : Int32} {μ0 μ9 : Mem} (C : Cx x l g mi_X12_mount) (F : Prom x g mi_X12_mount μ0 (some (aI rv)) μ9) {N : Nat} {μ : Mem} (h : f_X12_mount_16 N μ = some (rv, μ9)) : V x g 3 0 0 μ 16 [] [] := by
  unfold f_X12_mount_16 at h
  refine v_iconst (v := 0) C dX12_mount_16 rfl ?_
  exact v_zret C F ⟨rfl, rfl, Nat.le_refl _⟩ dX12_mount_17 h
set_option maxRecDepth 100000 in
set_option maxHeartbeats 4000000 in
theorem p_X12_mount_74 {x : CX} {l : Launch} {g : CG} {rv : Int32} {μ0 μ9 : Mem} (C : Cx x l g mi_X12_mount) (F : Prom x g mi_X12_mount μ0 (some (aI rv)) μ9) {N : Nat} {k40 : (Option Nat) → Int32 → Int32 → Mem → Option (Int32 × Mem)} (hk40 : ∀ (a0 : Option Nat) (a1 : Int32) (a2 : Int32) (μ : Mem), k40 a0 a1 a2 μ = some (rv, μ9) → V x g 3 0 0 μ 40 [(0, aR a0), (1, aI a1), (2, aI a2)] []) {a0 : Option Nat} {a1 : Int32} {a2 : Int32} {s0 : Option Nat} {s1 : Int32} {s2 : Int32} {μ : Mem} (h : f_X12_mount_74 N k40 a0 a1 a2 s0 s1 s2 μ = some (rv, μ9)) : V x g 3 0 0 μ 74 [(0, aR a0), (1, aI a1), (2, aI a2)] [aI s2, aI s1, aR s0] := by
  unfold f_X12_mount_74 at h
  obtain ⟨m, e, h⟩ := ob h
  refine v_iastore C dX12_mount_74 e ?_
  refine v_iinc (w := 1) C dX12_mount_75 rfl rfl (by decide) ?_
  refine v_goto (tgt := 40) C dX12_mount_78 (by decide) ?_
  exact v_sb (hk40 _ _ _ _ h) ⟨rfl, rfl, rfl, trivial⟩
set_option maxRecDepth 100000 in
set_option maxHeartbeats 4000000 in
theorem pH_X12_mount_40 {x : CX} {l : Launch} {g : CG} {rv : Int32} {μ0 μ9 : Mem} (C : Cx x l g mi_X12_mount) (F : Prom x g mi_X12_mount μ0 (some (aI rv)) μ9) {N : Nat} {k40 : (Option Nat) → Int32 → Int32 → Mem → Option (Int32 × Mem)} (hk40 : ∀ (a0 : Option Nat) (a1 : Int32) (a2 : Int32) (μ : Mem), k40 a0 a1 a2 μ = some (rv, μ9) → V x g 3 0 0 μ 40 [(0, aR a0), (1, aI a1), (2, aI a2)] []) {a0 : Option Nat} {a1 : Int32} {a2 : Int32} {μ : Mem} (h : H_X12_mount_40 N k40 a0 a1 a2 μ = some (rv, μ9)) : V x g 3 0 0 μ 40 [(0, aR a0), (1, aI a1), (2, aI a2)] [] := by
  unfold H_X12_mount_40 at h
  refine v_iload_n C dX12_mount_40 rfl ?_
  refine v_sipush (v := 4096) C dX12_mount_41 rfl ?_
  refine v_icmp_ge (tgt := 81) C dX12_mount_44 (by decide) (fun c => ?_) (fun c => ?_)
  · replace h := ifT h c
    refine v_aload_n C dX12_mount_81 rfl ?_
    obtain ⟨v, e, h⟩ := ob h
    refine v_getR C dX12_mount_82 gf_X12_281 e ?_
    refine v_iload_n C dX12_mount_85 rfl ?_
    refine v_iconst (v := 0) C dX12_mount_86 rfl ?_
    obtain ⟨m, e, h⟩ := ob h
    refine v_iastore C dX12_mount_87 e ?_
    refine v_aload_n C dX12_mount_88 rfl ?_
    obtain ⟨v, e, h⟩ := ob h
    refine v_getR C dX12_mount_89 gf_X12_284 e ?_
    refine v_iload_n C dX12_mount_92 rfl ?_
    refine v_iconst (v := 0) C dX12_mount_93 rfl ?_
    obtain ⟨m, e, h⟩ := ob h
    refine v_iastore C dX12_mount_94 e ?_
    refine v_aload_n C dX12_mount_95 rfl ?_
    obtain ⟨v, e, h⟩ := ob h
    refine v_getR C dX12_mount_96 gf_X12_290 e ?_
    refine v_iload_n C dX12_mount_99 rfl ?_
    refine v_iconst (v := 0) C dX12_mount_100 rfl ?_
    obtain ⟨m, e, h⟩ := ob h
    refine v_iastore C dX12_mount_101 e ?_
    refine v_aload_n C dX12_mount_102 rfl ?_
    obtain ⟨v, e, h⟩ := ob h
    refine v_getR C dX12_mount_103 gf_X12_287 e ?_
    refine v_iload_n C dX12_mount_106 rfl ?_
    refine v_sipush (v := 128) C dX12_mount_107 rfl ?_
    obtain ⟨m, e, h⟩ := ob h
    refine v_iastore C dX12_mount_110 e ?_
    refine v_aload_n C dX12_mount_111 rfl ?_
    obtain ⟨v, e, h⟩ := ob h
    refine v_getR C dX12_mount_112 gf_X12_278 e ?_
    refine v_iload_n C dX12_mount_115 rfl ?_
    refine v_bipush (v := 6) C dX12_mount_116 rfl ?_
    obtain ⟨m, e, h⟩ := ob h
    refine v_iastore C dX12_mount_118 e ?_
    refine v_iconst (v := 1) C dX12_mount_119 rfl ?_
    exact v_zret C F ⟨rfl, rfl, Nat.le_refl _⟩ dX12_mount_120 h
  · replace h := ifF h c
    refine v_aload_n C dX12_mount_47 rfl ?_
    obtain ⟨v, e, h⟩ := ob h
    refine v_getR C dX12_mount_48 gf_X12_260 e ?_
    refine v_iload_n C dX12_mount_51 rfl ?_
    obtain ⟨v, e, h⟩ := ob h
    refine v_aaload3 C dX12_mount_52 e ?_
    refine v_iload_n C dX12_mount_53 rfl ?_
    refine v_aload_n C dX12_mount_54 rfl ?_
    obtain ⟨v, e, h⟩ := ob h
    refine v_getR C dX12_mount_55 gf_X12_226 e ?_
    refine v_iload_n C dX12_mount_58 rfl ?_
    obtain ⟨v, e, h⟩ := ob h
    refine v_iaload C dX12_mount_59 e ?_
    refine v_iconst (v := -1) C dX12_mount_60 rfl ?_
    refine v_icmp_ne (tgt := 68) C dX12_mount_61 (by decide) (fun c => ?_) (fun c => ?_)
    · replace h := ifT h c
      refine v_aload_n C dX12_mount_68 rfl ?_
      obtain ⟨v, e, h⟩ := ob h
      refine v_getR C dX12_mount_69 gf_X12_226 e ?_
      refine v_iload_n C dX12_mount_72 rfl ?_
      obtain ⟨v, e, h⟩ := ob h
      refine v_iaload C dX12_mount_73 e ?_
      exact v_sb (p_X12_mount_74 C F hk40 h) ⟨rfl, rfl, rfl, trivial⟩
    · replace h := ifF h c
      refine v_iconst (v := 0) C dX12_mount_64 rfl ?_
      refine v_goto (tgt := 74) C dX12_mount_65 (by decide) ?_
      exact v_sb (p_X12_mount_74 C F hk40 h) ⟨rfl, rfl, rfl, trivial⟩
set_option maxRecDepth 100000 in
set_option maxHeartbeats 4000000 in
theorem pL_X12_mount_40 {x : CX} {l : Launch} {g : CG} {rv : Int32} {μ0 μ9 : Mem} (C : Cx x l g mi_X12_mount) (F : Prom x g mi_X12_mount μ0 (some (aI rv)) μ9) (N : Nat) (n : Nat) : ∀ (a0 : Option Nat) (a1 : Int32) (a2 : Int32) (μ : Mem), L_X12_mount_40 N n a0 a1 a2 μ = some (rv, μ9) → V x g 3 0 0 μ 40 [(0, aR a0), (1, aI a1), (2, aI a2)] [] := by
  induction n with
  | zero => intro a0 a1 a2 μ h; cases h
  | succ n ih => intro a0 a1 a2 μ h; exact pH_X12_mount_40 C F ih h
set_option maxRecDepth 100000 in
set_option maxHeartbeats 4000000 in
theorem p_X12_mount_38 {x : CX} {l : Launch} {g : CG} {rv : Int32} {μ0 μ9 : Mem} (C : Cx x l g mi_X12_mount) (F : Prom x g mi_X12_mount μ0 (some (aI rv)) μ9) {N : Nat} {a0 : Option Nat} {a1 : Int32} {μ : Mem} (h : f_X12_mount_38 N a0 a1 μ = some (rv, μ9)) : V x g 3 0 0 μ 38 [(0, aR a0), (1, aI a1)] [] := by
  unfold f_X12_mount_38 at h
  refine v_iconst (v := 0) C dX12_mount_38 rfl ?_
  refine v_istore_n C dX12_mount_39 (by decide) ?_
  exact v_sb (pL_X12_mount_40 C F N N _ _ _ _ h) ⟨rfl, rfl, rfl, trivial⟩
set_option maxRecDepth 100000 in
set_option maxHeartbeats 4000000 in
theorem p_X12_mount {x : CX} {l : Launch} {g : CG} {rv : Int32} {μ0 μ9 : Mem} (C : Cx x l g mi_X12_mount) (F : Prom x g mi_X12_mount μ0 (some (aI rv)) μ9) {N : Nat} {a0 : Option Nat} {a1 : Int32} {μ : Mem} (h : f_X12_mount N a0 a1 μ = some (rv, μ9)) : V x g 3 0 0 μ 0 [(0, aR a0), (1, aI a1)] [] := by
  unfold f_X12_mount at h
  refine v_aload_n C dX12_mount_0 rfl ?_
  refine v_iload_n C dX12_mount_1 rfl ?_
  obtain ⟨b, e0, h⟩ := ob h
  obtain ⟨q, e, h⟩ := ob h
  refine v_callV (As := [_]) C dX12_mount_2 cf_X12_350 (rm_X12_mount_X12_rests) ⟨rfl, rfl⟩ e0 rfl (Nat.le_of_ble_eq_true rfl) (c_X12_rests _ _ N _ _ _ q.1 q.2 e) ?_
  refine v_if_eq (tgt := 16) C dX12_mount_5 (by decide) (fun c => ?_) (fun c => ?_)
  · replace h := ifT h c
    exact v_sb (p_X12_mount_16 C F h) trivial
  · replace h := ifF h c
    refine v_aload_n C dX12_mount_8 rfl ?_
    refine v_iload_n C dX12_mount_9 rfl ?_
    obtain ⟨b, e0, h⟩ := ob h
    obtain ⟨q, e, h⟩ := ob h
    refine v_callV (As := [_]) C dX12_mount_10 cf_X12_353 (rm_X12_mount_X12_isMoved) ⟨rfl, rfl⟩ e0 rfl (Nat.le_of_ble_eq_true rfl) (c_X12_isMoved _ _ N _ _ _ q.1 q.2 e) ?_
    refine v_if_eq (tgt := 18) C dX12_mount_13 (by decide) (fun c => ?_) (fun c => ?_)
    · replace h := ifT h c
      refine v_aload_n C dX12_mount_18 rfl ?_
      obtain ⟨v, e, h⟩ := ob h
      refine v_getR C dX12_mount_19 gf_X12_275 e ?_
      refine v_iload_n C dX12_mount_22 rfl ?_
      obtain ⟨v, e, h⟩ := ob h
      refine v_iaload C dX12_mount_23 e ?_
      refine v_iconst (v := -1) C dX12_mount_24 rfl ?_
      refine v_icmp_eq (tgt := 38) C dX12_mount_25 (by decide) (fun c => ?_) (fun c => ?_)
      · replace h := ifT h c
        exact v_sb (p_X12_mount_38 C F h) ⟨rfl, rfl, trivial⟩
      · replace h := ifF h c
        refine v_aload_n C dX12_mount_28 rfl ?_
        refine v_aload_n C dX12_mount_29 rfl ?_
        obtain ⟨v, e, h⟩ := ob h
        refine v_getR C dX12_mount_30 gf_X12_275 e ?_
        refine v_iload_n C dX12_mount_33 rfl ?_
        obtain ⟨v, e, h⟩ := ob h
        refine v_iaload C dX12_mount_34 e ?_
        obtain ⟨b, e0, h⟩ := ob h
        obtain ⟨q, e, h⟩ := ob h
        refine v_callV (As := [_]) C dX12_mount_35 cf_X12_356 (rm_X12_mount_X12_nobodys) ⟨rfl, rfl⟩ e0 rfl (Nat.le_of_ble_eq_true rfl) (c_X12_nobodys _ _ N _ _ _ q.1 q.2 e) ?_
        exact v_sb (p_X12_mount_38 C F h) ⟨rfl, rfl, trivial⟩
    · replace h := ifF h c
      exact v_sb (p_X12_mount_16 C F h) trivial
set_option maxRecDepth 100000 in
set_option maxHeartbeats 4000000 in
theorem c_X12_mount (l : Launch) (g : CG) (N : Nat) (a0 : Option Nat) (a1 : Int32) (μ : Mem) (rv : Int32) (μ9 : Mem) (h : f_X12_mount N a0 a1 μ = some (rv, μ9)) : Ct l yX12_mount mi_X12_mount g [aR a0, aI a1] μ (some (aI rv)) μ9 := ct_of ⟨by decide, rfl, rfl⟩ (Nat.le_of_ble_eq_true rfl) fun x C F => p_X12_mount C F h
def f_X12_isWord (N : Nat) (a0 : Int32) (μ : Mem) : Option (Int32 × Mem) :=
  (f_X12_in N a0 0 4095 μ).bind fun q1 =>
  retZ q1.1 q1.2
set_option maxRecDepth 100000 in
set_option maxHeartbeats 4000000 in
theorem p_X12_isWord {x : CX} {l : Launch} {g : CG} {rv : Int32} {μ0 μ9 : Mem} (C : Cx x l g mi_X12_isWord) (F : Prom x g mi_X12_isWord μ0 (some (aI rv)) μ9) {N : Nat} {a0 : Int32} {μ : Mem} (h : f_X12_isWord N a0 μ = some (rv, μ9)) : V x g 1 0 0 μ 0 [(0, aI a0)] [] := by
  unfold f_X12_isWord at h
  refine v_iload_n C dX12_isWord_0 rfl ?_
  refine v_iconst (v := 0) C dX12_isWord_1 rfl ?_
  refine v_sipush (v := 4095) C dX12_isWord_2 rfl ?_
  obtain ⟨q, e, h⟩ := ob h
  refine v_callS (As := [_, _, _]) C dX12_isWord_5 cf_X12_15 (rm_X12_isWord_X12_in) ⟨rfl, rfl⟩ rfl (Nat.le_of_ble_eq_true rfl) (c_X12_in _ _ N _ _ _ _ q.1 q.2 e) ?_
  exact v_zret C F ⟨rfl, rfl, Nat.le_refl _⟩ dX12_isWord_8 h
set_option maxRecDepth 100000 in
set_option maxHeartbeats 4000000 in
theorem c_X12_isWord (l : Launch) (g : CG) (N : Nat) (a0 : Int32) (μ : Mem) (rv : Int32) (μ9 : Mem) (h : f_X12_isWord N a0 μ = some (rv, μ9)) : Ct l yX12_isWord mi_X12_isWord g [aI a0] μ (some (aI rv)) μ9 := ct_of ⟨by decide, rfl, rfl⟩ (Nat.le_of_ble_eq_true rfl) fun x C F => p_X12_isWord C F h
def f_X12_becomesReady (N : Nat) (a0 : Option Nat) (a1 : Int32) (μ : Mem) : Option (Unit × Mem) :=
  (mfR μ a0 12 42).bind fun v1 =>
  (mbI μ 0 v1 a1 1).bind fun μ2 =>
  (mfR μ2 a0 12 62).bind fun v3 =>
  (mfI μ2 a0 12 63).bind fun v4 =>
  (mbI μ2 0 v3 v4 a1).bind fun μ5 =>
  (mfI μ5 a0 12 63).bind fun v6 =>
  (mpI μ5 a0 12 63 (v6 + 1)).bind fun μ7 =>
  some ((), μ7)
set_option maxRecDepth 100000 in
set_option maxHeartbeats 4000000 in
theorem p_X12_becomesReady {x : CX} {l : Launch} {g : CG} {rv : Unit} {μ0 μ9 : Mem} (C : Cx x l g mi_X12_becomesReady) (F : Prom x g mi_X12_becomesReady μ0 none μ9) {N : Nat} {a0 : Option Nat} {a1 : Int32} {μ : Mem} (h : f_X12_becomesReady N a0 a1 μ = some (rv, μ9)) : V x g 2 0 0 μ 0 [(0, aR a0), (1, aI a1)] [] := by
  unfold f_X12_becomesReady at h
  refine v_aload_n C dX12_becomesReady_0 rfl ?_
  obtain ⟨v, e, h⟩ := ob h
  refine v_getR C dX12_becomesReady_1 gf_X12_278 e ?_
  refine v_iload_n C dX12_becomesReady_4 rfl ?_
  refine v_iconst (v := 1) C dX12_becomesReady_5 rfl ?_
  obtain ⟨m, e, h⟩ := ob h
  refine v_iastore C dX12_becomesReady_6 e ?_
  refine v_aload_n C dX12_becomesReady_7 rfl ?_
  obtain ⟨v, e, h⟩ := ob h
  refine v_getR C dX12_becomesReady_8 gf_X12_234 e ?_
  refine v_aload_n C dX12_becomesReady_11 rfl ?_
  obtain ⟨v, e, h⟩ := ob h
  refine v_getI C dX12_becomesReady_12 gf_X12_338 e ?_
  refine v_iload_n C dX12_becomesReady_15 rfl ?_
  obtain ⟨m, e, h⟩ := ob h
  refine v_iastore C dX12_becomesReady_16 e ?_
  refine v_aload_n C dX12_becomesReady_17 rfl ?_
  refine v_dup C dX12_becomesReady_18 rfl ?_
  obtain ⟨v, e, h⟩ := ob h
  refine v_getI C dX12_becomesReady_19 gf_X12_338 e ?_
  refine v_iconst (v := 1) C dX12_becomesReady_22 rfl ?_
  refine v_iadd C dX12_becomesReady_23 ?_
  obtain ⟨m, e, h⟩ := ob h
  refine v_putI C dX12_becomesReady_24 (pf_X12_338 _) e ?_
  exact v_vret C F ⟨rfl, rfl, Nat.le_refl _⟩ dX12_becomesReady_27 h
set_option maxRecDepth 100000 in
set_option maxHeartbeats 4000000 in
theorem c_X12_becomesReady (l : Launch) (g : CG) (N : Nat) (a0 : Option Nat) (a1 : Int32) (μ : Mem) (rv : Unit) (μ9 : Mem) (h : f_X12_becomesReady N a0 a1 μ = some (rv, μ9)) : Ct l yX12_becomesReady mi_X12_becomesReady g [aR a0, aI a1] μ none μ9 := ct_of ⟨by decide, rfl, rfl⟩ (Nat.le_of_ble_eq_true rfl) fun x C F => p_X12_becomesReady C F h
def f_X12_begin_24 (N : Nat) (μ : Mem) : Option (Int32 × Mem) :=
  retZ 0 μ
def f_X12_begin (N : Nat) (a0 : Option Nat) (a1 : Int32) (a2 : Int32) (μ : Mem) : Option (Int32 × Mem) :=
  (mck μ a0 12).bind fun b2 =>
  (f_X12_rests N (some b2) a1 μ).bind fun q1 =>
  if q1.1 = 0 then
    f_X12_begin_24 N q1.2
  else
    (mfR q1.2 a0 12 42).bind fun v3 =>
    (maI q1.2 0 v3 a1).bind fun v4 =>
    if v4 = 0 then
      f_X12_begin_24 N q1.2
    else
      (f_X12_isWord N a2 q1.2).bind fun q5 =>
      if ¬ q5.1 = 0 then
        (mfR q5.2 a0 12 45).bind fun v6 =>
        (mbI q5.2 0 v6 a1 a2).bind fun μ7 =>
        (mck μ7 a0 12).bind fun b9 =>
        (f_X12_becomesReady N (some b9) a1 μ7).bind fun q8 =>
        retZ 1 q8.2
      else
        f_X12_begin_24 N q5.2
set_option maxRecDepth 100000 in
set_option maxHeartbeats 4000000 in
theorem p_X12_begin_24 {x : CX} {l : Launch} {g : CG} {rv : Int32} {μ0 μ9 : Mem} (C : Cx x l g mi_X12_begin) (F : Prom x g mi_X12_begin μ0 (some (aI rv)) μ9) {N : Nat} {μ : Mem} (h : f_X12_begin_24 N μ = some (rv, μ9)) : V x g 3 0 0 μ 24 [] [] := by
  unfold f_X12_begin_24 at h
  refine v_iconst (v := 0) C dX12_begin_24 rfl ?_
  exact v_zret C F ⟨rfl, rfl, Nat.le_refl _⟩ dX12_begin_25 h
set_option maxRecDepth 100000 in
set_option maxHeartbeats 4000000 in
theorem p_X12_begin {x : CX} {l : Launch} {g : CG} {rv : Int32} {μ0 μ9 : Mem} (C : Cx x l g mi_X12_begin) (F : Prom x g mi_X12_begin μ0 (some (aI rv)) μ9) {N : Nat} {a0 : Option Nat} {a1 : Int32} {a2 : Int32} {μ : Mem} (h : f_X12_begin N a0 a1 a2 μ = some (rv, μ9)) : V x g 3 0 0 μ 0 [(0, aR a0), (1, aI a1), (2, aI a2)] [] := by
  unfold f_X12_begin at h
  refine v_aload_n C dX12_begin_0 rfl ?_
  refine v_iload_n C dX12_begin_1 rfl ?_
  obtain ⟨b, e0, h⟩ := ob h
  obtain ⟨q, e, h⟩ := ob h
  refine v_callV (As := [_]) C dX12_begin_2 cf_X12_350 (rm_X12_begin_X12_rests) ⟨rfl, rfl⟩ e0 rfl (Nat.le_of_ble_eq_true rfl) (c_X12_rests _ _ N _ _ _ q.1 q.2 e) ?_
  refine v_if_eq (tgt := 24) C dX12_begin_5 (by decide) (fun c => ?_) (fun c => ?_)
  · replace h := ifT h c
    exact v_sb (p_X12_begin_24 C F h) trivial
  · replace h := ifF h c
    refine v_aload_n C dX12_begin_8 rfl ?_
    obtain ⟨v, e, h⟩ := ob h
    refine v_getR C dX12_begin_9 gf_X12_278 e ?_
    refine v_iload_n C dX12_begin_12 rfl ?_
    obtain ⟨v, e, h⟩ := ob h
    refine v_iaload C dX12_begin_13 e ?_
    refine v_if_eq (tgt := 24) C dX12_begin_14 (by decide) (fun c => ?_) (fun c => ?_)
    · replace h := ifT h c
      exact v_sb (p_X12_begin_24 C F h) trivial
    · replace h := ifF h c
      refine v_iload_n C dX12_begin_17 rfl ?_
      obtain ⟨q, e, h⟩ := ob h
      refine v_callS (As := [_]) C dX12_begin_18 cf_X12_359 (rm_X12_begin_X12_isWord) ⟨rfl, rfl⟩ rfl (Nat.le_of_ble_eq_true rfl) (c_X12_isWord _ _ N _ _ q.1 q.2 e) ?_
      refine v_if_ne (tgt := 26) C dX12_begin_21 (by decide) (fun c => ?_) (fun c => ?_)
      · replace h := ifT h c
        refine v_aload_n C dX12_begin_26 rfl ?_
        obtain ⟨v, e, h⟩ := ob h
        refine v_getR C dX12_begin_27 gf_X12_287 e ?_
        refine v_iload_n C dX12_begin_30 rfl ?_
        refine v_iload_n C dX12_begin_31 rfl ?_
        obtain ⟨m, e, h⟩ := ob h
        refine v_iastore C dX12_begin_32 e ?_
        refine v_aload_n C dX12_begin_33 rfl ?_
        refine v_iload_n C dX12_begin_34 rfl ?_
        obtain ⟨b, e0, h⟩ := ob h
        obtain ⟨q, e, h⟩ := ob h
        refine v_callV (As := [_]) C dX12_begin_35 cf_X12_362 (rm_X12_begin_X12_becomesReady) ⟨rfl, rfl⟩ e0 rfl (Nat.le_of_ble_eq_true rfl) (c_X12_becomesReady _ _ N _ _ _ q.1 q.2 e) ?_
        refine v_iconst (v := 1) C dX12_begin_38 rfl ?_
        exact v_zret C F ⟨rfl, rfl, Nat.le_refl _⟩ dX12_begin_39 h
      · replace h := ifF h c
        exact v_sb (p_X12_begin_24 C F h) trivial
set_option maxRecDepth 100000 in
set_option maxHeartbeats 4000000 in
theorem c_X12_begin (l : Launch) (g : CG) (N : Nat) (a0 : Option Nat) (a1 : Int32) (a2 : Int32) (μ : Mem) (rv : Int32) (μ9 : Mem) (h : f_X12_begin N a0 a1 a2 μ = some (rv, μ9)) : Ct l yX12_begin mi_X12_begin g [aR a0, aI a1, aI a2] μ (some (aI rv)) μ9 := ct_of ⟨by decide, rfl, rfl⟩ (Nat.le_of_ble_eq_true rfl) fun x C F => p_X12_begin C F h
