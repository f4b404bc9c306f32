/-! LAYER 1: X0.passZeros, X0.sixBits, X0.passText, X0.mayBeginWord, X0.isModifierAt, X0.finishWord, X7.literalPlace, X0.literalFor, X0.readItem, X0.inPage (by program) -/
def f_X0_passZeros_65 (N : Nat) (a0 : Option Nat) (a2 : Int32) (μ : Mem) : Option (Unit × Mem) :=
  (mfI μ a0 0 10).bind fun v1 =>
  (mpI μ a0 0 10 (v1 + a2)).bind fun μ2 =>
  some ((), μ2)
def H_X0_passZeros_33 (N : Nat) (k33 : (Option Nat) → Int32 → Int32 → Mem → Option (Unit × Mem)) (a0 : Option Nat) (a2 : Int32) (a3 : Int32) (μ : Mem) : Option (Unit × Mem) :=
  (mfI μ a0 0 6).bind fun v1 =>
  if v1 = 0 then
    f_X0_passZeros_65 N a0 a2 μ
  else
    if a2 ≤ a3 then
      f_X0_passZeros_65 N a0 a2 μ
    else
      (mfR μ a0 0 3).bind fun v2 =>
      (mfI μ a0 0 10).bind fun v3 =>
      (mck μ v2 7).bind fun b5 =>
      (f_X7_lay N (some b5) (v3 + a3) 0 μ).bind fun q4 =>
      k33 a0 a2 (a3 + 1) q4.2
def L_X0_passZeros_33 (N : Nat) : Nat → (Option Nat) → Int32 → Int32 → Mem → Option (Unit × Mem)
  | 0 => fun _ _ _ _ => none
  | n + 1 => H_X0_passZeros_33 N (L_X0_passZeros_33 N n)
def f_X0_passZeros (N : Nat) (a0 : Option Nat) (μ : Mem) : Option (Unit × Mem) :=
  (mfI μ a0 0 9).bind fun v1 =>
  (mfI μ a0 0 9).bind fun v2 =>
  (mpI μ a0 0 9 (v2 + 1)).bind fun μ3 =>
  (mck μ3 a0 0).bind fun b5 =>
  (f_X0_readValue N (some b5) 1 μ3).bind fun q4 =>
  (mck q4.2 a0 0).bind fun b7 =>
  (f_X0_mayLay N (some b7) v1 q4.1 q4.2).bind fun q6 =>
  if ¬ q6.1 = 0 then
    L_X0_passZeros_33 N N a0 q4.1 0 q6.2
  else
    some ((), q6.2)
set_option maxRecDepth 100000 in
set_option maxHeartbeats 4000000 in
theorem p_X0_passZeros_65 {x : CX} {l : Launch} {g : CG} {rv : Unit} {μ0 μ9 : Mem} (C : Cx x l g mi_X0_passZeros) (F : Prom x g mi_X0_passZeros μ0 none μ9) {N : Nat} {a0 : Option Nat} {a2 : Int32} {μ : Mem} (h : f_X0_passZeros_65 N a0 a2 μ = some (rv, μ9)) : V x g 4 0 0 μ 65 [(0, aR a0), (2, aI a2)] [] := by
  unfold f_X0_passZeros_65 at h
  refine v_aload_n C dX0_passZeros_65 rfl ?_
  refine v_dup C dX0_passZeros_66 rfl ?_
  obtain ⟨v, e, h⟩ := ob h
  refine v_getI C dX0_passZeros_67 gf_X0_57 e ?_
  refine v_iload_n C dX0_passZeros_70 rfl ?_
  refine v_iadd C dX0_passZeros_71 ?_
  obtain ⟨m, e, h⟩ := ob h
  refine v_putI C dX0_passZeros_72 (pf_X0_57 _) e ?_
  exact v_vret C F ⟨rfl, rfl, Nat.le_refl _⟩ dX0_passZeros_75 h
set_option maxRecDepth 100000 in
set_option maxHeartbeats 4000000 in
theorem pH_X0_passZeros_33 {x : CX} {l : Launch} {g : CG} {rv : Unit} {μ0 μ9 : Mem} (C : Cx x l g mi_X0_passZeros) (F : Prom x g mi_X0_passZeros μ0 none μ9) {N : Nat} {k33 : (Option Nat) → Int32 → Int32 → Mem → Option (Unit × Mem)} (hk33 : ∀ (a0 : Option Nat) (a2 : Int32) (a3 : Int32) (μ : Mem), k33 a0 a2 a3 μ = some (rv, μ9) → V x g 4 0 0 μ 33 [(0, aR a0), (2, aI a2), (3, aI a3)] []) {a0 : Option Nat} {a2 : Int32} {a3 : Int32} {μ : Mem} (h : H_X0_passZeros_33 N k33 a0 a2 a3 μ = some (rv, μ9)) : V x g 4 0 0 μ 33 [(0, aR a0), (2, aI a2), (3, aI a3)] [] := by
  unfold H_X0_passZeros_33 at h
  refine v_aload_n C dX0_passZeros_33 rfl ?_
  obtain ⟨v, e, h⟩ := ob h
  refine v_getI C dX0_passZeros_34 gf_X0_44 e ?_
  refine v_if_eq (tgt := 65) C dX0_passZeros_37 (by decide) (fun c => ?_) (fun c => ?_)
  · replace h := ifT h c
    exact v_sb (p_X0_passZeros_65 C F h) ⟨rfl, rfl, trivial⟩
  · replace h := ifF h c
    refine v_iload_n C dX0_passZeros_40 rfl ?_
    refine v_iload_n C dX0_passZeros_41 rfl ?_
    refine v_icmp_ge (tgt := 65) C dX0_passZeros_42 (by decide) (fun c => ?_) (fun c => ?_)
    · replace h := ifT h c
      exact v_sb (p_X0_passZeros_65 C F h) ⟨rfl, rfl, trivial⟩
    · replace h := ifF h c
      refine v_aload_n C dX0_passZeros_45 rfl ?_
      obtain ⟨v, e, h⟩ := ob h
      refine v_getR C dX0_passZeros_46 gf_X0_34 e ?_
      refine v_aload_n C dX0_passZeros_49 rfl ?_
      obtain ⟨v, e, h⟩ := ob h
      refine v_getI C dX0_passZeros_50 gf_X0_57 e ?_
      refine v_iload_n C dX0_passZeros_53 rfl ?_
      refine v_iadd C dX0_passZeros_54 ?_
      refine v_iconst (v := 0) C dX0_passZeros_55 rfl ?_
      obtain ⟨b, e0, h⟩ := ob h
      obtain ⟨q, e, h⟩ := ob h
      refine v_callV (As := [_, _]) C dX0_passZeros_56 cf_X0_174 (rm_X0_passZeros_X7_lay) ⟨rfl, rfl⟩ e0 rfl (Nat.le_of_ble_eq_true rfl) (c_X7_lay _ _ N _ _ _ _ q.1 q.2 e) ?_
      refine v_iinc (w := 1) C dX0_passZeros_59 rfl rfl (by decide) ?_
      refine v_goto (tgt := 33) C dX0_passZeros_62 (by decide) ?_
      exact v_sb (hk33 _ _ _ _ h) ⟨rfl, rfl, rfl, trivial⟩
set_option maxRecDepth 100000 in
set_option maxHeartbeats 4000000 in
theorem pL_X0_passZeros_33 {x : CX} {l : Launch} {g : CG} {rv : Unit} {μ0 μ9 : Mem} (C : Cx x l g mi_X0_passZeros) (F : Prom x g mi_X0_passZeros μ0 none μ9) (N : Nat) (n : Nat) : ∀ (a0 : Option Nat) (a2 : Int32) (a3 : Int32) (μ : Mem), L_X0_passZeros_33 N n a0 a2 a3 μ = some (rv, μ9) → V x g 4 0 0 μ 33 [(0, aR a0), (2, aI a2), (3, aI a3)] [] := by
  induction n with
  | zero => intro a0 a2 a3 μ h; cases h
  | succ n ih => intro a0 a2 a3 μ h; exact pH_X0_passZeros_33 C F ih h
set_option maxRecDepth 100000 in
set_option maxHeartbeats 4000000 in
theorem p_X0_passZeros {x : CX} {l : Launch} {g : CG} {rv : Unit} {μ0 μ9 : Mem} (C : Cx x l g mi_X0_passZeros) (F : Prom x g mi_X0_passZeros μ0 none μ9) {N : Nat} {a0 : Option Nat} {μ : Mem} (h : f_X0_passZeros N a0 μ = some (rv, μ9)) : V x g 4 0 0 μ 0 [(0, aR a0)] [] := by
  unfold f_X0_passZeros at h
  refine v_aload_n C dX0_passZeros_0 rfl ?_
  obtain ⟨v, e, h⟩ := ob h
  refine v_getI C dX0_passZeros_1 gf_X0_54 e ?_
  refine v_istore_n C dX0_passZeros_4 (by decide) ?_
  refine v_aload_n C dX0_passZeros_5 rfl ?_
  refine v_dup C dX0_passZeros_6 rfl ?_
  obtain ⟨v, e, h⟩ := ob h
  refine v_getI C dX0_passZeros_7 gf_X0_54 e ?_
  refine v_iconst (v := 1) C dX0_passZeros_10 rfl ?_
  refine v_iadd C dX0_passZeros_11 ?_
  obtain ⟨m, e, h⟩ := ob h
  refine v_putI C dX0_passZeros_12 (pf_X0_54 _) e ?_
  refine v_aload_n C dX0_passZeros_15 rfl ?_
  refine v_iconst (v := 1) C dX0_passZeros_16 rfl ?_
  obtain ⟨b, e0, h⟩ := ob h
  obtain ⟨q, e, h⟩ := ob h
  refine v_callV (As := [_]) C dX0_passZeros_17 cf_X0_163 (rm_X0_passZeros_X0_readValue) ⟨rfl, rfl⟩ e0 rfl (Nat.le_of_ble_eq_true rfl) (c_X0_readValue _ _ N _ _ _ q.1 q.2 e) ?_
  refine v_istore_n C dX0_passZeros_20 (by decide) ?_
  refine v_aload_n C dX0_passZeros_21 rfl ?_
  refine v_iload_n C dX0_passZeros_22 rfl ?_
  refine v_iload_n C dX0_passZeros_23 rfl ?_
  obtain ⟨b, e0, h⟩ := ob h
  obtain ⟨q, e, h⟩ := ob h
  refine v_callV (As := [_, _]) C dX0_passZeros_24 cf_X0_170 (rm_X0_passZeros_X0_mayLay) ⟨rfl, rfl⟩ e0 rfl (Nat.le_of_ble_eq_true rfl) (c_X0_mayLay _ _ N _ _ _ _ q.1 q.2 e) ?_
  refine v_if_ne (tgt := 31) C dX0_passZeros_27 (by decide) (fun c => ?_) (fun c => ?_)
  · replace h := ifT h c
    refine v_iconst (v := 0) C dX0_passZeros_31 rfl ?_
    refine v_istore_n C dX0_passZeros_32 (by decide) ?_
    exact v_sb (pL_X0_passZeros_33 C F N N _ _ _ _ h) ⟨rfl, rfl, rfl, trivial⟩
  · replace h := ifF h c
    exact v_vret C F ⟨rfl, rfl, Nat.le_refl _⟩ dX0_passZeros_30 h
set_option maxRecDepth 100000 in
set_option maxHeartbeats 4000000 in
theorem c_X0_passZeros (l : Launch) (g : CG) (N : Nat) (a0 : Option Nat) (μ : Mem) (rv : Unit) (μ9 : Mem) (h : f_X0_passZeros N a0 μ = some (rv, μ9)) : Ct l yX0_passZeros mi_X0_passZeros g [aR a0] μ none μ9 := ct_of ⟨by decide, rfl, rfl⟩ (Nat.le_of_ble_eq_true rfl) fun x C F => p_X0_passZeros C F h
def f_X0_sixBits_20 (N : Nat) (s0 : Int32) (μ : Mem) : Option (Int32 × Mem) :=
  some (s0, μ)
def f_X0_sixBits (N : Nat) (a0 : Option Nat) (a1 : Int32) (a2 : Int32) (μ : Mem) : Option (Int32 × Mem) :=
  if a2 ≤ a1 then
    f_X0_sixBits_20 N 0 μ
  else
    (mfR μ a0 0 1).bind fun v1 =>
    (mck μ v1 9).bind fun b3 =>
    (f_X9_byteAt N (some b3) a1 μ).bind fun q2 =>
    f_X0_sixBits_20 N (q2.1 &&& 63) q2.2
set_option maxRecDepth 100000 in
set_option maxHeartbeats 4000000 in
theorem p_X0_sixBits_20 {x : CX} {l : Launch} {g : CG} {rv : Int32} {μ0 μ9 : Mem} (C : Cx x l g mi_X0_sixBits) (F : Prom x g mi_X0_sixBits μ0 (some (aI rv)) μ9) {N : Nat} {s0 : Int32} {μ : Mem} (h : f_X0_sixBits_20 N s0 μ = some (rv, μ9)) : V x g 3 0 0 μ 20 [] [aI s0] := by
  unfold f_X0_sixBits_20 at h
  exact v_iret C F ⟨rfl, rfl, Nat.le_refl _⟩ dX0_sixBits_20 h
set_option maxRecDepth 100000 in
set_option maxHeartbeats 4000000 in
theorem p_X0_sixBits {x : CX} {l : Launch} {g : CG} {rv : Int32} {μ0 μ9 : Mem} (C : Cx x l g mi_X0_sixBits) (F : Prom x g mi_X0_sixBits μ0 (some (aI rv)) μ9) {N : Nat} {a0 : Option Nat} {a1 : Int32} {a2 : Int32} {μ : Mem} (h : f_X0_sixBits N a0 a1 a2 μ = some (rv, μ9)) : V x g 3 0 0 μ 0 [(0, aR a0), (1, aI a1), (2, aI a2)] [] := by
  unfold f_X0_sixBits at h
  refine v_iload_n C dX0_sixBits_0 rfl ?_
  refine v_iload_n C dX0_sixBits_1 rfl ?_
  refine v_icmp_ge (tgt := 19) C dX0_sixBits_2 (by decide) (fun c => ?_) (fun c => ?_)
  · replace h := ifT h c
    refine v_iconst (v := 0) C dX0_sixBits_19 rfl ?_
    exact v_sb (p_X0_sixBits_20 C F h) trivial
  · replace h := ifF h c
    refine v_aload_n C dX0_sixBits_5 rfl ?_
    obtain ⟨v, e, h⟩ := ob h
    refine v_getR C dX0_sixBits_6 gf_X0_23 e ?_
    refine v_iload_n C dX0_sixBits_9 rfl ?_
    obtain ⟨b, e0, h⟩ := ob h
    obtain ⟨q, e, h⟩ := ob h
    refine v_callV (As := [_]) C dX0_sixBits_10 cf_X0_184 (rm_X0_sixBits_X9_byteAt) ⟨rfl, rfl⟩ e0 rfl (Nat.le_of_ble_eq_true rfl) (c_X9_byteAt _ _ N _ _ _ q.1 q.2 e) ?_
    refine v_bipush (v := 63) C dX0_sixBits_13 rfl ?_
    refine v_iand C dX0_sixBits_15 ?_
    refine v_goto (tgt := 20) C dX0_sixBits_16 (by decide) ?_
    exact v_sb (p_X0_sixBits_20 C F h) trivial
set_option maxRecDepth 100000 in
set_option maxHeartbeats 4000000 in
theorem c_X0_sixBits (l : Launch) (g : CG) (N : Nat) (a0 : Option Nat) (a1 : Int32) (a2 : Int32) (μ : Mem) (rv : Int32) (μ9 : Mem) (h : f_X0_sixBits N a0 a1 a2 μ = some (rv, μ9)) : Ct l yX0_sixBits mi_X0_sixBits g [aR a0, aI a1, aI a2] μ (some (aI rv)) μ9 := ct_of ⟨by decide, rfl, rfl⟩ (Nat.le_of_ble_eq_true rfl) fun x C F => p_X0_sixBits C F h
def f_X0_passText_122 (N : Nat) (a0 : Option Nat) (a4 : Int32) (μ : Mem) : Option (Unit × Mem) :=
  (mfI μ a0 0 10).bind fun v1 =>
  (mpI μ a0 0 10 (v1 + a4)).bind fun μ2 =>
  some ((), μ2)
def H_X0_passText_56 (N : Nat) (k56 : (Option Nat) → Int32 → Int32 → Int32 → Int32 → Mem → Option (Unit × Mem)) (a0 : Option Nat) (a2 : Int32) (a3 : Int32) (a4 : Int32) (a5 : Int32) (μ : Mem) : Option (Unit × Mem) :=
  (mfI μ a0 0 6).bind fun v1 =>
  if v1 = 0 then
    f_X0_passText_122 N a0 a4 μ
  else
    if a4 ≤ a5 then
      f_X0_passText_122 N a0 a4 μ
    else
      (mck μ a0 0).bind fun b3 =>
      (f_X0_sixBits N (some b3) (a2 + (2 * a5)) a3 μ).bind fun q2 =>
      (mfR q2.2 a0 0 3).bind fun v4 =>
      (mfI q2.2 a0 0 10).bind fun v5 =>
      (mck q2.2 a0 0).bind fun b7 =>
      (f_X0_sixBits N (some b7) ((a2 + (2 * a5)) + 1) a3 q2.2).bind fun q6 =>
      (mck q6.2 v4 7).bind fun b9 =>
      (f_X7_lay N (some b9) (v5 + a5) ((q2.1 <<< ((6 : Int32) &&& 31)) ||| q6.1) q6.2).bind fun q8 =>
      k56 a0 a2 a3 a4 (a5 + 1) q8.2
def L_X0_passText_56 (N : Nat) : Nat → (Option Nat) → Int32 → Int32 → Int32 → Int32 → Mem → Option (Unit × Mem)
  | 0 => fun _ _ _ _ _ _ => none
  | n + 1 => H_X0_passText_56 N (L_X0_passText_56 N n)
def f_X0_passText (N : Nat) (a0 : Option Nat) (μ : Mem) : Option (Unit × Mem) :=
  (mfI μ a0 0 9).bind fun v1 =>
  (mfR μ a0 0 1).bind fun v2 =>
  (mck μ v2 9).bind fun b4 =>
  (f_X9_valueOf N (some b4) v1 μ).bind fun q3 =>
  (mfR q3.2 a0 0 1).bind fun v5 =>
  (mck q3.2 v5 9).bind fun b7 =>
  (f_X9_otherOf N (some b7) v1 q3.2).bind fun q6 =>
  if (2 : Int32) = 0 then none else
  (mfI q6.2 a0 0 9).bind fun v8 =>
  (mpI q6.2 a0 0 9 (v8 + 1)).bind fun μ9 =>
  (mck μ9 a0 0).bind fun b11 =>
  (f_X0_mayLay N (some b11) v1 (((q6.1 - q3.1) / 2) + 1) μ9).bind fun q10 =>
  if ¬ q10.1 = 0 then
    L_X0_passText_56 N N a0 q3.1 q6.1 (((q6.1 - q3.1) / 2) + 1) 0 q10.2
  else
    some ((), q10.2)
set_option maxRecDepth 100000 in
set_option maxHeartbeats 4000000 in
theorem p_X0_passText_122 {x : CX} {l : Launch} {g : CG} {rv : Unit} {μ0 μ9 : Mem} (C : Cx x l g mi_X0_passText) (F : Prom x g mi_X0_passText μ0 none μ9) {N : Nat} {a0 : Option Nat} {a4 : Int32} {μ : Mem} (h : f_X0_passText_122 N a0 a4 μ = some (rv, μ9)) : V x g 7 0 0 μ 122 [(0, aR a0), (4, aI a4)] [] := by
  unfold f_X0_passText_122 at h
  refine v_aload_n C dX0_passText_122 rfl ?_
  refine v_dup C dX0_passText_123 rfl ?_
  obtain ⟨v, e, h⟩ := ob h
  refine v_getI C dX0_passText_124 gf_X0_57 e ?_
  refine v_iload C dX0_passText_127 rfl ?_
  refine v_iadd C dX0_passText_129 ?_
  obtain ⟨m, e, h⟩ := ob h
  refine v_putI C dX0_passText_130 (pf_X0_57 _) e ?_
  exact v_vret C F ⟨rfl, rfl, Nat.le_refl _⟩ dX0_passText_133 h
set_option maxRecDepth 100000 in
set_option maxHeartbeats 4000000 in
theorem pH_X0_passText_56 {x : CX} {l : Launch} {g : CG} {rv : Unit} {μ0 μ9 : Mem} (C : Cx x l g mi_X0_passText) (F : Prom x g mi_X0_passText μ0 none μ9) {N : Nat} {k56 : (Option Nat) → Int32 → Int32 → Int32 → Int32 → Mem → Option (Unit × Mem)} (hk56 : ∀ (a0 : Option Nat) (a2 : Int32) (a3 : Int32) (a4 : Int32) (a5 : Int32) (μ : Mem), k56 a0 a2 a3 a4 a5 μ = some (rv, μ9) → V x g 7 0 0 μ 56 [(0, aR a0), (2, aI a2), (3, aI a3), (4, aI a4), (5, aI a5)] []) {a0 : Option Nat} {a2 : Int32} {a3 : Int32} {a4 : Int32} {a5 : Int32} {μ : Mem} (h : H_X0_passText_56 N k56 a0 a2 a3 a4 a5 μ = some (rv, μ9)) : V x g 7 0 0 μ 56 [(0, aR a0), (2, aI a2), (3, aI a3), (4, aI a4), (5, aI a5)] [] := by
  unfold H_X0_passText_56 at h
  refine v_aload_n C dX0_passText_56 rfl ?_
  obtain ⟨v, e, h⟩ := ob h
  refine v_getI C dX0_passText_57 gf_X0_44 e ?_
  refine v_if_eq (tgt := 122) C dX0_passText_60 (by decide) (fun c => ?_) (fun c => ?_)
  · replace h := ifT h c
    exact v_sb (p_X0_passText_122 C F h) ⟨rfl, rfl, trivial⟩
  · replace h := ifF h c
    refine v_iload C dX0_passText_63 rfl ?_
    refine v_iload C dX0_passText_65 rfl ?_
    refine v_icmp_ge (tgt := 122) C dX0_passText_67 (by decide) (fun c => ?_) (fun c => ?_)
    · replace h := ifT h c
      exact v_sb (p_X0_passText_122 C F h) ⟨rfl, rfl, trivial⟩
    · replace h := ifF h c
      refine v_aload_n C dX0_passText_70 rfl ?_
      refine v_iload_n C dX0_passText_71 rfl ?_
      refine v_iconst (v := 2) C dX0_passText_72 rfl ?_
      refine v_iload C dX0_passText_73 rfl ?_
      refine v_imul C dX0_passText_75 ?_
      refine v_iadd C dX0_passText_76 ?_
      refine v_iload_n C dX0_passText_77 rfl ?_
      obtain ⟨b, e0, h⟩ := ob h
      obtain ⟨q, e, h⟩ := ob h
      refine v_callV (As := [_, _]) C dX0_passText_78 cf_X0_180 (rm_X0_passText_X0_sixBits) ⟨rfl, rfl⟩ e0 rfl (Nat.le_of_ble_eq_true rfl) (c_X0_sixBits _ _ N _ _ _ _ q.1 q.2 e) ?_
      refine v_istore C dX0_passText_81 (by decide) ?_
      refine v_aload_n C dX0_passText_83 rfl ?_
      obtain ⟨v, e, h⟩ := ob h
      refine v_getR C dX0_passText_84 gf_X0_34 e ?_
      refine v_aload_n C dX0_passText_87 rfl ?_
      obtain ⟨v, e, h⟩ := ob h
      refine v_getI C dX0_passText_88 gf_X0_57 e ?_
      refine v_iload C dX0_passText_91 rfl ?_
      refine v_iadd C dX0_passText_93 ?_
      refine v_iload C dX0_passText_94 rfl ?_
      refine v_bipush (v := 6) C dX0_passText_96 rfl ?_
      refine v_ishl C dX0_passText_98 ?_
      refine v_aload_n C dX0_passText_99 rfl ?_
      refine v_iload_n C dX0_passText_100 rfl ?_
      refine v_iconst (v := 2) C dX0_passText_101 rfl ?_
      refine v_iload C dX0_passText_102 rfl ?_
      refine v_imul C dX0_passText_104 ?_
      refine v_iadd C dX0_passText_105 ?_
      refine v_iconst (v := 1) C dX0_passText_106 rfl ?_
      refine v_iadd C dX0_passText_107 ?_
      refine v_iload_n C dX0_passText_108 rfl ?_
      obtain ⟨b, e0, h⟩ := ob h
      obtain ⟨q, e, h⟩ := ob h
      refine v_callV (As := [_, _]) C dX0_passText_109 cf_X0_180 (rm_X0_passText_X0_sixBits) ⟨rfl, rfl⟩ e0 rfl (Nat.le_of_ble_eq_true rfl) (c_X0_sixBits _ _ N _ _ _ _ q.1 q.2 e) ?_
      refine v_ior C dX0_passText_112 ?_
      obtain ⟨b, e0, h⟩ := ob h
      obtain ⟨q, e, h⟩ := ob h
      refine v_callV (As := [_, _]) C dX0_passText_113 cf_X0_174 (rm_X0_passText_X7_lay) ⟨rfl, rfl⟩ e0 rfl (Nat.le_of_ble_eq_true rfl) (c_X7_lay _ _ N _ _ _ _ q.1 q.2 e) ?_
      refine v_iinc (w := 1) C dX0_passText_116 rfl rfl (by decide) ?_
      refine v_goto (tgt := 56) C dX0_passText_119 (by decide) ?_
      exact v_sb (hk56 _ _ _ _ _ _ h) ⟨rfl, rfl, rfl, rfl, rfl, trivial⟩
set_option maxRecDepth 100000 in
set_option maxHeartbeats 4000000 in
theorem pL_X0_passText_56 {x : CX} {l : Launch} {g : CG} {rv : Unit} {μ0 μ9 : Mem} (C : Cx x l g mi_X0_passText) (F : Prom x g mi_X0_passText μ0 none μ9) (N : Nat) (n : Nat) : ∀ (a0 : Option Nat) (a2 : Int32) (a3 : Int32) (a4 : Int32) (a5 : Int32) (μ : Mem), L_X0_passText_56 N n a0 a2 a3 a4 a5 μ = some (rv, μ9) → V x g 7 0 0 μ 56 [(0, aR a0), (2, aI a2), (3, aI a3), (4, aI a4), (5, aI a5)] [] := by
  induction n with
  | zero => intro a0 a2 a3 a4 a5 μ h; cases h
  | succ n ih => intro a0 a2 a3 a4 a5 μ h; exact pH_X0_passText_56 C F ih h
set_option maxRecDepth 100000 in
set_option maxHeartbeats 4000000 in
theorem p_X0_passText {x : CX} {l : Launch} {g : CG} {rv : Unit} {μ0 μ9 : Mem} (C : Cx x l g mi_X0_passText) (F : Prom x g mi_X0_passText μ0 none μ9) {N : Nat} {a0 : Option Nat} {μ : Mem} (h : f_X0_passText N a0 μ = some (rv, μ9)) : V x g 7 0 0 μ 0 [(0, aR a0)] [] := by
  unfold f_X0_passText at h
  refine v_aload_n C dX0_passText_0 rfl ?_
  obtain ⟨v, e, h⟩ := ob h
  refine v_getI C dX0_passText_1 gf_X0_54 e ?_
  refine v_istore_n C dX0_passText_4 (by decide) ?_
  refine v_aload_n C dX0_passText_5 rfl ?_
  obtain ⟨v, e, h⟩ := ob h
  refine v_getR C dX0_passText_6 gf_X0_23 e ?_
  refine v_iload_n C dX0_passText_9 rfl ?_
  obtain ⟨b, e0, h⟩ := ob h
  obtain ⟨q, e, h⟩ := ob h
  refine v_callV (As := [_]) C dX0_passText_10 cf_X0_108 (rm_X0_passText_X9_valueOf) ⟨rfl, rfl⟩ e0 rfl (Nat.le_of_ble_eq_true rfl) (c_X9_valueOf _ _ N _ _ _ q.1 q.2 e) ?_
  refine v_istore_n C dX0_passText_13 (by decide) ?_
  refine v_aload_n C dX0_passText_14 rfl ?_
  obtain ⟨v, e, h⟩ := ob h
  refine v_getR C dX0_passText_15 gf_X0_23 e ?_
  refine v_iload_n C dX0_passText_18 rfl ?_
  obtain ⟨b, e0, h⟩ := ob h
  obtain ⟨q, e, h⟩ := ob h
  refine v_callV (As := [_]) C dX0_passText_19 cf_X0_177 (rm_X0_passText_X9_otherOf) ⟨rfl, rfl⟩ e0 rfl (Nat.le_of_ble_eq_true rfl) (c_X9_otherOf _ _ N _ _ _ q.1 q.2 e) ?_
  refine v_istore_n C dX0_passText_22 (by decide) ?_
  refine v_iload_n C dX0_passText_23 rfl ?_
  refine v_iload_n C dX0_passText_24 rfl ?_
  refine v_isub C dX0_passText_25 ?_
  refine v_iconst (v := 2) C dX0_passText_26 rfl ?_
  obtain ⟨c0, h⟩ := oz h
  refine v_idiv C dX0_passText_27 c0 ?_
  refine v_iconst (v := 1) C dX0_passText_28 rfl ?_
  refine v_iadd C dX0_passText_29 ?_
  refine v_istore C dX0_passText_30 (by decide) ?_
  refine v_aload_n C dX0_passText_32 rfl ?_
  refine v_dup C dX0_passText_33 rfl ?_
  obtain ⟨v, e, h⟩ := ob h
  refine v_getI C dX0_passText_34 gf_X0_54 e ?_
  refine v_iconst (v := 1) C dX0_passText_37 rfl ?_
  refine v_iadd C dX0_passText_38 ?_
  obtain ⟨m, e, h⟩ := ob h
  refine v_putI C dX0_passText_39 (pf_X0_54 _) e ?_
  refine v_aload_n C dX0_passText_42 rfl ?_
  refine v_iload_n C dX0_passText_43 rfl ?_
  refine v_iload C dX0_passText_44 rfl ?_
  obtain ⟨b, e0, h⟩ := ob h
  obtain ⟨q, e, h⟩ := ob h
  refine v_callV (As := [_, _]) C dX0_passText_46 cf_X0_170 (rm_X0_passText_X0_mayLay) ⟨rfl, rfl⟩ e0 rfl (Nat.le_of_ble_eq_true rfl) (c_X0_mayLay _ _ N _ _ _ _ q.1 q.2 e) ?_
  refine v_if_ne (tgt := 53) C dX0_passText_49 (by decide) (fun c => ?_) (fun c => ?_)
  · replace h := ifT h c
    refine v_iconst (v := 0) C dX0_passText_53 rfl ?_
    refine v_istore C dX0_passText_54 (by decide) ?_
    exact v_sb (pL_X0_passText_56 C F N N _ _ _ _ _ _ h) ⟨rfl, rfl, rfl, rfl, rfl, trivial⟩
  · replace h := ifF h c
    exact v_vret C F ⟨rfl, rfl, Nat.le_refl _⟩ dX0_passText_52 h
set_option maxRecDepth 100000 in
set_option maxHeartbeats 4000000 in
theorem c_X0_passText (l : Launch) (g : CG) (N : Nat) (a0 : Option Nat) (μ : Mem) (rv : Unit) (μ9 : Mem) (h : f_X0_passText N a0 μ = some (rv, μ9)) : Ct l yX0_passText mi_X0_passText g [aR a0] μ none μ9 := ct_of ⟨by decide, rfl, rfl⟩ (Nat.le_of_ble_eq_true rfl) fun x C F => p_X0_passText C F h
def f_X0_mayBeginWord_89 (N : Nat) (s0 : Int32) (μ : Mem) : Option (Int32 × Mem) :=
  retZ s0 μ
def f_X0_mayBeginWord_77 (N : Nat) (a0 : Option Nat) (μ : Mem) : Option (Int32 × Mem) :=
  (mfI μ a0 0 4).bind fun v1 =>
  if ¬ v1 = 0 then
    f_X0_mayBeginWord_89 N 0 μ
  else
    f_X0_mayBeginWord_89 N 1 μ
def f_X0_mayBeginWord_58 (N : Nat) (a0 : Option Nat) (μ : Mem) : Option (Int32 × Mem) :=
  (mfI μ a0 0 6).bind fun v1 =>
  if v1 = 0 then
    f_X0_mayBeginWord_77 N a0 μ
  else
    (mfR μ a0 0 3).bind fun v2 =>
    (mfI μ a0 0 10).bind fun v3 =>
    (mck μ v2 7).bind fun b5 =>
    (f_X7_lay N (some b5) v3 0 μ).bind fun q4 =>
    f_X0_mayBeginWord_77 N a0 q4.2
def f_X0_mayBeginWord (N : Nat) (a0 : Option Nat) (μ : Mem) : Option (Int32 × Mem) :=
  (mfI μ a0 0 10).bind fun v1 =>
  if v1 < (4096 : Int32) then
    (mfI μ a0 0 6).bind fun v2 =>
    if v2 = 0 then
      f_X0_mayBeginWord_58 N a0 μ
    else
      (mfR μ a0 0 3).bind fun v3 =>
      (mfI μ a0 0 10).bind fun v4 =>
      (mck μ v3 7).bind fun b6 =>
      (f_X7_hasLiteral N (some b6) v4 1 μ).bind fun q5 =>
      if q5.1 = 0 then
        f_X0_mayBeginWord_58 N a0 q5.2
      else
        (mfI q5.2 a0 0 9).bind fun v7 =>
        (mck q5.2 a0 0).bind fun b9 =>
        (f_X0_report N (some b9) 8 v7 q5.2).bind fun q8 =>
        f_X0_mayBeginWord_77 N a0 q8.2
  else
    (mfI μ a0 0 9).bind fun v10 =>
    (mck μ a0 0).bind fun b12 =>
    (f_X0_report N (some b12) 6 v10 μ).bind fun q11 =>
    f_X0_mayBeginWord_77 N a0 q11.2
set_option maxRecDepth 100000 in
set_option maxHeartbeats 4000000 in
theorem p_X0_mayBeginWord_89 {x : CX} {l : Launch} {g : CG} {rv : Int32} {μ0 μ9 : Mem} (C : Cx x l g mi_X0_mayBeginWord) (F : Prom x g mi_X0_mayBeginWord μ0 (some (aI rv)) μ9) {N : Nat} {s0 : Int32} {μ : Mem} (h : f_X0_mayBeginWord_89 N s0 μ = some (rv, μ9)) : V x g 1 0 0 μ 89 [] [aI s0] := by
  unfold f_X0_mayBeginWord_89 at h
  exact v_zret C F ⟨rfl, rfl, Nat.le_refl _⟩ dX0_mayBeginWord_89 h
set_option maxRecDepth 100000 in
set_option maxHeartbeats 4000000 in
theorem p_X0_mayBeginWord_77 {x : CX} {l : Launch} {g : CG} {rv : Int32} {μ0 μ9 : Mem} (C : Cx x l g mi_X0_mayBeginWord) (F : Prom x g mi_X0_mayBeginWord μ0 (some (aI rv)) μ9) {N : Nat} {a0 : Option Nat} {μ : Mem} (h : f_X0_mayBeginWord_77 N a0 μ = some (rv, μ9)) : V x g 1 0 0 μ 77 [(0, aR a0)] [] := by
  unfold f_X0_mayBeginWord_77 at h
  refine v_aload_n C dX0_mayBeginWord_77 rfl ?_
  obtain ⟨v, e, h⟩ := ob h
  refine v_getI C dX0_mayBeginWord_78 gf_X0_37 e ?_
  refine v_if_ne (tgt := 88) C dX0_mayBeginWord_81 (by decide) (fun c => ?_) (fun c => ?_)
  · replace h := ifT h c
    refine v_iconst (v := 0) C dX0_mayBeginWord_88 rfl ?_
    exact v_sb (p_X0_mayBeginWord_89 C F h) trivial
  · replace h := ifF h c
    refine v_iconst (v := 1) C dX0_mayBeginWord_84 rfl ?_
    refine v_goto (tgt := 89) C dX0_mayBeginWord_85 (by decide) ?_
    exact v_sb (p_X0_mayBeginWord_89 C F h) trivial
set_option maxRecDepth 100000 in
set_option maxHeartbeats 4000000 in
theorem p_X0_mayBeginWord_58 {x : CX} {l : Launch} {g : CG} {rv : Int32} {μ0 μ9 : Mem} (C : Cx x l g mi_X0_mayBeginWord) (F : Prom x g mi_X0_mayBeginWord μ0 (some (aI rv)) μ9) {N : Nat} {a0 : Option Nat} {μ : Mem} (h : f_X0_mayBeginWord_58 N a0 μ = some (rv, μ9)) : V x g 1 0 0 μ 58 [(0, aR a0)] [] := by
  unfold f_X0_mayBeginWord_58 at h
  refine v_aload_n C dX0_mayBeginWord_58 rfl ?_
  obtain ⟨v, e, h⟩ := ob h
  refine v_getI C dX0_mayBeginWord_59 gf_X0_44 e ?_
  refine v_if_eq (tgt := 77) C dX0_mayBeginWord_62 (by decide) (fun c => ?_) (fun c => ?_)
  · replace h := ifT h c
    exact v_sb (p_X0_mayBeginWord_77 C F h) ⟨rfl, trivial⟩
  · replace h := ifF h c
    refine v_aload_n C dX0_mayBeginWord_65 rfl ?_
    obtain ⟨v, e, h⟩ := ob h
    refine v_getR C dX0_mayBeginWord_66 gf_X0_34 e ?_
    refine v_aload_n C dX0_mayBeginWord_69 rfl ?_
    obtain ⟨v, e, h⟩ := ob h
    refine v_getI C dX0_mayBeginWord_70 gf_X0_57 e ?_
    refine v_iconst (v := 0) C dX0_mayBeginWord_73 rfl ?_
    obtain ⟨b, e0, h⟩ := ob h
    obtain ⟨q, e, h⟩ := ob h
    refine v_callV (As := [_, _]) C dX0_mayBeginWord_74 cf_X0_174 (rm_X0_mayBeginWord_X7_lay) ⟨rfl, rfl⟩ e0 rfl (Nat.le_of_ble_eq_true rfl) (c_X7_lay _ _ N _ _ _ _ q.1 q.2 e) ?_
    exact v_sb (p_X0_mayBeginWord_77 C F h) ⟨rfl, trivial⟩
set_option maxRecDepth 100000 in
set_option maxHeartbeats 4000000 in
theorem p_X0_mayBeginWord {x : CX} {l : Launch} {g : CG} {rv : Int32} {μ0 μ9 : Mem} (C : Cx x l g mi_X0_mayBeginWord) (F : Prom x g mi_X0_mayBeginWord μ0 (some (aI rv)) μ9) {N : Nat} {a0 : Option Nat} {μ : Mem} (h : f_X0_mayBeginWord N a0 μ = some (rv, μ9)) : V x g 1 0 0 μ 0 [(0, aR a0)] [] := by
  unfold f_X0_mayBeginWord at h
  refine v_aload_n C dX0_mayBeginWord_0 rfl ?_
  obtain ⟨v, e, h⟩ := ob h
  refine v_getI C dX0_mayBeginWord_1 gf_X0_57 e ?_
  refine v_sipush (v := 4096) C dX0_mayBeginWord_4 rfl ?_
  refine v_icmp_lt (tgt := 23) C dX0_mayBeginWord_7 (by decide) (fun c => ?_) (fun c => ?_)
  · replace h := ifT h c
    refine v_aload_n C dX0_mayBeginWord_23 rfl ?_
    obtain ⟨v, e, h⟩ := ob h
    refine v_getI C dX0_mayBeginWord_24 gf_X0_44 e ?_
    refine v_if_eq (tgt := 58) C dX0_mayBeginWord_27 (by decide) (fun c => ?_) (fun c => ?_)
    · replace h := ifT h c
      exact v_sb (p_X0_mayBeginWord_58 C F h) ⟨rfl, trivial⟩
    · replace h := ifF h c
      refine v_aload_n C dX0_mayBeginWord_30 rfl ?_
      obtain ⟨v, e, h⟩ := ob h
      refine v_getR C dX0_mayBeginWord_31 gf_X0_34 e ?_
      refine v_aload_n C dX0_mayBeginWord_34 rfl ?_
      obtain ⟨v, e, h⟩ := ob h
      refine v_getI C dX0_mayBeginWord_35 gf_X0_57 e ?_
      refine v_iconst (v := 1) C dX0_mayBeginWord_38 rfl ?_
      obtain ⟨b, e0, h⟩ := ob h
      obtain ⟨q, e, h⟩ := ob h
      refine v_callV (As := [_, _]) C dX0_mayBeginWord_39 cf_X0_187 (rm_X0_mayBeginWord_X7_hasLiteral) ⟨rfl, rfl⟩ e0 rfl (Nat.le_of_ble_eq_true rfl) (c_X7_hasLiteral _ _ N _ _ _ _ q.1 q.2 e) ?_
      refine v_if_eq (tgt := 58) C dX0_mayBeginWord_42 (by decide) (fun c => ?_) (fun c => ?_)
      · replace h := ifT h c
        exact v_sb (p_X0_mayBeginWord_58 C F h) ⟨rfl, trivial⟩
      · replace h := ifF h c
        refine v_aload_n C dX0_mayBeginWord_45 rfl ?_
        refine v_bipush (v := 8) C dX0_mayBeginWord_46 rfl ?_
        refine v_aload_n C dX0_mayBeginWord_48 rfl ?_
        obtain ⟨v, e, h⟩ := ob h
        refine v_getI C dX0_mayBeginWord_49 gf_X0_54 e ?_
        obtain ⟨b, e0, h⟩ := ob h
        obtain ⟨q, e, h⟩ := ob h
        refine v_callV (As := [_, _]) C dX0_mayBeginWord_52 cf_X0_87 (rm_X0_mayBeginWord_X0_report) ⟨rfl, rfl⟩ e0 rfl (Nat.le_of_ble_eq_true rfl) (c_X0_report _ _ N _ _ _ _ q.1 q.2 e) ?_
        refine v_goto (tgt := 77) C dX0_mayBeginWord_55 (by decide) ?_
        exact v_sb (p_X0_mayBeginWord_77 C F h) ⟨rfl, trivial⟩
  · replace h := ifF h c
    refine v_aload_n C dX0_mayBeginWord_10 rfl ?_
    refine v_bipush (v := 6) C dX0_mayBeginWord_11 rfl ?_
    refine v_aload_n C dX0_mayBeginWord_13 rfl ?_
    obtain ⟨v, e, h⟩ := ob h
    refine v_getI C dX0_mayBeginWord_14 gf_X0_54 e ?_
    obtain ⟨b, e0, h⟩ := ob h
    obtain ⟨q, e, h⟩ := ob h
    refine v_callV (As := [_, _]) C dX0_mayBeginWord_17 cf_X0_87 (rm_X0_mayBeginWord_X0_report) ⟨rfl, rfl⟩ e0 rfl (Nat.le_of_ble_eq_true rfl) (c_X0_report _ _ N _ _ _ _ q.1 q.2 e) ?_
    refine v_goto (tgt := 77) C dX0_mayBeginWord_20 (by decide) ?_
    exact v_sb (p_X0_mayBeginWord_77 C F h) ⟨rfl, trivial⟩
set_option maxRecDepth 100000 in
set_option maxHeartbeats 4000000 in
theorem c_X0_mayBeginWord (l : Launch) (g : CG) (N : Nat) (a0 : Option Nat) (μ : Mem) (rv : Int32) (μ9 : Mem) (h : f_X0_mayBeginWord N a0 μ = some (rv, μ9)) : Ct l yX0_mayBeginWord mi_X0_mayBeginWord g [aR a0] μ (some (aI rv)) μ9 := ct_of ⟨by decide, rfl, rfl⟩ (Nat.le_of_ble_eq_true rfl) fun x C F => p_X0_mayBeginWord C F h
def f_X0_isModifierAt_48 (N : Nat) (s0 : Int32) (μ : Mem) : Option (Int32 × Mem) :=
  retZ s0 μ
def f_X0_isModifierAt_47 (N : Nat) (μ : Mem) : Option (Int32 × Mem) :=
  f_X0_isModifierAt_48 N 0 μ
def f_X0_isModifierAt_43 (N : Nat) (μ : Mem) : Option (Int32 × Mem) :=
  f_X0_isModifierAt_48 N 1 μ
def f_X0_isModifierAt (N : Nat) (a0 : Option Nat) (a1 : Int32) (μ : Mem) : Option (Int32 × Mem) :=
  (mfR μ a0 0 1).bind fun v1 =>
  (mck μ v1 9).bind fun b3 =>
  (f_X9_valueOf N (some b3) a1 μ).bind fun q2 =>
  (mck q2.2 a0 0).bind fun b5 =>
  (f_X0_kindAt N (some b5) a1 q2.2).bind fun q4 =>
  if ¬ q4.1 = (1 : Int32) then
    f_X0_isModifierAt_47 N q4.2
  else
    (mck q4.2 a0 0).bind fun b7 =>
    (f_X0_kindAt N (some b7) (a1 + 1) q4.2).bind fun q6 =>
    (f_X0_isOperator N q6.1 q6.2).bind fun q8 =>
    if ¬ q8.1 = 0 then
      f_X0_isModifierAt_47 N q8.2
    else
      if q2.1 = (11 : Int32) then
        f_X0_isModifierAt_43 N q8.2
      else
        if ¬ q2.1 = (12 : Int32) then
          f_X0_isModifierAt_47 N q8.2
        else
          f_X0_isModifierAt_43 N q8.2
set_option maxRecDepth 100000 in
set_option maxHeartbeats 4000000 in
theorem p_X0_isModifierAt_48 {x : CX} {l : Launch} {g : CG} {rv : Int32} {μ0 μ9 : Mem} (C : Cx x l g mi_X0_isModifierAt) (F : Prom x g mi_X0_isModifierAt μ0 (some (aI rv)) μ9) {N : Nat} {s0 : Int32} {μ : Mem} (h : f_X0_isModifierAt_48 N s0 μ = some (rv, μ9)) : V x g 3 0 0 μ 48 [] [aI s0] := by
  unfold f_X0_isModifierAt_48 at h
  exact v_zret C F ⟨rfl, rfl, Nat.le_refl _⟩ dX0_isModifierAt_48 h
set_option maxRecDepth 100000 in
set_option maxHeartbeats 4000000 in
theorem p_X0_isModifierAt_47 {x : CX} {l : Launch} {g : CG} {rv : Int32} {μ0 μ9 : Mem} (C : Cx x l g mi_X0_isModifierAt) (F : Prom x g mi_X0_isModifierAt μ0 (some (aI rv)) μ9) {N : Nat} {μ : Mem} (h : f_X0_isModifierAt_47 N μ = some (rv, μ9)) : V x g 3 0 0 μ 47 [] [] := by
  unfold f_X0_isModifierAt_47 at h
  refine v_iconst (v := 0) C dX0_isModifierAt_47 rfl ?_
  exact v_sb (p_X0_isModifierAt_48 C F h) trivial
set_option maxRecDepth 100000 in
set_option maxHeartbeats 4000000 in
theorem p_X0_isModifierAt_43 {x : CX} {l : Launch} {g : CG} {rv : Int32} {μ0 μ9 : Mem} (C : Cx x l g mi_X0_isModifierAt) (F : Prom x g mi_X0_isModifierAt μ0 (some (aI rv)) μ9) {N : Nat} {μ : Mem} (h : f_X0_isModifierAt_43 N μ = some (rv, μ9)) : V x g 3 0 0 μ 43 [] [] := by
  unfold f_X0_isModifierAt_43 at h
  refine v_iconst (v := 1) C dX0_isModifierAt_43 rfl ?_
  refine v_goto (tgt := 48) C dX0_isModifierAt_44 (by decide) ?_
  exact v_sb (p_X0_isModifierAt_48 C F h) trivial
set_option maxRecDepth 100000 in
set_option maxHeartbeats 4000000 in
theorem p_X0_isModifierAt {x : CX} {l : Launch} {g : CG} {rv : Int32} {μ0 μ9 : Mem} (C : Cx x l g mi_X0_isModifierAt) (F : Prom x g mi_X0_isModifierAt μ0 (some (aI rv)) μ9) {N : Nat} {a0 : Option Nat} {a1 : Int32} {μ : Mem} (h : f_X0_isModifierAt N a0 a1 μ = some (rv, μ9)) : V x g 3 0 0 μ 0 [(0, aR a0), (1, aI a1)] [] := by
  unfold f_X0_isModifierAt at h
  refine v_aload_n C dX0_isModifierAt_0 rfl ?_
  obtain ⟨v, e, h⟩ := ob h
  refine v_getR C dX0_isModifierAt_1 gf_X0_23 e ?_
  refine v_iload_n C dX0_isModifierAt_4 rfl ?_
  obtain ⟨b, e0, h⟩ := ob h
  obtain ⟨q, e, h⟩ := ob h
  refine v_callV (As := [_]) C dX0_isModifierAt_5 cf_X0_108 (rm_X0_isModifierAt_X9_valueOf) ⟨rfl, rfl⟩ e0 rfl (Nat.le_of_ble_eq_true rfl) (c_X9_valueOf _ _ N _ _ _ q.1 q.2 e) ?_
  refine v_istore_n C dX0_isModifierAt_8 (by decide) ?_
  refine v_aload_n C dX0_isModifierAt_9 rfl ?_
  refine v_iload_n C dX0_isModifierAt_10 rfl ?_
  obtain ⟨b, e0, h⟩ := ob h
  obtain ⟨q, e, h⟩ := ob h
  refine v_callV (As := [_]) C dX0_isModifierAt_11 cf_X0_100 (rm_X0_isModifierAt_X0_kindAt) ⟨rfl, rfl⟩ e0 rfl (Nat.le_of_ble_eq_true rfl) (c_X0_kindAt _ _ N _ _ _ q.1 q.2 e) ?_
  refine v_iconst (v := 1) C dX0_isModifierAt_14 rfl ?_
  refine v_icmp_ne (tgt := 47) C dX0_isModifierAt_15 (by decide) (fun c => ?_) (fun c => ?_)
  · replace h := ifT h c
    exact v_sb (p_X0_isModifierAt_47 C F h) trivial
  · replace h := ifF h c
    refine v_aload_n C dX0_isModifierAt_18 rfl ?_
    refine v_iload_n C dX0_isModifierAt_19 rfl ?_
    refine v_iconst (v := 1) C dX0_isModifierAt_20 rfl ?_
    refine v_iadd C dX0_isModifierAt_21 ?_
    obtain ⟨b, e0, h⟩ := ob h
    obtain ⟨q, e, h⟩ := ob h
    refine v_callV (As := [_]) C dX0_isModifierAt_22 cf_X0_100 (rm_X0_isModifierAt_X0_kindAt) ⟨rfl, rfl⟩ e0 rfl (Nat.le_of_ble_eq_true rfl) (c_X0_kindAt _ _ N _ _ _ q.1 q.2 e) ?_
    obtain ⟨q, e, h⟩ := ob h
    refine v_callS (As := [_]) C dX0_isModifierAt_25 cf_X0_200 (rm_X0_isModifierAt_X0_isOperator) ⟨rfl, rfl⟩ rfl (Nat.le_of_ble_eq_true rfl) (c_X0_isOperator _ _ N _ _ q.1 q.2 e) ?_
    refine v_if_ne (tgt := 47) C dX0_isModifierAt_28 (by decide) (fun c => ?_) (fun c => ?_)
    · replace h := ifT h c
      exact v_sb (p_X0_isModifierAt_47 C F h) trivial
    · replace h := ifF h c
      refine v_iload_n C dX0_isModifierAt_31 rfl ?_
      refine v_bipush (v := 11) C dX0_isModifierAt_32 rfl ?_
      refine v_icmp_eq (tgt := 43) C dX0_isModifierAt_34 (by decide) (fun c => ?_) (fun c => ?_)
      · replace h := ifT h c
        exact v_sb (p_X0_isModifierAt_43 C F h) trivial
      · replace h := ifF h c
        refine v_iload_n C dX0_isModifierAt_37 rfl ?_
        refine v_bipush (v := 12) C dX0_isModifierAt_38 rfl ?_
        refine v_icmp_ne (tgt := 47) C dX0_isModifierAt_40 (by decide) (fun c => ?_) (fun c => ?_)
        · replace h := ifT h c
          exact v_sb (p_X0_isModifierAt_47 C F h) trivial
        · replace h := ifF h c
          exact v_sb (p_X0_isModifierAt_43 C F h) trivial
set_option maxRecDepth 100000 in
set_option maxHeartbeats 4000000 in
theorem c_X0_isModifierAt (l : Launch) (g : CG) (N : Nat) (a0 : Option Nat) (a1 : Int32) (μ : Mem) (rv : Int32) (μ9 : Mem) (h : f_X0_isModifierAt N a0 a1 μ = some (rv, μ9)) : Ct l yX0_isModifierAt mi_X0_isModifierAt g [aR a0, aI a1] μ (some (aI rv)) μ9 := ct_of ⟨by decide, rfl, rfl⟩ (Nat.le_of_ble_eq_true rfl) fun x C F => p_X0_isModifierAt C F h
def f_X0_finishWord_26 (N : Nat) (a0 : Option Nat) (μ : Mem) : Option (Unit × Mem) :=
  (mfI μ a0 0 10).bind fun v1 =>
  (mpI μ a0 0 10 (v1 + 1)).bind fun μ2 =>
  some ((), μ2)
def f_X0_finishWord (N : Nat) (a0 : Option Nat) (a1 : Int32) (μ : Mem) : Option (Unit × Mem) :=
  (mfI μ a0 0 4).bind fun v1 =>
  if ¬ v1 = 0 then
    f_X0_finishWord_26 N a0 μ
  else
    (mfI μ a0 0 6).bind fun v2 =>
    if v2 = 0 then
      f_X0_finishWord_26 N a0 μ
    else
      (mfR μ a0 0 3).bind fun v3 =>
      (mfI μ a0 0 10).bind fun v4 =>
      (mck μ v3 7).bind fun b6 =>
      (f_X7_lay N (some b6) v4 a1 μ).bind fun q5 =>
      f_X0_finishWord_26 N a0 q5.2
set_option maxRecDepth 100000 in
set_option maxHeartbeats 4000000 in
theorem p_X0_finishWord_26 {x : CX} {l : Launch} {g : CG} {rv : Unit} {μ0 μ9 : Mem} (C : Cx x l g mi_X0_finishWord) (F : Prom x g mi_X0_finishWord μ0 none μ9) {N : Nat} {a0 : Option Nat} {μ : Mem} (h : f_X0_finishWord_26 N a0 μ = some (rv, μ9)) : V x g 2 0 0 μ 26 [(0, aR a0)] [] := by
  unfold f_X0_finishWord_26 at h
  refine v_aload_n C dX0_finishWord_26 rfl ?_
  refine v_dup C dX0_finishWord_27 rfl ?_
  obtain ⟨v, e, h⟩ := ob h
  refine v_getI C dX0_finishWord_28 gf_X0_57 e ?_
  refine v_iconst (v := 1) C dX0_finishWord_31 rfl ?_
  refine v_iadd C dX0_finishWord_32 ?_
  obtain ⟨m, e, h⟩ := ob h
  refine v_putI C dX0_finishWord_33 (pf_X0_57 _) e ?_
  exact v_vret C F ⟨rfl, rfl, Nat.le_refl _⟩ dX0_finishWord_36 h
set_option maxRecDepth 100000 in
set_option maxHeartbeats 4000000 in
theorem p_X0_finishWord {x : CX} {l : Launch} {g : CG} {rv : Unit} {μ0 μ9 : Mem} (C : Cx x l g mi_X0_finishWord) (F : Prom x g mi_X0_finishWord μ0 none μ9) {N : Nat} {a0 : Option Nat} {a1 : Int32} {μ : Mem} (h : f_X0_finishWord N a0 a1 μ = some (rv, μ9)) : V x g 2 0 0 μ 0 [(0, aR a0), (1, aI a1)] [] := by
  unfold f_X0_finishWord at h
  refine v_aload_n C dX0_finishWord_0 rfl ?_
  obtain ⟨v, e, h⟩ := ob h
  refine v_getI C dX0_finishWord_1 gf_X0_37 e ?_
  refine v_if_ne (tgt := 26) C dX0_finishWord_4 (by decide) (fun c => ?_) (fun c => ?_)
  · replace h := ifT h c
    exact v_sb (p_X0_finishWord_26 C F h) ⟨rfl, trivial⟩
  · replace h := ifF h c
    refine v_aload_n C dX0_finishWord_7 rfl ?_
    obtain ⟨v, e, h⟩ := ob h
    refine v_getI C dX0_finishWord_8 gf_X0_44 e ?_
    refine v_if_eq (tgt := 26) C dX0_finishWord_11 (by decide) (fun c => ?_) (fun c => ?_)
    · replace h := ifT h c
      exact v_sb (p_X0_finishWord_26 C F h) ⟨rfl, trivial⟩
    · replace h := ifF h c
      refine v_aload_n C dX0_finishWord_14 rfl ?_
      obtain ⟨v, e, h⟩ := ob h
      refine v_getR C dX0_finishWord_15 gf_X0_34 e ?_
      refine v_aload_n C dX0_finishWord_18 rfl ?_
      obtain ⟨v, e, h⟩ := ob h
      refine v_getI C dX0_finishWord_19 gf_X0_57 e ?_
      refine v_iload_n C dX0_finishWord_22 rfl ?_
      obtain ⟨b, e0, h⟩ := ob h
      obtain ⟨q, e, h⟩ := ob h
      refine v_callV (As := [_, _]) C dX0_finishWord_23 cf_X0_174 (rm_X0_finishWord_X7_lay) ⟨rfl, rfl⟩ e0 rfl (Nat.le_of_ble_eq_true rfl) (c_X7_lay _ _ N _ _ _ _ q.1 q.2 e) ?_
      exact v_sb (p_X0_finishWord_26 C F h) ⟨rfl, trivial⟩
set_option maxRecDepth 100000 in
set_option maxHeartbeats 4000000 in
theorem c_X0_finishWord (l : Launch) (g : CG) (N : Nat) (a0 : Option Nat) (a1 : Int32) (μ : Mem) (rv : Unit) (μ9 : Mem) (h : f_X0_finishWord N a0 a1 μ = some (rv, μ9)) : Ct l yX0_finishWord mi_X0_finishWord g [aR a0, aI a1] μ none μ9 := ct_of ⟨by decide, rfl, rfl⟩ (Nat.le_of_ble_eq_true rfl) fun x C F => p_X0_finishWord C F h
def f_X7_literalPlace_90 (N : Nat) (μ : Mem) : Option (Int32 × Mem) :=
  some ((-1), μ)
def H_X7_literalPlace_15 (N : Nat) (k15 : (Option Nat) → Int32 → Int32 → Int32 → Mem → Option (Int32 × Mem)) (a0 : Option Nat) (a1 : Int32) (a3 : Int32) (a4 : Int32) (μ : Mem) : Option (Int32 × Mem) :=
  if a4 < a1 then
    f_X7_literalPlace_90 N μ
  else
    if a4 < 0 then
      f_X7_literalPlace_90 N μ
    else
      if (4096 : Int32) ≤ a4 then
        f_X7_literalPlace_90 N μ
      else
        (mfR μ a0 7 0).bind fun v1 =>
        (maI μ 0 v1 a4).bind fun v2 =>
        if ¬ v2 = (((-1)) : Int32) then
          (mfR μ a0 7 0).bind fun v3 =>
          (maI μ 0 v3 a4).bind fun v4 =>
          if ¬ v4 = a3 then
            (mfR μ a0 7 0).bind fun v5 =>
            (maI μ 0 v5 a4).bind fun v6 =>
            if (4096 : Int32) ≤ v6 then
              k15 a0 a1 a3 (a4 + (-1)) μ
            else
              some ((-1), μ)
          else
            some (a4, μ)
        else
          (mck μ a0 7).bind fun b8 =>
          (f_X7_lay N (some b8) a4 a3 μ).bind fun q7 =>
          some (a4, q7.2)
def L_X7_literalPlace_15 (N : Nat) : Nat → (Option Nat) → Int32 → Int32 → Int32 → Mem → Option (Int32 × Mem)
  | 0 => fun _ _ _ _ _ => none
  | n + 1 => H_X7_literalPlace_15 N (L_X7_literalPlace_15 N n)
def f_X7_literalPlace (N : Nat) (a0 : Option Nat) (a1 : Int32) (a2 : Int32) (μ : Mem) : Option (Int32 × Mem) :=
  L_X7_literalPlace_15 N N a0 a1 (4096 ||| a2) ((a1 + 128) - 1) μ
set_option maxRecDepth 100000 in
set_option maxHeartbeats 4000000 in
theorem p_X7_literalPlace_90 {x : CX} {l : Launch} {g : CG} {rv : Int32} {μ0 μ9 : Mem} (C : Cx x l g mi_X7_literalPlace) (F : Prom x g mi_X7_literalPlace μ0 (some (aI rv)) μ9) {N : Nat} {μ : Mem} (h : f_X7_literalPlace_90 N μ = some (rv, μ9)) : V x g 5 0 0 μ 90 [] [] := by
  unfold f_X7_literalPlace_90 at h
  refine v_iconst (v := -1) C dX7_literalPlace_90 rfl ?_
  exact v_iret C F ⟨rfl, rfl, Nat.le_refl _⟩ dX7_literalPlace_91 h
set_option maxRecDepth 100000 in
set_option maxHeartbeats 4000000 in
theorem pH_X7_literalPlace_15 {x : CX} {l : Launch} {g : CG} {rv : Int32} {μ0 μ9 : Mem} (C : Cx x l g mi_X7_literalPlace) (F : Prom x g mi_X7_literalPlace μ0 (some (aI rv)) μ9) {N : Nat} {k15 : (Option Nat) → Int32 → Int32 → Int32 → Mem → Option (Int32 × Mem)} (hk15 : ∀ (a0 : Option Nat) (a1 : Int32) (a3 : Int32) (a4 : Int32) (μ : Mem), k15 a0 a1 a3 a4 μ = some (rv, μ9) → V x g 5 0 0 μ 15 [(0, aR a0), (1, aI a1), (3, aI a3), (4, aI a4)] []) {a0 : Option Nat} {a1 : Int32} {a3 : Int32} {a4 : Int32} {μ : Mem} (h : H_X7_literalPlace_15 N k15 a0 a1 a3 a4 μ = some (rv, μ9)) : V x g 5 0 0 μ 15 [(0, aR a0), (1, aI a1), (3, aI a3), (4, aI a4)] [] := by
  unfold H_X7_literalPlace_15 at h
  refine v_iload C dX7_literalPlace_15 rfl ?_
  refine v_iload_n C dX7_literalPlace_17 rfl ?_
  refine v_icmp_lt (tgt := 90) C dX7_literalPlace_18 (by decide) (fun c => ?_) (fun c => ?_)
  · replace h := ifT h c
    exact v_sb (p_X7_literalPlace_90 C F h) trivial
  · replace h := ifF h c
    refine v_iload C dX7_literalPlace_21 rfl ?_
    refine v_if_lt (tgt := 90) C dX7_literalPlace_23 (by decide) (fun c => ?_) (fun c => ?_)
    · replace h := ifT h c
      exact v_sb (p_X7_literalPlace_90 C F h) trivial
    · replace h := ifF h c
      refine v_iload C dX7_literalPlace_26 rfl ?_
      refine v_sipush (v := 4096) C dX7_literalPlace_28 rfl ?_
      refine v_icmp_ge (tgt := 90) C dX7_literalPlace_31 (by decide) (fun c => ?_) (fun c => ?_)
      · replace h := ifT h c
        exact v_sb (p_X7_literalPlace_90 C F h) trivial
      · replace h := ifF h c
        refine v_aload_n C dX7_literalPlace_34 rfl ?_
        obtain ⟨v, e, h⟩ := ob h
        refine v_getR C dX7_literalPlace_35 gf_X7_9 e ?_
        refine v_iload C dX7_literalPlace_38 rfl ?_
        obtain ⟨v, e, h⟩ := ob h
        refine v_iaload C dX7_literalPlace_40 e ?_
        refine v_iconst (v := -1) C dX7_literalPlace_41 rfl ?_
        refine v_icmp_ne (tgt := 55) C dX7_literalPlace_42 (by decide) (fun c => ?_) (fun c => ?_)
        · replace h := ifT h c
          refine v_aload_n C dX7_literalPlace_55 rfl ?_
          obtain ⟨v, e, h⟩ := ob h
          refine v_getR C dX7_literalPlace_56 gf_X7_9 e ?_
          refine v_iload C dX7_literalPlace_59 rfl ?_
          obtain ⟨v, e, h⟩ := ob h
          refine v_iaload C dX7_literalPlace_61 e ?_
          refine v_iload_n C dX7_literalPlace_62 rfl ?_
          refine v_icmp_ne (tgt := 69) C dX7_literalPlace_63 (by decide) (fun c => ?_) (fun c => ?_)
          · replace h := ifT h c
            refine v_aload_n C dX7_literalPlace_69 rfl ?_
            obtain ⟨v, e, h⟩ := ob h
            refine v_getR C dX7_literalPlace_70 gf_X7_9 e ?_
            refine v_iload C dX7_literalPlace_73 rfl ?_
            obtain ⟨v, e, h⟩ := ob h
            refine v_iaload C dX7_literalPlace_75 e ?_
            refine v_sipush (v := 4096) C dX7_literalPlace_76 rfl ?_
            refine v_icmp_ge (tgt := 84) C dX7_literalPlace_79 (by decide) (fun c => ?_) (fun c => ?_)
            · replace h := ifT h c
              refine v_iinc (w := -1) C dX7_literalPlace_84 rfl rfl (by decide) ?_
              refine v_goto (tgt := 15) C dX7_literalPlace_87 (by decide) ?_
              exact v_sb (hk15 _ _ _ _ _ h) ⟨rfl, rfl, rfl, rfl, trivial⟩
            · replace h := ifF h c
              refine v_iconst (v := -1) C dX7_literalPlace_82 rfl ?_
              exact v_iret C F ⟨rfl, rfl, Nat.le_refl _⟩ dX7_literalPlace_83 h
          · replace h := ifF h c
            refine v_iload C dX7_literalPlace_66 rfl ?_
            exact v_iret C F ⟨rfl, rfl, Nat.le_refl _⟩ dX7_literalPlace_68 h
        · replace h := ifF h c
          refine v_aload_n C dX7_literalPlace_45 rfl ?_
          refine v_iload C dX7_literalPlace_46 rfl ?_
          refine v_iload_n C dX7_literalPlace_48 rfl ?_
          obtain ⟨b, e0, h⟩ := ob h
          obtain ⟨q, e, h⟩ := ob h
          refine v_callV (As := [_, _]) C dX7_literalPlace_49 cf_X7_31 (rm_X7_literalPlace_X7_lay) ⟨rfl, rfl⟩ e0 rfl (Nat.le_of_ble_eq_true rfl) (c_X7_lay _ _ N _ _ _ _ q.1 q.2 e) ?_
          refine v_iload C dX7_literalPlace_52 rfl ?_
          exact v_iret C F ⟨rfl, rfl, Nat.le_refl _⟩ dX7_literalPlace_54 h
set_option maxRecDepth 100000 in
set_option maxHeartbeats 4000000 in
theorem pL_X7_literalPlace_15 {x : CX} {l : Launch} {g : CG} {rv : Int32} {μ0 μ9 : Mem} (C : Cx x l g mi_X7_literalPlace) (F : Prom x g mi_X7_literalPlace μ0 (some (aI rv)) μ9) (N : Nat) (n : Nat) : ∀ (a0 : Option Nat) (a1 : Int32) (a3 : Int32) (a4 : Int32) (μ : Mem), L_X7_literalPlace_15 N n a0 a1 a3 a4 μ = some (rv, μ9) → V x g 5 0 0 μ 15 [(0, aR a0), (1, aI a1), (3, aI a3), (4, aI a4)] [] := by
  induction n with
  | zero => intro a0 a1 a3 a4 μ h; cases h
  | succ n ih => intro a0 a1 a3 a4 μ h; exact pH_X7_literalPlace_15 C F ih h
set_option maxRecDepth 100000 in
set_option maxHeartbeats 4000000 in
theorem p_X7_literalPlace {x : CX} {l : Launch} {g : CG} {rv : Int32} {μ0 μ9 : Mem} (C : Cx x l g mi_X7_literalPlace) (F : Prom x g mi_X7_literalPlace μ0 (some (aI rv)) μ9) {N : Nat} {a0 : Option Nat} {a1 : Int32} {a2 : Int32} {μ : Mem} (h : f_X7_literalPlace N a0 a1 a2 μ = some (rv, μ9)) : V x g 5 0 0 μ 0 [(0, aR a0), (1, aI a1), (2, aI a2)] [] := by
  unfold f_X7_literalPlace at h
  refine v_sipush (v := 4096) C dX7_literalPlace_0 rfl ?_
  refine v_iload_n C dX7_literalPlace_3 rfl ?_
  refine v_ior C dX7_literalPlace_4 ?_
  refine v_istore_n C dX7_literalPlace_5 (by decide) ?_
  refine v_iload_n C dX7_literalPlace_6 rfl ?_
  refine v_sipush (v := 128) C dX7_literalPlace_7 rfl ?_
  refine v_iadd C dX7_literalPlace_10 ?_
  refine v_iconst (v := 1) C dX7_literalPlace_11 rfl ?_
  refine v_isub C dX7_literalPlace_12 ?_
  refine v_istore C dX7_literalPlace_13 (by decide) ?_
  exact v_sb (pL_X7_literalPlace_15 C F N N _ _ _ _ _ h) ⟨rfl, rfl, rfl, rfl, trivial⟩
set_option maxRecDepth 100000 in
set_option maxHeartbeats 4000000 in
theorem c_X7_literalPlace (l : Launch) (g : CG) (N : Nat) (a0 : Option Nat) (a1 : Int32) (a2 : Int32) (μ : Mem) (rv : Int32) (μ9 : Mem) (h : f_X7_literalPlace N a0 a1 a2 μ = some (rv, μ9)) : Ct l yX7_literalPlace mi_X7_literalPlace g [aR a0, aI a1, aI a2] μ (some (aI rv)) μ9 := ct_of ⟨by decide, rfl, rfl⟩ (Nat.le_of_ble_eq_true rfl) fun x C F => p_X7_literalPlace C F h
def f_X0_literalFor_14 (N : Nat) (μ : Mem) : Option (Int32 × Mem) :=
  some (0, μ)
def f_X0_literalFor (N : Nat) (a0 : Option Nat) (a1 : Int32) (a2 : Int32) (a3 : Int32) (μ : Mem) : Option (Int32 × Mem) :=
  (mfI μ a0 0 4).bind fun v1 =>
  if ¬ v1 = 0 then
    f_X0_literalFor_14 N μ
  else
    (mfI μ a0 0 6).bind fun v2 =>
    if ¬ v2 = 0 then
      (mfR μ a0 0 3).bind fun v3 =>
      (mck μ v3 7).bind fun b5 =>
      (f_X7_literalPlace N (some b5) a1 a2 μ).bind fun q4 =>
      if ¬ q4.1 = (((-1)) : Int32) then
        some (q4.1, q4.2)
      else
        (mck q4.2 a0 0).bind fun b7 =>
        (f_X0_report N (some b7) 8 a3 q4.2).bind fun q6 =>
        some (0, q6.2)
    else
      f_X0_literalFor_14 N μ
set_option maxRecDepth 100000 in
set_option maxHeartbeats 4000000 in
theorem p_X0_literalFor_14 {x : CX} {l : Launch} {g : CG} {rv : Int32} {μ0 μ9 : Mem} (C : Cx x l g mi_X0_literalFor) (F : Prom x g mi_X0_literalFor μ0 (some (aI rv)) μ9) {N : Nat} {μ : Mem} (h : f_X0_literalFor_14 N μ = some (rv, μ9)) : V x g 5 0 0 μ 14 [] [] := by
  unfold f_X0_literalFor_14 at h
  refine v_iconst (v := 0) C dX0_literalFor_14 rfl ?_
  exact v_iret C F ⟨rfl, rfl, Nat.le_refl _⟩ dX0_literalFor_15 h
set_option maxRecDepth 100000 in
set_option maxHeartbeats 4000000 in
theorem p_X0_literalFor {x : CX} {l : Launch} {g : CG} {rv : Int32} {μ0 μ9 : Mem} (C : Cx x l g mi_X0_literalFor) (F : Prom x g mi_X0_literalFor μ0 (some (aI rv)) μ9) {N : Nat} {a0 : Option Nat} {a1 : Int32} {a2 : Int32} {a3 : Int32} {μ : Mem} (h : f_X0_literalFor N a0 a1 a2 a3 μ = some (rv, μ9)) : V x g 5 0 0 μ 0 [(0, aR a0), (1, aI a1), (2, aI a2), (3, aI a3)] [] := by
  unfold f_X0_literalFor at h
  refine v_aload_n C dX0_literalFor_0 rfl ?_
  obtain ⟨v, e, h⟩ := ob h
  refine v_getI C dX0_literalFor_1 gf_X0_37 e ?_
  refine v_if_ne (tgt := 14) C dX0_literalFor_4 (by decide) (fun c => ?_) (fun c => ?_)
  · replace h := ifT h c
    exact v_sb (p_X0_literalFor_14 C F h) trivial
  · replace h := ifF h c
    refine v_aload_n C dX0_literalFor_7 rfl ?_
    obtain ⟨v, e, h⟩ := ob h
    refine v_getI C dX0_literalFor_8 gf_X0_44 e ?_
    refine v_if_ne (tgt := 16) C dX0_literalFor_11 (by decide) (fun c => ?_) (fun c => ?_)
    · replace h := ifT h c
      refine v_aload_n C dX0_literalFor_16 rfl ?_
      obtain ⟨v, e, h⟩ := ob h
      refine v_getR C dX0_literalFor_17 gf_X0_34 e ?_
      refine v_iload_n C dX0_literalFor_20 rfl ?_
      refine v_iload_n C dX0_literalFor_21 rfl ?_
      obtain ⟨b, e0, h⟩ := ob h
      obtain ⟨q, e, h⟩ := ob h
      refine v_callV (As := [_, _]) C dX0_literalFor_22 cf_X0_207 (rm_X0_literalFor_X7_literalPlace) ⟨rfl, rfl⟩ e0 rfl (Nat.le_of_ble_eq_true rfl) (c_X7_literalPlace _ _ N _ _ _ _ q.1 q.2 e) ?_
      refine v_istore C dX0_literalFor_25 (by decide) ?_
      refine v_iload C dX0_literalFor_27 rfl ?_
      refine v_iconst (v := -1) C dX0_literalFor_29 rfl ?_
      refine v_icmp_ne (tgt := 42) C dX0_literalFor_30 (by decide) (fun c => ?_) (fun c => ?_)
      · replace h := ifT h c
        refine v_iload C dX0_literalFor_42 rfl ?_
        exact v_iret C F ⟨rfl, rfl, Nat.le_refl _⟩ dX0_literalFor_44 h
      · replace h := ifF h c
        refine v_aload_n C dX0_literalFor_33 rfl ?_
        refine v_bipush (v := 8) C dX0_literalFor_34 rfl ?_
        refine v_iload_n C dX0_literalFor_36 rfl ?_
        obtain ⟨b, e0, h⟩ := ob h
        obtain ⟨q, e, h⟩ := ob h
        refine v_callV (As := [_, _]) C dX0_literalFor_37 cf_X0_87 (rm_X0_literalFor_X0_report) ⟨rfl, rfl⟩ e0 rfl (Nat.le_of_ble_eq_true rfl) (c_X0_report _ _ N _ _ _ _ q.1 q.2 e) ?_
        refine v_iconst (v := 0) C dX0_literalFor_40 rfl ?_
        exact v_iret C F ⟨rfl, rfl, Nat.le_refl _⟩ dX0_literalFor_41 h
    · replace h := ifF h c
      exact v_sb (p_X0_literalFor_14 C F h) trivial
set_option maxRecDepth 100000 in
set_option maxHeartbeats 4000000 in
theorem c_X0_literalFor (l : Launch) (g : CG) (N : Nat) (a0 : Option Nat) (a1 : Int32) (a2 : Int32) (a3 : Int32) (μ : Mem) (rv : Int32) (μ9 : Mem) (h : f_X0_literalFor N a0 a1 a2 a3 μ = some (rv, μ9)) : Ct l yX0_literalFor mi_X0_literalFor g [aR a0, aI a1, aI a2, aI a3] μ (some (aI rv)) μ9 := ct_of ⟨by decide, rfl, rfl⟩ (Nat.le_of_ble_eq_true rfl) fun x C F => p_X0_literalFor C F h
def f_X0_readItem_100 (N : Nat) (a1 : Int32) (a3 : Int32) (s0 : Option Nat) (s1 : Int32) (μ : Mem) : Option (Int32 × Mem) :=
  (mck μ s0 0).bind fun b2 =>
  (f_X0_literalFor N (some b2) s1 a3 a1 μ).bind fun q1 =>
  some (q1.1, q1.2)
def f_X0_readItem_81 (N : Nat) (a0 : Option Nat) (a1 : Int32) (a2 : Int32) (a3 : Int32) (μ : Mem) : Option (Int32 × Mem) :=
  if ¬ a2 = (40 : Int32) then
    f_X0_readItem_100 N a1 a3 a0 0 μ
  else
    (mfI μ a0 0 10).bind fun v1 =>
    f_X0_readItem_100 N a1 a3 a0 (v1 &&& 3968) μ
def f_X0_readItem_68 (N : Nat) (a0 : Option Nat) (a1 : Int32) (a2 : Int32) (a3 : Int32) (s0 : Int32) (s1 : Int32) (μ : Mem) : Option (Int32 × Mem) :=
  if ¬ s0 = s1 then
    f_X0_readItem_81 N a0 a1 a2 a3 μ
  else
    (mfI μ a0 0 9).bind fun v1 =>
    (mpI μ a0 0 9 (v1 + 1)).bind fun μ2 =>
    f_X0_readItem_81 N a0 a1 a2 a3 μ2
def f_X0_readItem (N : Nat) (a0 : Option Nat) (μ : Mem) : Option (Int32 × Mem) :=
  (mfI μ a0 0 9).bind fun v1 =>
  (mck μ a0 0).bind fun b3 =>
  (f_X0_kindAt N (some b3) v1 μ).bind fun q2 =>
  (f_X0_isLiteralSign N q2.1 q2.2).bind fun q4 =>
  if ¬ q4.1 = 0 then
    (mfI q4.2 a0 0 9).bind fun v5 =>
    (mpI q4.2 a0 0 9 (v5 + 1)).bind fun μ6 =>
    (mck μ6 a0 0).bind fun b8 =>
    (f_X0_readValue N (some b8) 0 μ6).bind fun q7 =>
    (mfI q7.2 a0 0 4).bind fun v9 =>
    if ¬ v9 = 0 then
      f_X0_readItem_81 N a0 v1 q2.1 q7.1 q7.2
    else
      (mfI q7.2 a0 0 9).bind fun v10 =>
      (mck q7.2 a0 0).bind fun b12 =>
      (f_X0_kindAt N (some b12) v10 q7.2).bind fun q11 =>
      if ¬ q2.1 = (40 : Int32) then
        f_X0_readItem_68 N a0 v1 q2.1 q7.1 q11.1 93 q11.2
      else
        f_X0_readItem_68 N a0 v1 q2.1 q7.1 q11.1 41 q11.2
  else
    (mck q4.2 a0 0).bind fun b14 =>
    (f_X0_readValue N (some b14) 0 q4.2).bind fun q13 =>
    some (q13.1, q13.2)
set_option maxRecDepth 100000 in
set_option maxHeartbeats 4000000 in
theorem p_X0_readItem_100 {x : CX} {l : Launch} {g : CG} {rv : Int32} {μ0 μ9 : Mem} (C : Cx x l g mi_X0_readItem) (F : Prom x g mi_X0_readItem μ0 (some (aI rv)) μ9) {N : Nat} {a1 : Int32} {a3 : Int32} {s0 : Option Nat} {s1 : Int32} {μ : Mem} (h : f_X0_readItem_100 N a1 a3 s0 s1 μ = some (rv, μ9)) : V x g 4 0 0 μ 100 [(1, aI a1), (3, aI a3)] [aI s1, aR s0] := by
  unfold f_X0_readItem_100 at h
  refine v_iload_n C dX0_readItem_100 rfl ?_
  refine v_iload_n C dX0_readItem_101 rfl ?_
  obtain ⟨b, e0, h⟩ := ob h
  obtain ⟨q, e, h⟩ := ob h
  refine v_callV (As := [_, _, _]) C dX0_readItem_102 cf_X0_204 (rm_X0_readItem_X0_literalFor) ⟨rfl, rfl⟩ e0 rfl (Nat.le_of_ble_eq_true rfl) (c_X0_literalFor _ _ N _ _ _ _ _ q.1 q.2 e) ?_
  exact v_iret C F ⟨rfl, rfl, Nat.le_refl _⟩ dX0_readItem_105 h
set_option maxRecDepth 100000 in
set_option maxHeartbeats 4000000 in
theorem p_X0_readItem_81 {x : CX} {l : Launch} {g : CG} {rv : Int32} {μ0 μ9 : Mem} (C : Cx x l g mi_X0_readItem) (F : Prom x g mi_X0_readItem μ0 (some (aI rv)) μ9) {N : Nat} {a0 : Option Nat} {a1 : Int32} {a2 : Int32} {a3 : Int32} {μ : Mem} (h : f_X0_readItem_81 N a0 a1 a2 a3 μ = some (rv, μ9)) : V x g 4 0 0 μ 81 [(0, aR a0), (1, aI a1), (2, aI a2), (3, aI a3)] [] := by
  unfold f_X0_readItem_81 at h
  refine v_aload_n C dX0_readItem_81 rfl ?_
  refine v_iload_n C dX0_readItem_82 rfl ?_
  refine v_bipush (v := 40) C dX0_readItem_83 rfl ?_
  refine v_icmp_ne (tgt := 99) C dX0_readItem_85 (by decide) (fun c => ?_) (fun c => ?_)
  · replace h := ifT h c
    refine v_iconst (v := 0) C dX0_readItem_99 rfl ?_
    exact v_sb (p_X0_readItem_100 C F h) ⟨rfl, rfl, trivial⟩
  · replace h := ifF h c
    refine v_aload_n C dX0_readItem_88 rfl ?_
    obtain ⟨v, e, h⟩ := ob h
    refine v_getI C dX0_readItem_89 gf_X0_57 e ?_
    refine v_sipush (v := 3968) C dX0_readItem_92 rfl ?_
    refine v_iand C dX0_readItem_95 ?_
    refine v_goto (tgt := 100) C dX0_readItem_96 (by decide) ?_
    exact v_sb (p_X0_readItem_100 C F h) ⟨rfl, rfl, trivial⟩
set_option maxRecDepth 100000 in
set_option maxHeartbeats 4000000 in
theorem p_X0_readItem_68 {x : CX} {l : Launch} {g : CG} {rv : Int32} {μ0 μ9 : Mem} (C : Cx x l g mi_X0_readItem) (F : Prom x g mi_X0_readItem μ0 (some (aI rv)) μ9) {N : Nat} {a0 : Option Nat} {a1 : Int32} {a2 : Int32} {a3 : Int32} {s0 : Int32} {s1 : Int32} {μ : Mem} (h : f_X0_readItem_68 N a0 a1 a2 a3 s0 s1 μ = some (rv, μ9)) : V x g 4 0 0 μ 68 [(0, aR a0), (1, aI a1), (2, aI a2), (3, aI a3)] [aI s1, aI s0] := by
  unfold f_X0_readItem_68 at h
  refine v_icmp_ne (tgt := 81) C dX0_readItem_68 (by decide) (fun c => ?_) (fun c => ?_)
  · replace h := ifT h c
    exact v_sb (p_X0_readItem_81 C F h) ⟨rfl, rfl, rfl, rfl, trivial⟩
  · replace h := ifF h c
    refine v_aload_n C dX0_readItem_71 rfl ?_
    refine v_dup C dX0_readItem_72 rfl ?_
    obtain ⟨v, e, h⟩ := ob h
    refine v_getI C dX0_readItem_73 gf_X0_54 e ?_
    refine v_iconst (v := 1) C dX0_readItem_76 rfl ?_
    refine v_iadd C dX0_readItem_77 ?_
    obtain ⟨m, e, h⟩ := ob h
    refine v_putI C dX0_readItem_78 (pf_X0_54 _) e ?_
    exact v_sb (p_X0_readItem_81 C F h) ⟨rfl, rfl, rfl, rfl, trivial⟩
set_option maxRecDepth 100000 in
set_option maxHeartbeats 4000000 in
theorem p_X0_readItem {x : CX} {l : Launch} {g : CG} {rv : Int32} {μ0 μ9 : Mem} (C : Cx x l g mi_X0_readItem) (F : Prom x g mi_X0_readItem μ0 (some (aI rv)) μ9) {N : Nat} {a0 : Option Nat} {μ : Mem} (h : f_X0_readItem N a0 μ = some (rv, μ9)) : V x g 4 0 0 μ 0 [(0, aR a0)] [] := by
  unfold f_X0_readItem at h
  refine v_aload_n C dX0_readItem_0 rfl ?_
  obtain ⟨v, e, h⟩ := ob h
  refine v_getI C dX0_readItem_1 gf_X0_54 e ?_
  refine v_istore_n C dX0_readItem_4 (by decide) ?_
  refine v_aload_n C dX0_readItem_5 rfl ?_
  refine v_iload_n C dX0_readItem_6 rfl ?_
  obtain ⟨b, e0, h⟩ := ob h
  obtain ⟨q, e, h⟩ := ob h
  refine v_callV (As := [_]) C dX0_readItem_7 cf_X0_100 (rm_X0_readItem_X0_kindAt) ⟨rfl, rfl⟩ e0 rfl (Nat.le_of_ble_eq_true rfl) (c_X0_kindAt _ _ N _ _ _ q.1 q.2 e) ?_
  refine v_istore_n C dX0_readItem_10 (by decide) ?_
  refine v_iload_n C dX0_readItem_11 rfl ?_
  obtain ⟨q, e, h⟩ := ob h
  refine v_callS (As := [_]) C dX0_readItem_12 cf_X0_190 (rm_X0_readItem_X0_isLiteralSign) ⟨rfl, rfl⟩ rfl (Nat.le_of_ble_eq_true rfl) (c_X0_isLiteralSign _ _ N _ _ q.1 q.2 e) ?_
  refine v_if_ne (tgt := 24) C dX0_readItem_15 (by decide) (fun c => ?_) (fun c => ?_)
  · replace h := ifT h c
    refine v_aload_n C dX0_readItem_24 rfl ?_
    refine v_dup C dX0_readItem_25 rfl ?_
    obtain ⟨v, e, h⟩ := ob h
    refine v_getI C dX0_readItem_26 gf_X0_54 e ?_
    refine v_iconst (v := 1) C dX0_readItem_29 rfl ?_
    refine v_iadd C dX0_readItem_30 ?_
    obtain ⟨m, e, h⟩ := ob h
    refine v_putI C dX0_readItem_31 (pf_X0_54 _) e ?_
    refine v_aload_n C dX0_readItem_34 rfl ?_
    refine v_iconst (v := 0) C dX0_readItem_35 rfl ?_
    obtain ⟨b, e0, h⟩ := ob h
    obtain ⟨q, e, h⟩ := ob h
    refine v_callV (As := [_]) C dX0_readItem_36 cf_X0_163 (rm_X0_readItem_X0_readValue) ⟨rfl, rfl⟩ e0 rfl (Nat.le_of_ble_eq_true rfl) (c_X0_readValue _ _ N _ _ _ q.1 q.2 e) ?_
    refine v_istore_n C dX0_readItem_39 (by decide) ?_
    refine v_aload_n C dX0_readItem_40 rfl ?_
    obtain ⟨v, e, h⟩ := ob h
    refine v_getI C dX0_readItem_41 gf_X0_37 e ?_
    refine v_if_ne (tgt := 81) C dX0_readItem_44 (by decide) (fun c => ?_) (fun c => ?_)
    · replace h := ifT h c
      exact v_sb (p_X0_readItem_81 C F h) ⟨rfl, rfl, rfl, rfl, trivial⟩
    · replace h := ifF h c
      refine v_aload_n C dX0_readItem_47 rfl ?_
      refine v_aload_n C dX0_readItem_48 rfl ?_
      obtain ⟨v, e, h⟩ := ob h
      refine v_getI C dX0_readItem_49 gf_X0_54 e ?_
      obtain ⟨b, e0, h⟩ := ob h
      obtain ⟨q, e, h⟩ := ob h
      refine v_callV (As := [_]) C dX0_readItem_52 cf_X0_100 (rm_X0_readItem_X0_kindAt) ⟨rfl, rfl⟩ e0 rfl (Nat.le_of_ble_eq_true rfl) (c_X0_kindAt _ _ N _ _ _ q.1 q.2 e) ?_
      refine v_iload_n C dX0_readItem_55 rfl ?_
      refine v_bipush (v := 40) C dX0_readItem_56 rfl ?_
      refine v_icmp_ne (tgt := 66) C dX0_readItem_58 (by decide) (fun c => ?_) (fun c => ?_)
      · replace h := ifT h c
        refine v_bipush (v := 93) C dX0_readItem_66 rfl ?_
        exact v_sb (p_X0_readItem_68 C F h) ⟨rfl, rfl, rfl, rfl, trivial⟩
      · replace h := ifF h c
        refine v_bipush (v := 41) C dX0_readItem_61 rfl ?_
        refine v_goto (tgt := 68) C dX0_readItem_63 (by decide) ?_
        exact v_sb (p_X0_readItem_68 C F h) ⟨rfl, rfl, rfl, rfl, trivial⟩
  · replace h := ifF h c
    refine v_aload_n C dX0_readItem_18 rfl ?_
    refine v_iconst (v := 0) C dX0_readItem_19 rfl ?_
    obtain ⟨b, e0, h⟩ := ob h
    obtain ⟨q, e, h⟩ := ob h
    refine v_callV (As := [_]) C dX0_readItem_20 cf_X0_163 (rm_X0_readItem_X0_readValue) ⟨rfl, rfl⟩ e0 rfl (Nat.le_of_ble_eq_true rfl) (c_X0_readValue _ _ N _ _ _ q.1 q.2 e) ?_
    exact v_iret C F ⟨rfl, rfl, Nat.le_refl _⟩ dX0_readItem_23 h
set_option maxRecDepth 100000 in
set_option maxHeartbeats 4000000 in
theorem c_X0_readItem (l : Launch) (g : CG) (N : Nat) (a0 : Option Nat) (μ : Mem) (rv : Int32) (μ9 : Mem) (h : f_X0_readItem N a0 μ = some (rv, μ9)) : Ct l yX0_readItem mi_X0_readItem g [aR a0] μ (some (aI rv)) μ9 := ct_of ⟨by decide, rfl, rfl⟩ (Nat.le_of_ble_eq_true rfl) fun x C F => p_X0_readItem C F h
def f_X0_inPage_19 (N : Nat) (s0 : Int32) (μ : Mem) : Option (Int32 × Mem) :=
  some (s0, μ)
def f_X0_inPage (N : Nat) (a0 : Int32) (μ : Mem) : Option (Int32 × Mem) :=
  if (128 : Int32) ≤ a0 then
    f_X0_inPage_19 N (128 ||| (a0 &&& 127)) μ
  else
    f_X0_inPage_19 N a0 μ
set_option maxRecDepth 100000 in
set_option maxHeartbeats 4000000 in
theorem p_X0_inPage_19 {x : CX} {l : Launch} {g : CG} {rv : Int32} {μ0 μ9 : Mem} (C : Cx x l g mi_X0_inPage) (F : Prom x g mi_X0_inPage μ0 (some (aI rv)) μ9) {N : Nat} {s0 : Int32} {μ : Mem} (h : f_X0_inPage_19 N s0 μ = some (rv, μ9)) : V x g 1 0 0 μ 19 [] [aI s0] := by
  unfold f_X0_inPage_19 at h
  exact v_iret C F ⟨rfl, rfl, Nat.le_refl _⟩ dX0_inPage_19 h
set_option maxRecDepth 100000 in
set_option maxHeartbeats 4000000 in
theorem p_X0_inPage {x : CX} {l : Launch} {g : CG} {rv : Int32} {μ0 μ9 : Mem} (C : Cx x l g mi_X0_inPage) (F : Prom x g mi_X0_inPage μ0 (some (aI rv)) μ9) {N : Nat} {a0 : Int32} {μ : Mem} (h : f_X0_inPage N a0 μ = some (rv, μ9)) : V x g 1 0 0 μ 0 [(0, aI a0)] [] := by
  unfold f_X0_inPage at h
  refine v_iload_n C dX0_inPage_0 rfl ?_
  refine v_sipush (v := 128) C dX0_inPage_1 rfl ?_
  refine v_icmp_ge (tgt := 11) C dX0_inPage_4 (by decide) (fun c => ?_) (fun c => ?_)
  · replace h := ifT h c
    refine v_sipush (v := 128) C dX0_inPage_11 rfl ?_
    refine v_iload_n C dX0_inPage_14 rfl ?_
    refine v_bipush (v := 127) C dX0_inPage_15 rfl ?_
    refine v_iand C dX0_inPage_17 ?_
    refine v_ior C dX0_inPage_18 ?_
    exact v_sb (p_X0_inPage_19 C F h) trivial
  · replace h := ifF h c
    refine v_iload_n C dX0_inPage_7 rfl ?_
    refine v_goto (tgt := 19) C dX0_inPage_8 (by decide) ?_
    exact v_sb (p_X0_inPage_19 C F h) trivial
set_option maxRecDepth 100000 in
set_option maxHeartbeats 4000000 in
theorem c_X0_inPage (l : Launch) (g : CG) (N : Nat) (a0 : Int32) (μ : Mem) (rv : Int32) (μ9 : Mem) (h : f_X0_inPage N a0 μ = some (rv, μ9)) : Ct l yX0_inPage mi_X0_inPage g [aI a0] μ (some (aI rv)) μ9 := ct_of ⟨by decide, rfl, rfl⟩ (Nat.le_of_ble_eq_true rfl) fun x C F => p_X0_inPage C F h
