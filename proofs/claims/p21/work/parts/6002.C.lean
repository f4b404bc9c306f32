/-! LAYER 1: X9.scanName, X9.scanNumber, X9.scanToken, X9.scan, X7.clear, X0.open, X0.kindAt, X9.valueOf, X4.tellingOf (by program) -/
def f_X9_scanName_128 (N : Nat) (a0 : Option Nat) (a3 : Int32) (a4 : Int32) (μ : Mem) : Option (Int32 × Mem) :=
  (mck μ a0 9).bind fun b2 =>
  (f_X9_append N (some b2) 1 a3 a4 0 μ).bind fun q1 =>
  some (q1.1, q1.2)
def f_X9_scanName_53 (N : Nat) (a0 : Option Nat) (a1 : Int64) (a3 : Int32) (μ : Mem) : Option (Int32 × Mem) :=
  (mfI μ a0 9 8).bind fun v1 =>
  if (a3 - v1) ≤ (7 : Int32) then
    (mfR μ a0 9 0).bind fun v2 =>
    (mck μ v2 4).bind fun b4 =>
    (f_X4_numberOf N (some b4) a1 μ).bind fun q3 =>
    if ¬ q3.1 = (4 : Int32) then
      f_X9_scanName_128 N a0 a3 q3.1 q3.2
    else
      (mck q3.2 a0 9).bind fun b6 =>
      (f_X9_skipBlanks N (some b6) a3 q3.2).bind fun q5 =>
      (mck q5.2 a0 9).bind fun b8 =>
      (f_X9_byteAt N (some b8) q5.1 q5.2).bind fun q7 =>
      if q7.1 = (44 : Int32) then
        f_X9_scanName_128 N a0 a3 q3.1 q7.2
      else
        if q7.1 = (61 : Int32) then
          f_X9_scanName_128 N a0 a3 q3.1 q7.2
        else
          (mck q7.2 a0 9).bind fun b10 =>
          (f_X9_scanText N (some b10) q5.1 q7.1 q7.2).bind fun q9 =>
          some (q9.1, q9.2)
  else
    (mck μ a0 9).bind fun b12 =>
    (f_X9_append N (some b12) 6 a3 0 0 μ).bind fun q11 =>
    some (q11.1, q11.2)
def f_X9_scanName_37 (N : Nat) (k7 : (Option Nat) → Int64 → Int32 → Mem → Option (Int32 × Mem)) (a0 : Option Nat) (a1 : Int64) (a3 : Int32) (μ : Mem) : Option (Int32 × Mem) :=
  (mck μ a0 9).bind fun b2 =>
  (f_X9_byteAt N (some b2) a3 μ).bind fun q1 =>
  (f_X4_withLetter N a1 q1.1 q1.2).bind fun q3 =>
  k7 a0 q3.1 (a3 + 1) q3.2
def H_X9_scanName_7 (N : Nat) (k7 : (Option Nat) → Int64 → Int32 → Mem → Option (Int32 × Mem)) (a0 : Option Nat) (a1 : Int64) (a3 : Int32) (μ : Mem) : Option (Int32 × Mem) :=
  (mfI μ a0 9 7).bind fun v1 =>
  if v1 ≤ a3 then
    f_X9_scanName_53 N a0 a1 a3 μ
  else
    (mck μ a0 9).bind fun b3 =>
    (f_X9_byteAt N (some b3) a3 μ).bind fun q2 =>
    (f_X9_isLetter N q2.1 q2.2).bind fun q4 =>
    if ¬ q4.1 = 0 then
      f_X9_scanName_37 N k7 a0 a1 a3 q4.2
    else
      (mck q4.2 a0 9).bind fun b6 =>
      (f_X9_byteAt N (some b6) a3 q4.2).bind fun q5 =>
      (f_X9_isDigit N q5.1 q5.2).bind fun q7 =>
      if q7.1 = 0 then
        f_X9_scanName_53 N a0 a1 a3 q7.2
      else
        f_X9_scanName_37 N k7 a0 a1 a3 q7.2
def L_X9_scanName_7 (N : Nat) : Nat → (Option Nat) → Int64 → Int32 → Mem → Option (Int32 × Mem)
  | 0 => fun _ _ _ _ => none
  | n + 1 => H_X9_scanName_7 N (L_X9_scanName_7 N n)
def f_X9_scanName (N : Nat) (a0 : Option Nat) (μ : Mem) : Option (Int32 × Mem) :=
  (mfI μ a0 9 8).bind fun v1 =>
  L_X9_scanName_7 N N a0 0 v1 μ
set_option maxRecDepth 100000 in
set_option maxHeartbeats 4000000 in
theorem p_X9_scanName_128 {x : CX} {l : Launch} {g : CG} {rv : Int32} {μ0 μ9 : Mem} (C : Cx x l g mi_X9_scanName) (F : Prom x g mi_X9_scanName μ0 (some (aI rv)) μ9) {N : Nat} {a0 : Option Nat} {a3 : Int32} {a4 : Int32} {μ : Mem} (h : f_X9_scanName_128 N a0 a3 a4 μ = some (rv, μ9)) : V x g 7 0 0 μ 128 [(0, aR a0), (3, aI a3), (4, aI a4)] [] := by
  unfold f_X9_scanName_128 at h
  refine v_aload_n C dX9_scanName_128 rfl ?_
  refine v_iconst (v := 1) C dX9_scanName_129 rfl ?_
  refine v_iload_n C dX9_scanName_130 rfl ?_
  refine v_iload C dX9_scanName_131 rfl ?_
  refine v_iconst (v := 0) C dX9_scanName_133 rfl ?_
  obtain ⟨b, e0, h⟩ := ob h
  obtain ⟨q, e, h⟩ := ob h
  refine v_callV (As := [_, _, _, _]) C dX9_scanName_134 cf_X9_69 (rm_X9_scanName_X9_append) ⟨rfl, rfl⟩ e0 rfl (Nat.le_of_ble_eq_true rfl) (c_X9_append _ _ N _ _ _ _ _ _ q.1 q.2 e) ?_
  exact v_iret C F ⟨rfl, rfl, Nat.le_refl _⟩ dX9_scanName_137 h
set_option maxRecDepth 100000 in
set_option maxHeartbeats 4000000 in
theorem p_X9_scanName_53 {x : CX} {l : Launch} {g : CG} {rv : Int32} {μ0 μ9 : Mem} (C : Cx x l g mi_X9_scanName) (F : Prom x g mi_X9_scanName μ0 (some (aI rv)) μ9) {N : Nat} {a0 : Option Nat} {a1 : Int64} {a3 : Int32} {μ : Mem} (h : f_X9_scanName_53 N a0 a1 a3 μ = some (rv, μ9)) : V x g 7 0 0 μ 53 [(0, aR a0), (1, aJ a1), (3, aI a3)] [] := by
  unfold f_X9_scanName_53 at h
  refine v_iload_n C dX9_scanName_53 rfl ?_
  refine v_aload_n C dX9_scanName_54 rfl ?_
  obtain ⟨v, e, h⟩ := ob h
  refine v_getI C dX9_scanName_55 gf_X9_34 e ?_
  refine v_isub C dX9_scanName_58 ?_
  refine v_bipush (v := 7) C dX9_scanName_59 rfl ?_
  refine v_icmp_le (tgt := 74) C dX9_scanName_61 (by decide) (fun c => ?_) (fun c => ?_)
  · replace h := ifT h c
    refine v_aload_n C dX9_scanName_74 rfl ?_
    obtain ⟨v, e, h⟩ := ob h
    refine v_getR C dX9_scanName_75 gf_X9_37 e ?_
    refine v_lload_n C dX9_scanName_78 rfl ?_
    obtain ⟨b, e0, h⟩ := ob h
    obtain ⟨q, e, h⟩ := ob h
    refine v_callV (As := [_]) C dX9_scanName_79 cf_X9_100 (rm_X9_scanName_X4_numberOf) ⟨rfl, rfl⟩ e0 rfl (Nat.le_of_ble_eq_true rfl) (c_X4_numberOf _ _ N _ _ _ q.1 q.2 e) ?_
    refine v_istore C dX9_scanName_82 (by decide) ?_
    refine v_iload C dX9_scanName_84 rfl ?_
    refine v_iconst (v := 4) C dX9_scanName_86 rfl ?_
    refine v_icmp_ne (tgt := 128) C dX9_scanName_87 (by decide) (fun c => ?_) (fun c => ?_)
    · replace h := ifT h c
      exact v_sb (p_X9_scanName_128 C F h) ⟨rfl, rfl, rfl, trivial⟩
    · replace h := ifF h c
      refine v_aload_n C dX9_scanName_90 rfl ?_
      refine v_iload_n C dX9_scanName_91 rfl ?_
      obtain ⟨b, e0, h⟩ := ob h
      obtain ⟨q, e, h⟩ := ob h
      refine v_callV (As := [_]) C dX9_scanName_92 cf_X9_55 (rm_X9_scanName_X9_skipBlanks) ⟨rfl, rfl⟩ e0 rfl (Nat.le_of_ble_eq_true rfl) (c_X9_skipBlanks _ _ N _ _ _ q.1 q.2 e) ?_
      refine v_istore C dX9_scanName_95 (by decide) ?_
      refine v_aload_n C dX9_scanName_97 rfl ?_
      refine v_iload C dX9_scanName_98 rfl ?_
      obtain ⟨b, e0, h⟩ := ob h
      obtain ⟨q, e, h⟩ := ob h
      refine v_callV (As := [_]) C dX9_scanName_100 cf_X9_66 (rm_X9_scanName_X9_byteAt) ⟨rfl, rfl⟩ e0 rfl (Nat.le_of_ble_eq_true rfl) (c_X9_byteAt _ _ N _ _ _ q.1 q.2 e) ?_
      refine v_istore C dX9_scanName_103 (by decide) ?_
      refine v_iload C dX9_scanName_105 rfl ?_
      refine v_bipush (v := 44) C dX9_scanName_107 rfl ?_
      refine v_icmp_eq (tgt := 128) C dX9_scanName_109 (by decide) (fun c => ?_) (fun c => ?_)
      · replace h := ifT h c
        exact v_sb (p_X9_scanName_128 C F h) ⟨rfl, rfl, rfl, trivial⟩
      · replace h := ifF h c
        refine v_iload C dX9_scanName_112 rfl ?_
        refine v_bipush (v := 61) C dX9_scanName_114 rfl ?_
        refine v_icmp_eq (tgt := 128) C dX9_scanName_116 (by decide) (fun c => ?_) (fun c => ?_)
        · replace h := ifT h c
          exact v_sb (p_X9_scanName_128 C F h) ⟨rfl, rfl, rfl, trivial⟩
        · replace h := ifF h c
          refine v_aload_n C dX9_scanName_119 rfl ?_
          refine v_iload C dX9_scanName_120 rfl ?_
          refine v_iload C dX9_scanName_122 rfl ?_
          obtain ⟨b, e0, h⟩ := ob h
          obtain ⟨q, e, h⟩ := ob h
          refine v_callV (As := [_, _]) C dX9_scanName_124 cf_X9_104 (rm_X9_scanName_X9_scanText) ⟨rfl, rfl⟩ e0 rfl (Nat.le_of_ble_eq_true rfl) (c_X9_scanText _ _ N _ _ _ _ q.1 q.2 e) ?_
          exact v_iret C F ⟨rfl, rfl, Nat.le_refl _⟩ dX9_scanName_127 h
  · replace h := ifF h c
    refine v_aload_n C dX9_scanName_64 rfl ?_
    refine v_bipush (v := 6) C dX9_scanName_65 rfl ?_
    refine v_iload_n C dX9_scanName_67 rfl ?_
    refine v_iconst (v := 0) C dX9_scanName_68 rfl ?_
    refine v_iconst (v := 0) C dX9_scanName_69 rfl ?_
    obtain ⟨b, e0, h⟩ := ob h
    obtain ⟨q, e, h⟩ := ob h
    refine v_callV (As := [_, _, _, _]) C dX9_scanName_70 cf_X9_69 (rm_X9_scanName_X9_append) ⟨rfl, rfl⟩ e0 rfl (Nat.le_of_ble_eq_true rfl) (c_X9_append _ _ N _ _ _ _ _ _ q.1 q.2 e) ?_
    exact v_iret C F ⟨rfl, rfl, Nat.le_refl _⟩ dX9_scanName_73 h
set_option maxRecDepth 100000 in
set_option maxHeartbeats 4000000 in
theorem p_X9_scanName_37 {x : CX} {l : Launch} {g : CG} {rv : Int32} {μ0 μ9 : Mem} (C : Cx x l g mi_X9_scanName) (F : Prom x g mi_X9_scanName μ0 (some (aI rv)) μ9) {N : Nat} {k7 : (Option Nat) → Int64 → Int32 → Mem → Option (Int32 × Mem)} (hk7 : ∀ (a0 : Option Nat) (a1 : Int64) (a3 : Int32) (μ : Mem), k7 a0 a1 a3 μ = some (rv, μ9) → V x g 7 0 0 μ 7 [(0, aR a0), (1, aJ a1), (3, aI a3)] []) {a0 : Option Nat} {a1 : Int64} {a3 : Int32} {μ : Mem} (h : f_X9_scanName_37 N k7 a0 a1 a3 μ = some (rv, μ9)) : V x g 7 0 0 μ 37 [(0, aR a0), (1, aJ a1), (3, aI a3)] [] := by
  unfold f_X9_scanName_37 at h
  refine v_lload_n C dX9_scanName_37 rfl ?_
  refine v_aload_n C dX9_scanName_38 rfl ?_
  refine v_iload_n C dX9_scanName_39 rfl ?_
  obtain ⟨b, e0, h⟩ := ob h
  obtain ⟨q, e, h⟩ := ob h
  refine v_callV (As := [_]) C dX9_scanName_40 cf_X9_66 (rm_X9_scanName_X9_byteAt) ⟨rfl, rfl⟩ e0 rfl (Nat.le_of_ble_eq_true rfl) (c_X9_byteAt _ _ N _ _ _ q.1 q.2 e) ?_
  obtain ⟨q, e, h⟩ := ob h
  refine v_callS (As := [_, _]) C dX9_scanName_43 cf_X9_96 (rm_X9_scanName_X4_withLetter) ⟨rfl, rfl⟩ rfl (Nat.le_of_ble_eq_true rfl) (c_X4_withLetter _ _ N _ _ _ q.1 q.2 e) ?_
  refine v_lstore_n C dX9_scanName_46 (by decide) ?_
  refine v_iinc (w := 1) C dX9_scanName_47 rfl rfl (by decide) ?_
  refine v_goto (tgt := 7) C dX9_scanName_50 (by decide) ?_
  exact v_sb (hk7 _ _ _ _ h) ⟨rfl, rfl, rfl, trivial⟩
set_option maxRecDepth 100000 in
set_option maxHeartbeats 4000000 in
theorem pH_X9_scanName_7 {x : CX} {l : Launch} {g : CG} {rv : Int32} {μ0 μ9 : Mem} (C : Cx x l g mi_X9_scanName) (F : Prom x g mi_X9_scanName μ0 (some (aI rv)) μ9) {N : Nat} {k7 : (Option Nat) → Int64 → Int32 → Mem → Option (Int32 × Mem)} (hk7 : ∀ (a0 : Option Nat) (a1 : Int64) (a3 : Int32) (μ : Mem), k7 a0 a1 a3 μ = some (rv, μ9) → V x g 7 0 0 μ 7 [(0, aR a0), (1, aJ a1), (3, aI a3)] []) {a0 : Option Nat} {a1 : Int64} {a3 : Int32} {μ : Mem} (h : H_X9_scanName_7 N k7 a0 a1 a3 μ = some (rv, μ9)) : V x g 7 0 0 μ 7 [(0, aR a0), (1, aJ a1), (3, aI a3)] [] := by
  unfold H_X9_scanName_7 at h
  refine v_iload_n C dX9_scanName_7 rfl ?_
  refine v_aload_n C dX9_scanName_8 rfl ?_
  obtain ⟨v, e, h⟩ := ob h
  refine v_getI C dX9_scanName_9 gf_X9_31 e ?_
  refine v_icmp_ge (tgt := 53) C dX9_scanName_12 (by decide) (fun c => ?_) (fun c => ?_)
  · replace h := ifT h c
    exact v_sb (p_X9_scanName_53 C F h) ⟨rfl, rfl, rfl, trivial⟩
  · replace h := ifF h c
    refine v_aload_n C dX9_scanName_15 rfl ?_
    refine v_iload_n C dX9_scanName_16 rfl ?_
    obtain ⟨b, e0, h⟩ := ob h
    obtain ⟨q, e, h⟩ := ob h
    refine v_callV (As := [_]) C dX9_scanName_17 cf_X9_66 (rm_X9_scanName_X9_byteAt) ⟨rfl, rfl⟩ e0 rfl (Nat.le_of_ble_eq_true rfl) (c_X9_byteAt _ _ N _ _ _ q.1 q.2 e) ?_
    obtain ⟨q, e, h⟩ := ob h
    refine v_callS (As := [_]) C dX9_scanName_20 cf_X9_73 (rm_X9_scanName_X9_isLetter) ⟨rfl, rfl⟩ rfl (Nat.le_of_ble_eq_true rfl) (c_X9_isLetter _ _ N _ _ q.1 q.2 e) ?_
    refine v_if_ne (tgt := 37) C dX9_scanName_23 (by decide) (fun c => ?_) (fun c => ?_)
    · replace h := ifT h c
      exact v_sb (p_X9_scanName_37 C F hk7 h) ⟨rfl, rfl, rfl, trivial⟩
    · replace h := ifF h c
      refine v_aload_n C dX9_scanName_26 rfl ?_
      refine v_iload_n C dX9_scanName_27 rfl ?_
      obtain ⟨b, e0, h⟩ := ob h
      obtain ⟨q, e, h⟩ := ob h
      refine v_callV (As := [_]) C dX9_scanName_28 cf_X9_66 (rm_X9_scanName_X9_byteAt) ⟨rfl, rfl⟩ e0 rfl (Nat.le_of_ble_eq_true rfl) (c_X9_byteAt _ _ N _ _ _ q.1 q.2 e) ?_
      obtain ⟨q, e, h⟩ := ob h
      refine v_callS (As := [_]) C dX9_scanName_31 cf_X9_80 (rm_X9_scanName_X9_isDigit) ⟨rfl, rfl⟩ rfl (Nat.le_of_ble_eq_true rfl) (c_X9_isDigit _ _ N _ _ q.1 q.2 e) ?_
      refine v_if_eq (tgt := 53) C dX9_scanName_34 (by decide) (fun c => ?_) (fun c => ?_)
      · replace h := ifT h c
        exact v_sb (p_X9_scanName_53 C F h) ⟨rfl, rfl, rfl, trivial⟩
      · replace h := ifF h c
        exact v_sb (p_X9_scanName_37 C F hk7 h) ⟨rfl, rfl, rfl, trivial⟩
set_option maxRecDepth 100000 in
set_option maxHeartbeats 4000000 in
theorem pL_X9_scanName_7 {x : CX} {l : Launch} {g : CG} {rv : Int32} {μ0 μ9 : Mem} (C : Cx x l g mi_X9_scanName) (F : Prom x g mi_X9_scanName μ0 (some (aI rv)) μ9) (N : Nat) (n : Nat) : ∀ (a0 : Option Nat) (a1 : Int64) (a3 : Int32) (μ : Mem), L_X9_scanName_7 N n a0 a1 a3 μ = some (rv, μ9) → V x g 7 0 0 μ 7 [(0, aR a0), (1, aJ a1), (3, aI a3)] [] := by
  induction n with
  | zero => intro a0 a1 a3 μ h; cases h
  | succ n ih => intro a0 a1 a3 μ h; exact pH_X9_scanName_7 C F ih h
set_option maxRecDepth 100000 in
set_option maxHeartbeats 4000000 in
theorem p_X9_scanName {x : CX} {l : Launch} {g : CG} {rv : Int32} {μ0 μ9 : Mem} (C : Cx x l g mi_X9_scanName) (F : Prom x g mi_X9_scanName μ0 (some (aI rv)) μ9) {N : Nat} {a0 : Option Nat} {μ : Mem} (h : f_X9_scanName N a0 μ = some (rv, μ9)) : V x g 7 0 0 μ 0 [(0, aR a0)] [] := by
  unfold f_X9_scanName at h
  refine v_lconst (v := 0) C dX9_scanName_0 rfl ?_
  refine v_lstore_n C dX9_scanName_1 (by decide) ?_
  refine v_aload_n C dX9_scanName_2 rfl ?_
  obtain ⟨v, e, h⟩ := ob h
  refine v_getI C dX9_scanName_3 gf_X9_34 e ?_
  refine v_istore_n C dX9_scanName_6 (by decide) ?_
  exact v_sb (pL_X9_scanName_7 C F N N _ _ _ _ h) ⟨rfl, rfl, rfl, trivial⟩
set_option maxRecDepth 100000 in
set_option maxHeartbeats 4000000 in
theorem c_X9_scanName (l : Launch) (g : CG) (N : Nat) (a0 : Option Nat) (μ : Mem) (rv : Int32) (μ9 : Mem) (h : f_X9_scanName N a0 μ = some (rv, μ9)) : Ct l yX9_scanName mi_X9_scanName g [aR a0] μ (some (aI rv)) μ9 := ct_of ⟨by decide, rfl, rfl⟩ (Nat.le_of_ble_eq_true rfl) fun x C F => p_X9_scanName C F h
def f_X9_scanNumber_122 (N : Nat) (s0 : Option Nat) (s1 : Int32) (s2 : Int32) (s3 : Int32) (s4 : Int32) (μ : Mem) : Option (Int32 × Mem) :=
  (mck μ s0 9).bind fun b2 =>
  (f_X9_append N (some b2) s1 s2 s3 s4 μ).bind fun q1 =>
  some (q1.1, q1.2)
def f_X9_scanNumber_86 (N : Nat) (a0 : Option Nat) (a1 : Int32) (a2 : Int32) (a3 : Int32) (μ : Mem) : Option (Int32 × Mem) :=
  (mfI μ a0 9 8).bind fun v1 =>
  if (a3 - v1) ≤ (4 : Int32) then
    if a2 ≤ (4095 : Int32) then
      f_X9_scanNumber_122 N a0 2 a3 a1 a2 μ
    else
      f_X9_scanNumber_122 N a0 2 a3 a1 ((-1)) μ
  else
    (mck μ a0 9).bind fun b3 =>
    (f_X9_append N (some b3) 6 a3 0 0 μ).bind fun q2 =>
    some (q2.1, q2.2)
def f_X9_scanNumber_71 (N : Nat) (k9 : (Option Nat) → Int32 → Int32 → Int32 → Mem → Option (Int32 × Mem)) (a0 : Option Nat) (a2 : Int32) (a3 : Int32) (a4 : Int32) (s0 : Int32) (μ : Mem) : Option (Int32 × Mem) :=
  k9 a0 s0 ((a2 * 10) + a4) (a3 + 1) μ
def f_X9_scanNumber_60 (N : Nat) (k9 : (Option Nat) → Int32 → Int32 → Int32 → Mem → Option (Int32 × Mem)) (a0 : Option Nat) (a2 : Int32) (a3 : Int32) (a4 : Int32) (μ : Mem) : Option (Int32 × Mem) :=
  f_X9_scanNumber_71 N k9 a0 a2 a3 a4 ((-1)) μ
def H_X9_scanNumber_9 (N : Nat) (k9 : (Option Nat) → Int32 → Int32 → Int32 → Mem → Option (Int32 × Mem)) (a0 : Option Nat) (a1 : Int32) (a2 : Int32) (a3 : Int32) (μ : Mem) : Option (Int32 × Mem) :=
  (mfI μ a0 9 7).bind fun v1 =>
  if v1 ≤ a3 then
    f_X9_scanNumber_86 N a0 a1 a2 a3 μ
  else
    (mfI μ a0 9 8).bind fun v2 =>
    if (4 : Int32) < (a3 - v2) then
      f_X9_scanNumber_86 N a0 a1 a2 a3 μ
    else
      (mck μ a0 9).bind fun b4 =>
      (f_X9_byteAt N (some b4) a3 μ).bind fun q3 =>
      (f_X9_isDigit N q3.1 q3.2).bind fun q5 =>
      if q5.1 = 0 then
        f_X9_scanNumber_86 N a0 a1 a2 a3 q5.2
      else
        (mck q5.2 a0 9).bind fun b7 =>
        (f_X9_byteAt N (some b7) a3 q5.2).bind fun q6 =>
        if a1 = (((-1)) : Int32) then
          f_X9_scanNumber_60 N k9 a0 a2 a3 (q6.1 - 48) q6.2
        else
          if (q6.1 - 48) ≤ (7 : Int32) then
            f_X9_scanNumber_71 N k9 a0 a2 a3 (q6.1 - 48) ((a1 * 8) + (q6.1 - 48)) q6.2
          else
            f_X9_scanNumber_60 N k9 a0 a2 a3 (q6.1 - 48) q6.2
def L_X9_scanNumber_9 (N : Nat) : Nat → (Option Nat) → Int32 → Int32 → Int32 → Mem → Option (Int32 × Mem)
  | 0 => fun _ _ _ _ _ => none
  | n + 1 => H_X9_scanNumber_9 N (L_X9_scanNumber_9 N n)
def f_X9_scanNumber (N : Nat) (a0 : Option Nat) (μ : Mem) : Option (Int32 × Mem) :=
  (mfI μ a0 9 8).bind fun v1 =>
  L_X9_scanNumber_9 N N a0 0 0 v1 μ
set_option maxRecDepth 100000 in
set_option maxHeartbeats 4000000 in
theorem p_X9_scanNumber_122 {x : CX} {l : Launch} {g : CG} {rv : Int32} {μ0 μ9 : Mem} (C : Cx x l g mi_X9_scanNumber) (F : Prom x g mi_X9_scanNumber μ0 (some (aI rv)) μ9) {N : Nat} {s0 : Option Nat} {s1 : Int32} {s2 : Int32} {s3 : Int32} {s4 : Int32} {μ : Mem} (h : f_X9_scanNumber_122 N s0 s1 s2 s3 s4 μ = some (rv, μ9)) : V x g 5 0 0 μ 122 [] [aI s4, aI s3, aI s2, aI s1, aR s0] := by
  unfold f_X9_scanNumber_122 at h
  obtain ⟨b, e0, h⟩ := ob h
  obtain ⟨q, e, h⟩ := ob h
  refine v_callV (As := [_, _, _, _]) C dX9_scanNumber_122 cf_X9_69 (rm_X9_scanNumber_X9_append) ⟨rfl, rfl⟩ e0 rfl (Nat.le_of_ble_eq_true rfl) (c_X9_append _ _ N _ _ _ _ _ _ q.1 q.2 e) ?_
  exact v_iret C F ⟨rfl, rfl, Nat.le_refl _⟩ dX9_scanNumber_125 h
set_option maxRecDepth 100000 in
set_option maxHeartbeats 4000000 in
theorem p_X9_scanNumber_86 {x : CX} {l : Launch} {g : CG} {rv : Int32} {μ0 μ9 : Mem} (C : Cx x l g mi_X9_scanNumber) (F : Prom x g mi_X9_scanNumber μ0 (some (aI rv)) μ9) {N : Nat} {a0 : Option Nat} {a1 : Int32} {a2 : Int32} {a3 : Int32} {μ : Mem} (h : f_X9_scanNumber_86 N a0 a1 a2 a3 μ = some (rv, μ9)) : V x g 5 0 0 μ 86 [(0, aR a0), (1, aI a1), (2, aI a2), (3, aI a3)] [] := by
  unfold f_X9_scanNumber_86 at h
  refine v_iload_n C dX9_scanNumber_86 rfl ?_
  refine v_aload_n C dX9_scanNumber_87 rfl ?_
  obtain ⟨v, e, h⟩ := ob h
  refine v_getI C dX9_scanNumber_88 gf_X9_34 e ?_
  refine v_isub C dX9_scanNumber_91 ?_
  refine v_iconst (v := 4) C dX9_scanNumber_92 rfl ?_
  refine v_icmp_le (tgt := 106) C dX9_scanNumber_93 (by decide) (fun c => ?_) (fun c => ?_)
  · replace h := ifT h c
    refine v_aload_n C dX9_scanNumber_106 rfl ?_
    refine v_iconst (v := 2) C dX9_scanNumber_107 rfl ?_
    refine v_iload_n C dX9_scanNumber_108 rfl ?_
    refine v_iload_n C dX9_scanNumber_109 rfl ?_
    refine v_iload_n C dX9_scanNumber_110 rfl ?_
    refine v_sipush (v := 4095) C dX9_scanNumber_111 rfl ?_
    refine v_icmp_le (tgt := 121) C dX9_scanNumber_114 (by decide) (fun c => ?_) (fun c => ?_)
    · replace h := ifT h c
      refine v_iload_n C dX9_scanNumber_121 rfl ?_
      exact v_sb (p_X9_scanNumber_122 C F h) trivial
    · replace h := ifF h c
      refine v_iconst (v := -1) C dX9_scanNumber_117 rfl ?_
      refine v_goto (tgt := 122) C dX9_scanNumber_118 (by decide) ?_
      exact v_sb (p_X9_scanNumber_122 C F h) trivial
  · replace h := ifF h c
    refine v_aload_n C dX9_scanNumber_96 rfl ?_
    refine v_bipush (v := 6) C dX9_scanNumber_97 rfl ?_
    refine v_iload_n C dX9_scanNumber_99 rfl ?_
    refine v_iconst (v := 0) C dX9_scanNumber_100 rfl ?_
    refine v_iconst (v := 0) C dX9_scanNumber_101 rfl ?_
    obtain ⟨b, e0, h⟩ := ob h
    obtain ⟨q, e, h⟩ := ob h
    refine v_callV (As := [_, _, _, _]) C dX9_scanNumber_102 cf_X9_69 (rm_X9_scanNumber_X9_append) ⟨rfl, rfl⟩ e0 rfl (Nat.le_of_ble_eq_true rfl) (c_X9_append _ _ N _ _ _ _ _ _ q.1 q.2 e) ?_
    exact v_iret C F ⟨rfl, rfl, Nat.le_refl _⟩ dX9_scanNumber_105 h
set_option maxRecDepth 100000 in
set_option maxHeartbeats 4000000 in
theorem p_X9_scanNumber_71 {x : CX} {l : Launch} {g : CG} {rv : Int32} {μ0 μ9 : Mem} (C : Cx x l g mi_X9_scanNumber) (F : Prom x g mi_X9_scanNumber μ0 (some (aI rv)) μ9) {N : Nat} {k9 : (Option Nat) → Int32 → Int32 → Int32 → Mem → Option (Int32 × Mem)} (hk9 : ∀ (a0 : Option Nat) (a1 : Int32) (a2 : Int32) (a3 : Int32) (μ : Mem), k9 a0 a1 a2 a3 μ = some (rv, μ9) → V x g 5 0 0 μ 9 [(0, aR a0), (1, aI a1), (2, aI a2), (3, aI a3)] []) {a0 : Option Nat} {a2 : Int32} {a3 : Int32} {a4 : Int32} {s0 : Int32} {μ : Mem} (h : f_X9_scanNumber_71 N k9 a0 a2 a3 a4 s0 μ = some (rv, μ9)) : V x g 5 0 0 μ 71 [(0, aR a0), (2, aI a2), (3, aI a3), (4, aI a4)] [aI s0] := by
  unfold f_X9_scanNumber_71 at h
  refine v_istore_n C dX9_scanNumber_71 (by decide) ?_
  refine v_iload_n C dX9_scanNumber_72 rfl ?_
  refine v_bipush (v := 10) C dX9_scanNumber_73 rfl ?_
  refine v_imul C dX9_scanNumber_75 ?_
  refine v_iload C dX9_scanNumber_76 rfl ?_
  refine v_iadd C dX9_scanNumber_78 ?_
  refine v_istore_n C dX9_scanNumber_79 (by decide) ?_
  refine v_iinc (w := 1) C dX9_scanNumber_80 rfl rfl (by decide) ?_
  refine v_goto (tgt := 9) C dX9_scanNumber_83 (by decide) ?_
  exact v_sb (hk9 _ _ _ _ _ h) ⟨rfl, rfl, rfl, rfl, trivial⟩
set_option maxRecDepth 100000 in
set_option maxHeartbeats 4000000 in
theorem p_X9_scanNumber_60 {x : CX} {l : Launch} {g : CG} {rv : Int32} {μ0 μ9 : Mem} (C : Cx x l g mi_X9_scanNumber) (F : Prom x g mi_X9_scanNumber μ0 (some (aI rv)) μ9) {N : Nat} {k9 : (Option Nat) → Int32 → Int32 → Int32 → Mem → Option (Int32 × Mem)} (hk9 : ∀ (a0 : Option Nat) (a1 : Int32) (a2 : Int32) (a3 : Int32) (μ : Mem), k9 a0 a1 a2 a3 μ = some (rv, μ9) → V x g 5 0 0 μ 9 [(0, aR a0), (1, aI a1), (2, aI a2), (3, aI a3)] []) {a0 : Option Nat} {a2 : Int32} {a3 : Int32} {a4 : Int32} {μ : Mem} (h : f_X9_scanNumber_60 N k9 a0 a2 a3 a4 μ = some (rv, μ9)) : V x g 5 0 0 μ 60 [(0, aR a0), (2, aI a2), (3, aI a3), (4, aI a4)] [] := by
  unfold f_X9_scanNumber_60 at h
  refine v_iconst (v := -1) C dX9_scanNumber_60 rfl ?_
  refine v_goto (tgt := 71) C dX9_scanNumber_61 (by decide) ?_
  exact v_sb (p_X9_scanNumber_71 C F hk9 h) ⟨rfl, rfl, rfl, rfl, trivial⟩
set_option maxRecDepth 100000 in
set_option maxHeartbeats 4000000 in
theorem pH_X9_scanNumber_9 {x : CX} {l : Launch} {g : CG} {rv : Int32} {μ0 μ9 : Mem} (C : Cx x l g mi_X9_scanNumber) (F : Prom x g mi_X9_scanNumber μ0 (some (aI rv)) μ9) {N : Nat} {k9 : (Option Nat) → Int32 → Int32 → Int32 → Mem → Option (Int32 × Mem)} (hk9 : ∀ (a0 : Option Nat) (a1 : Int32) (a2 : Int32) (a3 : Int32) (μ : Mem), k9 a0 a1 a2 a3 μ = some (rv, μ9) → V x g 5 0 0 μ 9 [(0, aR a0), (1, aI a1), (2, aI a2), (3, aI a3)] []) {a0 : Option Nat} {a1 : Int32} {a2 : Int32} {a3 : Int32} {μ : Mem} (h : H_X9_scanNumber_9 N k9 a0 a1 a2 a3 μ = some (rv, μ9)) : V x g 5 0 0 μ 9 [(0, aR a0), (1, aI a1), (2, aI a2), (3, aI a3)] [] := by
  unfold H_X9_scanNumber_9 at h
  refine v_iload_n C dX9_scanNumber_9 rfl ?_
  refine v_aload_n C dX9_scanNumber_10 rfl ?_
  obtain ⟨v, e, h⟩ := ob h
  refine v_getI C dX9_scanNumber_11 gf_X9_31 e ?_
  refine v_icmp_ge (tgt := 86) C dX9_scanNumber_14 (by decide) (fun c => ?_) (fun c => ?_)
  · replace h := ifT h c
    exact v_sb (p_X9_scanNumber_86 C F h) ⟨rfl, rfl, rfl, rfl, trivial⟩
  · replace h := ifF h c
    refine v_iload_n C dX9_scanNumber_17 rfl ?_
    refine v_aload_n C dX9_scanNumber_18 rfl ?_
    obtain ⟨v, e, h⟩ := ob h
    refine v_getI C dX9_scanNumber_19 gf_X9_34 e ?_
    refine v_isub C dX9_scanNumber_22 ?_
    refine v_iconst (v := 4) C dX9_scanNumber_23 rfl ?_
    refine v_icmp_gt (tgt := 86) C dX9_scanNumber_24 (by decide) (fun c => ?_) (fun c => ?_)
    · replace h := ifT h c
      exact v_sb (p_X9_scanNumber_86 C F h) ⟨rfl, rfl, rfl, rfl, trivial⟩
    · replace h := ifF h c
      refine v_aload_n C dX9_scanNumber_27 rfl ?_
      refine v_iload_n C dX9_scanNumber_28 rfl ?_
      obtain ⟨b, e0, h⟩ := ob h
      obtain ⟨q, e, h⟩ := ob h
      refine v_callV (As := [_]) C dX9_scanNumber_29 cf_X9_66 (rm_X9_scanNumber_X9_byteAt) ⟨rfl, rfl⟩ e0 rfl (Nat.le_of_ble_eq_true rfl) (c_X9_byteAt _ _ N _ _ _ q.1 q.2 e) ?_
      obtain ⟨q, e, h⟩ := ob h
      refine v_callS (As := [_]) C dX9_scanNumber_32 cf_X9_80 (rm_X9_scanNumber_X9_isDigit) ⟨rfl, rfl⟩ rfl (Nat.le_of_ble_eq_true rfl) (c_X9_isDigit _ _ N _ _ q.1 q.2 e) ?_
      refine v_if_eq (tgt := 86) C dX9_scanNumber_35 (by decide) (fun c => ?_) (fun c => ?_)
      · replace h := ifT h c
        exact v_sb (p_X9_scanNumber_86 C F h) ⟨rfl, rfl, rfl, rfl, trivial⟩
      · replace h := ifF h c
        refine v_aload_n C dX9_scanNumber_38 rfl ?_
        refine v_iload_n C dX9_scanNumber_39 rfl ?_
        obtain ⟨b, e0, h⟩ := ob h
        obtain ⟨q, e, h⟩ := ob h
        refine v_callV (As := [_]) C dX9_scanNumber_40 cf_X9_66 (rm_X9_scanNumber_X9_byteAt) ⟨rfl, rfl⟩ e0 rfl (Nat.le_of_ble_eq_true rfl) (c_X9_byteAt _ _ N _ _ _ q.1 q.2 e) ?_
        refine v_bipush (v := 48) C dX9_scanNumber_43 rfl ?_
        refine v_isub C dX9_scanNumber_45 ?_
        refine v_istore C dX9_scanNumber_46 (by decide) ?_
        refine v_iload_n C dX9_scanNumber_48 rfl ?_
        refine v_iconst (v := -1) C dX9_scanNumber_49 rfl ?_
        refine v_icmp_eq (tgt := 60) C dX9_scanNumber_50 (by decide) (fun c => ?_) (fun c => ?_)
        · replace h := ifT h c
          exact v_sb (p_X9_scanNumber_60 C F hk9 h) ⟨rfl, rfl, rfl, rfl, trivial⟩
        · replace h := ifF h c
          refine v_iload C dX9_scanNumber_53 rfl ?_
          refine v_bipush (v := 7) C dX9_scanNumber_55 rfl ?_
          refine v_icmp_le (tgt := 64) C dX9_scanNumber_57 (by decide) (fun c => ?_) (fun c => ?_)
          · replace h := ifT h c
            refine v_iload_n C dX9_scanNumber_64 rfl ?_
            refine v_bipush (v := 8) C dX9_scanNumber_65 rfl ?_
            refine v_imul C dX9_scanNumber_67 ?_
            refine v_iload C dX9_scanNumber_68 rfl ?_
            refine v_iadd C dX9_scanNumber_70 ?_
            exact v_sb (p_X9_scanNumber_71 C F hk9 h) ⟨rfl, rfl, rfl, rfl, trivial⟩
          · replace h := ifF h c
            exact v_sb (p_X9_scanNumber_60 C F hk9 h) ⟨rfl, rfl, rfl, rfl, trivial⟩
set_option maxRecDepth 100000 in
set_option maxHeartbeats 4000000 in
theorem pL_X9_scanNumber_9 {x : CX} {l : Launch} {g : CG} {rv : Int32} {μ0 μ9 : Mem} (C : Cx x l g mi_X9_scanNumber) (F : Prom x g mi_X9_scanNumber μ0 (some (aI rv)) μ9) (N : Nat) (n : Nat) : ∀ (a0 : Option Nat) (a1 : Int32) (a2 : Int32) (a3 : Int32) (μ : Mem), L_X9_scanNumber_9 N n a0 a1 a2 a3 μ = some (rv, μ9) → V x g 5 0 0 μ 9 [(0, aR a0), (1, aI a1), (2, aI a2), (3, aI a3)] [] := by
  induction n with
  | zero => intro a0 a1 a2 a3 μ h; cases h
  | succ n ih => intro a0 a1 a2 a3 μ h; exact pH_X9_scanNumber_9 C F ih h
set_option maxRecDepth 100000 in
set_option maxHeartbeats 4000000 in
theorem p_X9_scanNumber {x : CX} {l : Launch} {g : CG} {rv : Int32} {μ0 μ9 : Mem} (C : Cx x l g mi_X9_scanNumber) (F : Prom x g mi_X9_scanNumber μ0 (some (aI rv)) μ9) {N : Nat} {a0 : Option Nat} {μ : Mem} (h : f_X9_scanNumber N a0 μ = some (rv, μ9)) : V x g 5 0 0 μ 0 [(0, aR a0)] [] := by
  unfold f_X9_scanNumber at h
  refine v_iconst (v := 0) C dX9_scanNumber_0 rfl ?_
  refine v_istore_n C dX9_scanNumber_1 (by decide) ?_
  refine v_iconst (v := 0) C dX9_scanNumber_2 rfl ?_
  refine v_istore_n C dX9_scanNumber_3 (by decide) ?_
  refine v_aload_n C dX9_scanNumber_4 rfl ?_
  obtain ⟨v, e, h⟩ := ob h
  refine v_getI C dX9_scanNumber_5 gf_X9_34 e ?_
  refine v_istore_n C dX9_scanNumber_8 (by decide) ?_
  exact v_sb (pL_X9_scanNumber_9 C F N N _ _ _ _ _ h) ⟨rfl, rfl, rfl, rfl, trivial⟩
set_option maxRecDepth 100000 in
set_option maxHeartbeats 4000000 in
theorem c_X9_scanNumber (l : Launch) (g : CG) (N : Nat) (a0 : Option Nat) (μ : Mem) (rv : Int32) (μ9 : Mem) (h : f_X9_scanNumber N a0 μ = some (rv, μ9)) : Ct l yX9_scanNumber mi_X9_scanNumber g [aR a0] μ (some (aI rv)) μ9 := ct_of ⟨by decide, rfl, rfl⟩ (Nat.le_of_ble_eq_true rfl) fun x C F => p_X9_scanNumber C F h
def f_X9_scanToken_157 (N : Nat) (a0 : Option Nat) (s0 : Option Nat) (s1 : Int32) (μ : Mem) : Option (Int32 × Mem) :=
  (mfI μ a0 9 8).bind fun v1 =>
  (mck μ s0 9).bind fun b3 =>
  (f_X9_append N (some b3) s1 (v1 + 1) 0 0 μ).bind fun q2 =>
  some (q2.1, q2.2)
def f_X9_scanToken_145 (N : Nat) (a0 : Option Nat) (a1 : Int32) (s0 : Int32) (μ : Mem) : Option (Int32 × Mem) :=
  if s0 = 0 then
    f_X9_scanToken_157 N a0 a0 6 μ
  else
    f_X9_scanToken_157 N a0 a0 a1 μ
def f_X9_scanToken_129 (N : Nat) (s0 : Int32) (μ : Mem) : Option (Int32 × Mem) :=
  some (s0, μ)
def f_X9_scanToken (N : Nat) (a0 : Option Nat) (μ : Mem) : Option (Int32 × Mem) :=
  (mfI μ a0 9 8).bind fun v1 =>
  (mck μ a0 9).bind fun b3 =>
  (f_X9_byteAt N (some b3) v1 μ).bind fun q2 =>
  if ¬ q2.1 = (((-1)) : Int32) then
    if ¬ q2.1 = (10 : Int32) then
      (f_X9_isLetter N q2.1 q2.2).bind fun q4 =>
      if q4.1 = 0 then
        (f_X9_isDigit N q2.1 q4.2).bind fun q5 =>
        if q5.1 = 0 then
          if ¬ q2.1 = (34 : Int32) then
            (sIx1 11 ((q2.1.toUInt32 % 65536).toInt32)).bind fun q6 =>
            if q6 < 0 then
              f_X9_scanToken_145 N a0 q2.1 0 q5.2
            else
              f_X9_scanToken_145 N a0 q2.1 1 q5.2
          else
            (mfI q5.2 a0 9 8).bind fun v7 =>
            (mck q5.2 a0 9).bind fun b9 =>
            (f_X9_byteAt N (some b9) (v7 + 1) q5.2).bind fun q8 =>
            (f_X9_isPlain N q8.1 q8.2).bind fun q10 =>
            if q10.1 = 0 then
              (mfI q10.2 a0 9 8).bind fun v11 =>
              (mck q10.2 a0 9).bind fun b13 =>
              (f_X9_append N (some b13) 6 (v11 + 1) 0 0 q10.2).bind fun q12 =>
              f_X9_scanToken_129 N q12.1 q12.2
            else
              (mfI q10.2 a0 9 8).bind fun v14 =>
              (mck q10.2 a0 9).bind fun b16 =>
              (f_X9_append N (some b16) 3 (v14 + 2) (q8.1 ||| 128) 0 q10.2).bind fun q15 =>
              f_X9_scanToken_129 N q15.1 q15.2
        else
          (mck q5.2 a0 9).bind fun b18 =>
          (f_X9_scanNumber N (some b18) q5.2).bind fun q17 =>
          some (q17.1, q17.2)
      else
        (mck q4.2 a0 9).bind fun b20 =>
        (f_X9_scanName N (some b20) q4.2).bind fun q19 =>
        some (q19.1, q19.2)
    else
      (mfI q2.2 a0 9 8).bind fun v21 =>
      (mck q2.2 a0 9).bind fun b23 =>
      (f_X9_append N (some b23) 10 (v21 + 1) 0 0 q2.2).bind fun q22 =>
      some (q22.1, q22.2)
  else
    (mfI q2.2 a0 9 8).bind fun v24 =>
    (mck q2.2 a0 9).bind fun b26 =>
    (f_X9_append N (some b26) 0 v24 0 0 q2.2).bind fun q25 =>
    some (q25.1, q25.2)
set_option maxRecDepth 100000 in
set_option maxHeartbeats 4000000 in
theorem p_X9_scanToken_157 {x : CX} {l : Launch} {g : CG} {rv : Int32} {μ0 μ9 : Mem} (C : Cx x l g mi_X9_scanToken) (F : Prom x g mi_X9_scanToken μ0 (some (aI rv)) μ9) {N : Nat} {a0 : Option Nat} {s0 : Option Nat} {s1 : Int32} {μ : Mem} (h : f_X9_scanToken_157 N a0 s0 s1 μ = some (rv, μ9)) : V x g 3 0 0 μ 157 [(0, aR a0)] [aI s1, aR s0] := by
  unfold f_X9_scanToken_157 at h
  refine v_aload_n C dX9_scanToken_157 rfl ?_
  obtain ⟨v, e, h⟩ := ob h
  refine v_getI C dX9_scanToken_158 gf_X9_34 e ?_
  refine v_iconst (v := 1) C dX9_scanToken_161 rfl ?_
  refine v_iadd C dX9_scanToken_162 ?_
  refine v_iconst (v := 0) C dX9_scanToken_163 rfl ?_
  refine v_iconst (v := 0) C dX9_scanToken_164 rfl ?_
  obtain ⟨b, e0, h⟩ := ob h
  obtain ⟨q, e, h⟩ := ob h
  refine v_callV (As := [_, _, _, _]) C dX9_scanToken_165 cf_X9_69 (rm_X9_scanToken_X9_append) ⟨rfl, rfl⟩ e0 rfl (Nat.le_of_ble_eq_true rfl) (c_X9_append _ _ N _ _ _ _ _ _ q.1 q.2 e) ?_
  exact v_iret C F ⟨rfl, rfl, Nat.le_refl _⟩ dX9_scanToken_168 h
set_option maxRecDepth 100000 in
set_option maxHeartbeats 4000000 in
theorem p_X9_scanToken_145 {x : CX} {l : Launch} {g : CG} {rv : Int32} {μ0 μ9 : Mem} (C : Cx x l g mi_X9_scanToken) (F : Prom x g mi_X9_scanToken μ0 (some (aI rv)) μ9) {N : Nat} {a0 : Option Nat} {a1 : Int32} {s0 : Int32} {μ : Mem} (h : f_X9_scanToken_145 N a0 a1 s0 μ = some (rv, μ9)) : V x g 3 0 0 μ 145 [(0, aR a0), (1, aI a1)] [aI s0] := by
  unfold f_X9_scanToken_145 at h
  refine v_istore_n C dX9_scanToken_145 (by decide) ?_
  refine v_aload_n C dX9_scanToken_146 rfl ?_
  refine v_iload_n C dX9_scanToken_147 rfl ?_
  refine v_if_eq (tgt := 155) C dX9_scanToken_148 (by decide) (fun c => ?_) (fun c => ?_)
  · replace h := ifT h c
    refine v_bipush (v := 6) C dX9_scanToken_155 rfl ?_
    exact v_sb (p_X9_scanToken_157 C F h) ⟨rfl, trivial⟩
  · replace h := ifF h c
    refine v_iload_n C dX9_scanToken_151 rfl ?_
    refine v_goto (tgt := 157) C dX9_scanToken_152 (by decide) ?_
    exact v_sb (p_X9_scanToken_157 C F h) ⟨rfl, trivial⟩
set_option maxRecDepth 100000 in
set_option maxHeartbeats 4000000 in
theorem p_X9_scanToken_129 {x : CX} {l : Launch} {g : CG} {rv : Int32} {μ0 μ9 : Mem} (C : Cx x l g mi_X9_scanToken) (F : Prom x g mi_X9_scanToken μ0 (some (aI rv)) μ9) {N : Nat} {s0 : Int32} {μ : Mem} (h : f_X9_scanToken_129 N s0 μ = some (rv, μ9)) : V x g 3 0 0 μ 129 [] [aI s0] := by
  unfold f_X9_scanToken_129 at h
  exact v_iret C F ⟨rfl, rfl, Nat.le_refl _⟩ dX9_scanToken_129 h
set_option maxRecDepth 100000 in
set_option maxHeartbeats 4000000 in
theorem p_X9_scanToken {x : CX} {l : Launch} {g : CG} {rv : Int32} {μ0 μ9 : Mem} (C : Cx x l g mi_X9_scanToken) (F : Prom x g mi_X9_scanToken μ0 (some (aI rv)) μ9) {N : Nat} {a0 : Option Nat} {μ : Mem} (h : f_X9_scanToken N a0 μ = some (rv, μ9)) : V x g 3 0 0 μ 0 [(0, aR a0)] [] := by
  unfold f_X9_scanToken at h
  refine v_aload_n C dX9_scanToken_0 rfl ?_
  refine v_aload_n C dX9_scanToken_1 rfl ?_
  obtain ⟨v, e, h⟩ := ob h
  refine v_getI C dX9_scanToken_2 gf_X9_34 e ?_
  obtain ⟨b, e0, h⟩ := ob h
  obtain ⟨q, e, h⟩ := ob h
  refine v_callV (As := [_]) C dX9_scanToken_5 cf_X9_66 (rm_X9_scanToken_X9_byteAt) ⟨rfl, rfl⟩ e0 rfl (Nat.le_of_ble_eq_true rfl) (c_X9_byteAt _ _ N _ _ _ q.1 q.2 e) ?_
  refine v_istore_n C dX9_scanToken_8 (by decide) ?_
  refine v_iload_n C dX9_scanToken_9 rfl ?_
  refine v_iconst (v := -1) C dX9_scanToken_10 rfl ?_
  refine v_icmp_ne (tgt := 26) C dX9_scanToken_11 (by decide) (fun c => ?_) (fun c => ?_)
  · replace h := ifT h c
    refine v_iload_n C dX9_scanToken_26 rfl ?_
    refine v_bipush (v := 10) C dX9_scanToken_27 rfl ?_
    refine v_icmp_ne (tgt := 47) C dX9_scanToken_29 (by decide) (fun c => ?_) (fun c => ?_)
    · replace h := ifT h c
      refine v_iload_n C dX9_scanToken_47 rfl ?_
      obtain ⟨q, e, h⟩ := ob h
      refine v_callS (As := [_]) C dX9_scanToken_48 cf_X9_73 (rm_X9_scanToken_X9_isLetter) ⟨rfl, rfl⟩ rfl (Nat.le_of_ble_eq_true rfl) (c_X9_isLetter _ _ N _ _ q.1 q.2 e) ?_
      refine v_if_eq (tgt := 59) C dX9_scanToken_51 (by decide) (fun c => ?_) (fun c => ?_)
      · replace h := ifT h c
        refine v_iload_n C dX9_scanToken_59 rfl ?_
        obtain ⟨q, e, h⟩ := ob h
        refine v_callS (As := [_]) C dX9_scanToken_60 cf_X9_80 (rm_X9_scanToken_X9_isDigit) ⟨rfl, rfl⟩ rfl (Nat.le_of_ble_eq_true rfl) (c_X9_isDigit _ _ N _ _ q.1 q.2 e) ?_
        refine v_if_eq (tgt := 71) C dX9_scanToken_63 (by decide) (fun c => ?_) (fun c => ?_)
        · replace h := ifT h c
          refine v_iload_n C dX9_scanToken_71 rfl ?_
          refine v_bipush (v := 34) C dX9_scanToken_72 rfl ?_
          refine v_icmp_ne (tgt := 130) C dX9_scanToken_74 (by decide) (fun c => ?_) (fun c => ?_)
          · replace h := ifT h c
            refine v_ldcX C dX9_scanToken_130 (Cex C).2.2.2.2.2.2.2.2.2.1 ?_
            refine v_iload_n C dX9_scanToken_132 rfl ?_
            refine v_i2c C dX9_scanToken_133 ?_
            obtain ⟨q, e, h⟩ := ob h
            refine v_callX (As := [_]) C dX9_scanToken_134 cf_X9_91 (rm_X9_scanToken_J0_indexOf_0f7a4) ⟨rfl, rfl⟩ (xsIx1 e) rfl (Nat.le_of_ble_eq_true rfl) (csIx1 e) ?_
            refine v_if_lt (tgt := 144) C dX9_scanToken_137 (by decide) (fun c => ?_) (fun c => ?_)
            · replace h := ifT h c
              refine v_iconst (v := 0) C dX9_scanToken_144 rfl ?_
              exact v_sb (p_X9_scanToken_145 C F h) ⟨rfl, rfl, trivial⟩
            · replace h := ifF h c
              refine v_iconst (v := 1) C dX9_scanToken_140 rfl ?_
              refine v_goto (tgt := 145) C dX9_scanToken_141 (by decide) ?_
              exact v_sb (p_X9_scanToken_145 C F h) ⟨rfl, rfl, trivial⟩
          · replace h := ifF h c
            refine v_aload_n C dX9_scanToken_77 rfl ?_
            refine v_aload_n C dX9_scanToken_78 rfl ?_
            obtain ⟨v, e, h⟩ := ob h
            refine v_getI C dX9_scanToken_79 gf_X9_34 e ?_
            refine v_iconst (v := 1) C dX9_scanToken_82 rfl ?_
            refine v_iadd C dX9_scanToken_83 ?_
            obtain ⟨b, e0, h⟩ := ob h
            obtain ⟨q, e, h⟩ := ob h
            refine v_callV (As := [_]) C dX9_scanToken_84 cf_X9_66 (rm_X9_scanToken_X9_byteAt) ⟨rfl, rfl⟩ e0 rfl (Nat.le_of_ble_eq_true rfl) (c_X9_byteAt _ _ N _ _ _ q.1 q.2 e) ?_
            refine v_istore_n C dX9_scanToken_87 (by decide) ?_
            refine v_iload_n C dX9_scanToken_88 rfl ?_
            obtain ⟨q, e, h⟩ := ob h
            refine v_callS (As := [_]) C dX9_scanToken_89 cf_X9_86 (rm_X9_scanToken_X9_isPlain) ⟨rfl, rfl⟩ rfl (Nat.le_of_ble_eq_true rfl) (c_X9_isPlain _ _ N _ _ q.1 q.2 e) ?_
            refine v_if_eq (tgt := 115) C dX9_scanToken_92 (by decide) (fun c => ?_) (fun c => ?_)
            · replace h := ifT h c
              refine v_aload_n C dX9_scanToken_115 rfl ?_
              refine v_bipush (v := 6) C dX9_scanToken_116 rfl ?_
              refine v_aload_n C dX9_scanToken_118 rfl ?_
              obtain ⟨v, e, h⟩ := ob h
              refine v_getI C dX9_scanToken_119 gf_X9_34 e ?_
              refine v_iconst (v := 1) C dX9_scanToken_122 rfl ?_
              refine v_iadd C dX9_scanToken_123 ?_
              refine v_iconst (v := 0) C dX9_scanToken_124 rfl ?_
              refine v_iconst (v := 0) C dX9_scanToken_125 rfl ?_
              obtain ⟨b, e0, h⟩ := ob h
              obtain ⟨q, e, h⟩ := ob h
              refine v_callV (As := [_, _, _, _]) C dX9_scanToken_126 cf_X9_69 (rm_X9_scanToken_X9_append) ⟨rfl, rfl⟩ e0 rfl (Nat.le_of_ble_eq_true rfl) (c_X9_append _ _ N _ _ _ _ _ _ q.1 q.2 e) ?_
              exact v_sb (p_X9_scanToken_129 C F h) trivial
            · replace h := ifF h c
              refine v_aload_n C dX9_scanToken_95 rfl ?_
              refine v_iconst (v := 3) C dX9_scanToken_96 rfl ?_
              refine v_aload_n C dX9_scanToken_97 rfl ?_
              obtain ⟨v, e, h⟩ := ob h
              refine v_getI C dX9_scanToken_98 gf_X9_34 e ?_
              refine v_iconst (v := 2) C dX9_scanToken_101 rfl ?_
              refine v_iadd C dX9_scanToken_102 ?_
              refine v_iload_n C dX9_scanToken_103 rfl ?_
              refine v_sipush (v := 128) C dX9_scanToken_104 rfl ?_
              refine v_ior C dX9_scanToken_107 ?_
              refine v_iconst (v := 0) C dX9_scanToken_108 rfl ?_
              obtain ⟨b, e0, h⟩ := ob h
              obtain ⟨q, e, h⟩ := ob h
              refine v_callV (As := [_, _, _, _]) C dX9_scanToken_109 cf_X9_69 (rm_X9_scanToken_X9_append) ⟨rfl, rfl⟩ e0 rfl (Nat.le_of_ble_eq_true rfl) (c_X9_append _ _ N _ _ _ _ _ _ q.1 q.2 e) ?_
              refine v_goto (tgt := 129) C dX9_scanToken_112 (by decide) ?_
              exact v_sb (p_X9_scanToken_129 C F h) trivial
        · replace h := ifF h c
          refine v_aload_n C dX9_scanToken_66 rfl ?_
          obtain ⟨b, e0, h⟩ := ob h
          obtain ⟨q, e, h⟩ := ob h
          refine v_callV (As := []) C dX9_scanToken_67 cf_X9_83 (rm_X9_scanToken_X9_scanNumber) ⟨rfl, rfl⟩ e0 rfl (Nat.le_of_ble_eq_true rfl) (c_X9_scanNumber _ _ N _ _ q.1 q.2 e) ?_
          exact v_iret C F ⟨rfl, rfl, Nat.le_refl _⟩ dX9_scanToken_70 h
      · replace h := ifF h c
        refine v_aload_n C dX9_scanToken_54 rfl ?_
        obtain ⟨b, e0, h⟩ := ob h
        obtain ⟨q, e, h⟩ := ob h
        refine v_callV (As := []) C dX9_scanToken_55 cf_X9_77 (rm_X9_scanToken_X9_scanName) ⟨rfl, rfl⟩ e0 rfl (Nat.le_of_ble_eq_true rfl) (c_X9_scanName _ _ N _ _ q.1 q.2 e) ?_
        exact v_iret C F ⟨rfl, rfl, Nat.le_refl _⟩ dX9_scanToken_58 h
    · replace h := ifF h c
      refine v_aload_n C dX9_scanToken_32 rfl ?_
      refine v_bipush (v := 10) C dX9_scanToken_33 rfl ?_
      refine v_aload_n C dX9_scanToken_35 rfl ?_
      obtain ⟨v, e, h⟩ := ob h
      refine v_getI C dX9_scanToken_36 gf_X9_34 e ?_
      refine v_iconst (v := 1) C dX9_scanToken_39 rfl ?_
      refine v_iadd C dX9_scanToken_40 ?_
      refine v_iconst (v := 0) C dX9_scanToken_41 rfl ?_
      refine v_iconst (v := 0) C dX9_scanToken_42 rfl ?_
      obtain ⟨b, e0, h⟩ := ob h
      obtain ⟨q, e, h⟩ := ob h
      refine v_callV (As := [_, _, _, _]) C dX9_scanToken_43 cf_X9_69 (rm_X9_scanToken_X9_append) ⟨rfl, rfl⟩ e0 rfl (Nat.le_of_ble_eq_true rfl) (c_X9_append _ _ N _ _ _ _ _ _ q.1 q.2 e) ?_
      exact v_iret C F ⟨rfl, rfl, Nat.le_refl _⟩ dX9_scanToken_46 h
  · replace h := ifF h c
    refine v_aload_n C dX9_scanToken_14 rfl ?_
    refine v_iconst (v := 0) C dX9_scanToken_15 rfl ?_
    refine v_aload_n C dX9_scanToken_16 rfl ?_
    obtain ⟨v, e, h⟩ := ob h
    refine v_getI C dX9_scanToken_17 gf_X9_34 e ?_
    refine v_iconst (v := 0) C dX9_scanToken_20 rfl ?_
    refine v_iconst (v := 0) C dX9_scanToken_21 rfl ?_
    obtain ⟨b, e0, h⟩ := ob h
    obtain ⟨q, e, h⟩ := ob h
    refine v_callV (As := [_, _, _, _]) C dX9_scanToken_22 cf_X9_69 (rm_X9_scanToken_X9_append) ⟨rfl, rfl⟩ e0 rfl (Nat.le_of_ble_eq_true rfl) (c_X9_append _ _ N _ _ _ _ _ _ q.1 q.2 e) ?_
    exact v_iret C F ⟨rfl, rfl, Nat.le_refl _⟩ dX9_scanToken_25 h
set_option maxRecDepth 100000 in
set_option maxHeartbeats 4000000 in
theorem c_X9_scanToken (l : Launch) (g : CG) (N : Nat) (a0 : Option Nat) (μ : Mem) (rv : Int32) (μ9 : Mem) (h : f_X9_scanToken N a0 μ = some (rv, μ9)) : Ct l yX9_scanToken mi_X9_scanToken g [aR a0] μ (some (aI rv)) μ9 := ct_of ⟨by decide, rfl, rfl⟩ (Nat.le_of_ble_eq_true rfl) fun x C F => p_X9_scanToken C F h
def f_X9_scan_99 (N : Nat) (μ : Mem) : Option (Unit × Mem) :=
  some ((), μ)
def H_X9_scan_44 (N : Nat) (k44 : (Option Nat) → Int32 → Mem → Option (Unit × Mem)) (a0 : Option Nat) (a3 : Int32) (μ : Mem) : Option (Unit × Mem) :=
  (mfI μ a0 9 7).bind fun v1 =>
  if v1 < a3 then
    some ((), μ)
  else
    (mfI μ a0 9 8).bind fun v2 =>
    (mck μ a0 9).bind fun b4 =>
    (f_X9_skipBlanks N (some b4) v2 μ).bind fun q3 =>
    (mpI q3.2 a0 9 8 q3.1).bind fun μ5 =>
    (mck μ5 a0 9).bind fun b7 =>
    (f_X9_skipRemark N (some b7) μ5).bind fun q6 =>
    (mck q6.2 a0 9).bind fun b9 =>
    (f_X9_scanToken N (some b9) q6.2).bind fun q8 =>
    if q8.1 = 0 then
      f_X9_scan_99 N q8.2
    else
      if q8.1 = (6 : Int32) then
        f_X9_scan_99 N q8.2
      else
        if q8.1 = (5 : Int32) then
          f_X9_scan_99 N q8.2
        else
          if ¬ q8.1 = (36 : Int32) then
            k44 a0 (a3 + 1) q8.2
          else
            f_X9_scan_99 N q8.2
def L_X9_scan_44 (N : Nat) : Nat → (Option Nat) → Int32 → Mem → Option (Unit × Mem)
  | 0 => fun _ _ _ => none
  | n + 1 => H_X9_scan_44 N (L_X9_scan_44 N n)
def f_X9_scan (N : Nat) (a0 : Option Nat) (a1 : Option Nat) (a2 : Int32) (μ : Mem) : Option (Unit × Mem) :=
  (mpR μ a0 9 6 a1).bind fun μ1 =>
  (mal μ1 a1).bind fun v2 =>
  (mpI μ1 a0 9 7 (mmax 0 (mmin a2 (mmin v2 2000)))).bind fun μ3 =>
  (mpI μ3 a0 9 8 0).bind fun μ4 =>
  (mpI μ4 a0 9 5 0).bind fun μ5 =>
  (mfR μ5 a0 9 0).bind fun v6 =>
  (mck μ5 v6 4).bind fun b8 =>
  (f_X4_forget N (some b8) μ5).bind fun q7 =>
  L_X9_scan_44 N N a0 0 q7.2
set_option maxRecDepth 100000 in
set_option maxHeartbeats 4000000 in
theorem p_X9_scan_99 {x : CX} {l : Launch} {g : CG} {rv : Unit} {μ0 μ9 : Mem} (C : Cx x l g mi_X9_scan) (F : Prom x g mi_X9_scan μ0 none μ9) {N : Nat} {μ : Mem} (h : f_X9_scan_99 N μ = some (rv, μ9)) : V x g 5 0 0 μ 99 [] [] := by
  unfold f_X9_scan_99 at h
  exact v_vret C F ⟨rfl, rfl, Nat.le_refl _⟩ dX9_scan_99 h
set_option maxRecDepth 100000 in
set_option maxHeartbeats 4000000 in
theorem pH_X9_scan_44 {x : CX} {l : Launch} {g : CG} {rv : Unit} {μ0 μ9 : Mem} (C : Cx x l g mi_X9_scan) (F : Prom x g mi_X9_scan μ0 none μ9) {N : Nat} {k44 : (Option Nat) → Int32 → Mem → Option (Unit × Mem)} (hk44 : ∀ (a0 : Option Nat) (a3 : Int32) (μ : Mem), k44 a0 a3 μ = some (rv, μ9) → V x g 5 0 0 μ 44 [(0, aR a0), (3, aI a3)] []) {a0 : Option Nat} {a3 : Int32} {μ : Mem} (h : H_X9_scan_44 N k44 a0 a3 μ = some (rv, μ9)) : V x g 5 0 0 μ 44 [(0, aR a0), (3, aI a3)] [] := by
  unfold H_X9_scan_44 at h
  refine v_iload_n C dX9_scan_44 rfl ?_
  refine v_aload_n C dX9_scan_45 rfl ?_
  obtain ⟨v, e, h⟩ := ob h
  refine v_getI C dX9_scan_46 gf_X9_31 e ?_
  refine v_icmp_gt (tgt := 106) C dX9_scan_49 (by decide) (fun c => ?_) (fun c => ?_)
  · replace h := ifT h c
    exact v_vret C F ⟨rfl, rfl, Nat.le_refl _⟩ dX9_scan_106 h
  · replace h := ifF h c
    refine v_aload_n C dX9_scan_52 rfl ?_
    refine v_aload_n C dX9_scan_53 rfl ?_
    refine v_aload_n C dX9_scan_54 rfl ?_
    obtain ⟨v, e, h⟩ := ob h
    refine v_getI C dX9_scan_55 gf_X9_34 e ?_
    obtain ⟨b, e0, h⟩ := ob h
    obtain ⟨q, e, h⟩ := ob h
    refine v_callV (As := [_]) C dX9_scan_58 cf_X9_55 (rm_X9_scan_X9_skipBlanks) ⟨rfl, rfl⟩ e0 rfl (Nat.le_of_ble_eq_true rfl) (c_X9_skipBlanks _ _ N _ _ _ q.1 q.2 e) ?_
    obtain ⟨m, e, h⟩ := ob h
    refine v_putI C dX9_scan_61 (pf_X9_34 _) e ?_
    refine v_aload_n C dX9_scan_64 rfl ?_
    obtain ⟨b, e0, h⟩ := ob h
    obtain ⟨q, e, h⟩ := ob h
    refine v_callV (As := []) C dX9_scan_65 cf_X9_59 (rm_X9_scan_X9_skipRemark) ⟨rfl, rfl⟩ e0 rfl (Nat.le_of_ble_eq_true rfl) (c_X9_skipRemark _ _ N _ _ q.1 q.2 e) ?_
    refine v_aload_n C dX9_scan_68 rfl ?_
    obtain ⟨b, e0, h⟩ := ob h
    obtain ⟨q, e, h⟩ := ob h
    refine v_callV (As := []) C dX9_scan_69 cf_X9_62 (rm_X9_scan_X9_scanToken) ⟨rfl, rfl⟩ e0 rfl (Nat.le_of_ble_eq_true rfl) (c_X9_scanToken _ _ N _ _ q.1 q.2 e) ?_
    refine v_istore C dX9_scan_72 (by decide) ?_
    refine v_iload C dX9_scan_74 rfl ?_
    refine v_if_eq (tgt := 99) C dX9_scan_76 (by decide) (fun c => ?_) (fun c => ?_)
    · replace h := ifT h c
      exact v_sb (p_X9_scan_99 C F h) trivial
    · replace h := ifF h c
      refine v_iload C dX9_scan_79 rfl ?_
      refine v_bipush (v := 6) C dX9_scan_81 rfl ?_
      refine v_icmp_eq (tgt := 99) C dX9_scan_83 (by decide) (fun c => ?_) (fun c => ?_)
      · replace h := ifT h c
        exact v_sb (p_X9_scan_99 C F h) trivial
      · replace h := ifF h c
        refine v_iload C dX9_scan_86 rfl ?_
        refine v_iconst (v := 5) C dX9_scan_88 rfl ?_
        refine v_icmp_eq (tgt := 99) C dX9_scan_89 (by decide) (fun c => ?_) (fun c => ?_)
        · replace h := ifT h c
          exact v_sb (p_X9_scan_99 C F h) trivial
        · replace h := ifF h c
          refine v_iload C dX9_scan_92 rfl ?_
          refine v_bipush (v := 36) C dX9_scan_94 rfl ?_
          refine v_icmp_ne (tgt := 100) C dX9_scan_96 (by decide) (fun c => ?_) (fun c => ?_)
          · replace h := ifT h c
            refine v_iinc (w := 1) C dX9_scan_100 rfl rfl (by decide) ?_
            refine v_goto (tgt := 44) C dX9_scan_103 (by decide) ?_
            exact v_sb (hk44 _ _ _ h) ⟨rfl, rfl, trivial⟩
          · replace h := ifF h c
            exact v_sb (p_X9_scan_99 C F h) trivial
set_option maxRecDepth 100000 in
set_option maxHeartbeats 4000000 in
theorem pL_X9_scan_44 {x : CX} {l : Launch} {g : CG} {rv : Unit} {μ0 μ9 : Mem} (C : Cx x l g mi_X9_scan) (F : Prom x g mi_X9_scan μ0 none μ9) (N : Nat) (n : Nat) : ∀ (a0 : Option Nat) (a3 : Int32) (μ : Mem), L_X9_scan_44 N n a0 a3 μ = some (rv, μ9) → V x g 5 0 0 μ 44 [(0, aR a0), (3, aI a3)] [] := by
  induction n with
  | zero => intro a0 a3 μ h; cases h
  | succ n ih => intro a0 a3 μ h; exact pH_X9_scan_44 C F ih h
set_option maxRecDepth 100000 in
set_option maxHeartbeats 4000000 in
theorem p_X9_scan {x : CX} {l : Launch} {g : CG} {rv : Unit} {μ0 μ9 : Mem} (C : Cx x l g mi_X9_scan) (F : Prom x g mi_X9_scan μ0 none μ9) {N : Nat} {a0 : Option Nat} {a1 : Option Nat} {a2 : Int32} {μ : Mem} (h : f_X9_scan N a0 a1 a2 μ = some (rv, μ9)) : V x g 5 0 0 μ 0 [(0, aR a0), (1, aR a1), (2, aI a2)] [] := by
  unfold f_X9_scan at h
  refine v_aload_n C dX9_scan_0 rfl ?_
  refine v_aload_n C dX9_scan_1 rfl ?_
  obtain ⟨m, e, h⟩ := ob h
  refine v_putR C dX9_scan_2 (pf_X9_28 _) rfl e ?_
  refine v_aload_n C dX9_scan_5 rfl ?_
  refine v_iconst (v := 0) C dX9_scan_6 rfl ?_
  refine v_iload_n C dX9_scan_7 rfl ?_
  refine v_aload_n C dX9_scan_8 rfl ?_
  obtain ⟨v, e, h⟩ := ob h
  refine v_alen C dX9_scan_9 e ?_
  refine v_sipush (v := 2000) C dX9_scan_10 rfl ?_
  refine v_mmin C dX9_scan_13 mx_X9_41 rfl ⟨⟨Nat.le_of_ble_eq_true rfl, Nat.le_of_ble_eq_true rfl⟩, Nat.le_of_ble_eq_true rfl, Nat.le_of_ble_eq_true rfl⟩ ?_
  refine v_mmin C dX9_scan_16 mx_X9_41 rfl ⟨⟨Nat.le_of_ble_eq_true rfl, Nat.le_of_ble_eq_true rfl⟩, Nat.le_of_ble_eq_true rfl, Nat.le_of_ble_eq_true rfl⟩ ?_
  refine v_mmax C dX9_scan_19 mx_X9_47 rfl ⟨⟨Nat.le_of_ble_eq_true rfl, Nat.le_of_ble_eq_true rfl⟩, Nat.le_of_ble_eq_true rfl, Nat.le_of_ble_eq_true rfl⟩ ?_
  obtain ⟨m, e, h⟩ := ob h
  refine v_putI C dX9_scan_22 (pf_X9_31 _) e ?_
  refine v_aload_n C dX9_scan_25 rfl ?_
  refine v_iconst (v := 0) C dX9_scan_26 rfl ?_
  obtain ⟨m, e, h⟩ := ob h
  refine v_putI C dX9_scan_27 (pf_X9_34 _) e ?_
  refine v_aload_n C dX9_scan_30 rfl ?_
  refine v_iconst (v := 0) C dX9_scan_31 rfl ?_
  obtain ⟨m, e, h⟩ := ob h
  refine v_putI C dX9_scan_32 (pf_X9_24 _) e ?_
  refine v_aload_n C dX9_scan_35 rfl ?_
  obtain ⟨v, e, h⟩ := ob h
  refine v_getR C dX9_scan_36 gf_X9_37 e ?_
  obtain ⟨b, e0, h⟩ := ob h
  obtain ⟨q, e, h⟩ := ob h
  refine v_callV (As := []) C dX9_scan_39 cf_X9_50 (rm_X9_scan_X4_forget) ⟨rfl, rfl⟩ e0 rfl (Nat.le_of_ble_eq_true rfl) (c_X4_forget _ _ N _ _ q.1 q.2 e) ?_
  refine v_iconst (v := 0) C dX9_scan_42 rfl ?_
  refine v_istore_n C dX9_scan_43 (by decide) ?_
  exact v_sb (pL_X9_scan_44 C F N N _ _ _ h) ⟨rfl, rfl, trivial⟩
set_option maxRecDepth 100000 in
set_option maxHeartbeats 4000000 in
theorem c_X9_scan (l : Launch) (g : CG) (N : Nat) (a0 : Option Nat) (a1 : Option Nat) (a2 : Int32) (μ : Mem) (rv : Unit) (μ9 : Mem) (h : f_X9_scan N a0 a1 a2 μ = some (rv, μ9)) : Ct l yX9_scan mi_X9_scan g [aR a0, aR a1, aI a2] μ none μ9 := ct_of ⟨by decide, rfl, rfl⟩ (Nat.le_of_ble_eq_true rfl) fun x C F => p_X9_scan C F h
def f_X7_clear (N : Nat) (a0 : Option Nat) (μ : Mem) : Option (Unit × Mem) :=
  (mfR μ a0 7 0).bind fun v1 =>
  (f_J7_fill_53178 N v1 ((-1)) μ).bind fun q2 =>
  (mpI q2.2 a0 7 1 0).bind fun μ3 =>
  some ((), μ3)
set_option maxRecDepth 100000 in
set_option maxHeartbeats 4000000 in
theorem p_X7_clear {x : CX} {l : Launch} {g : CG} {rv : Unit} {μ0 μ9 : Mem} (C : Cx x l g mi_X7_clear) (F : Prom x g mi_X7_clear μ0 none μ9) {N : Nat} {a0 : Option Nat} {μ : Mem} (h : f_X7_clear N a0 μ = some (rv, μ9)) : V x g 1 0 0 μ 0 [(0, aR a0)] [] := by
  unfold f_X7_clear at h
  refine v_aload_n C dX7_clear_0 rfl ?_
  obtain ⟨v, e, h⟩ := ob h
  refine v_getR C dX7_clear_1 gf_X7_9 e ?_
  refine v_iconst (v := -1) C dX7_clear_4 rfl ?_
  obtain ⟨q, e, h⟩ := ob h
  refine v_callS (As := [_, _]) C dX7_clear_5 cf_X7_19 (rm_X7_clear_J7_fill_53178) ⟨rfl, rfl⟩ rfl (Nat.le_of_ble_eq_true rfl) (c_J7_fill_53178 _ _ N _ _ _ q.1 q.2 e) ?_
  refine v_aload_n C dX7_clear_8 rfl ?_
  refine v_iconst (v := 0) C dX7_clear_9 rfl ?_
  obtain ⟨m, e, h⟩ := ob h
  refine v_putI C dX7_clear_10 (pf_X7_15 _) e ?_
  exact v_vret C F ⟨rfl, rfl, Nat.le_refl _⟩ dX7_clear_13 h
set_option maxRecDepth 100000 in
set_option maxHeartbeats 4000000 in
theorem c_X7_clear (l : Launch) (g : CG) (N : Nat) (a0 : Option Nat) (μ : Mem) (rv : Unit) (μ9 : Mem) (h : f_X7_clear N a0 μ = some (rv, μ9)) : Ct l yX7_clear mi_X7_clear g [aR a0] μ none μ9 := ct_of ⟨by decide, rfl, rfl⟩ (Nat.le_of_ble_eq_true rfl) fun x C F => p_X7_clear C F h
def f_X0_open (N : Nat) (a0 : Option Nat) (a1 : Option Nat) (a2 : Int32) (μ : Mem) : Option (Unit × Mem) :=
  (mfR μ a0 0 1).bind fun v1 =>
  (mck μ v1 9).bind fun b3 =>
  (f_X9_scan N (some b3) a1 a2 μ).bind fun q2 =>
  (mfR q2.2 a0 0 3).bind fun v4 =>
  (mck q2.2 v4 7).bind fun b6 =>
  (f_X7_clear N (some b6) q2.2).bind fun q5 =>
  (mpI q5.2 a0 0 4 0).bind fun μ7 =>
  (mpI μ7 a0 0 5 ((-1))).bind fun μ8 =>
  some ((), μ8)
set_option maxRecDepth 100000 in
set_option maxHeartbeats 4000000 in
theorem p_X0_open {x : CX} {l : Launch} {g : CG} {rv : Unit} {μ0 μ9 : Mem} (C : Cx x l g mi_X0_open) (F : Prom x g mi_X0_open μ0 none μ9) {N : Nat} {a0 : Option Nat} {a1 : Option Nat} {a2 : Int32} {μ : Mem} (h : f_X0_open N a0 a1 a2 μ = some (rv, μ9)) : V x g 3 0 0 μ 0 [(0, aR a0), (1, aR a1), (2, aI a2)] [] := by
  unfold f_X0_open at h
  refine v_aload_n C dX0_open_0 rfl ?_
  obtain ⟨v, e, h⟩ := ob h
  refine v_getR C dX0_open_1 gf_X0_23 e ?_
  refine v_aload_n C dX0_open_4 rfl ?_
  refine v_iload_n C dX0_open_5 rfl ?_
  obtain ⟨b, e0, h⟩ := ob h
  obtain ⟨q, e, h⟩ := ob h
  refine v_callV (As := [_, _]) C dX0_open_6 cf_X0_60 (rm_X0_open_X9_scan) ⟨rfl, rfl⟩ e0 rfl (Nat.le_of_ble_eq_true rfl) (c_X9_scan _ _ N _ _ _ _ q.1 q.2 e) ?_
  refine v_aload_n C dX0_open_9 rfl ?_
  obtain ⟨v, e, h⟩ := ob h
  refine v_getR C dX0_open_10 gf_X0_34 e ?_
  obtain ⟨b, e0, h⟩ := ob h
  obtain ⟨q, e, h⟩ := ob h
  refine v_callV (As := []) C dX0_open_13 cf_X0_64 (rm_X0_open_X7_clear) ⟨rfl, rfl⟩ e0 rfl (Nat.le_of_ble_eq_true rfl) (c_X7_clear _ _ N _ _ q.1 q.2 e) ?_
  refine v_aload_n C dX0_open_16 rfl ?_
  refine v_iconst (v := 0) C dX0_open_17 rfl ?_
  obtain ⟨m, e, h⟩ := ob h
  refine v_putI C dX0_open_18 (pf_X0_37 _) e ?_
  refine v_aload_n C dX0_open_21 rfl ?_
  refine v_iconst (v := -1) C dX0_open_22 rfl ?_
  obtain ⟨m, e, h⟩ := ob h
  refine v_putI C dX0_open_23 (pf_X0_41 _) e ?_
  exact v_vret C F ⟨rfl, rfl, Nat.le_refl _⟩ dX0_open_26 h
set_option maxRecDepth 100000 in
set_option maxHeartbeats 4000000 in
theorem c_X0_open (l : Launch) (g : CG) (N : Nat) (a0 : Option Nat) (a1 : Option Nat) (a2 : Int32) (μ : Mem) (rv : Unit) (μ9 : Mem) (h : f_X0_open N a0 a1 a2 μ = some (rv, μ9)) : Ct l yX0_open mi_X0_open g [aR a0, aR a1, aI a2] μ none μ9 := ct_of ⟨by decide, rfl, rfl⟩ (Nat.le_of_ble_eq_true rfl) fun x C F => p_X0_open C F h
def f_X0_kindAt_15 (N : Nat) (μ : Mem) : Option (Int32 × Mem) :=
  some (0, μ)
def f_X0_kindAt_74 (N : Nat) (s0 : Int32) (μ : Mem) : Option (Int32 × Mem) :=
  some (s0, μ)
def f_X0_kindAt_62 (N : Nat) (a2 : Int32) (s0 : Int32) (μ : Mem) : Option (Int32 × Mem) :=
  if ¬ s0 = (((-1)) : Int32) then
    f_X0_kindAt_74 N a2 μ
  else
    f_X0_kindAt_74 N 6 μ
def f_X0_kindAt (N : Nat) (a0 : Option Nat) (a1 : Int32) (μ : Mem) : Option (Int32 × Mem) :=
  if a1 < 0 then
    f_X0_kindAt_15 N μ
  else
    (mfR μ a0 0 1).bind fun v1 =>
    (mfI μ v1 9 5).bind fun v2 =>
    if a1 < v2 then
      (mfR μ a0 0 1).bind fun v3 =>
      (mfR μ v3 9 1).bind fun v4 =>
      (maI μ 0 v4 a1).bind fun v5 =>
      if v5 = (2 : Int32) then
        (mfI μ a0 0 8).bind fun v6 =>
        if v6 = 0 then
          (mfR μ a0 0 1).bind fun v7 =>
          (mfR μ v7 9 3).bind fun v8 =>
          (maI μ 0 v8 a1).bind fun v9 =>
          f_X0_kindAt_62 N v5 v9 μ
        else
          (mfR μ a0 0 1).bind fun v10 =>
          (mfR μ v10 9 4).bind fun v11 =>
          (maI μ 0 v11 a1).bind fun v12 =>
          f_X0_kindAt_62 N v5 v12 μ
      else
        some (v5, μ)
    else
      f_X0_kindAt_15 N μ
set_option maxRecDepth 100000 in
set_option maxHeartbeats 4000000 in
theorem p_X0_kindAt_15 {x : CX} {l : Launch} {g : CG} {rv : Int32} {μ0 μ9 : Mem} (C : Cx x l g mi_X0_kindAt) (F : Prom x g mi_X0_kindAt μ0 (some (aI rv)) μ9) {N : Nat} {μ : Mem} (h : f_X0_kindAt_15 N μ = some (rv, μ9)) : V x g 4 0 0 μ 15 [] [] := by
  unfold f_X0_kindAt_15 at h
  refine v_iconst (v := 0) C dX0_kindAt_15 rfl ?_
  exact v_iret C F ⟨rfl, rfl, Nat.le_refl _⟩ dX0_kindAt_16 h
set_option maxRecDepth 100000 in
set_option maxHeartbeats 4000000 in
theorem p_X0_kindAt_74 {x : CX} {l : Launch} {g : CG} {rv : Int32} {μ0 μ9 : Mem} (C : Cx x l g mi_X0_kindAt) (F : Prom x g mi_X0_kindAt μ0 (some (aI rv)) μ9) {N : Nat} {s0 : Int32} {μ : Mem} (h : f_X0_kindAt_74 N s0 μ = some (rv, μ9)) : V x g 4 0 0 μ 74 [] [aI s0] := by
  unfold f_X0_kindAt_74 at h
  exact v_iret C F ⟨rfl, rfl, Nat.le_refl _⟩ dX0_kindAt_74 h
set_option maxRecDepth 100000 in
set_option maxHeartbeats 4000000 in
theorem p_X0_kindAt_62 {x : CX} {l : Launch} {g : CG} {rv : Int32} {μ0 μ9 : Mem} (C : Cx x l g mi_X0_kindAt) (F : Prom x g mi_X0_kindAt μ0 (some (aI rv)) μ9) {N : Nat} {a2 : Int32} {s0 : Int32} {μ : Mem} (h : f_X0_kindAt_62 N a2 s0 μ = some (rv, μ9)) : V x g 4 0 0 μ 62 [(2, aI a2)] [aI s0] := by
  unfold f_X0_kindAt_62 at h
  refine v_istore_n C dX0_kindAt_62 (by decide) ?_
  refine v_iload_n C dX0_kindAt_63 rfl ?_
  refine v_iconst (v := -1) C dX0_kindAt_64 rfl ?_
  refine v_icmp_ne (tgt := 73) C dX0_kindAt_65 (by decide) (fun c => ?_) (fun c => ?_)
  · replace h := ifT h c
    refine v_iload_n C dX0_kindAt_73 rfl ?_
    exact v_sb (p_X0_kindAt_74 C F h) trivial
  · replace h := ifF h c
    refine v_bipush (v := 6) C dX0_kindAt_68 rfl ?_
    refine v_goto (tgt := 74) C dX0_kindAt_70 (by decide) ?_
    exact v_sb (p_X0_kindAt_74 C F h) trivial
set_option maxRecDepth 100000 in
set_option maxHeartbeats 4000000 in
theorem p_X0_kindAt {x : CX} {l : Launch} {g : CG} {rv : Int32} {μ0 μ9 : Mem} (C : Cx x l g mi_X0_kindAt) (F : Prom x g mi_X0_kindAt μ0 (some (aI rv)) μ9) {N : Nat} {a0 : Option Nat} {a1 : Int32} {μ : Mem} (h : f_X0_kindAt N a0 a1 μ = some (rv, μ9)) : V x g 4 0 0 μ 0 [(0, aR a0), (1, aI a1)] [] := by
  unfold f_X0_kindAt at h
  refine v_iload_n C dX0_kindAt_0 rfl ?_
  refine v_if_lt (tgt := 15) C dX0_kindAt_1 (by decide) (fun c => ?_) (fun c => ?_)
  · replace h := ifT h c
    exact v_sb (p_X0_kindAt_15 C F h) trivial
  · replace h := ifF h c
    refine v_iload_n C dX0_kindAt_4 rfl ?_
    refine v_aload_n C dX0_kindAt_5 rfl ?_
    obtain ⟨v, e, h⟩ := ob h
    refine v_getR C dX0_kindAt_6 gf_X0_23 e ?_
    obtain ⟨v, e, h⟩ := ob h
    refine v_getI C dX0_kindAt_9 gf_X0_70 e ?_
    refine v_icmp_lt (tgt := 17) C dX0_kindAt_12 (by decide) (fun c => ?_) (fun c => ?_)
    · replace h := ifT h c
      refine v_aload_n C dX0_kindAt_17 rfl ?_
      obtain ⟨v, e, h⟩ := ob h
      refine v_getR C dX0_kindAt_18 gf_X0_23 e ?_
      obtain ⟨v, e, h⟩ := ob h
      refine v_getR C dX0_kindAt_21 gf_X0_91 e ?_
      refine v_iload_n C dX0_kindAt_24 rfl ?_
      obtain ⟨v, e, h⟩ := ob h
      refine v_iaload C dX0_kindAt_25 e ?_
      refine v_istore_n C dX0_kindAt_26 (by decide) ?_
      refine v_iload_n C dX0_kindAt_27 rfl ?_
      refine v_iconst (v := 2) C dX0_kindAt_28 rfl ?_
      refine v_icmp_eq (tgt := 34) C dX0_kindAt_29 (by decide) (fun c => ?_) (fun c => ?_)
      · replace h := ifT h c
        refine v_aload_n C dX0_kindAt_34 rfl ?_
        obtain ⟨v, e, h⟩ := ob h
        refine v_getI C dX0_kindAt_35 gf_X0_51 e ?_
        refine v_if_eq (tgt := 53) C dX0_kindAt_38 (by decide) (fun c => ?_) (fun c => ?_)
        · replace h := ifT h c
          refine v_aload_n C dX0_kindAt_53 rfl ?_
          obtain ⟨v, e, h⟩ := ob h
          refine v_getR C dX0_kindAt_54 gf_X0_23 e ?_
          obtain ⟨v, e, h⟩ := ob h
          refine v_getR C dX0_kindAt_57 gf_X0_97 e ?_
          refine v_iload_n C dX0_kindAt_60 rfl ?_
          obtain ⟨v, e, h⟩ := ob h
          refine v_iaload C dX0_kindAt_61 e ?_
          exact v_sb (p_X0_kindAt_62 C F h) ⟨rfl, trivial⟩
        · replace h := ifF h c
          refine v_aload_n C dX0_kindAt_41 rfl ?_
          obtain ⟨v, e, h⟩ := ob h
          refine v_getR C dX0_kindAt_42 gf_X0_23 e ?_
          obtain ⟨v, e, h⟩ := ob h
          refine v_getR C dX0_kindAt_45 gf_X0_94 e ?_
          refine v_iload_n C dX0_kindAt_48 rfl ?_
          obtain ⟨v, e, h⟩ := ob h
          refine v_iaload C dX0_kindAt_49 e ?_
          refine v_goto (tgt := 62) C dX0_kindAt_50 (by decide) ?_
          exact v_sb (p_X0_kindAt_62 C F h) ⟨rfl, trivial⟩
      · replace h := ifF h c
        refine v_iload_n C dX0_kindAt_32 rfl ?_
        exact v_iret C F ⟨rfl, rfl, Nat.le_refl _⟩ dX0_kindAt_33 h
    · replace h := ifF h c
      exact v_sb (p_X0_kindAt_15 C F h) trivial
set_option maxRecDepth 100000 in
set_option maxHeartbeats 4000000 in
theorem c_X0_kindAt (l : Launch) (g : CG) (N : Nat) (a0 : Option Nat) (a1 : Int32) (μ : Mem) (rv : Int32) (μ9 : Mem) (h : f_X0_kindAt N a0 a1 μ = some (rv, μ9)) : Ct l yX0_kindAt mi_X0_kindAt g [aR a0, aI a1] μ (some (aI rv)) μ9 := ct_of ⟨by decide, rfl, rfl⟩ (Nat.le_of_ble_eq_true rfl) fun x C F => p_X0_kindAt C F h
def f_X9_valueOf_22 (N : Nat) (s0 : Int32) (μ : Mem) : Option (Int32 × Mem) :=
  some (s0, μ)
def f_X9_valueOf_12 (N : Nat) (μ : Mem) : Option (Int32 × Mem) :=
  f_X9_valueOf_22 N ((-1)) μ
def f_X9_valueOf (N : Nat) (a0 : Option Nat) (a1 : Int32) (μ : Mem) : Option (Int32 × Mem) :=
  if a1 < 0 then
    f_X9_valueOf_12 N μ
  else
    (mfI μ a0 9 5).bind fun v1 =>
    if a1 < v1 then
      (mfR μ a0 9 3).bind fun v2 =>
      (maI μ 0 v2 a1).bind fun v3 =>
      f_X9_valueOf_22 N v3 μ
    else
      f_X9_valueOf_12 N μ
set_option maxRecDepth 100000 in
set_option maxHeartbeats 4000000 in
theorem p_X9_valueOf_22 {x : CX} {l : Launch} {g : CG} {rv : Int32} {μ0 μ9 : Mem} (C : Cx x l g mi_X9_valueOf) (F : Prom x g mi_X9_valueOf μ0 (some (aI rv)) μ9) {N : Nat} {s0 : Int32} {μ : Mem} (h : f_X9_valueOf_22 N s0 μ = some (rv, μ9)) : V x g 2 0 0 μ 22 [] [aI s0] := by
  unfold f_X9_valueOf_22 at h
  exact v_iret C F ⟨rfl, rfl, Nat.le_refl _⟩ dX9_valueOf_22 h
set_option maxRecDepth 100000 in
set_option maxHeartbeats 4000000 in
theorem p_X9_valueOf_12 {x : CX} {l : Launch} {g : CG} {rv : Int32} {μ0 μ9 : Mem} (C : Cx x l g mi_X9_valueOf) (F : Prom x g mi_X9_valueOf μ0 (some (aI rv)) μ9) {N : Nat} {μ : Mem} (h : f_X9_valueOf_12 N μ = some (rv, μ9)) : V x g 2 0 0 μ 12 [] [] := by
  unfold f_X9_valueOf_12 at h
  refine v_iconst (v := -1) C dX9_valueOf_12 rfl ?_
  refine v_goto (tgt := 22) C dX9_valueOf_13 (by decide) ?_
  exact v_sb (p_X9_valueOf_22 C F h) trivial
set_option maxRecDepth 100000 in
set_option maxHeartbeats 4000000 in
theorem p_X9_valueOf {x : CX} {l : Launch} {g : CG} {rv : Int32} {μ0 μ9 : Mem} (C : Cx x l g mi_X9_valueOf) (F : Prom x g mi_X9_valueOf μ0 (some (aI rv)) μ9) {N : Nat} {a0 : Option Nat} {a1 : Int32} {μ : Mem} (h : f_X9_valueOf N a0 a1 μ = some (rv, μ9)) : V x g 2 0 0 μ 0 [(0, aR a0), (1, aI a1)] [] := by
  unfold f_X9_valueOf at h
  refine v_iload_n C dX9_valueOf_0 rfl ?_
  refine v_if_lt (tgt := 12) C dX9_valueOf_1 (by decide) (fun c => ?_) (fun c => ?_)
  · replace h := ifT h c
    exact v_sb (p_X9_valueOf_12 C F h) trivial
  · replace h := ifF h c
    refine v_iload_n C dX9_valueOf_4 rfl ?_
    refine v_aload_n C dX9_valueOf_5 rfl ?_
    obtain ⟨v, e, h⟩ := ob h
    refine v_getI C dX9_valueOf_6 gf_X9_24 e ?_
    refine v_icmp_lt (tgt := 16) C dX9_valueOf_9 (by decide) (fun c => ?_) (fun c => ?_)
    · replace h := ifT h c
      refine v_aload_n C dX9_valueOf_16 rfl ?_
      obtain ⟨v, e, h⟩ := ob h
      refine v_getR C dX9_valueOf_17 gf_X9_18 e ?_
      refine v_iload_n C dX9_valueOf_20 rfl ?_
      obtain ⟨v, e, h⟩ := ob h
      refine v_iaload C dX9_valueOf_21 e ?_
      exact v_sb (p_X9_valueOf_22 C F h) trivial
    · replace h := ifF h c
      exact v_sb (p_X9_valueOf_12 C F h) trivial
set_option maxRecDepth 100000 in
set_option maxHeartbeats 4000000 in
theorem c_X9_valueOf (l : Launch) (g : CG) (N : Nat) (a0 : Option Nat) (a1 : Int32) (μ : Mem) (rv : Int32) (μ9 : Mem) (h : f_X9_valueOf N a0 a1 μ = some (rv, μ9)) : Ct l yX9_valueOf mi_X9_valueOf g [aR a0, aI a1] μ (some (aI rv)) μ9 := ct_of ⟨by decide, rfl, rfl⟩ (Nat.le_of_ble_eq_true rfl) fun x C F => p_X9_valueOf C F h
def f_X4_tellingOf_22 (N : Nat) (s0 : Int32) (μ : Mem) : Option (Int32 × Mem) :=
  some (s0, μ)
def f_X4_tellingOf_12 (N : Nat) (μ : Mem) : Option (Int32 × Mem) :=
  f_X4_tellingOf_22 N 0 μ
def f_X4_tellingOf (N : Nat) (a0 : Option Nat) (a1 : Int32) (μ : Mem) : Option (Int32 × Mem) :=
  if a1 < 0 then
    f_X4_tellingOf_12 N μ
  else
    (mfI μ a0 4 3).bind fun v1 =>
    if a1 < v1 then
      (mfR μ a0 4 2).bind fun v2 =>
      (maI μ 0 v2 a1).bind fun v3 =>
      f_X4_tellingOf_22 N v3 μ
    else
      f_X4_tellingOf_12 N μ
set_option maxRecDepth 100000 in
set_option maxHeartbeats 4000000 in
theorem p_X4_tellingOf_22 {x : CX} {l : Launch} {g : CG} {rv : Int32} {μ0 μ9 : Mem} (C : Cx x l g mi_X4_tellingOf) (F : Prom x g mi_X4_tellingOf μ0 (some (aI rv)) μ9) {N : Nat} {s0 : Int32} {μ : Mem} (h : f_X4_tellingOf_22 N s0 μ = some (rv, μ9)) : V x g 2 0 0 μ 22 [] [aI s0] := by
  unfold f_X4_tellingOf_22 at h
  exact v_iret C F ⟨rfl, rfl, Nat.le_refl _⟩ dX4_tellingOf_22 h
set_option maxRecDepth 100000 in
set_option maxHeartbeats 4000000 in
theorem p_X4_tellingOf_12 {x : CX} {l : Launch} {g : CG} {rv : Int32} {μ0 μ9 : Mem} (C : Cx x l g mi_X4_tellingOf) (F : Prom x g mi_X4_tellingOf μ0 (some (aI rv)) μ9) {N : Nat} {μ : Mem} (h : f_X4_tellingOf_12 N μ = some (rv, μ9)) : V x g 2 0 0 μ 12 [] [] := by
  unfold f_X4_tellingOf_12 at h
  refine v_iconst (v := 0) C dX4_tellingOf_12 rfl ?_
  refine v_goto (tgt := 22) C dX4_tellingOf_13 (by decide) ?_
  exact v_sb (p_X4_tellingOf_22 C F h) trivial
set_option maxRecDepth 100000 in
set_option maxHeartbeats 4000000 in
theorem p_X4_tellingOf {x : CX} {l : Launch} {g : CG} {rv : Int32} {μ0 μ9 : Mem} (C : Cx x l g mi_X4_tellingOf) (F : Prom x g mi_X4_tellingOf μ0 (some (aI rv)) μ9) {N : Nat} {a0 : Option Nat} {a1 : Int32} {μ : Mem} (h : f_X4_tellingOf N a0 a1 μ = some (rv, μ9)) : V x g 2 0 0 μ 0 [(0, aR a0), (1, aI a1)] [] := by
  unfold f_X4_tellingOf at h
  refine v_iload_n C dX4_tellingOf_0 rfl ?_
  refine v_if_lt (tgt := 12) C dX4_tellingOf_1 (by decide) (fun c => ?_) (fun c => ?_)
  · replace h := ifT h c
    exact v_sb (p_X4_tellingOf_12 C F h) trivial
  · replace h := ifF h c
    refine v_iload_n C dX4_tellingOf_4 rfl ?_
    refine v_aload_n C dX4_tellingOf_5 rfl ?_
    obtain ⟨v, e, h⟩ := ob h
    refine v_getI C dX4_tellingOf_6 gf_X4_25 e ?_
    refine v_icmp_lt (tgt := 16) C dX4_tellingOf_9 (by decide) (fun c => ?_) (fun c => ?_)
    · replace h := ifT h c
      refine v_aload_n C dX4_tellingOf_16 rfl ?_
      obtain ⟨v, e, h⟩ := ob h
      refine v_getR C dX4_tellingOf_17 gf_X4_22 e ?_
      refine v_iload_n C dX4_tellingOf_20 rfl ?_
      obtain ⟨v, e, h⟩ := ob h
      refine v_iaload C dX4_tellingOf_21 e ?_
      exact v_sb (p_X4_tellingOf_22 C F h) trivial
    · replace h := ifF h c
      exact v_sb (p_X4_tellingOf_12 C F h) trivial
set_option maxRecDepth 100000 in
set_option maxHeartbeats 4000000 in
theorem c_X4_tellingOf (l : Launch) (g : CG) (N : Nat) (a0 : Option Nat) (a1 : Int32) (μ : Mem) (rv : Int32) (μ9 : Mem) (h : f_X4_tellingOf N a0 a1 μ = some (rv, μ9)) : Ct l yX4_tellingOf mi_X4_tellingOf g [aR a0, aI a1] μ (some (aI rv)) μ9 := ct_of ⟨by decide, rfl, rfl⟩ (Nat.le_of_ble_eq_true rfl) fun x C F => p_X4_tellingOf C F h
