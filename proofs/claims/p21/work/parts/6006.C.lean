/-! LAYER 1: X0.refer, X0.passReference, X0.refuse, X0.passWord, X0.passStatement, X0.passEnd, X0.passOver, X0.close, X11.assemble, X11.fault (by program) -/
def f_X0_refer_14 (N : Nat) (μ : Mem) : Option (Int32 × Mem) :=
  some (0, μ)
def f_X0_refer_39 (N : Nat) (a1 : Int32) (a2 : Int32) (μ : Mem) : Option (Int32 × Mem) :=
  (f_X0_inPage N a2 μ).bind fun q1 =>
  some (a1 ||| q1.1, q1.2)
def f_X0_refer (N : Nat) (a0 : Option Nat) (a1 : Int32) (a2 : Int32) (a3 : Int32) (μ : Mem) : Option (Int32 × Mem) :=
  (mfI μ a0 0 4).bind fun v1 =>
  if ¬ v1 = 0 then
    f_X0_refer_14 N μ
  else
    (mfI μ a0 0 6).bind fun v2 =>
    if ¬ v2 = 0 then
      if a2 < (128 : Int32) then
        f_X0_refer_39 N a1 a2 μ
      else
        (mfI μ a0 0 10).bind fun v3 =>
        if ¬ (a2 &&& 3968) = (v3 &&& 3968) then
          if (a1 &&& 256) = 0 then
            (mfI μ a0 0 10).bind fun v4 =>
            (mck μ a0 0).bind fun b6 =>
            (f_X0_literalFor N (some b6) (v4 &&& 3968) a2 a3 μ).bind fun q5 =>
            (f_X0_inPage N q5.1 q5.2).bind fun q7 =>
            some ((a1 ||| 256) ||| q7.1, q7.2)
          else
            (mck μ a0 0).bind fun b9 =>
            (f_X0_report N (some b9) 7 a3 μ).bind fun q8 =>
            some (0, q8.2)
        else
          f_X0_refer_39 N a1 a2 μ
    else
      f_X0_refer_14 N μ
set_option maxRecDepth 100000 in
set_option maxHeartbeats 4000000 in
theorem p_X0_refer_14 {x : CX} {l : Launch} {g : CG} {rv : Int32} {μ0 μ9 : Mem} (C : Cx x l g mi_X0_refer) (F : Prom x g mi_X0_refer μ0 (some (aI rv)) μ9) {N : Nat} {μ : Mem} (h : f_X0_refer_14 N μ = some (rv, μ9)) : V x g 4 0 0 μ 14 [] [] := by
  unfold f_X0_refer_14 at h
  refine v_iconst (v := 0) C dX0_refer_14 rfl ?_
  exact v_iret C F ⟨rfl, rfl, Nat.le_refl _⟩ dX0_refer_15 h
set_option maxRecDepth 100000 in
set_option maxHeartbeats 4000000 in
theorem p_X0_refer_39 {x : CX} {l : Launch} {g : CG} {rv : Int32} {μ0 μ9 : Mem} (C : Cx x l g mi_X0_refer) (F : Prom x g mi_X0_refer μ0 (some (aI rv)) μ9) {N : Nat} {a1 : Int32} {a2 : Int32} {μ : Mem} (h : f_X0_refer_39 N a1 a2 μ = some (rv, μ9)) : V x g 4 0 0 μ 39 [(1, aI a1), (2, aI a2)] [] := by
  unfold f_X0_refer_39 at h
  refine v_iload_n C dX0_refer_39 rfl ?_
  refine v_iload_n C dX0_refer_40 rfl ?_
  obtain ⟨q, e, h⟩ := ob h
  refine v_callS (As := [_]) C dX0_refer_41 cf_X0_226 (rm_X0_refer_X0_inPage) ⟨rfl, rfl⟩ rfl (Nat.le_of_ble_eq_true rfl) (c_X0_inPage _ _ N _ _ q.1 q.2 e) ?_
  refine v_ior C dX0_refer_44 ?_
  exact v_iret C F ⟨rfl, rfl, Nat.le_refl _⟩ dX0_refer_45 h
set_option maxRecDepth 100000 in
set_option maxHeartbeats 4000000 in
theorem p_X0_refer {x : CX} {l : Launch} {g : CG} {rv : Int32} {μ0 μ9 : Mem} (C : Cx x l g mi_X0_refer) (F : Prom x g mi_X0_refer μ0 (some (aI rv)) μ9) {N : Nat} {a0 : Option Nat} {a1 : Int32} {a2 : Int32} {a3 : Int32} {μ : Mem} (h : f_X0_refer N a0 a1 a2 a3 μ = some (rv, μ9)) : V x g 4 0 0 μ 0 [(0, aR a0), (1, aI a1), (2, aI a2), (3, aI a3)] [] := by
  unfold f_X0_refer at h
  refine v_aload_n C dX0_refer_0 rfl ?_
  obtain ⟨v, e, h⟩ := ob h
  refine v_getI C dX0_refer_1 gf_X0_37 e ?_
  refine v_if_ne (tgt := 14) C dX0_refer_4 (by decide) (fun c => ?_) (fun c => ?_)
  · replace h := ifT h c
    exact v_sb (p_X0_refer_14 C F h) trivial
  · replace h := ifF h c
    refine v_aload_n C dX0_refer_7 rfl ?_
    obtain ⟨v, e, h⟩ := ob h
    refine v_getI C dX0_refer_8 gf_X0_44 e ?_
    refine v_if_ne (tgt := 16) C dX0_refer_11 (by decide) (fun c => ?_) (fun c => ?_)
    · replace h := ifT h c
      refine v_iload_n C dX0_refer_16 rfl ?_
      refine v_sipush (v := 128) C dX0_refer_17 rfl ?_
      refine v_icmp_lt (tgt := 39) C dX0_refer_20 (by decide) (fun c => ?_) (fun c => ?_)
      · replace h := ifT h c
        exact v_sb (p_X0_refer_39 C F h) ⟨rfl, rfl, trivial⟩
      · replace h := ifF h c
        refine v_iload_n C dX0_refer_23 rfl ?_
        refine v_sipush (v := 3968) C dX0_refer_24 rfl ?_
        refine v_iand C dX0_refer_27 ?_
        refine v_aload_n C dX0_refer_28 rfl ?_
        obtain ⟨v, e, h⟩ := ob h
        refine v_getI C dX0_refer_29 gf_X0_57 e ?_
        refine v_sipush (v := 3968) C dX0_refer_32 rfl ?_
        refine v_iand C dX0_refer_35 ?_
        refine v_icmp_ne (tgt := 46) C dX0_refer_36 (by decide) (fun c => ?_) (fun c => ?_)
        · replace h := ifT h c
          refine v_iload_n C dX0_refer_46 rfl ?_
          refine v_sipush (v := 256) C dX0_refer_47 rfl ?_
          refine v_iand C dX0_refer_50 ?_
          refine v_if_eq (tgt := 63) C dX0_refer_51 (by decide) (fun c => ?_) (fun c => ?_)
          · replace h := ifT h c
            refine v_iload_n C dX0_refer_63 rfl ?_
            refine v_sipush (v := 256) C dX0_refer_64 rfl ?_
            refine v_ior C dX0_refer_67 ?_
            refine v_aload_n C dX0_refer_68 rfl ?_
            refine v_aload_n C dX0_refer_69 rfl ?_
            obtain ⟨v, e, h⟩ := ob h
            refine v_getI C dX0_refer_70 gf_X0_57 e ?_
            refine v_sipush (v := 3968) C dX0_refer_73 rfl ?_
            refine v_iand C dX0_refer_76 ?_
            refine v_iload_n C dX0_refer_77 rfl ?_
            refine v_iload_n C dX0_refer_78 rfl ?_
            obtain ⟨b, e0, h⟩ := ob h
            obtain ⟨q, e, h⟩ := ob h
            refine v_callV (As := [_, _, _]) C dX0_refer_79 cf_X0_204 (rm_X0_refer_X0_literalFor) ⟨rfl, rfl⟩ e0 rfl (Nat.le_of_ble_eq_true rfl) (c_X0_literalFor _ _ N _ _ _ _ _ q.1 q.2 e) ?_
            obtain ⟨q, e, h⟩ := ob h
            refine v_callS (As := [_]) C dX0_refer_82 cf_X0_226 (rm_X0_refer_X0_inPage) ⟨rfl, rfl⟩ rfl (Nat.le_of_ble_eq_true rfl) (c_X0_inPage _ _ N _ _ q.1 q.2 e) ?_
            refine v_ior C dX0_refer_85 ?_
            exact v_iret C F ⟨rfl, rfl, Nat.le_refl _⟩ dX0_refer_86 h
          · replace h := ifF h c
            refine v_aload_n C dX0_refer_54 rfl ?_
            refine v_bipush (v := 7) C dX0_refer_55 rfl ?_
            refine v_iload_n C dX0_refer_57 rfl ?_
            obtain ⟨b, e0, h⟩ := ob h
            obtain ⟨q, e, h⟩ := ob h
            refine v_callV (As := [_, _]) C dX0_refer_58 cf_X0_87 (rm_X0_refer_X0_report) ⟨rfl, rfl⟩ e0 rfl (Nat.le_of_ble_eq_true rfl) (c_X0_report _ _ N _ _ _ _ q.1 q.2 e) ?_
            refine v_iconst (v := 0) C dX0_refer_61 rfl ?_
            exact v_iret C F ⟨rfl, rfl, Nat.le_refl _⟩ dX0_refer_62 h
        · replace h := ifF h c
          exact v_sb (p_X0_refer_39 C F h) ⟨rfl, rfl, trivial⟩
    · replace h := ifF h c
      exact v_sb (p_X0_refer_14 C F h) trivial
set_option maxRecDepth 100000 in
set_option maxHeartbeats 4000000 in
theorem c_X0_refer (l : Launch) (g : CG) (N : Nat) (a0 : Option Nat) (a1 : Int32) (a2 : Int32) (a3 : Int32) (μ : Mem) (rv : Int32) (μ9 : Mem) (h : f_X0_refer N a0 a1 a2 a3 μ = some (rv, μ9)) : Ct l yX0_refer mi_X0_refer g [aR a0, aI a1, aI a2, aI a3] μ (some (aI rv)) μ9 := ct_of ⟨by decide, rfl, rfl⟩ (Nat.le_of_ble_eq_true rfl) fun x C F => p_X0_refer C F h
def f_X0_passReference_160 (N : Nat) (a0 : Option Nat) (a1 : Int32) (a2 : Int32) (a3 : Int32) (μ : Mem) : Option (Unit × Mem) :=
  (mck μ a0 0).bind fun b2 =>
  (f_X0_refer N (some b2) a1 a3 a2 μ).bind fun q1 =>
  (mck q1.2 a0 0).bind fun b4 =>
  (f_X0_finishWord N (some b4) q1.1 q1.2).bind fun q3 =>
  some ((), q3.2)
def f_X0_passReference_98 (N : Nat) (a0 : Option Nat) (a1 : Int32) (μ : Mem) : Option (Unit × Mem) :=
  (mfI μ a0 0 9).bind fun v1 =>
  (mck μ a0 0).bind fun b3 =>
  (f_X0_beginsPart N (some b3) v1 μ).bind fun q2 =>
  if ¬ q2.1 = 0 then
    (mfI q2.2 a0 0 9).bind fun v4 =>
    (mck q2.2 a0 0).bind fun b6 =>
    (f_X0_readItem N (some b6) q2.2).bind fun q5 =>
    (mfI q5.2 a0 0 4).bind fun v7 =>
    if ¬ v7 = 0 then
      f_X0_passReference_160 N a0 a1 v4 q5.1 q5.2
    else
      (mck q5.2 a0 0).bind fun b9 =>
      (f_X0_kindAt N (some b9) v4 q5.2).bind fun q8 =>
      (f_X0_isLiteralSign N q8.1 q8.2).bind fun q10 =>
      if ¬ q10.1 = 0 then
        f_X0_passReference_160 N a0 a1 v4 q5.1 q10.2
      else
        (mfI q10.2 a0 0 9).bind fun v11 =>
        (mck q10.2 a0 0).bind fun b13 =>
        (f_X0_beginsPart N (some b13) v11 q10.2).bind fun q12 =>
        if q12.1 = 0 then
          f_X0_passReference_160 N a0 a1 v4 q5.1 q12.2
        else
          (mck q12.2 a0 0).bind fun b15 =>
          (f_X0_report N (some b15) 2 v4 q12.2).bind fun q14 =>
          f_X0_passReference_160 N a0 a1 v4 q5.1 q14.2
  else
    (mck q2.2 a0 0).bind fun b17 =>
    (f_X0_finishWord N (some b17) a1 q2.2).bind fun q16 =>
    some ((), q16.2)
def H_X0_passReference_39 (N : Nat) (k39 : (Option Nat) → Int32 → Int32 → Mem → Option (Unit × Mem)) (a0 : Option Nat) (a1 : Int32) (a2 : Int32) (μ : Mem) : Option (Unit × Mem) :=
  (mfR μ a0 0 1).bind fun v1 =>
  (mfI μ v1 9 5).bind fun v2 =>
  if v2 < a2 then
    f_X0_passReference_98 N a0 a1 μ
  else
    (mfI μ a0 0 9).bind fun v3 =>
    (mck μ a0 0).bind fun b5 =>
    (f_X0_isModifierAt N (some b5) v3 μ).bind fun q4 =>
    if q4.1 = 0 then
      f_X0_passReference_98 N a0 a1 q4.2
    else
      (mfR q4.2 a0 0 0).bind fun v6 =>
      (mfR q4.2 a0 0 1).bind fun v7 =>
      (mfI q4.2 a0 0 9).bind fun v8 =>
      (mck q4.2 v7 9).bind fun b10 =>
      (f_X9_valueOf N (some b10) v8 q4.2).bind fun q9 =>
      (mck q9.2 v6 4).bind fun b12 =>
      (f_X4_valueOf N (some b12) q9.1 q9.2).bind fun q11 =>
      (mfI q11.2 a0 0 9).bind fun v13 =>
      (mpI q11.2 a0 0 9 (v13 + 1)).bind fun μ14 =>
      k39 a0 (a1 ||| q11.1) (a2 + 1) μ14
def L_X0_passReference_39 (N : Nat) : Nat → (Option Nat) → Int32 → Int32 → Mem → Option (Unit × Mem)
  | 0 => fun _ _ _ _ => none
  | n + 1 => H_X0_passReference_39 N (L_X0_passReference_39 N n)
def f_X0_passReference (N : Nat) (a0 : Option Nat) (μ : Mem) : Option (Unit × Mem) :=
  (mck μ a0 0).bind fun b2 =>
  (f_X0_mayBeginWord N (some b2) μ).bind fun q1 =>
  if ¬ q1.1 = 0 then
    (mfR q1.2 a0 0 0).bind fun v3 =>
    (mfR q1.2 a0 0 1).bind fun v4 =>
    (mfI q1.2 a0 0 9).bind fun v5 =>
    (mck q1.2 v4 9).bind fun b7 =>
    (f_X9_valueOf N (some b7) v5 q1.2).bind fun q6 =>
    (mck q6.2 v3 4).bind fun b9 =>
    (f_X4_valueOf N (some b9) q6.1 q6.2).bind fun q8 =>
    (mfI q8.2 a0 0 9).bind fun v10 =>
    (mpI q8.2 a0 0 9 (v10 + 1)).bind fun μ11 =>
    L_X0_passReference_39 N N a0 q8.1 0 μ11
  else
    some ((), q1.2)
set_option maxRecDepth 100000 in
set_option maxHeartbeats 4000000 in
theorem p_X0_passReference_160 {x : CX} {l : Launch} {g : CG} {rv : Unit} {μ0 μ9 : Mem} (C : Cx x l g mi_X0_passReference) (F : Prom x g mi_X0_passReference μ0 none μ9) {N : Nat} {a0 : Option Nat} {a1 : Int32} {a2 : Int32} {a3 : Int32} {μ : Mem} (h : f_X0_passReference_160 N a0 a1 a2 a3 μ = some (rv, μ9)) : V x g 4 0 0 μ 160 [(0, aR a0), (1, aI a1), (2, aI a2), (3, aI a3)] [] := by
  unfold f_X0_passReference_160 at h
  refine v_aload_n C dX0_passReference_160 rfl ?_
  refine v_aload_n C dX0_passReference_161 rfl ?_
  refine v_iload_n C dX0_passReference_162 rfl ?_
  refine v_iload_n C dX0_passReference_163 rfl ?_
  refine v_iload_n C dX0_passReference_164 rfl ?_
  obtain ⟨b, e0, h⟩ := ob h
  obtain ⟨q, e, h⟩ := ob h
  refine v_callV (As := [_, _, _]) C dX0_passReference_165 cf_X0_223 (rm_X0_passReference_X0_refer) ⟨rfl, rfl⟩ e0 rfl (Nat.le_of_ble_eq_true rfl) (c_X0_refer _ _ N _ _ _ _ _ q.1 q.2 e) ?_
  obtain ⟨b, e0, h⟩ := ob h
  obtain ⟨q, e, h⟩ := ob h
  refine v_callV (As := [_]) C dX0_passReference_168 cf_X0_217 (rm_X0_passReference_X0_finishWord) ⟨rfl, rfl⟩ e0 rfl (Nat.le_of_ble_eq_true rfl) (c_X0_finishWord _ _ N _ _ _ q.1 q.2 e) ?_
  exact v_vret C F ⟨rfl, rfl, Nat.le_refl _⟩ dX0_passReference_171 h
set_option maxRecDepth 100000 in
set_option maxHeartbeats 4000000 in
theorem p_X0_passReference_98 {x : CX} {l : Launch} {g : CG} {rv : Unit} {μ0 μ9 : Mem} (C : Cx x l g mi_X0_passReference) (F : Prom x g mi_X0_passReference μ0 none μ9) {N : Nat} {a0 : Option Nat} {a1 : Int32} {μ : Mem} (h : f_X0_passReference_98 N a0 a1 μ = some (rv, μ9)) : V x g 4 0 0 μ 98 [(0, aR a0), (1, aI a1)] [] := by
  unfold f_X0_passReference_98 at h
  refine v_aload_n C dX0_passReference_98 rfl ?_
  refine v_aload_n C dX0_passReference_99 rfl ?_
  obtain ⟨v, e, h⟩ := ob h
  refine v_getI C dX0_passReference_100 gf_X0_54 e ?_
  obtain ⟨b, e0, h⟩ := ob h
  obtain ⟨q, e, h⟩ := ob h
  refine v_callV (As := [_]) C dX0_passReference_103 cf_X0_160 (rm_X0_passReference_X0_beginsPart) ⟨rfl, rfl⟩ e0 rfl (Nat.le_of_ble_eq_true rfl) (c_X0_beginsPart _ _ N _ _ _ q.1 q.2 e) ?_
  refine v_if_ne (tgt := 115) C dX0_passReference_106 (by decide) (fun c => ?_) (fun c => ?_)
  · replace h := ifT h c
    refine v_aload_n C dX0_passReference_115 rfl ?_
    obtain ⟨v, e, h⟩ := ob h
    refine v_getI C dX0_passReference_116 gf_X0_54 e ?_
    refine v_istore_n C dX0_passReference_119 (by decide) ?_
    refine v_aload_n C dX0_passReference_120 rfl ?_
    obtain ⟨b, e0, h⟩ := ob h
    obtain ⟨q, e, h⟩ := ob h
    refine v_callV (As := []) C dX0_passReference_121 cf_X0_214 (rm_X0_passReference_X0_readItem) ⟨rfl, rfl⟩ e0 rfl (Nat.le_of_ble_eq_true rfl) (c_X0_readItem _ _ N _ _ q.1 q.2 e) ?_
    refine v_istore_n C dX0_passReference_124 (by decide) ?_
    refine v_aload_n C dX0_passReference_125 rfl ?_
    obtain ⟨v, e, h⟩ := ob h
    refine v_getI C dX0_passReference_126 gf_X0_37 e ?_
    refine v_if_ne (tgt := 160) C dX0_passReference_129 (by decide) (fun c => ?_) (fun c => ?_)
    · replace h := ifT h c
      exact v_sb (p_X0_passReference_160 C F h) ⟨rfl, rfl, rfl, rfl, trivial⟩
    · replace h := ifF h c
      refine v_aload_n C dX0_passReference_132 rfl ?_
      refine v_iload_n C dX0_passReference_133 rfl ?_
      obtain ⟨b, e0, h⟩ := ob h
      obtain ⟨q, e, h⟩ := ob h
      refine v_callV (As := [_]) C dX0_passReference_134 cf_X0_100 (rm_X0_passReference_X0_kindAt) ⟨rfl, rfl⟩ e0 rfl (Nat.le_of_ble_eq_true rfl) (c_X0_kindAt _ _ N _ _ _ q.1 q.2 e) ?_
      obtain ⟨q, e, h⟩ := ob h
      refine v_callS (As := [_]) C dX0_passReference_137 cf_X0_190 (rm_X0_passReference_X0_isLiteralSign) ⟨rfl, rfl⟩ rfl (Nat.le_of_ble_eq_true rfl) (c_X0_isLiteralSign _ _ N _ _ q.1 q.2 e) ?_
      refine v_if_ne (tgt := 160) C dX0_passReference_140 (by decide) (fun c => ?_) (fun c => ?_)
      · replace h := ifT h c
        exact v_sb (p_X0_passReference_160 C F h) ⟨rfl, rfl, rfl, rfl, trivial⟩
      · replace h := ifF h c
        refine v_aload_n C dX0_passReference_143 rfl ?_
        refine v_aload_n C dX0_passReference_144 rfl ?_
        obtain ⟨v, e, h⟩ := ob h
        refine v_getI C dX0_passReference_145 gf_X0_54 e ?_
        obtain ⟨b, e0, h⟩ := ob h
        obtain ⟨q, e, h⟩ := ob h
        refine v_callV (As := [_]) C dX0_passReference_148 cf_X0_160 (rm_X0_passReference_X0_beginsPart) ⟨rfl, rfl⟩ e0 rfl (Nat.le_of_ble_eq_true rfl) (c_X0_beginsPart _ _ N _ _ _ q.1 q.2 e) ?_
        refine v_if_eq (tgt := 160) C dX0_passReference_151 (by decide) (fun c => ?_) (fun c => ?_)
        · replace h := ifT h c
          exact v_sb (p_X0_passReference_160 C F h) ⟨rfl, rfl, rfl, rfl, trivial⟩
        · replace h := ifF h c
          refine v_aload_n C dX0_passReference_154 rfl ?_
          refine v_iconst (v := 2) C dX0_passReference_155 rfl ?_
          refine v_iload_n C dX0_passReference_156 rfl ?_
          obtain ⟨b, e0, h⟩ := ob h
          obtain ⟨q, e, h⟩ := ob h
          refine v_callV (As := [_, _]) C dX0_passReference_157 cf_X0_87 (rm_X0_passReference_X0_report) ⟨rfl, rfl⟩ e0 rfl (Nat.le_of_ble_eq_true rfl) (c_X0_report _ _ N _ _ _ _ q.1 q.2 e) ?_
          exact v_sb (p_X0_passReference_160 C F h) ⟨rfl, rfl, rfl, rfl, trivial⟩
  · replace h := ifF h c
    refine v_aload_n C dX0_passReference_109 rfl ?_
    refine v_iload_n C dX0_passReference_110 rfl ?_
    obtain ⟨b, e0, h⟩ := ob h
    obtain ⟨q, e, h⟩ := ob h
    refine v_callV (As := [_]) C dX0_passReference_111 cf_X0_217 (rm_X0_passReference_X0_finishWord) ⟨rfl, rfl⟩ e0 rfl (Nat.le_of_ble_eq_true rfl) (c_X0_finishWord _ _ N _ _ _ q.1 q.2 e) ?_
    exact v_vret C F ⟨rfl, rfl, Nat.le_refl _⟩ dX0_passReference_114 h
set_option maxRecDepth 100000 in
set_option maxHeartbeats 4000000 in
theorem pH_X0_passReference_39 {x : CX} {l : Launch} {g : CG} {rv : Unit} {μ0 μ9 : Mem} (C : Cx x l g mi_X0_passReference) (F : Prom x g mi_X0_passReference μ0 none μ9) {N : Nat} {k39 : (Option Nat) → Int32 → Int32 → Mem → Option (Unit × Mem)} (hk39 : ∀ (a0 : Option Nat) (a1 : Int32) (a2 : Int32) (μ : Mem), k39 a0 a1 a2 μ = some (rv, μ9) → V x g 4 0 0 μ 39 [(0, aR a0), (1, aI a1), (2, aI a2)] []) {a0 : Option Nat} {a1 : Int32} {a2 : Int32} {μ : Mem} (h : H_X0_passReference_39 N k39 a0 a1 a2 μ = some (rv, μ9)) : V x g 4 0 0 μ 39 [(0, aR a0), (1, aI a1), (2, aI a2)] [] := by
  unfold H_X0_passReference_39 at h
  refine v_iload_n C dX0_passReference_39 rfl ?_
  refine v_aload_n C dX0_passReference_40 rfl ?_
  obtain ⟨v, e, h⟩ := ob h
  refine v_getR C dX0_passReference_41 gf_X0_23 e ?_
  obtain ⟨v, e, h⟩ := ob h
  refine v_getI C dX0_passReference_44 gf_X0_70 e ?_
  refine v_icmp_gt (tgt := 98) C dX0_passReference_47 (by decide) (fun c => ?_) (fun c => ?_)
  · replace h := ifT h c
    exact v_sb (p_X0_passReference_98 C F h) ⟨rfl, rfl, trivial⟩
  · replace h := ifF h c
    refine v_aload_n C dX0_passReference_50 rfl ?_
    refine v_aload_n C dX0_passReference_51 rfl ?_
    obtain ⟨v, e, h⟩ := ob h
    refine v_getI C dX0_passReference_52 gf_X0_54 e ?_
    obtain ⟨b, e0, h⟩ := ob h
    obtain ⟨q, e, h⟩ := ob h
    refine v_callV (As := [_]) C dX0_passReference_55 cf_X0_220 (rm_X0_passReference_X0_isModifierAt) ⟨rfl, rfl⟩ e0 rfl (Nat.le_of_ble_eq_true rfl) (c_X0_isModifierAt _ _ N _ _ _ q.1 q.2 e) ?_
    refine v_if_eq (tgt := 98) C dX0_passReference_58 (by decide) (fun c => ?_) (fun c => ?_)
    · replace h := ifT h c
      exact v_sb (p_X0_passReference_98 C F h) ⟨rfl, rfl, trivial⟩
    · replace h := ifF h c
      refine v_iload_n C dX0_passReference_61 rfl ?_
      refine v_aload_n C dX0_passReference_62 rfl ?_
      obtain ⟨v, e, h⟩ := ob h
      refine v_getR C dX0_passReference_63 gf_X0_12 e ?_
      refine v_aload_n C dX0_passReference_66 rfl ?_
      obtain ⟨v, e, h⟩ := ob h
      refine v_getR C dX0_passReference_67 gf_X0_23 e ?_
      refine v_aload_n C dX0_passReference_70 rfl ?_
      obtain ⟨v, e, h⟩ := ob h
      refine v_getI C dX0_passReference_71 gf_X0_54 e ?_
      obtain ⟨b, e0, h⟩ := ob h
      obtain ⟨q, e, h⟩ := ob h
      refine v_callV (As := [_]) C dX0_passReference_74 cf_X0_108 (rm_X0_passReference_X9_valueOf) ⟨rfl, rfl⟩ e0 rfl (Nat.le_of_ble_eq_true rfl) (c_X9_valueOf _ _ N _ _ _ q.1 q.2 e) ?_
      obtain ⟨b, e0, h⟩ := ob h
      obtain ⟨q, e, h⟩ := ob h
      refine v_callV (As := [_]) C dX0_passReference_77 cf_X0_203 (rm_X0_passReference_X4_valueOf) ⟨rfl, rfl⟩ e0 rfl (Nat.le_of_ble_eq_true rfl) (c_X4_valueOf _ _ N _ _ _ q.1 q.2 e) ?_
      refine v_ior C dX0_passReference_80 ?_
      refine v_istore_n C dX0_passReference_81 (by decide) ?_
      refine v_aload_n C dX0_passReference_82 rfl ?_
      refine v_dup C dX0_passReference_83 rfl ?_
      obtain ⟨v, e, h⟩ := ob h
      refine v_getI C dX0_passReference_84 gf_X0_54 e ?_
      refine v_iconst (v := 1) C dX0_passReference_87 rfl ?_
      refine v_iadd C dX0_passReference_88 ?_
      obtain ⟨m, e, h⟩ := ob h
      refine v_putI C dX0_passReference_89 (pf_X0_54 _) e ?_
      refine v_iinc (w := 1) C dX0_passReference_92 rfl rfl (by decide) ?_
      refine v_goto (tgt := 39) C dX0_passReference_95 (by decide) ?_
      exact v_sb (hk39 _ _ _ _ h) ⟨rfl, rfl, rfl, trivial⟩
set_option maxRecDepth 100000 in
set_option maxHeartbeats 4000000 in
theorem pL_X0_passReference_39 {x : CX} {l : Launch} {g : CG} {rv : Unit} {μ0 μ9 : Mem} (C : Cx x l g mi_X0_passReference) (F : Prom x g mi_X0_passReference μ0 none μ9) (N : Nat) (n : Nat) : ∀ (a0 : Option Nat) (a1 : Int32) (a2 : Int32) (μ : Mem), L_X0_passReference_39 N n a0 a1 a2 μ = some (rv, μ9) → V x g 4 0 0 μ 39 [(0, aR a0), (1, aI a1), (2, aI a2)] [] := by
  induction n with
  | zero => intro a0 a1 a2 μ h; cases h
  | succ n ih => intro a0 a1 a2 μ h; exact pH_X0_passReference_39 C F ih h
set_option maxRecDepth 100000 in
set_option maxHeartbeats 4000000 in
theorem p_X0_passReference {x : CX} {l : Launch} {g : CG} {rv : Unit} {μ0 μ9 : Mem} (C : Cx x l g mi_X0_passReference) (F : Prom x g mi_X0_passReference μ0 none μ9) {N : Nat} {a0 : Option Nat} {μ : Mem} (h : f_X0_passReference N a0 μ = some (rv, μ9)) : V x g 4 0 0 μ 0 [(0, aR a0)] [] := by
  unfold f_X0_passReference at h
  refine v_aload_n C dX0_passReference_0 rfl ?_
  obtain ⟨b, e0, h⟩ := ob h
  obtain ⟨q, e, h⟩ := ob h
  refine v_callV (As := []) C dX0_passReference_1 cf_X0_210 (rm_X0_passReference_X0_mayBeginWord) ⟨rfl, rfl⟩ e0 rfl (Nat.le_of_ble_eq_true rfl) (c_X0_mayBeginWord _ _ N _ _ q.1 q.2 e) ?_
  refine v_if_ne (tgt := 8) C dX0_passReference_4 (by decide) (fun c => ?_) (fun c => ?_)
  · replace h := ifT h c
    refine v_aload_n C dX0_passReference_8 rfl ?_
    obtain ⟨v, e, h⟩ := ob h
    refine v_getR C dX0_passReference_9 gf_X0_12 e ?_
    refine v_aload_n C dX0_passReference_12 rfl ?_
    obtain ⟨v, e, h⟩ := ob h
    refine v_getR C dX0_passReference_13 gf_X0_23 e ?_
    refine v_aload_n C dX0_passReference_16 rfl ?_
    obtain ⟨v, e, h⟩ := ob h
    refine v_getI C dX0_passReference_17 gf_X0_54 e ?_
    obtain ⟨b, e0, h⟩ := ob h
    obtain ⟨q, e, h⟩ := ob h
    refine v_callV (As := [_]) C dX0_passReference_20 cf_X0_108 (rm_X0_passReference_X9_valueOf) ⟨rfl, rfl⟩ e0 rfl (Nat.le_of_ble_eq_true rfl) (c_X9_valueOf _ _ N _ _ _ q.1 q.2 e) ?_
    obtain ⟨b, e0, h⟩ := ob h
    obtain ⟨q, e, h⟩ := ob h
    refine v_callV (As := [_]) C dX0_passReference_23 cf_X0_203 (rm_X0_passReference_X4_valueOf) ⟨rfl, rfl⟩ e0 rfl (Nat.le_of_ble_eq_true rfl) (c_X4_valueOf _ _ N _ _ _ q.1 q.2 e) ?_
    refine v_istore_n C dX0_passReference_26 (by decide) ?_
    refine v_aload_n C dX0_passReference_27 rfl ?_
    refine v_dup C dX0_passReference_28 rfl ?_
    obtain ⟨v, e, h⟩ := ob h
    refine v_getI C dX0_passReference_29 gf_X0_54 e ?_
    refine v_iconst (v := 1) C dX0_passReference_32 rfl ?_
    refine v_iadd C dX0_passReference_33 ?_
    obtain ⟨m, e, h⟩ := ob h
    refine v_putI C dX0_passReference_34 (pf_X0_54 _) e ?_
    refine v_iconst (v := 0) C dX0_passReference_37 rfl ?_
    refine v_istore_n C dX0_passReference_38 (by decide) ?_
    exact v_sb (pL_X0_passReference_39 C F N N _ _ _ _ h) ⟨rfl, rfl, rfl, trivial⟩
  · replace h := ifF h c
    exact v_vret C F ⟨rfl, rfl, Nat.le_refl _⟩ dX0_passReference_7 h
set_option maxRecDepth 100000 in
set_option maxHeartbeats 4000000 in
theorem c_X0_passReference (l : Launch) (g : CG) (N : Nat) (a0 : Option Nat) (μ : Mem) (rv : Unit) (μ9 : Mem) (h : f_X0_passReference N a0 μ = some (rv, μ9)) : Ct l yX0_passReference mi_X0_passReference g [aR a0] μ none μ9 := ct_of ⟨by decide, rfl, rfl⟩ (Nat.le_of_ble_eq_true rfl) fun x C F => p_X0_passReference C F h
def f_X0_refuse_12 (N : Nat) (a0 : Option Nat) (s0 : Option Nat) (s1 : Int32) (μ : Mem) : Option (Unit × Mem) :=
  (mfI μ a0 0 9).bind fun v1 =>
  (mck μ s0 0).bind fun b3 =>
  (f_X0_report N (some b3) s1 v1 μ).bind fun q2 =>
  some ((), q2.2)
def f_X0_refuse (N : Nat) (a0 : Option Nat) (a1 : Int32) (μ : Mem) : Option (Unit × Mem) :=
  if ¬ a1 = (6 : Int32) then
    f_X0_refuse_12 N a0 a0 2 μ
  else
    f_X0_refuse_12 N a0 a0 1 μ
set_option maxRecDepth 100000 in
set_option maxHeartbeats 4000000 in
theorem p_X0_refuse_12 {x : CX} {l : Launch} {g : CG} {rv : Unit} {μ0 μ9 : Mem} (C : Cx x l g mi_X0_refuse) (F : Prom x g mi_X0_refuse μ0 none μ9) {N : Nat} {a0 : Option Nat} {s0 : Option Nat} {s1 : Int32} {μ : Mem} (h : f_X0_refuse_12 N a0 s0 s1 μ = some (rv, μ9)) : V x g 2 0 0 μ 12 [(0, aR a0)] [aI s1, aR s0] := by
  unfold f_X0_refuse_12 at h
  refine v_aload_n C dX0_refuse_12 rfl ?_
  obtain ⟨v, e, h⟩ := ob h
  refine v_getI C dX0_refuse_13 gf_X0_54 e ?_
  obtain ⟨b, e0, h⟩ := ob h
  obtain ⟨q, e, h⟩ := ob h
  refine v_callV (As := [_, _]) C dX0_refuse_16 cf_X0_87 (rm_X0_refuse_X0_report) ⟨rfl, rfl⟩ e0 rfl (Nat.le_of_ble_eq_true rfl) (c_X0_report _ _ N _ _ _ _ q.1 q.2 e) ?_
  exact v_vret C F ⟨rfl, rfl, Nat.le_refl _⟩ dX0_refuse_19 h
set_option maxRecDepth 100000 in
set_option maxHeartbeats 4000000 in
theorem p_X0_refuse {x : CX} {l : Launch} {g : CG} {rv : Unit} {μ0 μ9 : Mem} (C : Cx x l g mi_X0_refuse) (F : Prom x g mi_X0_refuse μ0 none μ9) {N : Nat} {a0 : Option Nat} {a1 : Int32} {μ : Mem} (h : f_X0_refuse N a0 a1 μ = some (rv, μ9)) : V x g 2 0 0 μ 0 [(0, aR a0), (1, aI a1)] [] := by
  unfold f_X0_refuse at h
  refine v_aload_n C dX0_refuse_0 rfl ?_
  refine v_iload_n C dX0_refuse_1 rfl ?_
  refine v_bipush (v := 6) C dX0_refuse_2 rfl ?_
  refine v_icmp_ne (tgt := 11) C dX0_refuse_4 (by decide) (fun c => ?_) (fun c => ?_)
  · replace h := ifT h c
    refine v_iconst (v := 2) C dX0_refuse_11 rfl ?_
    exact v_sb (p_X0_refuse_12 C F h) ⟨rfl, trivial⟩
  · replace h := ifF h c
    refine v_iconst (v := 1) C dX0_refuse_7 rfl ?_
    refine v_goto (tgt := 12) C dX0_refuse_8 (by decide) ?_
    exact v_sb (p_X0_refuse_12 C F h) ⟨rfl, trivial⟩
set_option maxRecDepth 100000 in
set_option maxHeartbeats 4000000 in
theorem c_X0_refuse (l : Launch) (g : CG) (N : Nat) (a0 : Option Nat) (a1 : Int32) (μ : Mem) (rv : Unit) (μ9 : Mem) (h : f_X0_refuse N a0 a1 μ = some (rv, μ9)) : Ct l yX0_refuse mi_X0_refuse g [aR a0, aI a1] μ none μ9 := ct_of ⟨by decide, rfl, rfl⟩ (Nat.le_of_ble_eq_true rfl) fun x C F => p_X0_refuse C F h
def f_X0_passWord_108 (N : Nat) (a0 : Option Nat) (a1 : Int32) (μ : Mem) : Option (Unit × Mem) :=
  (mck μ a0 0).bind fun b2 =>
  (f_X0_finishWord N (some b2) a1 μ).bind fun q1 =>
  some ((), q1.2)
def f_X0_passWord_101 (N : Nat) (k38 : (Option Nat) → Int32 → Int32 → Int32 → Mem → Option (Unit × Mem)) (a0 : Option Nat) (a1 : Int32) (a3 : Int32) (s0 : Int32) (μ : Mem) : Option (Unit × Mem) :=
  k38 a0 a1 s0 (a3 + 1) μ
def f_X0_passWord_100 (N : Nat) (k38 : (Option Nat) → Int32 → Int32 → Int32 → Mem → Option (Unit × Mem)) (a0 : Option Nat) (a1 : Int32) (a3 : Int32) (μ : Mem) : Option (Unit × Mem) :=
  f_X0_passWord_101 N k38 a0 a1 a3 0 μ
def H_X0_passWord_38 (N : Nat) (k38 : (Option Nat) → Int32 → Int32 → Int32 → Mem → Option (Unit × Mem)) (a0 : Option Nat) (a1 : Int32) (a2 : Int32) (a3 : Int32) (μ : Mem) : Option (Unit × Mem) :=
  (mfR μ a0 0 1).bind fun v1 =>
  (mfI μ v1 9 5).bind fun v2 =>
  if v2 < a3 then
    f_X0_passWord_108 N a0 a1 μ
  else
    (mfI μ a0 0 4).bind fun v3 =>
    if ¬ v3 = 0 then
      f_X0_passWord_108 N a0 a1 μ
    else
      if a2 = 0 then
        f_X0_passWord_108 N a0 a1 μ
      else
        (mfI μ a0 0 9).bind fun v4 =>
        (mck μ a0 0).bind fun b6 =>
        (f_X0_kindAt N (some b6) v4 μ).bind fun q5 =>
        (f_X0_isLiteralSign N q5.1 q5.2).bind fun q7 =>
        (mck q7.2 a0 0).bind fun b9 =>
        (f_X0_readItem N (some b9) q7.2).bind fun q8 =>
        if ¬ q7.1 = 0 then
          f_X0_passWord_100 N k38 a0 (a1 ||| q8.1) a3 q8.2
        else
          (mfI q8.2 a0 0 9).bind fun v10 =>
          (mck q8.2 a0 0).bind fun b12 =>
          (f_X0_beginsPart N (some b12) v10 q8.2).bind fun q11 =>
          if q11.1 = 0 then
            f_X0_passWord_100 N k38 a0 (a1 ||| q8.1) a3 q11.2
          else
            f_X0_passWord_101 N k38 a0 (a1 ||| q8.1) a3 1 q11.2
def L_X0_passWord_38 (N : Nat) : Nat → (Option Nat) → Int32 → Int32 → Int32 → Mem → Option (Unit × Mem)
  | 0 => fun _ _ _ _ _ => none
  | n + 1 => H_X0_passWord_38 N (L_X0_passWord_38 N n)
def f_X0_passWord (N : Nat) (a0 : Option Nat) (μ : Mem) : Option (Unit × Mem) :=
  (mfI μ a0 0 9).bind fun v1 =>
  (mck μ a0 0).bind fun b3 =>
  (f_X0_beginsPart N (some b3) v1 μ).bind fun q2 =>
  if ¬ q2.1 = 0 then
    (mck q2.2 a0 0).bind fun b5 =>
    (f_X0_mayBeginWord N (some b5) q2.2).bind fun q4 =>
    if ¬ q4.1 = 0 then
      L_X0_passWord_38 N N a0 0 1 0 q4.2
    else
      some ((), q4.2)
  else
    (mfI q2.2 a0 0 9).bind fun v6 =>
    (mck q2.2 a0 0).bind fun b8 =>
    (f_X0_kindAt N (some b8) v6 q2.2).bind fun q7 =>
    (mck q7.2 a0 0).bind fun b10 =>
    (f_X0_refuse N (some b10) q7.1 q7.2).bind fun q9 =>
    some ((), q9.2)
set_option maxRecDepth 100000 in
set_option maxHeartbeats 4000000 in
theorem p_X0_passWord_108 {x : CX} {l : Launch} {g : CG} {rv : Unit} {μ0 μ9 : Mem} (C : Cx x l g mi_X0_passWord) (F : Prom x g mi_X0_passWord μ0 none μ9) {N : Nat} {a0 : Option Nat} {a1 : Int32} {μ : Mem} (h : f_X0_passWord_108 N a0 a1 μ = some (rv, μ9)) : V x g 5 0 0 μ 108 [(0, aR a0), (1, aI a1)] [] := by
  unfold f_X0_passWord_108 at h
  refine v_aload_n C dX0_passWord_108 rfl ?_
  refine v_iload_n C dX0_passWord_109 rfl ?_
  obtain ⟨b, e0, h⟩ := ob h
  obtain ⟨q, e, h⟩ := ob h
  refine v_callV (As := [_]) C dX0_passWord_110 cf_X0_217 (rm_X0_passWord_X0_finishWord) ⟨rfl, rfl⟩ e0 rfl (Nat.le_of_ble_eq_true rfl) (c_X0_finishWord _ _ N _ _ _ q.1 q.2 e) ?_
  exact v_vret C F ⟨rfl, rfl, Nat.le_refl _⟩ dX0_passWord_113 h
set_option maxRecDepth 100000 in
set_option maxHeartbeats 4000000 in
theorem p_X0_passWord_101 {x : CX} {l : Launch} {g : CG} {rv : Unit} {μ0 μ9 : Mem} (C : Cx x l g mi_X0_passWord) (F : Prom x g mi_X0_passWord μ0 none μ9) {N : Nat} {k38 : (Option Nat) → Int32 → Int32 → Int32 → Mem → Option (Unit × Mem)} (hk38 : ∀ (a0 : Option Nat) (a1 : Int32) (a2 : Int32) (a3 : Int32) (μ : Mem), k38 a0 a1 a2 a3 μ = some (rv, μ9) → V x g 5 0 0 μ 38 [(0, aR a0), (1, aI a1), (2, aI a2), (3, aI a3)] []) {a0 : Option Nat} {a1 : Int32} {a3 : Int32} {s0 : Int32} {μ : Mem} (h : f_X0_passWord_101 N k38 a0 a1 a3 s0 μ = some (rv, μ9)) : V x g 5 0 0 μ 101 [(0, aR a0), (1, aI a1), (3, aI a3)] [aI s0] := by
  unfold f_X0_passWord_101 at h
  refine v_istore_n C dX0_passWord_101 (by decide) ?_
  refine v_iinc (w := 1) C dX0_passWord_102 rfl rfl (by decide) ?_
  refine v_goto (tgt := 38) C dX0_passWord_105 (by decide) ?_
  exact v_sb (hk38 _ _ _ _ _ h) ⟨rfl, rfl, rfl, rfl, trivial⟩
set_option maxRecDepth 100000 in
set_option maxHeartbeats 4000000 in
theorem p_X0_passWord_100 {x : CX} {l : Launch} {g : CG} {rv : Unit} {μ0 μ9 : Mem} (C : Cx x l g mi_X0_passWord) (F : Prom x g mi_X0_passWord μ0 none μ9) {N : Nat} {k38 : (Option Nat) → Int32 → Int32 → Int32 → Mem → Option (Unit × Mem)} (hk38 : ∀ (a0 : Option Nat) (a1 : Int32) (a2 : Int32) (a3 : Int32) (μ : Mem), k38 a0 a1 a2 a3 μ = some (rv, μ9) → V x g 5 0 0 μ 38 [(0, aR a0), (1, aI a1), (2, aI a2), (3, aI a3)] []) {a0 : Option Nat} {a1 : Int32} {a3 : Int32} {μ : Mem} (h : f_X0_passWord_100 N k38 a0 a1 a3 μ = some (rv, μ9)) : V x g 5 0 0 μ 100 [(0, aR a0), (1, aI a1), (3, aI a3)] [] := by
  unfold f_X0_passWord_100 at h
  refine v_iconst (v := 0) C dX0_passWord_100 rfl ?_
  exact v_sb (p_X0_passWord_101 C F hk38 h) ⟨rfl, rfl, rfl, trivial⟩
set_option maxRecDepth 100000 in
set_option maxHeartbeats 4000000 in
theorem pH_X0_passWord_38 {x : CX} {l : Launch} {g : CG} {rv : Unit} {μ0 μ9 : Mem} (C : Cx x l g mi_X0_passWord) (F : Prom x g mi_X0_passWord μ0 none μ9) {N : Nat} {k38 : (Option Nat) → Int32 → Int32 → Int32 → Mem → Option (Unit × Mem)} (hk38 : ∀ (a0 : Option Nat) (a1 : Int32) (a2 : Int32) (a3 : Int32) (μ : Mem), k38 a0 a1 a2 a3 μ = some (rv, μ9) → V x g 5 0 0 μ 38 [(0, aR a0), (1, aI a1), (2, aI a2), (3, aI a3)] []) {a0 : Option Nat} {a1 : Int32} {a2 : Int32} {a3 : Int32} {μ : Mem} (h : H_X0_passWord_38 N k38 a0 a1 a2 a3 μ = some (rv, μ9)) : V x g 5 0 0 μ 38 [(0, aR a0), (1, aI a1), (2, aI a2), (3, aI a3)] [] := by
  unfold H_X0_passWord_38 at h
  refine v_iload_n C dX0_passWord_38 rfl ?_
  refine v_aload_n C dX0_passWord_39 rfl ?_
  obtain ⟨v, e, h⟩ := ob h
  refine v_getR C dX0_passWord_40 gf_X0_23 e ?_
  obtain ⟨v, e, h⟩ := ob h
  refine v_getI C dX0_passWord_43 gf_X0_70 e ?_
  refine v_icmp_gt (tgt := 108) C dX0_passWord_46 (by decide) (fun c => ?_) (fun c => ?_)
  · replace h := ifT h c
    exact v_sb (p_X0_passWord_108 C F h) ⟨rfl, rfl, trivial⟩
  · replace h := ifF h c
    refine v_aload_n C dX0_passWord_49 rfl ?_
    obtain ⟨v, e, h⟩ := ob h
    refine v_getI C dX0_passWord_50 gf_X0_37 e ?_
    refine v_if_ne (tgt := 108) C dX0_passWord_53 (by decide) (fun c => ?_) (fun c => ?_)
    · replace h := ifT h c
      exact v_sb (p_X0_passWord_108 C F h) ⟨rfl, rfl, trivial⟩
    · replace h := ifF h c
      refine v_iload_n C dX0_passWord_56 rfl ?_
      refine v_if_eq (tgt := 108) C dX0_passWord_57 (by decide) (fun c => ?_) (fun c => ?_)
      · replace h := ifT h c
        exact v_sb (p_X0_passWord_108 C F h) ⟨rfl, rfl, trivial⟩
      · replace h := ifF h c
        refine v_aload_n C dX0_passWord_60 rfl ?_
        refine v_aload_n C dX0_passWord_61 rfl ?_
        obtain ⟨v, e, h⟩ := ob h
        refine v_getI C dX0_passWord_62 gf_X0_54 e ?_
        obtain ⟨b, e0, h⟩ := ob h
        obtain ⟨q, e, h⟩ := ob h
        refine v_callV (As := [_]) C dX0_passWord_65 cf_X0_100 (rm_X0_passWord_X0_kindAt) ⟨rfl, rfl⟩ e0 rfl (Nat.le_of_ble_eq_true rfl) (c_X0_kindAt _ _ N _ _ _ q.1 q.2 e) ?_
        obtain ⟨q, e, h⟩ := ob h
        refine v_callS (As := [_]) C dX0_passWord_68 cf_X0_190 (rm_X0_passWord_X0_isLiteralSign) ⟨rfl, rfl⟩ rfl (Nat.le_of_ble_eq_true rfl) (c_X0_isLiteralSign _ _ N _ _ q.1 q.2 e) ?_
        refine v_istore C dX0_passWord_71 (by decide) ?_
        refine v_iload_n C dX0_passWord_73 rfl ?_
        refine v_aload_n C dX0_passWord_74 rfl ?_
        obtain ⟨b, e0, h⟩ := ob h
        obtain ⟨q, e, h⟩ := ob h
        refine v_callV (As := []) C dX0_passWord_75 cf_X0_214 (rm_X0_passWord_X0_readItem) ⟨rfl, rfl⟩ e0 rfl (Nat.le_of_ble_eq_true rfl) (c_X0_readItem _ _ N _ _ q.1 q.2 e) ?_
        refine v_ior C dX0_passWord_78 ?_
        refine v_istore_n C dX0_passWord_79 (by decide) ?_
        refine v_iload C dX0_passWord_80 rfl ?_
        refine v_if_ne (tgt := 100) C dX0_passWord_82 (by decide) (fun c => ?_) (fun c => ?_)
        · replace h := ifT h c
          exact v_sb (p_X0_passWord_100 C F hk38 h) ⟨rfl, rfl, rfl, trivial⟩
        · replace h := ifF h c
          refine v_aload_n C dX0_passWord_85 rfl ?_
          refine v_aload_n C dX0_passWord_86 rfl ?_
          obtain ⟨v, e, h⟩ := ob h
          refine v_getI C dX0_passWord_87 gf_X0_54 e ?_
          obtain ⟨b, e0, h⟩ := ob h
          obtain ⟨q, e, h⟩ := ob h
          refine v_callV (As := [_]) C dX0_passWord_90 cf_X0_160 (rm_X0_passWord_X0_beginsPart) ⟨rfl, rfl⟩ e0 rfl (Nat.le_of_ble_eq_true rfl) (c_X0_beginsPart _ _ N _ _ _ q.1 q.2 e) ?_
          refine v_if_eq (tgt := 100) C dX0_passWord_93 (by decide) (fun c => ?_) (fun c => ?_)
          · replace h := ifT h c
            exact v_sb (p_X0_passWord_100 C F hk38 h) ⟨rfl, rfl, rfl, trivial⟩
          · replace h := ifF h c
            refine v_iconst (v := 1) C dX0_passWord_96 rfl ?_
            refine v_goto (tgt := 101) C dX0_passWord_97 (by decide) ?_
            exact v_sb (p_X0_passWord_101 C F hk38 h) ⟨rfl, rfl, rfl, trivial⟩
set_option maxRecDepth 100000 in
set_option maxHeartbeats 4000000 in
theorem pL_X0_passWord_38 {x : CX} {l : Launch} {g : CG} {rv : Unit} {μ0 μ9 : Mem} (C : Cx x l g mi_X0_passWord) (F : Prom x g mi_X0_passWord μ0 none μ9) (N : Nat) (n : Nat) : ∀ (a0 : Option Nat) (a1 : Int32) (a2 : Int32) (a3 : Int32) (μ : Mem), L_X0_passWord_38 N n a0 a1 a2 a3 μ = some (rv, μ9) → V x g 5 0 0 μ 38 [(0, aR a0), (1, aI a1), (2, aI a2), (3, aI a3)] [] := by
  induction n with
  | zero => intro a0 a1 a2 a3 μ h; cases h
  | succ n ih => intro a0 a1 a2 a3 μ h; exact pH_X0_passWord_38 C F ih h
set_option maxRecDepth 100000 in
set_option maxHeartbeats 4000000 in
theorem p_X0_passWord {x : CX} {l : Launch} {g : CG} {rv : Unit} {μ0 μ9 : Mem} (C : Cx x l g mi_X0_passWord) (F : Prom x g mi_X0_passWord μ0 none μ9) {N : Nat} {a0 : Option Nat} {μ : Mem} (h : f_X0_passWord N a0 μ = some (rv, μ9)) : V x g 5 0 0 μ 0 [(0, aR a0)] [] := by
  unfold f_X0_passWord at h
  refine v_aload_n C dX0_passWord_0 rfl ?_
  refine v_aload_n C dX0_passWord_1 rfl ?_
  obtain ⟨v, e, h⟩ := ob h
  refine v_getI C dX0_passWord_2 gf_X0_54 e ?_
  obtain ⟨b, e0, h⟩ := ob h
  obtain ⟨q, e, h⟩ := ob h
  refine v_callV (As := [_]) C dX0_passWord_5 cf_X0_160 (rm_X0_passWord_X0_beginsPart) ⟨rfl, rfl⟩ e0 rfl (Nat.le_of_ble_eq_true rfl) (c_X0_beginsPart _ _ N _ _ _ q.1 q.2 e) ?_
  refine v_if_ne (tgt := 24) C dX0_passWord_8 (by decide) (fun c => ?_) (fun c => ?_)
  · replace h := ifT h c
    refine v_aload_n C dX0_passWord_24 rfl ?_
    obtain ⟨b, e0, h⟩ := ob h
    obtain ⟨q, e, h⟩ := ob h
    refine v_callV (As := []) C dX0_passWord_25 cf_X0_210 (rm_X0_passWord_X0_mayBeginWord) ⟨rfl, rfl⟩ e0 rfl (Nat.le_of_ble_eq_true rfl) (c_X0_mayBeginWord _ _ N _ _ q.1 q.2 e) ?_
    refine v_if_ne (tgt := 32) C dX0_passWord_28 (by decide) (fun c => ?_) (fun c => ?_)
    · replace h := ifT h c
      refine v_iconst (v := 0) C dX0_passWord_32 rfl ?_
      refine v_istore_n C dX0_passWord_33 (by decide) ?_
      refine v_iconst (v := 1) C dX0_passWord_34 rfl ?_
      refine v_istore_n C dX0_passWord_35 (by decide) ?_
      refine v_iconst (v := 0) C dX0_passWord_36 rfl ?_
      refine v_istore_n C dX0_passWord_37 (by decide) ?_
      exact v_sb (pL_X0_passWord_38 C F N N _ _ _ _ _ h) ⟨rfl, rfl, rfl, rfl, trivial⟩
    · replace h := ifF h c
      exact v_vret C F ⟨rfl, rfl, Nat.le_refl _⟩ dX0_passWord_31 h
  · replace h := ifF h c
    refine v_aload_n C dX0_passWord_11 rfl ?_
    refine v_aload_n C dX0_passWord_12 rfl ?_
    refine v_aload_n C dX0_passWord_13 rfl ?_
    obtain ⟨v, e, h⟩ := ob h
    refine v_getI C dX0_passWord_14 gf_X0_54 e ?_
    obtain ⟨b, e0, h⟩ := ob h
    obtain ⟨q, e, h⟩ := ob h
    refine v_callV (As := [_]) C dX0_passWord_17 cf_X0_100 (rm_X0_passWord_X0_kindAt) ⟨rfl, rfl⟩ e0 rfl (Nat.le_of_ble_eq_true rfl) (c_X0_kindAt _ _ N _ _ _ q.1 q.2 e) ?_
    obtain ⟨b, e0, h⟩ := ob h
    obtain ⟨q, e, h⟩ := ob h
    refine v_callV (As := [_]) C dX0_passWord_20 cf_X0_124 (rm_X0_passWord_X0_refuse) ⟨rfl, rfl⟩ e0 rfl (Nat.le_of_ble_eq_true rfl) (c_X0_refuse _ _ N _ _ _ q.1 q.2 e) ?_
    exact v_vret C F ⟨rfl, rfl, Nat.le_refl _⟩ dX0_passWord_23 h
set_option maxRecDepth 100000 in
set_option maxHeartbeats 4000000 in
theorem c_X0_passWord (l : Launch) (g : CG) (N : Nat) (a0 : Option Nat) (μ : Mem) (rv : Unit) (μ9 : Mem) (h : f_X0_passWord N a0 μ = some (rv, μ9)) : Ct l yX0_passWord mi_X0_passWord g [aR a0] μ none μ9 := ct_of ⟨by decide, rfl, rfl⟩ (Nat.le_of_ble_eq_true rfl) fun x C F => p_X0_passWord C F h
def f_X0_passStatement_23 (N : Nat) (μ : Mem) : Option (Unit × Mem) :=
  some ((), μ)
def f_X0_passStatement_210 (N : Nat) (μ : Mem) : Option (Unit × Mem) :=
  some ((), μ)
def f_X0_passStatement_37 (N : Nat) (a0 : Option Nat) (s0 : Int32) (μ : Mem) : Option (Unit × Mem) :=
  if s0 = 4 then
    (mck μ a0 0).bind fun b2 =>
    (f_X0_passText N (some b2) μ).bind fun q1 =>
    f_X0_passStatement_210 N q1.2
  else
    if s0 = 5 then
      (mfI μ a0 0 9).bind fun v3 =>
      (mck μ a0 0).bind fun b5 =>
      (f_X0_report N (some b5) 1 v3 μ).bind fun q4 =>
      f_X0_passStatement_210 N q4.2
    else
      if s0 = 36 then
        (mpZ μ a0 0 7 1).bind fun μ6 =>
        f_X0_passStatement_210 N μ6
      else
        if s0 = 42 then
          (mck μ a0 0).bind fun b8 =>
          (f_X0_passOrigin N (some b8) μ).bind fun q7 =>
          f_X0_passStatement_210 N q7.2
        else
          if s0 = 256 then
            (mck μ a0 0).bind fun b10 =>
            (f_X0_passEquation N (some b10) μ).bind fun q9 =>
            f_X0_passStatement_210 N q9.2
          else
            if s0 = 257 then
              (mck μ a0 0).bind fun b12 =>
              (f_X0_passReference N (some b12) μ).bind fun q11 =>
              f_X0_passStatement_210 N q11.2
            else
              if s0 = 300 then
                (mck μ a0 0).bind fun b14 =>
                (f_X0_passPage N (some b14) μ).bind fun q13 =>
                f_X0_passStatement_210 N q13.2
              else
                if s0 = 301 then
                  (mck μ a0 0).bind fun b16 =>
                  (f_X0_passRadix N (some b16) 1 μ).bind fun q15 =>
                  f_X0_passStatement_210 N q15.2
                else
                  if s0 = 302 then
                    (mck μ a0 0).bind fun b18 =>
                    (f_X0_passRadix N (some b18) 0 μ).bind fun q17 =>
                    f_X0_passStatement_210 N q17.2
                  else
                    if s0 = 303 then
                      (mck μ a0 0).bind fun b20 =>
                      (f_X0_passZeros N (some b20) μ).bind fun q19 =>
                      f_X0_passStatement_210 N q19.2
                    else
                      (mck μ a0 0).bind fun b22 =>
                      (f_X0_passWord N (some b22) μ).bind fun q21 =>
                      f_X0_passStatement_210 N q21.2
def f_X0_passStatement (N : Nat) (a0 : Option Nat) (μ : Mem) : Option (Unit × Mem) :=
  (mfI μ a0 0 9).bind fun v1 =>
  (mck μ a0 0).bind fun b3 =>
  (f_X0_kindAt N (some b3) v1 μ).bind fun q2 =>
  (mfI q2.2 a0 0 4).bind fun v4 =>
  if ¬ v4 = 0 then
    f_X0_passStatement_23 N q2.2
  else
    (f_X0_isEnd N q2.1 q2.2).bind fun q5 =>
    if q5.1 = 0 then
      if ¬ q2.1 = (1 : Int32) then
        f_X0_passStatement_37 N a0 q2.1 q5.2
      else
        (mck q5.2 a0 0).bind fun b7 =>
        (f_X0_kindOfNamed N (some b7) q5.2).bind fun q6 =>
        f_X0_passStatement_37 N a0 q6.1 q6.2
    else
      f_X0_passStatement_23 N q5.2
set_option maxRecDepth 100000 in
set_option maxHeartbeats 4000000 in
theorem p_X0_passStatement_23 {x : CX} {l : Launch} {g : CG} {rv : Unit} {μ0 μ9 : Mem} (C : Cx x l g mi_X0_passStatement) (F : Prom x g mi_X0_passStatement μ0 none μ9) {N : Nat} {μ : Mem} (h : f_X0_passStatement_23 N μ = some (rv, μ9)) : V x g 2 0 0 μ 23 [] [] := by
  unfold f_X0_passStatement_23 at h
  exact v_vret C F ⟨rfl, rfl, Nat.le_refl _⟩ dX0_passStatement_23 h
set_option maxRecDepth 100000 in
set_option maxHeartbeats 4000000 in
theorem p_X0_passStatement_210 {x : CX} {l : Launch} {g : CG} {rv : Unit} {μ0 μ9 : Mem} (C : Cx x l g mi_X0_passStatement) (F : Prom x g mi_X0_passStatement μ0 none μ9) {N : Nat} {μ : Mem} (h : f_X0_passStatement_210 N μ = some (rv, μ9)) : V x g 2 0 0 μ 210 [] [] := by
  unfold f_X0_passStatement_210 at h
  exact v_vret C F ⟨rfl, rfl, Nat.le_refl _⟩ dX0_passStatement_210 h
set_option maxRecDepth 100000 in
set_option maxHeartbeats 4000000 in
theorem p_X0_passStatement_37 {x : CX} {l : Launch} {g : CG} {rv : Unit} {μ0 μ9 : Mem} (C : Cx x l g mi_X0_passStatement) (F : Prom x g mi_X0_passStatement μ0 none μ9) {N : Nat} {a0 : Option Nat} {s0 : Int32} {μ : Mem} (h : f_X0_passStatement_37 N a0 s0 μ = some (rv, μ9)) : V x g 2 0 0 μ 37 [(0, aR a0)] [aI s0] := by
  unfold f_X0_passStatement_37 at h
  refine v_lookupswitch (dt := 206) (cs := [(4, 180), (5, 187), (36, 128), (42, 136), (256, 143), (257, 199), (300, 150), (301, 157), (302, 165), (303, 173)]) C dX0_passStatement_37 rfl (by decide) (by decide) ?_
  refine v_case (fun c => ?_) (fun c => ?_)
  · replace h := ifT h c
    refine v_aload_n C dX0_passStatement_180 rfl ?_
    obtain ⟨b, e0, h⟩ := ob h
    obtain ⟨q, e, h⟩ := ob h
    refine v_callV (As := []) C dX0_passStatement_181 cf_X0_148 (rm_X0_passStatement_X0_passText) ⟨rfl, rfl⟩ e0 rfl (Nat.le_of_ble_eq_true rfl) (c_X0_passText _ _ N _ _ q.1 q.2 e) ?_
    refine v_goto (tgt := 210) C dX0_passStatement_184 (by decide) ?_
    exact v_sb (p_X0_passStatement_210 C F h) trivial
  · replace h := ifF h c
    refine v_case (fun c => ?_) (fun c => ?_)
    · replace h := ifT h c
      refine v_aload_n C dX0_passStatement_187 rfl ?_
      refine v_iconst (v := 1) C dX0_passStatement_188 rfl ?_
      refine v_aload_n C dX0_passStatement_189 rfl ?_
      obtain ⟨v, e, h⟩ := ob h
      refine v_getI C dX0_passStatement_190 gf_X0_54 e ?_
      obtain ⟨b, e0, h⟩ := ob h
      obtain ⟨q, e, h⟩ := ob h
      refine v_callV (As := [_, _]) C dX0_passStatement_193 cf_X0_87 (rm_X0_passStatement_X0_report) ⟨rfl, rfl⟩ e0 rfl (Nat.le_of_ble_eq_true rfl) (c_X0_report _ _ N _ _ _ _ q.1 q.2 e) ?_
      refine v_goto (tgt := 210) C dX0_passStatement_196 (by decide) ?_
      exact v_sb (p_X0_passStatement_210 C F h) trivial
    · replace h := ifF h c
      refine v_case (fun c => ?_) (fun c => ?_)
      · replace h := ifT h c
        refine v_aload_n C dX0_passStatement_128 rfl ?_
        refine v_iconst (v := 1) C dX0_passStatement_129 rfl ?_
        obtain ⟨m, e, h⟩ := ob h
        refine v_putZ C dX0_passStatement_130 (pf_X0_48 _) e ?_
        refine v_goto (tgt := 210) C dX0_passStatement_133 (by decide) ?_
        exact v_sb (p_X0_passStatement_210 C F h) trivial
      · replace h := ifF h c
        refine v_case (fun c => ?_) (fun c => ?_)
        · replace h := ifT h c
          refine v_aload_n C dX0_passStatement_136 rfl ?_
          obtain ⟨b, e0, h⟩ := ob h
          obtain ⟨q, e, h⟩ := ob h
          refine v_callV (As := []) C dX0_passStatement_137 cf_X0_132 (rm_X0_passStatement_X0_passOrigin) ⟨rfl, rfl⟩ e0 rfl (Nat.le_of_ble_eq_true rfl) (c_X0_passOrigin _ _ N _ _ q.1 q.2 e) ?_
          refine v_goto (tgt := 210) C dX0_passStatement_140 (by decide) ?_
          exact v_sb (p_X0_passStatement_210 C F h) trivial
        · replace h := ifF h c
          refine v_case (fun c => ?_) (fun c => ?_)
          · replace h := ifT h c
            refine v_aload_n C dX0_passStatement_143 rfl ?_
            obtain ⟨b, e0, h⟩ := ob h
            obtain ⟨q, e, h⟩ := ob h
            refine v_callV (As := []) C dX0_passStatement_144 cf_X0_135 (rm_X0_passStatement_X0_passEquation) ⟨rfl, rfl⟩ e0 rfl (Nat.le_of_ble_eq_true rfl) (c_X0_passEquation _ _ N _ _ q.1 q.2 e) ?_
            refine v_goto (tgt := 210) C dX0_passStatement_147 (by decide) ?_
            exact v_sb (p_X0_passStatement_210 C F h) trivial
          · replace h := ifF h c
            refine v_case (fun c => ?_) (fun c => ?_)
            · replace h := ifT h c
              refine v_aload_n C dX0_passStatement_199 rfl ?_
              obtain ⟨b, e0, h⟩ := ob h
              obtain ⟨q, e, h⟩ := ob h
              refine v_callV (As := []) C dX0_passStatement_200 cf_X0_151 (rm_X0_passStatement_X0_passReference) ⟨rfl, rfl⟩ e0 rfl (Nat.le_of_ble_eq_true rfl) (c_X0_passReference _ _ N _ _ q.1 q.2 e) ?_
              refine v_goto (tgt := 210) C dX0_passStatement_203 (by decide) ?_
              exact v_sb (p_X0_passStatement_210 C F h) trivial
            · replace h := ifF h c
              refine v_case (fun c => ?_) (fun c => ?_)
              · replace h := ifT h c
                refine v_aload_n C dX0_passStatement_150 rfl ?_
                obtain ⟨b, e0, h⟩ := ob h
                obtain ⟨q, e, h⟩ := ob h
                refine v_callV (As := []) C dX0_passStatement_151 cf_X0_138 (rm_X0_passStatement_X0_passPage) ⟨rfl, rfl⟩ e0 rfl (Nat.le_of_ble_eq_true rfl) (c_X0_passPage _ _ N _ _ q.1 q.2 e) ?_
                refine v_goto (tgt := 210) C dX0_passStatement_154 (by decide) ?_
                exact v_sb (p_X0_passStatement_210 C F h) trivial
              · replace h := ifF h c
                refine v_case (fun c => ?_) (fun c => ?_)
                · replace h := ifT h c
                  refine v_aload_n C dX0_passStatement_157 rfl ?_
                  refine v_iconst (v := 1) C dX0_passStatement_158 rfl ?_
                  obtain ⟨b, e0, h⟩ := ob h
                  obtain ⟨q, e, h⟩ := ob h
                  refine v_callV (As := [_]) C dX0_passStatement_159 cf_X0_141 (rm_X0_passStatement_X0_passRadix) ⟨rfl, rfl⟩ e0 rfl (Nat.le_of_ble_eq_true rfl) (c_X0_passRadix _ _ N _ _ _ q.1 q.2 e) ?_
                  refine v_goto (tgt := 210) C dX0_passStatement_162 (by decide) ?_
                  exact v_sb (p_X0_passStatement_210 C F h) trivial
                · replace h := ifF h c
                  refine v_case (fun c => ?_) (fun c => ?_)
                  · replace h := ifT h c
                    refine v_aload_n C dX0_passStatement_165 rfl ?_
                    refine v_iconst (v := 0) C dX0_passStatement_166 rfl ?_
                    obtain ⟨b, e0, h⟩ := ob h
                    obtain ⟨q, e, h⟩ := ob h
                    refine v_callV (As := [_]) C dX0_passStatement_167 cf_X0_141 (rm_X0_passStatement_X0_passRadix) ⟨rfl, rfl⟩ e0 rfl (Nat.le_of_ble_eq_true rfl) (c_X0_passRadix _ _ N _ _ _ q.1 q.2 e) ?_
                    refine v_goto (tgt := 210) C dX0_passStatement_170 (by decide) ?_
                    exact v_sb (p_X0_passStatement_210 C F h) trivial
                  · replace h := ifF h c
                    refine v_case (fun c => ?_) (fun c => ?_)
                    · replace h := ifT h c
                      refine v_aload_n C dX0_passStatement_173 rfl ?_
                      obtain ⟨b, e0, h⟩ := ob h
                      obtain ⟨q, e, h⟩ := ob h
                      refine v_callV (As := []) C dX0_passStatement_174 cf_X0_145 (rm_X0_passStatement_X0_passZeros) ⟨rfl, rfl⟩ e0 rfl (Nat.le_of_ble_eq_true rfl) (c_X0_passZeros _ _ N _ _ q.1 q.2 e) ?_
                      refine v_goto (tgt := 210) C dX0_passStatement_177 (by decide) ?_
                      exact v_sb (p_X0_passStatement_210 C F h) trivial
                    · replace h := ifF h c
                      refine v_caseD ?_
                      refine v_aload_n C dX0_passStatement_206 rfl ?_
                      obtain ⟨b, e0, h⟩ := ob h
                      obtain ⟨q, e, h⟩ := ob h
                      refine v_callV (As := []) C dX0_passStatement_207 cf_X0_154 (rm_X0_passStatement_X0_passWord) ⟨rfl, rfl⟩ e0 rfl (Nat.le_of_ble_eq_true rfl) (c_X0_passWord _ _ N _ _ q.1 q.2 e) ?_
                      exact v_sb (p_X0_passStatement_210 C F h) trivial
set_option maxRecDepth 100000 in
set_option maxHeartbeats 4000000 in
theorem p_X0_passStatement {x : CX} {l : Launch} {g : CG} {rv : Unit} {μ0 μ9 : Mem} (C : Cx x l g mi_X0_passStatement) (F : Prom x g mi_X0_passStatement μ0 none μ9) {N : Nat} {a0 : Option Nat} {μ : Mem} (h : f_X0_passStatement N a0 μ = some (rv, μ9)) : V x g 2 0 0 μ 0 [(0, aR a0)] [] := by
  unfold f_X0_passStatement at h
  refine v_aload_n C dX0_passStatement_0 rfl ?_
  refine v_aload_n C dX0_passStatement_1 rfl ?_
  obtain ⟨v, e, h⟩ := ob h
  refine v_getI C dX0_passStatement_2 gf_X0_54 e ?_
  obtain ⟨b, e0, h⟩ := ob h
  obtain ⟨q, e, h⟩ := ob h
  refine v_callV (As := [_]) C dX0_passStatement_5 cf_X0_100 (rm_X0_passStatement_X0_kindAt) ⟨rfl, rfl⟩ e0 rfl (Nat.le_of_ble_eq_true rfl) (c_X0_kindAt _ _ N _ _ _ q.1 q.2 e) ?_
  refine v_istore_n C dX0_passStatement_8 (by decide) ?_
  refine v_aload_n C dX0_passStatement_9 rfl ?_
  obtain ⟨v, e, h⟩ := ob h
  refine v_getI C dX0_passStatement_10 gf_X0_37 e ?_
  refine v_if_ne (tgt := 23) C dX0_passStatement_13 (by decide) (fun c => ?_) (fun c => ?_)
  · replace h := ifT h c
    exact v_sb (p_X0_passStatement_23 C F h) trivial
  · replace h := ifF h c
    refine v_iload_n C dX0_passStatement_16 rfl ?_
    obtain ⟨q, e, h⟩ := ob h
    refine v_callS (As := [_]) C dX0_passStatement_17 cf_X0_121 (rm_X0_passStatement_X0_isEnd) ⟨rfl, rfl⟩ rfl (Nat.le_of_ble_eq_true rfl) (c_X0_isEnd _ _ N _ _ q.1 q.2 e) ?_
    refine v_if_eq (tgt := 24) C dX0_passStatement_20 (by decide) (fun c => ?_) (fun c => ?_)
    · replace h := ifT h c
      refine v_iload_n C dX0_passStatement_24 rfl ?_
      refine v_iconst (v := 1) C dX0_passStatement_25 rfl ?_
      refine v_icmp_ne (tgt := 36) C dX0_passStatement_26 (by decide) (fun c => ?_) (fun c => ?_)
      · replace h := ifT h c
        refine v_iload_n C dX0_passStatement_36 rfl ?_
        exact v_sb (p_X0_passStatement_37 C F h) ⟨rfl, trivial⟩
      · replace h := ifF h c
        refine v_aload_n C dX0_passStatement_29 rfl ?_
        obtain ⟨b, e0, h⟩ := ob h
        obtain ⟨q, e, h⟩ := ob h
        refine v_callV (As := []) C dX0_passStatement_30 cf_X0_128 (rm_X0_passStatement_X0_kindOfNamed) ⟨rfl, rfl⟩ e0 rfl (Nat.le_of_ble_eq_true rfl) (c_X0_kindOfNamed _ _ N _ _ q.1 q.2 e) ?_
        refine v_goto (tgt := 37) C dX0_passStatement_33 (by decide) ?_
        exact v_sb (p_X0_passStatement_37 C F h) ⟨rfl, trivial⟩
    · replace h := ifF h c
      exact v_sb (p_X0_passStatement_23 C F h) trivial
set_option maxRecDepth 100000 in
set_option maxHeartbeats 4000000 in
theorem c_X0_passStatement (l : Launch) (g : CG) (N : Nat) (a0 : Option Nat) (μ : Mem) (rv : Unit) (μ9 : Mem) (h : f_X0_passStatement N a0 μ = some (rv, μ9)) : Ct l yX0_passStatement mi_X0_passStatement g [aR a0] μ none μ9 := ct_of ⟨by decide, rfl, rfl⟩ (Nat.le_of_ble_eq_true rfl) fun x C F => p_X0_passStatement C F h
def f_X0_passEnd_14 (N : Nat) (μ : Mem) : Option (Unit × Mem) :=
  some ((), μ)
def f_X0_passEnd_61 (N : Nat) (μ : Mem) : Option (Unit × Mem) :=
  some ((), μ)
def f_X0_passEnd (N : Nat) (a0 : Option Nat) (μ : Mem) : Option (Unit × Mem) :=
  (mfI μ a0 0 4).bind fun v1 =>
  if ¬ v1 = 0 then
    f_X0_passEnd_14 N μ
  else
    (mfI μ a0 0 7).bind fun v2 =>
    if v2 = 0 then
      (mfI μ a0 0 9).bind fun v3 =>
      (mck μ a0 0).bind fun b5 =>
      (f_X0_kindAt N (some b5) v3 μ).bind fun q4 =>
      (f_X0_isEnd N q4.1 q4.2).bind fun q6 =>
      if ¬ q6.1 = 0 then
        if ¬ q4.1 = 0 then
          (mfI q6.2 a0 0 9).bind fun v7 =>
          (mpI q6.2 a0 0 9 (v7 + 1)).bind fun μ8 =>
          f_X0_passEnd_61 N μ8
        else
          (mpZ q6.2 a0 0 7 1).bind fun μ9 =>
          f_X0_passEnd_61 N μ9
      else
        (mck q6.2 a0 0).bind fun b11 =>
        (f_X0_refuse N (some b11) q4.1 q6.2).bind fun q10 =>
        f_X0_passEnd_61 N q10.2
    else
      f_X0_passEnd_14 N μ
set_option maxRecDepth 100000 in
set_option maxHeartbeats 4000000 in
theorem p_X0_passEnd_14 {x : CX} {l : Launch} {g : CG} {rv : Unit} {μ0 μ9 : Mem} (C : Cx x l g mi_X0_passEnd) (F : Prom x g mi_X0_passEnd μ0 none μ9) {N : Nat} {μ : Mem} (h : f_X0_passEnd_14 N μ = some (rv, μ9)) : V x g 2 0 0 μ 14 [] [] := by
  unfold f_X0_passEnd_14 at h
  exact v_vret C F ⟨rfl, rfl, Nat.le_refl _⟩ dX0_passEnd_14 h
set_option maxRecDepth 100000 in
set_option maxHeartbeats 4000000 in
theorem p_X0_passEnd_61 {x : CX} {l : Launch} {g : CG} {rv : Unit} {μ0 μ9 : Mem} (C : Cx x l g mi_X0_passEnd) (F : Prom x g mi_X0_passEnd μ0 none μ9) {N : Nat} {μ : Mem} (h : f_X0_passEnd_61 N μ = some (rv, μ9)) : V x g 2 0 0 μ 61 [] [] := by
  unfold f_X0_passEnd_61 at h
  exact v_vret C F ⟨rfl, rfl, Nat.le_refl _⟩ dX0_passEnd_61 h
set_option maxRecDepth 100000 in
set_option maxHeartbeats 4000000 in
theorem p_X0_passEnd {x : CX} {l : Launch} {g : CG} {rv : Unit} {μ0 μ9 : Mem} (C : Cx x l g mi_X0_passEnd) (F : Prom x g mi_X0_passEnd μ0 none μ9) {N : Nat} {a0 : Option Nat} {μ : Mem} (h : f_X0_passEnd N a0 μ = some (rv, μ9)) : V x g 2 0 0 μ 0 [(0, aR a0)] [] := by
  unfold f_X0_passEnd at h
  refine v_aload_n C dX0_passEnd_0 rfl ?_
  obtain ⟨v, e, h⟩ := ob h
  refine v_getI C dX0_passEnd_1 gf_X0_37 e ?_
  refine v_if_ne (tgt := 14) C dX0_passEnd_4 (by decide) (fun c => ?_) (fun c => ?_)
  · replace h := ifT h c
    exact v_sb (p_X0_passEnd_14 C F h) trivial
  · replace h := ifF h c
    refine v_aload_n C dX0_passEnd_7 rfl ?_
    obtain ⟨v, e, h⟩ := ob h
    refine v_getI C dX0_passEnd_8 gf_X0_48 e ?_
    refine v_if_eq (tgt := 15) C dX0_passEnd_11 (by decide) (fun c => ?_) (fun c => ?_)
    · replace h := ifT h c
      refine v_aload_n C dX0_passEnd_15 rfl ?_
      refine v_aload_n C dX0_passEnd_16 rfl ?_
      obtain ⟨v, e, h⟩ := ob h
      refine v_getI C dX0_passEnd_17 gf_X0_54 e ?_
      obtain ⟨b, e0, h⟩ := ob h
      obtain ⟨q, e, h⟩ := ob h
      refine v_callV (As := [_]) C dX0_passEnd_20 cf_X0_100 (rm_X0_passEnd_X0_kindAt) ⟨rfl, rfl⟩ e0 rfl (Nat.le_of_ble_eq_true rfl) (c_X0_kindAt _ _ N _ _ _ q.1 q.2 e) ?_
      refine v_istore_n C dX0_passEnd_23 (by decide) ?_
      refine v_iload_n C dX0_passEnd_24 rfl ?_
      obtain ⟨q, e, h⟩ := ob h
      refine v_callS (As := [_]) C dX0_passEnd_25 cf_X0_121 (rm_X0_passEnd_X0_isEnd) ⟨rfl, rfl⟩ rfl (Nat.le_of_ble_eq_true rfl) (c_X0_isEnd _ _ N _ _ q.1 q.2 e) ?_
      refine v_if_ne (tgt := 39) C dX0_passEnd_28 (by decide) (fun c => ?_) (fun c => ?_)
      · replace h := ifT h c
        refine v_iload_n C dX0_passEnd_39 rfl ?_
        refine v_if_ne (tgt := 51) C dX0_passEnd_40 (by decide) (fun c => ?_) (fun c => ?_)
        · replace h := ifT h c
          refine v_aload_n C dX0_passEnd_51 rfl ?_
          refine v_dup C dX0_passEnd_52 rfl ?_
          obtain ⟨v, e, h⟩ := ob h
          refine v_getI C dX0_passEnd_53 gf_X0_54 e ?_
          refine v_iconst (v := 1) C dX0_passEnd_56 rfl ?_
          refine v_iadd C dX0_passEnd_57 ?_
          obtain ⟨m, e, h⟩ := ob h
          refine v_putI C dX0_passEnd_58 (pf_X0_54 _) e ?_
          exact v_sb (p_X0_passEnd_61 C F h) trivial
        · replace h := ifF h c
          refine v_aload_n C dX0_passEnd_43 rfl ?_
          refine v_iconst (v := 1) C dX0_passEnd_44 rfl ?_
          obtain ⟨m, e, h⟩ := ob h
          refine v_putZ C dX0_passEnd_45 (pf_X0_48 _) e ?_
          refine v_goto (tgt := 61) C dX0_passEnd_48 (by decide) ?_
          exact v_sb (p_X0_passEnd_61 C F h) trivial
      · replace h := ifF h c
        refine v_aload_n C dX0_passEnd_31 rfl ?_
        refine v_iload_n C dX0_passEnd_32 rfl ?_
        obtain ⟨b, e0, h⟩ := ob h
        obtain ⟨q, e, h⟩ := ob h
        refine v_callV (As := [_]) C dX0_passEnd_33 cf_X0_124 (rm_X0_passEnd_X0_refuse) ⟨rfl, rfl⟩ e0 rfl (Nat.le_of_ble_eq_true rfl) (c_X0_refuse _ _ N _ _ _ q.1 q.2 e) ?_
        refine v_goto (tgt := 61) C dX0_passEnd_36 (by decide) ?_
        exact v_sb (p_X0_passEnd_61 C F h) trivial
    · replace h := ifF h c
      exact v_sb (p_X0_passEnd_14 C F h) trivial
set_option maxRecDepth 100000 in
set_option maxHeartbeats 4000000 in
theorem c_X0_passEnd (l : Launch) (g : CG) (N : Nat) (a0 : Option Nat) (μ : Mem) (rv : Unit) (μ9 : Mem) (h : f_X0_passEnd N a0 μ = some (rv, μ9)) : Ct l yX0_passEnd mi_X0_passEnd g [aR a0] μ none μ9 := ct_of ⟨by decide, rfl, rfl⟩ (Nat.le_of_ble_eq_true rfl) fun x C F => p_X0_passEnd C F h
def f_X0_passOver_72 (N : Nat) (μ : Mem) : Option (Unit × Mem) :=
  some ((), μ)
def H_X0_passOver_29 (N : Nat) (k29 : (Option Nat) → Int32 → Mem → Option (Unit × Mem)) (a0 : Option Nat) (a2 : Int32) (μ : Mem) : Option (Unit × Mem) :=
  (mfR μ a0 0 1).bind fun v1 =>
  (mfI μ v1 9 5).bind fun v2 =>
  if v2 < a2 then
    f_X0_passOver_72 N μ
  else
    (mfI μ a0 0 7).bind fun v3 =>
    if ¬ v3 = 0 then
      f_X0_passOver_72 N μ
    else
      (mfI μ a0 0 4).bind fun v4 =>
      if ¬ v4 = 0 then
        f_X0_passOver_72 N μ
      else
        (mck μ a0 0).bind fun b6 =>
        (f_X0_passLabels N (some b6) μ).bind fun q5 =>
        (mck q5.2 a0 0).bind fun b8 =>
        (f_X0_passStatement N (some b8) q5.2).bind fun q7 =>
        (mck q7.2 a0 0).bind fun b10 =>
        (f_X0_passEnd N (some b10) q7.2).bind fun q9 =>
        k29 a0 (a2 + 1) q9.2
def L_X0_passOver_29 (N : Nat) : Nat → (Option Nat) → Int32 → Mem → Option (Unit × Mem)
  | 0 => fun _ _ _ => none
  | n + 1 => H_X0_passOver_29 N (L_X0_passOver_29 N n)
def f_X0_passOver (N : Nat) (a0 : Option Nat) (a1 : Int32) (μ : Mem) : Option (Unit × Mem) :=
  (mpZ μ a0 0 6 a1).bind fun μ1 =>
  (mpZ μ1 a0 0 7 0).bind fun μ2 =>
  (mpZ μ2 a0 0 8 0).bind fun μ3 =>
  (mpI μ3 a0 0 9 0).bind fun μ4 =>
  (mpI μ4 a0 0 10 128).bind fun μ5 =>
  L_X0_passOver_29 N N a0 0 μ5
set_option maxRecDepth 100000 in
set_option maxHeartbeats 4000000 in
theorem p_X0_passOver_72 {x : CX} {l : Launch} {g : CG} {rv : Unit} {μ0 μ9 : Mem} (C : Cx x l g mi_X0_passOver) (F : Prom x g mi_X0_passOver μ0 none μ9) {N : Nat} {μ : Mem} (h : f_X0_passOver_72 N μ = some (rv, μ9)) : V x g 3 0 0 μ 72 [] [] := by
  unfold f_X0_passOver_72 at h
  exact v_vret C F ⟨rfl, rfl, Nat.le_refl _⟩ dX0_passOver_72 h
set_option maxRecDepth 100000 in
set_option maxHeartbeats 4000000 in
theorem pH_X0_passOver_29 {x : CX} {l : Launch} {g : CG} {rv : Unit} {μ0 μ9 : Mem} (C : Cx x l g mi_X0_passOver) (F : Prom x g mi_X0_passOver μ0 none μ9) {N : Nat} {k29 : (Option Nat) → Int32 → Mem → Option (Unit × Mem)} (hk29 : ∀ (a0 : Option Nat) (a2 : Int32) (μ : Mem), k29 a0 a2 μ = some (rv, μ9) → V x g 3 0 0 μ 29 [(0, aR a0), (2, aI a2)] []) {a0 : Option Nat} {a2 : Int32} {μ : Mem} (h : H_X0_passOver_29 N k29 a0 a2 μ = some (rv, μ9)) : V x g 3 0 0 μ 29 [(0, aR a0), (2, aI a2)] [] := by
  unfold H_X0_passOver_29 at h
  refine v_iload_n C dX0_passOver_29 rfl ?_
  refine v_aload_n C dX0_passOver_30 rfl ?_
  obtain ⟨v, e, h⟩ := ob h
  refine v_getR C dX0_passOver_31 gf_X0_23 e ?_
  obtain ⟨v, e, h⟩ := ob h
  refine v_getI C dX0_passOver_34 gf_X0_70 e ?_
  refine v_icmp_gt (tgt := 72) C dX0_passOver_37 (by decide) (fun c => ?_) (fun c => ?_)
  · replace h := ifT h c
    exact v_sb (p_X0_passOver_72 C F h) trivial
  · replace h := ifF h c
    refine v_aload_n C dX0_passOver_40 rfl ?_
    obtain ⟨v, e, h⟩ := ob h
    refine v_getI C dX0_passOver_41 gf_X0_48 e ?_
    refine v_if_ne (tgt := 72) C dX0_passOver_44 (by decide) (fun c => ?_) (fun c => ?_)
    · replace h := ifT h c
      exact v_sb (p_X0_passOver_72 C F h) trivial
    · replace h := ifF h c
      refine v_aload_n C dX0_passOver_47 rfl ?_
      obtain ⟨v, e, h⟩ := ob h
      refine v_getI C dX0_passOver_48 gf_X0_37 e ?_
      refine v_if_ne (tgt := 72) C dX0_passOver_51 (by decide) (fun c => ?_) (fun c => ?_)
      · replace h := ifT h c
        exact v_sb (p_X0_passOver_72 C F h) trivial
      · replace h := ifF h c
        refine v_aload_n C dX0_passOver_54 rfl ?_
        obtain ⟨b, e0, h⟩ := ob h
        obtain ⟨q, e, h⟩ := ob h
        refine v_callV (As := []) C dX0_passOver_55 cf_X0_71 (rm_X0_passOver_X0_passLabels) ⟨rfl, rfl⟩ e0 rfl (Nat.le_of_ble_eq_true rfl) (c_X0_passLabels _ _ N _ _ q.1 q.2 e) ?_
        refine v_aload_n C dX0_passOver_58 rfl ?_
        obtain ⟨b, e0, h⟩ := ob h
        obtain ⟨q, e, h⟩ := ob h
        refine v_callV (As := []) C dX0_passOver_59 cf_X0_74 (rm_X0_passOver_X0_passStatement) ⟨rfl, rfl⟩ e0 rfl (Nat.le_of_ble_eq_true rfl) (c_X0_passStatement _ _ N _ _ q.1 q.2 e) ?_
        refine v_aload_n C dX0_passOver_62 rfl ?_
        obtain ⟨b, e0, h⟩ := ob h
        obtain ⟨q, e, h⟩ := ob h
        refine v_callV (As := []) C dX0_passOver_63 cf_X0_77 (rm_X0_passOver_X0_passEnd) ⟨rfl, rfl⟩ e0 rfl (Nat.le_of_ble_eq_true rfl) (c_X0_passEnd _ _ N _ _ q.1 q.2 e) ?_
        refine v_iinc (w := 1) C dX0_passOver_66 rfl rfl (by decide) ?_
        refine v_goto (tgt := 29) C dX0_passOver_69 (by decide) ?_
        exact v_sb (hk29 _ _ _ h) ⟨rfl, rfl, trivial⟩
set_option maxRecDepth 100000 in
set_option maxHeartbeats 4000000 in
theorem pL_X0_passOver_29 {x : CX} {l : Launch} {g : CG} {rv : Unit} {μ0 μ9 : Mem} (C : Cx x l g mi_X0_passOver) (F : Prom x g mi_X0_passOver μ0 none μ9) (N : Nat) (n : Nat) : ∀ (a0 : Option Nat) (a2 : Int32) (μ : Mem), L_X0_passOver_29 N n a0 a2 μ = some (rv, μ9) → V x g 3 0 0 μ 29 [(0, aR a0), (2, aI a2)] [] := by
  induction n with
  | zero => intro a0 a2 μ h; cases h
  | succ n ih => intro a0 a2 μ h; exact pH_X0_passOver_29 C F ih h
set_option maxRecDepth 100000 in
set_option maxHeartbeats 4000000 in
theorem p_X0_passOver {x : CX} {l : Launch} {g : CG} {rv : Unit} {μ0 μ9 : Mem} (C : Cx x l g mi_X0_passOver) (F : Prom x g mi_X0_passOver μ0 none μ9) {N : Nat} {a0 : Option Nat} {a1 : Int32} {μ : Mem} (h : f_X0_passOver N a0 a1 μ = some (rv, μ9)) : V x g 3 0 0 μ 0 [(0, aR a0), (1, aI a1)] [] := by
  unfold f_X0_passOver at h
  refine v_aload_n C dX0_passOver_0 rfl ?_
  refine v_iload_n C dX0_passOver_1 rfl ?_
  obtain ⟨m, e, h⟩ := ob h
  refine v_putZ C dX0_passOver_2 (pf_X0_44 _) e ?_
  refine v_aload_n C dX0_passOver_5 rfl ?_
  refine v_iconst (v := 0) C dX0_passOver_6 rfl ?_
  obtain ⟨m, e, h⟩ := ob h
  refine v_putZ C dX0_passOver_7 (pf_X0_48 _) e ?_
  refine v_aload_n C dX0_passOver_10 rfl ?_
  refine v_iconst (v := 0) C dX0_passOver_11 rfl ?_
  obtain ⟨m, e, h⟩ := ob h
  refine v_putZ C dX0_passOver_12 (pf_X0_51 _) e ?_
  refine v_aload_n C dX0_passOver_15 rfl ?_
  refine v_iconst (v := 0) C dX0_passOver_16 rfl ?_
  obtain ⟨m, e, h⟩ := ob h
  refine v_putI C dX0_passOver_17 (pf_X0_54 _) e ?_
  refine v_aload_n C dX0_passOver_20 rfl ?_
  refine v_sipush (v := 128) C dX0_passOver_21 rfl ?_
  obtain ⟨m, e, h⟩ := ob h
  refine v_putI C dX0_passOver_24 (pf_X0_57 _) e ?_
  refine v_iconst (v := 0) C dX0_passOver_27 rfl ?_
  refine v_istore_n C dX0_passOver_28 (by decide) ?_
  exact v_sb (pL_X0_passOver_29 C F N N _ _ _ h) ⟨rfl, rfl, trivial⟩
set_option maxRecDepth 100000 in
set_option maxHeartbeats 4000000 in
theorem c_X0_passOver (l : Launch) (g : CG) (N : Nat) (a0 : Option Nat) (a1 : Int32) (μ : Mem) (rv : Unit) (μ9 : Mem) (h : f_X0_passOver N a0 a1 μ = some (rv, μ9)) : Ct l yX0_passOver mi_X0_passOver g [aR a0, aI a1] μ none μ9 := ct_of ⟨by decide, rfl, rfl⟩ (Nat.le_of_ble_eq_true rfl) fun x C F => p_X0_passOver C F h
def f_X0_close (N : Nat) (a0 : Option Nat) (μ : Mem) : Option (Int32 × Mem) :=
  (mfI μ a0 0 4).bind fun v1 =>
  if v1 = 0 then
    (mfR μ a0 0 2).bind fun v2 =>
    (mfR μ a0 0 3).bind fun v3 =>
    (mpR μ a0 0 2 v3).bind fun μ4 =>
    (mpR μ4 a0 0 3 v2).bind fun μ5 =>
    (mfR μ5 a0 0 2).bind fun v6 =>
    (mfI μ5 v6 7 1).bind fun v7 =>
    some (v7, μ5)
  else
    some ((-1), μ)
set_option maxRecDepth 100000 in
set_option maxHeartbeats 4000000 in
theorem p_X0_close {x : CX} {l : Launch} {g : CG} {rv : Int32} {μ0 μ9 : Mem} (C : Cx x l g mi_X0_close) (F : Prom x g mi_X0_close μ0 (some (aI rv)) μ9) {N : Nat} {a0 : Option Nat} {μ : Mem} (h : f_X0_close N a0 μ = some (rv, μ9)) : V x g 2 0 0 μ 0 [(0, aR a0)] [] := by
  unfold f_X0_close at h
  refine v_aload_n C dX0_close_0 rfl ?_
  obtain ⟨v, e, h⟩ := ob h
  refine v_getI C dX0_close_1 gf_X0_37 e ?_
  refine v_if_eq (tgt := 9) C dX0_close_4 (by decide) (fun c => ?_) (fun c => ?_)
  · replace h := ifT h c
    refine v_aload_n C dX0_close_9 rfl ?_
    obtain ⟨v, e, h⟩ := ob h
    refine v_getR C dX0_close_10 gf_X0_30 e ?_
    refine v_astore_n C dX0_close_13 (by decide) ?_
    refine v_aload_n C dX0_close_14 rfl ?_
    refine v_aload_n C dX0_close_15 rfl ?_
    obtain ⟨v, e, h⟩ := ob h
    refine v_getR C dX0_close_16 gf_X0_34 e ?_
    obtain ⟨m, e, h⟩ := ob h
    refine v_putR C dX0_close_19 (pf_X0_30 _) rfl e ?_
    refine v_aload_n C dX0_close_22 rfl ?_
    refine v_aload_n C dX0_close_23 rfl ?_
    obtain ⟨m, e, h⟩ := ob h
    refine v_putR C dX0_close_24 (pf_X0_34 _) rfl e ?_
    refine v_aload_n C dX0_close_27 rfl ?_
    obtain ⟨v, e, h⟩ := ob h
    refine v_getR C dX0_close_28 gf_X0_30 e ?_
    obtain ⟨v, e, h⟩ := ob h
    refine v_getI C dX0_close_31 gf_X0_67 e ?_
    exact v_iret C F ⟨rfl, rfl, Nat.le_refl _⟩ dX0_close_34 h
  · replace h := ifF h c
    refine v_iconst (v := -1) C dX0_close_7 rfl ?_
    exact v_iret C F ⟨rfl, rfl, Nat.le_refl _⟩ dX0_close_8 h
set_option maxRecDepth 100000 in
set_option maxHeartbeats 4000000 in
theorem c_X0_close (l : Launch) (g : CG) (N : Nat) (a0 : Option Nat) (μ : Mem) (rv : Int32) (μ9 : Mem) (h : f_X0_close N a0 μ = some (rv, μ9)) : Ct l yX0_close mi_X0_close g [aR a0] μ (some (aI rv)) μ9 := ct_of ⟨by decide, rfl, rfl⟩ (Nat.le_of_ble_eq_true rfl) fun x C F => p_X0_close C F h
def f_X11_assemble (N : Nat) (a0 : Option Nat) (μ : Mem) : Option (Int32 × Mem) :=
  (mfR μ a0 11 2).bind fun v1 =>
  (mfR μ a0 11 0).bind fun v2 =>
  (mfI μ a0 11 1).bind fun v3 =>
  (mck μ v1 0).bind fun b5 =>
  (f_X0_open N (some b5) v2 v3 μ).bind fun q4 =>
  (mpI q4.2 a0 11 1 0).bind fun μ6 =>
  (mfR μ6 a0 11 2).bind fun v7 =>
  (mck μ6 v7 0).bind fun b9 =>
  (f_X0_passOver N (some b9) 0 μ6).bind fun q8 =>
  (mfR q8.2 a0 11 2).bind fun v10 =>
  (mck q8.2 v10 0).bind fun b12 =>
  (f_X0_passOver N (some b12) 1 q8.2).bind fun q11 =>
  (mfR q11.2 a0 11 2).bind fun v13 =>
  (mck q11.2 v13 0).bind fun b15 =>
  (f_X0_close N (some b15) q11.2).bind fun q14 =>
  some (q14.1, q14.2)
set_option maxRecDepth 100000 in
set_option maxHeartbeats 4000000 in
theorem p_X11_assemble {x : CX} {l : Launch} {g : CG} {rv : Int32} {μ0 μ9 : Mem} (C : Cx x l g mi_X11_assemble) (F : Prom x g mi_X11_assemble μ0 (some (aI rv)) μ9) {N : Nat} {a0 : Option Nat} {μ : Mem} (h : f_X11_assemble N a0 μ = some (rv, μ9)) : V x g 1 0 0 μ 0 [(0, aR a0)] [] := by
  unfold f_X11_assemble at h
  refine v_aload_n C dX11_assemble_0 rfl ?_
  obtain ⟨v, e, h⟩ := ob h
  refine v_getR C dX11_assemble_1 gf_X11_20 e ?_
  refine v_aload_n C dX11_assemble_4 rfl ?_
  obtain ⟨v, e, h⟩ := ob h
  refine v_getR C dX11_assemble_5 gf_X11_9 e ?_
  refine v_aload_n C dX11_assemble_8 rfl ?_
  obtain ⟨v, e, h⟩ := ob h
  refine v_getI C dX11_assemble_9 gf_X11_13 e ?_
  obtain ⟨b, e0, h⟩ := ob h
  obtain ⟨q, e, h⟩ := ob h
  refine v_callV (As := [_, _]) C dX11_assemble_12 cf_X11_49 (rm_X11_assemble_X0_open) ⟨rfl, rfl⟩ e0 rfl (Nat.le_of_ble_eq_true rfl) (c_X0_open _ _ N _ _ _ _ q.1 q.2 e) ?_
  refine v_aload_n C dX11_assemble_15 rfl ?_
  refine v_iconst (v := 0) C dX11_assemble_16 rfl ?_
  obtain ⟨m, e, h⟩ := ob h
  refine v_putI C dX11_assemble_17 (pf_X11_13 _) e ?_
  refine v_aload_n C dX11_assemble_20 rfl ?_
  obtain ⟨v, e, h⟩ := ob h
  refine v_getR C dX11_assemble_21 gf_X11_20 e ?_
  refine v_iconst (v := 0) C dX11_assemble_24 rfl ?_
  obtain ⟨b, e0, h⟩ := ob h
  obtain ⟨q, e, h⟩ := ob h
  refine v_callV (As := [_]) C dX11_assemble_25 cf_X11_53 (rm_X11_assemble_X0_passOver) ⟨rfl, rfl⟩ e0 rfl (Nat.le_of_ble_eq_true rfl) (c_X0_passOver _ _ N _ _ _ q.1 q.2 e) ?_
  refine v_aload_n C dX11_assemble_28 rfl ?_
  obtain ⟨v, e, h⟩ := ob h
  refine v_getR C dX11_assemble_29 gf_X11_20 e ?_
  refine v_iconst (v := 1) C dX11_assemble_32 rfl ?_
  obtain ⟨b, e0, h⟩ := ob h
  obtain ⟨q, e, h⟩ := ob h
  refine v_callV (As := [_]) C dX11_assemble_33 cf_X11_53 (rm_X11_assemble_X0_passOver) ⟨rfl, rfl⟩ e0 rfl (Nat.le_of_ble_eq_true rfl) (c_X0_passOver _ _ N _ _ _ q.1 q.2 e) ?_
  refine v_aload_n C dX11_assemble_36 rfl ?_
  obtain ⟨v, e, h⟩ := ob h
  refine v_getR C dX11_assemble_37 gf_X11_20 e ?_
  obtain ⟨b, e0, h⟩ := ob h
  obtain ⟨q, e, h⟩ := ob h
  refine v_callV (As := []) C dX11_assemble_40 cf_X11_57 (rm_X11_assemble_X0_close) ⟨rfl, rfl⟩ e0 rfl (Nat.le_of_ble_eq_true rfl) (c_X0_close _ _ N _ _ q.1 q.2 e) ?_
  exact v_iret C F ⟨rfl, rfl, Nat.le_refl _⟩ dX11_assemble_43 h
set_option maxRecDepth 100000 in
set_option maxHeartbeats 4000000 in
theorem c_X11_assemble (l : Launch) (g : CG) (N : Nat) (a0 : Option Nat) (μ : Mem) (rv : Int32) (μ9 : Mem) (h : f_X11_assemble N a0 μ = some (rv, μ9)) : Ct l yX11_assemble mi_X11_assemble g [aR a0] μ (some (aI rv)) μ9 := ct_of ⟨by decide, rfl, rfl⟩ (Nat.le_of_ble_eq_true rfl) fun x C F => p_X11_assemble C F h
def f_X11_fault (N : Nat) (a0 : Option Nat) (a1 : Int32) (μ : Mem) : Option (Int32 × Mem) :=
  if a1 = 0 then
    (mfR μ a0 11 2).bind fun v1 =>
    (mfI μ v1 0 4).bind fun v2 =>
    some (v2, μ)
  else
    if a1 = 1 then
      (mfR μ a0 11 2).bind fun v3 =>
      (mfI μ v3 0 5).bind fun v4 =>
      some (v4, μ)
    else
      some ((-1), μ)
set_option maxRecDepth 100000 in
set_option maxHeartbeats 4000000 in
theorem p_X11_fault {x : CX} {l : Launch} {g : CG} {rv : Int32} {μ0 μ9 : Mem} (C : Cx x l g mi_X11_fault) (F : Prom x g mi_X11_fault μ0 (some (aI rv)) μ9) {N : Nat} {a0 : Option Nat} {a1 : Int32} {μ : Mem} (h : f_X11_fault N a0 a1 μ = some (rv, μ9)) : V x g 2 0 0 μ 0 [(0, aR a0), (1, aI a1)] [] := by
  unfold f_X11_fault at h
  refine v_iload_n C dX11_fault_0 rfl ?_
  refine v_lookupswitch (dt := 44) (cs := [(0, 28), (1, 36)]) C dX11_fault_1 rfl (by decide) (by decide) ?_
  refine v_case (fun c => ?_) (fun c => ?_)
  · replace h := ifT h c
    refine v_aload_n C dX11_fault_28 rfl ?_
    obtain ⟨v, e, h⟩ := ob h
    refine v_getR C dX11_fault_29 gf_X11_20 e ?_
    obtain ⟨v, e, h⟩ := ob h
    refine v_getI C dX11_fault_32 gf_X11_61 e ?_
    exact v_iret C F ⟨rfl, rfl, Nat.le_refl _⟩ dX11_fault_35 h
  · replace h := ifF h c
    refine v_case (fun c => ?_) (fun c => ?_)
    · replace h := ifT h c
      refine v_aload_n C dX11_fault_36 rfl ?_
      obtain ⟨v, e, h⟩ := ob h
      refine v_getR C dX11_fault_37 gf_X11_20 e ?_
      obtain ⟨v, e, h⟩ := ob h
      refine v_getI C dX11_fault_40 gf_X11_64 e ?_
      exact v_iret C F ⟨rfl, rfl, Nat.le_refl _⟩ dX11_fault_43 h
    · replace h := ifF h c
      refine v_caseD ?_
      refine v_iconst (v := -1) C dX11_fault_44 rfl ?_
      exact v_iret C F ⟨rfl, rfl, Nat.le_refl _⟩ dX11_fault_45 h
set_option maxRecDepth 100000 in
set_option maxHeartbeats 4000000 in
theorem c_X11_fault (l : Launch) (g : CG) (N : Nat) (a0 : Option Nat) (a1 : Int32) (μ : Mem) (rv : Int32) (μ9 : Mem) (h : f_X11_fault N a0 a1 μ = some (rv, μ9)) : Ct l yX11_fault mi_X11_fault g [aR a0, aI a1] μ (some (aI rv)) μ9 := ct_of ⟨by decide, rfl, rfl⟩ (Nat.le_of_ble_eq_true rfl) fun x C F => p_X11_fault C F h
