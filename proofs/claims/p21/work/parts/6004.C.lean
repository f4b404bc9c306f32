/-! LAYER 1: X0.readPlain, X0.combine, X0.isOperator, X0.readValue, X0.passOrigin, X0.passEquation, X0.passPage, X0.passRadix, X7.hasLiteral, X0.mayLay, X7.lay (by program) -/
def f_X0_readPlain_163 (N : Nat) (a0 : Option Nat) (a4 : Int32) (μ : Mem) : Option (Int32 × Mem) :=
  (mfR μ a0 0 0).bind fun v1 =>
  (mck μ v1 4).bind fun b3 =>
  (f_X4_valueOf N (some b3) a4 μ).bind fun q2 =>
  some (q2.1, q2.2)
def f_X0_readPlain_145 (N : Nat) (a0 : Option Nat) (a2 : Int32) (a4 : Int32) (μ : Mem) : Option (Int32 × Mem) :=
  (mfR μ a0 0 0).bind fun v1 =>
  (mck μ v1 4).bind fun b3 =>
  (f_X4_tellingOf N (some b3) a4 μ).bind fun q2 =>
  if ¬ q2.1 = 0 then
    f_X0_readPlain_163 N a0 a4 q2.2
  else
    (mck q2.2 a0 0).bind fun b5 =>
    (f_X0_report N (some b5) 3 a2 q2.2).bind fun q4 =>
    f_X0_readPlain_163 N a0 a4 q4.2
def f_X0_readPlain_126 (N : Nat) (a0 : Option Nat) (a1 : Int32) (a2 : Int32) (a4 : Int32) (a5 : Int32) (μ : Mem) : Option (Int32 × Mem) :=
  if ¬ a5 = 0 then
    if ¬ a1 = 0 then
      f_X0_readPlain_145 N a0 a2 a4 μ
    else
      (mfI μ a0 0 6).bind fun v1 =>
      if v1 = 0 then
        f_X0_readPlain_163 N a0 a4 μ
      else
        f_X0_readPlain_145 N a0 a2 a4 μ
  else
    some (a4, μ)
def f_X0_readPlain_80 (N : Nat) (a0 : Option Nat) (a1 : Int32) (a2 : Int32) (a3 : Int32) (a4 : Int32) (a5 : Int32) (μ : Mem) : Option (Int32 × Mem) :=
  (mfI μ a0 0 9).bind fun v1 =>
  (mpI μ a0 0 9 (v1 + 1)).bind fun μ2 =>
  if ¬ a3 = (46 : Int32) then
    if ¬ a3 = (2 : Int32) then
      f_X0_readPlain_126 N a0 a1 a2 a4 a5 μ2
    else
      (mfI μ2 a0 0 8).bind fun v3 =>
      if v3 = 0 then
        f_X0_readPlain_126 N a0 a1 a2 a4 a5 μ2
      else
        (mfR μ2 a0 0 1).bind fun v4 =>
        (mck μ2 v4 9).bind fun b6 =>
        (f_X9_otherOf N (some b6) a2 μ2).bind fun q5 =>
        some (q5.1, q5.2)
  else
    (mfI μ2 a0 0 10).bind fun v7 =>
    some (v7 &&& 4095, μ2)
def f_X0_readPlain_74 (N : Nat) (a2 : Int32) (s0 : Option Nat) (s1 : Int32) (μ : Mem) : Option (Int32 × Mem) :=
  (mck μ s0 0).bind fun b2 =>
  (f_X0_report N (some b2) s1 a2 μ).bind fun q1 =>
  some (0, q1.2)
def f_X0_readPlain_39 (N : Nat) (a0 : Option Nat) (a1 : Int32) (a2 : Int32) (a3 : Int32) (a4 : Int32) (s0 : Int32) (μ : Mem) : Option (Int32 × Mem) :=
  if ¬ s0 = 0 then
    f_X0_readPlain_80 N a0 a1 a2 a3 a4 s0 μ
  else
    if a3 = (2 : Int32) then
      f_X0_readPlain_80 N a0 a1 a2 a3 a4 s0 μ
    else
      if a3 = (3 : Int32) then
        f_X0_readPlain_80 N a0 a1 a2 a3 a4 s0 μ
      else
        if a3 = (46 : Int32) then
          f_X0_readPlain_80 N a0 a1 a2 a3 a4 s0 μ
        else
          if ¬ a3 = (6 : Int32) then
            f_X0_readPlain_74 N a2 a0 2 μ
          else
            f_X0_readPlain_74 N a2 a0 1 μ
def f_X0_readPlain_38 (N : Nat) (a0 : Option Nat) (a1 : Int32) (a2 : Int32) (a3 : Int32) (a4 : Int32) (μ : Mem) : Option (Int32 × Mem) :=
  f_X0_readPlain_39 N a0 a1 a2 a3 a4 0 μ
def f_X0_readPlain (N : Nat) (a0 : Option Nat) (a1 : Int32) (μ : Mem) : Option (Int32 × Mem) :=
  (mfI μ a0 0 9).bind fun v1 =>
  (mck μ a0 0).bind fun b3 =>
  (f_X0_kindAt N (some b3) v1 μ).bind fun q2 =>
  (mfR q2.2 a0 0 1).bind fun v4 =>
  (mck q2.2 v4 9).bind fun b6 =>
  (f_X9_valueOf N (some b6) v1 q2.2).bind fun q5 =>
  if ¬ q2.1 = (1 : Int32) then
    f_X0_readPlain_38 N a0 a1 v1 q2.1 q5.1 q5.2
  else
    (f_X0_isStatementName N q5.1 q5.2).bind fun q7 =>
    if ¬ q7.1 = 0 then
      f_X0_readPlain_38 N a0 a1 v1 q2.1 q5.1 q7.2
    else
      f_X0_readPlain_39 N a0 a1 v1 q2.1 q5.1 1 q7.2
set_option maxRecDepth 100000 in
set_option maxHeartbeats 4000000 in
theorem p_X0_readPlain_163 {x : CX} {l : Launch} {g : CG} {rv : Int32} {μ0 μ9 : Mem} (C : Cx x l g mi_X0_readPlain) (F : Prom x g mi_X0_readPlain μ0 (some (aI rv)) μ9) {N : Nat} {a0 : Option Nat} {a4 : Int32} {μ : Mem} (h : f_X0_readPlain_163 N a0 a4 μ = some (rv, μ9)) : V x g 6 0 0 μ 163 [(0, aR a0), (4, aI a4)] [] := by
  unfold f_X0_readPlain_163 at h
  refine v_aload_n C dX0_readPlain_163 rfl ?_
  obtain ⟨v, e, h⟩ := ob h
  refine v_getR C dX0_readPlain_164 gf_X0_12 e ?_
  refine v_iload C dX0_readPlain_167 rfl ?_
  obtain ⟨b, e0, h⟩ := ob h
  obtain ⟨q, e, h⟩ := ob h
  refine v_callV (As := [_]) C dX0_readPlain_169 cf_X0_203 (rm_X0_readPlain_X4_valueOf) ⟨rfl, rfl⟩ e0 rfl (Nat.le_of_ble_eq_true rfl) (c_X4_valueOf _ _ N _ _ _ q.1 q.2 e) ?_
  exact v_iret C F ⟨rfl, rfl, Nat.le_refl _⟩ dX0_readPlain_172 h
set_option maxRecDepth 100000 in
set_option maxHeartbeats 4000000 in
theorem p_X0_readPlain_145 {x : CX} {l : Launch} {g : CG} {rv : Int32} {μ0 μ9 : Mem} (C : Cx x l g mi_X0_readPlain) (F : Prom x g mi_X0_readPlain μ0 (some (aI rv)) μ9) {N : Nat} {a0 : Option Nat} {a2 : Int32} {a4 : Int32} {μ : Mem} (h : f_X0_readPlain_145 N a0 a2 a4 μ = some (rv, μ9)) : V x g 6 0 0 μ 145 [(0, aR a0), (2, aI a2), (4, aI a4)] [] := by
  unfold f_X0_readPlain_145 at h
  refine v_aload_n C dX0_readPlain_145 rfl ?_
  obtain ⟨v, e, h⟩ := ob h
  refine v_getR C dX0_readPlain_146 gf_X0_12 e ?_
  refine v_iload C dX0_readPlain_149 rfl ?_
  obtain ⟨b, e0, h⟩ := ob h
  obtain ⟨q, e, h⟩ := ob h
  refine v_callV (As := [_]) C dX0_readPlain_151 cf_X0_115 (rm_X0_readPlain_X4_tellingOf) ⟨rfl, rfl⟩ e0 rfl (Nat.le_of_ble_eq_true rfl) (c_X4_tellingOf _ _ N _ _ _ q.1 q.2 e) ?_
  refine v_if_ne (tgt := 163) C dX0_readPlain_154 (by decide) (fun c => ?_) (fun c => ?_)
  · replace h := ifT h c
    exact v_sb (p_X0_readPlain_163 C F h) ⟨rfl, rfl, trivial⟩
  · replace h := ifF h c
    refine v_aload_n C dX0_readPlain_157 rfl ?_
    refine v_iconst (v := 3) C dX0_readPlain_158 rfl ?_
    refine v_iload_n C dX0_readPlain_159 rfl ?_
    obtain ⟨b, e0, h⟩ := ob h
    obtain ⟨q, e, h⟩ := ob h
    refine v_callV (As := [_, _]) C dX0_readPlain_160 cf_X0_87 (rm_X0_readPlain_X0_report) ⟨rfl, rfl⟩ e0 rfl (Nat.le_of_ble_eq_true rfl) (c_X0_report _ _ N _ _ _ _ q.1 q.2 e) ?_
    exact v_sb (p_X0_readPlain_163 C F h) ⟨rfl, rfl, trivial⟩
set_option maxRecDepth 100000 in
set_option maxHeartbeats 4000000 in
theorem p_X0_readPlain_126 {x : CX} {l : Launch} {g : CG} {rv : Int32} {μ0 μ9 : Mem} (C : Cx x l g mi_X0_readPlain) (F : Prom x g mi_X0_readPlain μ0 (some (aI rv)) μ9) {N : Nat} {a0 : Option Nat} {a1 : Int32} {a2 : Int32} {a4 : Int32} {a5 : Int32} {μ : Mem} (h : f_X0_readPlain_126 N a0 a1 a2 a4 a5 μ = some (rv, μ9)) : V x g 6 0 0 μ 126 [(0, aR a0), (1, aI a1), (2, aI a2), (4, aI a4), (5, aI a5)] [] := by
  unfold f_X0_readPlain_126 at h
  refine v_iload C dX0_readPlain_126 rfl ?_
  refine v_if_ne (tgt := 134) C dX0_readPlain_128 (by decide) (fun c => ?_) (fun c => ?_)
  · replace h := ifT h c
    refine v_iload_n C dX0_readPlain_134 rfl ?_
    refine v_if_ne (tgt := 145) C dX0_readPlain_135 (by decide) (fun c => ?_) (fun c => ?_)
    · replace h := ifT h c
      exact v_sb (p_X0_readPlain_145 C F h) ⟨rfl, rfl, rfl, trivial⟩
    · replace h := ifF h c
      refine v_aload_n C dX0_readPlain_138 rfl ?_
      obtain ⟨v, e, h⟩ := ob h
      refine v_getI C dX0_readPlain_139 gf_X0_44 e ?_
      refine v_if_eq (tgt := 163) C dX0_readPlain_142 (by decide) (fun c => ?_) (fun c => ?_)
      · replace h := ifT h c
        exact v_sb (p_X0_readPlain_163 C F h) ⟨rfl, rfl, trivial⟩
      · replace h := ifF h c
        exact v_sb (p_X0_readPlain_145 C F h) ⟨rfl, rfl, rfl, trivial⟩
  · replace h := ifF h c
    refine v_iload C dX0_readPlain_131 rfl ?_
    exact v_iret C F ⟨rfl, rfl, Nat.le_refl _⟩ dX0_readPlain_133 h
set_option maxRecDepth 100000 in
set_option maxHeartbeats 4000000 in
theorem p_X0_readPlain_80 {x : CX} {l : Launch} {g : CG} {rv : Int32} {μ0 μ9 : Mem} (C : Cx x l g mi_X0_readPlain) (F : Prom x g mi_X0_readPlain μ0 (some (aI rv)) μ9) {N : Nat} {a0 : Option Nat} {a1 : Int32} {a2 : Int32} {a3 : Int32} {a4 : Int32} {a5 : Int32} {μ : Mem} (h : f_X0_readPlain_80 N a0 a1 a2 a3 a4 a5 μ = some (rv, μ9)) : V x g 6 0 0 μ 80 [(0, aR a0), (1, aI a1), (2, aI a2), (3, aI a3), (4, aI a4), (5, aI a5)] [] := by
  unfold f_X0_readPlain_80 at h
  refine v_aload_n C dX0_readPlain_80 rfl ?_
  refine v_dup C dX0_readPlain_81 rfl ?_
  obtain ⟨v, e, h⟩ := ob h
  refine v_getI C dX0_readPlain_82 gf_X0_54 e ?_
  refine v_iconst (v := 1) C dX0_readPlain_85 rfl ?_
  refine v_iadd C dX0_readPlain_86 ?_
  obtain ⟨m, e, h⟩ := ob h
  refine v_putI C dX0_readPlain_87 (pf_X0_54 _) e ?_
  refine v_iload_n C dX0_readPlain_90 rfl ?_
  refine v_bipush (v := 46) C dX0_readPlain_91 rfl ?_
  refine v_icmp_ne (tgt := 105) C dX0_readPlain_93 (by decide) (fun c => ?_) (fun c => ?_)
  · replace h := ifT h c
    refine v_iload_n C dX0_readPlain_105 rfl ?_
    refine v_iconst (v := 2) C dX0_readPlain_106 rfl ?_
    refine v_icmp_ne (tgt := 126) C dX0_readPlain_107 (by decide) (fun c => ?_) (fun c => ?_)
    · replace h := ifT h c
      exact v_sb (p_X0_readPlain_126 C F h) ⟨rfl, rfl, rfl, rfl, rfl, trivial⟩
    · replace h := ifF h c
      refine v_aload_n C dX0_readPlain_110 rfl ?_
      obtain ⟨v, e, h⟩ := ob h
      refine v_getI C dX0_readPlain_111 gf_X0_51 e ?_
      refine v_if_eq (tgt := 126) C dX0_readPlain_114 (by decide) (fun c => ?_) (fun c => ?_)
      · replace h := ifT h c
        exact v_sb (p_X0_readPlain_126 C F h) ⟨rfl, rfl, rfl, rfl, rfl, trivial⟩
      · replace h := ifF h c
        refine v_aload_n C dX0_readPlain_117 rfl ?_
        obtain ⟨v, e, h⟩ := ob h
        refine v_getR C dX0_readPlain_118 gf_X0_23 e ?_
        refine v_iload_n C dX0_readPlain_121 rfl ?_
        obtain ⟨b, e0, h⟩ := ob h
        obtain ⟨q, e, h⟩ := ob h
        refine v_callV (As := [_]) C dX0_readPlain_122 cf_X0_177 (rm_X0_readPlain_X9_otherOf) ⟨rfl, rfl⟩ e0 rfl (Nat.le_of_ble_eq_true rfl) (c_X9_otherOf _ _ N _ _ _ q.1 q.2 e) ?_
        exact v_iret C F ⟨rfl, rfl, Nat.le_refl _⟩ dX0_readPlain_125 h
  · replace h := ifF h c
    refine v_aload_n C dX0_readPlain_96 rfl ?_
    obtain ⟨v, e, h⟩ := ob h
    refine v_getI C dX0_readPlain_97 gf_X0_57 e ?_
    refine v_sipush (v := 4095) C dX0_readPlain_100 rfl ?_
    refine v_iand C dX0_readPlain_103 ?_
    exact v_iret C F ⟨rfl, rfl, Nat.le_refl _⟩ dX0_readPlain_104 h
set_option maxRecDepth 100000 in
set_option maxHeartbeats 4000000 in
theorem p_X0_readPlain_74 {x : CX} {l : Launch} {g : CG} {rv : Int32} {μ0 μ9 : Mem} (C : Cx x l g mi_X0_readPlain) (F : Prom x g mi_X0_readPlain μ0 (some (aI rv)) μ9) {N : Nat} {a2 : Int32} {s0 : Option Nat} {s1 : Int32} {μ : Mem} (h : f_X0_readPlain_74 N a2 s0 s1 μ = some (rv, μ9)) : V x g 6 0 0 μ 74 [(2, aI a2)] [aI s1, aR s0] := by
  unfold f_X0_readPlain_74 at h
  refine v_iload_n C dX0_readPlain_74 rfl ?_
  obtain ⟨b, e0, h⟩ := ob h
  obtain ⟨q, e, h⟩ := ob h
  refine v_callV (As := [_, _]) C dX0_readPlain_75 cf_X0_87 (rm_X0_readPlain_X0_report) ⟨rfl, rfl⟩ e0 rfl (Nat.le_of_ble_eq_true rfl) (c_X0_report _ _ N _ _ _ _ q.1 q.2 e) ?_
  refine v_iconst (v := 0) C dX0_readPlain_78 rfl ?_
  exact v_iret C F ⟨rfl, rfl, Nat.le_refl _⟩ dX0_readPlain_79 h
set_option maxRecDepth 100000 in
set_option maxHeartbeats 4000000 in
theorem p_X0_readPlain_39 {x : CX} {l : Launch} {g : CG} {rv : Int32} {μ0 μ9 : Mem} (C : Cx x l g mi_X0_readPlain) (F : Prom x g mi_X0_readPlain μ0 (some (aI rv)) μ9) {N : Nat} {a0 : Option Nat} {a1 : Int32} {a2 : Int32} {a3 : Int32} {a4 : Int32} {s0 : Int32} {μ : Mem} (h : f_X0_readPlain_39 N a0 a1 a2 a3 a4 s0 μ = some (rv, μ9)) : V x g 6 0 0 μ 39 [(0, aR a0), (1, aI a1), (2, aI a2), (3, aI a3), (4, aI a4)] [aI s0] := by
  unfold f_X0_readPlain_39 at h
  refine v_istore C dX0_readPlain_39 (by decide) ?_
  refine v_iload C dX0_readPlain_41 rfl ?_
  refine v_if_ne (tgt := 80) C dX0_readPlain_43 (by decide) (fun c => ?_) (fun c => ?_)
  · replace h := ifT h c
    exact v_sb (p_X0_readPlain_80 C F h) ⟨rfl, rfl, rfl, rfl, rfl, rfl, trivial⟩
  · replace h := ifF h c
    refine v_iload_n C dX0_readPlain_46 rfl ?_
    refine v_iconst (v := 2) C dX0_readPlain_47 rfl ?_
    refine v_icmp_eq (tgt := 80) C dX0_readPlain_48 (by decide) (fun c => ?_) (fun c => ?_)
    · replace h := ifT h c
      exact v_sb (p_X0_readPlain_80 C F h) ⟨rfl, rfl, rfl, rfl, rfl, rfl, trivial⟩
    · replace h := ifF h c
      refine v_iload_n C dX0_readPlain_51 rfl ?_
      refine v_iconst (v := 3) C dX0_readPlain_52 rfl ?_
      refine v_icmp_eq (tgt := 80) C dX0_readPlain_53 (by decide) (fun c => ?_) (fun c => ?_)
      · replace h := ifT h c
        exact v_sb (p_X0_readPlain_80 C F h) ⟨rfl, rfl, rfl, rfl, rfl, rfl, trivial⟩
      · replace h := ifF h c
        refine v_iload_n C dX0_readPlain_56 rfl ?_
        refine v_bipush (v := 46) C dX0_readPlain_57 rfl ?_
        refine v_icmp_eq (tgt := 80) C dX0_readPlain_59 (by decide) (fun c => ?_) (fun c => ?_)
        · replace h := ifT h c
          exact v_sb (p_X0_readPlain_80 C F h) ⟨rfl, rfl, rfl, rfl, rfl, rfl, trivial⟩
        · replace h := ifF h c
          refine v_aload_n C dX0_readPlain_62 rfl ?_
          refine v_iload_n C dX0_readPlain_63 rfl ?_
          refine v_bipush (v := 6) C dX0_readPlain_64 rfl ?_
          refine v_icmp_ne (tgt := 73) C dX0_readPlain_66 (by decide) (fun c => ?_) (fun c => ?_)
          · replace h := ifT h c
            refine v_iconst (v := 2) C dX0_readPlain_73 rfl ?_
            exact v_sb (p_X0_readPlain_74 C F h) ⟨rfl, trivial⟩
          · replace h := ifF h c
            refine v_iconst (v := 1) C dX0_readPlain_69 rfl ?_
            refine v_goto (tgt := 74) C dX0_readPlain_70 (by decide) ?_
            exact v_sb (p_X0_readPlain_74 C F h) ⟨rfl, trivial⟩
set_option maxRecDepth 100000 in
set_option maxHeartbeats 4000000 in
theorem p_X0_readPlain_38 {x : CX} {l : Launch} {g : CG} {rv : Int32} {μ0 μ9 : Mem} (C : Cx x l g mi_X0_readPlain) (F : Prom x g mi_X0_readPlain μ0 (some (aI rv)) μ9) {N : Nat} {a0 : Option Nat} {a1 : Int32} {a2 : Int32} {a3 : Int32} {a4 : Int32} {μ : Mem} (h : f_X0_readPlain_38 N a0 a1 a2 a3 a4 μ = some (rv, μ9)) : V x g 6 0 0 μ 38 [(0, aR a0), (1, aI a1), (2, aI a2), (3, aI a3), (4, aI a4)] [] := by
  unfold f_X0_readPlain_38 at h
  refine v_iconst (v := 0) C dX0_readPlain_38 rfl ?_
  exact v_sb (p_X0_readPlain_39 C F h) ⟨rfl, rfl, rfl, rfl, rfl, trivial⟩
set_option maxRecDepth 100000 in
set_option maxHeartbeats 4000000 in
theorem p_X0_readPlain {x : CX} {l : Launch} {g : CG} {rv : Int32} {μ0 μ9 : Mem} (C : Cx x l g mi_X0_readPlain) (F : Prom x g mi_X0_readPlain μ0 (some (aI rv)) μ9) {N : Nat} {a0 : Option Nat} {a1 : Int32} {μ : Mem} (h : f_X0_readPlain N a0 a1 μ = some (rv, μ9)) : V x g 6 0 0 μ 0 [(0, aR a0), (1, aI a1)] [] := by
  unfold f_X0_readPlain at h
  refine v_aload_n C dX0_readPlain_0 rfl ?_
  obtain ⟨v, e, h⟩ := ob h
  refine v_getI C dX0_readPlain_1 gf_X0_54 e ?_
  refine v_istore_n C dX0_readPlain_4 (by decide) ?_
  refine v_aload_n C dX0_readPlain_5 rfl ?_
  refine v_iload_n C dX0_readPlain_6 rfl ?_
  obtain ⟨b, e0, h⟩ := ob h
  obtain ⟨q, e, h⟩ := ob h
  refine v_callV (As := [_]) C dX0_readPlain_7 cf_X0_100 (rm_X0_readPlain_X0_kindAt) ⟨rfl, rfl⟩ e0 rfl (Nat.le_of_ble_eq_true rfl) (c_X0_kindAt _ _ N _ _ _ q.1 q.2 e) ?_
  refine v_istore_n C dX0_readPlain_10 (by decide) ?_
  refine v_aload_n C dX0_readPlain_11 rfl ?_
  obtain ⟨v, e, h⟩ := ob h
  refine v_getR C dX0_readPlain_12 gf_X0_23 e ?_
  refine v_iload_n C dX0_readPlain_15 rfl ?_
  obtain ⟨b, e0, h⟩ := ob h
  obtain ⟨q, e, h⟩ := ob h
  refine v_callV (As := [_]) C dX0_readPlain_16 cf_X0_108 (rm_X0_readPlain_X9_valueOf) ⟨rfl, rfl⟩ e0 rfl (Nat.le_of_ble_eq_true rfl) (c_X9_valueOf _ _ N _ _ _ q.1 q.2 e) ?_
  refine v_istore C dX0_readPlain_19 (by decide) ?_
  refine v_iload_n C dX0_readPlain_21 rfl ?_
  refine v_iconst (v := 1) C dX0_readPlain_22 rfl ?_
  refine v_icmp_ne (tgt := 38) C dX0_readPlain_23 (by decide) (fun c => ?_) (fun c => ?_)
  · replace h := ifT h c
    exact v_sb (p_X0_readPlain_38 C F h) ⟨rfl, rfl, rfl, rfl, rfl, trivial⟩
  · replace h := ifF h c
    refine v_iload C dX0_readPlain_26 rfl ?_
    obtain ⟨q, e, h⟩ := ob h
    refine v_callS (As := [_]) C dX0_readPlain_28 cf_X0_157 (rm_X0_readPlain_X0_isStatementName) ⟨rfl, rfl⟩ rfl (Nat.le_of_ble_eq_true rfl) (c_X0_isStatementName _ _ N _ _ q.1 q.2 e) ?_
    refine v_if_ne (tgt := 38) C dX0_readPlain_31 (by decide) (fun c => ?_) (fun c => ?_)
    · replace h := ifT h c
      exact v_sb (p_X0_readPlain_38 C F h) ⟨rfl, rfl, rfl, rfl, rfl, trivial⟩
    · replace h := ifF h c
      refine v_iconst (v := 1) C dX0_readPlain_34 rfl ?_
      refine v_goto (tgt := 39) C dX0_readPlain_35 (by decide) ?_
      exact v_sb (p_X0_readPlain_39 C F h) ⟨rfl, rfl, rfl, rfl, rfl, trivial⟩
set_option maxRecDepth 100000 in
set_option maxHeartbeats 4000000 in
theorem c_X0_readPlain (l : Launch) (g : CG) (N : Nat) (a0 : Option Nat) (a1 : Int32) (μ : Mem) (rv : Int32) (μ9 : Mem) (h : f_X0_readPlain N a0 a1 μ = some (rv, μ9)) : Ct l yX0_readPlain mi_X0_readPlain g [aR a0, aI a1] μ (some (aI rv)) μ9 := ct_of ⟨by decide, rfl, rfl⟩ (Nat.le_of_ble_eq_true rfl) fun x C F => p_X0_readPlain C F h
def f_X0_combine (N : Nat) (a0 : Int32) (a1 : Int32) (a2 : Int32) (μ : Mem) : Option (Int32 × Mem) :=
  if a1 = 33 then
    some (a0 ||| a2, μ)
  else
    if a1 = 43 then
      some ((a0 + a2) &&& 4095, μ)
    else
      if a1 = 45 then
        some ((a0 - a2) &&& 4095, μ)
      else
        some (a0 &&& a2, μ)
set_option maxRecDepth 100000 in
set_option maxHeartbeats 4000000 in
theorem p_X0_combine {x : CX} {l : Launch} {g : CG} {rv : Int32} {μ0 μ9 : Mem} (C : Cx x l g mi_X0_combine) (F : Prom x g mi_X0_combine μ0 (some (aI rv)) μ9) {N : Nat} {a0 : Int32} {a1 : Int32} {a2 : Int32} {μ : Mem} (h : f_X0_combine N a0 a1 a2 μ = some (rv, μ9)) : V x g 3 0 0 μ 0 [(0, aI a0), (1, aI a1), (2, aI a2)] [] := by
  unfold f_X0_combine at h
  refine v_iload_n C dX0_combine_0 rfl ?_
  refine v_lookupswitch (dt := 56) (cs := [(33, 52), (43, 36), (45, 44)]) C dX0_combine_1 rfl (by decide) (by decide) ?_
  refine v_case (fun c => ?_) (fun c => ?_)
  · replace h := ifT h c
    refine v_iload_n C dX0_combine_52 rfl ?_
    refine v_iload_n C dX0_combine_53 rfl ?_
    refine v_ior C dX0_combine_54 ?_
    exact v_iret C F ⟨rfl, rfl, Nat.le_refl _⟩ dX0_combine_55 h
  · replace h := ifF h c
    refine v_case (fun c => ?_) (fun c => ?_)
    · replace h := ifT h c
      refine v_iload_n C dX0_combine_36 rfl ?_
      refine v_iload_n C dX0_combine_37 rfl ?_
      refine v_iadd C dX0_combine_38 ?_
      refine v_sipush (v := 4095) C dX0_combine_39 rfl ?_
      refine v_iand C dX0_combine_42 ?_
      exact v_iret C F ⟨rfl, rfl, Nat.le_refl _⟩ dX0_combine_43 h
    · replace h := ifF h c
      refine v_case (fun c => ?_) (fun c => ?_)
      · replace h := ifT h c
        refine v_iload_n C dX0_combine_44 rfl ?_
        refine v_iload_n C dX0_combine_45 rfl ?_
        refine v_isub C dX0_combine_46 ?_
        refine v_sipush (v := 4095) C dX0_combine_47 rfl ?_
        refine v_iand C dX0_combine_50 ?_
        exact v_iret C F ⟨rfl, rfl, Nat.le_refl _⟩ dX0_combine_51 h
      · replace h := ifF h c
        refine v_caseD ?_
        refine v_iload_n C dX0_combine_56 rfl ?_
        refine v_iload_n C dX0_combine_57 rfl ?_
        refine v_iand C dX0_combine_58 ?_
        exact v_iret C F ⟨rfl, rfl, Nat.le_refl _⟩ dX0_combine_59 h
set_option maxRecDepth 100000 in
set_option maxHeartbeats 4000000 in
theorem c_X0_combine (l : Launch) (g : CG) (N : Nat) (a0 : Int32) (a1 : Int32) (a2 : Int32) (μ : Mem) (rv : Int32) (μ9 : Mem) (h : f_X0_combine N a0 a1 a2 μ = some (rv, μ9)) : Ct l yX0_combine mi_X0_combine g [aI a0, aI a1, aI a2] μ (some (aI rv)) μ9 := ct_of ⟨by decide, rfl, rfl⟩ (Nat.le_of_ble_eq_true rfl) fun x C F => p_X0_combine C F h
def f_X0_isOperator_29 (N : Nat) (s0 : Int32) (μ : Mem) : Option (Int32 × Mem) :=
  retZ s0 μ
def f_X0_isOperator_24 (N : Nat) (μ : Mem) : Option (Int32 × Mem) :=
  f_X0_isOperator_29 N 1 μ
def f_X0_isOperator (N : Nat) (a0 : Int32) (μ : Mem) : Option (Int32 × Mem) :=
  if a0 = (43 : Int32) then
    f_X0_isOperator_24 N μ
  else
    if a0 = (45 : Int32) then
      f_X0_isOperator_24 N μ
    else
      if a0 = (33 : Int32) then
        f_X0_isOperator_24 N μ
      else
        if ¬ a0 = (38 : Int32) then
          f_X0_isOperator_29 N 0 μ
        else
          f_X0_isOperator_24 N μ
set_option maxRecDepth 100000 in
set_option maxHeartbeats 4000000 in
theorem p_X0_isOperator_29 {x : CX} {l : Launch} {g : CG} {rv : Int32} {μ0 μ9 : Mem} (C : Cx x l g mi_X0_isOperator) (F : Prom x g mi_X0_isOperator μ0 (some (aI rv)) μ9) {N : Nat} {s0 : Int32} {μ : Mem} (h : f_X0_isOperator_29 N s0 μ = some (rv, μ9)) : V x g 1 0 0 μ 29 [] [aI s0] := by
  unfold f_X0_isOperator_29 at h
  exact v_zret C F ⟨rfl, rfl, Nat.le_refl _⟩ dX0_isOperator_29 h
set_option maxRecDepth 100000 in
set_option maxHeartbeats 4000000 in
theorem p_X0_isOperator_24 {x : CX} {l : Launch} {g : CG} {rv : Int32} {μ0 μ9 : Mem} (C : Cx x l g mi_X0_isOperator) (F : Prom x g mi_X0_isOperator μ0 (some (aI rv)) μ9) {N : Nat} {μ : Mem} (h : f_X0_isOperator_24 N μ = some (rv, μ9)) : V x g 1 0 0 μ 24 [] [] := by
  unfold f_X0_isOperator_24 at h
  refine v_iconst (v := 1) C dX0_isOperator_24 rfl ?_
  refine v_goto (tgt := 29) C dX0_isOperator_25 (by decide) ?_
  exact v_sb (p_X0_isOperator_29 C F h) trivial
set_option maxRecDepth 100000 in
set_option maxHeartbeats 4000000 in
theorem p_X0_isOperator {x : CX} {l : Launch} {g : CG} {rv : Int32} {μ0 μ9 : Mem} (C : Cx x l g mi_X0_isOperator) (F : Prom x g mi_X0_isOperator μ0 (some (aI rv)) μ9) {N : Nat} {a0 : Int32} {μ : Mem} (h : f_X0_isOperator N a0 μ = some (rv, μ9)) : V x g 1 0 0 μ 0 [(0, aI a0)] [] := by
  unfold f_X0_isOperator at h
  refine v_iload_n C dX0_isOperator_0 rfl ?_
  refine v_bipush (v := 43) C dX0_isOperator_1 rfl ?_
  refine v_icmp_eq (tgt := 24) C dX0_isOperator_3 (by decide) (fun c => ?_) (fun c => ?_)
  · replace h := ifT h c
    exact v_sb (p_X0_isOperator_24 C F h) trivial
  · replace h := ifF h c
    refine v_iload_n C dX0_isOperator_6 rfl ?_
    refine v_bipush (v := 45) C dX0_isOperator_7 rfl ?_
    refine v_icmp_eq (tgt := 24) C dX0_isOperator_9 (by decide) (fun c => ?_) (fun c => ?_)
    · replace h := ifT h c
      exact v_sb (p_X0_isOperator_24 C F h) trivial
    · replace h := ifF h c
      refine v_iload_n C dX0_isOperator_12 rfl ?_
      refine v_bipush (v := 33) C dX0_isOperator_13 rfl ?_
      refine v_icmp_eq (tgt := 24) C dX0_isOperator_15 (by decide) (fun c => ?_) (fun c => ?_)
      · replace h := ifT h c
        exact v_sb (p_X0_isOperator_24 C F h) trivial
      · replace h := ifF h c
        refine v_iload_n C dX0_isOperator_18 rfl ?_
        refine v_bipush (v := 38) C dX0_isOperator_19 rfl ?_
        refine v_icmp_ne (tgt := 28) C dX0_isOperator_21 (by decide) (fun c => ?_) (fun c => ?_)
        · replace h := ifT h c
          refine v_iconst (v := 0) C dX0_isOperator_28 rfl ?_
          exact v_sb (p_X0_isOperator_29 C F h) trivial
        · replace h := ifF h c
          exact v_sb (p_X0_isOperator_24 C F h) trivial
set_option maxRecDepth 100000 in
set_option maxHeartbeats 4000000 in
theorem c_X0_isOperator (l : Launch) (g : CG) (N : Nat) (a0 : Int32) (μ : Mem) (rv : Int32) (μ9 : Mem) (h : f_X0_isOperator N a0 μ = some (rv, μ9)) : Ct l yX0_isOperator mi_X0_isOperator g [aI a0] μ (some (aI rv)) μ9 := ct_of ⟨by decide, rfl, rfl⟩ (Nat.le_of_ble_eq_true rfl) fun x C F => p_X0_isOperator C F h
def f_X0_readValue_127 (N : Nat) (a2 : Int32) (μ : Mem) : Option (Int32 × Mem) :=
  some (a2, μ)
def f_X0_readValue_88 (N : Nat) (k8 : (Option Nat) → Int32 → Int32 → Int32 → Int32 → Mem → Option (Int32 × Mem)) (a0 : Option Nat) (a1 : Int32) (a4 : Int32) (s0 : Int32) (s1 : Int32) (s2 : Int32) (μ : Mem) : Option (Int32 × Mem) :=
  (f_X0_combine N s0 s1 s2 μ).bind fun q1 =>
  (mfI q1.2 a0 0 9).bind fun v2 =>
  (mck q1.2 a0 0).bind fun b4 =>
  (f_X0_kindAt N (some b4) v2 q1.2).bind fun q3 =>
  (f_X0_isOperator N q3.1 q3.2).bind fun q5 =>
  if ¬ q5.1 = 0 then
    (mfI q5.2 a0 0 9).bind fun v6 =>
    (mpI q5.2 a0 0 9 (v6 + 1)).bind fun μ7 =>
    k8 a0 a1 q1.1 q3.1 (a4 + 1) μ7
  else
    f_X0_readValue_127 N q1.1 q5.2
def f_X0_readValue_62 (N : Nat) (k8 : (Option Nat) → Int32 → Int32 → Int32 → Int32 → Mem → Option (Int32 × Mem)) (a0 : Option Nat) (a1 : Int32) (a2 : Int32) (a3 : Int32) (a4 : Int32) (a5 : Int32) (μ : Mem) : Option (Int32 × Mem) :=
  (mck μ a0 0).bind fun b2 =>
  (f_X0_readPlain N (some b2) a1 μ).bind fun q1 =>
  if a5 = 0 then
    f_X0_readValue_88 N k8 a0 a1 a4 a2 a3 q1.1 q1.2
  else
    f_X0_readValue_88 N k8 a0 a1 a4 a2 a3 ((-q1.1) &&& 4095) q1.2
def f_X0_readValue_45 (N : Nat) (k8 : (Option Nat) → Int32 → Int32 → Int32 → Int32 → Mem → Option (Int32 × Mem)) (a0 : Option Nat) (a1 : Int32) (a2 : Int32) (a3 : Int32) (a4 : Int32) (s0 : Int32) (μ : Mem) : Option (Int32 × Mem) :=
  if s0 = 0 then
    f_X0_readValue_62 N k8 a0 a1 a2 a3 a4 s0 μ
  else
    (mfI μ a0 0 9).bind fun v1 =>
    (mpI μ a0 0 9 (v1 + 1)).bind fun μ2 =>
    f_X0_readValue_62 N k8 a0 a1 a2 a3 a4 s0 μ2
def H_X0_readValue_8 (N : Nat) (k8 : (Option Nat) → Int32 → Int32 → Int32 → Int32 → Mem → Option (Int32 × Mem)) (a0 : Option Nat) (a1 : Int32) (a2 : Int32) (a3 : Int32) (a4 : Int32) (μ : Mem) : Option (Int32 × Mem) :=
  (mfR μ a0 0 1).bind fun v1 =>
  (mfI μ v1 9 5).bind fun v2 =>
  if v2 < a4 then
    f_X0_readValue_127 N a2 μ
  else
    (mfI μ a0 0 4).bind fun v3 =>
    if ¬ v3 = 0 then
      f_X0_readValue_127 N a2 μ
    else
      (mfI μ a0 0 9).bind fun v4 =>
      (mck μ a0 0).bind fun b6 =>
      (f_X0_kindAt N (some b6) v4 μ).bind fun q5 =>
      if ¬ q5.1 = (45 : Int32) then
        f_X0_readValue_45 N k8 a0 a1 a2 a3 a4 0 q5.2
      else
        f_X0_readValue_45 N k8 a0 a1 a2 a3 a4 1 q5.2
def L_X0_readValue_8 (N : Nat) : Nat → (Option Nat) → Int32 → Int32 → Int32 → Int32 → Mem → Option (Int32 × Mem)
  | 0 => fun _ _ _ _ _ _ => none
  | n + 1 => H_X0_readValue_8 N (L_X0_readValue_8 N n)
def f_X0_readValue (N : Nat) (a0 : Option Nat) (a1 : Int32) (μ : Mem) : Option (Int32 × Mem) :=
  L_X0_readValue_8 N N a0 a1 0 43 0 μ
set_option maxRecDepth 100000 in
set_option maxHeartbeats 4000000 in
theorem p_X0_readValue_127 {x : CX} {l : Launch} {g : CG} {rv : Int32} {μ0 μ9 : Mem} (C : Cx x l g mi_X0_readValue) (F : Prom x g mi_X0_readValue μ0 (some (aI rv)) μ9) {N : Nat} {a2 : Int32} {μ : Mem} (h : f_X0_readValue_127 N a2 μ = some (rv, μ9)) : V x g 7 0 0 μ 127 [(2, aI a2)] [] := by
  unfold f_X0_readValue_127 at h
  refine v_iload_n C dX0_readValue_127 rfl ?_
  exact v_iret C F ⟨rfl, rfl, Nat.le_refl _⟩ dX0_readValue_128 h
set_option maxRecDepth 100000 in
set_option maxHeartbeats 4000000 in
theorem p_X0_readValue_88 {x : CX} {l : Launch} {g : CG} {rv : Int32} {μ0 μ9 : Mem} (C : Cx x l g mi_X0_readValue) (F : Prom x g mi_X0_readValue μ0 (some (aI rv)) μ9) {N : Nat} {k8 : (Option Nat) → Int32 → Int32 → Int32 → Int32 → Mem → Option (Int32 × Mem)} (hk8 : ∀ (a0 : Option Nat) (a1 : Int32) (a2 : Int32) (a3 : Int32) (a4 : Int32) (μ : Mem), k8 a0 a1 a2 a3 a4 μ = some (rv, μ9) → V x g 7 0 0 μ 8 [(0, aR a0), (1, aI a1), (2, aI a2), (3, aI a3), (4, aI a4)] []) {a0 : Option Nat} {a1 : Int32} {a4 : Int32} {s0 : Int32} {s1 : Int32} {s2 : Int32} {μ : Mem} (h : f_X0_readValue_88 N k8 a0 a1 a4 s0 s1 s2 μ = some (rv, μ9)) : V x g 7 0 0 μ 88 [(0, aR a0), (1, aI a1), (4, aI a4)] [aI s2, aI s1, aI s0] := by
  unfold f_X0_readValue_88 at h
  obtain ⟨q, e, h⟩ := ob h
  refine v_callS (As := [_, _, _]) C dX0_readValue_88 cf_X0_196 (rm_X0_readValue_X0_combine) ⟨rfl, rfl⟩ rfl (Nat.le_of_ble_eq_true rfl) (c_X0_combine _ _ N _ _ _ _ q.1 q.2 e) ?_
  refine v_istore_n C dX0_readValue_91 (by decide) ?_
  refine v_aload_n C dX0_readValue_92 rfl ?_
  refine v_aload_n C dX0_readValue_93 rfl ?_
  obtain ⟨v, e, h⟩ := ob h
  refine v_getI C dX0_readValue_94 gf_X0_54 e ?_
  obtain ⟨b, e0, h⟩ := ob h
  obtain ⟨q, e, h⟩ := ob h
  refine v_callV (As := [_]) C dX0_readValue_97 cf_X0_100 (rm_X0_readValue_X0_kindAt) ⟨rfl, rfl⟩ e0 rfl (Nat.le_of_ble_eq_true rfl) (c_X0_kindAt _ _ N _ _ _ q.1 q.2 e) ?_
  refine v_istore_n C dX0_readValue_100 (by decide) ?_
  refine v_iload_n C dX0_readValue_101 rfl ?_
  obtain ⟨q, e, h⟩ := ob h
  refine v_callS (As := [_]) C dX0_readValue_102 cf_X0_200 (rm_X0_readValue_X0_isOperator) ⟨rfl, rfl⟩ rfl (Nat.le_of_ble_eq_true rfl) (c_X0_isOperator _ _ N _ _ q.1 q.2 e) ?_
  refine v_if_ne (tgt := 111) C dX0_readValue_105 (by decide) (fun c => ?_) (fun c => ?_)
  · replace h := ifT h c
    refine v_aload_n C dX0_readValue_111 rfl ?_
    refine v_dup C dX0_readValue_112 rfl ?_
    obtain ⟨v, e, h⟩ := ob h
    refine v_getI C dX0_readValue_113 gf_X0_54 e ?_
    refine v_iconst (v := 1) C dX0_readValue_116 rfl ?_
    refine v_iadd C dX0_readValue_117 ?_
    obtain ⟨m, e, h⟩ := ob h
    refine v_putI C dX0_readValue_118 (pf_X0_54 _) e ?_
    refine v_iinc (w := 1) C dX0_readValue_121 rfl rfl (by decide) ?_
    refine v_goto (tgt := 8) C dX0_readValue_124 (by decide) ?_
    exact v_sb (hk8 _ _ _ _ _ _ h) ⟨rfl, rfl, rfl, rfl, rfl, trivial⟩
  · replace h := ifF h c
    refine v_goto (tgt := 127) C dX0_readValue_108 (by decide) ?_
    exact v_sb (p_X0_readValue_127 C F h) ⟨rfl, trivial⟩
set_option maxRecDepth 100000 in
set_option maxHeartbeats 4000000 in
theorem p_X0_readValue_62 {x : CX} {l : Launch} {g : CG} {rv : Int32} {μ0 μ9 : Mem} (C : Cx x l g mi_X0_readValue) (F : Prom x g mi_X0_readValue μ0 (some (aI rv)) μ9) {N : Nat} {k8 : (Option Nat) → Int32 → Int32 → Int32 → Int32 → Mem → Option (Int32 × Mem)} (hk8 : ∀ (a0 : Option Nat) (a1 : Int32) (a2 : Int32) (a3 : Int32) (a4 : Int32) (μ : Mem), k8 a0 a1 a2 a3 a4 μ = some (rv, μ9) → V x g 7 0 0 μ 8 [(0, aR a0), (1, aI a1), (2, aI a2), (3, aI a3), (4, aI a4)] []) {a0 : Option Nat} {a1 : Int32} {a2 : Int32} {a3 : Int32} {a4 : Int32} {a5 : Int32} {μ : Mem} (h : f_X0_readValue_62 N k8 a0 a1 a2 a3 a4 a5 μ = some (rv, μ9)) : V x g 7 0 0 μ 62 [(0, aR a0), (1, aI a1), (2, aI a2), (3, aI a3), (4, aI a4), (5, aI a5)] [] := by
  unfold f_X0_readValue_62 at h
  refine v_aload_n C dX0_readValue_62 rfl ?_
  refine v_iload_n C dX0_readValue_63 rfl ?_
  obtain ⟨b, e0, h⟩ := ob h
  obtain ⟨q, e, h⟩ := ob h
  refine v_callV (As := [_]) C dX0_readValue_64 cf_X0_193 (rm_X0_readValue_X0_readPlain) ⟨rfl, rfl⟩ e0 rfl (Nat.le_of_ble_eq_true rfl) (c_X0_readPlain _ _ N _ _ _ q.1 q.2 e) ?_
  refine v_istore C dX0_readValue_67 (by decide) ?_
  refine v_iload_n C dX0_readValue_69 rfl ?_
  refine v_iload_n C dX0_readValue_70 rfl ?_
  refine v_iload C dX0_readValue_71 rfl ?_
  refine v_if_eq (tgt := 86) C dX0_readValue_73 (by decide) (fun c => ?_) (fun c => ?_)
  · replace h := ifT h c
    refine v_iload C dX0_readValue_86 rfl ?_
    exact v_sb (p_X0_readValue_88 C F hk8 h) ⟨rfl, rfl, rfl, trivial⟩
  · replace h := ifF h c
    refine v_iload C dX0_readValue_76 rfl ?_
    refine v_ineg C dX0_readValue_78 ?_
    refine v_sipush (v := 4095) C dX0_readValue_79 rfl ?_
    refine v_iand C dX0_readValue_82 ?_
    refine v_goto (tgt := 88) C dX0_readValue_83 (by decide) ?_
    exact v_sb (p_X0_readValue_88 C F hk8 h) ⟨rfl, rfl, rfl, trivial⟩
set_option maxRecDepth 100000 in
set_option maxHeartbeats 4000000 in
theorem p_X0_readValue_45 {x : CX} {l : Launch} {g : CG} {rv : Int32} {μ0 μ9 : Mem} (C : Cx x l g mi_X0_readValue) (F : Prom x g mi_X0_readValue μ0 (some (aI rv)) μ9) {N : Nat} {k8 : (Option Nat) → Int32 → Int32 → Int32 → Int32 → Mem → Option (Int32 × Mem)} (hk8 : ∀ (a0 : Option Nat) (a1 : Int32) (a2 : Int32) (a3 : Int32) (a4 : Int32) (μ : Mem), k8 a0 a1 a2 a3 a4 μ = some (rv, μ9) → V x g 7 0 0 μ 8 [(0, aR a0), (1, aI a1), (2, aI a2), (3, aI a3), (4, aI a4)] []) {a0 : Option Nat} {a1 : Int32} {a2 : Int32} {a3 : Int32} {a4 : Int32} {s0 : Int32} {μ : Mem} (h : f_X0_readValue_45 N k8 a0 a1 a2 a3 a4 s0 μ = some (rv, μ9)) : V x g 7 0 0 μ 45 [(0, aR a0), (1, aI a1), (2, aI a2), (3, aI a3), (4, aI a4)] [aI s0] := by
  unfold f_X0_readValue_45 at h
  refine v_istore C dX0_readValue_45 (by decide) ?_
  refine v_iload C dX0_readValue_47 rfl ?_
  refine v_if_eq (tgt := 62) C dX0_readValue_49 (by decide) (fun c => ?_) (fun c => ?_)
  · replace h := ifT h c
    exact v_sb (p_X0_readValue_62 C F hk8 h) ⟨rfl, rfl, rfl, rfl, rfl, rfl, trivial⟩
  · replace h := ifF h c
    refine v_aload_n C dX0_readValue_52 rfl ?_
    refine v_dup C dX0_readValue_53 rfl ?_
    obtain ⟨v, e, h⟩ := ob h
    refine v_getI C dX0_readValue_54 gf_X0_54 e ?_
    refine v_iconst (v := 1) C dX0_readValue_57 rfl ?_
    refine v_iadd C dX0_readValue_58 ?_
    obtain ⟨m, e, h⟩ := ob h
    refine v_putI C dX0_readValue_59 (pf_X0_54 _) e ?_
    exact v_sb (p_X0_readValue_62 C F hk8 h) ⟨rfl, rfl, rfl, rfl, rfl, rfl, trivial⟩
set_option maxRecDepth 100000 in
set_option maxHeartbeats 4000000 in
theorem pH_X0_readValue_8 {x : CX} {l : Launch} {g : CG} {rv : Int32} {μ0 μ9 : Mem} (C : Cx x l g mi_X0_readValue) (F : Prom x g mi_X0_readValue μ0 (some (aI rv)) μ9) {N : Nat} {k8 : (Option Nat) → Int32 → Int32 → Int32 → Int32 → Mem → Option (Int32 × Mem)} (hk8 : ∀ (a0 : Option Nat) (a1 : Int32) (a2 : Int32) (a3 : Int32) (a4 : Int32) (μ : Mem), k8 a0 a1 a2 a3 a4 μ = some (rv, μ9) → V x g 7 0 0 μ 8 [(0, aR a0), (1, aI a1), (2, aI a2), (3, aI a3), (4, aI a4)] []) {a0 : Option Nat} {a1 : Int32} {a2 : Int32} {a3 : Int32} {a4 : Int32} {μ : Mem} (h : H_X0_readValue_8 N k8 a0 a1 a2 a3 a4 μ = some (rv, μ9)) : V x g 7 0 0 μ 8 [(0, aR a0), (1, aI a1), (2, aI a2), (3, aI a3), (4, aI a4)] [] := by
  unfold H_X0_readValue_8 at h
  refine v_iload C dX0_readValue_8 rfl ?_
  refine v_aload_n C dX0_readValue_10 rfl ?_
  obtain ⟨v, e, h⟩ := ob h
  refine v_getR C dX0_readValue_11 gf_X0_23 e ?_
  obtain ⟨v, e, h⟩ := ob h
  refine v_getI C dX0_readValue_14 gf_X0_70 e ?_
  refine v_icmp_gt (tgt := 127) C dX0_readValue_17 (by decide) (fun c => ?_) (fun c => ?_)
  · replace h := ifT h c
    exact v_sb (p_X0_readValue_127 C F h) ⟨rfl, trivial⟩
  · replace h := ifF h c
    refine v_aload_n C dX0_readValue_20 rfl ?_
    obtain ⟨v, e, h⟩ := ob h
    refine v_getI C dX0_readValue_21 gf_X0_37 e ?_
    refine v_if_ne (tgt := 127) C dX0_readValue_24 (by decide) (fun c => ?_) (fun c => ?_)
    · replace h := ifT h c
      exact v_sb (p_X0_readValue_127 C F h) ⟨rfl, trivial⟩
    · replace h := ifF h c
      refine v_aload_n C dX0_readValue_27 rfl ?_
      refine v_aload_n C dX0_readValue_28 rfl ?_
      obtain ⟨v, e, h⟩ := ob h
      refine v_getI C dX0_readValue_29 gf_X0_54 e ?_
      obtain ⟨b, e0, h⟩ := ob h
      obtain ⟨q, e, h⟩ := ob h
      refine v_callV (As := [_]) C dX0_readValue_32 cf_X0_100 (rm_X0_readValue_X0_kindAt) ⟨rfl, rfl⟩ e0 rfl (Nat.le_of_ble_eq_true rfl) (c_X0_kindAt _ _ N _ _ _ q.1 q.2 e) ?_
      refine v_bipush (v := 45) C dX0_readValue_35 rfl ?_
      refine v_icmp_ne (tgt := 44) C dX0_readValue_37 (by decide) (fun c => ?_) (fun c => ?_)
      · replace h := ifT h c
        refine v_iconst (v := 0) C dX0_readValue_44 rfl ?_
        exact v_sb (p_X0_readValue_45 C F hk8 h) ⟨rfl, rfl, rfl, rfl, rfl, trivial⟩
      · replace h := ifF h c
        refine v_iconst (v := 1) C dX0_readValue_40 rfl ?_
        refine v_goto (tgt := 45) C dX0_readValue_41 (by decide) ?_
        exact v_sb (p_X0_readValue_45 C F hk8 h) ⟨rfl, rfl, rfl, rfl, rfl, trivial⟩
set_option maxRecDepth 100000 in
set_option maxHeartbeats 4000000 in
theorem pL_X0_readValue_8 {x : CX} {l : Launch} {g : CG} {rv : Int32} {μ0 μ9 : Mem} (C : Cx x l g mi_X0_readValue) (F : Prom x g mi_X0_readValue μ0 (some (aI rv)) μ9) (N : Nat) (n : Nat) : ∀ (a0 : Option Nat) (a1 : Int32) (a2 : Int32) (a3 : Int32) (a4 : Int32) (μ : Mem), L_X0_readValue_8 N n a0 a1 a2 a3 a4 μ = some (rv, μ9) → V x g 7 0 0 μ 8 [(0, aR a0), (1, aI a1), (2, aI a2), (3, aI a3), (4, aI a4)] [] := by
  induction n with
  | zero => intro a0 a1 a2 a3 a4 μ h; cases h
  | succ n ih => intro a0 a1 a2 a3 a4 μ h; exact pH_X0_readValue_8 C F ih h
set_option maxRecDepth 100000 in
set_option maxHeartbeats 4000000 in
theorem p_X0_readValue {x : CX} {l : Launch} {g : CG} {rv : Int32} {μ0 μ9 : Mem} (C : Cx x l g mi_X0_readValue) (F : Prom x g mi_X0_readValue μ0 (some (aI rv)) μ9) {N : Nat} {a0 : Option Nat} {a1 : Int32} {μ : Mem} (h : f_X0_readValue N a0 a1 μ = some (rv, μ9)) : V x g 7 0 0 μ 0 [(0, aR a0), (1, aI a1)] [] := by
  unfold f_X0_readValue at h
  refine v_iconst (v := 0) C dX0_readValue_0 rfl ?_
  refine v_istore_n C dX0_readValue_1 (by decide) ?_
  refine v_bipush (v := 43) C dX0_readValue_2 rfl ?_
  refine v_istore_n C dX0_readValue_4 (by decide) ?_
  refine v_iconst (v := 0) C dX0_readValue_5 rfl ?_
  refine v_istore C dX0_readValue_6 (by decide) ?_
  exact v_sb (pL_X0_readValue_8 C F N N _ _ _ _ _ _ h) ⟨rfl, rfl, rfl, rfl, rfl, trivial⟩
set_option maxRecDepth 100000 in
set_option maxHeartbeats 4000000 in
theorem c_X0_readValue (l : Launch) (g : CG) (N : Nat) (a0 : Option Nat) (a1 : Int32) (μ : Mem) (rv : Int32) (μ9 : Mem) (h : f_X0_readValue N a0 a1 μ = some (rv, μ9)) : Ct l yX0_readValue mi_X0_readValue g [aR a0, aI a1] μ (some (aI rv)) μ9 := ct_of ⟨by decide, rfl, rfl⟩ (Nat.le_of_ble_eq_true rfl) fun x C F => p_X0_readValue C F h
def f_X0_passOrigin_28 (N : Nat) (μ : Mem) : Option (Unit × Mem) :=
  some ((), μ)
def f_X0_passOrigin (N : Nat) (a0 : Option Nat) (μ : Mem) : Option (Unit × Mem) :=
  (mfI μ a0 0 9).bind fun v1 =>
  (mpI μ a0 0 9 (v1 + 1)).bind fun μ2 =>
  (mck μ2 a0 0).bind fun b4 =>
  (f_X0_readValue N (some b4) 1 μ2).bind fun q3 =>
  (mfI q3.2 a0 0 4).bind fun v5 =>
  if ¬ v5 = 0 then
    f_X0_passOrigin_28 N q3.2
  else
    (mpI q3.2 a0 0 10 q3.1).bind fun μ6 =>
    f_X0_passOrigin_28 N μ6
set_option maxRecDepth 100000 in
set_option maxHeartbeats 4000000 in
theorem p_X0_passOrigin_28 {x : CX} {l : Launch} {g : CG} {rv : Unit} {μ0 μ9 : Mem} (C : Cx x l g mi_X0_passOrigin) (F : Prom x g mi_X0_passOrigin μ0 none μ9) {N : Nat} {μ : Mem} (h : f_X0_passOrigin_28 N μ = some (rv, μ9)) : V x g 2 0 0 μ 28 [] [] := by
  unfold f_X0_passOrigin_28 at h
  exact v_vret C F ⟨rfl, rfl, Nat.le_refl _⟩ dX0_passOrigin_28 h
set_option maxRecDepth 100000 in
set_option maxHeartbeats 4000000 in
theorem p_X0_passOrigin {x : CX} {l : Launch} {g : CG} {rv : Unit} {μ0 μ9 : Mem} (C : Cx x l g mi_X0_passOrigin) (F : Prom x g mi_X0_passOrigin μ0 none μ9) {N : Nat} {a0 : Option Nat} {μ : Mem} (h : f_X0_passOrigin N a0 μ = some (rv, μ9)) : V x g 2 0 0 μ 0 [(0, aR a0)] [] := by
  unfold f_X0_passOrigin at h
  refine v_aload_n C dX0_passOrigin_0 rfl ?_
  refine v_dup C dX0_passOrigin_1 rfl ?_
  obtain ⟨v, e, h⟩ := ob h
  refine v_getI C dX0_passOrigin_2 gf_X0_54 e ?_
  refine v_iconst (v := 1) C dX0_passOrigin_5 rfl ?_
  refine v_iadd C dX0_passOrigin_6 ?_
  obtain ⟨m, e, h⟩ := ob h
  refine v_putI C dX0_passOrigin_7 (pf_X0_54 _) e ?_
  refine v_aload_n C dX0_passOrigin_10 rfl ?_
  refine v_iconst (v := 1) C dX0_passOrigin_11 rfl ?_
  obtain ⟨b, e0, h⟩ := ob h
  obtain ⟨q, e, h⟩ := ob h
  refine v_callV (As := [_]) C dX0_passOrigin_12 cf_X0_163 (rm_X0_passOrigin_X0_readValue) ⟨rfl, rfl⟩ e0 rfl (Nat.le_of_ble_eq_true rfl) (c_X0_readValue _ _ N _ _ _ q.1 q.2 e) ?_
  refine v_istore_n C dX0_passOrigin_15 (by decide) ?_
  refine v_aload_n C dX0_passOrigin_16 rfl ?_
  obtain ⟨v, e, h⟩ := ob h
  refine v_getI C dX0_passOrigin_17 gf_X0_37 e ?_
  refine v_if_ne (tgt := 28) C dX0_passOrigin_20 (by decide) (fun c => ?_) (fun c => ?_)
  · replace h := ifT h c
    exact v_sb (p_X0_passOrigin_28 C F h) trivial
  · replace h := ifF h c
    refine v_aload_n C dX0_passOrigin_23 rfl ?_
    refine v_iload_n C dX0_passOrigin_24 rfl ?_
    obtain ⟨m, e, h⟩ := ob h
    refine v_putI C dX0_passOrigin_25 (pf_X0_57 _) e ?_
    exact v_sb (p_X0_passOrigin_28 C F h) trivial
set_option maxRecDepth 100000 in
set_option maxHeartbeats 4000000 in
theorem c_X0_passOrigin (l : Launch) (g : CG) (N : Nat) (a0 : Option Nat) (μ : Mem) (rv : Unit) (μ9 : Mem) (h : f_X0_passOrigin N a0 μ = some (rv, μ9)) : Ct l yX0_passOrigin mi_X0_passOrigin g [aR a0] μ none μ9 := ct_of ⟨by decide, rfl, rfl⟩ (Nat.le_of_ble_eq_true rfl) fun x C F => p_X0_passOrigin C F h
def f_X0_passEquation_54 (N : Nat) (μ : Mem) : Option (Unit × Mem) :=
  some ((), μ)
def f_X0_passEquation (N : Nat) (a0 : Option Nat) (μ : Mem) : Option (Unit × Mem) :=
  (mfR μ a0 0 1).bind fun v1 =>
  (mfI μ a0 0 9).bind fun v2 =>
  (mck μ v1 9).bind fun b4 =>
  (f_X9_valueOf N (some b4) v2 μ).bind fun q3 =>
  (mck q3.2 a0 0).bind fun b6 =>
  (f_X0_mayTell N (some b6) 2 q3.2).bind fun q5 =>
  if ¬ q5.1 = 0 then
    (mfI q5.2 a0 0 9).bind fun v7 =>
    (mpI q5.2 a0 0 9 (v7 + 2)).bind fun μ8 =>
    (mck μ8 a0 0).bind fun b10 =>
    (f_X0_readValue N (some b10) 1 μ8).bind fun q9 =>
    (mfI q9.2 a0 0 4).bind fun v11 =>
    if ¬ v11 = 0 then
      f_X0_passEquation_54 N q9.2
    else
      (mfR q9.2 a0 0 0).bind fun v12 =>
      (mck q9.2 v12 4).bind fun b14 =>
      (f_X4_tell N (some b14) q3.1 q9.1 2 q9.2).bind fun q13 =>
      f_X0_passEquation_54 N q13.2
  else
    some ((), q5.2)
set_option maxRecDepth 100000 in
set_option maxHeartbeats 4000000 in
theorem p_X0_passEquation_54 {x : CX} {l : Launch} {g : CG} {rv : Unit} {μ0 μ9 : Mem} (C : Cx x l g mi_X0_passEquation) (F : Prom x g mi_X0_passEquation μ0 none μ9) {N : Nat} {μ : Mem} (h : f_X0_passEquation_54 N μ = some (rv, μ9)) : V x g 3 0 0 μ 54 [] [] := by
  unfold f_X0_passEquation_54 at h
  exact v_vret C F ⟨rfl, rfl, Nat.le_refl _⟩ dX0_passEquation_54 h
set_option maxRecDepth 100000 in
set_option maxHeartbeats 4000000 in
theorem p_X0_passEquation {x : CX} {l : Launch} {g : CG} {rv : Unit} {μ0 μ9 : Mem} (C : Cx x l g mi_X0_passEquation) (F : Prom x g mi_X0_passEquation μ0 none μ9) {N : Nat} {a0 : Option Nat} {μ : Mem} (h : f_X0_passEquation N a0 μ = some (rv, μ9)) : V x g 3 0 0 μ 0 [(0, aR a0)] [] := by
  unfold f_X0_passEquation at h
  refine v_aload_n C dX0_passEquation_0 rfl ?_
  obtain ⟨v, e, h⟩ := ob h
  refine v_getR C dX0_passEquation_1 gf_X0_23 e ?_
  refine v_aload_n C dX0_passEquation_4 rfl ?_
  obtain ⟨v, e, h⟩ := ob h
  refine v_getI C dX0_passEquation_5 gf_X0_54 e ?_
  obtain ⟨b, e0, h⟩ := ob h
  obtain ⟨q, e, h⟩ := ob h
  refine v_callV (As := [_]) C dX0_passEquation_8 cf_X0_108 (rm_X0_passEquation_X9_valueOf) ⟨rfl, rfl⟩ e0 rfl (Nat.le_of_ble_eq_true rfl) (c_X9_valueOf _ _ N _ _ _ q.1 q.2 e) ?_
  refine v_istore_n C dX0_passEquation_11 (by decide) ?_
  refine v_aload_n C dX0_passEquation_12 rfl ?_
  refine v_iconst (v := 2) C dX0_passEquation_13 rfl ?_
  obtain ⟨b, e0, h⟩ := ob h
  obtain ⟨q, e, h⟩ := ob h
  refine v_callV (As := [_]) C dX0_passEquation_14 cf_X0_104 (rm_X0_passEquation_X0_mayTell) ⟨rfl, rfl⟩ e0 rfl (Nat.le_of_ble_eq_true rfl) (c_X0_mayTell _ _ N _ _ _ q.1 q.2 e) ?_
  refine v_if_ne (tgt := 21) C dX0_passEquation_17 (by decide) (fun c => ?_) (fun c => ?_)
  · replace h := ifT h c
    refine v_aload_n C dX0_passEquation_21 rfl ?_
    refine v_dup C dX0_passEquation_22 rfl ?_
    obtain ⟨v, e, h⟩ := ob h
    refine v_getI C dX0_passEquation_23 gf_X0_54 e ?_
    refine v_iconst (v := 2) C dX0_passEquation_26 rfl ?_
    refine v_iadd C dX0_passEquation_27 ?_
    obtain ⟨m, e, h⟩ := ob h
    refine v_putI C dX0_passEquation_28 (pf_X0_54 _) e ?_
    refine v_aload_n C dX0_passEquation_31 rfl ?_
    refine v_iconst (v := 1) C dX0_passEquation_32 rfl ?_
    obtain ⟨b, e0, h⟩ := ob h
    obtain ⟨q, e, h⟩ := ob h
    refine v_callV (As := [_]) C dX0_passEquation_33 cf_X0_163 (rm_X0_passEquation_X0_readValue) ⟨rfl, rfl⟩ e0 rfl (Nat.le_of_ble_eq_true rfl) (c_X0_readValue _ _ N _ _ _ q.1 q.2 e) ?_
    refine v_istore_n C dX0_passEquation_36 (by decide) ?_
    refine v_aload_n C dX0_passEquation_37 rfl ?_
    obtain ⟨v, e, h⟩ := ob h
    refine v_getI C dX0_passEquation_38 gf_X0_37 e ?_
    refine v_if_ne (tgt := 54) C dX0_passEquation_41 (by decide) (fun c => ?_) (fun c => ?_)
    · replace h := ifT h c
      exact v_sb (p_X0_passEquation_54 C F h) trivial
    · replace h := ifF h c
      refine v_aload_n C dX0_passEquation_44 rfl ?_
      obtain ⟨v, e, h⟩ := ob h
      refine v_getR C dX0_passEquation_45 gf_X0_12 e ?_
      refine v_iload_n C dX0_passEquation_48 rfl ?_
      refine v_iload_n C dX0_passEquation_49 rfl ?_
      refine v_iconst (v := 2) C dX0_passEquation_50 rfl ?_
      obtain ⟨b, e0, h⟩ := ob h
      obtain ⟨q, e, h⟩ := ob h
      refine v_callV (As := [_, _, _]) C dX0_passEquation_51 cf_X0_111 (rm_X0_passEquation_X4_tell) ⟨rfl, rfl⟩ e0 rfl (Nat.le_of_ble_eq_true rfl) (c_X4_tell _ _ N _ _ _ _ _ q.1 q.2 e) ?_
      exact v_sb (p_X0_passEquation_54 C F h) trivial
  · replace h := ifF h c
    exact v_vret C F ⟨rfl, rfl, Nat.le_refl _⟩ dX0_passEquation_20 h
set_option maxRecDepth 100000 in
set_option maxHeartbeats 4000000 in
theorem c_X0_passEquation (l : Launch) (g : CG) (N : Nat) (a0 : Option Nat) (μ : Mem) (rv : Unit) (μ9 : Mem) (h : f_X0_passEquation N a0 μ = some (rv, μ9)) : Ct l yX0_passEquation mi_X0_passEquation g [aR a0] μ none μ9 := ct_of ⟨by decide, rfl, rfl⟩ (Nat.le_of_ble_eq_true rfl) fun x C F => p_X0_passEquation C F h
def f_X0_passPage_88 (N : Nat) (μ : Mem) : Option (Unit × Mem) :=
  some ((), μ)
def f_X0_passPage (N : Nat) (a0 : Option Nat) (μ : Mem) : Option (Unit × Mem) :=
  (mfI μ a0 0 9).bind fun v1 =>
  (mpI μ a0 0 9 (v1 + 1)).bind fun μ2 =>
  (mfI μ2 a0 0 9).bind fun v3 =>
  (mck μ2 a0 0).bind fun b5 =>
  (f_X0_beginsValue N (some b5) v3 μ2).bind fun q4 =>
  if ¬ q4.1 = 0 then
    (mfI q4.2 a0 0 9).bind fun v6 =>
    (mck q4.2 a0 0).bind fun b8 =>
    (f_X0_readValue N (some b8) 1 q4.2).bind fun q7 =>
    (mfI q7.2 a0 0 4).bind fun v9 =>
    if v9 = 0 then
      if q7.1 < (32 : Int32) then
        (mpI q7.2 a0 0 10 (q7.1 * 128)).bind fun μ10 =>
        f_X0_passPage_88 N μ10
      else
        (mck q7.2 a0 0).bind fun b12 =>
        (f_X0_report N (some b12) 6 v6 q7.2).bind fun q11 =>
        f_X0_passPage_88 N q11.2
    else
      some ((), q7.2)
  else
    (mfI q4.2 a0 0 10).bind fun v13 =>
    if (128 : Int32) = 0 then none else
    (mpI q4.2 a0 0 10 ((((v13 + 128) - 1) / 128) * 128)).bind fun μ14 =>
    some ((), μ14)
set_option maxRecDepth 100000 in
set_option maxHeartbeats 4000000 in
theorem p_X0_passPage_88 {x : CX} {l : Launch} {g : CG} {rv : Unit} {μ0 μ9 : Mem} (C : Cx x l g mi_X0_passPage) (F : Prom x g mi_X0_passPage μ0 none μ9) {N : Nat} {μ : Mem} (h : f_X0_passPage_88 N μ = some (rv, μ9)) : V x g 3 0 0 μ 88 [] [] := by
  unfold f_X0_passPage_88 at h
  exact v_vret C F ⟨rfl, rfl, Nat.le_refl _⟩ dX0_passPage_88 h
set_option maxRecDepth 100000 in
set_option maxHeartbeats 4000000 in
theorem p_X0_passPage {x : CX} {l : Launch} {g : CG} {rv : Unit} {μ0 μ9 : Mem} (C : Cx x l g mi_X0_passPage) (F : Prom x g mi_X0_passPage μ0 none μ9) {N : Nat} {a0 : Option Nat} {μ : Mem} (h : f_X0_passPage N a0 μ = some (rv, μ9)) : V x g 3 0 0 μ 0 [(0, aR a0)] [] := by
  unfold f_X0_passPage at h
  refine v_aload_n C dX0_passPage_0 rfl ?_
  refine v_dup C dX0_passPage_1 rfl ?_
  obtain ⟨v, e, h⟩ := ob h
  refine v_getI C dX0_passPage_2 gf_X0_54 e ?_
  refine v_iconst (v := 1) C dX0_passPage_5 rfl ?_
  refine v_iadd C dX0_passPage_6 ?_
  obtain ⟨m, e, h⟩ := ob h
  refine v_putI C dX0_passPage_7 (pf_X0_54 _) e ?_
  refine v_aload_n C dX0_passPage_10 rfl ?_
  refine v_aload_n C dX0_passPage_11 rfl ?_
  obtain ⟨v, e, h⟩ := ob h
  refine v_getI C dX0_passPage_12 gf_X0_54 e ?_
  obtain ⟨b, e0, h⟩ := ob h
  obtain ⟨q, e, h⟩ := ob h
  refine v_callV (As := [_]) C dX0_passPage_15 cf_X0_167 (rm_X0_passPage_X0_beginsValue) ⟨rfl, rfl⟩ e0 rfl (Nat.le_of_ble_eq_true rfl) (c_X0_beginsValue _ _ N _ _ _ q.1 q.2 e) ?_
  refine v_if_ne (tgt := 44) C dX0_passPage_18 (by decide) (fun c => ?_) (fun c => ?_)
  · replace h := ifT h c
    refine v_aload_n C dX0_passPage_44 rfl ?_
    obtain ⟨v, e, h⟩ := ob h
    refine v_getI C dX0_passPage_45 gf_X0_54 e ?_
    refine v_istore_n C dX0_passPage_48 (by decide) ?_
    refine v_aload_n C dX0_passPage_49 rfl ?_
    refine v_iconst (v := 1) C dX0_passPage_50 rfl ?_
    obtain ⟨b, e0, h⟩ := ob h
    obtain ⟨q, e, h⟩ := ob h
    refine v_callV (As := [_]) C dX0_passPage_51 cf_X0_163 (rm_X0_passPage_X0_readValue) ⟨rfl, rfl⟩ e0 rfl (Nat.le_of_ble_eq_true rfl) (c_X0_readValue _ _ N _ _ _ q.1 q.2 e) ?_
    refine v_istore_n C dX0_passPage_54 (by decide) ?_
    refine v_aload_n C dX0_passPage_55 rfl ?_
    obtain ⟨v, e, h⟩ := ob h
    refine v_getI C dX0_passPage_56 gf_X0_37 e ?_
    refine v_if_eq (tgt := 63) C dX0_passPage_59 (by decide) (fun c => ?_) (fun c => ?_)
    · replace h := ifT h c
      refine v_iload_n C dX0_passPage_63 rfl ?_
      refine v_bipush (v := 32) C dX0_passPage_64 rfl ?_
      refine v_icmp_lt (tgt := 79) C dX0_passPage_66 (by decide) (fun c => ?_) (fun c => ?_)
      · replace h := ifT h c
        refine v_aload_n C dX0_passPage_79 rfl ?_
        refine v_iload_n C dX0_passPage_80 rfl ?_
        refine v_sipush (v := 128) C dX0_passPage_81 rfl ?_
        refine v_imul C dX0_passPage_84 ?_
        obtain ⟨m, e, h⟩ := ob h
        refine v_putI C dX0_passPage_85 (pf_X0_57 _) e ?_
        exact v_sb (p_X0_passPage_88 C F h) trivial
      · replace h := ifF h c
        refine v_aload_n C dX0_passPage_69 rfl ?_
        refine v_bipush (v := 6) C dX0_passPage_70 rfl ?_
        refine v_iload_n C dX0_passPage_72 rfl ?_
        obtain ⟨b, e0, h⟩ := ob h
        obtain ⟨q, e, h⟩ := ob h
        refine v_callV (As := [_, _]) C dX0_passPage_73 cf_X0_87 (rm_X0_passPage_X0_report) ⟨rfl, rfl⟩ e0 rfl (Nat.le_of_ble_eq_true rfl) (c_X0_report _ _ N _ _ _ _ q.1 q.2 e) ?_
        refine v_goto (tgt := 88) C dX0_passPage_76 (by decide) ?_
        exact v_sb (p_X0_passPage_88 C F h) trivial
    · replace h := ifF h c
      exact v_vret C F ⟨rfl, rfl, Nat.le_refl _⟩ dX0_passPage_62 h
  · replace h := ifF h c
    refine v_aload_n C dX0_passPage_21 rfl ?_
    refine v_aload_n C dX0_passPage_22 rfl ?_
    obtain ⟨v, e, h⟩ := ob h
    refine v_getI C dX0_passPage_23 gf_X0_57 e ?_
    refine v_sipush (v := 128) C dX0_passPage_26 rfl ?_
    refine v_iadd C dX0_passPage_29 ?_
    refine v_iconst (v := 1) C dX0_passPage_30 rfl ?_
    refine v_isub C dX0_passPage_31 ?_
    refine v_sipush (v := 128) C dX0_passPage_32 rfl ?_
    obtain ⟨c0, h⟩ := oz h
    refine v_idiv C dX0_passPage_35 c0 ?_
    refine v_sipush (v := 128) C dX0_passPage_36 rfl ?_
    refine v_imul C dX0_passPage_39 ?_
    obtain ⟨m, e, h⟩ := ob h
    refine v_putI C dX0_passPage_40 (pf_X0_57 _) e ?_
    exact v_vret C F ⟨rfl, rfl, Nat.le_refl _⟩ dX0_passPage_43 h
set_option maxRecDepth 100000 in
set_option maxHeartbeats 4000000 in
theorem c_X0_passPage (l : Launch) (g : CG) (N : Nat) (a0 : Option Nat) (μ : Mem) (rv : Unit) (μ9 : Mem) (h : f_X0_passPage N a0 μ = some (rv, μ9)) : Ct l yX0_passPage mi_X0_passPage g [aR a0] μ none μ9 := ct_of ⟨by decide, rfl, rfl⟩ (Nat.le_of_ble_eq_true rfl) fun x C F => p_X0_passPage C F h
def f_X0_passRadix (N : Nat) (a0 : Option Nat) (a1 : Int32) (μ : Mem) : Option (Unit × Mem) :=
  (mpZ μ a0 0 8 a1).bind fun μ1 =>
  (mfI μ1 a0 0 9).bind fun v2 =>
  (mpI μ1 a0 0 9 (v2 + 1)).bind fun μ3 =>
  some ((), μ3)
set_option maxRecDepth 100000 in
set_option maxHeartbeats 4000000 in
theorem p_X0_passRadix {x : CX} {l : Launch} {g : CG} {rv : Unit} {μ0 μ9 : Mem} (C : Cx x l g mi_X0_passRadix) (F : Prom x g mi_X0_passRadix μ0 none μ9) {N : Nat} {a0 : Option Nat} {a1 : Int32} {μ : Mem} (h : f_X0_passRadix N a0 a1 μ = some (rv, μ9)) : V x g 2 0 0 μ 0 [(0, aR a0), (1, aI a1)] [] := by
  unfold f_X0_passRadix at h
  refine v_aload_n C dX0_passRadix_0 rfl ?_
  refine v_iload_n C dX0_passRadix_1 rfl ?_
  obtain ⟨m, e, h⟩ := ob h
  refine v_putZ C dX0_passRadix_2 (pf_X0_51 _) e ?_
  refine v_aload_n C dX0_passRadix_5 rfl ?_
  refine v_dup C dX0_passRadix_6 rfl ?_
  obtain ⟨v, e, h⟩ := ob h
  refine v_getI C dX0_passRadix_7 gf_X0_54 e ?_
  refine v_iconst (v := 1) C dX0_passRadix_10 rfl ?_
  refine v_iadd C dX0_passRadix_11 ?_
  obtain ⟨m, e, h⟩ := ob h
  refine v_putI C dX0_passRadix_12 (pf_X0_54 _) e ?_
  exact v_vret C F ⟨rfl, rfl, Nat.le_refl _⟩ dX0_passRadix_15 h
set_option maxRecDepth 100000 in
set_option maxHeartbeats 4000000 in
theorem c_X0_passRadix (l : Launch) (g : CG) (N : Nat) (a0 : Option Nat) (a1 : Int32) (μ : Mem) (rv : Unit) (μ9 : Mem) (h : f_X0_passRadix N a0 a1 μ = some (rv, μ9)) : Ct l yX0_passRadix mi_X0_passRadix g [aR a0, aI a1] μ none μ9 := ct_of ⟨by decide, rfl, rfl⟩ (Nat.le_of_ble_eq_true rfl) fun x C F => p_X0_passRadix C F h
def f_X7_hasLiteral_40 (N : Nat) (μ : Mem) : Option (Int32 × Mem) :=
  retZ 0 μ
def H_X7_hasLiteral_6 (N : Nat) (k6 : (Option Nat) → Int32 → Int32 → Int32 → Mem → Option (Int32 × Mem)) (a0 : Option Nat) (a1 : Int32) (a2 : Int32) (a3 : Int32) (μ : Mem) : Option (Int32 × Mem) :=
  if (a1 + a2) ≤ a3 then
    f_X7_hasLiteral_40 N μ
  else
    if (4096 : Int32) ≤ a3 then
      f_X7_hasLiteral_40 N μ
    else
      (mfR μ a0 7 0).bind fun v1 =>
      (maI μ 0 v1 a3).bind fun v2 =>
      if v2 < (4096 : Int32) then
        k6 a0 a1 a2 (a3 + 1) μ
      else
        retZ 1 μ
def L_X7_hasLiteral_6 (N : Nat) : Nat → (Option Nat) → Int32 → Int32 → Int32 → Mem → Option (Int32 × Mem)
  | 0 => fun _ _ _ _ _ => none
  | n + 1 => H_X7_hasLiteral_6 N (L_X7_hasLiteral_6 N n)
def f_X7_hasLiteral (N : Nat) (a0 : Option Nat) (a1 : Int32) (a2 : Int32) (μ : Mem) : Option (Int32 × Mem) :=
  L_X7_hasLiteral_6 N N a0 a1 a2 (mmax 0 a1) μ
set_option maxRecDepth 100000 in
set_option maxHeartbeats 4000000 in
theorem p_X7_hasLiteral_40 {x : CX} {l : Launch} {g : CG} {rv : Int32} {μ0 μ9 : Mem} (C : Cx x l g mi_X7_hasLiteral) (F : Prom x g mi_X7_hasLiteral μ0 (some (aI rv)) μ9) {N : Nat} {μ : Mem} (h : f_X7_hasLiteral_40 N μ = some (rv, μ9)) : V x g 4 0 0 μ 40 [] [] := by
  unfold f_X7_hasLiteral_40 at h
  refine v_iconst (v := 0) C dX7_hasLiteral_40 rfl ?_
  exact v_zret C F ⟨rfl, rfl, Nat.le_refl _⟩ dX7_hasLiteral_41 h
set_option maxRecDepth 100000 in
set_option maxHeartbeats 4000000 in
theorem pH_X7_hasLiteral_6 {x : CX} {l : Launch} {g : CG} {rv : Int32} {μ0 μ9 : Mem} (C : Cx x l g mi_X7_hasLiteral) (F : Prom x g mi_X7_hasLiteral μ0 (some (aI rv)) μ9) {N : Nat} {k6 : (Option Nat) → Int32 → Int32 → Int32 → Mem → Option (Int32 × Mem)} (hk6 : ∀ (a0 : Option Nat) (a1 : Int32) (a2 : Int32) (a3 : Int32) (μ : Mem), k6 a0 a1 a2 a3 μ = some (rv, μ9) → V x g 4 0 0 μ 6 [(0, aR a0), (1, aI a1), (2, aI a2), (3, aI a3)] []) {a0 : Option Nat} {a1 : Int32} {a2 : Int32} {a3 : Int32} {μ : Mem} (h : H_X7_hasLiteral_6 N k6 a0 a1 a2 a3 μ = some (rv, μ9)) : V x g 4 0 0 μ 6 [(0, aR a0), (1, aI a1), (2, aI a2), (3, aI a3)] [] := by
  unfold H_X7_hasLiteral_6 at h
  refine v_iload_n C dX7_hasLiteral_6 rfl ?_
  refine v_iload_n C dX7_hasLiteral_7 rfl ?_
  refine v_iload_n C dX7_hasLiteral_8 rfl ?_
  refine v_iadd C dX7_hasLiteral_9 ?_
  refine v_icmp_ge (tgt := 40) C dX7_hasLiteral_10 (by decide) (fun c => ?_) (fun c => ?_)
  · replace h := ifT h c
    exact v_sb (p_X7_hasLiteral_40 C F h) trivial
  · replace h := ifF h c
    refine v_iload_n C dX7_hasLiteral_13 rfl ?_
    refine v_sipush (v := 4096) C dX7_hasLiteral_14 rfl ?_
    refine v_icmp_ge (tgt := 40) C dX7_hasLiteral_17 (by decide) (fun c => ?_) (fun c => ?_)
    · replace h := ifT h c
      exact v_sb (p_X7_hasLiteral_40 C F h) trivial
    · replace h := ifF h c
      refine v_aload_n C dX7_hasLiteral_20 rfl ?_
      obtain ⟨v, e, h⟩ := ob h
      refine v_getR C dX7_hasLiteral_21 gf_X7_9 e ?_
      refine v_iload_n C dX7_hasLiteral_24 rfl ?_
      obtain ⟨v, e, h⟩ := ob h
      refine v_iaload C dX7_hasLiteral_25 e ?_
      refine v_sipush (v := 4096) C dX7_hasLiteral_26 rfl ?_
      refine v_icmp_lt (tgt := 34) C dX7_hasLiteral_29 (by decide) (fun c => ?_) (fun c => ?_)
      · replace h := ifT h c
        refine v_iinc (w := 1) C dX7_hasLiteral_34 rfl rfl (by decide) ?_
        refine v_goto (tgt := 6) C dX7_hasLiteral_37 (by decide) ?_
        exact v_sb (hk6 _ _ _ _ _ h) ⟨rfl, rfl, rfl, rfl, trivial⟩
      · replace h := ifF h c
        refine v_iconst (v := 1) C dX7_hasLiteral_32 rfl ?_
        exact v_zret C F ⟨rfl, rfl, Nat.le_refl _⟩ dX7_hasLiteral_33 h
set_option maxRecDepth 100000 in
set_option maxHeartbeats 4000000 in
theorem pL_X7_hasLiteral_6 {x : CX} {l : Launch} {g : CG} {rv : Int32} {μ0 μ9 : Mem} (C : Cx x l g mi_X7_hasLiteral) (F : Prom x g mi_X7_hasLiteral μ0 (some (aI rv)) μ9) (N : Nat) (n : Nat) : ∀ (a0 : Option Nat) (a1 : Int32) (a2 : Int32) (a3 : Int32) (μ : Mem), L_X7_hasLiteral_6 N n a0 a1 a2 a3 μ = some (rv, μ9) → V x g 4 0 0 μ 6 [(0, aR a0), (1, aI a1), (2, aI a2), (3, aI a3)] [] := by
  induction n with
  | zero => intro a0 a1 a2 a3 μ h; cases h
  | succ n ih => intro a0 a1 a2 a3 μ h; exact pH_X7_hasLiteral_6 C F ih h
set_option maxRecDepth 100000 in
set_option maxHeartbeats 4000000 in
theorem p_X7_hasLiteral {x : CX} {l : Launch} {g : CG} {rv : Int32} {μ0 μ9 : Mem} (C : Cx x l g mi_X7_hasLiteral) (F : Prom x g mi_X7_hasLiteral μ0 (some (aI rv)) μ9) {N : Nat} {a0 : Option Nat} {a1 : Int32} {a2 : Int32} {μ : Mem} (h : f_X7_hasLiteral N a0 a1 a2 μ = some (rv, μ9)) : V x g 4 0 0 μ 0 [(0, aR a0), (1, aI a1), (2, aI a2)] [] := by
  unfold f_X7_hasLiteral at h
  refine v_iconst (v := 0) C dX7_hasLiteral_0 rfl ?_
  refine v_iload_n C dX7_hasLiteral_1 rfl ?_
  refine v_mmax C dX7_hasLiteral_2 mx_X7_25 rfl ⟨⟨Nat.le_of_ble_eq_true rfl, Nat.le_of_ble_eq_true rfl⟩, Nat.le_of_ble_eq_true rfl, Nat.le_of_ble_eq_true rfl⟩ ?_
  refine v_istore_n C dX7_hasLiteral_5 (by decide) ?_
  exact v_sb (pL_X7_hasLiteral_6 C F N N _ _ _ _ _ h) ⟨rfl, rfl, rfl, rfl, trivial⟩
set_option maxRecDepth 100000 in
set_option maxHeartbeats 4000000 in
theorem c_X7_hasLiteral (l : Launch) (g : CG) (N : Nat) (a0 : Option Nat) (a1 : Int32) (a2 : Int32) (μ : Mem) (rv : Int32) (μ9 : Mem) (h : f_X7_hasLiteral N a0 a1 a2 μ = some (rv, μ9)) : Ct l yX7_hasLiteral mi_X7_hasLiteral g [aR a0, aI a1, aI a2] μ (some (aI rv)) μ9 := ct_of ⟨by decide, rfl, rfl⟩ (Nat.le_of_ble_eq_true rfl) fun x C F => p_X7_hasLiteral C F h
def f_X0_mayLay_74 (N : Nat) (s0 : Int32) (μ : Mem) : Option (Int32 × Mem) :=
  retZ s0 μ
def f_X0_mayLay_62 (N : Nat) (a0 : Option Nat) (μ : Mem) : Option (Int32 × Mem) :=
  (mfI μ a0 0 4).bind fun v1 =>
  if ¬ v1 = 0 then
    f_X0_mayLay_74 N 0 μ
  else
    f_X0_mayLay_74 N 1 μ
def f_X0_mayLay_26 (N : Nat) (a0 : Option Nat) (a1 : Int32) (a2 : Int32) (μ : Mem) : Option (Int32 × Mem) :=
  (mfI μ a0 0 4).bind fun v1 =>
  if ¬ v1 = 0 then
    f_X0_mayLay_62 N a0 μ
  else
    (mfI μ a0 0 6).bind fun v2 =>
    if v2 = 0 then
      f_X0_mayLay_62 N a0 μ
    else
      (mfR μ a0 0 3).bind fun v3 =>
      (mfI μ a0 0 10).bind fun v4 =>
      (mck μ v3 7).bind fun b6 =>
      (f_X7_hasLiteral N (some b6) v4 a2 μ).bind fun q5 =>
      if q5.1 = 0 then
        f_X0_mayLay_62 N a0 q5.2
      else
        (mck q5.2 a0 0).bind fun b8 =>
        (f_X0_report N (some b8) 8 a1 q5.2).bind fun q7 =>
        f_X0_mayLay_62 N a0 q7.2
def f_X0_mayLay (N : Nat) (a0 : Option Nat) (a1 : Int32) (a2 : Int32) (μ : Mem) : Option (Int32 × Mem) :=
  (mfI μ a0 0 4).bind fun v1 =>
  if ¬ v1 = 0 then
    f_X0_mayLay_26 N a0 a1 a2 μ
  else
    (mfI μ a0 0 10).bind fun v2 =>
    if (v2 + a2) ≤ (4096 : Int32) then
      f_X0_mayLay_26 N a0 a1 a2 μ
    else
      (mck μ a0 0).bind fun b4 =>
      (f_X0_report N (some b4) 6 a1 μ).bind fun q3 =>
      f_X0_mayLay_26 N a0 a1 a2 q3.2
set_option maxRecDepth 100000 in
set_option maxHeartbeats 4000000 in
theorem p_X0_mayLay_74 {x : CX} {l : Launch} {g : CG} {rv : Int32} {μ0 μ9 : Mem} (C : Cx x l g mi_X0_mayLay) (F : Prom x g mi_X0_mayLay μ0 (some (aI rv)) μ9) {N : Nat} {s0 : Int32} {μ : Mem} (h : f_X0_mayLay_74 N s0 μ = some (rv, μ9)) : V x g 3 0 0 μ 74 [] [aI s0] := by
  unfold f_X0_mayLay_74 at h
  exact v_zret C F ⟨rfl, rfl, Nat.le_refl _⟩ dX0_mayLay_74 h
set_option maxRecDepth 100000 in
set_option maxHeartbeats 4000000 in
theorem p_X0_mayLay_62 {x : CX} {l : Launch} {g : CG} {rv : Int32} {μ0 μ9 : Mem} (C : Cx x l g mi_X0_mayLay) (F : Prom x g mi_X0_mayLay μ0 (some (aI rv)) μ9) {N : Nat} {a0 : Option Nat} {μ : Mem} (h : f_X0_mayLay_62 N a0 μ = some (rv, μ9)) : V x g 3 0 0 μ 62 [(0, aR a0)] [] := by
  unfold f_X0_mayLay_62 at h
  refine v_aload_n C dX0_mayLay_62 rfl ?_
  obtain ⟨v, e, h⟩ := ob h
  refine v_getI C dX0_mayLay_63 gf_X0_37 e ?_
  refine v_if_ne (tgt := 73) C dX0_mayLay_66 (by decide) (fun c => ?_) (fun c => ?_)
  · replace h := ifT h c
    refine v_iconst (v := 0) C dX0_mayLay_73 rfl ?_
    exact v_sb (p_X0_mayLay_74 C F h) trivial
  · replace h := ifF h c
    refine v_iconst (v := 1) C dX0_mayLay_69 rfl ?_
    refine v_goto (tgt := 74) C dX0_mayLay_70 (by decide) ?_
    exact v_sb (p_X0_mayLay_74 C F h) trivial
set_option maxRecDepth 100000 in
set_option maxHeartbeats 4000000 in
theorem p_X0_mayLay_26 {x : CX} {l : Launch} {g : CG} {rv : Int32} {μ0 μ9 : Mem} (C : Cx x l g mi_X0_mayLay) (F : Prom x g mi_X0_mayLay μ0 (some (aI rv)) μ9) {N : Nat} {a0 : Option Nat} {a1 : Int32} {a2 : Int32} {μ : Mem} (h : f_X0_mayLay_26 N a0 a1 a2 μ = some (rv, μ9)) : V x g 3 0 0 μ 26 [(0, aR a0), (1, aI a1), (2, aI a2)] [] := by
  unfold f_X0_mayLay_26 at h
  refine v_aload_n C dX0_mayLay_26 rfl ?_
  obtain ⟨v, e, h⟩ := ob h
  refine v_getI C dX0_mayLay_27 gf_X0_37 e ?_
  refine v_if_ne (tgt := 62) C dX0_mayLay_30 (by decide) (fun c => ?_) (fun c => ?_)
  · replace h := ifT h c
    exact v_sb (p_X0_mayLay_62 C F h) ⟨rfl, trivial⟩
  · replace h := ifF h c
    refine v_aload_n C dX0_mayLay_33 rfl ?_
    obtain ⟨v, e, h⟩ := ob h
    refine v_getI C dX0_mayLay_34 gf_X0_44 e ?_
    refine v_if_eq (tgt := 62) C dX0_mayLay_37 (by decide) (fun c => ?_) (fun c => ?_)
    · replace h := ifT h c
      exact v_sb (p_X0_mayLay_62 C F h) ⟨rfl, trivial⟩
    · replace h := ifF h c
      refine v_aload_n C dX0_mayLay_40 rfl ?_
      obtain ⟨v, e, h⟩ := ob h
      refine v_getR C dX0_mayLay_41 gf_X0_34 e ?_
      refine v_aload_n C dX0_mayLay_44 rfl ?_
      obtain ⟨v, e, h⟩ := ob h
      refine v_getI C dX0_mayLay_45 gf_X0_57 e ?_
      refine v_iload_n C dX0_mayLay_48 rfl ?_
      obtain ⟨b, e0, h⟩ := ob h
      obtain ⟨q, e, h⟩ := ob h
      refine v_callV (As := [_, _]) C dX0_mayLay_49 cf_X0_187 (rm_X0_mayLay_X7_hasLiteral) ⟨rfl, rfl⟩ e0 rfl (Nat.le_of_ble_eq_true rfl) (c_X7_hasLiteral _ _ N _ _ _ _ q.1 q.2 e) ?_
      refine v_if_eq (tgt := 62) C dX0_mayLay_52 (by decide) (fun c => ?_) (fun c => ?_)
      · replace h := ifT h c
        exact v_sb (p_X0_mayLay_62 C F h) ⟨rfl, trivial⟩
      · replace h := ifF h c
        refine v_aload_n C dX0_mayLay_55 rfl ?_
        refine v_bipush (v := 8) C dX0_mayLay_56 rfl ?_
        refine v_iload_n C dX0_mayLay_58 rfl ?_
        obtain ⟨b, e0, h⟩ := ob h
        obtain ⟨q, e, h⟩ := ob h
        refine v_callV (As := [_, _]) C dX0_mayLay_59 cf_X0_87 (rm_X0_mayLay_X0_report) ⟨rfl, rfl⟩ e0 rfl (Nat.le_of_ble_eq_true rfl) (c_X0_report _ _ N _ _ _ _ q.1 q.2 e) ?_
        exact v_sb (p_X0_mayLay_62 C F h) ⟨rfl, trivial⟩
set_option maxRecDepth 100000 in
set_option maxHeartbeats 4000000 in
theorem p_X0_mayLay {x : CX} {l : Launch} {g : CG} {rv : Int32} {μ0 μ9 : Mem} (C : Cx x l g mi_X0_mayLay) (F : Prom x g mi_X0_mayLay μ0 (some (aI rv)) μ9) {N : Nat} {a0 : Option Nat} {a1 : Int32} {a2 : Int32} {μ : Mem} (h : f_X0_mayLay N a0 a1 a2 μ = some (rv, μ9)) : V x g 3 0 0 μ 0 [(0, aR a0), (1, aI a1), (2, aI a2)] [] := by
  unfold f_X0_mayLay at h
  refine v_aload_n C dX0_mayLay_0 rfl ?_
  obtain ⟨v, e, h⟩ := ob h
  refine v_getI C dX0_mayLay_1 gf_X0_37 e ?_
  refine v_if_ne (tgt := 26) C dX0_mayLay_4 (by decide) (fun c => ?_) (fun c => ?_)
  · replace h := ifT h c
    exact v_sb (p_X0_mayLay_26 C F h) ⟨rfl, rfl, rfl, trivial⟩
  · replace h := ifF h c
    refine v_aload_n C dX0_mayLay_7 rfl ?_
    obtain ⟨v, e, h⟩ := ob h
    refine v_getI C dX0_mayLay_8 gf_X0_57 e ?_
    refine v_iload_n C dX0_mayLay_11 rfl ?_
    refine v_iadd C dX0_mayLay_12 ?_
    refine v_sipush (v := 4096) C dX0_mayLay_13 rfl ?_
    refine v_icmp_le (tgt := 26) C dX0_mayLay_16 (by decide) (fun c => ?_) (fun c => ?_)
    · replace h := ifT h c
      exact v_sb (p_X0_mayLay_26 C F h) ⟨rfl, rfl, rfl, trivial⟩
    · replace h := ifF h c
      refine v_aload_n C dX0_mayLay_19 rfl ?_
      refine v_bipush (v := 6) C dX0_mayLay_20 rfl ?_
      refine v_iload_n C dX0_mayLay_22 rfl ?_
      obtain ⟨b, e0, h⟩ := ob h
      obtain ⟨q, e, h⟩ := ob h
      refine v_callV (As := [_, _]) C dX0_mayLay_23 cf_X0_87 (rm_X0_mayLay_X0_report) ⟨rfl, rfl⟩ e0 rfl (Nat.le_of_ble_eq_true rfl) (c_X0_report _ _ N _ _ _ _ q.1 q.2 e) ?_
      exact v_sb (p_X0_mayLay_26 C F h) ⟨rfl, rfl, rfl, trivial⟩
set_option maxRecDepth 100000 in
set_option maxHeartbeats 4000000 in
theorem c_X0_mayLay (l : Launch) (g : CG) (N : Nat) (a0 : Option Nat) (a1 : Int32) (a2 : Int32) (μ : Mem) (rv : Int32) (μ9 : Mem) (h : f_X0_mayLay N a0 a1 a2 μ = some (rv, μ9)) : Ct l yX0_mayLay mi_X0_mayLay g [aR a0, aI a1, aI a2] μ (some (aI rv)) μ9 := ct_of ⟨by decide, rfl, rfl⟩ (Nat.le_of_ble_eq_true rfl) fun x C F => p_X0_mayLay C F h
def f_X7_lay_11 (N : Nat) (μ : Mem) : Option (Unit × Mem) :=
  some ((), μ)
def f_X7_lay_32 (N : Nat) (a0 : Option Nat) (a1 : Int32) (a2 : Int32) (μ : Mem) : Option (Unit × Mem) :=
  (mfR μ a0 7 0).bind fun v1 =>
  (mbI μ 0 v1 a1 a2).bind fun μ2 =>
  some ((), μ2)
def f_X7_lay (N : Nat) (a0 : Option Nat) (a1 : Int32) (a2 : Int32) (μ : Mem) : Option (Unit × Mem) :=
  if a1 < 0 then
    f_X7_lay_11 N μ
  else
    if a1 < (4096 : Int32) then
      (mfR μ a0 7 0).bind fun v1 =>
      (maI μ 0 v1 a1).bind fun v2 =>
      if ¬ v2 = (((-1)) : Int32) then
        f_X7_lay_32 N a0 a1 a2 μ
      else
        (mfI μ a0 7 1).bind fun v3 =>
        (mpI μ a0 7 1 (v3 + 1)).bind fun μ4 =>
        f_X7_lay_32 N a0 a1 a2 μ4
    else
      f_X7_lay_11 N μ
set_option maxRecDepth 100000 in
set_option maxHeartbeats 4000000 in
theorem p_X7_lay_11 {x : CX} {l : Launch} {g : CG} {rv : Unit} {μ0 μ9 : Mem} (C : Cx x l g mi_X7_lay) (F : Prom x g mi_X7_lay μ0 none μ9) {N : Nat} {μ : Mem} (h : f_X7_lay_11 N μ = some (rv, μ9)) : V x g 3 0 0 μ 11 [] [] := by
  unfold f_X7_lay_11 at h
  exact v_vret C F ⟨rfl, rfl, Nat.le_refl _⟩ dX7_lay_11 h
set_option maxRecDepth 100000 in
set_option maxHeartbeats 4000000 in
theorem p_X7_lay_32 {x : CX} {l : Launch} {g : CG} {rv : Unit} {μ0 μ9 : Mem} (C : Cx x l g mi_X7_lay) (F : Prom x g mi_X7_lay μ0 none μ9) {N : Nat} {a0 : Option Nat} {a1 : Int32} {a2 : Int32} {μ : Mem} (h : f_X7_lay_32 N a0 a1 a2 μ = some (rv, μ9)) : V x g 3 0 0 μ 32 [(0, aR a0), (1, aI a1), (2, aI a2)] [] := by
  unfold f_X7_lay_32 at h
  refine v_aload_n C dX7_lay_32 rfl ?_
  obtain ⟨v, e, h⟩ := ob h
  refine v_getR C dX7_lay_33 gf_X7_9 e ?_
  refine v_iload_n C dX7_lay_36 rfl ?_
  refine v_iload_n C dX7_lay_37 rfl ?_
  obtain ⟨m, e, h⟩ := ob h
  refine v_iastore C dX7_lay_38 e ?_
  exact v_vret C F ⟨rfl, rfl, Nat.le_refl _⟩ dX7_lay_39 h
set_option maxRecDepth 100000 in
set_option maxHeartbeats 4000000 in
theorem p_X7_lay {x : CX} {l : Launch} {g : CG} {rv : Unit} {μ0 μ9 : Mem} (C : Cx x l g mi_X7_lay) (F : Prom x g mi_X7_lay μ0 none μ9) {N : Nat} {a0 : Option Nat} {a1 : Int32} {a2 : Int32} {μ : Mem} (h : f_X7_lay N a0 a1 a2 μ = some (rv, μ9)) : V x g 3 0 0 μ 0 [(0, aR a0), (1, aI a1), (2, aI a2)] [] := by
  unfold f_X7_lay at h
  refine v_iload_n C dX7_lay_0 rfl ?_
  refine v_if_lt (tgt := 11) C dX7_lay_1 (by decide) (fun c => ?_) (fun c => ?_)
  · replace h := ifT h c
    exact v_sb (p_X7_lay_11 C F h) trivial
  · replace h := ifF h c
    refine v_iload_n C dX7_lay_4 rfl ?_
    refine v_sipush (v := 4096) C dX7_lay_5 rfl ?_
    refine v_icmp_lt (tgt := 12) C dX7_lay_8 (by decide) (fun c => ?_) (fun c => ?_)
    · replace h := ifT h c
      refine v_aload_n C dX7_lay_12 rfl ?_
      obtain ⟨v, e, h⟩ := ob h
      refine v_getR C dX7_lay_13 gf_X7_9 e ?_
      refine v_iload_n C dX7_lay_16 rfl ?_
      obtain ⟨v, e, h⟩ := ob h
      refine v_iaload C dX7_lay_17 e ?_
      refine v_iconst (v := -1) C dX7_lay_18 rfl ?_
      refine v_icmp_ne (tgt := 32) C dX7_lay_19 (by decide) (fun c => ?_) (fun c => ?_)
      · replace h := ifT h c
        exact v_sb (p_X7_lay_32 C F h) ⟨rfl, rfl, rfl, trivial⟩
      · replace h := ifF h c
        refine v_aload_n C dX7_lay_22 rfl ?_
        refine v_dup C dX7_lay_23 rfl ?_
        obtain ⟨v, e, h⟩ := ob h
        refine v_getI C dX7_lay_24 gf_X7_15 e ?_
        refine v_iconst (v := 1) C dX7_lay_27 rfl ?_
        refine v_iadd C dX7_lay_28 ?_
        obtain ⟨m, e, h⟩ := ob h
        refine v_putI C dX7_lay_29 (pf_X7_15 _) e ?_
        exact v_sb (p_X7_lay_32 C F h) ⟨rfl, rfl, rfl, trivial⟩
    · replace h := ifF h c
      exact v_sb (p_X7_lay_11 C F h) trivial
set_option maxRecDepth 100000 in
set_option maxHeartbeats 4000000 in
theorem c_X7_lay (l : Launch) (g : CG) (N : Nat) (a0 : Option Nat) (a1 : Int32) (a2 : Int32) (μ : Mem) (rv : Unit) (μ9 : Mem) (h : f_X7_lay N a0 a1 a2 μ = some (rv, μ9)) : Ct l yX7_lay mi_X7_lay g [aR a0, aI a1, aI a2] μ none μ9 := ct_of ⟨by decide, rfl, rfl⟩ (Nat.le_of_ble_eq_true rfl) fun x C F => p_X7_lay C F h
