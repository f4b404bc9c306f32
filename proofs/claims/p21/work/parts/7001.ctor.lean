def f_X4_init_154 (N : Nat) (k60 : (Option Nat) → Int64 → Int32 → Mem → Option (Unit × Mem)) (a0 : Option Nat) (a1 : Int64) (a3 : Int32) (μ : Mem) : Option (Unit × Mem) :=
  k60 a0 a1 (a3 + 1) μ
def H_X4_init_60 (N : Nat) (k60 : (Option Nat) → Int64 → Int32 → Mem → Option (Unit × Mem)) (a0 : Option Nat) (a1 : Int64) (a3 : Int32) (μ : Mem) : Option (Unit × Mem) :=
  (sLen 10).bind fun q1 =>
  if q1 ≤ a3 then
    some ((), μ)
  else
    (sChr 10 a3).bind fun q2 =>
    if q2 = (32 : Int32) then
      (mfI μ a0 4 3).bind fun v3 =>
      if (53 : Int32) ≤ v3 then
        f_X4_init_154 N k60 a0 a1 a3 μ
      else
        (mfR μ a0 4 0).bind fun v4 =>
        (mfI μ a0 4 3).bind fun v5 =>
        (mbJ μ 1 v4 v5 a1).bind fun μ6 =>
        (mfR μ6 a0 4 1).bind fun v7 =>
        (mfI μ6 a0 4 3).bind fun v8 =>
        (mfI μ6 a0 4 3).bind fun v9 =>
        (xI x_fv v9).bind fun v10 =>
        (mbI μ6 0 v7 v8 v10).bind fun μ11 =>
        (mfR μ11 a0 4 2).bind fun v12 =>
        (mfI μ11 a0 4 3).bind fun v13 =>
        (mbI μ11 0 v12 v13 3).bind fun μ14 =>
        (mfI μ14 a0 4 3).bind fun v15 =>
        (mpI μ14 a0 4 3 (v15 + 1)).bind fun μ16 =>
        f_X4_init_154 N k60 a0 0 a3 μ16
    else
      (f_X4_withLetter N a1 q2 μ).bind fun q17 =>
      f_X4_init_154 N k60 a0 q17.1 a3 q17.2
def L_X4_init_60 (N : Nat) : Nat → (Option Nat) → Int64 → Int32 → Mem → Option (Unit × Mem)
  | 0 => fun _ _ _ _ => none
  | n + 1 => H_X4_init_60 N (L_X4_init_60 N n)
def f_X4_init (N : Nat) (a0 : Option Nat) (μ : Mem) : Option (Unit × Mem) :=
  (mck μ a0 4).bind fun b1 =>
  (some (mnaJ μ 1054)).bind fun μ2 =>
  (mpR μ2 a0 4 0 (some μ.1)).bind fun μ3 =>
  (some (mnaI μ3 0 1054)).bind fun μ4 =>
  (mpR μ4 a0 4 1 (some μ3.1)).bind fun μ5 =>
  (some (mnaI μ5 0 1054)).bind fun μ6 =>
  (mpR μ6 a0 4 2 (some μ5.1)).bind fun μ7 =>
  (mpI μ7 a0 4 3 0).bind fun μ8 =>
  (mpI μ8 a0 4 4 0).bind fun μ9 =>
  L_X4_init_60 N N a0 0 0 μ9
set_option maxRecDepth 100000 in
set_option maxHeartbeats 4000000 in
theorem p_X4_init_154 {x : CX} {l : Launch} {g : CG} {rv : Unit} {μ0 μ9 : Mem} (C : Cx x l g mi_X4_init) (F : Prom x g mi_X4_init μ0 none μ9) {N : Nat} {k60 : (Option Nat) → Int64 → Int32 → Mem → Option (Unit × Mem)} (hk60 : ∀ (a0 : Option Nat) (a1 : Int64) (a3 : Int32) (μ : Mem), k60 a0 a1 a3 μ = some (rv, μ9) → V x g 5 3 3162 μ 60 [(0, aR a0), (1, aJ a1), (3, aI a3)] []) {a0 : Option Nat} {a1 : Int64} {a3 : Int32} {μ : Mem} (h : f_X4_init_154 N k60 a0 a1 a3 μ = some (rv, μ9)) : V x g 5 3 3162 μ 154 [(0, aR a0), (1, aJ a1), (3, aI a3)] [] := by
  unfold f_X4_init_154 at h
  refine v_iinc (w := 1) C dX4_init_154 rfl rfl (by decide) ?_
  refine v_goto (tgt := 60) C dX4_init_157 (by decide) ?_
  exact v_sb (hk60 _ _ _ _ h) ⟨rfl, rfl, rfl, trivial⟩
set_option maxRecDepth 100000 in
set_option maxHeartbeats 4000000 in
theorem pH_X4_init_60 {x : CX} {l : Launch} {g : CG} {rv : Unit} {μ0 μ9 : Mem} (C : Cx x l g mi_X4_init) (F : Prom x g mi_X4_init μ0 none μ9) {N : Nat} {k60 : (Option Nat) → Int64 → Int32 → Mem → Option (Unit × Mem)} (hk60 : ∀ (a0 : Option Nat) (a1 : Int64) (a3 : Int32) (μ : Mem), k60 a0 a1 a3 μ = some (rv, μ9) → V x g 5 3 3162 μ 60 [(0, aR a0), (1, aJ a1), (3, aI a3)] []) {a0 : Option Nat} {a1 : Int64} {a3 : Int32} {μ : Mem} (h : H_X4_init_60 N k60 a0 a1 a3 μ = some (rv, μ9)) : V x g 5 3 3162 μ 60 [(0, aR a0), (1, aJ a1), (3, aI a3)] [] := by
  unfold H_X4_init_60 at h
  refine v_iload_n C dX4_init_60 rfl ?_
  refine v_ldcX C dX4_init_61 (Cex C).2.2.2.2.2.2.2.2.1 ?_
  obtain ⟨q, e, h⟩ := ob h
  refine v_callX (As := []) C dX4_init_63 cf_X4_34 ⟨⟨Nat.le_of_ble_eq_true rfl, Nat.le_of_ble_eq_true rfl⟩, Nat.le_of_ble_eq_true rfl, Nat.le_of_ble_eq_true rfl⟩ ⟨rfl, rfl⟩ (xsLen e) rfl (Nat.le_of_ble_eq_true rfl) (csLen e) ?_
  refine v_icmp_ge (tgt := 160) C dX4_init_66 (by decide) (fun c => ?_) (fun c => ?_)
  · replace h := ifT h c
    exact v_vret C F ⟨rfl, rfl, Nat.le_refl _⟩ dX4_init_160 h
  · replace h := ifF h c
    refine v_ldcX C dX4_init_69 (Cex C).2.2.2.2.2.2.2.2.1 ?_
    refine v_iload_n C dX4_init_71 rfl ?_
    obtain ⟨q, e, h⟩ := ob h
    refine v_callX (As := [_]) C dX4_init_72 cf_X4_40 ⟨⟨Nat.le_of_ble_eq_true rfl, Nat.le_of_ble_eq_true rfl⟩, Nat.le_of_ble_eq_true rfl, Nat.le_of_ble_eq_true rfl⟩ ⟨rfl, rfl⟩ (xsChr e) rfl (Nat.le_of_ble_eq_true rfl) (csChr e) ?_
    refine v_istore C dX4_init_75 (by decide) ?_
    refine v_iload C dX4_init_77 rfl ?_
    refine v_bipush (v := 32) C dX4_init_79 rfl ?_
    refine v_icmp_eq (tgt := 94) C dX4_init_81 (by decide) (fun c => ?_) (fun c => ?_)
    · replace h := ifT h c
      refine v_aload_n C dX4_init_94 rfl ?_
      obtain ⟨v, e, h⟩ := ob h
      refine v_getI C dX4_init_95 gf_X4_25 e ?_
      refine v_getsX0 C dX4_init_98 gs_X4_9 ?_
      refine v_xl0 C dX4_init_101 ?_
      refine v_icmp_ge (tgt := 154) C dX4_init_102 (by decide) (fun c => ?_) (fun c => ?_)
      · replace h := ifT h c
        exact v_sb (p_X4_init_154 C F hk60 h) ⟨rfl, rfl, rfl, trivial⟩
      · replace h := ifF h c
        refine v_aload_n C dX4_init_105 rfl ?_
        obtain ⟨v, e, h⟩ := ob h
        refine v_getR C dX4_init_106 gf_X4_15 e ?_
        refine v_aload_n C dX4_init_109 rfl ?_
        obtain ⟨v, e, h⟩ := ob h
        refine v_getI C dX4_init_110 gf_X4_25 e ?_
        refine v_lload_n C dX4_init_113 rfl ?_
        obtain ⟨m, e, h⟩ := ob h
        refine v_lastore C dX4_init_114 e ?_
        refine v_aload_n C dX4_init_115 rfl ?_
        obtain ⟨v, e, h⟩ := ob h
        refine v_getR C dX4_init_116 gf_X4_19 e ?_
        refine v_aload_n C dX4_init_119 rfl ?_
        obtain ⟨v, e, h⟩ := ob h
        refine v_getI C dX4_init_120 gf_X4_25 e ?_
        refine v_getsX0 C dX4_init_123 gs_X4_9 ?_
        refine v_aload_n C dX4_init_126 rfl ?_
        obtain ⟨v, e, h⟩ := ob h
        refine v_getI C dX4_init_127 gf_X4_25 e ?_
        obtain ⟨v, e, h⟩ := ob h
        refine v_xi0 C dX4_init_130 e ?_
        obtain ⟨m, e, h⟩ := ob h
        refine v_iastore C dX4_init_131 e ?_
        refine v_aload_n C dX4_init_132 rfl ?_
        obtain ⟨v, e, h⟩ := ob h
        refine v_getR C dX4_init_133 gf_X4_22 e ?_
        refine v_aload_n C dX4_init_136 rfl ?_
        obtain ⟨v, e, h⟩ := ob h
        refine v_getI C dX4_init_137 gf_X4_25 e ?_
        refine v_iconst (v := 3) C dX4_init_140 rfl ?_
        obtain ⟨m, e, h⟩ := ob h
        refine v_iastore C dX4_init_141 e ?_
        refine v_aload_n C dX4_init_142 rfl ?_
        refine v_dup C dX4_init_143 rfl ?_
        obtain ⟨v, e, h⟩ := ob h
        refine v_getI C dX4_init_144 gf_X4_25 e ?_
        refine v_iconst (v := 1) C dX4_init_147 rfl ?_
        refine v_iadd C dX4_init_148 ?_
        obtain ⟨m, e, h⟩ := ob h
        refine v_putI C dX4_init_149 (pf_X4_25 _) e ?_
        refine v_lconst (v := 0) C dX4_init_152 rfl ?_
        refine v_lstore_n C dX4_init_153 (by decide) ?_
        exact v_sb (p_X4_init_154 C F hk60 h) ⟨rfl, rfl, rfl, trivial⟩
    · replace h := ifF h c
      refine v_lload_n C dX4_init_84 rfl ?_
      refine v_iload C dX4_init_85 rfl ?_
      obtain ⟨q, e, h⟩ := ob h
      refine v_callS (As := [_, _]) C dX4_init_87 cf_X4_44 ⟨⟨Nat.le_of_ble_eq_true rfl, Nat.le_of_ble_eq_true rfl⟩, Nat.le_of_ble_eq_true rfl, Nat.le_of_ble_eq_true rfl⟩ ⟨rfl, rfl⟩ rfl (Nat.le_of_ble_eq_true rfl) (c_X4_withLetter _ _ N _ _ _ q.1 q.2 e) ?_
      refine v_lstore_n C dX4_init_90 (by decide) ?_
      refine v_goto (tgt := 154) C dX4_init_91 (by decide) ?_
      exact v_sb (p_X4_init_154 C F hk60 h) ⟨rfl, rfl, rfl, trivial⟩
set_option maxRecDepth 100000 in
set_option maxHeartbeats 4000000 in
theorem pL_X4_init_60 {x : CX} {l : Launch} {g : CG} {rv : Unit} {μ0 μ9 : Mem} (C : Cx x l g mi_X4_init) (F : Prom x g mi_X4_init μ0 none μ9) (N : Nat) (n : Nat) : ∀ (a0 : Option Nat) (a1 : Int64) (a3 : Int32) (μ : Mem), L_X4_init_60 N n a0 a1 a3 μ = some (rv, μ9) → V x g 5 3 3162 μ 60 [(0, aR a0), (1, aJ a1), (3, aI a3)] [] := by
  induction n with
  | zero => intro a0 a1 a3 μ h; cases h
  | succ n ih => intro a0 a1 a3 μ h; exact pH_X4_init_60 C F ih h
set_option maxRecDepth 100000 in
set_option maxHeartbeats 4000000 in
theorem p_X4_init {x : CX} {l : Launch} {g : CG} {rv : Unit} {μ0 μ9 : Mem} (C : Cx x l g mi_X4_init) (F : Prom x g mi_X4_init μ0 none μ9) {N : Nat} {a0 : Option Nat} {μ : Mem} (h : f_X4_init N a0 μ = some (rv, μ9)) : V x g 5 0 0 μ 0 [(0, aR a0)] [] := by
  unfold f_X4_init at h
  refine v_aload_n C dX4_init_0 rfl ?_
  obtain ⟨b, e0, h⟩ := ob h
  refine v_objInitR C dX4_init_1 oi_X4_3 rfl ⟨Nat.le_of_ble_eq_true rfl, Nat.le_of_ble_eq_true rfl⟩ e0 ?_
  refine v_aload_n C dX4_init_4 rfl ?_
  refine v_getsX0 C dX4_init_5 gs_X4_9 ?_
  refine v_xl0 C dX4_init_8 ?_
  refine v_sipush (v := 1001) C dX4_init_9 rfl ?_
  refine v_iadd C dX4_init_12 ?_
  obtain ⟨m, e, h⟩ := ob h
  cases e
  refine v_newaJ (N := 1054) C dX4_init_13 ar_J ⟨by decide, by decide⟩ (by decide) ⟨Nat.le_of_ble_eq_true rfl, Nat.le_of_ble_eq_true rfl⟩ ?_
  obtain ⟨m, e, h⟩ := ob h
  refine v_putR C dX4_init_15 pf_X4_15 rfl e ?_
  refine v_aload_n C dX4_init_18 rfl ?_
  refine v_getsX0 C dX4_init_19 gs_X4_9 ?_
  refine v_xl0 C dX4_init_22 ?_
  refine v_sipush (v := 1001) C dX4_init_23 rfl ?_
  refine v_iadd C dX4_init_26 ?_
  obtain ⟨m, e, h⟩ := ob h
  cases e
  refine v_newaI (N := 1054) C dX4_init_27 ar_I ⟨by decide, by decide⟩ (by decide) ⟨Nat.le_of_ble_eq_true rfl, Nat.le_of_ble_eq_true rfl⟩ ?_
  obtain ⟨m, e, h⟩ := ob h
  refine v_putR C dX4_init_29 pf_X4_19 rfl e ?_
  refine v_aload_n C dX4_init_32 rfl ?_
  refine v_getsX0 C dX4_init_33 gs_X4_9 ?_
  refine v_xl0 C dX4_init_36 ?_
  refine v_sipush (v := 1001) C dX4_init_37 rfl ?_
  refine v_iadd C dX4_init_40 ?_
  obtain ⟨m, e, h⟩ := ob h
  cases e
  refine v_newaI (N := 1054) C dX4_init_41 ar_I ⟨by decide, by decide⟩ (by decide) ⟨Nat.le_of_ble_eq_true rfl, Nat.le_of_ble_eq_true rfl⟩ ?_
  obtain ⟨m, e, h⟩ := ob h
  refine v_putR C dX4_init_43 pf_X4_22 rfl e ?_
  refine v_aload_n C dX4_init_46 rfl ?_
  refine v_iconst (v := 0) C dX4_init_47 rfl ?_
  obtain ⟨m, e, h⟩ := ob h
  refine v_putI C dX4_init_48 (pf_X4_25 _) e ?_
  refine v_aload_n C dX4_init_51 rfl ?_
  refine v_iconst (v := 0) C dX4_init_52 rfl ?_
  obtain ⟨m, e, h⟩ := ob h
  refine v_putI C dX4_init_53 (pf_X4_29 _) e ?_
  refine v_lconst (v := 0) C dX4_init_56 rfl ?_
  refine v_lstore_n C dX4_init_57 (by decide) ?_
  refine v_iconst (v := 0) C dX4_init_58 rfl ?_
  refine v_istore_n C dX4_init_59 (by decide) ?_
  exact v_sb (pL_X4_init_60 C F N N _ _ _ _ h) ⟨rfl, rfl, rfl, trivial⟩
set_option maxRecDepth 100000 in
set_option maxHeartbeats 4000000 in
theorem c_X4_init (l : Launch) (g : CG) (N : Nat) (a0 : Option Nat) (μ : Mem) (rv : Unit) (μ9 : Mem) (h : f_X4_init N a0 μ = some (rv, μ9)) : Ct l yX4_init mi_X4_init g [aR a0] μ none μ9 := ct_of ⟨by decide, rfl, rfl⟩ (Nat.le_of_ble_eq_true rfl) fun x C F => p_X4_init C F h
def f_X9_init (N : Nat) (a0 : Option Nat) (a1 : Option Nat) (μ : Mem) : Option (Unit × Mem) :=
  (mck μ a0 9).bind fun b1 =>
  (some (mnaI μ 0 2001)).bind fun μ2 =>
  (mpR μ2 a0 9 1 (some μ.1)).bind fun μ3 =>
  (some (mnaI μ3 0 2001)).bind fun μ4 =>
  (mpR μ4 a0 9 2 (some μ3.1)).bind fun μ5 =>
  (some (mnaI μ5 0 2001)).bind fun μ6 =>
  (mpR μ6 a0 9 3 (some μ5.1)).bind fun μ7 =>
  (some (mnaI μ7 0 2001)).bind fun μ8 =>
  (mpR μ8 a0 9 4 (some μ7.1)).bind fun μ9 =>
  (mpI μ9 a0 9 5 0).bind fun μ10 =>
  (some (mnaI μ10 0 0)).bind fun μ11 =>
  (mpR μ11 a0 9 6 (some μ10.1)).bind fun μ12 =>
  (mpI μ12 a0 9 7 0).bind fun μ13 =>
  (mpI μ13 a0 9 8 0).bind fun μ14 =>
  (mpR μ14 a0 9 0 a1).bind fun μ15 =>
  some ((), μ15)
set_option maxRecDepth 100000 in
set_option maxHeartbeats 4000000 in
theorem p_X9_init {x : CX} {l : Launch} {g : CG} {rv : Unit} {μ0 μ9 : Mem} (C : Cx x l g mi_X9_init) (F : Prom x g mi_X9_init μ0 none μ9) {N : Nat} {a0 : Option Nat} {a1 : Option Nat} {μ : Mem} (h : f_X9_init N a0 a1 μ = some (rv, μ9)) : V x g 2 0 0 μ 0 [(0, aR a0), (1, aR a1)] [] := by
  unfold f_X9_init at h
  refine v_aload_n C dX9_init_0 rfl ?_
  obtain ⟨b, e0, h⟩ := ob h
  refine v_objInitR C dX9_init_1 oi_X9_3 rfl ⟨Nat.le_of_ble_eq_true rfl, Nat.le_of_ble_eq_true rfl⟩ e0 ?_
  refine v_aload_n C dX9_init_4 rfl ?_
  refine v_sipush (v := 2001) C dX9_init_5 rfl ?_
  obtain ⟨m, e, h⟩ := ob h
  cases e
  refine v_newaI (N := 2001) C dX9_init_8 ar_I ⟨by decide, by decide⟩ (by decide) ⟨Nat.le_of_ble_eq_true rfl, Nat.le_of_ble_eq_true rfl⟩ ?_
  obtain ⟨m, e, h⟩ := ob h
  refine v_putR C dX9_init_10 pf_X9_9 rfl e ?_
  refine v_aload_n C dX9_init_13 rfl ?_
  refine v_sipush (v := 2001) C dX9_init_14 rfl ?_
  obtain ⟨m, e, h⟩ := ob h
  cases e
  refine v_newaI (N := 2001) C dX9_init_17 ar_I ⟨by decide, by decide⟩ (by decide) ⟨Nat.le_of_ble_eq_true rfl, Nat.le_of_ble_eq_true rfl⟩ ?_
  obtain ⟨m, e, h⟩ := ob h
  refine v_putR C dX9_init_19 pf_X9_15 rfl e ?_
  refine v_aload_n C dX9_init_22 rfl ?_
  refine v_sipush (v := 2001) C dX9_init_23 rfl ?_
  obtain ⟨m, e, h⟩ := ob h
  cases e
  refine v_newaI (N := 2001) C dX9_init_26 ar_I ⟨by decide, by decide⟩ (by decide) ⟨Nat.le_of_ble_eq_true rfl, Nat.le_of_ble_eq_true rfl⟩ ?_
  obtain ⟨m, e, h⟩ := ob h
  refine v_putR C dX9_init_28 pf_X9_18 rfl e ?_
  refine v_aload_n C dX9_init_31 rfl ?_
  refine v_sipush (v := 2001) C dX9_init_32 rfl ?_
  obtain ⟨m, e, h⟩ := ob h
  cases e
  refine v_newaI (N := 2001) C dX9_init_35 ar_I ⟨by decide, by decide⟩ (by decide) ⟨Nat.le_of_ble_eq_true rfl, Nat.le_of_ble_eq_true rfl⟩ ?_
  obtain ⟨m, e, h⟩ := ob h
  refine v_putR C dX9_init_37 pf_X9_21 rfl e ?_
  refine v_aload_n C dX9_init_40 rfl ?_
  refine v_iconst (v := 0) C dX9_init_41 rfl ?_
  obtain ⟨m, e, h⟩ := ob h
  refine v_putI C dX9_init_42 (pf_X9_24 _) e ?_
  refine v_aload_n C dX9_init_45 rfl ?_
  refine v_iconst (v := 0) C dX9_init_46 rfl ?_
  obtain ⟨m, e, h⟩ := ob h
  cases e
  refine v_newaI (N := 0) C dX9_init_47 ar_I ⟨by decide, by decide⟩ (by decide) ⟨Nat.le_of_ble_eq_true rfl, Nat.le_of_ble_eq_true rfl⟩ ?_
  obtain ⟨m, e, h⟩ := ob h
  refine v_putR C dX9_init_49 (pf_X9_28 _) rfl e ?_
  refine v_aload_n C dX9_init_52 rfl ?_
  refine v_iconst (v := 0) C dX9_init_53 rfl ?_
  obtain ⟨m, e, h⟩ := ob h
  refine v_putI C dX9_init_54 (pf_X9_31 _) e ?_
  refine v_aload_n C dX9_init_57 rfl ?_
  refine v_iconst (v := 0) C dX9_init_58 rfl ?_
  obtain ⟨m, e, h⟩ := ob h
  refine v_putI C dX9_init_59 (pf_X9_34 _) e ?_
  refine v_aload_n C dX9_init_62 rfl ?_
  refine v_aload_n C dX9_init_63 rfl ?_
  obtain ⟨m, e, h⟩ := ob h
  refine v_putR C dX9_init_64 pf_X9_37 rfl e ?_
  exact v_vret C F ⟨rfl, rfl, Nat.le_refl _⟩ dX9_init_67 h
set_option maxRecDepth 100000 in
set_option maxHeartbeats 4000000 in
theorem c_X9_init (l : Launch) (g : CG) (N : Nat) (a0 : Option Nat) (a1 : Option Nat) (μ : Mem) (rv : Unit) (μ9 : Mem) (h : f_X9_init N a0 a1 μ = some (rv, μ9)) : Ct l yX9_init mi_X9_init g [aR a0, aR a1] μ none μ9 := ct_of ⟨by decide, rfl, rfl⟩ (Nat.le_of_ble_eq_true rfl) fun x C F => p_X9_init C F h
def f_X7_init (N : Nat) (a0 : Option Nat) (μ : Mem) : Option (Unit × Mem) :=
  (mck μ a0 7).bind fun b1 =>
  (some (mnaI μ 0 4096)).bind fun μ2 =>
  (mpR μ2 a0 7 0 (some μ.1)).bind fun μ3 =>
  (mpI μ3 a0 7 1 0).bind fun μ4 =>
  (mfR μ4 a0 7 0).bind fun v5 =>
  (f_J7_fill_53178 N v5 ((-1)) μ4).bind fun q6 =>
  some ((), q6.2)
set_option maxRecDepth 100000 in
set_option maxHeartbeats 4000000 in
theorem p_X7_init {x : CX} {l : Launch} {g : CG} {rv : Unit} {μ0 μ9 : Mem} (C : Cx x l g mi_X7_init) (F : Prom x g mi_X7_init μ0 none μ9) {N : Nat} {a0 : Option Nat} {μ : Mem} (h : f_X7_init N a0 μ = some (rv, μ9)) : V x g 1 0 0 μ 0 [(0, aR a0)] [] := by
  unfold f_X7_init at h
  refine v_aload_n C dX7_init_0 rfl ?_
  obtain ⟨b, e0, h⟩ := ob h
  refine v_objInitR C dX7_init_1 oi_X7_3 rfl ⟨Nat.le_of_ble_eq_true rfl, Nat.le_of_ble_eq_true rfl⟩ e0 ?_
  refine v_aload_n C dX7_init_4 rfl ?_
  refine v_sipush (v := 4096) C dX7_init_5 rfl ?_
  obtain ⟨m, e, h⟩ := ob h
  cases e
  refine v_newaI (N := 4096) C dX7_init_8 ar_I ⟨by decide, by decide⟩ (by decide) ⟨Nat.le_of_ble_eq_true rfl, Nat.le_of_ble_eq_true rfl⟩ ?_
  obtain ⟨m, e, h⟩ := ob h
  refine v_putR C dX7_init_10 pf_X7_9 rfl e ?_
  refine v_aload_n C dX7_init_13 rfl ?_
  refine v_iconst (v := 0) C dX7_init_14 rfl ?_
  obtain ⟨m, e, h⟩ := ob h
  refine v_putI C dX7_init_15 (pf_X7_15 _) e ?_
  refine v_aload_n C dX7_init_18 rfl ?_
  obtain ⟨v, e, h⟩ := ob h
  refine v_getR C dX7_init_19 gf_X7_9 e ?_
  refine v_iconst (v := -1) C dX7_init_22 rfl ?_
  obtain ⟨q, e, h⟩ := ob h
  refine v_callS (As := [_, _]) C dX7_init_23 cf_X7_19 ⟨⟨Nat.le_of_ble_eq_true rfl, Nat.le_of_ble_eq_true rfl⟩, Nat.le_of_ble_eq_true rfl, Nat.le_of_ble_eq_true rfl⟩ ⟨rfl, rfl⟩ rfl (Nat.le_of_ble_eq_true rfl) (c_J7_fill_53178 _ _ N _ _ _ q.1 q.2 e) ?_
  exact v_vret C F ⟨rfl, rfl, Nat.le_refl _⟩ dX7_init_26 h
set_option maxRecDepth 100000 in
set_option maxHeartbeats 4000000 in
theorem c_X7_init (l : Launch) (g : CG) (N : Nat) (a0 : Option Nat) (μ : Mem) (rv : Unit) (μ9 : Mem) (h : f_X7_init N a0 μ = some (rv, μ9)) : Ct l yX7_init mi_X7_init g [aR a0] μ none μ9 := ct_of ⟨by decide, rfl, rfl⟩ (Nat.le_of_ble_eq_true rfl) fun x C F => p_X7_init C F h
def f_X0_init (N : Nat) (a0 : Option Nat) (μ : Mem) : Option (Unit × Mem) :=
  (mck μ a0 0).bind fun b1 =>
  (some (madd μ (.inr (4, df_X4)))).bind fun μ2 =>
  (f_X4_init N (some μ.1) μ2).bind fun q3 =>
  (mpR q3.2 a0 0 0 (some μ.1)).bind fun μ4 =>
  (some (madd μ4 (.inr (9, df_X9)))).bind fun μ5 =>
  (mfR μ5 a0 0 0).bind fun v6 =>
  (f_X9_init N (some μ4.1) v6 μ5).bind fun q7 =>
  (mpR q7.2 a0 0 1 (some μ4.1)).bind fun μ8 =>
  (some (madd μ8 (.inr (7, df_X7)))).bind fun μ9 =>
  (f_X7_init N (some μ8.1) μ9).bind fun q10 =>
  (mpR q10.2 a0 0 2 (some μ8.1)).bind fun μ11 =>
  (some (madd μ11 (.inr (7, df_X7)))).bind fun μ12 =>
  (f_X7_init N (some μ11.1) μ12).bind fun q13 =>
  (mpR q13.2 a0 0 3 (some μ11.1)).bind fun μ14 =>
  (mpI μ14 a0 0 4 0).bind fun μ15 =>
  (mpI μ15 a0 0 5 ((-1))).bind fun μ16 =>
  (mpZ μ16 a0 0 6 0).bind fun μ17 =>
  (mpZ μ17 a0 0 7 0).bind fun μ18 =>
  (mpZ μ18 a0 0 8 0).bind fun μ19 =>
  (mpI μ19 a0 0 9 0).bind fun μ20 =>
  (mpI μ20 a0 0 10 128).bind fun μ21 =>
  some ((), μ21)
set_option maxRecDepth 100000 in
set_option maxHeartbeats 4000000 in
theorem p_X0_init {x : CX} {l : Launch} {g : CG} {rv : Unit} {μ0 μ9 : Mem} (C : Cx x l g mi_X0_init) (F : Prom x g mi_X0_init μ0 none μ9) {N : Nat} {a0 : Option Nat} {μ : Mem} (h : f_X0_init N a0 μ = some (rv, μ9)) : V x g 1 0 0 μ 0 [(0, aR a0)] [] := by
  unfold f_X0_init at h
  refine v_aload_n C dX0_init_0 rfl ?_
  obtain ⟨b, e0, h⟩ := ob h
  refine v_objInitR C dX0_init_1 oi_X0_3 rfl ⟨Nat.le_of_ble_eq_true rfl, Nat.le_of_ble_eq_true rfl⟩ e0 ?_
  refine v_aload_n C dX0_init_4 rfl ?_
  obtain ⟨m, e, h⟩ := ob h
  cases e
  refine v_new df_X4 C dX0_init_5 nf_X0_9 ⟨Nat.le_of_ble_eq_true rfl, Nat.le_of_ble_eq_true rfl⟩ ?_
  refine v_dup C dX0_init_8 rfl ?_
  obtain ⟨q, e, h⟩ := ob h
  refine v_callI (As := []) C dX0_init_9 cf_X0_11 rfl ⟨⟨Nat.le_of_ble_eq_true rfl, Nat.le_of_ble_eq_true rfl⟩, Nat.le_of_ble_eq_true rfl, Nat.le_of_ble_eq_true rfl⟩ ⟨rfl, rfl⟩ rfl (Nat.le_of_ble_eq_true rfl) (c_X4_init _ _ N _ _ q.1 q.2 e) ?_
  obtain ⟨m, e, h⟩ := ob h
  refine v_putR C dX0_init_12 pf_X0_12 rfl e ?_
  refine v_aload_n C dX0_init_15 rfl ?_
  obtain ⟨m, e, h⟩ := ob h
  cases e
  refine v_new df_X9 C dX0_init_16 nf_X0_18 ⟨Nat.le_of_ble_eq_true rfl, Nat.le_of_ble_eq_true rfl⟩ ?_
  refine v_dup C dX0_init_19 rfl ?_
  refine v_aload_n C dX0_init_20 rfl ?_
  obtain ⟨v, e, h⟩ := ob h
  refine v_getR C dX0_init_21 gf_X0_12 e ?_
  obtain ⟨q, e, h⟩ := ob h
  refine v_callI (As := [_]) C dX0_init_24 cf_X0_20 rfl ⟨⟨Nat.le_of_ble_eq_true rfl, Nat.le_of_ble_eq_true rfl⟩, Nat.le_of_ble_eq_true rfl, Nat.le_of_ble_eq_true rfl⟩ ⟨rfl, rfl⟩ rfl (Nat.le_of_ble_eq_true rfl) (c_X9_init _ _ N _ _ _ q.1 q.2 e) ?_
  obtain ⟨m, e, h⟩ := ob h
  refine v_putR C dX0_init_27 pf_X0_23 rfl e ?_
  refine v_aload_n C dX0_init_30 rfl ?_
  obtain ⟨m, e, h⟩ := ob h
  cases e
  refine v_new df_X7 C dX0_init_31 nf_X0_27 ⟨Nat.le_of_ble_eq_true rfl, Nat.le_of_ble_eq_true rfl⟩ ?_
  refine v_dup C dX0_init_34 rfl ?_
  obtain ⟨q, e, h⟩ := ob h
  refine v_callI (As := []) C dX0_init_35 cf_X0_29 rfl ⟨⟨Nat.le_of_ble_eq_true rfl, Nat.le_of_ble_eq_true rfl⟩, Nat.le_of_ble_eq_true rfl, Nat.le_of_ble_eq_true rfl⟩ ⟨rfl, rfl⟩ rfl (Nat.le_of_ble_eq_true rfl) (c_X7_init _ _ N _ _ q.1 q.2 e) ?_
  obtain ⟨m, e, h⟩ := ob h
  refine v_putR C dX0_init_38 (pf_X0_30 _) rfl e ?_
  refine v_aload_n C dX0_init_41 rfl ?_
  obtain ⟨m, e, h⟩ := ob h
  cases e
  refine v_new df_X7 C dX0_init_42 nf_X0_27 ⟨Nat.le_of_ble_eq_true rfl, Nat.le_of_ble_eq_true rfl⟩ ?_
  refine v_dup C dX0_init_45 rfl ?_
  obtain ⟨q, e, h⟩ := ob h
  refine v_callI (As := []) C dX0_init_46 cf_X0_29 rfl ⟨⟨Nat.le_of_ble_eq_true rfl, Nat.le_of_ble_eq_true rfl⟩, Nat.le_of_ble_eq_true rfl, Nat.le_of_ble_eq_true rfl⟩ ⟨rfl, rfl⟩ rfl (Nat.le_of_ble_eq_true rfl) (c_X7_init _ _ N _ _ q.1 q.2 e) ?_
  obtain ⟨m, e, h⟩ := ob h
  refine v_putR C dX0_init_49 (pf_X0_34 _) rfl e ?_
  refine v_aload_n C dX0_init_52 rfl ?_
  refine v_iconst (v := 0) C dX0_init_53 rfl ?_
  obtain ⟨m, e, h⟩ := ob h
  refine v_putI C dX0_init_54 (pf_X0_37 _) e ?_
  refine v_aload_n C dX0_init_57 rfl ?_
  refine v_iconst (v := -1) C dX0_init_58 rfl ?_
  obtain ⟨m, e, h⟩ := ob h
  refine v_putI C dX0_init_59 (pf_X0_41 _) e ?_
  refine v_aload_n C dX0_init_62 rfl ?_
  refine v_iconst (v := 0) C dX0_init_63 rfl ?_
  obtain ⟨m, e, h⟩ := ob h
  refine v_putZ C dX0_init_64 (pf_X0_44 _) e ?_
  refine v_aload_n C dX0_init_67 rfl ?_
  refine v_iconst (v := 0) C dX0_init_68 rfl ?_
  obtain ⟨m, e, h⟩ := ob h
  refine v_putZ C dX0_init_69 (pf_X0_48 _) e ?_
  refine v_aload_n C dX0_init_72 rfl ?_
  refine v_iconst (v := 0) C dX0_init_73 rfl ?_
  obtain ⟨m, e, h⟩ := ob h
  refine v_putZ C dX0_init_74 (pf_X0_51 _) e ?_
  refine v_aload_n C dX0_init_77 rfl ?_
  refine v_iconst (v := 0) C dX0_init_78 rfl ?_
  obtain ⟨m, e, h⟩ := ob h
  refine v_putI C dX0_init_79 (pf_X0_54 _) e ?_
  refine v_aload_n C dX0_init_82 rfl ?_
  refine v_sipush (v := 128) C dX0_init_83 rfl ?_
  obtain ⟨m, e, h⟩ := ob h
  refine v_putI C dX0_init_86 (pf_X0_57 _) e ?_
  exact v_vret C F ⟨rfl, rfl, Nat.le_refl _⟩ dX0_init_89 h
set_option maxRecDepth 100000 in
set_option maxHeartbeats 4000000 in
theorem c_X0_init (l : Launch) (g : CG) (N : Nat) (a0 : Option Nat) (μ : Mem) (rv : Unit) (μ9 : Mem) (h : f_X0_init N a0 μ = some (rv, μ9)) : Ct l yX0_init mi_X0_init g [aR a0] μ none μ9 := ct_of ⟨by decide, rfl, rfl⟩ (Nat.le_of_ble_eq_true rfl) fun x C F => p_X0_init C F h
def f_X1_init (N : Nat) (a0 : Option Nat) (μ : Mem) : Option (Unit × Mem) :=
  (mck μ a0 1).bind fun b1 =>
  (mpI μ a0 1 0 0).bind fun μ2 =>
  (mpR μ2 a0 1 1 none).bind fun μ3 =>
  (mpR μ3 a0 1 2 none).bind fun μ4 =>
  (mpI μ4 a0 1 3 0).bind fun μ5 =>
  (mpZ μ5 a0 1 4 0).bind fun μ6 =>
  (mpI μ6 a0 1 5 0).bind fun μ7 =>
  (mpI μ7 a0 1 6 0).bind fun μ8 =>
  (mpI μ8 a0 1 7 0).bind fun μ9 =>
  some ((), μ9)
set_option maxRecDepth 100000 in
set_option maxHeartbeats 4000000 in
theorem p_X1_init {x : CX} {l : Launch} {g : CG} {rv : Unit} {μ0 μ9 : Mem} (C : Cx x l g mi_X1_init) (F : Prom x g mi_X1_init μ0 none μ9) {N : Nat} {a0 : Option Nat} {μ : Mem} (h : f_X1_init N a0 μ = some (rv, μ9)) : V x g 1 0 0 μ 0 [(0, aR a0)] [] := by
  unfold f_X1_init at h
  refine v_aload_n C dX1_init_0 rfl ?_
  obtain ⟨b, e0, h⟩ := ob h
  refine v_objInitR C dX1_init_1 oi_X1_3 rfl ⟨Nat.le_of_ble_eq_true rfl, Nat.le_of_ble_eq_true rfl⟩ e0 ?_
  refine v_aload_n C dX1_init_4 rfl ?_
  refine v_iconst (v := 0) C dX1_init_5 rfl ?_
  obtain ⟨m, e, h⟩ := ob h
  refine v_putI C dX1_init_6 (pf_X1_9 _) e ?_
  refine v_aload_n C dX1_init_9 rfl ?_
  refine v_null C dX1_init_10 ?_
  obtain ⟨m, e, h⟩ := ob h
  refine v_putR C dX1_init_11 (pf_X1_15 _) rfl e ?_
  refine v_aload_n C dX1_init_14 rfl ?_
  refine v_null C dX1_init_15 ?_
  obtain ⟨m, e, h⟩ := ob h
  refine v_putR C dX1_init_16 (pf_X1_19 _) rfl e ?_
  refine v_aload_n C dX1_init_19 rfl ?_
  refine v_iconst (v := 0) C dX1_init_20 rfl ?_
  obtain ⟨m, e, h⟩ := ob h
  refine v_putI C dX1_init_21 (pf_X1_23 _) e ?_
  refine v_aload_n C dX1_init_24 rfl ?_
  refine v_iconst (v := 0) C dX1_init_25 rfl ?_
  obtain ⟨m, e, h⟩ := ob h
  refine v_putZ C dX1_init_26 (pf_X1_26 _) e ?_
  refine v_aload_n C dX1_init_29 rfl ?_
  refine v_iconst (v := 0) C dX1_init_30 rfl ?_
  obtain ⟨m, e, h⟩ := ob h
  refine v_putI C dX1_init_31 (pf_X1_30 _) e ?_
  refine v_aload_n C dX1_init_34 rfl ?_
  refine v_iconst (v := 0) C dX1_init_35 rfl ?_
  obtain ⟨m, e, h⟩ := ob h
  refine v_putI C dX1_init_36 (pf_X1_33 _) e ?_
  refine v_aload_n C dX1_init_39 rfl ?_
  refine v_iconst (v := 0) C dX1_init_40 rfl ?_
  obtain ⟨m, e, h⟩ := ob h
  refine v_putI C dX1_init_41 (pf_X1_36 _) e ?_
  exact v_vret C F ⟨rfl, rfl, Nat.le_refl _⟩ dX1_init_44 h
set_option maxRecDepth 100000 in
set_option maxHeartbeats 4000000 in
theorem c_X1_init (l : Launch) (g : CG) (N : Nat) (a0 : Option Nat) (μ : Mem) (rv : Unit) (μ9 : Mem) (h : f_X1_init N a0 μ = some (rv, μ9)) : Ct l yX1_init mi_X1_init g [aR a0] μ none μ9 := ct_of ⟨by decide, rfl, rfl⟩ (Nat.le_of_ble_eq_true rfl) fun x C F => p_X1_init C F h
def f_X3_init (N : Nat) (a0 : Option Nat) (μ : Mem) : Option (Unit × Mem) :=
  (mck μ a0 3).bind fun b1 =>
  (mpI μ a0 3 0 0).bind fun μ2 =>
  (mpI μ2 a0 3 1 0).bind fun μ3 =>
  some ((), μ3)
set_option maxRecDepth 100000 in
set_option maxHeartbeats 4000000 in
theorem p_X3_init {x : CX} {l : Launch} {g : CG} {rv : Unit} {μ0 μ9 : Mem} (C : Cx x l g mi_X3_init) (F : Prom x g mi_X3_init μ0 none μ9) {N : Nat} {a0 : Option Nat} {μ : Mem} (h : f_X3_init N a0 μ = some (rv, μ9)) : V x g 1 0 0 μ 0 [(0, aR a0)] [] := by
  unfold f_X3_init at h
  refine v_aload_n C dX3_init_0 rfl ?_
  obtain ⟨b, e0, h⟩ := ob h
  refine v_objInitR C dX3_init_1 oi_X3_3 rfl ⟨Nat.le_of_ble_eq_true rfl, Nat.le_of_ble_eq_true rfl⟩ e0 ?_
  refine v_aload_n C dX3_init_4 rfl ?_
  refine v_iconst (v := 0) C dX3_init_5 rfl ?_
  obtain ⟨m, e, h⟩ := ob h
  refine v_putI C dX3_init_6 (pf_X3_9 _) e ?_
  refine v_aload_n C dX3_init_9 rfl ?_
  refine v_iconst (v := 0) C dX3_init_10 rfl ?_
  obtain ⟨m, e, h⟩ := ob h
  refine v_putI C dX3_init_11 (pf_X3_15 _) e ?_
  exact v_vret C F ⟨rfl, rfl, Nat.le_refl _⟩ dX3_init_14 h
set_option maxRecDepth 100000 in
set_option maxHeartbeats 4000000 in
theorem c_X3_init (l : Launch) (g : CG) (N : Nat) (a0 : Option Nat) (μ : Mem) (rv : Unit) (μ9 : Mem) (h : f_X3_init N a0 μ = some (rv, μ9)) : Ct l yX3_init mi_X3_init g [aR a0] μ none μ9 := ct_of ⟨by decide, rfl, rfl⟩ (Nat.le_of_ble_eq_true rfl) fun x C F => p_X3_init C F h
def f_X6_init (N : Nat) (a0 : Option Nat) (μ : Mem) : Option (Unit × Mem) :=
  (mck μ a0 6).bind fun b1 =>
  (some (mnaI μ 0 16)).bind fun μ2 =>
  (mpR μ2 a0 6 0 (some μ.1)).bind fun μ3 =>
  (mpI μ3 a0 6 1 0).bind fun μ4 =>
  (mpI μ4 a0 6 2 0).bind fun μ5 =>
  some ((), μ5)
set_option maxRecDepth 100000 in
set_option maxHeartbeats 4000000 in
theorem p_X6_init {x : CX} {l : Launch} {g : CG} {rv : Unit} {μ0 μ9 : Mem} (C : Cx x l g mi_X6_init) (F : Prom x g mi_X6_init μ0 none μ9) {N : Nat} {a0 : Option Nat} {μ : Mem} (h : f_X6_init N a0 μ = some (rv, μ9)) : V x g 1 0 0 μ 0 [(0, aR a0)] [] := by
  unfold f_X6_init at h
  refine v_aload_n C dX6_init_0 rfl ?_
  obtain ⟨b, e0, h⟩ := ob h
  refine v_objInitR C dX6_init_1 oi_X6_3 rfl ⟨Nat.le_of_ble_eq_true rfl, Nat.le_of_ble_eq_true rfl⟩ e0 ?_
  refine v_aload_n C dX6_init_4 rfl ?_
  refine v_bipush (v := 16) C dX6_init_5 rfl ?_
  obtain ⟨m, e, h⟩ := ob h
  cases e
  refine v_newaI (N := 16) C dX6_init_7 ar_I ⟨by decide, by decide⟩ (by decide) ⟨Nat.le_of_ble_eq_true rfl, Nat.le_of_ble_eq_true rfl⟩ ?_
  obtain ⟨m, e, h⟩ := ob h
  refine v_putR C dX6_init_9 pf_X6_9 rfl e ?_
  refine v_aload_n C dX6_init_12 rfl ?_
  refine v_iconst (v := 0) C dX6_init_13 rfl ?_
  obtain ⟨m, e, h⟩ := ob h
  refine v_putI C dX6_init_14 (pf_X6_15 _) e ?_
  refine v_aload_n C dX6_init_17 rfl ?_
  refine v_iconst (v := 0) C dX6_init_18 rfl ?_
  obtain ⟨m, e, h⟩ := ob h
  refine v_putI C dX6_init_19 (pf_X6_19 _) e ?_
  exact v_vret C F ⟨rfl, rfl, Nat.le_refl _⟩ dX6_init_22 h
set_option maxRecDepth 100000 in
set_option maxHeartbeats 4000000 in
theorem c_X6_init (l : Launch) (g : CG) (N : Nat) (a0 : Option Nat) (μ : Mem) (rv : Unit) (μ9 : Mem) (h : f_X6_init N a0 μ = some (rv, μ9)) : Ct l yX6_init mi_X6_init g [aR a0] μ none μ9 := ct_of ⟨by decide, rfl, rfl⟩ (Nat.le_of_ble_eq_true rfl) fun x C F => p_X6_init C F h
def f_X10_init (N : Nat) (a0 : Option Nat) (a1 : Int32) (μ : Mem) : Option (Unit × Mem) :=
  (mck μ a0 10).bind fun b1 =>
  (some (mnaI μ 0 4096)).bind fun μ2 =>
  (mpR μ2 a0 10 1 (some μ.1)).bind fun μ3 =>
  (some (mnaI μ3 0 1024)).bind fun μ4 =>
  (mpR μ4 a0 10 2 (some μ3.1)).bind fun μ5 =>
  (some (mnaI μ5 0 500)).bind fun μ6 =>
  (mpR μ6 a0 10 3 (some μ5.1)).bind fun μ7 =>
  (some (madd μ7 (.inr (6, df_X6)))).bind fun μ8 =>
  (f_X6_init N (some μ7.1) μ8).bind fun q9 =>
  (mpR q9.2 a0 10 4 (some μ7.1)).bind fun μ10 =>
  (some (madd μ10 (.inr (6, df_X6)))).bind fun μ11 =>
  (f_X6_init N (some μ10.1) μ11).bind fun q12 =>
  (mpR q12.2 a0 10 5 (some μ10.1)).bind fun μ13 =>
  (mpI μ13 a0 10 6 0).bind fun μ14 =>
  (mpI μ14 a0 10 7 0).bind fun μ15 =>
  (mpI μ15 a0 10 8 0).bind fun μ16 =>
  (mpI μ16 a0 10 9 0).bind fun μ17 =>
  (mpI μ17 a0 10 10 0).bind fun μ18 =>
  (mpI μ18 a0 10 11 0).bind fun μ19 =>
  (mpI μ19 a0 10 12 0).bind fun μ20 =>
  (mpI μ20 a0 10 13 0).bind fun μ21 =>
  (mpI μ21 a0 10 14 0).bind fun μ22 =>
  (mpI μ22 a0 10 15 0).bind fun μ23 =>
  (mpI μ23 a0 10 16 0).bind fun μ24 =>
  (mpI μ24 a0 10 17 0).bind fun μ25 =>
  (mpI μ25 a0 10 18 0).bind fun μ26 =>
  (mpR μ26 a0 10 19 none).bind fun μ27 =>
  (mpI μ27 a0 10 0 a1).bind fun μ28 =>
  some ((), μ28)
set_option maxRecDepth 100000 in
set_option maxHeartbeats 4000000 in
theorem p_X10_init {x : CX} {l : Launch} {g : CG} {rv : Unit} {μ0 μ9 : Mem} (C : Cx x l g mi_X10_init) (F : Prom x g mi_X10_init μ0 none μ9) {N : Nat} {a0 : Option Nat} {a1 : Int32} {μ : Mem} (h : f_X10_init N a0 a1 μ = some (rv, μ9)) : V x g 2 0 0 μ 0 [(0, aR a0), (1, aI a1)] [] := by
  unfold f_X10_init at h
  refine v_aload_n C dX10_init_0 rfl ?_
  obtain ⟨b, e0, h⟩ := ob h
  refine v_objInitR C dX10_init_1 oi_X10_3 rfl ⟨Nat.le_of_ble_eq_true rfl, Nat.le_of_ble_eq_true rfl⟩ e0 ?_
  refine v_aload_n C dX10_init_4 rfl ?_
  refine v_sipush (v := 4096) C dX10_init_5 rfl ?_
  obtain ⟨m, e, h⟩ := ob h
  cases e
  refine v_newaI (N := 4096) C dX10_init_8 ar_I ⟨by decide, by decide⟩ (by decide) ⟨Nat.le_of_ble_eq_true rfl, Nat.le_of_ble_eq_true rfl⟩ ?_
  obtain ⟨m, e, h⟩ := ob h
  refine v_putR C dX10_init_10 pf_X10_9 rfl e ?_
  refine v_aload_n C dX10_init_13 rfl ?_
  refine v_sipush (v := 1024) C dX10_init_14 rfl ?_
  obtain ⟨m, e, h⟩ := ob h
  cases e
  refine v_newaI (N := 1024) C dX10_init_17 ar_I ⟨by decide, by decide⟩ (by decide) ⟨Nat.le_of_ble_eq_true rfl, Nat.le_of_ble_eq_true rfl⟩ ?_
  obtain ⟨m, e, h⟩ := ob h
  refine v_putR C dX10_init_19 pf_X10_15 rfl e ?_
  refine v_aload_n C dX10_init_22 rfl ?_
  refine v_sipush (v := 500) C dX10_init_23 rfl ?_
  obtain ⟨m, e, h⟩ := ob h
  cases e
  refine v_newaI (N := 500) C dX10_init_26 ar_I ⟨by decide, by decide⟩ (by decide) ⟨Nat.le_of_ble_eq_true rfl, Nat.le_of_ble_eq_true rfl⟩ ?_
  obtain ⟨m, e, h⟩ := ob h
  refine v_putR C dX10_init_28 pf_X10_18 rfl e ?_
  refine v_aload_n C dX10_init_31 rfl ?_
  obtain ⟨m, e, h⟩ := ob h
  cases e
  refine v_new df_X6 C dX10_init_32 nf_X10_21 ⟨Nat.le_of_ble_eq_true rfl, Nat.le_of_ble_eq_true rfl⟩ ?_
  refine v_dup C dX10_init_35 rfl ?_
  obtain ⟨q, e, h⟩ := ob h
  refine v_callI (As := []) C dX10_init_36 cf_X10_23 rfl ⟨⟨Nat.le_of_ble_eq_true rfl, Nat.le_of_ble_eq_true rfl⟩, Nat.le_of_ble_eq_true rfl, Nat.le_of_ble_eq_true rfl⟩ ⟨rfl, rfl⟩ rfl (Nat.le_of_ble_eq_true rfl) (c_X6_init _ _ N _ _ q.1 q.2 e) ?_
  obtain ⟨m, e, h⟩ := ob h
  refine v_putR C dX10_init_39 pf_X10_24 rfl e ?_
  refine v_aload_n C dX10_init_42 rfl ?_
  obtain ⟨m, e, h⟩ := ob h
  cases e
  refine v_new df_X6 C dX10_init_43 nf_X10_21 ⟨Nat.le_of_ble_eq_true rfl, Nat.le_of_ble_eq_true rfl⟩ ?_
  refine v_dup C dX10_init_46 rfl ?_
  obtain ⟨q, e, h⟩ := ob h
  refine v_callI (As := []) C dX10_init_47 cf_X10_23 rfl ⟨⟨Nat.le_of_ble_eq_true rfl, Nat.le_of_ble_eq_true rfl⟩, Nat.le_of_ble_eq_true rfl, Nat.le_of_ble_eq_true rfl⟩ ⟨rfl, rfl⟩ rfl (Nat.le_of_ble_eq_true rfl) (c_X6_init _ _ N _ _ q.1 q.2 e) ?_
  obtain ⟨m, e, h⟩ := ob h
  refine v_putR C dX10_init_50 pf_X10_28 rfl e ?_
  refine v_aload_n C dX10_init_53 rfl ?_
  refine v_iconst (v := 0) C dX10_init_54 rfl ?_
  obtain ⟨m, e, h⟩ := ob h
  refine v_putI C dX10_init_55 (pf_X10_31 _) e ?_
  refine v_aload_n C dX10_init_58 rfl ?_
  refine v_iconst (v := 0) C dX10_init_59 rfl ?_
  obtain ⟨m, e, h⟩ := ob h
  refine v_putI C dX10_init_60 (pf_X10_35 _) e ?_
  refine v_aload_n C dX10_init_63 rfl ?_
  refine v_iconst (v := 0) C dX10_init_64 rfl ?_
  obtain ⟨m, e, h⟩ := ob h
  refine v_putI C dX10_init_65 (pf_X10_38 _) e ?_
  refine v_aload_n C dX10_init_68 rfl ?_
  refine v_iconst (v := 0) C dX10_init_69 rfl ?_
  obtain ⟨m, e, h⟩ := ob h
  refine v_putI C dX10_init_70 (pf_X10_41 _) e ?_
  refine v_aload_n C dX10_init_73 rfl ?_
  refine v_iconst (v := 0) C dX10_init_74 rfl ?_
  obtain ⟨m, e, h⟩ := ob h
  refine v_putI C dX10_init_75 (pf_X10_44 _) e ?_
  refine v_aload_n C dX10_init_78 rfl ?_
  refine v_iconst (v := 0) C dX10_init_79 rfl ?_
  obtain ⟨m, e, h⟩ := ob h
  refine v_putI C dX10_init_80 (pf_X10_47 _) e ?_
  refine v_aload_n C dX10_init_83 rfl ?_
  refine v_iconst (v := 0) C dX10_init_84 rfl ?_
  obtain ⟨m, e, h⟩ := ob h
  refine v_putI C dX10_init_85 (pf_X10_50 _) e ?_
  refine v_aload_n C dX10_init_88 rfl ?_
  refine v_iconst (v := 0) C dX10_init_89 rfl ?_
  obtain ⟨m, e, h⟩ := ob h
  refine v_putI C dX10_init_90 (pf_X10_53 _) e ?_
  refine v_aload_n C dX10_init_93 rfl ?_
  refine v_iconst (v := 0) C dX10_init_94 rfl ?_
  obtain ⟨m, e, h⟩ := ob h
  refine v_putI C dX10_init_95 (pf_X10_56 _) e ?_
  refine v_aload_n C dX10_init_98 rfl ?_
  refine v_iconst (v := 0) C dX10_init_99 rfl ?_
  obtain ⟨m, e, h⟩ := ob h
  refine v_putI C dX10_init_100 (pf_X10_59 _) e ?_
  refine v_aload_n C dX10_init_103 rfl ?_
  refine v_iconst (v := 0) C dX10_init_104 rfl ?_
  obtain ⟨m, e, h⟩ := ob h
  refine v_putI C dX10_init_105 (pf_X10_62 _) e ?_
  refine v_aload_n C dX10_init_108 rfl ?_
  refine v_iconst (v := 0) C dX10_init_109 rfl ?_
  obtain ⟨m, e, h⟩ := ob h
  refine v_putI C dX10_init_110 (pf_X10_65 _) e ?_
  refine v_aload_n C dX10_init_113 rfl ?_
  refine v_iconst (v := 0) C dX10_init_114 rfl ?_
  obtain ⟨m, e, h⟩ := ob h
  refine v_putI C dX10_init_115 (pf_X10_68 _) e ?_
  refine v_aload_n C dX10_init_118 rfl ?_
  refine v_null C dX10_init_119 ?_
  obtain ⟨m, e, h⟩ := ob h
  refine v_putR C dX10_init_120 (pf_X10_71 _) rfl e ?_
  refine v_aload_n C dX10_init_123 rfl ?_
  refine v_iload_n C dX10_init_124 rfl ?_
  obtain ⟨m, e, h⟩ := ob h
  refine v_putI C dX10_init_125 pf_X10_75 e ?_
  exact v_vret C F ⟨rfl, rfl, Nat.le_refl _⟩ dX10_init_128 h
set_option maxRecDepth 100000 in
set_option maxHeartbeats 4000000 in
theorem c_X10_init (l : Launch) (g : CG) (N : Nat) (a0 : Option Nat) (a1 : Int32) (μ : Mem) (rv : Unit) (μ9 : Mem) (h : f_X10_init N a0 a1 μ = some (rv, μ9)) : Ct l yX10_init mi_X10_init g [aR a0, aI a1] μ none μ9 := ct_of ⟨by decide, rfl, rfl⟩ (Nat.le_of_ble_eq_true rfl) fun x C F => p_X10_init C F h
def f_X8_init (N : Nat) (a0 : Option Nat) (a1 : Int32) (μ : Mem) : Option (Unit × Mem) :=
  (mck μ a0 8).bind fun b1 =>
  (some (mnaI μ 0 4096)).bind fun μ2 =>
  (mpR μ2 a0 8 1 (some μ.1)).bind fun μ3 =>
  (mpR μ3 a0 8 2 none).bind fun μ4 =>
  (mpZ μ4 a0 8 3 0).bind fun μ5 =>
  (mpZ μ5 a0 8 4 0).bind fun μ6 =>
  (mpI μ6 a0 8 0 a1).bind fun μ7 =>
  some ((), μ7)
set_option maxRecDepth 100000 in
set_option maxHeartbeats 4000000 in
theorem p_X8_init {x : CX} {l : Launch} {g : CG} {rv : Unit} {μ0 μ9 : Mem} (C : Cx x l g mi_X8_init) (F : Prom x g mi_X8_init μ0 none μ9) {N : Nat} {a0 : Option Nat} {a1 : Int32} {μ : Mem} (h : f_X8_init N a0 a1 μ = some (rv, μ9)) : V x g 2 0 0 μ 0 [(0, aR a0), (1, aI a1)] [] := by
  unfold f_X8_init at h
  refine v_aload_n C dX8_init_0 rfl ?_
  obtain ⟨b, e0, h⟩ := ob h
  refine v_objInitR C dX8_init_1 oi_X8_3 rfl ⟨Nat.le_of_ble_eq_true rfl, Nat.le_of_ble_eq_true rfl⟩ e0 ?_
  refine v_aload_n C dX8_init_4 rfl ?_
  refine v_sipush (v := 4096) C dX8_init_5 rfl ?_
  obtain ⟨m, e, h⟩ := ob h
  cases e
  refine v_newaI (N := 4096) C dX8_init_8 ar_I ⟨by decide, by decide⟩ (by decide) ⟨Nat.le_of_ble_eq_true rfl, Nat.le_of_ble_eq_true rfl⟩ ?_
  obtain ⟨m, e, h⟩ := ob h
  refine v_putR C dX8_init_10 pf_X8_9 rfl e ?_
  refine v_aload_n C dX8_init_13 rfl ?_
  refine v_null C dX8_init_14 ?_
  obtain ⟨m, e, h⟩ := ob h
  refine v_putR C dX8_init_15 (pf_X8_15 _) rfl e ?_
  refine v_aload_n C dX8_init_18 rfl ?_
  refine v_iconst (v := 0) C dX8_init_19 rfl ?_
  obtain ⟨m, e, h⟩ := ob h
  refine v_putZ C dX8_init_20 (pf_X8_19 _) e ?_
  refine v_aload_n C dX8_init_23 rfl ?_
  refine v_iconst (v := 0) C dX8_init_24 rfl ?_
  obtain ⟨m, e, h⟩ := ob h
  refine v_putZ C dX8_init_25 (pf_X8_23 _) e ?_
  refine v_aload_n C dX8_init_28 rfl ?_
  refine v_iload_n C dX8_init_29 rfl ?_
  obtain ⟨m, e, h⟩ := ob h
  refine v_putI C dX8_init_30 pf_X8_26 e ?_
  exact v_vret C F ⟨rfl, rfl, Nat.le_refl _⟩ dX8_init_33 h
set_option maxRecDepth 100000 in
set_option maxHeartbeats 4000000 in
theorem c_X8_init (l : Launch) (g : CG) (N : Nat) (a0 : Option Nat) (a1 : Int32) (μ : Mem) (rv : Unit) (μ9 : Mem) (h : f_X8_init N a0 a1 μ = some (rv, μ9)) : Ct l yX8_init mi_X8_init g [aR a0, aI a1] μ none μ9 := ct_of ⟨by decide, rfl, rfl⟩ (Nat.le_of_ble_eq_true rfl) fun x C F => p_X8_init C F h
def f_X5_init (N : Nat) (U S : Nat) (a0 : Option Nat) (a1 : Int32) (μ : Mem) : Option (Unit × Mem) :=
  (mck μ a0 5).bind fun b1 =>
  (mpI μ a0 5 1 0).bind fun μ2 =>
  if ¬ (¬ (mmax 1 a1) < 0 ∧ (mmax 1 a1).toNatClampNeg = U) then none else
  (some (mnaR μ2 4 U)).bind fun μ3 =>
  (mpR μ3 a0 5 0 (some μ2.1)).bind fun μ4 =>
  some ((), μ4)
set_option maxRecDepth 100000 in
set_option maxHeartbeats 4000000 in
theorem p_X5_init {x : CX} {l : Launch} {g : CG} {rv : Unit} {μ0 μ9 : Mem} {U S : Nat} (C : Cx x l g (mi_X5_init U S)) (F : Prom x g (mi_X5_init U S) μ0 none μ9) (hU : U ≤ 6 ∧ S ≤ 4) {N : Nat} {a0 : Option Nat} {a1 : Int32} {μ : Mem} (h : f_X5_init N U S a0 a1 μ = some (rv, μ9)) : V x g 2 0 0 μ 0 [(0, aR a0), (1, aI a1)] [] := by
  unfold f_X5_init at h
  refine v_aload_n C dX5_init_0 rfl ?_
  obtain ⟨b, e0, h⟩ := ob h
  refine v_objInitR C dX5_init_1 oi_X5_3 rfl ⟨Nat.le_of_ble_eq_true rfl, Nat.le_of_ble_eq_true rfl⟩ e0 ?_
  refine v_aload_n C dX5_init_4 rfl ?_
  refine v_iconst (v := 0) C dX5_init_5 rfl ?_
  obtain ⟨m, e, h⟩ := ob h
  refine v_putI C dX5_init_6 (pf_X5_9 _) e ?_
  refine v_aload_n C dX5_init_9 rfl ?_
  refine v_iconst (v := 1) C dX5_init_10 rfl ?_
  refine v_iload_n C dX5_init_11 rfl ?_
  refine v_mmax C dX5_init_12 mx_X5_15 rfl ⟨⟨Nat.le_of_ble_eq_true rfl, Nat.le_of_ble_eq_true rfl⟩, by show 0 ≤ 1; omega, by show 0 ≤ (0 + 1 * U); omega⟩ ?_
  obtain ⟨c0, h⟩ := oz h
  replace c0 := Classical.not_not.mp c0
  obtain ⟨m, e, h⟩ := ob h
  cases e
  refine v_newaR (t := 4) (N := U) C dX5_init_15 ⟨rfl, ax_X5_21, ao_X10⟩ c0 (by omega) ⟨by show 0 + 1 ≤ 1; omega, by show 0 + U ≤ (0 + 1 * U); omega⟩ ?_
  refine v_eqk (k' := 1) (by show 0 + 1 = 1; omega) ?_
  refine v_wid (n' := (0 + 1 * U)) (by show 0 + U ≤ (0 + 1 * U); omega) ?_
  obtain ⟨m, e, h⟩ := ob h
  refine v_putR C dX5_init_18 pf_X5_23 rfl e ?_
  exact v_vret C F ⟨rfl, rfl, Nat.le_refl _⟩ dX5_init_21 h
set_option maxRecDepth 100000 in
set_option maxHeartbeats 4000000 in
theorem c_X5_init (l : Launch) (g : CG) (N : Nat) (U S : Nat) (hU : U ≤ 6 ∧ S ≤ 4) (a0 : Option Nat) (a1 : Int32) (μ : Mem) (rv : Unit) (μ9 : Mem) (h : f_X5_init N U S a0 a1 μ = some (rv, μ9)) : Ct l yX5_init (mi_X5_init U S) g [aR a0, aI a1] μ none μ9 := ct_of ⟨by decide, rfl, rfl⟩ (Nat.le_of_ble_eq_true rfl) fun x C F => p_X5_init C F hU h
def H_X2_init_113 (N : Nat) (U S : Nat) (k113 : Nat → (Option Nat) → Int32 → Int32 → Int32 → Mem → Option (Unit × Mem)) (j : Nat) (a0 : Option Nat) (a3 : Int32) (a4 : Int32) (a5 : Int32) (μ : Mem) : Option (Unit × Mem) :=
  (mfR μ a0 2 1).bind fun v1 =>
  (mal μ v1).bind fun v2 =>
  if v2 ≤ a5 then
    if ¬ j = S then none else
    (some (madd μ (.inr (5, df_X5)))).bind fun μ3 =>
    (mfR μ3 a0 2 0).bind fun v4 =>
    (mal μ3 v4).bind fun v5 =>
    (f_X5_init N U S (some μ.1) v5 μ3).bind fun q6 =>
    (mpR q6.2 a0 2 2 (some μ.1)).bind fun μ7 =>
    (mpI μ7 a0 2 5 a3).bind fun μ8 =>
    (mpI μ8 a0 2 6 a4).bind fun μ9 =>
    some ((), μ9)
  else
    if ¬ j < S then none else
    (mfR μ a0 2 1).bind fun v10 =>
    (some (madd μ (.inr (8, df_X8)))).bind fun μ11 =>
    (f_X8_init N (some μ.1) a5 μ11).bind fun q12 =>
    (mbR q12.2 5 8 v10 a5 (some μ.1)).bind fun μ13 =>
    k113 (j + 1) a0 a3 a4 (a5 + 1) μ13
def L_X2_init_113 (N : Nat) (U S : Nat) : Nat → Nat → (Option Nat) → Int32 → Int32 → Int32 → Mem → Option (Unit × Mem)
  | 0 => fun _ _ _ _ _ _ => none
  | n + 1 => H_X2_init_113 N U S (L_X2_init_113 N U S n)
def H_X2_init_66 (N : Nat) (U S : Nat) (k66 : Nat → (Option Nat) → Int32 → Int32 → Int32 → Int32 → Mem → Option (Unit × Mem)) (j : Nat) (a0 : Option Nat) (a2 : Int32) (a3 : Int32) (a4 : Int32) (a5 : Int32) (μ : Mem) : Option (Unit × Mem) :=
  (mfR μ a0 2 0).bind fun v1 =>
  (mal μ v1).bind fun v2 =>
  if v2 ≤ a5 then
    if ¬ j = U then none else
    if ¬ (¬ (mmax 1 a2) < 0 ∧ (mmax 1 a2).toNatClampNeg = S) then none else
    (some (mnaR μ 5 S)).bind fun μ3 =>
    (mpR μ3 a0 2 1 (some μ.1)).bind fun μ4 =>
    L_X2_init_113 N U S N 0 a0 a3 a4 0 μ4
  else
    if ¬ j < U then none else
    (mfR μ a0 2 0).bind fun v5 =>
    (some (madd μ (.inr (10, df_X10)))).bind fun μ6 =>
    (f_X10_init N (some μ.1) a5 μ6).bind fun q7 =>
    (mbR q7.2 4 10 v5 a5 (some μ.1)).bind fun μ8 =>
    k66 (j + 1) a0 a2 a3 a4 (a5 + 1) μ8
def L_X2_init_66 (N : Nat) (U S : Nat) : Nat → Nat → (Option Nat) → Int32 → Int32 → Int32 → Int32 → Mem → Option (Unit × Mem)
  | 0 => fun _ _ _ _ _ _ _ => none
  | n + 1 => H_X2_init_66 N U S (L_X2_init_66 N U S n)
def f_X2_init (N : Nat) (U S : Nat) (a0 : Option Nat) (a1 : Int32) (a2 : Int32) (a3 : Int32) (a4 : Int32) (μ : Mem) : Option (Unit × Mem) :=
  (mck μ a0 2).bind fun b1 =>
  (some (madd μ (.inr (1, df_X1)))).bind fun μ2 =>
  (f_X1_init N (some μ.1) μ2).bind fun q3 =>
  (mpR q3.2 a0 2 3 (some μ.1)).bind fun μ4 =>
  (some (madd μ4 (.inr (3, df_X3)))).bind fun μ5 =>
  (f_X3_init N (some μ4.1) μ5).bind fun q6 =>
  (mpR q6.2 a0 2 4 (some μ4.1)).bind fun μ7 =>
  (mpI μ7 a0 2 7 0).bind fun μ8 =>
  (mpR μ8 a0 2 8 none).bind fun μ9 =>
  (mpI μ9 a0 2 9 0).bind fun μ10 =>
  (mpI μ10 a0 2 10 0).bind fun μ11 =>
  (mpI μ11 a0 2 11 0).bind fun μ12 =>
  if ¬ (¬ (mmax 1 a1) < 0 ∧ (mmax 1 a1).toNatClampNeg = U) then none else
  (some (mnaR μ12 4 U)).bind fun μ13 =>
  (mpR μ13 a0 2 0 (some μ12.1)).bind fun μ14 =>
  L_X2_init_66 N U S N 0 a0 a2 a3 a4 0 μ14
set_option maxRecDepth 100000 in
set_option maxHeartbeats 4000000 in
theorem pH_X2_init_113 {x : CX} {l : Launch} {g : CG} {rv : Unit} {μ0 μ9 : Mem} {U S : Nat} (C : Cx x l g (mi_X2_init U S)) (F : Prom x g (mi_X2_init U S) μ0 none μ9) (hU : U ≤ 6 ∧ S ≤ 4) {N : Nat} {k113 : Nat → (Option Nat) → Int32 → Int32 → Int32 → Mem → Option (Unit × Mem)} (hk113 : ∀ (j : Nat) (a0 : Option Nat) (a3 : Int32) (a4 : Int32) (a5 : Int32) (μ : Mem), k113 j a0 a3 a4 a5 μ = some (rv, μ9) → V x g 6 (4 + 8 * U + 2 * j) (10 + 5679 * U + 1 * S + 4101 * j) μ 113 [(0, aR a0), (3, aI a3), (4, aI a4), (5, aI a5)] []) {j : Nat} {a0 : Option Nat} {a3 : Int32} {a4 : Int32} {a5 : Int32} {μ : Mem} (h : H_X2_init_113 N U S k113 j a0 a3 a4 a5 μ = some (rv, μ9)) : V x g 6 (4 + 8 * U + 2 * j) (10 + 5679 * U + 1 * S + 4101 * j) μ 113 [(0, aR a0), (3, aI a3), (4, aI a4), (5, aI a5)] [] := by
  unfold H_X2_init_113 at h
  refine v_iload C dX2_init_113 rfl ?_
  refine v_aload_n C dX2_init_115 rfl ?_
  obtain ⟨v, e, h⟩ := ob h
  refine v_getR C dX2_init_116 gf_X2_59 e ?_
  obtain ⟨v, e, h⟩ := ob h
  refine v_alen C dX2_init_119 e ?_
  refine v_icmp_ge (tgt := 145) C dX2_init_120 (by decide) (fun c => ?_) (fun c => ?_)
  · replace h := ifT h c
    obtain ⟨cj, h⟩ := oz h
    replace cj := Classical.not_not.mp cj
    refine v_eqk (k' := (4 + 8 * U + 2 * S)) (by omega) ?_
    refine v_wid (n' := (10 + 5679 * U + 4102 * S)) (by omega) ?_
    refine v_aload_n C dX2_init_145 rfl ?_
    obtain ⟨m, e, h⟩ := ob h
    cases e
    refine v_new df_X5 C dX2_init_146 nf_X2_64 ⟨by show (4 + 8 * U + 2 * S) + 1 ≤ (6 + 8 * U + 2 * S); omega, by show (10 + 5679 * U + 4102 * S) + 2 ≤ (12 + 5680 * U + 4102 * S); omega⟩ ?_
    refine v_eqk (k' := (5 + 8 * U + 2 * S)) (by show (4 + 8 * U + 2 * S) + 1 = (5 + 8 * U + 2 * S); omega) ?_
    refine v_wid (n' := (12 + 5679 * U + 4102 * S)) (by show (10 + 5679 * U + 4102 * S) + 2 ≤ (12 + 5679 * U + 4102 * S); omega) ?_
    refine v_dup C dX2_init_149 rfl ?_
    refine v_aload_n C dX2_init_150 rfl ?_
    obtain ⟨v, e, h⟩ := ob h
    refine v_getR C dX2_init_151 gf_X2_50 e ?_
    obtain ⟨v, e, h⟩ := ob h
    refine v_alen C dX2_init_154 e ?_
    obtain ⟨q, e, h⟩ := ob h
    refine v_callI (As := [_]) C dX2_init_155 cf_X2_66 rfl ⟨⟨Nat.le_of_ble_eq_true rfl, Nat.le_of_ble_eq_true rfl⟩, by show (5 + 8 * U + 2 * S) + 1 ≤ (6 + 8 * U + 2 * S); omega, by show (12 + 5679 * U + 4102 * S) + (0 + 1 * U) ≤ (12 + 5680 * U + 4102 * S); omega⟩ ⟨rfl, rfl⟩ rfl (Nat.le_of_ble_eq_true rfl) (c_X5_init _ _ N U S hU _ _ _ q.1 q.2 e) ?_
    refine v_eqk (k' := (6 + 8 * U + 2 * S)) (by show (5 + 8 * U + 2 * S) + 1 = (6 + 8 * U + 2 * S); omega) ?_
    refine v_wid (n' := (12 + 5680 * U + 4102 * S)) (by show (12 + 5679 * U + 4102 * S) + (0 + 1 * U) ≤ (12 + 5680 * U + 4102 * S); omega) ?_
    obtain ⟨m, e, h⟩ := ob h
    refine v_putR C dX2_init_158 pf_X2_67 rfl e ?_
    refine v_aload_n C dX2_init_161 rfl ?_
    refine v_iload_n C dX2_init_162 rfl ?_
    obtain ⟨m, e, h⟩ := ob h
    refine v_putI C dX2_init_163 pf_X2_71 e ?_
    refine v_aload_n C dX2_init_166 rfl ?_
    refine v_iload C dX2_init_167 rfl ?_
    obtain ⟨m, e, h⟩ := ob h
    refine v_putI C dX2_init_169 pf_X2_74 e ?_
    exact v_vret C F ⟨rfl, rfl, Nat.le_refl _⟩ dX2_init_172 h
  · replace h := ifF h c
    obtain ⟨cj, h⟩ := oz h
    replace cj := Classical.not_not.mp cj
    refine v_aload_n C dX2_init_123 rfl ?_
    obtain ⟨v, e, h⟩ := ob h
    refine v_getR C dX2_init_124 gf_X2_59 e ?_
    refine v_iload C dX2_init_127 rfl ?_
    obtain ⟨m, e, h⟩ := ob h
    cases e
    refine v_new df_X8 C dX2_init_129 nf_X2_57 ⟨by show (4 + 8 * U + 2 * j) + 1 ≤ (6 + 8 * U + 2 * S); omega, by show (10 + 5679 * U + 1 * S + 4101 * j) + 5 ≤ (12 + 5680 * U + 4102 * S); omega⟩ ?_
    refine v_eqk (k' := (5 + 8 * U + 2 * j)) (by show (4 + 8 * U + 2 * j) + 1 = (5 + 8 * U + 2 * j); omega) ?_
    refine v_wid (n' := (15 + 5679 * U + 1 * S + 4101 * j)) (by show (10 + 5679 * U + 1 * S + 4101 * j) + 5 ≤ (15 + 5679 * U + 1 * S + 4101 * j); omega) ?_
    refine v_dup C dX2_init_132 rfl ?_
    refine v_iload C dX2_init_133 rfl ?_
    obtain ⟨q, e, h⟩ := ob h
    refine v_callI (As := [_]) C dX2_init_135 cf_X2_63 rfl ⟨⟨Nat.le_of_ble_eq_true rfl, Nat.le_of_ble_eq_true rfl⟩, by show (5 + 8 * U + 2 * j) + 1 ≤ (6 + 8 * U + 2 * S); omega, by show (15 + 5679 * U + 1 * S + 4101 * j) + 4096 ≤ (12 + 5680 * U + 4102 * S); omega⟩ ⟨rfl, rfl⟩ rfl (Nat.le_of_ble_eq_true rfl) (c_X8_init _ _ N _ _ _ q.1 q.2 e) ?_
    refine v_eqk (k' := (6 + 8 * U + 2 * j)) (by show (5 + 8 * U + 2 * j) + 1 = (6 + 8 * U + 2 * j); omega) ?_
    refine v_wid (n' := (4111 + 5679 * U + 1 * S + 4101 * j)) (by show (15 + 5679 * U + 1 * S + 4101 * j) + 4096 ≤ (4111 + 5679 * U + 1 * S + 4101 * j); omega) ?_
    obtain ⟨m, e, h⟩ := ob h
    refine v_aastV C ⟨rfl, rfl⟩ dX2_init_138 e ?_
    refine v_iinc (w := 1) C dX2_init_139 rfl rfl (by decide) ?_
    refine v_goto (tgt := 113) C dX2_init_142 (by decide) ?_
    refine v_eqk (k' := (4 + 8 * U + 2 * (j + 1))) (by omega) ?_
    refine v_wid (n' := (10 + 5679 * U + 1 * S + 4101 * (j + 1))) (by omega) ?_
    exact v_sb (hk113 _ _ _ _ _ _ h) ⟨rfl, rfl, rfl, rfl, trivial⟩
set_option maxRecDepth 100000 in
set_option maxHeartbeats 4000000 in
theorem pL_X2_init_113 {x : CX} {l : Launch} {g : CG} {rv : Unit} {μ0 μ9 : Mem} {U S : Nat} (C : Cx x l g (mi_X2_init U S)) (F : Prom x g (mi_X2_init U S) μ0 none μ9) (hU : U ≤ 6 ∧ S ≤ 4) (N : Nat) (n : Nat) : ∀ (j : Nat) (a0 : Option Nat) (a3 : Int32) (a4 : Int32) (a5 : Int32) (μ : Mem), L_X2_init_113 N U S n j a0 a3 a4 a5 μ = some (rv, μ9) → V x g 6 (4 + 8 * U + 2 * j) (10 + 5679 * U + 1 * S + 4101 * j) μ 113 [(0, aR a0), (3, aI a3), (4, aI a4), (5, aI a5)] [] := by
  induction n with
  | zero => intro j a0 a3 a4 a5 μ h; cases h
  | succ n ih => intro j a0 a3 a4 a5 μ h; exact pH_X2_init_113 C F hU ih h
set_option maxRecDepth 100000 in
set_option maxHeartbeats 4000000 in
theorem pH_X2_init_66 {x : CX} {l : Launch} {g : CG} {rv : Unit} {μ0 μ9 : Mem} {U S : Nat} (C : Cx x l g (mi_X2_init U S)) (F : Prom x g (mi_X2_init U S) μ0 none μ9) (hU : U ≤ 6 ∧ S ≤ 4) {N : Nat} {k66 : Nat → (Option Nat) → Int32 → Int32 → Int32 → Int32 → Mem → Option (Unit × Mem)} (hk66 : ∀ (j : Nat) (a0 : Option Nat) (a2 : Int32) (a3 : Int32) (a4 : Int32) (a5 : Int32) (μ : Mem), k66 j a0 a2 a3 a4 a5 μ = some (rv, μ9) → V x g 6 (3 + 8 * j) (10 + 1 * U + 5678 * j) μ 66 [(0, aR a0), (2, aI a2), (3, aI a3), (4, aI a4), (5, aI a5)] []) {j : Nat} {a0 : Option Nat} {a2 : Int32} {a3 : Int32} {a4 : Int32} {a5 : Int32} {μ : Mem} (h : H_X2_init_66 N U S k66 j a0 a2 a3 a4 a5 μ = some (rv, μ9)) : V x g 6 (3 + 8 * j) (10 + 1 * U + 5678 * j) μ 66 [(0, aR a0), (2, aI a2), (3, aI a3), (4, aI a4), (5, aI a5)] [] := by
  unfold H_X2_init_66 at h
  refine v_iload C dX2_init_66 rfl ?_
  refine v_aload_n C dX2_init_68 rfl ?_
  obtain ⟨v, e, h⟩ := ob h
  refine v_getR C dX2_init_69 gf_X2_50 e ?_
  obtain ⟨v, e, h⟩ := ob h
  refine v_alen C dX2_init_72 e ?_
  refine v_icmp_ge (tgt := 98) C dX2_init_73 (by decide) (fun c => ?_) (fun c => ?_)
  · replace h := ifT h c
    obtain ⟨cj, h⟩ := oz h
    replace cj := Classical.not_not.mp cj
    refine v_eqk (k' := (3 + 8 * U)) (by omega) ?_
    refine v_wid (n' := (10 + 5679 * U)) (by omega) ?_
    refine v_aload_n C dX2_init_98 rfl ?_
    refine v_iconst (v := 1) C dX2_init_99 rfl ?_
    refine v_iload_n C dX2_init_100 rfl ?_
    refine v_mmax C dX2_init_101 mx_X2_42 rfl ⟨⟨Nat.le_of_ble_eq_true rfl, Nat.le_of_ble_eq_true rfl⟩, by show (3 + 8 * U) ≤ (6 + 8 * U + 2 * S); omega, by show (10 + 5679 * U) ≤ (12 + 5680 * U + 4102 * S); omega⟩ ?_
    obtain ⟨c0, h⟩ := oz h
    replace c0 := Classical.not_not.mp c0
    obtain ⟨m, e, h⟩ := ob h
    cases e
    refine v_newaR (t := 5) (N := S) C dX2_init_104 ⟨rfl, ax_X2_57, ao_X8⟩ c0 (by omega) ⟨by show (3 + 8 * U) + 1 ≤ (6 + 8 * U + 2 * S); omega, by show (10 + 5679 * U) + S ≤ (12 + 5680 * U + 4102 * S); omega⟩ ?_
    refine v_eqk (k' := (4 + 8 * U)) (by show (3 + 8 * U) + 1 = (4 + 8 * U); omega) ?_
    refine v_wid (n' := (10 + 5679 * U + 1 * S)) (by show (10 + 5679 * U) + S ≤ (10 + 5679 * U + 1 * S); omega) ?_
    obtain ⟨m, e, h⟩ := ob h
    refine v_putR C dX2_init_107 pf_X2_59 rfl e ?_
    refine v_iconst (v := 0) C dX2_init_110 rfl ?_
    refine v_istore C dX2_init_111 (by decide) ?_
    refine v_eqk (k' := (4 + 8 * U + 2 * 0)) (by omega) ?_
    refine v_wid (n' := (10 + 5679 * U + 1 * S + 4101 * 0)) (by omega) ?_
    exact v_sb (pL_X2_init_113 C F hU N N _ _ _ _ _ _ h) ⟨rfl, rfl, rfl, rfl, trivial⟩
  · replace h := ifF h c
    obtain ⟨cj, h⟩ := oz h
    replace cj := Classical.not_not.mp cj
    refine v_aload_n C dX2_init_76 rfl ?_
    obtain ⟨v, e, h⟩ := ob h
    refine v_getR C dX2_init_77 gf_X2_50 e ?_
    refine v_iload C dX2_init_80 rfl ?_
    obtain ⟨m, e, h⟩ := ob h
    cases e
    refine v_new df_X10 C dX2_init_82 nf_X2_48 ⟨by show (3 + 8 * j) + 1 ≤ (6 + 8 * U + 2 * S); omega, by show (10 + 1 * U + 5678 * j) + 20 ≤ (12 + 5680 * U + 4102 * S); omega⟩ ?_
    refine v_eqk (k' := (4 + 8 * j)) (by show (3 + 8 * j) + 1 = (4 + 8 * j); omega) ?_
    refine v_wid (n' := (30 + 1 * U + 5678 * j)) (by show (10 + 1 * U + 5678 * j) + 20 ≤ (30 + 1 * U + 5678 * j); omega) ?_
    refine v_dup C dX2_init_85 rfl ?_
    refine v_iload C dX2_init_86 rfl ?_
    obtain ⟨q, e, h⟩ := ob h
    refine v_callI (As := [_]) C dX2_init_88 cf_X2_54 rfl ⟨⟨Nat.le_of_ble_eq_true rfl, Nat.le_of_ble_eq_true rfl⟩, by show (4 + 8 * j) + 7 ≤ (6 + 8 * U + 2 * S); omega, by show (30 + 1 * U + 5678 * j) + 5658 ≤ (12 + 5680 * U + 4102 * S); omega⟩ ⟨rfl, rfl⟩ rfl (Nat.le_of_ble_eq_true rfl) (c_X10_init _ _ N _ _ _ q.1 q.2 e) ?_
    refine v_eqk (k' := (11 + 8 * j)) (by show (4 + 8 * j) + 7 = (11 + 8 * j); omega) ?_
    refine v_wid (n' := (5688 + 1 * U + 5678 * j)) (by show (30 + 1 * U + 5678 * j) + 5658 ≤ (5688 + 1 * U + 5678 * j); omega) ?_
    obtain ⟨m, e, h⟩ := ob h
    refine v_aastV C ⟨rfl, rfl⟩ dX2_init_91 e ?_
    refine v_iinc (w := 1) C dX2_init_92 rfl rfl (by decide) ?_
    refine v_goto (tgt := 66) C dX2_init_95 (by decide) ?_
    refine v_eqk (k' := (3 + 8 * (j + 1))) (by omega) ?_
    refine v_wid (n' := (10 + 1 * U + 5678 * (j + 1))) (by omega) ?_
    exact v_sb (hk66 _ _ _ _ _ _ _ h) ⟨rfl, rfl, rfl, rfl, rfl, trivial⟩
set_option maxRecDepth 100000 in
set_option maxHeartbeats 4000000 in
theorem pL_X2_init_66 {x : CX} {l : Launch} {g : CG} {rv : Unit} {μ0 μ9 : Mem} {U S : Nat} (C : Cx x l g (mi_X2_init U S)) (F : Prom x g (mi_X2_init U S) μ0 none μ9) (hU : U ≤ 6 ∧ S ≤ 4) (N : Nat) (n : Nat) : ∀ (j : Nat) (a0 : Option Nat) (a2 : Int32) (a3 : Int32) (a4 : Int32) (a5 : Int32) (μ : Mem), L_X2_init_66 N U S n j a0 a2 a3 a4 a5 μ = some (rv, μ9) → V x g 6 (3 + 8 * j) (10 + 1 * U + 5678 * j) μ 66 [(0, aR a0), (2, aI a2), (3, aI a3), (4, aI a4), (5, aI a5)] [] := by
  induction n with
  | zero => intro j a0 a2 a3 a4 a5 μ h; cases h
  | succ n ih => intro j a0 a2 a3 a4 a5 μ h; exact pH_X2_init_66 C F hU ih h
set_option maxRecDepth 100000 in
set_option maxHeartbeats 4000000 in
theorem p_X2_init {x : CX} {l : Launch} {g : CG} {rv : Unit} {μ0 μ9 : Mem} {U S : Nat} (C : Cx x l g (mi_X2_init U S)) (F : Prom x g (mi_X2_init U S) μ0 none μ9) (hU : U ≤ 6 ∧ S ≤ 4) {N : Nat} {a0 : Option Nat} {a1 : Int32} {a2 : Int32} {a3 : Int32} {a4 : Int32} {μ : Mem} (h : f_X2_init N U S a0 a1 a2 a3 a4 μ = some (rv, μ9)) : V x g 6 0 0 μ 0 [(0, aR a0), (1, aI a1), (2, aI a2), (3, aI a3), (4, aI a4)] [] := by
  unfold f_X2_init at h
  refine v_aload_n C dX2_init_0 rfl ?_
  obtain ⟨b, e0, h⟩ := ob h
  refine v_objInitR C dX2_init_1 oi_X2_3 rfl ⟨Nat.le_of_ble_eq_true rfl, Nat.le_of_ble_eq_true rfl⟩ e0 ?_
  refine v_aload_n C dX2_init_4 rfl ?_
  obtain ⟨m, e, h⟩ := ob h
  cases e
  refine v_new df_X1 C dX2_init_5 nf_X2_9 ⟨by show 0 + 1 ≤ (6 + 8 * U + 2 * S); omega, by show 0 + 8 ≤ (12 + 5680 * U + 4102 * S); omega⟩ ?_
  refine v_eqk (k' := 1) (by show 0 + 1 = 1; omega) ?_
  refine v_wid (n' := 8) (by show 0 + 8 ≤ 8; omega) ?_
  refine v_dup C dX2_init_8 rfl ?_
  obtain ⟨q, e, h⟩ := ob h
  refine v_callI (As := []) C dX2_init_9 cf_X2_11 rfl ⟨⟨Nat.le_of_ble_eq_true rfl, Nat.le_of_ble_eq_true rfl⟩, by show 1 + 0 ≤ (6 + 8 * U + 2 * S); omega, by show 8 + 0 ≤ (12 + 5680 * U + 4102 * S); omega⟩ ⟨rfl, rfl⟩ rfl (Nat.le_of_ble_eq_true rfl) (c_X1_init _ _ N _ _ q.1 q.2 e) ?_
  refine v_eqk (k' := 1) (by show 1 + 0 = 1; omega) ?_
  refine v_wid (n' := 8) (by show 8 + 0 ≤ 8; omega) ?_
  obtain ⟨m, e, h⟩ := ob h
  refine v_putR C dX2_init_12 pf_X2_12 rfl e ?_
  refine v_aload_n C dX2_init_15 rfl ?_
  obtain ⟨m, e, h⟩ := ob h
  cases e
  refine v_new df_X3 C dX2_init_16 nf_X2_18 ⟨by show 1 + 1 ≤ (6 + 8 * U + 2 * S); omega, by show 8 + 2 ≤ (12 + 5680 * U + 4102 * S); omega⟩ ?_
  refine v_eqk (k' := 2) (by show 1 + 1 = 2; omega) ?_
  refine v_wid (n' := 10) (by show 8 + 2 ≤ 10; omega) ?_
  refine v_dup C dX2_init_19 rfl ?_
  obtain ⟨q, e, h⟩ := ob h
  refine v_callI (As := []) C dX2_init_20 cf_X2_20 rfl ⟨⟨Nat.le_of_ble_eq_true rfl, Nat.le_of_ble_eq_true rfl⟩, by show 2 + 0 ≤ (6 + 8 * U + 2 * S); omega, by show 10 + 0 ≤ (12 + 5680 * U + 4102 * S); omega⟩ ⟨rfl, rfl⟩ rfl (Nat.le_of_ble_eq_true rfl) (c_X3_init _ _ N _ _ q.1 q.2 e) ?_
  refine v_eqk (k' := 2) (by show 2 + 0 = 2; omega) ?_
  refine v_wid (n' := 10) (by show 10 + 0 ≤ 10; omega) ?_
  obtain ⟨m, e, h⟩ := ob h
  refine v_putR C dX2_init_23 pf_X2_21 rfl e ?_
  refine v_aload_n C dX2_init_26 rfl ?_
  refine v_iconst (v := 0) C dX2_init_27 rfl ?_
  obtain ⟨m, e, h⟩ := ob h
  refine v_putI C dX2_init_28 (pf_X2_25 _) e ?_
  refine v_aload_n C dX2_init_31 rfl ?_
  refine v_null C dX2_init_32 ?_
  obtain ⟨m, e, h⟩ := ob h
  refine v_putR C dX2_init_33 (pf_X2_29 _) rfl e ?_
  refine v_aload_n C dX2_init_36 rfl ?_
  refine v_iconst (v := 0) C dX2_init_37 rfl ?_
  obtain ⟨m, e, h⟩ := ob h
  refine v_putI C dX2_init_38 (pf_X2_33 _) e ?_
  refine v_aload_n C dX2_init_41 rfl ?_
  refine v_iconst (v := 0) C dX2_init_42 rfl ?_
  obtain ⟨m, e, h⟩ := ob h
  refine v_putI C dX2_init_43 (pf_X2_36 _) e ?_
  refine v_aload_n C dX2_init_46 rfl ?_
  refine v_iconst (v := 0) C dX2_init_47 rfl ?_
  obtain ⟨m, e, h⟩ := ob h
  refine v_putI C dX2_init_48 (pf_X2_39 _) e ?_
  refine v_aload_n C dX2_init_51 rfl ?_
  refine v_iconst (v := 1) C dX2_init_52 rfl ?_
  refine v_iload_n C dX2_init_53 rfl ?_
  refine v_mmax C dX2_init_54 mx_X2_42 rfl ⟨⟨Nat.le_of_ble_eq_true rfl, Nat.le_of_ble_eq_true rfl⟩, by show 2 ≤ (6 + 8 * U + 2 * S); omega, by show 10 ≤ (12 + 5680 * U + 4102 * S); omega⟩ ?_
  obtain ⟨c0, h⟩ := oz h
  replace c0 := Classical.not_not.mp c0
  obtain ⟨m, e, h⟩ := ob h
  cases e
  refine v_newaR (t := 4) (N := U) C dX2_init_57 ⟨rfl, ax_X2_48, ao_X10⟩ c0 (by omega) ⟨by show 2 + 1 ≤ (6 + 8 * U + 2 * S); omega, by show 10 + U ≤ (12 + 5680 * U + 4102 * S); omega⟩ ?_
  refine v_eqk (k' := 3) (by show 2 + 1 = 3; omega) ?_
  refine v_wid (n' := (10 + 1 * U)) (by show 10 + U ≤ (10 + 1 * U); omega) ?_
  obtain ⟨m, e, h⟩ := ob h
  refine v_putR C dX2_init_60 pf_X2_50 rfl e ?_
  refine v_iconst (v := 0) C dX2_init_63 rfl ?_
  refine v_istore C dX2_init_64 (by decide) ?_
  refine v_eqk (k' := (3 + 8 * 0)) (by omega) ?_
  refine v_wid (n' := (10 + 1 * U + 5678 * 0)) (by omega) ?_
  exact v_sb (pL_X2_init_66 C F hU N N _ _ _ _ _ _ _ h) ⟨rfl, rfl, rfl, rfl, rfl, trivial⟩
set_option maxRecDepth 100000 in
set_option maxHeartbeats 4000000 in
theorem c_X2_init (l : Launch) (g : CG) (N : Nat) (U S : Nat) (hU : U ≤ 6 ∧ S ≤ 4) (a0 : Option Nat) (a1 : Int32) (a2 : Int32) (a3 : Int32) (a4 : Int32) (μ : Mem) (rv : Unit) (μ9 : Mem) (h : f_X2_init N U S a0 a1 a2 a3 a4 μ = some (rv, μ9)) : Ct l yX2_init (mi_X2_init U S) g [aR a0, aI a1, aI a2, aI a3, aI a4] μ none μ9 := ct_of ⟨by decide, rfl, rfl⟩ (Nat.le_of_ble_eq_true rfl) fun x C F => p_X2_init C F hU h
def f_X11_init (N : Nat) (U S : Nat) (a0 : Option Nat) (a1 : Int32) (a2 : Int32) (a3 : Int32) (a4 : Int32) (μ : Mem) : Option (Unit × Mem) :=
  (mck μ a0 11).bind fun b1 =>
  (some (mnaI μ 0 2000)).bind fun μ2 =>
  (mpR μ2 a0 11 0 (some μ.1)).bind fun μ3 =>
  (mpI μ3 a0 11 1 0).bind fun μ4 =>
  (some (madd μ4 (.inr (0, df_X0)))).bind fun μ5 =>
  (f_X0_init N (some μ4.1) μ5).bind fun q6 =>
  (mpR q6.2 a0 11 2 (some μ4.1)).bind fun μ7 =>
  (some (madd μ7 (.inr (2, df_X2)))).bind fun μ8 =>
  (f_X11_nearest N a1 6 μ8).bind fun q9 =>
  (f_X11_nearest N a2 4 q9.2).bind fun q10 =>
  (f_X11_nearest N a3 64 q10.2).bind fun q11 =>
  (f_X11_nearest N a4 64 q11.2).bind fun q12 =>
  (f_X2_init N U S (some μ7.1) q9.1 q10.1 q11.1 q12.1 q12.2).bind fun q13 =>
  (mpR q13.2 a0 11 3 (some μ7.1)).bind fun μ14 =>
  some ((), μ14)
set_option maxRecDepth 100000 in
set_option maxHeartbeats 4000000 in
theorem p_X11_init {x : CX} {l : Launch} {g : CG} {rv : Unit} {μ0 μ9 : Mem} {U S : Nat} (C : Cx x l g (mi_X11_init U S)) (F : Prom x g (mi_X11_init U S) μ0 none μ9) (hU : U ≤ 6 ∧ S ≤ 4) {N : Nat} {a0 : Option Nat} {a1 : Int32} {a2 : Int32} {a3 : Int32} {a4 : Int32} {μ : Mem} (h : f_X11_init N U S a0 a1 a2 a3 a4 μ = some (rv, μ9)) : V x g 5 0 0 μ 0 [(0, aR a0), (1, aI a1), (2, aI a2), (3, aI a3), (4, aI a4)] [] := by
  unfold f_X11_init at h
  refine v_aload_n C dX11_init_0 rfl ?_
  obtain ⟨b, e0, h⟩ := ob h
  refine v_objInitR C dX11_init_1 oi_X11_1 rfl ⟨Nat.le_of_ble_eq_true rfl, Nat.le_of_ble_eq_true rfl⟩ e0 ?_
  refine v_aload_n C dX11_init_4 rfl ?_
  refine v_sipush (v := 2000) C dX11_init_5 rfl ?_
  obtain ⟨m, e, h⟩ := ob h
  cases e
  refine v_newaI (N := 2000) C dX11_init_8 ar_I ⟨by decide, by decide⟩ (by decide) ⟨by show 0 + 1 ≤ (23 + 8 * U + 2 * S); omega, by show 0 + 2000 ≤ (21411 + 5680 * U + 4102 * S); omega⟩ ?_
  refine v_eqk (k' := 1) (by show 0 + 1 = 1; omega) ?_
  refine v_wid (n' := 2000) (by show 0 + 2000 ≤ 2000; omega) ?_
  obtain ⟨m, e, h⟩ := ob h
  refine v_putR C dX11_init_10 pf_X11_9 rfl e ?_
  refine v_aload_n C dX11_init_13 rfl ?_
  refine v_iconst (v := 0) C dX11_init_14 rfl ?_
  obtain ⟨m, e, h⟩ := ob h
  refine v_putI C dX11_init_15 (pf_X11_13 _) e ?_
  refine v_aload_n C dX11_init_18 rfl ?_
  obtain ⟨m, e, h⟩ := ob h
  cases e
  refine v_new df_X0 C dX11_init_19 nf_X11_17 ⟨by show 1 + 1 ≤ (23 + 8 * U + 2 * S); omega, by show 2000 + 11 ≤ (21411 + 5680 * U + 4102 * S); omega⟩ ?_
  refine v_eqk (k' := 2) (by show 1 + 1 = 2; omega) ?_
  refine v_wid (n' := 2011) (by show 2000 + 11 ≤ 2011; omega) ?_
  refine v_dup C dX11_init_22 rfl ?_
  obtain ⟨q, e, h⟩ := ob h
  refine v_callI (As := []) C dX11_init_23 cf_X11_19 rfl ⟨⟨Nat.le_of_ble_eq_true rfl, Nat.le_of_ble_eq_true rfl⟩, by show 2 + 14 ≤ (23 + 8 * U + 2 * S); omega, by show 2011 + 19376 ≤ (21411 + 5680 * U + 4102 * S); omega⟩ ⟨rfl, rfl⟩ rfl (Nat.le_of_ble_eq_true rfl) (c_X0_init _ _ N _ _ q.1 q.2 e) ?_
  refine v_eqk (k' := 16) (by show 2 + 14 = 16; omega) ?_
  refine v_wid (n' := 21387) (by show 2011 + 19376 ≤ 21387; omega) ?_
  obtain ⟨m, e, h⟩ := ob h
  refine v_putR C dX11_init_26 pf_X11_20 rfl e ?_
  refine v_aload_n C dX11_init_29 rfl ?_
  obtain ⟨m, e, h⟩ := ob h
  cases e
  refine v_new df_X2 C dX11_init_30 nf_X11_24 ⟨by show 16 + 1 ≤ (23 + 8 * U + 2 * S); omega, by show 21387 + 12 ≤ (21411 + 5680 * U + 4102 * S); omega⟩ ?_
  refine v_eqk (k' := 17) (by show 16 + 1 = 17; omega) ?_
  refine v_wid (n' := 21399) (by show 21387 + 12 ≤ 21399; omega) ?_
  refine v_dup C dX11_init_33 rfl ?_
  refine v_iload_n C dX11_init_34 rfl ?_
  refine v_bipush (v := 6) C dX11_init_35 rfl ?_
  obtain ⟨q, e, h⟩ := ob h
  refine v_callS (As := [_, _]) C dX11_init_37 cf_X11_26 ⟨⟨Nat.le_of_ble_eq_true rfl, Nat.le_of_ble_eq_true rfl⟩, by show 17 + 0 ≤ (23 + 8 * U + 2 * S); omega, by show 21399 + 0 ≤ (21411 + 5680 * U + 4102 * S); omega⟩ ⟨rfl, rfl⟩ rfl (Nat.le_of_ble_eq_true rfl) (c_X11_nearest _ _ N _ _ _ q.1 q.2 e) ?_
  refine v_eqk (k' := 17) (by show 17 + 0 = 17; omega) ?_
  refine v_wid (n' := 21399) (by show 21399 + 0 ≤ 21399; omega) ?_
  refine v_iload_n C dX11_init_40 rfl ?_
  refine v_iconst (v := 4) C dX11_init_41 rfl ?_
  obtain ⟨q, e, h⟩ := ob h
  refine v_callS (As := [_, _]) C dX11_init_42 cf_X11_26 ⟨⟨Nat.le_of_ble_eq_true rfl, Nat.le_of_ble_eq_true rfl⟩, by show 17 + 0 ≤ (23 + 8 * U + 2 * S); omega, by show 21399 + 0 ≤ (21411 + 5680 * U + 4102 * S); omega⟩ ⟨rfl, rfl⟩ rfl (Nat.le_of_ble_eq_true rfl) (c_X11_nearest _ _ N _ _ _ q.1 q.2 e) ?_
  refine v_eqk (k' := 17) (by show 17 + 0 = 17; omega) ?_
  refine v_wid (n' := 21399) (by show 21399 + 0 ≤ 21399; omega) ?_
  refine v_iload_n C dX11_init_45 rfl ?_
  refine v_bipush (v := 64) C dX11_init_46 rfl ?_
  obtain ⟨q, e, h⟩ := ob h
  refine v_callS (As := [_, _]) C dX11_init_48 cf_X11_26 ⟨⟨Nat.le_of_ble_eq_true rfl, Nat.le_of_ble_eq_true rfl⟩, by show 17 + 0 ≤ (23 + 8 * U + 2 * S); omega, by show 21399 + 0 ≤ (21411 + 5680 * U + 4102 * S); omega⟩ ⟨rfl, rfl⟩ rfl (Nat.le_of_ble_eq_true rfl) (c_X11_nearest _ _ N _ _ _ q.1 q.2 e) ?_
  refine v_eqk (k' := 17) (by show 17 + 0 = 17; omega) ?_
  refine v_wid (n' := 21399) (by show 21399 + 0 ≤ 21399; omega) ?_
  refine v_iload C dX11_init_51 rfl ?_
  refine v_bipush (v := 64) C dX11_init_53 rfl ?_
  obtain ⟨q, e, h⟩ := ob h
  refine v_callS (As := [_, _]) C dX11_init_55 cf_X11_26 ⟨⟨Nat.le_of_ble_eq_true rfl, Nat.le_of_ble_eq_true rfl⟩, by show 17 + 0 ≤ (23 + 8 * U + 2 * S); omega, by show 21399 + 0 ≤ (21411 + 5680 * U + 4102 * S); omega⟩ ⟨rfl, rfl⟩ rfl (Nat.le_of_ble_eq_true rfl) (c_X11_nearest _ _ N _ _ _ q.1 q.2 e) ?_
  refine v_eqk (k' := 17) (by show 17 + 0 = 17; omega) ?_
  refine v_wid (n' := 21399) (by show 21399 + 0 ≤ 21399; omega) ?_
  obtain ⟨q, e, h⟩ := ob h
  refine v_callI (As := [_, _, _, _]) C dX11_init_58 cf_X11_30 rfl ⟨⟨Nat.le_of_ble_eq_true rfl, Nat.le_of_ble_eq_true rfl⟩, by show 17 + (6 + 8 * U + 2 * S) ≤ (23 + 8 * U + 2 * S); omega, by show 21399 + (12 + 5680 * U + 4102 * S) ≤ (21411 + 5680 * U + 4102 * S); omega⟩ ⟨rfl, rfl⟩ rfl (Nat.le_of_ble_eq_true rfl) (c_X2_init _ _ N U S hU _ _ _ _ _ _ q.1 q.2 e) ?_
  refine v_eqk (k' := (23 + 8 * U + 2 * S)) (by show 17 + (6 + 8 * U + 2 * S) = (23 + 8 * U + 2 * S); omega) ?_
  refine v_wid (n' := (21411 + 5680 * U + 4102 * S)) (by show 21399 + (12 + 5680 * U + 4102 * S) ≤ (21411 + 5680 * U + 4102 * S); omega) ?_
  obtain ⟨m, e, h⟩ := ob h
  refine v_putR C dX11_init_61 pf_X11_33 rfl e ?_
  exact v_vret C F ⟨rfl, rfl, Nat.le_refl _⟩ dX11_init_64 h
set_option maxRecDepth 100000 in
set_option maxHeartbeats 4000000 in
theorem c_X11_init (l : Launch) (g : CG) (N : Nat) (U S : Nat) (hU : U ≤ 6 ∧ S ≤ 4) (a0 : Option Nat) (a1 : Int32) (a2 : Int32) (a3 : Int32) (a4 : Int32) (μ : Mem) (rv : Unit) (μ9 : Mem) (h : f_X11_init N U S a0 a1 a2 a3 a4 μ = some (rv, μ9)) : Ct l yX11_init (mi_X11_init U S) g [aR a0, aI a1, aI a2, aI a3, aI a4] μ none μ9 := ct_of ⟨by decide, rfl, rfl⟩ (Nat.le_of_ble_eq_true rfl) fun x C F => p_X11_init C F hU h
def H_X12_init_475 (N : Nat) (U S : Nat) (k475 : (Option Nat) → Int32 → Mem → Option (Unit × Mem)) (a0 : Option Nat) (a6 : Int32) (μ : Mem) : Option (Unit × Mem) :=
  if (4096 : Int32) ≤ a6 then
    some ((), μ)
  else
    (mfR μ a0 12 25).bind fun v1 =>
    (mbI μ 0 v1 a6 ((-1))).bind fun μ2 =>
    k475 a0 (a6 + 1) μ2
def L_X12_init_475 (N : Nat) (U S : Nat) : Nat → (Option Nat) → Int32 → Mem → Option (Unit × Mem)
  | 0 => fun _ _ _ => none
  | n + 1 => H_X12_init_475 N U S (L_X12_init_475 N U S n)
def H_X12_init_451 (N : Nat) (U S : Nat) (k451 : (Option Nat) → Int32 → Int32 → Mem → Option (Unit × Mem)) (a0 : Option Nat) (a5 : Int32) (a6 : Int32) (μ : Mem) : Option (Unit × Mem) :=
  if a5 ≤ a6 then
    L_X12_init_475 N U S N a0 0 μ
  else
    (mfR μ a0 12 41).bind fun v1 =>
    (mbI μ 0 v1 a6 ((-1))).bind fun μ2 =>
    k451 a0 a5 (a6 + 1) μ2
def L_X12_init_451 (N : Nat) (U S : Nat) : Nat → (Option Nat) → Int32 → Int32 → Mem → Option (Unit × Mem)
  | 0 => fun _ _ _ _ => none
  | n + 1 => H_X12_init_451 N U S (L_X12_init_451 N U S n)
def H_X12_init_244 (N : Nat) (U S : Nat) (k244 : (Option Nat) → Int32 → Int32 → Mem → Option (Unit × Mem)) (a0 : Option Nat) (a5 : Int32) (a6 : Int32) (μ : Mem) : Option (Unit × Mem) :=
  (mfI μ a0 12 32).bind fun v1 =>
  if v1 ≤ a6 then
    if ¬ (¬ a5 < 0 ∧ a5.toNatClampNeg = U) then none else
    (some (mnaI μ 0 U)).bind fun μ2 =>
    (mpR μ2 a0 12 41 (some μ.1)).bind fun μ3 =>
    if ¬ (¬ a5 < 0 ∧ a5.toNatClampNeg = U) then none else
    (some (mnaI μ3 0 U)).bind fun μ4 =>
    (mpR μ4 a0 12 42 (some μ3.1)).bind fun μ5 =>
    if ¬ (¬ a5 < 0 ∧ a5.toNatClampNeg = U) then none else
    (some (mnaI μ5 0 U)).bind fun μ6 =>
    (mpR μ6 a0 12 43 (some μ5.1)).bind fun μ7 =>
    if ¬ (¬ a5 < 0 ∧ a5.toNatClampNeg = U) then none else
    (some (mnaI μ7 0 U)).bind fun μ8 =>
    (mpR μ8 a0 12 44 (some μ7.1)).bind fun μ9 =>
    if ¬ (¬ a5 < 0 ∧ a5.toNatClampNeg = U) then none else
    (some (mnaI μ9 0 U)).bind fun μ10 =>
    (mpR μ10 a0 12 45 (some μ9.1)).bind fun μ11 =>
    if ¬ (¬ a5 < 0 ∧ a5.toNatClampNeg = U) then none else
    (some (mnaI μ11 0 U)).bind fun μ12 =>
    (mpR μ12 a0 12 46 (some μ11.1)).bind fun μ13 =>
    if ¬ (¬ a5 < 0 ∧ a5.toNatClampNeg = U) then none else
    (some (mnaI μ13 0 U)).bind fun μ14 =>
    (mpR μ14 a0 12 47 (some μ13.1)).bind fun μ15 =>
    if ¬ (¬ a5 < 0 ∧ a5.toNatClampNeg = U) then none else
    (some (mnaI μ15 0 U)).bind fun μ16 =>
    (mpR μ16 a0 12 48 (some μ15.1)).bind fun μ17 =>
    if ¬ (¬ a5 < 0 ∧ a5.toNatClampNeg = U) then none else
    (some (mmna μ17 U 16)).bind fun μ18 =>
    (mpR μ18 a0 12 49 (some μ17.1)).bind fun μ19 =>
    if ¬ (¬ a5 < 0 ∧ a5.toNatClampNeg = U) then none else
    (some (mnaI μ19 0 U)).bind fun μ20 =>
    (mpR μ20 a0 12 50 (some μ19.1)).bind fun μ21 =>
    if ¬ (¬ a5 < 0 ∧ a5.toNatClampNeg = U) then none else
    (some (mnaI μ21 0 U)).bind fun μ22 =>
    (mpR μ22 a0 12 51 (some μ21.1)).bind fun μ23 =>
    if ¬ (¬ a5 < 0 ∧ a5.toNatClampNeg = U) then none else
    (some (mmna μ23 U 16)).bind fun μ24 =>
    (mpR μ24 a0 12 52 (some μ23.1)).bind fun μ25 =>
    if ¬ (¬ a5 < 0 ∧ a5.toNatClampNeg = U) then none else
    (some (mnaI μ25 0 U)).bind fun μ26 =>
    (mpR μ26 a0 12 53 (some μ25.1)).bind fun μ27 =>
    if ¬ (¬ a5 < 0 ∧ a5.toNatClampNeg = U) then none else
    (some (mmna μ27 U 500)).bind fun μ28 =>
    (mpR μ28 a0 12 54 (some μ27.1)).bind fun μ29 =>
    if ¬ (¬ a5 < 0 ∧ a5.toNatClampNeg = U) then none else
    (some (mnaI μ29 0 U)).bind fun μ30 =>
    (mpR μ30 a0 12 55 (some μ29.1)).bind fun μ31 =>
    if ¬ (¬ a5 < 0 ∧ a5.toNatClampNeg = U) then none else
    (some (mnaI μ31 0 U)).bind fun μ32 =>
    (mpR μ32 a0 12 56 (some μ31.1)).bind fun μ33 =>
    if ¬ (¬ a5 < 0 ∧ a5.toNatClampNeg = U) then none else
    (some (mnaI μ33 0 U)).bind fun μ34 =>
    (mpR μ34 a0 12 57 (some μ33.1)).bind fun μ35 =>
    if ¬ (¬ a5 < 0 ∧ a5.toNatClampNeg = U) then none else
    (some (mnaI μ35 0 U)).bind fun μ36 =>
    (mpR μ36 a0 12 58 (some μ35.1)).bind fun μ37 =>
    if ¬ (¬ a5 < 0 ∧ a5.toNatClampNeg = U) then none else
    (some (mnaI μ37 0 U)).bind fun μ38 =>
    (mpR μ38 a0 12 59 (some μ37.1)).bind fun μ39 =>
    if ¬ (¬ a5 < 0 ∧ a5.toNatClampNeg = U) then none else
    (some (mnaI μ39 0 U)).bind fun μ40 =>
    (mpR μ40 a0 12 60 (some μ39.1)).bind fun μ41 =>
    if ¬ (¬ a5 < 0 ∧ a5.toNatClampNeg = U) then none else
    (some (mnaI μ41 2 U)).bind fun μ42 =>
    (mpR μ42 a0 12 61 (some μ41.1)).bind fun μ43 =>
    L_X12_init_451 N U S N a0 a5 0 μ43
  else
    (mfR μ a0 12 38).bind fun v44 =>
    (mbI μ 0 v44 a6 ((-1))).bind fun μ45 =>
    k244 a0 a5 (a6 + 1) μ45
def L_X12_init_244 (N : Nat) (U S : Nat) : Nat → (Option Nat) → Int32 → Int32 → Mem → Option (Unit × Mem)
  | 0 => fun _ _ _ _ => none
  | n + 1 => H_X12_init_244 N U S (L_X12_init_244 N U S n)
def f_X12_init (N : Nat) (U S : Nat) (a0 : Option Nat) (a1 : Int32) (a2 : Int32) (a3 : Int32) (a4 : Int32) (μ : Mem) : Option (Unit × Mem) :=
  (mck μ a0 12).bind fun b1 =>
  (some (mnaI μ 0 2000)).bind fun μ2 =>
  (mpR μ2 a0 12 0 (some μ.1)).bind fun μ3 =>
  (some (mnaI μ3 0 2000)).bind fun μ4 =>
  (mpR μ4 a0 12 2 (some μ3.1)).bind fun μ5 =>
  (mpI μ5 a0 12 8 ((-1))).bind fun μ6 =>
  (some (mnaI μ6 0 1400)).bind fun μ7 =>
  (mpR μ7 a0 12 17 (some μ6.1)).bind fun μ8 =>
  (some (mnaI μ8 0 200)).bind fun μ9 =>
  (mpR μ9 a0 12 18 (some μ8.1)).bind fun μ10 =>
  (some (mnaI μ10 0 200)).bind fun μ11 =>
  (mpR μ11 a0 12 19 (some μ10.1)).bind fun μ12 =>
  (some (mnaI μ12 2 200)).bind fun μ13 =>
  (mpR μ13 a0 12 20 (some μ12.1)).bind fun μ14 =>
  (some (mnaI μ14 0 4096)).bind fun μ15 =>
  (mpR μ15 a0 12 22 (some μ14.1)).bind fun μ16 =>
  (some (mnaI μ16 2 4096)).bind fun μ17 =>
  (mpR μ17 a0 12 23 (some μ16.1)).bind fun μ18 =>
  (some (mnaI μ18 2 4096)).bind fun μ19 =>
  (mpR μ19 a0 12 24 (some μ18.1)).bind fun μ20 =>
  (some (mnaI μ20 0 4096)).bind fun μ21 =>
  (mpR μ21 a0 12 25 (some μ20.1)).bind fun μ22 =>
  (some (mnaI μ22 0 32)).bind fun μ23 =>
  (mpR μ23 a0 12 26 (some μ22.1)).bind fun μ24 =>
  (some (mnaI μ24 0 8)).bind fun μ25 =>
  (mpR μ25 a0 12 62 (some μ24.1)).bind fun μ26 =>
  (mpI μ26 a0 12 64 ((-1))).bind fun μ27 =>
  (f_X12_near N a1 1 6 μ27).bind fun q28 =>
  (mpI q28.2 a0 12 31 q28.1).bind fun μ29 =>
  (f_X12_near N a2 1 4 μ29).bind fun q30 =>
  (mpI q30.2 a0 12 32 q30.1).bind fun μ31 =>
  (f_X12_near N a3 1 64 μ31).bind fun q32 =>
  (mpI q32.2 a0 12 33 q32.1).bind fun μ33 =>
  (f_X12_near N a4 1 64 μ33).bind fun q34 =>
  (mpI q34.2 a0 12 34 q34.1).bind fun μ35 =>
  (mfI μ35 a0 12 31).bind fun v36 =>
  (mfI μ35 a0 12 32).bind fun v37 =>
  if ¬ (¬ v37 < 0 ∧ v37.toNatClampNeg = S) then none else
  (some (mmna μ35 S 4096)).bind fun μ38 =>
  (mpR μ38 a0 12 35 (some μ35.1)).bind fun μ39 =>
  if ¬ (¬ v36 < 0 ∧ v36.toNatClampNeg = U) then none else
  (some (mmna μ39 U 4096)).bind fun μ40 =>
  (mpR μ40 a0 12 36 (some μ39.1)).bind fun μ41 =>
  if ¬ (¬ v36 < 0 ∧ v36.toNatClampNeg = U) then none else
  (some (mmna μ41 U 1024)).bind fun μ42 =>
  (mpR μ42 a0 12 37 (some μ41.1)).bind fun μ43 =>
  (mfI μ43 a0 12 32).bind fun v44 =>
  if ¬ (¬ v44 < 0 ∧ v44.toNatClampNeg = S) then none else
  (some (mnaI μ43 0 S)).bind fun μ45 =>
  (mpR μ45 a0 12 38 (some μ43.1)).bind fun μ46 =>
  (mfI μ46 a0 12 32).bind fun v47 =>
  if ¬ (¬ v47 < 0 ∧ v47.toNatClampNeg = S) then none else
  (some (mnaI μ46 2 S)).bind fun μ48 =>
  (mpR μ48 a0 12 39 (some μ46.1)).bind fun μ49 =>
  (mfI μ49 a0 12 32).bind fun v50 =>
  if ¬ (¬ v50 < 0 ∧ v50.toNatClampNeg = S) then none else
  (some (mnaI μ49 2 S)).bind fun μ51 =>
  (mpR μ51 a0 12 40 (some μ49.1)).bind fun μ52 =>
  L_X12_init_244 N U S N a0 v36 0 μ52
set_option maxRecDepth 100000 in
set_option maxHeartbeats 4000000 in
theorem pH_X12_init_475 {x : CX} {l : Launch} {g : CG} {rv : Unit} {μ0 μ9 : Mem} {U S : Nat} (C : Cx x l g (mi_X12_init U S)) (F : Prom x g (mi_X12_init U S) μ0 none μ9) (hU : U ≤ 6 ∧ S ≤ 4) {N : Nat} {k475 : (Option Nat) → Int32 → Mem → Option (Unit × Mem)} (hk475 : ∀ (a0 : Option Nat) (a6 : Int32) (μ : Mem), k475 a0 a6 μ = some (rv, μ9) → V x g 7 (39 + 5 * U + 1 * S) (22424 + 5675 * U + 4100 * S) μ 475 [(0, aR a0), (6, aI a6)] []) {a0 : Option Nat} {a6 : Int32} {μ : Mem} (h : H_X12_init_475 N U S k475 a0 a6 μ = some (rv, μ9)) : V x g 7 (39 + 5 * U + 1 * S) (22424 + 5675 * U + 4100 * S) μ 475 [(0, aR a0), (6, aI a6)] [] := by
  unfold H_X12_init_475 at h
  refine v_iload C dX12_init_475 rfl ?_
  refine v_sipush (v := 4096) C dX12_init_477 rfl ?_
  refine v_icmp_ge (tgt := 497) C dX12_init_480 (by decide) (fun c => ?_) (fun c => ?_)
  · replace h := ifT h c
    exact v_vret C F ⟨rfl, rfl, Nat.le_refl _⟩ dX12_init_497 h
  · replace h := ifF h c
    refine v_aload_n C dX12_init_483 rfl ?_
    obtain ⟨v, e, h⟩ := ob h
    refine v_getR C dX12_init_484 gf_X12_226 e ?_
    refine v_iload C dX12_init_487 rfl ?_
    refine v_iconst (v := -1) C dX12_init_489 rfl ?_
    obtain ⟨m, e, h⟩ := ob h
    refine v_iastore C dX12_init_490 e ?_
    refine v_iinc (w := 1) C dX12_init_491 rfl rfl (by decide) ?_
    refine v_goto (tgt := 475) C dX12_init_494 (by decide) ?_
    refine v_eqk (k' := (39 + 5 * U + 1 * S)) (by omega) ?_
    refine v_wid (n' := (22424 + 5675 * U + 4100 * S)) (by omega) ?_
    exact v_sb (hk475 _ _ _ h) ⟨rfl, rfl, trivial⟩
set_option maxRecDepth 100000 in
set_option maxHeartbeats 4000000 in
theorem pL_X12_init_475 {x : CX} {l : Launch} {g : CG} {rv : Unit} {μ0 μ9 : Mem} {U S : Nat} (C : Cx x l g (mi_X12_init U S)) (F : Prom x g (mi_X12_init U S) μ0 none μ9) (hU : U ≤ 6 ∧ S ≤ 4) (N : Nat) (n : Nat) : ∀ (a0 : Option Nat) (a6 : Int32) (μ : Mem), L_X12_init_475 N U S n a0 a6 μ = some (rv, μ9) → V x g 7 (39 + 5 * U + 1 * S) (22424 + 5675 * U + 4100 * S) μ 475 [(0, aR a0), (6, aI a6)] [] := by
  induction n with
  | zero => intro a0 a6 μ h; cases h
  | succ n ih => intro a0 a6 μ h; exact pH_X12_init_475 C F hU ih h
set_option maxRecDepth 100000 in
set_option maxHeartbeats 4000000 in
theorem pH_X12_init_451 {x : CX} {l : Launch} {g : CG} {rv : Unit} {μ0 μ9 : Mem} {U S : Nat} (C : Cx x l g (mi_X12_init U S)) (F : Prom x g (mi_X12_init U S) μ0 none μ9) (hU : U ≤ 6 ∧ S ≤ 4) {N : Nat} {k451 : (Option Nat) → Int32 → Int32 → Mem → Option (Unit × Mem)} (hk451 : ∀ (a0 : Option Nat) (a5 : Int32) (a6 : Int32) (μ : Mem), k451 a0 a5 a6 μ = some (rv, μ9) → V x g 7 (39 + 5 * U + 1 * S) (22424 + 5675 * U + 4100 * S) μ 451 [(0, aR a0), (5, aI a5), (6, aI a6)] []) {a0 : Option Nat} {a5 : Int32} {a6 : Int32} {μ : Mem} (h : H_X12_init_451 N U S k451 a0 a5 a6 μ = some (rv, μ9)) : V x g 7 (39 + 5 * U + 1 * S) (22424 + 5675 * U + 4100 * S) μ 451 [(0, aR a0), (5, aI a5), (6, aI a6)] [] := by
  unfold H_X12_init_451 at h
  refine v_iload C dX12_init_451 rfl ?_
  refine v_iload C dX12_init_453 rfl ?_
  refine v_icmp_ge (tgt := 472) C dX12_init_455 (by decide) (fun c => ?_) (fun c => ?_)
  · replace h := ifT h c
    refine v_iconst (v := 0) C dX12_init_472 rfl ?_
    refine v_istore C dX12_init_473 (by decide) ?_
    refine v_eqk (k' := (39 + 5 * U + 1 * S)) (by omega) ?_
    refine v_wid (n' := (22424 + 5675 * U + 4100 * S)) (by omega) ?_
    exact v_sb (pL_X12_init_475 C F hU N N _ _ _ h) ⟨rfl, rfl, trivial⟩
  · replace h := ifF h c
    refine v_aload_n C dX12_init_458 rfl ?_
    obtain ⟨v, e, h⟩ := ob h
    refine v_getR C dX12_init_459 gf_X12_275 e ?_
    refine v_iload C dX12_init_462 rfl ?_
    refine v_iconst (v := -1) C dX12_init_464 rfl ?_
    obtain ⟨m, e, h⟩ := ob h
    refine v_iastore C dX12_init_465 e ?_
    refine v_iinc (w := 1) C dX12_init_466 rfl rfl (by decide) ?_
    refine v_goto (tgt := 451) C dX12_init_469 (by decide) ?_
    refine v_eqk (k' := (39 + 5 * U + 1 * S)) (by omega) ?_
    refine v_wid (n' := (22424 + 5675 * U + 4100 * S)) (by omega) ?_
    exact v_sb (hk451 _ _ _ _ h) ⟨rfl, rfl, rfl, trivial⟩
set_option maxRecDepth 100000 in
set_option maxHeartbeats 4000000 in
theorem pL_X12_init_451 {x : CX} {l : Launch} {g : CG} {rv : Unit} {μ0 μ9 : Mem} {U S : Nat} (C : Cx x l g (mi_X12_init U S)) (F : Prom x g (mi_X12_init U S) μ0 none μ9) (hU : U ≤ 6 ∧ S ≤ 4) (N : Nat) (n : Nat) : ∀ (a0 : Option Nat) (a5 : Int32) (a6 : Int32) (μ : Mem), L_X12_init_451 N U S n a0 a5 a6 μ = some (rv, μ9) → V x g 7 (39 + 5 * U + 1 * S) (22424 + 5675 * U + 4100 * S) μ 451 [(0, aR a0), (5, aI a5), (6, aI a6)] [] := by
  induction n with
  | zero => intro a0 a5 a6 μ h; cases h
  | succ n ih => intro a0 a5 a6 μ h; exact pH_X12_init_451 C F hU ih h
set_option maxRecDepth 100000 in
set_option maxHeartbeats 4000000 in
theorem pH_X12_init_244 {x : CX} {l : Launch} {g : CG} {rv : Unit} {μ0 μ9 : Mem} {U S : Nat} (C : Cx x l g (mi_X12_init U S)) (F : Prom x g (mi_X12_init U S) μ0 none μ9) (hU : U ≤ 6 ∧ S ≤ 4) {N : Nat} {k244 : (Option Nat) → Int32 → Int32 → Mem → Option (Unit × Mem)} (hk244 : ∀ (a0 : Option Nat) (a5 : Int32) (a6 : Int32) (μ : Mem), k244 a0 a5 a6 μ = some (rv, μ9) → V x g 7 (18 + 2 * U + 1 * S) (22424 + 5122 * U + 4100 * S) μ 244 [(0, aR a0), (5, aI a5), (6, aI a6)] []) {a0 : Option Nat} {a5 : Int32} {a6 : Int32} {μ : Mem} (h : H_X12_init_244 N U S k244 a0 a5 a6 μ = some (rv, μ9)) : V x g 7 (18 + 2 * U + 1 * S) (22424 + 5122 * U + 4100 * S) μ 244 [(0, aR a0), (5, aI a5), (6, aI a6)] [] := by
  unfold H_X12_init_244 at h
  refine v_iload C dX12_init_244 rfl ?_
  refine v_aload_n C dX12_init_246 rfl ?_
  obtain ⟨v, e, h⟩ := ob h
  refine v_getI C dX12_init_247 gf_X12_246 e ?_
  refine v_icmp_ge (tgt := 267) C dX12_init_250 (by decide) (fun c => ?_) (fun c => ?_)
  · replace h := ifT h c
    refine v_aload_n C dX12_init_267 rfl ?_
    refine v_iload C dX12_init_268 rfl ?_
    obtain ⟨c0, h⟩ := oz h
    replace c0 := Classical.not_not.mp c0
    obtain ⟨m, e, h⟩ := ob h
    cases e
    refine v_newaI (N := U) C dX12_init_270 ar_I c0 (by omega) ⟨by show (18 + 2 * U + 1 * S) + 1 ≤ (39 + 5 * U + 1 * S); omega, by show (22424 + 5122 * U + 4100 * S) + U ≤ (22424 + 5675 * U + 4100 * S); omega⟩ ?_
    refine v_eqk (k' := (19 + 2 * U + 1 * S)) (by show (18 + 2 * U + 1 * S) + 1 = (19 + 2 * U + 1 * S); omega) ?_
    refine v_wid (n' := (22424 + 5123 * U + 4100 * S)) (by show (22424 + 5122 * U + 4100 * S) + U ≤ (22424 + 5123 * U + 4100 * S); omega) ?_
    obtain ⟨m, e, h⟩ := ob h
    refine v_putR C dX12_init_272 pf_X12_275 rfl e ?_
    refine v_aload_n C dX12_init_275 rfl ?_
    refine v_iload C dX12_init_276 rfl ?_
    obtain ⟨c0, h⟩ := oz h
    replace c0 := Classical.not_not.mp c0
    obtain ⟨m, e, h⟩ := ob h
    cases e
    refine v_newaI (N := U) C dX12_init_278 ar_I c0 (by omega) ⟨by show (19 + 2 * U + 1 * S) + 1 ≤ (39 + 5 * U + 1 * S); omega, by show (22424 + 5123 * U + 4100 * S) + U ≤ (22424 + 5675 * U + 4100 * S); omega⟩ ?_
    refine v_eqk (k' := (20 + 2 * U + 1 * S)) (by show (19 + 2 * U + 1 * S) + 1 = (20 + 2 * U + 1 * S); omega) ?_
    refine v_wid (n' := (22424 + 5124 * U + 4100 * S)) (by show (22424 + 5123 * U + 4100 * S) + U ≤ (22424 + 5124 * U + 4100 * S); omega) ?_
    obtain ⟨m, e, h⟩ := ob h
    refine v_putR C dX12_init_280 pf_X12_278 rfl e ?_
    refine v_aload_n C dX12_init_283 rfl ?_
    refine v_iload C dX12_init_284 rfl ?_
    obtain ⟨c0, h⟩ := oz h
    replace c0 := Classical.not_not.mp c0
    obtain ⟨m, e, h⟩ := ob h
    cases e
    refine v_newaI (N := U) C dX12_init_286 ar_I c0 (by omega) ⟨by show (20 + 2 * U + 1 * S) + 1 ≤ (39 + 5 * U + 1 * S); omega, by show (22424 + 5124 * U + 4100 * S) + U ≤ (22424 + 5675 * U + 4100 * S); omega⟩ ?_
    refine v_eqk (k' := (21 + 2 * U + 1 * S)) (by show (20 + 2 * U + 1 * S) + 1 = (21 + 2 * U + 1 * S); omega) ?_
    refine v_wid (n' := (22424 + 5125 * U + 4100 * S)) (by show (22424 + 5124 * U + 4100 * S) + U ≤ (22424 + 5125 * U + 4100 * S); omega) ?_
    obtain ⟨m, e, h⟩ := ob h
    refine v_putR C dX12_init_288 pf_X12_281 rfl e ?_
    refine v_aload_n C dX12_init_291 rfl ?_
    refine v_iload C dX12_init_292 rfl ?_
    obtain ⟨c0, h⟩ := oz h
    replace c0 := Classical.not_not.mp c0
    obtain ⟨m, e, h⟩ := ob h
    cases e
    refine v_newaI (N := U) C dX12_init_294 ar_I c0 (by omega) ⟨by show (21 + 2 * U + 1 * S) + 1 ≤ (39 + 5 * U + 1 * S); omega, by show (22424 + 5125 * U + 4100 * S) + U ≤ (22424 + 5675 * U + 4100 * S); omega⟩ ?_
    refine v_eqk (k' := (22 + 2 * U + 1 * S)) (by show (21 + 2 * U + 1 * S) + 1 = (22 + 2 * U + 1 * S); omega) ?_
    refine v_wid (n' := (22424 + 5126 * U + 4100 * S)) (by show (22424 + 5125 * U + 4100 * S) + U ≤ (22424 + 5126 * U + 4100 * S); omega) ?_
    obtain ⟨m, e, h⟩ := ob h
    refine v_putR C dX12_init_296 pf_X12_284 rfl e ?_
    refine v_aload_n C dX12_init_299 rfl ?_
    refine v_iload C dX12_init_300 rfl ?_
    obtain ⟨c0, h⟩ := oz h
    replace c0 := Classical.not_not.mp c0
    obtain ⟨m, e, h⟩ := ob h
    cases e
    refine v_newaI (N := U) C dX12_init_302 ar_I c0 (by omega) ⟨by show (22 + 2 * U + 1 * S) + 1 ≤ (39 + 5 * U + 1 * S); omega, by show (22424 + 5126 * U + 4100 * S) + U ≤ (22424 + 5675 * U + 4100 * S); omega⟩ ?_
    refine v_eqk (k' := (23 + 2 * U + 1 * S)) (by show (22 + 2 * U + 1 * S) + 1 = (23 + 2 * U + 1 * S); omega) ?_
    refine v_wid (n' := (22424 + 5127 * U + 4100 * S)) (by show (22424 + 5126 * U + 4100 * S) + U ≤ (22424 + 5127 * U + 4100 * S); omega) ?_
    obtain ⟨m, e, h⟩ := ob h
    refine v_putR C dX12_init_304 pf_X12_287 rfl e ?_
    refine v_aload_n C dX12_init_307 rfl ?_
    refine v_iload C dX12_init_308 rfl ?_
    obtain ⟨c0, h⟩ := oz h
    replace c0 := Classical.not_not.mp c0
    obtain ⟨m, e, h⟩ := ob h
    cases e
    refine v_newaI (N := U) C dX12_init_310 ar_I c0 (by omega) ⟨by show (23 + 2 * U + 1 * S) + 1 ≤ (39 + 5 * U + 1 * S); omega, by show (22424 + 5127 * U + 4100 * S) + U ≤ (22424 + 5675 * U + 4100 * S); omega⟩ ?_
    refine v_eqk (k' := (24 + 2 * U + 1 * S)) (by show (23 + 2 * U + 1 * S) + 1 = (24 + 2 * U + 1 * S); omega) ?_
    refine v_wid (n' := (22424 + 5128 * U + 4100 * S)) (by show (22424 + 5127 * U + 4100 * S) + U ≤ (22424 + 5128 * U + 4100 * S); omega) ?_
    obtain ⟨m, e, h⟩ := ob h
    refine v_putR C dX12_init_312 pf_X12_290 rfl e ?_
    refine v_aload_n C dX12_init_315 rfl ?_
    refine v_iload C dX12_init_316 rfl ?_
    obtain ⟨c0, h⟩ := oz h
    replace c0 := Classical.not_not.mp c0
    obtain ⟨m, e, h⟩ := ob h
    cases e
    refine v_newaI (N := U) C dX12_init_318 ar_I c0 (by omega) ⟨by show (24 + 2 * U + 1 * S) + 1 ≤ (39 + 5 * U + 1 * S); omega, by show (22424 + 5128 * U + 4100 * S) + U ≤ (22424 + 5675 * U + 4100 * S); omega⟩ ?_
    refine v_eqk (k' := (25 + 2 * U + 1 * S)) (by show (24 + 2 * U + 1 * S) + 1 = (25 + 2 * U + 1 * S); omega) ?_
    refine v_wid (n' := (22424 + 5129 * U + 4100 * S)) (by show (22424 + 5128 * U + 4100 * S) + U ≤ (22424 + 5129 * U + 4100 * S); omega) ?_
    obtain ⟨m, e, h⟩ := ob h
    refine v_putR C dX12_init_320 pf_X12_293 rfl e ?_
    refine v_aload_n C dX12_init_323 rfl ?_
    refine v_iload C dX12_init_324 rfl ?_
    obtain ⟨c0, h⟩ := oz h
    replace c0 := Classical.not_not.mp c0
    obtain ⟨m, e, h⟩ := ob h
    cases e
    refine v_newaI (N := U) C dX12_init_326 ar_I c0 (by omega) ⟨by show (25 + 2 * U + 1 * S) + 1 ≤ (39 + 5 * U + 1 * S); omega, by show (22424 + 5129 * U + 4100 * S) + U ≤ (22424 + 5675 * U + 4100 * S); omega⟩ ?_
    refine v_eqk (k' := (26 + 2 * U + 1 * S)) (by show (25 + 2 * U + 1 * S) + 1 = (26 + 2 * U + 1 * S); omega) ?_
    refine v_wid (n' := (22424 + 5130 * U + 4100 * S)) (by show (22424 + 5129 * U + 4100 * S) + U ≤ (22424 + 5130 * U + 4100 * S); omega) ?_
    obtain ⟨m, e, h⟩ := ob h
    refine v_putR C dX12_init_328 pf_X12_296 rfl e ?_
    refine v_aload_n C dX12_init_331 rfl ?_
    refine v_iload C dX12_init_332 rfl ?_
    refine v_bipush (v := 16) C dX12_init_334 rfl ?_
    obtain ⟨c0, h⟩ := oz h
    replace c0 := Classical.not_not.mp c0
    obtain ⟨m, e, h⟩ := ob h
    cases e
    refine v_mna (N := U) (K := 16) C dX12_init_336 ⟨mx2_X12, ao_II, ar_I⟩ c0 ⟨by decide, by decide⟩ ⟨by omega, by decide⟩ ⟨by show (26 + 2 * U + 1 * S) + (1 + U) ≤ (39 + 5 * U + 1 * S); omega, by show (22424 + 5130 * U + 4100 * S) + (U + U * 16) ≤ (22424 + 5675 * U + 4100 * S); omega⟩ ?_
    refine v_eqk (k' := (27 + 3 * U + 1 * S)) (by omega) ?_
    refine v_wid (n' := (22424 + 5147 * U + 4100 * S)) (by omega) ?_
    obtain ⟨m, e, h⟩ := ob h
    refine v_putR C dX12_init_340 pf_X12_299 rfl e ?_
    refine v_aload_n C dX12_init_343 rfl ?_
    refine v_iload C dX12_init_344 rfl ?_
    obtain ⟨c0, h⟩ := oz h
    replace c0 := Classical.not_not.mp c0
    obtain ⟨m, e, h⟩ := ob h
    cases e
    refine v_newaI (N := U) C dX12_init_346 ar_I c0 (by omega) ⟨by show (27 + 3 * U + 1 * S) + 1 ≤ (39 + 5 * U + 1 * S); omega, by show (22424 + 5147 * U + 4100 * S) + U ≤ (22424 + 5675 * U + 4100 * S); omega⟩ ?_
    refine v_eqk (k' := (28 + 3 * U + 1 * S)) (by show (27 + 3 * U + 1 * S) + 1 = (28 + 3 * U + 1 * S); omega) ?_
    refine v_wid (n' := (22424 + 5148 * U + 4100 * S)) (by show (22424 + 5147 * U + 4100 * S) + U ≤ (22424 + 5148 * U + 4100 * S); omega) ?_
    obtain ⟨m, e, h⟩ := ob h
    refine v_putR C dX12_init_348 pf_X12_302 rfl e ?_
    refine v_aload_n C dX12_init_351 rfl ?_
    refine v_iload C dX12_init_352 rfl ?_
    obtain ⟨c0, h⟩ := oz h
    replace c0 := Classical.not_not.mp c0
    obtain ⟨m, e, h⟩ := ob h
    cases e
    refine v_newaI (N := U) C dX12_init_354 ar_I c0 (by omega) ⟨by show (28 + 3 * U + 1 * S) + 1 ≤ (39 + 5 * U + 1 * S); omega, by show (22424 + 5148 * U + 4100 * S) + U ≤ (22424 + 5675 * U + 4100 * S); omega⟩ ?_
    refine v_eqk (k' := (29 + 3 * U + 1 * S)) (by show (28 + 3 * U + 1 * S) + 1 = (29 + 3 * U + 1 * S); omega) ?_
    refine v_wid (n' := (22424 + 5149 * U + 4100 * S)) (by show (22424 + 5148 * U + 4100 * S) + U ≤ (22424 + 5149 * U + 4100 * S); omega) ?_
    obtain ⟨m, e, h⟩ := ob h
    refine v_putR C dX12_init_356 pf_X12_305 rfl e ?_
    refine v_aload_n C dX12_init_359 rfl ?_
    refine v_iload C dX12_init_360 rfl ?_
    refine v_bipush (v := 16) C dX12_init_362 rfl ?_
    obtain ⟨c0, h⟩ := oz h
    replace c0 := Classical.not_not.mp c0
    obtain ⟨m, e, h⟩ := ob h
    cases e
    refine v_mna (N := U) (K := 16) C dX12_init_364 ⟨mx2_X12, ao_II, ar_I⟩ c0 ⟨by decide, by decide⟩ ⟨by omega, by decide⟩ ⟨by show (29 + 3 * U + 1 * S) + (1 + U) ≤ (39 + 5 * U + 1 * S); omega, by show (22424 + 5149 * U + 4100 * S) + (U + U * 16) ≤ (22424 + 5675 * U + 4100 * S); omega⟩ ?_
    refine v_eqk (k' := (30 + 4 * U + 1 * S)) (by omega) ?_
    refine v_wid (n' := (22424 + 5166 * U + 4100 * S)) (by omega) ?_
    obtain ⟨m, e, h⟩ := ob h
    refine v_putR C dX12_init_368 pf_X12_308 rfl e ?_
    refine v_aload_n C dX12_init_371 rfl ?_
    refine v_iload C dX12_init_372 rfl ?_
    obtain ⟨c0, h⟩ := oz h
    replace c0 := Classical.not_not.mp c0
    obtain ⟨m, e, h⟩ := ob h
    cases e
    refine v_newaI (N := U) C dX12_init_374 ar_I c0 (by omega) ⟨by show (30 + 4 * U + 1 * S) + 1 ≤ (39 + 5 * U + 1 * S); omega, by show (22424 + 5166 * U + 4100 * S) + U ≤ (22424 + 5675 * U + 4100 * S); omega⟩ ?_
    refine v_eqk (k' := (31 + 4 * U + 1 * S)) (by show (30 + 4 * U + 1 * S) + 1 = (31 + 4 * U + 1 * S); omega) ?_
    refine v_wid (n' := (22424 + 5167 * U + 4100 * S)) (by show (22424 + 5166 * U + 4100 * S) + U ≤ (22424 + 5167 * U + 4100 * S); omega) ?_
    obtain ⟨m, e, h⟩ := ob h
    refine v_putR C dX12_init_376 pf_X12_311 rfl e ?_
    refine v_aload_n C dX12_init_379 rfl ?_
    refine v_iload C dX12_init_380 rfl ?_
    refine v_sipush (v := 500) C dX12_init_382 rfl ?_
    obtain ⟨c0, h⟩ := oz h
    replace c0 := Classical.not_not.mp c0
    obtain ⟨m, e, h⟩ := ob h
    cases e
    refine v_mna (N := U) (K := 500) C dX12_init_385 ⟨mx2_X12, ao_II, ar_I⟩ c0 ⟨by decide, by decide⟩ ⟨by omega, by decide⟩ ⟨by show (31 + 4 * U + 1 * S) + (1 + U) ≤ (39 + 5 * U + 1 * S); omega, by show (22424 + 5167 * U + 4100 * S) + (U + U * 500) ≤ (22424 + 5675 * U + 4100 * S); omega⟩ ?_
    refine v_eqk (k' := (32 + 5 * U + 1 * S)) (by omega) ?_
    refine v_wid (n' := (22424 + 5668 * U + 4100 * S)) (by omega) ?_
    obtain ⟨m, e, h⟩ := ob h
    refine v_putR C dX12_init_389 pf_X12_314 rfl e ?_
    refine v_aload_n C dX12_init_392 rfl ?_
    refine v_iload C dX12_init_393 rfl ?_
    obtain ⟨c0, h⟩ := oz h
    replace c0 := Classical.not_not.mp c0
    obtain ⟨m, e, h⟩ := ob h
    cases e
    refine v_newaI (N := U) C dX12_init_395 ar_I c0 (by omega) ⟨by show (32 + 5 * U + 1 * S) + 1 ≤ (39 + 5 * U + 1 * S); omega, by show (22424 + 5668 * U + 4100 * S) + U ≤ (22424 + 5675 * U + 4100 * S); omega⟩ ?_
    refine v_eqk (k' := (33 + 5 * U + 1 * S)) (by show (32 + 5 * U + 1 * S) + 1 = (33 + 5 * U + 1 * S); omega) ?_
    refine v_wid (n' := (22424 + 5669 * U + 4100 * S)) (by show (22424 + 5668 * U + 4100 * S) + U ≤ (22424 + 5669 * U + 4100 * S); omega) ?_
    obtain ⟨m, e, h⟩ := ob h
    refine v_putR C dX12_init_397 pf_X12_317 rfl e ?_
    refine v_aload_n C dX12_init_400 rfl ?_
    refine v_iload C dX12_init_401 rfl ?_
    obtain ⟨c0, h⟩ := oz h
    replace c0 := Classical.not_not.mp c0
    obtain ⟨m, e, h⟩ := ob h
    cases e
    refine v_newaI (N := U) C dX12_init_403 ar_I c0 (by omega) ⟨by show (33 + 5 * U + 1 * S) + 1 ≤ (39 + 5 * U + 1 * S); omega, by show (22424 + 5669 * U + 4100 * S) + U ≤ (22424 + 5675 * U + 4100 * S); omega⟩ ?_
    refine v_eqk (k' := (34 + 5 * U + 1 * S)) (by show (33 + 5 * U + 1 * S) + 1 = (34 + 5 * U + 1 * S); omega) ?_
    refine v_wid (n' := (22424 + 5670 * U + 4100 * S)) (by show (22424 + 5669 * U + 4100 * S) + U ≤ (22424 + 5670 * U + 4100 * S); omega) ?_
    obtain ⟨m, e, h⟩ := ob h
    refine v_putR C dX12_init_405 pf_X12_320 rfl e ?_
    refine v_aload_n C dX12_init_408 rfl ?_
    refine v_iload C dX12_init_409 rfl ?_
    obtain ⟨c0, h⟩ := oz h
    replace c0 := Classical.not_not.mp c0
    obtain ⟨m, e, h⟩ := ob h
    cases e
    refine v_newaI (N := U) C dX12_init_411 ar_I c0 (by omega) ⟨by show (34 + 5 * U + 1 * S) + 1 ≤ (39 + 5 * U + 1 * S); omega, by show (22424 + 5670 * U + 4100 * S) + U ≤ (22424 + 5675 * U + 4100 * S); omega⟩ ?_
    refine v_eqk (k' := (35 + 5 * U + 1 * S)) (by show (34 + 5 * U + 1 * S) + 1 = (35 + 5 * U + 1 * S); omega) ?_
    refine v_wid (n' := (22424 + 5671 * U + 4100 * S)) (by show (22424 + 5670 * U + 4100 * S) + U ≤ (22424 + 5671 * U + 4100 * S); omega) ?_
    obtain ⟨m, e, h⟩ := ob h
    refine v_putR C dX12_init_413 pf_X12_323 rfl e ?_
    refine v_aload_n C dX12_init_416 rfl ?_
    refine v_iload C dX12_init_417 rfl ?_
    obtain ⟨c0, h⟩ := oz h
    replace c0 := Classical.not_not.mp c0
    obtain ⟨m, e, h⟩ := ob h
    cases e
    refine v_newaI (N := U) C dX12_init_419 ar_I c0 (by omega) ⟨by show (35 + 5 * U + 1 * S) + 1 ≤ (39 + 5 * U + 1 * S); omega, by show (22424 + 5671 * U + 4100 * S) + U ≤ (22424 + 5675 * U + 4100 * S); omega⟩ ?_
    refine v_eqk (k' := (36 + 5 * U + 1 * S)) (by show (35 + 5 * U + 1 * S) + 1 = (36 + 5 * U + 1 * S); omega) ?_
    refine v_wid (n' := (22424 + 5672 * U + 4100 * S)) (by show (22424 + 5671 * U + 4100 * S) + U ≤ (22424 + 5672 * U + 4100 * S); omega) ?_
    obtain ⟨m, e, h⟩ := ob h
    refine v_putR C dX12_init_421 pf_X12_326 rfl e ?_
    refine v_aload_n C dX12_init_424 rfl ?_
    refine v_iload C dX12_init_425 rfl ?_
    obtain ⟨c0, h⟩ := oz h
    replace c0 := Classical.not_not.mp c0
    obtain ⟨m, e, h⟩ := ob h
    cases e
    refine v_newaI (N := U) C dX12_init_427 ar_I c0 (by omega) ⟨by show (36 + 5 * U + 1 * S) + 1 ≤ (39 + 5 * U + 1 * S); omega, by show (22424 + 5672 * U + 4100 * S) + U ≤ (22424 + 5675 * U + 4100 * S); omega⟩ ?_
    refine v_eqk (k' := (37 + 5 * U + 1 * S)) (by show (36 + 5 * U + 1 * S) + 1 = (37 + 5 * U + 1 * S); omega) ?_
    refine v_wid (n' := (22424 + 5673 * U + 4100 * S)) (by show (22424 + 5672 * U + 4100 * S) + U ≤ (22424 + 5673 * U + 4100 * S); omega) ?_
    obtain ⟨m, e, h⟩ := ob h
    refine v_putR C dX12_init_429 pf_X12_329 rfl e ?_
    refine v_aload_n C dX12_init_432 rfl ?_
    refine v_iload C dX12_init_433 rfl ?_
    obtain ⟨c0, h⟩ := oz h
    replace c0 := Classical.not_not.mp c0
    obtain ⟨m, e, h⟩ := ob h
    cases e
    refine v_newaI (N := U) C dX12_init_435 ar_I c0 (by omega) ⟨by show (37 + 5 * U + 1 * S) + 1 ≤ (39 + 5 * U + 1 * S); omega, by show (22424 + 5673 * U + 4100 * S) + U ≤ (22424 + 5675 * U + 4100 * S); omega⟩ ?_
    refine v_eqk (k' := (38 + 5 * U + 1 * S)) (by show (37 + 5 * U + 1 * S) + 1 = (38 + 5 * U + 1 * S); omega) ?_
    refine v_wid (n' := (22424 + 5674 * U + 4100 * S)) (by show (22424 + 5673 * U + 4100 * S) + U ≤ (22424 + 5674 * U + 4100 * S); omega) ?_
    obtain ⟨m, e, h⟩ := ob h
    refine v_putR C dX12_init_437 pf_X12_332 rfl e ?_
    refine v_aload_n C dX12_init_440 rfl ?_
    refine v_iload C dX12_init_441 rfl ?_
    obtain ⟨c0, h⟩ := oz h
    replace c0 := Classical.not_not.mp c0
    obtain ⟨m, e, h⟩ := ob h
    cases e
    refine v_newaZ (N := U) C dX12_init_443 ar_Z c0 (by omega) ⟨by show (38 + 5 * U + 1 * S) + 1 ≤ (39 + 5 * U + 1 * S); omega, by show (22424 + 5674 * U + 4100 * S) + U ≤ (22424 + 5675 * U + 4100 * S); omega⟩ ?_
    refine v_eqk (k' := (39 + 5 * U + 1 * S)) (by show (38 + 5 * U + 1 * S) + 1 = (39 + 5 * U + 1 * S); omega) ?_
    refine v_wid (n' := (22424 + 5675 * U + 4100 * S)) (by show (22424 + 5674 * U + 4100 * S) + U ≤ (22424 + 5675 * U + 4100 * S); omega) ?_
    obtain ⟨m, e, h⟩ := ob h
    refine v_putR C dX12_init_445 pf_X12_335 rfl e ?_
    refine v_iconst (v := 0) C dX12_init_448 rfl ?_
    refine v_istore C dX12_init_449 (by decide) ?_
    refine v_eqk (k' := (39 + 5 * U + 1 * S)) (by omega) ?_
    refine v_wid (n' := (22424 + 5675 * U + 4100 * S)) (by omega) ?_
    exact v_sb (pL_X12_init_451 C F hU N N _ _ _ _ h) ⟨rfl, rfl, rfl, trivial⟩
  · replace h := ifF h c
    refine v_aload_n C dX12_init_253 rfl ?_
    obtain ⟨v, e, h⟩ := ob h
    refine v_getR C dX12_init_254 gf_X12_266 e ?_
    refine v_iload C dX12_init_257 rfl ?_
    refine v_iconst (v := -1) C dX12_init_259 rfl ?_
    obtain ⟨m, e, h⟩ := ob h
    refine v_iastore C dX12_init_260 e ?_
    refine v_iinc (w := 1) C dX12_init_261 rfl rfl (by decide) ?_
    refine v_goto (tgt := 244) C dX12_init_264 (by decide) ?_
    refine v_eqk (k' := (18 + 2 * U + 1 * S)) (by omega) ?_
    refine v_wid (n' := (22424 + 5122 * U + 4100 * S)) (by omega) ?_
    exact v_sb (hk244 _ _ _ _ h) ⟨rfl, rfl, rfl, trivial⟩
set_option maxRecDepth 100000 in
set_option maxHeartbeats 4000000 in
theorem pL_X12_init_244 {x : CX} {l : Launch} {g : CG} {rv : Unit} {μ0 μ9 : Mem} {U S : Nat} (C : Cx x l g (mi_X12_init U S)) (F : Prom x g (mi_X12_init U S) μ0 none μ9) (hU : U ≤ 6 ∧ S ≤ 4) (N : Nat) (n : Nat) : ∀ (a0 : Option Nat) (a5 : Int32) (a6 : Int32) (μ : Mem), L_X12_init_244 N U S n a0 a5 a6 μ = some (rv, μ9) → V x g 7 (18 + 2 * U + 1 * S) (22424 + 5122 * U + 4100 * S) μ 244 [(0, aR a0), (5, aI a5), (6, aI a6)] [] := by
  induction n with
  | zero => intro a0 a5 a6 μ h; cases h
  | succ n ih => intro a0 a5 a6 μ h; exact pH_X12_init_244 C F hU ih h
set_option maxRecDepth 100000 in
set_option maxHeartbeats 4000000 in
theorem p_X12_init {x : CX} {l : Launch} {g : CG} {rv : Unit} {μ0 μ9 : Mem} {U S : Nat} (C : Cx x l g (mi_X12_init U S)) (F : Prom x g (mi_X12_init U S) μ0 none μ9) (hU : U ≤ 6 ∧ S ≤ 4) {N : Nat} {a0 : Option Nat} {a1 : Int32} {a2 : Int32} {a3 : Int32} {a4 : Int32} {μ : Mem} (h : f_X12_init N U S a0 a1 a2 a3 a4 μ = some (rv, μ9)) : V x g 7 0 0 μ 0 [(0, aR a0), (1, aI a1), (2, aI a2), (3, aI a3), (4, aI a4)] [] := by
  unfold f_X12_init at h
  refine v_aload_n C dX12_init_0 rfl ?_
  obtain ⟨b, e0, h⟩ := ob h
  refine v_objInitR C dX12_init_1 oi_X12_229 rfl ⟨Nat.le_of_ble_eq_true rfl, Nat.le_of_ble_eq_true rfl⟩ e0 ?_
  refine v_aload_n C dX12_init_4 rfl ?_
  refine v_sipush (v := 2000) C dX12_init_5 rfl ?_
  obtain ⟨m, e, h⟩ := ob h
  cases e
  refine v_newaI (N := 2000) C dX12_init_8 ar_I ⟨by decide, by decide⟩ (by decide) ⟨by show 0 + 1 ≤ (39 + 5 * U + 1 * S); omega, by show 0 + 2000 ≤ (22424 + 5675 * U + 4100 * S); omega⟩ ?_
  refine v_eqk (k' := 1) (by show 0 + 1 = 1; omega) ?_
  refine v_wid (n' := 2000) (by show 0 + 2000 ≤ 2000; omega) ?_
  obtain ⟨m, e, h⟩ := ob h
  refine v_putR C dX12_init_10 pf_X12_1 rfl e ?_
  refine v_aload_n C dX12_init_13 rfl ?_
  refine v_sipush (v := 2000) C dX12_init_14 rfl ?_
  obtain ⟨m, e, h⟩ := ob h
  cases e
  refine v_newaI (N := 2000) C dX12_init_17 ar_I ⟨by decide, by decide⟩ (by decide) ⟨by show 1 + 1 ≤ (39 + 5 * U + 1 * S); omega, by show 2000 + 2000 ≤ (22424 + 5675 * U + 4100 * S); omega⟩ ?_
  refine v_eqk (k' := 2) (by show 1 + 1 = 2; omega) ?_
  refine v_wid (n' := 4000) (by show 2000 + 2000 ≤ 4000; omega) ?_
  obtain ⟨m, e, h⟩ := ob h
  refine v_putR C dX12_init_19 pf_X12_28 rfl e ?_
  refine v_aload_n C dX12_init_22 rfl ?_
  refine v_iconst (v := -1) C dX12_init_23 rfl ?_
  obtain ⟨m, e, h⟩ := ob h
  refine v_putI C dX12_init_24 (pf_X12_223 _) e ?_
  refine v_aload_n C dX12_init_27 rfl ?_
  refine v_sipush (v := 1400) C dX12_init_28 rfl ?_
  obtain ⟨m, e, h⟩ := ob h
  cases e
  refine v_newaI (N := 1400) C dX12_init_31 ar_I ⟨by decide, by decide⟩ (by decide) ⟨by show 2 + 1 ≤ (39 + 5 * U + 1 * S); omega, by show 4000 + 1400 ≤ (22424 + 5675 * U + 4100 * S); omega⟩ ?_
  refine v_eqk (k' := 3) (by show 2 + 1 = 3; omega) ?_
  refine v_wid (n' := 5400) (by show 4000 + 1400 ≤ 5400; omega) ?_
  obtain ⟨m, e, h⟩ := ob h
  refine v_putR C dX12_init_33 pf_X12_98 rfl e ?_
  refine v_aload_n C dX12_init_36 rfl ?_
  refine v_sipush (v := 200) C dX12_init_37 rfl ?_
  obtain ⟨m, e, h⟩ := ob h
  cases e
  refine v_newaI (N := 200) C dX12_init_40 ar_I ⟨by decide, by decide⟩ (by decide) ⟨by show 3 + 1 ≤ (39 + 5 * U + 1 * S); omega, by show 5400 + 200 ≤ (22424 + 5675 * U + 4100 * S); omega⟩ ?_
  refine v_eqk (k' := 4) (by show 3 + 1 = 4; omega) ?_
  refine v_wid (n' := 5600) (by show 5400 + 200 ≤ 5600; omega) ?_
  obtain ⟨m, e, h⟩ := ob h
  refine v_putR C dX12_init_42 pf_X12_95 rfl e ?_
  refine v_aload_n C dX12_init_45 rfl ?_
  refine v_sipush (v := 200) C dX12_init_46 rfl ?_
  obtain ⟨m, e, h⟩ := ob h
  cases e
  refine v_newaI (N := 200) C dX12_init_49 ar_I ⟨by decide, by decide⟩ (by decide) ⟨by show 4 + 1 ≤ (39 + 5 * U + 1 * S); omega, by show 5600 + 200 ≤ (22424 + 5675 * U + 4100 * S); omega⟩ ?_
  refine v_eqk (k' := 5) (by show 4 + 1 = 5; omega) ?_
  refine v_wid (n' := 5800) (by show 5600 + 200 ≤ 5800; omega) ?_
  obtain ⟨m, e, h⟩ := ob h
  refine v_putR C dX12_init_51 pf_X12_120 rfl e ?_
  refine v_aload_n C dX12_init_54 rfl ?_
  refine v_sipush (v := 200) C dX12_init_55 rfl ?_
  obtain ⟨m, e, h⟩ := ob h
  cases e
  refine v_newaZ (N := 200) C dX12_init_58 ar_Z ⟨by decide, by decide⟩ (by decide) ⟨by show 5 + 1 ≤ (39 + 5 * U + 1 * S); omega, by show 5800 + 200 ≤ (22424 + 5675 * U + 4100 * S); omega⟩ ?_
  refine v_eqk (k' := 6) (by show 5 + 1 = 6; omega) ?_
  refine v_wid (n' := 6000) (by show 5800 + 200 ≤ 6000; omega) ?_
  obtain ⟨m, e, h⟩ := ob h
  refine v_putR C dX12_init_60 pf_X12_116 rfl e ?_
  refine v_aload_n C dX12_init_63 rfl ?_
  refine v_sipush (v := 4096) C dX12_init_64 rfl ?_
  obtain ⟨m, e, h⟩ := ob h
  cases e
  refine v_newaI (N := 4096) C dX12_init_67 ar_I ⟨by decide, by decide⟩ (by decide) ⟨by show 6 + 1 ≤ (39 + 5 * U + 1 * S); omega, by show 6000 + 4096 ≤ (22424 + 5675 * U + 4100 * S); omega⟩ ?_
  refine v_eqk (k' := 7) (by show 6 + 1 = 7; omega) ?_
  refine v_wid (n' := 10096) (by show 6000 + 4096 ≤ 10096; omega) ?_
  obtain ⟨m, e, h⟩ := ob h
  refine v_putR C dX12_init_69 pf_X12_199 rfl e ?_
  refine v_aload_n C dX12_init_72 rfl ?_
  refine v_sipush (v := 4096) C dX12_init_73 rfl ?_
  obtain ⟨m, e, h⟩ := ob h
  cases e
  refine v_newaZ (N := 4096) C dX12_init_76 ar_Z ⟨by decide, by decide⟩ (by decide) ⟨by show 7 + 1 ≤ (39 + 5 * U + 1 * S); omega, by show 10096 + 4096 ≤ (22424 + 5675 * U + 4100 * S); omega⟩ ?_
  refine v_eqk (k' := 8) (by show 7 + 1 = 8; omega) ?_
  refine v_wid (n' := 14192) (by show 10096 + 4096 ≤ 14192; omega) ?_
  obtain ⟨m, e, h⟩ := ob h
  refine v_putR C dX12_init_78 pf_X12_196 rfl e ?_
  refine v_aload_n C dX12_init_81 rfl ?_
  refine v_sipush (v := 4096) C dX12_init_82 rfl ?_
  obtain ⟨m, e, h⟩ := ob h
  cases e
  refine v_newaZ (N := 4096) C dX12_init_85 ar_Z ⟨by decide, by decide⟩ (by decide) ⟨by show 8 + 1 ≤ (39 + 5 * U + 1 * S); omega, by show 14192 + 4096 ≤ (22424 + 5675 * U + 4100 * S); omega⟩ ?_
  refine v_eqk (k' := 9) (by show 8 + 1 = 9; omega) ?_
  refine v_wid (n' := 18288) (by show 14192 + 4096 ≤ 18288; omega) ?_
  obtain ⟨m, e, h⟩ := ob h
  refine v_putR C dX12_init_87 pf_X12_193 rfl e ?_
  refine v_aload_n C dX12_init_90 rfl ?_
  refine v_sipush (v := 4096) C dX12_init_91 rfl ?_
  obtain ⟨m, e, h⟩ := ob h
  cases e
  refine v_newaI (N := 4096) C dX12_init_94 ar_I ⟨by decide, by decide⟩ (by decide) ⟨by show 9 + 1 ≤ (39 + 5 * U + 1 * S); omega, by show 18288 + 4096 ≤ (22424 + 5675 * U + 4100 * S); omega⟩ ?_
  refine v_eqk (k' := 10) (by show 9 + 1 = 10; omega) ?_
  refine v_wid (n' := 22384) (by show 18288 + 4096 ≤ 22384; omega) ?_
  obtain ⟨m, e, h⟩ := ob h
  refine v_putR C dX12_init_96 pf_X12_226 rfl e ?_
  refine v_aload_n C dX12_init_99 rfl ?_
  refine v_bipush (v := 32) C dX12_init_100 rfl ?_
  obtain ⟨m, e, h⟩ := ob h
  cases e
  refine v_newaI (N := 32) C dX12_init_102 ar_I ⟨by decide, by decide⟩ (by decide) ⟨by show 10 + 1 ≤ (39 + 5 * U + 1 * S); omega, by show 22384 + 32 ≤ (22424 + 5675 * U + 4100 * S); omega⟩ ?_
  refine v_eqk (k' := 11) (by show 10 + 1 = 11; omega) ?_
  refine v_wid (n' := 22416) (by show 22384 + 32 ≤ 22416; omega) ?_
  obtain ⟨m, e, h⟩ := ob h
  refine v_putR C dX12_init_104 pf_X12_213 rfl e ?_
  refine v_aload_n C dX12_init_107 rfl ?_
  refine v_bipush (v := 8) C dX12_init_108 rfl ?_
  obtain ⟨m, e, h⟩ := ob h
  cases e
  refine v_newaI (N := 8) C dX12_init_110 ar_I ⟨by decide, by decide⟩ (by decide) ⟨by show 11 + 1 ≤ (39 + 5 * U + 1 * S); omega, by show 22416 + 8 ≤ (22424 + 5675 * U + 4100 * S); omega⟩ ?_
  refine v_eqk (k' := 12) (by show 11 + 1 = 12; omega) ?_
  refine v_wid (n' := 22424) (by show 22416 + 8 ≤ 22424; omega) ?_
  obtain ⟨m, e, h⟩ := ob h
  refine v_putR C dX12_init_112 pf_X12_234 rfl e ?_
  refine v_aload_n C dX12_init_115 rfl ?_
  refine v_iconst (v := -1) C dX12_init_116 rfl ?_
  obtain ⟨m, e, h⟩ := ob h
  refine v_putI C dX12_init_117 (pf_X12_237 _) e ?_
  refine v_aload_n C dX12_init_120 rfl ?_
  refine v_iload_n C dX12_init_121 rfl ?_
  refine v_iconst (v := 1) C dX12_init_122 rfl ?_
  refine v_bipush (v := 6) C dX12_init_123 rfl ?_
  obtain ⟨q, e, h⟩ := ob h
  refine v_callS (As := [_, _, _]) C dX12_init_125 cf_X12_240 ⟨⟨Nat.le_of_ble_eq_true rfl, Nat.le_of_ble_eq_true rfl⟩, by show 12 + 0 ≤ (39 + 5 * U + 1 * S); omega, by show 22424 + 0 ≤ (22424 + 5675 * U + 4100 * S); omega⟩ ⟨rfl, rfl⟩ rfl (Nat.le_of_ble_eq_true rfl) (c_X12_near _ _ N _ _ _ _ q.1 q.2 e) ?_
  refine v_eqk (k' := 12) (by show 12 + 0 = 12; omega) ?_
  refine v_wid (n' := 22424) (by show 22424 + 0 ≤ 22424; omega) ?_
  obtain ⟨m, e, h⟩ := ob h
  refine v_putI C dX12_init_128 pf_X12_243 e ?_
  refine v_aload_n C dX12_init_131 rfl ?_
  refine v_iload_n C dX12_init_132 rfl ?_
  refine v_iconst (v := 1) C dX12_init_133 rfl ?_
  refine v_iconst (v := 4) C dX12_init_134 rfl ?_
  obtain ⟨q, e, h⟩ := ob h
  refine v_callS (As := [_, _, _]) C dX12_init_135 cf_X12_240 ⟨⟨Nat.le_of_ble_eq_true rfl, Nat.le_of_ble_eq_true rfl⟩, by show 12 + 0 ≤ (39 + 5 * U + 1 * S); omega, by show 22424 + 0 ≤ (22424 + 5675 * U + 4100 * S); omega⟩ ⟨rfl, rfl⟩ rfl (Nat.le_of_ble_eq_true rfl) (c_X12_near _ _ N _ _ _ _ q.1 q.2 e) ?_
  refine v_eqk (k' := 12) (by show 12 + 0 = 12; omega) ?_
  refine v_wid (n' := 22424) (by show 22424 + 0 ≤ 22424; omega) ?_
  obtain ⟨m, e, h⟩ := ob h
  refine v_putI C dX12_init_138 pf_X12_246 e ?_
  refine v_aload_n C dX12_init_141 rfl ?_
  refine v_iload_n C dX12_init_142 rfl ?_
  refine v_iconst (v := 1) C dX12_init_143 rfl ?_
  refine v_bipush (v := 64) C dX12_init_144 rfl ?_
  obtain ⟨q, e, h⟩ := ob h
  refine v_callS (As := [_, _, _]) C dX12_init_146 cf_X12_240 ⟨⟨Nat.le_of_ble_eq_true rfl, Nat.le_of_ble_eq_true rfl⟩, by show 12 + 0 ≤ (39 + 5 * U + 1 * S); omega, by show 22424 + 0 ≤ (22424 + 5675 * U + 4100 * S); omega⟩ ⟨rfl, rfl⟩ rfl (Nat.le_of_ble_eq_true rfl) (c_X12_near _ _ N _ _ _ _ q.1 q.2 e) ?_
  refine v_eqk (k' := 12) (by show 12 + 0 = 12; omega) ?_
  refine v_wid (n' := 22424) (by show 22424 + 0 ≤ 22424; omega) ?_
  obtain ⟨m, e, h⟩ := ob h
  refine v_putI C dX12_init_149 pf_X12_249 e ?_
  refine v_aload_n C dX12_init_152 rfl ?_
  refine v_iload C dX12_init_153 rfl ?_
  refine v_iconst (v := 1) C dX12_init_155 rfl ?_
  refine v_bipush (v := 64) C dX12_init_156 rfl ?_
  obtain ⟨q, e, h⟩ := ob h
  refine v_callS (As := [_, _, _]) C dX12_init_158 cf_X12_240 ⟨⟨Nat.le_of_ble_eq_true rfl, Nat.le_of_ble_eq_true rfl⟩, by show 12 + 0 ≤ (39 + 5 * U + 1 * S); omega, by show 22424 + 0 ≤ (22424 + 5675 * U + 4100 * S); omega⟩ ⟨rfl, rfl⟩ rfl (Nat.le_of_ble_eq_true rfl) (c_X12_near _ _ N _ _ _ _ q.1 q.2 e) ?_
  refine v_eqk (k' := 12) (by show 12 + 0 = 12; omega) ?_
  refine v_wid (n' := 22424) (by show 22424 + 0 ≤ 22424; omega) ?_
  obtain ⟨m, e, h⟩ := ob h
  refine v_putI C dX12_init_161 pf_X12_252 e ?_
  refine v_aload_n C dX12_init_164 rfl ?_
  obtain ⟨v, e, h⟩ := ob h
  refine v_getI C dX12_init_165 gf_X12_243 e ?_
  refine v_istore C dX12_init_168 (by decide) ?_
  refine v_aload_n C dX12_init_170 rfl ?_
  refine v_aload_n C dX12_init_171 rfl ?_
  obtain ⟨v, e, h⟩ := ob h
  refine v_getI C dX12_init_172 gf_X12_246 e ?_
  refine v_sipush (v := 4096) C dX12_init_175 rfl ?_
  obtain ⟨c0, h⟩ := oz h
  replace c0 := Classical.not_not.mp c0
  obtain ⟨m, e, h⟩ := ob h
  cases e
  refine v_mna (N := S) (K := 4096) C dX12_init_178 ⟨mx2_X12, ao_II, ar_I⟩ c0 ⟨by decide, by decide⟩ ⟨by omega, by decide⟩ ⟨by show 12 + (1 + S) ≤ (39 + 5 * U + 1 * S); omega, by show 22424 + (S + S * 4096) ≤ (22424 + 5675 * U + 4100 * S); omega⟩ ?_
  refine v_eqk (k' := (13 + 1 * S)) (by omega) ?_
  refine v_wid (n' := (22424 + 4097 * S)) (by omega) ?_
  obtain ⟨m, e, h⟩ := ob h
  refine v_putR C dX12_init_182 pf_X12_257 rfl e ?_
  refine v_aload_n C dX12_init_185 rfl ?_
  refine v_iload C dX12_init_186 rfl ?_
  refine v_sipush (v := 4096) C dX12_init_188 rfl ?_
  obtain ⟨c0, h⟩ := oz h
  replace c0 := Classical.not_not.mp c0
  obtain ⟨m, e, h⟩ := ob h
  cases e
  refine v_mna (N := U) (K := 4096) C dX12_init_191 ⟨mx2_X12, ao_II, ar_I⟩ c0 ⟨by decide, by decide⟩ ⟨by omega, by decide⟩ ⟨by show (13 + 1 * S) + (1 + U) ≤ (39 + 5 * U + 1 * S); omega, by show (22424 + 4097 * S) + (U + U * 4096) ≤ (22424 + 5675 * U + 4100 * S); omega⟩ ?_
  refine v_eqk (k' := (14 + 1 * U + 1 * S)) (by omega) ?_
  refine v_wid (n' := (22424 + 4097 * U + 4097 * S)) (by omega) ?_
  obtain ⟨m, e, h⟩ := ob h
  refine v_putR C dX12_init_195 pf_X12_260 rfl e ?_
  refine v_aload_n C dX12_init_198 rfl ?_
  refine v_iload C dX12_init_199 rfl ?_
  refine v_sipush (v := 1024) C dX12_init_201 rfl ?_
  obtain ⟨c0, h⟩ := oz h
  replace c0 := Classical.not_not.mp c0
  obtain ⟨m, e, h⟩ := ob h
  cases e
  refine v_mna (N := U) (K := 1024) C dX12_init_204 ⟨mx2_X12, ao_II, ar_I⟩ c0 ⟨by decide, by decide⟩ ⟨by omega, by decide⟩ ⟨by show (14 + 1 * U + 1 * S) + (1 + U) ≤ (39 + 5 * U + 1 * S); omega, by show (22424 + 4097 * U + 4097 * S) + (U + U * 1024) ≤ (22424 + 5675 * U + 4100 * S); omega⟩ ?_
  refine v_eqk (k' := (15 + 2 * U + 1 * S)) (by omega) ?_
  refine v_wid (n' := (22424 + 5122 * U + 4097 * S)) (by omega) ?_
  obtain ⟨m, e, h⟩ := ob h
  refine v_putR C dX12_init_208 pf_X12_263 rfl e ?_
  refine v_aload_n C dX12_init_211 rfl ?_
  refine v_aload_n C dX12_init_212 rfl ?_
  obtain ⟨v, e, h⟩ := ob h
  refine v_getI C dX12_init_213 gf_X12_246 e ?_
  obtain ⟨c0, h⟩ := oz h
  replace c0 := Classical.not_not.mp c0
  obtain ⟨m, e, h⟩ := ob h
  cases e
  refine v_newaI (N := S) C dX12_init_216 ar_I c0 (by omega) ⟨by show (15 + 2 * U + 1 * S) + 1 ≤ (39 + 5 * U + 1 * S); omega, by show (22424 + 5122 * U + 4097 * S) + S ≤ (22424 + 5675 * U + 4100 * S); omega⟩ ?_
  refine v_eqk (k' := (16 + 2 * U + 1 * S)) (by show (15 + 2 * U + 1 * S) + 1 = (16 + 2 * U + 1 * S); omega) ?_
  refine v_wid (n' := (22424 + 5122 * U + 4098 * S)) (by show (22424 + 5122 * U + 4097 * S) + S ≤ (22424 + 5122 * U + 4098 * S); omega) ?_
  obtain ⟨m, e, h⟩ := ob h
  refine v_putR C dX12_init_218 pf_X12_266 rfl e ?_
  refine v_aload_n C dX12_init_221 rfl ?_
  refine v_aload_n C dX12_init_222 rfl ?_
  obtain ⟨v, e, h⟩ := ob h
  refine v_getI C dX12_init_223 gf_X12_246 e ?_
  obtain ⟨c0, h⟩ := oz h
  replace c0 := Classical.not_not.mp c0
  obtain ⟨m, e, h⟩ := ob h
  cases e
  refine v_newaZ (N := S) C dX12_init_226 ar_Z c0 (by omega) ⟨by show (16 + 2 * U + 1 * S) + 1 ≤ (39 + 5 * U + 1 * S); omega, by show (22424 + 5122 * U + 4098 * S) + S ≤ (22424 + 5675 * U + 4100 * S); omega⟩ ?_
  refine v_eqk (k' := (17 + 2 * U + 1 * S)) (by show (16 + 2 * U + 1 * S) + 1 = (17 + 2 * U + 1 * S); omega) ?_
  refine v_wid (n' := (22424 + 5122 * U + 4099 * S)) (by show (22424 + 5122 * U + 4098 * S) + S ≤ (22424 + 5122 * U + 4099 * S); omega) ?_
  obtain ⟨m, e, h⟩ := ob h
  refine v_putR C dX12_init_228 pf_X12_269 rfl e ?_
  refine v_aload_n C dX12_init_231 rfl ?_
  refine v_aload_n C dX12_init_232 rfl ?_
  obtain ⟨v, e, h⟩ := ob h
  refine v_getI C dX12_init_233 gf_X12_246 e ?_
  obtain ⟨c0, h⟩ := oz h
  replace c0 := Classical.not_not.mp c0
  obtain ⟨m, e, h⟩ := ob h
  cases e
  refine v_newaZ (N := S) C dX12_init_236 ar_Z c0 (by omega) ⟨by show (17 + 2 * U + 1 * S) + 1 ≤ (39 + 5 * U + 1 * S); omega, by show (22424 + 5122 * U + 4099 * S) + S ≤ (22424 + 5675 * U + 4100 * S); omega⟩ ?_
  refine v_eqk (k' := (18 + 2 * U + 1 * S)) (by show (17 + 2 * U + 1 * S) + 1 = (18 + 2 * U + 1 * S); omega) ?_
  refine v_wid (n' := (22424 + 5122 * U + 4100 * S)) (by show (22424 + 5122 * U + 4099 * S) + S ≤ (22424 + 5122 * U + 4100 * S); omega) ?_
  obtain ⟨m, e, h⟩ := ob h
  refine v_putR C dX12_init_238 pf_X12_272 rfl e ?_
  refine v_iconst (v := 0) C dX12_init_241 rfl ?_
  refine v_istore C dX12_init_242 (by decide) ?_
  refine v_eqk (k' := (18 + 2 * U + 1 * S)) (by omega) ?_
  refine v_wid (n' := (22424 + 5122 * U + 4100 * S)) (by omega) ?_
  exact v_sb (pL_X12_init_244 C F hU N N _ _ _ _ h) ⟨rfl, rfl, rfl, trivial⟩
set_option maxRecDepth 100000 in
set_option maxHeartbeats 4000000 in
theorem c_X12_init (l : Launch) (g : CG) (N : Nat) (U S : Nat) (hU : U ≤ 6 ∧ S ≤ 4) (a0 : Option Nat) (a1 : Int32) (a2 : Int32) (a3 : Int32) (a4 : Int32) (μ : Mem) (rv : Unit) (μ9 : Mem) (h : f_X12_init N U S a0 a1 a2 a3 a4 μ = some (rv, μ9)) : Ct l yX12_init (mi_X12_init U S) g [aR a0, aI a1, aI a2, aI a3, aI a4] μ none μ9 := ct_of ⟨by decide, rfl, rfl⟩ (Nat.le_of_ble_eq_true rfl) fun x C F => p_X12_init C F hU h
