/-! LAYER 1: X2.press, X11.key, X11.set, X8.put, X10.store, X11.deposit, X6.isEmpty, X6.head, X6.drop, X10.print, X2.attend, X1.isIdle, X1.copyStep, X1.moveBlockStep, X1.advance, X8.give (by program) -/
def f_X2_press_43 (N : Nat) (μ : Mem) : Option (Int32 × Mem) :=
  retZ 1 μ
def f_X2_press (N : Nat) (a0 : Option Nat) (a1 : Option Nat) (a2 : Int32) (μ : Mem) : Option (Int32 × Mem) :=
  (mfR μ a1 10 4).bind fun v1 =>
  (mck μ v1 6).bind fun b3 =>
  (f_X6_isFull N (some b3) μ).bind fun q2 =>
  if q2.1 = 0 then
    (mfR q2.2 a1 10 4).bind fun v4 =>
    (mck q2.2 v4 6).bind fun b6 =>
    (f_X6_append N (some b6) a2 q2.2).bind fun q5 =>
    (mfI q5.2 a1 10 8).bind fun v7 =>
    if ¬ v7 = (2 : Int32) then
      f_X2_press_43 N q5.2
    else
      (mck q5.2 a0 2).bind fun b9 =>
      (f_X2_makeReady N (some b9) a1 q5.2).bind fun q8 =>
      f_X2_press_43 N q8.2
  else
    (mfI q2.2 a1 10 15).bind fun v10 =>
    (mpI q2.2 a1 10 15 (v10 + 1)).bind fun μ11 =>
    retZ 0 μ11
set_option maxRecDepth 100000 in
set_option maxHeartbeats 4000000 in
theorem p_X2_press_43 {x : CX} {l : Launch} {g : CG} {rv : Int32} {μ0 μ9 : Mem} (C : Cx x l g mi_X2_press) (F : Prom x g mi_X2_press μ0 (some (aI rv)) μ9) {N : Nat} {μ : Mem} (h : f_X2_press_43 N μ = some (rv, μ9)) : V x g 3 0 0 μ 43 [] [] := by
  unfold f_X2_press_43 at h
  refine v_iconst (v := 1) C dX2_press_43 rfl ?_
  exact v_zret C F ⟨rfl, rfl, Nat.le_refl _⟩ dX2_press_44 h
set_option maxRecDepth 100000 in
set_option maxHeartbeats 4000000 in
theorem p_X2_press {x : CX} {l : Launch} {g : CG} {rv : Int32} {μ0 μ9 : Mem} (C : Cx x l g mi_X2_press) (F : Prom x g mi_X2_press μ0 (some (aI rv)) μ9) {N : Nat} {a0 : Option Nat} {a1 : Option Nat} {a2 : Int32} {μ : Mem} (h : f_X2_press N a0 a1 a2 μ = some (rv, μ9)) : V x g 3 0 0 μ 0 [(0, aR a0), (1, aR a1), (2, aI a2)] [] := by
  unfold f_X2_press at h
  refine v_aload_n C dX2_press_0 rfl ?_
  obtain ⟨v, e, h⟩ := ob h
  refine v_getR C dX2_press_1 gf_X2_118 e ?_
  obtain ⟨b, e0, h⟩ := ob h
  obtain ⟨q, e, h⟩ := ob h
  refine v_callV (As := []) C dX2_press_4 cf_X2_122 (rm_X2_press_X6_isFull) ⟨rfl, rfl⟩ e0 rfl (Nat.le_of_ble_eq_true rfl) (c_X6_isFull _ _ N _ _ q.1 q.2 e) ?_
  refine v_if_eq (tgt := 22) C dX2_press_7 (by decide) (fun c => ?_) (fun c => ?_)
  · replace h := ifT h c
    refine v_aload_n C dX2_press_22 rfl ?_
    obtain ⟨v, e, h⟩ := ob h
    refine v_getR C dX2_press_23 gf_X2_118 e ?_
    refine v_iload_n C dX2_press_26 rfl ?_
    obtain ⟨b, e0, h⟩ := ob h
    obtain ⟨q, e, h⟩ := ob h
    refine v_callV (As := [_]) C dX2_press_27 cf_X2_130 (rm_X2_press_X6_append) ⟨rfl, rfl⟩ e0 rfl (Nat.le_of_ble_eq_true rfl) (c_X6_append _ _ N _ _ _ q.1 q.2 e) ?_
    refine v_aload_n C dX2_press_30 rfl ?_
    obtain ⟨v, e, h⟩ := ob h
    refine v_getI C dX2_press_31 gf_X2_77 e ?_
    refine v_iconst (v := 2) C dX2_press_34 rfl ?_
    refine v_icmp_ne (tgt := 43) C dX2_press_35 (by decide) (fun c => ?_) (fun c => ?_)
    · replace h := ifT h c
      exact v_sb (p_X2_press_43 C F h) trivial
    · replace h := ifF h c
      refine v_aload_n C dX2_press_38 rfl ?_
      refine v_aload_n C dX2_press_39 rfl ?_
      obtain ⟨b, e0, h⟩ := ob h
      obtain ⟨q, e, h⟩ := ob h
      refine v_callV (As := [_]) C dX2_press_40 cf_X2_132 (rm_X2_press_X2_makeReady) ⟨rfl, rfl⟩ e0 rfl (Nat.le_of_ble_eq_true rfl) (c_X2_makeReady _ _ N _ _ _ q.1 q.2 e) ?_
      exact v_sb (p_X2_press_43 C F h) trivial
  · replace h := ifF h c
    refine v_aload_n C dX2_press_10 rfl ?_
    refine v_dup C dX2_press_11 rfl ?_
    obtain ⟨v, e, h⟩ := ob h
    refine v_getI C dX2_press_12 gf_X2_127 e ?_
    refine v_iconst (v := 1) C dX2_press_15 rfl ?_
    refine v_iadd C dX2_press_16 ?_
    obtain ⟨m, e, h⟩ := ob h
    refine v_putI C dX2_press_17 (pf_X2_127 _) e ?_
    refine v_iconst (v := 0) C dX2_press_20 rfl ?_
    exact v_zret C F ⟨rfl, rfl, Nat.le_refl _⟩ dX2_press_21 h
set_option maxRecDepth 100000 in
set_option maxHeartbeats 4000000 in
theorem c_X2_press (l : Launch) (g : CG) (N : Nat) (a0 : Option Nat) (a1 : Option Nat) (a2 : Int32) (μ : Mem) (rv : Int32) (μ9 : Mem) (h : f_X2_press N a0 a1 a2 μ = some (rv, μ9)) : Ct l yX2_press mi_X2_press g [aR a0, aR a1, aI a2] μ (some (aI rv)) μ9 := ct_of ⟨by decide, rfl, rfl⟩ (Nat.le_of_ble_eq_true rfl) fun x C F => p_X2_press C F h
def f_X11_key_23 (N : Nat) (μ : Mem) : Option (Int32 × Mem) :=
  retZ 0 μ
def f_X11_key (N : Nat) (a0 : Option Nat) (a1 : Int32) (a2 : Int32) (μ : Mem) : Option (Int32 × Mem) :=
  (mfR μ a0 11 3).bind fun v1 =>
  (mck μ v1 2).bind fun b3 =>
  (f_X2_userAt N (some b3) a1 μ).bind fun q2 =>
  if q2.1 = none then
    f_X11_key_23 N q2.2
  else
    if a2 < 0 then
      f_X11_key_23 N q2.2
    else
      if a2 ≤ (127 : Int32) then
        (mfR q2.2 a0 11 3).bind fun v4 =>
        (mck q2.2 v4 2).bind fun b6 =>
        (f_X2_press N (some b6) q2.1 a2 q2.2).bind fun q5 =>
        retZ q5.1 q5.2
      else
        f_X11_key_23 N q2.2
set_option maxRecDepth 100000 in
set_option maxHeartbeats 4000000 in
theorem p_X11_key_23 {x : CX} {l : Launch} {g : CG} {rv : Int32} {μ0 μ9 : Mem} (C : Cx x l g mi_X11_key) (F : Prom x g mi_X11_key μ0 (some (aI rv)) μ9) {N : Nat} {μ : Mem} (h : f_X11_key_23 N μ = some (rv, μ9)) : V x g 4 0 0 μ 23 [] [] := by
  unfold f_X11_key_23 at h
  refine v_iconst (v := 0) C dX11_key_23 rfl ?_
  exact v_zret C F ⟨rfl, rfl, Nat.le_refl _⟩ dX11_key_24 h
set_option maxRecDepth 100000 in
set_option maxHeartbeats 4000000 in
theorem p_X11_key {x : CX} {l : Launch} {g : CG} {rv : Int32} {μ0 μ9 : Mem} (C : Cx x l g mi_X11_key) (F : Prom x g mi_X11_key μ0 (some (aI rv)) μ9) {N : Nat} {a0 : Option Nat} {a1 : Int32} {a2 : Int32} {μ : Mem} (h : f_X11_key N a0 a1 a2 μ = some (rv, μ9)) : V x g 4 0 0 μ 0 [(0, aR a0), (1, aI a1), (2, aI a2)] [] := by
  unfold f_X11_key at h
  refine v_aload_n C dX11_key_0 rfl ?_
  obtain ⟨v, e, h⟩ := ob h
  refine v_getR C dX11_key_1 gf_X11_33 e ?_
  refine v_iload_n C dX11_key_4 rfl ?_
  obtain ⟨b, e0, h⟩ := ob h
  obtain ⟨q, e, h⟩ := ob h
  refine v_callV (As := [_]) C dX11_key_5 cf_X11_77 (rm_X11_key_X2_userAt) ⟨rfl, rfl⟩ e0 rfl (Nat.le_of_ble_eq_true rfl) (c_X2_userAt _ _ N _ _ _ q.1 q.2 e) ?_
  refine v_astore_n C dX11_key_8 (by decide) ?_
  refine v_aload_n C dX11_key_9 rfl ?_
  refine v_ifnull (tgt := 23) C dX11_key_10 (by decide) (fun c => ?_) (fun c => ?_)
  · replace h := ifT h c
    exact v_sb (p_X11_key_23 C F h) trivial
  · replace h := ifF h c
    refine v_iload_n C dX11_key_13 rfl ?_
    refine v_if_lt (tgt := 23) C dX11_key_14 (by decide) (fun c => ?_) (fun c => ?_)
    · replace h := ifT h c
      exact v_sb (p_X11_key_23 C F h) trivial
    · replace h := ifF h c
      refine v_iload_n C dX11_key_17 rfl ?_
      refine v_bipush (v := 127) C dX11_key_18 rfl ?_
      refine v_icmp_le (tgt := 25) C dX11_key_20 (by decide) (fun c => ?_) (fun c => ?_)
      · replace h := ifT h c
        refine v_aload_n C dX11_key_25 rfl ?_
        obtain ⟨v, e, h⟩ := ob h
        refine v_getR C dX11_key_26 gf_X11_33 e ?_
        refine v_aload_n C dX11_key_29 rfl ?_
        refine v_iload_n C dX11_key_30 rfl ?_
        obtain ⟨b, e0, h⟩ := ob h
        obtain ⟨q, e, h⟩ := ob h
        refine v_callV (As := [_, _]) C dX11_key_31 cf_X11_112 (rm_X11_key_X2_press) ⟨rfl, rfl⟩ e0 rfl (Nat.le_of_ble_eq_true rfl) (c_X2_press _ _ N _ _ _ _ q.1 q.2 e) ?_
        exact v_zret C F ⟨rfl, rfl, Nat.le_refl _⟩ dX11_key_34 h
      · replace h := ifF h c
        exact v_sb (p_X11_key_23 C F h) trivial
set_option maxRecDepth 100000 in
set_option maxHeartbeats 4000000 in
theorem c_X11_key (l : Launch) (g : CG) (N : Nat) (a0 : Option Nat) (a1 : Int32) (a2 : Int32) (μ : Mem) (rv : Int32) (μ9 : Mem) (h : f_X11_key N a0 a1 a2 μ = some (rv, μ9)) : Ct l yX11_key mi_X11_key g [aR a0, aI a1, aI a2] μ (some (aI rv)) μ9 := ct_of ⟨by decide, rfl, rfl⟩ (Nat.le_of_ble_eq_true rfl) fun x C F => p_X11_key C F h
def f_X11_set_20 (N : Nat) (μ : Mem) : Option (Int32 × Mem) :=
  retZ 0 μ
def f_X11_set (N : Nat) (a0 : Option Nat) (a1 : Int32) (a2 : Int32) (μ : Mem) : Option (Int32 × Mem) :=
  (mfR μ a0 11 3).bind fun v1 =>
  (mck μ v1 2).bind fun b3 =>
  (f_X2_userAt N (some b3) a1 μ).bind fun q2 =>
  if q2.1 = none then
    f_X11_set_20 N q2.2
  else
    (f_X11_isWord N a2 q2.2).bind fun q4 =>
    if ¬ q4.1 = 0 then
      (mpI q4.2 q2.1 10 13 a2).bind fun μ5 =>
      retZ 1 μ5
    else
      f_X11_set_20 N q4.2
set_option maxRecDepth 100000 in
set_option maxHeartbeats 4000000 in
theorem p_X11_set_20 {x : CX} {l : Launch} {g : CG} {rv : Int32} {μ0 μ9 : Mem} (C : Cx x l g mi_X11_set) (F : Prom x g mi_X11_set μ0 (some (aI rv)) μ9) {N : Nat} {μ : Mem} (h : f_X11_set_20 N μ = some (rv, μ9)) : V x g 4 0 0 μ 20 [] [] := by
  unfold f_X11_set_20 at h
  refine v_iconst (v := 0) C dX11_set_20 rfl ?_
  exact v_zret C F ⟨rfl, rfl, Nat.le_refl _⟩ dX11_set_21 h
set_option maxRecDepth 100000 in
set_option maxHeartbeats 4000000 in
theorem p_X11_set {x : CX} {l : Launch} {g : CG} {rv : Int32} {μ0 μ9 : Mem} (C : Cx x l g mi_X11_set) (F : Prom x g mi_X11_set μ0 (some (aI rv)) μ9) {N : Nat} {a0 : Option Nat} {a1 : Int32} {a2 : Int32} {μ : Mem} (h : f_X11_set N a0 a1 a2 μ = some (rv, μ9)) : V x g 4 0 0 μ 0 [(0, aR a0), (1, aI a1), (2, aI a2)] [] := by
  unfold f_X11_set at h
  refine v_aload_n C dX11_set_0 rfl ?_
  obtain ⟨v, e, h⟩ := ob h
  refine v_getR C dX11_set_1 gf_X11_33 e ?_
  refine v_iload_n C dX11_set_4 rfl ?_
  obtain ⟨b, e0, h⟩ := ob h
  obtain ⟨q, e, h⟩ := ob h
  refine v_callV (As := [_]) C dX11_set_5 cf_X11_77 (rm_X11_set_X2_userAt) ⟨rfl, rfl⟩ e0 rfl (Nat.le_of_ble_eq_true rfl) (c_X2_userAt _ _ N _ _ _ q.1 q.2 e) ?_
  refine v_astore_n C dX11_set_8 (by decide) ?_
  refine v_aload_n C dX11_set_9 rfl ?_
  refine v_ifnull (tgt := 20) C dX11_set_10 (by decide) (fun c => ?_) (fun c => ?_)
  · replace h := ifT h c
    exact v_sb (p_X11_set_20 C F h) trivial
  · replace h := ifF h c
    refine v_iload_n C dX11_set_13 rfl ?_
    obtain ⟨q, e, h⟩ := ob h
    refine v_callS (As := [_]) C dX11_set_14 cf_X11_89 (rm_X11_set_X11_isWord) ⟨rfl, rfl⟩ rfl (Nat.le_of_ble_eq_true rfl) (c_X11_isWord _ _ N _ _ q.1 q.2 e) ?_
    refine v_if_ne (tgt := 22) C dX11_set_17 (by decide) (fun c => ?_) (fun c => ?_)
    · replace h := ifT h c
      refine v_aload_n C dX11_set_22 rfl ?_
      refine v_iload_n C dX11_set_23 rfl ?_
      obtain ⟨m, e, h⟩ := ob h
      refine v_putI C dX11_set_24 (pf_X11_116 _) e ?_
      refine v_iconst (v := 1) C dX11_set_27 rfl ?_
      exact v_zret C F ⟨rfl, rfl, Nat.le_refl _⟩ dX11_set_28 h
    · replace h := ifF h c
      exact v_sb (p_X11_set_20 C F h) trivial
set_option maxRecDepth 100000 in
set_option maxHeartbeats 4000000 in
theorem c_X11_set (l : Launch) (g : CG) (N : Nat) (a0 : Option Nat) (a1 : Int32) (a2 : Int32) (μ : Mem) (rv : Int32) (μ9 : Mem) (h : f_X11_set N a0 a1 a2 μ = some (rv, μ9)) : Ct l yX11_set mi_X11_set g [aR a0, aI a1, aI a2] μ (some (aI rv)) μ9 := ct_of ⟨by decide, rfl, rfl⟩ (Nat.le_of_ble_eq_true rfl) fun x C F => p_X11_set C F h
def f_X8_put (N : Nat) (a0 : Option Nat) (a1 : Int32) (a2 : Int32) (μ : Mem) : Option (Unit × Mem) :=
  (mfR μ a0 8 1).bind fun v1 =>
  (mbI μ 0 v1 (a1 &&& 4095) a2).bind fun μ2 =>
  (mpZ μ2 a0 8 3 1).bind fun μ3 =>
  some ((), μ3)
set_option maxRecDepth 100000 in
set_option maxHeartbeats 4000000 in
theorem p_X8_put {x : CX} {l : Launch} {g : CG} {rv : Unit} {μ0 μ9 : Mem} (C : Cx x l g mi_X8_put) (F : Prom x g mi_X8_put μ0 none μ9) {N : Nat} {a0 : Option Nat} {a1 : Int32} {a2 : Int32} {μ : Mem} (h : f_X8_put N a0 a1 a2 μ = some (rv, μ9)) : V x g 3 0 0 μ 0 [(0, aR a0), (1, aI a1), (2, aI a2)] [] := by
  unfold f_X8_put at h
  refine v_aload_n C dX8_put_0 rfl ?_
  obtain ⟨v, e, h⟩ := ob h
  refine v_getR C dX8_put_1 gf_X8_9 e ?_
  refine v_iload_n C dX8_put_4 rfl ?_
  refine v_sipush (v := 4095) C dX8_put_5 rfl ?_
  refine v_iand C dX8_put_8 ?_
  refine v_iload_n C dX8_put_9 rfl ?_
  obtain ⟨m, e, h⟩ := ob h
  refine v_iastore C dX8_put_10 e ?_
  refine v_aload_n C dX8_put_11 rfl ?_
  refine v_iconst (v := 1) C dX8_put_12 rfl ?_
  obtain ⟨m, e, h⟩ := ob h
  refine v_putZ C dX8_put_13 (pf_X8_19 _) e ?_
  exact v_vret C F ⟨rfl, rfl, Nat.le_refl _⟩ dX8_put_16 h
set_option maxRecDepth 100000 in
set_option maxHeartbeats 4000000 in
theorem c_X8_put (l : Launch) (g : CG) (N : Nat) (a0 : Option Nat) (a1 : Int32) (a2 : Int32) (μ : Mem) (rv : Unit) (μ9 : Mem) (h : f_X8_put N a0 a1 a2 μ = some (rv, μ9)) : Ct l yX8_put mi_X8_put g [aR a0, aI a1, aI a2] μ none μ9 := ct_of ⟨by decide, rfl, rfl⟩ (Nat.le_of_ble_eq_true rfl) fun x C F => p_X8_put C F h
def f_X10_store_30 (N : Nat) (μ : Mem) : Option (Unit × Mem) :=
  some ((), μ)
def f_X10_store (N : Nat) (a0 : Option Nat) (a1 : Int32) (a2 : Int32) (μ : Mem) : Option (Unit × Mem) :=
  (mfR μ a0 10 19).bind fun v1 =>
  if ¬ v1 = none then
    (mfR μ a0 10 19).bind fun v2 =>
    (mck μ v2 8).bind fun b4 =>
    (f_X8_put N (some b4) a1 a2 μ).bind fun q3 =>
    f_X10_store_30 N q3.2
  else
    (mfR μ a0 10 1).bind fun v5 =>
    (mbI μ 0 v5 (a1 &&& 4095) a2).bind fun μ6 =>
    f_X10_store_30 N μ6
set_option maxRecDepth 100000 in
set_option maxHeartbeats 4000000 in
theorem p_X10_store_30 {x : CX} {l : Launch} {g : CG} {rv : Unit} {μ0 μ9 : Mem} (C : Cx x l g mi_X10_store) (F : Prom x g mi_X10_store μ0 none μ9) {N : Nat} {μ : Mem} (h : f_X10_store_30 N μ = some (rv, μ9)) : V x g 3 0 0 μ 30 [] [] := by
  unfold f_X10_store_30 at h
  exact v_vret C F ⟨rfl, rfl, Nat.le_refl _⟩ dX10_store_30 h
set_option maxRecDepth 100000 in
set_option maxHeartbeats 4000000 in
theorem p_X10_store {x : CX} {l : Launch} {g : CG} {rv : Unit} {μ0 μ9 : Mem} (C : Cx x l g mi_X10_store) (F : Prom x g mi_X10_store μ0 none μ9) {N : Nat} {a0 : Option Nat} {a1 : Int32} {a2 : Int32} {μ : Mem} (h : f_X10_store N a0 a1 a2 μ = some (rv, μ9)) : V x g 3 0 0 μ 0 [(0, aR a0), (1, aI a1), (2, aI a2)] [] := by
  unfold f_X10_store at h
  refine v_aload_n C dX10_store_0 rfl ?_
  obtain ⟨v, e, h⟩ := ob h
  refine v_getR C dX10_store_1 gf_X10_71 e ?_
  refine v_ifnonnull (tgt := 21) C dX10_store_4 (by decide) (fun c => ?_) (fun c => ?_)
  · replace h := ifT h c
    refine v_aload_n C dX10_store_21 rfl ?_
    obtain ⟨v, e, h⟩ := ob h
    refine v_getR C dX10_store_22 gf_X10_71 e ?_
    refine v_iload_n C dX10_store_25 rfl ?_
    refine v_iload_n C dX10_store_26 rfl ?_
    obtain ⟨b, e0, h⟩ := ob h
    obtain ⟨q, e, h⟩ := ob h
    refine v_callV (As := [_, _]) C dX10_store_27 cf_X10_83 (rm_X10_store_X8_put) ⟨rfl, rfl⟩ e0 rfl (Nat.le_of_ble_eq_true rfl) (c_X8_put _ _ N _ _ _ _ q.1 q.2 e) ?_
    exact v_sb (p_X10_store_30 C F h) trivial
  · replace h := ifF h c
    refine v_aload_n C dX10_store_7 rfl ?_
    obtain ⟨v, e, h⟩ := ob h
    refine v_getR C dX10_store_8 gf_X10_9 e ?_
    refine v_iload_n C dX10_store_11 rfl ?_
    refine v_sipush (v := 4095) C dX10_store_12 rfl ?_
    refine v_iand C dX10_store_15 ?_
    refine v_iload_n C dX10_store_16 rfl ?_
    obtain ⟨m, e, h⟩ := ob h
    refine v_iastore C dX10_store_17 e ?_
    refine v_goto (tgt := 30) C dX10_store_18 (by decide) ?_
    exact v_sb (p_X10_store_30 C F h) trivial
set_option maxRecDepth 100000 in
set_option maxHeartbeats 4000000 in
theorem c_X10_store (l : Launch) (g : CG) (N : Nat) (a0 : Option Nat) (a1 : Int32) (a2 : Int32) (μ : Mem) (rv : Unit) (μ9 : Mem) (h : f_X10_store N a0 a1 a2 μ = some (rv, μ9)) : Ct l yX10_store mi_X10_store g [aR a0, aI a1, aI a2] μ none μ9 := ct_of ⟨by decide, rfl, rfl⟩ (Nat.le_of_ble_eq_true rfl) fun x C F => p_X10_store C F h
def f_X11_deposit_41 (N : Nat) (μ : Mem) : Option (Int32 × Mem) :=
  retZ 0 μ
def f_X11_deposit (N : Nat) (a0 : Option Nat) (a1 : Int32) (a2 : Int32) (a3 : Int32) (μ : Mem) : Option (Int32 × Mem) :=
  (mfR μ a0 11 3).bind fun v1 =>
  (mck μ v1 2).bind fun b3 =>
  (f_X2_userAt N (some b3) a1 μ).bind fun q2 =>
  if q2.1 = none then
    f_X11_deposit_41 N q2.2
  else
    (f_X11_isWord N a2 q2.2).bind fun q4 =>
    if q4.1 = 0 then
      f_X11_deposit_41 N q4.2
    else
      (f_X11_isWord N a3 q4.2).bind fun q5 =>
      if q5.1 = 0 then
        f_X11_deposit_41 N q5.2
      else
        (mfR q5.2 a0 11 3).bind fun v6 =>
        (mck q5.2 v6 2).bind fun b8 =>
        (f_X2_mayChange N (some b8) q2.1 q5.2).bind fun q7 =>
        if ¬ q7.1 = 0 then
          (mck q7.2 q2.1 10).bind fun b10 =>
          (f_X10_store N (some b10) a2 a3 q7.2).bind fun q9 =>
          retZ 1 q9.2
        else
          f_X11_deposit_41 N q7.2
set_option maxRecDepth 100000 in
set_option maxHeartbeats 4000000 in
theorem p_X11_deposit_41 {x : CX} {l : Launch} {g : CG} {rv : Int32} {μ0 μ9 : Mem} (C : Cx x l g mi_X11_deposit) (F : Prom x g mi_X11_deposit μ0 (some (aI rv)) μ9) {N : Nat} {μ : Mem} (h : f_X11_deposit_41 N μ = some (rv, μ9)) : V x g 5 0 0 μ 41 [] [] := by
  unfold f_X11_deposit_41 at h
  refine v_iconst (v := 0) C dX11_deposit_41 rfl ?_
  exact v_zret C F ⟨rfl, rfl, Nat.le_refl _⟩ dX11_deposit_42 h
set_option maxRecDepth 100000 in
set_option maxHeartbeats 4000000 in
theorem p_X11_deposit {x : CX} {l : Launch} {g : CG} {rv : Int32} {μ0 μ9 : Mem} (C : Cx x l g mi_X11_deposit) (F : Prom x g mi_X11_deposit μ0 (some (aI rv)) μ9) {N : Nat} {a0 : Option Nat} {a1 : Int32} {a2 : Int32} {a3 : Int32} {μ : Mem} (h : f_X11_deposit N a0 a1 a2 a3 μ = some (rv, μ9)) : V x g 5 0 0 μ 0 [(0, aR a0), (1, aI a1), (2, aI a2), (3, aI a3)] [] := by
  unfold f_X11_deposit at h
  refine v_aload_n C dX11_deposit_0 rfl ?_
  obtain ⟨v, e, h⟩ := ob h
  refine v_getR C dX11_deposit_1 gf_X11_33 e ?_
  refine v_iload_n C dX11_deposit_4 rfl ?_
  obtain ⟨b, e0, h⟩ := ob h
  obtain ⟨q, e, h⟩ := ob h
  refine v_callV (As := [_]) C dX11_deposit_5 cf_X11_77 (rm_X11_deposit_X2_userAt) ⟨rfl, rfl⟩ e0 rfl (Nat.le_of_ble_eq_true rfl) (c_X2_userAt _ _ N _ _ _ q.1 q.2 e) ?_
  refine v_astore C dX11_deposit_8 (by decide) ?_
  refine v_aload C dX11_deposit_10 rfl ?_
  refine v_ifnull (tgt := 41) C dX11_deposit_12 (by decide) (fun c => ?_) (fun c => ?_)
  · replace h := ifT h c
    exact v_sb (p_X11_deposit_41 C F h) trivial
  · replace h := ifF h c
    refine v_iload_n C dX11_deposit_15 rfl ?_
    obtain ⟨q, e, h⟩ := ob h
    refine v_callS (As := [_]) C dX11_deposit_16 cf_X11_89 (rm_X11_deposit_X11_isWord) ⟨rfl, rfl⟩ rfl (Nat.le_of_ble_eq_true rfl) (c_X11_isWord _ _ N _ _ q.1 q.2 e) ?_
    refine v_if_eq (tgt := 41) C dX11_deposit_19 (by decide) (fun c => ?_) (fun c => ?_)
    · replace h := ifT h c
      exact v_sb (p_X11_deposit_41 C F h) trivial
    · replace h := ifF h c
      refine v_iload_n C dX11_deposit_22 rfl ?_
      obtain ⟨q, e, h⟩ := ob h
      refine v_callS (As := [_]) C dX11_deposit_23 cf_X11_89 (rm_X11_deposit_X11_isWord) ⟨rfl, rfl⟩ rfl (Nat.le_of_ble_eq_true rfl) (c_X11_isWord _ _ N _ _ q.1 q.2 e) ?_
      refine v_if_eq (tgt := 41) C dX11_deposit_26 (by decide) (fun c => ?_) (fun c => ?_)
      · replace h := ifT h c
        exact v_sb (p_X11_deposit_41 C F h) trivial
      · replace h := ifF h c
        refine v_aload_n C dX11_deposit_29 rfl ?_
        obtain ⟨v, e, h⟩ := ob h
        refine v_getR C dX11_deposit_30 gf_X11_33 e ?_
        refine v_aload C dX11_deposit_33 rfl ?_
        obtain ⟨b, e0, h⟩ := ob h
        obtain ⟨q, e, h⟩ := ob h
        refine v_callV (As := [_]) C dX11_deposit_35 cf_X11_81 (rm_X11_deposit_X2_mayChange) ⟨rfl, rfl⟩ e0 rfl (Nat.le_of_ble_eq_true rfl) (c_X2_mayChange _ _ N _ _ _ q.1 q.2 e) ?_
        refine v_if_ne (tgt := 43) C dX11_deposit_38 (by decide) (fun c => ?_) (fun c => ?_)
        · replace h := ifT h c
          refine v_aload C dX11_deposit_43 rfl ?_
          refine v_iload_n C dX11_deposit_45 rfl ?_
          refine v_iload_n C dX11_deposit_46 rfl ?_
          obtain ⟨b, e0, h⟩ := ob h
          obtain ⟨q, e, h⟩ := ob h
          refine v_callV (As := [_, _]) C dX11_deposit_47 cf_X11_119 (rm_X11_deposit_X10_store) ⟨rfl, rfl⟩ e0 rfl (Nat.le_of_ble_eq_true rfl) (c_X10_store _ _ N _ _ _ _ q.1 q.2 e) ?_
          refine v_iconst (v := 1) C dX11_deposit_50 rfl ?_
          exact v_zret C F ⟨rfl, rfl, Nat.le_refl _⟩ dX11_deposit_51 h
        · replace h := ifF h c
          exact v_sb (p_X11_deposit_41 C F h) trivial
set_option maxRecDepth 100000 in
set_option maxHeartbeats 4000000 in
theorem c_X11_deposit (l : Launch) (g : CG) (N : Nat) (a0 : Option Nat) (a1 : Int32) (a2 : Int32) (a3 : Int32) (μ : Mem) (rv : Int32) (μ9 : Mem) (h : f_X11_deposit N a0 a1 a2 a3 μ = some (rv, μ9)) : Ct l yX11_deposit mi_X11_deposit g [aR a0, aI a1, aI a2, aI a3] μ (some (aI rv)) μ9 := ct_of ⟨by decide, rfl, rfl⟩ (Nat.le_of_ble_eq_true rfl) fun x C F => p_X11_deposit C F h
def f_X6_isEmpty_12 (N : Nat) (s0 : Int32) (μ : Mem) : Option (Int32 × Mem) :=
  retZ s0 μ
def f_X6_isEmpty (N : Nat) (a0 : Option Nat) (μ : Mem) : Option (Int32 × Mem) :=
  (mfI μ a0 6 2).bind fun v1 =>
  if ¬ v1 = 0 then
    f_X6_isEmpty_12 N 0 μ
  else
    f_X6_isEmpty_12 N 1 μ
set_option maxRecDepth 100000 in
set_option maxHeartbeats 4000000 in
theorem p_X6_isEmpty_12 {x : CX} {l : Launch} {g : CG} {rv : Int32} {μ0 μ9 : Mem} (C : Cx x l g mi_X6_isEmpty) (F : Prom x g mi_X6_isEmpty μ0 (some (aI rv)) μ9) {N : Nat} {s0 : Int32} {μ : Mem} (h : f_X6_isEmpty_12 N s0 μ = some (rv, μ9)) : V x g 1 0 0 μ 12 [] [aI s0] := by
  unfold f_X6_isEmpty_12 at h
  exact v_zret C F ⟨rfl, rfl, Nat.le_refl _⟩ dX6_isEmpty_12 h
set_option maxRecDepth 100000 in
set_option maxHeartbeats 4000000 in
theorem p_X6_isEmpty {x : CX} {l : Launch} {g : CG} {rv : Int32} {μ0 μ9 : Mem} (C : Cx x l g mi_X6_isEmpty) (F : Prom x g mi_X6_isEmpty μ0 (some (aI rv)) μ9) {N : Nat} {a0 : Option Nat} {μ : Mem} (h : f_X6_isEmpty N a0 μ = some (rv, μ9)) : V x g 1 0 0 μ 0 [(0, aR a0)] [] := by
  unfold f_X6_isEmpty at h
  refine v_aload_n C dX6_isEmpty_0 rfl ?_
  obtain ⟨v, e, h⟩ := ob h
  refine v_getI C dX6_isEmpty_1 gf_X6_19 e ?_
  refine v_if_ne (tgt := 11) C dX6_isEmpty_4 (by decide) (fun c => ?_) (fun c => ?_)
  · replace h := ifT h c
    refine v_iconst (v := 0) C dX6_isEmpty_11 rfl ?_
    exact v_sb (p_X6_isEmpty_12 C F h) trivial
  · replace h := ifF h c
    refine v_iconst (v := 1) C dX6_isEmpty_7 rfl ?_
    refine v_goto (tgt := 12) C dX6_isEmpty_8 (by decide) ?_
    exact v_sb (p_X6_isEmpty_12 C F h) trivial
set_option maxRecDepth 100000 in
set_option maxHeartbeats 4000000 in
theorem c_X6_isEmpty (l : Launch) (g : CG) (N : Nat) (a0 : Option Nat) (μ : Mem) (rv : Int32) (μ9 : Mem) (h : f_X6_isEmpty N a0 μ = some (rv, μ9)) : Ct l yX6_isEmpty mi_X6_isEmpty g [aR a0] μ (some (aI rv)) μ9 := ct_of ⟨by decide, rfl, rfl⟩ (Nat.le_of_ble_eq_true rfl) fun x C F => p_X6_isEmpty C F h
def f_X6_head_20 (N : Nat) (s0 : Int32) (μ : Mem) : Option (Int32 × Mem) :=
  some (s0, μ)
def f_X6_head (N : Nat) (a0 : Option Nat) (μ : Mem) : Option (Int32 × Mem) :=
  (mck μ a0 6).bind fun b2 =>
  (f_X6_isEmpty N (some b2) μ).bind fun q1 =>
  if q1.1 = 0 then
    (mfR q1.2 a0 6 0).bind fun v3 =>
    (mfI q1.2 a0 6 1).bind fun v4 =>
    (maI q1.2 0 v3 v4).bind fun v5 =>
    f_X6_head_20 N v5 q1.2
  else
    f_X6_head_20 N ((-1)) q1.2
set_option maxRecDepth 100000 in
set_option maxHeartbeats 4000000 in
theorem p_X6_head_20 {x : CX} {l : Launch} {g : CG} {rv : Int32} {μ0 μ9 : Mem} (C : Cx x l g mi_X6_head) (F : Prom x g mi_X6_head μ0 (some (aI rv)) μ9) {N : Nat} {s0 : Int32} {μ : Mem} (h : f_X6_head_20 N s0 μ = some (rv, μ9)) : V x g 1 0 0 μ 20 [] [aI s0] := by
  unfold f_X6_head_20 at h
  exact v_iret C F ⟨rfl, rfl, Nat.le_refl _⟩ dX6_head_20 h
set_option maxRecDepth 100000 in
set_option maxHeartbeats 4000000 in
theorem p_X6_head {x : CX} {l : Launch} {g : CG} {rv : Int32} {μ0 μ9 : Mem} (C : Cx x l g mi_X6_head) (F : Prom x g mi_X6_head μ0 (some (aI rv)) μ9) {N : Nat} {a0 : Option Nat} {μ : Mem} (h : f_X6_head N a0 μ = some (rv, μ9)) : V x g 1 0 0 μ 0 [(0, aR a0)] [] := by
  unfold f_X6_head at h
  refine v_aload_n C dX6_head_0 rfl ?_
  obtain ⟨b, e0, h⟩ := ob h
  obtain ⟨q, e, h⟩ := ob h
  refine v_callV (As := []) C dX6_head_1 cf_X6_26 (rm_X6_head_X6_isEmpty) ⟨rfl, rfl⟩ e0 rfl (Nat.le_of_ble_eq_true rfl) (c_X6_isEmpty _ _ N _ _ q.1 q.2 e) ?_
  refine v_if_eq (tgt := 11) C dX6_head_4 (by decide) (fun c => ?_) (fun c => ?_)
  · replace h := ifT h c
    refine v_aload_n C dX6_head_11 rfl ?_
    obtain ⟨v, e, h⟩ := ob h
    refine v_getR C dX6_head_12 gf_X6_9 e ?_
    refine v_aload_n C dX6_head_15 rfl ?_
    obtain ⟨v, e, h⟩ := ob h
    refine v_getI C dX6_head_16 gf_X6_15 e ?_
    obtain ⟨v, e, h⟩ := ob h
    refine v_iaload C dX6_head_19 e ?_
    exact v_sb (p_X6_head_20 C F h) trivial
  · replace h := ifF h c
    refine v_iconst (v := -1) C dX6_head_7 rfl ?_
    refine v_goto (tgt := 20) C dX6_head_8 (by decide) ?_
    exact v_sb (p_X6_head_20 C F h) trivial
set_option maxRecDepth 100000 in
set_option maxHeartbeats 4000000 in
theorem c_X6_head (l : Launch) (g : CG) (N : Nat) (a0 : Option Nat) (μ : Mem) (rv : Int32) (μ9 : Mem) (h : f_X6_head N a0 μ = some (rv, μ9)) : Ct l yX6_head mi_X6_head g [aR a0] μ (some (aI rv)) μ9 := ct_of ⟨by decide, rfl, rfl⟩ (Nat.le_of_ble_eq_true rfl) fun x C F => p_X6_head C F h
def f_X6_drop (N : Nat) (a0 : Option Nat) (μ : Mem) : Option (Unit × Mem) :=
  (mck μ a0 6).bind fun b2 =>
  (f_X6_isEmpty N (some b2) μ).bind fun q1 =>
  if q1.1 = 0 then
    (mfI q1.2 a0 6 1).bind fun v3 =>
    if (16 : Int32) = 0 then none else
    (mpI q1.2 a0 6 1 ((v3 + 1) - (v3 + 1) / 16 * 16)).bind fun μ4 =>
    (mfI μ4 a0 6 2).bind fun v5 =>
    (mpI μ4 a0 6 2 (v5 - 1)).bind fun μ6 =>
    some ((), μ6)
  else
    some ((), q1.2)
set_option maxRecDepth 100000 in
set_option maxHeartbeats 4000000 in
theorem p_X6_drop {x : CX} {l : Launch} {g : CG} {rv : Unit} {μ0 μ9 : Mem} (C : Cx x l g mi_X6_drop) (F : Prom x g mi_X6_drop μ0 none μ9) {N : Nat} {a0 : Option Nat} {μ : Mem} (h : f_X6_drop N a0 μ = some (rv, μ9)) : V x g 1 0 0 μ 0 [(0, aR a0)] [] := by
  unfold f_X6_drop at h
  refine v_aload_n C dX6_drop_0 rfl ?_
  obtain ⟨b, e0, h⟩ := ob h
  obtain ⟨q, e, h⟩ := ob h
  refine v_callV (As := []) C dX6_drop_1 cf_X6_26 (rm_X6_drop_X6_isEmpty) ⟨rfl, rfl⟩ e0 rfl (Nat.le_of_ble_eq_true rfl) (c_X6_isEmpty _ _ N _ _ q.1 q.2 e) ?_
  refine v_if_eq (tgt := 8) C dX6_drop_4 (by decide) (fun c => ?_) (fun c => ?_)
  · replace h := ifT h c
    refine v_aload_n C dX6_drop_8 rfl ?_
    refine v_aload_n C dX6_drop_9 rfl ?_
    obtain ⟨v, e, h⟩ := ob h
    refine v_getI C dX6_drop_10 gf_X6_15 e ?_
    refine v_iconst (v := 1) C dX6_drop_13 rfl ?_
    refine v_iadd C dX6_drop_14 ?_
    refine v_bipush (v := 16) C dX6_drop_15 rfl ?_
    obtain ⟨c0, h⟩ := oz h
    refine v_irem C dX6_drop_17 c0 ?_
    obtain ⟨m, e, h⟩ := ob h
    refine v_putI C dX6_drop_18 (pf_X6_15 _) e ?_
    refine v_aload_n C dX6_drop_21 rfl ?_
    refine v_dup C dX6_drop_22 rfl ?_
    obtain ⟨v, e, h⟩ := ob h
    refine v_getI C dX6_drop_23 gf_X6_19 e ?_
    refine v_iconst (v := 1) C dX6_drop_26 rfl ?_
    refine v_isub C dX6_drop_27 ?_
    obtain ⟨m, e, h⟩ := ob h
    refine v_putI C dX6_drop_28 (pf_X6_19 _) e ?_
    exact v_vret C F ⟨rfl, rfl, Nat.le_refl _⟩ dX6_drop_31 h
  · replace h := ifF h c
    exact v_vret C F ⟨rfl, rfl, Nat.le_refl _⟩ dX6_drop_7 h
set_option maxRecDepth 100000 in
set_option maxHeartbeats 4000000 in
theorem c_X6_drop (l : Launch) (g : CG) (N : Nat) (a0 : Option Nat) (μ : Mem) (rv : Unit) (μ9 : Mem) (h : f_X6_drop N a0 μ = some (rv, μ9)) : Ct l yX6_drop mi_X6_drop g [aR a0] μ none μ9 := ct_of ⟨by decide, rfl, rfl⟩ (Nat.le_of_ble_eq_true rfl) fun x C F => p_X6_drop C F h
def f_X10_print_26 (N : Nat) (a0 : Option Nat) (μ : Mem) : Option (Unit × Mem) :=
  (mfI μ a0 10 6).bind fun v1 =>
  (mpI μ a0 10 6 (v1 + 1)).bind fun μ2 =>
  (mfR μ2 a0 10 5).bind fun v3 =>
  (mck μ2 v3 6).bind fun b5 =>
  (f_X6_drop N (some b5) μ2).bind fun q4 =>
  some ((), q4.2)
def f_X10_print (N : Nat) (a0 : Option Nat) (μ : Mem) : Option (Unit × Mem) :=
  (mfI μ a0 10 6).bind fun v1 =>
  if (500 : Int32) ≤ v1 then
    f_X10_print_26 N a0 μ
  else
    (mfR μ a0 10 3).bind fun v2 =>
    (mfI μ a0 10 6).bind fun v3 =>
    (mfR μ a0 10 5).bind fun v4 =>
    (mck μ v4 6).bind fun b6 =>
    (f_X6_head N (some b6) μ).bind fun q5 =>
    (mbI q5.2 0 v2 v3 q5.1).bind fun μ7 =>
    f_X10_print_26 N a0 μ7
set_option maxRecDepth 100000 in
set_option maxHeartbeats 4000000 in
theorem p_X10_print_26 {x : CX} {l : Launch} {g : CG} {rv : Unit} {μ0 μ9 : Mem} (C : Cx x l g mi_X10_print) (F : Prom x g mi_X10_print μ0 none μ9) {N : Nat} {a0 : Option Nat} {μ : Mem} (h : f_X10_print_26 N a0 μ = some (rv, μ9)) : V x g 1 0 0 μ 26 [(0, aR a0)] [] := by
  unfold f_X10_print_26 at h
  refine v_aload_n C dX10_print_26 rfl ?_
  refine v_dup C dX10_print_27 rfl ?_
  obtain ⟨v, e, h⟩ := ob h
  refine v_getI C dX10_print_28 gf_X10_31 e ?_
  refine v_iconst (v := 1) C dX10_print_31 rfl ?_
  refine v_iadd C dX10_print_32 ?_
  obtain ⟨m, e, h⟩ := ob h
  refine v_putI C dX10_print_33 (pf_X10_31 _) e ?_
  refine v_aload_n C dX10_print_36 rfl ?_
  obtain ⟨v, e, h⟩ := ob h
  refine v_getR C dX10_print_37 gf_X10_28 e ?_
  obtain ⟨b, e0, h⟩ := ob h
  obtain ⟨q, e, h⟩ := ob h
  refine v_callV (As := []) C dX10_print_40 cf_X10_91 (rm_X10_print_X6_drop) ⟨rfl, rfl⟩ e0 rfl (Nat.le_of_ble_eq_true rfl) (c_X6_drop _ _ N _ _ q.1 q.2 e) ?_
  exact v_vret C F ⟨rfl, rfl, Nat.le_refl _⟩ dX10_print_43 h
set_option maxRecDepth 100000 in
set_option maxHeartbeats 4000000 in
theorem p_X10_print {x : CX} {l : Launch} {g : CG} {rv : Unit} {μ0 μ9 : Mem} (C : Cx x l g mi_X10_print) (F : Prom x g mi_X10_print μ0 none μ9) {N : Nat} {a0 : Option Nat} {μ : Mem} (h : f_X10_print N a0 μ = some (rv, μ9)) : V x g 1 0 0 μ 0 [(0, aR a0)] [] := by
  unfold f_X10_print at h
  refine v_aload_n C dX10_print_0 rfl ?_
  obtain ⟨v, e, h⟩ := ob h
  refine v_getI C dX10_print_1 gf_X10_31 e ?_
  refine v_sipush (v := 500) C dX10_print_4 rfl ?_
  refine v_icmp_ge (tgt := 26) C dX10_print_7 (by decide) (fun c => ?_) (fun c => ?_)
  · replace h := ifT h c
    exact v_sb (p_X10_print_26 C F h) ⟨rfl, trivial⟩
  · replace h := ifF h c
    refine v_aload_n C dX10_print_10 rfl ?_
    obtain ⟨v, e, h⟩ := ob h
    refine v_getR C dX10_print_11 gf_X10_18 e ?_
    refine v_aload_n C dX10_print_14 rfl ?_
    obtain ⟨v, e, h⟩ := ob h
    refine v_getI C dX10_print_15 gf_X10_31 e ?_
    refine v_aload_n C dX10_print_18 rfl ?_
    obtain ⟨v, e, h⟩ := ob h
    refine v_getR C dX10_print_19 gf_X10_28 e ?_
    obtain ⟨b, e0, h⟩ := ob h
    obtain ⟨q, e, h⟩ := ob h
    refine v_callV (As := []) C dX10_print_22 cf_X10_87 (rm_X10_print_X6_head) ⟨rfl, rfl⟩ e0 rfl (Nat.le_of_ble_eq_true rfl) (c_X6_head _ _ N _ _ q.1 q.2 e) ?_
    obtain ⟨m, e, h⟩ := ob h
    refine v_iastore C dX10_print_25 e ?_
    exact v_sb (p_X10_print_26 C F h) ⟨rfl, trivial⟩
set_option maxRecDepth 100000 in
set_option maxHeartbeats 4000000 in
theorem c_X10_print (l : Launch) (g : CG) (N : Nat) (a0 : Option Nat) (μ : Mem) (rv : Unit) (μ9 : Mem) (h : f_X10_print N a0 μ = some (rv, μ9)) : Ct l yX10_print mi_X10_print g [aR a0] μ none μ9 := ct_of ⟨by decide, rfl, rfl⟩ (Nat.le_of_ble_eq_true rfl) fun x C F => p_X10_print C F h
def f_X2_attend_45 (N : Nat) (μ : Mem) : Option (Unit × Mem) :=
  some ((), μ)
def f_X2_attend_76 (N : Nat) (μ : Mem) : Option (Unit × Mem) :=
  some ((), μ)
def f_X2_attend_24 (N : Nat) (a0 : Option Nat) (a1 : Option Nat) (μ : Mem) : Option (Unit × Mem) :=
  (mfR μ a1 10 5).bind fun v1 =>
  (mck μ v1 6).bind fun b3 =>
  (f_X6_isEmpty N (some b3) μ).bind fun q2 =>
  if ¬ q2.1 = 0 then
    f_X2_attend_45 N q2.2
  else
    (mfI q2.2 a0 2 7).bind fun v4 =>
    (mfI q2.2 a1 10 7).bind fun v5 =>
    if v5 ≤ v4 then
      (mck q2.2 a1 10).bind fun b7 =>
      (f_X10_print N (some b7) q2.2).bind fun q6 =>
      (mfI q6.2 a0 2 7).bind fun v8 =>
      (mfI q6.2 a0 2 6).bind fun v9 =>
      (mpI q6.2 a1 10 7 (v8 + v9)).bind fun μ10 =>
      (mfI μ10 a1 10 8).bind fun v11 =>
      if ¬ v11 = (3 : Int32) then
        f_X2_attend_76 N μ10
      else
        (mck μ10 a0 2).bind fun b13 =>
        (f_X2_makeReady N (some b13) a1 μ10).bind fun q12 =>
        f_X2_attend_76 N q12.2
    else
      f_X2_attend_45 N q2.2
def f_X2_attend (N : Nat) (a0 : Option Nat) (a1 : Option Nat) (μ : Mem) : Option (Unit × Mem) :=
  (mfI μ a1 10 8).bind fun v1 =>
  if ¬ v1 = (4 : Int32) then
    f_X2_attend_24 N a0 a1 μ
  else
    (mfI μ a0 2 7).bind fun v2 =>
    (mfI μ a1 10 16).bind fun v3 =>
    if v2 < v3 then
      f_X2_attend_24 N a0 a1 μ
    else
      (mck μ a0 2).bind fun b5 =>
      (f_X2_makeReady N (some b5) a1 μ).bind fun q4 =>
      f_X2_attend_24 N a0 a1 q4.2
set_option maxRecDepth 100000 in
set_option maxHeartbeats 4000000 in
theorem p_X2_attend_45 {x : CX} {l : Launch} {g : CG} {rv : Unit} {μ0 μ9 : Mem} (C : Cx x l g mi_X2_attend) (F : Prom x g mi_X2_attend μ0 none μ9) {N : Nat} {μ : Mem} (h : f_X2_attend_45 N μ = some (rv, μ9)) : V x g 2 0 0 μ 45 [] [] := by
  unfold f_X2_attend_45 at h
  exact v_vret C F ⟨rfl, rfl, Nat.le_refl _⟩ dX2_attend_45 h
set_option maxRecDepth 100000 in
set_option maxHeartbeats 4000000 in
theorem p_X2_attend_76 {x : CX} {l : Launch} {g : CG} {rv : Unit} {μ0 μ9 : Mem} (C : Cx x l g mi_X2_attend) (F : Prom x g mi_X2_attend μ0 none μ9) {N : Nat} {μ : Mem} (h : f_X2_attend_76 N μ = some (rv, μ9)) : V x g 2 0 0 μ 76 [] [] := by
  unfold f_X2_attend_76 at h
  exact v_vret C F ⟨rfl, rfl, Nat.le_refl _⟩ dX2_attend_76 h
set_option maxRecDepth 100000 in
set_option maxHeartbeats 4000000 in
theorem p_X2_attend_24 {x : CX} {l : Launch} {g : CG} {rv : Unit} {μ0 μ9 : Mem} (C : Cx x l g mi_X2_attend) (F : Prom x g mi_X2_attend μ0 none μ9) {N : Nat} {a0 : Option Nat} {a1 : Option Nat} {μ : Mem} (h : f_X2_attend_24 N a0 a1 μ = some (rv, μ9)) : V x g 2 0 0 μ 24 [(0, aR a0), (1, aR a1)] [] := by
  unfold f_X2_attend_24 at h
  refine v_aload_n C dX2_attend_24 rfl ?_
  obtain ⟨v, e, h⟩ := ob h
  refine v_getR C dX2_attend_25 gf_X2_135 e ?_
  obtain ⟨b, e0, h⟩ := ob h
  obtain ⟨q, e, h⟩ := ob h
  refine v_callV (As := []) C dX2_attend_28 cf_X2_167 (rm_X2_attend_X6_isEmpty) ⟨rfl, rfl⟩ e0 rfl (Nat.le_of_ble_eq_true rfl) (c_X6_isEmpty _ _ N _ _ q.1 q.2 e) ?_
  refine v_if_ne (tgt := 45) C dX2_attend_31 (by decide) (fun c => ?_) (fun c => ?_)
  · replace h := ifT h c
    exact v_sb (p_X2_attend_45 C F h) trivial
  · replace h := ifF h c
    refine v_aload_n C dX2_attend_34 rfl ?_
    obtain ⟨v, e, h⟩ := ob h
    refine v_getI C dX2_attend_35 gf_X2_25 e ?_
    refine v_aload_n C dX2_attend_38 rfl ?_
    obtain ⟨v, e, h⟩ := ob h
    refine v_getI C dX2_attend_39 gf_X2_170 e ?_
    refine v_icmp_ge (tgt := 46) C dX2_attend_42 (by decide) (fun c => ?_) (fun c => ?_)
    · replace h := ifT h c
      refine v_aload_n C dX2_attend_46 rfl ?_
      obtain ⟨b, e0, h⟩ := ob h
      obtain ⟨q, e, h⟩ := ob h
      refine v_callV (As := []) C dX2_attend_47 cf_X2_173 (rm_X2_attend_X10_print) ⟨rfl, rfl⟩ e0 rfl (Nat.le_of_ble_eq_true rfl) (c_X10_print _ _ N _ _ q.1 q.2 e) ?_
      refine v_aload_n C dX2_attend_50 rfl ?_
      refine v_aload_n C dX2_attend_51 rfl ?_
      obtain ⟨v, e, h⟩ := ob h
      refine v_getI C dX2_attend_52 gf_X2_25 e ?_
      refine v_aload_n C dX2_attend_55 rfl ?_
      obtain ⟨v, e, h⟩ := ob h
      refine v_getI C dX2_attend_56 gf_X2_74 e ?_
      refine v_iadd C dX2_attend_59 ?_
      obtain ⟨m, e, h⟩ := ob h
      refine v_putI C dX2_attend_60 (pf_X2_170 _) e ?_
      refine v_aload_n C dX2_attend_63 rfl ?_
      obtain ⟨v, e, h⟩ := ob h
      refine v_getI C dX2_attend_64 gf_X2_77 e ?_
      refine v_iconst (v := 3) C dX2_attend_67 rfl ?_
      refine v_icmp_ne (tgt := 76) C dX2_attend_68 (by decide) (fun c => ?_) (fun c => ?_)
      · replace h := ifT h c
        exact v_sb (p_X2_attend_76 C F h) trivial
      · replace h := ifF h c
        refine v_aload_n C dX2_attend_71 rfl ?_
        refine v_aload_n C dX2_attend_72 rfl ?_
        obtain ⟨b, e0, h⟩ := ob h
        obtain ⟨q, e, h⟩ := ob h
        refine v_callV (As := [_]) C dX2_attend_73 cf_X2_132 (rm_X2_attend_X2_makeReady) ⟨rfl, rfl⟩ e0 rfl (Nat.le_of_ble_eq_true rfl) (c_X2_makeReady _ _ N _ _ _ q.1 q.2 e) ?_
        exact v_sb (p_X2_attend_76 C F h) trivial
    · replace h := ifF h c
      exact v_sb (p_X2_attend_45 C F h) trivial
set_option maxRecDepth 100000 in
set_option maxHeartbeats 4000000 in
theorem p_X2_attend {x : CX} {l : Launch} {g : CG} {rv : Unit} {μ0 μ9 : Mem} (C : Cx x l g mi_X2_attend) (F : Prom x g mi_X2_attend μ0 none μ9) {N : Nat} {a0 : Option Nat} {a1 : Option Nat} {μ : Mem} (h : f_X2_attend N a0 a1 μ = some (rv, μ9)) : V x g 2 0 0 μ 0 [(0, aR a0), (1, aR a1)] [] := by
  unfold f_X2_attend at h
  refine v_aload_n C dX2_attend_0 rfl ?_
  obtain ⟨v, e, h⟩ := ob h
  refine v_getI C dX2_attend_1 gf_X2_77 e ?_
  refine v_iconst (v := 4) C dX2_attend_4 rfl ?_
  refine v_icmp_ne (tgt := 24) C dX2_attend_5 (by decide) (fun c => ?_) (fun c => ?_)
  · replace h := ifT h c
    exact v_sb (p_X2_attend_24 C F h) ⟨rfl, rfl, trivial⟩
  · replace h := ifF h c
    refine v_aload_n C dX2_attend_8 rfl ?_
    obtain ⟨v, e, h⟩ := ob h
    refine v_getI C dX2_attend_9 gf_X2_25 e ?_
    refine v_aload_n C dX2_attend_12 rfl ?_
    obtain ⟨v, e, h⟩ := ob h
    refine v_getI C dX2_attend_13 gf_X2_164 e ?_
    refine v_icmp_lt (tgt := 24) C dX2_attend_16 (by decide) (fun c => ?_) (fun c => ?_)
    · replace h := ifT h c
      exact v_sb (p_X2_attend_24 C F h) ⟨rfl, rfl, trivial⟩
    · replace h := ifF h c
      refine v_aload_n C dX2_attend_19 rfl ?_
      refine v_aload_n C dX2_attend_20 rfl ?_
      obtain ⟨b, e0, h⟩ := ob h
      obtain ⟨q, e, h⟩ := ob h
      refine v_callV (As := [_]) C dX2_attend_21 cf_X2_132 (rm_X2_attend_X2_makeReady) ⟨rfl, rfl⟩ e0 rfl (Nat.le_of_ble_eq_true rfl) (c_X2_makeReady _ _ N _ _ _ q.1 q.2 e) ?_
      exact v_sb (p_X2_attend_24 C F h) ⟨rfl, rfl, trivial⟩
set_option maxRecDepth 100000 in
set_option maxHeartbeats 4000000 in
theorem c_X2_attend (l : Launch) (g : CG) (N : Nat) (a0 : Option Nat) (a1 : Option Nat) (μ : Mem) (rv : Unit) (μ9 : Mem) (h : f_X2_attend N a0 a1 μ = some (rv, μ9)) : Ct l yX2_attend mi_X2_attend g [aR a0, aR a1] μ none μ9 := ct_of ⟨by decide, rfl, rfl⟩ (Nat.le_of_ble_eq_true rfl) fun x C F => p_X2_attend C F h
def f_X1_isIdle_12 (N : Nat) (s0 : Int32) (μ : Mem) : Option (Int32 × Mem) :=
  retZ s0 μ
def f_X1_isIdle (N : Nat) (a0 : Option Nat) (μ : Mem) : Option (Int32 × Mem) :=
  (mfI μ a0 1 0).bind fun v1 =>
  if ¬ v1 = 0 then
    f_X1_isIdle_12 N 0 μ
  else
    f_X1_isIdle_12 N 1 μ
set_option maxRecDepth 100000 in
set_option maxHeartbeats 4000000 in
theorem p_X1_isIdle_12 {x : CX} {l : Launch} {g : CG} {rv : Int32} {μ0 μ9 : Mem} (C : Cx x l g mi_X1_isIdle) (F : Prom x g mi_X1_isIdle μ0 (some (aI rv)) μ9) {N : Nat} {s0 : Int32} {μ : Mem} (h : f_X1_isIdle_12 N s0 μ = some (rv, μ9)) : V x g 1 0 0 μ 12 [] [aI s0] := by
  unfold f_X1_isIdle_12 at h
  exact v_zret C F ⟨rfl, rfl, Nat.le_refl _⟩ dX1_isIdle_12 h
set_option maxRecDepth 100000 in
set_option maxHeartbeats 4000000 in
theorem p_X1_isIdle {x : CX} {l : Launch} {g : CG} {rv : Int32} {μ0 μ9 : Mem} (C : Cx x l g mi_X1_isIdle) (F : Prom x g mi_X1_isIdle μ0 (some (aI rv)) μ9) {N : Nat} {a0 : Option Nat} {μ : Mem} (h : f_X1_isIdle N a0 μ = some (rv, μ9)) : V x g 1 0 0 μ 0 [(0, aR a0)] [] := by
  unfold f_X1_isIdle at h
  refine v_aload_n C dX1_isIdle_0 rfl ?_
  obtain ⟨v, e, h⟩ := ob h
  refine v_getI C dX1_isIdle_1 gf_X1_9 e ?_
  refine v_if_ne (tgt := 11) C dX1_isIdle_4 (by decide) (fun c => ?_) (fun c => ?_)
  · replace h := ifT h c
    refine v_iconst (v := 0) C dX1_isIdle_11 rfl ?_
    exact v_sb (p_X1_isIdle_12 C F h) trivial
  · replace h := ifF h c
    refine v_iconst (v := 1) C dX1_isIdle_7 rfl ?_
    refine v_goto (tgt := 12) C dX1_isIdle_8 (by decide) ?_
    exact v_sb (p_X1_isIdle_12 C F h) trivial
set_option maxRecDepth 100000 in
set_option maxHeartbeats 4000000 in
theorem c_X1_isIdle (l : Launch) (g : CG) (N : Nat) (a0 : Option Nat) (μ : Mem) (rv : Int32) (μ9 : Mem) (h : f_X1_isIdle N a0 μ = some (rv, μ9)) : Ct l yX1_isIdle mi_X1_isIdle g [aR a0] μ (some (aI rv)) μ9 := ct_of ⟨by decide, rfl, rfl⟩ (Nat.le_of_ble_eq_true rfl) fun x C F => p_X1_isIdle C F h
def f_X1_copyStep_35 (N : Nat) (μ : Mem) : Option (Unit × Mem) :=
  some ((), μ)
def f_X1_copyStep (N : Nat) (a0 : Option Nat) (a1 : Option Nat) (a2 : Option Nat) (μ : Mem) : Option (Unit × Mem) :=
  (mfI μ a0 1 3).bind fun v1 =>
  if v1 < 0 then
    f_X1_copyStep_35 N μ
  else
    (mfI μ a0 1 3).bind fun v2 =>
    if (4096 : Int32) < (v2 + 16) then
      f_X1_copyStep_35 N μ
    else
      (mfI μ a0 1 3).bind fun v3 =>
      (mfI μ a0 1 3).bind fun v4 =>
      (mcpy μ a1 v3 a2 v4 16).bind fun μ5 =>
      f_X1_copyStep_35 N μ5
set_option maxRecDepth 100000 in
set_option maxHeartbeats 4000000 in
theorem p_X1_copyStep_35 {x : CX} {l : Launch} {g : CG} {rv : Unit} {μ0 μ9 : Mem} (C : Cx x l g mi_X1_copyStep) (F : Prom x g mi_X1_copyStep μ0 none μ9) {N : Nat} {μ : Mem} (h : f_X1_copyStep_35 N μ = some (rv, μ9)) : V x g 3 0 0 μ 35 [] [] := by
  unfold f_X1_copyStep_35 at h
  exact v_vret C F ⟨rfl, rfl, Nat.le_refl _⟩ dX1_copyStep_35 h
set_option maxRecDepth 100000 in
set_option maxHeartbeats 4000000 in
theorem p_X1_copyStep {x : CX} {l : Launch} {g : CG} {rv : Unit} {μ0 μ9 : Mem} (C : Cx x l g mi_X1_copyStep) (F : Prom x g mi_X1_copyStep μ0 none μ9) {N : Nat} {a0 : Option Nat} {a1 : Option Nat} {a2 : Option Nat} {μ : Mem} (h : f_X1_copyStep N a0 a1 a2 μ = some (rv, μ9)) : V x g 3 0 0 μ 0 [(0, aR a0), (1, aR a1), (2, aR a2)] [] := by
  unfold f_X1_copyStep at h
  refine v_aload_n C dX1_copyStep_0 rfl ?_
  obtain ⟨v, e, h⟩ := ob h
  refine v_getI C dX1_copyStep_1 gf_X1_23 e ?_
  refine v_if_lt (tgt := 35) C dX1_copyStep_4 (by decide) (fun c => ?_) (fun c => ?_)
  · replace h := ifT h c
    exact v_sb (p_X1_copyStep_35 C F h) trivial
  · replace h := ifF h c
    refine v_aload_n C dX1_copyStep_7 rfl ?_
    obtain ⟨v, e, h⟩ := ob h
    refine v_getI C dX1_copyStep_8 gf_X1_23 e ?_
    refine v_bipush (v := 16) C dX1_copyStep_11 rfl ?_
    refine v_iadd C dX1_copyStep_13 ?_
    refine v_sipush (v := 4096) C dX1_copyStep_14 rfl ?_
    refine v_icmp_gt (tgt := 35) C dX1_copyStep_17 (by decide) (fun c => ?_) (fun c => ?_)
    · replace h := ifT h c
      exact v_sb (p_X1_copyStep_35 C F h) trivial
    · replace h := ifF h c
      refine v_aload_n C dX1_copyStep_20 rfl ?_
      refine v_aload_n C dX1_copyStep_21 rfl ?_
      obtain ⟨v, e, h⟩ := ob h
      refine v_getI C dX1_copyStep_22 gf_X1_23 e ?_
      refine v_aload_n C dX1_copyStep_25 rfl ?_
      refine v_aload_n C dX1_copyStep_26 rfl ?_
      obtain ⟨v, e, h⟩ := ob h
      refine v_getI C dX1_copyStep_27 gf_X1_23 e ?_
      refine v_bipush (v := 16) C dX1_copyStep_30 rfl ?_
      obtain ⟨m, e, h⟩ := ob h
      refine v_acopy C dX1_copyStep_32 ac_X1_62 rfl ⟨Nat.le_of_ble_eq_true rfl, Nat.le_of_ble_eq_true rfl⟩ e ?_
      exact v_sb (p_X1_copyStep_35 C F h) trivial
set_option maxRecDepth 100000 in
set_option maxHeartbeats 4000000 in
theorem c_X1_copyStep (l : Launch) (g : CG) (N : Nat) (a0 : Option Nat) (a1 : Option Nat) (a2 : Option Nat) (μ : Mem) (rv : Unit) (μ9 : Mem) (h : f_X1_copyStep N a0 a1 a2 μ = some (rv, μ9)) : Ct l yX1_copyStep mi_X1_copyStep g [aR a0, aR a1, aR a2] μ none μ9 := ct_of ⟨by decide, rfl, rfl⟩ (Nat.le_of_ble_eq_true rfl) fun x C F => p_X1_copyStep C F h
def f_X1_moveBlockStep_99 (N : Nat) (μ : Mem) : Option (Unit × Mem) :=
  some ((), μ)
def f_X1_moveBlockStep_93 (N : Nat) (k18 : (Option Nat) → (Option Nat) → (Option Nat) → Int32 → Int32 → Mem → Option (Unit × Mem)) (a0 : Option Nat) (a1 : Option Nat) (a2 : Option Nat) (a3 : Int32) (a4 : Int32) (μ : Mem) : Option (Unit × Mem) :=
  k18 a0 a1 a2 a3 (a4 + 1) μ
def H_X1_moveBlockStep_18 (N : Nat) (k18 : (Option Nat) → (Option Nat) → (Option Nat) → Int32 → Int32 → Mem → Option (Unit × Mem)) (a0 : Option Nat) (a1 : Option Nat) (a2 : Option Nat) (a3 : Int32) (a4 : Int32) (μ : Mem) : Option (Unit × Mem) :=
  (mfI μ a0 1 3).bind fun v1 =>
  if (v1 + 16) ≤ a4 then
    f_X1_moveBlockStep_99 N μ
  else
    if (128 : Int32) ≤ a4 then
      f_X1_moveBlockStep_99 N μ
    else
      (mfI μ a1 10 12).bind fun v2 =>
      (mfI μ a0 1 0).bind fun v3 =>
      if ¬ v3 = (3 : Int32) then
        (mfR μ a1 10 2).bind fun v4 =>
        (mfR μ a2 8 1).bind fun v5 =>
        (maI μ 0 v5 ((v2 + a4) &&& 4095)).bind fun v6 =>
        (mbI μ 0 v4 (a3 + a4) v6).bind fun μ7 =>
        f_X1_moveBlockStep_93 N k18 a0 a1 a2 a3 a4 μ7
      else
        (mfR μ a1 10 2).bind fun v8 =>
        (maI μ 0 v8 (a3 + a4)).bind fun v9 =>
        (mck μ a2 8).bind fun b11 =>
        (f_X8_put N (some b11) ((v2 + a4) &&& 4095) v9 μ).bind fun q10 =>
        f_X1_moveBlockStep_93 N k18 a0 a1 a2 a3 a4 q10.2
def L_X1_moveBlockStep_18 (N : Nat) : Nat → (Option Nat) → (Option Nat) → (Option Nat) → Int32 → Int32 → Mem → Option (Unit × Mem)
  | 0 => fun _ _ _ _ _ _ => none
  | n + 1 => H_X1_moveBlockStep_18 N (L_X1_moveBlockStep_18 N n)
def f_X1_moveBlockStep (N : Nat) (a0 : Option Nat) (a1 : Option Nat) (a2 : Option Nat) (μ : Mem) : Option (Unit × Mem) :=
  (mfI μ a1 10 10).bind fun v1 =>
  (mfI μ a0 1 3).bind fun v2 =>
  L_X1_moveBlockStep_18 N N a0 a1 a2 ((v1 &&& 7) * 128) v2 μ
set_option maxRecDepth 100000 in
set_option maxHeartbeats 4000000 in
theorem p_X1_moveBlockStep_99 {x : CX} {l : Launch} {g : CG} {rv : Unit} {μ0 μ9 : Mem} (C : Cx x l g mi_X1_moveBlockStep) (F : Prom x g mi_X1_moveBlockStep μ0 none μ9) {N : Nat} {μ : Mem} (h : f_X1_moveBlockStep_99 N μ = some (rv, μ9)) : V x g 6 0 0 μ 99 [] [] := by
  unfold f_X1_moveBlockStep_99 at h
  exact v_vret C F ⟨rfl, rfl, Nat.le_refl _⟩ dX1_moveBlockStep_99 h
set_option maxRecDepth 100000 in
set_option maxHeartbeats 4000000 in
theorem p_X1_moveBlockStep_93 {x : CX} {l : Launch} {g : CG} {rv : Unit} {μ0 μ9 : Mem} (C : Cx x l g mi_X1_moveBlockStep) (F : Prom x g mi_X1_moveBlockStep μ0 none μ9) {N : Nat} {k18 : (Option Nat) → (Option Nat) → (Option Nat) → Int32 → Int32 → Mem → Option (Unit × Mem)} (hk18 : ∀ (a0 : Option Nat) (a1 : Option Nat) (a2 : Option Nat) (a3 : Int32) (a4 : Int32) (μ : Mem), k18 a0 a1 a2 a3 a4 μ = some (rv, μ9) → V x g 6 0 0 μ 18 [(0, aR a0), (1, aR a1), (2, aR a2), (3, aI a3), (4, aI a4)] []) {a0 : Option Nat} {a1 : Option Nat} {a2 : Option Nat} {a3 : Int32} {a4 : Int32} {μ : Mem} (h : f_X1_moveBlockStep_93 N k18 a0 a1 a2 a3 a4 μ = some (rv, μ9)) : V x g 6 0 0 μ 93 [(0, aR a0), (1, aR a1), (2, aR a2), (3, aI a3), (4, aI a4)] [] := by
  unfold f_X1_moveBlockStep_93 at h
  refine v_iinc (w := 1) C dX1_moveBlockStep_93 rfl rfl (by decide) ?_
  refine v_goto (tgt := 18) C dX1_moveBlockStep_96 (by decide) ?_
  exact v_sb (hk18 _ _ _ _ _ _ h) ⟨rfl, rfl, rfl, rfl, rfl, trivial⟩
set_option maxRecDepth 100000 in
set_option maxHeartbeats 4000000 in
theorem pH_X1_moveBlockStep_18 {x : CX} {l : Launch} {g : CG} {rv : Unit} {μ0 μ9 : Mem} (C : Cx x l g mi_X1_moveBlockStep) (F : Prom x g mi_X1_moveBlockStep μ0 none μ9) {N : Nat} {k18 : (Option Nat) → (Option Nat) → (Option Nat) → Int32 → Int32 → Mem → Option (Unit × Mem)} (hk18 : ∀ (a0 : Option Nat) (a1 : Option Nat) (a2 : Option Nat) (a3 : Int32) (a4 : Int32) (μ : Mem), k18 a0 a1 a2 a3 a4 μ = some (rv, μ9) → V x g 6 0 0 μ 18 [(0, aR a0), (1, aR a1), (2, aR a2), (3, aI a3), (4, aI a4)] []) {a0 : Option Nat} {a1 : Option Nat} {a2 : Option Nat} {a3 : Int32} {a4 : Int32} {μ : Mem} (h : H_X1_moveBlockStep_18 N k18 a0 a1 a2 a3 a4 μ = some (rv, μ9)) : V x g 6 0 0 μ 18 [(0, aR a0), (1, aR a1), (2, aR a2), (3, aI a3), (4, aI a4)] [] := by
  unfold H_X1_moveBlockStep_18 at h
  refine v_iload C dX1_moveBlockStep_18 rfl ?_
  refine v_aload_n C dX1_moveBlockStep_20 rfl ?_
  obtain ⟨v, e, h⟩ := ob h
  refine v_getI C dX1_moveBlockStep_21 gf_X1_23 e ?_
  refine v_bipush (v := 16) C dX1_moveBlockStep_24 rfl ?_
  refine v_iadd C dX1_moveBlockStep_26 ?_
  refine v_icmp_ge (tgt := 99) C dX1_moveBlockStep_27 (by decide) (fun c => ?_) (fun c => ?_)
  · replace h := ifT h c
    exact v_sb (p_X1_moveBlockStep_99 C F h) trivial
  · replace h := ifF h c
    refine v_iload C dX1_moveBlockStep_30 rfl ?_
    refine v_sipush (v := 128) C dX1_moveBlockStep_32 rfl ?_
    refine v_icmp_ge (tgt := 99) C dX1_moveBlockStep_35 (by decide) (fun c => ?_) (fun c => ?_)
    · replace h := ifT h c
      exact v_sb (p_X1_moveBlockStep_99 C F h) trivial
    · replace h := ifF h c
      refine v_aload_n C dX1_moveBlockStep_38 rfl ?_
      obtain ⟨v, e, h⟩ := ob h
      refine v_getI C dX1_moveBlockStep_39 gf_X1_71 e ?_
      refine v_iload C dX1_moveBlockStep_42 rfl ?_
      refine v_iadd C dX1_moveBlockStep_44 ?_
      refine v_sipush (v := 4095) C dX1_moveBlockStep_45 rfl ?_
      refine v_iand C dX1_moveBlockStep_48 ?_
      refine v_istore C dX1_moveBlockStep_49 (by decide) ?_
      refine v_aload_n C dX1_moveBlockStep_51 rfl ?_
      obtain ⟨v, e, h⟩ := ob h
      refine v_getI C dX1_moveBlockStep_52 gf_X1_9 e ?_
      refine v_iconst (v := 3) C dX1_moveBlockStep_55 rfl ?_
      refine v_icmp_ne (tgt := 77) C dX1_moveBlockStep_56 (by decide) (fun c => ?_) (fun c => ?_)
      · replace h := ifT h c
        refine v_aload_n C dX1_moveBlockStep_77 rfl ?_
        obtain ⟨v, e, h⟩ := ob h
        refine v_getR C dX1_moveBlockStep_78 gf_X1_74 e ?_
        refine v_iload_n C dX1_moveBlockStep_81 rfl ?_
        refine v_iload C dX1_moveBlockStep_82 rfl ?_
        refine v_iadd C dX1_moveBlockStep_84 ?_
        refine v_aload_n C dX1_moveBlockStep_85 rfl ?_
        obtain ⟨v, e, h⟩ := ob h
        refine v_getR C dX1_moveBlockStep_86 gf_X1_43 e ?_
        refine v_iload C dX1_moveBlockStep_89 rfl ?_
        obtain ⟨v, e, h⟩ := ob h
        refine v_iaload C dX1_moveBlockStep_91 e ?_
        obtain ⟨m, e, h⟩ := ob h
        refine v_iastore C dX1_moveBlockStep_92 e ?_
        exact v_sb (p_X1_moveBlockStep_93 C F hk18 h) ⟨rfl, rfl, rfl, rfl, rfl, trivial⟩
      · replace h := ifF h c
        refine v_aload_n C dX1_moveBlockStep_59 rfl ?_
        refine v_iload C dX1_moveBlockStep_60 rfl ?_
        refine v_aload_n C dX1_moveBlockStep_62 rfl ?_
        obtain ⟨v, e, h⟩ := ob h
        refine v_getR C dX1_moveBlockStep_63 gf_X1_74 e ?_
        refine v_iload_n C dX1_moveBlockStep_66 rfl ?_
        refine v_iload C dX1_moveBlockStep_67 rfl ?_
        refine v_iadd C dX1_moveBlockStep_69 ?_
        obtain ⟨v, e, h⟩ := ob h
        refine v_iaload C dX1_moveBlockStep_70 e ?_
        obtain ⟨b, e0, h⟩ := ob h
        obtain ⟨q, e, h⟩ := ob h
        refine v_callV (As := [_, _]) C dX1_moveBlockStep_71 cf_X1_77 (rm_X1_moveBlockStep_X8_put) ⟨rfl, rfl⟩ e0 rfl (Nat.le_of_ble_eq_true rfl) (c_X8_put _ _ N _ _ _ _ q.1 q.2 e) ?_
        refine v_goto (tgt := 93) C dX1_moveBlockStep_74 (by decide) ?_
        exact v_sb (p_X1_moveBlockStep_93 C F hk18 h) ⟨rfl, rfl, rfl, rfl, rfl, trivial⟩
set_option maxRecDepth 100000 in
set_option maxHeartbeats 4000000 in
theorem pL_X1_moveBlockStep_18 {x : CX} {l : Launch} {g : CG} {rv : Unit} {μ0 μ9 : Mem} (C : Cx x l g mi_X1_moveBlockStep) (F : Prom x g mi_X1_moveBlockStep μ0 none μ9) (N : Nat) (n : Nat) : ∀ (a0 : Option Nat) (a1 : Option Nat) (a2 : Option Nat) (a3 : Int32) (a4 : Int32) (μ : Mem), L_X1_moveBlockStep_18 N n a0 a1 a2 a3 a4 μ = some (rv, μ9) → V x g 6 0 0 μ 18 [(0, aR a0), (1, aR a1), (2, aR a2), (3, aI a3), (4, aI a4)] [] := by
  induction n with
  | zero => intro a0 a1 a2 a3 a4 μ h; cases h
  | succ n ih => intro a0 a1 a2 a3 a4 μ h; exact pH_X1_moveBlockStep_18 C F ih h
set_option maxRecDepth 100000 in
set_option maxHeartbeats 4000000 in
theorem p_X1_moveBlockStep {x : CX} {l : Launch} {g : CG} {rv : Unit} {μ0 μ9 : Mem} (C : Cx x l g mi_X1_moveBlockStep) (F : Prom x g mi_X1_moveBlockStep μ0 none μ9) {N : Nat} {a0 : Option Nat} {a1 : Option Nat} {a2 : Option Nat} {μ : Mem} (h : f_X1_moveBlockStep N a0 a1 a2 μ = some (rv, μ9)) : V x g 6 0 0 μ 0 [(0, aR a0), (1, aR a1), (2, aR a2)] [] := by
  unfold f_X1_moveBlockStep at h
  refine v_aload_n C dX1_moveBlockStep_0 rfl ?_
  obtain ⟨v, e, h⟩ := ob h
  refine v_getI C dX1_moveBlockStep_1 gf_X1_68 e ?_
  refine v_bipush (v := 7) C dX1_moveBlockStep_4 rfl ?_
  refine v_iand C dX1_moveBlockStep_6 ?_
  refine v_sipush (v := 128) C dX1_moveBlockStep_7 rfl ?_
  refine v_imul C dX1_moveBlockStep_10 ?_
  refine v_istore_n C dX1_moveBlockStep_11 (by decide) ?_
  refine v_aload_n C dX1_moveBlockStep_12 rfl ?_
  obtain ⟨v, e, h⟩ := ob h
  refine v_getI C dX1_moveBlockStep_13 gf_X1_23 e ?_
  refine v_istore C dX1_moveBlockStep_16 (by decide) ?_
  exact v_sb (pL_X1_moveBlockStep_18 C F N N _ _ _ _ _ _ h) ⟨rfl, rfl, rfl, rfl, rfl, trivial⟩
set_option maxRecDepth 100000 in
set_option maxHeartbeats 4000000 in
theorem c_X1_moveBlockStep (l : Launch) (g : CG) (N : Nat) (a0 : Option Nat) (a1 : Option Nat) (a2 : Option Nat) (μ : Mem) (rv : Unit) (μ9 : Mem) (h : f_X1_moveBlockStep N a0 a1 a2 μ = some (rv, μ9)) : Ct l yX1_moveBlockStep mi_X1_moveBlockStep g [aR a0, aR a1, aR a2] μ none μ9 := ct_of ⟨by decide, rfl, rfl⟩ (Nat.le_of_ble_eq_true rfl) fun x C F => p_X1_moveBlockStep C F h
def f_X1_advance_14 (N : Nat) (μ : Mem) : Option (Int32 × Mem) :=
  retZ 0 μ
def f_X1_advance_134 (N : Nat) (s0 : Int32) (μ : Mem) : Option (Int32 × Mem) :=
  retZ s0 μ
def f_X1_advance_126 (N : Nat) (s0 : Int32) (s1 : Int32) (μ : Mem) : Option (Int32 × Mem) :=
  if s0 < s1 then
    f_X1_advance_134 N 0 μ
  else
    f_X1_advance_134 N 1 μ
def f_X1_advance_117 (N : Nat) (s0 : Int32) (μ : Mem) : Option (Int32 × Mem) :=
  f_X1_advance_126 N s0 4096 μ
def f_X1_advance_86 (N : Nat) (a0 : Option Nat) (μ : Mem) : Option (Int32 × Mem) :=
  (mfI μ a0 1 3).bind fun v1 =>
  (mpI μ a0 1 3 (v1 + 16)).bind fun μ2 =>
  (mfI μ2 a0 1 3).bind fun v3 =>
  (mfI μ2 a0 1 0).bind fun v4 =>
  if v4 = (1 : Int32) then
    f_X1_advance_117 N v3 μ2
  else
    (mfI μ2 a0 1 0).bind fun v5 =>
    if ¬ v5 = (2 : Int32) then
      f_X1_advance_126 N v3 128 μ2
    else
      f_X1_advance_117 N v3 μ2
def f_X1_advance (N : Nat) (a0 : Option Nat) (μ : Mem) : Option (Int32 × Mem) :=
  (mfR μ a0 1 1).bind fun v1 =>
  if v1 = none then
    f_X1_advance_14 N μ
  else
    (mfR μ a0 1 2).bind fun v2 =>
    if ¬ v2 = none then
      (mfI μ a0 1 0).bind fun v3 =>
      if ¬ v3 = (1 : Int32) then
        (mfI μ a0 1 0).bind fun v4 =>
        if ¬ v4 = (2 : Int32) then
          (mfR μ a0 1 1).bind fun v5 =>
          (mfR μ a0 1 2).bind fun v6 =>
          (mck μ a0 1).bind fun b8 =>
          (f_X1_moveBlockStep N (some b8) v5 v6 μ).bind fun q7 =>
          f_X1_advance_86 N a0 q7.2
        else
          (mfR μ a0 1 1).bind fun v9 =>
          (mfR μ v9 10 1).bind fun v10 =>
          (mfR μ a0 1 2).bind fun v11 =>
          (mfR μ v11 8 1).bind fun v12 =>
          (mck μ a0 1).bind fun b14 =>
          (f_X1_copyStep N (some b14) v10 v12 μ).bind fun q13 =>
          f_X1_advance_86 N a0 q13.2
      else
        (mfR μ a0 1 2).bind fun v15 =>
        (mfR μ v15 8 1).bind fun v16 =>
        (mfR μ a0 1 1).bind fun v17 =>
        (mfR μ v17 10 1).bind fun v18 =>
        (mck μ a0 1).bind fun b20 =>
        (f_X1_copyStep N (some b20) v16 v18 μ).bind fun q19 =>
        f_X1_advance_86 N a0 q19.2
    else
      f_X1_advance_14 N μ
set_option maxRecDepth 100000 in
set_option maxHeartbeats 4000000 in
theorem p_X1_advance_14 {x : CX} {l : Launch} {g : CG} {rv : Int32} {μ0 μ9 : Mem} (C : Cx x l g mi_X1_advance) (F : Prom x g mi_X1_advance μ0 (some (aI rv)) μ9) {N : Nat} {μ : Mem} (h : f_X1_advance_14 N μ = some (rv, μ9)) : V x g 1 0 0 μ 14 [] [] := by
  unfold f_X1_advance_14 at h
  refine v_iconst (v := 0) C dX1_advance_14 rfl ?_
  exact v_zret C F ⟨rfl, rfl, Nat.le_refl _⟩ dX1_advance_15 h
set_option maxRecDepth 100000 in
set_option maxHeartbeats 4000000 in
theorem p_X1_advance_134 {x : CX} {l : Launch} {g : CG} {rv : Int32} {μ0 μ9 : Mem} (C : Cx x l g mi_X1_advance) (F : Prom x g mi_X1_advance μ0 (some (aI rv)) μ9) {N : Nat} {s0 : Int32} {μ : Mem} (h : f_X1_advance_134 N s0 μ = some (rv, μ9)) : V x g 1 0 0 μ 134 [] [aI s0] := by
  unfold f_X1_advance_134 at h
  exact v_zret C F ⟨rfl, rfl, Nat.le_refl _⟩ dX1_advance_134 h
set_option maxRecDepth 100000 in
set_option maxHeartbeats 4000000 in
theorem p_X1_advance_126 {x : CX} {l : Launch} {g : CG} {rv : Int32} {μ0 μ9 : Mem} (C : Cx x l g mi_X1_advance) (F : Prom x g mi_X1_advance μ0 (some (aI rv)) μ9) {N : Nat} {s0 : Int32} {s1 : Int32} {μ : Mem} (h : f_X1_advance_126 N s0 s1 μ = some (rv, μ9)) : V x g 1 0 0 μ 126 [] [aI s1, aI s0] := by
  unfold f_X1_advance_126 at h
  refine v_icmp_lt (tgt := 133) C dX1_advance_126 (by decide) (fun c => ?_) (fun c => ?_)
  · replace h := ifT h c
    refine v_iconst (v := 0) C dX1_advance_133 rfl ?_
    exact v_sb (p_X1_advance_134 C F h) trivial
  · replace h := ifF h c
    refine v_iconst (v := 1) C dX1_advance_129 rfl ?_
    refine v_goto (tgt := 134) C dX1_advance_130 (by decide) ?_
    exact v_sb (p_X1_advance_134 C F h) trivial
set_option maxRecDepth 100000 in
set_option maxHeartbeats 4000000 in
theorem p_X1_advance_117 {x : CX} {l : Launch} {g : CG} {rv : Int32} {μ0 μ9 : Mem} (C : Cx x l g mi_X1_advance) (F : Prom x g mi_X1_advance μ0 (some (aI rv)) μ9) {N : Nat} {s0 : Int32} {μ : Mem} (h : f_X1_advance_117 N s0 μ = some (rv, μ9)) : V x g 1 0 0 μ 117 [] [aI s0] := by
  unfold f_X1_advance_117 at h
  refine v_sipush (v := 4096) C dX1_advance_117 rfl ?_
  refine v_goto (tgt := 126) C dX1_advance_120 (by decide) ?_
  exact v_sb (p_X1_advance_126 C F h) trivial
set_option maxRecDepth 100000 in
set_option maxHeartbeats 4000000 in
theorem p_X1_advance_86 {x : CX} {l : Launch} {g : CG} {rv : Int32} {μ0 μ9 : Mem} (C : Cx x l g mi_X1_advance) (F : Prom x g mi_X1_advance μ0 (some (aI rv)) μ9) {N : Nat} {a0 : Option Nat} {μ : Mem} (h : f_X1_advance_86 N a0 μ = some (rv, μ9)) : V x g 1 0 0 μ 86 [(0, aR a0)] [] := by
  unfold f_X1_advance_86 at h
  refine v_aload_n C dX1_advance_86 rfl ?_
  refine v_dup C dX1_advance_87 rfl ?_
  obtain ⟨v, e, h⟩ := ob h
  refine v_getI C dX1_advance_88 gf_X1_23 e ?_
  refine v_bipush (v := 16) C dX1_advance_91 rfl ?_
  refine v_iadd C dX1_advance_93 ?_
  obtain ⟨m, e, h⟩ := ob h
  refine v_putI C dX1_advance_94 (pf_X1_23 _) e ?_
  refine v_aload_n C dX1_advance_97 rfl ?_
  obtain ⟨v, e, h⟩ := ob h
  refine v_getI C dX1_advance_98 gf_X1_23 e ?_
  refine v_aload_n C dX1_advance_101 rfl ?_
  obtain ⟨v, e, h⟩ := ob h
  refine v_getI C dX1_advance_102 gf_X1_9 e ?_
  refine v_iconst (v := 1) C dX1_advance_105 rfl ?_
  refine v_icmp_eq (tgt := 117) C dX1_advance_106 (by decide) (fun c => ?_) (fun c => ?_)
  · replace h := ifT h c
    exact v_sb (p_X1_advance_117 C F h) trivial
  · replace h := ifF h c
    refine v_aload_n C dX1_advance_109 rfl ?_
    obtain ⟨v, e, h⟩ := ob h
    refine v_getI C dX1_advance_110 gf_X1_9 e ?_
    refine v_iconst (v := 2) C dX1_advance_113 rfl ?_
    refine v_icmp_ne (tgt := 123) C dX1_advance_114 (by decide) (fun c => ?_) (fun c => ?_)
    · replace h := ifT h c
      refine v_sipush (v := 128) C dX1_advance_123 rfl ?_
      exact v_sb (p_X1_advance_126 C F h) trivial
    · replace h := ifF h c
      exact v_sb (p_X1_advance_117 C F h) trivial
set_option maxRecDepth 100000 in
set_option maxHeartbeats 4000000 in
theorem p_X1_advance {x : CX} {l : Launch} {g : CG} {rv : Int32} {μ0 μ9 : Mem} (C : Cx x l g mi_X1_advance) (F : Prom x g mi_X1_advance μ0 (some (aI rv)) μ9) {N : Nat} {a0 : Option Nat} {μ : Mem} (h : f_X1_advance N a0 μ = some (rv, μ9)) : V x g 1 0 0 μ 0 [(0, aR a0)] [] := by
  unfold f_X1_advance at h
  refine v_aload_n C dX1_advance_0 rfl ?_
  obtain ⟨v, e, h⟩ := ob h
  refine v_getR C dX1_advance_1 gf_X1_15 e ?_
  refine v_ifnull (tgt := 14) C dX1_advance_4 (by decide) (fun c => ?_) (fun c => ?_)
  · replace h := ifT h c
    exact v_sb (p_X1_advance_14 C F h) trivial
  · replace h := ifF h c
    refine v_aload_n C dX1_advance_7 rfl ?_
    obtain ⟨v, e, h⟩ := ob h
    refine v_getR C dX1_advance_8 gf_X1_19 e ?_
    refine v_ifnonnull (tgt := 16) C dX1_advance_11 (by decide) (fun c => ?_) (fun c => ?_)
    · replace h := ifT h c
      refine v_aload_n C dX1_advance_16 rfl ?_
      obtain ⟨v, e, h⟩ := ob h
      refine v_getI C dX1_advance_17 gf_X1_9 e ?_
      refine v_iconst (v := 1) C dX1_advance_20 rfl ?_
      refine v_icmp_ne (tgt := 45) C dX1_advance_21 (by decide) (fun c => ?_) (fun c => ?_)
      · replace h := ifT h c
        refine v_aload_n C dX1_advance_45 rfl ?_
        obtain ⟨v, e, h⟩ := ob h
        refine v_getI C dX1_advance_46 gf_X1_9 e ?_
        refine v_iconst (v := 2) C dX1_advance_49 rfl ?_
        refine v_icmp_ne (tgt := 74) C dX1_advance_50 (by decide) (fun c => ?_) (fun c => ?_)
        · replace h := ifT h c
          refine v_aload_n C dX1_advance_74 rfl ?_
          refine v_aload_n C dX1_advance_75 rfl ?_
          obtain ⟨v, e, h⟩ := ob h
          refine v_getR C dX1_advance_76 gf_X1_15 e ?_
          refine v_aload_n C dX1_advance_79 rfl ?_
          obtain ⟨v, e, h⟩ := ob h
          refine v_getR C dX1_advance_80 gf_X1_19 e ?_
          obtain ⟨b, e0, h⟩ := ob h
          obtain ⟨q, e, h⟩ := ob h
          refine v_callV (As := [_, _]) C dX1_advance_83 cf_X1_58 (rm_X1_advance_X1_moveBlockStep) ⟨rfl, rfl⟩ e0 rfl (Nat.le_of_ble_eq_true rfl) (c_X1_moveBlockStep _ _ N _ _ _ _ q.1 q.2 e) ?_
          exact v_sb (p_X1_advance_86 C F h) ⟨rfl, trivial⟩
        · replace h := ifF h c
          refine v_aload_n C dX1_advance_53 rfl ?_
          refine v_aload_n C dX1_advance_54 rfl ?_
          obtain ⟨v, e, h⟩ := ob h
          refine v_getR C dX1_advance_55 gf_X1_15 e ?_
          obtain ⟨v, e, h⟩ := ob h
          refine v_getR C dX1_advance_58 gf_X1_49 e ?_
          refine v_aload_n C dX1_advance_61 rfl ?_
          obtain ⟨v, e, h⟩ := ob h
          refine v_getR C dX1_advance_62 gf_X1_19 e ?_
          obtain ⟨v, e, h⟩ := ob h
          refine v_getR C dX1_advance_65 gf_X1_43 e ?_
          obtain ⟨b, e0, h⟩ := ob h
          obtain ⟨q, e, h⟩ := ob h
          refine v_callV (As := [_, _]) C dX1_advance_68 cf_X1_54 (rm_X1_advance_X1_copyStep) ⟨rfl, rfl⟩ e0 rfl (Nat.le_of_ble_eq_true rfl) (c_X1_copyStep _ _ N _ _ _ _ q.1 q.2 e) ?_
          refine v_goto (tgt := 86) C dX1_advance_71 (by decide) ?_
          exact v_sb (p_X1_advance_86 C F h) ⟨rfl, trivial⟩
      · replace h := ifF h c
        refine v_aload_n C dX1_advance_24 rfl ?_
        refine v_aload_n C dX1_advance_25 rfl ?_
        obtain ⟨v, e, h⟩ := ob h
        refine v_getR C dX1_advance_26 gf_X1_19 e ?_
        obtain ⟨v, e, h⟩ := ob h
        refine v_getR C dX1_advance_29 gf_X1_43 e ?_
        refine v_aload_n C dX1_advance_32 rfl ?_
        obtain ⟨v, e, h⟩ := ob h
        refine v_getR C dX1_advance_33 gf_X1_15 e ?_
        obtain ⟨v, e, h⟩ := ob h
        refine v_getR C dX1_advance_36 gf_X1_49 e ?_
        obtain ⟨b, e0, h⟩ := ob h
        obtain ⟨q, e, h⟩ := ob h
        refine v_callV (As := [_, _]) C dX1_advance_39 cf_X1_54 (rm_X1_advance_X1_copyStep) ⟨rfl, rfl⟩ e0 rfl (Nat.le_of_ble_eq_true rfl) (c_X1_copyStep _ _ N _ _ _ _ q.1 q.2 e) ?_
        refine v_goto (tgt := 86) C dX1_advance_42 (by decide) ?_
        exact v_sb (p_X1_advance_86 C F h) ⟨rfl, trivial⟩
    · replace h := ifF h c
      exact v_sb (p_X1_advance_14 C F h) trivial
set_option maxRecDepth 100000 in
set_option maxHeartbeats 4000000 in
theorem c_X1_advance (l : Launch) (g : CG) (N : Nat) (a0 : Option Nat) (μ : Mem) (rv : Int32) (μ9 : Mem) (h : f_X1_advance N a0 μ = some (rv, μ9)) : Ct l yX1_advance mi_X1_advance g [aR a0] μ (some (aI rv)) μ9 := ct_of ⟨by decide, rfl, rfl⟩ (Nat.le_of_ble_eq_true rfl) fun x C F => p_X1_advance C F h
def f_X8_give (N : Nat) (a0 : Option Nat) (a1 : Option Nat) (μ : Mem) : Option (Unit × Mem) :=
  (mpR μ a0 8 2 a1).bind fun μ1 =>
  (mpR μ1 a1 10 19 a0).bind fun μ2 =>
  (mpZ μ2 a0 8 3 0).bind fun μ3 =>
  (mpZ μ3 a0 8 4 0).bind fun μ4 =>
  some ((), μ4)
set_option maxRecDepth 100000 in
set_option maxHeartbeats 4000000 in
theorem p_X8_give {x : CX} {l : Launch} {g : CG} {rv : Unit} {μ0 μ9 : Mem} (C : Cx x l g mi_X8_give) (F : Prom x g mi_X8_give μ0 none μ9) {N : Nat} {a0 : Option Nat} {a1 : Option Nat} {μ : Mem} (h : f_X8_give N a0 a1 μ = some (rv, μ9)) : V x g 2 0 0 μ 0 [(0, aR a0), (1, aR a1)] [] := by
  unfold f_X8_give at h
  refine v_aload_n C dX8_give_0 rfl ?_
  refine v_aload_n C dX8_give_1 rfl ?_
  obtain ⟨m, e, h⟩ := ob h
  refine v_putR C dX8_give_2 (pf_X8_15 _) rfl e ?_
  refine v_aload_n C dX8_give_5 rfl ?_
  refine v_aload_n C dX8_give_6 rfl ?_
  obtain ⟨m, e, h⟩ := ob h
  refine v_putR C dX8_give_7 (pf_X8_30 _) rfl e ?_
  refine v_aload_n C dX8_give_10 rfl ?_
  refine v_iconst (v := 0) C dX8_give_11 rfl ?_
  obtain ⟨m, e, h⟩ := ob h
  refine v_putZ C dX8_give_12 (pf_X8_19 _) e ?_
  refine v_aload_n C dX8_give_15 rfl ?_
  refine v_iconst (v := 0) C dX8_give_16 rfl ?_
  obtain ⟨m, e, h⟩ := ob h
  refine v_putZ C dX8_give_17 (pf_X8_23 _) e ?_
  exact v_vret C F ⟨rfl, rfl, Nat.le_refl _⟩ dX8_give_20 h
set_option maxRecDepth 100000 in
set_option maxHeartbeats 4000000 in
theorem c_X8_give (l : Launch) (g : CG) (N : Nat) (a0 : Option Nat) (a1 : Option Nat) (μ : Mem) (rv : Unit) (μ9 : Mem) (h : f_X8_give N a0 a1 μ = some (rv, μ9)) : Ct l yX8_give mi_X8_give g [aR a0, aR a1] μ none μ9 := ct_of ⟨by decide, rfl, rfl⟩ (Nat.le_of_ble_eq_true rfl) fun x C F => p_X8_give C F h
