/-! LAYER 1: X4.withLetter, J7.fill, X11.nearest, X11.feedFour, X11.feed, X11.end, X4.forget, X9.byteAt, X9.skipBlanks, X9.skipRemark, X9.append, X9.isLetter, X9.isDigit, X4.numberOf, X9.isPlain, X9.scanText (by program) -/
def f_X4_withLetter (N : Nat) (a0 : Int64) (a2 : Int32) (μ : Mem) : Option (Int64 × Mem) :=
  some ((a0 <<< ((8 : Int32).toInt64 &&& 63)) ||| a2.toInt64, μ)
set_option maxRecDepth 100000 in
set_option maxHeartbeats 4000000 in
theorem p_X4_withLetter {x : CX} {l : Launch} {g : CG} {rv : Int64} {μ0 μ9 : Mem} (C : Cx x l g mi_X4_withLetter) (F : Prom x g mi_X4_withLetter μ0 (some (aJ rv)) μ9) {N : Nat} {a0 : Int64} {a2 : Int32} {μ : Mem} (h : f_X4_withLetter N a0 a2 μ = some (rv, μ9)) : V x g 3 0 0 μ 0 [(0, aJ a0), (2, aI a2)] [] := by
  unfold f_X4_withLetter at h
  refine v_lload_n C dX4_withLetter_0 rfl ?_
  refine v_bipush (v := 8) C dX4_withLetter_1 rfl ?_
  refine v_lshl C dX4_withLetter_3 ?_
  refine v_iload_n C dX4_withLetter_4 rfl ?_
  refine v_i2l C dX4_withLetter_5 ?_
  refine v_lor C dX4_withLetter_6 ?_
  exact v_lret C F ⟨rfl, rfl, Nat.le_refl _⟩ dX4_withLetter_7 h
set_option maxRecDepth 100000 in
set_option maxHeartbeats 4000000 in
theorem c_X4_withLetter (l : Launch) (g : CG) (N : Nat) (a0 : Int64) (a2 : Int32) (μ : Mem) (rv : Int64) (μ9 : Mem) (h : f_X4_withLetter N a0 a2 μ = some (rv, μ9)) : Ct l yX4_withLetter mi_X4_withLetter g [aJ a0, aI a2] μ (some (aJ rv)) μ9 := ct_of ⟨by decide, rfl, rfl⟩ (Nat.le_of_ble_eq_true rfl) fun x C F => p_X4_withLetter C F h
def H_J7_fill_53178_5 (N : Nat) (k5 : (Option Nat) → Int32 → Int32 → Int32 → Mem → Option (Unit × Mem)) (a0 : Option Nat) (a1 : Int32) (a2 : Int32) (a3 : Int32) (μ : Mem) : Option (Unit × Mem) :=
  if a3 ≤ a2 then
    some ((), μ)
  else
    (mbI μ 0 a0 a2 a1).bind fun μ1 =>
    k5 a0 a1 (a2 + 1) a3 μ1
def L_J7_fill_53178_5 (N : Nat) : Nat → (Option Nat) → Int32 → Int32 → Int32 → Mem → Option (Unit × Mem)
  | 0 => fun _ _ _ _ _ => none
  | n + 1 => H_J7_fill_53178_5 N (L_J7_fill_53178_5 N n)
def f_J7_fill_53178 (N : Nat) (a0 : Option Nat) (a1 : Int32) (μ : Mem) : Option (Unit × Mem) :=
  (mal μ a0).bind fun v1 =>
  L_J7_fill_53178_5 N N a0 a1 0 v1 μ
set_option maxRecDepth 100000 in
set_option maxHeartbeats 4000000 in
theorem pH_J7_fill_53178_5 {x : CX} {l : Launch} {g : CG} {rv : Unit} {μ0 μ9 : Mem} (C : Cx x l g mi_J7_fill_53178) (F : Prom x g mi_J7_fill_53178 μ0 none μ9) {N : Nat} {k5 : (Option Nat) → Int32 → Int32 → Int32 → Mem → Option (Unit × Mem)} (hk5 : ∀ (a0 : Option Nat) (a1 : Int32) (a2 : Int32) (a3 : Int32) (μ : Mem), k5 a0 a1 a2 a3 μ = some (rv, μ9) → V x g 4 0 0 μ 5 [(0, aR a0), (1, aI a1), (2, aI a2), (3, aI a3)] []) {a0 : Option Nat} {a1 : Int32} {a2 : Int32} {a3 : Int32} {μ : Mem} (h : H_J7_fill_53178_5 N k5 a0 a1 a2 a3 μ = some (rv, μ9)) : V x g 4 0 0 μ 5 [(0, aR a0), (1, aI a1), (2, aI a2), (3, aI a3)] [] := by
  unfold H_J7_fill_53178_5 at h
  refine v_iload_n C dJ7_fill_53178_5 rfl ?_
  refine v_iload_n C dJ7_fill_53178_6 rfl ?_
  refine v_icmp_ge (tgt := 20) C dJ7_fill_53178_7 (by decide) (fun c => ?_) (fun c => ?_)
  · replace h := ifT h c
    exact v_vret C F ⟨rfl, rfl, Nat.le_refl _⟩ dJ7_fill_53178_20 h
  · replace h := ifF h c
    refine v_aload_n C dJ7_fill_53178_10 rfl ?_
    refine v_iload_n C dJ7_fill_53178_11 rfl ?_
    refine v_iload_n C dJ7_fill_53178_12 rfl ?_
    obtain ⟨m, e, h⟩ := ob h
    refine v_iastore C dJ7_fill_53178_13 e ?_
    refine v_iinc (w := 1) C dJ7_fill_53178_14 rfl rfl (by decide) ?_
    refine v_goto (tgt := 5) C dJ7_fill_53178_17 (by decide) ?_
    exact v_sb (hk5 _ _ _ _ _ h) ⟨rfl, rfl, rfl, rfl, trivial⟩
set_option maxRecDepth 100000 in
set_option maxHeartbeats 4000000 in
theorem pL_J7_fill_53178_5 {x : CX} {l : Launch} {g : CG} {rv : Unit} {μ0 μ9 : Mem} (C : Cx x l g mi_J7_fill_53178) (F : Prom x g mi_J7_fill_53178 μ0 none μ9) (N : Nat) (n : Nat) : ∀ (a0 : Option Nat) (a1 : Int32) (a2 : Int32) (a3 : Int32) (μ : Mem), L_J7_fill_53178_5 N n a0 a1 a2 a3 μ = some (rv, μ9) → V x g 4 0 0 μ 5 [(0, aR a0), (1, aI a1), (2, aI a2), (3, aI a3)] [] := by
  induction n with
  | zero => intro a0 a1 a2 a3 μ h; cases h
  | succ n ih => intro a0 a1 a2 a3 μ h; exact pH_J7_fill_53178_5 C F ih h
set_option maxRecDepth 100000 in
set_option maxHeartbeats 4000000 in
theorem p_J7_fill_53178 {x : CX} {l : Launch} {g : CG} {rv : Unit} {μ0 μ9 : Mem} (C : Cx x l g mi_J7_fill_53178) (F : Prom x g mi_J7_fill_53178 μ0 none μ9) {N : Nat} {a0 : Option Nat} {a1 : Int32} {μ : Mem} (h : f_J7_fill_53178 N a0 a1 μ = some (rv, μ9)) : V x g 4 0 0 μ 0 [(0, aR a0), (1, aI a1)] [] := by
  unfold f_J7_fill_53178 at h
  refine v_iconst (v := 0) C dJ7_fill_53178_0 rfl ?_
  refine v_istore_n C dJ7_fill_53178_1 (by decide) ?_
  refine v_aload_n C dJ7_fill_53178_2 rfl ?_
  obtain ⟨v, e, h⟩ := ob h
  refine v_alen C dJ7_fill_53178_3 e ?_
  refine v_istore_n C dJ7_fill_53178_4 (by decide) ?_
  exact v_sb (pL_J7_fill_53178_5 C F N N _ _ _ _ _ h) ⟨rfl, rfl, rfl, rfl, trivial⟩
set_option maxRecDepth 100000 in
set_option maxHeartbeats 4000000 in
theorem c_J7_fill_53178 (l : Launch) (g : CG) (N : Nat) (a0 : Option Nat) (a1 : Int32) (μ : Mem) (rv : Unit) (μ9 : Mem) (h : f_J7_fill_53178 N a0 a1 μ = some (rv, μ9)) : Ct l yJ7_fill_53178 mi_J7_fill_53178 g [aR a0, aI a1] μ none μ9 := ct_of ⟨by decide, rfl, rfl⟩ (Nat.le_of_ble_eq_true rfl) fun x C F => p_J7_fill_53178 C F h
def f_X11_nearest (N : Nat) (a0 : Int32) (a1 : Int32) (μ : Mem) : Option (Int32 × Mem) :=
  some (mmax 1 (mmin a1 a0), μ)
set_option maxRecDepth 100000 in
set_option maxHeartbeats 4000000 in
theorem p_X11_nearest {x : CX} {l : Launch} {g : CG} {rv : Int32} {μ0 μ9 : Mem} (C : Cx x l g mi_X11_nearest) (F : Prom x g mi_X11_nearest μ0 (some (aI rv)) μ9) {N : Nat} {a0 : Int32} {a1 : Int32} {μ : Mem} (h : f_X11_nearest N a0 a1 μ = some (rv, μ9)) : V x g 2 0 0 μ 0 [(0, aI a0), (1, aI a1)] [] := by
  unfold f_X11_nearest at h
  refine v_iconst (v := 1) C dX11_nearest_0 rfl ?_
  refine v_iload_n C dX11_nearest_1 rfl ?_
  refine v_iload_n C dX11_nearest_2 rfl ?_
  refine v_mmin C dX11_nearest_3 mx_X11_37 rfl ⟨⟨Nat.le_of_ble_eq_true rfl, Nat.le_of_ble_eq_true rfl⟩, Nat.le_of_ble_eq_true rfl, Nat.le_of_ble_eq_true rfl⟩ ?_
  refine v_mmax C dX11_nearest_6 mx_X11_42 rfl ⟨⟨Nat.le_of_ble_eq_true rfl, Nat.le_of_ble_eq_true rfl⟩, Nat.le_of_ble_eq_true rfl, Nat.le_of_ble_eq_true rfl⟩ ?_
  exact v_iret C F ⟨rfl, rfl, Nat.le_refl _⟩ dX11_nearest_9 h
set_option maxRecDepth 100000 in
set_option maxHeartbeats 4000000 in
theorem c_X11_nearest (l : Launch) (g : CG) (N : Nat) (a0 : Int32) (a1 : Int32) (μ : Mem) (rv : Int32) (μ9 : Mem) (h : f_X11_nearest N a0 a1 μ = some (rv, μ9)) : Ct l yX11_nearest mi_X11_nearest g [aI a0, aI a1] μ (some (aI rv)) μ9 := ct_of ⟨by decide, rfl, rfl⟩ (Nat.le_of_ble_eq_true rfl) fun x C F => p_X11_nearest C F h
def f_X11_feedFour_49 (N : Nat) (μ : Mem) : Option (Unit × Mem) :=
  some ((), μ)
def H_X11_feedFour_3 (N : Nat) (k3 : (Option Nat) → Int32 → Int32 → Mem → Option (Unit × Mem)) (a0 : Option Nat) (a1 : Int32) (a2 : Int32) (μ : Mem) : Option (Unit × Mem) :=
  if a2 < 0 then
    f_X11_feedFour_49 N μ
  else
    (mfI μ a0 11 1).bind fun v1 =>
    if (2000 : Int32) ≤ v1 then
      f_X11_feedFour_49 N μ
    else
      (mfR μ a0 11 0).bind fun v2 =>
      (mfI μ a0 11 1).bind fun v3 =>
      (mbI μ 0 v2 v3 (((a1.toUInt32 >>> (a2.toUInt32 &&& Int32.toUInt32 31)).toInt32) &&& 255)).bind fun μ4 =>
      (mfI μ4 a0 11 1).bind fun v5 =>
      (mpI μ4 a0 11 1 (v5 + 1)).bind fun μ6 =>
      k3 a0 a1 (a2 + (-8)) μ6
def L_X11_feedFour_3 (N : Nat) : Nat → (Option Nat) → Int32 → Int32 → Mem → Option (Unit × Mem)
  | 0 => fun _ _ _ _ => none
  | n + 1 => H_X11_feedFour_3 N (L_X11_feedFour_3 N n)
def f_X11_feedFour (N : Nat) (a0 : Option Nat) (a1 : Int32) (μ : Mem) : Option (Unit × Mem) :=
  L_X11_feedFour_3 N N a0 a1 24 μ
set_option maxRecDepth 100000 in
set_option maxHeartbeats 4000000 in
theorem p_X11_feedFour_49 {x : CX} {l : Launch} {g : CG} {rv : Unit} {μ0 μ9 : Mem} (C : Cx x l g mi_X11_feedFour) (F : Prom x g mi_X11_feedFour μ0 none μ9) {N : Nat} {μ : Mem} (h : f_X11_feedFour_49 N μ = some (rv, μ9)) : V x g 3 0 0 μ 49 [] [] := by
  unfold f_X11_feedFour_49 at h
  exact v_vret C F ⟨rfl, rfl, Nat.le_refl _⟩ dX11_feedFour_49 h
set_option maxRecDepth 100000 in
set_option maxHeartbeats 4000000 in
theorem pH_X11_feedFour_3 {x : CX} {l : Launch} {g : CG} {rv : Unit} {μ0 μ9 : Mem} (C : Cx x l g mi_X11_feedFour) (F : Prom x g mi_X11_feedFour μ0 none μ9) {N : Nat} {k3 : (Option Nat) → Int32 → Int32 → Mem → Option (Unit × Mem)} (hk3 : ∀ (a0 : Option Nat) (a1 : Int32) (a2 : Int32) (μ : Mem), k3 a0 a1 a2 μ = some (rv, μ9) → V x g 3 0 0 μ 3 [(0, aR a0), (1, aI a1), (2, aI a2)] []) {a0 : Option Nat} {a1 : Int32} {a2 : Int32} {μ : Mem} (h : H_X11_feedFour_3 N k3 a0 a1 a2 μ = some (rv, μ9)) : V x g 3 0 0 μ 3 [(0, aR a0), (1, aI a1), (2, aI a2)] [] := by
  unfold H_X11_feedFour_3 at h
  refine v_iload_n C dX11_feedFour_3 rfl ?_
  refine v_if_lt (tgt := 49) C dX11_feedFour_4 (by decide) (fun c => ?_) (fun c => ?_)
  · replace h := ifT h c
    exact v_sb (p_X11_feedFour_49 C F h) trivial
  · replace h := ifF h c
    refine v_aload_n C dX11_feedFour_7 rfl ?_
    obtain ⟨v, e, h⟩ := ob h
    refine v_getI C dX11_feedFour_8 gf_X11_13 e ?_
    refine v_sipush (v := 2000) C dX11_feedFour_11 rfl ?_
    refine v_icmp_ge (tgt := 49) C dX11_feedFour_14 (by decide) (fun c => ?_) (fun c => ?_)
    · replace h := ifT h c
      exact v_sb (p_X11_feedFour_49 C F h) trivial
    · replace h := ifF h c
      refine v_aload_n C dX11_feedFour_17 rfl ?_
      obtain ⟨v, e, h⟩ := ob h
      refine v_getR C dX11_feedFour_18 gf_X11_9 e ?_
      refine v_aload_n C dX11_feedFour_21 rfl ?_
      obtain ⟨v, e, h⟩ := ob h
      refine v_getI C dX11_feedFour_22 gf_X11_13 e ?_
      refine v_iload_n C dX11_feedFour_25 rfl ?_
      refine v_iload_n C dX11_feedFour_26 rfl ?_
      refine v_iushr C dX11_feedFour_27 ?_
      refine v_sipush (v := 255) C dX11_feedFour_28 rfl ?_
      refine v_iand C dX11_feedFour_31 ?_
      obtain ⟨m, e, h⟩ := ob h
      refine v_iastore C dX11_feedFour_32 e ?_
      refine v_aload_n C dX11_feedFour_33 rfl ?_
      refine v_dup C dX11_feedFour_34 rfl ?_
      obtain ⟨v, e, h⟩ := ob h
      refine v_getI C dX11_feedFour_35 gf_X11_13 e ?_
      refine v_iconst (v := 1) C dX11_feedFour_38 rfl ?_
      refine v_iadd C dX11_feedFour_39 ?_
      obtain ⟨m, e, h⟩ := ob h
      refine v_putI C dX11_feedFour_40 (pf_X11_13 _) e ?_
      refine v_iinc (w := -8) C dX11_feedFour_43 rfl rfl (by decide) ?_
      refine v_goto (tgt := 3) C dX11_feedFour_46 (by decide) ?_
      exact v_sb (hk3 _ _ _ _ h) ⟨rfl, rfl, rfl, trivial⟩
set_option maxRecDepth 100000 in
set_option maxHeartbeats 4000000 in
theorem pL_X11_feedFour_3 {x : CX} {l : Launch} {g : CG} {rv : Unit} {μ0 μ9 : Mem} (C : Cx x l g mi_X11_feedFour) (F : Prom x g mi_X11_feedFour μ0 none μ9) (N : Nat) (n : Nat) : ∀ (a0 : Option Nat) (a1 : Int32) (a2 : Int32) (μ : Mem), L_X11_feedFour_3 N n a0 a1 a2 μ = some (rv, μ9) → V x g 3 0 0 μ 3 [(0, aR a0), (1, aI a1), (2, aI a2)] [] := by
  induction n with
  | zero => intro a0 a1 a2 μ h; cases h
  | succ n ih => intro a0 a1 a2 μ h; exact pH_X11_feedFour_3 C F ih h
set_option maxRecDepth 100000 in
set_option maxHeartbeats 4000000 in
theorem p_X11_feedFour {x : CX} {l : Launch} {g : CG} {rv : Unit} {μ0 μ9 : Mem} (C : Cx x l g mi_X11_feedFour) (F : Prom x g mi_X11_feedFour μ0 none μ9) {N : Nat} {a0 : Option Nat} {a1 : Int32} {μ : Mem} (h : f_X11_feedFour N a0 a1 μ = some (rv, μ9)) : V x g 3 0 0 μ 0 [(0, aR a0), (1, aI a1)] [] := by
  unfold f_X11_feedFour at h
  refine v_bipush (v := 24) C dX11_feedFour_0 rfl ?_
  refine v_istore_n C dX11_feedFour_2 (by decide) ?_
  exact v_sb (pL_X11_feedFour_3 C F N N _ _ _ _ h) ⟨rfl, rfl, rfl, trivial⟩
set_option maxRecDepth 100000 in
set_option maxHeartbeats 4000000 in
theorem c_X11_feedFour (l : Launch) (g : CG) (N : Nat) (a0 : Option Nat) (a1 : Int32) (μ : Mem) (rv : Unit) (μ9 : Mem) (h : f_X11_feedFour N a0 a1 μ = some (rv, μ9)) : Ct l yX11_feedFour mi_X11_feedFour g [aR a0, aI a1] μ none μ9 := ct_of ⟨by decide, rfl, rfl⟩ (Nat.le_of_ble_eq_true rfl) fun x C F => p_X11_feedFour C F h
def f_X11_feed (N : Nat) (a0 : Option Nat) (a1 : Int32) (a2 : Int32) (a3 : Int32) (a4 : Int32) (a5 : Int32) (μ : Mem) : Option (Int32 × Mem) :=
  (mfI μ a0 11 1).bind fun v1 =>
  if (v1 + 20) ≤ (2000 : Int32) then
    (mck μ a0 11).bind fun b3 =>
    (f_X11_feedFour N (some b3) a1 μ).bind fun q2 =>
    (mck q2.2 a0 11).bind fun b5 =>
    (f_X11_feedFour N (some b5) a2 q2.2).bind fun q4 =>
    (mck q4.2 a0 11).bind fun b7 =>
    (f_X11_feedFour N (some b7) a3 q4.2).bind fun q6 =>
    (mck q6.2 a0 11).bind fun b9 =>
    (f_X11_feedFour N (some b9) a4 q6.2).bind fun q8 =>
    (mck q8.2 a0 11).bind fun b11 =>
    (f_X11_feedFour N (some b11) a5 q8.2).bind fun q10 =>
    (mfI q10.2 a0 11 1).bind fun v12 =>
    some (v12, q10.2)
  else
    some ((-1), μ)
set_option maxRecDepth 100000 in
set_option maxHeartbeats 4000000 in
theorem p_X11_feed {x : CX} {l : Launch} {g : CG} {rv : Int32} {μ0 μ9 : Mem} (C : Cx x l g mi_X11_feed) (F : Prom x g mi_X11_feed μ0 (some (aI rv)) μ9) {N : Nat} {a0 : Option Nat} {a1 : Int32} {a2 : Int32} {a3 : Int32} {a4 : Int32} {a5 : Int32} {μ : Mem} (h : f_X11_feed N a0 a1 a2 a3 a4 a5 μ = some (rv, μ9)) : V x g 6 0 0 μ 0 [(0, aR a0), (1, aI a1), (2, aI a2), (3, aI a3), (4, aI a4), (5, aI a5)] [] := by
  unfold f_X11_feed at h
  refine v_aload_n C dX11_feed_0 rfl ?_
  obtain ⟨v, e, h⟩ := ob h
  refine v_getI C dX11_feed_1 gf_X11_13 e ?_
  refine v_bipush (v := 20) C dX11_feed_4 rfl ?_
  refine v_iadd C dX11_feed_6 ?_
  refine v_sipush (v := 2000) C dX11_feed_7 rfl ?_
  refine v_icmp_le (tgt := 15) C dX11_feed_10 (by decide) (fun c => ?_) (fun c => ?_)
  · replace h := ifT h c
    refine v_aload_n C dX11_feed_15 rfl ?_
    refine v_iload_n C dX11_feed_16 rfl ?_
    obtain ⟨b, e0, h⟩ := ob h
    obtain ⟨q, e, h⟩ := ob h
    refine v_callV (As := [_]) C dX11_feed_17 cf_X11_45 (rm_X11_feed_X11_feedFour) ⟨rfl, rfl⟩ e0 rfl (Nat.le_of_ble_eq_true rfl) (c_X11_feedFour _ _ N _ _ _ q.1 q.2 e) ?_
    refine v_aload_n C dX11_feed_20 rfl ?_
    refine v_iload_n C dX11_feed_21 rfl ?_
    obtain ⟨b, e0, h⟩ := ob h
    obtain ⟨q, e, h⟩ := ob h
    refine v_callV (As := [_]) C dX11_feed_22 cf_X11_45 (rm_X11_feed_X11_feedFour) ⟨rfl, rfl⟩ e0 rfl (Nat.le_of_ble_eq_true rfl) (c_X11_feedFour _ _ N _ _ _ q.1 q.2 e) ?_
    refine v_aload_n C dX11_feed_25 rfl ?_
    refine v_iload_n C dX11_feed_26 rfl ?_
    obtain ⟨b, e0, h⟩ := ob h
    obtain ⟨q, e, h⟩ := ob h
    refine v_callV (As := [_]) C dX11_feed_27 cf_X11_45 (rm_X11_feed_X11_feedFour) ⟨rfl, rfl⟩ e0 rfl (Nat.le_of_ble_eq_true rfl) (c_X11_feedFour _ _ N _ _ _ q.1 q.2 e) ?_
    refine v_aload_n C dX11_feed_30 rfl ?_
    refine v_iload C dX11_feed_31 rfl ?_
    obtain ⟨b, e0, h⟩ := ob h
    obtain ⟨q, e, h⟩ := ob h
    refine v_callV (As := [_]) C dX11_feed_33 cf_X11_45 (rm_X11_feed_X11_feedFour) ⟨rfl, rfl⟩ e0 rfl (Nat.le_of_ble_eq_true rfl) (c_X11_feedFour _ _ N _ _ _ q.1 q.2 e) ?_
    refine v_aload_n C dX11_feed_36 rfl ?_
    refine v_iload C dX11_feed_37 rfl ?_
    obtain ⟨b, e0, h⟩ := ob h
    obtain ⟨q, e, h⟩ := ob h
    refine v_callV (As := [_]) C dX11_feed_39 cf_X11_45 (rm_X11_feed_X11_feedFour) ⟨rfl, rfl⟩ e0 rfl (Nat.le_of_ble_eq_true rfl) (c_X11_feedFour _ _ N _ _ _ q.1 q.2 e) ?_
    refine v_aload_n C dX11_feed_42 rfl ?_
    obtain ⟨v, e, h⟩ := ob h
    refine v_getI C dX11_feed_43 gf_X11_13 e ?_
    exact v_iret C F ⟨rfl, rfl, Nat.le_refl _⟩ dX11_feed_46 h
  · replace h := ifF h c
    refine v_iconst (v := -1) C dX11_feed_13 rfl ?_
    exact v_iret C F ⟨rfl, rfl, Nat.le_refl _⟩ dX11_feed_14 h
set_option maxRecDepth 100000 in
set_option maxHeartbeats 4000000 in
theorem c_X11_feed (l : Launch) (g : CG) (N : Nat) (a0 : Option Nat) (a1 : Int32) (a2 : Int32) (a3 : Int32) (a4 : Int32) (a5 : Int32) (μ : Mem) (rv : Int32) (μ9 : Mem) (h : f_X11_feed N a0 a1 a2 a3 a4 a5 μ = some (rv, μ9)) : Ct l yX11_feed mi_X11_feed g [aR a0, aI a1, aI a2, aI a3, aI a4, aI a5] μ (some (aI rv)) μ9 := ct_of ⟨by decide, rfl, rfl⟩ (Nat.le_of_ble_eq_true rfl) fun x C F => p_X11_feed C F h
def f_X11_end_12 (N : Nat) (μ : Mem) : Option (Int32 × Mem) :=
  retZ 0 μ
def f_X11_end (N : Nat) (a0 : Option Nat) (a1 : Int32) (μ : Mem) : Option (Int32 × Mem) :=
  if a1 < 0 then
    f_X11_end_12 N μ
  else
    (mfI μ a0 11 1).bind fun v1 =>
    if a1 ≤ v1 then
      (mpI μ a0 11 1 a1).bind fun μ2 =>
      retZ 1 μ2
    else
      f_X11_end_12 N μ
set_option maxRecDepth 100000 in
set_option maxHeartbeats 4000000 in
theorem p_X11_end_12 {x : CX} {l : Launch} {g : CG} {rv : Int32} {μ0 μ9 : Mem} (C : Cx x l g mi_X11_end) (F : Prom x g mi_X11_end μ0 (some (aI rv)) μ9) {N : Nat} {μ : Mem} (h : f_X11_end_12 N μ = some (rv, μ9)) : V x g 2 0 0 μ 12 [] [] := by
  unfold f_X11_end_12 at h
  refine v_iconst (v := 0) C dX11_end_12 rfl ?_
  exact v_zret C F ⟨rfl, rfl, Nat.le_refl _⟩ dX11_end_13 h
set_option maxRecDepth 100000 in
set_option maxHeartbeats 4000000 in
theorem p_X11_end {x : CX} {l : Launch} {g : CG} {rv : Int32} {μ0 μ9 : Mem} (C : Cx x l g mi_X11_end) (F : Prom x g mi_X11_end μ0 (some (aI rv)) μ9) {N : Nat} {a0 : Option Nat} {a1 : Int32} {μ : Mem} (h : f_X11_end N a0 a1 μ = some (rv, μ9)) : V x g 2 0 0 μ 0 [(0, aR a0), (1, aI a1)] [] := by
  unfold f_X11_end at h
  refine v_iload_n C dX11_end_0 rfl ?_
  refine v_if_lt (tgt := 12) C dX11_end_1 (by decide) (fun c => ?_) (fun c => ?_)
  · replace h := ifT h c
    exact v_sb (p_X11_end_12 C F h) trivial
  · replace h := ifF h c
    refine v_iload_n C dX11_end_4 rfl ?_
    refine v_aload_n C dX11_end_5 rfl ?_
    obtain ⟨v, e, h⟩ := ob h
    refine v_getI C dX11_end_6 gf_X11_13 e ?_
    refine v_icmp_le (tgt := 14) C dX11_end_9 (by decide) (fun c => ?_) (fun c => ?_)
    · replace h := ifT h c
      refine v_aload_n C dX11_end_14 rfl ?_
      refine v_iload_n C dX11_end_15 rfl ?_
      obtain ⟨m, e, h⟩ := ob h
      refine v_putI C dX11_end_16 (pf_X11_13 _) e ?_
      refine v_iconst (v := 1) C dX11_end_19 rfl ?_
      exact v_zret C F ⟨rfl, rfl, Nat.le_refl _⟩ dX11_end_20 h
    · replace h := ifF h c
      exact v_sb (p_X11_end_12 C F h) trivial
set_option maxRecDepth 100000 in
set_option maxHeartbeats 4000000 in
theorem c_X11_end (l : Launch) (g : CG) (N : Nat) (a0 : Option Nat) (a1 : Int32) (μ : Mem) (rv : Int32) (μ9 : Mem) (h : f_X11_end N a0 a1 μ = some (rv, μ9)) : Ct l yX11_end mi_X11_end g [aR a0, aI a1] μ (some (aI rv)) μ9 := ct_of ⟨by decide, rfl, rfl⟩ (Nat.le_of_ble_eq_true rfl) fun x C F => p_X11_end C F h
def f_X4_forget (N : Nat) (a0 : Option Nat) (μ : Mem) : Option (Unit × Mem) :=
  (mpI μ a0 4 3 53).bind fun μ1 =>
  (mpI μ1 a0 4 4 0).bind fun μ2 =>
  some ((), μ2)
set_option maxRecDepth 100000 in
set_option maxHeartbeats 4000000 in
theorem p_X4_forget {x : CX} {l : Launch} {g : CG} {rv : Unit} {μ0 μ9 : Mem} (C : Cx x l g mi_X4_forget) (F : Prom x g mi_X4_forget μ0 none μ9) {N : Nat} {a0 : Option Nat} {μ : Mem} (h : f_X4_forget N a0 μ = some (rv, μ9)) : V x g 1 0 0 μ 0 [(0, aR a0)] [] := by
  unfold f_X4_forget at h
  refine v_aload_n C dX4_forget_0 rfl ?_
  refine v_getsX0 C dX4_forget_1 gs_X4_9 ?_
  refine v_xl0 C dX4_forget_4 ?_
  obtain ⟨m, e, h⟩ := ob h
  refine v_putI C dX4_forget_5 (pf_X4_25 _) e ?_
  refine v_aload_n C dX4_forget_8 rfl ?_
  refine v_iconst (v := 0) C dX4_forget_9 rfl ?_
  obtain ⟨m, e, h⟩ := ob h
  refine v_putI C dX4_forget_10 (pf_X4_29 _) e ?_
  exact v_vret C F ⟨rfl, rfl, Nat.le_refl _⟩ dX4_forget_13 h
set_option maxRecDepth 100000 in
set_option maxHeartbeats 4000000 in
theorem c_X4_forget (l : Launch) (g : CG) (N : Nat) (a0 : Option Nat) (μ : Mem) (rv : Unit) (μ9 : Mem) (h : f_X4_forget N a0 μ = some (rv, μ9)) : Ct l yX4_forget mi_X4_forget g [aR a0] μ none μ9 := ct_of ⟨by decide, rfl, rfl⟩ (Nat.le_of_ble_eq_true rfl) fun x C F => p_X4_forget C F h
def f_X9_byteAt_22 (N : Nat) (s0 : Int32) (μ : Mem) : Option (Int32 × Mem) :=
  some (s0, μ)
def f_X9_byteAt_12 (N : Nat) (μ : Mem) : Option (Int32 × Mem) :=
  f_X9_byteAt_22 N ((-1)) μ
def f_X9_byteAt (N : Nat) (a0 : Option Nat) (a1 : Int32) (μ : Mem) : Option (Int32 × Mem) :=
  if a1 < 0 then
    f_X9_byteAt_12 N μ
  else
    (mfI μ a0 9 7).bind fun v1 =>
    if a1 < v1 then
      (mfR μ a0 9 6).bind fun v2 =>
      (maI μ 0 v2 a1).bind fun v3 =>
      f_X9_byteAt_22 N v3 μ
    else
      f_X9_byteAt_12 N μ
set_option maxRecDepth 100000 in
set_option maxHeartbeats 4000000 in
theorem p_X9_byteAt_22 {x : CX} {l : Launch} {g : CG} {rv : Int32} {μ0 μ9 : Mem} (C : Cx x l g mi_X9_byteAt) (F : Prom x g mi_X9_byteAt μ0 (some (aI rv)) μ9) {N : Nat} {s0 : Int32} {μ : Mem} (h : f_X9_byteAt_22 N s0 μ = some (rv, μ9)) : V x g 2 0 0 μ 22 [] [aI s0] := by
  unfold f_X9_byteAt_22 at h
  exact v_iret C F ⟨rfl, rfl, Nat.le_refl _⟩ dX9_byteAt_22 h
set_option maxRecDepth 100000 in
set_option maxHeartbeats 4000000 in
theorem p_X9_byteAt_12 {x : CX} {l : Launch} {g : CG} {rv : Int32} {μ0 μ9 : Mem} (C : Cx x l g mi_X9_byteAt) (F : Prom x g mi_X9_byteAt μ0 (some (aI rv)) μ9) {N : Nat} {μ : Mem} (h : f_X9_byteAt_12 N μ = some (rv, μ9)) : V x g 2 0 0 μ 12 [] [] := by
  unfold f_X9_byteAt_12 at h
  refine v_iconst (v := -1) C dX9_byteAt_12 rfl ?_
  refine v_goto (tgt := 22) C dX9_byteAt_13 (by decide) ?_
  exact v_sb (p_X9_byteAt_22 C F h) trivial
set_option maxRecDepth 100000 in
set_option maxHeartbeats 4000000 in
theorem p_X9_byteAt {x : CX} {l : Launch} {g : CG} {rv : Int32} {μ0 μ9 : Mem} (C : Cx x l g mi_X9_byteAt) (F : Prom x g mi_X9_byteAt μ0 (some (aI rv)) μ9) {N : Nat} {a0 : Option Nat} {a1 : Int32} {μ : Mem} (h : f_X9_byteAt N a0 a1 μ = some (rv, μ9)) : V x g 2 0 0 μ 0 [(0, aR a0), (1, aI a1)] [] := by
  unfold f_X9_byteAt at h
  refine v_iload_n C dX9_byteAt_0 rfl ?_
  refine v_if_lt (tgt := 12) C dX9_byteAt_1 (by decide) (fun c => ?_) (fun c => ?_)
  · replace h := ifT h c
    exact v_sb (p_X9_byteAt_12 C F h) trivial
  · replace h := ifF h c
    refine v_iload_n C dX9_byteAt_4 rfl ?_
    refine v_aload_n C dX9_byteAt_5 rfl ?_
    obtain ⟨v, e, h⟩ := ob h
    refine v_getI C dX9_byteAt_6 gf_X9_31 e ?_
    refine v_icmp_lt (tgt := 16) C dX9_byteAt_9 (by decide) (fun c => ?_) (fun c => ?_)
    · replace h := ifT h c
      refine v_aload_n C dX9_byteAt_16 rfl ?_
      obtain ⟨v, e, h⟩ := ob h
      refine v_getR C dX9_byteAt_17 gf_X9_28 e ?_
      refine v_iload_n C dX9_byteAt_20 rfl ?_
      obtain ⟨v, e, h⟩ := ob h
      refine v_iaload C dX9_byteAt_21 e ?_
      exact v_sb (p_X9_byteAt_22 C F h) trivial
    · replace h := ifF h c
      exact v_sb (p_X9_byteAt_12 C F h) trivial
set_option maxRecDepth 100000 in
set_option maxHeartbeats 4000000 in
theorem c_X9_byteAt (l : Launch) (g : CG) (N : Nat) (a0 : Option Nat) (a1 : Int32) (μ : Mem) (rv : Int32) (μ9 : Mem) (h : f_X9_byteAt N a0 a1 μ = some (rv, μ9)) : Ct l yX9_byteAt mi_X9_byteAt g [aR a0, aI a1] μ (some (aI rv)) μ9 := ct_of ⟨by decide, rfl, rfl⟩ (Nat.le_of_ble_eq_true rfl) fun x C F => p_X9_byteAt C F h
def f_X9_skipBlanks_26 (N : Nat) (a2 : Int32) (μ : Mem) : Option (Int32 × Mem) :=
  some (a2, μ)
def H_X9_skipBlanks_2 (N : Nat) (k2 : (Option Nat) → Int32 → Mem → Option (Int32 × Mem)) (a0 : Option Nat) (a2 : Int32) (μ : Mem) : Option (Int32 × Mem) :=
  (mfI μ a0 9 7).bind fun v1 =>
  if v1 ≤ a2 then
    f_X9_skipBlanks_26 N a2 μ
  else
    (mck μ a0 9).bind fun b3 =>
    (f_X9_byteAt N (some b3) a2 μ).bind fun q2 =>
    if ¬ q2.1 = (32 : Int32) then
      f_X9_skipBlanks_26 N a2 q2.2
    else
      k2 a0 (a2 + 1) q2.2
def L_X9_skipBlanks_2 (N : Nat) : Nat → (Option Nat) → Int32 → Mem → Option (Int32 × Mem)
  | 0 => fun _ _ _ => none
  | n + 1 => H_X9_skipBlanks_2 N (L_X9_skipBlanks_2 N n)
def f_X9_skipBlanks (N : Nat) (a0 : Option Nat) (a1 : Int32) (μ : Mem) : Option (Int32 × Mem) :=
  L_X9_skipBlanks_2 N N a0 a1 μ
set_option maxRecDepth 100000 in
set_option maxHeartbeats 4000000 in
theorem p_X9_skipBlanks_26 {x : CX} {l : Launch} {g : CG} {rv : Int32} {μ0 μ9 : Mem} (C : Cx x l g mi_X9_skipBlanks) (F : Prom x g mi_X9_skipBlanks μ0 (some (aI rv)) μ9) {N : Nat} {a2 : Int32} {μ : Mem} (h : f_X9_skipBlanks_26 N a2 μ = some (rv, μ9)) : V x g 3 0 0 μ 26 [(2, aI a2)] [] := by
  unfold f_X9_skipBlanks_26 at h
  refine v_iload_n C dX9_skipBlanks_26 rfl ?_
  exact v_iret C F ⟨rfl, rfl, Nat.le_refl _⟩ dX9_skipBlanks_27 h
set_option maxRecDepth 100000 in
set_option maxHeartbeats 4000000 in
theorem pH_X9_skipBlanks_2 {x : CX} {l : Launch} {g : CG} {rv : Int32} {μ0 μ9 : Mem} (C : Cx x l g mi_X9_skipBlanks) (F : Prom x g mi_X9_skipBlanks μ0 (some (aI rv)) μ9) {N : Nat} {k2 : (Option Nat) → Int32 → Mem → Option (Int32 × Mem)} (hk2 : ∀ (a0 : Option Nat) (a2 : Int32) (μ : Mem), k2 a0 a2 μ = some (rv, μ9) → V x g 3 0 0 μ 2 [(0, aR a0), (2, aI a2)] []) {a0 : Option Nat} {a2 : Int32} {μ : Mem} (h : H_X9_skipBlanks_2 N k2 a0 a2 μ = some (rv, μ9)) : V x g 3 0 0 μ 2 [(0, aR a0), (2, aI a2)] [] := by
  unfold H_X9_skipBlanks_2 at h
  refine v_iload_n C dX9_skipBlanks_2 rfl ?_
  refine v_aload_n C dX9_skipBlanks_3 rfl ?_
  obtain ⟨v, e, h⟩ := ob h
  refine v_getI C dX9_skipBlanks_4 gf_X9_31 e ?_
  refine v_icmp_ge (tgt := 26) C dX9_skipBlanks_7 (by decide) (fun c => ?_) (fun c => ?_)
  · replace h := ifT h c
    exact v_sb (p_X9_skipBlanks_26 C F h) ⟨rfl, trivial⟩
  · replace h := ifF h c
    refine v_aload_n C dX9_skipBlanks_10 rfl ?_
    refine v_iload_n C dX9_skipBlanks_11 rfl ?_
    obtain ⟨b, e0, h⟩ := ob h
    obtain ⟨q, e, h⟩ := ob h
    refine v_callV (As := [_]) C dX9_skipBlanks_12 cf_X9_66 (rm_X9_skipBlanks_X9_byteAt) ⟨rfl, rfl⟩ e0 rfl (Nat.le_of_ble_eq_true rfl) (c_X9_byteAt _ _ N _ _ _ q.1 q.2 e) ?_
    refine v_bipush (v := 32) C dX9_skipBlanks_15 rfl ?_
    refine v_icmp_ne (tgt := 26) C dX9_skipBlanks_17 (by decide) (fun c => ?_) (fun c => ?_)
    · replace h := ifT h c
      exact v_sb (p_X9_skipBlanks_26 C F h) ⟨rfl, trivial⟩
    · replace h := ifF h c
      refine v_iinc (w := 1) C dX9_skipBlanks_20 rfl rfl (by decide) ?_
      refine v_goto (tgt := 2) C dX9_skipBlanks_23 (by decide) ?_
      exact v_sb (hk2 _ _ _ h) ⟨rfl, rfl, trivial⟩
set_option maxRecDepth 100000 in
set_option maxHeartbeats 4000000 in
theorem pL_X9_skipBlanks_2 {x : CX} {l : Launch} {g : CG} {rv : Int32} {μ0 μ9 : Mem} (C : Cx x l g mi_X9_skipBlanks) (F : Prom x g mi_X9_skipBlanks μ0 (some (aI rv)) μ9) (N : Nat) (n : Nat) : ∀ (a0 : Option Nat) (a2 : Int32) (μ : Mem), L_X9_skipBlanks_2 N n a0 a2 μ = some (rv, μ9) → V x g 3 0 0 μ 2 [(0, aR a0), (2, aI a2)] [] := by
  induction n with
  | zero => intro a0 a2 μ h; cases h
  | succ n ih => intro a0 a2 μ h; exact pH_X9_skipBlanks_2 C F ih h
set_option maxRecDepth 100000 in
set_option maxHeartbeats 4000000 in
theorem p_X9_skipBlanks {x : CX} {l : Launch} {g : CG} {rv : Int32} {μ0 μ9 : Mem} (C : Cx x l g mi_X9_skipBlanks) (F : Prom x g mi_X9_skipBlanks μ0 (some (aI rv)) μ9) {N : Nat} {a0 : Option Nat} {a1 : Int32} {μ : Mem} (h : f_X9_skipBlanks N a0 a1 μ = some (rv, μ9)) : V x g 3 0 0 μ 0 [(0, aR a0), (1, aI a1)] [] := by
  unfold f_X9_skipBlanks at h
  refine v_iload_n C dX9_skipBlanks_0 rfl ?_
  refine v_istore_n C dX9_skipBlanks_1 (by decide) ?_
  exact v_sb (pL_X9_skipBlanks_2 C F N N _ _ _ h) ⟨rfl, rfl, trivial⟩
set_option maxRecDepth 100000 in
set_option maxHeartbeats 4000000 in
theorem c_X9_skipBlanks (l : Launch) (g : CG) (N : Nat) (a0 : Option Nat) (a1 : Int32) (μ : Mem) (rv : Int32) (μ9 : Mem) (h : f_X9_skipBlanks N a0 a1 μ = some (rv, μ9)) : Ct l yX9_skipBlanks mi_X9_skipBlanks g [aR a0, aI a1] μ (some (aI rv)) μ9 := ct_of ⟨by decide, rfl, rfl⟩ (Nat.le_of_ble_eq_true rfl) fun x C F => p_X9_skipBlanks C F h
def f_X9_skipRemark_51 (N : Nat) (μ : Mem) : Option (Unit × Mem) :=
  some ((), μ)
def H_X9_skipRemark_14 (N : Nat) (k14 : (Option Nat) → Mem → Option (Unit × Mem)) (a0 : Option Nat) (μ : Mem) : Option (Unit × Mem) :=
  (mfI μ a0 9 8).bind fun v1 =>
  (mfI μ a0 9 7).bind fun v2 =>
  if v2 ≤ v1 then
    f_X9_skipRemark_51 N μ
  else
    (mfI μ a0 9 8).bind fun v3 =>
    (mck μ a0 9).bind fun b5 =>
    (f_X9_byteAt N (some b5) v3 μ).bind fun q4 =>
    if q4.1 = (10 : Int32) then
      f_X9_skipRemark_51 N q4.2
    else
      (mfI q4.2 a0 9 8).bind fun v6 =>
      (mpI q4.2 a0 9 8 (v6 + 1)).bind fun μ7 =>
      k14 a0 μ7
def L_X9_skipRemark_14 (N : Nat) : Nat → (Option Nat) → Mem → Option (Unit × Mem)
  | 0 => fun _ _ => none
  | n + 1 => H_X9_skipRemark_14 N (L_X9_skipRemark_14 N n)
def f_X9_skipRemark (N : Nat) (a0 : Option Nat) (μ : Mem) : Option (Unit × Mem) :=
  (mfI μ a0 9 8).bind fun v1 =>
  (mck μ a0 9).bind fun b3 =>
  (f_X9_byteAt N (some b3) v1 μ).bind fun q2 =>
  if q2.1 = (47 : Int32) then
    L_X9_skipRemark_14 N N a0 q2.2
  else
    some ((), q2.2)
set_option maxRecDepth 100000 in
set_option maxHeartbeats 4000000 in
theorem p_X9_skipRemark_51 {x : CX} {l : Launch} {g : CG} {rv : Unit} {μ0 μ9 : Mem} (C : Cx x l g mi_X9_skipRemark) (F : Prom x g mi_X9_skipRemark μ0 none μ9) {N : Nat} {μ : Mem} (h : f_X9_skipRemark_51 N μ = some (rv, μ9)) : V x g 1 0 0 μ 51 [] [] := by
  unfold f_X9_skipRemark_51 at h
  exact v_vret C F ⟨rfl, rfl, Nat.le_refl _⟩ dX9_skipRemark_51 h
set_option maxRecDepth 100000 in
set_option maxHeartbeats 4000000 in
theorem pH_X9_skipRemark_14 {x : CX} {l : Launch} {g : CG} {rv : Unit} {μ0 μ9 : Mem} (C : Cx x l g mi_X9_skipRemark) (F : Prom x g mi_X9_skipRemark μ0 none μ9) {N : Nat} {k14 : (Option Nat) → Mem → Option (Unit × Mem)} (hk14 : ∀ (a0 : Option Nat) (μ : Mem), k14 a0 μ = some (rv, μ9) → V x g 1 0 0 μ 14 [(0, aR a0)] []) {a0 : Option Nat} {μ : Mem} (h : H_X9_skipRemark_14 N k14 a0 μ = some (rv, μ9)) : V x g 1 0 0 μ 14 [(0, aR a0)] [] := by
  unfold H_X9_skipRemark_14 at h
  refine v_aload_n C dX9_skipRemark_14 rfl ?_
  obtain ⟨v, e, h⟩ := ob h
  refine v_getI C dX9_skipRemark_15 gf_X9_34 e ?_
  refine v_aload_n C dX9_skipRemark_18 rfl ?_
  obtain ⟨v, e, h⟩ := ob h
  refine v_getI C dX9_skipRemark_19 gf_X9_31 e ?_
  refine v_icmp_ge (tgt := 51) C dX9_skipRemark_22 (by decide) (fun c => ?_) (fun c => ?_)
  · replace h := ifT h c
    exact v_sb (p_X9_skipRemark_51 C F h) trivial
  · replace h := ifF h c
    refine v_aload_n C dX9_skipRemark_25 rfl ?_
    refine v_aload_n C dX9_skipRemark_26 rfl ?_
    obtain ⟨v, e, h⟩ := ob h
    refine v_getI C dX9_skipRemark_27 gf_X9_34 e ?_
    obtain ⟨b, e0, h⟩ := ob h
    obtain ⟨q, e, h⟩ := ob h
    refine v_callV (As := [_]) C dX9_skipRemark_30 cf_X9_66 (rm_X9_skipRemark_X9_byteAt) ⟨rfl, rfl⟩ e0 rfl (Nat.le_of_ble_eq_true rfl) (c_X9_byteAt _ _ N _ _ _ q.1 q.2 e) ?_
    refine v_bipush (v := 10) C dX9_skipRemark_33 rfl ?_
    refine v_icmp_eq (tgt := 51) C dX9_skipRemark_35 (by decide) (fun c => ?_) (fun c => ?_)
    · replace h := ifT h c
      exact v_sb (p_X9_skipRemark_51 C F h) trivial
    · replace h := ifF h c
      refine v_aload_n C dX9_skipRemark_38 rfl ?_
      refine v_dup C dX9_skipRemark_39 rfl ?_
      obtain ⟨v, e, h⟩ := ob h
      refine v_getI C dX9_skipRemark_40 gf_X9_34 e ?_
      refine v_iconst (v := 1) C dX9_skipRemark_43 rfl ?_
      refine v_iadd C dX9_skipRemark_44 ?_
      obtain ⟨m, e, h⟩ := ob h
      refine v_putI C dX9_skipRemark_45 (pf_X9_34 _) e ?_
      refine v_goto (tgt := 14) C dX9_skipRemark_48 (by decide) ?_
      exact v_sb (hk14 _ _ h) ⟨rfl, trivial⟩
set_option maxRecDepth 100000 in
set_option maxHeartbeats 4000000 in
theorem pL_X9_skipRemark_14 {x : CX} {l : Launch} {g : CG} {rv : Unit} {μ0 μ9 : Mem} (C : Cx x l g mi_X9_skipRemark) (F : Prom x g mi_X9_skipRemark μ0 none μ9) (N : Nat) (n : Nat) : ∀ (a0 : Option Nat) (μ : Mem), L_X9_skipRemark_14 N n a0 μ = some (rv, μ9) → V x g 1 0 0 μ 14 [(0, aR a0)] [] := by
  induction n with
  | zero => intro a0 μ h; cases h
  | succ n ih => intro a0 μ h; exact pH_X9_skipRemark_14 C F ih h
set_option maxRecDepth 100000 in
set_option maxHeartbeats 4000000 in
theorem p_X9_skipRemark {x : CX} {l : Launch} {g : CG} {rv : Unit} {μ0 μ9 : Mem} (C : Cx x l g mi_X9_skipRemark) (F : Prom x g mi_X9_skipRemark μ0 none μ9) {N : Nat} {a0 : Option Nat} {μ : Mem} (h : f_X9_skipRemark N a0 μ = some (rv, μ9)) : V x g 1 0 0 μ 0 [(0, aR a0)] [] := by
  unfold f_X9_skipRemark at h
  refine v_aload_n C dX9_skipRemark_0 rfl ?_
  refine v_aload_n C dX9_skipRemark_1 rfl ?_
  obtain ⟨v, e, h⟩ := ob h
  refine v_getI C dX9_skipRemark_2 gf_X9_34 e ?_
  obtain ⟨b, e0, h⟩ := ob h
  obtain ⟨q, e, h⟩ := ob h
  refine v_callV (As := [_]) C dX9_skipRemark_5 cf_X9_66 (rm_X9_skipRemark_X9_byteAt) ⟨rfl, rfl⟩ e0 rfl (Nat.le_of_ble_eq_true rfl) (c_X9_byteAt _ _ N _ _ _ q.1 q.2 e) ?_
  refine v_bipush (v := 47) C dX9_skipRemark_8 rfl ?_
  refine v_icmp_eq (tgt := 14) C dX9_skipRemark_10 (by decide) (fun c => ?_) (fun c => ?_)
  · replace h := ifT h c
    exact v_sb (pL_X9_skipRemark_14 C F N N _ _ h) ⟨rfl, trivial⟩
  · replace h := ifF h c
    exact v_vret C F ⟨rfl, rfl, Nat.le_refl _⟩ dX9_skipRemark_13 h
set_option maxRecDepth 100000 in
set_option maxHeartbeats 4000000 in
theorem c_X9_skipRemark (l : Launch) (g : CG) (N : Nat) (a0 : Option Nat) (μ : Mem) (rv : Unit) (μ9 : Mem) (h : f_X9_skipRemark N a0 μ = some (rv, μ9)) : Ct l yX9_skipRemark mi_X9_skipRemark g [aR a0] μ none μ9 := ct_of ⟨by decide, rfl, rfl⟩ (Nat.le_of_ble_eq_true rfl) fun x C F => p_X9_skipRemark C F h
def f_X9_append_66 (N : Nat) (a0 : Option Nat) (a1 : Int32) (a2 : Int32) (μ : Mem) : Option (Int32 × Mem) :=
  (mpI μ a0 9 8 a2).bind fun μ1 =>
  some (a1, μ1)
def f_X9_append (N : Nat) (a0 : Option Nat) (a1 : Int32) (a2 : Int32) (a3 : Int32) (a4 : Int32) (μ : Mem) : Option (Int32 × Mem) :=
  (mfI μ a0 9 5).bind fun v1 =>
  (mfR μ a0 9 1).bind fun v2 =>
  (mal μ v2).bind fun v3 =>
  if v3 ≤ v1 then
    f_X9_append_66 N a0 a1 a2 μ
  else
    (mfR μ a0 9 1).bind fun v4 =>
    (mfI μ a0 9 5).bind fun v5 =>
    (mbI μ 0 v4 v5 a1).bind fun μ6 =>
    (mfR μ6 a0 9 2).bind fun v7 =>
    (mfI μ6 a0 9 5).bind fun v8 =>
    (mfI μ6 a0 9 8).bind fun v9 =>
    (mbI μ6 0 v7 v8 v9).bind fun μ10 =>
    (mfR μ10 a0 9 3).bind fun v11 =>
    (mfI μ10 a0 9 5).bind fun v12 =>
    (mbI μ10 0 v11 v12 a3).bind fun μ13 =>
    (mfR μ13 a0 9 4).bind fun v14 =>
    (mfI μ13 a0 9 5).bind fun v15 =>
    (mbI μ13 0 v14 v15 a4).bind fun μ16 =>
    (mfI μ16 a0 9 5).bind fun v17 =>
    (mpI μ16 a0 9 5 (v17 + 1)).bind fun μ18 =>
    f_X9_append_66 N a0 a1 a2 μ18
set_option maxRecDepth 100000 in
set_option maxHeartbeats 4000000 in
theorem p_X9_append_66 {x : CX} {l : Launch} {g : CG} {rv : Int32} {μ0 μ9 : Mem} (C : Cx x l g mi_X9_append) (F : Prom x g mi_X9_append μ0 (some (aI rv)) μ9) {N : Nat} {a0 : Option Nat} {a1 : Int32} {a2 : Int32} {μ : Mem} (h : f_X9_append_66 N a0 a1 a2 μ = some (rv, μ9)) : V x g 5 0 0 μ 66 [(0, aR a0), (1, aI a1), (2, aI a2)] [] := by
  unfold f_X9_append_66 at h
  refine v_aload_n C dX9_append_66 rfl ?_
  refine v_iload_n C dX9_append_67 rfl ?_
  obtain ⟨m, e, h⟩ := ob h
  refine v_putI C dX9_append_68 (pf_X9_34 _) e ?_
  refine v_iload_n C dX9_append_71 rfl ?_
  exact v_iret C F ⟨rfl, rfl, Nat.le_refl _⟩ dX9_append_72 h
set_option maxRecDepth 100000 in
set_option maxHeartbeats 4000000 in
theorem p_X9_append {x : CX} {l : Launch} {g : CG} {rv : Int32} {μ0 μ9 : Mem} (C : Cx x l g mi_X9_append) (F : Prom x g mi_X9_append μ0 (some (aI rv)) μ9) {N : Nat} {a0 : Option Nat} {a1 : Int32} {a2 : Int32} {a3 : Int32} {a4 : Int32} {μ : Mem} (h : f_X9_append N a0 a1 a2 a3 a4 μ = some (rv, μ9)) : V x g 5 0 0 μ 0 [(0, aR a0), (1, aI a1), (2, aI a2), (3, aI a3), (4, aI a4)] [] := by
  unfold f_X9_append at h
  refine v_aload_n C dX9_append_0 rfl ?_
  obtain ⟨v, e, h⟩ := ob h
  refine v_getI C dX9_append_1 gf_X9_24 e ?_
  refine v_aload_n C dX9_append_4 rfl ?_
  obtain ⟨v, e, h⟩ := ob h
  refine v_getR C dX9_append_5 gf_X9_9 e ?_
  obtain ⟨v, e, h⟩ := ob h
  refine v_alen C dX9_append_8 e ?_
  refine v_icmp_ge (tgt := 66) C dX9_append_9 (by decide) (fun c => ?_) (fun c => ?_)
  · replace h := ifT h c
    exact v_sb (p_X9_append_66 C F h) ⟨rfl, rfl, rfl, trivial⟩
  · replace h := ifF h c
    refine v_aload_n C dX9_append_12 rfl ?_
    obtain ⟨v, e, h⟩ := ob h
    refine v_getR C dX9_append_13 gf_X9_9 e ?_
    refine v_aload_n C dX9_append_16 rfl ?_
    obtain ⟨v, e, h⟩ := ob h
    refine v_getI C dX9_append_17 gf_X9_24 e ?_
    refine v_iload_n C dX9_append_20 rfl ?_
    obtain ⟨m, e, h⟩ := ob h
    refine v_iastore C dX9_append_21 e ?_
    refine v_aload_n C dX9_append_22 rfl ?_
    obtain ⟨v, e, h⟩ := ob h
    refine v_getR C dX9_append_23 gf_X9_15 e ?_
    refine v_aload_n C dX9_append_26 rfl ?_
    obtain ⟨v, e, h⟩ := ob h
    refine v_getI C dX9_append_27 gf_X9_24 e ?_
    refine v_aload_n C dX9_append_30 rfl ?_
    obtain ⟨v, e, h⟩ := ob h
    refine v_getI C dX9_append_31 gf_X9_34 e ?_
    obtain ⟨m, e, h⟩ := ob h
    refine v_iastore C dX9_append_34 e ?_
    refine v_aload_n C dX9_append_35 rfl ?_
    obtain ⟨v, e, h⟩ := ob h
    refine v_getR C dX9_append_36 gf_X9_18 e ?_
    refine v_aload_n C dX9_append_39 rfl ?_
    obtain ⟨v, e, h⟩ := ob h
    refine v_getI C dX9_append_40 gf_X9_24 e ?_
    refine v_iload_n C dX9_append_43 rfl ?_
    obtain ⟨m, e, h⟩ := ob h
    refine v_iastore C dX9_append_44 e ?_
    refine v_aload_n C dX9_append_45 rfl ?_
    obtain ⟨v, e, h⟩ := ob h
    refine v_getR C dX9_append_46 gf_X9_21 e ?_
    refine v_aload_n C dX9_append_49 rfl ?_
    obtain ⟨v, e, h⟩ := ob h
    refine v_getI C dX9_append_50 gf_X9_24 e ?_
    refine v_iload C dX9_append_53 rfl ?_
    obtain ⟨m, e, h⟩ := ob h
    refine v_iastore C dX9_append_55 e ?_
    refine v_aload_n C dX9_append_56 rfl ?_
    refine v_dup C dX9_append_57 rfl ?_
    obtain ⟨v, e, h⟩ := ob h
    refine v_getI C dX9_append_58 gf_X9_24 e ?_
    refine v_iconst (v := 1) C dX9_append_61 rfl ?_
    refine v_iadd C dX9_append_62 ?_
    obtain ⟨m, e, h⟩ := ob h
    refine v_putI C dX9_append_63 (pf_X9_24 _) e ?_
    exact v_sb (p_X9_append_66 C F h) ⟨rfl, rfl, rfl, trivial⟩
set_option maxRecDepth 100000 in
set_option maxHeartbeats 4000000 in
theorem c_X9_append (l : Launch) (g : CG) (N : Nat) (a0 : Option Nat) (a1 : Int32) (a2 : Int32) (a3 : Int32) (a4 : Int32) (μ : Mem) (rv : Int32) (μ9 : Mem) (h : f_X9_append N a0 a1 a2 a3 a4 μ = some (rv, μ9)) : Ct l yX9_append mi_X9_append g [aR a0, aI a1, aI a2, aI a3, aI a4] μ (some (aI rv)) μ9 := ct_of ⟨by decide, rfl, rfl⟩ (Nat.le_of_ble_eq_true rfl) fun x C F => p_X9_append C F h
def f_X9_isLetter_17 (N : Nat) (s0 : Int32) (μ : Mem) : Option (Int32 × Mem) :=
  retZ s0 μ
def f_X9_isLetter_16 (N : Nat) (μ : Mem) : Option (Int32 × Mem) :=
  f_X9_isLetter_17 N 0 μ
def f_X9_isLetter (N : Nat) (a0 : Int32) (μ : Mem) : Option (Int32 × Mem) :=
  if a0 < (65 : Int32) then
    f_X9_isLetter_16 N μ
  else
    if (90 : Int32) < a0 then
      f_X9_isLetter_16 N μ
    else
      f_X9_isLetter_17 N 1 μ
set_option maxRecDepth 100000 in
set_option maxHeartbeats 4000000 in
theorem p_X9_isLetter_17 {x : CX} {l : Launch} {g : CG} {rv : Int32} {μ0 μ9 : Mem} (C : Cx x l g mi_X9_isLetter) (F : Prom x g mi_X9_isLetter μ0 (some (aI rv)) μ9) {N : Nat} {s0 : Int32} {μ : Mem} (h : f_X9_isLetter_17 N s0 μ = some (rv, μ9)) : V x g 1 0 0 μ 17 [] [aI s0] := by
  unfold f_X9_isLetter_17 at h
  exact v_zret C F ⟨rfl, rfl, Nat.le_refl _⟩ dX9_isLetter_17 h
set_option maxRecDepth 100000 in
set_option maxHeartbeats 4000000 in
theorem p_X9_isLetter_16 {x : CX} {l : Launch} {g : CG} {rv : Int32} {μ0 μ9 : Mem} (C : Cx x l g mi_X9_isLetter) (F : Prom x g mi_X9_isLetter μ0 (some (aI rv)) μ9) {N : Nat} {μ : Mem} (h : f_X9_isLetter_16 N μ = some (rv, μ9)) : V x g 1 0 0 μ 16 [] [] := by
  unfold f_X9_isLetter_16 at h
  refine v_iconst (v := 0) C dX9_isLetter_16 rfl ?_
  exact v_sb (p_X9_isLetter_17 C F h) trivial
set_option maxRecDepth 100000 in
set_option maxHeartbeats 4000000 in
theorem p_X9_isLetter {x : CX} {l : Launch} {g : CG} {rv : Int32} {μ0 μ9 : Mem} (C : Cx x l g mi_X9_isLetter) (F : Prom x g mi_X9_isLetter μ0 (some (aI rv)) μ9) {N : Nat} {a0 : Int32} {μ : Mem} (h : f_X9_isLetter N a0 μ = some (rv, μ9)) : V x g 1 0 0 μ 0 [(0, aI a0)] [] := by
  unfold f_X9_isLetter at h
  refine v_iload_n C dX9_isLetter_0 rfl ?_
  refine v_bipush (v := 65) C dX9_isLetter_1 rfl ?_
  refine v_icmp_lt (tgt := 16) C dX9_isLetter_3 (by decide) (fun c => ?_) (fun c => ?_)
  · replace h := ifT h c
    exact v_sb (p_X9_isLetter_16 C F h) trivial
  · replace h := ifF h c
    refine v_iload_n C dX9_isLetter_6 rfl ?_
    refine v_bipush (v := 90) C dX9_isLetter_7 rfl ?_
    refine v_icmp_gt (tgt := 16) C dX9_isLetter_9 (by decide) (fun c => ?_) (fun c => ?_)
    · replace h := ifT h c
      exact v_sb (p_X9_isLetter_16 C F h) trivial
    · replace h := ifF h c
      refine v_iconst (v := 1) C dX9_isLetter_12 rfl ?_
      refine v_goto (tgt := 17) C dX9_isLetter_13 (by decide) ?_
      exact v_sb (p_X9_isLetter_17 C F h) trivial
set_option maxRecDepth 100000 in
set_option maxHeartbeats 4000000 in
theorem c_X9_isLetter (l : Launch) (g : CG) (N : Nat) (a0 : Int32) (μ : Mem) (rv : Int32) (μ9 : Mem) (h : f_X9_isLetter N a0 μ = some (rv, μ9)) : Ct l yX9_isLetter mi_X9_isLetter g [aI a0] μ (some (aI rv)) μ9 := ct_of ⟨by decide, rfl, rfl⟩ (Nat.le_of_ble_eq_true rfl) fun x C F => p_X9_isLetter C F h
def f_X9_isDigit_17 (N : Nat) (s0 : Int32) (μ : Mem) : Option (Int32 × Mem) :=
  retZ s0 μ
def f_X9_isDigit_16 (N : Nat) (μ : Mem) : Option (Int32 × Mem) :=
  f_X9_isDigit_17 N 0 μ
def f_X9_isDigit (N : Nat) (a0 : Int32) (μ : Mem) : Option (Int32 × Mem) :=
  if a0 < (48 : Int32) then
    f_X9_isDigit_16 N μ
  else
    if (57 : Int32) < a0 then
      f_X9_isDigit_16 N μ
    else
      f_X9_isDigit_17 N 1 μ
set_option maxRecDepth 100000 in
set_option maxHeartbeats 4000000 in
theorem p_X9_isDigit_17 {x : CX} {l : Launch} {g : CG} {rv : Int32} {μ0 μ9 : Mem} (C : Cx x l g mi_X9_isDigit) (F : Prom x g mi_X9_isDigit μ0 (some (aI rv)) μ9) {N : Nat} {s0 : Int32} {μ : Mem} (h : f_X9_isDigit_17 N s0 μ = some (rv, μ9)) : V x g 1 0 0 μ 17 [] [aI s0] := by
  unfold f_X9_isDigit_17 at h
  exact v_zret C F ⟨rfl, rfl, Nat.le_refl _⟩ dX9_isDigit_17 h
set_option maxRecDepth 100000 in
set_option maxHeartbeats 4000000 in
theorem p_X9_isDigit_16 {x : CX} {l : Launch} {g : CG} {rv : Int32} {μ0 μ9 : Mem} (C : Cx x l g mi_X9_isDigit) (F : Prom x g mi_X9_isDigit μ0 (some (aI rv)) μ9) {N : Nat} {μ : Mem} (h : f_X9_isDigit_16 N μ = some (rv, μ9)) : V x g 1 0 0 μ 16 [] [] := by
  unfold f_X9_isDigit_16 at h
  refine v_iconst (v := 0) C dX9_isDigit_16 rfl ?_
  exact v_sb (p_X9_isDigit_17 C F h) trivial
set_option maxRecDepth 100000 in
set_option maxHeartbeats 4000000 in
theorem p_X9_isDigit {x : CX} {l : Launch} {g : CG} {rv : Int32} {μ0 μ9 : Mem} (C : Cx x l g mi_X9_isDigit) (F : Prom x g mi_X9_isDigit μ0 (some (aI rv)) μ9) {N : Nat} {a0 : Int32} {μ : Mem} (h : f_X9_isDigit N a0 μ = some (rv, μ9)) : V x g 1 0 0 μ 0 [(0, aI a0)] [] := by
  unfold f_X9_isDigit at h
  refine v_iload_n C dX9_isDigit_0 rfl ?_
  refine v_bipush (v := 48) C dX9_isDigit_1 rfl ?_
  refine v_icmp_lt (tgt := 16) C dX9_isDigit_3 (by decide) (fun c => ?_) (fun c => ?_)
  · replace h := ifT h c
    exact v_sb (p_X9_isDigit_16 C F h) trivial
  · replace h := ifF h c
    refine v_iload_n C dX9_isDigit_6 rfl ?_
    refine v_bipush (v := 57) C dX9_isDigit_7 rfl ?_
    refine v_icmp_gt (tgt := 16) C dX9_isDigit_9 (by decide) (fun c => ?_) (fun c => ?_)
    · replace h := ifT h c
      exact v_sb (p_X9_isDigit_16 C F h) trivial
    · replace h := ifF h c
      refine v_iconst (v := 1) C dX9_isDigit_12 rfl ?_
      refine v_goto (tgt := 17) C dX9_isDigit_13 (by decide) ?_
      exact v_sb (p_X9_isDigit_17 C F h) trivial
set_option maxRecDepth 100000 in
set_option maxHeartbeats 4000000 in
theorem c_X9_isDigit (l : Launch) (g : CG) (N : Nat) (a0 : Int32) (μ : Mem) (rv : Int32) (μ9 : Mem) (h : f_X9_isDigit N a0 μ = some (rv, μ9)) : Ct l yX9_isDigit mi_X9_isDigit g [aI a0] μ (some (aI rv)) μ9 := ct_of ⟨by decide, rfl, rfl⟩ (Nat.le_of_ble_eq_true rfl) fun x C F => p_X9_isDigit C F h
def H_X4_numberOf_2 (N : Nat) (k2 : (Option Nat) → Int64 → Int32 → Mem → Option (Int32 × Mem)) (a0 : Option Nat) (a1 : Int64) (a3 : Int32) (μ : Mem) : Option (Int32 × Mem) :=
  (mfI μ a0 4 3).bind fun v1 =>
  if v1 ≤ a3 then
    (mfI μ a0 4 3).bind fun v2 =>
    (mfR μ a0 4 0).bind fun v3 =>
    (mal μ v3).bind fun v4 =>
    if v2 < v4 then
      (mfR μ a0 4 0).bind fun v5 =>
      (mfI μ a0 4 3).bind fun v6 =>
      (mbJ μ 1 v5 v6 a1).bind fun μ7 =>
      (mfR μ7 a0 4 1).bind fun v8 =>
      (mfI μ7 a0 4 3).bind fun v9 =>
      (mbI μ7 0 v8 v9 0).bind fun μ10 =>
      (mfR μ10 a0 4 2).bind fun v11 =>
      (mfI μ10 a0 4 3).bind fun v12 =>
      (mbI μ10 0 v11 v12 0).bind fun μ13 =>
      (mfI μ13 a0 4 3).bind fun v14 =>
      (mpI μ13 a0 4 3 (v14 + 1)).bind fun μ15 =>
      (mfI μ15 a0 4 3).bind fun v16 =>
      some (v16 - 1, μ15)
    else
      some ((-1), μ)
  else
    (mfR μ a0 4 0).bind fun v17 =>
    (maJ μ 1 v17 a3).bind fun v18 =>
    if ¬ (lg_cmp v18 a1) = 0 then
      k2 a0 a1 (a3 + 1) μ
    else
      some (a3, μ)
def L_X4_numberOf_2 (N : Nat) : Nat → (Option Nat) → Int64 → Int32 → Mem → Option (Int32 × Mem)
  | 0 => fun _ _ _ _ => none
  | n + 1 => H_X4_numberOf_2 N (L_X4_numberOf_2 N n)
def f_X4_numberOf (N : Nat) (a0 : Option Nat) (a1 : Int64) (μ : Mem) : Option (Int32 × Mem) :=
  L_X4_numberOf_2 N N a0 a1 0 μ
set_option maxRecDepth 100000 in
set_option maxHeartbeats 4000000 in
theorem pH_X4_numberOf_2 {x : CX} {l : Launch} {g : CG} {rv : Int32} {μ0 μ9 : Mem} (C : Cx x l g mi_X4_numberOf) (F : Prom x g mi_X4_numberOf μ0 (some (aI rv)) μ9) {N : Nat} {k2 : (Option Nat) → Int64 → Int32 → Mem → Option (Int32 × Mem)} (hk2 : ∀ (a0 : Option Nat) (a1 : Int64) (a3 : Int32) (μ : Mem), k2 a0 a1 a3 μ = some (rv, μ9) → V x g 4 0 0 μ 2 [(0, aR a0), (1, aJ a1), (3, aI a3)] []) {a0 : Option Nat} {a1 : Int64} {a3 : Int32} {μ : Mem} (h : H_X4_numberOf_2 N k2 a0 a1 a3 μ = some (rv, μ9)) : V x g 4 0 0 μ 2 [(0, aR a0), (1, aJ a1), (3, aI a3)] [] := by
  unfold H_X4_numberOf_2 at h
  refine v_iload_n C dX4_numberOf_2 rfl ?_
  refine v_aload_n C dX4_numberOf_3 rfl ?_
  obtain ⟨v, e, h⟩ := ob h
  refine v_getI C dX4_numberOf_4 gf_X4_25 e ?_
  refine v_icmp_ge (tgt := 29) C dX4_numberOf_7 (by decide) (fun c => ?_) (fun c => ?_)
  · replace h := ifT h c
    refine v_aload_n C dX4_numberOf_29 rfl ?_
    obtain ⟨v, e, h⟩ := ob h
    refine v_getI C dX4_numberOf_30 gf_X4_25 e ?_
    refine v_aload_n C dX4_numberOf_33 rfl ?_
    obtain ⟨v, e, h⟩ := ob h
    refine v_getR C dX4_numberOf_34 gf_X4_15 e ?_
    obtain ⟨v, e, h⟩ := ob h
    refine v_alen C dX4_numberOf_37 e ?_
    refine v_icmp_lt (tgt := 43) C dX4_numberOf_38 (by decide) (fun c => ?_) (fun c => ?_)
    · replace h := ifT h c
      refine v_aload_n C dX4_numberOf_43 rfl ?_
      obtain ⟨v, e, h⟩ := ob h
      refine v_getR C dX4_numberOf_44 gf_X4_15 e ?_
      refine v_aload_n C dX4_numberOf_47 rfl ?_
      obtain ⟨v, e, h⟩ := ob h
      refine v_getI C dX4_numberOf_48 gf_X4_25 e ?_
      refine v_lload_n C dX4_numberOf_51 rfl ?_
      obtain ⟨m, e, h⟩ := ob h
      refine v_lastore C dX4_numberOf_52 e ?_
      refine v_aload_n C dX4_numberOf_53 rfl ?_
      obtain ⟨v, e, h⟩ := ob h
      refine v_getR C dX4_numberOf_54 gf_X4_19 e ?_
      refine v_aload_n C dX4_numberOf_57 rfl ?_
      obtain ⟨v, e, h⟩ := ob h
      refine v_getI C dX4_numberOf_58 gf_X4_25 e ?_
      refine v_iconst (v := 0) C dX4_numberOf_61 rfl ?_
      obtain ⟨m, e, h⟩ := ob h
      refine v_iastore C dX4_numberOf_62 e ?_
      refine v_aload_n C dX4_numberOf_63 rfl ?_
      obtain ⟨v, e, h⟩ := ob h
      refine v_getR C dX4_numberOf_64 gf_X4_22 e ?_
      refine v_aload_n C dX4_numberOf_67 rfl ?_
      obtain ⟨v, e, h⟩ := ob h
      refine v_getI C dX4_numberOf_68 gf_X4_25 e ?_
      refine v_iconst (v := 0) C dX4_numberOf_71 rfl ?_
      obtain ⟨m, e, h⟩ := ob h
      refine v_iastore C dX4_numberOf_72 e ?_
      refine v_aload_n C dX4_numberOf_73 rfl ?_
      refine v_dup C dX4_numberOf_74 rfl ?_
      obtain ⟨v, e, h⟩ := ob h
      refine v_getI C dX4_numberOf_75 gf_X4_25 e ?_
      refine v_iconst (v := 1) C dX4_numberOf_78 rfl ?_
      refine v_iadd C dX4_numberOf_79 ?_
      obtain ⟨m, e, h⟩ := ob h
      refine v_putI C dX4_numberOf_80 (pf_X4_25 _) e ?_
      refine v_aload_n C dX4_numberOf_83 rfl ?_
      obtain ⟨v, e, h⟩ := ob h
      refine v_getI C dX4_numberOf_84 gf_X4_25 e ?_
      refine v_iconst (v := 1) C dX4_numberOf_87 rfl ?_
      refine v_isub C dX4_numberOf_88 ?_
      exact v_iret C F ⟨rfl, rfl, Nat.le_refl _⟩ dX4_numberOf_89 h
    · replace h := ifF h c
      refine v_iconst (v := -1) C dX4_numberOf_41 rfl ?_
      exact v_iret C F ⟨rfl, rfl, Nat.le_refl _⟩ dX4_numberOf_42 h
  · replace h := ifF h c
    refine v_aload_n C dX4_numberOf_10 rfl ?_
    obtain ⟨v, e, h⟩ := ob h
    refine v_getR C dX4_numberOf_11 gf_X4_15 e ?_
    refine v_iload_n C dX4_numberOf_14 rfl ?_
    obtain ⟨v, e, h⟩ := ob h
    refine v_laload C dX4_numberOf_15 e ?_
    refine v_lload_n C dX4_numberOf_16 rfl ?_
    refine v_lcmp C dX4_numberOf_17 ?_
    refine v_if_ne (tgt := 23) C dX4_numberOf_18 (by decide) (fun c => ?_) (fun c => ?_)
    · replace h := ifT h c
      refine v_iinc (w := 1) C dX4_numberOf_23 rfl rfl (by decide) ?_
      refine v_goto (tgt := 2) C dX4_numberOf_26 (by decide) ?_
      exact v_sb (hk2 _ _ _ _ h) ⟨rfl, rfl, rfl, trivial⟩
    · replace h := ifF h c
      refine v_iload_n C dX4_numberOf_21 rfl ?_
      exact v_iret C F ⟨rfl, rfl, Nat.le_refl _⟩ dX4_numberOf_22 h
set_option maxRecDepth 100000 in
set_option maxHeartbeats 4000000 in
theorem pL_X4_numberOf_2 {x : CX} {l : Launch} {g : CG} {rv : Int32} {μ0 μ9 : Mem} (C : Cx x l g mi_X4_numberOf) (F : Prom x g mi_X4_numberOf μ0 (some (aI rv)) μ9) (N : Nat) (n : Nat) : ∀ (a0 : Option Nat) (a1 : Int64) (a3 : Int32) (μ : Mem), L_X4_numberOf_2 N n a0 a1 a3 μ = some (rv, μ9) → V x g 4 0 0 μ 2 [(0, aR a0), (1, aJ a1), (3, aI a3)] [] := by
  induction n with
  | zero => intro a0 a1 a3 μ h; cases h
  | succ n ih => intro a0 a1 a3 μ h; exact pH_X4_numberOf_2 C F ih h
set_option maxRecDepth 100000 in
set_option maxHeartbeats 4000000 in
theorem p_X4_numberOf {x : CX} {l : Launch} {g : CG} {rv : Int32} {μ0 μ9 : Mem} (C : Cx x l g mi_X4_numberOf) (F : Prom x g mi_X4_numberOf μ0 (some (aI rv)) μ9) {N : Nat} {a0 : Option Nat} {a1 : Int64} {μ : Mem} (h : f_X4_numberOf N a0 a1 μ = some (rv, μ9)) : V x g 4 0 0 μ 0 [(0, aR a0), (1, aJ a1)] [] := by
  unfold f_X4_numberOf at h
  refine v_iconst (v := 0) C dX4_numberOf_0 rfl ?_
  refine v_istore_n C dX4_numberOf_1 (by decide) ?_
  exact v_sb (pL_X4_numberOf_2 C F N N _ _ _ _ h) ⟨rfl, rfl, rfl, trivial⟩
set_option maxRecDepth 100000 in
set_option maxHeartbeats 4000000 in
theorem c_X4_numberOf (l : Launch) (g : CG) (N : Nat) (a0 : Option Nat) (a1 : Int64) (μ : Mem) (rv : Int32) (μ9 : Mem) (h : f_X4_numberOf N a0 a1 μ = some (rv, μ9)) : Ct l yX4_numberOf mi_X4_numberOf g [aR a0, aJ a1] μ (some (aI rv)) μ9 := ct_of ⟨by decide, rfl, rfl⟩ (Nat.le_of_ble_eq_true rfl) fun x C F => p_X4_numberOf C F h
def f_X9_isPlain_17 (N : Nat) (s0 : Int32) (μ : Mem) : Option (Int32 × Mem) :=
  retZ s0 μ
def f_X9_isPlain_16 (N : Nat) (μ : Mem) : Option (Int32 × Mem) :=
  f_X9_isPlain_17 N 0 μ
def f_X9_isPlain (N : Nat) (a0 : Int32) (μ : Mem) : Option (Int32 × Mem) :=
  if a0 < (32 : Int32) then
    f_X9_isPlain_16 N μ
  else
    if (126 : Int32) < a0 then
      f_X9_isPlain_16 N μ
    else
      f_X9_isPlain_17 N 1 μ
set_option maxRecDepth 100000 in
set_option maxHeartbeats 4000000 in
theorem p_X9_isPlain_17 {x : CX} {l : Launch} {g : CG} {rv : Int32} {μ0 μ9 : Mem} (C : Cx x l g mi_X9_isPlain) (F : Prom x g mi_X9_isPlain μ0 (some (aI rv)) μ9) {N : Nat} {s0 : Int32} {μ : Mem} (h : f_X9_isPlain_17 N s0 μ = some (rv, μ9)) : V x g 1 0 0 μ 17 [] [aI s0] := by
  unfold f_X9_isPlain_17 at h
  exact v_zret C F ⟨rfl, rfl, Nat.le_refl _⟩ dX9_isPlain_17 h
set_option maxRecDepth 100000 in
set_option maxHeartbeats 4000000 in
theorem p_X9_isPlain_16 {x : CX} {l : Launch} {g : CG} {rv : Int32} {μ0 μ9 : Mem} (C : Cx x l g mi_X9_isPlain) (F : Prom x g mi_X9_isPlain μ0 (some (aI rv)) μ9) {N : Nat} {μ : Mem} (h : f_X9_isPlain_16 N μ = some (rv, μ9)) : V x g 1 0 0 μ 16 [] [] := by
  unfold f_X9_isPlain_16 at h
  refine v_iconst (v := 0) C dX9_isPlain_16 rfl ?_
  exact v_sb (p_X9_isPlain_17 C F h) trivial
set_option maxRecDepth 100000 in
set_option maxHeartbeats 4000000 in
theorem p_X9_isPlain {x : CX} {l : Launch} {g : CG} {rv : Int32} {μ0 μ9 : Mem} (C : Cx x l g mi_X9_isPlain) (F : Prom x g mi_X9_isPlain μ0 (some (aI rv)) μ9) {N : Nat} {a0 : Int32} {μ : Mem} (h : f_X9_isPlain N a0 μ = some (rv, μ9)) : V x g 1 0 0 μ 0 [(0, aI a0)] [] := by
  unfold f_X9_isPlain at h
  refine v_iload_n C dX9_isPlain_0 rfl ?_
  refine v_bipush (v := 32) C dX9_isPlain_1 rfl ?_
  refine v_icmp_lt (tgt := 16) C dX9_isPlain_3 (by decide) (fun c => ?_) (fun c => ?_)
  · replace h := ifT h c
    exact v_sb (p_X9_isPlain_16 C F h) trivial
  · replace h := ifF h c
    refine v_iload_n C dX9_isPlain_6 rfl ?_
    refine v_bipush (v := 126) C dX9_isPlain_7 rfl ?_
    refine v_icmp_gt (tgt := 16) C dX9_isPlain_9 (by decide) (fun c => ?_) (fun c => ?_)
    · replace h := ifT h c
      exact v_sb (p_X9_isPlain_16 C F h) trivial
    · replace h := ifF h c
      refine v_iconst (v := 1) C dX9_isPlain_12 rfl ?_
      refine v_goto (tgt := 17) C dX9_isPlain_13 (by decide) ?_
      exact v_sb (p_X9_isPlain_17 C F h) trivial
set_option maxRecDepth 100000 in
set_option maxHeartbeats 4000000 in
theorem c_X9_isPlain (l : Launch) (g : CG) (N : Nat) (a0 : Int32) (μ : Mem) (rv : Int32) (μ9 : Mem) (h : f_X9_isPlain N a0 μ = some (rv, μ9)) : Ct l yX9_isPlain mi_X9_isPlain g [aI a0] μ (some (aI rv)) μ9 := ct_of ⟨by decide, rfl, rfl⟩ (Nat.le_of_ble_eq_true rfl) fun x C F => p_X9_isPlain C F h
def f_X9_scanText_67 (N : Nat) (a0 : Option Nat) (a1 : Int32) (μ : Mem) : Option (Int32 × Mem) :=
  (mck μ a0 9).bind fun b2 =>
  (f_X9_append N (some b2) 5 a1 0 0 μ).bind fun q1 =>
  some (q1.1, q1.2)
def H_X9_scanText_20 (N : Nat) (k20 : (Option Nat) → Int32 → Int32 → Int32 → Mem → Option (Int32 × Mem)) (a0 : Option Nat) (a1 : Int32) (a2 : Int32) (a3 : Int32) (μ : Mem) : Option (Int32 × Mem) :=
  (mfI μ a0 9 7).bind fun v1 =>
  if v1 ≤ a3 then
    f_X9_scanText_67 N a0 a1 μ
  else
    (mck μ a0 9).bind fun b3 =>
    (f_X9_byteAt N (some b3) a3 μ).bind fun q2 =>
    (f_X9_isPlain N q2.1 q2.2).bind fun q4 =>
    if q4.1 = 0 then
      f_X9_scanText_67 N a0 a1 q4.2
    else
      (mck q4.2 a0 9).bind fun b6 =>
      (f_X9_byteAt N (some b6) a3 q4.2).bind fun q5 =>
      if ¬ q5.1 = a2 then
        k20 a0 a1 a2 (a3 + 1) q5.2
      else
        (mck q5.2 a0 9).bind fun b8 =>
        (f_X9_append N (some b8) 4 (a3 + 1) (a1 + 1) a3 q5.2).bind fun q7 =>
        some (q7.1, q7.2)
def L_X9_scanText_20 (N : Nat) : Nat → (Option Nat) → Int32 → Int32 → Int32 → Mem → Option (Int32 × Mem)
  | 0 => fun _ _ _ _ _ => none
  | n + 1 => H_X9_scanText_20 N (L_X9_scanText_20 N n)
def f_X9_scanText (N : Nat) (a0 : Option Nat) (a1 : Int32) (a2 : Int32) (μ : Mem) : Option (Int32 × Mem) :=
  (f_X9_isPlain N a2 μ).bind fun q1 =>
  if ¬ q1.1 = 0 then
    L_X9_scanText_20 N N a0 a1 a2 (a1 + 1) q1.2
  else
    (mck q1.2 a0 9).bind fun b3 =>
    (f_X9_append N (some b3) 5 a1 0 0 q1.2).bind fun q2 =>
    some (q2.1, q2.2)
set_option maxRecDepth 100000 in
set_option maxHeartbeats 4000000 in
theorem p_X9_scanText_67 {x : CX} {l : Launch} {g : CG} {rv : Int32} {μ0 μ9 : Mem} (C : Cx x l g mi_X9_scanText) (F : Prom x g mi_X9_scanText μ0 (some (aI rv)) μ9) {N : Nat} {a0 : Option Nat} {a1 : Int32} {μ : Mem} (h : f_X9_scanText_67 N a0 a1 μ = some (rv, μ9)) : V x g 4 0 0 μ 67 [(0, aR a0), (1, aI a1)] [] := by
  unfold f_X9_scanText_67 at h
  refine v_aload_n C dX9_scanText_67 rfl ?_
  refine v_iconst (v := 5) C dX9_scanText_68 rfl ?_
  refine v_iload_n C dX9_scanText_69 rfl ?_
  refine v_iconst (v := 0) C dX9_scanText_70 rfl ?_
  refine v_iconst (v := 0) C dX9_scanText_71 rfl ?_
  obtain ⟨b, e0, h⟩ := ob h
  obtain ⟨q, e, h⟩ := ob h
  refine v_callV (As := [_, _, _, _]) C dX9_scanText_72 cf_X9_69 (rm_X9_scanText_X9_append) ⟨rfl, rfl⟩ e0 rfl (Nat.le_of_ble_eq_true rfl) (c_X9_append _ _ N _ _ _ _ _ _ q.1 q.2 e) ?_
  exact v_iret C F ⟨rfl, rfl, Nat.le_refl _⟩ dX9_scanText_75 h
set_option maxRecDepth 100000 in
set_option maxHeartbeats 4000000 in
theorem pH_X9_scanText_20 {x : CX} {l : Launch} {g : CG} {rv : Int32} {μ0 μ9 : Mem} (C : Cx x l g mi_X9_scanText) (F : Prom x g mi_X9_scanText μ0 (some (aI rv)) μ9) {N : Nat} {k20 : (Option Nat) → Int32 → Int32 → Int32 → Mem → Option (Int32 × Mem)} (hk20 : ∀ (a0 : Option Nat) (a1 : Int32) (a2 : Int32) (a3 : Int32) (μ : Mem), k20 a0 a1 a2 a3 μ = some (rv, μ9) → V x g 4 0 0 μ 20 [(0, aR a0), (1, aI a1), (2, aI a2), (3, aI a3)] []) {a0 : Option Nat} {a1 : Int32} {a2 : Int32} {a3 : Int32} {μ : Mem} (h : H_X9_scanText_20 N k20 a0 a1 a2 a3 μ = some (rv, μ9)) : V x g 4 0 0 μ 20 [(0, aR a0), (1, aI a1), (2, aI a2), (3, aI a3)] [] := by
  unfold H_X9_scanText_20 at h
  refine v_iload_n C dX9_scanText_20 rfl ?_
  refine v_aload_n C dX9_scanText_21 rfl ?_
  obtain ⟨v, e, h⟩ := ob h
  refine v_getI C dX9_scanText_22 gf_X9_31 e ?_
  refine v_icmp_ge (tgt := 67) C dX9_scanText_25 (by decide) (fun c => ?_) (fun c => ?_)
  · replace h := ifT h c
    exact v_sb (p_X9_scanText_67 C F h) ⟨rfl, rfl, trivial⟩
  · replace h := ifF h c
    refine v_aload_n C dX9_scanText_28 rfl ?_
    refine v_iload_n C dX9_scanText_29 rfl ?_
    obtain ⟨b, e0, h⟩ := ob h
    obtain ⟨q, e, h⟩ := ob h
    refine v_callV (As := [_]) C dX9_scanText_30 cf_X9_66 (rm_X9_scanText_X9_byteAt) ⟨rfl, rfl⟩ e0 rfl (Nat.le_of_ble_eq_true rfl) (c_X9_byteAt _ _ N _ _ _ q.1 q.2 e) ?_
    obtain ⟨q, e, h⟩ := ob h
    refine v_callS (As := [_]) C dX9_scanText_33 cf_X9_86 (rm_X9_scanText_X9_isPlain) ⟨rfl, rfl⟩ rfl (Nat.le_of_ble_eq_true rfl) (c_X9_isPlain _ _ N _ _ q.1 q.2 e) ?_
    refine v_if_eq (tgt := 67) C dX9_scanText_36 (by decide) (fun c => ?_) (fun c => ?_)
    · replace h := ifT h c
      exact v_sb (p_X9_scanText_67 C F h) ⟨rfl, rfl, trivial⟩
    · replace h := ifF h c
      refine v_aload_n C dX9_scanText_39 rfl ?_
      refine v_iload_n C dX9_scanText_40 rfl ?_
      obtain ⟨b, e0, h⟩ := ob h
      obtain ⟨q, e, h⟩ := ob h
      refine v_callV (As := [_]) C dX9_scanText_41 cf_X9_66 (rm_X9_scanText_X9_byteAt) ⟨rfl, rfl⟩ e0 rfl (Nat.le_of_ble_eq_true rfl) (c_X9_byteAt _ _ N _ _ _ q.1 q.2 e) ?_
      refine v_iload_n C dX9_scanText_44 rfl ?_
      refine v_icmp_ne (tgt := 61) C dX9_scanText_45 (by decide) (fun c => ?_) (fun c => ?_)
      · replace h := ifT h c
        refine v_iinc (w := 1) C dX9_scanText_61 rfl rfl (by decide) ?_
        refine v_goto (tgt := 20) C dX9_scanText_64 (by decide) ?_
        exact v_sb (hk20 _ _ _ _ _ h) ⟨rfl, rfl, rfl, rfl, trivial⟩
      · replace h := ifF h c
        refine v_aload_n C dX9_scanText_48 rfl ?_
        refine v_iconst (v := 4) C dX9_scanText_49 rfl ?_
        refine v_iload_n C dX9_scanText_50 rfl ?_
        refine v_iconst (v := 1) C dX9_scanText_51 rfl ?_
        refine v_iadd C dX9_scanText_52 ?_
        refine v_iload_n C dX9_scanText_53 rfl ?_
        refine v_iconst (v := 1) C dX9_scanText_54 rfl ?_
        refine v_iadd C dX9_scanText_55 ?_
        refine v_iload_n C dX9_scanText_56 rfl ?_
        obtain ⟨b, e0, h⟩ := ob h
        obtain ⟨q, e, h⟩ := ob h
        refine v_callV (As := [_, _, _, _]) C dX9_scanText_57 cf_X9_69 (rm_X9_scanText_X9_append) ⟨rfl, rfl⟩ e0 rfl (Nat.le_of_ble_eq_true rfl) (c_X9_append _ _ N _ _ _ _ _ _ q.1 q.2 e) ?_
        exact v_iret C F ⟨rfl, rfl, Nat.le_refl _⟩ dX9_scanText_60 h
set_option maxRecDepth 100000 in
set_option maxHeartbeats 4000000 in
theorem pL_X9_scanText_20 {x : CX} {l : Launch} {g : CG} {rv : Int32} {μ0 μ9 : Mem} (C : Cx x l g mi_X9_scanText) (F : Prom x g mi_X9_scanText μ0 (some (aI rv)) μ9) (N : Nat) (n : Nat) : ∀ (a0 : Option Nat) (a1 : Int32) (a2 : Int32) (a3 : Int32) (μ : Mem), L_X9_scanText_20 N n a0 a1 a2 a3 μ = some (rv, μ9) → V x g 4 0 0 μ 20 [(0, aR a0), (1, aI a1), (2, aI a2), (3, aI a3)] [] := by
  induction n with
  | zero => intro a0 a1 a2 a3 μ h; cases h
  | succ n ih => intro a0 a1 a2 a3 μ h; exact pH_X9_scanText_20 C F ih h
set_option maxRecDepth 100000 in
set_option maxHeartbeats 4000000 in
theorem p_X9_scanText {x : CX} {l : Launch} {g : CG} {rv : Int32} {μ0 μ9 : Mem} (C : Cx x l g mi_X9_scanText) (F : Prom x g mi_X9_scanText μ0 (some (aI rv)) μ9) {N : Nat} {a0 : Option Nat} {a1 : Int32} {a2 : Int32} {μ : Mem} (h : f_X9_scanText N a0 a1 a2 μ = some (rv, μ9)) : V x g 4 0 0 μ 0 [(0, aR a0), (1, aI a1), (2, aI a2)] [] := by
  unfold f_X9_scanText at h
  refine v_iload_n C dX9_scanText_0 rfl ?_
  obtain ⟨q, e, h⟩ := ob h
  refine v_callS (As := [_]) C dX9_scanText_1 cf_X9_86 (rm_X9_scanText_X9_isPlain) ⟨rfl, rfl⟩ rfl (Nat.le_of_ble_eq_true rfl) (c_X9_isPlain _ _ N _ _ q.1 q.2 e) ?_
  refine v_if_ne (tgt := 16) C dX9_scanText_4 (by decide) (fun c => ?_) (fun c => ?_)
  · replace h := ifT h c
    refine v_iload_n C dX9_scanText_16 rfl ?_
    refine v_iconst (v := 1) C dX9_scanText_17 rfl ?_
    refine v_iadd C dX9_scanText_18 ?_
    refine v_istore_n C dX9_scanText_19 (by decide) ?_
    exact v_sb (pL_X9_scanText_20 C F N N _ _ _ _ _ h) ⟨rfl, rfl, rfl, rfl, trivial⟩
  · replace h := ifF h c
    refine v_aload_n C dX9_scanText_7 rfl ?_
    refine v_iconst (v := 5) C dX9_scanText_8 rfl ?_
    refine v_iload_n C dX9_scanText_9 rfl ?_
    refine v_iconst (v := 0) C dX9_scanText_10 rfl ?_
    refine v_iconst (v := 0) C dX9_scanText_11 rfl ?_
    obtain ⟨b, e0, h⟩ := ob h
    obtain ⟨q, e, h⟩ := ob h
    refine v_callV (As := [_, _, _, _]) C dX9_scanText_12 cf_X9_69 (rm_X9_scanText_X9_append) ⟨rfl, rfl⟩ e0 rfl (Nat.le_of_ble_eq_true rfl) (c_X9_append _ _ N _ _ _ _ _ _ q.1 q.2 e) ?_
    exact v_iret C F ⟨rfl, rfl, Nat.le_refl _⟩ dX9_scanText_15 h
set_option maxRecDepth 100000 in
set_option maxHeartbeats 4000000 in
theorem c_X9_scanText (l : Launch) (g : CG) (N : Nat) (a0 : Option Nat) (a1 : Int32) (a2 : Int32) (μ : Mem) (rv : Int32) (μ9 : Mem) (h : f_X9_scanText N a0 a1 a2 μ = some (rv, μ9)) : Ct l yX9_scanText mi_X9_scanText g [aR a0, aI a1, aI a2] μ (some (aI rv)) μ9 := ct_of ⟨by decide, rfl, rfl⟩ (Nat.le_of_ble_eq_true rfl) fun x C F => p_X9_scanText C F h
