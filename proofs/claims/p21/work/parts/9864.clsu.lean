/-! LAYER 2, ShareEight over its typed state, further (by program) -/
def u_X2_endTurn_25 (U S N : Nat) (μ : CS) : Option (Unit × CS) :=
  some ((), μ)
theorem ue_u_X2_endTurn_25 {μ0 : BM} {ro U S : Nat} (W : Wd μ0 ro U S) {N : Nat} (s : CS) : IM μ0 ro U S id (u_X2_endTurn_25 U S N s) (f_X2_endTurn_25 N (EC μ0 ro U S s)) := by
  unfold f_X2_endTurn_25 u_X2_endTurn_25
  exact im_ret rfl
def u_X2_endTurn (U S N : Nat) (a1 : Option Nat) (μ : CS) : Option (Unit × CS) :=
  (some (qR μ 2 0 8 none)).bind fun μ1 =>
  (some (qI μ1 2 0 9 0)).bind fun μ2 =>
  (a1).bind fun j1 =>
  (vl S (μ2.2.2.2.1 10 j1 19)).bind fun v3 =>
  if v3 = none then
    u_X2_endTurn_25 U S N μ2
  else
    (vl S (μ2.2.2.2.1 10 j1 19)).bind fun v4 =>
    (v4).bind fun j2 =>
    (qZ μ2 8 j2 4 1).bind fun μ5 =>
    u_X2_endTurn_25 U S N μ5
theorem ue_u_X2_endTurn {μ0 : BM} {ro U S : Nat} (W : Wd μ0 ro U S) {N : Nat} {a0f : Option Nat} (ea0 : a0f = (adr μ0 ro U S (2, 0, 0))) {a1 : Option Nat} {a1f : Option Nat} (ha1 : vd U a1) (ea1 : a1f = (Option.bind a1 fun b => adr μ0 ro U S (10, b, 0))) (s : CS) : IM μ0 ro U S id (u_X2_endTurn U S N a1 s) (f_X2_endTurn N a0f a1f (EC μ0 ro U S s)) := by
  unfold f_X2_endTurn u_X2_endTurn
  refine im_pR1 W (ik_2 U S) (by decide) rfl ea0 ((vd_n U)) (rfl) ?_
  refine im_pI W (ik_2 U S) (by decide) rfl ea0 _ ?_
  refine im_der (ci := 10) (ha1) (ea1) fun j1 hj1 ej1 => ?_
  refine im_fD2 W (ik_10 hj1) (by decide) rfl ej1 fun v3 hv3 v3' ev3 => ?_
  refine im_if (im_nn 8 W (by simp) hv3 ev3) (fun _ => ?_) (fun _ => ?_)
  · exact ue_u_X2_endTurn_25 W _
  · refine im_fD2 W (ik_10 hj1) (by decide) rfl ej1 fun v4 hv4 v4' ev4 => ?_
    refine im_der (ci := 8) (hv4) (ev4) fun j2 hj2 ej2 => ?_
    refine im_pZ W (ik_8 hj2) (by decide) rfl ej2 _ fun μ5 => ?_
    exact ue_u_X2_endTurn_25 W _
def u_X2_stop_27 (U S N : Nat) (μ : CS) : Option (Unit × CS) :=
  some ((), μ)
theorem ue_u_X2_stop_27 {μ0 : BM} {ro U S : Nat} (W : Wd μ0 ro U S) {N : Nat} (s : CS) : IM μ0 ro U S id (u_X2_stop_27 U S N s) (f_X2_stop_27 N (EC μ0 ro U S s)) := by
  unfold f_X2_stop_27 u_X2_stop_27
  exact im_ret rfl
def u_X2_stop (U S N : Nat) (a1 : Option Nat) (μ : CS) : Option (Unit × CS) :=
  (a1).bind fun j1 =>
  (some (qI μ 10 j1 8 6)).bind fun μ1 =>
  (u_X5_remove U S N a1 μ1).bind fun q3 =>
  (vl U (q3.2.2.2.2.1 2 0 8)).bind fun v5 =>
  if ¬ v5 = a1 then
    u_X2_stop_27 U S N q3.2
  else
    (u_X2_endTurn U S N a1 q3.2).bind fun q6 =>
    u_X2_stop_27 U S N q6.2
theorem ue_u_X2_stop {μ0 : BM} {ro U S : Nat} (W : Wd μ0 ro U S) {N : Nat} {a0f : Option Nat} (ea0 : a0f = (adr μ0 ro U S (2, 0, 0))) {a1 : Option Nat} {a1f : Option Nat} (ha1 : vd U a1) (ea1 : a1f = (Option.bind a1 fun b => adr μ0 ro U S (10, b, 0))) (s : CS) : IM μ0 ro U S id (u_X2_stop U S N a1 s) (f_X2_stop N a0f a1f (EC μ0 ro U S s)) := by
  unfold f_X2_stop u_X2_stop
  refine im_der (ci := 10) (ha1) (ea1) fun j1 hj1 ej1 => ?_
  refine im_pI W (ik_10 hj1) (by decide) rfl ej1 _ ?_
  refine im_fR W (ik_2 U S) (by decide) rfl ea0 fun v2 ev2 => ?_
  refine im_ck W (ik_5 U S) ev2 fun b4 eb4 => ?_
  refine im_call (ue_u_X5_remove W eb4 ha1 ea1 _) fun q3 => ?_
  dsimp only [id]
  refine im_fD1 W (ik_2 U S) (by decide) rfl ea0 fun v5 hv5 v5' ev5 => ?_
  refine im_if (not_congr (im_eq 10 W (by simp) hv5 ev5 ha1 ea1)) (fun _ => ?_) (fun _ => ?_)
  · exact ue_u_X2_stop_27 W _
  · refine im_ck W (ik_2 U S) ea0 fun b7 eb7 => ?_
    refine im_call (ue_u_X2_endTurn W eb7 ha1 ea1 _) fun q6 => ?_
    dsimp only [id]
    exact ue_u_X2_stop_27 W _
def u_X11_halt_20 (U S N : Nat) (μ : CS) : Option (Int32 × CS) :=
  cZ 0 μ
theorem ue_u_X11_halt_20 {μ0 : BM} {ro U S : Nat} (W : Wd μ0 ro U S) {N : Nat} (s : CS) : IM μ0 ro U S id (u_X11_halt_20 U S N s) (f_X11_halt_20 N (EC μ0 ro U S s)) := by
  unfold f_X11_halt_20 u_X11_halt_20
  exact im_rZ _ _
def u_X11_halt (U S N : Nat) (a1 : Int32) (μ : CS) : Option (Int32 × CS) :=
  (u_X2_userAt U S N a1 μ).bind fun q2 =>
  (vl U q2.1).bind fun _ =>
  if q2.1 = none then
    u_X11_halt_20 U S N q2.2
  else
    (q2.1).bind fun j1 =>
    (u_X10_mayBeHalted U S N j1 q2.2).bind fun q4 =>
    if ¬ q4.1 = 0 then
      (u_X2_stop U S N q2.1 q4.2).bind fun q7 =>
      cZ 1 q7.2
    else
      u_X11_halt_20 U S N q4.2
theorem ue_u_X11_halt {μ0 : BM} {ro U S : Nat} (W : Wd μ0 ro U S) {N : Nat} {a0f : Option Nat} (ea0 : a0f = (adr μ0 ro U S (11, 0, 0))) (a1 : Int32) (s : CS) : IM μ0 ro U S id (u_X11_halt U S N a1 s) (f_X11_halt N a0f a1 (EC μ0 ro U S s)) := by
  unfold f_X11_halt u_X11_halt
  refine im_fR W (ik_11 U S) (by decide) rfl ea0 fun v1 ev1 => ?_
  refine im_ck W (ik_2 U S) ev1 fun b3 eb3 => ?_
  refine im_call (ue_u_X2_userAt W eb3 _ _) fun q2 => ?_
  dsimp only [id]
  refine im_vl fun hq2 => ?_
  refine im_if (im_nn 10 W (by simp) hq2 rfl) (fun _ => ?_) (fun _ => ?_)
  · exact ue_u_X11_halt_20 W _
  · refine im_der (ci := 10) (hq2) (rfl) fun j1 hj1 ej1 => ?_
    refine im_ck W (ik_10 hj1) ej1 fun b5 eb5 => ?_
    refine im_call (ue_u_X10_mayBeHalted W hj1 eb5 _) fun q4 => ?_
    dsimp only [id]
    refine im_if Iff.rfl (fun _ => ?_) (fun _ => ?_)
    · refine im_fR W (ik_11 U S) (by decide) rfl ea0 fun v6 ev6 => ?_
      refine im_ck W (ik_2 U S) ev6 fun b8 eb8 => ?_
      refine im_call (ue_u_X2_stop W eb8 hq2 rfl _) fun q7 => ?_
      dsimp only [id]
      exact im_rZ _ _
    · exact ue_u_X11_halt_20 W _
def u_X6_isFull_14 (U S N : Nat) (s0 : Int32) (μ : CS) : Option (Int32 × CS) :=
  cZ s0 μ
theorem ue_u_X6_isFull_14 {μ0 : BM} {ro U S : Nat} (W : Wd μ0 ro U S) {N : Nat} (s0 : Int32) (s : CS) : IM μ0 ro U S id (u_X6_isFull_14 U S N s0 s) (f_X6_isFull_14 N s0 (EC μ0 ro U S s)) := by
  unfold f_X6_isFull_14 u_X6_isFull_14
  exact im_rZ _ _
def u_X6_isFull (U S N : Nat) (a0 : Nat) (μ : CS) : Option (Int32 × CS) :=
  if (μ.1 6 a0 2) < (16 : Int32) then
    u_X6_isFull_14 U S N 0 μ
  else
    u_X6_isFull_14 U S N 1 μ
theorem ue_u_X6_isFull {μ0 : BM} {ro U S : Nat} (W : Wd μ0 ro U S) {N : Nat} {a0 : Nat} {a0f : Option Nat} (ha0 : a0 < (2 * U)) (ea0 : a0f = (adr μ0 ro U S (6, a0, 0))) (s : CS) : IM μ0 ro U S id (u_X6_isFull U S N a0 s) (f_X6_isFull N a0f (EC μ0 ro U S s)) := by
  unfold f_X6_isFull u_X6_isFull
  refine im_fI W (ik_6 ha0) (by decide) rfl ea0 ?_
  refine im_if Iff.rfl (fun _ => ?_) (fun _ => ?_)
  · exact ue_u_X6_isFull_14 W _ _
  · exact ue_u_X6_isFull_14 W _ _
def u_X6_append (U S N : Nat) (a0 : Nat) (a1 : Int32) (μ : CS) : Option (Unit × CS) :=
  (u_X6_isFull U S N a0 μ).bind fun q1 =>
  if q1.1 = 0 then
    if (16 : Int32) = 0 then none else
    (wH 16 q1.2 6 a0 0 (((q1.2.1 6 a0 1) + (q1.2.1 6 a0 2)) - ((q1.2.1 6 a0 1) + (q1.2.1 6 a0 2)) / 16 * 16) a1).bind fun μ6 =>
    (some (qI μ6 6 a0 2 ((μ6.1 6 a0 2) + 1))).bind fun μ8 =>
    some ((), μ8)
  else
    some ((), q1.2)
theorem ue_u_X6_append {μ0 : BM} {ro U S : Nat} (W : Wd μ0 ro U S) {N : Nat} {a0 : Nat} {a0f : Option Nat} (ha0 : a0 < (2 * U)) (ea0 : a0f = (adr μ0 ro U S (6, a0, 0))) (a1 : Int32) (s : CS) : IM μ0 ro U S id (u_X6_append U S N a0 a1 s) (f_X6_append N a0f a1 (EC μ0 ro U S s)) := by
  unfold f_X6_append u_X6_append
  refine im_ck W (ik_6 ha0) ea0 fun b2 eb2 => ?_
  refine im_call (ue_u_X6_isFull W ha0 eb2 _) fun q1 => ?_
  dsimp only [id]
  refine im_if Iff.rfl (fun _ => ?_) (fun _ => ?_)
  · refine im_fR W (ik_6 ha0) (by decide) rfl ea0 fun v3 ev3 => ?_
    refine im_fI W (ik_6 ha0) (by decide) rfl ea0 ?_
    refine im_fI W (ik_6 ha0) (by decide) rfl ea0 ?_
    refine im_if Iff.rfl (fun _ => im_none) (fun _ => ?_)
    refine im_bI (n := 16) W (ia_6_1 ha0) rfl rfl ev3 _ _ fun μ6 => ?_
    refine im_fI W (ik_6 ha0) (by decide) rfl ea0 ?_
    refine im_pI W (ik_6 ha0) (by decide) rfl ea0 _ ?_
    exact im_ret rfl
  · exact im_ret rfl
def u_X2_press_43 (U S N : Nat) (μ : CS) : Option (Int32 × CS) :=
  cZ 1 μ
theorem ue_u_X2_press_43 {μ0 : BM} {ro U S : Nat} (W : Wd μ0 ro U S) {N : Nat} (s : CS) : IM μ0 ro U S id (u_X2_press_43 U S N s) (f_X2_press_43 N (EC μ0 ro U S s)) := by
  unfold f_X2_press_43 u_X2_press_43
  exact im_rZ _ _
def u_X2_press (U S N : Nat) (a1 : Option Nat) (a2 : Int32) (μ : CS) : Option (Int32 × CS) :=
  (a1).bind fun j1 =>
  (u_X6_isFull U S N (2 * j1) μ).bind fun q2 =>
  if q2.1 = 0 then
    (u_X6_append U S N (2 * j1) a2 q2.2).bind fun q5 =>
    if ¬ (q5.2.1 10 j1 8) = (2 : Int32) then
      u_X2_press_43 U S N q5.2
    else
      (u_X2_makeReady U S N a1 q5.2).bind fun q8 =>
      u_X2_press_43 U S N q8.2
  else
    (some (qI q2.2 10 j1 15 ((q2.2.1 10 j1 15) + 1))).bind fun μ11 =>
    cZ 0 μ11
theorem ue_u_X2_press {μ0 : BM} {ro U S : Nat} (W : Wd μ0 ro U S) {N : Nat} {a0f : Option Nat} (ea0 : a0f = (adr μ0 ro U S (2, 0, 0))) {a1 : Option Nat} {a1f : Option Nat} (ha1 : vd U a1) (ea1 : a1f = (Option.bind a1 fun b => adr μ0 ro U S (10, b, 0))) (a2 : Int32) (s : CS) : IM μ0 ro U S id (u_X2_press U S N a1 a2 s) (f_X2_press N a0f a1f a2 (EC μ0 ro U S s)) := by
  unfold f_X2_press u_X2_press
  refine im_der (ci := 10) (ha1) (ea1) fun j1 hj1 ej1 => ?_
  refine im_fR W (ik_10 hj1) (by decide) rfl ej1 fun v1 ev1 => ?_
  refine im_ck W (ik_6 (two0 hj1)) ev1 fun b3 eb3 => ?_
  refine im_call (ue_u_X6_isFull W (two0 hj1) eb3 _) fun q2 => ?_
  dsimp only [id]
  refine im_if Iff.rfl (fun _ => ?_) (fun _ => ?_)
  · refine im_fR W (ik_10 hj1) (by decide) rfl ej1 fun v4 ev4 => ?_
    refine im_ck W (ik_6 (two0 hj1)) ev4 fun b6 eb6 => ?_
    refine im_call (ue_u_X6_append W (two0 hj1) eb6 _ _) fun q5 => ?_
    dsimp only [id]
    refine im_fI W (ik_10 hj1) (by decide) rfl ej1 ?_
    refine im_if Iff.rfl (fun _ => ?_) (fun _ => ?_)
    · exact ue_u_X2_press_43 W _
    · refine im_ck W (ik_2 U S) ea0 fun b9 eb9 => ?_
      refine im_call (ue_u_X2_makeReady W eb9 ha1 ea1 _) fun q8 => ?_
      dsimp only [id]
      exact ue_u_X2_press_43 W _
  · refine im_fI W (ik_10 hj1) (by decide) rfl ej1 ?_
    refine im_pI W (ik_10 hj1) (by decide) rfl ej1 _ ?_
    exact im_rZ _ _
def u_X11_key_23 (U S N : Nat) (μ : CS) : Option (Int32 × CS) :=
  cZ 0 μ
theorem ue_u_X11_key_23 {μ0 : BM} {ro U S : Nat} (W : Wd μ0 ro U S) {N : Nat} (s : CS) : IM μ0 ro U S id (u_X11_key_23 U S N s) (f_X11_key_23 N (EC μ0 ro U S s)) := by
  unfold f_X11_key_23 u_X11_key_23
  exact im_rZ _ _
def u_X11_key (U S N : Nat) (a1 : Int32) (a2 : Int32) (μ : CS) : Option (Int32 × CS) :=
  (u_X2_userAt U S N a1 μ).bind fun q2 =>
  (vl U q2.1).bind fun _ =>
  if q2.1 = none then
    u_X11_key_23 U S N q2.2
  else
    if a2 < 0 then
      u_X11_key_23 U S N q2.2
    else
      if a2 ≤ (127 : Int32) then
        (u_X2_press U S N q2.1 a2 q2.2).bind fun q5 =>
        cZ q5.1 q5.2
      else
        u_X11_key_23 U S N q2.2
theorem ue_u_X11_key {μ0 : BM} {ro U S : Nat} (W : Wd μ0 ro U S) {N : Nat} {a0f : Option Nat} (ea0 : a0f = (adr μ0 ro U S (11, 0, 0))) (a1 : Int32) (a2 : Int32) (s : CS) : IM μ0 ro U S id (u_X11_key U S N a1 a2 s) (f_X11_key N a0f a1 a2 (EC μ0 ro U S s)) := by
  unfold f_X11_key u_X11_key
  refine im_fR W (ik_11 U S) (by decide) rfl ea0 fun v1 ev1 => ?_
  refine im_ck W (ik_2 U S) ev1 fun b3 eb3 => ?_
  refine im_call (ue_u_X2_userAt W eb3 _ _) fun q2 => ?_
  dsimp only [id]
  refine im_vl fun hq2 => ?_
  refine im_if (im_nn 10 W (by simp) hq2 rfl) (fun _ => ?_) (fun _ => ?_)
  · exact ue_u_X11_key_23 W _
  · refine im_if Iff.rfl (fun _ => ?_) (fun _ => ?_)
    · exact ue_u_X11_key_23 W _
    · refine im_if Iff.rfl (fun _ => ?_) (fun _ => ?_)
      · refine im_fR W (ik_11 U S) (by decide) rfl ea0 fun v4 ev4 => ?_
        refine im_ck W (ik_2 U S) ev4 fun b6 eb6 => ?_
        refine im_call (ue_u_X2_press W eb6 hq2 rfl _ _) fun q5 => ?_
        dsimp only [id]
        exact im_rZ _ _
      · exact ue_u_X11_key_23 W _
def u_X11_set_20 (U S N : Nat) (μ : CS) : Option (Int32 × CS) :=
  cZ 0 μ
theorem ue_u_X11_set_20 {μ0 : BM} {ro U S : Nat} (W : Wd μ0 ro U S) {N : Nat} (s : CS) : IM μ0 ro U S id (u_X11_set_20 U S N s) (f_X11_set_20 N (EC μ0 ro U S s)) := by
  unfold f_X11_set_20 u_X11_set_20
  exact im_rZ _ _
def u_X11_set (U S N : Nat) (a1 : Int32) (a2 : Int32) (μ : CS) : Option (Int32 × CS) :=
  (u_X2_userAt U S N a1 μ).bind fun q2 =>
  (vl U q2.1).bind fun _ =>
  if q2.1 = none then
    u_X11_set_20 U S N q2.2
  else
    (u_X11_isWord U S N a2 q2.2).bind fun q4 =>
    if ¬ q4.1 = 0 then
      (q2.1).bind fun j1 =>
      (some (qI q4.2 10 j1 13 a2)).bind fun μ5 =>
      cZ 1 μ5
    else
      u_X11_set_20 U S N q4.2
theorem ue_u_X11_set {μ0 : BM} {ro U S : Nat} (W : Wd μ0 ro U S) {N : Nat} {a0f : Option Nat} (ea0 : a0f = (adr μ0 ro U S (11, 0, 0))) (a1 : Int32) (a2 : Int32) (s : CS) : IM μ0 ro U S id (u_X11_set U S N a1 a2 s) (f_X11_set N a0f a1 a2 (EC μ0 ro U S s)) := by
  unfold f_X11_set u_X11_set
  refine im_fR W (ik_11 U S) (by decide) rfl ea0 fun v1 ev1 => ?_
  refine im_ck W (ik_2 U S) ev1 fun b3 eb3 => ?_
  refine im_call (ue_u_X2_userAt W eb3 _ _) fun q2 => ?_
  dsimp only [id]
  refine im_vl fun hq2 => ?_
  refine im_if (im_nn 10 W (by simp) hq2 rfl) (fun _ => ?_) (fun _ => ?_)
  · exact ue_u_X11_set_20 W _
  · refine im_call (ue_u_X11_isWord W _ _) fun q4 => ?_
    dsimp only [id]
    refine im_if Iff.rfl (fun _ => ?_) (fun _ => ?_)
    · refine im_der (ci := 10) (hq2) (rfl) fun j1 hj1 ej1 => ?_
      refine im_pI W (ik_10 hj1) (by decide) rfl ej1 _ ?_
      exact im_rZ _ _
    · exact ue_u_X11_set_20 W _
def u_X8_put (U S N : Nat) (a0 : Nat) (a1 : Int32) (a2 : Int32) (μ : CS) : Option (Unit × CS) :=
  (wH 4096 μ 8 a0 1 (a1 &&& 4095) a2).bind fun μ2 =>
  (qZ μ2 8 a0 3 1).bind fun μ3 =>
  some ((), μ3)
theorem ue_u_X8_put {μ0 : BM} {ro U S : Nat} (W : Wd μ0 ro U S) {N : Nat} {a0 : Nat} {a0f : Option Nat} (ha0 : a0 < S) (ea0 : a0f = (adr μ0 ro U S (8, a0, 0))) (a1 : Int32) (a2 : Int32) (s : CS) : IM μ0 ro U S id (u_X8_put U S N a0 a1 a2 s) (f_X8_put N a0f a1 a2 (EC μ0 ro U S s)) := by
  unfold f_X8_put u_X8_put
  refine im_fR W (ik_8 ha0) (by decide) rfl ea0 fun v1 ev1 => ?_
  refine im_bI (n := 4096) W (ia_8_2 ha0) rfl rfl ev1 _ _ fun μ2 => ?_
  refine im_pZ W (ik_8 ha0) (by decide) rfl ea0 _ fun μ3 => ?_
  exact im_ret rfl
def u_X10_store_30 (U S N : Nat) (μ : CS) : Option (Unit × CS) :=
  some ((), μ)
theorem ue_u_X10_store_30 {μ0 : BM} {ro U S : Nat} (W : Wd μ0 ro U S) {N : Nat} (s : CS) : IM μ0 ro U S id (u_X10_store_30 U S N s) (f_X10_store_30 N (EC μ0 ro U S s)) := by
  unfold f_X10_store_30 u_X10_store_30
  exact im_ret rfl
def u_X10_store (U S N : Nat) (a0 : Nat) (a1 : Int32) (a2 : Int32) (μ : CS) : Option (Unit × CS) :=
  (vl S (μ.2.2.2.1 10 a0 19)).bind fun v1 =>
  if ¬ v1 = none then
    (vl S (μ.2.2.2.1 10 a0 19)).bind fun v2 =>
    (v2).bind fun j1 =>
    (u_X8_put U S N j1 a1 a2 μ).bind fun q3 =>
    u_X10_store_30 U S N q3.2
  else
    (wH 4096 μ 10 a0 1 (a1 &&& 4095) a2).bind fun μ6 =>
    u_X10_store_30 U S N μ6
theorem ue_u_X10_store {μ0 : BM} {ro U S : Nat} (W : Wd μ0 ro U S) {N : Nat} {a0 : Nat} {a0f : Option Nat} (ha0 : a0 < U) (ea0 : a0f = (adr μ0 ro U S (10, a0, 0))) (a1 : Int32) (a2 : Int32) (s : CS) : IM μ0 ro U S id (u_X10_store U S N a0 a1 a2 s) (f_X10_store N a0f a1 a2 (EC μ0 ro U S s)) := by
  unfold f_X10_store u_X10_store
  refine im_fD2 W (ik_10 ha0) (by decide) rfl ea0 fun v1 hv1 v1' ev1 => ?_
  refine im_if (not_congr (im_nn 8 W (by simp) hv1 ev1)) (fun _ => ?_) (fun _ => ?_)
  · refine im_fD2 W (ik_10 ha0) (by decide) rfl ea0 fun v2 hv2 v2' ev2 => ?_
    refine im_der (ci := 8) (hv2) (ev2) fun j1 hj1 ej1 => ?_
    refine im_ck W (ik_8 hj1) ej1 fun b4 eb4 => ?_
    refine im_call (ue_u_X8_put W hj1 eb4 _ _ _) fun q3 => ?_
    dsimp only [id]
    exact ue_u_X10_store_30 W _
  · refine im_fR W (ik_10 ha0) (by decide) rfl ea0 fun v5 ev5 => ?_
    refine im_bI (n := 4096) W (ia_10_2 ha0) rfl rfl ev5 _ _ fun μ6 => ?_
    exact ue_u_X10_store_30 W _
def u_X11_deposit_41 (U S N : Nat) (μ : CS) : Option (Int32 × CS) :=
  cZ 0 μ
theorem ue_u_X11_deposit_41 {μ0 : BM} {ro U S : Nat} (W : Wd μ0 ro U S) {N : Nat} (s : CS) : IM μ0 ro U S id (u_X11_deposit_41 U S N s) (f_X11_deposit_41 N (EC μ0 ro U S s)) := by
  unfold f_X11_deposit_41 u_X11_deposit_41
  exact im_rZ _ _
def u_X11_deposit (U S N : Nat) (a1 : Int32) (a2 : Int32) (a3 : Int32) (μ : CS) : Option (Int32 × CS) :=
  (u_X2_userAt U S N a1 μ).bind fun q2 =>
  (vl U q2.1).bind fun _ =>
  if q2.1 = none then
    u_X11_deposit_41 U S N q2.2
  else
    (u_X11_isWord U S N a2 q2.2).bind fun q4 =>
    if q4.1 = 0 then
      u_X11_deposit_41 U S N q4.2
    else
      (u_X11_isWord U S N a3 q4.2).bind fun q5 =>
      if q5.1 = 0 then
        u_X11_deposit_41 U S N q5.2
      else
        (u_X2_mayChange U S N q2.1 q5.2).bind fun q7 =>
        if ¬ q7.1 = 0 then
          (q2.1).bind fun j1 =>
          (u_X10_store U S N j1 a2 a3 q7.2).bind fun q9 =>
          cZ 1 q9.2
        else
          u_X11_deposit_41 U S N q7.2
theorem ue_u_X11_deposit {μ0 : BM} {ro U S : Nat} (W : Wd μ0 ro U S) {N : Nat} {a0f : Option Nat} (ea0 : a0f = (adr μ0 ro U S (11, 0, 0))) (a1 : Int32) (a2 : Int32) (a3 : Int32) (s : CS) : IM μ0 ro U S id (u_X11_deposit U S N a1 a2 a3 s) (f_X11_deposit N a0f a1 a2 a3 (EC μ0 ro U S s)) := by
  unfold f_X11_deposit u_X11_deposit
  refine im_fR W (ik_11 U S) (by decide) rfl ea0 fun v1 ev1 => ?_
  refine im_ck W (ik_2 U S) ev1 fun b3 eb3 => ?_
  refine im_call (ue_u_X2_userAt W eb3 _ _) fun q2 => ?_
  dsimp only [id]
  refine im_vl fun hq2 => ?_
  refine im_if (im_nn 10 W (by simp) hq2 rfl) (fun _ => ?_) (fun _ => ?_)
  · exact ue_u_X11_deposit_41 W _
  · refine im_call (ue_u_X11_isWord W _ _) fun q4 => ?_
    dsimp only [id]
    refine im_if Iff.rfl (fun _ => ?_) (fun _ => ?_)
    · exact ue_u_X11_deposit_41 W _
    · refine im_call (ue_u_X11_isWord W _ _) fun q5 => ?_
      dsimp only [id]
      refine im_if Iff.rfl (fun _ => ?_) (fun _ => ?_)
      · exact ue_u_X11_deposit_41 W _
      · refine im_fR W (ik_11 U S) (by decide) rfl ea0 fun v6 ev6 => ?_
        refine im_ck W (ik_2 U S) ev6 fun b8 eb8 => ?_
        refine im_call (ue_u_X2_mayChange W eb8 hq2 rfl _) fun q7 => ?_
        dsimp only [id]
        refine im_if Iff.rfl (fun _ => ?_) (fun _ => ?_)
        · refine im_der (ci := 10) (hq2) (rfl) fun j1 hj1 ej1 => ?_
          refine im_ck W (ik_10 hj1) ej1 fun b10 eb10 => ?_
          refine im_call (ue_u_X10_store W hj1 eb10 _ _ _) fun q9 => ?_
          dsimp only [id]
          exact im_rZ _ _
        · exact ue_u_X11_deposit_41 W _
def u_X6_isEmpty_12 (U S N : Nat) (s0 : Int32) (μ : CS) : Option (Int32 × CS) :=
  cZ s0 μ
theorem ue_u_X6_isEmpty_12 {μ0 : BM} {ro U S : Nat} (W : Wd μ0 ro U S) {N : Nat} (s0 : Int32) (s : CS) : IM μ0 ro U S id (u_X6_isEmpty_12 U S N s0 s) (f_X6_isEmpty_12 N s0 (EC μ0 ro U S s)) := by
  unfold f_X6_isEmpty_12 u_X6_isEmpty_12
  exact im_rZ _ _
def u_X6_isEmpty (U S N : Nat) (a0 : Nat) (μ : CS) : Option (Int32 × CS) :=
  if ¬ (μ.1 6 a0 2) = 0 then
    u_X6_isEmpty_12 U S N 0 μ
  else
    u_X6_isEmpty_12 U S N 1 μ
theorem ue_u_X6_isEmpty {μ0 : BM} {ro U S : Nat} (W : Wd μ0 ro U S) {N : Nat} {a0 : Nat} {a0f : Option Nat} (ha0 : a0 < (2 * U)) (ea0 : a0f = (adr μ0 ro U S (6, a0, 0))) (s : CS) : IM μ0 ro U S id (u_X6_isEmpty U S N a0 s) (f_X6_isEmpty N a0f (EC μ0 ro U S s)) := by
  unfold f_X6_isEmpty u_X6_isEmpty
  refine im_fI W (ik_6 ha0) (by decide) rfl ea0 ?_
  refine im_if Iff.rfl (fun _ => ?_) (fun _ => ?_)
  · exact ue_u_X6_isEmpty_12 W _ _
  · exact ue_u_X6_isEmpty_12 W _ _
def u_X6_head_20 (U S N : Nat) (s0 : Int32) (μ : CS) : Option (Int32 × CS) :=
  some (s0, μ)
theorem ue_u_X6_head_20 {μ0 : BM} {ro U S : Nat} (W : Wd μ0 ro U S) {N : Nat} (s0 : Int32) (s : CS) : IM μ0 ro U S id (u_X6_head_20 U S N s0 s) (f_X6_head_20 N s0 (EC μ0 ro U S s)) := by
  unfold f_X6_head_20 u_X6_head_20
  exact im_ret rfl
def u_X6_head (U S N : Nat) (a0 : Nat) (μ : CS) : Option (Int32 × CS) :=
  (u_X6_isEmpty U S N a0 μ).bind fun q1 =>
  if q1.1 = 0 then
    (rH 16 q1.2 6 a0 0 (q1.2.1 6 a0 1)).bind fun v5 =>
    u_X6_head_20 U S N v5 q1.2
  else
    u_X6_head_20 U S N ((-1)) q1.2
theorem ue_u_X6_head {μ0 : BM} {ro U S : Nat} (W : Wd μ0 ro U S) {N : Nat} {a0 : Nat} {a0f : Option Nat} (ha0 : a0 < (2 * U)) (ea0 : a0f = (adr μ0 ro U S (6, a0, 0))) (s : CS) : IM μ0 ro U S id (u_X6_head U S N a0 s) (f_X6_head N a0f (EC μ0 ro U S s)) := by
  unfold f_X6_head u_X6_head
  refine im_ck W (ik_6 ha0) ea0 fun b2 eb2 => ?_
  refine im_call (ue_u_X6_isEmpty W ha0 eb2 _) fun q1 => ?_
  dsimp only [id]
  refine im_if Iff.rfl (fun _ => ?_) (fun _ => ?_)
  · refine im_fR W (ik_6 ha0) (by decide) rfl ea0 fun v3 ev3 => ?_
    refine im_fI W (ik_6 ha0) (by decide) rfl ea0 ?_
    refine im_aI (n := 16) W (ia_6_1 ha0) rfl rfl ev3 _ fun v5 => ?_
    exact ue_u_X6_head_20 W _ _
  · exact ue_u_X6_head_20 W _ _
def u_X6_drop (U S N : Nat) (a0 : Nat) (μ : CS) : Option (Unit × CS) :=
  (u_X6_isEmpty U S N a0 μ).bind fun q1 =>
  if q1.1 = 0 then
    if (16 : Int32) = 0 then none else
    (some (qI q1.2 6 a0 1 (((q1.2.1 6 a0 1) + 1) - ((q1.2.1 6 a0 1) + 1) / 16 * 16))).bind fun μ4 =>
    (some (qI μ4 6 a0 2 ((μ4.1 6 a0 2) - 1))).bind fun μ6 =>
    some ((), μ6)
  else
    some ((), q1.2)
theorem ue_u_X6_drop {μ0 : BM} {ro U S : Nat} (W : Wd μ0 ro U S) {N : Nat} {a0 : Nat} {a0f : Option Nat} (ha0 : a0 < (2 * U)) (ea0 : a0f = (adr μ0 ro U S (6, a0, 0))) (s : CS) : IM μ0 ro U S id (u_X6_drop U S N a0 s) (f_X6_drop N a0f (EC μ0 ro U S s)) := by
  unfold f_X6_drop u_X6_drop
  refine im_ck W (ik_6 ha0) ea0 fun b2 eb2 => ?_
  refine im_call (ue_u_X6_isEmpty W ha0 eb2 _) fun q1 => ?_
  dsimp only [id]
  refine im_if Iff.rfl (fun _ => ?_) (fun _ => ?_)
  · refine im_fI W (ik_6 ha0) (by decide) rfl ea0 ?_
    refine im_if Iff.rfl (fun _ => im_none) (fun _ => ?_)
    refine im_pI W (ik_6 ha0) (by decide) rfl ea0 _ ?_
    refine im_fI W (ik_6 ha0) (by decide) rfl ea0 ?_
    refine im_pI W (ik_6 ha0) (by decide) rfl ea0 _ ?_
    exact im_ret rfl
  · exact im_ret rfl
def u_X10_print_26 (U S N : Nat) (a0 : Nat) (μ : CS) : Option (Unit × CS) :=
  (some (qI μ 10 a0 6 ((μ.1 10 a0 6) + 1))).bind fun μ2 =>
  (u_X6_drop U S N (2 * a0 + 1) μ2).bind fun q4 =>
  some ((), q4.2)
theorem ue_u_X10_print_26 {μ0 : BM} {ro U S : Nat} (W : Wd μ0 ro U S) {N : Nat} {a0 : Nat} {a0f : Option Nat} (ha0 : a0 < U) (ea0 : a0f = (adr μ0 ro U S (10, a0, 0))) (s : CS) : IM μ0 ro U S id (u_X10_print_26 U S N a0 s) (f_X10_print_26 N a0f (EC μ0 ro U S s)) := by
  unfold f_X10_print_26 u_X10_print_26
  refine im_fI W (ik_10 ha0) (by decide) rfl ea0 ?_
  refine im_pI W (ik_10 ha0) (by decide) rfl ea0 _ ?_
  refine im_fR W (ik_10 ha0) (by decide) rfl ea0 fun v3 ev3 => ?_
  refine im_ck W (ik_6 (two1 ha0)) ev3 fun b5 eb5 => ?_
  refine im_call (ue_u_X6_drop W (two1 ha0) eb5 _) fun q4 => ?_
  dsimp only [id]
  exact im_ret rfl
def u_X10_print (U S N : Nat) (a0 : Nat) (μ : CS) : Option (Unit × CS) :=
  if (500 : Int32) ≤ (μ.1 10 a0 6) then
    u_X10_print_26 U S N a0 μ
  else
    (u_X6_head U S N (2 * a0 + 1) μ).bind fun q5 =>
    (wH 500 q5.2 10 a0 3 (μ.1 10 a0 6) q5.1).bind fun μ7 =>
    u_X10_print_26 U S N a0 μ7
theorem ue_u_X10_print {μ0 : BM} {ro U S : Nat} (W : Wd μ0 ro U S) {N : Nat} {a0 : Nat} {a0f : Option Nat} (ha0 : a0 < U) (ea0 : a0f = (adr μ0 ro U S (10, a0, 0))) (s : CS) : IM μ0 ro U S id (u_X10_print U S N a0 s) (f_X10_print N a0f (EC μ0 ro U S s)) := by
  unfold f_X10_print u_X10_print
  refine im_fI W (ik_10 ha0) (by decide) rfl ea0 ?_
  refine im_if Iff.rfl (fun _ => ?_) (fun _ => ?_)
  · exact ue_u_X10_print_26 W ha0 ea0 _
  · refine im_fR W (ik_10 ha0) (by decide) rfl ea0 fun v2 ev2 => ?_
    refine im_fI W (ik_10 ha0) (by decide) rfl ea0 ?_
    refine im_fR W (ik_10 ha0) (by decide) rfl ea0 fun v4 ev4 => ?_
    refine im_ck W (ik_6 (two1 ha0)) ev4 fun b6 eb6 => ?_
    refine im_call (ue_u_X6_head W (two1 ha0) eb6 _) fun q5 => ?_
    dsimp only [id]
    refine im_bI (n := 500) W (ia_10_4 ha0) rfl rfl ev2 _ _ fun μ7 => ?_
    exact ue_u_X10_print_26 W ha0 ea0 _
def u_X2_attend_45 (U S N : Nat) (μ : CS) : Option (Unit × CS) :=
  some ((), μ)
theorem ue_u_X2_attend_45 {μ0 : BM} {ro U S : Nat} (W : Wd μ0 ro U S) {N : Nat} (s : CS) : IM μ0 ro U S id (u_X2_attend_45 U S N s) (f_X2_attend_45 N (EC μ0 ro U S s)) := by
  unfold f_X2_attend_45 u_X2_attend_45
  exact im_ret rfl
def u_X2_attend_76 (U S N : Nat) (μ : CS) : Option (Unit × CS) :=
  some ((), μ)
theorem ue_u_X2_attend_76 {μ0 : BM} {ro U S : Nat} (W : Wd μ0 ro U S) {N : Nat} (s : CS) : IM μ0 ro U S id (u_X2_attend_76 U S N s) (f_X2_attend_76 N (EC μ0 ro U S s)) := by
  unfold f_X2_attend_76 u_X2_attend_76
  exact im_ret rfl
def u_X2_attend_24 (U S N : Nat) (a1 : Option Nat) (μ : CS) : Option (Unit × CS) :=
  (a1).bind fun j1 =>
  (u_X6_isEmpty U S N (2 * j1 + 1) μ).bind fun q2 =>
  if ¬ q2.1 = 0 then
    u_X2_attend_45 U S N q2.2
  else
    if (q2.2.1 10 j1 7) ≤ (q2.2.1 2 0 7) then
      (u_X10_print U S N j1 q2.2).bind fun q6 =>
      (some (qI q6.2 10 j1 7 ((q6.2.1 2 0 7) + (q6.2.1 2 0 6)))).bind fun μ10 =>
      if ¬ (μ10.1 10 j1 8) = (3 : Int32) then
        u_X2_attend_76 U S N μ10
      else
        (u_X2_makeReady U S N a1 μ10).bind fun q12 =>
        u_X2_attend_76 U S N q12.2
    else
      u_X2_attend_45 U S N q2.2
theorem ue_u_X2_attend_24 {μ0 : BM} {ro U S : Nat} (W : Wd μ0 ro U S) {N : Nat} {a0f : Option Nat} (ea0 : a0f = (adr μ0 ro U S (2, 0, 0))) {a1 : Option Nat} {a1f : Option Nat} (ha1 : vd U a1) (ea1 : a1f = (Option.bind a1 fun b => adr μ0 ro U S (10, b, 0))) (s : CS) : IM μ0 ro U S id (u_X2_attend_24 U S N a1 s) (f_X2_attend_24 N a0f a1f (EC μ0 ro U S s)) := by
  unfold f_X2_attend_24 u_X2_attend_24
  refine im_der (ci := 10) (ha1) (ea1) fun j1 hj1 ej1 => ?_
  refine im_fR W (ik_10 hj1) (by decide) rfl ej1 fun v1 ev1 => ?_
  refine im_ck W (ik_6 (two1 hj1)) ev1 fun b3 eb3 => ?_
  refine im_call (ue_u_X6_isEmpty W (two1 hj1) eb3 _) fun q2 => ?_
  dsimp only [id]
  refine im_if Iff.rfl (fun _ => ?_) (fun _ => ?_)
  · exact ue_u_X2_attend_45 W _
  · refine im_fI W (ik_2 U S) (by decide) rfl ea0 ?_
    refine im_fI W (ik_10 hj1) (by decide) rfl ej1 ?_
    refine im_if Iff.rfl (fun _ => ?_) (fun _ => ?_)
    · refine im_ck W (ik_10 hj1) ej1 fun b7 eb7 => ?_
      refine im_call (ue_u_X10_print W hj1 eb7 _) fun q6 => ?_
      dsimp only [id]
      refine im_fI W (ik_2 U S) (by decide) rfl ea0 ?_
      refine im_fI W (ik_2 U S) (by decide) rfl ea0 ?_
      refine im_pI W (ik_10 hj1) (by decide) rfl ej1 _ ?_
      refine im_fI W (ik_10 hj1) (by decide) rfl ej1 ?_
      refine im_if Iff.rfl (fun _ => ?_) (fun _ => ?_)
      · exact ue_u_X2_attend_76 W _
      · refine im_ck W (ik_2 U S) ea0 fun b13 eb13 => ?_
        refine im_call (ue_u_X2_makeReady W eb13 ha1 ea1 _) fun q12 => ?_
        dsimp only [id]
        exact ue_u_X2_attend_76 W _
    · exact ue_u_X2_attend_45 W _
def u_X2_attend (U S N : Nat) (a1 : Option Nat) (μ : CS) : Option (Unit × CS) :=
  (a1).bind fun j1 =>
  if ¬ (μ.1 10 j1 8) = (4 : Int32) then
    u_X2_attend_24 U S N a1 μ
  else
    if (μ.1 2 0 7) < (μ.1 10 j1 16) then
      u_X2_attend_24 U S N a1 μ
    else
      (u_X2_makeReady U S N a1 μ).bind fun q4 =>
      u_X2_attend_24 U S N a1 q4.2
theorem ue_u_X2_attend {μ0 : BM} {ro U S : Nat} (W : Wd μ0 ro U S) {N : Nat} {a0f : Option Nat} (ea0 : a0f = (adr μ0 ro U S (2, 0, 0))) {a1 : Option Nat} {a1f : Option Nat} (ha1 : vd U a1) (ea1 : a1f = (Option.bind a1 fun b => adr μ0 ro U S (10, b, 0))) (s : CS) : IM μ0 ro U S id (u_X2_attend U S N a1 s) (f_X2_attend N a0f a1f (EC μ0 ro U S s)) := by
  unfold f_X2_attend u_X2_attend
  refine im_der (ci := 10) (ha1) (ea1) fun j1 hj1 ej1 => ?_
  refine im_fI W (ik_10 hj1) (by decide) rfl ej1 ?_
  refine im_if Iff.rfl (fun _ => ?_) (fun _ => ?_)
  · exact ue_u_X2_attend_24 W ea0 ha1 ea1 _
  · refine im_fI W (ik_2 U S) (by decide) rfl ea0 ?_
    refine im_fI W (ik_10 hj1) (by decide) rfl ej1 ?_
    refine im_if Iff.rfl (fun _ => ?_) (fun _ => ?_)
    · exact ue_u_X2_attend_24 W ea0 ha1 ea1 _
    · refine im_ck W (ik_2 U S) ea0 fun b5 eb5 => ?_
      refine im_call (ue_u_X2_makeReady W eb5 ha1 ea1 _) fun q4 => ?_
      dsimp only [id]
      exact ue_u_X2_attend_24 W ea0 ha1 ea1 _
def u_X1_isIdle_12 (U S N : Nat) (s0 : Int32) (μ : CS) : Option (Int32 × CS) :=
  cZ s0 μ
theorem ue_u_X1_isIdle_12 {μ0 : BM} {ro U S : Nat} (W : Wd μ0 ro U S) {N : Nat} (s0 : Int32) (s : CS) : IM μ0 ro U S id (u_X1_isIdle_12 U S N s0 s) (f_X1_isIdle_12 N s0 (EC μ0 ro U S s)) := by
  unfold f_X1_isIdle_12 u_X1_isIdle_12
  exact im_rZ _ _
def u_X1_isIdle (U S N : Nat) (μ : CS) : Option (Int32 × CS) :=
  if ¬ (μ.1 1 0 0) = 0 then
    u_X1_isIdle_12 U S N 0 μ
  else
    u_X1_isIdle_12 U S N 1 μ
theorem ue_u_X1_isIdle {μ0 : BM} {ro U S : Nat} (W : Wd μ0 ro U S) {N : Nat} {a0f : Option Nat} (ea0 : a0f = (adr μ0 ro U S (1, 0, 0))) (s : CS) : IM μ0 ro U S id (u_X1_isIdle U S N s) (f_X1_isIdle N a0f (EC μ0 ro U S s)) := by
  unfold f_X1_isIdle u_X1_isIdle
  refine im_fI W (ik_1 U S) (by decide) rfl ea0 ?_
  refine im_if Iff.rfl (fun _ => ?_) (fun _ => ?_)
  · exact ue_u_X1_isIdle_12 W _ _
  · exact ue_u_X1_isIdle_12 W _ _
def u_X1_copyStep_35 (U S N : Nat) (μ : CS) : Option (Unit × CS) :=
  some ((), μ)
theorem ue_u_X1_copyStep_35 {μ0 : BM} {ro U S : Nat} (W : Wd μ0 ro U S) {N : Nat} (s : CS) : IM μ0 ro U S id (u_X1_copyStep_35 U S N s) (f_X1_copyStep_35 N (EC μ0 ro U S s)) := by
  unfold f_X1_copyStep_35 u_X1_copyStep_35
  exact im_ret rfl
def u_X1_copyStep (U S N : Nat) (a1 : Nat × Nat × Nat) (a2 : Nat × Nat × Nat) (μ : CS) : Option (Unit × CS) :=
  if (μ.1 1 0 3) < 0 then
    u_X1_copyStep_35 U S N μ
  else
    if (4096 : Int32) < ((μ.1 1 0 3) + 16) then
      u_X1_copyStep_35 U S N μ
    else
      (cpH μ (lnK lnT a1.1 (a1.2.2 + 1)) (μ.2.1 a1.1 a1.2.1 a1.2.2) (μ.1 1 0 3) (lnK lnT a2.1 (a2.2.2 + 1)) a2.1 a2.2.1 a2.2.2 (μ.1 1 0 3) 16).bind fun μ5 =>
      u_X1_copyStep_35 U S N μ5
theorem ue_u_X1_copyStep {μ0 : BM} {ro U S : Nat} (W : Wd μ0 ro U S) {N : Nat} {a0f : Option Nat} (ea0 : a0f = (adr μ0 ro U S (1, 0, 0))) {a1 : Nat × Nat × Nat} {a1f : Option Nat} (ha1 : inK U S (a1.1, a1.2.1, a1.2.2 + 1) ∧ isA a1.1 (a1.2.2 + 1) = true) (ea1 : a1f = (adr μ0 ro U S (a1.1, a1.2.1, a1.2.2 + 1))) {a2 : Nat × Nat × Nat} {a2f : Option Nat} (ha2 : inK U S (a2.1, a2.2.1, a2.2.2 + 1) ∧ isA a2.1 (a2.2.2 + 1) = true) (ea2 : a2f = (adr μ0 ro U S (a2.1, a2.2.1, a2.2.2 + 1))) (s : CS) : IM μ0 ro U S id (u_X1_copyStep U S N a1 a2 s) (f_X1_copyStep N a0f a1f a2f (EC μ0 ro U S s)) := by
  unfold f_X1_copyStep u_X1_copyStep
  refine im_fI W (ik_1 U S) (by decide) rfl ea0 ?_
  refine im_if Iff.rfl (fun _ => ?_) (fun _ => ?_)
  · exact ue_u_X1_copyStep_35 W _
  · refine im_fI W (ik_1 U S) (by decide) rfl ea0 ?_
    refine im_if Iff.rfl (fun _ => ?_) (fun _ => ?_)
    · exact ue_u_X1_copyStep_35 W _
    · refine im_fI W (ik_1 U S) (by decide) rfl ea0 ?_
      refine im_fI W (ik_1 U S) (by decide) rfl ea0 ?_
      refine im_cpy W ha1 ea1 ha2 ea2 _ _ _ fun μ5 => ?_
      exact ue_u_X1_copyStep_35 W _
def u_X1_moveBlockStep_99 (U S N : Nat) (μ : CS) : Option (Unit × CS) :=
  some ((), μ)
theorem ue_u_X1_moveBlockStep_99 {μ0 : BM} {ro U S : Nat} (W : Wd μ0 ro U S) {N : Nat} (s : CS) : IM μ0 ro U S id (u_X1_moveBlockStep_99 U S N s) (f_X1_moveBlockStep_99 N (EC μ0 ro U S s)) := by
  unfold f_X1_moveBlockStep_99 u_X1_moveBlockStep_99
  exact im_ret rfl
def u_X1_moveBlockStep_93 (U S N : Nat) (k18 : (Option Nat) → (Option Nat) → Int32 → Int32 → CS → Option (Unit × CS)) (a1 : Option Nat) (a2 : Option Nat) (a3 : Int32) (a4 : Int32) (μ : CS) : Option (Unit × CS) :=
  k18 a1 a2 a3 (a4 + 1) μ
theorem ue_u_X1_moveBlockStep_93 {μ0 : BM} {ro U S : Nat} (W : Wd μ0 ro U S) {N : Nat} {k18 : (Option Nat) → (Option Nat) → (Option Nat) → Int32 → Int32 → Mem → Option (Unit × Mem)} {k18' : (Option Nat) → (Option Nat) → Int32 → Int32 → CS → Option (Unit × CS)} (hk18 : ∀ {ya0f : Option Nat} (eya0 : ya0f = (adr μ0 ro U S (1, 0, 0))) {ya1 : Option Nat} {ya1f : Option Nat} (hya1 : vd U ya1) (eya1 : ya1f = (Option.bind ya1 fun b => adr μ0 ro U S (10, b, 0))) {ya2 : Option Nat} {ya2f : Option Nat} (hya2 : vd S ya2) (eya2 : ya2f = (Option.bind ya2 fun b => adr μ0 ro U S (8, b, 0))) (ya3 : Int32) (ya4 : Int32) (s : CS), IM μ0 ro U S id (k18' ya1 ya2 ya3 ya4 s) (k18 ya0f ya1f ya2f ya3 ya4 (EC μ0 ro U S s))) {a0f : Option Nat} (ea0 : a0f = (adr μ0 ro U S (1, 0, 0))) {a1 : Option Nat} {a1f : Option Nat} (ha1 : vd U a1) (ea1 : a1f = (Option.bind a1 fun b => adr μ0 ro U S (10, b, 0))) {a2 : Option Nat} {a2f : Option Nat} (ha2 : vd S a2) (ea2 : a2f = (Option.bind a2 fun b => adr μ0 ro U S (8, b, 0))) (a3 : Int32) (a4 : Int32) (s : CS) : IM μ0 ro U S id (u_X1_moveBlockStep_93 U S N k18' a1 a2 a3 a4 s) (f_X1_moveBlockStep_93 N k18 a0f a1f a2f a3 a4 (EC μ0 ro U S s)) := by
  unfold f_X1_moveBlockStep_93 u_X1_moveBlockStep_93
  exact hk18 ea0 ha1 ea1 ha2 ea2 _ _ _
def uh_X1_moveBlockStep_18 (U S N : Nat) (k18 : (Option Nat) → (Option Nat) → Int32 → Int32 → CS → Option (Unit × CS)) (a1 : Option Nat) (a2 : Option Nat) (a3 : Int32) (a4 : Int32) (μ : CS) : Option (Unit × CS) :=
  if ((μ.1 1 0 3) + 16) ≤ a4 then
    u_X1_moveBlockStep_99 U S N μ
  else
    if (128 : Int32) ≤ a4 then
      u_X1_moveBlockStep_99 U S N μ
    else
      (a1).bind fun j1 =>
      if ¬ (μ.1 1 0 0) = (3 : Int32) then
        (a2).bind fun j2 =>
        (rH 4096 μ 8 j2 1 (((μ.1 10 j1 12) + a4) &&& 4095)).bind fun v6 =>
        (wH 1024 μ 10 j1 2 (a3 + a4) v6).bind fun μ7 =>
        u_X1_moveBlockStep_93 U S N k18 a1 a2 a3 a4 μ7
      else
        (rH 1024 μ 10 j1 2 (a3 + a4)).bind fun v9 =>
        (a2).bind fun j3 =>
        (u_X8_put U S N j3 (((μ.1 10 j1 12) + a4) &&& 4095) v9 μ).bind fun q10 =>
        u_X1_moveBlockStep_93 U S N k18 a1 a2 a3 a4 q10.2
theorem ue_uh_X1_moveBlockStep_18 {μ0 : BM} {ro U S : Nat} (W : Wd μ0 ro U S) {N : Nat} {k18 : (Option Nat) → (Option Nat) → (Option Nat) → Int32 → Int32 → Mem → Option (Unit × Mem)} {k18' : (Option Nat) → (Option Nat) → Int32 → Int32 → CS → Option (Unit × CS)} (hk18 : ∀ {ya0f : Option Nat} (eya0 : ya0f = (adr μ0 ro U S (1, 0, 0))) {ya1 : Option Nat} {ya1f : Option Nat} (hya1 : vd U ya1) (eya1 : ya1f = (Option.bind ya1 fun b => adr μ0 ro U S (10, b, 0))) {ya2 : Option Nat} {ya2f : Option Nat} (hya2 : vd S ya2) (eya2 : ya2f = (Option.bind ya2 fun b => adr μ0 ro U S (8, b, 0))) (ya3 : Int32) (ya4 : Int32) (s : CS), IM μ0 ro U S id (k18' ya1 ya2 ya3 ya4 s) (k18 ya0f ya1f ya2f ya3 ya4 (EC μ0 ro U S s))) {a0f : Option Nat} (ea0 : a0f = (adr μ0 ro U S (1, 0, 0))) {a1 : Option Nat} {a1f : Option Nat} (ha1 : vd U a1) (ea1 : a1f = (Option.bind a1 fun b => adr μ0 ro U S (10, b, 0))) {a2 : Option Nat} {a2f : Option Nat} (ha2 : vd S a2) (ea2 : a2f = (Option.bind a2 fun b => adr μ0 ro U S (8, b, 0))) (a3 : Int32) (a4 : Int32) (s : CS) : IM μ0 ro U S id (uh_X1_moveBlockStep_18 U S N k18' a1 a2 a3 a4 s) (H_X1_moveBlockStep_18 N k18 a0f a1f a2f a3 a4 (EC μ0 ro U S s)) := by
  unfold H_X1_moveBlockStep_18 uh_X1_moveBlockStep_18
  refine im_fI W (ik_1 U S) (by decide) rfl ea0 ?_
  refine im_if Iff.rfl (fun _ => ?_) (fun _ => ?_)
  · exact ue_u_X1_moveBlockStep_99 W _
  · refine im_if Iff.rfl (fun _ => ?_) (fun _ => ?_)
    · exact ue_u_X1_moveBlockStep_99 W _
    · refine im_der (ci := 10) (ha1) (ea1) fun j1 hj1 ej1 => ?_
      refine im_fI W (ik_10 hj1) (by decide) rfl ej1 ?_
      refine im_fI W (ik_1 U S) (by decide) rfl ea0 ?_
      refine im_if Iff.rfl (fun _ => ?_) (fun _ => ?_)
      · refine im_fR W (ik_10 hj1) (by decide) rfl ej1 fun v4 ev4 => ?_
        refine im_der (ci := 8) (ha2) (ea2) fun j2 hj2 ej2 => ?_
        refine im_fR W (ik_8 hj2) (by decide) rfl ej2 fun v5 ev5 => ?_
        refine im_aI (n := 4096) W (ia_8_2 hj2) rfl rfl ev5 _ fun v6 => ?_
        refine im_bI (n := 1024) W (ia_10_3 hj1) rfl rfl ev4 _ _ fun μ7 => ?_
        exact ue_u_X1_moveBlockStep_93 W hk18 ea0 ha1 ea1 ha2 ea2 _ _ _
      · refine im_fR W (ik_10 hj1) (by decide) rfl ej1 fun v8 ev8 => ?_
        refine im_aI (n := 1024) W (ia_10_3 hj1) rfl rfl ev8 _ fun v9 => ?_
        refine im_der (ci := 8) (ha2) (ea2) fun j3 hj3 ej3 => ?_
        refine im_ck W (ik_8 hj3) ej3 fun b11 eb11 => ?_
        refine im_call (ue_u_X8_put W hj3 eb11 _ _ _) fun q10 => ?_
        dsimp only [id]
        exact ue_u_X1_moveBlockStep_93 W hk18 ea0 ha1 ea1 ha2 ea2 _ _ _
def ul_X1_moveBlockStep_18 (U S N : Nat)  : Nat → (Option Nat) → (Option Nat) → Int32 → Int32 → CS → Option (Unit × CS)
  | 0 => fun _ _ _ _ _ => none
  | n + 1 => uh_X1_moveBlockStep_18 U S N (ul_X1_moveBlockStep_18 U S N n)
theorem ue_ul_X1_moveBlockStep_18 {μ0 : BM} {ro U S : Nat} (W : Wd μ0 ro U S) {N : Nat} : ∀ (n : Nat) {a0f : Option Nat} (ea0 : a0f = (adr μ0 ro U S (1, 0, 0))) {a1 : Option Nat} {a1f : Option Nat} (ha1 : vd U a1) (ea1 : a1f = (Option.bind a1 fun b => adr μ0 ro U S (10, b, 0))) {a2 : Option Nat} {a2f : Option Nat} (ha2 : vd S a2) (ea2 : a2f = (Option.bind a2 fun b => adr μ0 ro U S (8, b, 0))) (a3 : Int32) (a4 : Int32) (s : CS), IM μ0 ro U S id (ul_X1_moveBlockStep_18 U S N n a1 a2 a3 a4 s) (L_X1_moveBlockStep_18 N n a0f a1f a2f a3 a4 (EC μ0 ro U S s)) := by
  intro n
  induction n with
  | zero => intros; exact im_none
  | succ n ih => intro a0f ea0 a1 a1f ha1 ea1 a2 a2f ha2 ea2 a3 a4 s; exact ue_uh_X1_moveBlockStep_18 W ih ea0 ha1 ea1 ha2 ea2 _ _ _
def u_X1_moveBlockStep (U S N : Nat) (a1 : Option Nat) (a2 : Option Nat) (μ : CS) : Option (Unit × CS) :=
  (a1).bind fun j1 =>
  ul_X1_moveBlockStep_18 U S N N a1 a2 (((μ.1 10 j1 10) &&& 7) * 128) (μ.1 1 0 3) μ
theorem ue_u_X1_moveBlockStep {μ0 : BM} {ro U S : Nat} (W : Wd μ0 ro U S) {N : Nat} {a0f : Option Nat} (ea0 : a0f = (adr μ0 ro U S (1, 0, 0))) {a1 : Option Nat} {a1f : Option Nat} (ha1 : vd U a1) (ea1 : a1f = (Option.bind a1 fun b => adr μ0 ro U S (10, b, 0))) {a2 : Option Nat} {a2f : Option Nat} (ha2 : vd S a2) (ea2 : a2f = (Option.bind a2 fun b => adr μ0 ro U S (8, b, 0))) (s : CS) : IM μ0 ro U S id (u_X1_moveBlockStep U S N a1 a2 s) (f_X1_moveBlockStep N a0f a1f a2f (EC μ0 ro U S s)) := by
  unfold f_X1_moveBlockStep u_X1_moveBlockStep
  refine im_der (ci := 10) (ha1) (ea1) fun j1 hj1 ej1 => ?_
  refine im_fI W (ik_10 hj1) (by decide) rfl ej1 ?_
  refine im_fI W (ik_1 U S) (by decide) rfl ea0 ?_
  exact ue_ul_X1_moveBlockStep_18 W N ea0 ha1 ea1 ha2 ea2 _ _ _
def u_X1_advance_14 (U S N : Nat) (μ : CS) : Option (Int32 × CS) :=
  cZ 0 μ
theorem ue_u_X1_advance_14 {μ0 : BM} {ro U S : Nat} (W : Wd μ0 ro U S) {N : Nat} (s : CS) : IM μ0 ro U S id (u_X1_advance_14 U S N s) (f_X1_advance_14 N (EC μ0 ro U S s)) := by
  unfold f_X1_advance_14 u_X1_advance_14
  exact im_rZ _ _
def u_X1_advance_134 (U S N : Nat) (s0 : Int32) (μ : CS) : Option (Int32 × CS) :=
  cZ s0 μ
theorem ue_u_X1_advance_134 {μ0 : BM} {ro U S : Nat} (W : Wd μ0 ro U S) {N : Nat} (s0 : Int32) (s : CS) : IM μ0 ro U S id (u_X1_advance_134 U S N s0 s) (f_X1_advance_134 N s0 (EC μ0 ro U S s)) := by
  unfold f_X1_advance_134 u_X1_advance_134
  exact im_rZ _ _
def u_X1_advance_126 (U S N : Nat) (s0 : Int32) (s1 : Int32) (μ : CS) : Option (Int32 × CS) :=
  if s0 < s1 then
    u_X1_advance_134 U S N 0 μ
  else
    u_X1_advance_134 U S N 1 μ
theorem ue_u_X1_advance_126 {μ0 : BM} {ro U S : Nat} (W : Wd μ0 ro U S) {N : Nat} (s0 : Int32) (s1 : Int32) (s : CS) : IM μ0 ro U S id (u_X1_advance_126 U S N s0 s1 s) (f_X1_advance_126 N s0 s1 (EC μ0 ro U S s)) := by
  unfold f_X1_advance_126 u_X1_advance_126
  refine im_if Iff.rfl (fun _ => ?_) (fun _ => ?_)
  · exact ue_u_X1_advance_134 W _ _
  · exact ue_u_X1_advance_134 W _ _
def u_X1_advance_117 (U S N : Nat) (s0 : Int32) (μ : CS) : Option (Int32 × CS) :=
  u_X1_advance_126 U S N s0 4096 μ
theorem ue_u_X1_advance_117 {μ0 : BM} {ro U S : Nat} (W : Wd μ0 ro U S) {N : Nat} (s0 : Int32) (s : CS) : IM μ0 ro U S id (u_X1_advance_117 U S N s0 s) (f_X1_advance_117 N s0 (EC μ0 ro U S s)) := by
  unfold f_X1_advance_117 u_X1_advance_117
  exact ue_u_X1_advance_126 W _ _ _
def u_X1_advance_86 (U S N : Nat) (μ : CS) : Option (Int32 × CS) :=
  (some (qI μ 1 0 3 ((μ.1 1 0 3) + 16))).bind fun μ2 =>
  if (μ2.1 1 0 0) = (1 : Int32) then
    u_X1_advance_117 U S N (μ2.1 1 0 3) μ2
  else
    if ¬ (μ2.1 1 0 0) = (2 : Int32) then
      u_X1_advance_126 U S N (μ2.1 1 0 3) 128 μ2
    else
      u_X1_advance_117 U S N (μ2.1 1 0 3) μ2
theorem ue_u_X1_advance_86 {μ0 : BM} {ro U S : Nat} (W : Wd μ0 ro U S) {N : Nat} {a0f : Option Nat} (ea0 : a0f = (adr μ0 ro U S (1, 0, 0))) (s : CS) : IM μ0 ro U S id (u_X1_advance_86 U S N s) (f_X1_advance_86 N a0f (EC μ0 ro U S s)) := by
  unfold f_X1_advance_86 u_X1_advance_86
  refine im_fI W (ik_1 U S) (by decide) rfl ea0 ?_
  refine im_pI W (ik_1 U S) (by decide) rfl ea0 _ ?_
  refine im_fI W (ik_1 U S) (by decide) rfl ea0 ?_
  refine im_fI W (ik_1 U S) (by decide) rfl ea0 ?_
  refine im_if Iff.rfl (fun _ => ?_) (fun _ => ?_)
  · exact ue_u_X1_advance_117 W _ _
  · refine im_fI W (ik_1 U S) (by decide) rfl ea0 ?_
    refine im_if Iff.rfl (fun _ => ?_) (fun _ => ?_)
    · exact ue_u_X1_advance_126 W _ _ _
    · exact ue_u_X1_advance_117 W _ _
def u_X1_advance (U S N : Nat) (μ : CS) : Option (Int32 × CS) :=
  (vl U (μ.2.2.2.1 1 0 1)).bind fun v1 =>
  if v1 = none then
    u_X1_advance_14 U S N μ
  else
    (vl S (μ.2.2.2.1 1 0 2)).bind fun v2 =>
    if ¬ v2 = none then
      if ¬ (μ.1 1 0 0) = (1 : Int32) then
        if ¬ (μ.1 1 0 0) = (2 : Int32) then
          (vl U (μ.2.2.2.1 1 0 1)).bind fun v5 =>
          (vl S (μ.2.2.2.1 1 0 2)).bind fun v6 =>
          (u_X1_moveBlockStep U S N v5 v6 μ).bind fun q7 =>
          u_X1_advance_86 U S N q7.2
        else
          (vl U (μ.2.2.2.1 1 0 1)).bind fun v9 =>
          (v9).bind fun j1 =>
          (vl S (μ.2.2.2.1 1 0 2)).bind fun v11 =>
          (v11).bind fun j2 =>
          (u_X1_copyStep U S N (10, j1, 1) (8, j2, 1) μ).bind fun q13 =>
          u_X1_advance_86 U S N q13.2
      else
        (vl S (μ.2.2.2.1 1 0 2)).bind fun v15 =>
        (v15).bind fun j3 =>
        (vl U (μ.2.2.2.1 1 0 1)).bind fun v17 =>
        (v17).bind fun j4 =>
        (u_X1_copyStep U S N (8, j3, 1) (10, j4, 1) μ).bind fun q19 =>
        u_X1_advance_86 U S N q19.2
    else
      u_X1_advance_14 U S N μ
theorem ue_u_X1_advance {μ0 : BM} {ro U S : Nat} (W : Wd μ0 ro U S) {N : Nat} {a0f : Option Nat} (ea0 : a0f = (adr μ0 ro U S (1, 0, 0))) (s : CS) : IM μ0 ro U S id (u_X1_advance U S N s) (f_X1_advance N a0f (EC μ0 ro U S s)) := by
  unfold f_X1_advance u_X1_advance
  refine im_fD1 W (ik_1 U S) (by decide) rfl ea0 fun v1 hv1 v1' ev1 => ?_
  refine im_if (im_nn 10 W (by simp) hv1 ev1) (fun _ => ?_) (fun _ => ?_)
  · exact ue_u_X1_advance_14 W _
  · refine im_fD2 W (ik_1 U S) (by decide) rfl ea0 fun v2 hv2 v2' ev2 => ?_
    refine im_if (not_congr (im_nn 8 W (by simp) hv2 ev2)) (fun _ => ?_) (fun _ => ?_)
    · refine im_fI W (ik_1 U S) (by decide) rfl ea0 ?_
      refine im_if Iff.rfl (fun _ => ?_) (fun _ => ?_)
      · refine im_fI W (ik_1 U S) (by decide) rfl ea0 ?_
        refine im_if Iff.rfl (fun _ => ?_) (fun _ => ?_)
        · refine im_fD1 W (ik_1 U S) (by decide) rfl ea0 fun v5 hv5 v5' ev5 => ?_
          refine im_fD2 W (ik_1 U S) (by decide) rfl ea0 fun v6 hv6 v6' ev6 => ?_
          refine im_ck W (ik_1 U S) ea0 fun b8 eb8 => ?_
          refine im_call (ue_u_X1_moveBlockStep W eb8 hv5 ev5 hv6 ev6 _) fun q7 => ?_
          dsimp only [id]
          exact ue_u_X1_advance_86 W ea0 _
        · refine im_fD1 W (ik_1 U S) (by decide) rfl ea0 fun v9 hv9 v9' ev9 => ?_
          refine im_der (ci := 10) (hv9) (ev9) fun j1 hj1 ej1 => ?_
          refine im_fR W (ik_10 hj1) (by decide) rfl ej1 fun v10 ev10 => ?_
          refine im_fD2 W (ik_1 U S) (by decide) rfl ea0 fun v11 hv11 v11' ev11 => ?_
          refine im_der (ci := 8) (hv11) (ev11) fun j2 hj2 ej2 => ?_
          refine im_fR W (ik_8 hj2) (by decide) rfl ej2 fun v12 ev12 => ?_
          refine im_ck W (ik_1 U S) ea0 fun b14 eb14 => ?_
          refine im_call (ue_u_X1_copyStep W eb14 ⟨(ia_10_2 hj1), rfl⟩ ev10 ⟨(ia_8_2 hj2), rfl⟩ ev12 _) fun q13 => ?_
          dsimp only [id]
          exact ue_u_X1_advance_86 W ea0 _
      · refine im_fD2 W (ik_1 U S) (by decide) rfl ea0 fun v15 hv15 v15' ev15 => ?_
        refine im_der (ci := 8) (hv15) (ev15) fun j3 hj3 ej3 => ?_
        refine im_fR W (ik_8 hj3) (by decide) rfl ej3 fun v16 ev16 => ?_
        refine im_fD1 W (ik_1 U S) (by decide) rfl ea0 fun v17 hv17 v17' ev17 => ?_
        refine im_der (ci := 10) (hv17) (ev17) fun j4 hj4 ej4 => ?_
        refine im_fR W (ik_10 hj4) (by decide) rfl ej4 fun v18 ev18 => ?_
        refine im_ck W (ik_1 U S) ea0 fun b20 eb20 => ?_
        refine im_call (ue_u_X1_copyStep W eb20 ⟨(ia_8_2 hj3), rfl⟩ ev16 ⟨(ia_10_2 hj4), rfl⟩ ev18 _) fun q19 => ?_
        dsimp only [id]
        exact ue_u_X1_advance_86 W ea0 _
    · exact ue_u_X1_advance_14 W _
def u_X8_give (U S N : Nat) (a0 : Nat) (a1 : Option Nat) (μ : CS) : Option (Unit × CS) :=
  (some (qR μ 8 a0 2 a1)).bind fun μ1 =>
  (a1).bind fun j1 =>
  (some (qR μ1 10 j1 19 (some a0))).bind fun μ2 =>
  (qZ μ2 8 a0 3 0).bind fun μ3 =>
  (qZ μ3 8 a0 4 0).bind fun μ4 =>
  some ((), μ4)
theorem ue_u_X8_give {μ0 : BM} {ro U S : Nat} (W : Wd μ0 ro U S) {N : Nat} {a0 : Nat} {a0f : Option Nat} (ha0 : a0 < S) (ea0 : a0f = (adr μ0 ro U S (8, a0, 0))) {a1 : Option Nat} {a1f : Option Nat} (ha1 : vd U a1) (ea1 : a1f = (Option.bind a1 fun b => adr μ0 ro U S (10, b, 0))) (s : CS) : IM μ0 ro U S id (u_X8_give U S N a0 a1 s) (f_X8_give N a0f a1f (EC μ0 ro U S s)) := by
  unfold f_X8_give u_X8_give
  refine im_pR1 W (ik_8 ha0) (by decide) rfl ea0 (ha1) (ea1) ?_
  refine im_der (ci := 10) (ha1) (ea1) fun j1 hj1 ej1 => ?_
  refine im_pR2 W (ik_10 hj1) (by decide) rfl ej1 ((vd_s ha0)) (ea0) ?_
  refine im_pZ W (ik_8 ha0) (by decide) rfl ea0 _ fun μ3 => ?_
  refine im_pZ W (ik_8 ha0) (by decide) rfl ea0 _ fun μ4 => ?_
  exact im_ret rfl
def u_X2_finishBlock (U S N : Nat) (a1 : Option Nat) (a2 : Option Nat) (μ : CS) : Option (Unit × CS) :=
  (qZ μ 1 0 4 1).bind fun μ2 =>
  (some (qI μ2 1 0 7 ((μ2.1 1 0 7) + 1))).bind fun μ5 =>
  (a1).bind fun j1 =>
  (some (qI μ5 10 j1 10 0)).bind fun μ6 =>
  (some (qI μ6 10 j1 14 ((μ6.1 10 j1 14) + 1))).bind fun μ8 =>
  (some (qI μ8 2 0 11 ((μ8.1 2 0 11) + 1))).bind fun μ10 =>
  (a2).bind fun j2 =>
  (qZ μ10 8 j2 4 1).bind fun μ11 =>
  (u_X2_makeReady U S N a1 μ11).bind fun q12 =>
  some ((), q12.2)
theorem ue_u_X2_finishBlock {μ0 : BM} {ro U S : Nat} (W : Wd μ0 ro U S) {N : Nat} {a0f : Option Nat} (ea0 : a0f = (adr μ0 ro U S (2, 0, 0))) {a1 : Option Nat} {a1f : Option Nat} (ha1 : vd U a1) (ea1 : a1f = (Option.bind a1 fun b => adr μ0 ro U S (10, b, 0))) {a2 : Option Nat} {a2f : Option Nat} (ha2 : vd S a2) (ea2 : a2f = (Option.bind a2 fun b => adr μ0 ro U S (8, b, 0))) (s : CS) : IM μ0 ro U S id (u_X2_finishBlock U S N a1 a2 s) (f_X2_finishBlock N a0f a1f a2f (EC μ0 ro U S s)) := by
  unfold f_X2_finishBlock u_X2_finishBlock
  refine im_fR W (ik_2 U S) (by decide) rfl ea0 fun v1 ev1 => ?_
  refine im_pZ W (ik_1 U S) (by decide) rfl ev1 _ fun μ2 => ?_
  refine im_fR W (ik_2 U S) (by decide) rfl ea0 fun v3 ev3 => ?_
  refine im_fI W (ik_1 U S) (by decide) rfl ev3 ?_
  refine im_pI W (ik_1 U S) (by decide) rfl ev3 _ ?_
  refine im_der (ci := 10) (ha1) (ea1) fun j1 hj1 ej1 => ?_
  refine im_pI W (ik_10 hj1) (by decide) rfl ej1 _ ?_
  refine im_fI W (ik_10 hj1) (by decide) rfl ej1 ?_
  refine im_pI W (ik_10 hj1) (by decide) rfl ej1 _ ?_
  refine im_fI W (ik_2 U S) (by decide) rfl ea0 ?_
  refine im_pI W (ik_2 U S) (by decide) rfl ea0 _ ?_
  refine im_der (ci := 8) (ha2) (ea2) fun j2 hj2 ej2 => ?_
  refine im_pZ W (ik_8 hj2) (by decide) rfl ej2 _ fun μ11 => ?_
  refine im_ck W (ik_2 U S) ea0 fun b13 eb13 => ?_
  refine im_call (ue_u_X2_makeReady W eb13 ha1 ea1 _) fun q12 => ?_
  dsimp only [id]
  exact im_ret rfl
def u_X1_start (U S N : Nat) (a1 : Int32) (a2 : Option Nat) (a3 : Option Nat) (μ : CS) : Option (Unit × CS) :=
  (some (qI μ 1 0 0 a1)).bind fun μ1 =>
  (some (qR μ1 1 0 1 a2)).bind fun μ2 =>
  (some (qR μ2 1 0 2 a3)).bind fun μ3 =>
  (some (qI μ3 1 0 3 0)).bind fun μ4 =>
  some ((), μ4)
theorem ue_u_X1_start {μ0 : BM} {ro U S : Nat} (W : Wd μ0 ro U S) {N : Nat} {a0f : Option Nat} (ea0 : a0f = (adr μ0 ro U S (1, 0, 0))) (a1 : Int32) {a2 : Option Nat} {a2f : Option Nat} (ha2 : vd U a2) (ea2 : a2f = (Option.bind a2 fun b => adr μ0 ro U S (10, b, 0))) {a3 : Option Nat} {a3f : Option Nat} (ha3 : vd S a3) (ea3 : a3f = (Option.bind a3 fun b => adr μ0 ro U S (8, b, 0))) (s : CS) : IM μ0 ro U S id (u_X1_start U S N a1 a2 a3 s) (f_X1_start N a0f a1 a2f a3f (EC μ0 ro U S s)) := by
  unfold f_X1_start u_X1_start
  refine im_pI W (ik_1 U S) (by decide) rfl ea0 _ ?_
  refine im_pR1 W (ik_1 U S) (by decide) rfl ea0 (ha2) (ea2) ?_
  refine im_pR2 W (ik_1 U S) (by decide) rfl ea0 (ha3) (ea3) ?_
  refine im_pI W (ik_1 U S) (by decide) rfl ea0 _ ?_
  exact im_ret rfl
def u_X1_clear (U S N : Nat) (μ : CS) : Option (Unit × CS) :=
  (u_X1_start U S N 0 none none μ).bind fun q1 =>
  some ((), q1.2)
theorem ue_u_X1_clear {μ0 : BM} {ro U S : Nat} (W : Wd μ0 ro U S) {N : Nat} {a0f : Option Nat} (ea0 : a0f = (adr μ0 ro U S (1, 0, 0))) (s : CS) : IM μ0 ro U S id (u_X1_clear U S N s) (f_X1_clear N a0f (EC μ0 ro U S s)) := by
  unfold f_X1_clear u_X1_clear
  refine im_ck W (ik_1 U S) ea0 fun b2 eb2 => ?_
  refine im_call (ue_u_X1_start W eb2 _ (vd_n _) rfl (vd_n _) rfl _) fun q1 => ?_
  dsimp only [id]
  exact im_ret rfl
def u_X2_finishTask_8 (U S N : Nat) (μ : CS) : Option (Unit × CS) :=
  some ((), μ)
theorem ue_u_X2_finishTask_8 {μ0 : BM} {ro U S : Nat} (W : Wd μ0 ro U S) {N : Nat} (s : CS) : IM μ0 ro U S id (u_X2_finishTask_8 U S N s) (f_X2_finishTask_8 N (EC μ0 ro U S s)) := by
  unfold f_X2_finishTask_8 u_X2_finishTask_8
  exact im_ret rfl
def u_X2_finishTask_86 (U S N : Nat) (μ : CS) : Option (Unit × CS) :=
  (u_X1_clear U S N μ).bind fun q2 =>
  some ((), q2.2)
theorem ue_u_X2_finishTask_86 {μ0 : BM} {ro U S : Nat} (W : Wd μ0 ro U S) {N : Nat} {a0f : Option Nat} (ea0 : a0f = (adr μ0 ro U S (2, 0, 0))) (s : CS) : IM μ0 ro U S id (u_X2_finishTask_86 U S N s) (f_X2_finishTask_86 N a0f (EC μ0 ro U S s)) := by
  unfold f_X2_finishTask_86 u_X2_finishTask_86
  refine im_fR W (ik_2 U S) (by decide) rfl ea0 fun v1 ev1 => ?_
  refine im_ck W (ik_1 U S) ev1 fun b3 eb3 => ?_
  refine im_call (ue_u_X1_clear W eb3 _) fun q2 => ?_
  dsimp only [id]
  exact im_ret rfl
def u_X2_finishTask (U S N : Nat) (a1 : Option Nat) (a2 : Option Nat) (μ : CS) : Option (Unit × CS) :=
  if a1 = none then
    u_X2_finishTask_8 U S N μ
  else
    if ¬ a2 = none then
      (qZ μ 1 0 4 0).bind fun μ2 =>
      if ¬ (μ2.1 1 0 0) = (1 : Int32) then
        if ¬ (μ2.1 1 0 0) = (2 : Int32) then
          (u_X2_finishBlock U S N a1 a2 μ2).bind fun q7 =>
          u_X2_finishTask_86 U S N q7.2
        else
          (a2).bind fun j1 =>
          (u_X8_give U S N j1 a1 μ2).bind fun q9 =>
          (some (qI q9.2 1 0 5 ((q9.2.1 1 0 5) + 1))).bind fun μ13 =>
          u_X2_finishTask_86 U S N μ13
      else
        (a2).bind fun j2 =>
        (u_X8_release U S N j2 μ2).bind fun q14 =>
        (some (qI q14.2 1 0 6 ((q14.2.1 1 0 6) + 1))).bind fun μ18 =>
        u_X2_finishTask_86 U S N μ18
    else
      u_X2_finishTask_8 U S N μ
theorem ue_u_X2_finishTask {μ0 : BM} {ro U S : Nat} (W : Wd μ0 ro U S) {N : Nat} {a0f : Option Nat} (ea0 : a0f = (adr μ0 ro U S (2, 0, 0))) {a1 : Option Nat} {a1f : Option Nat} (ha1 : vd U a1) (ea1 : a1f = (Option.bind a1 fun b => adr μ0 ro U S (10, b, 0))) {a2 : Option Nat} {a2f : Option Nat} (ha2 : vd S a2) (ea2 : a2f = (Option.bind a2 fun b => adr μ0 ro U S (8, b, 0))) (s : CS) : IM μ0 ro U S id (u_X2_finishTask U S N a1 a2 s) (f_X2_finishTask N a0f a1f a2f (EC μ0 ro U S s)) := by
  unfold f_X2_finishTask u_X2_finishTask
  refine im_if (im_nn 10 W (by simp) ha1 ea1) (fun _ => ?_) (fun _ => ?_)
  · exact ue_u_X2_finishTask_8 W _
  · refine im_if (not_congr (im_nn 8 W (by simp) ha2 ea2)) (fun _ => ?_) (fun _ => ?_)
    · refine im_fR W (ik_2 U S) (by decide) rfl ea0 fun v1 ev1 => ?_
      refine im_pZ W (ik_1 U S) (by decide) rfl ev1 _ fun μ2 => ?_
      refine im_fR W (ik_2 U S) (by decide) rfl ea0 fun v3 ev3 => ?_
      refine im_fI W (ik_1 U S) (by decide) rfl ev3 ?_
      refine im_if Iff.rfl (fun _ => ?_) (fun _ => ?_)
      · refine im_fR W (ik_2 U S) (by decide) rfl ea0 fun v5 ev5 => ?_
        refine im_fI W (ik_1 U S) (by decide) rfl ev5 ?_
        refine im_if Iff.rfl (fun _ => ?_) (fun _ => ?_)
        · refine im_ck W (ik_2 U S) ea0 fun b8 eb8 => ?_
          refine im_call (ue_u_X2_finishBlock W eb8 ha1 ea1 ha2 ea2 _) fun q7 => ?_
          dsimp only [id]
          exact ue_u_X2_finishTask_86 W ea0 _
        · refine im_der (ci := 8) (ha2) (ea2) fun j1 hj1 ej1 => ?_
          refine im_ck W (ik_8 hj1) ej1 fun b10 eb10 => ?_
          refine im_call (ue_u_X8_give W hj1 eb10 ha1 ea1 _) fun q9 => ?_
          dsimp only [id]
          refine im_fR W (ik_2 U S) (by decide) rfl ea0 fun v11 ev11 => ?_
          refine im_fI W (ik_1 U S) (by decide) rfl ev11 ?_
          refine im_pI W (ik_1 U S) (by decide) rfl ev11 _ ?_
          exact ue_u_X2_finishTask_86 W ea0 _
      · refine im_der (ci := 8) (ha2) (ea2) fun j2 hj2 ej2 => ?_
        refine im_ck W (ik_8 hj2) ej2 fun b15 eb15 => ?_
        refine im_call (ue_u_X8_release W hj2 eb15 _) fun q14 => ?_
        dsimp only [id]
        refine im_fR W (ik_2 U S) (by decide) rfl ea0 fun v16 ev16 => ?_
        refine im_fI W (ik_1 U S) (by decide) rfl ev16 ?_
        refine im_pI W (ik_1 U S) (by decide) rfl ev16 _ ?_
        exact ue_u_X2_finishTask_86 W ea0 _
    · exact ue_u_X2_finishTask_8 W _
def u_X5_at_22 (U S N : Nat) (s0 : Option Nat) (μ : CS) : Option (Option Nat × CS) :=
  some (s0, μ)
theorem ue_u_X5_at_22 {μ0 : BM} {ro U S : Nat} (W : Wd μ0 ro U S) {N : Nat} {s0 : Option Nat} {s0f : Option Nat} (hs0 : vd U s0) (es0 : s0f = (Option.bind s0 fun b => adr μ0 ro U S (10, b, 0))) (s : CS) : IM μ0 ro U S (fun v : Option Nat => v.bind fun b => adr μ0 ro U S (10, b, 0)) (u_X5_at_22 U S N s0 s) (f_X5_at_22 N s0f (EC μ0 ro U S s)) := by
  unfold f_X5_at_22 u_X5_at_22
  exact im_ret (es0)
def u_X5_at_12 (U S N : Nat) (μ : CS) : Option (Option Nat × CS) :=
  u_X5_at_22 U S N none μ
theorem ue_u_X5_at_12 {μ0 : BM} {ro U S : Nat} (W : Wd μ0 ro U S) {N : Nat} (s : CS) : IM μ0 ro U S (fun v : Option Nat => v.bind fun b => adr μ0 ro U S (10, b, 0)) (u_X5_at_12 U S N s) (f_X5_at_12 N (EC μ0 ro U S s)) := by
  unfold f_X5_at_12 u_X5_at_12
  exact ue_u_X5_at_22 W (vd_n _) rfl _
def u_X5_at (U S N : Nat) (a1 : Int32) (μ : CS) : Option (Option Nat × CS) :=
  if a1 < 0 then
    u_X5_at_12 U S N μ
  else
    if a1 < (μ.1 5 0 1) then
      ((rU U μ a1).bind (vl U)).bind fun v3 =>
      u_X5_at_22 U S N v3 μ
    else
      u_X5_at_12 U S N μ
theorem ue_u_X5_at {μ0 : BM} {ro U S : Nat} (W : Wd μ0 ro U S) {N : Nat} {a0f : Option Nat} (ea0 : a0f = (adr μ0 ro U S (5, 0, 0))) (a1 : Int32) (s : CS) : IM μ0 ro U S (fun v : Option Nat => v.bind fun b => adr μ0 ro U S (10, b, 0)) (u_X5_at U S N a1 s) (f_X5_at N a0f a1 (EC μ0 ro U S s)) := by
  unfold f_X5_at u_X5_at
  refine im_if Iff.rfl (fun _ => ?_) (fun _ => ?_)
  · exact ue_u_X5_at_12 W _
  · refine im_fI W (ik_5 U S) (by decide) rfl ea0 ?_
    refine im_if Iff.rfl (fun _ => ?_) (fun _ => ?_)
    · refine im_fR W (ik_5 U S) (by decide) rfl ea0 fun v2 ev2 => ?_
      refine im_r_qu W ev2 _ fun v3 hv3 v3' ev3 => ?_
      exact ue_u_X5_at_22 W hv3 ev3 _
    · exact ue_u_X5_at_12 W _
def u_X2_firstWithoutSlot_35 (U S N : Nat) (k2 : Int32 → CS → Option (Option Nat × CS)) (a1 : Int32) (μ : CS) : Option (Option Nat × CS) :=
  k2 (a1 + 1) μ
theorem ue_u_X2_firstWithoutSlot_35 {μ0 : BM} {ro U S : Nat} (W : Wd μ0 ro U S) {N : Nat} {k2 : (Option Nat) → Int32 → Mem → Option (Option Nat × Mem)} {k2' : Int32 → CS → Option (Option Nat × CS)} (hk2 : ∀ {ya0f : Option Nat} (eya0 : ya0f = (adr μ0 ro U S (2, 0, 0))) (ya1 : Int32) (s : CS), IM μ0 ro U S (fun v : Option Nat => v.bind fun b => adr μ0 ro U S (10, b, 0)) (k2' ya1 s) (k2 ya0f ya1 (EC μ0 ro U S s))) {a0f : Option Nat} (ea0 : a0f = (adr μ0 ro U S (2, 0, 0))) (a1 : Int32) (s : CS) : IM μ0 ro U S (fun v : Option Nat => v.bind fun b => adr μ0 ro U S (10, b, 0)) (u_X2_firstWithoutSlot_35 U S N k2' a1 s) (f_X2_firstWithoutSlot_35 N k2 a0f a1 (EC μ0 ro U S s)) := by
  unfold f_X2_firstWithoutSlot_35 u_X2_firstWithoutSlot_35
  exact hk2 ea0 _ _
def uh_X2_firstWithoutSlot_2 (U S N : Nat) (k2 : Int32 → CS → Option (Option Nat × CS)) (a1 : Int32) (μ : CS) : Option (Option Nat × CS) :=
  if (μ.1 5 0 1) ≤ a1 then
    some (none, μ)
  else
    (u_X5_at U S N a1 μ).bind fun q4 =>
    (vl U q4.1).bind fun _ =>
    if q4.1 = none then
      u_X2_firstWithoutSlot_35 U S N k2 a1 q4.2
    else
      (q4.1).bind fun j1 =>
      (vl S (q4.2.2.2.2.1 10 j1 19)).bind fun v6 =>
      if ¬ v6 = none then
        u_X2_firstWithoutSlot_35 U S N k2 a1 q4.2
      else
        some (q4.1, q4.2)
theorem ue_uh_X2_firstWithoutSlot_2 {μ0 : BM} {ro U S : Nat} (W : Wd μ0 ro U S) {N : Nat} {k2 : (Option Nat) → Int32 → Mem → Option (Option Nat × Mem)} {k2' : Int32 → CS → Option (Option Nat × CS)} (hk2 : ∀ {ya0f : Option Nat} (eya0 : ya0f = (adr μ0 ro U S (2, 0, 0))) (ya1 : Int32) (s : CS), IM μ0 ro U S (fun v : Option Nat => v.bind fun b => adr μ0 ro U S (10, b, 0)) (k2' ya1 s) (k2 ya0f ya1 (EC μ0 ro U S s))) {a0f : Option Nat} (ea0 : a0f = (adr μ0 ro U S (2, 0, 0))) (a1 : Int32) (s : CS) : IM μ0 ro U S (fun v : Option Nat => v.bind fun b => adr μ0 ro U S (10, b, 0)) (uh_X2_firstWithoutSlot_2 U S N k2' a1 s) (H_X2_firstWithoutSlot_2 N k2 a0f a1 (EC μ0 ro U S s)) := by
  unfold H_X2_firstWithoutSlot_2 uh_X2_firstWithoutSlot_2
  refine im_fR W (ik_2 U S) (by decide) rfl ea0 fun v1 ev1 => ?_
  refine im_fI W (ik_5 U S) (by decide) rfl ev1 ?_
  refine im_if Iff.rfl (fun _ => ?_) (fun _ => ?_)
  · exact im_ret rfl
  · refine im_fR W (ik_2 U S) (by decide) rfl ea0 fun v3 ev3 => ?_
    refine im_ck W (ik_5 U S) ev3 fun b5 eb5 => ?_
    refine im_call (ue_u_X5_at W eb5 _ _) fun q4 => ?_
    dsimp only [id]
    refine im_vl fun hq4 => ?_
    refine im_if (im_nn 10 W (by simp) hq4 rfl) (fun _ => ?_) (fun _ => ?_)
    · exact ue_u_X2_firstWithoutSlot_35 W hk2 ea0 _ _
    · refine im_der (ci := 10) (hq4) (rfl) fun j1 hj1 ej1 => ?_
      refine im_fD2 W (ik_10 hj1) (by decide) rfl ej1 fun v6 hv6 v6' ev6 => ?_
      refine im_if (not_congr (im_nn 8 W (by simp) hv6 ev6)) (fun _ => ?_) (fun _ => ?_)
      · exact ue_u_X2_firstWithoutSlot_35 W hk2 ea0 _ _
      · exact im_ret (rfl)
def ul_X2_firstWithoutSlot_2 (U S N : Nat)  : Nat → Int32 → CS → Option (Option Nat × CS)
  | 0 => fun _ _ => none
  | n + 1 => uh_X2_firstWithoutSlot_2 U S N (ul_X2_firstWithoutSlot_2 U S N n)
theorem ue_ul_X2_firstWithoutSlot_2 {μ0 : BM} {ro U S : Nat} (W : Wd μ0 ro U S) {N : Nat} : ∀ (n : Nat) {a0f : Option Nat} (ea0 : a0f = (adr μ0 ro U S (2, 0, 0))) (a1 : Int32) (s : CS), IM μ0 ro U S (fun v : Option Nat => v.bind fun b => adr μ0 ro U S (10, b, 0)) (ul_X2_firstWithoutSlot_2 U S N n a1 s) (L_X2_firstWithoutSlot_2 N n a0f a1 (EC μ0 ro U S s)) := by
  intro n
  induction n with
  | zero => intros; exact im_none
  | succ n ih => intro a0f ea0 a1 s; exact ue_uh_X2_firstWithoutSlot_2 W ih ea0 _ _
def u_X2_firstWithoutSlot (U S N : Nat) (μ : CS) : Option (Option Nat × CS) :=
  ul_X2_firstWithoutSlot_2 U S N N 0 μ
theorem ue_u_X2_firstWithoutSlot {μ0 : BM} {ro U S : Nat} (W : Wd μ0 ro U S) {N : Nat} {a0f : Option Nat} (ea0 : a0f = (adr μ0 ro U S (2, 0, 0))) (s : CS) : IM μ0 ro U S (fun v : Option Nat => v.bind fun b => adr μ0 ro U S (10, b, 0)) (u_X2_firstWithoutSlot U S N s) (f_X2_firstWithoutSlot N a0f (EC μ0 ro U S s)) := by
  unfold f_X2_firstWithoutSlot u_X2_firstWithoutSlot
  exact ue_ul_X2_firstWithoutSlot_2 W N ea0 _ _
def uh_X2_freeSlot_2 (U S N : Nat) (k2 : Int32 → CS → Option (Option Nat × CS)) (a1 : Int32) (μ : CS) : Option (Option Nat × CS) :=
  if (nI S) ≤ a1 then
    some (none, μ)
  else
    (rQ S a1).bind fun v4 =>
    (vl U (μ.2.2.2.1 8 v4 2)).bind fun v5 =>
    if ¬ v5 = none then
      k2 (a1 + 1) μ
    else
      (rQ S a1).bind fun v7 =>
      some ((some v7), μ)
theorem ue_uh_X2_freeSlot_2 {μ0 : BM} {ro U S : Nat} (W : Wd μ0 ro U S) {N : Nat} {k2 : (Option Nat) → Int32 → Mem → Option (Option Nat × Mem)} {k2' : Int32 → CS → Option (Option Nat × CS)} (hk2 : ∀ {ya0f : Option Nat} (eya0 : ya0f = (adr μ0 ro U S (2, 0, 0))) (ya1 : Int32) (s : CS), IM μ0 ro U S (fun v : Option Nat => v.bind fun b => adr μ0 ro U S (8, b, 0)) (k2' ya1 s) (k2 ya0f ya1 (EC μ0 ro U S s))) {a0f : Option Nat} (ea0 : a0f = (adr μ0 ro U S (2, 0, 0))) (a1 : Int32) (s : CS) : IM μ0 ro U S (fun v : Option Nat => v.bind fun b => adr μ0 ro U S (8, b, 0)) (uh_X2_freeSlot_2 U S N k2' a1 s) (H_X2_freeSlot_2 N k2 a0f a1 (EC μ0 ro U S s)) := by
  unfold H_X2_freeSlot_2 uh_X2_freeSlot_2
  refine im_fR W (ik_2 U S) (by decide) rfl ea0 fun v1 ev1 => ?_
  refine im_l_sl W ev1 ?_
  refine im_if Iff.rfl (fun _ => ?_) (fun _ => ?_)
  · exact im_ret rfl
  · refine im_fR W (ik_2 U S) (by decide) rfl ea0 fun v3 ev3 => ?_
    refine im_r_sl W ev3 _ fun v4 hv4 v4' ev4 => ?_
    refine im_fD1 W (ik_8 hv4) (by decide) rfl ev4 fun v5 hv5 v5' ev5 => ?_
    refine im_if (not_congr (im_nn 10 W (by simp) hv5 ev5)) (fun _ => ?_) (fun _ => ?_)
    · exact hk2 ea0 _ _
    · refine im_fR W (ik_2 U S) (by decide) rfl ea0 fun v6 ev6 => ?_
      refine im_r_sl W ev6 _ fun v7 hv7 v7' ev7 => ?_
      exact im_ret (ev7)
def ul_X2_freeSlot_2 (U S N : Nat)  : Nat → Int32 → CS → Option (Option Nat × CS)
  | 0 => fun _ _ => none
  | n + 1 => uh_X2_freeSlot_2 U S N (ul_X2_freeSlot_2 U S N n)
theorem ue_ul_X2_freeSlot_2 {μ0 : BM} {ro U S : Nat} (W : Wd μ0 ro U S) {N : Nat} : ∀ (n : Nat) {a0f : Option Nat} (ea0 : a0f = (adr μ0 ro U S (2, 0, 0))) (a1 : Int32) (s : CS), IM μ0 ro U S (fun v : Option Nat => v.bind fun b => adr μ0 ro U S (8, b, 0)) (ul_X2_freeSlot_2 U S N n a1 s) (L_X2_freeSlot_2 N n a0f a1 (EC μ0 ro U S s)) := by
  intro n
  induction n with
  | zero => intros; exact im_none
  | succ n ih => intro a0f ea0 a1 s; exact ue_uh_X2_freeSlot_2 W ih ea0 _ _
def u_X2_freeSlot (U S N : Nat) (μ : CS) : Option (Option Nat × CS) :=
  ul_X2_freeSlot_2 U S N N 0 μ
theorem ue_u_X2_freeSlot {μ0 : BM} {ro U S : Nat} (W : Wd μ0 ro U S) {N : Nat} {a0f : Option Nat} (ea0 : a0f = (adr μ0 ro U S (2, 0, 0))) (s : CS) : IM μ0 ro U S (fun v : Option Nat => v.bind fun b => adr μ0 ro U S (8, b, 0)) (u_X2_freeSlot U S N s) (f_X2_freeSlot N a0f (EC μ0 ro U S s)) := by
  unfold f_X2_freeSlot u_X2_freeSlot
  exact ue_ul_X2_freeSlot_2 W N ea0 _ _
def u_X2_slotToClear_84 (U S N : Nat) (k4 : (Option Nat) → Int32 → CS → Option (Option Nat × CS)) (a1 : Option Nat) (a2 : Int32) (μ : CS) : Option (Option Nat × CS) :=
  k4 a1 (a2 + 1) μ
theorem ue_u_X2_slotToClear_84 {μ0 : BM} {ro U S : Nat} (W : Wd μ0 ro U S) {N : Nat} {k4 : (Option Nat) → (Option Nat) → Int32 → Mem → Option (Option Nat × Mem)} {k4' : (Option Nat) → Int32 → CS → Option (Option Nat × CS)} (hk4 : ∀ {ya0f : Option Nat} (eya0 : ya0f = (adr μ0 ro U S (2, 0, 0))) {ya1 : Option Nat} {ya1f : Option Nat} (hya1 : vd S ya1) (eya1 : ya1f = (Option.bind ya1 fun b => adr μ0 ro U S (8, b, 0))) (ya2 : Int32) (s : CS), IM μ0 ro U S (fun v : Option Nat => v.bind fun b => adr μ0 ro U S (8, b, 0)) (k4' ya1 ya2 s) (k4 ya0f ya1f ya2 (EC μ0 ro U S s))) {a0f : Option Nat} (ea0 : a0f = (adr μ0 ro U S (2, 0, 0))) {a1 : Option Nat} {a1f : Option Nat} (ha1 : vd S a1) (ea1 : a1f = (Option.bind a1 fun b => adr μ0 ro U S (8, b, 0))) (a2 : Int32) (s : CS) : IM μ0 ro U S (fun v : Option Nat => v.bind fun b => adr μ0 ro U S (8, b, 0)) (u_X2_slotToClear_84 U S N k4' a1 a2 s) (f_X2_slotToClear_84 N k4 a0f a1f a2 (EC μ0 ro U S s)) := by
  unfold f_X2_slotToClear_84 u_X2_slotToClear_84
  exact hk4 ea0 ha1 ea1 _ _
def uh_X2_slotToClear_4 (U S N : Nat) (k4 : (Option Nat) → Int32 → CS → Option (Option Nat × CS)) (a1 : Option Nat) (a2 : Int32) (μ : CS) : Option (Option Nat × CS) :=
  if (nI S) ≤ a2 then
    some (a1, μ)
  else
    (rQ S a2).bind fun v4 =>
    (vl U (μ.2.2.2.1 8 v4 2)).bind fun v5 =>
    if v5 = none then
      u_X2_slotToClear_84 U S N k4 a1 a2 μ
    else
      (v5).bind fun j1 =>
      if ¬ (μ.1 10 j1 8) = (5 : Int32) then
        if (μ.1 10 j1 8) = (1 : Int32) then
          if ¬ a1 = none then
            u_X2_slotToClear_84 U S N k4 a1 a2 μ
          else
            (rQ S a2).bind fun v9 =>
            if (μ.1 8 v9 4) = 0 then
              u_X2_slotToClear_84 U S N k4 a1 a2 μ
            else
              (vl U (μ.2.2.2.1 2 0 8)).bind fun v11 =>
              if v5 = v11 then
                u_X2_slotToClear_84 U S N k4 a1 a2 μ
              else
                (rQ S a2).bind fun v13 =>
                u_X2_slotToClear_84 U S N k4 (some v13) a2 μ
        else
          (rQ S a2).bind fun v15 =>
          some ((some v15), μ)
      else
        u_X2_slotToClear_84 U S N k4 a1 a2 μ
theorem ue_uh_X2_slotToClear_4 {μ0 : BM} {ro U S : Nat} (W : Wd μ0 ro U S) {N : Nat} {k4 : (Option Nat) → (Option Nat) → Int32 → Mem → Option (Option Nat × Mem)} {k4' : (Option Nat) → Int32 → CS → Option (Option Nat × CS)} (hk4 : ∀ {ya0f : Option Nat} (eya0 : ya0f = (adr μ0 ro U S (2, 0, 0))) {ya1 : Option Nat} {ya1f : Option Nat} (hya1 : vd S ya1) (eya1 : ya1f = (Option.bind ya1 fun b => adr μ0 ro U S (8, b, 0))) (ya2 : Int32) (s : CS), IM μ0 ro U S (fun v : Option Nat => v.bind fun b => adr μ0 ro U S (8, b, 0)) (k4' ya1 ya2 s) (k4 ya0f ya1f ya2 (EC μ0 ro U S s))) {a0f : Option Nat} (ea0 : a0f = (adr μ0 ro U S (2, 0, 0))) {a1 : Option Nat} {a1f : Option Nat} (ha1 : vd S a1) (ea1 : a1f = (Option.bind a1 fun b => adr μ0 ro U S (8, b, 0))) (a2 : Int32) (s : CS) : IM μ0 ro U S (fun v : Option Nat => v.bind fun b => adr μ0 ro U S (8, b, 0)) (uh_X2_slotToClear_4 U S N k4' a1 a2 s) (H_X2_slotToClear_4 N k4 a0f a1f a2 (EC μ0 ro U S s)) := by
  unfold H_X2_slotToClear_4 uh_X2_slotToClear_4
  refine im_fR W (ik_2 U S) (by decide) rfl ea0 fun v1 ev1 => ?_
  refine im_l_sl W ev1 ?_
  refine im_if Iff.rfl (fun _ => ?_) (fun _ => ?_)
  · exact im_ret (ea1)
  · refine im_fR W (ik_2 U S) (by decide) rfl ea0 fun v3 ev3 => ?_
    refine im_r_sl W ev3 _ fun v4 hv4 v4' ev4 => ?_
    refine im_fD1 W (ik_8 hv4) (by decide) rfl ev4 fun v5 hv5 v5' ev5 => ?_
    refine im_if (im_nn 10 W (by simp) hv5 ev5) (fun _ => ?_) (fun _ => ?_)
    · exact ue_u_X2_slotToClear_84 W hk4 ea0 ha1 ea1 _ _
    · refine im_der (ci := 10) (hv5) (ev5) fun j1 hj1 ej1 => ?_
      refine im_fI W (ik_10 hj1) (by decide) rfl ej1 ?_
      refine im_if Iff.rfl (fun _ => ?_) (fun _ => ?_)
      · refine im_fI W (ik_10 hj1) (by decide) rfl ej1 ?_
        refine im_if Iff.rfl (fun _ => ?_) (fun _ => ?_)
        · refine im_if (not_congr (im_nn 8 W (by simp) ha1 ea1)) (fun _ => ?_) (fun _ => ?_)
          · exact ue_u_X2_slotToClear_84 W hk4 ea0 ha1 ea1 _ _
          · refine im_fR W (ik_2 U S) (by decide) rfl ea0 fun v8 ev8 => ?_
            refine im_r_sl W ev8 _ fun v9 hv9 v9' ev9 => ?_
            refine im_fI W (ik_8 hv9) (by decide) rfl ev9 ?_
            refine im_if Iff.rfl (fun _ => ?_) (fun _ => ?_)
            · exact ue_u_X2_slotToClear_84 W hk4 ea0 ha1 ea1 _ _
            · refine im_fD1 W (ik_2 U S) (by decide) rfl ea0 fun v11 hv11 v11' ev11 => ?_
              refine im_if (im_eq 10 W (by simp) hv5 ev5 hv11 ev11) (fun _ => ?_) (fun _ => ?_)
              · exact ue_u_X2_slotToClear_84 W hk4 ea0 ha1 ea1 _ _
              · refine im_fR W (ik_2 U S) (by decide) rfl ea0 fun v12 ev12 => ?_
                refine im_r_sl W ev12 _ fun v13 hv13 v13' ev13 => ?_
                exact ue_u_X2_slotToClear_84 W hk4 ea0 (vd_s hv13) ev13 _ _
        · refine im_fR W (ik_2 U S) (by decide) rfl ea0 fun v14 ev14 => ?_
          refine im_r_sl W ev14 _ fun v15 hv15 v15' ev15 => ?_
          exact im_ret (ev15)
      · exact ue_u_X2_slotToClear_84 W hk4 ea0 ha1 ea1 _ _
def ul_X2_slotToClear_4 (U S N : Nat)  : Nat → (Option Nat) → Int32 → CS → Option (Option Nat × CS)
  | 0 => fun _ _ _ => none
  | n + 1 => uh_X2_slotToClear_4 U S N (ul_X2_slotToClear_4 U S N n)
theorem ue_ul_X2_slotToClear_4 {μ0 : BM} {ro U S : Nat} (W : Wd μ0 ro U S) {N : Nat} : ∀ (n : Nat) {a0f : Option Nat} (ea0 : a0f = (adr μ0 ro U S (2, 0, 0))) {a1 : Option Nat} {a1f : Option Nat} (ha1 : vd S a1) (ea1 : a1f = (Option.bind a1 fun b => adr μ0 ro U S (8, b, 0))) (a2 : Int32) (s : CS), IM μ0 ro U S (fun v : Option Nat => v.bind fun b => adr μ0 ro U S (8, b, 0)) (ul_X2_slotToClear_4 U S N n a1 a2 s) (L_X2_slotToClear_4 N n a0f a1f a2 (EC μ0 ro U S s)) := by
  intro n
  induction n with
  | zero => intros; exact im_none
  | succ n ih => intro a0f ea0 a1 a1f ha1 ea1 a2 s; exact ue_uh_X2_slotToClear_4 W ih ea0 ha1 ea1 _ _
def u_X2_slotToClear (U S N : Nat) (μ : CS) : Option (Option Nat × CS) :=
  ul_X2_slotToClear_4 U S N N none 0 μ
theorem ue_u_X2_slotToClear {μ0 : BM} {ro U S : Nat} (W : Wd μ0 ro U S) {N : Nat} {a0f : Option Nat} (ea0 : a0f = (adr μ0 ro U S (2, 0, 0))) (s : CS) : IM μ0 ro U S (fun v : Option Nat => v.bind fun b => adr μ0 ro U S (8, b, 0)) (u_X2_slotToClear U S N s) (f_X2_slotToClear N a0f (EC μ0 ro U S s)) := by
  unfold f_X2_slotToClear u_X2_slotToClear
  exact ue_ul_X2_slotToClear_4 W N ea0 (vd_n _) rfl _ _
def u_X2_serveQueue_25 (U S N : Nat) (a1 : Option Nat) (a2 : Option Nat) (μ : CS) : Option (Int32 × CS) :=
  if ¬ a2 = none then
    (a2).bind fun j1 =>
    if (μ.1 8 j1 3) = 0 then
      (u_X8_release U S N j1 μ).bind fun q2 =>
      (u_X1_start U S N 2 a1 a2 q2.2).bind fun q5 =>
      cZ 1 q5.2
    else
      (vl U (μ.2.2.2.1 8 j1 2)).bind fun v8 =>
      (u_X1_start U S N 1 v8 a2 μ).bind fun q9 =>
      cZ 1 q9.2
  else
    cZ 0 μ
theorem ue_u_X2_serveQueue_25 {μ0 : BM} {ro U S : Nat} (W : Wd μ0 ro U S) {N : Nat} {a0f : Option Nat} (ea0 : a0f = (adr μ0 ro U S (2, 0, 0))) {a1 : Option Nat} {a1f : Option Nat} (ha1 : vd U a1) (ea1 : a1f = (Option.bind a1 fun b => adr μ0 ro U S (10, b, 0))) {a2 : Option Nat} {a2f : Option Nat} (ha2 : vd S a2) (ea2 : a2f = (Option.bind a2 fun b => adr μ0 ro U S (8, b, 0))) (s : CS) : IM μ0 ro U S id (u_X2_serveQueue_25 U S N a1 a2 s) (f_X2_serveQueue_25 N a0f a1f a2f (EC μ0 ro U S s)) := by
  unfold f_X2_serveQueue_25 u_X2_serveQueue_25
  refine im_if (not_congr (im_nn 8 W (by simp) ha2 ea2)) (fun _ => ?_) (fun _ => ?_)
  · refine im_der (ci := 8) (ha2) (ea2) fun j1 hj1 ej1 => ?_
    refine im_fI W (ik_8 hj1) (by decide) rfl ej1 ?_
    refine im_if Iff.rfl (fun _ => ?_) (fun _ => ?_)
    · refine im_ck W (ik_8 hj1) ej1 fun b3 eb3 => ?_
      refine im_call (ue_u_X8_release W hj1 eb3 _) fun q2 => ?_
      dsimp only [id]
      refine im_fR W (ik_2 U S) (by decide) rfl ea0 fun v4 ev4 => ?_
      refine im_ck W (ik_1 U S) ev4 fun b6 eb6 => ?_
      refine im_call (ue_u_X1_start W eb6 _ ha1 ea1 ha2 ea2 _) fun q5 => ?_
      dsimp only [id]
      exact im_rZ _ _
    · refine im_fR W (ik_2 U S) (by decide) rfl ea0 fun v7 ev7 => ?_
      refine im_fD1 W (ik_8 hj1) (by decide) rfl ej1 fun v8 hv8 v8' ev8 => ?_
      refine im_ck W (ik_1 U S) ev7 fun b10 eb10 => ?_
      refine im_call (ue_u_X1_start W eb10 _ hv8 ev8 ha2 ea2 _) fun q9 => ?_
      dsimp only [id]
      exact im_rZ _ _
  · exact im_rZ _ _
def u_X2_serveQueue (U S N : Nat) (μ : CS) : Option (Int32 × CS) :=
  (u_X2_firstWithoutSlot U S N μ).bind fun q1 =>
  (vl U q1.1).bind fun _ =>
  if ¬ q1.1 = none then
    (u_X2_freeSlot U S N q1.2).bind fun q3 =>
    (vl S q3.1).bind fun _ =>
    if ¬ q3.1 = none then
      u_X2_serveQueue_25 U S N q1.1 q3.1 q3.2
    else
      (u_X2_slotToClear U S N q3.2).bind fun q5 =>
      (vl S q5.1).bind fun _ =>
      u_X2_serveQueue_25 U S N q1.1 q5.1 q5.2
  else
    cZ 0 q1.2
theorem ue_u_X2_serveQueue {μ0 : BM} {ro U S : Nat} (W : Wd μ0 ro U S) {N : Nat} {a0f : Option Nat} (ea0 : a0f = (adr μ0 ro U S (2, 0, 0))) (s : CS) : IM μ0 ro U S id (u_X2_serveQueue U S N s) (f_X2_serveQueue N a0f (EC μ0 ro U S s)) := by
  unfold f_X2_serveQueue u_X2_serveQueue
  refine im_ck W (ik_2 U S) ea0 fun b2 eb2 => ?_
  refine im_call (ue_u_X2_firstWithoutSlot W eb2 _) fun q1 => ?_
  dsimp only [id]
  refine im_vl fun hq1 => ?_
  refine im_if (not_congr (im_nn 10 W (by simp) hq1 rfl)) (fun _ => ?_) (fun _ => ?_)
  · refine im_ck W (ik_2 U S) ea0 fun b4 eb4 => ?_
    refine im_call (ue_u_X2_freeSlot W eb4 _) fun q3 => ?_
    dsimp only [id]
    refine im_vl fun hq3 => ?_
    refine im_if (not_congr (im_nn 8 W (by simp) hq3 rfl)) (fun _ => ?_) (fun _ => ?_)
    · exact ue_u_X2_serveQueue_25 W ea0 hq1 rfl hq3 rfl _
    · refine im_ck W (ik_2 U S) ea0 fun b6 eb6 => ?_
      refine im_call (ue_u_X2_slotToClear W eb6 _) fun q5 => ?_
      dsimp only [id]
      refine im_vl fun hq5 => ?_
      exact ue_u_X2_serveQueue_25 W ea0 hq1 rfl hq5 rfl _
  · exact im_rZ _ _
def u_X2_serveBlocks_62 (U S N : Nat) (μ : CS) : Option (Int32 × CS) :=
  cZ 0 μ
theorem ue_u_X2_serveBlocks_62 {μ0 : BM} {ro U S : Nat} (W : Wd μ0 ro U S) {N : Nat} (s : CS) : IM μ0 ro U S id (u_X2_serveBlocks_62 U S N s) (f_X2_serveBlocks_62 N (EC μ0 ro U S s)) := by
  unfold f_X2_serveBlocks_62 u_X2_serveBlocks_62
  exact im_rZ _ _
def u_X2_serveBlocks_45 (U S N : Nat) (k4 : (Option Nat) → Int32 → CS → Option (Int32 × CS)) (a1 : Option Nat) (a2 : Int32) (μ : CS) : Option (Int32 × CS) :=
  k4 a1 (a2 + 1) μ
theorem ue_u_X2_serveBlocks_45 {μ0 : BM} {ro U S : Nat} (W : Wd μ0 ro U S) {N : Nat} {k4 : (Option Nat) → (Option Nat) → Int32 → Mem → Option (Int32 × Mem)} {k4' : (Option Nat) → Int32 → CS → Option (Int32 × CS)} (hk4 : ∀ {ya0f : Option Nat} (eya0 : ya0f = (adr μ0 ro U S (2, 0, 0))) {ya1 : Option Nat} {ya1f : Option Nat} (hya1 : vd U ya1) (eya1 : ya1f = (Option.bind ya1 fun b => adr μ0 ro U S (10, b, 0))) (ya2 : Int32) (s : CS), IM μ0 ro U S id (k4' ya1 ya2 s) (k4 ya0f ya1f ya2 (EC μ0 ro U S s))) {a0f : Option Nat} (ea0 : a0f = (adr μ0 ro U S (2, 0, 0))) {a1 : Option Nat} {a1f : Option Nat} (ha1 : vd U a1) (ea1 : a1f = (Option.bind a1 fun b => adr μ0 ro U S (10, b, 0))) (a2 : Int32) (s : CS) : IM μ0 ro U S id (u_X2_serveBlocks_45 U S N k4' a1 a2 s) (f_X2_serveBlocks_45 N k4 a0f a1f a2 (EC μ0 ro U S s)) := by
  unfold f_X2_serveBlocks_45 u_X2_serveBlocks_45
  exact hk4 ea0 ha1 ea1 _ _
def u_X2_serveBlocks_43 (U S N : Nat) (k4 : (Option Nat) → Int32 → CS → Option (Int32 × CS)) (a2 : Int32) (a3 : Option Nat) (μ : CS) : Option (Int32 × CS) :=
  u_X2_serveBlocks_45 U S N k4 a3 a2 μ
theorem ue_u_X2_serveBlocks_43 {μ0 : BM} {ro U S : Nat} (W : Wd μ0 ro U S) {N : Nat} {k4 : (Option Nat) → (Option Nat) → Int32 → Mem → Option (Int32 × Mem)} {k4' : (Option Nat) → Int32 → CS → Option (Int32 × CS)} (hk4 : ∀ {ya0f : Option Nat} (eya0 : ya0f = (adr μ0 ro U S (2, 0, 0))) {ya1 : Option Nat} {ya1f : Option Nat} (hya1 : vd U ya1) (eya1 : ya1f = (Option.bind ya1 fun b => adr μ0 ro U S (10, b, 0))) (ya2 : Int32) (s : CS), IM μ0 ro U S id (k4' ya1 ya2 s) (k4 ya0f ya1f ya2 (EC μ0 ro U S s))) {a0f : Option Nat} (ea0 : a0f = (adr μ0 ro U S (2, 0, 0))) (a2 : Int32) {a3 : Option Nat} {a3f : Option Nat} (ha3 : vd U a3) (ea3 : a3f = (Option.bind a3 fun b => adr μ0 ro U S (10, b, 0))) (s : CS) : IM μ0 ro U S id (u_X2_serveBlocks_43 U S N k4' a2 a3 s) (f_X2_serveBlocks_43 N k4 a0f a2 a3f (EC μ0 ro U S s)) := by
  unfold f_X2_serveBlocks_43 u_X2_serveBlocks_43
  exact ue_u_X2_serveBlocks_45 W hk4 ea0 ha3 ea3 _ _
def uh_X2_serveBlocks_4 (U S N : Nat) (k4 : (Option Nat) → Int32 → CS → Option (Int32 × CS)) (a1 : Option Nat) (a2 : Int32) (μ : CS) : Option (Int32 × CS) :=
  if (nI U) ≤ a2 then
    if a1 = none then
      u_X2_serveBlocks_62 U S N μ
    else
      (a1).bind fun j1 =>
      (vl S (μ.2.2.2.1 10 j1 19)).bind fun v3 =>
      if ¬ v3 = none then
        (vl S (μ.2.2.2.1 10 j1 19)).bind fun v6 =>
        (u_X1_start U S N (μ.1 10 j1 18) a1 v6 μ).bind fun q7 =>
        cZ 1 q7.2
      else
        u_X2_serveBlocks_62 U S N μ
  else
    (rQ U a2).bind fun v10 =>
    if ¬ (μ.1 10 v10 8) = (5 : Int32) then
      u_X2_serveBlocks_45 U S N k4 a1 a2 μ
    else
      if a1 = none then
        u_X2_serveBlocks_43 U S N k4 a2 (some v10) μ
      else
        (a1).bind fun j2 =>
        if (μ.1 10 j2 17) ≤ (μ.1 10 v10 17) then
          u_X2_serveBlocks_45 U S N k4 a1 a2 μ
        else
          u_X2_serveBlocks_43 U S N k4 a2 (some v10) μ
theorem ue_uh_X2_serveBlocks_4 {μ0 : BM} {ro U S : Nat} (W : Wd μ0 ro U S) {N : Nat} {k4 : (Option Nat) → (Option Nat) → Int32 → Mem → Option (Int32 × Mem)} {k4' : (Option Nat) → Int32 → CS → Option (Int32 × CS)} (hk4 : ∀ {ya0f : Option Nat} (eya0 : ya0f = (adr μ0 ro U S (2, 0, 0))) {ya1 : Option Nat} {ya1f : Option Nat} (hya1 : vd U ya1) (eya1 : ya1f = (Option.bind ya1 fun b => adr μ0 ro U S (10, b, 0))) (ya2 : Int32) (s : CS), IM μ0 ro U S id (k4' ya1 ya2 s) (k4 ya0f ya1f ya2 (EC μ0 ro U S s))) {a0f : Option Nat} (ea0 : a0f = (adr μ0 ro U S (2, 0, 0))) {a1 : Option Nat} {a1f : Option Nat} (ha1 : vd U a1) (ea1 : a1f = (Option.bind a1 fun b => adr μ0 ro U S (10, b, 0))) (a2 : Int32) (s : CS) : IM μ0 ro U S id (uh_X2_serveBlocks_4 U S N k4' a1 a2 s) (H_X2_serveBlocks_4 N k4 a0f a1f a2 (EC μ0 ro U S s)) := by
  unfold H_X2_serveBlocks_4 uh_X2_serveBlocks_4
  refine im_fR W (ik_2 U S) (by decide) rfl ea0 fun v1 ev1 => ?_
  refine im_l_us W ev1 ?_
  refine im_if Iff.rfl (fun _ => ?_) (fun _ => ?_)
  · refine im_if (im_nn 10 W (by simp) ha1 ea1) (fun _ => ?_) (fun _ => ?_)
    · exact ue_u_X2_serveBlocks_62 W _
    · refine im_der (ci := 10) (ha1) (ea1) fun j1 hj1 ej1 => ?_
      refine im_fD2 W (ik_10 hj1) (by decide) rfl ej1 fun v3 hv3 v3' ev3 => ?_
      refine im_if (not_congr (im_nn 8 W (by simp) hv3 ev3)) (fun _ => ?_) (fun _ => ?_)
      · refine im_fR W (ik_2 U S) (by decide) rfl ea0 fun v4 ev4 => ?_
        refine im_fI W (ik_10 hj1) (by decide) rfl ej1 ?_
        refine im_fD2 W (ik_10 hj1) (by decide) rfl ej1 fun v6 hv6 v6' ev6 => ?_
        refine im_ck W (ik_1 U S) ev4 fun b8 eb8 => ?_
        refine im_call (ue_u_X1_start W eb8 _ ha1 ea1 hv6 ev6 _) fun q7 => ?_
        dsimp only [id]
        exact im_rZ _ _
      · exact ue_u_X2_serveBlocks_62 W _
  · refine im_fR W (ik_2 U S) (by decide) rfl ea0 fun v9 ev9 => ?_
    refine im_r_us W ev9 _ fun v10 hv10 v10' ev10 => ?_
    refine im_fI W (ik_10 hv10) (by decide) rfl ev10 ?_
    refine im_if Iff.rfl (fun _ => ?_) (fun _ => ?_)
    · exact ue_u_X2_serveBlocks_45 W hk4 ea0 ha1 ea1 _ _
    · refine im_if (im_nn 10 W (by simp) ha1 ea1) (fun _ => ?_) (fun _ => ?_)
      · exact ue_u_X2_serveBlocks_43 W hk4 ea0 _ (vd_s hv10) ev10 _
      · refine im_fI W (ik_10 hv10) (by decide) rfl ev10 ?_
        refine im_der (ci := 10) (ha1) (ea1) fun j2 hj2 ej2 => ?_
        refine im_fI W (ik_10 hj2) (by decide) rfl ej2 ?_
        refine im_if Iff.rfl (fun _ => ?_) (fun _ => ?_)
        · exact ue_u_X2_serveBlocks_45 W hk4 ea0 ha1 ea1 _ _
        · exact ue_u_X2_serveBlocks_43 W hk4 ea0 _ (vd_s hv10) ev10 _
def ul_X2_serveBlocks_4 (U S N : Nat)  : Nat → (Option Nat) → Int32 → CS → Option (Int32 × CS)
  | 0 => fun _ _ _ => none
  | n + 1 => uh_X2_serveBlocks_4 U S N (ul_X2_serveBlocks_4 U S N n)
theorem ue_ul_X2_serveBlocks_4 {μ0 : BM} {ro U S : Nat} (W : Wd μ0 ro U S) {N : Nat} : ∀ (n : Nat) {a0f : Option Nat} (ea0 : a0f = (adr μ0 ro U S (2, 0, 0))) {a1 : Option Nat} {a1f : Option Nat} (ha1 : vd U a1) (ea1 : a1f = (Option.bind a1 fun b => adr μ0 ro U S (10, b, 0))) (a2 : Int32) (s : CS), IM μ0 ro U S id (ul_X2_serveBlocks_4 U S N n a1 a2 s) (L_X2_serveBlocks_4 N n a0f a1f a2 (EC μ0 ro U S s)) := by
  intro n
  induction n with
  | zero => intros; exact im_none
  | succ n ih => intro a0f ea0 a1 a1f ha1 ea1 a2 s; exact ue_uh_X2_serveBlocks_4 W ih ea0 ha1 ea1 _ _
def u_X2_serveBlocks (U S N : Nat) (μ : CS) : Option (Int32 × CS) :=
  ul_X2_serveBlocks_4 U S N N none 0 μ
theorem ue_u_X2_serveBlocks {μ0 : BM} {ro U S : Nat} (W : Wd μ0 ro U S) {N : Nat} {a0f : Option Nat} (ea0 : a0f = (adr μ0 ro U S (2, 0, 0))) (s : CS) : IM μ0 ro U S id (u_X2_serveBlocks U S N s) (f_X2_serveBlocks N a0f (EC μ0 ro U S s)) := by
  unfold f_X2_serveBlocks u_X2_serveBlocks
  exact ue_ul_X2_serveBlocks_4 W N ea0 (vd_n _) rfl _ _
def u_X2_lookForTask_37 (U S N : Nat) (μ : CS) : Option (Unit × CS) :=
  some ((), μ)
theorem ue_u_X2_lookForTask_37 {μ0 : BM} {ro U S : Nat} (W : Wd μ0 ro U S) {N : Nat} (s : CS) : IM μ0 ro U S id (u_X2_lookForTask_37 U S N s) (f_X2_lookForTask_37 N (EC μ0 ro U S s)) := by
  unfold f_X2_lookForTask_37 u_X2_lookForTask_37
  exact im_ret rfl
