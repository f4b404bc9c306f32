/-! LAYER 2, ShareEight over its typed state, further (by program) -/
def u_X2_endQuantum_39 (U S N : Nat) (μ : CS) : Option (Unit × CS) :=
  some ((), μ)
theorem ue_u_X2_endQuantum_39 {μ0 : BM} {ro U S : Nat} (W : Wd μ0 ro U S) {N : Nat} (s : CS) : IM μ0 ro U S id (u_X2_endQuantum_39 U S N s) (f_X2_endQuantum_39 N (EC μ0 ro U S s)) := by
  unfold f_X2_endQuantum_39 u_X2_endQuantum_39
  exact im_ret rfl
def u_X2_endQuantum (U S N : Nat) (a1 : Option Nat) (μ : CS) : Option (Unit × CS) :=
  (u_X2_endTurn U S N a1 μ).bind fun q1 =>
  if (q1.2.1 5 0 1) ≤ 0 then
    (some (qR q1.2 2 0 8 a1)).bind fun μ5 =>
    (some (qI μ5 2 0 9 (μ5.1 2 0 5))).bind fun μ7 =>
    u_X2_endQuantum_39 U S N μ7
  else
    (u_X5_append U S N a1 q1.2).bind fun q9 =>
    u_X2_endQuantum_39 U S N q9.2
theorem ue_u_X2_endQuantum {μ0 : BM} {ro U S : Nat} (W : Wd μ0 ro U S) {N : Nat} {a0f : Option Nat} (ea0 : a0f = (adr μ0 ro U S (2, 0, 0))) {a1 : Option Nat} {a1f : Option Nat} (ha1 : vd U a1) (ea1 : a1f = (Option.bind a1 fun b => adr μ0 ro U S (10, b, 0))) (s : CS) : IM μ0 ro U S id (u_X2_endQuantum U S N a1 s) (f_X2_endQuantum N a0f a1f (EC μ0 ro U S s)) := by
  unfold f_X2_endQuantum u_X2_endQuantum
  refine im_ck W (ik_2 U S) ea0 fun b2 eb2 => ?_
  refine im_call (ue_u_X2_endTurn W eb2 ha1 ea1 _) fun q1 => ?_
  dsimp only [id]
  refine im_fR W (ik_2 U S) (by decide) rfl ea0 fun v3 ev3 => ?_
  refine im_fI W (ik_5 U S) (by decide) rfl ev3 ?_
  refine im_if Iff.rfl (fun _ => ?_) (fun _ => ?_)
  · refine im_pR1 W (ik_2 U S) (by decide) rfl ea0 (ha1) (ea1) ?_
    refine im_fI W (ik_2 U S) (by decide) rfl ea0 ?_
    refine im_pI W (ik_2 U S) (by decide) rfl ea0 _ ?_
    exact ue_u_X2_endQuantum_39 W _
  · refine im_fR W (ik_2 U S) (by decide) rfl ea0 fun v8 ev8 => ?_
    refine im_ck W (ik_5 U S) ev8 fun b10 eb10 => ?_
    refine im_call (ue_u_X5_append W eb10 ha1 ea1 _) fun q9 => ?_
    dsimp only [id]
    exact ue_u_X2_endQuantum_39 W _
def u_X2_process_27 (U S N : Nat) (μ : CS) : Option (Unit × CS) :=
  (some (qI μ 2 0 10 ((μ.1 2 0 10) + 1))).bind fun μ2 =>
  some ((), μ2)
theorem ue_u_X2_process_27 {μ0 : BM} {ro U S : Nat} (W : Wd μ0 ro U S) {N : Nat} {a0f : Option Nat} (ea0 : a0f = (adr μ0 ro U S (2, 0, 0))) (s : CS) : IM μ0 ro U S id (u_X2_process_27 U S N s) (f_X2_process_27 N a0f (EC μ0 ro U S s)) := by
  unfold f_X2_process_27 u_X2_process_27
  refine im_fI W (ik_2 U S) (by decide) rfl ea0 ?_
  refine im_pI W (ik_2 U S) (by decide) rfl ea0 _ ?_
  exact im_ret rfl
def u_X2_process_115 (U S N : Nat) (μ : CS) : Option (Unit × CS) :=
  some ((), μ)
theorem ue_u_X2_process_115 {μ0 : BM} {ro U S : Nat} (W : Wd μ0 ro U S) {N : Nat} (s : CS) : IM μ0 ro U S id (u_X2_process_115 U S N s) (f_X2_process_115 N (EC μ0 ro U S s)) := by
  unfold f_X2_process_115 u_X2_process_115
  exact im_ret rfl
def u_X2_process_77 (U S N : Nat) (a1 : Option Nat) (μ : CS) : Option (Unit × CS) :=
  (some (qI μ 2 0 9 ((μ.1 2 0 9) - 1))).bind fun μ2 =>
  (a1).bind fun j1 =>
  if (μ2.1 10 j1 8) = (1 : Int32) then
    if 0 < (μ2.1 2 0 9) then
      u_X2_process_115 U S N μ2
    else
      (u_X2_endQuantum U S N a1 μ2).bind fun q5 =>
      u_X2_process_115 U S N q5.2
  else
    (u_X2_endTurn U S N a1 μ2).bind fun q7 =>
    u_X2_process_115 U S N q7.2
theorem ue_u_X2_process_77 {μ0 : BM} {ro U S : Nat} (W : Wd μ0 ro U S) {N : Nat} {a0f : Option Nat} (ea0 : a0f = (adr μ0 ro U S (2, 0, 0))) {a1 : Option Nat} {a1f : Option Nat} (ha1 : vd U a1) (ea1 : a1f = (Option.bind a1 fun b => adr μ0 ro U S (10, b, 0))) (s : CS) : IM μ0 ro U S id (u_X2_process_77 U S N a1 s) (f_X2_process_77 N a0f a1f (EC μ0 ro U S s)) := by
  unfold f_X2_process_77 u_X2_process_77
  refine im_fI W (ik_2 U S) (by decide) rfl ea0 ?_
  refine im_pI W (ik_2 U S) (by decide) rfl ea0 _ ?_
  refine im_der (ci := 10) (ha1) (ea1) fun j1 hj1 ej1 => ?_
  refine im_fI W (ik_10 hj1) (by decide) rfl ej1 ?_
  refine im_if Iff.rfl (fun _ => ?_) (fun _ => ?_)
  · refine im_fI W (ik_2 U S) (by decide) rfl ea0 ?_
    refine im_if Iff.rfl (fun _ => ?_) (fun _ => ?_)
    · exact ue_u_X2_process_115 W _
    · refine im_ck W (ik_2 U S) ea0 fun b6 eb6 => ?_
      refine im_call (ue_u_X2_endQuantum W eb6 ha1 ea1 _) fun q5 => ?_
      dsimp only [id]
      exact ue_u_X2_process_115 W _
  · refine im_ck W (ik_2 U S) ea0 fun b8 eb8 => ?_
    refine im_call (ue_u_X2_endTurn W eb8 ha1 ea1 _) fun q7 => ?_
    dsimp only [id]
    exact ue_u_X2_process_115 W _
def u_X2_process_11 (U S N : Nat) (μ : CS) : Option (Unit × CS) :=
  (vl U (μ.2.2.2.1 2 0 8)).bind fun v1 =>
  if v1 = none then
    u_X2_process_27 U S N μ
  else
    (v1).bind fun j1 =>
    (vl S (μ.2.2.2.1 10 j1 19)).bind fun v2 =>
    if ¬ v2 = none then
      (vl S (μ.2.2.2.1 10 j1 19)).bind fun v4 =>
      (u_X3_step U S N v1 v4 (μ.1 2 0 7) μ).bind fun q6 =>
      if q6.1 = 0 then
        u_X2_process_77 U S N v1 q6.2
      else
        (some (qI q6.2 10 j1 14 ((q6.2.1 10 j1 14) + 1))).bind fun μ9 =>
        (some (qI μ9 2 0 11 ((μ9.1 2 0 11) + 1))).bind fun μ11 =>
        u_X2_process_77 U S N v1 μ11
    else
      u_X2_process_27 U S N μ
theorem ue_u_X2_process_11 {μ0 : BM} {ro U S : Nat} (W : Wd μ0 ro U S) {N : Nat} {a0f : Option Nat} (ea0 : a0f = (adr μ0 ro U S (2, 0, 0))) (s : CS) : IM μ0 ro U S id (u_X2_process_11 U S N s) (f_X2_process_11 N a0f (EC μ0 ro U S s)) := by
  unfold f_X2_process_11 u_X2_process_11
  refine im_fD1 W (ik_2 U S) (by decide) rfl ea0 fun v1 hv1 v1' ev1 => ?_
  refine im_if (im_nn 10 W (by simp) hv1 ev1) (fun _ => ?_) (fun _ => ?_)
  · exact ue_u_X2_process_27 W ea0 _
  · refine im_der (ci := 10) (hv1) (ev1) fun j1 hj1 ej1 => ?_
    refine im_fD2 W (ik_10 hj1) (by decide) rfl ej1 fun v2 hv2 v2' ev2 => ?_
    refine im_if (not_congr (im_nn 8 W (by simp) hv2 ev2)) (fun _ => ?_) (fun _ => ?_)
    · refine im_fR W (ik_2 U S) (by decide) rfl ea0 fun v3 ev3 => ?_
      refine im_fD2 W (ik_10 hj1) (by decide) rfl ej1 fun v4 hv4 v4' ev4 => ?_
      refine im_fI W (ik_2 U S) (by decide) rfl ea0 ?_
      refine im_ck W (ik_3 U S) ev3 fun b7 eb7 => ?_
      refine im_call (ue_u_X3_step W eb7 hv1 ev1 hv4 ev4 _ _) fun q6 => ?_
      dsimp only [id]
      refine im_if Iff.rfl (fun _ => ?_) (fun _ => ?_)
      · exact ue_u_X2_process_77 W ea0 hv1 ev1 _
      · refine im_fI W (ik_10 hj1) (by decide) rfl ej1 ?_
        refine im_pI W (ik_10 hj1) (by decide) rfl ej1 _ ?_
        refine im_fI W (ik_2 U S) (by decide) rfl ea0 ?_
        refine im_pI W (ik_2 U S) (by decide) rfl ea0 _ ?_
        exact ue_u_X2_process_77 W ea0 hv1 ev1 _
    · exact ue_u_X2_process_27 W ea0 _
def u_X2_process (U S N : Nat) (μ : CS) : Option (Unit × CS) :=
  (vl U (μ.2.2.2.1 2 0 8)).bind fun v1 =>
  if ¬ v1 = none then
    u_X2_process_11 U S N μ
  else
    (u_X2_chooseRunning U S N μ).bind fun q2 =>
    u_X2_process_11 U S N q2.2
theorem ue_u_X2_process {μ0 : BM} {ro U S : Nat} (W : Wd μ0 ro U S) {N : Nat} {a0f : Option Nat} (ea0 : a0f = (adr μ0 ro U S (2, 0, 0))) (s : CS) : IM μ0 ro U S id (u_X2_process U S N s) (f_X2_process N a0f (EC μ0 ro U S s)) := by
  unfold f_X2_process u_X2_process
  refine im_fD1 W (ik_2 U S) (by decide) rfl ea0 fun v1 hv1 v1' ev1 => ?_
  refine im_if (not_congr (im_nn 10 W (by simp) hv1 ev1)) (fun _ => ?_) (fun _ => ?_)
  · exact ue_u_X2_process_11 W ea0 _
  · refine im_ck W (ik_2 U S) ea0 fun b3 eb3 => ?_
    refine im_call (ue_u_X2_chooseRunning W eb3 _) fun q2 => ?_
    dsimp only [id]
    exact ue_u_X2_process_11 W ea0 _
def u_X2_tick_109 (U S N : Nat) (μ : CS) : Option (Unit × CS) :=
  (u_X2_process U S N μ).bind fun q1 =>
  some ((), q1.2)
theorem ue_u_X2_tick_109 {μ0 : BM} {ro U S : Nat} (W : Wd μ0 ro U S) {N : Nat} {a0f : Option Nat} (ea0 : a0f = (adr μ0 ro U S (2, 0, 0))) (s : CS) : IM μ0 ro U S id (u_X2_tick_109 U S N s) (f_X2_tick_109 N a0f (EC μ0 ro U S s)) := by
  unfold f_X2_tick_109 u_X2_tick_109
  refine im_ck W (ik_2 U S) ea0 fun b2 eb2 => ?_
  refine im_call (ue_u_X2_process W eb2 _) fun q1 => ?_
  dsimp only [id]
  exact im_ret rfl
def u_X2_tick_95 (U S N : Nat) (μ : CS) : Option (Unit × CS) :=
  (u_X1_isIdle U S N μ).bind fun q2 =>
  if q2.1 = 0 then
    u_X2_tick_109 U S N q2.2
  else
    (u_X2_lookForTask U S N q2.2).bind fun q4 =>
    u_X2_tick_109 U S N q4.2
theorem ue_u_X2_tick_95 {μ0 : BM} {ro U S : Nat} (W : Wd μ0 ro U S) {N : Nat} {a0f : Option Nat} (ea0 : a0f = (adr μ0 ro U S (2, 0, 0))) (s : CS) : IM μ0 ro U S id (u_X2_tick_95 U S N s) (f_X2_tick_95 N a0f (EC μ0 ro U S s)) := by
  unfold f_X2_tick_95 u_X2_tick_95
  refine im_fR W (ik_2 U S) (by decide) rfl ea0 fun v1 ev1 => ?_
  refine im_ck W (ik_1 U S) ev1 fun b3 eb3 => ?_
  refine im_call (ue_u_X1_isIdle W eb3 _) fun q2 => ?_
  dsimp only [id]
  refine im_if Iff.rfl (fun _ => ?_) (fun _ => ?_)
  · exact ue_u_X2_tick_109 W ea0 _
  · refine im_ck W (ik_2 U S) ea0 fun b5 eb5 => ?_
    refine im_call (ue_u_X2_lookForTask W eb5 _) fun q4 => ?_
    dsimp only [id]
    exact ue_u_X2_tick_109 W ea0 _
def u_X2_tick_51 (U S N : Nat) (k12 : Int32 → CS → Option (Unit × CS)) (a1 : Int32) (μ : CS) : Option (Unit × CS) :=
  k12 (a1 + 1) μ
theorem ue_u_X2_tick_51 {μ0 : BM} {ro U S : Nat} (W : Wd μ0 ro U S) {N : Nat} {k12 : (Option Nat) → Int32 → Mem → Option (Unit × Mem)} {k12' : Int32 → CS → Option (Unit × CS)} (hk12 : ∀ {ya0f : Option Nat} (eya0 : ya0f = (adr μ0 ro U S (2, 0, 0))) (ya1 : Int32) (s : CS), IM μ0 ro U S id (k12' ya1 s) (k12 ya0f ya1 (EC μ0 ro U S s))) {a0f : Option Nat} (ea0 : a0f = (adr μ0 ro U S (2, 0, 0))) (a1 : Int32) (s : CS) : IM μ0 ro U S id (u_X2_tick_51 U S N k12' a1 s) (f_X2_tick_51 N k12 a0f a1 (EC μ0 ro U S s)) := by
  unfold f_X2_tick_51 u_X2_tick_51
  exact hk12 ea0 _ _
def u_X2_tick_46 (U S N : Nat) (k12 : Int32 → CS → Option (Unit × CS)) (a1 : Int32) (a2 : Option Nat) (μ : CS) : Option (Unit × CS) :=
  (u_X2_attend U S N a2 μ).bind fun q1 =>
  u_X2_tick_51 U S N k12 a1 q1.2
theorem ue_u_X2_tick_46 {μ0 : BM} {ro U S : Nat} (W : Wd μ0 ro U S) {N : Nat} {k12 : (Option Nat) → Int32 → Mem → Option (Unit × Mem)} {k12' : Int32 → CS → Option (Unit × CS)} (hk12 : ∀ {ya0f : Option Nat} (eya0 : ya0f = (adr μ0 ro U S (2, 0, 0))) (ya1 : Int32) (s : CS), IM μ0 ro U S id (k12' ya1 s) (k12 ya0f ya1 (EC μ0 ro U S s))) {a0f : Option Nat} (ea0 : a0f = (adr μ0 ro U S (2, 0, 0))) (a1 : Int32) {a2 : Option Nat} {a2f : Option Nat} (ha2 : vd U a2) (ea2 : a2f = (Option.bind a2 fun b => adr μ0 ro U S (10, b, 0))) (s : CS) : IM μ0 ro U S id (u_X2_tick_46 U S N k12' a1 a2 s) (f_X2_tick_46 N k12 a0f a1 a2f (EC μ0 ro U S s)) := by
  unfold f_X2_tick_46 u_X2_tick_46
  refine im_ck W (ik_2 U S) ea0 fun b2 eb2 => ?_
  refine im_call (ue_u_X2_attend W eb2 ha2 ea2 _) fun q1 => ?_
  dsimp only [id]
  exact ue_u_X2_tick_51 W hk12 ea0 _ _
def uh_X2_tick_12 (U S N : Nat) (k12 : Int32 → CS → Option (Unit × CS)) (a1 : Int32) (μ : CS) : Option (Unit × CS) :=
  if (nI U) ≤ a1 then
    (u_X1_isIdle U S N μ).bind fun q4 =>
    if ¬ q4.1 = 0 then
      u_X2_tick_95 U S N q4.2
    else
      (u_X1_advance U S N q4.2).bind fun q7 =>
      if q7.1 = 0 then
        u_X2_tick_95 U S N q7.2
      else
        (vl U (q7.2.2.2.2.1 1 0 1)).bind fun v10 =>
        (vl S (q7.2.2.2.2.1 1 0 2)).bind fun v12 =>
        (u_X2_finishTask U S N v10 v12 q7.2).bind fun q13 =>
        u_X2_tick_95 U S N q13.2
  else
    (rQ U a1).bind fun v16 =>
    if (μ.1 10 v16 8) = (4 : Int32) then
      u_X2_tick_46 U S N k12 a1 (some v16) μ
    else
      if (μ.1 6 (2 * v16 + 1) 2) ≤ 0 then
        u_X2_tick_51 U S N k12 a1 μ
      else
        u_X2_tick_46 U S N k12 a1 (some v16) μ
theorem ue_uh_X2_tick_12 {μ0 : BM} {ro U S : Nat} (W : Wd μ0 ro U S) {N : Nat} {k12 : (Option Nat) → Int32 → Mem → Option (Unit × Mem)} {k12' : Int32 → CS → Option (Unit × CS)} (hk12 : ∀ {ya0f : Option Nat} (eya0 : ya0f = (adr μ0 ro U S (2, 0, 0))) (ya1 : Int32) (s : CS), IM μ0 ro U S id (k12' ya1 s) (k12 ya0f ya1 (EC μ0 ro U S s))) {a0f : Option Nat} (ea0 : a0f = (adr μ0 ro U S (2, 0, 0))) (a1 : Int32) (s : CS) : IM μ0 ro U S id (uh_X2_tick_12 U S N k12' a1 s) (H_X2_tick_12 N k12 a0f a1 (EC μ0 ro U S s)) := by
  unfold H_X2_tick_12 uh_X2_tick_12
  refine im_fR W (ik_2 U S) (by decide) rfl ea0 fun v1 ev1 => ?_
  refine im_l_us W ev1 ?_
  refine im_if Iff.rfl (fun _ => ?_) (fun _ => ?_)
  · refine im_fR W (ik_2 U S) (by decide) rfl ea0 fun v3 ev3 => ?_
    refine im_ck W (ik_1 U S) ev3 fun b5 eb5 => ?_
    refine im_call (ue_u_X1_isIdle W eb5 _) fun q4 => ?_
    dsimp only [id]
    refine im_if Iff.rfl (fun _ => ?_) (fun _ => ?_)
    · exact ue_u_X2_tick_95 W ea0 _
    · refine im_fR W (ik_2 U S) (by decide) rfl ea0 fun v6 ev6 => ?_
      refine im_ck W (ik_1 U S) ev6 fun b8 eb8 => ?_
      refine im_call (ue_u_X1_advance W eb8 _) fun q7 => ?_
      dsimp only [id]
      refine im_if Iff.rfl (fun _ => ?_) (fun _ => ?_)
      · exact ue_u_X2_tick_95 W ea0 _
      · refine im_fR W (ik_2 U S) (by decide) rfl ea0 fun v9 ev9 => ?_
        refine im_fD1 W (ik_1 U S) (by decide) rfl ev9 fun v10 hv10 v10' ev10 => ?_
        refine im_fR W (ik_2 U S) (by decide) rfl ea0 fun v11 ev11 => ?_
        refine im_fD2 W (ik_1 U S) (by decide) rfl ev11 fun v12 hv12 v12' ev12 => ?_
        refine im_ck W (ik_2 U S) ea0 fun b14 eb14 => ?_
        refine im_call (ue_u_X2_finishTask W eb14 hv10 ev10 hv12 ev12 _) fun q13 => ?_
        dsimp only [id]
        exact ue_u_X2_tick_95 W ea0 _
  · refine im_fR W (ik_2 U S) (by decide) rfl ea0 fun v15 ev15 => ?_
    refine im_r_us W ev15 _ fun v16 hv16 v16' ev16 => ?_
    refine im_fI W (ik_10 hv16) (by decide) rfl ev16 ?_
    refine im_if Iff.rfl (fun _ => ?_) (fun _ => ?_)
    · exact ue_u_X2_tick_46 W hk12 ea0 _ (vd_s hv16) ev16 _
    · refine im_fR W (ik_10 hv16) (by decide) rfl ev16 fun v18 ev18 => ?_
      refine im_fI W (ik_6 (two1 hv16)) (by decide) rfl ev18 ?_
      refine im_if Iff.rfl (fun _ => ?_) (fun _ => ?_)
      · exact ue_u_X2_tick_51 W hk12 ea0 _ _
      · exact ue_u_X2_tick_46 W hk12 ea0 _ (vd_s hv16) ev16 _
def ul_X2_tick_12 (U S N : Nat)  : Nat → Int32 → CS → Option (Unit × CS)
  | 0 => fun _ _ => none
  | n + 1 => uh_X2_tick_12 U S N (ul_X2_tick_12 U S N n)
theorem ue_ul_X2_tick_12 {μ0 : BM} {ro U S : Nat} (W : Wd μ0 ro U S) {N : Nat} : ∀ (n : Nat) {a0f : Option Nat} (ea0 : a0f = (adr μ0 ro U S (2, 0, 0))) (a1 : Int32) (s : CS), IM μ0 ro U S id (ul_X2_tick_12 U S N n a1 s) (L_X2_tick_12 N n a0f a1 (EC μ0 ro U S s)) := by
  intro n
  induction n with
  | zero => intros; exact im_none
  | succ n ih => intro a0f ea0 a1 s; exact ue_uh_X2_tick_12 W ih ea0 _ _
def u_X2_tick (U S N : Nat) (μ : CS) : Option (Unit × CS) :=
  (some (qI μ 2 0 7 ((μ.1 2 0 7) + 1))).bind fun μ2 =>
  ul_X2_tick_12 U S N N 0 μ2
theorem ue_u_X2_tick {μ0 : BM} {ro U S : Nat} (W : Wd μ0 ro U S) {N : Nat} {a0f : Option Nat} (ea0 : a0f = (adr μ0 ro U S (2, 0, 0))) (s : CS) : IM μ0 ro U S id (u_X2_tick U S N s) (f_X2_tick N a0f (EC μ0 ro U S s)) := by
  unfold f_X2_tick u_X2_tick
  refine im_fI W (ik_2 U S) (by decide) rfl ea0 ?_
  refine im_pI W (ik_2 U S) (by decide) rfl ea0 _ ?_
  exact ue_ul_X2_tick_12 W N ea0 _ _
def u_X11_run_12 (U S N : Nat) (μ : CS) : Option (Int32 × CS) :=
  some ((-1), μ)
theorem ue_u_X11_run_12 {μ0 : BM} {ro U S : Nat} (W : Wd μ0 ro U S) {N : Nat} (s : CS) : IM μ0 ro U S id (u_X11_run_12 U S N s) (f_X11_run_12 N (EC μ0 ro U S s)) := by
  unfold f_X11_run_12 u_X11_run_12
  exact im_ret rfl
def uh_X11_run_24 (U S N : Nat) (k24 : Int32 → Int32 → Int32 → CS → Option (Int32 × CS)) (a1 : Int32) (a2 : Int32) (a3 : Int32) (μ : CS) : Option (Int32 × CS) :=
  if a1 ≤ a3 then
    some ((μ.1 2 0 11) - a2, μ)
  else
    (u_X2_tick U S N μ).bind fun q4 =>
    k24 a1 a2 (a3 + 1) q4.2
theorem ue_uh_X11_run_24 {μ0 : BM} {ro U S : Nat} (W : Wd μ0 ro U S) {N : Nat} {k24 : (Option Nat) → Int32 → Int32 → Int32 → Mem → Option (Int32 × Mem)} {k24' : Int32 → Int32 → Int32 → CS → Option (Int32 × CS)} (hk24 : ∀ {ya0f : Option Nat} (eya0 : ya0f = (adr μ0 ro U S (11, 0, 0))) (ya1 : Int32) (ya2 : Int32) (ya3 : Int32) (s : CS), IM μ0 ro U S id (k24' ya1 ya2 ya3 s) (k24 ya0f ya1 ya2 ya3 (EC μ0 ro U S s))) {a0f : Option Nat} (ea0 : a0f = (adr μ0 ro U S (11, 0, 0))) (a1 : Int32) (a2 : Int32) (a3 : Int32) (s : CS) : IM μ0 ro U S id (uh_X11_run_24 U S N k24' a1 a2 a3 s) (H_X11_run_24 N k24 a0f a1 a2 a3 (EC μ0 ro U S s)) := by
  unfold H_X11_run_24 uh_X11_run_24
  refine im_if Iff.rfl (fun _ => ?_) (fun _ => ?_)
  · refine im_fR W (ik_11 U S) (by decide) rfl ea0 fun v1 ev1 => ?_
    refine im_fI W (ik_2 U S) (by decide) rfl ev1 ?_
    exact im_ret rfl
  · refine im_fR W (ik_11 U S) (by decide) rfl ea0 fun v3 ev3 => ?_
    refine im_ck W (ik_2 U S) ev3 fun b5 eb5 => ?_
    refine im_call (ue_u_X2_tick W eb5 _) fun q4 => ?_
    dsimp only [id]
    exact hk24 ea0 _ _ _ _
def ul_X11_run_24 (U S N : Nat)  : Nat → Int32 → Int32 → Int32 → CS → Option (Int32 × CS)
  | 0 => fun _ _ _ _ => none
  | n + 1 => uh_X11_run_24 U S N (ul_X11_run_24 U S N n)
theorem ue_ul_X11_run_24 {μ0 : BM} {ro U S : Nat} (W : Wd μ0 ro U S) {N : Nat} : ∀ (n : Nat) {a0f : Option Nat} (ea0 : a0f = (adr μ0 ro U S (11, 0, 0))) (a1 : Int32) (a2 : Int32) (a3 : Int32) (s : CS), IM μ0 ro U S id (ul_X11_run_24 U S N n a1 a2 a3 s) (L_X11_run_24 N n a0f a1 a2 a3 (EC μ0 ro U S s)) := by
  intro n
  induction n with
  | zero => intros; exact im_none
  | succ n ih => intro a0f ea0 a1 a2 a3 s; exact ue_uh_X11_run_24 W ih ea0 _ _ _ _
def u_X11_run (U S N : Nat) (a1 : Int32) (μ : CS) : Option (Int32 × CS) :=
  if a1 < (1 : Int32) then
    u_X11_run_12 U S N μ
  else
    if a1 ≤ (20000 : Int32) then
      ul_X11_run_24 U S N N a1 (μ.1 2 0 11) 0 μ
    else
      u_X11_run_12 U S N μ
theorem ue_u_X11_run {μ0 : BM} {ro U S : Nat} (W : Wd μ0 ro U S) {N : Nat} {a0f : Option Nat} (ea0 : a0f = (adr μ0 ro U S (11, 0, 0))) (a1 : Int32) (s : CS) : IM μ0 ro U S id (u_X11_run U S N a1 s) (f_X11_run N a0f a1 (EC μ0 ro U S s)) := by
  unfold f_X11_run u_X11_run
  refine im_if Iff.rfl (fun _ => ?_) (fun _ => ?_)
  · exact ue_u_X11_run_12 W _
  · refine im_if Iff.rfl (fun _ => ?_) (fun _ => ?_)
    · refine im_fR W (ik_11 U S) (by decide) rfl ea0 fun v1 ev1 => ?_
      refine im_fI W (ik_2 U S) (by decide) rfl ev1 ?_
      exact ue_ul_X11_run_24 W N ea0 _ _ _ _
    · exact ue_u_X11_run_12 W _
def u_X10_register_150 (U S N : Nat) (μ : CS) : Option (Int32 × CS) :=
  some ((-1), μ)
theorem ue_u_X10_register_150 {μ0 : BM} {ro U S : Nat} (W : Wd μ0 ro U S) {N : Nat} (s : CS) : IM μ0 ro U S id (u_X10_register_150 U S N s) (f_X10_register_150 N (EC μ0 ro U S s)) := by
  unfold f_X10_register_150 u_X10_register_150
  exact im_ret rfl
def u_X10_register_149 (U S N : Nat) (s0 : Int32) (μ : CS) : Option (Int32 × CS) :=
  some (s0, μ)
theorem ue_u_X10_register_149 {μ0 : BM} {ro U S : Nat} (W : Wd μ0 ro U S) {N : Nat} (s0 : Int32) (s : CS) : IM μ0 ro U S id (u_X10_register_149 U S N s0 s) (f_X10_register_149 N s0 (EC μ0 ro U S s)) := by
  unfold f_X10_register_149 u_X10_register_149
  exact im_ret rfl
def u_X10_register (U S N : Nat) (a0 : Nat) (a1 : Int32) (μ : CS) : Option (Int32 × CS) :=
  if a1 = 0 then
    some ((μ.1 10 a0 8), μ)
  else
    if a1 = 1 then
      some ((μ.1 10 a0 9), μ)
    else
      if a1 = 2 then
        some ((μ.1 10 a0 10), μ)
      else
        if a1 = 3 then
          some ((μ.1 10 a0 11), μ)
        else
          if a1 = 4 then
            some ((μ.1 10 a0 12), μ)
          else
            if a1 = 5 then
              some ((μ.1 10 a0 14), μ)
            else
              if a1 = 6 then
                some ((μ.1 6 (2 * a0) 2), μ)
              else
                if a1 = 7 then
                  some ((μ.1 6 (2 * a0 + 1) 2), μ)
                else
                  if a1 = 8 then
                    some ((μ.1 10 a0 6), μ)
                  else
                    if a1 = 9 then
                      u_X10_register_150 U S N μ
                    else
                      if a1 = 10 then
                        u_X10_register_150 U S N μ
                      else
                        if a1 = 11 then
                          some ((μ.1 10 a0 15), μ)
                        else
                          if a1 = 12 then
                            some ((μ.1 10 a0 13), μ)
                          else
                            if a1 = 13 then
                              if ¬ (μ.1 10 a0 8) = (4 : Int32) then
                                u_X10_register_149 U S N ((-1)) μ
                              else
                                u_X10_register_149 U S N (μ.1 10 a0 16) μ
                            else
                              u_X10_register_150 U S N μ
theorem ue_u_X10_register {μ0 : BM} {ro U S : Nat} (W : Wd μ0 ro U S) {N : Nat} {a0 : Nat} {a0f : Option Nat} (ha0 : a0 < U) (ea0 : a0f = (adr μ0 ro U S (10, a0, 0))) (a1 : Int32) (s : CS) : IM μ0 ro U S id (u_X10_register U S N a0 a1 s) (f_X10_register N a0f a1 (EC μ0 ro U S s)) := by
  unfold f_X10_register u_X10_register
  refine im_if Iff.rfl (fun _ => ?_) (fun _ => ?_)
  · refine im_fI W (ik_10 ha0) (by decide) rfl ea0 ?_
    exact im_ret rfl
  · refine im_if Iff.rfl (fun _ => ?_) (fun _ => ?_)
    · refine im_fI W (ik_10 ha0) (by decide) rfl ea0 ?_
      exact im_ret rfl
    · refine im_if Iff.rfl (fun _ => ?_) (fun _ => ?_)
      · refine im_fI W (ik_10 ha0) (by decide) rfl ea0 ?_
        exact im_ret rfl
      · refine im_if Iff.rfl (fun _ => ?_) (fun _ => ?_)
        · refine im_fI W (ik_10 ha0) (by decide) rfl ea0 ?_
          exact im_ret rfl
        · refine im_if Iff.rfl (fun _ => ?_) (fun _ => ?_)
          · refine im_fI W (ik_10 ha0) (by decide) rfl ea0 ?_
            exact im_ret rfl
          · refine im_if Iff.rfl (fun _ => ?_) (fun _ => ?_)
            · refine im_fI W (ik_10 ha0) (by decide) rfl ea0 ?_
              exact im_ret rfl
            · refine im_if Iff.rfl (fun _ => ?_) (fun _ => ?_)
              · refine im_fR W (ik_10 ha0) (by decide) rfl ea0 fun v7 ev7 => ?_
                refine im_fI W (ik_6 (two0 ha0)) (by decide) rfl ev7 ?_
                exact im_ret rfl
              · refine im_if Iff.rfl (fun _ => ?_) (fun _ => ?_)
                · refine im_fR W (ik_10 ha0) (by decide) rfl ea0 fun v9 ev9 => ?_
                  refine im_fI W (ik_6 (two1 ha0)) (by decide) rfl ev9 ?_
                  exact im_ret rfl
                · refine im_if Iff.rfl (fun _ => ?_) (fun _ => ?_)
                  · refine im_fI W (ik_10 ha0) (by decide) rfl ea0 ?_
                    exact im_ret rfl
                  · refine im_if Iff.rfl (fun _ => ?_) (fun _ => ?_)
                    · exact ue_u_X10_register_150 W _
                    · refine im_if Iff.rfl (fun _ => ?_) (fun _ => ?_)
                      · exact ue_u_X10_register_150 W _
                      · refine im_if Iff.rfl (fun _ => ?_) (fun _ => ?_)
                        · refine im_fI W (ik_10 ha0) (by decide) rfl ea0 ?_
                          exact im_ret rfl
                        · refine im_if Iff.rfl (fun _ => ?_) (fun _ => ?_)
                          · refine im_fI W (ik_10 ha0) (by decide) rfl ea0 ?_
                            exact im_ret rfl
                          · refine im_if Iff.rfl (fun _ => ?_) (fun _ => ?_)
                            · refine im_fI W (ik_10 ha0) (by decide) rfl ea0 ?_
                              refine im_if Iff.rfl (fun _ => ?_) (fun _ => ?_)
                              · exact ue_u_X10_register_149 W _ _
                              · refine im_fI W (ik_10 ha0) (by decide) rfl ea0 ?_
                                exact ue_u_X10_register_149 W _ _
                            · exact ue_u_X10_register_150 W _
def u_X11_user_70 (U S N : Nat) (s0 : Int32) (μ : CS) : Option (Int32 × CS) :=
  some (s0, μ)
theorem ue_u_X11_user_70 {μ0 : BM} {ro U S : Nat} (W : Wd μ0 ro U S) {N : Nat} (s0 : Int32) (s : CS) : IM μ0 ro U S id (u_X11_user_70 U S N s0 s) (f_X11_user_70 N s0 (EC μ0 ro U S s)) := by
  unfold f_X11_user_70 u_X11_user_70
  exact im_ret rfl
def u_X11_user_105 (U S N : Nat) (s0 : Int32) (μ : CS) : Option (Int32 × CS) :=
  some (s0, μ)
theorem ue_u_X11_user_105 {μ0 : BM} {ro U S : Nat} (W : Wd μ0 ro U S) {N : Nat} (s0 : Int32) (s : CS) : IM μ0 ro U S id (u_X11_user_105 U S N s0 s) (f_X11_user_105 N s0 (EC μ0 ro U S s)) := by
  unfold f_X11_user_105 u_X11_user_105
  exact im_ret rfl
def u_X11_user (U S N : Nat) (a1 : Int32) (a2 : Int32) (μ : CS) : Option (Int32 × CS) :=
  (u_X2_userAt U S N a1 μ).bind fun q2 =>
  (vl U q2.1).bind fun _ =>
  if ¬ q2.1 = none then
    if a2 = 9 then
      (q2.1).bind fun j1 =>
      (vl S (q2.2.2.2.2.1 10 j1 19)).bind fun v4 =>
      if ¬ v4 = none then
        (vl S (q2.2.2.2.2.1 10 j1 19)).bind fun v5 =>
        (v5).bind fun j2 =>
        u_X11_user_70 U S N (q2.2.1 8 j2 0) q2.2
      else
        u_X11_user_70 U S N ((-1)) q2.2
    else
      if a2 = 10 then
        (u_X5_placeOf U S N q2.1 q2.2).bind fun q9 =>
        some (q9.1, q9.2)
      else
        if a2 = 14 then
          (vl U (q2.2.2.2.2.1 2 0 8)).bind fun v12 =>
          if ¬ v12 = q2.1 then
            u_X11_user_105 U S N ((-1)) q2.2
          else
            u_X11_user_105 U S N (q2.2.1 2 0 9) q2.2
        else
          (q2.1).bind fun j3 =>
          (u_X10_register U S N j3 a2 q2.2).bind fun q15 =>
          some (q15.1, q15.2)
  else
    some ((-1), q2.2)
theorem ue_u_X11_user {μ0 : BM} {ro U S : Nat} (W : Wd μ0 ro U S) {N : Nat} {a0f : Option Nat} (ea0 : a0f = (adr μ0 ro U S (11, 0, 0))) (a1 : Int32) (a2 : Int32) (s : CS) : IM μ0 ro U S id (u_X11_user U S N a1 a2 s) (f_X11_user N a0f a1 a2 (EC μ0 ro U S s)) := by
  unfold f_X11_user u_X11_user
  refine im_fR W (ik_11 U S) (by decide) rfl ea0 fun v1 ev1 => ?_
  refine im_ck W (ik_2 U S) ev1 fun b3 eb3 => ?_
  refine im_call (ue_u_X2_userAt W eb3 _ _) fun q2 => ?_
  dsimp only [id]
  refine im_vl fun hq2 => ?_
  refine im_if (not_congr (im_nn 10 W (by simp) hq2 rfl)) (fun _ => ?_) (fun _ => ?_)
  · refine im_if Iff.rfl (fun _ => ?_) (fun _ => ?_)
    · refine im_der (ci := 10) (hq2) (rfl) fun j1 hj1 ej1 => ?_
      refine im_fD2 W (ik_10 hj1) (by decide) rfl ej1 fun v4 hv4 v4' ev4 => ?_
      refine im_if (not_congr (im_nn 8 W (by simp) hv4 ev4)) (fun _ => ?_) (fun _ => ?_)
      · refine im_fD2 W (ik_10 hj1) (by decide) rfl ej1 fun v5 hv5 v5' ev5 => ?_
        refine im_der (ci := 8) (hv5) (ev5) fun j2 hj2 ej2 => ?_
        refine im_fI W (ik_8 hj2) (by decide) rfl ej2 ?_
        exact ue_u_X11_user_70 W _ _
      · exact ue_u_X11_user_70 W _ _
    · refine im_if Iff.rfl (fun _ => ?_) (fun _ => ?_)
      · refine im_fR W (ik_11 U S) (by decide) rfl ea0 fun v7 ev7 => ?_
        refine im_fR W (ik_2 U S) (by decide) rfl ev7 fun v8 ev8 => ?_
        refine im_ck W (ik_5 U S) ev8 fun b10 eb10 => ?_
        refine im_call (ue_u_X5_placeOf W eb10 hq2 rfl _) fun q9 => ?_
        dsimp only [id]
        exact im_ret rfl
      · refine im_if Iff.rfl (fun _ => ?_) (fun _ => ?_)
        · refine im_fR W (ik_11 U S) (by decide) rfl ea0 fun v11 ev11 => ?_
          refine im_fD1 W (ik_2 U S) (by decide) rfl ev11 fun v12 hv12 v12' ev12 => ?_
          refine im_if (not_congr (im_eq 10 W (by simp) hv12 ev12 hq2 rfl)) (fun _ => ?_) (fun _ => ?_)
          · exact ue_u_X11_user_105 W _ _
          · refine im_fR W (ik_11 U S) (by decide) rfl ea0 fun v13 ev13 => ?_
            refine im_fI W (ik_2 U S) (by decide) rfl ev13 ?_
            exact ue_u_X11_user_105 W _ _
        · refine im_der (ci := 10) (hq2) (rfl) fun j3 hj3 ej3 => ?_
          refine im_ck W (ik_10 hj3) ej3 fun b16 eb16 => ?_
          refine im_call (ue_u_X10_register W hj3 eb16 _ _) fun q15 => ?_
          dsimp only [id]
          exact im_ret rfl
  · exact im_ret rfl
def u_X1_register_123 (U S N : Nat) (μ : CS) : Option (Int32 × CS) :=
  some ((-1), μ)
theorem ue_u_X1_register_123 {μ0 : BM} {ro U S : Nat} (W : Wd μ0 ro U S) {N : Nat} (s : CS) : IM μ0 ro U S id (u_X1_register_123 U S N s) (f_X1_register_123 N (EC μ0 ro U S s)) := by
  unfold f_X1_register_123 u_X1_register_123
  exact im_ret rfl
def u_X1_register_83 (U S N : Nat) (s0 : Int32) (μ : CS) : Option (Int32 × CS) :=
  some (s0, μ)
theorem ue_u_X1_register_83 {μ0 : BM} {ro U S : Nat} (W : Wd μ0 ro U S) {N : Nat} (s0 : Int32) (s : CS) : IM μ0 ro U S id (u_X1_register_83 U S N s0 s) (f_X1_register_83 N s0 (EC μ0 ro U S s)) := by
  unfold f_X1_register_83 u_X1_register_83
  exact im_ret rfl
def u_X1_register_107 (U S N : Nat) (s0 : Int32) (μ : CS) : Option (Int32 × CS) :=
  some (s0, μ)
theorem ue_u_X1_register_107 {μ0 : BM} {ro U S : Nat} (W : Wd μ0 ro U S) {N : Nat} (s0 : Int32) (s : CS) : IM μ0 ro U S id (u_X1_register_107 U S N s0 s) (f_X1_register_107 N s0 (EC μ0 ro U S s)) := by
  unfold f_X1_register_107 u_X1_register_107
  exact im_ret rfl
def u_X1_register (U S N : Nat) (a1 : Int32) (μ : CS) : Option (Int32 × CS) :=
  if a1 = 2 then
    some ((μ.1 1 0 0), μ)
  else
    if a1 = 3 then
      (vl U (μ.2.2.2.1 1 0 1)).bind fun v2 =>
      if ¬ v2 = none then
        (vl U (μ.2.2.2.1 1 0 1)).bind fun v3 =>
        (v3).bind fun j1 =>
        u_X1_register_83 U S N (μ.1 10 j1 0) μ
      else
        u_X1_register_83 U S N ((-1)) μ
    else
      if a1 = 4 then
        some ((μ.1 1 0 3), μ)
      else
        if a1 = 5 then
          (vl S (μ.2.2.2.1 1 0 2)).bind fun v6 =>
          if ¬ v6 = none then
            (vl S (μ.2.2.2.1 1 0 2)).bind fun v7 =>
            (v7).bind fun j2 =>
            u_X1_register_107 U S N (μ.1 8 j2 0) μ
          else
            u_X1_register_107 U S N ((-1)) μ
        else
          if a1 = 6 then
            some ((μ.1 1 0 5), μ)
          else
            if a1 = 7 then
              some ((μ.1 1 0 6), μ)
            else
              if a1 = 8 then
                u_X1_register_123 U S N μ
              else
                if a1 = 9 then
                  u_X1_register_123 U S N μ
                else
                  if a1 = 10 then
                    u_X1_register_123 U S N μ
                  else
                    if a1 = 11 then
                      u_X1_register_123 U S N μ
                    else
                      if a1 = 12 then
                        some ((μ.1 1 0 7), μ)
                      else
                        u_X1_register_123 U S N μ
theorem ue_u_X1_register {μ0 : BM} {ro U S : Nat} (W : Wd μ0 ro U S) {N : Nat} {a0f : Option Nat} (ea0 : a0f = (adr μ0 ro U S (1, 0, 0))) (a1 : Int32) (s : CS) : IM μ0 ro U S id (u_X1_register U S N a1 s) (f_X1_register N a0f a1 (EC μ0 ro U S s)) := by
  unfold f_X1_register u_X1_register
  refine im_if Iff.rfl (fun _ => ?_) (fun _ => ?_)
  · refine im_fI W (ik_1 U S) (by decide) rfl ea0 ?_
    exact im_ret rfl
  · refine im_if Iff.rfl (fun _ => ?_) (fun _ => ?_)
    · refine im_fD1 W (ik_1 U S) (by decide) rfl ea0 fun v2 hv2 v2' ev2 => ?_
      refine im_if (not_congr (im_nn 10 W (by simp) hv2 ev2)) (fun _ => ?_) (fun _ => ?_)
      · refine im_fD1 W (ik_1 U S) (by decide) rfl ea0 fun v3 hv3 v3' ev3 => ?_
        refine im_der (ci := 10) (hv3) (ev3) fun j1 hj1 ej1 => ?_
        refine im_fI W (ik_10 hj1) (by decide) rfl ej1 ?_
        exact ue_u_X1_register_83 W _ _
      · exact ue_u_X1_register_83 W _ _
    · refine im_if Iff.rfl (fun _ => ?_) (fun _ => ?_)
      · refine im_fI W (ik_1 U S) (by decide) rfl ea0 ?_
        exact im_ret rfl
      · refine im_if Iff.rfl (fun _ => ?_) (fun _ => ?_)
        · refine im_fD2 W (ik_1 U S) (by decide) rfl ea0 fun v6 hv6 v6' ev6 => ?_
          refine im_if (not_congr (im_nn 8 W (by simp) hv6 ev6)) (fun _ => ?_) (fun _ => ?_)
          · refine im_fD2 W (ik_1 U S) (by decide) rfl ea0 fun v7 hv7 v7' ev7 => ?_
            refine im_der (ci := 8) (hv7) (ev7) fun j2 hj2 ej2 => ?_
            refine im_fI W (ik_8 hj2) (by decide) rfl ej2 ?_
            exact ue_u_X1_register_107 W _ _
          · exact ue_u_X1_register_107 W _ _
        · refine im_if Iff.rfl (fun _ => ?_) (fun _ => ?_)
          · refine im_fI W (ik_1 U S) (by decide) rfl ea0 ?_
            exact im_ret rfl
          · refine im_if Iff.rfl (fun _ => ?_) (fun _ => ?_)
            · refine im_fI W (ik_1 U S) (by decide) rfl ea0 ?_
              exact im_ret rfl
            · refine im_if Iff.rfl (fun _ => ?_) (fun _ => ?_)
              · exact ue_u_X1_register_123 W _
              · refine im_if Iff.rfl (fun _ => ?_) (fun _ => ?_)
                · exact ue_u_X1_register_123 W _
                · refine im_if Iff.rfl (fun _ => ?_) (fun _ => ?_)
                  · exact ue_u_X1_register_123 W _
                  · refine im_if Iff.rfl (fun _ => ?_) (fun _ => ?_)
                    · exact ue_u_X1_register_123 W _
                    · refine im_if Iff.rfl (fun _ => ?_) (fun _ => ?_)
                      · refine im_fI W (ik_1 U S) (by decide) rfl ea0 ?_
                        exact im_ret rfl
                      · exact ue_u_X1_register_123 W _
def u_X11_look_129 (U S N : Nat) (a1 : Int32) (μ : CS) : Option (Int32 × CS) :=
  (u_X1_register U S N a1 μ).bind fun q3 =>
  some (q3.1, q3.2)
theorem ue_u_X11_look_129 {μ0 : BM} {ro U S : Nat} (W : Wd μ0 ro U S) {N : Nat} {a0f : Option Nat} (ea0 : a0f = (adr μ0 ro U S (11, 0, 0))) (a1 : Int32) (s : CS) : IM μ0 ro U S id (u_X11_look_129 U S N a1 s) (f_X11_look_129 N a0f a1 (EC μ0 ro U S s)) := by
  unfold f_X11_look_129 u_X11_look_129
  refine im_fR W (ik_11 U S) (by decide) rfl ea0 fun v1 ev1 => ?_
  refine im_fR W (ik_2 U S) (by decide) rfl ev1 fun v2 ev2 => ?_
  refine im_ck W (ik_1 U S) ev2 fun b4 eb4 => ?_
  refine im_call (ue_u_X1_register W eb4 _ _) fun q3 => ?_
  dsimp only [id]
  exact im_ret rfl
def u_X11_look_96 (U S N : Nat) (s0 : Int32) (μ : CS) : Option (Int32 × CS) :=
  some (s0, μ)
theorem ue_u_X11_look_96 {μ0 : BM} {ro U S : Nat} (W : Wd μ0 ro U S) {N : Nat} (s0 : Int32) (s : CS) : IM μ0 ro U S id (u_X11_look_96 U S N s0 s) (f_X11_look_96 N s0 (EC μ0 ro U S s)) := by
  unfold f_X11_look_96 u_X11_look_96
  exact im_ret rfl
def u_X11_look (U S N : Nat) (a1 : Int32) (μ : CS) : Option (Int32 × CS) :=
  if a1 = 0 then
    some ((μ.1 2 0 7), μ)
  else
    if a1 = 1 then
      (vl U (μ.2.2.2.1 2 0 8)).bind fun v4 =>
      if ¬ v4 = none then
        (vl U (μ.2.2.2.1 2 0 8)).bind fun v6 =>
        (v6).bind fun j1 =>
        u_X11_look_96 U S N (μ.1 10 j1 0) μ
      else
        u_X11_look_96 U S N ((-1)) μ
    else
      if a1 = 2 then
        u_X11_look_129 U S N a1 μ
      else
        if a1 = 3 then
          u_X11_look_129 U S N a1 μ
        else
          if a1 = 4 then
            u_X11_look_129 U S N a1 μ
          else
            if a1 = 5 then
              u_X11_look_129 U S N a1 μ
            else
              if a1 = 6 then
                u_X11_look_129 U S N a1 μ
              else
                if a1 = 7 then
                  u_X11_look_129 U S N a1 μ
                else
                  if a1 = 8 then
                    some ((μ.1 2 0 10), μ)
                  else
                    if a1 = 9 then
                      some ((μ.1 5 0 1), μ)
                    else
                      if a1 = 10 then
                        some ((μ.1 2 0 11), μ)
                      else
                        if a1 = 11 then
                          some ((μ.1 11 0 1), μ)
                        else
                          u_X11_look_129 U S N a1 μ
theorem ue_u_X11_look {μ0 : BM} {ro U S : Nat} (W : Wd μ0 ro U S) {N : Nat} {a0f : Option Nat} (ea0 : a0f = (adr μ0 ro U S (11, 0, 0))) (a1 : Int32) (s : CS) : IM μ0 ro U S id (u_X11_look U S N a1 s) (f_X11_look N a0f a1 (EC μ0 ro U S s)) := by
  unfold f_X11_look u_X11_look
  refine im_if Iff.rfl (fun _ => ?_) (fun _ => ?_)
  · refine im_fR W (ik_11 U S) (by decide) rfl ea0 fun v1 ev1 => ?_
    refine im_fI W (ik_2 U S) (by decide) rfl ev1 ?_
    exact im_ret rfl
  · refine im_if Iff.rfl (fun _ => ?_) (fun _ => ?_)
    · refine im_fR W (ik_11 U S) (by decide) rfl ea0 fun v3 ev3 => ?_
      refine im_fD1 W (ik_2 U S) (by decide) rfl ev3 fun v4 hv4 v4' ev4 => ?_
      refine im_if (not_congr (im_nn 10 W (by simp) hv4 ev4)) (fun _ => ?_) (fun _ => ?_)
      · refine im_fR W (ik_11 U S) (by decide) rfl ea0 fun v5 ev5 => ?_
        refine im_fD1 W (ik_2 U S) (by decide) rfl ev5 fun v6 hv6 v6' ev6 => ?_
        refine im_der (ci := 10) (hv6) (ev6) fun j1 hj1 ej1 => ?_
        refine im_fI W (ik_10 hj1) (by decide) rfl ej1 ?_
        exact ue_u_X11_look_96 W _ _
      · exact ue_u_X11_look_96 W _ _
    · refine im_if Iff.rfl (fun _ => ?_) (fun _ => ?_)
      · exact ue_u_X11_look_129 W ea0 _ _
      · refine im_if Iff.rfl (fun _ => ?_) (fun _ => ?_)
        · exact ue_u_X11_look_129 W ea0 _ _
        · refine im_if Iff.rfl (fun _ => ?_) (fun _ => ?_)
          · exact ue_u_X11_look_129 W ea0 _ _
          · refine im_if Iff.rfl (fun _ => ?_) (fun _ => ?_)
            · exact ue_u_X11_look_129 W ea0 _ _
            · refine im_if Iff.rfl (fun _ => ?_) (fun _ => ?_)
              · exact ue_u_X11_look_129 W ea0 _ _
              · refine im_if Iff.rfl (fun _ => ?_) (fun _ => ?_)
                · exact ue_u_X11_look_129 W ea0 _ _
                · refine im_if Iff.rfl (fun _ => ?_) (fun _ => ?_)
                  · refine im_fR W (ik_11 U S) (by decide) rfl ea0 fun v8 ev8 => ?_
                    refine im_fI W (ik_2 U S) (by decide) rfl ev8 ?_
                    exact im_ret rfl
                  · refine im_if Iff.rfl (fun _ => ?_) (fun _ => ?_)
                    · refine im_fR W (ik_11 U S) (by decide) rfl ea0 fun v10 ev10 => ?_
                      refine im_fR W (ik_2 U S) (by decide) rfl ev10 fun v11 ev11 => ?_
                      refine im_fI W (ik_5 U S) (by decide) rfl ev11 ?_
                      exact im_ret rfl
                    · refine im_if Iff.rfl (fun _ => ?_) (fun _ => ?_)
                      · refine im_fR W (ik_11 U S) (by decide) rfl ea0 fun v13 ev13 => ?_
                        refine im_fI W (ik_2 U S) (by decide) rfl ev13 ?_
                        exact im_ret rfl
                      · refine im_if Iff.rfl (fun _ => ?_) (fun _ => ?_)
                        · refine im_fI W (ik_11 U S) (by decide) rfl ea0 ?_
                          exact im_ret rfl
                        · exact ue_u_X11_look_129 W ea0 _ _
def u_X10_fetch_33 (U S N : Nat) (s0 : Int32) (μ : CS) : Option (Int32 × CS) :=
  some (s0, μ)
theorem ue_u_X10_fetch_33 {μ0 : BM} {ro U S : Nat} (W : Wd μ0 ro U S) {N : Nat} (s0 : Int32) (s : CS) : IM μ0 ro U S id (u_X10_fetch_33 U S N s0 s) (f_X10_fetch_33 N s0 (EC μ0 ro U S s)) := by
  unfold f_X10_fetch_33 u_X10_fetch_33
  exact im_ret rfl
def u_X10_fetch (U S N : Nat) (a0 : Nat) (a1 : Int32) (μ : CS) : Option (Int32 × CS) :=
  (vl S (μ.2.2.2.1 10 a0 19)).bind fun v1 =>
  if ¬ v1 = none then
    (vl S (μ.2.2.2.1 10 a0 19)).bind fun v2 =>
    (v2).bind fun j1 =>
    (rH 4096 μ 8 j1 1 (a1 &&& 4095)).bind fun v4 =>
    u_X10_fetch_33 U S N v4 μ
  else
    (rH 4096 μ 10 a0 1 (a1 &&& 4095)).bind fun v6 =>
    u_X10_fetch_33 U S N v6 μ
theorem ue_u_X10_fetch {μ0 : BM} {ro U S : Nat} (W : Wd μ0 ro U S) {N : Nat} {a0 : Nat} {a0f : Option Nat} (ha0 : a0 < U) (ea0 : a0f = (adr μ0 ro U S (10, a0, 0))) (a1 : Int32) (s : CS) : IM μ0 ro U S id (u_X10_fetch U S N a0 a1 s) (f_X10_fetch N a0f a1 (EC μ0 ro U S s)) := by
  unfold f_X10_fetch u_X10_fetch
  refine im_fD2 W (ik_10 ha0) (by decide) rfl ea0 fun v1 hv1 v1' ev1 => ?_
  refine im_if (not_congr (im_nn 8 W (by simp) hv1 ev1)) (fun _ => ?_) (fun _ => ?_)
  · refine im_fD2 W (ik_10 ha0) (by decide) rfl ea0 fun v2 hv2 v2' ev2 => ?_
    refine im_der (ci := 8) (hv2) (ev2) fun j1 hj1 ej1 => ?_
    refine im_fR W (ik_8 hj1) (by decide) rfl ej1 fun v3 ev3 => ?_
    refine im_aI (n := 4096) W (ia_8_2 hj1) rfl rfl ev3 _ fun v4 => ?_
    exact ue_u_X10_fetch_33 W _ _
  · refine im_fR W (ik_10 ha0) (by decide) rfl ea0 fun v5 ev5 => ?_
    refine im_aI (n := 4096) W (ia_10_2 ha0) rfl rfl ev5 _ fun v6 => ?_
    exact ue_u_X10_fetch_33 W _ _
def u_X11_word_29 (U S N : Nat) (s0 : Int32) (μ : CS) : Option (Int32 × CS) :=
  some (s0, μ)
theorem ue_u_X11_word_29 {μ0 : BM} {ro U S : Nat} (W : Wd μ0 ro U S) {N : Nat} (s0 : Int32) (s : CS) : IM μ0 ro U S id (u_X11_word_29 U S N s0 s) (f_X11_word_29 N s0 (EC μ0 ro U S s)) := by
  unfold f_X11_word_29 u_X11_word_29
  exact im_ret rfl
def u_X11_word_20 (U S N : Nat) (μ : CS) : Option (Int32 × CS) :=
  u_X11_word_29 U S N ((-1)) μ
theorem ue_u_X11_word_20 {μ0 : BM} {ro U S : Nat} (W : Wd μ0 ro U S) {N : Nat} (s : CS) : IM μ0 ro U S id (u_X11_word_20 U S N s) (f_X11_word_20 N (EC μ0 ro U S s)) := by
  unfold f_X11_word_20 u_X11_word_20
  exact ue_u_X11_word_29 W _ _
def u_X11_word (U S N : Nat) (a1 : Int32) (a2 : Int32) (μ : CS) : Option (Int32 × CS) :=
  (u_X2_userAt U S N a1 μ).bind fun q2 =>
  (vl U q2.1).bind fun _ =>
  if q2.1 = none then
    u_X11_word_20 U S N q2.2
  else
    (u_X11_isWord U S N a2 q2.2).bind fun q4 =>
    if ¬ q4.1 = 0 then
      (q2.1).bind fun j1 =>
      (u_X10_fetch U S N j1 a2 q4.2).bind fun q5 =>
      u_X11_word_29 U S N q5.1 q5.2
    else
      u_X11_word_20 U S N q4.2
theorem ue_u_X11_word {μ0 : BM} {ro U S : Nat} (W : Wd μ0 ro U S) {N : Nat} {a0f : Option Nat} (ea0 : a0f = (adr μ0 ro U S (11, 0, 0))) (a1 : Int32) (a2 : Int32) (s : CS) : IM μ0 ro U S id (u_X11_word U S N a1 a2 s) (f_X11_word N a0f a1 a2 (EC μ0 ro U S s)) := by
  unfold f_X11_word u_X11_word
  refine im_fR W (ik_11 U S) (by decide) rfl ea0 fun v1 ev1 => ?_
  refine im_ck W (ik_2 U S) ev1 fun b3 eb3 => ?_
  refine im_call (ue_u_X2_userAt W eb3 _ _) fun q2 => ?_
  dsimp only [id]
  refine im_vl fun hq2 => ?_
  refine im_if (im_nn 10 W (by simp) hq2 rfl) (fun _ => ?_) (fun _ => ?_)
  · exact ue_u_X11_word_20 W _
  · refine im_call (ue_u_X11_isWord W _ _) fun q4 => ?_
    dsimp only [id]
    refine im_if Iff.rfl (fun _ => ?_) (fun _ => ?_)
    · refine im_der (ci := 10) (hq2) (rfl) fun j1 hj1 ej1 => ?_
      refine im_ck W (ik_10 hj1) ej1 fun b6 eb6 => ?_
      refine im_call (ue_u_X10_fetch W hj1 eb6 _ _) fun q5 => ?_
      dsimp only [id]
      exact ue_u_X11_word_29 W _ _
    · exact ue_u_X11_word_20 W _
def u_X2_slotAt_23 (U S N : Nat) (s0 : Option Nat) (μ : CS) : Option (Option Nat × CS) :=
  some (s0, μ)
theorem ue_u_X2_slotAt_23 {μ0 : BM} {ro U S : Nat} (W : Wd μ0 ro U S) {N : Nat} {s0 : Option Nat} {s0f : Option Nat} (hs0 : vd S s0) (es0 : s0f = (Option.bind s0 fun b => adr μ0 ro U S (8, b, 0))) (s : CS) : IM μ0 ro U S (fun v : Option Nat => v.bind fun b => adr μ0 ro U S (8, b, 0)) (u_X2_slotAt_23 U S N s0 s) (f_X2_slotAt_23 N s0f (EC μ0 ro U S s)) := by
  unfold f_X2_slotAt_23 u_X2_slotAt_23
  exact im_ret (es0)
def u_X2_slotAt_13 (U S N : Nat) (μ : CS) : Option (Option Nat × CS) :=
  u_X2_slotAt_23 U S N none μ
theorem ue_u_X2_slotAt_13 {μ0 : BM} {ro U S : Nat} (W : Wd μ0 ro U S) {N : Nat} (s : CS) : IM μ0 ro U S (fun v : Option Nat => v.bind fun b => adr μ0 ro U S (8, b, 0)) (u_X2_slotAt_13 U S N s) (f_X2_slotAt_13 N (EC μ0 ro U S s)) := by
  unfold f_X2_slotAt_13 u_X2_slotAt_13
  exact ue_u_X2_slotAt_23 W (vd_n _) rfl _
def u_X2_slotAt (U S N : Nat) (a1 : Int32) (μ : CS) : Option (Option Nat × CS) :=
  if a1 < 0 then
    u_X2_slotAt_13 U S N μ
  else
    if a1 < (nI S) then
      (rQ S a1).bind fun v4 =>
      u_X2_slotAt_23 U S N (some v4) μ
    else
      u_X2_slotAt_13 U S N μ
theorem ue_u_X2_slotAt {μ0 : BM} {ro U S : Nat} (W : Wd μ0 ro U S) {N : Nat} {a0f : Option Nat} (ea0 : a0f = (adr μ0 ro U S (2, 0, 0))) (a1 : Int32) (s : CS) : IM μ0 ro U S (fun v : Option Nat => v.bind fun b => adr μ0 ro U S (8, b, 0)) (u_X2_slotAt U S N a1 s) (f_X2_slotAt N a0f a1 (EC μ0 ro U S s)) := by
  unfold f_X2_slotAt u_X2_slotAt
  refine im_if Iff.rfl (fun _ => ?_) (fun _ => ?_)
  · exact ue_u_X2_slotAt_13 W _
  · refine im_fR W (ik_2 U S) (by decide) rfl ea0 fun v1 ev1 => ?_
    refine im_l_sl W ev1 ?_
    refine im_if Iff.rfl (fun _ => ?_) (fun _ => ?_)
    · refine im_fR W (ik_2 U S) (by decide) rfl ea0 fun v3 ev3 => ?_
      refine im_r_sl W ev3 _ fun v4 hv4 v4' ev4 => ?_
      exact ue_u_X2_slotAt_23 W (vd_s hv4) ev4 _
    · exact ue_u_X2_slotAt_13 W _
def u_X11_core_30 (U S N : Nat) (s0 : Int32) (μ : CS) : Option (Int32 × CS) :=
  some (s0, μ)
theorem ue_u_X11_core_30 {μ0 : BM} {ro U S : Nat} (W : Wd μ0 ro U S) {N : Nat} (s0 : Int32) (s : CS) : IM μ0 ro U S id (u_X11_core_30 U S N s0 s) (f_X11_core_30 N s0 (EC μ0 ro U S s)) := by
  unfold f_X11_core_30 u_X11_core_30
  exact im_ret rfl
def u_X11_core_20 (U S N : Nat) (μ : CS) : Option (Int32 × CS) :=
  u_X11_core_30 U S N ((-1)) μ
theorem ue_u_X11_core_20 {μ0 : BM} {ro U S : Nat} (W : Wd μ0 ro U S) {N : Nat} (s : CS) : IM μ0 ro U S id (u_X11_core_20 U S N s) (f_X11_core_20 N (EC μ0 ro U S s)) := by
  unfold f_X11_core_20 u_X11_core_20
  exact ue_u_X11_core_30 W _ _
def u_X11_core (U S N : Nat) (a1 : Int32) (a2 : Int32) (μ : CS) : Option (Int32 × CS) :=
  (u_X2_slotAt U S N a1 μ).bind fun q2 =>
  (vl S q2.1).bind fun _ =>
  if q2.1 = none then
    u_X11_core_20 U S N q2.2
  else
    (u_X11_isWord U S N a2 q2.2).bind fun q4 =>
    if ¬ q4.1 = 0 then
      (q2.1).bind fun j1 =>
      (rH 4096 q4.2 8 j1 1 a2).bind fun v6 =>
      u_X11_core_30 U S N v6 q4.2
    else
      u_X11_core_20 U S N q4.2
theorem ue_u_X11_core {μ0 : BM} {ro U S : Nat} (W : Wd μ0 ro U S) {N : Nat} {a0f : Option Nat} (ea0 : a0f = (adr μ0 ro U S (11, 0, 0))) (a1 : Int32) (a2 : Int32) (s : CS) : IM μ0 ro U S id (u_X11_core U S N a1 a2 s) (f_X11_core N a0f a1 a2 (EC μ0 ro U S s)) := by
  unfold f_X11_core u_X11_core
  refine im_fR W (ik_11 U S) (by decide) rfl ea0 fun v1 ev1 => ?_
  refine im_ck W (ik_2 U S) ev1 fun b3 eb3 => ?_
  refine im_call (ue_u_X2_slotAt W eb3 _ _) fun q2 => ?_
  dsimp only [id]
  refine im_vl fun hq2 => ?_
  refine im_if (im_nn 8 W (by simp) hq2 rfl) (fun _ => ?_) (fun _ => ?_)
  · exact ue_u_X11_core_20 W _
  · refine im_call (ue_u_X11_isWord W _ _) fun q4 => ?_
    dsimp only [id]
    refine im_if Iff.rfl (fun _ => ?_) (fun _ => ?_)
    · refine im_der (ci := 8) (hq2) (rfl) fun j1 hj1 ej1 => ?_
      refine im_fR W (ik_8 hj1) (by decide) rfl ej1 fun v5 ev5 => ?_
      refine im_aI (n := 4096) W (ia_8_2 hj1) rfl rfl ev5 _ fun v6 => ?_
      exact ue_u_X11_core_30 W _ _
    · exact ue_u_X11_core_20 W _
def u_X11_drum_30 (U S N : Nat) (s0 : Int32) (μ : CS) : Option (Int32 × CS) :=
  some (s0, μ)
theorem ue_u_X11_drum_30 {μ0 : BM} {ro U S : Nat} (W : Wd μ0 ro U S) {N : Nat} (s0 : Int32) (s : CS) : IM μ0 ro U S id (u_X11_drum_30 U S N s0 s) (f_X11_drum_30 N s0 (EC μ0 ro U S s)) := by
  unfold f_X11_drum_30 u_X11_drum_30
  exact im_ret rfl
def u_X11_drum_20 (U S N : Nat) (μ : CS) : Option (Int32 × CS) :=
  u_X11_drum_30 U S N ((-1)) μ
theorem ue_u_X11_drum_20 {μ0 : BM} {ro U S : Nat} (W : Wd μ0 ro U S) {N : Nat} (s : CS) : IM μ0 ro U S id (u_X11_drum_20 U S N s) (f_X11_drum_20 N (EC μ0 ro U S s)) := by
  unfold f_X11_drum_20 u_X11_drum_20
  exact ue_u_X11_drum_30 W _ _
def u_X11_drum (U S N : Nat) (a1 : Int32) (a2 : Int32) (μ : CS) : Option (Int32 × CS) :=
  (u_X2_userAt U S N a1 μ).bind fun q2 =>
  (vl U q2.1).bind fun _ =>
  if q2.1 = none then
    u_X11_drum_20 U S N q2.2
  else
    (u_X11_isWord U S N a2 q2.2).bind fun q4 =>
    if ¬ q4.1 = 0 then
      (q2.1).bind fun j1 =>
      (rH 4096 q4.2 10 j1 1 a2).bind fun v6 =>
      u_X11_drum_30 U S N v6 q4.2
    else
      u_X11_drum_20 U S N q4.2
theorem ue_u_X11_drum {μ0 : BM} {ro U S : Nat} (W : Wd μ0 ro U S) {N : Nat} {a0f : Option Nat} (ea0 : a0f = (adr μ0 ro U S (11, 0, 0))) (a1 : Int32) (a2 : Int32) (s : CS) : IM μ0 ro U S id (u_X11_drum U S N a1 a2 s) (f_X11_drum N a0f a1 a2 (EC μ0 ro U S s)) := by
  unfold f_X11_drum u_X11_drum
  refine im_fR W (ik_11 U S) (by decide) rfl ea0 fun v1 ev1 => ?_
  refine im_ck W (ik_2 U S) ev1 fun b3 eb3 => ?_
  refine im_call (ue_u_X2_userAt W eb3 _ _) fun q2 => ?_
  dsimp only [id]
  refine im_vl fun hq2 => ?_
  refine im_if (im_nn 10 W (by simp) hq2 rfl) (fun _ => ?_) (fun _ => ?_)
  · exact ue_u_X11_drum_20 W _
  · refine im_call (ue_u_X11_isWord W _ _) fun q4 => ?_
    dsimp only [id]
    refine im_if Iff.rfl (fun _ => ?_) (fun _ => ?_)
    · refine im_der (ci := 10) (hq2) (rfl) fun j1 hj1 ej1 => ?_
      refine im_fR W (ik_10 hj1) (by decide) rfl ej1 fun v5 ev5 => ?_
      refine im_aI (n := 4096) W (ia_10_2 hj1) rfl rfl ev5 _ fun v6 => ?_
      exact ue_u_X11_drum_30 W _ _
    · exact ue_u_X11_drum_20 W _
def u_X8_register_46 (U S N : Nat) (s0 : Int32) (μ : CS) : Option (Int32 × CS) :=
  some (s0, μ)
theorem ue_u_X8_register_46 {μ0 : BM} {ro U S : Nat} (W : Wd μ0 ro U S) {N : Nat} (s0 : Int32) (s : CS) : IM μ0 ro U S id (u_X8_register_46 U S N s0 s) (f_X8_register_46 N s0 (EC μ0 ro U S s)) := by
  unfold f_X8_register_46 u_X8_register_46
  exact im_ret rfl
def u_X8_register_59 (U S N : Nat) (s0 : Int32) (μ : CS) : Option (Int32 × CS) :=
  some (s0, μ)
theorem ue_u_X8_register_59 {μ0 : BM} {ro U S : Nat} (W : Wd μ0 ro U S) {N : Nat} (s0 : Int32) (s : CS) : IM μ0 ro U S id (u_X8_register_59 U S N s0 s) (f_X8_register_59 N s0 (EC μ0 ro U S s)) := by
  unfold f_X8_register_59 u_X8_register_59
  exact im_ret rfl
def u_X8_register_72 (U S N : Nat) (s0 : Int32) (μ : CS) : Option (Int32 × CS) :=
  some (s0, μ)
theorem ue_u_X8_register_72 {μ0 : BM} {ro U S : Nat} (W : Wd μ0 ro U S) {N : Nat} (s0 : Int32) (s : CS) : IM μ0 ro U S id (u_X8_register_72 U S N s0 s) (f_X8_register_72 N s0 (EC μ0 ro U S s)) := by
  unfold f_X8_register_72 u_X8_register_72
  exact im_ret rfl
def u_X8_register (U S N : Nat) (a0 : Nat) (a1 : Int32) (μ : CS) : Option (Int32 × CS) :=
  if a1 = 0 then
    (vl U (μ.2.2.2.1 8 a0 2)).bind fun v1 =>
    if ¬ v1 = none then
      (vl U (μ.2.2.2.1 8 a0 2)).bind fun v2 =>
      (v2).bind fun j1 =>
      u_X8_register_46 U S N (μ.1 10 j1 0) μ
    else
      u_X8_register_46 U S N ((-1)) μ
  else
    if a1 = 1 then
      if (μ.1 8 a0 3) = 0 then
        u_X8_register_59 U S N 0 μ
      else
        u_X8_register_59 U S N 1 μ
    else
      if a1 = 2 then
        if (μ.1 8 a0 4) = 0 then
          u_X8_register_72 U S N 0 μ
        else
          u_X8_register_72 U S N 1 μ
      else
        some ((-1), μ)
theorem ue_u_X8_register {μ0 : BM} {ro U S : Nat} (W : Wd μ0 ro U S) {N : Nat} {a0 : Nat} {a0f : Option Nat} (ha0 : a0 < S) (ea0 : a0f = (adr μ0 ro U S (8, a0, 0))) (a1 : Int32) (s : CS) : IM μ0 ro U S id (u_X8_register U S N a0 a1 s) (f_X8_register N a0f a1 (EC μ0 ro U S s)) := by
  unfold f_X8_register u_X8_register
  refine im_if Iff.rfl (fun _ => ?_) (fun _ => ?_)
  · refine im_fD1 W (ik_8 ha0) (by decide) rfl ea0 fun v1 hv1 v1' ev1 => ?_
    refine im_if (not_congr (im_nn 10 W (by simp) hv1 ev1)) (fun _ => ?_) (fun _ => ?_)
    · refine im_fD1 W (ik_8 ha0) (by decide) rfl ea0 fun v2 hv2 v2' ev2 => ?_
      refine im_der (ci := 10) (hv2) (ev2) fun j1 hj1 ej1 => ?_
      refine im_fI W (ik_10 hj1) (by decide) rfl ej1 ?_
      exact ue_u_X8_register_46 W _ _
    · exact ue_u_X8_register_46 W _ _
  · refine im_if Iff.rfl (fun _ => ?_) (fun _ => ?_)
    · refine im_fI W (ik_8 ha0) (by decide) rfl ea0 ?_
      refine im_if Iff.rfl (fun _ => ?_) (fun _ => ?_)
      · exact ue_u_X8_register_59 W _ _
      · exact ue_u_X8_register_59 W _ _
    · refine im_if Iff.rfl (fun _ => ?_) (fun _ => ?_)
      · refine im_fI W (ik_8 ha0) (by decide) rfl ea0 ?_
        refine im_if Iff.rfl (fun _ => ?_) (fun _ => ?_)
        · exact ue_u_X8_register_72 W _ _
        · exact ue_u_X8_register_72 W _ _
      · exact im_ret rfl
def u_X11_slot_22 (U S N : Nat) (s0 : Int32) (μ : CS) : Option (Int32 × CS) :=
  some (s0, μ)
theorem ue_u_X11_slot_22 {μ0 : BM} {ro U S : Nat} (W : Wd μ0 ro U S) {N : Nat} (s0 : Int32) (s : CS) : IM μ0 ro U S id (u_X11_slot_22 U S N s0 s) (f_X11_slot_22 N s0 (EC μ0 ro U S s)) := by
  unfold f_X11_slot_22 u_X11_slot_22
  exact im_ret rfl
def u_X11_slot (U S N : Nat) (a1 : Int32) (a2 : Int32) (μ : CS) : Option (Int32 × CS) :=
  (u_X2_slotAt U S N a1 μ).bind fun q2 =>
  (vl S q2.1).bind fun _ =>
  if ¬ q2.1 = none then
    (q2.1).bind fun j1 =>
    (u_X8_register U S N j1 a2 q2.2).bind fun q4 =>
    u_X11_slot_22 U S N q4.1 q4.2
  else
    u_X11_slot_22 U S N ((-1)) q2.2
theorem ue_u_X11_slot {μ0 : BM} {ro U S : Nat} (W : Wd μ0 ro U S) {N : Nat} {a0f : Option Nat} (ea0 : a0f = (adr μ0 ro U S (11, 0, 0))) (a1 : Int32) (a2 : Int32) (s : CS) : IM μ0 ro U S id (u_X11_slot U S N a1 a2 s) (f_X11_slot N a0f a1 a2 (EC μ0 ro U S s)) := by
  unfold f_X11_slot u_X11_slot
  refine im_fR W (ik_11 U S) (by decide) rfl ea0 fun v1 ev1 => ?_
  refine im_ck W (ik_2 U S) ev1 fun b3 eb3 => ?_
  refine im_call (ue_u_X2_slotAt W eb3 _ _) fun q2 => ?_
  dsimp only [id]
  refine im_vl fun hq2 => ?_
  refine im_if (not_congr (im_nn 8 W (by simp) hq2 rfl)) (fun _ => ?_) (fun _ => ?_)
  · refine im_der (ci := 8) (hq2) (rfl) fun j1 hj1 ej1 => ?_
    refine im_ck W (ik_8 hj1) ej1 fun b5 eb5 => ?_
    refine im_call (ue_u_X8_register W hj1 eb5 _ _) fun q4 => ?_
    dsimp only [id]
    exact ue_u_X11_slot_22 W _ _
  · exact ue_u_X11_slot_22 W _ _
def u_X11_block_36 (U S N : Nat) (μ : CS) : Option (Int32 × CS) :=
  some ((-1), μ)
theorem ue_u_X11_block_36 {μ0 : BM} {ro U S : Nat} (W : Wd μ0 ro U S) {N : Nat} (s : CS) : IM μ0 ro U S id (u_X11_block_36 U S N s) (f_X11_block_36 N (EC μ0 ro U S s)) := by
  unfold f_X11_block_36 u_X11_block_36
  exact im_ret rfl
def u_X11_block (U S N : Nat) (a1 : Int32) (a2 : Int32) (a3 : Int32) (μ : CS) : Option (Int32 × CS) :=
  (u_X2_userAt U S N a1 μ).bind fun q2 =>
  (vl U q2.1).bind fun _ =>
  if q2.1 = none then
    u_X11_block_36 U S N q2.2
  else
    if a2 < 0 then
      u_X11_block_36 U S N q2.2
    else
      if (8 : Int32) ≤ a2 then
        u_X11_block_36 U S N q2.2
      else
        if a3 < 0 then
          u_X11_block_36 U S N q2.2
        else
          if a3 < (128 : Int32) then
            (q2.1).bind fun j1 =>
            (rH 1024 q2.2 10 j1 2 ((a2 * 128) + a3)).bind fun v5 =>
            some (v5, q2.2)
          else
            u_X11_block_36 U S N q2.2
theorem ue_u_X11_block {μ0 : BM} {ro U S : Nat} (W : Wd μ0 ro U S) {N : Nat} {a0f : Option Nat} (ea0 : a0f = (adr μ0 ro U S (11, 0, 0))) (a1 : Int32) (a2 : Int32) (a3 : Int32) (s : CS) : IM μ0 ro U S id (u_X11_block U S N a1 a2 a3 s) (f_X11_block N a0f a1 a2 a3 (EC μ0 ro U S s)) := by
  unfold f_X11_block u_X11_block
  refine im_fR W (ik_11 U S) (by decide) rfl ea0 fun v1 ev1 => ?_
  refine im_ck W (ik_2 U S) ev1 fun b3 eb3 => ?_
  refine im_call (ue_u_X2_userAt W eb3 _ _) fun q2 => ?_
  dsimp only [id]
  refine im_vl fun hq2 => ?_
  refine im_if (im_nn 10 W (by simp) hq2 rfl) (fun _ => ?_) (fun _ => ?_)
  · exact ue_u_X11_block_36 W _
  · refine im_if Iff.rfl (fun _ => ?_) (fun _ => ?_)
    · exact ue_u_X11_block_36 W _
    · refine im_if Iff.rfl (fun _ => ?_) (fun _ => ?_)
      · exact ue_u_X11_block_36 W _
      · refine im_if Iff.rfl (fun _ => ?_) (fun _ => ?_)
        · exact ue_u_X11_block_36 W _
        · refine im_if Iff.rfl (fun _ => ?_) (fun _ => ?_)
          · refine im_der (ci := 10) (hq2) (rfl) fun j1 hj1 ej1 => ?_
            refine im_fR W (ik_10 hj1) (by decide) rfl ej1 fun v4 ev4 => ?_
            refine im_aI (n := 1024) W (ia_10_3 hj1) rfl rfl ev4 _ fun v5 => ?_
            exact im_ret rfl
          · exact ue_u_X11_block_36 W _
def u_X10_letterOnPaper_29 (U S N : Nat) (s0 : Int32) (μ : CS) : Option (Int32 × CS) :=
  some (s0, μ)
theorem ue_u_X10_letterOnPaper_29 {μ0 : BM} {ro U S : Nat} (W : Wd μ0 ro U S) {N : Nat} (s0 : Int32) (s : CS) : IM μ0 ro U S id (u_X10_letterOnPaper_29 U S N s0 s) (f_X10_letterOnPaper_29 N s0 (EC μ0 ro U S s)) := by
  unfold f_X10_letterOnPaper_29 u_X10_letterOnPaper_29
  exact im_ret rfl
def u_X10_letterOnPaper_19 (U S N : Nat) (μ : CS) : Option (Int32 × CS) :=
  u_X10_letterOnPaper_29 U S N ((-1)) μ
theorem ue_u_X10_letterOnPaper_19 {μ0 : BM} {ro U S : Nat} (W : Wd μ0 ro U S) {N : Nat} (s : CS) : IM μ0 ro U S id (u_X10_letterOnPaper_19 U S N s) (f_X10_letterOnPaper_19 N (EC μ0 ro U S s)) := by
  unfold f_X10_letterOnPaper_19 u_X10_letterOnPaper_19
  exact ue_u_X10_letterOnPaper_29 W _ _
def u_X10_letterOnPaper (U S N : Nat) (a0 : Nat) (a1 : Int32) (μ : CS) : Option (Int32 × CS) :=
  if a1 < 0 then
    u_X10_letterOnPaper_19 U S N μ
  else
    if (μ.1 10 a0 6) ≤ a1 then
      u_X10_letterOnPaper_19 U S N μ
    else
      if a1 < (500 : Int32) then
        (rH 500 μ 10 a0 3 a1).bind fun v3 =>
        u_X10_letterOnPaper_29 U S N v3 μ
      else
        u_X10_letterOnPaper_19 U S N μ
theorem ue_u_X10_letterOnPaper {μ0 : BM} {ro U S : Nat} (W : Wd μ0 ro U S) {N : Nat} {a0 : Nat} {a0f : Option Nat} (ha0 : a0 < U) (ea0 : a0f = (adr μ0 ro U S (10, a0, 0))) (a1 : Int32) (s : CS) : IM μ0 ro U S id (u_X10_letterOnPaper U S N a0 a1 s) (f_X10_letterOnPaper N a0f a1 (EC μ0 ro U S s)) := by
  unfold f_X10_letterOnPaper u_X10_letterOnPaper
  refine im_if Iff.rfl (fun _ => ?_) (fun _ => ?_)
  · exact ue_u_X10_letterOnPaper_19 W _
  · refine im_fI W (ik_10 ha0) (by decide) rfl ea0 ?_
    refine im_if Iff.rfl (fun _ => ?_) (fun _ => ?_)
    · exact ue_u_X10_letterOnPaper_19 W _
    · refine im_if Iff.rfl (fun _ => ?_) (fun _ => ?_)
      · refine im_fR W (ik_10 ha0) (by decide) rfl ea0 fun v2 ev2 => ?_
        refine im_aI (n := 500) W (ia_10_4 ha0) rfl rfl ev2 _ fun v3 => ?_
        exact ue_u_X10_letterOnPaper_29 W _ _
      · exact ue_u_X10_letterOnPaper_19 W _
def u_X11_paper_22 (U S N : Nat) (s0 : Int32) (μ : CS) : Option (Int32 × CS) :=
  some (s0, μ)
theorem ue_u_X11_paper_22 {μ0 : BM} {ro U S : Nat} (W : Wd μ0 ro U S) {N : Nat} (s0 : Int32) (s : CS) : IM μ0 ro U S id (u_X11_paper_22 U S N s0 s) (f_X11_paper_22 N s0 (EC μ0 ro U S s)) := by
  unfold f_X11_paper_22 u_X11_paper_22
  exact im_ret rfl
def u_X11_paper (U S N : Nat) (a1 : Int32) (a2 : Int32) (μ : CS) : Option (Int32 × CS) :=
  (u_X2_userAt U S N a1 μ).bind fun q2 =>
  (vl U q2.1).bind fun _ =>
  if ¬ q2.1 = none then
    (q2.1).bind fun j1 =>
    (u_X10_letterOnPaper U S N j1 a2 q2.2).bind fun q4 =>
    u_X11_paper_22 U S N q4.1 q4.2
  else
    u_X11_paper_22 U S N ((-1)) q2.2
theorem ue_u_X11_paper {μ0 : BM} {ro U S : Nat} (W : Wd μ0 ro U S) {N : Nat} {a0f : Option Nat} (ea0 : a0f = (adr μ0 ro U S (11, 0, 0))) (a1 : Int32) (a2 : Int32) (s : CS) : IM μ0 ro U S id (u_X11_paper U S N a1 a2 s) (f_X11_paper N a0f a1 a2 (EC μ0 ro U S s)) := by
  unfold f_X11_paper u_X11_paper
  refine im_fR W (ik_11 U S) (by decide) rfl ea0 fun v1 ev1 => ?_
  refine im_ck W (ik_2 U S) ev1 fun b3 eb3 => ?_
  refine im_call (ue_u_X2_userAt W eb3 _ _) fun q2 => ?_
  dsimp only [id]
  refine im_vl fun hq2 => ?_
  refine im_if (not_congr (im_nn 10 W (by simp) hq2 rfl)) (fun _ => ?_) (fun _ => ?_)
  · refine im_der (ci := 10) (hq2) (rfl) fun j1 hj1 ej1 => ?_
    refine im_ck W (ik_10 hj1) ej1 fun b5 eb5 => ?_
    refine im_call (ue_u_X10_letterOnPaper W hj1 eb5 _ _) fun q4 => ?_
    dsimp only [id]
    exact ue_u_X11_paper_22 W _ _
  · exact ue_u_X11_paper_22 W _ _
