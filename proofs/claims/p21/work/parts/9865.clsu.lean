/-! LAYER 2, ShareEight over its typed state, further (by program) -/
def u_X2_lookForTask (U S N : Nat) (μ : CS) : Option (Unit × CS) :=
  if (μ.1 1 0 4) = 0 then
    (u_X2_serveBlocks U S N μ).bind fun q3 =>
    if ¬ q3.1 = 0 then
      u_X2_lookForTask_37 U S N q3.2
    else
      (u_X2_serveQueue U S N q3.2).bind fun q5 =>
      u_X2_lookForTask_37 U S N q5.2
  else
    (u_X2_serveQueue U S N μ).bind fun q7 =>
    if ¬ q7.1 = 0 then
      u_X2_lookForTask_37 U S N q7.2
    else
      (u_X2_serveBlocks U S N q7.2).bind fun q9 =>
      u_X2_lookForTask_37 U S N q9.2
theorem ue_u_X2_lookForTask {μ0 : BM} {ro U S : Nat} (W : Wd μ0 ro U S) {N : Nat} {a0f : Option Nat} (ea0 : a0f = (adr μ0 ro U S (2, 0, 0))) (s : CS) : IM μ0 ro U S id (u_X2_lookForTask U S N s) (f_X2_lookForTask N a0f (EC μ0 ro U S s)) := by
  unfold f_X2_lookForTask u_X2_lookForTask
  refine im_fR W (ik_2 U S) (by decide) rfl ea0 fun v1 ev1 => ?_
  refine im_fI W (ik_1 U S) (by decide) rfl ev1 ?_
  refine im_if Iff.rfl (fun _ => ?_) (fun _ => ?_)
  · refine im_ck W (ik_2 U S) ea0 fun b4 eb4 => ?_
    refine im_call (ue_u_X2_serveBlocks W eb4 _) fun q3 => ?_
    dsimp only [id]
    refine im_if Iff.rfl (fun _ => ?_) (fun _ => ?_)
    · exact ue_u_X2_lookForTask_37 W _
    · refine im_ck W (ik_2 U S) ea0 fun b6 eb6 => ?_
      refine im_call (ue_u_X2_serveQueue W eb6 _) fun q5 => ?_
      dsimp only [id]
      exact ue_u_X2_lookForTask_37 W _
  · refine im_ck W (ik_2 U S) ea0 fun b8 eb8 => ?_
    refine im_call (ue_u_X2_serveQueue W eb8 _) fun q7 => ?_
    dsimp only [id]
    refine im_if Iff.rfl (fun _ => ?_) (fun _ => ?_)
    · exact ue_u_X2_lookForTask_37 W _
    · refine im_ck W (ik_2 U S) ea0 fun b10 eb10 => ?_
      refine im_call (ue_u_X2_serveBlocks W eb10 _) fun q9 => ?_
      dsimp only [id]
      exact ue_u_X2_lookForTask_37 W _
def u_X1_isTakingOut_21 (U S N : Nat) (s0 : Int32) (μ : CS) : Option (Int32 × CS) :=
  cZ s0 μ
theorem ue_u_X1_isTakingOut_21 {μ0 : BM} {ro U S : Nat} (W : Wd μ0 ro U S) {N : Nat} (s0 : Int32) (s : CS) : IM μ0 ro U S id (u_X1_isTakingOut_21 U S N s0 s) (f_X1_isTakingOut_21 N s0 (EC μ0 ro U S s)) := by
  unfold f_X1_isTakingOut_21 u_X1_isTakingOut_21
  exact im_rZ _ _
def u_X1_isTakingOut_20 (U S N : Nat) (μ : CS) : Option (Int32 × CS) :=
  u_X1_isTakingOut_21 U S N 0 μ
theorem ue_u_X1_isTakingOut_20 {μ0 : BM} {ro U S : Nat} (W : Wd μ0 ro U S) {N : Nat} (s : CS) : IM μ0 ro U S id (u_X1_isTakingOut_20 U S N s) (f_X1_isTakingOut_20 N (EC μ0 ro U S s)) := by
  unfold f_X1_isTakingOut_20 u_X1_isTakingOut_20
  exact ue_u_X1_isTakingOut_21 W _ _
def u_X1_isTakingOut (U S N : Nat) (a1 : Option Nat) (μ : CS) : Option (Int32 × CS) :=
  if ¬ (μ.1 1 0 0) = (1 : Int32) then
    u_X1_isTakingOut_20 U S N μ
  else
    (vl U (μ.2.2.2.1 1 0 1)).bind fun v2 =>
    if ¬ v2 = a1 then
      u_X1_isTakingOut_20 U S N μ
    else
      u_X1_isTakingOut_21 U S N 1 μ
theorem ue_u_X1_isTakingOut {μ0 : BM} {ro U S : Nat} (W : Wd μ0 ro U S) {N : Nat} {a0f : Option Nat} (ea0 : a0f = (adr μ0 ro U S (1, 0, 0))) {a1 : Option Nat} {a1f : Option Nat} (ha1 : vd U a1) (ea1 : a1f = (Option.bind a1 fun b => adr μ0 ro U S (10, b, 0))) (s : CS) : IM μ0 ro U S id (u_X1_isTakingOut U S N a1 s) (f_X1_isTakingOut N a0f a1f (EC μ0 ro U S s)) := by
  unfold f_X1_isTakingOut u_X1_isTakingOut
  refine im_fI W (ik_1 U S) (by decide) rfl ea0 ?_
  refine im_if Iff.rfl (fun _ => ?_) (fun _ => ?_)
  · exact ue_u_X1_isTakingOut_20 W _
  · refine im_fD1 W (ik_1 U S) (by decide) rfl ea0 fun v2 hv2 v2' ev2 => ?_
    refine im_if (not_congr (im_eq 10 W (by simp) hv2 ev2 ha1 ea1)) (fun _ => ?_) (fun _ => ?_)
    · exact ue_u_X1_isTakingOut_20 W _
    · exact ue_u_X1_isTakingOut_21 W _ _
def u_X2_chooseRunning_66 (U S N : Nat) (k2 : Int32 → CS → Option (Unit × CS)) (a1 : Int32) (μ : CS) : Option (Unit × CS) :=
  k2 (a1 + 1) μ
theorem ue_u_X2_chooseRunning_66 {μ0 : BM} {ro U S : Nat} (W : Wd μ0 ro U S) {N : Nat} {k2 : (Option Nat) → Int32 → Mem → Option (Unit × Mem)} {k2' : Int32 → CS → Option (Unit × CS)} (hk2 : ∀ {ya0f : Option Nat} (eya0 : ya0f = (adr μ0 ro U S (2, 0, 0))) (ya1 : Int32) (s : CS), IM μ0 ro U S id (k2' ya1 s) (k2 ya0f ya1 (EC μ0 ro U S s))) {a0f : Option Nat} (ea0 : a0f = (adr μ0 ro U S (2, 0, 0))) (a1 : Int32) (s : CS) : IM μ0 ro U S id (u_X2_chooseRunning_66 U S N k2' a1 s) (f_X2_chooseRunning_66 N k2 a0f a1 (EC μ0 ro U S s)) := by
  unfold f_X2_chooseRunning_66 u_X2_chooseRunning_66
  exact hk2 ea0 _ _
def uh_X2_chooseRunning_2 (U S N : Nat) (k2 : Int32 → CS → Option (Unit × CS)) (a1 : Int32) (μ : CS) : Option (Unit × CS) :=
  if (μ.1 5 0 1) ≤ a1 then
    some ((), μ)
  else
    (u_X5_at U S N a1 μ).bind fun q4 =>
    (vl U q4.1).bind fun _ =>
    if q4.1 = none then
      u_X2_chooseRunning_66 U S N k2 a1 q4.2
    else
      (q4.1).bind fun j1 =>
      (vl S (q4.2.2.2.2.1 10 j1 19)).bind fun v6 =>
      if v6 = none then
        u_X2_chooseRunning_66 U S N k2 a1 q4.2
      else
        (u_X1_isTakingOut U S N q4.1 q4.2).bind fun q8 =>
        if ¬ q8.1 = 0 then
          u_X2_chooseRunning_66 U S N k2 a1 q8.2
        else
          (u_X5_remove U S N q4.1 q8.2).bind fun q11 =>
          (some (qR q11.2 2 0 8 q4.1)).bind fun μ13 =>
          (some (qI μ13 2 0 9 (μ13.1 2 0 5))).bind fun μ15 =>
          some ((), μ15)
theorem ue_uh_X2_chooseRunning_2 {μ0 : BM} {ro U S : Nat} (W : Wd μ0 ro U S) {N : Nat} {k2 : (Option Nat) → Int32 → Mem → Option (Unit × Mem)} {k2' : Int32 → CS → Option (Unit × CS)} (hk2 : ∀ {ya0f : Option Nat} (eya0 : ya0f = (adr μ0 ro U S (2, 0, 0))) (ya1 : Int32) (s : CS), IM μ0 ro U S id (k2' ya1 s) (k2 ya0f ya1 (EC μ0 ro U S s))) {a0f : Option Nat} (ea0 : a0f = (adr μ0 ro U S (2, 0, 0))) (a1 : Int32) (s : CS) : IM μ0 ro U S id (uh_X2_chooseRunning_2 U S N k2' a1 s) (H_X2_chooseRunning_2 N k2 a0f a1 (EC μ0 ro U S s)) := by
  unfold H_X2_chooseRunning_2 uh_X2_chooseRunning_2
  refine im_fR W (ik_2 U S) (by decide) rfl ea0 fun v1 ev1 => ?_
  refine im_fI W (ik_5 U S) (by decide) rfl ev1 ?_
  refine im_if Iff.rfl (fun _ => ?_) (fun _ => ?_)
  · exact im_ret rfl
  · refine im_fR W (ik_2 U S) (by decide) rfl ea0 fun v3 ev3 => ?_
    refine im_ck W (ik_5 U S) ev3 fun b5 eb5 => ?_
    refine im_call (ue_u_X5_at W eb5 _ _) fun q4 => ?_
    dsimp only [id]
    refine im_vl fun hq4 => ?_
    refine im_if (im_nn 10 W (by simp) hq4 rfl) (fun _ => ?_) (fun _ => ?_)
    · exact ue_u_X2_chooseRunning_66 W hk2 ea0 _ _
    · refine im_der (ci := 10) (hq4) (rfl) fun j1 hj1 ej1 => ?_
      refine im_fD2 W (ik_10 hj1) (by decide) rfl ej1 fun v6 hv6 v6' ev6 => ?_
      refine im_if (im_nn 8 W (by simp) hv6 ev6) (fun _ => ?_) (fun _ => ?_)
      · exact ue_u_X2_chooseRunning_66 W hk2 ea0 _ _
      · refine im_fR W (ik_2 U S) (by decide) rfl ea0 fun v7 ev7 => ?_
        refine im_ck W (ik_1 U S) ev7 fun b9 eb9 => ?_
        refine im_call (ue_u_X1_isTakingOut W eb9 hq4 rfl _) fun q8 => ?_
        dsimp only [id]
        refine im_if Iff.rfl (fun _ => ?_) (fun _ => ?_)
        · exact ue_u_X2_chooseRunning_66 W hk2 ea0 _ _
        · refine im_fR W (ik_2 U S) (by decide) rfl ea0 fun v10 ev10 => ?_
          refine im_ck W (ik_5 U S) ev10 fun b12 eb12 => ?_
          refine im_call (ue_u_X5_remove W eb12 hq4 rfl _) fun q11 => ?_
          dsimp only [id]
          refine im_pR1 W (ik_2 U S) (by decide) rfl ea0 (hq4) (rfl) ?_
          refine im_fI W (ik_2 U S) (by decide) rfl ea0 ?_
          refine im_pI W (ik_2 U S) (by decide) rfl ea0 _ ?_
          exact im_ret rfl
def ul_X2_chooseRunning_2 (U S N : Nat)  : Nat → Int32 → CS → Option (Unit × CS)
  | 0 => fun _ _ => none
  | n + 1 => uh_X2_chooseRunning_2 U S N (ul_X2_chooseRunning_2 U S N n)
theorem ue_ul_X2_chooseRunning_2 {μ0 : BM} {ro U S : Nat} (W : Wd μ0 ro U S) {N : Nat} : ∀ (n : Nat) {a0f : Option Nat} (ea0 : a0f = (adr μ0 ro U S (2, 0, 0))) (a1 : Int32) (s : CS), IM μ0 ro U S id (ul_X2_chooseRunning_2 U S N n a1 s) (L_X2_chooseRunning_2 N n a0f a1 (EC μ0 ro U S s)) := by
  intro n
  induction n with
  | zero => intros; exact im_none
  | succ n ih => intro a0f ea0 a1 s; exact ue_uh_X2_chooseRunning_2 W ih ea0 _ _
def u_X2_chooseRunning (U S N : Nat) (μ : CS) : Option (Unit × CS) :=
  ul_X2_chooseRunning_2 U S N N 0 μ
theorem ue_u_X2_chooseRunning {μ0 : BM} {ro U S : Nat} (W : Wd μ0 ro U S) {N : Nat} {a0f : Option Nat} (ea0 : a0f = (adr μ0 ro U S (2, 0, 0))) (s : CS) : IM μ0 ro U S id (u_X2_chooseRunning U S N s) (f_X2_chooseRunning N a0f (EC μ0 ro U S s)) := by
  unfold f_X2_chooseRunning u_X2_chooseRunning
  exact ue_ul_X2_chooseRunning_2 W N ea0 _ _
def u_X3_addressOf_63 (U S N : Nat) (a1 : Option Nat) (a3 : Int32) (μ : CS) : Option (Int32 × CS) :=
  (a1).bind fun j1 =>
  (rH 4096 μ 8 j1 1 a3).bind fun v2 =>
  some (v2 &&& 4095, μ)
theorem ue_u_X3_addressOf_63 {μ0 : BM} {ro U S : Nat} (W : Wd μ0 ro U S) {N : Nat} {a1 : Option Nat} {a1f : Option Nat} (ha1 : vd S a1) (ea1 : a1f = (Option.bind a1 fun b => adr μ0 ro U S (8, b, 0))) (a3 : Int32) (s : CS) : IM μ0 ro U S id (u_X3_addressOf_63 U S N a1 a3 s) (f_X3_addressOf_63 N a1f a3 (EC μ0 ro U S s)) := by
  unfold f_X3_addressOf_63 u_X3_addressOf_63
  refine im_der (ci := 8) (ha1) (ea1) fun j1 hj1 ej1 => ?_
  refine im_fR W (ik_8 hj1) (by decide) rfl ej1 fun v1 ev1 => ?_
  refine im_aI (n := 4096) W (ia_8_2 hj1) rfl rfl ev1 _ fun v2 => ?_
  exact im_ret rfl
def u_X3_addressOf_24 (U S N : Nat) (a1 : Option Nat) (a2 : Int32) (a3 : Int32) (μ : CS) : Option (Int32 × CS) :=
  if ¬ (a2 &&& 256) = 0 then
    if a3 < (8 : Int32) then
      u_X3_addressOf_63 U S N a1 a3 μ
    else
      if (15 : Int32) < a3 then
        u_X3_addressOf_63 U S N a1 a3 μ
      else
        (a1).bind fun j1 =>
        (rH 4096 μ 8 j1 1 a3).bind fun v2 =>
        (u_X8_put U S N j1 a3 ((v2 + 1) &&& 4095) μ).bind fun q3 =>
        u_X3_addressOf_63 U S N a1 a3 q3.2
  else
    some (a3, μ)
theorem ue_u_X3_addressOf_24 {μ0 : BM} {ro U S : Nat} (W : Wd μ0 ro U S) {N : Nat} {a1 : Option Nat} {a1f : Option Nat} (ha1 : vd S a1) (ea1 : a1f = (Option.bind a1 fun b => adr μ0 ro U S (8, b, 0))) (a2 : Int32) (a3 : Int32) (s : CS) : IM μ0 ro U S id (u_X3_addressOf_24 U S N a1 a2 a3 s) (f_X3_addressOf_24 N a1f a2 a3 (EC μ0 ro U S s)) := by
  unfold f_X3_addressOf_24 u_X3_addressOf_24
  refine im_if Iff.rfl (fun _ => ?_) (fun _ => ?_)
  · refine im_if Iff.rfl (fun _ => ?_) (fun _ => ?_)
    · exact ue_u_X3_addressOf_63 W ha1 ea1 _ _
    · refine im_if Iff.rfl (fun _ => ?_) (fun _ => ?_)
      · exact ue_u_X3_addressOf_63 W ha1 ea1 _ _
      · refine im_der (ci := 8) (ha1) (ea1) fun j1 hj1 ej1 => ?_
        refine im_fR W (ik_8 hj1) (by decide) rfl ej1 fun v1 ev1 => ?_
        refine im_aI (n := 4096) W (ia_8_2 hj1) rfl rfl ev1 _ fun v2 => ?_
        refine im_ck W (ik_8 hj1) ej1 fun b4 eb4 => ?_
        refine im_call (ue_u_X8_put W hj1 eb4 _ _ _) fun q3 => ?_
        dsimp only [id]
        exact ue_u_X3_addressOf_63 W ha1 ea1 _ _
  · exact im_ret rfl
def u_X3_addressOf (U S N : Nat) (a1 : Option Nat) (a2 : Int32) (μ : CS) : Option (Int32 × CS) :=
  if (a2 &&& 128) = 0 then
    u_X3_addressOf_24 U S N a1 a2 (a2 &&& 127) μ
  else
    u_X3_addressOf_24 U S N a1 a2 ((a2 &&& 127) ||| ((μ.1 3 0 1) &&& 3968)) μ
theorem ue_u_X3_addressOf {μ0 : BM} {ro U S : Nat} (W : Wd μ0 ro U S) {N : Nat} {a0f : Option Nat} (ea0 : a0f = (adr μ0 ro U S (3, 0, 0))) {a1 : Option Nat} {a1f : Option Nat} (ha1 : vd S a1) (ea1 : a1f = (Option.bind a1 fun b => adr μ0 ro U S (8, b, 0))) (a2 : Int32) (s : CS) : IM μ0 ro U S id (u_X3_addressOf U S N a1 a2 s) (f_X3_addressOf N a0f a1f a2 (EC μ0 ro U S s)) := by
  unfold f_X3_addressOf u_X3_addressOf
  refine im_if Iff.rfl (fun _ => ?_) (fun _ => ?_)
  · exact ue_u_X3_addressOf_24 W ha1 ea1 _ _ _
  · refine im_fI W (ik_3 U S) (by decide) rfl ea0 ?_
    exact ue_u_X3_addressOf_24 W ha1 ea1 _ _ _
def u_X3_skipIf_18 (U S N : Nat) (μ : CS) : Option (Unit × CS) :=
  some ((), μ)
theorem ue_u_X3_skipIf_18 {μ0 : BM} {ro U S : Nat} (W : Wd μ0 ro U S) {N : Nat} (s : CS) : IM μ0 ro U S id (u_X3_skipIf_18 U S N s) (f_X3_skipIf_18 N (EC μ0 ro U S s)) := by
  unfold f_X3_skipIf_18 u_X3_skipIf_18
  exact im_ret rfl
def u_X3_skipIf (U S N : Nat) (a0 : Option Nat) (a1 : Int32) (μ : CS) : Option (Unit × CS) :=
  if a1 = 0 then
    u_X3_skipIf_18 U S N μ
  else
    (a0).bind fun j1 =>
    (some (qI μ 10 j1 9 (((μ.1 10 j1 9) + 1) &&& 4095))).bind fun μ2 =>
    u_X3_skipIf_18 U S N μ2
theorem ue_u_X3_skipIf {μ0 : BM} {ro U S : Nat} (W : Wd μ0 ro U S) {N : Nat} {a0 : Option Nat} {a0f : Option Nat} (ha0 : vd U a0) (ea0 : a0f = (Option.bind a0 fun b => adr μ0 ro U S (10, b, 0))) (a1 : Int32) (s : CS) : IM μ0 ro U S id (u_X3_skipIf U S N a0 a1 s) (f_X3_skipIf N a0f a1 (EC μ0 ro U S s)) := by
  unfold f_X3_skipIf u_X3_skipIf
  refine im_if Iff.rfl (fun _ => ?_) (fun _ => ?_)
  · exact ue_u_X3_skipIf_18 W _
  · refine im_der (ci := 10) (ha0) (ea0) fun j1 hj1 ej1 => ?_
    refine im_fI W (ik_10 hj1) (by decide) rfl ej1 ?_
    refine im_pI W (ik_10 hj1) (by decide) rfl ej1 _ ?_
    exact ue_u_X3_skipIf_18 W _
def u_X3_refer_193 (U S N : Nat) (μ : CS) : Option (Unit × CS) :=
  some ((), μ)
theorem ue_u_X3_refer_193 {μ0 : BM} {ro U S : Nat} (W : Wd μ0 ro U S) {N : Nat} (s : CS) : IM μ0 ro U S id (u_X3_refer_193 U S N s) (f_X3_refer_193 N (EC μ0 ro U S s)) := by
  unfold f_X3_refer_193 u_X3_refer_193
  exact im_ret rfl
def u_X3_refer_138 (U S N : Nat) (s0 : Option Nat) (s1 : Int32) (μ : CS) : Option (Unit × CS) :=
  (u_X3_skipIf U S N s0 s1 μ).bind fun q1 =>
  u_X3_refer_193 U S N q1.2
theorem ue_u_X3_refer_138 {μ0 : BM} {ro U S : Nat} (W : Wd μ0 ro U S) {N : Nat} {s0 : Option Nat} {s0f : Option Nat} (hs0 : vd U s0) (es0 : s0f = (Option.bind s0 fun b => adr μ0 ro U S (10, b, 0))) (s1 : Int32) (s : CS) : IM μ0 ro U S id (u_X3_refer_138 U S N s0 s1 s) (f_X3_refer_138 N s0f s1 (EC μ0 ro U S s)) := by
  unfold f_X3_refer_138 u_X3_refer_138
  refine im_call (ue_u_X3_skipIf W hs0 es0 _ _) fun q1 => ?_
  dsimp only [id]
  exact ue_u_X3_refer_193 W _
def u_X3_refer (U S N : Nat) (a1 : Option Nat) (a2 : Option Nat) (a3 : Int32) (a4 : Int32) (μ : CS) : Option (Unit × CS) :=
  (u_X3_addressOf U S N a2 a4 μ).bind fun q1 =>
  if a3 = 0 then
    (a1).bind fun j1 =>
    (a2).bind fun j2 =>
    (rH 4096 q1.2 8 j2 1 q1.1).bind fun v5 =>
    (some (qI q1.2 10 j1 10 ((q1.2.1 10 j1 10) &&& v5))).bind fun μ6 =>
    u_X3_refer_193 U S N μ6
  else
    if a3 = 1 then
      (a1).bind fun j3 =>
      (a2).bind fun j4 =>
      (rH 4096 q1.2 8 j4 1 q1.1).bind fun v9 =>
      (some (qI q1.2 10 j3 10 (((q1.2.1 10 j3 10) + v9) &&& 4095))).bind fun μ10 =>
      (some (qI μ10 10 j3 11 ((μ10.1 10 j3 11) ^^^ (((q1.2.1 10 j3 10) + v9) >>> ((12 : Int32) &&& 31))))).bind fun μ12 =>
      u_X3_refer_193 U S N μ12
    else
      if a3 = 2 then
        (a2).bind fun j5 =>
        (rH 4096 q1.2 8 j5 1 q1.1).bind fun v14 =>
        (u_X8_put U S N j5 q1.1 ((v14 + 1) &&& 4095) q1.2).bind fun q15 =>
        if ¬ ((v14 + 1) &&& 4095) = 0 then
          u_X3_refer_138 U S N a1 0 q15.2
        else
          u_X3_refer_138 U S N a1 1 q15.2
      else
        if a3 = 3 then
          (a1).bind fun j6 =>
          (a2).bind fun j7 =>
          (u_X8_put U S N j7 q1.1 (q1.2.1 10 j6 10) q1.2).bind fun q18 =>
          (some (qI q18.2 10 j6 10 0)).bind fun μ20 =>
          u_X3_refer_193 U S N μ20
        else
          if a3 = 4 then
            (a1).bind fun j8 =>
            (a2).bind fun j9 =>
            (u_X8_put U S N j9 q1.1 (q1.2.1 10 j8 9) q1.2).bind fun q22 =>
            (some (qI q22.2 10 j8 9 ((q1.1 + 1) &&& 4095))).bind fun μ24 =>
            u_X3_refer_193 U S N μ24
          else
            (a1).bind fun j10 =>
            (some (qI q1.2 10 j10 9 q1.1)).bind fun μ25 =>
            u_X3_refer_193 U S N μ25
theorem ue_u_X3_refer {μ0 : BM} {ro U S : Nat} (W : Wd μ0 ro U S) {N : Nat} {a0f : Option Nat} (ea0 : a0f = (adr μ0 ro U S (3, 0, 0))) {a1 : Option Nat} {a1f : Option Nat} (ha1 : vd U a1) (ea1 : a1f = (Option.bind a1 fun b => adr μ0 ro U S (10, b, 0))) {a2 : Option Nat} {a2f : Option Nat} (ha2 : vd S a2) (ea2 : a2f = (Option.bind a2 fun b => adr μ0 ro U S (8, b, 0))) (a3 : Int32) (a4 : Int32) (s : CS) : IM μ0 ro U S id (u_X3_refer U S N a1 a2 a3 a4 s) (f_X3_refer N a0f a1f a2f a3 a4 (EC μ0 ro U S s)) := by
  unfold f_X3_refer u_X3_refer
  refine im_ck W (ik_3 U S) ea0 fun b2 eb2 => ?_
  refine im_call (ue_u_X3_addressOf W eb2 ha2 ea2 _ _) fun q1 => ?_
  dsimp only [id]
  refine im_if Iff.rfl (fun _ => ?_) (fun _ => ?_)
  · refine im_der (ci := 10) (ha1) (ea1) fun j1 hj1 ej1 => ?_
    refine im_fI W (ik_10 hj1) (by decide) rfl ej1 ?_
    refine im_der (ci := 8) (ha2) (ea2) fun j2 hj2 ej2 => ?_
    refine im_fR W (ik_8 hj2) (by decide) rfl ej2 fun v4 ev4 => ?_
    refine im_aI (n := 4096) W (ia_8_2 hj2) rfl rfl ev4 _ fun v5 => ?_
    refine im_pI W (ik_10 hj1) (by decide) rfl ej1 _ ?_
    exact ue_u_X3_refer_193 W _
  · refine im_if Iff.rfl (fun _ => ?_) (fun _ => ?_)
    · refine im_der (ci := 10) (ha1) (ea1) fun j3 hj3 ej3 => ?_
      refine im_fI W (ik_10 hj3) (by decide) rfl ej3 ?_
      refine im_der (ci := 8) (ha2) (ea2) fun j4 hj4 ej4 => ?_
      refine im_fR W (ik_8 hj4) (by decide) rfl ej4 fun v8 ev8 => ?_
      refine im_aI (n := 4096) W (ia_8_2 hj4) rfl rfl ev8 _ fun v9 => ?_
      refine im_pI W (ik_10 hj3) (by decide) rfl ej3 _ ?_
      refine im_fI W (ik_10 hj3) (by decide) rfl ej3 ?_
      refine im_pI W (ik_10 hj3) (by decide) rfl ej3 _ ?_
      exact ue_u_X3_refer_193 W _
    · refine im_if Iff.rfl (fun _ => ?_) (fun _ => ?_)
      · refine im_der (ci := 8) (ha2) (ea2) fun j5 hj5 ej5 => ?_
        refine im_fR W (ik_8 hj5) (by decide) rfl ej5 fun v13 ev13 => ?_
        refine im_aI (n := 4096) W (ia_8_2 hj5) rfl rfl ev13 _ fun v14 => ?_
        refine im_ck W (ik_8 hj5) ej5 fun b16 eb16 => ?_
        refine im_call (ue_u_X8_put W hj5 eb16 _ _ _) fun q15 => ?_
        dsimp only [id]
        refine im_if Iff.rfl (fun _ => ?_) (fun _ => ?_)
        · exact ue_u_X3_refer_138 W ha1 ea1 _ _
        · exact ue_u_X3_refer_138 W ha1 ea1 _ _
      · refine im_if Iff.rfl (fun _ => ?_) (fun _ => ?_)
        · refine im_der (ci := 10) (ha1) (ea1) fun j6 hj6 ej6 => ?_
          refine im_fI W (ik_10 hj6) (by decide) rfl ej6 ?_
          refine im_der (ci := 8) (ha2) (ea2) fun j7 hj7 ej7 => ?_
          refine im_ck W (ik_8 hj7) ej7 fun b19 eb19 => ?_
          refine im_call (ue_u_X8_put W hj7 eb19 _ _ _) fun q18 => ?_
          dsimp only [id]
          refine im_pI W (ik_10 hj6) (by decide) rfl ej6 _ ?_
          exact ue_u_X3_refer_193 W _
        · refine im_if Iff.rfl (fun _ => ?_) (fun _ => ?_)
          · refine im_der (ci := 10) (ha1) (ea1) fun j8 hj8 ej8 => ?_
            refine im_fI W (ik_10 hj8) (by decide) rfl ej8 ?_
            refine im_der (ci := 8) (ha2) (ea2) fun j9 hj9 ej9 => ?_
            refine im_ck W (ik_8 hj9) ej9 fun b23 eb23 => ?_
            refine im_call (ue_u_X8_put W hj9 eb23 _ _ _) fun q22 => ?_
            dsimp only [id]
            refine im_pI W (ik_10 hj8) (by decide) rfl ej8 _ ?_
            exact ue_u_X3_refer_193 W _
          · refine im_der (ci := 10) (ha1) (ea1) fun j10 hj10 ej10 => ?_
            refine im_pI W (ik_10 hj10) (by decide) rfl ej10 _ ?_
            exact ue_u_X3_refer_193 W _
def u_X3_waitFor (U S N : Nat) (a1 : Option Nat) (a2 : Int32) (μ : CS) : Option (Int32 × CS) :=
  (a1).bind fun j1 =>
  (some (qI μ 10 j1 9 (μ.1 3 0 1))).bind fun μ2 =>
  (some (qI μ2 10 j1 8 a2)).bind fun μ3 =>
  cZ 0 μ3
theorem ue_u_X3_waitFor {μ0 : BM} {ro U S : Nat} (W : Wd μ0 ro U S) {N : Nat} {a0f : Option Nat} (ea0 : a0f = (adr μ0 ro U S (3, 0, 0))) {a1 : Option Nat} {a1f : Option Nat} (ha1 : vd U a1) (ea1 : a1f = (Option.bind a1 fun b => adr μ0 ro U S (10, b, 0))) (a2 : Int32) (s : CS) : IM μ0 ro U S id (u_X3_waitFor U S N a1 a2 s) (f_X3_waitFor N a0f a1f a2 (EC μ0 ro U S s)) := by
  unfold f_X3_waitFor u_X3_waitFor
  refine im_fI W (ik_3 U S) (by decide) rfl ea0 ?_
  refine im_der (ci := 10) (ha1) (ea1) fun j1 hj1 ej1 => ?_
  refine im_pI W (ik_10 hj1) (by decide) rfl ej1 _ ?_
  refine im_pI W (ik_10 hj1) (by decide) rfl ej1 _ ?_
  exact im_rZ _ _
def u_X3_readKey_58 (U S N : Nat) (μ : CS) : Option (Int32 × CS) :=
  cZ 1 μ
theorem ue_u_X3_readKey_58 {μ0 : BM} {ro U S : Nat} (W : Wd μ0 ro U S) {N : Nat} (s : CS) : IM μ0 ro U S id (u_X3_readKey_58 U S N s) (f_X3_readKey_58 N (EC μ0 ro U S s)) := by
  unfold f_X3_readKey_58 u_X3_readKey_58
  exact im_rZ _ _
def u_X3_readKey (U S N : Nat) (a1 : Option Nat) (a2 : Int32) (μ : CS) : Option (Int32 × CS) :=
  (a1).bind fun j1 =>
  (u_X6_isEmpty U S N (2 * j1) μ).bind fun q2 =>
  if q2.1 = 0 then
    (u_X6_head U S N (2 * j1) q2.2).bind fun q5 =>
    if a2 = 0 then
      (some (qI q5.2 10 j1 10 ((q5.2.1 10 j1 10) ||| (q5.1 ||| 128)))).bind fun μ8 =>
      u_X3_readKey_58 U S N μ8
    else
      (some (qI q5.2 10 j1 10 (q5.1 ||| 128))).bind fun μ9 =>
      (u_X6_drop U S N (2 * j1) μ9).bind fun q11 =>
      u_X3_readKey_58 U S N q11.2
  else
    (u_X3_waitFor U S N a1 2 q2.2).bind fun q13 =>
    cZ q13.1 q13.2
theorem ue_u_X3_readKey {μ0 : BM} {ro U S : Nat} (W : Wd μ0 ro U S) {N : Nat} {a0f : Option Nat} (ea0 : a0f = (adr μ0 ro U S (3, 0, 0))) {a1 : Option Nat} {a1f : Option Nat} (ha1 : vd U a1) (ea1 : a1f = (Option.bind a1 fun b => adr μ0 ro U S (10, b, 0))) (a2 : Int32) (s : CS) : IM μ0 ro U S id (u_X3_readKey U S N a1 a2 s) (f_X3_readKey N a0f a1f a2 (EC μ0 ro U S s)) := by
  unfold f_X3_readKey u_X3_readKey
  refine im_der (ci := 10) (ha1) (ea1) fun j1 hj1 ej1 => ?_
  refine im_fR W (ik_10 hj1) (by decide) rfl ej1 fun v1 ev1 => ?_
  refine im_ck W (ik_6 (two0 hj1)) ev1 fun b3 eb3 => ?_
  refine im_call (ue_u_X6_isEmpty W (two0 hj1) eb3 _) fun q2 => ?_
  dsimp only [id]
  refine im_if Iff.rfl (fun _ => ?_) (fun _ => ?_)
  · refine im_fR W (ik_10 hj1) (by decide) rfl ej1 fun v4 ev4 => ?_
    refine im_ck W (ik_6 (two0 hj1)) ev4 fun b6 eb6 => ?_
    refine im_call (ue_u_X6_head W (two0 hj1) eb6 _) fun q5 => ?_
    dsimp only [id]
    refine im_if Iff.rfl (fun _ => ?_) (fun _ => ?_)
    · refine im_fI W (ik_10 hj1) (by decide) rfl ej1 ?_
      refine im_pI W (ik_10 hj1) (by decide) rfl ej1 _ ?_
      exact ue_u_X3_readKey_58 W _
    · refine im_pI W (ik_10 hj1) (by decide) rfl ej1 _ ?_
      refine im_fR W (ik_10 hj1) (by decide) rfl ej1 fun v10 ev10 => ?_
      refine im_ck W (ik_6 (two0 hj1)) ev10 fun b12 eb12 => ?_
      refine im_call (ue_u_X6_drop W (two0 hj1) eb12 _) fun q11 => ?_
      dsimp only [id]
      exact ue_u_X3_readKey_58 W _
  · refine im_ck W (ik_3 U S) ea0 fun b14 eb14 => ?_
    refine im_call (ue_u_X3_waitFor W eb14 ha1 ea1 _ _) fun q13 => ?_
    dsimp only [id]
    exact im_rZ _ _
def u_X3_sendLetter (U S N : Nat) (a1 : Option Nat) (μ : CS) : Option (Int32 × CS) :=
  (a1).bind fun j1 =>
  (u_X6_isFull U S N (2 * j1 + 1) μ).bind fun q2 =>
  if q2.1 = 0 then
    (u_X6_append U S N (2 * j1 + 1) ((q2.2.1 10 j1 10) &&& 127) q2.2).bind fun q6 =>
    cZ 1 q6.2
  else
    (u_X3_waitFor U S N a1 3 q2.2).bind fun q8 =>
    cZ q8.1 q8.2
theorem ue_u_X3_sendLetter {μ0 : BM} {ro U S : Nat} (W : Wd μ0 ro U S) {N : Nat} {a0f : Option Nat} (ea0 : a0f = (adr μ0 ro U S (3, 0, 0))) {a1 : Option Nat} {a1f : Option Nat} (ha1 : vd U a1) (ea1 : a1f = (Option.bind a1 fun b => adr μ0 ro U S (10, b, 0))) (s : CS) : IM μ0 ro U S id (u_X3_sendLetter U S N a1 s) (f_X3_sendLetter N a0f a1f (EC μ0 ro U S s)) := by
  unfold f_X3_sendLetter u_X3_sendLetter
  refine im_der (ci := 10) (ha1) (ea1) fun j1 hj1 ej1 => ?_
  refine im_fR W (ik_10 hj1) (by decide) rfl ej1 fun v1 ev1 => ?_
  refine im_ck W (ik_6 (two1 hj1)) ev1 fun b3 eb3 => ?_
  refine im_call (ue_u_X6_isFull W (two1 hj1) eb3 _) fun q2 => ?_
  dsimp only [id]
  refine im_if Iff.rfl (fun _ => ?_) (fun _ => ?_)
  · refine im_fR W (ik_10 hj1) (by decide) rfl ej1 fun v4 ev4 => ?_
    refine im_fI W (ik_10 hj1) (by decide) rfl ej1 ?_
    refine im_ck W (ik_6 (two1 hj1)) ev4 fun b7 eb7 => ?_
    refine im_call (ue_u_X6_append W (two1 hj1) eb7 _ _) fun q6 => ?_
    dsimp only [id]
    exact im_rZ _ _
  · refine im_ck W (ik_3 U S) ea0 fun b9 eb9 => ?_
    refine im_call (ue_u_X3_waitFor W eb9 ha1 ea1 _ _) fun q8 => ?_
    dsimp only [id]
    exact im_rZ _ _
def u_X3_fallAsleep_28 (U S N : Nat) (a1 : Option Nat) (μ : CS) : Option (Unit × CS) :=
  (a1).bind fun j1 =>
  (some (qI μ 10 j1 10 0)).bind fun μ1 =>
  some ((), μ1)
theorem ue_u_X3_fallAsleep_28 {μ0 : BM} {ro U S : Nat} (W : Wd μ0 ro U S) {N : Nat} {a1 : Option Nat} {a1f : Option Nat} (ha1 : vd U a1) (ea1 : a1f = (Option.bind a1 fun b => adr μ0 ro U S (10, b, 0))) (s : CS) : IM μ0 ro U S id (u_X3_fallAsleep_28 U S N a1 s) (f_X3_fallAsleep_28 N a1f (EC μ0 ro U S s)) := by
  unfold f_X3_fallAsleep_28 u_X3_fallAsleep_28
  refine im_der (ci := 10) (ha1) (ea1) fun j1 hj1 ej1 => ?_
  refine im_pI W (ik_10 hj1) (by decide) rfl ej1 _ ?_
  exact im_ret rfl
def u_X3_fallAsleep (U S N : Nat) (a1 : Option Nat) (μ : CS) : Option (Unit × CS) :=
  (a1).bind fun j1 =>
  if (μ.1 10 j1 10) = 0 then
    u_X3_fallAsleep_28 U S N a1 μ
  else
    (some (qI μ 10 j1 8 4)).bind fun μ2 =>
    (some (qI μ2 10 j1 16 ((μ2.1 3 0 0) + (16 * (μ2.1 10 j1 10))))).bind fun μ5 =>
    u_X3_fallAsleep_28 U S N a1 μ5
theorem ue_u_X3_fallAsleep {μ0 : BM} {ro U S : Nat} (W : Wd μ0 ro U S) {N : Nat} {a0f : Option Nat} (ea0 : a0f = (adr μ0 ro U S (3, 0, 0))) {a1 : Option Nat} {a1f : Option Nat} (ha1 : vd U a1) (ea1 : a1f = (Option.bind a1 fun b => adr μ0 ro U S (10, b, 0))) (s : CS) : IM μ0 ro U S id (u_X3_fallAsleep U S N a1 s) (f_X3_fallAsleep N a0f a1f (EC μ0 ro U S s)) := by
  unfold f_X3_fallAsleep u_X3_fallAsleep
  refine im_der (ci := 10) (ha1) (ea1) fun j1 hj1 ej1 => ?_
  refine im_fI W (ik_10 hj1) (by decide) rfl ej1 ?_
  refine im_if Iff.rfl (fun _ => ?_) (fun _ => ?_)
  · exact ue_u_X3_fallAsleep_28 W ha1 ea1 _
  · refine im_pI W (ik_10 hj1) (by decide) rfl ej1 _ ?_
    refine im_fI W (ik_3 U S) (by decide) rfl ea0 ?_
    refine im_fI W (ik_10 hj1) (by decide) rfl ej1 ?_
    refine im_pI W (ik_10 hj1) (by decide) rfl ej1 _ ?_
    exact ue_u_X3_fallAsleep_28 W ha1 ea1 _
def u_X3_goWrong (U S N : Nat) (a1 : Option Nat) (μ : CS) : Option (Int32 × CS) :=
  (a1).bind fun j1 =>
  (some (qI μ 10 j1 9 (μ.1 3 0 1))).bind fun μ2 =>
  (some (qI μ2 10 j1 8 7)).bind fun μ3 =>
  cZ 0 μ3
theorem ue_u_X3_goWrong {μ0 : BM} {ro U S : Nat} (W : Wd μ0 ro U S) {N : Nat} {a0f : Option Nat} (ea0 : a0f = (adr μ0 ro U S (3, 0, 0))) {a1 : Option Nat} {a1f : Option Nat} (ha1 : vd U a1) (ea1 : a1f = (Option.bind a1 fun b => adr μ0 ro U S (10, b, 0))) (s : CS) : IM μ0 ro U S id (u_X3_goWrong U S N a1 s) (f_X3_goWrong N a0f a1f (EC μ0 ro U S s)) := by
  unfold f_X3_goWrong u_X3_goWrong
  refine im_fI W (ik_3 U S) (by decide) rfl ea0 ?_
  refine im_der (ci := 10) (ha1) (ea1) fun j1 hj1 ej1 => ?_
  refine im_pI W (ik_10 hj1) (by decide) rfl ej1 _ ?_
  refine im_pI W (ik_10 hj1) (by decide) rfl ej1 _ ?_
  exact im_rZ _ _
def u_X3_callMonitor_172 (U S N : Nat) (s0 : Option Nat) (s1 : Int32) (μ : CS) : Option (Int32 × CS) :=
  (u_X3_skipIf U S N s0 s1 μ).bind fun q1 =>
  cZ 1 q1.2
theorem ue_u_X3_callMonitor_172 {μ0 : BM} {ro U S : Nat} (W : Wd μ0 ro U S) {N : Nat} {s0 : Option Nat} {s0f : Option Nat} (hs0 : vd U s0) (es0 : s0f = (Option.bind s0 fun b => adr μ0 ro U S (10, b, 0))) (s1 : Int32) (s : CS) : IM μ0 ro U S id (u_X3_callMonitor_172 U S N s0 s1 s) (f_X3_callMonitor_172 N s0f s1 (EC μ0 ro U S s)) := by
  unfold f_X3_callMonitor_172 u_X3_callMonitor_172
  refine im_call (ue_u_X3_skipIf W hs0 es0 _ _) fun q1 => ?_
  dsimp only [id]
  exact im_rZ _ _
def u_X3_callMonitor_205 (U S N : Nat) (s1 : Option Nat) (s2 : Int32) (μ : CS) : Option (Int32 × CS) :=
  (u_X3_readKey U S N s1 s2 μ).bind fun q1 =>
  cZ q1.1 q1.2
theorem ue_u_X3_callMonitor_205 {μ0 : BM} {ro U S : Nat} (W : Wd μ0 ro U S) {N : Nat} {s0f : Option Nat} (es0 : s0f = (adr μ0 ro U S (3, 0, 0))) {s1 : Option Nat} {s1f : Option Nat} (hs1 : vd U s1) (es1 : s1f = (Option.bind s1 fun b => adr μ0 ro U S (10, b, 0))) (s2 : Int32) (s : CS) : IM μ0 ro U S id (u_X3_callMonitor_205 U S N s1 s2 s) (f_X3_callMonitor_205 N s0f s1f s2 (EC μ0 ro U S s)) := by
  unfold f_X3_callMonitor_205 u_X3_callMonitor_205
  refine im_ck W (ik_3 U S) es0 fun b2 eb2 => ?_
  refine im_call (ue_u_X3_readKey W eb2 hs1 es1 _ _) fun q1 => ?_
  dsimp only [id]
  exact im_rZ _ _
def u_X3_callMonitor_191 (U S N : Nat) (a1 : Option Nat) (a2 : Int32) (μ : CS) : Option (Int32 × CS) :=
  if ¬ a2 = (3102 : Int32) then
    u_X3_callMonitor_205 U S N a1 0 μ
  else
    u_X3_callMonitor_205 U S N a1 1 μ
theorem ue_u_X3_callMonitor_191 {μ0 : BM} {ro U S : Nat} (W : Wd μ0 ro U S) {N : Nat} {a0f : Option Nat} (ea0 : a0f = (adr μ0 ro U S (3, 0, 0))) {a1 : Option Nat} {a1f : Option Nat} (ha1 : vd U a1) (ea1 : a1f = (Option.bind a1 fun b => adr μ0 ro U S (10, b, 0))) (a2 : Int32) (s : CS) : IM μ0 ro U S id (u_X3_callMonitor_191 U S N a1 a2 s) (f_X3_callMonitor_191 N a0f a1f a2 (EC μ0 ro U S s)) := by
  unfold f_X3_callMonitor_191 u_X3_callMonitor_191
  refine im_if Iff.rfl (fun _ => ?_) (fun _ => ?_)
  · exact ue_u_X3_callMonitor_205 W ea0 ha1 ea1 _ _
  · exact ue_u_X3_callMonitor_205 W ea0 ha1 ea1 _ _
def u_X3_callMonitor_270 (U S N : Nat) (μ : CS) : Option (Int32 × CS) :=
  cZ 1 μ
theorem ue_u_X3_callMonitor_270 {μ0 : BM} {ro U S : Nat} (W : Wd μ0 ro U S) {N : Nat} (s : CS) : IM μ0 ro U S id (u_X3_callMonitor_270 U S N s) (f_X3_callMonitor_270 N (EC μ0 ro U S s)) := by
  unfold f_X3_callMonitor_270 u_X3_callMonitor_270
  exact im_rZ _ _
def u_X3_callMonitor_216 (U S N : Nat) (a1 : Option Nat) (μ : CS) : Option (Int32 × CS) :=
  (u_X3_sendLetter U S N a1 μ).bind fun q1 =>
  cZ q1.1 q1.2
theorem ue_u_X3_callMonitor_216 {μ0 : BM} {ro U S : Nat} (W : Wd μ0 ro U S) {N : Nat} {a0f : Option Nat} (ea0 : a0f = (adr μ0 ro U S (3, 0, 0))) {a1 : Option Nat} {a1f : Option Nat} (ha1 : vd U a1) (ea1 : a1f = (Option.bind a1 fun b => adr μ0 ro U S (10, b, 0))) (s : CS) : IM μ0 ro U S id (u_X3_callMonitor_216 U S N a1 s) (f_X3_callMonitor_216 N a0f a1f (EC μ0 ro U S s)) := by
  unfold f_X3_callMonitor_216 u_X3_callMonitor_216
  refine im_ck W (ik_3 U S) ea0 fun b2 eb2 => ?_
  refine im_call (ue_u_X3_sendLetter W eb2 ha1 ea1 _) fun q1 => ?_
  dsimp only [id]
  exact im_rZ _ _
def u_X3_callMonitor_257 (U S N : Nat) (a1 : Option Nat) (s0 : Option Nat) (s1 : Int32) (μ : CS) : Option (Int32 × CS) :=
  (s0).bind fun j1 =>
  (some (qI μ 10 j1 18 s1)).bind fun μ1 =>
  (a1).bind fun j2 =>
  (some (qI μ1 10 j2 17 (μ1.1 3 0 0))).bind fun μ3 =>
  cZ 0 μ3
theorem ue_u_X3_callMonitor_257 {μ0 : BM} {ro U S : Nat} (W : Wd μ0 ro U S) {N : Nat} {a0f : Option Nat} (ea0 : a0f = (adr μ0 ro U S (3, 0, 0))) {a1 : Option Nat} {a1f : Option Nat} (ha1 : vd U a1) (ea1 : a1f = (Option.bind a1 fun b => adr μ0 ro U S (10, b, 0))) {s0 : Option Nat} {s0f : Option Nat} (hs0 : vd U s0) (es0 : s0f = (Option.bind s0 fun b => adr μ0 ro U S (10, b, 0))) (s1 : Int32) (s : CS) : IM μ0 ro U S id (u_X3_callMonitor_257 U S N a1 s0 s1 s) (f_X3_callMonitor_257 N a0f a1f s0f s1 (EC μ0 ro U S s)) := by
  unfold f_X3_callMonitor_257 u_X3_callMonitor_257
  refine im_der (ci := 10) (hs0) (es0) fun j1 hj1 ej1 => ?_
  refine im_pI W (ik_10 hj1) (by decide) rfl ej1 _ ?_
  refine im_fI W (ik_3 U S) (by decide) rfl ea0 ?_
  refine im_der (ci := 10) (ha1) (ea1) fun j2 hj2 ej2 => ?_
  refine im_pI W (ik_10 hj2) (by decide) rfl ej2 _ ?_
  exact im_rZ _ _
def u_X3_callMonitor_239 (U S N : Nat) (a1 : Option Nat) (a2 : Int32) (μ : CS) : Option (Int32 × CS) :=
  (a1).bind fun j1 =>
  (some (qI μ 10 j1 8 5)).bind fun μ1 =>
  if ¬ a2 = (3360 : Int32) then
    u_X3_callMonitor_257 U S N a1 a1 4 μ1
  else
    u_X3_callMonitor_257 U S N a1 a1 3 μ1
theorem ue_u_X3_callMonitor_239 {μ0 : BM} {ro U S : Nat} (W : Wd μ0 ro U S) {N : Nat} {a0f : Option Nat} (ea0 : a0f = (adr μ0 ro U S (3, 0, 0))) {a1 : Option Nat} {a1f : Option Nat} (ha1 : vd U a1) (ea1 : a1f = (Option.bind a1 fun b => adr μ0 ro U S (10, b, 0))) (a2 : Int32) (s : CS) : IM μ0 ro U S id (u_X3_callMonitor_239 U S N a1 a2 s) (f_X3_callMonitor_239 N a0f a1f a2 (EC μ0 ro U S s)) := by
  unfold f_X3_callMonitor_239 u_X3_callMonitor_239
  refine im_der (ci := 10) (ha1) (ea1) fun j1 hj1 ej1 => ?_
  refine im_pI W (ik_10 hj1) (by decide) rfl ej1 _ ?_
  refine im_if Iff.rfl (fun _ => ?_) (fun _ => ?_)
  · exact ue_u_X3_callMonitor_257 W ea0 ha1 ea1 ha1 ea1 _ _
  · exact ue_u_X3_callMonitor_257 W ea0 ha1 ea1 ha1 ea1 _ _
def u_X3_callMonitor (U S N : Nat) (a1 : Option Nat) (a2 : Int32) (μ : CS) : Option (Int32 × CS) :=
  if a2 = 3097 then
    (a1).bind fun j1 =>
    (u_X6_isEmpty U S N (2 * j1) μ).bind fun q2 =>
    if ¬ q2.1 = 0 then
      u_X3_callMonitor_172 U S N a1 0 q2.2
    else
      u_X3_callMonitor_172 U S N a1 1 q2.2
  else
    if a2 = 3098 then
      (a1).bind fun j2 =>
      (some (qI μ 10 j2 10 0)).bind fun μ4 =>
      (u_X6_drop U S N (2 * j2) μ4).bind fun q6 =>
      cZ 1 q6.2
    else
      if a2 = 3100 then
        u_X3_callMonitor_191 U S N a1 a2 μ
      else
        if a2 = 3102 then
          u_X3_callMonitor_191 U S N a1 a2 μ
        else
          if a2 = 3105 then
            (u_X3_skipIf U S N a1 1 μ).bind fun q8 =>
            cZ 1 q8.2
          else
            if a2 = 3106 then
              u_X3_callMonitor_270 U S N μ
            else
              if a2 = 3108 then
                u_X3_callMonitor_216 U S N a1 μ
              else
                if a2 = 3110 then
                  u_X3_callMonitor_216 U S N a1 μ
                else
                  if a2 = 3201 then
                    u_X3_callMonitor_270 U S N μ
                  else
                    if a2 = 3202 then
                      u_X3_callMonitor_270 U S N μ
                    else
                      if a2 = 3203 then
                        u_X3_callMonitor_270 U S N μ
                      else
                        if a2 = 3212 then
                          u_X3_callMonitor_270 U S N μ
                        else
                          if a2 = 3220 then
                            u_X3_callMonitor_270 U S N μ
                          else
                            if a2 = 3228 then
                              u_X3_callMonitor_270 U S N μ
                            else
                              if a2 = 3343 then
                                (a1).bind fun j3 =>
                                (some (qI μ 10 j3 10 (μ.1 10 j3 0))).bind fun μ10 =>
                                cZ 1 μ10
                              else
                                if a2 = 3344 then
                                  (u_X3_fallAsleep U S N a1 μ).bind fun q11 =>
                                  cZ 1 q11.2
                                else
                                  if a2 = 3360 then
                                    u_X3_callMonitor_239 U S N a1 a2 μ
                                  else
                                    if a2 = 3361 then
                                      u_X3_callMonitor_239 U S N a1 a2 μ
                                    else
                                      (u_X3_goWrong U S N a1 μ).bind fun q13 =>
                                      cZ q13.1 q13.2
theorem ue_u_X3_callMonitor {μ0 : BM} {ro U S : Nat} (W : Wd μ0 ro U S) {N : Nat} {a0f : Option Nat} (ea0 : a0f = (adr μ0 ro U S (3, 0, 0))) {a1 : Option Nat} {a1f : Option Nat} (ha1 : vd U a1) (ea1 : a1f = (Option.bind a1 fun b => adr μ0 ro U S (10, b, 0))) (a2 : Int32) (s : CS) : IM μ0 ro U S id (u_X3_callMonitor U S N a1 a2 s) (f_X3_callMonitor N a0f a1f a2 (EC μ0 ro U S s)) := by
  unfold f_X3_callMonitor u_X3_callMonitor
  refine im_if Iff.rfl (fun _ => ?_) (fun _ => ?_)
  · refine im_der (ci := 10) (ha1) (ea1) fun j1 hj1 ej1 => ?_
    refine im_fR W (ik_10 hj1) (by decide) rfl ej1 fun v1 ev1 => ?_
    refine im_ck W (ik_6 (two0 hj1)) ev1 fun b3 eb3 => ?_
    refine im_call (ue_u_X6_isEmpty W (two0 hj1) eb3 _) fun q2 => ?_
    dsimp only [id]
    refine im_if Iff.rfl (fun _ => ?_) (fun _ => ?_)
    · exact ue_u_X3_callMonitor_172 W ha1 ea1 _ _
    · exact ue_u_X3_callMonitor_172 W ha1 ea1 _ _
  · refine im_if Iff.rfl (fun _ => ?_) (fun _ => ?_)
    · refine im_der (ci := 10) (ha1) (ea1) fun j2 hj2 ej2 => ?_
      refine im_pI W (ik_10 hj2) (by decide) rfl ej2 _ ?_
      refine im_fR W (ik_10 hj2) (by decide) rfl ej2 fun v5 ev5 => ?_
      refine im_ck W (ik_6 (two0 hj2)) ev5 fun b7 eb7 => ?_
      refine im_call (ue_u_X6_drop W (two0 hj2) eb7 _) fun q6 => ?_
      dsimp only [id]
      exact im_rZ _ _
    · refine im_if Iff.rfl (fun _ => ?_) (fun _ => ?_)
      · exact ue_u_X3_callMonitor_191 W ea0 ha1 ea1 _ _
      · refine im_if Iff.rfl (fun _ => ?_) (fun _ => ?_)
        · exact ue_u_X3_callMonitor_191 W ea0 ha1 ea1 _ _
        · refine im_if Iff.rfl (fun _ => ?_) (fun _ => ?_)
          · refine im_call (ue_u_X3_skipIf W ha1 ea1 _ _) fun q8 => ?_
            dsimp only [id]
            exact im_rZ _ _
          · refine im_if Iff.rfl (fun _ => ?_) (fun _ => ?_)
            · exact ue_u_X3_callMonitor_270 W _
            · refine im_if Iff.rfl (fun _ => ?_) (fun _ => ?_)
              · exact ue_u_X3_callMonitor_216 W ea0 ha1 ea1 _
              · refine im_if Iff.rfl (fun _ => ?_) (fun _ => ?_)
                · exact ue_u_X3_callMonitor_216 W ea0 ha1 ea1 _
                · refine im_if Iff.rfl (fun _ => ?_) (fun _ => ?_)
                  · exact ue_u_X3_callMonitor_270 W _
                  · refine im_if Iff.rfl (fun _ => ?_) (fun _ => ?_)
                    · exact ue_u_X3_callMonitor_270 W _
                    · refine im_if Iff.rfl (fun _ => ?_) (fun _ => ?_)
                      · exact ue_u_X3_callMonitor_270 W _
                      · refine im_if Iff.rfl (fun _ => ?_) (fun _ => ?_)
                        · exact ue_u_X3_callMonitor_270 W _
                        · refine im_if Iff.rfl (fun _ => ?_) (fun _ => ?_)
                          · exact ue_u_X3_callMonitor_270 W _
                          · refine im_if Iff.rfl (fun _ => ?_) (fun _ => ?_)
                            · exact ue_u_X3_callMonitor_270 W _
                            · refine im_if Iff.rfl (fun _ => ?_) (fun _ => ?_)
                              · refine im_der (ci := 10) (ha1) (ea1) fun j3 hj3 ej3 => ?_
                                refine im_fI W (ik_10 hj3) (by decide) rfl ej3 ?_
                                refine im_pI W (ik_10 hj3) (by decide) rfl ej3 _ ?_
                                exact im_rZ _ _
                              · refine im_if Iff.rfl (fun _ => ?_) (fun _ => ?_)
                                · refine im_ck W (ik_3 U S) ea0 fun b12 eb12 => ?_
                                  refine im_call (ue_u_X3_fallAsleep W eb12 ha1 ea1 _) fun q11 => ?_
                                  dsimp only [id]
                                  exact im_rZ _ _
                                · refine im_if Iff.rfl (fun _ => ?_) (fun _ => ?_)
                                  · exact ue_u_X3_callMonitor_239 W ea0 ha1 ea1 _ _
                                  · refine im_if Iff.rfl (fun _ => ?_) (fun _ => ?_)
                                    · exact ue_u_X3_callMonitor_239 W ea0 ha1 ea1 _ _
                                    · refine im_ck W (ik_3 U S) ea0 fun b14 eb14 => ?_
                                      refine im_call (ue_u_X3_goWrong W eb14 ha1 ea1 _) fun q13 => ?_
                                      dsimp only [id]
                                      exact im_rZ _ _
def u_X3_both (U S N : Nat) (a0 : Option Nat) (μ : CS) : Option (Int32 × CS) :=
  (a0).bind fun j1 =>
  some (((μ.1 10 j1 11) <<< ((12 : Int32) &&& 31)) ||| (μ.1 10 j1 10), μ)
theorem ue_u_X3_both {μ0 : BM} {ro U S : Nat} (W : Wd μ0 ro U S) {N : Nat} {a0 : Option Nat} {a0f : Option Nat} (ha0 : vd U a0) (ea0 : a0f = (Option.bind a0 fun b => adr μ0 ro U S (10, b, 0))) (s : CS) : IM μ0 ro U S id (u_X3_both U S N a0 s) (f_X3_both N a0f (EC μ0 ro U S s)) := by
  unfold f_X3_both u_X3_both
  refine im_der (ci := 10) (ha0) (ea0) fun j1 hj1 ej1 => ?_
  refine im_fI W (ik_10 hj1) (by decide) rfl ej1 ?_
  refine im_fI W (ik_10 hj1) (by decide) rfl ej1 ?_
  exact im_ret rfl
def u_X3_setBoth (U S N : Nat) (a0 : Option Nat) (a1 : Int32) (μ : CS) : Option (Unit × CS) :=
  (a0).bind fun j1 =>
  (some (qI μ 10 j1 10 (a1 &&& 4095))).bind fun μ1 =>
  (some (qI μ1 10 j1 11 ((a1 >>> ((12 : Int32) &&& 31)) &&& 1))).bind fun μ2 =>
  some ((), μ2)
theorem ue_u_X3_setBoth {μ0 : BM} {ro U S : Nat} (W : Wd μ0 ro U S) {N : Nat} {a0 : Option Nat} {a0f : Option Nat} (ha0 : vd U a0) (ea0 : a0f = (Option.bind a0 fun b => adr μ0 ro U S (10, b, 0))) (a1 : Int32) (s : CS) : IM μ0 ro U S id (u_X3_setBoth U S N a0 a1 s) (f_X3_setBoth N a0f a1 (EC μ0 ro U S s)) := by
  unfold f_X3_setBoth u_X3_setBoth
  refine im_der (ci := 10) (ha0) (ea0) fun j1 hj1 ej1 => ?_
  refine im_pI W (ik_10 hj1) (by decide) rfl ej1 _ ?_
  refine im_pI W (ik_10 hj1) (by decide) rfl ej1 _ ?_
  exact im_ret rfl
def u_X3_turn_130 (U S N : Nat) (μ : CS) : Option (Unit × CS) :=
  some ((), μ)
theorem ue_u_X3_turn_130 {μ0 : BM} {ro U S : Nat} (W : Wd μ0 ro U S) {N : Nat} (s : CS) : IM μ0 ro U S id (u_X3_turn_130 U S N s) (f_X3_turn_130 N (EC μ0 ro U S s)) := by
  unfold f_X3_turn_130 u_X3_turn_130
  exact im_ret rfl
def u_X3_turn_11 (U S N : Nat) (a0 : Option Nat) (a1 : Int32) (s0 : Int32) (μ : CS) : Option (Unit × CS) :=
  if (a1 &&& 12) = 0 then
    if ¬ s0 = (2 : Int32) then
      u_X3_turn_130 U S N μ
    else
      (a0).bind fun j1 =>
      (some (qI μ 10 j1 10 ((((μ.1 10 j1 10) >>> ((6 : Int32) &&& 31)) ||| ((μ.1 10 j1 10) <<< ((6 : Int32) &&& 31))) &&& 4095))).bind fun μ3 =>
      u_X3_turn_130 U S N μ3
  else
    if (a1 &&& 12) = 4 then
      (u_X3_both U S N a0 μ).bind fun q4 =>
      (u_X3_setBoth U S N a0 ((q4.1 <<< (s0 &&& 31)) ||| (q4.1 >>> ((13 - s0) &&& 31))) q4.2).bind fun q5 =>
      u_X3_turn_130 U S N q5.2
    else
      if (a1 &&& 12) = 8 then
        (u_X3_both U S N a0 μ).bind fun q6 =>
        (u_X3_setBoth U S N a0 ((q6.1 >>> (s0 &&& 31)) ||| (q6.1 <<< ((13 - s0) &&& 31))) q6.2).bind fun q7 =>
        u_X3_turn_130 U S N q7.2
      else
        u_X3_turn_130 U S N μ
theorem ue_u_X3_turn_11 {μ0 : BM} {ro U S : Nat} (W : Wd μ0 ro U S) {N : Nat} {a0 : Option Nat} {a0f : Option Nat} (ha0 : vd U a0) (ea0 : a0f = (Option.bind a0 fun b => adr μ0 ro U S (10, b, 0))) (a1 : Int32) (s0 : Int32) (s : CS) : IM μ0 ro U S id (u_X3_turn_11 U S N a0 a1 s0 s) (f_X3_turn_11 N a0f a1 s0 (EC μ0 ro U S s)) := by
  unfold f_X3_turn_11 u_X3_turn_11
  refine im_if Iff.rfl (fun _ => ?_) (fun _ => ?_)
  · refine im_if Iff.rfl (fun _ => ?_) (fun _ => ?_)
    · exact ue_u_X3_turn_130 W _
    · refine im_der (ci := 10) (ha0) (ea0) fun j1 hj1 ej1 => ?_
      refine im_fI W (ik_10 hj1) (by decide) rfl ej1 ?_
      refine im_fI W (ik_10 hj1) (by decide) rfl ej1 ?_
      refine im_pI W (ik_10 hj1) (by decide) rfl ej1 _ ?_
      exact ue_u_X3_turn_130 W _
  · refine im_if Iff.rfl (fun _ => ?_) (fun _ => ?_)
    · refine im_call (ue_u_X3_both W ha0 ea0 _) fun q4 => ?_
      dsimp only [id]
      refine im_call (ue_u_X3_setBoth W ha0 ea0 _ _) fun q5 => ?_
      dsimp only [id]
      exact ue_u_X3_turn_130 W _
    · refine im_if Iff.rfl (fun _ => ?_) (fun _ => ?_)
      · refine im_call (ue_u_X3_both W ha0 ea0 _) fun q6 => ?_
        dsimp only [id]
        refine im_call (ue_u_X3_setBoth W ha0 ea0 _ _) fun q7 => ?_
        dsimp only [id]
        exact ue_u_X3_turn_130 W _
      · exact ue_u_X3_turn_130 W _
def u_X3_turn (U S N : Nat) (a0 : Option Nat) (a1 : Int32) (μ : CS) : Option (Unit × CS) :=
  if (a1 &&& 2) = 0 then
    u_X3_turn_11 U S N a0 a1 1 μ
  else
    u_X3_turn_11 U S N a0 a1 2 μ
theorem ue_u_X3_turn {μ0 : BM} {ro U S : Nat} (W : Wd μ0 ro U S) {N : Nat} {a0 : Option Nat} {a0f : Option Nat} (ha0 : vd U a0) (ea0 : a0f = (Option.bind a0 fun b => adr μ0 ro U S (10, b, 0))) (a1 : Int32) (s : CS) : IM μ0 ro U S id (u_X3_turn U S N a0 a1 s) (f_X3_turn N a0f a1 (EC μ0 ro U S s)) := by
  unfold f_X3_turn u_X3_turn
  refine im_if Iff.rfl (fun _ => ?_) (fun _ => ?_)
  · exact ue_u_X3_turn_11 W ha0 ea0 _ _ _
  · exact ue_u_X3_turn_11 W ha0 ea0 _ _ _
def u_X3_operate_77 (U S N : Nat) (a0 : Option Nat) (a1 : Int32) (μ : CS) : Option (Unit × CS) :=
  (u_X3_turn U S N a0 a1 μ).bind fun q1 =>
  some ((), q1.2)
theorem ue_u_X3_operate_77 {μ0 : BM} {ro U S : Nat} (W : Wd μ0 ro U S) {N : Nat} {a0 : Option Nat} {a0f : Option Nat} (ha0 : vd U a0) (ea0 : a0f = (Option.bind a0 fun b => adr μ0 ro U S (10, b, 0))) (a1 : Int32) (s : CS) : IM μ0 ro U S id (u_X3_operate_77 U S N a0 a1 s) (f_X3_operate_77 N a0f a1 (EC μ0 ro U S s)) := by
  unfold f_X3_operate_77 u_X3_operate_77
  refine im_call (ue_u_X3_turn W ha0 ea0 _ _) fun q1 => ?_
  dsimp only [id]
  exact im_ret rfl
def u_X3_operate_61 (U S N : Nat) (a0 : Option Nat) (a1 : Int32) (μ : CS) : Option (Unit × CS) :=
  if (a1 &&& 1) = 0 then
    u_X3_operate_77 U S N a0 a1 μ
  else
    (u_X3_both U S N a0 μ).bind fun q1 =>
    (u_X3_setBoth U S N a0 (q1.1 + 1) q1.2).bind fun q2 =>
    u_X3_operate_77 U S N a0 a1 q2.2
theorem ue_u_X3_operate_61 {μ0 : BM} {ro U S : Nat} (W : Wd μ0 ro U S) {N : Nat} {a0 : Option Nat} {a0f : Option Nat} (ha0 : vd U a0) (ea0 : a0f = (Option.bind a0 fun b => adr μ0 ro U S (10, b, 0))) (a1 : Int32) (s : CS) : IM μ0 ro U S id (u_X3_operate_61 U S N a0 a1 s) (f_X3_operate_61 N a0f a1 (EC μ0 ro U S s)) := by
  unfold f_X3_operate_61 u_X3_operate_61
  refine im_if Iff.rfl (fun _ => ?_) (fun _ => ?_)
  · exact ue_u_X3_operate_77 W ha0 ea0 _ _
  · refine im_call (ue_u_X3_both W ha0 ea0 _) fun q1 => ?_
    dsimp only [id]
    refine im_call (ue_u_X3_setBoth W ha0 ea0 _ _) fun q2 => ?_
    dsimp only [id]
    exact ue_u_X3_operate_77 W ha0 ea0 _ _
def u_X3_operate_44 (U S N : Nat) (a0 : Option Nat) (a1 : Int32) (μ : CS) : Option (Unit × CS) :=
  if (a1 &&& 16) = 0 then
    u_X3_operate_61 U S N a0 a1 μ
  else
    (a0).bind fun j1 =>
    (some (qI μ 10 j1 11 ((μ.1 10 j1 11) ^^^ 1))).bind fun μ2 =>
    u_X3_operate_61 U S N a0 a1 μ2
theorem ue_u_X3_operate_44 {μ0 : BM} {ro U S : Nat} (W : Wd μ0 ro U S) {N : Nat} {a0 : Option Nat} {a0f : Option Nat} (ha0 : vd U a0) (ea0 : a0f = (Option.bind a0 fun b => adr μ0 ro U S (10, b, 0))) (a1 : Int32) (s : CS) : IM μ0 ro U S id (u_X3_operate_44 U S N a0 a1 s) (f_X3_operate_44 N a0f a1 (EC μ0 ro U S s)) := by
  unfold f_X3_operate_44 u_X3_operate_44
  refine im_if Iff.rfl (fun _ => ?_) (fun _ => ?_)
  · exact ue_u_X3_operate_61 W ha0 ea0 _ _
  · refine im_der (ci := 10) (ha0) (ea0) fun j1 hj1 ej1 => ?_
    refine im_fI W (ik_10 hj1) (by decide) rfl ej1 ?_
    refine im_pI W (ik_10 hj1) (by decide) rfl ej1 _ ?_
    exact ue_u_X3_operate_61 W ha0 ea0 _ _
def u_X3_operate_25 (U S N : Nat) (a0 : Option Nat) (a1 : Int32) (μ : CS) : Option (Unit × CS) :=
  if (a1 &&& 32) = 0 then
    u_X3_operate_44 U S N a0 a1 μ
  else
    (a0).bind fun j1 =>
    (some (qI μ 10 j1 10 ((μ.1 10 j1 10) ^^^ 4095))).bind fun μ2 =>
    u_X3_operate_44 U S N a0 a1 μ2
theorem ue_u_X3_operate_25 {μ0 : BM} {ro U S : Nat} (W : Wd μ0 ro U S) {N : Nat} {a0 : Option Nat} {a0f : Option Nat} (ha0 : vd U a0) (ea0 : a0f = (Option.bind a0 fun b => adr μ0 ro U S (10, b, 0))) (a1 : Int32) (s : CS) : IM μ0 ro U S id (u_X3_operate_25 U S N a0 a1 s) (f_X3_operate_25 N a0f a1 (EC μ0 ro U S s)) := by
  unfold f_X3_operate_25 u_X3_operate_25
  refine im_if Iff.rfl (fun _ => ?_) (fun _ => ?_)
  · exact ue_u_X3_operate_44 W ha0 ea0 _ _
  · refine im_der (ci := 10) (ha0) (ea0) fun j1 hj1 ej1 => ?_
    refine im_fI W (ik_10 hj1) (by decide) rfl ej1 ?_
    refine im_pI W (ik_10 hj1) (by decide) rfl ej1 _ ?_
    exact ue_u_X3_operate_44 W ha0 ea0 _ _
def u_X3_operate_13 (U S N : Nat) (a0 : Option Nat) (a1 : Int32) (μ : CS) : Option (Unit × CS) :=
  if (a1 &&& 64) = 0 then
    u_X3_operate_25 U S N a0 a1 μ
  else
    (a0).bind fun j1 =>
    (some (qI μ 10 j1 11 0)).bind fun μ1 =>
    u_X3_operate_25 U S N a0 a1 μ1
theorem ue_u_X3_operate_13 {μ0 : BM} {ro U S : Nat} (W : Wd μ0 ro U S) {N : Nat} {a0 : Option Nat} {a0f : Option Nat} (ha0 : vd U a0) (ea0 : a0f = (Option.bind a0 fun b => adr μ0 ro U S (10, b, 0))) (a1 : Int32) (s : CS) : IM μ0 ro U S id (u_X3_operate_13 U S N a0 a1 s) (f_X3_operate_13 N a0f a1 (EC μ0 ro U S s)) := by
  unfold f_X3_operate_13 u_X3_operate_13
  refine im_if Iff.rfl (fun _ => ?_) (fun _ => ?_)
  · exact ue_u_X3_operate_25 W ha0 ea0 _ _
  · refine im_der (ci := 10) (ha0) (ea0) fun j1 hj1 ej1 => ?_
    refine im_pI W (ik_10 hj1) (by decide) rfl ej1 _ ?_
    exact ue_u_X3_operate_25 W ha0 ea0 _ _
def u_X3_operate (U S N : Nat) (a0 : Option Nat) (a1 : Int32) (μ : CS) : Option (Unit × CS) :=
  if (a1 &&& 128) = 0 then
    u_X3_operate_13 U S N a0 a1 μ
  else
    (a0).bind fun j1 =>
    (some (qI μ 10 j1 10 0)).bind fun μ1 =>
    u_X3_operate_13 U S N a0 a1 μ1
theorem ue_u_X3_operate {μ0 : BM} {ro U S : Nat} (W : Wd μ0 ro U S) {N : Nat} {a0 : Option Nat} {a0f : Option Nat} (ha0 : vd U a0) (ea0 : a0f = (Option.bind a0 fun b => adr μ0 ro U S (10, b, 0))) (a1 : Int32) (s : CS) : IM μ0 ro U S id (u_X3_operate U S N a0 a1 s) (f_X3_operate N a0f a1 (EC μ0 ro U S s)) := by
  unfold f_X3_operate u_X3_operate
  refine im_if Iff.rfl (fun _ => ?_) (fun _ => ?_)
  · exact ue_u_X3_operate_13 W ha0 ea0 _ _
  · refine im_der (ci := 10) (ha0) (ea0) fun j1 hj1 ej1 => ?_
    refine im_pI W (ik_10 hj1) (by decide) rfl ej1 _ ?_
    exact ue_u_X3_operate_13 W ha0 ea0 _ _
def u_X3_skipOrStop_122 (U S N : Nat) (μ : CS) : Option (Unit × CS) :=
  some ((), μ)
theorem ue_u_X3_skipOrStop_122 {μ0 : BM} {ro U S : Nat} (W : Wd μ0 ro U S) {N : Nat} (s : CS) : IM μ0 ro U S id (u_X3_skipOrStop_122 U S N s) (f_X3_skipOrStop_122 N (EC μ0 ro U S s)) := by
  unfold f_X3_skipOrStop_122 u_X3_skipOrStop_122
  exact im_ret rfl
def u_X3_skipOrStop_110 (U S N : Nat) (a0 : Option Nat) (a1 : Int32) (μ : CS) : Option (Unit × CS) :=
  if (a1 &&& 2) = 0 then
    u_X3_skipOrStop_122 U S N μ
  else
    (a0).bind fun j1 =>
    (some (qI μ 10 j1 8 6)).bind fun μ1 =>
    u_X3_skipOrStop_122 U S N μ1
theorem ue_u_X3_skipOrStop_110 {μ0 : BM} {ro U S : Nat} (W : Wd μ0 ro U S) {N : Nat} {a0 : Option Nat} {a0f : Option Nat} (ha0 : vd U a0) (ea0 : a0f = (Option.bind a0 fun b => adr μ0 ro U S (10, b, 0))) (a1 : Int32) (s : CS) : IM μ0 ro U S id (u_X3_skipOrStop_110 U S N a0 a1 s) (f_X3_skipOrStop_110 N a0f a1 (EC μ0 ro U S s)) := by
  unfold f_X3_skipOrStop_110 u_X3_skipOrStop_110
  refine im_if Iff.rfl (fun _ => ?_) (fun _ => ?_)
  · exact ue_u_X3_skipOrStop_122 W _
  · refine im_der (ci := 10) (ha0) (ea0) fun j1 hj1 ej1 => ?_
    refine im_pI W (ik_10 hj1) (by decide) rfl ej1 _ ?_
    exact ue_u_X3_skipOrStop_122 W _
def u_X3_skipOrStop_91 (U S N : Nat) (a0 : Option Nat) (a1 : Int32) (μ : CS) : Option (Unit × CS) :=
  if (a1 &&& 4) = 0 then
    u_X3_skipOrStop_110 U S N a0 a1 μ
  else
    (a0).bind fun j1 =>
    (some (qI μ 10 j1 10 ((μ.1 10 j1 10) ||| (μ.1 10 j1 13)))).bind fun μ3 =>
    u_X3_skipOrStop_110 U S N a0 a1 μ3
theorem ue_u_X3_skipOrStop_91 {μ0 : BM} {ro U S : Nat} (W : Wd μ0 ro U S) {N : Nat} {a0 : Option Nat} {a0f : Option Nat} (ha0 : vd U a0) (ea0 : a0f = (Option.bind a0 fun b => adr μ0 ro U S (10, b, 0))) (a1 : Int32) (s : CS) : IM μ0 ro U S id (u_X3_skipOrStop_91 U S N a0 a1 s) (f_X3_skipOrStop_91 N a0f a1 (EC μ0 ro U S s)) := by
  unfold f_X3_skipOrStop_91 u_X3_skipOrStop_91
  refine im_if Iff.rfl (fun _ => ?_) (fun _ => ?_)
  · exact ue_u_X3_skipOrStop_110 W ha0 ea0 _ _
  · refine im_der (ci := 10) (ha0) (ea0) fun j1 hj1 ej1 => ?_
    refine im_fI W (ik_10 hj1) (by decide) rfl ej1 ?_
    refine im_fI W (ik_10 hj1) (by decide) rfl ej1 ?_
    refine im_pI W (ik_10 hj1) (by decide) rfl ej1 _ ?_
    exact ue_u_X3_skipOrStop_110 W ha0 ea0 _ _
def u_X3_skipOrStop_75 (U S N : Nat) (a0 : Option Nat) (a1 : Int32) (s0 : Option Nat) (s1 : Int32) (μ : CS) : Option (Unit × CS) :=
  (u_X3_skipIf U S N s0 s1 μ).bind fun q1 =>
  if (a1 &&& 128) = 0 then
    u_X3_skipOrStop_91 U S N a0 a1 q1.2
  else
    (a0).bind fun j1 =>
    (some (qI q1.2 10 j1 10 0)).bind fun μ2 =>
    u_X3_skipOrStop_91 U S N a0 a1 μ2
theorem ue_u_X3_skipOrStop_75 {μ0 : BM} {ro U S : Nat} (W : Wd μ0 ro U S) {N : Nat} {a0 : Option Nat} {a0f : Option Nat} (ha0 : vd U a0) (ea0 : a0f = (Option.bind a0 fun b => adr μ0 ro U S (10, b, 0))) (a1 : Int32) {s0 : Option Nat} {s0f : Option Nat} (hs0 : vd U s0) (es0 : s0f = (Option.bind s0 fun b => adr μ0 ro U S (10, b, 0))) (s1 : Int32) (s : CS) : IM μ0 ro U S id (u_X3_skipOrStop_75 U S N a0 a1 s0 s1 s) (f_X3_skipOrStop_75 N a0f a1 s0f s1 (EC μ0 ro U S s)) := by
  unfold f_X3_skipOrStop_75 u_X3_skipOrStop_75
  refine im_call (ue_u_X3_skipIf W hs0 es0 _ _) fun q1 => ?_
  dsimp only [id]
  refine im_if Iff.rfl (fun _ => ?_) (fun _ => ?_)
  · exact ue_u_X3_skipOrStop_91 W ha0 ea0 _ _
  · refine im_der (ci := 10) (ha0) (ea0) fun j1 hj1 ej1 => ?_
    refine im_pI W (ik_10 hj1) (by decide) rfl ej1 _ ?_
    exact ue_u_X3_skipOrStop_91 W ha0 ea0 _ _
def u_X3_skipOrStop_67 (U S N : Nat) (a0 : Option Nat) (a1 : Int32) (s0 : Option Nat) (s1 : Int32) (s2 : Int32) (μ : CS) : Option (Unit × CS) :=
  if s1 = s2 then
    u_X3_skipOrStop_75 U S N a0 a1 s0 0 μ
  else
    u_X3_skipOrStop_75 U S N a0 a1 s0 1 μ
theorem ue_u_X3_skipOrStop_67 {μ0 : BM} {ro U S : Nat} (W : Wd μ0 ro U S) {N : Nat} {a0 : Option Nat} {a0f : Option Nat} (ha0 : vd U a0) (ea0 : a0f = (Option.bind a0 fun b => adr μ0 ro U S (10, b, 0))) (a1 : Int32) {s0 : Option Nat} {s0f : Option Nat} (hs0 : vd U s0) (es0 : s0f = (Option.bind s0 fun b => adr μ0 ro U S (10, b, 0))) (s1 : Int32) (s2 : Int32) (s : CS) : IM μ0 ro U S id (u_X3_skipOrStop_67 U S N a0 a1 s0 s1 s2 s) (f_X3_skipOrStop_67 N a0f a1 s0f s1 s2 (EC μ0 ro U S s)) := by
  unfold f_X3_skipOrStop_67 u_X3_skipOrStop_67
  refine im_if Iff.rfl (fun _ => ?_) (fun _ => ?_)
  · exact ue_u_X3_skipOrStop_75 W ha0 ea0 _ hs0 es0 _ _
  · exact ue_u_X3_skipOrStop_75 W ha0 ea0 _ hs0 es0 _ _
def u_X3_skipOrStop_52 (U S N : Nat) (a0 : Option Nat) (a1 : Int32) (s0 : Int32) (μ : CS) : Option (Unit × CS) :=
  if (a1 &&& 8) = 0 then
    u_X3_skipOrStop_67 U S N a0 a1 a0 s0 0 μ
  else
    u_X3_skipOrStop_67 U S N a0 a1 a0 s0 1 μ
theorem ue_u_X3_skipOrStop_52 {μ0 : BM} {ro U S : Nat} (W : Wd μ0 ro U S) {N : Nat} {a0 : Option Nat} {a0f : Option Nat} (ha0 : vd U a0) (ea0 : a0f = (Option.bind a0 fun b => adr μ0 ro U S (10, b, 0))) (a1 : Int32) (s0 : Int32) (s : CS) : IM μ0 ro U S id (u_X3_skipOrStop_52 U S N a0 a1 s0 s) (f_X3_skipOrStop_52 N a0f a1 s0 (EC μ0 ro U S s)) := by
  unfold f_X3_skipOrStop_52 u_X3_skipOrStop_52
  refine im_if Iff.rfl (fun _ => ?_) (fun _ => ?_)
  · exact ue_u_X3_skipOrStop_67 W ha0 ea0 _ ha0 ea0 _ _ _
  · exact ue_u_X3_skipOrStop_67 W ha0 ea0 _ ha0 ea0 _ _ _
def u_X3_skipOrStop_51 (U S N : Nat) (a0 : Option Nat) (a1 : Int32) (μ : CS) : Option (Unit × CS) :=
  u_X3_skipOrStop_52 U S N a0 a1 0 μ
theorem ue_u_X3_skipOrStop_51 {μ0 : BM} {ro U S : Nat} (W : Wd μ0 ro U S) {N : Nat} {a0 : Option Nat} {a0f : Option Nat} (ha0 : vd U a0) (ea0 : a0f = (Option.bind a0 fun b => adr μ0 ro U S (10, b, 0))) (a1 : Int32) (s : CS) : IM μ0 ro U S id (u_X3_skipOrStop_51 U S N a0 a1 s) (f_X3_skipOrStop_51 N a0f a1 (EC μ0 ro U S s)) := by
  unfold f_X3_skipOrStop_51 u_X3_skipOrStop_51
  exact ue_u_X3_skipOrStop_52 W ha0 ea0 _ _ _
def u_X3_skipOrStop_47 (U S N : Nat) (a0 : Option Nat) (a1 : Int32) (μ : CS) : Option (Unit × CS) :=
  u_X3_skipOrStop_52 U S N a0 a1 1 μ
theorem ue_u_X3_skipOrStop_47 {μ0 : BM} {ro U S : Nat} (W : Wd μ0 ro U S) {N : Nat} {a0 : Option Nat} {a0f : Option Nat} (ha0 : vd U a0) (ea0 : a0f = (Option.bind a0 fun b => adr μ0 ro U S (10, b, 0))) (a1 : Int32) (s : CS) : IM μ0 ro U S id (u_X3_skipOrStop_47 U S N a0 a1 s) (f_X3_skipOrStop_47 N a0f a1 (EC μ0 ro U S s)) := by
  unfold f_X3_skipOrStop_47 u_X3_skipOrStop_47
  exact ue_u_X3_skipOrStop_52 W ha0 ea0 _ _ _
def u_X3_skipOrStop_32 (U S N : Nat) (a0 : Option Nat) (a1 : Int32) (μ : CS) : Option (Unit × CS) :=
  if (a1 &&& 16) = 0 then
    u_X3_skipOrStop_51 U S N a0 a1 μ
  else
    (a0).bind fun j1 =>
    if ¬ (μ.1 10 j1 11) = (1 : Int32) then
      u_X3_skipOrStop_51 U S N a0 a1 μ
    else
      u_X3_skipOrStop_47 U S N a0 a1 μ
theorem ue_u_X3_skipOrStop_32 {μ0 : BM} {ro U S : Nat} (W : Wd μ0 ro U S) {N : Nat} {a0 : Option Nat} {a0f : Option Nat} (ha0 : vd U a0) (ea0 : a0f = (Option.bind a0 fun b => adr μ0 ro U S (10, b, 0))) (a1 : Int32) (s : CS) : IM μ0 ro U S id (u_X3_skipOrStop_32 U S N a0 a1 s) (f_X3_skipOrStop_32 N a0f a1 (EC μ0 ro U S s)) := by
  unfold f_X3_skipOrStop_32 u_X3_skipOrStop_32
  refine im_if Iff.rfl (fun _ => ?_) (fun _ => ?_)
  · exact ue_u_X3_skipOrStop_51 W ha0 ea0 _ _
  · refine im_der (ci := 10) (ha0) (ea0) fun j1 hj1 ej1 => ?_
    refine im_fI W (ik_10 hj1) (by decide) rfl ej1 ?_
    refine im_if Iff.rfl (fun _ => ?_) (fun _ => ?_)
    · exact ue_u_X3_skipOrStop_51 W ha0 ea0 _ _
    · exact ue_u_X3_skipOrStop_47 W ha0 ea0 _ _
def u_X3_skipOrStop_18 (U S N : Nat) (a0 : Option Nat) (a1 : Int32) (μ : CS) : Option (Unit × CS) :=
  if (a1 &&& 32) = 0 then
    u_X3_skipOrStop_32 U S N a0 a1 μ
  else
    (a0).bind fun j1 =>
    if (μ.1 10 j1 10) = 0 then
      u_X3_skipOrStop_47 U S N a0 a1 μ
    else
      u_X3_skipOrStop_32 U S N a0 a1 μ
theorem ue_u_X3_skipOrStop_18 {μ0 : BM} {ro U S : Nat} (W : Wd μ0 ro U S) {N : Nat} {a0 : Option Nat} {a0f : Option Nat} (ha0 : vd U a0) (ea0 : a0f = (Option.bind a0 fun b => adr μ0 ro U S (10, b, 0))) (a1 : Int32) (s : CS) : IM μ0 ro U S id (u_X3_skipOrStop_18 U S N a0 a1 s) (f_X3_skipOrStop_18 N a0f a1 (EC μ0 ro U S s)) := by
  unfold f_X3_skipOrStop_18 u_X3_skipOrStop_18
  refine im_if Iff.rfl (fun _ => ?_) (fun _ => ?_)
  · exact ue_u_X3_skipOrStop_32 W ha0 ea0 _ _
  · refine im_der (ci := 10) (ha0) (ea0) fun j1 hj1 ej1 => ?_
    refine im_fI W (ik_10 hj1) (by decide) rfl ej1 ?_
    refine im_if Iff.rfl (fun _ => ?_) (fun _ => ?_)
    · exact ue_u_X3_skipOrStop_47 W ha0 ea0 _ _
    · exact ue_u_X3_skipOrStop_32 W ha0 ea0 _ _
def u_X3_skipOrStop (U S N : Nat) (a0 : Option Nat) (a1 : Int32) (μ : CS) : Option (Unit × CS) :=
  if (a1 &&& 64) = 0 then
    u_X3_skipOrStop_18 U S N a0 a1 μ
  else
    (a0).bind fun j1 =>
    if ¬ ((μ.1 10 j1 10) &&& 2048) = 0 then
      u_X3_skipOrStop_47 U S N a0 a1 μ
    else
      u_X3_skipOrStop_18 U S N a0 a1 μ
theorem ue_u_X3_skipOrStop {μ0 : BM} {ro U S : Nat} (W : Wd μ0 ro U S) {N : Nat} {a0 : Option Nat} {a0f : Option Nat} (ha0 : vd U a0) (ea0 : a0f = (Option.bind a0 fun b => adr μ0 ro U S (10, b, 0))) (a1 : Int32) (s : CS) : IM μ0 ro U S id (u_X3_skipOrStop U S N a0 a1 s) (f_X3_skipOrStop N a0f a1 (EC μ0 ro U S s)) := by
  unfold f_X3_skipOrStop u_X3_skipOrStop
  refine im_if Iff.rfl (fun _ => ?_) (fun _ => ?_)
  · exact ue_u_X3_skipOrStop_18 W ha0 ea0 _ _
  · refine im_der (ci := 10) (ha0) (ea0) fun j1 hj1 ej1 => ?_
    refine im_fI W (ik_10 hj1) (by decide) rfl ej1 ?_
    refine im_if Iff.rfl (fun _ => ?_) (fun _ => ?_)
    · exact ue_u_X3_skipOrStop_47 W ha0 ea0 _ _
    · exact ue_u_X3_skipOrStop_18 W ha0 ea0 _ _
def u_X3_setLong (U S N : Nat) (a0 : Option Nat) (a1 : Int32) (μ : CS) : Option (Unit × CS) :=
  (a0).bind fun j1 =>
  (some (qI μ 10 j1 10 ((a1 >>> ((12 : Int32) &&& 31)) &&& 4095))).bind fun μ1 =>
  (some (qI μ1 10 j1 12 (a1 &&& 4095))).bind fun μ2 =>
  some ((), μ2)
theorem ue_u_X3_setLong {μ0 : BM} {ro U S : Nat} (W : Wd μ0 ro U S) {N : Nat} {a0 : Option Nat} {a0f : Option Nat} (ha0 : vd U a0) (ea0 : a0f = (Option.bind a0 fun b => adr μ0 ro U S (10, b, 0))) (a1 : Int32) (s : CS) : IM μ0 ro U S id (u_X3_setLong U S N a0 a1 s) (f_X3_setLong N a0f a1 (EC μ0 ro U S s)) := by
  unfold f_X3_setLong u_X3_setLong
  refine im_der (ci := 10) (ha0) (ea0) fun j1 hj1 ej1 => ?_
  refine im_pI W (ik_10 hj1) (by decide) rfl ej1 _ ?_
  refine im_pI W (ik_10 hj1) (by decide) rfl ej1 _ ?_
  exact im_ret rfl
def u_X3_divide_12 (U S N : Nat) (a0 : Option Nat) (μ : CS) : Option (Unit × CS) :=
  (a0).bind fun j1 =>
  (some (qI μ 10 j1 11 1)).bind fun μ1 =>
  some ((), μ1)
theorem ue_u_X3_divide_12 {μ0 : BM} {ro U S : Nat} (W : Wd μ0 ro U S) {N : Nat} {a0 : Option Nat} {a0f : Option Nat} (ha0 : vd U a0) (ea0 : a0f = (Option.bind a0 fun b => adr μ0 ro U S (10, b, 0))) (s : CS) : IM μ0 ro U S id (u_X3_divide_12 U S N a0 s) (f_X3_divide_12 N a0f (EC μ0 ro U S s)) := by
  unfold f_X3_divide_12 u_X3_divide_12
  refine im_der (ci := 10) (ha0) (ea0) fun j1 hj1 ej1 => ?_
  refine im_pI W (ik_10 hj1) (by decide) rfl ej1 _ ?_
  exact im_ret rfl
def u_X3_divide (U S N : Nat) (a0 : Option Nat) (a1 : Int32) (μ : CS) : Option (Unit × CS) :=
  if a1 ≤ 0 then
    u_X3_divide_12 U S N a0 μ
  else
    (a0).bind fun j1 =>
    if (μ.1 10 j1 10) < a1 then
      if (a1 : Int32) = 0 then none else
      (some (qI μ 10 j1 12 ((((μ.1 10 j1 10) <<< ((12 : Int32) &&& 31)) ||| (μ.1 10 j1 12)) / a1))).bind fun μ4 =>
      if (a1 : Int32) = 0 then none else
      (some (qI μ4 10 j1 10 ((((μ.1 10 j1 10) <<< ((12 : Int32) &&& 31)) ||| (μ.1 10 j1 12)) - (((μ.1 10 j1 10) <<< ((12 : Int32) &&& 31)) ||| (μ.1 10 j1 12)) / a1 * a1))).bind fun μ5 =>
      (some (qI μ5 10 j1 11 0)).bind fun μ6 =>
      some ((), μ6)
    else
      u_X3_divide_12 U S N a0 μ
theorem ue_u_X3_divide {μ0 : BM} {ro U S : Nat} (W : Wd μ0 ro U S) {N : Nat} {a0 : Option Nat} {a0f : Option Nat} (ha0 : vd U a0) (ea0 : a0f = (Option.bind a0 fun b => adr μ0 ro U S (10, b, 0))) (a1 : Int32) (s : CS) : IM μ0 ro U S id (u_X3_divide U S N a0 a1 s) (f_X3_divide N a0f a1 (EC μ0 ro U S s)) := by
  unfold f_X3_divide u_X3_divide
  refine im_if Iff.rfl (fun _ => ?_) (fun _ => ?_)
  · exact ue_u_X3_divide_12 W ha0 ea0 _
  · refine im_der (ci := 10) (ha0) (ea0) fun j1 hj1 ej1 => ?_
    refine im_fI W (ik_10 hj1) (by decide) rfl ej1 ?_
    refine im_if Iff.rfl (fun _ => ?_) (fun _ => ?_)
    · refine im_fI W (ik_10 hj1) (by decide) rfl ej1 ?_
      refine im_fI W (ik_10 hj1) (by decide) rfl ej1 ?_
      refine im_if Iff.rfl (fun _ => im_none) (fun _ => ?_)
      refine im_pI W (ik_10 hj1) (by decide) rfl ej1 _ ?_
      refine im_if Iff.rfl (fun _ => im_none) (fun _ => ?_)
      refine im_pI W (ik_10 hj1) (by decide) rfl ej1 _ ?_
      refine im_pI W (ik_10 hj1) (by decide) rfl ej1 _ ?_
      exact im_ret rfl
    · exact ue_u_X3_divide_12 W ha0 ea0 _
def u_X3_shift_89 (U S N : Nat) (k47 : (Option Nat) → Int32 → Int32 → Int32 → Int32 → Int32 → CS → Option (Unit × CS)) (a0 : Option Nat) (a1 : Int32) (a2 : Int32) (a3 : Int32) (a4 : Int32) (a5 : Int32) (μ : CS) : Option (Unit × CS) :=
  k47 a0 a1 a2 a3 a4 (a5 + 1) μ
theorem ue_u_X3_shift_89 {μ0 : BM} {ro U S : Nat} (W : Wd μ0 ro U S) {N : Nat} {k47 : (Option Nat) → Int32 → Int32 → Int32 → Int32 → Int32 → Mem → Option (Unit × Mem)} {k47' : (Option Nat) → Int32 → Int32 → Int32 → Int32 → Int32 → CS → Option (Unit × CS)} (hk47 : ∀ {ya0 : Option Nat} {ya0f : Option Nat} (hya0 : vd U ya0) (eya0 : ya0f = (Option.bind ya0 fun b => adr μ0 ro U S (10, b, 0))) (ya1 : Int32) (ya2 : Int32) (ya3 : Int32) (ya4 : Int32) (ya5 : Int32) (s : CS), IM μ0 ro U S id (k47' ya0 ya1 ya2 ya3 ya4 ya5 s) (k47 ya0f ya1 ya2 ya3 ya4 ya5 (EC μ0 ro U S s))) {a0 : Option Nat} {a0f : Option Nat} (ha0 : vd U a0) (ea0 : a0f = (Option.bind a0 fun b => adr μ0 ro U S (10, b, 0))) (a1 : Int32) (a2 : Int32) (a3 : Int32) (a4 : Int32) (a5 : Int32) (s : CS) : IM μ0 ro U S id (u_X3_shift_89 U S N k47' a0 a1 a2 a3 a4 a5 s) (f_X3_shift_89 N k47 a0f a1 a2 a3 a4 a5 (EC μ0 ro U S s)) := by
  unfold f_X3_shift_89 u_X3_shift_89
  exact hk47 ha0 ea0 _ _ _ _ _ _
def uh_X3_shift_47 (U S N : Nat) (k47 : (Option Nat) → Int32 → Int32 → Int32 → Int32 → Int32 → CS → Option (Unit × CS)) (a0 : Option Nat) (a1 : Int32) (a2 : Int32) (a3 : Int32) (a4 : Int32) (a5 : Int32) (μ : CS) : Option (Unit × CS) :=
  if a2 ≤ a5 then
    (u_X3_setLong U S N a0 a3 μ).bind fun q1 =>
    some ((), q1.2)
  else
    if ¬ a1 = (10 : Int32) then
      u_X3_shift_89 U S N k47 a0 a1 a2 ((a3 >>> ((1 : Int32) &&& 31)) ||| (a4 <<< ((23 : Int32) &&& 31))) a4 a5 μ
    else
      (a0).bind fun j1 =>
      (some (qI μ 10 j1 11 ((a3 >>> ((23 : Int32) &&& 31)) &&& 1))).bind fun μ2 =>
      u_X3_shift_89 U S N k47 a0 a1 a2 ((a3 <<< ((1 : Int32) &&& 31)) &&& ((16777215))) a4 a5 μ2
theorem ue_uh_X3_shift_47 {μ0 : BM} {ro U S : Nat} (W : Wd μ0 ro U S) {N : Nat} {k47 : (Option Nat) → Int32 → Int32 → Int32 → Int32 → Int32 → Mem → Option (Unit × Mem)} {k47' : (Option Nat) → Int32 → Int32 → Int32 → Int32 → Int32 → CS → Option (Unit × CS)} (hk47 : ∀ {ya0 : Option Nat} {ya0f : Option Nat} (hya0 : vd U ya0) (eya0 : ya0f = (Option.bind ya0 fun b => adr μ0 ro U S (10, b, 0))) (ya1 : Int32) (ya2 : Int32) (ya3 : Int32) (ya4 : Int32) (ya5 : Int32) (s : CS), IM μ0 ro U S id (k47' ya0 ya1 ya2 ya3 ya4 ya5 s) (k47 ya0f ya1 ya2 ya3 ya4 ya5 (EC μ0 ro U S s))) {a0 : Option Nat} {a0f : Option Nat} (ha0 : vd U a0) (ea0 : a0f = (Option.bind a0 fun b => adr μ0 ro U S (10, b, 0))) (a1 : Int32) (a2 : Int32) (a3 : Int32) (a4 : Int32) (a5 : Int32) (s : CS) : IM μ0 ro U S id (uh_X3_shift_47 U S N k47' a0 a1 a2 a3 a4 a5 s) (H_X3_shift_47 N k47 a0f a1 a2 a3 a4 a5 (EC μ0 ro U S s)) := by
  unfold H_X3_shift_47 uh_X3_shift_47
  refine im_if Iff.rfl (fun _ => ?_) (fun _ => ?_)
  · refine im_call (ue_u_X3_setLong W ha0 ea0 _ _) fun q1 => ?_
    dsimp only [id]
    exact im_ret rfl
  · refine im_if Iff.rfl (fun _ => ?_) (fun _ => ?_)
    · exact ue_u_X3_shift_89 W hk47 ha0 ea0 _ _ _ _ _ _
    · refine im_der (ci := 10) (ha0) (ea0) fun j1 hj1 ej1 => ?_
      refine im_pI W (ik_10 hj1) (by decide) rfl ej1 _ ?_
      exact ue_u_X3_shift_89 W hk47 ha0 ea0 _ _ _ _ _ _
def ul_X3_shift_47 (U S N : Nat)  : Nat → (Option Nat) → Int32 → Int32 → Int32 → Int32 → Int32 → CS → Option (Unit × CS)
  | 0 => fun _ _ _ _ _ _ _ => none
  | n + 1 => uh_X3_shift_47 U S N (ul_X3_shift_47 U S N n)
theorem ue_ul_X3_shift_47 {μ0 : BM} {ro U S : Nat} (W : Wd μ0 ro U S) {N : Nat} : ∀ (n : Nat) {a0 : Option Nat} {a0f : Option Nat} (ha0 : vd U a0) (ea0 : a0f = (Option.bind a0 fun b => adr μ0 ro U S (10, b, 0))) (a1 : Int32) (a2 : Int32) (a3 : Int32) (a4 : Int32) (a5 : Int32) (s : CS), IM μ0 ro U S id (ul_X3_shift_47 U S N n a0 a1 a2 a3 a4 a5 s) (L_X3_shift_47 N n a0f a1 a2 a3 a4 a5 (EC μ0 ro U S s)) := by
  intro n
  induction n with
  | zero => intros; exact im_none
  | succ n ih => intro a0 a0f ha0 ea0 a1 a2 a3 a4 a5 s; exact ue_uh_X3_shift_47 W ih ha0 ea0 _ _ _ _ _ _
def u_X3_shift_44 (U S N : Nat) (a0 : Option Nat) (a1 : Int32) (a2 : Int32) (a3 : Int32) (a4 : Int32) (μ : CS) : Option (Unit × CS) :=
  ul_X3_shift_47 U S N N a0 a1 a2 a3 a4 0 μ
theorem ue_u_X3_shift_44 {μ0 : BM} {ro U S : Nat} (W : Wd μ0 ro U S) {N : Nat} {a0 : Option Nat} {a0f : Option Nat} (ha0 : vd U a0) (ea0 : a0f = (Option.bind a0 fun b => adr μ0 ro U S (10, b, 0))) (a1 : Int32) (a2 : Int32) (a3 : Int32) (a4 : Int32) (s : CS) : IM μ0 ro U S id (u_X3_shift_44 U S N a0 a1 a2 a3 a4 s) (f_X3_shift_44 N a0f a1 a2 a3 a4 (EC μ0 ro U S s)) := by
  unfold f_X3_shift_44 u_X3_shift_44
  exact ue_ul_X3_shift_47 W N ha0 ea0 _ _ _ _ _ _
def u_X3_shift_30 (U S N : Nat) (a0 : Option Nat) (a1 : Int32) (a2 : Int32) (a3 : Int32) (s0 : Int32) (μ : CS) : Option (Unit × CS) :=
  if a1 = (10 : Int32) then
    u_X3_shift_44 U S N a0 a1 a2 a3 s0 μ
  else
    (a0).bind fun j1 =>
    (some (qI μ 10 j1 11 s0)).bind fun μ1 =>
    u_X3_shift_44 U S N a0 a1 a2 a3 s0 μ1
theorem ue_u_X3_shift_30 {μ0 : BM} {ro U S : Nat} (W : Wd μ0 ro U S) {N : Nat} {a0 : Option Nat} {a0f : Option Nat} (ha0 : vd U a0) (ea0 : a0f = (Option.bind a0 fun b => adr μ0 ro U S (10, b, 0))) (a1 : Int32) (a2 : Int32) (a3 : Int32) (s0 : Int32) (s : CS) : IM μ0 ro U S id (u_X3_shift_30 U S N a0 a1 a2 a3 s0 s) (f_X3_shift_30 N a0f a1 a2 a3 s0 (EC μ0 ro U S s)) := by
  unfold f_X3_shift_30 u_X3_shift_30
  refine im_if Iff.rfl (fun _ => ?_) (fun _ => ?_)
  · exact ue_u_X3_shift_44 W ha0 ea0 _ _ _ _ _
  · refine im_der (ci := 10) (ha0) (ea0) fun j1 hj1 ej1 => ?_
    refine im_pI W (ik_10 hj1) (by decide) rfl ej1 _ ?_
    exact ue_u_X3_shift_44 W ha0 ea0 _ _ _ _ _
def u_X3_shift (U S N : Nat) (a0 : Option Nat) (a1 : Int32) (a2 : Int32) (μ : CS) : Option (Unit × CS) :=
  (a0).bind fun j1 =>
  if ¬ a1 = (12 : Int32) then
    u_X3_shift_30 U S N a0 a1 a2 (((μ.1 10 j1 10) <<< ((12 : Int32) &&& 31)) ||| (μ.1 10 j1 12)) 0 μ
  else
    u_X3_shift_30 U S N a0 a1 a2 (((μ.1 10 j1 10) <<< ((12 : Int32) &&& 31)) ||| (μ.1 10 j1 12)) ((μ.1 10 j1 10) >>> ((11 : Int32) &&& 31)) μ
theorem ue_u_X3_shift {μ0 : BM} {ro U S : Nat} (W : Wd μ0 ro U S) {N : Nat} {a0 : Option Nat} {a0f : Option Nat} (ha0 : vd U a0) (ea0 : a0f = (Option.bind a0 fun b => adr μ0 ro U S (10, b, 0))) (a1 : Int32) (a2 : Int32) (s : CS) : IM μ0 ro U S id (u_X3_shift U S N a0 a1 a2 s) (f_X3_shift N a0f a1 a2 (EC μ0 ro U S s)) := by
  unfold f_X3_shift u_X3_shift
  refine im_der (ci := 10) (ha0) (ea0) fun j1 hj1 ej1 => ?_
  refine im_fI W (ik_10 hj1) (by decide) rfl ej1 ?_
  refine im_fI W (ik_10 hj1) (by decide) rfl ej1 ?_
  refine im_if Iff.rfl (fun _ => ?_) (fun _ => ?_)
  · exact ue_u_X3_shift_30 W ha0 ea0 _ _ _ _ _
  · refine im_fI W (ik_10 hj1) (by decide) rfl ej1 ?_
    exact ue_u_X3_shift_30 W ha0 ea0 _ _ _ _ _
def u_X3_reckon_70 (U S N : Nat) (μ : CS) : Option (Unit × CS) :=
  some ((), μ)
theorem ue_u_X3_reckon_70 {μ0 : BM} {ro U S : Nat} (W : Wd μ0 ro U S) {N : Nat} (s : CS) : IM μ0 ro U S id (u_X3_reckon_70 U S N s) (f_X3_reckon_70 N (EC μ0 ro U S s)) := by
  unfold f_X3_reckon_70 u_X3_reckon_70
  exact im_ret rfl
def u_X3_reckon (U S N : Nat) (a0 : Option Nat) (a1 : Int32) (a2 : Int32) (μ : CS) : Option (Unit × CS) :=
  if a1 = 4 then
    (a0).bind fun j1 =>
    (u_X3_setLong U S N a0 ((a2 * (μ.1 10 j1 12)) + (μ.1 10 j1 10)) μ).bind fun q3 =>
    (some (qI q3.2 10 j1 11 0)).bind fun μ4 =>
    u_X3_reckon_70 U S N μ4
  else
    if a1 = 6 then
      (u_X3_divide U S N a0 a2 μ).bind fun q5 =>
      u_X3_reckon_70 U S N q5.2
    else
      (u_X3_shift U S N a0 a1 ((a2 &&& 31) + 1) μ).bind fun q6 =>
      u_X3_reckon_70 U S N q6.2
theorem ue_u_X3_reckon {μ0 : BM} {ro U S : Nat} (W : Wd μ0 ro U S) {N : Nat} {a0 : Option Nat} {a0f : Option Nat} (ha0 : vd U a0) (ea0 : a0f = (Option.bind a0 fun b => adr μ0 ro U S (10, b, 0))) (a1 : Int32) (a2 : Int32) (s : CS) : IM μ0 ro U S id (u_X3_reckon U S N a0 a1 a2 s) (f_X3_reckon N a0f a1 a2 (EC μ0 ro U S s)) := by
  unfold f_X3_reckon u_X3_reckon
  refine im_if Iff.rfl (fun _ => ?_) (fun _ => ?_)
  · refine im_der (ci := 10) (ha0) (ea0) fun j1 hj1 ej1 => ?_
    refine im_fI W (ik_10 hj1) (by decide) rfl ej1 ?_
    refine im_fI W (ik_10 hj1) (by decide) rfl ej1 ?_
    refine im_call (ue_u_X3_setLong W ha0 ea0 _ _) fun q3 => ?_
    dsimp only [id]
    refine im_pI W (ik_10 hj1) (by decide) rfl ej1 _ ?_
    exact ue_u_X3_reckon_70 W _
  · refine im_if Iff.rfl (fun _ => ?_) (fun _ => ?_)
    · refine im_call (ue_u_X3_divide W ha0 ea0 _ _) fun q5 => ?_
      dsimp only [id]
      exact ue_u_X3_reckon_70 W _
    · refine im_call (ue_u_X3_shift W ha0 ea0 _ _ _) fun q6 => ?_
      dsimp only [id]
      exact ue_u_X3_reckon_70 W _
def u_X3_extend_19 (U S N : Nat) (a1 : Option Nat) (μ : CS) : Option (Int32 × CS) :=
  (u_X3_goWrong U S N a1 μ).bind fun q1 =>
  cZ q1.1 q1.2
theorem ue_u_X3_extend_19 {μ0 : BM} {ro U S : Nat} (W : Wd μ0 ro U S) {N : Nat} {a0f : Option Nat} (ea0 : a0f = (adr μ0 ro U S (3, 0, 0))) {a1 : Option Nat} {a1f : Option Nat} (ha1 : vd U a1) (ea1 : a1f = (Option.bind a1 fun b => adr μ0 ro U S (10, b, 0))) (s : CS) : IM μ0 ro U S id (u_X3_extend_19 U S N a1 s) (f_X3_extend_19 N a0f a1f (EC μ0 ro U S s)) := by
  unfold f_X3_extend_19 u_X3_extend_19
  refine im_ck W (ik_3 U S) ea0 fun b2 eb2 => ?_
  refine im_call (ue_u_X3_goWrong W eb2 ha1 ea1 _) fun q1 => ?_
  dsimp only [id]
  exact im_rZ _ _
def u_X3_extend_173 (U S N : Nat) (μ : CS) : Option (Int32 × CS) :=
  cZ 1 μ
theorem ue_u_X3_extend_173 {μ0 : BM} {ro U S : Nat} (W : Wd μ0 ro U S) {N : Nat} (s : CS) : IM μ0 ro U S id (u_X3_extend_173 U S N s) (f_X3_extend_173 N (EC μ0 ro U S s)) := by
  unfold f_X3_extend_173 u_X3_extend_173
  exact im_rZ _ _
def u_X3_extend_131 (U S N : Nat) (a1 : Option Nat) (a2 : Option Nat) (a4 : Int32) (μ : CS) : Option (Int32 × CS) :=
  if a4 = 0 then
    u_X3_extend_173 U S N μ
  else
    (a2).bind fun j1 =>
    (a1).bind fun j2 =>
    (rH 4096 μ 8 j1 1 ((μ.1 10 j2 9) &&& 4095)).bind fun v3 =>
    (some (qI μ 10 j2 9 (((μ.1 10 j2 9) + 1) &&& 4095))).bind fun μ5 =>
    (u_X3_reckon U S N a1 a4 v3 μ5).bind fun q6 =>
    u_X3_extend_173 U S N q6.2
theorem ue_u_X3_extend_131 {μ0 : BM} {ro U S : Nat} (W : Wd μ0 ro U S) {N : Nat} {a1 : Option Nat} {a1f : Option Nat} (ha1 : vd U a1) (ea1 : a1f = (Option.bind a1 fun b => adr μ0 ro U S (10, b, 0))) {a2 : Option Nat} {a2f : Option Nat} (ha2 : vd S a2) (ea2 : a2f = (Option.bind a2 fun b => adr μ0 ro U S (8, b, 0))) (a4 : Int32) (s : CS) : IM μ0 ro U S id (u_X3_extend_131 U S N a1 a2 a4 s) (f_X3_extend_131 N a1f a2f a4 (EC μ0 ro U S s)) := by
  unfold f_X3_extend_131 u_X3_extend_131
  refine im_if Iff.rfl (fun _ => ?_) (fun _ => ?_)
  · exact ue_u_X3_extend_173 W _
  · refine im_der (ci := 8) (ha2) (ea2) fun j1 hj1 ej1 => ?_
    refine im_fR W (ik_8 hj1) (by decide) rfl ej1 fun v1 ev1 => ?_
    refine im_der (ci := 10) (ha1) (ea1) fun j2 hj2 ej2 => ?_
    refine im_fI W (ik_10 hj2) (by decide) rfl ej2 ?_
    refine im_aI (n := 4096) W (ia_8_2 hj1) rfl rfl ev1 _ fun v3 => ?_
    refine im_fI W (ik_10 hj2) (by decide) rfl ej2 ?_
    refine im_pI W (ik_10 hj2) (by decide) rfl ej2 _ ?_
    refine im_call (ue_u_X3_reckon W ha1 ea1 _ _ _) fun q6 => ?_
    dsimp only [id]
    exact ue_u_X3_extend_173 W _
def u_X3_extend_38 (U S N : Nat) (a1 : Option Nat) (a2 : Option Nat) (a3 : Int32) (a4 : Int32) (μ : CS) : Option (Int32 × CS) :=
  (a1).bind fun j1 =>
  if (a3 &&& 80) = 16 then
    (some (qI μ 10 j1 12 (μ.1 10 j1 10))).bind fun μ2 =>
    (some (qI μ2 10 j1 10 0)).bind fun μ3 =>
    u_X3_extend_131 U S N a1 a2 a4 μ3
  else
    if (a3 &&& 80) = 64 then
      (some (qI μ 10 j1 10 ((μ.1 10 j1 10) ||| (μ.1 10 j1 12)))).bind fun μ6 =>
      u_X3_extend_131 U S N a1 a2 a4 μ6
    else
      if (a3 &&& 80) = 80 then
        (some (qI μ 10 j1 10 (μ.1 10 j1 12))).bind fun μ8 =>
        (some (qI μ8 10 j1 12 (μ.1 10 j1 10))).bind fun μ9 =>
        u_X3_extend_131 U S N a1 a2 a4 μ9
      else
        u_X3_extend_131 U S N a1 a2 a4 μ
theorem ue_u_X3_extend_38 {μ0 : BM} {ro U S : Nat} (W : Wd μ0 ro U S) {N : Nat} {a1 : Option Nat} {a1f : Option Nat} (ha1 : vd U a1) (ea1 : a1f = (Option.bind a1 fun b => adr μ0 ro U S (10, b, 0))) {a2 : Option Nat} {a2f : Option Nat} (ha2 : vd S a2) (ea2 : a2f = (Option.bind a2 fun b => adr μ0 ro U S (8, b, 0))) (a3 : Int32) (a4 : Int32) (s : CS) : IM μ0 ro U S id (u_X3_extend_38 U S N a1 a2 a3 a4 s) (f_X3_extend_38 N a1f a2f a3 a4 (EC μ0 ro U S s)) := by
  unfold f_X3_extend_38 u_X3_extend_38
  refine im_der (ci := 10) (ha1) (ea1) fun j1 hj1 ej1 => ?_
  refine im_fI W (ik_10 hj1) (by decide) rfl ej1 ?_
  refine im_if Iff.rfl (fun _ => ?_) (fun _ => ?_)
  · refine im_pI W (ik_10 hj1) (by decide) rfl ej1 _ ?_
    refine im_pI W (ik_10 hj1) (by decide) rfl ej1 _ ?_
    exact ue_u_X3_extend_131 W ha1 ea1 ha2 ea2 _ _
  · refine im_if Iff.rfl (fun _ => ?_) (fun _ => ?_)
    · refine im_fI W (ik_10 hj1) (by decide) rfl ej1 ?_
      refine im_fI W (ik_10 hj1) (by decide) rfl ej1 ?_
      refine im_pI W (ik_10 hj1) (by decide) rfl ej1 _ ?_
      exact ue_u_X3_extend_131 W ha1 ea1 ha2 ea2 _ _
    · refine im_if Iff.rfl (fun _ => ?_) (fun _ => ?_)
      · refine im_fI W (ik_10 hj1) (by decide) rfl ej1 ?_
        refine im_pI W (ik_10 hj1) (by decide) rfl ej1 _ ?_
        refine im_pI W (ik_10 hj1) (by decide) rfl ej1 _ ?_
        exact ue_u_X3_extend_131 W ha1 ea1 ha2 ea2 _ _
      · exact ue_u_X3_extend_131 W ha1 ea1 ha2 ea2 _ _
def u_X3_extend (U S N : Nat) (a1 : Option Nat) (a2 : Option Nat) (a3 : Int32) (μ : CS) : Option (Int32 × CS) :=
  if (a3 &&& 14) = (2 : Int32) then
    u_X3_extend_19 U S N a1 μ
  else
    if ¬ (a3 &&& 14) = (8 : Int32) then
      if (a3 &&& 128) = 0 then
        u_X3_extend_38 U S N a1 a2 a3 (a3 &&& 14) μ
      else
        (a1).bind fun j1 =>
        (some (qI μ 10 j1 10 0)).bind fun μ1 =>
        u_X3_extend_38 U S N a1 a2 a3 (a3 &&& 14) μ1
    else
      u_X3_extend_19 U S N a1 μ
theorem ue_u_X3_extend {μ0 : BM} {ro U S : Nat} (W : Wd μ0 ro U S) {N : Nat} {a0f : Option Nat} (ea0 : a0f = (adr μ0 ro U S (3, 0, 0))) {a1 : Option Nat} {a1f : Option Nat} (ha1 : vd U a1) (ea1 : a1f = (Option.bind a1 fun b => adr μ0 ro U S (10, b, 0))) {a2 : Option Nat} {a2f : Option Nat} (ha2 : vd S a2) (ea2 : a2f = (Option.bind a2 fun b => adr μ0 ro U S (8, b, 0))) (a3 : Int32) (s : CS) : IM μ0 ro U S id (u_X3_extend U S N a1 a2 a3 s) (f_X3_extend N a0f a1f a2f a3 (EC μ0 ro U S s)) := by
  unfold f_X3_extend u_X3_extend
  refine im_if Iff.rfl (fun _ => ?_) (fun _ => ?_)
  · exact ue_u_X3_extend_19 W ea0 ha1 ea1 _
  · refine im_if Iff.rfl (fun _ => ?_) (fun _ => ?_)
    · refine im_if Iff.rfl (fun _ => ?_) (fun _ => ?_)
      · exact ue_u_X3_extend_38 W ha1 ea1 ha2 ea2 _ _ _
      · refine im_der (ci := 10) (ha1) (ea1) fun j1 hj1 ej1 => ?_
        refine im_pI W (ik_10 hj1) (by decide) rfl ej1 _ ?_
        exact ue_u_X3_extend_38 W ha1 ea1 ha2 ea2 _ _ _
    · exact ue_u_X3_extend_19 W ea0 ha1 ea1 _
def u_X3_step (U S N : Nat) (a1 : Option Nat) (a2 : Option Nat) (a3 : Int32) (μ : CS) : Option (Int32 × CS) :=
  (some (qI μ 3 0 0 a3)).bind fun μ1 =>
  (a1).bind fun j1 =>
  (some (qI μ1 3 0 1 ((μ1.1 10 j1 9) &&& 4095))).bind fun μ3 =>
  (a2).bind fun j2 =>
  (rH 4096 μ3 8 j2 1 (μ3.1 3 0 1)).bind fun v6 =>
  (some (qI μ3 10 j1 9 (((μ3.1 3 0 1) + 1) &&& 4095))).bind fun μ8 =>
  if (6 : Int32) ≤ (v6 >>> ((9 : Int32) &&& 31)) then
    if ¬ (v6 >>> ((9 : Int32) &&& 31)) = (6 : Int32) then
      if ¬ (v6 &&& 256) = 0 then
        if ¬ (v6 &&& 1) = 0 then
          (u_X3_extend U S N a1 a2 v6 μ8).bind fun q9 =>
          cZ q9.1 q9.2
        else
          (u_X3_skipOrStop U S N a1 v6 μ8).bind fun q11 =>
          cZ 1 q11.2
      else
        (u_X3_operate U S N a1 v6 μ8).bind fun q12 =>
        cZ 1 q12.2
    else
      (u_X3_callMonitor U S N a1 v6 μ8).bind fun q13 =>
      cZ q13.1 q13.2
  else
    (u_X3_refer U S N a1 a2 (v6 >>> ((9 : Int32) &&& 31)) v6 μ8).bind fun q15 =>
    cZ 1 q15.2
theorem ue_u_X3_step {μ0 : BM} {ro U S : Nat} (W : Wd μ0 ro U S) {N : Nat} {a0f : Option Nat} (ea0 : a0f = (adr μ0 ro U S (3, 0, 0))) {a1 : Option Nat} {a1f : Option Nat} (ha1 : vd U a1) (ea1 : a1f = (Option.bind a1 fun b => adr μ0 ro U S (10, b, 0))) {a2 : Option Nat} {a2f : Option Nat} (ha2 : vd S a2) (ea2 : a2f = (Option.bind a2 fun b => adr μ0 ro U S (8, b, 0))) (a3 : Int32) (s : CS) : IM μ0 ro U S id (u_X3_step U S N a1 a2 a3 s) (f_X3_step N a0f a1f a2f a3 (EC μ0 ro U S s)) := by
  unfold f_X3_step u_X3_step
  refine im_pI W (ik_3 U S) (by decide) rfl ea0 _ ?_
  refine im_der (ci := 10) (ha1) (ea1) fun j1 hj1 ej1 => ?_
  refine im_fI W (ik_10 hj1) (by decide) rfl ej1 ?_
  refine im_pI W (ik_3 U S) (by decide) rfl ea0 _ ?_
  refine im_der (ci := 8) (ha2) (ea2) fun j2 hj2 ej2 => ?_
  refine im_fR W (ik_8 hj2) (by decide) rfl ej2 fun v4 ev4 => ?_
  refine im_fI W (ik_3 U S) (by decide) rfl ea0 ?_
  refine im_aI (n := 4096) W (ia_8_2 hj2) rfl rfl ev4 _ fun v6 => ?_
  refine im_fI W (ik_3 U S) (by decide) rfl ea0 ?_
  refine im_pI W (ik_10 hj1) (by decide) rfl ej1 _ ?_
  refine im_if Iff.rfl (fun _ => ?_) (fun _ => ?_)
  · refine im_if Iff.rfl (fun _ => ?_) (fun _ => ?_)
    · refine im_if Iff.rfl (fun _ => ?_) (fun _ => ?_)
      · refine im_if Iff.rfl (fun _ => ?_) (fun _ => ?_)
        · refine im_ck W (ik_3 U S) ea0 fun b10 eb10 => ?_
          refine im_call (ue_u_X3_extend W eb10 ha1 ea1 ha2 ea2 _ _) fun q9 => ?_
          dsimp only [id]
          exact im_rZ _ _
        · refine im_call (ue_u_X3_skipOrStop W ha1 ea1 _ _) fun q11 => ?_
          dsimp only [id]
          exact im_rZ _ _
      · refine im_call (ue_u_X3_operate W ha1 ea1 _ _) fun q12 => ?_
        dsimp only [id]
        exact im_rZ _ _
    · refine im_ck W (ik_3 U S) ea0 fun b14 eb14 => ?_
      refine im_call (ue_u_X3_callMonitor W eb14 ha1 ea1 _ _) fun q13 => ?_
      dsimp only [id]
      exact im_rZ _ _
  · refine im_ck W (ik_3 U S) ea0 fun b16 eb16 => ?_
    refine im_call (ue_u_X3_refer W eb16 ha1 ea1 ha2 ea2 _ _ _) fun q15 => ?_
    dsimp only [id]
    exact im_rZ _ _
