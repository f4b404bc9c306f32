/-! LAYER 2, ShareEight's methods over its typed state: u_ (by program, out of f_), and ue_: where u_ ends, f_ over the memory does the same -/
def u_X4_withLetter (U S N : Nat) (a0 : Int64) (a2 : Int32) (μ : CS) : Option (Int64 × CS) :=
  some ((a0 <<< ((8 : Int32).toInt64 &&& 63)) ||| a2.toInt64, μ)
theorem ue_u_X4_withLetter {μ0 : BM} {ro U S : Nat} (W : Wd μ0 ro U S) {N : Nat} (a0 : Int64) (a2 : Int32) (s : CS) : IM μ0 ro U S id (u_X4_withLetter U S N a0 a2 s) (f_X4_withLetter N a0 a2 (EC μ0 ro U S s)) := by
  unfold f_X4_withLetter u_X4_withLetter
  exact im_ret rfl
def uh_J7_fill_53178_5 (U S N : Nat) (k5 : Nat → Int32 → Int32 → Int32 → CS → Option (Unit × CS)) (a0 : Nat) (a1 : Int32) (a2 : Int32) (a3 : Int32) (μ : CS) : Option (Unit × CS) :=
  if a3 ≤ a2 then
    some ((), μ)
  else
    (wH 4096 μ 7 a0 0 a2 a1).bind fun μ1 =>
    k5 a0 a1 (a2 + 1) a3 μ1
theorem ue_uh_J7_fill_53178_5 {μ0 : BM} {ro U S : Nat} (W : Wd μ0 ro U S) {N : Nat} {k5 : (Option Nat) → Int32 → Int32 → Int32 → Mem → Option (Unit × Mem)} {k5' : Nat → Int32 → Int32 → Int32 → CS → Option (Unit × CS)} (hk5 : ∀ {ya0 : Nat} {ya0f : Option Nat} (hya0 : ya0 < 2) (eya0 : ya0f = (adr μ0 ro U S (7, ya0, 1))) (ya1 : Int32) (ya2 : Int32) (ya3 : Int32) (s : CS), IM μ0 ro U S id (k5' ya0 ya1 ya2 ya3 s) (k5 ya0f ya1 ya2 ya3 (EC μ0 ro U S s))) {a0 : Nat} {a0f : Option Nat} (ha0 : a0 < 2) (ea0 : a0f = (adr μ0 ro U S (7, a0, 1))) (a1 : Int32) (a2 : Int32) (a3 : Int32) (s : CS) : IM μ0 ro U S id (uh_J7_fill_53178_5 U S N k5' a0 a1 a2 a3 s) (H_J7_fill_53178_5 N k5 a0f a1 a2 a3 (EC μ0 ro U S s)) := by
  unfold H_J7_fill_53178_5 uh_J7_fill_53178_5
  refine im_if Iff.rfl (fun _ => ?_) (fun _ => ?_)
  · exact im_ret rfl
  · refine im_bI (n := 4096) W (ia_7_1 ha0) rfl rfl ea0 _ _ fun μ1 => ?_
    exact hk5 ha0 ea0 _ _ _ _
def ul_J7_fill_53178_5 (U S N : Nat)  : Nat → Nat → Int32 → Int32 → Int32 → CS → Option (Unit × CS)
  | 0 => fun _ _ _ _ _ => none
  | n + 1 => uh_J7_fill_53178_5 U S N (ul_J7_fill_53178_5 U S N n)
theorem ue_ul_J7_fill_53178_5 {μ0 : BM} {ro U S : Nat} (W : Wd μ0 ro U S) {N : Nat} : ∀ (n : Nat) {a0 : Nat} {a0f : Option Nat} (ha0 : a0 < 2) (ea0 : a0f = (adr μ0 ro U S (7, a0, 1))) (a1 : Int32) (a2 : Int32) (a3 : Int32) (s : CS), IM μ0 ro U S id (ul_J7_fill_53178_5 U S N n a0 a1 a2 a3 s) (L_J7_fill_53178_5 N n a0f a1 a2 a3 (EC μ0 ro U S s)) := by
  intro n
  induction n with
  | zero => intros; exact im_none
  | succ n ih => intro a0 a0f ha0 ea0 a1 a2 a3 s; exact ue_uh_J7_fill_53178_5 W ih ha0 ea0 _ _ _ _
def u_J7_fill_53178 (U S N : Nat) (a0 : Nat) (a1 : Int32) (μ : CS) : Option (Unit × CS) :=
  ul_J7_fill_53178_5 U S N N a0 a1 0 (nI 4096) μ
theorem ue_u_J7_fill_53178 {μ0 : BM} {ro U S : Nat} (W : Wd μ0 ro U S) {N : Nat} {a0 : Nat} {a0f : Option Nat} (ha0 : a0 < 2) (ea0 : a0f = (adr μ0 ro U S (7, a0, 1))) (a1 : Int32) (s : CS) : IM μ0 ro U S id (u_J7_fill_53178 U S N a0 a1 s) (f_J7_fill_53178 N a0f a1 (EC μ0 ro U S s)) := by
  unfold f_J7_fill_53178 u_J7_fill_53178
  refine im_al (n := 4096) W (ia_7_1 ha0) rfl rfl ea0 ?_
  exact ue_ul_J7_fill_53178_5 W N ha0 ea0 _ _ _ _
def u_X11_nearest (U S N : Nat) (a0 : Int32) (a1 : Int32) (μ : CS) : Option (Int32 × CS) :=
  some (mmax 1 (mmin a1 a0), μ)
theorem ue_u_X11_nearest {μ0 : BM} {ro U S : Nat} (W : Wd μ0 ro U S) {N : Nat} (a0 : Int32) (a1 : Int32) (s : CS) : IM μ0 ro U S id (u_X11_nearest U S N a0 a1 s) (f_X11_nearest N a0 a1 (EC μ0 ro U S s)) := by
  unfold f_X11_nearest u_X11_nearest
  exact im_ret rfl
def u_X11_feedFour_49 (U S N : Nat) (μ : CS) : Option (Unit × CS) :=
  some ((), μ)
theorem ue_u_X11_feedFour_49 {μ0 : BM} {ro U S : Nat} (W : Wd μ0 ro U S) {N : Nat} (s : CS) : IM μ0 ro U S id (u_X11_feedFour_49 U S N s) (f_X11_feedFour_49 N (EC μ0 ro U S s)) := by
  unfold f_X11_feedFour_49 u_X11_feedFour_49
  exact im_ret rfl
def uh_X11_feedFour_3 (U S N : Nat) (k3 : Int32 → Int32 → CS → Option (Unit × CS)) (a1 : Int32) (a2 : Int32) (μ : CS) : Option (Unit × CS) :=
  if a2 < 0 then
    u_X11_feedFour_49 U S N μ
  else
    if (2000 : Int32) ≤ (μ.1 11 0 1) then
      u_X11_feedFour_49 U S N μ
    else
      (wH 2000 μ 11 0 0 (μ.1 11 0 1) (((a1.toUInt32 >>> (a2.toUInt32 &&& Int32.toUInt32 31)).toInt32) &&& 255)).bind fun μ4 =>
      (some (qI μ4 11 0 1 ((μ4.1 11 0 1) + 1))).bind fun μ6 =>
      k3 a1 (a2 + (-8)) μ6
theorem ue_uh_X11_feedFour_3 {μ0 : BM} {ro U S : Nat} (W : Wd μ0 ro U S) {N : Nat} {k3 : (Option Nat) → Int32 → Int32 → Mem → Option (Unit × Mem)} {k3' : Int32 → Int32 → CS → Option (Unit × CS)} (hk3 : ∀ {ya0f : Option Nat} (eya0 : ya0f = (adr μ0 ro U S (11, 0, 0))) (ya1 : Int32) (ya2 : Int32) (s : CS), IM μ0 ro U S id (k3' ya1 ya2 s) (k3 ya0f ya1 ya2 (EC μ0 ro U S s))) {a0f : Option Nat} (ea0 : a0f = (adr μ0 ro U S (11, 0, 0))) (a1 : Int32) (a2 : Int32) (s : CS) : IM μ0 ro U S id (uh_X11_feedFour_3 U S N k3' a1 a2 s) (H_X11_feedFour_3 N k3 a0f a1 a2 (EC μ0 ro U S s)) := by
  unfold H_X11_feedFour_3 uh_X11_feedFour_3
  refine im_if Iff.rfl (fun _ => ?_) (fun _ => ?_)
  · exact ue_u_X11_feedFour_49 W _
  · refine im_fI W (ik_11 U S) (by decide) rfl ea0 ?_
    refine im_if Iff.rfl (fun _ => ?_) (fun _ => ?_)
    · exact ue_u_X11_feedFour_49 W _
    · refine im_fR W (ik_11 U S) (by decide) rfl ea0 fun v2 ev2 => ?_
      refine im_fI W (ik_11 U S) (by decide) rfl ea0 ?_
      refine im_bI (n := 2000) W (ia_11_1 U S) rfl rfl ev2 _ _ fun μ4 => ?_
      refine im_fI W (ik_11 U S) (by decide) rfl ea0 ?_
      refine im_pI W (ik_11 U S) (by decide) rfl ea0 _ ?_
      exact hk3 ea0 _ _ _
def ul_X11_feedFour_3 (U S N : Nat)  : Nat → Int32 → Int32 → CS → Option (Unit × CS)
  | 0 => fun _ _ _ => none
  | n + 1 => uh_X11_feedFour_3 U S N (ul_X11_feedFour_3 U S N n)
theorem ue_ul_X11_feedFour_3 {μ0 : BM} {ro U S : Nat} (W : Wd μ0 ro U S) {N : Nat} : ∀ (n : Nat) {a0f : Option Nat} (ea0 : a0f = (adr μ0 ro U S (11, 0, 0))) (a1 : Int32) (a2 : Int32) (s : CS), IM μ0 ro U S id (ul_X11_feedFour_3 U S N n a1 a2 s) (L_X11_feedFour_3 N n a0f a1 a2 (EC μ0 ro U S s)) := by
  intro n
  induction n with
  | zero => intros; exact im_none
  | succ n ih => intro a0f ea0 a1 a2 s; exact ue_uh_X11_feedFour_3 W ih ea0 _ _ _
def u_X11_feedFour (U S N : Nat) (a1 : Int32) (μ : CS) : Option (Unit × CS) :=
  ul_X11_feedFour_3 U S N N a1 24 μ
theorem ue_u_X11_feedFour {μ0 : BM} {ro U S : Nat} (W : Wd μ0 ro U S) {N : Nat} {a0f : Option Nat} (ea0 : a0f = (adr μ0 ro U S (11, 0, 0))) (a1 : Int32) (s : CS) : IM μ0 ro U S id (u_X11_feedFour U S N a1 s) (f_X11_feedFour N a0f a1 (EC μ0 ro U S s)) := by
  unfold f_X11_feedFour u_X11_feedFour
  exact ue_ul_X11_feedFour_3 W N ea0 _ _ _
def u_X11_feed (U S N : Nat) (a1 : Int32) (a2 : Int32) (a3 : Int32) (a4 : Int32) (a5 : Int32) (μ : CS) : Option (Int32 × CS) :=
  if ((μ.1 11 0 1) + 20) ≤ (2000 : Int32) then
    (u_X11_feedFour U S N a1 μ).bind fun q2 =>
    (u_X11_feedFour U S N a2 q2.2).bind fun q4 =>
    (u_X11_feedFour U S N a3 q4.2).bind fun q6 =>
    (u_X11_feedFour U S N a4 q6.2).bind fun q8 =>
    (u_X11_feedFour U S N a5 q8.2).bind fun q10 =>
    some ((q10.2.1 11 0 1), q10.2)
  else
    some ((-1), μ)
theorem ue_u_X11_feed {μ0 : BM} {ro U S : Nat} (W : Wd μ0 ro U S) {N : Nat} {a0f : Option Nat} (ea0 : a0f = (adr μ0 ro U S (11, 0, 0))) (a1 : Int32) (a2 : Int32) (a3 : Int32) (a4 : Int32) (a5 : Int32) (s : CS) : IM μ0 ro U S id (u_X11_feed U S N a1 a2 a3 a4 a5 s) (f_X11_feed N a0f a1 a2 a3 a4 a5 (EC μ0 ro U S s)) := by
  unfold f_X11_feed u_X11_feed
  refine im_fI W (ik_11 U S) (by decide) rfl ea0 ?_
  refine im_if Iff.rfl (fun _ => ?_) (fun _ => ?_)
  · refine im_ck W (ik_11 U S) ea0 fun b3 eb3 => ?_
    refine im_call (ue_u_X11_feedFour W eb3 _ _) fun q2 => ?_
    dsimp only [id]
    refine im_ck W (ik_11 U S) ea0 fun b5 eb5 => ?_
    refine im_call (ue_u_X11_feedFour W eb5 _ _) fun q4 => ?_
    dsimp only [id]
    refine im_ck W (ik_11 U S) ea0 fun b7 eb7 => ?_
    refine im_call (ue_u_X11_feedFour W eb7 _ _) fun q6 => ?_
    dsimp only [id]
    refine im_ck W (ik_11 U S) ea0 fun b9 eb9 => ?_
    refine im_call (ue_u_X11_feedFour W eb9 _ _) fun q8 => ?_
    dsimp only [id]
    refine im_ck W (ik_11 U S) ea0 fun b11 eb11 => ?_
    refine im_call (ue_u_X11_feedFour W eb11 _ _) fun q10 => ?_
    dsimp only [id]
    refine im_fI W (ik_11 U S) (by decide) rfl ea0 ?_
    exact im_ret rfl
  · exact im_ret rfl
def u_X11_end_12 (U S N : Nat) (μ : CS) : Option (Int32 × CS) :=
  cZ 0 μ
theorem ue_u_X11_end_12 {μ0 : BM} {ro U S : Nat} (W : Wd μ0 ro U S) {N : Nat} (s : CS) : IM μ0 ro U S id (u_X11_end_12 U S N s) (f_X11_end_12 N (EC μ0 ro U S s)) := by
  unfold f_X11_end_12 u_X11_end_12
  exact im_rZ _ _
def u_X11_end (U S N : Nat) (a1 : Int32) (μ : CS) : Option (Int32 × CS) :=
  if a1 < 0 then
    u_X11_end_12 U S N μ
  else
    if a1 ≤ (μ.1 11 0 1) then
      (some (qI μ 11 0 1 a1)).bind fun μ2 =>
      cZ 1 μ2
    else
      u_X11_end_12 U S N μ
theorem ue_u_X11_end {μ0 : BM} {ro U S : Nat} (W : Wd μ0 ro U S) {N : Nat} {a0f : Option Nat} (ea0 : a0f = (adr μ0 ro U S (11, 0, 0))) (a1 : Int32) (s : CS) : IM μ0 ro U S id (u_X11_end U S N a1 s) (f_X11_end N a0f a1 (EC μ0 ro U S s)) := by
  unfold f_X11_end u_X11_end
  refine im_if Iff.rfl (fun _ => ?_) (fun _ => ?_)
  · exact ue_u_X11_end_12 W _
  · refine im_fI W (ik_11 U S) (by decide) rfl ea0 ?_
    refine im_if Iff.rfl (fun _ => ?_) (fun _ => ?_)
    · refine im_pI W (ik_11 U S) (by decide) rfl ea0 _ ?_
      exact im_rZ _ _
    · exact ue_u_X11_end_12 W _
def u_X4_forget (U S N : Nat) (μ : CS) : Option (Unit × CS) :=
  (some (qI μ 4 0 3 53)).bind fun μ1 =>
  (some (qI μ1 4 0 4 0)).bind fun μ2 =>
  some ((), μ2)
theorem ue_u_X4_forget {μ0 : BM} {ro U S : Nat} (W : Wd μ0 ro U S) {N : Nat} {a0f : Option Nat} (ea0 : a0f = (adr μ0 ro U S (4, 0, 0))) (s : CS) : IM μ0 ro U S id (u_X4_forget U S N s) (f_X4_forget N a0f (EC μ0 ro U S s)) := by
  unfold f_X4_forget u_X4_forget
  refine im_pI W (ik_4 U S) (by decide) rfl ea0 _ ?_
  refine im_pI W (ik_4 U S) (by decide) rfl ea0 _ ?_
  exact im_ret rfl
def u_X9_byteAt_22 (U S N : Nat) (s0 : Int32) (μ : CS) : Option (Int32 × CS) :=
  some (s0, μ)
theorem ue_u_X9_byteAt_22 {μ0 : BM} {ro U S : Nat} (W : Wd μ0 ro U S) {N : Nat} (s0 : Int32) (s : CS) : IM μ0 ro U S id (u_X9_byteAt_22 U S N s0 s) (f_X9_byteAt_22 N s0 (EC μ0 ro U S s)) := by
  unfold f_X9_byteAt_22 u_X9_byteAt_22
  exact im_ret rfl
def u_X9_byteAt_12 (U S N : Nat) (μ : CS) : Option (Int32 × CS) :=
  u_X9_byteAt_22 U S N ((-1)) μ
theorem ue_u_X9_byteAt_12 {μ0 : BM} {ro U S : Nat} (W : Wd μ0 ro U S) {N : Nat} (s : CS) : IM μ0 ro U S id (u_X9_byteAt_12 U S N s) (f_X9_byteAt_12 N (EC μ0 ro U S s)) := by
  unfold f_X9_byteAt_12 u_X9_byteAt_12
  exact ue_u_X9_byteAt_22 W _ _
def u_X9_byteAt (U S N : Nat) (a1 : Int32) (μ : CS) : Option (Int32 × CS) :=
  if a1 < 0 then
    u_X9_byteAt_12 U S N μ
  else
    if a1 < (μ.1 9 0 7) then
      (vl 2 (μ.2.2.2.1 9 0 6)).bind fun v2 =>
      (rB μ v2 a1).bind fun v3 =>
      u_X9_byteAt_22 U S N v3 μ
    else
      u_X9_byteAt_12 U S N μ
theorem ue_u_X9_byteAt {μ0 : BM} {ro U S : Nat} (W : Wd μ0 ro U S) {N : Nat} {a0f : Option Nat} (ea0 : a0f = (adr μ0 ro U S (9, 0, 0))) (a1 : Int32) (s : CS) : IM μ0 ro U S id (u_X9_byteAt U S N a1 s) (f_X9_byteAt N a0f a1 (EC μ0 ro U S s)) := by
  unfold f_X9_byteAt u_X9_byteAt
  refine im_if Iff.rfl (fun _ => ?_) (fun _ => ?_)
  · exact ue_u_X9_byteAt_12 W _
  · refine im_fI W (ik_9 U S) (by decide) rfl ea0 ?_
    refine im_if Iff.rfl (fun _ => ?_) (fun _ => ?_)
    · refine im_fB W (ik_9 U S) ea0 fun v2 hv2 v2' ev2 => ?_
      refine im_aB W hv2 ev2 _ fun v3 => ?_
      exact ue_u_X9_byteAt_22 W _ _
    · exact ue_u_X9_byteAt_12 W _
def u_X9_skipBlanks_26 (U S N : Nat) (a2 : Int32) (μ : CS) : Option (Int32 × CS) :=
  some (a2, μ)
theorem ue_u_X9_skipBlanks_26 {μ0 : BM} {ro U S : Nat} (W : Wd μ0 ro U S) {N : Nat} (a2 : Int32) (s : CS) : IM μ0 ro U S id (u_X9_skipBlanks_26 U S N a2 s) (f_X9_skipBlanks_26 N a2 (EC μ0 ro U S s)) := by
  unfold f_X9_skipBlanks_26 u_X9_skipBlanks_26
  exact im_ret rfl
def uh_X9_skipBlanks_2 (U S N : Nat) (k2 : Int32 → CS → Option (Int32 × CS)) (a2 : Int32) (μ : CS) : Option (Int32 × CS) :=
  if (μ.1 9 0 7) ≤ a2 then
    u_X9_skipBlanks_26 U S N a2 μ
  else
    (u_X9_byteAt U S N a2 μ).bind fun q2 =>
    if ¬ q2.1 = (32 : Int32) then
      u_X9_skipBlanks_26 U S N a2 q2.2
    else
      k2 (a2 + 1) q2.2
theorem ue_uh_X9_skipBlanks_2 {μ0 : BM} {ro U S : Nat} (W : Wd μ0 ro U S) {N : Nat} {k2 : (Option Nat) → Int32 → Mem → Option (Int32 × Mem)} {k2' : Int32 → CS → Option (Int32 × CS)} (hk2 : ∀ {ya0f : Option Nat} (eya0 : ya0f = (adr μ0 ro U S (9, 0, 0))) (ya2 : Int32) (s : CS), IM μ0 ro U S id (k2' ya2 s) (k2 ya0f ya2 (EC μ0 ro U S s))) {a0f : Option Nat} (ea0 : a0f = (adr μ0 ro U S (9, 0, 0))) (a2 : Int32) (s : CS) : IM μ0 ro U S id (uh_X9_skipBlanks_2 U S N k2' a2 s) (H_X9_skipBlanks_2 N k2 a0f a2 (EC μ0 ro U S s)) := by
  unfold H_X9_skipBlanks_2 uh_X9_skipBlanks_2
  refine im_fI W (ik_9 U S) (by decide) rfl ea0 ?_
  refine im_if Iff.rfl (fun _ => ?_) (fun _ => ?_)
  · exact ue_u_X9_skipBlanks_26 W _ _
  · refine im_ck W (ik_9 U S) ea0 fun b3 eb3 => ?_
    refine im_call (ue_u_X9_byteAt W eb3 _ _) fun q2 => ?_
    dsimp only [id]
    refine im_if Iff.rfl (fun _ => ?_) (fun _ => ?_)
    · exact ue_u_X9_skipBlanks_26 W _ _
    · exact hk2 ea0 _ _
def ul_X9_skipBlanks_2 (U S N : Nat)  : Nat → Int32 → CS → Option (Int32 × CS)
  | 0 => fun _ _ => none
  | n + 1 => uh_X9_skipBlanks_2 U S N (ul_X9_skipBlanks_2 U S N n)
theorem ue_ul_X9_skipBlanks_2 {μ0 : BM} {ro U S : Nat} (W : Wd μ0 ro U S) {N : Nat} : ∀ (n : Nat) {a0f : Option Nat} (ea0 : a0f = (adr μ0 ro U S (9, 0, 0))) (a2 : Int32) (s : CS), IM μ0 ro U S id (ul_X9_skipBlanks_2 U S N n a2 s) (L_X9_skipBlanks_2 N n a0f a2 (EC μ0 ro U S s)) := by
  intro n
  induction n with
  | zero => intros; exact im_none
  | succ n ih => intro a0f ea0 a2 s; exact ue_uh_X9_skipBlanks_2 W ih ea0 _ _
def u_X9_skipBlanks (U S N : Nat) (a1 : Int32) (μ : CS) : Option (Int32 × CS) :=
  ul_X9_skipBlanks_2 U S N N a1 μ
theorem ue_u_X9_skipBlanks {μ0 : BM} {ro U S : Nat} (W : Wd μ0 ro U S) {N : Nat} {a0f : Option Nat} (ea0 : a0f = (adr μ0 ro U S (9, 0, 0))) (a1 : Int32) (s : CS) : IM μ0 ro U S id (u_X9_skipBlanks U S N a1 s) (f_X9_skipBlanks N a0f a1 (EC μ0 ro U S s)) := by
  unfold f_X9_skipBlanks u_X9_skipBlanks
  exact ue_ul_X9_skipBlanks_2 W N ea0 _ _
def u_X9_skipRemark_51 (U S N : Nat) (μ : CS) : Option (Unit × CS) :=
  some ((), μ)
theorem ue_u_X9_skipRemark_51 {μ0 : BM} {ro U S : Nat} (W : Wd μ0 ro U S) {N : Nat} (s : CS) : IM μ0 ro U S id (u_X9_skipRemark_51 U S N s) (f_X9_skipRemark_51 N (EC μ0 ro U S s)) := by
  unfold f_X9_skipRemark_51 u_X9_skipRemark_51
  exact im_ret rfl
def uh_X9_skipRemark_14 (U S N : Nat) (k14 : CS → Option (Unit × CS)) (μ : CS) : Option (Unit × CS) :=
  if (μ.1 9 0 7) ≤ (μ.1 9 0 8) then
    u_X9_skipRemark_51 U S N μ
  else
    (u_X9_byteAt U S N (μ.1 9 0 8) μ).bind fun q4 =>
    if q4.1 = (10 : Int32) then
      u_X9_skipRemark_51 U S N q4.2
    else
      (some (qI q4.2 9 0 8 ((q4.2.1 9 0 8) + 1))).bind fun μ7 =>
      k14 μ7
theorem ue_uh_X9_skipRemark_14 {μ0 : BM} {ro U S : Nat} (W : Wd μ0 ro U S) {N : Nat} {k14 : (Option Nat) → Mem → Option (Unit × Mem)} {k14' : CS → Option (Unit × CS)} (hk14 : ∀ {ya0f : Option Nat} (eya0 : ya0f = (adr μ0 ro U S (9, 0, 0))) (s : CS), IM μ0 ro U S id (k14'  s) (k14 ya0f (EC μ0 ro U S s))) {a0f : Option Nat} (ea0 : a0f = (adr μ0 ro U S (9, 0, 0))) (s : CS) : IM μ0 ro U S id (uh_X9_skipRemark_14 U S N k14' s) (H_X9_skipRemark_14 N k14 a0f (EC μ0 ro U S s)) := by
  unfold H_X9_skipRemark_14 uh_X9_skipRemark_14
  refine im_fI W (ik_9 U S) (by decide) rfl ea0 ?_
  refine im_fI W (ik_9 U S) (by decide) rfl ea0 ?_
  refine im_if Iff.rfl (fun _ => ?_) (fun _ => ?_)
  · exact ue_u_X9_skipRemark_51 W _
  · refine im_fI W (ik_9 U S) (by decide) rfl ea0 ?_
    refine im_ck W (ik_9 U S) ea0 fun b5 eb5 => ?_
    refine im_call (ue_u_X9_byteAt W eb5 _ _) fun q4 => ?_
    dsimp only [id]
    refine im_if Iff.rfl (fun _ => ?_) (fun _ => ?_)
    · exact ue_u_X9_skipRemark_51 W _
    · refine im_fI W (ik_9 U S) (by decide) rfl ea0 ?_
      refine im_pI W (ik_9 U S) (by decide) rfl ea0 _ ?_
      exact hk14 ea0 _
def ul_X9_skipRemark_14 (U S N : Nat)  : Nat → CS → Option (Unit × CS)
  | 0 => fun _ => none
  | n + 1 => uh_X9_skipRemark_14 U S N (ul_X9_skipRemark_14 U S N n)
theorem ue_ul_X9_skipRemark_14 {μ0 : BM} {ro U S : Nat} (W : Wd μ0 ro U S) {N : Nat} : ∀ (n : Nat) {a0f : Option Nat} (ea0 : a0f = (adr μ0 ro U S (9, 0, 0))) (s : CS), IM μ0 ro U S id (ul_X9_skipRemark_14 U S N n s) (L_X9_skipRemark_14 N n a0f (EC μ0 ro U S s)) := by
  intro n
  induction n with
  | zero => intros; exact im_none
  | succ n ih => intro a0f ea0 s; exact ue_uh_X9_skipRemark_14 W ih ea0 _
def u_X9_skipRemark (U S N : Nat) (μ : CS) : Option (Unit × CS) :=
  (u_X9_byteAt U S N (μ.1 9 0 8) μ).bind fun q2 =>
  if q2.1 = (47 : Int32) then
    ul_X9_skipRemark_14 U S N N q2.2
  else
    some ((), q2.2)
theorem ue_u_X9_skipRemark {μ0 : BM} {ro U S : Nat} (W : Wd μ0 ro U S) {N : Nat} {a0f : Option Nat} (ea0 : a0f = (adr μ0 ro U S (9, 0, 0))) (s : CS) : IM μ0 ro U S id (u_X9_skipRemark U S N s) (f_X9_skipRemark N a0f (EC μ0 ro U S s)) := by
  unfold f_X9_skipRemark u_X9_skipRemark
  refine im_fI W (ik_9 U S) (by decide) rfl ea0 ?_
  refine im_ck W (ik_9 U S) ea0 fun b3 eb3 => ?_
  refine im_call (ue_u_X9_byteAt W eb3 _ _) fun q2 => ?_
  dsimp only [id]
  refine im_if Iff.rfl (fun _ => ?_) (fun _ => ?_)
  · exact ue_ul_X9_skipRemark_14 W N ea0 _
  · exact im_ret rfl
def u_X9_append_66 (U S N : Nat) (a1 : Int32) (a2 : Int32) (μ : CS) : Option (Int32 × CS) :=
  (some (qI μ 9 0 8 a2)).bind fun μ1 =>
  some (a1, μ1)
theorem ue_u_X9_append_66 {μ0 : BM} {ro U S : Nat} (W : Wd μ0 ro U S) {N : Nat} {a0f : Option Nat} (ea0 : a0f = (adr μ0 ro U S (9, 0, 0))) (a1 : Int32) (a2 : Int32) (s : CS) : IM μ0 ro U S id (u_X9_append_66 U S N a1 a2 s) (f_X9_append_66 N a0f a1 a2 (EC μ0 ro U S s)) := by
  unfold f_X9_append_66 u_X9_append_66
  refine im_pI W (ik_9 U S) (by decide) rfl ea0 _ ?_
  exact im_ret rfl
def u_X9_append (U S N : Nat) (a1 : Int32) (a2 : Int32) (a3 : Int32) (a4 : Int32) (μ : CS) : Option (Int32 × CS) :=
  if (nI 2001) ≤ (μ.1 9 0 5) then
    u_X9_append_66 U S N a1 a2 μ
  else
    (wH 2001 μ 9 0 1 (μ.1 9 0 5) a1).bind fun μ6 =>
    (wH 2001 μ6 9 0 2 (μ6.1 9 0 5) (μ6.1 9 0 8)).bind fun μ10 =>
    (wH 2001 μ10 9 0 3 (μ10.1 9 0 5) a3).bind fun μ13 =>
    (wH 2001 μ13 9 0 4 (μ13.1 9 0 5) a4).bind fun μ16 =>
    (some (qI μ16 9 0 5 ((μ16.1 9 0 5) + 1))).bind fun μ18 =>
    u_X9_append_66 U S N a1 a2 μ18
theorem ue_u_X9_append {μ0 : BM} {ro U S : Nat} (W : Wd μ0 ro U S) {N : Nat} {a0f : Option Nat} (ea0 : a0f = (adr μ0 ro U S (9, 0, 0))) (a1 : Int32) (a2 : Int32) (a3 : Int32) (a4 : Int32) (s : CS) : IM μ0 ro U S id (u_X9_append U S N a1 a2 a3 a4 s) (f_X9_append N a0f a1 a2 a3 a4 (EC μ0 ro U S s)) := by
  unfold f_X9_append u_X9_append
  refine im_fI W (ik_9 U S) (by decide) rfl ea0 ?_
  refine im_fR W (ik_9 U S) (by decide) rfl ea0 fun v2 ev2 => ?_
  refine im_al (n := 2001) W (ia_9_2 U S) rfl rfl ev2 ?_
  refine im_if Iff.rfl (fun _ => ?_) (fun _ => ?_)
  · exact ue_u_X9_append_66 W ea0 _ _ _
  · refine im_fR W (ik_9 U S) (by decide) rfl ea0 fun v4 ev4 => ?_
    refine im_fI W (ik_9 U S) (by decide) rfl ea0 ?_
    refine im_bI (n := 2001) W (ia_9_2 U S) rfl rfl ev4 _ _ fun μ6 => ?_
    refine im_fR W (ik_9 U S) (by decide) rfl ea0 fun v7 ev7 => ?_
    refine im_fI W (ik_9 U S) (by decide) rfl ea0 ?_
    refine im_fI W (ik_9 U S) (by decide) rfl ea0 ?_
    refine im_bI (n := 2001) W (ia_9_3 U S) rfl rfl ev7 _ _ fun μ10 => ?_
    refine im_fR W (ik_9 U S) (by decide) rfl ea0 fun v11 ev11 => ?_
    refine im_fI W (ik_9 U S) (by decide) rfl ea0 ?_
    refine im_bI (n := 2001) W (ia_9_4 U S) rfl rfl ev11 _ _ fun μ13 => ?_
    refine im_fR W (ik_9 U S) (by decide) rfl ea0 fun v14 ev14 => ?_
    refine im_fI W (ik_9 U S) (by decide) rfl ea0 ?_
    refine im_bI (n := 2001) W (ia_9_5 U S) rfl rfl ev14 _ _ fun μ16 => ?_
    refine im_fI W (ik_9 U S) (by decide) rfl ea0 ?_
    refine im_pI W (ik_9 U S) (by decide) rfl ea0 _ ?_
    exact ue_u_X9_append_66 W ea0 _ _ _
def u_X9_isLetter_17 (U S N : Nat) (s0 : Int32) (μ : CS) : Option (Int32 × CS) :=
  cZ s0 μ
theorem ue_u_X9_isLetter_17 {μ0 : BM} {ro U S : Nat} (W : Wd μ0 ro U S) {N : Nat} (s0 : Int32) (s : CS) : IM μ0 ro U S id (u_X9_isLetter_17 U S N s0 s) (f_X9_isLetter_17 N s0 (EC μ0 ro U S s)) := by
  unfold f_X9_isLetter_17 u_X9_isLetter_17
  exact im_rZ _ _
def u_X9_isLetter_16 (U S N : Nat) (μ : CS) : Option (Int32 × CS) :=
  u_X9_isLetter_17 U S N 0 μ
theorem ue_u_X9_isLetter_16 {μ0 : BM} {ro U S : Nat} (W : Wd μ0 ro U S) {N : Nat} (s : CS) : IM μ0 ro U S id (u_X9_isLetter_16 U S N s) (f_X9_isLetter_16 N (EC μ0 ro U S s)) := by
  unfold f_X9_isLetter_16 u_X9_isLetter_16
  exact ue_u_X9_isLetter_17 W _ _
def u_X9_isLetter (U S N : Nat) (a0 : Int32) (μ : CS) : Option (Int32 × CS) :=
  if a0 < (65 : Int32) then
    u_X9_isLetter_16 U S N μ
  else
    if (90 : Int32) < a0 then
      u_X9_isLetter_16 U S N μ
    else
      u_X9_isLetter_17 U S N 1 μ
theorem ue_u_X9_isLetter {μ0 : BM} {ro U S : Nat} (W : Wd μ0 ro U S) {N : Nat} (a0 : Int32) (s : CS) : IM μ0 ro U S id (u_X9_isLetter U S N a0 s) (f_X9_isLetter N a0 (EC μ0 ro U S s)) := by
  unfold f_X9_isLetter u_X9_isLetter
  refine im_if Iff.rfl (fun _ => ?_) (fun _ => ?_)
  · exact ue_u_X9_isLetter_16 W _
  · refine im_if Iff.rfl (fun _ => ?_) (fun _ => ?_)
    · exact ue_u_X9_isLetter_16 W _
    · exact ue_u_X9_isLetter_17 W _ _
def u_X9_isDigit_17 (U S N : Nat) (s0 : Int32) (μ : CS) : Option (Int32 × CS) :=
  cZ s0 μ
theorem ue_u_X9_isDigit_17 {μ0 : BM} {ro U S : Nat} (W : Wd μ0 ro U S) {N : Nat} (s0 : Int32) (s : CS) : IM μ0 ro U S id (u_X9_isDigit_17 U S N s0 s) (f_X9_isDigit_17 N s0 (EC μ0 ro U S s)) := by
  unfold f_X9_isDigit_17 u_X9_isDigit_17
  exact im_rZ _ _
def u_X9_isDigit_16 (U S N : Nat) (μ : CS) : Option (Int32 × CS) :=
  u_X9_isDigit_17 U S N 0 μ
theorem ue_u_X9_isDigit_16 {μ0 : BM} {ro U S : Nat} (W : Wd μ0 ro U S) {N : Nat} (s : CS) : IM μ0 ro U S id (u_X9_isDigit_16 U S N s) (f_X9_isDigit_16 N (EC μ0 ro U S s)) := by
  unfold f_X9_isDigit_16 u_X9_isDigit_16
  exact ue_u_X9_isDigit_17 W _ _
def u_X9_isDigit (U S N : Nat) (a0 : Int32) (μ : CS) : Option (Int32 × CS) :=
  if a0 < (48 : Int32) then
    u_X9_isDigit_16 U S N μ
  else
    if (57 : Int32) < a0 then
      u_X9_isDigit_16 U S N μ
    else
      u_X9_isDigit_17 U S N 1 μ
theorem ue_u_X9_isDigit {μ0 : BM} {ro U S : Nat} (W : Wd μ0 ro U S) {N : Nat} (a0 : Int32) (s : CS) : IM μ0 ro U S id (u_X9_isDigit U S N a0 s) (f_X9_isDigit N a0 (EC μ0 ro U S s)) := by
  unfold f_X9_isDigit u_X9_isDigit
  refine im_if Iff.rfl (fun _ => ?_) (fun _ => ?_)
  · exact ue_u_X9_isDigit_16 W _
  · refine im_if Iff.rfl (fun _ => ?_) (fun _ => ?_)
    · exact ue_u_X9_isDigit_16 W _
    · exact ue_u_X9_isDigit_17 W _ _
def uh_X4_numberOf_2 (U S N : Nat) (k2 : Int64 → Int32 → CS → Option (Int32 × CS)) (a1 : Int64) (a3 : Int32) (μ : CS) : Option (Int32 × CS) :=
  if (μ.1 4 0 3) ≤ a3 then
    if (μ.1 4 0 3) < (nI 1054) then
      (wJ μ (μ.1 4 0 3) a1).bind fun μ7 =>
      (wH 1054 μ7 4 0 1 (μ7.1 4 0 3) 0).bind fun μ10 =>
      (wH 1054 μ10 4 0 2 (μ10.1 4 0 3) 0).bind fun μ13 =>
      (some (qI μ13 4 0 3 ((μ13.1 4 0 3) + 1))).bind fun μ15 =>
      some ((μ15.1 4 0 3) - 1, μ15)
    else
      some ((-1), μ)
  else
    (rJ μ a3).bind fun v18 =>
    if ¬ (lg_cmp v18 a1) = 0 then
      k2 a1 (a3 + 1) μ
    else
      some (a3, μ)
theorem ue_uh_X4_numberOf_2 {μ0 : BM} {ro U S : Nat} (W : Wd μ0 ro U S) {N : Nat} {k2 : (Option Nat) → Int64 → Int32 → Mem → Option (Int32 × Mem)} {k2' : Int64 → Int32 → CS → Option (Int32 × CS)} (hk2 : ∀ {ya0f : Option Nat} (eya0 : ya0f = (adr μ0 ro U S (4, 0, 0))) (ya1 : Int64) (ya3 : Int32) (s : CS), IM μ0 ro U S id (k2' ya1 ya3 s) (k2 ya0f ya1 ya3 (EC μ0 ro U S s))) {a0f : Option Nat} (ea0 : a0f = (adr μ0 ro U S (4, 0, 0))) (a1 : Int64) (a3 : Int32) (s : CS) : IM μ0 ro U S id (uh_X4_numberOf_2 U S N k2' a1 a3 s) (H_X4_numberOf_2 N k2 a0f a1 a3 (EC μ0 ro U S s)) := by
  unfold H_X4_numberOf_2 uh_X4_numberOf_2
  refine im_fI W (ik_4 U S) (by decide) rfl ea0 ?_
  refine im_if Iff.rfl (fun _ => ?_) (fun _ => ?_)
  · refine im_fI W (ik_4 U S) (by decide) rfl ea0 ?_
    refine im_fR W (ik_4 U S) (by decide) rfl ea0 fun v3 ev3 => ?_
    refine im_l_let W ev3 ?_
    refine im_if Iff.rfl (fun _ => ?_) (fun _ => ?_)
    · refine im_fR W (ik_4 U S) (by decide) rfl ea0 fun v5 ev5 => ?_
      refine im_fI W (ik_4 U S) (by decide) rfl ea0 ?_
      refine im_bJ W ev5 _ _ fun μ7 => ?_
      refine im_fR W (ik_4 U S) (by decide) rfl ea0 fun v8 ev8 => ?_
      refine im_fI W (ik_4 U S) (by decide) rfl ea0 ?_
      refine im_bI (n := 1054) W (ia_4_2 U S) rfl rfl ev8 _ _ fun μ10 => ?_
      refine im_fR W (ik_4 U S) (by decide) rfl ea0 fun v11 ev11 => ?_
      refine im_fI W (ik_4 U S) (by decide) rfl ea0 ?_
      refine im_bI (n := 1054) W (ia_4_3 U S) rfl rfl ev11 _ _ fun μ13 => ?_
      refine im_fI W (ik_4 U S) (by decide) rfl ea0 ?_
      refine im_pI W (ik_4 U S) (by decide) rfl ea0 _ ?_
      refine im_fI W (ik_4 U S) (by decide) rfl ea0 ?_
      exact im_ret rfl
    · exact im_ret rfl
  · refine im_fR W (ik_4 U S) (by decide) rfl ea0 fun v17 ev17 => ?_
    refine im_aJ W ev17 _ fun v18 => ?_
    refine im_if Iff.rfl (fun _ => ?_) (fun _ => ?_)
    · exact hk2 ea0 _ _ _
    · exact im_ret rfl
def ul_X4_numberOf_2 (U S N : Nat)  : Nat → Int64 → Int32 → CS → Option (Int32 × CS)
  | 0 => fun _ _ _ => none
  | n + 1 => uh_X4_numberOf_2 U S N (ul_X4_numberOf_2 U S N n)
theorem ue_ul_X4_numberOf_2 {μ0 : BM} {ro U S : Nat} (W : Wd μ0 ro U S) {N : Nat} : ∀ (n : Nat) {a0f : Option Nat} (ea0 : a0f = (adr μ0 ro U S (4, 0, 0))) (a1 : Int64) (a3 : Int32) (s : CS), IM μ0 ro U S id (ul_X4_numberOf_2 U S N n a1 a3 s) (L_X4_numberOf_2 N n a0f a1 a3 (EC μ0 ro U S s)) := by
  intro n
  induction n with
  | zero => intros; exact im_none
  | succ n ih => intro a0f ea0 a1 a3 s; exact ue_uh_X4_numberOf_2 W ih ea0 _ _ _
def u_X4_numberOf (U S N : Nat) (a1 : Int64) (μ : CS) : Option (Int32 × CS) :=
  ul_X4_numberOf_2 U S N N a1 0 μ
theorem ue_u_X4_numberOf {μ0 : BM} {ro U S : Nat} (W : Wd μ0 ro U S) {N : Nat} {a0f : Option Nat} (ea0 : a0f = (adr μ0 ro U S (4, 0, 0))) (a1 : Int64) (s : CS) : IM μ0 ro U S id (u_X4_numberOf U S N a1 s) (f_X4_numberOf N a0f a1 (EC μ0 ro U S s)) := by
  unfold f_X4_numberOf u_X4_numberOf
  exact ue_ul_X4_numberOf_2 W N ea0 _ _ _
def u_X9_isPlain_17 (U S N : Nat) (s0 : Int32) (μ : CS) : Option (Int32 × CS) :=
  cZ s0 μ
theorem ue_u_X9_isPlain_17 {μ0 : BM} {ro U S : Nat} (W : Wd μ0 ro U S) {N : Nat} (s0 : Int32) (s : CS) : IM μ0 ro U S id (u_X9_isPlain_17 U S N s0 s) (f_X9_isPlain_17 N s0 (EC μ0 ro U S s)) := by
  unfold f_X9_isPlain_17 u_X9_isPlain_17
  exact im_rZ _ _
def u_X9_isPlain_16 (U S N : Nat) (μ : CS) : Option (Int32 × CS) :=
  u_X9_isPlain_17 U S N 0 μ
theorem ue_u_X9_isPlain_16 {μ0 : BM} {ro U S : Nat} (W : Wd μ0 ro U S) {N : Nat} (s : CS) : IM μ0 ro U S id (u_X9_isPlain_16 U S N s) (f_X9_isPlain_16 N (EC μ0 ro U S s)) := by
  unfold f_X9_isPlain_16 u_X9_isPlain_16
  exact ue_u_X9_isPlain_17 W _ _
def u_X9_isPlain (U S N : Nat) (a0 : Int32) (μ : CS) : Option (Int32 × CS) :=
  if a0 < (32 : Int32) then
    u_X9_isPlain_16 U S N μ
  else
    if (126 : Int32) < a0 then
      u_X9_isPlain_16 U S N μ
    else
      u_X9_isPlain_17 U S N 1 μ
theorem ue_u_X9_isPlain {μ0 : BM} {ro U S : Nat} (W : Wd μ0 ro U S) {N : Nat} (a0 : Int32) (s : CS) : IM μ0 ro U S id (u_X9_isPlain U S N a0 s) (f_X9_isPlain N a0 (EC μ0 ro U S s)) := by
  unfold f_X9_isPlain u_X9_isPlain
  refine im_if Iff.rfl (fun _ => ?_) (fun _ => ?_)
  · exact ue_u_X9_isPlain_16 W _
  · refine im_if Iff.rfl (fun _ => ?_) (fun _ => ?_)
    · exact ue_u_X9_isPlain_16 W _
    · exact ue_u_X9_isPlain_17 W _ _
def u_X9_scanText_67 (U S N : Nat) (a1 : Int32) (μ : CS) : Option (Int32 × CS) :=
  (u_X9_append U S N 5 a1 0 0 μ).bind fun q1 =>
  some (q1.1, q1.2)
theorem ue_u_X9_scanText_67 {μ0 : BM} {ro U S : Nat} (W : Wd μ0 ro U S) {N : Nat} {a0f : Option Nat} (ea0 : a0f = (adr μ0 ro U S (9, 0, 0))) (a1 : Int32) (s : CS) : IM μ0 ro U S id (u_X9_scanText_67 U S N a1 s) (f_X9_scanText_67 N a0f a1 (EC μ0 ro U S s)) := by
  unfold f_X9_scanText_67 u_X9_scanText_67
  refine im_ck W (ik_9 U S) ea0 fun b2 eb2 => ?_
  refine im_call (ue_u_X9_append W eb2 _ _ _ _ _) fun q1 => ?_
  dsimp only [id]
  exact im_ret rfl
def uh_X9_scanText_20 (U S N : Nat) (k20 : Int32 → Int32 → Int32 → CS → Option (Int32 × CS)) (a1 : Int32) (a2 : Int32) (a3 : Int32) (μ : CS) : Option (Int32 × CS) :=
  if (μ.1 9 0 7) ≤ a3 then
    u_X9_scanText_67 U S N a1 μ
  else
    (u_X9_byteAt U S N a3 μ).bind fun q2 =>
    (u_X9_isPlain U S N q2.1 q2.2).bind fun q4 =>
    if q4.1 = 0 then
      u_X9_scanText_67 U S N a1 q4.2
    else
      (u_X9_byteAt U S N a3 q4.2).bind fun q5 =>
      if ¬ q5.1 = a2 then
        k20 a1 a2 (a3 + 1) q5.2
      else
        (u_X9_append U S N 4 (a3 + 1) (a1 + 1) a3 q5.2).bind fun q7 =>
        some (q7.1, q7.2)
theorem ue_uh_X9_scanText_20 {μ0 : BM} {ro U S : Nat} (W : Wd μ0 ro U S) {N : Nat} {k20 : (Option Nat) → Int32 → Int32 → Int32 → Mem → Option (Int32 × Mem)} {k20' : Int32 → Int32 → Int32 → CS → Option (Int32 × CS)} (hk20 : ∀ {ya0f : Option Nat} (eya0 : ya0f = (adr μ0 ro U S (9, 0, 0))) (ya1 : Int32) (ya2 : Int32) (ya3 : Int32) (s : CS), IM μ0 ro U S id (k20' ya1 ya2 ya3 s) (k20 ya0f ya1 ya2 ya3 (EC μ0 ro U S s))) {a0f : Option Nat} (ea0 : a0f = (adr μ0 ro U S (9, 0, 0))) (a1 : Int32) (a2 : Int32) (a3 : Int32) (s : CS) : IM μ0 ro U S id (uh_X9_scanText_20 U S N k20' a1 a2 a3 s) (H_X9_scanText_20 N k20 a0f a1 a2 a3 (EC μ0 ro U S s)) := by
  unfold H_X9_scanText_20 uh_X9_scanText_20
  refine im_fI W (ik_9 U S) (by decide) rfl ea0 ?_
  refine im_if Iff.rfl (fun _ => ?_) (fun _ => ?_)
  · exact ue_u_X9_scanText_67 W ea0 _ _
  · refine im_ck W (ik_9 U S) ea0 fun b3 eb3 => ?_
    refine im_call (ue_u_X9_byteAt W eb3 _ _) fun q2 => ?_
    dsimp only [id]
    refine im_call (ue_u_X9_isPlain W _ _) fun q4 => ?_
    dsimp only [id]
    refine im_if Iff.rfl (fun _ => ?_) (fun _ => ?_)
    · exact ue_u_X9_scanText_67 W ea0 _ _
    · refine im_ck W (ik_9 U S) ea0 fun b6 eb6 => ?_
      refine im_call (ue_u_X9_byteAt W eb6 _ _) fun q5 => ?_
      dsimp only [id]
      refine im_if Iff.rfl (fun _ => ?_) (fun _ => ?_)
      · exact hk20 ea0 _ _ _ _
      · refine im_ck W (ik_9 U S) ea0 fun b8 eb8 => ?_
        refine im_call (ue_u_X9_append W eb8 _ _ _ _ _) fun q7 => ?_
        dsimp only [id]
        exact im_ret rfl
def ul_X9_scanText_20 (U S N : Nat)  : Nat → Int32 → Int32 → Int32 → CS → Option (Int32 × CS)
  | 0 => fun _ _ _ _ => none
  | n + 1 => uh_X9_scanText_20 U S N (ul_X9_scanText_20 U S N n)
theorem ue_ul_X9_scanText_20 {μ0 : BM} {ro U S : Nat} (W : Wd μ0 ro U S) {N : Nat} : ∀ (n : Nat) {a0f : Option Nat} (ea0 : a0f = (adr μ0 ro U S (9, 0, 0))) (a1 : Int32) (a2 : Int32) (a3 : Int32) (s : CS), IM μ0 ro U S id (ul_X9_scanText_20 U S N n a1 a2 a3 s) (L_X9_scanText_20 N n a0f a1 a2 a3 (EC μ0 ro U S s)) := by
  intro n
  induction n with
  | zero => intros; exact im_none
  | succ n ih => intro a0f ea0 a1 a2 a3 s; exact ue_uh_X9_scanText_20 W ih ea0 _ _ _ _
def u_X9_scanText (U S N : Nat) (a1 : Int32) (a2 : Int32) (μ : CS) : Option (Int32 × CS) :=
  (u_X9_isPlain U S N a2 μ).bind fun q1 =>
  if ¬ q1.1 = 0 then
    ul_X9_scanText_20 U S N N a1 a2 (a1 + 1) q1.2
  else
    (u_X9_append U S N 5 a1 0 0 q1.2).bind fun q2 =>
    some (q2.1, q2.2)
theorem ue_u_X9_scanText {μ0 : BM} {ro U S : Nat} (W : Wd μ0 ro U S) {N : Nat} {a0f : Option Nat} (ea0 : a0f = (adr μ0 ro U S (9, 0, 0))) (a1 : Int32) (a2 : Int32) (s : CS) : IM μ0 ro U S id (u_X9_scanText U S N a1 a2 s) (f_X9_scanText N a0f a1 a2 (EC μ0 ro U S s)) := by
  unfold f_X9_scanText u_X9_scanText
  refine im_call (ue_u_X9_isPlain W _ _) fun q1 => ?_
  dsimp only [id]
  refine im_if Iff.rfl (fun _ => ?_) (fun _ => ?_)
  · exact ue_ul_X9_scanText_20 W N ea0 _ _ _ _
  · refine im_ck W (ik_9 U S) ea0 fun b3 eb3 => ?_
    refine im_call (ue_u_X9_append W eb3 _ _ _ _ _) fun q2 => ?_
    dsimp only [id]
    exact im_ret rfl
def u_X9_scanName_128 (U S N : Nat) (a3 : Int32) (a4 : Int32) (μ : CS) : Option (Int32 × CS) :=
  (u_X9_append U S N 1 a3 a4 0 μ).bind fun q1 =>
  some (q1.1, q1.2)
theorem ue_u_X9_scanName_128 {μ0 : BM} {ro U S : Nat} (W : Wd μ0 ro U S) {N : Nat} {a0f : Option Nat} (ea0 : a0f = (adr μ0 ro U S (9, 0, 0))) (a3 : Int32) (a4 : Int32) (s : CS) : IM μ0 ro U S id (u_X9_scanName_128 U S N a3 a4 s) (f_X9_scanName_128 N a0f a3 a4 (EC μ0 ro U S s)) := by
  unfold f_X9_scanName_128 u_X9_scanName_128
  refine im_ck W (ik_9 U S) ea0 fun b2 eb2 => ?_
  refine im_call (ue_u_X9_append W eb2 _ _ _ _ _) fun q1 => ?_
  dsimp only [id]
  exact im_ret rfl
def u_X9_scanName_53 (U S N : Nat) (a1 : Int64) (a3 : Int32) (μ : CS) : Option (Int32 × CS) :=
  if (a3 - (μ.1 9 0 8)) ≤ (7 : Int32) then
    (u_X4_numberOf U S N a1 μ).bind fun q3 =>
    if ¬ q3.1 = (4 : Int32) then
      u_X9_scanName_128 U S N a3 q3.1 q3.2
    else
      (u_X9_skipBlanks U S N a3 q3.2).bind fun q5 =>
      (u_X9_byteAt U S N q5.1 q5.2).bind fun q7 =>
      if q7.1 = (44 : Int32) then
        u_X9_scanName_128 U S N a3 q3.1 q7.2
      else
        if q7.1 = (61 : Int32) then
          u_X9_scanName_128 U S N a3 q3.1 q7.2
        else
          (u_X9_scanText U S N q5.1 q7.1 q7.2).bind fun q9 =>
          some (q9.1, q9.2)
  else
    (u_X9_append U S N 6 a3 0 0 μ).bind fun q11 =>
    some (q11.1, q11.2)
theorem ue_u_X9_scanName_53 {μ0 : BM} {ro U S : Nat} (W : Wd μ0 ro U S) {N : Nat} {a0f : Option Nat} (ea0 : a0f = (adr μ0 ro U S (9, 0, 0))) (a1 : Int64) (a3 : Int32) (s : CS) : IM μ0 ro U S id (u_X9_scanName_53 U S N a1 a3 s) (f_X9_scanName_53 N a0f a1 a3 (EC μ0 ro U S s)) := by
  unfold f_X9_scanName_53 u_X9_scanName_53
  refine im_fI W (ik_9 U S) (by decide) rfl ea0 ?_
  refine im_if Iff.rfl (fun _ => ?_) (fun _ => ?_)
  · refine im_fR W (ik_9 U S) (by decide) rfl ea0 fun v2 ev2 => ?_
    refine im_ck W (ik_4 U S) ev2 fun b4 eb4 => ?_
    refine im_call (ue_u_X4_numberOf W eb4 _ _) fun q3 => ?_
    dsimp only [id]
    refine im_if Iff.rfl (fun _ => ?_) (fun _ => ?_)
    · exact ue_u_X9_scanName_128 W ea0 _ _ _
    · refine im_ck W (ik_9 U S) ea0 fun b6 eb6 => ?_
      refine im_call (ue_u_X9_skipBlanks W eb6 _ _) fun q5 => ?_
      dsimp only [id]
      refine im_ck W (ik_9 U S) ea0 fun b8 eb8 => ?_
      refine im_call (ue_u_X9_byteAt W eb8 _ _) fun q7 => ?_
      dsimp only [id]
      refine im_if Iff.rfl (fun _ => ?_) (fun _ => ?_)
      · exact ue_u_X9_scanName_128 W ea0 _ _ _
      · refine im_if Iff.rfl (fun _ => ?_) (fun _ => ?_)
        · exact ue_u_X9_scanName_128 W ea0 _ _ _
        · refine im_ck W (ik_9 U S) ea0 fun b10 eb10 => ?_
          refine im_call (ue_u_X9_scanText W eb10 _ _ _) fun q9 => ?_
          dsimp only [id]
          exact im_ret rfl
  · refine im_ck W (ik_9 U S) ea0 fun b12 eb12 => ?_
    refine im_call (ue_u_X9_append W eb12 _ _ _ _ _) fun q11 => ?_
    dsimp only [id]
    exact im_ret rfl
def u_X9_scanName_37 (U S N : Nat) (k7 : Int64 → Int32 → CS → Option (Int32 × CS)) (a1 : Int64) (a3 : Int32) (μ : CS) : Option (Int32 × CS) :=
  (u_X9_byteAt U S N a3 μ).bind fun q1 =>
  (u_X4_withLetter U S N a1 q1.1 q1.2).bind fun q3 =>
  k7 q3.1 (a3 + 1) q3.2
theorem ue_u_X9_scanName_37 {μ0 : BM} {ro U S : Nat} (W : Wd μ0 ro U S) {N : Nat} {k7 : (Option Nat) → Int64 → Int32 → Mem → Option (Int32 × Mem)} {k7' : Int64 → Int32 → CS → Option (Int32 × CS)} (hk7 : ∀ {ya0f : Option Nat} (eya0 : ya0f = (adr μ0 ro U S (9, 0, 0))) (ya1 : Int64) (ya3 : Int32) (s : CS), IM μ0 ro U S id (k7' ya1 ya3 s) (k7 ya0f ya1 ya3 (EC μ0 ro U S s))) {a0f : Option Nat} (ea0 : a0f = (adr μ0 ro U S (9, 0, 0))) (a1 : Int64) (a3 : Int32) (s : CS) : IM μ0 ro U S id (u_X9_scanName_37 U S N k7' a1 a3 s) (f_X9_scanName_37 N k7 a0f a1 a3 (EC μ0 ro U S s)) := by
  unfold f_X9_scanName_37 u_X9_scanName_37
  refine im_ck W (ik_9 U S) ea0 fun b2 eb2 => ?_
  refine im_call (ue_u_X9_byteAt W eb2 _ _) fun q1 => ?_
  dsimp only [id]
  refine im_call (ue_u_X4_withLetter W _ _ _) fun q3 => ?_
  dsimp only [id]
  exact hk7 ea0 _ _ _
def uh_X9_scanName_7 (U S N : Nat) (k7 : Int64 → Int32 → CS → Option (Int32 × CS)) (a1 : Int64) (a3 : Int32) (μ : CS) : Option (Int32 × CS) :=
  if (μ.1 9 0 7) ≤ a3 then
    u_X9_scanName_53 U S N a1 a3 μ
  else
    (u_X9_byteAt U S N a3 μ).bind fun q2 =>
    (u_X9_isLetter U S N q2.1 q2.2).bind fun q4 =>
    if ¬ q4.1 = 0 then
      u_X9_scanName_37 U S N k7 a1 a3 q4.2
    else
      (u_X9_byteAt U S N a3 q4.2).bind fun q5 =>
      (u_X9_isDigit U S N q5.1 q5.2).bind fun q7 =>
      if q7.1 = 0 then
        u_X9_scanName_53 U S N a1 a3 q7.2
      else
        u_X9_scanName_37 U S N k7 a1 a3 q7.2
theorem ue_uh_X9_scanName_7 {μ0 : BM} {ro U S : Nat} (W : Wd μ0 ro U S) {N : Nat} {k7 : (Option Nat) → Int64 → Int32 → Mem → Option (Int32 × Mem)} {k7' : Int64 → Int32 → CS → Option (Int32 × CS)} (hk7 : ∀ {ya0f : Option Nat} (eya0 : ya0f = (adr μ0 ro U S (9, 0, 0))) (ya1 : Int64) (ya3 : Int32) (s : CS), IM μ0 ro U S id (k7' ya1 ya3 s) (k7 ya0f ya1 ya3 (EC μ0 ro U S s))) {a0f : Option Nat} (ea0 : a0f = (adr μ0 ro U S (9, 0, 0))) (a1 : Int64) (a3 : Int32) (s : CS) : IM μ0 ro U S id (uh_X9_scanName_7 U S N k7' a1 a3 s) (H_X9_scanName_7 N k7 a0f a1 a3 (EC μ0 ro U S s)) := by
  unfold H_X9_scanName_7 uh_X9_scanName_7
  refine im_fI W (ik_9 U S) (by decide) rfl ea0 ?_
  refine im_if Iff.rfl (fun _ => ?_) (fun _ => ?_)
  · exact ue_u_X9_scanName_53 W ea0 _ _ _
  · refine im_ck W (ik_9 U S) ea0 fun b3 eb3 => ?_
    refine im_call (ue_u_X9_byteAt W eb3 _ _) fun q2 => ?_
    dsimp only [id]
    refine im_call (ue_u_X9_isLetter W _ _) fun q4 => ?_
    dsimp only [id]
    refine im_if Iff.rfl (fun _ => ?_) (fun _ => ?_)
    · exact ue_u_X9_scanName_37 W hk7 ea0 _ _ _
    · refine im_ck W (ik_9 U S) ea0 fun b6 eb6 => ?_
      refine im_call (ue_u_X9_byteAt W eb6 _ _) fun q5 => ?_
      dsimp only [id]
      refine im_call (ue_u_X9_isDigit W _ _) fun q7 => ?_
      dsimp only [id]
      refine im_if Iff.rfl (fun _ => ?_) (fun _ => ?_)
      · exact ue_u_X9_scanName_53 W ea0 _ _ _
      · exact ue_u_X9_scanName_37 W hk7 ea0 _ _ _
def ul_X9_scanName_7 (U S N : Nat)  : Nat → Int64 → Int32 → CS → Option (Int32 × CS)
  | 0 => fun _ _ _ => none
  | n + 1 => uh_X9_scanName_7 U S N (ul_X9_scanName_7 U S N n)
theorem ue_ul_X9_scanName_7 {μ0 : BM} {ro U S : Nat} (W : Wd μ0 ro U S) {N : Nat} : ∀ (n : Nat) {a0f : Option Nat} (ea0 : a0f = (adr μ0 ro U S (9, 0, 0))) (a1 : Int64) (a3 : Int32) (s : CS), IM μ0 ro U S id (ul_X9_scanName_7 U S N n a1 a3 s) (L_X9_scanName_7 N n a0f a1 a3 (EC μ0 ro U S s)) := by
  intro n
  induction n with
  | zero => intros; exact im_none
  | succ n ih => intro a0f ea0 a1 a3 s; exact ue_uh_X9_scanName_7 W ih ea0 _ _ _
def u_X9_scanName (U S N : Nat) (μ : CS) : Option (Int32 × CS) :=
  ul_X9_scanName_7 U S N N 0 (μ.1 9 0 8) μ
theorem ue_u_X9_scanName {μ0 : BM} {ro U S : Nat} (W : Wd μ0 ro U S) {N : Nat} {a0f : Option Nat} (ea0 : a0f = (adr μ0 ro U S (9, 0, 0))) (s : CS) : IM μ0 ro U S id (u_X9_scanName U S N s) (f_X9_scanName N a0f (EC μ0 ro U S s)) := by
  unfold f_X9_scanName u_X9_scanName
  refine im_fI W (ik_9 U S) (by decide) rfl ea0 ?_
  exact ue_ul_X9_scanName_7 W N ea0 _ _ _
def u_X9_scanNumber_122 (U S N : Nat) (s1 : Int32) (s2 : Int32) (s3 : Int32) (s4 : Int32) (μ : CS) : Option (Int32 × CS) :=
  (u_X9_append U S N s1 s2 s3 s4 μ).bind fun q1 =>
  some (q1.1, q1.2)
theorem ue_u_X9_scanNumber_122 {μ0 : BM} {ro U S : Nat} (W : Wd μ0 ro U S) {N : Nat} {s0f : Option Nat} (es0 : s0f = (adr μ0 ro U S (9, 0, 0))) (s1 : Int32) (s2 : Int32) (s3 : Int32) (s4 : Int32) (s : CS) : IM μ0 ro U S id (u_X9_scanNumber_122 U S N s1 s2 s3 s4 s) (f_X9_scanNumber_122 N s0f s1 s2 s3 s4 (EC μ0 ro U S s)) := by
  unfold f_X9_scanNumber_122 u_X9_scanNumber_122
  refine im_ck W (ik_9 U S) es0 fun b2 eb2 => ?_
  refine im_call (ue_u_X9_append W eb2 _ _ _ _ _) fun q1 => ?_
  dsimp only [id]
  exact im_ret rfl
def u_X9_scanNumber_86 (U S N : Nat) (a1 : Int32) (a2 : Int32) (a3 : Int32) (μ : CS) : Option (Int32 × CS) :=
  if (a3 - (μ.1 9 0 8)) ≤ (4 : Int32) then
    if a2 ≤ (4095 : Int32) then
      u_X9_scanNumber_122 U S N 2 a3 a1 a2 μ
    else
      u_X9_scanNumber_122 U S N 2 a3 a1 ((-1)) μ
  else
    (u_X9_append U S N 6 a3 0 0 μ).bind fun q2 =>
    some (q2.1, q2.2)
theorem ue_u_X9_scanNumber_86 {μ0 : BM} {ro U S : Nat} (W : Wd μ0 ro U S) {N : Nat} {a0f : Option Nat} (ea0 : a0f = (adr μ0 ro U S (9, 0, 0))) (a1 : Int32) (a2 : Int32) (a3 : Int32) (s : CS) : IM μ0 ro U S id (u_X9_scanNumber_86 U S N a1 a2 a3 s) (f_X9_scanNumber_86 N a0f a1 a2 a3 (EC μ0 ro U S s)) := by
  unfold f_X9_scanNumber_86 u_X9_scanNumber_86
  refine im_fI W (ik_9 U S) (by decide) rfl ea0 ?_
  refine im_if Iff.rfl (fun _ => ?_) (fun _ => ?_)
  · refine im_if Iff.rfl (fun _ => ?_) (fun _ => ?_)
    · exact ue_u_X9_scanNumber_122 W ea0 _ _ _ _ _
    · exact ue_u_X9_scanNumber_122 W ea0 _ _ _ _ _
  · refine im_ck W (ik_9 U S) ea0 fun b3 eb3 => ?_
    refine im_call (ue_u_X9_append W eb3 _ _ _ _ _) fun q2 => ?_
    dsimp only [id]
    exact im_ret rfl
def u_X9_scanNumber_71 (U S N : Nat) (k9 : Int32 → Int32 → Int32 → CS → Option (Int32 × CS)) (a2 : Int32) (a3 : Int32) (a4 : Int32) (s0 : Int32) (μ : CS) : Option (Int32 × CS) :=
  k9 s0 ((a2 * 10) + a4) (a3 + 1) μ
theorem ue_u_X9_scanNumber_71 {μ0 : BM} {ro U S : Nat} (W : Wd μ0 ro U S) {N : Nat} {k9 : (Option Nat) → Int32 → Int32 → Int32 → Mem → Option (Int32 × Mem)} {k9' : Int32 → Int32 → Int32 → CS → Option (Int32 × CS)} (hk9 : ∀ {ya0f : Option Nat} (eya0 : ya0f = (adr μ0 ro U S (9, 0, 0))) (ya1 : Int32) (ya2 : Int32) (ya3 : Int32) (s : CS), IM μ0 ro U S id (k9' ya1 ya2 ya3 s) (k9 ya0f ya1 ya2 ya3 (EC μ0 ro U S s))) {a0f : Option Nat} (ea0 : a0f = (adr μ0 ro U S (9, 0, 0))) (a2 : Int32) (a3 : Int32) (a4 : Int32) (s0 : Int32) (s : CS) : IM μ0 ro U S id (u_X9_scanNumber_71 U S N k9' a2 a3 a4 s0 s) (f_X9_scanNumber_71 N k9 a0f a2 a3 a4 s0 (EC μ0 ro U S s)) := by
  unfold f_X9_scanNumber_71 u_X9_scanNumber_71
  exact hk9 ea0 _ _ _ _
def u_X9_scanNumber_60 (U S N : Nat) (k9 : Int32 → Int32 → Int32 → CS → Option (Int32 × CS)) (a2 : Int32) (a3 : Int32) (a4 : Int32) (μ : CS) : Option (Int32 × CS) :=
  u_X9_scanNumber_71 U S N k9 a2 a3 a4 ((-1)) μ
theorem ue_u_X9_scanNumber_60 {μ0 : BM} {ro U S : Nat} (W : Wd μ0 ro U S) {N : Nat} {k9 : (Option Nat) → Int32 → Int32 → Int32 → Mem → Option (Int32 × Mem)} {k9' : Int32 → Int32 → Int32 → CS → Option (Int32 × CS)} (hk9 : ∀ {ya0f : Option Nat} (eya0 : ya0f = (adr μ0 ro U S (9, 0, 0))) (ya1 : Int32) (ya2 : Int32) (ya3 : Int32) (s : CS), IM μ0 ro U S id (k9' ya1 ya2 ya3 s) (k9 ya0f ya1 ya2 ya3 (EC μ0 ro U S s))) {a0f : Option Nat} (ea0 : a0f = (adr μ0 ro U S (9, 0, 0))) (a2 : Int32) (a3 : Int32) (a4 : Int32) (s : CS) : IM μ0 ro U S id (u_X9_scanNumber_60 U S N k9' a2 a3 a4 s) (f_X9_scanNumber_60 N k9 a0f a2 a3 a4 (EC μ0 ro U S s)) := by
  unfold f_X9_scanNumber_60 u_X9_scanNumber_60
  exact ue_u_X9_scanNumber_71 W hk9 ea0 _ _ _ _ _
def uh_X9_scanNumber_9 (U S N : Nat) (k9 : Int32 → Int32 → Int32 → CS → Option (Int32 × CS)) (a1 : Int32) (a2 : Int32) (a3 : Int32) (μ : CS) : Option (Int32 × CS) :=
  if (μ.1 9 0 7) ≤ a3 then
    u_X9_scanNumber_86 U S N a1 a2 a3 μ
  else
    if (4 : Int32) < (a3 - (μ.1 9 0 8)) then
      u_X9_scanNumber_86 U S N a1 a2 a3 μ
    else
      (u_X9_byteAt U S N a3 μ).bind fun q3 =>
      (u_X9_isDigit U S N q3.1 q3.2).bind fun q5 =>
      if q5.1 = 0 then
        u_X9_scanNumber_86 U S N a1 a2 a3 q5.2
      else
        (u_X9_byteAt U S N a3 q5.2).bind fun q6 =>
        if a1 = (((-1)) : Int32) then
          u_X9_scanNumber_60 U S N k9 a2 a3 (q6.1 - 48) q6.2
        else
          if (q6.1 - 48) ≤ (7 : Int32) then
            u_X9_scanNumber_71 U S N k9 a2 a3 (q6.1 - 48) ((a1 * 8) + (q6.1 - 48)) q6.2
          else
            u_X9_scanNumber_60 U S N k9 a2 a3 (q6.1 - 48) q6.2
theorem ue_uh_X9_scanNumber_9 {μ0 : BM} {ro U S : Nat} (W : Wd μ0 ro U S) {N : Nat} {k9 : (Option Nat) → Int32 → Int32 → Int32 → Mem → Option (Int32 × Mem)} {k9' : Int32 → Int32 → Int32 → CS → Option (Int32 × CS)} (hk9 : ∀ {ya0f : Option Nat} (eya0 : ya0f = (adr μ0 ro U S (9, 0, 0))) (ya1 : Int32) (ya2 : Int32) (ya3 : Int32) (s : CS), IM μ0 ro U S id (k9' ya1 ya2 ya3 s) (k9 ya0f ya1 ya2 ya3 (EC μ0 ro U S s))) {a0f : Option Nat} (ea0 : a0f = (adr μ0 ro U S (9, 0, 0))) (a1 : Int32) (a2 : Int32) (a3 : Int32) (s : CS) : IM μ0 ro U S id (uh_X9_scanNumber_9 U S N k9' a1 a2 a3 s) (H_X9_scanNumber_9 N k9 a0f a1 a2 a3 (EC μ0 ro U S s)) := by
  unfold H_X9_scanNumber_9 uh_X9_scanNumber_9
  refine im_fI W (ik_9 U S) (by decide) rfl ea0 ?_
  refine im_if Iff.rfl (fun _ => ?_) (fun _ => ?_)
  · exact ue_u_X9_scanNumber_86 W ea0 _ _ _ _
  · refine im_fI W (ik_9 U S) (by decide) rfl ea0 ?_
    refine im_if Iff.rfl (fun _ => ?_) (fun _ => ?_)
    · exact ue_u_X9_scanNumber_86 W ea0 _ _ _ _
    · refine im_ck W (ik_9 U S) ea0 fun b4 eb4 => ?_
      refine im_call (ue_u_X9_byteAt W eb4 _ _) fun q3 => ?_
      dsimp only [id]
      refine im_call (ue_u_X9_isDigit W _ _) fun q5 => ?_
      dsimp only [id]
      refine im_if Iff.rfl (fun _ => ?_) (fun _ => ?_)
      · exact ue_u_X9_scanNumber_86 W ea0 _ _ _ _
      · refine im_ck W (ik_9 U S) ea0 fun b7 eb7 => ?_
        refine im_call (ue_u_X9_byteAt W eb7 _ _) fun q6 => ?_
        dsimp only [id]
        refine im_if Iff.rfl (fun _ => ?_) (fun _ => ?_)
        · exact ue_u_X9_scanNumber_60 W hk9 ea0 _ _ _ _
        · refine im_if Iff.rfl (fun _ => ?_) (fun _ => ?_)
          · exact ue_u_X9_scanNumber_71 W hk9 ea0 _ _ _ _ _
          · exact ue_u_X9_scanNumber_60 W hk9 ea0 _ _ _ _
def ul_X9_scanNumber_9 (U S N : Nat)  : Nat → Int32 → Int32 → Int32 → CS → Option (Int32 × CS)
  | 0 => fun _ _ _ _ => none
  | n + 1 => uh_X9_scanNumber_9 U S N (ul_X9_scanNumber_9 U S N n)
theorem ue_ul_X9_scanNumber_9 {μ0 : BM} {ro U S : Nat} (W : Wd μ0 ro U S) {N : Nat} : ∀ (n : Nat) {a0f : Option Nat} (ea0 : a0f = (adr μ0 ro U S (9, 0, 0))) (a1 : Int32) (a2 : Int32) (a3 : Int32) (s : CS), IM μ0 ro U S id (ul_X9_scanNumber_9 U S N n a1 a2 a3 s) (L_X9_scanNumber_9 N n a0f a1 a2 a3 (EC μ0 ro U S s)) := by
  intro n
  induction n with
  | zero => intros; exact im_none
  | succ n ih => intro a0f ea0 a1 a2 a3 s; exact ue_uh_X9_scanNumber_9 W ih ea0 _ _ _ _
def u_X9_scanNumber (U S N : Nat) (μ : CS) : Option (Int32 × CS) :=
  ul_X9_scanNumber_9 U S N N 0 0 (μ.1 9 0 8) μ
theorem ue_u_X9_scanNumber {μ0 : BM} {ro U S : Nat} (W : Wd μ0 ro U S) {N : Nat} {a0f : Option Nat} (ea0 : a0f = (adr μ0 ro U S (9, 0, 0))) (s : CS) : IM μ0 ro U S id (u_X9_scanNumber U S N s) (f_X9_scanNumber N a0f (EC μ0 ro U S s)) := by
  unfold f_X9_scanNumber u_X9_scanNumber
  refine im_fI W (ik_9 U S) (by decide) rfl ea0 ?_
  exact ue_ul_X9_scanNumber_9 W N ea0 _ _ _ _
def u_X9_scanToken_157 (U S N : Nat) (s1 : Int32) (μ : CS) : Option (Int32 × CS) :=
  (u_X9_append U S N s1 ((μ.1 9 0 8) + 1) 0 0 μ).bind fun q2 =>
  some (q2.1, q2.2)
theorem ue_u_X9_scanToken_157 {μ0 : BM} {ro U S : Nat} (W : Wd μ0 ro U S) {N : Nat} {a0f : Option Nat} (ea0 : a0f = (adr μ0 ro U S (9, 0, 0))) {s0f : Option Nat} (es0 : s0f = (adr μ0 ro U S (9, 0, 0))) (s1 : Int32) (s : CS) : IM μ0 ro U S id (u_X9_scanToken_157 U S N s1 s) (f_X9_scanToken_157 N a0f s0f s1 (EC μ0 ro U S s)) := by
  unfold f_X9_scanToken_157 u_X9_scanToken_157
  refine im_fI W (ik_9 U S) (by decide) rfl ea0 ?_
  refine im_ck W (ik_9 U S) es0 fun b3 eb3 => ?_
  refine im_call (ue_u_X9_append W eb3 _ _ _ _ _) fun q2 => ?_
  dsimp only [id]
  exact im_ret rfl
def u_X9_scanToken_145 (U S N : Nat) (a1 : Int32) (s0 : Int32) (μ : CS) : Option (Int32 × CS) :=
  if s0 = 0 then
    u_X9_scanToken_157 U S N 6 μ
  else
    u_X9_scanToken_157 U S N a1 μ
theorem ue_u_X9_scanToken_145 {μ0 : BM} {ro U S : Nat} (W : Wd μ0 ro U S) {N : Nat} {a0f : Option Nat} (ea0 : a0f = (adr μ0 ro U S (9, 0, 0))) (a1 : Int32) (s0 : Int32) (s : CS) : IM μ0 ro U S id (u_X9_scanToken_145 U S N a1 s0 s) (f_X9_scanToken_145 N a0f a1 s0 (EC μ0 ro U S s)) := by
  unfold f_X9_scanToken_145 u_X9_scanToken_145
  refine im_if Iff.rfl (fun _ => ?_) (fun _ => ?_)
  · exact ue_u_X9_scanToken_157 W ea0 ea0 _ _
  · exact ue_u_X9_scanToken_157 W ea0 ea0 _ _
def u_X9_scanToken_129 (U S N : Nat) (s0 : Int32) (μ : CS) : Option (Int32 × CS) :=
  some (s0, μ)
theorem ue_u_X9_scanToken_129 {μ0 : BM} {ro U S : Nat} (W : Wd μ0 ro U S) {N : Nat} (s0 : Int32) (s : CS) : IM μ0 ro U S id (u_X9_scanToken_129 U S N s0 s) (f_X9_scanToken_129 N s0 (EC μ0 ro U S s)) := by
  unfold f_X9_scanToken_129 u_X9_scanToken_129
  exact im_ret rfl
def u_X9_scanToken (U S N : Nat) (μ : CS) : Option (Int32 × CS) :=
  (u_X9_byteAt U S N (μ.1 9 0 8) μ).bind fun q2 =>
  if ¬ q2.1 = (((-1)) : Int32) then
    if ¬ q2.1 = (10 : Int32) then
      (u_X9_isLetter U S N q2.1 q2.2).bind fun q4 =>
      if q4.1 = 0 then
        (u_X9_isDigit U S N q2.1 q4.2).bind fun q5 =>
        if q5.1 = 0 then
          if ¬ q2.1 = (34 : Int32) then
            (sIx1 11 ((q2.1.toUInt32 % 65536).toInt32)).bind fun q6 =>
            if q6 < 0 then
              u_X9_scanToken_145 U S N q2.1 0 q5.2
            else
              u_X9_scanToken_145 U S N q2.1 1 q5.2
          else
            (u_X9_byteAt U S N ((q5.2.1 9 0 8) + 1) q5.2).bind fun q8 =>
            (u_X9_isPlain U S N q8.1 q8.2).bind fun q10 =>
            if q10.1 = 0 then
              (u_X9_append U S N 6 ((q10.2.1 9 0 8) + 1) 0 0 q10.2).bind fun q12 =>
              u_X9_scanToken_129 U S N q12.1 q12.2
            else
              (u_X9_append U S N 3 ((q10.2.1 9 0 8) + 2) (q8.1 ||| 128) 0 q10.2).bind fun q15 =>
              u_X9_scanToken_129 U S N q15.1 q15.2
        else
          (u_X9_scanNumber U S N q5.2).bind fun q17 =>
          some (q17.1, q17.2)
      else
        (u_X9_scanName U S N q4.2).bind fun q19 =>
        some (q19.1, q19.2)
    else
      (u_X9_append U S N 10 ((q2.2.1 9 0 8) + 1) 0 0 q2.2).bind fun q22 =>
      some (q22.1, q22.2)
  else
    (u_X9_append U S N 0 (q2.2.1 9 0 8) 0 0 q2.2).bind fun q25 =>
    some (q25.1, q25.2)
theorem ue_u_X9_scanToken {μ0 : BM} {ro U S : Nat} (W : Wd μ0 ro U S) {N : Nat} {a0f : Option Nat} (ea0 : a0f = (adr μ0 ro U S (9, 0, 0))) (s : CS) : IM μ0 ro U S id (u_X9_scanToken U S N s) (f_X9_scanToken N a0f (EC μ0 ro U S s)) := by
  unfold f_X9_scanToken u_X9_scanToken
  refine im_fI W (ik_9 U S) (by decide) rfl ea0 ?_
  refine im_ck W (ik_9 U S) ea0 fun b3 eb3 => ?_
  refine im_call (ue_u_X9_byteAt W eb3 _ _) fun q2 => ?_
  dsimp only [id]
  refine im_if Iff.rfl (fun _ => ?_) (fun _ => ?_)
  · refine im_if Iff.rfl (fun _ => ?_) (fun _ => ?_)
    · refine im_call (ue_u_X9_isLetter W _ _) fun q4 => ?_
      dsimp only [id]
      refine im_if Iff.rfl (fun _ => ?_) (fun _ => ?_)
      · refine im_call (ue_u_X9_isDigit W _ _) fun q5 => ?_
        dsimp only [id]
        refine im_if Iff.rfl (fun _ => ?_) (fun _ => ?_)
        · refine im_if Iff.rfl (fun _ => ?_) (fun _ => ?_)
          · refine im_b _ fun q6 => ?_
            refine im_if Iff.rfl (fun _ => ?_) (fun _ => ?_)
            · exact ue_u_X9_scanToken_145 W ea0 _ _ _
            · exact ue_u_X9_scanToken_145 W ea0 _ _ _
          · refine im_fI W (ik_9 U S) (by decide) rfl ea0 ?_
            refine im_ck W (ik_9 U S) ea0 fun b9 eb9 => ?_
            refine im_call (ue_u_X9_byteAt W eb9 _ _) fun q8 => ?_
            dsimp only [id]
            refine im_call (ue_u_X9_isPlain W _ _) fun q10 => ?_
            dsimp only [id]
            refine im_if Iff.rfl (fun _ => ?_) (fun _ => ?_)
            · refine im_fI W (ik_9 U S) (by decide) rfl ea0 ?_
              refine im_ck W (ik_9 U S) ea0 fun b13 eb13 => ?_
              refine im_call (ue_u_X9_append W eb13 _ _ _ _ _) fun q12 => ?_
              dsimp only [id]
              exact ue_u_X9_scanToken_129 W _ _
            · refine im_fI W (ik_9 U S) (by decide) rfl ea0 ?_
              refine im_ck W (ik_9 U S) ea0 fun b16 eb16 => ?_
              refine im_call (ue_u_X9_append W eb16 _ _ _ _ _) fun q15 => ?_
              dsimp only [id]
              exact ue_u_X9_scanToken_129 W _ _
        · refine im_ck W (ik_9 U S) ea0 fun b18 eb18 => ?_
          refine im_call (ue_u_X9_scanNumber W eb18 _) fun q17 => ?_
          dsimp only [id]
          exact im_ret rfl
      · refine im_ck W (ik_9 U S) ea0 fun b20 eb20 => ?_
        refine im_call (ue_u_X9_scanName W eb20 _) fun q19 => ?_
        dsimp only [id]
        exact im_ret rfl
    · refine im_fI W (ik_9 U S) (by decide) rfl ea0 ?_
      refine im_ck W (ik_9 U S) ea0 fun b23 eb23 => ?_
      refine im_call (ue_u_X9_append W eb23 _ _ _ _ _) fun q22 => ?_
      dsimp only [id]
      exact im_ret rfl
  · refine im_fI W (ik_9 U S) (by decide) rfl ea0 ?_
    refine im_ck W (ik_9 U S) ea0 fun b26 eb26 => ?_
    refine im_call (ue_u_X9_append W eb26 _ _ _ _ _) fun q25 => ?_
    dsimp only [id]
    exact im_ret rfl
def u_X9_scan_99 (U S N : Nat) (μ : CS) : Option (Unit × CS) :=
  some ((), μ)
theorem ue_u_X9_scan_99 {μ0 : BM} {ro U S : Nat} (W : Wd μ0 ro U S) {N : Nat} (s : CS) : IM μ0 ro U S id (u_X9_scan_99 U S N s) (f_X9_scan_99 N (EC μ0 ro U S s)) := by
  unfold f_X9_scan_99 u_X9_scan_99
  exact im_ret rfl
def uh_X9_scan_44 (U S N : Nat) (k44 : Int32 → CS → Option (Unit × CS)) (a3 : Int32) (μ : CS) : Option (Unit × CS) :=
  if (μ.1 9 0 7) < a3 then
    some ((), μ)
  else
    (u_X9_skipBlanks U S N (μ.1 9 0 8) μ).bind fun q3 =>
    (some (qI q3.2 9 0 8 q3.1)).bind fun μ5 =>
    (u_X9_skipRemark U S N μ5).bind fun q6 =>
    (u_X9_scanToken U S N q6.2).bind fun q8 =>
    if q8.1 = 0 then
      u_X9_scan_99 U S N q8.2
    else
      if q8.1 = (6 : Int32) then
        u_X9_scan_99 U S N q8.2
      else
        if q8.1 = (5 : Int32) then
          u_X9_scan_99 U S N q8.2
        else
          if ¬ q8.1 = (36 : Int32) then
            k44 (a3 + 1) q8.2
          else
            u_X9_scan_99 U S N q8.2
theorem ue_uh_X9_scan_44 {μ0 : BM} {ro U S : Nat} (W : Wd μ0 ro U S) {N : Nat} {k44 : (Option Nat) → Int32 → Mem → Option (Unit × Mem)} {k44' : Int32 → CS → Option (Unit × CS)} (hk44 : ∀ {ya0f : Option Nat} (eya0 : ya0f = (adr μ0 ro U S (9, 0, 0))) (ya3 : Int32) (s : CS), IM μ0 ro U S id (k44' ya3 s) (k44 ya0f ya3 (EC μ0 ro U S s))) {a0f : Option Nat} (ea0 : a0f = (adr μ0 ro U S (9, 0, 0))) (a3 : Int32) (s : CS) : IM μ0 ro U S id (uh_X9_scan_44 U S N k44' a3 s) (H_X9_scan_44 N k44 a0f a3 (EC μ0 ro U S s)) := by
  unfold H_X9_scan_44 uh_X9_scan_44
  refine im_fI W (ik_9 U S) (by decide) rfl ea0 ?_
  refine im_if Iff.rfl (fun _ => ?_) (fun _ => ?_)
  · exact im_ret rfl
  · refine im_fI W (ik_9 U S) (by decide) rfl ea0 ?_
    refine im_ck W (ik_9 U S) ea0 fun b4 eb4 => ?_
    refine im_call (ue_u_X9_skipBlanks W eb4 _ _) fun q3 => ?_
    dsimp only [id]
    refine im_pI W (ik_9 U S) (by decide) rfl ea0 _ ?_
    refine im_ck W (ik_9 U S) ea0 fun b7 eb7 => ?_
    refine im_call (ue_u_X9_skipRemark W eb7 _) fun q6 => ?_
    dsimp only [id]
    refine im_ck W (ik_9 U S) ea0 fun b9 eb9 => ?_
    refine im_call (ue_u_X9_scanToken W eb9 _) fun q8 => ?_
    dsimp only [id]
    refine im_if Iff.rfl (fun _ => ?_) (fun _ => ?_)
    · exact ue_u_X9_scan_99 W _
    · refine im_if Iff.rfl (fun _ => ?_) (fun _ => ?_)
      · exact ue_u_X9_scan_99 W _
      · refine im_if Iff.rfl (fun _ => ?_) (fun _ => ?_)
        · exact ue_u_X9_scan_99 W _
        · refine im_if Iff.rfl (fun _ => ?_) (fun _ => ?_)
          · exact hk44 ea0 _ _
          · exact ue_u_X9_scan_99 W _
def ul_X9_scan_44 (U S N : Nat)  : Nat → Int32 → CS → Option (Unit × CS)
  | 0 => fun _ _ => none
  | n + 1 => uh_X9_scan_44 U S N (ul_X9_scan_44 U S N n)
theorem ue_ul_X9_scan_44 {μ0 : BM} {ro U S : Nat} (W : Wd μ0 ro U S) {N : Nat} : ∀ (n : Nat) {a0f : Option Nat} (ea0 : a0f = (adr μ0 ro U S (9, 0, 0))) (a3 : Int32) (s : CS), IM μ0 ro U S id (ul_X9_scan_44 U S N n a3 s) (L_X9_scan_44 N n a0f a3 (EC μ0 ro U S s)) := by
  intro n
  induction n with
  | zero => intros; exact im_none
  | succ n ih => intro a0f ea0 a3 s; exact ue_uh_X9_scan_44 W ih ea0 _ _
def u_X9_scan (U S N : Nat) (a2 : Int32) (μ : CS) : Option (Unit × CS) :=
  (some (qR μ 9 0 6 (some 1))).bind fun μ1 =>
  (some (qI μ1 9 0 7 (mmax 0 (mmin a2 (mmin (nI 2000) 2000))))).bind fun μ3 =>
  (some (qI μ3 9 0 8 0)).bind fun μ4 =>
  (some (qI μ4 9 0 5 0)).bind fun μ5 =>
  (u_X4_forget U S N μ5).bind fun q7 =>
  ul_X9_scan_44 U S N N 0 q7.2
theorem ue_u_X9_scan {μ0 : BM} {ro U S : Nat} (W : Wd μ0 ro U S) {N : Nat} {a0f : Option Nat} (ea0 : a0f = (adr μ0 ro U S (9, 0, 0))) {a1f : Option Nat} (ea1 : a1f = (adr μ0 ro U S (11, 0, 1))) (a2 : Int32) (s : CS) : IM μ0 ro U S id (u_X9_scan U S N a2 s) (f_X9_scan N a0f a1f a2 (EC μ0 ro U S s)) := by
  unfold f_X9_scan u_X9_scan
  refine im_pB W (ik_9 U S) ea0 ea1 ?_
  refine im_al (n := 2000) W (ia_11_1 U S) rfl rfl ea1 ?_
  refine im_pI W (ik_9 U S) (by decide) rfl ea0 _ ?_
  refine im_pI W (ik_9 U S) (by decide) rfl ea0 _ ?_
  refine im_pI W (ik_9 U S) (by decide) rfl ea0 _ ?_
  refine im_fR W (ik_9 U S) (by decide) rfl ea0 fun v6 ev6 => ?_
  refine im_ck W (ik_4 U S) ev6 fun b8 eb8 => ?_
  refine im_call (ue_u_X4_forget W eb8 _) fun q7 => ?_
  dsimp only [id]
  exact ue_ul_X9_scan_44 W N ea0 _ _
def u_X7_clear (U S N : Nat) (a0 : Nat) (μ : CS) : Option (Unit × CS) :=
  (u_J7_fill_53178 U S N a0 ((-1)) μ).bind fun q2 =>
  (some (qI q2.2 7 a0 1 0)).bind fun μ3 =>
  some ((), μ3)
theorem ue_u_X7_clear {μ0 : BM} {ro U S : Nat} (W : Wd μ0 ro U S) {N : Nat} {a0 : Nat} {a0f : Option Nat} (ha0 : a0 < 2) (ea0 : a0f = (adr μ0 ro U S (7, a0, 0))) (s : CS) : IM μ0 ro U S id (u_X7_clear U S N a0 s) (f_X7_clear N a0f (EC μ0 ro U S s)) := by
  unfold f_X7_clear u_X7_clear
  refine im_fR W (ik_7 ha0) (by decide) rfl ea0 fun v1 ev1 => ?_
  refine im_call (ue_u_J7_fill_53178 W ha0 ev1 _ _) fun q2 => ?_
  dsimp only [id]
  refine im_pI W (ik_7 ha0) (by decide) rfl ea0 _ ?_
  exact im_ret rfl
def u_X0_open (U S N : Nat) (a2 : Int32) (μ : CS) : Option (Unit × CS) :=
  (u_X9_scan U S N a2 μ).bind fun q2 =>
  (vl 2 (q2.2.2.2.2.1 0 0 3)).bind fun v4 =>
  (v4).bind fun j1 =>
  (u_X7_clear U S N j1 q2.2).bind fun q5 =>
  (some (qI q5.2 0 0 4 0)).bind fun μ7 =>
  (some (qI μ7 0 0 5 ((-1)))).bind fun μ8 =>
  some ((), μ8)
theorem ue_u_X0_open {μ0 : BM} {ro U S : Nat} (W : Wd μ0 ro U S) {N : Nat} {a0f : Option Nat} (ea0 : a0f = (adr μ0 ro U S (0, 0, 0))) {a1f : Option Nat} (ea1 : a1f = (adr μ0 ro U S (11, 0, 1))) (a2 : Int32) (s : CS) : IM μ0 ro U S id (u_X0_open U S N a2 s) (f_X0_open N a0f a1f a2 (EC μ0 ro U S s)) := by
  unfold f_X0_open u_X0_open
  refine im_fR W (ik_0 U S) (by decide) rfl ea0 fun v1 ev1 => ?_
  refine im_ck W (ik_9 U S) ev1 fun b3 eb3 => ?_
  refine im_call (ue_u_X9_scan W eb3 ea1 _ _) fun q2 => ?_
  dsimp only [id]
  refine im_fD3 W (ik_0 U S) (by decide) rfl ea0 fun v4 hv4 v4' ev4 => ?_
  refine im_der (ci := 7) (hv4) (ev4) fun j1 hj1 ej1 => ?_
  refine im_ck W (ik_7 hj1) ej1 fun b6 eb6 => ?_
  refine im_call (ue_u_X7_clear W hj1 eb6 _) fun q5 => ?_
  dsimp only [id]
  refine im_pI W (ik_0 U S) (by decide) rfl ea0 _ ?_
  refine im_pI W (ik_0 U S) (by decide) rfl ea0 _ ?_
  exact im_ret rfl
def u_X0_kindAt_15 (U S N : Nat) (μ : CS) : Option (Int32 × CS) :=
  some (0, μ)
theorem ue_u_X0_kindAt_15 {μ0 : BM} {ro U S : Nat} (W : Wd μ0 ro U S) {N : Nat} (s : CS) : IM μ0 ro U S id (u_X0_kindAt_15 U S N s) (f_X0_kindAt_15 N (EC μ0 ro U S s)) := by
  unfold f_X0_kindAt_15 u_X0_kindAt_15
  exact im_ret rfl
def u_X0_kindAt_74 (U S N : Nat) (s0 : Int32) (μ : CS) : Option (Int32 × CS) :=
  some (s0, μ)
theorem ue_u_X0_kindAt_74 {μ0 : BM} {ro U S : Nat} (W : Wd μ0 ro U S) {N : Nat} (s0 : Int32) (s : CS) : IM μ0 ro U S id (u_X0_kindAt_74 U S N s0 s) (f_X0_kindAt_74 N s0 (EC μ0 ro U S s)) := by
  unfold f_X0_kindAt_74 u_X0_kindAt_74
  exact im_ret rfl
def u_X0_kindAt_62 (U S N : Nat) (a2 : Int32) (s0 : Int32) (μ : CS) : Option (Int32 × CS) :=
  if ¬ s0 = (((-1)) : Int32) then
    u_X0_kindAt_74 U S N a2 μ
  else
    u_X0_kindAt_74 U S N 6 μ
theorem ue_u_X0_kindAt_62 {μ0 : BM} {ro U S : Nat} (W : Wd μ0 ro U S) {N : Nat} (a2 : Int32) (s0 : Int32) (s : CS) : IM μ0 ro U S id (u_X0_kindAt_62 U S N a2 s0 s) (f_X0_kindAt_62 N a2 s0 (EC μ0 ro U S s)) := by
  unfold f_X0_kindAt_62 u_X0_kindAt_62
  refine im_if Iff.rfl (fun _ => ?_) (fun _ => ?_)
  · exact ue_u_X0_kindAt_74 W _ _
  · exact ue_u_X0_kindAt_74 W _ _
def u_X0_kindAt (U S N : Nat) (a1 : Int32) (μ : CS) : Option (Int32 × CS) :=
  if a1 < 0 then
    u_X0_kindAt_15 U S N μ
  else
    if a1 < (μ.1 9 0 5) then
      (rH 2001 μ 9 0 1 a1).bind fun v5 =>
      if v5 = (2 : Int32) then
        if (μ.1 0 0 8) = 0 then
          (rH 2001 μ 9 0 3 a1).bind fun v9 =>
          u_X0_kindAt_62 U S N v5 v9 μ
        else
          (rH 2001 μ 9 0 4 a1).bind fun v12 =>
          u_X0_kindAt_62 U S N v5 v12 μ
      else
        some (v5, μ)
    else
      u_X0_kindAt_15 U S N μ
theorem ue_u_X0_kindAt {μ0 : BM} {ro U S : Nat} (W : Wd μ0 ro U S) {N : Nat} {a0f : Option Nat} (ea0 : a0f = (adr μ0 ro U S (0, 0, 0))) (a1 : Int32) (s : CS) : IM μ0 ro U S id (u_X0_kindAt U S N a1 s) (f_X0_kindAt N a0f a1 (EC μ0 ro U S s)) := by
  unfold f_X0_kindAt u_X0_kindAt
  refine im_if Iff.rfl (fun _ => ?_) (fun _ => ?_)
  · exact ue_u_X0_kindAt_15 W _
  · refine im_fR W (ik_0 U S) (by decide) rfl ea0 fun v1 ev1 => ?_
    refine im_fI W (ik_9 U S) (by decide) rfl ev1 ?_
    refine im_if Iff.rfl (fun _ => ?_) (fun _ => ?_)
    · refine im_fR W (ik_0 U S) (by decide) rfl ea0 fun v3 ev3 => ?_
      refine im_fR W (ik_9 U S) (by decide) rfl ev3 fun v4 ev4 => ?_
      refine im_aI (n := 2001) W (ia_9_2 U S) rfl rfl ev4 _ fun v5 => ?_
      refine im_if Iff.rfl (fun _ => ?_) (fun _ => ?_)
      · refine im_fI W (ik_0 U S) (by decide) rfl ea0 ?_
        refine im_if Iff.rfl (fun _ => ?_) (fun _ => ?_)
        · refine im_fR W (ik_0 U S) (by decide) rfl ea0 fun v7 ev7 => ?_
          refine im_fR W (ik_9 U S) (by decide) rfl ev7 fun v8 ev8 => ?_
          refine im_aI (n := 2001) W (ia_9_4 U S) rfl rfl ev8 _ fun v9 => ?_
          exact ue_u_X0_kindAt_62 W _ _ _
        · refine im_fR W (ik_0 U S) (by decide) rfl ea0 fun v10 ev10 => ?_
          refine im_fR W (ik_9 U S) (by decide) rfl ev10 fun v11 ev11 => ?_
          refine im_aI (n := 2001) W (ia_9_5 U S) rfl rfl ev11 _ fun v12 => ?_
          exact ue_u_X0_kindAt_62 W _ _ _
      · exact im_ret rfl
    · exact ue_u_X0_kindAt_15 W _
def u_X9_valueOf_22 (U S N : Nat) (s0 : Int32) (μ : CS) : Option (Int32 × CS) :=
  some (s0, μ)
theorem ue_u_X9_valueOf_22 {μ0 : BM} {ro U S : Nat} (W : Wd μ0 ro U S) {N : Nat} (s0 : Int32) (s : CS) : IM μ0 ro U S id (u_X9_valueOf_22 U S N s0 s) (f_X9_valueOf_22 N s0 (EC μ0 ro U S s)) := by
  unfold f_X9_valueOf_22 u_X9_valueOf_22
  exact im_ret rfl
def u_X9_valueOf_12 (U S N : Nat) (μ : CS) : Option (Int32 × CS) :=
  u_X9_valueOf_22 U S N ((-1)) μ
theorem ue_u_X9_valueOf_12 {μ0 : BM} {ro U S : Nat} (W : Wd μ0 ro U S) {N : Nat} (s : CS) : IM μ0 ro U S id (u_X9_valueOf_12 U S N s) (f_X9_valueOf_12 N (EC μ0 ro U S s)) := by
  unfold f_X9_valueOf_12 u_X9_valueOf_12
  exact ue_u_X9_valueOf_22 W _ _
def u_X9_valueOf (U S N : Nat) (a1 : Int32) (μ : CS) : Option (Int32 × CS) :=
  if a1 < 0 then
    u_X9_valueOf_12 U S N μ
  else
    if a1 < (μ.1 9 0 5) then
      (rH 2001 μ 9 0 3 a1).bind fun v3 =>
      u_X9_valueOf_22 U S N v3 μ
    else
      u_X9_valueOf_12 U S N μ
theorem ue_u_X9_valueOf {μ0 : BM} {ro U S : Nat} (W : Wd μ0 ro U S) {N : Nat} {a0f : Option Nat} (ea0 : a0f = (adr μ0 ro U S (9, 0, 0))) (a1 : Int32) (s : CS) : IM μ0 ro U S id (u_X9_valueOf U S N a1 s) (f_X9_valueOf N a0f a1 (EC μ0 ro U S s)) := by
  unfold f_X9_valueOf u_X9_valueOf
  refine im_if Iff.rfl (fun _ => ?_) (fun _ => ?_)
  · exact ue_u_X9_valueOf_12 W _
  · refine im_fI W (ik_9 U S) (by decide) rfl ea0 ?_
    refine im_if Iff.rfl (fun _ => ?_) (fun _ => ?_)
    · refine im_fR W (ik_9 U S) (by decide) rfl ea0 fun v2 ev2 => ?_
      refine im_aI (n := 2001) W (ia_9_4 U S) rfl rfl ev2 _ fun v3 => ?_
      exact ue_u_X9_valueOf_22 W _ _
    · exact ue_u_X9_valueOf_12 W _
def u_X4_tellingOf_22 (U S N : Nat) (s0 : Int32) (μ : CS) : Option (Int32 × CS) :=
  some (s0, μ)
theorem ue_u_X4_tellingOf_22 {μ0 : BM} {ro U S : Nat} (W : Wd μ0 ro U S) {N : Nat} (s0 : Int32) (s : CS) : IM μ0 ro U S id (u_X4_tellingOf_22 U S N s0 s) (f_X4_tellingOf_22 N s0 (EC μ0 ro U S s)) := by
  unfold f_X4_tellingOf_22 u_X4_tellingOf_22
  exact im_ret rfl
def u_X4_tellingOf_12 (U S N : Nat) (μ : CS) : Option (Int32 × CS) :=
  u_X4_tellingOf_22 U S N 0 μ
theorem ue_u_X4_tellingOf_12 {μ0 : BM} {ro U S : Nat} (W : Wd μ0 ro U S) {N : Nat} (s : CS) : IM μ0 ro U S id (u_X4_tellingOf_12 U S N s) (f_X4_tellingOf_12 N (EC μ0 ro U S s)) := by
  unfold f_X4_tellingOf_12 u_X4_tellingOf_12
  exact ue_u_X4_tellingOf_22 W _ _
def u_X4_tellingOf (U S N : Nat) (a1 : Int32) (μ : CS) : Option (Int32 × CS) :=
  if a1 < 0 then
    u_X4_tellingOf_12 U S N μ
  else
    if a1 < (μ.1 4 0 3) then
      (rH 1054 μ 4 0 2 a1).bind fun v3 =>
      u_X4_tellingOf_22 U S N v3 μ
    else
      u_X4_tellingOf_12 U S N μ
theorem ue_u_X4_tellingOf {μ0 : BM} {ro U S : Nat} (W : Wd μ0 ro U S) {N : Nat} {a0f : Option Nat} (ea0 : a0f = (adr μ0 ro U S (4, 0, 0))) (a1 : Int32) (s : CS) : IM μ0 ro U S id (u_X4_tellingOf U S N a1 s) (f_X4_tellingOf N a0f a1 (EC μ0 ro U S s)) := by
  unfold f_X4_tellingOf u_X4_tellingOf
  refine im_if Iff.rfl (fun _ => ?_) (fun _ => ?_)
  · exact ue_u_X4_tellingOf_12 W _
  · refine im_fI W (ik_4 U S) (by decide) rfl ea0 ?_
    refine im_if Iff.rfl (fun _ => ?_) (fun _ => ?_)
    · refine im_fR W (ik_4 U S) (by decide) rfl ea0 fun v2 ev2 => ?_
      refine im_aI (n := 1054) W (ia_4_3 U S) rfl rfl ev2 _ fun v3 => ?_
      exact ue_u_X4_tellingOf_22 W _ _
    · exact ue_u_X4_tellingOf_12 W _
def u_X0_report_50 (U S N : Nat) (μ : CS) : Option (Unit × CS) :=
  some ((), μ)
theorem ue_u_X0_report_50 {μ0 : BM} {ro U S : Nat} (W : Wd μ0 ro U S) {N : Nat} (s : CS) : IM μ0 ro U S id (u_X0_report_50 U S N s) (f_X0_report_50 N (EC μ0 ro U S s)) := by
  unfold f_X0_report_50 u_X0_report_50
  exact im_ret rfl
def u_X0_report_47 (U S N : Nat) (s1 : Int32) (μ : CS) : Option (Unit × CS) :=
  (some (qI μ 0 0 5 s1)).bind fun μ1 =>
  u_X0_report_50 U S N μ1
theorem ue_u_X0_report_47 {μ0 : BM} {ro U S : Nat} (W : Wd μ0 ro U S) {N : Nat} {s0f : Option Nat} (es0 : s0f = (adr μ0 ro U S (0, 0, 0))) (s1 : Int32) (s : CS) : IM μ0 ro U S id (u_X0_report_47 U S N s1 s) (f_X0_report_47 N s0f s1 (EC μ0 ro U S s)) := by
  unfold f_X0_report_47 u_X0_report_47
  refine im_pI W (ik_0 U S) (by decide) rfl es0 _ ?_
  exact ue_u_X0_report_50 W _
def u_X0_report_28 (U S N : Nat) (μ : CS) : Option (Unit × CS) :=
  u_X0_report_47 U S N (μ.1 9 0 7) μ
theorem ue_u_X0_report_28 {μ0 : BM} {ro U S : Nat} (W : Wd μ0 ro U S) {N : Nat} {a0f : Option Nat} (ea0 : a0f = (adr μ0 ro U S (0, 0, 0))) {s0f : Option Nat} (es0 : s0f = (adr μ0 ro U S (0, 0, 0))) (s : CS) : IM μ0 ro U S id (u_X0_report_28 U S N s) (f_X0_report_28 N a0f s0f (EC μ0 ro U S s)) := by
  unfold f_X0_report_28 u_X0_report_28
  refine im_fR W (ik_0 U S) (by decide) rfl ea0 fun v1 ev1 => ?_
  refine im_fI W (ik_9 U S) (by decide) rfl ev1 ?_
  exact ue_u_X0_report_47 W es0 _ _
def u_X0_report (U S N : Nat) (a1 : Int32) (a2 : Int32) (μ : CS) : Option (Unit × CS) :=
  if ¬ (μ.1 0 0 4) = 0 then
    u_X0_report_50 U S N μ
  else
    (some (qI μ 0 0 4 a1)).bind fun μ2 =>
    if a2 < 0 then
      u_X0_report_28 U S N μ2
    else
      if a2 < (μ2.1 9 0 5) then
        (rH 2001 μ2 9 0 2 a2).bind fun v7 =>
        u_X0_report_47 U S N v7 μ2
      else
        u_X0_report_28 U S N μ2
theorem ue_u_X0_report {μ0 : BM} {ro U S : Nat} (W : Wd μ0 ro U S) {N : Nat} {a0f : Option Nat} (ea0 : a0f = (adr μ0 ro U S (0, 0, 0))) (a1 : Int32) (a2 : Int32) (s : CS) : IM μ0 ro U S id (u_X0_report U S N a1 a2 s) (f_X0_report N a0f a1 a2 (EC μ0 ro U S s)) := by
  unfold f_X0_report u_X0_report
  refine im_fI W (ik_0 U S) (by decide) rfl ea0 ?_
  refine im_if Iff.rfl (fun _ => ?_) (fun _ => ?_)
  · exact ue_u_X0_report_50 W _
  · refine im_pI W (ik_0 U S) (by decide) rfl ea0 _ ?_
    refine im_if Iff.rfl (fun _ => ?_) (fun _ => ?_)
    · exact ue_u_X0_report_28 W ea0 ea0 _
    · refine im_fR W (ik_0 U S) (by decide) rfl ea0 fun v3 ev3 => ?_
      refine im_fI W (ik_9 U S) (by decide) rfl ev3 ?_
      refine im_if Iff.rfl (fun _ => ?_) (fun _ => ?_)
      · refine im_fR W (ik_0 U S) (by decide) rfl ea0 fun v5 ev5 => ?_
        refine im_fR W (ik_9 U S) (by decide) rfl ev5 fun v6 ev6 => ?_
        refine im_aI (n := 2001) W (ia_9_3 U S) rfl rfl ev6 _ fun v7 => ?_
        exact ue_u_X0_report_47 W ea0 _ _
      · exact ue_u_X0_report_28 W ea0 ea0 _
def u_X0_mayTell_102 (U S N : Nat) (s0 : Int32) (μ : CS) : Option (Int32 × CS) :=
  cZ s0 μ
theorem ue_u_X0_mayTell_102 {μ0 : BM} {ro U S : Nat} (W : Wd μ0 ro U S) {N : Nat} (s0 : Int32) (s : CS) : IM μ0 ro U S id (u_X0_mayTell_102 U S N s0 s) (f_X0_mayTell_102 N s0 (EC μ0 ro U S s)) := by
  unfold f_X0_mayTell_102 u_X0_mayTell_102
  exact im_rZ _ _
def u_X0_mayTell_90 (U S N : Nat) (μ : CS) : Option (Int32 × CS) :=
  if ¬ (μ.1 0 0 4) = 0 then
    u_X0_mayTell_102 U S N 0 μ
  else
    u_X0_mayTell_102 U S N 1 μ
theorem ue_u_X0_mayTell_90 {μ0 : BM} {ro U S : Nat} (W : Wd μ0 ro U S) {N : Nat} {a0f : Option Nat} (ea0 : a0f = (adr μ0 ro U S (0, 0, 0))) (s : CS) : IM μ0 ro U S id (u_X0_mayTell_90 U S N s) (f_X0_mayTell_90 N a0f (EC μ0 ro U S s)) := by
  unfold f_X0_mayTell_90 u_X0_mayTell_90
  refine im_fI W (ik_0 U S) (by decide) rfl ea0 ?_
  refine im_if Iff.rfl (fun _ => ?_) (fun _ => ?_)
  · exact ue_u_X0_mayTell_102 W _ _
  · exact ue_u_X0_mayTell_102 W _ _
def u_X0_mayTell_51 (U S N : Nat) (μ : CS) : Option (Int32 × CS) :=
  (u_X0_report U S N 4 (μ.1 0 0 9) μ).bind fun q2 =>
  u_X0_mayTell_90 U S N q2.2
theorem ue_u_X0_mayTell_51 {μ0 : BM} {ro U S : Nat} (W : Wd μ0 ro U S) {N : Nat} {a0f : Option Nat} (ea0 : a0f = (adr μ0 ro U S (0, 0, 0))) (s : CS) : IM μ0 ro U S id (u_X0_mayTell_51 U S N s) (f_X0_mayTell_51 N a0f (EC μ0 ro U S s)) := by
  unfold f_X0_mayTell_51 u_X0_mayTell_51
  refine im_fI W (ik_0 U S) (by decide) rfl ea0 ?_
  refine im_ck W (ik_0 U S) ea0 fun b3 eb3 => ?_
  refine im_call (ue_u_X0_report W eb3 _ _ _) fun q2 => ?_
  dsimp only [id]
  exact ue_u_X0_mayTell_90 W ea0 _
def u_X0_mayTell_63 (U S N : Nat) (a2 : Int32) (μ : CS) : Option (Int32 × CS) :=
  if ¬ a2 = 0 then
    u_X0_mayTell_90 U S N μ
  else
    if (μ.1 4 0 4) < (200 : Int32) then
      u_X0_mayTell_90 U S N μ
    else
      (u_X0_report U S N 6 (μ.1 0 0 9) μ).bind fun q4 =>
      u_X0_mayTell_90 U S N q4.2
theorem ue_u_X0_mayTell_63 {μ0 : BM} {ro U S : Nat} (W : Wd μ0 ro U S) {N : Nat} {a0f : Option Nat} (ea0 : a0f = (adr μ0 ro U S (0, 0, 0))) (a2 : Int32) (s : CS) : IM μ0 ro U S id (u_X0_mayTell_63 U S N a2 s) (f_X0_mayTell_63 N a0f a2 (EC μ0 ro U S s)) := by
  unfold f_X0_mayTell_63 u_X0_mayTell_63
  refine im_if Iff.rfl (fun _ => ?_) (fun _ => ?_)
  · exact ue_u_X0_mayTell_90 W ea0 _
  · refine im_fR W (ik_0 U S) (by decide) rfl ea0 fun v1 ev1 => ?_
    refine im_fI W (ik_4 U S) (by decide) rfl ev1 ?_
    refine im_if Iff.rfl (fun _ => ?_) (fun _ => ?_)
    · exact ue_u_X0_mayTell_90 W ea0 _
    · refine im_fI W (ik_0 U S) (by decide) rfl ea0 ?_
      refine im_ck W (ik_0 U S) ea0 fun b5 eb5 => ?_
      refine im_call (ue_u_X0_report W eb5 _ _ _) fun q4 => ?_
      dsimp only [id]
      exact ue_u_X0_mayTell_90 W ea0 _
def u_X0_mayTell (U S N : Nat) (a1 : Int32) (μ : CS) : Option (Int32 × CS) :=
  (u_X9_valueOf U S N (μ.1 0 0 9) μ).bind fun q4 =>
  (u_X4_tellingOf U S N q4.1 q4.2).bind fun q6 =>
  if ¬ q6.1 = (3 : Int32) then
    if q6.1 = (1 : Int32) then
      u_X0_mayTell_51 U S N q6.2
    else
      if ¬ q6.1 = (2 : Int32) then
        u_X0_mayTell_63 U S N q6.1 q6.2
      else
        if ¬ a1 = (1 : Int32) then
          u_X0_mayTell_63 U S N q6.1 q6.2
        else
          u_X0_mayTell_51 U S N q6.2
  else
    (u_X0_report U S N 5 (q6.2.1 0 0 9) q6.2).bind fun q9 =>
    u_X0_mayTell_90 U S N q9.2
theorem ue_u_X0_mayTell {μ0 : BM} {ro U S : Nat} (W : Wd μ0 ro U S) {N : Nat} {a0f : Option Nat} (ea0 : a0f = (adr μ0 ro U S (0, 0, 0))) (a1 : Int32) (s : CS) : IM μ0 ro U S id (u_X0_mayTell U S N a1 s) (f_X0_mayTell N a0f a1 (EC μ0 ro U S s)) := by
  unfold f_X0_mayTell u_X0_mayTell
  refine im_fR W (ik_0 U S) (by decide) rfl ea0 fun v1 ev1 => ?_
  refine im_fR W (ik_0 U S) (by decide) rfl ea0 fun v2 ev2 => ?_
  refine im_fI W (ik_0 U S) (by decide) rfl ea0 ?_
  refine im_ck W (ik_9 U S) ev2 fun b5 eb5 => ?_
  refine im_call (ue_u_X9_valueOf W eb5 _ _) fun q4 => ?_
  dsimp only [id]
  refine im_ck W (ik_4 U S) ev1 fun b7 eb7 => ?_
  refine im_call (ue_u_X4_tellingOf W eb7 _ _) fun q6 => ?_
  dsimp only [id]
  refine im_if Iff.rfl (fun _ => ?_) (fun _ => ?_)
  · refine im_if Iff.rfl (fun _ => ?_) (fun _ => ?_)
    · exact ue_u_X0_mayTell_51 W ea0 _
    · refine im_if Iff.rfl (fun _ => ?_) (fun _ => ?_)
      · exact ue_u_X0_mayTell_63 W ea0 _ _
      · refine im_if Iff.rfl (fun _ => ?_) (fun _ => ?_)
        · exact ue_u_X0_mayTell_63 W ea0 _ _
        · exact ue_u_X0_mayTell_51 W ea0 _
  · refine im_fI W (ik_0 U S) (by decide) rfl ea0 ?_
    refine im_ck W (ik_0 U S) ea0 fun b10 eb10 => ?_
    refine im_call (ue_u_X0_report W eb10 _ _ _) fun q9 => ?_
    dsimp only [id]
    exact ue_u_X0_mayTell_90 W ea0 _
def u_X4_tell_12 (U S N : Nat) (μ : CS) : Option (Unit × CS) :=
  some ((), μ)
theorem ue_u_X4_tell_12 {μ0 : BM} {ro U S : Nat} (W : Wd μ0 ro U S) {N : Nat} (s : CS) : IM μ0 ro U S id (u_X4_tell_12 U S N s) (f_X4_tell_12 N (EC μ0 ro U S s)) := by
  unfold f_X4_tell_12 u_X4_tell_12
  exact im_ret rfl
def u_X4_tell_32 (U S N : Nat) (a1 : Int32) (a2 : Int32) (a3 : Int32) (μ : CS) : Option (Unit × CS) :=
  (wH 1054 μ 4 0 1 a1 a2).bind fun μ2 =>
  (wH 1054 μ2 4 0 2 a1 a3).bind fun μ4 =>
  some ((), μ4)
theorem ue_u_X4_tell_32 {μ0 : BM} {ro U S : Nat} (W : Wd μ0 ro U S) {N : Nat} {a0f : Option Nat} (ea0 : a0f = (adr μ0 ro U S (4, 0, 0))) (a1 : Int32) (a2 : Int32) (a3 : Int32) (s : CS) : IM μ0 ro U S id (u_X4_tell_32 U S N a1 a2 a3 s) (f_X4_tell_32 N a0f a1 a2 a3 (EC μ0 ro U S s)) := by
  unfold f_X4_tell_32 u_X4_tell_32
  refine im_fR W (ik_4 U S) (by decide) rfl ea0 fun v1 ev1 => ?_
  refine im_bI (n := 1054) W (ia_4_2 U S) rfl rfl ev1 _ _ fun μ2 => ?_
  refine im_fR W (ik_4 U S) (by decide) rfl ea0 fun v3 ev3 => ?_
  refine im_bI (n := 1054) W (ia_4_3 U S) rfl rfl ev3 _ _ fun μ4 => ?_
  exact im_ret rfl
def u_X4_tell (U S N : Nat) (a1 : Int32) (a2 : Int32) (a3 : Int32) (μ : CS) : Option (Unit × CS) :=
  if a1 < 0 then
    u_X4_tell_12 U S N μ
  else
    if a1 < (μ.1 4 0 3) then
      (rH 1054 μ 4 0 2 a1).bind fun v3 =>
      if ¬ v3 = 0 then
        u_X4_tell_32 U S N a1 a2 a3 μ
      else
        (some (qI μ 4 0 4 ((μ.1 4 0 4) + 1))).bind fun μ5 =>
        u_X4_tell_32 U S N a1 a2 a3 μ5
    else
      u_X4_tell_12 U S N μ
theorem ue_u_X4_tell {μ0 : BM} {ro U S : Nat} (W : Wd μ0 ro U S) {N : Nat} {a0f : Option Nat} (ea0 : a0f = (adr μ0 ro U S (4, 0, 0))) (a1 : Int32) (a2 : Int32) (a3 : Int32) (s : CS) : IM μ0 ro U S id (u_X4_tell U S N a1 a2 a3 s) (f_X4_tell N a0f a1 a2 a3 (EC μ0 ro U S s)) := by
  unfold f_X4_tell u_X4_tell
  refine im_if Iff.rfl (fun _ => ?_) (fun _ => ?_)
  · exact ue_u_X4_tell_12 W _
  · refine im_fI W (ik_4 U S) (by decide) rfl ea0 ?_
    refine im_if Iff.rfl (fun _ => ?_) (fun _ => ?_)
    · refine im_fR W (ik_4 U S) (by decide) rfl ea0 fun v2 ev2 => ?_
      refine im_aI (n := 1054) W (ia_4_3 U S) rfl rfl ev2 _ fun v3 => ?_
      refine im_if Iff.rfl (fun _ => ?_) (fun _ => ?_)
      · exact ue_u_X4_tell_32 W ea0 _ _ _ _
      · refine im_fI W (ik_4 U S) (by decide) rfl ea0 ?_
        refine im_pI W (ik_4 U S) (by decide) rfl ea0 _ ?_
        exact ue_u_X4_tell_32 W ea0 _ _ _ _
    · exact ue_u_X4_tell_12 W _
def u_X0_passLabels_106 (U S N : Nat) (μ : CS) : Option (Unit × CS) :=
  some ((), μ)
theorem ue_u_X0_passLabels_106 {μ0 : BM} {ro U S : Nat} (W : Wd μ0 ro U S) {N : Nat} (s : CS) : IM μ0 ro U S id (u_X0_passLabels_106 U S N s) (f_X0_passLabels_106 N (EC μ0 ro U S s)) := by
  unfold f_X0_passLabels_106 u_X0_passLabels_106
  exact im_ret rfl
def u_X0_passLabels_47 (U S N : Nat) (μ : CS) : Option (Unit × CS) :=
  some ((), μ)
theorem ue_u_X0_passLabels_47 {μ0 : BM} {ro U S : Nat} (W : Wd μ0 ro U S) {N : Nat} (s : CS) : IM μ0 ro U S id (u_X0_passLabels_47 U S N s) (f_X0_passLabels_47 N (EC μ0 ro U S s)) := by
  unfold f_X0_passLabels_47 u_X0_passLabels_47
  exact im_ret rfl
def u_X0_passLabels_90 (U S N : Nat) (k2 : Int32 → CS → Option (Unit × CS)) (a1 : Int32) (μ : CS) : Option (Unit × CS) :=
  (some (qI μ 0 0 9 ((μ.1 0 0 9) + 2))).bind fun μ2 =>
  k2 (a1 + 1) μ2
theorem ue_u_X0_passLabels_90 {μ0 : BM} {ro U S : Nat} (W : Wd μ0 ro U S) {N : Nat} {k2 : (Option Nat) → Int32 → Mem → Option (Unit × Mem)} {k2' : Int32 → CS → Option (Unit × CS)} (hk2 : ∀ {ya0f : Option Nat} (eya0 : ya0f = (adr μ0 ro U S (0, 0, 0))) (ya1 : Int32) (s : CS), IM μ0 ro U S id (k2' ya1 s) (k2 ya0f ya1 (EC μ0 ro U S s))) {a0f : Option Nat} (ea0 : a0f = (adr μ0 ro U S (0, 0, 0))) (a1 : Int32) (s : CS) : IM μ0 ro U S id (u_X0_passLabels_90 U S N k2' a1 s) (f_X0_passLabels_90 N k2 a0f a1 (EC μ0 ro U S s)) := by
  unfold f_X0_passLabels_90 u_X0_passLabels_90
  refine im_fI W (ik_0 U S) (by decide) rfl ea0 ?_
  refine im_pI W (ik_0 U S) (by decide) rfl ea0 _ ?_
  exact hk2 ea0 _ _
def uh_X0_passLabels_2 (U S N : Nat) (k2 : Int32 → CS → Option (Unit × CS)) (a1 : Int32) (μ : CS) : Option (Unit × CS) :=
  if (μ.1 9 0 5) < a1 then
    u_X0_passLabels_106 U S N μ
  else
    if ¬ (μ.1 0 0 4) = 0 then
      u_X0_passLabels_106 U S N μ
    else
      (u_X0_kindAt U S N (μ.1 0 0 9) μ).bind fun q5 =>
      if ¬ q5.1 = (1 : Int32) then
        u_X0_passLabels_47 U S N q5.2
      else
        (u_X0_kindAt U S N ((q5.2.1 0 0 9) + 1) q5.2).bind fun q8 =>
        if q8.1 = (44 : Int32) then
          if ¬ (q8.2.1 0 0 6) = 0 then
            u_X0_passLabels_90 U S N k2 a1 q8.2
          else
            (u_X0_mayTell U S N 1 q8.2).bind fun q11 =>
            if q11.1 = 0 then
              u_X0_passLabels_90 U S N k2 a1 q11.2
            else
              (u_X9_valueOf U S N (q11.2.1 0 0 9) q11.2).bind fun q16 =>
              (u_X4_tell U S N q16.1 ((q16.2.1 0 0 10) &&& 4095) 1 q16.2).bind fun q19 =>
              u_X0_passLabels_90 U S N k2 a1 q19.2
        else
          u_X0_passLabels_47 U S N q8.2
theorem ue_uh_X0_passLabels_2 {μ0 : BM} {ro U S : Nat} (W : Wd μ0 ro U S) {N : Nat} {k2 : (Option Nat) → Int32 → Mem → Option (Unit × Mem)} {k2' : Int32 → CS → Option (Unit × CS)} (hk2 : ∀ {ya0f : Option Nat} (eya0 : ya0f = (adr μ0 ro U S (0, 0, 0))) (ya1 : Int32) (s : CS), IM μ0 ro U S id (k2' ya1 s) (k2 ya0f ya1 (EC μ0 ro U S s))) {a0f : Option Nat} (ea0 : a0f = (adr μ0 ro U S (0, 0, 0))) (a1 : Int32) (s : CS) : IM μ0 ro U S id (uh_X0_passLabels_2 U S N k2' a1 s) (H_X0_passLabels_2 N k2 a0f a1 (EC μ0 ro U S s)) := by
  unfold H_X0_passLabels_2 uh_X0_passLabels_2
  refine im_fR W (ik_0 U S) (by decide) rfl ea0 fun v1 ev1 => ?_
  refine im_fI W (ik_9 U S) (by decide) rfl ev1 ?_
  refine im_if Iff.rfl (fun _ => ?_) (fun _ => ?_)
  · exact ue_u_X0_passLabels_106 W _
  · refine im_fI W (ik_0 U S) (by decide) rfl ea0 ?_
    refine im_if Iff.rfl (fun _ => ?_) (fun _ => ?_)
    · exact ue_u_X0_passLabels_106 W _
    · refine im_fI W (ik_0 U S) (by decide) rfl ea0 ?_
      refine im_ck W (ik_0 U S) ea0 fun b6 eb6 => ?_
      refine im_call (ue_u_X0_kindAt W eb6 _ _) fun q5 => ?_
      dsimp only [id]
      refine im_if Iff.rfl (fun _ => ?_) (fun _ => ?_)
      · exact ue_u_X0_passLabels_47 W _
      · refine im_fI W (ik_0 U S) (by decide) rfl ea0 ?_
        refine im_ck W (ik_0 U S) ea0 fun b9 eb9 => ?_
        refine im_call (ue_u_X0_kindAt W eb9 _ _) fun q8 => ?_
        dsimp only [id]
        refine im_if Iff.rfl (fun _ => ?_) (fun _ => ?_)
        · refine im_fI W (ik_0 U S) (by decide) rfl ea0 ?_
          refine im_if Iff.rfl (fun _ => ?_) (fun _ => ?_)
          · exact ue_u_X0_passLabels_90 W hk2 ea0 _ _
          · refine im_ck W (ik_0 U S) ea0 fun b12 eb12 => ?_
            refine im_call (ue_u_X0_mayTell W eb12 _ _) fun q11 => ?_
            dsimp only [id]
            refine im_if Iff.rfl (fun _ => ?_) (fun _ => ?_)
            · exact ue_u_X0_passLabels_90 W hk2 ea0 _ _
            · refine im_fR W (ik_0 U S) (by decide) rfl ea0 fun v13 ev13 => ?_
              refine im_fR W (ik_0 U S) (by decide) rfl ea0 fun v14 ev14 => ?_
              refine im_fI W (ik_0 U S) (by decide) rfl ea0 ?_
              refine im_ck W (ik_9 U S) ev14 fun b17 eb17 => ?_
              refine im_call (ue_u_X9_valueOf W eb17 _ _) fun q16 => ?_
              dsimp only [id]
              refine im_fI W (ik_0 U S) (by decide) rfl ea0 ?_
              refine im_ck W (ik_4 U S) ev13 fun b20 eb20 => ?_
              refine im_call (ue_u_X4_tell W eb20 _ _ _ _) fun q19 => ?_
              dsimp only [id]
              exact ue_u_X0_passLabels_90 W hk2 ea0 _ _
        · exact ue_u_X0_passLabels_47 W _
