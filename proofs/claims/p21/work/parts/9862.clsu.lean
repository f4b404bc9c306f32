/-! LAYER 2, ShareEight over its typed state, further (by program) -/
def ul_X0_passLabels_2 (U S N : Nat)  : Nat → Int32 → CS → Option (Unit × CS)
  | 0 => fun _ _ => none
  | n + 1 => uh_X0_passLabels_2 U S N (ul_X0_passLabels_2 U S N n)
theorem ue_ul_X0_passLabels_2 {μ0 : BM} {ro U S : Nat} (W : Wd μ0 ro U S) {N : Nat} : ∀ (n : Nat) {a0f : Option Nat} (ea0 : a0f = (adr μ0 ro U S (0, 0, 0))) (a1 : Int32) (s : CS), IM μ0 ro U S id (ul_X0_passLabels_2 U S N n a1 s) (L_X0_passLabels_2 N n a0f a1 (EC μ0 ro U S s)) := by
  intro n
  induction n with
  | zero => intros; exact im_none
  | succ n ih => intro a0f ea0 a1 s; exact ue_uh_X0_passLabels_2 W ih ea0 _ _
def u_X0_passLabels (U S N : Nat) (μ : CS) : Option (Unit × CS) :=
  ul_X0_passLabels_2 U S N N 0 μ
theorem ue_u_X0_passLabels {μ0 : BM} {ro U S : Nat} (W : Wd μ0 ro U S) {N : Nat} {a0f : Option Nat} (ea0 : a0f = (adr μ0 ro U S (0, 0, 0))) (s : CS) : IM μ0 ro U S id (u_X0_passLabels U S N s) (f_X0_passLabels N a0f (EC μ0 ro U S s)) := by
  unfold f_X0_passLabels u_X0_passLabels
  exact ue_ul_X0_passLabels_2 W N ea0 _ _
def u_X0_isEnd_21 (U S N : Nat) (s0 : Int32) (μ : CS) : Option (Int32 × CS) :=
  cZ s0 μ
theorem ue_u_X0_isEnd_21 {μ0 : BM} {ro U S : Nat} (W : Wd μ0 ro U S) {N : Nat} (s0 : Int32) (s : CS) : IM μ0 ro U S id (u_X0_isEnd_21 U S N s0 s) (f_X0_isEnd_21 N s0 (EC μ0 ro U S s)) := by
  unfold f_X0_isEnd_21 u_X0_isEnd_21
  exact im_rZ _ _
def u_X0_isEnd_16 (U S N : Nat) (μ : CS) : Option (Int32 × CS) :=
  u_X0_isEnd_21 U S N 1 μ
theorem ue_u_X0_isEnd_16 {μ0 : BM} {ro U S : Nat} (W : Wd μ0 ro U S) {N : Nat} (s : CS) : IM μ0 ro U S id (u_X0_isEnd_16 U S N s) (f_X0_isEnd_16 N (EC μ0 ro U S s)) := by
  unfold f_X0_isEnd_16 u_X0_isEnd_16
  exact ue_u_X0_isEnd_21 W _ _
def u_X0_isEnd (U S N : Nat) (a0 : Int32) (μ : CS) : Option (Int32 × CS) :=
  if a0 = (59 : Int32) then
    u_X0_isEnd_16 U S N μ
  else
    if a0 = (10 : Int32) then
      u_X0_isEnd_16 U S N μ
    else
      if ¬ a0 = 0 then
        u_X0_isEnd_21 U S N 0 μ
      else
        u_X0_isEnd_16 U S N μ
theorem ue_u_X0_isEnd {μ0 : BM} {ro U S : Nat} (W : Wd μ0 ro U S) {N : Nat} (a0 : Int32) (s : CS) : IM μ0 ro U S id (u_X0_isEnd U S N a0 s) (f_X0_isEnd N a0 (EC μ0 ro U S s)) := by
  unfold f_X0_isEnd u_X0_isEnd
  refine im_if Iff.rfl (fun _ => ?_) (fun _ => ?_)
  · exact ue_u_X0_isEnd_16 W _
  · refine im_if Iff.rfl (fun _ => ?_) (fun _ => ?_)
    · exact ue_u_X0_isEnd_16 W _
    · refine im_if Iff.rfl (fun _ => ?_) (fun _ => ?_)
      · exact ue_u_X0_isEnd_21 W _ _
      · exact ue_u_X0_isEnd_16 W _
def u_X0_isStatementName_14 (U S N : Nat) (s0 : Int32) (μ : CS) : Option (Int32 × CS) :=
  cZ s0 μ
theorem ue_u_X0_isStatementName_14 {μ0 : BM} {ro U S : Nat} (W : Wd μ0 ro U S) {N : Nat} (s0 : Int32) (s : CS) : IM μ0 ro U S id (u_X0_isStatementName_14 U S N s0 s) (f_X0_isStatementName_14 N s0 (EC μ0 ro U S s)) := by
  unfold f_X0_isStatementName_14 u_X0_isStatementName_14
  exact im_rZ _ _
def u_X0_isStatementName_13 (U S N : Nat) (μ : CS) : Option (Int32 × CS) :=
  u_X0_isStatementName_14 U S N 0 μ
theorem ue_u_X0_isStatementName_13 {μ0 : BM} {ro U S : Nat} (W : Wd μ0 ro U S) {N : Nat} (s : CS) : IM μ0 ro U S id (u_X0_isStatementName_13 U S N s) (f_X0_isStatementName_13 N (EC μ0 ro U S s)) := by
  unfold f_X0_isStatementName_13 u_X0_isStatementName_13
  exact ue_u_X0_isStatementName_14 W _ _
def u_X0_isStatementName (U S N : Nat) (a0 : Int32) (μ : CS) : Option (Int32 × CS) :=
  if a0 < 0 then
    u_X0_isStatementName_13 U S N μ
  else
    if (4 : Int32) < a0 then
      u_X0_isStatementName_13 U S N μ
    else
      u_X0_isStatementName_14 U S N 1 μ
theorem ue_u_X0_isStatementName {μ0 : BM} {ro U S : Nat} (W : Wd μ0 ro U S) {N : Nat} (a0 : Int32) (s : CS) : IM μ0 ro U S id (u_X0_isStatementName U S N a0 s) (f_X0_isStatementName N a0 (EC μ0 ro U S s)) := by
  unfold f_X0_isStatementName u_X0_isStatementName
  refine im_if Iff.rfl (fun _ => ?_) (fun _ => ?_)
  · exact ue_u_X0_isStatementName_13 W _
  · refine im_if Iff.rfl (fun _ => ?_) (fun _ => ?_)
    · exact ue_u_X0_isStatementName_13 W _
    · exact ue_u_X0_isStatementName_14 W _ _
def u_X0_beginsValue_58 (U S N : Nat) (s0 : Int32) (μ : CS) : Option (Int32 × CS) :=
  cZ s0 μ
theorem ue_u_X0_beginsValue_58 {μ0 : BM} {ro U S : Nat} (W : Wd μ0 ro U S) {N : Nat} (s0 : Int32) (s : CS) : IM μ0 ro U S id (u_X0_beginsValue_58 U S N s0 s) (f_X0_beginsValue_58 N s0 (EC μ0 ro U S s)) := by
  unfold f_X0_beginsValue_58 u_X0_beginsValue_58
  exact im_rZ _ _
def u_X0_beginsValue_53 (U S N : Nat) (μ : CS) : Option (Int32 × CS) :=
  u_X0_beginsValue_58 U S N 1 μ
theorem ue_u_X0_beginsValue_53 {μ0 : BM} {ro U S : Nat} (W : Wd μ0 ro U S) {N : Nat} (s : CS) : IM μ0 ro U S id (u_X0_beginsValue_53 U S N s) (f_X0_beginsValue_53 N (EC μ0 ro U S s)) := by
  unfold f_X0_beginsValue_53 u_X0_beginsValue_53
  exact ue_u_X0_beginsValue_58 W _ _
def u_X0_beginsValue_30 (U S N : Nat) (s0 : Int32) (μ : CS) : Option (Int32 × CS) :=
  cZ s0 μ
theorem ue_u_X0_beginsValue_30 {μ0 : BM} {ro U S : Nat} (W : Wd μ0 ro U S) {N : Nat} (s0 : Int32) (s : CS) : IM μ0 ro U S id (u_X0_beginsValue_30 U S N s0 s) (f_X0_beginsValue_30 N s0 (EC μ0 ro U S s)) := by
  unfold f_X0_beginsValue_30 u_X0_beginsValue_30
  exact im_rZ _ _
def u_X0_beginsValue (U S N : Nat) (a1 : Int32) (μ : CS) : Option (Int32 × CS) :=
  (u_X0_kindAt U S N a1 μ).bind fun q1 =>
  if ¬ q1.1 = (1 : Int32) then
    if q1.1 = (2 : Int32) then
      u_X0_beginsValue_53 U S N q1.2
    else
      if q1.1 = (3 : Int32) then
        u_X0_beginsValue_53 U S N q1.2
      else
        if q1.1 = (46 : Int32) then
          u_X0_beginsValue_53 U S N q1.2
        else
          if ¬ q1.1 = (45 : Int32) then
            u_X0_beginsValue_58 U S N 0 q1.2
          else
            u_X0_beginsValue_53 U S N q1.2
  else
    (u_X9_valueOf U S N a1 q1.2).bind fun q4 =>
    (u_X0_isStatementName U S N q4.1 q4.2).bind fun q6 =>
    if ¬ q6.1 = 0 then
      u_X0_beginsValue_30 U S N 0 q6.2
    else
      u_X0_beginsValue_30 U S N 1 q6.2
theorem ue_u_X0_beginsValue {μ0 : BM} {ro U S : Nat} (W : Wd μ0 ro U S) {N : Nat} {a0f : Option Nat} (ea0 : a0f = (adr μ0 ro U S (0, 0, 0))) (a1 : Int32) (s : CS) : IM μ0 ro U S id (u_X0_beginsValue U S N a1 s) (f_X0_beginsValue N a0f a1 (EC μ0 ro U S s)) := by
  unfold f_X0_beginsValue u_X0_beginsValue
  refine im_ck W (ik_0 U S) ea0 fun b2 eb2 => ?_
  refine im_call (ue_u_X0_kindAt W eb2 _ _) fun q1 => ?_
  dsimp only [id]
  refine im_if Iff.rfl (fun _ => ?_) (fun _ => ?_)
  · refine im_if Iff.rfl (fun _ => ?_) (fun _ => ?_)
    · exact ue_u_X0_beginsValue_53 W _
    · refine im_if Iff.rfl (fun _ => ?_) (fun _ => ?_)
      · exact ue_u_X0_beginsValue_53 W _
      · refine im_if Iff.rfl (fun _ => ?_) (fun _ => ?_)
        · exact ue_u_X0_beginsValue_53 W _
        · refine im_if Iff.rfl (fun _ => ?_) (fun _ => ?_)
          · exact ue_u_X0_beginsValue_58 W _ _
          · exact ue_u_X0_beginsValue_53 W _
  · refine im_fR W (ik_0 U S) (by decide) rfl ea0 fun v3 ev3 => ?_
    refine im_ck W (ik_9 U S) ev3 fun b5 eb5 => ?_
    refine im_call (ue_u_X9_valueOf W eb5 _ _) fun q4 => ?_
    dsimp only [id]
    refine im_call (ue_u_X0_isStatementName W _ _) fun q6 => ?_
    dsimp only [id]
    refine im_if Iff.rfl (fun _ => ?_) (fun _ => ?_)
    · exact ue_u_X0_beginsValue_30 W _ _
    · exact ue_u_X0_beginsValue_30 W _ _
def u_X0_isLiteralSign_17 (U S N : Nat) (s0 : Int32) (μ : CS) : Option (Int32 × CS) :=
  cZ s0 μ
theorem ue_u_X0_isLiteralSign_17 {μ0 : BM} {ro U S : Nat} (W : Wd μ0 ro U S) {N : Nat} (s0 : Int32) (s : CS) : IM μ0 ro U S id (u_X0_isLiteralSign_17 U S N s0 s) (f_X0_isLiteralSign_17 N s0 (EC μ0 ro U S s)) := by
  unfold f_X0_isLiteralSign_17 u_X0_isLiteralSign_17
  exact im_rZ _ _
def u_X0_isLiteralSign_12 (U S N : Nat) (μ : CS) : Option (Int32 × CS) :=
  u_X0_isLiteralSign_17 U S N 1 μ
theorem ue_u_X0_isLiteralSign_12 {μ0 : BM} {ro U S : Nat} (W : Wd μ0 ro U S) {N : Nat} (s : CS) : IM μ0 ro U S id (u_X0_isLiteralSign_12 U S N s) (f_X0_isLiteralSign_12 N (EC μ0 ro U S s)) := by
  unfold f_X0_isLiteralSign_12 u_X0_isLiteralSign_12
  exact ue_u_X0_isLiteralSign_17 W _ _
def u_X0_isLiteralSign (U S N : Nat) (a0 : Int32) (μ : CS) : Option (Int32 × CS) :=
  if a0 = (40 : Int32) then
    u_X0_isLiteralSign_12 U S N μ
  else
    if ¬ a0 = (91 : Int32) then
      u_X0_isLiteralSign_17 U S N 0 μ
    else
      u_X0_isLiteralSign_12 U S N μ
theorem ue_u_X0_isLiteralSign {μ0 : BM} {ro U S : Nat} (W : Wd μ0 ro U S) {N : Nat} (a0 : Int32) (s : CS) : IM μ0 ro U S id (u_X0_isLiteralSign U S N a0 s) (f_X0_isLiteralSign N a0 (EC μ0 ro U S s)) := by
  unfold f_X0_isLiteralSign u_X0_isLiteralSign
  refine im_if Iff.rfl (fun _ => ?_) (fun _ => ?_)
  · exact ue_u_X0_isLiteralSign_12 W _
  · refine im_if Iff.rfl (fun _ => ?_) (fun _ => ?_)
    · exact ue_u_X0_isLiteralSign_17 W _ _
    · exact ue_u_X0_isLiteralSign_12 W _
def u_X0_beginsPart_24 (U S N : Nat) (s0 : Int32) (μ : CS) : Option (Int32 × CS) :=
  cZ s0 μ
theorem ue_u_X0_beginsPart_24 {μ0 : BM} {ro U S : Nat} (W : Wd μ0 ro U S) {N : Nat} (s0 : Int32) (s : CS) : IM μ0 ro U S id (u_X0_beginsPart_24 U S N s0 s) (f_X0_beginsPart_24 N s0 (EC μ0 ro U S s)) := by
  unfold f_X0_beginsPart_24 u_X0_beginsPart_24
  exact im_rZ _ _
def u_X0_beginsPart_19 (U S N : Nat) (μ : CS) : Option (Int32 × CS) :=
  u_X0_beginsPart_24 U S N 1 μ
theorem ue_u_X0_beginsPart_19 {μ0 : BM} {ro U S : Nat} (W : Wd μ0 ro U S) {N : Nat} (s : CS) : IM μ0 ro U S id (u_X0_beginsPart_19 U S N s) (f_X0_beginsPart_19 N (EC μ0 ro U S s)) := by
  unfold f_X0_beginsPart_19 u_X0_beginsPart_19
  exact ue_u_X0_beginsPart_24 W _ _
def u_X0_beginsPart (U S N : Nat) (a1 : Int32) (μ : CS) : Option (Int32 × CS) :=
  (u_X0_beginsValue U S N a1 μ).bind fun q1 =>
  if ¬ q1.1 = 0 then
    u_X0_beginsPart_19 U S N q1.2
  else
    (u_X0_kindAt U S N a1 q1.2).bind fun q3 =>
    (u_X0_isLiteralSign U S N q3.1 q3.2).bind fun q5 =>
    if q5.1 = 0 then
      u_X0_beginsPart_24 U S N 0 q5.2
    else
      u_X0_beginsPart_19 U S N q5.2
theorem ue_u_X0_beginsPart {μ0 : BM} {ro U S : Nat} (W : Wd μ0 ro U S) {N : Nat} {a0f : Option Nat} (ea0 : a0f = (adr μ0 ro U S (0, 0, 0))) (a1 : Int32) (s : CS) : IM μ0 ro U S id (u_X0_beginsPart U S N a1 s) (f_X0_beginsPart N a0f a1 (EC μ0 ro U S s)) := by
  unfold f_X0_beginsPart u_X0_beginsPart
  refine im_ck W (ik_0 U S) ea0 fun b2 eb2 => ?_
  refine im_call (ue_u_X0_beginsValue W eb2 _ _) fun q1 => ?_
  dsimp only [id]
  refine im_if Iff.rfl (fun _ => ?_) (fun _ => ?_)
  · exact ue_u_X0_beginsPart_19 W _
  · refine im_ck W (ik_0 U S) ea0 fun b4 eb4 => ?_
    refine im_call (ue_u_X0_kindAt W eb4 _ _) fun q3 => ?_
    dsimp only [id]
    refine im_call (ue_u_X0_isLiteralSign W _ _) fun q5 => ?_
    dsimp only [id]
    refine im_if Iff.rfl (fun _ => ?_) (fun _ => ?_)
    · exact ue_u_X0_beginsPart_24 W _ _
    · exact ue_u_X0_beginsPart_19 W _
def u_X0_kindOfNamed_110 (U S N : Nat) (s0 : Int32) (μ : CS) : Option (Int32 × CS) :=
  some (s0, μ)
theorem ue_u_X0_kindOfNamed_110 {μ0 : BM} {ro U S : Nat} (W : Wd μ0 ro U S) {N : Nat} (s0 : Int32) (s : CS) : IM μ0 ro U S id (u_X0_kindOfNamed_110 U S N s0 s) (f_X0_kindOfNamed_110 N s0 (EC μ0 ro U S s)) := by
  unfold f_X0_kindOfNamed_110 u_X0_kindOfNamed_110
  exact im_ret rfl
def u_X0_kindOfNamed_109 (U S N : Nat) (μ : CS) : Option (Int32 × CS) :=
  u_X0_kindOfNamed_110 U S N 1 μ
theorem ue_u_X0_kindOfNamed_109 {μ0 : BM} {ro U S : Nat} (W : Wd μ0 ro U S) {N : Nat} (s : CS) : IM μ0 ro U S id (u_X0_kindOfNamed_109 U S N s) (f_X0_kindOfNamed_109 N (EC μ0 ro U S s)) := by
  unfold f_X0_kindOfNamed_109 u_X0_kindOfNamed_109
  exact ue_u_X0_kindOfNamed_110 W _ _
def u_X0_kindOfNamed_94 (U S N : Nat) (a2 : Int32) (s0 : Int32) (μ : CS) : Option (Int32 × CS) :=
  if s0 = 0 then
    u_X0_kindOfNamed_109 U S N μ
  else
    if a2 = 0 then
      u_X0_kindOfNamed_109 U S N μ
    else
      u_X0_kindOfNamed_110 U S N 257 μ
theorem ue_u_X0_kindOfNamed_94 {μ0 : BM} {ro U S : Nat} (W : Wd μ0 ro U S) {N : Nat} (a2 : Int32) (s0 : Int32) (s : CS) : IM μ0 ro U S id (u_X0_kindOfNamed_94 U S N a2 s0 s) (f_X0_kindOfNamed_94 N a2 s0 (EC μ0 ro U S s)) := by
  unfold f_X0_kindOfNamed_94 u_X0_kindOfNamed_94
  refine im_if Iff.rfl (fun _ => ?_) (fun _ => ?_)
  · exact ue_u_X0_kindOfNamed_109 W _
  · refine im_if Iff.rfl (fun _ => ?_) (fun _ => ?_)
    · exact ue_u_X0_kindOfNamed_109 W _
    · exact ue_u_X0_kindOfNamed_110 W _ _
def u_X0_kindOfNamed_93 (U S N : Nat) (a2 : Int32) (μ : CS) : Option (Int32 × CS) :=
  u_X0_kindOfNamed_94 U S N a2 0 μ
theorem ue_u_X0_kindOfNamed_93 {μ0 : BM} {ro U S : Nat} (W : Wd μ0 ro U S) {N : Nat} (a2 : Int32) (s : CS) : IM μ0 ro U S id (u_X0_kindOfNamed_93 U S N a2 s) (f_X0_kindOfNamed_93 N a2 (EC μ0 ro U S s)) := by
  unfold f_X0_kindOfNamed_93 u_X0_kindOfNamed_93
  exact ue_u_X0_kindOfNamed_94 W _ _ _
def u_X0_kindOfNamed_77 (U S N : Nat) (a1 : Int32) (s0 : Int32) (μ : CS) : Option (Int32 × CS) :=
  if a1 < (5 : Int32) then
    u_X0_kindOfNamed_93 U S N s0 μ
  else
    if (10 : Int32) < a1 then
      u_X0_kindOfNamed_93 U S N s0 μ
    else
      u_X0_kindOfNamed_94 U S N s0 1 μ
theorem ue_u_X0_kindOfNamed_77 {μ0 : BM} {ro U S : Nat} (W : Wd μ0 ro U S) {N : Nat} (a1 : Int32) (s0 : Int32) (s : CS) : IM μ0 ro U S id (u_X0_kindOfNamed_77 U S N a1 s0 s) (f_X0_kindOfNamed_77 N a1 s0 (EC μ0 ro U S s)) := by
  unfold f_X0_kindOfNamed_77 u_X0_kindOfNamed_77
  refine im_if Iff.rfl (fun _ => ?_) (fun _ => ?_)
  · exact ue_u_X0_kindOfNamed_93 W _ _
  · refine im_if Iff.rfl (fun _ => ?_) (fun _ => ?_)
    · exact ue_u_X0_kindOfNamed_93 W _ _
    · exact ue_u_X0_kindOfNamed_94 W _ _ _
def u_X0_kindOfNamed_76 (U S N : Nat) (a1 : Int32) (μ : CS) : Option (Int32 × CS) :=
  u_X0_kindOfNamed_77 U S N a1 0 μ
theorem ue_u_X0_kindOfNamed_76 {μ0 : BM} {ro U S : Nat} (W : Wd μ0 ro U S) {N : Nat} (a1 : Int32) (s : CS) : IM μ0 ro U S id (u_X0_kindOfNamed_76 U S N a1 s) (f_X0_kindOfNamed_76 N a1 (EC μ0 ro U S s)) := by
  unfold f_X0_kindOfNamed_76 u_X0_kindOfNamed_76
  exact ue_u_X0_kindOfNamed_77 W _ _ _
def u_X0_kindOfNamed (U S N : Nat) (μ : CS) : Option (Int32 × CS) :=
  (u_X9_valueOf U S N (μ.1 0 0 9) μ).bind fun q3 =>
  (u_X0_kindAt U S N ((q3.2.1 0 0 9) + 1) q3.2).bind fun q6 =>
  if ¬ q6.1 = (61 : Int32) then
    (u_X0_isStatementName U S N q3.1 q6.2).bind fun q8 =>
    if q8.1 = 0 then
      (u_X0_kindAt U S N ((q8.2.1 0 0 9) + 1) q8.2).bind fun q10 =>
      if q10.1 = (45 : Int32) then
        u_X0_kindOfNamed_76 U S N q3.1 q10.2
      else
        (u_X0_beginsPart U S N ((q10.2.1 0 0 9) + 1) q10.2).bind fun q13 =>
        if q13.1 = 0 then
          u_X0_kindOfNamed_76 U S N q3.1 q13.2
        else
          u_X0_kindOfNamed_77 U S N q3.1 1 q13.2
    else
      some (300 + q3.1, q8.2)
  else
    some (256, q6.2)
theorem ue_u_X0_kindOfNamed {μ0 : BM} {ro U S : Nat} (W : Wd μ0 ro U S) {N : Nat} {a0f : Option Nat} (ea0 : a0f = (adr μ0 ro U S (0, 0, 0))) (s : CS) : IM μ0 ro U S id (u_X0_kindOfNamed U S N s) (f_X0_kindOfNamed N a0f (EC μ0 ro U S s)) := by
  unfold f_X0_kindOfNamed u_X0_kindOfNamed
  refine im_fR W (ik_0 U S) (by decide) rfl ea0 fun v1 ev1 => ?_
  refine im_fI W (ik_0 U S) (by decide) rfl ea0 ?_
  refine im_ck W (ik_9 U S) ev1 fun b4 eb4 => ?_
  refine im_call (ue_u_X9_valueOf W eb4 _ _) fun q3 => ?_
  dsimp only [id]
  refine im_fI W (ik_0 U S) (by decide) rfl ea0 ?_
  refine im_ck W (ik_0 U S) ea0 fun b7 eb7 => ?_
  refine im_call (ue_u_X0_kindAt W eb7 _ _) fun q6 => ?_
  dsimp only [id]
  refine im_if Iff.rfl (fun _ => ?_) (fun _ => ?_)
  · refine im_call (ue_u_X0_isStatementName W _ _) fun q8 => ?_
    dsimp only [id]
    refine im_if Iff.rfl (fun _ => ?_) (fun _ => ?_)
    · refine im_fI W (ik_0 U S) (by decide) rfl ea0 ?_
      refine im_ck W (ik_0 U S) ea0 fun b11 eb11 => ?_
      refine im_call (ue_u_X0_kindAt W eb11 _ _) fun q10 => ?_
      dsimp only [id]
      refine im_if Iff.rfl (fun _ => ?_) (fun _ => ?_)
      · exact ue_u_X0_kindOfNamed_76 W _ _
      · refine im_fI W (ik_0 U S) (by decide) rfl ea0 ?_
        refine im_ck W (ik_0 U S) ea0 fun b14 eb14 => ?_
        refine im_call (ue_u_X0_beginsPart W eb14 _ _) fun q13 => ?_
        dsimp only [id]
        refine im_if Iff.rfl (fun _ => ?_) (fun _ => ?_)
        · exact ue_u_X0_kindOfNamed_76 W _ _
        · exact ue_u_X0_kindOfNamed_77 W _ _ _
    · exact im_ret rfl
  · exact im_ret rfl
def u_X9_otherOf_22 (U S N : Nat) (s0 : Int32) (μ : CS) : Option (Int32 × CS) :=
  some (s0, μ)
theorem ue_u_X9_otherOf_22 {μ0 : BM} {ro U S : Nat} (W : Wd μ0 ro U S) {N : Nat} (s0 : Int32) (s : CS) : IM μ0 ro U S id (u_X9_otherOf_22 U S N s0 s) (f_X9_otherOf_22 N s0 (EC μ0 ro U S s)) := by
  unfold f_X9_otherOf_22 u_X9_otherOf_22
  exact im_ret rfl
def u_X9_otherOf_12 (U S N : Nat) (μ : CS) : Option (Int32 × CS) :=
  u_X9_otherOf_22 U S N ((-1)) μ
theorem ue_u_X9_otherOf_12 {μ0 : BM} {ro U S : Nat} (W : Wd μ0 ro U S) {N : Nat} (s : CS) : IM μ0 ro U S id (u_X9_otherOf_12 U S N s) (f_X9_otherOf_12 N (EC μ0 ro U S s)) := by
  unfold f_X9_otherOf_12 u_X9_otherOf_12
  exact ue_u_X9_otherOf_22 W _ _
def u_X9_otherOf (U S N : Nat) (a1 : Int32) (μ : CS) : Option (Int32 × CS) :=
  if a1 < 0 then
    u_X9_otherOf_12 U S N μ
  else
    if a1 < (μ.1 9 0 5) then
      (rH 2001 μ 9 0 4 a1).bind fun v3 =>
      u_X9_otherOf_22 U S N v3 μ
    else
      u_X9_otherOf_12 U S N μ
theorem ue_u_X9_otherOf {μ0 : BM} {ro U S : Nat} (W : Wd μ0 ro U S) {N : Nat} {a0f : Option Nat} (ea0 : a0f = (adr μ0 ro U S (9, 0, 0))) (a1 : Int32) (s : CS) : IM μ0 ro U S id (u_X9_otherOf U S N a1 s) (f_X9_otherOf N a0f a1 (EC μ0 ro U S s)) := by
  unfold f_X9_otherOf u_X9_otherOf
  refine im_if Iff.rfl (fun _ => ?_) (fun _ => ?_)
  · exact ue_u_X9_otherOf_12 W _
  · refine im_fI W (ik_9 U S) (by decide) rfl ea0 ?_
    refine im_if Iff.rfl (fun _ => ?_) (fun _ => ?_)
    · refine im_fR W (ik_9 U S) (by decide) rfl ea0 fun v2 ev2 => ?_
      refine im_aI (n := 2001) W (ia_9_5 U S) rfl rfl ev2 _ fun v3 => ?_
      exact ue_u_X9_otherOf_22 W _ _
    · exact ue_u_X9_otherOf_12 W _
def u_X4_valueOf_22 (U S N : Nat) (s0 : Int32) (μ : CS) : Option (Int32 × CS) :=
  some (s0, μ)
theorem ue_u_X4_valueOf_22 {μ0 : BM} {ro U S : Nat} (W : Wd μ0 ro U S) {N : Nat} (s0 : Int32) (s : CS) : IM μ0 ro U S id (u_X4_valueOf_22 U S N s0 s) (f_X4_valueOf_22 N s0 (EC μ0 ro U S s)) := by
  unfold f_X4_valueOf_22 u_X4_valueOf_22
  exact im_ret rfl
def u_X4_valueOf_12 (U S N : Nat) (μ : CS) : Option (Int32 × CS) :=
  u_X4_valueOf_22 U S N 0 μ
theorem ue_u_X4_valueOf_12 {μ0 : BM} {ro U S : Nat} (W : Wd μ0 ro U S) {N : Nat} (s : CS) : IM μ0 ro U S id (u_X4_valueOf_12 U S N s) (f_X4_valueOf_12 N (EC μ0 ro U S s)) := by
  unfold f_X4_valueOf_12 u_X4_valueOf_12
  exact ue_u_X4_valueOf_22 W _ _
def u_X4_valueOf (U S N : Nat) (a1 : Int32) (μ : CS) : Option (Int32 × CS) :=
  if a1 < 0 then
    u_X4_valueOf_12 U S N μ
  else
    if a1 < (μ.1 4 0 3) then
      (rH 1054 μ 4 0 1 a1).bind fun v3 =>
      u_X4_valueOf_22 U S N v3 μ
    else
      u_X4_valueOf_12 U S N μ
theorem ue_u_X4_valueOf {μ0 : BM} {ro U S : Nat} (W : Wd μ0 ro U S) {N : Nat} {a0f : Option Nat} (ea0 : a0f = (adr μ0 ro U S (4, 0, 0))) (a1 : Int32) (s : CS) : IM μ0 ro U S id (u_X4_valueOf U S N a1 s) (f_X4_valueOf N a0f a1 (EC μ0 ro U S s)) := by
  unfold f_X4_valueOf u_X4_valueOf
  refine im_if Iff.rfl (fun _ => ?_) (fun _ => ?_)
  · exact ue_u_X4_valueOf_12 W _
  · refine im_fI W (ik_4 U S) (by decide) rfl ea0 ?_
    refine im_if Iff.rfl (fun _ => ?_) (fun _ => ?_)
    · refine im_fR W (ik_4 U S) (by decide) rfl ea0 fun v2 ev2 => ?_
      refine im_aI (n := 1054) W (ia_4_2 U S) rfl rfl ev2 _ fun v3 => ?_
      exact ue_u_X4_valueOf_22 W _ _
    · exact ue_u_X4_valueOf_12 W _
def u_X0_readPlain_163 (U S N : Nat) (a4 : Int32) (μ : CS) : Option (Int32 × CS) :=
  (u_X4_valueOf U S N a4 μ).bind fun q2 =>
  some (q2.1, q2.2)
theorem ue_u_X0_readPlain_163 {μ0 : BM} {ro U S : Nat} (W : Wd μ0 ro U S) {N : Nat} {a0f : Option Nat} (ea0 : a0f = (adr μ0 ro U S (0, 0, 0))) (a4 : Int32) (s : CS) : IM μ0 ro U S id (u_X0_readPlain_163 U S N a4 s) (f_X0_readPlain_163 N a0f a4 (EC μ0 ro U S s)) := by
  unfold f_X0_readPlain_163 u_X0_readPlain_163
  refine im_fR W (ik_0 U S) (by decide) rfl ea0 fun v1 ev1 => ?_
  refine im_ck W (ik_4 U S) ev1 fun b3 eb3 => ?_
  refine im_call (ue_u_X4_valueOf W eb3 _ _) fun q2 => ?_
  dsimp only [id]
  exact im_ret rfl
def u_X0_readPlain_145 (U S N : Nat) (a2 : Int32) (a4 : Int32) (μ : CS) : Option (Int32 × CS) :=
  (u_X4_tellingOf U S N a4 μ).bind fun q2 =>
  if ¬ q2.1 = 0 then
    u_X0_readPlain_163 U S N a4 q2.2
  else
    (u_X0_report U S N 3 a2 q2.2).bind fun q4 =>
    u_X0_readPlain_163 U S N a4 q4.2
theorem ue_u_X0_readPlain_145 {μ0 : BM} {ro U S : Nat} (W : Wd μ0 ro U S) {N : Nat} {a0f : Option Nat} (ea0 : a0f = (adr μ0 ro U S (0, 0, 0))) (a2 : Int32) (a4 : Int32) (s : CS) : IM μ0 ro U S id (u_X0_readPlain_145 U S N a2 a4 s) (f_X0_readPlain_145 N a0f a2 a4 (EC μ0 ro U S s)) := by
  unfold f_X0_readPlain_145 u_X0_readPlain_145
  refine im_fR W (ik_0 U S) (by decide) rfl ea0 fun v1 ev1 => ?_
  refine im_ck W (ik_4 U S) ev1 fun b3 eb3 => ?_
  refine im_call (ue_u_X4_tellingOf W eb3 _ _) fun q2 => ?_
  dsimp only [id]
  refine im_if Iff.rfl (fun _ => ?_) (fun _ => ?_)
  · exact ue_u_X0_readPlain_163 W ea0 _ _
  · refine im_ck W (ik_0 U S) ea0 fun b5 eb5 => ?_
    refine im_call (ue_u_X0_report W eb5 _ _ _) fun q4 => ?_
    dsimp only [id]
    exact ue_u_X0_readPlain_163 W ea0 _ _
def u_X0_readPlain_126 (U S N : Nat) (a1 : Int32) (a2 : Int32) (a4 : Int32) (a5 : Int32) (μ : CS) : Option (Int32 × CS) :=
  if ¬ a5 = 0 then
    if ¬ a1 = 0 then
      u_X0_readPlain_145 U S N a2 a4 μ
    else
      if (μ.1 0 0 6) = 0 then
        u_X0_readPlain_163 U S N a4 μ
      else
        u_X0_readPlain_145 U S N a2 a4 μ
  else
    some (a4, μ)
theorem ue_u_X0_readPlain_126 {μ0 : BM} {ro U S : Nat} (W : Wd μ0 ro U S) {N : Nat} {a0f : Option Nat} (ea0 : a0f = (adr μ0 ro U S (0, 0, 0))) (a1 : Int32) (a2 : Int32) (a4 : Int32) (a5 : Int32) (s : CS) : IM μ0 ro U S id (u_X0_readPlain_126 U S N a1 a2 a4 a5 s) (f_X0_readPlain_126 N a0f a1 a2 a4 a5 (EC μ0 ro U S s)) := by
  unfold f_X0_readPlain_126 u_X0_readPlain_126
  refine im_if Iff.rfl (fun _ => ?_) (fun _ => ?_)
  · refine im_if Iff.rfl (fun _ => ?_) (fun _ => ?_)
    · exact ue_u_X0_readPlain_145 W ea0 _ _ _
    · refine im_fI W (ik_0 U S) (by decide) rfl ea0 ?_
      refine im_if Iff.rfl (fun _ => ?_) (fun _ => ?_)
      · exact ue_u_X0_readPlain_163 W ea0 _ _
      · exact ue_u_X0_readPlain_145 W ea0 _ _ _
  · exact im_ret rfl
def u_X0_readPlain_80 (U S N : Nat) (a1 : Int32) (a2 : Int32) (a3 : Int32) (a4 : Int32) (a5 : Int32) (μ : CS) : Option (Int32 × CS) :=
  (some (qI μ 0 0 9 ((μ.1 0 0 9) + 1))).bind fun μ2 =>
  if ¬ a3 = (46 : Int32) then
    if ¬ a3 = (2 : Int32) then
      u_X0_readPlain_126 U S N a1 a2 a4 a5 μ2
    else
      if (μ2.1 0 0 8) = 0 then
        u_X0_readPlain_126 U S N a1 a2 a4 a5 μ2
      else
        (u_X9_otherOf U S N a2 μ2).bind fun q5 =>
        some (q5.1, q5.2)
  else
    some ((μ2.1 0 0 10) &&& 4095, μ2)
theorem ue_u_X0_readPlain_80 {μ0 : BM} {ro U S : Nat} (W : Wd μ0 ro U S) {N : Nat} {a0f : Option Nat} (ea0 : a0f = (adr μ0 ro U S (0, 0, 0))) (a1 : Int32) (a2 : Int32) (a3 : Int32) (a4 : Int32) (a5 : Int32) (s : CS) : IM μ0 ro U S id (u_X0_readPlain_80 U S N a1 a2 a3 a4 a5 s) (f_X0_readPlain_80 N a0f a1 a2 a3 a4 a5 (EC μ0 ro U S s)) := by
  unfold f_X0_readPlain_80 u_X0_readPlain_80
  refine im_fI W (ik_0 U S) (by decide) rfl ea0 ?_
  refine im_pI W (ik_0 U S) (by decide) rfl ea0 _ ?_
  refine im_if Iff.rfl (fun _ => ?_) (fun _ => ?_)
  · refine im_if Iff.rfl (fun _ => ?_) (fun _ => ?_)
    · exact ue_u_X0_readPlain_126 W ea0 _ _ _ _ _
    · refine im_fI W (ik_0 U S) (by decide) rfl ea0 ?_
      refine im_if Iff.rfl (fun _ => ?_) (fun _ => ?_)
      · exact ue_u_X0_readPlain_126 W ea0 _ _ _ _ _
      · refine im_fR W (ik_0 U S) (by decide) rfl ea0 fun v4 ev4 => ?_
        refine im_ck W (ik_9 U S) ev4 fun b6 eb6 => ?_
        refine im_call (ue_u_X9_otherOf W eb6 _ _) fun q5 => ?_
        dsimp only [id]
        exact im_ret rfl
  · refine im_fI W (ik_0 U S) (by decide) rfl ea0 ?_
    exact im_ret rfl
def u_X0_readPlain_74 (U S N : Nat) (a2 : Int32) (s1 : Int32) (μ : CS) : Option (Int32 × CS) :=
  (u_X0_report U S N s1 a2 μ).bind fun q1 =>
  some (0, q1.2)
theorem ue_u_X0_readPlain_74 {μ0 : BM} {ro U S : Nat} (W : Wd μ0 ro U S) {N : Nat} (a2 : Int32) {s0f : Option Nat} (es0 : s0f = (adr μ0 ro U S (0, 0, 0))) (s1 : Int32) (s : CS) : IM μ0 ro U S id (u_X0_readPlain_74 U S N a2 s1 s) (f_X0_readPlain_74 N a2 s0f s1 (EC μ0 ro U S s)) := by
  unfold f_X0_readPlain_74 u_X0_readPlain_74
  refine im_ck W (ik_0 U S) es0 fun b2 eb2 => ?_
  refine im_call (ue_u_X0_report W eb2 _ _ _) fun q1 => ?_
  dsimp only [id]
  exact im_ret rfl
def u_X0_readPlain_39 (U S N : Nat) (a1 : Int32) (a2 : Int32) (a3 : Int32) (a4 : Int32) (s0 : Int32) (μ : CS) : Option (Int32 × CS) :=
  if ¬ s0 = 0 then
    u_X0_readPlain_80 U S N a1 a2 a3 a4 s0 μ
  else
    if a3 = (2 : Int32) then
      u_X0_readPlain_80 U S N a1 a2 a3 a4 s0 μ
    else
      if a3 = (3 : Int32) then
        u_X0_readPlain_80 U S N a1 a2 a3 a4 s0 μ
      else
        if a3 = (46 : Int32) then
          u_X0_readPlain_80 U S N a1 a2 a3 a4 s0 μ
        else
          if ¬ a3 = (6 : Int32) then
            u_X0_readPlain_74 U S N a2 2 μ
          else
            u_X0_readPlain_74 U S N a2 1 μ
theorem ue_u_X0_readPlain_39 {μ0 : BM} {ro U S : Nat} (W : Wd μ0 ro U S) {N : Nat} {a0f : Option Nat} (ea0 : a0f = (adr μ0 ro U S (0, 0, 0))) (a1 : Int32) (a2 : Int32) (a3 : Int32) (a4 : Int32) (s0 : Int32) (s : CS) : IM μ0 ro U S id (u_X0_readPlain_39 U S N a1 a2 a3 a4 s0 s) (f_X0_readPlain_39 N a0f a1 a2 a3 a4 s0 (EC μ0 ro U S s)) := by
  unfold f_X0_readPlain_39 u_X0_readPlain_39
  refine im_if Iff.rfl (fun _ => ?_) (fun _ => ?_)
  · exact ue_u_X0_readPlain_80 W ea0 _ _ _ _ _ _
  · refine im_if Iff.rfl (fun _ => ?_) (fun _ => ?_)
    · exact ue_u_X0_readPlain_80 W ea0 _ _ _ _ _ _
    · refine im_if Iff.rfl (fun _ => ?_) (fun _ => ?_)
      · exact ue_u_X0_readPlain_80 W ea0 _ _ _ _ _ _
      · refine im_if Iff.rfl (fun _ => ?_) (fun _ => ?_)
        · exact ue_u_X0_readPlain_80 W ea0 _ _ _ _ _ _
        · refine im_if Iff.rfl (fun _ => ?_) (fun _ => ?_)
          · exact ue_u_X0_readPlain_74 W _ ea0 _ _
          · exact ue_u_X0_readPlain_74 W _ ea0 _ _
def u_X0_readPlain_38 (U S N : Nat) (a1 : Int32) (a2 : Int32) (a3 : Int32) (a4 : Int32) (μ : CS) : Option (Int32 × CS) :=
  u_X0_readPlain_39 U S N a1 a2 a3 a4 0 μ
theorem ue_u_X0_readPlain_38 {μ0 : BM} {ro U S : Nat} (W : Wd μ0 ro U S) {N : Nat} {a0f : Option Nat} (ea0 : a0f = (adr μ0 ro U S (0, 0, 0))) (a1 : Int32) (a2 : Int32) (a3 : Int32) (a4 : Int32) (s : CS) : IM μ0 ro U S id (u_X0_readPlain_38 U S N a1 a2 a3 a4 s) (f_X0_readPlain_38 N a0f a1 a2 a3 a4 (EC μ0 ro U S s)) := by
  unfold f_X0_readPlain_38 u_X0_readPlain_38
  exact ue_u_X0_readPlain_39 W ea0 _ _ _ _ _ _
def u_X0_readPlain (U S N : Nat) (a1 : Int32) (μ : CS) : Option (Int32 × CS) :=
  (u_X0_kindAt U S N (μ.1 0 0 9) μ).bind fun q2 =>
  (u_X9_valueOf U S N (μ.1 0 0 9) q2.2).bind fun q5 =>
  if ¬ q2.1 = (1 : Int32) then
    u_X0_readPlain_38 U S N a1 (μ.1 0 0 9) q2.1 q5.1 q5.2
  else
    (u_X0_isStatementName U S N q5.1 q5.2).bind fun q7 =>
    if ¬ q7.1 = 0 then
      u_X0_readPlain_38 U S N a1 (μ.1 0 0 9) q2.1 q5.1 q7.2
    else
      u_X0_readPlain_39 U S N a1 (μ.1 0 0 9) q2.1 q5.1 1 q7.2
theorem ue_u_X0_readPlain {μ0 : BM} {ro U S : Nat} (W : Wd μ0 ro U S) {N : Nat} {a0f : Option Nat} (ea0 : a0f = (adr μ0 ro U S (0, 0, 0))) (a1 : Int32) (s : CS) : IM μ0 ro U S id (u_X0_readPlain U S N a1 s) (f_X0_readPlain N a0f a1 (EC μ0 ro U S s)) := by
  unfold f_X0_readPlain u_X0_readPlain
  refine im_fI W (ik_0 U S) (by decide) rfl ea0 ?_
  refine im_ck W (ik_0 U S) ea0 fun b3 eb3 => ?_
  refine im_call (ue_u_X0_kindAt W eb3 _ _) fun q2 => ?_
  dsimp only [id]
  refine im_fR W (ik_0 U S) (by decide) rfl ea0 fun v4 ev4 => ?_
  refine im_ck W (ik_9 U S) ev4 fun b6 eb6 => ?_
  refine im_call (ue_u_X9_valueOf W eb6 _ _) fun q5 => ?_
  dsimp only [id]
  refine im_if Iff.rfl (fun _ => ?_) (fun _ => ?_)
  · exact ue_u_X0_readPlain_38 W ea0 _ _ _ _ _
  · refine im_call (ue_u_X0_isStatementName W _ _) fun q7 => ?_
    dsimp only [id]
    refine im_if Iff.rfl (fun _ => ?_) (fun _ => ?_)
    · exact ue_u_X0_readPlain_38 W ea0 _ _ _ _ _
    · exact ue_u_X0_readPlain_39 W ea0 _ _ _ _ _ _
def u_X0_combine (U S N : Nat) (a0 : Int32) (a1 : Int32) (a2 : Int32) (μ : CS) : Option (Int32 × CS) :=
  if a1 = 33 then
    some (a0 ||| a2, μ)
  else
    if a1 = 43 then
      some ((a0 + a2) &&& 4095, μ)
    else
      if a1 = 45 then
        some ((a0 - a2) &&& 4095, μ)
      else
        some (a0 &&& a2, μ)
theorem ue_u_X0_combine {μ0 : BM} {ro U S : Nat} (W : Wd μ0 ro U S) {N : Nat} (a0 : Int32) (a1 : Int32) (a2 : Int32) (s : CS) : IM μ0 ro U S id (u_X0_combine U S N a0 a1 a2 s) (f_X0_combine N a0 a1 a2 (EC μ0 ro U S s)) := by
  unfold f_X0_combine u_X0_combine
  refine im_if Iff.rfl (fun _ => ?_) (fun _ => ?_)
  · exact im_ret rfl
  · refine im_if Iff.rfl (fun _ => ?_) (fun _ => ?_)
    · exact im_ret rfl
    · refine im_if Iff.rfl (fun _ => ?_) (fun _ => ?_)
      · exact im_ret rfl
      · exact im_ret rfl
def u_X0_isOperator_29 (U S N : Nat) (s0 : Int32) (μ : CS) : Option (Int32 × CS) :=
  cZ s0 μ
theorem ue_u_X0_isOperator_29 {μ0 : BM} {ro U S : Nat} (W : Wd μ0 ro U S) {N : Nat} (s0 : Int32) (s : CS) : IM μ0 ro U S id (u_X0_isOperator_29 U S N s0 s) (f_X0_isOperator_29 N s0 (EC μ0 ro U S s)) := by
  unfold f_X0_isOperator_29 u_X0_isOperator_29
  exact im_rZ _ _
def u_X0_isOperator_24 (U S N : Nat) (μ : CS) : Option (Int32 × CS) :=
  u_X0_isOperator_29 U S N 1 μ
theorem ue_u_X0_isOperator_24 {μ0 : BM} {ro U S : Nat} (W : Wd μ0 ro U S) {N : Nat} (s : CS) : IM μ0 ro U S id (u_X0_isOperator_24 U S N s) (f_X0_isOperator_24 N (EC μ0 ro U S s)) := by
  unfold f_X0_isOperator_24 u_X0_isOperator_24
  exact ue_u_X0_isOperator_29 W _ _
def u_X0_isOperator (U S N : Nat) (a0 : Int32) (μ : CS) : Option (Int32 × CS) :=
  if a0 = (43 : Int32) then
    u_X0_isOperator_24 U S N μ
  else
    if a0 = (45 : Int32) then
      u_X0_isOperator_24 U S N μ
    else
      if a0 = (33 : Int32) then
        u_X0_isOperator_24 U S N μ
      else
        if ¬ a0 = (38 : Int32) then
          u_X0_isOperator_29 U S N 0 μ
        else
          u_X0_isOperator_24 U S N μ
theorem ue_u_X0_isOperator {μ0 : BM} {ro U S : Nat} (W : Wd μ0 ro U S) {N : Nat} (a0 : Int32) (s : CS) : IM μ0 ro U S id (u_X0_isOperator U S N a0 s) (f_X0_isOperator N a0 (EC μ0 ro U S s)) := by
  unfold f_X0_isOperator u_X0_isOperator
  refine im_if Iff.rfl (fun _ => ?_) (fun _ => ?_)
  · exact ue_u_X0_isOperator_24 W _
  · refine im_if Iff.rfl (fun _ => ?_) (fun _ => ?_)
    · exact ue_u_X0_isOperator_24 W _
    · refine im_if Iff.rfl (fun _ => ?_) (fun _ => ?_)
      · exact ue_u_X0_isOperator_24 W _
      · refine im_if Iff.rfl (fun _ => ?_) (fun _ => ?_)
        · exact ue_u_X0_isOperator_29 W _ _
        · exact ue_u_X0_isOperator_24 W _
def u_X0_readValue_127 (U S N : Nat) (a2 : Int32) (μ : CS) : Option (Int32 × CS) :=
  some (a2, μ)
theorem ue_u_X0_readValue_127 {μ0 : BM} {ro U S : Nat} (W : Wd μ0 ro U S) {N : Nat} (a2 : Int32) (s : CS) : IM μ0 ro U S id (u_X0_readValue_127 U S N a2 s) (f_X0_readValue_127 N a2 (EC μ0 ro U S s)) := by
  unfold f_X0_readValue_127 u_X0_readValue_127
  exact im_ret rfl
def u_X0_readValue_88 (U S N : Nat) (k8 : Int32 → Int32 → Int32 → Int32 → CS → Option (Int32 × CS)) (a1 : Int32) (a4 : Int32) (s0 : Int32) (s1 : Int32) (s2 : Int32) (μ : CS) : Option (Int32 × CS) :=
  (u_X0_combine U S N s0 s1 s2 μ).bind fun q1 =>
  (u_X0_kindAt U S N (q1.2.1 0 0 9) q1.2).bind fun q3 =>
  (u_X0_isOperator U S N q3.1 q3.2).bind fun q5 =>
  if ¬ q5.1 = 0 then
    (some (qI q5.2 0 0 9 ((q5.2.1 0 0 9) + 1))).bind fun μ7 =>
    k8 a1 q1.1 q3.1 (a4 + 1) μ7
  else
    u_X0_readValue_127 U S N q1.1 q5.2
theorem ue_u_X0_readValue_88 {μ0 : BM} {ro U S : Nat} (W : Wd μ0 ro U S) {N : Nat} {k8 : (Option Nat) → Int32 → Int32 → Int32 → Int32 → Mem → Option (Int32 × Mem)} {k8' : Int32 → Int32 → Int32 → Int32 → CS → Option (Int32 × CS)} (hk8 : ∀ {ya0f : Option Nat} (eya0 : ya0f = (adr μ0 ro U S (0, 0, 0))) (ya1 : Int32) (ya2 : Int32) (ya3 : Int32) (ya4 : Int32) (s : CS), IM μ0 ro U S id (k8' ya1 ya2 ya3 ya4 s) (k8 ya0f ya1 ya2 ya3 ya4 (EC μ0 ro U S s))) {a0f : Option Nat} (ea0 : a0f = (adr μ0 ro U S (0, 0, 0))) (a1 : Int32) (a4 : Int32) (s0 : Int32) (s1 : Int32) (s2 : Int32) (s : CS) : IM μ0 ro U S id (u_X0_readValue_88 U S N k8' a1 a4 s0 s1 s2 s) (f_X0_readValue_88 N k8 a0f a1 a4 s0 s1 s2 (EC μ0 ro U S s)) := by
  unfold f_X0_readValue_88 u_X0_readValue_88
  refine im_call (ue_u_X0_combine W _ _ _ _) fun q1 => ?_
  dsimp only [id]
  refine im_fI W (ik_0 U S) (by decide) rfl ea0 ?_
  refine im_ck W (ik_0 U S) ea0 fun b4 eb4 => ?_
  refine im_call (ue_u_X0_kindAt W eb4 _ _) fun q3 => ?_
  dsimp only [id]
  refine im_call (ue_u_X0_isOperator W _ _) fun q5 => ?_
  dsimp only [id]
  refine im_if Iff.rfl (fun _ => ?_) (fun _ => ?_)
  · refine im_fI W (ik_0 U S) (by decide) rfl ea0 ?_
    refine im_pI W (ik_0 U S) (by decide) rfl ea0 _ ?_
    exact hk8 ea0 _ _ _ _ _
  · exact ue_u_X0_readValue_127 W _ _
def u_X0_readValue_62 (U S N : Nat) (k8 : Int32 → Int32 → Int32 → Int32 → CS → Option (Int32 × CS)) (a1 : Int32) (a2 : Int32) (a3 : Int32) (a4 : Int32) (a5 : Int32) (μ : CS) : Option (Int32 × CS) :=
  (u_X0_readPlain U S N a1 μ).bind fun q1 =>
  if a5 = 0 then
    u_X0_readValue_88 U S N k8 a1 a4 a2 a3 q1.1 q1.2
  else
    u_X0_readValue_88 U S N k8 a1 a4 a2 a3 ((-q1.1) &&& 4095) q1.2
theorem ue_u_X0_readValue_62 {μ0 : BM} {ro U S : Nat} (W : Wd μ0 ro U S) {N : Nat} {k8 : (Option Nat) → Int32 → Int32 → Int32 → Int32 → Mem → Option (Int32 × Mem)} {k8' : Int32 → Int32 → Int32 → Int32 → CS → Option (Int32 × CS)} (hk8 : ∀ {ya0f : Option Nat} (eya0 : ya0f = (adr μ0 ro U S (0, 0, 0))) (ya1 : Int32) (ya2 : Int32) (ya3 : Int32) (ya4 : Int32) (s : CS), IM μ0 ro U S id (k8' ya1 ya2 ya3 ya4 s) (k8 ya0f ya1 ya2 ya3 ya4 (EC μ0 ro U S s))) {a0f : Option Nat} (ea0 : a0f = (adr μ0 ro U S (0, 0, 0))) (a1 : Int32) (a2 : Int32) (a3 : Int32) (a4 : Int32) (a5 : Int32) (s : CS) : IM μ0 ro U S id (u_X0_readValue_62 U S N k8' a1 a2 a3 a4 a5 s) (f_X0_readValue_62 N k8 a0f a1 a2 a3 a4 a5 (EC μ0 ro U S s)) := by
  unfold f_X0_readValue_62 u_X0_readValue_62
  refine im_ck W (ik_0 U S) ea0 fun b2 eb2 => ?_
  refine im_call (ue_u_X0_readPlain W eb2 _ _) fun q1 => ?_
  dsimp only [id]
  refine im_if Iff.rfl (fun _ => ?_) (fun _ => ?_)
  · exact ue_u_X0_readValue_88 W hk8 ea0 _ _ _ _ _ _
  · exact ue_u_X0_readValue_88 W hk8 ea0 _ _ _ _ _ _
def u_X0_readValue_45 (U S N : Nat) (k8 : Int32 → Int32 → Int32 → Int32 → CS → Option (Int32 × CS)) (a1 : Int32) (a2 : Int32) (a3 : Int32) (a4 : Int32) (s0 : Int32) (μ : CS) : Option (Int32 × CS) :=
  if s0 = 0 then
    u_X0_readValue_62 U S N k8 a1 a2 a3 a4 s0 μ
  else
    (some (qI μ 0 0 9 ((μ.1 0 0 9) + 1))).bind fun μ2 =>
    u_X0_readValue_62 U S N k8 a1 a2 a3 a4 s0 μ2
theorem ue_u_X0_readValue_45 {μ0 : BM} {ro U S : Nat} (W : Wd μ0 ro U S) {N : Nat} {k8 : (Option Nat) → Int32 → Int32 → Int32 → Int32 → Mem → Option (Int32 × Mem)} {k8' : Int32 → Int32 → Int32 → Int32 → CS → Option (Int32 × CS)} (hk8 : ∀ {ya0f : Option Nat} (eya0 : ya0f = (adr μ0 ro U S (0, 0, 0))) (ya1 : Int32) (ya2 : Int32) (ya3 : Int32) (ya4 : Int32) (s : CS), IM μ0 ro U S id (k8' ya1 ya2 ya3 ya4 s) (k8 ya0f ya1 ya2 ya3 ya4 (EC μ0 ro U S s))) {a0f : Option Nat} (ea0 : a0f = (adr μ0 ro U S (0, 0, 0))) (a1 : Int32) (a2 : Int32) (a3 : Int32) (a4 : Int32) (s0 : Int32) (s : CS) : IM μ0 ro U S id (u_X0_readValue_45 U S N k8' a1 a2 a3 a4 s0 s) (f_X0_readValue_45 N k8 a0f a1 a2 a3 a4 s0 (EC μ0 ro U S s)) := by
  unfold f_X0_readValue_45 u_X0_readValue_45
  refine im_if Iff.rfl (fun _ => ?_) (fun _ => ?_)
  · exact ue_u_X0_readValue_62 W hk8 ea0 _ _ _ _ _ _
  · refine im_fI W (ik_0 U S) (by decide) rfl ea0 ?_
    refine im_pI W (ik_0 U S) (by decide) rfl ea0 _ ?_
    exact ue_u_X0_readValue_62 W hk8 ea0 _ _ _ _ _ _
def uh_X0_readValue_8 (U S N : Nat) (k8 : Int32 → Int32 → Int32 → Int32 → CS → Option (Int32 × CS)) (a1 : Int32) (a2 : Int32) (a3 : Int32) (a4 : Int32) (μ : CS) : Option (Int32 × CS) :=
  if (μ.1 9 0 5) < a4 then
    u_X0_readValue_127 U S N a2 μ
  else
    if ¬ (μ.1 0 0 4) = 0 then
      u_X0_readValue_127 U S N a2 μ
    else
      (u_X0_kindAt U S N (μ.1 0 0 9) μ).bind fun q5 =>
      if ¬ q5.1 = (45 : Int32) then
        u_X0_readValue_45 U S N k8 a1 a2 a3 a4 0 q5.2
      else
        u_X0_readValue_45 U S N k8 a1 a2 a3 a4 1 q5.2
theorem ue_uh_X0_readValue_8 {μ0 : BM} {ro U S : Nat} (W : Wd μ0 ro U S) {N : Nat} {k8 : (Option Nat) → Int32 → Int32 → Int32 → Int32 → Mem → Option (Int32 × Mem)} {k8' : Int32 → Int32 → Int32 → Int32 → CS → Option (Int32 × CS)} (hk8 : ∀ {ya0f : Option Nat} (eya0 : ya0f = (adr μ0 ro U S (0, 0, 0))) (ya1 : Int32) (ya2 : Int32) (ya3 : Int32) (ya4 : Int32) (s : CS), IM μ0 ro U S id (k8' ya1 ya2 ya3 ya4 s) (k8 ya0f ya1 ya2 ya3 ya4 (EC μ0 ro U S s))) {a0f : Option Nat} (ea0 : a0f = (adr μ0 ro U S (0, 0, 0))) (a1 : Int32) (a2 : Int32) (a3 : Int32) (a4 : Int32) (s : CS) : IM μ0 ro U S id (uh_X0_readValue_8 U S N k8' a1 a2 a3 a4 s) (H_X0_readValue_8 N k8 a0f a1 a2 a3 a4 (EC μ0 ro U S s)) := by
  unfold H_X0_readValue_8 uh_X0_readValue_8
  refine im_fR W (ik_0 U S) (by decide) rfl ea0 fun v1 ev1 => ?_
  refine im_fI W (ik_9 U S) (by decide) rfl ev1 ?_
  refine im_if Iff.rfl (fun _ => ?_) (fun _ => ?_)
  · exact ue_u_X0_readValue_127 W _ _
  · refine im_fI W (ik_0 U S) (by decide) rfl ea0 ?_
    refine im_if Iff.rfl (fun _ => ?_) (fun _ => ?_)
    · exact ue_u_X0_readValue_127 W _ _
    · refine im_fI W (ik_0 U S) (by decide) rfl ea0 ?_
      refine im_ck W (ik_0 U S) ea0 fun b6 eb6 => ?_
      refine im_call (ue_u_X0_kindAt W eb6 _ _) fun q5 => ?_
      dsimp only [id]
      refine im_if Iff.rfl (fun _ => ?_) (fun _ => ?_)
      · exact ue_u_X0_readValue_45 W hk8 ea0 _ _ _ _ _ _
      · exact ue_u_X0_readValue_45 W hk8 ea0 _ _ _ _ _ _
def ul_X0_readValue_8 (U S N : Nat)  : Nat → Int32 → Int32 → Int32 → Int32 → CS → Option (Int32 × CS)
  | 0 => fun _ _ _ _ _ => none
  | n + 1 => uh_X0_readValue_8 U S N (ul_X0_readValue_8 U S N n)
theorem ue_ul_X0_readValue_8 {μ0 : BM} {ro U S : Nat} (W : Wd μ0 ro U S) {N : Nat} : ∀ (n : Nat) {a0f : Option Nat} (ea0 : a0f = (adr μ0 ro U S (0, 0, 0))) (a1 : Int32) (a2 : Int32) (a3 : Int32) (a4 : Int32) (s : CS), IM μ0 ro U S id (ul_X0_readValue_8 U S N n a1 a2 a3 a4 s) (L_X0_readValue_8 N n a0f a1 a2 a3 a4 (EC μ0 ro U S s)) := by
  intro n
  induction n with
  | zero => intros; exact im_none
  | succ n ih => intro a0f ea0 a1 a2 a3 a4 s; exact ue_uh_X0_readValue_8 W ih ea0 _ _ _ _ _
def u_X0_readValue (U S N : Nat) (a1 : Int32) (μ : CS) : Option (Int32 × CS) :=
  ul_X0_readValue_8 U S N N a1 0 43 0 μ
theorem ue_u_X0_readValue {μ0 : BM} {ro U S : Nat} (W : Wd μ0 ro U S) {N : Nat} {a0f : Option Nat} (ea0 : a0f = (adr μ0 ro U S (0, 0, 0))) (a1 : Int32) (s : CS) : IM μ0 ro U S id (u_X0_readValue U S N a1 s) (f_X0_readValue N a0f a1 (EC μ0 ro U S s)) := by
  unfold f_X0_readValue u_X0_readValue
  exact ue_ul_X0_readValue_8 W N ea0 _ _ _ _ _
def u_X0_passOrigin_28 (U S N : Nat) (μ : CS) : Option (Unit × CS) :=
  some ((), μ)
theorem ue_u_X0_passOrigin_28 {μ0 : BM} {ro U S : Nat} (W : Wd μ0 ro U S) {N : Nat} (s : CS) : IM μ0 ro U S id (u_X0_passOrigin_28 U S N s) (f_X0_passOrigin_28 N (EC μ0 ro U S s)) := by
  unfold f_X0_passOrigin_28 u_X0_passOrigin_28
  exact im_ret rfl
def u_X0_passOrigin (U S N : Nat) (μ : CS) : Option (Unit × CS) :=
  (some (qI μ 0 0 9 ((μ.1 0 0 9) + 1))).bind fun μ2 =>
  (u_X0_readValue U S N 1 μ2).bind fun q3 =>
  if ¬ (q3.2.1 0 0 4) = 0 then
    u_X0_passOrigin_28 U S N q3.2
  else
    (some (qI q3.2 0 0 10 q3.1)).bind fun μ6 =>
    u_X0_passOrigin_28 U S N μ6
theorem ue_u_X0_passOrigin {μ0 : BM} {ro U S : Nat} (W : Wd μ0 ro U S) {N : Nat} {a0f : Option Nat} (ea0 : a0f = (adr μ0 ro U S (0, 0, 0))) (s : CS) : IM μ0 ro U S id (u_X0_passOrigin U S N s) (f_X0_passOrigin N a0f (EC μ0 ro U S s)) := by
  unfold f_X0_passOrigin u_X0_passOrigin
  refine im_fI W (ik_0 U S) (by decide) rfl ea0 ?_
  refine im_pI W (ik_0 U S) (by decide) rfl ea0 _ ?_
  refine im_ck W (ik_0 U S) ea0 fun b4 eb4 => ?_
  refine im_call (ue_u_X0_readValue W eb4 _ _) fun q3 => ?_
  dsimp only [id]
  refine im_fI W (ik_0 U S) (by decide) rfl ea0 ?_
  refine im_if Iff.rfl (fun _ => ?_) (fun _ => ?_)
  · exact ue_u_X0_passOrigin_28 W _
  · refine im_pI W (ik_0 U S) (by decide) rfl ea0 _ ?_
    exact ue_u_X0_passOrigin_28 W _
def u_X0_passEquation_54 (U S N : Nat) (μ : CS) : Option (Unit × CS) :=
  some ((), μ)
theorem ue_u_X0_passEquation_54 {μ0 : BM} {ro U S : Nat} (W : Wd μ0 ro U S) {N : Nat} (s : CS) : IM μ0 ro U S id (u_X0_passEquation_54 U S N s) (f_X0_passEquation_54 N (EC μ0 ro U S s)) := by
  unfold f_X0_passEquation_54 u_X0_passEquation_54
  exact im_ret rfl
def u_X0_passEquation (U S N : Nat) (μ : CS) : Option (Unit × CS) :=
  (u_X9_valueOf U S N (μ.1 0 0 9) μ).bind fun q3 =>
  (u_X0_mayTell U S N 2 q3.2).bind fun q5 =>
  if ¬ q5.1 = 0 then
    (some (qI q5.2 0 0 9 ((q5.2.1 0 0 9) + 2))).bind fun μ8 =>
    (u_X0_readValue U S N 1 μ8).bind fun q9 =>
    if ¬ (q9.2.1 0 0 4) = 0 then
      u_X0_passEquation_54 U S N q9.2
    else
      (u_X4_tell U S N q3.1 q9.1 2 q9.2).bind fun q13 =>
      u_X0_passEquation_54 U S N q13.2
  else
    some ((), q5.2)
theorem ue_u_X0_passEquation {μ0 : BM} {ro U S : Nat} (W : Wd μ0 ro U S) {N : Nat} {a0f : Option Nat} (ea0 : a0f = (adr μ0 ro U S (0, 0, 0))) (s : CS) : IM μ0 ro U S id (u_X0_passEquation U S N s) (f_X0_passEquation N a0f (EC μ0 ro U S s)) := by
  unfold f_X0_passEquation u_X0_passEquation
  refine im_fR W (ik_0 U S) (by decide) rfl ea0 fun v1 ev1 => ?_
  refine im_fI W (ik_0 U S) (by decide) rfl ea0 ?_
  refine im_ck W (ik_9 U S) ev1 fun b4 eb4 => ?_
  refine im_call (ue_u_X9_valueOf W eb4 _ _) fun q3 => ?_
  dsimp only [id]
  refine im_ck W (ik_0 U S) ea0 fun b6 eb6 => ?_
  refine im_call (ue_u_X0_mayTell W eb6 _ _) fun q5 => ?_
  dsimp only [id]
  refine im_if Iff.rfl (fun _ => ?_) (fun _ => ?_)
  · refine im_fI W (ik_0 U S) (by decide) rfl ea0 ?_
    refine im_pI W (ik_0 U S) (by decide) rfl ea0 _ ?_
    refine im_ck W (ik_0 U S) ea0 fun b10 eb10 => ?_
    refine im_call (ue_u_X0_readValue W eb10 _ _) fun q9 => ?_
    dsimp only [id]
    refine im_fI W (ik_0 U S) (by decide) rfl ea0 ?_
    refine im_if Iff.rfl (fun _ => ?_) (fun _ => ?_)
    · exact ue_u_X0_passEquation_54 W _
    · refine im_fR W (ik_0 U S) (by decide) rfl ea0 fun v12 ev12 => ?_
      refine im_ck W (ik_4 U S) ev12 fun b14 eb14 => ?_
      refine im_call (ue_u_X4_tell W eb14 _ _ _ _) fun q13 => ?_
      dsimp only [id]
      exact ue_u_X0_passEquation_54 W _
  · exact im_ret rfl
def u_X0_passPage_88 (U S N : Nat) (μ : CS) : Option (Unit × CS) :=
  some ((), μ)
theorem ue_u_X0_passPage_88 {μ0 : BM} {ro U S : Nat} (W : Wd μ0 ro U S) {N : Nat} (s : CS) : IM μ0 ro U S id (u_X0_passPage_88 U S N s) (f_X0_passPage_88 N (EC μ0 ro U S s)) := by
  unfold f_X0_passPage_88 u_X0_passPage_88
  exact im_ret rfl
def u_X0_passPage (U S N : Nat) (μ : CS) : Option (Unit × CS) :=
  (some (qI μ 0 0 9 ((μ.1 0 0 9) + 1))).bind fun μ2 =>
  (u_X0_beginsValue U S N (μ2.1 0 0 9) μ2).bind fun q4 =>
  if ¬ q4.1 = 0 then
    (u_X0_readValue U S N 1 q4.2).bind fun q7 =>
    if (q7.2.1 0 0 4) = 0 then
      if q7.1 < (32 : Int32) then
        (some (qI q7.2 0 0 10 (q7.1 * 128))).bind fun μ10 =>
        u_X0_passPage_88 U S N μ10
      else
        (u_X0_report U S N 6 (q4.2.1 0 0 9) q7.2).bind fun q11 =>
        u_X0_passPage_88 U S N q11.2
    else
      some ((), q7.2)
  else
    if (128 : Int32) = 0 then none else
    (some (qI q4.2 0 0 10 (((((q4.2.1 0 0 10) + 128) - 1) / 128) * 128))).bind fun μ14 =>
    some ((), μ14)
theorem ue_u_X0_passPage {μ0 : BM} {ro U S : Nat} (W : Wd μ0 ro U S) {N : Nat} {a0f : Option Nat} (ea0 : a0f = (adr μ0 ro U S (0, 0, 0))) (s : CS) : IM μ0 ro U S id (u_X0_passPage U S N s) (f_X0_passPage N a0f (EC μ0 ro U S s)) := by
  unfold f_X0_passPage u_X0_passPage
  refine im_fI W (ik_0 U S) (by decide) rfl ea0 ?_
  refine im_pI W (ik_0 U S) (by decide) rfl ea0 _ ?_
  refine im_fI W (ik_0 U S) (by decide) rfl ea0 ?_
  refine im_ck W (ik_0 U S) ea0 fun b5 eb5 => ?_
  refine im_call (ue_u_X0_beginsValue W eb5 _ _) fun q4 => ?_
  dsimp only [id]
  refine im_if Iff.rfl (fun _ => ?_) (fun _ => ?_)
  · refine im_fI W (ik_0 U S) (by decide) rfl ea0 ?_
    refine im_ck W (ik_0 U S) ea0 fun b8 eb8 => ?_
    refine im_call (ue_u_X0_readValue W eb8 _ _) fun q7 => ?_
    dsimp only [id]
    refine im_fI W (ik_0 U S) (by decide) rfl ea0 ?_
    refine im_if Iff.rfl (fun _ => ?_) (fun _ => ?_)
    · refine im_if Iff.rfl (fun _ => ?_) (fun _ => ?_)
      · refine im_pI W (ik_0 U S) (by decide) rfl ea0 _ ?_
        exact ue_u_X0_passPage_88 W _
      · refine im_ck W (ik_0 U S) ea0 fun b12 eb12 => ?_
        refine im_call (ue_u_X0_report W eb12 _ _ _) fun q11 => ?_
        dsimp only [id]
        exact ue_u_X0_passPage_88 W _
    · exact im_ret rfl
  · refine im_fI W (ik_0 U S) (by decide) rfl ea0 ?_
    refine im_if Iff.rfl (fun _ => im_none) (fun _ => ?_)
    refine im_pI W (ik_0 U S) (by decide) rfl ea0 _ ?_
    exact im_ret rfl
def u_X0_passRadix (U S N : Nat) (a1 : Int32) (μ : CS) : Option (Unit × CS) :=
  (qZ μ 0 0 8 a1).bind fun μ1 =>
  (some (qI μ1 0 0 9 ((μ1.1 0 0 9) + 1))).bind fun μ3 =>
  some ((), μ3)
theorem ue_u_X0_passRadix {μ0 : BM} {ro U S : Nat} (W : Wd μ0 ro U S) {N : Nat} {a0f : Option Nat} (ea0 : a0f = (adr μ0 ro U S (0, 0, 0))) (a1 : Int32) (s : CS) : IM μ0 ro U S id (u_X0_passRadix U S N a1 s) (f_X0_passRadix N a0f a1 (EC μ0 ro U S s)) := by
  unfold f_X0_passRadix u_X0_passRadix
  refine im_pZ W (ik_0 U S) (by decide) rfl ea0 _ fun μ1 => ?_
  refine im_fI W (ik_0 U S) (by decide) rfl ea0 ?_
  refine im_pI W (ik_0 U S) (by decide) rfl ea0 _ ?_
  exact im_ret rfl
def u_X7_hasLiteral_40 (U S N : Nat) (μ : CS) : Option (Int32 × CS) :=
  cZ 0 μ
theorem ue_u_X7_hasLiteral_40 {μ0 : BM} {ro U S : Nat} (W : Wd μ0 ro U S) {N : Nat} (s : CS) : IM μ0 ro U S id (u_X7_hasLiteral_40 U S N s) (f_X7_hasLiteral_40 N (EC μ0 ro U S s)) := by
  unfold f_X7_hasLiteral_40 u_X7_hasLiteral_40
  exact im_rZ _ _
def uh_X7_hasLiteral_6 (U S N : Nat) (k6 : Nat → Int32 → Int32 → Int32 → CS → Option (Int32 × CS)) (a0 : Nat) (a1 : Int32) (a2 : Int32) (a3 : Int32) (μ : CS) : Option (Int32 × CS) :=
  if (a1 + a2) ≤ a3 then
    u_X7_hasLiteral_40 U S N μ
  else
    if (4096 : Int32) ≤ a3 then
      u_X7_hasLiteral_40 U S N μ
    else
      (rH 4096 μ 7 a0 0 a3).bind fun v2 =>
      if v2 < (4096 : Int32) then
        k6 a0 a1 a2 (a3 + 1) μ
      else
        cZ 1 μ
theorem ue_uh_X7_hasLiteral_6 {μ0 : BM} {ro U S : Nat} (W : Wd μ0 ro U S) {N : Nat} {k6 : (Option Nat) → Int32 → Int32 → Int32 → Mem → Option (Int32 × Mem)} {k6' : Nat → Int32 → Int32 → Int32 → CS → Option (Int32 × CS)} (hk6 : ∀ {ya0 : Nat} {ya0f : Option Nat} (hya0 : ya0 < 2) (eya0 : ya0f = (adr μ0 ro U S (7, ya0, 0))) (ya1 : Int32) (ya2 : Int32) (ya3 : Int32) (s : CS), IM μ0 ro U S id (k6' ya0 ya1 ya2 ya3 s) (k6 ya0f ya1 ya2 ya3 (EC μ0 ro U S s))) {a0 : Nat} {a0f : Option Nat} (ha0 : a0 < 2) (ea0 : a0f = (adr μ0 ro U S (7, a0, 0))) (a1 : Int32) (a2 : Int32) (a3 : Int32) (s : CS) : IM μ0 ro U S id (uh_X7_hasLiteral_6 U S N k6' a0 a1 a2 a3 s) (H_X7_hasLiteral_6 N k6 a0f a1 a2 a3 (EC μ0 ro U S s)) := by
  unfold H_X7_hasLiteral_6 uh_X7_hasLiteral_6
  refine im_if Iff.rfl (fun _ => ?_) (fun _ => ?_)
  · exact ue_u_X7_hasLiteral_40 W _
  · refine im_if Iff.rfl (fun _ => ?_) (fun _ => ?_)
    · exact ue_u_X7_hasLiteral_40 W _
    · refine im_fR W (ik_7 ha0) (by decide) rfl ea0 fun v1 ev1 => ?_
      refine im_aI (n := 4096) W (ia_7_1 ha0) rfl rfl ev1 _ fun v2 => ?_
      refine im_if Iff.rfl (fun _ => ?_) (fun _ => ?_)
      · exact hk6 ha0 ea0 _ _ _ _
      · exact im_rZ _ _
def ul_X7_hasLiteral_6 (U S N : Nat)  : Nat → Nat → Int32 → Int32 → Int32 → CS → Option (Int32 × CS)
  | 0 => fun _ _ _ _ _ => none
  | n + 1 => uh_X7_hasLiteral_6 U S N (ul_X7_hasLiteral_6 U S N n)
theorem ue_ul_X7_hasLiteral_6 {μ0 : BM} {ro U S : Nat} (W : Wd μ0 ro U S) {N : Nat} : ∀ (n : Nat) {a0 : Nat} {a0f : Option Nat} (ha0 : a0 < 2) (ea0 : a0f = (adr μ0 ro U S (7, a0, 0))) (a1 : Int32) (a2 : Int32) (a3 : Int32) (s : CS), IM μ0 ro U S id (ul_X7_hasLiteral_6 U S N n a0 a1 a2 a3 s) (L_X7_hasLiteral_6 N n a0f a1 a2 a3 (EC μ0 ro U S s)) := by
  intro n
  induction n with
  | zero => intros; exact im_none
  | succ n ih => intro a0 a0f ha0 ea0 a1 a2 a3 s; exact ue_uh_X7_hasLiteral_6 W ih ha0 ea0 _ _ _ _
def u_X7_hasLiteral (U S N : Nat) (a0 : Nat) (a1 : Int32) (a2 : Int32) (μ : CS) : Option (Int32 × CS) :=
  ul_X7_hasLiteral_6 U S N N a0 a1 a2 (mmax 0 a1) μ
theorem ue_u_X7_hasLiteral {μ0 : BM} {ro U S : Nat} (W : Wd μ0 ro U S) {N : Nat} {a0 : Nat} {a0f : Option Nat} (ha0 : a0 < 2) (ea0 : a0f = (adr μ0 ro U S (7, a0, 0))) (a1 : Int32) (a2 : Int32) (s : CS) : IM μ0 ro U S id (u_X7_hasLiteral U S N a0 a1 a2 s) (f_X7_hasLiteral N a0f a1 a2 (EC μ0 ro U S s)) := by
  unfold f_X7_hasLiteral u_X7_hasLiteral
  exact ue_ul_X7_hasLiteral_6 W N ha0 ea0 _ _ _ _
def u_X0_mayLay_74 (U S N : Nat) (s0 : Int32) (μ : CS) : Option (Int32 × CS) :=
  cZ s0 μ
theorem ue_u_X0_mayLay_74 {μ0 : BM} {ro U S : Nat} (W : Wd μ0 ro U S) {N : Nat} (s0 : Int32) (s : CS) : IM μ0 ro U S id (u_X0_mayLay_74 U S N s0 s) (f_X0_mayLay_74 N s0 (EC μ0 ro U S s)) := by
  unfold f_X0_mayLay_74 u_X0_mayLay_74
  exact im_rZ _ _
def u_X0_mayLay_62 (U S N : Nat) (μ : CS) : Option (Int32 × CS) :=
  if ¬ (μ.1 0 0 4) = 0 then
    u_X0_mayLay_74 U S N 0 μ
  else
    u_X0_mayLay_74 U S N 1 μ
theorem ue_u_X0_mayLay_62 {μ0 : BM} {ro U S : Nat} (W : Wd μ0 ro U S) {N : Nat} {a0f : Option Nat} (ea0 : a0f = (adr μ0 ro U S (0, 0, 0))) (s : CS) : IM μ0 ro U S id (u_X0_mayLay_62 U S N s) (f_X0_mayLay_62 N a0f (EC μ0 ro U S s)) := by
  unfold f_X0_mayLay_62 u_X0_mayLay_62
  refine im_fI W (ik_0 U S) (by decide) rfl ea0 ?_
  refine im_if Iff.rfl (fun _ => ?_) (fun _ => ?_)
  · exact ue_u_X0_mayLay_74 W _ _
  · exact ue_u_X0_mayLay_74 W _ _
def u_X0_mayLay_26 (U S N : Nat) (a1 : Int32) (a2 : Int32) (μ : CS) : Option (Int32 × CS) :=
  if ¬ (μ.1 0 0 4) = 0 then
    u_X0_mayLay_62 U S N μ
  else
    if (μ.1 0 0 6) = 0 then
      u_X0_mayLay_62 U S N μ
    else
      (vl 2 (μ.2.2.2.1 0 0 3)).bind fun v3 =>
      (v3).bind fun j1 =>
      (u_X7_hasLiteral U S N j1 (μ.1 0 0 10) a2 μ).bind fun q5 =>
      if q5.1 = 0 then
        u_X0_mayLay_62 U S N q5.2
      else
        (u_X0_report U S N 8 a1 q5.2).bind fun q7 =>
        u_X0_mayLay_62 U S N q7.2
theorem ue_u_X0_mayLay_26 {μ0 : BM} {ro U S : Nat} (W : Wd μ0 ro U S) {N : Nat} {a0f : Option Nat} (ea0 : a0f = (adr μ0 ro U S (0, 0, 0))) (a1 : Int32) (a2 : Int32) (s : CS) : IM μ0 ro U S id (u_X0_mayLay_26 U S N a1 a2 s) (f_X0_mayLay_26 N a0f a1 a2 (EC μ0 ro U S s)) := by
  unfold f_X0_mayLay_26 u_X0_mayLay_26
  refine im_fI W (ik_0 U S) (by decide) rfl ea0 ?_
  refine im_if Iff.rfl (fun _ => ?_) (fun _ => ?_)
  · exact ue_u_X0_mayLay_62 W ea0 _
  · refine im_fI W (ik_0 U S) (by decide) rfl ea0 ?_
    refine im_if Iff.rfl (fun _ => ?_) (fun _ => ?_)
    · exact ue_u_X0_mayLay_62 W ea0 _
    · refine im_fD3 W (ik_0 U S) (by decide) rfl ea0 fun v3 hv3 v3' ev3 => ?_
      refine im_fI W (ik_0 U S) (by decide) rfl ea0 ?_
      refine im_der (ci := 7) (hv3) (ev3) fun j1 hj1 ej1 => ?_
      refine im_ck W (ik_7 hj1) ej1 fun b6 eb6 => ?_
      refine im_call (ue_u_X7_hasLiteral W hj1 eb6 _ _ _) fun q5 => ?_
      dsimp only [id]
      refine im_if Iff.rfl (fun _ => ?_) (fun _ => ?_)
      · exact ue_u_X0_mayLay_62 W ea0 _
      · refine im_ck W (ik_0 U S) ea0 fun b8 eb8 => ?_
        refine im_call (ue_u_X0_report W eb8 _ _ _) fun q7 => ?_
        dsimp only [id]
        exact ue_u_X0_mayLay_62 W ea0 _
def u_X0_mayLay (U S N : Nat) (a1 : Int32) (a2 : Int32) (μ : CS) : Option (Int32 × CS) :=
  if ¬ (μ.1 0 0 4) = 0 then
    u_X0_mayLay_26 U S N a1 a2 μ
  else
    if ((μ.1 0 0 10) + a2) ≤ (4096 : Int32) then
      u_X0_mayLay_26 U S N a1 a2 μ
    else
      (u_X0_report U S N 6 a1 μ).bind fun q3 =>
      u_X0_mayLay_26 U S N a1 a2 q3.2
theorem ue_u_X0_mayLay {μ0 : BM} {ro U S : Nat} (W : Wd μ0 ro U S) {N : Nat} {a0f : Option Nat} (ea0 : a0f = (adr μ0 ro U S (0, 0, 0))) (a1 : Int32) (a2 : Int32) (s : CS) : IM μ0 ro U S id (u_X0_mayLay U S N a1 a2 s) (f_X0_mayLay N a0f a1 a2 (EC μ0 ro U S s)) := by
  unfold f_X0_mayLay u_X0_mayLay
  refine im_fI W (ik_0 U S) (by decide) rfl ea0 ?_
  refine im_if Iff.rfl (fun _ => ?_) (fun _ => ?_)
  · exact ue_u_X0_mayLay_26 W ea0 _ _ _
  · refine im_fI W (ik_0 U S) (by decide) rfl ea0 ?_
    refine im_if Iff.rfl (fun _ => ?_) (fun _ => ?_)
    · exact ue_u_X0_mayLay_26 W ea0 _ _ _
    · refine im_ck W (ik_0 U S) ea0 fun b4 eb4 => ?_
      refine im_call (ue_u_X0_report W eb4 _ _ _) fun q3 => ?_
      dsimp only [id]
      exact ue_u_X0_mayLay_26 W ea0 _ _ _
def u_X7_lay_11 (U S N : Nat) (μ : CS) : Option (Unit × CS) :=
  some ((), μ)
theorem ue_u_X7_lay_11 {μ0 : BM} {ro U S : Nat} (W : Wd μ0 ro U S) {N : Nat} (s : CS) : IM μ0 ro U S id (u_X7_lay_11 U S N s) (f_X7_lay_11 N (EC μ0 ro U S s)) := by
  unfold f_X7_lay_11 u_X7_lay_11
  exact im_ret rfl
def u_X7_lay_32 (U S N : Nat) (a0 : Nat) (a1 : Int32) (a2 : Int32) (μ : CS) : Option (Unit × CS) :=
  (wH 4096 μ 7 a0 0 a1 a2).bind fun μ2 =>
  some ((), μ2)
theorem ue_u_X7_lay_32 {μ0 : BM} {ro U S : Nat} (W : Wd μ0 ro U S) {N : Nat} {a0 : Nat} {a0f : Option Nat} (ha0 : a0 < 2) (ea0 : a0f = (adr μ0 ro U S (7, a0, 0))) (a1 : Int32) (a2 : Int32) (s : CS) : IM μ0 ro U S id (u_X7_lay_32 U S N a0 a1 a2 s) (f_X7_lay_32 N a0f a1 a2 (EC μ0 ro U S s)) := by
  unfold f_X7_lay_32 u_X7_lay_32
  refine im_fR W (ik_7 ha0) (by decide) rfl ea0 fun v1 ev1 => ?_
  refine im_bI (n := 4096) W (ia_7_1 ha0) rfl rfl ev1 _ _ fun μ2 => ?_
  exact im_ret rfl
def u_X7_lay (U S N : Nat) (a0 : Nat) (a1 : Int32) (a2 : Int32) (μ : CS) : Option (Unit × CS) :=
  if a1 < 0 then
    u_X7_lay_11 U S N μ
  else
    if a1 < (4096 : Int32) then
      (rH 4096 μ 7 a0 0 a1).bind fun v2 =>
      if ¬ v2 = (((-1)) : Int32) then
        u_X7_lay_32 U S N a0 a1 a2 μ
      else
        (some (qI μ 7 a0 1 ((μ.1 7 a0 1) + 1))).bind fun μ4 =>
        u_X7_lay_32 U S N a0 a1 a2 μ4
    else
      u_X7_lay_11 U S N μ
theorem ue_u_X7_lay {μ0 : BM} {ro U S : Nat} (W : Wd μ0 ro U S) {N : Nat} {a0 : Nat} {a0f : Option Nat} (ha0 : a0 < 2) (ea0 : a0f = (adr μ0 ro U S (7, a0, 0))) (a1 : Int32) (a2 : Int32) (s : CS) : IM μ0 ro U S id (u_X7_lay U S N a0 a1 a2 s) (f_X7_lay N a0f a1 a2 (EC μ0 ro U S s)) := by
  unfold f_X7_lay u_X7_lay
  refine im_if Iff.rfl (fun _ => ?_) (fun _ => ?_)
  · exact ue_u_X7_lay_11 W _
  · refine im_if Iff.rfl (fun _ => ?_) (fun _ => ?_)
    · refine im_fR W (ik_7 ha0) (by decide) rfl ea0 fun v1 ev1 => ?_
      refine im_aI (n := 4096) W (ia_7_1 ha0) rfl rfl ev1 _ fun v2 => ?_
      refine im_if Iff.rfl (fun _ => ?_) (fun _ => ?_)
      · exact ue_u_X7_lay_32 W ha0 ea0 _ _ _
      · refine im_fI W (ik_7 ha0) (by decide) rfl ea0 ?_
        refine im_pI W (ik_7 ha0) (by decide) rfl ea0 _ ?_
        exact ue_u_X7_lay_32 W ha0 ea0 _ _ _
    · exact ue_u_X7_lay_11 W _
def u_X0_passZeros_65 (U S N : Nat) (a2 : Int32) (μ : CS) : Option (Unit × CS) :=
  (some (qI μ 0 0 10 ((μ.1 0 0 10) + a2))).bind fun μ2 =>
  some ((), μ2)
theorem ue_u_X0_passZeros_65 {μ0 : BM} {ro U S : Nat} (W : Wd μ0 ro U S) {N : Nat} {a0f : Option Nat} (ea0 : a0f = (adr μ0 ro U S (0, 0, 0))) (a2 : Int32) (s : CS) : IM μ0 ro U S id (u_X0_passZeros_65 U S N a2 s) (f_X0_passZeros_65 N a0f a2 (EC μ0 ro U S s)) := by
  unfold f_X0_passZeros_65 u_X0_passZeros_65
  refine im_fI W (ik_0 U S) (by decide) rfl ea0 ?_
  refine im_pI W (ik_0 U S) (by decide) rfl ea0 _ ?_
  exact im_ret rfl
def uh_X0_passZeros_33 (U S N : Nat) (k33 : Int32 → Int32 → CS → Option (Unit × CS)) (a2 : Int32) (a3 : Int32) (μ : CS) : Option (Unit × CS) :=
  if (μ.1 0 0 6) = 0 then
    u_X0_passZeros_65 U S N a2 μ
  else
    if a2 ≤ a3 then
      u_X0_passZeros_65 U S N a2 μ
    else
      (vl 2 (μ.2.2.2.1 0 0 3)).bind fun v2 =>
      (v2).bind fun j1 =>
      (u_X7_lay U S N j1 ((μ.1 0 0 10) + a3) 0 μ).bind fun q4 =>
      k33 a2 (a3 + 1) q4.2
theorem ue_uh_X0_passZeros_33 {μ0 : BM} {ro U S : Nat} (W : Wd μ0 ro U S) {N : Nat} {k33 : (Option Nat) → Int32 → Int32 → Mem → Option (Unit × Mem)} {k33' : Int32 → Int32 → CS → Option (Unit × CS)} (hk33 : ∀ {ya0f : Option Nat} (eya0 : ya0f = (adr μ0 ro U S (0, 0, 0))) (ya2 : Int32) (ya3 : Int32) (s : CS), IM μ0 ro U S id (k33' ya2 ya3 s) (k33 ya0f ya2 ya3 (EC μ0 ro U S s))) {a0f : Option Nat} (ea0 : a0f = (adr μ0 ro U S (0, 0, 0))) (a2 : Int32) (a3 : Int32) (s : CS) : IM μ0 ro U S id (uh_X0_passZeros_33 U S N k33' a2 a3 s) (H_X0_passZeros_33 N k33 a0f a2 a3 (EC μ0 ro U S s)) := by
  unfold H_X0_passZeros_33 uh_X0_passZeros_33
  refine im_fI W (ik_0 U S) (by decide) rfl ea0 ?_
  refine im_if Iff.rfl (fun _ => ?_) (fun _ => ?_)
  · exact ue_u_X0_passZeros_65 W ea0 _ _
  · refine im_if Iff.rfl (fun _ => ?_) (fun _ => ?_)
    · exact ue_u_X0_passZeros_65 W ea0 _ _
    · refine im_fD3 W (ik_0 U S) (by decide) rfl ea0 fun v2 hv2 v2' ev2 => ?_
      refine im_fI W (ik_0 U S) (by decide) rfl ea0 ?_
      refine im_der (ci := 7) (hv2) (ev2) fun j1 hj1 ej1 => ?_
      refine im_ck W (ik_7 hj1) ej1 fun b5 eb5 => ?_
      refine im_call (ue_u_X7_lay W hj1 eb5 _ _ _) fun q4 => ?_
      dsimp only [id]
      exact hk33 ea0 _ _ _
def ul_X0_passZeros_33 (U S N : Nat)  : Nat → Int32 → Int32 → CS → Option (Unit × CS)
  | 0 => fun _ _ _ => none
  | n + 1 => uh_X0_passZeros_33 U S N (ul_X0_passZeros_33 U S N n)
theorem ue_ul_X0_passZeros_33 {μ0 : BM} {ro U S : Nat} (W : Wd μ0 ro U S) {N : Nat} : ∀ (n : Nat) {a0f : Option Nat} (ea0 : a0f = (adr μ0 ro U S (0, 0, 0))) (a2 : Int32) (a3 : Int32) (s : CS), IM μ0 ro U S id (ul_X0_passZeros_33 U S N n a2 a3 s) (L_X0_passZeros_33 N n a0f a2 a3 (EC μ0 ro U S s)) := by
  intro n
  induction n with
  | zero => intros; exact im_none
  | succ n ih => intro a0f ea0 a2 a3 s; exact ue_uh_X0_passZeros_33 W ih ea0 _ _ _
def u_X0_passZeros (U S N : Nat) (μ : CS) : Option (Unit × CS) :=
  (some (qI μ 0 0 9 ((μ.1 0 0 9) + 1))).bind fun μ3 =>
  (u_X0_readValue U S N 1 μ3).bind fun q4 =>
  (u_X0_mayLay U S N (μ.1 0 0 9) q4.1 q4.2).bind fun q6 =>
  if ¬ q6.1 = 0 then
    ul_X0_passZeros_33 U S N N q4.1 0 q6.2
  else
    some ((), q6.2)
theorem ue_u_X0_passZeros {μ0 : BM} {ro U S : Nat} (W : Wd μ0 ro U S) {N : Nat} {a0f : Option Nat} (ea0 : a0f = (adr μ0 ro U S (0, 0, 0))) (s : CS) : IM μ0 ro U S id (u_X0_passZeros U S N s) (f_X0_passZeros N a0f (EC μ0 ro U S s)) := by
  unfold f_X0_passZeros u_X0_passZeros
  refine im_fI W (ik_0 U S) (by decide) rfl ea0 ?_
  refine im_fI W (ik_0 U S) (by decide) rfl ea0 ?_
  refine im_pI W (ik_0 U S) (by decide) rfl ea0 _ ?_
  refine im_ck W (ik_0 U S) ea0 fun b5 eb5 => ?_
  refine im_call (ue_u_X0_readValue W eb5 _ _) fun q4 => ?_
  dsimp only [id]
  refine im_ck W (ik_0 U S) ea0 fun b7 eb7 => ?_
  refine im_call (ue_u_X0_mayLay W eb7 _ _ _) fun q6 => ?_
  dsimp only [id]
  refine im_if Iff.rfl (fun _ => ?_) (fun _ => ?_)
  · exact ue_ul_X0_passZeros_33 W N ea0 _ _ _
  · exact im_ret rfl
def u_X0_sixBits_20 (U S N : Nat) (s0 : Int32) (μ : CS) : Option (Int32 × CS) :=
  some (s0, μ)
theorem ue_u_X0_sixBits_20 {μ0 : BM} {ro U S : Nat} (W : Wd μ0 ro U S) {N : Nat} (s0 : Int32) (s : CS) : IM μ0 ro U S id (u_X0_sixBits_20 U S N s0 s) (f_X0_sixBits_20 N s0 (EC μ0 ro U S s)) := by
  unfold f_X0_sixBits_20 u_X0_sixBits_20
  exact im_ret rfl
def u_X0_sixBits (U S N : Nat) (a1 : Int32) (a2 : Int32) (μ : CS) : Option (Int32 × CS) :=
  if a2 ≤ a1 then
    u_X0_sixBits_20 U S N 0 μ
  else
    (u_X9_byteAt U S N a1 μ).bind fun q2 =>
    u_X0_sixBits_20 U S N (q2.1 &&& 63) q2.2
theorem ue_u_X0_sixBits {μ0 : BM} {ro U S : Nat} (W : Wd μ0 ro U S) {N : Nat} {a0f : Option Nat} (ea0 : a0f = (adr μ0 ro U S (0, 0, 0))) (a1 : Int32) (a2 : Int32) (s : CS) : IM μ0 ro U S id (u_X0_sixBits U S N a1 a2 s) (f_X0_sixBits N a0f a1 a2 (EC μ0 ro U S s)) := by
  unfold f_X0_sixBits u_X0_sixBits
  refine im_if Iff.rfl (fun _ => ?_) (fun _ => ?_)
  · exact ue_u_X0_sixBits_20 W _ _
  · refine im_fR W (ik_0 U S) (by decide) rfl ea0 fun v1 ev1 => ?_
    refine im_ck W (ik_9 U S) ev1 fun b3 eb3 => ?_
    refine im_call (ue_u_X9_byteAt W eb3 _ _) fun q2 => ?_
    dsimp only [id]
    exact ue_u_X0_sixBits_20 W _ _
def u_X0_passText_122 (U S N : Nat) (a4 : Int32) (μ : CS) : Option (Unit × CS) :=
  (some (qI μ 0 0 10 ((μ.1 0 0 10) + a4))).bind fun μ2 =>
  some ((), μ2)
theorem ue_u_X0_passText_122 {μ0 : BM} {ro U S : Nat} (W : Wd μ0 ro U S) {N : Nat} {a0f : Option Nat} (ea0 : a0f = (adr μ0 ro U S (0, 0, 0))) (a4 : Int32) (s : CS) : IM μ0 ro U S id (u_X0_passText_122 U S N a4 s) (f_X0_passText_122 N a0f a4 (EC μ0 ro U S s)) := by
  unfold f_X0_passText_122 u_X0_passText_122
  refine im_fI W (ik_0 U S) (by decide) rfl ea0 ?_
  refine im_pI W (ik_0 U S) (by decide) rfl ea0 _ ?_
  exact im_ret rfl
def uh_X0_passText_56 (U S N : Nat) (k56 : Int32 → Int32 → Int32 → Int32 → CS → Option (Unit × CS)) (a2 : Int32) (a3 : Int32) (a4 : Int32) (a5 : Int32) (μ : CS) : Option (Unit × CS) :=
  if (μ.1 0 0 6) = 0 then
    u_X0_passText_122 U S N a4 μ
  else
    if a4 ≤ a5 then
      u_X0_passText_122 U S N a4 μ
    else
      (u_X0_sixBits U S N (a2 + (2 * a5)) a3 μ).bind fun q2 =>
      (vl 2 (q2.2.2.2.2.1 0 0 3)).bind fun v4 =>
      (u_X0_sixBits U S N ((a2 + (2 * a5)) + 1) a3 q2.2).bind fun q6 =>
      (v4).bind fun j1 =>
      (u_X7_lay U S N j1 ((q2.2.1 0 0 10) + a5) ((q2.1 <<< ((6 : Int32) &&& 31)) ||| q6.1) q6.2).bind fun q8 =>
      k56 a2 a3 a4 (a5 + 1) q8.2
theorem ue_uh_X0_passText_56 {μ0 : BM} {ro U S : Nat} (W : Wd μ0 ro U S) {N : Nat} {k56 : (Option Nat) → Int32 → Int32 → Int32 → Int32 → Mem → Option (Unit × Mem)} {k56' : Int32 → Int32 → Int32 → Int32 → CS → Option (Unit × CS)} (hk56 : ∀ {ya0f : Option Nat} (eya0 : ya0f = (adr μ0 ro U S (0, 0, 0))) (ya2 : Int32) (ya3 : Int32) (ya4 : Int32) (ya5 : Int32) (s : CS), IM μ0 ro U S id (k56' ya2 ya3 ya4 ya5 s) (k56 ya0f ya2 ya3 ya4 ya5 (EC μ0 ro U S s))) {a0f : Option Nat} (ea0 : a0f = (adr μ0 ro U S (0, 0, 0))) (a2 : Int32) (a3 : Int32) (a4 : Int32) (a5 : Int32) (s : CS) : IM μ0 ro U S id (uh_X0_passText_56 U S N k56' a2 a3 a4 a5 s) (H_X0_passText_56 N k56 a0f a2 a3 a4 a5 (EC μ0 ro U S s)) := by
  unfold H_X0_passText_56 uh_X0_passText_56
  refine im_fI W (ik_0 U S) (by decide) rfl ea0 ?_
  refine im_if Iff.rfl (fun _ => ?_) (fun _ => ?_)
  · exact ue_u_X0_passText_122 W ea0 _ _
  · refine im_if Iff.rfl (fun _ => ?_) (fun _ => ?_)
    · exact ue_u_X0_passText_122 W ea0 _ _
    · refine im_ck W (ik_0 U S) ea0 fun b3 eb3 => ?_
      refine im_call (ue_u_X0_sixBits W eb3 _ _ _) fun q2 => ?_
      dsimp only [id]
      refine im_fD3 W (ik_0 U S) (by decide) rfl ea0 fun v4 hv4 v4' ev4 => ?_
      refine im_fI W (ik_0 U S) (by decide) rfl ea0 ?_
      refine im_ck W (ik_0 U S) ea0 fun b7 eb7 => ?_
      refine im_call (ue_u_X0_sixBits W eb7 _ _ _) fun q6 => ?_
      dsimp only [id]
      refine im_der (ci := 7) (hv4) (ev4) fun j1 hj1 ej1 => ?_
      refine im_ck W (ik_7 hj1) ej1 fun b9 eb9 => ?_
      refine im_call (ue_u_X7_lay W hj1 eb9 _ _ _) fun q8 => ?_
      dsimp only [id]
      exact hk56 ea0 _ _ _ _ _
def ul_X0_passText_56 (U S N : Nat)  : Nat → Int32 → Int32 → Int32 → Int32 → CS → Option (Unit × CS)
  | 0 => fun _ _ _ _ _ => none
  | n + 1 => uh_X0_passText_56 U S N (ul_X0_passText_56 U S N n)
theorem ue_ul_X0_passText_56 {μ0 : BM} {ro U S : Nat} (W : Wd μ0 ro U S) {N : Nat} : ∀ (n : Nat) {a0f : Option Nat} (ea0 : a0f = (adr μ0 ro U S (0, 0, 0))) (a2 : Int32) (a3 : Int32) (a4 : Int32) (a5 : Int32) (s : CS), IM μ0 ro U S id (ul_X0_passText_56 U S N n a2 a3 a4 a5 s) (L_X0_passText_56 N n a0f a2 a3 a4 a5 (EC μ0 ro U S s)) := by
  intro n
  induction n with
  | zero => intros; exact im_none
  | succ n ih => intro a0f ea0 a2 a3 a4 a5 s; exact ue_uh_X0_passText_56 W ih ea0 _ _ _ _ _
def u_X0_passText (U S N : Nat) (μ : CS) : Option (Unit × CS) :=
  (u_X9_valueOf U S N (μ.1 0 0 9) μ).bind fun q3 =>
  (u_X9_otherOf U S N (μ.1 0 0 9) q3.2).bind fun q6 =>
  if (2 : Int32) = 0 then none else
  (some (qI q6.2 0 0 9 ((q6.2.1 0 0 9) + 1))).bind fun μ9 =>
  (u_X0_mayLay U S N (μ.1 0 0 9) (((q6.1 - q3.1) / 2) + 1) μ9).bind fun q10 =>
  if ¬ q10.1 = 0 then
    ul_X0_passText_56 U S N N q3.1 q6.1 (((q6.1 - q3.1) / 2) + 1) 0 q10.2
  else
    some ((), q10.2)
theorem ue_u_X0_passText {μ0 : BM} {ro U S : Nat} (W : Wd μ0 ro U S) {N : Nat} {a0f : Option Nat} (ea0 : a0f = (adr μ0 ro U S (0, 0, 0))) (s : CS) : IM μ0 ro U S id (u_X0_passText U S N s) (f_X0_passText N a0f (EC μ0 ro U S s)) := by
  unfold f_X0_passText u_X0_passText
  refine im_fI W (ik_0 U S) (by decide) rfl ea0 ?_
  refine im_fR W (ik_0 U S) (by decide) rfl ea0 fun v2 ev2 => ?_
  refine im_ck W (ik_9 U S) ev2 fun b4 eb4 => ?_
  refine im_call (ue_u_X9_valueOf W eb4 _ _) fun q3 => ?_
  dsimp only [id]
  refine im_fR W (ik_0 U S) (by decide) rfl ea0 fun v5 ev5 => ?_
  refine im_ck W (ik_9 U S) ev5 fun b7 eb7 => ?_
  refine im_call (ue_u_X9_otherOf W eb7 _ _) fun q6 => ?_
  dsimp only [id]
  refine im_if Iff.rfl (fun _ => im_none) (fun _ => ?_)
  refine im_fI W (ik_0 U S) (by decide) rfl ea0 ?_
  refine im_pI W (ik_0 U S) (by decide) rfl ea0 _ ?_
  refine im_ck W (ik_0 U S) ea0 fun b11 eb11 => ?_
  refine im_call (ue_u_X0_mayLay W eb11 _ _ _) fun q10 => ?_
  dsimp only [id]
  refine im_if Iff.rfl (fun _ => ?_) (fun _ => ?_)
  · exact ue_ul_X0_passText_56 W N ea0 _ _ _ _ _
  · exact im_ret rfl
def u_X0_mayBeginWord_89 (U S N : Nat) (s0 : Int32) (μ : CS) : Option (Int32 × CS) :=
  cZ s0 μ
theorem ue_u_X0_mayBeginWord_89 {μ0 : BM} {ro U S : Nat} (W : Wd μ0 ro U S) {N : Nat} (s0 : Int32) (s : CS) : IM μ0 ro U S id (u_X0_mayBeginWord_89 U S N s0 s) (f_X0_mayBeginWord_89 N s0 (EC μ0 ro U S s)) := by
  unfold f_X0_mayBeginWord_89 u_X0_mayBeginWord_89
  exact im_rZ _ _
def u_X0_mayBeginWord_77 (U S N : Nat) (μ : CS) : Option (Int32 × CS) :=
  if ¬ (μ.1 0 0 4) = 0 then
    u_X0_mayBeginWord_89 U S N 0 μ
  else
    u_X0_mayBeginWord_89 U S N 1 μ
theorem ue_u_X0_mayBeginWord_77 {μ0 : BM} {ro U S : Nat} (W : Wd μ0 ro U S) {N : Nat} {a0f : Option Nat} (ea0 : a0f = (adr μ0 ro U S (0, 0, 0))) (s : CS) : IM μ0 ro U S id (u_X0_mayBeginWord_77 U S N s) (f_X0_mayBeginWord_77 N a0f (EC μ0 ro U S s)) := by
  unfold f_X0_mayBeginWord_77 u_X0_mayBeginWord_77
  refine im_fI W (ik_0 U S) (by decide) rfl ea0 ?_
  refine im_if Iff.rfl (fun _ => ?_) (fun _ => ?_)
  · exact ue_u_X0_mayBeginWord_89 W _ _
  · exact ue_u_X0_mayBeginWord_89 W _ _
def u_X0_mayBeginWord_58 (U S N : Nat) (μ : CS) : Option (Int32 × CS) :=
  if (μ.1 0 0 6) = 0 then
    u_X0_mayBeginWord_77 U S N μ
  else
    (vl 2 (μ.2.2.2.1 0 0 3)).bind fun v2 =>
    (v2).bind fun j1 =>
    (u_X7_lay U S N j1 (μ.1 0 0 10) 0 μ).bind fun q4 =>
    u_X0_mayBeginWord_77 U S N q4.2
theorem ue_u_X0_mayBeginWord_58 {μ0 : BM} {ro U S : Nat} (W : Wd μ0 ro U S) {N : Nat} {a0f : Option Nat} (ea0 : a0f = (adr μ0 ro U S (0, 0, 0))) (s : CS) : IM μ0 ro U S id (u_X0_mayBeginWord_58 U S N s) (f_X0_mayBeginWord_58 N a0f (EC μ0 ro U S s)) := by
  unfold f_X0_mayBeginWord_58 u_X0_mayBeginWord_58
  refine im_fI W (ik_0 U S) (by decide) rfl ea0 ?_
  refine im_if Iff.rfl (fun _ => ?_) (fun _ => ?_)
  · exact ue_u_X0_mayBeginWord_77 W ea0 _
  · refine im_fD3 W (ik_0 U S) (by decide) rfl ea0 fun v2 hv2 v2' ev2 => ?_
    refine im_fI W (ik_0 U S) (by decide) rfl ea0 ?_
    refine im_der (ci := 7) (hv2) (ev2) fun j1 hj1 ej1 => ?_
    refine im_ck W (ik_7 hj1) ej1 fun b5 eb5 => ?_
    refine im_call (ue_u_X7_lay W hj1 eb5 _ _ _) fun q4 => ?_
    dsimp only [id]
    exact ue_u_X0_mayBeginWord_77 W ea0 _
def u_X0_mayBeginWord (U S N : Nat) (μ : CS) : Option (Int32 × CS) :=
  if (μ.1 0 0 10) < (4096 : Int32) then
    if (μ.1 0 0 6) = 0 then
      u_X0_mayBeginWord_58 U S N μ
    else
      (vl 2 (μ.2.2.2.1 0 0 3)).bind fun v3 =>
      (v3).bind fun j1 =>
      (u_X7_hasLiteral U S N j1 (μ.1 0 0 10) 1 μ).bind fun q5 =>
      if q5.1 = 0 then
        u_X0_mayBeginWord_58 U S N q5.2
      else
        (u_X0_report U S N 8 (q5.2.1 0 0 9) q5.2).bind fun q8 =>
        u_X0_mayBeginWord_77 U S N q8.2
  else
    (u_X0_report U S N 6 (μ.1 0 0 9) μ).bind fun q11 =>
    u_X0_mayBeginWord_77 U S N q11.2
theorem ue_u_X0_mayBeginWord {μ0 : BM} {ro U S : Nat} (W : Wd μ0 ro U S) {N : Nat} {a0f : Option Nat} (ea0 : a0f = (adr μ0 ro U S (0, 0, 0))) (s : CS) : IM μ0 ro U S id (u_X0_mayBeginWord U S N s) (f_X0_mayBeginWord N a0f (EC μ0 ro U S s)) := by
  unfold f_X0_mayBeginWord u_X0_mayBeginWord
  refine im_fI W (ik_0 U S) (by decide) rfl ea0 ?_
  refine im_if Iff.rfl (fun _ => ?_) (fun _ => ?_)
  · refine im_fI W (ik_0 U S) (by decide) rfl ea0 ?_
    refine im_if Iff.rfl (fun _ => ?_) (fun _ => ?_)
    · exact ue_u_X0_mayBeginWord_58 W ea0 _
    · refine im_fD3 W (ik_0 U S) (by decide) rfl ea0 fun v3 hv3 v3' ev3 => ?_
      refine im_fI W (ik_0 U S) (by decide) rfl ea0 ?_
      refine im_der (ci := 7) (hv3) (ev3) fun j1 hj1 ej1 => ?_
      refine im_ck W (ik_7 hj1) ej1 fun b6 eb6 => ?_
      refine im_call (ue_u_X7_hasLiteral W hj1 eb6 _ _ _) fun q5 => ?_
      dsimp only [id]
      refine im_if Iff.rfl (fun _ => ?_) (fun _ => ?_)
      · exact ue_u_X0_mayBeginWord_58 W ea0 _
      · refine im_fI W (ik_0 U S) (by decide) rfl ea0 ?_
        refine im_ck W (ik_0 U S) ea0 fun b9 eb9 => ?_
        refine im_call (ue_u_X0_report W eb9 _ _ _) fun q8 => ?_
        dsimp only [id]
        exact ue_u_X0_mayBeginWord_77 W ea0 _
  · refine im_fI W (ik_0 U S) (by decide) rfl ea0 ?_
    refine im_ck W (ik_0 U S) ea0 fun b12 eb12 => ?_
    refine im_call (ue_u_X0_report W eb12 _ _ _) fun q11 => ?_
    dsimp only [id]
    exact ue_u_X0_mayBeginWord_77 W ea0 _
def u_X0_isModifierAt_48 (U S N : Nat) (s0 : Int32) (μ : CS) : Option (Int32 × CS) :=
  cZ s0 μ
theorem ue_u_X0_isModifierAt_48 {μ0 : BM} {ro U S : Nat} (W : Wd μ0 ro U S) {N : Nat} (s0 : Int32) (s : CS) : IM μ0 ro U S id (u_X0_isModifierAt_48 U S N s0 s) (f_X0_isModifierAt_48 N s0 (EC μ0 ro U S s)) := by
  unfold f_X0_isModifierAt_48 u_X0_isModifierAt_48
  exact im_rZ _ _
def u_X0_isModifierAt_47 (U S N : Nat) (μ : CS) : Option (Int32 × CS) :=
  u_X0_isModifierAt_48 U S N 0 μ
theorem ue_u_X0_isModifierAt_47 {μ0 : BM} {ro U S : Nat} (W : Wd μ0 ro U S) {N : Nat} (s : CS) : IM μ0 ro U S id (u_X0_isModifierAt_47 U S N s) (f_X0_isModifierAt_47 N (EC μ0 ro U S s)) := by
  unfold f_X0_isModifierAt_47 u_X0_isModifierAt_47
  exact ue_u_X0_isModifierAt_48 W _ _
def u_X0_isModifierAt_43 (U S N : Nat) (μ : CS) : Option (Int32 × CS) :=
  u_X0_isModifierAt_48 U S N 1 μ
theorem ue_u_X0_isModifierAt_43 {μ0 : BM} {ro U S : Nat} (W : Wd μ0 ro U S) {N : Nat} (s : CS) : IM μ0 ro U S id (u_X0_isModifierAt_43 U S N s) (f_X0_isModifierAt_43 N (EC μ0 ro U S s)) := by
  unfold f_X0_isModifierAt_43 u_X0_isModifierAt_43
  exact ue_u_X0_isModifierAt_48 W _ _
def u_X0_isModifierAt (U S N : Nat) (a1 : Int32) (μ : CS) : Option (Int32 × CS) :=
  (u_X9_valueOf U S N a1 μ).bind fun q2 =>
  (u_X0_kindAt U S N a1 q2.2).bind fun q4 =>
  if ¬ q4.1 = (1 : Int32) then
    u_X0_isModifierAt_47 U S N q4.2
  else
    (u_X0_kindAt U S N (a1 + 1) q4.2).bind fun q6 =>
    (u_X0_isOperator U S N q6.1 q6.2).bind fun q8 =>
    if ¬ q8.1 = 0 then
      u_X0_isModifierAt_47 U S N q8.2
    else
      if q2.1 = (11 : Int32) then
        u_X0_isModifierAt_43 U S N q8.2
      else
        if ¬ q2.1 = (12 : Int32) then
          u_X0_isModifierAt_47 U S N q8.2
        else
          u_X0_isModifierAt_43 U S N q8.2
theorem ue_u_X0_isModifierAt {μ0 : BM} {ro U S : Nat} (W : Wd μ0 ro U S) {N : Nat} {a0f : Option Nat} (ea0 : a0f = (adr μ0 ro U S (0, 0, 0))) (a1 : Int32) (s : CS) : IM μ0 ro U S id (u_X0_isModifierAt U S N a1 s) (f_X0_isModifierAt N a0f a1 (EC μ0 ro U S s)) := by
  unfold f_X0_isModifierAt u_X0_isModifierAt
  refine im_fR W (ik_0 U S) (by decide) rfl ea0 fun v1 ev1 => ?_
  refine im_ck W (ik_9 U S) ev1 fun b3 eb3 => ?_
  refine im_call (ue_u_X9_valueOf W eb3 _ _) fun q2 => ?_
  dsimp only [id]
  refine im_ck W (ik_0 U S) ea0 fun b5 eb5 => ?_
  refine im_call (ue_u_X0_kindAt W eb5 _ _) fun q4 => ?_
  dsimp only [id]
  refine im_if Iff.rfl (fun _ => ?_) (fun _ => ?_)
  · exact ue_u_X0_isModifierAt_47 W _
  · refine im_ck W (ik_0 U S) ea0 fun b7 eb7 => ?_
    refine im_call (ue_u_X0_kindAt W eb7 _ _) fun q6 => ?_
    dsimp only [id]
    refine im_call (ue_u_X0_isOperator W _ _) fun q8 => ?_
    dsimp only [id]
    refine im_if Iff.rfl (fun _ => ?_) (fun _ => ?_)
    · exact ue_u_X0_isModifierAt_47 W _
    · refine im_if Iff.rfl (fun _ => ?_) (fun _ => ?_)
      · exact ue_u_X0_isModifierAt_43 W _
      · refine im_if Iff.rfl (fun _ => ?_) (fun _ => ?_)
        · exact ue_u_X0_isModifierAt_47 W _
        · exact ue_u_X0_isModifierAt_43 W _
def u_X0_finishWord_26 (U S N : Nat) (μ : CS) : Option (Unit × CS) :=
  (some (qI μ 0 0 10 ((μ.1 0 0 10) + 1))).bind fun μ2 =>
  some ((), μ2)
theorem ue_u_X0_finishWord_26 {μ0 : BM} {ro U S : Nat} (W : Wd μ0 ro U S) {N : Nat} {a0f : Option Nat} (ea0 : a0f = (adr μ0 ro U S (0, 0, 0))) (s : CS) : IM μ0 ro U S id (u_X0_finishWord_26 U S N s) (f_X0_finishWord_26 N a0f (EC μ0 ro U S s)) := by
  unfold f_X0_finishWord_26 u_X0_finishWord_26
  refine im_fI W (ik_0 U S) (by decide) rfl ea0 ?_
  refine im_pI W (ik_0 U S) (by decide) rfl ea0 _ ?_
  exact im_ret rfl
def u_X0_finishWord (U S N : Nat) (a1 : Int32) (μ : CS) : Option (Unit × CS) :=
  if ¬ (μ.1 0 0 4) = 0 then
    u_X0_finishWord_26 U S N μ
  else
    if (μ.1 0 0 6) = 0 then
      u_X0_finishWord_26 U S N μ
    else
      (vl 2 (μ.2.2.2.1 0 0 3)).bind fun v3 =>
      (v3).bind fun j1 =>
      (u_X7_lay U S N j1 (μ.1 0 0 10) a1 μ).bind fun q5 =>
      u_X0_finishWord_26 U S N q5.2
theorem ue_u_X0_finishWord {μ0 : BM} {ro U S : Nat} (W : Wd μ0 ro U S) {N : Nat} {a0f : Option Nat} (ea0 : a0f = (adr μ0 ro U S (0, 0, 0))) (a1 : Int32) (s : CS) : IM μ0 ro U S id (u_X0_finishWord U S N a1 s) (f_X0_finishWord N a0f a1 (EC μ0 ro U S s)) := by
  unfold f_X0_finishWord u_X0_finishWord
  refine im_fI W (ik_0 U S) (by decide) rfl ea0 ?_
  refine im_if Iff.rfl (fun _ => ?_) (fun _ => ?_)
  · exact ue_u_X0_finishWord_26 W ea0 _
  · refine im_fI W (ik_0 U S) (by decide) rfl ea0 ?_
    refine im_if Iff.rfl (fun _ => ?_) (fun _ => ?_)
    · exact ue_u_X0_finishWord_26 W ea0 _
    · refine im_fD3 W (ik_0 U S) (by decide) rfl ea0 fun v3 hv3 v3' ev3 => ?_
      refine im_fI W (ik_0 U S) (by decide) rfl ea0 ?_
      refine im_der (ci := 7) (hv3) (ev3) fun j1 hj1 ej1 => ?_
      refine im_ck W (ik_7 hj1) ej1 fun b6 eb6 => ?_
      refine im_call (ue_u_X7_lay W hj1 eb6 _ _ _) fun q5 => ?_
      dsimp only [id]
      exact ue_u_X0_finishWord_26 W ea0 _
def u_X7_literalPlace_90 (U S N : Nat) (μ : CS) : Option (Int32 × CS) :=
  some ((-1), μ)
theorem ue_u_X7_literalPlace_90 {μ0 : BM} {ro U S : Nat} (W : Wd μ0 ro U S) {N : Nat} (s : CS) : IM μ0 ro U S id (u_X7_literalPlace_90 U S N s) (f_X7_literalPlace_90 N (EC μ0 ro U S s)) := by
  unfold f_X7_literalPlace_90 u_X7_literalPlace_90
  exact im_ret rfl
def uh_X7_literalPlace_15 (U S N : Nat) (k15 : Nat → Int32 → Int32 → Int32 → CS → Option (Int32 × CS)) (a0 : Nat) (a1 : Int32) (a3 : Int32) (a4 : Int32) (μ : CS) : Option (Int32 × CS) :=
  if a4 < a1 then
    u_X7_literalPlace_90 U S N μ
  else
    if a4 < 0 then
      u_X7_literalPlace_90 U S N μ
    else
      if (4096 : Int32) ≤ a4 then
        u_X7_literalPlace_90 U S N μ
      else
        (rH 4096 μ 7 a0 0 a4).bind fun v2 =>
        if ¬ v2 = (((-1)) : Int32) then
          (rH 4096 μ 7 a0 0 a4).bind fun v4 =>
          if ¬ v4 = a3 then
            (rH 4096 μ 7 a0 0 a4).bind fun v6 =>
            if (4096 : Int32) ≤ v6 then
              k15 a0 a1 a3 (a4 + (-1)) μ
            else
              some ((-1), μ)
          else
            some (a4, μ)
        else
          (u_X7_lay U S N a0 a4 a3 μ).bind fun q7 =>
          some (a4, q7.2)
theorem ue_uh_X7_literalPlace_15 {μ0 : BM} {ro U S : Nat} (W : Wd μ0 ro U S) {N : Nat} {k15 : (Option Nat) → Int32 → Int32 → Int32 → Mem → Option (Int32 × Mem)} {k15' : Nat → Int32 → Int32 → Int32 → CS → Option (Int32 × CS)} (hk15 : ∀ {ya0 : Nat} {ya0f : Option Nat} (hya0 : ya0 < 2) (eya0 : ya0f = (adr μ0 ro U S (7, ya0, 0))) (ya1 : Int32) (ya3 : Int32) (ya4 : Int32) (s : CS), IM μ0 ro U S id (k15' ya0 ya1 ya3 ya4 s) (k15 ya0f ya1 ya3 ya4 (EC μ0 ro U S s))) {a0 : Nat} {a0f : Option Nat} (ha0 : a0 < 2) (ea0 : a0f = (adr μ0 ro U S (7, a0, 0))) (a1 : Int32) (a3 : Int32) (a4 : Int32) (s : CS) : IM μ0 ro U S id (uh_X7_literalPlace_15 U S N k15' a0 a1 a3 a4 s) (H_X7_literalPlace_15 N k15 a0f a1 a3 a4 (EC μ0 ro U S s)) := by
  unfold H_X7_literalPlace_15 uh_X7_literalPlace_15
  refine im_if Iff.rfl (fun _ => ?_) (fun _ => ?_)
  · exact ue_u_X7_literalPlace_90 W _
  · refine im_if Iff.rfl (fun _ => ?_) (fun _ => ?_)
    · exact ue_u_X7_literalPlace_90 W _
    · refine im_if Iff.rfl (fun _ => ?_) (fun _ => ?_)
      · exact ue_u_X7_literalPlace_90 W _
      · refine im_fR W (ik_7 ha0) (by decide) rfl ea0 fun v1 ev1 => ?_
        refine im_aI (n := 4096) W (ia_7_1 ha0) rfl rfl ev1 _ fun v2 => ?_
        refine im_if Iff.rfl (fun _ => ?_) (fun _ => ?_)
        · refine im_fR W (ik_7 ha0) (by decide) rfl ea0 fun v3 ev3 => ?_
          refine im_aI (n := 4096) W (ia_7_1 ha0) rfl rfl ev3 _ fun v4 => ?_
          refine im_if Iff.rfl (fun _ => ?_) (fun _ => ?_)
          · refine im_fR W (ik_7 ha0) (by decide) rfl ea0 fun v5 ev5 => ?_
            refine im_aI (n := 4096) W (ia_7_1 ha0) rfl rfl ev5 _ fun v6 => ?_
            refine im_if Iff.rfl (fun _ => ?_) (fun _ => ?_)
            · exact hk15 ha0 ea0 _ _ _ _
            · exact im_ret rfl
          · exact im_ret rfl
        · refine im_ck W (ik_7 ha0) ea0 fun b8 eb8 => ?_
          refine im_call (ue_u_X7_lay W ha0 eb8 _ _ _) fun q7 => ?_
          dsimp only [id]
          exact im_ret rfl
def ul_X7_literalPlace_15 (U S N : Nat)  : Nat → Nat → Int32 → Int32 → Int32 → CS → Option (Int32 × CS)
  | 0 => fun _ _ _ _ _ => none
  | n + 1 => uh_X7_literalPlace_15 U S N (ul_X7_literalPlace_15 U S N n)
theorem ue_ul_X7_literalPlace_15 {μ0 : BM} {ro U S : Nat} (W : Wd μ0 ro U S) {N : Nat} : ∀ (n : Nat) {a0 : Nat} {a0f : Option Nat} (ha0 : a0 < 2) (ea0 : a0f = (adr μ0 ro U S (7, a0, 0))) (a1 : Int32) (a3 : Int32) (a4 : Int32) (s : CS), IM μ0 ro U S id (ul_X7_literalPlace_15 U S N n a0 a1 a3 a4 s) (L_X7_literalPlace_15 N n a0f a1 a3 a4 (EC μ0 ro U S s)) := by
  intro n
  induction n with
  | zero => intros; exact im_none
  | succ n ih => intro a0 a0f ha0 ea0 a1 a3 a4 s; exact ue_uh_X7_literalPlace_15 W ih ha0 ea0 _ _ _ _
def u_X7_literalPlace (U S N : Nat) (a0 : Nat) (a1 : Int32) (a2 : Int32) (μ : CS) : Option (Int32 × CS) :=
  ul_X7_literalPlace_15 U S N N a0 a1 (4096 ||| a2) ((a1 + 128) - 1) μ
theorem ue_u_X7_literalPlace {μ0 : BM} {ro U S : Nat} (W : Wd μ0 ro U S) {N : Nat} {a0 : Nat} {a0f : Option Nat} (ha0 : a0 < 2) (ea0 : a0f = (adr μ0 ro U S (7, a0, 0))) (a1 : Int32) (a2 : Int32) (s : CS) : IM μ0 ro U S id (u_X7_literalPlace U S N a0 a1 a2 s) (f_X7_literalPlace N a0f a1 a2 (EC μ0 ro U S s)) := by
  unfold f_X7_literalPlace u_X7_literalPlace
  exact ue_ul_X7_literalPlace_15 W N ha0 ea0 _ _ _ _
def u_X0_literalFor_14 (U S N : Nat) (μ : CS) : Option (Int32 × CS) :=
  some (0, μ)
theorem ue_u_X0_literalFor_14 {μ0 : BM} {ro U S : Nat} (W : Wd μ0 ro U S) {N : Nat} (s : CS) : IM μ0 ro U S id (u_X0_literalFor_14 U S N s) (f_X0_literalFor_14 N (EC μ0 ro U S s)) := by
  unfold f_X0_literalFor_14 u_X0_literalFor_14
  exact im_ret rfl
def u_X0_literalFor (U S N : Nat) (a1 : Int32) (a2 : Int32) (a3 : Int32) (μ : CS) : Option (Int32 × CS) :=
  if ¬ (μ.1 0 0 4) = 0 then
    u_X0_literalFor_14 U S N μ
  else
    if ¬ (μ.1 0 0 6) = 0 then
      (vl 2 (μ.2.2.2.1 0 0 3)).bind fun v3 =>
      (v3).bind fun j1 =>
      (u_X7_literalPlace U S N j1 a1 a2 μ).bind fun q4 =>
      if ¬ q4.1 = (((-1)) : Int32) then
        some (q4.1, q4.2)
      else
        (u_X0_report U S N 8 a3 q4.2).bind fun q6 =>
        some (0, q6.2)
    else
      u_X0_literalFor_14 U S N μ
theorem ue_u_X0_literalFor {μ0 : BM} {ro U S : Nat} (W : Wd μ0 ro U S) {N : Nat} {a0f : Option Nat} (ea0 : a0f = (adr μ0 ro U S (0, 0, 0))) (a1 : Int32) (a2 : Int32) (a3 : Int32) (s : CS) : IM μ0 ro U S id (u_X0_literalFor U S N a1 a2 a3 s) (f_X0_literalFor N a0f a1 a2 a3 (EC μ0 ro U S s)) := by
  unfold f_X0_literalFor u_X0_literalFor
  refine im_fI W (ik_0 U S) (by decide) rfl ea0 ?_
  refine im_if Iff.rfl (fun _ => ?_) (fun _ => ?_)
  · exact ue_u_X0_literalFor_14 W _
  · refine im_fI W (ik_0 U S) (by decide) rfl ea0 ?_
    refine im_if Iff.rfl (fun _ => ?_) (fun _ => ?_)
    · refine im_fD3 W (ik_0 U S) (by decide) rfl ea0 fun v3 hv3 v3' ev3 => ?_
      refine im_der (ci := 7) (hv3) (ev3) fun j1 hj1 ej1 => ?_
      refine im_ck W (ik_7 hj1) ej1 fun b5 eb5 => ?_
      refine im_call (ue_u_X7_literalPlace W hj1 eb5 _ _ _) fun q4 => ?_
      dsimp only [id]
      refine im_if Iff.rfl (fun _ => ?_) (fun _ => ?_)
      · exact im_ret rfl
      · refine im_ck W (ik_0 U S) ea0 fun b7 eb7 => ?_
        refine im_call (ue_u_X0_report W eb7 _ _ _) fun q6 => ?_
        dsimp only [id]
        exact im_ret rfl
    · exact ue_u_X0_literalFor_14 W _
