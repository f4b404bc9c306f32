/-! LAYER 2, ShareEight over its typed state, further (by program) -/
def u_X0_readItem_100 (U S N : Nat) (a1 : Int32) (a3 : Int32) (s1 : Int32) (μ : CS) : Option (Int32 × CS) :=
  (u_X0_literalFor U S N s1 a3 a1 μ).bind fun q1 =>
  some (q1.1, q1.2)
theorem ue_u_X0_readItem_100 {μ0 : BM} {ro U S : Nat} (W : Wd μ0 ro U S) {N : Nat} (a1 : Int32) (a3 : Int32) {s0f : Option Nat} (es0 : s0f = (adr μ0 ro U S (0, 0, 0))) (s1 : Int32) (s : CS) : IM μ0 ro U S id (u_X0_readItem_100 U S N a1 a3 s1 s) (f_X0_readItem_100 N a1 a3 s0f s1 (EC μ0 ro U S s)) := by
  unfold f_X0_readItem_100 u_X0_readItem_100
  refine im_ck W (ik_0 U S) es0 fun b2 eb2 => ?_
  refine im_call (ue_u_X0_literalFor W eb2 _ _ _ _) fun q1 => ?_
  dsimp only [id]
  exact im_ret rfl
def u_X0_readItem_81 (U S N : Nat) (a1 : Int32) (a2 : Int32) (a3 : Int32) (μ : CS) : Option (Int32 × CS) :=
  if ¬ a2 = (40 : Int32) then
    u_X0_readItem_100 U S N a1 a3 0 μ
  else
    u_X0_readItem_100 U S N a1 a3 ((μ.1 0 0 10) &&& 3968) μ
theorem ue_u_X0_readItem_81 {μ0 : BM} {ro U S : Nat} (W : Wd μ0 ro U S) {N : Nat} {a0f : Option Nat} (ea0 : a0f = (adr μ0 ro U S (0, 0, 0))) (a1 : Int32) (a2 : Int32) (a3 : Int32) (s : CS) : IM μ0 ro U S id (u_X0_readItem_81 U S N a1 a2 a3 s) (f_X0_readItem_81 N a0f a1 a2 a3 (EC μ0 ro U S s)) := by
  unfold f_X0_readItem_81 u_X0_readItem_81
  refine im_if Iff.rfl (fun _ => ?_) (fun _ => ?_)
  · exact ue_u_X0_readItem_100 W _ _ ea0 _ _
  · refine im_fI W (ik_0 U S) (by decide) rfl ea0 ?_
    exact ue_u_X0_readItem_100 W _ _ ea0 _ _
def u_X0_readItem_68 (U S N : Nat) (a1 : Int32) (a2 : Int32) (a3 : Int32) (s0 : Int32) (s1 : Int32) (μ : CS) : Option (Int32 × CS) :=
  if ¬ s0 = s1 then
    u_X0_readItem_81 U S N a1 a2 a3 μ
  else
    (some (qI μ 0 0 9 ((μ.1 0 0 9) + 1))).bind fun μ2 =>
    u_X0_readItem_81 U S N a1 a2 a3 μ2
theorem ue_u_X0_readItem_68 {μ0 : BM} {ro U S : Nat} (W : Wd μ0 ro U S) {N : Nat} {a0f : Option Nat} (ea0 : a0f = (adr μ0 ro U S (0, 0, 0))) (a1 : Int32) (a2 : Int32) (a3 : Int32) (s0 : Int32) (s1 : Int32) (s : CS) : IM μ0 ro U S id (u_X0_readItem_68 U S N a1 a2 a3 s0 s1 s) (f_X0_readItem_68 N a0f a1 a2 a3 s0 s1 (EC μ0 ro U S s)) := by
  unfold f_X0_readItem_68 u_X0_readItem_68
  refine im_if Iff.rfl (fun _ => ?_) (fun _ => ?_)
  · exact ue_u_X0_readItem_81 W ea0 _ _ _ _
  · refine im_fI W (ik_0 U S) (by decide) rfl ea0 ?_
    refine im_pI W (ik_0 U S) (by decide) rfl ea0 _ ?_
    exact ue_u_X0_readItem_81 W ea0 _ _ _ _
def u_X0_readItem (U S N : Nat) (μ : CS) : Option (Int32 × CS) :=
  (u_X0_kindAt U S N (μ.1 0 0 9) μ).bind fun q2 =>
  (u_X0_isLiteralSign U S N q2.1 q2.2).bind fun q4 =>
  if ¬ q4.1 = 0 then
    (some (qI q4.2 0 0 9 ((q4.2.1 0 0 9) + 1))).bind fun μ6 =>
    (u_X0_readValue U S N 0 μ6).bind fun q7 =>
    if ¬ (q7.2.1 0 0 4) = 0 then
      u_X0_readItem_81 U S N (μ.1 0 0 9) q2.1 q7.1 q7.2
    else
      (u_X0_kindAt U S N (q7.2.1 0 0 9) q7.2).bind fun q11 =>
      if ¬ q2.1 = (40 : Int32) then
        u_X0_readItem_68 U S N (μ.1 0 0 9) q2.1 q7.1 q11.1 93 q11.2
      else
        u_X0_readItem_68 U S N (μ.1 0 0 9) q2.1 q7.1 q11.1 41 q11.2
  else
    (u_X0_readValue U S N 0 q4.2).bind fun q13 =>
    some (q13.1, q13.2)
theorem ue_u_X0_readItem {μ0 : BM} {ro U S : Nat} (W : Wd μ0 ro U S) {N : Nat} {a0f : Option Nat} (ea0 : a0f = (adr μ0 ro U S (0, 0, 0))) (s : CS) : IM μ0 ro U S id (u_X0_readItem U S N s) (f_X0_readItem N a0f (EC μ0 ro U S s)) := by
  unfold f_X0_readItem u_X0_readItem
  refine im_fI W (ik_0 U S) (by decide) rfl ea0 ?_
  refine im_ck W (ik_0 U S) ea0 fun b3 eb3 => ?_
  refine im_call (ue_u_X0_kindAt W eb3 _ _) fun q2 => ?_
  dsimp only [id]
  refine im_call (ue_u_X0_isLiteralSign W _ _) fun q4 => ?_
  dsimp only [id]
  refine im_if Iff.rfl (fun _ => ?_) (fun _ => ?_)
  · refine im_fI W (ik_0 U S) (by decide) rfl ea0 ?_
    refine im_pI W (ik_0 U S) (by decide) rfl ea0 _ ?_
    refine im_ck W (ik_0 U S) ea0 fun b8 eb8 => ?_
    refine im_call (ue_u_X0_readValue W eb8 _ _) fun q7 => ?_
    dsimp only [id]
    refine im_fI W (ik_0 U S) (by decide) rfl ea0 ?_
    refine im_if Iff.rfl (fun _ => ?_) (fun _ => ?_)
    · exact ue_u_X0_readItem_81 W ea0 _ _ _ _
    · refine im_fI W (ik_0 U S) (by decide) rfl ea0 ?_
      refine im_ck W (ik_0 U S) ea0 fun b12 eb12 => ?_
      refine im_call (ue_u_X0_kindAt W eb12 _ _) fun q11 => ?_
      dsimp only [id]
      refine im_if Iff.rfl (fun _ => ?_) (fun _ => ?_)
      · exact ue_u_X0_readItem_68 W ea0 _ _ _ _ _ _
      · exact ue_u_X0_readItem_68 W ea0 _ _ _ _ _ _
  · refine im_ck W (ik_0 U S) ea0 fun b14 eb14 => ?_
    refine im_call (ue_u_X0_readValue W eb14 _ _) fun q13 => ?_
    dsimp only [id]
    exact im_ret rfl
def u_X0_inPage_19 (U S N : Nat) (s0 : Int32) (μ : CS) : Option (Int32 × CS) :=
  some (s0, μ)
theorem ue_u_X0_inPage_19 {μ0 : BM} {ro U S : Nat} (W : Wd μ0 ro U S) {N : Nat} (s0 : Int32) (s : CS) : IM μ0 ro U S id (u_X0_inPage_19 U S N s0 s) (f_X0_inPage_19 N s0 (EC μ0 ro U S s)) := by
  unfold f_X0_inPage_19 u_X0_inPage_19
  exact im_ret rfl
def u_X0_inPage (U S N : Nat) (a0 : Int32) (μ : CS) : Option (Int32 × CS) :=
  if (128 : Int32) ≤ a0 then
    u_X0_inPage_19 U S N (128 ||| (a0 &&& 127)) μ
  else
    u_X0_inPage_19 U S N a0 μ
theorem ue_u_X0_inPage {μ0 : BM} {ro U S : Nat} (W : Wd μ0 ro U S) {N : Nat} (a0 : Int32) (s : CS) : IM μ0 ro U S id (u_X0_inPage U S N a0 s) (f_X0_inPage N a0 (EC μ0 ro U S s)) := by
  unfold f_X0_inPage u_X0_inPage
  refine im_if Iff.rfl (fun _ => ?_) (fun _ => ?_)
  · exact ue_u_X0_inPage_19 W _ _
  · exact ue_u_X0_inPage_19 W _ _
def u_X0_refer_14 (U S N : Nat) (μ : CS) : Option (Int32 × CS) :=
  some (0, μ)
theorem ue_u_X0_refer_14 {μ0 : BM} {ro U S : Nat} (W : Wd μ0 ro U S) {N : Nat} (s : CS) : IM μ0 ro U S id (u_X0_refer_14 U S N s) (f_X0_refer_14 N (EC μ0 ro U S s)) := by
  unfold f_X0_refer_14 u_X0_refer_14
  exact im_ret rfl
def u_X0_refer_39 (U S N : Nat) (a1 : Int32) (a2 : Int32) (μ : CS) : Option (Int32 × CS) :=
  (u_X0_inPage U S N a2 μ).bind fun q1 =>
  some (a1 ||| q1.1, q1.2)
theorem ue_u_X0_refer_39 {μ0 : BM} {ro U S : Nat} (W : Wd μ0 ro U S) {N : Nat} (a1 : Int32) (a2 : Int32) (s : CS) : IM μ0 ro U S id (u_X0_refer_39 U S N a1 a2 s) (f_X0_refer_39 N a1 a2 (EC μ0 ro U S s)) := by
  unfold f_X0_refer_39 u_X0_refer_39
  refine im_call (ue_u_X0_inPage W _ _) fun q1 => ?_
  dsimp only [id]
  exact im_ret rfl
def u_X0_refer (U S N : Nat) (a1 : Int32) (a2 : Int32) (a3 : Int32) (μ : CS) : Option (Int32 × CS) :=
  if ¬ (μ.1 0 0 4) = 0 then
    u_X0_refer_14 U S N μ
  else
    if ¬ (μ.1 0 0 6) = 0 then
      if a2 < (128 : Int32) then
        u_X0_refer_39 U S N a1 a2 μ
      else
        if ¬ (a2 &&& 3968) = ((μ.1 0 0 10) &&& 3968) then
          if (a1 &&& 256) = 0 then
            (u_X0_literalFor U S N ((μ.1 0 0 10) &&& 3968) a2 a3 μ).bind fun q5 =>
            (u_X0_inPage U S N q5.1 q5.2).bind fun q7 =>
            some ((a1 ||| 256) ||| q7.1, q7.2)
          else
            (u_X0_report U S N 7 a3 μ).bind fun q8 =>
            some (0, q8.2)
        else
          u_X0_refer_39 U S N a1 a2 μ
    else
      u_X0_refer_14 U S N μ
theorem ue_u_X0_refer {μ0 : BM} {ro U S : Nat} (W : Wd μ0 ro U S) {N : Nat} {a0f : Option Nat} (ea0 : a0f = (adr μ0 ro U S (0, 0, 0))) (a1 : Int32) (a2 : Int32) (a3 : Int32) (s : CS) : IM μ0 ro U S id (u_X0_refer U S N a1 a2 a3 s) (f_X0_refer N a0f a1 a2 a3 (EC μ0 ro U S s)) := by
  unfold f_X0_refer u_X0_refer
  refine im_fI W (ik_0 U S) (by decide) rfl ea0 ?_
  refine im_if Iff.rfl (fun _ => ?_) (fun _ => ?_)
  · exact ue_u_X0_refer_14 W _
  · refine im_fI W (ik_0 U S) (by decide) rfl ea0 ?_
    refine im_if Iff.rfl (fun _ => ?_) (fun _ => ?_)
    · refine im_if Iff.rfl (fun _ => ?_) (fun _ => ?_)
      · exact ue_u_X0_refer_39 W _ _ _
      · refine im_fI W (ik_0 U S) (by decide) rfl ea0 ?_
        refine im_if Iff.rfl (fun _ => ?_) (fun _ => ?_)
        · refine im_if Iff.rfl (fun _ => ?_) (fun _ => ?_)
          · refine im_fI W (ik_0 U S) (by decide) rfl ea0 ?_
            refine im_ck W (ik_0 U S) ea0 fun b6 eb6 => ?_
            refine im_call (ue_u_X0_literalFor W eb6 _ _ _ _) fun q5 => ?_
            dsimp only [id]
            refine im_call (ue_u_X0_inPage W _ _) fun q7 => ?_
            dsimp only [id]
            exact im_ret rfl
          · refine im_ck W (ik_0 U S) ea0 fun b9 eb9 => ?_
            refine im_call (ue_u_X0_report W eb9 _ _ _) fun q8 => ?_
            dsimp only [id]
            exact im_ret rfl
        · exact ue_u_X0_refer_39 W _ _ _
    · exact ue_u_X0_refer_14 W _
def u_X0_passReference_160 (U S N : Nat) (a1 : Int32) (a2 : Int32) (a3 : Int32) (μ : CS) : Option (Unit × CS) :=
  (u_X0_refer U S N a1 a3 a2 μ).bind fun q1 =>
  (u_X0_finishWord U S N q1.1 q1.2).bind fun q3 =>
  some ((), q3.2)
theorem ue_u_X0_passReference_160 {μ0 : BM} {ro U S : Nat} (W : Wd μ0 ro U S) {N : Nat} {a0f : Option Nat} (ea0 : a0f = (adr μ0 ro U S (0, 0, 0))) (a1 : Int32) (a2 : Int32) (a3 : Int32) (s : CS) : IM μ0 ro U S id (u_X0_passReference_160 U S N a1 a2 a3 s) (f_X0_passReference_160 N a0f a1 a2 a3 (EC μ0 ro U S s)) := by
  unfold f_X0_passReference_160 u_X0_passReference_160
  refine im_ck W (ik_0 U S) ea0 fun b2 eb2 => ?_
  refine im_call (ue_u_X0_refer W eb2 _ _ _ _) fun q1 => ?_
  dsimp only [id]
  refine im_ck W (ik_0 U S) ea0 fun b4 eb4 => ?_
  refine im_call (ue_u_X0_finishWord W eb4 _ _) fun q3 => ?_
  dsimp only [id]
  exact im_ret rfl
def u_X0_passReference_98 (U S N : Nat) (a1 : Int32) (μ : CS) : Option (Unit × CS) :=
  (u_X0_beginsPart U S N (μ.1 0 0 9) μ).bind fun q2 =>
  if ¬ q2.1 = 0 then
    (u_X0_readItem U S N q2.2).bind fun q5 =>
    if ¬ (q5.2.1 0 0 4) = 0 then
      u_X0_passReference_160 U S N a1 (q2.2.1 0 0 9) q5.1 q5.2
    else
      (u_X0_kindAt U S N (q2.2.1 0 0 9) q5.2).bind fun q8 =>
      (u_X0_isLiteralSign U S N q8.1 q8.2).bind fun q10 =>
      if ¬ q10.1 = 0 then
        u_X0_passReference_160 U S N a1 (q2.2.1 0 0 9) q5.1 q10.2
      else
        (u_X0_beginsPart U S N (q10.2.1 0 0 9) q10.2).bind fun q12 =>
        if q12.1 = 0 then
          u_X0_passReference_160 U S N a1 (q2.2.1 0 0 9) q5.1 q12.2
        else
          (u_X0_report U S N 2 (q2.2.1 0 0 9) q12.2).bind fun q14 =>
          u_X0_passReference_160 U S N a1 (q2.2.1 0 0 9) q5.1 q14.2
  else
    (u_X0_finishWord U S N a1 q2.2).bind fun q16 =>
    some ((), q16.2)
theorem ue_u_X0_passReference_98 {μ0 : BM} {ro U S : Nat} (W : Wd μ0 ro U S) {N : Nat} {a0f : Option Nat} (ea0 : a0f = (adr μ0 ro U S (0, 0, 0))) (a1 : Int32) (s : CS) : IM μ0 ro U S id (u_X0_passReference_98 U S N a1 s) (f_X0_passReference_98 N a0f a1 (EC μ0 ro U S s)) := by
  unfold f_X0_passReference_98 u_X0_passReference_98
  refine im_fI W (ik_0 U S) (by decide) rfl ea0 ?_
  refine im_ck W (ik_0 U S) ea0 fun b3 eb3 => ?_
  refine im_call (ue_u_X0_beginsPart W eb3 _ _) fun q2 => ?_
  dsimp only [id]
  refine im_if Iff.rfl (fun _ => ?_) (fun _ => ?_)
  · refine im_fI W (ik_0 U S) (by decide) rfl ea0 ?_
    refine im_ck W (ik_0 U S) ea0 fun b6 eb6 => ?_
    refine im_call (ue_u_X0_readItem W eb6 _) fun q5 => ?_
    dsimp only [id]
    refine im_fI W (ik_0 U S) (by decide) rfl ea0 ?_
    refine im_if Iff.rfl (fun _ => ?_) (fun _ => ?_)
    · exact ue_u_X0_passReference_160 W ea0 _ _ _ _
    · refine im_ck W (ik_0 U S) ea0 fun b9 eb9 => ?_
      refine im_call (ue_u_X0_kindAt W eb9 _ _) fun q8 => ?_
      dsimp only [id]
      refine im_call (ue_u_X0_isLiteralSign W _ _) fun q10 => ?_
      dsimp only [id]
      refine im_if Iff.rfl (fun _ => ?_) (fun _ => ?_)
      · exact ue_u_X0_passReference_160 W ea0 _ _ _ _
      · refine im_fI W (ik_0 U S) (by decide) rfl ea0 ?_
        refine im_ck W (ik_0 U S) ea0 fun b13 eb13 => ?_
        refine im_call (ue_u_X0_beginsPart W eb13 _ _) fun q12 => ?_
        dsimp only [id]
        refine im_if Iff.rfl (fun _ => ?_) (fun _ => ?_)
        · exact ue_u_X0_passReference_160 W ea0 _ _ _ _
        · refine im_ck W (ik_0 U S) ea0 fun b15 eb15 => ?_
          refine im_call (ue_u_X0_report W eb15 _ _ _) fun q14 => ?_
          dsimp only [id]
          exact ue_u_X0_passReference_160 W ea0 _ _ _ _
  · refine im_ck W (ik_0 U S) ea0 fun b17 eb17 => ?_
    refine im_call (ue_u_X0_finishWord W eb17 _ _) fun q16 => ?_
    dsimp only [id]
    exact im_ret rfl
def uh_X0_passReference_39 (U S N : Nat) (k39 : Int32 → Int32 → CS → Option (Unit × CS)) (a1 : Int32) (a2 : Int32) (μ : CS) : Option (Unit × CS) :=
  if (μ.1 9 0 5) < a2 then
    u_X0_passReference_98 U S N a1 μ
  else
    (u_X0_isModifierAt U S N (μ.1 0 0 9) μ).bind fun q4 =>
    if q4.1 = 0 then
      u_X0_passReference_98 U S N a1 q4.2
    else
      (u_X9_valueOf U S N (q4.2.1 0 0 9) q4.2).bind fun q9 =>
      (u_X4_valueOf U S N q9.1 q9.2).bind fun q11 =>
      (some (qI q11.2 0 0 9 ((q11.2.1 0 0 9) + 1))).bind fun μ14 =>
      k39 (a1 ||| q11.1) (a2 + 1) μ14
theorem ue_uh_X0_passReference_39 {μ0 : BM} {ro U S : Nat} (W : Wd μ0 ro U S) {N : Nat} {k39 : (Option Nat) → Int32 → Int32 → Mem → Option (Unit × Mem)} {k39' : Int32 → Int32 → CS → Option (Unit × CS)} (hk39 : ∀ {ya0f : Option Nat} (eya0 : ya0f = (adr μ0 ro U S (0, 0, 0))) (ya1 : Int32) (ya2 : Int32) (s : CS), IM μ0 ro U S id (k39' ya1 ya2 s) (k39 ya0f ya1 ya2 (EC μ0 ro U S s))) {a0f : Option Nat} (ea0 : a0f = (adr μ0 ro U S (0, 0, 0))) (a1 : Int32) (a2 : Int32) (s : CS) : IM μ0 ro U S id (uh_X0_passReference_39 U S N k39' a1 a2 s) (H_X0_passReference_39 N k39 a0f a1 a2 (EC μ0 ro U S s)) := by
  unfold H_X0_passReference_39 uh_X0_passReference_39
  refine im_fR W (ik_0 U S) (by decide) rfl ea0 fun v1 ev1 => ?_
  refine im_fI W (ik_9 U S) (by decide) rfl ev1 ?_
  refine im_if Iff.rfl (fun _ => ?_) (fun _ => ?_)
  · exact ue_u_X0_passReference_98 W ea0 _ _
  · refine im_fI W (ik_0 U S) (by decide) rfl ea0 ?_
    refine im_ck W (ik_0 U S) ea0 fun b5 eb5 => ?_
    refine im_call (ue_u_X0_isModifierAt W eb5 _ _) fun q4 => ?_
    dsimp only [id]
    refine im_if Iff.rfl (fun _ => ?_) (fun _ => ?_)
    · exact ue_u_X0_passReference_98 W ea0 _ _
    · refine im_fR W (ik_0 U S) (by decide) rfl ea0 fun v6 ev6 => ?_
      refine im_fR W (ik_0 U S) (by decide) rfl ea0 fun v7 ev7 => ?_
      refine im_fI W (ik_0 U S) (by decide) rfl ea0 ?_
      refine im_ck W (ik_9 U S) ev7 fun b10 eb10 => ?_
      refine im_call (ue_u_X9_valueOf W eb10 _ _) fun q9 => ?_
      dsimp only [id]
      refine im_ck W (ik_4 U S) ev6 fun b12 eb12 => ?_
      refine im_call (ue_u_X4_valueOf W eb12 _ _) fun q11 => ?_
      dsimp only [id]
      refine im_fI W (ik_0 U S) (by decide) rfl ea0 ?_
      refine im_pI W (ik_0 U S) (by decide) rfl ea0 _ ?_
      exact hk39 ea0 _ _ _
def ul_X0_passReference_39 (U S N : Nat)  : Nat → Int32 → Int32 → CS → Option (Unit × CS)
  | 0 => fun _ _ _ => none
  | n + 1 => uh_X0_passReference_39 U S N (ul_X0_passReference_39 U S N n)
theorem ue_ul_X0_passReference_39 {μ0 : BM} {ro U S : Nat} (W : Wd μ0 ro U S) {N : Nat} : ∀ (n : Nat) {a0f : Option Nat} (ea0 : a0f = (adr μ0 ro U S (0, 0, 0))) (a1 : Int32) (a2 : Int32) (s : CS), IM μ0 ro U S id (ul_X0_passReference_39 U S N n a1 a2 s) (L_X0_passReference_39 N n a0f a1 a2 (EC μ0 ro U S s)) := by
  intro n
  induction n with
  | zero => intros; exact im_none
  | succ n ih => intro a0f ea0 a1 a2 s; exact ue_uh_X0_passReference_39 W ih ea0 _ _ _
def u_X0_passReference (U S N : Nat) (μ : CS) : Option (Unit × CS) :=
  (u_X0_mayBeginWord U S N μ).bind fun q1 =>
  if ¬ q1.1 = 0 then
    (u_X9_valueOf U S N (q1.2.1 0 0 9) q1.2).bind fun q6 =>
    (u_X4_valueOf U S N q6.1 q6.2).bind fun q8 =>
    (some (qI q8.2 0 0 9 ((q8.2.1 0 0 9) + 1))).bind fun μ11 =>
    ul_X0_passReference_39 U S N N q8.1 0 μ11
  else
    some ((), q1.2)
theorem ue_u_X0_passReference {μ0 : BM} {ro U S : Nat} (W : Wd μ0 ro U S) {N : Nat} {a0f : Option Nat} (ea0 : a0f = (adr μ0 ro U S (0, 0, 0))) (s : CS) : IM μ0 ro U S id (u_X0_passReference U S N s) (f_X0_passReference N a0f (EC μ0 ro U S s)) := by
  unfold f_X0_passReference u_X0_passReference
  refine im_ck W (ik_0 U S) ea0 fun b2 eb2 => ?_
  refine im_call (ue_u_X0_mayBeginWord W eb2 _) fun q1 => ?_
  dsimp only [id]
  refine im_if Iff.rfl (fun _ => ?_) (fun _ => ?_)
  · refine im_fR W (ik_0 U S) (by decide) rfl ea0 fun v3 ev3 => ?_
    refine im_fR W (ik_0 U S) (by decide) rfl ea0 fun v4 ev4 => ?_
    refine im_fI W (ik_0 U S) (by decide) rfl ea0 ?_
    refine im_ck W (ik_9 U S) ev4 fun b7 eb7 => ?_
    refine im_call (ue_u_X9_valueOf W eb7 _ _) fun q6 => ?_
    dsimp only [id]
    refine im_ck W (ik_4 U S) ev3 fun b9 eb9 => ?_
    refine im_call (ue_u_X4_valueOf W eb9 _ _) fun q8 => ?_
    dsimp only [id]
    refine im_fI W (ik_0 U S) (by decide) rfl ea0 ?_
    refine im_pI W (ik_0 U S) (by decide) rfl ea0 _ ?_
    exact ue_ul_X0_passReference_39 W N ea0 _ _ _
  · exact im_ret rfl
def u_X0_refuse_12 (U S N : Nat) (s1 : Int32) (μ : CS) : Option (Unit × CS) :=
  (u_X0_report U S N s1 (μ.1 0 0 9) μ).bind fun q2 =>
  some ((), q2.2)
theorem ue_u_X0_refuse_12 {μ0 : BM} {ro U S : Nat} (W : Wd μ0 ro U S) {N : Nat} {a0f : Option Nat} (ea0 : a0f = (adr μ0 ro U S (0, 0, 0))) {s0f : Option Nat} (es0 : s0f = (adr μ0 ro U S (0, 0, 0))) (s1 : Int32) (s : CS) : IM μ0 ro U S id (u_X0_refuse_12 U S N s1 s) (f_X0_refuse_12 N a0f s0f s1 (EC μ0 ro U S s)) := by
  unfold f_X0_refuse_12 u_X0_refuse_12
  refine im_fI W (ik_0 U S) (by decide) rfl ea0 ?_
  refine im_ck W (ik_0 U S) es0 fun b3 eb3 => ?_
  refine im_call (ue_u_X0_report W eb3 _ _ _) fun q2 => ?_
  dsimp only [id]
  exact im_ret rfl
def u_X0_refuse (U S N : Nat) (a1 : Int32) (μ : CS) : Option (Unit × CS) :=
  if ¬ a1 = (6 : Int32) then
    u_X0_refuse_12 U S N 2 μ
  else
    u_X0_refuse_12 U S N 1 μ
theorem ue_u_X0_refuse {μ0 : BM} {ro U S : Nat} (W : Wd μ0 ro U S) {N : Nat} {a0f : Option Nat} (ea0 : a0f = (adr μ0 ro U S (0, 0, 0))) (a1 : Int32) (s : CS) : IM μ0 ro U S id (u_X0_refuse U S N a1 s) (f_X0_refuse N a0f a1 (EC μ0 ro U S s)) := by
  unfold f_X0_refuse u_X0_refuse
  refine im_if Iff.rfl (fun _ => ?_) (fun _ => ?_)
  · exact ue_u_X0_refuse_12 W ea0 ea0 _ _
  · exact ue_u_X0_refuse_12 W ea0 ea0 _ _
def u_X0_passWord_108 (U S N : Nat) (a1 : Int32) (μ : CS) : Option (Unit × CS) :=
  (u_X0_finishWord U S N a1 μ).bind fun q1 =>
  some ((), q1.2)
theorem ue_u_X0_passWord_108 {μ0 : BM} {ro U S : Nat} (W : Wd μ0 ro U S) {N : Nat} {a0f : Option Nat} (ea0 : a0f = (adr μ0 ro U S (0, 0, 0))) (a1 : Int32) (s : CS) : IM μ0 ro U S id (u_X0_passWord_108 U S N a1 s) (f_X0_passWord_108 N a0f a1 (EC μ0 ro U S s)) := by
  unfold f_X0_passWord_108 u_X0_passWord_108
  refine im_ck W (ik_0 U S) ea0 fun b2 eb2 => ?_
  refine im_call (ue_u_X0_finishWord W eb2 _ _) fun q1 => ?_
  dsimp only [id]
  exact im_ret rfl
def u_X0_passWord_101 (U S N : Nat) (k38 : Int32 → Int32 → Int32 → CS → Option (Unit × CS)) (a1 : Int32) (a3 : Int32) (s0 : Int32) (μ : CS) : Option (Unit × CS) :=
  k38 a1 s0 (a3 + 1) μ
theorem ue_u_X0_passWord_101 {μ0 : BM} {ro U S : Nat} (W : Wd μ0 ro U S) {N : Nat} {k38 : (Option Nat) → Int32 → Int32 → Int32 → Mem → Option (Unit × Mem)} {k38' : Int32 → Int32 → Int32 → CS → Option (Unit × CS)} (hk38 : ∀ {ya0f : Option Nat} (eya0 : ya0f = (adr μ0 ro U S (0, 0, 0))) (ya1 : Int32) (ya2 : Int32) (ya3 : Int32) (s : CS), IM μ0 ro U S id (k38' ya1 ya2 ya3 s) (k38 ya0f ya1 ya2 ya3 (EC μ0 ro U S s))) {a0f : Option Nat} (ea0 : a0f = (adr μ0 ro U S (0, 0, 0))) (a1 : Int32) (a3 : Int32) (s0 : Int32) (s : CS) : IM μ0 ro U S id (u_X0_passWord_101 U S N k38' a1 a3 s0 s) (f_X0_passWord_101 N k38 a0f a1 a3 s0 (EC μ0 ro U S s)) := by
  unfold f_X0_passWord_101 u_X0_passWord_101
  exact hk38 ea0 _ _ _ _
def u_X0_passWord_100 (U S N : Nat) (k38 : Int32 → Int32 → Int32 → CS → Option (Unit × CS)) (a1 : Int32) (a3 : Int32) (μ : CS) : Option (Unit × CS) :=
  u_X0_passWord_101 U S N k38 a1 a3 0 μ
theorem ue_u_X0_passWord_100 {μ0 : BM} {ro U S : Nat} (W : Wd μ0 ro U S) {N : Nat} {k38 : (Option Nat) → Int32 → Int32 → Int32 → Mem → Option (Unit × Mem)} {k38' : Int32 → Int32 → Int32 → CS → Option (Unit × CS)} (hk38 : ∀ {ya0f : Option Nat} (eya0 : ya0f = (adr μ0 ro U S (0, 0, 0))) (ya1 : Int32) (ya2 : Int32) (ya3 : Int32) (s : CS), IM μ0 ro U S id (k38' ya1 ya2 ya3 s) (k38 ya0f ya1 ya2 ya3 (EC μ0 ro U S s))) {a0f : Option Nat} (ea0 : a0f = (adr μ0 ro U S (0, 0, 0))) (a1 : Int32) (a3 : Int32) (s : CS) : IM μ0 ro U S id (u_X0_passWord_100 U S N k38' a1 a3 s) (f_X0_passWord_100 N k38 a0f a1 a3 (EC μ0 ro U S s)) := by
  unfold f_X0_passWord_100 u_X0_passWord_100
  exact ue_u_X0_passWord_101 W hk38 ea0 _ _ _ _
def uh_X0_passWord_38 (U S N : Nat) (k38 : Int32 → Int32 → Int32 → CS → Option (Unit × CS)) (a1 : Int32) (a2 : Int32) (a3 : Int32) (μ : CS) : Option (Unit × CS) :=
  if (μ.1 9 0 5) < a3 then
    u_X0_passWord_108 U S N a1 μ
  else
    if ¬ (μ.1 0 0 4) = 0 then
      u_X0_passWord_108 U S N a1 μ
    else
      if a2 = 0 then
        u_X0_passWord_108 U S N a1 μ
      else
        (u_X0_kindAt U S N (μ.1 0 0 9) μ).bind fun q5 =>
        (u_X0_isLiteralSign U S N q5.1 q5.2).bind fun q7 =>
        (u_X0_readItem U S N q7.2).bind fun q8 =>
        if ¬ q7.1 = 0 then
          u_X0_passWord_100 U S N k38 (a1 ||| q8.1) a3 q8.2
        else
          (u_X0_beginsPart U S N (q8.2.1 0 0 9) q8.2).bind fun q11 =>
          if q11.1 = 0 then
            u_X0_passWord_100 U S N k38 (a1 ||| q8.1) a3 q11.2
          else
            u_X0_passWord_101 U S N k38 (a1 ||| q8.1) a3 1 q11.2
theorem ue_uh_X0_passWord_38 {μ0 : BM} {ro U S : Nat} (W : Wd μ0 ro U S) {N : Nat} {k38 : (Option Nat) → Int32 → Int32 → Int32 → Mem → Option (Unit × Mem)} {k38' : Int32 → Int32 → Int32 → CS → Option (Unit × CS)} (hk38 : ∀ {ya0f : Option Nat} (eya0 : ya0f = (adr μ0 ro U S (0, 0, 0))) (ya1 : Int32) (ya2 : Int32) (ya3 : Int32) (s : CS), IM μ0 ro U S id (k38' ya1 ya2 ya3 s) (k38 ya0f ya1 ya2 ya3 (EC μ0 ro U S s))) {a0f : Option Nat} (ea0 : a0f = (adr μ0 ro U S (0, 0, 0))) (a1 : Int32) (a2 : Int32) (a3 : Int32) (s : CS) : IM μ0 ro U S id (uh_X0_passWord_38 U S N k38' a1 a2 a3 s) (H_X0_passWord_38 N k38 a0f a1 a2 a3 (EC μ0 ro U S s)) := by
  unfold H_X0_passWord_38 uh_X0_passWord_38
  refine im_fR W (ik_0 U S) (by decide) rfl ea0 fun v1 ev1 => ?_
  refine im_fI W (ik_9 U S) (by decide) rfl ev1 ?_
  refine im_if Iff.rfl (fun _ => ?_) (fun _ => ?_)
  · exact ue_u_X0_passWord_108 W ea0 _ _
  · refine im_fI W (ik_0 U S) (by decide) rfl ea0 ?_
    refine im_if Iff.rfl (fun _ => ?_) (fun _ => ?_)
    · exact ue_u_X0_passWord_108 W ea0 _ _
    · refine im_if Iff.rfl (fun _ => ?_) (fun _ => ?_)
      · exact ue_u_X0_passWord_108 W ea0 _ _
      · refine im_fI W (ik_0 U S) (by decide) rfl ea0 ?_
        refine im_ck W (ik_0 U S) ea0 fun b6 eb6 => ?_
        refine im_call (ue_u_X0_kindAt W eb6 _ _) fun q5 => ?_
        dsimp only [id]
        refine im_call (ue_u_X0_isLiteralSign W _ _) fun q7 => ?_
        dsimp only [id]
        refine im_ck W (ik_0 U S) ea0 fun b9 eb9 => ?_
        refine im_call (ue_u_X0_readItem W eb9 _) fun q8 => ?_
        dsimp only [id]
        refine im_if Iff.rfl (fun _ => ?_) (fun _ => ?_)
        · exact ue_u_X0_passWord_100 W hk38 ea0 _ _ _
        · refine im_fI W (ik_0 U S) (by decide) rfl ea0 ?_
          refine im_ck W (ik_0 U S) ea0 fun b12 eb12 => ?_
          refine im_call (ue_u_X0_beginsPart W eb12 _ _) fun q11 => ?_
          dsimp only [id]
          refine im_if Iff.rfl (fun _ => ?_) (fun _ => ?_)
          · exact ue_u_X0_passWord_100 W hk38 ea0 _ _ _
          · exact ue_u_X0_passWord_101 W hk38 ea0 _ _ _ _
def ul_X0_passWord_38 (U S N : Nat)  : Nat → Int32 → Int32 → Int32 → CS → Option (Unit × CS)
  | 0 => fun _ _ _ _ => none
  | n + 1 => uh_X0_passWord_38 U S N (ul_X0_passWord_38 U S N n)
theorem ue_ul_X0_passWord_38 {μ0 : BM} {ro U S : Nat} (W : Wd μ0 ro U S) {N : Nat} : ∀ (n : Nat) {a0f : Option Nat} (ea0 : a0f = (adr μ0 ro U S (0, 0, 0))) (a1 : Int32) (a2 : Int32) (a3 : Int32) (s : CS), IM μ0 ro U S id (ul_X0_passWord_38 U S N n a1 a2 a3 s) (L_X0_passWord_38 N n a0f a1 a2 a3 (EC μ0 ro U S s)) := by
  intro n
  induction n with
  | zero => intros; exact im_none
  | succ n ih => intro a0f ea0 a1 a2 a3 s; exact ue_uh_X0_passWord_38 W ih ea0 _ _ _ _
def u_X0_passWord (U S N : Nat) (μ : CS) : Option (Unit × CS) :=
  (u_X0_beginsPart U S N (μ.1 0 0 9) μ).bind fun q2 =>
  if ¬ q2.1 = 0 then
    (u_X0_mayBeginWord U S N q2.2).bind fun q4 =>
    if ¬ q4.1 = 0 then
      ul_X0_passWord_38 U S N N 0 1 0 q4.2
    else
      some ((), q4.2)
  else
    (u_X0_kindAt U S N (q2.2.1 0 0 9) q2.2).bind fun q7 =>
    (u_X0_refuse U S N q7.1 q7.2).bind fun q9 =>
    some ((), q9.2)
theorem ue_u_X0_passWord {μ0 : BM} {ro U S : Nat} (W : Wd μ0 ro U S) {N : Nat} {a0f : Option Nat} (ea0 : a0f = (adr μ0 ro U S (0, 0, 0))) (s : CS) : IM μ0 ro U S id (u_X0_passWord U S N s) (f_X0_passWord N a0f (EC μ0 ro U S s)) := by
  unfold f_X0_passWord u_X0_passWord
  refine im_fI W (ik_0 U S) (by decide) rfl ea0 ?_
  refine im_ck W (ik_0 U S) ea0 fun b3 eb3 => ?_
  refine im_call (ue_u_X0_beginsPart W eb3 _ _) fun q2 => ?_
  dsimp only [id]
  refine im_if Iff.rfl (fun _ => ?_) (fun _ => ?_)
  · refine im_ck W (ik_0 U S) ea0 fun b5 eb5 => ?_
    refine im_call (ue_u_X0_mayBeginWord W eb5 _) fun q4 => ?_
    dsimp only [id]
    refine im_if Iff.rfl (fun _ => ?_) (fun _ => ?_)
    · exact ue_ul_X0_passWord_38 W N ea0 _ _ _ _
    · exact im_ret rfl
  · refine im_fI W (ik_0 U S) (by decide) rfl ea0 ?_
    refine im_ck W (ik_0 U S) ea0 fun b8 eb8 => ?_
    refine im_call (ue_u_X0_kindAt W eb8 _ _) fun q7 => ?_
    dsimp only [id]
    refine im_ck W (ik_0 U S) ea0 fun b10 eb10 => ?_
    refine im_call (ue_u_X0_refuse W eb10 _ _) fun q9 => ?_
    dsimp only [id]
    exact im_ret rfl
def u_X0_passStatement_23 (U S N : Nat) (μ : CS) : Option (Unit × CS) :=
  some ((), μ)
theorem ue_u_X0_passStatement_23 {μ0 : BM} {ro U S : Nat} (W : Wd μ0 ro U S) {N : Nat} (s : CS) : IM μ0 ro U S id (u_X0_passStatement_23 U S N s) (f_X0_passStatement_23 N (EC μ0 ro U S s)) := by
  unfold f_X0_passStatement_23 u_X0_passStatement_23
  exact im_ret rfl
def u_X0_passStatement_210 (U S N : Nat) (μ : CS) : Option (Unit × CS) :=
  some ((), μ)
theorem ue_u_X0_passStatement_210 {μ0 : BM} {ro U S : Nat} (W : Wd μ0 ro U S) {N : Nat} (s : CS) : IM μ0 ro U S id (u_X0_passStatement_210 U S N s) (f_X0_passStatement_210 N (EC μ0 ro U S s)) := by
  unfold f_X0_passStatement_210 u_X0_passStatement_210
  exact im_ret rfl
def u_X0_passStatement_37 (U S N : Nat) (s0 : Int32) (μ : CS) : Option (Unit × CS) :=
  if s0 = 4 then
    (u_X0_passText U S N μ).bind fun q1 =>
    u_X0_passStatement_210 U S N q1.2
  else
    if s0 = 5 then
      (u_X0_report U S N 1 (μ.1 0 0 9) μ).bind fun q4 =>
      u_X0_passStatement_210 U S N q4.2
    else
      if s0 = 36 then
        (qZ μ 0 0 7 1).bind fun μ6 =>
        u_X0_passStatement_210 U S N μ6
      else
        if s0 = 42 then
          (u_X0_passOrigin U S N μ).bind fun q7 =>
          u_X0_passStatement_210 U S N q7.2
        else
          if s0 = 256 then
            (u_X0_passEquation U S N μ).bind fun q9 =>
            u_X0_passStatement_210 U S N q9.2
          else
            if s0 = 257 then
              (u_X0_passReference U S N μ).bind fun q11 =>
              u_X0_passStatement_210 U S N q11.2
            else
              if s0 = 300 then
                (u_X0_passPage U S N μ).bind fun q13 =>
                u_X0_passStatement_210 U S N q13.2
              else
                if s0 = 301 then
                  (u_X0_passRadix U S N 1 μ).bind fun q15 =>
                  u_X0_passStatement_210 U S N q15.2
                else
                  if s0 = 302 then
                    (u_X0_passRadix U S N 0 μ).bind fun q17 =>
                    u_X0_passStatement_210 U S N q17.2
                  else
                    if s0 = 303 then
                      (u_X0_passZeros U S N μ).bind fun q19 =>
                      u_X0_passStatement_210 U S N q19.2
                    else
                      (u_X0_passWord U S N μ).bind fun q21 =>
                      u_X0_passStatement_210 U S N q21.2
theorem ue_u_X0_passStatement_37 {μ0 : BM} {ro U S : Nat} (W : Wd μ0 ro U S) {N : Nat} {a0f : Option Nat} (ea0 : a0f = (adr μ0 ro U S (0, 0, 0))) (s0 : Int32) (s : CS) : IM μ0 ro U S id (u_X0_passStatement_37 U S N s0 s) (f_X0_passStatement_37 N a0f s0 (EC μ0 ro U S s)) := by
  unfold f_X0_passStatement_37 u_X0_passStatement_37
  refine im_if Iff.rfl (fun _ => ?_) (fun _ => ?_)
  · refine im_ck W (ik_0 U S) ea0 fun b2 eb2 => ?_
    refine im_call (ue_u_X0_passText W eb2 _) fun q1 => ?_
    dsimp only [id]
    exact ue_u_X0_passStatement_210 W _
  · refine im_if Iff.rfl (fun _ => ?_) (fun _ => ?_)
    · refine im_fI W (ik_0 U S) (by decide) rfl ea0 ?_
      refine im_ck W (ik_0 U S) ea0 fun b5 eb5 => ?_
      refine im_call (ue_u_X0_report W eb5 _ _ _) fun q4 => ?_
      dsimp only [id]
      exact ue_u_X0_passStatement_210 W _
    · refine im_if Iff.rfl (fun _ => ?_) (fun _ => ?_)
      · refine im_pZ W (ik_0 U S) (by decide) rfl ea0 _ fun μ6 => ?_
        exact ue_u_X0_passStatement_210 W _
      · refine im_if Iff.rfl (fun _ => ?_) (fun _ => ?_)
        · refine im_ck W (ik_0 U S) ea0 fun b8 eb8 => ?_
          refine im_call (ue_u_X0_passOrigin W eb8 _) fun q7 => ?_
          dsimp only [id]
          exact ue_u_X0_passStatement_210 W _
        · refine im_if Iff.rfl (fun _ => ?_) (fun _ => ?_)
          · refine im_ck W (ik_0 U S) ea0 fun b10 eb10 => ?_
            refine im_call (ue_u_X0_passEquation W eb10 _) fun q9 => ?_
            dsimp only [id]
            exact ue_u_X0_passStatement_210 W _
          · refine im_if Iff.rfl (fun _ => ?_) (fun _ => ?_)
            · refine im_ck W (ik_0 U S) ea0 fun b12 eb12 => ?_
              refine im_call (ue_u_X0_passReference W eb12 _) fun q11 => ?_
              dsimp only [id]
              exact ue_u_X0_passStatement_210 W _
            · refine im_if Iff.rfl (fun _ => ?_) (fun _ => ?_)
              · refine im_ck W (ik_0 U S) ea0 fun b14 eb14 => ?_
                refine im_call (ue_u_X0_passPage W eb14 _) fun q13 => ?_
                dsimp only [id]
                exact ue_u_X0_passStatement_210 W _
              · refine im_if Iff.rfl (fun _ => ?_) (fun _ => ?_)
                · refine im_ck W (ik_0 U S) ea0 fun b16 eb16 => ?_
                  refine im_call (ue_u_X0_passRadix W eb16 _ _) fun q15 => ?_
                  dsimp only [id]
                  exact ue_u_X0_passStatement_210 W _
                · refine im_if Iff.rfl (fun _ => ?_) (fun _ => ?_)
                  · refine im_ck W (ik_0 U S) ea0 fun b18 eb18 => ?_
                    refine im_call (ue_u_X0_passRadix W eb18 _ _) fun q17 => ?_
                    dsimp only [id]
                    exact ue_u_X0_passStatement_210 W _
                  · refine im_if Iff.rfl (fun _ => ?_) (fun _ => ?_)
                    · refine im_ck W (ik_0 U S) ea0 fun b20 eb20 => ?_
                      refine im_call (ue_u_X0_passZeros W eb20 _) fun q19 => ?_
                      dsimp only [id]
                      exact ue_u_X0_passStatement_210 W _
                    · refine im_ck W (ik_0 U S) ea0 fun b22 eb22 => ?_
                      refine im_call (ue_u_X0_passWord W eb22 _) fun q21 => ?_
                      dsimp only [id]
                      exact ue_u_X0_passStatement_210 W _
def u_X0_passStatement (U S N : Nat) (μ : CS) : Option (Unit × CS) :=
  (u_X0_kindAt U S N (μ.1 0 0 9) μ).bind fun q2 =>
  if ¬ (q2.2.1 0 0 4) = 0 then
    u_X0_passStatement_23 U S N q2.2
  else
    (u_X0_isEnd U S N q2.1 q2.2).bind fun q5 =>
    if q5.1 = 0 then
      if ¬ q2.1 = (1 : Int32) then
        u_X0_passStatement_37 U S N q2.1 q5.2
      else
        (u_X0_kindOfNamed U S N q5.2).bind fun q6 =>
        u_X0_passStatement_37 U S N q6.1 q6.2
    else
      u_X0_passStatement_23 U S N q5.2
theorem ue_u_X0_passStatement {μ0 : BM} {ro U S : Nat} (W : Wd μ0 ro U S) {N : Nat} {a0f : Option Nat} (ea0 : a0f = (adr μ0 ro U S (0, 0, 0))) (s : CS) : IM μ0 ro U S id (u_X0_passStatement U S N s) (f_X0_passStatement N a0f (EC μ0 ro U S s)) := by
  unfold f_X0_passStatement u_X0_passStatement
  refine im_fI W (ik_0 U S) (by decide) rfl ea0 ?_
  refine im_ck W (ik_0 U S) ea0 fun b3 eb3 => ?_
  refine im_call (ue_u_X0_kindAt W eb3 _ _) fun q2 => ?_
  dsimp only [id]
  refine im_fI W (ik_0 U S) (by decide) rfl ea0 ?_
  refine im_if Iff.rfl (fun _ => ?_) (fun _ => ?_)
  · exact ue_u_X0_passStatement_23 W _
  · refine im_call (ue_u_X0_isEnd W _ _) fun q5 => ?_
    dsimp only [id]
    refine im_if Iff.rfl (fun _ => ?_) (fun _ => ?_)
    · refine im_if Iff.rfl (fun _ => ?_) (fun _ => ?_)
      · exact ue_u_X0_passStatement_37 W ea0 _ _
      · refine im_ck W (ik_0 U S) ea0 fun b7 eb7 => ?_
        refine im_call (ue_u_X0_kindOfNamed W eb7 _) fun q6 => ?_
        dsimp only [id]
        exact ue_u_X0_passStatement_37 W ea0 _ _
    · exact ue_u_X0_passStatement_23 W _
def u_X0_passEnd_14 (U S N : Nat) (μ : CS) : Option (Unit × CS) :=
  some ((), μ)
theorem ue_u_X0_passEnd_14 {μ0 : BM} {ro U S : Nat} (W : Wd μ0 ro U S) {N : Nat} (s : CS) : IM μ0 ro U S id (u_X0_passEnd_14 U S N s) (f_X0_passEnd_14 N (EC μ0 ro U S s)) := by
  unfold f_X0_passEnd_14 u_X0_passEnd_14
  exact im_ret rfl
def u_X0_passEnd_61 (U S N : Nat) (μ : CS) : Option (Unit × CS) :=
  some ((), μ)
theorem ue_u_X0_passEnd_61 {μ0 : BM} {ro U S : Nat} (W : Wd μ0 ro U S) {N : Nat} (s : CS) : IM μ0 ro U S id (u_X0_passEnd_61 U S N s) (f_X0_passEnd_61 N (EC μ0 ro U S s)) := by
  unfold f_X0_passEnd_61 u_X0_passEnd_61
  exact im_ret rfl
def u_X0_passEnd (U S N : Nat) (μ : CS) : Option (Unit × CS) :=
  if ¬ (μ.1 0 0 4) = 0 then
    u_X0_passEnd_14 U S N μ
  else
    if (μ.1 0 0 7) = 0 then
      (u_X0_kindAt U S N (μ.1 0 0 9) μ).bind fun q4 =>
      (u_X0_isEnd U S N q4.1 q4.2).bind fun q6 =>
      if ¬ q6.1 = 0 then
        if ¬ q4.1 = 0 then
          (some (qI q6.2 0 0 9 ((q6.2.1 0 0 9) + 1))).bind fun μ8 =>
          u_X0_passEnd_61 U S N μ8
        else
          (qZ q6.2 0 0 7 1).bind fun μ9 =>
          u_X0_passEnd_61 U S N μ9
      else
        (u_X0_refuse U S N q4.1 q6.2).bind fun q10 =>
        u_X0_passEnd_61 U S N q10.2
    else
      u_X0_passEnd_14 U S N μ
theorem ue_u_X0_passEnd {μ0 : BM} {ro U S : Nat} (W : Wd μ0 ro U S) {N : Nat} {a0f : Option Nat} (ea0 : a0f = (adr μ0 ro U S (0, 0, 0))) (s : CS) : IM μ0 ro U S id (u_X0_passEnd U S N s) (f_X0_passEnd N a0f (EC μ0 ro U S s)) := by
  unfold f_X0_passEnd u_X0_passEnd
  refine im_fI W (ik_0 U S) (by decide) rfl ea0 ?_
  refine im_if Iff.rfl (fun _ => ?_) (fun _ => ?_)
  · exact ue_u_X0_passEnd_14 W _
  · refine im_fI W (ik_0 U S) (by decide) rfl ea0 ?_
    refine im_if Iff.rfl (fun _ => ?_) (fun _ => ?_)
    · refine im_fI W (ik_0 U S) (by decide) rfl ea0 ?_
      refine im_ck W (ik_0 U S) ea0 fun b5 eb5 => ?_
      refine im_call (ue_u_X0_kindAt W eb5 _ _) fun q4 => ?_
      dsimp only [id]
      refine im_call (ue_u_X0_isEnd W _ _) fun q6 => ?_
      dsimp only [id]
      refine im_if Iff.rfl (fun _ => ?_) (fun _ => ?_)
      · refine im_if Iff.rfl (fun _ => ?_) (fun _ => ?_)
        · refine im_fI W (ik_0 U S) (by decide) rfl ea0 ?_
          refine im_pI W (ik_0 U S) (by decide) rfl ea0 _ ?_
          exact ue_u_X0_passEnd_61 W _
        · refine im_pZ W (ik_0 U S) (by decide) rfl ea0 _ fun μ9 => ?_
          exact ue_u_X0_passEnd_61 W _
      · refine im_ck W (ik_0 U S) ea0 fun b11 eb11 => ?_
        refine im_call (ue_u_X0_refuse W eb11 _ _) fun q10 => ?_
        dsimp only [id]
        exact ue_u_X0_passEnd_61 W _
    · exact ue_u_X0_passEnd_14 W _
def u_X0_passOver_72 (U S N : Nat) (μ : CS) : Option (Unit × CS) :=
  some ((), μ)
theorem ue_u_X0_passOver_72 {μ0 : BM} {ro U S : Nat} (W : Wd μ0 ro U S) {N : Nat} (s : CS) : IM μ0 ro U S id (u_X0_passOver_72 U S N s) (f_X0_passOver_72 N (EC μ0 ro U S s)) := by
  unfold f_X0_passOver_72 u_X0_passOver_72
  exact im_ret rfl
def uh_X0_passOver_29 (U S N : Nat) (k29 : Int32 → CS → Option (Unit × CS)) (a2 : Int32) (μ : CS) : Option (Unit × CS) :=
  if (μ.1 9 0 5) < a2 then
    u_X0_passOver_72 U S N μ
  else
    if ¬ (μ.1 0 0 7) = 0 then
      u_X0_passOver_72 U S N μ
    else
      if ¬ (μ.1 0 0 4) = 0 then
        u_X0_passOver_72 U S N μ
      else
        (u_X0_passLabels U S N μ).bind fun q5 =>
        (u_X0_passStatement U S N q5.2).bind fun q7 =>
        (u_X0_passEnd U S N q7.2).bind fun q9 =>
        k29 (a2 + 1) q9.2
theorem ue_uh_X0_passOver_29 {μ0 : BM} {ro U S : Nat} (W : Wd μ0 ro U S) {N : Nat} {k29 : (Option Nat) → Int32 → Mem → Option (Unit × Mem)} {k29' : Int32 → CS → Option (Unit × CS)} (hk29 : ∀ {ya0f : Option Nat} (eya0 : ya0f = (adr μ0 ro U S (0, 0, 0))) (ya2 : Int32) (s : CS), IM μ0 ro U S id (k29' ya2 s) (k29 ya0f ya2 (EC μ0 ro U S s))) {a0f : Option Nat} (ea0 : a0f = (adr μ0 ro U S (0, 0, 0))) (a2 : Int32) (s : CS) : IM μ0 ro U S id (uh_X0_passOver_29 U S N k29' a2 s) (H_X0_passOver_29 N k29 a0f a2 (EC μ0 ro U S s)) := by
  unfold H_X0_passOver_29 uh_X0_passOver_29
  refine im_fR W (ik_0 U S) (by decide) rfl ea0 fun v1 ev1 => ?_
  refine im_fI W (ik_9 U S) (by decide) rfl ev1 ?_
  refine im_if Iff.rfl (fun _ => ?_) (fun _ => ?_)
  · exact ue_u_X0_passOver_72 W _
  · refine im_fI W (ik_0 U S) (by decide) rfl ea0 ?_
    refine im_if Iff.rfl (fun _ => ?_) (fun _ => ?_)
    · exact ue_u_X0_passOver_72 W _
    · refine im_fI W (ik_0 U S) (by decide) rfl ea0 ?_
      refine im_if Iff.rfl (fun _ => ?_) (fun _ => ?_)
      · exact ue_u_X0_passOver_72 W _
      · refine im_ck W (ik_0 U S) ea0 fun b6 eb6 => ?_
        refine im_call (ue_u_X0_passLabels W eb6 _) fun q5 => ?_
        dsimp only [id]
        refine im_ck W (ik_0 U S) ea0 fun b8 eb8 => ?_
        refine im_call (ue_u_X0_passStatement W eb8 _) fun q7 => ?_
        dsimp only [id]
        refine im_ck W (ik_0 U S) ea0 fun b10 eb10 => ?_
        refine im_call (ue_u_X0_passEnd W eb10 _) fun q9 => ?_
        dsimp only [id]
        exact hk29 ea0 _ _
def ul_X0_passOver_29 (U S N : Nat)  : Nat → Int32 → CS → Option (Unit × CS)
  | 0 => fun _ _ => none
  | n + 1 => uh_X0_passOver_29 U S N (ul_X0_passOver_29 U S N n)
theorem ue_ul_X0_passOver_29 {μ0 : BM} {ro U S : Nat} (W : Wd μ0 ro U S) {N : Nat} : ∀ (n : Nat) {a0f : Option Nat} (ea0 : a0f = (adr μ0 ro U S (0, 0, 0))) (a2 : Int32) (s : CS), IM μ0 ro U S id (ul_X0_passOver_29 U S N n a2 s) (L_X0_passOver_29 N n a0f a2 (EC μ0 ro U S s)) := by
  intro n
  induction n with
  | zero => intros; exact im_none
  | succ n ih => intro a0f ea0 a2 s; exact ue_uh_X0_passOver_29 W ih ea0 _ _
def u_X0_passOver (U S N : Nat) (a1 : Int32) (μ : CS) : Option (Unit × CS) :=
  (qZ μ 0 0 6 a1).bind fun μ1 =>
  (qZ μ1 0 0 7 0).bind fun μ2 =>
  (qZ μ2 0 0 8 0).bind fun μ3 =>
  (some (qI μ3 0 0 9 0)).bind fun μ4 =>
  (some (qI μ4 0 0 10 128)).bind fun μ5 =>
  ul_X0_passOver_29 U S N N 0 μ5
theorem ue_u_X0_passOver {μ0 : BM} {ro U S : Nat} (W : Wd μ0 ro U S) {N : Nat} {a0f : Option Nat} (ea0 : a0f = (adr μ0 ro U S (0, 0, 0))) (a1 : Int32) (s : CS) : IM μ0 ro U S id (u_X0_passOver U S N a1 s) (f_X0_passOver N a0f a1 (EC μ0 ro U S s)) := by
  unfold f_X0_passOver u_X0_passOver
  refine im_pZ W (ik_0 U S) (by decide) rfl ea0 _ fun μ1 => ?_
  refine im_pZ W (ik_0 U S) (by decide) rfl ea0 _ fun μ2 => ?_
  refine im_pZ W (ik_0 U S) (by decide) rfl ea0 _ fun μ3 => ?_
  refine im_pI W (ik_0 U S) (by decide) rfl ea0 _ ?_
  refine im_pI W (ik_0 U S) (by decide) rfl ea0 _ ?_
  exact ue_ul_X0_passOver_29 W N ea0 _ _
def u_X0_close (U S N : Nat) (μ : CS) : Option (Int32 × CS) :=
  if (μ.1 0 0 4) = 0 then
    (vl 2 (μ.2.2.2.1 0 0 2)).bind fun v2 =>
    (vl 2 (μ.2.2.2.1 0 0 3)).bind fun v3 =>
    (some (qR μ 0 0 2 v3)).bind fun μ4 =>
    (some (qR μ4 0 0 3 v2)).bind fun μ5 =>
    (vl 2 (μ5.2.2.2.1 0 0 2)).bind fun v6 =>
    (v6).bind fun j1 =>
    some ((μ5.1 7 j1 1), μ5)
  else
    some ((-1), μ)
theorem ue_u_X0_close {μ0 : BM} {ro U S : Nat} (W : Wd μ0 ro U S) {N : Nat} {a0f : Option Nat} (ea0 : a0f = (adr μ0 ro U S (0, 0, 0))) (s : CS) : IM μ0 ro U S id (u_X0_close U S N s) (f_X0_close N a0f (EC μ0 ro U S s)) := by
  unfold f_X0_close u_X0_close
  refine im_fI W (ik_0 U S) (by decide) rfl ea0 ?_
  refine im_if Iff.rfl (fun _ => ?_) (fun _ => ?_)
  · refine im_fD3 W (ik_0 U S) (by decide) rfl ea0 fun v2 hv2 v2' ev2 => ?_
    refine im_fD3 W (ik_0 U S) (by decide) rfl ea0 fun v3 hv3 v3' ev3 => ?_
    refine im_pR3 W (ik_0 U S) (by decide) rfl ea0 (hv3) (ev3) ?_
    refine im_pR3 W (ik_0 U S) (by decide) rfl ea0 (hv2) (ev2) ?_
    refine im_fD3 W (ik_0 U S) (by decide) rfl ea0 fun v6 hv6 v6' ev6 => ?_
    refine im_der (ci := 7) (hv6) (ev6) fun j1 hj1 ej1 => ?_
    refine im_fI W (ik_7 hj1) (by decide) rfl ej1 ?_
    exact im_ret rfl
  · exact im_ret rfl
def u_X11_assemble (U S N : Nat) (μ : CS) : Option (Int32 × CS) :=
  (u_X0_open U S N (μ.1 11 0 1) μ).bind fun q4 =>
  (some (qI q4.2 11 0 1 0)).bind fun μ6 =>
  (u_X0_passOver U S N 0 μ6).bind fun q8 =>
  (u_X0_passOver U S N 1 q8.2).bind fun q11 =>
  (u_X0_close U S N q11.2).bind fun q14 =>
  some (q14.1, q14.2)
theorem ue_u_X11_assemble {μ0 : BM} {ro U S : Nat} (W : Wd μ0 ro U S) {N : Nat} {a0f : Option Nat} (ea0 : a0f = (adr μ0 ro U S (11, 0, 0))) (s : CS) : IM μ0 ro U S id (u_X11_assemble U S N s) (f_X11_assemble N a0f (EC μ0 ro U S s)) := by
  unfold f_X11_assemble u_X11_assemble
  refine im_fR W (ik_11 U S) (by decide) rfl ea0 fun v1 ev1 => ?_
  refine im_fR W (ik_11 U S) (by decide) rfl ea0 fun v2 ev2 => ?_
  refine im_fI W (ik_11 U S) (by decide) rfl ea0 ?_
  refine im_ck W (ik_0 U S) ev1 fun b5 eb5 => ?_
  refine im_call (ue_u_X0_open W eb5 ev2 _ _) fun q4 => ?_
  dsimp only [id]
  refine im_pI W (ik_11 U S) (by decide) rfl ea0 _ ?_
  refine im_fR W (ik_11 U S) (by decide) rfl ea0 fun v7 ev7 => ?_
  refine im_ck W (ik_0 U S) ev7 fun b9 eb9 => ?_
  refine im_call (ue_u_X0_passOver W eb9 _ _) fun q8 => ?_
  dsimp only [id]
  refine im_fR W (ik_11 U S) (by decide) rfl ea0 fun v10 ev10 => ?_
  refine im_ck W (ik_0 U S) ev10 fun b12 eb12 => ?_
  refine im_call (ue_u_X0_passOver W eb12 _ _) fun q11 => ?_
  dsimp only [id]
  refine im_fR W (ik_11 U S) (by decide) rfl ea0 fun v13 ev13 => ?_
  refine im_ck W (ik_0 U S) ev13 fun b15 eb15 => ?_
  refine im_call (ue_u_X0_close W eb15 _) fun q14 => ?_
  dsimp only [id]
  exact im_ret rfl
def u_X11_fault (U S N : Nat) (a1 : Int32) (μ : CS) : Option (Int32 × CS) :=
  if a1 = 0 then
    some ((μ.1 0 0 4), μ)
  else
    if a1 = 1 then
      some ((μ.1 0 0 5), μ)
    else
      some ((-1), μ)
theorem ue_u_X11_fault {μ0 : BM} {ro U S : Nat} (W : Wd μ0 ro U S) {N : Nat} {a0f : Option Nat} (ea0 : a0f = (adr μ0 ro U S (11, 0, 0))) (a1 : Int32) (s : CS) : IM μ0 ro U S id (u_X11_fault U S N a1 s) (f_X11_fault N a0f a1 (EC μ0 ro U S s)) := by
  unfold f_X11_fault u_X11_fault
  refine im_if Iff.rfl (fun _ => ?_) (fun _ => ?_)
  · refine im_fR W (ik_11 U S) (by decide) rfl ea0 fun v1 ev1 => ?_
    refine im_fI W (ik_0 U S) (by decide) rfl ev1 ?_
    exact im_ret rfl
  · refine im_if Iff.rfl (fun _ => ?_) (fun _ => ?_)
    · refine im_fR W (ik_11 U S) (by decide) rfl ea0 fun v3 ev3 => ?_
      refine im_fI W (ik_0 U S) (by decide) rfl ev3 ?_
      exact im_ret rfl
    · exact im_ret rfl
def u_X7_at_35 (U S N : Nat) (s0 : Int32) (μ : CS) : Option (Int32 × CS) :=
  some (s0, μ)
theorem ue_u_X7_at_35 {μ0 : BM} {ro U S : Nat} (W : Wd μ0 ro U S) {N : Nat} (s0 : Int32) (s : CS) : IM μ0 ro U S id (u_X7_at_35 U S N s0 s) (f_X7_at_35 N s0 (EC μ0 ro U S s)) := by
  unfold f_X7_at_35 u_X7_at_35
  exact im_ret rfl
def u_X7_at_21 (U S N : Nat) (μ : CS) : Option (Int32 × CS) :=
  u_X7_at_35 U S N ((-1)) μ
theorem ue_u_X7_at_21 {μ0 : BM} {ro U S : Nat} (W : Wd μ0 ro U S) {N : Nat} (s : CS) : IM μ0 ro U S id (u_X7_at_21 U S N s) (f_X7_at_21 N (EC μ0 ro U S s)) := by
  unfold f_X7_at_21 u_X7_at_21
  exact ue_u_X7_at_35 W _ _
def u_X7_at (U S N : Nat) (a0 : Nat) (a1 : Int32) (μ : CS) : Option (Int32 × CS) :=
  if a1 < 0 then
    u_X7_at_21 U S N μ
  else
    if (4096 : Int32) ≤ a1 then
      u_X7_at_21 U S N μ
    else
      (rH 4096 μ 7 a0 0 a1).bind fun v2 =>
      if ¬ v2 = (((-1)) : Int32) then
        (rH 4096 μ 7 a0 0 a1).bind fun v4 =>
        u_X7_at_35 U S N (v4 &&& 4095) μ
      else
        u_X7_at_21 U S N μ
theorem ue_u_X7_at {μ0 : BM} {ro U S : Nat} (W : Wd μ0 ro U S) {N : Nat} {a0 : Nat} {a0f : Option Nat} (ha0 : a0 < 2) (ea0 : a0f = (adr μ0 ro U S (7, a0, 0))) (a1 : Int32) (s : CS) : IM μ0 ro U S id (u_X7_at U S N a0 a1 s) (f_X7_at N a0f a1 (EC μ0 ro U S s)) := by
  unfold f_X7_at u_X7_at
  refine im_if Iff.rfl (fun _ => ?_) (fun _ => ?_)
  · exact ue_u_X7_at_21 W _
  · refine im_if Iff.rfl (fun _ => ?_) (fun _ => ?_)
    · exact ue_u_X7_at_21 W _
    · refine im_fR W (ik_7 ha0) (by decide) rfl ea0 fun v1 ev1 => ?_
      refine im_aI (n := 4096) W (ia_7_1 ha0) rfl rfl ev1 _ fun v2 => ?_
      refine im_if Iff.rfl (fun _ => ?_) (fun _ => ?_)
      · refine im_fR W (ik_7 ha0) (by decide) rfl ea0 fun v3 ev3 => ?_
        refine im_aI (n := 4096) W (ia_7_1 ha0) rfl rfl ev3 _ fun v4 => ?_
        exact ue_u_X7_at_35 W _ _
      · exact ue_u_X7_at_21 W _
def u_X11_made (U S N : Nat) (a1 : Int32) (μ : CS) : Option (Int32 × CS) :=
  (vl 2 (μ.2.2.2.1 0 0 2)).bind fun v2 =>
  (v2).bind fun j1 =>
  (u_X7_at U S N j1 a1 μ).bind fun q3 =>
  some (q3.1, q3.2)
theorem ue_u_X11_made {μ0 : BM} {ro U S : Nat} (W : Wd μ0 ro U S) {N : Nat} {a0f : Option Nat} (ea0 : a0f = (adr μ0 ro U S (11, 0, 0))) (a1 : Int32) (s : CS) : IM μ0 ro U S id (u_X11_made U S N a1 s) (f_X11_made N a0f a1 (EC μ0 ro U S s)) := by
  unfold f_X11_made u_X11_made
  refine im_fR W (ik_11 U S) (by decide) rfl ea0 fun v1 ev1 => ?_
  refine im_fD3 W (ik_0 U S) (by decide) rfl ev1 fun v2 hv2 v2' ev2 => ?_
  refine im_der (ci := 7) (hv2) (ev2) fun j1 hj1 ej1 => ?_
  refine im_ck W (ik_7 hj1) ej1 fun b4 eb4 => ?_
  refine im_call (ue_u_X7_at W hj1 eb4 _ _) fun q3 => ?_
  dsimp only [id]
  exact im_ret rfl
def u_X2_userAt_23 (U S N : Nat) (s0 : Option Nat) (μ : CS) : Option (Option Nat × CS) :=
  some (s0, μ)
theorem ue_u_X2_userAt_23 {μ0 : BM} {ro U S : Nat} (W : Wd μ0 ro U S) {N : Nat} {s0 : Option Nat} {s0f : Option Nat} (hs0 : vd U s0) (es0 : s0f = (Option.bind s0 fun b => adr μ0 ro U S (10, b, 0))) (s : CS) : IM μ0 ro U S (fun v : Option Nat => v.bind fun b => adr μ0 ro U S (10, b, 0)) (u_X2_userAt_23 U S N s0 s) (f_X2_userAt_23 N s0f (EC μ0 ro U S s)) := by
  unfold f_X2_userAt_23 u_X2_userAt_23
  exact im_ret (es0)
def u_X2_userAt_13 (U S N : Nat) (μ : CS) : Option (Option Nat × CS) :=
  u_X2_userAt_23 U S N none μ
theorem ue_u_X2_userAt_13 {μ0 : BM} {ro U S : Nat} (W : Wd μ0 ro U S) {N : Nat} (s : CS) : IM μ0 ro U S (fun v : Option Nat => v.bind fun b => adr μ0 ro U S (10, b, 0)) (u_X2_userAt_13 U S N s) (f_X2_userAt_13 N (EC μ0 ro U S s)) := by
  unfold f_X2_userAt_13 u_X2_userAt_13
  exact ue_u_X2_userAt_23 W (vd_n _) rfl _
def u_X2_userAt (U S N : Nat) (a1 : Int32) (μ : CS) : Option (Option Nat × CS) :=
  if a1 < 0 then
    u_X2_userAt_13 U S N μ
  else
    if a1 < (nI U) then
      (rQ U a1).bind fun v4 =>
      u_X2_userAt_23 U S N (some v4) μ
    else
      u_X2_userAt_13 U S N μ
theorem ue_u_X2_userAt {μ0 : BM} {ro U S : Nat} (W : Wd μ0 ro U S) {N : Nat} {a0f : Option Nat} (ea0 : a0f = (adr μ0 ro U S (2, 0, 0))) (a1 : Int32) (s : CS) : IM μ0 ro U S (fun v : Option Nat => v.bind fun b => adr μ0 ro U S (10, b, 0)) (u_X2_userAt U S N a1 s) (f_X2_userAt N a0f a1 (EC μ0 ro U S s)) := by
  unfold f_X2_userAt u_X2_userAt
  refine im_if Iff.rfl (fun _ => ?_) (fun _ => ?_)
  · exact ue_u_X2_userAt_13 W _
  · refine im_fR W (ik_2 U S) (by decide) rfl ea0 fun v1 ev1 => ?_
    refine im_l_us W ev1 ?_
    refine im_if Iff.rfl (fun _ => ?_) (fun _ => ?_)
    · refine im_fR W (ik_2 U S) (by decide) rfl ea0 fun v3 ev3 => ?_
      refine im_r_us W ev3 _ fun v4 hv4 v4' ev4 => ?_
      exact ue_u_X2_userAt_23 W (vd_s hv4) ev4 _
    · exact ue_u_X2_userAt_13 W _
def u_X10_hasStopped_23 (U S N : Nat) (s0 : Int32) (μ : CS) : Option (Int32 × CS) :=
  cZ s0 μ
theorem ue_u_X10_hasStopped_23 {μ0 : BM} {ro U S : Nat} (W : Wd μ0 ro U S) {N : Nat} (s0 : Int32) (s : CS) : IM μ0 ro U S id (u_X10_hasStopped_23 U S N s0 s) (f_X10_hasStopped_23 N s0 (EC μ0 ro U S s)) := by
  unfold f_X10_hasStopped_23 u_X10_hasStopped_23
  exact im_rZ _ _
def u_X10_hasStopped_18 (U S N : Nat) (μ : CS) : Option (Int32 × CS) :=
  u_X10_hasStopped_23 U S N 1 μ
theorem ue_u_X10_hasStopped_18 {μ0 : BM} {ro U S : Nat} (W : Wd μ0 ro U S) {N : Nat} (s : CS) : IM μ0 ro U S id (u_X10_hasStopped_18 U S N s) (f_X10_hasStopped_18 N (EC μ0 ro U S s)) := by
  unfold f_X10_hasStopped_18 u_X10_hasStopped_18
  exact ue_u_X10_hasStopped_23 W _ _
def u_X10_hasStopped (U S N : Nat) (a0 : Nat) (μ : CS) : Option (Int32 × CS) :=
  if (μ.1 10 a0 8) = (6 : Int32) then
    u_X10_hasStopped_18 U S N μ
  else
    if ¬ (μ.1 10 a0 8) = (7 : Int32) then
      u_X10_hasStopped_23 U S N 0 μ
    else
      u_X10_hasStopped_18 U S N μ
theorem ue_u_X10_hasStopped {μ0 : BM} {ro U S : Nat} (W : Wd μ0 ro U S) {N : Nat} {a0 : Nat} {a0f : Option Nat} (ha0 : a0 < U) (ea0 : a0f = (adr μ0 ro U S (10, a0, 0))) (s : CS) : IM μ0 ro U S id (u_X10_hasStopped U S N a0 s) (f_X10_hasStopped N a0f (EC μ0 ro U S s)) := by
  unfold f_X10_hasStopped u_X10_hasStopped
  refine im_fI W (ik_10 ha0) (by decide) rfl ea0 ?_
  refine im_if Iff.rfl (fun _ => ?_) (fun _ => ?_)
  · exact ue_u_X10_hasStopped_18 W _
  · refine im_fI W (ik_10 ha0) (by decide) rfl ea0 ?_
    refine im_if Iff.rfl (fun _ => ?_) (fun _ => ?_)
    · exact ue_u_X10_hasStopped_23 W _ _
    · exact ue_u_X10_hasStopped_18 W _
def u_X1_isMoving_20 (U S N : Nat) (s0 : Int32) (μ : CS) : Option (Int32 × CS) :=
  cZ s0 μ
theorem ue_u_X1_isMoving_20 {μ0 : BM} {ro U S : Nat} (W : Wd μ0 ro U S) {N : Nat} (s0 : Int32) (s : CS) : IM μ0 ro U S id (u_X1_isMoving_20 U S N s0 s) (f_X1_isMoving_20 N s0 (EC μ0 ro U S s)) := by
  unfold f_X1_isMoving_20 u_X1_isMoving_20
  exact im_rZ _ _
def u_X1_isMoving_19 (U S N : Nat) (μ : CS) : Option (Int32 × CS) :=
  u_X1_isMoving_20 U S N 0 μ
theorem ue_u_X1_isMoving_19 {μ0 : BM} {ro U S : Nat} (W : Wd μ0 ro U S) {N : Nat} (s : CS) : IM μ0 ro U S id (u_X1_isMoving_19 U S N s) (f_X1_isMoving_19 N (EC μ0 ro U S s)) := by
  unfold f_X1_isMoving_19 u_X1_isMoving_19
  exact ue_u_X1_isMoving_20 W _ _
def u_X1_isMoving (U S N : Nat) (a1 : Option Nat) (μ : CS) : Option (Int32 × CS) :=
  if (μ.1 1 0 0) = 0 then
    u_X1_isMoving_19 U S N μ
  else
    (vl U (μ.2.2.2.1 1 0 1)).bind fun v2 =>
    if ¬ v2 = a1 then
      u_X1_isMoving_19 U S N μ
    else
      u_X1_isMoving_20 U S N 1 μ
theorem ue_u_X1_isMoving {μ0 : BM} {ro U S : Nat} (W : Wd μ0 ro U S) {N : Nat} {a0f : Option Nat} (ea0 : a0f = (adr μ0 ro U S (1, 0, 0))) {a1 : Option Nat} {a1f : Option Nat} (ha1 : vd U a1) (ea1 : a1f = (Option.bind a1 fun b => adr μ0 ro U S (10, b, 0))) (s : CS) : IM μ0 ro U S id (u_X1_isMoving U S N a1 s) (f_X1_isMoving N a0f a1f (EC μ0 ro U S s)) := by
  unfold f_X1_isMoving u_X1_isMoving
  refine im_fI W (ik_1 U S) (by decide) rfl ea0 ?_
  refine im_if Iff.rfl (fun _ => ?_) (fun _ => ?_)
  · exact ue_u_X1_isMoving_19 W _
  · refine im_fD1 W (ik_1 U S) (by decide) rfl ea0 fun v2 hv2 v2' ev2 => ?_
    refine im_if (not_congr (im_eq 10 W (by simp) hv2 ev2 ha1 ea1)) (fun _ => ?_) (fun _ => ?_)
    · exact ue_u_X1_isMoving_19 W _
    · exact ue_u_X1_isMoving_20 W _ _
def u_X2_mayChange_30 (U S N : Nat) (s0 : Int32) (μ : CS) : Option (Int32 × CS) :=
  cZ s0 μ
theorem ue_u_X2_mayChange_30 {μ0 : BM} {ro U S : Nat} (W : Wd μ0 ro U S) {N : Nat} (s0 : Int32) (s : CS) : IM μ0 ro U S id (u_X2_mayChange_30 U S N s0 s) (f_X2_mayChange_30 N s0 (EC μ0 ro U S s)) := by
  unfold f_X2_mayChange_30 u_X2_mayChange_30
  exact im_rZ _ _
def u_X2_mayChange_29 (U S N : Nat) (μ : CS) : Option (Int32 × CS) :=
  u_X2_mayChange_30 U S N 0 μ
theorem ue_u_X2_mayChange_29 {μ0 : BM} {ro U S : Nat} (W : Wd μ0 ro U S) {N : Nat} (s : CS) : IM μ0 ro U S id (u_X2_mayChange_29 U S N s) (f_X2_mayChange_29 N (EC μ0 ro U S s)) := by
  unfold f_X2_mayChange_29 u_X2_mayChange_29
  exact ue_u_X2_mayChange_30 W _ _
def u_X2_mayChange_14 (U S N : Nat) (a1 : Option Nat) (μ : CS) : Option (Int32 × CS) :=
  (u_X1_isMoving U S N a1 μ).bind fun q2 =>
  if ¬ q2.1 = 0 then
    u_X2_mayChange_29 U S N q2.2
  else
    u_X2_mayChange_30 U S N 1 q2.2
theorem ue_u_X2_mayChange_14 {μ0 : BM} {ro U S : Nat} (W : Wd μ0 ro U S) {N : Nat} {a0f : Option Nat} (ea0 : a0f = (adr μ0 ro U S (2, 0, 0))) {a1 : Option Nat} {a1f : Option Nat} (ha1 : vd U a1) (ea1 : a1f = (Option.bind a1 fun b => adr μ0 ro U S (10, b, 0))) (s : CS) : IM μ0 ro U S id (u_X2_mayChange_14 U S N a1 s) (f_X2_mayChange_14 N a0f a1f (EC μ0 ro U S s)) := by
  unfold f_X2_mayChange_14 u_X2_mayChange_14
  refine im_fR W (ik_2 U S) (by decide) rfl ea0 fun v1 ev1 => ?_
  refine im_ck W (ik_1 U S) ev1 fun b3 eb3 => ?_
  refine im_call (ue_u_X1_isMoving W eb3 ha1 ea1 _) fun q2 => ?_
  dsimp only [id]
  refine im_if Iff.rfl (fun _ => ?_) (fun _ => ?_)
  · exact ue_u_X2_mayChange_29 W _
  · exact ue_u_X2_mayChange_30 W _ _
def u_X2_mayChange (U S N : Nat) (a1 : Option Nat) (μ : CS) : Option (Int32 × CS) :=
  (a1).bind fun j1 =>
  if (μ.1 10 j1 8) = 0 then
    u_X2_mayChange_14 U S N a1 μ
  else
    (u_X10_hasStopped U S N j1 μ).bind fun q2 =>
    if q2.1 = 0 then
      u_X2_mayChange_29 U S N q2.2
    else
      u_X2_mayChange_14 U S N a1 q2.2
theorem ue_u_X2_mayChange {μ0 : BM} {ro U S : Nat} (W : Wd μ0 ro U S) {N : Nat} {a0f : Option Nat} (ea0 : a0f = (adr μ0 ro U S (2, 0, 0))) {a1 : Option Nat} {a1f : Option Nat} (ha1 : vd U a1) (ea1 : a1f = (Option.bind a1 fun b => adr μ0 ro U S (10, b, 0))) (s : CS) : IM μ0 ro U S id (u_X2_mayChange U S N a1 s) (f_X2_mayChange N a0f a1f (EC μ0 ro U S s)) := by
  unfold f_X2_mayChange u_X2_mayChange
  refine im_der (ci := 10) (ha1) (ea1) fun j1 hj1 ej1 => ?_
  refine im_fI W (ik_10 hj1) (by decide) rfl ej1 ?_
  refine im_if Iff.rfl (fun _ => ?_) (fun _ => ?_)
  · exact ue_u_X2_mayChange_14 W ea0 ha1 ea1 _
  · refine im_ck W (ik_10 hj1) ej1 fun b3 eb3 => ?_
    refine im_call (ue_u_X10_hasStopped W hj1 eb3 _) fun q2 => ?_
    dsimp only [id]
    refine im_if Iff.rfl (fun _ => ?_) (fun _ => ?_)
    · exact ue_u_X2_mayChange_29 W _
    · exact ue_u_X2_mayChange_14 W ea0 ha1 ea1 _
def u_X8_release_15 (U S N : Nat) (a0 : Nat) (μ : CS) : Option (Unit × CS) :=
  (some (qR μ 8 a0 2 none)).bind fun μ1 =>
  (qZ μ1 8 a0 3 0).bind fun μ2 =>
  (qZ μ2 8 a0 4 0).bind fun μ3 =>
  some ((), μ3)
theorem ue_u_X8_release_15 {μ0 : BM} {ro U S : Nat} (W : Wd μ0 ro U S) {N : Nat} {a0 : Nat} {a0f : Option Nat} (ha0 : a0 < S) (ea0 : a0f = (adr μ0 ro U S (8, a0, 0))) (s : CS) : IM μ0 ro U S id (u_X8_release_15 U S N a0 s) (f_X8_release_15 N a0f (EC μ0 ro U S s)) := by
  unfold f_X8_release_15 u_X8_release_15
  refine im_pR1 W (ik_8 ha0) (by decide) rfl ea0 ((vd_n U)) (rfl) ?_
  refine im_pZ W (ik_8 ha0) (by decide) rfl ea0 _ fun μ2 => ?_
  refine im_pZ W (ik_8 ha0) (by decide) rfl ea0 _ fun μ3 => ?_
  exact im_ret rfl
def u_X8_release (U S N : Nat) (a0 : Nat) (μ : CS) : Option (Unit × CS) :=
  (vl U (μ.2.2.2.1 8 a0 2)).bind fun v1 =>
  if v1 = none then
    u_X8_release_15 U S N a0 μ
  else
    (vl U (μ.2.2.2.1 8 a0 2)).bind fun v2 =>
    (v2).bind fun j1 =>
    (some (qR μ 10 j1 19 none)).bind fun μ3 =>
    u_X8_release_15 U S N a0 μ3
theorem ue_u_X8_release {μ0 : BM} {ro U S : Nat} (W : Wd μ0 ro U S) {N : Nat} {a0 : Nat} {a0f : Option Nat} (ha0 : a0 < S) (ea0 : a0f = (adr μ0 ro U S (8, a0, 0))) (s : CS) : IM μ0 ro U S id (u_X8_release U S N a0 s) (f_X8_release N a0f (EC μ0 ro U S s)) := by
  unfold f_X8_release u_X8_release
  refine im_fD1 W (ik_8 ha0) (by decide) rfl ea0 fun v1 hv1 v1' ev1 => ?_
  refine im_if (im_nn 10 W (by simp) hv1 ev1) (fun _ => ?_) (fun _ => ?_)
  · exact ue_u_X8_release_15 W ha0 ea0 _
  · refine im_fD1 W (ik_8 ha0) (by decide) rfl ea0 fun v2 hv2 v2' ev2 => ?_
    refine im_der (ci := 10) (hv2) (ev2) fun j1 hj1 ej1 => ?_
    refine im_pR2 W (ik_10 hj1) (by decide) rfl ej1 ((vd_n U)) (rfl) ?_
    exact ue_u_X8_release_15 W ha0 ea0 _
def u_X7_copyTo_48 (U S N : Nat) (μ : CS) : Option (Unit × CS) :=
  some ((), μ)
theorem ue_u_X7_copyTo_48 {μ0 : BM} {ro U S : Nat} (W : Wd μ0 ro U S) {N : Nat} (s : CS) : IM μ0 ro U S id (u_X7_copyTo_48 U S N s) (f_X7_copyTo_48 N (EC μ0 ro U S s)) := by
  unfold f_X7_copyTo_48 u_X7_copyTo_48
  exact im_ret rfl
def u_X7_copyTo_41 (U S N : Nat) (k2 : Nat → Nat → Int32 → CS → Option (Unit × CS)) (a0 : Nat) (a1 : Nat) (a2 : Int32) (s0 : Nat) (s1 : Int32) (s2 : Int32) (μ : CS) : Option (Unit × CS) :=
  (wH 4096 μ 10 s0 1 s1 s2).bind fun μ1 =>
  k2 a0 a1 (a2 + 1) μ1
theorem ue_u_X7_copyTo_41 {μ0 : BM} {ro U S : Nat} (W : Wd μ0 ro U S) {N : Nat} {k2 : (Option Nat) → (Option Nat) → Int32 → Mem → Option (Unit × Mem)} {k2' : Nat → Nat → Int32 → CS → Option (Unit × CS)} (hk2 : ∀ {ya0 : Nat} {ya0f : Option Nat} (hya0 : ya0 < 2) (eya0 : ya0f = (adr μ0 ro U S (7, ya0, 0))) {ya1 : Nat} {ya1f : Option Nat} (hya1 : ya1 < U) (eya1 : ya1f = (adr μ0 ro U S (10, ya1, 2))) (ya2 : Int32) (s : CS), IM μ0 ro U S id (k2' ya0 ya1 ya2 s) (k2 ya0f ya1f ya2 (EC μ0 ro U S s))) {a0 : Nat} {a0f : Option Nat} (ha0 : a0 < 2) (ea0 : a0f = (adr μ0 ro U S (7, a0, 0))) {a1 : Nat} {a1f : Option Nat} (ha1 : a1 < U) (ea1 : a1f = (adr μ0 ro U S (10, a1, 2))) (a2 : Int32) {s0 : Nat} {s0f : Option Nat} (hs0 : s0 < U) (es0 : s0f = (adr μ0 ro U S (10, s0, 2))) (s1 : Int32) (s2 : Int32) (s : CS) : IM μ0 ro U S id (u_X7_copyTo_41 U S N k2' a0 a1 a2 s0 s1 s2 s) (f_X7_copyTo_41 N k2 a0f a1f a2 s0f s1 s2 (EC μ0 ro U S s)) := by
  unfold f_X7_copyTo_41 u_X7_copyTo_41
  refine im_bI (n := 4096) W (ia_10_2 hs0) rfl rfl es0 _ _ fun μ1 => ?_
  exact hk2 ha0 ea0 ha1 ea1 _ _
def uh_X7_copyTo_2 (U S N : Nat) (k2 : Nat → Nat → Int32 → CS → Option (Unit × CS)) (a0 : Nat) (a1 : Nat) (a2 : Int32) (μ : CS) : Option (Unit × CS) :=
  if (4096 : Int32) ≤ a2 then
    u_X7_copyTo_48 U S N μ
  else
    if (nI 4096) ≤ a2 then
      u_X7_copyTo_48 U S N μ
    else
      (rH 4096 μ 7 a0 0 a2).bind fun v3 =>
      if ¬ v3 = (((-1)) : Int32) then
        (rH 4096 μ 7 a0 0 a2).bind fun v5 =>
        u_X7_copyTo_41 U S N k2 a0 a1 a2 a1 a2 (v5 &&& 4095) μ
      else
        u_X7_copyTo_41 U S N k2 a0 a1 a2 a1 a2 0 μ
theorem ue_uh_X7_copyTo_2 {μ0 : BM} {ro U S : Nat} (W : Wd μ0 ro U S) {N : Nat} {k2 : (Option Nat) → (Option Nat) → Int32 → Mem → Option (Unit × Mem)} {k2' : Nat → Nat → Int32 → CS → Option (Unit × CS)} (hk2 : ∀ {ya0 : Nat} {ya0f : Option Nat} (hya0 : ya0 < 2) (eya0 : ya0f = (adr μ0 ro U S (7, ya0, 0))) {ya1 : Nat} {ya1f : Option Nat} (hya1 : ya1 < U) (eya1 : ya1f = (adr μ0 ro U S (10, ya1, 2))) (ya2 : Int32) (s : CS), IM μ0 ro U S id (k2' ya0 ya1 ya2 s) (k2 ya0f ya1f ya2 (EC μ0 ro U S s))) {a0 : Nat} {a0f : Option Nat} (ha0 : a0 < 2) (ea0 : a0f = (adr μ0 ro U S (7, a0, 0))) {a1 : Nat} {a1f : Option Nat} (ha1 : a1 < U) (ea1 : a1f = (adr μ0 ro U S (10, a1, 2))) (a2 : Int32) (s : CS) : IM μ0 ro U S id (uh_X7_copyTo_2 U S N k2' a0 a1 a2 s) (H_X7_copyTo_2 N k2 a0f a1f a2 (EC μ0 ro U S s)) := by
  unfold H_X7_copyTo_2 uh_X7_copyTo_2
  refine im_if Iff.rfl (fun _ => ?_) (fun _ => ?_)
  · exact ue_u_X7_copyTo_48 W _
  · refine im_al (n := 4096) W (ia_10_2 ha1) rfl rfl ea1 ?_
    refine im_if Iff.rfl (fun _ => ?_) (fun _ => ?_)
    · exact ue_u_X7_copyTo_48 W _
    · refine im_fR W (ik_7 ha0) (by decide) rfl ea0 fun v2 ev2 => ?_
      refine im_aI (n := 4096) W (ia_7_1 ha0) rfl rfl ev2 _ fun v3 => ?_
      refine im_if Iff.rfl (fun _ => ?_) (fun _ => ?_)
      · refine im_fR W (ik_7 ha0) (by decide) rfl ea0 fun v4 ev4 => ?_
        refine im_aI (n := 4096) W (ia_7_1 ha0) rfl rfl ev4 _ fun v5 => ?_
        exact ue_u_X7_copyTo_41 W hk2 ha0 ea0 ha1 ea1 _ ha1 ea1 _ _ _
      · exact ue_u_X7_copyTo_41 W hk2 ha0 ea0 ha1 ea1 _ ha1 ea1 _ _ _
def ul_X7_copyTo_2 (U S N : Nat)  : Nat → Nat → Nat → Int32 → CS → Option (Unit × CS)
  | 0 => fun _ _ _ _ => none
  | n + 1 => uh_X7_copyTo_2 U S N (ul_X7_copyTo_2 U S N n)
theorem ue_ul_X7_copyTo_2 {μ0 : BM} {ro U S : Nat} (W : Wd μ0 ro U S) {N : Nat} : ∀ (n : Nat) {a0 : Nat} {a0f : Option Nat} (ha0 : a0 < 2) (ea0 : a0f = (adr μ0 ro U S (7, a0, 0))) {a1 : Nat} {a1f : Option Nat} (ha1 : a1 < U) (ea1 : a1f = (adr μ0 ro U S (10, a1, 2))) (a2 : Int32) (s : CS), IM μ0 ro U S id (ul_X7_copyTo_2 U S N n a0 a1 a2 s) (L_X7_copyTo_2 N n a0f a1f a2 (EC μ0 ro U S s)) := by
  intro n
  induction n with
  | zero => intros; exact im_none
  | succ n ih => intro a0 a0f ha0 ea0 a1 a1f ha1 ea1 a2 s; exact ue_uh_X7_copyTo_2 W ih ha0 ea0 ha1 ea1 _ _
def u_X7_copyTo (U S N : Nat) (a0 : Nat) (a1 : Nat) (μ : CS) : Option (Unit × CS) :=
  ul_X7_copyTo_2 U S N N a0 a1 0 μ
theorem ue_u_X7_copyTo {μ0 : BM} {ro U S : Nat} (W : Wd μ0 ro U S) {N : Nat} {a0 : Nat} {a0f : Option Nat} (ha0 : a0 < 2) (ea0 : a0f = (adr μ0 ro U S (7, a0, 0))) {a1 : Nat} {a1f : Option Nat} (ha1 : a1 < U) (ea1 : a1f = (adr μ0 ro U S (10, a1, 2))) (s : CS) : IM μ0 ro U S id (u_X7_copyTo U S N a0 a1 s) (f_X7_copyTo N a0f a1f (EC μ0 ro U S s)) := by
  unfold f_X7_copyTo u_X7_copyTo
  exact ue_ul_X7_copyTo_2 W N ha0 ea0 ha1 ea1 _ _
def u_X10_clearRegisters (U S N : Nat) (a0 : Nat) (μ : CS) : Option (Unit × CS) :=
  (some (qI μ 10 a0 9 128)).bind fun μ1 =>
  (some (qI μ1 10 a0 10 0)).bind fun μ2 =>
  (some (qI μ2 10 a0 11 0)).bind fun μ3 =>
  (some (qI μ3 10 a0 12 0)).bind fun μ4 =>
  some ((), μ4)
theorem ue_u_X10_clearRegisters {μ0 : BM} {ro U S : Nat} (W : Wd μ0 ro U S) {N : Nat} {a0 : Nat} {a0f : Option Nat} (ha0 : a0 < U) (ea0 : a0f = (adr μ0 ro U S (10, a0, 0))) (s : CS) : IM μ0 ro U S id (u_X10_clearRegisters U S N a0 s) (f_X10_clearRegisters N a0f (EC μ0 ro U S s)) := by
  unfold f_X10_clearRegisters u_X10_clearRegisters
  refine im_pI W (ik_10 ha0) (by decide) rfl ea0 _ ?_
  refine im_pI W (ik_10 ha0) (by decide) rfl ea0 _ ?_
  refine im_pI W (ik_10 ha0) (by decide) rfl ea0 _ ?_
  refine im_pI W (ik_10 ha0) (by decide) rfl ea0 _ ?_
  exact im_ret rfl
def u_X2_load_14 (U S N : Nat) (a1 : Option Nat) (a2 : Option Nat) (μ : CS) : Option (Unit × CS) :=
  (a1).bind fun j1 =>
  (a2).bind fun j2 =>
  (u_X7_copyTo U S N j2 j1 μ).bind fun q2 =>
  (u_X10_clearRegisters U S N j1 q2.2).bind fun q4 =>
  (some (qI q4.2 10 j1 8 6)).bind fun μ6 =>
  some ((), μ6)
theorem ue_u_X2_load_14 {μ0 : BM} {ro U S : Nat} (W : Wd μ0 ro U S) {N : Nat} {a1 : Option Nat} {a1f : Option Nat} (ha1 : vd U a1) (ea1 : a1f = (Option.bind a1 fun b => adr μ0 ro U S (10, b, 0))) {a2 : Option Nat} {a2f : Option Nat} (ha2 : vd 2 a2) (ea2 : a2f = (Option.bind a2 fun b => adr μ0 ro U S (7, b, 0))) (s : CS) : IM μ0 ro U S id (u_X2_load_14 U S N a1 a2 s) (f_X2_load_14 N a1f a2f (EC μ0 ro U S s)) := by
  unfold f_X2_load_14 u_X2_load_14
  refine im_der (ci := 10) (ha1) (ea1) fun j1 hj1 ej1 => ?_
  refine im_fR W (ik_10 hj1) (by decide) rfl ej1 fun v1 ev1 => ?_
  refine im_der (ci := 7) (ha2) (ea2) fun j2 hj2 ej2 => ?_
  refine im_ck W (ik_7 hj2) ej2 fun b3 eb3 => ?_
  refine im_call (ue_u_X7_copyTo W hj2 eb3 hj1 ev1 _) fun q2 => ?_
  dsimp only [id]
  refine im_ck W (ik_10 hj1) ej1 fun b5 eb5 => ?_
  refine im_call (ue_u_X10_clearRegisters W hj1 eb5 _) fun q4 => ?_
  dsimp only [id]
  refine im_pI W (ik_10 hj1) (by decide) rfl ej1 _ ?_
  exact im_ret rfl
def u_X2_load (U S N : Nat) (a1 : Option Nat) (a2 : Option Nat) (μ : CS) : Option (Unit × CS) :=
  (a1).bind fun j1 =>
  (vl S (μ.2.2.2.1 10 j1 19)).bind fun v1 =>
  if v1 = none then
    u_X2_load_14 U S N a1 a2 μ
  else
    (vl S (μ.2.2.2.1 10 j1 19)).bind fun v2 =>
    (v2).bind fun j2 =>
    (u_X8_release U S N j2 μ).bind fun q3 =>
    u_X2_load_14 U S N a1 a2 q3.2
theorem ue_u_X2_load {μ0 : BM} {ro U S : Nat} (W : Wd μ0 ro U S) {N : Nat} {a0f : Option Nat} (ea0 : a0f = (adr μ0 ro U S (2, 0, 0))) {a1 : Option Nat} {a1f : Option Nat} (ha1 : vd U a1) (ea1 : a1f = (Option.bind a1 fun b => adr μ0 ro U S (10, b, 0))) {a2 : Option Nat} {a2f : Option Nat} (ha2 : vd 2 a2) (ea2 : a2f = (Option.bind a2 fun b => adr μ0 ro U S (7, b, 0))) (s : CS) : IM μ0 ro U S id (u_X2_load U S N a1 a2 s) (f_X2_load N a0f a1f a2f (EC μ0 ro U S s)) := by
  unfold f_X2_load u_X2_load
  refine im_der (ci := 10) (ha1) (ea1) fun j1 hj1 ej1 => ?_
  refine im_fD2 W (ik_10 hj1) (by decide) rfl ej1 fun v1 hv1 v1' ev1 => ?_
  refine im_if (im_nn 8 W (by simp) hv1 ev1) (fun _ => ?_) (fun _ => ?_)
  · exact ue_u_X2_load_14 W ha1 ea1 ha2 ea2 _
  · refine im_fD2 W (ik_10 hj1) (by decide) rfl ej1 fun v2 hv2 v2' ev2 => ?_
    refine im_der (ci := 8) (hv2) (ev2) fun j2 hj2 ej2 => ?_
    refine im_ck W (ik_8 hj2) ej2 fun b4 eb4 => ?_
    refine im_call (ue_u_X8_release W hj2 eb4 _) fun q3 => ?_
    dsimp only [id]
    exact ue_u_X2_load_14 W ha1 ea1 ha2 ea2 _
def u_X11_mount_24 (U S N : Nat) (μ : CS) : Option (Int32 × CS) :=
  cZ 0 μ
theorem ue_u_X11_mount_24 {μ0 : BM} {ro U S : Nat} (W : Wd μ0 ro U S) {N : Nat} (s : CS) : IM μ0 ro U S id (u_X11_mount_24 U S N s) (f_X11_mount_24 N (EC μ0 ro U S s)) := by
  unfold f_X11_mount_24 u_X11_mount_24
  exact im_rZ _ _
def u_X11_mount (U S N : Nat) (a1 : Int32) (μ : CS) : Option (Int32 × CS) :=
  (u_X2_userAt U S N a1 μ).bind fun q2 =>
  (vl U q2.1).bind fun _ =>
  if q2.1 = none then
    u_X11_mount_24 U S N q2.2
  else
    (u_X2_mayChange U S N q2.1 q2.2).bind fun q5 =>
    if ¬ q5.1 = 0 then
      (vl 2 (q5.2.2.2.2.1 0 0 2)).bind fun v9 =>
      (u_X2_load U S N q2.1 v9 q5.2).bind fun q10 =>
      cZ 1 q10.2
    else
      u_X11_mount_24 U S N q5.2
theorem ue_u_X11_mount {μ0 : BM} {ro U S : Nat} (W : Wd μ0 ro U S) {N : Nat} {a0f : Option Nat} (ea0 : a0f = (adr μ0 ro U S (11, 0, 0))) (a1 : Int32) (s : CS) : IM μ0 ro U S id (u_X11_mount U S N a1 s) (f_X11_mount N a0f a1 (EC μ0 ro U S s)) := by
  unfold f_X11_mount u_X11_mount
  refine im_fR W (ik_11 U S) (by decide) rfl ea0 fun v1 ev1 => ?_
  refine im_ck W (ik_2 U S) ev1 fun b3 eb3 => ?_
  refine im_call (ue_u_X2_userAt W eb3 _ _) fun q2 => ?_
  dsimp only [id]
  refine im_vl fun hq2 => ?_
  refine im_if (im_nn 10 W (by simp) hq2 rfl) (fun _ => ?_) (fun _ => ?_)
  · exact ue_u_X11_mount_24 W _
  · refine im_fR W (ik_11 U S) (by decide) rfl ea0 fun v4 ev4 => ?_
    refine im_ck W (ik_2 U S) ev4 fun b6 eb6 => ?_
    refine im_call (ue_u_X2_mayChange W eb6 hq2 rfl _) fun q5 => ?_
    dsimp only [id]
    refine im_if Iff.rfl (fun _ => ?_) (fun _ => ?_)
    · refine im_fR W (ik_11 U S) (by decide) rfl ea0 fun v7 ev7 => ?_
      refine im_fR W (ik_11 U S) (by decide) rfl ea0 fun v8 ev8 => ?_
      refine im_fD3 W (ik_0 U S) (by decide) rfl ev8 fun v9 hv9 v9' ev9 => ?_
      refine im_ck W (ik_2 U S) ev7 fun b11 eb11 => ?_
      refine im_call (ue_u_X2_load W eb11 hq2 rfl hv9 ev9 _) fun q10 => ?_
      dsimp only [id]
      exact im_rZ _ _
    · exact ue_u_X11_mount_24 W _
def u_X11_isWord_16 (U S N : Nat) (s0 : Int32) (μ : CS) : Option (Int32 × CS) :=
  cZ s0 μ
theorem ue_u_X11_isWord_16 {μ0 : BM} {ro U S : Nat} (W : Wd μ0 ro U S) {N : Nat} (s0 : Int32) (s : CS) : IM μ0 ro U S id (u_X11_isWord_16 U S N s0 s) (f_X11_isWord_16 N s0 (EC μ0 ro U S s)) := by
  unfold f_X11_isWord_16 u_X11_isWord_16
  exact im_rZ _ _
def u_X11_isWord_15 (U S N : Nat) (μ : CS) : Option (Int32 × CS) :=
  u_X11_isWord_16 U S N 0 μ
theorem ue_u_X11_isWord_15 {μ0 : BM} {ro U S : Nat} (W : Wd μ0 ro U S) {N : Nat} (s : CS) : IM μ0 ro U S id (u_X11_isWord_15 U S N s) (f_X11_isWord_15 N (EC μ0 ro U S s)) := by
  unfold f_X11_isWord_15 u_X11_isWord_15
  exact ue_u_X11_isWord_16 W _ _
def u_X11_isWord (U S N : Nat) (a0 : Int32) (μ : CS) : Option (Int32 × CS) :=
  if a0 < 0 then
    u_X11_isWord_15 U S N μ
  else
    if (4096 : Int32) ≤ a0 then
      u_X11_isWord_15 U S N μ
    else
      u_X11_isWord_16 U S N 1 μ
theorem ue_u_X11_isWord {μ0 : BM} {ro U S : Nat} (W : Wd μ0 ro U S) {N : Nat} (a0 : Int32) (s : CS) : IM μ0 ro U S id (u_X11_isWord U S N a0 s) (f_X11_isWord N a0 (EC μ0 ro U S s)) := by
  unfold f_X11_isWord u_X11_isWord
  refine im_if Iff.rfl (fun _ => ?_) (fun _ => ?_)
  · exact ue_u_X11_isWord_15 W _
  · refine im_if Iff.rfl (fun _ => ?_) (fun _ => ?_)
    · exact ue_u_X11_isWord_15 W _
    · exact ue_u_X11_isWord_16 W _ _
def u_X5_append_32 (U S N : Nat) (μ : CS) : Option (Unit × CS) :=
  some ((), μ)
theorem ue_u_X5_append_32 {μ0 : BM} {ro U S : Nat} (W : Wd μ0 ro U S) {N : Nat} (s : CS) : IM μ0 ro U S id (u_X5_append_32 U S N s) (f_X5_append_32 N (EC μ0 ro U S s)) := by
  unfold f_X5_append_32 u_X5_append_32
  exact im_ret rfl
def u_X5_append (U S N : Nat) (a1 : Option Nat) (μ : CS) : Option (Unit × CS) :=
  if (nI U) ≤ (μ.1 5 0 1) then
    u_X5_append_32 U S N μ
  else
    (wU U μ (μ.1 5 0 1) a1).bind fun μ6 =>
    (some (qI μ6 5 0 1 ((μ6.1 5 0 1) + 1))).bind fun μ8 =>
    u_X5_append_32 U S N μ8
theorem ue_u_X5_append {μ0 : BM} {ro U S : Nat} (W : Wd μ0 ro U S) {N : Nat} {a0f : Option Nat} (ea0 : a0f = (adr μ0 ro U S (5, 0, 0))) {a1 : Option Nat} {a1f : Option Nat} (ha1 : vd U a1) (ea1 : a1f = (Option.bind a1 fun b => adr μ0 ro U S (10, b, 0))) (s : CS) : IM μ0 ro U S id (u_X5_append U S N a1 s) (f_X5_append N a0f a1f (EC μ0 ro U S s)) := by
  unfold f_X5_append u_X5_append
  refine im_fI W (ik_5 U S) (by decide) rfl ea0 ?_
  refine im_fR W (ik_5 U S) (by decide) rfl ea0 fun v2 ev2 => ?_
  refine im_l_qu W ev2 ?_
  refine im_if Iff.rfl (fun _ => ?_) (fun _ => ?_)
  · exact ue_u_X5_append_32 W _
  · refine im_fR W (ik_5 U S) (by decide) rfl ea0 fun v4 ev4 => ?_
    refine im_fI W (ik_5 U S) (by decide) rfl ea0 ?_
    refine im_w_qu W ev4 (ha1) (ea1) _ fun μ6 => ?_
    refine im_fI W (ik_5 U S) (by decide) rfl ea0 ?_
    refine im_pI W (ik_5 U S) (by decide) rfl ea0 _ ?_
    exact ue_u_X5_append_32 W _
def u_X2_makeReady (U S N : Nat) (a1 : Option Nat) (μ : CS) : Option (Unit × CS) :=
  (a1).bind fun j1 =>
  (some (qI μ 10 j1 8 1)).bind fun μ1 =>
  (u_X5_append U S N a1 μ1).bind fun q3 =>
  some ((), q3.2)
theorem ue_u_X2_makeReady {μ0 : BM} {ro U S : Nat} (W : Wd μ0 ro U S) {N : Nat} {a0f : Option Nat} (ea0 : a0f = (adr μ0 ro U S (2, 0, 0))) {a1 : Option Nat} {a1f : Option Nat} (ha1 : vd U a1) (ea1 : a1f = (Option.bind a1 fun b => adr μ0 ro U S (10, b, 0))) (s : CS) : IM μ0 ro U S id (u_X2_makeReady U S N a1 s) (f_X2_makeReady N a0f a1f (EC μ0 ro U S s)) := by
  unfold f_X2_makeReady u_X2_makeReady
  refine im_der (ci := 10) (ha1) (ea1) fun j1 hj1 ej1 => ?_
  refine im_pI W (ik_10 hj1) (by decide) rfl ej1 _ ?_
  refine im_fR W (ik_2 U S) (by decide) rfl ea0 fun v2 ev2 => ?_
  refine im_ck W (ik_5 U S) ev2 fun b4 eb4 => ?_
  refine im_call (ue_u_X5_append W eb4 ha1 ea1 _) fun q3 => ?_
  dsimp only [id]
  exact im_ret rfl
def u_X11_begin_27 (U S N : Nat) (μ : CS) : Option (Int32 × CS) :=
  cZ 0 μ
theorem ue_u_X11_begin_27 {μ0 : BM} {ro U S : Nat} (W : Wd μ0 ro U S) {N : Nat} (s : CS) : IM μ0 ro U S id (u_X11_begin_27 U S N s) (f_X11_begin_27 N (EC μ0 ro U S s)) := by
  unfold f_X11_begin_27 u_X11_begin_27
  exact im_rZ _ _
def u_X11_begin (U S N : Nat) (a1 : Int32) (a2 : Int32) (μ : CS) : Option (Int32 × CS) :=
  (u_X2_userAt U S N a1 μ).bind fun q2 =>
  (vl U q2.1).bind fun _ =>
  if q2.1 = none then
    u_X11_begin_27 U S N q2.2
  else
    (u_X11_isWord U S N a2 q2.2).bind fun q4 =>
    if q4.1 = 0 then
      u_X11_begin_27 U S N q4.2
    else
      (q2.1).bind fun j1 =>
      (u_X10_hasStopped U S N j1 q4.2).bind fun q5 =>
      if ¬ q5.1 = 0 then
        (some (qI q5.2 10 j1 9 a2)).bind fun μ7 =>
        (u_X2_makeReady U S N q2.1 μ7).bind fun q9 =>
        cZ 1 q9.2
      else
        u_X11_begin_27 U S N q5.2
theorem ue_u_X11_begin {μ0 : BM} {ro U S : Nat} (W : Wd μ0 ro U S) {N : Nat} {a0f : Option Nat} (ea0 : a0f = (adr μ0 ro U S (11, 0, 0))) (a1 : Int32) (a2 : Int32) (s : CS) : IM μ0 ro U S id (u_X11_begin U S N a1 a2 s) (f_X11_begin N a0f a1 a2 (EC μ0 ro U S s)) := by
  unfold f_X11_begin u_X11_begin
  refine im_fR W (ik_11 U S) (by decide) rfl ea0 fun v1 ev1 => ?_
  refine im_ck W (ik_2 U S) ev1 fun b3 eb3 => ?_
  refine im_call (ue_u_X2_userAt W eb3 _ _) fun q2 => ?_
  dsimp only [id]
  refine im_vl fun hq2 => ?_
  refine im_if (im_nn 10 W (by simp) hq2 rfl) (fun _ => ?_) (fun _ => ?_)
  · exact ue_u_X11_begin_27 W _
  · refine im_call (ue_u_X11_isWord W _ _) fun q4 => ?_
    dsimp only [id]
    refine im_if Iff.rfl (fun _ => ?_) (fun _ => ?_)
    · exact ue_u_X11_begin_27 W _
    · refine im_der (ci := 10) (hq2) (rfl) fun j1 hj1 ej1 => ?_
      refine im_ck W (ik_10 hj1) ej1 fun b6 eb6 => ?_
      refine im_call (ue_u_X10_hasStopped W hj1 eb6 _) fun q5 => ?_
      dsimp only [id]
      refine im_if Iff.rfl (fun _ => ?_) (fun _ => ?_)
      · refine im_pI W (ik_10 hj1) (by decide) rfl ej1 _ ?_
        refine im_fR W (ik_11 U S) (by decide) rfl ea0 fun v8 ev8 => ?_
        refine im_ck W (ik_2 U S) ev8 fun b10 eb10 => ?_
        refine im_call (ue_u_X2_makeReady W eb10 hq2 rfl _) fun q9 => ?_
        dsimp only [id]
        exact im_rZ _ _
      · exact ue_u_X11_begin_27 W _
def u_X10_mayBeHalted_37 (U S N : Nat) (s0 : Int32) (μ : CS) : Option (Int32 × CS) :=
  cZ s0 μ
theorem ue_u_X10_mayBeHalted_37 {μ0 : BM} {ro U S : Nat} (W : Wd μ0 ro U S) {N : Nat} (s0 : Int32) (s : CS) : IM μ0 ro U S id (u_X10_mayBeHalted_37 U S N s0 s) (f_X10_mayBeHalted_37 N s0 (EC μ0 ro U S s)) := by
  unfold f_X10_mayBeHalted_37 u_X10_mayBeHalted_37
  exact im_rZ _ _
def u_X10_mayBeHalted_32 (U S N : Nat) (μ : CS) : Option (Int32 × CS) :=
  u_X10_mayBeHalted_37 U S N 1 μ
theorem ue_u_X10_mayBeHalted_32 {μ0 : BM} {ro U S : Nat} (W : Wd μ0 ro U S) {N : Nat} (s : CS) : IM μ0 ro U S id (u_X10_mayBeHalted_32 U S N s) (f_X10_mayBeHalted_32 N (EC μ0 ro U S s)) := by
  unfold f_X10_mayBeHalted_32 u_X10_mayBeHalted_32
  exact ue_u_X10_mayBeHalted_37 W _ _
def u_X10_mayBeHalted (U S N : Nat) (a0 : Nat) (μ : CS) : Option (Int32 × CS) :=
  if (μ.1 10 a0 8) = (1 : Int32) then
    u_X10_mayBeHalted_32 U S N μ
  else
    if (μ.1 10 a0 8) = (4 : Int32) then
      u_X10_mayBeHalted_32 U S N μ
    else
      if (μ.1 10 a0 8) = (2 : Int32) then
        u_X10_mayBeHalted_32 U S N μ
      else
        if ¬ (μ.1 10 a0 8) = (3 : Int32) then
          u_X10_mayBeHalted_37 U S N 0 μ
        else
          u_X10_mayBeHalted_32 U S N μ
theorem ue_u_X10_mayBeHalted {μ0 : BM} {ro U S : Nat} (W : Wd μ0 ro U S) {N : Nat} {a0 : Nat} {a0f : Option Nat} (ha0 : a0 < U) (ea0 : a0f = (adr μ0 ro U S (10, a0, 0))) (s : CS) : IM μ0 ro U S id (u_X10_mayBeHalted U S N a0 s) (f_X10_mayBeHalted N a0f (EC μ0 ro U S s)) := by
  unfold f_X10_mayBeHalted u_X10_mayBeHalted
  refine im_fI W (ik_10 ha0) (by decide) rfl ea0 ?_
  refine im_if Iff.rfl (fun _ => ?_) (fun _ => ?_)
  · exact ue_u_X10_mayBeHalted_32 W _
  · refine im_fI W (ik_10 ha0) (by decide) rfl ea0 ?_
    refine im_if Iff.rfl (fun _ => ?_) (fun _ => ?_)
    · exact ue_u_X10_mayBeHalted_32 W _
    · refine im_fI W (ik_10 ha0) (by decide) rfl ea0 ?_
      refine im_if Iff.rfl (fun _ => ?_) (fun _ => ?_)
      · exact ue_u_X10_mayBeHalted_32 W _
      · refine im_fI W (ik_10 ha0) (by decide) rfl ea0 ?_
        refine im_if Iff.rfl (fun _ => ?_) (fun _ => ?_)
        · exact ue_u_X10_mayBeHalted_37 W _ _
        · exact ue_u_X10_mayBeHalted_32 W _
def uh_X5_placeOf_2 (U S N : Nat) (k2 : (Option Nat) → Int32 → CS → Option (Int32 × CS)) (a1 : Option Nat) (a2 : Int32) (μ : CS) : Option (Int32 × CS) :=
  if (μ.1 5 0 1) ≤ a2 then
    some ((-1), μ)
  else
    ((rU U μ a2).bind (vl U)).bind fun v3 =>
    if ¬ v3 = a1 then
      k2 a1 (a2 + 1) μ
    else
      some (a2, μ)
theorem ue_uh_X5_placeOf_2 {μ0 : BM} {ro U S : Nat} (W : Wd μ0 ro U S) {N : Nat} {k2 : (Option Nat) → (Option Nat) → Int32 → Mem → Option (Int32 × Mem)} {k2' : (Option Nat) → Int32 → CS → Option (Int32 × CS)} (hk2 : ∀ {ya0f : Option Nat} (eya0 : ya0f = (adr μ0 ro U S (5, 0, 0))) {ya1 : Option Nat} {ya1f : Option Nat} (hya1 : vd U ya1) (eya1 : ya1f = (Option.bind ya1 fun b => adr μ0 ro U S (10, b, 0))) (ya2 : Int32) (s : CS), IM μ0 ro U S id (k2' ya1 ya2 s) (k2 ya0f ya1f ya2 (EC μ0 ro U S s))) {a0f : Option Nat} (ea0 : a0f = (adr μ0 ro U S (5, 0, 0))) {a1 : Option Nat} {a1f : Option Nat} (ha1 : vd U a1) (ea1 : a1f = (Option.bind a1 fun b => adr μ0 ro U S (10, b, 0))) (a2 : Int32) (s : CS) : IM μ0 ro U S id (uh_X5_placeOf_2 U S N k2' a1 a2 s) (H_X5_placeOf_2 N k2 a0f a1f a2 (EC μ0 ro U S s)) := by
  unfold H_X5_placeOf_2 uh_X5_placeOf_2
  refine im_fI W (ik_5 U S) (by decide) rfl ea0 ?_
  refine im_if Iff.rfl (fun _ => ?_) (fun _ => ?_)
  · exact im_ret rfl
  · refine im_fR W (ik_5 U S) (by decide) rfl ea0 fun v2 ev2 => ?_
    refine im_r_qu W ev2 _ fun v3 hv3 v3' ev3 => ?_
    refine im_if (not_congr (im_eq 10 W (by simp) hv3 ev3 ha1 ea1)) (fun _ => ?_) (fun _ => ?_)
    · exact hk2 ea0 ha1 ea1 _ _
    · exact im_ret rfl
def ul_X5_placeOf_2 (U S N : Nat)  : Nat → (Option Nat) → Int32 → CS → Option (Int32 × CS)
  | 0 => fun _ _ _ => none
  | n + 1 => uh_X5_placeOf_2 U S N (ul_X5_placeOf_2 U S N n)
theorem ue_ul_X5_placeOf_2 {μ0 : BM} {ro U S : Nat} (W : Wd μ0 ro U S) {N : Nat} : ∀ (n : Nat) {a0f : Option Nat} (ea0 : a0f = (adr μ0 ro U S (5, 0, 0))) {a1 : Option Nat} {a1f : Option Nat} (ha1 : vd U a1) (ea1 : a1f = (Option.bind a1 fun b => adr μ0 ro U S (10, b, 0))) (a2 : Int32) (s : CS), IM μ0 ro U S id (ul_X5_placeOf_2 U S N n a1 a2 s) (L_X5_placeOf_2 N n a0f a1f a2 (EC μ0 ro U S s)) := by
  intro n
  induction n with
  | zero => intros; exact im_none
  | succ n ih => intro a0f ea0 a1 a1f ha1 ea1 a2 s; exact ue_uh_X5_placeOf_2 W ih ea0 ha1 ea1 _ _
def u_X5_placeOf (U S N : Nat) (a1 : Option Nat) (μ : CS) : Option (Int32 × CS) :=
  ul_X5_placeOf_2 U S N N a1 0 μ
theorem ue_u_X5_placeOf {μ0 : BM} {ro U S : Nat} (W : Wd μ0 ro U S) {N : Nat} {a0f : Option Nat} (ea0 : a0f = (adr μ0 ro U S (5, 0, 0))) {a1 : Option Nat} {a1f : Option Nat} (ha1 : vd U a1) (ea1 : a1f = (Option.bind a1 fun b => adr μ0 ro U S (10, b, 0))) (s : CS) : IM μ0 ro U S id (u_X5_placeOf U S N a1 s) (f_X5_placeOf N a0f a1f (EC μ0 ro U S s)) := by
  unfold f_X5_placeOf u_X5_placeOf
  exact ue_ul_X5_placeOf_2 W N ea0 ha1 ea1 _ _
def uh_X5_remove_14 (U S N : Nat) (k14 : Int32 → CS → Option (Unit × CS)) (a3 : Int32) (μ : CS) : Option (Unit × CS) :=
  if (μ.1 5 0 1) ≤ (a3 + 1) then
    (some (qI μ 5 0 1 ((μ.1 5 0 1) - 1))).bind fun μ3 =>
    (wU U μ3 (μ3.1 5 0 1) none).bind fun μ6 =>
    some ((), μ6)
  else
    ((rU U μ (a3 + 1)).bind (vl U)).bind fun v9 =>
    (wU U μ a3 v9).bind fun μ10 =>
    k14 (a3 + 1) μ10
theorem ue_uh_X5_remove_14 {μ0 : BM} {ro U S : Nat} (W : Wd μ0 ro U S) {N : Nat} {k14 : (Option Nat) → Int32 → Mem → Option (Unit × Mem)} {k14' : Int32 → CS → Option (Unit × CS)} (hk14 : ∀ {ya0f : Option Nat} (eya0 : ya0f = (adr μ0 ro U S (5, 0, 0))) (ya3 : Int32) (s : CS), IM μ0 ro U S id (k14' ya3 s) (k14 ya0f ya3 (EC μ0 ro U S s))) {a0f : Option Nat} (ea0 : a0f = (adr μ0 ro U S (5, 0, 0))) (a3 : Int32) (s : CS) : IM μ0 ro U S id (uh_X5_remove_14 U S N k14' a3 s) (H_X5_remove_14 N k14 a0f a3 (EC μ0 ro U S s)) := by
  unfold H_X5_remove_14 uh_X5_remove_14
  refine im_fI W (ik_5 U S) (by decide) rfl ea0 ?_
  refine im_if Iff.rfl (fun _ => ?_) (fun _ => ?_)
  · refine im_fI W (ik_5 U S) (by decide) rfl ea0 ?_
    refine im_pI W (ik_5 U S) (by decide) rfl ea0 _ ?_
    refine im_fR W (ik_5 U S) (by decide) rfl ea0 fun v4 ev4 => ?_
    refine im_fI W (ik_5 U S) (by decide) rfl ea0 ?_
    refine im_w_qu W ev4 ((vd_n _)) (rfl) _ fun μ6 => ?_
    exact im_ret rfl
  · refine im_fR W (ik_5 U S) (by decide) rfl ea0 fun v7 ev7 => ?_
    refine im_fR W (ik_5 U S) (by decide) rfl ea0 fun v8 ev8 => ?_
    refine im_r_qu W ev8 _ fun v9 hv9 v9' ev9 => ?_
    refine im_w_qu W ev7 (hv9) (ev9) _ fun μ10 => ?_
    exact hk14 ea0 _ _
def ul_X5_remove_14 (U S N : Nat)  : Nat → Int32 → CS → Option (Unit × CS)
  | 0 => fun _ _ => none
  | n + 1 => uh_X5_remove_14 U S N (ul_X5_remove_14 U S N n)
theorem ue_ul_X5_remove_14 {μ0 : BM} {ro U S : Nat} (W : Wd μ0 ro U S) {N : Nat} : ∀ (n : Nat) {a0f : Option Nat} (ea0 : a0f = (adr μ0 ro U S (5, 0, 0))) (a3 : Int32) (s : CS), IM μ0 ro U S id (ul_X5_remove_14 U S N n a3 s) (L_X5_remove_14 N n a0f a3 (EC μ0 ro U S s)) := by
  intro n
  induction n with
  | zero => intros; exact im_none
  | succ n ih => intro a0f ea0 a3 s; exact ue_uh_X5_remove_14 W ih ea0 _ _
def u_X5_remove (U S N : Nat) (a1 : Option Nat) (μ : CS) : Option (Unit × CS) :=
  (u_X5_placeOf U S N a1 μ).bind fun q1 =>
  if ¬ q1.1 = (((-1)) : Int32) then
    ul_X5_remove_14 U S N N q1.1 q1.2
  else
    some ((), q1.2)
theorem ue_u_X5_remove {μ0 : BM} {ro U S : Nat} (W : Wd μ0 ro U S) {N : Nat} {a0f : Option Nat} (ea0 : a0f = (adr μ0 ro U S (5, 0, 0))) {a1 : Option Nat} {a1f : Option Nat} (ha1 : vd U a1) (ea1 : a1f = (Option.bind a1 fun b => adr μ0 ro U S (10, b, 0))) (s : CS) : IM μ0 ro U S id (u_X5_remove U S N a1 s) (f_X5_remove N a0f a1f (EC μ0 ro U S s)) := by
  unfold f_X5_remove u_X5_remove
  refine im_ck W (ik_5 U S) ea0 fun b2 eb2 => ?_
  refine im_call (ue_u_X5_placeOf W eb2 ha1 ea1 _) fun q1 => ?_
  dsimp only [id]
  refine im_if Iff.rfl (fun _ => ?_) (fun _ => ?_)
  · exact ue_ul_X5_remove_14 W N ea0 _ _
  · exact im_ret rfl
