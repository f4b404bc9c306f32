/-! LAYER 2, the reference over its typed state, further (by program) -/
def l_labels_0 (U S N : Nat)  : Nat → RS → Option (Unit × RS)
  | 0 => fun _ => none
  | n + 1 => h_labels_0 U S N (l_labels_0 U S N n)
theorem e_l_labels_0 {μ0 : Mem} {r U S : Nat} (hr : r < μ0.1) {N : Nat} : ∀ (n : Nat)  (s : RS), L_X12_labels_0 N n (some r) (EM μ0 r (pcs U S) s) = (l_labels_0 U S N n  s).map (em μ0 r U S) := by
  intro n
  induction n with
  | zero => intros; exact rfl
  | succ n ih => intros; exact e_h_labels_0 hr ih  _
def g_labels (U S N : Nat) (μ : RS) : Option (Unit × RS) :=
  l_labels_0 U S N N μ
theorem e_g_labels {μ0 : Mem} {r U S : Nat} (hr : r < μ0.1) {N : Nat} (s : RS) : f_X12_labels N (some r) (EM μ0 r (pcs U S) s) = (g_labels U S N  s).map (em μ0 r U S) := by
  unfold f_X12_labels g_labels
  exact e_l_labels_0 hr N _
def g_isSign_28 (U S N : Nat) (s0 : Int32) (μ : RS) : Option (Int32 × RS) :=
  rZ s0 μ
theorem e_g_isSign_28 {μ0 : Mem} {r U S : Nat} (hr : r < μ0.1) {N : Nat} (s0 : Int32) (s : RS) : f_X12_isSign_28 N s0 (EM μ0 r (pcs U S) s) = (g_isSign_28 U S N s0 s).map (em μ0 r U S) := by
  unfold f_X12_isSign_28 g_isSign_28
  exact st_rZ _ _
def g_isSign_27 (U S N : Nat) (μ : RS) : Option (Int32 × RS) :=
  g_isSign_28 U S N 0 μ
theorem e_g_isSign_27 {μ0 : Mem} {r U S : Nat} (hr : r < μ0.1) {N : Nat} (s : RS) : f_X12_isSign_27 N  (EM μ0 r (pcs U S) s) = (g_isSign_27 U S N  s).map (em μ0 r U S) := by
  unfold f_X12_isSign_27 g_isSign_27
  exact e_g_isSign_28 hr _ _
def g_isSign (U S N : Nat) (a1 : Int32) (μ : RS) : Option (Int32 × RS) :=
  if ¬ (μ.1 5) = 0 then
    g_isSign_27 U S N μ
  else
    if ¬ (μ.1 12) = (4 : Int32) then
      g_isSign_27 U S N μ
    else
      if ¬ (μ.1 14) = a1 then
        g_isSign_27 U S N μ
      else
        g_isSign_28 U S N 1 μ
theorem e_g_isSign {μ0 : Mem} {r U S : Nat} (hr : r < μ0.1) {N : Nat} (a1 : Int32) (s : RS) : f_X12_isSign N (some r) a1 (EM μ0 r (pcs U S) s) = (g_isSign U S N a1 s).map (em μ0 r U S) := by
  unfold f_X12_isSign g_isSign
  refine st_fI hr _ (by decide) rfl ?_
  refine st_if (fun _ => ?_) (fun _ => ?_)
  · exact e_g_isSign_27 hr _
  · refine st_fI hr _ (by decide) rfl ?_
    refine st_if (fun _ => ?_) (fun _ => ?_)
    · exact e_g_isSign_27 hr _
    · refine st_fI hr _ (by decide) rfl ?_
      refine st_if (fun _ => ?_) (fun _ => ?_)
      · exact e_g_isSign_27 hr _
      · exact e_g_isSign_28 hr _ _
def g_named_90 (U S N : Nat) (s0 : Int32) (μ : RS) : Option (Int32 × RS) :=
  some (s0, μ)
theorem e_g_named_90 {μ0 : Mem} {r U S : Nat} (hr : r < μ0.1) {N : Nat} (s0 : Int32) (s : RS) : f_X12_named_90 N s0 (EM μ0 r (pcs U S) s) = (g_named_90 U S N s0 s).map (em μ0 r U S) := by
  unfold f_X12_named_90 g_named_90
  exact rfl
def g_named_75 (U S N : Nat) (a2 : Int32) (μ : RS) : Option (Int32 × RS) :=
  if ¬ a2 = (((-1)) : Int32) then
    (rA 200 μ 19 a2).bind fun v2 =>
    g_named_90 U S N v2 μ
  else
    g_named_90 U S N 0 μ
theorem e_g_named_75 {μ0 : Mem} {r U S : Nat} (hr : r < μ0.1) {N : Nat} (a2 : Int32) (s : RS) : f_X12_named_75 N (some r) a2 (EM μ0 r (pcs U S) s) = (g_named_75 U S N a2 s).map (em μ0 r U S) := by
  unfold f_X12_named_75 g_named_75
  refine st_if (fun _ => ?_) (fun _ => ?_)
  · refine st_fR hr _ (by decide) rfl ?_
    refine st_aI hr _ (lk_19 U S) _ fun v2 => ?_
    exact e_g_named_90 hr _ _
  · exact e_g_named_90 hr _ _
def g_named_66 (U S N : Nat) (a2 : Int32) (μ : RS) : Option (Int32 × RS) :=
  (g_fails U S N 3 (μ.1 13) μ).bind fun q2 =>
  g_named_75 U S N a2 q2.2
theorem e_g_named_66 {μ0 : Mem} {r U S : Nat} (hr : r < μ0.1) {N : Nat} (a2 : Int32) (s : RS) : f_X12_named_66 N (some r) a2 (EM μ0 r (pcs U S) s) = (g_named_66 U S N a2 s).map (em μ0 r U S) := by
  unfold f_X12_named_66 g_named_66
  refine st_fI hr _ (by decide) rfl ?_
  refine st_ck hr _ ?_
  refine st_call (e_g_fails hr _ _ _) fun q2 => ?_
  dsimp only
  exact e_g_named_75 hr _ _
def g_named (U S N : Nat) (μ : RS) : Option (Int32 × RS) :=
  (g_find U S N 12 (μ.1 13) (μ.1 15) μ).bind fun q4 =>
  (some (pI q4.2 30 q4.1)).bind fun μ5 =>
  if q4.1 = (((-1)) : Int32) then
    (g_findTold U S N (μ5.1 13) (μ5.1 15) μ5).bind fun q8 =>
    if ¬ q8.1 = (((-1)) : Int32) then
      g_named_75 U S N q8.1 q8.2
    else
      if ¬ (q8.2.1 29) = 0 then
        g_named_66 U S N q8.1 q8.2
      else
        if (q8.2.1 9) = 0 then
          g_named_75 U S N q8.1 q8.2
        else
          g_named_66 U S N q8.1 q8.2
  else
    (xI x_cd q4.1).bind fun v12 =>
    some (v12, μ5)
theorem e_g_named {μ0 : Mem} {r U S : Nat} (hr : r < μ0.1) {N : Nat} (s : RS) : f_X12_named N (some r) (EM μ0 r (pcs U S) s) = (g_named U S N  s).map (em μ0 r U S) := by
  unfold f_X12_named g_named
  refine st_fR hr _ (by decide) rfl ?_
  refine st_fI hr _ (by decide) rfl ?_
  refine st_fI hr _ (by decide) rfl ?_
  refine st_call (e_g_find hr _ _ _ _) fun q4 => ?_
  dsimp only
  refine st_pI hr _ (by decide) rfl _ ?_
  refine st_if (fun _ => ?_) (fun _ => ?_)
  · refine st_fI hr _ (by decide) rfl ?_
    refine st_fI hr _ (by decide) rfl ?_
    refine st_ck hr _ ?_
    refine st_call (e_g_findTold hr _ _ _) fun q8 => ?_
    dsimp only
    refine st_if (fun _ => ?_) (fun _ => ?_)
    · exact e_g_named_75 hr _ _
    · refine st_fI hr _ (by decide) rfl ?_
      refine st_if (fun _ => ?_) (fun _ => ?_)
      · exact e_g_named_66 hr _ _
      · refine st_fI hr _ (by decide) rfl ?_
        refine st_if (fun _ => ?_) (fun _ => ?_)
        · exact e_g_named_75 hr _ _
        · exact e_g_named_66 hr _ _
  · refine st_b _ fun v12 => ?_
    exact rfl
def g_part_78 (U S N : Nat) (μ : RS) : Option (Int32 × RS) :=
  (g_fails U S N 2 (μ.1 13) μ).bind fun q2 =>
  some (0, q2.2)
theorem e_g_part_78 {μ0 : Mem} {r U S : Nat} (hr : r < μ0.1) {N : Nat} (s : RS) : f_X12_part_78 N (some r) (EM μ0 r (pcs U S) s) = (g_part_78 U S N  s).map (em μ0 r U S) := by
  unfold f_X12_part_78 g_part_78
  refine st_fI hr _ (by decide) rfl ?_
  refine st_ck hr _ ?_
  refine st_call (e_g_fails hr _ _ _) fun q2 => ?_
  dsimp only
  exact rfl
def g_part_150 (U S N : Nat) (s0 : Int32) (μ : RS) : Option (Int32 × RS) :=
  some (s0 &&& 4095, μ)
theorem e_g_part_150 {μ0 : Mem} {r U S : Nat} (hr : r < μ0.1) {N : Nat} (s0 : Int32) (s : RS) : f_X12_part_150 N s0 (EM μ0 r (pcs U S) s) = (g_part_150 U S N s0 s).map (em μ0 r U S) := by
  unfold f_X12_part_150 g_part_150
  exact rfl
def g_part_140 (U S N : Nat) (a1 : Int32) (a2 : Int32) (μ : RS) : Option (Int32 × RS) :=
  if a1 = 0 then
    g_part_150 U S N a2 μ
  else
    g_part_150 U S N (-a2) μ
theorem e_g_part_140 {μ0 : Mem} {r U S : Nat} (hr : r < μ0.1) {N : Nat} (a1 : Int32) (a2 : Int32) (s : RS) : f_X12_part_140 N a1 a2 (EM μ0 r (pcs U S) s) = (g_part_140 U S N a1 a2 s).map (em μ0 r U S) := by
  unfold f_X12_part_140 g_part_140
  refine st_if (fun _ => ?_) (fun _ => ?_)
  · exact e_g_part_150 hr _ _
  · exact e_g_part_150 hr _ _
def g_part_127 (U S N : Nat) (a1 : Int32) (a2 : Int32) (μ : RS) : Option (Int32 × RS) :=
  (g_take U S N μ).bind fun q1 =>
  if a1 = 0 then
    g_part_140 U S N a1 a2 q1.2
  else
    (some (pI q1.2 30 ((-1)))).bind fun μ3 =>
    g_part_140 U S N a1 a2 μ3
theorem e_g_part_127 {μ0 : Mem} {r U S : Nat} (hr : r < μ0.1) {N : Nat} (a1 : Int32) (a2 : Int32) (s : RS) : f_X12_part_127 N (some r) a1 a2 (EM μ0 r (pcs U S) s) = (g_part_127 U S N a1 a2 s).map (em μ0 r U S) := by
  unfold f_X12_part_127 g_part_127
  refine st_ck hr _ ?_
  refine st_call (e_g_take hr _) fun q1 => ?_
  dsimp only
  refine st_if (fun _ => ?_) (fun _ => ?_)
  · exact e_g_part_140 hr _ _ _
  · refine st_pI hr _ (by decide) rfl _ ?_
    exact e_g_part_140 hr _ _ _
def g_part_108 (U S N : Nat) (a1 : Int32) (s0 : Int32) (μ : RS) : Option (Int32 × RS) :=
  (some (pI μ 30 ((-1)))).bind fun μ1 =>
  if ¬ (μ1.1 12) = (1 : Int32) then
    g_part_127 U S N a1 s0 μ1
  else
    (g_named U S N μ1).bind fun q3 =>
    g_part_127 U S N a1 q3.1 q3.2
theorem e_g_part_108 {μ0 : Mem} {r U S : Nat} (hr : r < μ0.1) {N : Nat} (a1 : Int32) (s0 : Int32) (s : RS) : f_X12_part_108 N (some r) a1 s0 (EM μ0 r (pcs U S) s) = (g_part_108 U S N a1 s0 s).map (em μ0 r U S) := by
  unfold f_X12_part_108 g_part_108
  refine st_pI hr _ (by decide) rfl _ ?_
  refine st_fI hr _ (by decide) rfl ?_
  refine st_if (fun _ => ?_) (fun _ => ?_)
  · exact e_g_part_127 hr _ _ _
  · refine st_ck hr _ ?_
    refine st_call (e_g_named hr _) fun q3 => ?_
    dsimp only
    exact e_g_part_127 hr _ _ _
def g_part_89 (U S N : Nat) (a1 : Int32) (μ : RS) : Option (Int32 × RS) :=
  if ¬ (μ.1 12) = (4 : Int32) then
    g_part_108 U S N a1 (μ.1 14) μ
  else
    g_part_108 U S N a1 (μ.1 11) μ
theorem e_g_part_89 {μ0 : Mem} {r U S : Nat} (hr : r < μ0.1) {N : Nat} (a1 : Int32) (s : RS) : f_X12_part_89 N (some r) a1 (EM μ0 r (pcs U S) s) = (g_part_89 U S N a1 s).map (em μ0 r U S) := by
  unfold f_X12_part_89 g_part_89
  refine st_fI hr _ (by decide) rfl ?_
  refine st_if (fun _ => ?_) (fun _ => ?_)
  · refine st_fI hr _ (by decide) rfl ?_
    exact e_g_part_108 hr _ _ _
  · refine st_fI hr _ (by decide) rfl ?_
    exact e_g_part_108 hr _ _ _
def g_part_53 (U S N : Nat) (a1 : Int32) (μ : RS) : Option (Int32 × RS) :=
  if (μ.1 12) = (5 : Int32) then
    g_part_78 U S N μ
  else
    if ¬ (μ.1 12) = (4 : Int32) then
      g_part_89 U S N a1 μ
    else
      if (μ.1 14) = (46 : Int32) then
        g_part_89 U S N a1 μ
      else
        g_part_78 U S N μ
theorem e_g_part_53 {μ0 : Mem} {r U S : Nat} (hr : r < μ0.1) {N : Nat} (a1 : Int32) (s : RS) : f_X12_part_53 N (some r) a1 (EM μ0 r (pcs U S) s) = (g_part_53 U S N a1 s).map (em μ0 r U S) := by
  unfold f_X12_part_53 g_part_53
  refine st_fI hr _ (by decide) rfl ?_
  refine st_if (fun _ => ?_) (fun _ => ?_)
  · exact e_g_part_78 hr _
  · refine st_fI hr _ (by decide) rfl ?_
    refine st_if (fun _ => ?_) (fun _ => ?_)
    · exact e_g_part_89 hr _ _
    · refine st_fI hr _ (by decide) rfl ?_
      refine st_if (fun _ => ?_) (fun _ => ?_)
      · exact e_g_part_89 hr _ _
      · exact e_g_part_78 hr _
def g_part_15 (U S N : Nat) (a1 : Int32) (μ : RS) : Option (Int32 × RS) :=
  if (μ.1 5) ≤ 0 then
    if ¬ (μ.1 12) = (1 : Int32) then
      g_part_53 U S N a1 μ
    else
      (g_find U S N 13 (μ.1 13) (μ.1 15) μ).bind fun q6 =>
      if ¬ q6.1 = (((-1)) : Int32) then
        g_part_78 U S N q6.2
      else
        g_part_53 U S N a1 q6.2
  else
    some (0, μ)
theorem e_g_part_15 {μ0 : Mem} {r U S : Nat} (hr : r < μ0.1) {N : Nat} (a1 : Int32) (s : RS) : f_X12_part_15 N (some r) a1 (EM μ0 r (pcs U S) s) = (g_part_15 U S N a1 s).map (em μ0 r U S) := by
  unfold f_X12_part_15 g_part_15
  refine st_fI hr _ (by decide) rfl ?_
  refine st_if (fun _ => ?_) (fun _ => ?_)
  · refine st_fI hr _ (by decide) rfl ?_
    refine st_if (fun _ => ?_) (fun _ => ?_)
    · exact e_g_part_53 hr _ _
    · refine st_fR hr _ (by decide) rfl ?_
      refine st_fI hr _ (by decide) rfl ?_
      refine st_fI hr _ (by decide) rfl ?_
      refine st_call (e_g_find hr _ _ _ _) fun q6 => ?_
      dsimp only
      refine st_if (fun _ => ?_) (fun _ => ?_)
      · exact e_g_part_78 hr _
      · exact e_g_part_53 hr _ _
  · exact rfl
def g_part (U S N : Nat) (μ : RS) : Option (Int32 × RS) :=
  (g_isSign U S N 45 μ).bind fun q1 =>
  if q1.1 = 0 then
    g_part_15 U S N q1.1 q1.2
  else
    (g_take U S N q1.2).bind fun q3 =>
    g_part_15 U S N q1.1 q3.2
theorem e_g_part {μ0 : Mem} {r U S : Nat} (hr : r < μ0.1) {N : Nat} (s : RS) : f_X12_part N (some r) (EM μ0 r (pcs U S) s) = (g_part U S N  s).map (em μ0 r U S) := by
  unfold f_X12_part g_part
  refine st_ck hr _ ?_
  refine st_call (e_g_isSign hr _ _) fun q1 => ?_
  dsimp only
  refine st_if (fun _ => ?_) (fun _ => ?_)
  · exact e_g_part_15 hr _ _
  · refine st_ck hr _ ?_
    refine st_call (e_g_take hr _) fun q3 => ?_
    dsimp only
    exact e_g_part_15 hr _ _
def g_all_106 (U S N : Nat) (k10 : Int32 → Int32 → RS → Option (Int32 × RS)) (a2 : Int32) (s0 : Int32) (μ : RS) : Option (Int32 × RS) :=
  k10 (s0 &&& 4095) a2 μ
theorem e_g_all_106 {μ0 : Mem} {r U S : Nat} (hr : r < μ0.1) {N : Nat} {k10 : (Option Nat) → Int32 → Int32 → Mem → Option (Int32 × Mem)} {k10' : Int32 → Int32 → RS → Option (Int32 × RS)} (hk10 : ∀ (x1 : Int32) (x2 : Int32) (s : RS), k10 (some r) x1 x2 (EM μ0 r (pcs U S) s) = (k10' x1 x2 s).map (em μ0 r U S)) (a2 : Int32) (s0 : Int32) (s : RS) : f_X12_all_106 N k10 (some r) a2 s0 (EM μ0 r (pcs U S) s) = (g_all_106 U S N k10' a2 s0 s).map (em μ0 r U S) := by
  unfold f_X12_all_106 g_all_106
  exact hk10 _ _ _
def g_all_46 (U S N : Nat) (k10 : Int32 → Int32 → RS → Option (Int32 × RS)) (a1 : Int32) (μ : RS) : Option (Int32 × RS) :=
  (g_take U S N μ).bind fun q2 =>
  (g_part U S N q2.2).bind fun q4 =>
  if ¬ (μ.1 14) = (43 : Int32) then
    if ¬ (μ.1 14) = (45 : Int32) then
      if ¬ (μ.1 14) = (33 : Int32) then
        g_all_106 U S N k10 ((-1)) (a1 &&& q4.1) q4.2
      else
        g_all_106 U S N k10 ((-1)) (a1 ||| q4.1) q4.2
    else
      g_all_106 U S N k10 ((-1)) (a1 - q4.1) q4.2
  else
    g_all_106 U S N k10 ((-1)) (a1 + q4.1) q4.2
theorem e_g_all_46 {μ0 : Mem} {r U S : Nat} (hr : r < μ0.1) {N : Nat} {k10 : (Option Nat) → Int32 → Int32 → Mem → Option (Int32 × Mem)} {k10' : Int32 → Int32 → RS → Option (Int32 × RS)} (hk10 : ∀ (x1 : Int32) (x2 : Int32) (s : RS), k10 (some r) x1 x2 (EM μ0 r (pcs U S) s) = (k10' x1 x2 s).map (em μ0 r U S)) (a1 : Int32) (s : RS) : f_X12_all_46 N k10 (some r) a1 (EM μ0 r (pcs U S) s) = (g_all_46 U S N k10' a1 s).map (em μ0 r U S) := by
  unfold f_X12_all_46 g_all_46
  refine st_fI hr _ (by decide) rfl ?_
  refine st_ck hr _ ?_
  refine st_call (e_g_take hr _) fun q2 => ?_
  dsimp only
  refine st_ck hr _ ?_
  refine st_call (e_g_part hr _) fun q4 => ?_
  dsimp only
  refine st_if (fun _ => ?_) (fun _ => ?_)
  · refine st_if (fun _ => ?_) (fun _ => ?_)
    · refine st_if (fun _ => ?_) (fun _ => ?_)
      · exact e_g_all_106 hr hk10 _ _ _
      · exact e_g_all_106 hr hk10 _ _ _
    · exact e_g_all_106 hr hk10 _ _ _
  · exact e_g_all_106 hr hk10 _ _ _
def h_all_10 (U S N : Nat) (k10 : Int32 → Int32 → RS → Option (Int32 × RS)) (a1 : Int32) (a2 : Int32) (μ : RS) : Option (Int32 × RS) :=
  (g_isSign U S N 43 μ).bind fun q1 =>
  if ¬ q1.1 = 0 then
    g_all_46 U S N k10 a1 q1.2
  else
    (g_isSign U S N 45 q1.2).bind fun q3 =>
    if ¬ q3.1 = 0 then
      g_all_46 U S N k10 a1 q3.2
    else
      (g_isSign U S N 33 q3.2).bind fun q5 =>
      if ¬ q5.1 = 0 then
        g_all_46 U S N k10 a1 q5.2
      else
        (g_isSign U S N 38 q5.2).bind fun q7 =>
        if q7.1 = 0 then
          (some (pI q7.2 30 a2)).bind fun μ9 =>
          some (a1, μ9)
        else
          g_all_46 U S N k10 a1 q7.2
theorem e_h_all_10 {μ0 : Mem} {r U S : Nat} (hr : r < μ0.1) {N : Nat} {k10 : (Option Nat) → Int32 → Int32 → Mem → Option (Int32 × Mem)} {k10' : Int32 → Int32 → RS → Option (Int32 × RS)} (hk10 : ∀ (x1 : Int32) (x2 : Int32) (s : RS), k10 (some r) x1 x2 (EM μ0 r (pcs U S) s) = (k10' x1 x2 s).map (em μ0 r U S)) (a1 : Int32) (a2 : Int32) (s : RS) : H_X12_all_10 N k10 (some r) a1 a2 (EM μ0 r (pcs U S) s) = (h_all_10 U S N k10' a1 a2 s).map (em μ0 r U S) := by
  unfold H_X12_all_10 h_all_10
  refine st_ck hr _ ?_
  refine st_call (e_g_isSign hr _ _) fun q1 => ?_
  dsimp only
  refine st_if (fun _ => ?_) (fun _ => ?_)
  · exact e_g_all_46 hr hk10 _ _
  · refine st_ck hr _ ?_
    refine st_call (e_g_isSign hr _ _) fun q3 => ?_
    dsimp only
    refine st_if (fun _ => ?_) (fun _ => ?_)
    · exact e_g_all_46 hr hk10 _ _
    · refine st_ck hr _ ?_
      refine st_call (e_g_isSign hr _ _) fun q5 => ?_
      dsimp only
      refine st_if (fun _ => ?_) (fun _ => ?_)
      · exact e_g_all_46 hr hk10 _ _
      · refine st_ck hr _ ?_
        refine st_call (e_g_isSign hr _ _) fun q7 => ?_
        dsimp only
        refine st_if (fun _ => ?_) (fun _ => ?_)
        · refine st_pI hr _ (by decide) rfl _ ?_
          exact rfl
        · exact e_g_all_46 hr hk10 _ _
def l_all_10 (U S N : Nat)  : Nat → Int32 → Int32 → RS → Option (Int32 × RS)
  | 0 => fun _ _ _ => none
  | n + 1 => h_all_10 U S N (l_all_10 U S N n)
theorem e_l_all_10 {μ0 : Mem} {r U S : Nat} (hr : r < μ0.1) {N : Nat} : ∀ (n : Nat) (x1 : Int32) (x2 : Int32) (s : RS), L_X12_all_10 N n (some r) x1 x2 (EM μ0 r (pcs U S) s) = (l_all_10 U S N n x1 x2 s).map (em μ0 r U S) := by
  intro n
  induction n with
  | zero => intros; exact rfl
  | succ n ih => intros; exact e_h_all_10 hr ih _ _ _
def g_all (U S N : Nat) (μ : RS) : Option (Int32 × RS) :=
  (g_part U S N μ).bind fun q1 =>
  l_all_10 U S N N q1.1 (q1.2.1 30) q1.2
theorem e_g_all {μ0 : Mem} {r U S : Nat} (hr : r < μ0.1) {N : Nat} (s : RS) : f_X12_all N (some r) (EM μ0 r (pcs U S) s) = (g_all U S N  s).map (em μ0 r U S) := by
  unfold f_X12_all g_all
  refine st_ck hr _ ?_
  refine st_call (e_g_part hr _) fun q1 => ?_
  dsimp only
  refine st_fI hr _ (by decide) rfl ?_
  exact e_l_all_10 hr N _ _ _
def g_asked_20 (U S N : Nat) (s0 : Int32) (μ : RS) : Option (Int32 × RS) :=
  (pZ μ 29 0).bind fun μ1 =>
  some (s0, μ1)
theorem e_g_asked_20 {μ0 : Mem} {r U S : Nat} (hr : r < μ0.1) {N : Nat} (s0 : Int32) (s : RS) : f_X12_asked_20 N (some r) s0 (EM μ0 r (pcs U S) s) = (g_asked_20 U S N s0 s).map (em μ0 r U S) := by
  unfold f_X12_asked_20 g_asked_20
  refine st_pZ hr _ (by decide) rfl _ fun μ1 => ?_
  exact rfl
def g_asked (U S N : Nat) (μ : RS) : Option (Int32 × RS) :=
  (pZ μ 29 1).bind fun μ1 =>
  if ¬ (μ1.1 5) = 0 then
    g_asked_20 U S N 0 μ1
  else
    (g_all U S N μ1).bind fun q3 =>
    g_asked_20 U S N q3.1 q3.2
theorem e_g_asked {μ0 : Mem} {r U S : Nat} (hr : r < μ0.1) {N : Nat} (s : RS) : f_X12_asked N (some r) (EM μ0 r (pcs U S) s) = (g_asked U S N  s).map (em μ0 r U S) := by
  unfold f_X12_asked g_asked
  refine st_pZ hr _ (by decide) rfl _ fun μ1 => ?_
  refine st_fI hr _ (by decide) rfl ?_
  refine st_if (fun _ => ?_) (fun _ => ?_)
  · exact e_g_asked_20 hr _ _
  · refine st_ck hr _ ?_
    refine st_call (e_g_all hr _) fun q3 => ?_
    dsimp only
    exact e_g_asked_20 hr _ _
def g_lies_75 (U S N : Nat) (μ : RS) : Option (Unit × RS) :=
  (some (pI μ 11 ((μ.1 11) + 1))).bind fun μ2 =>
  some ((), μ2)
theorem e_g_lies_75 {μ0 : Mem} {r U S : Nat} (hr : r < μ0.1) {N : Nat} (s : RS) : f_X12_lies_75 N (some r) (EM μ0 r (pcs U S) s) = (g_lies_75 U S N  s).map (em μ0 r U S) := by
  unfold f_X12_lies_75 g_lies_75
  refine st_fI hr _ (by decide) rfl ?_
  refine st_pI hr _ (by decide) rfl _ ?_
  exact rfl
def g_lies (U S N : Nat) (a1 : Int32) (μ : RS) : Option (Unit × RS) :=
  if (μ.1 11) ≤ (4095 : Int32) then
    if (μ.1 9) = 0 then
      g_lies_75 U S N μ
    else
      (rA 4096 μ 24 (μ.1 11)).bind fun v5 =>
      if v5 = 0 then
        (wZ 4096 μ 23 (μ.1 11) 1).bind fun μ8 =>
        (wA 4096 μ8 22 (μ8.1 11) (a1 &&& 4095)).bind fun μ11 =>
        g_lies_75 U S N μ11
      else
        (g_fails U S N 8 (μ.1 27) μ).bind fun q13 =>
        some ((), q13.2)
  else
    (g_fails U S N 6 (μ.1 27) μ).bind fun q16 =>
    some ((), q16.2)
theorem e_g_lies {μ0 : Mem} {r U S : Nat} (hr : r < μ0.1) {N : Nat} (a1 : Int32) (s : RS) : f_X12_lies N (some r) a1 (EM μ0 r (pcs U S) s) = (g_lies U S N a1 s).map (em μ0 r U S) := by
  unfold f_X12_lies g_lies
  refine st_fI hr _ (by decide) rfl ?_
  refine st_if (fun _ => ?_) (fun _ => ?_)
  · refine st_fI hr _ (by decide) rfl ?_
    refine st_if (fun _ => ?_) (fun _ => ?_)
    · exact e_g_lies_75 hr _
    · refine st_fR hr _ (by decide) rfl ?_
      refine st_fI hr _ (by decide) rfl ?_
      refine st_aI hr _ (lk_24 U S) _ fun v5 => ?_
      refine st_if (fun _ => ?_) (fun _ => ?_)
      · refine st_fR hr _ (by decide) rfl ?_
        refine st_fI hr _ (by decide) rfl ?_
        refine st_bZ hr _ (lk_23 U S) _ _ fun μ8 => ?_
        refine st_fR hr _ (by decide) rfl ?_
        refine st_fI hr _ (by decide) rfl ?_
        refine st_bI hr _ (lk_22 U S) _ _ fun μ11 => ?_
        exact e_g_lies_75 hr _
      · refine st_fI hr _ (by decide) rfl ?_
        refine st_ck hr _ ?_
        refine st_call (e_g_fails hr _ _ _) fun q13 => ?_
        dsimp only
        exact rfl
  · refine st_fI hr _ (by decide) rfl ?_
    refine st_ck hr _ ?_
    refine st_call (e_g_fails hr _ _ _) fun q16 => ?_
    dsimp only
    exact rfl
def g_texts_185 (U S N : Nat) (a1 : Int32) (μ : RS) : Option (Unit × RS) :=
  (g_fails U S N 1 a1 μ).bind fun q1 =>
  some ((), q1.2)
theorem e_g_texts_185 {μ0 : Mem} {r U S : Nat} (hr : r < μ0.1) {N : Nat} (a1 : Int32) (s : RS) : f_X12_texts_185 N (some r) a1 (EM μ0 r (pcs U S) s) = (g_texts_185 U S N a1 s).map (em μ0 r U S) := by
  unfold f_X12_texts_185 g_texts_185
  refine st_ck hr _ ?_
  refine st_call (e_g_fails hr _ _ _) fun q1 => ?_
  dsimp only
  exact rfl
def g_texts_298 (U S N : Nat) (μ : RS) : Option (Unit × RS) :=
  some ((), μ)
theorem e_g_texts_298 {μ0 : Mem} {r U S : Nat} (hr : r < μ0.1) {N : Nat} (s : RS) : f_X12_texts_298 N  (EM μ0 r (pcs U S) s) = (g_texts_298 U S N  s).map (em μ0 r U S) := by
  unfold f_X12_texts_298 g_texts_298
  exact rfl
def g_texts_279 (U S N : Nat) (a4 : Int32) (μ : RS) : Option (Unit × RS) :=
  (some (pI μ 4 (a4 + 1))).bind fun μ1 =>
  if ¬ (μ1.1 5) = 0 then
    g_texts_298 U S N μ1
  else
    (g_look U S N μ1).bind fun q3 =>
    g_texts_298 U S N q3.2
theorem e_g_texts_279 {μ0 : Mem} {r U S : Nat} (hr : r < μ0.1) {N : Nat} (a4 : Int32) (s : RS) : f_X12_texts_279 N (some r) a4 (EM μ0 r (pcs U S) s) = (g_texts_279 U S N a4 s).map (em μ0 r U S) := by
  unfold f_X12_texts_279 g_texts_279
  refine st_pI hr _ (by decide) rfl _ ?_
  refine st_fI hr _ (by decide) rfl ?_
  refine st_if (fun _ => ?_) (fun _ => ?_)
  · exact e_g_texts_298 hr _
  · refine st_ck hr _ ?_
    refine st_call (e_g_look hr _) fun q3 => ?_
    dsimp only
    exact e_g_texts_298 hr _
def g_texts_259 (U S N : Nat) (k197 : Int32 → Int32 → RS → Option (Unit × RS)) (a4 : Int32) (a6 : Int32) (a7 : Int32) (s0 : Int32) (μ : RS) : Option (Unit × RS) :=
  (g_lies U S N ((64 * a7) + s0) μ).bind fun q1 =>
  k197 a4 (a6 + 2) q1.2
theorem e_g_texts_259 {μ0 : Mem} {r U S : Nat} (hr : r < μ0.1) {N : Nat} {k197 : (Option Nat) → Int32 → Int32 → Mem → Option (Unit × Mem)} {k197' : Int32 → Int32 → RS → Option (Unit × RS)} (hk197 : ∀ (x1 : Int32) (x2 : Int32) (s : RS), k197 (some r) x1 x2 (EM μ0 r (pcs U S) s) = (k197' x1 x2 s).map (em μ0 r U S)) (a4 : Int32) (a6 : Int32) (a7 : Int32) (s0 : Int32) (s : RS) : f_X12_texts_259 N k197 (some r) a4 a6 a7 s0 (EM μ0 r (pcs U S) s) = (g_texts_259 U S N k197' a4 a6 a7 s0 s).map (em μ0 r U S) := by
  unfold f_X12_texts_259 g_texts_259
  refine st_ck hr _ ?_
  refine st_call (e_g_lies hr _ _) fun q1 => ?_
  dsimp only
  exact hk197 _ _ _
def g_texts_232 (U S N : Nat) (k197 : Int32 → Int32 → RS → Option (Unit × RS)) (a4 : Int32) (a6 : Int32) (s0 : Int32) (μ : RS) : Option (Unit × RS) :=
  if a4 ≤ (a6 + 1) then
    g_texts_259 U S N k197 a4 a6 s0 0 μ
  else
    (rA 2000 μ 2 (a6 + 1)).bind fun v2 =>
    g_texts_259 U S N k197 a4 a6 s0 (v2 &&& 63) μ
theorem e_g_texts_232 {μ0 : Mem} {r U S : Nat} (hr : r < μ0.1) {N : Nat} {k197 : (Option Nat) → Int32 → Int32 → Mem → Option (Unit × Mem)} {k197' : Int32 → Int32 → RS → Option (Unit × RS)} (hk197 : ∀ (x1 : Int32) (x2 : Int32) (s : RS), k197 (some r) x1 x2 (EM μ0 r (pcs U S) s) = (k197' x1 x2 s).map (em μ0 r U S)) (a4 : Int32) (a6 : Int32) (s0 : Int32) (s : RS) : f_X12_texts_232 N k197 (some r) a4 a6 s0 (EM μ0 r (pcs U S) s) = (g_texts_232 U S N k197' a4 a6 s0 s).map (em μ0 r U S) := by
  unfold f_X12_texts_232 g_texts_232
  refine st_if (fun _ => ?_) (fun _ => ?_)
  · exact e_g_texts_259 hr hk197 _ _ _ _ _
  · refine st_fR hr _ (by decide) rfl ?_
    refine st_aI hr _ (lk_2 U S) _ fun v2 => ?_
    exact e_g_texts_259 hr hk197 _ _ _ _ _
def h_texts_197 (U S N : Nat) (k197 : Int32 → Int32 → RS → Option (Unit × RS)) (a4 : Int32) (a6 : Int32) (μ : RS) : Option (Unit × RS) :=
  if a4 < a6 then
    g_texts_279 U S N a4 μ
  else
    if ¬ (μ.1 5) = 0 then
      g_texts_279 U S N a4 μ
    else
      if a4 ≤ a6 then
        g_texts_232 U S N k197 a4 a6 0 μ
      else
        (rA 2000 μ 2 a6).bind fun v3 =>
        g_texts_232 U S N k197 a4 a6 (v3 &&& 63) μ
theorem e_h_texts_197 {μ0 : Mem} {r U S : Nat} (hr : r < μ0.1) {N : Nat} {k197 : (Option Nat) → Int32 → Int32 → Mem → Option (Unit × Mem)} {k197' : Int32 → Int32 → RS → Option (Unit × RS)} (hk197 : ∀ (x1 : Int32) (x2 : Int32) (s : RS), k197 (some r) x1 x2 (EM μ0 r (pcs U S) s) = (k197' x1 x2 s).map (em μ0 r U S)) (a4 : Int32) (a6 : Int32) (s : RS) : H_X12_texts_197 N k197 (some r) a4 a6 (EM μ0 r (pcs U S) s) = (h_texts_197 U S N k197' a4 a6 s).map (em μ0 r U S) := by
  unfold H_X12_texts_197 h_texts_197
  refine st_if (fun _ => ?_) (fun _ => ?_)
  · exact e_g_texts_279 hr _ _
  · refine st_fI hr _ (by decide) rfl ?_
    refine st_if (fun _ => ?_) (fun _ => ?_)
    · exact e_g_texts_279 hr _ _
    · refine st_if (fun _ => ?_) (fun _ => ?_)
      · exact e_g_texts_232 hr hk197 _ _ _ _
      · refine st_fR hr _ (by decide) rfl ?_
        refine st_aI hr _ (lk_2 U S) _ fun v3 => ?_
        exact e_g_texts_232 hr hk197 _ _ _ _
def l_texts_197 (U S N : Nat)  : Nat → Int32 → Int32 → RS → Option (Unit × RS)
  | 0 => fun _ _ _ => none
  | n + 1 => h_texts_197 U S N (l_texts_197 U S N n)
theorem e_l_texts_197 {μ0 : Mem} {r U S : Nat} (hr : r < μ0.1) {N : Nat} : ∀ (n : Nat) (x1 : Int32) (x2 : Int32) (s : RS), L_X12_texts_197 N n (some r) x1 x2 (EM μ0 r (pcs U S) s) = (l_texts_197 U S N n x1 x2 s).map (em μ0 r U S) := by
  intro n
  induction n with
  | zero => intros; exact rfl
  | succ n ih => intros; exact e_h_texts_197 hr ih _ _ _
def g_texts_160 (U S N : Nat) (a1 : Int32) (a2 : Int32) (a3 : Int32) (a4 : Int32) (a5 : Int32) (μ : RS) : Option (Unit × RS) :=
  if a5 = 0 then
    g_texts_185 U S N a1 μ
  else
    if (μ.1 3) ≤ a4 then
      g_texts_185 U S N a1 μ
    else
      (rA 2000 μ 2 a4).bind fun v3 =>
      if v3 = a3 then
        l_texts_197 U S N N a4 (a2 + 1) μ
      else
        g_texts_185 U S N a1 μ
theorem e_g_texts_160 {μ0 : Mem} {r U S : Nat} (hr : r < μ0.1) {N : Nat} (a1 : Int32) (a2 : Int32) (a3 : Int32) (a4 : Int32) (a5 : Int32) (s : RS) : f_X12_texts_160 N (some r) a1 a2 a3 a4 a5 (EM μ0 r (pcs U S) s) = (g_texts_160 U S N a1 a2 a3 a4 a5 s).map (em μ0 r U S) := by
  unfold f_X12_texts_160 g_texts_160
  refine st_if (fun _ => ?_) (fun _ => ?_)
  · exact e_g_texts_185 hr _ _
  · refine st_fI hr _ (by decide) rfl ?_
    refine st_if (fun _ => ?_) (fun _ => ?_)
    · exact e_g_texts_185 hr _ _
    · refine st_fR hr _ (by decide) rfl ?_
      refine st_aI hr _ (lk_2 U S) _ fun v3 => ?_
      refine st_if (fun _ => ?_) (fun _ => ?_)
      · exact e_l_texts_197 hr N _ _ _
      · exact e_g_texts_185 hr _ _
def g_texts_152 (U S N : Nat) (k109 : Int32 → Int32 → Int32 → Int32 → Int32 → Int32 → RS → Option (Unit × RS)) (a1 : Int32) (a2 : Int32) (a3 : Int32) (a4 : Int32) (a6 : Int32) (s0 : Int32) (μ : RS) : Option (Unit × RS) :=
  k109 a1 a2 a3 a4 s0 (a6 + 1) μ
theorem e_g_texts_152 {μ0 : Mem} {r U S : Nat} (hr : r < μ0.1) {N : Nat} {k109 : (Option Nat) → Int32 → Int32 → Int32 → Int32 → Int32 → Int32 → Mem → Option (Unit × Mem)} {k109' : Int32 → Int32 → Int32 → Int32 → Int32 → Int32 → RS → Option (Unit × RS)} (hk109 : ∀ (x1 : Int32) (x2 : Int32) (x3 : Int32) (x4 : Int32) (x5 : Int32) (x6 : Int32) (s : RS), k109 (some r) x1 x2 x3 x4 x5 x6 (EM μ0 r (pcs U S) s) = (k109' x1 x2 x3 x4 x5 x6 s).map (em μ0 r U S)) (a1 : Int32) (a2 : Int32) (a3 : Int32) (a4 : Int32) (a6 : Int32) (s0 : Int32) (s : RS) : f_X12_texts_152 N k109 (some r) a1 a2 a3 a4 a6 s0 (EM μ0 r (pcs U S) s) = (g_texts_152 U S N k109' a1 a2 a3 a4 a6 s0 s).map (em μ0 r U S) := by
  unfold f_X12_texts_152 g_texts_152
  exact hk109 _ _ _ _ _ _ _
def g_texts_151 (U S N : Nat) (k109 : Int32 → Int32 → Int32 → Int32 → Int32 → Int32 → RS → Option (Unit × RS)) (a1 : Int32) (a2 : Int32) (a3 : Int32) (a4 : Int32) (a6 : Int32) (μ : RS) : Option (Unit × RS) :=
  g_texts_152 U S N k109 a1 a2 a3 a4 a6 0 μ
theorem e_g_texts_151 {μ0 : Mem} {r U S : Nat} (hr : r < μ0.1) {N : Nat} {k109 : (Option Nat) → Int32 → Int32 → Int32 → Int32 → Int32 → Int32 → Mem → Option (Unit × Mem)} {k109' : Int32 → Int32 → Int32 → Int32 → Int32 → Int32 → RS → Option (Unit × RS)} (hk109 : ∀ (x1 : Int32) (x2 : Int32) (x3 : Int32) (x4 : Int32) (x5 : Int32) (x6 : Int32) (s : RS), k109 (some r) x1 x2 x3 x4 x5 x6 (EM μ0 r (pcs U S) s) = (k109' x1 x2 x3 x4 x5 x6 s).map (em μ0 r U S)) (a1 : Int32) (a2 : Int32) (a3 : Int32) (a4 : Int32) (a6 : Int32) (s : RS) : f_X12_texts_151 N k109 (some r) a1 a2 a3 a4 a6 (EM μ0 r (pcs U S) s) = (g_texts_151 U S N k109' a1 a2 a3 a4 a6 s).map (em μ0 r U S) := by
  unfold f_X12_texts_151 g_texts_151
  exact e_g_texts_152 hr hk109 _ _ _ _ _ _ _
def h_texts_109 (U S N : Nat) (k109 : Int32 → Int32 → Int32 → Int32 → Int32 → Int32 → RS → Option (Unit × RS)) (a1 : Int32) (a2 : Int32) (a3 : Int32) (a4 : Int32) (a5 : Int32) (a6 : Int32) (μ : RS) : Option (Unit × RS) :=
  if a4 ≤ a6 then
    g_texts_160 U S N a1 a2 a3 a4 a5 μ
  else
    if (μ.1 3) ≤ a6 then
      g_texts_160 U S N a1 a2 a3 a4 a5 μ
    else
      if a5 = 0 then
        g_texts_151 U S N k109 a1 a2 a3 a4 a6 μ
      else
        (rA 2000 μ 2 a6).bind fun v3 =>
        (g_in U S N v3 32 126 μ).bind fun q4 =>
        if q4.1 = 0 then
          g_texts_151 U S N k109 a1 a2 a3 a4 a6 q4.2
        else
          g_texts_152 U S N k109 a1 a2 a3 a4 a6 1 q4.2
theorem e_h_texts_109 {μ0 : Mem} {r U S : Nat} (hr : r < μ0.1) {N : Nat} {k109 : (Option Nat) → Int32 → Int32 → Int32 → Int32 → Int32 → Int32 → Mem → Option (Unit × Mem)} {k109' : Int32 → Int32 → Int32 → Int32 → Int32 → Int32 → RS → Option (Unit × RS)} (hk109 : ∀ (x1 : Int32) (x2 : Int32) (x3 : Int32) (x4 : Int32) (x5 : Int32) (x6 : Int32) (s : RS), k109 (some r) x1 x2 x3 x4 x5 x6 (EM μ0 r (pcs U S) s) = (k109' x1 x2 x3 x4 x5 x6 s).map (em μ0 r U S)) (a1 : Int32) (a2 : Int32) (a3 : Int32) (a4 : Int32) (a5 : Int32) (a6 : Int32) (s : RS) : H_X12_texts_109 N k109 (some r) a1 a2 a3 a4 a5 a6 (EM μ0 r (pcs U S) s) = (h_texts_109 U S N k109' a1 a2 a3 a4 a5 a6 s).map (em μ0 r U S) := by
  unfold H_X12_texts_109 h_texts_109
  refine st_if (fun _ => ?_) (fun _ => ?_)
  · exact e_g_texts_160 hr _ _ _ _ _ _
  · refine st_fI hr _ (by decide) rfl ?_
    refine st_if (fun _ => ?_) (fun _ => ?_)
    · exact e_g_texts_160 hr _ _ _ _ _ _
    · refine st_if (fun _ => ?_) (fun _ => ?_)
      · exact e_g_texts_151 hr hk109 _ _ _ _ _ _
      · refine st_fR hr _ (by decide) rfl ?_
        refine st_aI hr _ (lk_2 U S) _ fun v3 => ?_
        refine st_call (e_g_in hr _ _ _ _) fun q4 => ?_
        dsimp only
        refine st_if (fun _ => ?_) (fun _ => ?_)
        · exact e_g_texts_151 hr hk109 _ _ _ _ _ _
        · exact e_g_texts_152 hr hk109 _ _ _ _ _ _ _
def l_texts_109 (U S N : Nat)  : Nat → Int32 → Int32 → Int32 → Int32 → Int32 → Int32 → RS → Option (Unit × RS)
  | 0 => fun _ _ _ _ _ _ _ => none
  | n + 1 => h_texts_109 U S N (l_texts_109 U S N n)
theorem e_l_texts_109 {μ0 : Mem} {r U S : Nat} (hr : r < μ0.1) {N : Nat} : ∀ (n : Nat) (x1 : Int32) (x2 : Int32) (x3 : Int32) (x4 : Int32) (x5 : Int32) (x6 : Int32) (s : RS), L_X12_texts_109 N n (some r) x1 x2 x3 x4 x5 x6 (EM μ0 r (pcs U S) s) = (l_texts_109 U S N n x1 x2 x3 x4 x5 x6 s).map (em μ0 r U S) := by
  intro n
  induction n with
  | zero => intros; exact rfl
  | succ n ih => intros; exact e_h_texts_109 hr ih _ _ _ _ _ _ _
def g_texts_104 (U S N : Nat) (a1 : Int32) (a2 : Int32) (a3 : Int32) (a4 : Int32) (s0 : Int32) (μ : RS) : Option (Unit × RS) :=
  l_texts_109 U S N N a1 a2 a3 a4 s0 a2 μ
theorem e_g_texts_104 {μ0 : Mem} {r U S : Nat} (hr : r < μ0.1) {N : Nat} (a1 : Int32) (a2 : Int32) (a3 : Int32) (a4 : Int32) (s0 : Int32) (s : RS) : f_X12_texts_104 N (some r) a1 a2 a3 a4 s0 (EM μ0 r (pcs U S) s) = (g_texts_104 U S N a1 a2 a3 a4 s0 s).map (em μ0 r U S) := by
  unfold f_X12_texts_104 g_texts_104
  exact e_l_texts_109 hr N _ _ _ _ _ _ _
def g_texts_93 (U S N : Nat) (a1 : Int32) (a2 : Int32) (a3 : Int32) (a4 : Int32) (μ : RS) : Option (Unit × RS) :=
  if a3 = (10 : Int32) then
    g_texts_104 U S N a1 a2 a3 a4 0 μ
  else
    g_texts_104 U S N a1 a2 a3 a4 1 μ
theorem e_g_texts_93 {μ0 : Mem} {r U S : Nat} (hr : r < μ0.1) {N : Nat} (a1 : Int32) (a2 : Int32) (a3 : Int32) (a4 : Int32) (s : RS) : f_X12_texts_93 N (some r) a1 a2 a3 a4 (EM μ0 r (pcs U S) s) = (g_texts_93 U S N a1 a2 a3 a4 s).map (em μ0 r U S) := by
  unfold f_X12_texts_93 g_texts_93
  refine st_if (fun _ => ?_) (fun _ => ?_)
  · exact e_g_texts_104 hr _ _ _ _ _ _
  · exact e_g_texts_104 hr _ _ _ _ _ _
def h_texts_55 (U S N : Nat) (k55 : Int32 → Int32 → Int32 → Int32 → RS → Option (Unit × RS)) (a1 : Int32) (a2 : Int32) (a3 : Int32) (a4 : Int32) (μ : RS) : Option (Unit × RS) :=
  if (μ.1 3) ≤ a4 then
    g_texts_93 U S N a1 a2 a3 a4 μ
  else
    (rA 2000 μ 2 a4).bind fun v3 =>
    if v3 = a3 then
      g_texts_93 U S N a1 a2 a3 a4 μ
    else
      (rA 2000 μ 2 a4).bind fun v5 =>
      if v5 = (10 : Int32) then
        g_texts_93 U S N a1 a2 a3 a4 μ
      else
        k55 a1 a2 a3 (a4 + 1) μ
theorem e_h_texts_55 {μ0 : Mem} {r U S : Nat} (hr : r < μ0.1) {N : Nat} {k55 : (Option Nat) → Int32 → Int32 → Int32 → Int32 → Mem → Option (Unit × Mem)} {k55' : Int32 → Int32 → Int32 → Int32 → RS → Option (Unit × RS)} (hk55 : ∀ (x1 : Int32) (x2 : Int32) (x3 : Int32) (x4 : Int32) (s : RS), k55 (some r) x1 x2 x3 x4 (EM μ0 r (pcs U S) s) = (k55' x1 x2 x3 x4 s).map (em μ0 r U S)) (a1 : Int32) (a2 : Int32) (a3 : Int32) (a4 : Int32) (s : RS) : H_X12_texts_55 N k55 (some r) a1 a2 a3 a4 (EM μ0 r (pcs U S) s) = (h_texts_55 U S N k55' a1 a2 a3 a4 s).map (em μ0 r U S) := by
  unfold H_X12_texts_55 h_texts_55
  refine st_fI hr _ (by decide) rfl ?_
  refine st_if (fun _ => ?_) (fun _ => ?_)
  · exact e_g_texts_93 hr _ _ _ _ _
  · refine st_fR hr _ (by decide) rfl ?_
    refine st_aI hr _ (lk_2 U S) _ fun v3 => ?_
    refine st_if (fun _ => ?_) (fun _ => ?_)
    · exact e_g_texts_93 hr _ _ _ _ _
    · refine st_fR hr _ (by decide) rfl ?_
      refine st_aI hr _ (lk_2 U S) _ fun v5 => ?_
      refine st_if (fun _ => ?_) (fun _ => ?_)
      · exact e_g_texts_93 hr _ _ _ _ _
      · exact hk55 _ _ _ _ _
def l_texts_55 (U S N : Nat)  : Nat → Int32 → Int32 → Int32 → Int32 → RS → Option (Unit × RS)
  | 0 => fun _ _ _ _ _ => none
  | n + 1 => h_texts_55 U S N (l_texts_55 U S N n)
theorem e_l_texts_55 {μ0 : Mem} {r U S : Nat} (hr : r < μ0.1) {N : Nat} : ∀ (n : Nat) (x1 : Int32) (x2 : Int32) (x3 : Int32) (x4 : Int32) (s : RS), L_X12_texts_55 N n (some r) x1 x2 x3 x4 (EM μ0 r (pcs U S) s) = (l_texts_55 U S N n x1 x2 x3 x4 s).map (em μ0 r U S) := by
  intro n
  induction n with
  | zero => intros; exact rfl
  | succ n ih => intros; exact e_h_texts_55 hr ih _ _ _ _ _
def g_texts_49 (U S N : Nat) (a1 : Int32) (a2 : Int32) (s0 : Int32) (μ : RS) : Option (Unit × RS) :=
  l_texts_55 U S N N a1 a2 s0 (a2 + 1) μ
theorem e_g_texts_49 {μ0 : Mem} {r U S : Nat} (hr : r < μ0.1) {N : Nat} (a1 : Int32) (a2 : Int32) (s0 : Int32) (s : RS) : f_X12_texts_49 N (some r) a1 a2 s0 (EM μ0 r (pcs U S) s) = (g_texts_49 U S N a1 a2 s0 s).map (em μ0 r U S) := by
  unfold f_X12_texts_49 g_texts_49
  exact e_l_texts_55 hr N _ _ _ _ _
def g_texts_30 (U S N : Nat) (a1 : Int32) (a2 : Int32) (μ : RS) : Option (Unit × RS) :=
  if (μ.1 3) ≤ a2 then
    g_texts_49 U S N a1 a2 10 μ
  else
    (rA 2000 μ 2 a2).bind fun v3 =>
    g_texts_49 U S N a1 a2 v3 μ
theorem e_g_texts_30 {μ0 : Mem} {r U S : Nat} (hr : r < μ0.1) {N : Nat} (a1 : Int32) (a2 : Int32) (s : RS) : f_X12_texts_30 N (some r) a1 a2 (EM μ0 r (pcs U S) s) = (g_texts_30 U S N a1 a2 s).map (em μ0 r U S) := by
  unfold f_X12_texts_30 g_texts_30
  refine st_fI hr _ (by decide) rfl ?_
  refine st_if (fun _ => ?_) (fun _ => ?_)
  · exact e_g_texts_49 hr _ _ _ _
  · refine st_fR hr _ (by decide) rfl ?_
    refine st_aI hr _ (lk_2 U S) _ fun v3 => ?_
    exact e_g_texts_49 hr _ _ _ _
def h_texts_5 (U S N : Nat) (k5 : Int32 → Int32 → RS → Option (Unit × RS)) (a1 : Int32) (a2 : Int32) (μ : RS) : Option (Unit × RS) :=
  if (μ.1 3) ≤ a2 then
    g_texts_30 U S N a1 a2 μ
  else
    (rA 2000 μ 2 a2).bind fun v3 =>
    if ¬ v3 = (32 : Int32) then
      g_texts_30 U S N a1 a2 μ
    else
      k5 a1 (a2 + 1) μ
theorem e_h_texts_5 {μ0 : Mem} {r U S : Nat} (hr : r < μ0.1) {N : Nat} {k5 : (Option Nat) → Int32 → Int32 → Mem → Option (Unit × Mem)} {k5' : Int32 → Int32 → RS → Option (Unit × RS)} (hk5 : ∀ (x1 : Int32) (x2 : Int32) (s : RS), k5 (some r) x1 x2 (EM μ0 r (pcs U S) s) = (k5' x1 x2 s).map (em μ0 r U S)) (a1 : Int32) (a2 : Int32) (s : RS) : H_X12_texts_5 N k5 (some r) a1 a2 (EM μ0 r (pcs U S) s) = (h_texts_5 U S N k5' a1 a2 s).map (em μ0 r U S) := by
  unfold H_X12_texts_5 h_texts_5
  refine st_fI hr _ (by decide) rfl ?_
  refine st_if (fun _ => ?_) (fun _ => ?_)
  · exact e_g_texts_30 hr _ _ _
  · refine st_fR hr _ (by decide) rfl ?_
    refine st_aI hr _ (lk_2 U S) _ fun v3 => ?_
    refine st_if (fun _ => ?_) (fun _ => ?_)
    · exact e_g_texts_30 hr _ _ _
    · exact hk5 _ _ _
def l_texts_5 (U S N : Nat)  : Nat → Int32 → Int32 → RS → Option (Unit × RS)
  | 0 => fun _ _ _ => none
  | n + 1 => h_texts_5 U S N (l_texts_5 U S N n)
theorem e_l_texts_5 {μ0 : Mem} {r U S : Nat} (hr : r < μ0.1) {N : Nat} : ∀ (n : Nat) (x1 : Int32) (x2 : Int32) (s : RS), L_X12_texts_5 N n (some r) x1 x2 (EM μ0 r (pcs U S) s) = (l_texts_5 U S N n x1 x2 s).map (em μ0 r U S) := by
  intro n
  induction n with
  | zero => intros; exact rfl
  | succ n ih => intros; exact e_h_texts_5 hr ih _ _ _
def g_texts (U S N : Nat) (a1 : Int32) (μ : RS) : Option (Unit × RS) :=
  l_texts_5 U S N N a1 (μ.1 16) μ
theorem e_g_texts {μ0 : Mem} {r U S : Nat} (hr : r < μ0.1) {N : Nat} (a1 : Int32) (s : RS) : f_X12_texts N (some r) a1 (EM μ0 r (pcs U S) s) = (g_texts U S N a1 s).map (em μ0 r U S) := by
  unfold f_X12_texts g_texts
  refine st_fI hr _ (by decide) rfl ?_
  exact e_l_texts_5 hr N _ _ _
def g_again (U S N : Nat) (μ : RS) : Option (Unit × RS) :=
  (some (pI μ 5 0)).bind fun μ1 =>
  (g_look U S N μ1).bind fun q2 =>
  some ((), q2.2)
theorem e_g_again {μ0 : Mem} {r U S : Nat} (hr : r < μ0.1) {N : Nat} (s : RS) : f_X12_again N (some r) (EM μ0 r (pcs U S) s) = (g_again U S N  s).map (em μ0 r U S) := by
  unfold f_X12_again g_again
  refine st_pI hr _ (by decide) rfl _ ?_
  refine st_ck hr _ ?_
  refine st_call (e_g_look hr _) fun q2 => ?_
  dsimp only
  exact rfl
def g_beginsV_83 (U S N : Nat) (s0 : Int32) (μ : RS) : Option (Int32 × RS) :=
  rZ s0 μ
theorem e_g_beginsV_83 {μ0 : Mem} {r U S : Nat} (hr : r < μ0.1) {N : Nat} (s0 : Int32) (s : RS) : f_X12_beginsV_83 N s0 (EM μ0 r (pcs U S) s) = (g_beginsV_83 U S N s0 s).map (em μ0 r U S) := by
  unfold f_X12_beginsV_83 g_beginsV_83
  exact st_rZ _ _
def g_beginsV_82 (U S N : Nat) (μ : RS) : Option (Int32 × RS) :=
  g_beginsV_83 U S N 0 μ
theorem e_g_beginsV_82 {μ0 : Mem} {r U S : Nat} (hr : r < μ0.1) {N : Nat} (s : RS) : f_X12_beginsV_82 N  (EM μ0 r (pcs U S) s) = (g_beginsV_82 U S N  s).map (em μ0 r U S) := by
  unfold f_X12_beginsV_82 g_beginsV_82
  exact e_g_beginsV_83 hr _ _
def g_beginsV_78 (U S N : Nat) (μ : RS) : Option (Int32 × RS) :=
  g_beginsV_83 U S N 1 μ
theorem e_g_beginsV_78 {μ0 : Mem} {r U S : Nat} (hr : r < μ0.1) {N : Nat} (s : RS) : f_X12_beginsV_78 N  (EM μ0 r (pcs U S) s) = (g_beginsV_78 U S N  s).map (em μ0 r U S) := by
  unfold f_X12_beginsV_78 g_beginsV_78
  exact e_g_beginsV_83 hr _ _
def g_beginsV_36 (U S N : Nat) (μ : RS) : Option (Int32 × RS) :=
  if (μ.1 12) = (2 : Int32) then
    g_beginsV_78 U S N μ
  else
    if (μ.1 12) = (3 : Int32) then
      g_beginsV_78 U S N μ
    else
      if ¬ (μ.1 12) = (4 : Int32) then
        g_beginsV_82 U S N μ
      else
        if (μ.1 14) = (45 : Int32) then
          g_beginsV_78 U S N μ
        else
          if ¬ (μ.1 14) = (46 : Int32) then
            g_beginsV_82 U S N μ
          else
            g_beginsV_78 U S N μ
theorem e_g_beginsV_36 {μ0 : Mem} {r U S : Nat} (hr : r < μ0.1) {N : Nat} (s : RS) : f_X12_beginsV_36 N (some r) (EM μ0 r (pcs U S) s) = (g_beginsV_36 U S N  s).map (em μ0 r U S) := by
  unfold f_X12_beginsV_36 g_beginsV_36
  refine st_fI hr _ (by decide) rfl ?_
  refine st_if (fun _ => ?_) (fun _ => ?_)
  · exact e_g_beginsV_78 hr _
  · refine st_fI hr _ (by decide) rfl ?_
    refine st_if (fun _ => ?_) (fun _ => ?_)
    · exact e_g_beginsV_78 hr _
    · refine st_fI hr _ (by decide) rfl ?_
      refine st_if (fun _ => ?_) (fun _ => ?_)
      · exact e_g_beginsV_82 hr _
      · refine st_fI hr _ (by decide) rfl ?_
        refine st_if (fun _ => ?_) (fun _ => ?_)
        · exact e_g_beginsV_78 hr _
        · refine st_fI hr _ (by decide) rfl ?_
          refine st_if (fun _ => ?_) (fun _ => ?_)
          · exact e_g_beginsV_82 hr _
          · exact e_g_beginsV_78 hr _
def g_beginsV (U S N : Nat) (μ : RS) : Option (Int32 × RS) :=
  if ¬ (μ.1 5) = 0 then
    g_beginsV_82 U S N μ
  else
    if ¬ (μ.1 12) = (1 : Int32) then
      g_beginsV_36 U S N μ
    else
      (g_find U S N 13 (μ.1 13) (μ.1 15) μ).bind fun q6 =>
      if q6.1 = (((-1)) : Int32) then
        g_beginsV_78 U S N q6.2
      else
        g_beginsV_36 U S N q6.2
theorem e_g_beginsV {μ0 : Mem} {r U S : Nat} (hr : r < μ0.1) {N : Nat} (s : RS) : f_X12_beginsV N (some r) (EM μ0 r (pcs U S) s) = (g_beginsV U S N  s).map (em μ0 r U S) := by
  unfold f_X12_beginsV g_beginsV
  refine st_fI hr _ (by decide) rfl ?_
  refine st_if (fun _ => ?_) (fun _ => ?_)
  · exact e_g_beginsV_82 hr _
  · refine st_fI hr _ (by decide) rfl ?_
    refine st_if (fun _ => ?_) (fun _ => ?_)
    · exact e_g_beginsV_36 hr _
    · refine st_fR hr _ (by decide) rfl ?_
      refine st_fI hr _ (by decide) rfl ?_
      refine st_fI hr _ (by decide) rfl ?_
      refine st_call (e_g_find hr _ _ _ _) fun q6 => ?_
      dsimp only
      refine st_if (fun _ => ?_) (fun _ => ?_)
      · exact e_g_beginsV_78 hr _
      · exact e_g_beginsV_36 hr _
def g_told_201 (U S N : Nat) (μ : RS) : Option (Unit × RS) :=
  some ((), μ)
theorem e_g_told_201 {μ0 : Mem} {r U S : Nat} (hr : r < μ0.1) {N : Nat} (s : RS) : f_X12_told_201 N  (EM μ0 r (pcs U S) s) = (g_told_201 U S N  s).map (em μ0 r U S) := by
  unfold f_X12_told_201 g_told_201
  exact rfl
def g_told_72 (U S N : Nat) (μ : RS) : Option (Unit × RS) :=
  (g_again U S N μ).bind fun q1 =>
  g_told_201 U S N q1.2
theorem e_g_told_72 {μ0 : Mem} {r U S : Nat} (hr : r < μ0.1) {N : Nat} (s : RS) : f_X12_told_72 N (some r) (EM μ0 r (pcs U S) s) = (g_told_72 U S N  s).map (em μ0 r U S) := by
  unfold f_X12_told_72 g_told_72
  refine st_ck hr _ ?_
  refine st_call (e_g_again hr _) fun q1 => ?_
  dsimp only
  exact e_g_told_201 hr _
def g_told_43 (U S N : Nat) (s1 : Int32) (μ : RS) : Option (Unit × RS) :=
  (some (pI μ 10 s1)).bind fun μ1 =>
  if (μ1.1 5) = 0 then
    g_told_72 U S N μ1
  else
    if ¬ (μ1.1 5) = (1 : Int32) then
      g_told_201 U S N μ1
    else
      if ¬ (μ1.1 6) = (μ1.1 13) then
        g_told_201 U S N μ1
      else
        g_told_72 U S N μ1
theorem e_g_told_43 {μ0 : Mem} {r U S : Nat} (hr : r < μ0.1) {N : Nat} (s1 : Int32) (s : RS) : f_X12_told_43 N (some r) (some r) s1 (EM μ0 r (pcs U S) s) = (g_told_43 U S N s1 s).map (em μ0 r U S) := by
  unfold f_X12_told_43 g_told_43
  refine st_pI hr _ (by decide) rfl _ ?_
  refine st_fI hr _ (by decide) rfl ?_
  refine st_if (fun _ => ?_) (fun _ => ?_)
  · exact e_g_told_72 hr _
  · refine st_fI hr _ (by decide) rfl ?_
    refine st_if (fun _ => ?_) (fun _ => ?_)
    · exact e_g_told_201 hr _
    · refine st_fI hr _ (by decide) rfl ?_
      refine st_fI hr _ (by decide) rfl ?_
      refine st_if (fun _ => ?_) (fun _ => ?_)
      · exact e_g_told_201 hr _
      · exact e_g_told_72 hr _
def g_told_30 (U S N : Nat) (a1 : Int32) (μ : RS) : Option (Unit × RS) :=
  if ¬ a1 = (1 : Int32) then
    g_told_43 U S N 8 μ
  else
    g_told_43 U S N 10 μ
theorem e_g_told_30 {μ0 : Mem} {r U S : Nat} (hr : r < μ0.1) {N : Nat} (a1 : Int32) (s : RS) : f_X12_told_30 N (some r) a1 (EM μ0 r (pcs U S) s) = (g_told_30 U S N a1 s).map (em μ0 r U S) := by
  unfold f_X12_told_30 g_told_30
  refine st_if (fun _ => ?_) (fun _ => ?_)
  · exact e_g_told_43 hr _ _
  · exact e_g_told_43 hr _ _
def h_told_177 (U S N : Nat) (k177 : Int32 → Int32 → RS → Option (Unit × RS)) (a3 : Int32) (a4 : Int32) (μ : RS) : Option (Unit × RS) :=
  if a3 ≤ a4 then
    g_told_201 U S N μ
  else
    if ¬ (μ.1 5) = 0 then
      g_told_201 U S N μ
    else
      (g_lies U S N 0 μ).bind fun q2 =>
      k177 a3 (a4 + 1) q2.2
theorem e_h_told_177 {μ0 : Mem} {r U S : Nat} (hr : r < μ0.1) {N : Nat} {k177 : (Option Nat) → Int32 → Int32 → Mem → Option (Unit × Mem)} {k177' : Int32 → Int32 → RS → Option (Unit × RS)} (hk177 : ∀ (x1 : Int32) (x2 : Int32) (s : RS), k177 (some r) x1 x2 (EM μ0 r (pcs U S) s) = (k177' x1 x2 s).map (em μ0 r U S)) (a3 : Int32) (a4 : Int32) (s : RS) : H_X12_told_177 N k177 (some r) a3 a4 (EM μ0 r (pcs U S) s) = (h_told_177 U S N k177' a3 a4 s).map (em μ0 r U S) := by
  unfold H_X12_told_177 h_told_177
  refine st_if (fun _ => ?_) (fun _ => ?_)
  · exact e_g_told_201 hr _
  · refine st_fI hr _ (by decide) rfl ?_
    refine st_if (fun _ => ?_) (fun _ => ?_)
    · exact e_g_told_201 hr _
    · refine st_ck hr _ ?_
      refine st_call (e_g_lies hr _ _) fun q2 => ?_
      dsimp only
      exact hk177 _ _ _
def l_told_177 (U S N : Nat)  : Nat → Int32 → Int32 → RS → Option (Unit × RS)
  | 0 => fun _ _ _ => none
  | n + 1 => h_told_177 U S N (l_told_177 U S N n)
theorem e_l_told_177 {μ0 : Mem} {r U S : Nat} (hr : r < μ0.1) {N : Nat} : ∀ (n : Nat) (x1 : Int32) (x2 : Int32) (s : RS), L_X12_told_177 N n (some r) x1 x2 (EM μ0 r (pcs U S) s) = (l_told_177 U S N n x1 x2 s).map (em μ0 r U S) := by
  intro n
  induction n with
  | zero => intros; exact rfl
  | succ n ih => intros; exact e_h_told_177 hr ih _ _ _
def g_told_166 (U S N : Nat) (μ : RS) : Option (Unit × RS) :=
  g_told_201 U S N μ
theorem e_g_told_166 {μ0 : Mem} {r U S : Nat} (hr : r < μ0.1) {N : Nat} (s : RS) : f_X12_told_166 N  (EM μ0 r (pcs U S) s) = (g_told_166 U S N  s).map (em μ0 r U S) := by
  unfold f_X12_told_166 g_told_166
  exact e_g_told_201 hr _
def g_told_149 (U S N : Nat) (a4 : Int32) (μ : RS) : Option (Unit × RS) :=
  if ¬ (μ.1 5) = 0 then
    g_told_166 U S N μ
  else
    (some (pI μ 11 (128 * a4))).bind fun μ2 =>
    g_told_166 U S N μ2
theorem e_g_told_149 {μ0 : Mem} {r U S : Nat} (hr : r < μ0.1) {N : Nat} (a4 : Int32) (s : RS) : f_X12_told_149 N (some r) a4 (EM μ0 r (pcs U S) s) = (g_told_149 U S N a4 s).map (em μ0 r U S) := by
  unfold f_X12_told_149 g_told_149
  refine st_fI hr _ (by decide) rfl ?_
  refine st_if (fun _ => ?_) (fun _ => ?_)
  · exact e_g_told_166 hr _
  · refine st_pI hr _ (by decide) rfl _ ?_
    exact e_g_told_166 hr _
def g_told_122 (U S N : Nat) (a3 : Int32) (μ : RS) : Option (Unit × RS) :=
  (g_asked U S N μ).bind fun q1 =>
  if ¬ (q1.2.1 5) = 0 then
    g_told_149 U S N q1.1 q1.2
  else
    if q1.1 ≤ (31 : Int32) then
      g_told_149 U S N q1.1 q1.2
    else
      (g_fails U S N 6 a3 q1.2).bind fun q4 =>
      g_told_149 U S N q1.1 q4.2
theorem e_g_told_122 {μ0 : Mem} {r U S : Nat} (hr : r < μ0.1) {N : Nat} (a3 : Int32) (s : RS) : f_X12_told_122 N (some r) a3 (EM μ0 r (pcs U S) s) = (g_told_122 U S N a3 s).map (em μ0 r U S) := by
  unfold f_X12_told_122 g_told_122
  refine st_ck hr _ ?_
  refine st_call (e_g_asked hr _) fun q1 => ?_
  dsimp only
  refine st_fI hr _ (by decide) rfl ?_
  refine st_if (fun _ => ?_) (fun _ => ?_)
  · exact e_g_told_149 hr _ _
  · refine st_if (fun _ => ?_) (fun _ => ?_)
    · exact e_g_told_149 hr _ _
    · refine st_ck hr _ ?_
      refine st_call (e_g_fails hr _ _ _) fun q4 => ?_
      dsimp only
      exact e_g_told_149 hr _ _
def g_told (U S N : Nat) (a1 : Int32) (μ : RS) : Option (Unit × RS) :=
  if ¬ a1 = (4 : Int32) then
    (g_take U S N μ).bind fun q2 =>
    if a1 = (1 : Int32) then
      g_told_30 U S N a1 q2.2
    else
      if ¬ a1 = (2 : Int32) then
        if ¬ a1 = 0 then
          (g_asked U S N q2.2).bind fun q4 =>
          l_told_177 U S N N q4.1 0 q4.2
        else
          if ¬ (q2.2.1 5) = 0 then
            g_told_122 U S N (q2.2.1 13) q2.2
          else
            (g_beginsV U S N q2.2).bind fun q8 =>
            if ¬ q8.1 = 0 then
              g_told_122 U S N (q2.2.1 13) q8.2
            else
              if (128 : Int32) = 0 then none else
              (some (pI q8.2 11 ((((q8.2.1 11) + 127) / 128) * 128))).bind fun μ11 =>
              some ((), μ11)
      else
        g_told_30 U S N a1 q2.2
  else
    (g_texts U S N (μ.1 13) μ).bind fun q12 =>
    some ((), q12.2)
theorem e_g_told {μ0 : Mem} {r U S : Nat} (hr : r < μ0.1) {N : Nat} (a1 : Int32) (s : RS) : f_X12_told N (some r) a1 (EM μ0 r (pcs U S) s) = (g_told U S N a1 s).map (em μ0 r U S) := by
  unfold f_X12_told g_told
  refine st_fI hr _ (by decide) rfl ?_
  refine st_if (fun _ => ?_) (fun _ => ?_)
  · refine st_ck hr _ ?_
    refine st_call (e_g_take hr _) fun q2 => ?_
    dsimp only
    refine st_if (fun _ => ?_) (fun _ => ?_)
    · exact e_g_told_30 hr _ _
    · refine st_if (fun _ => ?_) (fun _ => ?_)
      · refine st_if (fun _ => ?_) (fun _ => ?_)
        · refine st_ck hr _ ?_
          refine st_call (e_g_asked hr _) fun q4 => ?_
          dsimp only
          exact e_l_told_177 hr N _ _ _
        · refine st_fI hr _ (by decide) rfl ?_
          refine st_fI hr _ (by decide) rfl ?_
          refine st_if (fun _ => ?_) (fun _ => ?_)
          · exact e_g_told_122 hr _ _
          · refine st_ck hr _ ?_
            refine st_call (e_g_beginsV hr _) fun q8 => ?_
            dsimp only
            refine st_if (fun _ => ?_) (fun _ => ?_)
            · exact e_g_told_122 hr _ _
            · refine st_fI hr _ (by decide) rfl ?_
              refine st_if (fun _ => rfl) (fun _ => ?_)
              refine st_pI hr _ (by decide) rfl _ ?_
              exact rfl
      · exact e_g_told_30 hr _ _
  · refine st_ck hr _ ?_
    refine st_call (e_g_texts hr _ _) fun q12 => ?_
    dsimp only
    exact rfl
def g_literalFor_96 (U S N : Nat) (a3 : Int32) (μ : RS) : Option (Int32 × RS) :=
  (g_fails U S N 8 a3 μ).bind fun q1 =>
  some (0, q1.2)
theorem e_g_literalFor_96 {μ0 : Mem} {r U S : Nat} (hr : r < μ0.1) {N : Nat} (a3 : Int32) (s : RS) : f_X12_literalFor_96 N (some r) a3 (EM μ0 r (pcs U S) s) = (g_literalFor_96 U S N a3 s).map (em μ0 r U S) := by
  unfold f_X12_literalFor_96 g_literalFor_96
  refine st_ck hr _ ?_
  refine st_call (e_g_fails hr _ _ _) fun q1 => ?_
  dsimp only
  exact rfl
def h_literalFor_28 (U S N : Nat) (k28 : Int32 → Int32 → Int32 → Int32 → RS → Option (Int32 × RS)) (a1 : Int32) (a2 : Int32) (a3 : Int32) (a4 : Int32) (μ : RS) : Option (Int32 × RS) :=
  (rA 32 μ 26 a2).bind fun v2 =>
  if a4 ≤ v2 then
    (rA 32 μ 26 a2).bind fun v4 =>
    if v4 < (128 * a2) then
      g_literalFor_96 U S N a3 μ
    else
      (rA 4096 μ 23 v4).bind fun v6 =>
      if ¬ v6 = 0 then
        g_literalFor_96 U S N a3 μ
      else
        if ¬ v4 = (μ.1 11) then
          (wZ 4096 μ 24 v4 1).bind fun μ9 =>
          (wA 4096 μ9 22 v4 a1).bind fun μ11 =>
          (rA 32 μ11 26 a2).bind fun v13 =>
          (wA 32 μ11 26 a2 (v13 - 1)).bind fun μ14 =>
          some (v4, μ14)
        else
          g_literalFor_96 U S N a3 μ
  else
    (rA 4096 μ 22 a4).bind fun v16 =>
    if ¬ v16 = a1 then
      k28 a1 a2 a3 (a4 + (-1)) μ
    else
      some (a4, μ)
theorem e_h_literalFor_28 {μ0 : Mem} {r U S : Nat} (hr : r < μ0.1) {N : Nat} {k28 : (Option Nat) → Int32 → Int32 → Int32 → Int32 → Mem → Option (Int32 × Mem)} {k28' : Int32 → Int32 → Int32 → Int32 → RS → Option (Int32 × RS)} (hk28 : ∀ (x1 : Int32) (x2 : Int32) (x3 : Int32) (x4 : Int32) (s : RS), k28 (some r) x1 x2 x3 x4 (EM μ0 r (pcs U S) s) = (k28' x1 x2 x3 x4 s).map (em μ0 r U S)) (a1 : Int32) (a2 : Int32) (a3 : Int32) (a4 : Int32) (s : RS) : H_X12_literalFor_28 N k28 (some r) a1 a2 a3 a4 (EM μ0 r (pcs U S) s) = (h_literalFor_28 U S N k28' a1 a2 a3 a4 s).map (em μ0 r U S) := by
  unfold H_X12_literalFor_28 h_literalFor_28
  refine st_fR hr _ (by decide) rfl ?_
  refine st_aI hr _ (lk_26 U S) _ fun v2 => ?_
  refine st_if (fun _ => ?_) (fun _ => ?_)
  · refine st_fR hr _ (by decide) rfl ?_
    refine st_aI hr _ (lk_26 U S) _ fun v4 => ?_
    refine st_if (fun _ => ?_) (fun _ => ?_)
    · exact e_g_literalFor_96 hr _ _
    · refine st_fR hr _ (by decide) rfl ?_
      refine st_aI hr _ (lk_23 U S) _ fun v6 => ?_
      refine st_if (fun _ => ?_) (fun _ => ?_)
      · exact e_g_literalFor_96 hr _ _
      · refine st_fI hr _ (by decide) rfl ?_
        refine st_if (fun _ => ?_) (fun _ => ?_)
        · refine st_fR hr _ (by decide) rfl ?_
          refine st_bZ hr _ (lk_24 U S) _ _ fun μ9 => ?_
          refine st_fR hr _ (by decide) rfl ?_
          refine st_bI hr _ (lk_22 U S) _ _ fun μ11 => ?_
          refine st_fR hr _ (by decide) rfl ?_
          refine st_aI hr _ (lk_26 U S) _ fun v13 => ?_
          refine st_bI hr _ (lk_26 U S) _ _ fun μ14 => ?_
          exact rfl
        · exact e_g_literalFor_96 hr _ _
  · refine st_fR hr _ (by decide) rfl ?_
    refine st_aI hr _ (lk_22 U S) _ fun v16 => ?_
    refine st_if (fun _ => ?_) (fun _ => ?_)
    · exact hk28 _ _ _ _ _
    · exact rfl
def l_literalFor_28 (U S N : Nat)  : Nat → Int32 → Int32 → Int32 → Int32 → RS → Option (Int32 × RS)
  | 0 => fun _ _ _ _ _ => none
  | n + 1 => h_literalFor_28 U S N (l_literalFor_28 U S N n)
theorem e_l_literalFor_28 {μ0 : Mem} {r U S : Nat} (hr : r < μ0.1) {N : Nat} : ∀ (n : Nat) (x1 : Int32) (x2 : Int32) (x3 : Int32) (x4 : Int32) (s : RS), L_X12_literalFor_28 N n (some r) x1 x2 x3 x4 (EM μ0 r (pcs U S) s) = (l_literalFor_28 U S N n x1 x2 x3 x4 s).map (em μ0 r U S) := by
  intro n
  induction n with
  | zero => intros; exact rfl
  | succ n ih => intros; exact e_h_literalFor_28 hr ih _ _ _ _ _
def g_literalFor (U S N : Nat) (a1 : Int32) (a2 : Int32) (a3 : Int32) (μ : RS) : Option (Int32 × RS) :=
  if a2 ≤ (31 : Int32) then
    l_literalFor_28 U S N N a1 a2 a3 ((128 * a2) + 127) μ
  else
    (g_fails U S N 6 (μ.1 27) μ).bind fun q2 =>
    some (0, q2.2)
theorem e_g_literalFor {μ0 : Mem} {r U S : Nat} (hr : r < μ0.1) {N : Nat} (a1 : Int32) (a2 : Int32) (a3 : Int32) (s : RS) : f_X12_literalFor N (some r) a1 a2 a3 (EM μ0 r (pcs U S) s) = (g_literalFor U S N a1 a2 a3 s).map (em μ0 r U S) := by
  unfold f_X12_literalFor g_literalFor
  refine st_if (fun _ => ?_) (fun _ => ?_)
  · exact e_l_literalFor_28 hr N _ _ _ _ _
  · refine st_fI hr _ (by decide) rfl ?_
    refine st_ck hr _ ?_
    refine st_call (e_g_fails hr _ _ _) fun q2 => ?_
    dsimp only
    exact rfl
def g_literal_97 (U S N : Nat) (s0 : Int32) (μ : RS) : Option (Int32 × RS) :=
  some (s0, μ)
theorem e_g_literal_97 {μ0 : Mem} {r U S : Nat} (hr : r < μ0.1) {N : Nat} (s0 : Int32) (s : RS) : f_X12_literal_97 N s0 (EM μ0 r (pcs U S) s) = (g_literal_97 U S N s0 s).map (em μ0 r U S) := by
  unfold f_X12_literal_97 g_literal_97
  exact rfl
def g_literal_96 (U S N : Nat) (μ : RS) : Option (Int32 × RS) :=
  g_literal_97 U S N 0 μ
theorem e_g_literal_96 {μ0 : Mem} {r U S : Nat} (hr : r < μ0.1) {N : Nat} (s : RS) : f_X12_literal_96 N  (EM μ0 r (pcs U S) s) = (g_literal_96 U S N  s).map (em μ0 r U S) := by
  unfold f_X12_literal_96 g_literal_96
  exact e_g_literal_97 hr _ _
def g_literal_66 (U S N : Nat) (a1 : Int32) (a2 : Int32) (a4 : Int32) (μ : RS) : Option (Int32 × RS) :=
  (some (pI μ 30 ((-1)))).bind fun μ1 =>
  if (μ1.1 9) = 0 then
    g_literal_96 U S N μ1
  else
    if ¬ (μ1.1 5) = 0 then
      g_literal_96 U S N μ1
    else
      (g_literalFor U S N a4 a2 a1 μ1).bind fun q4 =>
      g_literal_97 U S N q4.1 q4.2
theorem e_g_literal_66 {μ0 : Mem} {r U S : Nat} (hr : r < μ0.1) {N : Nat} (a1 : Int32) (a2 : Int32) (a4 : Int32) (s : RS) : f_X12_literal_66 N (some r) a1 a2 a4 (EM μ0 r (pcs U S) s) = (g_literal_66 U S N a1 a2 a4 s).map (em μ0 r U S) := by
  unfold f_X12_literal_66 g_literal_66
  refine st_pI hr _ (by decide) rfl _ ?_
  refine st_fI hr _ (by decide) rfl ?_
  refine st_if (fun _ => ?_) (fun _ => ?_)
  · exact e_g_literal_96 hr _
  · refine st_fI hr _ (by decide) rfl ?_
    refine st_if (fun _ => ?_) (fun _ => ?_)
    · exact e_g_literal_96 hr _
    · refine st_ck hr _ ?_
      refine st_call (e_g_literalFor hr _ _ _ _) fun q4 => ?_
      dsimp only
      exact e_g_literal_97 hr _ _
def g_literal_43 (U S N : Nat) (a1 : Int32) (a2 : Int32) (s0 : Int32) (μ : RS) : Option (Int32 × RS) :=
  (g_take U S N μ).bind fun q1 =>
  (g_all U S N q1.2).bind fun q3 =>
  (g_isSign U S N s0 q3.2).bind fun q5 =>
  if q5.1 = 0 then
    g_literal_66 U S N a1 a2 q3.1 q5.2
  else
    (g_take U S N q5.2).bind fun q7 =>
    g_literal_66 U S N a1 a2 q3.1 q7.2
theorem e_g_literal_43 {μ0 : Mem} {r U S : Nat} (hr : r < μ0.1) {N : Nat} (a1 : Int32) (a2 : Int32) (s0 : Int32) (s : RS) : f_X12_literal_43 N (some r) a1 a2 s0 (EM μ0 r (pcs U S) s) = (g_literal_43 U S N a1 a2 s0 s).map (em μ0 r U S) := by
  unfold f_X12_literal_43 g_literal_43
  refine st_ck hr _ ?_
  refine st_call (e_g_take hr _) fun q1 => ?_
  dsimp only
  refine st_ck hr _ ?_
  refine st_call (e_g_all hr _) fun q3 => ?_
  dsimp only
  refine st_ck hr _ ?_
  refine st_call (e_g_isSign hr _ _) fun q5 => ?_
  dsimp only
  refine st_if (fun _ => ?_) (fun _ => ?_)
  · exact e_g_literal_66 hr _ _ _ _
  · refine st_ck hr _ ?_
    refine st_call (e_g_take hr _) fun q7 => ?_
    dsimp only
    exact e_g_literal_66 hr _ _ _ _
def g_literal_26 (U S N : Nat) (a1 : Int32) (s0 : Int32) (μ : RS) : Option (Int32 × RS) :=
  if ¬ (μ.1 14) = (40 : Int32) then
    g_literal_43 U S N a1 s0 93 μ
  else
    g_literal_43 U S N a1 s0 41 μ
theorem e_g_literal_26 {μ0 : Mem} {r U S : Nat} (hr : r < μ0.1) {N : Nat} (a1 : Int32) (s0 : Int32) (s : RS) : f_X12_literal_26 N (some r) a1 s0 (EM μ0 r (pcs U S) s) = (g_literal_26 U S N a1 s0 s).map (em μ0 r U S) := by
  unfold f_X12_literal_26 g_literal_26
  refine st_fI hr _ (by decide) rfl ?_
  refine st_if (fun _ => ?_) (fun _ => ?_)
  · exact e_g_literal_43 hr _ _ _ _
  · exact e_g_literal_43 hr _ _ _ _
def g_literal (U S N : Nat) (μ : RS) : Option (Int32 × RS) :=
  if ¬ (μ.1 14) = (40 : Int32) then
    g_literal_26 U S N (μ.1 13) 0 μ
  else
    if (128 : Int32) = 0 then none else
    g_literal_26 U S N (μ.1 13) ((μ.1 11) / 128) μ
theorem e_g_literal {μ0 : Mem} {r U S : Nat} (hr : r < μ0.1) {N : Nat} (s : RS) : f_X12_literal N (some r) (EM μ0 r (pcs U S) s) = (g_literal U S N  s).map (em μ0 r U S) := by
  unfold f_X12_literal g_literal
  refine st_fI hr _ (by decide) rfl ?_
  refine st_fI hr _ (by decide) rfl ?_
  refine st_if (fun _ => ?_) (fun _ => ?_)
  · exact e_g_literal_26 hr _ _ _
  · refine st_fI hr _ (by decide) rfl ?_
    refine st_if (fun _ => rfl) (fun _ => ?_)
    exact e_g_literal_26 hr _ _ _
def g_memory_125 (U S N : Nat) (s0 : Int32) (s1 : Int32) (μ : RS) : Option (Int32 × RS) :=
  some (s0 ||| s1, μ)
theorem e_g_memory_125 {μ0 : Mem} {r U S : Nat} (hr : r < μ0.1) {N : Nat} (s0 : Int32) (s1 : Int32) (s : RS) : f_X12_memory_125 N s0 s1 (EM μ0 r (pcs U S) s) = (g_memory_125 U S N s0 s1 s).map (em μ0 r U S) := by
  unfold f_X12_memory_125 g_memory_125
  exact rfl
def g_memory_12 (U S N : Nat) (a2 : Int32) (a3 : Int32) (a4 : Int32) (s0 : Int32) (s1 : Int32) (μ : RS) : Option (Int32 × RS) :=
  if (128 : Int32) ≤ a3 then
    if (128 : Int32) = 0 then none else
    if (128 : Int32) = 0 then none else
    if ¬ (a3 / 128) = ((μ.1 11) / 128) then
      if ¬ (μ.1 9) = 0 then
        if a2 = 0 then
          if (128 : Int32) = 0 then none else
          (g_literalFor U S N a3 ((μ.1 11) / 128) a4 μ).bind fun q4 =>
          if (128 : Int32) ≤ q4.1 then
            g_memory_125 U S N ((s0 ||| s1) ||| 256) (128 ||| (q4.1 &&& 127)) q4.2
          else
            g_memory_125 U S N ((s0 ||| s1) ||| 256) q4.1 q4.2
        else
          (g_fails U S N 7 a4 μ).bind fun q6 =>
          some (s0 ||| s1, q6.2)
      else
        some (s0 ||| s1, μ)
    else
      some (((s0 ||| s1) ||| 128) ||| (a3 &&& 127), μ)
  else
    some ((s0 ||| s1) ||| a3, μ)
theorem e_g_memory_12 {μ0 : Mem} {r U S : Nat} (hr : r < μ0.1) {N : Nat} (a2 : Int32) (a3 : Int32) (a4 : Int32) (s0 : Int32) (s1 : Int32) (s : RS) : f_X12_memory_12 N (some r) a2 a3 a4 s0 s1 (EM μ0 r (pcs U S) s) = (g_memory_12 U S N a2 a3 a4 s0 s1 s).map (em μ0 r U S) := by
  unfold f_X12_memory_12 g_memory_12
  refine st_if (fun _ => ?_) (fun _ => ?_)
  · refine st_if (fun _ => rfl) (fun _ => ?_)
    refine st_fI hr _ (by decide) rfl ?_
    refine st_if (fun _ => rfl) (fun _ => ?_)
    refine st_if (fun _ => ?_) (fun _ => ?_)
    · refine st_fI hr _ (by decide) rfl ?_
      refine st_if (fun _ => ?_) (fun _ => ?_)
      · refine st_if (fun _ => ?_) (fun _ => ?_)
        · refine st_fI hr _ (by decide) rfl ?_
          refine st_if (fun _ => rfl) (fun _ => ?_)
          refine st_ck hr _ ?_
          refine st_call (e_g_literalFor hr _ _ _ _) fun q4 => ?_
          dsimp only
          refine st_if (fun _ => ?_) (fun _ => ?_)
          · exact e_g_memory_125 hr _ _ _
          · exact e_g_memory_125 hr _ _ _
        · refine st_ck hr _ ?_
          refine st_call (e_g_fails hr _ _ _) fun q6 => ?_
          dsimp only
          exact rfl
      · exact rfl
    · exact rfl
  · exact rfl
def g_memory (U S N : Nat) (a1 : Int32) (a2 : Int32) (a3 : Int32) (a4 : Int32) (μ : RS) : Option (Int32 × RS) :=
  if a2 = 0 then
    g_memory_12 U S N a2 a3 a4 a1 0 μ
  else
    g_memory_12 U S N a2 a3 a4 a1 256 μ
theorem e_g_memory {μ0 : Mem} {r U S : Nat} (hr : r < μ0.1) {N : Nat} (a1 : Int32) (a2 : Int32) (a3 : Int32) (a4 : Int32) (s : RS) : f_X12_memory N (some r) a1 a2 a3 a4 (EM μ0 r (pcs U S) s) = (g_memory U S N a1 a2 a3 a4 s).map (em μ0 r U S) := by
  unfold f_X12_memory g_memory
  refine st_if (fun _ => ?_) (fun _ => ?_)
  · exact e_g_memory_12 hr _ _ _ _ _ _
  · exact e_g_memory_12 hr _ _ _ _ _ _
def g_word_410 (U S N : Nat) (μ : RS) : Option (Unit × RS) :=
  some ((), μ)
theorem e_g_word_410 {μ0 : Mem} {r U S : Nat} (hr : r < μ0.1) {N : Nat} (s : RS) : f_X12_word_410 N  (EM μ0 r (pcs U S) s) = (g_word_410 U S N  s).map (em μ0 r U S) := by
  unfold f_X12_word_410 g_word_410
  exact rfl
def g_word_398 (U S N : Nat) (a1 : Int32) (μ : RS) : Option (Unit × RS) :=
  if ¬ (μ.1 5) = 0 then
    g_word_410 U S N μ
  else
    (g_lies U S N a1 μ).bind fun q2 =>
    g_word_410 U S N q2.2
theorem e_g_word_398 {μ0 : Mem} {r U S : Nat} (hr : r < μ0.1) {N : Nat} (a1 : Int32) (s : RS) : f_X12_word_398 N (some r) a1 (EM μ0 r (pcs U S) s) = (g_word_398 U S N a1 s).map (em μ0 r U S) := by
  unfold f_X12_word_398 g_word_398
  refine st_fI hr _ (by decide) rfl ?_
  refine st_if (fun _ => ?_) (fun _ => ?_)
  · exact e_g_word_410 hr _
  · refine st_ck hr _ ?_
    refine st_call (e_g_lies hr _ _) fun q2 => ?_
    dsimp only
    exact e_g_word_410 hr _
def g_word_392 (U S N : Nat) (a6 : Int32) (s1 : Int32) (s2 : Int32) (s3 : Int32) (μ : RS) : Option (Unit × RS) :=
  (g_memory U S N s1 s2 s3 a6 μ).bind fun q1 =>
  g_word_398 U S N q1.1 q1.2
theorem e_g_word_392 {μ0 : Mem} {r U S : Nat} (hr : r < μ0.1) {N : Nat} (a6 : Int32) (s1 : Int32) (s2 : Int32) (s3 : Int32) (s : RS) : f_X12_word_392 N (some r) a6 (some r) s1 s2 s3 (EM μ0 r (pcs U S) s) = (g_word_392 U S N a6 s1 s2 s3 s).map (em μ0 r U S) := by
  unfold f_X12_word_392 g_word_392
  refine st_ck hr _ ?_
  refine st_call (e_g_memory hr _ _ _ _ _) fun q1 => ?_
  dsimp only
  exact e_g_word_398 hr _ _
def g_word_354 (U S N : Nat) (a1 : Int32) (a2 : Int32) (a3 : Int32) (a4 : Int32) (a5 : Int32) (a6 : Int32) (μ : RS) : Option (Unit × RS) :=
  if (μ.1 5) ≤ 0 then
    if a2 = (((-1)) : Int32) then
      g_word_398 U S N a1 μ
    else
      if a3 ≤ (1 : Int32) then
        g_word_398 U S N a1 μ
      else
        (xI x_cd a2).bind fun v2 =>
        if ¬ a5 = (((-1)) : Int32) then
          g_word_392 U S N a6 v2 a4 a5 μ
        else
          g_word_392 U S N a6 v2 a4 0 μ
  else
    some ((), μ)
theorem e_g_word_354 {μ0 : Mem} {r U S : Nat} (hr : r < μ0.1) {N : Nat} (a1 : Int32) (a2 : Int32) (a3 : Int32) (a4 : Int32) (a5 : Int32) (a6 : Int32) (s : RS) : f_X12_word_354 N (some r) a1 a2 a3 a4 a5 a6 (EM μ0 r (pcs U S) s) = (g_word_354 U S N a1 a2 a3 a4 a5 a6 s).map (em μ0 r U S) := by
  unfold f_X12_word_354 g_word_354
  refine st_fI hr _ (by decide) rfl ?_
  refine st_if (fun _ => ?_) (fun _ => ?_)
  · refine st_if (fun _ => ?_) (fun _ => ?_)
    · exact e_g_word_398 hr _ _
    · refine st_if (fun _ => ?_) (fun _ => ?_)
      · exact e_g_word_398 hr _ _
      · refine st_b _ fun v2 => ?_
        refine st_if (fun _ => ?_) (fun _ => ?_)
        · exact e_g_word_392 hr _ _ _ _ _
        · exact e_g_word_392 hr _ _ _ _ _
  · exact rfl
def g_word_343 (U S N : Nat) (k113 : Int32 → Int32 → Int32 → Int32 → Int32 → Int32 → Int32 → RS → Option (Unit × RS)) (a1 : Int32) (a2 : Int32) (a3 : Int32) (a4 : Int32) (a5 : Int32) (a6 : Int32) (a7 : Int32) (a9 : Int32) (μ : RS) : Option (Unit × RS) :=
  k113 (a1 ||| a9) a2 (a3 + 1) a4 a5 a6 a7 μ
theorem e_g_word_343 {μ0 : Mem} {r U S : Nat} (hr : r < μ0.1) {N : Nat} {k113 : (Option Nat) → Int32 → Int32 → Int32 → Int32 → Int32 → Int32 → Int32 → Mem → Option (Unit × Mem)} {k113' : Int32 → Int32 → Int32 → Int32 → Int32 → Int32 → Int32 → RS → Option (Unit × RS)} (hk113 : ∀ (x1 : Int32) (x2 : Int32) (x3 : Int32) (x4 : Int32) (x5 : Int32) (x6 : Int32) (x7 : Int32) (s : RS), k113 (some r) x1 x2 x3 x4 x5 x6 x7 (EM μ0 r (pcs U S) s) = (k113' x1 x2 x3 x4 x5 x6 x7 s).map (em μ0 r U S)) (a1 : Int32) (a2 : Int32) (a3 : Int32) (a4 : Int32) (a5 : Int32) (a6 : Int32) (a7 : Int32) (a9 : Int32) (s : RS) : f_X12_word_343 N k113 (some r) a1 a2 a3 a4 a5 a6 a7 a9 (EM μ0 r (pcs U S) s) = (g_word_343 U S N k113' a1 a2 a3 a4 a5 a6 a7 a9 s).map (em μ0 r U S) := by
  unfold f_X12_word_343 g_word_343
  exact hk113 _ _ _ _ _ _ _ _
def g_word_335 (U S N : Nat) (k113 : Int32 → Int32 → Int32 → Int32 → Int32 → Int32 → Int32 → RS → Option (Unit × RS)) (a1 : Int32) (a2 : Int32) (a3 : Int32) (a4 : Int32) (a7 : Int32) (a8 : Int32) (a9 : Int32) (μ : RS) : Option (Unit × RS) :=
  g_word_343 U S N k113 a1 a2 a3 a4 a9 a8 a7 a9 μ
theorem e_g_word_335 {μ0 : Mem} {r U S : Nat} (hr : r < μ0.1) {N : Nat} {k113 : (Option Nat) → Int32 → Int32 → Int32 → Int32 → Int32 → Int32 → Int32 → Mem → Option (Unit × Mem)} {k113' : Int32 → Int32 → Int32 → Int32 → Int32 → Int32 → Int32 → RS → Option (Unit × RS)} (hk113 : ∀ (x1 : Int32) (x2 : Int32) (x3 : Int32) (x4 : Int32) (x5 : Int32) (x6 : Int32) (x7 : Int32) (s : RS), k113 (some r) x1 x2 x3 x4 x5 x6 x7 (EM μ0 r (pcs U S) s) = (k113' x1 x2 x3 x4 x5 x6 x7 s).map (em μ0 r U S)) (a1 : Int32) (a2 : Int32) (a3 : Int32) (a4 : Int32) (a7 : Int32) (a8 : Int32) (a9 : Int32) (s : RS) : f_X12_word_335 N k113 (some r) a1 a2 a3 a4 a7 a8 a9 (EM μ0 r (pcs U S) s) = (g_word_335 U S N k113' a1 a2 a3 a4 a7 a8 a9 s).map (em μ0 r U S) := by
  unfold f_X12_word_335 g_word_335
  exact e_g_word_343 hr hk113 _ _ _ _ _ _ _ _ _
def g_word_330 (U S N : Nat) (k113 : Int32 → Int32 → Int32 → Int32 → Int32 → Int32 → Int32 → RS → Option (Unit × RS)) (a1 : Int32) (a2 : Int32) (a3 : Int32) (a5 : Int32) (a6 : Int32) (a7 : Int32) (a9 : Int32) (s0 : Int32) (μ : RS) : Option (Unit × RS) :=
  g_word_343 U S N k113 a1 a2 a3 s0 a5 a6 a7 a9 μ
theorem e_g_word_330 {μ0 : Mem} {r U S : Nat} (hr : r < μ0.1) {N : Nat} {k113 : (Option Nat) → Int32 → Int32 → Int32 → Int32 → Int32 → Int32 → Int32 → Mem → Option (Unit × Mem)} {k113' : Int32 → Int32 → Int32 → Int32 → Int32 → Int32 → Int32 → RS → Option (Unit × RS)} (hk113 : ∀ (x1 : Int32) (x2 : Int32) (x3 : Int32) (x4 : Int32) (x5 : Int32) (x6 : Int32) (x7 : Int32) (s : RS), k113 (some r) x1 x2 x3 x4 x5 x6 x7 (EM μ0 r (pcs U S) s) = (k113' x1 x2 x3 x4 x5 x6 x7 s).map (em μ0 r U S)) (a1 : Int32) (a2 : Int32) (a3 : Int32) (a5 : Int32) (a6 : Int32) (a7 : Int32) (a9 : Int32) (s0 : Int32) (s : RS) : f_X12_word_330 N k113 (some r) a1 a2 a3 a5 a6 a7 a9 s0 (EM μ0 r (pcs U S) s) = (g_word_330 U S N k113' a1 a2 a3 a5 a6 a7 a9 s0 s).map (em μ0 r U S) := by
  unfold f_X12_word_330 g_word_330
  exact e_g_word_343 hr hk113 _ _ _ _ _ _ _ _ _
def g_word_325 (U S N : Nat) (k113 : Int32 → Int32 → Int32 → Int32 → Int32 → Int32 → Int32 → RS → Option (Unit × RS)) (a1 : Int32) (a2 : Int32) (a3 : Int32) (a5 : Int32) (a6 : Int32) (a7 : Int32) (a9 : Int32) (μ : RS) : Option (Unit × RS) :=
  g_word_330 U S N k113 a1 a2 a3 a5 a6 a7 a9 1 μ
theorem e_g_word_325 {μ0 : Mem} {r U S : Nat} (hr : r < μ0.1) {N : Nat} {k113 : (Option Nat) → Int32 → Int32 → Int32 → Int32 → Int32 → Int32 → Int32 → Mem → Option (Unit × Mem)} {k113' : Int32 → Int32 → Int32 → Int32 → Int32 → Int32 → Int32 → RS → Option (Unit × RS)} (hk113 : ∀ (x1 : Int32) (x2 : Int32) (x3 : Int32) (x4 : Int32) (x5 : Int32) (x6 : Int32) (x7 : Int32) (s : RS), k113 (some r) x1 x2 x3 x4 x5 x6 x7 (EM μ0 r (pcs U S) s) = (k113' x1 x2 x3 x4 x5 x6 x7 s).map (em μ0 r U S)) (a1 : Int32) (a2 : Int32) (a3 : Int32) (a5 : Int32) (a6 : Int32) (a7 : Int32) (a9 : Int32) (s : RS) : f_X12_word_325 N k113 (some r) a1 a2 a3 a5 a6 a7 a9 (EM μ0 r (pcs U S) s) = (g_word_325 U S N k113' a1 a2 a3 a5 a6 a7 a9 s).map (em μ0 r U S) := by
  unfold f_X12_word_325 g_word_325
  exact e_g_word_330 hr hk113 _ _ _ _ _ _ _ _ _
def g_word_311 (U S N : Nat) (k113 : Int32 → Int32 → Int32 → Int32 → Int32 → Int32 → Int32 → RS → Option (Unit × RS)) (a1 : Int32) (a2 : Int32) (a3 : Int32) (a4 : Int32) (a5 : Int32) (a6 : Int32) (a7 : Int32) (a9 : Int32) (μ : RS) : Option (Unit × RS) :=
  if ¬ a4 = 0 then
    g_word_325 U S N k113 a1 a2 a3 a5 a6 a7 a9 μ
  else
    if ¬ (μ.1 30) = (6 : Int32) then
      g_word_330 U S N k113 a1 a2 a3 a5 a6 a7 a9 0 μ
    else
      g_word_325 U S N k113 a1 a2 a3 a5 a6 a7 a9 μ
theorem e_g_word_311 {μ0 : Mem} {r U S : Nat} (hr : r < μ0.1) {N : Nat} {k113 : (Option Nat) → Int32 → Int32 → Int32 → Int32 → Int32 → Int32 → Int32 → Mem → Option (Unit × Mem)} {k113' : Int32 → Int32 → Int32 → Int32 → Int32 → Int32 → Int32 → RS → Option (Unit × RS)} (hk113 : ∀ (x1 : Int32) (x2 : Int32) (x3 : Int32) (x4 : Int32) (x5 : Int32) (x6 : Int32) (x7 : Int32) (s : RS), k113 (some r) x1 x2 x3 x4 x5 x6 x7 (EM μ0 r (pcs U S) s) = (k113' x1 x2 x3 x4 x5 x6 x7 s).map (em μ0 r U S)) (a1 : Int32) (a2 : Int32) (a3 : Int32) (a4 : Int32) (a5 : Int32) (a6 : Int32) (a7 : Int32) (a9 : Int32) (s : RS) : f_X12_word_311 N k113 (some r) a1 a2 a3 a4 a5 a6 a7 a9 (EM μ0 r (pcs U S) s) = (g_word_311 U S N k113' a1 a2 a3 a4 a5 a6 a7 a9 s).map (em μ0 r U S) := by
  unfold f_X12_word_311 g_word_311
  refine st_if (fun _ => ?_) (fun _ => ?_)
  · exact e_g_word_325 hr hk113 _ _ _ _ _ _ _ _
  · refine st_fI hr _ (by decide) rfl ?_
    refine st_if (fun _ => ?_) (fun _ => ?_)
    · exact e_g_word_330 hr hk113 _ _ _ _ _ _ _ _ _
    · exact e_g_word_325 hr hk113 _ _ _ _ _ _ _ _
