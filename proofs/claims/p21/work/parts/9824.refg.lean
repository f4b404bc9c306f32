/-! LAYER 2, the reference over its typed state, further (by program) -/
def g_halt (U S N : Nat) (a1 : Int32) (μ : RS) : Option (Int32 × RS) :=
  (g_isUser U S N a1 μ).bind fun q1 =>
  if q1.1 = 0 then
    g_halt_22 U S N q1.2
  else
    (rA U q1.2 42 a1).bind fun v4 =>
    (g_in U S N v4 1 4 q1.2).bind fun q5 =>
    if ¬ q5.1 = 0 then
      (g_leavesQueue U S N a1 q5.2).bind fun q6 =>
      if ¬ (q6.2.1 64) = a1 then
        g_halt_54 U S N a1 q6.2
      else
        (rA U q6.2 41 a1).bind fun v11 =>
        (wZ S q6.2 40 v11 1).bind fun μ12 =>
        (some (pI μ12 64 ((-1)))).bind fun μ13 =>
        g_halt_54 U S N a1 μ13
    else
      g_halt_22 U S N q5.2
theorem e_g_halt {μ0 : Mem} {r U S : Nat} (hr : r < μ0.1) {N : Nat} (a1 : Int32) (s : RS) : f_X12_halt N (some r) a1 (EM μ0 r (pcs U S) s) = (g_halt U S N a1 s).map (em μ0 r U S) := by
  unfold f_X12_halt g_halt
  refine st_ck hr _ ?_
  refine st_call (e_g_isUser hr _ _) fun q1 => ?_
  dsimp only
  refine st_if (fun _ => ?_) (fun _ => ?_)
  · exact e_g_halt_22 hr _
  · refine st_fR hr _ (by decide) rfl ?_
    refine st_aI hr _ (lk_42 U S) _ fun v4 => ?_
    refine st_call (e_g_in hr _ _ _ _) fun q5 => ?_
    dsimp only
    refine st_if (fun _ => ?_) (fun _ => ?_)
    · refine st_ck hr _ ?_
      refine st_call (e_g_leavesQueue hr _ _) fun q6 => ?_
      dsimp only
      refine st_fI hr _ (by decide) rfl ?_
      refine st_if (fun _ => ?_) (fun _ => ?_)
      · exact e_g_halt_54 hr _ _
      · refine st_fR hr _ (by decide) rfl ?_
        refine st_fR hr _ (by decide) rfl ?_
        refine st_aI hr _ (lk_41 U S) _ fun v11 => ?_
        refine st_bZ hr _ (lk_40 U S) _ _ fun μ12 => ?_
        refine st_pI hr _ (by decide) rfl _ ?_
        exact e_g_halt_54 hr _ _
    · exact e_g_halt_22 hr _
def g_key_18 (U S N : Nat) (μ : RS) : Option (Int32 × RS) :=
  rZ 0 μ
theorem e_g_key_18 {μ0 : Mem} {r U S : Nat} (hr : r < μ0.1) {N : Nat} (s : RS) : f_X12_key_18 N  (EM μ0 r (pcs U S) s) = (g_key_18 U S N  s).map (em μ0 r U S) := by
  unfold f_X12_key_18 g_key_18
  exact st_rZ _ _
def g_key_82 (U S N : Nat) (μ : RS) : Option (Int32 × RS) :=
  rZ 1 μ
theorem e_g_key_82 {μ0 : Mem} {r U S : Nat} (hr : r < μ0.1) {N : Nat} (s : RS) : f_X12_key_82 N  (EM μ0 r (pcs U S) s) = (g_key_82 U S N  s).map (em μ0 r U S) := by
  unfold f_X12_key_82 g_key_82
  exact st_rZ _ _
def g_key (U S N : Nat) (a1 : Int32) (a2 : Int32) (μ : RS) : Option (Int32 × RS) :=
  (g_isUser U S N a1 μ).bind fun q1 =>
  if q1.1 = 0 then
    g_key_18 U S N q1.2
  else
    (g_in U S N a2 0 127 q1.2).bind fun q3 =>
    if ¬ q3.1 = 0 then
      (rA U q3.2 50 a1).bind fun v5 =>
      if ¬ v5 = (16 : Int32) then
        (rQ U a1).bind fun v7 =>
        (rA U q3.2 50 a1).bind fun v9 =>
        (wG 16 q3.2 49 v7 v9 a2).bind fun μ10 =>
        (rA U μ10 50 a1).bind fun v12 =>
        (wA U μ10 50 a1 (v12 + 1)).bind fun μ13 =>
        (rA U μ13 42 a1).bind fun v15 =>
        if ¬ v15 = (2 : Int32) then
          g_key_82 U S N μ13
        else
          (g_becomesReady U S N a1 μ13).bind fun q16 =>
          g_key_82 U S N q16.2
      else
        (rA U q3.2 51 a1).bind fun v19 =>
        (wA U q3.2 51 a1 (v19 + 1)).bind fun μ20 =>
        rZ 0 μ20
    else
      g_key_18 U S N q3.2
theorem e_g_key {μ0 : Mem} {r U S : Nat} (hr : r < μ0.1) {N : Nat} (a1 : Int32) (a2 : Int32) (s : RS) : f_X12_key N (some r) a1 a2 (EM μ0 r (pcs U S) s) = (g_key U S N a1 a2 s).map (em μ0 r U S) := by
  unfold f_X12_key g_key
  refine st_ck hr _ ?_
  refine st_call (e_g_isUser hr _ _) fun q1 => ?_
  dsimp only
  refine st_if (fun _ => ?_) (fun _ => ?_)
  · exact e_g_key_18 hr _
  · refine st_call (e_g_in hr _ _ _ _) fun q3 => ?_
    dsimp only
    refine st_if (fun _ => ?_) (fun _ => ?_)
    · refine st_fR hr _ (by decide) rfl ?_
      refine st_aI hr _ (lk_50 U S) _ fun v5 => ?_
      refine st_if (fun _ => ?_) (fun _ => ?_)
      · refine st_fR hr _ (by decide) rfl ?_
        refine st_aR hr _ (lk_49 U S) _ fun v7 hv7 => ?_
        refine st_fR hr _ (by decide) rfl ?_
        refine st_aI hr _ (lk_50 U S) _ fun v9 => ?_
        refine st_hI hr _ (lk_49 U S) hv7 _ _ fun μ10 => ?_
        refine st_fR hr _ (by decide) rfl ?_
        refine st_aI hr _ (lk_50 U S) _ fun v12 => ?_
        refine st_bI hr _ (lk_50 U S) _ _ fun μ13 => ?_
        refine st_fR hr _ (by decide) rfl ?_
        refine st_aI hr _ (lk_42 U S) _ fun v15 => ?_
        refine st_if (fun _ => ?_) (fun _ => ?_)
        · exact e_g_key_82 hr _
        · refine st_ck hr _ ?_
          refine st_call (e_g_becomesReady hr _ _) fun q16 => ?_
          dsimp only
          exact e_g_key_82 hr _
      · refine st_fR hr _ (by decide) rfl ?_
        refine st_aI hr _ (lk_51 U S) _ fun v19 => ?_
        refine st_bI hr _ (lk_51 U S) _ _ fun μ20 => ?_
        exact st_rZ _ _
    · exact e_g_key_18 hr _
def g_set_15 (U S N : Nat) (μ : RS) : Option (Int32 × RS) :=
  rZ 0 μ
theorem e_g_set_15 {μ0 : Mem} {r U S : Nat} (hr : r < μ0.1) {N : Nat} (s : RS) : f_X12_set_15 N  (EM μ0 r (pcs U S) s) = (g_set_15 U S N  s).map (em μ0 r U S) := by
  unfold f_X12_set_15 g_set_15
  exact st_rZ _ _
def g_set (U S N : Nat) (a1 : Int32) (a2 : Int32) (μ : RS) : Option (Int32 × RS) :=
  (g_isUser U S N a1 μ).bind fun q1 =>
  if q1.1 = 0 then
    g_set_15 U S N q1.2
  else
    (g_isWord U S N a2 q1.2).bind fun q3 =>
    if ¬ q3.1 = 0 then
      (wA U q3.2 47 a1 a2).bind fun μ5 =>
      rZ 1 μ5
    else
      g_set_15 U S N q3.2
theorem e_g_set {μ0 : Mem} {r U S : Nat} (hr : r < μ0.1) {N : Nat} (a1 : Int32) (a2 : Int32) (s : RS) : f_X12_set N (some r) a1 a2 (EM μ0 r (pcs U S) s) = (g_set U S N a1 a2 s).map (em μ0 r U S) := by
  unfold f_X12_set g_set
  refine st_ck hr _ ?_
  refine st_call (e_g_isUser hr _ _) fun q1 => ?_
  dsimp only
  refine st_if (fun _ => ?_) (fun _ => ?_)
  · exact e_g_set_15 hr _
  · refine st_call (e_g_isWord hr _ _) fun q3 => ?_
    dsimp only
    refine st_if (fun _ => ?_) (fun _ => ?_)
    · refine st_fR hr _ (by decide) rfl ?_
      refine st_bI hr _ (lk_47 U S) _ _ fun μ5 => ?_
      exact st_rZ _ _
    · exact e_g_set_15 hr _
def g_store (U S N : Nat) (a1 : Int32) (a2 : Int32) (a3 : Int32) (μ : RS) : Option (Unit × RS) :=
  (rA U μ 41 a1).bind fun v3 =>
  (rQ S v3).bind fun v4 =>
  (wG 4096 μ 35 v4 (a2 &&& 4095) (a3 &&& 4095)).bind fun μ5 =>
  (rA U μ5 41 a1).bind fun v8 =>
  (wZ S μ5 39 v8 1).bind fun μ9 =>
  some ((), μ9)
theorem e_g_store {μ0 : Mem} {r U S : Nat} (hr : r < μ0.1) {N : Nat} (a1 : Int32) (a2 : Int32) (a3 : Int32) (s : RS) : f_X12_store N (some r) a1 a2 a3 (EM μ0 r (pcs U S) s) = (g_store U S N a1 a2 a3 s).map (em μ0 r U S) := by
  unfold f_X12_store g_store
  refine st_fR hr _ (by decide) rfl ?_
  refine st_fR hr _ (by decide) rfl ?_
  refine st_aI hr _ (lk_41 U S) _ fun v3 => ?_
  refine st_aR hr _ (lk_35 U S) _ fun v4 hv4 => ?_
  refine st_hI hr _ (lk_35 U S) hv4 _ _ fun μ5 => ?_
  refine st_fR hr _ (by decide) rfl ?_
  refine st_fR hr _ (by decide) rfl ?_
  refine st_aI hr _ (lk_41 U S) _ fun v8 => ?_
  refine st_bZ hr _ (lk_39 U S) _ _ fun μ9 => ?_
  exact rfl
def g_deposit_30 (U S N : Nat) (μ : RS) : Option (Int32 × RS) :=
  rZ 0 μ
theorem e_g_deposit_30 {μ0 : Mem} {r U S : Nat} (hr : r < μ0.1) {N : Nat} (s : RS) : f_X12_deposit_30 N  (EM μ0 r (pcs U S) s) = (g_deposit_30 U S N  s).map (em μ0 r U S) := by
  unfold f_X12_deposit_30 g_deposit_30
  exact st_rZ _ _
def g_deposit_61 (U S N : Nat) (μ : RS) : Option (Int32 × RS) :=
  rZ 1 μ
theorem e_g_deposit_61 {μ0 : Mem} {r U S : Nat} (hr : r < μ0.1) {N : Nat} (s : RS) : f_X12_deposit_61 N  (EM μ0 r (pcs U S) s) = (g_deposit_61 U S N  s).map (em μ0 r U S) := by
  unfold f_X12_deposit_61 g_deposit_61
  exact st_rZ _ _
def g_deposit (U S N : Nat) (a1 : Int32) (a2 : Int32) (a3 : Int32) (μ : RS) : Option (Int32 × RS) :=
  (g_rests U S N a1 μ).bind fun q1 =>
  if q1.1 = 0 then
    g_deposit_30 U S N q1.2
  else
    (g_isMoved U S N a1 q1.2).bind fun q3 =>
    if ¬ q3.1 = 0 then
      g_deposit_30 U S N q3.2
    else
      (g_isWord U S N a2 q3.2).bind fun q5 =>
      if q5.1 = 0 then
        g_deposit_30 U S N q5.2
      else
        (g_isWord U S N a3 q5.2).bind fun q6 =>
        if ¬ q6.1 = 0 then
          (rA U q6.2 41 a1).bind fun v8 =>
          if ¬ v8 = (((-1)) : Int32) then
            (g_store U S N a1 a2 a3 q6.2).bind fun q9 =>
            g_deposit_61 U S N q9.2
          else
            (rQ U a1).bind fun v12 =>
            (wG 4096 q6.2 36 v12 a2 a3).bind fun μ13 =>
            g_deposit_61 U S N μ13
        else
          g_deposit_30 U S N q6.2
theorem e_g_deposit {μ0 : Mem} {r U S : Nat} (hr : r < μ0.1) {N : Nat} (a1 : Int32) (a2 : Int32) (a3 : Int32) (s : RS) : f_X12_deposit N (some r) a1 a2 a3 (EM μ0 r (pcs U S) s) = (g_deposit U S N a1 a2 a3 s).map (em μ0 r U S) := by
  unfold f_X12_deposit g_deposit
  refine st_ck hr _ ?_
  refine st_call (e_g_rests hr _ _) fun q1 => ?_
  dsimp only
  refine st_if (fun _ => ?_) (fun _ => ?_)
  · exact e_g_deposit_30 hr _
  · refine st_ck hr _ ?_
    refine st_call (e_g_isMoved hr _ _) fun q3 => ?_
    dsimp only
    refine st_if (fun _ => ?_) (fun _ => ?_)
    · exact e_g_deposit_30 hr _
    · refine st_call (e_g_isWord hr _ _) fun q5 => ?_
      dsimp only
      refine st_if (fun _ => ?_) (fun _ => ?_)
      · exact e_g_deposit_30 hr _
      · refine st_call (e_g_isWord hr _ _) fun q6 => ?_
        dsimp only
        refine st_if (fun _ => ?_) (fun _ => ?_)
        · refine st_fR hr _ (by decide) rfl ?_
          refine st_aI hr _ (lk_41 U S) _ fun v8 => ?_
          refine st_if (fun _ => ?_) (fun _ => ?_)
          · refine st_ck hr _ ?_
            refine st_call (e_g_store hr _ _ _ _) fun q9 => ?_
            dsimp only
            exact e_g_deposit_61 hr _
          · refine st_fR hr _ (by decide) rfl ?_
            refine st_aR hr _ (lk_36 U S) _ fun v12 hv12 => ?_
            refine st_hI hr _ (lk_36 U S) hv12 _ _ fun μ13 => ?_
            exact e_g_deposit_61 hr _
        · exact e_g_deposit_30 hr _
def g_clocks_50 (U S N : Nat) (μ : RS) : Option (Unit × RS) :=
  some ((), μ)
theorem e_g_clocks_50 {μ0 : Mem} {r U S : Nat} (hr : r < μ0.1) {N : Nat} (s : RS) : f_X12_clocks_50 N  (EM μ0 r (pcs U S) s) = (g_clocks_50 U S N  s).map (em μ0 r U S) := by
  unfold f_X12_clocks_50 g_clocks_50
  exact rfl
def g_clocks_170 (U S N : Nat) (μ : RS) : Option (Unit × RS) :=
  some ((), μ)
theorem e_g_clocks_170 {μ0 : Mem} {r U S : Nat} (hr : r < μ0.1) {N : Nat} (s : RS) : f_X12_clocks_170 N  (EM μ0 r (pcs U S) s) = (g_clocks_170 U S N  s).map (em μ0 r U S) := by
  unfold f_X12_clocks_170 g_clocks_170
  exact rfl
def h_clocks_106 (U S N : Nat) (k106 : Int32 → Int32 → RS → Option (Unit × RS)) (a1 : Int32) (a2 : Int32) (μ : RS) : Option (Unit × RS) :=
  (rA U μ 53 a1).bind fun v2 =>
  if v2 ≤ a2 then
    (wA U μ 56 a1 ((μ.1 66) + (μ.1 34))).bind fun μ6 =>
    (rA U μ6 42 a1).bind fun v8 =>
    if ¬ v8 = (3 : Int32) then
      g_clocks_170 U S N μ6
    else
      (g_becomesReady U S N a1 μ6).bind fun q9 =>
      g_clocks_170 U S N q9.2
  else
    (rQ U a1).bind fun v12 =>
    (rQ U a1).bind fun v14 =>
    (rG 16 μ 52 v14 (a2 + 1)).bind fun v15 =>
    (wG 16 μ 52 v12 a2 v15).bind fun μ16 =>
    k106 a1 (a2 + 1) μ16
theorem e_h_clocks_106 {μ0 : Mem} {r U S : Nat} (hr : r < μ0.1) {N : Nat} {k106 : (Option Nat) → Int32 → Int32 → Mem → Option (Unit × Mem)} {k106' : Int32 → Int32 → RS → Option (Unit × RS)} (hk106 : ∀ (x1 : Int32) (x2 : Int32) (s : RS), k106 (some r) x1 x2 (EM μ0 r (pcs U S) s) = (k106' x1 x2 s).map (em μ0 r U S)) (a1 : Int32) (a2 : Int32) (s : RS) : H_X12_clocks_106 N k106 (some r) a1 a2 (EM μ0 r (pcs U S) s) = (h_clocks_106 U S N k106' a1 a2 s).map (em μ0 r U S) := by
  unfold H_X12_clocks_106 h_clocks_106
  refine st_fR hr _ (by decide) rfl ?_
  refine st_aI hr _ (lk_53 U S) _ fun v2 => ?_
  refine st_if (fun _ => ?_) (fun _ => ?_)
  · refine st_fR hr _ (by decide) rfl ?_
    refine st_fI hr _ (by decide) rfl ?_
    refine st_fI hr _ (by decide) rfl ?_
    refine st_bI hr _ (lk_56 U S) _ _ fun μ6 => ?_
    refine st_fR hr _ (by decide) rfl ?_
    refine st_aI hr _ (lk_42 U S) _ fun v8 => ?_
    refine st_if (fun _ => ?_) (fun _ => ?_)
    · exact e_g_clocks_170 hr _
    · refine st_ck hr _ ?_
      refine st_call (e_g_becomesReady hr _ _) fun q9 => ?_
      dsimp only
      exact e_g_clocks_170 hr _
  · refine st_fR hr _ (by decide) rfl ?_
    refine st_aR hr _ (lk_52 U S) _ fun v12 hv12 => ?_
    refine st_fR hr _ (by decide) rfl ?_
    refine st_aR hr _ (lk_52 U S) _ fun v14 hv14 => ?_
    refine st_gI hr _ (lk_52 U S) hv14 _ fun v15 => ?_
    refine st_hI hr _ (lk_52 U S) hv12 _ _ fun μ16 => ?_
    exact hk106 _ _ _
def l_clocks_106 (U S N : Nat)  : Nat → Int32 → Int32 → RS → Option (Unit × RS)
  | 0 => fun _ _ _ => none
  | n + 1 => h_clocks_106 U S N (l_clocks_106 U S N n)
theorem e_l_clocks_106 {μ0 : Mem} {r U S : Nat} (hr : r < μ0.1) {N : Nat} : ∀ (n : Nat) (x1 : Int32) (x2 : Int32) (s : RS), L_X12_clocks_106 N n (some r) x1 x2 (EM μ0 r (pcs U S) s) = (l_clocks_106 U S N n x1 x2 s).map (em μ0 r U S) := by
  intro n
  induction n with
  | zero => intros; exact rfl
  | succ n ih => intros; exact e_h_clocks_106 hr ih _ _ _
def g_clocks_84 (U S N : Nat) (a1 : Int32) (μ : RS) : Option (Unit × RS) :=
  (rA U μ 55 a1).bind fun v2 =>
  (wA U μ 55 a1 (v2 + 1)).bind fun μ3 =>
  (rA U μ3 53 a1).bind fun v5 =>
  (wA U μ3 53 a1 (v5 - 1)).bind fun μ6 =>
  l_clocks_106 U S N N a1 0 μ6
theorem e_g_clocks_84 {μ0 : Mem} {r U S : Nat} (hr : r < μ0.1) {N : Nat} (a1 : Int32) (s : RS) : f_X12_clocks_84 N (some r) a1 (EM μ0 r (pcs U S) s) = (g_clocks_84 U S N a1 s).map (em μ0 r U S) := by
  unfold f_X12_clocks_84 g_clocks_84
  refine st_fR hr _ (by decide) rfl ?_
  refine st_aI hr _ (lk_55 U S) _ fun v2 => ?_
  refine st_bI hr _ (lk_55 U S) _ _ fun μ3 => ?_
  refine st_fR hr _ (by decide) rfl ?_
  refine st_aI hr _ (lk_53 U S) _ fun v5 => ?_
  refine st_bI hr _ (lk_53 U S) _ _ fun μ6 => ?_
  exact e_l_clocks_106 hr N _ _ _
def g_clocks_28 (U S N : Nat) (a1 : Int32) (μ : RS) : Option (Unit × RS) :=
  (rA U μ 53 a1).bind fun v2 =>
  if v2 = 0 then
    g_clocks_50 U S N μ
  else
    (rA U μ 56 a1).bind fun v5 =>
    if v5 ≤ (μ.1 66) then
      (rA U μ 55 a1).bind fun v7 =>
      if (500 : Int32) ≤ v7 then
        g_clocks_84 U S N a1 μ
      else
        (rQ U a1).bind fun v9 =>
        (rA U μ 55 a1).bind fun v11 =>
        (rQ U a1).bind fun v13 =>
        (rG 16 μ 52 v13 0).bind fun v14 =>
        (wG 500 μ 54 v9 v11 v14).bind fun μ15 =>
        g_clocks_84 U S N a1 μ15
    else
      g_clocks_50 U S N μ
theorem e_g_clocks_28 {μ0 : Mem} {r U S : Nat} (hr : r < μ0.1) {N : Nat} (a1 : Int32) (s : RS) : f_X12_clocks_28 N (some r) a1 (EM μ0 r (pcs U S) s) = (g_clocks_28 U S N a1 s).map (em μ0 r U S) := by
  unfold f_X12_clocks_28 g_clocks_28
  refine st_fR hr _ (by decide) rfl ?_
  refine st_aI hr _ (lk_53 U S) _ fun v2 => ?_
  refine st_if (fun _ => ?_) (fun _ => ?_)
  · exact e_g_clocks_50 hr _
  · refine st_fI hr _ (by decide) rfl ?_
    refine st_fR hr _ (by decide) rfl ?_
    refine st_aI hr _ (lk_56 U S) _ fun v5 => ?_
    refine st_if (fun _ => ?_) (fun _ => ?_)
    · refine st_fR hr _ (by decide) rfl ?_
      refine st_aI hr _ (lk_55 U S) _ fun v7 => ?_
      refine st_if (fun _ => ?_) (fun _ => ?_)
      · exact e_g_clocks_84 hr _ _
      · refine st_fR hr _ (by decide) rfl ?_
        refine st_aR hr _ (lk_54 U S) _ fun v9 hv9 => ?_
        refine st_fR hr _ (by decide) rfl ?_
        refine st_aI hr _ (lk_55 U S) _ fun v11 => ?_
        refine st_fR hr _ (by decide) rfl ?_
        refine st_aR hr _ (lk_52 U S) _ fun v13 hv13 => ?_
        refine st_gI hr _ (lk_52 U S) hv13 _ fun v14 => ?_
        refine st_hI hr _ (lk_54 U S) hv9 _ _ fun μ15 => ?_
        exact e_g_clocks_84 hr _ _
    · exact e_g_clocks_50 hr _
def g_clocks (U S N : Nat) (a1 : Int32) (μ : RS) : Option (Unit × RS) :=
  (rA U μ 42 a1).bind fun v2 =>
  if ¬ v2 = (4 : Int32) then
    g_clocks_28 U S N a1 μ
  else
    (rA U μ 57 a1).bind fun v5 =>
    if (μ.1 66) < v5 then
      g_clocks_28 U S N a1 μ
    else
      (g_becomesReady U S N a1 μ).bind fun q6 =>
      g_clocks_28 U S N a1 q6.2
theorem e_g_clocks {μ0 : Mem} {r U S : Nat} (hr : r < μ0.1) {N : Nat} (a1 : Int32) (s : RS) : f_X12_clocks N (some r) a1 (EM μ0 r (pcs U S) s) = (g_clocks U S N a1 s).map (em μ0 r U S) := by
  unfold f_X12_clocks g_clocks
  refine st_fR hr _ (by decide) rfl ?_
  refine st_aI hr _ (lk_42 U S) _ fun v2 => ?_
  refine st_if (fun _ => ?_) (fun _ => ?_)
  · exact e_g_clocks_28 hr _ _
  · refine st_fI hr _ (by decide) rfl ?_
    refine st_fR hr _ (by decide) rfl ?_
    refine st_aI hr _ (lk_57 U S) _ fun v5 => ?_
    refine st_if (fun _ => ?_) (fun _ => ?_)
    · exact e_g_clocks_28 hr _ _
    · refine st_ck hr _ ?_
      refine st_call (e_g_becomesReady hr _ _) fun q6 => ?_
      dsimp only
      exact e_g_clocks_28 hr _ _
def g_load (U S N : Nat) (a1 : Int32) (a2 : Int32) (μ : RS) : Option (Int32 × RS) :=
  (rA U μ 41 a1).bind fun v3 =>
  (rQ S v3).bind fun v4 =>
  (rG 4096 μ 35 v4 (a2 &&& 4095)).bind fun v5 =>
  some (v5, μ)
theorem e_g_load {μ0 : Mem} {r U S : Nat} (hr : r < μ0.1) {N : Nat} (a1 : Int32) (a2 : Int32) (s : RS) : f_X12_load N (some r) a1 a2 (EM μ0 r (pcs U S) s) = (g_load U S N a1 a2 s).map (em μ0 r U S) := by
  unfold f_X12_load g_load
  refine st_fR hr _ (by decide) rfl ?_
  refine st_fR hr _ (by decide) rfl ?_
  refine st_aI hr _ (lk_41 U S) _ fun v3 => ?_
  refine st_aR hr _ (lk_35 U S) _ fun v4 hv4 => ?_
  refine st_gI hr _ (lk_35 U S) hv4 _ fun v5 => ?_
  exact rfl
def g_ends_158 (U S N : Nat) (s1 : Int32) (μ : RS) : Option (Unit × RS) :=
  (pZ μ 77 s1).bind fun μ1 =>
  (some (pI μ1 67 0)).bind fun μ2 =>
  some ((), μ2)
theorem e_g_ends_158 {μ0 : Mem} {r U S : Nat} (hr : r < μ0.1) {N : Nat} (s1 : Int32) (s : RS) : f_X12_ends_158 N (some r) (some r) s1 (EM μ0 r (pcs U S) s) = (g_ends_158 U S N s1 s).map (em μ0 r U S) := by
  unfold f_X12_ends_158 g_ends_158
  refine st_pZ hr _ (by decide) rfl _ fun μ1 => ?_
  refine st_pI hr _ (by decide) rfl _ ?_
  exact rfl
def g_ends_144 (U S N : Nat) (μ : RS) : Option (Unit × RS) :=
  if (μ.1 67) ≤ (2 : Int32) then
    g_ends_158 U S N 0 μ
  else
    g_ends_158 U S N 1 μ
theorem e_g_ends_144 {μ0 : Mem} {r U S : Nat} (hr : r < μ0.1) {N : Nat} (s : RS) : f_X12_ends_144 N (some r) (EM μ0 r (pcs U S) s) = (g_ends_144 U S N  s).map (em μ0 r U S) := by
  unfold f_X12_ends_144 g_ends_144
  refine st_fI hr _ (by decide) rfl ?_
  refine st_if (fun _ => ?_) (fun _ => ?_)
  · exact e_g_ends_158 hr _ _
  · exact e_g_ends_158 hr _ _
def g_ends (U S N : Nat) (a1 : Int32) (μ : RS) : Option (Unit × RS) :=
  if ¬ (μ.1 67) = (1 : Int32) then
    if ¬ (μ.1 67) = (2 : Int32) then
      (wA U μ 43 a1 0).bind fun μ4 =>
      (rA U μ4 48 a1).bind fun v6 =>
      (wA U μ4 48 a1 (v6 + 1)).bind fun μ7 =>
      (some (pI μ7 75 ((μ7.1 75) + 1))).bind fun μ9 =>
      (some (pI μ9 73 ((μ9.1 73) + 1))).bind fun μ11 =>
      (rA U μ11 41 a1).bind fun v14 =>
      (wZ S μ11 40 v14 1).bind fun μ15 =>
      (g_becomesReady U S N a1 μ15).bind fun q16 =>
      g_ends_144 U S N q16.2
    else
      (wA U μ 41 a1 (μ.1 69)).bind fun μ20 =>
      (wA S μ20 38 (μ20.1 69) a1).bind fun μ23 =>
      (wZ S μ23 39 (μ23.1 69) 0).bind fun μ26 =>
      (wZ S μ26 40 (μ26.1 69) 0).bind fun μ29 =>
      (some (pI μ29 71 ((μ29.1 71) + 1))).bind fun μ31 =>
      g_ends_144 U S N μ31
  else
    (g_nobodys U S N (μ.1 69) μ).bind fun q33 =>
    (some (pI q33.2 72 ((q33.2.1 72) + 1))).bind fun μ36 =>
    g_ends_144 U S N μ36
theorem e_g_ends {μ0 : Mem} {r U S : Nat} (hr : r < μ0.1) {N : Nat} (a1 : Int32) (s : RS) : f_X12_ends N (some r) a1 (EM μ0 r (pcs U S) s) = (g_ends U S N a1 s).map (em μ0 r U S) := by
  unfold f_X12_ends g_ends
  refine st_fI hr _ (by decide) rfl ?_
  refine st_if (fun _ => ?_) (fun _ => ?_)
  · refine st_fI hr _ (by decide) rfl ?_
    refine st_if (fun _ => ?_) (fun _ => ?_)
    · refine st_fR hr _ (by decide) rfl ?_
      refine st_bI hr _ (lk_43 U S) _ _ fun μ4 => ?_
      refine st_fR hr _ (by decide) rfl ?_
      refine st_aI hr _ (lk_48 U S) _ fun v6 => ?_
      refine st_bI hr _ (lk_48 U S) _ _ fun μ7 => ?_
      refine st_fI hr _ (by decide) rfl ?_
      refine st_pI hr _ (by decide) rfl _ ?_
      refine st_fI hr _ (by decide) rfl ?_
      refine st_pI hr _ (by decide) rfl _ ?_
      refine st_fR hr _ (by decide) rfl ?_
      refine st_fR hr _ (by decide) rfl ?_
      refine st_aI hr _ (lk_41 U S) _ fun v14 => ?_
      refine st_bZ hr _ (lk_40 U S) _ _ fun μ15 => ?_
      refine st_ck hr _ ?_
      refine st_call (e_g_becomesReady hr _ _) fun q16 => ?_
      dsimp only
      exact e_g_ends_144 hr _
    · refine st_fR hr _ (by decide) rfl ?_
      refine st_fI hr _ (by decide) rfl ?_
      refine st_bI hr _ (lk_41 U S) _ _ fun μ20 => ?_
      refine st_fR hr _ (by decide) rfl ?_
      refine st_fI hr _ (by decide) rfl ?_
      refine st_bI hr _ (lk_38 U S) _ _ fun μ23 => ?_
      refine st_fR hr _ (by decide) rfl ?_
      refine st_fI hr _ (by decide) rfl ?_
      refine st_bZ hr _ (lk_39 U S) _ _ fun μ26 => ?_
      refine st_fR hr _ (by decide) rfl ?_
      refine st_fI hr _ (by decide) rfl ?_
      refine st_bZ hr _ (lk_40 U S) _ _ fun μ29 => ?_
      refine st_fI hr _ (by decide) rfl ?_
      refine st_pI hr _ (by decide) rfl _ ?_
      exact e_g_ends_144 hr _
  · refine st_fI hr _ (by decide) rfl ?_
    refine st_ck hr _ ?_
    refine st_call (e_g_nobodys hr _ _) fun q33 => ?_
    dsimp only
    refine st_fI hr _ (by decide) rfl ?_
    refine st_pI hr _ (by decide) rfl _ ?_
    exact e_g_ends_144 hr _
def g_moves_204 (U S N : Nat) (μ : RS) : Option (Unit × RS) :=
  some ((), μ)
theorem e_g_moves_204 {μ0 : Mem} {r U S : Nat} (hr : r < μ0.1) {N : Nat} (s : RS) : f_X12_moves_204 N  (EM μ0 r (pcs U S) s) = (g_moves_204 U S N  s).map (em μ0 r U S) := by
  unfold f_X12_moves_204 g_moves_204
  exact rfl
def g_moves_196 (U S N : Nat) (a1 : Int32) (s0 : Int32) (s1 : Int32) (μ : RS) : Option (Unit × RS) :=
  if ¬ s0 = s1 then
    g_moves_204 U S N μ
  else
    (g_ends U S N a1 μ).bind fun q1 =>
    g_moves_204 U S N q1.2
theorem e_g_moves_196 {μ0 : Mem} {r U S : Nat} (hr : r < μ0.1) {N : Nat} (a1 : Int32) (s0 : Int32) (s1 : Int32) (s : RS) : f_X12_moves_196 N (some r) a1 s0 s1 (EM μ0 r (pcs U S) s) = (g_moves_196 U S N a1 s0 s1 s).map (em μ0 r U S) := by
  unfold f_X12_moves_196 g_moves_196
  refine st_if (fun _ => ?_) (fun _ => ?_)
  · exact e_g_moves_204 hr _
  · refine st_ck hr _ ?_
    refine st_call (e_g_ends hr _ _) fun q1 => ?_
    dsimp only
    exact e_g_moves_204 hr _
def g_moves_159 (U S N : Nat) (k7 : Int32 → Int32 → RS → Option (Unit × RS)) (a1 : Int32) (a2 : Int32) (μ : RS) : Option (Unit × RS) :=
  (some (pI μ 70 ((μ.1 70) + 1))).bind fun μ2 =>
  k7 a1 (a2 + 1) μ2
theorem e_g_moves_159 {μ0 : Mem} {r U S : Nat} (hr : r < μ0.1) {N : Nat} {k7 : (Option Nat) → Int32 → Int32 → Mem → Option (Unit × Mem)} {k7' : Int32 → Int32 → RS → Option (Unit × RS)} (hk7 : ∀ (x1 : Int32) (x2 : Int32) (s : RS), k7 (some r) x1 x2 (EM μ0 r (pcs U S) s) = (k7' x1 x2 s).map (em μ0 r U S)) (a1 : Int32) (a2 : Int32) (s : RS) : f_X12_moves_159 N k7 (some r) a1 a2 (EM μ0 r (pcs U S) s) = (g_moves_159 U S N k7' a1 a2 s).map (em μ0 r U S) := by
  unfold f_X12_moves_159 g_moves_159
  refine st_fI hr _ (by decide) rfl ?_
  refine st_pI hr _ (by decide) rfl _ ?_
  exact hk7 _ _ _
def h_moves_7 (U S N : Nat) (k7 : Int32 → Int32 → RS → Option (Unit × RS)) (a1 : Int32) (a2 : Int32) (μ : RS) : Option (Unit × RS) :=
  if (16 : Int32) ≤ a2 then
    if (3 : Int32) ≤ (μ.1 67) then
      g_moves_196 U S N a1 (μ.1 70) 128 μ
    else
      g_moves_196 U S N a1 (μ.1 70) 4096 μ
  else
    (rA U μ 59 a1).bind fun v4 =>
    (rA U μ 60 a1).bind fun v7 =>
    if ¬ (μ.1 67) = (1 : Int32) then
      if ¬ (μ.1 67) = (2 : Int32) then
        if ¬ (μ.1 67) = (3 : Int32) then
          (rQ U a1).bind fun v13 =>
          (g_load U S N a1 ((v4 + (μ.1 70)) &&& 4095) μ).bind fun q14 =>
          (wG 1024 q14.2 37 v13 ((128 * v7) + (μ.1 70)) q14.1).bind fun μ16 =>
          g_moves_159 U S N k7 a1 a2 μ16
        else
          (rQ U a1).bind fun v18 =>
          (rG 1024 μ 37 v18 ((128 * v7) + (μ.1 70))).bind fun v19 =>
          (g_store U S N a1 ((v4 + (μ.1 70)) &&& 4095) v19 μ).bind fun q20 =>
          g_moves_159 U S N k7 a1 a2 q20.2
      else
        (rQ S (μ.1 69)).bind fun v24 =>
        (rQ U a1).bind fun v27 =>
        (rG 4096 μ 36 v27 (μ.1 70)).bind fun v29 =>
        (wG 4096 μ 35 v24 (μ.1 70) v29).bind fun μ30 =>
        g_moves_159 U S N k7 a1 a2 μ30
    else
      (rQ U a1).bind fun v32 =>
      (rQ S (μ.1 69)).bind fun v36 =>
      (rG 4096 μ 35 v36 (μ.1 70)).bind fun v38 =>
      (wG 4096 μ 36 v32 (μ.1 70) v38).bind fun μ39 =>
      g_moves_159 U S N k7 a1 a2 μ39
theorem e_h_moves_7 {μ0 : Mem} {r U S : Nat} (hr : r < μ0.1) {N : Nat} {k7 : (Option Nat) → Int32 → Int32 → Mem → Option (Unit × Mem)} {k7' : Int32 → Int32 → RS → Option (Unit × RS)} (hk7 : ∀ (x1 : Int32) (x2 : Int32) (s : RS), k7 (some r) x1 x2 (EM μ0 r (pcs U S) s) = (k7' x1 x2 s).map (em μ0 r U S)) (a1 : Int32) (a2 : Int32) (s : RS) : H_X12_moves_7 N k7 (some r) a1 a2 (EM μ0 r (pcs U S) s) = (h_moves_7 U S N k7' a1 a2 s).map (em μ0 r U S) := by
  unfold H_X12_moves_7 h_moves_7
  refine st_if (fun _ => ?_) (fun _ => ?_)
  · refine st_fI hr _ (by decide) rfl ?_
    refine st_fI hr _ (by decide) rfl ?_
    refine st_if (fun _ => ?_) (fun _ => ?_)
    · exact e_g_moves_196 hr _ _ _ _
    · exact e_g_moves_196 hr _ _ _ _
  · refine st_fR hr _ (by decide) rfl ?_
    refine st_aI hr _ (lk_59 U S) _ fun v4 => ?_
    refine st_fI hr _ (by decide) rfl ?_
    refine st_fR hr _ (by decide) rfl ?_
    refine st_aI hr _ (lk_60 U S) _ fun v7 => ?_
    refine st_fI hr _ (by decide) rfl ?_
    refine st_fI hr _ (by decide) rfl ?_
    refine st_if (fun _ => ?_) (fun _ => ?_)
    · refine st_fI hr _ (by decide) rfl ?_
      refine st_if (fun _ => ?_) (fun _ => ?_)
      · refine st_fI hr _ (by decide) rfl ?_
        refine st_if (fun _ => ?_) (fun _ => ?_)
        · refine st_fR hr _ (by decide) rfl ?_
          refine st_aR hr _ (lk_37 U S) _ fun v13 hv13 => ?_
          refine st_ck hr _ ?_
          refine st_call (e_g_load hr _ _ _) fun q14 => ?_
          dsimp only
          refine st_hI hr _ (lk_37 U S) hv13 _ _ fun μ16 => ?_
          exact e_g_moves_159 hr hk7 _ _ _
        · refine st_fR hr _ (by decide) rfl ?_
          refine st_aR hr _ (lk_37 U S) _ fun v18 hv18 => ?_
          refine st_gI hr _ (lk_37 U S) hv18 _ fun v19 => ?_
          refine st_ck hr _ ?_
          refine st_call (e_g_store hr _ _ _ _) fun q20 => ?_
          dsimp only
          exact e_g_moves_159 hr hk7 _ _ _
      · refine st_fR hr _ (by decide) rfl ?_
        refine st_fI hr _ (by decide) rfl ?_
        refine st_aR hr _ (lk_35 U S) _ fun v24 hv24 => ?_
        refine st_fI hr _ (by decide) rfl ?_
        refine st_fR hr _ (by decide) rfl ?_
        refine st_aR hr _ (lk_36 U S) _ fun v27 hv27 => ?_
        refine st_fI hr _ (by decide) rfl ?_
        refine st_gI hr _ (lk_36 U S) hv27 _ fun v29 => ?_
        refine st_hI hr _ (lk_35 U S) hv24 _ _ fun μ30 => ?_
        exact e_g_moves_159 hr hk7 _ _ _
    · refine st_fR hr _ (by decide) rfl ?_
      refine st_aR hr _ (lk_36 U S) _ fun v32 hv32 => ?_
      refine st_fI hr _ (by decide) rfl ?_
      refine st_fR hr _ (by decide) rfl ?_
      refine st_fI hr _ (by decide) rfl ?_
      refine st_aR hr _ (lk_35 U S) _ fun v36 hv36 => ?_
      refine st_fI hr _ (by decide) rfl ?_
      refine st_gI hr _ (lk_35 U S) hv36 _ fun v38 => ?_
      refine st_hI hr _ (lk_36 U S) hv32 _ _ fun μ39 => ?_
      exact e_g_moves_159 hr hk7 _ _ _
def l_moves_7 (U S N : Nat)  : Nat → Int32 → Int32 → RS → Option (Unit × RS)
  | 0 => fun _ _ _ => none
  | n + 1 => h_moves_7 U S N (l_moves_7 U S N n)
theorem e_l_moves_7 {μ0 : Mem} {r U S : Nat} (hr : r < μ0.1) {N : Nat} : ∀ (n : Nat) (x1 : Int32) (x2 : Int32) (s : RS), L_X12_moves_7 N n (some r) x1 x2 (EM μ0 r (pcs U S) s) = (l_moves_7 U S N n x1 x2 s).map (em μ0 r U S) := by
  intro n
  induction n with
  | zero => intros; exact rfl
  | succ n ih => intros; exact e_h_moves_7 hr ih _ _ _
def g_moves (U S N : Nat) (μ : RS) : Option (Unit × RS) :=
  l_moves_7 U S N N (μ.1 68) 0 μ
theorem e_g_moves {μ0 : Mem} {r U S : Nat} (hr : r < μ0.1) {N : Nat} (s : RS) : f_X12_moves N (some r) (EM μ0 r (pcs U S) s) = (g_moves U S N  s).map (em μ0 r U S) := by
  unfold f_X12_moves g_moves
  refine st_fI hr _ (by decide) rfl ?_
  exact e_l_moves_7 hr N _ _ _
def g_given_97 (U S N : Nat) (k50 : Int32 → RS → Option (Int32 × RS)) (a1 : Int32) (μ : RS) : Option (Int32 × RS) :=
  k50 (a1 + 1) μ
theorem e_g_given_97 {μ0 : Mem} {r U S : Nat} (hr : r < μ0.1) {N : Nat} {k50 : (Option Nat) → Int32 → Mem → Option (Int32 × Mem)} {k50' : Int32 → RS → Option (Int32 × RS)} (hk50 : ∀ (x1 : Int32) (s : RS), k50 (some r) x1 (EM μ0 r (pcs U S) s) = (k50' x1 s).map (em μ0 r U S)) (a1 : Int32) (s : RS) : f_X12_given_97 N k50 (some r) a1 (EM μ0 r (pcs U S) s) = (g_given_97 U S N k50' a1 s).map (em μ0 r U S) := by
  unfold f_X12_given_97 g_given_97
  exact hk50 _ _
def h_given_50 (U S N : Nat) (k50 : Int32 → RS → Option (Int32 × RS)) (a1 : Int32) (μ : RS) : Option (Int32 × RS) :=
  if (μ.1 32) ≤ a1 then
    some ((-1), μ)
  else
    (rA S μ 38 a1).bind fun v4 =>
    (rA U μ 42 v4).bind fun v5 =>
    if v5 = (5 : Int32) then
      g_given_97 U S N k50 a1 μ
    else
      (rA S μ 40 a1).bind fun v7 =>
      if v7 = 0 then
        g_given_97 U S N k50 a1 μ
      else
        (rA S μ 38 a1).bind fun v9 =>
        if v9 = (μ.1 64) then
          g_given_97 U S N k50 a1 μ
        else
          some (a1, μ)
theorem e_h_given_50 {μ0 : Mem} {r U S : Nat} (hr : r < μ0.1) {N : Nat} {k50 : (Option Nat) → Int32 → Mem → Option (Int32 × Mem)} {k50' : Int32 → RS → Option (Int32 × RS)} (hk50 : ∀ (x1 : Int32) (s : RS), k50 (some r) x1 (EM μ0 r (pcs U S) s) = (k50' x1 s).map (em μ0 r U S)) (a1 : Int32) (s : RS) : H_X12_given_50 N k50 (some r) a1 (EM μ0 r (pcs U S) s) = (h_given_50 U S N k50' a1 s).map (em μ0 r U S) := by
  unfold H_X12_given_50 h_given_50
  refine st_fI hr _ (by decide) rfl ?_
  refine st_if (fun _ => ?_) (fun _ => ?_)
  · exact rfl
  · refine st_fR hr _ (by decide) rfl ?_
    refine st_fR hr _ (by decide) rfl ?_
    refine st_aI hr _ (lk_38 U S) _ fun v4 => ?_
    refine st_aI hr _ (lk_42 U S) _ fun v5 => ?_
    refine st_if (fun _ => ?_) (fun _ => ?_)
    · exact e_g_given_97 hr hk50 _ _
    · refine st_fR hr _ (by decide) rfl ?_
      refine st_aI hr _ (lk_40 U S) _ fun v7 => ?_
      refine st_if (fun _ => ?_) (fun _ => ?_)
      · exact e_g_given_97 hr hk50 _ _
      · refine st_fR hr _ (by decide) rfl ?_
        refine st_aI hr _ (lk_38 U S) _ fun v9 => ?_
        refine st_fI hr _ (by decide) rfl ?_
        refine st_if (fun _ => ?_) (fun _ => ?_)
        · exact e_g_given_97 hr hk50 _ _
        · exact rfl
def l_given_50 (U S N : Nat)  : Nat → Int32 → RS → Option (Int32 × RS)
  | 0 => fun _ _ => none
  | n + 1 => h_given_50 U S N (l_given_50 U S N n)
theorem e_l_given_50 {μ0 : Mem} {r U S : Nat} (hr : r < μ0.1) {N : Nat} : ∀ (n : Nat) (x1 : Int32) (s : RS), L_X12_given_50 N n (some r) x1 (EM μ0 r (pcs U S) s) = (l_given_50 U S N n x1 s).map (em μ0 r U S) := by
  intro n
  induction n with
  | zero => intros; exact rfl
  | succ n ih => intros; exact e_h_given_50 hr ih _ _
def g_given_42 (U S N : Nat) (k2 : Int32 → RS → Option (Int32 × RS)) (a1 : Int32) (μ : RS) : Option (Int32 × RS) :=
  k2 (a1 + 1) μ
theorem e_g_given_42 {μ0 : Mem} {r U S : Nat} (hr : r < μ0.1) {N : Nat} {k2 : (Option Nat) → Int32 → Mem → Option (Int32 × Mem)} {k2' : Int32 → RS → Option (Int32 × RS)} (hk2 : ∀ (x1 : Int32) (s : RS), k2 (some r) x1 (EM μ0 r (pcs U S) s) = (k2' x1 s).map (em μ0 r U S)) (a1 : Int32) (s : RS) : f_X12_given_42 N k2 (some r) a1 (EM μ0 r (pcs U S) s) = (g_given_42 U S N k2' a1 s).map (em μ0 r U S) := by
  unfold f_X12_given_42 g_given_42
  exact hk2 _ _
def h_given_2 (U S N : Nat) (k2 : Int32 → RS → Option (Int32 × RS)) (a1 : Int32) (μ : RS) : Option (Int32 × RS) :=
  if (μ.1 32) ≤ a1 then
    l_given_50 U S N N 0 μ
  else
    (rA S μ 38 a1).bind fun v4 =>
    (rA U μ 42 v4).bind fun v5 =>
    if v5 = (1 : Int32) then
      g_given_42 U S N k2 a1 μ
    else
      (rA S μ 38 a1).bind fun v8 =>
      (rA U μ 42 v8).bind fun v9 =>
      if v9 = (5 : Int32) then
        g_given_42 U S N k2 a1 μ
      else
        some (a1, μ)
theorem e_h_given_2 {μ0 : Mem} {r U S : Nat} (hr : r < μ0.1) {N : Nat} {k2 : (Option Nat) → Int32 → Mem → Option (Int32 × Mem)} {k2' : Int32 → RS → Option (Int32 × RS)} (hk2 : ∀ (x1 : Int32) (s : RS), k2 (some r) x1 (EM μ0 r (pcs U S) s) = (k2' x1 s).map (em μ0 r U S)) (a1 : Int32) (s : RS) : H_X12_given_2 N k2 (some r) a1 (EM μ0 r (pcs U S) s) = (h_given_2 U S N k2' a1 s).map (em μ0 r U S) := by
  unfold H_X12_given_2 h_given_2
  refine st_fI hr _ (by decide) rfl ?_
  refine st_if (fun _ => ?_) (fun _ => ?_)
  · exact e_l_given_50 hr N _ _
  · refine st_fR hr _ (by decide) rfl ?_
    refine st_fR hr _ (by decide) rfl ?_
    refine st_aI hr _ (lk_38 U S) _ fun v4 => ?_
    refine st_aI hr _ (lk_42 U S) _ fun v5 => ?_
    refine st_if (fun _ => ?_) (fun _ => ?_)
    · exact e_g_given_42 hr hk2 _ _
    · refine st_fR hr _ (by decide) rfl ?_
      refine st_fR hr _ (by decide) rfl ?_
      refine st_aI hr _ (lk_38 U S) _ fun v8 => ?_
      refine st_aI hr _ (lk_42 U S) _ fun v9 => ?_
      refine st_if (fun _ => ?_) (fun _ => ?_)
      · exact e_g_given_42 hr hk2 _ _
      · exact rfl
def l_given_2 (U S N : Nat)  : Nat → Int32 → RS → Option (Int32 × RS)
  | 0 => fun _ _ => none
  | n + 1 => h_given_2 U S N (l_given_2 U S N n)
theorem e_l_given_2 {μ0 : Mem} {r U S : Nat} (hr : r < μ0.1) {N : Nat} : ∀ (n : Nat) (x1 : Int32) (s : RS), L_X12_given_2 N n (some r) x1 (EM μ0 r (pcs U S) s) = (l_given_2 U S N n x1 s).map (em μ0 r U S) := by
  intro n
  induction n with
  | zero => intros; exact rfl
  | succ n ih => intros; exact e_h_given_2 hr ih _ _
def g_given (U S N : Nat) (μ : RS) : Option (Int32 × RS) :=
  l_given_2 U S N N 0 μ
theorem e_g_given {μ0 : Mem} {r U S : Nat} (hr : r < μ0.1) {N : Nat} (s : RS) : f_X12_given N (some r) (EM μ0 r (pcs U S) s) = (g_given U S N  s).map (em μ0 r U S) := by
  unfold f_X12_given g_given
  exact e_l_given_2 hr N _ _
def g_starts (U S N : Nat) (a1 : Int32) (a2 : Int32) (a3 : Int32) (μ : RS) : Option (Unit × RS) :=
  (some (pI μ 67 a1)).bind fun μ1 =>
  (some (pI μ1 68 a2)).bind fun μ2 =>
  (some (pI μ2 69 a3)).bind fun μ3 =>
  (some (pI μ3 70 0)).bind fun μ4 =>
  some ((), μ4)
theorem e_g_starts {μ0 : Mem} {r U S : Nat} (hr : r < μ0.1) {N : Nat} (a1 : Int32) (a2 : Int32) (a3 : Int32) (s : RS) : f_X12_starts N (some r) a1 a2 a3 (EM μ0 r (pcs U S) s) = (g_starts U S N a1 a2 a3 s).map (em μ0 r U S) := by
  unfold f_X12_starts g_starts
  refine st_pI hr _ (by decide) rfl _ ?_
  refine st_pI hr _ (by decide) rfl _ ?_
  refine st_pI hr _ (by decide) rfl _ ?_
  refine st_pI hr _ (by decide) rfl _ ?_
  exact rfl
def g_queuesTask_144 (U S N : Nat) (a1 : Int32) (a2 : Int32) (μ : RS) : Option (Int32 × RS) :=
  (g_starts U S N 2 a1 a2 μ).bind fun q1 =>
  rZ 1 q1.2
theorem e_g_queuesTask_144 {μ0 : Mem} {r U S : Nat} (hr : r < μ0.1) {N : Nat} (a1 : Int32) (a2 : Int32) (s : RS) : f_X12_queuesTask_144 N (some r) a1 a2 (EM μ0 r (pcs U S) s) = (g_queuesTask_144 U S N a1 a2 s).map (em μ0 r U S) := by
  unfold f_X12_queuesTask_144 g_queuesTask_144
  refine st_ck hr _ ?_
  refine st_call (e_g_starts hr _ _ _ _) fun q1 => ?_
  dsimp only
  exact st_rZ _ _
def g_queuesTask_129 (U S N : Nat) (a1 : Int32) (a2 : Int32) (μ : RS) : Option (Int32 × RS) :=
  (rA S μ 38 a2).bind fun v2 =>
  if v2 = (((-1)) : Int32) then
    g_queuesTask_144 U S N a1 a2 μ
  else
    (g_nobodys U S N a2 μ).bind fun q3 =>
    g_queuesTask_144 U S N a1 a2 q3.2
theorem e_g_queuesTask_129 {μ0 : Mem} {r U S : Nat} (hr : r < μ0.1) {N : Nat} (a1 : Int32) (a2 : Int32) (s : RS) : f_X12_queuesTask_129 N (some r) a1 a2 (EM μ0 r (pcs U S) s) = (g_queuesTask_129 U S N a1 a2 s).map (em μ0 r U S) := by
  unfold f_X12_queuesTask_129 g_queuesTask_129
  refine st_fR hr _ (by decide) rfl ?_
  refine st_aI hr _ (lk_38 U S) _ fun v2 => ?_
  refine st_if (fun _ => ?_) (fun _ => ?_)
  · exact e_g_queuesTask_144 hr _ _ _
  · refine st_ck hr _ ?_
    refine st_call (e_g_nobodys hr _ _) fun q3 => ?_
    dsimp only
    exact e_g_queuesTask_144 hr _ _ _
def g_queuesTask_89 (U S N : Nat) (a1 : Int32) (a2 : Int32) (μ : RS) : Option (Int32 × RS) :=
  if ¬ a2 = (((-1)) : Int32) then
    (rA S μ 38 a2).bind fun v2 =>
    if v2 = (((-1)) : Int32) then
      g_queuesTask_129 U S N a1 a2 μ
    else
      (rA S μ 39 a2).bind fun v4 =>
      if v4 = 0 then
        g_queuesTask_129 U S N a1 a2 μ
      else
        (rA S μ 38 a2).bind fun v6 =>
        (g_starts U S N 1 v6 a2 μ).bind fun q7 =>
        rZ 1 q7.2
  else
    rZ 0 μ
theorem e_g_queuesTask_89 {μ0 : Mem} {r U S : Nat} (hr : r < μ0.1) {N : Nat} (a1 : Int32) (a2 : Int32) (s : RS) : f_X12_queuesTask_89 N (some r) a1 a2 (EM μ0 r (pcs U S) s) = (g_queuesTask_89 U S N a1 a2 s).map (em μ0 r U S) := by
  unfold f_X12_queuesTask_89 g_queuesTask_89
  refine st_if (fun _ => ?_) (fun _ => ?_)
  · refine st_fR hr _ (by decide) rfl ?_
    refine st_aI hr _ (lk_38 U S) _ fun v2 => ?_
    refine st_if (fun _ => ?_) (fun _ => ?_)
    · exact e_g_queuesTask_129 hr _ _ _
    · refine st_fR hr _ (by decide) rfl ?_
      refine st_aI hr _ (lk_39 U S) _ fun v4 => ?_
      refine st_if (fun _ => ?_) (fun _ => ?_)
      · exact e_g_queuesTask_129 hr _ _ _
      · refine st_fR hr _ (by decide) rfl ?_
        refine st_aI hr _ (lk_38 U S) _ fun v6 => ?_
        refine st_ck hr _ ?_
        refine st_call (e_g_starts hr _ _ _ _) fun q7 => ?_
        dsimp only
        exact st_rZ _ _
  · exact st_rZ _ _
def g_queuesTask_73 (U S N : Nat) (k57 : Int32 → Int32 → Int32 → RS → Option (Int32 × RS)) (a1 : Int32) (a2 : Int32) (a3 : Int32) (μ : RS) : Option (Int32 × RS) :=
  k57 a1 a2 (a3 + (-1)) μ
theorem e_g_queuesTask_73 {μ0 : Mem} {r U S : Nat} (hr : r < μ0.1) {N : Nat} {k57 : (Option Nat) → Int32 → Int32 → Int32 → Mem → Option (Int32 × Mem)} {k57' : Int32 → Int32 → Int32 → RS → Option (Int32 × RS)} (hk57 : ∀ (x1 : Int32) (x2 : Int32) (x3 : Int32) (s : RS), k57 (some r) x1 x2 x3 (EM μ0 r (pcs U S) s) = (k57' x1 x2 x3 s).map (em μ0 r U S)) (a1 : Int32) (a2 : Int32) (a3 : Int32) (s : RS) : f_X12_queuesTask_73 N k57 (some r) a1 a2 a3 (EM μ0 r (pcs U S) s) = (g_queuesTask_73 U S N k57' a1 a2 a3 s).map (em μ0 r U S) := by
  unfold f_X12_queuesTask_73 g_queuesTask_73
  exact hk57 _ _ _ _
def h_queuesTask_57 (U S N : Nat) (k57 : Int32 → Int32 → Int32 → RS → Option (Int32 × RS)) (a1 : Int32) (a2 : Int32) (a3 : Int32) (μ : RS) : Option (Int32 × RS) :=
  if a3 < 0 then
    if ¬ a2 = (((-1)) : Int32) then
      g_queuesTask_89 U S N a1 a2 μ
    else
      (g_given U S N μ).bind fun q1 =>
      g_queuesTask_89 U S N a1 q1.1 q1.2
  else
    (rA S μ 38 a3).bind fun v4 =>
    if ¬ v4 = (((-1)) : Int32) then
      g_queuesTask_73 U S N k57 a1 a2 a3 μ
    else
      g_queuesTask_73 U S N k57 a1 a3 a3 μ
theorem e_h_queuesTask_57 {μ0 : Mem} {r U S : Nat} (hr : r < μ0.1) {N : Nat} {k57 : (Option Nat) → Int32 → Int32 → Int32 → Mem → Option (Int32 × Mem)} {k57' : Int32 → Int32 → Int32 → RS → Option (Int32 × RS)} (hk57 : ∀ (x1 : Int32) (x2 : Int32) (x3 : Int32) (s : RS), k57 (some r) x1 x2 x3 (EM μ0 r (pcs U S) s) = (k57' x1 x2 x3 s).map (em μ0 r U S)) (a1 : Int32) (a2 : Int32) (a3 : Int32) (s : RS) : H_X12_queuesTask_57 N k57 (some r) a1 a2 a3 (EM μ0 r (pcs U S) s) = (h_queuesTask_57 U S N k57' a1 a2 a3 s).map (em μ0 r U S) := by
  unfold H_X12_queuesTask_57 h_queuesTask_57
  refine st_if (fun _ => ?_) (fun _ => ?_)
  · refine st_if (fun _ => ?_) (fun _ => ?_)
    · exact e_g_queuesTask_89 hr _ _ _
    · refine st_ck hr _ ?_
      refine st_call (e_g_given hr _) fun q1 => ?_
      dsimp only
      exact e_g_queuesTask_89 hr _ _ _
  · refine st_fR hr _ (by decide) rfl ?_
    refine st_aI hr _ (lk_38 U S) _ fun v4 => ?_
    refine st_if (fun _ => ?_) (fun _ => ?_)
    · exact e_g_queuesTask_73 hr hk57 _ _ _ _
    · exact e_g_queuesTask_73 hr hk57 _ _ _ _
def l_queuesTask_57 (U S N : Nat)  : Nat → Int32 → Int32 → Int32 → RS → Option (Int32 × RS)
  | 0 => fun _ _ _ _ => none
  | n + 1 => h_queuesTask_57 U S N (l_queuesTask_57 U S N n)
theorem e_l_queuesTask_57 {μ0 : Mem} {r U S : Nat} (hr : r < μ0.1) {N : Nat} : ∀ (n : Nat) (x1 : Int32) (x2 : Int32) (x3 : Int32) (s : RS), L_X12_queuesTask_57 N n (some r) x1 x2 x3 (EM μ0 r (pcs U S) s) = (l_queuesTask_57 U S N n x1 x2 x3 s).map (em μ0 r U S) := by
  intro n
  induction n with
  | zero => intros; exact rfl
  | succ n ih => intros; exact e_h_queuesTask_57 hr ih _ _ _ _
def g_queuesTask_35 (U S N : Nat) (k9 : Int32 → Int32 → RS → Option (Int32 × RS)) (a1 : Int32) (a2 : Int32) (μ : RS) : Option (Int32 × RS) :=
  k9 a1 (a2 + (-1)) μ
theorem e_g_queuesTask_35 {μ0 : Mem} {r U S : Nat} (hr : r < μ0.1) {N : Nat} {k9 : (Option Nat) → Int32 → Int32 → Mem → Option (Int32 × Mem)} {k9' : Int32 → Int32 → RS → Option (Int32 × RS)} (hk9 : ∀ (x1 : Int32) (x2 : Int32) (s : RS), k9 (some r) x1 x2 (EM μ0 r (pcs U S) s) = (k9' x1 x2 s).map (em μ0 r U S)) (a1 : Int32) (a2 : Int32) (s : RS) : f_X12_queuesTask_35 N k9 (some r) a1 a2 (EM μ0 r (pcs U S) s) = (g_queuesTask_35 U S N k9' a1 a2 s).map (em μ0 r U S) := by
  unfold f_X12_queuesTask_35 g_queuesTask_35
  exact hk9 _ _ _
def h_queuesTask_9 (U S N : Nat) (k9 : Int32 → Int32 → RS → Option (Int32 × RS)) (a1 : Int32) (a2 : Int32) (μ : RS) : Option (Int32 × RS) :=
  if a2 < 0 then
    if ¬ a1 = (((-1)) : Int32) then
      l_queuesTask_57 U S N N a1 ((-1)) ((μ.1 32) - 1) μ
    else
      rZ 0 μ
  else
    (rA 8 μ 62 a2).bind fun v4 =>
    (rA U μ 41 v4).bind fun v5 =>
    if ¬ v5 = (((-1)) : Int32) then
      g_queuesTask_35 U S N k9 a1 a2 μ
    else
      (rA 8 μ 62 a2).bind fun v7 =>
      g_queuesTask_35 U S N k9 v7 a2 μ
theorem e_h_queuesTask_9 {μ0 : Mem} {r U S : Nat} (hr : r < μ0.1) {N : Nat} {k9 : (Option Nat) → Int32 → Int32 → Mem → Option (Int32 × Mem)} {k9' : Int32 → Int32 → RS → Option (Int32 × RS)} (hk9 : ∀ (x1 : Int32) (x2 : Int32) (s : RS), k9 (some r) x1 x2 (EM μ0 r (pcs U S) s) = (k9' x1 x2 s).map (em μ0 r U S)) (a1 : Int32) (a2 : Int32) (s : RS) : H_X12_queuesTask_9 N k9 (some r) a1 a2 (EM μ0 r (pcs U S) s) = (h_queuesTask_9 U S N k9' a1 a2 s).map (em μ0 r U S) := by
  unfold H_X12_queuesTask_9 h_queuesTask_9
  refine st_if (fun _ => ?_) (fun _ => ?_)
  · refine st_if (fun _ => ?_) (fun _ => ?_)
    · refine st_fI hr _ (by decide) rfl ?_
      exact e_l_queuesTask_57 hr N _ _ _ _
    · exact st_rZ _ _
  · refine st_fR hr _ (by decide) rfl ?_
    refine st_fR hr _ (by decide) rfl ?_
    refine st_aI hr _ (lk_62 U S) _ fun v4 => ?_
    refine st_aI hr _ (lk_41 U S) _ fun v5 => ?_
    refine st_if (fun _ => ?_) (fun _ => ?_)
    · exact e_g_queuesTask_35 hr hk9 _ _ _
    · refine st_fR hr _ (by decide) rfl ?_
      refine st_aI hr _ (lk_62 U S) _ fun v7 => ?_
      exact e_g_queuesTask_35 hr hk9 _ _ _
def l_queuesTask_9 (U S N : Nat)  : Nat → Int32 → Int32 → RS → Option (Int32 × RS)
  | 0 => fun _ _ _ => none
  | n + 1 => h_queuesTask_9 U S N (l_queuesTask_9 U S N n)
theorem e_l_queuesTask_9 {μ0 : Mem} {r U S : Nat} (hr : r < μ0.1) {N : Nat} : ∀ (n : Nat) (x1 : Int32) (x2 : Int32) (s : RS), L_X12_queuesTask_9 N n (some r) x1 x2 (EM μ0 r (pcs U S) s) = (l_queuesTask_9 U S N n x1 x2 s).map (em μ0 r U S) := by
  intro n
  induction n with
  | zero => intros; exact rfl
  | succ n ih => intros; exact e_h_queuesTask_9 hr ih _ _ _
def g_queuesTask (U S N : Nat) (μ : RS) : Option (Int32 × RS) :=
  l_queuesTask_9 U S N N ((-1)) ((μ.1 63) - 1) μ
theorem e_g_queuesTask {μ0 : Mem} {r U S : Nat} (hr : r < μ0.1) {N : Nat} (s : RS) : f_X12_queuesTask N (some r) (EM μ0 r (pcs U S) s) = (g_queuesTask U S N  s).map (em μ0 r U S) := by
  unfold f_X12_queuesTask g_queuesTask
  refine st_fI hr _ (by decide) rfl ?_
  exact e_l_queuesTask_9 hr N _ _ _
def g_blocksTask_90 (U S N : Nat) (s0 : Int32) (μ : RS) : Option (Int32 × RS) :=
  rZ s0 μ
theorem e_g_blocksTask_90 {μ0 : Mem} {r U S : Nat} (hr : r < μ0.1) {N : Nat} (s0 : Int32) (s : RS) : f_X12_blocksTask_90 N s0 (EM μ0 r (pcs U S) s) = (g_blocksTask_90 U S N s0 s).map (em μ0 r U S) := by
  unfold f_X12_blocksTask_90 g_blocksTask_90
  exact st_rZ _ _
def g_blocksTask_80 (U S N : Nat) (a1 : Int32) (μ : RS) : Option (Int32 × RS) :=
  if a1 = (((-1)) : Int32) then
    g_blocksTask_90 U S N 0 μ
  else
    g_blocksTask_90 U S N 1 μ
theorem e_g_blocksTask_80 {μ0 : Mem} {r U S : Nat} (hr : r < μ0.1) {N : Nat} (a1 : Int32) (s : RS) : f_X12_blocksTask_80 N a1 (EM μ0 r (pcs U S) s) = (g_blocksTask_80 U S N a1 s).map (em μ0 r U S) := by
  unfold f_X12_blocksTask_80 g_blocksTask_80
  refine st_if (fun _ => ?_) (fun _ => ?_)
  · exact e_g_blocksTask_90 hr _ _
  · exact e_g_blocksTask_90 hr _ _
def g_blocksTask_70 (U S N : Nat) (a1 : Int32) (s1 : Int32) (μ : RS) : Option (Int32 × RS) :=
  (rA U μ 41 a1).bind fun v2 =>
  (g_starts U S N s1 a1 v2 μ).bind fun q3 =>
  g_blocksTask_80 U S N a1 q3.2
theorem e_g_blocksTask_70 {μ0 : Mem} {r U S : Nat} (hr : r < μ0.1) {N : Nat} (a1 : Int32) (s1 : Int32) (s : RS) : f_X12_blocksTask_70 N (some r) a1 (some r) s1 (EM μ0 r (pcs U S) s) = (g_blocksTask_70 U S N a1 s1 s).map (em μ0 r U S) := by
  unfold f_X12_blocksTask_70 g_blocksTask_70
  refine st_fR hr _ (by decide) rfl ?_
  refine st_aI hr _ (lk_41 U S) _ fun v2 => ?_
  refine st_ck hr _ ?_
  refine st_call (e_g_starts hr _ _ _ _) fun q3 => ?_
  dsimp only
  exact e_g_blocksTask_80 hr _ _
def g_blocksTask_44 (U S N : Nat) (k4 : Int32 → Int32 → RS → Option (Int32 × RS)) (a1 : Int32) (a2 : Int32) (μ : RS) : Option (Int32 × RS) :=
  k4 a1 (a2 + 1) μ
theorem e_g_blocksTask_44 {μ0 : Mem} {r U S : Nat} (hr : r < μ0.1) {N : Nat} {k4 : (Option Nat) → Int32 → Int32 → Mem → Option (Int32 × Mem)} {k4' : Int32 → Int32 → RS → Option (Int32 × RS)} (hk4 : ∀ (x1 : Int32) (x2 : Int32) (s : RS), k4 (some r) x1 x2 (EM μ0 r (pcs U S) s) = (k4' x1 x2 s).map (em μ0 r U S)) (a1 : Int32) (a2 : Int32) (s : RS) : f_X12_blocksTask_44 N k4 (some r) a1 a2 (EM μ0 r (pcs U S) s) = (g_blocksTask_44 U S N k4' a1 a2 s).map (em μ0 r U S) := by
  unfold f_X12_blocksTask_44 g_blocksTask_44
  exact hk4 _ _ _
def g_blocksTask_42 (U S N : Nat) (k4 : Int32 → Int32 → RS → Option (Int32 × RS)) (a2 : Int32) (μ : RS) : Option (Int32 × RS) :=
  g_blocksTask_44 U S N k4 a2 a2 μ
theorem e_g_blocksTask_42 {μ0 : Mem} {r U S : Nat} (hr : r < μ0.1) {N : Nat} {k4 : (Option Nat) → Int32 → Int32 → Mem → Option (Int32 × Mem)} {k4' : Int32 → Int32 → RS → Option (Int32 × RS)} (hk4 : ∀ (x1 : Int32) (x2 : Int32) (s : RS), k4 (some r) x1 x2 (EM μ0 r (pcs U S) s) = (k4' x1 x2 s).map (em μ0 r U S)) (a2 : Int32) (s : RS) : f_X12_blocksTask_42 N k4 (some r) a2 (EM μ0 r (pcs U S) s) = (g_blocksTask_42 U S N k4' a2 s).map (em μ0 r U S) := by
  unfold f_X12_blocksTask_42 g_blocksTask_42
  exact e_g_blocksTask_44 hr hk4 _ _ _
def h_blocksTask_4 (U S N : Nat) (k4 : Int32 → Int32 → RS → Option (Int32 × RS)) (a1 : Int32) (a2 : Int32) (μ : RS) : Option (Int32 × RS) :=
  if (μ.1 31) ≤ a2 then
    if a1 = (((-1)) : Int32) then
      g_blocksTask_80 U S N a1 μ
    else
      (rA U μ 61 a1).bind fun v3 =>
      if v3 = 0 then
        g_blocksTask_70 U S N a1 3 μ
      else
        g_blocksTask_70 U S N a1 4 μ
  else
    (rA U μ 42 a2).bind fun v5 =>
    if ¬ v5 = (5 : Int32) then
      g_blocksTask_44 U S N k4 a1 a2 μ
    else
      if a1 = (((-1)) : Int32) then
        g_blocksTask_42 U S N k4 a2 μ
      else
        (rA U μ 58 a2).bind fun v7 =>
        (rA U μ 58 a1).bind fun v9 =>
        if v9 ≤ v7 then
          g_blocksTask_44 U S N k4 a1 a2 μ
        else
          g_blocksTask_42 U S N k4 a2 μ
theorem e_h_blocksTask_4 {μ0 : Mem} {r U S : Nat} (hr : r < μ0.1) {N : Nat} {k4 : (Option Nat) → Int32 → Int32 → Mem → Option (Int32 × Mem)} {k4' : Int32 → Int32 → RS → Option (Int32 × RS)} (hk4 : ∀ (x1 : Int32) (x2 : Int32) (s : RS), k4 (some r) x1 x2 (EM μ0 r (pcs U S) s) = (k4' x1 x2 s).map (em μ0 r U S)) (a1 : Int32) (a2 : Int32) (s : RS) : H_X12_blocksTask_4 N k4 (some r) a1 a2 (EM μ0 r (pcs U S) s) = (h_blocksTask_4 U S N k4' a1 a2 s).map (em μ0 r U S) := by
  unfold H_X12_blocksTask_4 h_blocksTask_4
  refine st_fI hr _ (by decide) rfl ?_
  refine st_if (fun _ => ?_) (fun _ => ?_)
  · refine st_if (fun _ => ?_) (fun _ => ?_)
    · exact e_g_blocksTask_80 hr _ _
    · refine st_fR hr _ (by decide) rfl ?_
      refine st_aI hr _ (lk_61 U S) _ fun v3 => ?_
      refine st_if (fun _ => ?_) (fun _ => ?_)
      · exact e_g_blocksTask_70 hr _ _ _
      · exact e_g_blocksTask_70 hr _ _ _
  · refine st_fR hr _ (by decide) rfl ?_
    refine st_aI hr _ (lk_42 U S) _ fun v5 => ?_
    refine st_if (fun _ => ?_) (fun _ => ?_)
    · exact e_g_blocksTask_44 hr hk4 _ _ _
    · refine st_if (fun _ => ?_) (fun _ => ?_)
      · exact e_g_blocksTask_42 hr hk4 _ _
      · refine st_fR hr _ (by decide) rfl ?_
        refine st_aI hr _ (lk_58 U S) _ fun v7 => ?_
        refine st_fR hr _ (by decide) rfl ?_
        refine st_aI hr _ (lk_58 U S) _ fun v9 => ?_
        refine st_if (fun _ => ?_) (fun _ => ?_)
        · exact e_g_blocksTask_44 hr hk4 _ _ _
        · exact e_g_blocksTask_42 hr hk4 _ _
def l_blocksTask_4 (U S N : Nat)  : Nat → Int32 → Int32 → RS → Option (Int32 × RS)
  | 0 => fun _ _ _ => none
  | n + 1 => h_blocksTask_4 U S N (l_blocksTask_4 U S N n)
theorem e_l_blocksTask_4 {μ0 : Mem} {r U S : Nat} (hr : r < μ0.1) {N : Nat} : ∀ (n : Nat) (x1 : Int32) (x2 : Int32) (s : RS), L_X12_blocksTask_4 N n (some r) x1 x2 (EM μ0 r (pcs U S) s) = (l_blocksTask_4 U S N n x1 x2 s).map (em μ0 r U S) := by
  intro n
  induction n with
  | zero => intros; exact rfl
  | succ n ih => intros; exact e_h_blocksTask_4 hr ih _ _ _
def g_blocksTask (U S N : Nat) (μ : RS) : Option (Int32 × RS) :=
  l_blocksTask_4 U S N N ((-1)) 0 μ
theorem e_g_blocksTask {μ0 : Mem} {r U S : Nat} (hr : r < μ0.1) {N : Nat} (s : RS) : f_X12_blocksTask N (some r) (EM μ0 r (pcs U S) s) = (g_blocksTask U S N  s).map (em μ0 r U S) := by
  unfold f_X12_blocksTask g_blocksTask
  exact e_l_blocksTask_4 hr N _ _ _
def g_looksFor_34 (U S N : Nat) (μ : RS) : Option (Unit × RS) :=
  some ((), μ)
theorem e_g_looksFor_34 {μ0 : Mem} {r U S : Nat} (hr : r < μ0.1) {N : Nat} (s : RS) : f_X12_looksFor_34 N  (EM μ0 r (pcs U S) s) = (g_looksFor_34 U S N  s).map (em μ0 r U S) := by
  unfold f_X12_looksFor_34 g_looksFor_34
  exact rfl
def g_looksFor (U S N : Nat) (μ : RS) : Option (Unit × RS) :=
  if (μ.1 77) = 0 then
    (g_blocksTask U S N μ).bind fun q2 =>
    if ¬ q2.1 = 0 then
      g_looksFor_34 U S N q2.2
    else
      (g_queuesTask U S N q2.2).bind fun q4 =>
      g_looksFor_34 U S N q4.2
  else
    (g_queuesTask U S N μ).bind fun q6 =>
    if ¬ q6.1 = 0 then
      g_looksFor_34 U S N q6.2
    else
      (g_blocksTask U S N q6.2).bind fun q8 =>
      g_looksFor_34 U S N q8.2
theorem e_g_looksFor {μ0 : Mem} {r U S : Nat} (hr : r < μ0.1) {N : Nat} (s : RS) : f_X12_looksFor N (some r) (EM μ0 r (pcs U S) s) = (g_looksFor U S N  s).map (em μ0 r U S) := by
  unfold f_X12_looksFor g_looksFor
  refine st_fI hr _ (by decide) rfl ?_
  refine st_if (fun _ => ?_) (fun _ => ?_)
  · refine st_ck hr _ ?_
    refine st_call (e_g_blocksTask hr _) fun q2 => ?_
    dsimp only
    refine st_if (fun _ => ?_) (fun _ => ?_)
    · exact e_g_looksFor_34 hr _
    · refine st_ck hr _ ?_
      refine st_call (e_g_queuesTask hr _) fun q4 => ?_
      dsimp only
      exact e_g_looksFor_34 hr _
  · refine st_ck hr _ ?_
    refine st_call (e_g_queuesTask hr _) fun q6 => ?_
    dsimp only
    refine st_if (fun _ => ?_) (fun _ => ?_)
    · exact e_g_looksFor_34 hr _
    · refine st_ck hr _ ?_
      refine st_call (e_g_blocksTask hr _) fun q8 => ?_
      dsimp only
      exact e_g_looksFor_34 hr _
def g_isWrong_228 (U S N : Nat) (μ : RS) : Option (Int32 × RS) :=
  rZ 0 μ
theorem e_g_isWrong_228 {μ0 : Mem} {r U S : Nat} (hr : r < μ0.1) {N : Nat} (s : RS) : f_X12_isWrong_228 N  (EM μ0 r (pcs U S) s) = (g_isWrong_228 U S N  s).map (em μ0 r U S) := by
  unfold f_X12_isWrong_228 g_isWrong_228
  exact st_rZ _ _
def g_isWrong_55 (U S N : Nat) (μ : RS) : Option (Int32 × RS) :=
  if ((μ.1 78) >>> ((9 : Int32) &&& 31)) = (6 : Int32) then
    if (μ.1 78) = 3097 then
      g_isWrong_228 U S N μ
    else
      if (μ.1 78) = 3098 then
        g_isWrong_228 U S N μ
      else
        if (μ.1 78) = 3100 then
          g_isWrong_228 U S N μ
        else
          if (μ.1 78) = 3102 then
            g_isWrong_228 U S N μ
          else
            if (μ.1 78) = 3105 then
              g_isWrong_228 U S N μ
            else
              if (μ.1 78) = 3106 then
                g_isWrong_228 U S N μ
              else
                if (μ.1 78) = 3108 then
                  g_isWrong_228 U S N μ
                else
                  if (μ.1 78) = 3110 then
                    g_isWrong_228 U S N μ
                  else
                    if (μ.1 78) = 3201 then
                      g_isWrong_228 U S N μ
                    else
                      if (μ.1 78) = 3202 then
                        g_isWrong_228 U S N μ
                      else
                        if (μ.1 78) = 3203 then
                          g_isWrong_228 U S N μ
                        else
                          if (μ.1 78) = 3212 then
                            g_isWrong_228 U S N μ
                          else
                            if (μ.1 78) = 3220 then
                              g_isWrong_228 U S N μ
                            else
                              if (μ.1 78) = 3228 then
                                g_isWrong_228 U S N μ
                              else
                                if (μ.1 78) = 3343 then
                                  g_isWrong_228 U S N μ
                                else
                                  if (μ.1 78) = 3344 then
                                    g_isWrong_228 U S N μ
                                  else
                                    if (μ.1 78) = 3360 then
                                      g_isWrong_228 U S N μ
                                    else
                                      if (μ.1 78) = 3361 then
                                        g_isWrong_228 U S N μ
                                      else
                                        rZ 1 μ
  else
    rZ 0 μ
theorem e_g_isWrong_55 {μ0 : Mem} {r U S : Nat} (hr : r < μ0.1) {N : Nat} (s : RS) : f_X12_isWrong_55 N (some r) (EM μ0 r (pcs U S) s) = (g_isWrong_55 U S N  s).map (em μ0 r U S) := by
  unfold f_X12_isWrong_55 g_isWrong_55
  refine st_fI hr _ (by decide) rfl ?_
  refine st_if (fun _ => ?_) (fun _ => ?_)
  · refine st_fI hr _ (by decide) rfl ?_
    refine st_if (fun _ => ?_) (fun _ => ?_)
    · exact e_g_isWrong_228 hr _
    · refine st_if (fun _ => ?_) (fun _ => ?_)
      · exact e_g_isWrong_228 hr _
      · refine st_if (fun _ => ?_) (fun _ => ?_)
        · exact e_g_isWrong_228 hr _
        · refine st_if (fun _ => ?_) (fun _ => ?_)
          · exact e_g_isWrong_228 hr _
          · refine st_if (fun _ => ?_) (fun _ => ?_)
            · exact e_g_isWrong_228 hr _
            · refine st_if (fun _ => ?_) (fun _ => ?_)
              · exact e_g_isWrong_228 hr _
              · refine st_if (fun _ => ?_) (fun _ => ?_)
                · exact e_g_isWrong_228 hr _
                · refine st_if (fun _ => ?_) (fun _ => ?_)
                  · exact e_g_isWrong_228 hr _
                  · refine st_if (fun _ => ?_) (fun _ => ?_)
                    · exact e_g_isWrong_228 hr _
                    · refine st_if (fun _ => ?_) (fun _ => ?_)
                      · exact e_g_isWrong_228 hr _
                      · refine st_if (fun _ => ?_) (fun _ => ?_)
                        · exact e_g_isWrong_228 hr _
                        · refine st_if (fun _ => ?_) (fun _ => ?_)
                          · exact e_g_isWrong_228 hr _
                          · refine st_if (fun _ => ?_) (fun _ => ?_)
                            · exact e_g_isWrong_228 hr _
                            · refine st_if (fun _ => ?_) (fun _ => ?_)
                              · exact e_g_isWrong_228 hr _
                              · refine st_if (fun _ => ?_) (fun _ => ?_)
                                · exact e_g_isWrong_228 hr _
                                · refine st_if (fun _ => ?_) (fun _ => ?_)
                                  · exact e_g_isWrong_228 hr _
                                  · refine st_if (fun _ => ?_) (fun _ => ?_)
                                    · exact e_g_isWrong_228 hr _
                                    · refine st_if (fun _ => ?_) (fun _ => ?_)
                                      · exact e_g_isWrong_228 hr _
                                      · exact st_rZ _ _
  · exact st_rZ _ _
def g_isWrong_54 (U S N : Nat) (s0 : Int32) (μ : RS) : Option (Int32 × RS) :=
  rZ s0 μ
theorem e_g_isWrong_54 {μ0 : Mem} {r U S : Nat} (hr : r < μ0.1) {N : Nat} (s0 : Int32) (s : RS) : f_X12_isWrong_54 N s0 (EM μ0 r (pcs U S) s) = (g_isWrong_54 U S N s0 s).map (em μ0 r U S) := by
  unfold f_X12_isWrong_54 g_isWrong_54
  exact st_rZ _ _
def g_isWrong_49 (U S N : Nat) (μ : RS) : Option (Int32 × RS) :=
  g_isWrong_54 U S N 1 μ
theorem e_g_isWrong_49 {μ0 : Mem} {r U S : Nat} (hr : r < μ0.1) {N : Nat} (s : RS) : f_X12_isWrong_49 N  (EM μ0 r (pcs U S) s) = (g_isWrong_49 U S N  s).map (em μ0 r U S) := by
  unfold f_X12_isWrong_49 g_isWrong_49
  exact e_g_isWrong_54 hr _ _
def g_isWrong (U S N : Nat) (μ : RS) : Option (Int32 × RS) :=
  if ¬ ((μ.1 78) >>> ((9 : Int32) &&& 31)) = (7 : Int32) then
    g_isWrong_55 U S N μ
  else
    if ¬ ((μ.1 78) &&& 257) = (257 : Int32) then
      g_isWrong_55 U S N μ
    else
      if ((μ.1 78) &&& 14) = (2 : Int32) then
        g_isWrong_49 U S N μ
      else
        if ¬ ((μ.1 78) &&& 14) = (8 : Int32) then
          g_isWrong_54 U S N 0 μ
        else
          g_isWrong_49 U S N μ
theorem e_g_isWrong {μ0 : Mem} {r U S : Nat} (hr : r < μ0.1) {N : Nat} (s : RS) : f_X12_isWrong N (some r) (EM μ0 r (pcs U S) s) = (g_isWrong U S N  s).map (em μ0 r U S) := by
  unfold f_X12_isWrong g_isWrong
  refine st_fI hr _ (by decide) rfl ?_
  refine st_if (fun _ => ?_) (fun _ => ?_)
  · exact e_g_isWrong_55 hr _
  · refine st_fI hr _ (by decide) rfl ?_
    refine st_if (fun _ => ?_) (fun _ => ?_)
    · exact e_g_isWrong_55 hr _
    · refine st_fI hr _ (by decide) rfl ?_
      refine st_if (fun _ => ?_) (fun _ => ?_)
      · exact e_g_isWrong_49 hr _
      · refine st_fI hr _ (by decide) rfl ?_
        refine st_if (fun _ => ?_) (fun _ => ?_)
        · exact e_g_isWrong_54 hr _ _
        · exact e_g_isWrong_49 hr _
def g_mustWait_89 (U S N : Nat) (s0 : Int32) (μ : RS) : Option (Int32 × RS) :=
  rZ s0 μ
theorem e_g_mustWait_89 {μ0 : Mem} {r U S : Nat} (hr : r < μ0.1) {N : Nat} (s0 : Int32) (s : RS) : f_X12_mustWait_89 N s0 (EM μ0 r (pcs U S) s) = (g_mustWait_89 U S N s0 s).map (em μ0 r U S) := by
  unfold f_X12_mustWait_89 g_mustWait_89
  exact st_rZ _ _
def g_mustWait_74 (U S N : Nat) (a1 : Int32) (μ : RS) : Option (Int32 × RS) :=
  (rA U μ 42 a1).bind fun v2 =>
  if v2 = (1 : Int32) then
    g_mustWait_89 U S N 0 μ
  else
    g_mustWait_89 U S N 1 μ
theorem e_g_mustWait_74 {μ0 : Mem} {r U S : Nat} (hr : r < μ0.1) {N : Nat} (a1 : Int32) (s : RS) : f_X12_mustWait_74 N (some r) a1 (EM μ0 r (pcs U S) s) = (g_mustWait_74 U S N a1 s).map (em μ0 r U S) := by
  unfold f_X12_mustWait_74 g_mustWait_74
  refine st_fR hr _ (by decide) rfl ?_
  refine st_aI hr _ (lk_42 U S) _ fun v2 => ?_
  refine st_if (fun _ => ?_) (fun _ => ?_)
  · exact e_g_mustWait_89 hr _ _
  · exact e_g_mustWait_89 hr _ _
def g_mustWait_56 (U S N : Nat) (a1 : Int32) (μ : RS) : Option (Int32 × RS) :=
  (rA U μ 53 a1).bind fun v2 =>
  if ¬ v2 = (16 : Int32) then
    g_mustWait_74 U S N a1 μ
  else
    (wA U μ 42 a1 3).bind fun μ4 =>
    g_mustWait_74 U S N a1 μ4
theorem e_g_mustWait_56 {μ0 : Mem} {r U S : Nat} (hr : r < μ0.1) {N : Nat} (a1 : Int32) (s : RS) : f_X12_mustWait_56 N (some r) a1 (EM μ0 r (pcs U S) s) = (g_mustWait_56 U S N a1 s).map (em μ0 r U S) := by
  unfold f_X12_mustWait_56 g_mustWait_56
  refine st_fR hr _ (by decide) rfl ?_
  refine st_aI hr _ (lk_53 U S) _ fun v2 => ?_
  refine st_if (fun _ => ?_) (fun _ => ?_)
  · exact e_g_mustWait_74 hr _ _
  · refine st_fR hr _ (by decide) rfl ?_
    refine st_bI hr _ (lk_42 U S) _ _ fun μ4 => ?_
    exact e_g_mustWait_74 hr _ _
def g_mustWait_36 (U S N : Nat) (a1 : Int32) (μ : RS) : Option (Int32 × RS) :=
  if (μ.1 78) = (3108 : Int32) then
    g_mustWait_56 U S N a1 μ
  else
    if ¬ (μ.1 78) = (3110 : Int32) then
      g_mustWait_74 U S N a1 μ
    else
      g_mustWait_56 U S N a1 μ
theorem e_g_mustWait_36 {μ0 : Mem} {r U S : Nat} (hr : r < μ0.1) {N : Nat} (a1 : Int32) (s : RS) : f_X12_mustWait_36 N (some r) a1 (EM μ0 r (pcs U S) s) = (g_mustWait_36 U S N a1 s).map (em μ0 r U S) := by
  unfold f_X12_mustWait_36 g_mustWait_36
  refine st_fI hr _ (by decide) rfl ?_
  refine st_if (fun _ => ?_) (fun _ => ?_)
  · exact e_g_mustWait_56 hr _ _
  · refine st_fI hr _ (by decide) rfl ?_
    refine st_if (fun _ => ?_) (fun _ => ?_)
    · exact e_g_mustWait_74 hr _ _
    · exact e_g_mustWait_56 hr _ _
def g_mustWait_20 (U S N : Nat) (a1 : Int32) (μ : RS) : Option (Int32 × RS) :=
  (rA U μ 50 a1).bind fun v2 =>
  if ¬ v2 = 0 then
    g_mustWait_36 U S N a1 μ
  else
    (wA U μ 42 a1 2).bind fun μ4 =>
    g_mustWait_36 U S N a1 μ4
theorem e_g_mustWait_20 {μ0 : Mem} {r U S : Nat} (hr : r < μ0.1) {N : Nat} (a1 : Int32) (s : RS) : f_X12_mustWait_20 N (some r) a1 (EM μ0 r (pcs U S) s) = (g_mustWait_20 U S N a1 s).map (em μ0 r U S) := by
  unfold f_X12_mustWait_20 g_mustWait_20
  refine st_fR hr _ (by decide) rfl ?_
  refine st_aI hr _ (lk_50 U S) _ fun v2 => ?_
  refine st_if (fun _ => ?_) (fun _ => ?_)
  · exact e_g_mustWait_36 hr _ _
  · refine st_fR hr _ (by decide) rfl ?_
    refine st_bI hr _ (lk_42 U S) _ _ fun μ4 => ?_
    exact e_g_mustWait_36 hr _ _
def g_mustWait (U S N : Nat) (a1 : Int32) (μ : RS) : Option (Int32 × RS) :=
  if (μ.1 78) = (3100 : Int32) then
    g_mustWait_20 U S N a1 μ
  else
    if ¬ (μ.1 78) = (3102 : Int32) then
      g_mustWait_36 U S N a1 μ
    else
      g_mustWait_20 U S N a1 μ
theorem e_g_mustWait {μ0 : Mem} {r U S : Nat} (hr : r < μ0.1) {N : Nat} (a1 : Int32) (s : RS) : f_X12_mustWait N (some r) a1 (EM μ0 r (pcs U S) s) = (g_mustWait U S N a1 s).map (em μ0 r U S) := by
  unfold f_X12_mustWait g_mustWait
  refine st_fI hr _ (by decide) rfl ?_
  refine st_if (fun _ => ?_) (fun _ => ?_)
  · exact e_g_mustWait_20 hr _ _
  · refine st_fI hr _ (by decide) rfl ?_
    refine st_if (fun _ => ?_) (fun _ => ?_)
    · exact e_g_mustWait_36 hr _ _
    · exact e_g_mustWait_20 hr _ _
def g_skip (U S N : Nat) (a1 : Int32) (μ : RS) : Option (Unit × RS) :=
  (rA U μ 45 a1).bind fun v3 =>
  (wA U μ 45 a1 ((v3 + 1) &&& 4095)).bind fun μ4 =>
  some ((), μ4)
theorem e_g_skip {μ0 : Mem} {r U S : Nat} (hr : r < μ0.1) {N : Nat} (a1 : Int32) (s : RS) : f_X12_skip N (some r) a1 (EM μ0 r (pcs U S) s) = (g_skip U S N a1 s).map (em μ0 r U S) := by
  unfold f_X12_skip g_skip
  refine st_fR hr _ (by decide) rfl ?_
  refine st_fR hr _ (by decide) rfl ?_
  refine st_aI hr _ (lk_45 U S) _ fun v3 => ?_
  refine st_bI hr _ (lk_45 U S) _ _ fun μ4 => ?_
  exact rfl
def g_memory__279 (U S N : Nat) (μ : RS) : Option (Unit × RS) :=
  some ((), μ)
theorem e_g_memory__279 {μ0 : Mem} {r U S : Nat} (hr : r < μ0.1) {N : Nat} (s : RS) : f_X12_memory__279 N  (EM μ0 r (pcs U S) s) = (g_memory__279 U S N  s).map (em μ0 r U S) := by
  unfold f_X12_memory__279 g_memory__279
  exact rfl
def g_memory__169 (U S N : Nat) (a1 : Int32) (a5 : Int32) (μ : RS) : Option (Unit × RS) :=
  (wA U μ 43 a1 (a5 &&& 4095)).bind fun μ2 =>
  g_memory__279 U S N μ2
theorem e_g_memory__169 {μ0 : Mem} {r U S : Nat} (hr : r < μ0.1) {N : Nat} (a1 : Int32) (a5 : Int32) (s : RS) : f_X12_memory__169 N (some r) a1 a5 (EM μ0 r (pcs U S) s) = (g_memory__169 U S N a1 a5 s).map (em μ0 r U S) := by
  unfold f_X12_memory__169 g_memory__169
  refine st_fR hr _ (by decide) rfl ?_
  refine st_bI hr _ (lk_43 U S) _ _ fun μ2 => ?_
  exact e_g_memory__279 hr _
def g_memory__78 (U S N : Nat) (a1 : Int32) (a2 : Int32) (a4 : Int32) (μ : RS) : Option (Unit × RS) :=
  if a2 = 0 then
    (rA U μ 43 a1).bind fun v2 =>
    (g_load U S N a1 a4 μ).bind fun q3 =>
    (wA U q3.2 43 a1 (v2 &&& q3.1)).bind fun μ5 =>
    g_memory__279 U S N μ5
  else
    if a2 = 1 then
      (rA U μ 43 a1).bind fun v7 =>
      (g_load U S N a1 a4 μ).bind fun q8 =>
      if (v7 + q8.1) ≤ (4095 : Int32) then
        g_memory__169 U S N a1 (v7 + q8.1) q8.2
      else
        (rA U q8.2 46 a1).bind fun v12 =>
        (wA U q8.2 46 a1 (1 - v12)).bind fun μ13 =>
        g_memory__169 U S N a1 (v7 + q8.1) μ13
    else
      if a2 = 2 then
        (g_load U S N a1 a4 μ).bind fun q14 =>
        (g_store U S N a1 a4 (q14.1 + 1) q14.2).bind fun q16 =>
        (g_load U S N a1 a4 q16.2).bind fun q18 =>
        if ¬ q18.1 = 0 then
          g_memory__279 U S N q18.2
        else
          (g_skip U S N a1 q18.2).bind fun q20 =>
          g_memory__279 U S N q20.2
      else
        if a2 = 3 then
          (rA U μ 43 a1).bind fun v23 =>
          (g_store U S N a1 a4 v23 μ).bind fun q24 =>
          (wA U q24.2 43 a1 0).bind fun μ27 =>
          g_memory__279 U S N μ27
        else
          if a2 = 4 then
            (rA U μ 45 a1).bind fun v29 =>
            (g_store U S N a1 a4 v29 μ).bind fun q30 =>
            (wA U q30.2 45 a1 ((a4 + 1) &&& 4095)).bind fun μ33 =>
            g_memory__279 U S N μ33
          else
            (wA U μ 45 a1 a4).bind fun μ35 =>
            g_memory__279 U S N μ35
theorem e_g_memory__78 {μ0 : Mem} {r U S : Nat} (hr : r < μ0.1) {N : Nat} (a1 : Int32) (a2 : Int32) (a4 : Int32) (s : RS) : f_X12_memory__78 N (some r) a1 a2 a4 (EM μ0 r (pcs U S) s) = (g_memory__78 U S N a1 a2 a4 s).map (em μ0 r U S) := by
  unfold f_X12_memory__78 g_memory__78
  refine st_if (fun _ => ?_) (fun _ => ?_)
  · refine st_fR hr _ (by decide) rfl ?_
    refine st_aI hr _ (lk_43 U S) _ fun v2 => ?_
    refine st_ck hr _ ?_
    refine st_call (e_g_load hr _ _ _) fun q3 => ?_
    dsimp only
    refine st_bI hr _ (lk_43 U S) _ _ fun μ5 => ?_
    exact e_g_memory__279 hr _
  · refine st_if (fun _ => ?_) (fun _ => ?_)
    · refine st_fR hr _ (by decide) rfl ?_
      refine st_aI hr _ (lk_43 U S) _ fun v7 => ?_
      refine st_ck hr _ ?_
      refine st_call (e_g_load hr _ _ _) fun q8 => ?_
      dsimp only
      refine st_if (fun _ => ?_) (fun _ => ?_)
      · exact e_g_memory__169 hr _ _ _
      · refine st_fR hr _ (by decide) rfl ?_
        refine st_fR hr _ (by decide) rfl ?_
        refine st_aI hr _ (lk_46 U S) _ fun v12 => ?_
        refine st_bI hr _ (lk_46 U S) _ _ fun μ13 => ?_
        exact e_g_memory__169 hr _ _ _
    · refine st_if (fun _ => ?_) (fun _ => ?_)
      · refine st_ck hr _ ?_
        refine st_call (e_g_load hr _ _ _) fun q14 => ?_
        dsimp only
        refine st_ck hr _ ?_
        refine st_call (e_g_store hr _ _ _ _) fun q16 => ?_
        dsimp only
        refine st_ck hr _ ?_
        refine st_call (e_g_load hr _ _ _) fun q18 => ?_
        dsimp only
        refine st_if (fun _ => ?_) (fun _ => ?_)
        · exact e_g_memory__279 hr _
        · refine st_ck hr _ ?_
          refine st_call (e_g_skip hr _ _) fun q20 => ?_
          dsimp only
          exact e_g_memory__279 hr _
      · refine st_if (fun _ => ?_) (fun _ => ?_)
        · refine st_fR hr _ (by decide) rfl ?_
          refine st_aI hr _ (lk_43 U S) _ fun v23 => ?_
          refine st_ck hr _ ?_
          refine st_call (e_g_store hr _ _ _ _) fun q24 => ?_
          dsimp only
          refine st_fR hr _ (by decide) rfl ?_
          refine st_bI hr _ (lk_43 U S) _ _ fun μ27 => ?_
          exact e_g_memory__279 hr _
        · refine st_if (fun _ => ?_) (fun _ => ?_)
          · refine st_fR hr _ (by decide) rfl ?_
            refine st_aI hr _ (lk_45 U S) _ fun v29 => ?_
            refine st_ck hr _ ?_
            refine st_call (e_g_store hr _ _ _ _) fun q30 => ?_
            dsimp only
            refine st_fR hr _ (by decide) rfl ?_
            refine st_bI hr _ (lk_45 U S) _ _ fun μ33 => ?_
            exact e_g_memory__279 hr _
          · refine st_fR hr _ (by decide) rfl ?_
            refine st_bI hr _ (lk_45 U S) _ _ fun μ35 => ?_
            exact e_g_memory__279 hr _
def g_memory__69 (U S N : Nat) (a1 : Int32) (a2 : Int32) (a4 : Int32) (μ : RS) : Option (Unit × RS) :=
  (g_load U S N a1 a4 μ).bind fun q1 =>
  g_memory__78 U S N a1 a2 q1.1 q1.2
theorem e_g_memory__69 {μ0 : Mem} {r U S : Nat} (hr : r < μ0.1) {N : Nat} (a1 : Int32) (a2 : Int32) (a4 : Int32) (s : RS) : f_X12_memory__69 N (some r) a1 a2 a4 (EM μ0 r (pcs U S) s) = (g_memory__69 U S N a1 a2 a4 s).map (em μ0 r U S) := by
  unfold f_X12_memory__69 g_memory__69
  refine st_ck hr _ ?_
  refine st_call (e_g_load hr _ _ _) fun q1 => ?_
  dsimp only
  exact e_g_memory__78 hr _ _ _ _
def g_memory__27 (U S N : Nat) (a1 : Int32) (a2 : Int32) (s0 : Int32) (s1 : Int32) (μ : RS) : Option (Unit × RS) :=
  if ((μ.1 78) &&& 256) = 0 then
    g_memory__78 U S N a1 a2 (s0 ||| s1) μ
  else
    (g_in U S N (s0 ||| s1) 8 15 μ).bind fun q2 =>
    if q2.1 = 0 then
      g_memory__69 U S N a1 a2 (s0 ||| s1) q2.2
    else
      (g_load U S N a1 (s0 ||| s1) q2.2).bind fun q3 =>
      (g_store U S N a1 (s0 ||| s1) (q3.1 + 1) q3.2).bind fun q5 =>
      g_memory__69 U S N a1 a2 (s0 ||| s1) q5.2
theorem e_g_memory__27 {μ0 : Mem} {r U S : Nat} (hr : r < μ0.1) {N : Nat} (a1 : Int32) (a2 : Int32) (s0 : Int32) (s1 : Int32) (s : RS) : f_X12_memory__27 N (some r) a1 a2 s0 s1 (EM μ0 r (pcs U S) s) = (g_memory__27 U S N a1 a2 s0 s1 s).map (em μ0 r U S) := by
  unfold f_X12_memory__27 g_memory__27
  refine st_fI hr _ (by decide) rfl ?_
  refine st_if (fun _ => ?_) (fun _ => ?_)
  · exact e_g_memory__78 hr _ _ _ _
  · refine st_call (e_g_in hr _ _ _ _) fun q2 => ?_
    dsimp only
    refine st_if (fun _ => ?_) (fun _ => ?_)
    · exact e_g_memory__69 hr _ _ _ _
    · refine st_ck hr _ ?_
      refine st_call (e_g_load hr _ _ _) fun q3 => ?_
      dsimp only
      refine st_ck hr _ ?_
      refine st_call (e_g_store hr _ _ _ _) fun q5 => ?_
      dsimp only
      exact e_g_memory__69 hr _ _ _ _
