/-! LAYER 2, the reference over its typed state, further (by program) -/
def g_memory_ (U S N : Nat) (a1 : Int32) (a2 : Int32) (a3 : Int32) (μ : RS) : Option (Unit × RS) :=
  if ¬ ((μ.1 78) &&& 128) = 0 then
    g_memory__27 U S N a1 a2 ((μ.1 78) &&& 127) (a3 &&& 3968) μ
  else
    g_memory__27 U S N a1 a2 ((μ.1 78) &&& 127) 0 μ
theorem e_g_memory_ {μ0 : Mem} {r U S : Nat} (hr : r < μ0.1) {N : Nat} (a1 : Int32) (a2 : Int32) (a3 : Int32) (s : RS) : f_X12_memory_ N (some r) a1 a2 a3 (EM μ0 r (pcs U S) s) = (g_memory_ U S N a1 a2 a3 s).map (em μ0 r U S) := by
  unfold f_X12_memory_ g_memory_
  refine st_fI hr _ (by decide) rfl ?_
  refine st_fI hr _ (by decide) rfl ?_
  refine st_if (fun _ => ?_) (fun _ => ?_)
  · exact e_g_memory__27 hr _ _ _ _ _
  · exact e_g_memory__27 hr _ _ _ _ _
def h_goes_12 (U S N : Nat) (k12 : Int32 → Int32 → RS → Option (Unit × RS)) (a1 : Int32) (a2 : Int32) (μ : RS) : Option (Unit × RS) :=
  (rA U μ 50 a1).bind fun v2 =>
  if v2 ≤ a2 then
    some ((), μ)
  else
    (rQ U a1).bind fun v4 =>
    (rQ U a1).bind fun v6 =>
    (rG 16 μ 49 v6 (a2 + 1)).bind fun v7 =>
    (wG 16 μ 49 v4 a2 v7).bind fun μ8 =>
    k12 a1 (a2 + 1) μ8
theorem e_h_goes_12 {μ0 : Mem} {r U S : Nat} (hr : r < μ0.1) {N : Nat} {k12 : (Option Nat) → Int32 → Int32 → Mem → Option (Unit × Mem)} {k12' : Int32 → Int32 → RS → Option (Unit × RS)} (hk12 : ∀ (x1 : Int32) (x2 : Int32) (s : RS), k12 (some r) x1 x2 (EM μ0 r (pcs U S) s) = (k12' x1 x2 s).map (em μ0 r U S)) (a1 : Int32) (a2 : Int32) (s : RS) : H_X12_goes_12 N k12 (some r) a1 a2 (EM μ0 r (pcs U S) s) = (h_goes_12 U S N k12' a1 a2 s).map (em μ0 r U S) := by
  unfold H_X12_goes_12 h_goes_12
  refine st_fR hr _ (by decide) rfl ?_
  refine st_aI hr _ (lk_50 U S) _ fun v2 => ?_
  refine st_if (fun _ => ?_) (fun _ => ?_)
  · exact rfl
  · refine st_fR hr _ (by decide) rfl ?_
    refine st_aR hr _ (lk_49 U S) _ fun v4 hv4 => ?_
    refine st_fR hr _ (by decide) rfl ?_
    refine st_aR hr _ (lk_49 U S) _ fun v6 hv6 => ?_
    refine st_gI hr _ (lk_49 U S) hv6 _ fun v7 => ?_
    refine st_hI hr _ (lk_49 U S) hv4 _ _ fun μ8 => ?_
    exact hk12 _ _ _
def l_goes_12 (U S N : Nat)  : Nat → Int32 → Int32 → RS → Option (Unit × RS)
  | 0 => fun _ _ _ => none
  | n + 1 => h_goes_12 U S N (l_goes_12 U S N n)
theorem e_l_goes_12 {μ0 : Mem} {r U S : Nat} (hr : r < μ0.1) {N : Nat} : ∀ (n : Nat) (x1 : Int32) (x2 : Int32) (s : RS), L_X12_goes_12 N n (some r) x1 x2 (EM μ0 r (pcs U S) s) = (l_goes_12 U S N n x1 x2 s).map (em μ0 r U S) := by
  intro n
  induction n with
  | zero => intros; exact rfl
  | succ n ih => intros; exact e_h_goes_12 hr ih _ _ _
def g_goes (U S N : Nat) (a1 : Int32) (μ : RS) : Option (Unit × RS) :=
  (rA U μ 50 a1).bind fun v2 =>
  (wA U μ 50 a1 (v2 - 1)).bind fun μ3 =>
  l_goes_12 U S N N a1 0 μ3
theorem e_g_goes {μ0 : Mem} {r U S : Nat} (hr : r < μ0.1) {N : Nat} (a1 : Int32) (s : RS) : f_X12_goes N (some r) a1 (EM μ0 r (pcs U S) s) = (g_goes U S N a1 s).map (em μ0 r U S) := by
  unfold f_X12_goes g_goes
  refine st_fR hr _ (by decide) rfl ?_
  refine st_aI hr _ (lk_50 U S) _ fun v2 => ?_
  refine st_bI hr _ (lk_50 U S) _ _ fun μ3 => ?_
  exact e_l_goes_12 hr N _ _ _
def g_device_371 (U S N : Nat) (μ : RS) : Option (Int32 × RS) :=
  rZ 1 μ
theorem e_g_device_371 {μ0 : Mem} {r U S : Nat} (hr : r < μ0.1) {N : Nat} (s : RS) : f_X12_device_371 N  (EM μ0 r (pcs U S) s) = (g_device_371 U S N  s).map (em μ0 r U S) := by
  unfold f_X12_device_371 g_device_371
  exact st_rZ _ _
def g_device_203 (U S N : Nat) (a1 : Int32) (μ : RS) : Option (Int32 × RS) :=
  (rQ U a1).bind fun v2 =>
  (rA U μ 53 a1).bind fun v4 =>
  (rA U μ 43 a1).bind fun v6 =>
  (wG 16 μ 52 v2 v4 (v6 &&& 127)).bind fun μ7 =>
  (rA U μ7 53 a1).bind fun v9 =>
  (wA U μ7 53 a1 (v9 + 1)).bind fun μ10 =>
  g_device_371 U S N μ10
theorem e_g_device_203 {μ0 : Mem} {r U S : Nat} (hr : r < μ0.1) {N : Nat} (a1 : Int32) (s : RS) : f_X12_device_203 N (some r) a1 (EM μ0 r (pcs U S) s) = (g_device_203 U S N a1 s).map (em μ0 r U S) := by
  unfold f_X12_device_203 g_device_203
  refine st_fR hr _ (by decide) rfl ?_
  refine st_aR hr _ (lk_52 U S) _ fun v2 hv2 => ?_
  refine st_fR hr _ (by decide) rfl ?_
  refine st_aI hr _ (lk_53 U S) _ fun v4 => ?_
  refine st_fR hr _ (by decide) rfl ?_
  refine st_aI hr _ (lk_43 U S) _ fun v6 => ?_
  refine st_hI hr _ (lk_52 U S) hv2 _ _ fun μ7 => ?_
  refine st_fR hr _ (by decide) rfl ?_
  refine st_aI hr _ (lk_53 U S) _ fun v9 => ?_
  refine st_bI hr _ (lk_53 U S) _ _ fun μ10 => ?_
  exact e_g_device_371 hr _
def g_device_274 (U S N : Nat) (a1 : Int32) (μ : RS) : Option (Int32 × RS) :=
  (wA U μ 43 a1 0).bind fun μ2 =>
  g_device_371 U S N μ2
theorem e_g_device_274 {μ0 : Mem} {r U S : Nat} (hr : r < μ0.1) {N : Nat} (a1 : Int32) (s : RS) : f_X12_device_274 N (some r) a1 (EM μ0 r (pcs U S) s) = (g_device_274 U S N a1 s).map (em μ0 r U S) := by
  unfold f_X12_device_274 g_device_274
  refine st_fR hr _ (by decide) rfl ?_
  refine st_bI hr _ (lk_43 U S) _ _ fun μ2 => ?_
  exact e_g_device_371 hr _
def g_device_321 (U S N : Nat) (a1 : Int32) (s1 : Int32) (s2 : Int32) (μ : RS) : Option (Int32 × RS) :=
  (wZ U μ 61 s1 s2).bind fun μ1 =>
  (rA U μ1 43 a1).bind fun v4 =>
  (wA U μ1 60 a1 (v4 &&& 7)).bind fun μ5 =>
  (rA U μ5 44 a1).bind fun v8 =>
  (wA U μ5 59 a1 v8).bind fun μ9 =>
  (wA U μ9 58 a1 (μ9.1 76)).bind fun μ12 =>
  (some (pI μ12 76 ((μ12.1 76) + 1))).bind fun μ14 =>
  rZ 0 μ14
theorem e_g_device_321 {μ0 : Mem} {r U S : Nat} (hr : r < μ0.1) {N : Nat} (a1 : Int32) (s1 : Int32) (s2 : Int32) (s : RS) : f_X12_device_321 N (some r) a1 (fnd (pcs U S) μ0.1 61) s1 s2 (EM μ0 r (pcs U S) s) = (g_device_321 U S N a1 s1 s2 s).map (em μ0 r U S) := by
  unfold f_X12_device_321 g_device_321
  refine st_bZ hr _ (lk_61 U S) _ _ fun μ1 => ?_
  refine st_fR hr _ (by decide) rfl ?_
  refine st_fR hr _ (by decide) rfl ?_
  refine st_aI hr _ (lk_43 U S) _ fun v4 => ?_
  refine st_bI hr _ (lk_60 U S) _ _ fun μ5 => ?_
  refine st_fR hr _ (by decide) rfl ?_
  refine st_fR hr _ (by decide) rfl ?_
  refine st_aI hr _ (lk_44 U S) _ fun v8 => ?_
  refine st_bI hr _ (lk_59 U S) _ _ fun μ9 => ?_
  refine st_fR hr _ (by decide) rfl ?_
  refine st_fI hr _ (by decide) rfl ?_
  refine st_bI hr _ (lk_58 U S) _ _ fun μ12 => ?_
  refine st_fI hr _ (by decide) rfl ?_
  refine st_pI hr _ (by decide) rfl _ ?_
  exact st_rZ _ _
def g_device_294 (U S N : Nat) (a1 : Int32) (μ : RS) : Option (Int32 × RS) :=
  (wA U μ 42 a1 5).bind fun μ2 =>
  if ¬ (μ2.1 78) = (3361 : Int32) then
    g_device_321 U S N a1 a1 0 μ2
  else
    g_device_321 U S N a1 a1 1 μ2
theorem e_g_device_294 {μ0 : Mem} {r U S : Nat} (hr : r < μ0.1) {N : Nat} (a1 : Int32) (s : RS) : f_X12_device_294 N (some r) a1 (EM μ0 r (pcs U S) s) = (g_device_294 U S N a1 s).map (em μ0 r U S) := by
  unfold f_X12_device_294 g_device_294
  refine st_fR hr _ (by decide) rfl ?_
  refine st_bI hr _ (lk_42 U S) _ _ fun μ2 => ?_
  refine st_fR hr _ (by decide) rfl ?_
  refine st_fI hr _ (by decide) rfl ?_
  refine st_if (fun _ => ?_) (fun _ => ?_)
  · exact e_g_device_321 hr _ _ _ _
  · exact e_g_device_321 hr _ _ _ _
def g_device (U S N : Nat) (a1 : Int32) (μ : RS) : Option (Int32 × RS) :=
  if (μ.1 78) = 3097 then
    (rA U μ 50 a1).bind fun v3 =>
    if v3 ≤ 0 then
      g_device_371 U S N μ
    else
      (g_skip U S N a1 μ).bind fun q4 =>
      g_device_371 U S N q4.2
  else
    if (μ.1 78) = 3098 then
      (wA U μ 43 a1 0).bind fun μ7 =>
      (rA U μ7 50 a1).bind fun v9 =>
      if v9 ≤ 0 then
        g_device_371 U S N μ7
      else
        (g_goes U S N a1 μ7).bind fun q10 =>
        g_device_371 U S N q10.2
    else
      if (μ.1 78) = 3100 then
        (rA U μ 43 a1).bind fun v13 =>
        (rQ U a1).bind fun v15 =>
        (rG 16 μ 49 v15 0).bind fun v16 =>
        (wA U μ 43 a1 (v13 ||| (v16 ||| 128))).bind fun μ17 =>
        g_device_371 U S N μ17
      else
        if (μ.1 78) = 3102 then
          (rQ U a1).bind fun v20 =>
          (rG 16 μ 49 v20 0).bind fun v21 =>
          (wA U μ 43 a1 (v21 ||| 128)).bind fun μ22 =>
          (g_goes U S N a1 μ22).bind fun q23 =>
          g_device_371 U S N q23.2
        else
          if (μ.1 78) = 3105 then
            (g_skip U S N a1 μ).bind fun q25 =>
            g_device_371 U S N q25.2
          else
            if (μ.1 78) = 3108 then
              g_device_203 U S N a1 μ
            else
              if (μ.1 78) = 3110 then
                g_device_203 U S N a1 μ
              else
                if (μ.1 78) = 3343 then
                  (wA U μ 43 a1 a1).bind fun μ28 =>
                  g_device_371 U S N μ28
                else
                  if (μ.1 78) = 3344 then
                    (rA U μ 43 a1).bind fun v30 =>
                    if v30 ≤ 0 then
                      g_device_274 U S N a1 μ
                    else
                      (wA U μ 42 a1 4).bind fun μ32 =>
                      (rA U μ32 43 a1).bind fun v36 =>
                      (wA U μ32 57 a1 ((μ32.1 66) + (16 * v36))).bind fun μ37 =>
                      g_device_274 U S N a1 μ37
                  else
                    if (μ.1 78) = 3360 then
                      g_device_294 U S N a1 μ
                    else
                      if (μ.1 78) = 3361 then
                        g_device_294 U S N a1 μ
                      else
                        g_device_371 U S N μ
theorem e_g_device {μ0 : Mem} {r U S : Nat} (hr : r < μ0.1) {N : Nat} (a1 : Int32) (s : RS) : f_X12_device N (some r) a1 (EM μ0 r (pcs U S) s) = (g_device U S N a1 s).map (em μ0 r U S) := by
  unfold f_X12_device g_device
  refine st_fI hr _ (by decide) rfl ?_
  refine st_if (fun _ => ?_) (fun _ => ?_)
  · refine st_fR hr _ (by decide) rfl ?_
    refine st_aI hr _ (lk_50 U S) _ fun v3 => ?_
    refine st_if (fun _ => ?_) (fun _ => ?_)
    · exact e_g_device_371 hr _
    · refine st_ck hr _ ?_
      refine st_call (e_g_skip hr _ _) fun q4 => ?_
      dsimp only
      exact e_g_device_371 hr _
  · refine st_if (fun _ => ?_) (fun _ => ?_)
    · refine st_fR hr _ (by decide) rfl ?_
      refine st_bI hr _ (lk_43 U S) _ _ fun μ7 => ?_
      refine st_fR hr _ (by decide) rfl ?_
      refine st_aI hr _ (lk_50 U S) _ fun v9 => ?_
      refine st_if (fun _ => ?_) (fun _ => ?_)
      · exact e_g_device_371 hr _
      · refine st_ck hr _ ?_
        refine st_call (e_g_goes hr _ _) fun q10 => ?_
        dsimp only
        exact e_g_device_371 hr _
    · refine st_if (fun _ => ?_) (fun _ => ?_)
      · refine st_fR hr _ (by decide) rfl ?_
        refine st_aI hr _ (lk_43 U S) _ fun v13 => ?_
        refine st_fR hr _ (by decide) rfl ?_
        refine st_aR hr _ (lk_49 U S) _ fun v15 hv15 => ?_
        refine st_gI hr _ (lk_49 U S) hv15 _ fun v16 => ?_
        refine st_bI hr _ (lk_43 U S) _ _ fun μ17 => ?_
        exact e_g_device_371 hr _
      · refine st_if (fun _ => ?_) (fun _ => ?_)
        · refine st_fR hr _ (by decide) rfl ?_
          refine st_fR hr _ (by decide) rfl ?_
          refine st_aR hr _ (lk_49 U S) _ fun v20 hv20 => ?_
          refine st_gI hr _ (lk_49 U S) hv20 _ fun v21 => ?_
          refine st_bI hr _ (lk_43 U S) _ _ fun μ22 => ?_
          refine st_ck hr _ ?_
          refine st_call (e_g_goes hr _ _) fun q23 => ?_
          dsimp only
          exact e_g_device_371 hr _
        · refine st_if (fun _ => ?_) (fun _ => ?_)
          · refine st_ck hr _ ?_
            refine st_call (e_g_skip hr _ _) fun q25 => ?_
            dsimp only
            exact e_g_device_371 hr _
          · refine st_if (fun _ => ?_) (fun _ => ?_)
            · exact e_g_device_203 hr _ _
            · refine st_if (fun _ => ?_) (fun _ => ?_)
              · exact e_g_device_203 hr _ _
              · refine st_if (fun _ => ?_) (fun _ => ?_)
                · refine st_fR hr _ (by decide) rfl ?_
                  refine st_bI hr _ (lk_43 U S) _ _ fun μ28 => ?_
                  exact e_g_device_371 hr _
                · refine st_if (fun _ => ?_) (fun _ => ?_)
                  · refine st_fR hr _ (by decide) rfl ?_
                    refine st_aI hr _ (lk_43 U S) _ fun v30 => ?_
                    refine st_if (fun _ => ?_) (fun _ => ?_)
                    · exact e_g_device_274 hr _ _
                    · refine st_fR hr _ (by decide) rfl ?_
                      refine st_bI hr _ (lk_42 U S) _ _ fun μ32 => ?_
                      refine st_fR hr _ (by decide) rfl ?_
                      refine st_fI hr _ (by decide) rfl ?_
                      refine st_fR hr _ (by decide) rfl ?_
                      refine st_aI hr _ (lk_43 U S) _ fun v36 => ?_
                      refine st_bI hr _ (lk_57 U S) _ _ fun μ37 => ?_
                      exact e_g_device_274 hr _ _
                  · refine st_if (fun _ => ?_) (fun _ => ?_)
                    · exact e_g_device_294 hr _ _
                    · refine st_if (fun _ => ?_) (fun _ => ?_)
                      · exact e_g_device_294 hr _ _
                      · exact e_g_device_371 hr _
def g_has_14 (U S N : Nat) (s0 : Int32) (μ : RS) : Option (Int32 × RS) :=
  rZ s0 μ
theorem e_g_has_14 {μ0 : Mem} {r U S : Nat} (hr : r < μ0.1) {N : Nat} (s0 : Int32) (s : RS) : f_X12_has_14 N s0 (EM μ0 r (pcs U S) s) = (g_has_14 U S N s0 s).map (em μ0 r U S) := by
  unfold f_X12_has_14 g_has_14
  exact st_rZ _ _
def g_has (U S N : Nat) (a1 : Int32) (μ : RS) : Option (Int32 × RS) :=
  if ((μ.1 78) &&& a1) = 0 then
    g_has_14 U S N 0 μ
  else
    g_has_14 U S N 1 μ
theorem e_g_has {μ0 : Mem} {r U S : Nat} (hr : r < μ0.1) {N : Nat} (a1 : Int32) (s : RS) : f_X12_has N (some r) a1 (EM μ0 r (pcs U S) s) = (g_has U S N a1 s).map (em μ0 r U S) := by
  unfold f_X12_has g_has
  refine st_fI hr _ (by decide) rfl ?_
  refine st_if (fun _ => ?_) (fun _ => ?_)
  · exact e_g_has_14 hr _ _
  · exact e_g_has_14 hr _ _
def g_first_240 (U S N : Nat) (a1 : Int32) (a2 : Int32) (μ : RS) : Option (Unit × RS) :=
  (wA U μ 46 a1 (a2 >>> ((12 : Int32) &&& 31))).bind fun μ2 =>
  (wA U μ2 43 a1 (a2 &&& 4095)).bind fun μ4 =>
  some ((), μ4)
theorem e_g_first_240 {μ0 : Mem} {r U S : Nat} (hr : r < μ0.1) {N : Nat} (a1 : Int32) (a2 : Int32) (s : RS) : f_X12_first_240 N (some r) a1 a2 (EM μ0 r (pcs U S) s) = (g_first_240 U S N a1 a2 s).map (em μ0 r U S) := by
  unfold f_X12_first_240 g_first_240
  refine st_fR hr _ (by decide) rfl ?_
  refine st_bI hr _ (lk_46 U S) _ _ fun μ2 => ?_
  refine st_fR hr _ (by decide) rfl ?_
  refine st_bI hr _ (lk_43 U S) _ _ fun μ4 => ?_
  exact rfl
def g_first_193 (U S N : Nat) (a1 : Int32) (a2 : Int32) (μ : RS) : Option (Unit × RS) :=
  (g_has U S N 2 μ).bind fun q1 =>
  if q1.1 = 0 then
    g_first_240 U S N a1 a2 q1.2
  else
    (g_has U S N 8 q1.2).bind fun q3 =>
    if ¬ q3.1 = 0 then
      g_first_240 U S N a1 a2 q3.2
    else
      (g_has U S N 4 q3.2).bind fun q5 =>
      if ¬ q5.1 = 0 then
        g_first_240 U S N a1 a2 q5.2
      else
        g_first_240 U S N a1 (((a2 &&& 4096) ||| ((a2 &&& 63) <<< ((6 : Int32) &&& 31))) ||| ((a2 >>> ((6 : Int32) &&& 31)) &&& 63)) q5.2
theorem e_g_first_193 {μ0 : Mem} {r U S : Nat} (hr : r < μ0.1) {N : Nat} (a1 : Int32) (a2 : Int32) (s : RS) : f_X12_first_193 N (some r) a1 a2 (EM μ0 r (pcs U S) s) = (g_first_193 U S N a1 a2 s).map (em μ0 r U S) := by
  unfold f_X12_first_193 g_first_193
  refine st_ck hr _ ?_
  refine st_call (e_g_has hr _ _) fun q1 => ?_
  dsimp only
  refine st_if (fun _ => ?_) (fun _ => ?_)
  · exact e_g_first_240 hr _ _ _
  · refine st_ck hr _ ?_
    refine st_call (e_g_has hr _ _) fun q3 => ?_
    dsimp only
    refine st_if (fun _ => ?_) (fun _ => ?_)
    · exact e_g_first_240 hr _ _ _
    · refine st_ck hr _ ?_
      refine st_call (e_g_has hr _ _) fun q5 => ?_
      dsimp only
      refine st_if (fun _ => ?_) (fun _ => ?_)
      · exact e_g_first_240 hr _ _ _
      · exact e_g_first_240 hr _ _ _
def g_first_186 (U S N : Nat) (k132 : Int32 → Int32 → Int32 → Int32 → RS → Option (Unit × RS)) (a1 : Int32) (a3 : Int32) (a4 : Int32) (s0 : Int32) (μ : RS) : Option (Unit × RS) :=
  k132 a1 s0 a3 (a4 + 1) μ
theorem e_g_first_186 {μ0 : Mem} {r U S : Nat} (hr : r < μ0.1) {N : Nat} {k132 : (Option Nat) → Int32 → Int32 → Int32 → Int32 → Mem → Option (Unit × Mem)} {k132' : Int32 → Int32 → Int32 → Int32 → RS → Option (Unit × RS)} (hk132 : ∀ (x1 : Int32) (x2 : Int32) (x3 : Int32) (x4 : Int32) (s : RS), k132 (some r) x1 x2 x3 x4 (EM μ0 r (pcs U S) s) = (k132' x1 x2 x3 x4 s).map (em μ0 r U S)) (a1 : Int32) (a3 : Int32) (a4 : Int32) (s0 : Int32) (s : RS) : f_X12_first_186 N k132 (some r) a1 a3 a4 s0 (EM μ0 r (pcs U S) s) = (g_first_186 U S N k132' a1 a3 a4 s0 s).map (em μ0 r U S) := by
  unfold f_X12_first_186 g_first_186
  exact hk132 _ _ _ _ _
def h_first_132 (U S N : Nat) (k132 : Int32 → Int32 → Int32 → Int32 → RS → Option (Unit × RS)) (a1 : Int32) (a2 : Int32) (a3 : Int32) (a4 : Int32) (μ : RS) : Option (Unit × RS) :=
  if a3 ≤ a4 then
    g_first_193 U S N a1 a2 μ
  else
    (g_has U S N 8 μ).bind fun q1 =>
    (g_has U S N 4 q1.2).bind fun q3 =>
    if q1.1 = q3.1 then
      g_first_193 U S N a1 a2 q3.2
    else
      (g_has U S N 8 q3.2).bind fun q5 =>
      if q5.1 = 0 then
        g_first_186 U S N k132 a1 a3 a4 (((a2 <<< ((1 : Int32) &&& 31)) &&& 8191) ||| (a2 >>> ((12 : Int32) &&& 31))) q5.2
      else
        g_first_186 U S N k132 a1 a3 a4 ((a2 >>> ((1 : Int32) &&& 31)) ||| ((a2 &&& 1) <<< ((12 : Int32) &&& 31))) q5.2
theorem e_h_first_132 {μ0 : Mem} {r U S : Nat} (hr : r < μ0.1) {N : Nat} {k132 : (Option Nat) → Int32 → Int32 → Int32 → Int32 → Mem → Option (Unit × Mem)} {k132' : Int32 → Int32 → Int32 → Int32 → RS → Option (Unit × RS)} (hk132 : ∀ (x1 : Int32) (x2 : Int32) (x3 : Int32) (x4 : Int32) (s : RS), k132 (some r) x1 x2 x3 x4 (EM μ0 r (pcs U S) s) = (k132' x1 x2 x3 x4 s).map (em μ0 r U S)) (a1 : Int32) (a2 : Int32) (a3 : Int32) (a4 : Int32) (s : RS) : H_X12_first_132 N k132 (some r) a1 a2 a3 a4 (EM μ0 r (pcs U S) s) = (h_first_132 U S N k132' a1 a2 a3 a4 s).map (em μ0 r U S) := by
  unfold H_X12_first_132 h_first_132
  refine st_if (fun _ => ?_) (fun _ => ?_)
  · exact e_g_first_193 hr _ _ _
  · refine st_ck hr _ ?_
    refine st_call (e_g_has hr _ _) fun q1 => ?_
    dsimp only
    refine st_ck hr _ ?_
    refine st_call (e_g_has hr _ _) fun q3 => ?_
    dsimp only
    refine st_if (fun _ => ?_) (fun _ => ?_)
    · exact e_g_first_193 hr _ _ _
    · refine st_ck hr _ ?_
      refine st_call (e_g_has hr _ _) fun q5 => ?_
      dsimp only
      refine st_if (fun _ => ?_) (fun _ => ?_)
      · exact e_g_first_186 hr hk132 _ _ _ _ _
      · exact e_g_first_186 hr hk132 _ _ _ _ _
def l_first_132 (U S N : Nat)  : Nat → Int32 → Int32 → Int32 → Int32 → RS → Option (Unit × RS)
  | 0 => fun _ _ _ _ _ => none
  | n + 1 => h_first_132 U S N (l_first_132 U S N n)
theorem e_l_first_132 {μ0 : Mem} {r U S : Nat} (hr : r < μ0.1) {N : Nat} : ∀ (n : Nat) (x1 : Int32) (x2 : Int32) (x3 : Int32) (x4 : Int32) (s : RS), L_X12_first_132 N n (some r) x1 x2 x3 x4 (EM μ0 r (pcs U S) s) = (l_first_132 U S N n x1 x2 x3 x4 s).map (em μ0 r U S) := by
  intro n
  induction n with
  | zero => intros; exact rfl
  | succ n ih => intros; exact e_h_first_132 hr ih _ _ _ _ _
def g_first_128 (U S N : Nat) (a1 : Int32) (a2 : Int32) (s0 : Int32) (μ : RS) : Option (Unit × RS) :=
  l_first_132 U S N N a1 a2 s0 0 μ
theorem e_g_first_128 {μ0 : Mem} {r U S : Nat} (hr : r < μ0.1) {N : Nat} (a1 : Int32) (a2 : Int32) (s0 : Int32) (s : RS) : f_X12_first_128 N (some r) a1 a2 s0 (EM μ0 r (pcs U S) s) = (g_first_128 U S N a1 a2 s0 s).map (em μ0 r U S) := by
  unfold f_X12_first_128 g_first_128
  exact e_l_first_132 hr N _ _ _ _ _
def g_first_115 (U S N : Nat) (a1 : Int32) (a2 : Int32) (μ : RS) : Option (Unit × RS) :=
  (g_has U S N 2 μ).bind fun q1 =>
  if q1.1 = 0 then
    g_first_128 U S N a1 a2 1 q1.2
  else
    g_first_128 U S N a1 a2 2 q1.2
theorem e_g_first_115 {μ0 : Mem} {r U S : Nat} (hr : r < μ0.1) {N : Nat} (a1 : Int32) (a2 : Int32) (s : RS) : f_X12_first_115 N (some r) a1 a2 (EM μ0 r (pcs U S) s) = (g_first_115 U S N a1 a2 s).map (em μ0 r U S) := by
  unfold f_X12_first_115 g_first_115
  refine st_ck hr _ ?_
  refine st_call (e_g_has hr _ _) fun q1 => ?_
  dsimp only
  refine st_if (fun _ => ?_) (fun _ => ?_)
  · exact e_g_first_128 hr _ _ _ _
  · exact e_g_first_128 hr _ _ _ _
def g_first_81 (U S N : Nat) (a1 : Int32) (μ : RS) : Option (Unit × RS) :=
  (rA U μ 46 a1).bind fun v2 =>
  (rA U μ 43 a1).bind fun v4 =>
  (g_has U S N 1 μ).bind fun q5 =>
  if q5.1 = 0 then
    g_first_115 U S N a1 ((4096 * v2) + v4) q5.2
  else
    g_first_115 U S N a1 ((((4096 * v2) + v4) + 1) &&& 8191) q5.2
theorem e_g_first_81 {μ0 : Mem} {r U S : Nat} (hr : r < μ0.1) {N : Nat} (a1 : Int32) (s : RS) : f_X12_first_81 N (some r) a1 (EM μ0 r (pcs U S) s) = (g_first_81 U S N a1 s).map (em μ0 r U S) := by
  unfold f_X12_first_81 g_first_81
  refine st_fR hr _ (by decide) rfl ?_
  refine st_aI hr _ (lk_46 U S) _ fun v2 => ?_
  refine st_fR hr _ (by decide) rfl ?_
  refine st_aI hr _ (lk_43 U S) _ fun v4 => ?_
  refine st_ck hr _ ?_
  refine st_call (e_g_has hr _ _) fun q5 => ?_
  dsimp only
  refine st_if (fun _ => ?_) (fun _ => ?_)
  · exact e_g_first_115 hr _ _ _
  · exact e_g_first_115 hr _ _ _
def g_first_58 (U S N : Nat) (a1 : Int32) (μ : RS) : Option (Unit × RS) :=
  (g_has U S N 16 μ).bind fun q1 =>
  if q1.1 = 0 then
    g_first_81 U S N a1 q1.2
  else
    (rA U q1.2 46 a1).bind fun v5 =>
    (wA U q1.2 46 a1 (1 - v5)).bind fun μ6 =>
    g_first_81 U S N a1 μ6
theorem e_g_first_58 {μ0 : Mem} {r U S : Nat} (hr : r < μ0.1) {N : Nat} (a1 : Int32) (s : RS) : f_X12_first_58 N (some r) a1 (EM μ0 r (pcs U S) s) = (g_first_58 U S N a1 s).map (em μ0 r U S) := by
  unfold f_X12_first_58 g_first_58
  refine st_ck hr _ ?_
  refine st_call (e_g_has hr _ _) fun q1 => ?_
  dsimp only
  refine st_if (fun _ => ?_) (fun _ => ?_)
  · exact e_g_first_81 hr _ _
  · refine st_fR hr _ (by decide) rfl ?_
    refine st_fR hr _ (by decide) rfl ?_
    refine st_aI hr _ (lk_46 U S) _ fun v5 => ?_
    refine st_bI hr _ (lk_46 U S) _ _ fun μ6 => ?_
    exact e_g_first_81 hr _ _
def g_first_33 (U S N : Nat) (a1 : Int32) (μ : RS) : Option (Unit × RS) :=
  (g_has U S N 32 μ).bind fun q1 =>
  if q1.1 = 0 then
    g_first_58 U S N a1 q1.2
  else
    (rA U q1.2 43 a1).bind fun v5 =>
    (wA U q1.2 43 a1 (4095 - v5)).bind fun μ6 =>
    g_first_58 U S N a1 μ6
theorem e_g_first_33 {μ0 : Mem} {r U S : Nat} (hr : r < μ0.1) {N : Nat} (a1 : Int32) (s : RS) : f_X12_first_33 N (some r) a1 (EM μ0 r (pcs U S) s) = (g_first_33 U S N a1 s).map (em μ0 r U S) := by
  unfold f_X12_first_33 g_first_33
  refine st_ck hr _ ?_
  refine st_call (e_g_has hr _ _) fun q1 => ?_
  dsimp only
  refine st_if (fun _ => ?_) (fun _ => ?_)
  · exact e_g_first_58 hr _ _
  · refine st_fR hr _ (by decide) rfl ?_
    refine st_fR hr _ (by decide) rfl ?_
    refine st_aI hr _ (lk_43 U S) _ fun v5 => ?_
    refine st_bI hr _ (lk_43 U S) _ _ fun μ6 => ?_
    exact e_g_first_58 hr _ _
def g_first_17 (U S N : Nat) (a1 : Int32) (μ : RS) : Option (Unit × RS) :=
  (g_has U S N 64 μ).bind fun q1 =>
  if q1.1 = 0 then
    g_first_33 U S N a1 q1.2
  else
    (wA U q1.2 46 a1 0).bind fun μ4 =>
    g_first_33 U S N a1 μ4
theorem e_g_first_17 {μ0 : Mem} {r U S : Nat} (hr : r < μ0.1) {N : Nat} (a1 : Int32) (s : RS) : f_X12_first_17 N (some r) a1 (EM μ0 r (pcs U S) s) = (g_first_17 U S N a1 s).map (em μ0 r U S) := by
  unfold f_X12_first_17 g_first_17
  refine st_ck hr _ ?_
  refine st_call (e_g_has hr _ _) fun q1 => ?_
  dsimp only
  refine st_if (fun _ => ?_) (fun _ => ?_)
  · exact e_g_first_33 hr _ _
  · refine st_fR hr _ (by decide) rfl ?_
    refine st_bI hr _ (lk_46 U S) _ _ fun μ4 => ?_
    exact e_g_first_33 hr _ _
def g_first (U S N : Nat) (a1 : Int32) (μ : RS) : Option (Unit × RS) :=
  (g_has U S N 128 μ).bind fun q1 =>
  if q1.1 = 0 then
    g_first_17 U S N a1 q1.2
  else
    (wA U q1.2 43 a1 0).bind fun μ4 =>
    g_first_17 U S N a1 μ4
theorem e_g_first {μ0 : Mem} {r U S : Nat} (hr : r < μ0.1) {N : Nat} (a1 : Int32) (s : RS) : f_X12_first N (some r) a1 (EM μ0 r (pcs U S) s) = (g_first U S N a1 s).map (em μ0 r U S) := by
  unfold f_X12_first g_first
  refine st_ck hr _ ?_
  refine st_call (e_g_has hr _ _) fun q1 => ?_
  dsimp only
  refine st_if (fun _ => ?_) (fun _ => ?_)
  · exact e_g_first_17 hr _ _
  · refine st_fR hr _ (by decide) rfl ?_
    refine st_bI hr _ (lk_43 U S) _ _ fun μ4 => ?_
    exact e_g_first_17 hr _ _
def g_second_135 (U S N : Nat) (μ : RS) : Option (Unit × RS) :=
  some ((), μ)
theorem e_g_second_135 {μ0 : Mem} {r U S : Nat} (hr : r < μ0.1) {N : Nat} (s : RS) : f_X12_second_135 N  (EM μ0 r (pcs U S) s) = (g_second_135 U S N  s).map (em μ0 r U S) := by
  unfold f_X12_second_135 g_second_135
  exact rfl
def g_second_119 (U S N : Nat) (a1 : Int32) (μ : RS) : Option (Unit × RS) :=
  (g_has U S N 2 μ).bind fun q1 =>
  if q1.1 = 0 then
    g_second_135 U S N q1.2
  else
    (wA U q1.2 42 a1 6).bind fun μ4 =>
    g_second_135 U S N μ4
theorem e_g_second_119 {μ0 : Mem} {r U S : Nat} (hr : r < μ0.1) {N : Nat} (a1 : Int32) (s : RS) : f_X12_second_119 N (some r) a1 (EM μ0 r (pcs U S) s) = (g_second_119 U S N a1 s).map (em μ0 r U S) := by
  unfold f_X12_second_119 g_second_119
  refine st_ck hr _ ?_
  refine st_call (e_g_has hr _ _) fun q1 => ?_
  dsimp only
  refine st_if (fun _ => ?_) (fun _ => ?_)
  · exact e_g_second_135 hr _
  · refine st_fR hr _ (by decide) rfl ?_
    refine st_bI hr _ (lk_42 U S) _ _ fun μ4 => ?_
    exact e_g_second_135 hr _
def g_second_96 (U S N : Nat) (a1 : Int32) (μ : RS) : Option (Unit × RS) :=
  (g_has U S N 4 μ).bind fun q1 =>
  if q1.1 = 0 then
    g_second_119 U S N a1 q1.2
  else
    (rA U q1.2 43 a1).bind fun v4 =>
    (rA U q1.2 47 a1).bind fun v6 =>
    (wA U q1.2 43 a1 (v4 ||| v6)).bind fun μ7 =>
    g_second_119 U S N a1 μ7
theorem e_g_second_96 {μ0 : Mem} {r U S : Nat} (hr : r < μ0.1) {N : Nat} (a1 : Int32) (s : RS) : f_X12_second_96 N (some r) a1 (EM μ0 r (pcs U S) s) = (g_second_96 U S N a1 s).map (em μ0 r U S) := by
  unfold f_X12_second_96 g_second_96
  refine st_ck hr _ ?_
  refine st_call (e_g_has hr _ _) fun q1 => ?_
  dsimp only
  refine st_if (fun _ => ?_) (fun _ => ?_)
  · exact e_g_second_119 hr _ _
  · refine st_fR hr _ (by decide) rfl ?_
    refine st_aI hr _ (lk_43 U S) _ fun v4 => ?_
    refine st_fR hr _ (by decide) rfl ?_
    refine st_aI hr _ (lk_47 U S) _ fun v6 => ?_
    refine st_bI hr _ (lk_43 U S) _ _ fun μ7 => ?_
    exact e_g_second_119 hr _ _
def g_second_79 (U S N : Nat) (a1 : Int32) (μ : RS) : Option (Unit × RS) :=
  (g_has U S N 128 μ).bind fun q1 =>
  if q1.1 = 0 then
    g_second_96 U S N a1 q1.2
  else
    (wA U q1.2 43 a1 0).bind fun μ4 =>
    g_second_96 U S N a1 μ4
theorem e_g_second_79 {μ0 : Mem} {r U S : Nat} (hr : r < μ0.1) {N : Nat} (a1 : Int32) (s : RS) : f_X12_second_79 N (some r) a1 (EM μ0 r (pcs U S) s) = (g_second_79 U S N a1 s).map (em μ0 r U S) := by
  unfold f_X12_second_79 g_second_79
  refine st_ck hr _ ?_
  refine st_call (e_g_has hr _ _) fun q1 => ?_
  dsimp only
  refine st_if (fun _ => ?_) (fun _ => ?_)
  · exact e_g_second_96 hr _ _
  · refine st_fR hr _ (by decide) rfl ?_
    refine st_bI hr _ (lk_43 U S) _ _ fun μ4 => ?_
    exact e_g_second_96 hr _ _
def g_second_63 (U S N : Nat) (a1 : Int32) (s0 : Int32) (μ : RS) : Option (Unit × RS) :=
  (g_has U S N 8 μ).bind fun q1 =>
  if s0 = q1.1 then
    g_second_79 U S N a1 q1.2
  else
    (g_skip U S N a1 q1.2).bind fun q3 =>
    g_second_79 U S N a1 q3.2
theorem e_g_second_63 {μ0 : Mem} {r U S : Nat} (hr : r < μ0.1) {N : Nat} (a1 : Int32) (s0 : Int32) (s : RS) : f_X12_second_63 N (some r) a1 s0 (EM μ0 r (pcs U S) s) = (g_second_63 U S N a1 s0 s).map (em μ0 r U S) := by
  unfold f_X12_second_63 g_second_63
  refine st_ck hr _ ?_
  refine st_call (e_g_has hr _ _) fun q1 => ?_
  dsimp only
  refine st_if (fun _ => ?_) (fun _ => ?_)
  · exact e_g_second_79 hr _ _
  · refine st_ck hr _ ?_
    refine st_call (e_g_skip hr _ _) fun q3 => ?_
    dsimp only
    exact e_g_second_79 hr _ _
def g_second_62 (U S N : Nat) (a1 : Int32) (μ : RS) : Option (Unit × RS) :=
  g_second_63 U S N a1 0 μ
theorem e_g_second_62 {μ0 : Mem} {r U S : Nat} (hr : r < μ0.1) {N : Nat} (a1 : Int32) (s : RS) : f_X12_second_62 N (some r) a1 (EM μ0 r (pcs U S) s) = (g_second_62 U S N a1 s).map (em μ0 r U S) := by
  unfold f_X12_second_62 g_second_62
  exact e_g_second_63 hr _ _ _
def g_second_58 (U S N : Nat) (a1 : Int32) (μ : RS) : Option (Unit × RS) :=
  g_second_63 U S N a1 1 μ
theorem e_g_second_58 {μ0 : Mem} {r U S : Nat} (hr : r < μ0.1) {N : Nat} (a1 : Int32) (s : RS) : f_X12_second_58 N (some r) a1 (EM μ0 r (pcs U S) s) = (g_second_58 U S N a1 s).map (em μ0 r U S) := by
  unfold f_X12_second_58 g_second_58
  exact e_g_second_63 hr _ _ _
def g_second_39 (U S N : Nat) (a1 : Int32) (μ : RS) : Option (Unit × RS) :=
  (g_has U S N 16 μ).bind fun q1 =>
  if q1.1 = 0 then
    g_second_62 U S N a1 q1.2
  else
    (rA U q1.2 46 a1).bind fun v4 =>
    if ¬ v4 = (1 : Int32) then
      g_second_62 U S N a1 q1.2
    else
      g_second_58 U S N a1 q1.2
theorem e_g_second_39 {μ0 : Mem} {r U S : Nat} (hr : r < μ0.1) {N : Nat} (a1 : Int32) (s : RS) : f_X12_second_39 N (some r) a1 (EM μ0 r (pcs U S) s) = (g_second_39 U S N a1 s).map (em μ0 r U S) := by
  unfold f_X12_second_39 g_second_39
  refine st_ck hr _ ?_
  refine st_call (e_g_has hr _ _) fun q1 => ?_
  dsimp only
  refine st_if (fun _ => ?_) (fun _ => ?_)
  · exact e_g_second_62 hr _ _
  · refine st_fR hr _ (by decide) rfl ?_
    refine st_aI hr _ (lk_46 U S) _ fun v4 => ?_
    refine st_if (fun _ => ?_) (fun _ => ?_)
    · exact e_g_second_62 hr _ _
    · exact e_g_second_58 hr _ _
def g_second_21 (U S N : Nat) (a1 : Int32) (μ : RS) : Option (Unit × RS) :=
  (g_has U S N 32 μ).bind fun q1 =>
  if q1.1 = 0 then
    g_second_39 U S N a1 q1.2
  else
    (rA U q1.2 43 a1).bind fun v4 =>
    if v4 = 0 then
      g_second_58 U S N a1 q1.2
    else
      g_second_39 U S N a1 q1.2
theorem e_g_second_21 {μ0 : Mem} {r U S : Nat} (hr : r < μ0.1) {N : Nat} (a1 : Int32) (s : RS) : f_X12_second_21 N (some r) a1 (EM μ0 r (pcs U S) s) = (g_second_21 U S N a1 s).map (em μ0 r U S) := by
  unfold f_X12_second_21 g_second_21
  refine st_ck hr _ ?_
  refine st_call (e_g_has hr _ _) fun q1 => ?_
  dsimp only
  refine st_if (fun _ => ?_) (fun _ => ?_)
  · exact e_g_second_39 hr _ _
  · refine st_fR hr _ (by decide) rfl ?_
    refine st_aI hr _ (lk_43 U S) _ fun v4 => ?_
    refine st_if (fun _ => ?_) (fun _ => ?_)
    · exact e_g_second_58 hr _ _
    · exact e_g_second_39 hr _ _
def g_second (U S N : Nat) (a1 : Int32) (μ : RS) : Option (Unit × RS) :=
  (g_has U S N 64 μ).bind fun q1 =>
  if q1.1 = 0 then
    g_second_21 U S N a1 q1.2
  else
    (rA U q1.2 43 a1).bind fun v4 =>
    if (2047 : Int32) < v4 then
      g_second_58 U S N a1 q1.2
    else
      g_second_21 U S N a1 q1.2
theorem e_g_second {μ0 : Mem} {r U S : Nat} (hr : r < μ0.1) {N : Nat} (a1 : Int32) (s : RS) : f_X12_second N (some r) a1 (EM μ0 r (pcs U S) s) = (g_second U S N a1 s).map (em μ0 r U S) := by
  unfold f_X12_second g_second
  refine st_ck hr _ ?_
  refine st_call (e_g_has hr _ _) fun q1 => ?_
  dsimp only
  refine st_if (fun _ => ?_) (fun _ => ?_)
  · exact e_g_second_21 hr _ _
  · refine st_fR hr _ (by decide) rfl ?_
    refine st_aI hr _ (lk_43 U S) _ fun v4 => ?_
    refine st_if (fun _ => ?_) (fun _ => ?_)
    · exact e_g_second_58 hr _ _
    · exact e_g_second_21 hr _ _
def g_word_ (U S N : Nat) (a1 : Int32) (μ : RS) : Option (Int32 × RS) :=
  (rA U μ 45 a1).bind fun v2 =>
  (g_load U S N a1 v2 μ).bind fun q3 =>
  (rA U q3.2 45 a1).bind fun v7 =>
  (wA U q3.2 45 a1 ((v7 + 1) &&& 4095)).bind fun μ8 =>
  some (q3.1, μ8)
theorem e_g_word_ {μ0 : Mem} {r U S : Nat} (hr : r < μ0.1) {N : Nat} (a1 : Int32) (s : RS) : f_X12_word_ N (some r) a1 (EM μ0 r (pcs U S) s) = (g_word_ U S N a1 s).map (em μ0 r U S) := by
  unfold f_X12_word_ g_word_
  refine st_fR hr _ (by decide) rfl ?_
  refine st_aI hr _ (lk_45 U S) _ fun v2 => ?_
  refine st_ck hr _ ?_
  refine st_call (e_g_load hr _ _ _) fun q3 => ?_
  dsimp only
  refine st_fR hr _ (by decide) rfl ?_
  refine st_fR hr _ (by decide) rfl ?_
  refine st_aI hr _ (lk_45 U S) _ fun v7 => ?_
  refine st_bI hr _ (lk_45 U S) _ _ fun μ8 => ?_
  exact rfl
def g_third_324 (U S N : Nat) (a1 : Int32) (a4 : Int32) (μ : RS) : Option (Unit × RS) :=
  (wA U μ 43 a1 (a4 >>> ((12 : Int32) &&& 31))).bind fun μ2 =>
  (wA U μ2 44 a1 (a4 &&& 4095)).bind fun μ4 =>
  some ((), μ4)
theorem e_g_third_324 {μ0 : Mem} {r U S : Nat} (hr : r < μ0.1) {N : Nat} (a1 : Int32) (a4 : Int32) (s : RS) : f_X12_third_324 N (some r) a1 a4 (EM μ0 r (pcs U S) s) = (g_third_324 U S N a1 a4 s).map (em μ0 r U S) := by
  unfold f_X12_third_324 g_third_324
  refine st_fR hr _ (by decide) rfl ?_
  refine st_bI hr _ (lk_43 U S) _ _ fun μ2 => ?_
  refine st_fR hr _ (by decide) rfl ?_
  refine st_bI hr _ (lk_44 U S) _ _ fun μ4 => ?_
  exact rfl
def g_third_318 (U S N : Nat) (k246 : Int32 → Int32 → Int32 → Int32 → RS → Option (Unit × RS)) (a1 : Int32) (a2 : Int32) (a4 : Int32) (a5 : Int32) (μ : RS) : Option (Unit × RS) :=
  k246 a1 a2 a4 (a5 + (-1)) μ
theorem e_g_third_318 {μ0 : Mem} {r U S : Nat} (hr : r < μ0.1) {N : Nat} {k246 : (Option Nat) → Int32 → Int32 → Int32 → Int32 → Mem → Option (Unit × Mem)} {k246' : Int32 → Int32 → Int32 → Int32 → RS → Option (Unit × RS)} (hk246 : ∀ (x1 : Int32) (x2 : Int32) (x3 : Int32) (x4 : Int32) (s : RS), k246 (some r) x1 x2 x3 x4 (EM μ0 r (pcs U S) s) = (k246' x1 x2 x3 x4 s).map (em μ0 r U S)) (a1 : Int32) (a2 : Int32) (a4 : Int32) (a5 : Int32) (s : RS) : f_X12_third_318 N k246 (some r) a1 a2 a4 a5 (EM μ0 r (pcs U S) s) = (g_third_318 U S N k246' a1 a2 a4 a5 s).map (em μ0 r U S) := by
  unfold f_X12_third_318 g_third_318
  exact hk246 _ _ _ _ _
def g_third_301 (U S N : Nat) (k246 : Int32 → Int32 → Int32 → Int32 → RS → Option (Unit × RS)) (a1 : Int32) (a2 : Int32) (a4 : Int32) (a5 : Int32) (s1 : Int32) (s2 : Int32) (μ : RS) : Option (Unit × RS) :=
  (wA U μ 46 s1 s2).bind fun μ1 =>
  (rA U μ1 46 a1).bind fun v3 =>
  g_third_318 U S N k246 a1 a2 ((a4 >>> ((1 : Int32) &&& 31)) ||| (v3 <<< ((23 : Int32) &&& 31))) a5 μ1
theorem e_g_third_301 {μ0 : Mem} {r U S : Nat} (hr : r < μ0.1) {N : Nat} {k246 : (Option Nat) → Int32 → Int32 → Int32 → Int32 → Mem → Option (Unit × Mem)} {k246' : Int32 → Int32 → Int32 → Int32 → RS → Option (Unit × RS)} (hk246 : ∀ (x1 : Int32) (x2 : Int32) (x3 : Int32) (x4 : Int32) (s : RS), k246 (some r) x1 x2 x3 x4 (EM μ0 r (pcs U S) s) = (k246' x1 x2 x3 x4 s).map (em μ0 r U S)) (a1 : Int32) (a2 : Int32) (a4 : Int32) (a5 : Int32) (s1 : Int32) (s2 : Int32) (s : RS) : f_X12_third_301 N k246 (some r) a1 a2 a4 a5 (fnd (pcs U S) μ0.1 46) s1 s2 (EM μ0 r (pcs U S) s) = (g_third_301 U S N k246' a1 a2 a4 a5 s1 s2 s).map (em μ0 r U S) := by
  unfold f_X12_third_301 g_third_301
  refine st_bI hr _ (lk_46 U S) _ _ fun μ1 => ?_
  refine st_fR hr _ (by decide) rfl ?_
  refine st_aI hr _ (lk_46 U S) _ fun v3 => ?_
  exact e_g_third_318 hr hk246 _ _ _ _ _
def h_third_246 (U S N : Nat) (k246 : Int32 → Int32 → Int32 → Int32 → RS → Option (Unit × RS)) (a1 : Int32) (a2 : Int32) (a4 : Int32) (a5 : Int32) (μ : RS) : Option (Unit × RS) :=
  if a5 ≤ 0 then
    g_third_324 U S N a1 a4 μ
  else
    if ¬ a2 = (10 : Int32) then
      if ¬ a2 = (12 : Int32) then
        g_third_301 U S N k246 a1 a2 a4 a5 a1 0 μ
      else
        g_third_301 U S N k246 a1 a2 a4 a5 a1 (a4 >>> ((23 : Int32) &&& 31)) μ
    else
      (wA U μ 46 a1 (a4 >>> ((23 : Int32) &&& 31))).bind fun μ3 =>
      g_third_318 U S N k246 a1 a2 ((a4 <<< ((1 : Int32) &&& 31)) &&& ((16777215))) a5 μ3
theorem e_h_third_246 {μ0 : Mem} {r U S : Nat} (hr : r < μ0.1) {N : Nat} {k246 : (Option Nat) → Int32 → Int32 → Int32 → Int32 → Mem → Option (Unit × Mem)} {k246' : Int32 → Int32 → Int32 → Int32 → RS → Option (Unit × RS)} (hk246 : ∀ (x1 : Int32) (x2 : Int32) (x3 : Int32) (x4 : Int32) (s : RS), k246 (some r) x1 x2 x3 x4 (EM μ0 r (pcs U S) s) = (k246' x1 x2 x3 x4 s).map (em μ0 r U S)) (a1 : Int32) (a2 : Int32) (a4 : Int32) (a5 : Int32) (s : RS) : H_X12_third_246 N k246 (some r) a1 a2 a4 a5 (EM μ0 r (pcs U S) s) = (h_third_246 U S N k246' a1 a2 a4 a5 s).map (em μ0 r U S) := by
  unfold H_X12_third_246 h_third_246
  refine st_if (fun _ => ?_) (fun _ => ?_)
  · exact e_g_third_324 hr _ _ _
  · refine st_if (fun _ => ?_) (fun _ => ?_)
    · refine st_fR hr _ (by decide) rfl ?_
      refine st_if (fun _ => ?_) (fun _ => ?_)
      · exact e_g_third_301 hr hk246 _ _ _ _ _ _ _
      · exact e_g_third_301 hr hk246 _ _ _ _ _ _ _
    · refine st_fR hr _ (by decide) rfl ?_
      refine st_bI hr _ (lk_46 U S) _ _ fun μ3 => ?_
      exact e_g_third_318 hr hk246 _ _ _ _ _
def l_third_246 (U S N : Nat)  : Nat → Int32 → Int32 → Int32 → Int32 → RS → Option (Unit × RS)
  | 0 => fun _ _ _ _ _ => none
  | n + 1 => h_third_246 U S N (l_third_246 U S N n)
theorem e_l_third_246 {μ0 : Mem} {r U S : Nat} (hr : r < μ0.1) {N : Nat} : ∀ (n : Nat) (x1 : Int32) (x2 : Int32) (x3 : Int32) (x4 : Int32) (s : RS), L_X12_third_246 N n (some r) x1 x2 x3 x4 (EM μ0 r (pcs U S) s) = (l_third_246 U S N n x1 x2 x3 x4 s).map (em μ0 r U S) := by
  intro n
  induction n with
  | zero => intros; exact rfl
  | succ n ih => intros; exact e_h_third_246 hr ih _ _ _ _ _
def g_third_119 (U S N : Nat) (a1 : Int32) (μ : RS) : Option (Unit × RS) :=
  if ¬ ((μ.1 78) &&& 14) = 0 then
    (g_word_ U S N a1 μ).bind fun q2 =>
    (rA U q2.2 43 a1).bind fun v5 =>
    (rA U q2.2 44 a1).bind fun v7 =>
    if ¬ ((μ.1 78) &&& 14) = (4 : Int32) then
      if ¬ ((μ.1 78) &&& 14) = (6 : Int32) then
        l_third_246 U S N N a1 ((μ.1 78) &&& 14) ((4096 * v5) + v7) ((q2.1 &&& 31) + 1) q2.2
      else
        (rA U q2.2 43 a1).bind fun v9 =>
        if v9 < q2.1 then
          if (q2.1 : Int32) = 0 then none else
          if (q2.1 : Int32) = 0 then none else
          (wA U q2.2 46 a1 0).bind fun μ11 =>
          g_third_324 U S N a1 (((((4096 * v5) + v7) - ((4096 * v5) + v7) / q2.1 * q2.1) * 4096) + (((4096 * v5) + v7) / q2.1)) μ11
        else
          (wA U q2.2 46 a1 1).bind fun μ13 =>
          some ((), μ13)
    else
      (rA U q2.2 44 a1).bind fun v15 =>
      (rA U q2.2 43 a1).bind fun v17 =>
      (wA U q2.2 46 a1 0).bind fun μ19 =>
      g_third_324 U S N a1 ((q2.1 * v15) + v17) μ19
  else
    some ((), μ)
theorem e_g_third_119 {μ0 : Mem} {r U S : Nat} (hr : r < μ0.1) {N : Nat} (a1 : Int32) (s : RS) : f_X12_third_119 N (some r) a1 (EM μ0 r (pcs U S) s) = (g_third_119 U S N a1 s).map (em μ0 r U S) := by
  unfold f_X12_third_119 g_third_119
  refine st_fI hr _ (by decide) rfl ?_
  refine st_if (fun _ => ?_) (fun _ => ?_)
  · refine st_ck hr _ ?_
    refine st_call (e_g_word_ hr _ _) fun q2 => ?_
    dsimp only
    refine st_fR hr _ (by decide) rfl ?_
    refine st_aI hr _ (lk_43 U S) _ fun v5 => ?_
    refine st_fR hr _ (by decide) rfl ?_
    refine st_aI hr _ (lk_44 U S) _ fun v7 => ?_
    refine st_if (fun _ => ?_) (fun _ => ?_)
    · refine st_if (fun _ => ?_) (fun _ => ?_)
      · exact e_l_third_246 hr N _ _ _ _ _
      · refine st_fR hr _ (by decide) rfl ?_
        refine st_aI hr _ (lk_43 U S) _ fun v9 => ?_
        refine st_if (fun _ => ?_) (fun _ => ?_)
        · refine st_if (fun _ => rfl) (fun _ => ?_)
          refine st_if (fun _ => rfl) (fun _ => ?_)
          refine st_fR hr _ (by decide) rfl ?_
          refine st_bI hr _ (lk_46 U S) _ _ fun μ11 => ?_
          exact e_g_third_324 hr _ _ _
        · refine st_fR hr _ (by decide) rfl ?_
          refine st_bI hr _ (lk_46 U S) _ _ fun μ13 => ?_
          exact rfl
    · refine st_fR hr _ (by decide) rfl ?_
      refine st_aI hr _ (lk_44 U S) _ fun v15 => ?_
      refine st_fR hr _ (by decide) rfl ?_
      refine st_aI hr _ (lk_43 U S) _ fun v17 => ?_
      refine st_fR hr _ (by decide) rfl ?_
      refine st_bI hr _ (lk_46 U S) _ _ fun μ19 => ?_
      exact e_g_third_324 hr _ _ _
  · exact rfl
def g_third_64 (U S N : Nat) (a1 : Int32) (μ : RS) : Option (Unit × RS) :=
  (g_has U S N 64 μ).bind fun q1 =>
  if q1.1 = 0 then
    (g_has U S N 16 q1.2).bind fun q3 =>
    if q3.1 = 0 then
      g_third_119 U S N a1 q3.2
    else
      (rA U q3.2 43 a1).bind fun v7 =>
      (wA U q3.2 44 a1 v7).bind fun μ8 =>
      (wA U μ8 43 a1 0).bind fun μ10 =>
      g_third_119 U S N a1 μ10
  else
    (rA U q1.2 43 a1).bind fun v12 =>
    (rA U q1.2 44 a1).bind fun v14 =>
    (wA U q1.2 43 a1 (v12 ||| v14)).bind fun μ15 =>
    g_third_119 U S N a1 μ15
theorem e_g_third_64 {μ0 : Mem} {r U S : Nat} (hr : r < μ0.1) {N : Nat} (a1 : Int32) (s : RS) : f_X12_third_64 N (some r) a1 (EM μ0 r (pcs U S) s) = (g_third_64 U S N a1 s).map (em μ0 r U S) := by
  unfold f_X12_third_64 g_third_64
  refine st_ck hr _ ?_
  refine st_call (e_g_has hr _ _) fun q1 => ?_
  dsimp only
  refine st_if (fun _ => ?_) (fun _ => ?_)
  · refine st_ck hr _ ?_
    refine st_call (e_g_has hr _ _) fun q3 => ?_
    dsimp only
    refine st_if (fun _ => ?_) (fun _ => ?_)
    · exact e_g_third_119 hr _ _
    · refine st_fR hr _ (by decide) rfl ?_
      refine st_fR hr _ (by decide) rfl ?_
      refine st_aI hr _ (lk_43 U S) _ fun v7 => ?_
      refine st_bI hr _ (lk_44 U S) _ _ fun μ8 => ?_
      refine st_fR hr _ (by decide) rfl ?_
      refine st_bI hr _ (lk_43 U S) _ _ fun μ10 => ?_
      exact e_g_third_119 hr _ _
  · refine st_fR hr _ (by decide) rfl ?_
    refine st_aI hr _ (lk_43 U S) _ fun v12 => ?_
    refine st_fR hr _ (by decide) rfl ?_
    refine st_aI hr _ (lk_44 U S) _ fun v14 => ?_
    refine st_bI hr _ (lk_43 U S) _ _ fun μ15 => ?_
    exact e_g_third_119 hr _ _
def g_third_17 (U S N : Nat) (a1 : Int32) (μ : RS) : Option (Unit × RS) :=
  (g_has U S N 64 μ).bind fun q1 =>
  if q1.1 = 0 then
    g_third_64 U S N a1 q1.2
  else
    (g_has U S N 16 q1.2).bind fun q3 =>
    if q3.1 = 0 then
      g_third_64 U S N a1 q3.2
    else
      (rA U q3.2 43 a1).bind fun v6 =>
      (rA U q3.2 44 a1).bind fun v9 =>
      (wA U q3.2 43 a1 v9).bind fun μ10 =>
      (wA U μ10 44 a1 v6).bind fun μ12 =>
      g_third_119 U S N a1 μ12
theorem e_g_third_17 {μ0 : Mem} {r U S : Nat} (hr : r < μ0.1) {N : Nat} (a1 : Int32) (s : RS) : f_X12_third_17 N (some r) a1 (EM μ0 r (pcs U S) s) = (g_third_17 U S N a1 s).map (em μ0 r U S) := by
  unfold f_X12_third_17 g_third_17
  refine st_ck hr _ ?_
  refine st_call (e_g_has hr _ _) fun q1 => ?_
  dsimp only
  refine st_if (fun _ => ?_) (fun _ => ?_)
  · exact e_g_third_64 hr _ _
  · refine st_ck hr _ ?_
    refine st_call (e_g_has hr _ _) fun q3 => ?_
    dsimp only
    refine st_if (fun _ => ?_) (fun _ => ?_)
    · exact e_g_third_64 hr _ _
    · refine st_fR hr _ (by decide) rfl ?_
      refine st_aI hr _ (lk_43 U S) _ fun v6 => ?_
      refine st_fR hr _ (by decide) rfl ?_
      refine st_fR hr _ (by decide) rfl ?_
      refine st_aI hr _ (lk_44 U S) _ fun v9 => ?_
      refine st_bI hr _ (lk_43 U S) _ _ fun μ10 => ?_
      refine st_fR hr _ (by decide) rfl ?_
      refine st_bI hr _ (lk_44 U S) _ _ fun μ12 => ?_
      exact e_g_third_119 hr _ _
def g_third (U S N : Nat) (a1 : Int32) (μ : RS) : Option (Unit × RS) :=
  (g_has U S N 128 μ).bind fun q1 =>
  if q1.1 = 0 then
    g_third_17 U S N a1 q1.2
  else
    (wA U q1.2 43 a1 0).bind fun μ4 =>
    g_third_17 U S N a1 μ4
theorem e_g_third {μ0 : Mem} {r U S : Nat} (hr : r < μ0.1) {N : Nat} (a1 : Int32) (s : RS) : f_X12_third N (some r) a1 (EM μ0 r (pcs U S) s) = (g_third U S N a1 s).map (em μ0 r U S) := by
  unfold f_X12_third g_third
  refine st_ck hr _ ?_
  refine st_call (e_g_has hr _ _) fun q1 => ?_
  dsimp only
  refine st_if (fun _ => ?_) (fun _ => ?_)
  · exact e_g_third_17 hr _ _
  · refine st_fR hr _ (by decide) rfl ?_
    refine st_bI hr _ (lk_43 U S) _ _ fun μ4 => ?_
    exact e_g_third_17 hr _ _
def g_step_139 (U S N : Nat) (a1 : Int32) (a4 : Int32) (μ : RS) : Option (Unit × RS) :=
  if ¬ a4 = 0 then
    (rA U μ 48 a1).bind fun v2 =>
    (wA U μ 48 a1 (v2 + 1)).bind fun μ3 =>
    (some (pI μ3 75 ((μ3.1 75) + 1))).bind fun μ5 =>
    some ((), μ5)
  else
    some ((), μ)
theorem e_g_step_139 {μ0 : Mem} {r U S : Nat} (hr : r < μ0.1) {N : Nat} (a1 : Int32) (a4 : Int32) (s : RS) : f_X12_step_139 N (some r) a1 a4 (EM μ0 r (pcs U S) s) = (g_step_139 U S N a1 a4 s).map (em μ0 r U S) := by
  unfold f_X12_step_139 g_step_139
  refine st_if (fun _ => ?_) (fun _ => ?_)
  · refine st_fR hr _ (by decide) rfl ?_
    refine st_aI hr _ (lk_48 U S) _ fun v2 => ?_
    refine st_bI hr _ (lk_48 U S) _ _ fun μ3 => ?_
    refine st_fI hr _ (by decide) rfl ?_
    refine st_pI hr _ (by decide) rfl _ ?_
    exact rfl
  · exact rfl
def g_step (U S N : Nat) (a1 : Int32) (μ : RS) : Option (Unit × RS) :=
  (rA U μ 45 a1).bind fun v2 =>
  (g_load U S N a1 v2 μ).bind fun q3 =>
  (some (pI q3.2 78 q3.1)).bind fun μ5 =>
  (g_isWrong U S N μ5).bind fun q6 =>
  if q6.1 = 0 then
    (g_mustWait U S N a1 q6.2).bind fun q8 =>
    if q8.1 = 0 then
      (wA U q8.2 45 a1 ((v2 + 1) &&& 4095)).bind fun μ11 =>
      if (6 : Int32) ≤ ((μ11.1 78) >>> ((9 : Int32) &&& 31)) then
        if ¬ ((μ11.1 78) >>> ((9 : Int32) &&& 31)) = (6 : Int32) then
          if ¬ ((μ11.1 78) &&& 256) = 0 then
            if ¬ ((μ11.1 78) &&& 1) = 0 then
              (g_third U S N a1 μ11).bind fun q15 =>
              g_step_139 U S N a1 1 q15.2
            else
              (g_second U S N a1 μ11).bind fun q17 =>
              g_step_139 U S N a1 1 q17.2
          else
            (g_first U S N a1 μ11).bind fun q19 =>
            g_step_139 U S N a1 1 q19.2
        else
          (g_device U S N a1 μ11).bind fun q21 =>
          g_step_139 U S N a1 q21.1 q21.2
      else
        (g_memory_ U S N a1 ((μ11.1 78) >>> ((9 : Int32) &&& 31)) v2 μ11).bind fun q23 =>
        g_step_139 U S N a1 1 q23.2
    else
      some ((), q8.2)
  else
    (wA U q6.2 42 a1 7).bind fun μ26 =>
    some ((), μ26)
theorem e_g_step {μ0 : Mem} {r U S : Nat} (hr : r < μ0.1) {N : Nat} (a1 : Int32) (s : RS) : f_X12_step N (some r) a1 (EM μ0 r (pcs U S) s) = (g_step U S N a1 s).map (em μ0 r U S) := by
  unfold f_X12_step g_step
  refine st_fR hr _ (by decide) rfl ?_
  refine st_aI hr _ (lk_45 U S) _ fun v2 => ?_
  refine st_ck hr _ ?_
  refine st_call (e_g_load hr _ _ _) fun q3 => ?_
  dsimp only
  refine st_pI hr _ (by decide) rfl _ ?_
  refine st_ck hr _ ?_
  refine st_call (e_g_isWrong hr _) fun q6 => ?_
  dsimp only
  refine st_if (fun _ => ?_) (fun _ => ?_)
  · refine st_ck hr _ ?_
    refine st_call (e_g_mustWait hr _ _) fun q8 => ?_
    dsimp only
    refine st_if (fun _ => ?_) (fun _ => ?_)
    · refine st_fR hr _ (by decide) rfl ?_
      refine st_bI hr _ (lk_45 U S) _ _ fun μ11 => ?_
      refine st_fI hr _ (by decide) rfl ?_
      refine st_if (fun _ => ?_) (fun _ => ?_)
      · refine st_if (fun _ => ?_) (fun _ => ?_)
        · refine st_fI hr _ (by decide) rfl ?_
          refine st_if (fun _ => ?_) (fun _ => ?_)
          · refine st_fI hr _ (by decide) rfl ?_
            refine st_if (fun _ => ?_) (fun _ => ?_)
            · refine st_ck hr _ ?_
              refine st_call (e_g_third hr _ _) fun q15 => ?_
              dsimp only
              exact e_g_step_139 hr _ _ _
            · refine st_ck hr _ ?_
              refine st_call (e_g_second hr _ _) fun q17 => ?_
              dsimp only
              exact e_g_step_139 hr _ _ _
          · refine st_ck hr _ ?_
            refine st_call (e_g_first hr _ _) fun q19 => ?_
            dsimp only
            exact e_g_step_139 hr _ _ _
        · refine st_ck hr _ ?_
          refine st_call (e_g_device hr _ _) fun q21 => ?_
          dsimp only
          exact e_g_step_139 hr _ _ _
      · refine st_ck hr _ ?_
        refine st_call (e_g_memory_ hr _ _ _ _) fun q23 => ?_
        dsimp only
        exact e_g_step_139 hr _ _ _
    · exact rfl
  · refine st_fR hr _ (by decide) rfl ?_
    refine st_bI hr _ (lk_42 U S) _ _ fun μ26 => ?_
    exact rfl
def g_processes_105 (U S N : Nat) (μ : RS) : Option (Unit × RS) :=
  (g_step U S N (μ.1 64) μ).bind fun q2 =>
  (some (pI q2.2 65 ((q2.2.1 65) - 1))).bind fun μ5 =>
  (rA U μ5 42 (μ.1 64)).bind fun v7 =>
  if v7 = (1 : Int32) then
    if (μ5.1 65) ≤ 0 then
      (rA U μ5 41 (μ.1 64)).bind fun v11 =>
      (wZ S μ5 40 v11 1).bind fun μ12 =>
      if ¬ (μ12.1 63) = 0 then
        (some (pI μ12 64 ((-1)))).bind fun μ14 =>
        (g_becomesReady U S N (μ.1 64) μ14).bind fun q15 =>
        some ((), q15.2)
      else
        (some (pI μ12 65 (μ12.1 33))).bind fun μ18 =>
        some ((), μ18)
    else
      some ((), μ5)
  else
    (rA U μ5 41 (μ.1 64)).bind fun v21 =>
    (wZ S μ5 40 v21 1).bind fun μ22 =>
    (some (pI μ22 64 ((-1)))).bind fun μ23 =>
    some ((), μ23)
theorem e_g_processes_105 {μ0 : Mem} {r U S : Nat} (hr : r < μ0.1) {N : Nat} (s : RS) : f_X12_processes_105 N (some r) (EM μ0 r (pcs U S) s) = (g_processes_105 U S N  s).map (em μ0 r U S) := by
  unfold f_X12_processes_105 g_processes_105
  refine st_fI hr _ (by decide) rfl ?_
  refine st_ck hr _ ?_
  refine st_call (e_g_step hr _ _) fun q2 => ?_
  dsimp only
  refine st_fI hr _ (by decide) rfl ?_
  refine st_pI hr _ (by decide) rfl _ ?_
  refine st_fR hr _ (by decide) rfl ?_
  refine st_aI hr _ (lk_42 U S) _ fun v7 => ?_
  refine st_if (fun _ => ?_) (fun _ => ?_)
  · refine st_fI hr _ (by decide) rfl ?_
    refine st_if (fun _ => ?_) (fun _ => ?_)
    · refine st_fR hr _ (by decide) rfl ?_
      refine st_fR hr _ (by decide) rfl ?_
      refine st_aI hr _ (lk_41 U S) _ fun v11 => ?_
      refine st_bZ hr _ (lk_40 U S) _ _ fun μ12 => ?_
      refine st_fI hr _ (by decide) rfl ?_
      refine st_if (fun _ => ?_) (fun _ => ?_)
      · refine st_pI hr _ (by decide) rfl _ ?_
        refine st_ck hr _ ?_
        refine st_call (e_g_becomesReady hr _ _) fun q15 => ?_
        dsimp only
        exact rfl
      · refine st_fI hr _ (by decide) rfl ?_
        refine st_pI hr _ (by decide) rfl _ ?_
        exact rfl
    · exact rfl
  · refine st_fR hr _ (by decide) rfl ?_
    refine st_fR hr _ (by decide) rfl ?_
    refine st_aI hr _ (lk_41 U S) _ fun v21 => ?_
    refine st_bZ hr _ (lk_40 U S) _ _ fun μ22 => ?_
    refine st_pI hr _ (by decide) rfl _ ?_
    exact rfl
def g_processes_70 (U S N : Nat) (μ : RS) : Option (Unit × RS) :=
  if ¬ (μ.1 64) = (((-1)) : Int32) then
    (g_leavesQueue U S N (μ.1 64) μ).bind fun q3 =>
    (some (pI q3.2 65 (q3.2.1 33))).bind fun μ6 =>
    g_processes_105 U S N μ6
  else
    (some (pI μ 74 ((μ.1 74) + 1))).bind fun μ8 =>
    some ((), μ8)
theorem e_g_processes_70 {μ0 : Mem} {r U S : Nat} (hr : r < μ0.1) {N : Nat} (s : RS) : f_X12_processes_70 N (some r) (EM μ0 r (pcs U S) s) = (g_processes_70 U S N  s).map (em μ0 r U S) := by
  unfold f_X12_processes_70 g_processes_70
  refine st_fI hr _ (by decide) rfl ?_
  refine st_if (fun _ => ?_) (fun _ => ?_)
  · refine st_fI hr _ (by decide) rfl ?_
    refine st_ck hr _ ?_
    refine st_call (e_g_leavesQueue hr _ _) fun q3 => ?_
    dsimp only
    refine st_fI hr _ (by decide) rfl ?_
    refine st_pI hr _ (by decide) rfl _ ?_
    exact e_g_processes_105 hr _
  · refine st_fI hr _ (by decide) rfl ?_
    refine st_pI hr _ (by decide) rfl _ ?_
    exact rfl
def g_processes_64 (U S N : Nat) (k10 : Int32 → RS → Option (Unit × RS)) (a1 : Int32) (μ : RS) : Option (Unit × RS) :=
  k10 (a1 + 1) μ
theorem e_g_processes_64 {μ0 : Mem} {r U S : Nat} (hr : r < μ0.1) {N : Nat} {k10 : (Option Nat) → Int32 → Mem → Option (Unit × Mem)} {k10' : Int32 → RS → Option (Unit × RS)} (hk10 : ∀ (x1 : Int32) (s : RS), k10 (some r) x1 (EM μ0 r (pcs U S) s) = (k10' x1 s).map (em μ0 r U S)) (a1 : Int32) (s : RS) : f_X12_processes_64 N k10 (some r) a1 (EM μ0 r (pcs U S) s) = (g_processes_64 U S N k10' a1 s).map (em μ0 r U S) := by
  unfold f_X12_processes_64 g_processes_64
  exact hk10 _ _
def g_processes_59 (U S N : Nat) (k10 : Int32 → RS → Option (Unit × RS)) (a1 : Int32) (a2 : Int32) (μ : RS) : Option (Unit × RS) :=
  (some (pI μ 64 a2)).bind fun μ1 =>
  g_processes_64 U S N k10 a1 μ1
theorem e_g_processes_59 {μ0 : Mem} {r U S : Nat} (hr : r < μ0.1) {N : Nat} {k10 : (Option Nat) → Int32 → Mem → Option (Unit × Mem)} {k10' : Int32 → RS → Option (Unit × RS)} (hk10 : ∀ (x1 : Int32) (s : RS), k10 (some r) x1 (EM μ0 r (pcs U S) s) = (k10' x1 s).map (em μ0 r U S)) (a1 : Int32) (a2 : Int32) (s : RS) : f_X12_processes_59 N k10 (some r) a1 a2 (EM μ0 r (pcs U S) s) = (g_processes_59 U S N k10' a1 a2 s).map (em μ0 r U S) := by
  unfold f_X12_processes_59 g_processes_59
  refine st_pI hr _ (by decide) rfl _ ?_
  exact e_g_processes_64 hr hk10 _ _
def h_processes_10 (U S N : Nat) (k10 : Int32 → RS → Option (Unit × RS)) (a1 : Int32) (μ : RS) : Option (Unit × RS) :=
  if (μ.1 63) ≤ a1 then
    g_processes_70 U S N μ
  else
    if ¬ (μ.1 64) = (((-1)) : Int32) then
      g_processes_70 U S N μ
    else
      (rA 8 μ 62 a1).bind fun v4 =>
      (rA U μ 41 v4).bind fun v6 =>
      if v6 = (((-1)) : Int32) then
        g_processes_64 U S N k10 a1 μ
      else
        if ¬ (μ.1 67) = (1 : Int32) then
          g_processes_59 U S N k10 a1 v4 μ
        else
          if (μ.1 68) = v4 then
            g_processes_64 U S N k10 a1 μ
          else
            g_processes_59 U S N k10 a1 v4 μ
theorem e_h_processes_10 {μ0 : Mem} {r U S : Nat} (hr : r < μ0.1) {N : Nat} {k10 : (Option Nat) → Int32 → Mem → Option (Unit × Mem)} {k10' : Int32 → RS → Option (Unit × RS)} (hk10 : ∀ (x1 : Int32) (s : RS), k10 (some r) x1 (EM μ0 r (pcs U S) s) = (k10' x1 s).map (em μ0 r U S)) (a1 : Int32) (s : RS) : H_X12_processes_10 N k10 (some r) a1 (EM μ0 r (pcs U S) s) = (h_processes_10 U S N k10' a1 s).map (em μ0 r U S) := by
  unfold H_X12_processes_10 h_processes_10
  refine st_fI hr _ (by decide) rfl ?_
  refine st_if (fun _ => ?_) (fun _ => ?_)
  · exact e_g_processes_70 hr _
  · refine st_fI hr _ (by decide) rfl ?_
    refine st_if (fun _ => ?_) (fun _ => ?_)
    · exact e_g_processes_70 hr _
    · refine st_fR hr _ (by decide) rfl ?_
      refine st_aI hr _ (lk_62 U S) _ fun v4 => ?_
      refine st_fR hr _ (by decide) rfl ?_
      refine st_aI hr _ (lk_41 U S) _ fun v6 => ?_
      refine st_if (fun _ => ?_) (fun _ => ?_)
      · exact e_g_processes_64 hr hk10 _ _
      · refine st_fI hr _ (by decide) rfl ?_
        refine st_if (fun _ => ?_) (fun _ => ?_)
        · exact e_g_processes_59 hr hk10 _ _ _
        · refine st_fI hr _ (by decide) rfl ?_
          refine st_if (fun _ => ?_) (fun _ => ?_)
          · exact e_g_processes_64 hr hk10 _ _
          · exact e_g_processes_59 hr hk10 _ _ _
def l_processes_10 (U S N : Nat)  : Nat → Int32 → RS → Option (Unit × RS)
  | 0 => fun _ _ => none
  | n + 1 => h_processes_10 U S N (l_processes_10 U S N n)
theorem e_l_processes_10 {μ0 : Mem} {r U S : Nat} (hr : r < μ0.1) {N : Nat} : ∀ (n : Nat) (x1 : Int32) (s : RS), L_X12_processes_10 N n (some r) x1 (EM μ0 r (pcs U S) s) = (l_processes_10 U S N n x1 s).map (em μ0 r U S) := by
  intro n
  induction n with
  | zero => intros; exact rfl
  | succ n ih => intros; exact e_h_processes_10 hr ih _ _
def g_processes (U S N : Nat) (μ : RS) : Option (Unit × RS) :=
  if ¬ (μ.1 64) = (((-1)) : Int32) then
    g_processes_105 U S N μ
  else
    l_processes_10 U S N N 0 μ
theorem e_g_processes {μ0 : Mem} {r U S : Nat} (hr : r < μ0.1) {N : Nat} (s : RS) : f_X12_processes N (some r) (EM μ0 r (pcs U S) s) = (g_processes U S N  s).map (em μ0 r U S) := by
  unfold f_X12_processes g_processes
  refine st_fI hr _ (by decide) rfl ?_
  refine st_if (fun _ => ?_) (fun _ => ?_)
  · exact e_g_processes_105 hr _
  · exact e_l_processes_10 hr N _ _
def g_tick_53 (U S N : Nat) (μ : RS) : Option (Unit × RS) :=
  (g_processes U S N μ).bind fun q1 =>
  some ((), q1.2)
theorem e_g_tick_53 {μ0 : Mem} {r U S : Nat} (hr : r < μ0.1) {N : Nat} (s : RS) : f_X12_tick_53 N (some r) (EM μ0 r (pcs U S) s) = (g_tick_53 U S N  s).map (em μ0 r U S) := by
  unfold f_X12_tick_53 g_tick_53
  refine st_ck hr _ ?_
  refine st_call (e_g_processes hr _) fun q1 => ?_
  dsimp only
  exact rfl
def g_tick_42 (U S N : Nat) (μ : RS) : Option (Unit × RS) :=
  if ¬ (μ.1 67) = 0 then
    g_tick_53 U S N μ
  else
    (g_looksFor U S N μ).bind fun q2 =>
    g_tick_53 U S N q2.2
theorem e_g_tick_42 {μ0 : Mem} {r U S : Nat} (hr : r < μ0.1) {N : Nat} (s : RS) : f_X12_tick_42 N (some r) (EM μ0 r (pcs U S) s) = (g_tick_42 U S N  s).map (em μ0 r U S) := by
  unfold f_X12_tick_42 g_tick_42
  refine st_fI hr _ (by decide) rfl ?_
  refine st_if (fun _ => ?_) (fun _ => ?_)
  · exact e_g_tick_53 hr _
  · refine st_ck hr _ ?_
    refine st_call (e_g_looksFor hr _) fun q2 => ?_
    dsimp only
    exact e_g_tick_53 hr _
def h_tick_12 (U S N : Nat) (k12 : Int32 → RS → Option (Unit × RS)) (a1 : Int32) (μ : RS) : Option (Unit × RS) :=
  if (μ.1 31) ≤ a1 then
    if (μ.1 67) ≤ 0 then
      g_tick_42 U S N μ
    else
      (g_moves U S N μ).bind fun q3 =>
      g_tick_42 U S N q3.2
  else
    (g_clocks U S N a1 μ).bind fun q5 =>
    k12 (a1 + 1) q5.2
theorem e_h_tick_12 {μ0 : Mem} {r U S : Nat} (hr : r < μ0.1) {N : Nat} {k12 : (Option Nat) → Int32 → Mem → Option (Unit × Mem)} {k12' : Int32 → RS → Option (Unit × RS)} (hk12 : ∀ (x1 : Int32) (s : RS), k12 (some r) x1 (EM μ0 r (pcs U S) s) = (k12' x1 s).map (em μ0 r U S)) (a1 : Int32) (s : RS) : H_X12_tick_12 N k12 (some r) a1 (EM μ0 r (pcs U S) s) = (h_tick_12 U S N k12' a1 s).map (em μ0 r U S) := by
  unfold H_X12_tick_12 h_tick_12
  refine st_fI hr _ (by decide) rfl ?_
  refine st_if (fun _ => ?_) (fun _ => ?_)
  · refine st_fI hr _ (by decide) rfl ?_
    refine st_if (fun _ => ?_) (fun _ => ?_)
    · exact e_g_tick_42 hr _
    · refine st_ck hr _ ?_
      refine st_call (e_g_moves hr _) fun q3 => ?_
      dsimp only
      exact e_g_tick_42 hr _
  · refine st_ck hr _ ?_
    refine st_call (e_g_clocks hr _ _) fun q5 => ?_
    dsimp only
    exact hk12 _ _
def l_tick_12 (U S N : Nat)  : Nat → Int32 → RS → Option (Unit × RS)
  | 0 => fun _ _ => none
  | n + 1 => h_tick_12 U S N (l_tick_12 U S N n)
theorem e_l_tick_12 {μ0 : Mem} {r U S : Nat} (hr : r < μ0.1) {N : Nat} : ∀ (n : Nat) (x1 : Int32) (s : RS), L_X12_tick_12 N n (some r) x1 (EM μ0 r (pcs U S) s) = (l_tick_12 U S N n x1 s).map (em μ0 r U S) := by
  intro n
  induction n with
  | zero => intros; exact rfl
  | succ n ih => intros; exact e_h_tick_12 hr ih _ _
def g_tick (U S N : Nat) (μ : RS) : Option (Unit × RS) :=
  (some (pI μ 66 ((μ.1 66) + 1))).bind fun μ2 =>
  l_tick_12 U S N N 0 μ2
theorem e_g_tick {μ0 : Mem} {r U S : Nat} (hr : r < μ0.1) {N : Nat} (s : RS) : f_X12_tick N (some r) (EM μ0 r (pcs U S) s) = (g_tick U S N  s).map (em μ0 r U S) := by
  unfold f_X12_tick g_tick
  refine st_fI hr _ (by decide) rfl ?_
  refine st_pI hr _ (by decide) rfl _ ?_
  exact e_l_tick_12 hr N _ _
def h_run_20 (U S N : Nat) (k20 : Int32 → Int32 → Int32 → RS → Option (Int32 × RS)) (a1 : Int32) (a2 : Int32) (a3 : Int32) (μ : RS) : Option (Int32 × RS) :=
  if a1 ≤ a3 then
    some ((μ.1 75) - a2, μ)
  else
    (g_tick U S N μ).bind fun q2 =>
    k20 a1 a2 (a3 + 1) q2.2
theorem e_h_run_20 {μ0 : Mem} {r U S : Nat} (hr : r < μ0.1) {N : Nat} {k20 : (Option Nat) → Int32 → Int32 → Int32 → Mem → Option (Int32 × Mem)} {k20' : Int32 → Int32 → Int32 → RS → Option (Int32 × RS)} (hk20 : ∀ (x1 : Int32) (x2 : Int32) (x3 : Int32) (s : RS), k20 (some r) x1 x2 x3 (EM μ0 r (pcs U S) s) = (k20' x1 x2 x3 s).map (em μ0 r U S)) (a1 : Int32) (a2 : Int32) (a3 : Int32) (s : RS) : H_X12_run_20 N k20 (some r) a1 a2 a3 (EM μ0 r (pcs U S) s) = (h_run_20 U S N k20' a1 a2 a3 s).map (em μ0 r U S) := by
  unfold H_X12_run_20 h_run_20
  refine st_if (fun _ => ?_) (fun _ => ?_)
  · refine st_fI hr _ (by decide) rfl ?_
    exact rfl
  · refine st_ck hr _ ?_
    refine st_call (e_g_tick hr _) fun q2 => ?_
    dsimp only
    exact hk20 _ _ _ _
def l_run_20 (U S N : Nat)  : Nat → Int32 → Int32 → Int32 → RS → Option (Int32 × RS)
  | 0 => fun _ _ _ _ => none
  | n + 1 => h_run_20 U S N (l_run_20 U S N n)
theorem e_l_run_20 {μ0 : Mem} {r U S : Nat} (hr : r < μ0.1) {N : Nat} : ∀ (n : Nat) (x1 : Int32) (x2 : Int32) (x3 : Int32) (s : RS), L_X12_run_20 N n (some r) x1 x2 x3 (EM μ0 r (pcs U S) s) = (l_run_20 U S N n x1 x2 x3 s).map (em μ0 r U S) := by
  intro n
  induction n with
  | zero => intros; exact rfl
  | succ n ih => intros; exact e_h_run_20 hr ih _ _ _ _
def g_run (U S N : Nat) (a1 : Int32) (μ : RS) : Option (Int32 × RS) :=
  (g_in U S N a1 1 20000 μ).bind fun q1 =>
  if ¬ q1.1 = 0 then
    l_run_20 U S N N a1 (q1.2.1 75) 0 q1.2
  else
    some ((-1), q1.2)
theorem e_g_run {μ0 : Mem} {r U S : Nat} (hr : r < μ0.1) {N : Nat} (a1 : Int32) (s : RS) : f_X12_run N (some r) a1 (EM μ0 r (pcs U S) s) = (g_run U S N a1 s).map (em μ0 r U S) := by
  unfold f_X12_run g_run
  refine st_call (e_g_in hr _ _ _ _) fun q1 => ?_
  dsimp only
  refine st_if (fun _ => ?_) (fun _ => ?_)
  · refine st_fI hr _ (by decide) rfl ?_
    exact e_l_run_20 hr N _ _ _ _
  · exact rfl
def h_user_156 (U S N : Nat) (k156 : Int32 → Int32 → RS → Option (Int32 × RS)) (a1 : Int32) (a3 : Int32) (μ : RS) : Option (Int32 × RS) :=
  if (μ.1 63) ≤ a3 then
    some ((-1), μ)
  else
    (rA 8 μ 62 a3).bind fun v3 =>
    if ¬ v3 = a1 then
      k156 a1 (a3 + 1) μ
    else
      some (a3, μ)
theorem e_h_user_156 {μ0 : Mem} {r U S : Nat} (hr : r < μ0.1) {N : Nat} {k156 : (Option Nat) → Int32 → Int32 → Mem → Option (Int32 × Mem)} {k156' : Int32 → Int32 → RS → Option (Int32 × RS)} (hk156 : ∀ (x1 : Int32) (x2 : Int32) (s : RS), k156 (some r) x1 x2 (EM μ0 r (pcs U S) s) = (k156' x1 x2 s).map (em μ0 r U S)) (a1 : Int32) (a3 : Int32) (s : RS) : H_X12_user_156 N k156 (some r) a1 a3 (EM μ0 r (pcs U S) s) = (h_user_156 U S N k156' a1 a3 s).map (em μ0 r U S) := by
  unfold H_X12_user_156 h_user_156
  refine st_fI hr _ (by decide) rfl ?_
  refine st_if (fun _ => ?_) (fun _ => ?_)
  · exact rfl
  · refine st_fR hr _ (by decide) rfl ?_
    refine st_aI hr _ (lk_62 U S) _ fun v3 => ?_
    refine st_if (fun _ => ?_) (fun _ => ?_)
    · exact hk156 _ _ _
    · exact rfl
def l_user_156 (U S N : Nat)  : Nat → Int32 → Int32 → RS → Option (Int32 × RS)
  | 0 => fun _ _ _ => none
  | n + 1 => h_user_156 U S N (l_user_156 U S N n)
theorem e_l_user_156 {μ0 : Mem} {r U S : Nat} (hr : r < μ0.1) {N : Nat} : ∀ (n : Nat) (x1 : Int32) (x2 : Int32) (s : RS), L_X12_user_156 N n (some r) x1 x2 (EM μ0 r (pcs U S) s) = (l_user_156 U S N n x1 x2 s).map (em μ0 r U S) := by
  intro n
  induction n with
  | zero => intros; exact rfl
  | succ n ih => intros; exact e_h_user_156 hr ih _ _ _
def g_user_218 (U S N : Nat) (s0 : Int32) (μ : RS) : Option (Int32 × RS) :=
  some (s0, μ)
theorem e_g_user_218 {μ0 : Mem} {r U S : Nat} (hr : r < μ0.1) {N : Nat} (s0 : Int32) (s : RS) : f_X12_user_218 N s0 (EM μ0 r (pcs U S) s) = (g_user_218 U S N s0 s).map (em μ0 r U S) := by
  unfold f_X12_user_218 g_user_218
  exact rfl
def g_user_235 (U S N : Nat) (s0 : Int32) (μ : RS) : Option (Int32 × RS) :=
  some (s0, μ)
theorem e_g_user_235 {μ0 : Mem} {r U S : Nat} (hr : r < μ0.1) {N : Nat} (s0 : Int32) (s : RS) : f_X12_user_235 N s0 (EM μ0 r (pcs U S) s) = (g_user_235 U S N s0 s).map (em μ0 r U S) := by
  unfold f_X12_user_235 g_user_235
  exact rfl
def g_user (U S N : Nat) (a1 : Int32) (a2 : Int32) (μ : RS) : Option (Int32 × RS) :=
  (g_isUser U S N a1 μ).bind fun q1 =>
  if ¬ q1.1 = 0 then
    if a2 = 0 then
      (rA U q1.2 42 a1).bind fun v4 =>
      some (v4, q1.2)
    else
      if a2 = 1 then
        (rA U q1.2 45 a1).bind fun v6 =>
        some (v6, q1.2)
      else
        if a2 = 2 then
          (rA U q1.2 43 a1).bind fun v8 =>
          some (v8, q1.2)
        else
          if a2 = 3 then
            (rA U q1.2 46 a1).bind fun v10 =>
            some (v10, q1.2)
          else
            if a2 = 4 then
              (rA U q1.2 44 a1).bind fun v12 =>
              some (v12, q1.2)
            else
              if a2 = 5 then
                (rA U q1.2 48 a1).bind fun v14 =>
                some (v14, q1.2)
              else
                if a2 = 6 then
                  (rA U q1.2 50 a1).bind fun v16 =>
                  some (v16, q1.2)
                else
                  if a2 = 7 then
                    (rA U q1.2 53 a1).bind fun v18 =>
                    some (v18, q1.2)
                  else
                    if a2 = 8 then
                      (rA U q1.2 55 a1).bind fun v20 =>
                      some (v20, q1.2)
                    else
                      if a2 = 9 then
                        (rA U q1.2 41 a1).bind fun v22 =>
                        some (v22, q1.2)
                      else
                        if a2 = 10 then
                          l_user_156 U S N N a1 0 q1.2
                        else
                          if a2 = 11 then
                            (rA U q1.2 51 a1).bind fun v24 =>
                            some (v24, q1.2)
                          else
                            if a2 = 12 then
                              (rA U q1.2 47 a1).bind fun v26 =>
                              some (v26, q1.2)
                            else
                              if a2 = 13 then
                                (rA U q1.2 42 a1).bind fun v28 =>
                                if ¬ v28 = (4 : Int32) then
                                  g_user_218 U S N ((-1)) q1.2
                                else
                                  (rA U q1.2 57 a1).bind fun v30 =>
                                  g_user_218 U S N v30 q1.2
                              else
                                if a2 = 14 then
                                  if ¬ (q1.2.1 64) = a1 then
                                    g_user_235 U S N ((-1)) q1.2
                                  else
                                    g_user_235 U S N (q1.2.1 65) q1.2
                                else
                                  some ((-1), q1.2)
  else
    some ((-1), q1.2)
theorem e_g_user {μ0 : Mem} {r U S : Nat} (hr : r < μ0.1) {N : Nat} (a1 : Int32) (a2 : Int32) (s : RS) : f_X12_user N (some r) a1 a2 (EM μ0 r (pcs U S) s) = (g_user U S N a1 a2 s).map (em μ0 r U S) := by
  unfold f_X12_user g_user
  refine st_ck hr _ ?_
  refine st_call (e_g_isUser hr _ _) fun q1 => ?_
  dsimp only
  refine st_if (fun _ => ?_) (fun _ => ?_)
  · refine st_if (fun _ => ?_) (fun _ => ?_)
    · refine st_fR hr _ (by decide) rfl ?_
      refine st_aI hr _ (lk_42 U S) _ fun v4 => ?_
      exact rfl
    · refine st_if (fun _ => ?_) (fun _ => ?_)
      · refine st_fR hr _ (by decide) rfl ?_
        refine st_aI hr _ (lk_45 U S) _ fun v6 => ?_
        exact rfl
      · refine st_if (fun _ => ?_) (fun _ => ?_)
        · refine st_fR hr _ (by decide) rfl ?_
          refine st_aI hr _ (lk_43 U S) _ fun v8 => ?_
          exact rfl
        · refine st_if (fun _ => ?_) (fun _ => ?_)
          · refine st_fR hr _ (by decide) rfl ?_
            refine st_aI hr _ (lk_46 U S) _ fun v10 => ?_
            exact rfl
          · refine st_if (fun _ => ?_) (fun _ => ?_)
            · refine st_fR hr _ (by decide) rfl ?_
              refine st_aI hr _ (lk_44 U S) _ fun v12 => ?_
              exact rfl
            · refine st_if (fun _ => ?_) (fun _ => ?_)
              · refine st_fR hr _ (by decide) rfl ?_
                refine st_aI hr _ (lk_48 U S) _ fun v14 => ?_
                exact rfl
              · refine st_if (fun _ => ?_) (fun _ => ?_)
                · refine st_fR hr _ (by decide) rfl ?_
                  refine st_aI hr _ (lk_50 U S) _ fun v16 => ?_
                  exact rfl
                · refine st_if (fun _ => ?_) (fun _ => ?_)
                  · refine st_fR hr _ (by decide) rfl ?_
                    refine st_aI hr _ (lk_53 U S) _ fun v18 => ?_
                    exact rfl
                  · refine st_if (fun _ => ?_) (fun _ => ?_)
                    · refine st_fR hr _ (by decide) rfl ?_
                      refine st_aI hr _ (lk_55 U S) _ fun v20 => ?_
                      exact rfl
                    · refine st_if (fun _ => ?_) (fun _ => ?_)
                      · refine st_fR hr _ (by decide) rfl ?_
                        refine st_aI hr _ (lk_41 U S) _ fun v22 => ?_
                        exact rfl
                      · refine st_if (fun _ => ?_) (fun _ => ?_)
                        · exact e_l_user_156 hr N _ _ _
                        · refine st_if (fun _ => ?_) (fun _ => ?_)
                          · refine st_fR hr _ (by decide) rfl ?_
                            refine st_aI hr _ (lk_51 U S) _ fun v24 => ?_
                            exact rfl
                          · refine st_if (fun _ => ?_) (fun _ => ?_)
                            · refine st_fR hr _ (by decide) rfl ?_
                              refine st_aI hr _ (lk_47 U S) _ fun v26 => ?_
                              exact rfl
                            · refine st_if (fun _ => ?_) (fun _ => ?_)
                              · refine st_fR hr _ (by decide) rfl ?_
                                refine st_aI hr _ (lk_42 U S) _ fun v28 => ?_
                                refine st_if (fun _ => ?_) (fun _ => ?_)
                                · exact e_g_user_218 hr _ _
                                · refine st_fR hr _ (by decide) rfl ?_
                                  refine st_aI hr _ (lk_57 U S) _ fun v30 => ?_
                                  exact e_g_user_218 hr _ _
                              · refine st_if (fun _ => ?_) (fun _ => ?_)
                                · refine st_fI hr _ (by decide) rfl ?_
                                  refine st_if (fun _ => ?_) (fun _ => ?_)
                                  · exact e_g_user_235 hr _ _
                                  · refine st_fI hr _ (by decide) rfl ?_
                                    exact e_g_user_235 hr _ _
                                · exact rfl
  · exact rfl
def g_look__98 (U S N : Nat) (s0 : Int32) (μ : RS) : Option (Int32 × RS) :=
  some (s0, μ)
theorem e_g_look__98 {μ0 : Mem} {r U S : Nat} (hr : r < μ0.1) {N : Nat} (s0 : Int32) (s : RS) : f_X12_look__98 N s0 (EM μ0 r (pcs U S) s) = (g_look__98 U S N s0 s).map (em μ0 r U S) := by
  unfold f_X12_look__98 g_look__98
  exact rfl
def g_look__114 (U S N : Nat) (s0 : Int32) (μ : RS) : Option (Int32 × RS) :=
  some (s0, μ)
theorem e_g_look__114 {μ0 : Mem} {r U S : Nat} (hr : r < μ0.1) {N : Nat} (s0 : Int32) (s : RS) : f_X12_look__114 N s0 (EM μ0 r (pcs U S) s) = (g_look__114 U S N s0 s).map (em μ0 r U S) := by
  unfold f_X12_look__114 g_look__114
  exact rfl
