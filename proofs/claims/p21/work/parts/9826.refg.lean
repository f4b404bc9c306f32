/-! LAYER 2, the reference over its typed state, further (by program) -/
def g_look__130 (U S N : Nat) (s0 : Int32) (μ : RS) : Option (Int32 × RS) :=
  some (s0, μ)
theorem e_g_look__130 {μ0 : Mem} {r U S : Nat} (hr : r < μ0.1) {N : Nat} (s0 : Int32) (s : RS) : f_X12_look__130 N s0 (EM μ0 r (pcs U S) s) = (g_look__130 U S N s0 s).map (em μ0 r U S) := by
  unfold f_X12_look__130 g_look__130
  exact rfl
def g_look_ (U S N : Nat) (a1 : Int32) (μ : RS) : Option (Int32 × RS) :=
  if a1 = 0 then
    some ((μ.1 66), μ)
  else
    if a1 = 1 then
      some ((μ.1 64), μ)
    else
      if a1 = 2 then
        some ((μ.1 67), μ)
      else
        if a1 = 3 then
          if ¬ (μ.1 67) = 0 then
            g_look__98 U S N (μ.1 68) μ
          else
            g_look__98 U S N ((-1)) μ
        else
          if a1 = 4 then
            if ¬ (μ.1 67) = 0 then
              g_look__114 U S N (μ.1 70) μ
            else
              g_look__114 U S N 0 μ
          else
            if a1 = 5 then
              if ¬ (μ.1 67) = 0 then
                g_look__130 U S N (μ.1 69) μ
              else
                g_look__130 U S N ((-1)) μ
            else
              if a1 = 6 then
                some ((μ.1 71), μ)
              else
                if a1 = 7 then
                  some ((μ.1 72), μ)
                else
                  if a1 = 8 then
                    some ((μ.1 74), μ)
                  else
                    if a1 = 9 then
                      some ((μ.1 63), μ)
                    else
                      if a1 = 10 then
                        some ((μ.1 75), μ)
                      else
                        if a1 = 11 then
                          some ((μ.1 1), μ)
                        else
                          if a1 = 12 then
                            some ((μ.1 73), μ)
                          else
                            some ((-1), μ)
theorem e_g_look_ {μ0 : Mem} {r U S : Nat} (hr : r < μ0.1) {N : Nat} (a1 : Int32) (s : RS) : f_X12_look_ N (some r) a1 (EM μ0 r (pcs U S) s) = (g_look_ U S N a1 s).map (em μ0 r U S) := by
  unfold f_X12_look_ g_look_
  refine st_if (fun _ => ?_) (fun _ => ?_)
  · refine st_fI hr _ (by decide) rfl ?_
    exact rfl
  · refine st_if (fun _ => ?_) (fun _ => ?_)
    · refine st_fI hr _ (by decide) rfl ?_
      exact rfl
    · refine st_if (fun _ => ?_) (fun _ => ?_)
      · refine st_fI hr _ (by decide) rfl ?_
        exact rfl
      · refine st_if (fun _ => ?_) (fun _ => ?_)
        · refine st_fI hr _ (by decide) rfl ?_
          refine st_if (fun _ => ?_) (fun _ => ?_)
          · refine st_fI hr _ (by decide) rfl ?_
            exact e_g_look__98 hr _ _
          · exact e_g_look__98 hr _ _
        · refine st_if (fun _ => ?_) (fun _ => ?_)
          · refine st_fI hr _ (by decide) rfl ?_
            refine st_if (fun _ => ?_) (fun _ => ?_)
            · refine st_fI hr _ (by decide) rfl ?_
              exact e_g_look__114 hr _ _
            · exact e_g_look__114 hr _ _
          · refine st_if (fun _ => ?_) (fun _ => ?_)
            · refine st_fI hr _ (by decide) rfl ?_
              refine st_if (fun _ => ?_) (fun _ => ?_)
              · refine st_fI hr _ (by decide) rfl ?_
                exact e_g_look__130 hr _ _
              · exact e_g_look__130 hr _ _
            · refine st_if (fun _ => ?_) (fun _ => ?_)
              · refine st_fI hr _ (by decide) rfl ?_
                exact rfl
              · refine st_if (fun _ => ?_) (fun _ => ?_)
                · refine st_fI hr _ (by decide) rfl ?_
                  exact rfl
                · refine st_if (fun _ => ?_) (fun _ => ?_)
                  · refine st_fI hr _ (by decide) rfl ?_
                    exact rfl
                  · refine st_if (fun _ => ?_) (fun _ => ?_)
                    · refine st_fI hr _ (by decide) rfl ?_
                      exact rfl
                    · refine st_if (fun _ => ?_) (fun _ => ?_)
                      · refine st_fI hr _ (by decide) rfl ?_
                        exact rfl
                      · refine st_if (fun _ => ?_) (fun _ => ?_)
                        · refine st_fI hr _ (by decide) rfl ?_
                          exact rfl
                        · refine st_if (fun _ => ?_) (fun _ => ?_)
                          · refine st_fI hr _ (by decide) rfl ?_
                            exact rfl
                          · exact rfl
def g_word___15 (U S N : Nat) (μ : RS) : Option (Int32 × RS) :=
  some ((-1), μ)
theorem e_g_word___15 {μ0 : Mem} {r U S : Nat} (hr : r < μ0.1) {N : Nat} (s : RS) : f_X12_word___15 N  (EM μ0 r (pcs U S) s) = (g_word___15 U S N  s).map (em μ0 r U S) := by
  unfold f_X12_word___15 g_word___15
  exact rfl
def g_word___51 (U S N : Nat) (s0 : Int32) (μ : RS) : Option (Int32 × RS) :=
  some (s0, μ)
theorem e_g_word___51 {μ0 : Mem} {r U S : Nat} (hr : r < μ0.1) {N : Nat} (s0 : Int32) (s : RS) : f_X12_word___51 N s0 (EM μ0 r (pcs U S) s) = (g_word___51 U S N s0 s).map (em μ0 r U S) := by
  unfold f_X12_word___51 g_word___51
  exact rfl
def g_word__ (U S N : Nat) (a1 : Int32) (a2 : Int32) (μ : RS) : Option (Int32 × RS) :=
  (g_isUser U S N a1 μ).bind fun q1 =>
  if q1.1 = 0 then
    g_word___15 U S N q1.2
  else
    (g_isWord U S N a2 q1.2).bind fun q3 =>
    if ¬ q3.1 = 0 then
      (rA U q3.2 41 a1).bind fun v5 =>
      if ¬ v5 = (((-1)) : Int32) then
        (rA U q3.2 41 a1).bind fun v8 =>
        (rQ S v8).bind fun v9 =>
        (rG 4096 q3.2 35 v9 a2).bind fun v10 =>
        g_word___51 U S N v10 q3.2
      else
        (rQ U a1).bind fun v12 =>
        (rG 4096 q3.2 36 v12 a2).bind fun v13 =>
        g_word___51 U S N v13 q3.2
    else
      g_word___15 U S N q3.2
theorem e_g_word__ {μ0 : Mem} {r U S : Nat} (hr : r < μ0.1) {N : Nat} (a1 : Int32) (a2 : Int32) (s : RS) : f_X12_word__ N (some r) a1 a2 (EM μ0 r (pcs U S) s) = (g_word__ U S N a1 a2 s).map (em μ0 r U S) := by
  unfold f_X12_word__ g_word__
  refine st_ck hr _ ?_
  refine st_call (e_g_isUser hr _ _) fun q1 => ?_
  dsimp only
  refine st_if (fun _ => ?_) (fun _ => ?_)
  · exact e_g_word___15 hr _
  · refine st_call (e_g_isWord hr _ _) fun q3 => ?_
    dsimp only
    refine st_if (fun _ => ?_) (fun _ => ?_)
    · refine st_fR hr _ (by decide) rfl ?_
      refine st_aI hr _ (lk_41 U S) _ fun v5 => ?_
      refine st_if (fun _ => ?_) (fun _ => ?_)
      · refine st_fR hr _ (by decide) rfl ?_
        refine st_fR hr _ (by decide) rfl ?_
        refine st_aI hr _ (lk_41 U S) _ fun v8 => ?_
        refine st_aR hr _ (lk_35 U S) _ fun v9 hv9 => ?_
        refine st_gI hr _ (lk_35 U S) hv9 _ fun v10 => ?_
        exact e_g_word___51 hr _ _
      · refine st_fR hr _ (by decide) rfl ?_
        refine st_aR hr _ (lk_36 U S) _ fun v12 hv12 => ?_
        refine st_gI hr _ (lk_36 U S) hv12 _ fun v13 => ?_
        exact e_g_word___51 hr _ _
    · exact e_g_word___15 hr _
def g_core_33 (U S N : Nat) (s0 : Int32) (μ : RS) : Option (Int32 × RS) :=
  some (s0, μ)
theorem e_g_core_33 {μ0 : Mem} {r U S : Nat} (hr : r < μ0.1) {N : Nat} (s0 : Int32) (s : RS) : f_X12_core_33 N s0 (EM μ0 r (pcs U S) s) = (g_core_33 U S N s0 s).map (em μ0 r U S) := by
  unfold f_X12_core_33 g_core_33
  exact rfl
def g_core_32 (U S N : Nat) (μ : RS) : Option (Int32 × RS) :=
  g_core_33 U S N ((-1)) μ
theorem e_g_core_32 {μ0 : Mem} {r U S : Nat} (hr : r < μ0.1) {N : Nat} (s : RS) : f_X12_core_32 N  (EM μ0 r (pcs U S) s) = (g_core_32 U S N  s).map (em μ0 r U S) := by
  unfold f_X12_core_32 g_core_32
  exact e_g_core_33 hr _ _
def g_core (U S N : Nat) (a1 : Int32) (a2 : Int32) (μ : RS) : Option (Int32 × RS) :=
  (g_in U S N a1 0 ((μ.1 32) - 1) μ).bind fun q2 =>
  if q2.1 = 0 then
    g_core_32 U S N q2.2
  else
    (g_isWord U S N a2 q2.2).bind fun q3 =>
    if q3.1 = 0 then
      g_core_32 U S N q3.2
    else
      (rQ S a1).bind fun v5 =>
      (rG 4096 q3.2 35 v5 a2).bind fun v6 =>
      g_core_33 U S N v6 q3.2
theorem e_g_core {μ0 : Mem} {r U S : Nat} (hr : r < μ0.1) {N : Nat} (a1 : Int32) (a2 : Int32) (s : RS) : f_X12_core N (some r) a1 a2 (EM μ0 r (pcs U S) s) = (g_core U S N a1 a2 s).map (em μ0 r U S) := by
  unfold f_X12_core g_core
  refine st_fI hr _ (by decide) rfl ?_
  refine st_call (e_g_in hr _ _ _ _) fun q2 => ?_
  dsimp only
  refine st_if (fun _ => ?_) (fun _ => ?_)
  · exact e_g_core_32 hr _
  · refine st_call (e_g_isWord hr _ _) fun q3 => ?_
    dsimp only
    refine st_if (fun _ => ?_) (fun _ => ?_)
    · exact e_g_core_32 hr _
    · refine st_fR hr _ (by decide) rfl ?_
      refine st_aR hr _ (lk_35 U S) _ fun v5 hv5 => ?_
      refine st_gI hr _ (lk_35 U S) hv5 _ fun v6 => ?_
      exact e_g_core_33 hr _ _
def g_drum_27 (U S N : Nat) (s0 : Int32) (μ : RS) : Option (Int32 × RS) :=
  some (s0, μ)
theorem e_g_drum_27 {μ0 : Mem} {r U S : Nat} (hr : r < μ0.1) {N : Nat} (s0 : Int32) (s : RS) : f_X12_drum_27 N s0 (EM μ0 r (pcs U S) s) = (g_drum_27 U S N s0 s).map (em μ0 r U S) := by
  unfold f_X12_drum_27 g_drum_27
  exact rfl
def g_drum_26 (U S N : Nat) (μ : RS) : Option (Int32 × RS) :=
  g_drum_27 U S N ((-1)) μ
theorem e_g_drum_26 {μ0 : Mem} {r U S : Nat} (hr : r < μ0.1) {N : Nat} (s : RS) : f_X12_drum_26 N  (EM μ0 r (pcs U S) s) = (g_drum_26 U S N  s).map (em μ0 r U S) := by
  unfold f_X12_drum_26 g_drum_26
  exact e_g_drum_27 hr _ _
def g_drum (U S N : Nat) (a1 : Int32) (a2 : Int32) (μ : RS) : Option (Int32 × RS) :=
  (g_isUser U S N a1 μ).bind fun q1 =>
  if q1.1 = 0 then
    g_drum_26 U S N q1.2
  else
    (g_isWord U S N a2 q1.2).bind fun q3 =>
    if q3.1 = 0 then
      g_drum_26 U S N q3.2
    else
      (rQ U a1).bind fun v5 =>
      (rG 4096 q3.2 36 v5 a2).bind fun v6 =>
      g_drum_27 U S N v6 q3.2
theorem e_g_drum {μ0 : Mem} {r U S : Nat} (hr : r < μ0.1) {N : Nat} (a1 : Int32) (a2 : Int32) (s : RS) : f_X12_drum N (some r) a1 a2 (EM μ0 r (pcs U S) s) = (g_drum U S N a1 a2 s).map (em μ0 r U S) := by
  unfold f_X12_drum g_drum
  refine st_ck hr _ ?_
  refine st_call (e_g_isUser hr _ _) fun q1 => ?_
  dsimp only
  refine st_if (fun _ => ?_) (fun _ => ?_)
  · exact e_g_drum_26 hr _
  · refine st_call (e_g_isWord hr _ _) fun q3 => ?_
    dsimp only
    refine st_if (fun _ => ?_) (fun _ => ?_)
    · exact e_g_drum_26 hr _
    · refine st_fR hr _ (by decide) rfl ?_
      refine st_aR hr _ (lk_36 U S) _ fun v5 hv5 => ?_
      refine st_gI hr _ (lk_36 U S) hv5 _ fun v6 => ?_
      exact e_g_drum_27 hr _ _
def g_slot_65 (U S N : Nat) (s0 : Int32) (μ : RS) : Option (Int32 × RS) :=
  some (s0, μ)
theorem e_g_slot_65 {μ0 : Mem} {r U S : Nat} (hr : r < μ0.1) {N : Nat} (s0 : Int32) (s : RS) : f_X12_slot_65 N s0 (EM μ0 r (pcs U S) s) = (g_slot_65 U S N s0 s).map (em μ0 r U S) := by
  unfold f_X12_slot_65 g_slot_65
  exact rfl
def g_slot_80 (U S N : Nat) (s0 : Int32) (μ : RS) : Option (Int32 × RS) :=
  some (s0, μ)
theorem e_g_slot_80 {μ0 : Mem} {r U S : Nat} (hr : r < μ0.1) {N : Nat} (s0 : Int32) (s : RS) : f_X12_slot_80 N s0 (EM μ0 r (pcs U S) s) = (g_slot_80 U S N s0 s).map (em μ0 r U S) := by
  unfold f_X12_slot_80 g_slot_80
  exact rfl
def g_slot (U S N : Nat) (a1 : Int32) (a2 : Int32) (μ : RS) : Option (Int32 × RS) :=
  (g_in U S N a1 0 ((μ.1 32) - 1) μ).bind fun q2 =>
  if ¬ q2.1 = 0 then
    if a2 = 0 then
      (rA S q2.2 38 a1).bind fun v4 =>
      some (v4, q2.2)
    else
      if a2 = 1 then
        (rA S q2.2 39 a1).bind fun v6 =>
        if v6 = 0 then
          g_slot_65 U S N 0 q2.2
        else
          g_slot_65 U S N 1 q2.2
      else
        if a2 = 2 then
          (rA S q2.2 40 a1).bind fun v8 =>
          if v8 = 0 then
            g_slot_80 U S N 0 q2.2
          else
            g_slot_80 U S N 1 q2.2
        else
          some ((-1), q2.2)
  else
    some ((-1), q2.2)
theorem e_g_slot {μ0 : Mem} {r U S : Nat} (hr : r < μ0.1) {N : Nat} (a1 : Int32) (a2 : Int32) (s : RS) : f_X12_slot N (some r) a1 a2 (EM μ0 r (pcs U S) s) = (g_slot U S N a1 a2 s).map (em μ0 r U S) := by
  unfold f_X12_slot g_slot
  refine st_fI hr _ (by decide) rfl ?_
  refine st_call (e_g_in hr _ _ _ _) fun q2 => ?_
  dsimp only
  refine st_if (fun _ => ?_) (fun _ => ?_)
  · refine st_if (fun _ => ?_) (fun _ => ?_)
    · refine st_fR hr _ (by decide) rfl ?_
      refine st_aI hr _ (lk_38 U S) _ fun v4 => ?_
      exact rfl
    · refine st_if (fun _ => ?_) (fun _ => ?_)
      · refine st_fR hr _ (by decide) rfl ?_
        refine st_aI hr _ (lk_39 U S) _ fun v6 => ?_
        refine st_if (fun _ => ?_) (fun _ => ?_)
        · exact e_g_slot_65 hr _ _
        · exact e_g_slot_65 hr _ _
      · refine st_if (fun _ => ?_) (fun _ => ?_)
        · refine st_fR hr _ (by decide) rfl ?_
          refine st_aI hr _ (lk_40 U S) _ fun v8 => ?_
          refine st_if (fun _ => ?_) (fun _ => ?_)
          · exact e_g_slot_80 hr _ _
          · exact e_g_slot_80 hr _ _
        · exact rfl
  · exact rfl
def g_block_46 (U S N : Nat) (s0 : Int32) (μ : RS) : Option (Int32 × RS) :=
  some (s0, μ)
theorem e_g_block_46 {μ0 : Mem} {r U S : Nat} (hr : r < μ0.1) {N : Nat} (s0 : Int32) (s : RS) : f_X12_block_46 N s0 (EM μ0 r (pcs U S) s) = (g_block_46 U S N s0 s).map (em μ0 r U S) := by
  unfold f_X12_block_46 g_block_46
  exact rfl
def g_block_45 (U S N : Nat) (μ : RS) : Option (Int32 × RS) :=
  g_block_46 U S N ((-1)) μ
theorem e_g_block_45 {μ0 : Mem} {r U S : Nat} (hr : r < μ0.1) {N : Nat} (s : RS) : f_X12_block_45 N  (EM μ0 r (pcs U S) s) = (g_block_45 U S N  s).map (em μ0 r U S) := by
  unfold f_X12_block_45 g_block_45
  exact e_g_block_46 hr _ _
def g_block (U S N : Nat) (a1 : Int32) (a2 : Int32) (a3 : Int32) (μ : RS) : Option (Int32 × RS) :=
  (g_isUser U S N a1 μ).bind fun q1 =>
  if q1.1 = 0 then
    g_block_45 U S N q1.2
  else
    (g_in U S N a2 0 7 q1.2).bind fun q3 =>
    if q3.1 = 0 then
      g_block_45 U S N q3.2
    else
      (g_in U S N a3 0 127 q3.2).bind fun q4 =>
      if q4.1 = 0 then
        g_block_45 U S N q4.2
      else
        (rQ U a1).bind fun v6 =>
        (rG 1024 q4.2 37 v6 ((128 * a2) + a3)).bind fun v7 =>
        g_block_46 U S N v7 q4.2
theorem e_g_block {μ0 : Mem} {r U S : Nat} (hr : r < μ0.1) {N : Nat} (a1 : Int32) (a2 : Int32) (a3 : Int32) (s : RS) : f_X12_block N (some r) a1 a2 a3 (EM μ0 r (pcs U S) s) = (g_block U S N a1 a2 a3 s).map (em μ0 r U S) := by
  unfold f_X12_block g_block
  refine st_ck hr _ ?_
  refine st_call (e_g_isUser hr _ _) fun q1 => ?_
  dsimp only
  refine st_if (fun _ => ?_) (fun _ => ?_)
  · exact e_g_block_45 hr _
  · refine st_call (e_g_in hr _ _ _ _) fun q3 => ?_
    dsimp only
    refine st_if (fun _ => ?_) (fun _ => ?_)
    · exact e_g_block_45 hr _
    · refine st_call (e_g_in hr _ _ _ _) fun q4 => ?_
      dsimp only
      refine st_if (fun _ => ?_) (fun _ => ?_)
      · exact e_g_block_45 hr _
      · refine st_fR hr _ (by decide) rfl ?_
        refine st_aR hr _ (lk_37 U S) _ fun v6 hv6 => ?_
        refine st_gI hr _ (lk_37 U S) hv6 _ fun v7 => ?_
        exact e_g_block_46 hr _ _
def g_paper_42 (U S N : Nat) (s0 : Int32) (μ : RS) : Option (Int32 × RS) :=
  some (s0, μ)
theorem e_g_paper_42 {μ0 : Mem} {r U S : Nat} (hr : r < μ0.1) {N : Nat} (s0 : Int32) (s : RS) : f_X12_paper_42 N s0 (EM μ0 r (pcs U S) s) = (g_paper_42 U S N s0 s).map (em μ0 r U S) := by
  unfold f_X12_paper_42 g_paper_42
  exact rfl
def g_paper_41 (U S N : Nat) (μ : RS) : Option (Int32 × RS) :=
  g_paper_42 U S N ((-1)) μ
theorem e_g_paper_41 {μ0 : Mem} {r U S : Nat} (hr : r < μ0.1) {N : Nat} (s : RS) : f_X12_paper_41 N  (EM μ0 r (pcs U S) s) = (g_paper_41 U S N  s).map (em μ0 r U S) := by
  unfold f_X12_paper_41 g_paper_41
  exact e_g_paper_42 hr _ _
def g_paper (U S N : Nat) (a1 : Int32) (a2 : Int32) (μ : RS) : Option (Int32 × RS) :=
  (g_isUser U S N a1 μ).bind fun q1 =>
  if q1.1 = 0 then
    g_paper_41 U S N q1.2
  else
    (rA U q1.2 55 a1).bind fun v4 =>
    (g_in U S N a2 0 ((mmin v4 500) - 1) q1.2).bind fun q5 =>
    if q5.1 = 0 then
      g_paper_41 U S N q5.2
    else
      (rQ U a1).bind fun v7 =>
      (rG 500 q5.2 54 v7 a2).bind fun v8 =>
      g_paper_42 U S N v8 q5.2
theorem e_g_paper {μ0 : Mem} {r U S : Nat} (hr : r < μ0.1) {N : Nat} (a1 : Int32) (a2 : Int32) (s : RS) : f_X12_paper N (some r) a1 a2 (EM μ0 r (pcs U S) s) = (g_paper U S N a1 a2 s).map (em μ0 r U S) := by
  unfold f_X12_paper g_paper
  refine st_ck hr _ ?_
  refine st_call (e_g_isUser hr _ _) fun q1 => ?_
  dsimp only
  refine st_if (fun _ => ?_) (fun _ => ?_)
  · exact e_g_paper_41 hr _
  · refine st_fR hr _ (by decide) rfl ?_
    refine st_aI hr _ (lk_55 U S) _ fun v4 => ?_
    refine st_call (e_g_in hr _ _ _ _) fun q5 => ?_
    dsimp only
    refine st_if (fun _ => ?_) (fun _ => ?_)
    · exact e_g_paper_41 hr _
    · refine st_fR hr _ (by decide) rfl ?_
      refine st_aR hr _ (lk_54 U S) _ fun v7 hv7 => ?_
      refine st_gI hr _ (lk_54 U S) hv7 _ fun v8 => ?_
      exact e_g_paper_42 hr _ _
