/-! LAYER 2, the reference over its typed state, further (by program) -/
def g_word_279 (U S N : Nat) (k113 : Int32 → Int32 → Int32 → Int32 → Int32 → Int32 → Int32 → RS → Option (Unit × RS)) (a1 : Int32) (a2 : Int32) (a3 : Int32) (a4 : Int32) (a5 : Int32) (a6 : Int32) (a7 : Int32) (a8 : Int32) (a9 : Int32) (a10 : Int32) (μ : RS) : Option (Unit × RS) :=
  if a3 ≤ 0 then
    g_word_343 U S N k113 a1 a2 a3 a4 a5 a6 a7 a9 μ
  else
    if a2 = (((-1)) : Int32) then
      g_word_343 U S N k113 a1 a2 a3 a4 a5 a6 a7 a9 μ
    else
      if a10 = 0 then
        g_word_335 U S N k113 a1 a2 a3 a4 a7 a8 a9 μ
      else
        if (μ.1 30) = (6 : Int32) then
          g_word_311 U S N k113 a1 a2 a3 a4 a5 a6 a7 a9 μ
        else
          if ¬ (μ.1 30) = (7 : Int32) then
            g_word_335 U S N k113 a1 a2 a3 a4 a7 a8 a9 μ
          else
            g_word_311 U S N k113 a1 a2 a3 a4 a5 a6 a7 a9 μ
theorem e_g_word_279 {μ0 : Mem} {r U S : Nat} (hr : r < μ0.1) {N : Nat} {k113 : (Option Nat) → Int32 → Int32 → Int32 → Int32 → Int32 → Int32 → Int32 → Mem → Option (Unit × Mem)} {k113' : Int32 → Int32 → Int32 → Int32 → Int32 → Int32 → Int32 → RS → Option (Unit × RS)} (hk113 : ∀ (x1 : Int32) (x2 : Int32) (x3 : Int32) (x4 : Int32) (x5 : Int32) (x6 : Int32) (x7 : Int32) (s : RS), k113 (some r) x1 x2 x3 x4 x5 x6 x7 (EM μ0 r (pcs U S) s) = (k113' x1 x2 x3 x4 x5 x6 x7 s).map (em μ0 r U S)) (a1 : Int32) (a2 : Int32) (a3 : Int32) (a4 : Int32) (a5 : Int32) (a6 : Int32) (a7 : Int32) (a8 : Int32) (a9 : Int32) (a10 : Int32) (s : RS) : f_X12_word_279 N k113 (some r) a1 a2 a3 a4 a5 a6 a7 a8 a9 a10 (EM μ0 r (pcs U S) s) = (g_word_279 U S N k113' a1 a2 a3 a4 a5 a6 a7 a8 a9 a10 s).map (em μ0 r U S) := by
  unfold f_X12_word_279 g_word_279
  refine st_if (fun _ => ?_) (fun _ => ?_)
  · exact e_g_word_343 hr hk113 _ _ _ _ _ _ _ _ _
  · refine st_if (fun _ => ?_) (fun _ => ?_)
    · exact e_g_word_343 hr hk113 _ _ _ _ _ _ _ _ _
    · refine st_if (fun _ => ?_) (fun _ => ?_)
      · exact e_g_word_335 hr hk113 _ _ _ _ _ _ _ _
      · refine st_fI hr _ (by decide) rfl ?_
        refine st_if (fun _ => ?_) (fun _ => ?_)
        · exact e_g_word_311 hr hk113 _ _ _ _ _ _ _ _ _
        · refine st_fI hr _ (by decide) rfl ?_
          refine st_if (fun _ => ?_) (fun _ => ?_)
          · exact e_g_word_335 hr hk113 _ _ _ _ _ _ _ _
          · exact e_g_word_311 hr hk113 _ _ _ _ _ _ _ _ _
def g_word_278 (U S N : Nat) (k113 : Int32 → Int32 → Int32 → Int32 → Int32 → Int32 → Int32 → RS → Option (Unit × RS)) (a1 : Int32) (a3 : Int32) (a4 : Int32) (a5 : Int32) (a6 : Int32) (a7 : Int32) (a8 : Int32) (a9 : Int32) (a10 : Int32) (s0 : Int32) (μ : RS) : Option (Unit × RS) :=
  g_word_279 U S N k113 a1 s0 a3 a4 a5 a6 a7 a8 a9 a10 μ
theorem e_g_word_278 {μ0 : Mem} {r U S : Nat} (hr : r < μ0.1) {N : Nat} {k113 : (Option Nat) → Int32 → Int32 → Int32 → Int32 → Int32 → Int32 → Int32 → Mem → Option (Unit × Mem)} {k113' : Int32 → Int32 → Int32 → Int32 → Int32 → Int32 → Int32 → RS → Option (Unit × RS)} (hk113 : ∀ (x1 : Int32) (x2 : Int32) (x3 : Int32) (x4 : Int32) (x5 : Int32) (x6 : Int32) (x7 : Int32) (s : RS), k113 (some r) x1 x2 x3 x4 x5 x6 x7 (EM μ0 r (pcs U S) s) = (k113' x1 x2 x3 x4 x5 x6 x7 s).map (em μ0 r U S)) (a1 : Int32) (a3 : Int32) (a4 : Int32) (a5 : Int32) (a6 : Int32) (a7 : Int32) (a8 : Int32) (a9 : Int32) (a10 : Int32) (s0 : Int32) (s : RS) : f_X12_word_278 N k113 (some r) a1 a3 a4 a5 a6 a7 a8 a9 a10 s0 (EM μ0 r (pcs U S) s) = (g_word_278 U S N k113' a1 a3 a4 a5 a6 a7 a8 a9 a10 s0 s).map (em μ0 r U S) := by
  unfold f_X12_word_278 g_word_278
  exact e_g_word_279 hr hk113 _ _ _ _ _ _ _ _ _ _ _
def g_word_277 (U S N : Nat) (k113 : Int32 → Int32 → Int32 → Int32 → Int32 → Int32 → Int32 → RS → Option (Unit × RS)) (a1 : Int32) (a3 : Int32) (a4 : Int32) (a5 : Int32) (a6 : Int32) (a7 : Int32) (a8 : Int32) (a9 : Int32) (a10 : Int32) (μ : RS) : Option (Unit × RS) :=
  g_word_278 U S N k113 a1 a3 a4 a5 a6 a7 a8 a9 a10 ((-1)) μ
theorem e_g_word_277 {μ0 : Mem} {r U S : Nat} (hr : r < μ0.1) {N : Nat} {k113 : (Option Nat) → Int32 → Int32 → Int32 → Int32 → Int32 → Int32 → Int32 → Mem → Option (Unit × Mem)} {k113' : Int32 → Int32 → Int32 → Int32 → Int32 → Int32 → Int32 → RS → Option (Unit × RS)} (hk113 : ∀ (x1 : Int32) (x2 : Int32) (x3 : Int32) (x4 : Int32) (x5 : Int32) (x6 : Int32) (x7 : Int32) (s : RS), k113 (some r) x1 x2 x3 x4 x5 x6 x7 (EM μ0 r (pcs U S) s) = (k113' x1 x2 x3 x4 x5 x6 x7 s).map (em μ0 r U S)) (a1 : Int32) (a3 : Int32) (a4 : Int32) (a5 : Int32) (a6 : Int32) (a7 : Int32) (a8 : Int32) (a9 : Int32) (a10 : Int32) (s : RS) : f_X12_word_277 N k113 (some r) a1 a3 a4 a5 a6 a7 a8 a9 a10 (EM μ0 r (pcs U S) s) = (g_word_277 U S N k113' a1 a3 a4 a5 a6 a7 a8 a9 a10 s).map (em μ0 r U S) := by
  unfold f_X12_word_277 g_word_277
  exact e_g_word_278 hr hk113 _ _ _ _ _ _ _ _ _ _ _
def g_word_247 (U S N : Nat) (k113 : Int32 → Int32 → Int32 → Int32 → Int32 → Int32 → Int32 → RS → Option (Unit × RS)) (a1 : Int32) (a2 : Int32) (a3 : Int32) (a4 : Int32) (a5 : Int32) (a6 : Int32) (a7 : Int32) (a8 : Int32) (a9 : Int32) (s0 : Int32) (μ : RS) : Option (Unit × RS) :=
  if ¬ a3 = 0 then
    g_word_279 U S N k113 a1 a2 a3 a4 a5 a6 a7 a8 a9 s0 μ
  else
    if s0 = 0 then
      g_word_277 U S N k113 a1 a3 a4 a5 a6 a7 a8 a9 s0 μ
    else
      (g_in U S N (μ.1 30) 0 5 μ).bind fun q2 =>
      if q2.1 = 0 then
        g_word_277 U S N k113 a1 a3 a4 a5 a6 a7 a8 a9 s0 q2.2
      else
        g_word_278 U S N k113 a1 a3 a4 a5 a6 a7 a8 a9 s0 (q2.2.1 30) q2.2
theorem e_g_word_247 {μ0 : Mem} {r U S : Nat} (hr : r < μ0.1) {N : Nat} {k113 : (Option Nat) → Int32 → Int32 → Int32 → Int32 → Int32 → Int32 → Int32 → Mem → Option (Unit × Mem)} {k113' : Int32 → Int32 → Int32 → Int32 → Int32 → Int32 → Int32 → RS → Option (Unit × RS)} (hk113 : ∀ (x1 : Int32) (x2 : Int32) (x3 : Int32) (x4 : Int32) (x5 : Int32) (x6 : Int32) (x7 : Int32) (s : RS), k113 (some r) x1 x2 x3 x4 x5 x6 x7 (EM μ0 r (pcs U S) s) = (k113' x1 x2 x3 x4 x5 x6 x7 s).map (em μ0 r U S)) (a1 : Int32) (a2 : Int32) (a3 : Int32) (a4 : Int32) (a5 : Int32) (a6 : Int32) (a7 : Int32) (a8 : Int32) (a9 : Int32) (s0 : Int32) (s : RS) : f_X12_word_247 N k113 (some r) a1 a2 a3 a4 a5 a6 a7 a8 a9 s0 (EM μ0 r (pcs U S) s) = (g_word_247 U S N k113' a1 a2 a3 a4 a5 a6 a7 a8 a9 s0 s).map (em μ0 r U S) := by
  unfold f_X12_word_247 g_word_247
  refine st_if (fun _ => ?_) (fun _ => ?_)
  · exact e_g_word_279 hr hk113 _ _ _ _ _ _ _ _ _ _ _
  · refine st_if (fun _ => ?_) (fun _ => ?_)
    · exact e_g_word_277 hr hk113 _ _ _ _ _ _ _ _ _ _
    · refine st_fI hr _ (by decide) rfl ?_
      refine st_call (e_g_in hr _ _ _ _) fun q2 => ?_
      dsimp only
      refine st_if (fun _ => ?_) (fun _ => ?_)
      · exact e_g_word_277 hr hk113 _ _ _ _ _ _ _ _ _ _
      · refine st_fI hr _ (by decide) rfl ?_
        exact e_g_word_278 hr hk113 _ _ _ _ _ _ _ _ _ _ _
def g_word_246 (U S N : Nat) (k113 : Int32 → Int32 → Int32 → Int32 → Int32 → Int32 → Int32 → RS → Option (Unit × RS)) (a1 : Int32) (a2 : Int32) (a3 : Int32) (a4 : Int32) (a5 : Int32) (a6 : Int32) (a7 : Int32) (a8 : Int32) (a9 : Int32) (μ : RS) : Option (Unit × RS) :=
  g_word_247 U S N k113 a1 a2 a3 a4 a5 a6 a7 a8 a9 0 μ
theorem e_g_word_246 {μ0 : Mem} {r U S : Nat} (hr : r < μ0.1) {N : Nat} {k113 : (Option Nat) → Int32 → Int32 → Int32 → Int32 → Int32 → Int32 → Int32 → Mem → Option (Unit × Mem)} {k113' : Int32 → Int32 → Int32 → Int32 → Int32 → Int32 → Int32 → RS → Option (Unit × RS)} (hk113 : ∀ (x1 : Int32) (x2 : Int32) (x3 : Int32) (x4 : Int32) (x5 : Int32) (x6 : Int32) (x7 : Int32) (s : RS), k113 (some r) x1 x2 x3 x4 x5 x6 x7 (EM μ0 r (pcs U S) s) = (k113' x1 x2 x3 x4 x5 x6 x7 s).map (em μ0 r U S)) (a1 : Int32) (a2 : Int32) (a3 : Int32) (a4 : Int32) (a5 : Int32) (a6 : Int32) (a7 : Int32) (a8 : Int32) (a9 : Int32) (s : RS) : f_X12_word_246 N k113 (some r) a1 a2 a3 a4 a5 a6 a7 a8 a9 (EM μ0 r (pcs U S) s) = (g_word_246 U S N k113' a1 a2 a3 a4 a5 a6 a7 a8 a9 s).map (em μ0 r U S) := by
  unfold f_X12_word_246 g_word_246
  exact e_g_word_247 hr hk113 _ _ _ _ _ _ _ _ _ _ _
def g_word_219 (U S N : Nat) (k113 : Int32 → Int32 → Int32 → Int32 → Int32 → Int32 → Int32 → RS → Option (Unit × RS)) (a1 : Int32) (a2 : Int32) (a3 : Int32) (a4 : Int32) (a5 : Int32) (a6 : Int32) (a7 : Int32) (a8 : Int32) (s0 : Int32) (μ : RS) : Option (Unit × RS) :=
  if (μ.1 5) ≤ 0 then
    if ¬ a7 = 0 then
      g_word_246 U S N k113 a1 a2 a3 a4 a5 a6 a7 a8 s0 μ
    else
      if (μ.1 30) = (((-1)) : Int32) then
        g_word_246 U S N k113 a1 a2 a3 a4 a5 a6 a7 a8 s0 μ
      else
        g_word_247 U S N k113 a1 a2 a3 a4 a5 a6 a7 a8 s0 1 μ
  else
    some ((), μ)
theorem e_g_word_219 {μ0 : Mem} {r U S : Nat} (hr : r < μ0.1) {N : Nat} {k113 : (Option Nat) → Int32 → Int32 → Int32 → Int32 → Int32 → Int32 → Int32 → Mem → Option (Unit × Mem)} {k113' : Int32 → Int32 → Int32 → Int32 → Int32 → Int32 → Int32 → RS → Option (Unit × RS)} (hk113 : ∀ (x1 : Int32) (x2 : Int32) (x3 : Int32) (x4 : Int32) (x5 : Int32) (x6 : Int32) (x7 : Int32) (s : RS), k113 (some r) x1 x2 x3 x4 x5 x6 x7 (EM μ0 r (pcs U S) s) = (k113' x1 x2 x3 x4 x5 x6 x7 s).map (em μ0 r U S)) (a1 : Int32) (a2 : Int32) (a3 : Int32) (a4 : Int32) (a5 : Int32) (a6 : Int32) (a7 : Int32) (a8 : Int32) (s0 : Int32) (s : RS) : f_X12_word_219 N k113 (some r) a1 a2 a3 a4 a5 a6 a7 a8 s0 (EM μ0 r (pcs U S) s) = (g_word_219 U S N k113' a1 a2 a3 a4 a5 a6 a7 a8 s0 s).map (em μ0 r U S) := by
  unfold f_X12_word_219 g_word_219
  refine st_fI hr _ (by decide) rfl ?_
  refine st_if (fun _ => ?_) (fun _ => ?_)
  · refine st_if (fun _ => ?_) (fun _ => ?_)
    · exact e_g_word_246 hr hk113 _ _ _ _ _ _ _ _ _ _
    · refine st_fI hr _ (by decide) rfl ?_
      refine st_if (fun _ => ?_) (fun _ => ?_)
      · exact e_g_word_246 hr hk113 _ _ _ _ _ _ _ _ _ _
      · exact e_g_word_247 hr hk113 _ _ _ _ _ _ _ _ _ _ _
  · exact rfl
def g_word_201 (U S N : Nat) (k113 : Int32 → Int32 → Int32 → Int32 → Int32 → Int32 → Int32 → RS → Option (Unit × RS)) (a1 : Int32) (a2 : Int32) (a3 : Int32) (a4 : Int32) (a5 : Int32) (a6 : Int32) (a8 : Int32) (s0 : Int32) (μ : RS) : Option (Unit × RS) :=
  if s0 = 0 then
    (g_all U S N μ).bind fun q1 =>
    g_word_219 U S N k113 a1 a2 a3 a4 a5 a6 s0 a8 q1.1 q1.2
  else
    (g_literal U S N μ).bind fun q3 =>
    g_word_219 U S N k113 a1 a2 a3 a4 a5 a6 s0 a8 q3.1 q3.2
theorem e_g_word_201 {μ0 : Mem} {r U S : Nat} (hr : r < μ0.1) {N : Nat} {k113 : (Option Nat) → Int32 → Int32 → Int32 → Int32 → Int32 → Int32 → Int32 → Mem → Option (Unit × Mem)} {k113' : Int32 → Int32 → Int32 → Int32 → Int32 → Int32 → Int32 → RS → Option (Unit × RS)} (hk113 : ∀ (x1 : Int32) (x2 : Int32) (x3 : Int32) (x4 : Int32) (x5 : Int32) (x6 : Int32) (x7 : Int32) (s : RS), k113 (some r) x1 x2 x3 x4 x5 x6 x7 (EM μ0 r (pcs U S) s) = (k113' x1 x2 x3 x4 x5 x6 x7 s).map (em μ0 r U S)) (a1 : Int32) (a2 : Int32) (a3 : Int32) (a4 : Int32) (a5 : Int32) (a6 : Int32) (a8 : Int32) (s0 : Int32) (s : RS) : f_X12_word_201 N k113 (some r) a1 a2 a3 a4 a5 a6 a8 s0 (EM μ0 r (pcs U S) s) = (g_word_201 U S N k113' a1 a2 a3 a4 a5 a6 a8 s0 s).map (em μ0 r U S) := by
  unfold f_X12_word_201 g_word_201
  refine st_if (fun _ => ?_) (fun _ => ?_)
  · refine st_ck hr _ ?_
    refine st_call (e_g_all hr _) fun q1 => ?_
    dsimp only
    exact e_g_word_219 hr hk113 _ _ _ _ _ _ _ _ _ _
  · refine st_ck hr _ ?_
    refine st_call (e_g_literal hr _) fun q3 => ?_
    dsimp only
    exact e_g_word_219 hr hk113 _ _ _ _ _ _ _ _ _ _
def g_word_200 (U S N : Nat) (k113 : Int32 → Int32 → Int32 → Int32 → Int32 → Int32 → Int32 → RS → Option (Unit × RS)) (a1 : Int32) (a2 : Int32) (a3 : Int32) (a4 : Int32) (a5 : Int32) (a6 : Int32) (a8 : Int32) (μ : RS) : Option (Unit × RS) :=
  g_word_201 U S N k113 a1 a2 a3 a4 a5 a6 a8 0 μ
theorem e_g_word_200 {μ0 : Mem} {r U S : Nat} (hr : r < μ0.1) {N : Nat} {k113 : (Option Nat) → Int32 → Int32 → Int32 → Int32 → Int32 → Int32 → Int32 → Mem → Option (Unit × Mem)} {k113' : Int32 → Int32 → Int32 → Int32 → Int32 → Int32 → Int32 → RS → Option (Unit × RS)} (hk113 : ∀ (x1 : Int32) (x2 : Int32) (x3 : Int32) (x4 : Int32) (x5 : Int32) (x6 : Int32) (x7 : Int32) (s : RS), k113 (some r) x1 x2 x3 x4 x5 x6 x7 (EM μ0 r (pcs U S) s) = (k113' x1 x2 x3 x4 x5 x6 x7 s).map (em μ0 r U S)) (a1 : Int32) (a2 : Int32) (a3 : Int32) (a4 : Int32) (a5 : Int32) (a6 : Int32) (a8 : Int32) (s : RS) : f_X12_word_200 N k113 (some r) a1 a2 a3 a4 a5 a6 a8 (EM μ0 r (pcs U S) s) = (g_word_200 U S N k113' a1 a2 a3 a4 a5 a6 a8 s).map (em μ0 r U S) := by
  unfold f_X12_word_200 g_word_200
  exact e_g_word_201 hr hk113 _ _ _ _ _ _ _ _ _
def g_word_196 (U S N : Nat) (k113 : Int32 → Int32 → Int32 → Int32 → Int32 → Int32 → Int32 → RS → Option (Unit × RS)) (a1 : Int32) (a2 : Int32) (a3 : Int32) (a4 : Int32) (a5 : Int32) (a6 : Int32) (a8 : Int32) (μ : RS) : Option (Unit × RS) :=
  g_word_201 U S N k113 a1 a2 a3 a4 a5 a6 a8 1 μ
theorem e_g_word_196 {μ0 : Mem} {r U S : Nat} (hr : r < μ0.1) {N : Nat} {k113 : (Option Nat) → Int32 → Int32 → Int32 → Int32 → Int32 → Int32 → Int32 → Mem → Option (Unit × Mem)} {k113' : Int32 → Int32 → Int32 → Int32 → Int32 → Int32 → Int32 → RS → Option (Unit × RS)} (hk113 : ∀ (x1 : Int32) (x2 : Int32) (x3 : Int32) (x4 : Int32) (x5 : Int32) (x6 : Int32) (x7 : Int32) (s : RS), k113 (some r) x1 x2 x3 x4 x5 x6 x7 (EM μ0 r (pcs U S) s) = (k113' x1 x2 x3 x4 x5 x6 x7 s).map (em μ0 r U S)) (a1 : Int32) (a2 : Int32) (a3 : Int32) (a4 : Int32) (a5 : Int32) (a6 : Int32) (a8 : Int32) (s : RS) : f_X12_word_196 N k113 (some r) a1 a2 a3 a4 a5 a6 a8 (EM μ0 r (pcs U S) s) = (g_word_196 U S N k113' a1 a2 a3 a4 a5 a6 a8 s).map (em μ0 r U S) := by
  unfold f_X12_word_196 g_word_196
  exact e_g_word_201 hr hk113 _ _ _ _ _ _ _ _ _
def g_word_150 (U S N : Nat) (k113 : Int32 → Int32 → Int32 → Int32 → Int32 → Int32 → Int32 → RS → Option (Unit × RS)) (a1 : Int32) (a2 : Int32) (a3 : Int32) (a4 : Int32) (a5 : Int32) (a6 : Int32) (μ : RS) : Option (Unit × RS) :=
  if a5 = (((-1)) : Int32) then
    if ¬ (μ.1 12) = (4 : Int32) then
      g_word_200 U S N k113 a1 a2 a3 a4 a5 a6 (μ.1 13) μ
    else
      if (μ.1 14) = (40 : Int32) then
        g_word_196 U S N k113 a1 a2 a3 a4 a5 a6 (μ.1 13) μ
      else
        if ¬ (μ.1 14) = (91 : Int32) then
          g_word_200 U S N k113 a1 a2 a3 a4 a5 a6 (μ.1 13) μ
        else
          g_word_196 U S N k113 a1 a2 a3 a4 a5 a6 (μ.1 13) μ
  else
    (g_fails U S N 2 a6 μ).bind fun q5 =>
    some ((), q5.2)
theorem e_g_word_150 {μ0 : Mem} {r U S : Nat} (hr : r < μ0.1) {N : Nat} {k113 : (Option Nat) → Int32 → Int32 → Int32 → Int32 → Int32 → Int32 → Int32 → Mem → Option (Unit × Mem)} {k113' : Int32 → Int32 → Int32 → Int32 → Int32 → Int32 → Int32 → RS → Option (Unit × RS)} (hk113 : ∀ (x1 : Int32) (x2 : Int32) (x3 : Int32) (x4 : Int32) (x5 : Int32) (x6 : Int32) (x7 : Int32) (s : RS), k113 (some r) x1 x2 x3 x4 x5 x6 x7 (EM μ0 r (pcs U S) s) = (k113' x1 x2 x3 x4 x5 x6 x7 s).map (em μ0 r U S)) (a1 : Int32) (a2 : Int32) (a3 : Int32) (a4 : Int32) (a5 : Int32) (a6 : Int32) (s : RS) : f_X12_word_150 N k113 (some r) a1 a2 a3 a4 a5 a6 (EM μ0 r (pcs U S) s) = (g_word_150 U S N k113' a1 a2 a3 a4 a5 a6 s).map (em μ0 r U S) := by
  unfold f_X12_word_150 g_word_150
  refine st_fI hr _ (by decide) rfl ?_
  refine st_if (fun _ => ?_) (fun _ => ?_)
  · refine st_fI hr _ (by decide) rfl ?_
    refine st_if (fun _ => ?_) (fun _ => ?_)
    · exact e_g_word_200 hr hk113 _ _ _ _ _ _ _ _
    · refine st_fI hr _ (by decide) rfl ?_
      refine st_if (fun _ => ?_) (fun _ => ?_)
      · exact e_g_word_196 hr hk113 _ _ _ _ _ _ _ _
      · refine st_fI hr _ (by decide) rfl ?_
        refine st_if (fun _ => ?_) (fun _ => ?_)
        · exact e_g_word_200 hr hk113 _ _ _ _ _ _ _ _
        · exact e_g_word_196 hr hk113 _ _ _ _ _ _ _ _
  · refine st_ck hr _ ?_
    refine st_call (e_g_fails hr _ _ _) fun q5 => ?_
    dsimp only
    exact rfl
def h_word_113 (U S N : Nat) (k113 : Int32 → Int32 → Int32 → Int32 → Int32 → Int32 → Int32 → RS → Option (Unit × RS)) (a1 : Int32) (a2 : Int32) (a3 : Int32) (a4 : Int32) (a5 : Int32) (a6 : Int32) (a7 : Int32) (μ : RS) : Option (Unit × RS) :=
  if ¬ (μ.1 5) = 0 then
    g_word_354 U S N a1 a2 a3 a4 a5 a6 μ
  else
    if ¬ a7 = 0 then
      g_word_354 U S N a1 a2 a3 a4 a5 a6 μ
    else
      (g_beginsV U S N μ).bind fun q2 =>
      if ¬ q2.1 = 0 then
        g_word_150 U S N k113 a1 a2 a3 a4 a5 a6 q2.2
      else
        (g_isSign U S N 40 q2.2).bind fun q4 =>
        if ¬ q4.1 = 0 then
          g_word_150 U S N k113 a1 a2 a3 a4 a5 a6 q4.2
        else
          (g_isSign U S N 91 q4.2).bind fun q6 =>
          if q6.1 = 0 then
            g_word_354 U S N a1 a2 a3 a4 a5 a6 q6.2
          else
            g_word_150 U S N k113 a1 a2 a3 a4 a5 a6 q6.2
theorem e_h_word_113 {μ0 : Mem} {r U S : Nat} (hr : r < μ0.1) {N : Nat} {k113 : (Option Nat) → Int32 → Int32 → Int32 → Int32 → Int32 → Int32 → Int32 → Mem → Option (Unit × Mem)} {k113' : Int32 → Int32 → Int32 → Int32 → Int32 → Int32 → Int32 → RS → Option (Unit × RS)} (hk113 : ∀ (x1 : Int32) (x2 : Int32) (x3 : Int32) (x4 : Int32) (x5 : Int32) (x6 : Int32) (x7 : Int32) (s : RS), k113 (some r) x1 x2 x3 x4 x5 x6 x7 (EM μ0 r (pcs U S) s) = (k113' x1 x2 x3 x4 x5 x6 x7 s).map (em μ0 r U S)) (a1 : Int32) (a2 : Int32) (a3 : Int32) (a4 : Int32) (a5 : Int32) (a6 : Int32) (a7 : Int32) (s : RS) : H_X12_word_113 N k113 (some r) a1 a2 a3 a4 a5 a6 a7 (EM μ0 r (pcs U S) s) = (h_word_113 U S N k113' a1 a2 a3 a4 a5 a6 a7 s).map (em μ0 r U S) := by
  unfold H_X12_word_113 h_word_113
  refine st_fI hr _ (by decide) rfl ?_
  refine st_if (fun _ => ?_) (fun _ => ?_)
  · exact e_g_word_354 hr _ _ _ _ _ _ _
  · refine st_if (fun _ => ?_) (fun _ => ?_)
    · exact e_g_word_354 hr _ _ _ _ _ _ _
    · refine st_ck hr _ ?_
      refine st_call (e_g_beginsV hr _) fun q2 => ?_
      dsimp only
      refine st_if (fun _ => ?_) (fun _ => ?_)
      · exact e_g_word_150 hr hk113 _ _ _ _ _ _ _
      · refine st_ck hr _ ?_
        refine st_call (e_g_isSign hr _ _) fun q4 => ?_
        dsimp only
        refine st_if (fun _ => ?_) (fun _ => ?_)
        · exact e_g_word_150 hr hk113 _ _ _ _ _ _ _
        · refine st_ck hr _ ?_
          refine st_call (e_g_isSign hr _ _) fun q6 => ?_
          dsimp only
          refine st_if (fun _ => ?_) (fun _ => ?_)
          · exact e_g_word_354 hr _ _ _ _ _ _ _
          · exact e_g_word_150 hr hk113 _ _ _ _ _ _ _
def l_word_113 (U S N : Nat)  : Nat → Int32 → Int32 → Int32 → Int32 → Int32 → Int32 → Int32 → RS → Option (Unit × RS)
  | 0 => fun _ _ _ _ _ _ _ _ => none
  | n + 1 => h_word_113 U S N (l_word_113 U S N n)
theorem e_l_word_113 {μ0 : Mem} {r U S : Nat} (hr : r < μ0.1) {N : Nat} : ∀ (n : Nat) (x1 : Int32) (x2 : Int32) (x3 : Int32) (x4 : Int32) (x5 : Int32) (x6 : Int32) (x7 : Int32) (s : RS), L_X12_word_113 N n (some r) x1 x2 x3 x4 x5 x6 x7 (EM μ0 r (pcs U S) s) = (l_word_113 U S N n x1 x2 x3 x4 x5 x6 x7 s).map (em μ0 r U S) := by
  intro n
  induction n with
  | zero => intros; exact rfl
  | succ n ih => intros; exact e_h_word_113 hr ih _ _ _ _ _ _ _ _
def g_word_105 (U S N : Nat) (a1 : Int32) (a2 : Int32) (a3 : Int32) (a4 : Int32) (a5 : Int32) (a6 : Int32) (a7 : Int32) (μ : RS) : Option (Unit × RS) :=
  if (μ.1 5) ≤ 0 then
    l_word_113 U S N N a1 a2 a3 a4 a5 a6 a7 μ
  else
    some ((), μ)
theorem e_g_word_105 {μ0 : Mem} {r U S : Nat} (hr : r < μ0.1) {N : Nat} (a1 : Int32) (a2 : Int32) (a3 : Int32) (a4 : Int32) (a5 : Int32) (a6 : Int32) (a7 : Int32) (s : RS) : f_X12_word_105 N (some r) a1 a2 a3 a4 a5 a6 a7 (EM μ0 r (pcs U S) s) = (g_word_105 U S N a1 a2 a3 a4 a5 a6 a7 s).map (em μ0 r U S) := by
  unfold f_X12_word_105 g_word_105
  refine st_fI hr _ (by decide) rfl ?_
  refine st_if (fun _ => ?_) (fun _ => ?_)
  · exact e_l_word_113 hr N _ _ _ _ _ _ _ _
  · exact rfl
def g_word_53 (U S N : Nat) (a1 : Int32) (a2 : Int32) (a3 : Int32) (a4 : Int32) (a5 : Int32) (a6 : Int32) (a7 : Int32) (μ : RS) : Option (Unit × RS) :=
  if (μ.1 11) ≤ (4095 : Int32) then
    if (μ.1 9) = 0 then
      g_word_105 U S N a1 a2 a3 a4 a5 a6 a7 μ
    else
      (rA 4096 μ 24 (μ.1 11)).bind fun v5 =>
      if v5 = 0 then
        g_word_105 U S N a1 a2 a3 a4 a5 a6 a7 μ
      else
        (g_fails U S N 8 (μ.1 27) μ).bind fun q7 =>
        g_word_105 U S N a1 a2 a3 a4 a5 a6 a7 q7.2
  else
    (g_fails U S N 6 (μ.1 27) μ).bind fun q10 =>
    g_word_105 U S N a1 a2 a3 a4 a5 a6 a7 q10.2
theorem e_g_word_53 {μ0 : Mem} {r U S : Nat} (hr : r < μ0.1) {N : Nat} (a1 : Int32) (a2 : Int32) (a3 : Int32) (a4 : Int32) (a5 : Int32) (a6 : Int32) (a7 : Int32) (s : RS) : f_X12_word_53 N (some r) a1 a2 a3 a4 a5 a6 a7 (EM μ0 r (pcs U S) s) = (g_word_53 U S N a1 a2 a3 a4 a5 a6 a7 s).map (em μ0 r U S) := by
  unfold f_X12_word_53 g_word_53
  refine st_fI hr _ (by decide) rfl ?_
  refine st_if (fun _ => ?_) (fun _ => ?_)
  · refine st_fI hr _ (by decide) rfl ?_
    refine st_if (fun _ => ?_) (fun _ => ?_)
    · exact e_g_word_105 hr _ _ _ _ _ _ _ _
    · refine st_fR hr _ (by decide) rfl ?_
      refine st_fI hr _ (by decide) rfl ?_
      refine st_aI hr _ (lk_24 U S) _ fun v5 => ?_
      refine st_if (fun _ => ?_) (fun _ => ?_)
      · exact e_g_word_105 hr _ _ _ _ _ _ _ _
      · refine st_fI hr _ (by decide) rfl ?_
        refine st_ck hr _ ?_
        refine st_call (e_g_fails hr _ _ _) fun q7 => ?_
        dsimp only
        exact e_g_word_105 hr _ _ _ _ _ _ _ _
  · refine st_fI hr _ (by decide) rfl ?_
    refine st_ck hr _ ?_
    refine st_call (e_g_fails hr _ _ _) fun q10 => ?_
    dsimp only
    exact e_g_word_105 hr _ _ _ _ _ _ _ _
def g_word (U S N : Nat) (μ : RS) : Option (Unit × RS) :=
  (g_beginsV U S N μ).bind fun q1 =>
  if ¬ q1.1 = 0 then
    g_word_53 U S N 0 ((-1)) 0 0 ((-1)) ((-1)) 0 q1.2
  else
    (g_isSign U S N 40 q1.2).bind fun q3 =>
    if ¬ q3.1 = 0 then
      g_word_53 U S N 0 ((-1)) 0 0 ((-1)) ((-1)) 0 q3.2
    else
      (g_isSign U S N 91 q3.2).bind fun q5 =>
      if ¬ q5.1 = 0 then
        g_word_53 U S N 0 ((-1)) 0 0 ((-1)) ((-1)) 0 q5.2
      else
        (g_fails U S N 2 (q5.2.1 13) q5.2).bind fun q8 =>
        some ((), q8.2)
theorem e_g_word {μ0 : Mem} {r U S : Nat} (hr : r < μ0.1) {N : Nat} (s : RS) : f_X12_word N (some r) (EM μ0 r (pcs U S) s) = (g_word U S N  s).map (em μ0 r U S) := by
  unfold f_X12_word g_word
  refine st_ck hr _ ?_
  refine st_call (e_g_beginsV hr _) fun q1 => ?_
  dsimp only
  refine st_if (fun _ => ?_) (fun _ => ?_)
  · exact e_g_word_53 hr _ _ _ _ _ _ _ _
  · refine st_ck hr _ ?_
    refine st_call (e_g_isSign hr _ _) fun q3 => ?_
    dsimp only
    refine st_if (fun _ => ?_) (fun _ => ?_)
    · exact e_g_word_53 hr _ _ _ _ _ _ _ _
    · refine st_ck hr _ ?_
      refine st_call (e_g_isSign hr _ _) fun q5 => ?_
      dsimp only
      refine st_if (fun _ => ?_) (fun _ => ?_)
      · exact e_g_word_53 hr _ _ _ _ _ _ _ _
      · refine st_fI hr _ (by decide) rfl ?_
        refine st_ck hr _ ?_
        refine st_call (e_g_fails hr _ _ _) fun q8 => ?_
        dsimp only
        exact rfl
def g_one_17 (U S N : Nat) (μ : RS) : Option (Unit × RS) :=
  some ((), μ)
theorem e_g_one_17 {μ0 : Mem} {r U S : Nat} (hr : r < μ0.1) {N : Nat} (s : RS) : f_X12_one_17 N  (EM μ0 r (pcs U S) s) = (g_one_17 U S N  s).map (em μ0 r U S) := by
  unfold f_X12_one_17 g_one_17
  exact rfl
def g_one_231 (U S N : Nat) (μ : RS) : Option (Unit × RS) :=
  some ((), μ)
theorem e_g_one_231 {μ0 : Mem} {r U S : Nat} (hr : r < μ0.1) {N : Nat} (s : RS) : f_X12_one_231 N  (EM μ0 r (pcs U S) s) = (g_one_231 U S N  s).map (em μ0 r U S) := by
  unfold f_X12_one_231 g_one_231
  exact rfl
def g_one_213 (U S N : Nat) (s0 : Int32) (μ : RS) : Option (Unit × RS) :=
  if s0 = (((-1)) : Int32) then
    (g_word U S N μ).bind fun q1 =>
    g_one_231 U S N q1.2
  else
    (g_told U S N s0 μ).bind fun q3 =>
    g_one_231 U S N q3.2
theorem e_g_one_213 {μ0 : Mem} {r U S : Nat} (hr : r < μ0.1) {N : Nat} (s0 : Int32) (s : RS) : f_X12_one_213 N (some r) s0 (EM μ0 r (pcs U S) s) = (g_one_213 U S N s0 s).map (em μ0 r U S) := by
  unfold f_X12_one_213 g_one_213
  refine st_if (fun _ => ?_) (fun _ => ?_)
  · refine st_ck hr _ ?_
    refine st_call (e_g_word hr _) fun q1 => ?_
    dsimp only
    exact e_g_one_231 hr _
  · refine st_ck hr _ ?_
    refine st_call (e_g_told hr _ _) fun q3 => ?_
    dsimp only
    exact e_g_one_231 hr _
def g_one_184 (U S N : Nat) (μ : RS) : Option (Unit × RS) :=
  if ¬ (μ.1 12) = (1 : Int32) then
    g_one_213 U S N ((-1)) μ
  else
    (g_find U S N 13 (μ.1 13) (μ.1 15) μ).bind fun q5 =>
    g_one_213 U S N q5.1 q5.2
theorem e_g_one_184 {μ0 : Mem} {r U S : Nat} (hr : r < μ0.1) {N : Nat} (s : RS) : f_X12_one_184 N (some r) (EM μ0 r (pcs U S) s) = (g_one_184 U S N  s).map (em μ0 r U S) := by
  unfold f_X12_one_184 g_one_184
  refine st_fI hr _ (by decide) rfl ?_
  refine st_if (fun _ => ?_) (fun _ => ?_)
  · exact e_g_one_213 hr _ _
  · refine st_fR hr _ (by decide) rfl ?_
    refine st_fI hr _ (by decide) rfl ?_
    refine st_fI hr _ (by decide) rfl ?_
    refine st_call (e_g_find hr _ _ _ _) fun q5 => ?_
    dsimp only
    exact e_g_one_213 hr _ _
def g_one_170 (U S N : Nat) (a1 : Int32) (a2 : Int32) (a5 : Int32) (μ : RS) : Option (Unit × RS) :=
  (g_findTold U S N a1 a2 μ).bind fun q2 =>
  (wA 200 q2.2 19 q2.1 a5).bind fun μ4 =>
  some ((), μ4)
theorem e_g_one_170 {μ0 : Mem} {r U S : Nat} (hr : r < μ0.1) {N : Nat} (a1 : Int32) (a2 : Int32) (a5 : Int32) (s : RS) : f_X12_one_170 N (some r) a1 a2 a5 (EM μ0 r (pcs U S) s) = (g_one_170 U S N a1 a2 a5 s).map (em μ0 r U S) := by
  unfold f_X12_one_170 g_one_170
  refine st_fR hr _ (by decide) rfl ?_
  refine st_ck hr _ ?_
  refine st_call (e_g_findTold hr _ _ _) fun q2 => ?_
  dsimp only
  refine st_bI hr _ (lk_19 U S) _ _ fun μ4 => ?_
  exact rfl
def g_one_137 (U S N : Nat) (a1 : Int32) (a2 : Int32) (a4 : Int32) (μ : RS) : Option (Unit × RS) :=
  (g_take U S N μ).bind fun q1 =>
  (g_asked U S N q1.2).bind fun q3 =>
  if (q3.2.1 5) ≤ 0 then
    if a4 = 0 then
      g_one_170 U S N a1 a2 q3.1 q3.2
    else
      (some (pI q3.2 21 ((q3.2.1 21) + 1))).bind fun μ7 =>
      g_one_170 U S N a1 a2 q3.1 μ7
  else
    some ((), q3.2)
theorem e_g_one_137 {μ0 : Mem} {r U S : Nat} (hr : r < μ0.1) {N : Nat} (a1 : Int32) (a2 : Int32) (a4 : Int32) (s : RS) : f_X12_one_137 N (some r) a1 a2 a4 (EM μ0 r (pcs U S) s) = (g_one_137 U S N a1 a2 a4 s).map (em μ0 r U S) := by
  unfold f_X12_one_137 g_one_137
  refine st_ck hr _ ?_
  refine st_call (e_g_take hr _) fun q1 => ?_
  dsimp only
  refine st_ck hr _ ?_
  refine st_call (e_g_asked hr _) fun q3 => ?_
  dsimp only
  refine st_fI hr _ (by decide) rfl ?_
  refine st_if (fun _ => ?_) (fun _ => ?_)
  · refine st_if (fun _ => ?_) (fun _ => ?_)
    · exact e_g_one_170 hr _ _ _ _
    · refine st_fI hr _ (by decide) rfl ?_
      refine st_pI hr _ (by decide) rfl _ ?_
      exact e_g_one_170 hr _ _ _ _
  · exact rfl
def g_one_120 (U S N : Nat) (a1 : Int32) (a2 : Int32) (s0 : Int32) (μ : RS) : Option (Unit × RS) :=
  if s0 = 0 then
    g_one_137 U S N a1 a2 s0 μ
  else
    (some (pI μ 21 ((μ.1 21) - 1))).bind fun μ2 =>
    g_one_137 U S N a1 a2 s0 μ2
theorem e_g_one_120 {μ0 : Mem} {r U S : Nat} (hr : r < μ0.1) {N : Nat} (a1 : Int32) (a2 : Int32) (s0 : Int32) (s : RS) : f_X12_one_120 N (some r) a1 a2 s0 (EM μ0 r (pcs U S) s) = (g_one_120 U S N a1 a2 s0 s).map (em μ0 r U S) := by
  unfold f_X12_one_120 g_one_120
  refine st_if (fun _ => ?_) (fun _ => ?_)
  · exact e_g_one_137 hr _ _ _ _
  · refine st_fI hr _ (by decide) rfl ?_
    refine st_pI hr _ (by decide) rfl _ ?_
    exact e_g_one_137 hr _ _ _ _
def g_one (U S N : Nat) (μ : RS) : Option (Unit × RS) :=
  if (μ.1 12) = (5 : Int32) then
    g_one_17 U S N μ
  else
    (g_isSign U S N 59 μ).bind fun q2 =>
    if q2.1 = 0 then
      (g_isSign U S N 36 q2.2).bind fun q4 =>
      if q4.1 = 0 then
        (g_isSign U S N 42 q4.2).bind fun q6 =>
        if q6.1 = 0 then
          if ¬ (q6.2.1 12) = (1 : Int32) then
            g_one_184 U S N q6.2
          else
            (g_isNext U S N 61 q6.2).bind fun q9 =>
            if q9.1 = 0 then
              g_one_184 U S N q9.2
            else
              (g_take U S N q9.2).bind fun q13 =>
              (g_tells U S N (q9.2.1 13) (q9.2.1 15) ((-1)) 0 q13.2).bind fun q16 =>
              if (q16.2.1 5) ≤ 0 then
                if (q16.2.1 21) ≤ (q13.2.1 21) then
                  g_one_120 U S N (q9.2.1 13) (q9.2.1 15) 0 q16.2
                else
                  g_one_120 U S N (q9.2.1 13) (q9.2.1 15) 1 q16.2
              else
                some ((), q16.2)
        else
          (g_take U S N q6.2).bind fun q20 =>
          (g_asked U S N q20.2).bind fun q22 =>
          (some (pI q22.2 11 q22.1)).bind fun μ24 =>
          some ((), μ24)
      else
        (pZ q4.2 28 1).bind fun μ25 =>
        some ((), μ25)
    else
      g_one_17 U S N q2.2
theorem e_g_one {μ0 : Mem} {r U S : Nat} (hr : r < μ0.1) {N : Nat} (s : RS) : f_X12_one N (some r) (EM μ0 r (pcs U S) s) = (g_one U S N  s).map (em μ0 r U S) := by
  unfold f_X12_one g_one
  refine st_fI hr _ (by decide) rfl ?_
  refine st_if (fun _ => ?_) (fun _ => ?_)
  · exact e_g_one_17 hr _
  · refine st_ck hr _ ?_
    refine st_call (e_g_isSign hr _ _) fun q2 => ?_
    dsimp only
    refine st_if (fun _ => ?_) (fun _ => ?_)
    · refine st_ck hr _ ?_
      refine st_call (e_g_isSign hr _ _) fun q4 => ?_
      dsimp only
      refine st_if (fun _ => ?_) (fun _ => ?_)
      · refine st_ck hr _ ?_
        refine st_call (e_g_isSign hr _ _) fun q6 => ?_
        dsimp only
        refine st_if (fun _ => ?_) (fun _ => ?_)
        · refine st_fI hr _ (by decide) rfl ?_
          refine st_if (fun _ => ?_) (fun _ => ?_)
          · exact e_g_one_184 hr _
          · refine st_ck hr _ ?_
            refine st_call (e_g_isNext hr _ _) fun q9 => ?_
            dsimp only
            refine st_if (fun _ => ?_) (fun _ => ?_)
            · exact e_g_one_184 hr _
            · refine st_fI hr _ (by decide) rfl ?_
              refine st_fI hr _ (by decide) rfl ?_
              refine st_ck hr _ ?_
              refine st_call (e_g_take hr _) fun q13 => ?_
              dsimp only
              refine st_fI hr _ (by decide) rfl ?_
              refine st_ck hr _ ?_
              refine st_call (e_g_tells hr _ _ _ _ _) fun q16 => ?_
              dsimp only
              refine st_fI hr _ (by decide) rfl ?_
              refine st_if (fun _ => ?_) (fun _ => ?_)
              · refine st_fI hr _ (by decide) rfl ?_
                refine st_if (fun _ => ?_) (fun _ => ?_)
                · exact e_g_one_120 hr _ _ _ _
                · exact e_g_one_120 hr _ _ _ _
              · exact rfl
        · refine st_ck hr _ ?_
          refine st_call (e_g_take hr _) fun q20 => ?_
          dsimp only
          refine st_ck hr _ ?_
          refine st_call (e_g_asked hr _) fun q22 => ?_
          dsimp only
          refine st_pI hr _ (by decide) rfl _ ?_
          exact rfl
      · refine st_pZ hr _ (by decide) rfl _ fun μ25 => ?_
        exact rfl
    · exact e_g_one_17 hr _
def g_line_113 (U S N : Nat) (μ : RS) : Option (Unit × RS) :=
  some ((), μ)
theorem e_g_line_113 {μ0 : Mem} {r U S : Nat} (hr : r < μ0.1) {N : Nat} (s : RS) : f_X12_line_113 N  (EM μ0 r (pcs U S) s) = (g_line_113 U S N  s).map (em μ0 r U S) := by
  unfold f_X12_line_113 g_line_113
  exact rfl
def g_line_91 (U S N : Nat) (μ : RS) : Option (Unit × RS) :=
  if ¬ (μ.1 5) = 0 then
    g_line_113 U S N μ
  else
    if ¬ (μ.1 28) = 0 then
      g_line_113 U S N μ
    else
      (some (pI μ 4 (μ.1 16))).bind fun μ4 =>
      g_line_113 U S N μ4
theorem e_g_line_91 {μ0 : Mem} {r U S : Nat} (hr : r < μ0.1) {N : Nat} (s : RS) : f_X12_line_91 N (some r) (EM μ0 r (pcs U S) s) = (g_line_91 U S N  s).map (em μ0 r U S) := by
  unfold f_X12_line_91 g_line_91
  refine st_fI hr _ (by decide) rfl ?_
  refine st_if (fun _ => ?_) (fun _ => ?_)
  · exact e_g_line_113 hr _
  · refine st_fI hr _ (by decide) rfl ?_
    refine st_if (fun _ => ?_) (fun _ => ?_)
    · exact e_g_line_113 hr _
    · refine st_fI hr _ (by decide) rfl ?_
      refine st_pI hr _ (by decide) rfl _ ?_
      exact e_g_line_113 hr _
def g_line_39 (U S N : Nat) (k6 : Int32 → RS → Option (Unit × RS)) (μ : RS) : Option (Unit × RS) :=
  (g_isSign U S N 59 μ).bind fun q1 =>
  if q1.1 = 0 then
    if ¬ (q1.2.1 5) = 0 then
      k6 q1.1 q1.2
    else
      if ¬ (q1.2.1 28) = 0 then
        k6 q1.1 q1.2
      else
        if (q1.2.1 12) = (5 : Int32) then
          k6 q1.1 q1.2
        else
          (g_fails U S N 2 (q1.2.1 13) q1.2).bind fun q7 =>
          k6 q1.1 q7.2
  else
    (g_take U S N q1.2).bind fun q9 =>
    k6 q1.1 q9.2
theorem e_g_line_39 {μ0 : Mem} {r U S : Nat} (hr : r < μ0.1) {N : Nat} {k6 : (Option Nat) → Int32 → Mem → Option (Unit × Mem)} {k6' : Int32 → RS → Option (Unit × RS)} (hk6 : ∀ (x1 : Int32) (s : RS), k6 (some r) x1 (EM μ0 r (pcs U S) s) = (k6' x1 s).map (em μ0 r U S)) (s : RS) : f_X12_line_39 N k6 (some r) (EM μ0 r (pcs U S) s) = (g_line_39 U S N k6'  s).map (em μ0 r U S) := by
  unfold f_X12_line_39 g_line_39
  refine st_ck hr _ ?_
  refine st_call (e_g_isSign hr _ _) fun q1 => ?_
  dsimp only
  refine st_if (fun _ => ?_) (fun _ => ?_)
  · refine st_fI hr _ (by decide) rfl ?_
    refine st_if (fun _ => ?_) (fun _ => ?_)
    · exact hk6 _ _
    · refine st_fI hr _ (by decide) rfl ?_
      refine st_if (fun _ => ?_) (fun _ => ?_)
      · exact hk6 _ _
      · refine st_fI hr _ (by decide) rfl ?_
        refine st_if (fun _ => ?_) (fun _ => ?_)
        · exact hk6 _ _
        · refine st_fI hr _ (by decide) rfl ?_
          refine st_ck hr _ ?_
          refine st_call (e_g_fails hr _ _ _) fun q7 => ?_
          dsimp only
          exact hk6 _ _
  · refine st_ck hr _ ?_
    refine st_call (e_g_take hr _) fun q9 => ?_
    dsimp only
    exact hk6 _ _
def h_line_6 (U S N : Nat) (k6 : Int32 → RS → Option (Unit × RS)) (a1 : Int32) (μ : RS) : Option (Unit × RS) :=
  if a1 = 0 then
    g_line_91 U S N μ
  else
    if ¬ (μ.1 5) = 0 then
      g_line_91 U S N μ
    else
      if ¬ (μ.1 28) = 0 then
        g_line_91 U S N μ
      else
        (g_labels U S N μ).bind fun q3 =>
        if ¬ (q3.2.1 5) = 0 then
          g_line_39 U S N k6 q3.2
        else
          (g_one U S N q3.2).bind fun q6 =>
          g_line_39 U S N k6 q6.2
theorem e_h_line_6 {μ0 : Mem} {r U S : Nat} (hr : r < μ0.1) {N : Nat} {k6 : (Option Nat) → Int32 → Mem → Option (Unit × Mem)} {k6' : Int32 → RS → Option (Unit × RS)} (hk6 : ∀ (x1 : Int32) (s : RS), k6 (some r) x1 (EM μ0 r (pcs U S) s) = (k6' x1 s).map (em μ0 r U S)) (a1 : Int32) (s : RS) : H_X12_line_6 N k6 (some r) a1 (EM μ0 r (pcs U S) s) = (h_line_6 U S N k6' a1 s).map (em μ0 r U S) := by
  unfold H_X12_line_6 h_line_6
  refine st_if (fun _ => ?_) (fun _ => ?_)
  · exact e_g_line_91 hr _
  · refine st_fI hr _ (by decide) rfl ?_
    refine st_if (fun _ => ?_) (fun _ => ?_)
    · exact e_g_line_91 hr _
    · refine st_fI hr _ (by decide) rfl ?_
      refine st_if (fun _ => ?_) (fun _ => ?_)
      · exact e_g_line_91 hr _
      · refine st_ck hr _ ?_
        refine st_call (e_g_labels hr _) fun q3 => ?_
        dsimp only
        refine st_fI hr _ (by decide) rfl ?_
        refine st_if (fun _ => ?_) (fun _ => ?_)
        · exact e_g_line_39 hr hk6 _
        · refine st_ck hr _ ?_
          refine st_call (e_g_one hr _) fun q6 => ?_
          dsimp only
          exact e_g_line_39 hr hk6 _
def l_line_6 (U S N : Nat)  : Nat → Int32 → RS → Option (Unit × RS)
  | 0 => fun _ _ => none
  | n + 1 => h_line_6 U S N (l_line_6 U S N n)
theorem e_l_line_6 {μ0 : Mem} {r U S : Nat} (hr : r < μ0.1) {N : Nat} : ∀ (n : Nat) (x1 : Int32) (s : RS), L_X12_line_6 N n (some r) x1 (EM μ0 r (pcs U S) s) = (l_line_6 U S N n x1 s).map (em μ0 r U S) := by
  intro n
  induction n with
  | zero => intros; exact rfl
  | succ n ih => intros; exact e_h_line_6 hr ih _ _
def g_line (U S N : Nat) (μ : RS) : Option (Unit × RS) :=
  (g_look U S N μ).bind fun q1 =>
  l_line_6 U S N N 1 q1.2
theorem e_g_line {μ0 : Mem} {r U S : Nat} (hr : r < μ0.1) {N : Nat} (s : RS) : f_X12_line N (some r) (EM μ0 r (pcs U S) s) = (g_line U S N  s).map (em μ0 r U S) := by
  unfold f_X12_line g_line
  refine st_ck hr _ ?_
  refine st_call (e_g_look hr _) fun q1 => ?_
  dsimp only
  exact e_l_line_6 hr N _ _
def g_pass_70 (U S N : Nat) (μ : RS) : Option (Unit × RS) :=
  some ((), μ)
theorem e_g_pass_70 {μ0 : Mem} {r U S : Nat} (hr : r < μ0.1) {N : Nat} (s : RS) : f_X12_pass_70 N  (EM μ0 r (pcs U S) s) = (g_pass_70 U S N  s).map (em μ0 r U S) := by
  unfold f_X12_pass_70 g_pass_70
  exact rfl
def h_pass_28 (U S N : Nat) (k28 : RS → Option (Unit × RS)) (μ : RS) : Option (Unit × RS) :=
  if ¬ (μ.1 5) = 0 then
    g_pass_70 U S N μ
  else
    if ¬ (μ.1 28) = 0 then
      g_pass_70 U S N μ
    else
      if (μ.1 3) < (μ.1 4) then
        g_pass_70 U S N μ
      else
        (g_line U S N μ).bind fun q5 =>
        (some (pI q5.2 4 ((q5.2.1 4) + 1))).bind fun μ8 =>
        k28 μ8
theorem e_h_pass_28 {μ0 : Mem} {r U S : Nat} (hr : r < μ0.1) {N : Nat} {k28 : (Option Nat) → Mem → Option (Unit × Mem)} {k28' : RS → Option (Unit × RS)} (hk28 : ∀  (s : RS), k28 (some r) (EM μ0 r (pcs U S) s) = (k28'  s).map (em μ0 r U S)) (s : RS) : H_X12_pass_28 N k28 (some r) (EM μ0 r (pcs U S) s) = (h_pass_28 U S N k28'  s).map (em μ0 r U S) := by
  unfold H_X12_pass_28 h_pass_28
  refine st_fI hr _ (by decide) rfl ?_
  refine st_if (fun _ => ?_) (fun _ => ?_)
  · exact e_g_pass_70 hr _
  · refine st_fI hr _ (by decide) rfl ?_
    refine st_if (fun _ => ?_) (fun _ => ?_)
    · exact e_g_pass_70 hr _
    · refine st_fI hr _ (by decide) rfl ?_
      refine st_fI hr _ (by decide) rfl ?_
      refine st_if (fun _ => ?_) (fun _ => ?_)
      · exact e_g_pass_70 hr _
      · refine st_ck hr _ ?_
        refine st_call (e_g_line hr _) fun q5 => ?_
        dsimp only
        refine st_fI hr _ (by decide) rfl ?_
        refine st_pI hr _ (by decide) rfl _ ?_
        exact hk28 _
def l_pass_28 (U S N : Nat)  : Nat → RS → Option (Unit × RS)
  | 0 => fun _ => none
  | n + 1 => h_pass_28 U S N (l_pass_28 U S N n)
theorem e_l_pass_28 {μ0 : Mem} {r U S : Nat} (hr : r < μ0.1) {N : Nat} : ∀ (n : Nat)  (s : RS), L_X12_pass_28 N n (some r) (EM μ0 r (pcs U S) s) = (l_pass_28 U S N n  s).map (em μ0 r U S) := by
  intro n
  induction n with
  | zero => intros; exact rfl
  | succ n ih => intros; exact e_h_pass_28 hr ih  _
def g_pass (U S N : Nat) (a1 : Int32) (μ : RS) : Option (Unit × RS) :=
  (pZ μ 9 a1).bind fun μ1 =>
  (some (pI μ1 10 8)).bind fun μ2 =>
  (some (pI μ2 11 128)).bind fun μ3 =>
  (pZ μ3 28 0).bind fun μ4 =>
  (some (pI μ4 4 0)).bind fun μ5 =>
  l_pass_28 U S N N μ5
theorem e_g_pass {μ0 : Mem} {r U S : Nat} (hr : r < μ0.1) {N : Nat} (a1 : Int32) (s : RS) : f_X12_pass N (some r) a1 (EM μ0 r (pcs U S) s) = (g_pass U S N a1 s).map (em μ0 r U S) := by
  unfold f_X12_pass g_pass
  refine st_pZ hr _ (by decide) rfl _ fun μ1 => ?_
  refine st_pI hr _ (by decide) rfl _ ?_
  refine st_pI hr _ (by decide) rfl _ ?_
  refine st_pZ hr _ (by decide) rfl _ fun μ4 => ?_
  refine st_pI hr _ (by decide) rfl _ ?_
  exact e_l_pass_28 hr N _
def g_assemble_223 (U S N : Nat) (k166 : Int32 → Int32 → RS → Option (Int32 × RS)) (a2 : Int32) (s0 : Int32) (s1 : Int32) (μ : RS) : Option (Int32 × RS) :=
  k166 (s0 + s1) (a2 + 1) μ
theorem e_g_assemble_223 {μ0 : Mem} {r U S : Nat} (hr : r < μ0.1) {N : Nat} {k166 : (Option Nat) → Int32 → Int32 → Mem → Option (Int32 × Mem)} {k166' : Int32 → Int32 → RS → Option (Int32 × RS)} (hk166 : ∀ (x1 : Int32) (x2 : Int32) (s : RS), k166 (some r) x1 x2 (EM μ0 r (pcs U S) s) = (k166' x1 x2 s).map (em μ0 r U S)) (a2 : Int32) (s0 : Int32) (s1 : Int32) (s : RS) : f_X12_assemble_223 N k166 (some r) a2 s0 s1 (EM μ0 r (pcs U S) s) = (g_assemble_223 U S N k166' a2 s0 s1 s).map (em μ0 r U S) := by
  unfold f_X12_assemble_223 g_assemble_223
  exact hk166 _ _ _
def g_assemble_206 (U S N : Nat) (k166 : Int32 → Int32 → RS → Option (Int32 × RS)) (a1 : Int32) (a2 : Int32) (s1 : Int32) (s2 : Int32) (μ : RS) : Option (Int32 × RS) :=
  (wA 4096 μ 25 s1 s2).bind fun μ1 =>
  (rA 4096 μ1 25 a2).bind fun v3 =>
  if ¬ v3 = (((-1)) : Int32) then
    g_assemble_223 U S N k166 a2 a1 1 μ1
  else
    g_assemble_223 U S N k166 a2 a1 0 μ1
theorem e_g_assemble_206 {μ0 : Mem} {r U S : Nat} (hr : r < μ0.1) {N : Nat} {k166 : (Option Nat) → Int32 → Int32 → Mem → Option (Int32 × Mem)} {k166' : Int32 → Int32 → RS → Option (Int32 × RS)} (hk166 : ∀ (x1 : Int32) (x2 : Int32) (s : RS), k166 (some r) x1 x2 (EM μ0 r (pcs U S) s) = (k166' x1 x2 s).map (em μ0 r U S)) (a1 : Int32) (a2 : Int32) (s1 : Int32) (s2 : Int32) (s : RS) : f_X12_assemble_206 N k166 (some r) a1 a2 (fnd (pcs U S) μ0.1 25) s1 s2 (EM μ0 r (pcs U S) s) = (g_assemble_206 U S N k166' a1 a2 s1 s2 s).map (em μ0 r U S) := by
  unfold f_X12_assemble_206 g_assemble_206
  refine st_bI hr _ (lk_25 U S) _ _ fun μ1 => ?_
  refine st_fR hr _ (by decide) rfl ?_
  refine st_aI hr _ (lk_25 U S) _ fun v3 => ?_
  refine st_if (fun _ => ?_) (fun _ => ?_)
  · exact e_g_assemble_223 hr hk166 _ _ _ _
  · exact e_g_assemble_223 hr hk166 _ _ _ _
def g_assemble_196 (U S N : Nat) (k166 : Int32 → Int32 → RS → Option (Int32 × RS)) (a1 : Int32) (a2 : Int32) (s1 : Int32) (μ : RS) : Option (Int32 × RS) :=
  (rA 4096 μ 22 a2).bind fun v2 =>
  g_assemble_206 U S N k166 a1 a2 s1 v2 μ
theorem e_g_assemble_196 {μ0 : Mem} {r U S : Nat} (hr : r < μ0.1) {N : Nat} {k166 : (Option Nat) → Int32 → Int32 → Mem → Option (Int32 × Mem)} {k166' : Int32 → Int32 → RS → Option (Int32 × RS)} (hk166 : ∀ (x1 : Int32) (x2 : Int32) (s : RS), k166 (some r) x1 x2 (EM μ0 r (pcs U S) s) = (k166' x1 x2 s).map (em μ0 r U S)) (a1 : Int32) (a2 : Int32) (s1 : Int32) (s : RS) : f_X12_assemble_196 N k166 (some r) a1 a2 (fnd (pcs U S) μ0.1 25) s1 (EM μ0 r (pcs U S) s) = (g_assemble_196 U S N k166' a1 a2 s1 s).map (em μ0 r U S) := by
  unfold f_X12_assemble_196 g_assemble_196
  refine st_fR hr _ (by decide) rfl ?_
  refine st_aI hr _ (lk_22 U S) _ fun v2 => ?_
  exact e_g_assemble_206 hr hk166 _ _ _ _ _
def h_assemble_166 (U S N : Nat) (k166 : Int32 → Int32 → RS → Option (Int32 × RS)) (a1 : Int32) (a2 : Int32) (μ : RS) : Option (Int32 × RS) :=
  if (4096 : Int32) ≤ a2 then
    some (a1, μ)
  else
    (rA 4096 μ 23 a2).bind fun v3 =>
    if ¬ v3 = 0 then
      g_assemble_196 U S N k166 a1 a2 a2 μ
    else
      (rA 4096 μ 24 a2).bind fun v5 =>
      if v5 = 0 then
        g_assemble_206 U S N k166 a1 a2 a2 ((-1)) μ
      else
        g_assemble_196 U S N k166 a1 a2 a2 μ
theorem e_h_assemble_166 {μ0 : Mem} {r U S : Nat} (hr : r < μ0.1) {N : Nat} {k166 : (Option Nat) → Int32 → Int32 → Mem → Option (Int32 × Mem)} {k166' : Int32 → Int32 → RS → Option (Int32 × RS)} (hk166 : ∀ (x1 : Int32) (x2 : Int32) (s : RS), k166 (some r) x1 x2 (EM μ0 r (pcs U S) s) = (k166' x1 x2 s).map (em μ0 r U S)) (a1 : Int32) (a2 : Int32) (s : RS) : H_X12_assemble_166 N k166 (some r) a1 a2 (EM μ0 r (pcs U S) s) = (h_assemble_166 U S N k166' a1 a2 s).map (em μ0 r U S) := by
  unfold H_X12_assemble_166 h_assemble_166
  refine st_if (fun _ => ?_) (fun _ => ?_)
  · exact rfl
  · refine st_fR hr _ (by decide) rfl ?_
    refine st_fR hr _ (by decide) rfl ?_
    refine st_aI hr _ (lk_23 U S) _ fun v3 => ?_
    refine st_if (fun _ => ?_) (fun _ => ?_)
    · exact e_g_assemble_196 hr hk166 _ _ _ _
    · refine st_fR hr _ (by decide) rfl ?_
      refine st_aI hr _ (lk_24 U S) _ fun v5 => ?_
      refine st_if (fun _ => ?_) (fun _ => ?_)
      · exact e_g_assemble_206 hr hk166 _ _ _ _ _
      · exact e_g_assemble_196 hr hk166 _ _ _ _
def l_assemble_166 (U S N : Nat)  : Nat → Int32 → Int32 → RS → Option (Int32 × RS)
  | 0 => fun _ _ _ => none
  | n + 1 => h_assemble_166 U S N (l_assemble_166 U S N n)
theorem e_l_assemble_166 {μ0 : Mem} {r U S : Nat} (hr : r < μ0.1) {N : Nat} : ∀ (n : Nat) (x1 : Int32) (x2 : Int32) (s : RS), L_X12_assemble_166 N n (some r) x1 x2 (EM μ0 r (pcs U S) s) = (l_assemble_166 U S N n x1 x2 s).map (em μ0 r U S) := by
  intro n
  induction n with
  | zero => intros; exact rfl
  | succ n ih => intros; exact e_h_assemble_166 hr ih _ _ _
def g_assemble_137 (U S N : Nat) (μ : RS) : Option (Int32 × RS) :=
  (some (pI μ 7 (μ.1 5))).bind fun μ2 =>
  (some (pI μ2 8 (μ2.1 6))).bind fun μ4 =>
  if (μ4.1 5) ≤ 0 then
    l_assemble_166 U S N N 0 0 μ4
  else
    some ((-1), μ4)
theorem e_g_assemble_137 {μ0 : Mem} {r U S : Nat} (hr : r < μ0.1) {N : Nat} (s : RS) : f_X12_assemble_137 N (some r) (EM μ0 r (pcs U S) s) = (g_assemble_137 U S N  s).map (em μ0 r U S) := by
  unfold f_X12_assemble_137 g_assemble_137
  refine st_fI hr _ (by decide) rfl ?_
  refine st_pI hr _ (by decide) rfl _ ?_
  refine st_fI hr _ (by decide) rfl ?_
  refine st_pI hr _ (by decide) rfl _ ?_
  refine st_fI hr _ (by decide) rfl ?_
  refine st_if (fun _ => ?_) (fun _ => ?_)
  · exact e_l_assemble_166 hr N _ _ _
  · exact rfl
def h_assemble_94 (U S N : Nat) (k94 : Int32 → RS → Option (Int32 × RS)) (a1 : Int32) (μ : RS) : Option (Int32 × RS) :=
  if (32 : Int32) ≤ a1 then
    (g_pass U S N 0 μ).bind fun q1 =>
    if ¬ (q1.2.1 5) = 0 then
      g_assemble_137 U S N q1.2
    else
      (g_pass U S N 1 q1.2).bind fun q4 =>
      g_assemble_137 U S N q4.2
  else
    (wA 32 μ 26 a1 ((128 * a1) + 127)).bind fun μ7 =>
    k94 (a1 + 1) μ7
theorem e_h_assemble_94 {μ0 : Mem} {r U S : Nat} (hr : r < μ0.1) {N : Nat} {k94 : (Option Nat) → Int32 → Mem → Option (Int32 × Mem)} {k94' : Int32 → RS → Option (Int32 × RS)} (hk94 : ∀ (x1 : Int32) (s : RS), k94 (some r) x1 (EM μ0 r (pcs U S) s) = (k94' x1 s).map (em μ0 r U S)) (a1 : Int32) (s : RS) : H_X12_assemble_94 N k94 (some r) a1 (EM μ0 r (pcs U S) s) = (h_assemble_94 U S N k94' a1 s).map (em μ0 r U S) := by
  unfold H_X12_assemble_94 h_assemble_94
  refine st_if (fun _ => ?_) (fun _ => ?_)
  · refine st_ck hr _ ?_
    refine st_call (e_g_pass hr _ _) fun q1 => ?_
    dsimp only
    refine st_fI hr _ (by decide) rfl ?_
    refine st_if (fun _ => ?_) (fun _ => ?_)
    · exact e_g_assemble_137 hr _
    · refine st_ck hr _ ?_
      refine st_call (e_g_pass hr _ _) fun q4 => ?_
      dsimp only
      exact e_g_assemble_137 hr _
  · refine st_fR hr _ (by decide) rfl ?_
    refine st_bI hr _ (lk_26 U S) _ _ fun μ7 => ?_
    exact hk94 _ _
def l_assemble_94 (U S N : Nat)  : Nat → Int32 → RS → Option (Int32 × RS)
  | 0 => fun _ _ => none
  | n + 1 => h_assemble_94 U S N (l_assemble_94 U S N n)
theorem e_l_assemble_94 {μ0 : Mem} {r U S : Nat} (hr : r < μ0.1) {N : Nat} : ∀ (n : Nat) (x1 : Int32) (s : RS), L_X12_assemble_94 N n (some r) x1 (EM μ0 r (pcs U S) s) = (l_assemble_94 U S N n x1 s).map (em μ0 r U S) := by
  intro n
  induction n with
  | zero => intros; exact rfl
  | succ n ih => intros; exact e_h_assemble_94 hr ih _ _
def h_assemble_58 (U S N : Nat) (k58 : Int32 → RS → Option (Int32 × RS)) (a1 : Int32) (μ : RS) : Option (Int32 × RS) :=
  if (4096 : Int32) ≤ a1 then
    l_assemble_94 U S N N 0 μ
  else
    (wZ 4096 μ 23 a1 0).bind fun μ2 =>
    (wZ 4096 μ2 24 a1 0).bind fun μ4 =>
    (wA 4096 μ4 22 a1 0).bind fun μ6 =>
    k58 (a1 + 1) μ6
theorem e_h_assemble_58 {μ0 : Mem} {r U S : Nat} (hr : r < μ0.1) {N : Nat} {k58 : (Option Nat) → Int32 → Mem → Option (Int32 × Mem)} {k58' : Int32 → RS → Option (Int32 × RS)} (hk58 : ∀ (x1 : Int32) (s : RS), k58 (some r) x1 (EM μ0 r (pcs U S) s) = (k58' x1 s).map (em μ0 r U S)) (a1 : Int32) (s : RS) : H_X12_assemble_58 N k58 (some r) a1 (EM μ0 r (pcs U S) s) = (h_assemble_58 U S N k58' a1 s).map (em μ0 r U S) := by
  unfold H_X12_assemble_58 h_assemble_58
  refine st_if (fun _ => ?_) (fun _ => ?_)
  · exact e_l_assemble_94 hr N _ _
  · refine st_fR hr _ (by decide) rfl ?_
    refine st_bZ hr _ (lk_23 U S) _ _ fun μ2 => ?_
    refine st_fR hr _ (by decide) rfl ?_
    refine st_bZ hr _ (lk_24 U S) _ _ fun μ4 => ?_
    refine st_fR hr _ (by decide) rfl ?_
    refine st_bI hr _ (lk_22 U S) _ _ fun μ6 => ?_
    exact hk58 _ _
def l_assemble_58 (U S N : Nat)  : Nat → Int32 → RS → Option (Int32 × RS)
  | 0 => fun _ _ => none
  | n + 1 => h_assemble_58 U S N (l_assemble_58 U S N n)
theorem e_l_assemble_58 {μ0 : Mem} {r U S : Nat} (hr : r < μ0.1) {N : Nat} : ∀ (n : Nat) (x1 : Int32) (s : RS), L_X12_assemble_58 N n (some r) x1 (EM μ0 r (pcs U S) s) = (l_assemble_58 U S N n x1 s).map (em μ0 r U S) := by
  intro n
  induction n with
  | zero => intros; exact rfl
  | succ n ih => intros; exact e_h_assemble_58 hr ih _ _
def h_assemble_15 (U S N : Nat) (k15 : Int32 → RS → Option (Int32 × RS)) (a1 : Int32) (μ : RS) : Option (Int32 × RS) :=
  if (μ.1 3) ≤ a1 then
    (some (pI μ 5 0)).bind fun μ2 =>
    (some (pI μ2 6 ((-1)))).bind fun μ3 =>
    (some (pI μ3 21 0)).bind fun μ4 =>
    l_assemble_58 U S N N 0 μ4
  else
    (rA 2000 μ 0 a1).bind fun v7 =>
    (wA 2000 μ 2 a1 v7).bind fun μ8 =>
    k15 (a1 + 1) μ8
theorem e_h_assemble_15 {μ0 : Mem} {r U S : Nat} (hr : r < μ0.1) {N : Nat} {k15 : (Option Nat) → Int32 → Mem → Option (Int32 × Mem)} {k15' : Int32 → RS → Option (Int32 × RS)} (hk15 : ∀ (x1 : Int32) (s : RS), k15 (some r) x1 (EM μ0 r (pcs U S) s) = (k15' x1 s).map (em μ0 r U S)) (a1 : Int32) (s : RS) : H_X12_assemble_15 N k15 (some r) a1 (EM μ0 r (pcs U S) s) = (h_assemble_15 U S N k15' a1 s).map (em μ0 r U S) := by
  unfold H_X12_assemble_15 h_assemble_15
  refine st_fI hr _ (by decide) rfl ?_
  refine st_if (fun _ => ?_) (fun _ => ?_)
  · refine st_pI hr _ (by decide) rfl _ ?_
    refine st_pI hr _ (by decide) rfl _ ?_
    refine st_pI hr _ (by decide) rfl _ ?_
    exact e_l_assemble_58 hr N _ _
  · refine st_fR hr _ (by decide) rfl ?_
    refine st_fR hr _ (by decide) rfl ?_
    refine st_aI hr _ (lk_0 U S) _ fun v7 => ?_
    refine st_bI hr _ (lk_2 U S) _ _ fun μ8 => ?_
    exact hk15 _ _
def l_assemble_15 (U S N : Nat)  : Nat → Int32 → RS → Option (Int32 × RS)
  | 0 => fun _ _ => none
  | n + 1 => h_assemble_15 U S N (l_assemble_15 U S N n)
theorem e_l_assemble_15 {μ0 : Mem} {r U S : Nat} (hr : r < μ0.1) {N : Nat} : ∀ (n : Nat) (x1 : Int32) (s : RS), L_X12_assemble_15 N n (some r) x1 (EM μ0 r (pcs U S) s) = (l_assemble_15 U S N n x1 s).map (em μ0 r U S) := by
  intro n
  induction n with
  | zero => intros; exact rfl
  | succ n ih => intros; exact e_h_assemble_15 hr ih _ _
def g_assemble (U S N : Nat) (μ : RS) : Option (Int32 × RS) :=
  (some (pI μ 3 (μ.1 1))).bind fun μ2 =>
  (some (pI μ2 1 0)).bind fun μ3 =>
  l_assemble_15 U S N N 0 μ3
theorem e_g_assemble {μ0 : Mem} {r U S : Nat} (hr : r < μ0.1) {N : Nat} (s : RS) : f_X12_assemble N (some r) (EM μ0 r (pcs U S) s) = (g_assemble U S N  s).map (em μ0 r U S) := by
  unfold f_X12_assemble g_assemble
  refine st_fI hr _ (by decide) rfl ?_
  refine st_pI hr _ (by decide) rfl _ ?_
  refine st_pI hr _ (by decide) rfl _ ?_
  exact e_l_assemble_15 hr N _ _
def g_fault_24 (U S N : Nat) (s0 : Int32) (μ : RS) : Option (Int32 × RS) :=
  some (s0, μ)
theorem e_g_fault_24 {μ0 : Mem} {r U S : Nat} (hr : r < μ0.1) {N : Nat} (s0 : Int32) (s : RS) : f_X12_fault_24 N s0 (EM μ0 r (pcs U S) s) = (g_fault_24 U S N s0 s).map (em μ0 r U S) := by
  unfold f_X12_fault_24 g_fault_24
  exact rfl
def g_fault (U S N : Nat) (a1 : Int32) (μ : RS) : Option (Int32 × RS) :=
  if ¬ a1 = 0 then
    if ¬ a1 = (1 : Int32) then
      g_fault_24 U S N ((-1)) μ
    else
      g_fault_24 U S N (μ.1 8) μ
  else
    g_fault_24 U S N (μ.1 7) μ
theorem e_g_fault {μ0 : Mem} {r U S : Nat} (hr : r < μ0.1) {N : Nat} (a1 : Int32) (s : RS) : f_X12_fault N (some r) a1 (EM μ0 r (pcs U S) s) = (g_fault U S N a1 s).map (em μ0 r U S) := by
  unfold f_X12_fault g_fault
  refine st_if (fun _ => ?_) (fun _ => ?_)
  · refine st_if (fun _ => ?_) (fun _ => ?_)
    · exact e_g_fault_24 hr _ _
    · refine st_fI hr _ (by decide) rfl ?_
      exact e_g_fault_24 hr _ _
  · refine st_fI hr _ (by decide) rfl ?_
    exact e_g_fault_24 hr _ _
def g_made_21 (U S N : Nat) (s0 : Int32) (μ : RS) : Option (Int32 × RS) :=
  some (s0, μ)
theorem e_g_made_21 {μ0 : Mem} {r U S : Nat} (hr : r < μ0.1) {N : Nat} (s0 : Int32) (s : RS) : f_X12_made_21 N s0 (EM μ0 r (pcs U S) s) = (g_made_21 U S N s0 s).map (em μ0 r U S) := by
  unfold f_X12_made_21 g_made_21
  exact rfl
def g_made (U S N : Nat) (a1 : Int32) (μ : RS) : Option (Int32 × RS) :=
  (g_in U S N a1 0 4095 μ).bind fun q1 =>
  if q1.1 = 0 then
    g_made_21 U S N ((-1)) q1.2
  else
    (rA 4096 q1.2 25 a1).bind fun v3 =>
    g_made_21 U S N v3 q1.2
theorem e_g_made {μ0 : Mem} {r U S : Nat} (hr : r < μ0.1) {N : Nat} (a1 : Int32) (s : RS) : f_X12_made N (some r) a1 (EM μ0 r (pcs U S) s) = (g_made U S N a1 s).map (em μ0 r U S) := by
  unfold f_X12_made g_made
  refine st_call (e_g_in hr _ _ _ _) fun q1 => ?_
  dsimp only
  refine st_if (fun _ => ?_) (fun _ => ?_)
  · exact e_g_made_21 hr _ _
  · refine st_fR hr _ (by decide) rfl ?_
    refine st_aI hr _ (lk_25 U S) _ fun v3 => ?_
    exact e_g_made_21 hr _ _
def g_isUser (U S N : Nat) (a1 : Int32) (μ : RS) : Option (Int32 × RS) :=
  (g_in U S N a1 0 ((μ.1 31) - 1) μ).bind fun q2 =>
  rZ q2.1 q2.2
theorem e_g_isUser {μ0 : Mem} {r U S : Nat} (hr : r < μ0.1) {N : Nat} (a1 : Int32) (s : RS) : f_X12_isUser N (some r) a1 (EM μ0 r (pcs U S) s) = (g_isUser U S N a1 s).map (em μ0 r U S) := by
  unfold f_X12_isUser g_isUser
  refine st_fI hr _ (by decide) rfl ?_
  refine st_call (e_g_in hr _ _ _ _) fun q2 => ?_
  dsimp only
  exact st_rZ _ _
def g_rests_44 (U S N : Nat) (s0 : Int32) (μ : RS) : Option (Int32 × RS) :=
  rZ s0 μ
theorem e_g_rests_44 {μ0 : Mem} {r U S : Nat} (hr : r < μ0.1) {N : Nat} (s0 : Int32) (s : RS) : f_X12_rests_44 N s0 (EM μ0 r (pcs U S) s) = (g_rests_44 U S N s0 s).map (em μ0 r U S) := by
  unfold f_X12_rests_44 g_rests_44
  exact st_rZ _ _
def g_rests_43 (U S N : Nat) (μ : RS) : Option (Int32 × RS) :=
  g_rests_44 U S N 0 μ
theorem e_g_rests_43 {μ0 : Mem} {r U S : Nat} (hr : r < μ0.1) {N : Nat} (s : RS) : f_X12_rests_43 N  (EM μ0 r (pcs U S) s) = (g_rests_43 U S N  s).map (em μ0 r U S) := by
  unfold f_X12_rests_43 g_rests_43
  exact e_g_rests_44 hr _ _
def g_rests_39 (U S N : Nat) (μ : RS) : Option (Int32 × RS) :=
  g_rests_44 U S N 1 μ
theorem e_g_rests_39 {μ0 : Mem} {r U S : Nat} (hr : r < μ0.1) {N : Nat} (s : RS) : f_X12_rests_39 N  (EM μ0 r (pcs U S) s) = (g_rests_39 U S N  s).map (em μ0 r U S) := by
  unfold f_X12_rests_39 g_rests_39
  exact e_g_rests_44 hr _ _
def g_rests (U S N : Nat) (a1 : Int32) (μ : RS) : Option (Int32 × RS) :=
  (g_isUser U S N a1 μ).bind fun q1 =>
  if q1.1 = 0 then
    g_rests_43 U S N q1.2
  else
    (rA U q1.2 42 a1).bind fun v4 =>
    if v4 = 0 then
      g_rests_39 U S N q1.2
    else
      (rA U q1.2 42 a1).bind fun v6 =>
      if v6 = (6 : Int32) then
        g_rests_39 U S N q1.2
      else
        (rA U q1.2 42 a1).bind fun v8 =>
        if ¬ v8 = (7 : Int32) then
          g_rests_43 U S N q1.2
        else
          g_rests_39 U S N q1.2
theorem e_g_rests {μ0 : Mem} {r U S : Nat} (hr : r < μ0.1) {N : Nat} (a1 : Int32) (s : RS) : f_X12_rests N (some r) a1 (EM μ0 r (pcs U S) s) = (g_rests U S N a1 s).map (em μ0 r U S) := by
  unfold f_X12_rests g_rests
  refine st_ck hr _ ?_
  refine st_call (e_g_isUser hr _ _) fun q1 => ?_
  dsimp only
  refine st_if (fun _ => ?_) (fun _ => ?_)
  · exact e_g_rests_43 hr _
  · refine st_fR hr _ (by decide) rfl ?_
    refine st_aI hr _ (lk_42 U S) _ fun v4 => ?_
    refine st_if (fun _ => ?_) (fun _ => ?_)
    · exact e_g_rests_39 hr _
    · refine st_fR hr _ (by decide) rfl ?_
      refine st_aI hr _ (lk_42 U S) _ fun v6 => ?_
      refine st_if (fun _ => ?_) (fun _ => ?_)
      · exact e_g_rests_39 hr _
      · refine st_fR hr _ (by decide) rfl ?_
        refine st_aI hr _ (lk_42 U S) _ fun v8 => ?_
        refine st_if (fun _ => ?_) (fun _ => ?_)
        · exact e_g_rests_43 hr _
        · exact e_g_rests_39 hr _
def g_isMoved_20 (U S N : Nat) (s0 : Int32) (μ : RS) : Option (Int32 × RS) :=
  rZ s0 μ
theorem e_g_isMoved_20 {μ0 : Mem} {r U S : Nat} (hr : r < μ0.1) {N : Nat} (s0 : Int32) (s : RS) : f_X12_isMoved_20 N s0 (EM μ0 r (pcs U S) s) = (g_isMoved_20 U S N s0 s).map (em μ0 r U S) := by
  unfold f_X12_isMoved_20 g_isMoved_20
  exact st_rZ _ _
def g_isMoved_19 (U S N : Nat) (μ : RS) : Option (Int32 × RS) :=
  g_isMoved_20 U S N 0 μ
theorem e_g_isMoved_19 {μ0 : Mem} {r U S : Nat} (hr : r < μ0.1) {N : Nat} (s : RS) : f_X12_isMoved_19 N  (EM μ0 r (pcs U S) s) = (g_isMoved_19 U S N  s).map (em μ0 r U S) := by
  unfold f_X12_isMoved_19 g_isMoved_19
  exact e_g_isMoved_20 hr _ _
def g_isMoved (U S N : Nat) (a1 : Int32) (μ : RS) : Option (Int32 × RS) :=
  if (μ.1 67) ≤ 0 then
    g_isMoved_19 U S N μ
  else
    if ¬ (μ.1 68) = a1 then
      g_isMoved_19 U S N μ
    else
      g_isMoved_20 U S N 1 μ
theorem e_g_isMoved {μ0 : Mem} {r U S : Nat} (hr : r < μ0.1) {N : Nat} (a1 : Int32) (s : RS) : f_X12_isMoved N (some r) a1 (EM μ0 r (pcs U S) s) = (g_isMoved U S N a1 s).map (em μ0 r U S) := by
  unfold f_X12_isMoved g_isMoved
  refine st_fI hr _ (by decide) rfl ?_
  refine st_if (fun _ => ?_) (fun _ => ?_)
  · exact e_g_isMoved_19 hr _
  · refine st_fI hr _ (by decide) rfl ?_
    refine st_if (fun _ => ?_) (fun _ => ?_)
    · exact e_g_isMoved_19 hr _
    · exact e_g_isMoved_20 hr _ _
def g_nobodys (U S N : Nat) (a1 : Int32) (μ : RS) : Option (Unit × RS) :=
  (rA S μ 38 a1).bind fun v3 =>
  (wA U μ 41 v3 ((-1))).bind fun μ4 =>
  (wA S μ4 38 a1 ((-1))).bind fun μ6 =>
  (wZ S μ6 39 a1 0).bind fun μ8 =>
  (wZ S μ8 40 a1 0).bind fun μ10 =>
  some ((), μ10)
theorem e_g_nobodys {μ0 : Mem} {r U S : Nat} (hr : r < μ0.1) {N : Nat} (a1 : Int32) (s : RS) : f_X12_nobodys N (some r) a1 (EM μ0 r (pcs U S) s) = (g_nobodys U S N a1 s).map (em μ0 r U S) := by
  unfold f_X12_nobodys g_nobodys
  refine st_fR hr _ (by decide) rfl ?_
  refine st_fR hr _ (by decide) rfl ?_
  refine st_aI hr _ (lk_38 U S) _ fun v3 => ?_
  refine st_bI hr _ (lk_41 U S) _ _ fun μ4 => ?_
  refine st_fR hr _ (by decide) rfl ?_
  refine st_bI hr _ (lk_38 U S) _ _ fun μ6 => ?_
  refine st_fR hr _ (by decide) rfl ?_
  refine st_bZ hr _ (lk_39 U S) _ _ fun μ8 => ?_
  refine st_fR hr _ (by decide) rfl ?_
  refine st_bZ hr _ (lk_40 U S) _ _ fun μ10 => ?_
  exact rfl
def g_mount_16 (U S N : Nat) (μ : RS) : Option (Int32 × RS) :=
  rZ 0 μ
theorem e_g_mount_16 {μ0 : Mem} {r U S : Nat} (hr : r < μ0.1) {N : Nat} (s : RS) : f_X12_mount_16 N  (EM μ0 r (pcs U S) s) = (g_mount_16 U S N  s).map (em μ0 r U S) := by
  unfold f_X12_mount_16 g_mount_16
  exact st_rZ _ _
def g_mount_74 (U S N : Nat) (k40 : Int32 → Int32 → RS → Option (Int32 × RS)) (a1 : Int32) (a2 : Int32) (s0 : Nat) (s1 : Int32) (s2 : Int32) (μ : RS) : Option (Int32 × RS) :=
  (wG 4096 μ 36 s0 s1 s2).bind fun μ1 =>
  k40 a1 (a2 + 1) μ1
theorem e_g_mount_74 {μ0 : Mem} {r U S : Nat} (hr : r < μ0.1) {N : Nat} {k40 : (Option Nat) → Int32 → Int32 → Mem → Option (Int32 × Mem)} {k40' : Int32 → Int32 → RS → Option (Int32 × RS)} (hk40 : ∀ (x1 : Int32) (x2 : Int32) (s : RS), k40 (some r) x1 x2 (EM μ0 r (pcs U S) s) = (k40' x1 x2 s).map (em μ0 r U S)) (a1 : Int32) (a2 : Int32) (s0 : Nat) (s1 : Int32) (s2 : Int32) (hs0 : s0 < U) (s : RS) : f_X12_mount_74 N k40 (some r) a1 a2 (rloc (pcs U S) μ0.1 36 s0) s1 s2 (EM μ0 r (pcs U S) s) = (g_mount_74 U S N k40' a1 a2 s0 s1 s2 s).map (em μ0 r U S) := by
  unfold f_X12_mount_74 g_mount_74
  refine st_hI hr _ (lk_36 U S) hs0 _ _ fun μ1 => ?_
  exact hk40 _ _ _
def h_mount_40 (U S N : Nat) (k40 : Int32 → Int32 → RS → Option (Int32 × RS)) (a1 : Int32) (a2 : Int32) (μ : RS) : Option (Int32 × RS) :=
  if (4096 : Int32) ≤ a2 then
    (wA U μ 43 a1 0).bind fun μ2 =>
    (wA U μ2 44 a1 0).bind fun μ4 =>
    (wA U μ4 46 a1 0).bind fun μ6 =>
    (wA U μ6 45 a1 128).bind fun μ8 =>
    (wA U μ8 42 a1 6).bind fun μ10 =>
    rZ 1 μ10
  else
    (rQ U a1).bind fun v12 =>
    (rA 4096 μ 25 a2).bind fun v14 =>
    if ¬ v14 = (((-1)) : Int32) then
      (rA 4096 μ 25 a2).bind fun v16 =>
      g_mount_74 U S N k40 a1 a2 v12 a2 v16 μ
    else
      g_mount_74 U S N k40 a1 a2 v12 a2 0 μ
theorem e_h_mount_40 {μ0 : Mem} {r U S : Nat} (hr : r < μ0.1) {N : Nat} {k40 : (Option Nat) → Int32 → Int32 → Mem → Option (Int32 × Mem)} {k40' : Int32 → Int32 → RS → Option (Int32 × RS)} (hk40 : ∀ (x1 : Int32) (x2 : Int32) (s : RS), k40 (some r) x1 x2 (EM μ0 r (pcs U S) s) = (k40' x1 x2 s).map (em μ0 r U S)) (a1 : Int32) (a2 : Int32) (s : RS) : H_X12_mount_40 N k40 (some r) a1 a2 (EM μ0 r (pcs U S) s) = (h_mount_40 U S N k40' a1 a2 s).map (em μ0 r U S) := by
  unfold H_X12_mount_40 h_mount_40
  refine st_if (fun _ => ?_) (fun _ => ?_)
  · refine st_fR hr _ (by decide) rfl ?_
    refine st_bI hr _ (lk_43 U S) _ _ fun μ2 => ?_
    refine st_fR hr _ (by decide) rfl ?_
    refine st_bI hr _ (lk_44 U S) _ _ fun μ4 => ?_
    refine st_fR hr _ (by decide) rfl ?_
    refine st_bI hr _ (lk_46 U S) _ _ fun μ6 => ?_
    refine st_fR hr _ (by decide) rfl ?_
    refine st_bI hr _ (lk_45 U S) _ _ fun μ8 => ?_
    refine st_fR hr _ (by decide) rfl ?_
    refine st_bI hr _ (lk_42 U S) _ _ fun μ10 => ?_
    exact st_rZ _ _
  · refine st_fR hr _ (by decide) rfl ?_
    refine st_aR hr _ (lk_36 U S) _ fun v12 hv12 => ?_
    refine st_fR hr _ (by decide) rfl ?_
    refine st_aI hr _ (lk_25 U S) _ fun v14 => ?_
    refine st_if (fun _ => ?_) (fun _ => ?_)
    · refine st_fR hr _ (by decide) rfl ?_
      refine st_aI hr _ (lk_25 U S) _ fun v16 => ?_
      exact e_g_mount_74 hr hk40 _ _ _ _ _ hv12 _
    · exact e_g_mount_74 hr hk40 _ _ _ _ _ hv12 _
def l_mount_40 (U S N : Nat)  : Nat → Int32 → Int32 → RS → Option (Int32 × RS)
  | 0 => fun _ _ _ => none
  | n + 1 => h_mount_40 U S N (l_mount_40 U S N n)
theorem e_l_mount_40 {μ0 : Mem} {r U S : Nat} (hr : r < μ0.1) {N : Nat} : ∀ (n : Nat) (x1 : Int32) (x2 : Int32) (s : RS), L_X12_mount_40 N n (some r) x1 x2 (EM μ0 r (pcs U S) s) = (l_mount_40 U S N n x1 x2 s).map (em μ0 r U S) := by
  intro n
  induction n with
  | zero => intros; exact rfl
  | succ n ih => intros; exact e_h_mount_40 hr ih _ _ _
def g_mount_38 (U S N : Nat) (a1 : Int32) (μ : RS) : Option (Int32 × RS) :=
  l_mount_40 U S N N a1 0 μ
theorem e_g_mount_38 {μ0 : Mem} {r U S : Nat} (hr : r < μ0.1) {N : Nat} (a1 : Int32) (s : RS) : f_X12_mount_38 N (some r) a1 (EM μ0 r (pcs U S) s) = (g_mount_38 U S N a1 s).map (em μ0 r U S) := by
  unfold f_X12_mount_38 g_mount_38
  exact e_l_mount_40 hr N _ _ _
def g_mount (U S N : Nat) (a1 : Int32) (μ : RS) : Option (Int32 × RS) :=
  (g_rests U S N a1 μ).bind fun q1 =>
  if q1.1 = 0 then
    g_mount_16 U S N q1.2
  else
    (g_isMoved U S N a1 q1.2).bind fun q3 =>
    if q3.1 = 0 then
      (rA U q3.2 41 a1).bind fun v6 =>
      if v6 = (((-1)) : Int32) then
        g_mount_38 U S N a1 q3.2
      else
        (rA U q3.2 41 a1).bind fun v8 =>
        (g_nobodys U S N v8 q3.2).bind fun q9 =>
        g_mount_38 U S N a1 q9.2
    else
      g_mount_16 U S N q3.2
theorem e_g_mount {μ0 : Mem} {r U S : Nat} (hr : r < μ0.1) {N : Nat} (a1 : Int32) (s : RS) : f_X12_mount N (some r) a1 (EM μ0 r (pcs U S) s) = (g_mount U S N a1 s).map (em μ0 r U S) := by
  unfold f_X12_mount g_mount
  refine st_ck hr _ ?_
  refine st_call (e_g_rests hr _ _) fun q1 => ?_
  dsimp only
  refine st_if (fun _ => ?_) (fun _ => ?_)
  · exact e_g_mount_16 hr _
  · refine st_ck hr _ ?_
    refine st_call (e_g_isMoved hr _ _) fun q3 => ?_
    dsimp only
    refine st_if (fun _ => ?_) (fun _ => ?_)
    · refine st_fR hr _ (by decide) rfl ?_
      refine st_aI hr _ (lk_41 U S) _ fun v6 => ?_
      refine st_if (fun _ => ?_) (fun _ => ?_)
      · exact e_g_mount_38 hr _ _
      · refine st_fR hr _ (by decide) rfl ?_
        refine st_aI hr _ (lk_41 U S) _ fun v8 => ?_
        refine st_ck hr _ ?_
        refine st_call (e_g_nobodys hr _ _) fun q9 => ?_
        dsimp only
        exact e_g_mount_38 hr _ _
    · exact e_g_mount_16 hr _
def g_isWord (U S N : Nat) (a0 : Int32) (μ : RS) : Option (Int32 × RS) :=
  (g_in U S N a0 0 4095 μ).bind fun q1 =>
  rZ q1.1 q1.2
theorem e_g_isWord {μ0 : Mem} {r U S : Nat} (hr : r < μ0.1) {N : Nat} (a0 : Int32) (s : RS) : f_X12_isWord N a0 (EM μ0 r (pcs U S) s) = (g_isWord U S N a0 s).map (em μ0 r U S) := by
  unfold f_X12_isWord g_isWord
  refine st_call (e_g_in hr _ _ _ _) fun q1 => ?_
  dsimp only
  exact st_rZ _ _
def g_becomesReady (U S N : Nat) (a1 : Int32) (μ : RS) : Option (Unit × RS) :=
  (wA U μ 42 a1 1).bind fun μ2 =>
  (wA 8 μ2 62 (μ2.1 63) a1).bind fun μ5 =>
  (some (pI μ5 63 ((μ5.1 63) + 1))).bind fun μ7 =>
  some ((), μ7)
theorem e_g_becomesReady {μ0 : Mem} {r U S : Nat} (hr : r < μ0.1) {N : Nat} (a1 : Int32) (s : RS) : f_X12_becomesReady N (some r) a1 (EM μ0 r (pcs U S) s) = (g_becomesReady U S N a1 s).map (em μ0 r U S) := by
  unfold f_X12_becomesReady g_becomesReady
  refine st_fR hr _ (by decide) rfl ?_
  refine st_bI hr _ (lk_42 U S) _ _ fun μ2 => ?_
  refine st_fR hr _ (by decide) rfl ?_
  refine st_fI hr _ (by decide) rfl ?_
  refine st_bI hr _ (lk_62 U S) _ _ fun μ5 => ?_
  refine st_fI hr _ (by decide) rfl ?_
  refine st_pI hr _ (by decide) rfl _ ?_
  exact rfl
def g_begin_24 (U S N : Nat) (μ : RS) : Option (Int32 × RS) :=
  rZ 0 μ
theorem e_g_begin_24 {μ0 : Mem} {r U S : Nat} (hr : r < μ0.1) {N : Nat} (s : RS) : f_X12_begin_24 N  (EM μ0 r (pcs U S) s) = (g_begin_24 U S N  s).map (em μ0 r U S) := by
  unfold f_X12_begin_24 g_begin_24
  exact st_rZ _ _
def g_begin (U S N : Nat) (a1 : Int32) (a2 : Int32) (μ : RS) : Option (Int32 × RS) :=
  (g_rests U S N a1 μ).bind fun q1 =>
  if q1.1 = 0 then
    g_begin_24 U S N q1.2
  else
    (rA U q1.2 42 a1).bind fun v4 =>
    if v4 = 0 then
      g_begin_24 U S N q1.2
    else
      (g_isWord U S N a2 q1.2).bind fun q5 =>
      if ¬ q5.1 = 0 then
        (wA U q5.2 45 a1 a2).bind fun μ7 =>
        (g_becomesReady U S N a1 μ7).bind fun q8 =>
        rZ 1 q8.2
      else
        g_begin_24 U S N q5.2
theorem e_g_begin {μ0 : Mem} {r U S : Nat} (hr : r < μ0.1) {N : Nat} (a1 : Int32) (a2 : Int32) (s : RS) : f_X12_begin N (some r) a1 a2 (EM μ0 r (pcs U S) s) = (g_begin U S N a1 a2 s).map (em μ0 r U S) := by
  unfold f_X12_begin g_begin
  refine st_ck hr _ ?_
  refine st_call (e_g_rests hr _ _) fun q1 => ?_
  dsimp only
  refine st_if (fun _ => ?_) (fun _ => ?_)
  · exact e_g_begin_24 hr _
  · refine st_fR hr _ (by decide) rfl ?_
    refine st_aI hr _ (lk_42 U S) _ fun v4 => ?_
    refine st_if (fun _ => ?_) (fun _ => ?_)
    · exact e_g_begin_24 hr _
    · refine st_call (e_g_isWord hr _ _) fun q5 => ?_
      dsimp only
      refine st_if (fun _ => ?_) (fun _ => ?_)
      · refine st_fR hr _ (by decide) rfl ?_
        refine st_bI hr _ (lk_45 U S) _ _ fun μ7 => ?_
        refine st_ck hr _ ?_
        refine st_call (e_g_becomesReady hr _ _) fun q8 => ?_
        dsimp only
        exact st_rZ _ _
      · exact e_g_begin_24 hr _
def g_leavesQueue_40 (U S N : Nat) (k4 : Int32 → Int32 → Int32 → RS → Option (Unit × RS)) (a1 : Int32) (a2 : Int32) (a3 : Int32) (μ : RS) : Option (Unit × RS) :=
  k4 a1 a2 (a3 + 1) μ
theorem e_g_leavesQueue_40 {μ0 : Mem} {r U S : Nat} (hr : r < μ0.1) {N : Nat} {k4 : (Option Nat) → Int32 → Int32 → Int32 → Mem → Option (Unit × Mem)} {k4' : Int32 → Int32 → Int32 → RS → Option (Unit × RS)} (hk4 : ∀ (x1 : Int32) (x2 : Int32) (x3 : Int32) (s : RS), k4 (some r) x1 x2 x3 (EM μ0 r (pcs U S) s) = (k4' x1 x2 x3 s).map (em μ0 r U S)) (a1 : Int32) (a2 : Int32) (a3 : Int32) (s : RS) : f_X12_leavesQueue_40 N k4 (some r) a1 a2 a3 (EM μ0 r (pcs U S) s) = (g_leavesQueue_40 U S N k4' a1 a2 a3 s).map (em μ0 r U S) := by
  unfold f_X12_leavesQueue_40 g_leavesQueue_40
  exact hk4 _ _ _ _
def h_leavesQueue_4 (U S N : Nat) (k4 : Int32 → Int32 → Int32 → RS → Option (Unit × RS)) (a1 : Int32) (a2 : Int32) (a3 : Int32) (μ : RS) : Option (Unit × RS) :=
  if (μ.1 63) ≤ a3 then
    (some (pI μ 63 a2)).bind fun μ2 =>
    some ((), μ2)
  else
    (rA 8 μ 62 a3).bind fun v4 =>
    if ¬ v4 = a1 then
      (rA 8 μ 62 a3).bind fun v7 =>
      (wA 8 μ 62 a2 v7).bind fun μ8 =>
      g_leavesQueue_40 U S N k4 a1 (a2 + 1) a3 μ8
    else
      g_leavesQueue_40 U S N k4 a1 a2 a3 μ
theorem e_h_leavesQueue_4 {μ0 : Mem} {r U S : Nat} (hr : r < μ0.1) {N : Nat} {k4 : (Option Nat) → Int32 → Int32 → Int32 → Mem → Option (Unit × Mem)} {k4' : Int32 → Int32 → Int32 → RS → Option (Unit × RS)} (hk4 : ∀ (x1 : Int32) (x2 : Int32) (x3 : Int32) (s : RS), k4 (some r) x1 x2 x3 (EM μ0 r (pcs U S) s) = (k4' x1 x2 x3 s).map (em μ0 r U S)) (a1 : Int32) (a2 : Int32) (a3 : Int32) (s : RS) : H_X12_leavesQueue_4 N k4 (some r) a1 a2 a3 (EM μ0 r (pcs U S) s) = (h_leavesQueue_4 U S N k4' a1 a2 a3 s).map (em μ0 r U S) := by
  unfold H_X12_leavesQueue_4 h_leavesQueue_4
  refine st_fI hr _ (by decide) rfl ?_
  refine st_if (fun _ => ?_) (fun _ => ?_)
  · refine st_pI hr _ (by decide) rfl _ ?_
    exact rfl
  · refine st_fR hr _ (by decide) rfl ?_
    refine st_aI hr _ (lk_62 U S) _ fun v4 => ?_
    refine st_if (fun _ => ?_) (fun _ => ?_)
    · refine st_fR hr _ (by decide) rfl ?_
      refine st_fR hr _ (by decide) rfl ?_
      refine st_aI hr _ (lk_62 U S) _ fun v7 => ?_
      refine st_bI hr _ (lk_62 U S) _ _ fun μ8 => ?_
      exact e_g_leavesQueue_40 hr hk4 _ _ _ _
    · exact e_g_leavesQueue_40 hr hk4 _ _ _ _
def l_leavesQueue_4 (U S N : Nat)  : Nat → Int32 → Int32 → Int32 → RS → Option (Unit × RS)
  | 0 => fun _ _ _ _ => none
  | n + 1 => h_leavesQueue_4 U S N (l_leavesQueue_4 U S N n)
theorem e_l_leavesQueue_4 {μ0 : Mem} {r U S : Nat} (hr : r < μ0.1) {N : Nat} : ∀ (n : Nat) (x1 : Int32) (x2 : Int32) (x3 : Int32) (s : RS), L_X12_leavesQueue_4 N n (some r) x1 x2 x3 (EM μ0 r (pcs U S) s) = (l_leavesQueue_4 U S N n x1 x2 x3 s).map (em μ0 r U S) := by
  intro n
  induction n with
  | zero => intros; exact rfl
  | succ n ih => intros; exact e_h_leavesQueue_4 hr ih _ _ _ _
def g_leavesQueue (U S N : Nat) (a1 : Int32) (μ : RS) : Option (Unit × RS) :=
  l_leavesQueue_4 U S N N a1 0 0 μ
theorem e_g_leavesQueue {μ0 : Mem} {r U S : Nat} (hr : r < μ0.1) {N : Nat} (a1 : Int32) (s : RS) : f_X12_leavesQueue N (some r) a1 (EM μ0 r (pcs U S) s) = (g_leavesQueue U S N a1 s).map (em μ0 r U S) := by
  unfold f_X12_leavesQueue g_leavesQueue
  exact e_l_leavesQueue_4 hr N _ _ _ _
def g_halt_22 (U S N : Nat) (μ : RS) : Option (Int32 × RS) :=
  rZ 0 μ
theorem e_g_halt_22 {μ0 : Mem} {r U S : Nat} (hr : r < μ0.1) {N : Nat} (s : RS) : f_X12_halt_22 N  (EM μ0 r (pcs U S) s) = (g_halt_22 U S N  s).map (em μ0 r U S) := by
  unfold f_X12_halt_22 g_halt_22
  exact st_rZ _ _
def g_halt_54 (U S N : Nat) (a1 : Int32) (μ : RS) : Option (Int32 × RS) :=
  (wA U μ 42 a1 6).bind fun μ2 =>
  rZ 1 μ2
theorem e_g_halt_54 {μ0 : Mem} {r U S : Nat} (hr : r < μ0.1) {N : Nat} (a1 : Int32) (s : RS) : f_X12_halt_54 N (some r) a1 (EM μ0 r (pcs U S) s) = (g_halt_54 U S N a1 s).map (em μ0 r U S) := by
  unfold f_X12_halt_54 g_halt_54
  refine st_fR hr _ (by decide) rfl ?_
  refine st_bI hr _ (lk_42 U S) _ _ fun μ2 => ?_
  exact st_rZ _ _
