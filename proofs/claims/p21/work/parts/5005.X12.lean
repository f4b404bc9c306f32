/-! LAYER 1, ShareEightModel: word, one, line (by program) -/
def f_X12_word_410 (N : Nat) (μ : Mem) : Option (Unit × Mem) :=
  some ((), μ)
def f_X12_word_398 (N : Nat) (a0 : Option Nat) (a1 : Int32) (μ : Mem) : Option (Unit × Mem) :=
  (mfI μ a0 12 5).bind fun v1 =>
  if ¬ v1 = 0 then
    f_X12_word_410 N μ
  else
    (mck μ a0 12).bind fun b3 =>
    (f_X12_lies N (some b3) a1 μ).bind fun q2 =>
    f_X12_word_410 N q2.2
def f_X12_word_392 (N : Nat) (a0 : Option Nat) (a6 : Int32) (s0 : Option Nat) (s1 : Int32) (s2 : Int32) (s3 : Int32) (μ : Mem) : Option (Unit × Mem) :=
  (mck μ s0 12).bind fun b2 =>
  (f_X12_memory N (some b2) s1 s2 s3 a6 μ).bind fun q1 =>
  f_X12_word_398 N a0 q1.1 q1.2
def f_X12_word_354 (N : Nat) (a0 : Option Nat) (a1 : Int32) (a2 : Int32) (a3 : Int32) (a4 : Int32) (a5 : Int32) (a6 : Int32) (μ : Mem) : Option (Unit × Mem) :=
  (mfI μ a0 12 5).bind fun v1 =>
  if v1 ≤ 0 then
    if a2 = (((-1)) : Int32) then
      f_X12_word_398 N a0 a1 μ
    else
      if a3 ≤ (1 : Int32) then
        f_X12_word_398 N a0 a1 μ
      else
        (xI x_cd a2).bind fun v2 =>
        if ¬ a5 = (((-1)) : Int32) then
          f_X12_word_392 N a0 a6 a0 v2 a4 a5 μ
        else
          f_X12_word_392 N a0 a6 a0 v2 a4 0 μ
  else
    some ((), μ)
def f_X12_word_343 (N : Nat) (k113 : (Option Nat) → Int32 → Int32 → Int32 → Int32 → Int32 → Int32 → Int32 → Mem → Option (Unit × Mem)) (a0 : Option Nat) (a1 : Int32) (a2 : Int32) (a3 : Int32) (a4 : Int32) (a5 : Int32) (a6 : Int32) (a7 : Int32) (a9 : Int32) (μ : Mem) : Option (Unit × Mem) :=
  k113 a0 (a1 ||| a9) a2 (a3 + 1) a4 a5 a6 a7 μ
def f_X12_word_335 (N : Nat) (k113 : (Option Nat) → Int32 → Int32 → Int32 → Int32 → Int32 → Int32 → Int32 → Mem → Option (Unit × Mem)) (a0 : Option Nat) (a1 : Int32) (a2 : Int32) (a3 : Int32) (a4 : Int32) (a7 : Int32) (a8 : Int32) (a9 : Int32) (μ : Mem) : Option (Unit × Mem) :=
  f_X12_word_343 N k113 a0 a1 a2 a3 a4 a9 a8 a7 a9 μ
def f_X12_word_330 (N : Nat) (k113 : (Option Nat) → Int32 → Int32 → Int32 → Int32 → Int32 → Int32 → Int32 → Mem → Option (Unit × Mem)) (a0 : Option Nat) (a1 : Int32) (a2 : Int32) (a3 : Int32) (a5 : Int32) (a6 : Int32) (a7 : Int32) (a9 : Int32) (s0 : Int32) (μ : Mem) : Option (Unit × Mem) :=
  f_X12_word_343 N k113 a0 a1 a2 a3 s0 a5 a6 a7 a9 μ
def f_X12_word_325 (N : Nat) (k113 : (Option Nat) → Int32 → Int32 → Int32 → Int32 → Int32 → Int32 → Int32 → Mem → Option (Unit × Mem)) (a0 : Option Nat) (a1 : Int32) (a2 : Int32) (a3 : Int32) (a5 : Int32) (a6 : Int32) (a7 : Int32) (a9 : Int32) (μ : Mem) : Option (Unit × Mem) :=
  f_X12_word_330 N k113 a0 a1 a2 a3 a5 a6 a7 a9 1 μ
def f_X12_word_311 (N : Nat) (k113 : (Option Nat) → Int32 → Int32 → Int32 → Int32 → Int32 → Int32 → Int32 → Mem → Option (Unit × Mem)) (a0 : Option Nat) (a1 : Int32) (a2 : Int32) (a3 : Int32) (a4 : Int32) (a5 : Int32) (a6 : Int32) (a7 : Int32) (a9 : Int32) (μ : Mem) : Option (Unit × Mem) :=
  if ¬ a4 = 0 then
    f_X12_word_325 N k113 a0 a1 a2 a3 a5 a6 a7 a9 μ
  else
    (mfI μ a0 12 30).bind fun v1 =>
    if ¬ v1 = (6 : Int32) then
      f_X12_word_330 N k113 a0 a1 a2 a3 a5 a6 a7 a9 0 μ
    else
      f_X12_word_325 N k113 a0 a1 a2 a3 a5 a6 a7 a9 μ
def f_X12_word_279 (N : Nat) (k113 : (Option Nat) → Int32 → Int32 → Int32 → Int32 → Int32 → Int32 → Int32 → Mem → Option (Unit × Mem)) (a0 : Option Nat) (a1 : Int32) (a2 : Int32) (a3 : Int32) (a4 : Int32) (a5 : Int32) (a6 : Int32) (a7 : Int32) (a8 : Int32) (a9 : Int32) (a10 : Int32) (μ : Mem) : Option (Unit × Mem) :=
  if a3 ≤ 0 then
    f_X12_word_343 N k113 a0 a1 a2 a3 a4 a5 a6 a7 a9 μ
  else
    if a2 = (((-1)) : Int32) then
      f_X12_word_343 N k113 a0 a1 a2 a3 a4 a5 a6 a7 a9 μ
    else
      if a10 = 0 then
        f_X12_word_335 N k113 a0 a1 a2 a3 a4 a7 a8 a9 μ
      else
        (mfI μ a0 12 30).bind fun v1 =>
        if v1 = (6 : Int32) then
          f_X12_word_311 N k113 a0 a1 a2 a3 a4 a5 a6 a7 a9 μ
        else
          (mfI μ a0 12 30).bind fun v2 =>
          if ¬ v2 = (7 : Int32) then
            f_X12_word_335 N k113 a0 a1 a2 a3 a4 a7 a8 a9 μ
          else
            f_X12_word_311 N k113 a0 a1 a2 a3 a4 a5 a6 a7 a9 μ
def f_X12_word_278 (N : Nat) (k113 : (Option Nat) → Int32 → Int32 → Int32 → Int32 → Int32 → Int32 → Int32 → Mem → Option (Unit × Mem)) (a0 : Option Nat) (a1 : Int32) (a3 : Int32) (a4 : Int32) (a5 : Int32) (a6 : Int32) (a7 : Int32) (a8 : Int32) (a9 : Int32) (a10 : Int32) (s0 : Int32) (μ : Mem) : Option (Unit × Mem) :=
  f_X12_word_279 N k113 a0 a1 s0 a3 a4 a5 a6 a7 a8 a9 a10 μ
def f_X12_word_277 (N : Nat) (k113 : (Option Nat) → Int32 → Int32 → Int32 → Int32 → Int32 → Int32 → Int32 → Mem → Option (Unit × Mem)) (a0 : Option Nat) (a1 : Int32) (a3 : Int32) (a4 : Int32) (a5 : Int32) (a6 : Int32) (a7 : Int32) (a8 : Int32) (a9 : Int32) (a10 : Int32) (μ : Mem) : Option (Unit × Mem) :=
  f_X12_word_278 N k113 a0 a1 a3 a4 a5 a6 a7 a8 a9 a10 ((-1)) μ
def f_X12_word_247 (N : Nat) (k113 : (Option Nat) → Int32 → Int32 → Int32 → Int32 → Int32 → Int32 → Int32 → Mem → Option (Unit × Mem)) (a0 : Option Nat) (a1 : Int32) (a2 : Int32) (a3 : Int32) (a4 : Int32) (a5 : Int32) (a6 : Int32) (a7 : Int32) (a8 : Int32) (a9 : Int32) (s0 : Int32) (μ : Mem) : Option (Unit × Mem) :=
  if ¬ a3 = 0 then
    f_X12_word_279 N k113 a0 a1 a2 a3 a4 a5 a6 a7 a8 a9 s0 μ
  else
    if s0 = 0 then
      f_X12_word_277 N k113 a0 a1 a3 a4 a5 a6 a7 a8 a9 s0 μ
    else
      (mfI μ a0 12 30).bind fun v1 =>
      (f_X12_in N v1 0 5 μ).bind fun q2 =>
      if q2.1 = 0 then
        f_X12_word_277 N k113 a0 a1 a3 a4 a5 a6 a7 a8 a9 s0 q2.2
      else
        (mfI q2.2 a0 12 30).bind fun v3 =>
        f_X12_word_278 N k113 a0 a1 a3 a4 a5 a6 a7 a8 a9 s0 v3 q2.2
def f_X12_word_246 (N : Nat) (k113 : (Option Nat) → Int32 → Int32 → Int32 → Int32 → Int32 → Int32 → Int32 → Mem → Option (Unit × Mem)) (a0 : Option Nat) (a1 : Int32) (a2 : Int32) (a3 : Int32) (a4 : Int32) (a5 : Int32) (a6 : Int32) (a7 : Int32) (a8 : Int32) (a9 : Int32) (μ : Mem) : Option (Unit × Mem) :=
  f_X12_word_247 N k113 a0 a1 a2 a3 a4 a5 a6 a7 a8 a9 0 μ
def f_X12_word_219 (N : Nat) (k113 : (Option Nat) → Int32 → Int32 → Int32 → Int32 → Int32 → Int32 → Int32 → Mem → Option (Unit × Mem)) (a0 : Option Nat) (a1 : Int32) (a2 : Int32) (a3 : Int32) (a4 : Int32) (a5 : Int32) (a6 : Int32) (a7 : Int32) (a8 : Int32) (s0 : Int32) (μ : Mem) : Option (Unit × Mem) :=
  (mfI μ a0 12 5).bind fun v1 =>
  if v1 ≤ 0 then
    if ¬ a7 = 0 then
      f_X12_word_246 N k113 a0 a1 a2 a3 a4 a5 a6 a7 a8 s0 μ
    else
      (mfI μ a0 12 30).bind fun v2 =>
      if v2 = (((-1)) : Int32) then
        f_X12_word_246 N k113 a0 a1 a2 a3 a4 a5 a6 a7 a8 s0 μ
      else
        f_X12_word_247 N k113 a0 a1 a2 a3 a4 a5 a6 a7 a8 s0 1 μ
  else
    some ((), μ)
def f_X12_word_201 (N : Nat) (k113 : (Option Nat) → Int32 → Int32 → Int32 → Int32 → Int32 → Int32 → Int32 → Mem → Option (Unit × Mem)) (a0 : Option Nat) (a1 : Int32) (a2 : Int32) (a3 : Int32) (a4 : Int32) (a5 : Int32) (a6 : Int32) (a8 : Int32) (s0 : Int32) (μ : Mem) : Option (Unit × Mem) :=
  if s0 = 0 then
    (mck μ a0 12).bind fun b2 =>
    (f_X12_all N (some b2) μ).bind fun q1 =>
    f_X12_word_219 N k113 a0 a1 a2 a3 a4 a5 a6 s0 a8 q1.1 q1.2
  else
    (mck μ a0 12).bind fun b4 =>
    (f_X12_literal N (some b4) μ).bind fun q3 =>
    f_X12_word_219 N k113 a0 a1 a2 a3 a4 a5 a6 s0 a8 q3.1 q3.2
def f_X12_word_200 (N : Nat) (k113 : (Option Nat) → Int32 → Int32 → Int32 → Int32 → Int32 → Int32 → Int32 → Mem → Option (Unit × Mem)) (a0 : Option Nat) (a1 : Int32) (a2 : Int32) (a3 : Int32) (a4 : Int32) (a5 : Int32) (a6 : Int32) (a8 : Int32) (μ : Mem) : Option (Unit × Mem) :=
  f_X12_word_201 N k113 a0 a1 a2 a3 a4 a5 a6 a8 0 μ
def f_X12_word_196 (N : Nat) (k113 : (Option Nat) → Int32 → Int32 → Int32 → Int32 → Int32 → Int32 → Int32 → Mem → Option (Unit × Mem)) (a0 : Option Nat) (a1 : Int32) (a2 : Int32) (a3 : Int32) (a4 : Int32) (a5 : Int32) (a6 : Int32) (a8 : Int32) (μ : Mem) : Option (Unit × Mem) :=
  f_X12_word_201 N k113 a0 a1 a2 a3 a4 a5 a6 a8 1 μ
def f_X12_word_150 (N : Nat) (k113 : (Option Nat) → Int32 → Int32 → Int32 → Int32 → Int32 → Int32 → Int32 → Mem → Option (Unit × Mem)) (a0 : Option Nat) (a1 : Int32) (a2 : Int32) (a3 : Int32) (a4 : Int32) (a5 : Int32) (a6 : Int32) (μ : Mem) : Option (Unit × Mem) :=
  (mfI μ a0 12 13).bind fun v1 =>
  if a5 = (((-1)) : Int32) then
    (mfI μ a0 12 12).bind fun v2 =>
    if ¬ v2 = (4 : Int32) then
      f_X12_word_200 N k113 a0 a1 a2 a3 a4 a5 a6 v1 μ
    else
      (mfI μ a0 12 14).bind fun v3 =>
      if v3 = (40 : Int32) then
        f_X12_word_196 N k113 a0 a1 a2 a3 a4 a5 a6 v1 μ
      else
        (mfI μ a0 12 14).bind fun v4 =>
        if ¬ v4 = (91 : Int32) then
          f_X12_word_200 N k113 a0 a1 a2 a3 a4 a5 a6 v1 μ
        else
          f_X12_word_196 N k113 a0 a1 a2 a3 a4 a5 a6 v1 μ
  else
    (mck μ a0 12).bind fun b6 =>
    (f_X12_fails N (some b6) 2 a6 μ).bind fun q5 =>
    some ((), q5.2)
def H_X12_word_113 (N : Nat) (k113 : (Option Nat) → Int32 → Int32 → Int32 → Int32 → Int32 → Int32 → Int32 → Mem → Option (Unit × Mem)) (a0 : Option Nat) (a1 : Int32) (a2 : Int32) (a3 : Int32) (a4 : Int32) (a5 : Int32) (a6 : Int32) (a7 : Int32) (μ : Mem) : Option (Unit × Mem) :=
  (mfI μ a0 12 5).bind fun v1 =>
  if ¬ v1 = 0 then
    f_X12_word_354 N a0 a1 a2 a3 a4 a5 a6 μ
  else
    if ¬ a7 = 0 then
      f_X12_word_354 N a0 a1 a2 a3 a4 a5 a6 μ
    else
      (mck μ a0 12).bind fun b3 =>
      (f_X12_beginsV N (some b3) μ).bind fun q2 =>
      if ¬ q2.1 = 0 then
        f_X12_word_150 N k113 a0 a1 a2 a3 a4 a5 a6 q2.2
      else
        (mck q2.2 a0 12).bind fun b5 =>
        (f_X12_isSign N (some b5) 40 q2.2).bind fun q4 =>
        if ¬ q4.1 = 0 then
          f_X12_word_150 N k113 a0 a1 a2 a3 a4 a5 a6 q4.2
        else
          (mck q4.2 a0 12).bind fun b7 =>
          (f_X12_isSign N (some b7) 91 q4.2).bind fun q6 =>
          if q6.1 = 0 then
            f_X12_word_354 N a0 a1 a2 a3 a4 a5 a6 q6.2
          else
            f_X12_word_150 N k113 a0 a1 a2 a3 a4 a5 a6 q6.2
def L_X12_word_113 (N : Nat) : Nat → (Option Nat) → Int32 → Int32 → Int32 → Int32 → Int32 → Int32 → Int32 → Mem → Option (Unit × Mem)
  | 0 => fun _ _ _ _ _ _ _ _ _ => none
  | n + 1 => H_X12_word_113 N (L_X12_word_113 N n)
def f_X12_word_105 (N : Nat) (a0 : Option Nat) (a1 : Int32) (a2 : Int32) (a3 : Int32) (a4 : Int32) (a5 : Int32) (a6 : Int32) (a7 : Int32) (μ : Mem) : Option (Unit × Mem) :=
  (mfI μ a0 12 5).bind fun v1 =>
  if v1 ≤ 0 then
    L_X12_word_113 N N a0 a1 a2 a3 a4 a5 a6 a7 μ
  else
    some ((), μ)
def f_X12_word_53 (N : Nat) (a0 : Option Nat) (a1 : Int32) (a2 : Int32) (a3 : Int32) (a4 : Int32) (a5 : Int32) (a6 : Int32) (a7 : Int32) (μ : Mem) : Option (Unit × Mem) :=
  (mfI μ a0 12 11).bind fun v1 =>
  if v1 ≤ (4095 : Int32) then
    (mfI μ a0 12 9).bind fun v2 =>
    if v2 = 0 then
      f_X12_word_105 N a0 a1 a2 a3 a4 a5 a6 a7 μ
    else
      (mfR μ a0 12 24).bind fun v3 =>
      (mfI μ a0 12 11).bind fun v4 =>
      (maI μ 2 v3 v4).bind fun v5 =>
      if v5 = 0 then
        f_X12_word_105 N a0 a1 a2 a3 a4 a5 a6 a7 μ
      else
        (mfI μ a0 12 27).bind fun v6 =>
        (mck μ a0 12).bind fun b8 =>
        (f_X12_fails N (some b8) 8 v6 μ).bind fun q7 =>
        f_X12_word_105 N a0 a1 a2 a3 a4 a5 a6 a7 q7.2
  else
    (mfI μ a0 12 27).bind fun v9 =>
    (mck μ a0 12).bind fun b11 =>
    (f_X12_fails N (some b11) 6 v9 μ).bind fun q10 =>
    f_X12_word_105 N a0 a1 a2 a3 a4 a5 a6 a7 q10.2
def f_X12_word (N : Nat) (a0 : Option Nat) (μ : Mem) : Option (Unit × Mem) :=
  (mck μ a0 12).bind fun b2 =>
  (f_X12_beginsV N (some b2) μ).bind fun q1 =>
  if ¬ q1.1 = 0 then
    f_X12_word_53 N a0 0 ((-1)) 0 0 ((-1)) ((-1)) 0 q1.2
  else
    (mck q1.2 a0 12).bind fun b4 =>
    (f_X12_isSign N (some b4) 40 q1.2).bind fun q3 =>
    if ¬ q3.1 = 0 then
      f_X12_word_53 N a0 0 ((-1)) 0 0 ((-1)) ((-1)) 0 q3.2
    else
      (mck q3.2 a0 12).bind fun b6 =>
      (f_X12_isSign N (some b6) 91 q3.2).bind fun q5 =>
      if ¬ q5.1 = 0 then
        f_X12_word_53 N a0 0 ((-1)) 0 0 ((-1)) ((-1)) 0 q5.2
      else
        (mfI q5.2 a0 12 13).bind fun v7 =>
        (mck q5.2 a0 12).bind fun b9 =>
        (f_X12_fails N (some b9) 2 v7 q5.2).bind fun q8 =>
        some ((), q8.2)
set_option maxRecDepth 100000 in
set_option maxHeartbeats 4000000 in
theorem p_X12_word_410 {x : CX} {l : Launch} {g : CG} {rv : Unit} {μ0 μ9 : Mem} (C : Cx x l g mi_X12_word) (F : Prom x g mi_X12_word μ0 none μ9) {N : Nat} {μ : Mem} (h : f_X12_word_410 N μ = some (rv, μ9)) : V x g 11 0 0 μ 410 [] [] := by
  unfold f_X12_word_410 at h
  exact v_vret C F ⟨rfl, rfl, Nat.le_refl _⟩ dX12_word_410 h
set_option maxRecDepth 100000 in
set_option maxHeartbeats 4000000 in
theorem p_X12_word_398 {x : CX} {l : Launch} {g : CG} {rv : Unit} {μ0 μ9 : Mem} (C : Cx x l g mi_X12_word) (F : Prom x g mi_X12_word μ0 none μ9) {N : Nat} {a0 : Option Nat} {a1 : Int32} {μ : Mem} (h : f_X12_word_398 N a0 a1 μ = some (rv, μ9)) : V x g 11 0 0 μ 398 [(0, aR a0), (1, aI a1)] [] := by
  unfold f_X12_word_398 at h
  refine v_aload_n C dX12_word_398 rfl ?_
  obtain ⟨v, e, h⟩ := ob h
  refine v_getI C dX12_word_399 gf_X12_19 e ?_
  refine v_if_ne (tgt := 410) C dX12_word_402 (by decide) (fun c => ?_) (fun c => ?_)
  · replace h := ifT h c
    exact v_sb (p_X12_word_410 C F h) trivial
  · replace h := ifF h c
    refine v_aload_n C dX12_word_405 rfl ?_
    refine v_iload_n C dX12_word_406 rfl ?_
    obtain ⟨b, e0, h⟩ := ob h
    obtain ⟨q, e, h⟩ := ob h
    refine v_callV (As := [_]) C dX12_word_407 cf_X12_190 (rm_X12_word_X12_lies) ⟨rfl, rfl⟩ e0 rfl (Nat.le_of_ble_eq_true rfl) (c_X12_lies _ _ N _ _ _ q.1 q.2 e) ?_
    exact v_sb (p_X12_word_410 C F h) trivial
set_option maxRecDepth 100000 in
set_option maxHeartbeats 4000000 in
theorem p_X12_word_392 {x : CX} {l : Launch} {g : CG} {rv : Unit} {μ0 μ9 : Mem} (C : Cx x l g mi_X12_word) (F : Prom x g mi_X12_word μ0 none μ9) {N : Nat} {a0 : Option Nat} {a6 : Int32} {s0 : Option Nat} {s1 : Int32} {s2 : Int32} {s3 : Int32} {μ : Mem} (h : f_X12_word_392 N a0 a6 s0 s1 s2 s3 μ = some (rv, μ9)) : V x g 11 0 0 μ 392 [(0, aR a0), (6, aI a6)] [aI s3, aI s2, aI s1, aR s0] := by
  unfold f_X12_word_392 at h
  refine v_iload C dX12_word_392 rfl ?_
  obtain ⟨b, e0, h⟩ := ob h
  obtain ⟨q, e, h⟩ := ob h
  refine v_callV (As := [_, _, _, _]) C dX12_word_394 cf_X12_205 (rm_X12_word_X12_memory) ⟨rfl, rfl⟩ e0 rfl (Nat.le_of_ble_eq_true rfl) (c_X12_memory _ _ N _ _ _ _ _ _ q.1 q.2 e) ?_
  refine v_istore_n C dX12_word_397 (by decide) ?_
  exact v_sb (p_X12_word_398 C F h) ⟨rfl, rfl, trivial⟩
set_option maxRecDepth 100000 in
set_option maxHeartbeats 4000000 in
theorem p_X12_word_354 {x : CX} {l : Launch} {g : CG} {rv : Unit} {μ0 μ9 : Mem} (C : Cx x l g mi_X12_word) (F : Prom x g mi_X12_word μ0 none μ9) {N : Nat} {a0 : Option Nat} {a1 : Int32} {a2 : Int32} {a3 : Int32} {a4 : Int32} {a5 : Int32} {a6 : Int32} {μ : Mem} (h : f_X12_word_354 N a0 a1 a2 a3 a4 a5 a6 μ = some (rv, μ9)) : V x g 11 0 0 μ 354 [(0, aR a0), (1, aI a1), (2, aI a2), (3, aI a3), (4, aI a4), (5, aI a5), (6, aI a6)] [] := by
  unfold f_X12_word_354 at h
  refine v_aload_n C dX12_word_354 rfl ?_
  obtain ⟨v, e, h⟩ := ob h
  refine v_getI C dX12_word_355 gf_X12_19 e ?_
  refine v_if_le (tgt := 362) C dX12_word_358 (by decide) (fun c => ?_) (fun c => ?_)
  · replace h := ifT h c
    refine v_iload_n C dX12_word_362 rfl ?_
    refine v_iconst (v := -1) C dX12_word_363 rfl ?_
    refine v_icmp_eq (tgt := 398) C dX12_word_364 (by decide) (fun c => ?_) (fun c => ?_)
    · replace h := ifT h c
      exact v_sb (p_X12_word_398 C F h) ⟨rfl, rfl, trivial⟩
    · replace h := ifF h c
      refine v_iload_n C dX12_word_367 rfl ?_
      refine v_iconst (v := 1) C dX12_word_368 rfl ?_
      refine v_icmp_le (tgt := 398) C dX12_word_369 (by decide) (fun c => ?_) (fun c => ?_)
      · replace h := ifT h c
        exact v_sb (p_X12_word_398 C F h) ⟨rfl, rfl, trivial⟩
      · replace h := ifF h c
        refine v_aload_n C dX12_word_372 rfl ?_
        refine v_getsX1 C dX12_word_373 gs_X12_138 ?_
        refine v_iload_n C dX12_word_376 rfl ?_
        obtain ⟨v, e, h⟩ := ob h
        refine v_xi1 C dX12_word_377 e ?_
        refine v_iload C dX12_word_378 rfl ?_
        refine v_iload C dX12_word_380 rfl ?_
        refine v_iconst (v := -1) C dX12_word_382 rfl ?_
        refine v_icmp_ne (tgt := 390) C dX12_word_383 (by decide) (fun c => ?_) (fun c => ?_)
        · replace h := ifT h c
          refine v_iload C dX12_word_390 rfl ?_
          exact v_sb (p_X12_word_392 C F h) ⟨rfl, rfl, trivial⟩
        · replace h := ifF h c
          refine v_iconst (v := 0) C dX12_word_386 rfl ?_
          refine v_goto (tgt := 392) C dX12_word_387 (by decide) ?_
          exact v_sb (p_X12_word_392 C F h) ⟨rfl, rfl, trivial⟩
  · replace h := ifF h c
    exact v_vret C F ⟨rfl, rfl, Nat.le_refl _⟩ dX12_word_361 h
set_option maxRecDepth 100000 in
set_option maxHeartbeats 4000000 in
theorem p_X12_word_343 {x : CX} {l : Launch} {g : CG} {rv : Unit} {μ0 μ9 : Mem} (C : Cx x l g mi_X12_word) (F : Prom x g mi_X12_word μ0 none μ9) {N : Nat} {k113 : (Option Nat) → Int32 → Int32 → Int32 → Int32 → Int32 → Int32 → Int32 → Mem → Option (Unit × Mem)} (hk113 : ∀ (a0 : Option Nat) (a1 : Int32) (a2 : Int32) (a3 : Int32) (a4 : Int32) (a5 : Int32) (a6 : Int32) (a7 : Int32) (μ : Mem), k113 a0 a1 a2 a3 a4 a5 a6 a7 μ = some (rv, μ9) → V x g 11 0 0 μ 113 [(0, aR a0), (1, aI a1), (2, aI a2), (3, aI a3), (4, aI a4), (5, aI a5), (6, aI a6), (7, aI a7)] []) {a0 : Option Nat} {a1 : Int32} {a2 : Int32} {a3 : Int32} {a4 : Int32} {a5 : Int32} {a6 : Int32} {a7 : Int32} {a9 : Int32} {μ : Mem} (h : f_X12_word_343 N k113 a0 a1 a2 a3 a4 a5 a6 a7 a9 μ = some (rv, μ9)) : V x g 11 0 0 μ 343 [(0, aR a0), (1, aI a1), (2, aI a2), (3, aI a3), (4, aI a4), (5, aI a5), (6, aI a6), (7, aI a7), (9, aI a9)] [] := by
  unfold f_X12_word_343 at h
  refine v_iload_n C dX12_word_343 rfl ?_
  refine v_iload C dX12_word_344 rfl ?_
  refine v_ior C dX12_word_346 ?_
  refine v_istore_n C dX12_word_347 (by decide) ?_
  refine v_iinc (w := 1) C dX12_word_348 rfl rfl (by decide) ?_
  refine v_goto (tgt := 113) C dX12_word_351 (by decide) ?_
  exact v_sb (hk113 _ _ _ _ _ _ _ _ _ h) ⟨rfl, rfl, rfl, rfl, rfl, rfl, rfl, rfl, trivial⟩
set_option maxRecDepth 100000 in
set_option maxHeartbeats 4000000 in
theorem p_X12_word_335 {x : CX} {l : Launch} {g : CG} {rv : Unit} {μ0 μ9 : Mem} (C : Cx x l g mi_X12_word) (F : Prom x g mi_X12_word μ0 none μ9) {N : Nat} {k113 : (Option Nat) → Int32 → Int32 → Int32 → Int32 → Int32 → Int32 → Int32 → Mem → Option (Unit × Mem)} (hk113 : ∀ (a0 : Option Nat) (a1 : Int32) (a2 : Int32) (a3 : Int32) (a4 : Int32) (a5 : Int32) (a6 : Int32) (a7 : Int32) (μ : Mem), k113 a0 a1 a2 a3 a4 a5 a6 a7 μ = some (rv, μ9) → V x g 11 0 0 μ 113 [(0, aR a0), (1, aI a1), (2, aI a2), (3, aI a3), (4, aI a4), (5, aI a5), (6, aI a6), (7, aI a7)] []) {a0 : Option Nat} {a1 : Int32} {a2 : Int32} {a3 : Int32} {a4 : Int32} {a7 : Int32} {a8 : Int32} {a9 : Int32} {μ : Mem} (h : f_X12_word_335 N k113 a0 a1 a2 a3 a4 a7 a8 a9 μ = some (rv, μ9)) : V x g 11 0 0 μ 335 [(0, aR a0), (1, aI a1), (2, aI a2), (3, aI a3), (4, aI a4), (7, aI a7), (8, aI a8), (9, aI a9)] [] := by
  unfold f_X12_word_335 at h
  refine v_iload C dX12_word_335 rfl ?_
  refine v_istore C dX12_word_337 (by decide) ?_
  refine v_iload C dX12_word_339 rfl ?_
  refine v_istore C dX12_word_341 (by decide) ?_
  exact v_sb (p_X12_word_343 C F hk113 h) ⟨rfl, rfl, rfl, rfl, rfl, rfl, rfl, rfl, rfl, trivial⟩
set_option maxRecDepth 100000 in
set_option maxHeartbeats 4000000 in
theorem p_X12_word_330 {x : CX} {l : Launch} {g : CG} {rv : Unit} {μ0 μ9 : Mem} (C : Cx x l g mi_X12_word) (F : Prom x g mi_X12_word μ0 none μ9) {N : Nat} {k113 : (Option Nat) → Int32 → Int32 → Int32 → Int32 → Int32 → Int32 → Int32 → Mem → Option (Unit × Mem)} (hk113 : ∀ (a0 : Option Nat) (a1 : Int32) (a2 : Int32) (a3 : Int32) (a4 : Int32) (a5 : Int32) (a6 : Int32) (a7 : Int32) (μ : Mem), k113 a0 a1 a2 a3 a4 a5 a6 a7 μ = some (rv, μ9) → V x g 11 0 0 μ 113 [(0, aR a0), (1, aI a1), (2, aI a2), (3, aI a3), (4, aI a4), (5, aI a5), (6, aI a6), (7, aI a7)] []) {a0 : Option Nat} {a1 : Int32} {a2 : Int32} {a3 : Int32} {a5 : Int32} {a6 : Int32} {a7 : Int32} {a9 : Int32} {s0 : Int32} {μ : Mem} (h : f_X12_word_330 N k113 a0 a1 a2 a3 a5 a6 a7 a9 s0 μ = some (rv, μ9)) : V x g 11 0 0 μ 330 [(0, aR a0), (1, aI a1), (2, aI a2), (3, aI a3), (5, aI a5), (6, aI a6), (7, aI a7), (9, aI a9)] [aI s0] := by
  unfold f_X12_word_330 at h
  refine v_istore C dX12_word_330 (by decide) ?_
  refine v_goto (tgt := 343) C dX12_word_332 (by decide) ?_
  exact v_sb (p_X12_word_343 C F hk113 h) ⟨rfl, rfl, rfl, rfl, rfl, rfl, rfl, rfl, rfl, trivial⟩
set_option maxRecDepth 100000 in
set_option maxHeartbeats 4000000 in
theorem p_X12_word_325 {x : CX} {l : Launch} {g : CG} {rv : Unit} {μ0 μ9 : Mem} (C : Cx x l g mi_X12_word) (F : Prom x g mi_X12_word μ0 none μ9) {N : Nat} {k113 : (Option Nat) → Int32 → Int32 → Int32 → Int32 → Int32 → Int32 → Int32 → Mem → Option (Unit × Mem)} (hk113 : ∀ (a0 : Option Nat) (a1 : Int32) (a2 : Int32) (a3 : Int32) (a4 : Int32) (a5 : Int32) (a6 : Int32) (a7 : Int32) (μ : Mem), k113 a0 a1 a2 a3 a4 a5 a6 a7 μ = some (rv, μ9) → V x g 11 0 0 μ 113 [(0, aR a0), (1, aI a1), (2, aI a2), (3, aI a3), (4, aI a4), (5, aI a5), (6, aI a6), (7, aI a7)] []) {a0 : Option Nat} {a1 : Int32} {a2 : Int32} {a3 : Int32} {a5 : Int32} {a6 : Int32} {a7 : Int32} {a9 : Int32} {μ : Mem} (h : f_X12_word_325 N k113 a0 a1 a2 a3 a5 a6 a7 a9 μ = some (rv, μ9)) : V x g 11 0 0 μ 325 [(0, aR a0), (1, aI a1), (2, aI a2), (3, aI a3), (5, aI a5), (6, aI a6), (7, aI a7), (9, aI a9)] [] := by
  unfold f_X12_word_325 at h
  refine v_iconst (v := 1) C dX12_word_325 rfl ?_
  refine v_goto (tgt := 330) C dX12_word_326 (by decide) ?_
  exact v_sb (p_X12_word_330 C F hk113 h) ⟨rfl, rfl, rfl, rfl, rfl, rfl, rfl, rfl, trivial⟩
set_option maxRecDepth 100000 in
set_option maxHeartbeats 4000000 in
theorem p_X12_word_311 {x : CX} {l : Launch} {g : CG} {rv : Unit} {μ0 μ9 : Mem} (C : Cx x l g mi_X12_word) (F : Prom x g mi_X12_word μ0 none μ9) {N : Nat} {k113 : (Option Nat) → Int32 → Int32 → Int32 → Int32 → Int32 → Int32 → Int32 → Mem → Option (Unit × Mem)} (hk113 : ∀ (a0 : Option Nat) (a1 : Int32) (a2 : Int32) (a3 : Int32) (a4 : Int32) (a5 : Int32) (a6 : Int32) (a7 : Int32) (μ : Mem), k113 a0 a1 a2 a3 a4 a5 a6 a7 μ = some (rv, μ9) → V x g 11 0 0 μ 113 [(0, aR a0), (1, aI a1), (2, aI a2), (3, aI a3), (4, aI a4), (5, aI a5), (6, aI a6), (7, aI a7)] []) {a0 : Option Nat} {a1 : Int32} {a2 : Int32} {a3 : Int32} {a4 : Int32} {a5 : Int32} {a6 : Int32} {a7 : Int32} {a9 : Int32} {μ : Mem} (h : f_X12_word_311 N k113 a0 a1 a2 a3 a4 a5 a6 a7 a9 μ = some (rv, μ9)) : V x g 11 0 0 μ 311 [(0, aR a0), (1, aI a1), (2, aI a2), (3, aI a3), (4, aI a4), (5, aI a5), (6, aI a6), (7, aI a7), (9, aI a9)] [] := by
  unfold f_X12_word_311 at h
  refine v_iload C dX12_word_311 rfl ?_
  refine v_if_ne (tgt := 325) C dX12_word_313 (by decide) (fun c => ?_) (fun c => ?_)
  · replace h := ifT h c
    exact v_sb (p_X12_word_325 C F hk113 h) ⟨rfl, rfl, rfl, rfl, rfl, rfl, rfl, rfl, trivial⟩
  · replace h := ifF h c
    refine v_aload_n C dX12_word_316 rfl ?_
    obtain ⟨v, e, h⟩ := ob h
    refine v_getI C dX12_word_317 gf_X12_132 e ?_
    refine v_bipush (v := 6) C dX12_word_320 rfl ?_
    refine v_icmp_ne (tgt := 329) C dX12_word_322 (by decide) (fun c => ?_) (fun c => ?_)
    · replace h := ifT h c
      refine v_iconst (v := 0) C dX12_word_329 rfl ?_
      exact v_sb (p_X12_word_330 C F hk113 h) ⟨rfl, rfl, rfl, rfl, rfl, rfl, rfl, rfl, trivial⟩
    · replace h := ifF h c
      exact v_sb (p_X12_word_325 C F hk113 h) ⟨rfl, rfl, rfl, rfl, rfl, rfl, rfl, rfl, trivial⟩
set_option maxRecDepth 100000 in
set_option maxHeartbeats 4000000 in
theorem p_X12_word_279 {x : CX} {l : Launch} {g : CG} {rv : Unit} {μ0 μ9 : Mem} (C : Cx x l g mi_X12_word) (F : Prom x g mi_X12_word μ0 none μ9) {N : Nat} {k113 : (Option Nat) → Int32 → Int32 → Int32 → Int32 → Int32 → Int32 → Int32 → Mem → Option (Unit × Mem)} (hk113 : ∀ (a0 : Option Nat) (a1 : Int32) (a2 : Int32) (a3 : Int32) (a4 : Int32) (a5 : Int32) (a6 : Int32) (a7 : Int32) (μ : Mem), k113 a0 a1 a2 a3 a4 a5 a6 a7 μ = some (rv, μ9) → V x g 11 0 0 μ 113 [(0, aR a0), (1, aI a1), (2, aI a2), (3, aI a3), (4, aI a4), (5, aI a5), (6, aI a6), (7, aI a7)] []) {a0 : Option Nat} {a1 : Int32} {a2 : Int32} {a3 : Int32} {a4 : Int32} {a5 : Int32} {a6 : Int32} {a7 : Int32} {a8 : Int32} {a9 : Int32} {a10 : Int32} {μ : Mem} (h : f_X12_word_279 N k113 a0 a1 a2 a3 a4 a5 a6 a7 a8 a9 a10 μ = some (rv, μ9)) : V x g 11 0 0 μ 279 [(0, aR a0), (1, aI a1), (2, aI a2), (3, aI a3), (4, aI a4), (5, aI a5), (6, aI a6), (7, aI a7), (8, aI a8), (9, aI a9), (10, aI a10)] [] := by
  unfold f_X12_word_279 at h
  refine v_iload_n C dX12_word_279 rfl ?_
  refine v_if_le (tgt := 343) C dX12_word_280 (by decide) (fun c => ?_) (fun c => ?_)
  · replace h := ifT h c
    exact v_sb (p_X12_word_343 C F hk113 h) ⟨rfl, rfl, rfl, rfl, rfl, rfl, rfl, rfl, rfl, trivial⟩
  · replace h := ifF h c
    refine v_iload_n C dX12_word_283 rfl ?_
    refine v_iconst (v := -1) C dX12_word_284 rfl ?_
    refine v_icmp_eq (tgt := 343) C dX12_word_285 (by decide) (fun c => ?_) (fun c => ?_)
    · replace h := ifT h c
      exact v_sb (p_X12_word_343 C F hk113 h) ⟨rfl, rfl, rfl, rfl, rfl, rfl, rfl, rfl, rfl, trivial⟩
    · replace h := ifF h c
      refine v_iload C dX12_word_288 rfl ?_
      refine v_if_eq (tgt := 335) C dX12_word_290 (by decide) (fun c => ?_) (fun c => ?_)
      · replace h := ifT h c
        exact v_sb (p_X12_word_335 C F hk113 h) ⟨rfl, rfl, rfl, rfl, rfl, rfl, rfl, rfl, trivial⟩
      · replace h := ifF h c
        refine v_aload_n C dX12_word_293 rfl ?_
        obtain ⟨v, e, h⟩ := ob h
        refine v_getI C dX12_word_294 gf_X12_132 e ?_
        refine v_bipush (v := 6) C dX12_word_297 rfl ?_
        refine v_icmp_eq (tgt := 311) C dX12_word_299 (by decide) (fun c => ?_) (fun c => ?_)
        · replace h := ifT h c
          exact v_sb (p_X12_word_311 C F hk113 h) ⟨rfl, rfl, rfl, rfl, rfl, rfl, rfl, rfl, rfl, trivial⟩
        · replace h := ifF h c
          refine v_aload_n C dX12_word_302 rfl ?_
          obtain ⟨v, e, h⟩ := ob h
          refine v_getI C dX12_word_303 gf_X12_132 e ?_
          refine v_bipush (v := 7) C dX12_word_306 rfl ?_
          refine v_icmp_ne (tgt := 335) C dX12_word_308 (by decide) (fun c => ?_) (fun c => ?_)
          · replace h := ifT h c
            exact v_sb (p_X12_word_335 C F hk113 h) ⟨rfl, rfl, rfl, rfl, rfl, rfl, rfl, rfl, trivial⟩
          · replace h := ifF h c
            exact v_sb (p_X12_word_311 C F hk113 h) ⟨rfl, rfl, rfl, rfl, rfl, rfl, rfl, rfl, rfl, trivial⟩
set_option maxRecDepth 100000 in
set_option maxHeartbeats 4000000 in
theorem p_X12_word_278 {x : CX} {l : Launch} {g : CG} {rv : Unit} {μ0 μ9 : Mem} (C : Cx x l g mi_X12_word) (F : Prom x g mi_X12_word μ0 none μ9) {N : Nat} {k113 : (Option Nat) → Int32 → Int32 → Int32 → Int32 → Int32 → Int32 → Int32 → Mem → Option (Unit × Mem)} (hk113 : ∀ (a0 : Option Nat) (a1 : Int32) (a2 : Int32) (a3 : Int32) (a4 : Int32) (a5 : Int32) (a6 : Int32) (a7 : Int32) (μ : Mem), k113 a0 a1 a2 a3 a4 a5 a6 a7 μ = some (rv, μ9) → V x g 11 0 0 μ 113 [(0, aR a0), (1, aI a1), (2, aI a2), (3, aI a3), (4, aI a4), (5, aI a5), (6, aI a6), (7, aI a7)] []) {a0 : Option Nat} {a1 : Int32} {a3 : Int32} {a4 : Int32} {a5 : Int32} {a6 : Int32} {a7 : Int32} {a8 : Int32} {a9 : Int32} {a10 : Int32} {s0 : Int32} {μ : Mem} (h : f_X12_word_278 N k113 a0 a1 a3 a4 a5 a6 a7 a8 a9 a10 s0 μ = some (rv, μ9)) : V x g 11 0 0 μ 278 [(0, aR a0), (1, aI a1), (3, aI a3), (4, aI a4), (5, aI a5), (6, aI a6), (7, aI a7), (8, aI a8), (9, aI a9), (10, aI a10)] [aI s0] := by
  unfold f_X12_word_278 at h
  refine v_istore_n C dX12_word_278 (by decide) ?_
  exact v_sb (p_X12_word_279 C F hk113 h) ⟨rfl, rfl, rfl, rfl, rfl, rfl, rfl, rfl, rfl, rfl, rfl, trivial⟩
set_option maxRecDepth 100000 in
set_option maxHeartbeats 4000000 in
theorem p_X12_word_277 {x : CX} {l : Launch} {g : CG} {rv : Unit} {μ0 μ9 : Mem} (C : Cx x l g mi_X12_word) (F : Prom x g mi_X12_word μ0 none μ9) {N : Nat} {k113 : (Option Nat) → Int32 → Int32 → Int32 → Int32 → Int32 → Int32 → Int32 → Mem → Option (Unit × Mem)} (hk113 : ∀ (a0 : Option Nat) (a1 : Int32) (a2 : Int32) (a3 : Int32) (a4 : Int32) (a5 : Int32) (a6 : Int32) (a7 : Int32) (μ : Mem), k113 a0 a1 a2 a3 a4 a5 a6 a7 μ = some (rv, μ9) → V x g 11 0 0 μ 113 [(0, aR a0), (1, aI a1), (2, aI a2), (3, aI a3), (4, aI a4), (5, aI a5), (6, aI a6), (7, aI a7)] []) {a0 : Option Nat} {a1 : Int32} {a3 : Int32} {a4 : Int32} {a5 : Int32} {a6 : Int32} {a7 : Int32} {a8 : Int32} {a9 : Int32} {a10 : Int32} {μ : Mem} (h : f_X12_word_277 N k113 a0 a1 a3 a4 a5 a6 a7 a8 a9 a10 μ = some (rv, μ9)) : V x g 11 0 0 μ 277 [(0, aR a0), (1, aI a1), (3, aI a3), (4, aI a4), (5, aI a5), (6, aI a6), (7, aI a7), (8, aI a8), (9, aI a9), (10, aI a10)] [] := by
  unfold f_X12_word_277 at h
  refine v_iconst (v := -1) C dX12_word_277 rfl ?_
  exact v_sb (p_X12_word_278 C F hk113 h) ⟨rfl, rfl, rfl, rfl, rfl, rfl, rfl, rfl, rfl, rfl, trivial⟩
set_option maxRecDepth 100000 in
set_option maxHeartbeats 4000000 in
theorem p_X12_word_247 {x : CX} {l : Launch} {g : CG} {rv : Unit} {μ0 μ9 : Mem} (C : Cx x l g mi_X12_word) (F : Prom x g mi_X12_word μ0 none μ9) {N : Nat} {k113 : (Option Nat) → Int32 → Int32 → Int32 → Int32 → Int32 → Int32 → Int32 → Mem → Option (Unit × Mem)} (hk113 : ∀ (a0 : Option Nat) (a1 : Int32) (a2 : Int32) (a3 : Int32) (a4 : Int32) (a5 : Int32) (a6 : Int32) (a7 : Int32) (μ : Mem), k113 a0 a1 a2 a3 a4 a5 a6 a7 μ = some (rv, μ9) → V x g 11 0 0 μ 113 [(0, aR a0), (1, aI a1), (2, aI a2), (3, aI a3), (4, aI a4), (5, aI a5), (6, aI a6), (7, aI a7)] []) {a0 : Option Nat} {a1 : Int32} {a2 : Int32} {a3 : Int32} {a4 : Int32} {a5 : Int32} {a6 : Int32} {a7 : Int32} {a8 : Int32} {a9 : Int32} {s0 : Int32} {μ : Mem} (h : f_X12_word_247 N k113 a0 a1 a2 a3 a4 a5 a6 a7 a8 a9 s0 μ = some (rv, μ9)) : V x g 11 0 0 μ 247 [(0, aR a0), (1, aI a1), (2, aI a2), (3, aI a3), (4, aI a4), (5, aI a5), (6, aI a6), (7, aI a7), (8, aI a8), (9, aI a9)] [aI s0] := by
  unfold f_X12_word_247 at h
  refine v_istore C dX12_word_247 (by decide) ?_
  refine v_iload_n C dX12_word_249 rfl ?_
  refine v_if_ne (tgt := 279) C dX12_word_250 (by decide) (fun c => ?_) (fun c => ?_)
  · replace h := ifT h c
    exact v_sb (p_X12_word_279 C F hk113 h) ⟨rfl, rfl, rfl, rfl, rfl, rfl, rfl, rfl, rfl, rfl, rfl, trivial⟩
  · replace h := ifF h c
    refine v_iload C dX12_word_253 rfl ?_
    refine v_if_eq (tgt := 277) C dX12_word_255 (by decide) (fun c => ?_) (fun c => ?_)
    · replace h := ifT h c
      exact v_sb (p_X12_word_277 C F hk113 h) ⟨rfl, rfl, rfl, rfl, rfl, rfl, rfl, rfl, rfl, rfl, trivial⟩
    · replace h := ifF h c
      refine v_aload_n C dX12_word_258 rfl ?_
      obtain ⟨v, e, h⟩ := ob h
      refine v_getI C dX12_word_259 gf_X12_132 e ?_
      refine v_iconst (v := 0) C dX12_word_262 rfl ?_
      refine v_iconst (v := 5) C dX12_word_263 rfl ?_
      obtain ⟨q, e, h⟩ := ob h
      refine v_callS (As := [_, _, _]) C dX12_word_264 cf_X12_15 (rm_X12_word_X12_in) ⟨rfl, rfl⟩ rfl (Nat.le_of_ble_eq_true rfl) (c_X12_in _ _ N _ _ _ _ q.1 q.2 e) ?_
      refine v_if_eq (tgt := 277) C dX12_word_267 (by decide) (fun c => ?_) (fun c => ?_)
      · replace h := ifT h c
        exact v_sb (p_X12_word_277 C F hk113 h) ⟨rfl, rfl, rfl, rfl, rfl, rfl, rfl, rfl, rfl, rfl, trivial⟩
      · replace h := ifF h c
        refine v_aload_n C dX12_word_270 rfl ?_
        obtain ⟨v, e, h⟩ := ob h
        refine v_getI C dX12_word_271 gf_X12_132 e ?_
        refine v_goto (tgt := 278) C dX12_word_274 (by decide) ?_
        exact v_sb (p_X12_word_278 C F hk113 h) ⟨rfl, rfl, rfl, rfl, rfl, rfl, rfl, rfl, rfl, rfl, trivial⟩
set_option maxRecDepth 100000 in
set_option maxHeartbeats 4000000 in
theorem p_X12_word_246 {x : CX} {l : Launch} {g : CG} {rv : Unit} {μ0 μ9 : Mem} (C : Cx x l g mi_X12_word) (F : Prom x g mi_X12_word μ0 none μ9) {N : Nat} {k113 : (Option Nat) → Int32 → Int32 → Int32 → Int32 → Int32 → Int32 → Int32 → Mem → Option (Unit × Mem)} (hk113 : ∀ (a0 : Option Nat) (a1 : Int32) (a2 : Int32) (a3 : Int32) (a4 : Int32) (a5 : Int32) (a6 : Int32) (a7 : Int32) (μ : Mem), k113 a0 a1 a2 a3 a4 a5 a6 a7 μ = some (rv, μ9) → V x g 11 0 0 μ 113 [(0, aR a0), (1, aI a1), (2, aI a2), (3, aI a3), (4, aI a4), (5, aI a5), (6, aI a6), (7, aI a7)] []) {a0 : Option Nat} {a1 : Int32} {a2 : Int32} {a3 : Int32} {a4 : Int32} {a5 : Int32} {a6 : Int32} {a7 : Int32} {a8 : Int32} {a9 : Int32} {μ : Mem} (h : f_X12_word_246 N k113 a0 a1 a2 a3 a4 a5 a6 a7 a8 a9 μ = some (rv, μ9)) : V x g 11 0 0 μ 246 [(0, aR a0), (1, aI a1), (2, aI a2), (3, aI a3), (4, aI a4), (5, aI a5), (6, aI a6), (7, aI a7), (8, aI a8), (9, aI a9)] [] := by
  unfold f_X12_word_246 at h
  refine v_iconst (v := 0) C dX12_word_246 rfl ?_
  exact v_sb (p_X12_word_247 C F hk113 h) ⟨rfl, rfl, rfl, rfl, rfl, rfl, rfl, rfl, rfl, rfl, trivial⟩
set_option maxRecDepth 100000 in
set_option maxHeartbeats 4000000 in
theorem p_X12_word_219 {x : CX} {l : Launch} {g : CG} {rv : Unit} {μ0 μ9 : Mem} (C : Cx x l g mi_X12_word) (F : Prom x g mi_X12_word μ0 none μ9) {N : Nat} {k113 : (Option Nat) → Int32 → Int32 → Int32 → Int32 → Int32 → Int32 → Int32 → Mem → Option (Unit × Mem)} (hk113 : ∀ (a0 : Option Nat) (a1 : Int32) (a2 : Int32) (a3 : Int32) (a4 : Int32) (a5 : Int32) (a6 : Int32) (a7 : Int32) (μ : Mem), k113 a0 a1 a2 a3 a4 a5 a6 a7 μ = some (rv, μ9) → V x g 11 0 0 μ 113 [(0, aR a0), (1, aI a1), (2, aI a2), (3, aI a3), (4, aI a4), (5, aI a5), (6, aI a6), (7, aI a7)] []) {a0 : Option Nat} {a1 : Int32} {a2 : Int32} {a3 : Int32} {a4 : Int32} {a5 : Int32} {a6 : Int32} {a7 : Int32} {a8 : Int32} {s0 : Int32} {μ : Mem} (h : f_X12_word_219 N k113 a0 a1 a2 a3 a4 a5 a6 a7 a8 s0 μ = some (rv, μ9)) : V x g 11 0 0 μ 219 [(0, aR a0), (1, aI a1), (2, aI a2), (3, aI a3), (4, aI a4), (5, aI a5), (6, aI a6), (7, aI a7), (8, aI a8)] [aI s0] := by
  unfold f_X12_word_219 at h
  refine v_istore C dX12_word_219 (by decide) ?_
  refine v_aload_n C dX12_word_221 rfl ?_
  obtain ⟨v, e, h⟩ := ob h
  refine v_getI C dX12_word_222 gf_X12_19 e ?_
  refine v_if_le (tgt := 229) C dX12_word_225 (by decide) (fun c => ?_) (fun c => ?_)
  · replace h := ifT h c
    refine v_iload C dX12_word_229 rfl ?_
    refine v_if_ne (tgt := 246) C dX12_word_231 (by decide) (fun c => ?_) (fun c => ?_)
    · replace h := ifT h c
      exact v_sb (p_X12_word_246 C F hk113 h) ⟨rfl, rfl, rfl, rfl, rfl, rfl, rfl, rfl, rfl, rfl, trivial⟩
    · replace h := ifF h c
      refine v_aload_n C dX12_word_234 rfl ?_
      obtain ⟨v, e, h⟩ := ob h
      refine v_getI C dX12_word_235 gf_X12_132 e ?_
      refine v_iconst (v := -1) C dX12_word_238 rfl ?_
      refine v_icmp_eq (tgt := 246) C dX12_word_239 (by decide) (fun c => ?_) (fun c => ?_)
      · replace h := ifT h c
        exact v_sb (p_X12_word_246 C F hk113 h) ⟨rfl, rfl, rfl, rfl, rfl, rfl, rfl, rfl, rfl, rfl, trivial⟩
      · replace h := ifF h c
        refine v_iconst (v := 1) C dX12_word_242 rfl ?_
        refine v_goto (tgt := 247) C dX12_word_243 (by decide) ?_
        exact v_sb (p_X12_word_247 C F hk113 h) ⟨rfl, rfl, rfl, rfl, rfl, rfl, rfl, rfl, rfl, rfl, trivial⟩
  · replace h := ifF h c
    exact v_vret C F ⟨rfl, rfl, Nat.le_refl _⟩ dX12_word_228 h
set_option maxRecDepth 100000 in
set_option maxHeartbeats 4000000 in
theorem p_X12_word_201 {x : CX} {l : Launch} {g : CG} {rv : Unit} {μ0 μ9 : Mem} (C : Cx x l g mi_X12_word) (F : Prom x g mi_X12_word μ0 none μ9) {N : Nat} {k113 : (Option Nat) → Int32 → Int32 → Int32 → Int32 → Int32 → Int32 → Int32 → Mem → Option (Unit × Mem)} (hk113 : ∀ (a0 : Option Nat) (a1 : Int32) (a2 : Int32) (a3 : Int32) (a4 : Int32) (a5 : Int32) (a6 : Int32) (a7 : Int32) (μ : Mem), k113 a0 a1 a2 a3 a4 a5 a6 a7 μ = some (rv, μ9) → V x g 11 0 0 μ 113 [(0, aR a0), (1, aI a1), (2, aI a2), (3, aI a3), (4, aI a4), (5, aI a5), (6, aI a6), (7, aI a7)] []) {a0 : Option Nat} {a1 : Int32} {a2 : Int32} {a3 : Int32} {a4 : Int32} {a5 : Int32} {a6 : Int32} {a8 : Int32} {s0 : Int32} {μ : Mem} (h : f_X12_word_201 N k113 a0 a1 a2 a3 a4 a5 a6 a8 s0 μ = some (rv, μ9)) : V x g 11 0 0 μ 201 [(0, aR a0), (1, aI a1), (2, aI a2), (3, aI a3), (4, aI a4), (5, aI a5), (6, aI a6), (8, aI a8)] [aI s0] := by
  unfold f_X12_word_201 at h
  refine v_istore C dX12_word_201 (by decide) ?_
  refine v_iload C dX12_word_203 rfl ?_
  refine v_if_eq (tgt := 215) C dX12_word_205 (by decide) (fun c => ?_) (fun c => ?_)
  · replace h := ifT h c
    refine v_aload_n C dX12_word_215 rfl ?_
    obtain ⟨b, e0, h⟩ := ob h
    obtain ⟨q, e, h⟩ := ob h
    refine v_callV (As := []) C dX12_word_216 cf_X12_177 (rm_X12_word_X12_all) ⟨rfl, rfl⟩ e0 rfl (Nat.le_of_ble_eq_true rfl) (c_X12_all _ _ N _ _ q.1 q.2 e) ?_
    exact v_sb (p_X12_word_219 C F hk113 h) ⟨rfl, rfl, rfl, rfl, rfl, rfl, rfl, rfl, rfl, trivial⟩
  · replace h := ifF h c
    refine v_aload_n C dX12_word_208 rfl ?_
    obtain ⟨b, e0, h⟩ := ob h
    obtain ⟨q, e, h⟩ := ob h
    refine v_callV (As := []) C dX12_word_209 cf_X12_202 (rm_X12_word_X12_literal) ⟨rfl, rfl⟩ e0 rfl (Nat.le_of_ble_eq_true rfl) (c_X12_literal _ _ N _ _ q.1 q.2 e) ?_
    refine v_goto (tgt := 219) C dX12_word_212 (by decide) ?_
    exact v_sb (p_X12_word_219 C F hk113 h) ⟨rfl, rfl, rfl, rfl, rfl, rfl, rfl, rfl, rfl, trivial⟩
set_option maxRecDepth 100000 in
set_option maxHeartbeats 4000000 in
theorem p_X12_word_200 {x : CX} {l : Launch} {g : CG} {rv : Unit} {μ0 μ9 : Mem} (C : Cx x l g mi_X12_word) (F : Prom x g mi_X12_word μ0 none μ9) {N : Nat} {k113 : (Option Nat) → Int32 → Int32 → Int32 → Int32 → Int32 → Int32 → Int32 → Mem → Option (Unit × Mem)} (hk113 : ∀ (a0 : Option Nat) (a1 : Int32) (a2 : Int32) (a3 : Int32) (a4 : Int32) (a5 : Int32) (a6 : Int32) (a7 : Int32) (μ : Mem), k113 a0 a1 a2 a3 a4 a5 a6 a7 μ = some (rv, μ9) → V x g 11 0 0 μ 113 [(0, aR a0), (1, aI a1), (2, aI a2), (3, aI a3), (4, aI a4), (5, aI a5), (6, aI a6), (7, aI a7)] []) {a0 : Option Nat} {a1 : Int32} {a2 : Int32} {a3 : Int32} {a4 : Int32} {a5 : Int32} {a6 : Int32} {a8 : Int32} {μ : Mem} (h : f_X12_word_200 N k113 a0 a1 a2 a3 a4 a5 a6 a8 μ = some (rv, μ9)) : V x g 11 0 0 μ 200 [(0, aR a0), (1, aI a1), (2, aI a2), (3, aI a3), (4, aI a4), (5, aI a5), (6, aI a6), (8, aI a8)] [] := by
  unfold f_X12_word_200 at h
  refine v_iconst (v := 0) C dX12_word_200 rfl ?_
  exact v_sb (p_X12_word_201 C F hk113 h) ⟨rfl, rfl, rfl, rfl, rfl, rfl, rfl, rfl, trivial⟩
set_option maxRecDepth 100000 in
set_option maxHeartbeats 4000000 in
theorem p_X12_word_196 {x : CX} {l : Launch} {g : CG} {rv : Unit} {μ0 μ9 : Mem} (C : Cx x l g mi_X12_word) (F : Prom x g mi_X12_word μ0 none μ9) {N : Nat} {k113 : (Option Nat) → Int32 → Int32 → Int32 → Int32 → Int32 → Int32 → Int32 → Mem → Option (Unit × Mem)} (hk113 : ∀ (a0 : Option Nat) (a1 : Int32) (a2 : Int32) (a3 : Int32) (a4 : Int32) (a5 : Int32) (a6 : Int32) (a7 : Int32) (μ : Mem), k113 a0 a1 a2 a3 a4 a5 a6 a7 μ = some (rv, μ9) → V x g 11 0 0 μ 113 [(0, aR a0), (1, aI a1), (2, aI a2), (3, aI a3), (4, aI a4), (5, aI a5), (6, aI a6), (7, aI a7)] []) {a0 : Option Nat} {a1 : Int32} {a2 : Int32} {a3 : Int32} {a4 : Int32} {a5 : Int32} {a6 : Int32} {a8 : Int32} {μ : Mem} (h : f_X12_word_196 N k113 a0 a1 a2 a3 a4 a5 a6 a8 μ = some (rv, μ9)) : V x g 11 0 0 μ 196 [(0, aR a0), (1, aI a1), (2, aI a2), (3, aI a3), (4, aI a4), (5, aI a5), (6, aI a6), (8, aI a8)] [] := by
  unfold f_X12_word_196 at h
  refine v_iconst (v := 1) C dX12_word_196 rfl ?_
  refine v_goto (tgt := 201) C dX12_word_197 (by decide) ?_
  exact v_sb (p_X12_word_201 C F hk113 h) ⟨rfl, rfl, rfl, rfl, rfl, rfl, rfl, rfl, trivial⟩
set_option maxRecDepth 100000 in
set_option maxHeartbeats 4000000 in
theorem p_X12_word_150 {x : CX} {l : Launch} {g : CG} {rv : Unit} {μ0 μ9 : Mem} (C : Cx x l g mi_X12_word) (F : Prom x g mi_X12_word μ0 none μ9) {N : Nat} {k113 : (Option Nat) → Int32 → Int32 → Int32 → Int32 → Int32 → Int32 → Int32 → Mem → Option (Unit × Mem)} (hk113 : ∀ (a0 : Option Nat) (a1 : Int32) (a2 : Int32) (a3 : Int32) (a4 : Int32) (a5 : Int32) (a6 : Int32) (a7 : Int32) (μ : Mem), k113 a0 a1 a2 a3 a4 a5 a6 a7 μ = some (rv, μ9) → V x g 11 0 0 μ 113 [(0, aR a0), (1, aI a1), (2, aI a2), (3, aI a3), (4, aI a4), (5, aI a5), (6, aI a6), (7, aI a7)] []) {a0 : Option Nat} {a1 : Int32} {a2 : Int32} {a3 : Int32} {a4 : Int32} {a5 : Int32} {a6 : Int32} {μ : Mem} (h : f_X12_word_150 N k113 a0 a1 a2 a3 a4 a5 a6 μ = some (rv, μ9)) : V x g 11 0 0 μ 150 [(0, aR a0), (1, aI a1), (2, aI a2), (3, aI a3), (4, aI a4), (5, aI a5), (6, aI a6)] [] := by
  unfold f_X12_word_150 at h
  refine v_aload_n C dX12_word_150 rfl ?_
  obtain ⟨v, e, h⟩ := ob h
  refine v_getI C dX12_word_151 gf_X12_34 e ?_
  refine v_istore C dX12_word_154 (by decide) ?_
  refine v_iload C dX12_word_156 rfl ?_
  refine v_iconst (v := -1) C dX12_word_158 rfl ?_
  refine v_icmp_eq (tgt := 170) C dX12_word_159 (by decide) (fun c => ?_) (fun c => ?_)
  · replace h := ifT h c
    refine v_aload_n C dX12_word_170 rfl ?_
    obtain ⟨v, e, h⟩ := ob h
    refine v_getI C dX12_word_171 gf_X12_37 e ?_
    refine v_iconst (v := 4) C dX12_word_174 rfl ?_
    refine v_icmp_ne (tgt := 200) C dX12_word_175 (by decide) (fun c => ?_) (fun c => ?_)
    · replace h := ifT h c
      exact v_sb (p_X12_word_200 C F hk113 h) ⟨rfl, rfl, rfl, rfl, rfl, rfl, rfl, rfl, trivial⟩
    · replace h := ifF h c
      refine v_aload_n C dX12_word_178 rfl ?_
      obtain ⟨v, e, h⟩ := ob h
      refine v_getI C dX12_word_179 gf_X12_64 e ?_
      refine v_bipush (v := 40) C dX12_word_182 rfl ?_
      refine v_icmp_eq (tgt := 196) C dX12_word_184 (by decide) (fun c => ?_) (fun c => ?_)
      · replace h := ifT h c
        exact v_sb (p_X12_word_196 C F hk113 h) ⟨rfl, rfl, rfl, rfl, rfl, rfl, rfl, rfl, trivial⟩
      · replace h := ifF h c
        refine v_aload_n C dX12_word_187 rfl ?_
        obtain ⟨v, e, h⟩ := ob h
        refine v_getI C dX12_word_188 gf_X12_64 e ?_
        refine v_bipush (v := 91) C dX12_word_191 rfl ?_
        refine v_icmp_ne (tgt := 200) C dX12_word_193 (by decide) (fun c => ?_) (fun c => ?_)
        · replace h := ifT h c
          exact v_sb (p_X12_word_200 C F hk113 h) ⟨rfl, rfl, rfl, rfl, rfl, rfl, rfl, rfl, trivial⟩
        · replace h := ifF h c
          exact v_sb (p_X12_word_196 C F hk113 h) ⟨rfl, rfl, rfl, rfl, rfl, rfl, rfl, rfl, trivial⟩
  · replace h := ifF h c
    refine v_aload_n C dX12_word_162 rfl ?_
    refine v_iconst (v := 2) C dX12_word_163 rfl ?_
    refine v_iload C dX12_word_164 rfl ?_
    obtain ⟨b, e0, h⟩ := ob h
    obtain ⟨q, e, h⟩ := ob h
    refine v_callV (As := [_, _]) C dX12_word_166 cf_X12_57 (rm_X12_word_X12_fails) ⟨rfl, rfl⟩ e0 rfl (Nat.le_of_ble_eq_true rfl) (c_X12_fails _ _ N _ _ _ _ q.1 q.2 e) ?_
    exact v_vret C F ⟨rfl, rfl, Nat.le_refl _⟩ dX12_word_169 h
set_option maxRecDepth 100000 in
set_option maxHeartbeats 4000000 in
theorem pH_X12_word_113 {x : CX} {l : Launch} {g : CG} {rv : Unit} {μ0 μ9 : Mem} (C : Cx x l g mi_X12_word) (F : Prom x g mi_X12_word μ0 none μ9) {N : Nat} {k113 : (Option Nat) → Int32 → Int32 → Int32 → Int32 → Int32 → Int32 → Int32 → Mem → Option (Unit × Mem)} (hk113 : ∀ (a0 : Option Nat) (a1 : Int32) (a2 : Int32) (a3 : Int32) (a4 : Int32) (a5 : Int32) (a6 : Int32) (a7 : Int32) (μ : Mem), k113 a0 a1 a2 a3 a4 a5 a6 a7 μ = some (rv, μ9) → V x g 11 0 0 μ 113 [(0, aR a0), (1, aI a1), (2, aI a2), (3, aI a3), (4, aI a4), (5, aI a5), (6, aI a6), (7, aI a7)] []) {a0 : Option Nat} {a1 : Int32} {a2 : Int32} {a3 : Int32} {a4 : Int32} {a5 : Int32} {a6 : Int32} {a7 : Int32} {μ : Mem} (h : H_X12_word_113 N k113 a0 a1 a2 a3 a4 a5 a6 a7 μ = some (rv, μ9)) : V x g 11 0 0 μ 113 [(0, aR a0), (1, aI a1), (2, aI a2), (3, aI a3), (4, aI a4), (5, aI a5), (6, aI a6), (7, aI a7)] [] := by
  unfold H_X12_word_113 at h
  refine v_aload_n C dX12_word_113 rfl ?_
  obtain ⟨v, e, h⟩ := ob h
  refine v_getI C dX12_word_114 gf_X12_19 e ?_
  refine v_if_ne (tgt := 354) C dX12_word_117 (by decide) (fun c => ?_) (fun c => ?_)
  · replace h := ifT h c
    exact v_sb (p_X12_word_354 C F h) ⟨rfl, rfl, rfl, rfl, rfl, rfl, rfl, trivial⟩
  · replace h := ifF h c
    refine v_iload C dX12_word_120 rfl ?_
    refine v_if_ne (tgt := 354) C dX12_word_122 (by decide) (fun c => ?_) (fun c => ?_)
    · replace h := ifT h c
      exact v_sb (p_X12_word_354 C F h) ⟨rfl, rfl, rfl, rfl, rfl, rfl, rfl, trivial⟩
    · replace h := ifF h c
      refine v_aload_n C dX12_word_125 rfl ?_
      obtain ⟨b, e0, h⟩ := ob h
      obtain ⟨q, e, h⟩ := ob h
      refine v_callV (As := []) C dX12_word_126 cf_X12_186 (rm_X12_word_X12_beginsV) ⟨rfl, rfl⟩ e0 rfl (Nat.le_of_ble_eq_true rfl) (c_X12_beginsV _ _ N _ _ q.1 q.2 e) ?_
      refine v_if_ne (tgt := 150) C dX12_word_129 (by decide) (fun c => ?_) (fun c => ?_)
      · replace h := ifT h c
        exact v_sb (p_X12_word_150 C F hk113 h) ⟨rfl, rfl, rfl, rfl, rfl, rfl, rfl, trivial⟩
      · replace h := ifF h c
        refine v_aload_n C dX12_word_132 rfl ?_
        refine v_bipush (v := 40) C dX12_word_133 rfl ?_
        obtain ⟨b, e0, h⟩ := ob h
        obtain ⟨q, e, h⟩ := ob h
        refine v_callV (As := [_]) C dX12_word_135 cf_X12_123 (rm_X12_word_X12_isSign) ⟨rfl, rfl⟩ e0 rfl (Nat.le_of_ble_eq_true rfl) (c_X12_isSign _ _ N _ _ _ q.1 q.2 e) ?_
        refine v_if_ne (tgt := 150) C dX12_word_138 (by decide) (fun c => ?_) (fun c => ?_)
        · replace h := ifT h c
          exact v_sb (p_X12_word_150 C F hk113 h) ⟨rfl, rfl, rfl, rfl, rfl, rfl, rfl, trivial⟩
        · replace h := ifF h c
          refine v_aload_n C dX12_word_141 rfl ?_
          refine v_bipush (v := 91) C dX12_word_142 rfl ?_
          obtain ⟨b, e0, h⟩ := ob h
          obtain ⟨q, e, h⟩ := ob h
          refine v_callV (As := [_]) C dX12_word_144 cf_X12_123 (rm_X12_word_X12_isSign) ⟨rfl, rfl⟩ e0 rfl (Nat.le_of_ble_eq_true rfl) (c_X12_isSign _ _ N _ _ _ q.1 q.2 e) ?_
          refine v_if_eq (tgt := 354) C dX12_word_147 (by decide) (fun c => ?_) (fun c => ?_)
          · replace h := ifT h c
            exact v_sb (p_X12_word_354 C F h) ⟨rfl, rfl, rfl, rfl, rfl, rfl, rfl, trivial⟩
          · replace h := ifF h c
            exact v_sb (p_X12_word_150 C F hk113 h) ⟨rfl, rfl, rfl, rfl, rfl, rfl, rfl, trivial⟩
set_option maxRecDepth 100000 in
set_option maxHeartbeats 4000000 in
theorem pL_X12_word_113 {x : CX} {l : Launch} {g : CG} {rv : Unit} {μ0 μ9 : Mem} (C : Cx x l g mi_X12_word) (F : Prom x g mi_X12_word μ0 none μ9) (N : Nat) (n : Nat) : ∀ (a0 : Option Nat) (a1 : Int32) (a2 : Int32) (a3 : Int32) (a4 : Int32) (a5 : Int32) (a6 : Int32) (a7 : Int32) (μ : Mem), L_X12_word_113 N n a0 a1 a2 a3 a4 a5 a6 a7 μ = some (rv, μ9) → V x g 11 0 0 μ 113 [(0, aR a0), (1, aI a1), (2, aI a2), (3, aI a3), (4, aI a4), (5, aI a5), (6, aI a6), (7, aI a7)] [] := by
  induction n with
  | zero => intro a0 a1 a2 a3 a4 a5 a6 a7 μ h; cases h
  | succ n ih => intro a0 a1 a2 a3 a4 a5 a6 a7 μ h; exact pH_X12_word_113 C F ih h
set_option maxRecDepth 100000 in
set_option maxHeartbeats 4000000 in
theorem p_X12_word_105 {x : CX} {l : Launch} {g : CG} {rv : Unit} {μ0 μ9 : Mem} (C : Cx x l g mi_X12_word) (F : Prom x g mi_X12_word μ0 none μ9) {N : Nat} {a0 : Option Nat} {a1 : Int32} {a2 : Int32} {a3 : Int32} {a4 : Int32} {a5 : Int32} {a6 : Int32} {a7 : Int32} {μ : Mem} (h : f_X12_word_105 N a0 a1 a2 a3 a4 a5 a6 a7 μ = some (rv, μ9)) : V x g 11 0 0 μ 105 [(0, aR a0), (1, aI a1), (2, aI a2), (3, aI a3), (4, aI a4), (5, aI a5), (6, aI a6), (7, aI a7)] [] := by
  unfold f_X12_word_105 at h
  refine v_aload_n C dX12_word_105 rfl ?_
  obtain ⟨v, e, h⟩ := ob h
  refine v_getI C dX12_word_106 gf_X12_19 e ?_
  refine v_if_le (tgt := 113) C dX12_word_109 (by decide) (fun c => ?_) (fun c => ?_)
  · replace h := ifT h c
    exact v_sb (pL_X12_word_113 C F N N _ _ _ _ _ _ _ _ _ h) ⟨rfl, rfl, rfl, rfl, rfl, rfl, rfl, rfl, trivial⟩
  · replace h := ifF h c
    exact v_vret C F ⟨rfl, rfl, Nat.le_refl _⟩ dX12_word_112 h
set_option maxRecDepth 100000 in
set_option maxHeartbeats 4000000 in
theorem p_X12_word_53 {x : CX} {l : Launch} {g : CG} {rv : Unit} {μ0 μ9 : Mem} (C : Cx x l g mi_X12_word) (F : Prom x g mi_X12_word μ0 none μ9) {N : Nat} {a0 : Option Nat} {a1 : Int32} {a2 : Int32} {a3 : Int32} {a4 : Int32} {a5 : Int32} {a6 : Int32} {a7 : Int32} {μ : Mem} (h : f_X12_word_53 N a0 a1 a2 a3 a4 a5 a6 a7 μ = some (rv, μ9)) : V x g 11 0 0 μ 53 [(0, aR a0), (1, aI a1), (2, aI a2), (3, aI a3), (4, aI a4), (5, aI a5), (6, aI a6), (7, aI a7)] [] := by
  unfold f_X12_word_53 at h
  refine v_aload_n C dX12_word_53 rfl ?_
  obtain ⟨v, e, h⟩ := ob h
  refine v_getI C dX12_word_54 gf_X12_129 e ?_
  refine v_sipush (v := 4095) C dX12_word_57 rfl ?_
  refine v_icmp_le (tgt := 76) C dX12_word_60 (by decide) (fun c => ?_) (fun c => ?_)
  · replace h := ifT h c
    refine v_aload_n C dX12_word_76 rfl ?_
    obtain ⟨v, e, h⟩ := ob h
    refine v_getI C dX12_word_77 gf_X12_112 e ?_
    refine v_if_eq (tgt := 105) C dX12_word_80 (by decide) (fun c => ?_) (fun c => ?_)
    · replace h := ifT h c
      exact v_sb (p_X12_word_105 C F h) ⟨rfl, rfl, rfl, rfl, rfl, rfl, rfl, rfl, trivial⟩
    · replace h := ifF h c
      refine v_aload_n C dX12_word_83 rfl ?_
      obtain ⟨v, e, h⟩ := ob h
      refine v_getR C dX12_word_84 gf_X12_193 e ?_
      refine v_aload_n C dX12_word_87 rfl ?_
      obtain ⟨v, e, h⟩ := ob h
      refine v_getI C dX12_word_88 gf_X12_129 e ?_
      obtain ⟨v, e, h⟩ := ob h
      refine v_baload C dX12_word_91 e ?_
      refine v_if_eq (tgt := 105) C dX12_word_92 (by decide) (fun c => ?_) (fun c => ?_)
      · replace h := ifT h c
        exact v_sb (p_X12_word_105 C F h) ⟨rfl, rfl, rfl, rfl, rfl, rfl, rfl, rfl, trivial⟩
      · replace h := ifF h c
        refine v_aload_n C dX12_word_95 rfl ?_
        refine v_bipush (v := 8) C dX12_word_96 rfl ?_
        refine v_aload_n C dX12_word_98 rfl ?_
        obtain ⟨v, e, h⟩ := ob h
        refine v_getI C dX12_word_99 gf_X12_166 e ?_
        obtain ⟨b, e0, h⟩ := ob h
        obtain ⟨q, e, h⟩ := ob h
        refine v_callV (As := [_, _]) C dX12_word_102 cf_X12_57 (rm_X12_word_X12_fails) ⟨rfl, rfl⟩ e0 rfl (Nat.le_of_ble_eq_true rfl) (c_X12_fails _ _ N _ _ _ _ q.1 q.2 e) ?_
        exact v_sb (p_X12_word_105 C F h) ⟨rfl, rfl, rfl, rfl, rfl, rfl, rfl, rfl, trivial⟩
  · replace h := ifF h c
    refine v_aload_n C dX12_word_63 rfl ?_
    refine v_bipush (v := 6) C dX12_word_64 rfl ?_
    refine v_aload_n C dX12_word_66 rfl ?_
    obtain ⟨v, e, h⟩ := ob h
    refine v_getI C dX12_word_67 gf_X12_166 e ?_
    obtain ⟨b, e0, h⟩ := ob h
    obtain ⟨q, e, h⟩ := ob h
    refine v_callV (As := [_, _]) C dX12_word_70 cf_X12_57 (rm_X12_word_X12_fails) ⟨rfl, rfl⟩ e0 rfl (Nat.le_of_ble_eq_true rfl) (c_X12_fails _ _ N _ _ _ _ q.1 q.2 e) ?_
    refine v_goto (tgt := 105) C dX12_word_73 (by decide) ?_
    exact v_sb (p_X12_word_105 C F h) ⟨rfl, rfl, rfl, rfl, rfl, rfl, rfl, rfl, trivial⟩
set_option maxRecDepth 100000 in
set_option maxHeartbeats 4000000 in
theorem p_X12_word {x : CX} {l : Launch} {g : CG} {rv : Unit} {μ0 μ9 : Mem} (C : Cx x l g mi_X12_word) (F : Prom x g mi_X12_word μ0 none μ9) {N : Nat} {a0 : Option Nat} {μ : Mem} (h : f_X12_word N a0 μ = some (rv, μ9)) : V x g 11 0 0 μ 0 [(0, aR a0)] [] := by
  unfold f_X12_word at h
  refine v_iconst (v := 0) C dX12_word_0 rfl ?_
  refine v_istore_n C dX12_word_1 (by decide) ?_
  refine v_iconst (v := -1) C dX12_word_2 rfl ?_
  refine v_istore_n C dX12_word_3 (by decide) ?_
  refine v_iconst (v := 0) C dX12_word_4 rfl ?_
  refine v_istore_n C dX12_word_5 (by decide) ?_
  refine v_iconst (v := 0) C dX12_word_6 rfl ?_
  refine v_istore C dX12_word_7 (by decide) ?_
  refine v_iconst (v := -1) C dX12_word_9 rfl ?_
  refine v_istore C dX12_word_10 (by decide) ?_
  refine v_iconst (v := -1) C dX12_word_12 rfl ?_
  refine v_istore C dX12_word_13 (by decide) ?_
  refine v_iconst (v := 0) C dX12_word_15 rfl ?_
  refine v_istore C dX12_word_16 (by decide) ?_
  refine v_aload_n C dX12_word_18 rfl ?_
  obtain ⟨b, e0, h⟩ := ob h
  obtain ⟨q, e, h⟩ := ob h
  refine v_callV (As := []) C dX12_word_19 cf_X12_186 (rm_X12_word_X12_beginsV) ⟨rfl, rfl⟩ e0 rfl (Nat.le_of_ble_eq_true rfl) (c_X12_beginsV _ _ N _ _ q.1 q.2 e) ?_
  refine v_if_ne (tgt := 53) C dX12_word_22 (by decide) (fun c => ?_) (fun c => ?_)
  · replace h := ifT h c
    exact v_sb (p_X12_word_53 C F h) ⟨rfl, rfl, rfl, rfl, rfl, rfl, rfl, rfl, trivial⟩
  · replace h := ifF h c
    refine v_aload_n C dX12_word_25 rfl ?_
    refine v_bipush (v := 40) C dX12_word_26 rfl ?_
    obtain ⟨b, e0, h⟩ := ob h
    obtain ⟨q, e, h⟩ := ob h
    refine v_callV (As := [_]) C dX12_word_28 cf_X12_123 (rm_X12_word_X12_isSign) ⟨rfl, rfl⟩ e0 rfl (Nat.le_of_ble_eq_true rfl) (c_X12_isSign _ _ N _ _ _ q.1 q.2 e) ?_
    refine v_if_ne (tgt := 53) C dX12_word_31 (by decide) (fun c => ?_) (fun c => ?_)
    · replace h := ifT h c
      exact v_sb (p_X12_word_53 C F h) ⟨rfl, rfl, rfl, rfl, rfl, rfl, rfl, rfl, trivial⟩
    · replace h := ifF h c
      refine v_aload_n C dX12_word_34 rfl ?_
      refine v_bipush (v := 91) C dX12_word_35 rfl ?_
      obtain ⟨b, e0, h⟩ := ob h
      obtain ⟨q, e, h⟩ := ob h
      refine v_callV (As := [_]) C dX12_word_37 cf_X12_123 (rm_X12_word_X12_isSign) ⟨rfl, rfl⟩ e0 rfl (Nat.le_of_ble_eq_true rfl) (c_X12_isSign _ _ N _ _ _ q.1 q.2 e) ?_
      refine v_if_ne (tgt := 53) C dX12_word_40 (by decide) (fun c => ?_) (fun c => ?_)
      · replace h := ifT h c
        exact v_sb (p_X12_word_53 C F h) ⟨rfl, rfl, rfl, rfl, rfl, rfl, rfl, rfl, trivial⟩
      · replace h := ifF h c
        refine v_aload_n C dX12_word_43 rfl ?_
        refine v_iconst (v := 2) C dX12_word_44 rfl ?_
        refine v_aload_n C dX12_word_45 rfl ?_
        obtain ⟨v, e, h⟩ := ob h
        refine v_getI C dX12_word_46 gf_X12_34 e ?_
        obtain ⟨b, e0, h⟩ := ob h
        obtain ⟨q, e, h⟩ := ob h
        refine v_callV (As := [_, _]) C dX12_word_49 cf_X12_57 (rm_X12_word_X12_fails) ⟨rfl, rfl⟩ e0 rfl (Nat.le_of_ble_eq_true rfl) (c_X12_fails _ _ N _ _ _ _ q.1 q.2 e) ?_
        exact v_vret C F ⟨rfl, rfl, Nat.le_refl _⟩ dX12_word_52 h
set_option maxRecDepth 100000 in
set_option maxHeartbeats 4000000 in
theorem c_X12_word (l : Launch) (g : CG) (N : Nat) (a0 : Option Nat) (μ : Mem) (rv : Unit) (μ9 : Mem) (h : f_X12_word N a0 μ = some (rv, μ9)) : Ct l yX12_word mi_X12_word g [aR a0] μ none μ9 := ct_of ⟨by decide, rfl, rfl⟩ (Nat.le_of_ble_eq_true rfl) fun x C F => p_X12_word C F h
def f_X12_one_17 (N : Nat) (μ : Mem) : Option (Unit × Mem) :=
  some ((), μ)
def f_X12_one_231 (N : Nat) (μ : Mem) : Option (Unit × Mem) :=
  some ((), μ)
def f_X12_one_213 (N : Nat) (a0 : Option Nat) (s0 : Int32) (μ : Mem) : Option (Unit × Mem) :=
  if s0 = (((-1)) : Int32) then
    (mck μ a0 12).bind fun b2 =>
    (f_X12_word N (some b2) μ).bind fun q1 =>
    f_X12_one_231 N q1.2
  else
    (mck μ a0 12).bind fun b4 =>
    (f_X12_told N (some b4) s0 μ).bind fun q3 =>
    f_X12_one_231 N q3.2
def f_X12_one_184 (N : Nat) (a0 : Option Nat) (μ : Mem) : Option (Unit × Mem) :=
  (mfI μ a0 12 12).bind fun v1 =>
  if ¬ v1 = (1 : Int32) then
    f_X12_one_213 N a0 ((-1)) μ
  else
    (mfR μ a0 12 2).bind fun v2 =>
    (mfI μ a0 12 13).bind fun v3 =>
    (mfI μ a0 12 15).bind fun v4 =>
    (f_X12_find N 13 v2 v3 v4 μ).bind fun q5 =>
    f_X12_one_213 N a0 q5.1 q5.2
def f_X12_one_170 (N : Nat) (a0 : Option Nat) (a1 : Int32) (a2 : Int32) (a5 : Int32) (μ : Mem) : Option (Unit × Mem) :=
  (mfR μ a0 12 19).bind fun v1 =>
  (mck μ a0 12).bind fun b3 =>
  (f_X12_findTold N (some b3) a1 a2 μ).bind fun q2 =>
  (mbI q2.2 0 v1 q2.1 a5).bind fun μ4 =>
  some ((), μ4)
def f_X12_one_137 (N : Nat) (a0 : Option Nat) (a1 : Int32) (a2 : Int32) (a4 : Int32) (μ : Mem) : Option (Unit × Mem) :=
  (mck μ a0 12).bind fun b2 =>
  (f_X12_take N (some b2) μ).bind fun q1 =>
  (mck q1.2 a0 12).bind fun b4 =>
  (f_X12_asked N (some b4) q1.2).bind fun q3 =>
  (mfI q3.2 a0 12 5).bind fun v5 =>
  if v5 ≤ 0 then
    if a4 = 0 then
      f_X12_one_170 N a0 a1 a2 q3.1 q3.2
    else
      (mfI q3.2 a0 12 21).bind fun v6 =>
      (mpI q3.2 a0 12 21 (v6 + 1)).bind fun μ7 =>
      f_X12_one_170 N a0 a1 a2 q3.1 μ7
  else
    some ((), q3.2)
def f_X12_one_120 (N : Nat) (a0 : Option Nat) (a1 : Int32) (a2 : Int32) (s0 : Int32) (μ : Mem) : Option (Unit × Mem) :=
  if s0 = 0 then
    f_X12_one_137 N a0 a1 a2 s0 μ
  else
    (mfI μ a0 12 21).bind fun v1 =>
    (mpI μ a0 12 21 (v1 - 1)).bind fun μ2 =>
    f_X12_one_137 N a0 a1 a2 s0 μ2
def f_X12_one (N : Nat) (a0 : Option Nat) (μ : Mem) : Option (Unit × Mem) :=
  (mfI μ a0 12 12).bind fun v1 =>
  if v1 = (5 : Int32) then
    f_X12_one_17 N μ
  else
    (mck μ a0 12).bind fun b3 =>
    (f_X12_isSign N (some b3) 59 μ).bind fun q2 =>
    if q2.1 = 0 then
      (mck q2.2 a0 12).bind fun b5 =>
      (f_X12_isSign N (some b5) 36 q2.2).bind fun q4 =>
      if q4.1 = 0 then
        (mck q4.2 a0 12).bind fun b7 =>
        (f_X12_isSign N (some b7) 42 q4.2).bind fun q6 =>
        if q6.1 = 0 then
          (mfI q6.2 a0 12 12).bind fun v8 =>
          if ¬ v8 = (1 : Int32) then
            f_X12_one_184 N a0 q6.2
          else
            (mck q6.2 a0 12).bind fun b10 =>
            (f_X12_isNext N (some b10) 61 q6.2).bind fun q9 =>
            if q9.1 = 0 then
              f_X12_one_184 N a0 q9.2
            else
              (mfI q9.2 a0 12 13).bind fun v11 =>
              (mfI q9.2 a0 12 15).bind fun v12 =>
              (mck q9.2 a0 12).bind fun b14 =>
              (f_X12_take N (some b14) q9.2).bind fun q13 =>
              (mfI q13.2 a0 12 21).bind fun v15 =>
              (mck q13.2 a0 12).bind fun b17 =>
              (f_X12_tells N (some b17) v11 v12 ((-1)) 0 q13.2).bind fun q16 =>
              (mfI q16.2 a0 12 5).bind fun v18 =>
              if v18 ≤ 0 then
                (mfI q16.2 a0 12 21).bind fun v19 =>
                if v19 ≤ v15 then
                  f_X12_one_120 N a0 v11 v12 0 q16.2
                else
                  f_X12_one_120 N a0 v11 v12 1 q16.2
              else
                some ((), q16.2)
        else
          (mck q6.2 a0 12).bind fun b21 =>
          (f_X12_take N (some b21) q6.2).bind fun q20 =>
          (mck q20.2 a0 12).bind fun b23 =>
          (f_X12_asked N (some b23) q20.2).bind fun q22 =>
          (mpI q22.2 a0 12 11 q22.1).bind fun μ24 =>
          some ((), μ24)
      else
        (mpZ q4.2 a0 12 28 1).bind fun μ25 =>
        some ((), μ25)
    else
      f_X12_one_17 N q2.2
set_option maxRecDepth 100000 in
set_option maxHeartbeats 4000000 in
theorem p_X12_one_17 {x : CX} {l : Launch} {g : CG} {rv : Unit} {μ0 μ9 : Mem} (C : Cx x l g mi_X12_one) (F : Prom x g mi_X12_one μ0 none μ9) {N : Nat} {μ : Mem} (h : f_X12_one_17 N μ = some (rv, μ9)) : V x g 6 0 0 μ 17 [] [] := by
  unfold f_X12_one_17 at h
  exact v_vret C F ⟨rfl, rfl, Nat.le_refl _⟩ dX12_one_17 h
set_option maxRecDepth 100000 in
set_option maxHeartbeats 4000000 in
theorem p_X12_one_231 {x : CX} {l : Launch} {g : CG} {rv : Unit} {μ0 μ9 : Mem} (C : Cx x l g mi_X12_one) (F : Prom x g mi_X12_one μ0 none μ9) {N : Nat} {μ : Mem} (h : f_X12_one_231 N μ = some (rv, μ9)) : V x g 6 0 0 μ 231 [] [] := by
  unfold f_X12_one_231 at h
  exact v_vret C F ⟨rfl, rfl, Nat.le_refl _⟩ dX12_one_231 h
set_option maxRecDepth 100000 in
set_option maxHeartbeats 4000000 in
theorem p_X12_one_213 {x : CX} {l : Launch} {g : CG} {rv : Unit} {μ0 μ9 : Mem} (C : Cx x l g mi_X12_one) (F : Prom x g mi_X12_one μ0 none μ9) {N : Nat} {a0 : Option Nat} {s0 : Int32} {μ : Mem} (h : f_X12_one_213 N a0 s0 μ = some (rv, μ9)) : V x g 6 0 0 μ 213 [(0, aR a0)] [aI s0] := by
  unfold f_X12_one_213 at h
  refine v_istore_n C dX12_one_213 (by decide) ?_
  refine v_iload_n C dX12_one_214 rfl ?_
  refine v_iconst (v := -1) C dX12_one_215 rfl ?_
  refine v_icmp_eq (tgt := 227) C dX12_one_216 (by decide) (fun c => ?_) (fun c => ?_)
  · replace h := ifT h c
    refine v_aload_n C dX12_one_227 rfl ?_
    obtain ⟨b, e0, h⟩ := ob h
    obtain ⟨q, e, h⟩ := ob h
    refine v_callV (As := []) C dX12_one_228 cf_X12_174 (rm_X12_one_X12_word) ⟨rfl, rfl⟩ e0 rfl (Nat.le_of_ble_eq_true rfl) (c_X12_word _ _ N _ _ q.1 q.2 e) ?_
    exact v_sb (p_X12_one_231 C F h) trivial
  · replace h := ifF h c
    refine v_aload_n C dX12_one_219 rfl ?_
    refine v_iload_n C dX12_one_220 rfl ?_
    obtain ⟨b, e0, h⟩ := ob h
    obtain ⟨q, e, h⟩ := ob h
    refine v_callV (As := [_]) C dX12_one_221 cf_X12_172 (rm_X12_one_X12_told) ⟨rfl, rfl⟩ e0 rfl (Nat.le_of_ble_eq_true rfl) (c_X12_told _ _ N _ _ _ q.1 q.2 e) ?_
    refine v_goto (tgt := 231) C dX12_one_224 (by decide) ?_
    exact v_sb (p_X12_one_231 C F h) trivial
set_option maxRecDepth 100000 in
set_option maxHeartbeats 4000000 in
theorem p_X12_one_184 {x : CX} {l : Launch} {g : CG} {rv : Unit} {μ0 μ9 : Mem} (C : Cx x l g mi_X12_one) (F : Prom x g mi_X12_one μ0 none μ9) {N : Nat} {a0 : Option Nat} {μ : Mem} (h : f_X12_one_184 N a0 μ = some (rv, μ9)) : V x g 6 0 0 μ 184 [(0, aR a0)] [] := by
  unfold f_X12_one_184 at h
  refine v_aload_n C dX12_one_184 rfl ?_
  obtain ⟨v, e, h⟩ := ob h
  refine v_getI C dX12_one_185 gf_X12_37 e ?_
  refine v_iconst (v := 1) C dX12_one_188 rfl ?_
  refine v_icmp_ne (tgt := 212) C dX12_one_189 (by decide) (fun c => ?_) (fun c => ?_)
  · replace h := ifT h c
    refine v_iconst (v := -1) C dX12_one_212 rfl ?_
    exact v_sb (p_X12_one_213 C F h) ⟨rfl, trivial⟩
  · replace h := ifF h c
    refine v_ldcX C dX12_one_192 (Cex C).2.2.2.2.2.2.2.2.2.2.2.2 ?_
    refine v_aload_n C dX12_one_194 rfl ?_
    obtain ⟨v, e, h⟩ := ob h
    refine v_getR C dX12_one_195 gf_X12_28 e ?_
    refine v_aload_n C dX12_one_198 rfl ?_
    obtain ⟨v, e, h⟩ := ob h
    refine v_getI C dX12_one_199 gf_X12_34 e ?_
    refine v_aload_n C dX12_one_202 rfl ?_
    obtain ⟨v, e, h⟩ := ob h
    refine v_getI C dX12_one_203 gf_X12_54 e ?_
    obtain ⟨q, e, h⟩ := ob h
    refine v_callS (As := [_, _, _, _]) C dX12_one_206 cf_X12_103 (rm_X12_one_X12_find) ⟨rfl, rfl⟩ rfl (Nat.le_of_ble_eq_true rfl) (c_X12_find _ _ N _ _ _ _ _ q.1 q.2 e) ?_
    refine v_goto (tgt := 213) C dX12_one_209 (by decide) ?_
    exact v_sb (p_X12_one_213 C F h) ⟨rfl, trivial⟩
set_option maxRecDepth 100000 in
set_option maxHeartbeats 4000000 in
theorem p_X12_one_170 {x : CX} {l : Launch} {g : CG} {rv : Unit} {μ0 μ9 : Mem} (C : Cx x l g mi_X12_one) (F : Prom x g mi_X12_one μ0 none μ9) {N : Nat} {a0 : Option Nat} {a1 : Int32} {a2 : Int32} {a5 : Int32} {μ : Mem} (h : f_X12_one_170 N a0 a1 a2 a5 μ = some (rv, μ9)) : V x g 6 0 0 μ 170 [(0, aR a0), (1, aI a1), (2, aI a2), (5, aI a5)] [] := by
  unfold f_X12_one_170 at h
  refine v_aload_n C dX12_one_170 rfl ?_
  obtain ⟨v, e, h⟩ := ob h
  refine v_getR C dX12_one_171 gf_X12_120 e ?_
  refine v_aload_n C dX12_one_174 rfl ?_
  refine v_iload_n C dX12_one_175 rfl ?_
  refine v_iload_n C dX12_one_176 rfl ?_
  obtain ⟨b, e0, h⟩ := ob h
  obtain ⟨q, e, h⟩ := ob h
  refine v_callV (As := [_, _]) C dX12_one_177 cf_X12_109 (rm_X12_one_X12_findTold) ⟨rfl, rfl⟩ e0 rfl (Nat.le_of_ble_eq_true rfl) (c_X12_findTold _ _ N _ _ _ _ q.1 q.2 e) ?_
  refine v_iload C dX12_one_180 rfl ?_
  obtain ⟨m, e, h⟩ := ob h
  refine v_iastore C dX12_one_182 e ?_
  exact v_vret C F ⟨rfl, rfl, Nat.le_refl _⟩ dX12_one_183 h
set_option maxRecDepth 100000 in
set_option maxHeartbeats 4000000 in
theorem p_X12_one_137 {x : CX} {l : Launch} {g : CG} {rv : Unit} {μ0 μ9 : Mem} (C : Cx x l g mi_X12_one) (F : Prom x g mi_X12_one μ0 none μ9) {N : Nat} {a0 : Option Nat} {a1 : Int32} {a2 : Int32} {a4 : Int32} {μ : Mem} (h : f_X12_one_137 N a0 a1 a2 a4 μ = some (rv, μ9)) : V x g 6 0 0 μ 137 [(0, aR a0), (1, aI a1), (2, aI a2), (4, aI a4)] [] := by
  unfold f_X12_one_137 at h
  refine v_aload_n C dX12_one_137 rfl ?_
  obtain ⟨b, e0, h⟩ := ob h
  obtain ⟨q, e, h⟩ := ob h
  refine v_callV (As := []) C dX12_one_138 cf_X12_126 (rm_X12_one_X12_take) ⟨rfl, rfl⟩ e0 rfl (Nat.le_of_ble_eq_true rfl) (c_X12_take _ _ N _ _ q.1 q.2 e) ?_
  refine v_aload_n C dX12_one_141 rfl ?_
  obtain ⟨b, e0, h⟩ := ob h
  obtain ⟨q, e, h⟩ := ob h
  refine v_callV (As := []) C dX12_one_142 cf_X12_169 (rm_X12_one_X12_asked) ⟨rfl, rfl⟩ e0 rfl (Nat.le_of_ble_eq_true rfl) (c_X12_asked _ _ N _ _ q.1 q.2 e) ?_
  refine v_istore C dX12_one_145 (by decide) ?_
  refine v_aload_n C dX12_one_147 rfl ?_
  obtain ⟨v, e, h⟩ := ob h
  refine v_getI C dX12_one_148 gf_X12_19 e ?_
  refine v_if_le (tgt := 155) C dX12_one_151 (by decide) (fun c => ?_) (fun c => ?_)
  · replace h := ifT h c
    refine v_iload C dX12_one_155 rfl ?_
    refine v_if_eq (tgt := 170) C dX12_one_157 (by decide) (fun c => ?_) (fun c => ?_)
    · replace h := ifT h c
      exact v_sb (p_X12_one_170 C F h) ⟨rfl, rfl, rfl, rfl, trivial⟩
    · replace h := ifF h c
      refine v_aload_n C dX12_one_160 rfl ?_
      refine v_dup C dX12_one_161 rfl ?_
      obtain ⟨v, e, h⟩ := ob h
      refine v_getI C dX12_one_162 gf_X12_92 e ?_
      refine v_iconst (v := 1) C dX12_one_165 rfl ?_
      refine v_iadd C dX12_one_166 ?_
      obtain ⟨m, e, h⟩ := ob h
      refine v_putI C dX12_one_167 (pf_X12_92 _) e ?_
      exact v_sb (p_X12_one_170 C F h) ⟨rfl, rfl, rfl, rfl, trivial⟩
  · replace h := ifF h c
    exact v_vret C F ⟨rfl, rfl, Nat.le_refl _⟩ dX12_one_154 h
set_option maxRecDepth 100000 in
set_option maxHeartbeats 4000000 in
theorem p_X12_one_120 {x : CX} {l : Launch} {g : CG} {rv : Unit} {μ0 μ9 : Mem} (C : Cx x l g mi_X12_one) (F : Prom x g mi_X12_one μ0 none μ9) {N : Nat} {a0 : Option Nat} {a1 : Int32} {a2 : Int32} {s0 : Int32} {μ : Mem} (h : f_X12_one_120 N a0 a1 a2 s0 μ = some (rv, μ9)) : V x g 6 0 0 μ 120 [(0, aR a0), (1, aI a1), (2, aI a2)] [aI s0] := by
  unfold f_X12_one_120 at h
  refine v_istore C dX12_one_120 (by decide) ?_
  refine v_iload C dX12_one_122 rfl ?_
  refine v_if_eq (tgt := 137) C dX12_one_124 (by decide) (fun c => ?_) (fun c => ?_)
  · replace h := ifT h c
    exact v_sb (p_X12_one_137 C F h) ⟨rfl, rfl, rfl, rfl, trivial⟩
  · replace h := ifF h c
    refine v_aload_n C dX12_one_127 rfl ?_
    refine v_dup C dX12_one_128 rfl ?_
    obtain ⟨v, e, h⟩ := ob h
    refine v_getI C dX12_one_129 gf_X12_92 e ?_
    refine v_iconst (v := 1) C dX12_one_132 rfl ?_
    refine v_isub C dX12_one_133 ?_
    obtain ⟨m, e, h⟩ := ob h
    refine v_putI C dX12_one_134 (pf_X12_92 _) e ?_
    exact v_sb (p_X12_one_137 C F h) ⟨rfl, rfl, rfl, rfl, trivial⟩
set_option maxRecDepth 100000 in
set_option maxHeartbeats 4000000 in
theorem p_X12_one {x : CX} {l : Launch} {g : CG} {rv : Unit} {μ0 μ9 : Mem} (C : Cx x l g mi_X12_one) (F : Prom x g mi_X12_one μ0 none μ9) {N : Nat} {a0 : Option Nat} {μ : Mem} (h : f_X12_one N a0 μ = some (rv, μ9)) : V x g 6 0 0 μ 0 [(0, aR a0)] [] := by
  unfold f_X12_one at h
  refine v_aload_n C dX12_one_0 rfl ?_
  obtain ⟨v, e, h⟩ := ob h
  refine v_getI C dX12_one_1 gf_X12_37 e ?_
  refine v_iconst (v := 5) C dX12_one_4 rfl ?_
  refine v_icmp_eq (tgt := 17) C dX12_one_5 (by decide) (fun c => ?_) (fun c => ?_)
  · replace h := ifT h c
    exact v_sb (p_X12_one_17 C F h) trivial
  · replace h := ifF h c
    refine v_aload_n C dX12_one_8 rfl ?_
    refine v_bipush (v := 59) C dX12_one_9 rfl ?_
    obtain ⟨b, e0, h⟩ := ob h
    obtain ⟨q, e, h⟩ := ob h
    refine v_callV (As := [_]) C dX12_one_11 cf_X12_123 (rm_X12_one_X12_isSign) ⟨rfl, rfl⟩ e0 rfl (Nat.le_of_ble_eq_true rfl) (c_X12_isSign _ _ N _ _ _ q.1 q.2 e) ?_
    refine v_if_eq (tgt := 18) C dX12_one_14 (by decide) (fun c => ?_) (fun c => ?_)
    · replace h := ifT h c
      refine v_aload_n C dX12_one_18 rfl ?_
      refine v_bipush (v := 36) C dX12_one_19 rfl ?_
      obtain ⟨b, e0, h⟩ := ob h
      obtain ⟨q, e, h⟩ := ob h
      refine v_callV (As := [_]) C dX12_one_21 cf_X12_123 (rm_X12_one_X12_isSign) ⟨rfl, rfl⟩ e0 rfl (Nat.le_of_ble_eq_true rfl) (c_X12_isSign _ _ N _ _ _ q.1 q.2 e) ?_
      refine v_if_eq (tgt := 33) C dX12_one_24 (by decide) (fun c => ?_) (fun c => ?_)
      · replace h := ifT h c
        refine v_aload_n C dX12_one_33 rfl ?_
        refine v_bipush (v := 42) C dX12_one_34 rfl ?_
        obtain ⟨b, e0, h⟩ := ob h
        obtain ⟨q, e, h⟩ := ob h
        refine v_callV (As := [_]) C dX12_one_36 cf_X12_123 (rm_X12_one_X12_isSign) ⟨rfl, rfl⟩ e0 rfl (Nat.le_of_ble_eq_true rfl) (c_X12_isSign _ _ N _ _ _ q.1 q.2 e) ?_
        refine v_if_eq (tgt := 55) C dX12_one_39 (by decide) (fun c => ?_) (fun c => ?_)
        · replace h := ifT h c
          refine v_aload_n C dX12_one_55 rfl ?_
          obtain ⟨v, e, h⟩ := ob h
          refine v_getI C dX12_one_56 gf_X12_37 e ?_
          refine v_iconst (v := 1) C dX12_one_59 rfl ?_
          refine v_icmp_ne (tgt := 184) C dX12_one_60 (by decide) (fun c => ?_) (fun c => ?_)
          · replace h := ifT h c
            exact v_sb (p_X12_one_184 C F h) ⟨rfl, trivial⟩
          · replace h := ifF h c
            refine v_aload_n C dX12_one_63 rfl ?_
            refine v_bipush (v := 61) C dX12_one_64 rfl ?_
            obtain ⟨b, e0, h⟩ := ob h
            obtain ⟨q, e, h⟩ := ob h
            refine v_callV (As := [_]) C dX12_one_66 cf_X12_159 (rm_X12_one_X12_isNext) ⟨rfl, rfl⟩ e0 rfl (Nat.le_of_ble_eq_true rfl) (c_X12_isNext _ _ N _ _ _ q.1 q.2 e) ?_
            refine v_if_eq (tgt := 184) C dX12_one_69 (by decide) (fun c => ?_) (fun c => ?_)
            · replace h := ifT h c
              exact v_sb (p_X12_one_184 C F h) ⟨rfl, trivial⟩
            · replace h := ifF h c
              refine v_aload_n C dX12_one_72 rfl ?_
              obtain ⟨v, e, h⟩ := ob h
              refine v_getI C dX12_one_73 gf_X12_34 e ?_
              refine v_istore_n C dX12_one_76 (by decide) ?_
              refine v_aload_n C dX12_one_77 rfl ?_
              obtain ⟨v, e, h⟩ := ob h
              refine v_getI C dX12_one_78 gf_X12_54 e ?_
              refine v_istore_n C dX12_one_81 (by decide) ?_
              refine v_aload_n C dX12_one_82 rfl ?_
              obtain ⟨b, e0, h⟩ := ob h
              obtain ⟨q, e, h⟩ := ob h
              refine v_callV (As := []) C dX12_one_83 cf_X12_126 (rm_X12_one_X12_take) ⟨rfl, rfl⟩ e0 rfl (Nat.le_of_ble_eq_true rfl) (c_X12_take _ _ N _ _ q.1 q.2 e) ?_
              refine v_aload_n C dX12_one_86 rfl ?_
              obtain ⟨v, e, h⟩ := ob h
              refine v_getI C dX12_one_87 gf_X12_92 e ?_
              refine v_istore_n C dX12_one_90 (by decide) ?_
              refine v_aload_n C dX12_one_91 rfl ?_
              refine v_iload_n C dX12_one_92 rfl ?_
              refine v_iload_n C dX12_one_93 rfl ?_
              refine v_iconst (v := -1) C dX12_one_94 rfl ?_
              refine v_iconst (v := 0) C dX12_one_95 rfl ?_
              obtain ⟨b, e0, h⟩ := ob h
              obtain ⟨q, e, h⟩ := ob h
              refine v_callV (As := [_, _, _, _]) C dX12_one_96 cf_X12_162 (rm_X12_one_X12_tells) ⟨rfl, rfl⟩ e0 rfl (Nat.le_of_ble_eq_true rfl) (c_X12_tells _ _ N _ _ _ _ _ _ q.1 q.2 e) ?_
              refine v_aload_n C dX12_one_99 rfl ?_
              obtain ⟨v, e, h⟩ := ob h
              refine v_getI C dX12_one_100 gf_X12_19 e ?_
              refine v_if_le (tgt := 107) C dX12_one_103 (by decide) (fun c => ?_) (fun c => ?_)
              · replace h := ifT h c
                refine v_aload_n C dX12_one_107 rfl ?_
                obtain ⟨v, e, h⟩ := ob h
                refine v_getI C dX12_one_108 gf_X12_92 e ?_
                refine v_iload_n C dX12_one_111 rfl ?_
                refine v_icmp_le (tgt := 119) C dX12_one_112 (by decide) (fun c => ?_) (fun c => ?_)
                · replace h := ifT h c
                  refine v_iconst (v := 0) C dX12_one_119 rfl ?_
                  exact v_sb (p_X12_one_120 C F h) ⟨rfl, rfl, rfl, trivial⟩
                · replace h := ifF h c
                  refine v_iconst (v := 1) C dX12_one_115 rfl ?_
                  refine v_goto (tgt := 120) C dX12_one_116 (by decide) ?_
                  exact v_sb (p_X12_one_120 C F h) ⟨rfl, rfl, rfl, trivial⟩
              · replace h := ifF h c
                exact v_vret C F ⟨rfl, rfl, Nat.le_refl _⟩ dX12_one_106 h
        · replace h := ifF h c
          refine v_aload_n C dX12_one_42 rfl ?_
          obtain ⟨b, e0, h⟩ := ob h
          obtain ⟨q, e, h⟩ := ob h
          refine v_callV (As := []) C dX12_one_43 cf_X12_126 (rm_X12_one_X12_take) ⟨rfl, rfl⟩ e0 rfl (Nat.le_of_ble_eq_true rfl) (c_X12_take _ _ N _ _ q.1 q.2 e) ?_
          refine v_aload_n C dX12_one_46 rfl ?_
          refine v_aload_n C dX12_one_47 rfl ?_
          obtain ⟨b, e0, h⟩ := ob h
          obtain ⟨q, e, h⟩ := ob h
          refine v_callV (As := []) C dX12_one_48 cf_X12_169 (rm_X12_one_X12_asked) ⟨rfl, rfl⟩ e0 rfl (Nat.le_of_ble_eq_true rfl) (c_X12_asked _ _ N _ _ q.1 q.2 e) ?_
          obtain ⟨m, e, h⟩ := ob h
          refine v_putI C dX12_one_51 (pf_X12_129 _) e ?_
          exact v_vret C F ⟨rfl, rfl, Nat.le_refl _⟩ dX12_one_54 h
      · replace h := ifF h c
        refine v_aload_n C dX12_one_27 rfl ?_
        refine v_iconst (v := 1) C dX12_one_28 rfl ?_
        obtain ⟨m, e, h⟩ := ob h
        refine v_putZ C dX12_one_29 (pf_X12_147 _) e ?_
        exact v_vret C F ⟨rfl, rfl, Nat.le_refl _⟩ dX12_one_32 h
    · replace h := ifF h c
      exact v_sb (p_X12_one_17 C F h) trivial
set_option maxRecDepth 100000 in
set_option maxHeartbeats 4000000 in
theorem c_X12_one (l : Launch) (g : CG) (N : Nat) (a0 : Option Nat) (μ : Mem) (rv : Unit) (μ9 : Mem) (h : f_X12_one N a0 μ = some (rv, μ9)) : Ct l yX12_one mi_X12_one g [aR a0] μ none μ9 := ct_of ⟨by decide, rfl, rfl⟩ (Nat.le_of_ble_eq_true rfl) fun x C F => p_X12_one C F h
def f_X12_line_113 (N : Nat) (μ : Mem) : Option (Unit × Mem) :=
  some ((), μ)
def f_X12_line_91 (N : Nat) (a0 : Option Nat) (μ : Mem) : Option (Unit × Mem) :=
  (mfI μ a0 12 5).bind fun v1 =>
  if ¬ v1 = 0 then
    f_X12_line_113 N μ
  else
    (mfI μ a0 12 28).bind fun v2 =>
    if ¬ v2 = 0 then
      f_X12_line_113 N μ
    else
      (mfI μ a0 12 16).bind fun v3 =>
      (mpI μ a0 12 4 v3).bind fun μ4 =>
      f_X12_line_113 N μ4
def f_X12_line_39 (N : Nat) (k6 : (Option Nat) → Int32 → Mem → Option (Unit × Mem)) (a0 : Option Nat) (μ : Mem) : Option (Unit × Mem) :=
  (mck μ a0 12).bind fun b2 =>
  (f_X12_isSign N (some b2) 59 μ).bind fun q1 =>
  if q1.1 = 0 then
    (mfI q1.2 a0 12 5).bind fun v3 =>
    if ¬ v3 = 0 then
      k6 a0 q1.1 q1.2
    else
      (mfI q1.2 a0 12 28).bind fun v4 =>
      if ¬ v4 = 0 then
        k6 a0 q1.1 q1.2
      else
        (mfI q1.2 a0 12 12).bind fun v5 =>
        if v5 = (5 : Int32) then
          k6 a0 q1.1 q1.2
        else
          (mfI q1.2 a0 12 13).bind fun v6 =>
          (mck q1.2 a0 12).bind fun b8 =>
          (f_X12_fails N (some b8) 2 v6 q1.2).bind fun q7 =>
          k6 a0 q1.1 q7.2
  else
    (mck q1.2 a0 12).bind fun b10 =>
    (f_X12_take N (some b10) q1.2).bind fun q9 =>
    k6 a0 q1.1 q9.2
def H_X12_line_6 (N : Nat) (k6 : (Option Nat) → Int32 → Mem → Option (Unit × Mem)) (a0 : Option Nat) (a1 : Int32) (μ : Mem) : Option (Unit × Mem) :=
  if a1 = 0 then
    f_X12_line_91 N a0 μ
  else
    (mfI μ a0 12 5).bind fun v1 =>
    if ¬ v1 = 0 then
      f_X12_line_91 N a0 μ
    else
      (mfI μ a0 12 28).bind fun v2 =>
      if ¬ v2 = 0 then
        f_X12_line_91 N a0 μ
      else
        (mck μ a0 12).bind fun b4 =>
        (f_X12_labels N (some b4) μ).bind fun q3 =>
        (mfI q3.2 a0 12 5).bind fun v5 =>
        if ¬ v5 = 0 then
          f_X12_line_39 N k6 a0 q3.2
        else
          (mck q3.2 a0 12).bind fun b7 =>
          (f_X12_one N (some b7) q3.2).bind fun q6 =>
          f_X12_line_39 N k6 a0 q6.2
def L_X12_line_6 (N : Nat) : Nat → (Option Nat) → Int32 → Mem → Option (Unit × Mem)
  | 0 => fun _ _ _ => none
  | n + 1 => H_X12_line_6 N (L_X12_line_6 N n)
def f_X12_line (N : Nat) (a0 : Option Nat) (μ : Mem) : Option (Unit × Mem) :=
  (mck μ a0 12).bind fun b2 =>
  (f_X12_look N (some b2) μ).bind fun q1 =>
  L_X12_line_6 N N a0 1 q1.2
set_option maxRecDepth 100000 in
set_option maxHeartbeats 4000000 in
theorem p_X12_line_113 {x : CX} {l : Launch} {g : CG} {rv : Unit} {μ0 μ9 : Mem} (C : Cx x l g mi_X12_line) (F : Prom x g mi_X12_line μ0 none μ9) {N : Nat} {μ : Mem} (h : f_X12_line_113 N μ = some (rv, μ9)) : V x g 2 0 0 μ 113 [] [] := by
  unfold f_X12_line_113 at h
  exact v_vret C F ⟨rfl, rfl, Nat.le_refl _⟩ dX12_line_113 h
set_option maxRecDepth 100000 in
set_option maxHeartbeats 4000000 in
theorem p_X12_line_91 {x : CX} {l : Launch} {g : CG} {rv : Unit} {μ0 μ9 : Mem} (C : Cx x l g mi_X12_line) (F : Prom x g mi_X12_line μ0 none μ9) {N : Nat} {a0 : Option Nat} {μ : Mem} (h : f_X12_line_91 N a0 μ = some (rv, μ9)) : V x g 2 0 0 μ 91 [(0, aR a0)] [] := by
  unfold f_X12_line_91 at h
  refine v_aload_n C dX12_line_91 rfl ?_
  obtain ⟨v, e, h⟩ := ob h
  refine v_getI C dX12_line_92 gf_X12_19 e ?_
  refine v_if_ne (tgt := 113) C dX12_line_95 (by decide) (fun c => ?_) (fun c => ?_)
  · replace h := ifT h c
    exact v_sb (p_X12_line_113 C F h) trivial
  · replace h := ifF h c
    refine v_aload_n C dX12_line_98 rfl ?_
    obtain ⟨v, e, h⟩ := ob h
    refine v_getI C dX12_line_99 gf_X12_147 e ?_
    refine v_if_ne (tgt := 113) C dX12_line_102 (by decide) (fun c => ?_) (fun c => ?_)
    · replace h := ifT h c
      exact v_sb (p_X12_line_113 C F h) trivial
    · replace h := ifF h c
      refine v_aload_n C dX12_line_105 rfl ?_
      refine v_aload_n C dX12_line_106 rfl ?_
      obtain ⟨v, e, h⟩ := ob h
      refine v_getI C dX12_line_107 gf_X12_40 e ?_
      obtain ⟨m, e, h⟩ := ob h
      refine v_putI C dX12_line_110 (pf_X12_31 _) e ?_
      exact v_sb (p_X12_line_113 C F h) trivial
set_option maxRecDepth 100000 in
set_option maxHeartbeats 4000000 in
theorem p_X12_line_39 {x : CX} {l : Launch} {g : CG} {rv : Unit} {μ0 μ9 : Mem} (C : Cx x l g mi_X12_line) (F : Prom x g mi_X12_line μ0 none μ9) {N : Nat} {k6 : (Option Nat) → Int32 → Mem → Option (Unit × Mem)} (hk6 : ∀ (a0 : Option Nat) (a1 : Int32) (μ : Mem), k6 a0 a1 μ = some (rv, μ9) → V x g 2 0 0 μ 6 [(0, aR a0), (1, aI a1)] []) {a0 : Option Nat} {μ : Mem} (h : f_X12_line_39 N k6 a0 μ = some (rv, μ9)) : V x g 2 0 0 μ 39 [(0, aR a0)] [] := by
  unfold f_X12_line_39 at h
  refine v_aload_n C dX12_line_39 rfl ?_
  refine v_bipush (v := 59) C dX12_line_40 rfl ?_
  obtain ⟨b, e0, h⟩ := ob h
  obtain ⟨q, e, h⟩ := ob h
  refine v_callV (As := [_]) C dX12_line_42 cf_X12_123 (rm_X12_line_X12_isSign) ⟨rfl, rfl⟩ e0 rfl (Nat.le_of_ble_eq_true rfl) (c_X12_isSign _ _ N _ _ _ q.1 q.2 e) ?_
  refine v_istore_n C dX12_line_45 (by decide) ?_
  refine v_iload_n C dX12_line_46 rfl ?_
  refine v_if_eq (tgt := 57) C dX12_line_47 (by decide) (fun c => ?_) (fun c => ?_)
  · replace h := ifT h c
    refine v_aload_n C dX12_line_57 rfl ?_
    obtain ⟨v, e, h⟩ := ob h
    refine v_getI C dX12_line_58 gf_X12_19 e ?_
    refine v_if_ne (tgt := 6) C dX12_line_61 (by decide) (fun c => ?_) (fun c => ?_)
    · replace h := ifT h c
      exact v_sb (hk6 _ _ _ h) ⟨rfl, rfl, trivial⟩
    · replace h := ifF h c
      refine v_aload_n C dX12_line_64 rfl ?_
      obtain ⟨v, e, h⟩ := ob h
      refine v_getI C dX12_line_65 gf_X12_147 e ?_
      refine v_if_ne (tgt := 6) C dX12_line_68 (by decide) (fun c => ?_) (fun c => ?_)
      · replace h := ifT h c
        exact v_sb (hk6 _ _ _ h) ⟨rfl, rfl, trivial⟩
      · replace h := ifF h c
        refine v_aload_n C dX12_line_71 rfl ?_
        obtain ⟨v, e, h⟩ := ob h
        refine v_getI C dX12_line_72 gf_X12_37 e ?_
        refine v_iconst (v := 5) C dX12_line_75 rfl ?_
        refine v_icmp_eq (tgt := 6) C dX12_line_76 (by decide) (fun c => ?_) (fun c => ?_)
        · replace h := ifT h c
          exact v_sb (hk6 _ _ _ h) ⟨rfl, rfl, trivial⟩
        · replace h := ifF h c
          refine v_aload_n C dX12_line_79 rfl ?_
          refine v_iconst (v := 2) C dX12_line_80 rfl ?_
          refine v_aload_n C dX12_line_81 rfl ?_
          obtain ⟨v, e, h⟩ := ob h
          refine v_getI C dX12_line_82 gf_X12_34 e ?_
          obtain ⟨b, e0, h⟩ := ob h
          obtain ⟨q, e, h⟩ := ob h
          refine v_callV (As := [_, _]) C dX12_line_85 cf_X12_57 (rm_X12_line_X12_fails) ⟨rfl, rfl⟩ e0 rfl (Nat.le_of_ble_eq_true rfl) (c_X12_fails _ _ N _ _ _ _ q.1 q.2 e) ?_
          refine v_goto (tgt := 6) C dX12_line_88 (by decide) ?_
          exact v_sb (hk6 _ _ _ h) ⟨rfl, rfl, trivial⟩
  · replace h := ifF h c
    refine v_aload_n C dX12_line_50 rfl ?_
    obtain ⟨b, e0, h⟩ := ob h
    obtain ⟨q, e, h⟩ := ob h
    refine v_callV (As := []) C dX12_line_51 cf_X12_126 (rm_X12_line_X12_take) ⟨rfl, rfl⟩ e0 rfl (Nat.le_of_ble_eq_true rfl) (c_X12_take _ _ N _ _ q.1 q.2 e) ?_
    refine v_goto (tgt := 6) C dX12_line_54 (by decide) ?_
    exact v_sb (hk6 _ _ _ h) ⟨rfl, rfl, trivial⟩
set_option maxRecDepth 100000 in
set_option maxHeartbeats 4000000 in
theorem pH_X12_line_6 {x : CX} {l : Launch} {g : CG} {rv : Unit} {μ0 μ9 : Mem} (C : Cx x l g mi_X12_line) (F : Prom x g mi_X12_line μ0 none μ9) {N : Nat} {k6 : (Option Nat) → Int32 → Mem → Option (Unit × Mem)} (hk6 : ∀ (a0 : Option Nat) (a1 : Int32) (μ : Mem), k6 a0 a1 μ = some (rv, μ9) → V x g 2 0 0 μ 6 [(0, aR a0), (1, aI a1)] []) {a0 : Option Nat} {a1 : Int32} {μ : Mem} (h : H_X12_line_6 N k6 a0 a1 μ = some (rv, μ9)) : V x g 2 0 0 μ 6 [(0, aR a0), (1, aI a1)] [] := by
  unfold H_X12_line_6 at h
  refine v_iload_n C dX12_line_6 rfl ?_
  refine v_if_eq (tgt := 91) C dX12_line_7 (by decide) (fun c => ?_) (fun c => ?_)
  · replace h := ifT h c
    exact v_sb (p_X12_line_91 C F h) ⟨rfl, trivial⟩
  · replace h := ifF h c
    refine v_aload_n C dX12_line_10 rfl ?_
    obtain ⟨v, e, h⟩ := ob h
    refine v_getI C dX12_line_11 gf_X12_19 e ?_
    refine v_if_ne (tgt := 91) C dX12_line_14 (by decide) (fun c => ?_) (fun c => ?_)
    · replace h := ifT h c
      exact v_sb (p_X12_line_91 C F h) ⟨rfl, trivial⟩
    · replace h := ifF h c
      refine v_aload_n C dX12_line_17 rfl ?_
      obtain ⟨v, e, h⟩ := ob h
      refine v_getI C dX12_line_18 gf_X12_147 e ?_
      refine v_if_ne (tgt := 91) C dX12_line_21 (by decide) (fun c => ?_) (fun c => ?_)
      · replace h := ifT h c
        exact v_sb (p_X12_line_91 C F h) ⟨rfl, trivial⟩
      · replace h := ifF h c
        refine v_aload_n C dX12_line_24 rfl ?_
        obtain ⟨b, e0, h⟩ := ob h
        obtain ⟨q, e, h⟩ := ob h
        refine v_callV (As := []) C dX12_line_25 cf_X12_153 (rm_X12_line_X12_labels) ⟨rfl, rfl⟩ e0 rfl (Nat.le_of_ble_eq_true rfl) (c_X12_labels _ _ N _ _ q.1 q.2 e) ?_
        refine v_aload_n C dX12_line_28 rfl ?_
        obtain ⟨v, e, h⟩ := ob h
        refine v_getI C dX12_line_29 gf_X12_19 e ?_
        refine v_if_ne (tgt := 39) C dX12_line_32 (by decide) (fun c => ?_) (fun c => ?_)
        · replace h := ifT h c
          exact v_sb (p_X12_line_39 C F hk6 h) ⟨rfl, trivial⟩
        · replace h := ifF h c
          refine v_aload_n C dX12_line_35 rfl ?_
          obtain ⟨b, e0, h⟩ := ob h
          obtain ⟨q, e, h⟩ := ob h
          refine v_callV (As := []) C dX12_line_36 cf_X12_156 (rm_X12_line_X12_one) ⟨rfl, rfl⟩ e0 rfl (Nat.le_of_ble_eq_true rfl) (c_X12_one _ _ N _ _ q.1 q.2 e) ?_
          exact v_sb (p_X12_line_39 C F hk6 h) ⟨rfl, trivial⟩
set_option maxRecDepth 100000 in
set_option maxHeartbeats 4000000 in
theorem pL_X12_line_6 {x : CX} {l : Launch} {g : CG} {rv : Unit} {μ0 μ9 : Mem} (C : Cx x l g mi_X12_line) (F : Prom x g mi_X12_line μ0 none μ9) (N : Nat) (n : Nat) : ∀ (a0 : Option Nat) (a1 : Int32) (μ : Mem), L_X12_line_6 N n a0 a1 μ = some (rv, μ9) → V x g 2 0 0 μ 6 [(0, aR a0), (1, aI a1)] [] := by
  induction n with
  | zero => intro a0 a1 μ h; cases h
  | succ n ih => intro a0 a1 μ h; exact pH_X12_line_6 C F ih h
set_option maxRecDepth 100000 in
set_option maxHeartbeats 4000000 in
theorem p_X12_line {x : CX} {l : Launch} {g : CG} {rv : Unit} {μ0 μ9 : Mem} (C : Cx x l g mi_X12_line) (F : Prom x g mi_X12_line μ0 none μ9) {N : Nat} {a0 : Option Nat} {μ : Mem} (h : f_X12_line N a0 μ = some (rv, μ9)) : V x g 2 0 0 μ 0 [(0, aR a0)] [] := by
  unfold f_X12_line at h
  refine v_aload_n C dX12_line_0 rfl ?_
  obtain ⟨b, e0, h⟩ := ob h
  obtain ⟨q, e, h⟩ := ob h
  refine v_callV (As := []) C dX12_line_1 cf_X12_77 (rm_X12_line_X12_look) ⟨rfl, rfl⟩ e0 rfl (Nat.le_of_ble_eq_true rfl) (c_X12_look _ _ N _ _ q.1 q.2 e) ?_
  refine v_iconst (v := 1) C dX12_line_4 rfl ?_
  refine v_istore_n C dX12_line_5 (by decide) ?_
  exact v_sb (pL_X12_line_6 C F N N _ _ _ h) ⟨rfl, rfl, trivial⟩
set_option maxRecDepth 100000 in
set_option maxHeartbeats 4000000 in
theorem c_X12_line (l : Launch) (g : CG) (N : Nat) (a0 : Option Nat) (μ : Mem) (rv : Unit) (μ9 : Mem) (h : f_X12_line N a0 μ = some (rv, μ9)) : Ct l yX12_line mi_X12_line g [aR a0] μ none μ9 := ct_of ⟨by decide, rfl, rfl⟩ (Nat.le_of_ble_eq_true rfl) fun x C F => p_X12_line C F h
