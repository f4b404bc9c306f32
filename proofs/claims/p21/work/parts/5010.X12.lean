/-! LAYER 1, ShareEightModel: device, has, first (by program) -/
def f_X12_device_371 (N : Nat) (μ : Mem) : Option (Int32 × Mem) :=
  retZ 1 μ
def f_X12_device_203 (N : Nat) (a0 : Option Nat) (a1 : Int32) (μ : Mem) : Option (Int32 × Mem) :=
  (mfR μ a0 12 52).bind fun v1 =>
  (maR μ 3 v1 a1).bind fun v2 =>
  (mfR μ a0 12 53).bind fun v3 =>
  (maI μ 0 v3 a1).bind fun v4 =>
  (mfR μ a0 12 43).bind fun v5 =>
  (maI μ 0 v5 a1).bind fun v6 =>
  (mbI μ 0 v2 v4 (v6 &&& 127)).bind fun μ7 =>
  (mfR μ7 a0 12 53).bind fun v8 =>
  (maI μ7 0 v8 a1).bind fun v9 =>
  (mbI μ7 0 v8 a1 (v9 + 1)).bind fun μ10 =>
  f_X12_device_371 N μ10
def f_X12_device_274 (N : Nat) (a0 : Option Nat) (a1 : Int32) (μ : Mem) : Option (Int32 × Mem) :=
  (mfR μ a0 12 43).bind fun v1 =>
  (mbI μ 0 v1 a1 0).bind fun μ2 =>
  f_X12_device_371 N μ2
def f_X12_device_321 (N : Nat) (a0 : Option Nat) (a1 : Int32) (s0 : Option Nat) (s1 : Int32) (s2 : Int32) (μ : Mem) : Option (Int32 × Mem) :=
  (mbZ μ 2 s0 s1 s2).bind fun μ1 =>
  (mfR μ1 a0 12 60).bind fun v2 =>
  (mfR μ1 a0 12 43).bind fun v3 =>
  (maI μ1 0 v3 a1).bind fun v4 =>
  (mbI μ1 0 v2 a1 (v4 &&& 7)).bind fun μ5 =>
  (mfR μ5 a0 12 59).bind fun v6 =>
  (mfR μ5 a0 12 44).bind fun v7 =>
  (maI μ5 0 v7 a1).bind fun v8 =>
  (mbI μ5 0 v6 a1 v8).bind fun μ9 =>
  (mfR μ9 a0 12 58).bind fun v10 =>
  (mfI μ9 a0 12 76).bind fun v11 =>
  (mbI μ9 0 v10 a1 v11).bind fun μ12 =>
  (mfI μ12 a0 12 76).bind fun v13 =>
  (mpI μ12 a0 12 76 (v13 + 1)).bind fun μ14 =>
  retZ 0 μ14
def f_X12_device_294 (N : Nat) (a0 : Option Nat) (a1 : Int32) (μ : Mem) : Option (Int32 × Mem) :=
  (mfR μ a0 12 42).bind fun v1 =>
  (mbI μ 0 v1 a1 5).bind fun μ2 =>
  (mfR μ2 a0 12 61).bind fun v3 =>
  (mfI μ2 a0 12 78).bind fun v4 =>
  if ¬ v4 = (3361 : Int32) then
    f_X12_device_321 N a0 a1 v3 a1 0 μ2
  else
    f_X12_device_321 N a0 a1 v3 a1 1 μ2
def f_X12_device (N : Nat) (a0 : Option Nat) (a1 : Int32) (μ : Mem) : Option (Int32 × Mem) :=
  (mfI μ a0 12 78).bind fun v1 =>
  if v1 = 3097 then
    (mfR μ a0 12 50).bind fun v2 =>
    (maI μ 0 v2 a1).bind fun v3 =>
    if v3 ≤ 0 then
      f_X12_device_371 N μ
    else
      (mck μ a0 12).bind fun b5 =>
      (f_X12_skip N (some b5) a1 μ).bind fun q4 =>
      f_X12_device_371 N q4.2
  else
    if v1 = 3098 then
      (mfR μ a0 12 43).bind fun v6 =>
      (mbI μ 0 v6 a1 0).bind fun μ7 =>
      (mfR μ7 a0 12 50).bind fun v8 =>
      (maI μ7 0 v8 a1).bind fun v9 =>
      if v9 ≤ 0 then
        f_X12_device_371 N μ7
      else
        (mck μ7 a0 12).bind fun b11 =>
        (f_X12_goes N (some b11) a1 μ7).bind fun q10 =>
        f_X12_device_371 N q10.2
    else
      if v1 = 3100 then
        (mfR μ a0 12 43).bind fun v12 =>
        (maI μ 0 v12 a1).bind fun v13 =>
        (mfR μ a0 12 49).bind fun v14 =>
        (maR μ 3 v14 a1).bind fun v15 =>
        (maI μ 0 v15 0).bind fun v16 =>
        (mbI μ 0 v12 a1 (v13 ||| (v16 ||| 128))).bind fun μ17 =>
        f_X12_device_371 N μ17
      else
        if v1 = 3102 then
          (mfR μ a0 12 43).bind fun v18 =>
          (mfR μ a0 12 49).bind fun v19 =>
          (maR μ 3 v19 a1).bind fun v20 =>
          (maI μ 0 v20 0).bind fun v21 =>
          (mbI μ 0 v18 a1 (v21 ||| 128)).bind fun μ22 =>
          (mck μ22 a0 12).bind fun b24 =>
          (f_X12_goes N (some b24) a1 μ22).bind fun q23 =>
          f_X12_device_371 N q23.2
        else
          if v1 = 3105 then
            (mck μ a0 12).bind fun b26 =>
            (f_X12_skip N (some b26) a1 μ).bind fun q25 =>
            f_X12_device_371 N q25.2
          else
            if v1 = 3108 then
              f_X12_device_203 N a0 a1 μ
            else
              if v1 = 3110 then
                f_X12_device_203 N a0 a1 μ
              else
                if v1 = 3343 then
                  (mfR μ a0 12 43).bind fun v27 =>
                  (mbI μ 0 v27 a1 a1).bind fun μ28 =>
                  f_X12_device_371 N μ28
                else
                  if v1 = 3344 then
                    (mfR μ a0 12 43).bind fun v29 =>
                    (maI μ 0 v29 a1).bind fun v30 =>
                    if v30 ≤ 0 then
                      f_X12_device_274 N a0 a1 μ
                    else
                      (mfR μ a0 12 42).bind fun v31 =>
                      (mbI μ 0 v31 a1 4).bind fun μ32 =>
                      (mfR μ32 a0 12 57).bind fun v33 =>
                      (mfI μ32 a0 12 66).bind fun v34 =>
                      (mfR μ32 a0 12 43).bind fun v35 =>
                      (maI μ32 0 v35 a1).bind fun v36 =>
                      (mbI μ32 0 v33 a1 (v34 + (16 * v36))).bind fun μ37 =>
                      f_X12_device_274 N a0 a1 μ37
                  else
                    if v1 = 3360 then
                      f_X12_device_294 N a0 a1 μ
                    else
                      if v1 = 3361 then
                        f_X12_device_294 N a0 a1 μ
                      else
                        f_X12_device_371 N μ
set_option maxRecDepth 100000 in
set_option maxHeartbeats 4000000 in
theorem p_X12_device_371 {x : CX} {l : Launch} {g : CG} {rv : Int32} {μ0 μ9 : Mem} (C : Cx x l g mi_X12_device) (F : Prom x g mi_X12_device μ0 (some (aI rv)) μ9) {N : Nat} {μ : Mem} (h : f_X12_device_371 N μ = some (rv, μ9)) : V x g 2 0 0 μ 371 [] [] := by
  unfold f_X12_device_371 at h
  refine v_iconst (v := 1) C dX12_device_371 rfl ?_
  exact v_zret C F ⟨rfl, rfl, Nat.le_refl _⟩ dX12_device_372 h
set_option maxRecDepth 100000 in
set_option maxHeartbeats 4000000 in
theorem p_X12_device_203 {x : CX} {l : Launch} {g : CG} {rv : Int32} {μ0 μ9 : Mem} (C : Cx x l g mi_X12_device) (F : Prom x g mi_X12_device μ0 (some (aI rv)) μ9) {N : Nat} {a0 : Option Nat} {a1 : Int32} {μ : Mem} (h : f_X12_device_203 N a0 a1 μ = some (rv, μ9)) : V x g 2 0 0 μ 203 [(0, aR a0), (1, aI a1)] [] := by
  unfold f_X12_device_203 at h
  refine v_aload_n C dX12_device_203 rfl ?_
  obtain ⟨v, e, h⟩ := ob h
  refine v_getR C dX12_device_204 gf_X12_308 e ?_
  refine v_iload_n C dX12_device_207 rfl ?_
  obtain ⟨v, e, h⟩ := ob h
  refine v_aaload3 C dX12_device_208 e ?_
  refine v_aload_n C dX12_device_209 rfl ?_
  obtain ⟨v, e, h⟩ := ob h
  refine v_getR C dX12_device_210 gf_X12_311 e ?_
  refine v_iload_n C dX12_device_213 rfl ?_
  obtain ⟨v, e, h⟩ := ob h
  refine v_iaload C dX12_device_214 e ?_
  refine v_aload_n C dX12_device_215 rfl ?_
  obtain ⟨v, e, h⟩ := ob h
  refine v_getR C dX12_device_216 gf_X12_281 e ?_
  refine v_iload_n C dX12_device_219 rfl ?_
  obtain ⟨v, e, h⟩ := ob h
  refine v_iaload C dX12_device_220 e ?_
  refine v_bipush (v := 127) C dX12_device_221 rfl ?_
  refine v_iand C dX12_device_223 ?_
  obtain ⟨m, e, h⟩ := ob h
  refine v_iastore C dX12_device_224 e ?_
  refine v_aload_n C dX12_device_225 rfl ?_
  obtain ⟨v, e, h⟩ := ob h
  refine v_getR C dX12_device_226 gf_X12_311 e ?_
  refine v_iload_n C dX12_device_229 rfl ?_
  refine v_dup2 C dX12_device_230 rfl rfl ?_
  obtain ⟨v, e, h⟩ := ob h
  refine v_iaload C dX12_device_231 e ?_
  refine v_iconst (v := 1) C dX12_device_232 rfl ?_
  refine v_iadd C dX12_device_233 ?_
  obtain ⟨m, e, h⟩ := ob h
  refine v_iastore C dX12_device_234 e ?_
  refine v_goto (tgt := 371) C dX12_device_235 (by decide) ?_
  exact v_sb (p_X12_device_371 C F h) trivial
set_option maxRecDepth 100000 in
set_option maxHeartbeats 4000000 in
theorem p_X12_device_274 {x : CX} {l : Launch} {g : CG} {rv : Int32} {μ0 μ9 : Mem} (C : Cx x l g mi_X12_device) (F : Prom x g mi_X12_device μ0 (some (aI rv)) μ9) {N : Nat} {a0 : Option Nat} {a1 : Int32} {μ : Mem} (h : f_X12_device_274 N a0 a1 μ = some (rv, μ9)) : V x g 2 0 0 μ 274 [(0, aR a0), (1, aI a1)] [] := by
  unfold f_X12_device_274 at h
  refine v_aload_n C dX12_device_274 rfl ?_
  obtain ⟨v, e, h⟩ := ob h
  refine v_getR C dX12_device_275 gf_X12_281 e ?_
  refine v_iload_n C dX12_device_278 rfl ?_
  refine v_iconst (v := 0) C dX12_device_279 rfl ?_
  obtain ⟨m, e, h⟩ := ob h
  refine v_iastore C dX12_device_280 e ?_
  refine v_goto (tgt := 371) C dX12_device_281 (by decide) ?_
  exact v_sb (p_X12_device_371 C F h) trivial
set_option maxRecDepth 100000 in
set_option maxHeartbeats 4000000 in
theorem p_X12_device_321 {x : CX} {l : Launch} {g : CG} {rv : Int32} {μ0 μ9 : Mem} (C : Cx x l g mi_X12_device) (F : Prom x g mi_X12_device μ0 (some (aI rv)) μ9) {N : Nat} {a0 : Option Nat} {a1 : Int32} {s0 : Option Nat} {s1 : Int32} {s2 : Int32} {μ : Mem} (h : f_X12_device_321 N a0 a1 s0 s1 s2 μ = some (rv, μ9)) : V x g 2 0 0 μ 321 [(0, aR a0), (1, aI a1)] [aI s2, aI s1, aR s0] := by
  unfold f_X12_device_321 at h
  obtain ⟨m, e, h⟩ := ob h
  refine v_bastore C dX12_device_321 e ?_
  refine v_aload_n C dX12_device_322 rfl ?_
  obtain ⟨v, e, h⟩ := ob h
  refine v_getR C dX12_device_323 gf_X12_332 e ?_
  refine v_iload_n C dX12_device_326 rfl ?_
  refine v_aload_n C dX12_device_327 rfl ?_
  obtain ⟨v, e, h⟩ := ob h
  refine v_getR C dX12_device_328 gf_X12_281 e ?_
  refine v_iload_n C dX12_device_331 rfl ?_
  obtain ⟨v, e, h⟩ := ob h
  refine v_iaload C dX12_device_332 e ?_
  refine v_bipush (v := 7) C dX12_device_333 rfl ?_
  refine v_iand C dX12_device_335 ?_
  obtain ⟨m, e, h⟩ := ob h
  refine v_iastore C dX12_device_336 e ?_
  refine v_aload_n C dX12_device_337 rfl ?_
  obtain ⟨v, e, h⟩ := ob h
  refine v_getR C dX12_device_338 gf_X12_329 e ?_
  refine v_iload_n C dX12_device_341 rfl ?_
  refine v_aload_n C dX12_device_342 rfl ?_
  obtain ⟨v, e, h⟩ := ob h
  refine v_getR C dX12_device_343 gf_X12_284 e ?_
  refine v_iload_n C dX12_device_346 rfl ?_
  obtain ⟨v, e, h⟩ := ob h
  refine v_iaload C dX12_device_347 e ?_
  obtain ⟨m, e, h⟩ := ob h
  refine v_iastore C dX12_device_348 e ?_
  refine v_aload_n C dX12_device_349 rfl ?_
  obtain ⟨v, e, h⟩ := ob h
  refine v_getR C dX12_device_350 gf_X12_326 e ?_
  refine v_iload_n C dX12_device_353 rfl ?_
  refine v_aload_n C dX12_device_354 rfl ?_
  obtain ⟨v, e, h⟩ := ob h
  refine v_getI C dX12_device_355 gf_X12_472 e ?_
  obtain ⟨m, e, h⟩ := ob h
  refine v_iastore C dX12_device_358 e ?_
  refine v_aload_n C dX12_device_359 rfl ?_
  refine v_dup C dX12_device_360 rfl ?_
  obtain ⟨v, e, h⟩ := ob h
  refine v_getI C dX12_device_361 gf_X12_472 e ?_
  refine v_iconst (v := 1) C dX12_device_364 rfl ?_
  refine v_iadd C dX12_device_365 ?_
  obtain ⟨m, e, h⟩ := ob h
  refine v_putI C dX12_device_366 (pf_X12_472 _) e ?_
  refine v_iconst (v := 0) C dX12_device_369 rfl ?_
  exact v_zret C F ⟨rfl, rfl, Nat.le_refl _⟩ dX12_device_370 h
set_option maxRecDepth 100000 in
set_option maxHeartbeats 4000000 in
theorem p_X12_device_294 {x : CX} {l : Launch} {g : CG} {rv : Int32} {μ0 μ9 : Mem} (C : Cx x l g mi_X12_device) (F : Prom x g mi_X12_device μ0 (some (aI rv)) μ9) {N : Nat} {a0 : Option Nat} {a1 : Int32} {μ : Mem} (h : f_X12_device_294 N a0 a1 μ = some (rv, μ9)) : V x g 2 0 0 μ 294 [(0, aR a0), (1, aI a1)] [] := by
  unfold f_X12_device_294 at h
  refine v_aload_n C dX12_device_294 rfl ?_
  obtain ⟨v, e, h⟩ := ob h
  refine v_getR C dX12_device_295 gf_X12_278 e ?_
  refine v_iload_n C dX12_device_298 rfl ?_
  refine v_iconst (v := 5) C dX12_device_299 rfl ?_
  obtain ⟨m, e, h⟩ := ob h
  refine v_iastore C dX12_device_300 e ?_
  refine v_aload_n C dX12_device_301 rfl ?_
  obtain ⟨v, e, h⟩ := ob h
  refine v_getR C dX12_device_302 gf_X12_335 e ?_
  refine v_iload_n C dX12_device_305 rfl ?_
  refine v_aload_n C dX12_device_306 rfl ?_
  obtain ⟨v, e, h⟩ := ob h
  refine v_getI C dX12_device_307 gf_X12_438 e ?_
  refine v_sipush (v := 3361) C dX12_device_310 rfl ?_
  refine v_icmp_ne (tgt := 320) C dX12_device_313 (by decide) (fun c => ?_) (fun c => ?_)
  · replace h := ifT h c
    refine v_iconst (v := 0) C dX12_device_320 rfl ?_
    exact v_sb (p_X12_device_321 C F h) ⟨rfl, rfl, trivial⟩
  · replace h := ifF h c
    refine v_iconst (v := 1) C dX12_device_316 rfl ?_
    refine v_goto (tgt := 321) C dX12_device_317 (by decide) ?_
    exact v_sb (p_X12_device_321 C F h) ⟨rfl, rfl, trivial⟩
set_option maxRecDepth 100000 in
set_option maxHeartbeats 4000000 in
theorem p_X12_device {x : CX} {l : Launch} {g : CG} {rv : Int32} {μ0 μ9 : Mem} (C : Cx x l g mi_X12_device) (F : Prom x g mi_X12_device μ0 (some (aI rv)) μ9) {N : Nat} {a0 : Option Nat} {a1 : Int32} {μ : Mem} (h : f_X12_device N a0 a1 μ = some (rv, μ9)) : V x g 2 0 0 μ 0 [(0, aR a0), (1, aI a1)] [] := by
  unfold f_X12_device at h
  refine v_aload_n C dX12_device_0 rfl ?_
  obtain ⟨v, e, h⟩ := ob h
  refine v_getI C dX12_device_1 gf_X12_438 e ?_
  refine v_lookupswitch (dt := 371) (cs := [(3097, 104), (3098, 121), (3100, 145), (3102, 169), (3105, 195), (3108, 203), (3110, 203), (3343, 284), (3344, 238), (3360, 294), (3361, 294)]) C dX12_device_4 rfl (by decide) (by decide) ?_
  refine v_case (fun c => ?_) (fun c => ?_)
  · replace h := ifT h c
    refine v_aload_n C dX12_device_104 rfl ?_
    obtain ⟨v, e, h⟩ := ob h
    refine v_getR C dX12_device_105 gf_X12_302 e ?_
    refine v_iload_n C dX12_device_108 rfl ?_
    obtain ⟨v, e, h⟩ := ob h
    refine v_iaload C dX12_device_109 e ?_
    refine v_if_le (tgt := 371) C dX12_device_110 (by decide) (fun c => ?_) (fun c => ?_)
    · replace h := ifT h c
      exact v_sb (p_X12_device_371 C F h) trivial
    · replace h := ifF h c
      refine v_aload_n C dX12_device_113 rfl ?_
      refine v_iload_n C dX12_device_114 rfl ?_
      obtain ⟨b, e0, h⟩ := ob h
      obtain ⟨q, e, h⟩ := ob h
      refine v_callV (As := [_]) C dX12_device_115 cf_X12_460 (rm_X12_device_X12_skip) ⟨rfl, rfl⟩ e0 rfl (Nat.le_of_ble_eq_true rfl) (c_X12_skip _ _ N _ _ _ q.1 q.2 e) ?_
      refine v_goto (tgt := 371) C dX12_device_118 (by decide) ?_
      exact v_sb (p_X12_device_371 C F h) trivial
  · replace h := ifF h c
    refine v_case (fun c => ?_) (fun c => ?_)
    · replace h := ifT h c
      refine v_aload_n C dX12_device_121 rfl ?_
      obtain ⟨v, e, h⟩ := ob h
      refine v_getR C dX12_device_122 gf_X12_281 e ?_
      refine v_iload_n C dX12_device_125 rfl ?_
      refine v_iconst (v := 0) C dX12_device_126 rfl ?_
      obtain ⟨m, e, h⟩ := ob h
      refine v_iastore C dX12_device_127 e ?_
      refine v_aload_n C dX12_device_128 rfl ?_
      obtain ⟨v, e, h⟩ := ob h
      refine v_getR C dX12_device_129 gf_X12_302 e ?_
      refine v_iload_n C dX12_device_132 rfl ?_
      obtain ⟨v, e, h⟩ := ob h
      refine v_iaload C dX12_device_133 e ?_
      refine v_if_le (tgt := 371) C dX12_device_134 (by decide) (fun c => ?_) (fun c => ?_)
      · replace h := ifT h c
        exact v_sb (p_X12_device_371 C F h) trivial
      · replace h := ifF h c
        refine v_aload_n C dX12_device_137 rfl ?_
        refine v_iload_n C dX12_device_138 rfl ?_
        obtain ⟨b, e0, h⟩ := ob h
        obtain ⟨q, e, h⟩ := ob h
        refine v_callV (As := [_]) C dX12_device_139 cf_X12_469 (rm_X12_device_X12_goes) ⟨rfl, rfl⟩ e0 rfl (Nat.le_of_ble_eq_true rfl) (c_X12_goes _ _ N _ _ _ q.1 q.2 e) ?_
        refine v_goto (tgt := 371) C dX12_device_142 (by decide) ?_
        exact v_sb (p_X12_device_371 C F h) trivial
    · replace h := ifF h c
      refine v_case (fun c => ?_) (fun c => ?_)
      · replace h := ifT h c
        refine v_aload_n C dX12_device_145 rfl ?_
        obtain ⟨v, e, h⟩ := ob h
        refine v_getR C dX12_device_146 gf_X12_281 e ?_
        refine v_iload_n C dX12_device_149 rfl ?_
        refine v_dup2 C dX12_device_150 rfl rfl ?_
        obtain ⟨v, e, h⟩ := ob h
        refine v_iaload C dX12_device_151 e ?_
        refine v_aload_n C dX12_device_152 rfl ?_
        obtain ⟨v, e, h⟩ := ob h
        refine v_getR C dX12_device_153 gf_X12_299 e ?_
        refine v_iload_n C dX12_device_156 rfl ?_
        obtain ⟨v, e, h⟩ := ob h
        refine v_aaload3 C dX12_device_157 e ?_
        refine v_iconst (v := 0) C dX12_device_158 rfl ?_
        obtain ⟨v, e, h⟩ := ob h
        refine v_iaload C dX12_device_159 e ?_
        refine v_sipush (v := 128) C dX12_device_160 rfl ?_
        refine v_ior C dX12_device_163 ?_
        refine v_ior C dX12_device_164 ?_
        obtain ⟨m, e, h⟩ := ob h
        refine v_iastore C dX12_device_165 e ?_
        refine v_goto (tgt := 371) C dX12_device_166 (by decide) ?_
        exact v_sb (p_X12_device_371 C F h) trivial
      · replace h := ifF h c
        refine v_case (fun c => ?_) (fun c => ?_)
        · replace h := ifT h c
          refine v_aload_n C dX12_device_169 rfl ?_
          obtain ⟨v, e, h⟩ := ob h
          refine v_getR C dX12_device_170 gf_X12_281 e ?_
          refine v_iload_n C dX12_device_173 rfl ?_
          refine v_aload_n C dX12_device_174 rfl ?_
          obtain ⟨v, e, h⟩ := ob h
          refine v_getR C dX12_device_175 gf_X12_299 e ?_
          refine v_iload_n C dX12_device_178 rfl ?_
          obtain ⟨v, e, h⟩ := ob h
          refine v_aaload3 C dX12_device_179 e ?_
          refine v_iconst (v := 0) C dX12_device_180 rfl ?_
          obtain ⟨v, e, h⟩ := ob h
          refine v_iaload C dX12_device_181 e ?_
          refine v_sipush (v := 128) C dX12_device_182 rfl ?_
          refine v_ior C dX12_device_185 ?_
          obtain ⟨m, e, h⟩ := ob h
          refine v_iastore C dX12_device_186 e ?_
          refine v_aload_n C dX12_device_187 rfl ?_
          refine v_iload_n C dX12_device_188 rfl ?_
          obtain ⟨b, e0, h⟩ := ob h
          obtain ⟨q, e, h⟩ := ob h
          refine v_callV (As := [_]) C dX12_device_189 cf_X12_469 (rm_X12_device_X12_goes) ⟨rfl, rfl⟩ e0 rfl (Nat.le_of_ble_eq_true rfl) (c_X12_goes _ _ N _ _ _ q.1 q.2 e) ?_
          refine v_goto (tgt := 371) C dX12_device_192 (by decide) ?_
          exact v_sb (p_X12_device_371 C F h) trivial
        · replace h := ifF h c
          refine v_case (fun c => ?_) (fun c => ?_)
          · replace h := ifT h c
            refine v_aload_n C dX12_device_195 rfl ?_
            refine v_iload_n C dX12_device_196 rfl ?_
            obtain ⟨b, e0, h⟩ := ob h
            obtain ⟨q, e, h⟩ := ob h
            refine v_callV (As := [_]) C dX12_device_197 cf_X12_460 (rm_X12_device_X12_skip) ⟨rfl, rfl⟩ e0 rfl (Nat.le_of_ble_eq_true rfl) (c_X12_skip _ _ N _ _ _ q.1 q.2 e) ?_
            refine v_goto (tgt := 371) C dX12_device_200 (by decide) ?_
            exact v_sb (p_X12_device_371 C F h) trivial
          · replace h := ifF h c
            refine v_case (fun c => ?_) (fun c => ?_)
            · replace h := ifT h c
              exact v_sb (p_X12_device_203 C F h) ⟨rfl, rfl, trivial⟩
            · replace h := ifF h c
              refine v_case (fun c => ?_) (fun c => ?_)
              · replace h := ifT h c
                exact v_sb (p_X12_device_203 C F h) ⟨rfl, rfl, trivial⟩
              · replace h := ifF h c
                refine v_case (fun c => ?_) (fun c => ?_)
                · replace h := ifT h c
                  refine v_aload_n C dX12_device_284 rfl ?_
                  obtain ⟨v, e, h⟩ := ob h
                  refine v_getR C dX12_device_285 gf_X12_281 e ?_
                  refine v_iload_n C dX12_device_288 rfl ?_
                  refine v_iload_n C dX12_device_289 rfl ?_
                  obtain ⟨m, e, h⟩ := ob h
                  refine v_iastore C dX12_device_290 e ?_
                  refine v_goto (tgt := 371) C dX12_device_291 (by decide) ?_
                  exact v_sb (p_X12_device_371 C F h) trivial
                · replace h := ifF h c
                  refine v_case (fun c => ?_) (fun c => ?_)
                  · replace h := ifT h c
                    refine v_aload_n C dX12_device_238 rfl ?_
                    obtain ⟨v, e, h⟩ := ob h
                    refine v_getR C dX12_device_239 gf_X12_281 e ?_
                    refine v_iload_n C dX12_device_242 rfl ?_
                    obtain ⟨v, e, h⟩ := ob h
                    refine v_iaload C dX12_device_243 e ?_
                    refine v_if_le (tgt := 274) C dX12_device_244 (by decide) (fun c => ?_) (fun c => ?_)
                    · replace h := ifT h c
                      exact v_sb (p_X12_device_274 C F h) ⟨rfl, rfl, trivial⟩
                    · replace h := ifF h c
                      refine v_aload_n C dX12_device_247 rfl ?_
                      obtain ⟨v, e, h⟩ := ob h
                      refine v_getR C dX12_device_248 gf_X12_278 e ?_
                      refine v_iload_n C dX12_device_251 rfl ?_
                      refine v_iconst (v := 4) C dX12_device_252 rfl ?_
                      obtain ⟨m, e, h⟩ := ob h
                      refine v_iastore C dX12_device_253 e ?_
                      refine v_aload_n C dX12_device_254 rfl ?_
                      obtain ⟨v, e, h⟩ := ob h
                      refine v_getR C dX12_device_255 gf_X12_323 e ?_
                      refine v_iload_n C dX12_device_258 rfl ?_
                      refine v_aload_n C dX12_device_259 rfl ?_
                      obtain ⟨v, e, h⟩ := ob h
                      refine v_getI C dX12_device_260 gf_X12_378 e ?_
                      refine v_bipush (v := 16) C dX12_device_263 rfl ?_
                      refine v_aload_n C dX12_device_265 rfl ?_
                      obtain ⟨v, e, h⟩ := ob h
                      refine v_getR C dX12_device_266 gf_X12_281 e ?_
                      refine v_iload_n C dX12_device_269 rfl ?_
                      obtain ⟨v, e, h⟩ := ob h
                      refine v_iaload C dX12_device_270 e ?_
                      refine v_imul C dX12_device_271 ?_
                      refine v_iadd C dX12_device_272 ?_
                      obtain ⟨m, e, h⟩ := ob h
                      refine v_iastore C dX12_device_273 e ?_
                      exact v_sb (p_X12_device_274 C F h) ⟨rfl, rfl, trivial⟩
                  · replace h := ifF h c
                    refine v_case (fun c => ?_) (fun c => ?_)
                    · replace h := ifT h c
                      exact v_sb (p_X12_device_294 C F h) ⟨rfl, rfl, trivial⟩
                    · replace h := ifF h c
                      refine v_case (fun c => ?_) (fun c => ?_)
                      · replace h := ifT h c
                        exact v_sb (p_X12_device_294 C F h) ⟨rfl, rfl, trivial⟩
                      · replace h := ifF h c
                        refine v_caseD ?_
                        exact v_sb (p_X12_device_371 C F h) trivial
set_option maxRecDepth 100000 in
set_option maxHeartbeats 4000000 in
theorem c_X12_device (l : Launch) (g : CG) (N : Nat) (a0 : Option Nat) (a1 : Int32) (μ : Mem) (rv : Int32) (μ9 : Mem) (h : f_X12_device N a0 a1 μ = some (rv, μ9)) : Ct l yX12_device mi_X12_device g [aR a0, aI a1] μ (some (aI rv)) μ9 := ct_of ⟨by decide, rfl, rfl⟩ (Nat.le_of_ble_eq_true rfl) fun x C F => p_X12_device C F h
def f_X12_has_14 (N : Nat) (s0 : Int32) (μ : Mem) : Option (Int32 × Mem) :=
  retZ s0 μ
def f_X12_has (N : Nat) (a0 : Option Nat) (a1 : Int32) (μ : Mem) : Option (Int32 × Mem) :=
  (mfI μ a0 12 78).bind fun v1 =>
  if (v1 &&& a1) = 0 then
    f_X12_has_14 N 0 μ
  else
    f_X12_has_14 N 1 μ
set_option maxRecDepth 100000 in
set_option maxHeartbeats 4000000 in
theorem p_X12_has_14 {x : CX} {l : Launch} {g : CG} {rv : Int32} {μ0 μ9 : Mem} (C : Cx x l g mi_X12_has) (F : Prom x g mi_X12_has μ0 (some (aI rv)) μ9) {N : Nat} {s0 : Int32} {μ : Mem} (h : f_X12_has_14 N s0 μ = some (rv, μ9)) : V x g 2 0 0 μ 14 [] [aI s0] := by
  unfold f_X12_has_14 at h
  exact v_zret C F ⟨rfl, rfl, Nat.le_refl _⟩ dX12_has_14 h
set_option maxRecDepth 100000 in
set_option maxHeartbeats 4000000 in
theorem p_X12_has {x : CX} {l : Launch} {g : CG} {rv : Int32} {μ0 μ9 : Mem} (C : Cx x l g mi_X12_has) (F : Prom x g mi_X12_has μ0 (some (aI rv)) μ9) {N : Nat} {a0 : Option Nat} {a1 : Int32} {μ : Mem} (h : f_X12_has N a0 a1 μ = some (rv, μ9)) : V x g 2 0 0 μ 0 [(0, aR a0), (1, aI a1)] [] := by
  unfold f_X12_has at h
  refine v_aload_n C dX12_has_0 rfl ?_
  obtain ⟨v, e, h⟩ := ob h
  refine v_getI C dX12_has_1 gf_X12_438 e ?_
  refine v_iload_n C dX12_has_4 rfl ?_
  refine v_iand C dX12_has_5 ?_
  refine v_if_eq (tgt := 13) C dX12_has_6 (by decide) (fun c => ?_) (fun c => ?_)
  · replace h := ifT h c
    refine v_iconst (v := 0) C dX12_has_13 rfl ?_
    exact v_sb (p_X12_has_14 C F h) trivial
  · replace h := ifF h c
    refine v_iconst (v := 1) C dX12_has_9 rfl ?_
    refine v_goto (tgt := 14) C dX12_has_10 (by decide) ?_
    exact v_sb (p_X12_has_14 C F h) trivial
set_option maxRecDepth 100000 in
set_option maxHeartbeats 4000000 in
theorem c_X12_has (l : Launch) (g : CG) (N : Nat) (a0 : Option Nat) (a1 : Int32) (μ : Mem) (rv : Int32) (μ9 : Mem) (h : f_X12_has N a0 a1 μ = some (rv, μ9)) : Ct l yX12_has mi_X12_has g [aR a0, aI a1] μ (some (aI rv)) μ9 := ct_of ⟨by decide, rfl, rfl⟩ (Nat.le_of_ble_eq_true rfl) fun x C F => p_X12_has C F h
def f_X12_first_240 (N : Nat) (a0 : Option Nat) (a1 : Int32) (a2 : Int32) (μ : Mem) : Option (Unit × Mem) :=
  (mfR μ a0 12 46).bind fun v1 =>
  (mbI μ 0 v1 a1 (a2 >>> ((12 : Int32) &&& 31))).bind fun μ2 =>
  (mfR μ2 a0 12 43).bind fun v3 =>
  (mbI μ2 0 v3 a1 (a2 &&& 4095)).bind fun μ4 =>
  some ((), μ4)
def f_X12_first_193 (N : Nat) (a0 : Option Nat) (a1 : Int32) (a2 : Int32) (μ : Mem) : Option (Unit × Mem) :=
  (mck μ a0 12).bind fun b2 =>
  (f_X12_has N (some b2) 2 μ).bind fun q1 =>
  if q1.1 = 0 then
    f_X12_first_240 N a0 a1 a2 q1.2
  else
    (mck q1.2 a0 12).bind fun b4 =>
    (f_X12_has N (some b4) 8 q1.2).bind fun q3 =>
    if ¬ q3.1 = 0 then
      f_X12_first_240 N a0 a1 a2 q3.2
    else
      (mck q3.2 a0 12).bind fun b6 =>
      (f_X12_has N (some b6) 4 q3.2).bind fun q5 =>
      if ¬ q5.1 = 0 then
        f_X12_first_240 N a0 a1 a2 q5.2
      else
        f_X12_first_240 N a0 a1 (((a2 &&& 4096) ||| ((a2 &&& 63) <<< ((6 : Int32) &&& 31))) ||| ((a2 >>> ((6 : Int32) &&& 31)) &&& 63)) q5.2
def f_X12_first_186 (N : Nat) (k132 : (Option Nat) → Int32 → Int32 → Int32 → Int32 → Mem → Option (Unit × Mem)) (a0 : Option Nat) (a1 : Int32) (a3 : Int32) (a4 : Int32) (s0 : Int32) (μ : Mem) : Option (Unit × Mem) :=
  k132 a0 a1 s0 a3 (a4 + 1) μ
def H_X12_first_132 (N : Nat) (k132 : (Option Nat) → Int32 → Int32 → Int32 → Int32 → Mem → Option (Unit × Mem)) (a0 : Option Nat) (a1 : Int32) (a2 : Int32) (a3 : Int32) (a4 : Int32) (μ : Mem) : Option (Unit × Mem) :=
  if a3 ≤ a4 then
    f_X12_first_193 N a0 a1 a2 μ
  else
    (mck μ a0 12).bind fun b2 =>
    (f_X12_has N (some b2) 8 μ).bind fun q1 =>
    (mck q1.2 a0 12).bind fun b4 =>
    (f_X12_has N (some b4) 4 q1.2).bind fun q3 =>
    if q1.1 = q3.1 then
      f_X12_first_193 N a0 a1 a2 q3.2
    else
      (mck q3.2 a0 12).bind fun b6 =>
      (f_X12_has N (some b6) 8 q3.2).bind fun q5 =>
      if q5.1 = 0 then
        f_X12_first_186 N k132 a0 a1 a3 a4 (((a2 <<< ((1 : Int32) &&& 31)) &&& 8191) ||| (a2 >>> ((12 : Int32) &&& 31))) q5.2
      else
        f_X12_first_186 N k132 a0 a1 a3 a4 ((a2 >>> ((1 : Int32) &&& 31)) ||| ((a2 &&& 1) <<< ((12 : Int32) &&& 31))) q5.2
def L_X12_first_132 (N : Nat) : Nat → (Option Nat) → Int32 → Int32 → Int32 → Int32 → Mem → Option (Unit × Mem)
  | 0 => fun _ _ _ _ _ _ => none
  | n + 1 => H_X12_first_132 N (L_X12_first_132 N n)
def f_X12_first_128 (N : Nat) (a0 : Option Nat) (a1 : Int32) (a2 : Int32) (s0 : Int32) (μ : Mem) : Option (Unit × Mem) :=
  L_X12_first_132 N N a0 a1 a2 s0 0 μ
def f_X12_first_115 (N : Nat) (a0 : Option Nat) (a1 : Int32) (a2 : Int32) (μ : Mem) : Option (Unit × Mem) :=
  (mck μ a0 12).bind fun b2 =>
  (f_X12_has N (some b2) 2 μ).bind fun q1 =>
  if q1.1 = 0 then
    f_X12_first_128 N a0 a1 a2 1 q1.2
  else
    f_X12_first_128 N a0 a1 a2 2 q1.2
def f_X12_first_81 (N : Nat) (a0 : Option Nat) (a1 : Int32) (μ : Mem) : Option (Unit × Mem) :=
  (mfR μ a0 12 46).bind fun v1 =>
  (maI μ 0 v1 a1).bind fun v2 =>
  (mfR μ a0 12 43).bind fun v3 =>
  (maI μ 0 v3 a1).bind fun v4 =>
  (mck μ a0 12).bind fun b6 =>
  (f_X12_has N (some b6) 1 μ).bind fun q5 =>
  if q5.1 = 0 then
    f_X12_first_115 N a0 a1 ((4096 * v2) + v4) q5.2
  else
    f_X12_first_115 N a0 a1 ((((4096 * v2) + v4) + 1) &&& 8191) q5.2
def f_X12_first_58 (N : Nat) (a0 : Option Nat) (a1 : Int32) (μ : Mem) : Option (Unit × Mem) :=
  (mck μ a0 12).bind fun b2 =>
  (f_X12_has N (some b2) 16 μ).bind fun q1 =>
  if q1.1 = 0 then
    f_X12_first_81 N a0 a1 q1.2
  else
    (mfR q1.2 a0 12 46).bind fun v3 =>
    (mfR q1.2 a0 12 46).bind fun v4 =>
    (maI q1.2 0 v4 a1).bind fun v5 =>
    (mbI q1.2 0 v3 a1 (1 - v5)).bind fun μ6 =>
    f_X12_first_81 N a0 a1 μ6
def f_X12_first_33 (N : Nat) (a0 : Option Nat) (a1 : Int32) (μ : Mem) : Option (Unit × Mem) :=
  (mck μ a0 12).bind fun b2 =>
  (f_X12_has N (some b2) 32 μ).bind fun q1 =>
  if q1.1 = 0 then
    f_X12_first_58 N a0 a1 q1.2
  else
    (mfR q1.2 a0 12 43).bind fun v3 =>
    (mfR q1.2 a0 12 43).bind fun v4 =>
    (maI q1.2 0 v4 a1).bind fun v5 =>
    (mbI q1.2 0 v3 a1 (4095 - v5)).bind fun μ6 =>
    f_X12_first_58 N a0 a1 μ6
def f_X12_first_17 (N : Nat) (a0 : Option Nat) (a1 : Int32) (μ : Mem) : Option (Unit × Mem) :=
  (mck μ a0 12).bind fun b2 =>
  (f_X12_has N (some b2) 64 μ).bind fun q1 =>
  if q1.1 = 0 then
    f_X12_first_33 N a0 a1 q1.2
  else
    (mfR q1.2 a0 12 46).bind fun v3 =>
    (mbI q1.2 0 v3 a1 0).bind fun μ4 =>
    f_X12_first_33 N a0 a1 μ4
def f_X12_first (N : Nat) (a0 : Option Nat) (a1 : Int32) (μ : Mem) : Option (Unit × Mem) :=
  (mck μ a0 12).bind fun b2 =>
  (f_X12_has N (some b2) 128 μ).bind fun q1 =>
  if q1.1 = 0 then
    f_X12_first_17 N a0 a1 q1.2
  else
    (mfR q1.2 a0 12 43).bind fun v3 =>
    (mbI q1.2 0 v3 a1 0).bind fun μ4 =>
    f_X12_first_17 N a0 a1 μ4
set_option maxRecDepth 100000 in
set_option maxHeartbeats 4000000 in
theorem p_X12_first_240 {x : CX} {l : Launch} {g : CG} {rv : Unit} {μ0 μ9 : Mem} (C : Cx x l g mi_X12_first) (F : Prom x g mi_X12_first μ0 none μ9) {N : Nat} {a0 : Option Nat} {a1 : Int32} {a2 : Int32} {μ : Mem} (h : f_X12_first_240 N a0 a1 a2 μ = some (rv, μ9)) : V x g 5 0 0 μ 240 [(0, aR a0), (1, aI a1), (2, aI a2)] [] := by
  unfold f_X12_first_240 at h
  refine v_aload_n C dX12_first_240 rfl ?_
  obtain ⟨v, e, h⟩ := ob h
  refine v_getR C dX12_first_241 gf_X12_290 e ?_
  refine v_iload_n C dX12_first_244 rfl ?_
  refine v_iload_n C dX12_first_245 rfl ?_
  refine v_bipush (v := 12) C dX12_first_246 rfl ?_
  refine v_ishr C dX12_first_248 ?_
  obtain ⟨m, e, h⟩ := ob h
  refine v_iastore C dX12_first_249 e ?_
  refine v_aload_n C dX12_first_250 rfl ?_
  obtain ⟨v, e, h⟩ := ob h
  refine v_getR C dX12_first_251 gf_X12_281 e ?_
  refine v_iload_n C dX12_first_254 rfl ?_
  refine v_iload_n C dX12_first_255 rfl ?_
  refine v_sipush (v := 4095) C dX12_first_256 rfl ?_
  refine v_iand C dX12_first_259 ?_
  obtain ⟨m, e, h⟩ := ob h
  refine v_iastore C dX12_first_260 e ?_
  exact v_vret C F ⟨rfl, rfl, Nat.le_refl _⟩ dX12_first_261 h
set_option maxRecDepth 100000 in
set_option maxHeartbeats 4000000 in
theorem p_X12_first_193 {x : CX} {l : Launch} {g : CG} {rv : Unit} {μ0 μ9 : Mem} (C : Cx x l g mi_X12_first) (F : Prom x g mi_X12_first μ0 none μ9) {N : Nat} {a0 : Option Nat} {a1 : Int32} {a2 : Int32} {μ : Mem} (h : f_X12_first_193 N a0 a1 a2 μ = some (rv, μ9)) : V x g 5 0 0 μ 193 [(0, aR a0), (1, aI a1), (2, aI a2)] [] := by
  unfold f_X12_first_193 at h
  refine v_aload_n C dX12_first_193 rfl ?_
  refine v_iconst (v := 2) C dX12_first_194 rfl ?_
  obtain ⟨b, e0, h⟩ := ob h
  obtain ⟨q, e, h⟩ := ob h
  refine v_callV (As := [_]) C dX12_first_195 cf_X12_463 (rm_X12_first_X12_has) ⟨rfl, rfl⟩ e0 rfl (Nat.le_of_ble_eq_true rfl) (c_X12_has _ _ N _ _ _ q.1 q.2 e) ?_
  refine v_if_eq (tgt := 240) C dX12_first_198 (by decide) (fun c => ?_) (fun c => ?_)
  · replace h := ifT h c
    exact v_sb (p_X12_first_240 C F h) ⟨rfl, rfl, rfl, trivial⟩
  · replace h := ifF h c
    refine v_aload_n C dX12_first_201 rfl ?_
    refine v_bipush (v := 8) C dX12_first_202 rfl ?_
    obtain ⟨b, e0, h⟩ := ob h
    obtain ⟨q, e, h⟩ := ob h
    refine v_callV (As := [_]) C dX12_first_204 cf_X12_463 (rm_X12_first_X12_has) ⟨rfl, rfl⟩ e0 rfl (Nat.le_of_ble_eq_true rfl) (c_X12_has _ _ N _ _ _ q.1 q.2 e) ?_
    refine v_if_ne (tgt := 240) C dX12_first_207 (by decide) (fun c => ?_) (fun c => ?_)
    · replace h := ifT h c
      exact v_sb (p_X12_first_240 C F h) ⟨rfl, rfl, rfl, trivial⟩
    · replace h := ifF h c
      refine v_aload_n C dX12_first_210 rfl ?_
      refine v_iconst (v := 4) C dX12_first_211 rfl ?_
      obtain ⟨b, e0, h⟩ := ob h
      obtain ⟨q, e, h⟩ := ob h
      refine v_callV (As := [_]) C dX12_first_212 cf_X12_463 (rm_X12_first_X12_has) ⟨rfl, rfl⟩ e0 rfl (Nat.le_of_ble_eq_true rfl) (c_X12_has _ _ N _ _ _ q.1 q.2 e) ?_
      refine v_if_ne (tgt := 240) C dX12_first_215 (by decide) (fun c => ?_) (fun c => ?_)
      · replace h := ifT h c
        exact v_sb (p_X12_first_240 C F h) ⟨rfl, rfl, rfl, trivial⟩
      · replace h := ifF h c
        refine v_iload_n C dX12_first_218 rfl ?_
        refine v_sipush (v := 4096) C dX12_first_219 rfl ?_
        refine v_iand C dX12_first_222 ?_
        refine v_iload_n C dX12_first_223 rfl ?_
        refine v_bipush (v := 63) C dX12_first_224 rfl ?_
        refine v_iand C dX12_first_226 ?_
        refine v_bipush (v := 6) C dX12_first_227 rfl ?_
        refine v_ishl C dX12_first_229 ?_
        refine v_ior C dX12_first_230 ?_
        refine v_iload_n C dX12_first_231 rfl ?_
        refine v_bipush (v := 6) C dX12_first_232 rfl ?_
        refine v_ishr C dX12_first_234 ?_
        refine v_bipush (v := 63) C dX12_first_235 rfl ?_
        refine v_iand C dX12_first_237 ?_
        refine v_ior C dX12_first_238 ?_
        refine v_istore_n C dX12_first_239 (by decide) ?_
        exact v_sb (p_X12_first_240 C F h) ⟨rfl, rfl, rfl, trivial⟩
set_option maxRecDepth 100000 in
set_option maxHeartbeats 4000000 in
theorem p_X12_first_186 {x : CX} {l : Launch} {g : CG} {rv : Unit} {μ0 μ9 : Mem} (C : Cx x l g mi_X12_first) (F : Prom x g mi_X12_first μ0 none μ9) {N : Nat} {k132 : (Option Nat) → Int32 → Int32 → Int32 → Int32 → Mem → Option (Unit × Mem)} (hk132 : ∀ (a0 : Option Nat) (a1 : Int32) (a2 : Int32) (a3 : Int32) (a4 : Int32) (μ : Mem), k132 a0 a1 a2 a3 a4 μ = some (rv, μ9) → V x g 5 0 0 μ 132 [(0, aR a0), (1, aI a1), (2, aI a2), (3, aI a3), (4, aI a4)] []) {a0 : Option Nat} {a1 : Int32} {a3 : Int32} {a4 : Int32} {s0 : Int32} {μ : Mem} (h : f_X12_first_186 N k132 a0 a1 a3 a4 s0 μ = some (rv, μ9)) : V x g 5 0 0 μ 186 [(0, aR a0), (1, aI a1), (3, aI a3), (4, aI a4)] [aI s0] := by
  unfold f_X12_first_186 at h
  refine v_istore_n C dX12_first_186 (by decide) ?_
  refine v_iinc (w := 1) C dX12_first_187 rfl rfl (by decide) ?_
  refine v_goto (tgt := 132) C dX12_first_190 (by decide) ?_
  exact v_sb (hk132 _ _ _ _ _ _ h) ⟨rfl, rfl, rfl, rfl, rfl, trivial⟩
set_option maxRecDepth 100000 in
set_option maxHeartbeats 4000000 in
theorem pH_X12_first_132 {x : CX} {l : Launch} {g : CG} {rv : Unit} {μ0 μ9 : Mem} (C : Cx x l g mi_X12_first) (F : Prom x g mi_X12_first μ0 none μ9) {N : Nat} {k132 : (Option Nat) → Int32 → Int32 → Int32 → Int32 → Mem → Option (Unit × Mem)} (hk132 : ∀ (a0 : Option Nat) (a1 : Int32) (a2 : Int32) (a3 : Int32) (a4 : Int32) (μ : Mem), k132 a0 a1 a2 a3 a4 μ = some (rv, μ9) → V x g 5 0 0 μ 132 [(0, aR a0), (1, aI a1), (2, aI a2), (3, aI a3), (4, aI a4)] []) {a0 : Option Nat} {a1 : Int32} {a2 : Int32} {a3 : Int32} {a4 : Int32} {μ : Mem} (h : H_X12_first_132 N k132 a0 a1 a2 a3 a4 μ = some (rv, μ9)) : V x g 5 0 0 μ 132 [(0, aR a0), (1, aI a1), (2, aI a2), (3, aI a3), (4, aI a4)] [] := by
  unfold H_X12_first_132 at h
  refine v_iload C dX12_first_132 rfl ?_
  refine v_iload_n C dX12_first_134 rfl ?_
  refine v_icmp_ge (tgt := 193) C dX12_first_135 (by decide) (fun c => ?_) (fun c => ?_)
  · replace h := ifT h c
    exact v_sb (p_X12_first_193 C F h) ⟨rfl, rfl, rfl, trivial⟩
  · replace h := ifF h c
    refine v_aload_n C dX12_first_138 rfl ?_
    refine v_bipush (v := 8) C dX12_first_139 rfl ?_
    obtain ⟨b, e0, h⟩ := ob h
    obtain ⟨q, e, h⟩ := ob h
    refine v_callV (As := [_]) C dX12_first_141 cf_X12_463 (rm_X12_first_X12_has) ⟨rfl, rfl⟩ e0 rfl (Nat.le_of_ble_eq_true rfl) (c_X12_has _ _ N _ _ _ q.1 q.2 e) ?_
    refine v_aload_n C dX12_first_144 rfl ?_
    refine v_iconst (v := 4) C dX12_first_145 rfl ?_
    obtain ⟨b, e0, h⟩ := ob h
    obtain ⟨q, e, h⟩ := ob h
    refine v_callV (As := [_]) C dX12_first_146 cf_X12_463 (rm_X12_first_X12_has) ⟨rfl, rfl⟩ e0 rfl (Nat.le_of_ble_eq_true rfl) (c_X12_has _ _ N _ _ _ q.1 q.2 e) ?_
    refine v_icmp_eq (tgt := 193) C dX12_first_149 (by decide) (fun c => ?_) (fun c => ?_)
    · replace h := ifT h c
      exact v_sb (p_X12_first_193 C F h) ⟨rfl, rfl, rfl, trivial⟩
    · replace h := ifF h c
      refine v_aload_n C dX12_first_152 rfl ?_
      refine v_bipush (v := 8) C dX12_first_153 rfl ?_
      obtain ⟨b, e0, h⟩ := ob h
      obtain ⟨q, e, h⟩ := ob h
      refine v_callV (As := [_]) C dX12_first_155 cf_X12_463 (rm_X12_first_X12_has) ⟨rfl, rfl⟩ e0 rfl (Nat.le_of_ble_eq_true rfl) (c_X12_has _ _ N _ _ _ q.1 q.2 e) ?_
      refine v_if_eq (tgt := 174) C dX12_first_158 (by decide) (fun c => ?_) (fun c => ?_)
      · replace h := ifT h c
        refine v_iload_n C dX12_first_174 rfl ?_
        refine v_iconst (v := 1) C dX12_first_175 rfl ?_
        refine v_ishl C dX12_first_176 ?_
        refine v_sipush (v := 8191) C dX12_first_177 rfl ?_
        refine v_iand C dX12_first_180 ?_
        refine v_iload_n C dX12_first_181 rfl ?_
        refine v_bipush (v := 12) C dX12_first_182 rfl ?_
        refine v_ishr C dX12_first_184 ?_
        refine v_ior C dX12_first_185 ?_
        exact v_sb (p_X12_first_186 C F hk132 h) ⟨rfl, rfl, rfl, rfl, trivial⟩
      · replace h := ifF h c
        refine v_iload_n C dX12_first_161 rfl ?_
        refine v_iconst (v := 1) C dX12_first_162 rfl ?_
        refine v_ishr C dX12_first_163 ?_
        refine v_iload_n C dX12_first_164 rfl ?_
        refine v_iconst (v := 1) C dX12_first_165 rfl ?_
        refine v_iand C dX12_first_166 ?_
        refine v_bipush (v := 12) C dX12_first_167 rfl ?_
        refine v_ishl C dX12_first_169 ?_
        refine v_ior C dX12_first_170 ?_
        refine v_goto (tgt := 186) C dX12_first_171 (by decide) ?_
        exact v_sb (p_X12_first_186 C F hk132 h) ⟨rfl, rfl, rfl, rfl, trivial⟩
set_option maxRecDepth 100000 in
set_option maxHeartbeats 4000000 in
theorem pL_X12_first_132 {x : CX} {l : Launch} {g : CG} {rv : Unit} {μ0 μ9 : Mem} (C : Cx x l g mi_X12_first) (F : Prom x g mi_X12_first μ0 none μ9) (N : Nat) (n : Nat) : ∀ (a0 : Option Nat) (a1 : Int32) (a2 : Int32) (a3 : Int32) (a4 : Int32) (μ : Mem), L_X12_first_132 N n a0 a1 a2 a3 a4 μ = some (rv, μ9) → V x g 5 0 0 μ 132 [(0, aR a0), (1, aI a1), (2, aI a2), (3, aI a3), (4, aI a4)] [] := by
  induction n with
  | zero => intro a0 a1 a2 a3 a4 μ h; cases h
  | succ n ih => intro a0 a1 a2 a3 a4 μ h; exact pH_X12_first_132 C F ih h
set_option maxRecDepth 100000 in
set_option maxHeartbeats 4000000 in
theorem p_X12_first_128 {x : CX} {l : Launch} {g : CG} {rv : Unit} {μ0 μ9 : Mem} (C : Cx x l g mi_X12_first) (F : Prom x g mi_X12_first μ0 none μ9) {N : Nat} {a0 : Option Nat} {a1 : Int32} {a2 : Int32} {s0 : Int32} {μ : Mem} (h : f_X12_first_128 N a0 a1 a2 s0 μ = some (rv, μ9)) : V x g 5 0 0 μ 128 [(0, aR a0), (1, aI a1), (2, aI a2)] [aI s0] := by
  unfold f_X12_first_128 at h
  refine v_istore_n C dX12_first_128 (by decide) ?_
  refine v_iconst (v := 0) C dX12_first_129 rfl ?_
  refine v_istore C dX12_first_130 (by decide) ?_
  exact v_sb (pL_X12_first_132 C F N N _ _ _ _ _ _ h) ⟨rfl, rfl, rfl, rfl, rfl, trivial⟩
set_option maxRecDepth 100000 in
set_option maxHeartbeats 4000000 in
theorem p_X12_first_115 {x : CX} {l : Launch} {g : CG} {rv : Unit} {μ0 μ9 : Mem} (C : Cx x l g mi_X12_first) (F : Prom x g mi_X12_first μ0 none μ9) {N : Nat} {a0 : Option Nat} {a1 : Int32} {a2 : Int32} {μ : Mem} (h : f_X12_first_115 N a0 a1 a2 μ = some (rv, μ9)) : V x g 5 0 0 μ 115 [(0, aR a0), (1, aI a1), (2, aI a2)] [] := by
  unfold f_X12_first_115 at h
  refine v_aload_n C dX12_first_115 rfl ?_
  refine v_iconst (v := 2) C dX12_first_116 rfl ?_
  obtain ⟨b, e0, h⟩ := ob h
  obtain ⟨q, e, h⟩ := ob h
  refine v_callV (As := [_]) C dX12_first_117 cf_X12_463 (rm_X12_first_X12_has) ⟨rfl, rfl⟩ e0 rfl (Nat.le_of_ble_eq_true rfl) (c_X12_has _ _ N _ _ _ q.1 q.2 e) ?_
  refine v_if_eq (tgt := 127) C dX12_first_120 (by decide) (fun c => ?_) (fun c => ?_)
  · replace h := ifT h c
    refine v_iconst (v := 1) C dX12_first_127 rfl ?_
    exact v_sb (p_X12_first_128 C F h) ⟨rfl, rfl, rfl, trivial⟩
  · replace h := ifF h c
    refine v_iconst (v := 2) C dX12_first_123 rfl ?_
    refine v_goto (tgt := 128) C dX12_first_124 (by decide) ?_
    exact v_sb (p_X12_first_128 C F h) ⟨rfl, rfl, rfl, trivial⟩
set_option maxRecDepth 100000 in
set_option maxHeartbeats 4000000 in
theorem p_X12_first_81 {x : CX} {l : Launch} {g : CG} {rv : Unit} {μ0 μ9 : Mem} (C : Cx x l g mi_X12_first) (F : Prom x g mi_X12_first μ0 none μ9) {N : Nat} {a0 : Option Nat} {a1 : Int32} {μ : Mem} (h : f_X12_first_81 N a0 a1 μ = some (rv, μ9)) : V x g 5 0 0 μ 81 [(0, aR a0), (1, aI a1)] [] := by
  unfold f_X12_first_81 at h
  refine v_sipush (v := 4096) C dX12_first_81 rfl ?_
  refine v_aload_n C dX12_first_84 rfl ?_
  obtain ⟨v, e, h⟩ := ob h
  refine v_getR C dX12_first_85 gf_X12_290 e ?_
  refine v_iload_n C dX12_first_88 rfl ?_
  obtain ⟨v, e, h⟩ := ob h
  refine v_iaload C dX12_first_89 e ?_
  refine v_imul C dX12_first_90 ?_
  refine v_aload_n C dX12_first_91 rfl ?_
  obtain ⟨v, e, h⟩ := ob h
  refine v_getR C dX12_first_92 gf_X12_281 e ?_
  refine v_iload_n C dX12_first_95 rfl ?_
  obtain ⟨v, e, h⟩ := ob h
  refine v_iaload C dX12_first_96 e ?_
  refine v_iadd C dX12_first_97 ?_
  refine v_istore_n C dX12_first_98 (by decide) ?_
  refine v_aload_n C dX12_first_99 rfl ?_
  refine v_iconst (v := 1) C dX12_first_100 rfl ?_
  obtain ⟨b, e0, h⟩ := ob h
  obtain ⟨q, e, h⟩ := ob h
  refine v_callV (As := [_]) C dX12_first_101 cf_X12_463 (rm_X12_first_X12_has) ⟨rfl, rfl⟩ e0 rfl (Nat.le_of_ble_eq_true rfl) (c_X12_has _ _ N _ _ _ q.1 q.2 e) ?_
  refine v_if_eq (tgt := 115) C dX12_first_104 (by decide) (fun c => ?_) (fun c => ?_)
  · replace h := ifT h c
    exact v_sb (p_X12_first_115 C F h) ⟨rfl, rfl, rfl, trivial⟩
  · replace h := ifF h c
    refine v_iload_n C dX12_first_107 rfl ?_
    refine v_iconst (v := 1) C dX12_first_108 rfl ?_
    refine v_iadd C dX12_first_109 ?_
    refine v_sipush (v := 8191) C dX12_first_110 rfl ?_
    refine v_iand C dX12_first_113 ?_
    refine v_istore_n C dX12_first_114 (by decide) ?_
    exact v_sb (p_X12_first_115 C F h) ⟨rfl, rfl, rfl, trivial⟩
set_option maxRecDepth 100000 in
set_option maxHeartbeats 4000000 in
theorem p_X12_first_58 {x : CX} {l : Launch} {g : CG} {rv : Unit} {μ0 μ9 : Mem} (C : Cx x l g mi_X12_first) (F : Prom x g mi_X12_first μ0 none μ9) {N : Nat} {a0 : Option Nat} {a1 : Int32} {μ : Mem} (h : f_X12_first_58 N a0 a1 μ = some (rv, μ9)) : V x g 5 0 0 μ 58 [(0, aR a0), (1, aI a1)] [] := by
  unfold f_X12_first_58 at h
  refine v_aload_n C dX12_first_58 rfl ?_
  refine v_bipush (v := 16) C dX12_first_59 rfl ?_
  obtain ⟨b, e0, h⟩ := ob h
  obtain ⟨q, e, h⟩ := ob h
  refine v_callV (As := [_]) C dX12_first_61 cf_X12_463 (rm_X12_first_X12_has) ⟨rfl, rfl⟩ e0 rfl (Nat.le_of_ble_eq_true rfl) (c_X12_has _ _ N _ _ _ q.1 q.2 e) ?_
  refine v_if_eq (tgt := 81) C dX12_first_64 (by decide) (fun c => ?_) (fun c => ?_)
  · replace h := ifT h c
    exact v_sb (p_X12_first_81 C F h) ⟨rfl, rfl, trivial⟩
  · replace h := ifF h c
    refine v_aload_n C dX12_first_67 rfl ?_
    obtain ⟨v, e, h⟩ := ob h
    refine v_getR C dX12_first_68 gf_X12_290 e ?_
    refine v_iload_n C dX12_first_71 rfl ?_
    refine v_iconst (v := 1) C dX12_first_72 rfl ?_
    refine v_aload_n C dX12_first_73 rfl ?_
    obtain ⟨v, e, h⟩ := ob h
    refine v_getR C dX12_first_74 gf_X12_290 e ?_
    refine v_iload_n C dX12_first_77 rfl ?_
    obtain ⟨v, e, h⟩ := ob h
    refine v_iaload C dX12_first_78 e ?_
    refine v_isub C dX12_first_79 ?_
    obtain ⟨m, e, h⟩ := ob h
    refine v_iastore C dX12_first_80 e ?_
    exact v_sb (p_X12_first_81 C F h) ⟨rfl, rfl, trivial⟩
set_option maxRecDepth 100000 in
set_option maxHeartbeats 4000000 in
theorem p_X12_first_33 {x : CX} {l : Launch} {g : CG} {rv : Unit} {μ0 μ9 : Mem} (C : Cx x l g mi_X12_first) (F : Prom x g mi_X12_first μ0 none μ9) {N : Nat} {a0 : Option Nat} {a1 : Int32} {μ : Mem} (h : f_X12_first_33 N a0 a1 μ = some (rv, μ9)) : V x g 5 0 0 μ 33 [(0, aR a0), (1, aI a1)] [] := by
  unfold f_X12_first_33 at h
  refine v_aload_n C dX12_first_33 rfl ?_
  refine v_bipush (v := 32) C dX12_first_34 rfl ?_
  obtain ⟨b, e0, h⟩ := ob h
  obtain ⟨q, e, h⟩ := ob h
  refine v_callV (As := [_]) C dX12_first_36 cf_X12_463 (rm_X12_first_X12_has) ⟨rfl, rfl⟩ e0 rfl (Nat.le_of_ble_eq_true rfl) (c_X12_has _ _ N _ _ _ q.1 q.2 e) ?_
  refine v_if_eq (tgt := 58) C dX12_first_39 (by decide) (fun c => ?_) (fun c => ?_)
  · replace h := ifT h c
    exact v_sb (p_X12_first_58 C F h) ⟨rfl, rfl, trivial⟩
  · replace h := ifF h c
    refine v_aload_n C dX12_first_42 rfl ?_
    obtain ⟨v, e, h⟩ := ob h
    refine v_getR C dX12_first_43 gf_X12_281 e ?_
    refine v_iload_n C dX12_first_46 rfl ?_
    refine v_sipush (v := 4095) C dX12_first_47 rfl ?_
    refine v_aload_n C dX12_first_50 rfl ?_
    obtain ⟨v, e, h⟩ := ob h
    refine v_getR C dX12_first_51 gf_X12_281 e ?_
    refine v_iload_n C dX12_first_54 rfl ?_
    obtain ⟨v, e, h⟩ := ob h
    refine v_iaload C dX12_first_55 e ?_
    refine v_isub C dX12_first_56 ?_
    obtain ⟨m, e, h⟩ := ob h
    refine v_iastore C dX12_first_57 e ?_
    exact v_sb (p_X12_first_58 C F h) ⟨rfl, rfl, trivial⟩
set_option maxRecDepth 100000 in
set_option maxHeartbeats 4000000 in
theorem p_X12_first_17 {x : CX} {l : Launch} {g : CG} {rv : Unit} {μ0 μ9 : Mem} (C : Cx x l g mi_X12_first) (F : Prom x g mi_X12_first μ0 none μ9) {N : Nat} {a0 : Option Nat} {a1 : Int32} {μ : Mem} (h : f_X12_first_17 N a0 a1 μ = some (rv, μ9)) : V x g 5 0 0 μ 17 [(0, aR a0), (1, aI a1)] [] := by
  unfold f_X12_first_17 at h
  refine v_aload_n C dX12_first_17 rfl ?_
  refine v_bipush (v := 64) C dX12_first_18 rfl ?_
  obtain ⟨b, e0, h⟩ := ob h
  obtain ⟨q, e, h⟩ := ob h
  refine v_callV (As := [_]) C dX12_first_20 cf_X12_463 (rm_X12_first_X12_has) ⟨rfl, rfl⟩ e0 rfl (Nat.le_of_ble_eq_true rfl) (c_X12_has _ _ N _ _ _ q.1 q.2 e) ?_
  refine v_if_eq (tgt := 33) C dX12_first_23 (by decide) (fun c => ?_) (fun c => ?_)
  · replace h := ifT h c
    exact v_sb (p_X12_first_33 C F h) ⟨rfl, rfl, trivial⟩
  · replace h := ifF h c
    refine v_aload_n C dX12_first_26 rfl ?_
    obtain ⟨v, e, h⟩ := ob h
    refine v_getR C dX12_first_27 gf_X12_290 e ?_
    refine v_iload_n C dX12_first_30 rfl ?_
    refine v_iconst (v := 0) C dX12_first_31 rfl ?_
    obtain ⟨m, e, h⟩ := ob h
    refine v_iastore C dX12_first_32 e ?_
    exact v_sb (p_X12_first_33 C F h) ⟨rfl, rfl, trivial⟩
set_option maxRecDepth 100000 in
set_option maxHeartbeats 4000000 in
theorem p_X12_first {x : CX} {l : Launch} {g : CG} {rv : Unit} {μ0 μ9 : Mem} (C : Cx x l g mi_X12_first) (F : Prom x g mi_X12_first μ0 none μ9) {N : Nat} {a0 : Option Nat} {a1 : Int32} {μ : Mem} (h : f_X12_first N a0 a1 μ = some (rv, μ9)) : V x g 5 0 0 μ 0 [(0, aR a0), (1, aI a1)] [] := by
  unfold f_X12_first at h
  refine v_aload_n C dX12_first_0 rfl ?_
  refine v_sipush (v := 128) C dX12_first_1 rfl ?_
  obtain ⟨b, e0, h⟩ := ob h
  obtain ⟨q, e, h⟩ := ob h
  refine v_callV (As := [_]) C dX12_first_4 cf_X12_463 (rm_X12_first_X12_has) ⟨rfl, rfl⟩ e0 rfl (Nat.le_of_ble_eq_true rfl) (c_X12_has _ _ N _ _ _ q.1 q.2 e) ?_
  refine v_if_eq (tgt := 17) C dX12_first_7 (by decide) (fun c => ?_) (fun c => ?_)
  · replace h := ifT h c
    exact v_sb (p_X12_first_17 C F h) ⟨rfl, rfl, trivial⟩
  · replace h := ifF h c
    refine v_aload_n C dX12_first_10 rfl ?_
    obtain ⟨v, e, h⟩ := ob h
    refine v_getR C dX12_first_11 gf_X12_281 e ?_
    refine v_iload_n C dX12_first_14 rfl ?_
    refine v_iconst (v := 0) C dX12_first_15 rfl ?_
    obtain ⟨m, e, h⟩ := ob h
    refine v_iastore C dX12_first_16 e ?_
    exact v_sb (p_X12_first_17 C F h) ⟨rfl, rfl, trivial⟩
set_option maxRecDepth 100000 in
set_option maxHeartbeats 4000000 in
theorem c_X12_first (l : Launch) (g : CG) (N : Nat) (a0 : Option Nat) (a1 : Int32) (μ : Mem) (rv : Unit) (μ9 : Mem) (h : f_X12_first N a0 a1 μ = some (rv, μ9)) : Ct l yX12_first mi_X12_first g [aR a0, aI a1] μ none μ9 := ct_of ⟨by decide, rfl, rfl⟩ (Nat.le_of_ble_eq_true rfl) fun x C F => p_X12_first C F h
