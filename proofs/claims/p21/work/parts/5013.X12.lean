/-! LAYER 1, ShareEightModel: look, word, core, drum, slot, block, paper (by program) -/
def f_X12_look__98 (N : Nat) (s0 : Int32) (μ : Mem) : Option (Int32 × Mem) :=
  some (s0, μ)
def f_X12_look__114 (N : Nat) (s0 : Int32) (μ : Mem) : Option (Int32 × Mem) :=
  some (s0, μ)
def f_X12_look__130 (N : Nat) (s0 : Int32) (μ : Mem) : Option (Int32 × Mem) :=
  some (s0, μ)
def f_X12_look_ (N : Nat) (a0 : Option Nat) (a1 : Int32) (μ : Mem) : Option (Int32 × Mem) :=
  if a1 = 0 then
    (mfI μ a0 12 66).bind fun v1 =>
    some (v1, μ)
  else
    if a1 = 1 then
      (mfI μ a0 12 64).bind fun v2 =>
      some (v2, μ)
    else
      if a1 = 2 then
        (mfI μ a0 12 67).bind fun v3 =>
        some (v3, μ)
      else
        if a1 = 3 then
          (mfI μ a0 12 67).bind fun v4 =>
          if ¬ v4 = 0 then
            (mfI μ a0 12 68).bind fun v5 =>
            f_X12_look__98 N v5 μ
          else
            f_X12_look__98 N ((-1)) μ
        else
          if a1 = 4 then
            (mfI μ a0 12 67).bind fun v6 =>
            if ¬ v6 = 0 then
              (mfI μ a0 12 70).bind fun v7 =>
              f_X12_look__114 N v7 μ
            else
              f_X12_look__114 N 0 μ
          else
            if a1 = 5 then
              (mfI μ a0 12 67).bind fun v8 =>
              if ¬ v8 = 0 then
                (mfI μ a0 12 69).bind fun v9 =>
                f_X12_look__130 N v9 μ
              else
                f_X12_look__130 N ((-1)) μ
            else
              if a1 = 6 then
                (mfI μ a0 12 71).bind fun v10 =>
                some (v10, μ)
              else
                if a1 = 7 then
                  (mfI μ a0 12 72).bind fun v11 =>
                  some (v11, μ)
                else
                  if a1 = 8 then
                    (mfI μ a0 12 74).bind fun v12 =>
                    some (v12, μ)
                  else
                    if a1 = 9 then
                      (mfI μ a0 12 63).bind fun v13 =>
                      some (v13, μ)
                    else
                      if a1 = 10 then
                        (mfI μ a0 12 75).bind fun v14 =>
                        some (v14, μ)
                      else
                        if a1 = 11 then
                          (mfI μ a0 12 1).bind fun v15 =>
                          some (v15, μ)
                        else
                          if a1 = 12 then
                            (mfI μ a0 12 73).bind fun v16 =>
                            some (v16, μ)
                          else
                            some ((-1), μ)
set_option maxRecDepth 100000 in
set_option maxHeartbeats 4000000 in
theorem p_X12_look__98 {x : CX} {l : Launch} {g : CG} {rv : Int32} {μ0 μ9 : Mem} (C : Cx x l g mi_X12_look_) (F : Prom x g mi_X12_look_ μ0 (some (aI rv)) μ9) {N : Nat} {s0 : Int32} {μ : Mem} (h : f_X12_look__98 N s0 μ = some (rv, μ9)) : V x g 2 0 0 μ 98 [] [aI s0] := by
  unfold f_X12_look__98 at h
  exact v_iret C F ⟨rfl, rfl, Nat.le_refl _⟩ dX12_look__98 h
set_option maxRecDepth 100000 in
set_option maxHeartbeats 4000000 in
theorem p_X12_look__114 {x : CX} {l : Launch} {g : CG} {rv : Int32} {μ0 μ9 : Mem} (C : Cx x l g mi_X12_look_) (F : Prom x g mi_X12_look_ μ0 (some (aI rv)) μ9) {N : Nat} {s0 : Int32} {μ : Mem} (h : f_X12_look__114 N s0 μ = some (rv, μ9)) : V x g 2 0 0 μ 114 [] [aI s0] := by
  unfold f_X12_look__114 at h
  exact v_iret C F ⟨rfl, rfl, Nat.le_refl _⟩ dX12_look__114 h
set_option maxRecDepth 100000 in
set_option maxHeartbeats 4000000 in
theorem p_X12_look__130 {x : CX} {l : Launch} {g : CG} {rv : Int32} {μ0 μ9 : Mem} (C : Cx x l g mi_X12_look_) (F : Prom x g mi_X12_look_ μ0 (some (aI rv)) μ9) {N : Nat} {s0 : Int32} {μ : Mem} (h : f_X12_look__130 N s0 μ = some (rv, μ9)) : V x g 2 0 0 μ 130 [] [aI s0] := by
  unfold f_X12_look__130 at h
  exact v_iret C F ⟨rfl, rfl, Nat.le_refl _⟩ dX12_look__130 h
set_option maxRecDepth 100000 in
set_option maxHeartbeats 4000000 in
theorem p_X12_look_ {x : CX} {l : Launch} {g : CG} {rv : Int32} {μ0 μ9 : Mem} (C : Cx x l g mi_X12_look_) (F : Prom x g mi_X12_look_ μ0 (some (aI rv)) μ9) {N : Nat} {a0 : Option Nat} {a1 : Int32} {μ : Mem} (h : f_X12_look_ N a0 a1 μ = some (rv, μ9)) : V x g 2 0 0 μ 0 [(0, aR a0), (1, aI a1)] [] := by
  unfold f_X12_look_ at h
  refine v_iload_n C dX12_look__0 rfl ?_
  refine v_tableswitch (dt := 166) (cs := [(0, 68), (1, 73), (2, 78), (3, 83), (4, 99), (5, 115), (6, 131), (7, 136), (8, 141), (9, 146), (10, 151), (11, 156), (12, 161)]) C dX12_look__1 (by decide) (by decide) (by decide) (by decide) ?_
  refine v_case (fun c => ?_) (fun c => ?_)
  · replace h := ifT h c
    refine v_aload_n C dX12_look__68 rfl ?_
    obtain ⟨v, e, h⟩ := ob h
    refine v_getI C dX12_look__69 gf_X12_378 e ?_
    exact v_iret C F ⟨rfl, rfl, Nat.le_refl _⟩ dX12_look__72 h
  · replace h := ifF h c
    refine v_case (fun c => ?_) (fun c => ?_)
    · replace h := ifT h c
      refine v_aload_n C dX12_look__73 rfl ?_
      obtain ⟨v, e, h⟩ := ob h
      refine v_getI C dX12_look__74 gf_X12_237 e ?_
      exact v_iret C F ⟨rfl, rfl, Nat.le_refl _⟩ dX12_look__77 h
    · replace h := ifF h c
      refine v_case (fun c => ?_) (fun c => ?_)
      · replace h := ifT h c
        refine v_aload_n C dX12_look__78 rfl ?_
        obtain ⟨v, e, h⟩ := ob h
        refine v_getI C dX12_look__79 gf_X12_344 e ?_
        exact v_iret C F ⟨rfl, rfl, Nat.le_refl _⟩ dX12_look__82 h
      · replace h := ifF h c
        refine v_case (fun c => ?_) (fun c => ?_)
        · replace h := ifT h c
          refine v_aload_n C dX12_look__83 rfl ?_
          obtain ⟨v, e, h⟩ := ob h
          refine v_getI C dX12_look__84 gf_X12_344 e ?_
          refine v_if_ne (tgt := 94) C dX12_look__87 (by decide) (fun c => ?_) (fun c => ?_)
          · replace h := ifT h c
            refine v_aload_n C dX12_look__94 rfl ?_
            obtain ⟨v, e, h⟩ := ob h
            refine v_getI C dX12_look__95 gf_X12_347 e ?_
            exact v_sb (p_X12_look__98 C F h) trivial
          · replace h := ifF h c
            refine v_iconst (v := -1) C dX12_look__90 rfl ?_
            refine v_goto (tgt := 98) C dX12_look__91 (by decide) ?_
            exact v_sb (p_X12_look__98 C F h) trivial
        · replace h := ifF h c
          refine v_case (fun c => ?_) (fun c => ?_)
          · replace h := ifT h c
            refine v_aload_n C dX12_look__99 rfl ?_
            obtain ⟨v, e, h⟩ := ob h
            refine v_getI C dX12_look__100 gf_X12_344 e ?_
            refine v_if_ne (tgt := 110) C dX12_look__103 (by decide) (fun c => ?_) (fun c => ?_)
            · replace h := ifT h c
              refine v_aload_n C dX12_look__110 rfl ?_
              obtain ⟨v, e, h⟩ := ob h
              refine v_getI C dX12_look__111 gf_X12_393 e ?_
              exact v_sb (p_X12_look__114 C F h) trivial
            · replace h := ifF h c
              refine v_iconst (v := 0) C dX12_look__106 rfl ?_
              refine v_goto (tgt := 114) C dX12_look__107 (by decide) ?_
              exact v_sb (p_X12_look__114 C F h) trivial
          · replace h := ifF h c
            refine v_case (fun c => ?_) (fun c => ?_)
            · replace h := ifT h c
              refine v_aload_n C dX12_look__115 rfl ?_
              obtain ⟨v, e, h⟩ := ob h
              refine v_getI C dX12_look__116 gf_X12_344 e ?_
              refine v_if_ne (tgt := 126) C dX12_look__119 (by decide) (fun c => ?_) (fun c => ?_)
              · replace h := ifT h c
                refine v_aload_n C dX12_look__126 rfl ?_
                obtain ⟨v, e, h⟩ := ob h
                refine v_getI C dX12_look__127 gf_X12_396 e ?_
                exact v_sb (p_X12_look__130 C F h) trivial
              · replace h := ifF h c
                refine v_iconst (v := -1) C dX12_look__122 rfl ?_
                refine v_goto (tgt := 130) C dX12_look__123 (by decide) ?_
                exact v_sb (p_X12_look__130 C F h) trivial
            · replace h := ifF h c
              refine v_case (fun c => ?_) (fun c => ?_)
              · replace h := ifT h c
                refine v_aload_n C dX12_look__131 rfl ?_
                obtain ⟨v, e, h⟩ := ob h
                refine v_getI C dX12_look__132 gf_X12_408 e ?_
                exact v_iret C F ⟨rfl, rfl, Nat.le_refl _⟩ dX12_look__135 h
              · replace h := ifF h c
                refine v_case (fun c => ?_) (fun c => ?_)
                · replace h := ifT h c
                  refine v_aload_n C dX12_look__136 rfl ?_
                  obtain ⟨v, e, h⟩ := ob h
                  refine v_getI C dX12_look__137 gf_X12_405 e ?_
                  exact v_iret C F ⟨rfl, rfl, Nat.le_refl _⟩ dX12_look__140 h
                · replace h := ifF h c
                  refine v_case (fun c => ?_) (fun c => ?_)
                  · replace h := ifT h c
                    refine v_aload_n C dX12_look__141 rfl ?_
                    obtain ⟨v, e, h⟩ := ob h
                    refine v_getI C dX12_look__142 gf_X12_429 e ?_
                    exact v_iret C F ⟨rfl, rfl, Nat.le_refl _⟩ dX12_look__145 h
                  · replace h := ifF h c
                    refine v_case (fun c => ?_) (fun c => ?_)
                    · replace h := ifT h c
                      refine v_aload_n C dX12_look__146 rfl ?_
                      obtain ⟨v, e, h⟩ := ob h
                      refine v_getI C dX12_look__147 gf_X12_338 e ?_
                      exact v_iret C F ⟨rfl, rfl, Nat.le_refl _⟩ dX12_look__150 h
                    · replace h := ifF h c
                      refine v_case (fun c => ?_) (fun c => ?_)
                      · replace h := ifT h c
                        refine v_aload_n C dX12_look__151 rfl ?_
                        obtain ⟨v, e, h⟩ := ob h
                        refine v_getI C dX12_look__152 gf_X12_372 e ?_
                        exact v_iret C F ⟨rfl, rfl, Nat.le_refl _⟩ dX12_look__155 h
                      · replace h := ifF h c
                        refine v_case (fun c => ?_) (fun c => ?_)
                        · replace h := ifT h c
                          refine v_aload_n C dX12_look__156 rfl ?_
                          obtain ⟨v, e, h⟩ := ob h
                          refine v_getI C dX12_look__157 gf_X12_7 e ?_
                          exact v_iret C F ⟨rfl, rfl, Nat.le_refl _⟩ dX12_look__160 h
                        · replace h := ifF h c
                          refine v_case (fun c => ?_) (fun c => ?_)
                          · replace h := ifT h c
                            refine v_aload_n C dX12_look__161 rfl ?_
                            obtain ⟨v, e, h⟩ := ob h
                            refine v_getI C dX12_look__162 gf_X12_411 e ?_
                            exact v_iret C F ⟨rfl, rfl, Nat.le_refl _⟩ dX12_look__165 h
                          · replace h := ifF h c
                            refine v_caseD ?_
                            refine v_iconst (v := -1) C dX12_look__166 rfl ?_
                            exact v_iret C F ⟨rfl, rfl, Nat.le_refl _⟩ dX12_look__167 h
set_option maxRecDepth 100000 in
set_option maxHeartbeats 4000000 in
theorem c_X12_look_ (l : Launch) (g : CG) (N : Nat) (a0 : Option Nat) (a1 : Int32) (μ : Mem) (rv : Int32) (μ9 : Mem) (h : f_X12_look_ N a0 a1 μ = some (rv, μ9)) : Ct l yX12_look_ mi_X12_look_ g [aR a0, aI a1] μ (some (aI rv)) μ9 := ct_of ⟨by decide, rfl, rfl⟩ (Nat.le_of_ble_eq_true rfl) fun x C F => p_X12_look_ C F h
def f_X12_word___15 (N : Nat) (μ : Mem) : Option (Int32 × Mem) :=
  some ((-1), μ)
def f_X12_word___51 (N : Nat) (s0 : Int32) (μ : Mem) : Option (Int32 × Mem) :=
  some (s0, μ)
def f_X12_word__ (N : Nat) (a0 : Option Nat) (a1 : Int32) (a2 : Int32) (μ : Mem) : Option (Int32 × Mem) :=
  (mck μ a0 12).bind fun b2 =>
  (f_X12_isUser N (some b2) a1 μ).bind fun q1 =>
  if q1.1 = 0 then
    f_X12_word___15 N q1.2
  else
    (f_X12_isWord N a2 q1.2).bind fun q3 =>
    if ¬ q3.1 = 0 then
      (mfR q3.2 a0 12 41).bind fun v4 =>
      (maI q3.2 0 v4 a1).bind fun v5 =>
      if ¬ v5 = (((-1)) : Int32) then
        (mfR q3.2 a0 12 35).bind fun v6 =>
        (mfR q3.2 a0 12 41).bind fun v7 =>
        (maI q3.2 0 v7 a1).bind fun v8 =>
        (maR q3.2 3 v6 v8).bind fun v9 =>
        (maI q3.2 0 v9 a2).bind fun v10 =>
        f_X12_word___51 N v10 q3.2
      else
        (mfR q3.2 a0 12 36).bind fun v11 =>
        (maR q3.2 3 v11 a1).bind fun v12 =>
        (maI q3.2 0 v12 a2).bind fun v13 =>
        f_X12_word___51 N v13 q3.2
    else
      f_X12_word___15 N q3.2
set_option maxRecDepth 100000 in
set_option maxHeartbeats 4000000 in
theorem p_X12_word___15 {x : CX} {l : Launch} {g : CG} {rv : Int32} {μ0 μ9 : Mem} (C : Cx x l g mi_X12_word__) (F : Prom x g mi_X12_word__ μ0 (some (aI rv)) μ9) {N : Nat} {μ : Mem} (h : f_X12_word___15 N μ = some (rv, μ9)) : V x g 3 0 0 μ 15 [] [] := by
  unfold f_X12_word___15 at h
  refine v_iconst (v := -1) C dX12_word___15 rfl ?_
  exact v_iret C F ⟨rfl, rfl, Nat.le_refl _⟩ dX12_word___16 h
set_option maxRecDepth 100000 in
set_option maxHeartbeats 4000000 in
theorem p_X12_word___51 {x : CX} {l : Launch} {g : CG} {rv : Int32} {μ0 μ9 : Mem} (C : Cx x l g mi_X12_word__) (F : Prom x g mi_X12_word__ μ0 (some (aI rv)) μ9) {N : Nat} {s0 : Int32} {μ : Mem} (h : f_X12_word___51 N s0 μ = some (rv, μ9)) : V x g 3 0 0 μ 51 [] [aI s0] := by
  unfold f_X12_word___51 at h
  exact v_iret C F ⟨rfl, rfl, Nat.le_refl _⟩ dX12_word___51 h
set_option maxRecDepth 100000 in
set_option maxHeartbeats 4000000 in
theorem p_X12_word__ {x : CX} {l : Launch} {g : CG} {rv : Int32} {μ0 μ9 : Mem} (C : Cx x l g mi_X12_word__) (F : Prom x g mi_X12_word__ μ0 (some (aI rv)) μ9) {N : Nat} {a0 : Option Nat} {a1 : Int32} {a2 : Int32} {μ : Mem} (h : f_X12_word__ N a0 a1 a2 μ = some (rv, μ9)) : V x g 3 0 0 μ 0 [(0, aR a0), (1, aI a1), (2, aI a2)] [] := by
  unfold f_X12_word__ at h
  refine v_aload_n C dX12_word___0 rfl ?_
  refine v_iload_n C dX12_word___1 rfl ?_
  obtain ⟨b, e0, h⟩ := ob h
  obtain ⟨q, e, h⟩ := ob h
  refine v_callV (As := [_]) C dX12_word___2 cf_X12_341 (rm_X12_word___X12_isUser) ⟨rfl, rfl⟩ e0 rfl (Nat.le_of_ble_eq_true rfl) (c_X12_isUser _ _ N _ _ _ q.1 q.2 e) ?_
  refine v_if_eq (tgt := 15) C dX12_word___5 (by decide) (fun c => ?_) (fun c => ?_)
  · replace h := ifT h c
    exact v_sb (p_X12_word___15 C F h) trivial
  · replace h := ifF h c
    refine v_iload_n C dX12_word___8 rfl ?_
    obtain ⟨q, e, h⟩ := ob h
    refine v_callS (As := [_]) C dX12_word___9 cf_X12_359 (rm_X12_word___X12_isWord) ⟨rfl, rfl⟩ rfl (Nat.le_of_ble_eq_true rfl) (c_X12_isWord _ _ N _ _ q.1 q.2 e) ?_
    refine v_if_ne (tgt := 17) C dX12_word___12 (by decide) (fun c => ?_) (fun c => ?_)
    · replace h := ifT h c
      refine v_aload_n C dX12_word___17 rfl ?_
      obtain ⟨v, e, h⟩ := ob h
      refine v_getR C dX12_word___18 gf_X12_275 e ?_
      refine v_iload_n C dX12_word___21 rfl ?_
      obtain ⟨v, e, h⟩ := ob h
      refine v_iaload C dX12_word___22 e ?_
      refine v_iconst (v := -1) C dX12_word___23 rfl ?_
      refine v_icmp_ne (tgt := 38) C dX12_word___24 (by decide) (fun c => ?_) (fun c => ?_)
      · replace h := ifT h c
        refine v_aload_n C dX12_word___38 rfl ?_
        obtain ⟨v, e, h⟩ := ob h
        refine v_getR C dX12_word___39 gf_X12_257 e ?_
        refine v_aload_n C dX12_word___42 rfl ?_
        obtain ⟨v, e, h⟩ := ob h
        refine v_getR C dX12_word___43 gf_X12_275 e ?_
        refine v_iload_n C dX12_word___46 rfl ?_
        obtain ⟨v, e, h⟩ := ob h
        refine v_iaload C dX12_word___47 e ?_
        obtain ⟨v, e, h⟩ := ob h
        refine v_aaload3 C dX12_word___48 e ?_
        refine v_iload_n C dX12_word___49 rfl ?_
        obtain ⟨v, e, h⟩ := ob h
        refine v_iaload C dX12_word___50 e ?_
        exact v_sb (p_X12_word___51 C F h) trivial
      · replace h := ifF h c
        refine v_aload_n C dX12_word___27 rfl ?_
        obtain ⟨v, e, h⟩ := ob h
        refine v_getR C dX12_word___28 gf_X12_260 e ?_
        refine v_iload_n C dX12_word___31 rfl ?_
        obtain ⟨v, e, h⟩ := ob h
        refine v_aaload3 C dX12_word___32 e ?_
        refine v_iload_n C dX12_word___33 rfl ?_
        obtain ⟨v, e, h⟩ := ob h
        refine v_iaload C dX12_word___34 e ?_
        refine v_goto (tgt := 51) C dX12_word___35 (by decide) ?_
        exact v_sb (p_X12_word___51 C F h) trivial
    · replace h := ifF h c
      exact v_sb (p_X12_word___15 C F h) trivial
set_option maxRecDepth 100000 in
set_option maxHeartbeats 4000000 in
theorem c_X12_word__ (l : Launch) (g : CG) (N : Nat) (a0 : Option Nat) (a1 : Int32) (a2 : Int32) (μ : Mem) (rv : Int32) (μ9 : Mem) (h : f_X12_word__ N a0 a1 a2 μ = some (rv, μ9)) : Ct l yX12_word__ mi_X12_word__ g [aR a0, aI a1, aI a2] μ (some (aI rv)) μ9 := ct_of ⟨by decide, rfl, rfl⟩ (Nat.le_of_ble_eq_true rfl) fun x C F => p_X12_word__ C F h
def f_X12_core_33 (N : Nat) (s0 : Int32) (μ : Mem) : Option (Int32 × Mem) :=
  some (s0, μ)
def f_X12_core_32 (N : Nat) (μ : Mem) : Option (Int32 × Mem) :=
  f_X12_core_33 N ((-1)) μ
def f_X12_core (N : Nat) (a0 : Option Nat) (a1 : Int32) (a2 : Int32) (μ : Mem) : Option (Int32 × Mem) :=
  (mfI μ a0 12 32).bind fun v1 =>
  (f_X12_in N a1 0 (v1 - 1) μ).bind fun q2 =>
  if q2.1 = 0 then
    f_X12_core_32 N q2.2
  else
    (f_X12_isWord N a2 q2.2).bind fun q3 =>
    if q3.1 = 0 then
      f_X12_core_32 N q3.2
    else
      (mfR q3.2 a0 12 35).bind fun v4 =>
      (maR q3.2 3 v4 a1).bind fun v5 =>
      (maI q3.2 0 v5 a2).bind fun v6 =>
      f_X12_core_33 N v6 q3.2
set_option maxRecDepth 100000 in
set_option maxHeartbeats 4000000 in
theorem p_X12_core_33 {x : CX} {l : Launch} {g : CG} {rv : Int32} {μ0 μ9 : Mem} (C : Cx x l g mi_X12_core) (F : Prom x g mi_X12_core μ0 (some (aI rv)) μ9) {N : Nat} {s0 : Int32} {μ : Mem} (h : f_X12_core_33 N s0 μ = some (rv, μ9)) : V x g 3 0 0 μ 33 [] [aI s0] := by
  unfold f_X12_core_33 at h
  exact v_iret C F ⟨rfl, rfl, Nat.le_refl _⟩ dX12_core_33 h
set_option maxRecDepth 100000 in
set_option maxHeartbeats 4000000 in
theorem p_X12_core_32 {x : CX} {l : Launch} {g : CG} {rv : Int32} {μ0 μ9 : Mem} (C : Cx x l g mi_X12_core) (F : Prom x g mi_X12_core μ0 (some (aI rv)) μ9) {N : Nat} {μ : Mem} (h : f_X12_core_32 N μ = some (rv, μ9)) : V x g 3 0 0 μ 32 [] [] := by
  unfold f_X12_core_32 at h
  refine v_iconst (v := -1) C dX12_core_32 rfl ?_
  exact v_sb (p_X12_core_33 C F h) trivial
set_option maxRecDepth 100000 in
set_option maxHeartbeats 4000000 in
theorem p_X12_core {x : CX} {l : Launch} {g : CG} {rv : Int32} {μ0 μ9 : Mem} (C : Cx x l g mi_X12_core) (F : Prom x g mi_X12_core μ0 (some (aI rv)) μ9) {N : Nat} {a0 : Option Nat} {a1 : Int32} {a2 : Int32} {μ : Mem} (h : f_X12_core N a0 a1 a2 μ = some (rv, μ9)) : V x g 3 0 0 μ 0 [(0, aR a0), (1, aI a1), (2, aI a2)] [] := by
  unfold f_X12_core at h
  refine v_iload_n C dX12_core_0 rfl ?_
  refine v_iconst (v := 0) C dX12_core_1 rfl ?_
  refine v_aload_n C dX12_core_2 rfl ?_
  obtain ⟨v, e, h⟩ := ob h
  refine v_getI C dX12_core_3 gf_X12_246 e ?_
  refine v_iconst (v := 1) C dX12_core_6 rfl ?_
  refine v_isub C dX12_core_7 ?_
  obtain ⟨q, e, h⟩ := ob h
  refine v_callS (As := [_, _, _]) C dX12_core_8 cf_X12_15 (rm_X12_core_X12_in) ⟨rfl, rfl⟩ rfl (Nat.le_of_ble_eq_true rfl) (c_X12_in _ _ N _ _ _ _ q.1 q.2 e) ?_
  refine v_if_eq (tgt := 32) C dX12_core_11 (by decide) (fun c => ?_) (fun c => ?_)
  · replace h := ifT h c
    exact v_sb (p_X12_core_32 C F h) trivial
  · replace h := ifF h c
    refine v_iload_n C dX12_core_14 rfl ?_
    obtain ⟨q, e, h⟩ := ob h
    refine v_callS (As := [_]) C dX12_core_15 cf_X12_359 (rm_X12_core_X12_isWord) ⟨rfl, rfl⟩ rfl (Nat.le_of_ble_eq_true rfl) (c_X12_isWord _ _ N _ _ q.1 q.2 e) ?_
    refine v_if_eq (tgt := 32) C dX12_core_18 (by decide) (fun c => ?_) (fun c => ?_)
    · replace h := ifT h c
      exact v_sb (p_X12_core_32 C F h) trivial
    · replace h := ifF h c
      refine v_aload_n C dX12_core_21 rfl ?_
      obtain ⟨v, e, h⟩ := ob h
      refine v_getR C dX12_core_22 gf_X12_257 e ?_
      refine v_iload_n C dX12_core_25 rfl ?_
      obtain ⟨v, e, h⟩ := ob h
      refine v_aaload3 C dX12_core_26 e ?_
      refine v_iload_n C dX12_core_27 rfl ?_
      obtain ⟨v, e, h⟩ := ob h
      refine v_iaload C dX12_core_28 e ?_
      refine v_goto (tgt := 33) C dX12_core_29 (by decide) ?_
      exact v_sb (p_X12_core_33 C F h) trivial
set_option maxRecDepth 100000 in
set_option maxHeartbeats 4000000 in
theorem c_X12_core (l : Launch) (g : CG) (N : Nat) (a0 : Option Nat) (a1 : Int32) (a2 : Int32) (μ : Mem) (rv : Int32) (μ9 : Mem) (h : f_X12_core N a0 a1 a2 μ = some (rv, μ9)) : Ct l yX12_core mi_X12_core g [aR a0, aI a1, aI a2] μ (some (aI rv)) μ9 := ct_of ⟨by decide, rfl, rfl⟩ (Nat.le_of_ble_eq_true rfl) fun x C F => p_X12_core C F h
def f_X12_drum_27 (N : Nat) (s0 : Int32) (μ : Mem) : Option (Int32 × Mem) :=
  some (s0, μ)
def f_X12_drum_26 (N : Nat) (μ : Mem) : Option (Int32 × Mem) :=
  f_X12_drum_27 N ((-1)) μ
def f_X12_drum (N : Nat) (a0 : Option Nat) (a1 : Int32) (a2 : Int32) (μ : Mem) : Option (Int32 × Mem) :=
  (mck μ a0 12).bind fun b2 =>
  (f_X12_isUser N (some b2) a1 μ).bind fun q1 =>
  if q1.1 = 0 then
    f_X12_drum_26 N q1.2
  else
    (f_X12_isWord N a2 q1.2).bind fun q3 =>
    if q3.1 = 0 then
      f_X12_drum_26 N q3.2
    else
      (mfR q3.2 a0 12 36).bind fun v4 =>
      (maR q3.2 3 v4 a1).bind fun v5 =>
      (maI q3.2 0 v5 a2).bind fun v6 =>
      f_X12_drum_27 N v6 q3.2
set_option maxRecDepth 100000 in
set_option maxHeartbeats 4000000 in
theorem p_X12_drum_27 {x : CX} {l : Launch} {g : CG} {rv : Int32} {μ0 μ9 : Mem} (C : Cx x l g mi_X12_drum) (F : Prom x g mi_X12_drum μ0 (some (aI rv)) μ9) {N : Nat} {s0 : Int32} {μ : Mem} (h : f_X12_drum_27 N s0 μ = some (rv, μ9)) : V x g 3 0 0 μ 27 [] [aI s0] := by
  unfold f_X12_drum_27 at h
  exact v_iret C F ⟨rfl, rfl, Nat.le_refl _⟩ dX12_drum_27 h
set_option maxRecDepth 100000 in
set_option maxHeartbeats 4000000 in
theorem p_X12_drum_26 {x : CX} {l : Launch} {g : CG} {rv : Int32} {μ0 μ9 : Mem} (C : Cx x l g mi_X12_drum) (F : Prom x g mi_X12_drum μ0 (some (aI rv)) μ9) {N : Nat} {μ : Mem} (h : f_X12_drum_26 N μ = some (rv, μ9)) : V x g 3 0 0 μ 26 [] [] := by
  unfold f_X12_drum_26 at h
  refine v_iconst (v := -1) C dX12_drum_26 rfl ?_
  exact v_sb (p_X12_drum_27 C F h) trivial
set_option maxRecDepth 100000 in
set_option maxHeartbeats 4000000 in
theorem p_X12_drum {x : CX} {l : Launch} {g : CG} {rv : Int32} {μ0 μ9 : Mem} (C : Cx x l g mi_X12_drum) (F : Prom x g mi_X12_drum μ0 (some (aI rv)) μ9) {N : Nat} {a0 : Option Nat} {a1 : Int32} {a2 : Int32} {μ : Mem} (h : f_X12_drum N a0 a1 a2 μ = some (rv, μ9)) : V x g 3 0 0 μ 0 [(0, aR a0), (1, aI a1), (2, aI a2)] [] := by
  unfold f_X12_drum at h
  refine v_aload_n C dX12_drum_0 rfl ?_
  refine v_iload_n C dX12_drum_1 rfl ?_
  obtain ⟨b, e0, h⟩ := ob h
  obtain ⟨q, e, h⟩ := ob h
  refine v_callV (As := [_]) C dX12_drum_2 cf_X12_341 (rm_X12_drum_X12_isUser) ⟨rfl, rfl⟩ e0 rfl (Nat.le_of_ble_eq_true rfl) (c_X12_isUser _ _ N _ _ _ q.1 q.2 e) ?_
  refine v_if_eq (tgt := 26) C dX12_drum_5 (by decide) (fun c => ?_) (fun c => ?_)
  · replace h := ifT h c
    exact v_sb (p_X12_drum_26 C F h) trivial
  · replace h := ifF h c
    refine v_iload_n C dX12_drum_8 rfl ?_
    obtain ⟨q, e, h⟩ := ob h
    refine v_callS (As := [_]) C dX12_drum_9 cf_X12_359 (rm_X12_drum_X12_isWord) ⟨rfl, rfl⟩ rfl (Nat.le_of_ble_eq_true rfl) (c_X12_isWord _ _ N _ _ q.1 q.2 e) ?_
    refine v_if_eq (tgt := 26) C dX12_drum_12 (by decide) (fun c => ?_) (fun c => ?_)
    · replace h := ifT h c
      exact v_sb (p_X12_drum_26 C F h) trivial
    · replace h := ifF h c
      refine v_aload_n C dX12_drum_15 rfl ?_
      obtain ⟨v, e, h⟩ := ob h
      refine v_getR C dX12_drum_16 gf_X12_260 e ?_
      refine v_iload_n C dX12_drum_19 rfl ?_
      obtain ⟨v, e, h⟩ := ob h
      refine v_aaload3 C dX12_drum_20 e ?_
      refine v_iload_n C dX12_drum_21 rfl ?_
      obtain ⟨v, e, h⟩ := ob h
      refine v_iaload C dX12_drum_22 e ?_
      refine v_goto (tgt := 27) C dX12_drum_23 (by decide) ?_
      exact v_sb (p_X12_drum_27 C F h) trivial
set_option maxRecDepth 100000 in
set_option maxHeartbeats 4000000 in
theorem c_X12_drum (l : Launch) (g : CG) (N : Nat) (a0 : Option Nat) (a1 : Int32) (a2 : Int32) (μ : Mem) (rv : Int32) (μ9 : Mem) (h : f_X12_drum N a0 a1 a2 μ = some (rv, μ9)) : Ct l yX12_drum mi_X12_drum g [aR a0, aI a1, aI a2] μ (some (aI rv)) μ9 := ct_of ⟨by decide, rfl, rfl⟩ (Nat.le_of_ble_eq_true rfl) fun x C F => p_X12_drum C F h
def f_X12_slot_65 (N : Nat) (s0 : Int32) (μ : Mem) : Option (Int32 × Mem) :=
  some (s0, μ)
def f_X12_slot_80 (N : Nat) (s0 : Int32) (μ : Mem) : Option (Int32 × Mem) :=
  some (s0, μ)
def f_X12_slot (N : Nat) (a0 : Option Nat) (a1 : Int32) (a2 : Int32) (μ : Mem) : Option (Int32 × Mem) :=
  (mfI μ a0 12 32).bind fun v1 =>
  (f_X12_in N a1 0 (v1 - 1) μ).bind fun q2 =>
  if ¬ q2.1 = 0 then
    if a2 = 0 then
      (mfR q2.2 a0 12 38).bind fun v3 =>
      (maI q2.2 0 v3 a1).bind fun v4 =>
      some (v4, q2.2)
    else
      if a2 = 1 then
        (mfR q2.2 a0 12 39).bind fun v5 =>
        (maI q2.2 2 v5 a1).bind fun v6 =>
        if v6 = 0 then
          f_X12_slot_65 N 0 q2.2
        else
          f_X12_slot_65 N 1 q2.2
      else
        if a2 = 2 then
          (mfR q2.2 a0 12 40).bind fun v7 =>
          (maI q2.2 2 v7 a1).bind fun v8 =>
          if v8 = 0 then
            f_X12_slot_80 N 0 q2.2
          else
            f_X12_slot_80 N 1 q2.2
        else
          some ((-1), q2.2)
  else
    some ((-1), q2.2)
set_option maxRecDepth 100000 in
set_option maxHeartbeats 4000000 in
theorem p_X12_slot_65 {x : CX} {l : Launch} {g : CG} {rv : Int32} {μ0 μ9 : Mem} (C : Cx x l g mi_X12_slot) (F : Prom x g mi_X12_slot μ0 (some (aI rv)) μ9) {N : Nat} {s0 : Int32} {μ : Mem} (h : f_X12_slot_65 N s0 μ = some (rv, μ9)) : V x g 3 0 0 μ 65 [] [aI s0] := by
  unfold f_X12_slot_65 at h
  exact v_iret C F ⟨rfl, rfl, Nat.le_refl _⟩ dX12_slot_65 h
set_option maxRecDepth 100000 in
set_option maxHeartbeats 4000000 in
theorem p_X12_slot_80 {x : CX} {l : Launch} {g : CG} {rv : Int32} {μ0 μ9 : Mem} (C : Cx x l g mi_X12_slot) (F : Prom x g mi_X12_slot μ0 (some (aI rv)) μ9) {N : Nat} {s0 : Int32} {μ : Mem} (h : f_X12_slot_80 N s0 μ = some (rv, μ9)) : V x g 3 0 0 μ 80 [] [aI s0] := by
  unfold f_X12_slot_80 at h
  exact v_iret C F ⟨rfl, rfl, Nat.le_refl _⟩ dX12_slot_80 h
set_option maxRecDepth 100000 in
set_option maxHeartbeats 4000000 in
theorem p_X12_slot {x : CX} {l : Launch} {g : CG} {rv : Int32} {μ0 μ9 : Mem} (C : Cx x l g mi_X12_slot) (F : Prom x g mi_X12_slot μ0 (some (aI rv)) μ9) {N : Nat} {a0 : Option Nat} {a1 : Int32} {a2 : Int32} {μ : Mem} (h : f_X12_slot N a0 a1 a2 μ = some (rv, μ9)) : V x g 3 0 0 μ 0 [(0, aR a0), (1, aI a1), (2, aI a2)] [] := by
  unfold f_X12_slot at h
  refine v_iload_n C dX12_slot_0 rfl ?_
  refine v_iconst (v := 0) C dX12_slot_1 rfl ?_
  refine v_aload_n C dX12_slot_2 rfl ?_
  obtain ⟨v, e, h⟩ := ob h
  refine v_getI C dX12_slot_3 gf_X12_246 e ?_
  refine v_iconst (v := 1) C dX12_slot_6 rfl ?_
  refine v_isub C dX12_slot_7 ?_
  obtain ⟨q, e, h⟩ := ob h
  refine v_callS (As := [_, _, _]) C dX12_slot_8 cf_X12_15 (rm_X12_slot_X12_in) ⟨rfl, rfl⟩ rfl (Nat.le_of_ble_eq_true rfl) (c_X12_in _ _ N _ _ _ _ q.1 q.2 e) ?_
  refine v_if_ne (tgt := 16) C dX12_slot_11 (by decide) (fun c => ?_) (fun c => ?_)
  · replace h := ifT h c
    refine v_iload_n C dX12_slot_16 rfl ?_
    refine v_tableswitch (dt := 81) (cs := [(0, 44), (1, 51), (2, 66)]) C dX12_slot_17 (by decide) (by decide) (by decide) (by decide) ?_
    refine v_case (fun c => ?_) (fun c => ?_)
    · replace h := ifT h c
      refine v_aload_n C dX12_slot_44 rfl ?_
      obtain ⟨v, e, h⟩ := ob h
      refine v_getR C dX12_slot_45 gf_X12_266 e ?_
      refine v_iload_n C dX12_slot_48 rfl ?_
      obtain ⟨v, e, h⟩ := ob h
      refine v_iaload C dX12_slot_49 e ?_
      exact v_iret C F ⟨rfl, rfl, Nat.le_refl _⟩ dX12_slot_50 h
    · replace h := ifF h c
      refine v_case (fun c => ?_) (fun c => ?_)
      · replace h := ifT h c
        refine v_aload_n C dX12_slot_51 rfl ?_
        obtain ⟨v, e, h⟩ := ob h
        refine v_getR C dX12_slot_52 gf_X12_269 e ?_
        refine v_iload_n C dX12_slot_55 rfl ?_
        obtain ⟨v, e, h⟩ := ob h
        refine v_baload C dX12_slot_56 e ?_
        refine v_if_eq (tgt := 64) C dX12_slot_57 (by decide) (fun c => ?_) (fun c => ?_)
        · replace h := ifT h c
          refine v_iconst (v := 0) C dX12_slot_64 rfl ?_
          exact v_sb (p_X12_slot_65 C F h) trivial
        · replace h := ifF h c
          refine v_iconst (v := 1) C dX12_slot_60 rfl ?_
          refine v_goto (tgt := 65) C dX12_slot_61 (by decide) ?_
          exact v_sb (p_X12_slot_65 C F h) trivial
      · replace h := ifF h c
        refine v_case (fun c => ?_) (fun c => ?_)
        · replace h := ifT h c
          refine v_aload_n C dX12_slot_66 rfl ?_
          obtain ⟨v, e, h⟩ := ob h
          refine v_getR C dX12_slot_67 gf_X12_272 e ?_
          refine v_iload_n C dX12_slot_70 rfl ?_
          obtain ⟨v, e, h⟩ := ob h
          refine v_baload C dX12_slot_71 e ?_
          refine v_if_eq (tgt := 79) C dX12_slot_72 (by decide) (fun c => ?_) (fun c => ?_)
          · replace h := ifT h c
            refine v_iconst (v := 0) C dX12_slot_79 rfl ?_
            exact v_sb (p_X12_slot_80 C F h) trivial
          · replace h := ifF h c
            refine v_iconst (v := 1) C dX12_slot_75 rfl ?_
            refine v_goto (tgt := 80) C dX12_slot_76 (by decide) ?_
            exact v_sb (p_X12_slot_80 C F h) trivial
        · replace h := ifF h c
          refine v_caseD ?_
          refine v_iconst (v := -1) C dX12_slot_81 rfl ?_
          exact v_iret C F ⟨rfl, rfl, Nat.le_refl _⟩ dX12_slot_82 h
  · replace h := ifF h c
    refine v_iconst (v := -1) C dX12_slot_14 rfl ?_
    exact v_iret C F ⟨rfl, rfl, Nat.le_refl _⟩ dX12_slot_15 h
set_option maxRecDepth 100000 in
set_option maxHeartbeats 4000000 in
theorem c_X12_slot (l : Launch) (g : CG) (N : Nat) (a0 : Option Nat) (a1 : Int32) (a2 : Int32) (μ : Mem) (rv : Int32) (μ9 : Mem) (h : f_X12_slot N a0 a1 a2 μ = some (rv, μ9)) : Ct l yX12_slot mi_X12_slot g [aR a0, aI a1, aI a2] μ (some (aI rv)) μ9 := ct_of ⟨by decide, rfl, rfl⟩ (Nat.le_of_ble_eq_true rfl) fun x C F => p_X12_slot C F h
def f_X12_block_46 (N : Nat) (s0 : Int32) (μ : Mem) : Option (Int32 × Mem) :=
  some (s0, μ)
def f_X12_block_45 (N : Nat) (μ : Mem) : Option (Int32 × Mem) :=
  f_X12_block_46 N ((-1)) μ
def f_X12_block (N : Nat) (a0 : Option Nat) (a1 : Int32) (a2 : Int32) (a3 : Int32) (μ : Mem) : Option (Int32 × Mem) :=
  (mck μ a0 12).bind fun b2 =>
  (f_X12_isUser N (some b2) a1 μ).bind fun q1 =>
  if q1.1 = 0 then
    f_X12_block_45 N q1.2
  else
    (f_X12_in N a2 0 7 q1.2).bind fun q3 =>
    if q3.1 = 0 then
      f_X12_block_45 N q3.2
    else
      (f_X12_in N a3 0 127 q3.2).bind fun q4 =>
      if q4.1 = 0 then
        f_X12_block_45 N q4.2
      else
        (mfR q4.2 a0 12 37).bind fun v5 =>
        (maR q4.2 3 v5 a1).bind fun v6 =>
        (maI q4.2 0 v6 ((128 * a2) + a3)).bind fun v7 =>
        f_X12_block_46 N v7 q4.2
set_option maxRecDepth 100000 in
set_option maxHeartbeats 4000000 in
theorem p_X12_block_46 {x : CX} {l : Launch} {g : CG} {rv : Int32} {μ0 μ9 : Mem} (C : Cx x l g mi_X12_block) (F : Prom x g mi_X12_block μ0 (some (aI rv)) μ9) {N : Nat} {s0 : Int32} {μ : Mem} (h : f_X12_block_46 N s0 μ = some (rv, μ9)) : V x g 4 0 0 μ 46 [] [aI s0] := by
  unfold f_X12_block_46 at h
  exact v_iret C F ⟨rfl, rfl, Nat.le_refl _⟩ dX12_block_46 h
set_option maxRecDepth 100000 in
set_option maxHeartbeats 4000000 in
theorem p_X12_block_45 {x : CX} {l : Launch} {g : CG} {rv : Int32} {μ0 μ9 : Mem} (C : Cx x l g mi_X12_block) (F : Prom x g mi_X12_block μ0 (some (aI rv)) μ9) {N : Nat} {μ : Mem} (h : f_X12_block_45 N μ = some (rv, μ9)) : V x g 4 0 0 μ 45 [] [] := by
  unfold f_X12_block_45 at h
  refine v_iconst (v := -1) C dX12_block_45 rfl ?_
  exact v_sb (p_X12_block_46 C F h) trivial
set_option maxRecDepth 100000 in
set_option maxHeartbeats 4000000 in
theorem p_X12_block {x : CX} {l : Launch} {g : CG} {rv : Int32} {μ0 μ9 : Mem} (C : Cx x l g mi_X12_block) (F : Prom x g mi_X12_block μ0 (some (aI rv)) μ9) {N : Nat} {a0 : Option Nat} {a1 : Int32} {a2 : Int32} {a3 : Int32} {μ : Mem} (h : f_X12_block N a0 a1 a2 a3 μ = some (rv, μ9)) : V x g 4 0 0 μ 0 [(0, aR a0), (1, aI a1), (2, aI a2), (3, aI a3)] [] := by
  unfold f_X12_block at h
  refine v_aload_n C dX12_block_0 rfl ?_
  refine v_iload_n C dX12_block_1 rfl ?_
  obtain ⟨b, e0, h⟩ := ob h
  obtain ⟨q, e, h⟩ := ob h
  refine v_callV (As := [_]) C dX12_block_2 cf_X12_341 (rm_X12_block_X12_isUser) ⟨rfl, rfl⟩ e0 rfl (Nat.le_of_ble_eq_true rfl) (c_X12_isUser _ _ N _ _ _ q.1 q.2 e) ?_
  refine v_if_eq (tgt := 45) C dX12_block_5 (by decide) (fun c => ?_) (fun c => ?_)
  · replace h := ifT h c
    exact v_sb (p_X12_block_45 C F h) trivial
  · replace h := ifF h c
    refine v_iload_n C dX12_block_8 rfl ?_
    refine v_iconst (v := 0) C dX12_block_9 rfl ?_
    refine v_bipush (v := 7) C dX12_block_10 rfl ?_
    obtain ⟨q, e, h⟩ := ob h
    refine v_callS (As := [_, _, _]) C dX12_block_12 cf_X12_15 (rm_X12_block_X12_in) ⟨rfl, rfl⟩ rfl (Nat.le_of_ble_eq_true rfl) (c_X12_in _ _ N _ _ _ _ q.1 q.2 e) ?_
    refine v_if_eq (tgt := 45) C dX12_block_15 (by decide) (fun c => ?_) (fun c => ?_)
    · replace h := ifT h c
      exact v_sb (p_X12_block_45 C F h) trivial
    · replace h := ifF h c
      refine v_iload_n C dX12_block_18 rfl ?_
      refine v_iconst (v := 0) C dX12_block_19 rfl ?_
      refine v_bipush (v := 127) C dX12_block_20 rfl ?_
      obtain ⟨q, e, h⟩ := ob h
      refine v_callS (As := [_, _, _]) C dX12_block_22 cf_X12_15 (rm_X12_block_X12_in) ⟨rfl, rfl⟩ rfl (Nat.le_of_ble_eq_true rfl) (c_X12_in _ _ N _ _ _ _ q.1 q.2 e) ?_
      refine v_if_eq (tgt := 45) C dX12_block_25 (by decide) (fun c => ?_) (fun c => ?_)
      · replace h := ifT h c
        exact v_sb (p_X12_block_45 C F h) trivial
      · replace h := ifF h c
        refine v_aload_n C dX12_block_28 rfl ?_
        obtain ⟨v, e, h⟩ := ob h
        refine v_getR C dX12_block_29 gf_X12_263 e ?_
        refine v_iload_n C dX12_block_32 rfl ?_
        obtain ⟨v, e, h⟩ := ob h
        refine v_aaload3 C dX12_block_33 e ?_
        refine v_sipush (v := 128) C dX12_block_34 rfl ?_
        refine v_iload_n C dX12_block_37 rfl ?_
        refine v_imul C dX12_block_38 ?_
        refine v_iload_n C dX12_block_39 rfl ?_
        refine v_iadd C dX12_block_40 ?_
        obtain ⟨v, e, h⟩ := ob h
        refine v_iaload C dX12_block_41 e ?_
        refine v_goto (tgt := 46) C dX12_block_42 (by decide) ?_
        exact v_sb (p_X12_block_46 C F h) trivial
set_option maxRecDepth 100000 in
set_option maxHeartbeats 4000000 in
theorem c_X12_block (l : Launch) (g : CG) (N : Nat) (a0 : Option Nat) (a1 : Int32) (a2 : Int32) (a3 : Int32) (μ : Mem) (rv : Int32) (μ9 : Mem) (h : f_X12_block N a0 a1 a2 a3 μ = some (rv, μ9)) : Ct l yX12_block mi_X12_block g [aR a0, aI a1, aI a2, aI a3] μ (some (aI rv)) μ9 := ct_of ⟨by decide, rfl, rfl⟩ (Nat.le_of_ble_eq_true rfl) fun x C F => p_X12_block C F h
def f_X12_paper_42 (N : Nat) (s0 : Int32) (μ : Mem) : Option (Int32 × Mem) :=
  some (s0, μ)
def f_X12_paper_41 (N : Nat) (μ : Mem) : Option (Int32 × Mem) :=
  f_X12_paper_42 N ((-1)) μ
def f_X12_paper (N : Nat) (a0 : Option Nat) (a1 : Int32) (a2 : Int32) (μ : Mem) : Option (Int32 × Mem) :=
  (mck μ a0 12).bind fun b2 =>
  (f_X12_isUser N (some b2) a1 μ).bind fun q1 =>
  if q1.1 = 0 then
    f_X12_paper_41 N q1.2
  else
    (mfR q1.2 a0 12 55).bind fun v3 =>
    (maI q1.2 0 v3 a1).bind fun v4 =>
    (f_X12_in N a2 0 ((mmin v4 500) - 1) q1.2).bind fun q5 =>
    if q5.1 = 0 then
      f_X12_paper_41 N q5.2
    else
      (mfR q5.2 a0 12 54).bind fun v6 =>
      (maR q5.2 3 v6 a1).bind fun v7 =>
      (maI q5.2 0 v7 a2).bind fun v8 =>
      f_X12_paper_42 N v8 q5.2
set_option maxRecDepth 100000 in
set_option maxHeartbeats 4000000 in
theorem p_X12_paper_42 {x : CX} {l : Launch} {g : CG} {rv : Int32} {μ0 μ9 : Mem} (C : Cx x l g mi_X12_paper) (F : Prom x g mi_X12_paper μ0 (some (aI rv)) μ9) {N : Nat} {s0 : Int32} {μ : Mem} (h : f_X12_paper_42 N s0 μ = some (rv, μ9)) : V x g 3 0 0 μ 42 [] [aI s0] := by
  unfold f_X12_paper_42 at h
  exact v_iret C F ⟨rfl, rfl, Nat.le_refl _⟩ dX12_paper_42 h
set_option maxRecDepth 100000 in
set_option maxHeartbeats 4000000 in
theorem p_X12_paper_41 {x : CX} {l : Launch} {g : CG} {rv : Int32} {μ0 μ9 : Mem} (C : Cx x l g mi_X12_paper) (F : Prom x g mi_X12_paper μ0 (some (aI rv)) μ9) {N : Nat} {μ : Mem} (h : f_X12_paper_41 N μ = some (rv, μ9)) : V x g 3 0 0 μ 41 [] [] := by
  unfold f_X12_paper_41 at h
  refine v_iconst (v := -1) C dX12_paper_41 rfl ?_
  exact v_sb (p_X12_paper_42 C F h) trivial
set_option maxRecDepth 100000 in
set_option maxHeartbeats 4000000 in
theorem p_X12_paper {x : CX} {l : Launch} {g : CG} {rv : Int32} {μ0 μ9 : Mem} (C : Cx x l g mi_X12_paper) (F : Prom x g mi_X12_paper μ0 (some (aI rv)) μ9) {N : Nat} {a0 : Option Nat} {a1 : Int32} {a2 : Int32} {μ : Mem} (h : f_X12_paper N a0 a1 a2 μ = some (rv, μ9)) : V x g 3 0 0 μ 0 [(0, aR a0), (1, aI a1), (2, aI a2)] [] := by
  unfold f_X12_paper at h
  refine v_aload_n C dX12_paper_0 rfl ?_
  refine v_iload_n C dX12_paper_1 rfl ?_
  obtain ⟨b, e0, h⟩ := ob h
  obtain ⟨q, e, h⟩ := ob h
  refine v_callV (As := [_]) C dX12_paper_2 cf_X12_341 (rm_X12_paper_X12_isUser) ⟨rfl, rfl⟩ e0 rfl (Nat.le_of_ble_eq_true rfl) (c_X12_isUser _ _ N _ _ _ q.1 q.2 e) ?_
  refine v_if_eq (tgt := 41) C dX12_paper_5 (by decide) (fun c => ?_) (fun c => ?_)
  · replace h := ifT h c
    exact v_sb (p_X12_paper_41 C F h) trivial
  · replace h := ifF h c
    refine v_iload_n C dX12_paper_8 rfl ?_
    refine v_iconst (v := 0) C dX12_paper_9 rfl ?_
    refine v_aload_n C dX12_paper_10 rfl ?_
    obtain ⟨v, e, h⟩ := ob h
    refine v_getR C dX12_paper_11 gf_X12_317 e ?_
    refine v_iload_n C dX12_paper_14 rfl ?_
    obtain ⟨v, e, h⟩ := ob h
    refine v_iaload C dX12_paper_15 e ?_
    refine v_sipush (v := 500) C dX12_paper_16 rfl ?_
    refine v_mmin C dX12_paper_19 mx_X12_475 rfl ⟨⟨Nat.le_of_ble_eq_true rfl, Nat.le_of_ble_eq_true rfl⟩, Nat.le_of_ble_eq_true rfl, Nat.le_of_ble_eq_true rfl⟩ ?_
    refine v_iconst (v := 1) C dX12_paper_22 rfl ?_
    refine v_isub C dX12_paper_23 ?_
    obtain ⟨q, e, h⟩ := ob h
    refine v_callS (As := [_, _, _]) C dX12_paper_24 cf_X12_15 (rm_X12_paper_X12_in) ⟨rfl, rfl⟩ rfl (Nat.le_of_ble_eq_true rfl) (c_X12_in _ _ N _ _ _ _ q.1 q.2 e) ?_
    refine v_if_eq (tgt := 41) C dX12_paper_27 (by decide) (fun c => ?_) (fun c => ?_)
    · replace h := ifT h c
      exact v_sb (p_X12_paper_41 C F h) trivial
    · replace h := ifF h c
      refine v_aload_n C dX12_paper_30 rfl ?_
      obtain ⟨v, e, h⟩ := ob h
      refine v_getR C dX12_paper_31 gf_X12_314 e ?_
      refine v_iload_n C dX12_paper_34 rfl ?_
      obtain ⟨v, e, h⟩ := ob h
      refine v_aaload3 C dX12_paper_35 e ?_
      refine v_iload_n C dX12_paper_36 rfl ?_
      obtain ⟨v, e, h⟩ := ob h
      refine v_iaload C dX12_paper_37 e ?_
      refine v_goto (tgt := 42) C dX12_paper_38 (by decide) ?_
      exact v_sb (p_X12_paper_42 C F h) trivial
set_option maxRecDepth 100000 in
set_option maxHeartbeats 4000000 in
theorem c_X12_paper (l : Launch) (g : CG) (N : Nat) (a0 : Option Nat) (a1 : Int32) (a2 : Int32) (μ : Mem) (rv : Int32) (μ9 : Mem) (h : f_X12_paper N a0 a1 a2 μ = some (rv, μ9)) : Ct l yX12_paper mi_X12_paper g [aR a0, aI a1, aI a2] μ (some (aI rv)) μ9 := ct_of ⟨by decide, rfl, rfl⟩ (Nat.le_of_ble_eq_true rfl) fun x C F => p_X12_paper C F h
