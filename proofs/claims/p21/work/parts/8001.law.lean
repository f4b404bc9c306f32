def f_L_cell_13 (N : Nat) (g : CG) (s0 : Int32) (μ : Mem) : Option (Int32 × Mem) :=
  some (s0, μ)
def f_L_cell (N : Nat) (g : CG) (a0 : Nat) (a1 : Int32) (μ : Mem) : Option (Int32 × Mem) :=
  if (Int32.ofNat g.1.2.2.1) ≤ a1 then
    f_L_cell_13 N g 0 μ
  else
    (xS g a1).bind fun v1 =>
    f_L_cell_13 N g v1 μ
set_option maxRecDepth 100000 in
set_option maxHeartbeats 4000000 in
theorem p_L_cell_13 {x : CX} {l : Launch} {g : CG} {rv : Int32} {μ0 μ9 : Mem} (C : Cx x l g (mi_L_cell)) (F : Prom x g (mi_L_cell) μ0 (some (aI rv)) μ9) {N : Nat} {s0 : Int32} {μ : Mem} (h : f_L_cell_13 N g s0 μ = some (rv, μ9)) : V x g 2 0 0 μ 13 [] [aI s0] := by
  unfold f_L_cell_13 at h
  exact v_iret C F ⟨rfl, rfl, Nat.le_refl _⟩ dL_cell_13 h
set_option maxRecDepth 100000 in
set_option maxHeartbeats 4000000 in
theorem p_L_cell {x : CX} {l : Launch} {g : CG} {rv : Int32} {μ0 μ9 : Mem} (C : Cx x l g (mi_L_cell)) (F : Prom x g (mi_L_cell) μ0 (some (aI rv)) μ9) {N : Nat} {a0 : Nat} {a1 : Int32} {μ : Mem} (h : f_L_cell N g a0 a1 μ = some (rv, μ9)) : V x g 2 0 0 μ 0 [(0, aX 2), (1, aI a1)] [] := by
  unfold f_L_cell at h
  refine v_iload_n C dL_cell_0 rfl ?_
  refine v_aloadX_n C dL_cell_1 rfl ?_
  refine v_xl2 C dL_cell_2 ?_
  refine v_icmp_ge (tgt := 12) C dL_cell_3 (by decide) (fun c => ?_) (fun c => ?_)
  · replace h := ifT h c
    refine v_iconst (v := 0) C dL_cell_12 rfl ?_
    exact v_sb (p_L_cell_13 C F h) trivial
  · replace h := ifF h c
    refine v_aloadX_n C dL_cell_6 rfl ?_
    refine v_iload_n C dL_cell_7 rfl ?_
    obtain ⟨v, e, h⟩ := ob h
    refine v_xi2 C dL_cell_8 e ?_
    refine v_goto (tgt := 13) C dL_cell_9 (by decide) ?_
    exact v_sb (p_L_cell_13 C F h) trivial
set_option maxRecDepth 100000 in
set_option maxHeartbeats 4000000 in
theorem c_L_cell (l : Launch) (g : CG) (N : Nat) (a0 : Nat) (a1 : Int32) (μ : Mem) (rv : Int32) (μ9 : Mem) (h : f_L_cell N g a0 a1 μ = some (rv, μ9)) : Ct l yL_cell (mi_L_cell) g [aX 2, aI a1] μ (some (aI rv)) μ9 := ct_of ⟨by decide, rfl, rfl⟩ (Nat.le_of_ble_eq_true rfl) fun x C F => p_L_cell C F h
def f_L_law_788 (N : Nat) (g : CG) (U S : Nat) (k58 : Nat → (Option Nat) → (Option Nat) → Int32 → Mem → Option (Unit × Mem)) (a0 : Nat) (a1 : Option Nat) (a2 : Option Nat) (a3 : Int32) (μ : Mem) : Option (Unit × Mem) :=
  k58 2 a1 a2 (a3 + 6) μ
def H_L_law_58 (N : Nat) (g : CG) (U S : Nat) (k58 : Nat → (Option Nat) → (Option Nat) → Int32 → Mem → Option (Unit × Mem)) (a0 : Nat) (a1 : Option Nat) (a2 : Option Nat) (a3 : Int32) (μ : Mem) : Option (Unit × Mem) :=
  if ((Int32.ofNat g.1.2.2.1) - 6) < a3 then
    some ((), μ)
  else
    (xS g a3).bind fun v1 =>
    if (v1 &&& 31) = 0 then
      (xS g (a3 + 1)).bind fun v2 =>
      (xS g (a3 + 2)).bind fun v3 =>
      (xS g (a3 + 3)).bind fun v4 =>
      (xS g (a3 + 4)).bind fun v5 =>
      (xS g (a3 + 5)).bind fun v6 =>
      (mck μ a1 11).bind fun b8 =>
      (f_X11_feed N (some b8) v2 v3 v4 v5 v6 μ).bind fun q7 =>
      (xS g (a3 + 1)).bind fun v9 =>
      (xS g (a3 + 2)).bind fun v10 =>
      (xS g (a3 + 3)).bind fun v11 =>
      (xS g (a3 + 4)).bind fun v12 =>
      (xS g (a3 + 5)).bind fun v13 =>
      (mck q7.2 a2 12).bind fun b15 =>
      (f_X12_feed N (some b15) v9 v10 v11 v12 v13 q7.2).bind fun q14 =>
      f_L_law_788 N g U S k58 2 a1 a2 a3 q14.2
    else
      if (v1 &&& 31) = 1 then
        (xS g (a3 + 1)).bind fun v16 =>
        (mck μ a1 11).bind fun b18 =>
        (f_X11_end N (some b18) v16 μ).bind fun q17 =>
        (xS g (a3 + 1)).bind fun v19 =>
        (mck q17.2 a2 12).bind fun b21 =>
        (f_X12_end N (some b21) v19 q17.2).bind fun q20 =>
        f_L_law_788 N g U S k58 2 a1 a2 a3 q20.2
      else
        if (v1 &&& 31) = 2 then
          (mck μ a1 11).bind fun b23 =>
          (f_X11_assemble N (some b23) μ).bind fun q22 =>
          (mck q22.2 a2 12).bind fun b25 =>
          (f_X12_assemble N (some b25) q22.2).bind fun q24 =>
          f_L_law_788 N g U S k58 2 a1 a2 a3 q24.2
        else
          if (v1 &&& 31) = 3 then
            (xS g (a3 + 1)).bind fun v26 =>
            (mck μ a1 11).bind fun b28 =>
            (f_X11_fault N (some b28) v26 μ).bind fun q27 =>
            (xS g (a3 + 1)).bind fun v29 =>
            (mck q27.2 a2 12).bind fun b31 =>
            (f_X12_fault N (some b31) v29 q27.2).bind fun q30 =>
            f_L_law_788 N g U S k58 2 a1 a2 a3 q30.2
          else
            if (v1 &&& 31) = 4 then
              (xS g (a3 + 1)).bind fun v32 =>
              (mck μ a1 11).bind fun b34 =>
              (f_X11_made N (some b34) v32 μ).bind fun q33 =>
              (xS g (a3 + 1)).bind fun v35 =>
              (mck q33.2 a2 12).bind fun b37 =>
              (f_X12_made N (some b37) v35 q33.2).bind fun q36 =>
              f_L_law_788 N g U S k58 2 a1 a2 a3 q36.2
            else
              if (v1 &&& 31) = 5 then
                (xS g (a3 + 1)).bind fun v38 =>
                (mck μ a1 11).bind fun b40 =>
                (f_X11_mount N (some b40) v38 μ).bind fun q39 =>
                (xS g (a3 + 1)).bind fun v41 =>
                (mck q39.2 a2 12).bind fun b43 =>
                (f_X12_mount N (some b43) v41 q39.2).bind fun q42 =>
                f_L_law_788 N g U S k58 2 a1 a2 a3 q42.2
              else
                if (v1 &&& 31) = 6 then
                  (xS g (a3 + 1)).bind fun v44 =>
                  (xS g (a3 + 2)).bind fun v45 =>
                  (mck μ a1 11).bind fun b47 =>
                  (f_X11_begin N (some b47) v44 v45 μ).bind fun q46 =>
                  (xS g (a3 + 1)).bind fun v48 =>
                  (xS g (a3 + 2)).bind fun v49 =>
                  (mck q46.2 a2 12).bind fun b51 =>
                  (f_X12_begin N (some b51) v48 v49 q46.2).bind fun q50 =>
                  f_L_law_788 N g U S k58 2 a1 a2 a3 q50.2
                else
                  if (v1 &&& 31) = 7 then
                    (xS g (a3 + 1)).bind fun v52 =>
                    (mck μ a1 11).bind fun b54 =>
                    (f_X11_halt N (some b54) v52 μ).bind fun q53 =>
                    (xS g (a3 + 1)).bind fun v55 =>
                    (mck q53.2 a2 12).bind fun b57 =>
                    (f_X12_halt N (some b57) v55 q53.2).bind fun q56 =>
                    f_L_law_788 N g U S k58 2 a1 a2 a3 q56.2
                  else
                    if (v1 &&& 31) = 8 then
                      (xS g (a3 + 1)).bind fun v58 =>
                      (xS g (a3 + 2)).bind fun v59 =>
                      (mck μ a1 11).bind fun b61 =>
                      (f_X11_key N (some b61) v58 v59 μ).bind fun q60 =>
                      (xS g (a3 + 1)).bind fun v62 =>
                      (xS g (a3 + 2)).bind fun v63 =>
                      (mck q60.2 a2 12).bind fun b65 =>
                      (f_X12_key N (some b65) v62 v63 q60.2).bind fun q64 =>
                      f_L_law_788 N g U S k58 2 a1 a2 a3 q64.2
                    else
                      if (v1 &&& 31) = 9 then
                        (xS g (a3 + 1)).bind fun v66 =>
                        (xS g (a3 + 2)).bind fun v67 =>
                        (mck μ a1 11).bind fun b69 =>
                        (f_X11_set N (some b69) v66 v67 μ).bind fun q68 =>
                        (xS g (a3 + 1)).bind fun v70 =>
                        (xS g (a3 + 2)).bind fun v71 =>
                        (mck q68.2 a2 12).bind fun b73 =>
                        (f_X12_set N (some b73) v70 v71 q68.2).bind fun q72 =>
                        f_L_law_788 N g U S k58 2 a1 a2 a3 q72.2
                      else
                        if (v1 &&& 31) = 10 then
                          (xS g (a3 + 1)).bind fun v74 =>
                          (xS g (a3 + 2)).bind fun v75 =>
                          (xS g (a3 + 3)).bind fun v76 =>
                          (mck μ a1 11).bind fun b78 =>
                          (f_X11_deposit N (some b78) v74 v75 v76 μ).bind fun q77 =>
                          (xS g (a3 + 1)).bind fun v79 =>
                          (xS g (a3 + 2)).bind fun v80 =>
                          (xS g (a3 + 3)).bind fun v81 =>
                          (mck q77.2 a2 12).bind fun b83 =>
                          (f_X12_deposit N (some b83) v79 v80 v81 q77.2).bind fun q82 =>
                          f_L_law_788 N g U S k58 2 a1 a2 a3 q82.2
                        else
                          if (v1 &&& 31) = 11 then
                            (xS g (a3 + 1)).bind fun v84 =>
                            (mck μ a1 11).bind fun b86 =>
                            (f_X11_run N (some b86) v84 μ).bind fun q85 =>
                            (xS g (a3 + 1)).bind fun v87 =>
                            (mck q85.2 a2 12).bind fun b89 =>
                            (f_X12_run N (some b89) v87 q85.2).bind fun q88 =>
                            f_L_law_788 N g U S k58 2 a1 a2 a3 q88.2
                          else
                            if (v1 &&& 31) = 12 then
                              (xS g (a3 + 1)).bind fun v90 =>
                              (xS g (a3 + 2)).bind fun v91 =>
                              (mck μ a1 11).bind fun b93 =>
                              (f_X11_user N (some b93) v90 v91 μ).bind fun q92 =>
                              (xS g (a3 + 1)).bind fun v94 =>
                              (xS g (a3 + 2)).bind fun v95 =>
                              (mck q92.2 a2 12).bind fun b97 =>
                              (f_X12_user N (some b97) v94 v95 q92.2).bind fun q96 =>
                              f_L_law_788 N g U S k58 2 a1 a2 a3 q96.2
                            else
                              if (v1 &&& 31) = 13 then
                                (xS g (a3 + 1)).bind fun v98 =>
                                (mck μ a1 11).bind fun b100 =>
                                (f_X11_look N (some b100) v98 μ).bind fun q99 =>
                                (xS g (a3 + 1)).bind fun v101 =>
                                (mck q99.2 a2 12).bind fun b103 =>
                                (f_X12_look_ N (some b103) v101 q99.2).bind fun q102 =>
                                f_L_law_788 N g U S k58 2 a1 a2 a3 q102.2
                              else
                                if (v1 &&& 31) = 14 then
                                  (xS g (a3 + 1)).bind fun v104 =>
                                  (xS g (a3 + 2)).bind fun v105 =>
                                  (mck μ a1 11).bind fun b107 =>
                                  (f_X11_word N (some b107) v104 v105 μ).bind fun q106 =>
                                  (xS g (a3 + 1)).bind fun v108 =>
                                  (xS g (a3 + 2)).bind fun v109 =>
                                  (mck q106.2 a2 12).bind fun b111 =>
                                  (f_X12_word__ N (some b111) v108 v109 q106.2).bind fun q110 =>
                                  f_L_law_788 N g U S k58 2 a1 a2 a3 q110.2
                                else
                                  if (v1 &&& 31) = 15 then
                                    (xS g (a3 + 1)).bind fun v112 =>
                                    (xS g (a3 + 2)).bind fun v113 =>
                                    (mck μ a1 11).bind fun b115 =>
                                    (f_X11_core N (some b115) v112 v113 μ).bind fun q114 =>
                                    (xS g (a3 + 1)).bind fun v116 =>
                                    (xS g (a3 + 2)).bind fun v117 =>
                                    (mck q114.2 a2 12).bind fun b119 =>
                                    (f_X12_core N (some b119) v116 v117 q114.2).bind fun q118 =>
                                    f_L_law_788 N g U S k58 2 a1 a2 a3 q118.2
                                  else
                                    if (v1 &&& 31) = 16 then
                                      (xS g (a3 + 1)).bind fun v120 =>
                                      (xS g (a3 + 2)).bind fun v121 =>
                                      (mck μ a1 11).bind fun b123 =>
                                      (f_X11_drum N (some b123) v120 v121 μ).bind fun q122 =>
                                      (xS g (a3 + 1)).bind fun v124 =>
                                      (xS g (a3 + 2)).bind fun v125 =>
                                      (mck q122.2 a2 12).bind fun b127 =>
                                      (f_X12_drum N (some b127) v124 v125 q122.2).bind fun q126 =>
                                      f_L_law_788 N g U S k58 2 a1 a2 a3 q126.2
                                    else
                                      if (v1 &&& 31) = 17 then
                                        (xS g (a3 + 1)).bind fun v128 =>
                                        (xS g (a3 + 2)).bind fun v129 =>
                                        (mck μ a1 11).bind fun b131 =>
                                        (f_X11_slot N (some b131) v128 v129 μ).bind fun q130 =>
                                        (xS g (a3 + 1)).bind fun v132 =>
                                        (xS g (a3 + 2)).bind fun v133 =>
                                        (mck q130.2 a2 12).bind fun b135 =>
                                        (f_X12_slot N (some b135) v132 v133 q130.2).bind fun q134 =>
                                        f_L_law_788 N g U S k58 2 a1 a2 a3 q134.2
                                      else
                                        if (v1 &&& 31) = 18 then
                                          (xS g (a3 + 1)).bind fun v136 =>
                                          (xS g (a3 + 2)).bind fun v137 =>
                                          (xS g (a3 + 3)).bind fun v138 =>
                                          (mck μ a1 11).bind fun b140 =>
                                          (f_X11_block N (some b140) v136 v137 v138 μ).bind fun q139 =>
                                          (xS g (a3 + 1)).bind fun v141 =>
                                          (xS g (a3 + 2)).bind fun v142 =>
                                          (xS g (a3 + 3)).bind fun v143 =>
                                          (mck q139.2 a2 12).bind fun b145 =>
                                          (f_X12_block N (some b145) v141 v142 v143 q139.2).bind fun q144 =>
                                          f_L_law_788 N g U S k58 2 a1 a2 a3 q144.2
                                        else
                                          if (v1 &&& 31) = 19 then
                                            (xS g (a3 + 1)).bind fun v146 =>
                                            (xS g (a3 + 2)).bind fun v147 =>
                                            (mck μ a1 11).bind fun b149 =>
                                            (f_X11_paper N (some b149) v146 v147 μ).bind fun q148 =>
                                            (xS g (a3 + 1)).bind fun v150 =>
                                            (xS g (a3 + 2)).bind fun v151 =>
                                            (mck q148.2 a2 12).bind fun b153 =>
                                            (f_X12_paper N (some b153) v150 v151 q148.2).bind fun q152 =>
                                            if q148.1 = q152.1 then
                                              f_L_law_788 N g U S k58 2 a1 a2 a3 q152.2
                                            else
                                              none
                                          else
                                            f_L_law_788 N g U S k58 2 a1 a2 a3 μ
def L_L_law_58 (N : Nat) (g : CG) (U S : Nat) : Nat → Nat → (Option Nat) → (Option Nat) → Int32 → Mem → Option (Unit × Mem)
  | 0 => fun _ _ _ _ _ => none
  | n + 1 => H_L_law_58 N g U S (L_L_law_58 N g U S n)
def f_L_law (N : Nat) (g : CG) (U S : Nat) (a0 : Nat) (μ : Mem) : Option (Unit × Mem) :=
  (some (madd μ (.inr (11, df_X11)))).bind fun μ1 =>
  (f_L_cell N g 2 0 μ1).bind fun q2 =>
  (f_L_cell N g 2 1 q2.2).bind fun q3 =>
  (f_L_cell N g 2 2 q3.2).bind fun q4 =>
  (f_L_cell N g 2 3 q4.2).bind fun q5 =>
  (f_X11_init N U S (some μ.1) q2.1 q3.1 q4.1 q5.1 q5.2).bind fun q6 =>
  (some (madd q6.2 (.inr (12, df_X12)))).bind fun μ7 =>
  (f_L_cell N g 2 0 μ7).bind fun q8 =>
  (f_L_cell N g 2 1 q8.2).bind fun q9 =>
  (f_L_cell N g 2 2 q9.2).bind fun q10 =>
  (f_L_cell N g 2 3 q10.2).bind fun q11 =>
  (f_X12_init N U S (some q6.2.1) q8.1 q9.1 q10.1 q11.1 q11.2).bind fun q12 =>
  L_L_law_58 N g U S N 2 (some μ.1) (some q6.2.1) 4 q12.2
set_option maxRecDepth 100000 in
set_option maxHeartbeats 4000000 in
theorem p_L_law_788 {x : CX} {l : Launch} {g : CG} {rv : Unit} {μ9 : Mem} {U S : Nat} {nm : String} (C : Cx x l g (mi_L_law nm)) (F : FL x g) (hU : U ≤ 6 ∧ S ≤ 4) {N : Nat} {k58 : Nat → (Option Nat) → (Option Nat) → Int32 → Mem → Option (Unit × Mem)} (hk58 : ∀ (a0 : Nat) (a1 : Option Nat) (a2 : Option Nat) (a3 : Int32) (μ : Mem), k58 a0 a1 a2 a3 μ = some (rv, μ9) → V x g 4 (64 + 13 * U + 3 * S) (43918 + 11355 * U + 8202 * S) μ 58 [(0, aX 2), (1, aR a1), (2, aR a2), (3, aI a3)] []) {a0 : Nat} {a1 : Option Nat} {a2 : Option Nat} {a3 : Int32} {μ : Mem} (h : f_L_law_788 N g U S k58 a0 a1 a2 a3 μ = some (rv, μ9)) : V x g 4 (64 + 13 * U + 3 * S) (43918 + 11355 * U + 8202 * S) μ 788 [(0, aX 2), (1, aR a1), (2, aR a2), (3, aI a3)] [] := by
  unfold f_L_law_788 at h
  refine v_iinc (w := 6) C dL_law_788 rfl rfl (by decide) ?_
  refine v_goto (tgt := 58) C dL_law_791 (by decide) ?_
  refine v_eqk (k' := (64 + 13 * U + 3 * S)) (by omega) ?_
  refine v_wid (n' := (43918 + 11355 * U + 8202 * S)) (by omega) ?_
  exact v_sb (hk58 _ _ _ _ _ h) ⟨rfl, rfl, rfl, rfl, trivial⟩
set_option maxRecDepth 100000 in
set_option maxHeartbeats 4000000 in
theorem pH_L_law_58 {x : CX} {l : Launch} {g : CG} {rv : Unit} {μ9 : Mem} {U S : Nat} {nm : String} (C : Cx x l g (mi_L_law nm)) (F : FL x g) (hU : U ≤ 6 ∧ S ≤ 4) {N : Nat} {k58 : Nat → (Option Nat) → (Option Nat) → Int32 → Mem → Option (Unit × Mem)} (hk58 : ∀ (a0 : Nat) (a1 : Option Nat) (a2 : Option Nat) (a3 : Int32) (μ : Mem), k58 a0 a1 a2 a3 μ = some (rv, μ9) → V x g 4 (64 + 13 * U + 3 * S) (43918 + 11355 * U + 8202 * S) μ 58 [(0, aX 2), (1, aR a1), (2, aR a2), (3, aI a3)] []) {a0 : Nat} {a1 : Option Nat} {a2 : Option Nat} {a3 : Int32} {μ : Mem} (h : H_L_law_58 N g U S k58 a0 a1 a2 a3 μ = some (rv, μ9)) : V x g 4 (64 + 13 * U + 3 * S) (43918 + 11355 * U + 8202 * S) μ 58 [(0, aX 2), (1, aR a1), (2, aR a2), (3, aI a3)] [] := by
  unfold H_L_law_58 at h
  refine v_iload_n C dL_law_58 rfl ?_
  refine v_aloadX_n C dL_law_59 rfl ?_
  refine v_xl2 C dL_law_60 ?_
  refine v_bipush (v := 6) C dL_law_61 rfl ?_
  refine v_isub C dL_law_63 ?_
  refine v_icmp_gt (tgt := 794) C dL_law_64 (by decide) (fun c => ?_) (fun c => ?_)
  · replace h := ifT h c
    refine v_iconst (v := 1) C dL_law_794 rfl ?_
    exact v_lawend C F dL_law_795 rfl ⟨by omega, by omega⟩
  · replace h := ifF h c
    refine v_aloadX_n C dL_law_67 rfl ?_
    refine v_iload_n C dL_law_68 rfl ?_
    obtain ⟨v, e, h⟩ := ob h
    refine v_xi2 C dL_law_69 e ?_
    refine v_bipush (v := 31) C dL_law_70 rfl ?_
    refine v_iand C dL_law_72 ?_
    refine v_tableswitch (dt := 788) (cs := [(0, 168), (1, 231), (2, 254), (3, 267), (4, 290), (5, 313), (6, 336), (7, 369), (8, 392), (9, 425), (10, 458), (11, 501), (12, 524), (13, 557), (14, 580), (15, 613), (16, 646), (17, 679), (18, 712), (19, 755)]) C dL_law_73 (by decide) (by decide) (by decide) (by decide) ?_
    refine v_case (fun c => ?_) (fun c => ?_)
    · replace h := ifT h c
      refine v_aload_n C dL_law_168 rfl ?_
      refine v_aloadX_n C dL_law_169 rfl ?_
      refine v_iload_n C dL_law_170 rfl ?_
      refine v_iconst (v := 1) C dL_law_171 rfl ?_
      refine v_iadd C dL_law_172 ?_
      obtain ⟨v, e, h⟩ := ob h
      refine v_xi2 C dL_law_173 e ?_
      refine v_aloadX_n C dL_law_174 rfl ?_
      refine v_iload_n C dL_law_175 rfl ?_
      refine v_iconst (v := 2) C dL_law_176 rfl ?_
      refine v_iadd C dL_law_177 ?_
      obtain ⟨v, e, h⟩ := ob h
      refine v_xi2 C dL_law_178 e ?_
      refine v_aloadX_n C dL_law_179 rfl ?_
      refine v_iload_n C dL_law_180 rfl ?_
      refine v_iconst (v := 3) C dL_law_181 rfl ?_
      refine v_iadd C dL_law_182 ?_
      obtain ⟨v, e, h⟩ := ob h
      refine v_xi2 C dL_law_183 e ?_
      refine v_aloadX_n C dL_law_184 rfl ?_
      refine v_iload_n C dL_law_185 rfl ?_
      refine v_iconst (v := 4) C dL_law_186 rfl ?_
      refine v_iadd C dL_law_187 ?_
      obtain ⟨v, e, h⟩ := ob h
      refine v_xi2 C dL_law_188 e ?_
      refine v_aloadX_n C dL_law_189 rfl ?_
      refine v_iload_n C dL_law_190 rfl ?_
      refine v_iconst (v := 5) C dL_law_191 rfl ?_
      refine v_iadd C dL_law_192 ?_
      obtain ⟨v, e, h⟩ := ob h
      refine v_xi2 C dL_law_193 e ?_
      obtain ⟨b, e0, h⟩ := ob h
      obtain ⟨q, e, h⟩ := ob h
      refine v_callV (As := [_, _, _, _, _]) C dL_law_194 cf_L_21 ⟨⟨Nat.le_of_ble_eq_true rfl, Nat.le_of_ble_eq_true rfl⟩, by show (64 + 13 * U + 3 * S) + 0 ≤ 600000; omega, by show (43918 + 11355 * U + 8202 * S) + 0 ≤ 7302250; omega⟩ ⟨rfl, rfl⟩ e0 rfl (Nat.le_of_ble_eq_true rfl) (c_X11_feed _ _ N _ _ _ _ _ _ _ q.1 q.2 e) ?_
      refine v_eqk (k' := (64 + 13 * U + 3 * S)) (by show (64 + 13 * U + 3 * S) + 0 = (64 + 13 * U + 3 * S); omega) ?_
      refine v_wid (n' := (43918 + 11355 * U + 8202 * S)) (by show (43918 + 11355 * U + 8202 * S) + 0 ≤ (43918 + 11355 * U + 8202 * S); omega) ?_
      refine v_pop C dL_law_197 rfl ?_
      refine v_aload_n C dL_law_198 rfl ?_
      refine v_aloadX_n C dL_law_199 rfl ?_
      refine v_iload_n C dL_law_200 rfl ?_
      refine v_iconst (v := 1) C dL_law_201 rfl ?_
      refine v_iadd C dL_law_202 ?_
      obtain ⟨v, e, h⟩ := ob h
      refine v_xi2 C dL_law_203 e ?_
      refine v_aloadX_n C dL_law_204 rfl ?_
      refine v_iload_n C dL_law_205 rfl ?_
      refine v_iconst (v := 2) C dL_law_206 rfl ?_
      refine v_iadd C dL_law_207 ?_
      obtain ⟨v, e, h⟩ := ob h
      refine v_xi2 C dL_law_208 e ?_
      refine v_aloadX_n C dL_law_209 rfl ?_
      refine v_iload_n C dL_law_210 rfl ?_
      refine v_iconst (v := 3) C dL_law_211 rfl ?_
      refine v_iadd C dL_law_212 ?_
      obtain ⟨v, e, h⟩ := ob h
      refine v_xi2 C dL_law_213 e ?_
      refine v_aloadX_n C dL_law_214 rfl ?_
      refine v_iload_n C dL_law_215 rfl ?_
      refine v_iconst (v := 4) C dL_law_216 rfl ?_
      refine v_iadd C dL_law_217 ?_
      obtain ⟨v, e, h⟩ := ob h
      refine v_xi2 C dL_law_218 e ?_
      refine v_aloadX_n C dL_law_219 rfl ?_
      refine v_iload_n C dL_law_220 rfl ?_
      refine v_iconst (v := 5) C dL_law_221 rfl ?_
      refine v_iadd C dL_law_222 ?_
      obtain ⟨v, e, h⟩ := ob h
      refine v_xi2 C dL_law_223 e ?_
      obtain ⟨b, e0, h⟩ := ob h
      obtain ⟨q, e, h⟩ := ob h
      refine v_callV (As := [_, _, _, _, _]) C dL_law_224 cf_L_25 ⟨⟨Nat.le_of_ble_eq_true rfl, Nat.le_of_ble_eq_true rfl⟩, by show (64 + 13 * U + 3 * S) + 0 ≤ 600000; omega, by show (43918 + 11355 * U + 8202 * S) + 0 ≤ 7302250; omega⟩ ⟨rfl, rfl⟩ e0 rfl (Nat.le_of_ble_eq_true rfl) (c_X12_feed _ _ N _ _ _ _ _ _ _ q.1 q.2 e) ?_
      refine v_eqk (k' := (64 + 13 * U + 3 * S)) (by show (64 + 13 * U + 3 * S) + 0 = (64 + 13 * U + 3 * S); omega) ?_
      refine v_wid (n' := (43918 + 11355 * U + 8202 * S)) (by show (43918 + 11355 * U + 8202 * S) + 0 ≤ (43918 + 11355 * U + 8202 * S); omega) ?_
      refine v_pop C dL_law_227 rfl ?_
      refine v_goto (tgt := 788) C dL_law_228 (by decide) ?_
      refine v_eqk (k' := (64 + 13 * U + 3 * S)) (by omega) ?_
      refine v_wid (n' := (43918 + 11355 * U + 8202 * S)) (by omega) ?_
      exact v_sb (p_L_law_788 C F hU hk58 h) ⟨rfl, rfl, rfl, rfl, trivial⟩
    · replace h := ifF h c
      refine v_case (fun c => ?_) (fun c => ?_)
      · replace h := ifT h c
        refine v_aload_n C dL_law_231 rfl ?_
        refine v_aloadX_n C dL_law_232 rfl ?_
        refine v_iload_n C dL_law_233 rfl ?_
        refine v_iconst (v := 1) C dL_law_234 rfl ?_
        refine v_iadd C dL_law_235 ?_
        obtain ⟨v, e, h⟩ := ob h
        refine v_xi2 C dL_law_236 e ?_
        obtain ⟨b, e0, h⟩ := ob h
        obtain ⟨q, e, h⟩ := ob h
        refine v_callV (As := [_]) C dL_law_237 cf_L_26 ⟨⟨Nat.le_of_ble_eq_true rfl, Nat.le_of_ble_eq_true rfl⟩, by show (64 + 13 * U + 3 * S) + 0 ≤ 600000; omega, by show (43918 + 11355 * U + 8202 * S) + 0 ≤ 7302250; omega⟩ ⟨rfl, rfl⟩ e0 rfl (Nat.le_of_ble_eq_true rfl) (c_X11_end _ _ N _ _ _ q.1 q.2 e) ?_
        refine v_eqk (k' := (64 + 13 * U + 3 * S)) (by show (64 + 13 * U + 3 * S) + 0 = (64 + 13 * U + 3 * S); omega) ?_
        refine v_wid (n' := (43918 + 11355 * U + 8202 * S)) (by show (43918 + 11355 * U + 8202 * S) + 0 ≤ (43918 + 11355 * U + 8202 * S); omega) ?_
        refine v_pop C dL_law_240 rfl ?_
        refine v_aload_n C dL_law_241 rfl ?_
        refine v_aloadX_n C dL_law_242 rfl ?_
        refine v_iload_n C dL_law_243 rfl ?_
        refine v_iconst (v := 1) C dL_law_244 rfl ?_
        refine v_iadd C dL_law_245 ?_
        obtain ⟨v, e, h⟩ := ob h
        refine v_xi2 C dL_law_246 e ?_
        obtain ⟨b, e0, h⟩ := ob h
        obtain ⟨q, e, h⟩ := ob h
        refine v_callV (As := [_]) C dL_law_247 cf_L_30 ⟨⟨Nat.le_of_ble_eq_true rfl, Nat.le_of_ble_eq_true rfl⟩, by show (64 + 13 * U + 3 * S) + 0 ≤ 600000; omega, by show (43918 + 11355 * U + 8202 * S) + 0 ≤ 7302250; omega⟩ ⟨rfl, rfl⟩ e0 rfl (Nat.le_of_ble_eq_true rfl) (c_X12_end _ _ N _ _ _ q.1 q.2 e) ?_
        refine v_eqk (k' := (64 + 13 * U + 3 * S)) (by show (64 + 13 * U + 3 * S) + 0 = (64 + 13 * U + 3 * S); omega) ?_
        refine v_wid (n' := (43918 + 11355 * U + 8202 * S)) (by show (43918 + 11355 * U + 8202 * S) + 0 ≤ (43918 + 11355 * U + 8202 * S); omega) ?_
        refine v_pop C dL_law_250 rfl ?_
        refine v_goto (tgt := 788) C dL_law_251 (by decide) ?_
        refine v_eqk (k' := (64 + 13 * U + 3 * S)) (by omega) ?_
        refine v_wid (n' := (43918 + 11355 * U + 8202 * S)) (by omega) ?_
        exact v_sb (p_L_law_788 C F hU hk58 h) ⟨rfl, rfl, rfl, rfl, trivial⟩
      · replace h := ifF h c
        refine v_case (fun c => ?_) (fun c => ?_)
        · replace h := ifT h c
          refine v_aload_n C dL_law_254 rfl ?_
          obtain ⟨b, e0, h⟩ := ob h
          obtain ⟨q, e, h⟩ := ob h
          refine v_callV (As := []) C dL_law_255 cf_L_31 ⟨⟨Nat.le_of_ble_eq_true rfl, Nat.le_of_ble_eq_true rfl⟩, by show (64 + 13 * U + 3 * S) + 0 ≤ 600000; omega, by show (43918 + 11355 * U + 8202 * S) + 0 ≤ 7302250; omega⟩ ⟨rfl, rfl⟩ e0 rfl (Nat.le_of_ble_eq_true rfl) (c_X11_assemble _ _ N _ _ q.1 q.2 e) ?_
          refine v_eqk (k' := (64 + 13 * U + 3 * S)) (by show (64 + 13 * U + 3 * S) + 0 = (64 + 13 * U + 3 * S); omega) ?_
          refine v_wid (n' := (43918 + 11355 * U + 8202 * S)) (by show (43918 + 11355 * U + 8202 * S) + 0 ≤ (43918 + 11355 * U + 8202 * S); omega) ?_
          refine v_pop C dL_law_258 rfl ?_
          refine v_aload_n C dL_law_259 rfl ?_
          obtain ⟨b, e0, h⟩ := ob h
          obtain ⟨q, e, h⟩ := ob h
          refine v_callV (As := []) C dL_law_260 cf_L_35 ⟨⟨Nat.le_of_ble_eq_true rfl, Nat.le_of_ble_eq_true rfl⟩, by show (64 + 13 * U + 3 * S) + 0 ≤ 600000; omega, by show (43918 + 11355 * U + 8202 * S) + 0 ≤ 7302250; omega⟩ ⟨rfl, rfl⟩ e0 rfl (Nat.le_of_ble_eq_true rfl) (c_X12_assemble _ _ N _ _ q.1 q.2 e) ?_
          refine v_eqk (k' := (64 + 13 * U + 3 * S)) (by show (64 + 13 * U + 3 * S) + 0 = (64 + 13 * U + 3 * S); omega) ?_
          refine v_wid (n' := (43918 + 11355 * U + 8202 * S)) (by show (43918 + 11355 * U + 8202 * S) + 0 ≤ (43918 + 11355 * U + 8202 * S); omega) ?_
          refine v_pop C dL_law_263 rfl ?_
          refine v_goto (tgt := 788) C dL_law_264 (by decide) ?_
          refine v_eqk (k' := (64 + 13 * U + 3 * S)) (by omega) ?_
          refine v_wid (n' := (43918 + 11355 * U + 8202 * S)) (by omega) ?_
          exact v_sb (p_L_law_788 C F hU hk58 h) ⟨rfl, rfl, rfl, rfl, trivial⟩
        · replace h := ifF h c
          refine v_case (fun c => ?_) (fun c => ?_)
          · replace h := ifT h c
            refine v_aload_n C dL_law_267 rfl ?_
            refine v_aloadX_n C dL_law_268 rfl ?_
            refine v_iload_n C dL_law_269 rfl ?_
            refine v_iconst (v := 1) C dL_law_270 rfl ?_
            refine v_iadd C dL_law_271 ?_
            obtain ⟨v, e, h⟩ := ob h
            refine v_xi2 C dL_law_272 e ?_
            obtain ⟨b, e0, h⟩ := ob h
            obtain ⟨q, e, h⟩ := ob h
            refine v_callV (As := [_]) C dL_law_273 cf_L_36 ⟨⟨Nat.le_of_ble_eq_true rfl, Nat.le_of_ble_eq_true rfl⟩, by show (64 + 13 * U + 3 * S) + 0 ≤ 600000; omega, by show (43918 + 11355 * U + 8202 * S) + 0 ≤ 7302250; omega⟩ ⟨rfl, rfl⟩ e0 rfl (Nat.le_of_ble_eq_true rfl) (c_X11_fault _ _ N _ _ _ q.1 q.2 e) ?_
            refine v_eqk (k' := (64 + 13 * U + 3 * S)) (by show (64 + 13 * U + 3 * S) + 0 = (64 + 13 * U + 3 * S); omega) ?_
            refine v_wid (n' := (43918 + 11355 * U + 8202 * S)) (by show (43918 + 11355 * U + 8202 * S) + 0 ≤ (43918 + 11355 * U + 8202 * S); omega) ?_
            refine v_pop C dL_law_276 rfl ?_
            refine v_aload_n C dL_law_277 rfl ?_
            refine v_aloadX_n C dL_law_278 rfl ?_
            refine v_iload_n C dL_law_279 rfl ?_
            refine v_iconst (v := 1) C dL_law_280 rfl ?_
            refine v_iadd C dL_law_281 ?_
            obtain ⟨v, e, h⟩ := ob h
            refine v_xi2 C dL_law_282 e ?_
            obtain ⟨b, e0, h⟩ := ob h
            obtain ⟨q, e, h⟩ := ob h
            refine v_callV (As := [_]) C dL_law_283 cf_L_40 ⟨⟨Nat.le_of_ble_eq_true rfl, Nat.le_of_ble_eq_true rfl⟩, by show (64 + 13 * U + 3 * S) + 0 ≤ 600000; omega, by show (43918 + 11355 * U + 8202 * S) + 0 ≤ 7302250; omega⟩ ⟨rfl, rfl⟩ e0 rfl (Nat.le_of_ble_eq_true rfl) (c_X12_fault _ _ N _ _ _ q.1 q.2 e) ?_
            refine v_eqk (k' := (64 + 13 * U + 3 * S)) (by show (64 + 13 * U + 3 * S) + 0 = (64 + 13 * U + 3 * S); omega) ?_
            refine v_wid (n' := (43918 + 11355 * U + 8202 * S)) (by show (43918 + 11355 * U + 8202 * S) + 0 ≤ (43918 + 11355 * U + 8202 * S); omega) ?_
            refine v_pop C dL_law_286 rfl ?_
            refine v_goto (tgt := 788) C dL_law_287 (by decide) ?_
            refine v_eqk (k' := (64 + 13 * U + 3 * S)) (by omega) ?_
            refine v_wid (n' := (43918 + 11355 * U + 8202 * S)) (by omega) ?_
            exact v_sb (p_L_law_788 C F hU hk58 h) ⟨rfl, rfl, rfl, rfl, trivial⟩
          · replace h := ifF h c
            refine v_case (fun c => ?_) (fun c => ?_)
            · replace h := ifT h c
              refine v_aload_n C dL_law_290 rfl ?_
              refine v_aloadX_n C dL_law_291 rfl ?_
              refine v_iload_n C dL_law_292 rfl ?_
              refine v_iconst (v := 1) C dL_law_293 rfl ?_
              refine v_iadd C dL_law_294 ?_
              obtain ⟨v, e, h⟩ := ob h
              refine v_xi2 C dL_law_295 e ?_
              obtain ⟨b, e0, h⟩ := ob h
              obtain ⟨q, e, h⟩ := ob h
              refine v_callV (As := [_]) C dL_law_296 cf_L_41 ⟨⟨Nat.le_of_ble_eq_true rfl, Nat.le_of_ble_eq_true rfl⟩, by show (64 + 13 * U + 3 * S) + 0 ≤ 600000; omega, by show (43918 + 11355 * U + 8202 * S) + 0 ≤ 7302250; omega⟩ ⟨rfl, rfl⟩ e0 rfl (Nat.le_of_ble_eq_true rfl) (c_X11_made _ _ N _ _ _ q.1 q.2 e) ?_
              refine v_eqk (k' := (64 + 13 * U + 3 * S)) (by show (64 + 13 * U + 3 * S) + 0 = (64 + 13 * U + 3 * S); omega) ?_
              refine v_wid (n' := (43918 + 11355 * U + 8202 * S)) (by show (43918 + 11355 * U + 8202 * S) + 0 ≤ (43918 + 11355 * U + 8202 * S); omega) ?_
              refine v_pop C dL_law_299 rfl ?_
              refine v_aload_n C dL_law_300 rfl ?_
              refine v_aloadX_n C dL_law_301 rfl ?_
              refine v_iload_n C dL_law_302 rfl ?_
              refine v_iconst (v := 1) C dL_law_303 rfl ?_
              refine v_iadd C dL_law_304 ?_
              obtain ⟨v, e, h⟩ := ob h
              refine v_xi2 C dL_law_305 e ?_
              obtain ⟨b, e0, h⟩ := ob h
              obtain ⟨q, e, h⟩ := ob h
              refine v_callV (As := [_]) C dL_law_306 cf_L_44 ⟨⟨Nat.le_of_ble_eq_true rfl, Nat.le_of_ble_eq_true rfl⟩, by show (64 + 13 * U + 3 * S) + 0 ≤ 600000; omega, by show (43918 + 11355 * U + 8202 * S) + 0 ≤ 7302250; omega⟩ ⟨rfl, rfl⟩ e0 rfl (Nat.le_of_ble_eq_true rfl) (c_X12_made _ _ N _ _ _ q.1 q.2 e) ?_
              refine v_eqk (k' := (64 + 13 * U + 3 * S)) (by show (64 + 13 * U + 3 * S) + 0 = (64 + 13 * U + 3 * S); omega) ?_
              refine v_wid (n' := (43918 + 11355 * U + 8202 * S)) (by show (43918 + 11355 * U + 8202 * S) + 0 ≤ (43918 + 11355 * U + 8202 * S); omega) ?_
              refine v_pop C dL_law_309 rfl ?_
              refine v_goto (tgt := 788) C dL_law_310 (by decide) ?_
              refine v_eqk (k' := (64 + 13 * U + 3 * S)) (by omega) ?_
              refine v_wid (n' := (43918 + 11355 * U + 8202 * S)) (by omega) ?_
              exact v_sb (p_L_law_788 C F hU hk58 h) ⟨rfl, rfl, rfl, rfl, trivial⟩
            · replace h := ifF h c
              refine v_case (fun c => ?_) (fun c => ?_)
              · replace h := ifT h c
                refine v_aload_n C dL_law_313 rfl ?_
                refine v_aloadX_n C dL_law_314 rfl ?_
                refine v_iload_n C dL_law_315 rfl ?_
                refine v_iconst (v := 1) C dL_law_316 rfl ?_
                refine v_iadd C dL_law_317 ?_
                obtain ⟨v, e, h⟩ := ob h
                refine v_xi2 C dL_law_318 e ?_
                obtain ⟨b, e0, h⟩ := ob h
                obtain ⟨q, e, h⟩ := ob h
                refine v_callV (As := [_]) C dL_law_319 cf_L_45 ⟨⟨Nat.le_of_ble_eq_true rfl, Nat.le_of_ble_eq_true rfl⟩, by show (64 + 13 * U + 3 * S) + 0 ≤ 600000; omega, by show (43918 + 11355 * U + 8202 * S) + 0 ≤ 7302250; omega⟩ ⟨rfl, rfl⟩ e0 rfl (Nat.le_of_ble_eq_true rfl) (c_X11_mount _ _ N _ _ _ q.1 q.2 e) ?_
                refine v_eqk (k' := (64 + 13 * U + 3 * S)) (by show (64 + 13 * U + 3 * S) + 0 = (64 + 13 * U + 3 * S); omega) ?_
                refine v_wid (n' := (43918 + 11355 * U + 8202 * S)) (by show (43918 + 11355 * U + 8202 * S) + 0 ≤ (43918 + 11355 * U + 8202 * S); omega) ?_
                refine v_pop C dL_law_322 rfl ?_
                refine v_aload_n C dL_law_323 rfl ?_
                refine v_aloadX_n C dL_law_324 rfl ?_
                refine v_iload_n C dL_law_325 rfl ?_
                refine v_iconst (v := 1) C dL_law_326 rfl ?_
                refine v_iadd C dL_law_327 ?_
                obtain ⟨v, e, h⟩ := ob h
                refine v_xi2 C dL_law_328 e ?_
                obtain ⟨b, e0, h⟩ := ob h
                obtain ⟨q, e, h⟩ := ob h
                refine v_callV (As := [_]) C dL_law_329 cf_L_48 ⟨⟨Nat.le_of_ble_eq_true rfl, Nat.le_of_ble_eq_true rfl⟩, by show (64 + 13 * U + 3 * S) + 0 ≤ 600000; omega, by show (43918 + 11355 * U + 8202 * S) + 0 ≤ 7302250; omega⟩ ⟨rfl, rfl⟩ e0 rfl (Nat.le_of_ble_eq_true rfl) (c_X12_mount _ _ N _ _ _ q.1 q.2 e) ?_
                refine v_eqk (k' := (64 + 13 * U + 3 * S)) (by show (64 + 13 * U + 3 * S) + 0 = (64 + 13 * U + 3 * S); omega) ?_
                refine v_wid (n' := (43918 + 11355 * U + 8202 * S)) (by show (43918 + 11355 * U + 8202 * S) + 0 ≤ (43918 + 11355 * U + 8202 * S); omega) ?_
                refine v_pop C dL_law_332 rfl ?_
                refine v_goto (tgt := 788) C dL_law_333 (by decide) ?_
                refine v_eqk (k' := (64 + 13 * U + 3 * S)) (by omega) ?_
                refine v_wid (n' := (43918 + 11355 * U + 8202 * S)) (by omega) ?_
                exact v_sb (p_L_law_788 C F hU hk58 h) ⟨rfl, rfl, rfl, rfl, trivial⟩
              · replace h := ifF h c
                refine v_case (fun c => ?_) (fun c => ?_)
                · replace h := ifT h c
                  refine v_aload_n C dL_law_336 rfl ?_
                  refine v_aloadX_n C dL_law_337 rfl ?_
                  refine v_iload_n C dL_law_338 rfl ?_
                  refine v_iconst (v := 1) C dL_law_339 rfl ?_
                  refine v_iadd C dL_law_340 ?_
                  obtain ⟨v, e, h⟩ := ob h
                  refine v_xi2 C dL_law_341 e ?_
                  refine v_aloadX_n C dL_law_342 rfl ?_
                  refine v_iload_n C dL_law_343 rfl ?_
                  refine v_iconst (v := 2) C dL_law_344 rfl ?_
                  refine v_iadd C dL_law_345 ?_
                  obtain ⟨v, e, h⟩ := ob h
                  refine v_xi2 C dL_law_346 e ?_
                  obtain ⟨b, e0, h⟩ := ob h
                  obtain ⟨q, e, h⟩ := ob h
                  refine v_callV (As := [_, _]) C dL_law_347 cf_L_49 ⟨⟨Nat.le_of_ble_eq_true rfl, Nat.le_of_ble_eq_true rfl⟩, by show (64 + 13 * U + 3 * S) + 0 ≤ 600000; omega, by show (43918 + 11355 * U + 8202 * S) + 0 ≤ 7302250; omega⟩ ⟨rfl, rfl⟩ e0 rfl (Nat.le_of_ble_eq_true rfl) (c_X11_begin _ _ N _ _ _ _ q.1 q.2 e) ?_
                  refine v_eqk (k' := (64 + 13 * U + 3 * S)) (by show (64 + 13 * U + 3 * S) + 0 = (64 + 13 * U + 3 * S); omega) ?_
                  refine v_wid (n' := (43918 + 11355 * U + 8202 * S)) (by show (43918 + 11355 * U + 8202 * S) + 0 ≤ (43918 + 11355 * U + 8202 * S); omega) ?_
                  refine v_pop C dL_law_350 rfl ?_
                  refine v_aload_n C dL_law_351 rfl ?_
                  refine v_aloadX_n C dL_law_352 rfl ?_
                  refine v_iload_n C dL_law_353 rfl ?_
                  refine v_iconst (v := 1) C dL_law_354 rfl ?_
                  refine v_iadd C dL_law_355 ?_
                  obtain ⟨v, e, h⟩ := ob h
                  refine v_xi2 C dL_law_356 e ?_
                  refine v_aloadX_n C dL_law_357 rfl ?_
                  refine v_iload_n C dL_law_358 rfl ?_
                  refine v_iconst (v := 2) C dL_law_359 rfl ?_
                  refine v_iadd C dL_law_360 ?_
                  obtain ⟨v, e, h⟩ := ob h
                  refine v_xi2 C dL_law_361 e ?_
                  obtain ⟨b, e0, h⟩ := ob h
                  obtain ⟨q, e, h⟩ := ob h
                  refine v_callV (As := [_, _]) C dL_law_362 cf_L_53 ⟨⟨Nat.le_of_ble_eq_true rfl, Nat.le_of_ble_eq_true rfl⟩, by show (64 + 13 * U + 3 * S) + 0 ≤ 600000; omega, by show (43918 + 11355 * U + 8202 * S) + 0 ≤ 7302250; omega⟩ ⟨rfl, rfl⟩ e0 rfl (Nat.le_of_ble_eq_true rfl) (c_X12_begin _ _ N _ _ _ _ q.1 q.2 e) ?_
                  refine v_eqk (k' := (64 + 13 * U + 3 * S)) (by show (64 + 13 * U + 3 * S) + 0 = (64 + 13 * U + 3 * S); omega) ?_
                  refine v_wid (n' := (43918 + 11355 * U + 8202 * S)) (by show (43918 + 11355 * U + 8202 * S) + 0 ≤ (43918 + 11355 * U + 8202 * S); omega) ?_
                  refine v_pop C dL_law_365 rfl ?_
                  refine v_goto (tgt := 788) C dL_law_366 (by decide) ?_
                  refine v_eqk (k' := (64 + 13 * U + 3 * S)) (by omega) ?_
                  refine v_wid (n' := (43918 + 11355 * U + 8202 * S)) (by omega) ?_
                  exact v_sb (p_L_law_788 C F hU hk58 h) ⟨rfl, rfl, rfl, rfl, trivial⟩
                · replace h := ifF h c
                  refine v_case (fun c => ?_) (fun c => ?_)
                  · replace h := ifT h c
                    refine v_aload_n C dL_law_369 rfl ?_
                    refine v_aloadX_n C dL_law_370 rfl ?_
                    refine v_iload_n C dL_law_371 rfl ?_
                    refine v_iconst (v := 1) C dL_law_372 rfl ?_
                    refine v_iadd C dL_law_373 ?_
                    obtain ⟨v, e, h⟩ := ob h
                    refine v_xi2 C dL_law_374 e ?_
                    obtain ⟨b, e0, h⟩ := ob h
                    obtain ⟨q, e, h⟩ := ob h
                    refine v_callV (As := [_]) C dL_law_375 cf_L_54 ⟨⟨Nat.le_of_ble_eq_true rfl, Nat.le_of_ble_eq_true rfl⟩, by show (64 + 13 * U + 3 * S) + 0 ≤ 600000; omega, by show (43918 + 11355 * U + 8202 * S) + 0 ≤ 7302250; omega⟩ ⟨rfl, rfl⟩ e0 rfl (Nat.le_of_ble_eq_true rfl) (c_X11_halt _ _ N _ _ _ q.1 q.2 e) ?_
                    refine v_eqk (k' := (64 + 13 * U + 3 * S)) (by show (64 + 13 * U + 3 * S) + 0 = (64 + 13 * U + 3 * S); omega) ?_
                    refine v_wid (n' := (43918 + 11355 * U + 8202 * S)) (by show (43918 + 11355 * U + 8202 * S) + 0 ≤ (43918 + 11355 * U + 8202 * S); omega) ?_
                    refine v_pop C dL_law_378 rfl ?_
                    refine v_aload_n C dL_law_379 rfl ?_
                    refine v_aloadX_n C dL_law_380 rfl ?_
                    refine v_iload_n C dL_law_381 rfl ?_
                    refine v_iconst (v := 1) C dL_law_382 rfl ?_
                    refine v_iadd C dL_law_383 ?_
                    obtain ⟨v, e, h⟩ := ob h
                    refine v_xi2 C dL_law_384 e ?_
                    obtain ⟨b, e0, h⟩ := ob h
                    obtain ⟨q, e, h⟩ := ob h
                    refine v_callV (As := [_]) C dL_law_385 cf_L_57 ⟨⟨Nat.le_of_ble_eq_true rfl, Nat.le_of_ble_eq_true rfl⟩, by show (64 + 13 * U + 3 * S) + 0 ≤ 600000; omega, by show (43918 + 11355 * U + 8202 * S) + 0 ≤ 7302250; omega⟩ ⟨rfl, rfl⟩ e0 rfl (Nat.le_of_ble_eq_true rfl) (c_X12_halt _ _ N _ _ _ q.1 q.2 e) ?_
                    refine v_eqk (k' := (64 + 13 * U + 3 * S)) (by show (64 + 13 * U + 3 * S) + 0 = (64 + 13 * U + 3 * S); omega) ?_
                    refine v_wid (n' := (43918 + 11355 * U + 8202 * S)) (by show (43918 + 11355 * U + 8202 * S) + 0 ≤ (43918 + 11355 * U + 8202 * S); omega) ?_
                    refine v_pop C dL_law_388 rfl ?_
                    refine v_goto (tgt := 788) C dL_law_389 (by decide) ?_
                    refine v_eqk (k' := (64 + 13 * U + 3 * S)) (by omega) ?_
                    refine v_wid (n' := (43918 + 11355 * U + 8202 * S)) (by omega) ?_
                    exact v_sb (p_L_law_788 C F hU hk58 h) ⟨rfl, rfl, rfl, rfl, trivial⟩
                  · replace h := ifF h c
                    refine v_case (fun c => ?_) (fun c => ?_)
                    · replace h := ifT h c
                      refine v_aload_n C dL_law_392 rfl ?_
                      refine v_aloadX_n C dL_law_393 rfl ?_
                      refine v_iload_n C dL_law_394 rfl ?_
                      refine v_iconst (v := 1) C dL_law_395 rfl ?_
                      refine v_iadd C dL_law_396 ?_
                      obtain ⟨v, e, h⟩ := ob h
                      refine v_xi2 C dL_law_397 e ?_
                      refine v_aloadX_n C dL_law_398 rfl ?_
                      refine v_iload_n C dL_law_399 rfl ?_
                      refine v_iconst (v := 2) C dL_law_400 rfl ?_
                      refine v_iadd C dL_law_401 ?_
                      obtain ⟨v, e, h⟩ := ob h
                      refine v_xi2 C dL_law_402 e ?_
                      obtain ⟨b, e0, h⟩ := ob h
                      obtain ⟨q, e, h⟩ := ob h
                      refine v_callV (As := [_, _]) C dL_law_403 cf_L_58 ⟨⟨Nat.le_of_ble_eq_true rfl, Nat.le_of_ble_eq_true rfl⟩, by show (64 + 13 * U + 3 * S) + 0 ≤ 600000; omega, by show (43918 + 11355 * U + 8202 * S) + 0 ≤ 7302250; omega⟩ ⟨rfl, rfl⟩ e0 rfl (Nat.le_of_ble_eq_true rfl) (c_X11_key _ _ N _ _ _ _ q.1 q.2 e) ?_
                      refine v_eqk (k' := (64 + 13 * U + 3 * S)) (by show (64 + 13 * U + 3 * S) + 0 = (64 + 13 * U + 3 * S); omega) ?_
                      refine v_wid (n' := (43918 + 11355 * U + 8202 * S)) (by show (43918 + 11355 * U + 8202 * S) + 0 ≤ (43918 + 11355 * U + 8202 * S); omega) ?_
                      refine v_pop C dL_law_406 rfl ?_
                      refine v_aload_n C dL_law_407 rfl ?_
                      refine v_aloadX_n C dL_law_408 rfl ?_
                      refine v_iload_n C dL_law_409 rfl ?_
                      refine v_iconst (v := 1) C dL_law_410 rfl ?_
                      refine v_iadd C dL_law_411 ?_
                      obtain ⟨v, e, h⟩ := ob h
                      refine v_xi2 C dL_law_412 e ?_
                      refine v_aloadX_n C dL_law_413 rfl ?_
                      refine v_iload_n C dL_law_414 rfl ?_
                      refine v_iconst (v := 2) C dL_law_415 rfl ?_
                      refine v_iadd C dL_law_416 ?_
                      obtain ⟨v, e, h⟩ := ob h
                      refine v_xi2 C dL_law_417 e ?_
                      obtain ⟨b, e0, h⟩ := ob h
                      obtain ⟨q, e, h⟩ := ob h
                      refine v_callV (As := [_, _]) C dL_law_418 cf_L_61 ⟨⟨Nat.le_of_ble_eq_true rfl, Nat.le_of_ble_eq_true rfl⟩, by show (64 + 13 * U + 3 * S) + 0 ≤ 600000; omega, by show (43918 + 11355 * U + 8202 * S) + 0 ≤ 7302250; omega⟩ ⟨rfl, rfl⟩ e0 rfl (Nat.le_of_ble_eq_true rfl) (c_X12_key _ _ N _ _ _ _ q.1 q.2 e) ?_
                      refine v_eqk (k' := (64 + 13 * U + 3 * S)) (by show (64 + 13 * U + 3 * S) + 0 = (64 + 13 * U + 3 * S); omega) ?_
                      refine v_wid (n' := (43918 + 11355 * U + 8202 * S)) (by show (43918 + 11355 * U + 8202 * S) + 0 ≤ (43918 + 11355 * U + 8202 * S); omega) ?_
                      refine v_pop C dL_law_421 rfl ?_
                      refine v_goto (tgt := 788) C dL_law_422 (by decide) ?_
                      refine v_eqk (k' := (64 + 13 * U + 3 * S)) (by omega) ?_
                      refine v_wid (n' := (43918 + 11355 * U + 8202 * S)) (by omega) ?_
                      exact v_sb (p_L_law_788 C F hU hk58 h) ⟨rfl, rfl, rfl, rfl, trivial⟩
                    · replace h := ifF h c
                      refine v_case (fun c => ?_) (fun c => ?_)
                      · replace h := ifT h c
                        refine v_aload_n C dL_law_425 rfl ?_
                        refine v_aloadX_n C dL_law_426 rfl ?_
                        refine v_iload_n C dL_law_427 rfl ?_
                        refine v_iconst (v := 1) C dL_law_428 rfl ?_
                        refine v_iadd C dL_law_429 ?_
                        obtain ⟨v, e, h⟩ := ob h
                        refine v_xi2 C dL_law_430 e ?_
                        refine v_aloadX_n C dL_law_431 rfl ?_
                        refine v_iload_n C dL_law_432 rfl ?_
                        refine v_iconst (v := 2) C dL_law_433 rfl ?_
                        refine v_iadd C dL_law_434 ?_
                        obtain ⟨v, e, h⟩ := ob h
                        refine v_xi2 C dL_law_435 e ?_
                        obtain ⟨b, e0, h⟩ := ob h
                        obtain ⟨q, e, h⟩ := ob h
                        refine v_callV (As := [_, _]) C dL_law_436 cf_L_62 ⟨⟨Nat.le_of_ble_eq_true rfl, Nat.le_of_ble_eq_true rfl⟩, by show (64 + 13 * U + 3 * S) + 0 ≤ 600000; omega, by show (43918 + 11355 * U + 8202 * S) + 0 ≤ 7302250; omega⟩ ⟨rfl, rfl⟩ e0 rfl (Nat.le_of_ble_eq_true rfl) (c_X11_set _ _ N _ _ _ _ q.1 q.2 e) ?_
                        refine v_eqk (k' := (64 + 13 * U + 3 * S)) (by show (64 + 13 * U + 3 * S) + 0 = (64 + 13 * U + 3 * S); omega) ?_
                        refine v_wid (n' := (43918 + 11355 * U + 8202 * S)) (by show (43918 + 11355 * U + 8202 * S) + 0 ≤ (43918 + 11355 * U + 8202 * S); omega) ?_
                        refine v_pop C dL_law_439 rfl ?_
                        refine v_aload_n C dL_law_440 rfl ?_
                        refine v_aloadX_n C dL_law_441 rfl ?_
                        refine v_iload_n C dL_law_442 rfl ?_
                        refine v_iconst (v := 1) C dL_law_443 rfl ?_
                        refine v_iadd C dL_law_444 ?_
                        obtain ⟨v, e, h⟩ := ob h
                        refine v_xi2 C dL_law_445 e ?_
                        refine v_aloadX_n C dL_law_446 rfl ?_
                        refine v_iload_n C dL_law_447 rfl ?_
                        refine v_iconst (v := 2) C dL_law_448 rfl ?_
                        refine v_iadd C dL_law_449 ?_
                        obtain ⟨v, e, h⟩ := ob h
                        refine v_xi2 C dL_law_450 e ?_
                        obtain ⟨b, e0, h⟩ := ob h
                        obtain ⟨q, e, h⟩ := ob h
                        refine v_callV (As := [_, _]) C dL_law_451 cf_L_65 ⟨⟨Nat.le_of_ble_eq_true rfl, Nat.le_of_ble_eq_true rfl⟩, by show (64 + 13 * U + 3 * S) + 0 ≤ 600000; omega, by show (43918 + 11355 * U + 8202 * S) + 0 ≤ 7302250; omega⟩ ⟨rfl, rfl⟩ e0 rfl (Nat.le_of_ble_eq_true rfl) (c_X12_set _ _ N _ _ _ _ q.1 q.2 e) ?_
                        refine v_eqk (k' := (64 + 13 * U + 3 * S)) (by show (64 + 13 * U + 3 * S) + 0 = (64 + 13 * U + 3 * S); omega) ?_
                        refine v_wid (n' := (43918 + 11355 * U + 8202 * S)) (by show (43918 + 11355 * U + 8202 * S) + 0 ≤ (43918 + 11355 * U + 8202 * S); omega) ?_
                        refine v_pop C dL_law_454 rfl ?_
                        refine v_goto (tgt := 788) C dL_law_455 (by decide) ?_
                        refine v_eqk (k' := (64 + 13 * U + 3 * S)) (by omega) ?_
                        refine v_wid (n' := (43918 + 11355 * U + 8202 * S)) (by omega) ?_
                        exact v_sb (p_L_law_788 C F hU hk58 h) ⟨rfl, rfl, rfl, rfl, trivial⟩
                      · replace h := ifF h c
                        refine v_case (fun c => ?_) (fun c => ?_)
                        · replace h := ifT h c
                          refine v_aload_n C dL_law_458 rfl ?_
                          refine v_aloadX_n C dL_law_459 rfl ?_
                          refine v_iload_n C dL_law_460 rfl ?_
                          refine v_iconst (v := 1) C dL_law_461 rfl ?_
                          refine v_iadd C dL_law_462 ?_
                          obtain ⟨v, e, h⟩ := ob h
                          refine v_xi2 C dL_law_463 e ?_
                          refine v_aloadX_n C dL_law_464 rfl ?_
                          refine v_iload_n C dL_law_465 rfl ?_
                          refine v_iconst (v := 2) C dL_law_466 rfl ?_
                          refine v_iadd C dL_law_467 ?_
                          obtain ⟨v, e, h⟩ := ob h
                          refine v_xi2 C dL_law_468 e ?_
                          refine v_aloadX_n C dL_law_469 rfl ?_
                          refine v_iload_n C dL_law_470 rfl ?_
                          refine v_iconst (v := 3) C dL_law_471 rfl ?_
                          refine v_iadd C dL_law_472 ?_
                          obtain ⟨v, e, h⟩ := ob h
                          refine v_xi2 C dL_law_473 e ?_
                          obtain ⟨b, e0, h⟩ := ob h
                          obtain ⟨q, e, h⟩ := ob h
                          refine v_callV (As := [_, _, _]) C dL_law_474 cf_L_66 ⟨⟨Nat.le_of_ble_eq_true rfl, Nat.le_of_ble_eq_true rfl⟩, by show (64 + 13 * U + 3 * S) + 0 ≤ 600000; omega, by show (43918 + 11355 * U + 8202 * S) + 0 ≤ 7302250; omega⟩ ⟨rfl, rfl⟩ e0 rfl (Nat.le_of_ble_eq_true rfl) (c_X11_deposit _ _ N _ _ _ _ _ q.1 q.2 e) ?_
                          refine v_eqk (k' := (64 + 13 * U + 3 * S)) (by show (64 + 13 * U + 3 * S) + 0 = (64 + 13 * U + 3 * S); omega) ?_
                          refine v_wid (n' := (43918 + 11355 * U + 8202 * S)) (by show (43918 + 11355 * U + 8202 * S) + 0 ≤ (43918 + 11355 * U + 8202 * S); omega) ?_
                          refine v_pop C dL_law_477 rfl ?_
                          refine v_aload_n C dL_law_478 rfl ?_
                          refine v_aloadX_n C dL_law_479 rfl ?_
                          refine v_iload_n C dL_law_480 rfl ?_
                          refine v_iconst (v := 1) C dL_law_481 rfl ?_
                          refine v_iadd C dL_law_482 ?_
                          obtain ⟨v, e, h⟩ := ob h
                          refine v_xi2 C dL_law_483 e ?_
                          refine v_aloadX_n C dL_law_484 rfl ?_
                          refine v_iload_n C dL_law_485 rfl ?_
                          refine v_iconst (v := 2) C dL_law_486 rfl ?_
                          refine v_iadd C dL_law_487 ?_
                          obtain ⟨v, e, h⟩ := ob h
                          refine v_xi2 C dL_law_488 e ?_
                          refine v_aloadX_n C dL_law_489 rfl ?_
                          refine v_iload_n C dL_law_490 rfl ?_
                          refine v_iconst (v := 3) C dL_law_491 rfl ?_
                          refine v_iadd C dL_law_492 ?_
                          obtain ⟨v, e, h⟩ := ob h
                          refine v_xi2 C dL_law_493 e ?_
                          obtain ⟨b, e0, h⟩ := ob h
                          obtain ⟨q, e, h⟩ := ob h
                          refine v_callV (As := [_, _, _]) C dL_law_494 cf_L_70 ⟨⟨Nat.le_of_ble_eq_true rfl, Nat.le_of_ble_eq_true rfl⟩, by show (64 + 13 * U + 3 * S) + 0 ≤ 600000; omega, by show (43918 + 11355 * U + 8202 * S) + 0 ≤ 7302250; omega⟩ ⟨rfl, rfl⟩ e0 rfl (Nat.le_of_ble_eq_true rfl) (c_X12_deposit _ _ N _ _ _ _ _ q.1 q.2 e) ?_
                          refine v_eqk (k' := (64 + 13 * U + 3 * S)) (by show (64 + 13 * U + 3 * S) + 0 = (64 + 13 * U + 3 * S); omega) ?_
                          refine v_wid (n' := (43918 + 11355 * U + 8202 * S)) (by show (43918 + 11355 * U + 8202 * S) + 0 ≤ (43918 + 11355 * U + 8202 * S); omega) ?_
                          refine v_pop C dL_law_497 rfl ?_
                          refine v_goto (tgt := 788) C dL_law_498 (by decide) ?_
                          refine v_eqk (k' := (64 + 13 * U + 3 * S)) (by omega) ?_
                          refine v_wid (n' := (43918 + 11355 * U + 8202 * S)) (by omega) ?_
                          exact v_sb (p_L_law_788 C F hU hk58 h) ⟨rfl, rfl, rfl, rfl, trivial⟩
                        · replace h := ifF h c
                          refine v_case (fun c => ?_) (fun c => ?_)
                          · replace h := ifT h c
                            refine v_aload_n C dL_law_501 rfl ?_
                            refine v_aloadX_n C dL_law_502 rfl ?_
                            refine v_iload_n C dL_law_503 rfl ?_
                            refine v_iconst (v := 1) C dL_law_504 rfl ?_
                            refine v_iadd C dL_law_505 ?_
                            obtain ⟨v, e, h⟩ := ob h
                            refine v_xi2 C dL_law_506 e ?_
                            obtain ⟨b, e0, h⟩ := ob h
                            obtain ⟨q, e, h⟩ := ob h
                            refine v_callV (As := [_]) C dL_law_507 cf_L_71 ⟨⟨Nat.le_of_ble_eq_true rfl, Nat.le_of_ble_eq_true rfl⟩, by show (64 + 13 * U + 3 * S) + 0 ≤ 600000; omega, by show (43918 + 11355 * U + 8202 * S) + 0 ≤ 7302250; omega⟩ ⟨rfl, rfl⟩ e0 rfl (Nat.le_of_ble_eq_true rfl) (c_X11_run _ _ N _ _ _ q.1 q.2 e) ?_
                            refine v_eqk (k' := (64 + 13 * U + 3 * S)) (by show (64 + 13 * U + 3 * S) + 0 = (64 + 13 * U + 3 * S); omega) ?_
                            refine v_wid (n' := (43918 + 11355 * U + 8202 * S)) (by show (43918 + 11355 * U + 8202 * S) + 0 ≤ (43918 + 11355 * U + 8202 * S); omega) ?_
                            refine v_pop C dL_law_510 rfl ?_
                            refine v_aload_n C dL_law_511 rfl ?_
                            refine v_aloadX_n C dL_law_512 rfl ?_
                            refine v_iload_n C dL_law_513 rfl ?_
                            refine v_iconst (v := 1) C dL_law_514 rfl ?_
                            refine v_iadd C dL_law_515 ?_
                            obtain ⟨v, e, h⟩ := ob h
                            refine v_xi2 C dL_law_516 e ?_
                            obtain ⟨b, e0, h⟩ := ob h
                            obtain ⟨q, e, h⟩ := ob h
                            refine v_callV (As := [_]) C dL_law_517 cf_L_74 ⟨⟨Nat.le_of_ble_eq_true rfl, Nat.le_of_ble_eq_true rfl⟩, by show (64 + 13 * U + 3 * S) + 0 ≤ 600000; omega, by show (43918 + 11355 * U + 8202 * S) + 0 ≤ 7302250; omega⟩ ⟨rfl, rfl⟩ e0 rfl (Nat.le_of_ble_eq_true rfl) (c_X12_run _ _ N _ _ _ q.1 q.2 e) ?_
                            refine v_eqk (k' := (64 + 13 * U + 3 * S)) (by show (64 + 13 * U + 3 * S) + 0 = (64 + 13 * U + 3 * S); omega) ?_
                            refine v_wid (n' := (43918 + 11355 * U + 8202 * S)) (by show (43918 + 11355 * U + 8202 * S) + 0 ≤ (43918 + 11355 * U + 8202 * S); omega) ?_
                            refine v_pop C dL_law_520 rfl ?_
                            refine v_goto (tgt := 788) C dL_law_521 (by decide) ?_
                            refine v_eqk (k' := (64 + 13 * U + 3 * S)) (by omega) ?_
                            refine v_wid (n' := (43918 + 11355 * U + 8202 * S)) (by omega) ?_
                            exact v_sb (p_L_law_788 C F hU hk58 h) ⟨rfl, rfl, rfl, rfl, trivial⟩
                          · replace h := ifF h c
                            refine v_case (fun c => ?_) (fun c => ?_)
                            · replace h := ifT h c
                              refine v_aload_n C dL_law_524 rfl ?_
                              refine v_aloadX_n C dL_law_525 rfl ?_
                              refine v_iload_n C dL_law_526 rfl ?_
                              refine v_iconst (v := 1) C dL_law_527 rfl ?_
                              refine v_iadd C dL_law_528 ?_
                              obtain ⟨v, e, h⟩ := ob h
                              refine v_xi2 C dL_law_529 e ?_
                              refine v_aloadX_n C dL_law_530 rfl ?_
                              refine v_iload_n C dL_law_531 rfl ?_
                              refine v_iconst (v := 2) C dL_law_532 rfl ?_
                              refine v_iadd C dL_law_533 ?_
                              obtain ⟨v, e, h⟩ := ob h
                              refine v_xi2 C dL_law_534 e ?_
                              obtain ⟨b, e0, h⟩ := ob h
                              obtain ⟨q, e, h⟩ := ob h
                              refine v_callV (As := [_, _]) C dL_law_535 cf_L_75 ⟨⟨Nat.le_of_ble_eq_true rfl, Nat.le_of_ble_eq_true rfl⟩, by show (64 + 13 * U + 3 * S) + 0 ≤ 600000; omega, by show (43918 + 11355 * U + 8202 * S) + 0 ≤ 7302250; omega⟩ ⟨rfl, rfl⟩ e0 rfl (Nat.le_of_ble_eq_true rfl) (c_X11_user _ _ N _ _ _ _ q.1 q.2 e) ?_
                              refine v_eqk (k' := (64 + 13 * U + 3 * S)) (by show (64 + 13 * U + 3 * S) + 0 = (64 + 13 * U + 3 * S); omega) ?_
                              refine v_wid (n' := (43918 + 11355 * U + 8202 * S)) (by show (43918 + 11355 * U + 8202 * S) + 0 ≤ (43918 + 11355 * U + 8202 * S); omega) ?_
                              refine v_pop C dL_law_538 rfl ?_
                              refine v_aload_n C dL_law_539 rfl ?_
                              refine v_aloadX_n C dL_law_540 rfl ?_
                              refine v_iload_n C dL_law_541 rfl ?_
                              refine v_iconst (v := 1) C dL_law_542 rfl ?_
                              refine v_iadd C dL_law_543 ?_
                              obtain ⟨v, e, h⟩ := ob h
                              refine v_xi2 C dL_law_544 e ?_
                              refine v_aloadX_n C dL_law_545 rfl ?_
                              refine v_iload_n C dL_law_546 rfl ?_
                              refine v_iconst (v := 2) C dL_law_547 rfl ?_
                              refine v_iadd C dL_law_548 ?_
                              obtain ⟨v, e, h⟩ := ob h
                              refine v_xi2 C dL_law_549 e ?_
                              obtain ⟨b, e0, h⟩ := ob h
                              obtain ⟨q, e, h⟩ := ob h
                              refine v_callV (As := [_, _]) C dL_law_550 cf_L_79 ⟨⟨Nat.le_of_ble_eq_true rfl, Nat.le_of_ble_eq_true rfl⟩, by show (64 + 13 * U + 3 * S) + 0 ≤ 600000; omega, by show (43918 + 11355 * U + 8202 * S) + 0 ≤ 7302250; omega⟩ ⟨rfl, rfl⟩ e0 rfl (Nat.le_of_ble_eq_true rfl) (c_X12_user _ _ N _ _ _ _ q.1 q.2 e) ?_
                              refine v_eqk (k' := (64 + 13 * U + 3 * S)) (by show (64 + 13 * U + 3 * S) + 0 = (64 + 13 * U + 3 * S); omega) ?_
                              refine v_wid (n' := (43918 + 11355 * U + 8202 * S)) (by show (43918 + 11355 * U + 8202 * S) + 0 ≤ (43918 + 11355 * U + 8202 * S); omega) ?_
                              refine v_pop C dL_law_553 rfl ?_
                              refine v_goto (tgt := 788) C dL_law_554 (by decide) ?_
                              refine v_eqk (k' := (64 + 13 * U + 3 * S)) (by omega) ?_
                              refine v_wid (n' := (43918 + 11355 * U + 8202 * S)) (by omega) ?_
                              exact v_sb (p_L_law_788 C F hU hk58 h) ⟨rfl, rfl, rfl, rfl, trivial⟩
                            · replace h := ifF h c
                              refine v_case (fun c => ?_) (fun c => ?_)
                              · replace h := ifT h c
                                refine v_aload_n C dL_law_557 rfl ?_
                                refine v_aloadX_n C dL_law_558 rfl ?_
                                refine v_iload_n C dL_law_559 rfl ?_
                                refine v_iconst (v := 1) C dL_law_560 rfl ?_
                                refine v_iadd C dL_law_561 ?_
                                obtain ⟨v, e, h⟩ := ob h
                                refine v_xi2 C dL_law_562 e ?_
                                obtain ⟨b, e0, h⟩ := ob h
                                obtain ⟨q, e, h⟩ := ob h
                                refine v_callV (As := [_]) C dL_law_563 cf_L_80 ⟨⟨Nat.le_of_ble_eq_true rfl, Nat.le_of_ble_eq_true rfl⟩, by show (64 + 13 * U + 3 * S) + 0 ≤ 600000; omega, by show (43918 + 11355 * U + 8202 * S) + 0 ≤ 7302250; omega⟩ ⟨rfl, rfl⟩ e0 rfl (Nat.le_of_ble_eq_true rfl) (c_X11_look _ _ N _ _ _ q.1 q.2 e) ?_
                                refine v_eqk (k' := (64 + 13 * U + 3 * S)) (by show (64 + 13 * U + 3 * S) + 0 = (64 + 13 * U + 3 * S); omega) ?_
                                refine v_wid (n' := (43918 + 11355 * U + 8202 * S)) (by show (43918 + 11355 * U + 8202 * S) + 0 ≤ (43918 + 11355 * U + 8202 * S); omega) ?_
                                refine v_pop C dL_law_566 rfl ?_
                                refine v_aload_n C dL_law_567 rfl ?_
                                refine v_aloadX_n C dL_law_568 rfl ?_
                                refine v_iload_n C dL_law_569 rfl ?_
                                refine v_iconst (v := 1) C dL_law_570 rfl ?_
                                refine v_iadd C dL_law_571 ?_
                                obtain ⟨v, e, h⟩ := ob h
                                refine v_xi2 C dL_law_572 e ?_
                                obtain ⟨b, e0, h⟩ := ob h
                                obtain ⟨q, e, h⟩ := ob h
                                refine v_callV (As := [_]) C dL_law_573 cf_L_83 ⟨⟨Nat.le_of_ble_eq_true rfl, Nat.le_of_ble_eq_true rfl⟩, by show (64 + 13 * U + 3 * S) + 0 ≤ 600000; omega, by show (43918 + 11355 * U + 8202 * S) + 0 ≤ 7302250; omega⟩ ⟨rfl, rfl⟩ e0 rfl (Nat.le_of_ble_eq_true rfl) (c_X12_look_ _ _ N _ _ _ q.1 q.2 e) ?_
                                refine v_eqk (k' := (64 + 13 * U + 3 * S)) (by show (64 + 13 * U + 3 * S) + 0 = (64 + 13 * U + 3 * S); omega) ?_
                                refine v_wid (n' := (43918 + 11355 * U + 8202 * S)) (by show (43918 + 11355 * U + 8202 * S) + 0 ≤ (43918 + 11355 * U + 8202 * S); omega) ?_
                                refine v_pop C dL_law_576 rfl ?_
                                refine v_goto (tgt := 788) C dL_law_577 (by decide) ?_
                                refine v_eqk (k' := (64 + 13 * U + 3 * S)) (by omega) ?_
                                refine v_wid (n' := (43918 + 11355 * U + 8202 * S)) (by omega) ?_
                                exact v_sb (p_L_law_788 C F hU hk58 h) ⟨rfl, rfl, rfl, rfl, trivial⟩
                              · replace h := ifF h c
                                refine v_case (fun c => ?_) (fun c => ?_)
                                · replace h := ifT h c
                                  refine v_aload_n C dL_law_580 rfl ?_
                                  refine v_aloadX_n C dL_law_581 rfl ?_
                                  refine v_iload_n C dL_law_582 rfl ?_
                                  refine v_iconst (v := 1) C dL_law_583 rfl ?_
                                  refine v_iadd C dL_law_584 ?_
                                  obtain ⟨v, e, h⟩ := ob h
                                  refine v_xi2 C dL_law_585 e ?_
                                  refine v_aloadX_n C dL_law_586 rfl ?_
                                  refine v_iload_n C dL_law_587 rfl ?_
                                  refine v_iconst (v := 2) C dL_law_588 rfl ?_
                                  refine v_iadd C dL_law_589 ?_
                                  obtain ⟨v, e, h⟩ := ob h
                                  refine v_xi2 C dL_law_590 e ?_
                                  obtain ⟨b, e0, h⟩ := ob h
                                  obtain ⟨q, e, h⟩ := ob h
                                  refine v_callV (As := [_, _]) C dL_law_591 cf_L_84 ⟨⟨Nat.le_of_ble_eq_true rfl, Nat.le_of_ble_eq_true rfl⟩, by show (64 + 13 * U + 3 * S) + 0 ≤ 600000; omega, by show (43918 + 11355 * U + 8202 * S) + 0 ≤ 7302250; omega⟩ ⟨rfl, rfl⟩ e0 rfl (Nat.le_of_ble_eq_true rfl) (c_X11_word _ _ N _ _ _ _ q.1 q.2 e) ?_
                                  refine v_eqk (k' := (64 + 13 * U + 3 * S)) (by show (64 + 13 * U + 3 * S) + 0 = (64 + 13 * U + 3 * S); omega) ?_
                                  refine v_wid (n' := (43918 + 11355 * U + 8202 * S)) (by show (43918 + 11355 * U + 8202 * S) + 0 ≤ (43918 + 11355 * U + 8202 * S); omega) ?_
                                  refine v_pop C dL_law_594 rfl ?_
                                  refine v_aload_n C dL_law_595 rfl ?_
                                  refine v_aloadX_n C dL_law_596 rfl ?_
                                  refine v_iload_n C dL_law_597 rfl ?_
                                  refine v_iconst (v := 1) C dL_law_598 rfl ?_
                                  refine v_iadd C dL_law_599 ?_
                                  obtain ⟨v, e, h⟩ := ob h
                                  refine v_xi2 C dL_law_600 e ?_
                                  refine v_aloadX_n C dL_law_601 rfl ?_
                                  refine v_iload_n C dL_law_602 rfl ?_
                                  refine v_iconst (v := 2) C dL_law_603 rfl ?_
                                  refine v_iadd C dL_law_604 ?_
                                  obtain ⟨v, e, h⟩ := ob h
                                  refine v_xi2 C dL_law_605 e ?_
                                  obtain ⟨b, e0, h⟩ := ob h
                                  obtain ⟨q, e, h⟩ := ob h
                                  refine v_callV (As := [_, _]) C dL_law_606 cf_L_87 ⟨⟨Nat.le_of_ble_eq_true rfl, Nat.le_of_ble_eq_true rfl⟩, by show (64 + 13 * U + 3 * S) + 0 ≤ 600000; omega, by show (43918 + 11355 * U + 8202 * S) + 0 ≤ 7302250; omega⟩ ⟨rfl, rfl⟩ e0 rfl (Nat.le_of_ble_eq_true rfl) (c_X12_word__ _ _ N _ _ _ _ q.1 q.2 e) ?_
                                  refine v_eqk (k' := (64 + 13 * U + 3 * S)) (by show (64 + 13 * U + 3 * S) + 0 = (64 + 13 * U + 3 * S); omega) ?_
                                  refine v_wid (n' := (43918 + 11355 * U + 8202 * S)) (by show (43918 + 11355 * U + 8202 * S) + 0 ≤ (43918 + 11355 * U + 8202 * S); omega) ?_
                                  refine v_pop C dL_law_609 rfl ?_
                                  refine v_goto (tgt := 788) C dL_law_610 (by decide) ?_
                                  refine v_eqk (k' := (64 + 13 * U + 3 * S)) (by omega) ?_
                                  refine v_wid (n' := (43918 + 11355 * U + 8202 * S)) (by omega) ?_
                                  exact v_sb (p_L_law_788 C F hU hk58 h) ⟨rfl, rfl, rfl, rfl, trivial⟩
                                · replace h := ifF h c
                                  refine v_case (fun c => ?_) (fun c => ?_)
                                  · replace h := ifT h c
                                    refine v_aload_n C dL_law_613 rfl ?_
                                    refine v_aloadX_n C dL_law_614 rfl ?_
                                    refine v_iload_n C dL_law_615 rfl ?_
                                    refine v_iconst (v := 1) C dL_law_616 rfl ?_
                                    refine v_iadd C dL_law_617 ?_
                                    obtain ⟨v, e, h⟩ := ob h
                                    refine v_xi2 C dL_law_618 e ?_
                                    refine v_aloadX_n C dL_law_619 rfl ?_
                                    refine v_iload_n C dL_law_620 rfl ?_
                                    refine v_iconst (v := 2) C dL_law_621 rfl ?_
                                    refine v_iadd C dL_law_622 ?_
                                    obtain ⟨v, e, h⟩ := ob h
                                    refine v_xi2 C dL_law_623 e ?_
                                    obtain ⟨b, e0, h⟩ := ob h
                                    obtain ⟨q, e, h⟩ := ob h
                                    refine v_callV (As := [_, _]) C dL_law_624 cf_L_88 ⟨⟨Nat.le_of_ble_eq_true rfl, Nat.le_of_ble_eq_true rfl⟩, by show (64 + 13 * U + 3 * S) + 0 ≤ 600000; omega, by show (43918 + 11355 * U + 8202 * S) + 0 ≤ 7302250; omega⟩ ⟨rfl, rfl⟩ e0 rfl (Nat.le_of_ble_eq_true rfl) (c_X11_core _ _ N _ _ _ _ q.1 q.2 e) ?_
                                    refine v_eqk (k' := (64 + 13 * U + 3 * S)) (by show (64 + 13 * U + 3 * S) + 0 = (64 + 13 * U + 3 * S); omega) ?_
                                    refine v_wid (n' := (43918 + 11355 * U + 8202 * S)) (by show (43918 + 11355 * U + 8202 * S) + 0 ≤ (43918 + 11355 * U + 8202 * S); omega) ?_
                                    refine v_pop C dL_law_627 rfl ?_
                                    refine v_aload_n C dL_law_628 rfl ?_
                                    refine v_aloadX_n C dL_law_629 rfl ?_
                                    refine v_iload_n C dL_law_630 rfl ?_
                                    refine v_iconst (v := 1) C dL_law_631 rfl ?_
                                    refine v_iadd C dL_law_632 ?_
                                    obtain ⟨v, e, h⟩ := ob h
                                    refine v_xi2 C dL_law_633 e ?_
                                    refine v_aloadX_n C dL_law_634 rfl ?_
                                    refine v_iload_n C dL_law_635 rfl ?_
                                    refine v_iconst (v := 2) C dL_law_636 rfl ?_
                                    refine v_iadd C dL_law_637 ?_
                                    obtain ⟨v, e, h⟩ := ob h
                                    refine v_xi2 C dL_law_638 e ?_
                                    obtain ⟨b, e0, h⟩ := ob h
                                    obtain ⟨q, e, h⟩ := ob h
                                    refine v_callV (As := [_, _]) C dL_law_639 cf_L_91 ⟨⟨Nat.le_of_ble_eq_true rfl, Nat.le_of_ble_eq_true rfl⟩, by show (64 + 13 * U + 3 * S) + 0 ≤ 600000; omega, by show (43918 + 11355 * U + 8202 * S) + 0 ≤ 7302250; omega⟩ ⟨rfl, rfl⟩ e0 rfl (Nat.le_of_ble_eq_true rfl) (c_X12_core _ _ N _ _ _ _ q.1 q.2 e) ?_
                                    refine v_eqk (k' := (64 + 13 * U + 3 * S)) (by show (64 + 13 * U + 3 * S) + 0 = (64 + 13 * U + 3 * S); omega) ?_
                                    refine v_wid (n' := (43918 + 11355 * U + 8202 * S)) (by show (43918 + 11355 * U + 8202 * S) + 0 ≤ (43918 + 11355 * U + 8202 * S); omega) ?_
                                    refine v_pop C dL_law_642 rfl ?_
                                    refine v_goto (tgt := 788) C dL_law_643 (by decide) ?_
                                    refine v_eqk (k' := (64 + 13 * U + 3 * S)) (by omega) ?_
                                    refine v_wid (n' := (43918 + 11355 * U + 8202 * S)) (by omega) ?_
                                    exact v_sb (p_L_law_788 C F hU hk58 h) ⟨rfl, rfl, rfl, rfl, trivial⟩
                                  · replace h := ifF h c
                                    refine v_case (fun c => ?_) (fun c => ?_)
                                    · replace h := ifT h c
                                      refine v_aload_n C dL_law_646 rfl ?_
                                      refine v_aloadX_n C dL_law_647 rfl ?_
                                      refine v_iload_n C dL_law_648 rfl ?_
                                      refine v_iconst (v := 1) C dL_law_649 rfl ?_
                                      refine v_iadd C dL_law_650 ?_
                                      obtain ⟨v, e, h⟩ := ob h
                                      refine v_xi2 C dL_law_651 e ?_
                                      refine v_aloadX_n C dL_law_652 rfl ?_
                                      refine v_iload_n C dL_law_653 rfl ?_
                                      refine v_iconst (v := 2) C dL_law_654 rfl ?_
                                      refine v_iadd C dL_law_655 ?_
                                      obtain ⟨v, e, h⟩ := ob h
                                      refine v_xi2 C dL_law_656 e ?_
                                      obtain ⟨b, e0, h⟩ := ob h
                                      obtain ⟨q, e, h⟩ := ob h
                                      refine v_callV (As := [_, _]) C dL_law_657 cf_L_92 ⟨⟨Nat.le_of_ble_eq_true rfl, Nat.le_of_ble_eq_true rfl⟩, by show (64 + 13 * U + 3 * S) + 0 ≤ 600000; omega, by show (43918 + 11355 * U + 8202 * S) + 0 ≤ 7302250; omega⟩ ⟨rfl, rfl⟩ e0 rfl (Nat.le_of_ble_eq_true rfl) (c_X11_drum _ _ N _ _ _ _ q.1 q.2 e) ?_
                                      refine v_eqk (k' := (64 + 13 * U + 3 * S)) (by show (64 + 13 * U + 3 * S) + 0 = (64 + 13 * U + 3 * S); omega) ?_
                                      refine v_wid (n' := (43918 + 11355 * U + 8202 * S)) (by show (43918 + 11355 * U + 8202 * S) + 0 ≤ (43918 + 11355 * U + 8202 * S); omega) ?_
                                      refine v_pop C dL_law_660 rfl ?_
                                      refine v_aload_n C dL_law_661 rfl ?_
                                      refine v_aloadX_n C dL_law_662 rfl ?_
                                      refine v_iload_n C dL_law_663 rfl ?_
                                      refine v_iconst (v := 1) C dL_law_664 rfl ?_
                                      refine v_iadd C dL_law_665 ?_
                                      obtain ⟨v, e, h⟩ := ob h
                                      refine v_xi2 C dL_law_666 e ?_
                                      refine v_aloadX_n C dL_law_667 rfl ?_
                                      refine v_iload_n C dL_law_668 rfl ?_
                                      refine v_iconst (v := 2) C dL_law_669 rfl ?_
                                      refine v_iadd C dL_law_670 ?_
                                      obtain ⟨v, e, h⟩ := ob h
                                      refine v_xi2 C dL_law_671 e ?_
                                      obtain ⟨b, e0, h⟩ := ob h
                                      obtain ⟨q, e, h⟩ := ob h
                                      refine v_callV (As := [_, _]) C dL_law_672 cf_L_95 ⟨⟨Nat.le_of_ble_eq_true rfl, Nat.le_of_ble_eq_true rfl⟩, by show (64 + 13 * U + 3 * S) + 0 ≤ 600000; omega, by show (43918 + 11355 * U + 8202 * S) + 0 ≤ 7302250; omega⟩ ⟨rfl, rfl⟩ e0 rfl (Nat.le_of_ble_eq_true rfl) (c_X12_drum _ _ N _ _ _ _ q.1 q.2 e) ?_
                                      refine v_eqk (k' := (64 + 13 * U + 3 * S)) (by show (64 + 13 * U + 3 * S) + 0 = (64 + 13 * U + 3 * S); omega) ?_
                                      refine v_wid (n' := (43918 + 11355 * U + 8202 * S)) (by show (43918 + 11355 * U + 8202 * S) + 0 ≤ (43918 + 11355 * U + 8202 * S); omega) ?_
                                      refine v_pop C dL_law_675 rfl ?_
                                      refine v_goto (tgt := 788) C dL_law_676 (by decide) ?_
                                      refine v_eqk (k' := (64 + 13 * U + 3 * S)) (by omega) ?_
                                      refine v_wid (n' := (43918 + 11355 * U + 8202 * S)) (by omega) ?_
                                      exact v_sb (p_L_law_788 C F hU hk58 h) ⟨rfl, rfl, rfl, rfl, trivial⟩
                                    · replace h := ifF h c
                                      refine v_case (fun c => ?_) (fun c => ?_)
                                      · replace h := ifT h c
                                        refine v_aload_n C dL_law_679 rfl ?_
                                        refine v_aloadX_n C dL_law_680 rfl ?_
                                        refine v_iload_n C dL_law_681 rfl ?_
                                        refine v_iconst (v := 1) C dL_law_682 rfl ?_
                                        refine v_iadd C dL_law_683 ?_
                                        obtain ⟨v, e, h⟩ := ob h
                                        refine v_xi2 C dL_law_684 e ?_
                                        refine v_aloadX_n C dL_law_685 rfl ?_
                                        refine v_iload_n C dL_law_686 rfl ?_
                                        refine v_iconst (v := 2) C dL_law_687 rfl ?_
                                        refine v_iadd C dL_law_688 ?_
                                        obtain ⟨v, e, h⟩ := ob h
                                        refine v_xi2 C dL_law_689 e ?_
                                        obtain ⟨b, e0, h⟩ := ob h
                                        obtain ⟨q, e, h⟩ := ob h
                                        refine v_callV (As := [_, _]) C dL_law_690 cf_L_96 ⟨⟨Nat.le_of_ble_eq_true rfl, Nat.le_of_ble_eq_true rfl⟩, by show (64 + 13 * U + 3 * S) + 0 ≤ 600000; omega, by show (43918 + 11355 * U + 8202 * S) + 0 ≤ 7302250; omega⟩ ⟨rfl, rfl⟩ e0 rfl (Nat.le_of_ble_eq_true rfl) (c_X11_slot _ _ N _ _ _ _ q.1 q.2 e) ?_
                                        refine v_eqk (k' := (64 + 13 * U + 3 * S)) (by show (64 + 13 * U + 3 * S) + 0 = (64 + 13 * U + 3 * S); omega) ?_
                                        refine v_wid (n' := (43918 + 11355 * U + 8202 * S)) (by show (43918 + 11355 * U + 8202 * S) + 0 ≤ (43918 + 11355 * U + 8202 * S); omega) ?_
                                        refine v_pop C dL_law_693 rfl ?_
                                        refine v_aload_n C dL_law_694 rfl ?_
                                        refine v_aloadX_n C dL_law_695 rfl ?_
                                        refine v_iload_n C dL_law_696 rfl ?_
                                        refine v_iconst (v := 1) C dL_law_697 rfl ?_
                                        refine v_iadd C dL_law_698 ?_
                                        obtain ⟨v, e, h⟩ := ob h
                                        refine v_xi2 C dL_law_699 e ?_
                                        refine v_aloadX_n C dL_law_700 rfl ?_
                                        refine v_iload_n C dL_law_701 rfl ?_
                                        refine v_iconst (v := 2) C dL_law_702 rfl ?_
                                        refine v_iadd C dL_law_703 ?_
                                        obtain ⟨v, e, h⟩ := ob h
                                        refine v_xi2 C dL_law_704 e ?_
                                        obtain ⟨b, e0, h⟩ := ob h
                                        obtain ⟨q, e, h⟩ := ob h
                                        refine v_callV (As := [_, _]) C dL_law_705 cf_L_99 ⟨⟨Nat.le_of_ble_eq_true rfl, Nat.le_of_ble_eq_true rfl⟩, by show (64 + 13 * U + 3 * S) + 0 ≤ 600000; omega, by show (43918 + 11355 * U + 8202 * S) + 0 ≤ 7302250; omega⟩ ⟨rfl, rfl⟩ e0 rfl (Nat.le_of_ble_eq_true rfl) (c_X12_slot _ _ N _ _ _ _ q.1 q.2 e) ?_
                                        refine v_eqk (k' := (64 + 13 * U + 3 * S)) (by show (64 + 13 * U + 3 * S) + 0 = (64 + 13 * U + 3 * S); omega) ?_
                                        refine v_wid (n' := (43918 + 11355 * U + 8202 * S)) (by show (43918 + 11355 * U + 8202 * S) + 0 ≤ (43918 + 11355 * U + 8202 * S); omega) ?_
                                        refine v_pop C dL_law_708 rfl ?_
                                        refine v_goto (tgt := 788) C dL_law_709 (by decide) ?_
                                        refine v_eqk (k' := (64 + 13 * U + 3 * S)) (by omega) ?_
                                        refine v_wid (n' := (43918 + 11355 * U + 8202 * S)) (by omega) ?_
                                        exact v_sb (p_L_law_788 C F hU hk58 h) ⟨rfl, rfl, rfl, rfl, trivial⟩
                                      · replace h := ifF h c
                                        refine v_case (fun c => ?_) (fun c => ?_)
                                        · replace h := ifT h c
                                          refine v_aload_n C dL_law_712 rfl ?_
                                          refine v_aloadX_n C dL_law_713 rfl ?_
                                          refine v_iload_n C dL_law_714 rfl ?_
                                          refine v_iconst (v := 1) C dL_law_715 rfl ?_
                                          refine v_iadd C dL_law_716 ?_
                                          obtain ⟨v, e, h⟩ := ob h
                                          refine v_xi2 C dL_law_717 e ?_
                                          refine v_aloadX_n C dL_law_718 rfl ?_
                                          refine v_iload_n C dL_law_719 rfl ?_
                                          refine v_iconst (v := 2) C dL_law_720 rfl ?_
                                          refine v_iadd C dL_law_721 ?_
                                          obtain ⟨v, e, h⟩ := ob h
                                          refine v_xi2 C dL_law_722 e ?_
                                          refine v_aloadX_n C dL_law_723 rfl ?_
                                          refine v_iload_n C dL_law_724 rfl ?_
                                          refine v_iconst (v := 3) C dL_law_725 rfl ?_
                                          refine v_iadd C dL_law_726 ?_
                                          obtain ⟨v, e, h⟩ := ob h
                                          refine v_xi2 C dL_law_727 e ?_
                                          obtain ⟨b, e0, h⟩ := ob h
                                          obtain ⟨q, e, h⟩ := ob h
                                          refine v_callV (As := [_, _, _]) C dL_law_728 cf_L_100 ⟨⟨Nat.le_of_ble_eq_true rfl, Nat.le_of_ble_eq_true rfl⟩, by show (64 + 13 * U + 3 * S) + 0 ≤ 600000; omega, by show (43918 + 11355 * U + 8202 * S) + 0 ≤ 7302250; omega⟩ ⟨rfl, rfl⟩ e0 rfl (Nat.le_of_ble_eq_true rfl) (c_X11_block _ _ N _ _ _ _ _ q.1 q.2 e) ?_
                                          refine v_eqk (k' := (64 + 13 * U + 3 * S)) (by show (64 + 13 * U + 3 * S) + 0 = (64 + 13 * U + 3 * S); omega) ?_
                                          refine v_wid (n' := (43918 + 11355 * U + 8202 * S)) (by show (43918 + 11355 * U + 8202 * S) + 0 ≤ (43918 + 11355 * U + 8202 * S); omega) ?_
                                          refine v_pop C dL_law_731 rfl ?_
                                          refine v_aload_n C dL_law_732 rfl ?_
                                          refine v_aloadX_n C dL_law_733 rfl ?_
                                          refine v_iload_n C dL_law_734 rfl ?_
                                          refine v_iconst (v := 1) C dL_law_735 rfl ?_
                                          refine v_iadd C dL_law_736 ?_
                                          obtain ⟨v, e, h⟩ := ob h
                                          refine v_xi2 C dL_law_737 e ?_
                                          refine v_aloadX_n C dL_law_738 rfl ?_
                                          refine v_iload_n C dL_law_739 rfl ?_
                                          refine v_iconst (v := 2) C dL_law_740 rfl ?_
                                          refine v_iadd C dL_law_741 ?_
                                          obtain ⟨v, e, h⟩ := ob h
                                          refine v_xi2 C dL_law_742 e ?_
                                          refine v_aloadX_n C dL_law_743 rfl ?_
                                          refine v_iload_n C dL_law_744 rfl ?_
                                          refine v_iconst (v := 3) C dL_law_745 rfl ?_
                                          refine v_iadd C dL_law_746 ?_
                                          obtain ⟨v, e, h⟩ := ob h
                                          refine v_xi2 C dL_law_747 e ?_
                                          obtain ⟨b, e0, h⟩ := ob h
                                          obtain ⟨q, e, h⟩ := ob h
                                          refine v_callV (As := [_, _, _]) C dL_law_748 cf_L_104 ⟨⟨Nat.le_of_ble_eq_true rfl, Nat.le_of_ble_eq_true rfl⟩, by show (64 + 13 * U + 3 * S) + 0 ≤ 600000; omega, by show (43918 + 11355 * U + 8202 * S) + 0 ≤ 7302250; omega⟩ ⟨rfl, rfl⟩ e0 rfl (Nat.le_of_ble_eq_true rfl) (c_X12_block _ _ N _ _ _ _ _ q.1 q.2 e) ?_
                                          refine v_eqk (k' := (64 + 13 * U + 3 * S)) (by show (64 + 13 * U + 3 * S) + 0 = (64 + 13 * U + 3 * S); omega) ?_
                                          refine v_wid (n' := (43918 + 11355 * U + 8202 * S)) (by show (43918 + 11355 * U + 8202 * S) + 0 ≤ (43918 + 11355 * U + 8202 * S); omega) ?_
                                          refine v_pop C dL_law_751 rfl ?_
                                          refine v_goto (tgt := 788) C dL_law_752 (by decide) ?_
                                          refine v_eqk (k' := (64 + 13 * U + 3 * S)) (by omega) ?_
                                          refine v_wid (n' := (43918 + 11355 * U + 8202 * S)) (by omega) ?_
                                          exact v_sb (p_L_law_788 C F hU hk58 h) ⟨rfl, rfl, rfl, rfl, trivial⟩
                                        · replace h := ifF h c
                                          refine v_case (fun c => ?_) (fun c => ?_)
                                          · replace h := ifT h c
                                            refine v_aload_n C dL_law_755 rfl ?_
                                            refine v_aloadX_n C dL_law_756 rfl ?_
                                            refine v_iload_n C dL_law_757 rfl ?_
                                            refine v_iconst (v := 1) C dL_law_758 rfl ?_
                                            refine v_iadd C dL_law_759 ?_
                                            obtain ⟨v, e, h⟩ := ob h
                                            refine v_xi2 C dL_law_760 e ?_
                                            refine v_aloadX_n C dL_law_761 rfl ?_
                                            refine v_iload_n C dL_law_762 rfl ?_
                                            refine v_iconst (v := 2) C dL_law_763 rfl ?_
                                            refine v_iadd C dL_law_764 ?_
                                            obtain ⟨v, e, h⟩ := ob h
                                            refine v_xi2 C dL_law_765 e ?_
                                            obtain ⟨b, e0, h⟩ := ob h
                                            obtain ⟨q, e, h⟩ := ob h
                                            refine v_callV (As := [_, _]) C dL_law_766 cf_L_105 ⟨⟨Nat.le_of_ble_eq_true rfl, Nat.le_of_ble_eq_true rfl⟩, by show (64 + 13 * U + 3 * S) + 0 ≤ 600000; omega, by show (43918 + 11355 * U + 8202 * S) + 0 ≤ 7302250; omega⟩ ⟨rfl, rfl⟩ e0 rfl (Nat.le_of_ble_eq_true rfl) (c_X11_paper _ _ N _ _ _ _ q.1 q.2 e) ?_
                                            refine v_eqk (k' := (64 + 13 * U + 3 * S)) (by show (64 + 13 * U + 3 * S) + 0 = (64 + 13 * U + 3 * S); omega) ?_
                                            refine v_wid (n' := (43918 + 11355 * U + 8202 * S)) (by show (43918 + 11355 * U + 8202 * S) + 0 ≤ (43918 + 11355 * U + 8202 * S); omega) ?_
                                            refine v_aload_n C dL_law_769 rfl ?_
                                            refine v_aloadX_n C dL_law_770 rfl ?_
                                            refine v_iload_n C dL_law_771 rfl ?_
                                            refine v_iconst (v := 1) C dL_law_772 rfl ?_
                                            refine v_iadd C dL_law_773 ?_
                                            obtain ⟨v, e, h⟩ := ob h
                                            refine v_xi2 C dL_law_774 e ?_
                                            refine v_aloadX_n C dL_law_775 rfl ?_
                                            refine v_iload_n C dL_law_776 rfl ?_
                                            refine v_iconst (v := 2) C dL_law_777 rfl ?_
                                            refine v_iadd C dL_law_778 ?_
                                            obtain ⟨v, e, h⟩ := ob h
                                            refine v_xi2 C dL_law_779 e ?_
                                            obtain ⟨b, e0, h⟩ := ob h
                                            obtain ⟨q, e, h⟩ := ob h
                                            refine v_callV (As := [_, _]) C dL_law_780 cf_L_108 ⟨⟨Nat.le_of_ble_eq_true rfl, Nat.le_of_ble_eq_true rfl⟩, by show (64 + 13 * U + 3 * S) + 0 ≤ 600000; omega, by show (43918 + 11355 * U + 8202 * S) + 0 ≤ 7302250; omega⟩ ⟨rfl, rfl⟩ e0 rfl (Nat.le_of_ble_eq_true rfl) (c_X12_paper _ _ N _ _ _ _ q.1 q.2 e) ?_
                                            refine v_eqk (k' := (64 + 13 * U + 3 * S)) (by show (64 + 13 * U + 3 * S) + 0 = (64 + 13 * U + 3 * S); omega) ?_
                                            refine v_wid (n' := (43918 + 11355 * U + 8202 * S)) (by show (43918 + 11355 * U + 8202 * S) + 0 ≤ (43918 + 11355 * U + 8202 * S); omega) ?_
                                            refine v_icmp_eq (tgt := 788) C dL_law_783 (by decide) (fun c => ?_) (fun c => ?_)
                                            · replace h := ifT h c
                                              refine v_eqk (k' := (64 + 13 * U + 3 * S)) (by omega) ?_
                                              refine v_wid (n' := (43918 + 11355 * U + 8202 * S)) (by omega) ?_
                                              exact v_sb (p_L_law_788 C F hU hk58 h) ⟨rfl, rfl, rfl, rfl, trivial⟩
                                            · replace h := ifF h c
                                              refine v_iconst (v := 0) C dL_law_786 rfl ?_
                                              cases h
                                          · replace h := ifF h c
                                            refine v_caseD ?_
                                            refine v_eqk (k' := (64 + 13 * U + 3 * S)) (by omega) ?_
                                            refine v_wid (n' := (43918 + 11355 * U + 8202 * S)) (by omega) ?_
                                            exact v_sb (p_L_law_788 C F hU hk58 h) ⟨rfl, rfl, rfl, rfl, trivial⟩
set_option maxRecDepth 100000 in
set_option maxHeartbeats 4000000 in
theorem pL_L_law_58 {x : CX} {l : Launch} {g : CG} {rv : Unit} {μ9 : Mem} {U S : Nat} {nm : String} (C : Cx x l g (mi_L_law nm)) (F : FL x g) (hU : U ≤ 6 ∧ S ≤ 4) (N : Nat) (n : Nat) : ∀ (a0 : Nat) (a1 : Option Nat) (a2 : Option Nat) (a3 : Int32) (μ : Mem), L_L_law_58 N g U S n a0 a1 a2 a3 μ = some (rv, μ9) → V x g 4 (64 + 13 * U + 3 * S) (43918 + 11355 * U + 8202 * S) μ 58 [(0, aX 2), (1, aR a1), (2, aR a2), (3, aI a3)] [] := by
  induction n with
  | zero => intro a0 a1 a2 a3 μ h; cases h
  | succ n ih => intro a0 a1 a2 a3 μ h; exact pH_L_law_58 C F hU ih h
set_option maxRecDepth 100000 in
set_option maxHeartbeats 4000000 in
theorem p_L_law {x : CX} {l : Launch} {g : CG} {rv : Unit} {μ9 : Mem} {U S : Nat} {nm : String} (C : Cx x l g (mi_L_law nm)) (F : FL x g) (hU : U ≤ 6 ∧ S ≤ 4) {N : Nat} {a0 : Nat} {μ : Mem} (h : f_L_law N g U S a0 μ = some (rv, μ9)) : V x g 4 0 0 μ 0 [(0, aX 2)] [] := by
  unfold f_L_law at h
  obtain ⟨m, e, h⟩ := ob h
  cases e
  refine v_new df_X11 C dL_law_0 nf_L_7 ⟨by show 0 + 1 ≤ 600000; omega, by show 0 + 4 ≤ 7302250; omega⟩ ?_
  refine v_eqk (k' := 1) (by show 0 + 1 = 1; omega) ?_
  refine v_wid (n' := 4) (by show 0 + 4 ≤ 4; omega) ?_
  refine v_dup C dL_law_3 rfl ?_
  refine v_aloadX_n C dL_law_4 rfl ?_
  refine v_iconst (v := 0) C dL_law_5 rfl ?_
  obtain ⟨q, e, h⟩ := ob h
  refine v_callS (As := [_, _]) C dL_law_6 cf_L_9 ⟨⟨Nat.le_of_ble_eq_true rfl, Nat.le_of_ble_eq_true rfl⟩, by show 1 + 0 ≤ 600000; omega, by show 4 + 0 ≤ 7302250; omega⟩ ⟨rfl, rfl⟩ rfl (Nat.le_of_ble_eq_true rfl) (c_L_cell _ _ N _ _ _ q.1 q.2 e) ?_
  refine v_eqk (k' := 1) (by show 1 + 0 = 1; omega) ?_
  refine v_wid (n' := 4) (by show 4 + 0 ≤ 4; omega) ?_
  refine v_aloadX_n C dL_law_9 rfl ?_
  refine v_iconst (v := 1) C dL_law_10 rfl ?_
  obtain ⟨q, e, h⟩ := ob h
  refine v_callS (As := [_, _]) C dL_law_11 cf_L_9 ⟨⟨Nat.le_of_ble_eq_true rfl, Nat.le_of_ble_eq_true rfl⟩, by show 1 + 0 ≤ 600000; omega, by show 4 + 0 ≤ 7302250; omega⟩ ⟨rfl, rfl⟩ rfl (Nat.le_of_ble_eq_true rfl) (c_L_cell _ _ N _ _ _ q.1 q.2 e) ?_
  refine v_eqk (k' := 1) (by show 1 + 0 = 1; omega) ?_
  refine v_wid (n' := 4) (by show 4 + 0 ≤ 4; omega) ?_
  refine v_aloadX_n C dL_law_14 rfl ?_
  refine v_iconst (v := 2) C dL_law_15 rfl ?_
  obtain ⟨q, e, h⟩ := ob h
  refine v_callS (As := [_, _]) C dL_law_16 cf_L_9 ⟨⟨Nat.le_of_ble_eq_true rfl, Nat.le_of_ble_eq_true rfl⟩, by show 1 + 0 ≤ 600000; omega, by show 4 + 0 ≤ 7302250; omega⟩ ⟨rfl, rfl⟩ rfl (Nat.le_of_ble_eq_true rfl) (c_L_cell _ _ N _ _ _ q.1 q.2 e) ?_
  refine v_eqk (k' := 1) (by show 1 + 0 = 1; omega) ?_
  refine v_wid (n' := 4) (by show 4 + 0 ≤ 4; omega) ?_
  refine v_aloadX_n C dL_law_19 rfl ?_
  refine v_iconst (v := 3) C dL_law_20 rfl ?_
  obtain ⟨q, e, h⟩ := ob h
  refine v_callS (As := [_, _]) C dL_law_21 cf_L_9 ⟨⟨Nat.le_of_ble_eq_true rfl, Nat.le_of_ble_eq_true rfl⟩, by show 1 + 0 ≤ 600000; omega, by show 4 + 0 ≤ 7302250; omega⟩ ⟨rfl, rfl⟩ rfl (Nat.le_of_ble_eq_true rfl) (c_L_cell _ _ N _ _ _ q.1 q.2 e) ?_
  refine v_eqk (k' := 1) (by show 1 + 0 = 1; omega) ?_
  refine v_wid (n' := 4) (by show 4 + 0 ≤ 4; omega) ?_
  obtain ⟨q, e, h⟩ := ob h
  refine v_callI (As := [_, _, _, _]) C dL_law_24 cf_L_15 rfl ⟨⟨Nat.le_of_ble_eq_true rfl, Nat.le_of_ble_eq_true rfl⟩, by show 1 + (23 + 8 * U + 2 * S) ≤ 600000; omega, by show 4 + (21411 + 5680 * U + 4102 * S) ≤ 7302250; omega⟩ ⟨rfl, rfl⟩ rfl (Nat.le_of_ble_eq_true rfl) (c_X11_init _ _ N U S hU _ _ _ _ _ _ q.1 q.2 e) ?_
  refine v_eqk (k' := (24 + 8 * U + 2 * S)) (by show 1 + (23 + 8 * U + 2 * S) = (24 + 8 * U + 2 * S); omega) ?_
  refine v_wid (n' := (21415 + 5680 * U + 4102 * S)) (by show 4 + (21411 + 5680 * U + 4102 * S) ≤ (21415 + 5680 * U + 4102 * S); omega) ?_
  refine v_astore_n C dL_law_27 (by decide) ?_
  obtain ⟨m, e, h⟩ := ob h
  cases e
  refine v_new df_X12 C dL_law_28 nf_L_18 ⟨by show (24 + 8 * U + 2 * S) + 1 ≤ 600000; omega, by show (21415 + 5680 * U + 4102 * S) + 79 ≤ 7302250; omega⟩ ?_
  refine v_eqk (k' := (25 + 8 * U + 2 * S)) (by show (24 + 8 * U + 2 * S) + 1 = (25 + 8 * U + 2 * S); omega) ?_
  refine v_wid (n' := (21494 + 5680 * U + 4102 * S)) (by show (21415 + 5680 * U + 4102 * S) + 79 ≤ (21494 + 5680 * U + 4102 * S); omega) ?_
  refine v_dup C dL_law_31 rfl ?_
  refine v_aloadX_n C dL_law_32 rfl ?_
  refine v_iconst (v := 0) C dL_law_33 rfl ?_
  obtain ⟨q, e, h⟩ := ob h
  refine v_callS (As := [_, _]) C dL_law_34 cf_L_9 ⟨⟨Nat.le_of_ble_eq_true rfl, Nat.le_of_ble_eq_true rfl⟩, by show (25 + 8 * U + 2 * S) + 0 ≤ 600000; omega, by show (21494 + 5680 * U + 4102 * S) + 0 ≤ 7302250; omega⟩ ⟨rfl, rfl⟩ rfl (Nat.le_of_ble_eq_true rfl) (c_L_cell _ _ N _ _ _ q.1 q.2 e) ?_
  refine v_eqk (k' := (25 + 8 * U + 2 * S)) (by show (25 + 8 * U + 2 * S) + 0 = (25 + 8 * U + 2 * S); omega) ?_
  refine v_wid (n' := (21494 + 5680 * U + 4102 * S)) (by show (21494 + 5680 * U + 4102 * S) + 0 ≤ (21494 + 5680 * U + 4102 * S); omega) ?_
  refine v_aloadX_n C dL_law_37 rfl ?_
  refine v_iconst (v := 1) C dL_law_38 rfl ?_
  obtain ⟨q, e, h⟩ := ob h
  refine v_callS (As := [_, _]) C dL_law_39 cf_L_9 ⟨⟨Nat.le_of_ble_eq_true rfl, Nat.le_of_ble_eq_true rfl⟩, by show (25 + 8 * U + 2 * S) + 0 ≤ 600000; omega, by show (21494 + 5680 * U + 4102 * S) + 0 ≤ 7302250; omega⟩ ⟨rfl, rfl⟩ rfl (Nat.le_of_ble_eq_true rfl) (c_L_cell _ _ N _ _ _ q.1 q.2 e) ?_
  refine v_eqk (k' := (25 + 8 * U + 2 * S)) (by show (25 + 8 * U + 2 * S) + 0 = (25 + 8 * U + 2 * S); omega) ?_
  refine v_wid (n' := (21494 + 5680 * U + 4102 * S)) (by show (21494 + 5680 * U + 4102 * S) + 0 ≤ (21494 + 5680 * U + 4102 * S); omega) ?_
  refine v_aloadX_n C dL_law_42 rfl ?_
  refine v_iconst (v := 2) C dL_law_43 rfl ?_
  obtain ⟨q, e, h⟩ := ob h
  refine v_callS (As := [_, _]) C dL_law_44 cf_L_9 ⟨⟨Nat.le_of_ble_eq_true rfl, Nat.le_of_ble_eq_true rfl⟩, by show (25 + 8 * U + 2 * S) + 0 ≤ 600000; omega, by show (21494 + 5680 * U + 4102 * S) + 0 ≤ 7302250; omega⟩ ⟨rfl, rfl⟩ rfl (Nat.le_of_ble_eq_true rfl) (c_L_cell _ _ N _ _ _ q.1 q.2 e) ?_
  refine v_eqk (k' := (25 + 8 * U + 2 * S)) (by show (25 + 8 * U + 2 * S) + 0 = (25 + 8 * U + 2 * S); omega) ?_
  refine v_wid (n' := (21494 + 5680 * U + 4102 * S)) (by show (21494 + 5680 * U + 4102 * S) + 0 ≤ (21494 + 5680 * U + 4102 * S); omega) ?_
  refine v_aloadX_n C dL_law_47 rfl ?_
  refine v_iconst (v := 3) C dL_law_48 rfl ?_
  obtain ⟨q, e, h⟩ := ob h
  refine v_callS (As := [_, _]) C dL_law_49 cf_L_9 ⟨⟨Nat.le_of_ble_eq_true rfl, Nat.le_of_ble_eq_true rfl⟩, by show (25 + 8 * U + 2 * S) + 0 ≤ 600000; omega, by show (21494 + 5680 * U + 4102 * S) + 0 ≤ 7302250; omega⟩ ⟨rfl, rfl⟩ rfl (Nat.le_of_ble_eq_true rfl) (c_L_cell _ _ N _ _ _ q.1 q.2 e) ?_
  refine v_eqk (k' := (25 + 8 * U + 2 * S)) (by show (25 + 8 * U + 2 * S) + 0 = (25 + 8 * U + 2 * S); omega) ?_
  refine v_wid (n' := (21494 + 5680 * U + 4102 * S)) (by show (21494 + 5680 * U + 4102 * S) + 0 ≤ (21494 + 5680 * U + 4102 * S); omega) ?_
  obtain ⟨q, e, h⟩ := ob h
  refine v_callI (As := [_, _, _, _]) C dL_law_52 cf_L_20 rfl ⟨⟨Nat.le_of_ble_eq_true rfl, Nat.le_of_ble_eq_true rfl⟩, by show (25 + 8 * U + 2 * S) + (39 + 5 * U + 1 * S) ≤ 600000; omega, by show (21494 + 5680 * U + 4102 * S) + (22424 + 5675 * U + 4100 * S) ≤ 7302250; omega⟩ ⟨rfl, rfl⟩ rfl (Nat.le_of_ble_eq_true rfl) (c_X12_init _ _ N U S hU _ _ _ _ _ _ q.1 q.2 e) ?_
  refine v_eqk (k' := (64 + 13 * U + 3 * S)) (by show (25 + 8 * U + 2 * S) + (39 + 5 * U + 1 * S) = (64 + 13 * U + 3 * S); omega) ?_
  refine v_wid (n' := (43918 + 11355 * U + 8202 * S)) (by show (21494 + 5680 * U + 4102 * S) + (22424 + 5675 * U + 4100 * S) ≤ (43918 + 11355 * U + 8202 * S); omega) ?_
  refine v_astore_n C dL_law_55 (by decide) ?_
  refine v_iconst (v := 4) C dL_law_56 rfl ?_
  refine v_istore_n C dL_law_57 (by decide) ?_
  refine v_eqk (k' := (64 + 13 * U + 3 * S)) (by omega) ?_
  refine v_wid (n' := (43918 + 11355 * U + 8202 * S)) (by omega) ?_
  exact v_sb (pL_L_law_58 C F hU N N _ _ _ _ _ h) ⟨rfl, rfl, rfl, rfl, trivial⟩
