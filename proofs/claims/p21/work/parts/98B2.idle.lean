/-! LAYER 3, run where nobody is READY: every tick is idle -/
section
variable {U S N : Nat}
def IdC (U : Nat) (d : Int32) (t : CS) : Prop := (∀ j, j < U → t.1 10 j 8 = 0 ∧ t.1 6 (2 * j + 1) 2 = 0) ∧ t.1 1 0 0 = 0 ∧ t.1 1 0 4 = 0 ∧ t.1 5 0 1 = 0 ∧ t.2.2.2.1 2 0 8 = none ∧ t.1 2 0 11 = d
theorem id_sb {d : Int32} {t : CS} (hU : U < 7) (h : IdC U d t) : ∀ (m i : Nat), U < i + m → i ≤ U → ul_X2_serveBlocks_4 U S N m none (nI i) t = some (0, t) := by
  intro m
  induction m with
  | zero => intro i h1 h2; omega
  | succ m ih =>
    intro i h1 h2
    show uh_X2_serveBlocks_4 U S N (ul_X2_serveBlocks_4 U S N m) none (nI i) t = _
    unfold uh_X2_serveBlocks_4 u_X2_serveBlocks_62 u_X2_serveBlocks_45
    by_cases hi : U ≤ i
    · rw [if_pos ((leI (by omega) (by omega)).mpr hi), if_pos rfl]; rfl
    · rw [if_neg (fun z => hi ((leI (by omega) (by omega)).mp z)), rQ_y (by omega) (by omega)]
      simp only [Option.bind_some]
      rw [(h.1 i (by omega)).1, if_pos (by decide), nI_1]
      exact ih (i + 1) (by omega) (by omega)
theorem id_sq {d : Int32} {t : CS} (h : IdC U d t) (hN : 0 < N) : u_X2_serveQueue U S N t = some (0, t) := by
  obtain ⟨n, rfl⟩ : ∃ n, N = n + 1 := ⟨N - 1, by omega⟩
  have e : u_X2_firstWithoutSlot U S (n + 1) t = some (none, t) := by
    show uh_X2_firstWithoutSlot_2 U S (n + 1) (ul_X2_firstWithoutSlot_2 U S (n + 1) n) 0 t = _
    unfold uh_X2_firstWithoutSlot_2
    rw [h.2.2.2.1, if_pos (by decide)]
  unfold u_X2_serveQueue
  rw [e]
  rfl
theorem id_pr {d : Int32} {t : CS} (h : IdC U d t) (hN : 0 < N) : u_X2_process U S N t = some ((), qI t 2 0 10 (t.1 2 0 10 + 1)) := by
  obtain ⟨n, rfl⟩ : ∃ n, N = n + 1 := ⟨N - 1, by omega⟩
  have e : u_X2_chooseRunning U S (n + 1) t = some ((), t) := by
    show uh_X2_chooseRunning_2 U S (n + 1) (ul_X2_chooseRunning_2 U S (n + 1) n) 0 t = _
    unfold uh_X2_chooseRunning_2
    rw [h.2.2.2.1, if_pos (by decide)]
  unfold u_X2_process u_X2_process_11 u_X2_process_27
  rw [h.2.2.2.2.1]
  simp only [vl_0, Option.bind_some, not_true_eq_false, if_false]
  rw [e]
  simp only [Option.bind_some]
  rw [h.2.2.2.2.1]
  rfl
theorem id_tail {d : Int32} {t : CS} (hU : U < 7) (hN : 100 < N) (h : IdC U d t) : u_X2_tick_95 U S N t = some ((), qI t 2 0 10 (t.1 2 0 10 + 1)) := by
  have e1 : u_X1_isIdle U S N t = some (1, t) := by
    unfold u_X1_isIdle u_X1_isIdle_12
    rw [h.2.1]
    rfl
  have e2 : u_X2_lookForTask U S N t = some ((), t) := by
    unfold u_X2_lookForTask u_X2_lookForTask_37 u_X2_serveBlocks
    rw [h.2.2.1, if_pos rfl, show ul_X2_serveBlocks_4 U S N N none 0 t = some (0, t) from id_sb hU h N 0 (by omega) (by omega)]
    simp only [Option.bind_some, not_true_eq_false, if_false]
    rw [id_sq h (by omega)]
    rfl
  unfold u_X2_tick_95 u_X2_tick_109
  rw [e1]
  simp only [Option.bind_some, o10, if_false]
  rw [e2]
  simp only [Option.bind_some]
  rw [id_pr h (by omega)]
  rfl
theorem id_us {d : Int32} {t : CS} (hU : U < 7) (hN : 100 < N) (h : IdC U d t) : ∀ (m i : Nat), U < i + m → i ≤ U → ul_X2_tick_12 U S N m (nI i) t = some ((), qI t 2 0 10 (t.1 2 0 10 + 1)) := by
  intro m
  induction m with
  | zero => intro i h1 h2; omega
  | succ m ih =>
    intro i h1 h2
    show uh_X2_tick_12 U S N (ul_X2_tick_12 U S N m) (nI i) t = _
    unfold uh_X2_tick_12 u_X2_tick_51
    by_cases hi : U ≤ i
    · have e1 : u_X1_isIdle U S N t = some (1, t) := by
        unfold u_X1_isIdle u_X1_isIdle_12
        rw [h.2.1]
        rfl
      rw [if_pos ((leI (by omega) (by omega)).mpr hi), e1]
      simp only [Option.bind_some, o10, not_false_eq_true, if_true]
      exact id_tail hU hN h
    · rw [if_neg (fun z => hi ((leI (by omega) (by omega)).mp z)), rQ_y (by omega) (by omega)]
      simp only [Option.bind_some]
      rw [(h.1 i (by omega)).1, (h.1 i (by omega)).2, if_neg (by decide), if_pos (by decide), nI_1]
      exact ih (i + 1) (by omega) (by omega)
theorem id_tick {d : Int32} {t : CS} (hU : U < 7) (hN : 100 < N) (h : IdC U d t) : ∃ t2, u_X2_tick U S N t = some ((), t2) ∧ IdC U d t2 := by
  refine ⟨_, id_us (d := d) (t := qI t 2 0 7 (t.1 2 0 7 + 1)) hU hN ?_ N 0 (by omega) (by omega), ?_⟩
  · exact h
  · exact h
theorem id_run {d : Int32} (hU : U < 7) (hN : 100 < N) {n : Nat} (hn : n < 2 ^ 31) : ∀ (m i : Nat) (t : CS), IdC U d t → n < i + m → i ≤ n → ∃ t2, ul_X11_run_24 U S N m (nI n) d (nI i) t = some (d - d, t2) := by
  intro m
  induction m with
  | zero => intro i t _ h1 h2; omega
  | succ m ih =>
    intro i t h h1 h2
    show ∃ t2, uh_X11_run_24 U S N (ul_X11_run_24 U S N m) (nI n) d (nI i) t = _
    unfold uh_X11_run_24
    by_cases hi : n ≤ i
    · rw [if_pos ((leI (by omega) (by omega)).mpr hi), h.2.2.2.2.2]
      exact ⟨t, rfl⟩
    · obtain ⟨t2, e1, e2⟩ := id_tick (S := S) hU hN h
      rw [if_neg (fun z => hi ((leI (by omega) (by omega)).mp z)), e1]
      simp only [Option.bind_some]
      rw [nI_1]
      exact ih (i + 1) t2 e2 (by omega) (by omega)
def IdR (U : Nat) (d : Int32) (s : RS) : Prop := s.1 31 = nI U ∧ (∀ j, j < U → s.2.1 42 j = 0 ∧ s.2.1 53 j = 0) ∧ s.1 67 = 0 ∧ s.1 77 = 0 ∧ s.1 63 = 0 ∧ s.1 64 = -1 ∧ s.1 75 = d
theorem ir_bt {d : Int32} {s : RS} (hU : U < 7) (h : IdR U d s) : ∀ (m i : Nat), U < i + m → i ≤ U → l_blocksTask_4 U S N m (-1) (nI i) s = some (0, s) := by
  intro m
  induction m with
  | zero => intro i h1 h2; omega
  | succ m ih =>
    intro i h1 h2
    show h_blocksTask_4 U S N (l_blocksTask_4 U S N m) (-1) (nI i) s = _
    unfold h_blocksTask_4 g_blocksTask_80 g_blocksTask_90 g_blocksTask_44
    rw [h.1]
    by_cases hi : U ≤ i
    · rw [if_pos ((leI (by omega) (by omega)).mpr hi), if_pos rfl]; rfl
    · rw [if_neg (fun z => hi ((leI (by omega) (by omega)).mp z)), rA_y (by omega) (by omega)]
      simp only [Option.bind_some]
      rw [(h.2.1 i (by omega)).1, if_pos (by decide), nI_1]
      exact ih (i + 1) (by omega) (by omega)
theorem ir_qt {d : Int32} {s : RS} (h : IdR U d s) (hN : 0 < N) : g_queuesTask U S N s = some (0, s) := by
  obtain ⟨n, rfl⟩ : ∃ n, N = n + 1 := ⟨N - 1, by omega⟩
  unfold g_queuesTask
  rw [h.2.2.2.2.1]
  show h_queuesTask_9 U S (n + 1) (l_queuesTask_9 U S (n + 1) n) (-1) (0 - 1) s = _
  unfold h_queuesTask_9
  rw [if_pos (by decide), if_neg (not_not_intro rfl)]
  rfl
theorem ir_pr {d : Int32} {s : RS} (h : IdR U d s) (hN : 0 < N) : g_processes U S N s = some ((), pI s 74 (s.1 74 + 1)) := by
  obtain ⟨n, rfl⟩ : ∃ n, N = n + 1 := ⟨N - 1, by omega⟩
  unfold g_processes
  rw [h.2.2.2.2.2.1, if_neg (not_not_intro rfl)]
  show h_processes_10 U S (n + 1) (l_processes_10 U S (n + 1) n) 0 s = _
  unfold h_processes_10 g_processes_70
  rw [h.2.2.2.2.1, if_pos (by decide), h.2.2.2.2.2.1, if_neg (not_not_intro rfl)]
  rfl
theorem ir_tail {d : Int32} {s : RS} (hU : U < 7) (hN : 100 < N) (h : IdR U d s) : g_tick_42 U S N s = some ((), pI s 74 (s.1 74 + 1)) := by
  have e2 : g_looksFor U S N s = some ((), s) := by
    unfold g_looksFor g_looksFor_34 g_blocksTask
    rw [h.2.2.2.1, if_pos rfl, show l_blocksTask_4 U S N N (-1) 0 s = some (0, s) from ir_bt hU h N 0 (by omega) (by omega)]
    simp only [Option.bind_some, not_true_eq_false, if_false]
    rw [ir_qt h (by omega)]
    rfl
  unfold g_tick_42 g_tick_53
  rw [h.2.2.1, if_neg (not_not_intro rfl), e2]
  simp only [Option.bind_some]
  rw [ir_pr h (by omega)]
  rfl
theorem ir_us {d : Int32} {s : RS} (hU : U < 7) (hN : 100 < N) (h : IdR U d s) : ∀ (m i : Nat), U < i + m → i ≤ U → l_tick_12 U S N m (nI i) s = some ((), pI s 74 (s.1 74 + 1)) := by
  intro m
  induction m with
  | zero => intro i h1 h2; omega
  | succ m ih =>
    intro i h1 h2
    show h_tick_12 U S N (l_tick_12 U S N m) (nI i) s = _
    unfold h_tick_12
    rw [h.1]
    by_cases hi : U ≤ i
    · rw [if_pos ((leI (by omega) (by omega)).mpr hi), h.2.2.1, if_pos (by decide)]
      exact ir_tail hU hN h
    · have hc : g_clocks U S N (nI i) s = some ((), s) := by
        unfold g_clocks g_clocks_28 g_clocks_50
        rw [rA_y (by omega) (by omega)]
        simp only [Option.bind_some]
        rw [(h.2.1 i (by omega)).1, if_pos (by decide), rA_y (by omega) (by omega), (h.2.1 i (by omega)).2]
        rfl
      rw [if_neg (fun z => hi ((leI (by omega) (by omega)).mp z)), hc]
      simp only [Option.bind_some]
      rw [nI_1]
      exact ih (i + 1) (by omega) (by omega)
theorem ir_tick {d : Int32} {s : RS} (hU : U < 7) (hN : 100 < N) (h : IdR U d s) : ∃ s2, g_tick U S N s = some ((), s2) ∧ IdR U d s2 := by
  refine ⟨_, ir_us (d := d) (s := pI s 66 (s.1 66 + 1)) hU hN ?_ N 0 (by omega) (by omega), ?_⟩
  · exact h
  · exact h
theorem ir_run {d : Int32} (hU : U < 7) (hN : 100 < N) {n : Nat} (hn : n < 2 ^ 31) : ∀ (m i : Nat) (s : RS), IdR U d s → n < i + m → i ≤ n → ∃ s2, l_run_20 U S N m (nI n) d (nI i) s = some (d - d, s2) := by
  intro m
  induction m with
  | zero => intro i s _ h1 h2; omega
  | succ m ih =>
    intro i s h h1 h2
    show ∃ s2, h_run_20 U S N (l_run_20 U S N m) (nI n) d (nI i) s = _
    unfold h_run_20
    by_cases hi : n ≤ i
    · rw [if_pos ((leI (by omega) (by omega)).mpr hi), h.2.2.2.2.2.2]
      exact ⟨s, rfl⟩
    · obtain ⟨s2, e1, e2⟩ := ir_tick (S := S) hU hN h
      rw [if_neg (fun z => hi ((leI (by omega) (by omega)).mp z)), e1]
      simp only [Option.bind_some]
      rw [nI_1]
      exact ih (i + 1) s2 e2 (by omega) (by omega)
theorem em_run (hU : U < 7) (hN : 20001 < N) {t : CS} {s : RS} {d : Int32} (h1 : IdC U d t) (h2 : IdR U d s) (x1 : Int32) : Agr (u_X11_run U S N x1 t) (g_run U S N x1 s) := by
  unfold u_X11_run u_X11_run_12 g_run
  rw [g_in_eq]
  simp only [Option.bind_some]
  by_cases c1 : x1 < 1
  · rw [if_pos c1, if_pos c1]
    exact agr rfl rfl
  · rw [if_neg c1, if_neg c1]
    by_cases c2 : x1 ≤ 20000
    · have c3 : ¬ (20000 : Int32) < x1 := by
        rw [Int32.lt_iff_toInt_lt]
        rw [Int32.le_iff_toInt_le] at c2
        omega
      have c4 : ¬ x1 < 0 := by
        rw [Int32.lt_iff_toInt_lt] at c1 ⊢
        have e1 : (1 : Int32).toInt = 1 := rfl
        have e0 : (0 : Int32).toInt = 0 := rfl
        omega
      obtain ⟨n, hn, rfl⟩ := nI_of c4
      have hle : n ≤ 20000 := by
        rw [Int32.le_iff_toInt_le, nI_toInt hn] at c2
        have e1 : (20000 : Int32).toInt = 20000 := rfl
        omega
      rw [if_pos c2, if_neg c3, if_pos (by decide), h1.2.2.2.2.2, h2.2.2.2.2.2.2]
      obtain ⟨t2, e1⟩ := id_run (S := S) (N := N) hU (by omega) hn N 0 t h1 (by omega) (by omega)
      obtain ⟨s2, e2⟩ := ir_run (S := S) (N := N) hU (by omega) hn N 0 s h2 (by omega) (by omega)
      exact agr e1 e2
    · have c3 : (20000 : Int32) < x1 := by
        rw [Int32.lt_iff_toInt_lt]
        rw [Int32.le_iff_toInt_le] at c2
        omega
      rw [if_neg c2, if_pos c3, if_neg (not_not_intro rfl)]
      exact agr rfl rfl
end
