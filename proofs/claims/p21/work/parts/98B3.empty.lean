/-! LAYER 3, assemble of an empty tape -/
section
variable {U S N : Nat}
theorem fl_c {a : Nat} (v : Int32) : ∀ (m k : Nat) (t : CS), 4096 < k + m → k ≤ 4096 → ul_J7_fill_53178_5 U S N m a v (nI k) (nI 4096) t = some ((), qF t 7 a 0 (cpF (t.2.1 7 a 0) (fun _ => v) k)) := by
  intro m
  induction m with
  | zero => intro k t h1 h2; omega
  | succ m ih =>
    intro k t h1 h2
    show uh_J7_fill_53178_5 U S N (ul_J7_fill_53178_5 U S N m) a v (nI k) (nI 4096) t = _
    unfold uh_J7_fill_53178_5
    by_cases hk : k = 4096
    · subst hk
      rw [if_pos ((leI (by decide) (by decide)).mpr (Nat.le_refl _)), cp_e, qF_id]
    · have hlt : k < 4096 := by omega
      rw [if_neg (fun z => by have := (leI (by decide) (by omega)).mp z; omega), wH_y (by decide) hlt]
      simp only [Option.bind_some]
      rw [nI_1, ih (k + 1) (qA t 7 a 0 k v) (by omega) (by omega)]
      unfold qA
      rw [qF_qF, qF_s, cp_s (t.2.1 7 a 0) (fun _ => v) hlt]
theorem fill_c {a : Nat} (hN : 4096 < N) (v : Int32) (t : CS) : u_J7_fill_53178 U S N a v t = some ((), qF t 7 a 0 (cpF (t.2.1 7 a 0) (fun _ => v) 0)) := by
  unfold u_J7_fill_53178
  exact fl_c v N 0 t (by omega) (by omega)
theorem by0 {t : CS} (h : t.1 9 0 7 = 0) : u_X9_byteAt U S N 0 t = some (-1, t) := by
  unfold u_X9_byteAt u_X9_byteAt_12 u_X9_byteAt_22
  rw [h, if_neg (by decide), if_neg (by decide)]
theorem sb0 {t : CS} (h : t.1 9 0 7 = 0) (hN : 0 < N) : u_X9_skipBlanks U S N 0 t = some (0, t) := by
  obtain ⟨n, rfl⟩ : ∃ n, N = n + 1 := ⟨N - 1, by omega⟩
  show uh_X9_skipBlanks_2 U S (n + 1) (ul_X9_skipBlanks_2 U S (n + 1) n) 0 t = _
  unfold uh_X9_skipBlanks_2 u_X9_skipBlanks_26
  rw [h, if_pos (by decide)]
theorem scan0 (hN : 0 < N) (t : CS) : ∃ t2, u_X9_scan U S N 0 t = some ((), t2) ∧ (∀ j k, t2.2.2.2.1 0 j k = t.2.2.2.1 0 j k) ∧ t2.1 9 0 5 = 1 ∧ t2.2.1 9 0 1 0 = 0 := by
  obtain ⟨n, rfl⟩ : ∃ n, N = n + 1 := ⟨N - 1, by omega⟩
  unfold u_X9_scan u_X4_forget
  simp only [Option.bind_some]
  generalize hT : qI (qI (qI (qI (qI (qR t 9 0 6 (some 1)) 9 0 7 (mmax 0 (mmin 0 (mmin (nI 2000) 2000)))) 9 0 8 0) 9 0 5 0) 4 0 3 53) 4 0 4 0 = T
  have a7 : T.1 9 0 7 = 0 := by rw [← hT]; rfl
  have a8 : T.1 9 0 8 = 0 := by rw [← hT]; rfl
  have a5 : T.1 9 0 5 = 0 := by rw [← hT]; rfl
  have ar : ∀ j k, T.2.2.2.1 0 j k = t.2.2.2.1 0 j k := by
    intro j k
    rw [← hT]
    show up3 t.2.2.2.1 9 0 6 (some 1) 0 j k = _
    rw [up3_n _ _ (fun e => absurd e.1 (by decide))]
  show ∃ t2, uh_X9_scan_44 U S (n + 1) (ul_X9_scan_44 U S (n + 1) n) 0 T = some ((), t2) ∧ _
  unfold uh_X9_scan_44 u_X9_scan_99
  rw [a7, if_neg (by decide), a8, sb0 a7 (by omega)]
  simp only [Option.bind_some]
  have b7 : (qI T 9 0 8 0).1 9 0 7 = 0 := a7
  have sr : u_X9_skipRemark U S (n + 1) (qI T 9 0 8 0) = some ((), qI T 9 0 8 0) := by
    unfold u_X9_skipRemark
    rw [show (qI T 9 0 8 0).1 9 0 8 = 0 from rfl, by0 b7]
    rfl
  rw [sr]
  simp only [Option.bind_some]
  unfold u_X9_scanToken
  rw [show (qI T 9 0 8 0).1 9 0 8 = 0 from rfl, by0 b7]
  simp only [Option.bind_some, not_true_eq_false, if_false]
  unfold u_X9_append u_X9_append_66
  rw [show (qI T 9 0 8 0).1 9 0 5 = 0 from a5, if_neg (by decide), show (0 : Int32) = nI 0 from rfl, wH_y (by decide) (by decide)]
  simp only [Option.bind_some]
  rw [show (qA (qI T 9 0 8 (nI 0)) 9 0 1 0 (nI 0)).1 9 0 5 = nI 0 from a5, wH_y (by decide) (by decide)]
  simp only [Option.bind_some]
  rw [show (qA (qA (qI T 9 0 8 (nI 0)) 9 0 1 0 (nI 0)) 9 0 2 0 ((qA (qI T 9 0 8 (nI 0)) 9 0 1 0 (nI 0)).1 9 0 8)).1 9 0 5 = nI 0 from a5, wH_y (by decide) (by decide)]
  simp only [Option.bind_some]
  rw [show (qA (qA (qA (qI T 9 0 8 (nI 0)) 9 0 1 0 (nI 0)) 9 0 2 0 ((qA (qI T 9 0 8 (nI 0)) 9 0 1 0 (nI 0)).1 9 0 8)) 9 0 3 0 (nI 0)).1 9 0 5 = nI 0 from a5, wH_y (by decide) (by decide)]
  simp only [Option.bind_some, if_true]
  refine ⟨_, rfl, ar, ?_, rfl⟩
  show T.1 9 0 5 + 1 = 1
  rw [a5]
  rfl
theorem ka0 {t : CS} (h5 : t.1 9 0 5 = 1) (hk : t.2.1 9 0 1 0 = 0) : u_X0_kindAt U S N 0 t = some (0, t) := by
  unfold u_X0_kindAt
  rw [h5, if_neg (by decide), if_pos (by decide), show (0 : Int32) = nI 0 from rfl, rH_y (by decide) (by decide), hk]
  simp only [Option.bind_some]
  rw [if_neg (by decide)]
  rfl
theorem ie0 (t : CS) : u_X0_isEnd U S N 0 t = some (1, t) := rfl
theorem pass0 {t : CS} (hN : 1 < N) (h5 : t.1 9 0 5 = 1) (hk : t.2.1 9 0 1 0 = 0) (h4 : t.1 0 0 4 = 0) {a : Int32} (ha : a = 0 ∨ a = 1) : ∃ t2, u_X0_passOver U S N a t = some ((), t2) ∧ t2.2 = t.2 ∧ t2.1 9 0 5 = 1 ∧ t2.1 0 0 4 = 0 ∧ ∀ j, t2.1 7 j 1 = t.1 7 j 1 := by
  obtain ⟨n, rfl⟩ : ∃ n, N = n + 2 := ⟨N - 2, by omega⟩
  unfold u_X0_passOver qZ
  rw [if_pos ha]
  simp only [Option.bind_some, true_or, if_true]
  generalize hT : qI (qI (qI (qI (qI t 0 0 6 a) 0 0 7 0) 0 0 8 0) 0 0 9 0) 0 0 10 128 = T
  have a5 : T.1 9 0 5 = 1 := by rw [← hT]; exact h5
  have a4 : T.1 0 0 4 = 0 := by rw [← hT]; exact h4
  have a7 : T.1 0 0 7 = 0 := by rw [← hT]; rfl
  have a9 : T.1 0 0 9 = 0 := by rw [← hT]; rfl
  have ak : T.2.1 9 0 1 0 = 0 := by rw [← hT]; exact hk
  have a2 : T.2 = t.2 := by rw [← hT]; rfl
  have as : ∀ j, T.1 7 j 1 = t.1 7 j 1 := by
    intro j
    rw [← hT]
    rfl
  have e1 : u_X0_passLabels U S (n + 2) T = some ((), T) := by
    show uh_X0_passLabels_2 U S (n + 2) (ul_X0_passLabels_2 U S (n + 2) (n + 1)) 0 T = _
    unfold uh_X0_passLabels_2 u_X0_passLabels_47
    rw [a5, a4, if_neg (by decide), if_neg (by decide), a9, ka0 a5 ak]
    simp only [Option.bind_some]
    rw [if_pos (by decide)]
  have e2 : u_X0_passStatement U S (n + 2) T = some ((), T) := by
    unfold u_X0_passStatement u_X0_passStatement_23
    rw [a9, ka0 a5 ak]
    simp only [Option.bind_some]
    rw [a4, if_neg (by decide), ie0]
    rfl
  have e3 : u_X0_passEnd U S (n + 2) T = some ((), qI T 0 0 7 1) := by
    unfold u_X0_passEnd u_X0_passEnd_61 qZ
    rw [a4, if_neg (by decide), a7, if_pos rfl, a9, ka0 a5 ak]
    simp only [Option.bind_some]
    rw [ie0]
    rfl
  refine ⟨qI T 0 0 7 1, ?_, a2, a5, a4, as⟩
  show uh_X0_passOver_29 U S (n + 2) (ul_X0_passOver_29 U S (n + 2) (n + 1)) 0 T = _
  unfold uh_X0_passOver_29
  rw [a5, if_neg (by decide), a7, if_neg (by decide), a4, if_neg (by decide), e1]
  simp only [Option.bind_some]
  rw [e2]
  simp only [Option.bind_some]
  rw [e3]
  simp only [Option.bind_some]
  show uh_X0_passOver_29 U S (n + 2) (ul_X0_passOver_29 U S (n + 2) n) (0 + 1) (qI T 0 0 7 1) = _
  unfold uh_X0_passOver_29 u_X0_passOver_72
  rw [show (qI T 0 0 7 1).1 9 0 5 = 1 from a5, if_neg (by decide), show (qI T 0 0 7 1).1 0 0 7 = 1 from rfl, if_pos (by decide)]
theorem asm0_c {t : CS} (hN : 4096 < N) (h1 : t.1 11 0 1 = 0) {i j : Nat} (hi : i < 2) (hj : j < 2) (h3 : t.2.2.2.1 0 0 3 = some i) (h2 : t.2.2.2.1 0 0 2 = some j) : ∃ t2, u_X11_assemble U S N t = some (0, t2) := by
  obtain ⟨t1, s1, s2, s3, s4⟩ := scan0 (U := U) (S := S) (N := N) (by omega) t
  unfold u_X11_assemble u_X0_open u_X7_clear
  rw [h1, s1]
  simp only [Option.bind_some]
  rw [s2, h3]
  simp only [vl_y hi, Option.bind_some]
  rw [fill_c hN]
  simp only [Option.bind_some]
  generalize hT : qI (qI (qI (qI (qF t1 7 i 0 (cpF (t1.2.1 7 i 0) (fun _ => -1) 0)) 7 i 1 0) 0 0 4 0) 0 0 5 (-1)) 11 0 1 0 = T
  have a5 : T.1 9 0 5 = 1 := by rw [← hT]; exact s3
  have a4 : T.1 0 0 4 = 0 := by rw [← hT]; rfl
  have ak : T.2.1 9 0 1 0 = 0 := by rw [← hT]; exact s4
  have ar : ∀ j k, T.2.2.2.1 0 j k = t.2.2.2.1 0 j k := by
    intro j k
    rw [← hT]
    exact s2 j k
  have ac : T.1 7 i 1 = 0 := by
    rw [← hT]
    show up3 (qF t1 7 i 0 (cpF (t1.2.1 7 i 0) (fun _ => -1) 0)).1 7 i 1 0 7 i 1 = 0
    unfold up3
    rw [if_pos ⟨rfl, rfl, rfl⟩]
  obtain ⟨t3, b1, b2, b3, b4, b5⟩ := pass0 (U := U) (S := S) (N := N) (by omega) a5 ak a4 (Or.inl rfl : (0 : Int32) = 0 ∨ (0 : Int32) = 1)
  obtain ⟨t4, c1, c2, c3, c4, c5⟩ := pass0 (U := U) (S := S) (N := N) (by omega) b3 (by rw [b2]; exact ak) b4 (Or.inr rfl : (1 : Int32) = 0 ∨ (1 : Int32) = 1)
  rw [b1]
  simp only [Option.bind_some]
  rw [c1]
  simp only [Option.bind_some]
  unfold u_X0_close
  have d3 : t4.2.2.2.1 0 0 3 = some i := by rw [c2, b2, ar]; exact h3
  have d2 : t4.2.2.2.1 0 0 2 = some j := by rw [c2, b2, ar]; exact h2
  rw [c4, if_pos rfl, d3, d2]
  simp only [vl_y hi, vl_y hj, Option.bind_some]
  rw [show (qR (qR t4 0 0 2 (some i)) 0 0 3 (some j)).2.2.2.1 0 0 2 = some i from rfl]
  simp only [vl_y hi, Option.bind_some]
  rw [show (qR (qR t4 0 0 2 (some i)) 0 0 3 (some j)).1 7 i 1 = t4.1 7 i 1 from rfl, c5, b5, ac]
  exact ⟨_, rfl⟩
def cl3 (s : RS) (k : Nat) : RS := (s.1, fun r => if r = 22 ∨ r = 23 ∨ r = 24 then cpF (s.2.1 r) (fun _ => 0) k else s.2.1 r, s.2.2)
theorem cl3_s (s : RS) {k : Nat} (h : k < 4096) : cl3 (pA (pA (pA s 23 k 0) 24 k 0) 22 k 0) (k + 1) = cl3 s k := by
  unfold cl3
  refine Prod.ext rfl (Prod.ext ?_ rfl)
  funext r
  dsimp only
  by_cases hr : r = 22 ∨ r = 23 ∨ r = 24
  · rw [if_pos hr, if_pos hr]
    rcases hr with rfl | rfl | rfl
    · exact cp_s (s.2.1 22) (fun _ => 0) h
    · exact cp_s (s.2.1 23) (fun _ => 0) h
    · exact cp_s (s.2.1 24) (fun _ => 0) h
  · rw [if_neg hr, if_neg hr]
    have h1 : r ≠ 22 := fun e => hr (Or.inl e)
    have h2 : r ≠ 23 := fun e => hr (Or.inr (Or.inl e))
    have h3 : r ≠ 24 := fun e => hr (Or.inr (Or.inr e))
    show up1 _ 22 _ r = _
    rw [up1_n _ _ h1]
    show up1 _ 24 _ r = _
    rw [up1_n _ _ h3]
    show up1 _ 23 _ r = _
    rw [up1_n _ _ h2]
theorem cl3_e (s : RS) : cl3 s 4096 = s := by
  unfold cl3
  refine Prod.ext rfl (Prod.ext ?_ rfl)
  funext r
  dsimp only
  by_cases hr : r = 22 ∨ r = 23 ∨ r = 24
  · rw [if_pos hr, cp_e]
  · rw [if_neg hr]
theorem as58 : ∀ (m k : Nat) (s : RS), 4096 < k + m → k ≤ 4096 → l_assemble_58 U S N m (nI k) s = l_assemble_94 U S N N 0 (cl3 s k) := by
  intro m
  induction m with
  | zero => intro k s h1 h2; omega
  | succ m ih =>
    intro k s h1 h2
    show h_assemble_58 U S N (l_assemble_58 U S N m) (nI k) s = _
    unfold h_assemble_58
    by_cases hk : k = 4096
    · subst hk
      rw [if_pos (show (4096 : Int32) ≤ nI 4096 from (leI (a := 4096) (by decide) (by decide)).mpr (Nat.le_refl _)), cl3_e]
    · have hlt : k < 4096 := by omega
      rw [if_neg (show ¬ (4096 : Int32) ≤ nI k from fun z => by have := (leI (a := 4096) (by decide) (by omega)).mp z; omega), wZ_y (by decide) hlt _ _ (Or.inl rfl)]
      simp only [Option.bind_some]
      rw [wZ_y (by decide) hlt _ _ (Or.inl rfl)]
      simp only [Option.bind_some]
      rw [wA_y (by decide) hlt]
      simp only [Option.bind_some]
      rw [nI_1, ih (k + 1) _ (by omega) (by omega), cl3_s s hlt]
def aft (U S N : Nat) (s : RS) : Option (Int32 × RS) := (g_pass U S N 0 s).bind fun q1 => if ¬ (q1.2.1 5) = 0 then g_assemble_137 U S N q1.2 else (g_pass U S N 1 q1.2).bind fun q4 => g_assemble_137 U S N q4.2
def lo3 (f : Nat → Int32) (k : Nat) : Nat → Int32 := fun i => if k ≤ i ∧ i < 32 then nI (128 * i + 127) else f i
theorem as94 : ∀ (m k : Nat) (s : RS), 32 < k + m → k ≤ 32 → l_assemble_94 U S N m (nI k) s = aft U S N (sA s 26 (lo3 (s.2.1 26) k)) := by
  intro m
  induction m with
  | zero => intro k s h1 h2; omega
  | succ m ih =>
    intro k s h1 h2
    show h_assemble_94 U S N (l_assemble_94 U S N m) (nI k) s = _
    unfold h_assemble_94
    by_cases hk : k = 32
    · subst hk
      rw [if_pos (show (32 : Int32) ≤ nI 32 from (leI (a := 32) (by decide) (by decide)).mpr (Nat.le_refl _))]
      have : sA s 26 (lo3 (s.2.1 26) 32) = s := by
        have e : lo3 (s.2.1 26) 32 = s.2.1 26 := by
          funext i
          unfold lo3
          rw [if_neg (fun e => by omega)]
        rw [e]
        unfold sA
        rw [up1_id]
      rw [this]
      rfl
    · have hlt : k < 32 := by omega
      rw [if_neg (show ¬ (32 : Int32) ≤ nI k from fun z => by have := (leI (a := 32) (by decide) (by omega)).mp z; omega), wA_y (by decide) hlt]
      simp only [Option.bind_some]
      rw [nI_1, ih (k + 1) _ (by omega) (by omega)]
      congr 1
      unfold sA pA
      refine Prod.ext rfl (Prod.ext ?_ rfl)
      dsimp only
      rw [up1_up1, up1_s]
      congr 1
      funext i
      unfold lo3 upd
      by_cases h3 : k + 1 ≤ i ∧ i < 32
      · rw [if_pos h3, if_pos ⟨by omega, h3.2⟩]
      · rw [if_neg h3]
        by_cases h4 : i = k
        · subst h4
          rw [if_pos rfl, if_pos ⟨Nat.le_refl _, hlt⟩, show (128 : Int32) = nI 128 from rfl, show nI 128 * nI i = nI (128 * i) from (Int32.ofNat_mul 128 i).symm, show (127 : Int32) = nI 127 from rfl, nI_add]
        · rw [if_neg h4, if_neg (fun e => h3 ⟨by omega, e.2⟩)]
theorem look0 {s : RS} (hN : 0 < N) (h3 : s.1 3 = 0) (h4 : s.1 4 = 0) : g_look U S N s = some ((), pI (pI (pI (pI s 13 0) 13 0) 12 5) 16 0) := by
  obtain ⟨n, rfl⟩ : ∃ n, N = n + 1 := ⟨N - 1, by omega⟩
  unfold g_look
  rw [h4]
  show h_look_5 U S (n + 1) (l_look_5 U S (n + 1) n) 0 s = _
  unfold h_look_5 g_look_30
  rw [h3, if_pos (by decide)]
  simp only [Option.bind_some]
  rw [show (pI s 13 0).1 3 = 0 from h3, if_pos (by decide)]
  show h_look_65 U S (n + 1) (l_look_65 U S (n + 1) n) 0 (pI s 13 0) = _
  unfold h_look_65 g_look_90
  rw [show (pI s 13 0).1 3 = 0 from h3, if_pos (by decide)]
  rfl
theorem line0 {s : RS} (hN : 1 < N) (h3 : s.1 3 = 0) (h4 : s.1 4 = 0) (h5 : s.1 5 = 0) (h28 : s.1 28 = 0) : ∃ s2, g_line U S N s = some ((), s2) ∧ s2.2 = s.2 ∧ s2.1 3 = 0 ∧ s2.1 4 = 0 ∧ s2.1 5 = 0 ∧ s2.1 28 = 0 := by
  obtain ⟨n, rfl⟩ : ∃ n, N = n + 2 := ⟨N - 2, by omega⟩
  unfold g_line
  rw [look0 (by omega) h3 h4]
  simp only [Option.bind_some]
  generalize hT : pI (pI (pI (pI s 13 0) 13 0) 12 5) 16 0 = T
  have a3 : T.1 3 = 0 := by rw [← hT]; exact h3
  have a5 : T.1 5 = 0 := by rw [← hT]; exact h5
  have a28 : T.1 28 = 0 := by rw [← hT]; exact h28
  have a12 : T.1 12 = 5 := by rw [← hT]; rfl
  have a16 : T.1 16 = 0 := by rw [← hT]; rfl
  have a2 : T.2 = s.2 := by rw [← hT]; rfl
  have e1 : g_labels U S (n + 2) T = some ((), pI T 27 (T.1 13)) := by
    show h_labels_0 U S (n + 2) (l_labels_0 U S (n + 2) (n + 1)) T = _
    unfold h_labels_0 g_labels_63
    rw [a5, if_neg (by decide), a12, if_pos (by decide)]
    rfl
  have e2 : g_one U S (n + 2) (pI T 27 (T.1 13)) = some ((), pI T 27 (T.1 13)) := by
    unfold g_one g_one_17
    rw [show (pI T 27 (T.1 13)).1 12 = 5 from a12, if_pos rfl]
  have e3 : g_isSign U S (n + 2) 59 (pI T 27 (T.1 13)) = some (0, pI T 27 (T.1 13)) := by
    unfold g_isSign g_isSign_27 g_isSign_28
    rw [show (pI T 27 (T.1 13)).1 5 = 0 from a5, if_neg (by decide), show (pI T 27 (T.1 13)).1 12 = 5 from a12, if_pos (by decide)]
    rfl
  refine ⟨pI (pI T 27 (T.1 13)) 4 (T.1 16), ?_, a2, a3, a16, a5, a28⟩
  show h_line_6 U S (n + 2) (l_line_6 U S (n + 2) (n + 1)) 1 T = _
  unfold h_line_6 g_line_39
  rw [if_neg (by decide), a5, if_neg (by decide), a28, if_neg (by decide), e1]
  simp only [Option.bind_some]
  rw [show (pI T 27 (T.1 13)).1 5 = 0 from a5, if_neg (by decide), e2]
  simp only [Option.bind_some]
  rw [e3]
  simp only [Option.bind_some, if_true]
  rw [show (pI T 27 (T.1 13)).1 5 = 0 from a5, if_neg (by decide), show (pI T 27 (T.1 13)).1 28 = 0 from a28, if_neg (by decide), show (pI T 27 (T.1 13)).1 12 = 5 from a12, if_pos rfl]
  show h_line_6 U S (n + 2) (l_line_6 U S (n + 2) n) 0 (pI T 27 (T.1 13)) = _
  unfold h_line_6 g_line_91 g_line_113
  rw [if_pos rfl, show (pI T 27 (T.1 13)).1 5 = 0 from a5, if_neg (by decide), show (pI T 27 (T.1 13)).1 28 = 0 from a28, if_neg (by decide)]
  rfl
theorem pasr0 {s : RS} (hN : 1 < N) (h3 : s.1 3 = 0) (h5 : s.1 5 = 0) {a : Int32} (ha : a = 0 ∨ a = 1) : ∃ s2, g_pass U S N a s = some ((), s2) ∧ s2.2 = s.2 ∧ s2.1 3 = 0 ∧ s2.1 5 = 0 := by
  unfold g_pass pZ
  rw [if_pos ha]
  simp only [Option.bind_some, true_or, if_true]
  generalize hT : pI (pI (pI (pI (pI s 9 a) 10 8) 11 128) 28 0) 4 0 = T
  have a3 : T.1 3 = 0 := by rw [← hT]; exact h3
  have a5 : T.1 5 = 0 := by rw [← hT]; exact h5
  have a28 : T.1 28 = 0 := by rw [← hT]; rfl
  have a4 : T.1 4 = 0 := by rw [← hT]; rfl
  have a2 : T.2 = s.2 := by rw [← hT]; rfl
  obtain ⟨s2, b1, b2, b3, b4, b5, b6⟩ := line0 (U := U) (S := S) hN a3 a4 a5 a28
  obtain ⟨n, rfl⟩ : ∃ n, N = n + 2 := ⟨N - 2, by omega⟩
  refine ⟨pI s2 4 (s2.1 4 + 1), ?_, by rw [← a2, ← b2]; rfl, b3, b5⟩
  show h_pass_28 U S (n + 2) (l_pass_28 U S (n + 2) (n + 1)) T = _
  unfold h_pass_28
  rw [a5, if_neg (by decide), a28, if_neg (by decide), a3, a4, if_neg (by decide), b1]
  simp only [Option.bind_some]
  show h_pass_28 U S (n + 2) (l_pass_28 U S (n + 2) n) (pI s2 4 (s2.1 4 + 1)) = _
  unfold h_pass_28 g_pass_70
  rw [show (pI s2 4 (s2.1 4 + 1)).1 5 = 0 from b5, if_neg (by decide), show (pI s2 4 (s2.1 4 + 1)).1 28 = 0 from b6, if_neg (by decide), show (pI s2 4 (s2.1 4 + 1)).1 3 = 0 from b3, show (pI s2 4 (s2.1 4 + 1)).1 4 = s2.1 4 + 1 from rfl, b4, if_pos (by decide)]
theorem as166 : ∀ (m k : Nat) (s : RS), (∀ p, p < 4096 → s.2.1 23 p = 0 ∧ s.2.1 24 p = 0) → 4096 < k + m → k ≤ 4096 → ∃ s2, l_assemble_166 U S N m 0 (nI k) s = some (0, s2) := by
  intro m
  induction m with
  | zero => intro k s _ h1 h2; omega
  | succ m ih =>
    intro k s hz h1 h2
    show ∃ s2, h_assemble_166 U S N (l_assemble_166 U S N m) 0 (nI k) s = _
    unfold h_assemble_166 g_assemble_206 g_assemble_223
    by_cases hk : k = 4096
    · subst hk
      rw [if_pos (show (4096 : Int32) ≤ nI 4096 from (leI (a := 4096) (by decide) (by decide)).mpr (Nat.le_refl _))]
      exact ⟨s, rfl⟩
    · have hlt : k < 4096 := by omega
      rw [if_neg (show ¬ (4096 : Int32) ≤ nI k from fun z => by have := (leI (a := 4096) (by decide) (by omega)).mp z; omega), rA_y (by decide) hlt, (hz k hlt).1]
      simp only [Option.bind_some]
      rw [if_neg (by decide), rA_y (by decide) hlt, (hz k hlt).2]
      simp only [Option.bind_some, if_true]
      rw [wA_y (by decide) hlt]
      simp only [Option.bind_some]
      rw [rA_y (by decide) hlt, show (pA s 25 k (-1)).2.1 25 k = -1 by show up1 s.2.1 25 (upd (s.2.1 25) k (-1)) 25 k = -1; rw [up1_s]; unfold upd; rw [if_pos rfl]]
      simp only [Option.bind_some, not_true_eq_false, if_false]
      rw [nI_1, show (0 : Int32) + 0 = 0 from rfl]
      exact ih (k + 1) _ hz (by omega) (by omega)
theorem asm0_r {s : RS} (hN : 4096 < N) (h1 : s.1 1 = 0) : ∃ s2, g_assemble U S N s = some (0, s2) := by
  obtain ⟨n, hn⟩ : ∃ n, N = n + 1 := ⟨N - 1, by omega⟩
  unfold g_assemble
  rw [h1]
  simp only [Option.bind_some]
  have e : l_assemble_15 U S N N 0 (pI (pI s 3 0) 1 0) = l_assemble_58 U S N N (nI 0) (pI (pI (pI (pI (pI s 3 0) 1 0) 5 0) 6 (-1)) 21 0) := by
    conv => lhs; rw [hn]
    show h_assemble_15 U S (n + 1) (l_assemble_15 U S (n + 1) n) 0 (pI (pI s 3 0) 1 0) = _
    unfold h_assemble_15
    rw [show (pI (pI s 3 0) 1 0).1 3 = 0 from rfl, if_pos (by decide), hn]
    rfl
  rw [e, as58 N 0 _ (by omega) (by omega), show (0 : Int32) = nI 0 from rfl, as94 N 0 _ (by omega) (by omega)]
  generalize hT : sA (cl3 (pI (pI (pI (pI (pI s 3 (nI 0)) 1 (nI 0)) 5 (nI 0)) 6 (-1)) 21 (nI 0)) 0) 26 (lo3 ((cl3 (pI (pI (pI (pI (pI s 3 (nI 0)) 1 (nI 0)) 5 (nI 0)) 6 (-1)) 21 (nI 0)) 0).2.1 26) 0) = T
  have a3 : T.1 3 = 0 := by rw [← hT]; rfl
  have a5 : T.1 5 = 0 := by rw [← hT]; rfl
  have az : ∀ p, p < 4096 → T.2.1 23 p = 0 ∧ T.2.1 24 p = 0 := by
    intro p hp
    rw [← hT]
    constructor
    · show cpF (s.2.1 23) (fun _ => 0) 0 p = 0
      unfold cpF
      rw [if_pos ⟨Nat.zero_le _, hp⟩]
    · show cpF (s.2.1 24) (fun _ => 0) 0 p = 0
      unfold cpF
      rw [if_pos ⟨Nat.zero_le _, hp⟩]
  obtain ⟨s3, b1, b2, b3, b4⟩ := pasr0 (U := U) (S := S) (N := N) (by omega) a3 a5 (Or.inl rfl : (0 : Int32) = 0 ∨ (0 : Int32) = 1)
  obtain ⟨s4, c1, c2, c3, c4⟩ := pasr0 (U := U) (S := S) (N := N) (by omega) b3 b4 (Or.inr rfl : (1 : Int32) = 0 ∨ (1 : Int32) = 1)
  unfold aft
  rw [b1]
  simp only [Option.bind_some]
  rw [b4, if_neg (not_not_intro rfl), c1]
  simp only [Option.bind_some]
  unfold g_assemble_137
  simp only [Option.bind_some]
  rw [show (pI (pI s4 7 (s4.1 5)) 8 ((pI s4 7 (s4.1 5)).1 6)).1 5 = 0 from c4, if_pos (by decide), show l_assemble_166 U S N N 0 0 = l_assemble_166 U S N N 0 (nI 0) from rfl]
  exact as166 N 0 _ (fun p hp => by
    show s4.2.1 23 p = 0 ∧ s4.2.1 24 p = 0
    rw [c2, b2]
    exact az p hp) (by omega) (by omega)
end
