/-! LAYER 3, the machine: rows of 16 in a step; the monitor's calls -/
theorem qI_qI (t : CS) (a b c : Nat) (x y : Int32) : qI (qI t a b c x) a b c y = qI t a b c y := by
  unfold qI
  dsimp only
  rw [up3_up3]
theorem k7_or {x : Int32} (h : K7 x) : W12 (x ||| 128) := by
  obtain ⟨n, hn, rfl⟩ := h
  rw [show (128 : Int32) = nI 128 from rfl, or_nI _ _ (by omega) (by decide)]
  exact ⟨_, Nat.or_lt_two_pow (n := 12) (by omega) (by decide), rfl⟩
section
variable {U S N u k : Nat} {R0 : Rf} {t : CS} {s : RS} {qs : List Nat} {T B D : Nat} {P : Nat → Nat}
theorem drop_0 {r : Nat} (h2 : t.1 6 r 2 = nI 0) : u_X6_drop U S N r t = some ((), t) := by
  unfold u_X6_drop
  rw [empty_y h2 (by decide), if_pos rfl, Option.bind_some]
  exact if_neg (show ¬ (1 : Int32) = 0 by decide)
theorem HJ_kF {R : Rf} {v w : Nat → Int32} (h : HJ U S R v w s qs T B P D) (j : Nat) {f : Nat → Int32} (hf : ∀ i, K7 (f i)) : HJ U S R v w (sG s 49 j f) qs T B P D := by
  obtain ⟨⟨a1, a2, a3, a4, a5, a6, a7, a8, a9⟩, hT, hB, hX, hS, hQ, hR, hO⟩ := h
  refine ⟨⟨a1, a2, a3, a4, a5, a6, a7, a8, ?_⟩, hT, hB, hX, hS, hQ, hR, hO⟩
  intro k i
  show K7 (up1 (s.2.2 49) j f k i)
  by_cases e : k = j
  · subst e; rw [up1_s]; exact hf i
  · rw [up1_n _ _ e]; exact a9 k i
theorem ms_dk (h : MS U S u R0 qs T B P t s) {F M : Nat} (hF : F < 16) (hM : M < 16) (e4 : ∀ i, i < M + 1 → t.2.1 6 (2 * u) 0 ((F + i) % 16) = s.2.2 49 u i) : MS U S u R0 qs T B P (qI (qI t 6 (2 * u) 1 (nI ((F + 1) % 16))) 6 (2 * u) 2 (nI M)) (sG (pA s 50 u (nI M)) 49 u (shf (s.2.2 49 u) 0 M)) := by
  obtain ⟨h1, h2, h3, h4, h5⟩ := h
  refine ⟨Sim_dropK h1 hF hM e4, h2, ?_, h4, h5⟩
  have h3' : HJ U S (up3 R0 2 0 8 none) (f17 t) (f18 t) (pA s 50 u (nI M)) qs T B P 0 := h3
  refine HJ_kF h3' u ?_
  intro i
  unfold shf
  split
  · exact h3.1.2.2.2.2.2.2.2.2 u _
  · exact h3.1.2.2.2.2.2.2.2.2 u _
/-- a letter comes behind the others -/
theorem Sim_let (H : Sim U S t s) {u : Nat} {F M : Nat} (e1 : t.1 6 (2 * u + 1) 1 = nI F) (hF : F < 16) (hM : M < 16) (e4 : ∀ i, i < M → t.2.1 6 (2 * u + 1) 0 ((F + i) % 16) = s.2.2 52 u i) (c : Int32) : Sim U S (qI (qA t 6 (2 * u + 1) 0 ((F + M) % 16) c) 6 (2 * u + 1) 2 (nI (M + 1))) (pA (pG s 52 u M c) 53 u (nI (M + 1))) := by
  refine SmG_upd H ?_ ?_ ?_ rfl rfl ?_ ?_
  · intro j hj
    have hr := SmG_q H j hj
    have ev : ring (up3 t.1 6 (2 * u + 1) 2 (nI (M + 1)) 6 (2 * j) 1) (up3 t.1 6 (2 * u + 1) 2 (nI (M + 1)) 6 (2 * j) 2) (up3 t.2.1 6 (2 * u + 1) 0 (upd (t.2.1 6 (2 * u + 1) 0) ((F + M) % 16) c) 6 (2 * j) 0) (s.2.1 50 j) (s.2.2 49 j) := by
      rw [up3_n _ _ (fun e => absurd e.2.1 (by omega)), up3_n _ _ (fun e => absurd e.2.1 (by omega)), up3_n _ _ (fun e => absurd e.2.1 (by omega))]
      exact hr.1
    refine ⟨ev, ?_⟩
    by_cases hju : j = u
    · subst hju
      have := ring_app (n := 0) (m := 0) (f := t.1 6 (2 * j + 1) 1) (a := t.2.1 6 (2 * j + 1) 0) (b := s.2.2 52 j) hF hM e1 e4 c
      show ring (up3 t.1 6 (2 * j + 1) 2 (nI (M + 1)) 6 (2 * j + 1) 1) (up3 t.1 6 (2 * j + 1) 2 (nI (M + 1)) 6 (2 * j + 1) 2) (up3 t.2.1 6 (2 * j + 1) 0 (upd (t.2.1 6 (2 * j + 1) 0) ((F + M) % 16) c) 6 (2 * j + 1) 0) (upd (s.2.1 53) j (nI (M + 1)) j) (up1 (s.2.2 52) j (upd (s.2.2 52 j) M c) j)
      rw [up3_n _ _ (fun e => absurd e.2.2 (by decide)), up3_s, up3_s, upd_y, up1_s]
      exact this
    · show ring (up3 t.1 6 (2 * u + 1) 2 (nI (M + 1)) 6 (2 * j + 1) 1) (up3 t.1 6 (2 * u + 1) 2 (nI (M + 1)) 6 (2 * j + 1) 2) (up3 t.2.1 6 (2 * u + 1) 0 _ 6 (2 * j + 1) 0) (upd (s.2.1 53) u (nI (M + 1)) j) (up1 (s.2.2 52) u _ j)
      rw [up3_n _ _ (fun e => absurd e.2.1 (by omega)), up3_n _ _ (fun e => absurd e.2.1 (by omega)), up3_n _ _ (fun e => absurd e.2.1 (by omega)), upd_n _ _ hju, up1_n _ _ hju]
      exact hr.2
  · intro ci j k hc
    show up3 t.1 6 _ _ _ ci j k = _
    rw [up3_n _ _ (fun e => hc e.1)]
  · intro ci j k hc
    show up3 t.2.1 6 _ _ _ ci j k = _
    rw [up3_n _ _ (fun e => hc e.1)]
  · intro k h1 h2
    show up1 s.2.1 53 _ k = _
    rw [up1_n _ _ h2]
  · intro k h1 h2
    show up1 s.2.2 52 _ k = _
    rw [up1_n _ _ h2]
theorem ms_le (h : MS U S u R0 qs T B P t s) {F M : Nat} (e1 : t.1 6 (2 * u + 1) 1 = nI F) (hF : F < 16) (hM : M < 16) (e4 : ∀ i, i < M → t.2.1 6 (2 * u + 1) 0 ((F + i) % 16) = s.2.2 52 u i) (c : Int32) : MS U S u R0 qs T B P (qI (qA t 6 (2 * u + 1) 0 ((F + M) % 16) c) 6 (2 * u + 1) 2 (nI (M + 1))) (pA (pG s 52 u M c) 53 u (nI (M + 1))) := by
  obtain ⟨h1, h2, h3, h4, h5⟩ := h
  exact ⟨Sim_let h1 e1 hF hM e4 c, h2, h3, h4, h5⟩
/-- the reference's road through a step -/
def rest (U S N : Nat) (u : Nat) (pc2 : Int32) (g : RS → Option (Unit × RS)) (s : RS) : Option (Unit × RS) := (g_isWrong U S N s).bind fun q6 => if q6.1 = 0 then (g_mustWait U S N (nI u) q6.2).bind fun q8 => if q8.1 = 0 then (wA U q8.2 45 (nI u) pc2).bind fun μ11 => g μ11 else some ((), q8.2) else (wA U q6.2 42 (nI u) 7).bind fun μ26 => some ((), μ26)
theorem rest_ok (hU : U < 7) (hu : u < U) {pc2 : Int32} {g : RS → Option (Unit × RS)} (h1 : g_isWrong U S N s = some (0, s)) (h2 : g_mustWait U S N (nI u) s = some (0, s)) : rest U S N u pc2 g s = g (pA s 45 u pc2) := by
  unfold rest
  rw [h1, Option.bind_some, if_pos rfl, h2, Option.bind_some, if_pos rfl, wA_y (by omega) hu, Option.bind_some]
theorem rest_wr (hU : U < 7) (hu : u < U) {pc2 : Int32} {g : RS → Option (Unit × RS)} (h1 : g_isWrong U S N s = some (1, s)) : rest U S N u pc2 g s = some ((), pA s 42 u 7) := by
  unfold rest
  rw [h1, Option.bind_some, if_neg (show ¬ (1 : Int32) = 0 by decide), wA_y (by omega) hu, Option.bind_some]
theorem rest_wt {pc2 : Int32} {g : RS → Option (Unit × RS)} {s2 : RS} (h1 : g_isWrong U S N s = some (0, s)) (h2 : g_mustWait U S N (nI u) s = some (1, s2)) : rest U S N u pc2 g s = some ((), s2) := by
  unfold rest
  rw [h1, Option.bind_some, if_pos rfl, h2, Option.bind_some, if_neg (show ¬ (1 : Int32) = 0 by decide)]
/-- class: back to where it stood, in another state -/
theorem wait_c {p y x : Int32} (hp : t.1 10 u 9 = p) (h31 : t.1 3 0 1 = p) : u_X3_waitFor U S N (some u) x (qI t 10 u 9 y) = some (0, qI t 10 u 8 x) := by
  unfold u_X3_waitFor
  rw [Option.bind_some, Option.bind_some, Option.bind_some, show (qI t 10 u 9 y).1 3 0 1 = p from h31, qI_qI, qI_id t hp]
  rfl
theorem wrong_c {p y : Int32} (hp : t.1 10 u 9 = p) (h31 : t.1 3 0 1 = p) : u_X3_goWrong U S N (some u) (qI t 10 u 9 y) = some (0, qI t 10 u 8 7) := by
  unfold u_X3_goWrong
  rw [Option.bind_some, Option.bind_some, Option.bind_some, show (qI t 10 u 9 y).1 3 0 1 = p from h31, qI_qI, qI_id t hp]
  rfl
theorem so_1 {c : Option (Int32 × CS)} {g : Option (Unit × RS)} {t1 : CS} {s1 : RS} (h1 : c = some (1, t1)) (h2 : g = g_step_139 U S N (nI u) 1 s1) (hU : U < 7) (hu : u < U) (h : MS U S u R0 qs T B P t1 s1) : SO U S R0 qs T B P u c g := ⟨1, t1, s1, h1, Or.inr ⟨rfl, by rw [h2, s139_1 hU hu]⟩, ms_f h⟩
theorem so_0 {c : Option (Int32 × CS)} {g : Option (Unit × RS)} {t1 : CS} {s1 : RS} (h1 : c = some (0, t1)) (h2 : g = some ((), s1)) (h : MS U S u R0 qs T B P t1 s1) : SO U S R0 qs T B P u c g := ⟨0, t1, s1, h1, Or.inl ⟨rfl, h2⟩, ms_f h⟩
def dev (U S N u : Nat) (s : RS) : Option (Unit × RS) := (g_device U S N (nI u) s).bind fun q21 => g_step_139 U S N (nI u) q21.1 q21.2
def cal (U S N u : Nat) (v : Int32) (t : CS) : Option (Int32 × CS) := (u_X3_callMonitor U S N (some u) v t).bind fun q13 => cZ q13.1 q13.2
theorem dev_1 {s1 : RS} (h : g_device U S N (nI u) s = some (1, s1)) : dev U S N u s = g_step_139 U S N (nI u) 1 s1 := by
  unfold dev
  rw [h, Option.bind_some]
theorem cal_1 {v : Int32} {t1 : CS} (h : u_X3_callMonitor U S N (some u) v t = some (1, t1)) : cal U S N u v t = some (1, t1) := by
  unfold cal
  rw [h, Option.bind_some]
  rfl
theorem cal_0 {v : Int32} {t1 : CS} (h : u_X3_callMonitor U S N (some u) v t = some (0, t1)) : cal U S N u v t = some (0, t1) := by
  unfold cal
  rw [h, Option.bind_some]
  rfl
end
