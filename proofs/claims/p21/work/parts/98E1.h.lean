/-! LAYER 3, the machine: one user's registers and core; memory reference -/
def MS (U S u : Nat) (R0 : Rf) (qs : List Nat) (T B : Nat) (P : Nat → Nat) (t : CS) (s : RS) : Prop := Sim U S t s ∧ isQ U t s qs ∧ HJ U S (up3 R0 2 0 8 none) (f17 t) (f18 t) s qs T B P 0 ∧ t.2.2.2.1 = R0 ∧ s.2.1 42 u ≠ 5
section
variable {U S N u k : Nat} {R0 : Rf} {t : CS} {s : RS} {qs : List Nat} {T B : Nat} {P : Nat → Nat}
theorem ms_pc (h : MS U S u R0 qs T B P t s) {x : Int32} (hx : W12 x) : MS U S u R0 qs T B P (qI t 10 u 9 x) (pA s 45 u x) := by
  obtain ⟨h1, h2, h3, h4, h5⟩ := h
  refine ⟨Sim_U h1 (q := (9, 45)) (by decide) u x, h2, ?_, h4, h5⟩
  rw [f17_n _ _ _ (by decide), f18_n _ _ _ (by decide)]
  exact HJ_pc h3 u hx
theorem ms_ac (h : MS U S u R0 qs T B P t s) {x : Int32} (hx : W12 x) : MS U S u R0 qs T B P (qI t 10 u 10 x) (pA s 43 u x) := by
  obtain ⟨h1, h2, h3, h4, h5⟩ := h
  refine ⟨Sim_U h1 (q := (10, 43)) (by decide) u x, h2, ?_, h4, h5⟩
  rw [f17_n _ _ _ (by decide), f18_n _ _ _ (by decide)]
  exact HJ_ac h3 u hx h5
theorem ms_mq (h : MS U S u R0 qs T B P t s) {x : Int32} (hx : W12 x) : MS U S u R0 qs T B P (qI t 10 u 12 x) (pA s 44 u x) := by
  obtain ⟨h1, h2, h3, h4, h5⟩ := h
  refine ⟨Sim_U h1 (q := (12, 44)) (by decide) u x, h2, ?_, h4, h5⟩
  rw [f17_n _ _ _ (by decide), f18_n _ _ _ (by decide)]
  exact HJ_mq h3 u hx h5
theorem ms_lk (h : MS U S u R0 qs T B P t s) {x : Int32} (hx : bit x) : MS U S u R0 qs T B P (qI t 10 u 11 x) (pA s 46 u x) := by
  obtain ⟨h1, h2, h3, h4, h5⟩ := h
  refine ⟨Sim_U h1 (q := (11, 46)) (by decide) u x, h2, ?_, h4, h5⟩
  rw [f17_n _ _ _ (by decide), f18_n _ _ _ (by decide)]
  exact HJ_lk h3 u hx
theorem ms_wk (h : MS U S u R0 qs T B P t s) (x : Int32) : MS U S u R0 qs T B P (qI t 10 u 16 x) (pA s 57 u x) := by
  obtain ⟨h1, h2, h3, h4, h5⟩ := h
  refine ⟨Sim_U h1 (q := (16, 57)) (by decide) u x, h2, ?_, h4, h5⟩
  rw [f17_n _ _ _ (by decide), f18_n _ _ _ (by decide)]
  exact h3
theorem ms_st (h : MS U S u R0 qs T B P t s) (hq : u ∉ qs) {x : Int32} (hx : x ≠ 5) : MS U S u R0 qs T B P (qI t 10 u 8 x) (pA s 42 u x) := by
  obtain ⟨h1, h2, h3, h4, h5⟩ := h
  refine ⟨Sim_U h1 (q := (8, 42)) (by decide) u x, h2, ?_, h4, ?_⟩
  · rw [f17_n _ _ _ (by decide), f18_n _ _ _ (by decide)]
    exact HJ_st h3 u (fun _ => h5) hx (fun z => absurd z hq) (fun z => by cases z)
  · show upd (s.2.1 42) u x u ≠ 5
    rw [upd_y]
    exact hx
theorem ms_co (h : MS U S u R0 qs T B P t s) (hu : u < U) (hk : k < S) (ho : R0 10 u 19 = some k) (a : Nat) {x : Int32} (hx : W12 x) : MS U S u R0 qs T B P (qI (qA t 8 k 1 a x) 8 k 3 1) (pA (pG s 35 k a x) 39 k 1) := by
  obtain ⟨h1, h2, h3, h4, h5⟩ := h
  exact ⟨Sim_S (Sim_C h1 (q := (8, 1, 35)) (by decide) k a x) (q := (3, 39)) (by decide) k 1, h2, HJ_f39 (HJ_core h3 k a hx) 1 (HJ_own h3 hu hk ho), h4, h5⟩
theorem ms_78 (h : MS U S u R0 qs T B P t s) (x : Int32) : MS U S u R0 qs T B P t (pI s 78 x) := by
  obtain ⟨h1, h2, h3, h4, h5⟩ := h
  obtain ⟨hA, hSs, hB, hC, hR, hL, hK, hQ, hG, hM, hT⟩ := h1
  refine ⟨⟨hA, hSs, ?_, hC, hR, hL, hK, hQ, hG, hM, hT⟩, h2, h3, h4, h5⟩
  intro p hp
  simp only [mB, List.mem_cons, List.not_mem_nil, or_false] at hp
  rcases hp with rfl | rfl | rfl | rfl | rfl | rfl | rfl | rfl | rfl | rfl | rfl | rfl <;> exact hB _ (by decide)
theorem ms_3 (h : MS U S u R0 qs T B P t s) (c : Nat) (x : Int32) : MS U S u R0 qs T B P (qI t 3 0 c x) s := by
  obtain ⟨h1, h2, h3, h4, h5⟩ := h
  obtain ⟨hA, hSs, hB, hC, hR, hL, hK, hQ, hG, hM, hT⟩ := h1
  exact ⟨⟨hA, hSs, SmB_c hB (by decide) 0 c x, hC, hR, hL, hK, hQ, hG, hM, hT⟩, h2, h3, h4, h5⟩
theorem ms_rpc (h : MS U S u R0 qs T B P t s) : t.1 10 u 9 = s.2.1 45 u ∧ W12 (s.2.1 45 u) := ⟨h.1.1 (9, 45) (by decide) u, h.2.2.1.1.1 u⟩
theorem ms_rac (h : MS U S u R0 qs T B P t s) : t.1 10 u 10 = s.2.1 43 u ∧ W12 (s.2.1 43 u) := ⟨h.1.1 (10, 43) (by decide) u, h.2.2.1.1.2.1 u⟩
theorem ms_rmq (h : MS U S u R0 qs T B P t s) : t.1 10 u 12 = s.2.1 44 u ∧ W12 (s.2.1 44 u) := ⟨h.1.1 (12, 44) (by decide) u, h.2.2.1.1.2.2.1 u⟩
theorem ms_rsw (h : MS U S u R0 qs T B P t s) : t.1 10 u 13 = s.2.1 47 u ∧ W12 (s.2.1 47 u) := ⟨h.1.1 (13, 47) (by decide) u, h.2.2.1.1.2.2.2.1 u⟩
theorem ms_rlk (h : MS U S u R0 qs T B P t s) : t.1 10 u 11 = s.2.1 46 u ∧ bit (s.2.1 46 u) := ⟨h.1.1 (11, 46) (by decide) u, h.2.2.1.1.2.2.2.2.1 u⟩
theorem ms_rco (h : MS U S u R0 qs T B P t s) (k a : Nat) : t.2.1 8 k 1 a = s.2.2 35 k a ∧ W12 (s.2.2 35 k a) := ⟨h.1.2.2.2.1 (8, 1, 35) (by decide) k a, h.2.2.1.1.2.2.2.2.2.1 k a⟩
theorem ms_41 (h : MS U S u R0 qs T B P t s) (hu : u < U) (ho : R0 10 u 19 = some k) : s.2.1 41 u = nI k := by
  rw [(h.1.2.2.2.2.1.2.1 u hu).2.1, h.2.2.2.1, ho]
  rfl
theorem ld (hU : U < 7) (hS5 : S < 5) (hu : u < U) (hk : k < S) (h41 : s.2.1 41 u = nI k) {x : Int32} {a : Nat} (ha : a < 4096) (hx : x &&& 4095 = nI a) : g_load U S N (nI u) x s = some (s.2.2 35 k a, s) := by
  unfold g_load
  rw [rA_y (by omega) hu, h41]
  simp only [Option.bind_some]
  rw [rQ_y (by omega) hk, hx]
  simp only [Option.bind_some]
  rw [rG_y (by decide) ha]
  rfl
theorem sto (hU : U < 7) (hS5 : S < 5) (hu : u < U) (hk : k < S) (h41 : s.2.1 41 u = nI k) {x y : Int32} {a : Nat} (ha : a < 4096) (hx : x &&& 4095 = nI a) : g_store U S N (nI u) x y s = some ((), pA (pG s 35 k a (y &&& 4095)) 39 k 1) := by
  unfold g_store
  rw [rA_y (by omega) hu, h41]
  simp only [Option.bind_some]
  rw [rQ_y (by omega) hk, hx]
  simp only [Option.bind_some]
  rw [wG_y (by decide) ha]
  simp only [Option.bind_some]
  rw [rA_y (by omega) hu, show (pG s 35 k a (y &&& 4095)).2.1 41 u = nI k from h41]
  simp only [Option.bind_some]
  rw [wZ_y (by omega) hk _ _ (Or.inr rfl)]
  rfl
theorem put {x y : Int32} {a : Nat} (ha : a < 4096) (hx : x &&& 4095 = nI a) : u_X8_put U S N k x y t = some ((), qI (qA t 8 k 1 a y) 8 k 3 1) := by
  unfold u_X8_put qZ
  rw [hx, wH_y (by decide) ha]
  simp only [Option.bind_some, or_true, if_true]
theorem skp (hU : U < 7) (hu : u < U) : g_skip U S N (nI u) s = some ((), pA s 45 u ((s.2.1 45 u + 1) &&& 4095)) := by
  unfold g_skip
  rw [rA_y (by omega) hu]
  simp only [Option.bind_some]
  rw [wA_y (by omega) hu]
  rfl
theorem skc {x : Int32} (hx : x ≠ 0) : u_X3_skipIf U S N (some u) x t = some ((), qI t 10 u 9 ((t.1 10 u 9 + 1) &&& 4095)) := by
  unfold u_X3_skipIf u_X3_skipIf_18
  rw [if_neg hx]
  rfl
theorem skc0 : u_X3_skipIf U S N (some u) 0 t = some ((), t) := by
  unfold u_X3_skipIf u_X3_skipIf_18
  rw [if_pos rfl]
theorem or_0 (x : Int32) : x ||| 0 = x := by
  apply Int32.toBitVec_inj.mp
  show x.toBitVec ||| 0#32 = x.toBitVec
  simp
/-- the address that an instruction names -/
theorem al_ad (hU : U < 7) (hS5 : S < 5) (hu : u < U) (hk : k < S) (ho : R0 10 u 19 = some k) (h : MS U S u R0 qs T B P t s) {v : Int32} (hv : W12 v) (h78 : s.1 78 = v) {p : Int32} (hp : W12 p) (h31 : t.1 3 0 1 = p) (op : Int32) : ∃ a t1 s1, a < 4096 ∧ u_X3_addressOf U S N (some k) v t = some (nI a, t1) ∧ g_memory_ U S N (nI u) op p s = g_memory__78 U S N (nI u) op (nI a) s1 ∧ MS U S u R0 qs T B P t1 s1 := by
  have h41 := ms_41 h hu ho
  have key : ∀ x : Int32, W12 x → ∃ a t1 s1, a < 4096 ∧ u_X3_addressOf_24 U S N (some k) v x t = some (nI a, t1) ∧ (if (v &&& 256) = 0 then g_memory__78 U S N (nI u) op x s else (g_in U S N x 8 15 s).bind fun q2 => if q2.1 = 0 then g_memory__69 U S N (nI u) op x q2.2 else (g_load U S N (nI u) x q2.2).bind fun q3 => (g_store U S N (nI u) x (q3.1 + 1) q3.2).bind fun q5 => g_memory__69 U S N (nI u) op x q5.2) = g_memory__78 U S N (nI u) op (nI a) s1 ∧ MS U S u R0 qs T B P t1 s1 := by
    intro x hx
    obtain ⟨a, ha, rfl⟩ := hx
    have ha4 : nI a &&& 4095 = nI a := and4095 ha
    unfold u_X3_addressOf_24
    by_cases c : v &&& 256 = 0
    · rw [if_neg (not_not_intro c), if_pos c]
      exact ⟨a, t, s, ha, rfl, rfl, h⟩
    · rw [if_pos c, if_neg c, g_in_eq]
      simp only [Option.bind_some]
      have fin : ∀ (t1 : CS) (s1 : RS), MS U S u R0 qs T B P t1 s1 → ∃ b t2 s2, b < 4096 ∧ u_X3_addressOf_63 U S N (some k) (nI a) t1 = some (nI b, t2) ∧ g_memory__69 U S N (nI u) op (nI a) s1 = g_memory__78 U S N (nI u) op (nI b) s2 ∧ MS U S u R0 qs T B P t2 s2 := by
        intro t1 s1 h1
        obtain ⟨r1, b, hb, r2⟩ := ms_rco h1 k a
        unfold u_X3_addressOf_63 g_memory__69
        simp only [Option.bind_some]
        rw [rH_y (by decide) ha, ld hU hS5 hu hk (ms_41 h1 hu ho) ha ha4, r1, r2]
        simp only [Option.bind_some]
        exact ⟨b, t1, s1, hb, by rw [and4095 hb], rfl, h1⟩
      by_cases c8 : nI a < 8
      · rw [if_pos c8, if_pos c8]
        simp only [if_true]
        exact fin t s h
      · rw [if_neg c8, if_neg c8]
        by_cases c15 : 15 < nI a
        · rw [if_pos c15, if_pos c15]
          simp only [if_true]
          exact fin t s h
        · rw [if_neg c15, if_neg c15]
          simp only [o10, if_false, Option.bind_some]
          obtain ⟨r1, r2⟩ := ms_rco h k a
          rw [rH_y (by decide) ha, ld hU hS5 hu hk h41 ha ha4, r1]
          simp only [Option.bind_some]
          rw [put ha ha4, sto hU hS5 hu hk h41 ha ha4]
          simp only [Option.bind_some]
          exact fin _ _ (ms_co h hu hk ho a (w12_and _))
  unfold u_X3_addressOf g_memory_ g_memory__27
  rw [h78, h31]
  have w127 : W12 (v &&& 127) := w12_an hv _ ⟨127, by decide, rfl⟩
  by_cases c : v &&& 128 = 0
  · rw [if_pos c, if_neg (not_not_intro c), or_0]
    exact key _ w127
  · rw [if_neg c, if_pos c]
    exact key _ (w12_or w127 (w12_an hp _ ⟨3968, by decide, rfl⟩))
theorem al_mem (hU : U < 7) (hS5 : S < 5) (hu : u < U) (hk : k < S) (ho : R0 10 u 19 = some k) (h : MS U S u R0 qs T B P t s) {v : Int32} (hv : W12 v) (h78 : s.1 78 = v) {p : Int32} (hp : W12 p) (h31 : t.1 3 0 1 = p) (op : Int32) : ∃ t2 s2, u_X3_refer U S N (some u) (some k) op v t = some ((), t2) ∧ g_memory_ U S N (nI u) op p s = some ((), s2) ∧ MS U S u R0 qs T B P t2 s2 := by
  obtain ⟨a, t1, s1, ha, e1, e2, h1⟩ := al_ad (N := N) hU hS5 hu hk ho h hv h78 hp h31 op
  have h41 := ms_41 h1 hu ho
  have ha4 : nI a &&& 4095 = nI a := and4095 ha
  obtain ⟨rw1, rw2⟩ := ms_rco h1 k a
  obtain ⟨ra1, ra2⟩ := ms_rac h1
  obtain ⟨rl1, rl2⟩ := ms_rlk h1
  obtain ⟨rp1, rp2⟩ := ms_rpc h1
  unfold u_X3_refer u_X3_refer_193
  rw [e1, e2]
  unfold g_memory__78 g_memory__279
  simp only [Option.bind_some]
  by_cases c0 : op = 0
  · rw [if_pos c0, if_pos c0, rH_y (by decide) ha, rA_y (by omega) hu, ld hU hS5 hu hk h41 ha ha4, rw1, ra1]
    simp only [Option.bind_some]
    rw [wA_y (by omega) hu]
    exact ⟨_, _, rfl, rfl, ms_ac h1 (w12_aw ra2 rw2)⟩
  rw [if_neg c0, if_neg c0]
  by_cases c1 : op = 1
  · rw [if_pos c1, if_pos c1, rH_y (by decide) ha, rA_y (by omega) hu, ld hU hS5 hu hk h41 ha ha4, rw1, ra1]
    simp only [Option.bind_some]
    rw [show (qI t1 10 u 10 ((s1.2.1 43 u + s1.2.2 35 k a) &&& 4095)).1 10 u 11 = s1.2.1 46 u by show up3 _ 10 u 10 _ 10 u 11 = _; rw [up3_n _ _ (fun e => absurd e.2.2 (by decide))]; exact rl1]
    obtain ⟨x, hx, ex⟩ := ra2
    obtain ⟨y, hy, ey⟩ := rw2
    rw [ex, ey, nI_add, show (12 : Int32) &&& 31 = nI 12 &&& 31 from rfl, shr_nI (by omega) (by decide)]
    unfold g_memory__169 g_memory__279
    by_cases cs : x + y ≤ 4095
    · rw [if_pos (show nI (x + y) ≤ (4095 : Int32) from (leI (b := 4095) (by omega) (by decide)).mpr cs), wA_y (by omega) hu, show (x + y) / 2 ^ 12 = 0 by omega, show nI 0 = 0 from rfl, bit_x0 rl2]
      refine ⟨_, _, rfl, rfl, ?_⟩
      rw [qI_id _ (show (qI t1 10 u 10 (nI (x + y) &&& 4095)).1 10 u 11 = s1.2.1 46 u by show up3 _ 10 u 10 _ 10 u 11 = _; rw [up3_n _ _ (fun e => absurd e.2.2 (by decide))]; exact rl1)]
      exact ms_ac h1 (w12_and _)
    · rw [if_neg (show ¬ nI (x + y) ≤ (4095 : Int32) from fun z => cs ((leI (b := 4095) (by omega) (by decide)).mp z)), rA_y (by omega) hu]
      simp only [Option.bind_some]
      rw [wA_y (by omega) hu]
      simp only [Option.bind_some]
      rw [wA_y (by omega) hu, show (x + y) / 2 ^ 12 = 1 by omega, show nI 1 = 1 from rfl, bit_x rl2]
      refine ⟨_, _, rfl, rfl, ?_⟩
      rw [pA_comm _ (show (46 : Nat) ≠ 43 by decide)]
      exact ms_lk (ms_ac h1 (w12_and _)) (bit_1 rl2)
  rw [if_neg c1, if_neg c1]
  by_cases c2 : op = 2
  · rw [if_pos c2, if_pos c2, rH_y (by decide) ha, ld hU hS5 hu hk h41 ha ha4, rw1]
    simp only [Option.bind_some]
    rw [put ha ha4, sto hU hS5 hu hk h41 ha ha4]
    simp only [Option.bind_some]
    have h2 := ms_co h1 hu hk ho a (w12_and (s1.2.2 35 k a + 1))
    rw [ld hU hS5 hu hk (ms_41 h2 hu ho) ha ha4]
    simp only [Option.bind_some]
    rw [show (pA (pG s1 35 k a (s1.2.2 35 k a + 1 &&& 4095)) 39 k 1).2.2 35 k a = (s1.2.2 35 k a + 1) &&& 4095 by show up1 (s1.2.2 35) k (upd (s1.2.2 35 k) a _) k a = _; rw [up1_s, upd_y]]
    unfold u_X3_refer_138 u_X3_refer_193
    by_cases cz : (s1.2.2 35 k a + 1) &&& 4095 = 0
    · rw [if_neg (not_not_intro cz), if_neg (not_not_intro cz), skc (by decide), skp hU hu]
      obtain ⟨q1, q2⟩ := ms_rpc h2
      rw [q1]
      exact ⟨_, _, rfl, rfl, ms_pc h2 (w12_and _)⟩
    · rw [if_pos cz, if_pos cz, skc0]
      exact ⟨_, _, rfl, rfl, h2⟩
  rw [if_neg c2, if_neg c2]
  by_cases c3 : op = 3
  · rw [if_pos c3, if_pos c3, rA_y (by omega) hu, ra1]
    simp only [Option.bind_some]
    rw [put ha ha4, sto hU hS5 hu hk h41 ha ha4, w12_id ra2]
    simp only [Option.bind_some]
    rw [wA_y (by omega) hu]
    exact ⟨_, _, rfl, rfl, ms_ac (ms_co h1 hu hk ho a ra2) w12_0⟩
  rw [if_neg c3, if_neg c3]
  by_cases c4 : op = 4
  · rw [if_pos c4, if_pos c4, rA_y (by omega) hu, rp1]
    simp only [Option.bind_some]
    rw [put ha ha4, sto hU hS5 hu hk h41 ha ha4, w12_id rp2]
    simp only [Option.bind_some]
    rw [wA_y (by omega) hu]
    exact ⟨_, _, rfl, rfl, ms_pc (ms_co h1 hu hk ho a rp2) (w12_and _)⟩
  rw [if_neg c4, if_neg c4, wA_y (by omega) hu]
  exact ⟨_, _, rfl, rfl, ms_pc h1 (w12_n ha)⟩
end
