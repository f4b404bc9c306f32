/-! LAYER 3, feed and end: alike -/
theorem mB_inj {p q : Nat × Nat × Nat} (hp : p ∈ mB) (hq : q ∈ mB) : (p.1 = q.1 ∧ p.2.1 = q.2.1) ↔ p.2.2 = q.2.2 := by
  have h : ∀ p, p ∈ mB → ∀ q, q ∈ mB → ((p.1 = q.1 ∧ p.2.1 = q.2.1) ↔ p.2.2 = q.2.2) := by decide
  exact h p hp q hq
theorem mU_inj {p q : Nat × Nat} (hp : p ∈ mU) (hq : q ∈ mU) : p.1 = q.1 ↔ p.2 = q.2 := by
  have h : ∀ p, p ∈ mU → ∀ q, q ∈ mU → (p.1 = q.1 ↔ p.2 = q.2) := by decide
  exact h p hp q hq
theorem mS_inj {p q : Nat × Nat} (hp : p ∈ mS) (hq : q ∈ mS) : p.1 = q.1 ↔ p.2 = q.2 := by
  have h : ∀ p, p ∈ mS → ∀ q, q ∈ mS → (p.1 = q.1 ↔ p.2 = q.2) := by decide
  exact h p hp q hq
theorem mC_inj {p q : Nat × Nat × Nat} (hp : p ∈ mC) (hq : q ∈ mC) : (p.1 = q.1 ∧ p.2.1 = q.2.1) ↔ p.2.2 = q.2.2 := by
  have h : ∀ p, p ∈ mC → ∀ q, q ∈ mC → ((p.1 = q.1 ∧ p.2.1 = q.2.1) ↔ p.2.2 = q.2.2) := by decide
  exact h p hp q hq
theorem SmB_w {t : CS} {s : RS} (H : SmB t s) {q : Nat × Nat × Nat} (hq : q ∈ mB) (x : Int32) : SmB (qI t q.1 0 q.2.1 x) (pI s q.2.2 x) := by
  intro p hp
  show up3 t.1 q.1 0 q.2.1 x p.1 0 p.2.1 = up1 s.1 q.2.2 x p.2.2
  by_cases h : p.2.2 = q.2.2
  · have := (mB_inj hp hq).mpr h
    rw [h, this.1, this.2, up3_s, up1_s]
  · rw [up1_n _ _ h, up3_n _ _ (fun e => h ((mB_inj hp hq).mp ⟨e.1, e.2.2⟩)), H p hp]
theorem SmA_w {t : CS} {s : RS} (H : SmA t s) {q : Nat × Nat} (hq : q ∈ mU) (u : Nat) (x : Int32) : SmA (qI t 10 u q.1 x) (pA s q.2 u x) := by
  intro p hp j
  show up3 t.1 10 u q.1 x 10 j p.1 = up1 s.2.1 q.2 (upd (s.2.1 q.2) u x) p.2 j
  by_cases h : p.2 = q.2
  · have h1 := (mU_inj hp hq).mpr h
    rw [h, h1, up1_s]
    unfold up3 upd
    by_cases hj : j = u
    · rw [if_pos ⟨rfl, hj, rfl⟩, if_pos hj]
    · rw [if_neg (fun e => hj e.2.1), if_neg hj, ← h, ← h1, H p hp j]
  · rw [up1_n _ _ h, up3_n _ _ (fun e => h ((mU_inj hp hq).mp e.2.2)), H p hp j]
theorem SmS_w {t : CS} {s : RS} (H : SmS t s) {q : Nat × Nat} (hq : q ∈ mS) (u : Nat) (x : Int32) : SmS (qI t 8 u q.1 x) (pA s q.2 u x) := by
  intro p hp j
  show up3 t.1 8 u q.1 x 8 j p.1 = up1 s.2.1 q.2 (upd (s.2.1 q.2) u x) p.2 j
  by_cases h : p.2 = q.2
  · have h1 := (mS_inj hp hq).mpr h
    rw [h, h1, up1_s]
    unfold up3 upd
    by_cases hj : j = u
    · rw [if_pos ⟨rfl, hj, rfl⟩, if_pos hj]
    · rw [if_neg (fun e => hj e.2.1), if_neg hj, ← h, ← h1, H p hp j]
  · rw [up1_n _ _ h, up3_n _ _ (fun e => h ((mS_inj hp hq).mp e.2.2)), H p hp j]
theorem SmC_w {t : CS} {s : RS} (H : SmC t s) {q : Nat × Nat × Nat} (hq : q ∈ mC) (u i : Nat) (x : Int32) : SmC (qA t q.1 u q.2.1 i x) (pG s q.2.2 u i x) := by
  intro p hp j m
  show up3 t.2.1 q.1 u q.2.1 (upd (t.2.1 q.1 u q.2.1) i x) p.1 j p.2.1 m = up1 s.2.2 q.2.2 (up1 (s.2.2 q.2.2) u (upd (s.2.2 q.2.2 u) i x)) p.2.2 j m
  by_cases h : p.2.2 = q.2.2
  · have h1 := (mC_inj hp hq).mpr h
    rw [h, h1.1, h1.2, up1_s]
    by_cases hj : j = u
    · rw [hj, up3_s, up1_s]
      unfold upd
      by_cases hm : m = i
      · rw [if_pos hm, if_pos hm]
      · rw [if_neg hm, if_neg hm, ← h, ← h1.1, ← h1.2, H p hp u m]
    · rw [up1_n _ _ hj, up3_n _ _ (fun e => hj e.2.1), ← h, ← h1.1, ← h1.2, H p hp j m]
  · rw [up1_n _ _ h, up3_n _ _ (fun e => h ((mC_inj hp hq).mp ⟨e.1, e.2.2⟩)), H p hp j m]
/-- a byte on the tape -/
def twC (t : CS) (n : Nat) (b : Int32) : CS := qI (qA t 11 0 0 n b) 11 0 1 (nI (n + 1))
def twR (s : RS) (n : Nat) (b : Int32) : RS := pI (pA s 0 n b) 1 (nI (n + 1))
section
variable {U S N : Nat} {t : CS} {s : RS}
theorem Sim_tape {t2 : CS} {s2 : RS} (H : Sim U S t s) (hB : SmB t2 s2) (hT : SmT t2 s2) (f1 : ∀ ci j k, ci ≠ 11 → t2.1 ci j k = t.1 ci j k) (f2 : ∀ ci j k, ci ≠ 11 → t2.2.1 ci j k = t.2.1 ci j k) (f3 : t2.2.2 = t.2.2) (f4 : ∀ k, k ≠ 1 → s2.1 k = s.1 k) (f5 : ∀ k, k ≠ 0 → s2.2.1 k = s.2.1 k) (f6 : s2.2.2 = s.2.2) : Sim U S t2 s2 := by
  obtain ⟨hA, hSs, hB0, hC, hR, hL, hK, hQ, hG, hM, hT0⟩ := H
  have e3 : t2.2.2.2.1 = t.2.2.2.1 := by rw [f3]
  have e4 : t2.2.2.2.2 = t.2.2.2.2 := by rw [f3]
  refine ⟨?_, ?_, hB, ?_, ?_, ?_, ?_, ?_, ?_, ?_, hT⟩
  · intro p hp j
    have hne : p.2 ≠ 0 := by
      have : ∀ p, p ∈ mU → p.2 ≠ 0 := by decide
      exact this p hp
    rw [f1 _ _ _ (by decide), f5 _ hne, hA p hp j]
  · intro p hp j
    have hne : p.2 ≠ 0 := by
      have : ∀ p, p ∈ mS → p.2 ≠ 0 := by decide
      exact this p hp
    rw [f1 _ _ _ (by decide), f5 _ hne, hSs p hp j]
  · intro p hp j i
    have hne : p.1 ≠ 11 := by
      have : ∀ p, p ∈ mC → p.1 ≠ 11 := by decide
      exact this p hp
    rw [f2 _ _ _ hne, f6, hC p hp j i]
  · unfold SmR
    rw [f4 31 (by decide), f4 32 (by decide), f4 64 (by decide), f5 41 (by decide), f5 38 (by decide), e3]
    refine ⟨hR.1, fun j hj => ?_, fun j hj => ?_, hR.2.2.2⟩
    · rw [f1 _ _ _ (by decide)]; exact hR.2.1 j hj
    · rw [f1 _ _ _ (by decide)]; exact hR.2.2.1 j hj
  · unfold SmL
    rw [f4 65 (by decide), f1 _ _ _ (by decide), e3]
    exact hL
  · unfold SmK
    rw [f4 67 (by decide), f4 68 (by decide), f4 69 (by decide), f4 70 (by decide), f1 _ _ _ (by decide), e3]
    exact hK
  · unfold SmQ isQ
    rw [f4 63 (by decide), f5 62 (by decide), e4]
    exact hQ
  · intro j hj
    rw [f1 _ _ _ (by decide), f1 _ _ _ (by decide), f1 _ _ _ (by decide), f1 _ _ _ (by decide), f2 _ _ _ (by decide), f2 _ _ _ (by decide), f5 50 (by decide), f5 53 (by decide), f6]
    exact hG j hj
  · unfold SmM
    rw [e3, f5 25 (by decide)]
    obtain ⟨i, h1, h2, h3, h4⟩ := hM
    exact ⟨i, h1, h2, h3, fun p hp => by rw [f2 _ _ _ (by decide)]; exact h4 p hp⟩
theorem Sim_tw (H : Sim U S t s) {n : Nat} (hn : n < 2000) (h1 : s.1 1 = nI n) (b : Int32) : Sim U S (twC t n b) (twR s n b) := by
  have hB := H.2.2.1
  obtain ⟨m, hm, e1, e2⟩ := H.2.2.2.2.2.2.2.2.2.2
  have hmn : m = n := by rw [h1] at e1; exact ((eqI (by omega) (by omega)).mp e1).symm
  subst hmn
  refine Sim_tape H ?_ ?_ ?_ ?_ rfl ?_ ?_ rfl
  · have : SmB (qA t 11 0 0 m b) (pA s 0 m b) := hB
    exact SmB_w this (q := (11, 1, 1)) (by decide) (nI (m + 1))
  · refine ⟨m + 1, by omega, ?_, fun i hi => ?_⟩
    · show up1 s.1 1 (nI (m + 1)) 1 = _
      rw [up1_s]
    · show up3 t.2.1 11 0 0 (upd (t.2.1 11 0 0) m b) 11 0 0 i = up1 s.2.1 0 (upd (s.2.1 0) m b) 0 i
      rw [up3_s, up1_s]
      unfold upd
      by_cases h : i = m
      · rw [if_pos h, if_pos h]
      · rw [if_neg h, if_neg h, e2 i (by omega)]
  · intro ci j k h
    show up3 _ 11 0 1 _ ci j k = _
    rw [up3_n _ _ (fun e => h e.1)]
    rfl
  · intro ci j k h
    show up3 _ 11 0 0 _ ci j k = _
    rw [up3_n _ _ (fun e => h e.1)]
  · intro k h
    show up1 _ 1 _ k = _
    rw [up1_n _ _ h]
    rfl
  · intro k h
    show up1 _ 0 _ k = _
    rw [up1_n _ _ h]
theorem bv_sh (y : BitVec 32) (n : Nat) (hn : n ≤ 24) : (y >>> n) &&& 255#32 = (y.sshiftRight n) &&& 255#32 := by
  apply BitVec.eq_of_getLsbD_eq
  intro i hi
  rw [BitVec.getLsbD_and, BitVec.getLsbD_and, BitVec.getLsbD_ushiftRight, BitVec.getLsbD_sshiftRight]
  by_cases h8 : i < 8
  · have h1 : ¬ 32 ≤ i := by omega
    have h2 : n + i < 32 := by omega
    simp [h1, h2]
  · have : (255#32).getLsbD i = false := by
      rw [show (255#32 : BitVec 32) = BitVec.ofNat 32 (2 ^ 8 - 1) from rfl, BitVec.getLsbD_ofNat]
      rw [Nat.testBit_two_pow_sub_one]
      simp [h8]
    rw [this, Bool.and_false, Bool.and_false]
theorem shr_eq (x : Int32) (n : Nat) (hn : n = 24 ∨ n = 16 ∨ n = 8 ∨ n = 0) : (((x.toUInt32 >>> ((nI n).toUInt32 &&& Int32.toUInt32 31)).toInt32) &&& 255) = ((x >>> (nI n &&& 31)) &&& 255) := by
  apply Int32.toBitVec_inj.mp
  rcases hn with rfl | rfl | rfl | rfl
  · exact bv_sh x.toBitVec 24 (by decide)
  · exact bv_sh x.toBitVec 16 (by decide)
  · exact bv_sh x.toBitVec 8 (by decide)
  · exact bv_sh x.toBitVec 0 (by decide)
theorem fd1_c {n m : Nat} (hn : n < 2000) (h : t.1 11 0 1 = nI n) (hm : m < 100) (k : Int32 → Int32 → CS → Option (Unit × CS)) (a1 : Int32) : uh_X11_feedFour_3 U S N k a1 (nI m) t = k a1 (nI m + (-8)) (twC t n (((a1.toUInt32 >>> ((nI m).toUInt32 &&& Int32.toUInt32 31)).toInt32) &&& 255)) := by
  unfold uh_X11_feedFour_3
  rw [if_neg (nI_nn (by omega)), h, if_neg (show ¬ (2000 : Int32) ≤ nI n from fun z => by have := (leI (a := 2000) (by decide) (by omega)).mp z; omega), wH_y (by decide) hn]
  simp only [Option.bind_some]
  rw [show (qA t 11 0 0 n (((a1.toUInt32 >>> ((nI m).toUInt32 &&& Int32.toUInt32 31)).toInt32) &&& 255)).1 11 0 1 = nI n from h, nI_1]
  rfl
theorem fd1_r {n m : Nat} (hn : n < 2000) (h : s.1 1 = nI n) (hm : m < 100) (k : Int32 → Int32 → RS → Option (Unit × RS)) (a1 : Int32) : h_put_3 U S N k a1 (nI m) s = k a1 (nI m + (-8)) (twR s n ((a1 >>> (nI m &&& 31)) &&& 255)) := by
  unfold h_put_3
  rw [if_neg (nI_nn (by omega)), h, wA_y (by decide) hn]
  simp only [Option.bind_some]
  rw [show (pA s 0 n ((a1 >>> (nI m &&& 31)) &&& 255)).1 1 = nI n from h, nI_1]
  rfl
/-- what a row of writings to the tape keeps -/
def TwK (P : CS → RS → Prop) : Prop := ∀ t s n b, P t s → P (twC t n b) (twR s n b)
theorem fd4 (hN : 10 < N) (H : Sim U S t s) {n : Nat} (hn : n + 4 ≤ 2000) (h1 : s.1 1 = nI n) (a1 : Int32) : ∃ t2 s2, u_X11_feedFour U S N a1 t = some ((), t2) ∧ g_put U S N a1 s = some ((), s2) ∧ Sim U S t2 s2 ∧ s2.1 1 = nI (n + 4) ∧ ∀ P, TwK P → P t s → P t2 s2 := by
  obtain ⟨M, rfl⟩ : ∃ M, N = M + 5 := ⟨N - 5, by omega⟩
  have ht : t.1 11 0 1 = nI n := by rw [H.2.2.1 (11, 1, 1) (by decide)]; exact h1
  unfold u_X11_feedFour g_put
  have st : ∀ (m n : Nat) (t : CS) (s : RS), (m = 24 ∨ m = 16 ∨ m = 8 ∨ m = 0) → n < 2000 → Sim U S t s → s.1 1 = nI n → ∃ t2 s2, (∀ k : Int32 → Int32 → CS → Option (Unit × CS), uh_X11_feedFour_3 U S (M + 5) k a1 (nI m) t = k a1 (nI m + (-8)) t2) ∧ (∀ k : Int32 → Int32 → RS → Option (Unit × RS), h_put_3 U S (M + 5) k a1 (nI m) s = k a1 (nI m + (-8)) s2) ∧ Sim U S t2 s2 ∧ s2.1 1 = nI (n + 1) ∧ ∀ P, TwK P → P t s → P t2 s2 := by
    intro m n t s hm hn H h1
    have ht : t.1 11 0 1 = nI n := by rw [H.2.2.1 (11, 1, 1) (by decide)]; exact h1
    refine ⟨_, _, fun k => fd1_c hn ht (by omega) k a1, fun k => fd1_r hn h1 (by omega) k a1, ?_, ?_, ?_⟩
    · rw [shr_eq a1 m hm]; exact Sim_tw H hn h1 _
    · rfl
    · intro P hP h
      rw [shr_eq a1 m hm]
      exact hP _ _ _ _ h
  obtain ⟨t1, s1, c1, r1, H1, n1, P1⟩ := st 24 n t s (by simp) (by omega) H h1
  obtain ⟨t2, s2, c2, r2, H2, n2, P2⟩ := st 16 (n + 1) t1 s1 (by simp) (by omega) H1 n1
  obtain ⟨t3, s3, c3, r3, H3, n3, P3⟩ := st 8 (n + 1 + 1) t2 s2 (by simp) (by omega) H2 n2
  obtain ⟨t4, s4, c4, r4, H4, n4, P4⟩ := st 0 (n + 1 + 1 + 1) t3 s3 (by simp) (by omega) H3 n3
  refine ⟨t4, s4, ?_, ?_, H4, n4, fun P hP h => P4 P hP (P3 P hP (P2 P hP (P1 P hP h)))⟩
  · refine Eq.trans (c1 _) ?_
    refine Eq.trans (c2 _) ?_
    refine Eq.trans (c3 _) ?_
    refine Eq.trans (c4 _) ?_
    rfl
  · refine Eq.trans (r1 _) ?_
    refine Eq.trans (r2 _) ?_
    refine Eq.trans (r3 _) ?_
    refine Eq.trans (r4 _) ?_
    rfl
theorem al_feed (hN : 10 < N) (H : Sim U S t s) (x1 x2 x3 x4 x5 : Int32) : ∃ x t2 s2, u_X11_feed U S N x1 x2 x3 x4 x5 t = some (x, t2) ∧ g_feed U S N x1 x2 x3 x4 x5 s = some (x, s2) ∧ Sim U S t2 s2 ∧ ∀ P, TwK P → P t s → P t2 s2 := by
  obtain ⟨n, hn, h1, h2⟩ := H.2.2.2.2.2.2.2.2.2.2
  have ht : t.1 11 0 1 = nI n := by rw [H.2.2.1 (11, 1, 1) (by decide)]; exact h1
  unfold u_X11_feed g_feed
  rw [ht, h1, show nI n + 20 = nI (n + 20) from nI_add n 20]
  by_cases hc : n + 20 ≤ 2000
  · rw [if_pos (show nI (n + 20) ≤ (2000 : Int32) from (leI (b := 2000) (by omega) (by decide)).mpr hc), if_pos (show nI (n + 20) ≤ (2000 : Int32) from (leI (b := 2000) (by omega) (by decide)).mpr hc)]
    obtain ⟨t1, s1, c1, r1, H1, n1, P1⟩ := fd4 hN H (n := n) (by omega) h1 x1
    obtain ⟨t2, s2, c2, r2, H2, n2, P2⟩ := fd4 hN H1 (n := n + 4) (by omega) n1 x2
    obtain ⟨t3, s3, c3, r3, H3, n3, P3⟩ := fd4 hN H2 (n := n + 4 + 4) (by omega) n2 x3
    obtain ⟨t4, s4, c4, r4, H4, n4, P4⟩ := fd4 hN H3 (n := n + 4 + 4 + 4) (by omega) n3 x4
    obtain ⟨t5, s5, c5, r5, H5, n5, P5⟩ := fd4 hN H4 (n := n + 4 + 4 + 4 + 4) (by omega) n4 x5
    simp only [c1, c2, c3, c4, c5, r1, r2, r3, r4, r5, Option.bind_some]
    refine ⟨_, t5, s5, rfl, ?_, H5, fun P hP h => P5 P hP (P4 P hP (P3 P hP (P2 P hP (P1 P hP h))))⟩
    rw [H5.2.2.1 (11, 1, 1) (by decide)]
  · rw [if_neg (show ¬ nI (n + 20) ≤ (2000 : Int32) from fun z => hc ((leI (b := 2000) (by omega) (by decide)).mp z)), if_neg (show ¬ nI (n + 20) ≤ (2000 : Int32) from fun z => hc ((leI (b := 2000) (by omega) (by decide)).mp z))]
    exact ⟨_, t, s, rfl, rfl, H, fun P _ h => h⟩
theorem al_end (H : Sim U S t s) (x1 : Int32) : ∃ x t2 s2, u_X11_end U S N x1 t = some (x, t2) ∧ g_end U S N x1 s = some (x, s2) ∧ Sim U S t2 s2 ∧ ((t2 = t ∧ s2 = s) ∨ ∃ m, t2 = qI t 11 0 1 (nI m) ∧ s2 = pI s 1 (nI m)) := by
  obtain ⟨n, hn, h1, h2⟩ := H.2.2.2.2.2.2.2.2.2.2
  have ht : t.1 11 0 1 = nI n := by rw [H.2.2.1 (11, 1, 1) (by decide)]; exact h1
  unfold u_X11_end u_X11_end_12 g_end
  rw [ht, h1]
  rcases in_cases (n + 1) (by omega) x1 with ⟨m, hm, rfl⟩ | hx
  · rw [show nI n = nI (n + 1 - 1) from rfl, in_y (by omega) hm, if_neg (nI_nn (by omega)), if_pos ((leI (by omega) (by omega)).mpr (by omega))]
    refine ⟨1, _, _, rfl, rfl, ?_, Or.inr ⟨m, rfl, rfl⟩⟩
    refine Sim_tape H (SmB_w H.2.2.1 (q := (11, 1, 1)) (by decide) (nI m)) ⟨m, by omega, ?_, fun i hi => h2 i (by omega)⟩ ?_ (fun _ _ _ _ => rfl) rfl ?_ (fun _ _ => rfl) rfl
    · rfl
    · intro ci j k h
      exact up3_n _ _ (fun e => h e.1)
    · intro k h
      exact up1_n _ _ h
  · rw [show g_in U S N x1 0 (nI n) s = g_in U S N x1 0 (nI (n + 1 - 1)) s from rfl, in_n (by omega) (by omega) hx]
    rcases hx with h | h
    · rw [if_pos h]
      exact ⟨0, t, s, rfl, rfl, H, Or.inl ⟨rfl, rfl⟩⟩
    · obtain ⟨g1, g2, g3⟩ := out_ge (by omega) (by omega) h
      rw [if_neg g2, if_neg]
      · exact ⟨0, t, s, rfl, rfl, H, Or.inl ⟨rfl, rfl⟩⟩
      · intro z
        rw [Int32.lt_iff_toInt_lt] at g1
        rw [Int32.le_iff_toInt_le] at z
        have : nI (n + 1 - 1) = nI n := rfl
        rw [this] at g1
        omega
end
