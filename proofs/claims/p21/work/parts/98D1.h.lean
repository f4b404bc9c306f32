/-! LAYER 3, the house: what holds of it besides being alike -/
def W12 (x : Int32) : Prop := ∃ n, n < 4096 ∧ x = nI n
def K7 (x : Int32) : Prop := ∃ n, n < 128 ∧ x = nI n
def bit (x : Int32) : Prop := x = 0 ∨ x = 1
abbrev Rf : Type := Nat → Nat → Nat → Option Nat
def HW (s : RS) : Prop := (∀ j, W12 (s.2.1 45 j)) ∧ (∀ j, W12 (s.2.1 43 j)) ∧ (∀ j, W12 (s.2.1 44 j)) ∧ (∀ j, W12 (s.2.1 47 j)) ∧ (∀ j, bit (s.2.1 46 j)) ∧ (∀ k i, W12 (s.2.2 35 k i)) ∧ (∀ k i, W12 (s.2.2 36 k i)) ∧ (∀ k i, W12 (s.2.2 37 k i)) ∧ (∀ k i, K7 (s.2.2 49 k i))
def HT (U : Nat) (s : RS) (T : Nat) (P : Nat → Nat) : Prop := s.1 66 = nI T ∧ ∀ j, j < U → ∃ n, n ≤ P j ∧ s.2.1 55 j = nI n
def HB (U : Nat) (R : Rf) (w : Nat → Int32) (s : RS) : Prop := ∀ j, j < U → s.2.1 42 j = 5 → R 10 j 19 ≠ none ∧ s.2.1 59 j = s.2.1 44 j ∧ s.2.1 60 j = s.2.1 43 j &&& 7 ∧ ((s.2.1 61 j = 0 ∧ w j = 3) ∨ (s.2.1 61 j = 1 ∧ w j = 4))
def HX (U : Nat) (v : Nat → Int32) (s : RS) (B : Nat) : Prop := ∃ (W : Nat) (fa fb : Nat → Nat), W < B ∧ s.1 76 = nI W ∧ (∀ j, j < U → s.2.1 42 j = 5 → s.2.1 58 j = nI (fa j) ∧ fa j < W ∧ v j = nI (fb j) ∧ fb j < B) ∧ ∀ j l, j < U → l < U → s.2.1 42 j = 5 → s.2.1 42 l = 5 → (fa j ≤ fa l ↔ fb j ≤ fb l)
def HS (U S : Nat) (R : Rf) (s : RS) : Prop := (∀ u k, u < U → k < S → (R 10 u 19 = some k ↔ R 8 k 2 = some u)) ∧ ∀ k, k < S → R 8 k 2 = none → s.2.1 39 k = 0 ∧ s.2.1 40 k = 0
def HQ (s : RS) (qs : List Nat) : Prop := ∀ j, j ∈ qs → s.2.1 42 j = 1
def HR (R : Rf) (s : RS) (qs : List Nat) : Prop := ∀ u, R 2 0 8 = some u → u ∉ qs ∧ s.2.1 42 u = 1 ∧ R 10 u 19 ≠ none
def HO (D : Nat) (R : Rf) (s : RS) : Prop := D < 2 → ∀ u k, R 1 0 1 = some u → R 1 0 2 = some k → (s.1 67 = 1 ∧ R 10 u 19 = some k ∧ R 2 0 8 ≠ some u ∧ s.2.1 42 u ≠ 5 ∧ ∃ m, m < 256 + D ∧ s.1 70 = nI (16 * m)) ∨ (s.1 67 = 2 ∧ R 10 u 19 = none ∧ R 8 k 2 = none ∧ ∃ m, m < 256 + D ∧ s.1 70 = nI (16 * m)) ∨ ((s.1 67 = 3 ∨ s.1 67 = 4) ∧ s.2.1 42 u = 5 ∧ R 10 u 19 = some k ∧ ∃ m, m < 8 + D ∧ s.1 70 = nI (16 * m))
def HJ (U S : Nat) (R : Rf) (v w : Nat → Int32) (s : RS) (qs : List Nat) (T B : Nat) (P : Nat → Nat) (D : Nat) : Prop := HW s ∧ HT U s T P ∧ HB U R w s ∧ HX U v s B ∧ HS U S R s ∧ HQ s qs ∧ HR R s qs ∧ HO D R s
def f17 (t : CS) : Nat → Int32 := fun j => t.1 10 j 17
def f18 (t : CS) : Nat → Int32 := fun j => t.1 10 j 18
def HI (U S : Nat) (t : CS) (s : RS) (qs : List Nat) (T B : Nat) (P : Nat → Nat) (D : Nat) : Prop := HJ U S t.2.2.2.1 (f17 t) (f18 t) s qs T B P D
def Inv (U S : Nat) (t : CS) (s : RS) (qs : List Nat) (T B : Nat) (P : Nat → Nat) (D : Nat) : Prop := Sim U S t s ∧ isQ U t s qs ∧ HI U S t s qs T B P D
theorem w12_n {n : Nat} (h : n < 4096) : W12 (nI n) := ⟨n, h, rfl⟩
theorem w12_0 : W12 0 := ⟨0, by decide, rfl⟩
theorem and_md (x : Int32) {m : Nat} (hm : m ≤ 31) (c : Int32) (hc : c.toBitVec = BitVec.ofNat 32 (2 ^ m - 1)) : x &&& c = nI (x.toBitVec.toNat % 2 ^ m) := by
  apply Int32.toBitVec_inj.mp
  show x.toBitVec &&& c.toBitVec = BitVec.ofNat 32 (x.toBitVec.toNat % 2 ^ m)
  rw [hc]
  apply BitVec.eq_of_toNat_eq
  have h1 : 2 ^ m ≤ 2 ^ 31 := Nat.pow_le_pow_right (by decide) hm
  have h2 : 0 < 2 ^ m := Nat.pow_pos (by decide)
  have h3 := Nat.mod_lt x.toBitVec.toNat h2
  rw [BitVec.toNat_and, BitVec.toNat_ofNat, BitVec.toNat_ofNat, Nat.mod_eq_of_lt (show 2 ^ m - 1 < 2 ^ 32 by omega), Nat.and_two_pow_sub_one_eq_mod, Nat.mod_eq_of_lt (show x.toBitVec.toNat % 2 ^ m < 2 ^ 32 by omega)]
theorem nI_bv {n : Nat} (h : n < 2 ^ 32) : (nI n).toBitVec.toNat = n := by
  show (BitVec.ofNat 32 n).toNat = n
  rw [BitVec.toNat_ofNat, Nat.mod_eq_of_lt h]
theorem w12_and (x : Int32) : W12 (x &&& 4095) := ⟨_, Nat.mod_lt _ (by decide), and_md x (m := 12) (by decide) 4095 rfl⟩
theorem and12 {n : Nat} (h : n < 2 ^ 32) : nI n &&& 4095 = nI (n % 4096) := by
  have := and_md (nI n) (m := 12) (by decide) 4095 rfl
  rw [nI_bv h] at this
  exact this
theorem w12_id {x : Int32} (h : W12 x) : x &&& 4095 = x := by
  obtain ⟨n, hn, rfl⟩ := h
  rw [and12 (by omega), Nat.mod_eq_of_lt hn]
theorem upd_all {P : Int32 → Prop} {f : Nat → Int32} (h : ∀ j, P (f j)) {x : Int32} (hx : P x) (u : Nat) : ∀ j, P (upd f u x j) := by
  intro j
  unfold upd
  by_cases e : j = u
  · rw [if_pos e]; exact hx
  · rw [if_neg e]; exact h j
theorem upg_all {P : Int32 → Prop} {f : Nat → Nat → Int32} (h : ∀ k i, P (f k i)) {x : Int32} (hx : P x) (u i : Nat) : ∀ k j, P (up1 f u (upd (f u) i x) k j) := by
  intro k j
  unfold up1
  by_cases e : k = u
  · rw [if_pos e]; exact upd_all (h u) hx i j
  · rw [if_neg e]; exact h k j
theorem upd_y (f : Nat → Int32) (u : Nat) (x : Int32) : upd f u x u = x := by unfold upd; rw [if_pos rfl]
theorem upd_n (f : Nat → Int32) {u j : Nat} (x : Int32) (h : j ≠ u) : upd f u x j = f j := by unfold upd; rw [if_neg h]
theorem f17_n (t : CS) (u : Nat) {k : Nat} (x : Int32) (h : k ≠ 17) : f17 (qI t 10 u k x) = f17 t := by
  funext j
  show up3 t.1 10 u k x 10 j 17 = _
  rw [up3_n _ _ (fun e => h e.2.2.symm)]
  rfl
theorem f18_n (t : CS) (u : Nat) {k : Nat} (x : Int32) (h : k ≠ 18) : f18 (qI t 10 u k x) = f18 t := by
  funext j
  show up3 t.1 10 u k x 10 j 18 = _
  rw [up3_n _ _ (fun e => h e.2.2.symm)]
  rfl
section
variable {U S : Nat} {R : Rf} {v w : Nat → Int32} {s : RS} {qs : List Nat} {T B D : Nat} {P : Nat → Nat}
theorem HJ_pc (h : HJ U S R v w s qs T B P D) (u : Nat) {x : Int32} (hx : W12 x) : HJ U S R v w (pA s 45 u x) qs T B P D := by
  obtain ⟨⟨a1, a2⟩, hT, hB, hX, hS, hQ, hR, hO⟩ := h
  exact ⟨⟨upd_all a1 hx u, a2⟩, hT, hB, hX, hS, hQ, hR, hO⟩
theorem HJ_sw (h : HJ U S R v w s qs T B P D) (u : Nat) {x : Int32} (hx : W12 x) : HJ U S R v w (pA s 47 u x) qs T B P D := by
  obtain ⟨⟨a1, a2, a3, a4, a5⟩, hT, hB, hX, hS, hQ, hR, hO⟩ := h
  exact ⟨⟨a1, a2, a3, upd_all a4 hx u, a5⟩, hT, hB, hX, hS, hQ, hR, hO⟩
theorem HJ_lk (h : HJ U S R v w s qs T B P D) (u : Nat) {x : Int32} (hx : bit x) : HJ U S R v w (pA s 46 u x) qs T B P D := by
  obtain ⟨⟨a1, a2, a3, a4, a5, a6⟩, hT, hB, hX, hS, hQ, hR, hO⟩ := h
  exact ⟨⟨a1, a2, a3, a4, upd_all a5 hx u, a6⟩, hT, hB, hX, hS, hQ, hR, hO⟩
theorem HJ_ac (h : HJ U S R v w s qs T B P D) (u : Nat) {x : Int32} (hx : W12 x) (h5 : s.2.1 42 u ≠ 5) : HJ U S R v w (pA s 43 u x) qs T B P D := by
  obtain ⟨⟨a1, a2, a3⟩, hT, hB, hX, hS, hQ, hR, hO⟩ := h
  refine ⟨⟨a1, upd_all a2 hx u, a3⟩, hT, ?_, hX, hS, hQ, hR, hO⟩
  intro j hj e
  have hju : j ≠ u := fun z => h5 (z ▸ e)
  have := hB j hj e
  refine ⟨this.1, this.2.1, ?_, this.2.2.2⟩
  show s.2.1 60 j = upd (s.2.1 43) u x j &&& 7
  rw [upd_n _ _ hju]
  exact this.2.2.1
theorem HJ_mq (h : HJ U S R v w s qs T B P D) (u : Nat) {x : Int32} (hx : W12 x) (h5 : s.2.1 42 u ≠ 5) : HJ U S R v w (pA s 44 u x) qs T B P D := by
  obtain ⟨⟨a1, a2, a3, a4⟩, hT, hB, hX, hS, hQ, hR, hO⟩ := h
  refine ⟨⟨a1, a2, upd_all a3 hx u, a4⟩, hT, ?_, hX, hS, hQ, hR, hO⟩
  intro j hj e
  have hju : j ≠ u := fun z => h5 (z ▸ e)
  have := hB j hj e
  refine ⟨this.1, ?_, this.2.2⟩
  show s.2.1 59 j = upd (s.2.1 44) u x j
  rw [upd_n _ _ hju]
  exact this.2.1
theorem HJ_core (h : HJ U S R v w s qs T B P D) (k i : Nat) {x : Int32} (hx : W12 x) : HJ U S R v w (pG s 35 k i x) qs T B P D := by
  obtain ⟨⟨a1, a2, a3, a4, a5, a6, a7⟩, hT, hB, hX, hS, hQ, hR, hO⟩ := h
  exact ⟨⟨a1, a2, a3, a4, a5, upg_all a6 hx k i, a7⟩, hT, hB, hX, hS, hQ, hR, hO⟩
theorem HJ_drum (h : HJ U S R v w s qs T B P D) (k i : Nat) {x : Int32} (hx : W12 x) : HJ U S R v w (pG s 36 k i x) qs T B P D := by
  obtain ⟨⟨a1, a2, a3, a4, a5, a6, a7, a8⟩, hT, hB, hX, hS, hQ, hR, hO⟩ := h
  exact ⟨⟨a1, a2, a3, a4, a5, a6, upg_all a7 hx k i, a8⟩, hT, hB, hX, hS, hQ, hR, hO⟩
theorem HJ_file (h : HJ U S R v w s qs T B P D) (k i : Nat) {x : Int32} (hx : W12 x) : HJ U S R v w (pG s 37 k i x) qs T B P D := by
  obtain ⟨⟨a1, a2, a3, a4, a5, a6, a7, a8, a9⟩, hT, hB, hX, hS, hQ, hR, hO⟩ := h
  exact ⟨⟨a1, a2, a3, a4, a5, a6, a7, upg_all a8 hx k i, a9⟩, hT, hB, hX, hS, hQ, hR, hO⟩
theorem HJ_keys (h : HJ U S R v w s qs T B P D) (k i : Nat) {x : Int32} (hx : K7 x) : HJ U S R v w (pG s 49 k i x) qs T B P D := by
  obtain ⟨⟨a1, a2, a3, a4, a5, a6, a7, a8, a9⟩, hT, hB, hX, hS, hQ, hR, hO⟩ := h
  exact ⟨⟨a1, a2, a3, a4, a5, a6, a7, a8, upg_all a9 hx k i⟩, hT, hB, hX, hS, hQ, hR, hO⟩
/-- a user's state: not from 5, not to 5 -/
theorem HJ_st (h : HJ U S R v w s qs T B P D) (u : Nat) {x : Int32} (h5 : D < 2 → s.2.1 42 u ≠ 5) (hx : x ≠ 5) (hq : u ∈ qs → x = 1) (hr : R 2 0 8 = some u → x = 1) : HJ U S R v w (pA s 42 u x) qs T B P D := by
  obtain ⟨hW, hT, hB, ⟨W, fa, fb, x1, x2, x3, x4⟩, hS, hQ, hR, hO⟩ := h
  have key : ∀ j, (pA s 42 u x).2.1 42 j = 5 → j ≠ u ∧ s.2.1 42 j = 5 := by
    intro j e
    have e' : upd (s.2.1 42) u x j = 5 := e
    by_cases hju : j = u
    · rw [hju, upd_y] at e'; exact absurd e' hx
    · rw [upd_n _ _ hju] at e'; exact ⟨hju, e'⟩
  refine ⟨hW, hT, fun j hj e => hB j hj (key j e).2, ⟨W, fa, fb, x1, x2, fun j hj e => x3 j hj (key j e).2, fun j l hj hl e1 e2 => x4 j l hj hl (key j e1).2 (key l e2).2⟩, hS, ?_, ?_, ?_⟩
  · intro j hj
    show upd (s.2.1 42) u x j = 1
    by_cases hju : j = u
    · rw [hju, upd_y]; exact hq (hju ▸ hj)
    · rw [upd_n _ _ hju]; exact hQ j hj
  · intro j hj
    obtain ⟨c1, c2, c3⟩ := hR j hj
    refine ⟨c1, ?_, c3⟩
    show upd (s.2.1 42) u x j = 1
    by_cases hju : j = u
    · rw [hju, upd_y]; exact hr (hju ▸ hj)
    · rw [upd_n _ _ hju]; exact c2
  · intro hD u2 k e1 e2
    show (_ ∧ _ ∧ _ ∧ upd (s.2.1 42) u x u2 ≠ 5 ∧ _) ∨ _ ∨ (_ ∧ upd (s.2.1 42) u x u2 = 5 ∧ _)
    by_cases hju : u2 = u
    · rw [hju, upd_y]
      rw [hju] at e1
      rcases hO hD u k e1 e2 with ⟨d1, d2, d3, d4, d5⟩ | d | ⟨d1, d2, d3⟩
      · exact Or.inl ⟨d1, d2, d3, hx, d5⟩
      · exact Or.inr (Or.inl d)
      · exact absurd d2 (h5 hD)
    · rw [upd_n _ _ hju]
      exact hO hD u2 k e1 e2
/-- the queue grows by u -/
theorem HJ_q (h : HJ U S R v w s qs T B P D) {u : Nat} (h1 : s.2.1 42 u = 1) (hr : R 2 0 8 ≠ some u) {s2 : RS} (e1 : ∀ k, k ≠ 63 → s2.1 k = s.1 k) (e2 : ∀ k, k ≠ 62 → s2.2.1 k = s.2.1 k) (e3 : s2.2.2 = s.2.2) : HJ U S R v w s2 (qs ++ [u]) T B P D := by
  obtain ⟨hW, hT, hB, hX, hS, hQ, hR, hO⟩ := h
  refine ⟨?_, ?_, ?_, ?_, by unfold HS; rw [e2 39 (by decide), e2 40 (by decide)]; exact hS, ?_, ?_, ?_⟩
  · unfold HW; rw [e2 45 (by decide), e2 43 (by decide), e2 44 (by decide), e2 47 (by decide), e2 46 (by decide), e3]; exact hW
  · unfold HT; rw [e1 66 (by decide), e2 55 (by decide)]; exact hT
  · unfold HB; rw [e2 42 (by decide), e2 59 (by decide), e2 44 (by decide), e2 60 (by decide), e2 43 (by decide), e2 61 (by decide)]; exact hB
  · unfold HX; rw [e1 76 (by decide), e2 42 (by decide), e2 58 (by decide)]; exact hX
  · intro j hj
    rw [e2 42 (by decide)]
    rcases List.mem_append.mp hj with z | z
    · exact hQ j z
    · simp at z; rw [z]; exact h1
  · intro u2 hu2
    obtain ⟨c1, c2, c3⟩ := hR u2 hu2
    rw [e2 42 (by decide)]
    refine ⟨fun z => ?_, c2, c3⟩
    rcases List.mem_append.mp z with z | z
    · exact c1 z
    · simp at z; rw [z] at hu2; exact hr hu2
  · unfold HO; rw [e1 67 (by decide), e1 70 (by decide), e2 42 (by decide)]; exact hO
/-- the queue shrinks -/
theorem HJ_qs (h : HJ U S R v w s qs T B P D) {qs2 : List Nat} (hsub : ∀ j, j ∈ qs2 → j ∈ qs) {s2 : RS} (e1 : ∀ k, k ≠ 63 → s2.1 k = s.1 k) (e2 : ∀ k, k ≠ 62 → s2.2.1 k = s.2.1 k) (e3 : s2.2.2 = s.2.2) : HJ U S R v w s2 qs2 T B P D := by
  obtain ⟨hW, hT, hB, hX, hS, hQ, hR, hO⟩ := h
  refine ⟨?_, ?_, ?_, ?_, by unfold HS; rw [e2 39 (by decide), e2 40 (by decide)]; exact hS, ?_, ?_, ?_⟩
  · unfold HW; rw [e2 45 (by decide), e2 43 (by decide), e2 44 (by decide), e2 47 (by decide), e2 46 (by decide), e3]; exact hW
  · unfold HT; rw [e1 66 (by decide), e2 55 (by decide)]; exact hT
  · unfold HB; rw [e2 42 (by decide), e2 59 (by decide), e2 44 (by decide), e2 60 (by decide), e2 43 (by decide), e2 61 (by decide)]; exact hB
  · unfold HX; rw [e1 76 (by decide), e2 42 (by decide), e2 58 (by decide)]; exact hX
  · intro j hj
    rw [e2 42 (by decide)]
    exact hQ j (hsub j hj)
  · intro u2 hu2
    obtain ⟨c1, c2, c3⟩ := hR u2 hu2
    rw [e2 42 (by decide)]
    exact ⟨fun z => c1 (hsub _ z), c2, c3⟩
  · unfold HO; rw [e1 67 (by decide), e1 70 (by decide), e2 42 (by decide)]; exact hO
/-- nobody runs -/
theorem HJ_r0 (h : HJ U S R v w s qs T B P D) : HJ U S (up3 R 2 0 8 none) v w s qs T B P D := by
  obtain ⟨hW, hT, hB, hX, hS, hQ, hR, hO⟩ := h
  refine ⟨hW, hT, hB, hX, hS, hQ, ?_, ?_⟩
  · intro u hu
    exact absurd (show (none : Option Nat) = some u from hu) (by simp)
  · intro hD u k e1 e2
    rcases hO hD u k e1 e2 with ⟨d1, d2, d3, d4⟩ | d | d
    · exact Or.inl ⟨d1, d2, by show (none : Option Nat) ≠ some u; simp, d4⟩
    · exact Or.inr (Or.inl d)
    · exact Or.inr (Or.inr d)
/-- u runs -/
theorem HJ_r1 (h : HJ U S R v w s qs T B P D) {u : Nat} (h1 : u ∉ qs) (h2 : s.2.1 42 u = 1) (h3 : R 10 u 19 ≠ none) (h4 : ¬ (s.1 67 = 1 ∧ R 1 0 1 = some u)) : HJ U S (up3 R 2 0 8 (some u)) v w s qs T B P D := by
  obtain ⟨hW, hT, hB, hX, hS, hQ, hR, hO⟩ := h
  refine ⟨hW, hT, hB, hX, hS, hQ, ?_, ?_⟩
  · intro u2 hu2
    have e : u = u2 := Option.some.inj (show some u = some u2 from hu2)
    rw [← e]
    exact ⟨h1, h2, h3⟩
  · intro hD u2 k e1 e2
    rcases hO hD u2 k e1 e2 with ⟨d1, d2, d3, d4⟩ | d | d
    · refine Or.inl ⟨d1, d2, ?_, d4⟩
      show some u ≠ some u2
      intro e
      exact h4 ⟨d1, by rw [Option.some.inj e]; exact e1⟩
    · exact Or.inr (Or.inl d)
    · exact Or.inr (Or.inr d)
theorem HJ_f39 (h : HJ U S R v w s qs T B P D) {k : Nat} (x : Int32) (hk : R 8 k 2 ≠ none) : HJ U S R v w (pA s 39 k x) qs T B P D := by
  obtain ⟨hW, hT, hB, hX, hS, hQ, hR, hO⟩ := h
  refine ⟨hW, hT, hB, hX, ⟨hS.1, fun j hj e => ?_⟩, hQ, hR, hO⟩
  have hne : j ≠ k := fun z => hk (z ▸ e)
  refine ⟨?_, (hS.2 j hj e).2⟩
  show upd (s.2.1 39) k x j = 0
  rw [upd_n _ _ hne]
  exact (hS.2 j hj e).1
theorem HJ_f40 (h : HJ U S R v w s qs T B P D) {k : Nat} (x : Int32) (hk : R 8 k 2 ≠ none) : HJ U S R v w (pA s 40 k x) qs T B P D := by
  obtain ⟨hW, hT, hB, hX, hS, hQ, hR, hO⟩ := h
  refine ⟨hW, hT, hB, hX, ⟨hS.1, fun j hj e => ?_⟩, hQ, hR, hO⟩
  have hne : j ≠ k := fun z => hk (z ▸ e)
  refine ⟨(hS.2 j hj e).1, ?_⟩
  show upd (s.2.1 40) k x j = 0
  rw [upd_n _ _ hne]
  exact (hS.2 j hj e).2
theorem HJ_own (h : HJ U S R v w s qs T B P D) {u k : Nat} (hu : u < U) (hk : k < S) (e : R 10 u 19 = some k) : R 8 k 2 ≠ none := by
  rw [(h.2.2.2.2.1.1 u k hu hk).mp e]
  simp
theorem HJ_2 (h : HJ U S R v w s qs T B P D) : HJ U S R v w s qs T B P 2 := by
  obtain ⟨hW, hT, hB, hX, hS, hQ, hR, hO⟩ := h
  exact ⟨hW, hT, hB, hX, hS, hQ, hR, fun z => absurd z (by decide)⟩
end
