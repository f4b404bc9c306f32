/-! LAYER 3, the assemblers side by side: what is alike between two tokens -/
def NC (t : CS) (m : Nat) : Prop := t.1 4 0 3 = nI m ∧ 53 ≤ m ∧ m ≤ 1054 ∧ (∀ i j, i < m → j < m → t.2.2.1 i = t.2.2.1 j → i = j) ∧ FX t
def nmOK (s : RS) (L : Nat → Int64) (k ν : Nat) : Prop := ∃ l, l ≤ 7 ∧ s.2.1 18 k = nI l ∧ chs (s.2.1 17) (7 * k) l ∧ pkB (s.2.1 17) (7 * k) l = L ν
def RN (t : CS) (s : RS) (m T : Nat) (ν : Nat → Nat) : Prop := T ≤ 200 ∧ s.1 21 = nI T ∧ t.1 4 0 4 = nI T ∧ (∀ k, k < T → 53 ≤ ν k ∧ ν k < m ∧ nmOK s t.2.2.1 k (ν k) ∧ s.2.1 19 k = t.2.1 4 0 1 (ν k) ∧ ((t.2.1 4 0 2 (ν k) = 1 ∧ s.2.1 20 k = 1) ∨ (t.2.1 4 0 2 (ν k) = 2 ∧ s.2.1 20 k = 0))) ∧ (∀ i j, i < T → j < T → ν i = ν j → i = j) ∧ (∀ i, 53 ≤ i → i < m → (∀ k, k < T → ¬ ν k = i) → t.2.1 4 0 2 i = 0 ∧ t.2.1 4 0 1 i = 0)
def EX (b : Nat → Int32) (n : Nat) (P : Nat → Nat) (c m T : Nat) (ν : Nat → Nat) (t : CS) (s : RS) : Prop := n ≤ 2000 ∧ (∀ i, i < n → ∃ j, j < 256 ∧ b i = nI j) ∧ TB b n t P c m ∧ NC t m ∧ RN t s m T ν ∧ (s.1 3 = nI n ∧ ∀ i, i < n → s.2.1 2 i = b i) ∧ s.1 10 = (if t.1 0 0 8 = 0 then 8 else 10) ∧ s.1 11 = t.1 0 0 10 ∧ s.1 9 = t.1 0 0 6 ∧ CA t
/-- the reference has looked at token a -/
def LA (b : Nat → Int32) (n : Nat) (P : Nat → Nat) (c m : Nat) (t : CS) (s : RS) (a : Nat) : Prop := a < c ∧ ∃ st, t.2.1 9 0 2 a = nI st ∧ st ≤ n ∧ s.1 13 = nI st ∧ Tok b n t.2.2.1 m (t.2.1 9 0 1 a) st (t.2.1 9 0 3 a) (t.2.1 9 0 4 a) (P (a + 1)) ∧ LK b n s (t.2.1 9 0 1 a) st (t.2.1 9 0 3 a) (t.2.1 9 0 4 a) (P (a + 1)) (t.1 0 0 8) ∧ ¬ bad (t.2.1 9 0 1 a) (t.2.1 9 0 3 a) (t.2.1 9 0 4 a) (t.1 0 0 8)
def TK (b : Nat → Int32) (n : Nat) (P : Nat → Nat) (c m : Nat) (t : CS) (s s2 : RS) (a : Nat) : Prop := SL s s2 ∧ s2.1 30 = s.1 30 ∧ FZ s2 ∧ (¬ s.1 5 = 0 → s2.1 5 = s.1 5) ∧ (s.1 5 = 0 → (kA t (nI a) = 6 ∧ s2.1 5 = 1 ∧ s2.1 6 = s2.1 13) ∨ (¬ kA t (nI a) = 6 ∧ s2.1 5 = 0 ∧ LA b n P c m t s2 a))
section
variable {U S N n c m T : Nat} {b : Nat → Int32} {P ν : Nat → Nat} {t : CS} {s : RS}
theorem ft_in (hn : n ≤ 2000) (hb : ∀ i, i < n → s.2.1 2 i = b i) {st k j : Nat} (hj : j < 200) (hk : k ≤ 7) (hst : st + k ≤ n) (k2 : Int32 → Int32 → Int32 → RS → Option (Int32 × RS)) : ∀ (f i : Nat), i ≤ k → k < i + f → ((∀ i2, i ≤ i2 → i2 < k → s.2.1 17 (7 * j + i2) = b (st + i2)) → l_findTold_30 U S N k2 f (nI st) (nI k) (nI j) 1 (nI i) s = g_findTold_78 U S N k2 (nI st) (nI k) (nI j) 1 s) ∧ ((¬ ∀ i2, i ≤ i2 → i2 < k → s.2.1 17 (7 * j + i2) = b (st + i2)) → l_findTold_30 U S N k2 (f + 1) (nI st) (nI k) (nI j) 1 (nI i) s = g_findTold_78 U S N k2 (nI st) (nI k) (nI j) 0 s) := by
  intro f
  induction f with
  | zero => intro i h1 h2; omega
  | succ f ih =>
    intro i h1 h2
    have st1 : ∀ f2, l_findTold_30 U S N k2 (f2 + 1) (nI st) (nI k) (nI j) 1 (nI i) s = h_findTold_30 U S N k2 (l_findTold_30 U S N k2 f2) (nI st) (nI k) (nI j) 1 (nI i) s := fun _ => rfl
    by_cases q : i = k
    · constructor
      · intro _
        rw [st1]
        unfold h_findTold_30
        rw [if_pos ((leI (by omega) (by omega)).mpr (by omega))]
      · intro z
        exact absurd (fun i2 _ _ => by omega) z
    · have hik : i < k := by omega
      have eb : ∀ f2, l_findTold_30 U S N k2 (f2 + 1) (nI st) (nI k) (nI j) 1 (nI i) s = if ¬ s.2.1 17 (7 * j + i) = b (st + i) then l_findTold_30 U S N k2 f2 (nI st) (nI k) (nI j) 0 (nI (i + 1)) s else l_findTold_30 U S N k2 f2 (nI st) (nI k) (nI j) 1 (nI (i + 1)) s := by
        intro f2
        rw [st1]
        unfold h_findTold_30 g_findTold_70
        rw [if_neg (fun z => by have := (leI (by omega) (by omega)).mp z; omega), if_neg (by decide), show (7 : Int32) = nI 7 from rfl, mul_nI, nI_add, rA_y (by decide) (by omega), Option.bind_some, nI_add, rA_y (by decide) (by omega), Option.bind_some, hb _ (by omega), nI_1]
      by_cases c : s.2.1 17 (7 * j + i) = b (st + i)
      · obtain ⟨i1, i2⟩ := ih (i + 1) (by omega) (by omega)
        constructor
        · intro h
          rw [eb, if_neg (not_not_intro c)]
          exact i1 (fun i3 h3 h4 => h i3 (by omega) h4)
        · intro h
          rw [eb, if_neg (not_not_intro c)]
          refine i2 (fun h5 => h (fun i3 h3 h4 => ?_))
          by_cases e : i3 = i
          · rw [e]; exact c
          · exact h5 i3 (by omega) h4
      · constructor
        · intro h
          exact absurd (h i (Nat.le_refl _) hik) c
        · intro _
          rw [eb, if_pos c]
          show h_findTold_30 U S N k2 (l_findTold_30 U S N k2 f) (nI st) (nI k) (nI j) 0 (nI (i + 1)) s = _
          unfold h_findTold_30
          by_cases z : nI k ≤ nI (i + 1)
          · rw [if_pos z]
          · rw [if_neg z, if_pos rfl]
theorem ft_eq (hN : 5000 < N) (hn : n ≤ 2000) (hb : ∀ i, i < n → s.2.1 2 i = b i) (hT : T ≤ 200) (h21 : s.1 21 = nI T) {L : Nat → Int64} (hnm : ∀ k, k < T → ν k < m ∧ nmOK s L k (ν k)) (hL : ∀ i j, i < m → j < m → L i = L j → i = j) (hνj : ∀ i j, i < T → j < T → ν i = ν j → i = j) {st k w : Nat} (hk : k ≤ 7) (hst : st + k ≤ n) (hc : chs b st k) (hw : w < m) (hp : pkB b st k = L w) : (∀ j, j < T → ν j = w → g_findTold U S N (nI st) (nI k) s = some (nI j, s)) ∧ ((∀ j, j < T → ¬ ν j = w) → g_findTold U S N (nI st) (nI k) s = some (-1, s)) := by
  obtain ⟨N, rfl⟩ : ∃ k, N = k + 1 := ⟨N - 1, by omega⟩
  have step : ∀ (f j : Nat), j < T → l_findTold_2 U S (N + 1) (f + 1) (nI st) (nI k) (nI j) s = if ν j = w then some (nI j, s) else l_findTold_2 U S (N + 1) f (nI st) (nI k) (nI (j + 1)) s := by
    intro f j hj
    obtain ⟨g1, l, g2, g3, g4, g5⟩ := hnm j hj
    have e78 : ∀ (x : Int32), g_findTold_78 U S (N + 1) (l_findTold_2 U S (N + 1) f) (nI st) (nI k) (nI j) x s = if x = 0 then l_findTold_2 U S (N + 1) f (nI st) (nI k) (nI (j + 1)) s else some (nI j, s) := by
      intro x
      unfold g_findTold_78
      rw [nI_1]
    show h_findTold_2 U S (N + 1) (l_findTold_2 U S (N + 1) f) (nI st) (nI k) (nI j) s = _
    unfold h_findTold_2 g_findTold_25
    rw [h21, if_neg (fun z => by have := (leI (by omega) (by omega)).mp z; omega), rA_y (by decide) (by omega), Option.bind_some, g3]
    by_cases c : l = k
    · rw [if_neg (not_not_intro (by rw [c]))]
      obtain ⟨i1, i2⟩ := ft_in (U := U) (S := S) (N := N + 1) (j := j) hn hb (by omega) hk hst (l_findTold_2 U S (N + 1) f) N 0 (by omega) (by omega)
      obtain ⟨i3, -⟩ := ft_in (U := U) (S := S) (N := N + 1) (j := j) hn hb (by omega) hk hst (l_findTold_2 U S (N + 1) f) (N + 1) 0 (by omega) (by omega)
      by_cases d : ∀ i2, 0 ≤ i2 → i2 < k → s.2.1 17 (7 * j + i2) = b (st + i2)
      · have hy : ν j = w := by
          refine hL _ _ g1 hw ?_
          rw [← g5, ← hp, c]
          exact pk_ext k (fun i hi => d i (Nat.zero_le _) hi)
        rw [if_pos hy]
        refine (i3 d).trans ?_
        rw [e78, if_neg (by decide)]
      · have hno : ¬ ν j = w := by
          intro z
          rw [z, ← hp] at g5
          obtain ⟨-, z2⟩ := pk_inj g2 hk g4 hc g5
          exact d (fun i _ hi => z2 i (by omega))
        rw [if_neg hno]
        refine (i2 d).trans ?_
        rw [e78, if_pos rfl]
    · have hno : ¬ ν j = w := by
        intro z
        rw [z, ← hp] at g5
        exact c (pk_inj g2 hk g4 hc g5).1
      rw [if_pos (fun z => c ((eqI (by omega) (by omega)).mp z)), if_neg hno]
      show h_findTold_30 U S (N + 1) (l_findTold_2 U S (N + 1) f) (l_findTold_30 U S (N + 1) (l_findTold_2 U S (N + 1) f) N) (nI st) (nI k) (nI j) 0 0 s = _
      unfold h_findTold_30
      rw [e78]
      by_cases z : nI k ≤ 0
      · rw [if_pos z]; rfl
      · rw [if_neg z]; rfl
  have fin : ∀ f, l_findTold_2 U S (N + 1) (f + 1) (nI st) (nI k) (nI T) s = some (-1, s) := by
    intro f
    show h_findTold_2 U S (N + 1) (l_findTold_2 U S (N + 1) f) (nI st) (nI k) (nI T) s = _
    unfold h_findTold_2
    rw [h21, if_pos ((leI (by omega) (by omega)).mpr (Nat.le_refl _))]
  show (∀ j, j < T → ν j = w → l_findTold_2 U S (N + 1) (N + 1) (nI st) (nI k) (nI 0) s = _) ∧ (_ → l_findTold_2 U S (N + 1) (N + 1) (nI st) (nI k) (nI 0) s = _)
  constructor
  · intro j hj hy
    have go : ∀ (d i f : Nat), i + d = j → d < f → l_findTold_2 U S (N + 1) f (nI st) (nI k) (nI i) s = some (nI j, s) := by
      intro d
      induction d with
      | zero =>
        intro i f h1 h2
        obtain ⟨f, rfl⟩ : ∃ k, f = k + 1 := ⟨f - 1, by omega⟩
        have : i = j := by omega
        subst this
        rw [step f i hj, if_pos hy]
      | succ d ih =>
        intro i f h1 h2
        obtain ⟨f, rfl⟩ : ∃ k, f = k + 1 := ⟨f - 1, by omega⟩
        rw [step f i (by omega), if_neg (fun z => by have := hνj i j (by omega) hj (z.trans hy.symm); omega)]
        exact ih (i + 1) f (by omega) (by omega)
    exact go j 0 (N + 1) (by omega) (by omega)
  · intro hno
    have go : ∀ (d i f : Nat), i + d = T → d < f → l_findTold_2 U S (N + 1) f (nI st) (nI k) (nI i) s = some (-1, s) := by
      intro d
      induction d with
      | zero =>
        intro i f h1 h2
        obtain ⟨f, rfl⟩ : ∃ k, f = k + 1 := ⟨f - 1, by omega⟩
        have : i = T := by omega
        subst this
        exact fin f
      | succ d ih =>
        intro i f h1 h2
        obtain ⟨f, rfl⟩ : ∃ k, f = k + 1 := ⟨f - 1, by omega⟩
        rw [step f i (by omega), if_neg (hno i (by omega))]
        exact ih (i + 1) f (by omega) (by omega)
    exact go T 0 (N + 1) (by omega) (by omega)
theorem RN_s {s2 : RS} (h : RN t s m T ν) (e21 : s2.1 21 = s.1 21) (e17 : s2.2.1 17 = s.2.1 17) (e18 : s2.2.1 18 = s.2.1 18) (e19 : s2.2.1 19 = s.2.1 19) (e20 : s2.2.1 20 = s.2.1 20) : RN t s2 m T ν := by
  unfold RN nmOK at *
  rw [e21, e17, e18, e19, e20]
  exact h
theorem EX_SL {s2 : RS} (h : EX b n P c m T ν t s) (g : SL s s2) : EX b n P c m T ν t s2 := by
  obtain ⟨h1, h2, h3, h4, h5, ⟨h6, h7⟩, h8, h9, h10, h11⟩ := h
  refine ⟨h1, h2, h3, h4, RN_s h5 (g.1 21 (by decide)) (by rw [g.2]) (by rw [g.2]) (by rw [g.2]) (by rw [g.2]), ⟨(g.1 3 (by decide)).trans h6, by rw [g.2]; exact h7⟩, (g.1 10 (by decide)).trans h8, (g.1 11 (by decide)).trans h9, (g.1 9 (by decide)).trans h10, h11⟩
/-- the class's readers at an index of the row -/
theorem rd_at (ec : t.1 9 0 5 = nI c) (hc : c ≤ 2001) {a : Nat} (ha : a < c) : vA t (nI a) = t.2.1 9 0 3 a ∧ oA t (nI a) = t.2.1 9 0 4 a ∧ (bad (t.2.1 9 0 1 a) (t.2.1 9 0 3 a) (t.2.1 9 0 4 a) (t.1 0 0 8) → kA t (nI a) = 6) ∧ (¬ bad (t.2.1 9 0 1 a) (t.2.1 9 0 3 a) (t.2.1 9 0 4 a) (t.1 0 0 8) → kA t (nI a) = t.2.1 9 0 1 a) := by
  unfold vA oA kA bad
  rw [if_neg (nI_nn (by omega)), if_neg (nI_nn (by omega)), if_neg (nI_nn (by omega)), ec, if_pos ((ltI (by omega) (by omega)).mpr ha), if_pos ((ltI (by omega) (by omega)).mpr ha), if_pos ((ltI (by omega) (by omega)).mpr ha), nI_clamp (by omega)]
  generalize t.2.1 9 0 1 a = K
  generalize t.2.1 9 0 3 a = v
  generalize t.2.1 9 0 4 a = o
  refine ⟨rfl, rfl, ?_, ?_⟩
  · rintro (z | ⟨z, y⟩)
    · rw [z, if_neg (by decide)]
    · rw [if_pos z]
      by_cases d : t.1 0 0 8 = 0
      · rw [if_pos d] at y; rw [if_pos d, if_neg (not_not_intro y)]
      · rw [if_neg d] at y; rw [if_neg d, if_neg (not_not_intro y)]
  · intro z
    by_cases c2 : K = 2
    · rw [if_pos c2]
      by_cases d : t.1 0 0 8 = 0
      · rw [if_pos d, if_pos (fun y => z (Or.inr ⟨c2, by rw [if_pos d]; exact y⟩))]
      · rw [if_neg d, if_pos (fun y => z (Or.inr ⟨c2, by rw [if_neg d]; exact y⟩))]
    · rw [if_neg c2]
theorem LA_k (h : EX b n P c m T ν t s) {s2 : RS} {a : Nat} (hl : LA b n P c m t s2 a) : kA t (nI a) = t.2.1 9 0 1 a ∧ vA t (nI a) = t.2.1 9 0 3 a ∧ oA t (nI a) = t.2.1 9 0 4 a ∧ ¬ kA t (nI a) = 6 := by
  obtain ⟨-, -, ⟨-, -, ec, -, hc, -⟩, -⟩ := h
  obtain ⟨ha, st, -, -, -, -, -, hb⟩ := hl
  obtain ⟨r1, r2, -, r4⟩ := rd_at ec hc ha
  refine ⟨r4 hb, r1, r2, ?_⟩
  rw [r4 hb]
  exact fun z => hb (Or.inl z)
/-- the kinds that there are -/
theorem Tok_K {L : Nat → Int64} {K v o : Int32} {st e : Nat} (hB : ∀ i, i < n → ∃ j, j < 256 ∧ b i = nI j) (h : Tok b n L m K st v o e) : K = 0 ∨ K = 10 ∨ (K = 1 ∨ K = 4 ∨ K = 5) ∨ K = 6 ∨ K = 2 ∨ K = 3 ∨ (sgn K ∧ ∃ j, j < 256 ∧ K = nI j) := by
  rcases h with ⟨-, h⟩ | ⟨-, -, h, -⟩ | ⟨-, -, z, -, ⟨-, h⟩ | ⟨-, w, -, -, ⟨h, -⟩ | ⟨-, -, -, ⟨h, -⟩ | ⟨h, -⟩⟩⟩⟩ | ⟨-, -, -, z, -, ⟨-, h⟩ | ⟨-, h, -⟩⟩ | ⟨-, -, ⟨h, -⟩ | ⟨h, -⟩⟩ | ⟨h0, -, -, -, -, -, ⟨h, h2, -⟩ | ⟨h, -⟩⟩
  · exact Or.inl h
  · exact Or.inr (Or.inl h)
  · exact Or.inr (Or.inr (Or.inr (Or.inl h)))
  · exact Or.inr (Or.inr (Or.inl (Or.inl h)))
  · exact Or.inr (Or.inr (Or.inl (Or.inr (Or.inr h))))
  · exact Or.inr (Or.inr (Or.inl (Or.inr (Or.inl h))))
  · exact Or.inr (Or.inr (Or.inr (Or.inl h)))
  · exact Or.inr (Or.inr (Or.inr (Or.inr (Or.inl h))))
  · exact Or.inr (Or.inr (Or.inr (Or.inl h)))
  · exact Or.inr (Or.inr (Or.inr (Or.inr (Or.inr (Or.inl h)))))
  · refine Or.inr (Or.inr (Or.inr (Or.inr (Or.inr (Or.inr ⟨by rw [h]; exact h2, ?_⟩)))))
    rw [h]
    exact hB st h0
  · exact Or.inr (Or.inr (Or.inr (Or.inl h)))
/-- isSign at a token that was looked at -/
theorem isg (h : EX b n P c m T ν t s) {a : Nat} (hl : LA b n P c m t s a) (h5 : s.1 5 = 0) {x : Int32} (hx : sgn x) : g_isSign U S N x s = some (if kA t (nI a) = x then 1 else 0, s) := by
  obtain ⟨e1, -, -, e4⟩ := LA_k h hl
  obtain ⟨n0, n1, n2, n3, n4, n5, n6, n10⟩ := sgn_n
  obtain ⟨-, hB, -⟩ := id h
  obtain ⟨ha, st, -, -, -, htk, ⟨k1, k2, k3, k4, k5⟩, -⟩ := hl
  rw [e1] at e4 ⊢
  unfold g_isSign g_isSign_27 g_isSign_28
  rw [if_neg (not_not_intro h5), rZ0, rZ1]
  have no : ∀ y : Int32, ¬ sgn y → t.2.1 9 0 1 a = y → ¬ s.1 12 = 4 → (if ¬ s.1 12 = 4 then some ((0 : Int32), s) else if ¬ s.1 14 = x then some ((0 : Int32), s) else some ((1 : Int32), s)) = some (if t.2.1 9 0 1 a = x then 1 else 0, s) := by
    intro y hy ey h12
    rw [if_pos h12, if_neg (fun z => hy (by rw [← ey, z]; exact hx))]
  rcases Tok_K hB htk with z | z | z | z | z | z | ⟨z, -⟩
  · exact no 0 n0 z (by rw [(k1 (Or.inl z)).1]; decide)
  · exact no 10 n10 z (by rw [(k1 (Or.inr z)).1]; decide)
  · have h12 : ¬ s.1 12 = 4 := by rw [(k2 z).1]; decide
    rcases z with z | z | z
    · exact no 1 n1 z h12
    · exact no 4 n4 z h12
    · exact no 5 n5 z h12
  · exact absurd z e4
  · exact no 2 n2 z (by rw [(k3 z).1]; decide)
  · exact no 3 n3 z (by rw [(k4 z).1]; decide)
  · obtain ⟨q1, -, q3⟩ := k5 z
    rw [if_neg (not_not_intro q1), q3]
    by_cases c : t.2.1 9 0 1 a = x
    · rw [if_neg (not_not_intro c), if_pos c]
    · rw [if_pos c, if_neg c]
/-- a token that can be taken is followed by another -/
theorem tk_nx (h : EX b n P c m T ν t s) {a : Nat} (ha : a < c) (hf : ¬ fk (t.2.1 9 0 1 a)) : a + 1 < c ∧ ∃ st, TS b n (P (a + 1)) st ∧ st ≤ n ∧ P (a + 1) ≤ n ∧ t.2.1 9 0 2 (a + 1) = nI st ∧ Tok b n t.2.2.1 m (t.2.1 9 0 1 (a + 1)) st (t.2.1 9 0 3 (a + 1)) (t.2.1 9 0 4 (a + 1)) (P (a + 1 + 1)) := by
  obtain ⟨-, -, ⟨-, -, -, -, -, -, htt, -, hlast⟩, -⟩ := h
  have : a + 1 < c := by
    by_cases q : a + 1 = c
    · exfalso
      rw [show c - 1 = a by omega] at hlast
      exact hf hlast
    · omega
  exact ⟨this, htt (a + 1) this⟩
/-- look, with the place before token a at hand -/
theorem look_at (hN : 5000 < N) (h : EX b n P c m T ν t s) (hf : FZ s) {a st : Nat} (ha : a < c) (h4 : s.1 4 = nI (P a)) (hts : TS b n (P a) st) (hst : st ≤ n) (hP : P a ≤ n) (h2 : t.2.1 9 0 2 a = nI st) (htk : Tok b n t.2.2.1 m (t.2.1 9 0 1 a) st (t.2.1 9 0 3 a) (t.2.1 9 0 4 a) (P (a + 1))) : ∃ s2, g_look U S N s = some ((), s2) ∧ TK b n P c m t s s2 a ∧ s2.1 4 = s.1 4 := by
  obtain ⟨hn, hB, ⟨-, -, ec, -, hc, -⟩, -, -, ⟨h3, hb⟩, h10, -⟩ := id h
  obtain ⟨s2, e, l1, l4, l30, l13, lf, l5, l6, l7⟩ := g_look_eq (U := U) (S := S) hN hn h3 hb hB hf (show P a ≤ 2001 by omega) h4 h10 hts htk
  obtain ⟨-, -, r3, r4⟩ := rd_at ec hc ha
  refine ⟨s2, e, ⟨l1, l30, lf, l5, fun z => ?_⟩, l4⟩
  by_cases hbd : bad (t.2.1 9 0 1 a) (t.2.1 9 0 3 a) (t.2.1 9 0 4 a) (t.1 0 0 8)
  · obtain ⟨m1, m2⟩ := (l6 z).1 hbd
    exact Or.inl ⟨r3 hbd, m1, by rw [m2, l13]⟩
  · refine Or.inr ⟨?_, (l6 z).2 hbd, ha, st, h2, hst, l13, htk, l7 hbd, hbd⟩
    rw [r4 hbd]
    exact fun z => hbd (Or.inl z)
theorem fk_t {K : Int32} (hk : K = 1 ∨ K = 2 ∨ K = 3 ∨ (sgn K ∧ ¬ K = 36)) : ¬ fk K := by
  obtain ⟨n0, n1, n2, n3, n4, n5, n6, n10⟩ := sgn_n
  rintro (z | z | z | z)
  · rw [z] at hk; rcases hk with q | q | q | q
    · exact absurd q (by decide)
    · exact absurd q (by decide)
    · exact absurd q (by decide)
    · exact n0 q.1
  · rw [z] at hk; rcases hk with q | q | q | q
    · exact absurd q (by decide)
    · exact absurd q (by decide)
    · exact absurd q (by decide)
    · exact n5 q.1
  · rw [z] at hk; rcases hk with q | q | q | q
    · exact absurd q (by decide)
    · exact absurd q (by decide)
    · exact absurd q (by decide)
    · exact n6 q.1
  · rw [z] at hk; rcases hk with q | q | q | q
    · exact absurd q (by decide)
    · exact absurd q (by decide)
    · exact absurd q (by decide)
    · exact q.2 rfl
/-- where a token that can be taken ends -/
theorem LA_t (h : EX b n P c m T ν t s) {s2 : RS} {a : Nat} (hl : LA b n P c m t s2 a) (hk : t.2.1 9 0 1 a = 1 ∨ t.2.1 9 0 1 a = 2 ∨ t.2.1 9 0 1 a = 3 ∨ (sgn (t.2.1 9 0 1 a) ∧ ¬ t.2.1 9 0 1 a = 36)) : s2.1 16 = nI (P (a + 1)) := by
  obtain ⟨ha, st, -, -, -, htk, ⟨k1, k2, k3, k4, k5⟩, -⟩ := hl
  rcases hk with z | z | z | ⟨z, -⟩
  · obtain ⟨-, w, hw, e16, -⟩ := k2 (Or.inl z)
    rw [e16]
    rw [z] at htk
    rcases htk with ⟨-, q⟩ | ⟨-, -, q, -⟩ | ⟨-, -, y, hy, ⟨-, q⟩ | ⟨-, v, -, -, ⟨-, -, q, -⟩ | ⟨-, -, -, ⟨q, -⟩ | ⟨q, -⟩⟩⟩⟩ | ⟨-, -, -, y, -, ⟨-, q⟩ | ⟨-, q, -⟩⟩ | ⟨-, -, ⟨q, -⟩ | ⟨q, -⟩⟩ | ⟨-, -, -, -, -, -, ⟨q, q2, -⟩ | ⟨q, -⟩⟩
    · exact absurd q (by decide)
    · exact absurd q (by decide)
    · exact absurd q (by decide)
    · rw [q, rn_u hw hy]
    · exact absurd q (by decide)
    · exact absurd q (by decide)
    · exact absurd q (by decide)
    · exact absurd q (by decide)
    · exact absurd q (by decide)
    · exact absurd q (by decide)
    · exfalso; rw [← q] at q2; exact sgn_n.2.1 q2
    · exact absurd q (by decide)
  · exact (k3 z).2.1
  · exact (k4 z).2.1
  · exact (k5 z).2.1
theorem take_at (hN : 5000 < N) (h : EX b n P c m T ν t s) (hf : FZ s) {a : Nat} (hl : LA b n P c m t s a) (hk : t.2.1 9 0 1 a = 1 ∨ t.2.1 9 0 1 a = 2 ∨ t.2.1 9 0 1 a = 3 ∨ (sgn (t.2.1 9 0 1 a) ∧ ¬ t.2.1 9 0 1 a = 36)) : ∃ s2, g_take U S N s = some ((), s2) ∧ TK b n P c m t s s2 (a + 1) := by
  obtain ⟨ha1, st, w1, w2, w3, w4, w5⟩ := tk_nx h hl.1 (fk_t hk)
  have e16 := LA_t h hl hk
  unfold g_take
  rw [Option.bind_some, e16]
  have sl : SL s (pI s 4 (nI (P (a + 1)))) := SL_I (SL_0 s) (by decide) _
  obtain ⟨s2, e, ⟨k1, k2, k3, k4, k5⟩, -⟩ := look_at (U := U) (S := S) (s := pI s 4 (nI (P (a + 1)))) hN (EX_SL h sl) hf ha1 rfl w1 w2 w3 w4 w5
  rw [e, Option.bind_some]
  exact ⟨s2, rfl, SL_t sl k1, k2, k3, k4, k5⟩
end
