/-! LAYER 3, names: the reference finds a name -/
section
variable {U S N n : Nat} {b : Nat → Int32} {s : RS} {a0 base cnt len : Nat} {o l : Nat → Nat} {ch : Nat → Int32}
theorem find_in (hn : n ≤ 2000) (hb : ∀ i, i < n → s.2.1 2 i = b i) (hT : STab a0 base cnt len o l ch) {st k j : Nat} (hk : k ≤ 7) (hst : st + k ≤ n) (hj : j < cnt) (hl : l j = k) (k6 : Nat → Int32 → Int32 → Int32 → Int32 → RS → Option (Int32 × RS)) (w : Int32) : ∀ (f i : Nat), i ≤ k → k < i + f → ((∀ i2, i ≤ i2 → i2 < k → ch (o j + i2) = b (st + i2)) → l_find_44 U S N k6 f a0 (nI st) (nI k) w (nI (o j)) (nI (o j + l j)) 1 (nI i) s = g_find_86 U S N k6 a0 (nI st) (nI k) w (nI (o j + l j)) 1 s) ∧ ((¬ ∀ i2, i ≤ i2 → i2 < k → ch (o j + i2) = b (st + i2)) → l_find_44 U S N k6 (f + 1) a0 (nI st) (nI k) w (nI (o j)) (nI (o j + l j)) 1 (nI i) s = g_find_86 U S N k6 a0 (nI st) (nI k) w (nI (o j + l j)) 0 s) := by
  obtain ⟨-, hlen, -, -, hT2⟩ := hT
  obtain ⟨-, -, hoj, -, -, hch⟩ := hT2 j hj
  intro f
  induction f with
  | zero => intro i h1 h2; omega
  | succ f ih =>
    intro i h1 h2
    have st1 : ∀ f2, l_find_44 U S N k6 (f2 + 1) a0 (nI st) (nI k) w (nI (o j)) (nI (o j + l j)) 1 (nI i) s = h_find_44 U S N k6 (l_find_44 U S N k6 f2) a0 (nI st) (nI k) w (nI (o j)) (nI (o j + l j)) 1 (nI i) s := fun _ => rfl
    by_cases q : i = k
    · constructor
      · intro _
        rw [st1]
        unfold h_find_44
        rw [if_pos ((leI (by omega) (by omega)).mpr (by omega))]
      · intro z
        exact absurd (fun i2 _ _ => by omega) z
    · have hik : i < k := by omega
      obtain ⟨hc1, -⟩ := hch i (by omega)
      have eb : ∀ f2, l_find_44 U S N k6 (f2 + 1) a0 (nI st) (nI k) w (nI (o j)) (nI (o j + l j)) 1 (nI i) s = if ¬ ch (o j + i) = b (st + i) then l_find_44 U S N k6 f2 a0 (nI st) (nI k) w (nI (o j)) (nI (o j + l j)) 0 (nI (i + 1)) s else l_find_44 U S N k6 f2 a0 (nI st) (nI k) w (nI (o j)) (nI (o j + l j)) 1 (nI (i + 1)) s := by
        intro f2
        rw [st1]
        unfold h_find_44 g_find_78
        rw [if_neg (fun z => by have := (leI (by omega) (by omega)).mp z; omega), if_neg (by decide), nI_add, hc1, Option.bind_some, nI_add, rA_y (by decide) (by omega), Option.bind_some, hb _ (by omega), nI_1]
      by_cases c : ch (o j + i) = b (st + i)
      · obtain ⟨i1, i2⟩ := ih (i + 1) (by omega) (by omega)
        constructor
        · intro h
          rw [eb, if_neg (not_not_intro c)]
          exact i1 (fun i3 h3 h4 => h i3 (by omega) h4)
        · intro h
          rw [eb, if_neg (not_not_intro c)]
          refine i2 (fun h5 => h (fun i3 h3 h4 => ?_))
          by_cases e : i3 = i
          · rw [e]; exact c
          · exact h5 i3 (by omega) h4
      · constructor
        · intro h
          exact absurd (h i (Nat.le_refl _) hik) c
        · intro _
          rw [eb, if_pos c]
          show h_find_44 U S N k6 (l_find_44 U S N k6 f) a0 (nI st) (nI k) w (nI (o j)) (nI (o j + l j)) 0 (nI (i + 1)) s = _
          unfold h_find_44
          by_cases z : nI k ≤ nI (i + 1)
          · rw [if_pos z]
          · rw [if_neg z, if_pos rfl]
/-- which of the text's names the bytes are -/
theorem find_eq (hN : 5000 < N) (hn : n ≤ 2000) (hb : ∀ i, i < n → s.2.1 2 i = b i) (hT : STab a0 base cnt len o l ch) (hcnt : cnt < 100) {st k : Nat} (hk : k ≤ 7) (hst : st + k ≤ n) (hc : chs b st k) : (∀ j, j < cnt → pkB b st k = nm0.2.1 (base + j) → (∀ j2, j2 < j → ¬ pkB b st k = nm0.2.1 (base + j2)) → g_find U S N a0 (nI st) (nI k) s = some (nI j, s)) ∧ ((∀ j, j < cnt → ¬ pkB b st k = nm0.2.1 (base + j)) → g_find U S N a0 (nI st) (nI k) s = some (-1, s)) := by
  obtain ⟨N, rfl⟩ : ∃ k, N = k + 1 := ⟨N - 1, by omega⟩
  obtain ⟨h1, hlen, h3, h4, h5⟩ := id hT
  have step : ∀ (f j : Nat), j < cnt → l_find_6 U S (N + 1) (f + 1) a0 (nI st) (nI k) (nI j) (nI (o j)) s = if pkB b st k = nm0.2.1 (base + j) then some (nI j, s) else l_find_6 U S (N + 1) f a0 (nI st) (nI k) (nI (j + 1)) (nI (o (j + 1))) s := by
    intro f j hj
    obtain ⟨g1, g2, g3, g4, g5, g6⟩ := h5 j hj
    have hch : chs ch (o j) (l j) := fun i hi => by
      obtain ⟨-, c1, c2, c3⟩ := g6 i hi
      exact ⟨_, c1, c2, c3⟩
    have e86 : ∀ (x : Int32), g_find_86 U S (N + 1) (l_find_6 U S (N + 1) f) a0 (nI st) (nI k) (nI j) (nI (o j + l j)) x s = if x = 0 then l_find_6 U S (N + 1) f a0 (nI st) (nI k) (nI (j + 1)) (nI (o (j + 1))) s else some (nI j, s) := by
      intro x
      unfold g_find_86
      rw [nI_1, nI_1, g1]
    show h_find_6 U S (N + 1) (l_find_6 U S (N + 1) f) a0 (nI st) (nI k) (nI j) (nI (o j)) s = _
    unfold h_find_6 g_find_39
    rw [h1, Option.bind_some, if_neg (fun z => by have := (leI (by omega) (by omega)).mp z; omega), g4, Option.bind_some, sub_nI (by omega), show o j + l j - o j = l j by omega]
    by_cases c : l j = k
    · rw [if_neg (not_not_intro (by rw [c]))]
      obtain ⟨i1, i2⟩ := find_in (U := U) (S := S) (N := N + 1) hn hb hT hk hst hj c (l_find_6 U S (N + 1) f) (nI j) N 0 (by omega) (by omega)
      obtain ⟨i3, -⟩ := find_in (U := U) (S := S) (N := N + 1) hn hb hT hk hst hj c (l_find_6 U S (N + 1) f) (nI j) (N + 1) 0 (by omega) (by omega)
      by_cases d : ∀ i2, 0 ≤ i2 → i2 < k → ch (o j + i2) = b (st + i2)
      · have hp : pkB b st k = nm0.2.1 (base + j) := by
          rw [← g5, c]
          exact pk_ext k (fun i hi => (d i (Nat.zero_le _) hi).symm)
        rw [if_pos hp]
        refine (i3 d).trans ?_
        rw [e86, if_neg (by decide)]
      · have hp : ¬ pkB b st k = nm0.2.1 (base + j) := by
          rw [← g5]
          intro z
          obtain ⟨-, z2⟩ := pk_inj hk g2 hc hch z
          exact d (fun i _ hi => (z2 i hi).symm)
        rw [if_neg hp]
        refine (i2 d).trans ?_
        rw [e86, if_pos rfl]
    · have hp : ¬ pkB b st k = nm0.2.1 (base + j) := by
        rw [← g5]
        intro z
        exact c (pk_inj hk g2 hc hch z).1.symm
      rw [if_pos (fun z => c ((eqI (by omega) (by omega)).mp z)), if_neg hp]
      show h_find_44 U S (N + 1) (l_find_6 U S (N + 1) f) (l_find_44 U S (N + 1) (l_find_6 U S (N + 1) f) N) a0 (nI st) (nI k) (nI j) (nI (o j)) (nI (o j + l j)) 0 0 s = _
      unfold h_find_44
      rw [e86]
      by_cases z : nI k ≤ 0
      · rw [if_pos z]; rfl
      · rw [if_neg z]; rfl
  have fin : ∀ f, l_find_6 U S (N + 1) (f + 1) a0 (nI st) (nI k) (nI cnt) (nI (o cnt)) s = some (-1, s) := by
    intro f
    show h_find_6 U S (N + 1) (l_find_6 U S (N + 1) f) a0 (nI st) (nI k) (nI cnt) (nI (o cnt)) s = _
    unfold h_find_6
    rw [h1, Option.bind_some, h4, if_pos ((leI (by omega) (by omega)).mpr (Nat.le_refl _))]
  have e0 : g_find U S (N + 1) a0 (nI st) (nI k) s = l_find_6 U S (N + 1) (N + 1) a0 (nI st) (nI k) (nI 0) (nI (o 0)) s := by rw [h3]; rfl
  rw [e0]
  constructor
  · intro j hj hy hno
    have go : ∀ (d i f : Nat), i + d = j → d < f → l_find_6 U S (N + 1) f a0 (nI st) (nI k) (nI i) (nI (o i)) s = some (nI j, s) := by
      intro d
      induction d with
      | zero =>
        intro i f h1 h2
        obtain ⟨f, rfl⟩ : ∃ k, f = k + 1 := ⟨f - 1, by omega⟩
        have : i = j := by omega
        subst this
        rw [step f i hj, if_pos hy]
      | succ d ih =>
        intro i f h1 h2
        obtain ⟨f, rfl⟩ : ∃ k, f = k + 1 := ⟨f - 1, by omega⟩
        rw [step f i (by omega), if_neg (hno i (by omega))]
        exact ih (i + 1) f (by omega) (by omega)
    exact go j 0 (N + 1) (by omega) (by omega)
  · intro hno
    have go : ∀ (d i f : Nat), i + d = cnt → d < f → l_find_6 U S (N + 1) f a0 (nI st) (nI k) (nI i) (nI (o i)) s = some (-1, s) := by
      intro d
      induction d with
      | zero =>
        intro i f h1 h2
        obtain ⟨f, rfl⟩ : ∃ k, f = k + 1 := ⟨f - 1, by omega⟩
        have : i = cnt := by omega
        subst this
        exact fin f
      | succ d ih =>
        intro i f h1 h2
        obtain ⟨f, rfl⟩ : ∃ k, f = k + 1 := ⟨f - 1, by omega⟩
        rw [step f i (by omega), if_neg (hno i (by omega))]
        exact ih (i + 1) f (by omega) (by omega)
    exact go cnt 0 (N + 1) (by omega) (by omega)
/-- by its number -/
theorem find_no (hN : 5000 < N) (hn : n ≤ 2000) (hb : ∀ i, i < n → s.2.1 2 i = b i) (hT : STab a0 base cnt len o l ch) (hcnt : cnt < 100) (hbc : base + cnt ≤ 53) {L : Nat → Int64} {m : Nat} (hm : 53 ≤ m) (hinj : ∀ i j, i < m → j < m → L i = L j → i = j) (hfix : ∀ i, i < 53 → L i = nm0.2.1 i) {st k ν : Nat} (hk : k ≤ 7) (hst : st + k ≤ n) (hc : chs b st k) (hν : ν < m) (hp : pkB b st k = L ν) : g_find U S N a0 (nI st) (nI k) s = some (if base ≤ ν ∧ ν < base + cnt then nI (ν - base) else -1, s) := by
  obtain ⟨f1, f2⟩ := find_eq (U := U) (S := S) hN hn hb hT hcnt hk hst hc
  have key : ∀ j, j < cnt → (pkB b st k = nm0.2.1 (base + j) ↔ ν = base + j) := by
    intro j hj
    rw [hp, ← hfix (base + j) (by omega)]
    exact ⟨fun z => hinj _ _ hν (by omega) z, fun z => by rw [z]⟩
  by_cases c : base ≤ ν ∧ ν < base + cnt
  · rw [if_pos c]
    exact f1 (ν - base) (by omega) ((key _ (by omega)).mpr (by omega)) (fun j2 h2 z => by have := (key j2 (by omega)).mp z; omega)
  · rw [if_neg c]
    exact f2 (fun j hj z => by have := (key j hj).mp z; omega)
end
