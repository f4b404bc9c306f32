/-! LAYER 3, tokens: what the bytes say; the reference's look -/
def rn (P : Nat → Prop) (p q : Nat) : Prop := p ≤ q ∧ (∀ i, p ≤ i → i < q → P i) ∧ ¬ P q
theorem rn_u {P : Nat → Prop} {p q r : Nat} (h : rn P p q) (g : rn P p r) : q = r := by
  obtain ⟨h1, h2, h3⟩ := h
  obtain ⟨g1, g2, g3⟩ := g
  rcases Nat.lt_trichotomy q r with c | c | c
  · exact absurd (g2 q h1 c) h3
  · exact c
  · exact absurd (h2 r g1 c) g3
theorem rn_ex {P : Nat → Prop} {n : Nat} (hP : ∀ i, P i → i < n) : ∀ (m p : Nat), n ≤ p + m → ∃ q, rn P p q ∧ (q = p ∨ q ≤ n) := by
  intro m
  induction m with
  | zero => exact fun p h => ⟨p, ⟨Nat.le_refl _, fun i h1 h2 => by omega, fun z => by have := hP p z; omega⟩, Or.inl rfl⟩
  | succ m ih =>
    intro p h
    by_cases c : P p
    · obtain ⟨q, ⟨h1, h2, h3⟩, h4⟩ := ih (p + 1) (by omega)
      refine ⟨q, ⟨by omega, fun i e1 e2 => ?_, h3⟩, ?_⟩
      · by_cases d : i = p
        · rw [d]; exact c
        · exact h2 i (by omega) e2
      · have := hP p c
        omega
    · exact ⟨p, ⟨Nat.le_refl _, fun i h1 h2 => by omega, c⟩, Or.inl rfl⟩
theorem rn_s {P : Nat → Prop} {p q : Nat} (h : rn P p q) (hp : P p) : rn P (p + 1) q := by
  obtain ⟨h1, h2, h3⟩ := h
  refine ⟨?_, fun i a c => h2 i (by omega) c, h3⟩
  by_cases e : p = q
  · rw [← e] at h3; exact absurd hp h3
  · omega
theorem rn_0 {P : Nat → Prop} {p q : Nat} (h : rn P p q) (hp : ¬ P p) : q = p := rn_u h ⟨Nat.le_refl _, fun i a c => by omega, hp⟩
def blk (b : Nat → Int32) (n i : Nat) : Prop := i < n ∧ b i = 32
def lin (b : Nat → Int32) (n i : Nat) : Prop := i < n ∧ ¬ b i = 10
abbrev ltr (c : Int32) : Prop := ¬ c < 65 ∧ ¬ 90 < c
abbrev dgt (c : Int32) : Prop := ¬ c < 48 ∧ ¬ 57 < c
abbrev pln (c : Int32) : Prop := ¬ c < 32 ∧ ¬ 126 < c
def nmc (b : Nat → Int32) (n i : Nat) : Prop := i < n ∧ (ltr (b i) ∨ dgt (b i))
def dgc (b : Nat → Int32) (n i : Nat) : Prop := i < n ∧ dgt (b i)
abbrev sgn (c : Int32) : Prop := 0 ≤ six 1 c 0
def TS (b : Nat → Int32) (n p st : Nat) : Prop := ∃ q, rn (blk b n) p q ∧ ((q < n ∧ b q = 47 ∧ rn (lin b n) q st) ∨ (¬ (q < n ∧ b q = 47) ∧ st = q))
def nx (b : Nat → Int32) (n z : Nat) (c : Int32) : Prop := ∃ y, rn (blk b n) z y ∧ y < n ∧ b y = c
def txt (b : Nat → Int32) (n z y w : Nat) : Prop := rn (blk b n) z y ∧ y < n ∧ pln (b y) ∧ y + 1 ≤ w ∧ w < n ∧ b w = b y ∧ ∀ i, y + 1 ≤ i → i < w → pln (b i) ∧ ¬ b i = b y
def dg (b : Nat → Int32) (i : Nat) : Nat := (b i).toNatClampNeg - 48
def nvl (r : Nat) (b : Nat → Int32) (st : Nat) : Nat → Nat
  | 0 => 0
  | k + 1 => nvl r b st k * r + dg b (st + k)
def gdr (r : Nat) (b : Nat → Int32) (st k : Nat) : Prop := ∀ i, i < k → dg b (st + i) < r
def pkB (b : Nat → Int32) (st : Nat) : Nat → Int64
  | 0 => 0
  | k + 1 => (pkB b st k <<< ((8 : Int32).toInt64 &&& 63)) ||| (b (st + k)).toInt64
/-- a token of kind K that stands at st, behind which e is -/
def TN (b : Nat → Int32) (n : Nat) (L : Nat → Int64) (m : Nat) (K : Int32) (st : Nat) (v o : Int32) (e z ν : Nat) : Prop := ν < m ∧ pkB b st (z - st) = L ν ∧ ((K = 1 ∧ v = nI ν ∧ e = z ∧ (ν = 4 → nx b n z 44 ∨ nx b n z 61)) ∨ (ν = 4 ∧ ¬ nx b n z 44 ∧ ¬ nx b n z 61 ∧ ((K = 5 ∧ ¬ ∃ y w, txt b n z y w) ∨ (K = 4 ∧ ∃ y w, txt b n z y w ∧ v = nI (y + 1) ∧ o = nI w ∧ e = w + 1))))
def Tok (b : Nat → Int32) (n : Nat) (L : Nat → Int64) (m : Nat) (K : Int32) (st : Nat) (v o : Int32) (e : Nat) : Prop :=
  (n ≤ st ∧ K = 0) ∨ (st < n ∧ b st = 10 ∧ K = 10 ∧ e = st + 1) ∨
  (st < n ∧ ltr (b st) ∧ ∃ z, rn (nmc b n) st z ∧ ((7 < z - st ∧ K = 6) ∨ (z - st ≤ 7 ∧ ∃ ν, TN b n L m K st v o e z ν))) ∨
  (st < n ∧ ¬ ltr (b st) ∧ dgt (b st) ∧ ∃ z, rn (dgc b n) st z ∧ ((4 < z - st ∧ K = 6) ∨ (z - st ≤ 4 ∧ K = 2 ∧ e = z ∧ ((gdr 8 b st (z - st) ∧ v = nI (nvl 8 b st (z - st))) ∨ (¬ gdr 8 b st (z - st) ∧ v = -1)) ∧ ((nvl 10 b st (z - st) ≤ 4095 ∧ o = nI (nvl 10 b st (z - st))) ∨ (4095 < nvl 10 b st (z - st) ∧ o = -1))))) ∨
  (st < n ∧ b st = 34 ∧ ((K = 6 ∧ ¬ (st + 1 < n ∧ pln (b (st + 1)))) ∨ (K = 3 ∧ st + 1 < n ∧ pln (b (st + 1)) ∧ v = (b (st + 1) ||| 128) ∧ e = st + 2))) ∨
  (st < n ∧ ¬ ltr (b st) ∧ ¬ dgt (b st) ∧ ¬ b st = 34 ∧ ¬ b st = 10 ∧ ¬ b st = 47 ∧ ((K = b st ∧ sgn (b st) ∧ e = st + 1) ∨ (K = 6 ∧ ¬ sgn (b st))))
def bad (K v o d : Int32) : Prop := K = 6 ∨ (K = 2 ∧ (if d = 0 then v else o) = -1)
/-- the reference has looked at such a token -/
def LK (b : Nat → Int32) (n : Nat) (s : RS) (K : Int32) (st : Nat) (v o : Int32) (e : Nat) (d : Int32) : Prop :=
  ((K = 0 ∨ K = 10) → s.1 12 = 5 ∧ s.1 16 = nI st) ∧ ((K = 1 ∨ K = 4 ∨ K = 5) → s.1 12 = 1 ∧ ∃ z, rn (nmc b n) st z ∧ s.1 16 = nI z ∧ s.1 15 = nI (z - st)) ∧ (K = 2 → s.1 12 = 2 ∧ s.1 16 = nI e ∧ s.1 14 = (if d = 0 then v else o)) ∧ (K = 3 → s.1 12 = 3 ∧ s.1 16 = nI e ∧ s.1 14 = v) ∧ (sgn K → s.1 12 = 4 ∧ s.1 16 = nI e ∧ s.1 14 = K)
def lkF : List Nat := [4, 5, 6, 12, 13, 14, 15, 16, 30]
def SL (s s2 : RS) : Prop := (∀ k, k ∉ lkF → s2.1 k = s.1 k) ∧ s2.2 = s.2
theorem SL_0 (s : RS) : SL s s := ⟨fun _ _ => rfl, rfl⟩
theorem SL_I {s s2 : RS} (h : SL s s2) {k : Nat} (hk : k ∈ lkF) (x : Int32) : SL s (pI s2 k x) := ⟨fun j hj => by
  show up1 s2.1 k x j = _
  rw [up1_n _ _ (fun e => hj (by rw [e]; exact hk))]
  exact h.1 j hj, h.2⟩
theorem SL_t {s s2 s3 : RS} (h : SL s s2) (g : SL s2 s3) : SL s s3 := ⟨fun k hk => by rw [g.1 k hk, h.1 k hk], by rw [g.2, h.2]⟩
theorem sgn_k {j : Nat} (hj : j < 256) (h : sgn (nI j)) : j = 44 ∨ j = 42 ∨ j = 61 ∨ j = 43 ∨ j = 45 ∨ j = 33 ∨ j = 38 ∨ j = 46 ∨ j = 40 ∨ j = 41 ∨ j = 91 ∨ j = 93 ∨ j = 59 ∨ j = 36 := by
  have key : ∀ j, j < 256 → (0 : Int32) ≤ six 1 (nI j) 0 → j = 44 ∨ j = 42 ∨ j = 61 ∨ j = 43 ∨ j = 45 ∨ j = 33 ∨ j = 38 ∨ j = 46 ∨ j = 40 ∨ j = 41 ∨ j = 91 ∨ j = 93 ∨ j = 59 ∨ j = 36 := by decide +kernel
  exact key j hj h
theorem sgn_y : ∀ c : Int32, (c = 44 ∨ c = 42 ∨ c = 61 ∨ c = 43 ∨ c = 45 ∨ c = 33 ∨ c = 38 ∨ c = 46 ∨ c = 40 ∨ c = 41 ∨ c = 91 ∨ c = 93 ∨ c = 59 ∨ c = 36) → sgn c := by
  unfold sgn
  rintro c (h | h | h | h | h | h | h | h | h | h | h | h | h | h) <;> subst h <;> decide +kernel
theorem sgn_n : ¬ sgn 0 ∧ ¬ sgn 1 ∧ ¬ sgn 2 ∧ ¬ sgn 3 ∧ ¬ sgn 4 ∧ ¬ sgn 5 ∧ ¬ sgn 6 ∧ ¬ sgn 10 := by
  unfold sgn
  decide +kernel
section
variable {U S N n : Nat} {b : Nat → Int32} {s : RS}
theorem g_at_eq (hn : n ≤ 2000) (h3 : s.1 3 = nI n) (hb : ∀ i, i < n → s.2.1 2 i = b i) {x : Nat} (hx : x < 2 ^ 31) : g_at U S N (nI x) s = some (if x < n then b x else 10, s) := by
  unfold g_at g_at_19
  rw [h3]
  by_cases c : x < n
  · rw [if_neg (fun z => by have := (leI (by omega) hx).mp z; omega), rA_y (by decide) (by omega), Option.bind_some, if_pos c, hb x c]
  · rw [if_pos ((leI (by omega) hx).mpr (by omega)), if_neg c]
theorem g_ltr (c : Int32) : g_isLetter U S N c s = some (if ltr c then 1 else 0, s) := by
  unfold g_isLetter ltr
  rw [g_in_eq, Option.bind_some]
  by_cases c1 : c < 65
  · rw [if_pos c1, if_neg (fun z => z.1 c1)]; rfl
  · rw [if_neg c1]
    by_cases c2 : 90 < c
    · rw [if_pos c2, if_neg (fun z => z.2 c2)]; rfl
    · rw [if_neg c2, if_pos ⟨c1, c2⟩]; rfl
theorem g_dgt (c : Int32) : g_isDigit U S N c s = some (if dgt c then 1 else 0, s) := by
  unfold g_isDigit dgt
  rw [g_in_eq, Option.bind_some]
  by_cases c1 : c < 48
  · rw [if_pos c1, if_neg (fun z => z.1 c1)]; rfl
  · rw [if_neg c1]
    by_cases c2 : 57 < c
    · rw [if_pos c2, if_neg (fun z => z.2 c2)]; rfl
    · rw [if_neg c2, if_pos ⟨c1, c2⟩]; rfl
theorem g_pln (c : Int32) : g_in U S N c 32 126 s = some (if pln c then 1 else 0, s) := by
  unfold pln
  rw [g_in_eq]
  by_cases c1 : c < 32
  · rw [if_pos c1, if_neg (fun z => z.1 c1)]
  · rw [if_neg c1]
    by_cases c2 : 126 < c
    · rw [if_pos c2, if_neg (fun z => z.2 c2)]
    · rw [if_neg c2, if_pos ⟨c1, c2⟩]
theorem ff_blk (hn : n ≤ 2000) (h3 : s.1 3 = nI n) (hb : ∀ i, i < n → s.2.1 2 i = b i) {q : Nat} : ∀ (m x : Nat), x < 2 ^ 30 → rn (blk b n) x q → q < x + m → l_look_5 U S N m (nI x) s = g_look_30 U S N (nI q) s := by
  intro m
  induction m with
  | zero => intro x _ h h2; have := h.1; omega
  | succ m ih =>
    intro x hx h h2
    show h_look_5 U S N (l_look_5 U S N m) (nI x) s = _
    unfold h_look_5
    rw [h3]
    by_cases c : x < n
    · rw [if_neg (fun z => by have := (leI (by omega) (by omega)).mp z; omega), rA_y (by decide) (by omega), Option.bind_some, hb x c]
      by_cases d : b x = 32
      · rw [if_neg (not_not_intro d), nI_1]
        exact ih (x + 1) (by omega) (rn_s h ⟨c, d⟩) (by omega)
      · rw [if_pos d, rn_0 h (fun z => d z.2)]
    · rw [if_pos ((leI (by omega) (by omega)).mpr (by omega)), rn_0 h (fun z => c z.1)]
theorem ff_lin (hn : n ≤ 2000) (h3 : s.1 3 = nI n) (hb : ∀ i, i < n → s.2.1 2 i = b i) {q : Nat} : ∀ (m x : Nat), x < 2 ^ 30 → rn (lin b n) x q → q < x + m → l_look_65 U S N m (nI x) s = g_look_90 U S N (nI q) s := by
  intro m
  induction m with
  | zero => intro x _ h h2; have := h.1; omega
  | succ m ih =>
    intro x hx h h2
    show h_look_65 U S N (l_look_65 U S N m) (nI x) s = _
    unfold h_look_65
    rw [h3]
    by_cases c : x < n
    · rw [if_neg (fun z => by have := (leI (by omega) (by omega)).mp z; omega), rA_y (by decide) (by omega), Option.bind_some, hb x c]
      by_cases d : b x = 10
      · rw [if_pos d, rn_0 h (fun z => z.2 d)]
      · rw [if_neg d, nI_1]
        exact ih (x + 1) (by omega) (rn_s h ⟨c, d⟩) (by omega)
    · rw [if_pos ((leI (by omega) (by omega)).mpr (by omega)), rn_0 h (fun z => c z.1)]
theorem ff_nxt (hn : n ≤ 2000) (h3 : s.1 3 = nI n) (hb : ∀ i, i < n → s.2.1 2 i = b i) {q : Nat} (a1 : Int32) : ∀ (m x : Nat), x < 2 ^ 30 → rn (blk b n) x q → q < x + m → l_isNext_5 U S N m a1 (nI x) s = g_isNext_30 U S N a1 (nI q) s := by
  intro m
  induction m with
  | zero => intro x _ h h2; have := h.1; omega
  | succ m ih =>
    intro x hx h h2
    show h_isNext_5 U S N (l_isNext_5 U S N m) a1 (nI x) s = _
    unfold h_isNext_5
    rw [h3]
    by_cases c : x < n
    · rw [if_neg (fun z => by have := (leI (by omega) (by omega)).mp z; omega), rA_y (by decide) (by omega), Option.bind_some, hb x c]
      by_cases d : b x = 32
      · rw [if_neg (not_not_intro d), nI_1]
        exact ih (x + 1) (by omega) (rn_s h ⟨c, d⟩) (by omega)
      · rw [if_pos d, rn_0 h (fun z => d z.2)]
    · rw [if_pos ((leI (by omega) (by omega)).mpr (by omega)), rn_0 h (fun z => c z.1)]
theorem blk_n {i : Nat} (h : blk b n i) : i < n := h.1
theorem lin_n {i : Nat} (h : lin b n i) : i < n := h.1
theorem nmc_n {i : Nat} (h : nmc b n i) : i < n := h.1
theorem dgc_n {i : Nat} (h : dgc b n i) : i < n := h.1
theorem rn_le {P : Nat → Prop} (hP : ∀ i, P i → i < n) {p q : Nat} (h : rn P p q) : q = p ∨ q ≤ n := by
  obtain ⟨r, h1, h2⟩ := rn_ex hP n p (by omega)
  rw [rn_u h h1]
  exact h2
/-- isNext -/
theorem g_next_eq (hN : 5000 < N) (hn : n ≤ 2000) (h3 : s.1 3 = nI n) (hb : ∀ i, i < n → s.2.1 2 i = b i) (a1 : Int32) {z : Nat} (hz : z ≤ 2001) (hz2 : s.1 16 = nI z) : (nx b n z a1 → g_isNext U S N a1 s = some (1, s)) ∧ (¬ nx b n z a1 → g_isNext U S N a1 s = some (0, s)) := by
  obtain ⟨q, hq, hq2⟩ := rn_ex (fun i => blk_n (b := b) (n := n) (i := i)) n z (by omega)
  have e : g_isNext U S N a1 s = g_isNext_30 U S N a1 (nI q) s := by
    show l_isNext_5 U S N N a1 (s.1 16) s = _
    rw [hz2]
    exact ff_nxt hn h3 hb a1 N z (by omega) hq (by omega)
  rw [e]
  unfold g_isNext_30 g_isNext_52 g_isNext_53
  rw [h3]
  by_cases c : q < n
  · rw [if_neg (fun z => by have := (leI (by omega) (by omega)).mp z; omega), rA_y (by decide) (by omega), Option.bind_some, hb q c]
    by_cases d : b q = a1
    · rw [if_neg (not_not_intro d)]
      exact ⟨fun _ => rfl, fun k => absurd ⟨q, hq, c, d⟩ k⟩
    · rw [if_pos d]
      exact ⟨fun ⟨y, y1, y2, y3⟩ => absurd (by rw [rn_u hq y1]; exact y3) d, fun _ => rfl⟩
  · rw [if_pos ((leI (by omega) (by omega)).mpr (by omega))]
    exact ⟨fun ⟨y, y1, y2, y3⟩ => absurd (by rw [rn_u hq y1]; exact y2) c, fun _ => rfl⟩
end
