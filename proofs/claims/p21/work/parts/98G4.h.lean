/-! LAYER 3, tokens: the class's row of tokens, first half -/
def fk (K : Int32) : Prop := K = 0 ∨ K = 5 ∨ K = 6 ∨ K = 36
def apT (t : CS) (c : Nat) (k : Int32) (e : Nat) (v o : Int32) : CS := qI (qI (qA (qA (qA (qA t 9 0 1 c k) 9 0 2 c (t.1 9 0 8)) 9 0 3 c v) 9 0 4 c o) 9 0 5 (nI (c + 1))) 9 0 8 (nI e)
def nmT (t : CS) (m : Nat) (a : Int64) : CS := qI (qA (qA (qJ t m a) 4 0 1 m 0) 4 0 2 m 0) 4 0 3 (nI (m + 1))
theorem updL_y (f : Nat → Int64) (u : Nat) (x : Int64) : vp_updL f u x u = x := by unfold vp_updL; rw [if_pos rfl]
theorem updL_n (f : Nat → Int64) {u j : Nat} (x : Int64) (h : j ≠ u) : vp_updL f u x j = f j := by unfold vp_updL; rw [if_neg h]
theorem Tok_m {b : Nat → Int32} {n m m2 : Nat} {L L2 : Nat → Int64} {K v o : Int32} {st e : Nat} (h : Tok b n L m K st v o e) (hm : m ≤ m2) (hL : ∀ i, i < m → L2 i = L i) : Tok b n L2 m2 K st v o e := by
  rcases h with h | h | ⟨h1, h2, z, hz, h | ⟨h3, ν, k1, k2, k3⟩⟩ | h | h | h
  · exact Or.inl h
  · exact Or.inr (Or.inl h)
  · exact Or.inr (Or.inr (Or.inl ⟨h1, h2, z, hz, Or.inl h⟩))
  · exact Or.inr (Or.inr (Or.inl ⟨h1, h2, z, hz, Or.inr ⟨h3, ν, by omega, by rw [hL ν k1]; exact k2, k3⟩⟩))
  · exact Or.inr (Or.inr (Or.inr (Or.inl h)))
  · exact Or.inr (Or.inr (Or.inr (Or.inr (Or.inl h))))
  · exact Or.inr (Or.inr (Or.inr (Or.inr (Or.inr h))))
section
variable {U S N n c m : Nat} {t0 t : CS} {b : Nat → Int32}
theorem e_bA (eL : t.1 9 0 7 = nI n) (hn : n ≤ 2000) (hb : t.2.1 11 0 0 = b) {y : Nat} (hy : y < 2 ^ 31) : bA t (nI y) = if y < n then b y else -1 := by
  unfold bA
  rw [if_neg (nI_nn hy), eL, nI_clamp (by omega), hb]
  by_cases c : y < n
  · rw [if_pos ((ltI hy (by omega)).mpr c), if_pos c]
  · rw [if_neg (fun z => c ((ltI hy (by omega)).mp z)), if_neg c]
theorem c_ltr (x : Int32) : u_X9_isLetter U S N x t = some (if ltr x then 1 else 0, t) := by
  unfold u_X9_isLetter u_X9_isLetter_16 u_X9_isLetter_17
  by_cases c1 : x < 65
  · rw [if_pos c1, if_neg (fun z => z.1 c1)]; rfl
  · rw [if_neg c1]
    by_cases c2 : 90 < x
    · rw [if_pos c2, if_neg (fun z => z.2 c2)]; rfl
    · rw [if_neg c2, if_pos ⟨c1, c2⟩]; rfl
theorem c_dgt (x : Int32) : u_X9_isDigit U S N x t = some (if dgt x then 1 else 0, t) := by
  unfold u_X9_isDigit u_X9_isDigit_16 u_X9_isDigit_17
  by_cases c1 : x < 48
  · rw [if_pos c1, if_neg (fun z => z.1 c1)]; rfl
  · rw [if_neg c1]
    by_cases c2 : 57 < x
    · rw [if_pos c2, if_neg (fun z => z.2 c2)]; rfl
    · rw [if_neg c2, if_pos ⟨c1, c2⟩]; rfl
theorem c_pln (x : Int32) : u_X9_isPlain U S N x t = some (if pln x then 1 else 0, t) := by
  unfold u_X9_isPlain u_X9_isPlain_16 u_X9_isPlain_17
  by_cases c1 : x < 32
  · rw [if_pos c1, if_neg (fun z => z.1 c1)]; rfl
  · rw [if_neg c1]
    by_cases c2 : 126 < x
    · rw [if_pos c2, if_neg (fun z => z.2 c2)]; rfl
    · rw [if_neg c2, if_pos ⟨c1, c2⟩]; rfl
theorem c_skip (hN : 5000 < N) (h : CA t) (eL : t.1 9 0 7 = nI n) (hn : n ≤ 2000) (hb : t.2.1 11 0 0 = b) {x q : Nat} (hx : x ≤ 2001) (hq : rn (blk b n) x q) : u_X9_skipBlanks U S N (nI x) t = some (nI q, t) := by
  have loop : ∀ (f x : Nat), x ≤ 2001 → rn (blk b n) x q → q < x + f → ul_X9_skipBlanks_2 U S N f (nI x) t = some (nI q, t) := by
    intro f
    induction f with
    | zero => intro x _ h1 h2; have := h1.1; omega
    | succ f ih =>
      intro x hx hr h2
      show uh_X9_skipBlanks_2 U S N (ul_X9_skipBlanks_2 U S N f) (nI x) t = _
      unfold uh_X9_skipBlanks_2 u_X9_skipBlanks_26
      rw [eL, e_byte h, Option.bind_some, e_bA eL hn hb (by omega)]
      by_cases c : x < n
      · rw [if_neg (fun z => by have := (leI (by omega) (by omega)).mp z; omega)]
        show (if ¬ (if x < n then b x else -1) = 32 then _ else _) = _
        rw [if_pos c]
        by_cases d : b x = 32
        · rw [if_neg (not_not_intro d), nI_1]
          exact ih (x + 1) (by omega) (rn_s hr ⟨c, d⟩) (by omega)
        · rw [if_pos d, rn_0 hr (fun z => d z.2)]
      · rw [if_pos ((leI (by omega) (by omega)).mpr (by omega)), rn_0 hr (fun z => c z.1)]
  exact loop N x hx hq (by have := rn_le (fun i => blk_n (b := b) (n := n) (i := i)) hq; omega)
theorem c_rem (hN : 5000 < N) (h : GA t0 t) (eL : t.1 9 0 7 = nI n) (hn : n ≤ 2000) (hb : t.2.1 11 0 0 = b) {q st : Nat} (hq : q ≤ n) (e8 : t.1 9 0 8 = nI q) (hst : (q < n ∧ b q = 47 ∧ rn (lin b n) q st) ∨ (¬ (q < n ∧ b q = 47) ∧ st = q)) : u_X9_skipRemark U S N t = some ((), qI t 9 0 8 (nI st)) := by
  have loop : ∀ (f x : Nat), x ≤ n → rn (lin b n) x st → st < x + f → ul_X9_skipRemark_14 U S N f (qI t 9 0 8 (nI x)) = some ((), qI t 9 0 8 (nI st)) := by
    intro f
    induction f with
    | zero => intro x _ h1 h2; have := h1.1; omega
    | succ f ih =>
      intro x hx hr h2
      show uh_X9_skipRemark_14 U S N (ul_X9_skipRemark_14 U S N f) (qI t 9 0 8 (nI x)) = _
      unfold uh_X9_skipRemark_14 u_X9_skipRemark_51
      have hG := GA_98 h (show x ≤ 2001 by omega)
      show (if t.1 9 0 7 ≤ nI x then _ else (u_X9_byteAt U S N (nI x) (qI t 9 0 8 (nI x))).bind _) = _
      rw [eL, e_byte hG.1, Option.bind_some, e_bA (t := qI t 9 0 8 (nI x)) eL hn hb (by omega)]
      by_cases c : x < n
      · rw [if_neg (fun z => by have := (leI (by omega) (by omega)).mp z; omega)]
        show (if (if x < n then b x else -1) = 10 then _ else _) = _
        rw [if_pos c]
        by_cases d : b x = 10
        · rw [if_pos d, rn_0 hr (fun z => z.2 d)]
        · rw [if_neg d, Option.bind_some]
          show ul_X9_skipRemark_14 U S N f (qI (qI t 9 0 8 (nI x)) 9 0 8 (nI x + 1)) = _
          rw [qI_qI, nI_1]
          exact ih (x + 1) (by omega) (rn_s hr ⟨c, d⟩) (by omega)
      · rw [if_pos ((leI (by omega) (by omega)).mpr (by omega)), rn_0 hr (fun z => c z.1)]
  unfold u_X9_skipRemark
  rw [e8, e_byte h.1, Option.bind_some, e_bA eL hn hb (by omega)]
  show (if (if q < n then b q else -1) = 47 then _ else _) = _
  rcases hst with ⟨h1, h2, h3⟩ | ⟨h1, rfl⟩
  · rw [if_pos h1, if_pos h2]
    have := loop N q hq h3 (by have := rn_le (fun i => lin_n (b := b) (n := n) (i := i)) h3; omega)
    rw [qI_id t e8] at this
    exact this
  · rw [qI_id t e8]
    by_cases c : st < n
    · rw [if_pos c, if_neg (fun z => h1 ⟨c, z⟩)]
    · rw [if_neg c, if_neg (by decide)]
theorem e_append (ec : t.1 9 0 5 = nI c) (hc : c < 2001) (k v o : Int32) (e : Nat) : u_X9_append U S N k (nI e) v o t = some (k, apT t c k e v o) := by
  unfold u_X9_append u_X9_append_66 apT
  rw [ec, if_neg (fun z => by have := (leI (a := 2001) (by decide) (by omega)).mp z; omega), wH_y (by decide) hc, Option.bind_some]
  rw [show (qA t 9 0 1 c k).1 9 0 5 = nI c from ec, wH_y (by decide) hc, Option.bind_some]
  rw [show (qA (qA t 9 0 1 c k) 9 0 2 c ((qA t 9 0 1 c k).1 9 0 8)).1 9 0 5 = nI c from ec, wH_y (by decide) hc, Option.bind_some]
  rw [show (qA (qA (qA t 9 0 1 c k) 9 0 2 c ((qA t 9 0 1 c k).1 9 0 8)) 9 0 3 c v).1 9 0 5 = nI c from ec, wH_y (by decide) hc, Option.bind_some]
  rw [show (qA (qA (qA (qA t 9 0 1 c k) 9 0 2 c ((qA t 9 0 1 c k).1 9 0 8)) 9 0 3 c v) 9 0 4 c o).1 9 0 5 = nI c from ec, nI_1]
  rfl
theorem e_app2 (ec : t.1 9 0 5 = nI c) (hc : c < 2001) (k v o : Int32) (e : Nat) : ((u_X9_append U S N k (nI e) v o t).bind fun q => some (q.1, q.2)) = some (k, apT t c k e v o) := by
  rw [e_append ec hc]; rfl
theorem e_num_y (hN : 5000 < N) (em : t.1 4 0 3 = nI m) (hm : m ≤ 1054) {a : Int64} {i0 : Nat} (h0 : i0 < m) (he : t.2.2.1 i0 = a) (hi : ∀ i, i < m → t.2.2.1 i = a → i = i0) : u_X4_numberOf U S N a t = some (nI i0, t) := by
  have loop : ∀ (f i : Nat), i ≤ i0 → i0 < i + f → ul_X4_numberOf_2 U S N f a (nI i) t = some (nI i0, t) := by
    intro f
    induction f with
    | zero => intro i h1 h2; omega
    | succ f ih =>
      intro i h1 h2
      show uh_X4_numberOf_2 U S N (ul_X4_numberOf_2 U S N f) a (nI i) t = _
      unfold uh_X4_numberOf_2 rJ
      rw [em, if_neg (fun z => by have := (leI (by omega) (by omega)).mp z; omega), if_neg (nI_in (N := 1054) (by omega) (by decide)), nI_clamp (by omega), Option.bind_some]
      by_cases c : t.2.2.1 i = a
      · rw [if_neg (not_not_intro ((lg_cmp_eq _ _).mpr c)), hi i (by omega) c]
      · rw [if_pos (fun z => c ((lg_cmp_eq _ _).mp z)), nI_1]
        exact ih (i + 1) (by have : i ≠ i0 := fun q => c (by rw [q]; exact he); omega) (by omega)
  exact loop N 0 (by omega) (by omega)
theorem e_num_n (hN : 5000 < N) (em : t.1 4 0 3 = nI m) (hm : m < 1054) {a : Int64} (hi : ∀ i, i < m → ¬ t.2.2.1 i = a) : u_X4_numberOf U S N a t = some (nI m, nmT t m a) := by
  have loop : ∀ (f i : Nat), i ≤ m → m < i + f → ul_X4_numberOf_2 U S N f a (nI i) t = some (nI m, nmT t m a) := by
    intro f
    induction f with
    | zero => intro i h1 h2; omega
    | succ f ih =>
      intro i h1 h2
      show uh_X4_numberOf_2 U S N (ul_X4_numberOf_2 U S N f) a (nI i) t = _
      unfold uh_X4_numberOf_2 rJ
      rw [em]
      by_cases c : i = m
      · rw [if_pos ((leI (by omega) (by omega)).mpr (by omega)), if_pos ((ltI (by omega) (by decide)).mpr hm)]
        unfold wJ
        rw [if_neg (nI_in (N := 1054) hm (by decide)), nI_clamp (by omega), Option.bind_some]
        rw [show (qJ t m a).1 4 0 3 = nI m from em, wH_y (by decide) hm, Option.bind_some]
        rw [show (qA (qJ t m a) 4 0 1 m 0).1 4 0 3 = nI m from em, wH_y (by decide) hm, Option.bind_some]
        rw [show (qA (qA (qJ t m a) 4 0 1 m 0) 4 0 2 m 0).1 4 0 3 = nI m from em, nI_1, Option.bind_some]
        show some (nI (m + 1) - 1, nmT t m a) = _
        rw [show nI (m + 1) - 1 = nI m from by rw [nI_m1 (by omega)]; rfl]
      · rw [if_neg (fun z => by have := (leI (by omega) (by omega)).mp z; omega), if_neg (nI_in (N := 1054) (by omega) (by decide)), nI_clamp (by omega), Option.bind_some, if_pos (fun z => hi i (by omega) ((lg_cmp_eq _ _).mp z)), nI_1]
        exact ih (i + 1) (by omega) (by omega)
  exact loop N 0 (by omega) (by omega)
end
