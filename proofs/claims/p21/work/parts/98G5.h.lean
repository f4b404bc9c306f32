/-! LAYER 3, tokens: the class's row of tokens, second half -/
def NV (t : CS) (m : Nat) : Prop := t.1 4 0 3 = nI m ∧ 53 ≤ m ∧ m ≤ 1054 ∧ (∀ i j, i < m → j < m → t.2.2.1 i = t.2.2.1 j → i = j) ∧ FX t ∧ (∀ i, 53 ≤ i → i < m → t.2.1 4 0 1 i = 0 ∧ t.2.1 4 0 2 i = 0) ∧ t.1 4 0 4 = 0
def SX (b : Nat → Int32) (n m x : Nat) : Prop := 2 * (m - 53) ≤ x ∨ (2 * (m - 53) ≤ x + 1 ∧ ¬ nmc b n x)
def nT (t t2 : CS) (m m2 : Nat) : Prop := (t2 = t ∧ m2 = m) ∨ ∃ a, t2 = nmT t m a ∧ m2 = m + 1
theorem NV_n {t : CS} {m : Nat} (h : NV t m) (hm : m < 1054) {a : Int64} (hi : ∀ i, i < m → ¬ t.2.2.1 i = a) : NV (nmT t m a) (m + 1) := by
  obtain ⟨h1, h2, h3, h4, h5, h6, h7⟩ := h
  have eL : ∀ i, i < m → (nmT t m a).2.2.1 i = t.2.2.1 i := fun i hi => updL_n _ _ (by omega)
  have em : (nmT t m a).2.2.1 m = a := updL_y _ _ _
  have e1 : ∀ i, (nmT t m a).2.1 4 0 1 i = upd (t.2.1 4 0 1) m 0 i := fun i => rfl
  have e2 : ∀ i, (nmT t m a).2.1 4 0 2 i = upd (t.2.1 4 0 2) m 0 i := fun i => rfl
  refine ⟨rfl, by omega, by omega, fun i j hi2 hj2 he => ?_, fun i hi2 => ?_, fun i hi2 hi3 => ?_, h7⟩
  · by_cases ci : i = m
    · by_cases cj : j = m
      · omega
      · rw [ci, em, eL j (by omega)] at he
        exact absurd he.symm (hi j (by omega))
    · rw [eL i (by omega)] at he
      by_cases cj : j = m
      · rw [cj, em] at he
        exact absurd he (hi i (by omega))
      · rw [eL j (by omega)] at he
        exact h4 i j (by omega) (by omega) he
  · rw [eL i (by omega), e1, e2, upd_n _ _ (by omega), upd_n _ _ (by omega)]
    exact h5 i hi2
  · rw [e1, e2]
    by_cases ci : i = m
    · rw [ci, upd_y, upd_y]; exact ⟨rfl, rfl⟩
    · rw [upd_n _ _ ci, upd_n _ _ ci]; exact h6 i hi2 (by omega)
section
variable {U S N n c m x : Nat} {t0 t : CS} {b : Nat → Int32}
/-- the number of a name, told once more -/
theorem e_num (hN : 5000 < N) (h : NV t m) (hm : m < 1054) (a : Int64) : ∃ ν t2 m2, u_X4_numberOf U S N a t = some (nI ν, t2) ∧ nT t t2 m m2 ∧ NV t2 m2 ∧ ν < m2 ∧ t2.2.2.1 ν = a ∧ m ≤ m2 ∧ m2 ≤ m + 1 ∧ (ν < 53 → t2 = t ∧ m2 = m) := by
  by_cases c : ∃ i, i < m ∧ t.2.2.1 i = a
  · obtain ⟨i, hi, he⟩ := c
    refine ⟨i, t, m, e_num_y hN h.1 (by omega) hi he (fun j hj hj2 => h.2.2.2.1 j i hj hi (hj2.trans he.symm)), Or.inl ⟨rfl, rfl⟩, h, hi, he, Nat.le_refl _, by omega, fun _ => ⟨rfl, rfl⟩⟩
  · have hi : ∀ i, i < m → ¬ t.2.2.1 i = a := fun i h1 h2 => c ⟨i, h1, h2⟩
    have := h.2.1
    exact ⟨m, nmT t m a, m + 1, e_num_n hN h.1 hm hi, Or.inr ⟨a, rfl, rfl⟩, NV_n h hm hi, by omega, updL_y _ _ _, by omega, by omega, fun z => by omega⟩
theorem c_text (hN : 5000 < N) (h : CA t) (eL : t.1 9 0 7 = nI n) (hn : n ≤ 2000) (hb : t.2.1 11 0 0 = b) (ec : t.1 9 0 5 = nI c) (hc : c < 2001) {z y : Nat} (hy : rn (blk b n) z y) (hy2 : y ≤ 2001) : (∃ w, txt b n z y w ∧ u_X9_scanText U S N (nI y) (bA t (nI y)) t = some (4, apT t c 4 (w + 1) (nI (y + 1)) (nI w))) ∨ ((¬ ∃ y w, txt b n z y w) ∧ u_X9_scanText U S N (nI y) (bA t (nI y)) t = some (5, apT t c 5 y 0 0)) := by
  have loop : y < n → pln (b y) → ∀ (f x : Nat), y + 1 ≤ x → x ≤ 2001 → (∀ i, y + 1 ≤ i → i < x → pln (b i) ∧ ¬ b i = b y) → 2001 < x + f → (∃ w, txt b n z y w ∧ ul_X9_scanText_20 U S N f (nI y) (b y) (nI x) t = some (4, apT t c 4 (w + 1) (nI (y + 1)) (nI w))) ∨ ((¬ ∃ y w, txt b n z y w) ∧ ul_X9_scanText_20 U S N f (nI y) (b y) (nI x) t = some (5, apT t c 5 y 0 0)) := by
    intro hyn hpl f
    induction f with
    | zero =>
      intro x h1 h2 _ h4
      refine absurd h4 ?_
      omega
    | succ f ih =>
      intro x h1 h2 h3 h4
      have st1 : ul_X9_scanText_20 U S N (f + 1) (nI y) (b y) (nI x) t = uh_X9_scanText_20 U S N (ul_X9_scanText_20 U S N f) (nI y) (b y) (nI x) t := rfl
      have none_of : (n ≤ x ∨ ¬ pln (b x)) → ¬ ∃ y w, txt b n z y w := by
        rintro hx ⟨y2, w, k1, k2, k3, k4, k5, k6, k7⟩
        rw [rn_u k1 hy] at k2 k3 k4 k6 k7
        have hw : x ≤ w := by
          by_cases q : w < x
          · exact absurd k6 (h3 w k4 q).2
          · omega
        rcases hx with hx | hx
        · omega
        · by_cases q : w = x
          · rw [← q, k6] at hx; exact hx k3
          · exact hx (k7 x (by omega) (by omega)).1
      rw [st1]
      unfold uh_X9_scanText_20 u_X9_scanText_67
      rw [eL, e_app2 ec hc, e_byte h, Option.bind_some]
      by_cases cx : x < n
      · rw [if_neg (fun z => by have := (leI (by omega) (by omega)).mp z; omega), e_bA eL hn hb (by omega), if_pos cx]
        show (∃ w, _ ∧ ((u_X9_isPlain U S N (b x) t).bind _) = _) ∨ (_ ∧ ((u_X9_isPlain U S N (b x) t).bind _) = _)
        rw [c_pln, Option.bind_some]
        by_cases cp : pln (b x)
        · rw [if_pos cp, if_neg (show ¬ (1 : Int32) = 0 by decide)]
          show (∃ w, _ ∧ ((u_X9_byteAt U S N (nI x) t).bind _) = _) ∨ (_ ∧ ((u_X9_byteAt U S N (nI x) t).bind _) = _)
          rw [e_byte h, Option.bind_some, e_bA eL hn hb (by omega), if_pos cx]
          by_cases cm : b x = b y
          · refine Or.inl ⟨x, ⟨hy, hyn, hpl, h1, cx, cm, h3⟩, ?_⟩
            rw [if_neg (not_not_intro cm), nI_1, nI_1]
            exact e_app2 ec hc _ _ _ _
          · rw [if_pos cm, nI_1]
            refine ih (x + 1) (by omega) (by omega) (fun i i1 i2 => ?_) (by omega)
            by_cases q : i = x
            · rw [q]; exact ⟨cp, cm⟩
            · exact h3 i i1 (by omega)
        · rw [if_neg cp, if_pos (show (0 : Int32) = 0 from rfl)]
          exact Or.inr ⟨none_of (Or.inr cp), e_app2 ec hc _ _ _ _⟩
      · rw [if_pos ((leI (by omega) (by omega)).mpr (by omega))]
        exact Or.inr ⟨none_of (Or.inl (by omega)), rfl⟩
  have hbad : (¬ (y < n ∧ pln (b y))) → ¬ ∃ y w, txt b n z y w := by
    rintro hx ⟨y2, w, k1, k2, k3, -⟩
    rw [rn_u k1 hy] at k2 k3
    exact hx ⟨k2, k3⟩
  unfold u_X9_scanText
  rw [c_pln, Option.bind_some, e_bA eL hn hb (by omega)]
  by_cases cy : y < n
  · rw [if_pos cy]
    by_cases cp : pln (b y)
    · rw [if_pos cp, if_pos (show ¬ (1 : Int32) = 0 by decide), nI_1]
      exact loop cy cp N (y + 1) (by omega) (by omega) (fun i i1 i2 => by omega) (by omega)
    · rw [if_neg cp, if_neg (show ¬ ¬ (0 : Int32) = 0 from fun z => z rfl)]
      exact Or.inr ⟨hbad (fun q => cp q.2), e_app2 ec hc _ _ _ _⟩
  · rw [if_neg cy, if_neg (show ¬ pln (-1) by decide), if_neg (show ¬ ¬ (0 : Int32) = 0 from fun z => z rfl)]
    exact Or.inr ⟨hbad (fun q => cy q.1), e_app2 ec hc _ _ _ _⟩
/-- a token is put behind the row -/
def AT (b : Nat → Int32) (n c m x : Nat) (t : CS) (o : Option (Int32 × CS)) : Prop := ∃ K v w e t2 m2, o = some (K, apT t2 c K e v w) ∧ nT t t2 m m2 ∧ NV t2 m2 ∧ Tok b n t2.2.2.1 m2 K x v w e ∧ (¬ fk K → x < e ∧ e ≤ n ∧ SX b n m2 e)
theorem ct_name (hN : 5000 < N) (h : GA t0 t) (eL : t.1 9 0 7 = nI n) (hn : n ≤ 2000) (hb : t.2.1 11 0 0 = b) (ec : t.1 9 0 5 = nI c) (hc : c < 2001) (hv : NV t m) (hm : 2 * (m - 53) ≤ x) (e8 : t.1 9 0 8 = nI x) (hx : x < n) (hl : ltr (b x)) : AT b n c m x t (u_X9_scanName U S N t) := by
  obtain ⟨z, hz, hz2⟩ := rn_ex (fun i => nmc_n (b := b) (n := n) (i := i)) n x (by omega)
  have hzx : x + 1 ≤ z := (rn_s hz ⟨hx, Or.inl hl⟩).1
  have loop : ∀ (f k : Nat), x + k ≤ z → z < x + k + f → ul_X9_scanName_7 U S N f (pkB b x k) (nI (x + k)) t = u_X9_scanName_53 U S N (pkB b x (z - x)) (nI z) t := by
    intro f
    induction f with
    | zero => intro k h1 h2; omega
    | succ f ih =>
      intro k h1 h2
      show uh_X9_scanName_7 U S N (ul_X9_scanName_7 U S N f) (pkB b x k) (nI (x + k)) t = _
      by_cases q : x + k = z
      · have fin : ¬ nmc b n (x + k) := by rw [q]; exact hz.2.2
        have ek : z - x = k := by omega
        unfold uh_X9_scanName_7
        rw [eL, ek, ← q]
        by_cases cx : x + k < n
        · rw [if_neg (fun z => by have := (leI (by omega) (by omega)).mp z; omega), e_byte h.1, Option.bind_some, e_bA eL hn hb (by omega), if_pos cx]
          show ((u_X9_isLetter U S N (b (x + k)) t).bind _) = _
          rw [c_ltr, Option.bind_some, if_neg (fun z => fin ⟨cx, Or.inl z⟩), if_neg (show ¬ ¬ (0 : Int32) = 0 from fun z => z rfl)]
          show ((u_X9_byteAt U S N (nI (x + k)) t).bind _) = _
          rw [e_byte h.1, Option.bind_some, e_bA eL hn hb (by omega), if_pos cx]
          show ((u_X9_isDigit U S N (b (x + k)) t).bind _) = _
          rw [c_dgt, Option.bind_some, if_neg (fun z => fin ⟨cx, Or.inr z⟩), if_pos (show (0 : Int32) = 0 from rfl)]
        · rw [if_pos ((leI (by omega) (by omega)).mpr (by omega))]
      · obtain ⟨cx, hc2⟩ := hz.2.1 (x + k) (by omega) (by omega)
        have go : u_X9_scanName_37 U S N (ul_X9_scanName_7 U S N f) (pkB b x k) (nI (x + k)) t = u_X9_scanName_53 U S N (pkB b x (z - x)) (nI z) t := by
          unfold u_X9_scanName_37 u_X4_withLetter
          rw [e_byte h.1, Option.bind_some, Option.bind_some, e_bA eL hn hb (by omega), if_pos cx, nI_1]
          exact ih (k + 1) (by omega) (by omega)
        unfold uh_X9_scanName_7
        rw [eL, if_neg (fun z => by have := (leI (by omega) (by omega)).mp z; omega), e_byte h.1, Option.bind_some, e_bA eL hn hb (by omega), if_pos cx]
        show ((u_X9_isLetter U S N (b (x + k)) t).bind _) = _
        rw [c_ltr, Option.bind_some]
        by_cases cl : ltr (b (x + k))
        · rw [if_pos cl, if_pos (show ¬ (1 : Int32) = 0 by decide)]
          exact go
        · rw [if_neg cl, if_neg (show ¬ ¬ (0 : Int32) = 0 from fun z => z rfl)]
          show ((u_X9_byteAt U S N (nI (x + k)) t).bind _) = _
          rw [e_byte h.1, Option.bind_some, e_bA eL hn hb (by omega), if_pos cx]
          show ((u_X9_isDigit U S N (b (x + k)) t).bind _) = _
          rw [c_dgt, Option.bind_some, if_pos (hc2.resolve_left cl), if_neg (show ¬ (1 : Int32) = 0 by decide)]
          exact go
  have e1 : u_X9_scanName U S N t = u_X9_scanName_53 U S N (pkB b x (z - x)) (nI z) t := by
    show ul_X9_scanName_7 U S N N 0 (t.1 9 0 8) t = _
    rw [e8]
    exact loop N 0 (by omega) (by omega)
  rw [e1]
  unfold u_X9_scanName_53 u_X9_scanName_128
  rw [e8, sub_nI (by omega)]
  have bld : ∀ (K v o : Int32) (e : Nat) (t2 : CS) (m2 : Nat), (z - x ≤ 7 ∧ (∃ ν, TN b n t2.2.2.1 m2 K x v o e z ν)) ∨ (7 < z - x ∧ K = 6) → Tok b n t2.2.2.1 m2 K x v o e := by
    intro K v o e t2 m2 q
    exact Or.inr (Or.inr (Or.inl ⟨hx, hl, z, hz, q.symm⟩))
  by_cases c7 : z - x ≤ 7
  · rw [if_pos ((leL (k := 7) (c := 7) rfl (by omega) (by decide)).mpr c7)]
    obtain ⟨ν, t2, m2, n1, n2, n3, n4, n5, n6, n7, n8⟩ := e_num (U := U) (S := S) hN hv (by omega) (pkB b x (z - x))
    rw [n1, Option.bind_some]
    have f9 : t2.1 9 = t.1 9 ∧ t2.2.1 9 = t.2.1 9 ∧ t2.2.1 11 = t.2.1 11 := by
      rcases n2 with ⟨rfl, -⟩ | ⟨a, rfl, -⟩
      · exact ⟨rfl, rfl, rfl⟩
      · exact ⟨rfl, rfl, rfl⟩
    have ec2 : t2.1 9 0 5 = nI c := by rw [f9.1]; exact ec
    have fin1 : (ν = 4 → nx b n z 44 ∨ nx b n z 61) → AT b n c m x t ((u_X9_append U S N 1 (nI z) (nI ν) 0 t2).bind fun q1 => some (q1.1, q1.2)) := by
      intro h4
      rw [e_app2 ec2 hc]
      refine ⟨1, nI ν, 0, z, t2, m2, rfl, n2, n3, bld _ _ _ _ _ _ (Or.inl ⟨c7, ν, n4, n5.symm, Or.inl ⟨rfl, rfl, rfl, h4⟩⟩), fun _ => ⟨by omega, by omega, Or.inr ⟨by omega, hz.2.2⟩⟩⟩
    have hν31 : ν < 2 ^ 31 := by have := n3.2.2.1; omega
    by_cases c4 : ν = 4
    · obtain ⟨rfl, rfl⟩ := n8 (by omega)
      rw [if_neg (not_not_intro (show nI ν = 4 by rw [c4]; rfl))]
      obtain ⟨y, hy, hy2⟩ := rn_ex (fun i => blk_n (b := b) (n := n) (i := i)) n z (by omega)
      show AT b n c m2 x t2 ((u_X9_skipBlanks U S N (nI z) t2).bind _)
      rw [c_skip hN h.1 eL hn hb (by omega) hy, Option.bind_some]
      show AT b n c m2 x t2 ((u_X9_byteAt U S N (nI y) t2).bind _)
      rw [e_byte h.1, Option.bind_some]
      have nxy : ∀ k : Int32, ¬ k = -1 → (bA t2 (nI y) = k ↔ nx b n z k) := by
        intro k hk
        rw [e_bA eL hn hb (by omega)]
        by_cases cy : y < n
        · rw [if_pos cy]
          exact ⟨fun q => ⟨y, hy, cy, q⟩, fun ⟨y2, q1, q2, q3⟩ => by rw [rn_u hy q1]; exact q3⟩
        · rw [if_neg cy]
          exact ⟨fun q => absurd q.symm hk, fun ⟨y2, q1, q2, q3⟩ => absurd (by rw [rn_u hy q1]; exact q2) cy⟩
      by_cases c44 : bA t2 (nI y) = 44
      · rw [if_pos c44]
        exact fin1 (fun _ => Or.inl ((nxy 44 (by decide)).mp c44))
      · rw [if_neg c44]
        by_cases c61 : bA t2 (nI y) = 61
        · rw [if_pos c61]
          exact fin1 (fun _ => Or.inr ((nxy 61 (by decide)).mp c61))
        · rw [if_neg c61]
          have k44 : ¬ nx b n z 44 := fun q => c44 ((nxy 44 (by decide)).mpr q)
          have k61 : ¬ nx b n z 61 := fun q => c61 ((nxy 61 (by decide)).mpr q)
          rcases c_text (U := U) (S := S) hN h.1 eL hn hb ec hc hy (by omega) with ⟨w, hw, ew⟩ | ⟨hw, ew⟩
          · refine ⟨4, nI (y + 1), nI w, w + 1, t2, m2, by rw [ew]; rfl, Or.inl ⟨rfl, rfl⟩, hv, bld _ _ _ _ _ _ (Or.inl ⟨c7, ν, n4, n5.symm, Or.inr ⟨c4, k44, k61, Or.inr ⟨rfl, y, w, hw, rfl, rfl, rfl⟩⟩⟩), fun _ => ?_⟩
            have h1 := hy.1
            obtain ⟨-, -, -, g1, g2, -⟩ := hw
            exact ⟨by omega, by omega, Or.inl (by omega)⟩
          · exact ⟨5, 0, 0, y, t2, m2, by rw [ew]; rfl, Or.inl ⟨rfl, rfl⟩, hv, bld _ _ _ _ _ _ (Or.inl ⟨c7, ν, n4, n5.symm, Or.inr ⟨c4, k44, k61, Or.inl ⟨rfl, hw⟩⟩⟩), fun q => absurd (Or.inr (Or.inl rfl)) q⟩
    · rw [if_pos (fun q => c4 ((eqL (k := 4) (c := 4) rfl hν31 (by decide)).mp q))]
      exact fin1 (fun q => absurd q c4)
  · rw [if_neg (fun q => c7 ((leL (k := 7) (c := 7) rfl (by omega) (by decide)).mp q)), e_app2 ec hc]
    exact ⟨6, 0, 0, z, t, m, rfl, Or.inl ⟨rfl, rfl⟩, hv, bld _ _ _ _ _ _ (Or.inr ⟨by omega, rfl⟩), fun q => absurd (Or.inr (Or.inr (Or.inl rfl))) q⟩
end
