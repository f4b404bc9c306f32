/-! LAYER 3, names: a name as one number, and by its bytes -/
def pN (b : Nat → Int32) (st : Nat) : Nat → Nat
  | 0 => 0
  | k + 1 => pN b st k * 256 + (b (st + k)).toNatClampNeg
def chs (b : Nat → Int32) (st k : Nat) : Prop := ∀ i, i < k → ∃ c, 0 < c ∧ c < 256 ∧ b (st + i) = nI c
theorem i64_j {x y : Nat} (hx : x < 2 ^ 63) (hy : y < 2 ^ 63) (h : Int64.ofNat x = Int64.ofNat y) : x = y := by
  have := congrArg Int64.toInt h
  rw [Int64.toInt_ofNat_of_lt hx, Int64.toInt_ofNat_of_lt hy] at this
  omega
theorem pk_step {x c : Nat} (hx : x < 2 ^ 48) (hc : c < 256) : ((Int64.ofNat x) <<< ((8 : Int32).toInt64 &&& 63)) ||| (nI c).toInt64 = Int64.ofNat (x * 256 + c) := by
  have e8 : ((8 : Int32).toInt64 &&& 63) = 8 := by decide
  have ec : (nI c).toInt64 = Int64.ofNat c := by
    have : ∀ c, c < 256 → (nI c).toInt64 = Int64.ofNat c := by decide +kernel
    exact this c hc
  rw [e8, ec]
  apply Int64.toBitVec_inj.mp
  rw [Int64.toBitVec_or, Int64.toBitVec_shiftLeft]
  apply BitVec.eq_of_toNat_eq
  rw [BitVec.toNat_or]
  show ((BitVec.ofNat 64 x <<< (8 : BitVec 64)).toNat ||| (BitVec.ofNat 64 c).toNat) = (BitVec.ofNat 64 (x * 256 + c)).toNat
  rw [BitVec.toNat_ofNat, BitVec.toNat_ofNat, Nat.mod_eq_of_lt (show c < 2 ^ 64 by omega), Nat.mod_eq_of_lt (show x * 256 + c < 2 ^ 64 by omega)]
  show ((BitVec.ofNat 64 x <<< 8).toNat ||| c) = _
  rw [BitVec.toNat_shiftLeft, BitVec.toNat_ofNat, Nat.mod_eq_of_lt (show x < 2 ^ 64 by omega), Nat.shiftLeft_eq, Nat.mod_eq_of_lt (show x * 2 ^ 8 < 2 ^ 64 by omega)]
  rw [Nat.mul_comm x (2 ^ 8), ← Nat.two_pow_add_eq_or_of_lt (show c < 2 ^ 8 by omega)]
theorem pN_lt {b : Nat → Int32} {st : Nat} : ∀ k, chs b st k → pN b st k < 256 ^ k := by
  intro k
  induction k with
  | zero => intro _; exact Nat.one_pos
  | succ k ih =>
    intro h
    have h1 := ih (fun i hi => h i (by omega))
    obtain ⟨c, c1, c2, c3⟩ := h k (by omega)
    show pN b st k * 256 + (b (st + k)).toNatClampNeg < 256 ^ k * 256
    rw [c3, nI_clamp (by omega)]
    omega
theorem pk_nat {b : Nat → Int32} {st : Nat} : ∀ k, k ≤ 7 → chs b st k → pkB b st k = Int64.ofNat (pN b st k) := by
  intro k
  induction k with
  | zero => intro _ _; rfl
  | succ k ih =>
    intro hk h
    have h1 := ih (by omega) (fun i hi => h i (by omega))
    have h2 := pN_lt k (fun i hi => h i (by omega))
    have h3 : 256 ^ k ≤ 256 ^ 6 := Nat.pow_le_pow_right (by decide) (by omega)
    obtain ⟨c, c1, c2, c3⟩ := h k (by omega)
    show (pkB b st k <<< ((8 : Int32).toInt64 &&& 63)) ||| (b (st + k)).toInt64 = Int64.ofNat (pN b st k * 256 + (b (st + k)).toNatClampNeg)
    rw [h1, c3, nI_clamp (by omega)]
    exact pk_step (by omega) c2
theorem pN_inj {b b2 : Nat → Int32} {st st2 : Nat} : ∀ k k2, chs b st k → chs b2 st2 k2 → pN b st k = pN b2 st2 k2 → k = k2 ∧ ∀ i, i < k → b (st + i) = b2 (st2 + i) := by
  intro k
  induction k with
  | zero =>
    intro k2 h1 h2 he
    cases k2 with
    | zero => exact ⟨rfl, fun i hi => absurd hi (Nat.not_lt_zero i)⟩
    | succ k2 =>
      exfalso
      obtain ⟨c, c1, c2, c3⟩ := h2 k2 (by omega)
      have he2 : 0 = pN b2 st2 k2 * 256 + (b2 (st2 + k2)).toNatClampNeg := he
      rw [c3, nI_clamp (by omega)] at he2
      omega
  | succ k ih =>
    intro k2 h1 h2 he
    obtain ⟨c, c1, c2, c3⟩ := h1 k (by omega)
    cases k2 with
    | zero =>
      exfalso
      have he2 : pN b st k * 256 + (b (st + k)).toNatClampNeg = 0 := he
      rw [c3, nI_clamp (by omega)] at he2
      omega
    | succ k2 =>
      obtain ⟨d, d1, d2, d3⟩ := h2 k2 (by omega)
      have he2 : pN b st k * 256 + (b (st + k)).toNatClampNeg = pN b2 st2 k2 * 256 + (b2 (st2 + k2)).toNatClampNeg := he
      rw [c3, d3, nI_clamp (by omega), nI_clamp (by omega)] at he2
      obtain ⟨e1, e2⟩ := ih k2 (fun i hi => h1 i (by omega)) (fun i hi => h2 i (by omega)) (by omega)
      subst e1
      refine ⟨rfl, fun i hi => ?_⟩
      by_cases q : i = k
      · rw [q, c3, d3]
        congr 1
        omega
      · exact e2 i (by omega)
theorem pk_inj {b b2 : Nat → Int32} {st st2 k k2 : Nat} (hk : k ≤ 7) (hk2 : k2 ≤ 7) (h1 : chs b st k) (h2 : chs b2 st2 k2) (he : pkB b st k = pkB b2 st2 k2) : k = k2 ∧ ∀ i, i < k → b (st + i) = b2 (st2 + i) := by
  rw [pk_nat k hk h1, pk_nat k2 hk2 h2] at he
  have g1 := pN_lt k h1
  have g2 := pN_lt k2 h2
  have g3 : 256 ^ k ≤ 256 ^ 7 := Nat.pow_le_pow_right (by decide) hk
  have g4 : 256 ^ k2 ≤ 256 ^ 7 := Nat.pow_le_pow_right (by decide) hk2
  exact pN_inj k k2 h1 h2 (i64_j (by omega) (by omega) he)
theorem pk_ext {b b2 : Nat → Int32} {st st2 : Nat} : ∀ k, (∀ i, i < k → b (st + i) = b2 (st2 + i)) → pkB b st k = pkB b2 st2 k := by
  intro k
  induction k with
  | zero => intro _; rfl
  | succ k ih =>
    intro h
    show (pkB b st k <<< _) ||| (b (st + k)).toInt64 = (pkB b2 st2 k <<< _) ||| (b2 (st2 + k)).toInt64
    rw [ih (fun i hi => h i (by omega)), h k (by omega)]
theorem nm_chs {b : Nat → Int32} {n st z : Nat} (hz : rn (nmc b n) st z) : chs b st (z - st) := fun i hi => by
  obtain ⟨-, h⟩ := hz.2.1 (st + i) (by omega) (by omega)
  rcases h with h | h
  · obtain ⟨j, j1, j2, j3⟩ := ltr_v h
    exact ⟨j, by omega, by omega, j3⟩
  · obtain ⟨h1, h2⟩ := dgt_v h
    exact ⟨_, by omega, by omega, h1⟩
/-- a text of names, each followed by a blank -/
def STab (a0 base cnt len : Nat) (o l : Nat → Nat) (ch : Nat → Int32) : Prop := sLen a0 = some (nI len) ∧ len < 1000 ∧ o 0 = 0 ∧ o cnt = len ∧ ∀ j, j < cnt → o (j + 1) = o j + l j + 1 ∧ l j ≤ 7 ∧ o j < len ∧ sIx2 a0 32 (nI (o j)) = some (nI (o j + l j)) ∧ pkB ch (o j) (l j) = nm0.2.1 (base + j) ∧ ∀ i, i < l j → sChr a0 (nI (o j + i)) = some (ch (o j + i)) ∧ (0 < (ch (o j + i)).toNatClampNeg ∧ (ch (o j + i)).toNatClampNeg < 256 ∧ ch (o j + i) = nI (ch (o j + i)).toNatClampNeg)
def l12 : List Nat := [3, 3, 3, 3, 3, 3, 1, 1, 3, 3, 3, 3, 3, 3, 3, 3, 3, 3, 3, 3, 3, 3, 3, 3, 3, 3, 3, 3, 3, 3, 3, 3, 3, 3, 3, 3, 3, 3, 3, 3, 3, 3, 3, 3, 5, 3, 3, 3]
def l13 : List Nat := [4, 7, 5, 6, 4]
def off (l : List Nat) : Nat → Nat
  | 0 => 0
  | k + 1 => off l k + l.getD k 0 + 1
theorem stab12 : STab 12 5 48 190 (off l12) (fun j => l12.getD j 0) (fun p => schr 2 (nI p)) := by
  unfold STab
  rw [nm0_eq]
  refine ⟨by decide +kernel, by decide, rfl, by decide +kernel, ?_⟩
  decide +kernel
theorem stab13 : STab 13 0 5 31 (off l13) (fun j => l13.getD j 0) (fun p => schr 3 (nI p)) := by
  unfold STab
  rw [nm0_eq]
  refine ⟨by decide +kernel, by decide, rfl, by decide +kernel, ?_⟩
  decide +kernel
