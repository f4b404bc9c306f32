/-! LAYER 3, the machine: bits -/
theorem nI_tb (n : Nat) : (nI n).toBitVec = BitVec.ofNat 32 n := rfl
theorem and_nI (a b : Nat) (ha : a < 2 ^ 32) (hb : b < 2 ^ 32) : nI a &&& nI b = nI (a &&& b) := by
  apply Int32.toBitVec_inj.mp
  show BitVec.ofNat 32 a &&& BitVec.ofNat 32 b = BitVec.ofNat 32 (a &&& b)
  apply BitVec.eq_of_toNat_eq
  rw [BitVec.toNat_and, BitVec.toNat_ofNat, BitVec.toNat_ofNat, BitVec.toNat_ofNat, Nat.mod_eq_of_lt ha, Nat.mod_eq_of_lt hb, Nat.mod_eq_of_lt (Nat.lt_of_le_of_lt Nat.and_le_left ha)]
theorem or_nI (a b : Nat) (ha : a < 2 ^ 32) (hb : b < 2 ^ 32) : nI a ||| nI b = nI (a ||| b) := by
  apply Int32.toBitVec_inj.mp
  show BitVec.ofNat 32 a ||| BitVec.ofNat 32 b = BitVec.ofNat 32 (a ||| b)
  apply BitVec.eq_of_toNat_eq
  rw [BitVec.toNat_or, BitVec.toNat_ofNat, BitVec.toNat_ofNat, BitVec.toNat_ofNat, Nat.mod_eq_of_lt ha, Nat.mod_eq_of_lt hb, Nat.mod_eq_of_lt (Nat.or_lt_two_pow ha hb)]
theorem xor_nI (a b : Nat) (ha : a < 2 ^ 32) (hb : b < 2 ^ 32) : nI a ^^^ nI b = nI (a ^^^ b) := by
  apply Int32.toBitVec_inj.mp
  show BitVec.ofNat 32 a ^^^ BitVec.ofNat 32 b = BitVec.ofNat 32 (a ^^^ b)
  apply BitVec.eq_of_toNat_eq
  rw [BitVec.toNat_xor, BitVec.toNat_ofNat, BitVec.toNat_ofNat, BitVec.toNat_ofNat, Nat.mod_eq_of_lt ha, Nat.mod_eq_of_lt hb, Nat.mod_eq_of_lt (Nat.xor_lt_two_pow ha hb)]
theorem shr_nI {a c : Nat} (ha : a < 2 ^ 31) (hc : c < 32) : nI a >>> (nI c &&& 31) = nI (a / 2 ^ c) := by
  have e0 : nI c &&& 31 = nI c := by
    rw [show (31 : Int32) = nI 31 from rfl, and_nI _ _ (by omega) (by decide)]
    congr 1
    have : c &&& 31 = c % 2 ^ 5 := Nat.and_two_pow_sub_one_eq_mod c 5
    rw [this]
    omega
  rw [e0]
  apply Int32.toBitVec_inj.mp
  show (BitVec.ofNat 32 a).sshiftRight (BitVec.smod (BitVec.ofNat 32 c) 32).toNat = BitVec.ofNat 32 (a / 2 ^ c)
  have e1 : (BitVec.smod (BitVec.ofNat 32 c) 32).toNat = c := by
    have : ∀ c, c < 32 → (BitVec.smod (BitVec.ofNat 32 c) 32).toNat = c := by decide
    exact this c hc
  rw [e1]
  have hm : (BitVec.ofNat 32 a).msb = false := by
    rw [BitVec.msb_eq_false_iff_two_mul_lt, BitVec.toNat_ofNat, Nat.mod_eq_of_lt (by omega)]
    omega
  rw [BitVec.sshiftRight_eq_of_msb_false hm]
  apply BitVec.eq_of_toNat_eq
  rw [BitVec.toNat_ushiftRight, BitVec.toNat_ofNat, BitVec.toNat_ofNat, Nat.mod_eq_of_lt (show a < 2 ^ 32 by omega), Nat.shiftRight_eq_div_pow, Nat.mod_eq_of_lt]
  exact Nat.lt_of_le_of_lt (Nat.div_le_self _ _) (by omega)
theorem shl_nI {a c : Nat} (hc : c < 32) : nI a <<< (nI c &&& 31) = nI (a * 2 ^ c) := by
  have e0 : nI c &&& 31 = nI c := by
    rw [show (31 : Int32) = nI 31 from rfl, and_nI _ _ (by omega) (by decide)]
    congr 1
    have : c &&& 31 = c % 2 ^ 5 := Nat.and_two_pow_sub_one_eq_mod c 5
    rw [this]
    omega
  rw [e0]
  apply Int32.toBitVec_inj.mp
  show BitVec.ofNat 32 a <<< (BitVec.smod (BitVec.ofNat 32 c) 32).toNat = BitVec.ofNat 32 (a * 2 ^ c)
  have e1 : (BitVec.smod (BitVec.ofNat 32 c) 32).toNat = c := by
    have : ∀ c, c < 32 → (BitVec.smod (BitVec.ofNat 32 c) 32).toNat = c := by decide
    exact this c hc
  rw [e1]
  apply BitVec.eq_of_toNat_eq
  rw [BitVec.toNat_shiftLeft, BitVec.toNat_ofNat, BitVec.toNat_ofNat, Nat.shiftLeft_eq, Nat.mod_mul_mod]
theorem mul_nI (a b : Nat) : nI a * nI b = nI (a * b) := (Int32.ofNat_mul a b).symm
theorem sub_nI {a b : Nat} (h : b ≤ a) : nI a - nI b = nI (a - b) := by
  rw [show nI a = nI (a - b) + nI b by rw [nI_add]; congr 1; omega]
  exact Int32.add_sub_cancel _ _
/-- all numbers below 4096, below 8192 -/
theorem all12 {p : Nat → Prop} (h : ∀ a, a < 64 → ∀ b, b < 64 → p (64 * a + b)) : ∀ n, n < 4096 → p n := by
  intro n hn
  have := h (n / 64) (by omega) (n % 64) (by omega)
  rw [show 64 * (n / 64) + n % 64 = n by omega] at this
  exact this
theorem all13 {p : Nat → Prop} (h : ∀ a, a < 128 → ∀ b, b < 64 → p (64 * a + b)) : ∀ n, n < 8192 → p n := by
  intro n hn
  have := h (n / 64) (by omega) (n % 64) (by omega)
  rw [show 64 * (n / 64) + n % 64 = n by omega] at this
  exact this
theorem x4095 : ∀ n, n < 4096 → n ^^^ 4095 = 4095 - n := all12 (by decide +kernel)
theorem b2048 : ∀ n, n < 4096 → (n &&& 2048 = 0 ↔ ¬ 2047 < n) := all12 (by decide +kernel)
theorem b257 : ∀ n, n < 4096 → (n &&& 257 = 257 ↔ (¬ n &&& 256 = 0 ∧ ¬ n &&& 1 = 0)) := all12 (by decide +kernel)
theorem b12 : ∀ n, n < 4096 → (n &&& 12 = 0 ↔ (n &&& 8 = 0 ∧ n &&& 4 = 0)) ∧ (n &&& 12 = 4 ↔ (n &&& 8 = 0 ∧ ¬ n &&& 4 = 0)) ∧ (n &&& 12 = 8 ↔ (¬ n &&& 8 = 0 ∧ n &&& 4 = 0)) := all12 (by decide +kernel)
theorem b80 : ∀ n, n < 4096 → (n &&& 80 = 16 ↔ (n &&& 64 = 0 ∧ ¬ n &&& 16 = 0)) ∧ (n &&& 80 = 64 ↔ (¬ n &&& 64 = 0 ∧ n &&& 16 = 0)) ∧ (n &&& 80 = 80 ↔ (¬ n &&& 64 = 0 ∧ ¬ n &&& 16 = 0)) := all12 (by decide +kernel)
theorem bsw : ∀ n, n < 8192 → ((n % 4096 / 64) ||| (n % 4096 * 64)) % 4096 = (((n &&& 4096) ||| ((n &&& 63) * 64)) ||| ((n / 64) &&& 63)) % 4096 ∧ (((n &&& 4096) ||| ((n &&& 63) * 64)) ||| ((n / 64) &&& 63)) / 4096 = n / 4096 := all13 (by decide +kernel)
def ror (n : Nat) : Nat := n / 2 ||| (n &&& 1) * 4096
def rol (n : Nat) : Nat := (n * 2 &&& 8191) ||| n / 4096
theorem ror1 : ∀ n, n < 8192 → ror n < 8192 ∧ (n / 2 ||| n * 4096) % 4096 = ror n % 4096 ∧ (n / 2 ||| n * 4096) / 4096 % 2 = ror n / 4096 := all13 (by decide +kernel)
theorem ror2 : ∀ n, n < 8192 → (n / 4 ||| n * 2048) % 4096 = ror (ror n) % 4096 ∧ (n / 4 ||| n * 2048) / 4096 % 2 = ror (ror n) / 4096 := all13 (by decide +kernel)
theorem rol1 : ∀ n, n < 8192 → rol n < 8192 ∧ (n * 2 ||| n / 4096) % 4096 = rol n % 4096 ∧ (n * 2 ||| n / 4096) / 4096 % 2 = rol n / 4096 := all13 (by decide +kernel)
theorem rol2 : ∀ n, n < 8192 → (n * 4 ||| n / 2048) % 4096 = rol (rol n) % 4096 ∧ (n * 4 ||| n / 2048) / 4096 % 2 = rol (rol n) / 4096 := all13 (by decide +kernel)
/-- a test of bits, as one of numbers -/
theorem tb {n c d : Nat} (hn : n < 4096) (hc : c < 4096) (hd : d < 4096) : (nI n &&& nI c = nI d) ↔ (n &&& c = d) := by
  rw [and_nI _ _ (by omega) (by omega)]
  exact eqI (Nat.lt_of_le_of_lt Nat.and_le_left (by omega)) (by omega)
theorem w12_or {x y : Int32} (hx : W12 x) (hy : W12 y) : W12 (x ||| y) := by
  obtain ⟨a, ha, rfl⟩ := hx
  obtain ⟨b, hb, rfl⟩ := hy
  rw [or_nI _ _ (by omega) (by omega)]
  exact ⟨_, Nat.or_lt_two_pow (n := 12) ha hb, rfl⟩
theorem w12_an {x : Int32} (hx : W12 x) (y : Int32) (hy : ∃ b, b < 2 ^ 32 ∧ y = nI b) : W12 (x &&& y) := by
  obtain ⟨a, ha, rfl⟩ := hx
  obtain ⟨b, hb, rfl⟩ := hy
  rw [and_nI _ _ (by omega) hb]
  exact ⟨_, Nat.lt_of_le_of_lt Nat.and_le_left ha, rfl⟩
theorem w12_aw {x y : Int32} (hx : W12 x) (hy : W12 y) : W12 (x &&& y) := by
  obtain ⟨b, hb, rfl⟩ := hy
  exact w12_an hx _ ⟨b, by omega, rfl⟩
theorem bit_x {x : Int32} (h : bit x) : x ^^^ 1 = 1 - x := by
  rcases h with rfl | rfl <;> rfl
theorem bit_x0 {x : Int32} (h : bit x) : x ^^^ 0 = x := by
  rcases h with rfl | rfl <;> rfl
theorem bit_1 {x : Int32} (h : bit x) : bit (1 - x) := by
  rcases h with rfl | rfl
  · exact Or.inr rfl
  · exact Or.inl rfl
theorem bit_nI {x : Int32} (h : bit x) : ∃ l, l < 2 ∧ x = nI l := by
  rcases h with rfl | rfl
  · exact ⟨0, by decide, rfl⟩
  · exact ⟨1, by decide, rfl⟩
theorem bit_of {l : Nat} (h : l < 2) : bit (nI l) := by
  have : l = 0 ∨ l = 1 := by omega
  rcases this with rfl | rfl
  · exact Or.inl rfl
  · exact Or.inr rfl
