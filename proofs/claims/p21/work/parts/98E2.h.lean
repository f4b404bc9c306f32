/-! LAYER 3, the machine: group 1 -/
def AL (t : CS) (u : Nat) (x y : Int32) : CS := qI (qI t 10 u 10 x) 10 u 11 y
theorem AL_AL (t : CS) (u : Nat) (x y x2 y2 : Int32) : AL (AL t u x y) u x2 y2 = AL t u x2 y2 := by
  unfold AL qI
  refine Prod.ext ?_ rfl
  funext a b c
  dsimp only
  unfold up3
  repeat' split
  all_goals first | rfl | (exfalso; omega)
theorem AL_a (t : CS) (u : Nat) (x y : Int32) : (AL t u x y).1 10 u 10 = x := by
  show up3 (up3 t.1 10 u 10 x) 10 u 11 y 10 u 10 = x
  rw [up3_n _ _ (fun e => absurd e.2.2 (by decide)), up3_s]
theorem AL_l (t : CS) (u : Nat) (x y : Int32) : (AL t u x y).1 10 u 11 = y := up3_s _ _ _ _ _
theorem AL_i (t : CS) {u : Nat} {x y : Int32} (h1 : t.1 10 u 10 = x) (h2 : t.1 10 u 11 = y) : AL t u x y = t := by
  unfold AL
  rw [qI_id t h1, qI_id t h2]
theorem AL_b (t : CS) {u : Nat} (x : Int32) {y : Int32} (h2 : t.1 10 u 11 = y) : qI t 10 u 10 x = AL t u x y := by
  unfold AL
  have e : (qI t 10 u 10 x).1 10 u 11 = y := by
    show up3 _ 10 u 10 x 10 u 11 = y
    rw [up3_n _ _ (fun e => absurd e.2.2 (by decide))]
    exact h2
  rw [qI_id (qI t 10 u 10 x) e]
theorem or12 {l a : Nat} (h : a < 4096) : (l * 2 ^ 12 ||| a) = 4096 * l + a := by
  have := Nat.shiftLeft_add_eq_or_of_lt (i := 12) (show a < 2 ^ 12 from h) l
  rw [Nat.shiftLeft_eq] at this
  omega
theorem and1 {m : Nat} (h : m < 2 ^ 32) : nI m &&& 1 = nI (m % 2) := by
  have := and_md (nI m) (m := 1) (by decide) 1 rfl
  rw [nI_bv h] at this
  exact this
theorem and13 {m : Nat} (h : m < 2 ^ 32) : nI m &&& 8191 = nI (m % 8192) := by
  have := and_md (nI m) (m := 13) (by decide) 8191 rfl
  rw [nI_bv h] at this
  exact this
def bsN (n : Nat) : Nat := ((n &&& 4096) ||| ((n &&& 63) * 64)) ||| ((n / 64) &&& 63)
def trn (i n : Nat) : Nat := if i &&& 12 = 0 then (if i &&& 2 = 0 then n else bsN n) else if i &&& 12 = 4 then (if i &&& 2 = 0 then rol n else rol (rol n)) else if i &&& 12 = 8 then (if i &&& 2 = 0 then ror n else ror (ror n)) else n
theorem bsN_lt {n : Nat} (h : n < 8192) : bsN n < 8192 := by
  have := (bsw n h).2
  unfold bsN
  omega
theorem trn_lt {i n : Nat} (h : n < 8192) : trn i n < 8192 := by
  unfold trn
  have h1 := (rol1 n h).1
  have h2 := (ror1 n h).1
  have h3 := (rol1 _ h1).1
  have h4 := (ror1 _ h2).1
  have h5 := bsN_lt h
  repeat' split
  all_goals assumption
section
variable {U S N u k : Nat} {R0 : Rf} {t : CS} {s : RS} {qs : List Nat} {T B : Nat} {P : Nat → Nat}
theorem both_c {n : Nat} (hn : n < 8192) (ha : t.1 10 u 10 = nI (n % 4096)) (hl : t.1 10 u 11 = nI (n / 4096)) : u_X3_both U S N (some u) t = some (nI n, t) := by
  unfold u_X3_both
  simp only [Option.bind_some]
  rw [ha, hl, show nI (n / 4096) <<< ((12 : Int32) &&& 31) = nI (n / 4096 * 2 ^ 12) from shl_nI (c := 12) (by decide), or_nI _ _ (by omega) (by omega), or12 (Nat.mod_lt _ (by decide))]
  rw [show 4096 * (n / 4096) + n % 4096 = n by omega]
theorem setB {m : Nat} (hm : m < 2 ^ 31) : u_X3_setBoth U S N (some u) (nI m) t = some ((), AL t u (nI (m % 4096)) (nI (m / 4096 % 2))) := by
  unfold u_X3_setBoth
  simp only [Option.bind_some]
  rw [and12 (by omega), show nI m >>> ((12 : Int32) &&& 31) = nI (m / 2 ^ 12) from shr_nI (c := 12) hm (by decide), and1 (by omega)]
  rfl
theorem turn_c {i n : Nat} (hi : i < 4096) (hn : n < 8192) (ha : t.1 10 u 10 = nI (n % 4096)) (hl : t.1 10 u 11 = nI (n / 4096)) : u_X3_turn U S N (some u) (nI i) t = some ((), AL t u (nI (trn i n % 4096)) (nI (trn i n / 4096))) := by
  have t2 : (nI i &&& 2 = 0) ↔ (i &&& 2 = 0) := tb (c := 2) (d := 0) hi (by decide) (by decide)
  have t0 : (nI i &&& 12 = 0) ↔ (i &&& 12 = 0) := tb (c := 12) (d := 0) hi (by decide) (by decide)
  have t4 : (nI i &&& 12 = 4) ↔ (i &&& 12 = 4) := tb (c := 12) (d := 4) hi (by decide) (by decide)
  have t8 : (nI i &&& 12 = 8) ↔ (i &&& 12 = 8) := tb (c := 12) (d := 8) hi (by decide) (by decide)
  unfold u_X3_turn u_X3_turn_11 u_X3_turn_130 trn
  rw [both_c hn ha hl]
  simp only [Option.bind_some]
  by_cases c0 : i &&& 12 = 0
  · rw [if_pos (t0.mpr c0), if_pos (t0.mpr c0), if_pos c0]
    by_cases c2 : i &&& 2 = 0
    · rw [if_pos (t2.mpr c2), if_pos c2, if_pos (by decide), AL_i t ha hl]
    · rw [if_neg (fun z => c2 (t2.mp z)), if_neg c2, if_neg (by decide), ha]
      have hm : n % 4096 < 4096 := Nat.mod_lt _ (by decide)
      rw [show nI (n % 4096) >>> ((6 : Int32) &&& 31) = nI (n % 4096 / 2 ^ 6) from shr_nI (c := 6) (by omega) (by decide), show nI (n % 4096) <<< ((6 : Int32) &&& 31) = nI (n % 4096 * 2 ^ 6) from shl_nI (c := 6) (by decide), or_nI _ _ (by omega) (by omega), and12 (Nat.or_lt_two_pow (n := 32) (by omega) (by omega))]
      have hb := bsw n hn
      rw [show (n % 4096 / 2 ^ 6 ||| n % 4096 * 2 ^ 6) % 4096 = bsN n % 4096 from hb.1, AL_b t _ hl, show n / 4096 = bsN n / 4096 from hb.2.symm]
  · rw [if_neg (fun z => c0 (t0.mp z)), if_neg (fun z => c0 (t0.mp z)), if_neg c0]
    by_cases c4 : i &&& 12 = 4
    · rw [if_pos (t4.mpr c4), if_pos (t4.mpr c4), if_pos c4]
      by_cases c2 : i &&& 2 = 0
      · rw [if_pos (t2.mpr c2), if_pos c2, show nI n <<< ((1 : Int32) &&& 31) = nI (n * 2 ^ 1) from shl_nI (c := 1) (by decide), show nI n >>> (((13 : Int32) - 1) &&& 31) = nI (n / 2 ^ 12) from shr_nI (c := 12) (by omega) (by decide), or_nI _ _ (by omega) (by omega), setB (Nat.or_lt_two_pow (n := 31) (by omega) (by omega))]
        simp only [Option.bind_some]
        have hr := rol1 n hn
        rw [show (n * 2 ^ 1 ||| n / 2 ^ 12) % 4096 = rol n % 4096 from hr.2.1, show (n * 2 ^ 1 ||| n / 2 ^ 12) / 4096 % 2 = rol n / 4096 from hr.2.2]
      · rw [if_neg (fun z => c2 (t2.mp z)), if_neg c2, show nI n <<< ((2 : Int32) &&& 31) = nI (n * 2 ^ 2) from shl_nI (c := 2) (by decide), show nI n >>> (((13 : Int32) - 2) &&& 31) = nI (n / 2 ^ 11) from shr_nI (c := 11) (by omega) (by decide), or_nI _ _ (by omega) (by omega), setB (Nat.or_lt_two_pow (n := 31) (by omega) (by omega))]
        simp only [Option.bind_some]
        have hr := rol2 n hn
        rw [show (n * 2 ^ 2 ||| n / 2 ^ 11) % 4096 = rol (rol n) % 4096 from hr.1, show (n * 2 ^ 2 ||| n / 2 ^ 11) / 4096 % 2 = rol (rol n) / 4096 from hr.2]
    · rw [if_neg (fun z => c4 (t4.mp z)), if_neg (fun z => c4 (t4.mp z)), if_neg c4]
      by_cases c8 : i &&& 12 = 8
      · rw [if_pos (t8.mpr c8), if_pos (t8.mpr c8), if_pos c8]
        by_cases c2 : i &&& 2 = 0
        · rw [if_pos (t2.mpr c2), if_pos c2, show nI n >>> ((1 : Int32) &&& 31) = nI (n / 2 ^ 1) from shr_nI (c := 1) (by omega) (by decide), show nI n <<< (((13 : Int32) - 1) &&& 31) = nI (n * 2 ^ 12) from shl_nI (c := 12) (by decide), or_nI _ _ (by omega) (by omega), setB (Nat.or_lt_two_pow (n := 31) (by omega) (by omega))]
          simp only [Option.bind_some]
          have hr := ror1 n hn
          rw [show (n / 2 ^ 1 ||| n * 2 ^ 12) % 4096 = ror n % 4096 from hr.2.1, show (n / 2 ^ 1 ||| n * 2 ^ 12) / 4096 % 2 = ror n / 4096 from hr.2.2]
        · rw [if_neg (fun z => c2 (t2.mp z)), if_neg c2, show nI n >>> ((2 : Int32) &&& 31) = nI (n / 2 ^ 2) from shr_nI (c := 2) (by omega) (by decide), show nI n <<< (((13 : Int32) - 2) &&& 31) = nI (n * 2 ^ 11) from shl_nI (c := 11) (by decide), or_nI _ _ (by omega) (by omega), setB (Nat.or_lt_two_pow (n := 31) (by omega) (by omega))]
          simp only [Option.bind_some]
          have hr := ror2 n hn
          rw [show (n / 2 ^ 2 ||| n * 2 ^ 11) % 4096 = ror (ror n) % 4096 from hr.1, show (n / 2 ^ 2 ||| n * 2 ^ 11) / 4096 % 2 = ror (ror n) / 4096 from hr.2]
      · rw [if_neg (fun z => c8 (t8.mp z)), if_neg (fun z => c8 (t8.mp z)), if_neg c8, AL_i t ha hl]
        by_cases c2 : i &&& 2 = 0
        · rw [if_pos (t2.mpr c2)]
        · rw [if_neg (fun z => c2 (t2.mp z))]
theorem has_r {v : Int32} (h78 : s.1 78 = v) (c : Int32) : g_has U S N c s = some (if v &&& c = 0 then 0 else 1, s) := by
  unfold g_has g_has_14
  rw [h78]
  by_cases h : v &&& c = 0
  · rw [if_pos h, if_pos h]; rfl
  · rw [if_neg h, if_neg h]; rfl
theorem f240 (hU : U < 7) (hu : u < U) {x : Nat} (hx : x < 8192) : g_first_240 U S N (nI u) (nI x) s = some ((), pA (pA s 46 u (nI (x / 4096))) 43 u (nI (x % 4096))) := by
  unfold g_first_240
  rw [wA_y (by omega) hu, show nI x >>> ((12 : Int32) &&& 31) = nI (x / 2 ^ 12) from shr_nI (c := 12) (by omega) (by decide), and12 (by omega)]
  simp only [Option.bind_some]
  rw [wA_y (by omega) hu]
  rfl
theorem rol_i {n : Nat} (hn : n < 8192) : ((nI n <<< ((1 : Int32) &&& 31)) &&& 8191) ||| (nI n >>> ((12 : Int32) &&& 31)) = nI (rol n) := by
  rw [show nI n <<< ((1 : Int32) &&& 31) = nI (n * 2 ^ 1) from shl_nI (c := 1) (by decide), show nI n >>> ((12 : Int32) &&& 31) = nI (n / 2 ^ 12) from shr_nI (c := 12) (by omega) (by decide), show (8191 : Int32) = nI 8191 from rfl, and_nI _ _ (by omega) (by decide), or_nI _ _ (Nat.lt_of_le_of_lt Nat.and_le_right (by decide)) (by omega)]
  rfl
theorem ror_i {n : Nat} (hn : n < 8192) : (nI n >>> ((1 : Int32) &&& 31)) ||| ((nI n &&& 1) <<< ((12 : Int32) &&& 31)) = nI (ror n) := by
  rw [show nI n >>> ((1 : Int32) &&& 31) = nI (n / 2 ^ 1) from shr_nI (c := 1) (by omega) (by decide), show (1 : Int32) = nI 1 from rfl, and_nI _ _ (by omega) (by decide), show nI (n &&& 1) <<< ((12 : Int32) &&& 31) = nI ((n &&& 1) * 2 ^ 12) from shl_nI (c := 12) (by decide), or_nI _ _ (by omega) (by have : n &&& 1 ≤ 1 := Nat.and_le_right; omega)]
  rfl
theorem f193 (hU : U < 7) (hu : u < U) {i n : Nat} (hi : i < 4096) (hn : n < 8192) (h78 : s.1 78 = nI i) : g_first_193 U S N (nI u) (nI n) s = some ((), pA (pA s 46 u (nI ((if i &&& 12 = 0 then (if i &&& 2 = 0 then n else bsN n) else n) / 4096))) 43 u (nI ((if i &&& 12 = 0 then (if i &&& 2 = 0 then n else bsN n) else n) % 4096))) := by
  have t2 : (nI i &&& 2 = 0) ↔ (i &&& 2 = 0) := tb (c := 2) (d := 0) hi (by decide) (by decide)
  have t8 : (nI i &&& 8 = 0) ↔ (i &&& 8 = 0) := tb (c := 8) (d := 0) hi (by decide) (by decide)
  have t4 : (nI i &&& 4 = 0) ↔ (i &&& 4 = 0) := tb (c := 4) (d := 0) hi (by decide) (by decide)
  have b := b12 i hi
  unfold g_first_193
  rw [has_r h78]
  simp only [Option.bind_some]
  by_cases c2 : i &&& 2 = 0
  · rw [if_pos (t2.mpr c2), if_pos rfl, if_pos c2, f240 hU hu hn]
    by_cases c : i &&& 12 = 0
    · rw [if_pos c]
    · rw [if_neg c]
  · rw [if_neg (fun z => c2 (t2.mp z)), if_neg (by decide), if_neg c2, has_r h78]
    simp only [Option.bind_some]
    by_cases c8 : i &&& 8 = 0
    · rw [if_pos (t8.mpr c8), if_neg (not_not_intro rfl), has_r h78]
      simp only [Option.bind_some]
      by_cases c4 : i &&& 4 = 0
      · have eb : ((nI n &&& 4096) ||| ((nI n &&& 63) <<< ((6 : Int32) &&& 31))) ||| ((nI n >>> ((6 : Int32) &&& 31)) &&& 63) = nI (bsN n) := by
          have k1 : n &&& 63 ≤ 63 := Nat.and_le_right
          have k2 : n &&& 4096 ≤ 4096 := Nat.and_le_right
          have k3 : n / 2 ^ 6 &&& 63 ≤ 63 := Nat.and_le_right
          rw [show (4096 : Int32) = nI 4096 from rfl, show (63 : Int32) = nI 63 from rfl, and_nI n 4096 (by omega) (by decide), and_nI n 63 (by omega) (by decide), show nI (n &&& 63) <<< ((6 : Int32) &&& 31) = nI ((n &&& 63) * 2 ^ 6) from shl_nI (c := 6) (by decide), show nI n >>> ((6 : Int32) &&& 31) = nI (n / 2 ^ 6) from shr_nI (c := 6) (by omega) (by decide), and_nI _ _ (by omega) (by decide), or_nI _ _ (by omega) (by omega), or_nI _ _ (Nat.or_lt_two_pow (n := 32) (by omega) (by omega)) (by omega)]
          rfl
        rw [if_pos (t4.mpr c4), if_neg (not_not_intro rfl), eb, f240 hU hu (bsN_lt hn), if_pos (b.1.mpr ⟨c8, c4⟩)]
      · rw [if_neg (fun z => c4 (t4.mp z)), if_pos (by decide), f240 hU hu hn, if_neg (fun z => c4 (b.1.mp z).2)]
    · rw [if_neg (fun z => c8 (t8.mp z)), if_pos (by decide), f240 hU hu hn, if_neg (fun z => c8 (b.1.mp z).1)]
theorem lp_r (hN : 3 < N) {i : Nat} (hi : i < 4096) (h78 : s.1 78 = nI i) : ∀ (m c j n : Nat), n < 8192 → j ≤ c → c < 100 → c < j + m → l_first_132 U S N m (nI u) (nI n) (nI c) (nI j) s = g_first_193 U S N (nI u) (nI (if i &&& 12 = 4 then Nat.repeat rol (c - j) n else if i &&& 12 = 8 then Nat.repeat ror (c - j) n else n)) s := by
  have t8 : (nI i &&& 8 = 0) ↔ (i &&& 8 = 0) := tb (c := 8) (d := 0) hi (by decide) (by decide)
  have t4 : (nI i &&& 4 = 0) ↔ (i &&& 4 = 0) := tb (c := 4) (d := 0) hi (by decide) (by decide)
  have b := b12 i hi
  have rep : ∀ (f : Nat → Nat) (m n : Nat), Nat.repeat f m (f n) = Nat.repeat f (m + 1) n := by
    intro f m
    induction m with
    | zero => intro n; rfl
    | succ m ih => intro n; show f (Nat.repeat f m (f n)) = f (Nat.repeat f (m + 1) n); rw [ih]
  intro m
  induction m with
  | zero => intro c j n _ _ _ h; omega
  | succ m ih =>
    intro c j n hn h1 h2 h3
    show h_first_132 U S N (l_first_132 U S N m) (nI u) (nI n) (nI c) (nI j) s = _
    unfold h_first_132 g_first_186
    by_cases hj : c ≤ j
    · rw [if_pos ((leI (by omega) (by omega)).mpr hj), show c - j = 0 by omega]
      congr 2
      show n = if i &&& 12 = 4 then n else if i &&& 12 = 8 then n else n
      split
      · rfl
      · split <;> rfl
    · rw [if_neg (fun z => hj ((leI (by omega) (by omega)).mp z)), has_r h78]
      simp only [Option.bind_some]
      rw [has_r h78]
      simp only [Option.bind_some]
      by_cases c8 : i &&& 8 = 0
      · rw [if_pos (t8.mpr c8)]
        by_cases c4 : i &&& 4 = 0
        · rw [if_pos (t4.mpr c4), if_pos rfl, if_neg (fun z => (b.2.1.mp z).2 c4), if_neg (fun z => (b.2.2.mp z).1 c8)]
        · rw [if_neg (fun z => c4 (t4.mp z)), if_neg (by decide), has_r h78]
          simp only [Option.bind_some]
          rw [if_pos (t8.mpr c8), if_pos rfl, rol_i hn, nI_1, ih c (j + 1) (rol n) (rol1 n hn).1 (by omega) h2 (by omega), if_pos (b.2.1.mpr ⟨c8, c4⟩), if_pos (b.2.1.mpr ⟨c8, c4⟩), rep, show c - (j + 1) + 1 = c - j by omega]
      · rw [if_neg (fun z => c8 (t8.mp z))]
        by_cases c4 : i &&& 4 = 0
        · rw [if_pos (t4.mpr c4), if_neg (by decide), has_r h78]
          simp only [Option.bind_some]
          have n4 : ¬ i &&& 12 = 4 := fun z => c8 (b.2.1.mp z).1
          rw [if_neg (fun z => c8 (t8.mp z)), if_neg (by decide), ror_i hn, nI_1, ih c (j + 1) (ror n) (ror1 n hn).1 (by omega) h2 (by omega), if_neg n4, if_neg n4, if_pos (b.2.2.mpr ⟨c8, c4⟩), if_pos (b.2.2.mpr ⟨c8, c4⟩), rep, show c - (j + 1) + 1 = c - j by omega]
        · rw [if_neg (fun z => c4 (t4.mp z)), if_pos rfl, if_neg (fun z => c8 (b.2.1.mp z).1), if_neg (fun z => c4 (b.2.2.mp z).2)]
theorem f115 (hU : U < 7) (hN : 100 < N) (hu : u < U) {i n : Nat} (hi : i < 4096) (hn : n < 8192) (h78 : s.1 78 = nI i) : g_first_115 U S N (nI u) (nI n) s = some ((), pA (pA s 46 u (nI (trn i n / 4096))) 43 u (nI (trn i n % 4096))) := by
  have t2 : (nI i &&& 2 = 0) ↔ (i &&& 2 = 0) := tb (c := 2) (d := 0) hi (by decide) (by decide)
  unfold g_first_115 g_first_128
  rw [has_r h78]
  simp only [Option.bind_some]
  have h1 := (rol1 n hn).1
  have h2 := (ror1 n hn).1
  have key : ∀ c : Nat, (c = 1 ∧ i &&& 2 = 0) ∨ (c = 2 ∧ ¬ i &&& 2 = 0) → l_first_132 U S N N (nI u) (nI n) (nI c) (nI 0) s = some ((), pA (pA s 46 u (nI (trn i n / 4096))) 43 u (nI (trn i n % 4096))) := by
    intro c hc
    rw [lp_r (by omega) hi h78 N c 0 n hn (by omega) (by omega) (by omega)]
    by_cases c4 : i &&& 12 = 4
    · have n0 : ¬ i &&& 12 = 0 := by omega
      rw [if_pos c4]
      have e : Nat.repeat rol (c - 0) n = trn i n := by
        unfold trn
        rw [if_neg n0, if_pos c4]
        rcases hc with ⟨rfl, z⟩ | ⟨rfl, z⟩
        · rw [if_pos z]; rfl
        · rw [if_neg z]; rfl
      rw [e, f193 hU hu hi (trn_lt hn) h78, if_neg n0]
    · rw [if_neg c4]
      by_cases c8 : i &&& 12 = 8
      · have n0 : ¬ i &&& 12 = 0 := by omega
        rw [if_pos c8]
        have e : Nat.repeat ror (c - 0) n = trn i n := by
          unfold trn
          rw [if_neg n0, if_neg c4, if_pos c8]
          rcases hc with ⟨rfl, z⟩ | ⟨rfl, z⟩
          · rw [if_pos z]; rfl
          · rw [if_neg z]; rfl
        rw [e, f193 hU hu hi (trn_lt hn) h78, if_neg n0]
      · rw [if_neg c8, f193 hU hu hi hn h78]
        unfold trn
        rw [if_neg c4, if_neg c8]
  by_cases c2 : i &&& 2 = 0
  · rw [if_pos (t2.mpr c2), if_pos rfl]
    exact key 1 (Or.inl ⟨rfl, c2⟩)
  · rw [if_neg (fun z => c2 (t2.mp z)), if_neg (by decide)]
    exact key 2 (Or.inr ⟨rfl, c2⟩)
theorem ms_AL (h : MS U S u R0 qs T B P t s) {a l : Nat} (ha : a < 4096) (hl : l < 2) : MS U S u R0 qs T B P (AL t u (nI a) (nI l)) (pA (pA s 46 u (nI l)) 43 u (nI a)) := by
  rw [pA_comm _ (show (46 : Nat) ≠ 43 by decide)]
  exact ms_lk (ms_ac h (w12_n ha)) (bit_of hl)
theorem al_op1 (hU : U < 7) (hN : 100 < N) (hu : u < U) (h : MS U S u R0 qs T B P t s) {i : Nat} (hi : i < 4096) (h78 : s.1 78 = nI i) : ∃ t2 s2, u_X3_operate U S N (some u) (nI i) t = some ((), t2) ∧ g_first U S N (nI u) s = some ((), s2) ∧ MS U S u R0 qs T B P t2 s2 := by
  have s5 : ∀ (t : CS) (s : RS), MS U S u R0 qs T B P t s → s.1 78 = nI i → ∃ t2 s2, u_X3_operate_61 U S N (some u) (nI i) t = some ((), t2) ∧ g_first_81 U S N (nI u) s = some ((), s2) ∧ MS U S u R0 qs T B P t2 s2 := by
    intro t s h h78
    obtain ⟨ra1, a, ha, ra2⟩ := ms_rac h
    obtain ⟨rl1, rl2⟩ := ms_rlk h
    obtain ⟨l, hl, rl3⟩ := bit_nI rl2
    have t1 : (nI i &&& 1 = 0) ↔ (i &&& 1 = 0) := tb (c := 1) (d := 0) hi (by decide) (by decide)
    have ea : t.1 10 u 10 = nI ((4096 * l + a) % 4096) := by rw [ra1, ra2]; congr 1; omega
    have el : t.1 10 u 11 = nI ((4096 * l + a) / 4096) := by rw [rl1, rl3]; congr 1; omega
    unfold u_X3_operate_61 u_X3_operate_77 g_first_81
    rw [rA_y (by omega) hu, rA_y (by omega) hu, has_r h78, ra2, rl3, both_c (n := 4096 * l + a) (by omega) ea el]
    simp only [Option.bind_some]
    rw [show (4096 : Int32) * nI l + nI a = nI (4096 * l + a) by rw [show (4096 : Int32) = nI 4096 from rfl, mul_nI, nI_add]]
    by_cases c1 : i &&& 1 = 0
    · rw [if_pos (t1.mpr c1), if_pos (t1.mpr c1), if_pos rfl, turn_c hi (n := 4096 * l + a) (by omega) ea el, f115 hU hN hu hi (by omega) h78]
      have := trn_lt (i := i) (n := 4096 * l + a) (by omega)
      exact ⟨_, _, rfl, rfl, ms_AL h (Nat.mod_lt _ (by decide)) (by omega)⟩
    · rw [if_neg (fun z => c1 (t1.mp z)), if_neg (fun z => c1 (t1.mp z)), if_neg (by decide), nI_1, setB (by omega), and13 (by omega)]
      simp only [Option.bind_some]
      have hn1 : (4096 * l + a + 1) % 8192 < 8192 := Nat.mod_lt _ (by decide)
      rw [turn_c hi hn1 (by rw [AL_a]; congr 1; omega) (by rw [AL_l]; congr 1; omega), AL_AL, f115 hU hN hu hi hn1 h78]
      have := trn_lt (i := i) hn1
      exact ⟨_, _, rfl, rfl, ms_AL h (Nat.mod_lt _ (by decide)) (by omega)⟩
  have s4 : ∀ (t : CS) (s : RS), MS U S u R0 qs T B P t s → s.1 78 = nI i → ∃ t2 s2, u_X3_operate_44 U S N (some u) (nI i) t = some ((), t2) ∧ g_first_58 U S N (nI u) s = some ((), s2) ∧ MS U S u R0 qs T B P t2 s2 := by
    intro t s h h78
    obtain ⟨rl1, rl2⟩ := ms_rlk h
    unfold u_X3_operate_44 g_first_58
    rw [has_r h78]
    simp only [Option.bind_some]
    by_cases c : nI i &&& 16 = 0
    · rw [if_pos c, if_pos c, if_pos rfl]
      exact s5 t s h h78
    · rw [if_neg c, if_neg c, if_neg (by decide), rA_y (by omega) hu, rl1]
      simp only [Option.bind_some]
      rw [wA_y (by omega) hu, bit_x rl2]
      exact s5 _ _ (ms_lk h (bit_1 rl2)) h78
  have s3 : ∀ (t : CS) (s : RS), MS U S u R0 qs T B P t s → s.1 78 = nI i → ∃ t2 s2, u_X3_operate_25 U S N (some u) (nI i) t = some ((), t2) ∧ g_first_33 U S N (nI u) s = some ((), s2) ∧ MS U S u R0 qs T B P t2 s2 := by
    intro t s h h78
    obtain ⟨ra1, a, ha, ra2⟩ := ms_rac h
    unfold u_X3_operate_25 g_first_33
    rw [has_r h78]
    simp only [Option.bind_some]
    by_cases c : nI i &&& 32 = 0
    · rw [if_pos c, if_pos c, if_pos rfl]
      exact s4 t s h h78
    · rw [if_neg c, if_neg c, if_neg (by decide), rA_y (by omega) hu, ra1, ra2]
      simp only [Option.bind_some]
      rw [wA_y (by omega) hu, show (4095 : Int32) = nI 4095 from rfl, xor_nI _ _ (by omega) (by decide), x4095 a ha, sub_nI (by omega)]
      exact s4 _ _ (ms_ac h (w12_n (by omega))) h78
  have s2 : ∀ (t : CS) (s : RS), MS U S u R0 qs T B P t s → s.1 78 = nI i → ∃ t2 s2, u_X3_operate_13 U S N (some u) (nI i) t = some ((), t2) ∧ g_first_17 U S N (nI u) s = some ((), s2) ∧ MS U S u R0 qs T B P t2 s2 := by
    intro t s h h78
    unfold u_X3_operate_13 g_first_17
    rw [has_r h78]
    simp only [Option.bind_some]
    by_cases c : nI i &&& 64 = 0
    · rw [if_pos c, if_pos c, if_pos rfl]
      exact s3 t s h h78
    · rw [if_neg c, if_neg c, if_neg (by decide), wA_y (by omega) hu]
      exact s3 _ _ (ms_lk h (Or.inl rfl)) h78
  unfold u_X3_operate g_first
  rw [has_r h78]
  simp only [Option.bind_some]
  by_cases c : nI i &&& 128 = 0
  · rw [if_pos c, if_pos c, if_pos rfl]
    exact s2 t s h h78
  · rw [if_neg c, if_neg c, if_neg (by decide), wA_y (by omega) hu]
    exact s2 _ _ (ms_ac h w12_0) h78
end
