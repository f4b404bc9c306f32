/-! LAYER 3, the class's statements, second half; what the two have in common -/
def sxb (b : Nat → Int32) (w x : Nat) : Int32 := if x < w then b x &&& 63 else 0
def wdT (b : Nat → Int32) (y w j : Nat) : Int32 := (sxb b w (y + 1 + 2 * j) <<< ((6 : Int32) &&& 31)) ||| sxb b w (y + 1 + 2 * j + 1)
theorem and63 (x : Int32) : ∃ k, k < 64 ∧ x &&& 63 = nI k := ⟨_, Nat.mod_lt _ (by decide), and_md x (m := 6) (by decide) 63 rfl⟩
theorem sxb_n (b : Nat → Int32) (w x : Nat) : ∃ k, k < 64 ∧ sxb b w x = nI k := by
  unfold sxb
  split
  · exact and63 _
  · exact ⟨0, by decide, rfl⟩
theorem pk6 : ∀ h, h < 64 → ∀ l, l < 64 → ((nI h <<< ((6 : Int32) &&& 31)) ||| nI l) = nI (64 * h + l) := by decide +kernel
theorem wdT_n (b : Nat → Int32) (y w j : Nat) : ∃ h l, h < 64 ∧ l < 64 ∧ sxb b w (y + 1 + 2 * j) = nI h ∧ sxb b w (y + 1 + 2 * j + 1) = nI l ∧ wdT b y w j = nI (64 * h + l) := by
  obtain ⟨h, h1, h2⟩ := sxb_n b w (y + 1 + 2 * j)
  obtain ⟨l, l1, l2⟩ := sxb_n b w (y + 1 + 2 * j + 1)
  refine ⟨h, l, h1, l1, h2, l2, ?_⟩
  unfold wdT
  rw [h2, l2]
  exact pk6 h h1 l l1
section
variable {U S N n c m i a : Nat} {t0 t : CS} {b : Nat → Int32}
theorem e_six (h : CA t) (eL : t.1 9 0 7 = nI n) (hn : n ≤ 2000) (hb : t.2.1 11 0 0 = b) {w x : Nat} (hw : w ≤ n) (hx : x < 2 ^ 30) : u_X0_sixBits U S N (nI x) (nI w) t = some (sxb b w x, t) := by
  unfold u_X0_sixBits u_X0_sixBits_20 sxb
  by_cases c : x < w
  · rw [if_neg (fun z => by have := (leI (by omega) (by omega)).mp z; omega), e_byte h, Option.bind_some, e_bA eL hn hb (by omega), if_pos (show x < n by omega), if_pos c]
  · rw [if_pos ((leI (by omega) (by omega)).mpr (by omega)), if_neg c]
theorem c_ttext (hN : 5000 < N) (h : CA t) (ec : t.1 9 0 5 = nI c) (hc : c ≤ 2001) (eL : t.1 9 0 7 = nI n) (hn : n ≤ 2000) (hb : t.2.1 11 0 0 = b) (h4 : t.1 0 0 4 = 0) (h9 : t.1 0 0 9 = nI a) (ha : a < c) (hi : t.2.2.2.1 0 0 3 = some i) (hi2 : i < 2) {p y w : Nat} (hp : p ≤ 4096) (h10 : t.1 0 0 10 = nI p) (hv : vA t (nI a) = nI (y + 1)) (ho : oA t (nI a) = nI w) (hyw : y + 1 ≤ w) (hw : w < n) : (mlOK t i p ((w - (y + 1)) / 2 + 1) → u_X0_passText U S N t = some ((), qI (if t.1 0 0 6 = 0 then qI t 0 0 9 (nI (a + 1)) else lyS (qI t 0 0 9 (nI (a + 1))) i p (wdT b y w) ((w - (y + 1)) / 2 + 1)) 0 0 10 (nI (p + ((w - (y + 1)) / 2 + 1))))) ∧ (¬ mlOK t i p ((w - (y + 1)) / 2 + 1) → ∃ t2, u_X0_passText U S N t = some ((), t2) ∧ ¬ t2.1 0 0 4 = 0) := by
  have es : (nI w - nI (y + 1)) / 2 + 1 = nI ((w - (y + 1)) / 2 + 1) := by
    rw [sub_nI hyw, show (2 : Int32) = nI 2 from rfl, pk_div (by omega) (by decide) (by decide), nI_1]
  have hk : (w - (y + 1)) / 2 + 1 ≤ 1001 := by omega
  have hkw : ∀ j, j < (w - (y + 1)) / 2 + 1 → y + 1 + 2 * j ≤ w := fun j hj => by omega
  generalize (w - (y + 1)) / 2 + 1 = k at *
  unfold u_X0_passText
  rw [h9, e_value h, Option.bind_some]
  show (_ → ((u_X9_otherOf U S N (nI a) t).bind _) = _) ∧ (_ → ∃ t2, ((u_X9_otherOf U S N (nI a) t).bind _) = _ ∧ _)
  rw [e_other h, Option.bind_some]
  dsimp only
  rw [if_neg (by decide), Option.bind_some, hv, ho, es, h9, nI_1]
  obtain ⟨l1, l2⟩ := e_mayLay (U := U) (S := S) (N := N) (t := qI t 0 0 9 (nI (a + 1))) hN (CA_9 h _) hi hi2 hp (show k ≤ 4096 by omega) h10 h4 (nI a)
  constructor
  · intro ok
    rw [l1 ok, Option.bind_some]
    dsimp only
    rw [if_pos (show ¬ (1 : Int32) = 0 by decide)]
    have hG : GA t (qI t 0 0 9 (nI (a + 1))) := GA_0 ⟨h, AF_refl t⟩ 9 _
    have g6 : (qI t 0 0 9 (nI (a + 1))).1 0 0 6 = t.1 0 0 6 := rfl
    have g10 : (qI t 0 0 9 (nI (a + 1))).1 0 0 10 = nI p := h10
    have gi : (qI t 0 0 9 (nI (a + 1))).2.2.2.1 0 0 3 = some i := hi
    have gL : (qI t 0 0 9 (nI (a + 1))).1 9 0 7 = nI n := eL
    have gb : (qI t 0 0 9 (nI (a + 1))).2.1 11 0 0 = b := hb
    generalize qI t 0 0 9 (nI (a + 1)) = tt at hG g6 g10 gi gL gb ⊢
    have loop : ¬ t.1 0 0 6 = 0 → ∀ (f x : Nat), x ≤ k → k < x + f → ul_X0_passText_56 U S N f (nI (y + 1)) (nI w) (nI k) (nI x) (lyS tt i p (wdT b y w) x) = some ((), qI (lyS tt i p (wdT b y w) k) 0 0 10 (nI (p + k))) := by
      intro c6 f
      induction f with
      | zero => intro x h1 h2; omega
      | succ f ih =>
        intro x h1 h2
        obtain ⟨f1, f2, f3⟩ := lyS_f (t := tt) (i := i) p (wdT b y w) x
        have G := GA_lyS hG gi p (wdT b y w) x
        show uh_X0_passText_56 U S N (ul_X0_passText_56 U S N f) (nI (y + 1)) (nI w) (nI k) (nI x) (lyS tt i p (wdT b y w) x) = _
        unfold uh_X0_passText_56 u_X0_passText_122
        rw [f1 0 (by decide), g6, if_neg c6, g10]
        by_cases cy : k ≤ x
        · rw [if_pos ((leI (by omega) (by omega)).mpr cy), show x = k by omega, nI_add]
          rfl
        · have hx2 := hkw x (by omega)
          rw [if_neg (fun z => cy ((leI (by omega) (by omega)).mp z)), show (2 : Int32) = nI 2 from rfl, mul_nI, nI_add, nI_1, e_six (b := b) (n := n) G.1 (by rw [f1 9 (by decide)]; exact gL) hn (by rw [f2 11 (by decide)]; exact gb) (by omega) (by omega), Option.bind_some]
          dsimp only
          rw [f3, gi, vl_y hi2, Option.bind_some, e_six (b := b) (n := n) G.1 (by rw [f1 9 (by decide)]; exact gL) hn (by rw [f2 11 (by decide)]; exact gb) (by omega) (by omega), Option.bind_some, Option.bind_some, f1 0 (by decide), g10, nI_add]
          dsimp only
          rw [e_lay (by have := ok.1; omega), Option.bind_some, nI_1]
          exact ih (x + 1) (by omega) (by omega)
    by_cases c6 : t.1 0 0 6 = 0
    · rw [if_pos c6]
      obtain ⟨N, rfl⟩ : ∃ k, N = k + 1 := ⟨N - 1, by omega⟩
      show uh_X0_passText_56 U S (N + 1) (ul_X0_passText_56 U S (N + 1) N) (nI (y + 1)) (nI w) (nI k) 0 tt = _
      unfold uh_X0_passText_56 u_X0_passText_122
      rw [g6, if_pos c6, g10, nI_add]
      rfl
    · rw [if_neg c6]
      exact loop c6 N 0 (by omega) (by omega)
  · intro nok
    obtain ⟨t2, e2, hf⟩ := l2 nok
    rw [e2, Option.bind_some]
    dsimp only
    rw [if_neg (show ¬ ¬ (0 : Int32) = 0 from fun z => z rfl)]
    exact ⟨t2, rfl, hf⟩
theorem c_refuse (h : CA t) (k : Int32) : ∃ t2, u_X0_refuse U S N k t = some ((), t2) ∧ ¬ t2.1 0 0 4 = 0 := by
  have r : ∀ x : Int32, ¬ x = 0 → ∃ t2, u_X0_refuse_12 U S N x t = some ((), t2) ∧ ¬ t2.1 0 0 4 = 0 := by
    intro x hx
    obtain ⟨t2, e, hf⟩ := e_report (U := U) (S := S) (N := N) h hx (t.1 0 0 9)
    refine ⟨t2, ?_, hf⟩
    unfold u_X0_refuse_12
    rw [e]
    rfl
  unfold u_X0_refuse
  by_cases c : ¬ k = 6
  · rw [if_pos c]; exact r 2 (by decide)
  · rw [if_neg c]; exact r 1 (by decide)
theorem c_end (h : CA t) (h4 : t.1 0 0 4 = 0) (h7 : t.1 0 0 7 = 0) (h9 : t.1 0 0 9 = nI a) : (eN (kA t (nI a)) = 0 → ∃ t2, u_X0_passEnd U S N t = some ((), t2) ∧ ¬ t2.1 0 0 4 = 0) ∧ (¬ eN (kA t (nI a)) = 0 → kA t (nI a) = 0 → u_X0_passEnd U S N t = some ((), qI t 0 0 7 1)) ∧ (¬ eN (kA t (nI a)) = 0 → ¬ kA t (nI a) = 0 → u_X0_passEnd U S N t = some ((), qI t 0 0 9 (nI (a + 1)))) := by
  unfold u_X0_passEnd u_X0_passEnd_61
  rw [if_neg (not_not_intro h4), if_pos h7, h9, e_kind h, Option.bind_some]
  dsimp only
  rw [e_isEnd, Option.bind_some]
  dsimp only
  refine ⟨fun e => ?_, fun e k0 => ?_, fun e k0 => ?_⟩
  · rw [if_neg (not_not_intro e)]
    obtain ⟨t2, e2, hf⟩ := c_refuse (U := U) (S := S) (N := N) h (kA t (nI a))
    rw [e2, Option.bind_some]
    exact ⟨t2, rfl, hf⟩
  · rw [if_pos e, if_neg (not_not_intro k0)]
    unfold qZ
    rw [if_pos (Or.inr rfl)]
    rfl
  · rw [if_pos e, if_pos k0, h9, nI_1]
    rfl
theorem end_f (h4 : ¬ t.1 0 0 4 = 0) : u_X0_passEnd U S N t = some ((), t) := by
  unfold u_X0_passEnd u_X0_passEnd_14
  rw [if_pos h4]
end
/-- the readers tell the same -/
def SR (t t2 : CS) : Prop := t2.1 9 = t.1 9 ∧ t2.2.1 9 = t.2.1 9 ∧ t2.1 4 = t.1 4 ∧ t2.2.1 4 = t.2.1 4 ∧ t2.2.2.1 = t.2.2.1 ∧ t2.2.1 11 = t.2.1 11 ∧ t2.1 0 0 6 = t.1 0 0 6 ∧ t2.1 0 0 7 = t.1 0 0 7 ∧ t2.1 0 0 8 = t.1 0 0 8 ∧ t2.1 0 0 10 = t.1 0 0 10 ∧ t2.2.2.2 = t.2.2.2
theorem SR_0 (t : CS) : SR t t := ⟨rfl, rfl, rfl, rfl, rfl, rfl, rfl, rfl, rfl, rfl, rfl⟩
theorem SR_9 (t : CS) (x : Int32) : SR t (qI t 0 0 9 x) := ⟨rfl, rfl, rfl, rfl, rfl, rfl, rfl, rfl, rfl, rfl, rfl⟩
theorem SR_t {t t2 t3 : CS} (h : SR t t2) (g : SR t2 t3) : SR t t3 := by
  obtain ⟨h1, h2, h3, h4, h5, h6, h7, h8, h9, h10, h11⟩ := h
  obtain ⟨g1, g2, g3, g4, g5, g6, g7, g8, g9, g10, g11⟩ := g
  exact ⟨g1.trans h1, g2.trans h2, g3.trans h3, g4.trans h4, g5.trans h5, g6.trans h6, g7.trans h7, g8.trans h8, g9.trans h9, g10.trans h10, g11.trans h11⟩
theorem SR_ly (t : CS) (i p : Nat) (x : Int32) : SR t (lyT t i p x) := by
  obtain ⟨f1, f2, f3⟩ := ly_f (t := t) (i := i) p x
  exact ⟨f1 9 (by decide), f2 9 (by decide), f1 4 (by decide), f2 4 (by decide), by rw [f3], f2 11 (by decide), by rw [f1 0 (by decide)], by rw [f1 0 (by decide)], by rw [f1 0 (by decide)], by rw [f1 0 (by decide)], by rw [f3]⟩
theorem SR_lyS (t : CS) (i p : Nat) (w : Nat → Int32) (k : Nat) : SR t (lyS t i p w k) := by
  obtain ⟨f1, f2, f3⟩ := lyS_f (t := t) (i := i) p w k
  exact ⟨f1 9 (by decide), f2 9 (by decide), f1 4 (by decide), f2 4 (by decide), by rw [f3], f2 11 (by decide), by rw [f1 0 (by decide)], by rw [f1 0 (by decide)], by rw [f1 0 (by decide)], by rw [f1 0 (by decide)], by rw [f3]⟩
theorem SR_k {t t2 : CS} (h : SR t t2) : kA t2 = kA t ∧ vA t2 = vA t ∧ oA t2 = oA t ∧ gA t2 = gA t ∧ nA t2 = nA t ∧ bV t2 = bV t ∧ bP t2 = bP t ∧ pv t2 = pv t ∧ pm t2 = pm t := by
  obtain ⟨h1, h2, h3, h4, h5, h6, h7, h8, h9, h10, h11⟩ := h
  have k1 : kA t2 = kA t := by funext a; unfold kA; rw [h1, h2, h9]
  have k2 : vA t2 = vA t := by funext a; unfold vA; rw [h1, h2]
  have k3 : oA t2 = oA t := by funext a; unfold oA; rw [h1, h2]
  have k4 : gA t2 = gA t := by funext a; unfold gA; rw [h3, h4]
  have k5 : nA t2 = nA t := by funext a; unfold nA; rw [h3, h4]
  have k6 : bV t2 = bV t := by funext a; unfold bV; rw [k1, k2]
  have k7 : bP t2 = bP t := by funext a; unfold bP; rw [k1, k6]
  have k8 : pv t2 = pv t := by funext q a; unfold pv; rw [k1, k2, k3, k4, k5, h7, h9, h10]
  have k9 : pm t2 = pm t := by funext q a; unfold pm; rw [k1, k8]
  exact ⟨k1, k2, k3, k4, k5, k6, k7, k8, k9⟩
theorem SR_rv {t t2 : CS} (h : SR t t2) : rv t2 = rv t ∧ alo t2 = alo t ∧ aln t2 = aln t := by
  obtain ⟨k1, k2, -, -, -, -, -, -, k9⟩ := SR_k h
  have f : ∀ q f a v op, rvF t2 q f a v op = rvF t q f a v op := by
    intro q f
    induction f with
    | zero => intro a v op; rfl
    | succ f ih =>
      intro a v op
      show (pm t2 q a).bind _ = (pm t q a).bind _
      rw [k9]
      congr 1
      funext p
      rw [k1, ih]
  have k10 : alo t2 = alo t := by funext a; unfold alo; rw [k1, k2]
  refine ⟨by funext q a; exact f q 3000 a 0 43, k10, ?_⟩
  funext q a
  unfold aln
  rw [k9, k10]
  cases pm t q a with
  | none => rfl
  | some p => dsimp only; rw [k1]
