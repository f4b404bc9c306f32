/-! LAYER 3, the class's statements, told plainly -/
def tlT (t : CS) (w : Nat) (v g : Int32) : CS := if t.2.1 4 0 2 w = 0 then qA (qA (qI t 4 0 4 (t.1 4 0 4 + 1)) 4 0 1 w v) 4 0 2 w g else qA (qA t 4 0 1 w v) 4 0 2 w g
def lyS (t : CS) (i p : Nat) (w : Nat → Int32) : Nat → CS
  | 0 => t
  | k + 1 => lyT (lyS t i p w k) i (p + k) (w k)
def mlOK (t : CS) (i p k : Nat) : Prop := p + k ≤ 4096 ∧ (t.1 0 0 6 = 0 ∨ ∀ j, p ≤ j → j < p + k → t.2.1 7 i 0 j < 4096)
section
variable {U S N c m i a : Nat} {t0 t : CS}
theorem CA_9 (h : CA t) (x : Int32) : CA (qI t 0 0 9 x) := (GA_0 ⟨h, AF_refl t⟩ 9 x).1
theorem c_origin (hN : 5000 < N) (h : CA t) (ec : t.1 9 0 5 = nI c) (hc : c ≤ 2001) (h4 : t.1 0 0 4 = 0) (h9 : t.1 0 0 9 = nI a) (ha : a < c) : (∀ p, rv t 1 (a + 1) = some p → u_X0_passOrigin U S N t = some ((), qI (qI t 0 0 9 (nI p.2)) 0 0 10 p.1)) ∧ (rv t 1 (a + 1) = none → ∃ t2, u_X0_passOrigin U S N t = some ((), t2) ∧ ¬ t2.1 0 0 4 = 0) := by
  obtain ⟨r1, r2⟩ := e_rv (U := U) (S := S) hN h ec hc h4 (show a + 1 ≤ c by omega) 1
  unfold u_X0_passOrigin u_X0_passOrigin_28
  rw [h9, nI_1, Option.bind_some]
  constructor
  · rintro ⟨v, a2⟩ e
    rw [r1 v a2 e, Option.bind_some]
    show (if ¬ t.1 0 0 4 = 0 then _ else _) = _
    rw [if_neg (not_not_intro h4)]
    rfl
  · intro e
    obtain ⟨x, t2, e2, hf⟩ := r2 e
    rw [e2, Option.bind_some]
    dsimp only
    rw [if_pos hf]
    exact ⟨t2, rfl, hf⟩
theorem e_tell2 (em : t.1 4 0 3 = nI m) (hm : m ≤ 1054) {w : Nat} (hw : w < m) (v g : Int32) : u_X4_tell U S N (nI w) v g t = some ((), tlT t w v g) := by
  unfold u_X4_tell u_X4_tell_32 tlT
  rw [if_neg (nI_nn (by omega)), em, if_pos ((ltI (by omega) (by omega)).mpr hw), rH_y (by decide) (by omega), Option.bind_some]
  by_cases c0 : t.2.1 4 0 2 w = 0
  · rw [if_neg (not_not_intro c0), if_pos c0, Option.bind_some, wH_y (by decide) (by omega), Option.bind_some, wH_y (by decide) (by omega)]
    rfl
  · rw [if_pos c0, if_neg c0, wH_y (by decide) (by omega), Option.bind_some, wH_y (by decide) (by omega)]
    rfl
theorem c_equation (hN : 5000 < N) (h : CA t) (ec : t.1 9 0 5 = nI c) (hc : c ≤ 2001) (h4 : t.1 0 0 4 = 0) (h9 : t.1 0 0 9 = nI a) (ha : a + 1 < c) (em : t.1 4 0 3 = nI m) (hm : m ≤ 1054) {w : Nat} (hw : w < m) (hv : vA t (nI a) = nI w) : (mtOK t 2 → ∀ p, rv t 1 (a + 2) = some p → u_X0_passEquation U S N t = some ((), tlT (qI t 0 0 9 (nI p.2)) w p.1 2)) ∧ ((¬ mtOK t 2 ∨ rv t 1 (a + 2) = none) → ∃ t2, u_X0_passEquation U S N t = some ((), t2) ∧ ¬ t2.1 0 0 4 = 0) := by
  obtain ⟨r1, r2⟩ := e_rv (U := U) (S := S) hN h ec hc h4 (show a + 2 ≤ c by omega) 1
  have e2 : nI a + 2 = nI (a + 2) := nI_add a 2
  unfold u_X0_passEquation u_X0_passEquation_54
  rw [e_value h, Option.bind_some, h9, hv]
  dsimp only
  rcases e_mt (U := U) (S := S) (N := N) h 2 with ⟨-, ok, e⟩ | ⟨nok, t2, e, hf⟩
  · rw [e, Option.bind_some]
    dsimp only
    rw [if_pos (show ¬ (1 : Int32) = 0 by decide), Option.bind_some, h9, e2]
    constructor
    · rintro - ⟨v, a2⟩ hp
      rw [r1 v a2 hp, Option.bind_some]
      show (if ¬ t.1 0 0 4 = 0 then _ else _) = _
      rw [if_neg (not_not_intro h4), e_tell2 (t := qI t 0 0 9 (nI a2)) em hm hw]
      rfl
    · rintro (hz | hz)
      · exact absurd ok hz
      · obtain ⟨x, t2, e3, hf⟩ := r2 hz
        rw [e3, Option.bind_some]
        dsimp only
        rw [if_pos hf]
        exact ⟨t2, rfl, hf⟩
  · rw [e, Option.bind_some]
    dsimp only
    rw [if_neg (show ¬ ¬ (0 : Int32) = 0 from fun z => z rfl)]
    exact ⟨fun ok => absurd ⟨h4, ok⟩ nok, fun _ => ⟨t2, rfl, hf⟩⟩
theorem c_page (hN : 5000 < N) (h : CA t) (ec : t.1 9 0 5 = nI c) (hc : c ≤ 2001) (h4 : t.1 0 0 4 = 0) (h9 : t.1 0 0 9 = nI a) (ha : a < c) : (bV t (nI (a + 1)) = 0 → u_X0_passPage U S N t = some ((), qI (qI t 0 0 9 (nI (a + 1))) 0 0 10 ((((t.1 0 0 10 + 128) - 1) / 128) * 128))) ∧ (¬ bV t (nI (a + 1)) = 0 → (∀ p, rv t 1 (a + 1) = some p → p.1 < 32 → u_X0_passPage U S N t = some ((), qI (qI t 0 0 9 (nI p.2)) 0 0 10 (p.1 * 128))) ∧ ((rv t 1 (a + 1) = none ∨ ∃ p, rv t 1 (a + 1) = some p ∧ ¬ p.1 < 32) → ∃ t2, u_X0_passPage U S N t = some ((), t2) ∧ ¬ t2.1 0 0 4 = 0)) := by
  obtain ⟨r1, r2⟩ := e_rv (U := U) (S := S) hN h ec hc h4 (show a + 1 ≤ c by omega) 1
  unfold u_X0_passPage u_X0_passPage_88
  rw [h9, nI_1, Option.bind_some]
  show (_ → ((u_X0_beginsValue U S N (nI (a + 1)) (qI t 0 0 9 (nI (a + 1)))).bind _) = _) ∧ (_ → (∀ p, _ → _ → ((u_X0_beginsValue U S N (nI (a + 1)) (qI t 0 0 9 (nI (a + 1)))).bind _) = _) ∧ (_ → ∃ t2, ((u_X0_beginsValue U S N (nI (a + 1)) (qI t 0 0 9 (nI (a + 1)))).bind _) = _ ∧ _))
  rw [e_begV (CA_9 h _), Option.bind_some]
  show (_ → (if ¬ bV t (nI (a + 1)) = 0 then _ else _) = _) ∧ (_ → (∀ p, _ → _ → (if ¬ bV t (nI (a + 1)) = 0 then _ else _) = _) ∧ (_ → ∃ t2, (if ¬ bV t (nI (a + 1)) = 0 then _ else _) = _ ∧ _))
  constructor
  · intro hb
    rw [if_neg (not_not_intro hb), if_neg (by decide)]
    rfl
  · intro hb
    rw [if_pos hb]
    constructor
    · rintro ⟨v, a2⟩ e hlt
      rw [r1 v a2 e, Option.bind_some]
      show (if t.1 0 0 4 = 0 then _ else _) = _
      rw [if_pos h4, if_pos hlt]
      rfl
    · rintro (e | ⟨⟨v, a2⟩, e, hge⟩)
      · obtain ⟨x, t2, e2, hf⟩ := r2 e
        rw [e2, Option.bind_some]
        dsimp only
        rw [if_neg hf]
        exact ⟨t2, rfl, hf⟩
      · rw [r1 v a2 e, Option.bind_some]
        show ∃ t2, (if t.1 0 0 4 = 0 then _ else _) = _ ∧ _
        rw [if_pos h4, if_neg hge]
        obtain ⟨t2, e2, hf⟩ := e_report (U := U) (S := S) (N := N) (t := qI t 0 0 9 (nI a2)) (CA_9 h _) (show ¬ (6 : Int32) = 0 by decide) ((qI t 0 0 9 (nI (a + 1))).1 0 0 9)
        dsimp only
        rw [e2, Option.bind_some]
        exact ⟨t2, rfl, hf⟩
theorem c_radix (h9 : t.1 0 0 9 = nI a) {x : Int32} (hx : x = 0 ∨ x = 1) : u_X0_passRadix U S N x t = some ((), qI (qI t 0 0 8 x) 0 0 9 (nI (a + 1))) := by
  unfold u_X0_passRadix qZ
  rw [if_pos hx, Option.bind_some, Option.bind_some]
  show some ((), qI (qI t 0 0 8 x) 0 0 9 (t.1 0 0 9 + 1)) = _
  rw [h9, nI_1]
theorem e_hasLit (hN : 5000 < N) {p k : Nat} (hp : p ≤ 4096) (hk : k ≤ 4096) : ((∀ j, p ≤ j → j < p + k → j < 4096 → t.2.1 7 i 0 j < 4096) → u_X7_hasLiteral U S N i (nI p) (nI k) t = some (0, t)) ∧ ((∃ j, p ≤ j ∧ j < p + k ∧ j < 4096 ∧ ¬ t.2.1 7 i 0 j < 4096) → u_X7_hasLiteral U S N i (nI p) (nI k) t = some (1, t)) := by
  have loop : ∀ (f y : Nat), p ≤ y → y ≤ p + k → p + k < y + f → ((∀ j, y ≤ j → j < p + k → j < 4096 → t.2.1 7 i 0 j < 4096) → ul_X7_hasLiteral_6 U S N f i (nI p) (nI k) (nI y) t = some (0, t)) ∧ ((∃ j, y ≤ j ∧ j < p + k ∧ j < 4096 ∧ ¬ t.2.1 7 i 0 j < 4096) → ul_X7_hasLiteral_6 U S N f i (nI p) (nI k) (nI y) t = some (1, t)) := by
    intro f
    induction f with
    | zero => intro y h1 h2 h3; omega
    | succ f ih =>
      intro y h1 h2 h3
      have st1 : ul_X7_hasLiteral_6 U S N (f + 1) i (nI p) (nI k) (nI y) t = uh_X7_hasLiteral_6 U S N (ul_X7_hasLiteral_6 U S N f) i (nI p) (nI k) (nI y) t := rfl
      rw [st1]
      unfold uh_X7_hasLiteral_6 u_X7_hasLiteral_40
      rw [nI_add, cZ0, cZ1]
      by_cases c1 : p + k ≤ y
      · rw [if_pos ((leI (by omega) (by omega)).mpr c1)]
        exact ⟨fun _ => rfl, fun ⟨j, j1, j2, _⟩ => by omega⟩
      · rw [if_neg (fun z => c1 ((leI (by omega) (by omega)).mp z))]
        by_cases c2 : 4096 ≤ y
        · rw [if_pos ((Lle (k := 4096) (c := 4096) rfl (by omega) (by decide)).mpr c2)]
          exact ⟨fun _ => rfl, fun ⟨j, j1, j2, j3, _⟩ => by omega⟩
        · rw [if_neg (fun z => c2 ((Lle (k := 4096) (c := 4096) rfl (by omega) (by decide)).mp z)), rH_y (by decide) (by omega), Option.bind_some, nI_1]
          obtain ⟨i1, i2⟩ := ih (y + 1) (by omega) (by omega) (by omega)
          by_cases c3 : t.2.1 7 i 0 y < 4096
          · rw [if_pos c3]
            refine ⟨fun h => i1 (fun j j1 j2 j3 => h j (by omega) j2 j3), fun ⟨j, j1, j2, j3, j4⟩ => i2 ⟨j, ?_, j2, j3, j4⟩⟩
            by_cases e : j = y
            · rw [e] at j4; exact absurd c3 j4
            · omega
          · rw [if_neg c3]
            exact ⟨fun h => absurd (h y (Nat.le_refl _) (by omega) (by omega)) c3, fun _ => rfl⟩
  have e0 : mmax 0 (nI p) = nI p := by
    unfold mmax
    by_cases c : p = 0
    · subst c; rfl
    · rw [if_pos (show (0 : Int32) < nI p from (Llt (k := 0) (c := 0) rfl (by omega) (by decide)).mpr (by omega))]
  unfold u_X7_hasLiteral
  rw [e0]
  exact loop N p (Nat.le_refl _) (by omega) (by omega)
theorem e_mayLay (hN : 5000 < N) (h : CA t) (hi : t.2.2.2.1 0 0 3 = some i) (hi2 : i < 2) {p k : Nat} (hp : p ≤ 4096) (hk : k ≤ 4096) (h10 : t.1 0 0 10 = nI p) (h4 : t.1 0 0 4 = 0) (x : Int32) : (mlOK t i p k → u_X0_mayLay U S N x (nI k) t = some (1, t)) ∧ (¬ mlOK t i p k → ∃ t2, u_X0_mayLay U S N x (nI k) t = some (0, t2) ∧ ¬ t2.1 0 0 4 = 0) := by
  have e62 : u_X0_mayLay_62 U S N t = some (1, t) := by
    unfold u_X0_mayLay_62 u_X0_mayLay_74
    rw [if_neg (not_not_intro h4)]
    rfl
  have f62 : ∀ t2 : CS, ¬ t2.1 0 0 4 = 0 → u_X0_mayLay_62 U S N t2 = some (0, t2) := by
    intro t2 hf
    unfold u_X0_mayLay_62 u_X0_mayLay_74
    rw [if_pos hf]
    rfl
  have f26 : ∀ t2 : CS, ¬ t2.1 0 0 4 = 0 → u_X0_mayLay_26 U S N x (nI k) t2 = some (0, t2) := by
    intro t2 hf
    unfold u_X0_mayLay_26
    rw [if_pos hf, f62 t2 hf]
  have rp : ∀ k2 : Int32, ¬ k2 = 0 → ∃ t2, u_X0_report U S N k2 x t = some ((), t2) ∧ ¬ t2.1 0 0 4 = 0 := fun k2 hk2 => e_report h hk2 x
  obtain ⟨l1, l2⟩ := e_hasLit (U := U) (S := S) (N := N) (t := t) (i := i) hN hp hk
  unfold u_X0_mayLay mlOK
  rw [if_neg (not_not_intro h4), h10, nI_add]
  by_cases c1 : p + k ≤ 4096
  · rw [if_pos ((leL (k := 4096) (c := 4096) rfl (by omega) (by decide)).mpr c1)]
    unfold u_X0_mayLay_26
    rw [if_neg (not_not_intro h4), e62]
    by_cases c6 : t.1 0 0 6 = 0
    · rw [if_pos c6]
      exact ⟨fun _ => rfl, fun z => absurd ⟨c1, Or.inl c6⟩ z⟩
    · rw [if_neg c6, hi, vl_y hi2, Option.bind_some, Option.bind_some, h10]
      by_cases c7 : ∃ j, p ≤ j ∧ j < p + k ∧ j < 4096 ∧ ¬ t.2.1 7 i 0 j < 4096
      · rw [l2 c7, Option.bind_some]
        dsimp only
        rw [if_neg (show ¬ (1 : Int32) = 0 by decide)]
        obtain ⟨j, j1, j2, j3, j4⟩ := c7
        obtain ⟨t2, e2, hf⟩ := rp 8 (by decide)
        refine ⟨fun z => absurd (z.2.resolve_left c6 j j1 j2) j4, fun _ => ⟨t2, ?_, hf⟩⟩
        rw [e2, Option.bind_some]
        exact f62 t2 hf
      · have c8 : ∀ j, p ≤ j → j < p + k → j < 4096 → t.2.1 7 i 0 j < 4096 := fun j j1 j2 j3 => Decidable.byContradiction (fun z => c7 ⟨j, j1, j2, j3, z⟩)
        rw [l1 c8, Option.bind_some]
        dsimp only
        rw [if_pos (show (0 : Int32) = 0 from rfl), e62]
        exact ⟨fun _ => rfl, fun z => absurd ⟨c1, Or.inr (fun j j1 j2 => c8 j j1 j2 (by omega))⟩ z⟩
  · rw [if_neg (fun z => c1 ((leL (k := 4096) (c := 4096) rfl (by omega) (by decide)).mp z))]
    obtain ⟨t2, e2, hf⟩ := rp 6 (by decide)
    refine ⟨fun z => absurd z.1 c1, fun _ => ⟨t2, ?_, hf⟩⟩
    rw [e2, Option.bind_some]
    exact f26 t2 hf
theorem mayLay_f {x y : Int32} (h4 : ¬ t.1 0 0 4 = 0) : u_X0_mayLay U S N x y t = some (0, t) := by
  unfold u_X0_mayLay u_X0_mayLay_26 u_X0_mayLay_62 u_X0_mayLay_74
  rw [if_pos h4, if_pos h4, if_pos h4]
  rfl
theorem lyS_f (p : Nat) (w : Nat → Int32) : ∀ k, (∀ j, j ≠ 7 → (lyS t i p w k).1 j = t.1 j) ∧ (∀ j, j ≠ 7 → (lyS t i p w k).2.1 j = t.2.1 j) ∧ (lyS t i p w k).2.2 = t.2.2 := by
  intro k
  induction k with
  | zero => exact ⟨fun _ _ => rfl, fun _ _ => rfl, rfl⟩
  | succ k ih =>
    obtain ⟨f1, f2, f3⟩ := ly_f (t := lyS t i p w k) (i := i) (p + k) (w k)
    exact ⟨fun j hj => (f1 j hj).trans (ih.1 j hj), fun j hj => (f2 j hj).trans (ih.2.1 j hj), f3.trans ih.2.2⟩
theorem GA_ly (h : GA t0 t) (hi : t.2.2.2.1 0 0 3 = some i) (p : Nat) (x : Int32) : GA t0 (lyT t i p x) := by
  unfold lyT
  split
  · exact GA_7 (GA_71 h hi _) hi _
  · exact GA_7 h hi _
theorem GA_lyS (h : GA t0 t) (hi : t.2.2.2.1 0 0 3 = some i) (p : Nat) (w : Nat → Int32) : ∀ k, GA t0 (lyS t i p w k) := by
  intro k
  induction k with
  | zero => exact h
  | succ k ih => exact GA_ly ih (by rw [(lyS_f p w k).2.2]; exact hi) _ _
theorem c_zeros (hN : 5000 < N) (h : CA t) (ec : t.1 9 0 5 = nI c) (hc : c ≤ 2001) (h4 : t.1 0 0 4 = 0) (h9 : t.1 0 0 9 = nI a) (ha : a < c) (hi : t.2.2.2.1 0 0 3 = some i) (hi2 : i < 2) {p : Nat} (hp : p ≤ 4096) (h10 : t.1 0 0 10 = nI p) : (∀ k a2, rv t 1 (a + 1) = some (nI k, a2) → k < 4096 → mlOK t i p k → u_X0_passZeros U S N t = some ((), qI (if t.1 0 0 6 = 0 then qI t 0 0 9 (nI a2) else lyS (qI t 0 0 9 (nI a2)) i p (fun _ => 0) k) 0 0 10 (nI (p + k)))) ∧ ((rv t 1 (a + 1) = none ∨ ∃ k a2, rv t 1 (a + 1) = some (nI k, a2) ∧ k < 4096 ∧ ¬ mlOK t i p k) → ∃ t2, u_X0_passZeros U S N t = some ((), t2) ∧ ¬ t2.1 0 0 4 = 0) := by
  obtain ⟨r1, r2⟩ := e_rv (U := U) (S := S) hN h ec hc h4 (show a + 1 ≤ c by omega) 1
  unfold u_X0_passZeros
  rw [h9, nI_1, Option.bind_some]
  constructor
  · intro k a2 e hk ok
    rw [r1 _ _ e, Option.bind_some]
    dsimp only
    rw [(e_mayLay (U := U) (S := S) (N := N) (t := qI t 0 0 9 (nI a2)) hN (CA_9 h _) hi hi2 hp (by omega) h10 h4 (nI a)).1 ok, Option.bind_some]
    dsimp only
    rw [if_pos (show ¬ (1 : Int32) = 0 by decide)]
    generalize htt : qI t 0 0 9 (nI a2) = tt
    have g6 : tt.1 0 0 6 = t.1 0 0 6 := by rw [← htt]; rfl
    have g10 : tt.1 0 0 10 = nI p := by rw [← htt]; exact h10
    have gi : tt.2.2.2.1 0 0 3 = some i := by rw [← htt]; exact hi
    have loop : ¬ t.1 0 0 6 = 0 → ∀ (f y : Nat), y ≤ k → k < y + f → ul_X0_passZeros_33 U S N f (nI k) (nI y) (lyS tt i p (fun _ => 0) y) = some ((), qI (lyS tt i p (fun _ => 0) k) 0 0 10 (nI (p + k))) := by
      intro c6 f
      induction f with
      | zero => intro y h1 h2; omega
      | succ f ih =>
        intro y h1 h2
        obtain ⟨f1, f2, f3⟩ := lyS_f (t := tt) (i := i) p (fun _ => 0) y
        show uh_X0_passZeros_33 U S N (ul_X0_passZeros_33 U S N f) (nI k) (nI y) (lyS tt i p (fun _ => 0) y) = _
        unfold uh_X0_passZeros_33 u_X0_passZeros_65
        rw [f1 0 (by decide), f3, g6, if_neg c6, g10, gi, vl_y hi2]
        by_cases cy : k ≤ y
        · rw [if_pos ((leI (by omega) (by omega)).mpr cy), show y = k by omega, nI_add]
          rfl
        · rw [if_neg (fun z => cy ((leI (by omega) (by omega)).mp z)), Option.bind_some, Option.bind_some, nI_add, e_lay (by have := ok.1; omega), Option.bind_some, nI_1]
          exact ih (y + 1) (by omega) (by omega)
    by_cases c6 : t.1 0 0 6 = 0
    · rw [if_pos c6]
      obtain ⟨N, rfl⟩ : ∃ k, N = k + 1 := ⟨N - 1, by omega⟩
      show uh_X0_passZeros_33 U S (N + 1) (ul_X0_passZeros_33 U S (N + 1) N) (nI k) 0 tt = _
      unfold uh_X0_passZeros_33 u_X0_passZeros_65
      rw [g6, if_pos c6, g10, nI_add]
      rfl
    · rw [if_neg c6]
      exact loop c6 N 0 (by omega) (by omega)
  · rintro (e | ⟨k, a2, e, hk, nok⟩)
    · obtain ⟨x, t2, e2, hf⟩ := r2 e
      rw [e2, Option.bind_some]
      dsimp only
      rw [mayLay_f hf, Option.bind_some]
      dsimp only
      rw [if_neg (show ¬ ¬ (0 : Int32) = 0 from fun z => z rfl)]
      exact ⟨t2, rfl, hf⟩
    · rw [r1 _ _ e, Option.bind_some]
      dsimp only
      obtain ⟨t2, e2, hf⟩ := (e_mayLay (U := U) (S := S) (N := N) (t := qI t 0 0 9 (nI a2)) hN (CA_9 h _) hi hi2 hp (by omega) h10 h4 (nI a)).2 nok
      rw [e2, Option.bind_some]
      dsimp only
      rw [if_neg (show ¬ ¬ (0 : Int32) = 0 from fun z => z rfl)]
      exact ⟨t2, rfl, hf⟩
end
