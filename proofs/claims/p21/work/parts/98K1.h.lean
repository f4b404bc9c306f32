/-! LAYER 3, words: the class told plainly -/
theorem pg_tab : ∀ h, h < 32 → ∀ l, l < 128 → (nI (128 * h + l) &&& 3968) = nI (128 * h) := by decide +kernel
theorem pg_and {k : Nat} (hk : k < 4096) : nI k &&& 3968 = nI (128 * (k / 128)) := by
  have := pg_tab (k / 128) (by omega) (k % 128) (by omega)
  rw [show 128 * (k / 128) + k % 128 = k by omega] at this
  exact this
/-- inside a word that will lie at p -/
def JW (b : Nat → Int32) (n : Nat) (P : Nat → Nat) (c m T : Nat) (ν : Nat → Nat) (i p : Nat) (t : CS) (s : RS) : Prop := EX b n P c m T ν t s ∧ i < 2 ∧ t.2.2.2.1 0 0 3 = some i ∧ t.1 7 i 1 = nI (cn (t.2.1 7 i 0) 4096) ∧ p < 4096 ∧ t.1 0 0 10 = nI p ∧ s.1 29 = 0 ∧ s.1 28 = 0 ∧ t.1 0 0 7 = 0 ∧ FZ s ∧ (t.1 0 0 8 = 0 ∨ t.1 0 0 8 = 1) ∧ ((t.1 0 0 6 = 0 ∧ RSh (t.2.1 7 i 0) s) ∨ (t.1 0 0 6 = 1 ∧ ∃ X0, RSh X0 s ∧ t.2.1 7 i 0 = upd X0 p 0 ∧ s.2.1 24 p = 0))
/-- behind a literal's place: a fault, or all that is read stays -/
def lfR (t t2 : CS) : Prop := ¬ t2.1 0 0 4 = 0 ∨ (t2.1 0 0 4 = 0 ∧ SR t t2 ∧ t2.1 0 0 9 = t.1 0 0 9)
section
variable {U S N n c m T i a : Nat} {b : Nat → Int32} {P ν : Nat → Nat} {t : CS} {s : RS}
theorem lfR_0 (h4 : t.1 0 0 4 = 0) : lfR t t := Or.inr ⟨h4, SR_0 t, rfl⟩
theorem lfR_k {t2 : CS} (h : lfR t t2) (h6 : kA t (t.1 0 0 9) = 6) : ¬ t2.1 0 0 4 = 0 ∨ (t2.1 0 0 4 = 0 ∧ kA t2 (t2.1 0 0 9) = 6) := by
  rcases h with h | ⟨h, g, e⟩
  · exact Or.inl h
  · exact Or.inr ⟨h, by rw [(SR_k g).1, e]; exact h6⟩
theorem e_mbw (hN : 5000 < N) (h : CA t) (hi : t.2.2.2.1 0 0 3 = some i) (hi2 : i < 2) {p : Nat} (hp : p ≤ 4096) (h10 : t.1 0 0 10 = nI p) (h4 : t.1 0 0 4 = 0) : (mlOK t i p 1 → u_X0_mayBeginWord U S N t = some (1, if t.1 0 0 6 = 0 then t else lyT t i p 0)) ∧ (¬ mlOK t i p 1 → ∃ t2, u_X0_mayBeginWord U S N t = some (0, t2) ∧ ¬ t2.1 0 0 4 = 0) := by
  have f77 : ∀ t2 : CS, ¬ t2.1 0 0 4 = 0 → u_X0_mayBeginWord_77 U S N t2 = some (0, t2) := by
    intro t2 hf
    unfold u_X0_mayBeginWord_77 u_X0_mayBeginWord_89
    rw [if_pos hf, cZ0]
  have g77 : ∀ t2 : CS, t2.1 0 0 4 = 0 → u_X0_mayBeginWord_77 U S N t2 = some (1, t2) := by
    intro t2 hf
    unfold u_X0_mayBeginWord_77 u_X0_mayBeginWord_89
    rw [if_neg (not_not_intro hf), cZ1]
  have rp : ∀ k2 : Int32, ¬ k2 = 0 → ∃ t2, u_X0_report U S N k2 (t.1 0 0 9) t = some ((), t2) ∧ ¬ t2.1 0 0 4 = 0 := fun k2 hk2 => e_report h hk2 _
  obtain ⟨l1, l2⟩ := e_hasLit (U := U) (S := S) (N := N) (t := t) (i := i) (k := 1) hN hp (by decide)
  unfold u_X0_mayBeginWord mlOK
  rw [h10]
  by_cases c1 : p + 1 ≤ 4096
  · rw [if_pos ((ltL (k := 4096) (c := 4096) rfl (by omega) (by decide)).mpr (by omega))]
    by_cases c6 : t.1 0 0 6 = 0
    · rw [if_pos c6, if_pos c6]
      unfold u_X0_mayBeginWord_58
      rw [if_pos c6, g77 t h4]
      exact ⟨fun _ => rfl, fun z => absurd ⟨c1, Or.inl c6⟩ z⟩
    · rw [if_neg c6, if_neg c6, hi, vl_y hi2, Option.bind_some, Option.bind_some]
      by_cases c7 : t.2.1 7 i 0 p < 4096
      · have c8 : ∀ j, p ≤ j → j < p + 1 → t.2.1 7 i 0 j < 4096 := fun j j1 j2 => by rw [show j = p by omega]; exact c7
        have e1 := l1 (fun j j1 j2 _ => c8 j j1 j2)
        rw [show (nI 1 : Int32) = 1 from rfl] at e1
        rw [e1, Option.bind_some]
        dsimp only
        rw [if_pos (show (0 : Int32) = 0 from rfl)]
        unfold u_X0_mayBeginWord_58
        rw [if_neg c6, hi, vl_y hi2, Option.bind_some, Option.bind_some, h10, e_lay (by omega), Option.bind_some]
        dsimp only
        rw [g77 _ (by rw [(ly_f p 0).1 0 (by decide)]; exact h4)]
        exact ⟨fun _ => rfl, fun z => absurd ⟨c1, Or.inr c8⟩ z⟩
      · have e1 := l2 ⟨p, Nat.le_refl _, by omega, by omega, c7⟩
        rw [show (nI 1 : Int32) = 1 from rfl] at e1
        rw [e1, Option.bind_some]
        dsimp only
        rw [if_neg (show ¬ (1 : Int32) = 0 by decide)]
        obtain ⟨t2, e2, hf⟩ := rp 8 (by decide)
        rw [e2, Option.bind_some]
        exact ⟨fun z => absurd (z.2.resolve_left c6 p (Nat.le_refl _) (by omega)) c7, fun _ => ⟨t2, f77 t2 hf, hf⟩⟩
  · rw [if_neg (fun z => c1 (by have := (ltL (k := 4096) (c := 4096) rfl (by omega) (by decide)).mp z; omega))]
    obtain ⟨t2, e2, hf⟩ := rp 6 (by decide)
    rw [e2, Option.bind_some]
    exact ⟨fun z => absurd z.1 c1, fun _ => ⟨t2, f77 t2 hf, hf⟩⟩
theorem e_fin (hi : t.2.2.2.1 0 0 3 = some i) (hi2 : i < 2) {p : Nat} (hp : p < 4096) (h10 : t.1 0 0 10 = nI p) (h4 : t.1 0 0 4 = 0) (v : Int32) : u_X0_finishWord U S N v t = some ((), qI (if t.1 0 0 6 = 0 then t else lyT t i p v) 0 0 10 (nI (p + 1))) := by
  unfold u_X0_finishWord u_X0_finishWord_26
  rw [if_neg (not_not_intro h4)]
  by_cases c6 : t.1 0 0 6 = 0
  · rw [if_pos c6, if_pos c6, h10, nI_1]
    rfl
  · rw [if_neg c6, if_neg c6, hi, vl_y hi2, Option.bind_some, Option.bind_some, h10, e_lay hp, Option.bind_some]
    dsimp only
    rw [(ly_f p v).1 0 (by decide), h10, nI_1]
    rfl
theorem e_finf (h4 : ¬ t.1 0 0 4 = 0) (v : Int32) : u_X0_finishWord U S N v t = some ((), qI t 0 0 10 (t.1 0 0 10 + 1)) := by
  unfold u_X0_finishWord u_X0_finishWord_26
  rw [if_pos h4]
  rfl
/-- whatever state: a literal's place changes the sheet alone -/
theorem lp_any (hN : 5000 < N) (x y : Int32) : ∃ v t2, u_X7_literalPlace U S N i x y t = some (v, t2) ∧ (t2 = t ∨ ∃ p z, t2 = lyT t i p z) := by
  have step : ∀ (k : Nat → Int32 → Int32 → Int32 → CS → Option (Int32 × CS)) (c z : Int32), (z < 0 ∨ 4096 ≤ z ∨ ∃ q, q < 4096 ∧ z = nI q ∧ ∃ v t2, k i x c (z + (-1)) t = some (v, t2) ∧ (t2 = t ∨ ∃ p z, t2 = lyT t i p z)) → ∃ v t2, uh_X7_literalPlace_15 U S N k i x c z t = some (v, t2) ∧ (t2 = t ∨ ∃ p z, t2 = lyT t i p z) := by
    intro k c z hz
    unfold uh_X7_literalPlace_15 u_X7_literalPlace_90
    by_cases c1 : z < x
    · rw [if_pos c1]; exact ⟨_, t, rfl, Or.inl rfl⟩
    · rw [if_neg c1]
      by_cases c2 : z < 0
      · rw [if_pos c2]; exact ⟨_, t, rfl, Or.inl rfl⟩
      · rw [if_neg c2]
        by_cases c3 : 4096 ≤ z
        · rw [if_pos c3]; exact ⟨_, t, rfl, Or.inl rfl⟩
        · rw [if_neg c3]
          rcases hz with hz | hz | ⟨q, hq, rfl, hk⟩
          · exact absurd hz c2
          · exact absurd hz c3
          · simp only [rH_y (show 4096 < 2 ^ 31 by decide) hq, Option.bind_some]
            by_cases c4 : t.2.1 7 i 0 q = -1
            · rw [if_neg (not_not_intro c4), e_lay hq, Option.bind_some]
              exact ⟨_, _, rfl, Or.inr ⟨q, c, rfl⟩⟩
            · rw [if_pos c4]
              by_cases c5 : t.2.1 7 i 0 q = c
              · rw [if_neg (not_not_intro c5)]; exact ⟨_, t, rfl, Or.inl rfl⟩
              · rw [if_pos c5]
                by_cases c6 : (4096 : Int32) ≤ t.2.1 7 i 0 q
                · rw [if_pos c6]; exact hk
                · rw [if_neg c6]; exact ⟨_, t, rfl, Or.inl rfl⟩
  have done : ∀ (f : Nat) (z c : Int32), 0 < f → (z < 0 ∨ 4096 ≤ z) → ∃ v t2, ul_X7_literalPlace_15 U S N f i x c z t = some (v, t2) ∧ (t2 = t ∨ ∃ p z, t2 = lyT t i p z) := by
    intro f z c hf hz
    obtain ⟨f, rfl⟩ : ∃ m', f = m' + 1 := ⟨f - 1, by omega⟩
    exact step _ c z (hz.imp id Or.inl)
  have loop : ∀ (q f : Nat) (c : Int32), q < 4096 → q + 1 < f → ∃ v t2, ul_X7_literalPlace_15 U S N f i x c (nI q) t = some (v, t2) ∧ (t2 = t ∨ ∃ p z, t2 = lyT t i p z) := by
    intro q
    induction q with
    | zero =>
      intro f c h1 h2
      obtain ⟨f, rfl⟩ : ∃ m', f = m' + 1 := ⟨f - 1, by omega⟩
      exact step _ c _ (Or.inr (Or.inr ⟨0, h1, rfl, done f _ c (by omega) (Or.inl (by decide))⟩))
    | succ q ih =>
      intro f c h1 h2
      obtain ⟨f, rfl⟩ : ∃ m', f = m' + 1 := ⟨f - 1, by omega⟩
      refine step _ c _ (Or.inr (Or.inr ⟨q + 1, h1, rfl, ?_⟩))
      rw [sub_1, nI_pred]
      exact ih f c (by omega) (by omega)
  unfold u_X7_literalPlace
  by_cases c0 : (x + 128) - 1 < 0
  · exact done N _ _ (by omega) (Or.inl c0)
  · by_cases c1 : 4096 ≤ (x + 128) - 1
    · exact done N _ _ (by omega) (Or.inr c1)
    · obtain ⟨q, hq, eq⟩ := nI_of c0
      rw [eq] at c1 ⊢
      have hlt : q < 4096 := by
        have := mt (leI (a := 4096) (b := q) (by decide) hq).mpr c1
        omega
      exact loop q N _ hlt (by omega)
theorem lf_any (hN : 5000 < N) (h : CA t) (h4 : t.1 0 0 4 = 0) (x y z : Int32) : ∃ v t2, u_X0_literalFor U S N x y z t = some (v, t2) ∧ lfR t t2 := by
  have hC := h
  obtain ⟨-, -, -, -, ⟨i, hi2, hi, -⟩, -⟩ := h
  unfold u_X0_literalFor u_X0_literalFor_14
  rw [if_neg (not_not_intro h4)]
  by_cases c6 : t.1 0 0 6 = 0
  · rw [if_neg (not_not_intro c6)]
    exact ⟨0, t, rfl, lfR_0 h4⟩
  · rw [if_pos c6, hi, vl_y hi2, Option.bind_some, Option.bind_some]
    obtain ⟨v, t2, e, h2⟩ := lp_any (U := U) (S := S) (i := i) (t := t) hN x y
    rw [e, Option.bind_some]
    dsimp only
    have r2 : lfR t t2 := by
      rcases h2 with rfl | ⟨p, w, rfl⟩
      · exact lfR_0 h4
      · exact Or.inr ⟨by rw [(ly_f p w).1 0 (by decide)]; exact h4, SR_ly t i p w, by rw [(ly_f p w).1 0 (by decide)]⟩
    have g2 : CA t2 := by
      rcases h2 with rfl | ⟨p, w, rfl⟩
      · exact hC
      · exact (GA_ly ⟨hC, AF_refl t⟩ hi p w).1
    by_cases c1 : v = -1
    · rw [if_neg (not_not_intro c1)]
      obtain ⟨t3, e3, hf⟩ := e_report (U := U) (S := S) (N := N) g2 (show ¬ (8 : Int32) = 0 by decide) z
      rw [e3, Option.bind_some]
      exact ⟨0, t3, rfl, Or.inl hf⟩
    · rw [if_pos c1]
      exact ⟨v, t2, rfl, r2⟩
theorem lf_f (h4 : ¬ t.1 0 0 4 = 0) (x y z : Int32) : u_X0_literalFor U S N x y z t = some (0, t) := by
  unfold u_X0_literalFor u_X0_literalFor_14
  rw [if_pos h4]
theorem c_item0 (hN : 5000 < N) (h : CA t) (ec : t.1 9 0 5 = nI c) (hc : c ≤ 2001) (h4 : t.1 0 0 4 = 0) (h9 : t.1 0 0 9 = nI a) (ha : a < c) (hs : lS (kA t (nI a)) = 0) : (∀ p, rv t 0 a = some p → u_X0_readItem U S N t = some (p.1, qI t 0 0 9 (nI p.2))) ∧ (rv t 0 a = none → ∃ x t2, u_X0_readItem U S N t = some (x, t2) ∧ ¬ t2.1 0 0 4 = 0) := by
  obtain ⟨r1, r2⟩ := e_rv (U := U) (S := S) hN h ec hc h4 (show a ≤ c by omega) 0
  rw [qI_id t h9] at r1 r2
  unfold u_X0_readItem
  rw [e_kind h, Option.bind_some, e_isLit, Option.bind_some, h9]
  dsimp only
  rw [if_neg (not_not_intro hs)]
  constructor
  · rintro ⟨v, a2⟩ e
    rw [r1 v a2 e]
    rfl
  · intro e
    obtain ⟨x, t2, e2, hf⟩ := r2 e
    rw [e2, Option.bind_some]
    exact ⟨x, t2, rfl, hf⟩
def clS (k : Int32) : Int32 := if k = 40 then 41 else 93
def pgS (t : CS) (k : Int32) : Int32 := if k = 40 then t.1 0 0 10 &&& 3968 else 0
theorem c_item1 (hN : 5000 < N) (h : CA t) (ec : t.1 9 0 5 = nI c) (hc : c ≤ 2001) (h4 : t.1 0 0 4 = 0) (h9 : t.1 0 0 9 = nI a) (ha : a < c) (hs : ¬ lS (kA t (nI a)) = 0) : (∀ p, rv t 0 (a + 1) = some p → u_X0_readItem U S N t = u_X0_literalFor U S N (pgS t (kA t (nI a))) p.1 (nI a) (qI t 0 0 9 (nI (if kA t (nI p.2) = clS (kA t (nI a)) then p.2 + 1 else p.2)))) ∧ (rv t 0 (a + 1) = none → ∃ x t2, u_X0_readItem U S N t = some (x, t2) ∧ ¬ t2.1 0 0 4 = 0) := by
  obtain ⟨r1, r2⟩ := e_rv (U := U) (S := S) hN h ec hc h4 (show a + 1 ≤ c by omega) 0
  have eb : ∀ r : Option (Int32 × CS), (r.bind fun q1 => some (q1.1, q1.2)) = r := by
    intro r
    cases r <;> rfl
  unfold u_X0_readItem
  rw [e_kind h, Option.bind_some, e_isLit, Option.bind_some, h9]
  dsimp only
  rw [if_pos hs, Option.bind_some, nI_1]
  generalize kA t (nI a) = k
  have s81 : ∀ (v : Int32) (t2 : CS), t2.1 0 0 10 = t.1 0 0 10 → u_X0_readItem_81 U S N (nI a) k v t2 = u_X0_literalFor U S N (pgS t k) v (nI a) t2 := by
    intro v t2 e2
    unfold u_X0_readItem_81 u_X0_readItem_100 pgS
    rw [eb, eb, e2]
    by_cases c : k = 40
    · rw [if_neg (not_not_intro c), if_pos c]
    · rw [if_pos c, if_neg c]
  constructor
  · rintro ⟨v, a2⟩ e
    rw [r1 v a2 e, Option.bind_some]
    dsimp only
    rw [if_neg (show ¬ ¬ (qI t 0 0 9 (nI a2)).1 0 0 4 = 0 from not_not_intro h4)]
    have s68 : ∀ z : Int32, u_X0_readItem_68 U S N (nI a) k v (kA t (nI a2)) z (qI t 0 0 9 (nI a2)) = u_X0_literalFor U S N (pgS t k) v (nI a) (qI t 0 0 9 (nI (if kA t (nI a2) = z then a2 + 1 else a2))) := by
      intro z
      unfold u_X0_readItem_68
      by_cases c : kA t (nI a2) = z
      · rw [if_neg (not_not_intro c), if_pos c, Option.bind_some, show (qI t 0 0 9 (nI a2)).1 0 0 9 = nI a2 from rfl, nI_1, qI_qI]
        exact s81 v _ rfl
      · rw [if_pos c, if_neg c]
        exact s81 v _ rfl
    show ((u_X0_kindAt U S N (nI a2) (qI t 0 0 9 (nI a2))).bind _) = _
    rw [e_kind (CA_9 h _), Option.bind_some]
    show (if ¬ k = 40 then u_X0_readItem_68 U S N (nI a) k v (kA t (nI a2)) 93 (qI t 0 0 9 (nI a2)) else u_X0_readItem_68 U S N (nI a) k v (kA t (nI a2)) 41 (qI t 0 0 9 (nI a2))) = _
    unfold clS
    by_cases c : k = 40
    · rw [if_neg (not_not_intro c), if_pos c]
      exact s68 41
    · rw [if_pos c, if_neg c]
      exact s68 93
  · intro e
    obtain ⟨x, t2, e2, hf⟩ := r2 e
    rw [e2, Option.bind_some]
    dsimp only
    rw [if_pos hf]
    have hl : ∀ y, u_X0_readItem_100 U S N (nI a) x y t2 = some (0, t2) := by
      intro y
      unfold u_X0_readItem_100
      rw [lf_f hf]
      rfl
    unfold u_X0_readItem_81
    rw [hl, hl]
    refine ⟨0, t2, ?_, hf⟩
    split <;> rfl
end
