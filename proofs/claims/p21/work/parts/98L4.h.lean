/-! LAYER 3, labels of the class that leave no fault -/
def labE (t : CS) : Nat → Nat → Nat
  | 0, a => a
  | f + 1, a => if kA t (nI a) = 1 ∧ kA t (nI (a + 1)) = 44 then labE t f (a + 2) else a
/-- what the tokens say, as they lie -/
def TV (n c m : Nat) (t : CS) : Prop := ∀ x, x < c → (t.2.1 9 0 1 x = 1 → ∃ w, w < m ∧ t.2.1 9 0 3 x = nI w) ∧ (t.2.1 9 0 1 x = 4 → ∃ y w, t.2.1 9 0 3 x = nI (y + 1) ∧ t.2.1 9 0 4 x = nI w ∧ y + 1 ≤ w ∧ w < n) ∧ ∃ j, j < 256 ∧ t.2.1 9 0 1 x = nI j
def rg (m : Nat) (t : CS) : Prop := ∀ w, 53 ≤ w → w < m → t.2.1 4 0 2 w = 0 ∨ t.2.1 4 0 2 w = 1 ∨ t.2.1 4 0 2 w = 2
def MO1 (t t2 : CS) : Prop := ∀ w, ¬ t.2.1 4 0 2 w = 0 → t2.2.1 4 0 2 w = t.2.1 4 0 2 w ∧ t2.2.1 4 0 1 w = t.2.1 4 0 1 w
def MO (t t2 : CS) : Prop := (∀ w, t.2.1 4 0 2 w = 1 → t2.2.1 4 0 2 w = 1 ∧ t2.2.1 4 0 1 w = t.2.1 4 0 1 w) ∧ (∀ w, t.2.1 4 0 2 w = 2 → t2.2.1 4 0 2 w = 2)
/-- all but names, place and fault stays -/
def KP (t t2 : CS) : Prop := t2.1 9 = t.1 9 ∧ t2.2.1 9 = t.2.1 9 ∧ t2.2.2.1 = t.2.2.1 ∧ t2.1 4 0 3 = t.1 4 0 3 ∧ t2.1 0 0 6 = t.1 0 0 6 ∧ t2.2.2.2.1 0 0 3 = t.2.2.2.1 0 0 3
section
variable {U S N n c m T i p a : Nat} {t t2 t3 : CS} {q : Int32}
theorem MO_1 (h : MO1 t t2) : MO t t2 := by
  refine ⟨fun w hw => ?_, fun w hw => ?_⟩
  · obtain ⟨h1, h2⟩ := h w (by rw [hw]; decide)
    exact ⟨h1.trans hw, h2⟩
  · exact (h w (by rw [hw]; decide)).1.trans hw
theorem MO_t (h : MO t t2) (g : MO t2 t3) : MO t t3 := by
  refine ⟨fun w hw => ?_, fun w hw => g.2 w (h.2 w hw)⟩
  obtain ⟨h1, h2⟩ := h.1 w hw
  obtain ⟨g1, g2⟩ := g.1 w h1
  exact ⟨g1, g2.trans h2⟩
theorem MO_e (h : t2.2.1 4 = t.2.1 4) : MO t t2 := by
  refine ⟨fun w hw => ?_, fun w hw => ?_⟩ <;> rw [h]
  · exact ⟨hw, rfl⟩
  · exact hw
theorem MO1_t (h : MO1 t t2) (g : MO1 t2 t3) : MO1 t t3 := by
  intro w hw
  obtain ⟨h1, h2⟩ := h w hw
  obtain ⟨g1, g2⟩ := g w (by rw [h1]; exact hw)
  exact ⟨g1.trans h1, g2.trans h2⟩
theorem KP_0 (t : CS) : KP t t := ⟨rfl, rfl, rfl, rfl, rfl, rfl⟩
theorem KP_t (h : KP t t2) (g : KP t2 t3) : KP t t3 := by
  obtain ⟨h1, h2, h3, h4, h5, h6⟩ := h
  obtain ⟨g1, g2, g3, g4, g5, g6⟩ := g
  exact ⟨g1.trans h1, g2.trans h2, g3.trans h3, g4.trans h4, g5.trans h5, g6.trans h6⟩
theorem TV_K (h : TV n c m t) (g : t2.2.1 9 = t.2.1 9) : TV n c m t2 := by
  unfold TV at *
  rw [g]
  exact h
theorem TV_w (h : TV n c m t) (ec : t.1 9 0 5 = nI c) (hc : c ≤ 2001) (ha : a < 2 ^ 31) (hk : kA t (nI a) = 1) : ∃ w, w < m ∧ vA t (nI a) = nI w := by
  have hlt := kA_hi ec hc ha (by rw [hk]; decide)
  obtain ⟨r1, r2, r3, r4⟩ := rd_at ec hc hlt
  have hb : ¬ bad (t.2.1 9 0 1 a) (t.2.1 9 0 3 a) (t.2.1 9 0 4 a) (t.1 0 0 8) := fun z => by rw [r3 z] at hk; exact absurd hk (by decide)
  rw [r1]
  exact (h a hlt).1 (by rw [← r4 hb]; exact hk)
theorem TV_t (h : TV n c m t) (ec : t.1 9 0 5 = nI c) (hc : c ≤ 2001) (ha : a < 2 ^ 31) (hk : kA t (nI a) = 4) : ∃ y w, vA t (nI a) = nI (y + 1) ∧ oA t (nI a) = nI w ∧ y + 1 ≤ w ∧ w < n := by
  have hlt := kA_hi ec hc ha (by rw [hk]; decide)
  obtain ⟨r1, r2, r3, r4⟩ := rd_at ec hc hlt
  have hb : ¬ bad (t.2.1 9 0 1 a) (t.2.1 9 0 3 a) (t.2.1 9 0 4 a) (t.1 0 0 8) := fun z => by rw [r3 z] at hk; exact absurd hk (by decide)
  rw [r1, r2]
  exact (h a hlt).2.1 (by rw [← r4 hb]; exact hk)
theorem TV_k (h : TV n c m t) (ec : t.1 9 0 5 = nI c) (hc : c ≤ 2001) (ha : a < 2 ^ 31) : ∃ j, j < 256 ∧ kA t (nI a) = nI j := by
  by_cases hk : kA t (nI a) = 0
  · exact ⟨0, by decide, hk⟩
  · have hlt := kA_hi ec hc ha hk
    obtain ⟨r1, r2, r3, r4⟩ := rd_at ec hc hlt
    by_cases hb : bad (t.2.1 9 0 1 a) (t.2.1 9 0 3 a) (t.2.1 9 0 4 a) (t.1 0 0 8)
    · exact ⟨6, by decide, r3 hb⟩
    · rw [r4 hb]
      exact (h a hlt).2.2
theorem labE_c (hk : kA t2 = kA t) : ∀ f a, labE t2 f a = labE t f a := by
  intro f
  induction f with
  | zero => intro a; rfl
  | succ f ih =>
    intro a
    show (if kA t2 (nI a) = 1 ∧ kA t2 (nI (a + 1)) = 44 then labE t2 f (a + 2) else a) = if kA t (nI a) = 1 ∧ kA t (nI (a + 1)) = 44 then labE t f (a + 2) else a
    rw [hk, ih]
theorem lb_f {f : Nat} {x : Int32} (h4 : ¬ t.1 0 0 4 = 0) : ul_X0_passLabels_2 U S N (f + 1) x t = some ((), t) := by
  show uh_X0_passLabels_2 U S N (ul_X0_passLabels_2 U S N f) x t = _
  unfold uh_X0_passLabels_2 u_X0_passLabels_106
  rw [if_pos h4]
  split <;> rfl
theorem lb_2 (hc : c ≤ 2001) : ∀ (f a j : Nat) (t : CS), CA t → t.1 9 0 5 = nI c → t.1 0 0 4 = 0 → ¬ t.1 0 0 6 = 0 → t.1 0 0 9 = nI a → a ≤ c → j ≤ a → c + 2 < a + f → ul_X0_passLabels_2 U S N f (nI j) t = some ((), qI t 0 0 9 (nI (labE t f a))) ∧ a ≤ labE t f a ∧ labE t f a ≤ c := by
  intro f
  induction f with
  | zero => intro a j t _ _ _ _ _ _ _ h; omega
  | succ f ih =>
    intro a j t h ec h4 h6 h9 ha hj hf
    have st : ul_X0_passLabels_2 U S N (f + 1) (nI j) t = uh_X0_passLabels_2 U S N (ul_X0_passLabels_2 U S N f) (nI j) t := rfl
    have sl : labE t (f + 1) a = if kA t (nI a) = 1 ∧ kA t (nI (a + 1)) = 44 then labE t f (a + 2) else a := rfl
    rw [st, sl]
    unfold uh_X0_passLabels_2 u_X0_passLabels_47 u_X0_passLabels_90
    rw [ec, if_neg (fun z => by have := (ltI (by omega) (by omega)).mp z; omega), if_neg (not_not_intro h4), e_kind h, Option.bind_some, h9]
    dsimp only
    by_cases c1 : kA t (nI a) = 1
    · rw [if_neg (not_not_intro c1), nI_1, e_kind h, Option.bind_some]
      dsimp only
      by_cases c2 : kA t (nI (a + 1)) = 44
      · have hlt : a + 1 < c := kA_hi ec hc (by omega) (by rw [c2]; decide)
        rw [if_pos c2, if_pos h6, if_pos ⟨c1, c2⟩, Option.bind_some, h9, show (nI a + 2 : Int32) = nI (a + 2) from nI_add a 2, nI_1]
        obtain ⟨i1, i2, i3⟩ := ih (a + 2) (j + 1) (qI t 0 0 9 (nI (a + 2))) (CA_9 h _) ec h4 h6 rfl (by omega) (by omega) (by omega)
        rw [labE_c (t2 := qI t 0 0 9 (nI (a + 2))) (t := t) rfl] at i1 i2 i3
        rw [qI_qI] at i1
        exact ⟨i1, by omega, i3⟩
      · rw [if_neg c2, if_neg (fun z => c2 z.2), qI_id t h9]
        exact ⟨rfl, Nat.le_refl _, ha⟩
    · rw [if_pos c1, if_neg (fun z => c1 z.1), qI_id t h9]
      exact ⟨rfl, Nat.le_refl _, ha⟩
theorem lb_1 (hc : c ≤ 2001) (hm : m ≤ 1054) : ∀ (f a j : Nat) (t : CS), CA t → t.1 9 0 5 = nI c → t.1 4 0 3 = nI m → TV n c m t → rg m t → t.1 0 0 4 = 0 → t.1 0 0 6 = 0 → t.1 0 0 9 = nI a → a ≤ c → j ≤ a → c + 2 < a + f → ul_X0_passLabels_2 U S N f (nI j) t = some ((), t2) → t2.1 0 0 4 = 0 → t2.1 0 0 9 = nI (labE t f a) ∧ a ≤ labE t f a ∧ labE t f a ≤ c ∧ KP t t2 ∧ CA t2 ∧ MO1 t t2 ∧ rg m t2 ∧ (t2.1 0 0 7 = t.1 0 0 7 ∧ t2.1 0 0 8 = t.1 0 0 8 ∧ t2.1 0 0 10 = t.1 0 0 10) ∧ (∀ d, (∀ e, e < d → isLab t (a + 2 * e)) → isLab t (a + 2 * d) → ∃ w, w < m ∧ vA t (nI (a + 2 * d)) = nI w ∧ t2.2.1 4 0 2 w = 1 ∧ t2.2.1 4 0 1 w = t.1 0 0 10 &&& 4095) ∧ (∀ w, t2.2.1 4 0 2 w = 2 → t.2.1 4 0 2 w = 2) := by
  intro f
  induction f with
  | zero => intro a j t _ _ _ _ _ _ _ _ _ _ h; omega
  | succ f ih =>
    intro a j t h ec em hTV hrg h4 h6 h9 ha hj hf e he
    have e' : uh_X0_passLabels_2 U S N (ul_X0_passLabels_2 U S N f) (nI j) t = some ((), t2) := e
    have sl : labE t (f + 1) a = if kA t (nI a) = 1 ∧ kA t (nI (a + 1)) = 44 then labE t f (a + 2) else a := rfl
    rw [sl]
    unfold uh_X0_passLabels_2 u_X0_passLabels_47 u_X0_passLabels_90 at e'
    rw [ec, if_neg (fun z => by have := (ltI (by omega) (by omega)).mp z; omega), if_neg (not_not_intro h4), e_kind h, Option.bind_some, h9] at e'
    dsimp only at e'
    have none : some ((), t) = some ((), t2) → ¬ (kA t (nI a) = 1 ∧ kA t (nI (a + 1)) = 44) → t2.1 0 0 9 = nI a ∧ a ≤ a ∧ a ≤ c ∧ KP t t2 ∧ CA t2 ∧ MO1 t t2 ∧ rg m t2 ∧ (t2.1 0 0 7 = t.1 0 0 7 ∧ t2.1 0 0 8 = t.1 0 0 8 ∧ t2.1 0 0 10 = t.1 0 0 10) ∧ (∀ d, (∀ e, e < d → isLab t (a + 2 * e)) → isLab t (a + 2 * d) → ∃ w, w < m ∧ vA t (nI (a + 2 * d)) = nI w ∧ t2.2.1 4 0 2 w = 1 ∧ t2.2.1 4 0 1 w = t.1 0 0 10 &&& 4095) ∧ (∀ w, t2.2.1 4 0 2 w = 2 → t.2.1 4 0 2 w = 2) := by
      intro et hn
      have et := (Prod.mk.inj (Option.some.inj et)).2
      rw [← et]
      refine ⟨h9, Nat.le_refl _, ha, KP_0 t, h, fun w _ => ⟨rfl, rfl⟩, hrg, ⟨rfl, rfl, rfl⟩, fun d hd hd2 => ?_, fun _ z => z⟩
      exfalso
      by_cases d0 : d = 0
      · rw [d0] at hd2; exact hn hd2
      · exact hn (hd 0 (by omega))
    by_cases c1 : kA t (nI a) = 1
    · rw [if_neg (not_not_intro c1), nI_1, e_kind h, Option.bind_some] at e'
      dsimp only at e'
      by_cases c2 : kA t (nI (a + 1)) = 44
      · have hlt : a + 1 < c := kA_hi ec hc (by omega) (by rw [c2]; decide)
        rw [if_pos c2, if_neg (not_not_intro h6)] at e'
        rw [if_pos ⟨c1, c2⟩]
        obtain ⟨f, rfl⟩ : ∃ f', f = f' + 1 := ⟨f - 1, by omega⟩
        rcases e_mt (U := U) (S := S) (N := N) h 1 with ⟨-, ok, e1⟩ | ⟨-, t3, e1, hf3⟩
        · rw [e1, Option.bind_some] at e'
          dsimp only at e'
          rw [if_neg (show ¬ (1 : Int32) = 0 by decide), h9, e_value h, Option.bind_some] at e'
          dsimp only at e'
          obtain ⟨w, hw, hv⟩ := TV_w hTV ec hc (by omega) c1
          rw [hv, e_tell2 em hm hw, Option.bind_some, Option.bind_some] at e'
          -- the name is new
          unfold mtOK at ok
          rw [h9, hv] at ok
          have hg : gA t (nI w) = t.2.1 4 0 2 w := by
            unfold gA
            rw [if_neg (nI_nn (by omega)), em, if_pos ((ltI (by omega) (by omega)).mpr hw), nI_clamp (by omega)]
          rw [hg] at ok
          have h53 : 53 ≤ w := by
            apply Decidable.byContradiction
            intro z
            obtain ⟨-, ⟨m', -, -, -, hFX⟩, -⟩ := id h
            exact ok.1 (hFX w (by omega)).2.2
          have hg0 : t.2.1 4 0 2 w = 0 := by
            rcases hrg w h53 hw with z | z | z
            · exact z
            · exact absurd z ok.2.1
            · exact absurd ⟨z, rfl⟩ ok.2.2.1
          obtain ⟨f1, f2, f3, f4, f5, f6, -⟩ := tl_f (t := t) w (t.1 0 0 10 &&& 4095) 1
          have hca : CA (tlT t w (t.1 0 0 10 &&& 4095) 1) := (GA_tl ⟨h, AF_refl t⟩ h53 (w12_and _) 1).1
          have f0 := f1 0 (by decide)
          have f9 := f1 9 (by decide)
          have r9 := f2 9 (by decide)
          generalize tlT t w (t.1 0 0 10 &&& 4095) 1 = t3 at *
          dsimp only at e'
          rw [f0, h9, show (nI a + 2 : Int32) = nI (a + 2) from nI_add a 2, nI_1] at e'
          have hkA : kA (qI t3 0 0 9 (nI (a + 2))) = kA t := by
            funext x
            show kA t3 x = _
            unfold kA
            rw [f9, r9, f0]
          have hvA : vA (qI t3 0 0 9 (nI (a + 2))) = vA t := by
            funext x
            show vA t3 x = _
            unfold vA
            rw [f9, r9]
          have mo : MO1 t (qI t3 0 0 9 (nI (a + 2))) := by
            intro w' hw'
            have hne : w' ≠ w := fun z => hw' (by rw [z]; exact hg0)
            show t3.2.1 4 0 2 w' = _ ∧ t3.2.1 4 0 1 w' = _
            rw [f5, f6, upd_n _ _ hne, upd_n _ _ hne]
            exact ⟨rfl, rfl⟩
          have hrg3 : rg m (qI t3 0 0 9 (nI (a + 2))) := by
            intro w' h1 h2
            show t3.2.1 4 0 2 w' = 0 ∨ t3.2.1 4 0 2 w' = 1 ∨ t3.2.1 4 0 2 w' = 2
            rw [f6]
            by_cases z : w' = w
            · rw [z, upd_y]; exact Or.inr (Or.inl rfl)
            · rw [upd_n _ _ z]; exact hrg w' h1 h2
          obtain ⟨i1, i2, i3, i4, i5, i6, i7, i8, i9, i10⟩ := ih (a + 2) (j + 1) (qI t3 0 0 9 (nI (a + 2))) (CA_9 hca _) (by show t3.1 9 0 5 = nI c; rw [f9]; exact ec) (by show t3.1 4 0 3 = nI m; rw [f4]; exact em) (TV_K hTV r9) hrg3 (by show t3.1 0 0 4 = 0; rw [f0]; exact h4) (by show t3.1 0 0 6 = 0; rw [f0]; exact h6) rfl (by omega) (by omega) (by omega) e' he
          rw [labE_c hkA] at i1 i2 i3
          refine ⟨i1, by omega, i3, KP_t ⟨f9, r9, by show t3.2.2.1 = _; rw [f3], f4, by show t3.1 0 0 6 = _; rw [f0], by show t3.2.2.2.1 0 0 3 = _; rw [f3]⟩ i4, i5, MO1_t mo i6, i7, ?_, ?_, ?_⟩
          · refine ⟨i8.1.trans ?_, i8.2.1.trans ?_, i8.2.2.trans ?_⟩
            · show t3.1 0 0 7 = _; rw [f0]
            · show t3.1 0 0 8 = _; rw [f0]
            · show t3.1 0 0 10 = _; rw [f0]
          · intro d hd hd2
            by_cases d0 : d = 0
            · refine ⟨w, hw, by rw [d0]; exact hv, ?_⟩
              have hg1 : (qI t3 0 0 9 (nI (a + 2))).2.1 4 0 2 w = 1 := by
                show t3.2.1 4 0 2 w = 1
                rw [f6, upd_y]
              obtain ⟨y1, y2⟩ := i6 w (by rw [hg1]; decide)
              refine ⟨y1.trans hg1, y2.trans ?_⟩
              show t3.2.1 4 0 1 w = _
              rw [f5, upd_y]
            · obtain ⟨d, rfl⟩ : ∃ d', d = d' + 1 := ⟨d - 1, by omega⟩
              have hiL : ∀ x, isLab (qI t3 0 0 9 (nI (a + 2))) x ↔ isLab t x := by
                intro x
                unfold isLab
                rw [hkA]
              obtain ⟨w', y1, y2, y3, y4⟩ := i9 d (fun e2 he2 => (hiL _).mpr (by have := hd (e2 + 1) (by omega); rw [show a + 2 + 2 * e2 = a + 2 * (e2 + 1) by omega]; exact this)) ((hiL _).mpr (by rw [show a + 2 + 2 * d = a + 2 * (d + 1) by omega]; exact hd2))
              rw [hvA, show a + 2 + 2 * d = a + 2 * (d + 1) by omega] at y2
              refine ⟨w', y1, y2, y3, y4.trans ?_⟩
              show t3.1 0 0 10 &&& 4095 = _
              rw [f0]
          · intro w' hw'
            have h2 : t3.2.1 4 0 2 w' = 2 := i10 w' hw'
            rw [f6] at h2
            by_cases z : w' = w
            · rw [z, upd_y] at h2; exact absurd h2 (by decide)
            · rw [upd_n _ _ z] at h2; exact h2
        · exfalso
          rw [e1, Option.bind_some] at e'
          dsimp only at e'
          rw [if_pos (show (0 : Int32) = 0 from rfl), Option.bind_some] at e'
          rw [lb_f (t := qI t3 0 0 9 (t3.1 0 0 9 + 2)) hf3] at e'
          rw [← (Prod.mk.inj (Option.some.inj e')).2] at he
          exact hf3 he
      · rw [if_neg c2] at e'
        rw [if_neg (fun z => c2 z.2)]
        exact none e' (fun z => c2 z.2)
    · rw [if_pos c1] at e'
      rw [if_neg (fun z => c1 z.1)]
      exact none e' (fun z => c1 z.1)
end
