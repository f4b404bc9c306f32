/-! LAYER 3, where the class's words end: references, whole words -/
section
variable {U S N n c m T i p a : Nat} {t t2 : CS} {q : Int32}
theorem inj2 {α : Type} {x : Option (α × CS)} {a b : α} {u v : CS} (h : x = some (a, u)) (g : x = some (b, v)) : u = v := by
  rw [h] at g
  exact (Prod.mk.inj (Option.some.inj g)).2
theorem p160_p (hN : 5000 < N) (h : CA t) (hi : t.2.2.2.1 0 0 3 = some i) (hi2 : i < 2) (hp : p < 4096) (h10 : t.1 0 0 10 = nI p) {x y z : Int32} (e : u_X0_passReference_160 U S N x y z t = some ((), t2)) (hf : t2.1 0 0 4 = 0) : t.1 0 0 4 = 0 ∧ t2.1 0 0 9 = t.1 0 0 9 ∧ t2.1 0 0 10 = nI (p + 1) ∧ SN t t2 := by
  rw [pr_160] at e
  by_cases h4 : t.1 0 0 4 = 0
  · obtain ⟨v, t3, e3, r3⟩ := rf_any (U := U) (S := S) hN h h4 x z y
    rw [e3, Option.bind_some] at e
    dsimp only at e
    rcases r3 with r3 | ⟨r3, r4, r5⟩
    · rw [e_finf r3] at e
      rw [← (Prod.mk.inj (Option.some.inj e)).2] at hf
      exact absurd hf r3
    · obtain ⟨-, -, -, -, -, -, -, -, -, z10, z11⟩ := id r4
      obtain ⟨-, q2, q3, q4⟩ := fin_p (U := U) (S := S) (N := N) (t := t3) (i := i) (p := p) (by rw [z11]; exact hi) hi2 hp (by rw [z10]; exact h10) e hf
      exact ⟨h4, q2.trans r5, q3, SN_t (SN_SR r4) q4⟩
  · rw [rf_f h4, Option.bind_some] at e
    dsimp only at e
    rw [e_finf h4] at e
    rw [← (Prod.mk.inj (Option.some.inj e)).2] at hf
    exact absurd hf h4
theorem rl_p (hN : 5000 < N) (hc : c ≤ 2001) (hi2 : i < 2) (hp : p < 4096) : ∀ (f a j : Nat) (v : Int32) (t : CS), CA t → t.1 9 0 5 = nI c → t.1 0 0 4 = 0 → t.1 0 0 9 = nI a → a ≤ c → t.2.2.2.1 0 0 3 = some i → t.1 0 0 10 = nI p → j ≤ a → c + 2 < a + f → ul_X0_passReference_39 U S N f v (nI j) t = some ((), t2) → t2.1 0 0 4 = 0 → t2.1 0 0 9 = nI (rE t f a) ∧ t2.1 0 0 10 = nI (p + 1) ∧ SN t t2 ∧ a ≤ rE t f a ∧ rE t f a ≤ c := by
  intro f
  induction f with
  | zero => intro a j v t _ _ _ _ _ _ _ _ h; omega
  | succ f ih =>
    intro a j v t h ec h4 h9 ha hi h10 hj hf e he
    have e' : uh_X0_passReference_39 U S N (ul_X0_passReference_39 U S N f) v (nI j) t = some ((), t2) := e
    unfold uh_X0_passReference_39 at e'
    rw [ec, if_neg (fun z => by have := (ltI (by omega) (by omega)).mp z; omega), e_mdf h, Option.bind_some, h9] at e'
    dsimp only at e'
    show t2.1 0 0 9 = nI (if mdf t (nI a) = 0 then (if bP t (nI a) = 0 then a else itE t a) else rE t f (a + 1)) ∧ _ ∧ _ ∧ a ≤ (if mdf t (nI a) = 0 then (if bP t (nI a) = 0 then a else itE t a) else rE t f (a + 1)) ∧ (if mdf t (nI a) = 0 then (if bP t (nI a) = 0 then a else itE t a) else rE t f (a + 1)) ≤ c
    by_cases cm : mdf t (nI a) = 0
    · rw [if_pos cm] at e'
      rw [if_pos cm]
      unfold u_X0_passReference_98 at e'
      rw [e_begP h, Option.bind_some, h9] at e'
      dsimp only at e'
      by_cases cb : bP t (nI a) = 0
      · rw [if_neg (not_not_intro cb), ub] at e'
        rw [if_pos cb]
        obtain ⟨-, q2, q3, q4⟩ := fin_p (U := U) (S := S) (N := N) hi hi2 hp h10 e' he
        exact ⟨q2.trans h9, q3, q4, Nat.le_refl _, ha⟩
      · rw [if_pos cb] at e'
        rw [if_neg cb]
        have hlt := bP_hi ec hc (by omega) cb
        obtain ⟨x, t3, e3, g3, -⟩ := s_item (U := U) (S := S) (t0 := t) hN ⟨h, AF_refl t⟩
        rw [e3, Option.bind_some] at e'
        dsimp only at e'
        obtain ⟨j3, -, -, -, ⟨i3, hi3, hr3, -⟩, -⟩ := id g3.1
        by_cases hf3 : t3.1 0 0 4 = 0
        · obtain ⟨k1, k2, k3, k4, k5⟩ := it_e (U := U) (S := S) hN h ec hc h4 h9 hlt e3 hf3
          obtain ⟨z1, -, -, -, -, -, -, -, -, z10, z11⟩ := id k2
          have done : ∀ t4 : CS, CA t4 → t4.2.2.2.1 0 0 3 = some i → t4.1 0 0 10 = nI p → u_X0_passReference_160 U S N v (nI a) x t4 = some ((), t2) → t4.1 0 0 4 = 0 ∧ t2.1 0 0 9 = t4.1 0 0 9 ∧ t2.1 0 0 10 = nI (p + 1) ∧ SN t4 t2 := fun t4 c4 i4 p4 e4 => p160_p (U := U) (S := S) hN c4 i4 hi2 hp p4 e4 he
          have d3 := done t3 k5 (by rw [z11]; exact hi) (by rw [z10]; exact h10)
          have fin : u_X0_passReference_160 U S N v (nI a) x t3 = some ((), t2) → t2.1 0 0 9 = nI (itE t a) ∧ t2.1 0 0 10 = nI (p + 1) ∧ SN t t2 ∧ a ≤ itE t a ∧ itE t a ≤ c := by
            intro e4
            obtain ⟨-, q2, q3, q4⟩ := d3 e4
            exact ⟨q2.trans k1, q3, SN_t (SN_SR k2) q4, by omega, k4⟩
          rw [if_neg (not_not_intro hf3), e_kind k5, Option.bind_some] at e'
          dsimp only at e'
          rw [e_isLit, Option.bind_some] at e'
          dsimp only at e'
          by_cases c1 : lS (kA t3 (nI a)) = 0
          · rw [if_neg (not_not_intro c1), e_begP k5, Option.bind_some] at e'
            dsimp only at e'
            by_cases c2 : bP t3 (t3.1 0 0 9) = 0
            · rw [if_pos c2] at e'
              exact fin e'
            · rw [if_neg c2] at e'
              obtain ⟨t4, e4, hf4⟩ := e_report (U := U) (S := S) (N := N) k5 (show ¬ (2 : Int32) = 0 by decide) (nI a)
              rw [e4, Option.bind_some] at e'
              dsimp only at e'
              rw [pr_160, rf_f hf4, Option.bind_some] at e'
              dsimp only at e'
              rw [e_finf hf4] at e'
              rw [← (Prod.mk.inj (Option.some.inj e')).2] at he
              exact absurd he hf4
          · rw [if_pos c1] at e'
            exact fin e'
        · rw [if_pos hf3, pr_160, rf_f hf3, Option.bind_some] at e'
          dsimp only at e'
          rw [e_finf hf3] at e'
          rw [← (Prod.mk.inj (Option.some.inj e')).2] at he
          exact absurd he hf3
    · rw [if_neg cm] at e'
      rw [if_neg cm]
      rw [e_value h, Option.bind_some] at e'
      dsimp only at e'
      rw [e_nval h, Option.bind_some, Option.bind_some, h9, nI_1, nI_1] at e'
      have hlt : a < c := kA_hi ec hc (by omega) (fun z => cm (by unfold mdf; rw [z]; rfl))
      obtain ⟨i1, i2, i3, i4, i5⟩ := ih (a + 1) (j + 1) _ (qI t 0 0 9 (nI (a + 1))) (CA_9 h _) ec h4 rfl hlt hi h10 (by omega) (by omega) e' he
      rw [rE_c (t2 := qI t 0 0 9 (nI (a + 1))) (t := t) rfl rfl rfl] at i1 i4 i5
      exact ⟨i1, i2, SN_t (SN_SR (SR_9 t _)) i3, by omega, i5⟩
theorem mbw_t (hi : t.2.2.2.1 0 0 3 = some i) (h : CA t) : SR t (if t.1 0 0 6 = 0 then t else lyT t i p 0) ∧ (if t.1 0 0 6 = 0 then t else lyT t i p 0).1 0 = t.1 0 ∧ CA (if t.1 0 0 6 = 0 then t else lyT t i p 0) := by
  by_cases c6 : t.1 0 0 6 = 0
  · rw [if_pos c6]
    exact ⟨SR_0 t, rfl, h⟩
  · rw [if_neg c6]
    exact ⟨SR_ly t i p 0, (ly_f (t := t) (i := i) p 0).1 0 (by decide), (GA_ly ⟨h, AF_refl t⟩ hi p _).1⟩
theorem wd_p (hN : 5000 < N) (h : CA t) (ec : t.1 9 0 5 = nI c) (hc : c ≤ 2001) (h4 : t.1 0 0 4 = 0) (h9 : t.1 0 0 9 = nI a) (ha : a < c) (hi : t.2.2.2.1 0 0 3 = some i) (hi2 : i < 2) (hp : p ≤ 4096) (h10 : t.1 0 0 10 = nI p) (e : u_X0_passWord U S N t = some ((), t2)) (hf : t2.1 0 0 4 = 0) : p < 4096 ∧ t2.1 0 0 9 = nI (wE t N a) ∧ t2.1 0 0 10 = nI (p + 1) ∧ SN t t2 ∧ a < wE t N a ∧ wE t N a ≤ c := by
  unfold u_X0_passWord at e
  rw [e_begP h, Option.bind_some, h9] at e
  dsimp only at e
  by_cases cb : bP t (nI a) = 0
  · rw [if_neg (not_not_intro cb), e_kind h, Option.bind_some] at e
    dsimp only at e
    obtain ⟨t3, e3, hf3⟩ := c_refuse (U := U) (S := S) (N := N) h (kA t (nI a))
    rw [e3, Option.bind_some] at e
    rw [← (Prod.mk.inj (Option.some.inj e)).2] at hf
    exact absurd hf hf3
  · rw [if_pos cb] at e
    obtain ⟨c1, c2⟩ := e_mbw (U := U) (S := S) hN h hi hi2 hp h10 h4
    by_cases ok : mlOK t i p 1
    · have hp2 : p < 4096 := by have := ok.1; omega
      rw [c1 ok, Option.bind_some] at e
      obtain ⟨sr, e0, hca⟩ := mbw_t (p := p) hi h
      generalize (if t.1 0 0 6 = 0 then t else lyT t i p 0) = t1 at *
      dsimp only at e
      rw [if_pos (show ¬ (1 : Int32) = 0 by decide)] at e
      obtain ⟨z1, -, -, -, -, -, -, -, -, z10, z11⟩ := id sr
      obtain ⟨y1, y2, -, -, -, -, y7, -⟩ := SR_k sr
      obtain ⟨i1, i2, i3, i4, i5⟩ := wl_p (U := U) (S := S) hN hc hi2 hp2 N a 0 0 t1 hca (by rw [z1]; exact ec) (by rw [e0]; exact h4) (by rw [e0]; exact h9) ha (by rw [z11]; exact hi) (by rw [z10]; exact h10) (by omega) (by omega) e hf
      rw [wE_c y1 y7] at i1 i4 i5
      exact ⟨hp2, i1, i2, SN_t (SN_SR sr) i3, i4, i5⟩
    · obtain ⟨t3, e3, hf3⟩ := c2 ok
      rw [e3, Option.bind_some] at e
      dsimp only at e
      rw [if_neg (show ¬ ¬ (0 : Int32) = 0 from fun z => z rfl)] at e
      rw [← (Prod.mk.inj (Option.some.inj e)).2] at hf
      exact absurd hf hf3
theorem rf_p (hN : 5000 < N) (h : CA t) (ec : t.1 9 0 5 = nI c) (hc : c ≤ 2001) (h4 : t.1 0 0 4 = 0) (h9 : t.1 0 0 9 = nI a) (ha : a < c) (hi : t.2.2.2.1 0 0 3 = some i) (hi2 : i < 2) (hp : p ≤ 4096) (h10 : t.1 0 0 10 = nI p) (e : u_X0_passReference U S N t = some ((), t2)) (hf : t2.1 0 0 4 = 0) : p < 4096 ∧ t2.1 0 0 9 = nI (rE t N (a + 1)) ∧ t2.1 0 0 10 = nI (p + 1) ∧ SN t t2 ∧ a < rE t N (a + 1) ∧ rE t N (a + 1) ≤ c := by
  unfold u_X0_passReference at e
  obtain ⟨c1, c2⟩ := e_mbw (U := U) (S := S) hN h hi hi2 hp h10 h4
  by_cases ok : mlOK t i p 1
  · have hp2 : p < 4096 := by have := ok.1; omega
    rw [c1 ok, Option.bind_some] at e
    obtain ⟨sr, e0, hca⟩ := mbw_t (p := p) hi h
    generalize (if t.1 0 0 6 = 0 then t else lyT t i p 0) = t1 at *
    dsimp only at e
    rw [if_pos (show ¬ (1 : Int32) = 0 by decide), e0, h9, e_value hca, Option.bind_some] at e
    dsimp only at e
    rw [e_nval hca, Option.bind_some, Option.bind_some, e0, h9, nI_1] at e
    obtain ⟨z1, -, -, -, -, -, -, -, -, z10, z11⟩ := id sr
    obtain ⟨y1, y2, -, -, -, -, y7, -⟩ := SR_k sr
    obtain ⟨i1, i2, i3, i4, i5⟩ := rl_p (U := U) (S := S) hN hc hi2 hp2 N (a + 1) 0 _ (qI t1 0 0 9 (nI (a + 1))) (CA_9 hca _) (by show t1.1 9 0 5 = nI c; rw [z1]; exact ec) (by show t1.1 0 0 4 = 0; rw [e0]; exact h4) rfl ha (by show t1.2.2.2.1 0 0 3 = some i; rw [z11]; exact hi) (by show t1.1 0 0 10 = nI p; rw [z10]; exact h10) (by omega) (by omega) e hf
    rw [rE_c (t2 := qI t1 0 0 9 (nI (a + 1))) (t := t) y1 y2 y7] at i1 i4 i5
    exact ⟨hp2, i1, i2, SN_t (SN_SR (SR_t sr (SR_9 t1 _))) i3, by omega, i5⟩
  · obtain ⟨t3, e3, hf3⟩ := c2 ok
    rw [e3, Option.bind_some] at e
    dsimp only at e
    rw [if_neg (show ¬ ¬ (0 : Int32) = 0 from fun z => z rfl)] at e
    rw [← (Prod.mk.inj (Option.some.inj e)).2] at hf
    exact absurd hf hf3
end
