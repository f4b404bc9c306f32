/-! LAYER 3, where the class's words end: a matter of the tokens alone -/
def v1 (t : CS) (a : Nat) : Nat := if kA t (nI a) = 45 then a + 2 else a + 1
def vE (t : CS) : Nat → Nat → Nat
  | 0, a => a
  | f + 1, a => if ¬ oP (kA t (nI (v1 t a))) = 0 then vE t f (v1 t a + 1) else v1 t a
def itE (t : CS) (a : Nat) : Nat := if lS (kA t (nI a)) = 0 then vE t 3000 a else if kA t (nI (vE t 3000 (a + 1))) = clS (kA t (nI a)) then vE t 3000 (a + 1) + 1 else vE t 3000 (a + 1)
def wE (t : CS) : Nat → Nat → Nat
  | 0, a => a
  | f + 1, a => if ¬ lS (kA t (nI a)) = 0 then itE t a else if bP t (nI (itE t a)) = 0 then itE t a else wE t f (itE t a)
def rE (t : CS) : Nat → Nat → Nat
  | 0, a => a
  | f + 1, a => if mdf t (nI a) = 0 then (if bP t (nI a) = 0 then a else itE t a) else rE t f (a + 1)
/-- names and tokens stay -/
def SN (t t2 : CS) : Prop := t2.1 9 = t.1 9 ∧ t2.2.1 9 = t.2.1 9 ∧ t2.1 4 = t.1 4 ∧ t2.2.1 4 = t.2.1 4 ∧ t2.2.2.1 = t.2.2.1 ∧ t2.1 0 0 6 = t.1 0 0 6 ∧ t2.1 0 0 7 = t.1 0 0 7 ∧ t2.1 0 0 8 = t.1 0 0 8
theorem SN_SR {t t2 : CS} (h : SR t t2) : SN t t2 := by
  obtain ⟨h1, h2, h3, h4, h5, -, h7, h8, h9, -, -⟩ := h
  exact ⟨h1, h2, h3, h4, h5, h7, h8, h9⟩
theorem SN_t {t t2 t3 : CS} (h : SN t t2) (g : SN t2 t3) : SN t t3 := by
  obtain ⟨h1, h2, h3, h4, h5, h6, h7, h8⟩ := h
  obtain ⟨g1, g2, g3, g4, g5, g6, g7, g8⟩ := g
  exact ⟨g1.trans h1, g2.trans h2, g3.trans h3, g4.trans h4, g5.trans h5, g6.trans h6, g7.trans h7, g8.trans h8⟩
section
variable {U S N n c m T i p a : Nat} {t t2 : CS} {q : Int32}
theorem pm_e {r : Int32 × Nat} (e : pm t q a = some r) : r.2 = v1 t a := by
  unfold pm at e
  unfold v1
  by_cases c : kA t (nI a) = 45
  · rw [if_pos c] at e ⊢
    cases ep : pv t q (a + 1) with
    | none => rw [ep] at e; cases e
    | some y => rw [ep] at e; rw [← Option.some.inj e]
  · rw [if_neg c] at e ⊢
    cases ep : pv t q a with
    | none => rw [ep] at e; cases e
    | some y => rw [ep] at e; rw [← Option.some.inj e]
theorem rvF_e : ∀ (f a : Nat) (v op : Int32) (r : Int32 × Nat), rvF t q f a v op = some r → r.2 = vE t f a := by
  intro f
  induction f with
  | zero => intro a v op r e; cases e
  | succ f ih =>
    intro a v op r e
    have e' : (pm t q a).bind (fun p => if ¬ oP (kA t (nI p.2)) = 0 then rvF t q f (p.2 + 1) (cmb v op p.1) (kA t (nI p.2)) else some (cmb v op p.1, p.2)) = some r := e
    show r.2 = if ¬ oP (kA t (nI (v1 t a))) = 0 then vE t f (v1 t a + 1) else v1 t a
    cases ep : pm t q a with
    | none => rw [ep] at e'; cases e'
    | some y =>
      rw [ep, Option.bind_some, pm_e ep] at e'
      by_cases co : oP (kA t (nI (v1 t a))) = 0
      · rw [if_neg (not_not_intro co)] at e' ⊢
        rw [← Option.some.inj e']
      · rw [if_pos co] at e' ⊢
        exact ih _ _ _ r e'
theorem rv_e {r : Int32 × Nat} (e : rv t q a = some r) : r.2 = vE t 3000 a := rvF_e 3000 a 0 43 r e
theorem kA_hi (ec : t.1 9 0 5 = nI c) (hc : c ≤ 2001) (ha : a < 2 ^ 31) (h : ¬ kA t (nI a) = 0) : a < c := by
  unfold kA at h
  rw [if_neg (nI_nn ha), ec] at h
  by_cases z : nI a < nI c
  · exact (ltI ha (by omega)).mp z
  · rw [if_neg z] at h
    exact absurd rfl h
theorem pv_k0 {y : Int32} (e : pv t q a = some y) : ¬ kA t (nI a) = 0 := by
  intro z
  unfold pv at e
  rw [z, if_neg (fun z => absurd z.1 (by decide)), if_neg (by decide), if_neg (by decide), if_neg (by decide)] at e
  cases e
theorem pm_c (ec : t.1 9 0 5 = nI c) (hc : c ≤ 2001) (ha : a ≤ c) {r : Int32 × Nat} (e : pm t q a = some r) : r.2 ≤ c ∧ a < r.2 := by
  have er := pm_e e
  unfold pm at e
  unfold v1 at er
  by_cases z : kA t (nI a) = 45
  · rw [if_pos z] at e er
    cases ep : pv t q (a + 1) with
    | none => rw [ep] at e; cases e
    | some y =>
      have := kA_hi ec hc (by omega) (pv_k0 ep)
      omega
  · rw [if_neg z] at e er
    cases ep : pv t q a with
    | none => rw [ep] at e; cases e
    | some y =>
      have := kA_hi ec hc (by omega) (pv_k0 ep)
      omega
theorem rvF_c (ec : t.1 9 0 5 = nI c) (hc : c ≤ 2001) : ∀ (f a : Nat) (v op : Int32) (r : Int32 × Nat), a ≤ c → rvF t q f a v op = some r → r.2 ≤ c := by
  intro f
  induction f with
  | zero => intro a v op r _ e; cases e
  | succ f ih =>
    intro a v op r ha e
    have e' : (pm t q a).bind (fun p => if ¬ oP (kA t (nI p.2)) = 0 then rvF t q f (p.2 + 1) (cmb v op p.1) (kA t (nI p.2)) else some (cmb v op p.1, p.2)) = some r := e
    cases ep : pm t q a with
    | none => rw [ep] at e'; cases e'
    | some y =>
      rw [ep, Option.bind_some] at e'
      have hy := (pm_c ec hc ha ep).1
      by_cases co : oP (kA t (nI y.2)) = 0
      · rw [if_neg (not_not_intro co)] at e'
        rw [← Option.some.inj e']
        exact hy
      · rw [if_pos co] at e'
        refine ih _ _ _ r ?_ e'
        exact kA_hi ec hc (by omega) (fun z => co (by rw [z]; rfl))
theorem rv_c (ec : t.1 9 0 5 = nI c) (hc : c ≤ 2001) (ha : a ≤ c) {r : Int32 × Nat} (e : rv t q a = some r) : r.2 ≤ c := rvF_c ec hc 3000 a 0 43 r ha e
theorem it_e (hN : 5000 < N) (h : CA t) (ec : t.1 9 0 5 = nI c) (hc : c ≤ 2001) (h4 : t.1 0 0 4 = 0) (h9 : t.1 0 0 9 = nI a) (ha : a < c) {x : Int32} (e : u_X0_readItem U S N t = some (x, t2)) (hf : t2.1 0 0 4 = 0) : t2.1 0 0 9 = nI (itE t a) ∧ SR t t2 ∧ a < itE t a ∧ itE t a ≤ c ∧ CA t2 := by
  have hG2 : CA t2 := by
    obtain ⟨x', t2', e', g', -⟩ := s_item (U := U) (S := S) (t0 := t) hN ⟨h, AF_refl t⟩
    rw [e] at e'
    rw [(Prod.mk.inj (Option.some.inj e')).2]
    exact g'.1
  by_cases hs : lS (kA t (nI a)) = 0
  · obtain ⟨c1, c2⟩ := c_item0 (U := U) (S := S) hN h ec hc h4 h9 ha hs
    cases er : rv t 0 a with
    | none =>
      obtain ⟨x', t2', e', hf'⟩ := c2 er
      rw [e] at e'
      rw [← (Prod.mk.inj (Option.some.inj e')).2] at hf'
      exact absurd hf hf'
    | some r =>
      have e' := c1 r er
      rw [e] at e'
      have et := (Prod.mk.inj (Option.some.inj e')).2
      have ei : itE t a = r.2 := by unfold itE; rw [if_pos hs, rv_e er]
      rw [ei, et]
      exact ⟨rfl, SR_9 t _, (rv_w h er).2, rv_c ec hc (by omega) er, by rw [← et]; exact hG2⟩
  · obtain ⟨c1, c2⟩ := c_item1 (U := U) (S := S) hN h ec hc h4 h9 ha hs
    cases er : rv t 0 (a + 1) with
    | none =>
      obtain ⟨x', t2', e', hf'⟩ := c2 er
      rw [e] at e'
      rw [← (Prod.mk.inj (Option.some.inj e')).2] at hf'
      exact absurd hf hf'
    | some r =>
      have e' := c1 r er
      have ei : itE t a = (if kA t (nI r.2) = clS (kA t (nI a)) then r.2 + 1 else r.2) := by unfold itE; rw [if_neg hs, rv_e er]
      rw [← ei] at e'
      obtain ⟨v, t3, e3, l3⟩ := lf_any (U := U) (S := S) (t := qI t 0 0 9 (nI (itE t a))) hN (CA_9 h _) h4 (pgS t (kA t (nI a))) r.1 (nI a)
      rw [e, e3] at e'
      have et := (Prod.mk.inj (Option.some.inj e')).2
      rw [← et] at l3
      rcases l3 with l3 | ⟨-, l4, l5⟩
      · exact absurd hf l3
      · have h1 := (rv_w h er).2
        have h2 := rv_c ec hc (by omega) er
        refine ⟨l5, SR_t (SR_9 t _) l4, ?_, ?_, hG2⟩
        · rw [ei]; split <;> omega
        · rw [ei]
          by_cases z : kA t (nI r.2) = clS (kA t (nI a))
          · rw [if_pos z]
            have : r.2 < c := kA_hi ec hc (by omega) (by rw [z]; unfold clS; split <;> decide)
            omega
          · rw [if_neg z]; exact h2
theorem bP_hi (ec : t.1 9 0 5 = nI c) (hc : c ≤ 2001) (ha : a < 2 ^ 31) (h : ¬ bP t (nI a) = 0) : a < c := by
  refine kA_hi ec hc ha (fun z => h ?_)
  rw [bP_l]
  refine ⟨?_, by rw [z]; decide, by rw [z]; decide⟩
  unfold bV
  rw [z]
  rfl
/-- the functions above look at the tokens alone -/
theorem vE_c (hk : kA t2 = kA t) : ∀ f a, vE t2 f a = vE t f a := by
  have h1 : ∀ a, v1 t2 a = v1 t a := fun a => by unfold v1; rw [hk]
  intro f
  induction f with
  | zero => intro a; rfl
  | succ f ih =>
    intro a
    show (if ¬ oP (kA t2 (nI (v1 t2 a))) = 0 then vE t2 f (v1 t2 a + 1) else v1 t2 a) = if ¬ oP (kA t (nI (v1 t a))) = 0 then vE t f (v1 t a + 1) else v1 t a
    rw [h1, hk, ih]
theorem itE_c (hk : kA t2 = kA t) (a : Nat) : itE t2 a = itE t a := by
  unfold itE
  rw [hk, vE_c hk, vE_c hk]
theorem wE_c (hk : kA t2 = kA t) (hb : bP t2 = bP t) : ∀ f a, wE t2 f a = wE t f a := by
  intro f
  induction f with
  | zero => intro a; rfl
  | succ f ih =>
    intro a
    show (if ¬ lS (kA t2 (nI a)) = 0 then itE t2 a else if bP t2 (nI (itE t2 a)) = 0 then itE t2 a else wE t2 f (itE t2 a)) = if ¬ lS (kA t (nI a)) = 0 then itE t a else if bP t (nI (itE t a)) = 0 then itE t a else wE t f (itE t a)
    rw [hk, hb, itE_c hk, ih]
theorem mdf_c (hk : kA t2 = kA t) (hv : vA t2 = vA t) : mdf t2 = mdf t := by
  funext x
  unfold mdf
  rw [hk, hv]
theorem rE_c (hk : kA t2 = kA t) (hv : vA t2 = vA t) (hb : bP t2 = bP t) : ∀ f a, rE t2 f a = rE t f a := by
  intro f
  induction f with
  | zero => intro a; rfl
  | succ f ih =>
    intro a
    show (if mdf t2 (nI a) = 0 then (if bP t2 (nI a) = 0 then a else itE t2 a) else rE t2 f (a + 1)) = if mdf t (nI a) = 0 then (if bP t (nI a) = 0 then a else itE t a) else rE t f (a + 1)
    rw [mdf_c hk hv, hb, itE_c hk, ih]
theorem fin_p (hi : t.2.2.2.1 0 0 3 = some i) (hi2 : i < 2) (hp : p < 4096) (h10 : t.1 0 0 10 = nI p) {v : Int32} (e : u_X0_finishWord U S N v t = some ((), t2)) (hf : t2.1 0 0 4 = 0) : t.1 0 0 4 = 0 ∧ t2.1 0 0 9 = t.1 0 0 9 ∧ t2.1 0 0 10 = nI (p + 1) ∧ SN t t2 := by
  by_cases h4 : t.1 0 0 4 = 0
  · rw [e_fin hi hi2 hp h10 h4 v] at e
    have et := (Prod.mk.inj (Option.some.inj e)).2
    rw [← et]
    refine ⟨h4, ?_⟩
    by_cases c6 : t.1 0 0 6 = 0
    · rw [if_pos c6]
      exact ⟨rfl, rfl, rfl, rfl, rfl, rfl, rfl, rfl, rfl, rfl⟩
    · rw [if_neg c6]
      have f1 := (ly_f (t := t) (i := i) p v).1 0 (by decide)
      have sn := SN_SR (SR_ly t i p v)
      refine ⟨?_, rfl, sn⟩
      show (lyT t i p v).1 0 0 9 = _
      rw [f1]
  · rw [e_finf h4 v] at e
    have et := (Prod.mk.inj (Option.some.inj e)).2
    rw [← et] at hf
    exact absurd hf h4
theorem wl_p (hN : 5000 < N) (hc : c ≤ 2001) (hi2 : i < 2) (hp : p < 4096) : ∀ (f a j : Nat) (v : Int32) (t : CS), CA t → t.1 9 0 5 = nI c → t.1 0 0 4 = 0 → t.1 0 0 9 = nI a → a < c → t.2.2.2.1 0 0 3 = some i → t.1 0 0 10 = nI p → j ≤ a → c + 2 < a + f → ul_X0_passWord_38 U S N f v 1 (nI j) t = some ((), t2) → t2.1 0 0 4 = 0 → t2.1 0 0 9 = nI (wE t f a) ∧ t2.1 0 0 10 = nI (p + 1) ∧ SN t t2 ∧ a < wE t f a ∧ wE t f a ≤ c := by
  intro f
  induction f with
  | zero => intro a j v t _ _ _ _ _ _ _ _ h; omega
  | succ f ih =>
    intro a j v t h ec h4 h9 ha hi h10 hj hf e he
    obtain ⟨x, t3, e3, g3, -⟩ := s_item (U := U) (S := S) (t0 := t) hN ⟨h, AF_refl t⟩
    have e' : uh_X0_passWord_38 U S N (ul_X0_passWord_38 U S N f) v 1 (nI j) t = some ((), t2) := e
    unfold uh_X0_passWord_38 u_X0_passWord_100 u_X0_passWord_101 at e'
    rw [ec, if_neg (fun z => by have := (ltI (by omega) (by omega)).mp z; omega), if_neg (not_not_intro h4), if_neg (show ¬ (1 : Int32) = 0 by decide), e_kind h, Option.bind_some, e_isLit, Option.bind_some, h9] at e'
    dsimp only at e'
    rw [e3, Option.bind_some] at e'
    dsimp only at e'
    rw [e_begP g3.1, Option.bind_some, nI_1] at e'
    dsimp only at e'
    obtain ⟨f, rfl⟩ : ∃ f', f = f' + 1 := ⟨f - 1, by omega⟩
    show t2.1 0 0 9 = nI (if ¬ lS (kA t (nI a)) = 0 then itE t a else if bP t (nI (itE t a)) = 0 then itE t a else wE t (f + 1) (itE t a)) ∧ _ ∧ _ ∧ a < (if ¬ lS (kA t (nI a)) = 0 then itE t a else if bP t (nI (itE t a)) = 0 then itE t a else wE t (f + 1) (itE t a)) ∧ (if ¬ lS (kA t (nI a)) = 0 then itE t a else if bP t (nI (itE t a)) = 0 then itE t a else wE t (f + 1) (itE t a)) ≤ c
    -- a fault would stay
    by_cases hf3 : t3.1 0 0 4 = 0
    · obtain ⟨k1, k2, k3, k4, k5⟩ := it_e (U := U) (S := S) hN h ec hc h4 h9 ha e3 hf3
      obtain ⟨z1, -, -, -, -, -, -, -, -, z10, z11⟩ := id k2
      obtain ⟨y1, y2, -, -, -, -, y7, -⟩ := SR_k k2
      have done : u_X0_finishWord U S N (v ||| x) t3 = some ((), t2) → t2.1 0 0 9 = nI (itE t a) ∧ t2.1 0 0 10 = nI (p + 1) ∧ SN t t2 := by
        intro ef
        obtain ⟨-, q2, q3, q4⟩ := fin_p (U := U) (S := S) (N := N) (t := t3) (i := i) (p := p) (by rw [z11]; exact hi) hi2 hp (by rw [z10]; exact h10) ef he
        exact ⟨q2.trans k1, q3, SN_t (SN_SR k2) q4⟩
      by_cases c1 : lS (kA t (nI a)) = 0
      · rw [if_neg (not_not_intro c1)] at e' ⊢
        rw [k1, y7] at e'
        by_cases c2 : bP t (nI (itE t a)) = 0
        · rw [if_pos c2, pw_end (Or.inr rfl)] at e'
          rw [if_pos c2]
          obtain ⟨d1, d2, d3⟩ := done e'
          exact ⟨d1, d2, d3, k3, k4⟩
        · rw [if_neg c2] at e'
          rw [if_neg c2]
          have hlt := bP_hi ec hc (by omega) c2
          obtain ⟨i1, i2, i3, i4, i5⟩ := ih (itE t a) (j + 1) (v ||| x) t3 k5 (by rw [z1]; exact ec) hf3 k1 hlt (by rw [z11]; exact hi) (by rw [z10]; exact h10) (by omega) (by omega) e' he
          rw [wE_c y1 y7] at i1 i4 i5
          exact ⟨i1, i2, SN_t (SN_SR k2) i3, by omega, i5⟩
      · rw [if_pos c1, pw_end (Or.inr rfl)] at e'
        rw [if_pos c1]
        obtain ⟨d1, d2, d3⟩ := done e'
        exact ⟨d1, d2, d3, k3, k4⟩
    · exfalso
      have fe : ∀ y, ul_X0_passWord_38 U S N (f + 1) (v ||| x) y (nI (j + 1)) t3 = some ((), t2) → False := by
        intro y ey
        rw [pw_end (Or.inl hf3), e_finf hf3] at ey
        have et := (Prod.mk.inj (Option.some.inj ey)).2
        rw [← et] at he
        exact hf3 he
      by_cases c1 : lS (kA t (nI a)) = 0
      · rw [if_neg (not_not_intro c1)] at e'
        by_cases c2 : bP t3 (t3.1 0 0 9) = 0
        · rw [if_pos c2] at e'; exact fe _ e'
        · rw [if_neg c2] at e'; exact fe _ e'
      · rw [if_pos c1] at e'; exact fe _ e'
end
