/-! LAYER 3, the class's two passes side by side -/
/-- pass 1 at t1, pass 2 at t, the end of pass 1 at tE -/
def TW (m : Nat) (t1 t tE : CS) : Prop := CA t1 ∧ (t1.1 9 = t.1 9 ∧ t1.2.1 9 = t.2.1 9 ∧ t1.2.2.1 = t.2.2.1 ∧ t1.1 4 0 3 = t.1 4 0 3) ∧ (t1.1 0 0 4 = 0 ∧ t1.1 0 0 6 = 0 ∧ t1.1 0 0 7 = t.1 0 0 7 ∧ t1.1 0 0 8 = t.1 0 0 8 ∧ t1.1 0 0 9 = t.1 0 0 9 ∧ t1.1 0 0 10 = t.1 0 0 10) ∧ (∀ w, t.2.1 4 0 2 w = tE.2.1 4 0 2 w) ∧ (∀ w, tE.2.1 4 0 2 w = 1 → t.2.1 4 0 1 w = tE.2.1 4 0 1 w) ∧ (∀ w, w < m → t1.2.1 4 0 2 w = 2 → t.2.1 4 0 1 w = t1.2.1 4 0 1 w) ∧ rg m t1
section
variable {U S N n c m T i p a : Nat} {t t1 t2 tE : CS} {q : Int32}
theorem TW_k (h : TW m t1 t tE) : kA t1 = kA t ∧ vA t1 = vA t ∧ oA t1 = oA t ∧ bV t1 = bV t ∧ bP t1 = bP t := by
  obtain ⟨-, ⟨h1, h2, h3, h4⟩, ⟨-, -, -, h8, -, -⟩, -⟩ := h
  have k1 : kA t1 = kA t := by funext x; unfold kA; rw [h1, h2, h8]
  have k2 : vA t1 = vA t := by funext x; unfold vA; rw [h1, h2]
  have k3 : oA t1 = oA t := by funext x; unfold oA; rw [h1, h2]
  have k4 : bV t1 = bV t := by funext x; unfold bV; rw [k1, k2]
  exact ⟨k1, k2, k3, k4, by funext x; unfold bP; rw [k1, k4]⟩
theorem TW_n (h : TW m t1 t tE) (hM : MO t1 tE) (hC : CA t) (em : t.1 4 0 3 = nI m) (hm : m ≤ 1054) (x : Int32) (hg : ¬ gA t1 x = 0) : ¬ gA t x = 0 ∧ nA t x = nA t1 x := by
  obtain ⟨hC1, ⟨-, -, -, h4⟩, -, h5, h6, h7, h8⟩ := h
  obtain ⟨-, ⟨m1, -, em1, -, hF1⟩, -⟩ := hC1
  obtain ⟨-, ⟨m2, -, em2, -, hF2⟩, -⟩ := hC
  unfold gA at hg ⊢
  unfold nA
  rw [h4, em] at hg
  rw [h4, em]
  by_cases c0 : x < 0
  · rw [if_pos c0] at hg; exact absurd rfl hg
  · rw [if_neg c0] at hg
    rw [if_neg c0, if_neg c0, if_neg c0]
    by_cases c1 : x < nI m
    · rw [if_pos c1] at hg ⊢
      rw [if_pos c1, if_pos c1]
      obtain ⟨w, hw, rfl⟩ := nI_of c0
      have hwm := (ltI hw (by omega)).mp c1
      rw [nI_clamp hw] at hg ⊢
      by_cases c53 : w < 53
      · obtain ⟨-, f1, f2⟩ := hF1 w c53
        obtain ⟨-, g1, g2⟩ := hF2 w c53
        rw [g2, f1, g1]
        exact ⟨by decide, rfl⟩
      · rcases h8 w (by omega) hwm with z | z | z
        · exact absurd z hg
        · obtain ⟨m1, m2⟩ := hM.1 w z
          rw [h5 w, m1, h6 w m1, m2]
          exact ⟨by decide, rfl⟩
        · rw [h5 w, hM.2 w z, h7 w hwm z]
          exact ⟨by decide, rfl⟩
    · rw [if_neg c1] at hg; exact absurd rfl hg
theorem TW_pv (h : TW m t1 t tE) (hM : MO t1 tE) (hC : CA t) (em : t.1 4 0 3 = nI m) (hm : m ≤ 1054) {y : Int32} (e : pv t1 1 a = some y) : pv t 1 a = some y := by
  obtain ⟨k1, k2, k3, -, -⟩ := TW_k h
  obtain ⟨-, -, ⟨-, -, -, e8, -, e10⟩, -⟩ := id h
  unfold pv at *
  rw [k1, k2, k3, e8, e10] at e
  by_cases c1 : kA t (nI a) = 1 ∧ sN (vA t (nI a)) = 0
  · rw [if_pos c1] at e ⊢
    by_cases c2 : gA t1 (vA t (nI a)) = 0
    · rw [if_pos ⟨Or.inl (by decide), c2⟩] at e
      cases e
    · rw [if_neg (fun z => c2 z.2)] at e
      obtain ⟨g1, g2⟩ := TW_n h hM hC em hm _ c2
      rw [if_neg (fun z => g1 z.2), g2]
      exact e
  · rw [if_neg c1] at e ⊢
    exact e
theorem TW_pm (h : TW m t1 t tE) (hM : MO t1 tE) (hC : CA t) (em : t.1 4 0 3 = nI m) (hm : m ≤ 1054) {r : Int32 × Nat} (e : pm t1 1 a = some r) : pm t 1 a = some r := by
  obtain ⟨k1, -⟩ := TW_k h
  unfold pm at *
  rw [k1] at e
  by_cases c1 : kA t (nI a) = 45
  · rw [if_pos c1] at e ⊢
    cases ep : pv t1 1 (a + 1) with
    | none => rw [ep] at e; cases e
    | some y => rw [ep] at e; rw [TW_pv h hM hC em hm ep]; exact e
  · rw [if_neg c1] at e ⊢
    cases ep : pv t1 1 a with
    | none => rw [ep] at e; cases e
    | some y => rw [ep] at e; rw [TW_pv h hM hC em hm ep]; exact e
theorem TW_rvF (h : TW m t1 t tE) (hM : MO t1 tE) (hC : CA t) (em : t.1 4 0 3 = nI m) (hm : m ≤ 1054) : ∀ (f a : Nat) (v op : Int32) (r : Int32 × Nat), rvF t1 1 f a v op = some r → rvF t 1 f a v op = some r := by
  obtain ⟨k1, -⟩ := TW_k h
  intro f
  induction f with
  | zero => intro a v op r e; cases e
  | succ f ih =>
    intro a v op r e
    have e' : (pm t1 1 a).bind (fun p => if ¬ oP (kA t1 (nI p.2)) = 0 then rvF t1 1 f (p.2 + 1) (cmb v op p.1) (kA t1 (nI p.2)) else some (cmb v op p.1, p.2)) = some r := e
    show (pm t 1 a).bind (fun p => if ¬ oP (kA t (nI p.2)) = 0 then rvF t 1 f (p.2 + 1) (cmb v op p.1) (kA t (nI p.2)) else some (cmb v op p.1, p.2)) = some r
    cases ep : pm t1 1 a with
    | none => rw [ep] at e'; cases e'
    | some y =>
      rw [ep, Option.bind_some, k1] at e'
      rw [TW_pm h hM hC em hm ep, Option.bind_some]
      by_cases co : oP (kA t (nI y.2)) = 0
      · rw [if_neg (not_not_intro co)] at e' ⊢
        exact e'
      · rw [if_pos co] at e' ⊢
        exact ih _ _ _ r e'
theorem TW_rv (h : TW m t1 t tE) (hM : MO t1 tE) (hC : CA t) (em : t.1 4 0 3 = nI m) (hm : m ≤ 1054) {r r2 : Int32 × Nat} (e : rv t1 1 a = some r) (e2 : rv t 1 a = some r2) : r = r2 := by
  have := TW_rvF h hM hC em hm 3000 a 0 43 r e
  rw [show rvF t 1 3000 a 0 43 = rv t 1 a from rfl, e2] at this
  exact (Option.some.inj this).symm
theorem TW_dK (h : TW m t1 t tE) (a : Nat) : dK t1 a = dK t a := by
  obtain ⟨k1, k2, -, -, k5⟩ := TW_k h
  unfold dK kNm
  rw [k1, k2, k5]
/-- a statement of pass 1 keeps what was told -/
theorem st_mo (em : t.1 4 0 3 = nI m) (hm : m ≤ 1054) (hr : rg m t) (h9 : t.1 0 0 9 = nI a) (hre : t2.2.2.2.1 0 0 3 = t.2.2.2.1 0 0 3) (hst : ST37 t N p a (dK t a) t2) (hV : dK t a = 256 → ∃ w, w < m ∧ vA t (nI a) = nI w) : MO t t2 ∧ rg m t2 ∧ KP t t2 ∧ (dK t a = 256 → ∃ w, w < m ∧ vA t (nI a) = nI w ∧ t2.2.1 4 0 2 w = 2) := by
  generalize hD : dK t a = D at *
  have sn : SN t t2 → ¬ D = 256 → MO t t2 ∧ rg m t2 ∧ KP t t2 ∧ (D = 256 → ∃ w, w < m ∧ vA t (nI a) = nI w ∧ t2.2.1 4 0 2 w = 2) := by
    rintro ⟨s1, s2, s3, s4, s5, s6, s7, s8⟩ hd
    exact ⟨MO_e s4, by unfold rg; rw [s4]; exact hr, ⟨s1, s2, s5, by rw [s3], s6, hre⟩, fun z => absurd z hd⟩
  have ex : t2.1 9 = t.1 9 → t2.2 = t.2 → t2.1 4 = t.1 4 → t2.1 0 0 6 = t.1 0 0 6 → ¬ D = 256 → MO t t2 ∧ rg m t2 ∧ KP t t2 ∧ (D = 256 → ∃ w, w < m ∧ vA t (nI a) = nI w ∧ t2.2.1 4 0 2 w = 2) := by
    intro s1 s2 s3 s6 hd
    exact ⟨MO_e (by rw [s2]), by unfold rg; rw [s2]; exact hr, ⟨s1, by rw [s2], by rw [s2], by rw [s3], s6, by rw [s2]⟩, fun z => absurd z hd⟩
  unfold ST37 at hst
  by_cases d4 : D = 4
  · rw [if_pos d4] at hst
    obtain ⟨y, w, -, -, -, -, -, -, s⟩ := hst
    exact sn s (by rw [d4]; decide)
  rw [if_neg d4] at hst
  by_cases d5 : D = 5
  · rw [if_pos d5] at hst
    exact hst.elim
  rw [if_neg d5] at hst
  by_cases d36 : D = 36
  · rw [if_pos d36] at hst
    rw [hst] at ex ⊢
    exact ex rfl rfl rfl rfl (by rw [d36]; decide)
  rw [if_neg d36] at hst
  by_cases d42 : D = 42
  · rw [if_pos d42] at hst
    obtain ⟨r, -, e⟩ := hst
    rw [e] at ex ⊢
    exact ex rfl rfl rfl rfl (by rw [d42]; decide)
  rw [if_neg d42] at hst
  by_cases d256 : D = 256
  · rw [if_pos d256] at hst
    obtain ⟨w, r, hw, hv, ok, -, e⟩ := hst
    obtain ⟨w2, hw2, hv2⟩ := hV d256
    have ew : w2 = w := by
      rw [hv] at hv2
      have := (eqI (by omega) (by omega)).mp hv2
      omega
    subst ew
    obtain ⟨f1, f2, f3, f4, f5, f6, -⟩ := tl_f (t := qI t 0 0 9 (nI r.2)) w2 r.1 2
    rw [← e] at f1 f2 f3 f4 f5 f6
    unfold mtOK at ok
    rw [h9, hv] at ok
    have hg : gA t (nI w2) = t.2.1 4 0 2 w2 := by
      unfold gA
      rw [if_neg (nI_nn (by omega)), em, if_pos ((ltI (by omega) (by omega)).mpr hw2), nI_clamp (by omega)]
    rw [hg] at ok
    refine ⟨⟨fun w' hw' => ?_, fun w' hw' => ?_⟩, fun w' h1 h2 => ?_, ⟨f1 9 (by decide), f2 9 (by decide), by rw [f3]; rfl, f4, by rw [f1 0 (by decide)]; rfl, hre⟩, fun _ => ⟨w2, hw2, hv, by rw [f6, upd_y]⟩⟩
    · have hne : w' ≠ w2 := fun z => ok.2.1 (by rw [← z]; exact hw')
      rw [f5, f6, upd_n _ _ hne, upd_n _ _ hne]
      exact ⟨hw', rfl⟩
    · rw [f6]
      by_cases z : w' = w2
      · rw [z, upd_y]
      · rw [upd_n _ _ z]; exact hw'
    · rw [f6]
      by_cases z : w' = w2
      · rw [z, upd_y]; exact Or.inr (Or.inr rfl)
      · rw [upd_n _ _ z]; exact hr w' h1 h2
  rw [if_neg d256] at hst
  by_cases d257 : D = 257
  · rw [if_pos d257] at hst
    exact sn hst.2.2 d256
  rw [if_neg d257] at hst
  by_cases d300 : D = 300
  · rw [if_pos d300] at hst
    rcases hst with ⟨-, e⟩ | ⟨-, r, -, e⟩
    · rw [e] at ex ⊢
      exact ex rfl rfl rfl rfl d256
    · rw [e] at ex ⊢
      exact ex rfl rfl rfl rfl d256
  rw [if_neg d300] at hst
  by_cases d301 : D = 301
  · rw [if_pos d301] at hst
    rw [hst] at ex ⊢
    exact ex rfl rfl rfl rfl d256
  rw [if_neg d301] at hst
  by_cases d302 : D = 302
  · rw [if_pos d302] at hst
    rw [hst] at ex ⊢
    exact ex rfl rfl rfl rfl d256
  rw [if_neg d302] at hst
  by_cases d303 : D = 303
  · rw [if_pos d303] at hst
    obtain ⟨k, r2, -, -, -, -, s⟩ := hst
    exact sn s d256
  rw [if_neg d303] at hst
  exact sn hst.2.2 d256
/-- a statement, in both passes -/
theorem TW_st {t1' t' : CS} (h : TW m t1 t tE) (hC : CA t) (hC1' : CA t1') (em : t.1 4 0 3 = nI m) (hm : m ≤ 1054) (h9 : t.1 0 0 9 = nI a) (hf1 : t1'.1 0 0 4 = 0) (hre : t1'.2.2.2.1 0 0 3 = t1.2.2.2.1 0 0 3) (hV : dK t a = 256 → ∃ w, w < m ∧ vA t (nI a) = nI w) (hst1 : ST37 t1 N p a (dK t a) t1') (hst : ST37 t N p a (dK t a) t') (hM' : MO t1' tE) : TW m t1' t' tE := by
  obtain ⟨k1, k2, k3, k4, k5⟩ := TW_k h
  obtain ⟨hC1, ⟨a1, a2, a3, a4⟩, ⟨b1, b2, b3, b4, b5, b6⟩, q1, q2, q3, q4⟩ := id h
  have hD1 := TW_dK h a
  obtain ⟨mo, rg1, kp1, -⟩ := st_mo (t := t1) (t2 := t1') (m := m) (a := a) (N := N) (p := p) (by rw [a4]; exact em) hm q4 (by rw [b5]; exact h9) hre (by rw [hD1]; exact hst1) (by rw [hD1, k2]; exact hV)
  have hM := MO_t mo hM'
  obtain ⟨p1, p2, p3, p4, p5, p6⟩ := kp1
  -- names as they were
  have sn : SN t1 t1' → SN t t' → t1'.1 0 0 9 = t'.1 0 0 9 → t1'.1 0 0 10 = t'.1 0 0 10 → TW m t1' t' tE := by
    rintro ⟨s1, s2, s3, s4, s5, s6, s7, s8⟩ ⟨r1, r2, r3, r4, r5, r6, r7, r8⟩ e9 e10
    refine ⟨hC1', ⟨by rw [s1, r1, a1], by rw [s2, r2, a2], by rw [s5, r5, a3], by rw [s3, r3, a4]⟩, ⟨hf1, by rw [s6, b2], by rw [s7, r7, b3], by rw [s8, r8, b4], e9, e10⟩, ?_, ?_, ?_, rg1⟩
    · rw [r4]; exact q1
    · rw [r4]; exact q2
    · rw [r4, s4]; exact q3
  have ex : t1'.2 = t1.2 → t'.2 = t.2 → t1'.1 9 = t1.1 9 → t'.1 9 = t.1 9 → t1'.1 4 = t1.1 4 → t'.1 4 = t.1 4 → t1'.1 0 0 6 = t1.1 0 0 6 → t1'.1 0 0 7 = t'.1 0 0 7 → t1'.1 0 0 8 = t'.1 0 0 8 → t1'.1 0 0 9 = t'.1 0 0 9 → t1'.1 0 0 10 = t'.1 0 0 10 → TW m t1' t' tE := by
    intro s1 r1 s2 r2 s3 r3 s6 e7 e8 e9 e10
    refine ⟨hC1', ⟨by rw [s2, r2, a1], by rw [s1, r1, a2], by rw [s1, r1, a3], by rw [s3, r3, a4]⟩, ⟨hf1, by rw [s6, b2], e7, e8, e9, e10⟩, ?_, ?_, ?_, rg1⟩
    · rw [r1]; exact q1
    · rw [r1]; exact q2
    · rw [r1, s1]; exact q3
  unfold ST37 at hst1 hst
  generalize hD : dK t a = D at *
  by_cases d4 : D = 4
  · rw [if_pos d4] at hst1 hst
    obtain ⟨y, w, v1, v2, v3, v4, v5, v6, v7⟩ := hst1
    obtain ⟨y', w', u1, u2, u3, u4, u5, u6, u7⟩ := hst
    rw [k2, u1] at v1
    rw [k3, u2] at v2
    have e1 := (eqI (by omega) (by omega)).mp v1
    have e2 := (eqI (by omega) (by omega)).mp v2
    exact sn v7 u7 (v5.trans u5.symm) (by rw [v6, u6, show y = y' by omega, show w = w' by omega])
  rw [if_neg d4] at hst1 hst
  by_cases d5 : D = 5
  · rw [if_pos d5] at hst
    exact hst.elim
  rw [if_neg d5] at hst1 hst
  by_cases d36 : D = 36
  · rw [if_pos d36] at hst1 hst
    rw [hst1, hst] at ex ⊢
    exact ex rfl rfl rfl rfl rfl rfl rfl rfl b4 b5 b6
  rw [if_neg d36] at hst1 hst
  by_cases d42 : D = 42
  · rw [if_pos d42] at hst1 hst
    obtain ⟨r, e, e1⟩ := hst1
    obtain ⟨r2, e2, e3⟩ := hst
    have er := TW_rv h hM hC em hm e e2
    rw [e1, e3, er] at ex ⊢
    exact ex rfl rfl rfl rfl rfl rfl rfl b3 b4 rfl rfl
  rw [if_neg d42] at hst1 hst
  by_cases d256 : D = 256
  · rw [if_pos d256] at hst1 hst
    obtain ⟨w, r, hw, hv, ok, e, e1⟩ := hst1
    obtain ⟨w', r2, hw', hv', ok', e2, e3⟩ := hst
    have er := TW_rv h hM hC em hm e e2
    rw [k2, hv'] at hv
    have ew := (eqI (by omega) (by omega)).mp hv
    subst ew
    subst er
    obtain ⟨f1, f2, f3, f4, f5, f6, -⟩ := tl_f (t := qI t1 0 0 9 (nI r.2)) w' r.1 2
    obtain ⟨g1, g2, g3, g4, g5, g6, -⟩ := tl_f (t := qI t 0 0 9 (nI r.2)) w' r.1 2
    rw [← e1] at f1 f2 f3 f4 f5 f6
    rw [← e3] at g1 g2 g3 g4 g5 g6
    have f0 := f1 0 (by decide)
    have g0 := g1 0 (by decide)
    have hE2 : tE.2.1 4 0 2 w' = 2 := hM'.2 w' (by rw [f6, upd_y])
    refine ⟨hC1', ⟨by rw [f1 9 (by decide), g1 9 (by decide)]; exact a1, by rw [f2 9 (by decide), g2 9 (by decide)]; exact a2, by rw [f3, g3]; exact a3, by rw [f4, g4]; exact a4⟩, ⟨hf1, by rw [f0]; exact b2, by rw [f0, g0]; exact b3, by rw [f0, g0]; exact b4, by rw [f0, g0]; rfl, by rw [f0, g0]; exact b6⟩, fun x => ?_, fun x hx => ?_, fun x hxm hx => ?_, rg1⟩
    · rw [g6]
      by_cases z : x = w'
      · rw [z, upd_y, hE2]
      · rw [upd_n _ _ z]; exact q1 x
    · have z : x ≠ w' := fun z => by rw [z, hE2] at hx; exact absurd hx (by decide)
      rw [g5, upd_n _ _ z]
      exact q2 x hx
    · rw [g5, f5]
      by_cases z : x = w'
      · rw [z, upd_y, upd_y]
      · rw [f6, upd_n _ _ z] at hx
        rw [upd_n _ _ z, upd_n _ _ z]
        exact q3 x hxm hx
  rw [if_neg d256] at hst1 hst
  by_cases d257 : D = 257
  · rw [if_pos d257] at hst1 hst
    refine sn hst1.2.2 hst.2.2 ?_ (hst1.2.1.trans hst.2.1.symm)
    rw [hst1.1, hst.1, rE_c k1 k2 k5]
  rw [if_neg d257] at hst1 hst
  by_cases d300 : D = 300
  · rw [if_pos d300] at hst1 hst
    rw [k4] at hst1
    rcases hst1 with ⟨z1, e⟩ | ⟨z1, r, er, e⟩
    · rcases hst with ⟨z2, e2⟩ | ⟨z2, -⟩
      · rw [e, e2] at ex ⊢
        exact ex rfl rfl rfl rfl rfl rfl rfl b3 b4 rfl rfl
      · exact absurd z1 z2
    · rcases hst with ⟨z2, -⟩ | ⟨z2, r2, er2, e2⟩
      · exact absurd z2 z1
      · have err := TW_rv h hM hC em hm er er2
        rw [e, e2, err] at ex ⊢
        exact ex rfl rfl rfl rfl rfl rfl rfl b3 b4 rfl rfl
  rw [if_neg d300] at hst1 hst
  by_cases d301 : D = 301
  · rw [if_pos d301] at hst1 hst
    rw [hst1, hst] at ex ⊢
    exact ex rfl rfl rfl rfl rfl rfl rfl b3 rfl rfl b6
  rw [if_neg d301] at hst1 hst
  by_cases d302 : D = 302
  · rw [if_pos d302] at hst1 hst
    rw [hst1, hst] at ex ⊢
    exact ex rfl rfl rfl rfl rfl rfl rfl b3 rfl rfl b6
  rw [if_neg d302] at hst1 hst
  by_cases d303 : D = 303
  · rw [if_pos d303] at hst1 hst
    obtain ⟨k, r, er, hk, v5, v6, v7⟩ := hst1
    obtain ⟨k', r2, er2, hk', u5, u6, u7⟩ := hst
    have err := TW_rv h hM hC em hm er er2
    have e1 := (Prod.mk.inj err).1
    have e2 := (Prod.mk.inj err).2
    have e3 := (eqI (by omega) (by omega)).mp e1
    exact sn v7 u7 (by rw [v5, u5, e2]) (by rw [v6, u6, e3])
  rw [if_neg d303] at hst1 hst
  refine sn hst1.2.2 hst.2.2 ?_ (hst1.2.1.trans hst.2.1.symm)
  rw [hst1.1, hst.1, wE_c k1 k5]
end
