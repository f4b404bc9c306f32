/-! LAYER 3, the assemblers side by side: origin, page, radix -/
def SF (s s2 : RS) : Prop := (∀ k, (k = 1 ∨ k = 7 ∨ k = 8 ∨ k = 29 ∨ 31 ≤ k) → s2.1 k = s.1 k) ∧ (∀ k, (k = 0 ∨ k = 25 ∨ 27 ≤ k) → s2.2.1 k = s.2.1 k) ∧ s2.2.2 = s.2.2
theorem SF_0 (s : RS) : SF s s := ⟨fun _ _ => rfl, fun _ _ => rfl, rfl⟩
theorem SF_t {s s2 s3 : RS} (h : SF s s2) (g : SF s2 s3) : SF s s3 := ⟨fun k hk => (g.1 k hk).trans (h.1 k hk), fun k hk => (g.2.1 k hk).trans (h.2.1 k hk), g.2.2.trans h.2.2⟩
theorem SF_SL {s s2 : RS} (h : SL s s2) : SF s s2 := ⟨fun k hk => h.1 k (fun z => by
  simp only [lkF, List.mem_cons, List.not_mem_nil, or_false] at z
  omega), fun k _ => by rw [h.2], by rw [h.2]⟩
theorem SF_I {s s2 : RS} (h : SF s s2) {k : Nat} (hk : ¬ (k = 1 ∨ k = 7 ∨ k = 8 ∨ k = 29 ∨ 31 ≤ k)) (x : Int32) : SF s (pI s2 k x) := ⟨fun j hj => by
  show up1 s2.1 k x j = _
  rw [up1_n _ _ (fun e => hk (by rw [← e]; exact hj))]
  exact h.1 j hj, h.2⟩
theorem SF_A {s s2 : RS} (h : SF s s2) {k : Nat} (hk : ¬ (k = 0 ∨ k = 25 ∨ 27 ≤ k)) (j : Nat) (x : Int32) : SF s (pA s2 k j x) := ⟨h.1, fun l hl => by
  show up1 s2.2.1 k _ l = _
  rw [up1_n _ _ (fun e => hk (by rw [← e]; exact hl))]
  exact h.2.1 l hl, h.2.2⟩
def JS (b : Nat → Int32) (n : Nat) (P : Nat → Nat) (c m T : Nat) (ν : Nat → Nat) (i : Nat) (t : CS) (s : RS) : Prop := EX b n P c m T ν t s ∧ i < 2 ∧ t.2.2.2.1 0 0 3 = some i ∧ t.1 7 i 1 = nI (cn (t.2.1 7 i 0) 4096) ∧ plW (t.1 0 0 10) ∧ s.1 29 = 0 ∧ s.1 28 = 0 ∧ t.1 0 0 7 = 0 ∧ FZ s ∧ (t.1 0 0 8 = 0 ∨ t.1 0 0 8 = 1) ∧ (t.1 0 0 6 = 0 ∨ t.1 0 0 6 = 1) ∧ RSh (t.2.1 7 i 0) s
def OUT (b : Nat → Int32) (n : Nat) (P : Nat → Nat) (c m i : Nat) (s : RS) (t2 : CS) (s2 : RS) : Prop := FZ s2 ∧ SF s s2 ∧ ((¬ t2.1 0 0 4 = 0 ∧ ¬ s2.1 5 = 0) ∨ (t2.1 0 0 4 = 0 ∧ ¬ s2.1 5 = 0 ∧ kA t2 (t2.1 0 0 9) = 6) ∨ (t2.1 0 0 4 = 0 ∧ s2.1 5 = 0 ∧ ∃ a T ν, t2.1 0 0 9 = nI a ∧ JS b n P c m T ν i t2 s2 ∧ LA b n P c m t2 s2 a))
section
variable {U S N n c m T i : Nat} {b : Nat → Int32} {P ν : Nat → Nat} {t : CS} {s : RS}
theorem TB_SR {t2 : CS} (h : TB b n t P c m) (g : SR t t2) : TB b n t2 P c m := by
  obtain ⟨g1, g2, -, -, g5, g6, -⟩ := g
  unfold TB TT at *
  rw [g1, g2, g5, g6]
  exact h
theorem EX_SR {t2 : CS} (h : EX b n P c m T ν t s) (g : SR t t2) (hc : CA t2) : EX b n P c m T ν t2 s := by
  obtain ⟨h1, h2, h3, h4, h5, h6, h7, h8, h9, -⟩ := h
  have h3' := TB_SR h3 g
  obtain ⟨g1, g2, g3, g4, g5, g6, g7, g8, g9, g10, g11⟩ := g
  refine ⟨h1, h2, h3', ?_, ?_, h6, ?_, ?_, ?_, hc⟩
  · unfold NC FX at *; rw [g3, g4, g5]; exact h4
  · unfold RN at *; rw [g3, g4, g5]; exact h5
  · rw [g9]; exact h7
  · rw [g10]; exact h8
  · rw [g7]; exact h9
theorem LA_SR {t2 : CS} {a : Nat} (h : LA b n P c m t s a) (g : SR t t2) : LA b n P c m t2 s a := by
  obtain ⟨g1, g2, -, -, g5, -, -, -, g9, -⟩ := g
  unfold LA at *
  rw [g2, g5, g9]
  exact h
theorem rvF_w (h : CA t) (q : Int32) : ∀ (f a : Nat) (v op : Int32) (p : Int32 × Nat), W12 v → rvF t q f a v op = some p → W12 p.1 ∧ a < p.2 := by
  intro f
  induction f with
  | zero => intro a v op p _ e; cases e
  | succ f ih =>
    intro a v op p hv e
    have e' : (pm t q a).bind (fun p => if ¬ oP (kA t (nI p.2)) = 0 then rvF t q f (p.2 + 1) (cmb v op p.1) (kA t (nI p.2)) else some (cmb v op p.1, p.2)) = some p := e
    cases ep : pm t q a with
    | none => rw [ep] at e'; cases e'
    | some r =>
      obtain ⟨w1, w2, -⟩ := pm_w h ep
      rw [ep, Option.bind_some] at e'
      by_cases co : ¬ oP (kA t (nI r.2)) = 0
      · rw [if_pos co] at e'
        obtain ⟨i1, i2⟩ := ih _ _ _ p (cmb_w hv w1 op) e'
        exact ⟨i1, by omega⟩
      · rw [if_neg co] at e'
        rw [← Option.some.inj e']
        exact ⟨cmb_w hv w1 op, w2⟩
theorem rv_w (h : CA t) {q : Int32} {a : Nat} {p : Int32 × Nat} (e : rv t q a = some p) : W12 p.1 ∧ a < p.2 := rvF_w h q 3000 a 0 43 p w12_0 e
theorem plW_w {x : Int32} (h : W12 x) : plW x := by
  obtain ⟨k, hk, e⟩ := h
  exact ⟨k, by omega, e⟩
/-- no value begins with a token that is none -/
theorem rv_6 {q : Int32} {a : Nat} (h : kA t (nI a) = 6) : rv t q a = none := by
  have hp : pm t q a = none := by
    unfold pm pv
    rw [h, if_neg (by decide), if_neg (fun z => absurd z.1 (by decide)), if_neg (by decide), if_neg (by decide), if_neg (by decide)]
    rfl
  show (pm t q a).bind _ = none
  rw [hp]
  rfl
theorem take4 (hN : 5000 < N) (h : EX b n P c m T ν t s) (hf : FZ s) {a : Nat} (hl : LA b n P c m t s a) (hk : t.2.1 9 0 1 a = 1 ∨ t.2.1 9 0 1 a = 2 ∨ t.2.1 9 0 1 a = 3 ∨ (sgn (t.2.1 9 0 1 a) ∧ ¬ t.2.1 9 0 1 a = 36)) : ∃ s2, g_take U S N s = some ((), s2) ∧ TK b n P c m t s s2 (a + 1) ∧ s2.1 4 = nI (P (a + 1)) := by
  obtain ⟨ha1, st, w1, w2, w3, w4, w5⟩ := tk_nx h hl.1 (fk_t hk)
  have e16 := LA_t h hl hk
  unfold g_take
  rw [Option.bind_some, e16]
  have sl : SL s (pI s 4 (nI (P (a + 1)))) := SL_I (SL_0 s) (by decide) _
  obtain ⟨s2, e, ⟨k1, k2, k3, k4, k5⟩, k6⟩ := look_at (U := U) (S := S) (s := pI s 4 (nI (P (a + 1)))) hN (EX_SL h sl) hf ha1 rfl w1 w2 w3 w4 w5
  rw [e, Option.bind_some]
  exact ⟨s2, rfl, ⟨SL_t sl k1, k2, k3, k4, k5⟩, k6⟩
/-- take, then a value -/
theorem ta_eq (hN : 5000 < N) (h : EX b n P c m T ν t s) (hf : FZ s) (h5 : s.1 5 = 0) (h29 : s.1 29 = 0) (hpl : plW (t.1 0 0 10)) {a : Nat} (hl : LA b n P c m t s a) (hk : t.2.1 9 0 1 a = 1 ∨ t.2.1 9 0 1 a = 2 ∨ t.2.1 9 0 1 a = 3 ∨ (sgn (t.2.1 9 0 1 a) ∧ ¬ t.2.1 9 0 1 a = 36)) : ∃ s1 y s2, g_take U S N s = some ((), s1) ∧ g_asked U S N s1 = some (y, s2) ∧ TK b n P c m t s s1 (a + 1) ∧ SL s s2 ∧ FZ s2 ∧ (rv t 1 (a + 1) = none → ¬ s2.1 5 = 0) ∧ (∀ p, rv t 1 (a + 1) = some p → y = p.1 ∧ OC b n P c m t s2 p.2) := by
  obtain ⟨s1, e1, tk, -⟩ := take4 (U := U) (S := S) hN h hf hl hk
  obtain ⟨t1, t2, t3, t4, t5⟩ := id tk
  rcases t5 h5 with ⟨u1, u2, -⟩ | ⟨u1, u2, u3⟩
  · have hf5 : ¬ s1.1 5 = 0 := by rw [u2]; decide
    obtain ⟨s2, v1, v2, v3⟩ := asked_f (U := U) (S := S) (N := N) hf5 ((t1.1 29 (by decide)).trans h29)
    refine ⟨s1, 0, s2, e1, v1, tk, SL_t t1 v2, Or.inr (by rw [v3, u2]; decide), fun _ => by rw [v3]; exact hf5, fun p z => ?_⟩
    rw [rv_6 u1] at z
    cases z
  · obtain ⟨y, s2, v1, v2, v3, v4, v5⟩ := asked_eq (U := U) (S := S) hN (EX_SL h t1) t3 u2 u3 ((t1.1 29 (by decide)).trans h29) hpl
    exact ⟨s1, y, s2, e1, v1, tk, SL_t t1 v2, v3, v4, v5⟩
theorem JS_p (h : JS b n P c m T ν i t s) {s2 : RS} (g : SL s s2) (hf : FZ s2) {y : Int32} (hy : plW y) (x : Int32) : JS b n P c m T ν i (qI (qI t 0 0 9 x) 0 0 10 y) (pI s2 11 y) := by
  obtain ⟨hE, h2, h3, h4, h5, h6, h7, h8, h9, h10, h11, h12⟩ := h
  obtain ⟨e1, e2, e3, e4, e5, e6, e7, e8, e9, e10⟩ := EX_SL hE g
  refine ⟨⟨e1, e2, e3, e4, RN_s e5 rfl rfl rfl rfl rfl, e6, e7, rfl, e9, (GA_0 (GA_0 ⟨e10, AF_refl t⟩ 9 x) 10 y).1⟩, h2, h3, h4, hy, (g.1 29 (by decide)).trans h6, (g.1 28 (by decide)).trans h7, h8, hf, h10, h11, ?_⟩
  refine RSh_s h12 ⟨?_, ?_, ?_, ?_⟩ <;> (show s2.2.1 _ = _; rw [g.2])
theorem OUT_p (h : JS b n P c m T ν i t s) (h4 : t.1 0 0 4 = 0) {s2 : RS} (g : SL s s2) (hf : FZ s2) {y : Int32} (hy : plW y) {a : Nat} (ho : OC b n P c m t s2 a) : OUT b n P c m i s (qI (qI t 0 0 9 (nI a)) 0 0 10 y) (pI s2 11 y) := by
  refine ⟨hf, SF_I (SF_SL g) (by decide) _, ?_⟩
  rcases ho with ⟨k1, k2⟩ | ⟨k1, k2, k3⟩
  · exact Or.inr (Or.inl ⟨h4, k2, k1⟩)
  · exact Or.inr (Or.inr ⟨h4, k2, a, T, ν, rfl, JS_p h g hf hy _, LA_SL (s2 := pI s2 11 y) k3 rfl rfl rfl rfl rfl⟩)
theorem j_origin (hN : 5000 < N) (h : JS b n P c m T ν i t s) {a : Nat} (hl : LA b n P c m t s a) (h4 : t.1 0 0 4 = 0) (h5 : s.1 5 = 0) (h9 : t.1 0 0 9 = nI a) (hk : kA t (nI a) = 42) : ∃ t2 s2, u_X0_passOrigin U S N t = some ((), t2) ∧ ((g_take U S N s).bind fun q20 => (g_asked U S N q20.2).bind fun q22 => (some (pI q22.2 11 q22.1)).bind fun μ24 => some ((), μ24)) = some ((), s2) ∧ OUT b n P c m i s t2 s2 := by
  obtain ⟨hE, h2, h3, h4', hpl, h6, h7, h8, hf, -⟩ := id h
  obtain ⟨-, -, ⟨-, -, ec, -, hc, -⟩, -, -, -, -, -, -, hCA⟩ := id hE
  obtain ⟨e1, -, -, -⟩ := LA_k hE hl
  have hs : sgn (t.2.1 9 0 1 a) := by rw [← e1, hk]; exact sgn_y 42 (by decide)
  obtain ⟨s1, y, s2, v1, v2, -, v4, v5, v6, v7⟩ := ta_eq (U := U) (S := S) hN hE hf h5 h6 hpl hl (Or.inr (Or.inr (Or.inr ⟨hs, by rw [← e1, hk]; decide⟩)))
  obtain ⟨c1, c2⟩ := c_origin (U := U) (S := S) hN hCA ec hc h4 h9 hl.1
  rw [v1, Option.bind_some, v2, Option.bind_some, Option.bind_some]
  cases er : rv t 1 (a + 1) with
  | none =>
    obtain ⟨t2, e2, hf2⟩ := c2 er
    exact ⟨t2, _, e2, rfl, v5, SF_I (SF_SL v4) (by decide) _, Or.inl ⟨hf2, v6 er⟩⟩
  | some p =>
    obtain ⟨w1, w2⟩ := v7 p er
    dsimp only
    rw [w1]
    exact ⟨_, _, c1 p er, rfl, OUT_p h h4 v4 v5 (plW_w (rv_w hCA er).1) w2⟩
theorem pl_up {k : Nat} (hk : k ≤ 4096) : (nI k + 128 - 1) / 128 * 128 = nI ((k + 127) / 128 * 128) ∧ (nI k + 127) / 128 * 128 = nI ((k + 127) / 128 * 128) := by
  have e1 : nI k + 128 - 1 = nI (k + 127) := by
    rw [show (128 : Int32) = nI 128 from rfl, nI_add, nI_m1 (by omega)]
    rfl
  have e2 : nI k + 127 = nI (k + 127) := nI_add k 127
  rw [e1, e2, show (128 : Int32) = nI 128 from rfl, pk_div (by omega) (by decide) (by decide), mul_nI]
  exact ⟨rfl, rfl⟩
theorem j_page (hN : 5000 < N) (h : JS b n P c m T ν i t s) {a : Nat} (hl : LA b n P c m t s a) (h4 : t.1 0 0 4 = 0) (h5 : s.1 5 = 0) (h9 : t.1 0 0 9 = nI a) (hk : kA t (nI a) = 1) : ∃ t2 s2, u_X0_passPage U S N t = some ((), t2) ∧ g_told U S N 0 s = some ((), s2) ∧ OUT b n P c m i s t2 s2 := by
  obtain ⟨hE, h2, h3, h4', hpl, h6, h7, h8, hf, -⟩ := id h
  obtain ⟨-, -, ⟨-, -, ec, -, hc, -⟩, -, -, -, -, h11, -, hCA⟩ := id hE
  obtain ⟨e1, -, -, -⟩ := LA_k hE hl
  obtain ⟨s1, y, s2, v1, v2, tk, v4, v5, v6, v7⟩ := ta_eq (U := U) (S := S) hN hE hf h5 h6 hpl hl (Or.inl (by rw [← e1]; exact hk))
  obtain ⟨c1, c2⟩ := c_page (U := U) (S := S) hN hCA ec hc h4 h9 hl.1
  obtain ⟨t1, t2, t3, t4, t5⟩ := id tk
  have hp2 := hpl
  obtain ⟨k, hk4, ek⟩ := hp2
  obtain ⟨p1, p2⟩ := pl_up hk4
  unfold g_told
  rw [if_pos (show ¬ (0 : Int32) = 4 by decide), v1, Option.bind_some]
  dsimp only
  rw [if_neg (show ¬ (0 : Int32) = 1 by decide), if_pos (show ¬ (0 : Int32) = 2 by decide), if_neg (show ¬ ¬ (0 : Int32) = 0 from fun z => z rfl)]
  rcases t5 h5 with ⟨u1, u2, -⟩ | ⟨u1, u2, u3⟩
  · have hf5 : ¬ s1.1 5 = 0 := by rw [u2]; decide
    have hb0 : bV t (nI (a + 1)) = 0 := by unfold bV; rw [u1]; rfl
    rw [if_pos hf5]
    unfold g_told_122 g_told_149 g_told_166 g_told_201
    rw [v2, Option.bind_some]
    dsimp only
    have hf2 := v6 (rv_6 u1)
    rw [if_pos hf2, if_pos hf2]
    exact ⟨_, s2, c1 hb0, rfl, v5, SF_SL v4, Or.inr (Or.inl ⟨h4, hf2, u1⟩)⟩
  · rw [if_neg (not_not_intro u2), bv_eq hN (EX_SL hE t1) u3 u2, Option.bind_some]
    dsimp only
    by_cases hb0 : bV t (nI (a + 1)) = 0
    · rw [if_neg (not_not_intro hb0), if_neg (by decide), Option.bind_some, (t1.1 11 (by decide)), h11, ek, p2]
      have c1' := c1 hb0
      rw [ek, p1] at c1'
      exact ⟨_, _, c1', rfl, OUT_p h h4 t1 t3 ⟨_, by omega, rfl⟩ (OC_TK h5 tk)⟩
    · rw [if_pos hb0]
      obtain ⟨c3, c4⟩ := c2 hb0
      unfold g_told_122 g_told_149 g_told_166 g_told_201
      rw [v2, Option.bind_some]
      dsimp only
      cases er : rv t 1 (a + 1) with
      | none =>
        have hf2 := v6 er
        rw [if_pos hf2, if_pos hf2]
        obtain ⟨t2, e2, hft⟩ := c4 (Or.inl er)
        exact ⟨t2, s2, e2, rfl, v5, SF_SL v4, Or.inl ⟨hft, hf2⟩⟩
      | some p =>
        obtain ⟨w1, w2⟩ := v7 p er
        obtain ⟨⟨q, hq, eq⟩, -⟩ := rv_w hCA er
        rw [w1]
        have e128 : (128 : Int32) * p.1 = p.1 * 128 := Int32.mul_comm _ _
        by_cases c32 : q < 32
        · have hlt : p.1 < 32 := by rw [eq]; exact (ltL (k := 32) (c := 32) rfl (by omega) (by decide)).mpr c32
          have hle : p.1 ≤ 31 := by rw [eq]; exact (leL (k := 31) (c := 31) rfl (by omega) (by decide)).mpr (by omega)
          have hpw : plW (p.1 * 128) := by
            rw [eq, show (128 : Int32) = nI 128 from rfl, mul_nI]
            exact ⟨_, by omega, rfl⟩
          have c3' := c3 p er hlt
          rcases w2 with ⟨k1, k2⟩ | ⟨k1, k2, k3⟩
          · rw [if_pos k2, if_pos k2]
            exact ⟨_, s2, c3', rfl, v5, SF_SL v4, Or.inr (Or.inl ⟨h4, k2, k1⟩)⟩
          · rw [if_neg (not_not_intro k2), if_pos hle, if_neg (not_not_intro k2), Option.bind_some, e128]
            exact ⟨_, _, c3', rfl, OUT_p h h4 v4 v5 hpw (Or.inr ⟨k1, k2, k3⟩)⟩
        · have hge : ¬ p.1 < 32 := by rw [eq]; exact fun z => c32 ((ltL (k := 32) (c := 32) rfl (by omega) (by decide)).mp z)
          have hgt : ¬ p.1 ≤ 31 := by rw [eq]; exact fun z => by have := (leL (k := 31) (c := 31) rfl (by omega) (by decide)).mp z; omega
          obtain ⟨t2, e2, hft⟩ := c4 (Or.inr ⟨p, er, hge⟩)
          by_cases k2 : s2.1 5 = 0
          · rw [if_neg (not_not_intro k2), if_neg hgt, g_fails_eq v5, Option.bind_some]
            dsimp only
            rw [if_pos (flt_ne (by decide))]
            exact ⟨t2, _, e2, rfl, flt_FZ v5 (by decide), SF_t (SF_SL v4) (SF_SL (flt_SL _ _)), Or.inl ⟨hft, flt_ne (by decide)⟩⟩
          · rw [if_pos k2, if_pos k2]
            exact ⟨t2, s2, e2, rfl, v5, SF_SL v4, Or.inl ⟨hft, k2⟩⟩
theorem j_radix (hN : 5000 < N) (h : JS b n P c m T ν i t s) {a : Nat} (hl : LA b n P c m t s a) (h4 : t.1 0 0 4 = 0) (h5 : s.1 5 = 0) (h9 : t.1 0 0 9 = nI a) (hk : kA t (nI a) = 1) {x : Int32} (hx : x = 0 ∨ x = 1) : ∃ t2 s2, u_X0_passRadix U S N x t = some ((), t2) ∧ g_told U S N (if x = 0 then 2 else 1) s = some ((), s2) ∧ OUT b n P c m i s t2 s2 := by
  obtain ⟨hE, h2, h3, h4', hpl, h6, h7, h8, hf, h10, h11', h12⟩ := id h
  obtain ⟨e1, -, -, -⟩ := LA_k hE hl
  obtain ⟨s1, v1, tk, e4⟩ := take4 (U := U) (S := S) hN hE hf hl (Or.inl (by rw [← e1]; exact hk))
  obtain ⟨ha1, st, w1, w2, w3, w4, w5⟩ := tk_nx hE hl.1 (fk_t (Or.inl (by rw [← e1]; exact hk)))
  obtain ⟨t1, -, -, -, t5⟩ := id tk
  refine ⟨qI (qI t 0 0 8 x) 0 0 9 (nI (a + 1)), ?_⟩
  -- the look again
  have again : ∀ r : Int32, r = (if x = 0 then 8 else 10) → ∃ s3, ((g_again U S N (pI s1 10 r)).bind fun q1 => some ((), q1.2)) = some ((), s3) ∧ OUT b n P c m i s (qI (qI t 0 0 8 x) 0 0 9 (nI (a + 1))) s3 := by
    intro r hr
    have hE2 : EX b n P c m T ν (qI t 0 0 8 x) (pI (pI s1 10 r) 5 0) := by
      obtain ⟨q1, q2, q3, q4, q5, q6, q7, q8, q9, q10⟩ := EX_SL hE t1
      refine ⟨q1, q2, q3, q4, RN_s q5 rfl rfl rfl rfl rfl, q6, ?_, q8, q9, (GA_0 ⟨q10, AF_refl t⟩ 8 x).1⟩
      exact hr
    obtain ⟨s3, y1, y2, y3⟩ := look_at (U := U) (S := S) (s := pI (pI s1 10 r) 5 0) (t := qI t 0 0 8 x) hN hE2 (Or.inl rfl) ha1 e4 w1 w2 w3 w4 w5
    unfold g_again
    rw [Option.bind_some, y1, Option.bind_some, Option.bind_some]
    refine ⟨s3, rfl, ?_⟩
    obtain ⟨z1, z2, z3, z4, z5⟩ := y2
    have sf : SF s s3 := SF_t (SF_I (SF_I (SF_SL t1) (by decide) r) (by decide) 0) (SF_SL z1)
    rcases z5 rfl with ⟨u1, u2, -⟩ | ⟨u1, u2, u3⟩
    · exact ⟨z3, sf, Or.inr (Or.inl ⟨h4, by rw [u2]; decide, u1⟩)⟩
    · refine ⟨z3, sf, Or.inr (Or.inr ⟨h4, u2, a + 1, T, ν, rfl, ?_, u3⟩)⟩
      have hE3 := EX_SL hE2 z1
      obtain ⟨q1, q2, q3, q4, q5, q6, q7, q8, q9, q10⟩ := hE3
      refine ⟨⟨q1, q2, q3, q4, q5, q6, q7, q8, q9, CA_9 q10 _⟩, h2, h3, h4', hpl, ?_, ?_, h8, z3, hx, h11', ?_⟩
      · rw [z1.1 29 (by decide)]
        exact (t1.1 29 (by decide)).trans h6
      · rw [z1.1 28 (by decide)]
        exact (t1.1 28 (by decide)).trans h7
      · refine RSh_s h12 ⟨?_, ?_, ?_, ?_⟩ <;> (rw [z1.2]; show s1.2.1 _ = _; rw [t1.2])
  have told : ∀ r : Int32, r = (if x = 0 then 8 else 10) → ∃ s3, g_told_43 U S N r s1 = some ((), s3) ∧ OUT b n P c m i s (qI (qI t 0 0 8 x) 0 0 9 (nI (a + 1))) s3 := by
    intro r hr
    obtain ⟨s3, y1, y2⟩ := again r hr
    refine ⟨s3, ?_, y2⟩
    unfold g_told_43 g_told_72 g_told_201
    rw [Option.bind_some]
    show (if s1.1 5 = 0 then _ else if ¬ s1.1 5 = 1 then _ else if ¬ s1.1 6 = s1.1 13 then _ else _) = _
    rcases t5 h5 with ⟨-, u2, u3⟩ | ⟨-, u2, -⟩
    · rw [if_neg (by rw [u2]; decide), if_neg (not_not_intro u2), if_neg (not_not_intro u3)]
      exact y1
    · rw [if_pos u2]
      exact y1
  unfold g_told g_told_30
  rw [v1]
  rcases hx with rfl | rfl
  · obtain ⟨s3, y1, y2⟩ := told 8 rfl
    refine ⟨s3, c_radix h9 (Or.inl rfl), ?_, y2⟩
    rw [if_pos (show (0 : Int32) = 0 from rfl), if_pos (show ¬ (2 : Int32) = 4 by decide), Option.bind_some, if_neg (show ¬ (2 : Int32) = 1 by decide), if_neg (show ¬ ¬ (2 : Int32) = 2 from fun z => z rfl), if_pos (show ¬ (2 : Int32) = 1 by decide)]
    exact y1
  · obtain ⟨s3, y1, y2⟩ := told 10 rfl
    refine ⟨s3, c_radix h9 (Or.inr rfl), ?_, y2⟩
    rw [if_neg (show ¬ (1 : Int32) = 0 by decide), if_pos (show ¬ (1 : Int32) = 4 by decide), Option.bind_some, if_pos (show (1 : Int32) = 1 from rfl), if_neg (show ¬ ¬ (1 : Int32) = 1 from fun z => z rfl)]
    exact y1
end
