/-! LAYER 3, the assemblers side by side: labels and equations -/
section
variable {U S N n c m T i : Nat} {b : Nat → Int32} {P ν : Nat → Nat} {t : CS} {s : RS}
theorem nm_keep {s2 : RS} {st l : Nat} {cm : Int32} {L : Nat → Int64} (h : NWr b s s2 T st l cm) {k w : Nat} (hk : k < T) (hn : nmOK s L k w) : nmOK s2 L k w := by
  obtain ⟨h1, h2, -⟩ := h
  obtain ⟨l2, g1, g2, g3, g4⟩ := hn
  have e : ∀ x, x < l2 → s2.2.1 17 (7 * k + x) = s.2.1 17 (7 * k + x) := by
    intro x hx
    rw [h1]
    unfold cpy
    rw [if_neg (fun z => by omega)]
  refine ⟨l2, g1, by rw [h2, upd_n _ _ (by omega)]; exact g2, fun x hx => ?_, ?_⟩
  · obtain ⟨cc, c1, c2, c3⟩ := g3 x hx
    exact ⟨cc, c1, c2, by rw [e x hx]; exact c3⟩
  · rw [← g4]
    exact pk_ext l2 e
theorem nm_new {s2 : RS} {st l : Nat} {cm : Int32} {L : Nat → Int64} {w : Nat} (h : NWr b s s2 T st l cm) (hl : l ≤ 7) (hc : chs b st l) (hp : pkB b st l = L w) : nmOK s2 L T w := by
  obtain ⟨h1, h2, -⟩ := h
  have e : ∀ x, x < l → s2.2.1 17 (7 * T + x) = b (st + x) := by
    intro x hx
    rw [h1]
    unfold cpy
    rw [if_pos ⟨by omega, by omega⟩]
    show b (st + (7 * T + x - 7 * T)) = _
    congr 2
    omega
  refine ⟨l, hl, by rw [h2, upd_y], fun x hx => ?_, ?_⟩
  · obtain ⟨cc, c1, c2, c3⟩ := hc x hx
    exact ⟨cc, c1, c2, by rw [e x hx]; exact c3⟩
  · rw [← hp]
    exact pk_ext l e
theorem RN_keep {s2 : RS} {st l : Nat} {cm : Int32} (h : RN t s m T ν) (g : NWr b s s2 T st l cm) (h21 : s2.1 21 = nI T) (h19 : ∀ k, k < T → s2.2.1 19 k = s.2.1 19 k) : RN t s2 m T ν := by
  obtain ⟨r1, r2, r3, r4, r5, r6⟩ := h
  refine ⟨r1, h21, r3, fun k hk => ?_, r5, r6⟩
  obtain ⟨k1, k2, k3, k4, k5⟩ := r4 k hk
  refine ⟨k1, k2, nm_keep g hk k3, by rw [h19 k hk]; exact k4, ?_⟩
  rw [g.2.2.1, upd_n _ _ (by omega)]
  exact k5
theorem RN_new {s2 : RS} {st l w : Nat} {cm v gg : Int32} (h : RN t s m T ν) (g : NWr b s s2 T st l cm) (h21 : s2.1 21 = nI (T + 1)) (h19 : ∀ k, k < T → s2.2.1 19 k = s.2.1 19 k) (h19T : s2.2.1 19 T = v) (hT : T < 200) (hl : l ≤ 7) (hc : chs b st l) (hp : pkB b st l = t.2.2.1 w) (hw53 : 53 ≤ w) (hw : w < m) (hg0 : t.2.1 4 0 2 w = 0) (hcm : (gg = 1 ∧ cm = 1) ∨ (gg = 2 ∧ cm = 0)) : RN (tlT t w v gg) s2 m (T + 1) (up1 ν T w) := by
  obtain ⟨r1, r2, r3, r4, r5, r6⟩ := id h
  have hno : ∀ j, j < T → ¬ ν j = w := by
    rcases told_ix h hw53 hw with ⟨-, y⟩ | ⟨y, -⟩
    · exact y
    · exact absurd hg0 y
  obtain ⟨-, -, f3, -, f5, f6, f7⟩ := tl_f (t := t) w v gg
  unfold RN
  rw [f5, f6, f7, if_pos hg0, show (tlT t w v gg).2.2.1 = t.2.2.1 by rw [f3]]
  refine ⟨by omega, h21, by rw [r3, nI_1], fun k hk => ?_, fun x y hx hy e => ?_, fun x hx1 hx2 hx3 => ?_⟩
  · by_cases e : k = T
    · subst e
      rw [up1_s, upd_y, upd_y, g.2.2.1, upd_y]
      exact ⟨hw53, hw, nm_new g hl hc hp, h19T, hcm⟩
    · obtain ⟨k1, k2, k3, k4, k5⟩ := r4 k (by omega)
      rw [up1_n _ _ e, upd_n _ _ (hno k (by omega)), upd_n _ _ (hno k (by omega)), g.2.2.1, upd_n _ _ e]
      exact ⟨k1, k2, nm_keep g (by omega) k3, by rw [h19 k (by omega)]; exact k4, k5⟩
  · by_cases ex : x = T
    · by_cases ey : y = T
      · omega
      · rw [ex, up1_s, up1_n _ _ ey] at e
        exact absurd e.symm (hno y (by omega))
    · by_cases ey : y = T
      · rw [ey, up1_s, up1_n _ _ ex] at e
        exact absurd e (hno x (by omega))
      · rw [up1_n _ _ ex, up1_n _ _ ey] at e
        exact r5 x y (by omega) (by omega) e
  · have hxw : ¬ x = w := fun e => hx3 T (by omega) (by rw [up1_s]; exact e.symm)
    rw [upd_n _ _ hxw, upd_n _ _ hxw]
    exact r6 x hx1 hx2 (fun k hk e => hx3 k (by omega) (by rw [up1_n _ _ (by omega)]; exact e))
theorem RN_old {w j : Nat} {v : Int32} (h : RN t s m T ν) (hj : j < T) (ej : ν j = w) (hg : t.2.1 4 0 2 w = 2) : RN (tlT t w v 2) (pA s 19 j v) m T ν := by
  obtain ⟨r1, r2, r3, r4, r5, r6⟩ := id h
  obtain ⟨-, -, f3, -, f5, f6, f7⟩ := tl_f (t := t) w v 2
  unfold RN
  rw [f5, f6, f7, if_neg (by rw [hg]; decide), show (tlT t w v 2).2.2.1 = t.2.2.1 by rw [f3]]
  have u2 : upd (t.2.1 4 0 2) w 2 = t.2.1 4 0 2 := by
    funext x
    by_cases e : x = w
    · rw [e, upd_y, hg]
    · rw [upd_n _ _ e]
  rw [u2]
  refine ⟨r1, r2, r3, fun k hk => ?_, r5, fun x hx1 hx2 hx3 => ?_⟩
  · obtain ⟨k1, k2, k3, k4, k5⟩ := r4 k hk
    refine ⟨k1, k2, k3, ?_, k5⟩
    show upd (s.2.1 19) j v k = _
    by_cases e : k = j
    · subst e
      rw [upd_y, ej, upd_y]
    · rw [upd_n _ _ e, upd_n _ _ (fun q => e (r5 k j hk hj (q.trans ej.symm)))]
      exact k4
  · obtain ⟨y1, y2⟩ := r6 x hx1 hx2 hx3
    refine ⟨y1, ?_⟩
    rw [upd_n _ _ (fun q => hx3 j hj (ej.trans q.symm))]
    exact y2
/-- EX, with names told anew -/
theorem EX_tl {s2 : RS} {T2 : Nat} {ν2 : Nat → Nat} {w : Nat} {v gg : Int32} (h : EX b n P c m T ν t s) (hw53 : 53 ≤ w) (hv : W12 v) (hr : RN (tlT t w v gg) s2 m T2 ν2) (e1 : s2.1 3 = s.1 3 ∧ s2.1 10 = s.1 10 ∧ s2.1 11 = s.1 11 ∧ s2.1 9 = s.1 9) (e2 : s2.2.1 2 = s.2.1 2) : EX b n P c m T2 ν2 (tlT t w v gg) s2 := by
  obtain ⟨q1, q2, q3, q4, q5, ⟨q6, q6'⟩, q7, q8, q9, q10⟩ := h
  obtain ⟨f1, f2, f3, f4, f5, f6, f7⟩ := tl_f (t := t) w v gg
  have f3' : (tlT t w v gg).2.2.1 = t.2.2.1 := by rw [f3]
  have hCA := (GA_tl ⟨q10, AF_refl t⟩ hw53 hv gg).1
  refine ⟨q1, q2, ?_, ?_, hr, ⟨e1.1.trans q6, by rw [e2]; exact q6'⟩, ?_, ?_, ?_, hCA⟩
  · unfold TB TT at *
    rw [f1 9 (by decide), f2 9 (by decide), f2 11 (by decide), f3']
    exact q3
  · obtain ⟨n1, n2, n3, n4, n5⟩ := q4
    refine ⟨f4.trans n1, n2, n3, by rw [f3']; exact n4, ?_⟩
    obtain ⟨-, ⟨_, _, _, _, hfx⟩, -⟩ := hCA
    exact hfx
  · rw [f1 0 (by decide), e1.2.1]; exact q7
  · rw [f1 0 (by decide), e1.2.2.1]; exact q8
  · rw [f1 0 (by decide), e1.2.2.2]; exact q9
theorem LA_tl {a w : Nat} {v gg : Int32} (h : LA b n P c m t s a) : LA b n P c m (tlT t w v gg) s a := by
  obtain ⟨f1, f2, f3, -⟩ := tl_f (t := t) w v gg
  unfold LA at *
  rw [f1 0 (by decide), f2 9 (by decide), show (tlT t w v gg).2.2.1 = t.2.2.1 by rw [f3]]
  exact h
theorem JS_tl {s2 : RS} {T2 : Nat} {ν2 : Nat → Nat} {w : Nat} {v gg : Int32} (h : JS b n P c m T ν i t s) (hE : EX b n P c m T2 ν2 (tlT t w v gg) s2) (h29 : s2.1 29 = 0) (h28 : s2.1 28 = 0) (hf : FZ s2) (e : s2.2.1 22 = s.2.1 22 ∧ s2.2.1 23 = s.2.1 23 ∧ s2.2.1 24 = s.2.1 24 ∧ s2.2.1 26 = s.2.1 26) : JS b n P c m T2 ν2 i (tlT t w v gg) s2 := by
  obtain ⟨-, h2, h3, h4, h5, -, -, h8, -, h10, h11, h12⟩ := h
  obtain ⟨f1, f2, f3, -⟩ := tl_f (t := t) w v gg
  refine ⟨hE, h2, ?_, ?_, ?_, h29, h28, ?_, hf, ?_, ?_, ?_⟩
  · rw [f3]; exact h3
  · rw [f1 7 (by decide), f2 7 (by decide)]; exact h4
  · rw [f1 0 (by decide)]; exact h5
  · rw [f1 0 (by decide)]; exact h8
  · rw [f1 0 (by decide)]; exact h10
  · rw [f1 0 (by decide)]; exact h11
  · rw [f2 7 (by decide)]; exact RSh_s h12 e
theorem JS_9 (h : JS b n P c m T ν i t s) (x : Int32) : JS b n P c m T ν i (qI t 0 0 9 x) s := by
  obtain ⟨⟨q1, q2, q3, q4, q5, q6, q7, q8, q9, q10⟩, h2⟩ := h
  exact ⟨⟨q1, q2, q3, q4, q5, q6, q7, q8, q9, CA_9 q10 x⟩, h2⟩
theorem JS_SL {s2 : RS} (h : JS b n P c m T ν i t s) (g : SL s s2) (hf : FZ s2) : JS b n P c m T ν i t s2 := by
  obtain ⟨hE, h2, h3, h4, h5, h6, h7, h8, -, h10, h11, h12⟩ := h
  exact ⟨EX_SL hE g, h2, h3, h4, h5, (g.1 29 (by decide)).trans h6, (g.1 28 (by decide)).trans h7, h8, hf, h10, h11, RSh_s h12 ⟨by rw [g.2], by rw [g.2], by rw [g.2], by rw [g.2]⟩⟩
/-- the class and the reference ask the same of a name that is to be told -/
theorem mt_rt (h : EX b n P c m T ν t s) {a w : Nat} (h9 : t.1 0 0 9 = nI a) (hv : vA t (nI a) = nI w) (hw : w < m) {x cm : Int32} (hx : (x = 1 ∧ cm = 1) ∨ (x = 2 ∧ cm = 0)) : mtOK t x ↔ rtOK t T w cm := by
  obtain ⟨g1, -⟩ := gA_n h hw
  obtain ⟨-, -, -, ⟨-, -, -, -, hfx⟩, hRN, -⟩ := h
  obtain ⟨r1, -, r3, -⟩ := id hRN
  unfold mtOK rtOK
  rw [h9, hv, g1, r3]
  have h200 : nI T < 200 ↔ T < 200 := ltL (k := 200) (c := 200) rfl (by omega) (by decide)
  rw [h200]
  by_cases c53 : w < 53
  · rw [(hfx w c53).2.2]
    exact ⟨fun z => absurd rfl z.1, fun z => by omega⟩
  · rcases told_ix hRN (by omega) hw with ⟨k, -⟩ | ⟨-, -, -, -, -, ⟨k, -⟩ | ⟨k, -⟩⟩
    · rw [k]
      exact ⟨fun z => ⟨by omega, Or.inl ⟨rfl, z.2.2.2 rfl⟩⟩, fun z => ⟨by decide, by decide, fun y => absurd y.1 (by decide), fun _ => by
        rcases z.2 with y | y
        · exact y.2
        · exact absurd y.1 (by decide)⟩⟩
    · rw [k]
      exact ⟨fun z => absurd rfl z.2.1, fun z => by
        rcases z.2 with y | y
        · exact absurd y.1 (by decide)
        · exact absurd y.1 (by decide)⟩
    · rw [k]
      rcases hx with ⟨rfl, rfl⟩ | ⟨rfl, rfl⟩
      · exact ⟨fun z => absurd ⟨rfl, rfl⟩ z.2.2.1, fun z => by
          rcases z.2 with y | y
          · exact absurd y.1 (by decide)
          · exact absurd y.2 (by decide)⟩
      · exact ⟨fun _ => ⟨by omega, Or.inr ⟨rfl, rfl⟩⟩, fun _ => ⟨by decide, by decide, fun y => absurd y.2 (by decide), fun y => absurd y (by decide)⟩⟩
/-- an equation -/
theorem j_equation (hN : 5000 < N) (h : JS b n P c m T ν i t s) {a : Nat} (hl : LA b n P c m t s a) (h4 : t.1 0 0 4 = 0) (h5 : s.1 5 = 0) (h9 : t.1 0 0 9 = nI a) (hk : kA t (nI a) = 1) (hk2 : kA t (nI (a + 1)) = 61) (h2p : t.1 0 0 6 = 0 ∨ gA t (vA t (nI a)) = 2) : ∃ t2 s2, u_X0_passEquation U S N t = some ((), t2) ∧ ((g_take U S N s).bind fun q13 => (g_tells U S N (s.1 13) (s.1 15) (-1) 0 q13.2).bind fun q16 => if (q16.2.1 5) ≤ 0 then (if (q16.2.1 21) ≤ (q13.2.1 21) then g_one_120 U S N (s.1 13) (s.1 15) 0 q16.2 else g_one_120 U S N (s.1 13) (s.1 15) 1 q16.2) else some ((), q16.2)) = some ((), s2) ∧ OUT b n P c m i s t2 s2 := by
  obtain ⟨hE, h2, h3, h4', hpl, h29, h28, h7, hf, hd8, hd6, hsh⟩ := id h
  obtain ⟨hn, -, ⟨-, -, ec, -, hc, -⟩, ⟨em, hm53, hm, hinj, hfx⟩, hRN, ⟨-, hb⟩, -, -, hs9, hCA⟩ := id hE
  obtain ⟨r1, r2, -⟩ := id hRN
  obtain ⟨e1, e2, -, -⟩ := LA_k hE hl
  have hK : t.2.1 9 0 1 a = 1 := by rw [← e1]; exact hk
  obtain ⟨e12, st, z, w, w1, w2, w3, w4, w5, w6, w7, w8, w9, w10⟩ := LA_n hE hl (Or.inl hK)
  have hvw : vA t (nI a) = nI w := by
    rcases w10 with ⟨-, y, -⟩ | ⟨y, -⟩
    · rw [e2]; exact y
    · exact absurd hK y
  obtain ⟨g1, -⟩ := gA_n hE w8
  rw [hvw, g1] at h2p
  obtain ⟨ha1, -⟩ := tk_nx hE hl.1 (fk_t (Or.inl hK))
  obtain ⟨c1, c2⟩ := c_equation (U := U) (S := S) hN hCA ec hc h4 h9 ha1 em hm w8 hvw
  have hmr := mt_rt hE h9 hvw w8 (Or.inr ⟨rfl, rfl⟩)
  obtain ⟨s1, v1, tk, -⟩ := take4 (U := U) (S := S) hN hE hf hl (Or.inl hK)
  obtain ⟨t1, -, t3, -, t5⟩ := id tk
  obtain ⟨u2, u3⟩ : s1.1 5 = 0 ∧ LA b n P c m t s1 (a + 1) := by
    rcases t5 h5 with ⟨u1, -⟩ | ⟨-, u2, u3⟩
    · rw [hk2] at u1; exact absurd u1 (by decide)
    · exact ⟨u2, u3⟩
  have hE1 := EX_SL hE t1
  have hJ1 := JS_SL h t1 t3
  obtain ⟨f1, -, -, -⟩ := LA_k hE1 u3
  have hs61 : sgn (t.2.1 9 0 1 (a + 1)) ∧ ¬ t.2.1 9 0 1 (a + 1) = 36 := by
    rw [← f1, hk2]
    exact ⟨sgn_y 61 (by decide), by decide⟩
  have hz1 := w4.1
  rw [v1, Option.bind_some, w1, w2]
  dsimp only
  -- behind the sign: a name that was told before, or that is new
  have tail_old : ∀ j, j < T → ν j = w → t.2.1 4 0 2 w = 2 → mtOK t 2 → ∃ t2 s2, u_X0_passEquation U S N t = some ((), t2) ∧ g_one_137 U S N (nI st) (nI (z - st)) 0 s1 = some ((), s2) ∧ OUT b n P c m i s t2 s2 := by
    intro j hj ej hg2 hok
    obtain ⟨sa, y, sb, x1, x2, -, x4, x5, x6, x7⟩ := ta_eq (U := U) (S := S) hN hE1 t3 u2 ((t1.1 29 (by decide)).trans h29) hpl u3 (Or.inr (Or.inr (Or.inr hs61)))
    unfold g_one_137 g_one_170
    rw [x1, Option.bind_some, x2, Option.bind_some]
    dsimp only
    have slb := SL_t t1 x4
    cases er : rv t 1 (a + 2) with
    | none =>
      obtain ⟨t2, q1, q2⟩ := c2 (Or.inr er)
      have hfb := x6 er
      rw [if_neg (fz_n x5 hfb)]
      exact ⟨t2, sb, q1, rfl, x5, SF_SL slb, Or.inl ⟨q2, hfb⟩⟩
    | some p =>
      obtain ⟨p1, p2⟩ := x7 p er
      obtain ⟨pw, -⟩ := rv_w hCA er
      have q1 := c1 hok p er
      obtain ⟨k1, k2⟩ | ⟨k1, k2, k3⟩ := p2
      · rw [if_neg (fz_n x5 k2)]
        refine ⟨_, sb, q1, rfl, x5, SF_SL slb, Or.inr (Or.inl ⟨?_, k2, ?_⟩)⟩
        · rw [(tl_f w p.1 2).1 0 (by decide)]; exact h4
        · rw [(tl_f w p.1 2).1 0 (by decide)]
          unfold kA
          rw [(tl_f w p.1 2).1 0 (by decide), (tl_f w p.1 2).1 9 (by decide), (tl_f w p.1 2).2.1 9 (by decide)]
          exact k1
      · rw [if_pos (fz_0 k2), if_pos rfl]
        have hEb := EX_SL hE slb
        rw [(fdT (U := U) (S := S) hN hEb w4 w6 w7 w8 w9).1 j hj ej, Option.bind_some]
        dsimp only
        rw [wA_y (by decide) (by omega), Option.bind_some, p1]
        have hJb := JS_9 (JS_SL h slb x5) (nI p.2)
        have hr : RN (tlT (qI t 0 0 9 (nI p.2)) w p.1 2) (pA sb 19 j p.1) m T ν := RN_old (t := qI t 0 0 9 (nI p.2)) hJb.1.2.2.2.2.1 hj ej hg2
        have hEn := EX_tl (s2 := pA sb 19 j p.1) hJb.1 (by
          by_cases c53 : w < 53
          · rw [(hfx w c53).2.2] at hg2; exact absurd hg2 (by decide)
          · omega) pw hr ⟨rfl, rfl, rfl, rfl⟩ rfl
        refine ⟨_, _, q1, rfl, x5, SF_A (SF_SL slb) (by decide) _ _, Or.inr (Or.inr ⟨?_, k2, p.2, T, ν, ?_, JS_tl hJb hEn ((slb.1 29 (by decide)).trans h29) ((slb.1 28 (by decide)).trans h28) x5 ⟨rfl, rfl, rfl, rfl⟩, ?_⟩)⟩
        · rw [(tl_f w p.1 2).1 0 (by decide)]; exact h4
        · rw [(tl_f w p.1 2).1 0 (by decide)]; rfl
        · exact LA_tl (t := qI t 0 0 9 (nI p.2)) (LA_SL (s2 := pA sb 19 j p.1) k3 rfl rfl rfl rfl rfl)
  by_cases c6 : t.1 0 0 6 = 0
  · have h91 : s1.1 9 = 0 := by rw [t1.1 9 (by decide), hs9]; exact c6
    obtain ⟨q1, q2, q3⟩ := tells1 (U := U) (S := S) (v := -1) hN hE1 t3 u2 h91 w4 w6 w7 w8 w9 (Or.inl rfl : (0 : Int32) = 0 ∨ (0 : Int32) = 1)
    by_cases ok : rtOK t T w 0
    · by_cases g0 : t.2.1 4 0 2 w = 0
      · -- a new name
        obtain ⟨s2, y1, y2, y3, y4⟩ := q1 ok g0
        have hT : T < 200 := by
          rcases ok.2 with k | k
          · exact k.2
          · rw [g0] at k; exact absurd k.1 (by decide)
        have h21 : s1.1 21 = nI T := (t1.1 21 (by decide)).trans r2
        rw [y1, Option.bind_some]
        dsimp only
        rw [y3, h21]
        have f5 : up1 s1.1 21 (nI (T + 1)) 5 = 0 := u2
        rw [f5, up1_s, if_pos (by decide), if_neg (fun q => by have := (leI (by omega) (by omega)).mp q; omega)]
        unfold g_one_120
        rw [if_neg (show ¬ (1 : Int32) = 0 by decide), Option.bind_some, y3, up1_s, show nI (T + 1) - 1 = nI T from by rw [nI_m1 (by omega)]; rfl]
        -- the state with the name prepared, not yet told
        have hs3 : (pI s2 21 (nI T)).1 = s1.1 := by
          show up1 s2.1 21 (nI T) = s1.1
          rw [y3, up1_u]
          funext j
          by_cases e : j = 21
          · rw [e, up1_s, h21]
          · rw [up1_n _ _ e]
        have y4' : s2.2.1 19 = s1.2.1 19 := by rw [y4, if_pos rfl]
        have yk : ∀ k, k ≠ 17 → k ≠ 18 → k ≠ 20 → s2.2.1 k = s1.2.1 k := by
          intro k k1 k2 k3
          by_cases e : k = 19
          · rw [e]; exact y4'
          · exact y2.2.2.2.1 k k1 k2 e k3
        generalize hs3e : pI s2 21 (nI T) = s3 at *
        have r3 : s3.2 = s2.2 := by rw [← hs3e]; rfl
        have nw : NWr b s1 s3 T st (z - st) 0 := by
          unfold NWr at *
          rw [r3]
          exact y2
        have hRN3 : RN t s3 m T ν := RN_keep hE1.2.2.2.2.1 nw (by rw [hs3]; exact h21) (fun k _ => by rw [r3, y4'])
        have hE3 : EX b n P c m T ν t s3 := by
          obtain ⟨a1, a2, a3, a4, -, a6, a7, a8, a9, a10⟩ := hE1
          exact ⟨a1, a2, a3, a4, hRN3, ⟨by rw [hs3]; exact a6.1, by rw [r3, yk 2 (by decide) (by decide) (by decide)]; exact a6.2⟩, by rw [hs3]; exact a7, by rw [hs3]; exact a8, by rw [hs3]; exact a9, a10⟩
        have hl3 : LA b n P c m t s3 (a + 1) := LA_SL u3 (by rw [hs3]) (by rw [hs3]) (by rw [hs3]) (by rw [hs3]) (by rw [hs3])
        have hf3 : FZ s3 := by unfold FZ; rw [hs3]; exact t3
        have sf3 : SF s s3 := by
          refine SF_t (SF_SL t1) ⟨fun k _ => by rw [hs3], fun k hk => ?_, ?_⟩
          · rw [r3]; exact yk k (by omega) (by omega) (by omega)
          · rw [r3]; exact y2.2.2.2.2
        obtain ⟨sa, y, sb, x1, x2, -, x4, x5, x6, x7⟩ := ta_eq (U := U) (S := S) hN hE3 hf3 (by rw [hs3]; exact u2) (by rw [hs3]; exact (t1.1 29 (by decide)).trans h29) hpl hl3 (Or.inr (Or.inr (Or.inr hs61)))
        unfold g_one_137 g_one_170
        rw [x1, Option.bind_some, x2, Option.bind_some]
        dsimp only
        have sfb := SF_t sf3 (SF_SL x4)
        cases er : rv t 1 (a + 2) with
        | none =>
          obtain ⟨t2, q1, q2⟩ := c2 (Or.inr er)
          have hfb := x6 er
          rw [if_neg (fz_n x5 hfb)]
          exact ⟨t2, sb, q1, rfl, x5, sfb, Or.inl ⟨q2, hfb⟩⟩
        | some p =>
          obtain ⟨p1, p2⟩ := x7 p er
          obtain ⟨pw, -⟩ := rv_w hCA er
          have q1 := c1 (hmr.mpr ok) p er
          obtain ⟨k1, k2⟩ | ⟨k1, k2, k3⟩ := p2
          · rw [if_neg (fz_n x5 k2)]
            refine ⟨_, sb, q1, rfl, x5, sfb, Or.inr (Or.inl ⟨?_, k2, ?_⟩)⟩
            · rw [(tl_f w p.1 2).1 0 (by decide)]; exact h4
            · rw [(tl_f w p.1 2).1 0 (by decide)]
              unfold kA
              rw [(tl_f w p.1 2).1 0 (by decide), (tl_f w p.1 2).1 9 (by decide), (tl_f w p.1 2).2.1 9 (by decide)]
              exact k1
          · have h21b : sb.1 21 = nI T := by rw [x4.1 21 (by decide), hs3]; exact h21
            rw [if_pos (fz_0 k2), if_neg (show ¬ (1 : Int32) = 0 by decide), Option.bind_some, h21b, nI_1]
            have rb : sb.2 = s3.2 := x4.2
            have nwb : NWr b s1 (pA (pI sb 21 (nI (T + 1))) 19 T p.1) T st (z - st) 0 := by
              obtain ⟨n1, n2, n3, n4, n5⟩ := nw
              refine ⟨?_, ?_, ?_, fun k k1 k2 k3 k4 => ?_, ?_⟩
              · show sb.2.1 17 = _; rw [rb]; exact n1
              · show sb.2.1 18 = _; rw [rb]; exact n2
              · show sb.2.1 20 = _; rw [rb]; exact n3
              · show up1 sb.2.1 19 _ k = _
                rw [up1_n _ _ k3, rb]; exact n4 k k1 k2 k3 k4
              · show sb.2.2 = _; rw [rb]; exact n5
            have e19 : ∀ k, k < T → (pA (pI sb 21 (nI (T + 1))) 19 T p.1).2.1 19 k = s1.2.1 19 k := by
              intro k hk
              show upd (sb.2.1 19) T p.1 k = _
              rw [upd_n _ _ (by omega), rb, r3, y4']
            have hRNf : RN (tlT t w p.1 2) (pA (pI sb 21 (nI (T + 1))) 19 T p.1) m (T + 1) (up1 ν T w) := RN_new hE1.2.2.2.2.1 nwb rfl e19 (upd_y _ _ _) hT w7 (nm_chs w4) w9 ok.1 w8 g0 (Or.inr ⟨rfl, rfl⟩)
            -- the new name is found at its end
            have eft : g_findTold U S N (nI st) (nI (z - st)) (pI sb 21 (nI (T + 1))) = some (nI T, pI sb 21 (nI (T + 1))) := by
              obtain ⟨-, -, -, f4, f5, -⟩ := hRNf
              have f3' : (tlT t w p.1 2).2.2.1 = t.2.2.1 := by rw [(tl_f (t := t) w p.1 2).2.2.1]
              refine (ft_eq (U := U) (S := S) (s := pI sb 21 (nI (T + 1))) (b := b) (ν := up1 ν T w) (m := m) hN hn ?_ (by omega) rfl (L := t.2.2.1) (fun k hk => ?_) hinj f5 w7 (by omega) (nm_chs w4) w8 w9).1 T (by omega) (up1_s _ _ _)
              · show ∀ i, i < n → sb.2.1 2 i = b i
                rw [rb, r3, yk 2 (by decide) (by decide) (by decide), t1.2]
                exact hb
              · obtain ⟨-, b2, b3, -⟩ := f4 k hk
                rw [f3'] at b3
                exact ⟨b2, b3⟩
            rw [eft, Option.bind_some]
            dsimp only
            rw [wA_y (by decide) hT, Option.bind_some, p1]
            have hJ9 := JS_9 h (nI p.2)
            have hRNg : RN (tlT (qI t 0 0 9 (nI p.2)) w p.1 2) (pA (pI sb 21 (nI (T + 1))) 19 T p.1) m (T + 1) (up1 ν T w) := RN_new (t := qI t 0 0 9 (nI p.2)) hE1.2.2.2.2.1 nwb rfl e19 (upd_y _ _ _) hT w7 (nm_chs w4) w9 ok.1 w8 g0 (Or.inr ⟨rfl, rfl⟩)
            have hEn : EX b n P c m (T + 1) (up1 ν T w) (tlT (qI t 0 0 9 (nI p.2)) w p.1 2) (pA (pI sb 21 (nI (T + 1))) 19 T p.1) := by
              refine EX_tl (s := s) hJ9.1 ok.1 pw hRNg ⟨?_, ?_, ?_, ?_⟩ ?_
              · show sb.1 3 = _; rw [x4.1 3 (by decide), hs3, t1.1 3 (by decide)]
              · show sb.1 10 = _; rw [x4.1 10 (by decide), hs3, t1.1 10 (by decide)]
              · show sb.1 11 = _; rw [x4.1 11 (by decide), hs3, t1.1 11 (by decide)]
              · show sb.1 9 = _; rw [x4.1 9 (by decide), hs3, t1.1 9 (by decide)]
              · show sb.2.1 2 = _; rw [rb, r3, yk 2 (by decide) (by decide) (by decide), t1.2]
            refine ⟨_, _, q1, rfl, x5, SF_A (SF_I sfb (by decide) _) (by decide) _ _, Or.inr (Or.inr ⟨?_, k2, p.2, T + 1, up1 ν T w, ?_, JS_tl hJ9 hEn ?_ ?_ x5 ⟨?_, ?_, ?_, ?_⟩, ?_⟩)⟩
            · rw [(tl_f w p.1 2).1 0 (by decide)]; exact h4
            · rw [(tl_f w p.1 2).1 0 (by decide)]; rfl
            · show sb.1 29 = 0; rw [x4.1 29 (by decide), hs3, t1.1 29 (by decide)]; exact h29
            · show sb.1 28 = 0; rw [x4.1 28 (by decide), hs3, t1.1 28 (by decide)]; exact h28
            · show sb.2.1 22 = _; rw [rb, r3, yk 22 (by decide) (by decide) (by decide), t1.2]
            · show sb.2.1 23 = _; rw [rb, r3, yk 23 (by decide) (by decide) (by decide), t1.2]
            · show sb.2.1 24 = _; rw [rb, r3, yk 24 (by decide) (by decide) (by decide), t1.2]
            · show sb.2.1 26 = _; rw [rb, r3, yk 26 (by decide) (by decide) (by decide), t1.2]
            · exact LA_tl (t := qI t 0 0 9 (nI p.2)) (LA_SL (s2 := pA (pI sb 21 (nI (T + 1))) 19 T p.1) k3 rfl rfl rfl rfl rfl)
      · rw [q2 ok g0 rfl, Option.bind_some]
        dsimp only
        have hg2 : t.2.1 4 0 2 w = 2 := by
          rcases ok.2 with k | k
          · exact absurd k.1 g0
          · exact k.1
        rw [if_pos (fz_0 u2), if_pos (Int32.le_refl _)]
        unfold g_one_120
        rw [if_pos (show (0 : Int32) = 0 from rfl)]
        rcases told_ix hRN ok.1 w8 with ⟨k, -⟩ | ⟨-, j, hj, ej, -⟩
        · exact absurd k g0
        · exact tail_old j hj ej hg2 (hmr.mpr ok)
    · obtain ⟨s2, y1, y2, y3, y4⟩ := q3 ok
      obtain ⟨t2, z1, z2⟩ := c2 (Or.inl (fun k => ok (hmr.mp k)))
      rw [y1, Option.bind_some]
      dsimp only
      rw [if_neg (fz_n y3 y4)]
      exact ⟨t2, s2, z1, rfl, y3, SF_SL (SL_t t1 y2), Or.inl ⟨z2, y4⟩⟩
  · -- the second pass
    have hg2 := h2p.resolve_left c6
    have hw53 : 53 ≤ w := by
      by_cases c53 : w < 53
      · rw [(hfx w c53).2.2] at hg2; exact absurd hg2 (by decide)
      · omega
    have h91 : ¬ s1.1 9 = 0 := by rw [t1.1 9 (by decide), hs9]; exact c6
    obtain ⟨j, hj, ej, y1⟩ := tells2 (U := U) (S := S) (v := -1) (cm := 0) hN hE1 t3 u2 h91 w4 w6 w7 w8 w9 hw53 (by rw [hg2]; decide)
    rw [y1, if_pos (show (-1 : Int32) = -1 from rfl), Option.bind_some]
    dsimp only
    rw [if_pos (fz_0 u2), if_pos (Int32.le_refl _)]
    unfold g_one_120
    rw [if_pos (show (0 : Int32) = 0 from rfl)]
    exact tail_old j hj ej hg2 (hmr.mpr ⟨hw53, Or.inr ⟨hg2, rfl⟩⟩)
end
