/-! LAYER 3, a statement of the class that leaves no fault -/
def ST37 (t : CS) (N p a : Nat) (D : Int32) (t2 : CS) : Prop :=
  if D = 4 then (∃ y w, vA t (nI a) = nI (y + 1) ∧ oA t (nI a) = nI w ∧ y < 2000 ∧ w < 2000 ∧ t2.1 0 0 9 = nI (a + 1) ∧ t2.1 0 0 10 = nI (p + ((w - (y + 1)) / 2 + 1)) ∧ SN t t2)
  else if D = 5 then False
  else if D = 36 then t2 = qI t 0 0 7 1
  else if D = 42 then ∃ r, rv t 1 (a + 1) = some r ∧ t2 = qI (qI t 0 0 9 (nI r.2)) 0 0 10 r.1
  else if D = 256 then ∃ w r, w < 1054 ∧ vA t (nI a) = nI w ∧ mtOK t 2 ∧ rv t 1 (a + 2) = some r ∧ t2 = tlT (qI t 0 0 9 (nI r.2)) w r.1 2
  else if D = 257 then (t2.1 0 0 9 = nI (rE t N (a + 1)) ∧ t2.1 0 0 10 = nI (p + 1) ∧ SN t t2)
  else if D = 300 then ((bV t (nI (a + 1)) = 0 ∧ t2 = qI (qI t 0 0 9 (nI (a + 1))) 0 0 10 (nI ((p + 127) / 128 * 128))) ∨ (¬ bV t (nI (a + 1)) = 0 ∧ ∃ r, rv t 1 (a + 1) = some r ∧ t2 = qI (qI t 0 0 9 (nI r.2)) 0 0 10 (r.1 * 128)))
  else if D = 301 then t2 = qI (qI t 0 0 8 1) 0 0 9 (nI (a + 1))
  else if D = 302 then t2 = qI (qI t 0 0 8 0) 0 0 9 (nI (a + 1))
  else if D = 303 then ∃ k r2, rv t 1 (a + 1) = some (nI k, r2) ∧ k < 4096 ∧ t2.1 0 0 9 = nI r2 ∧ t2.1 0 0 10 = nI (p + k) ∧ SN t t2
  else (t2.1 0 0 9 = nI (wE t N a) ∧ t2.1 0 0 10 = nI (p + 1) ∧ SN t t2)
/-- which statement -/
def dK (t : CS) (a : Nat) : Int32 := if kA t (nI a) = 1 then kNm t (nI a) else kA t (nI a)
section
variable {U S N n c m T i p a : Nat} {t t2 : CS} {q : Int32}
theorem SN_lyS (t0 : CS) (i p : Nat) (w : Nat → Int32) (k : Nat) : SN t0 (lyS t0 i p w k) := SN_SR (SR_lyS t0 i p w k)
theorem SN_10 (t : CS) (x : Int32) : SN t (qI t 0 0 10 x) := ⟨rfl, rfl, rfl, rfl, rfl, rfl, rfl, rfl⟩
theorem st_37 (hN : 5000 < N) (h : CA t) (ec : t.1 9 0 5 = nI c) (hc : c ≤ 2001) (h4 : t.1 0 0 4 = 0) (h9 : t.1 0 0 9 = nI a) (ha : a < c) (hi : t.2.2.2.1 0 0 3 = some i) (hi2 : i < 2) (hp : p ≤ 4096) (h10 : t.1 0 0 10 = nI p) (em : t.1 4 0 3 = nI m) (hm : m ≤ 1054) (eL : t.1 9 0 7 = nI n) (hn : n ≤ 2000) (hT : kA t (nI a) = 4 → ∃ y w, vA t (nI a) = nI (y + 1) ∧ oA t (nI a) = nI w ∧ y + 1 ≤ w ∧ w < n) (hV : kA t (nI a) = 1 → ∃ w, w < m ∧ vA t (nI a) = nI w) (h256 : dK t a = 256 → kA t (nI a) = 1 ∧ a + 1 < c) (h4k : dK t a = 4 → kA t (nI a) = 4) (e : u_X0_passStatement_37 U S N (dK t a) t = some ((), t2)) (hf : t2.1 0 0 4 = 0) : ST37 t N p a (dK t a) t2 ∧ ∃ a2 p2, t2.1 0 0 9 = nI a2 ∧ a ≤ a2 ∧ a2 ≤ c ∧ t2.1 0 0 10 = nI p2 ∧ p2 ≤ 4096 := by
  unfold u_X0_passStatement_37 u_X0_passStatement_210 at e
  simp only [ub] at e
  unfold ST37
  generalize hD : dK t a = D at *
  by_cases d4 : D = 4
  · rw [if_pos d4] at e
    rw [if_pos d4]
    obtain ⟨y, w, v1, v2, v3, v4⟩ := hT (h4k d4)
    obtain ⟨x1, x2⟩ := c_ttext (U := U) (S := S) (b := t.2.1 11 0 0) hN h ec hc eL hn rfl h4 h9 ha hi hi2 hp h10 v1 v2 v3 v4
    by_cases ok : mlOK t i p ((w - (y + 1)) / 2 + 1)
    · have e2 := x1 ok
      have et := inj2 e e2
      have h1 : t2.1 0 0 9 = nI (a + 1) ∧ t2.1 0 0 10 = nI (p + ((w - (y + 1)) / 2 + 1)) ∧ SN t t2 := by
        rw [et]
        by_cases c6 : t.1 0 0 6 = 0
        · rw [if_pos c6]
          exact ⟨rfl, rfl, SN_t (SN_SR (SR_9 t _)) (SN_10 _ _)⟩
        · rw [if_neg c6]
          refine ⟨?_, rfl, SN_t (SN_t (SN_SR (SR_9 t _)) (SN_lyS _ i p _ _)) (SN_10 _ _)⟩
          show (lyS (qI t 0 0 9 (nI (a + 1))) i p (wdT (t.2.1 11 0 0) y w) ((w - (y + 1)) / 2 + 1)).1 0 0 9 = _
          rw [(lyS_f p _ _).1 0 (by decide)]
          rfl
      refine ⟨⟨y, w, v1, v2, by omega, by omega, h1.1, h1.2.1, h1.2.2⟩, a + 1, _, h1.1, by omega, by omega, h1.2.1, ok.1⟩
    · obtain ⟨t3, e3, hf3⟩ := x2 ok
      rw [← inj2 e e3] at hf3
      exact absurd hf hf3
  rw [if_neg d4] at e
  rw [if_neg d4]
  by_cases d5 : D = 5
  · rw [if_pos d5] at e
    obtain ⟨t3, e3, hf3⟩ := e_report (U := U) (S := S) (N := N) h (show ¬ (1 : Int32) = 0 by decide) (t.1 0 0 9)
    rw [← inj2 e e3] at hf3
    exact absurd hf hf3
  rw [if_neg d5] at e
  rw [if_neg d5]
  by_cases d36 : D = 36
  · rw [if_pos d36] at e
    rw [if_pos d36]
    unfold qZ at e
    rw [if_pos (Or.inr rfl), Option.bind_some] at e
    have et := (Prod.mk.inj (Option.some.inj e)).2
    rw [← et]
    exact ⟨rfl, a, p, h9, Nat.le_refl _, by omega, h10, hp⟩
  rw [if_neg d36] at e
  rw [if_neg d36]
  by_cases d42 : D = 42
  · rw [if_pos d42] at e
    rw [if_pos d42]
    obtain ⟨x1, x2⟩ := c_origin (U := U) (S := S) hN h ec hc h4 h9 ha
    cases er : rv t 1 (a + 1) with
    | none =>
      obtain ⟨t3, e3, hf3⟩ := x2 er
      rw [← inj2 e e3] at hf3
      exact absurd hf hf3
    | some r =>
      have et := inj2 e (x1 r er)
      obtain ⟨⟨k, hk, ek⟩, hr⟩ := rv_w h er
      refine ⟨⟨r, rfl, et⟩, r.2, k, by rw [et]; rfl, by omega, rv_c ec hc (by omega) er, by rw [et]; exact ek, by omega⟩
  rw [if_neg d42] at e
  rw [if_neg d42]
  by_cases d256 : D = 256
  · rw [if_pos d256] at e
    rw [if_pos d256]
    obtain ⟨k1, k2⟩ := h256 d256
    obtain ⟨w, hw, hv⟩ := hV k1
    obtain ⟨x1, x2⟩ := c_equation (U := U) (S := S) hN h ec hc h4 h9 k2 em hm hw hv
    by_cases ok : mtOK t 2
    · cases er : rv t 1 (a + 2) with
      | none =>
        obtain ⟨t3, e3, hf3⟩ := x2 (Or.inr er)
        rw [← inj2 e e3] at hf3
        exact absurd hf hf3
      | some r =>
        have et := inj2 e (x1 ok r er)
        obtain ⟨-, hr⟩ := rv_w h er
        obtain ⟨f1, -⟩ := tl_f (t := qI t 0 0 9 (nI r.2)) w r.1 2
        refine ⟨⟨w, r, by omega, hv, ok, rfl, et⟩, r.2, p, ?_, by omega, rv_c ec hc (by omega) er, ?_, hp⟩
        · rw [et, f1 0 (by decide)]; rfl
        · rw [et, f1 0 (by decide)]; exact h10
    · obtain ⟨t3, e3, hf3⟩ := x2 (Or.inl ok)
      rw [← inj2 e e3] at hf3
      exact absurd hf hf3
  rw [if_neg d256] at e
  rw [if_neg d256]
  by_cases d257 : D = 257
  · rw [if_pos d257] at e
    rw [if_pos d257]
    obtain ⟨y1, y2, y3, y4, y5, y6⟩ := rf_p (U := U) (S := S) hN h ec hc h4 h9 ha hi hi2 hp h10 e hf
    exact ⟨⟨y2, y3, y4⟩, _, _, y2, by omega, y6, y3, by omega⟩
  rw [if_neg d257] at e
  rw [if_neg d257]
  by_cases d300 : D = 300
  · rw [if_pos d300] at e
    rw [if_pos d300]
    obtain ⟨x1, x2⟩ := c_page (U := U) (S := S) hN h ec hc h4 h9 ha
    by_cases hb : bV t (nI (a + 1)) = 0
    · have e2 := x1 hb
      rw [h10, (pl_up hp).1] at e2
      have et := inj2 e e2
      exact ⟨Or.inl ⟨hb, et⟩, a + 1, _, by rw [et]; rfl, by omega, by omega, by rw [et]; rfl, by omega⟩
    · obtain ⟨x3, x4⟩ := x2 hb
      cases er : rv t 1 (a + 1) with
      | none =>
        obtain ⟨t3, e3, hf3⟩ := x4 (Or.inl er)
        rw [← inj2 e e3] at hf3
        exact absurd hf hf3
      | some r =>
        obtain ⟨⟨k, hk, ek⟩, hr⟩ := rv_w h er
        by_cases hlt : r.1 < 32
        · have et := inj2 e (x3 r er hlt)
          have hk32 : k < 32 := by rw [ek] at hlt; exact (ltL (k := 32) (c := 32) rfl (by omega) (by decide)).mp hlt
          refine ⟨Or.inr ⟨hb, r, rfl, et⟩, r.2, k * 128, by rw [et]; rfl, by omega, rv_c ec hc (by omega) er, ?_, by omega⟩
          rw [et, ← mul_nI, ← ek]
          rfl
        · obtain ⟨t3, e3, hf3⟩ := x4 (Or.inr ⟨r, er, hlt⟩)
          rw [← inj2 e e3] at hf3
          exact absurd hf hf3
  rw [if_neg d300] at e
  rw [if_neg d300]
  by_cases d301 : D = 301
  · rw [if_pos d301] at e
    rw [if_pos d301]
    have et := inj2 e (c_radix (U := U) (S := S) (N := N) h9 (Or.inr rfl))
    exact ⟨et, a + 1, p, by rw [et]; rfl, by omega, by omega, by rw [et]; exact h10, hp⟩
  rw [if_neg d301] at e
  rw [if_neg d301]
  by_cases d302 : D = 302
  · rw [if_pos d302] at e
    rw [if_pos d302]
    have et := inj2 e (c_radix (U := U) (S := S) (N := N) h9 (Or.inl rfl))
    exact ⟨et, a + 1, p, by rw [et]; rfl, by omega, by omega, by rw [et]; exact h10, hp⟩
  rw [if_neg d302] at e
  rw [if_neg d302]
  by_cases d303 : D = 303
  · rw [if_pos d303] at e
    rw [if_pos d303]
    obtain ⟨x1, x2⟩ := c_zeros (U := U) (S := S) hN h ec hc h4 h9 ha hi hi2 hp h10
    cases er : rv t 1 (a + 1) with
    | none =>
      obtain ⟨t3, e3, hf3⟩ := x2 (Or.inl er)
      rw [← inj2 e e3] at hf3
      exact absurd hf hf3
    | some r =>
      obtain ⟨⟨k, hk, ek⟩, hr⟩ := rv_w h er
      have er' : rv t 1 (a + 1) = some (nI k, r.2) := by rw [er, ← ek]
      by_cases ok : mlOK t i p k
      · have et := inj2 e (x1 k r.2 er' hk ok)
        have h1 : t2.1 0 0 9 = nI r.2 ∧ t2.1 0 0 10 = nI (p + k) ∧ SN t t2 := by
          rw [et]
          by_cases c6 : t.1 0 0 6 = 0
          · rw [if_pos c6]
            exact ⟨rfl, rfl, SN_t (SN_SR (SR_9 t _)) (SN_10 _ _)⟩
          · rw [if_neg c6]
            refine ⟨?_, rfl, SN_t (SN_t (SN_SR (SR_9 t _)) (SN_lyS _ i p _ _)) (SN_10 _ _)⟩
            show (lyS (qI t 0 0 9 (nI r.2)) i p (fun _ => 0) k).1 0 0 9 = _
            rw [(lyS_f p _ _).1 0 (by decide)]
            rfl
        refine ⟨⟨k, r.2, by rw [← ek], hk, h1.1, h1.2.1, h1.2.2⟩, r.2, _, h1.1, by omega, rv_c ec hc (by omega) er, h1.2.1, ok.1⟩
      · obtain ⟨t3, e3, hf3⟩ := x2 (Or.inr ⟨k, r.2, er', hk, ok⟩)
        rw [← inj2 e e3] at hf3
        exact absurd hf hf3
  rw [if_neg d303] at e
  rw [if_neg d303]
  obtain ⟨y1, y2, y3, y4, y5, y6⟩ := wd_p (U := U) (S := S) hN h ec hc h4 h9 ha hi hi2 hp h10 e hf
  exact ⟨⟨y2, y3, y4⟩, _, _, y2, by omega, y6, y3, by omega⟩
theorem st_p (h : CA t) (h4 : t.1 0 0 4 = 0) (h9 : t.1 0 0 9 = nI a) : u_X0_passStatement U S N t = if eN (kA t (nI a)) = 0 then u_X0_passStatement_37 U S N (dK t a) t else some ((), t) := by
  unfold u_X0_passStatement u_X0_passStatement_23 dK
  rw [e_kind h, Option.bind_some, h9]
  dsimp only
  rw [if_neg (not_not_intro h4), e_isEnd, Option.bind_some]
  dsimp only
  by_cases c1 : eN (kA t (nI a)) = 0
  · rw [if_pos c1, if_pos c1]
    by_cases c2 : kA t (nI a) = 1
    · rw [if_neg (not_not_intro c2), if_pos c2, e_kNm h, Option.bind_some, h9]
    · rw [if_pos c2, if_neg c2]
  · rw [if_neg c1, if_neg c1]
theorem st_f (h : CA t) (h4 : ¬ t.1 0 0 4 = 0) : u_X0_passStatement U S N t = some ((), t) := by
  unfold u_X0_passStatement u_X0_passStatement_23
  rw [e_kind h, Option.bind_some]
  dsimp only
  rw [if_pos h4]
theorem st_d (h : CA t) (h4 : t.1 0 0 4 = 0) (h6 : kA t (t.1 0 0 9) = 6) : ∃ t2, u_X0_passStatement U S N t = some ((), t2) ∧ ¬ t2.1 0 0 4 = 0 := by
  unfold u_X0_passStatement u_X0_passStatement_37 u_X0_passStatement_210
  rw [e_kind h, Option.bind_some, h6]
  dsimp only
  rw [if_neg (not_not_intro h4), e_isEnd, Option.bind_some]
  dsimp only
  rw [if_pos (show eN 6 = 0 from rfl), if_pos (show ¬ (6 : Int32) = 1 by decide), if_neg (by decide), if_neg (by decide), if_neg (by decide), if_neg (by decide), if_neg (by decide), if_neg (by decide), if_neg (by decide), if_neg (by decide), if_neg (by decide), if_neg (by decide), ub]
  unfold u_X0_passWord
  rw [e_begP h, Option.bind_some]
  dsimp only
  rw [if_neg (not_not_intro (bP_6 h6)), e_kind h, Option.bind_some, ub]
  exact c_refuse h _
theorem en_d (h : CA t) (h4 : t.1 0 0 4 = 0) (h7 : t.1 0 0 7 = 0) (h6 : kA t (t.1 0 0 9) = 6) : ∃ t2, u_X0_passEnd U S N t = some ((), t2) ∧ ¬ t2.1 0 0 4 = 0 := by
  unfold u_X0_passEnd u_X0_passEnd_61
  rw [if_neg (not_not_intro h4), if_pos h7, e_kind h, Option.bind_some]
  dsimp only
  rw [e_isEnd, Option.bind_some, h6]
  dsimp only
  rw [if_neg (not_not_intro (show eN 6 = 0 from rfl)), ub]
  exact c_refuse h _
end
