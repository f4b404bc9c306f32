/-! LAYER 3, a statement, side by side -/
/-- behind a statement: as OUT says, or the sign that ends all -/
def OUS (b : Nat → Int32) (n : Nat) (P : Nat → Nat) (c m i a : Nat) (t : CS) (s : RS) (t2 : CS) (s2 : RS) : Prop := OUT b n P c m i s t2 s2 ∨ (kA t (nI a) = 36 ∧ t2 = qI t 0 0 7 1 ∧ s2 = pI s 28 1)
section
variable {U S N n c m T i p a : Nat} {b : Nat → Int32} {P ν : Nat → Nat} {t : CS} {s : RS}
theorem nRF_kNm (hk : kA t (nI a) = 1) (hv : ¬ vA t (nI a) < 5) (h61 : ¬ kA t (nI (a + 1)) = 61) : (nRF t a → kNm t (nI a) = 1) ∧ (¬ nRF t a → kNm t (nI a) = 257) := by
  have hs : sN (vA t (nI a)) = 0 := by
    apply Decidable.byContradiction
    intro z
    obtain ⟨k, hk5, e⟩ := sN_v z
    rw [e] at hv
    exact hv ((ltL (k := 5) (c := 5) rfl (by omega) (by decide)).mpr hk5)
  unfold kNm nRF
  rw [nI_1, if_pos h61, if_pos hs]
  by_cases c1 : kA t (nI (a + 1)) = 45
  · rw [if_pos c1]
    exact ⟨fun _ => rfl, fun z => absurd (fun y => y.2.2.2.1 c1) z⟩
  · rw [if_neg c1]
    by_cases c2 : bP t (nI (a + 1)) = 0
    · rw [if_pos c2]
      exact ⟨fun _ => rfl, fun z => absurd (fun y => y.2.2.2.2 c2) z⟩
    · rw [if_neg c2, if_neg hv]
      by_cases c3 : 10 < vA t (nI a)
      · rw [if_pos c3]
        exact ⟨fun _ => rfl, fun z => absurd (fun y => y.2.2.1 c3) z⟩
      · rw [if_neg c3]
        exact ⟨fun z => absurd ⟨hk, hv, c3, c1, c2⟩ z, fun _ => rfl⟩
theorem OUT_0 (h : JS b n P c m T ν i t s) (hl : LA b n P c m t s a) (h4 : t.1 0 0 4 = 0) (h5 : s.1 5 = 0) (h9 : t.1 0 0 9 = nI a) : OUT b n P c m i s t s := by
  obtain ⟨-, -, -, -, -, -, -, -, hf, -⟩ := id h
  exact ⟨hf, SF_0 s, Or.inr (Or.inr ⟨h4, h5, a, T, ν, h9, h, hl⟩)⟩
theorem p37 (D : Int32) (h : ¬ D = 4 ∧ ¬ D = 5 ∧ ¬ D = 36 ∧ ¬ D = 42 ∧ ¬ D = 256 ∧ ¬ D = 257 ∧ ¬ D = 300 ∧ ¬ D = 301 ∧ ¬ D = 302 ∧ ¬ D = 303) : u_X0_passStatement_37 U S N D t = u_X0_passWord U S N t := by
  obtain ⟨h1, h2, h3, h4, h5, h6, h7, h8, h9, h10⟩ := h
  unfold u_X0_passStatement_37 u_X0_passStatement_210
  rw [if_neg h1, if_neg h2, if_neg h3, if_neg h4, if_neg h5, if_neg h6, if_neg h7, if_neg h8, if_neg h9, if_neg h10, ub]
theorem g213 (k : Int32) (hk : ¬ k = -1) : g_one_213 U S N k s = g_told U S N k s := by
  unfold g_one_213 g_one_231
  rw [if_neg hk, rb]
theorem g213w : g_one_213 U S N (-1) s = g_word U S N s := by
  unfold g_one_213 g_one_231
  rw [if_pos rfl, rb]
theorem j_one (hN : 5000 < N) (h : JS b n P c m T ν i t s) (hl : LA b n P c m t s a) (h4 : t.1 0 0 4 = 0) (h5 : s.1 5 = 0) (h9 : t.1 0 0 9 = nI a) (hlab : ¬ isLab t a) (h2p : t.1 0 0 6 = 0 ∨ (dK t a = 256 → gA t (vA t (nI a)) = 2)) : ∃ t2 s2, u_X0_passStatement U S N t = some ((), t2) ∧ g_one U S N s = some ((), s2) ∧ OUS b n P c m i a t s t2 s2 := by
  obtain ⟨hE, hi2, hi, hcn, hpl, h29, h28, h7, hf, h8, h6, hRS⟩ := id h
  obtain ⟨hn, hB, ⟨-, -, ec, -, hc, -⟩, ⟨em, hm53, hm, hinj, hfx⟩, hRN, ⟨hs3, hb⟩, -, hs11, hs9, hCA⟩ := id hE
  obtain ⟨e1, e2, e3, e4⟩ := LA_k hE hl
  obtain ⟨ha, st0, -, -, -, htk, ⟨k1, k2, k3, k4, k5⟩, -⟩ := id hl
  rw [st_p hCA h4 h9]
  have bo : ∀ {t2 : CS} {s2 : RS}, OUT b n P c m i s t2 s2 → OUS b n P c m i a t s t2 s2 := fun z => Or.inl z
  -- a sign or a number: the reference's way
  have way : ¬ s.1 12 = 5 → ¬ kA t (nI a) = 59 → ¬ kA t (nI a) = 36 → ¬ kA t (nI a) = 42 → g_one U S N s = (if ¬ s.1 12 = 1 then g_one_184 U S N s else (g_isNext U S N 61 s).bind fun q9 => if q9.1 = 0 then g_one_184 U S N q9.2 else (g_take U S N q9.2).bind fun q13 => (g_tells U S N (q9.2.1 13) (q9.2.1 15) ((-1)) 0 q13.2).bind fun q16 => if (q16.2.1 5) ≤ 0 then (if (q16.2.1 21) ≤ (q13.2.1 21) then g_one_120 U S N (q9.2.1 13) (q9.2.1 15) 0 q16.2 else g_one_120 U S N (q9.2.1 13) (q9.2.1 15) 1 q16.2) else some ((), q16.2)) := by
    intro n5 n59 n36 n42
    unfold g_one
    rw [if_neg n5, isg hE hl h5 (sgn_y 59 (by decide)), Option.bind_some]
    dsimp only
    rw [if_neg n59, if_pos (show (0 : Int32) = 0 from rfl), isg hE hl h5 (sgn_y 36 (by decide)), Option.bind_some]
    dsimp only
    rw [if_neg n36, if_pos (show (0 : Int32) = 0 from rfl), isg hE hl h5 (sgn_y 42 (by decide)), Option.bind_some]
    dsimp only
    rw [if_neg n42, if_pos (show (0 : Int32) = 0 from rfl)]
  -- a word that begins with no name
  have word : ¬ kA t (nI a) = 1 → ¬ kA t (nI a) = 4 → ¬ kA t (nI a) = 5 → ¬ eN (kA t (nI a)) = 0 ∨ (¬ s.1 12 = 5 ∧ ¬ s.1 12 = 1 ∧ ¬ kA t (nI a) = 59 ∧ ∃ j, j < 256 ∧ kA t (nI a) = nI j) → eN (kA t (nI a)) = 0 → ¬ kA t (nI a) = 36 → ¬ kA t (nI a) = 42 → ∃ t2 s2, u_X0_passStatement_37 U S N (dK t a) t = some ((), t2) ∧ g_one U S N s = some ((), s2) ∧ OUS b n P c m i a t s t2 s2 := by
    intro n1 n4 n5 hx he n36 n42
    obtain ⟨m5, m1, n59, j, hj, ej⟩ := hx.resolve_left (not_not_intro he)
    have hd : dK t a = kA t (nI a) := by unfold dK; rw [if_neg n1]
    have big : ∀ (x : Int32) (y : Nat), x = nI y → 256 ≤ y → y < 2 ^ 31 → ¬ kA t (nI a) = x := by
      intro x y hx hy hy2 z
      rw [ej, hx] at z
      have := (eqI (by omega) (by omega)).mp z
      omega
    rw [hd, p37 _ ⟨n4, n5, n36, n42, big 256 256 rfl (by omega) (by omega), big 257 257 rfl (by omega) (by omega), big 300 300 rfl (by omega) (by omega), big 301 301 rfl (by omega) (by omega), big 302 302 rfl (by omega) (by omega), big 303 303 rfl (by omega) (by omega)⟩, way m5 n59 n36 n42, if_pos m1]
    unfold g_one_184
    rw [if_pos m1, g213w]
    obtain ⟨t2, s2, x1, x2, x3⟩ := j_word (U := U) (S := S) hN h hl h4 h5 h9 (fun z => n1 z.1)
    exact ⟨t2, s2, x1, x2, bo x3⟩
  have en0 : ¬ kA t (nI a) = 59 → ¬ kA t (nI a) = 10 → ¬ kA t (nI a) = 0 → eN (kA t (nI a)) = 0 := by
    intro n1 n2 n3
    unfold eN
    rw [if_neg n1, if_neg n2, if_pos n3]
  rw [e1] at e4
  rcases Tok_K hB htk with z | z | z | z | z | z | ⟨z, j, hj, ej⟩
  · -- the text's end
    rw [e1, z, if_neg (show ¬ eN 0 = 0 by decide)]
    refine ⟨t, s, rfl, ?_, bo (OUT_0 h hl h4 h5 h9)⟩
    unfold g_one g_one_17
    rw [if_pos (k1 (Or.inl z)).1]
  · rw [e1, z, if_neg (show ¬ eN 10 = 0 by decide)]
    refine ⟨t, s, rfl, ?_, bo (OUT_0 h hl h4 h5 h9)⟩
    unfold g_one g_one_17
    rw [if_pos (k1 (Or.inr z)).1]
  · -- a name
    obtain ⟨e12, st, zz, w, w1, w2, w3, w4, w5, w6, w7, w8, w9, w10⟩ := LA_n hE hl z
    have hsn : ∀ x : Int32, x = 59 ∨ x = 36 ∨ x = 42 ∨ x = 10 ∨ x = 0 → ¬ kA t (nI a) = x := by
      intro x hx ex
      rw [e1] at ex
      rw [ex] at z
      rcases hx with rfl | rfl | rfl | rfl | rfl <;> exact absurd z (by decide)
    rw [if_pos (en0 (hsn 59 (by decide)) (hsn 10 (by decide)) (hsn 0 (by decide))), way (by rw [e12]; decide) (hsn 59 (by decide)) (hsn 36 (by decide)) (hsn 42 (by decide)), if_neg (by rw [e12]; decide)]
    obtain ⟨x1, x2⟩ := g_next_eq (U := U) (S := S) hN hn hs3 hb 61 (show zz ≤ 2001 by omega) w3
    have e184 : g_one_184 U S N s = g_one_213 U S N (if w < 5 then nI w else -1) s := by
      unfold g_one_184
      rw [if_neg (by rw [e12]; decide), w1, w2, fd13 hN hE w4 w6 w7 w8 w9, Option.bind_some]
    rcases w10 with ⟨y1, y2, y3⟩ | ⟨y1, y2, y3, y4, y5⟩
    · have hk1 : kA t (nI a) = 1 := by rw [e1]; exact y1
      have hvw : vA t (nI a) = nI w := by rw [e2]; exact y2
      have hz16 : zz = P (a + 1) := by
        have := LA_t hE hl (Or.inl y1)
        rw [w3] at this
        exact (eqI (by omega) (by have := tk_nx hE hl.1 (fk_t (Or.inl y1)); obtain ⟨-, -, -, -, q, -⟩ := this; omega)).mp this
      have hd : dK t a = kNm t (nI a) := by unfold dK; rw [if_pos hk1]
      by_cases c61 : kA t (nI (a + 1)) = 61
      · have hnm : dK t a = 256 := by
          rw [hd]
          rcases kNm_v t (nI a) with ⟨q, -⟩ | ⟨q, -⟩
          · exact q
          · rw [nI_1] at q; exact absurd c61 q
        rw [x1 (by rw [hz16]; exact (nxk hE ha y1 (Or.inr rfl)).mpr c61), Option.bind_some]
        dsimp only
        rw [if_neg (show ¬ (1 : Int32) = 0 by decide), hnm]
        unfold u_X0_passStatement_37 u_X0_passStatement_210
        rw [if_neg (by decide), if_neg (by decide), if_neg (by decide), if_neg (by decide), if_pos rfl, ub]
        obtain ⟨t2, s2, q1, q2, q3⟩ := j_equation (U := U) (S := S) hN h hl h4 h5 h9 hk1 c61 (h2p.imp id (fun z => z hnm))
        exact ⟨t2, s2, q1, q2, bo q3⟩
      · rw [x2 (by rw [hz16]; exact fun q => c61 ((nxk hE ha y1 (Or.inr rfl)).mp q)), Option.bind_some]
        dsimp only
        rw [if_pos (show (0 : Int32) = 0 from rfl), e184]
        by_cases c5 : w < 5
        · have hw4 : ¬ w = 4 := by
            intro q
            rcases y3 q with q2 | q2
            · rw [hz16] at q2
              exact hlab ⟨hk1, (nxk hE ha y1 (Or.inl rfl)).mp q2⟩
            · rw [hz16] at q2
              exact c61 ((nxk hE ha y1 (Or.inr rfl)).mp q2)
          have hnm : dK t a = nI (300 + w) := by
            rw [hd]
            unfold kNm
            rw [nI_1, if_pos c61, hvw, sN_n (by omega), if_pos c5, if_neg (show ¬ (1 : Int32) = 0 by decide)]
            exact nI_add 300 w
          rw [if_pos c5, g213 _ (nI_ne (by omega)), hnm]
          unfold u_X0_passStatement_37 u_X0_passStatement_210
          simp only [ub]
          have hw : w = 0 ∨ w = 1 ∨ w = 2 ∨ w = 3 := by omega
          rcases hw with rfl | rfl | rfl | rfl
          · rw [if_neg (by decide), if_neg (by decide), if_neg (by decide), if_neg (by decide), if_neg (by decide), if_neg (by decide), if_pos (by decide)]
            obtain ⟨t2, s2, q1, q2, q3⟩ := j_page (U := U) (S := S) hN h hl h4 h5 h9 hk1
            exact ⟨t2, s2, q1, q2, bo q3⟩
          · rw [if_neg (by decide), if_neg (by decide), if_neg (by decide), if_neg (by decide), if_neg (by decide), if_neg (by decide), if_neg (by decide), if_pos (by decide)]
            obtain ⟨t2, s2, q1, q2, q3⟩ := j_radix (U := U) (S := S) hN h hl h4 h5 h9 hk1 (x := 1) (Or.inr rfl)
            exact ⟨t2, s2, q1, q2, bo q3⟩
          · rw [if_neg (by decide), if_neg (by decide), if_neg (by decide), if_neg (by decide), if_neg (by decide), if_neg (by decide), if_neg (by decide), if_neg (by decide), if_pos (by decide)]
            obtain ⟨t2, s2, q1, q2, q3⟩ := j_radix (U := U) (S := S) hN h hl h4 h5 h9 hk1 (x := 0) (Or.inl rfl)
            exact ⟨t2, s2, q1, q2, bo q3⟩
          · rw [if_neg (by decide), if_neg (by decide), if_neg (by decide), if_neg (by decide), if_neg (by decide), if_neg (by decide), if_neg (by decide), if_neg (by decide), if_neg (by decide), if_pos (by decide)]
            obtain ⟨t2, s2, q1, q2, q3⟩ := j_zeros (U := U) (S := S) hN h hl h4 h5 h9 hk1
            exact ⟨t2, s2, q1, q2, bo q3⟩
        · have hv5 : ¬ vA t (nI a) < 5 := by
            rw [hvw]
            exact fun q => c5 ((ltL (k := 5) (c := 5) rfl (by omega) (by decide)).mp q)
          obtain ⟨n1, n2⟩ := nRF_kNm hk1 hv5 c61
          rw [if_neg c5, g213w, hd]
          by_cases cR : nRF t a
          · rw [n1 cR, p37 1 (by decide)]
            obtain ⟨t2, s2, q1, q2, q3⟩ := j_word (U := U) (S := S) hN h hl h4 h5 h9 cR
            exact ⟨t2, s2, q1, q2, bo q3⟩
          · rw [n2 cR]
            unfold u_X0_passStatement_37 u_X0_passStatement_210
            rw [if_neg (by decide), if_neg (by decide), if_neg (by decide), if_neg (by decide), if_neg (by decide), if_pos rfl, ub]
            obtain ⟨t2, s2, q1, q2, q3⟩ := j_reference (U := U) (S := S) hN h hl h4 h5 h9 cR
            exact ⟨t2, s2, q1, q2, bo q3⟩
    · rw [x2 y4, Option.bind_some]
      dsimp only
      rw [if_pos (show (0 : Int32) = 0 from rfl), e184, y2, if_pos (show 4 < 5 by decide), g213 _ (by decide)]
      have hd : dK t a = kA t (nI a) := by unfold dK; rw [if_neg (by rw [e1]; exact y1)]
      rw [hd, e1]
      rcases y5 with ⟨y6, y7⟩ | ⟨y6, -⟩
      · rw [y6]
        unfold u_X0_passStatement_37 u_X0_passStatement_210
        rw [if_neg (by decide), if_pos rfl, ub]
        obtain ⟨t3, e3, hf3⟩ := e_report (U := U) (S := S) (N := N) hCA (show ¬ (1 : Int32) = 0 by decide) (t.1 0 0 9)
        obtain ⟨s2, q1, q2, q3, q4⟩ := (tx_eq (U := U) (S := S) hN hn hs3 hb hf (s.1 13) w6 w3).2 y7
        refine ⟨t3, s2, e3, ?_, bo ⟨q3, SF_SL q2, Or.inl ⟨hf3, q4⟩⟩⟩
        unfold g_told
        rw [if_neg (show ¬ ¬ nI 4 = (4 : Int32) from fun z => z rfl), rb]
        exact q1
      · rw [y6]
        unfold u_X0_passStatement_37 u_X0_passStatement_210
        rw [if_pos rfl, ub]
        obtain ⟨t2, s2, q1, q2, q3⟩ := j_text (U := U) (S := S) hN h hl h4 h5 h9 (by rw [e1]; exact y6)
        exact ⟨t2, s2, q1, q2, bo q3⟩
  · exact absurd z e4
  · rw [if_pos (en0 (by rw [e1, z]; decide) (by rw [e1, z]; decide) (by rw [e1, z]; decide))]
    exact word (by rw [e1, z]; decide) (by rw [e1, z]; decide) (by rw [e1, z]; decide) (Or.inr ⟨by rw [(k3 z).1]; decide, by rw [(k3 z).1]; decide, by rw [e1, z]; decide, 2, by decide, by rw [e1, z]; rfl⟩) (by rw [e1, z]; rfl) (by rw [e1, z]; decide) (by rw [e1, z]; decide)
  · rw [if_pos (en0 (by rw [e1, z]; decide) (by rw [e1, z]; decide) (by rw [e1, z]; decide))]
    exact word (by rw [e1, z]; decide) (by rw [e1, z]; decide) (by rw [e1, z]; decide) (Or.inr ⟨by rw [(k4 z).1]; decide, by rw [(k4 z).1]; decide, by rw [e1, z]; decide, 3, by decide, by rw [e1, z]; rfl⟩) (by rw [e1, z]; rfl) (by rw [e1, z]; decide) (by rw [e1, z]; decide)
  · -- a sign
    obtain ⟨q1, q2, q3⟩ := k5 z
    have nk : ∀ x : Int32, ¬ sgn x → ¬ kA t (nI a) = x := by
      intro x hx ex
      rw [← e1, ex] at z
      exact hx z
    by_cases c59 : kA t (nI a) = 59
    · rw [c59, if_neg (show ¬ eN 59 = 0 by decide)]
      refine ⟨t, s, rfl, ?_, bo (OUT_0 h hl h4 h5 h9)⟩
      unfold g_one g_one_17
      rw [if_neg (by rw [q1]; decide), isg hE hl h5 (sgn_y 59 (by decide)), Option.bind_some]
      dsimp only
      rw [if_pos c59, if_neg (show ¬ (1 : Int32) = 0 by decide)]
    · rw [if_pos (en0 c59 (nk 10 sgn_n.2.2.2.2.2.2.2) (nk 0 sgn_n.1))]
      have hd : dK t a = kA t (nI a) := by unfold dK; rw [if_neg (nk 1 sgn_n.2.1)]
      by_cases c36 : kA t (nI a) = 36
      · rw [hd, c36]
        unfold u_X0_passStatement_37 u_X0_passStatement_210 qZ
        rw [if_neg (by decide), if_neg (by decide), if_pos rfl, if_pos (Or.inr rfl), Option.bind_some]
        refine ⟨_, pI s 28 1, rfl, ?_, Or.inr ⟨c36, rfl, rfl⟩⟩
        unfold g_one pZ
        rw [if_neg (by rw [q1]; decide), isg hE hl h5 (sgn_y 59 (by decide)), Option.bind_some]
        dsimp only
        rw [if_neg c59, if_pos (show (0 : Int32) = 0 from rfl), isg hE hl h5 (sgn_y 36 (by decide)), Option.bind_some]
        dsimp only
        rw [if_pos c36, if_neg (show ¬ (1 : Int32) = 0 by decide), if_pos (Or.inr rfl)]
        rfl
      · by_cases c42 : kA t (nI a) = 42
        · rw [hd, c42]
          unfold u_X0_passStatement_37 u_X0_passStatement_210
          rw [if_neg (by decide), if_neg (by decide), if_neg (by decide), if_pos rfl, ub]
          obtain ⟨t2, s2, y1, y2, y3⟩ := j_origin (U := U) (S := S) hN h hl h4 h5 h9 c42
          refine ⟨t2, s2, y1, ?_, bo y3⟩
          unfold g_one
          rw [if_neg (by rw [q1]; decide), isg hE hl h5 (sgn_y 59 (by decide)), Option.bind_some]
          dsimp only
          rw [if_neg c59, if_pos (show (0 : Int32) = 0 from rfl), isg hE hl h5 (sgn_y 36 (by decide)), Option.bind_some]
          dsimp only
          rw [if_neg c36, if_pos (show (0 : Int32) = 0 from rfl), isg hE hl h5 (sgn_y 42 (by decide)), Option.bind_some]
          dsimp only
          rw [if_pos c42, if_neg (show ¬ (1 : Int32) = 0 by decide)]
          exact y2
        · exact word (nk 1 sgn_n.2.1) (nk 4 sgn_n.2.2.2.2.1) (nk 5 sgn_n.2.2.2.2.2.1) (Or.inr ⟨by rw [q1]; decide, by rw [q1]; decide, c59, j, hj, by rw [e1]; exact ej⟩) (en0 c59 (nk 10 sgn_n.2.2.2.2.2.2.2) (nk 0 sgn_n.1)) c36 c42
end
