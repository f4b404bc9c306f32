/-! LAYER 3, a pass, side by side -/
section
variable {U S N n c m T i p a : Nat} {b : Nat → Int32} {P ν : Nat → Nat} {t : CS} {s : RS}
theorem LA_10 (h : EX b n P c m T ν t s) (hl : LA b n P c m t s a) (hk : kA t (nI a) = 10) : s.1 12 = 5 ∧ ∃ st, s.1 16 = nI st ∧ P (a + 1) = st + 1 ∧ st < n := by
  obtain ⟨e1, -, -, -⟩ := LA_k h hl
  obtain ⟨ha, st, -, -, -, tk, ⟨k1, -⟩, -⟩ := id hl
  rw [e1] at hk
  obtain ⟨y1, y2⟩ := k1 (Or.inr hk)
  refine ⟨y1, st, y2, ?_⟩
  rw [hk] at tk
  rcases tk with ⟨-, z⟩ | ⟨z1, -, -, z⟩ | ⟨-, -, z, -, ⟨-, y⟩ | ⟨-, w, w1, -, ⟨y, -⟩ | ⟨-, -, -, ⟨y, -⟩ | ⟨y, -⟩⟩⟩⟩ | ⟨-, -, -, z, -, ⟨-, y⟩ | ⟨-, y, -⟩⟩ | ⟨-, -, ⟨z, -⟩ | ⟨z, -⟩⟩ | ⟨-, -, -, -, -, -, ⟨y, z, -⟩ | ⟨z, -⟩⟩
  · exact absurd z (by decide)
  · exact ⟨z, z1⟩
  · exact absurd y (by decide)
  · exact absurd y (by decide)
  · exact absurd y (by decide)
  · exact absurd y (by decide)
  · exact absurd y (by decide)
  · exact absurd y (by decide)
  · exact absurd z (by decide)
  · exact absurd z (by decide)
  · rw [← y] at z; exact absurd z sgn_n.2.2.2.2.2.2.2
  · exact absurd z (by decide)
theorem LA_0 (h : EX b n P c m T ν t s) (hl : LA b n P c m t s a) (hk : kA t (nI a) = 0) : s.1 12 = 5 ∧ s.1 16 = nI n := by
  obtain ⟨e1, -, -, -⟩ := LA_k h hl
  obtain ⟨ha, st, -, hst, -, tk, ⟨k1, -⟩, -⟩ := id hl
  rw [e1] at hk
  obtain ⟨y1, y2⟩ := k1 (Or.inl hk)
  refine ⟨y1, ?_⟩
  rw [hk] at tk
  rcases tk with ⟨z, -⟩ | ⟨-, -, z, -⟩ | ⟨-, -, z, -, ⟨-, y⟩ | ⟨-, w, w1, -, ⟨y, -⟩ | ⟨-, -, -, ⟨y, -⟩ | ⟨y, -⟩⟩⟩⟩ | ⟨-, -, -, z, -, ⟨-, y⟩ | ⟨-, y, -⟩⟩ | ⟨-, -, ⟨z, -⟩ | ⟨z, -⟩⟩ | ⟨-, -, -, -, -, -, ⟨y, z, -⟩ | ⟨z, -⟩⟩
  · rw [y2, show st = n by omega]
  · exact absurd z (by decide)
  · exact absurd y (by decide)
  · exact absurd y (by decide)
  · exact absurd y (by decide)
  · exact absurd y (by decide)
  · exact absurd y (by decide)
  · exact absurd y (by decide)
  · exact absurd z (by decide)
  · exact absurd z (by decide)
  · rw [← y] at z; exact absurd z sgn_n.1
  · exact absurd z (by decide)
theorem LA_5 (h : EX b n P c m T ν t s) (hl : LA b n P c m t s a) (hk : eN (kA t (nI a)) = 0) : ¬ s.1 12 = 5 ∧ ¬ kA t (nI a) = 59 := by
  obtain ⟨e1, -, -, e4⟩ := LA_k h hl
  obtain ⟨-, hB, -⟩ := id h
  obtain ⟨ha, st, -, hst, -, tk, ⟨k1, k2, k3, k4, k5⟩, -⟩ := id hl
  refine ⟨?_, fun z => by rw [z] at hk; exact absurd hk (by decide)⟩
  rw [e1] at hk e4
  rcases Tok_K hB tk with z | z | z | z | z | z | ⟨z, -⟩
  · rw [z] at hk; exact absurd hk (by decide)
  · rw [z] at hk; exact absurd hk (by decide)
  · rw [(k2 z).1]; decide
  · exact absurd z e4
  · rw [(k3 z).1]; decide
  · rw [(k4 z).1]; decide
  · rw [(k5 z).1]; decide
theorem pl (hN : 5000 < N) : ∀ (f g h j a T : Nat) (ν : Nat → Nat) (t : CS) (s : RS), JS b n P c m T ν i t s → LA b n P c m t s a → t.1 0 0 4 = 0 → s.1 5 = 0 → t.1 0 0 9 = nI a → j ≤ a → c + 4 < a + f → c + 4 < a + g → c + 4 < a + h → PH U S N m j t → ∃ t2 s2, ul_X0_passOver_29 U S N f (nI j) t = some ((), t2) ∧ ((l_line_6 U S N g 1 s).bind fun q => cnt U S N h q.2) = some ((), s2) ∧ FIN b n P c m i s t2 s2 := by
  intro f
  induction f with
  | zero => intro g h j a T ν t s _ hl _ _ _ _ hf; have := hl.1; omega
  | succ f ih =>
    intro g h j a T ν t s hJ hl h4 h5 h9 hj hf hg hh hPH
    have hac := hl.1
    obtain ⟨g, rfl⟩ : ∃ g', g = g' + 2 := ⟨g - 2, by omega⟩
    obtain ⟨h, rfl⟩ : ∃ g', h = g' + 2 := ⟨h - 2, by omega⟩
    obtain ⟨f, rfl⟩ : ∃ g', f = g' + 2 := ⟨f - 2, by omega⟩
    obtain ⟨hE, hi2, hi, hcn, hpl, h29, h28, h7, hfz, h8, h6, hRS⟩ := id hJ
    obtain ⟨hn, hB, ⟨eL, -, ec, -, hc, -⟩, ⟨em, hm53, hm, hinj, hfx⟩, hRN, ⟨hs3, hb⟩, -, hs11, hs9, hCA⟩ := id hE
    obtain ⟨p, hP⟩ := P0_JS hJ hl h4 h9
    obtain ⟨ta, tb, tc, e1, e2, e3, s1, s2, s3, e4⟩ := ov_s (U := U) (S := S) (f := f + 2) (j := j) hN hCA ec hc (by omega) h4 h7
    rw [e4]
    -- what the first pass says
    have hW : t.1 0 0 6 = 0 ∨ (¬ t.1 0 0 6 = 0 ∧ (∀ d, (∀ e, e < d → isLab t (a + 2 * e)) → isLab t (a + 2 * d) → gA t (vA t (nI (a + 2 * d))) = 1 ∧ nA t (vA t (nI (a + 2 * d))) = t.1 0 0 10 &&& 4095) ∧ (dK t (labE t N a) = 256 → gA t (vA t (nI (labE t N a))) = 2) ∧ (∀ tb tc, u_X0_passStatement U S N (qI t 0 0 9 (nI (labE t N a))) = some ((), tb) → u_X0_passEnd U S N tb = some ((), tc) → tb.1 0 0 4 = 0 → tc.1 0 0 4 = 0 → PH U S N m (j + 1) tc)) := by
      rcases hPH with z | ⟨z, t1, tE, f1, w1, w2, w3⟩
      · exact Or.inl z
      · obtain ⟨x1, x2, x3⟩ := TW_step (U := U) (S := S) hN hc hm hn w1 hP z h7 (by omega) w2 w3
        refine Or.inr ⟨z, x1, x2, fun tb tc y1 y2 y3 y4 => ?_⟩
        obtain ⟨f2, t1c, z1, z2⟩ := x3 tb tc y1 y2 y3 y4
        obtain ⟨pa, pb⟩ := (P0_lab (U := U) (S := S) hc hN hP z).2
        obtain ⟨-, -, kp, a4, p4, c4, -⟩ := st_x (U := U) (S := S) hN hc hm hn pa y1 y3
        obtain ⟨u1, -⟩ := en_x (U := U) (S := S) (N := N) hc c4 y2 y4
        have h6b : ¬ tb.1 0 0 6 = 0 := by rw [kp.2.2.2.2.1]; exact z
        refine Or.inr ⟨?_, t1c, tE, f2, z1, z2, w3⟩
        rcases u1 with ⟨-, u1⟩ | ⟨-, -, u1⟩ | ⟨-, -, u1⟩ <;> rw [u1] <;> exact h6b
    -- labels
    obtain ⟨ta', sa, l1, l2, l3⟩ := j_labels (U := U) (S := S) (i := i) hN N N 0 a T ν t s hJ hl h4 h5 h9 (by omega) (by omega) (by omega) (hW.imp id (fun z => z.2.1))
    have et : ta' = ta := inj2 (show u_X0_passLabels U S N t = some ((), ta') from l1) e1
    subst et
    have eR : l_line_6 U S N (g + 2) 1 s = if ¬ sa.1 5 = 0 then g_line_39 U S N (l_line_6 U S N (g + 1)) sa else (g_one U S N sa).bind fun q6 => g_line_39 U S N (l_line_6 U S N (g + 1)) q6.2 := by
      show h_line_6 U S N (l_line_6 U S N (g + 1)) 1 s = _
      unfold h_line_6
      rw [if_neg (show ¬ (1 : Int32) = 0 by decide), if_neg (not_not_intro h5), if_neg (not_not_intro h28), show g_labels U S N s = some ((), sa) from l2, Option.bind_some]
    rw [eR]
    -- both end with a fault
    have bad : ∀ (s' : RS), FZ s' → SF s s' → ¬ s'.1 5 = 0 → ¬ tc.1 0 0 4 = 0 → ∃ t2 s2, ul_X0_passOver_29 U S N (f + 2) (nI (j + 1)) tc = some ((), t2) ∧ ((g_line_39 U S N (l_line_6 U S N (g + 1)) s').bind fun q => cnt U S N (h + 2) q.2) = some ((), s2) ∧ FIN b n P c m i s t2 s2 := by
      intro s' x1 x2 x3 x4
      rw [ov_f (Or.inl x4), g39_f x3, Option.bind_some]
      dsimp only
      rw [cnt_x (Or.inl x3)]
      exact ⟨tc, _, rfl, rfl, FIN_f x1 x2 x4 x3 _⟩
    obtain ⟨x1, x2, x3⟩ := l3
    rcases x3 with ⟨y1, y2⟩ | ⟨y1, y2, y3⟩ | ⟨y1, y2, a1, T1, ν1, y3, hJ1, hl1, hnl⟩
    · rw [if_pos y2]
      exact bad sa x1 x2 y2 (s3.2.2.2.2.2.1 (s2.2.2.2.2.2.1 y1))
    · rw [if_pos y2]
      obtain ⟨t2, z1, z2⟩ := st_d (U := U) (S := S) (N := N) s1.1 y1 y3
      rw [inj2 z1 e2] at z2
      exact bad sa x1 x2 y2 (s3.2.2.2.2.2.1 z2)
    · rw [if_neg (not_not_intro y2)]
      -- where the labels end
      obtain ⟨hPa, hle, h6a, h2p⟩ : P0 n c m (labE t N a) p ta' ∧ a ≤ labE t N a ∧ ta'.1 0 0 6 = t.1 0 0 6 ∧ (ta'.1 0 0 6 = 0 ∨ (dK ta' (labE t N a) = 256 → gA ta' (vA ta' (nI (labE t N a))) = 2)) := by
        rcases hW with z | ⟨z, -, z2, -⟩
        · obtain ⟨q1, q2, q3, -⟩ := lb_x (U := U) (S := S) hN hc hm hP z e1 y1
          exact ⟨q1, q2, q3.2.2.2.2.1, Or.inl (by rw [q3.2.2.2.2.1]; exact z)⟩
        · obtain ⟨q0, q1, q2⟩ := P0_lab (U := U) (S := S) hc hN hP z
          rw [inj2 e1 q0]
          exact ⟨q1, q2, rfl, Or.inr z2⟩
      have ea1 : labE t N a = a1 := by
        have z1 := hPa.2.2.2.2.2.2.2.1
        have z2 := hPa.2.2.2.2.2.2.2.2.1
        rw [y3] at z1
        have := hl1.1
        exact ((eqI (by omega) (by omega)).mp z1).symm
      rw [ea1] at hPa hle h2p
      obtain ⟨tb', sb, o1, o2, o3⟩ := j_one (U := U) (S := S) hN hJ1 hl1 y1 y2 y3 hnl h2p
      have et : tb' = tb := inj2 o1 e2
      subst et
      rw [o2, Option.bind_some]
      dsimp only
      obtain ⟨hE1, -, -, -, -, -, h281, h71, hfz1, -⟩ := id hJ1
      have hCA1 := s1.1
      rcases o3 with ⟨w1, w2, w3⟩ | ⟨w1, w2, w3⟩
      · have x12 := SF_t x2 w2
        rcases w3 with ⟨v1, v2⟩ | ⟨v1, v2, v3⟩ | ⟨v1, v2, a2, T2, ν2, v3, hJ2, hl2⟩
        · exact bad sb w1 x12 v2 (s3.2.2.2.2.2.1 v1)
        · -- the class is doomed
          obtain ⟨c1, -, -, a4, p4, c4, -⟩ := st_x (U := U) (S := S) hN hc hm hn hPa e2 v1
          have h7b : tb'.1 0 0 7 = 0 := by
            rcases c1 with ⟨-, z⟩ | ⟨-, -, z⟩
            · rw [z]; exact h71
            · by_cases d36 : dK ta' a1 = 36
              · exfalso
                rw [d36] at z
                have z2 : tb' = qI ta' 0 0 7 1 := z
                have hk6 : kA ta' (nI a1) = 6 := by
                  rw [z2] at v3
                  have v4 : kA ta' (ta'.1 0 0 9) = 6 := v3
                  rw [y3] at v4
                  exact v4
                unfold dK at d36
                rw [hk6, if_neg (by decide)] at d36
                exact absurd d36 (by decide)
              · exact (st_7 z d36).trans h71
          obtain ⟨t2, z1, z2⟩ := en_d (U := U) (S := S) (N := N) s2.1 v1 h7b v3
          rw [inj2 z1 e3] at z2
          exact bad sb w1 x12 v2 z2
        · -- both go on
          obtain ⟨hE2, -, -, -, -, -, h282, h72, hfz2, -⟩ := id hJ2
          obtain ⟨-, -, ⟨-, -, ec2, -, -, -⟩, -, -, ⟨hs32, -⟩, -, -, -, hCA2⟩ := id hE2
          obtain ⟨-, -, kp, a4, p4, c4, hle2⟩ := st_x (U := U) (S := S) hN hc hm hn hPa e2 v1
          have ea2 : a4 = a2 := by
            have z1 := c4.2.2.2.2.2.2.2.1
            have z2 := c4.2.2.2.2.2.2.2.2.1
            rw [v3] at z1
            have := hl2.1
            exact ((eqI (by omega) (by omega)).mp z1).symm
          rw [ea2] at c4 hle2
          obtain ⟨n1, n2, n3⟩ := c_end (U := U) (S := S) (N := N) hCA2 v1 h72 v3
          by_cases cE : eN (kA tb' (nI a2)) = 0
          · -- what can't stand there
            obtain ⟨t2, z1, z2⟩ := n1 cE
            rw [inj2 z1 e3] at z2
            obtain ⟨z3, z4⟩ := LA_5 hE2 hl2 cE
            have eg : g_line_39 U S N (l_line_6 U S N (g + 1)) sb = some ((), flt sb 2 (sb.1 13)) := by
              unfold g_line_39
              rw [isg hE2 hl2 v2 (sgn_y 59 (by decide)), Option.bind_some]
              dsimp only
              rw [if_neg z4, if_pos (show (0 : Int32) = 0 from rfl), if_neg (not_not_intro v2), if_neg (not_not_intro h282), if_neg z3, g_fails_eq hfz2, Option.bind_some]
              dsimp only
              rw [l6_f (flt_ne (by decide))]
            rw [ov_f (Or.inl z2), eg, Option.bind_some]
            dsimp only
            rw [cnt_x (Or.inl (flt_ne (by decide)))]
            exact ⟨tc, _, rfl, rfl, FIN_f (flt_FZ hfz2 (by decide)) (SF_t x12 (SF_SL (flt_SL _ _))) z2 (flt_ne (by decide)) _⟩
          · by_cases c59 : kA tb' (nI a2) = 59
            · -- a semicolon
              have etc : tc = qI tb' 0 0 9 (nI (a2 + 1)) := inj2 e3 (n3 cE (by rw [c59]; decide))
              obtain ⟨k1, -⟩ := LA_k hE2 hl2
              obtain ⟨sc, z1, z2⟩ := take_at (U := U) (S := S) hN hE2 hfz2 hl2 (Or.inr (Or.inr (Or.inr ⟨by rw [← k1, c59]; exact sgn_y 59 (by decide), by rw [← k1, c59]; decide⟩)))
              obtain ⟨z3, -, z5, -, z7⟩ := z2
              have eg : g_line_39 U S N (l_line_6 U S N (g + 1)) sb = l_line_6 U S N (g + 1) 1 sc := by
                unfold g_line_39
                rw [isg hE2 hl2 v2 (sgn_y 59 (by decide)), Option.bind_some]
                dsimp only
                rw [if_pos c59, if_neg (show ¬ (1 : Int32) = 0 by decide), z1, Option.bind_some]
              rw [eg, etc]
              have sfc := SF_t x12 (SF_SL z3)
              rcases z7 v2 with ⟨u1, u2, -⟩ | ⟨u1, u2, u3⟩
              · have hf5 : ¬ sc.1 5 = 0 := by rw [u2]; decide
                rw [l6_f hf5, Option.bind_some]
                dsimp only
                rw [cnt_x (Or.inl hf5)]
                obtain ⟨t2, q1, q2⟩ := ov_6 (U := U) (S := S) (t := qI tb' 0 0 9 (nI (a2 + 1))) (f := f) (j := j + 1) hN (CA_9 hCA2 _) ec2 hc (by have := hl2.1; omega) v1 h72 u1
                exact ⟨t2, _, q1, rfl, FIN_f z5 sfc q2 hf5 _⟩
              · have hPH2 : PH U S N m (j + 1) (qI tb' 0 0 9 (nI (a2 + 1))) := by
                  rcases hW with z | ⟨z, -, -, zz⟩
                  · exact Or.inl (by show tb'.1 0 0 6 = 0; rw [kp.2.2.2.2.1, h6a]; exact z)
                  · obtain ⟨q0, -, -⟩ := P0_lab (U := U) (S := S) hc hN hP z
                    have := zz tb' tc (by rw [← inj2 e1 q0]; exact e2) e3 v1 (by rw [etc]; exact v1)
                    rw [etc] at this
                    exact this
                obtain ⟨t2, s2', q1, q2, q3, q4, q5⟩ := ih (g + 1) (h + 2) (j + 1) (a2 + 1) T2 ν2 (qI tb' 0 0 9 (nI (a2 + 1))) sc (JS_9 (JS_SL hJ2 z3 z5) _) u3 v1 u2 rfl (by omega) (by omega) (by omega) (by omega) hPH2
                exact ⟨t2, s2', q1, q2, q3, SF_t sfc q4, q5⟩
            · have eg : sb.1 12 = 5 → g_line_39 U S N (l_line_6 U S N (g + 1)) sb = some ((), pI sb 4 (sb.1 16)) := by
                intro z12
                unfold g_line_39
                rw [isg hE2 hl2 v2 (sgn_y 59 (by decide)), Option.bind_some]
                dsimp only
                rw [if_neg c59, if_pos (show (0 : Int32) = 0 from rfl), if_neg (not_not_intro v2), if_neg (not_not_intro h282), if_pos z12, l6_0, l91_n v2 h282]
              by_cases c0 : kA tb' (nI a2) = 0
              · -- the text's end
                obtain ⟨z1, z2⟩ := LA_0 hE2 hl2 c0
                have etc : tc = qI tb' 0 0 7 1 := inj2 e3 (n2 cE c0)
                rw [eg z1, Option.bind_some, etc, ov_f (Or.inr (show ¬ (1 : Int32) = 0 by decide)), z2]
                have ec4 : cnt U S N (h + 2) (pI sb 4 (nI n)) = some ((), pI (pI sb 4 (nI n)) 4 (nI (n + 1))) := by
                  unfold cnt
                  rw [Option.bind_some]
                  show h_pass_28 U S N (l_pass_28 U S N (h + 1)) (pI (pI sb 4 (nI n)) 4 (nI n + 1)) = _
                  rw [nI_1]
                  unfold h_pass_28 g_pass_70
                  show (if ¬ sb.1 5 = 0 then _ else if ¬ sb.1 28 = 0 then _ else if sb.1 3 < nI (n + 1) then _ else _) = _
                  rw [if_neg (not_not_intro v2), if_neg (not_not_intro h282), hs32, if_pos ((ltI (by omega) (by omega)).mpr (by omega))]
                dsimp only
                rw [ec4]
                refine ⟨_, _, rfl, rfl, hfz2, SF_I (SF_I x12 (by decide) _) (by decide) _, Or.inr ⟨v1, v2, T2, ν2, JE_JS hJ2 (fun k k1 k2 => ?_) rfl⟩⟩
                show up1 (up1 sb.1 4 _) 4 _ k = _
                rw [up1_n _ _ k1, up1_n _ _ k1]
              · -- a line's end
                have c10 : kA tb' (nI a2) = 10 := by
                  apply Decidable.byContradiction
                  intro z
                  apply cE
                  unfold eN
                  rw [if_neg c59, if_neg z, if_pos c0]
                obtain ⟨z1, st, z2, z3, z4⟩ := LA_10 hE2 hl2 c10
                have etc : tc = qI tb' 0 0 9 (nI (a2 + 1)) := inj2 e3 (n3 cE c0)
                obtain ⟨k1, -⟩ := LA_k hE2 hl2
                obtain ⟨ha1, st1, m1, m2, m3, m4, m5⟩ := tk_nx hE2 hl2.1 (show ¬ fk (tb'.2.1 9 0 1 a2) by rw [← k1, c10]; unfold fk; decide)
                rw [eg z1, Option.bind_some, etc, z2]
                dsimp only
                -- the next line
                have sl : SL sb (pI (pI sb 4 (nI st)) 4 (nI (P (a2 + 1)))) := SL_I (SL_I (SL_0 sb) (by decide) _) (by decide) _
                obtain ⟨sc, w5, w6, w7⟩ := look_at (U := U) (S := S) (s := pI (pI sb 4 (nI st)) 4 (nI (P (a2 + 1)))) hN (EX_SL hE2 sl) hfz2 ha1 rfl m1 m2 m3 m4 m5
                have ec4 : cnt U S N (h + 2) (pI sb 4 (nI st)) = (l_line_6 U S N N 1 sc).bind fun q => cnt U S N (h + 1) q.2 := by
                  unfold cnt
                  rw [Option.bind_some]
                  show h_pass_28 U S N (l_pass_28 U S N (h + 1)) (pI (pI sb 4 (nI st)) 4 (nI st + 1)) = _
                  rw [nI_1, ← z3]
                  unfold h_pass_28 g_line
                  rw [if_neg (show ¬ ¬ (pI (pI sb 4 (nI st)) 4 (nI (P (a2 + 1)))).1 5 = 0 from not_not_intro v2), if_neg (show ¬ ¬ (pI (pI sb 4 (nI st)) 4 (nI (P (a2 + 1)))).1 28 = 0 from not_not_intro h282), if_neg (show ¬ (pI (pI sb 4 (nI st)) 4 (nI (P (a2 + 1)))).1 3 < (pI (pI sb 4 (nI st)) 4 (nI (P (a2 + 1)))).1 4 from fun z => by
                    have z' : sb.1 3 < nI (P (a2 + 1)) := z
                    rw [hs32] at z'
                    have := (ltI (by omega) (by omega)).mp z'
                    omega), w5, Option.bind_some]
                rw [ec4]
                obtain ⟨z5, -, z7, -, z9⟩ := w6
                have slc := SL_t sl z5
                have sfc := SF_t x12 (SF_SL slc)
                rcases z9 v2 with ⟨u1, u2, -⟩ | ⟨u1, u2, u3⟩
                · have hf5 : ¬ sc.1 5 = 0 := by rw [u2]; decide
                  obtain ⟨M, hM⟩ : ∃ M, N = M + 1 := ⟨N - 1, by omega⟩
                  have el6 : l_line_6 U S N N 1 sc = some ((), sc) := by
                    have := l6_f (U := U) (S := S) (N := N) (g := M) (x := 1) hf5
                    rw [← hM] at this
                    exact this
                  rw [el6, Option.bind_some]
                  dsimp only
                  rw [cnt_x (Or.inl hf5)]
                  obtain ⟨t2, q1, q2⟩ := ov_6 (U := U) (S := S) (t := qI tb' 0 0 9 (nI (a2 + 1))) (f := f) (j := j + 1) hN (CA_9 hCA2 _) ec2 hc (by have := hl2.1; omega) v1 h72 u1
                  exact ⟨t2, _, q1, rfl, FIN_f z7 sfc q2 hf5 _⟩
                · have hPH2 : PH U S N m (j + 1) (qI tb' 0 0 9 (nI (a2 + 1))) := by
                    rcases hW with z | ⟨z, -, -, zz⟩
                    · exact Or.inl (by show tb'.1 0 0 6 = 0; rw [kp.2.2.2.2.1, h6a]; exact z)
                    · obtain ⟨q0, -, -⟩ := P0_lab (U := U) (S := S) hc hN hP z
                      have := zz tb' tc (by rw [← inj2 e1 q0]; exact e2) e3 v1 (by rw [etc]; exact v1)
                      rw [etc] at this
                      exact this
                  obtain ⟨t2, s2', q1, q2, q3, q4, q5⟩ := ih N (h + 1) (j + 1) (a2 + 1) T2 ν2 (qI tb' 0 0 9 (nI (a2 + 1))) sc (JS_9 (JS_SL hJ2 slc z7) _) u3 v1 u2 rfl (by omega) (by omega) (by omega) (by omega) hPH2
                  exact ⟨t2, s2', q1, q2, q3, SF_t sfc q4, q5⟩
      · -- the sign that ends all
        have etc : tc = qI ta' 0 0 7 1 := by
          refine inj2 (b := ()) e3 ?_
          rw [w2]
          unfold u_X0_passEnd u_X0_passEnd_14
          rw [if_neg (show ¬ ¬ (qI ta' 0 0 7 1).1 0 0 4 = 0 from not_not_intro y1), if_neg (show ¬ (qI ta' 0 0 7 1).1 0 0 7 = 0 from show ¬ (1 : Int32) = 0 by decide)]
        rw [etc, ov_f (Or.inr (show ¬ (1 : Int32) = 0 by decide)), w3]
        have eg : g_line_39 U S N (l_line_6 U S N (g + 1)) (pI sa 28 1) = some ((), pI sa 28 1) := by
          have h14 : (pI sa 28 1).1 12 = 4 ∧ (pI sa 28 1).1 14 = 36 := by
            obtain ⟨-, st, -, -, -, -, lk, -⟩ := id hl1
            obtain ⟨k1, -⟩ := LA_k hE1 hl1
            obtain ⟨z1, -, z3⟩ := lk.2.2.2.2 (by rw [← k1, w1]; exact sgn_y 36 (by decide))
            exact ⟨z1, z3.trans (by rw [← k1]; exact w1)⟩
          unfold g_line_39 g_isSign g_isSign_27 g_isSign_28
          rw [if_neg (show ¬ ¬ (pI sa 28 1).1 5 = 0 from not_not_intro y2), if_neg (not_not_intro h14.1), if_pos (by rw [h14.2]; decide), rZ0, Option.bind_some]
          dsimp only
          rw [if_pos (show (0 : Int32) = 0 from rfl), if_neg (show ¬ ¬ (pI sa 28 1).1 5 = 0 from not_not_intro y2), if_pos (show ¬ (pI sa 28 1).1 28 = 0 from show ¬ (1 : Int32) = 0 by decide), l6_0, l91_x (Or.inr (show ¬ (1 : Int32) = 0 by decide))]
        rw [eg, Option.bind_some]
        dsimp only
        rw [cnt_x (Or.inr (show ¬ (1 : Int32) = 0 by decide))]
        refine ⟨_, _, rfl, rfl, hfz1, SF_I (SF_I x2 (by decide) _) (by decide) _, Or.inr ⟨y1, y2, T1, ν1, JE_JS hJ1 (fun k k1 k2 => ?_) rfl⟩⟩
        show up1 (up1 sa.1 28 _) 4 _ k = _
        rw [up1_n _ _ k1, up1_n _ _ k2]
end
