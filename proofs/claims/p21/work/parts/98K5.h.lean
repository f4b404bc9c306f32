/-! LAYER 3, words: the loop of a reference; both kinds of words -/
section
variable {U S N n c m T i p a : Nat} {b : Nat → Int32} {P ν : Nat → Nat} {t : CS} {s : RS}
theorem obu (r : Option (Int32 × CS)) (k : Int32 → CS → Option (Unit × CS)) : (r.bind fun q => (k q.1 q.2).bind fun q3 => some ((), q3.2)) = r.bind fun q => k q.1 q.2 := by
  cases r with
  | none => rfl
  | some q => exact ub _
theorem pr_160 (x y z : Int32) : u_X0_passReference_160 U S N x y z t = (u_X0_refer U S N x z y t).bind fun q => u_X0_finishWord U S N q.1 q.2 := obu _ _
/-- where the class is doomed -/
theorem pr_d {f j : Nat} (hC : CA t) (hi : t.2.2.2.1 0 0 3 = some i) (hi2 : i < 2) (hp : p < 4096) (h10 : t.1 0 0 10 = nI p) (h4 : t.1 0 0 4 = 0) (h6 : kA t (t.1 0 0 9) = 6) (v : Int32) : ∃ t2, ul_X0_passReference_39 U S N (f + 1) v (nI j) t = some ((), t2) ∧ t2.1 0 0 4 = 0 ∧ kA t2 (t2.1 0 0 9) = 6 := by
  obtain ⟨t2, e, h1, h2⟩ := fin_d (U := U) (S := S) (N := N) hi hi2 hp h10 h4 h6 v
  refine ⟨t2, ?_, h1, h2⟩
  have e98 : u_X0_passReference_98 U S N v t = some ((), t2) := by
    unfold u_X0_passReference_98
    rw [e_begP hC, Option.bind_some]
    dsimp only
    rw [if_neg (not_not_intro (bP_6 h6)), ub, e]
  show uh_X0_passReference_39 U S N (ul_X0_passReference_39 U S N f) v (nI j) t = _
  unfold uh_X0_passReference_39
  rw [e_mdf hC, Option.bind_some]
  dsimp only
  have em : mdf t (t.1 0 0 9) = 0 := by
    unfold mdf
    rw [h6]
    rfl
  rw [if_pos em, e98]
  split <;> rfl
theorem pr_loop (hN : 5000 < N) {F : Nat} (hF : F < 6) : ∀ (f g a j k : Nat) (d v : Int32) (t : CS) (s : RS), JW b n P c m T ν i p t s → LA b n P c m t s a → t.1 0 0 4 = 0 → s.1 5 = 0 → t.1 0 0 9 = nI a → (d = 0 ∨ d = 1) → 1 ≤ k → (k = 1 → ¬ bP t (nI a) = 0) → j ≤ a → k ≤ a → c + 3 < a + f → c + 3 < a + g → ∃ t2 s2, ul_X0_passReference_39 U S N f (nI (512 * F) ||| idB d) (nI j) t = some ((), t2) ∧ l_word_113 U S N g v (nI F) (nI k) d (-1) (-1) 0 s = some ((), s2) ∧ OUT b n P c m i s t2 s2 := by
  intro f
  induction f with
  | zero => intro g a j k d v t s _ hl _ _ _ _ _ _ _ _ hf _; have := hl.1; omega
  | succ f ih =>
    intro g a j k d v t s h hl h4 h5 h9 hd hk1 hkb hj hka hf hg
    obtain ⟨hE, hi2, hi, hcn, hp, h10, h29, h28, h7, hfz, h8, h12⟩ := id h
    obtain ⟨-, -, ⟨-, -, ec, -, hc, -⟩, -, -, -, -, h11, -, hCA⟩ := id hE
    have hac := hl.1
    obtain ⟨g, rfl⟩ : ∃ g', g = g' + 1 := ⟨g - 1, by omega⟩
    obtain ⟨g, rfl⟩ : ∃ g', g = g' + 1 := ⟨g - 1, by omega⟩
    obtain ⟨f, rfl⟩ : ∃ f', f = f' + 1 := ⟨f - 1, by omega⟩
    have hk0 : ¬ (nI k : Int32) = 0 := fun z => by have := (eqL (k := 0) (c := 0) rfl (by omega) (by decide)).mp z; omega
    have hk00 : ¬ (nI k : Int32) ≤ 0 := fun z => by have := (leL (k := 0) (c := 0) rfl (by omega) (by decide)).mp z; omega
    have hF1 : ¬ (nI F : Int32) = -1 := nI_ne (by omega)
    have hpl : plW (t.1 0 0 10) := ⟨p, by omega, h10⟩
    obtain ⟨-, -, o3, o4, o5, o6, o7⟩ := op_tab F hF
    show ∃ t2 s2, uh_X0_passReference_39 U S N (ul_X0_passReference_39 U S N (f + 1)) (nI (512 * F) ||| idB d) (nI j) t = some ((), t2) ∧ _
    unfold uh_X0_passReference_39
    rw [ec, if_neg (fun z => by have := (ltI (by omega) (by omega)).mp z; omega), e_mdf hCA, Option.bind_some, h9]
    dsimp only
    by_cases cm : mdf t (nI a) = 0
    · rw [if_pos cm]
      unfold u_X0_passReference_98
      rw [e_begP hCA, Option.bind_some, h9]
      dsimp only
      have hop : W12 (nI (512 * F) ||| idB d) := w12_or (w12_n (by omega)) (idB_w d)
      by_cases cb : bP t (nI a) = 0
      · -- no address
        rw [if_neg (not_not_intro cb), ub, w_end hN hE hl h5 cb, w_mem h5 hF (by have := mt hkb (not_not_intro cb); omega) (by omega), if_pos rfl]
        have em : g_memory U S N (nI (512 * F)) d 0 (-1) s = some ((nI (512 * F) ||| idB d) ||| 0, s) := by
          have e12 : g_memory U S N (nI (512 * F)) d 0 (-1) s = g_memory_12 U S N d 0 (-1) (nI (512 * F)) (idB d) s := by
            unfold g_memory idB
            split <;> rfl
          rw [e12]
          unfold g_memory_12
          rw [if_neg (show ¬ (128 : Int32) ≤ 0 by decide)]
        rw [em, Option.bind_some]
        dsimp only
        rw [w_398 h5]
        exact fin_eq (U := U) (S := S) (N := N) h hl h4 h5 h9 (fun _ => ⟨by rw [Int32.or_zero], hop⟩)
      · -- an address
        rw [if_pos cb]
        obtain ⟨x, y, t2, s2, r1, r2, r3⟩ := item_eq (U := U) (S := S) hN h hl h4 h5 h9
        have hG2 : CA t2 := by
          obtain ⟨x', t2', e', g', -⟩ := s_item (U := U) (S := S) (t0 := t) hN ⟨hCA, AF_refl t⟩
          rw [r1] at e'
          rw [(Prod.mk.inj (Option.some.inj e')).2]
          exact g'.1
        rw [w_go hN hE hl h5 cb, w_150 hE hl, r2, Option.bind_some, r1, Option.bind_some]
        dsimp only
        rw [pr_160, e_kind hG2, Option.bind_some]
        dsimp only
        rw [e_isLit, Option.bind_some]
        dsimp only
        rw [pr_160, e_begP hG2, Option.bind_some]
        dsimp only
        rw [pr_160]
        obtain ⟨q1, q2, q3⟩ := r3
        rcases q3 with ⟨u1, u2⟩ | ⟨u1, u2, u3, u4⟩ | ⟨u1, u2, rfl, u4, u5, u6, a2, u7, u8, u9, u10, u11⟩
        · rw [if_pos u1, rf_f u1, Option.bind_some, w_219f _ q1 u2]
          obtain ⟨t3, e3, hf3⟩ := fin_f (U := U) (S := S) (N := N) u1 0
          exact ⟨t3, s2, e3, rfl, q1, q2, Or.inl ⟨hf3, u2⟩⟩
        · rw [if_neg (not_not_intro u1), if_pos (bP_6 u3), ite_self, w_219f _ q1 u2]
          obtain ⟨v2, t3, e3, hr⟩ := rf_any (U := U) (S := S) hN hG2 u1 (nI (512 * F) ||| idB d) x (nI a)
          rw [e3, Option.bind_some]
          dsimp only
          rcases hr with hr | ⟨hr, hr2, hr3⟩
          · obtain ⟨t4, e4, hf4⟩ := fin_f (U := U) (S := S) (N := N) hr v2
            exact ⟨t4, s2, e4, rfl, q1, q2, Or.inl ⟨hf4, u2⟩⟩
          · have sr3 := SR_t u4 hr2
            have k3 : kA t3 (t3.1 0 0 9) = 6 := by rw [hr3, (SR_k hr2).1]; exact u3
            obtain ⟨-, -, -, -, -, -, -, -, -, z10, z11⟩ := sr3
            obtain ⟨t4, e4, f1, f2⟩ := fin_d (U := U) (S := S) (N := N) (t := t3) (i := i) (p := p) (by rw [z11]; exact hi) hi2 hp (by rw [z10]; exact h10) hr k3 v2
            exact ⟨t4, s2, e4, rfl, q1, q2, Or.inr (Or.inl ⟨f1, u2, f2⟩)⟩
        · rw [if_neg (not_not_intro u1), (SR_k u5).1]
          have h30 : ¬ lS (kA t (nI a)) = 0 ∨ (¬ s2.1 30 = 6 ∧ ¬ s2.1 30 = 7) := by
            by_cases c1 : lS (kA t (nI a)) = 0
            · rw [if_pos c1] at u6
              have no : ∀ w : Nat, (w = 11 ∨ w = 12) → ¬ s2.1 30 = nI (w - 5) := by
                intro w hw e
                rw [e] at u6
                obtain ⟨y1, y2, y3, y4, y5, -⟩ := aln_x u6.symm (nI_ne (by omega))
                obtain ⟨w2, w3, w4, w5⟩ := cd_lt y2 y3
                rw [w5, show (5 : Int32) = nI 5 from rfl, sub_nI w3] at y4
                have e2 : w2 = w := by have := (eqI (by omega) (by omega)).mp y4; omega
                rw [e2] at w5
                have : ¬ mdf t (nI a) = 0 := by
                  unfold mdf
                  rw [y1, w5, nI_1, if_neg (not_not_intro rfl), if_neg (not_not_intro y5)]
                  rcases hw with rfl | rfl
                  · decide
                  · decide
                exact this cm
              exact Or.inr ⟨no 11 (Or.inl rfl), no 12 (Or.inr rfl)⟩
            · exact Or.inl c1
          rw [w_219a _ u2 hk0 hk00 hF1 h30, nI_1]
          obtain ⟨xv, hxv, exv⟩ := id u4
          obtain ⟨hE2, -, -, -, -, -, -, -, -, hfz2, -⟩ := id u9
          -- the reference to its end
          have fin : ∃ t3 s3, ((u_X0_refer U S N (nI (512 * F) ||| idB d) x (nI a) t2).bind fun q => u_X0_finishWord U S N q.1 q.2) = some ((), t3) ∧ g_word_354 U S N (v ||| x) (nI F) (nI (k + 1)) d x (s.1 13) s2 = some ((), s3) ∧ OUT b n P c m i s t3 s3 := by
            rw [w_mem u2 hF (by omega) (by omega), if_neg (by rw [exv]; exact nI_ne (by omega)), exv]
            obtain ⟨x1, y1, t3, s3, m1, m2, m3, m4, m5⟩ := mem_rf (U := U) (S := S) hN u9 u1 u2 hF hxv d (nI a) (s.1 13)
            rw [m1, m2, Option.bind_some, Option.bind_some]
            dsimp only
            rcases m5 with ⟨m5, m6⟩ | ⟨m5, m6, m7, m8, m9, m10, m11⟩
            · rw [w_398f m6]
              obtain ⟨t4, e4, hf4⟩ := fin_f (U := U) (S := S) (N := N) m5 x1
              exact ⟨t4, s3, e4, rfl, m3, SF_t q2 m4, Or.inl ⟨hf4, m6⟩⟩
            · rw [w_398 m6]
              have hl3 : LA b n P c m t3 s3 a2 := LA_SR (LA_SL u10 (by rw [m10]) (by rw [m10]) (by rw [m10]) (by rw [m10]) (by rw [m10])) m8
              obtain ⟨t4, s4, f1, f2, f3, f4, f5⟩ := fin_eq (U := U) (S := S) (N := N) m11 hl3 m5 m6 (m9.trans u8) m7
              exact ⟨t4, s4, f1, f2, f3, SF_t (SF_t q2 m4) f4, f5⟩
          by_cases c1 : lS (kA t (nI a)) = 0
          · rw [if_neg (not_not_intro c1), c1]
            by_cases c2 : bP t2 (t2.1 0 0 9) = 0
            · rw [if_pos c2]
              rw [u8] at c2
              rw [w_end hN hE2 u10 u2 c2]
              exact fin
            · rw [if_neg c2]
              rw [u8] at c2
              rw [w_go hN hE2 u10 u2 c2]
              unfold g_word_150
              rw [if_neg (by rw [exv]; exact nI_ne (by omega)), g_fails_eq hfz2, Option.bind_some]
              obtain ⟨t3, e3, hf3⟩ := e_report (U := U) (S := S) (N := N) hG2 (show ¬ (2 : Int32) = 0 by decide) (nI a)
              rw [e3, Option.bind_some]
              dsimp only
              rw [pr_160, rf_f hf3, Option.bind_some]
              obtain ⟨t4, e4, hf4⟩ := fin_f (U := U) (S := S) (N := N) hf3 0
              exact ⟨t4, _, e4, rfl, flt_FZ hfz2 (by decide), SF_t q2 (SF_SL (flt_SL _ _)), Or.inl ⟨hf4, flt_ne (by decide)⟩⟩
          · rw [if_pos c1, w_lit u2 c1]
            exact fin
    · -- a modifier
      rw [if_neg cm]
      obtain ⟨y1, y2, w, hw, y3⟩ : kA t (nI a) = 1 ∧ oP (kA t (nI (a + 1))) = 0 ∧ ∃ w, (w = 11 ∨ w = 12) ∧ vA t (nI a) = nI w := by
        unfold mdf at cm
        rw [nI_1] at cm
        by_cases z1 : kA t (nI a) = 1
        · rw [if_neg (not_not_intro z1)] at cm
          by_cases z2 : oP (kA t (nI (a + 1))) = 0
          · rw [if_neg (not_not_intro z2)] at cm
            by_cases z3 : vA t (nI a) = 11
            · exact ⟨z1, z2, 11, Or.inl rfl, z3⟩
            · rw [if_neg z3] at cm
              by_cases z4 : vA t (nI a) = 12
              · exact ⟨z1, z2, 12, Or.inr rfl, z4⟩
              · rw [if_pos z4] at cm
                exact absurd rfl cm
          · rw [if_pos z2] at cm
            exact absurd rfl cm
        · rw [if_pos z1] at cm
          exact absurd rfl cm
      obtain ⟨v1, v2, v3⟩ := rv_cd hCA y1 y3 (by omega) (by omega) y2
      have hlS : lS (kA t (nI a)) = 0 := by rw [y1]; rfl
      have hbp : ¬ bP t (nI a) = 0 := by
        intro z
        have z1 := ((bP_l t _).mp z).1
        unfold bV at z1
        rw [y1, y3, sN_n (by omega), if_neg (not_not_intro rfl), if_neg (show ¬ w < 5 by omega), if_neg (not_not_intro rfl)] at z1
        exact absurd z1 (by decide)
      obtain ⟨y, s2, g1, g2, g3, g4, g5⟩ := all_eq (U := U) (S := S) hN hE hfz h5 hl h29 hpl
      obtain ⟨w1, w2, w3⟩ := g5 _ v1
      rw [w_go hN hE hl h5 hbp, w_150 hE hl, hlS, if_pos rfl, g1, Option.bind_some, e_value hCA, Option.bind_some]
      dsimp only
      rw [e_nval hCA, Option.bind_some, Option.bind_some, y3, v3, h9, nI_1, nI_1]
      dsimp only
      have e30 : s2.1 30 = nI (w - 5) := w3.trans v2
      obtain ⟨d2, hd2, ed2⟩ : ∃ d2, (d2 = 0 ∨ d2 = 1) ∧ (nI (512 * F) ||| idB d) ||| nm0.2.2.1 w = nI (512 * F) ||| idB d2 ∧ (if ¬ d = 0 then (1 : Int32) else if s2.1 30 = 6 then 1 else 0) = d2 := by
        refine ⟨_, ?_, ?_, rfl⟩
        · split
          · exact Or.inr rfl
          · split
            · exact Or.inr rfl
            · exact Or.inl rfl
        · rw [e30]
          rcases hw with rfl | rfl
          · rw [fx_cd 6 (by decide), if_neg (by decide), if_pos rfl, if_pos (show nI (11 - 5) = 6 from rfl), ite_self]
            rcases hd with rfl | rfl
            · exact o3
            · exact o4
          · rw [fx_cd 7 (by decide), if_neg (by decide), if_neg (by decide), if_neg (show ¬ nI (12 - 5) = 6 by decide)]
            rcases hd with rfl | rfl
            · exact o5
            · exact o6
      obtain ⟨ed3, ed4⟩ := ed2
      rw [ed3]
      rcases w2 with ⟨k1, k2⟩ | ⟨k1, k2, k3⟩
      · rw [w_219f _ g3 k2]
        obtain ⟨t3, e3, f1, f2⟩ := pr_d (U := U) (S := S) (N := N) (f := f) (j := j + 1) (t := qI t 0 0 9 (nI (a + 1))) (i := i) (p := p) (CA_9 hCA _) hi hi2 hp h10 h4 k1 (nI (512 * F) ||| idB d2)
        exact ⟨t3, s2, e3, rfl, g3, SF_SL g2, Or.inr (Or.inl ⟨f1, k2, f2⟩)⟩
      · rw [w_219m _ k2 hk0 hk00 hF1 (by rw [e30]; rcases hw with rfl | rfl; exact Or.inl rfl; exact Or.inr rfl), ed4, nI_1]
        obtain ⟨t3, s3, f1, f2, f3, f4, f5⟩ := ih (g + 1) (a + 1) (j + 1) (k + 1) d2 (v ||| y) (qI t 0 0 9 (nI (a + 1))) s2 (JW_SL h g2 g3 _) k3 h4 k2 rfl hd2 (by omega) (fun z => by omega) (by omega) (by omega) (by omega) (by omega)
        exact ⟨t3, s3, f1, f2, f3, SF_t (SF_SL g2) f4, f5⟩
end
