/-! LAYER 3, the assemblers side by side: labels -/
def isLab (t : CS) (x : Nat) : Prop := kA t (nI x) = 1 ∧ kA t (nI (x + 1)) = 44
def OUL (b : Nat → Int32) (n : Nat) (P : Nat → Nat) (c m i : Nat) (s : RS) (t2 : CS) (s2 : RS) : Prop := FZ s2 ∧ SF s s2 ∧ ((¬ t2.1 0 0 4 = 0 ∧ ¬ s2.1 5 = 0) ∨ (t2.1 0 0 4 = 0 ∧ ¬ s2.1 5 = 0 ∧ kA t2 (t2.1 0 0 9) = 6) ∨ (t2.1 0 0 4 = 0 ∧ s2.1 5 = 0 ∧ ∃ a T ν, t2.1 0 0 9 = nI a ∧ JS b n P c m T ν i t2 s2 ∧ LA b n P c m t2 s2 a ∧ ¬ isLab t2 a))
section
variable {U S N n c m T i : Nat} {b : Nat → Int32} {P ν : Nat → Nat} {t : CS} {s : RS}
theorem kA_tl {w : Nat} {v g : Int32} : kA (tlT t w v g) = kA t := by
  funext a
  unfold kA
  rw [(tl_f w v g).1 0 (by decide), (tl_f w v g).1 9 (by decide), (tl_f w v g).2.1 9 (by decide)]
theorem lab63 : g_labels_63 U S N s = some ((), pI s 27 (s.1 13)) := rfl
theorem JS_27 (h : JS b n P c m T ν i t s) (x : Int32) : JS b n P c m T ν i t (pI s 27 x) := by
  obtain ⟨⟨q1, q2, q3, q4, q5, q6, q7, q8, q9, q10⟩, h2, h3, h4, h5, h6, h7, h8, h9, h10, h11, h12⟩ := h
  exact ⟨⟨q1, q2, q3, q4, RN_s q5 rfl rfl rfl rfl rfl, q6, q7, q8, q9, q10⟩, h2, h3, h4, h5, h6, h7, h8, h9, h10, h11, RSh_s h12 ⟨rfl, rfl, rfl, rfl⟩⟩
theorem lab_rf (h5 : ¬ s.1 5 = 0) (g : Nat) : l_labels_0 U S N (g + 1) s = some ((), pI s 27 (s.1 13)) := by
  show h_labels_0 U S N (l_labels_0 U S N g) s = _
  unfold h_labels_0
  rw [if_pos h5]
  rfl
theorem lab_cf (h4 : ¬ t.1 0 0 4 = 0) (f : Nat) (x : Int32) : ul_X0_passLabels_2 U S N (f + 1) x t = some ((), t) := by
  show uh_X0_passLabels_2 U S N (ul_X0_passLabels_2 U S N f) x t = _
  unfold uh_X0_passLabels_2 u_X0_passLabels_106
  by_cases c : t.1 9 0 5 < x
  · rw [if_pos c]
  · rw [if_neg c, if_pos h4]
theorem lab_c6 (h : CA t) (hk : ¬ kA t (t.1 0 0 9) = 1) (f : Nat) (x : Int32) : ul_X0_passLabels_2 U S N (f + 1) x t = some ((), t) := by
  show uh_X0_passLabels_2 U S N (ul_X0_passLabels_2 U S N f) x t = _
  unfold uh_X0_passLabels_2 u_X0_passLabels_106 u_X0_passLabels_47
  by_cases c : t.1 9 0 5 < x
  · rw [if_pos c]
  · rw [if_neg c]
    by_cases c4 : ¬ t.1 0 0 4 = 0
    · rw [if_pos c4]
    · rw [if_neg c4, e_kind h, Option.bind_some]
      dsimp only
      rw [if_pos hk]
theorem lab_cn {a : Nat} (h : CA t) (h9 : t.1 0 0 9 = nI a) (hk : ¬ isLab t a) (f : Nat) (x : Int32) : ul_X0_passLabels_2 U S N (f + 1) x t = some ((), t) := by
  by_cases k1 : kA t (nI a) = 1
  · have k2 : ¬ kA t (nI (a + 1)) = 44 := fun z => hk ⟨k1, z⟩
    show uh_X0_passLabels_2 U S N (ul_X0_passLabels_2 U S N f) x t = _
    unfold uh_X0_passLabels_2 u_X0_passLabels_106 u_X0_passLabels_47
    by_cases c : t.1 9 0 5 < x
    · rw [if_pos c]
    · rw [if_neg c]
      by_cases c4 : ¬ t.1 0 0 4 = 0
      · rw [if_pos c4]
      · rw [if_neg c4, e_kind h, Option.bind_some]
        dsimp only
        rw [h9, if_neg (not_not_intro k1), nI_1, e_kind h, Option.bind_some]
        dsimp only
        rw [if_neg k2]
  · exact lab_c6 h (by rw [h9]; exact k1) f x
/-- the labels before a statement -/
theorem j_labels (hN : 5000 < N) : ∀ (f g j a T : Nat) (ν : Nat → Nat) (t : CS) (s : RS), JS b n P c m T ν i t s → LA b n P c m t s a → t.1 0 0 4 = 0 → s.1 5 = 0 → t.1 0 0 9 = nI a → j ≤ a → c + 2 < a + f → c + 2 < a + g → (t.1 0 0 6 = 0 ∨ ∀ d, (∀ e, e < d → isLab t (a + 2 * e)) → isLab t (a + 2 * d) → gA t (vA t (nI (a + 2 * d))) = 1 ∧ nA t (vA t (nI (a + 2 * d))) = t.1 0 0 10 &&& 4095) → ∃ t2 s2, ul_X0_passLabels_2 U S N f (nI j) t = some ((), t2) ∧ l_labels_0 U S N g s = some ((), s2) ∧ OUL b n P c m i s t2 s2 := by
  intro f
  induction f with
  | zero => intro g j a T ν t s h hl; have := hl.1; omega
  | succ f ih =>
    intro g j a T ν t s h hl h4 h5 h9 hj hf1 hg1 hlab
    have ha := hl.1
    obtain ⟨g, rfl⟩ : ∃ k, g = k + 1 := ⟨g - 1, by omega⟩
    obtain ⟨hE, h2, h3, h4', hpl, h29, h28, h7, hf, hd8, hd6, hsh⟩ := id h
    obtain ⟨hn, hB, ⟨-, -, ec, -, hc, -⟩, ⟨em, hm53, hm, hinj, hfx⟩, hRN, ⟨hs3, hb⟩, -, hs11, hs9, hCA⟩ := id hE
    obtain ⟨e1, e2, -, -⟩ := LA_k hE hl
    by_cases lab : isLab t a
    · obtain ⟨k1, k2⟩ := lab
      have hK : t.2.1 9 0 1 a = 1 := by rw [← e1]; exact k1
      obtain ⟨e12, st, z, w, w1, w2, w3, w4, w5, w6, w7, w8, w9, w10⟩ := LA_n hE hl (Or.inl hK)
      have hvw : vA t (nI a) = nI w := by
        rcases w10 with ⟨-, y, -⟩ | ⟨y, -⟩
        · rw [e2]; exact y
        · exact absurd hK y
      obtain ⟨g1, g2⟩ := gA_n hE w8
      have hz16 : z = P (a + 1) := by
        have := LA_t hE hl (Or.inl hK)
        rw [w3] at this
        exact (eqI (by omega) (by have := tk_nx hE hl.1 (fk_t (Or.inl hK)); obtain ⟨-, -, -, -, q, -⟩ := this; omega)).mp this
      have hnext : g_isNext U S N 44 s = some (1, s) := (g_next_eq (U := U) (S := S) hN hn hs3 hb 44 (show z ≤ 2001 by omega) w3).1 (by rw [hz16]; exact (nxk hE ha hK (Or.inl rfl)).mpr k2)
      obtain ⟨ha1, -⟩ := tk_nx hE hl.1 (fk_t (Or.inl hK))
      obtain ⟨s1, v1, tk, -⟩ := take4 (U := U) (S := S) hN hE hf hl (Or.inl hK)
      obtain ⟨t1, -, t3, -, t5⟩ := id tk
      obtain ⟨u2, u3⟩ : s1.1 5 = 0 ∧ LA b n P c m t s1 (a + 1) := by
        rcases t5 h5 with ⟨u1, -⟩ | ⟨-, u2, u3⟩
        · rw [k2] at u1; exact absurd u1 (by decide)
        · exact ⟨u2, u3⟩
      have hE1 := EX_SL hE t1
      obtain ⟨f1, -, -, -⟩ := LA_k hE1 u3
      have hs44 : sgn (t.2.1 9 0 1 (a + 1)) ∧ ¬ t.2.1 9 0 1 (a + 1) = 36 := by
        rw [← f1, k2]
        exact ⟨sgn_y 44 (by decide), by decide⟩
      have s111 : s1.1 11 = t.1 0 0 10 := (t1.1 11 (by decide)).trans hs11
      have eR : l_labels_0 U S N (g + 1) s = (g_tells U S N (nI st) (nI (z - st)) (t.1 0 0 10) 1 s1).bind fun q10 => if ¬ (q10.2.1 5) = 0 then l_labels_0 U S N g q10.2 else (g_take U S N q10.2).bind fun q13 => l_labels_0 U S N g q13.2 := by
        show h_labels_0 U S N (l_labels_0 U S N g) s = _
        unfold h_labels_0 g_labels_60
        rw [if_neg (not_not_intro h5), e12, if_neg (not_not_intro rfl), hnext, Option.bind_some]
        dsimp only
        rw [if_neg (show ¬ (1 : Int32) = 0 by decide), v1, Option.bind_some, w1, w2]
        dsimp only
        rw [s111]
      have hplne : ¬ t.1 0 0 10 = -1 := by
        obtain ⟨k, hk, e⟩ := hpl
        rw [e]
        exact nI_ne (by omega)
      -- the class: up to the sign's end
      have eC : ul_X0_passLabels_2 U S N (f + 1) (nI j) t = if ¬ t.1 0 0 6 = 0 then ul_X0_passLabels_2 U S N f (nI (j + 1)) (qI t 0 0 9 (nI (a + 2))) else (u_X0_mayTell U S N 1 t).bind fun q11 => if q11.1 = 0 then u_X0_passLabels_90 U S N (ul_X0_passLabels_2 U S N f) (nI j) q11.2 else (u_X9_valueOf U S N (q11.2.1 0 0 9) q11.2).bind fun q16 => (u_X4_tell U S N q16.1 ((q16.2.1 0 0 10) &&& 4095) 1 q16.2).bind fun q19 => u_X0_passLabels_90 U S N (ul_X0_passLabels_2 U S N f) (nI j) q19.2 := by
        show uh_X0_passLabels_2 U S N (ul_X0_passLabels_2 U S N f) (nI j) t = _
        unfold uh_X0_passLabels_2
        rw [ec, if_neg (fun q => by have := (ltI (by omega) (by omega)).mp q; omega), if_neg (not_not_intro h4), e_kind hCA, Option.bind_some]
        dsimp only
        rw [h9, if_neg (not_not_intro k1), nI_1, e_kind hCA, Option.bind_some]
        dsimp only
        rw [if_pos k2]
        by_cases c6 : t.1 0 0 6 = 0
        · rw [if_neg (not_not_intro c6), if_neg (not_not_intro c6)]
        · rw [if_pos c6, if_pos c6]
          unfold u_X0_passLabels_90
          rw [Option.bind_some, h9, show nI a + 2 = nI (a + 2) from nI_add a 2, nI_1]
      obtain ⟨f, rfl⟩ : ∃ k, f = k + 1 := ⟨f - 1, by omega⟩
      obtain ⟨g, rfl⟩ : ∃ k, g = k + 1 := ⟨g - 1, by omega⟩
      -- behind the sign
      have tail : ∀ (t' : CS) (s' : RS) (T' : Nat) (ν' : Nat → Nat), JS b n P c m T' ν' i t' s' → LA b n P c m t' s' (a + 1) → SF s s' → s'.1 5 = 0 → t'.1 0 0 4 = 0 → kA t' = kA t → t'.2.1 9 0 1 (a + 1) = t.2.1 9 0 1 (a + 1) → (t'.1 0 0 6 = 0 ∨ ∀ d, (∀ e, e < d → isLab t' (a + 2 + 2 * e)) → isLab t' (a + 2 + 2 * d) → gA t' (vA t' (nI (a + 2 + 2 * d))) = 1 ∧ nA t' (vA t' (nI (a + 2 + 2 * d))) = t'.1 0 0 10 &&& 4095) → ∃ t2 s2, ul_X0_passLabels_2 U S N (f + 1) (nI (j + 1)) (qI t' 0 0 9 (nI (a + 2))) = some ((), t2) ∧ ((g_take U S N s').bind fun q13 => l_labels_0 U S N (g + 1) q13.2) = some ((), s2) ∧ OUL b n P c m i s t2 s2 := by
        intro t' s' T' ν' hJ' hl' sf' h5' h4'' hkk hk9 hlab'
        obtain ⟨sx, x1, xk, -⟩ := take4 (U := U) (S := S) hN hJ'.1 hJ'.2.2.2.2.2.2.2.2.1 hl' (Or.inr (Or.inr (Or.inr (by rw [hk9]; exact hs44))))
        obtain ⟨y1, -, y3, -, y5⟩ := xk
        rw [x1, Option.bind_some]
        dsimp only
        have sfx := SF_t sf' (SF_SL y1)
        have hC9 : CA (qI t' 0 0 9 (nI (a + 2))) := CA_9 hJ'.1.2.2.2.2.2.2.2.2.2 _
        rcases y5 h5' with ⟨z1, z2, -⟩ | ⟨z1, z2, z3⟩
        · have hfx : ¬ sx.1 5 = 0 := by rw [z2]; decide
          rw [lab_rf hfx, lab_c6 hC9 (by show ¬ kA t' (nI (a + 2)) = 1; rw [z1]; decide)]
          exact ⟨_, _, rfl, rfl, y3, SF_I sfx (by decide) _, Or.inr (Or.inl ⟨h4'', hfx, z1⟩)⟩
        · obtain ⟨t2, s2, q1, q2, q3, q4, q5⟩ := ih (g + 1) (j + 1) (a + 2) T' ν' (qI t' 0 0 9 (nI (a + 2))) sx (JS_9 (JS_SL hJ' y1 y3) _) z3 h4'' z2 rfl (by omega) (by omega) (by omega) hlab'
          exact ⟨t2, s2, q1, q2, q3, SF_t sfx q4, q5⟩
      rw [eR, eC]
      by_cases c6 : t.1 0 0 6 = 0
      · rw [if_neg (not_not_intro c6)]
        have h91 : s1.1 9 = 0 := by rw [t1.1 9 (by decide), hs9]; exact c6
        obtain ⟨q1, -, q3⟩ := tells1 (U := U) (S := S) (v := t.1 0 0 10) hN hE1 t3 u2 h91 w4 w6 w7 w8 w9 (Or.inr rfl : (1 : Int32) = 0 ∨ (1 : Int32) = 1)
        have hmr := mt_rt hE h9 hvw w8 (x := 1) (cm := 1) (Or.inl ⟨rfl, rfl⟩)
        rcases e_mt (U := U) (S := S) (N := N) hCA 1 with ⟨-, ok, em2⟩ | ⟨nok, t2, em2, hft⟩
        · have rok := hmr.mp ok
          have g0 : t.2.1 4 0 2 w = 0 ∧ T < 200 := by
            rcases rok.2 with k | k
            · exact k
            · exact absurd k.2 (by decide)
          obtain ⟨s2, y1, y2, y3, y4⟩ := q1 rok g0.1
          rw [y1, Option.bind_some, em2, Option.bind_some]
          dsimp only
          have f5 : s2.1 5 = 0 := by rw [y3]; exact u2
          rw [f5, if_neg (show ¬ ¬ (0 : Int32) = 0 from fun z => z rfl), if_neg (show ¬ (1 : Int32) = 0 by decide), e_value hCA, Option.bind_some]
          dsimp only
          rw [h9, hvw, e_tell2 em hm w8, Option.bind_some]
          unfold u_X0_passLabels_90
          rw [Option.bind_some]
          dsimp only
          rw [(tl_f w (t.1 0 0 10 &&& 4095) 1).1 0 (by decide), h9, show nI a + 2 = nI (a + 2) from nI_add a 2, nI_1]
          have h21 : s1.1 21 = nI T := (t1.1 21 (by decide)).trans hRN.2.1
          have y4' : s2.2.1 19 = upd (s1.2.1 19) T (t.1 0 0 10 &&& 4095) := by rw [y4, if_neg hplne]
          have yf : ∀ k, k ≠ 21 → s2.1 k = s1.1 k := fun k hk => by rw [y3, up1_n _ _ hk]
          have hRNn : RN (tlT t w (t.1 0 0 10 &&& 4095) 1) s2 m (T + 1) (up1 ν T w) := RN_new hE1.2.2.2.2.1 y2 (by rw [y3, up1_s]) (fun k hk => by rw [y4', upd_n _ _ (by omega)]) (by rw [y4', upd_y]) g0.2 w7 (nm_chs w4) w9 rok.1 w8 g0.1 (Or.inl ⟨rfl, rfl⟩)
          have hEn : EX b n P c m (T + 1) (up1 ν T w) (tlT t w (t.1 0 0 10 &&& 4095) 1) s2 := EX_tl (s := s1) hE1 rok.1 (w12_and _) hRNn ⟨yf 3 (by decide), yf 10 (by decide), yf 11 (by decide), yf 9 (by decide)⟩ (y2.2.2.2.1 2 (by decide) (by decide) (by decide) (by decide))
          have hJn : JS b n P c m (T + 1) (up1 ν T w) i (tlT t w (t.1 0 0 10 &&& 4095) 1) s2 := JS_tl (JS_SL h t1 t3) hEn (by rw [yf 29 (by decide)]; exact (t1.1 29 (by decide)).trans h29) (by rw [yf 28 (by decide)]; exact (t1.1 28 (by decide)).trans h28) (Or.inl f5) ⟨y2.2.2.2.1 22 (by decide) (by decide) (by decide) (by decide), y2.2.2.2.1 23 (by decide) (by decide) (by decide) (by decide), y2.2.2.2.1 24 (by decide) (by decide) (by decide) (by decide), y2.2.2.2.1 26 (by decide) (by decide) (by decide) (by decide)⟩
          have sf2 : SF s s2 := SF_t (SF_SL t1) ⟨fun k hk => yf k (by omega), fun k hk => y2.2.2.2.1 k (by omega) (by omega) (by omega) (by omega), y2.2.2.2.2⟩
          exact tail _ s2 (T + 1) (up1 ν T w) hJn (LA_tl (LA_SL u3 (yf 12 (by decide)) (yf 13 (by decide)) (yf 14 (by decide)) (yf 15 (by decide)) (yf 16 (by decide)))) sf2 f5 (by rw [(tl_f w (t.1 0 0 10 &&& 4095) 1).1 0 (by decide)]; exact h4) kA_tl (by rw [(tl_f w (t.1 0 0 10 &&& 4095) 1).2.1 9 (by decide)]) (Or.inl (by rw [(tl_f w (t.1 0 0 10 &&& 4095) 1).1 0 (by decide)]; exact c6))
        · obtain ⟨s2, y1, y2, y3, y4⟩ := q3 (fun k => nok ⟨h4, hmr.mpr k⟩)
          rw [y1, Option.bind_some, em2, Option.bind_some]
          dsimp only
          rw [if_pos y4, lab_rf y4, if_pos (show (0 : Int32) = 0 from rfl)]
          unfold u_X0_passLabels_90
          rw [Option.bind_some, lab_cf (t := qI t2 0 0 9 (t2.1 0 0 9 + 2)) hft]
          exact ⟨_, _, rfl, rfl, y3, SF_I (SF_SL (SL_t t1 y2)) (by decide) _, Or.inl ⟨hft, y4⟩⟩
      · rw [if_pos c6]
        have hl0 := hlab.resolve_left c6
        obtain ⟨l1, l2⟩ := hl0 0 (fun e he => absurd he (Nat.not_lt_zero e)) ⟨k1, k2⟩
        rw [Nat.mul_zero, Nat.add_zero, hvw, g1] at l1
        rw [Nat.mul_zero, Nat.add_zero, hvw, g2] at l2
        have hw53 : 53 ≤ w := by
          by_cases c53 : w < 53
          · rw [(hfx w c53).2.2] at l1; exact absurd l1 (by decide)
          · omega
        have h91 : ¬ s1.1 9 = 0 := by rw [t1.1 9 (by decide), hs9]; exact c6
        obtain ⟨k, hk, ek, y1⟩ := tells2 (U := U) (S := S) (v := t.1 0 0 10) (cm := 1) hN hE1 t3 u2 h91 w4 w6 w7 w8 w9 hw53 (by rw [l1]; decide)
        have e19 : s1.2.1 19 k = t.1 0 0 10 &&& 4095 := by
          obtain ⟨-, -, -, k4, -⟩ := hE1.2.2.2.2.1.2.2.2.1 k hk
          rw [k4, ek, l2]
        rw [y1, if_neg hplne, pA_id s1 e19, Option.bind_some]
        dsimp only
        rw [u2, if_neg (show ¬ ¬ (0 : Int32) = 0 from fun z => z rfl)]
        refine tail t s1 T ν (JS_SL h t1 t3) u3 (SF_SL t1) u2 h4 rfl rfl (Or.inr (fun d hd1 hd2 => ?_))
        have := hl0 (d + 1) (fun e he => ?_) (by rw [show a + 2 * (d + 1) = a + 2 + 2 * d by omega]; exact hd2)
        · rw [show a + 2 * (d + 1) = a + 2 + 2 * d by omega] at this
          exact this
        · by_cases e0 : e = 0
          · subst e0; exact ⟨k1, k2⟩
          · have := hd1 (e - 1) (by omega)
            rw [show a + 2 + 2 * (e - 1) = a + 2 * e by omega] at this
            exact this
    · -- no label
      rw [lab_cn hCA h9 lab]
      have eR : l_labels_0 U S N (g + 1) s = some ((), pI s 27 (s.1 13)) := by
        show h_labels_0 U S N (l_labels_0 U S N g) s = _
        unfold h_labels_0
        rw [if_neg (not_not_intro h5)]
        by_cases c12 : s.1 12 = 1
        · rw [if_neg (not_not_intro c12)]
          obtain ⟨-, st0, -, -, -, htk, ⟨k1, -, k3, k4, k5⟩, hnb⟩ := id hl
          have hK : t.2.1 9 0 1 a = 1 ∨ t.2.1 9 0 1 a = 4 ∨ t.2.1 9 0 1 a = 5 := by
            rcases Tok_K hB htk with z | z | z | z | z | z | ⟨z, -⟩
            · rw [(k1 (Or.inl z)).1] at c12; exact absurd c12 (by decide)
            · rw [(k1 (Or.inr z)).1] at c12; exact absurd c12 (by decide)
            · exact z
            · exact absurd (Or.inl z) hnb
            · rw [(k3 z).1] at c12; exact absurd c12 (by decide)
            · rw [(k4 z).1] at c12; exact absurd c12 (by decide)
            · rw [(k5 z).1] at c12; exact absurd c12 (by decide)
          obtain ⟨-, st, z, w, w1, w2, w3, w4, w5, w6, w7, w8, w9, w10⟩ := LA_n hE hl hK
          have hno : ¬ nx b n z 44 := by
            rcases w10 with ⟨y, -⟩ | ⟨-, -, y, -⟩
            · have hz16 : z = P (a + 1) := by
                have := LA_t hE hl (Or.inl y)
                rw [w3] at this
                exact (eqI (by omega) (by have := tk_nx hE hl.1 (fk_t (Or.inl y)); obtain ⟨-, -, -, -, q, -⟩ := this; omega)).mp this
              rw [hz16]
              exact fun q => lab ⟨by rw [e1]; exact y, (nxk hE ha y (Or.inl rfl)).mp q⟩
            · exact y
          rw [(g_next_eq (U := U) (S := S) hN hn hs3 hb 44 (show z ≤ 2001 by omega) w3).2 hno, Option.bind_some]
          rfl
        · rw [if_pos c12]
          rfl
      rw [eR]
      exact ⟨t, _, rfl, rfl, hf, SF_I (SF_0 s) (by decide) _, Or.inr (Or.inr ⟨h4, h5, a, T, ν, h9, JS_27 h _, LA_SL (s2 := pI s 27 (s.1 13)) hl rfl rfl rfl rfl rfl, lab⟩)⟩
end
