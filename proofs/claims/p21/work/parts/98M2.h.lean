/-! LAYER 3, the class's second pass beside its first: one round -/
section
variable {U S N n c m T i p a : Nat} {t t1 t2 tE : CS} {q : Int32}
theorem TW_P0 (h : TW m t1 t tE) (g : P0 n c m a p t) : P0 n c m a p t1 := by
  obtain ⟨hC1, ⟨a1, a2, a3, a4⟩, ⟨b1, b2, b3, b4, b5, b6⟩, -, -, -, q4⟩ := h
  obtain ⟨hC, ec, em, eL, hTV, hr, h4, h9, ha, h10, hp⟩ := g
  exact ⟨hC1, by rw [a1]; exact ec, by rw [a4]; exact em, by rw [a1]; exact eL, TV_K hTV a2, q4, b1, by rw [b5]; exact h9, ha, by rw [b6]; exact h10, hp⟩
theorem gA_w (em : t.1 4 0 3 = nI m) (hm : m ≤ 1054) {w : Nat} (hw : w < m) : gA t (nI w) = t.2.1 4 0 2 w ∧ nA t (nI w) = t.2.1 4 0 1 w := by
  unfold gA nA
  rw [if_neg (nI_nn (by omega)), if_neg (nI_nn (by omega)), em, if_pos ((ltI (by omega) (by omega)).mpr hw), if_pos ((ltI (by omega) (by omega)).mpr hw), nI_clamp (by omega)]
  exact ⟨rfl, rfl⟩
theorem P0_lab (hc : c ≤ 2001) (hN : 5000 < N) (h : P0 n c m a p t) (h6 : ¬ t.1 0 0 6 = 0) : u_X0_passLabels U S N t = some ((), qI t 0 0 9 (nI (labE t N a))) ∧ P0 n c m (labE t N a) p (qI t 0 0 9 (nI (labE t N a))) ∧ a ≤ labE t N a := by
  obtain ⟨hC, ec, em, eL, hTV, hr, h4, h9, ha, h10, hp⟩ := h
  obtain ⟨i1, i2, i3⟩ := lb_2 (U := U) (S := S) (N := N) hc N a 0 t hC ec h4 h6 h9 ha (by omega) (by omega)
  exact ⟨i1, ⟨CA_9 hC _, ec, em, eL, hTV, hr, h4, rfl, i3, h10, hp⟩, i2⟩
theorem TW_step (hN : 5000 < N) (hc : c ≤ 2001) (hm : m ≤ 1054) (hn : n ≤ 2000) {f1 j : Nat} (h : TW m t1 t tE) (g : P0 n c m a p t) (h6 : ¬ t.1 0 0 6 = 0) (h7 : t.1 0 0 7 = 0) (hj : j ≤ c) (e : ul_X0_passOver_29 U S N f1 (nI j) t1 = some ((), tE)) (he : tE.1 0 0 4 = 0) : (∀ d, (∀ e, e < d → isLab t (a + 2 * e)) → isLab t (a + 2 * d) → gA t (vA t (nI (a + 2 * d))) = 1 ∧ nA t (vA t (nI (a + 2 * d))) = t.1 0 0 10 &&& 4095) ∧ (dK t (labE t N a) = 256 → gA t (vA t (nI (labE t N a))) = 2) ∧ (∀ tb tc, u_X0_passStatement U S N (qI t 0 0 9 (nI (labE t N a))) = some ((), tb) → u_X0_passEnd U S N tb = some ((), tc) → tb.1 0 0 4 = 0 → tc.1 0 0 4 = 0 → ∃ f2 t1c, TW m t1c tc tE ∧ ul_X0_passOver_29 U S N f2 (nI (j + 1)) t1c = some ((), tE)) := by
  have g1 := TW_P0 h g
  obtain ⟨k1, k2, k3, k4, k5⟩ := TW_k h
  obtain ⟨hC1, ⟨a1, a2, a3, a4⟩, ⟨b1, b2, b3, b4, b5, b6⟩, q1, q2, q3, q4⟩ := id h
  obtain ⟨hC, ec, em, eL, hTV, hr, h4, h9, ha, h10, hp⟩ := id g
  cases f1 with
  | zero => cases e
  | succ f1 =>
    obtain ⟨ta, tb, tc, e1, e2, e3, s1, s2, s3, e4⟩ := ov_s (U := U) (S := S) (f := f1) (j := j) (t := t1) hN hC1 g1.2.1 hc hj b1 (b3.trans h7)
    rw [e4] at e
    have fc : tc.1 0 0 4 = 0 := by
      cases f1 with
      | zero => cases e
      | succ f =>
        apply Decidable.byContradiction
        intro zz
        rw [ov_f (Or.inl zz)] at e
        rw [← (Prod.mk.inj (Option.some.inj e)).2] at he
        exact zz he
    have fb := af_f s3 fc
    have fa := af_f s2 fb
    obtain ⟨l1, l2, l3, l4, l5, l6, l7⟩ := lb_x (U := U) (S := S) hN hc hm g1 b2 e1 fa
    rw [labE_c k1] at l1 l2
    obtain ⟨r1, r2, r3, a2', p2', r4, -⟩ := st_x (U := U) (S := S) hN hc hm hn l1 e2 fb
    obtain ⟨u1, a3', u2, -⟩ := en_x (U := U) (S := S) (N := N) hc r4 e3 fc
    have h6c : tc.1 0 0 6 = 0 ∧ tc.2.1 4 = tb.2.1 4 := by
      have h6b : tb.1 0 0 6 = 0 := by rw [r3.2.2.2.2.1, l3.2.2.2.2.1]; exact b2
      rcases u1 with ⟨-, u1⟩ | ⟨-, -, u1⟩ | ⟨-, -, u1⟩ <;> rw [u1]
      · exact ⟨h6b, rfl⟩
      · exact ⟨h6b, rfl⟩
      · exact ⟨h6b, rfl⟩
    have moC := (mo_all (U := U) (S := S) hN hc hm hn f1 (j + 1) a3' p2' tc u2 h6c.1 e he).1
    have moB : MO tb tE := MO_t (MO_e h6c.2) moC
    have moA : MO ta tE := MO_t r2 moB
    obtain ⟨v1, v2, v3, v4, v5, v6⟩ := id l3
    -- behind the labels
    have hTa : TW m ta (qI t 0 0 9 (nI (labE t N a))) tE := by
      obtain ⟨w1, w2, w3, w4, w5, w6, w7, w8, w9, w10, w11⟩ := id l1
      refine ⟨w1, ⟨v1.trans a1, v2.trans a2, v3.trans a3, v4.trans a4⟩, ⟨fa, v5.trans b2, l5.1.trans b3, l5.2.1.trans b4, w8, l5.2.2.trans b6⟩, q1, q2, fun w hwm hw => ?_, w6⟩
      have h2 := l7 w hw
      rw [(l4 w (by rw [h2]; decide)).2]
      exact q3 w hwm h2
    have hPa : P0 n c m (labE t N a) p (qI t 0 0 9 (nI (labE t N a))) := (P0_lab (U := U) (S := S) hc hN g h6).2.1
    have hDa := TW_dK hTa (labE t N a)
    have hV : dK (qI t 0 0 9 (nI (labE t N a))) (labE t N a) = 256 → ∃ w, w < m ∧ vA (qI t 0 0 9 (nI (labE t N a))) (nI (labE t N a)) = nI w := by
      intro z
      have hlt := hPa.2.2.2.2.2.2.2.2.1
      exact TV_w hPa.2.2.2.2.1 hPa.2.1 hc (by omega) (dK_256 hPa.2.2.2.2.1 hPa.2.1 hc (by omega) z).1
    refine ⟨fun d hd hd2 => ?_, fun hd => ?_, fun tb2 tc2 d1 d2 d3 d4 => ?_⟩
    · have iL : ∀ x, isLab t1 x ↔ isLab t x := fun x => by unfold isLab; rw [k1]
      obtain ⟨w, y1, y2, y3, y4⟩ := l6 d (fun e he => (iL _).mpr (hd e he)) ((iL _).mpr hd2)
      rw [k2] at y2
      obtain ⟨z1, z2⟩ := gA_w em hm y1
      obtain ⟨x1, x2⟩ := moA.1 w y3
      rw [y2, z1, z2, q1 w, x1, q2 w x1, x2, y4, b6]
      exact ⟨rfl, rfl⟩
    · have hd' : dK ta (labE t N a) = 256 := hDa.trans hd
      rcases r1 with ⟨z1, -⟩ | ⟨-, z2, z3⟩
      · exfalso
        have := (dK_256 hPa.2.2.2.2.1 hPa.2.1 hc (by have := hPa.2.2.2.2.2.2.2.2.1; omega) hd).1
        have hk1 : kA ta (nI (labE t N a)) = 1 := by rw [(TW_k hTa).1]; exact this
        rw [hk1] at z1
        exact z1 rfl
      · obtain ⟨-, -, -, y4⟩ := st_mo l1.2.2.1 hm l1.2.2.2.2.2.1 l1.2.2.2.2.2.2.2.1 (af_re s2) z3 (by rw [hDa, (TW_k hTa).2.1]; exact hV)
        obtain ⟨w, y5, y6, y7⟩ := y4 hd'
        have y8 : vA t (nI (labE t N a)) = nI w := by rw [← y6, (TW_k hTa).2.1]; rfl
        rw [y8, (gA_w em hm y5).1, q1 w]
        exact moB.2 w y7
    · obtain ⟨c1, c2, c3, a4', p4', c4, -⟩ := st_x (U := U) (S := S) hN hc hm hn hPa d1 d3
      have hTb : TW m tb tb2 tE := by
        have hkk := (TW_k hTa).1
        rcases r1 with ⟨z1, z2⟩ | ⟨z1, -, z3⟩
        · rcases c1 with ⟨y1, y2⟩ | ⟨y1, -⟩
          · rw [z2, y2]; exact hTa
          · rw [hkk] at z1; exact absurd y1 z1
        · rcases c1 with ⟨y1, -⟩ | ⟨y1, -, y3⟩
          · rw [hkk] at z1; exact absurd z1 y1
          · rw [hDa] at z3
            exact TW_st hTa hPa.1 s2.1 em hm rfl fb (af_re s2) hV z3 y3 moB
      refine ⟨f1, tc, ?_, e⟩
      have hP2 := TW_P0 hTb c4
      obtain ⟨u1', -⟩ := en_x (U := U) (S := S) (N := N) hc hP2 e3 fc
      obtain ⟨x1, -⟩ := en_x (U := U) (S := S) (N := N) hc c4 d2 d4
      obtain ⟨w0, w1, ⟨w2, w3, w4, w5, w6, w7⟩, w8, w9, w10, w11⟩ := id hTb
      rw [(TW_k hTb).1, w4] at u1'
      rcases u1' with ⟨z1, z2⟩ | ⟨z1, z2, z3⟩ | ⟨z1, z2, z3⟩
      · rcases x1 with ⟨y1, y2⟩ | ⟨y1, -⟩ | ⟨y1, -⟩
        · rw [z2, y2]; exact hTb
        · exact absurd y1 z1
        · exact absurd y1 z1
      · rcases x1 with ⟨y1, -⟩ | ⟨y1, y2, y3⟩ | ⟨y1, y2, -⟩
        · exact absurd z1 y1
        · rw [z3, y3]
          exact ⟨(GA_0 ⟨w0, AF_refl tb⟩ 7 1).1, w1, ⟨w2, w3, rfl, w5, w6, w7⟩, w8, w9, w10, w11⟩
        · exact absurd z2 y2
      · rcases x1 with ⟨y1, -⟩ | ⟨y1, y2, -⟩ | ⟨y1, y2, y3⟩
        · exact absurd z1 y1
        · exact absurd y2 z2
        · rw [z3, y3]
          exact ⟨CA_9 w0 _, w1, ⟨w2, w3, w4, w5, rfl, w7⟩, w8, w9, w10, w11⟩
end
