/-! LAYER 3, one statement of the class, in either pass -/
def P0 (n c m a p : Nat) (t : CS) : Prop := CA t ∧ t.1 9 0 5 = nI c ∧ t.1 4 0 3 = nI m ∧ t.1 9 0 7 = nI n ∧ TV n c m t ∧ rg m t ∧ t.1 0 0 4 = 0 ∧ t.1 0 0 9 = nI a ∧ a ≤ c ∧ t.1 0 0 10 = nI p ∧ p ≤ 4096
section
variable {U S N n c m T i p a : Nat} {t t1 t2 tE : CS} {q : Int32}
theorem sN_v {x : Int32} (h : ¬ sN x = 0) : ∃ k, k < 5 ∧ x = nI k := by
  unfold sN at h
  by_cases c0 : x < 0
  · rw [if_pos c0] at h; exact absurd rfl h
  · rw [if_neg c0] at h
    by_cases c1 : 4 < x
    · rw [if_pos c1] at h; exact absurd rfl h
    · obtain ⟨k, hk, rfl⟩ := nI_of c0
      have := mt (Llt (x := k) (k := 4) (c := 4) rfl hk (by decide)).mpr c1
      exact ⟨k, by omega, rfl⟩
theorem kNm_v (t : CS) (x : Int32) : (kNm t x = 256 ∧ kA t (x + 1) = 61) ∨ (¬ kA t (x + 1) = 61 ∧ ((sN (vA t x) = 0 ∧ (kNm t x = 1 ∨ kNm t x = 257)) ∨ ∃ k, k < 5 ∧ vA t x = nI k ∧ kNm t x = nI (300 + k))) := by
  unfold kNm
  by_cases c1 : kA t (x + 1) = 61
  · rw [if_neg (not_not_intro c1)]
    exact Or.inl ⟨rfl, c1⟩
  · rw [if_pos c1]
    refine Or.inr ⟨c1, ?_⟩
    by_cases c2 : sN (vA t x) = 0
    · rw [if_pos c2]
      refine Or.inl ⟨c2, ?_⟩
      by_cases c3 : kA t (x + 1) = 45
      · rw [if_pos c3]; exact Or.inl rfl
      · rw [if_neg c3]
        by_cases c4 : bP t (x + 1) = 0
        · rw [if_pos c4]; exact Or.inl rfl
        · rw [if_neg c4]
          by_cases c5 : vA t x < 5
          · rw [if_pos c5]; exact Or.inl rfl
          · rw [if_neg c5]
            by_cases c6 : 10 < vA t x
            · rw [if_pos c6]; exact Or.inl rfl
            · rw [if_neg c6]; exact Or.inr rfl
    · rw [if_neg c2]
      obtain ⟨k, hk, e⟩ := sN_v c2
      refine Or.inr ⟨k, hk, e, ?_⟩
      rw [e]
      exact nI_add 300 k
theorem dK_256 (h : TV n c m t) (ec : t.1 9 0 5 = nI c) (hc : c ≤ 2001) (ha : a < 2 ^ 30) (e : dK t a = 256) : kA t (nI a) = 1 ∧ a + 1 < c := by
  unfold dK at e
  by_cases c1 : kA t (nI a) = 1
  · rw [if_pos c1] at e
    refine ⟨c1, ?_⟩
    rcases kNm_v t (nI a) with ⟨-, z⟩ | ⟨-, ⟨-, z | z⟩ | ⟨k, hk, -, z⟩⟩
    · rw [nI_1] at z
      exact kA_hi ec hc (by omega) (by rw [z]; decide)
    · rw [z] at e; exact absurd e (by decide)
    · rw [z] at e; exact absurd e (by decide)
    · rw [z] at e
      have := (eqL (k := 256) (c := 256) rfl (by omega) (by decide)).mp e
      omega
  · rw [if_neg c1] at e
    obtain ⟨j, hj, ej⟩ := TV_k h ec hc (show a < 2 ^ 31 by omega)
    rw [ej] at e
    have := (eqL (k := 256) (c := 256) rfl (by omega) (by decide)).mp e
    omega
theorem dK_4 (e : dK t a = 4) : kA t (nI a) = 4 := by
  unfold dK at e
  by_cases c1 : kA t (nI a) = 1
  · rw [if_pos c1] at e
    exfalso
    rcases kNm_v t (nI a) with ⟨z, -⟩ | ⟨-, ⟨-, z | z⟩ | ⟨k, hk, -, z⟩⟩
    · rw [z] at e; exact absurd e (by decide)
    · rw [z] at e; exact absurd e (by decide)
    · rw [z] at e; exact absurd e (by decide)
    · rw [z] at e
      have := (eqL (k := 4) (c := 4) rfl (by omega) (by decide)).mp e
      omega
  · rw [if_neg c1] at e
    exact e
theorem eN_hi (ec : t.1 9 0 5 = nI c) (hc : c ≤ 2001) (ha : a < 2 ^ 31) (h : eN (kA t (nI a)) = 0) : a < c := kA_hi ec hc ha (fun z => by rw [z] at h; exact absurd h (by decide))
theorem af_re (g : GA t t2) : t2.2.2.2.1 0 0 3 = t.2.2.2.1 0 0 3 := by rw [g.2.2.2.1 0 (by decide)]
theorem af_f (g : GA t t2) (h : t2.1 0 0 4 = 0) : t.1 0 0 4 = 0 := Decidable.byContradiction (fun z => g.2.2.2.2.2.1 z h)
theorem st_x (hN : 5000 < N) (hc : c ≤ 2001) (hm : m ≤ 1054) (hn : n ≤ 2000) (h : P0 n c m a p t) (e : u_X0_passStatement U S N t = some ((), t2)) (hf : t2.1 0 0 4 = 0) : ((¬ eN (kA t (nI a)) = 0 ∧ t2 = t) ∨ (eN (kA t (nI a)) = 0 ∧ a < c ∧ ST37 t N p a (dK t a) t2)) ∧ MO t t2 ∧ KP t t2 ∧ ∃ a2 p2, P0 n c m a2 p2 t2 ∧ a ≤ a2 := by
  obtain ⟨hC, ec, em, eL, hTV, hr, h4, h9, ha, h10, hp⟩ := id h
  rw [st_p hC h4 h9] at e
  by_cases c1 : eN (kA t (nI a)) = 0
  · rw [if_pos c1] at e
    have hlt := eN_hi ec hc (show a < 2 ^ 31 by omega) c1
    obtain ⟨x, t3, e3, g3, -⟩ := s_statement (U := U) (S := S) (t0 := t) hN ⟨hC, AF_refl t⟩
    rw [st_p hC h4 h9, if_pos c1, e] at e3
    rw [← (Prod.mk.inj (Option.some.inj e3)).2] at g3
    obtain ⟨-, -, -, -, ⟨i, hi2, hi, -⟩, -⟩ := id hC
    have hV : dK t a = 256 → ∃ w, w < m ∧ vA t (nI a) = nI w := fun z => TV_w hTV ec hc (by omega) (dK_256 hTV ec hc (by omega) z).1
    obtain ⟨st, a2, p2, q1, q2, q3, q4, q5⟩ := st_37 (U := U) (S := S) hN hC ec hc h4 h9 hlt hi hi2 hp h10 em hm eL hn (TV_t hTV ec hc (by omega)) (TV_w hTV ec hc (by omega)) (dK_256 hTV ec hc (by omega)) dK_4 e hf
    obtain ⟨mo, rg2, kp, -⟩ := st_mo em hm hr h9 (af_re g3) st hV
    obtain ⟨k1, k2, k3, k4, k5, k6⟩ := id kp
    exact ⟨Or.inr ⟨c1, hlt, st⟩, mo, kp, a2, p2, ⟨g3.1, by rw [k1]; exact ec, by rw [k4]; exact em, by rw [k1]; exact eL, TV_K hTV k2, rg2, hf, q1, q3, q4, q5⟩, q2⟩
  · rw [if_neg c1] at e
    have et := (Prod.mk.inj (Option.some.inj e)).2
    rw [← et]
    exact ⟨Or.inl ⟨c1, rfl⟩, MO_e rfl, KP_0 t, a, p, h, Nat.le_refl _⟩
theorem en_x (hc : c ≤ 2001) (h : P0 n c m a p t) (e : u_X0_passEnd U S N t = some ((), t2)) (hf : t2.1 0 0 4 = 0) : ((¬ t.1 0 0 7 = 0 ∧ t2 = t) ∨ (t.1 0 0 7 = 0 ∧ kA t (nI a) = 0 ∧ t2 = qI t 0 0 7 1) ∨ (t.1 0 0 7 = 0 ∧ ¬ kA t (nI a) = 0 ∧ t2 = qI t 0 0 9 (nI (a + 1)))) ∧ ∃ a2, P0 n c m a2 p t2 ∧ a ≤ a2 := by
  obtain ⟨hC, ec, em, eL, hTV, hr, h4, h9, ha, h10, hp⟩ := id h
  by_cases c7 : t.1 0 0 7 = 0
  · obtain ⟨x1, x2, x3⟩ := c_end (U := U) (S := S) (N := N) hC h4 c7 h9
    by_cases c1 : eN (kA t (nI a)) = 0
    · obtain ⟨t3, e3, hf3⟩ := x1 c1
      rw [← inj2 e e3] at hf3
      exact absurd hf hf3
    · by_cases c2 : kA t (nI a) = 0
      · have et := inj2 e (x2 c1 c2)
        rw [et]
        exact ⟨Or.inr (Or.inl ⟨c7, c2, rfl⟩), a, ⟨(GA_0 ⟨hC, AF_refl t⟩ 7 1).1, ec, em, eL, hTV, hr, h4, h9, ha, h10, hp⟩, Nat.le_refl _⟩
      · have et := inj2 e (x3 c1 c2)
        have hlt := kA_hi ec hc (show a < 2 ^ 31 by omega) c2
        rw [et]
        exact ⟨Or.inr (Or.inr ⟨c7, c2, rfl⟩), a + 1, ⟨CA_9 hC _, ec, em, eL, hTV, hr, h4, rfl, hlt, h10, hp⟩, by omega⟩
  · have e2 : u_X0_passEnd U S N t = some ((), t) := by
      unfold u_X0_passEnd u_X0_passEnd_14
      rw [if_neg (not_not_intro h4), if_neg c7]
    have et := inj2 e e2
    rw [et]
    exact ⟨Or.inl ⟨c7, rfl⟩, a, h, Nat.le_refl _⟩
theorem ov_f {f : Nat} {x : Int32} (h : ¬ t.1 0 0 4 = 0 ∨ ¬ t.1 0 0 7 = 0) : ul_X0_passOver_29 U S N (f + 1) x t = some ((), t) := by
  show uh_X0_passOver_29 U S N (ul_X0_passOver_29 U S N f) x t = _
  unfold uh_X0_passOver_29 u_X0_passOver_72
  by_cases c1 : t.1 9 0 5 < x
  · rw [if_pos c1]
  · rw [if_neg c1]
    by_cases c2 : t.1 0 0 7 = 0
    · rw [if_neg (not_not_intro c2), if_pos (h.resolve_right (not_not_intro c2))]
    · rw [if_pos c2]
/-- one round of a pass, all three steps -/
theorem ov_s (hN : 5000 < N) {f j : Nat} (hC : CA t) (ec : t.1 9 0 5 = nI c) (hc : c ≤ 2001) (hj : j ≤ c) (h4 : t.1 0 0 4 = 0) (h7 : t.1 0 0 7 = 0) : ∃ ta tb tc, u_X0_passLabels U S N t = some ((), ta) ∧ u_X0_passStatement U S N ta = some ((), tb) ∧ u_X0_passEnd U S N tb = some ((), tc) ∧ GA t ta ∧ GA ta tb ∧ GA tb tc ∧ ul_X0_passOver_29 U S N (f + 1) (nI j) t = ul_X0_passOver_29 U S N f (nI (j + 1)) tc := by
  obtain ⟨x, ta, e1, g1, -⟩ := s_labels (U := U) (S := S) (t0 := t) hN ⟨hC, AF_refl t⟩
  obtain ⟨y, tb, e2, g2, -⟩ := s_statement (U := U) (S := S) (t0 := ta) hN ⟨g1.1, AF_refl ta⟩
  obtain ⟨z, tc, e3, g3, -⟩ := s_end (U := U) (S := S) (N := N) (t0 := tb) ⟨g2.1, AF_refl tb⟩
  refine ⟨ta, tb, tc, e1, e2, e3, g1, g2, g3, ?_⟩
  show uh_X0_passOver_29 U S N (ul_X0_passOver_29 U S N f) (nI j) t = _
  unfold uh_X0_passOver_29
  rw [ec, if_neg (fun z => by have := (ltI (by omega) (by omega)).mp z; omega), if_neg (not_not_intro h7), if_neg (not_not_intro h4), e1, Option.bind_some]
  dsimp only
  rw [e2, Option.bind_some]
  dsimp only
  rw [e3, Option.bind_some, nI_1]
theorem lb_x (hN : 5000 < N) (hc : c ≤ 2001) (hm : m ≤ 1054) (h : P0 n c m a p t) (h6 : t.1 0 0 6 = 0) (e : u_X0_passLabels U S N t = some ((), t2)) (hf : t2.1 0 0 4 = 0) : P0 n c m (labE t N a) p t2 ∧ a ≤ labE t N a ∧ KP t t2 ∧ MO1 t t2 ∧ (t2.1 0 0 7 = t.1 0 0 7 ∧ t2.1 0 0 8 = t.1 0 0 8 ∧ t2.1 0 0 10 = t.1 0 0 10) ∧ (∀ d, (∀ e, e < d → isLab t (a + 2 * e)) → isLab t (a + 2 * d) → ∃ w, w < m ∧ vA t (nI (a + 2 * d)) = nI w ∧ t2.2.1 4 0 2 w = 1 ∧ t2.2.1 4 0 1 w = t.1 0 0 10 &&& 4095) ∧ (∀ w, t2.2.1 4 0 2 w = 2 → t.2.1 4 0 2 w = 2) := by
  obtain ⟨hC, ec, em, eL, hTV, hr, h4, h9, ha, h10, hp⟩ := id h
  obtain ⟨i1, i2, i3, i4, i5, i6, i7, i8, i9, i10⟩ := lb_1 (U := U) (S := S) (N := N) (t2 := t2) (n := n) hc hm N a 0 t hC ec em hTV hr h4 h6 h9 ha (by omega) (by omega) e hf
  obtain ⟨k1, k2, k3, k4, k5, k6⟩ := id i4
  exact ⟨⟨i5, by rw [k1]; exact ec, by rw [k4]; exact em, by rw [k1]; exact eL, TV_K hTV k2, i7, hf, i1, i3, by rw [i8.2.2]; exact h10, hp⟩, i2, i4, i6, i8, i9, i10⟩
/-- pass 1, from a state to its end: what was told stays told -/
theorem mo_all (hN : 5000 < N) (hc : c ≤ 2001) (hm : m ≤ 1054) (hn : n ≤ 2000) : ∀ (f j a p : Nat) (t : CS), P0 n c m a p t → t.1 0 0 6 = 0 → ul_X0_passOver_29 U S N f (nI j) t = some ((), tE) → tE.1 0 0 4 = 0 → MO t tE ∧ KP t tE := by
  intro f
  induction f with
  | zero => intro j a p t _ _ e; cases e
  | succ f ih =>
    intro j a p t h h6 e he
    obtain ⟨hC, ec, em, eL, hTV, hr, h4, h9, ha, h10, hp⟩ := id h
    by_cases c7 : t.1 0 0 7 = 0
    · by_cases cj : t.1 9 0 5 < nI j
      · have e2 : ul_X0_passOver_29 U S N (f + 1) (nI j) t = some ((), t) := by
          show uh_X0_passOver_29 U S N (ul_X0_passOver_29 U S N f) (nI j) t = _
          unfold uh_X0_passOver_29 u_X0_passOver_72
          rw [if_pos cj]
        rw [inj2 e e2]
        exact ⟨MO_e rfl, KP_0 t⟩
      · obtain ⟨x, ta, e1, g1, -⟩ := s_labels (U := U) (S := S) (t0 := t) hN ⟨hC, AF_refl t⟩
        obtain ⟨y, tb, e2, g2, -⟩ := s_statement (U := U) (S := S) (t0 := ta) hN ⟨g1.1, AF_refl ta⟩
        obtain ⟨z, tc, e3, g3, -⟩ := s_end (U := U) (S := S) (N := N) (t0 := tb) ⟨g2.1, AF_refl tb⟩
        have est : ul_X0_passOver_29 U S N (f + 1) (nI j) t = ul_X0_passOver_29 U S N f (nI (j + 1)) tc := by
          show uh_X0_passOver_29 U S N (ul_X0_passOver_29 U S N f) (nI j) t = _
          unfold uh_X0_passOver_29
          rw [if_neg cj, if_neg (not_not_intro c7), if_neg (not_not_intro h4), e1, Option.bind_some]
          dsimp only
          rw [e2, Option.bind_some]
          dsimp only
          rw [e3, Option.bind_some, nI_1]
        rw [est] at e
        have fc : tc.1 0 0 4 = 0 := by
          cases f with
          | zero => cases e
          | succ f =>
            apply Decidable.byContradiction
            intro zz
            rw [ov_f (Or.inl zz)] at e
            rw [← (Prod.mk.inj (Option.some.inj e)).2] at he
            exact zz he
        have fb := af_f g3 fc
        have fa := af_f g2 fb
        obtain ⟨q1, -, q3, q4, -⟩ := lb_x (U := U) (S := S) hN hc hm h h6 e1 fa
        obtain ⟨-, r2, r3, a2, p2, r4, -⟩ := st_x (U := U) (S := S) hN hc hm hn q1 e2 fb
        obtain ⟨s1, a3, s2, -⟩ := en_x (U := U) (S := S) (N := N) hc r4 e3 fc
        have h6c : tc.1 0 0 6 = 0 ∧ tc.2.1 4 = tb.2.1 4 ∧ KP tb tc := by
          have h6b : tb.1 0 0 6 = 0 := by rw [r3.2.2.2.2.1, q3.2.2.2.2.1]; exact h6
          rcases s1 with ⟨-, s1⟩ | ⟨-, -, s1⟩ | ⟨-, -, s1⟩ <;> rw [s1]
          · exact ⟨h6b, rfl, KP_0 tb⟩
          · exact ⟨h6b, rfl, rfl, rfl, rfl, rfl, rfl, rfl⟩
          · exact ⟨h6b, rfl, rfl, rfl, rfl, rfl, rfl, rfl⟩
        obtain ⟨ih1, ih2⟩ := ih (j + 1) a3 p2 tc s2 h6c.1 e he
        refine ⟨?_, KP_t (KP_t q3 r3) (KP_t h6c.2.2 ih2)⟩
        exact MO_t (MO_t (MO_1 q4) r2) (MO_t (MO_e h6c.2.1) ih1)
    · rw [ov_f (Or.inr c7)] at e
      rw [← (Prod.mk.inj (Option.some.inj e)).2]
      exact ⟨MO_e rfl, KP_0 t⟩
end
