/-! LAYER 3, the assemblers side by side: a value in full -/
section
variable {U S N n c m T : Nat} {b : Nat → Int32} {P ν : Nat → Nat} {t : CS} {s : RS}
theorem g_part_f {x : Int32} (h5 : ¬ s.1 5 ≤ 0) : g_part_15 U S N x s = some (0, s) := by
  unfold g_part_15
  rw [if_neg h5]
theorem fz_n (hf : FZ s) (h : ¬ s.1 5 = 0) : ¬ s.1 5 ≤ 0 := fun z => h ((fz_le hf).mp z)
theorem fz_0 (h : s.1 5 = 0) : s.1 5 ≤ 0 := by rw [h]; decide
theorem isg_f (h5 : ¬ s.1 5 = 0) (x : Int32) : g_isSign U S N x s = some (0, s) := by
  unfold g_isSign g_isSign_27 g_isSign_28
  rw [if_pos h5]
  rfl
theorem OC_TK {s2 : RS} {a : Nat} (h5 : s.1 5 = 0) (h : TK b n P c m t s s2 a) : OC b n P c m t s2 a := by
  obtain ⟨-, -, -, -, h⟩ := h
  rcases h h5 with ⟨h1, h2, -⟩ | h
  · exact Or.inl ⟨h1, by rw [h2]; decide⟩
  · exact Or.inr h
/-- behind the sign of a part -/
theorem p15_eq (hN : 5000 < N) (h : EX b n P c m T ν t s) (hf : FZ s) (h5 : s.1 5 = 0) {a : Nat} (hl : LA b n P c m t s a) {q : Int32} (hq : s.1 29 = q) (hpl : plW (t.1 0 0 10)) {x : Int32} : ∃ y s2, g_part_15 U S N x s = some (y, s2) ∧ SL s s2 ∧ FZ s2 ∧ (pv t q a = none → ¬ s2.1 5 = 0) ∧ (∀ p, pv t q a = some p → y = (if x = 0 then p else (-p) &&& 4095) ∧ OC b n P c m t s2 (a + 1) ∧ s2.1 30 = (if x = 0 then alo t a else -1)) := by
  obtain ⟨e1, e2, e3, e4⟩ := LA_k h hl
  obtain ⟨-, hB, ⟨-, -, ec, -, hc, -⟩, ⟨-, -, hm, -⟩, -, -, -, h11, -, hCA⟩ := id h
  obtain ⟨ha, st0, -, -, -, htk, ⟨k1, -, k3, k4, k5⟩, -⟩ := id hl
  -- the part's end
  have fin : ∀ (v p : Int32) (s1 : RS), SL s s1 → FZ s1 → (∀ k, 12 ≤ k → k ≤ 16 → s1.1 k = s.1 k) → (t.2.1 9 0 1 a = 1 ∨ t.2.1 9 0 1 a = 2 ∨ t.2.1 9 0 1 a = 3 ∨ (sgn (t.2.1 9 0 1 a) ∧ ¬ t.2.1 9 0 1 a = 36)) → s1.1 30 = alo t a → v &&& 4095 = p → (-v) &&& 4095 = (-p) &&& 4095 → ((¬ s1.1 5 = 0 ∧ pv t q a = none) ∨ (s1.1 5 = 0 ∧ pv t q a = some p)) → ∃ y s2, g_part_127 U S N x v s1 = some (y, s2) ∧ SL s s2 ∧ FZ s2 ∧ (pv t q a = none → ¬ s2.1 5 = 0) ∧ (∀ p, pv t q a = some p → y = (if x = 0 then p else (-p) &&& 4095) ∧ OC b n P c m t s2 (a + 1) ∧ s2.1 30 = (if x = 0 then alo t a else -1)) := by
    intro v p s1 sl1 hf1 hk1 hkk h30 hv1 hv2 hcase
    have hl1 : LA b n P c m t s1 a := LA_SL hl (hk1 12 (by omega) (by omega)) (hk1 13 (by omega) (by omega)) (hk1 14 (by omega) (by omega)) (hk1 15 (by omega) (by omega)) (hk1 16 (by omega) (by omega))
    obtain ⟨s2, e, tk⟩ := take_at (U := U) (S := S) hN (EX_SL h sl1) hf1 hl1 hkk
    obtain ⟨t1, t2, t3, t4, t5⟩ := id tk
    unfold g_part_127 g_part_140 g_part_150
    rw [e, Option.bind_some]
    have none_f : pv t q a = none → ¬ s2.1 5 = 0 := by
      intro z
      rcases hcase with ⟨y1, -⟩ | ⟨-, y2⟩
      · rw [t4 y1]; exact y1
      · rw [z] at y2; cases y2
    have some_f : ∀ p2, pv t q a = some p2 → p2 = p ∧ OC b n P c m t s2 (a + 1) := by
      intro p2 z
      rcases hcase with ⟨-, y2⟩ | ⟨y1, y2⟩
      · rw [z] at y2; cases y2
      · rw [z] at y2
        exact ⟨Option.some.inj y2, OC_TK y1 tk⟩
    by_cases cx : x = 0
    · rw [if_pos cx]
      refine ⟨v &&& 4095, s2, ?_, SL_t sl1 t1, t3, none_f, fun p2 z => ⟨?_, (some_f p2 z).2, ?_⟩⟩
      · dsimp only; rw [if_pos cx]
      · rw [if_pos cx, (some_f p2 z).1, hv1]
      · rw [if_pos cx, t2, h30]
    · rw [if_neg cx, Option.bind_some]
      refine ⟨(-v) &&& 4095, pI s2 30 (-1), ?_, SL_I (SL_t sl1 t1) (by decide) _, t3, none_f, fun p2 z => ⟨?_, ?_, ?_⟩⟩
      · dsimp only; rw [if_neg cx]
      · rw [if_neg cx, (some_f p2 z).1, hv2]
      · rcases (some_f p2 z).2 with y | ⟨y1, y2, y3⟩
        · exact Or.inl y
        · exact Or.inr ⟨y1, y2, LA_SL y3 rfl rfl rfl rfl rfl⟩
      · rw [if_neg cx]; rfl
  -- no part
  have bad2 : pv t q a = none → ∃ y s2, g_part_78 U S N s = some (y, s2) ∧ SL s s2 ∧ FZ s2 ∧ (pv t q a = none → ¬ s2.1 5 = 0) ∧ (∀ p, pv t q a = some p → y = (if x = 0 then p else (-p) &&& 4095) ∧ OC b n P c m t s2 (a + 1) ∧ s2.1 30 = (if x = 0 then alo t a else -1)) := by
    intro z
    unfold g_part_78
    rw [g_fails_eq hf, Option.bind_some]
    exact ⟨0, _, rfl, flt_SL _ _, flt_FZ hf (by decide), fun _ => flt_ne (by decide), fun p y => by rw [z] at y; cases y⟩
  have sl30 : SL s (pI s 30 (-1)) := SL_I (SL_0 s) (by decide) _
  have nalo : ¬ kA t (nI a) = 1 → alo t a = -1 := by
    intro z
    unfold alo
    rw [if_neg (fun y => z y.1)]
  have pvn : ¬ kA t (nI a) = 1 → ¬ kA t (nI a) = 46 → ¬ kA t (nI a) = 2 → ¬ kA t (nI a) = 3 → pv t q a = none := by
    intro z1 z2 z3 z4
    unfold pv
    rw [if_neg (fun y => z1 y.1), if_neg z2, if_neg z3, if_neg z4]
  unfold g_part_15 g_part_53 g_part_89 g_part_108
  rw [if_pos (fz_0 h5)]
  rcases Tok_K hB htk with z | z | z | z | z | z | ⟨z, j, hj, ej⟩
  · rw [(k1 (Or.inl z)).1, if_pos (show ¬ (5 : Int32) = 1 by decide), if_pos rfl]
    exact bad2 (by rw [z] at e1; exact pvn (by rw [e1]; decide) (by rw [e1]; decide) (by rw [e1]; decide) (by rw [e1]; decide))
  · rw [(k1 (Or.inr z)).1, if_pos (show ¬ (5 : Int32) = 1 by decide), if_pos rfl]
    exact bad2 (by rw [z] at e1; exact pvn (by rw [e1]; decide) (by rw [e1]; decide) (by rw [e1]; decide) (by rw [e1]; decide))
  · obtain ⟨e12, st, zz, w, w1, w2, w3, w4, w5, w6, w7, w8, w9, w10⟩ := LA_n h hl z
    rw [e12, if_neg (not_not_intro rfl), w1, w2, fd13 hN h w4 w6 w7 w8 w9, Option.bind_some]
    dsimp only
    by_cases q5 : w < 5
    · rw [show (if w < 5 then nI w else -1) = nI w from if_pos q5, if_pos (nI_ne (show w < 2 ^ 31 by omega))]
      refine bad2 ?_
      rcases w10 with ⟨y1, y2, -⟩ | ⟨y1, -⟩
      · unfold pv
        rw [e1, y1, e2, y2, sN_n (by omega), if_pos q5, if_neg (fun z => absurd z.2 (by decide)), if_neg (by decide), if_neg (by decide), if_neg (by decide)]
      · have g : t.2.1 9 0 1 a = 4 ∨ t.2.1 9 0 1 a = 5 := z.resolve_left y1
        rcases g with g | g <;> rw [g] at e1 <;> exact pvn (by rw [e1]; decide) (by rw [e1]; decide) (by rw [e1]; decide) (by rw [e1]; decide)
    · rw [show (if w < 5 then nI w else -1) = -1 from if_neg q5, if_neg (not_not_intro (show (-1 : Int32) = -1 from rfl)), e12, if_neg (show ¬ (1 : Int32) = 5 by decide), if_pos (show ¬ (1 : Int32) = 4 by decide), if_pos (show ¬ (1 : Int32) = 4 by decide), Option.bind_some]
      show ∃ y s2, (if ¬ s.1 12 = 1 then _ else (g_named U S N (pI s 30 (-1))).bind _) = _ ∧ _
      rw [e12, if_neg (not_not_intro rfl)]
      rcases w10 with ⟨y1, y2, -⟩ | ⟨-, y2, -⟩
      · obtain ⟨s2, n1, n2, n3, n4, n5, n6, n7⟩ := nd_eq (U := U) (S := S) hN (EX_SL h sl30) hf h5 w1 w2 w4 w6 w7 w8 w9 (by omega) hq
        rw [n1, Option.bind_some]
        have hpv : pv t q a = if (¬ q = 0 ∨ ¬ t.1 0 0 6 = 0) ∧ gA t (nI w) = 0 then none else some (nA t (nI w)) := by
          unfold pv
          rw [e1, y1, e2, y2, sN_n (by omega), if_neg q5, if_pos ⟨rfl, rfl⟩]
        have halo : alo t a = if w < 53 then nI (w - 5) else -1 := by
          unfold alo
          rw [e1, y1, e2, y2]
          by_cases c53 : w < 53
          · rw [if_pos ⟨rfl, fun z => q5 ((ltL (k := 5) (c := 5) rfl (by omega) (by decide)).mp z), (ltL (k := 53) (c := 53) rfl (by omega) (by decide)).mpr c53⟩, if_pos c53, show (5 : Int32) = nI 5 from rfl, sub_nI (by omega)]
          · rw [if_neg (fun z => c53 ((ltL (k := 53) (c := 53) rfl (by omega) (by decide)).mp z.2.2)), if_neg c53]
        have hw12 : W12 (nA t (nI w)) := w_nA hCA _
        refine fin (nA t (nI w)) (nA t (nI w)) s2 (SL_t sl30 n2) n3 (fun k k1 k2 => ?_) (Or.inl y1) (by rw [n4, halo]) (w12_id hw12) rfl ?_
        · rw [n5 k k1 k2]
          exact up1_n _ _ (by omega)
        · by_cases cc : (¬ q = 0 ∨ ¬ t.1 0 0 6 = 0) ∧ gA t (nI w) = 0
          · rw [if_pos cc] at hpv
            exact Or.inl ⟨n6 cc, hpv⟩
          · rw [if_neg cc] at hpv
            exact Or.inr ⟨n7 cc, hpv⟩
      · omega
  · exact absurd (e1.trans z) e4
  · obtain ⟨q1, q2, q3⟩ := k3 z
    rw [z] at e1
    rw [q1, if_pos (show ¬ (2 : Int32) = 1 by decide), if_neg (show ¬ (2 : Int32) = 5 by decide), if_pos (show ¬ (2 : Int32) = 4 by decide), if_pos (show ¬ (2 : Int32) = 4 by decide), Option.bind_some]
    show ∃ y s2, (if ¬ s.1 12 = 1 then _ else _) = _ ∧ _
    rw [q1, if_pos (show ¬ (2 : Int32) = 1 by decide)]
    have hpv : pv t q a = some (s.1 14) := by
      unfold pv
      rw [e1, e2, e3, if_neg (fun z => absurd z.1 (by decide)), if_neg (by decide), if_pos rfl, q3]
    refine fin _ (s.1 14) (pI s 30 (-1)) sl30 hf (fun k k1 k2 => up1_n _ _ (by omega)) (Or.inr (Or.inl z)) (by rw [nalo (by rw [e1]; decide)]; rfl) (w12_id (pv_w hCA hpv)) rfl (Or.inr ⟨h5, hpv⟩)
  · obtain ⟨q1, q2, q3⟩ := k4 z
    rw [z] at e1
    rw [q1, if_pos (show ¬ (3 : Int32) = 1 by decide), if_neg (show ¬ (3 : Int32) = 5 by decide), if_pos (show ¬ (3 : Int32) = 4 by decide), if_pos (show ¬ (3 : Int32) = 4 by decide), Option.bind_some]
    show ∃ y s2, (if ¬ s.1 12 = 1 then _ else _) = _ ∧ _
    rw [q1, if_pos (show ¬ (3 : Int32) = 1 by decide)]
    have hpv : pv t q a = some (s.1 14) := by
      unfold pv
      rw [e1, e2, if_neg (fun z => absurd z.1 (by decide)), if_neg (by decide), if_neg (by decide), if_pos rfl, q3]
    refine fin _ (s.1 14) (pI s 30 (-1)) sl30 hf (fun k k1 k2 => up1_n _ _ (by omega)) (Or.inr (Or.inr (Or.inl z))) (by rw [nalo (by rw [e1]; decide)]; rfl) (w12_id (pv_w hCA hpv)) rfl (Or.inr ⟨h5, hpv⟩)
  · obtain ⟨q1, q2, q3⟩ := k5 z
    have n1 : ¬ kA t (nI a) = 1 := fun e => by rw [← e1, e] at z; exact sgn_n.2.1 z
    have n2 : ¬ kA t (nI a) = 2 := fun e => by rw [← e1, e] at z; exact sgn_n.2.2.1 z
    have n3 : ¬ kA t (nI a) = 3 := fun e => by rw [← e1, e] at z; exact sgn_n.2.2.2.1 z
    rw [q1, q3, if_pos (show ¬ (4 : Int32) = 1 by decide), if_neg (show ¬ (4 : Int32) = 5 by decide), if_neg (show ¬ ¬ (4 : Int32) = 4 from fun z => z rfl), if_neg (show ¬ ¬ (4 : Int32) = 4 from fun z => z rfl), Option.bind_some]
    by_cases c46 : t.2.1 9 0 1 a = 46
    · rw [if_pos c46]
      show ∃ y s2, (if ¬ s.1 12 = 1 then g_part_127 U S N x (s.1 11) (pI s 30 (-1)) else _) = _ ∧ _
      rw [q1, if_pos (show ¬ (4 : Int32) = 1 by decide), h11]
      have hpv : pv t q a = some (t.1 0 0 10 &&& 4095) := by
        unfold pv
        rw [if_neg (fun z => n1 z.1), e1, if_pos c46]
      exact fin _ (t.1 0 0 10 &&& 4095) (pI s 30 (-1)) sl30 hf (fun k k1 k2 => up1_n _ _ (by omega)) (Or.inr (Or.inr (Or.inr ⟨z, by rw [c46]; decide⟩))) (by rw [nalo n1]; rfl) rfl (neg_pl hpl).symm (Or.inr ⟨h5, hpv⟩)
    · rw [if_neg c46]
      exact bad2 (pvn n1 (by rw [e1]; exact c46) n2 n3)
theorem part_eq (hN : 5000 < N) (h : EX b n P c m T ν t s) (hf : FZ s) (h5 : s.1 5 = 0) {a : Nat} (hl : LA b n P c m t s a) {q : Int32} (hq : s.1 29 = q) (hpl : plW (t.1 0 0 10)) : ∃ y s2, g_part U S N s = some (y, s2) ∧ SL s s2 ∧ FZ s2 ∧ (pm t q a = none → ¬ s2.1 5 = 0) ∧ (∀ p, pm t q a = some p → y = p.1 ∧ OC b n P c m t s2 p.2 ∧ s2.1 30 = alo t a) := by
  obtain ⟨e1, -, -, -⟩ := LA_k h hl
  unfold g_part pm
  rw [isg h hl h5 (sgn_y 45 (by decide)), Option.bind_some]
  by_cases c45 : kA t (nI a) = 45
  · rw [if_pos c45, if_pos c45]
    dsimp only
    rw [if_neg (show ¬ (1 : Int32) = 0 by decide)]
    have hs : sgn (t.2.1 9 0 1 a) := by rw [← e1, c45]; exact sgn_y 45 (by decide)
    obtain ⟨s2, e, tk⟩ := take_at (U := U) (S := S) hN h hf hl (Or.inr (Or.inr (Or.inr ⟨hs, by rw [← e1, c45]; decide⟩)))
    obtain ⟨t1, t2, t3, t4, t5⟩ := id tk
    rw [e, Option.bind_some]
    have ha : alo t a = -1 := by
      unfold alo
      rw [if_neg (fun y => by rw [c45] at y; exact absurd y.1 (by decide))]
    rcases t5 h5 with ⟨u1, u2, -⟩ | ⟨u1, u2, u3⟩
    · have hf5 : ¬ s2.1 5 = 0 := by rw [u2]; decide
      have hpn : pv t q (a + 1) = none := by
        unfold pv
        rw [u1, if_neg (fun z => absurd z.1 (by decide)), if_neg (by decide), if_neg (by decide), if_neg (by decide)]
      dsimp only
      rw [g_part_f (fz_n t3 hf5), hpn]
      exact ⟨0, s2, rfl, t1, t3, fun _ => hf5, fun p z => by cases z⟩
    · obtain ⟨y, s3, v1, v2, v3, v4, v5⟩ := p15_eq (U := U) (S := S) (x := 1) hN (EX_SL h t1) t3 u2 u3 ((t1.1 29 (by decide)).trans hq) hpl
      refine ⟨y, s3, v1, SL_t t1 v2, v3, fun z => ?_, fun p z => ?_⟩
      · cases e2 : pv t q (a + 1) with
        | none => exact v4 e2
        | some p => rw [e2] at z; cases z
      · cases e2 : pv t q (a + 1) with
        | none => rw [e2] at z; cases z
        | some p2 =>
          rw [e2] at z
          rw [← Option.some.inj z]
          obtain ⟨x1, x2, x3⟩ := v5 p2 e2
          rw [if_neg (by decide)] at x1 x3
          exact ⟨x1, x2, by rw [x3, ha]⟩
  · rw [if_neg c45, if_neg c45]
    dsimp only
    rw [if_pos (show (0 : Int32) = 0 from rfl)]
    obtain ⟨y, s3, v1, v2, v3, v4, v5⟩ := p15_eq (U := U) (S := S) (x := 0) hN h hf h5 hl hq hpl
    refine ⟨y, s3, v1, v2, v3, fun z => ?_, fun p z => ?_⟩
    · cases e2 : pv t q a with
      | none => exact v4 e2
      | some p => rw [e2] at z; cases z
    · cases e2 : pv t q a with
      | none => rw [e2] at z; cases z
      | some p2 =>
        rw [e2] at z
        rw [← Option.some.inj z]
        obtain ⟨x1, x2, x3⟩ := v5 p2 e2
        rw [if_pos rfl] at x1 x3
        exact ⟨x1, x2, x3⟩
theorem part_f (hf : FZ s) (h5 : ¬ s.1 5 = 0) : g_part U S N s = some (0, s) := by
  unfold g_part
  rw [isg_f h5, Option.bind_some]
  dsimp only
  rw [if_pos (show (0 : Int32) = 0 from rfl), g_part_f (fz_n hf h5)]
theorem oP_y {k : Int32} (h : ¬ oP k = 0) : k = 43 ∨ k = 45 ∨ k = 33 ∨ k = 38 := by
  unfold oP at h
  by_cases c1 : k = 43
  · exact Or.inl c1
  · rw [if_neg c1] at h
    by_cases c2 : k = 45
    · exact Or.inr (Or.inl c2)
    · rw [if_neg c2] at h
      by_cases c3 : k = 33
      · exact Or.inr (Or.inr (Or.inl c3))
      · rw [if_neg c3] at h
        by_cases c4 : k = 38
        · exact Or.inr (Or.inr (Or.inr c4))
        · rw [if_pos c4] at h; exact absurd rfl h
theorem loop_f (h5 : ¬ s.1 5 = 0) (f : Nat) (v one : Int32) : l_all_10 U S N (f + 1) v one s = some (v, pI s 30 one) := by
  show h_all_10 U S N (l_all_10 U S N f) v one s = _
  unfold h_all_10
  rw [isg_f h5, Option.bind_some]
  dsimp only
  rw [if_neg (show ¬ ¬ (0 : Int32) = 0 from fun z => z rfl), isg_f h5, Option.bind_some]
  dsimp only
  rw [if_neg (show ¬ ¬ (0 : Int32) = 0 from fun z => z rfl), isg_f h5, Option.bind_some]
  dsimp only
  rw [if_neg (show ¬ ¬ (0 : Int32) = 0 from fun z => z rfl), isg_f h5, Option.bind_some]
  dsimp only
  rw [if_pos (show (0 : Int32) = 0 from rfl)]
  rfl
/-- behind a part that ends before token a -/
theorem loop_eq (hN : 5000 < N) {q : Int32} (hpl : plW (t.1 0 0 10)) : ∀ (f g a : Nat) (v one : Int32) (s : RS), EX b n P c m T ν t s → FZ s → s.1 29 = q → OC b n P c m t s a → W12 v → a < c → c + 1 < a + f → c + 2 < a + g → ∃ y s2, l_all_10 U S N g v one s = some (y, s2) ∧ SL s s2 ∧ FZ s2 ∧ ((if ¬ oP (kA t (nI a)) = 0 then rvF t q f (a + 1) v (kA t (nI a)) else some (v, a)) = none → ¬ s2.1 5 = 0) ∧ (∀ p, (if ¬ oP (kA t (nI a)) = 0 then rvF t q f (a + 1) v (kA t (nI a)) else some (v, a)) = some p → y = p.1 ∧ OC b n P c m t s2 p.2 ∧ s2.1 30 = (if oP (kA t (nI a)) = 0 then one else -1)) := by
  intro f
  induction f with
  | zero =>
    intro g a v one s h hf hq ho hv h1 h2 h3
    exfalso
    rcases ho with ⟨k, -⟩ | ⟨-, -, k, -⟩
    · omega
    · omega
  | succ f ih =>
    intro g a v one s h hf hq ho hv h1 h2 h3
    obtain ⟨-, -, ⟨-, -, ec, -, hc, -⟩, -, -, -, -, -, -, hCA⟩ := id h
    have hg : ∃ k, g = k + 2 := by
      rcases ho with ⟨k, -⟩ | ⟨-, -, k, -⟩
      · have := kA_lt ec hc (show a < 2 ^ 31 by omega) (by rw [k]; decide)
        exact ⟨g - 2, by omega⟩
      · exact ⟨g - 2, by omega⟩
    obtain ⟨g, rfl⟩ := hg
    rcases ho with ⟨k6, h5⟩ | ⟨k6, h5, hl⟩
    · rw [loop_f h5, k6, if_neg (show ¬ ¬ oP 6 = 0 by decide)]
      refine ⟨v, pI s 30 one, rfl, SL_I (SL_0 s) (by decide) _, hf, fun z => (by cases z), fun p z => ?_⟩
      rw [← Option.some.inj z, if_pos (by decide)]
      exact ⟨rfl, Or.inl ⟨k6, h5⟩, rfl⟩
    · obtain ⟨e1, -, -, -⟩ := LA_k h hl
      have st1 : l_all_10 U S N (g + 2) v one s = if ¬ oP (kA t (nI a)) = 0 then g_all_46 U S N (l_all_10 U S N (g + 1)) v s else some (v, pI s 30 one) := by
        show h_all_10 U S N (l_all_10 U S N (g + 1)) v one s = _
        unfold h_all_10 oP
        rw [isg h hl h5 (sgn_y 43 (by decide)), Option.bind_some]
        dsimp only
        by_cases c1 : kA t (nI a) = 43
        · rw [if_pos c1, if_pos (show ¬ (1 : Int32) = 0 by decide), if_pos c1, if_pos (show ¬ (1 : Int32) = 0 by decide)]
        · rw [if_neg c1, if_neg (show ¬ ¬ (0 : Int32) = 0 from fun z => z rfl), isg h hl h5 (sgn_y 45 (by decide)), Option.bind_some, if_neg c1]
          dsimp only
          by_cases c2 : kA t (nI a) = 45
          · rw [if_pos c2, if_pos (show ¬ (1 : Int32) = 0 by decide), if_pos c2, if_pos (show ¬ (1 : Int32) = 0 by decide)]
          · rw [if_neg c2, if_neg (show ¬ ¬ (0 : Int32) = 0 from fun z => z rfl), isg h hl h5 (sgn_y 33 (by decide)), Option.bind_some, if_neg c2]
            dsimp only
            by_cases c3 : kA t (nI a) = 33
            · rw [if_pos c3, if_pos (show ¬ (1 : Int32) = 0 by decide), if_pos c3, if_pos (show ¬ (1 : Int32) = 0 by decide)]
            · rw [if_neg c3, if_neg (show ¬ ¬ (0 : Int32) = 0 from fun z => z rfl), isg h hl h5 (sgn_y 38 (by decide)), Option.bind_some, if_neg c3]
              dsimp only
              by_cases c4 : kA t (nI a) = 38
              · rw [if_pos c4, if_neg (show ¬ (1 : Int32) = 0 by decide), if_neg (not_not_intro c4), if_pos (show ¬ (1 : Int32) = 0 by decide)]
              · rw [if_neg c4, if_pos (show (0 : Int32) = 0 from rfl), if_pos c4, if_neg (show ¬ ¬ (0 : Int32) = 0 from fun z => z rfl)]
                rfl
      rw [st1]
      by_cases co : ¬ oP (kA t (nI a)) = 0
      · rw [if_pos co, if_pos co, if_neg co]
        have ho4 := oP_y co
        have hs : sgn (t.2.1 9 0 1 a) := by
          rw [← e1]
          rcases ho4 with z | z | z | z <;> rw [z] <;> exact sgn_y _ (by decide)
        have h14 : s.1 14 = kA t (nI a) := by
          obtain ⟨-, st0, -, -, -, -, ⟨-, -, -, -, k5⟩, -⟩ := hl
          rw [e1]
          exact (k5 hs).2.2
        obtain ⟨s2, e, tk⟩ := take_at (U := U) (S := S) hN h hf hl (Or.inr (Or.inr (Or.inr ⟨hs, by rw [← e1]; rcases ho4 with z | z | z | z <;> rw [z] <;> decide⟩)))
        obtain ⟨t1, t2, t3, t4, t5⟩ := id tk
        have eall : ∀ w s3, g_part U S N s2 = some (w, s3) → W12 w → g_all_46 U S N (l_all_10 U S N (g + 1)) v s = l_all_10 U S N (g + 1) (cmb v (kA t (nI a)) w) (-1) s3 := by
          intro w s3 hw hww
          unfold g_all_46 g_all_106 cmb
          rw [e, Option.bind_some]
          dsimp only
          rw [hw, Option.bind_some, h14]
          dsimp only
          rcases ho4 with z | z | z | z <;> rw [z]
          · rw [if_neg (show ¬ ¬ (43 : Int32) = 43 from fun z => z rfl), if_neg (show ¬ (43 : Int32) = 33 by decide), if_pos (show (43 : Int32) = 43 from rfl)]
          · rw [if_pos (show ¬ (45 : Int32) = 43 by decide), if_neg (show ¬ ¬ (45 : Int32) = 45 from fun z => z rfl), if_neg (show ¬ (45 : Int32) = 33 by decide), if_neg (show ¬ (45 : Int32) = 43 by decide), if_pos (show (45 : Int32) = 45 from rfl)]
          · rw [if_pos (show ¬ (33 : Int32) = 43 by decide), if_pos (show ¬ (33 : Int32) = 45 by decide), if_neg (show ¬ ¬ (33 : Int32) = 33 from fun z => z rfl), if_pos (show (33 : Int32) = 33 from rfl), w12_id (w12_or hv hww)]
          · rw [if_pos (show ¬ (38 : Int32) = 43 by decide), if_pos (show ¬ (38 : Int32) = 45 by decide), if_pos (show ¬ (38 : Int32) = 33 by decide), if_neg (show ¬ (38 : Int32) = 33 by decide), if_neg (show ¬ (38 : Int32) = 43 by decide), if_neg (show ¬ (38 : Int32) = 45 by decide), w12_id (w12_aw hv hww)]
        rcases t5 h5 with ⟨u1, u2, -⟩ | ⟨u1, u2, u3⟩
        · have hf5 : ¬ s2.1 5 = 0 := by rw [u2]; decide
          have hpn : pm t q (a + 1) = none := by
            unfold pm pv
            rw [u1, if_neg (by decide), if_neg (fun z => absurd z.1 (by decide)), if_neg (by decide), if_neg (by decide), if_neg (by decide)]
            rfl
          rw [eall 0 s2 (part_f t3 hf5) w12_0, loop_f hf5]
          have er : rvF t q (f + 1) (a + 1) v (kA t (nI a)) = none := by
            show (pm t q (a + 1)).bind _ = none
            rw [hpn]
            rfl
          refine ⟨_, _, rfl, SL_I t1 (by decide) _, t3, fun _ => hf5, fun p z => ?_⟩
          rw [er] at z
          cases z
        · obtain ⟨w, s3, v1, v2, v3, v4, v5⟩ := part_eq (U := U) (S := S) hN (EX_SL h t1) t3 u2 u3 ((t1.1 29 (by decide)).trans hq) hpl
          have sl3 := SL_t t1 v2
          cases ep : pm t q (a + 1) with
          | none =>
            have er : rvF t q (f + 1) (a + 1) v (kA t (nI a)) = none := by
              show (pm t q (a + 1)).bind _ = none
              rw [ep]
              rfl
            have hf5 := v4 ep
            have ex : g_all_46 U S N (l_all_10 U S N (g + 1)) v s = some ((if ¬ s.1 14 = 43 then (if ¬ s.1 14 = 45 then (if ¬ s.1 14 = 33 then v &&& w else v ||| w) else v - w) else v + w) &&& 4095, pI s3 30 (-1)) := by
              unfold g_all_46 g_all_106
              rw [e, Option.bind_some]
              dsimp only
              rw [v1, Option.bind_some]
              dsimp only
              by_cases d1 : s.1 14 = 43
              · rw [if_neg (not_not_intro d1), if_neg (not_not_intro d1), loop_f hf5]
              · rw [if_pos d1, if_pos d1]
                by_cases d2 : s.1 14 = 45
                · rw [if_neg (not_not_intro d2), if_neg (not_not_intro d2), loop_f hf5]
                · rw [if_pos d2, if_pos d2]
                  by_cases d3 : s.1 14 = 33
                  · rw [if_neg (not_not_intro d3), if_neg (not_not_intro d3), loop_f hf5]
                  · rw [if_pos d3, if_pos d3, loop_f hf5]
            rw [ex]
            refine ⟨_, _, rfl, SL_I sl3 (by decide) _, v3, fun _ => hf5, fun p z => ?_⟩
            rw [er] at z
            cases z
          | some p =>
            obtain ⟨p, a2⟩ := p
            obtain ⟨x1, x2, x3⟩ := v5 _ ep
            obtain ⟨y1, y2, y3⟩ := pm_w hCA ep
            have y2' : a + 1 < a2 := y2
            have x1' : w = p := x1
            have y1' : W12 p := y1
            rw [x1'] at v1
            rw [eall p s3 v1 y1']
            have er : rvF t q (f + 1) (a + 1) v (kA t (nI a)) = if ¬ oP (kA t (nI a2)) = 0 then rvF t q f (a2 + 1) (cmb v (kA t (nI a)) p) (kA t (nI a2)) else some (cmb v (kA t (nI a)) p, a2) := by
              show (pm t q (a + 1)).bind _ = _
              rw [ep]
              rfl
            rw [er]
            have ha2 : a2 < c := by
              rcases x2 with ⟨k, -⟩ | ⟨-, -, k, -⟩
              · exact kA_lt ec hc (by have : a2 ≤ a + 1 + 2 := y3; have := hl.1; omega) (by have k' : kA t (nI a2) = 6 := k; rw [k']; decide)
              · exact k
            obtain ⟨y, s4, z1, z2, z3, z4, z5⟩ := ih (g + 1) a2 (cmb v (kA t (nI a)) p) (-1) s3 (EX_SL h sl3) v3 ((sl3.1 29 (by decide)).trans hq) x2 (cmb_w hv y1' _) (by omega) (by omega) (by omega)
            refine ⟨y, s4, z1, SL_t sl3 z2, z3, z4, fun r zr => ?_⟩
            obtain ⟨k1, k2, k3⟩ := z5 r zr
            refine ⟨k1, k2, ?_⟩
            rw [k3]
            split <;> rfl
      · rw [if_neg co, if_neg co]
        refine ⟨v, pI s 30 one, rfl, SL_I (SL_0 s) (by decide) _, hf, fun z => (by cases z), fun p z => ?_⟩
        rw [← Option.some.inj z, if_pos (Decidable.byContradiction (fun y => co y))]
        exact ⟨rfl, Or.inr ⟨k6, h5, LA_SL hl rfl rfl rfl rfl rfl⟩, rfl⟩
theorem cmb0 {p : Int32} (h : W12 p) : cmb 0 43 p = p := by
  unfold cmb
  rw [if_neg (by decide), if_pos rfl, Int32.zero_add, w12_id h]
/-- a value, all of it -/
theorem all_eq (hN : 5000 < N) (h : EX b n P c m T ν t s) (hf : FZ s) (h5 : s.1 5 = 0) {a : Nat} (hl : LA b n P c m t s a) {q : Int32} (hq : s.1 29 = q) (hpl : plW (t.1 0 0 10)) : ∃ y s2, g_all U S N s = some (y, s2) ∧ SL s s2 ∧ FZ s2 ∧ (rv t q a = none → ¬ s2.1 5 = 0) ∧ (∀ p, rv t q a = some p → y = p.1 ∧ OC b n P c m t s2 p.2 ∧ s2.1 30 = aln t q a) := by
  obtain ⟨-, -, ⟨-, -, ec, -, hc, -⟩, -, -, -, -, -, -, hCA⟩ := id h
  obtain ⟨w, s2, v1, v2, v3, v4, v5⟩ := part_eq (U := U) (S := S) hN h hf h5 hl hq hpl
  unfold g_all
  rw [v1, Option.bind_some]
  dsimp only
  have er : rv t q a = (pm t q a).bind fun p => if ¬ oP (kA t (nI p.2)) = 0 then rvF t q 2999 (p.2 + 1) (cmb 0 43 p.1) (kA t (nI p.2)) else some (cmb 0 43 p.1, p.2) := rfl
  unfold aln
  cases ep : pm t q a with
  | none =>
    rw [ep] at er
    have er2 : rv t q a = none := er
    obtain ⟨N, rfl⟩ : ∃ k, N = k + 1 := ⟨N - 1, by omega⟩
    rw [loop_f (v4 ep), er2]
    exact ⟨_, _, rfl, SL_I v2 (by decide) _, v3, fun _ => v4 ep, fun p z => by cases z⟩
  | some p =>
    obtain ⟨p, a2⟩ := p
    obtain ⟨x1, x2, x3⟩ := v5 _ ep
    obtain ⟨y1, y2, y3⟩ := pm_w hCA ep
    have x1' : w = p := x1
    have y1' : W12 p := y1
    have y3' : a2 ≤ a + 2 := y3
    have y2' : a < a2 := y2
    rw [ep] at er
    have er2 : rv t q a = if ¬ oP (kA t (nI a2)) = 0 then rvF t q 2999 (a2 + 1) (cmb 0 43 p) (kA t (nI a2)) else some (cmb 0 43 p, a2) := er
    rw [er2, cmb0 y1', x1', x3]
    have ha := hl.1
    have ha2 : a2 < c := by
      rcases x2 with ⟨k, -⟩ | ⟨-, -, k, -⟩
      · exact kA_lt ec hc (by omega) (by have k' : kA t (nI a2) = 6 := k; rw [k']; decide)
      · exact k
    obtain ⟨y, s4, z1, z2, z3, z4, z5⟩ := loop_eq (U := U) (S := S) hN (q := q) hpl 2999 N a2 p (alo t a) s2 (EX_SL h v2) v3 ((v2.1 29 (by decide)).trans hq) x2 y1' ha2 (by omega) (by omega)
    exact ⟨y, s4, z1, SL_t v2 z2, z3, z4, z5⟩
/-- a value whose names must be told ahead -/
theorem asked_eq (hN : 5000 < N) (h : EX b n P c m T ν t s) (hf : FZ s) (h5 : s.1 5 = 0) {a : Nat} (hl : LA b n P c m t s a) (hq : s.1 29 = 0) (hpl : plW (t.1 0 0 10)) : ∃ y s2, g_asked U S N s = some (y, s2) ∧ SL s s2 ∧ FZ s2 ∧ (rv t 1 a = none → ¬ s2.1 5 = 0) ∧ (∀ p, rv t 1 a = some p → y = p.1 ∧ OC b n P c m t s2 p.2) := by
  have h29 : EX b n P c m T ν t (pI s 29 1) := by
    obtain ⟨h1, h2, h3, h4, h5, h6, h8, h9, h10, h11⟩ := h
    exact ⟨h1, h2, h3, h4, RN_s h5 rfl rfl rfl rfl rfl, h6, h8, h9, h10, h11⟩
  obtain ⟨y, s2, v1, v2, v3, v4, v5⟩ := all_eq (U := U) (S := S) (s := pI s 29 1) hN h29 hf h5 (LA_SL hl rfl rfl rfl rfl rfl) rfl hpl
  unfold g_asked g_asked_20 pZ
  rw [if_pos (Or.inr rfl), Option.bind_some]
  show ∃ y2 s3, (if ¬ s.1 5 = 0 then _ else (g_all U S N (pI s 29 1)).bind _) = _ ∧ _
  rw [if_neg (not_not_intro h5), v1, Option.bind_some]
  dsimp only
  rw [if_pos (Or.inl rfl), Option.bind_some]
  refine ⟨y, pI s2 29 0, rfl, ⟨fun k hk => ?_, v2.2⟩, v3, v4, fun p z => ?_⟩
  · by_cases e : k = 29
    · subst e
      show (0 : Int32) = s.1 29
      rw [hq]
    · show up1 s2.1 29 0 k = _
      rw [up1_n _ _ e, v2.1 k hk]
      show up1 s.1 29 1 k = _
      rw [up1_n _ _ e]
  · obtain ⟨w1, w2, -⟩ := v5 p z
    refine ⟨w1, ?_⟩
    rcases w2 with k | ⟨k1, k2, k3⟩
    · exact Or.inl k
    · exact Or.inr ⟨k1, k2, LA_SL k3 rfl rfl rfl rfl rfl⟩
theorem asked_f (h5 : ¬ s.1 5 = 0) (hq : s.1 29 = 0) : ∃ s2, g_asked U S N s = some (0, s2) ∧ SL s s2 ∧ s2.1 5 = s.1 5 := by
  unfold g_asked g_asked_20 pZ
  rw [if_pos (Or.inr rfl), Option.bind_some]
  show ∃ s3, (if ¬ s.1 5 = 0 then _ else _) = _ ∧ _
  rw [if_pos h5]
  rw [if_pos (Or.inl rfl), Option.bind_some]
  refine ⟨_, rfl, ⟨fun k hk => ?_, rfl⟩, rfl⟩
  show up1 (up1 s.1 29 1) 29 0 k = _
  by_cases e : k = 29
  · subst e
    rw [up1_s, hq]
  · rw [up1_n _ _ e, up1_n _ _ e]
end
