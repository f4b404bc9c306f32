/-! LAYER 3, the assembler of the class never throws: the rest -/
section
variable {U S N : Nat} {t0 t : CS}
def z1 (x : Int32) : Prop := x = 0 ∨ x = 1
theorem ga_s (h : GA t0 t) : ∃ i, i < 2 ∧ vl 2 (t.2.2.2.1 0 0 3) = some (some i) ∧ t.2.2.2.1 0 0 3 = some i := by
  obtain ⟨i, hi, e, -⟩ := h.1.2.2.2.2.1
  exact ⟨i, hi, by rw [e, vl_y hi], e⟩
theorem s_report (h : GA t0 t) (k a : Int32) : Sf t0 (an (α := Unit)) (u_X0_report U S N k a t) := by
  unfold u_X0_report u_X0_report_28 u_X0_report_47 u_X0_report_50
  refine sf_i (fun _ => sf_s h trivial) (fun hz => sf_v rfl (sf_i (fun _ => sf_v rfl (sf_s (GA_0 (GA_04 h (Decidable.byContradiction (fun q => hz q)) _) 5 _) trivial)) (fun h0 => sf_i (fun h1 => ?_) (fun _ => sf_v rfl (sf_s (GA_0 (GA_04 h (Decidable.byContradiction (fun q => hz q)) _) 5 _) trivial)))))
  obtain ⟨⟨c, hc, ec, -⟩, -⟩ := h.1
  have h1' : a < nI c := by rw [← ec]; exact h1
  exact sf_v (rH_c h0 h1' hc (by decide) 9 0 2) (sf_v rfl (sf_s (GA_0 (GA_04 h (Decidable.byContradiction (fun q => hz q)) _) 5 _) trivial))
theorem s_lay (h : GA t0 t) {i : Nat} (hi : t.2.2.2.1 0 0 3 = some i) (a x : Int32) : Sf t0 (an (α := Unit)) (u_X7_lay U S N i a x t) := by
  unfold u_X7_lay u_X7_lay_11 u_X7_lay_32
  refine sf_i (fun _ => sf_s h trivial) (fun h0 => sf_i (fun h1 => ?_) (fun _ => sf_s h trivial))
  obtain ⟨j, hj, rfl⟩ := i_in (n := 4096) h0 h1 (by decide)
  refine sf_v (rH_y (by decide) hj _ _ _ _) (sf_i (fun _ => ?_) (fun _ => ?_))
  · exact sf_v (wH_y (by decide) hj _ _ _ _ _) (sf_s (GA_7 h hi _) trivial)
  · exact sf_v rfl (sf_v (wH_y (by decide) hj _ _ _ _ _) (sf_s (GA_7 (GA_71 h hi _) hi _) trivial))
theorem r_hasLit (hN : 5000 < N) (i : Nat) (a b : Int32) : Rd t z1 (u_X7_hasLiteral U S N i a b t) := by
  have loop : ∀ (m y : Nat), y < 2 ^ 31 → 0 < m → 4096 < y + m → Rd t z1 (ul_X7_hasLiteral_6 U S N m i a b (nI y) t) := by
    intro m
    induction m with
    | zero => intro y h1 h0 h2; omega
    | succ m ih =>
      intro y h1 h0 h2
      show Rd t z1 (uh_X7_hasLiteral_6 U S N (ul_X7_hasLiteral_6 U S N m) i a b (nI y) t)
      unfold uh_X7_hasLiteral_6 u_X7_hasLiteral_40
      refine rd_i (fun _ => rd_z (Or.inl rfl) (Or.inl rfl)) (fun _ => rd_i (fun _ => rd_z (Or.inl rfl) (Or.inl rfl)) (fun c => ?_))
      have hlt : y < 4096 := by
        have := mt (leI (a := 4096) (b := y) (by decide) h1).mpr c
        omega
      refine rd_v (rH_y (by decide) hlt _ _ _ _) (rd_i (fun _ => ?_) (fun _ => rd_z (Or.inr rfl) (Or.inr rfl)))
      rw [nI_1]
      exact ih (y + 1) (by omega) (by omega) (by omega)
  unfold u_X7_hasLiteral
  have hm : ¬ mmax 0 a < 0 := by
    unfold mmax
    by_cases c : (0 : Int32) < a
    · rw [if_pos c]
      intro z
      rw [Int32.lt_iff_toInt_lt] at c z
      omega
    · rw [if_neg c]
      decide
  obtain ⟨y, hy, ey⟩ := nI_of hm
  rw [ey]
  exact loop N y hy (by omega) (by omega)
theorem s_litPlace (hN : 5000 < N) (h : GA t0 t) {i : Nat} (hi : t.2.2.2.1 0 0 3 = some i) (a b : Int32) : Sf t0 (an (α := Int32)) (u_X7_literalPlace U S N i a b t) := by
  have done : ∀ (m : Nat) (x c : Int32), 0 < m → (x < 0 ∨ 4096 ≤ x) → Sf t0 (an (α := Int32)) (ul_X7_literalPlace_15 U S N m i a c x t) := by
    intro m x c hm hx
    obtain ⟨m, rfl⟩ : ∃ m', m = m' + 1 := ⟨m - 1, by omega⟩
    show Sf t0 an (uh_X7_literalPlace_15 U S N (ul_X7_literalPlace_15 U S N m) i a c x t)
    unfold uh_X7_literalPlace_15 u_X7_literalPlace_90
    refine sf_i (fun _ => sf_s h trivial) (fun _ => sf_i (fun _ => sf_s h trivial) (fun c1 => sf_i (fun _ => sf_s h trivial) (fun c2 => ?_)))
    rcases hx with z | z
    · exact absurd z c1
    · exact absurd z c2
  have loop : ∀ (y m : Nat) (c : Int32), y < 4096 → y + 1 < m → Sf t0 (an (α := Int32)) (ul_X7_literalPlace_15 U S N m i a c (nI y) t) := by
    intro y
    induction y with
    | zero =>
      intro m c h1 h2
      obtain ⟨m, rfl⟩ : ∃ m', m = m' + 1 := ⟨m - 1, by omega⟩
      show Sf t0 an (uh_X7_literalPlace_15 U S N (ul_X7_literalPlace_15 U S N m) i a c (nI 0) t)
      unfold uh_X7_literalPlace_15 u_X7_literalPlace_90
      refine sf_i (fun _ => sf_s h trivial) (fun _ => sf_i (fun _ => sf_s h trivial) (fun _ => sf_i (fun _ => sf_s h trivial) (fun _ => sf_v (rH_y (by decide) h1 _ _ _ _) (sf_i (fun _ => sf_v (rH_y (by decide) h1 _ _ _ _) (sf_i (fun _ => sf_v (rH_y (by decide) h1 _ _ _ _) (sf_i (fun _ => ?_) (fun _ => sf_s h trivial))) (fun _ => sf_s h trivial))) (fun _ => sf_b (s_lay h hi _ _) (fun _ t2 g _ => sf_s g trivial))))))
      exact done m _ c (by omega) (Or.inl (by decide))
    | succ y ih =>
      intro m c h1 h2
      obtain ⟨m, rfl⟩ : ∃ m', m = m' + 1 := ⟨m - 1, by omega⟩
      show Sf t0 an (uh_X7_literalPlace_15 U S N (ul_X7_literalPlace_15 U S N m) i a c (nI (y + 1)) t)
      unfold uh_X7_literalPlace_15 u_X7_literalPlace_90
      refine sf_i (fun _ => sf_s h trivial) (fun _ => sf_i (fun _ => sf_s h trivial) (fun _ => sf_i (fun _ => sf_s h trivial) (fun _ => sf_v (rH_y (by decide) h1 _ _ _ _) (sf_i (fun _ => sf_v (rH_y (by decide) h1 _ _ _ _) (sf_i (fun _ => sf_v (rH_y (by decide) h1 _ _ _ _) (sf_i (fun _ => ?_) (fun _ => sf_s h trivial))) (fun _ => sf_s h trivial))) (fun _ => sf_b (s_lay h hi _ _) (fun _ t2 g _ => sf_s g trivial))))))
      rw [sub_1, nI_pred]
      exact ih m c (by omega) (by omega)
  unfold u_X7_literalPlace
  by_cases c0 : (a + 128) - 1 < 0
  · exact done N _ _ (by omega) (Or.inl c0)
  · by_cases c1 : 4096 ≤ (a + 128) - 1
    · exact done N _ _ (by omega) (Or.inr c1)
    · obtain ⟨y, hy, ey⟩ := nI_of c0
      rw [ey] at c1 ⊢
      have hlt : y < 4096 := by
        have := mt (leI (a := 4096) (b := y) (by decide) hy).mpr c1
        omega
      exact loop y N _ hlt (by omega)
theorem s_90 (h : GA t0 t) : Sf t0 z1 (u_X0_mayTell_90 U S N t) := by
  unfold u_X0_mayTell_90 u_X0_mayTell_102
  exact sf_i (fun _ => sf_z h (Or.inl rfl) (Or.inl rfl)) (fun _ => sf_z h (Or.inr rfl) (Or.inr rfl))
theorem s_mayTell (h : GA t0 t) (a : Int32) : Sf t0 z1 (u_X0_mayTell U S N a t) := by
  have rp : ∀ k x, Sf t0 z1 ((u_X0_report U S N k x t).bind fun q => u_X0_mayTell_90 U S N q.2) := fun k x => sf_b (s_report h k x) (fun _ t2 g _ => s_90 g)
  unfold u_X0_mayTell u_X0_mayTell_51 u_X0_mayTell_63
  refine sf_v (e_value h.1 _) (sf_v (e_tell h.1 _) (sf_i (fun _ => sf_i (fun _ => rp _ _) (fun _ => sf_i (fun _ => ?_) (fun _ => sf_i (fun _ => ?_) (fun _ => rp _ _)))) (fun _ => rp _ _)))
  · exact sf_i (fun _ => s_90 h) (fun _ => sf_i (fun _ => s_90 h) (fun _ => rp _ _))
  · exact sf_i (fun _ => s_90 h) (fun _ => sf_i (fun _ => s_90 h) (fun _ => rp _ _))
theorem e_report (h : CA t) {k : Int32} (hk : ¬ k = 0) (a : Int32) : ∃ t2, u_X0_report U S N k a t = some ((), t2) ∧ ¬ t2.1 0 0 4 = 0 := by
  have key : ∀ t2, u_X0_report U S N k a t = some ((), t2) → ¬ t2.1 0 0 4 = 0 := by
    intro t2
    unfold u_X0_report u_X0_report_28 u_X0_report_47 u_X0_report_50
    by_cases c : ¬ t.1 0 0 4 = 0
    · rw [if_pos c]
      intro e
      rw [show t2 = _ from (congrArg Prod.snd (Option.some.inj e)).symm]
      exact c
    · rw [if_neg c, Option.bind_some]
      by_cases c1 : a < 0
      · rw [if_pos c1]
        intro e
        rw [show t2 = _ from (congrArg Prod.snd (Option.some.inj e)).symm]
        exact hk
      · rw [if_neg c1]
        by_cases c2 : a < (qI t 0 0 4 k).1 9 0 5
        · rw [if_pos c2]
          intro e
          cases e2 : rH 2001 (qI t 0 0 4 k) 9 0 2 a with
          | none => rw [e2] at e; cases e
          | some v =>
            rw [e2] at e
            rw [show t2 = _ from (congrArg Prod.snd (Option.some.inj e)).symm]
            exact hk
        · rw [if_neg c2]
          intro e
          rw [show t2 = _ from (congrArg Prod.snd (Option.some.inj e)).symm]
          exact hk
  obtain ⟨_, t2, e, _, _⟩ := s_report (U := U) (S := S) (N := N) ⟨h, AF_refl t⟩ k a
  exact ⟨t2, e, key t2 e⟩
/-- may a name be told -/
def mtOK (t : CS) (a : Int32) : Prop := ¬ gA t (vA t (t.1 0 0 9)) = 3 ∧ ¬ gA t (vA t (t.1 0 0 9)) = 1 ∧ ¬ (gA t (vA t (t.1 0 0 9)) = 2 ∧ a = 1) ∧ (gA t (vA t (t.1 0 0 9)) = 0 → t.1 4 0 4 < 200)
theorem e_mt (h : CA t) (a : Int32) : (t.1 0 0 4 = 0 ∧ mtOK t a ∧ u_X0_mayTell U S N a t = some (1, t)) ∨ (¬ (t.1 0 0 4 = 0 ∧ mtOK t a) ∧ ∃ t2, u_X0_mayTell U S N a t = some (0, t2) ∧ ¬ t2.1 0 0 4 = 0) := by
  have rp : ∀ k x, ¬ k = 0 → ∃ t2, ((u_X0_report U S N k x t).bind fun q => u_X0_mayTell_90 U S N q.2) = some (0, t2) ∧ ¬ t2.1 0 0 4 = 0 := by
    intro k x hk
    obtain ⟨t2, e, h2⟩ := e_report (U := U) (S := S) (N := N) h hk x
    refine ⟨t2, ?_, h2⟩
    rw [e, Option.bind_some]
    unfold u_X0_mayTell_90 u_X0_mayTell_102
    rw [if_pos h2]
    rfl
  have e90 : (t.1 0 0 4 = 0 ∧ u_X0_mayTell_90 U S N t = some (1, t)) ∨ (¬ t.1 0 0 4 = 0 ∧ ∃ t2, u_X0_mayTell_90 U S N t = some (0, t2) ∧ ¬ t2.1 0 0 4 = 0) := by
    unfold u_X0_mayTell_90 u_X0_mayTell_102
    by_cases c : t.1 0 0 4 = 0
    · rw [if_neg (not_not_intro c)]
      exact Or.inl ⟨c, rfl⟩
    · rw [if_pos c]
      exact Or.inr ⟨c, t, rfl, c⟩
  unfold u_X0_mayTell u_X0_mayTell_51 u_X0_mayTell_63 mtOK
  rw [e_value h, Option.bind_some, e_tell h, Option.bind_some]
  show (_ ∧ _ ∧ (if ¬ gA t (vA t (t.1 0 0 9)) = 3 then _ else _) = _) ∨ (_ ∧ ∃ t2, (if ¬ gA t (vA t (t.1 0 0 9)) = 3 then _ else _) = _ ∧ _)
  generalize gA t (vA t (t.1 0 0 9)) = g
  have fin : ∀ (hok : ¬ g = 3 ∧ ¬ g = 1 ∧ ¬ (g = 2 ∧ a = 1) ∧ (g = 0 → t.1 4 0 4 < 200)), (t.1 0 0 4 = 0 ∧ (¬ g = 3 ∧ ¬ g = 1 ∧ ¬ (g = 2 ∧ a = 1) ∧ (g = 0 → t.1 4 0 4 < 200)) ∧ u_X0_mayTell_90 U S N t = some (1, t)) ∨ (¬ (t.1 0 0 4 = 0 ∧ (¬ g = 3 ∧ ¬ g = 1 ∧ ¬ (g = 2 ∧ a = 1) ∧ (g = 0 → t.1 4 0 4 < 200))) ∧ ∃ t2, u_X0_mayTell_90 U S N t = some (0, t2) ∧ ¬ t2.1 0 0 4 = 0) := by
    intro hok
    rcases e90 with ⟨c1, c2⟩ | ⟨c1, c2⟩
    · exact Or.inl ⟨c1, hok, c2⟩
    · exact Or.inr ⟨fun z => c1 z.1, c2⟩
  by_cases c3 : g = 3
  · rw [if_neg (not_not_intro c3)]
    exact Or.inr ⟨fun z => z.2.1 c3, rp _ _ (by decide)⟩
  · rw [if_pos c3]
    by_cases c1 : g = 1
    · rw [if_pos c1]
      exact Or.inr ⟨fun z => z.2.2.1 c1, rp _ _ (by decide)⟩
    · rw [if_neg c1]
      by_cases c2 : g = 2
      · rw [if_neg (not_not_intro c2)]
        by_cases ca : a = 1
        · rw [if_neg (not_not_intro ca)]
          exact Or.inr ⟨fun z => z.2.2.2.1 ⟨c2, ca⟩, rp _ _ (by decide)⟩
        · rw [if_pos ca, if_pos (show ¬ g = 0 by rw [c2]; decide)]
          exact fin ⟨c3, c1, fun z => ca z.2, fun z => absurd (c2.symm.trans z) (by decide)⟩
      · rw [if_pos c2]
        by_cases c0 : g = 0
        · rw [if_neg (not_not_intro c0)]
          by_cases c200 : t.1 4 0 4 < 200
          · rw [if_pos c200]
            exact fin ⟨c3, c1, fun z => c2 z.1, fun _ => c200⟩
          · rw [if_neg c200]
            exact Or.inr ⟨fun z => c200 (z.2.2.2.2 c0), rp _ _ (by decide)⟩
        · rw [if_pos c0]
          exact fin ⟨c3, c1, fun z => c2 z.1, fun z => absurd z c0⟩
theorem fx_g (h : CA t) {a : Int32} (hg : ¬ gA t a = 3) : ∀ j, j < 53 → ¬ a = nI j := by
  obtain ⟨-, ⟨m, hm, em, hm53, hfx⟩, -⟩ := h
  rintro j hj rfl
  apply hg
  unfold gA
  rw [if_neg (nI_nn (by omega)), em, if_pos ((ltI (by omega) (by omega)).mpr (by omega)), nI_clamp (by omega)]
  exact (hfx j hj).2.2
theorem sf_mt {β : Type} {Q2 : β → Prop} (h : GA t0 t) (a : Int32) {k : Int32 × CS → Option (β × CS)} (h0 : ∀ t2, GA t0 t2 → Sf t0 Q2 (k (0, t2))) (h1 : (∀ j, j < 53 → ¬ vA t (t.1 0 0 9) = nI j) → Sf t0 Q2 (k (1, t))) : Sf t0 Q2 ((u_X0_mayTell U S N a t).bind k) := by
  obtain ⟨r, t2, e, g, -⟩ := s_mayTell (U := U) (S := S) (N := N) h a
  rcases e_mt (U := U) (S := S) (N := N) h.1 a with ⟨-, hok, e2⟩ | ⟨-, t3, e2, -⟩
  · rw [e2, Option.bind_some]
    exact h1 (fx_g h.1 hok.1)
  · rw [e2, Option.bind_some]
    rw [e] at e2
    have := congrArg Prod.snd (Option.some.inj e2)
    have e3 : t2 = t3 := this
    rw [← e3]
    exact h0 t2 g
theorem s_tell (h : GA t0 t) (a : Int32) (ha : ∀ j, j < 53 → ¬ a = nI j) {v : Int32} (hv : W12 v) (x : Int32) : Sf t0 (an (α := Unit)) (u_X4_tell U S N a v x t) := by
  obtain ⟨-, ⟨m, hm, em, -⟩, -⟩ := id h.1
  unfold u_X4_tell u_X4_tell_12 u_X4_tell_32
  refine sf_i (fun _ => sf_s h trivial) (fun h0 => sf_i (fun h1 => ?_) (fun _ => sf_s h trivial))
  rw [em] at h1
  obtain ⟨j, hj, rfl⟩ := i_in h0 h1 (by omega)
  have hj2 : j < 1054 := by omega
  have hj3 : 53 ≤ j := Nat.le_of_not_lt (fun z => ha j z rfl)
  refine sf_v (rH_y (by decide) hj2 _ _ _ _) (sf_i (fun _ => ?_) (fun _ => ?_))
  · exact sf_v (wH_y (by decide) hj2 _ _ _ _ _) (sf_v (wH_y (by decide) hj2 _ _ _ _ _) (sf_s (GA_42 (GA_41 h hj3 hv) hj3 x) trivial))
  · exact sf_v rfl (sf_v (wH_y (by decide) hj2 _ _ _ _ _) (sf_v (wH_y (by decide) hj2 _ _ _ _ _) (sf_s (GA_42 (GA_41 (GA_44 h _) hj3 hv) hj3 x) trivial)))
theorem s_readPlain (h : GA t0 t) (a : Int32) : Sf t0 W12 (u_X0_readPlain U S N a t) := by
  obtain ⟨k1, k2, k3, k4⟩ := kA_w h.1 (t.1 0 0 9)
  have rep : ∀ x, Sf t0 W12 ((u_X0_report U S N x (t.1 0 0 9) t).bind fun q1 => some (0, q1.2)) := fun x => sf_b (s_report h _ _) (fun _ t2 g _ => sf_s g w12_0)
  have h9 := GA_0 h 9 (t.1 0 0 9 + 1)
  have nv : ∀ (t2 : CS) (x : Int32), GA t0 t2 → Sf t0 W12 ((u_X4_valueOf U S N x t2).bind fun q2 => some (q2.1, q2.2)) := fun t2 x g => sf_v (e_nval g.1 x) (sf_s g (w_nA g.1 x))
  have s126 : ∀ (x5 : Int32), (x5 = 0 → W12 (vA t (t.1 0 0 9))) → Sf t0 W12 (u_X0_readPlain_126 U S N a (t.1 0 0 9) (vA t (t.1 0 0 9)) x5 (qI t 0 0 9 (t.1 0 0 9 + 1))) := by
    intro x5 hx5
    have s145 : Sf t0 W12 (u_X0_readPlain_145 U S N (t.1 0 0 9) (vA t (t.1 0 0 9)) (qI t 0 0 9 (t.1 0 0 9 + 1))) := by
      unfold u_X0_readPlain_145 u_X0_readPlain_163
      exact sf_v (e_tell h9.1 _) (sf_i (fun _ => nv _ _ h9) (fun _ => sf_b (s_report h9 _ _) (fun _ t2 g _ => nv _ _ g)))
    unfold u_X0_readPlain_126
    refine sf_i (fun _ => sf_i (fun _ => s145) (fun _ => sf_i (fun _ => ?_) (fun _ => s145))) (fun c => sf_s h9 (hx5 (Decidable.byContradiction (fun z => c z))))
    unfold u_X0_readPlain_163
    exact nv _ _ h9
  have s80 : ∀ (x5 : Int32), (x5 = 0 → (kA t (t.1 0 0 9) = 2 ∨ kA t (t.1 0 0 9) = 3 ∨ kA t (t.1 0 0 9) = 46)) → Sf t0 W12 (u_X0_readPlain_80 U S N a (t.1 0 0 9) (kA t (t.1 0 0 9)) (vA t (t.1 0 0 9)) x5 t) := by
    intro x5 hx5
    unfold u_X0_readPlain_80
    refine sf_v rfl (sf_i (fun c46 => sf_i (fun c2 => s126 x5 (fun z => ?_)) (fun c2 => sf_i (fun c8 => s126 x5 (fun z => ?_)) (fun c8 => ?_))) (fun _ => sf_s h9 (w12_and _)))
    · rcases hx5 z with q | q | q
      · exact absurd q c2
      · exact k3 q
      · exact absurd q c46
    · exact k1 (Decidable.byContradiction (fun z => c2 z)) c8
    · exact sf_v (e_other h9.1 _) (sf_s h9 (k2 (Decidable.byContradiction (fun z => c2 z)) c8))
  have s39 : ∀ (x5 : Int32), Sf t0 W12 (u_X0_readPlain_39 U S N a (t.1 0 0 9) (kA t (t.1 0 0 9)) (vA t (t.1 0 0 9)) x5 t) := by
    intro x5
    unfold u_X0_readPlain_39 u_X0_readPlain_74
    exact sf_i (fun c => s80 x5 (fun z => absurd z c)) (fun _ => sf_i (fun c => s80 x5 (fun _ => Or.inl c)) (fun _ => sf_i (fun c => s80 x5 (fun _ => Or.inr (Or.inl c))) (fun _ => sf_i (fun c => s80 x5 (fun _ => Or.inr (Or.inr c))) (fun _ => sf_i (fun _ => rep _) (fun _ => rep _)))))
  unfold u_X0_readPlain u_X0_readPlain_38
  refine sf_v (e_kind h.1 _) (sf_v (e_value h.1 _) (sf_i (fun _ => s39 0) (fun _ => sf_v (e_isSt _) (sf_i (fun _ => s39 0) (fun _ => s39 1)))))
theorem s_comb (h : GA t0 t) {a b : Int32} (ha : W12 a) (hb : W12 b) (op : Int32) : Sf t0 W12 (u_X0_combine U S N a op b t) := by
  unfold u_X0_combine
  exact sf_i (fun _ => sf_s h (w12_or ha hb)) (fun _ => sf_i (fun _ => sf_s h (w12_and _)) (fun _ => sf_i (fun _ => sf_s h (w12_and _)) (fun _ => sf_s h (w12_aw ha hb))))
theorem s_readValue (hN : 5000 < N) (h : GA t0 t) (a : Int32) : Sf t0 W12 (u_X0_readValue U S N a t) := by
  have loop : ∀ (m i : Nat) (t : CS) (v op : Int32), GA t0 t → W12 v → i ≤ 2002 → 2002 < i + m → Sf t0 W12 (ul_X0_readValue_8 U S N m a v op (nI i) t) := by
    intro m
    induction m with
    | zero => intro i t v op _ _ h1 h2; omega
    | succ m ih =>
      intro i t v op h hv h1 h2
      obtain ⟨⟨c, hc, ec, -⟩, -⟩ := id h.1
      show Sf t0 W12 (uh_X0_readValue_8 U S N (ul_X0_readValue_8 U S N m) a v op (nI i) t)
      have s88 : ∀ (t2 : CS) (b : Int32), GA t0 t2 → W12 b → i < 2002 → Sf t0 W12 (u_X0_readValue_88 U S N (ul_X0_readValue_8 U S N m) a (nI i) v op b t2) := by
        intro t2 b g hb hi
        unfold u_X0_readValue_88 u_X0_readValue_127
        refine sf_b (s_comb g hv hb op) (fun r t3 g3 hr => sf_v (e_kind g3.1 _) (sf_v (e_isOp _) (sf_i (fun _ => sf_v rfl ?_) (fun _ => sf_s g3 hr))))
        rw [nI_1]
        exact ih (i + 1) _ r _ (GA_0 g3 9 _) hr (by omega) (by omega)
      have s62 : ∀ (t2 : CS) (x5 : Int32), GA t0 t2 → i < 2002 → Sf t0 W12 (u_X0_readValue_62 U S N (ul_X0_readValue_8 U S N m) a v op (nI i) x5 t2) := by
        intro t2 x5 g hi
        unfold u_X0_readValue_62
        exact sf_b (s_readPlain g a) (fun r t3 g3 hr => sf_i (fun _ => s88 t3 _ g3 hr hi) (fun _ => s88 t3 _ g3 (w12_and _) hi))
      have s45 : ∀ (x : Int32), i < 2002 → Sf t0 W12 (u_X0_readValue_45 U S N (ul_X0_readValue_8 U S N m) a v op (nI i) x t) := by
        intro x hi
        unfold u_X0_readValue_45
        exact sf_i (fun _ => s62 t x h hi) (fun _ => sf_v rfl (s62 _ x (GA_0 h 9 _) hi))
      unfold uh_X0_readValue_8 u_X0_readValue_127
      rw [ec]
      refine sf_i (fun _ => sf_s h hv) (fun c1 => ?_)
      have hi : i < 2002 := by
        have := mt (ltI (a := c) (b := i) (by omega) (by omega)).mpr c1
        omega
      exact sf_i (fun _ => sf_s h hv) (fun _ => sf_v (e_kind h.1 _) (sf_i (fun _ => s45 0 hi) (fun _ => s45 1 hi)))
  exact loop N 0 t 0 43 h w12_0 (by omega) (by omega)
theorem s_origin (hN : 5000 < N) (h : GA t0 t) : Sf t0 (an (α := Unit)) (u_X0_passOrigin U S N t) := by
  unfold u_X0_passOrigin u_X0_passOrigin_28
  exact sf_v rfl (sf_b (s_readValue hN (GA_0 h 9 _) 1) (fun r t2 g _ => sf_i (fun _ => sf_s g trivial) (fun _ => sf_v rfl (sf_s (GA_0 g 10 _) trivial))))
theorem s_equation (hN : 5000 < N) (h : GA t0 t) : Sf t0 (an (α := Unit)) (u_X0_passEquation U S N t) := by
  unfold u_X0_passEquation u_X0_passEquation_54
  exact sf_v (e_value h.1 _) (sf_mt h 2 (fun t2 g => sf_i (fun z => absurd rfl z) (fun _ => sf_s g trivial)) (fun hj => sf_i (fun _ => sf_v rfl (sf_b (s_readValue hN (GA_0 h 9 _) 1) (fun r3 t3 g3 h3 => sf_i (fun _ => sf_s g3 trivial) (fun _ => sf_b (s_tell g3 _ hj h3 2) (fun _ t4 g4 _ => sf_s g4 trivial))))) (fun _ => sf_s h trivial)))
theorem s_page (hN : 5000 < N) (h : GA t0 t) : Sf t0 (an (α := Unit)) (u_X0_passPage U S N t) := by
  unfold u_X0_passPage u_X0_passPage_88
  refine sf_v rfl (sf_v (e_begV (GA_0 h 9 _).1 _) (sf_i (fun _ => sf_b (s_readValue hN (GA_0 h 9 _) 1) (fun r t2 g _ => sf_i (fun _ => sf_i (fun _ => sf_v rfl (sf_s (GA_0 g 10 _) trivial)) (fun _ => sf_b (s_report g _ _) (fun _ t3 g3 _ => sf_s g3 trivial))) (fun _ => sf_s g trivial))) (fun _ => ?_)))
  exact sf_i (fun z => absurd z (by decide)) (fun _ => sf_v rfl (sf_s (GA_0 (GA_0 h 9 _) 10 _) trivial))
theorem s_radix (h : GA t0 t) {a : Int32} (ha : a = 0 ∨ a = 1) : Sf t0 (an (α := Unit)) (u_X0_passRadix U S N a t) := by
  unfold u_X0_passRadix qZ
  rw [if_pos ha]
  exact sf_v rfl (sf_v rfl (sf_s (GA_0 (GA_0 h 8 _) 9 _) trivial))
theorem s_mayLay (hN : 5000 < N) (h : GA t0 t) (a b : Int32) : Sf t0 z1 (u_X0_mayLay U S N a b t) := by
  have s62 : ∀ t2 : CS, GA t0 t2 → Sf t0 z1 (u_X0_mayLay_62 U S N t2) := by
    intro t2 g
    unfold u_X0_mayLay_62 u_X0_mayLay_74
    exact sf_i (fun _ => sf_z g (Or.inl rfl) (Or.inl rfl)) (fun _ => sf_z g (Or.inr rfl) (Or.inr rfl))
  have s26 : ∀ t2 : CS, GA t0 t2 → Sf t0 z1 (u_X0_mayLay_26 U S N a b t2) := by
    intro t2 g
    obtain ⟨i, hi, ei, -⟩ := ga_s g
    unfold u_X0_mayLay_26
    exact sf_i (fun _ => s62 t2 g) (fun _ => sf_i (fun _ => s62 t2 g) (fun _ => sf_v ei (sf_v rfl (sf_r (r_hasLit hN i _ _) (fun r _ => sf_i (fun _ => s62 t2 g) (fun _ => sf_b (s_report g _ _) (fun _ t3 g3 _ => s62 t3 g3)))))))
  unfold u_X0_mayLay
  exact sf_i (fun _ => s26 t h) (fun _ => sf_i (fun _ => s26 t h) (fun _ => sf_b (s_report h _ _) (fun _ t3 g3 _ => s26 t3 g3)))
theorem s_zeros (hN : 5000 < N) (h : GA t0 t) : Sf t0 (an (α := Unit)) (u_X0_passZeros U S N t) := by
  have loop : ∀ (x : Nat), x < 4096 → ∀ (m i : Nat) (t : CS), GA t0 t → i ≤ x → x < i + m → Sf t0 (an (α := Unit)) (ul_X0_passZeros_33 U S N m (nI x) (nI i) t) := by
    intro x hx m
    induction m with
    | zero => intro i t _ h1 h2; omega
    | succ m ih =>
      intro i t h h1 h2
      show Sf t0 an (uh_X0_passZeros_33 U S N (ul_X0_passZeros_33 U S N m) (nI x) (nI i) t)
      obtain ⟨k, hk, ek, ek3⟩ := ga_s h
      unfold uh_X0_passZeros_33 u_X0_passZeros_65
      refine sf_i (fun _ => sf_v rfl (sf_s (GA_0 h 10 _) trivial)) (fun _ => sf_i (fun _ => sf_v rfl (sf_s (GA_0 h 10 _) trivial)) (fun c => sf_v ek (sf_v rfl (sf_b (s_lay h ek3 _ _) (fun _ t2 g _ => ?_)))))
      have hlt : i < x := by
        have := mt (leI (a := x) (b := i) (by omega) (by omega)).mpr c
        omega
      rw [nI_1]
      exact ih (i + 1) t2 g (by omega) (by omega)
  unfold u_X0_passZeros
  refine sf_v rfl (sf_b (s_readValue hN (GA_0 h 9 _) 1) (fun r t2 g hr => sf_b (s_mayLay hN g _ _) (fun r3 t3 g3 _ => sf_i (fun _ => ?_) (fun _ => sf_s g3 trivial))))
  obtain ⟨x, hx, ex⟩ := hr
  show Sf t0 an (ul_X0_passZeros_33 U S N N r 0 t3)
  rw [ex]
  exact loop x hx N 0 t3 g3 (by omega) (by omega)
theorem r_six (h : CA t) (a b : Int32) : Rd t (an (α := Int32)) (u_X0_sixBits U S N a b t) := by
  unfold u_X0_sixBits u_X0_sixBits_20
  exact rd_i (fun _ => rd_s trivial) (fun _ => rd_v (e_byte h _) (rd_s trivial))
theorem s_text (hN : 5000 < N) (h : GA t0 t) (hk : kA t (t.1 0 0 9) = 4) : Sf t0 (an (α := Unit)) (u_X0_passText U S N t) := by
  obtain ⟨x, y, e1, e2, hxy, hy⟩ := (kA_w h.1 (t.1 0 0 9)).2.2.2 hk
  have loop : ∀ (z : Nat), z ≤ 1001 → ∀ (m i : Nat) (t : CS), GA t0 t → i ≤ z → z < i + m → Sf t0 (an (α := Unit)) (ul_X0_passText_56 U S N m (nI x) (nI y) (nI z) (nI i) t) := by
    intro z hz m
    induction m with
    | zero => intro i t _ h1 h2; omega
    | succ m ih =>
      intro i t h h1 h2
      show Sf t0 an (uh_X0_passText_56 U S N (ul_X0_passText_56 U S N m) (nI x) (nI y) (nI z) (nI i) t)
      obtain ⟨k, hk, ek, ek3⟩ := ga_s h
      unfold uh_X0_passText_56 u_X0_passText_122
      refine sf_i (fun _ => sf_v rfl (sf_s (GA_0 h 10 _) trivial)) (fun _ => sf_i (fun _ => sf_v rfl (sf_s (GA_0 h 10 _) trivial)) (fun c => sf_r (r_six h.1 _ _) (fun r _ => sf_v ek (sf_r (r_six h.1 _ _) (fun r2 _ => sf_v rfl (sf_b (s_lay h ek3 _ _) (fun _ t2 g _ => ?_)))))))
      have hlt : i < z := by
        have := mt (leI (a := z) (b := i) (by omega) (by omega)).mpr c
        omega
      rw [nI_1]
      exact ih (i + 1) t2 g (by omega) (by omega)
  unfold u_X0_passText
  refine sf_v (e_value h.1 _) (sf_v (e_other h.1 _) (sf_i (fun z => absurd z (by decide)) (fun _ => sf_v rfl (sf_b (s_mayLay hN (GA_0 h 9 _) _ _) (fun r t2 g _ => sf_i (fun _ => ?_) (fun _ => sf_s g trivial))))))
  show Sf t0 an (ul_X0_passText_56 U S N N (vA t (t.1 0 0 9)) (oA t (t.1 0 0 9)) (((oA t (t.1 0 0 9) - vA t (t.1 0 0 9)) / 2) + 1) 0 t2)
  have es : (nI y - nI x) / 2 + 1 = nI ((y - x) / 2 + 1) := by
    rw [sub_nI hxy, show (2 : Int32) = nI 2 from rfl, pk_div (by omega) (by decide) (by decide), nI_1]
  rw [e1, e2, es]
  exact loop _ (by omega) N 0 t2 g (by omega) (by omega)
theorem s_mbw (hN : 5000 < N) (h : GA t0 t) : Sf t0 z1 (u_X0_mayBeginWord U S N t) := by
  have s77 : ∀ t2 : CS, GA t0 t2 → Sf t0 z1 (u_X0_mayBeginWord_77 U S N t2) := by
    intro t2 g
    unfold u_X0_mayBeginWord_77 u_X0_mayBeginWord_89
    exact sf_i (fun _ => sf_z g (Or.inl rfl) (Or.inl rfl)) (fun _ => sf_z g (Or.inr rfl) (Or.inr rfl))
  obtain ⟨k, hk, ek, ek3⟩ := ga_s h
  have s58 : Sf t0 z1 (u_X0_mayBeginWord_58 U S N t) := by
    unfold u_X0_mayBeginWord_58
    exact sf_i (fun _ => s77 t h) (fun _ => sf_v ek (sf_v rfl (sf_b (s_lay h ek3 _ _) (fun _ t2 g _ => s77 t2 g))))
  unfold u_X0_mayBeginWord
  exact sf_i (fun _ => sf_i (fun _ => s58) (fun _ => sf_v ek (sf_v rfl (sf_r (r_hasLit hN k _ _) (fun r _ => sf_i (fun _ => s58) (fun _ => sf_b (s_report h _ _) (fun _ t2 g _ => s77 t2 g))))))) (fun _ => sf_b (s_report h _ _) (fun _ t2 g _ => s77 t2 g))
theorem s_fin (h : GA t0 t) (x : Int32) : Sf t0 (an (α := Unit)) (u_X0_finishWord U S N x t) := by
  obtain ⟨k, hk, ek, ek3⟩ := ga_s h
  unfold u_X0_finishWord u_X0_finishWord_26
  exact sf_i (fun _ => sf_v rfl (sf_s (GA_0 h 10 _) trivial)) (fun _ => sf_i (fun _ => sf_v rfl (sf_s (GA_0 h 10 _) trivial)) (fun _ => sf_v ek (sf_v rfl (sf_b (s_lay h ek3 _ _) (fun _ t2 g _ => sf_v rfl (sf_s (GA_0 g 10 _) trivial))))))
theorem s_litFor (hN : 5000 < N) (h : GA t0 t) (a b c : Int32) : Sf t0 (an (α := Int32)) (u_X0_literalFor U S N a b c t) := by
  obtain ⟨k, hk, ek, ek3⟩ := ga_s h
  unfold u_X0_literalFor u_X0_literalFor_14
  exact sf_i (fun _ => sf_s h trivial) (fun _ => sf_i (fun _ => sf_v ek (sf_v rfl (sf_b (s_litPlace hN h ek3 _ _) (fun r t2 g _ => sf_i (fun _ => sf_s g trivial) (fun _ => sf_b (s_report g _ _) (fun _ t3 g3 _ => sf_s g3 trivial)))))) (fun _ => sf_s h trivial))
theorem s_item (hN : 5000 < N) (h : GA t0 t) : Sf t0 (an (α := Int32)) (u_X0_readItem U S N t) := by
  have s81 : ∀ (t2 : CS) (a b c : Int32), GA t0 t2 → Sf t0 (an (α := Int32)) (u_X0_readItem_81 U S N a b c t2) := by
    intro t2 a b c g
    unfold u_X0_readItem_81 u_X0_readItem_100
    exact sf_i (fun _ => sf_b (s_litFor hN g _ _ _) (fun r t3 g3 _ => sf_s g3 trivial)) (fun _ => sf_b (s_litFor hN g _ _ _) (fun r t3 g3 _ => sf_s g3 trivial))
  have s68 : ∀ (t2 : CS) (a b c d e : Int32), GA t0 t2 → Sf t0 (an (α := Int32)) (u_X0_readItem_68 U S N a b c d e t2) := by
    intro t2 a b c d e g
    unfold u_X0_readItem_68
    exact sf_i (fun _ => s81 t2 _ _ _ g) (fun _ => sf_v rfl (s81 _ _ _ _ (GA_0 g 9 _)))
  unfold u_X0_readItem
  exact sf_v (e_kind h.1 _) (sf_v (e_isLit _) (sf_i (fun _ => sf_v rfl (sf_b (s_readValue hN (GA_0 h 9 _) 0) (fun r t2 g _ => sf_i (fun _ => s81 t2 _ _ _ g) (fun _ => sf_v (e_kind g.1 _) (sf_i (fun _ => s68 t2 _ _ _ _ _ g) (fun _ => s68 t2 _ _ _ _ _ g)))))) (fun _ => sf_b (s_readValue hN h 0) (fun r t2 g _ => sf_s g trivial))))
theorem r_inPage (a : Int32) : Rd t (an (α := Int32)) (u_X0_inPage U S N a t) := by
  unfold u_X0_inPage u_X0_inPage_19
  exact rd_i (fun _ => rd_s trivial) (fun _ => rd_s trivial)
theorem s_refer (hN : 5000 < N) (h : GA t0 t) (a b c : Int32) : Sf t0 (an (α := Int32)) (u_X0_refer U S N a b c t) := by
  have s39 : Sf t0 (an (α := Int32)) (u_X0_refer_39 U S N a b t) := by
    unfold u_X0_refer_39
    exact sf_r (r_inPage _) (fun r _ => sf_s h trivial)
  unfold u_X0_refer u_X0_refer_14
  exact sf_i (fun _ => sf_s h trivial) (fun _ => sf_i (fun _ => sf_i (fun _ => s39) (fun _ => sf_i (fun _ => sf_i (fun _ => sf_b (s_litFor hN h _ _ _) (fun r t2 g _ => sf_r (r_inPage _) (fun r3 _ => sf_s g trivial))) (fun _ => sf_b (s_report h _ _) (fun _ t2 g _ => sf_s g trivial))) (fun _ => s39))) (fun _ => sf_s h trivial))
theorem s_refuse (h : GA t0 t) (k : Int32) : Sf t0 (an (α := Unit)) (u_X0_refuse U S N k t) := by
  unfold u_X0_refuse u_X0_refuse_12
  exact sf_i (fun _ => sf_b (s_report h _ _) (fun _ t2 g _ => sf_s g trivial)) (fun _ => sf_b (s_report h _ _) (fun _ t2 g _ => sf_s g trivial))
theorem s_reference (hN : 5000 < N) (h : GA t0 t) : Sf t0 (an (α := Unit)) (u_X0_passReference U S N t) := by
  have s160 : ∀ (t2 : CS) (a b c : Int32), GA t0 t2 → Sf t0 (an (α := Unit)) (u_X0_passReference_160 U S N a b c t2) := by
    intro t2 a b c g
    unfold u_X0_passReference_160
    exact sf_b (s_refer hN g _ _ _) (fun r t3 g3 _ => sf_b (s_fin g3 _) (fun _ t4 g4 _ => sf_s g4 trivial))
  have s98 : ∀ (t2 : CS) (a : Int32), GA t0 t2 → Sf t0 (an (α := Unit)) (u_X0_passReference_98 U S N a t2) := by
    intro t2 a g
    unfold u_X0_passReference_98
    exact sf_v (e_begP g.1 _) (sf_i (fun _ => sf_b (s_item hN g) (fun r t3 g3 _ => sf_i (fun _ => s160 t3 _ _ _ g3) (fun _ => sf_v (e_kind g3.1 _) (sf_v (e_isLit _) (sf_i (fun _ => s160 t3 _ _ _ g3) (fun _ => sf_v (e_begP g3.1 _) (sf_i (fun _ => s160 t3 _ _ _ g3) (fun _ => sf_b (s_report g3 _ _) (fun _ t4 g4 _ => s160 t4 _ _ _ g4))))))))) (fun _ => sf_b (s_fin g _) (fun _ t3 g3 _ => sf_s g3 trivial)))
  have loop : ∀ (m i : Nat) (t : CS) (a : Int32), GA t0 t → i ≤ 2002 → 2002 < i + m → Sf t0 (an (α := Unit)) (ul_X0_passReference_39 U S N m a (nI i) t) := by
    intro m
    induction m with
    | zero => intro i t a _ h1 h2; omega
    | succ m ih =>
      intro i t a h h1 h2
      obtain ⟨⟨c, hc, ec, -⟩, -⟩ := id h.1
      show Sf t0 an (uh_X0_passReference_39 U S N (ul_X0_passReference_39 U S N m) a (nI i) t)
      unfold uh_X0_passReference_39
      rw [ec]
      refine sf_i (fun _ => s98 t a h) (fun c1 => sf_v (e_mdf h.1 _) (sf_i (fun _ => s98 t a h) (fun _ => sf_v (e_value h.1 _) (sf_v (e_nval h.1 _) (sf_v rfl ?_)))))
      have hi : i < 2002 := by
        have := mt (ltI (a := c) (b := i) (by omega) (by omega)).mpr c1
        omega
      rw [nI_1]
      exact ih (i + 1) _ _ (GA_0 h 9 _) (by omega) (by omega)
  unfold u_X0_passReference
  exact sf_b (s_mbw hN h) (fun r t2 g _ => sf_i (fun _ => sf_v (e_value g.1 _) (sf_v (e_nval g.1 _) (sf_v rfl (loop N 0 _ _ (GA_0 g 9 _) (by omega) (by omega))))) (fun _ => sf_s g trivial))
theorem s_word (hN : 5000 < N) (h : GA t0 t) : Sf t0 (an (α := Unit)) (u_X0_passWord U S N t) := by
  have s108 : ∀ (t2 : CS) (a : Int32), GA t0 t2 → Sf t0 (an (α := Unit)) (u_X0_passWord_108 U S N a t2) := by
    intro t2 a g
    unfold u_X0_passWord_108
    exact sf_b (s_fin g _) (fun _ t3 g3 _ => sf_s g3 trivial)
  have loop : ∀ (m i : Nat) (t : CS) (a b : Int32), GA t0 t → i ≤ 2002 → 2002 < i + m → Sf t0 (an (α := Unit)) (ul_X0_passWord_38 U S N m a b (nI i) t) := by
    intro m
    induction m with
    | zero => intro i t a b _ h1 h2; omega
    | succ m ih =>
      intro i t a b h h1 h2
      obtain ⟨⟨c, hc, ec, -⟩, -⟩ := id h.1
      show Sf t0 an (uh_X0_passWord_38 U S N (ul_X0_passWord_38 U S N m) a b (nI i) t)
      unfold uh_X0_passWord_38 u_X0_passWord_100
      unfold u_X0_passWord_101
      rw [ec]
      refine sf_i (fun _ => s108 t a h) (fun c1 => ?_)
      have hi : i < 2002 := by
        have := mt (ltI (a := c) (b := i) (by omega) (by omega)).mpr c1
        omega
      have go : ∀ (t2 : CS) (x y : Int32), GA t0 t2 → Sf t0 (an (α := Unit)) (ul_X0_passWord_38 U S N m x y (nI i + 1) t2) := by
        intro t2 x y g
        rw [nI_1]
        exact ih (i + 1) t2 x y g (by omega) (by omega)
      exact sf_i (fun _ => s108 t a h) (fun _ => sf_i (fun _ => s108 t a h) (fun _ => sf_v (e_kind h.1 _) (sf_v (e_isLit _) (sf_b (s_item hN h) (fun r t2 g _ => sf_i (fun _ => go t2 _ _ g) (fun _ => sf_v (e_begP g.1 _) (sf_i (fun _ => go t2 _ _ g) (fun _ => go t2 _ _ g))))))))
  unfold u_X0_passWord
  exact sf_v (e_begP h.1 _) (sf_i (fun _ => sf_b (s_mbw hN h) (fun r t2 g _ => sf_i (fun _ => loop N 0 t2 _ _ g (by omega) (by omega)) (fun _ => sf_s g trivial))) (fun _ => sf_v (e_kind h.1 _) (sf_b (s_refuse h _) (fun _ t2 g _ => sf_s g trivial))))
theorem s_labels (hN : 5000 < N) (h : GA t0 t) : Sf t0 (an (α := Unit)) (u_X0_passLabels U S N t) := by
  have loop : ∀ (m i : Nat) (t : CS), GA t0 t → i ≤ 2002 → 2002 < i + m → Sf t0 (an (α := Unit)) (ul_X0_passLabels_2 U S N m (nI i) t) := by
    intro m
    induction m with
    | zero => intro i t _ h1 h2; omega
    | succ m ih =>
      intro i t h h1 h2
      obtain ⟨⟨c, hc, ec, -⟩, -⟩ := id h.1
      show Sf t0 an (uh_X0_passLabels_2 U S N (ul_X0_passLabels_2 U S N m) (nI i) t)
      unfold uh_X0_passLabels_2 u_X0_passLabels_106 u_X0_passLabels_47 u_X0_passLabels_90
      rw [ec]
      refine sf_i (fun _ => sf_s h trivial) (fun c1 => ?_)
      have hi : i < 2002 := by
        have := mt (ltI (a := c) (b := i) (by omega) (by omega)).mpr c1
        omega
      have go : ∀ (t2 : CS), GA t0 t2 → Sf t0 (an (α := Unit)) ((some (qI t2 0 0 9 ((t2.1 0 0 9) + 2))).bind fun μ2 => ul_X0_passLabels_2 U S N m (nI i + 1) μ2) := by
        intro t2 g
        refine sf_v rfl ?_
        rw [nI_1]
        exact ih (i + 1) _ (GA_0 g 9 _) (by omega) (by omega)
      exact sf_i (fun _ => sf_s h trivial) (fun _ => sf_v (e_kind h.1 _) (sf_i (fun _ => sf_s h trivial) (fun _ => sf_v (e_kind h.1 _) (sf_i (fun _ => sf_i (fun _ => go t h) (fun _ => sf_mt h 1 (fun t2 g => sf_i (fun _ => go t2 g) (fun z => absurd rfl z)) (fun hj => sf_i (fun _ => go t h) (fun _ => sf_v (e_value h.1 _) (sf_b (s_tell h _ hj (w12_and _) 1) (fun _ t3 g3 _ => go t3 g3)))))) (fun _ => sf_s h trivial)))))
  exact loop N 0 t h (by omega) (by omega)
theorem s_statement (hN : 5000 < N) (h : GA t0 t) : Sf t0 (an (α := Unit)) (u_X0_passStatement U S N t) := by
  have st : ∀ k : Int32, (k = 4 → kA t (t.1 0 0 9) = 4) → Sf t0 (an (α := Unit)) (u_X0_passStatement_37 U S N k t) := by
    intro k hk
    unfold u_X0_passStatement_37 u_X0_passStatement_210
    have e : ∀ {o : Option (Unit × CS)}, Sf t0 (an (α := Unit)) o → Sf t0 (an (α := Unit)) (o.bind fun q => some ((), q.2)) := fun ho => sf_b ho (fun _ t2 g _ => sf_s g trivial)
    refine sf_i (fun c => e (s_text hN h (hk c))) (fun _ => sf_i (fun _ => e (s_report h _ _)) (fun _ => sf_i (fun _ => ?_) (fun _ => sf_i (fun _ => e (s_origin hN h)) (fun _ => sf_i (fun _ => e (s_equation hN h)) (fun _ => sf_i (fun _ => e (s_reference hN h)) (fun _ => sf_i (fun _ => e (s_page hN h)) (fun _ => sf_i (fun _ => e (s_radix h (Or.inr rfl))) (fun _ => sf_i (fun _ => e (s_radix h (Or.inl rfl))) (fun _ => sf_i (fun _ => e (s_zeros hN h)) (fun _ => e (s_word hN h)))))))))))
    unfold qZ
    rw [if_pos (Or.inr rfl)]
    exact sf_v rfl (sf_s (GA_0 h 7 _) trivial)
  unfold u_X0_passStatement u_X0_passStatement_23
  refine sf_v (e_kind h.1 _) (sf_i (fun _ => sf_s h trivial) (fun _ => sf_v (e_isEnd _) (sf_i (fun _ => sf_i (fun _ => st _ (fun z => z)) (fun _ => sf_v (e_kNm h.1) (st _ (fun z => ?_)))) (fun _ => sf_s h trivial))))
  exfalso
  have z' : kNm t (t.1 0 0 9) = 4 := z
  have key : ¬ sN (vA t (t.1 0 0 9)) = 0 → ¬ (300 : Int32) + vA t (t.1 0 0 9) = 4 := by
    generalize vA t (t.1 0 0 9) = v
    intro hs he
    unfold sN at hs
    by_cases c0 : v < 0
    · rw [if_pos c0] at hs; exact hs rfl
    · rw [if_neg c0] at hs
      by_cases c4 : 4 < v
      · rw [if_pos c4] at hs; exact hs rfl
      · obtain ⟨j, hj, rfl⟩ := nI_of c0
        have hj4 : ¬ 4 < j := fun q => c4 ((ltI (a := 4) (by decide) hj).mpr q)
        rw [show (300 : Int32) + nI j = nI (300 + j) from nI_add 300 j] at he
        have := (eqI (a := 300 + j) (b := 4) (by omega) (by decide)).mp he
        omega
  unfold kNm at z'
  repeat' split at z'
  all_goals first | exact absurd z' (by decide) | exact key (by assumption) z'
theorem s_end (h : GA t0 t) : Sf t0 (an (α := Unit)) (u_X0_passEnd U S N t) := by
  unfold u_X0_passEnd u_X0_passEnd_14 u_X0_passEnd_61 qZ
  refine sf_i (fun _ => sf_s h trivial) (fun _ => sf_i (fun _ => sf_v (e_kind h.1 _) (sf_v (e_isEnd _) (sf_i (fun _ => sf_i (fun _ => sf_v rfl (sf_s (GA_0 h 9 _) trivial)) (fun _ => ?_)) (fun _ => sf_b (s_refuse h _) (fun _ t2 g _ => sf_s g trivial))))) (fun _ => sf_s h trivial))
  rw [if_pos (Or.inr rfl)]
  exact sf_v rfl (sf_s (GA_0 h 7 _) trivial)
theorem s_over (hN : 5000 < N) (h : GA t0 t) {a : Int32} (ha : a = 0 ∨ a = 1) : Sf t0 (an (α := Unit)) (u_X0_passOver U S N a t) := by
  have loop : ∀ (m i : Nat) (t : CS), GA t0 t → i ≤ 2002 → 2002 < i + m → Sf t0 (an (α := Unit)) (ul_X0_passOver_29 U S N m (nI i) t) := by
    intro m
    induction m with
    | zero => intro i t _ h1 h2; omega
    | succ m ih =>
      intro i t h h1 h2
      obtain ⟨⟨c, hc, ec, -⟩, -⟩ := id h.1
      show Sf t0 an (uh_X0_passOver_29 U S N (ul_X0_passOver_29 U S N m) (nI i) t)
      unfold uh_X0_passOver_29 u_X0_passOver_72
      rw [ec]
      refine sf_i (fun _ => sf_s h trivial) (fun c1 => sf_i (fun _ => sf_s h trivial) (fun _ => sf_i (fun _ => sf_s h trivial) (fun _ => sf_b (s_labels hN h) (fun _ t2 g _ => sf_b (s_statement hN g) (fun _ t3 g3 _ => sf_b (s_end g3) (fun _ t4 g4 _ => ?_))))))
      have hi : i < 2002 := by
        have := mt (ltI (a := c) (b := i) (by omega) (by omega)).mpr c1
        omega
      rw [nI_1]
      exact ih (i + 1) t4 g4 (by omega) (by omega)
  unfold u_X0_passOver qZ
  rw [if_pos ha]
  simp only [Option.bind_some, true_or, if_true]
  exact loop N 0 _ (GA_0 (GA_0 (GA_0 (GA_0 (GA_0 h 6 _) 7 _) 8 _) 9 _) 10 _) (by omega) (by omega)
end
