/-! LAYER 3, the assembler of the class never throws: the tokens -/
section
variable {U S N : Nat} {t0 t : CS}
theorem tk_o {k v o : Int32} (h2 : ¬ k = 2) (h3 : ¬ k = 3) (h4 : ¬ k = 4) : tkOK k v o := ⟨fun z => absurd z h2, fun z => absurd z h3, fun z => absurd z h4⟩
theorem s_append (h : GA t0 t) {k v o : Int32} {b : Nat} (hb : b ≤ 2001) (hk : tkOK k v o) : Sf t0 an (u_X9_append U S N k (nI b) v o t) := by
  obtain ⟨⟨c, hc, ec, hkk⟩, a2, a3, a4, a5, a6, a7⟩ := h.1
  unfold u_X9_append u_X9_append_66
  rw [ec]
  refine sf_i (fun _ => ?_) (fun h1 => ?_)
  · exact sf_v rfl (sf_s (GA_98 h hb) trivial)
  · have hlt : c < 2001 := by
      have := mt (leI (a := 2001) (b := c) (by decide) (by omega)).mpr h1
      omega
    refine sf_v (wH_y (by decide) hlt _ _ _ _ _) ?_
    rw [show (qA t 9 0 1 c k).1 9 0 5 = nI c from ec]
    refine sf_v (wH_y (by decide) hlt _ _ _ _ _) ?_
    rw [show (qA (qA t 9 0 1 c k) 9 0 2 c ((qA t 9 0 1 c k).1 9 0 8)).1 9 0 5 = nI c from ec]
    refine sf_v (wH_y (by decide) hlt _ _ _ _ _) ?_
    rw [show (qA (qA (qA t 9 0 1 c k) 9 0 2 c ((qA t 9 0 1 c k).1 9 0 8)) 9 0 3 c v).1 9 0 5 = nI c from ec]
    refine sf_v (wH_y (by decide) hlt _ _ _ _ _) ?_
    rw [show (qA (qA (qA (qA t 9 0 1 c k) 9 0 2 c ((qA t 9 0 1 c k).1 9 0 8)) 9 0 3 c v) 9 0 4 c o).1 9 0 5 = nI c from ec, nI_1]
    refine sf_v rfl (sf_v rfl (sf_s (GA_98 ?_ hb) trivial))
    refine ⟨⟨⟨c + 1, by omega, rfl, ?_⟩, a2, a3, a4, a5, a6, a7⟩, AF_I (AF_A (AF_A (AF_A (AF_A h.2 (by decide) 0 1 _) (by decide) 0 2 _) (by decide) 0 3 _) (by decide) 0 4 _) (by decide) _⟩
    intro j hj
    show tkOK (upd (t.2.1 9 0 1) c k j) (upd (t.2.1 9 0 3) c v j) (upd (t.2.1 9 0 4) c o j)
    by_cases e : j = c
    · subst e; rw [upd_y, upd_y, upd_y]; exact hk
    · rw [upd_n _ _ e, upd_n _ _ e, upd_n _ _ e]; exact hkk j (by omega)
theorem s_app2 (h : GA t0 t) {k v o : Int32} {b : Nat} (hb : b ≤ 2001) (hk : tkOK k v o) : Sf t0 (an (α := Int32)) ((u_X9_append U S N k (nI b) v o t).bind fun q => some (q.1, q.2)) := sf_b (s_append h hb hk) (fun r t2 g _ => sf_s g trivial)
theorem e_skipB (hN : 5000 < N) (h : CA t) {L : Nat} (hL : L ≤ 2000) (eL : t.1 9 0 7 = nI L) : ∀ (m x : Nat), x ≤ 2001 → 2001 < x + m → ∃ y, x ≤ y ∧ (y = x ∨ y ≤ L) ∧ ul_X9_skipBlanks_2 U S N m (nI x) t = some (nI y, t) := by
  intro m
  induction m with
  | zero => intro x h1 h2; omega
  | succ m ih =>
    intro x h1 h2
    show ∃ y, _ ∧ _ ∧ uh_X9_skipBlanks_2 U S N (ul_X9_skipBlanks_2 U S N m) (nI x) t = _
    unfold uh_X9_skipBlanks_2 u_X9_skipBlanks_26
    rw [eL, e_byte h, Option.bind_some]
    by_cases c : L ≤ x
    · rw [if_pos ((leI (by omega) (by omega)).mpr c)]
      exact ⟨x, Nat.le_refl _, Or.inl rfl, rfl⟩
    · rw [if_neg (fun z => c ((leI (by omega) (by omega)).mp z))]
      by_cases d : bA t (nI x) = 32
      · rw [if_neg (not_not_intro d), nI_1]
        obtain ⟨y, e1, e2, e3⟩ := ih (x + 1) (by omega) (by omega)
        exact ⟨y, by omega, by omega, e3⟩
      · rw [if_pos d]
        exact ⟨x, Nat.le_refl _, Or.inl rfl, rfl⟩
theorem e_skip (hN : 5000 < N) (h : CA t) {x : Nat} (hx : x ≤ 2001) : ∃ y, x ≤ y ∧ y ≤ 2001 ∧ u_X9_skipBlanks U S N (nI x) t = some (nI y, t) := by
  obtain ⟨-, -, ⟨L, hL, eL⟩, -⟩ := id h
  obtain ⟨y, e1, e2, e3⟩ := e_skipB (U := U) (S := S) hN h hL eL N x hx (by omega)
  exact ⟨y, e1, by omega, e3⟩
theorem s_rem (hN : 5000 < N) (h : GA t0 t) : Sf t0 (an (α := Unit)) (u_X9_skipRemark U S N t) := by
  have loop : ∀ (m x : Nat) (t : CS), GA t0 t → t.1 9 0 8 = nI x → x ≤ 2001 → 2001 < x + m → Sf t0 (an (α := Unit)) (ul_X9_skipRemark_14 U S N m t) := by
    intro m
    induction m with
    | zero => intro x t _ _ h1 h2; omega
    | succ m ih =>
      intro x t h ex h1 h2
      obtain ⟨-, -, ⟨L, hL, eL⟩, -⟩ := id h.1
      show Sf t0 an (uh_X9_skipRemark_14 U S N (ul_X9_skipRemark_14 U S N m) t)
      unfold uh_X9_skipRemark_14 u_X9_skipRemark_51
      rw [eL, ex, e_byte h.1, Option.bind_some]
      refine sf_i (fun _ => sf_s h trivial) (fun c => sf_i (fun _ => sf_s h trivial) (fun _ => ?_))
      have c' : x < L := by
        have := mt (leI (a := L) (b := x) (by omega) (by omega)).mpr c
        omega
      refine sf_v rfl ?_
      rw [show t.1 9 0 8 = nI x from ex, nI_1]
      exact ih (x + 1) _ (GA_98 h (by omega)) rfl (by omega) (by omega)
  obtain ⟨-, -, -, -, -, -, x, hx, ex⟩ := id h.1
  unfold u_X9_skipRemark
  rw [e_byte h.1, Option.bind_some]
  exact sf_i (fun _ => loop N x t h ex hx (by omega)) (fun _ => sf_s h trivial)
theorem s_numberOf (hN : 5000 < N) (h : GA t0 t) (a : Int64) : Sf t0 (an (α := Int32)) (u_X4_numberOf U S N a t) := by
  obtain ⟨a1, ⟨m, hm, em, hm53, hfx⟩, a3, a4, a5, a6, a7⟩ := id h.1
  have loop : ∀ (f i : Nat), i ≤ m → m < i + f → Sf t0 (an (α := Int32)) (ul_X4_numberOf_2 U S N f a (nI i) t) := by
    intro f
    induction f with
    | zero => intro i h1 h2; omega
    | succ f ih =>
      intro i h1 h2
      show Sf t0 an (uh_X4_numberOf_2 U S N (ul_X4_numberOf_2 U S N f) a (nI i) t)
      unfold uh_X4_numberOf_2
      rw [em]
      refine sf_i (fun _ => sf_i (fun c2 => ?_) (fun _ => sf_s h trivial)) (fun c => ?_)
      · have hlt : m < 1054 := (ltI (by omega) (by decide)).mp c2
        refine sf_v (x := qJ t m a) ?_ ?_
        · unfold wJ
          rw [if_neg (nI_in (N := 1054) hlt (by decide)), nI_clamp (by omega)]
        rw [show (qJ t m a).1 4 0 3 = nI m from em]
        refine sf_v (wH_y (by decide) hlt _ _ _ _ _) ?_
        rw [show (qA (qJ t m a) 4 0 1 m 0).1 4 0 3 = nI m from em]
        refine sf_v (wH_y (by decide) hlt _ _ _ _ _) ?_
        rw [show (qA (qA (qJ t m a) 4 0 1 m 0) 4 0 2 m 0).1 4 0 3 = nI m from em, nI_1]
        have g2 : GA t0 (qA (qA (qJ t m a) 4 0 1 m 0) 4 0 2 m 0) := GA_42 (GA_41 (GA_J h hm53 a) hm53 w12_0) hm53 0
        obtain ⟨b1, ⟨-, -, -, -, bfx⟩, b3, b4, b5, b6, b7⟩ := id g2.1
        exact sf_v rfl (sf_s ⟨⟨b1, ⟨m + 1, by omega, rfl, by omega, bfx⟩, b3, b4, b5, b6, b7⟩, AF_I g2.2 (by decide) _⟩ trivial)
      · have hlt : i < m := by
          have := mt (leI (a := m) (b := i) (by omega) (by omega)).mpr c
          omega
        refine sf_v (x := t.2.2.1 i) ?_ ?_
        · unfold rJ
          rw [if_neg (nI_in (N := 1054) (by omega) (by decide)), nI_clamp (by omega)]
        refine sf_i (fun _ => ?_) (fun _ => sf_s h trivial)
        rw [nI_1]
        exact ih (i + 1) (by omega) (by omega)
  exact loop N 0 (by omega) (by omega)
theorem s_scanText (hN : 5000 < N) (h : GA t0 t) {x : Nat} (hx : x ≤ 2001) (mk : Int32) (hmk : mk = bA t (nI x)) : Sf t0 (an (α := Int32)) (u_X9_scanText U S N (nI x) mk t) := by
  obtain ⟨-, -, ⟨L, hL, eL⟩, -⟩ := id h.1
  have loop : ∀ (m y : Nat), x + 1 ≤ y → y ≤ 2002 → 2002 < y + m → Sf t0 (an (α := Int32)) (ul_X9_scanText_20 U S N m (nI x) mk (nI y) t) := by
    intro m
    induction m with
    | zero => intro y h0 h1 h2; omega
    | succ m ih =>
      intro y h0 h1 h2
      show Sf t0 an (uh_X9_scanText_20 U S N (ul_X9_scanText_20 U S N m) (nI x) mk (nI y) t)
      unfold uh_X9_scanText_20 u_X9_scanText_67
      rw [eL]
      refine sf_i (fun _ => s_app2 h hx (tk_o (by decide) (by decide) (by decide))) (fun c => ?_)
      have hlt : y < L := by
        have := mt (leI (a := L) (b := y) (by omega) (by omega)).mpr c
        omega
      refine sf_v (e_byte h.1 _) (sf_r (r_isPlain _) (fun r _ => sf_i (fun _ => s_app2 h hx (tk_o (by decide) (by decide) (by decide))) (fun _ => sf_v (e_byte h.1 _) (sf_i (fun _ => ?_) (fun _ => ?_)))))
      · rw [nI_1]
        exact ih (y + 1) (by omega) (by omega) (by omega)
      · rw [nI_1, nI_1]
        exact s_app2 h (by omega) ⟨fun z => absurd z (by decide), fun z => absurd z (by decide), fun _ => ⟨x + 1, y, rfl, rfl, h0, by omega⟩⟩
  unfold u_X9_scanText
  refine sf_r (r_isPlain _) (fun r _ => sf_i (fun _ => ?_) (fun _ => s_app2 h hx (tk_o (by decide) (by decide) (by decide))))
  rw [nI_1]
  exact loop N (x + 1) (Nat.le_refl _) (by omega) (by omega)
theorem s_scanName (hN : 5000 < N) (h : GA t0 t) : Sf t0 (an (α := Int32)) (u_X9_scanName U S N t) := by
  obtain ⟨-, -, ⟨L, hL, eL⟩, -, -, -, x, hx, ex⟩ := id h.1
  have fin : ∀ (a : Int64) (y : Nat), y ≤ 2001 → Sf t0 (an (α := Int32)) (u_X9_scanName_53 U S N a (nI y) t) := by
    intro a y hy
    unfold u_X9_scanName_53 u_X9_scanName_128
    refine sf_i (fun _ => sf_b (s_numberOf hN h a) (fun r t2 g _ => sf_i (fun _ => s_app2 g hy (tk_o (by decide) (by decide) (by decide))) (fun _ => ?_))) (fun _ => s_app2 h hy (tk_o (by decide) (by decide) (by decide)))
    obtain ⟨z, hz1, hz2, ez⟩ := e_skip (U := U) (S := S) hN g.1 hy
    refine sf_v ez (sf_v (e_byte g.1 _) (sf_i (fun _ => s_app2 g hy (tk_o (by decide) (by decide) (by decide))) (fun _ => sf_i (fun _ => s_app2 g hy (tk_o (by decide) (by decide) (by decide))) (fun _ => ?_))))
    exact sf_b (s_scanText hN g hz2 _ rfl) (fun r t3 g3 _ => sf_s g3 trivial)
  have loop : ∀ (m y : Nat) (a : Int64), y ≤ 2001 → 2001 < y + m → Sf t0 (an (α := Int32)) (ul_X9_scanName_7 U S N m a (nI y) t) := by
    intro m
    induction m with
    | zero => intro y a h1 h2; omega
    | succ m ih =>
      intro y a h1 h2
      show Sf t0 an (uh_X9_scanName_7 U S N (ul_X9_scanName_7 U S N m) a (nI y) t)
      unfold uh_X9_scanName_7 u_X9_scanName_37 u_X4_withLetter
      rw [eL]
      refine sf_i (fun _ => fin a y h1) (fun c => ?_)
      have hlt : y < L := by
        have := mt (leI (a := L) (b := y) (by omega) (by omega)).mpr c
        omega
      have go : ∀ b : Int64, Sf t0 (an (α := Int32)) (ul_X9_scanName_7 U S N m b (nI y + 1) t) := by
        intro b
        rw [nI_1]
        exact ih (y + 1) b (by omega) (by omega)
      refine sf_v (e_byte h.1 _) (sf_r (r_isLetter _) (fun r _ => sf_i (fun _ => sf_v (e_byte h.1 _) (sf_v rfl (go _))) (fun _ => sf_v (e_byte h.1 _) (sf_r (r_isDigit _) (fun r2 _ => sf_i (fun _ => fin a y h1) (fun _ => sf_v (e_byte h.1 _) (sf_v rfl (go _))))))))
  unfold u_X9_scanName
  rw [ex]
  exact loop N x 0 hx (by omega)
theorem s_scanNumber (hN : 5000 < N) (h : GA t0 t) : Sf t0 (an (α := Int32)) (u_X9_scanNumber U S N t) := by
  obtain ⟨-, -, ⟨L, hL, eL⟩, -, -, -, x, hx, ex⟩ := id h.1
  have hsub : ∀ k, nI (x + k) - nI x = nI k := by
    intro k
    rw [sub_nI (by omega)]
    congr 1
    omega
  have fin : ∀ (k : Nat) (a1 : Int32) (d : Nat), k ≤ 5 → x + k ≤ 2001 → (a1 = -1 ∨ ∃ v, v < 8 ^ k ∧ a1 = nI v) → d < 10 ^ k → Sf t0 (an (α := Int32)) (u_X9_scanNumber_86 U S N a1 (nI d) (nI (x + k)) t) := by
    intro k a1 d hk hxk ha hd
    unfold u_X9_scanNumber_86 u_X9_scanNumber_122
    rw [ex, hsub]
    refine sf_i (fun c => ?_) (fun _ => s_app2 h hxk (tk_o (by decide) (by decide) (by decide)))
    have hk4 : k ≤ 4 := (leI (b := 4) (by omega) (by decide)).mp c
    have h8 : 8 ^ k ≤ 8 ^ 4 := Nat.pow_le_pow_right (by decide) hk4
    have h10 : 10 ^ k ≤ 10 ^ 4 := Nat.pow_le_pow_right (by decide) hk4
    have w1 : a1 = -1 ∨ W12 a1 := by
      rcases ha with ha | ⟨v, hv, ha⟩
      · exact Or.inl ha
      · exact Or.inr ⟨v, by omega, ha⟩
    refine sf_i (fun c2 => ?_) (fun _ => ?_)
    · have hd2 : d ≤ 4095 := (leI (b := 4095) (by omega) (by decide)).mp c2
      exact s_app2 h hxk ⟨fun _ => ⟨w1, Or.inr ⟨d, by omega, rfl⟩⟩, fun z => absurd z (by decide), fun z => absurd z (by decide)⟩
    · exact s_app2 h hxk ⟨fun _ => ⟨w1, Or.inl rfl⟩, fun z => absurd z (by decide), fun z => absurd z (by decide)⟩
  have loop : ∀ (m k : Nat) (a1 : Int32) (d : Nat), k ≤ 5 → x + k ≤ 2001 → (a1 = -1 ∨ ∃ v, v < 8 ^ k ∧ a1 = nI v) → d < 10 ^ k → 6 < k + m → Sf t0 (an (α := Int32)) (ul_X9_scanNumber_9 U S N m a1 (nI d) (nI (x + k)) t) := by
    intro m
    induction m with
    | zero => intro k a1 d h1 _ _ _ h2; omega
    | succ m ih =>
      intro k a1 d hk hxk ha hd h2
      show Sf t0 an (uh_X9_scanNumber_9 U S N (ul_X9_scanNumber_9 U S N m) a1 (nI d) (nI (x + k)) t)
      unfold uh_X9_scanNumber_9 u_X9_scanNumber_60
      unfold u_X9_scanNumber_71
      rw [eL, ex, hsub]
      refine sf_i (fun _ => fin k a1 d hk hxk ha hd) (fun c => sf_i (fun _ => fin k a1 d hk hxk ha hd) (fun c4 => ?_))
      have hlt : x + k < L := by
        have := mt (leI (a := L) (b := x + k) (by omega) (by omega)).mpr c
        omega
      have hk4 : k ≤ 4 := by
        have := mt (ltI (a := 4) (b := k) (by decide) (by omega)).mpr c4
        omega
      refine sf_v (e_byte h.1 _) (sf_r (r_isDigit _) (fun r hr => sf_i (fun _ => fin k a1 d hk hxk ha hd) (fun cr => sf_v (e_byte h.1 _) ?_)))
      obtain ⟨g, hg, eg⟩ := hr.resolve_left cr
      have eg2 : bA t (nI (x + k)) - 48 = nI g := by
        rw [show bA t (nI (x + k)) = nI (48 + g) from eg, show (48 : Int32) = nI 48 from rfl, sub_nI (by omega)]
        congr 1
        omega
      have p8 : 8 ^ (k + 1) = 8 * 8 ^ k := by rw [Nat.pow_succ, Nat.mul_comm]
      have p10 : 10 ^ (k + 1) = 10 * 10 ^ k := by rw [Nat.pow_succ, Nat.mul_comm]
      have ed : nI d * 10 + (bA t (nI (x + k)) - 48) = nI (d * 10 + g) := by
        rw [eg2, show (10 : Int32) = nI 10 from rfl, mul_nI, nI_add]
      have en : nI (x + k) + 1 = nI (x + (k + 1)) := by rw [nI_1]; rfl
      have go : ∀ b : Int32, (b = -1 ∨ ∃ v, v < 8 ^ (k + 1) ∧ b = nI v) → Sf t0 (an (α := Int32)) (ul_X9_scanNumber_9 U S N m b (nI d * 10 + (bA t (nI (x + k)) - 48)) (nI (x + k) + 1) t) := by
        intro b hb
        rw [ed, en]
        exact ih (k + 1) b (d * 10 + g) (by omega) (by omega) hb (by omega) (by omega)
      refine sf_i (fun _ => go _ (Or.inl rfl)) (fun c1 => sf_i (fun c7 => go _ (Or.inr ?_)) (fun _ => go _ (Or.inl rfl)))
      obtain ⟨v, hv, ev⟩ := ha.resolve_left c1
      have c7' : nI g ≤ (7 : Int32) := by rw [← eg2]; exact c7
      have hg7 : g ≤ 7 := (leI (b := 7) (by omega) (by decide)).mp c7'
      refine ⟨v * 8 + g, by omega, ?_⟩
      show a1 * 8 + (bA t (nI (x + k)) - 48) = _
      rw [ev, eg2, show (8 : Int32) = nI 8 from rfl, mul_nI, nI_add]
  unfold u_X9_scanNumber
  rw [ex]
  exact loop N 0 0 0 (by omega) (by omega) (Or.inr ⟨0, by decide, rfl⟩) (by decide) (by omega)
theorem s_scanToken (hN : 5000 < N) (h : GA t0 t) : Sf t0 (an (α := Int32)) (u_X9_scanToken U S N t) := by
  obtain ⟨-, -, ⟨L, hL, eL⟩, -, -, -, x, hx, ex⟩ := id h.1
  have hin : ¬ bA t (nI x) = -1 → x < L := by
    intro hb
    unfold bA at hb
    rw [eL] at hb
    by_cases c0 : nI x < 0
    · rw [if_pos c0] at hb; exact absurd rfl hb
    · rw [if_neg c0] at hb
      by_cases c1 : nI x < nI L
      · exact (ltI (by omega) (by omega)).mp c1
      · rw [if_neg c1] at hb; exact absurd rfl hb
  have hin2 : ∀ d, bA t (nI (x + 1)) = nI d → d < 127 → x + 1 < L := by
    intro d hb hd
    unfold bA at hb
    rw [eL] at hb
    have hne : ¬ (-1 : Int32) = nI d := fun z => nI_ne (j := d) (by omega) z.symm
    by_cases c0 : nI (x + 1) < 0
    · rw [if_pos c0] at hb; exact absurd hb hne
    · rw [if_neg c0] at hb
      by_cases c1 : nI (x + 1) < nI L
      · exact (ltI (by omega) (by omega)).mp c1
      · rw [if_neg c1] at hb; exact absurd hb hne
  unfold u_X9_scanToken u_X9_scanToken_129 u_X9_scanToken_145
  unfold u_X9_scanToken_157
  rw [ex]
  refine sf_v (e_byte h.1 _) (sf_i (fun hb => ?_) (fun _ => ?_))
  · have hlt := hin hb
    refine sf_i (fun _ => ?_) (fun _ => ?_)
    · refine sf_r (r_isLetter _) (fun r _ => sf_i (fun _ => ?_) (fun _ => sf_b (s_scanName hN h) (fun r t2 g _ => sf_s g trivial)))
      refine sf_r (r_isDigit _) (fun r _ => sf_i (fun _ => ?_) (fun _ => sf_b (s_scanNumber hN h) (fun r t2 g _ => sf_s g trivial)))
      refine sf_i (fun _ => ?_) (fun _ => ?_)
      · refine sf_v (x := six 1 ((bA t (nI x)).toUInt32 % 65536).toInt32 0) rfl ?_
        have z6 : ∀ a b : Int32, tkOK 6 a b := fun a b => tk_o (by decide) (by decide) (by decide)
        rw [ex, nI_1]
        have hd : tkOK (bA t (nI x)) 0 0 := ⟨fun _ => ⟨Or.inr w12_0, Or.inr w12_0⟩, fun _ => w12_0, fun _ => ⟨0, 0, rfl, rfl, Nat.le_refl _, by decide⟩⟩
        exact sf_i (fun _ => sf_i (fun _ => s_app2 h (by omega) (z6 _ _)) (fun _ => s_app2 h (by omega) hd)) (fun _ => sf_i (fun _ => s_app2 h (by omega) (z6 _ _)) (fun _ => s_app2 h (by omega) hd))
      · rw [ex, nI_1]
        refine sf_v (e_byte h.1 _) (sf_r (r_isPlain _) (fun r hr => ?_))
        refine sf_i (fun _ => ?_) (fun cr => ?_)
        · rw [ex, nI_1]
          exact sf_b (s_append h (by omega) (tk_o (by decide) (by decide) (by decide))) (fun r t2 g _ => sf_s g trivial)
        · obtain ⟨d, hd, ed⟩ := hr.resolve_left cr
          have hl2 := hin2 d ed hd
          rw [ex, show nI x + 2 = nI (x + 2) from nI_add x 2]
          refine sf_b (s_append h (by omega) ⟨fun z => absurd z (by decide), fun _ => ?_, fun z => absurd z (by decide)⟩) (fun r t2 g _ => sf_s g trivial)
          show W12 (bA t (nI (x + 1)) ||| 128)
          rw [show bA t (nI (x + 1)) = nI d from ed]
          exact k7_or ⟨d, by omega, rfl⟩
    · rw [ex, nI_1]
      exact s_app2 h (by omega) (tk_o (by decide) (by decide) (by decide))
  · rw [ex]
    exact s_app2 h hx (tk_o (by decide) (by decide) (by decide))
theorem s_scan (hN : 5000 < N) (hA : AF t0 t) (h5 : ∃ i, i < 2 ∧ t.2.2.2.1 0 0 3 = some i ∧ t.2.2.2.1 0 0 2 = some (1 - i)) (h6 : ∀ j, W12 (t.2.1 4 0 1 j)) (hF : FX t) {n : Nat} (hn : n ≤ 2000) : Sf t0 (an (α := Unit)) (u_X9_scan U S N (nI n) t) := by
  have loop : ∀ (m i : Nat) (t : CS), GA t0 t → i ≤ 2001 → 2001 < i + m → Sf t0 (an (α := Unit)) (ul_X9_scan_44 U S N m (nI i) t) := by
    intro m
    induction m with
    | zero => intro i t _ h1 h2; omega
    | succ m ih =>
      intro i t h h1 h2
      obtain ⟨-, -, ⟨L, hL, eL⟩, -, -, -, x, hx, ex⟩ := id h.1
      show Sf t0 an (uh_X9_scan_44 U S N (ul_X9_scan_44 U S N m) (nI i) t)
      unfold uh_X9_scan_44 u_X9_scan_99
      rw [eL, ex]
      refine sf_i (fun _ => sf_s h trivial) (fun c => ?_)
      have hlt : i ≤ L := by
        have := mt (ltI (a := L) (b := i) (by omega) (by omega)).mpr c
        omega
      obtain ⟨y, hy1, hy2, ey⟩ := e_skip (U := U) (S := S) hN h.1 hx
      refine sf_v ey (sf_v rfl (sf_b (s_rem hN (GA_98 h hy2)) (fun _ t2 g _ => sf_b (s_scanToken hN g) (fun r t3 g3 _ => sf_i (fun _ => sf_s g3 trivial) (fun _ => sf_i (fun _ => sf_s g3 trivial) (fun _ => sf_i (fun _ => sf_s g3 trivial) (fun _ => sf_i (fun _ => ?_) (fun _ => sf_s g3 trivial))))))))
      rw [nI_1]
      exact ih (i + 1) t3 g3 (by omega) (by omega)
  unfold u_X9_scan u_X4_forget
  refine sf_v rfl (sf_v rfl (sf_v rfl (sf_v rfl (sf_v (x := ((), _)) rfl (loop N 0 _ ?_ (by omega) (by omega))))))
  have el : mmax 0 (mmin (nI n) (mmin (nI 2000) 2000)) = nI n := by
    have e1 : mmin (nI 2000) 2000 = nI 2000 := rfl
    rw [e1]
    unfold mmin mmax
    by_cases c : nI 2000 < nI n
    · have := (ltI (by decide) (by omega)).mp c
      omega
    · rw [if_neg c]
      by_cases d : n = 0
      · subst d; rfl
      · first | rw [if_pos (show (0 : Int32) < nI n from (ltI (a := 0) (by decide) (by omega)).mpr (by omega))] | rw [if_neg (show ¬ nI n < (0 : Int32) from nI_nn (by omega))]
  refine ⟨⟨⟨0, by decide, rfl, fun j hj => absurd hj (Nat.not_lt_zero j)⟩, ⟨53, by decide, rfl, Nat.le_refl _, hF⟩, ⟨n, hn, ?_⟩, rfl, h5, h6, 0, by decide, rfl⟩, ?_⟩
  · show mmax 0 (mmin (nI n) (mmin (nI 2000) 2000)) = nI n
    exact el
  · exact AF_I (AF_I (AF_I (AF_I (AF_I (AF_R hA 0 6 _) (by decide) _) (by decide) _) (by decide) _) (by decide) _) (by decide) _
end
