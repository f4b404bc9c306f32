/-! LAYER 3, values: what the class reads -/
def pv (t : CS) (q : Int32) (a : Nat) : Option Int32 :=
  if kA t (nI a) = 1 ∧ sN (vA t (nI a)) = 0 then (if (¬ q = 0 ∨ ¬ t.1 0 0 6 = 0) ∧ gA t (vA t (nI a)) = 0 then none else some (nA t (vA t (nI a))))
  else if kA t (nI a) = 46 then some (t.1 0 0 10 &&& 4095)
  else if kA t (nI a) = 2 then some (if t.1 0 0 8 = 0 then vA t (nI a) else oA t (nI a))
  else if kA t (nI a) = 3 then some (vA t (nI a)) else none
def pm (t : CS) (q : Int32) (a : Nat) : Option (Int32 × Nat) := if kA t (nI a) = 45 then (pv t q (a + 1)).bind fun p => some ((-p) &&& 4095, a + 2) else (pv t q a).bind fun p => some (p, a + 1)
def cmb (v op w : Int32) : Int32 := if op = 33 then v ||| w else if op = 43 then (v + w) &&& 4095 else if op = 45 then (v - w) &&& 4095 else v &&& w
def rvF (t : CS) (q : Int32) : Nat → Nat → Int32 → Int32 → Option (Int32 × Nat)
  | 0, _, _, _ => none
  | f + 1, a, v, op => (pm t q a).bind fun p => if ¬ oP (kA t (nI p.2)) = 0 then rvF t q f (p.2 + 1) (cmb v op p.1) (kA t (nI p.2)) else some (cmb v op p.1, p.2)
def rv (t : CS) (q : Int32) (a : Nat) : Option (Int32 × Nat) := rvF t q 3000 a 0 43
section
variable {U S N c : Nat} {t0 t : CS}
theorem kA_lt (ec : t.1 9 0 5 = nI c) (hc : c ≤ 2001) {a : Nat} (ha : a < 2 ^ 31) (h : ¬ kA t (nI a) = 0) : a < c := by
  unfold kA at h
  rw [if_neg (nI_nn ha), ec] at h
  by_cases z : nI a < nI c
  · exact (ltI ha (by omega)).mp z
  · rw [if_neg z] at h
    exact absurd rfl h
theorem pv_w (h : CA t) {q : Int32} {a : Nat} {x : Int32} (e : pv t q a = some x) : W12 x := by
  obtain ⟨k1, k2, k3, -⟩ := kA_w h (nI a)
  unfold pv at e
  by_cases c1 : kA t (nI a) = 1 ∧ sN (vA t (nI a)) = 0
  · rw [if_pos c1] at e
    by_cases c2 : (¬ q = 0 ∨ ¬ t.1 0 0 6 = 0) ∧ gA t (vA t (nI a)) = 0
    · rw [if_pos c2] at e; cases e
    · rw [if_neg c2] at e; rw [← Option.some.inj e]; exact w_nA h _
  · rw [if_neg c1] at e
    by_cases c46 : kA t (nI a) = 46
    · rw [if_pos c46] at e; rw [← Option.some.inj e]; exact w12_and _
    · rw [if_neg c46] at e
      by_cases c2 : kA t (nI a) = 2
      · rw [if_pos c2] at e; rw [← Option.some.inj e]
        by_cases d : t.1 0 0 8 = 0
        · rw [if_pos d]; exact k1 c2 d
        · rw [if_neg d]; exact k2 c2 d
      · rw [if_neg c2] at e
        by_cases c3 : kA t (nI a) = 3
        · rw [if_pos c3] at e; rw [← Option.some.inj e]; exact k3 c3
        · rw [if_neg c3] at e; cases e
theorem pm_w (h : CA t) {q : Int32} {a : Nat} {x : Int32 × Nat} (e : pm t q a = some x) : W12 x.1 ∧ a < x.2 ∧ x.2 ≤ a + 2 := by
  unfold pm at e
  by_cases c : kA t (nI a) = 45
  · rw [if_pos c] at e
    cases e2 : pv t q (a + 1) with
    | none => rw [e2] at e; cases e
    | some p =>
      rw [e2] at e
      rw [← Option.some.inj e]
      exact ⟨w12_and _, by show a < a + 2; omega, Nat.le_refl _⟩
  · rw [if_neg c] at e
    cases e2 : pv t q a with
    | none => rw [e2] at e; cases e
    | some p =>
      rw [e2] at e
      rw [← Option.some.inj e]
      exact ⟨pv_w h e2, by show a < a + 1; omega, by show a + 1 ≤ a + 2; omega⟩
theorem cmb_w {v w : Int32} (hv : W12 v) (hw : W12 w) (op : Int32) : W12 (cmb v op w) := by
  unfold cmb
  repeat' split
  · exact w12_or hv hw
  · exact w12_and _
  · exact w12_and _
  · exact w12_aw hv hw
theorem pv_k {q : Int32} {a : Nat} {x : Int32} (e : pv t q a = some x) : ¬ kA t (nI a) = 0 := by
  intro z
  unfold pv at e
  rw [z, if_neg (fun q => absurd q.1 (by decide)), if_neg (by decide), if_neg (by decide), if_neg (by decide)] at e
  cases e
theorem e_plain (h : CA t) {a : Nat} (h9 : t.1 0 0 9 = nI a) (q : Int32) : (∀ x, pv t q a = some x → u_X0_readPlain U S N q t = some (x, qI t 0 0 9 (nI (a + 1)))) ∧ (pv t q a = none → ∃ x t2, u_X0_readPlain U S N q t = some (x, t2) ∧ ¬ t2.1 0 0 4 = 0) := by
  have G : GA t (qI t 0 0 9 (nI (a + 1))) := GA_0 ⟨h, AF_refl t⟩ 9 _
  have nv : u_X0_readPlain_163 U S N (vA t (nI a)) (qI t 0 0 9 (nI (a + 1))) = some (nA t (vA t (nI a)), qI t 0 0 9 (nI (a + 1))) := by
    unfold u_X0_readPlain_163
    rw [e_nval G.1]
    rfl
  have rep : ∀ k : Int32, ¬ k = 0 → ∃ x t2, u_X0_readPlain_74 U S N (nI a) k t = some (x, t2) ∧ ¬ t2.1 0 0 4 = 0 := by
    intro k hk
    obtain ⟨t2, e, h2⟩ := e_report (U := U) (S := S) (N := N) h hk (nI a)
    refine ⟨0, t2, ?_, h2⟩
    unfold u_X0_readPlain_74
    rw [e]
    rfl
  unfold u_X0_readPlain u_X0_readPlain_38
  rw [h9, e_kind h, Option.bind_some]
  show (∀ x, _ → ((u_X9_valueOf U S N (nI a) t).bind _) = _) ∧ (_ → ∃ x t2, ((u_X9_valueOf U S N (nI a) t).bind _) = _ ∧ _)
  rw [e_value h, Option.bind_some]
  dsimp only
  unfold pv
  -- a name
  by_cases c1 : kA t (nI a) = 1
  · rw [if_neg (not_not_intro c1), c1]
    show (∀ x, _ → ((u_X0_isStatementName U S N (vA t (nI a)) t).bind _) = _) ∧ (_ → ∃ x t2, ((u_X0_isStatementName U S N (vA t (nI a)) t).bind _) = _ ∧ _)
    rw [e_isSt, Option.bind_some]
    by_cases cs : sN (vA t (nI a)) = 0
    · rw [if_neg (not_not_intro cs), if_pos ⟨rfl, cs⟩]
      unfold u_X0_readPlain_39 u_X0_readPlain_80
      rw [if_pos (show ¬ (1 : Int32) = 0 by decide), Option.bind_some, if_pos (show ¬ (1 : Int32) = 46 by decide), if_pos (show ¬ (1 : Int32) = 2 by decide)]
      unfold u_X0_readPlain_126
      rw [if_pos (show ¬ (1 : Int32) = 0 by decide)]
      show (∀ x, _ → (if ¬ q = 0 then u_X0_readPlain_145 U S N (nI a) (vA t (nI a)) (qI t 0 0 9 (t.1 0 0 9 + 1)) else if t.1 0 0 6 = 0 then u_X0_readPlain_163 U S N (vA t (nI a)) (qI t 0 0 9 (t.1 0 0 9 + 1)) else u_X0_readPlain_145 U S N (nI a) (vA t (nI a)) (qI t 0 0 9 (t.1 0 0 9 + 1))) = _) ∧ (_ → ∃ x t2, (if ¬ q = 0 then u_X0_readPlain_145 U S N (nI a) (vA t (nI a)) (qI t 0 0 9 (t.1 0 0 9 + 1)) else if t.1 0 0 6 = 0 then u_X0_readPlain_163 U S N (vA t (nI a)) (qI t 0 0 9 (t.1 0 0 9 + 1)) else u_X0_readPlain_145 U S N (nI a) (vA t (nI a)) (qI t 0 0 9 (t.1 0 0 9 + 1))) = _ ∧ _)
      rw [h9, nI_1, nv]
      have e145 : u_X0_readPlain_145 U S N (nI a) (vA t (nI a)) (qI t 0 0 9 (nI (a + 1))) = if ¬ gA t (vA t (nI a)) = 0 then some (nA t (vA t (nI a)), qI t 0 0 9 (nI (a + 1))) else (u_X0_report U S N 3 (nI a) (qI t 0 0 9 (nI (a + 1)))).bind fun q4 => u_X0_readPlain_163 U S N (vA t (nI a)) q4.2 := by
        unfold u_X0_readPlain_145
        rw [e_tell G.1, Option.bind_some, nv]
        rfl
      have untold : gA t (vA t (nI a)) = 0 → ∃ x t2, u_X0_readPlain_145 U S N (nI a) (vA t (nI a)) (qI t 0 0 9 (nI (a + 1))) = some (x, t2) ∧ ¬ t2.1 0 0 4 = 0 := by
        intro hg
        obtain ⟨t2, e, h2⟩ := e_report (U := U) (S := S) (N := N) G.1 (show ¬ (3 : Int32) = 0 by decide) (nI a)
        obtain ⟨_, t3, e3, g3, _⟩ := s_report (U := U) (S := S) (N := N) G 3 (nI a)
        rw [e] at e3
        have e4 : t2 = t3 := congrArg Prod.snd (Option.some.inj e3)
        rw [← e4] at g3
        rw [e145, if_neg (not_not_intro hg), e, Option.bind_some]
        unfold u_X0_readPlain_163
        rw [e_nval g3.1]
        exact ⟨_, t2, rfl, h2⟩
      by_cases cq : ¬ q = 0
      · rw [if_pos cq]
        by_cases cg : gA t (vA t (nI a)) = 0
        · rw [if_pos ⟨Or.inl cq, cg⟩]
          exact ⟨fun x e => (by cases e), fun _ => untold cg⟩
        · rw [if_neg (fun z => cg z.2), e145, if_pos cg]
          exact ⟨fun x e => by rw [← Option.some.inj e], fun e => by cases e⟩
      · rw [if_neg cq]
        by_cases c6 : t.1 0 0 6 = 0
        · rw [if_pos c6, if_neg (fun z => z.1.elim cq (fun k => k c6))]
          exact ⟨fun x e => by rw [← Option.some.inj e], fun e => by cases e⟩
        · rw [if_neg c6]
          by_cases cg : gA t (vA t (nI a)) = 0
          · rw [if_pos ⟨Or.inr c6, cg⟩]
            exact ⟨fun x e => (by cases e), fun _ => untold cg⟩
          · rw [if_neg (fun z => cg z.2), e145, if_pos cg]
            exact ⟨fun x e => by rw [← Option.some.inj e], fun e => by cases e⟩
    · rw [if_pos cs, if_neg (fun z => cs z.2), if_neg (by decide), if_neg (by decide), if_neg (by decide)]
      refine ⟨fun x e => (by cases e), fun _ => ?_⟩
      unfold u_X0_readPlain_39
      rw [if_neg (fun z => z rfl), if_neg (by decide), if_neg (by decide), if_neg (by decide), if_pos (by decide)]
      exact rep 2 (by decide)
  · rw [if_pos c1, if_neg (fun z => c1 z.1)]
    unfold u_X0_readPlain_39 u_X0_readPlain_80
    show (∀ x, _ → (if ¬ (0 : Int32) = 0 then _ else _) = _) ∧ (_ → ∃ x t2, (if ¬ (0 : Int32) = 0 then _ else _) = _ ∧ _)
    rw [if_neg (show ¬ ¬ (0 : Int32) = 0 from fun z => z rfl)]
    simp only [Option.bind_some]
    show (∀ x, _ → (if kA t (nI a) = 2 then _ else _) = _) ∧ (_ → ∃ x t2, (if kA t (nI a) = 2 then _ else _) = _ ∧ _)
    by_cases c2 : kA t (nI a) = 2
    · have d46 : ¬ kA t (nI a) = 46 := by rw [c2]; decide
      simp only [if_pos c2, if_neg d46, if_pos d46, if_neg (not_not_intro c2)]
      show (∀ x, _ → (if t.1 0 0 8 = 0 then u_X0_readPlain_126 U S N q (nI a) (vA t (nI a)) 0 (qI t 0 0 9 (t.1 0 0 9 + 1)) else (u_X9_otherOf U S N (nI a) (qI t 0 0 9 (t.1 0 0 9 + 1))).bind fun q5 => some (q5.1, q5.2)) = _) ∧ _
      refine ⟨fun x e => ?_, fun e => by cases e⟩
      rw [← Option.some.inj e, h9, nI_1]
      by_cases c8 : t.1 0 0 8 = 0
      · rw [if_pos c8, if_pos c8]
        unfold u_X0_readPlain_126
        rw [if_neg (fun z => z rfl)]
      · rw [if_neg c8, if_neg c8, e_other G.1]
        rfl
    · rw [if_neg c2]
      by_cases c3 : kA t (nI a) = 3
      · have d46 : ¬ kA t (nI a) = 46 := by rw [c3]; decide
        simp only [if_pos c3, if_neg c2, if_neg d46, if_pos d46, if_pos c2]
        refine ⟨fun x e => ?_, fun e => by cases e⟩
        rw [← Option.some.inj e]
        unfold u_X0_readPlain_126
        rw [if_neg (fun z => z rfl)]
        show some (vA t (nI a), qI t 0 0 9 (t.1 0 0 9 + 1)) = _
        rw [h9, nI_1]
      · rw [if_neg c3]
        by_cases c46 : kA t (nI a) = 46
        · simp only [if_neg c2, if_neg c3, if_pos c46, if_neg (not_not_intro c46)]
          refine ⟨fun x e => ?_, fun e => by cases e⟩
          rw [← Option.some.inj e]
          show some (t.1 0 0 10 &&& 4095, qI t 0 0 9 (t.1 0 0 9 + 1)) = _
          rw [h9, nI_1]
        · simp only [if_neg c46, if_neg c2, if_neg c3]
          refine ⟨fun x e => (by cases e), fun _ => ?_⟩
          by_cases c6 : kA t (nI a) = 6
          · rw [if_neg (not_not_intro c6)]
            exact rep 1 (by decide)
          · rw [if_pos c6]
            exact rep 2 (by decide)
theorem e_comb (v op w : Int32) : u_X0_combine U S N v op w t = some (cmb v op w, t) := by
  unfold u_X0_combine cmb
  repeat' split
  all_goals rfl
theorem e_rvF (hN : 5000 < N) (h : CA t) (ec : t.1 9 0 5 = nI c) (hc : c ≤ 2001) (h4 : t.1 0 0 4 = 0) (q : Int32) : ∀ (f m i a : Nat) (v op : Int32), a ≤ c → i ≤ a → c + 1 < i + m → c < a + f → (∀ w a2, rvF t q f a v op = some (w, a2) → ul_X0_readValue_8 U S N m q v op (nI i) (qI t 0 0 9 (nI a)) = some (w, qI t 0 0 9 (nI a2))) ∧ (rvF t q f a v op = none → ∃ x t2, ul_X0_readValue_8 U S N m q v op (nI i) (qI t 0 0 9 (nI a)) = some (x, t2) ∧ ¬ t2.1 0 0 4 = 0) := by
  intro f
  induction f with
  | zero => intro m i a v op h1 h2 h3 h5; omega
  | succ f ih =>
    intro m i a v op h1 h2 h3 h5
    obtain ⟨m, rfl⟩ : ∃ k, m = k + 1 := ⟨m - 1, by omega⟩
    have G : ∀ x, GA t (qI t 0 0 9 x) := fun x => GA_0 ⟨h, AF_refl t⟩ 9 x
    -- behind the part
    have e88 : ∀ (w : Int32) (a2 : Nat), u_X0_readValue_88 U S N (ul_X0_readValue_8 U S N m) q (nI i) v op w (qI t 0 0 9 (nI a2)) = if ¬ oP (kA t (nI a2)) = 0 then ul_X0_readValue_8 U S N m q (cmb v op w) (kA t (nI a2)) (nI (i + 1)) (qI t 0 0 9 (nI (a2 + 1))) else some (cmb v op w, qI t 0 0 9 (nI a2)) := by
      intro w a2
      unfold u_X0_readValue_88 u_X0_readValue_127
      rw [e_comb, Option.bind_some]
      show ((u_X0_kindAt U S N (nI a2) (qI t 0 0 9 (nI a2))).bind _) = _
      rw [e_kind (G _).1, Option.bind_some]
      show ((u_X0_isOperator U S N (kA t (nI a2)) (qI t 0 0 9 (nI a2))).bind _) = _
      rw [e_isOp, Option.bind_some, Option.bind_some]
      show (if ¬ oP (kA t (nI a2)) = 0 then ul_X0_readValue_8 U S N m q (cmb v op w) (kA t (nI a2)) (nI i + 1) (qI (qI t 0 0 9 (nI a2)) 0 0 9 (nI a2 + 1)) else _) = _
      rw [qI_qI, nI_1, nI_1]
    -- a fault stays
    have f88 : ∀ (t2 : CS) (w : Int32), GA t t2 → ¬ t2.1 0 0 4 = 0 → ∃ x t3, u_X0_readValue_88 U S N (ul_X0_readValue_8 U S N m) q (nI i) v op w t2 = some (x, t3) ∧ ¬ t3.1 0 0 4 = 0 := by
      intro t2 w g2 hf
      unfold u_X0_readValue_88 u_X0_readValue_127
      rw [e_comb, Option.bind_some]
      show ∃ x t3, ((u_X0_kindAt U S N (t2.1 0 0 9) t2).bind _) = _ ∧ _
      rw [e_kind g2.1, Option.bind_some]
      show ∃ x t3, ((u_X0_isOperator U S N (kA t2 (t2.1 0 0 9)) t2).bind _) = _ ∧ _
      rw [e_isOp, Option.bind_some, Option.bind_some]
      by_cases co : ¬ oP (kA t2 (t2.1 0 0 9)) = 0
      · rw [if_pos co]
        obtain ⟨m, rfl⟩ : ∃ k, m = k + 1 := ⟨m - 1, by omega⟩
        show ∃ x t3, uh_X0_readValue_8 U S N (ul_X0_readValue_8 U S N m) q (cmb v op w) (kA t2 (t2.1 0 0 9)) (nI i + 1) (qI t2 0 0 9 (t2.1 0 0 9 + 1)) = _ ∧ _
        unfold uh_X0_readValue_8 u_X0_readValue_127
        by_cases cc : (qI t2 0 0 9 (t2.1 0 0 9 + 1)).1 9 0 5 < nI i + 1
        · rw [if_pos cc]; exact ⟨_, _, rfl, hf⟩
        · rw [if_neg cc, if_pos (show ¬ (qI t2 0 0 9 (t2.1 0 0 9 + 1)).1 0 0 4 = 0 from hf)]; exact ⟨_, _, rfl, hf⟩
      · rw [if_neg co]; exact ⟨_, _, rfl, hf⟩
    have st1 : ul_X0_readValue_8 U S N (m + 1) q v op (nI i) (qI t 0 0 9 (nI a)) = if ¬ kA t (nI a) = 45 then u_X0_readValue_62 U S N (ul_X0_readValue_8 U S N m) q v op (nI i) 0 (qI t 0 0 9 (nI a)) else u_X0_readValue_62 U S N (ul_X0_readValue_8 U S N m) q v op (nI i) 1 (qI t 0 0 9 (nI (a + 1))) := by
      show uh_X0_readValue_8 U S N (ul_X0_readValue_8 U S N m) q v op (nI i) (qI t 0 0 9 (nI a)) = _
      unfold uh_X0_readValue_8 u_X0_readValue_45
      show (if t.1 9 0 5 < nI i then _ else if ¬ t.1 0 0 4 = 0 then _ else (u_X0_kindAt U S N (nI a) (qI t 0 0 9 (nI a))).bind _) = _
      rw [ec, if_neg (fun z => by have := (ltI (by omega) (by omega)).mp z; omega), if_neg (not_not_intro h4), e_kind (G _).1, Option.bind_some]
      dsimp only
      rw [if_pos (show (0 : Int32) = 0 from rfl), if_neg (show ¬ (1 : Int32) = 0 by decide), Option.bind_some]
      show (if ¬ kA t (nI a) = 45 then u_X0_readValue_62 U S N (ul_X0_readValue_8 U S N m) q v op (nI i) 0 (qI t 0 0 9 (nI a)) else u_X0_readValue_62 U S N (ul_X0_readValue_8 U S N m) q v op (nI i) 1 (qI (qI t 0 0 9 (nI a)) 0 0 9 (nI a + 1))) = _
      rw [qI_qI, nI_1]
    have e62 : ∀ (x5 : Int32) (a1 : Nat), (∀ p, pv t q a1 = some p → u_X0_readValue_62 U S N (ul_X0_readValue_8 U S N m) q v op (nI i) x5 (qI t 0 0 9 (nI a1)) = if x5 = 0 then u_X0_readValue_88 U S N (ul_X0_readValue_8 U S N m) q (nI i) v op p (qI t 0 0 9 (nI (a1 + 1))) else u_X0_readValue_88 U S N (ul_X0_readValue_8 U S N m) q (nI i) v op ((-p) &&& 4095) (qI t 0 0 9 (nI (a1 + 1)))) ∧ (pv t q a1 = none → ∃ x t3, u_X0_readValue_62 U S N (ul_X0_readValue_8 U S N m) q v op (nI i) x5 (qI t 0 0 9 (nI a1)) = some (x, t3) ∧ ¬ t3.1 0 0 4 = 0) := by
      intro x5 a1
      obtain ⟨p1, p2⟩ := e_plain (U := U) (S := S) (N := N) (t := qI t 0 0 9 (nI a1)) (a := a1) (G _).1 rfl q
      unfold u_X0_readValue_62
      constructor
      · intro p hp
        rw [p1 p hp, Option.bind_some, qI_qI]
      · intro hp
        obtain ⟨x, t2, e, hf⟩ := p2 hp
        obtain ⟨x', t2', e', g2, _⟩ := s_readPlain (U := U) (S := S) (N := N) (G (nI a1)) q
        rw [e] at e'
        have e4 : t2 = t2' := congrArg Prod.snd (Option.some.inj e')
        rw [← e4] at g2
        rw [e, Option.bind_some]
        by_cases c5 : x5 = 0
        · rw [if_pos c5]; exact f88 t2 _ g2 hf
        · rw [if_neg c5]; exact f88 t2 _ g2 hf
    have rc1 : ∀ (p : Int32) (a2 : Nat), pm t q a = some (p, a2) → ul_X0_readValue_8 U S N (m + 1) q v op (nI i) (qI t 0 0 9 (nI a)) = u_X0_readValue_88 U S N (ul_X0_readValue_8 U S N m) q (nI i) v op p (qI t 0 0 9 (nI a2)) := by
      intro p a2 hp
      rw [st1]
      unfold pm at hp
      by_cases c45 : kA t (nI a) = 45
      · rw [if_pos c45] at hp
        rw [if_neg (not_not_intro c45)]
        cases e2 : pv t q (a + 1) with
        | none => rw [e2] at hp; cases hp
        | some p2 =>
          rw [e2] at hp
          have e3 := Option.some.inj hp
          rw [(e62 1 (a + 1)).1 p2 e2, if_neg (by decide), show p = _ from (congrArg Prod.fst e3).symm, show a2 = _ from (congrArg Prod.snd e3).symm]
      · rw [if_neg c45] at hp
        rw [if_pos c45]
        cases e2 : pv t q a with
        | none => rw [e2] at hp; cases hp
        | some p2 =>
          rw [e2] at hp
          have e3 := Option.some.inj hp
          rw [(e62 0 a).1 p2 e2, if_pos rfl, show p = _ from (congrArg Prod.fst e3).symm, show a2 = _ from (congrArg Prod.snd e3).symm]
    cases ep : pm t q a with
    | none =>
      have er : rvF t q (f + 1) a v op = none := by
        show (pm t q a).bind _ = none
        rw [ep]
        rfl
      refine ⟨fun w a2 e => absurd (er.symm.trans e) (by intro z; cases z), fun _ => ?_⟩
      rw [st1]
      unfold pm at ep
      by_cases c45 : kA t (nI a) = 45
      · rw [if_pos c45] at ep
        rw [if_neg (not_not_intro c45)]
        cases e2 : pv t q (a + 1) with
        | none => exact (e62 1 (a + 1)).2 e2
        | some p2 => rw [e2] at ep; cases ep
      · rw [if_neg c45] at ep
        rw [if_pos c45]
        cases e2 : pv t q a with
        | none => exact (e62 0 a).2 e2
        | some p2 => rw [e2] at ep; cases ep
    | some p =>
      obtain ⟨p, a2⟩ := p
      obtain ⟨-, k2, k3⟩ := pm_w h ep
      have er : rvF t q (f + 1) a v op = if ¬ oP (kA t (nI a2)) = 0 then rvF t q f (a2 + 1) (cmb v op p) (kA t (nI a2)) else some (cmb v op p, a2) := by
        show (pm t q a).bind _ = _
        rw [ep]
        rfl
      rw [er, rc1 p a2 ep, e88]
      have k2' : a < a2 := k2
      by_cases co : ¬ oP (kA t (nI a2)) = 0
      · rw [if_pos co, if_pos co]
        have : a2 < c := by
          refine kA_lt ec hc (by have : a2 ≤ a + 2 := k3; omega) (fun z => co ?_)
          rw [z]
          rfl
        exact ih m (i + 1) (a2 + 1) _ _ (by omega) (by omega) (by omega) (by omega)
      · rw [if_neg co, if_neg co]
        refine ⟨fun w a3 e => ?_, fun e => (by cases e)⟩
        have e3 := Option.some.inj e
        rw [show w = _ from (congrArg Prod.fst e3).symm, show a3 = _ from (congrArg Prod.snd e3).symm]
theorem e_rv (hN : 5000 < N) (h : CA t) (ec : t.1 9 0 5 = nI c) (hc : c ≤ 2001) (h4 : t.1 0 0 4 = 0) {a : Nat} (ha : a ≤ c) (q : Int32) : (∀ w a2, rv t q a = some (w, a2) → u_X0_readValue U S N q (qI t 0 0 9 (nI a)) = some (w, qI t 0 0 9 (nI a2))) ∧ (rv t q a = none → ∃ x t2, u_X0_readValue U S N q (qI t 0 0 9 (nI a)) = some (x, t2) ∧ ¬ t2.1 0 0 4 = 0) := e_rvF hN h ec hc h4 q 3000 N 0 a 0 43 ha (Nat.zero_le _) (by omega) (by omega)
end
