/-! LAYER 3, the assemblers side by side: a name is told -/
def cpy (f : Nat → Int32) (base k : Nat) (src : Nat → Int32) : Nat → Int32 := fun j => if base ≤ j ∧ j < base + k then src (j - base) else f j
theorem cpy_s (f : Nat → Int32) (base k : Nat) (src : Nat → Int32) : upd (cpy f base k src) (base + k) (src k) = cpy f base (k + 1) src := by
  funext j
  by_cases e : j = base + k
  · rw [e, upd_y]
    unfold cpy
    rw [if_pos ⟨by omega, by omega⟩]
    congr 1
    omega
  · rw [upd_n _ _ e]
    unfold cpy
    by_cases c : base ≤ j ∧ j < base + k
    · rw [if_pos c, if_pos ⟨c.1, by omega⟩]
    · rw [if_neg c, if_neg (fun z => c ⟨z.1, by omega⟩)]
def NWr (b : Nat → Int32) (s s2 : RS) (T st l : Nat) (cm : Int32) : Prop := s2.2.1 17 = cpy (s.2.1 17) (7 * T) l (fun i => b (st + i)) ∧ s2.2.1 18 = upd (s.2.1 18) T (nI l) ∧ s2.2.1 20 = upd (s.2.1 20) T cm ∧ (∀ k, k ≠ 17 → k ≠ 18 → k ≠ 19 → k ≠ 20 → s2.2.1 k = s.2.1 k) ∧ s2.2.2 = s.2.2
section
variable {U S N n c m T i : Nat} {b : Nat → Int32} {P ν : Nat → Nat} {t : CS} {s : RS}
theorem tl_f (w : Nat) (v g : Int32) : (∀ k, k ≠ 4 → (tlT t w v g).1 k = t.1 k) ∧ (∀ k, k ≠ 4 → (tlT t w v g).2.1 k = t.2.1 k) ∧ (tlT t w v g).2.2 = t.2.2 ∧ (tlT t w v g).1 4 0 3 = t.1 4 0 3 ∧ (tlT t w v g).2.1 4 0 1 = upd (t.2.1 4 0 1) w v ∧ (tlT t w v g).2.1 4 0 2 = upd (t.2.1 4 0 2) w g ∧ (tlT t w v g).1 4 0 4 = (if t.2.1 4 0 2 w = 0 then t.1 4 0 4 + 1 else t.1 4 0 4) := by
  unfold tlT
  by_cases c : t.2.1 4 0 2 w = 0
  · rw [if_pos c, if_pos c]
    refine ⟨fun k hk => ?_, fun k hk => ?_, rfl, rfl, rfl, rfl, rfl⟩
    · funext a d
      show up3 t.1 4 0 4 _ k a d = _
      rw [up3_n _ _ (fun e => hk e.1)]
    · funext a d
      show up3 (up3 t.2.1 4 0 1 _) 4 0 2 _ k a d = _
      rw [up3_n _ _ (fun e => hk e.1), up3_n _ _ (fun e => hk e.1)]
  · rw [if_neg c, if_neg c]
    refine ⟨fun k hk => rfl, fun k hk => ?_, rfl, rfl, rfl, rfl, rfl⟩
    funext a d
    show up3 (up3 t.2.1 4 0 1 _) 4 0 2 _ k a d = _
    rw [up3_n _ _ (fun e => hk e.1), up3_n _ _ (fun e => hk e.1)]
theorem GA_tl {t0 : CS} (h : GA t0 t) {w : Nat} (hw : 53 ≤ w) {v : Int32} (hv : W12 v) (g : Int32) : GA t0 (tlT t w v g) := by
  unfold tlT
  split
  · exact GA_42 (GA_41 (GA_44 h _) hw hv) hw g
  · exact GA_42 (GA_41 h hw hv) hw g
/-- the token behind a name is the one that isNext asks for -/
theorem nxk (h : EX b n P c m T ν t s) {a : Nat} (ha : a < c) (hk : t.2.1 9 0 1 a = 1) {x : Int32} (hx : x = 44 ∨ x = 61) : nx b n (P (a + 1)) x ↔ kA t (nI (a + 1)) = x := by
  obtain ⟨ha1, st, ⟨q, hq, hqs⟩, -, -, -, htk⟩ := tk_nx h ha (fk_t (Or.inl hk))
  obtain ⟨-, hB, ⟨-, -, ec, -, hc, -⟩, -⟩ := id h
  obtain ⟨-, -, r3, r4⟩ := rd_at ec hc ha1
  have hxn : ¬ x = 47 ∧ ¬ x = 10 ∧ ¬ x = 34 ∧ ¬ ltr x ∧ ¬ dgt x ∧ ¬ x = 6 ∧ ¬ x = 2 ∧ ¬ x = 0 ∧ ¬ x = 1 ∧ ¬ x = 4 ∧ ¬ x = 5 ∧ ¬ x = 3 ∧ sgn x := by
    rcases hx with rfl | rfl
    · exact ⟨by decide, by decide, by decide, by decide, by decide, by decide, by decide, by decide, by decide, by decide, by decide, by decide, sgn_y 44 (by decide)⟩
    · exact ⟨by decide, by decide, by decide, by decide, by decide, by decide, by decide, by decide, by decide, by decide, by decide, by decide, sgn_y 61 (by decide)⟩
  obtain ⟨x47, x10, x34, xl, xd, x6, x2, x0, x1, x4, x5, x3, xs⟩ := hxn
  constructor
  · rintro ⟨y, y1, y2, y3⟩
    have ey := rn_u hq y1
    subst ey
    have est : st = q := by
      rcases hqs with ⟨-, k, -⟩ | ⟨-, k⟩
      · exact absurd (y3.symm.trans k) x47
      · exact k
    subst est
    have hK : t.2.1 9 0 1 (a + 1) = x := by
      rcases htk with ⟨k, -⟩ | ⟨-, k, -⟩ | ⟨-, k, -⟩ | ⟨-, -, k, -⟩ | ⟨-, k, -⟩ | ⟨-, -, -, -, -, -, ⟨k, -⟩ | ⟨-, k⟩⟩
      · omega
      · exact absurd (y3.symm.trans k) x10
      · rw [y3] at k; exact absurd k xl
      · rw [y3] at k; exact absurd k xd
      · exact absurd (y3.symm.trans k) x34
      · rw [k, y3]
      · rw [y3] at k; exact absurd xs k
    have nb : ¬ bad (t.2.1 9 0 1 (a + 1)) (t.2.1 9 0 3 (a + 1)) (t.2.1 9 0 4 (a + 1)) (t.1 0 0 8) := by
      rw [hK]
      rintro (z | ⟨z, -⟩)
      · exact x6 z
      · exact x2 z
    rw [r4 nb, hK]
  · intro hk2
    have nb : ¬ bad (t.2.1 9 0 1 (a + 1)) (t.2.1 9 0 3 (a + 1)) (t.2.1 9 0 4 (a + 1)) (t.1 0 0 8) := by
      intro z
      rw [r3 z] at hk2
      exact x6 hk2.symm
    rw [r4 nb] at hk2
    rw [hk2] at htk
    have hs : st < n ∧ b st = x := by
      rcases htk with ⟨-, k⟩ | ⟨-, -, k, -⟩ | ⟨-, -, y, -, ⟨-, k⟩ | ⟨-, w, -, -, ⟨k, -⟩ | ⟨-, -, -, ⟨k, -⟩ | ⟨k, -⟩⟩⟩⟩ | ⟨-, -, -, y, -, ⟨-, k⟩ | ⟨-, k, -⟩⟩ | ⟨-, -, ⟨k, -⟩ | ⟨k, -⟩⟩ | ⟨k0, -, -, -, -, -, ⟨k, -⟩ | ⟨k, -⟩⟩
      · exact absurd k x0
      · exact absurd k x10
      · exact absurd k x6
      · exact absurd k x1
      · exact absurd k x5
      · exact absurd k x4
      · exact absurd k x6
      · exact absurd k x2
      · exact absurd k x6
      · exact absurd k x3
      · exact ⟨k0, k.symm⟩
      · exact absurd k x6
    rcases hqs with ⟨-, -, k⟩ | ⟨-, k⟩
    · exact absurd ⟨hs.1, by rw [hs.2]; exact x10⟩ k.2.2
    · exact ⟨q, hq, by rw [← k]; exact hs.1, by rw [← k]; exact hs.2⟩
theorem cp_n (hN : 5000 < N) (hn : n ≤ 2000) {st l k : Nat} (hl : l ≤ 7) (hst : st + l ≤ n) (hk : k < 200) (v cm : Int32) (hcm : cm = 0 ∨ cm = 1) (s : RS) (hb : ∀ i, i < n → s.2.1 2 i = b i) : l_tells_142 U S N N (nI st) (nI l) v cm (nI k) 0 s = g_tells_185 U S N v (nI k) (pA (s.1, up1 s.2.1 17 (cpy (s.2.1 17) (7 * k) l (fun i => b (st + i))), s.2.2) 20 k cm) := by
  have e0 : (s.1, up1 s.2.1 17 (cpy (s.2.1 17) (7 * k) 0 (fun i => b (st + i))), s.2.2) = s := by
    have : up1 s.2.1 17 (cpy (s.2.1 17) (7 * k) 0 (fun i => b (st + i))) = s.2.1 := by
      funext j
      by_cases e : j = 17
      · subst e
        rw [up1_s]
        funext x
        unfold cpy
        rw [if_neg (fun z => by omega)]
      · rw [up1_n _ _ e]
    rw [this]
  have loop : ∀ (f x : Nat), x ≤ l → l < x + f → l_tells_142 U S N f (nI st) (nI l) v cm (nI k) (nI x) (s.1, up1 s.2.1 17 (cpy (s.2.1 17) (7 * k) x (fun i => b (st + i))), s.2.2) = g_tells_185 U S N v (nI k) (pA (s.1, up1 s.2.1 17 (cpy (s.2.1 17) (7 * k) l (fun i => b (st + i))), s.2.2) 20 k cm) := by
    intro f
    induction f with
    | zero => intro x h1 h2; omega
    | succ f ih =>
      intro x h1 h2
      show h_tells_142 U S N (l_tells_142 U S N f) (nI st) (nI l) v cm (nI k) (nI x) _ = _
      unfold h_tells_142
      by_cases c : l ≤ x
      · rw [if_pos ((leI (by omega) (by omega)).mpr c), wZ_y (by decide) hk _ _ hcm, Option.bind_some, show x = l by omega]
      · rw [if_neg (fun z => c ((leI (by omega) (by omega)).mp z)), nI_add, rA_y (by decide) (by omega), Option.bind_some, show (7 : Int32) = nI 7 from rfl, mul_nI, nI_add, wA_y (by decide) (by omega), Option.bind_some, nI_1]
        have e1 : pA (s.1, up1 s.2.1 17 (cpy (s.2.1 17) (7 * k) x (fun i => b (st + i))), s.2.2) 17 (7 * k + x) (((s.1, up1 s.2.1 17 (cpy (s.2.1 17) (7 * k) x (fun i => b (st + i))), s.2.2) : RS).2.1 2 (st + x)) = (s.1, up1 s.2.1 17 (cpy (s.2.1 17) (7 * k) (x + 1) (fun i => b (st + i))), s.2.2) := by
          show (s.1, up1 (up1 s.2.1 17 (cpy (s.2.1 17) (7 * k) x (fun i => b (st + i)))) 17 (upd (up1 s.2.1 17 (cpy (s.2.1 17) (7 * k) x (fun i => b (st + i))) 17) (7 * k + x) (s.2.1 2 (st + x))), s.2.2) = _
          rw [up1_u, up1_s, hb _ (by omega)]
          rw [show b (st + x) = (fun i => b (st + i)) x from rfl, cpy_s]
        rw [e1]
        exact ih (x + 1) (by omega) (by omega)
  have := loop N 0 (by omega) (by omega)
  rw [e0] at this
  exact this
/-- a name may be told, by the reference: its telling and the room -/
def rtOK (t : CS) (T w : Nat) (cm : Int32) : Prop := 53 ≤ w ∧ ((t.2.1 4 0 2 w = 0 ∧ T < 200) ∨ (t.2.1 4 0 2 w = 2 ∧ cm = 0))
theorem tells_f {st l v cm x : Int32} (hf : FZ s) (h5 : ¬ s.1 5 = 0) : g_tells_101 U S N st l v cm x s = some ((), s) := by
  unfold g_tells_101
  rw [if_neg (fz_n hf h5)]
theorem tells78_f {st l v cm x : Int32} (hf : FZ s) (h5 : ¬ s.1 5 = 0) : g_tells_78 U S N st l v cm x s = some ((), s) := by
  unfold g_tells_78
  rw [g_fails_eq hf, flt_k h5, Option.bind_some, tells_f hf h5]
  split
  · rfl
  · split <;> rfl
theorem told_ix (h : RN t s m T ν) {w : Nat} (hw53 : 53 ≤ w) (hw : w < m) : (t.2.1 4 0 2 w = 0 ∧ ∀ j, j < T → ¬ ν j = w) ∨ (¬ t.2.1 4 0 2 w = 0 ∧ ∃ j, j < T ∧ ν j = w ∧ s.2.1 19 j = t.2.1 4 0 1 w ∧ ((t.2.1 4 0 2 w = 1 ∧ s.2.1 20 j = 1) ∨ (t.2.1 4 0 2 w = 2 ∧ s.2.1 20 j = 0))) := by
  obtain ⟨-, -, -, r4, -, r6⟩ := h
  by_cases c : ∃ j, j < T ∧ ν j = w
  · obtain ⟨j, hj, e⟩ := c
    obtain ⟨-, -, -, k4, k5⟩ := r4 j hj
    rw [e] at k4 k5
    refine Or.inr ⟨?_, j, hj, e, k4, k5⟩
    rcases k5 with ⟨k, -⟩ | ⟨k, -⟩ <;> rw [k] <;> decide
  · have hno : ∀ j, j < T → ¬ ν j = w := fun j hj e => c ⟨j, hj, e⟩
    exact Or.inl ⟨(r6 w hw53 hw hno).1, hno⟩
/-- tells in the first pass -/
theorem tells1 (hN : 5000 < N) (h : EX b n P c m T ν t s) (hf : FZ s) (h5 : s.1 5 = 0) (h9 : s.1 9 = 0) {st z w : Nat} (hz : rn (nmc b n) st z) (hzn : z ≤ n) (h7 : z - st ≤ 7) (hw : w < m) (hp : pkB b st (z - st) = t.2.2.1 w) {v cm : Int32} (hcm : cm = 0 ∨ cm = 1) : (rtOK t T w cm → t.2.1 4 0 2 w = 0 → ∃ s2, g_tells U S N (nI st) (nI (z - st)) v cm s = some ((), s2) ∧ NWr b s s2 T st (z - st) cm ∧ s2.1 = up1 s.1 21 (nI (T + 1)) ∧ s2.2.1 19 = (if v = -1 then s.2.1 19 else upd (s.2.1 19) T (v &&& 4095))) ∧ (rtOK t T w cm → ¬ t.2.1 4 0 2 w = 0 → v = -1 → g_tells U S N (nI st) (nI (z - st)) v cm s = some ((), s)) ∧ (¬ rtOK t T w cm → ∃ s2, g_tells U S N (nI st) (nI (z - st)) v cm s = some ((), s2) ∧ SL s s2 ∧ FZ s2 ∧ ¬ s2.1 5 = 0) := by
  have hz1 := hz.1
  obtain ⟨hn, -, -, ⟨-, hm53, -, -, hfx⟩, hRN, ⟨h3, hb⟩, -⟩ := id h
  obtain ⟨r1, r2, -⟩ := id hRN
  unfold g_tells rtOK
  rw [fd12 hN h hz hzn h7 hw hp, Option.bind_some]
  dsimp only
  by_cases c53 : w < 53
  · -- a name that is there first
    have e30 : ∃ s2, g_tells_30 U S N (nI st) (nI (z - st)) v cm s = some ((), s2) ∧ SL s s2 ∧ FZ s2 ∧ ¬ s2.1 5 = 0 := by
      unfold g_tells_30
      rw [g_fails_eq hf, Option.bind_some]
      dsimp only
      have sl := flt_SL (s := s) 5 (nI st)
      have hne : ¬ (flt s 5 (nI st)).1 5 = 0 := flt_ne (by decide)
      have hfz : FZ (flt s 5 (nI st)) := flt_FZ hf (by decide)
      have f2 := (fdT (U := U) (S := S) hN (EX_SL h sl) hz hzn h7 hw hp).2 (fun j hj e => by have := (hRN.2.2.2.1 j hj).1; omega)
      unfold g_tells_36
      rw [f2, Option.bind_some]
      dsimp only
      rw [sl.1 9 (by decide), h9, if_neg (show ¬ ¬ (0 : Int32) = 0 from fun z => z rfl), if_pos (show (-1 : Int32) = -1 from rfl), tells78_f hfz hne]
      exact ⟨_, rfl, sl, hfz, hne⟩
    refine ⟨fun q => by omega, fun q => by omega, fun _ => ?_⟩
    by_cases c5 : 5 ≤ w
    · rw [show (if 5 ≤ w ∧ w < 53 then nI (w - 5) else -1) = nI (w - 5) from if_pos ⟨c5, c53⟩, if_pos (nI_ne (show w - 5 < 2 ^ 31 by omega))]
      exact e30
    · rw [show (if 5 ≤ w ∧ w < 53 then nI (w - 5) else -1) = -1 from if_neg (fun q => c5 q.1), if_neg (not_not_intro (show (-1 : Int32) = -1 from rfl)), fd13 hN h hz hzn h7 hw hp, Option.bind_some]
      dsimp only
      rw [show (if w < 5 then nI w else -1) = nI w from if_pos (by omega), if_neg (nI_ne (show w < 2 ^ 31 by omega))]
      exact e30
  · rw [show (if 5 ≤ w ∧ w < 53 then nI (w - 5) else -1) = -1 from if_neg (fun q => c53 q.2), if_neg (not_not_intro (show (-1 : Int32) = -1 from rfl)), fd13 hN h hz hzn h7 hw hp, Option.bind_some]
    dsimp only
    rw [show (if w < 5 then nI w else -1) = -1 from if_neg (by omega), if_pos (show (-1 : Int32) = -1 from rfl)]
    obtain ⟨f1, f2⟩ := fdT (U := U) (S := S) hN h hz hzn h7 hw hp
    unfold g_tells_36
    rcases told_ix hRN (by omega) hw with ⟨g0, hno⟩ | ⟨g0, j, hj, ej, -, hcs⟩
    · rw [f2 hno, Option.bind_some]
      dsimp only
      rw [h9, if_neg (show ¬ ¬ (0 : Int32) = 0 from fun z => z rfl), if_pos (show (-1 : Int32) = -1 from rfl)]
      unfold g_tells_78
      rw [if_neg (not_not_intro (show (-1 : Int32) = -1 from rfl)), r2]
      by_cases cT : T < 200
      · rw [if_pos (fun e => by have := (eqL (k := 200) (c := 200) rfl (by omega) (by decide)).mp e; omega)]
        refine ⟨fun _ _ => ?_, fun _ q => absurd g0 q, fun q => absurd ⟨by omega, Or.inl ⟨g0, cT⟩⟩ q⟩
        unfold g_tells_101
        rw [if_pos (fz_0 h5), if_neg (not_not_intro (show (-1 : Int32) = -1 from rfl)), Option.bind_some, r2, nI_1, wA_y (by decide) cT, Option.bind_some, cp_n hN hn h7 (by omega) cT v cm hcm _ (by exact hb)]
        unfold g_tells_185 g_tells_202
        by_cases cv : v = -1
        · rw [if_pos cv]
          refine ⟨_, rfl, ⟨rfl, rfl, rfl, fun k k1 k2 k3 k4 => ?_, rfl⟩, rfl, by rw [if_pos cv]; rfl⟩
          show up1 (up1 (up1 s.2.1 18 _) 17 _) 20 _ k = _
          rw [up1_n _ _ k4, up1_n _ _ k1, up1_n _ _ k2]
        · rw [if_neg cv, wA_y (by decide) cT, Option.bind_some]
          refine ⟨_, rfl, ⟨rfl, rfl, rfl, fun k k1 k2 k3 k4 => ?_, rfl⟩, rfl, by rw [if_neg cv]; rfl⟩
          show up1 (up1 (up1 (up1 s.2.1 18 _) 17 _) 20 _) 19 _ k = _
          rw [up1_n _ _ k3, up1_n _ _ k4, up1_n _ _ k1, up1_n _ _ k2]
      · have e200 : T = 200 := by omega
        rw [if_neg (not_not_intro (show nI T = 200 by rw [e200]; rfl)), g_fails_eq hf, Option.bind_some]
        dsimp only
        rw [tells_f (flt_FZ hf (by decide)) (flt_ne (by decide))]
        exact ⟨fun q => absurd (q.2.elim (fun y => y.2) (fun y => by rw [g0] at y; exact absurd y.1 (by decide))) cT, fun _ q => absurd g0 q, fun _ => ⟨_, rfl, flt_SL _ _, flt_FZ hf (by decide), flt_ne (by decide)⟩⟩
    · rw [f1 j hj ej, Option.bind_some]
      dsimp only
      rw [h9, if_neg (show ¬ ¬ (0 : Int32) = 0 from fun z => z rfl), if_neg (nI_ne (show j < 2 ^ 31 by omega))]
      have e72 : ∃ s2, g_tells_72 U S N (nI st) (nI (z - st)) v cm (nI j) s = some ((), s2) ∧ SL s s2 ∧ FZ s2 ∧ ¬ s2.1 5 = 0 := by
        unfold g_tells_72
        rw [g_fails_eq hf, Option.bind_some]
        dsimp only
        rw [tells78_f (flt_FZ hf (by decide)) (flt_ne (by decide))]
        exact ⟨_, rfl, flt_SL _ _, flt_FZ hf (by decide), flt_ne (by decide)⟩
      refine ⟨fun _ q => absurd q g0, fun q _ hv => ?_, fun q => ?_⟩
      · obtain ⟨q1, q2⟩ := q.2.resolve_left (fun y => g0 y.1)
        have h20 : s.2.1 20 j = 0 := by
          rcases hcs with ⟨y, -⟩ | ⟨-, y⟩
          · rw [q1] at y; exact absurd y (by decide)
          · exact y
        rw [if_neg (not_not_intro q2), rA_y (by decide) (by omega), Option.bind_some, if_pos h20]
        unfold g_tells_78 g_tells_101 g_tells_185 g_tells_202
        rw [if_pos (nI_ne (show j < 2 ^ 31 by omega)), if_pos (fz_0 h5), if_pos (nI_ne (show j < 2 ^ 31 by omega)), if_pos hv]
      · rcases hcm with rfl | rfl
        · have g1 : s.2.1 20 j = 1 := by
            rcases hcs with ⟨-, y⟩ | ⟨y, -⟩
            · exact y
            · exact absurd ⟨by omega, Or.inr ⟨y, rfl⟩⟩ q
          rw [if_neg (show ¬ ¬ (0 : Int32) = 0 from fun z => z rfl), rA_y (by decide) (by omega), Option.bind_some, g1, if_neg (show ¬ (1 : Int32) = 0 by decide)]
          exact e72
        · rw [if_pos (show ¬ (1 : Int32) = 0 by decide)]
          exact e72
/-- tells in the second pass, of a name that was told -/
theorem tells2 (hN : 5000 < N) (h : EX b n P c m T ν t s) (hf : FZ s) (h5 : s.1 5 = 0) (h9 : ¬ s.1 9 = 0) {st z w : Nat} (hz : rn (nmc b n) st z) (hzn : z ≤ n) (h7 : z - st ≤ 7) (hw : w < m) (hp : pkB b st (z - st) = t.2.2.1 w) (hw53 : 53 ≤ w) (hg : ¬ t.2.1 4 0 2 w = 0) {v cm : Int32} : ∃ j, j < T ∧ ν j = w ∧ g_tells U S N (nI st) (nI (z - st)) v cm s = some ((), if v = -1 then s else pA s 19 j (v &&& 4095)) := by
  obtain ⟨hn, -, -, -, hRN, -⟩ := id h
  obtain ⟨r1, -⟩ := id hRN
  rcases told_ix hRN hw53 hw with ⟨g0, -⟩ | ⟨-, j, hj, ej, -, -⟩
  · exact absurd g0 hg
  · refine ⟨j, hj, ej, ?_⟩
    unfold g_tells
    rw [fd12 hN h hz hzn h7 hw hp, Option.bind_some]
    dsimp only
    rw [show (if 5 ≤ w ∧ w < 53 then nI (w - 5) else -1) = -1 from if_neg (fun q => by omega), if_neg (not_not_intro (show (-1 : Int32) = -1 from rfl)), fd13 hN h hz hzn h7 hw hp, Option.bind_some]
    dsimp only
    rw [show (if w < 5 then nI w else -1) = -1 from if_neg (by omega), if_pos (show (-1 : Int32) = -1 from rfl)]
    unfold g_tells_36
    rw [(fdT (U := U) (S := S) hN h hz hzn h7 hw hp).1 j hj ej, Option.bind_some]
    dsimp only
    rw [if_pos h9]
    unfold g_tells_78 g_tells_101 g_tells_185 g_tells_202
    rw [if_pos (nI_ne (show j < 2 ^ 31 by omega)), if_pos (fz_0 h5), if_pos (nI_ne (show j < 2 ^ 31 by omega))]
    by_cases cv : v = -1
    · rw [if_pos cv, if_pos cv]
    · rw [if_neg cv, if_neg cv, wA_y (by decide) (by omega)]
      rfl
end
