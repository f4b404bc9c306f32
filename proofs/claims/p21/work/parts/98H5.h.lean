/-! LAYER 3, the assemblers side by side: a value -/
def alo (t : CS) (a : Nat) : Int32 := if kA t (nI a) = 1 ∧ ¬ vA t (nI a) < 5 ∧ vA t (nI a) < 53 then vA t (nI a) - 5 else -1
def aln (t : CS) (q : Int32) (a : Nat) : Int32 := match pm t q a with
  | some p => if oP (kA t (nI p.2)) = 0 then alo t a else -1
  | none => -1
/-- behind a value that ends before token a -/
def OC (b : Nat → Int32) (n : Nat) (P : Nat → Nat) (c m : Nat) (t : CS) (s : RS) (a : Nat) : Prop := (kA t (nI a) = 6 ∧ ¬ s.1 5 = 0) ∨ (¬ kA t (nI a) = 6 ∧ s.1 5 = 0 ∧ LA b n P c m t s a)
def plW (x : Int32) : Prop := ∃ k, k ≤ 4096 ∧ x = nI k
theorem cd_fix : ∀ k, k < 48 → xI x_cd (nI k) = some (nm0.2.2.1 (5 + k)) := by
  rw [nm0_eq]
  decide +kernel
theorem neg_pl {x : Int32} (h : plW x) : (-(x &&& 4095)) &&& 4095 = (-x) &&& 4095 := by
  obtain ⟨k, hk, rfl⟩ := h
  by_cases c : k = 4096
  · subst c; decide
  · rw [w12_id ⟨k, by omega, rfl⟩]
theorem sN_n {w : Nat} (hw : w < 2 ^ 31) : sN (nI w) = if w < 5 then 1 else 0 := by
  unfold sN
  rw [if_neg (nI_nn hw)]
  by_cases c : w < 5
  · rw [if_neg (fun z => by have := (Llt (k := 4) (c := 4) rfl hw (by decide)).mp z; omega), if_pos c]
  · rw [if_pos ((Llt (k := 4) (c := 4) rfl hw (by decide)).mpr (by omega)), if_neg c]
section
variable {U S N n c m T : Nat} {b : Nat → Int32} {P ν : Nat → Nat} {t : CS} {s : RS}
/-- a name that was looked at -/
theorem LA_n (h : EX b n P c m T ν t s) {s2 : RS} {a : Nat} (hl : LA b n P c m t s2 a) (hk : t.2.1 9 0 1 a = 1 ∨ t.2.1 9 0 1 a = 4 ∨ t.2.1 9 0 1 a = 5) : s2.1 12 = 1 ∧ ∃ st z w, s2.1 13 = nI st ∧ s2.1 15 = nI (z - st) ∧ s2.1 16 = nI z ∧ rn (nmc b n) st z ∧ st < z ∧ z ≤ n ∧ z - st ≤ 7 ∧ w < m ∧ pkB b st (z - st) = t.2.2.1 w ∧ ((t.2.1 9 0 1 a = 1 ∧ t.2.1 9 0 3 a = nI w ∧ (w = 4 → nx b n z 44 ∨ nx b n z 61)) ∨ (¬ t.2.1 9 0 1 a = 1 ∧ w = 4 ∧ ¬ nx b n z 44 ∧ ¬ nx b n z 61 ∧ ((t.2.1 9 0 1 a = 5 ∧ ¬ ∃ y w, txt b n z y w) ∨ (t.2.1 9 0 1 a = 4 ∧ ∃ y w, txt b n z y w ∧ t.2.1 9 0 3 a = nI (y + 1) ∧ t.2.1 9 0 4 a = nI w ∧ P (a + 1) = w + 1)))) := by
  obtain ⟨ha, st, -, -, e13, htk, ⟨-, k2, -⟩, -⟩ := hl
  obtain ⟨e12, z, hz, e16, e15⟩ := k2 hk
  refine ⟨e12, st, z, ?_⟩
  have no : ∀ x : Int32, ¬ (x = 1 ∨ x = 4 ∨ x = 5) → ¬ t.2.1 9 0 1 a = x := fun x hx e => hx (by rw [← e]; exact hk)
  rcases htk with ⟨-, q⟩ | ⟨-, -, q, -⟩ | ⟨q1, q2, y, hy, ⟨-, q⟩ | ⟨q3, v, r1, r2, r3⟩⟩ | ⟨-, -, -, y, -, ⟨-, q⟩ | ⟨-, q, -⟩⟩ | ⟨-, -, ⟨q, -⟩ | ⟨q, -⟩⟩ | ⟨-, -, -, -, -, -, ⟨q, q2, -⟩ | ⟨q, -⟩⟩
  · exact absurd q (no 0 (by decide))
  · exact absurd q (no 10 (by decide))
  · exact absurd q (no 6 (by decide))
  · have ezy := rn_u hz hy
    subst ezy
    have hzn := rn_le (fun i => nmc_n (b := b) (n := n) (i := i)) hz
    have hz1 := (rn_s hz ⟨q1, Or.inl q2⟩).1
    refine ⟨v, e13, e15, e16, hz, by omega, by omega, q3, r1, r2, ?_⟩
    rcases r3 with ⟨u1, u2, -, u4⟩ | ⟨u1, u2, u3, u4⟩
    · exact Or.inl ⟨u1, u2, u4⟩
    · refine Or.inr ⟨?_, u1, u2, u3, u4⟩
      rcases u4 with ⟨u, -⟩ | ⟨u, -⟩ <;> rw [u] <;> decide
  · exact absurd q (no 6 (by decide))
  · exact absurd q (no 2 (by decide))
  · exact absurd q (no 6 (by decide))
  · exact absurd q (no 3 (by decide))
  · exfalso
    rw [← q] at q2
    rcases hk with z | z | z <;> rw [z] at q2
    · exact sgn_n.2.1 q2
    · exact sgn_n.2.2.2.2.1 q2
    · exact sgn_n.2.2.2.2.2.1 q2
  · exact absurd q (no 6 (by decide))
theorem fd13 (hN : 5000 < N) (h : EX b n P c m T ν t s) {st z w : Nat} (hz : rn (nmc b n) st z) (hzn : z ≤ n) (h7 : z - st ≤ 7) (hw : w < m) (hp : pkB b st (z - st) = t.2.2.1 w) : g_find U S N 13 (nI st) (nI (z - st)) s = some (if w < 5 then nI w else -1, s) := by
  obtain ⟨hn, -, -, ⟨-, hm, -, hj, hfx⟩, -, ⟨-, hb⟩, -⟩ := h
  have hz1 := hz.1
  rw [find_no hN hn hb stab13 (by decide) (by decide) hm hj (fun i hi => (hfx i hi).1) h7 (by omega) (nm_chs hz) hw hp]
  by_cases q : w < 5
  · rw [if_pos ⟨Nat.zero_le _, by omega⟩, if_pos q]; rfl
  · rw [if_neg (fun z => by omega), if_neg q]
theorem fd12 (hN : 5000 < N) (h : EX b n P c m T ν t s) {st z w : Nat} (hz : rn (nmc b n) st z) (hzn : z ≤ n) (h7 : z - st ≤ 7) (hw : w < m) (hp : pkB b st (z - st) = t.2.2.1 w) : g_find U S N 12 (nI st) (nI (z - st)) s = some (if 5 ≤ w ∧ w < 53 then nI (w - 5) else -1, s) := by
  obtain ⟨hn, -, -, ⟨-, hm, -, hj, hfx⟩, -, ⟨-, hb⟩, -⟩ := h
  have hz1 := hz.1
  exact find_no hN hn hb stab12 (by decide) (by decide) hm hj (fun i hi => (hfx i hi).1) h7 (by omega) (nm_chs hz) hw hp
theorem fdT (hN : 5000 < N) (h : EX b n P c m T ν t s) {st z w : Nat} (hz : rn (nmc b n) st z) (hzn : z ≤ n) (h7 : z - st ≤ 7) (hw : w < m) (hp : pkB b st (z - st) = t.2.2.1 w) : (∀ j, j < T → ν j = w → g_findTold U S N (nI st) (nI (z - st)) s = some (nI j, s)) ∧ ((∀ j, j < T → ¬ ν j = w) → g_findTold U S N (nI st) (nI (z - st)) s = some (-1, s)) := by
  obtain ⟨hn, -, -, ⟨-, hm, -, hj, hfx⟩, ⟨r1, r2, -, r4, r5, -⟩, ⟨-, hb⟩, -⟩ := h
  have hz1 := hz.1
  exact ft_eq hN hn hb r1 r2 (fun k hk => ⟨(r4 k hk).2.1, (r4 k hk).2.2.1⟩) hj r5 h7 (by omega) (nm_chs hz) hw hp
/-- names by their numbers, in the class -/
theorem gA_n (h : EX b n P c m T ν t s) {w : Nat} (hw : w < m) : gA t (nI w) = t.2.1 4 0 2 w ∧ nA t (nI w) = t.2.1 4 0 1 w := by
  obtain ⟨-, -, -, ⟨em, -, hm, -⟩, -⟩ := h
  unfold gA nA
  rw [if_neg (nI_nn (by omega)), if_neg (nI_nn (by omega)), em, if_pos ((ltI (by omega) (by omega)).mpr hw), if_pos ((ltI (by omega) (by omega)).mpr hw), nI_clamp (by omega)]
  exact ⟨rfl, rfl⟩
theorem LA_SL {s2 : RS} {a : Nat} (h : LA b n P c m t s a) (e12 : s2.1 12 = s.1 12) (e13 : s2.1 13 = s.1 13) (e14 : s2.1 14 = s.1 14) (e15 : s2.1 15 = s.1 15) (e16 : s2.1 16 = s.1 16) : LA b n P c m t s2 a := by
  obtain ⟨h1, st, h2, h3, h4, h5, h6, h7⟩ := h
  refine ⟨h1, st, h2, h3, e13.trans h4, h5, ?_, h7⟩
  unfold LK at *
  rw [e12, e14, e15, e16]
  exact h6
/-- beginsV -/
theorem bv_eq (hN : 5000 < N) (h : EX b n P c m T ν t s) {a : Nat} (hl : LA b n P c m t s a) (h5 : s.1 5 = 0) : g_beginsV U S N s = some (bV t (nI a), s) := by
  obtain ⟨e1, e2, -, e4⟩ := LA_k h hl
  obtain ⟨-, hB, -, ⟨-, -, hm, -⟩, -⟩ := id h
  obtain ⟨ha, st0, -, -, -, htk, ⟨k1, -, k3, k4, k5⟩, -⟩ := id hl
  unfold g_beginsV g_beginsV_36 g_beginsV_78 g_beginsV_82 g_beginsV_83 bV
  rw [if_neg (not_not_intro h5), rZ0, rZ1, e1, e2]
  have st5 : s.1 12 = 5 → ∀ K : Int32, ¬ K = 1 → ¬ K = 2 → ¬ K = 3 → ¬ K = 46 → ¬ K = 45 → t.2.1 9 0 1 a = K → (if ¬ s.1 12 = 1 then (if s.1 12 = 2 then some ((1 : Int32), s) else if s.1 12 = 3 then some ((1 : Int32), s) else if ¬ s.1 12 = 4 then some ((0 : Int32), s) else if s.1 14 = 45 then some ((1 : Int32), s) else if ¬ s.1 14 = 46 then some ((0 : Int32), s) else some ((1 : Int32), s)) else (g_find U S N 13 (s.1 13) (s.1 15) s).bind fun q6 => if q6.1 = -1 then rZ 1 q6.2 else (if q6.2.1 12 = 2 then rZ 1 q6.2 else if q6.2.1 12 = 3 then rZ 1 q6.2 else if ¬ q6.2.1 12 = 4 then rZ 0 q6.2 else if q6.2.1 14 = 45 then rZ 1 q6.2 else if ¬ q6.2.1 14 = 46 then rZ 0 q6.2 else rZ 1 q6.2)) = some (if ¬ t.2.1 9 0 1 a = 1 then (if t.2.1 9 0 1 a = 2 then 1 else if t.2.1 9 0 1 a = 3 then 1 else if t.2.1 9 0 1 a = 46 then 1 else if ¬ t.2.1 9 0 1 a = 45 then 0 else 1) else (if ¬ sN (t.2.1 9 0 3 a) = 0 then 0 else 1), s) := by
    intro h12 K g1 g2 g3 g4 g5 eK
    rw [eK, h12, if_pos (show ¬ (5 : Int32) = 1 by decide), if_neg (show ¬ (5 : Int32) = 2 by decide), if_neg (show ¬ (5 : Int32) = 3 by decide), if_pos (show ¬ (5 : Int32) = 4 by decide), if_pos g1, if_neg g2, if_neg g3, if_neg g4, if_pos g5]
  rcases Tok_K hB htk with z | z | z | z | z | z | ⟨z, j, hj, ej⟩
  · exact st5 (k1 (Or.inl z)).1 0 (by decide) (by decide) (by decide) (by decide) (by decide) z
  · exact st5 (k1 (Or.inr z)).1 10 (by decide) (by decide) (by decide) (by decide) (by decide) z
  · obtain ⟨e12, st, zz, w, w1, w2, w3, w4, w5, w6, w7, w8, w9, w10⟩ := LA_n h hl z
    rw [e12, if_neg (not_not_intro rfl), w1, w2, fd13 hN h w4 w6 w7 w8 w9, Option.bind_some]
    dsimp only
    rw [e12, if_neg (show ¬ (1 : Int32) = 2 by decide), if_neg (show ¬ (1 : Int32) = 3 by decide), if_pos (show ¬ (1 : Int32) = 4 by decide), rZ0, rZ1]
    rcases w10 with ⟨y1, y2, -⟩ | ⟨y1, y2, -⟩
    · rw [if_neg (not_not_intro y1), y2, sN_n (by omega)]
      by_cases q : w < 5
      · rw [if_pos q, if_pos q, if_neg (nI_ne (by omega)), if_pos (by decide)]
      · rw [if_neg q, if_neg q, if_pos rfl, if_neg (fun z => z rfl)]
    · have g : t.2.1 9 0 1 a = 4 ∨ t.2.1 9 0 1 a = 5 := z.resolve_left y1
      rw [if_pos y1, y2, if_pos (show 4 < 5 by decide), if_neg (show ¬ nI 4 = -1 by decide)]
      rcases g with g | g <;> rw [g] <;> rfl
  · exact absurd (e1.trans z) e4
  · rw [(k3 z).1, z, if_pos (show ¬ (2 : Int32) = 1 by decide), if_pos rfl]
    rfl
  · rw [(k4 z).1, z, if_pos (show ¬ (3 : Int32) = 1 by decide), if_neg (show ¬ (3 : Int32) = 2 by decide), if_pos rfl]
    rfl
  · obtain ⟨q1, -, q3⟩ := k5 z
    have n1 : ¬ t.2.1 9 0 1 a = 1 := fun e => by rw [e] at z; exact sgn_n.2.1 z
    have n2 : ¬ t.2.1 9 0 1 a = 2 := fun e => by rw [e] at z; exact sgn_n.2.2.1 z
    have n3 : ¬ t.2.1 9 0 1 a = 3 := fun e => by rw [e] at z; exact sgn_n.2.2.2.1 z
    rw [q1, q3, if_pos (show ¬ (4 : Int32) = 1 by decide), if_neg (show ¬ (4 : Int32) = 2 by decide), if_neg (show ¬ (4 : Int32) = 3 by decide), if_neg (show ¬ ¬ (4 : Int32) = 4 from fun z => z rfl), if_pos n1, if_neg n2, if_neg n3]
    by_cases c45 : t.2.1 9 0 1 a = 45
    · rw [if_pos c45, c45]; rfl
    · rw [if_neg c45]
      by_cases c46 : t.2.1 9 0 1 a = 46
      · rw [if_neg (not_not_intro c46), if_pos c46]
      · rw [if_pos c46, if_neg c46, if_pos c45]
/-- named -/
theorem nd_eq (hN : 5000 < N) (h : EX b n P c m T ν t s) (hf : FZ s) (h5 : s.1 5 = 0) {st z w : Nat} (w1 : s.1 13 = nI st) (w2 : s.1 15 = nI (z - st)) (hz : rn (nmc b n) st z) (hzn : z ≤ n) (h7 : z - st ≤ 7) (hw : w < m) (hp : pkB b st (z - st) = t.2.2.1 w) (h5w : 5 ≤ w) {q : Int32} (hq : s.1 29 = q) : ∃ s2, g_named U S N s = some (nA t (nI w), s2) ∧ SL s s2 ∧ FZ s2 ∧ s2.1 30 = (if w < 53 then nI (w - 5) else -1) ∧ (∀ k, 12 ≤ k → k ≤ 16 → s2.1 k = s.1 k) ∧ (((¬ q = 0 ∨ ¬ t.1 0 0 6 = 0) ∧ gA t (nI w) = 0) → ¬ s2.1 5 = 0) ∧ (¬ ((¬ q = 0 ∨ ¬ t.1 0 0 6 = 0) ∧ gA t (nI w) = 0) → s2.1 5 = 0) := by
  obtain ⟨g1, g2⟩ := gA_n h hw
  obtain ⟨-, -, -, ⟨-, -, hm, -, hfx⟩, ⟨r1, r2, -, r4, r5, r6⟩, -, -, -, h9, -⟩ := id h
  unfold g_named
  rw [w1, w2, fd12 hN h hz hzn h7 hw hp, Option.bind_some, Option.bind_some]
  dsimp only
  by_cases c53 : w < 53
  · rw [show (if 5 ≤ w ∧ w < 53 then nI (w - 5) else -1) = nI (w - 5) from if_pos ⟨h5w, c53⟩, if_neg (nI_ne (show w - 5 < 2 ^ 31 by omega)), cd_fix (w - 5) (by omega), Option.bind_some]
    have e5 : 5 + (w - 5) = w := by omega
    rw [e5]
    refine ⟨pI s 30 (nI (w - 5)), by rw [g2, (hfx w c53).2.1], SL_I (SL_0 s) (by decide) _, hf, by rw [if_pos c53]; rfl, fun k k1 k2 => up1_n _ _ (by omega), fun z => ?_, fun _ => h5⟩
    exfalso
    have := z.2
    rw [g1, (hfx w c53).2.2] at this
    exact absurd this (by decide)
  · rw [show (if 5 ≤ w ∧ w < 53 then nI (w - 5) else -1) = -1 from if_neg (fun z => c53 z.2), if_pos (show (-1 : Int32) = -1 from rfl)]
    have sl : SL s (pI s 30 (-1)) := SL_I (SL_0 s) (by decide) _
    obtain ⟨f1, f2⟩ := fdT (U := U) (S := S) hN (EX_SL h sl) hz hzn h7 hw hp
    show ∃ s2, ((g_findTold U S N (s.1 13) (s.1 15) (pI s 30 (-1))).bind _) = _ ∧ _
    rw [w1, w2]
    by_cases ct : ∃ j, j < T ∧ ν j = w
    · obtain ⟨j, hj, ej⟩ := ct
      rw [f1 j hj ej, Option.bind_some]
      dsimp only
      rw [if_pos (nI_ne (show j < 2 ^ 31 by omega))]
      unfold g_named_75 g_named_90
      rw [if_pos (nI_ne (show j < 2 ^ 31 by omega)), rA_y (by decide) (by omega), Option.bind_some]
      obtain ⟨-, -, -, j4, j5⟩ := r4 j hj
      refine ⟨pI s 30 (-1), ?_, sl, hf, by rw [if_neg c53]; rfl, fun k k1 k2 => up1_n _ _ (by omega), fun z => ?_, fun _ => h5⟩
      · show some (s.2.1 19 j, _) = _
        rw [j4, ej, g2]
      · exfalso
        have := z.2
        rw [g1, ← ej] at this
        rcases j5 with ⟨y, -⟩ | ⟨y, -⟩ <;> rw [y] at this <;> exact absurd this (by decide)
    · have hno : ∀ j, j < T → ¬ ν j = w := fun j hj e => ct ⟨j, hj, e⟩
      obtain ⟨y1, y2⟩ := r6 w (by omega) hw hno
      rw [f2 hno, Option.bind_some]
      dsimp only
      rw [if_neg (not_not_intro rfl)]
      have g0 : gA t (nI w) = 0 := by rw [g1, y1]
      have n0 : nA t (nI w) = 0 := by rw [g2, y2]
      have e75 : ∀ s3, g_named_75 U S N (-1) s3 = some (0, s3) := by
        intro s3
        unfold g_named_75 g_named_90
        rw [if_neg (not_not_intro rfl)]
      have e66 : g_named_66 U S N (-1) (pI s 30 (-1)) = some (0, flt (pI s 30 (-1)) 3 (nI st)) := by
        unfold g_named_66
        show ((g_fails U S N 3 (s.1 13) (pI s 30 (-1))).bind _) = _
        rw [w1, g_fails_eq (s := pI s 30 (-1)) hf, Option.bind_some, e75]
      rw [e66, e75, n0, g0]
      show ∃ s2, (if ¬ s.1 29 = 0 then _ else if s.1 9 = 0 then _ else _) = _ ∧ _
      rw [hq, h9]
      have fault : ∃ s2, (some ((0 : Int32), flt (pI s 30 (-1)) 3 (nI st))) = some (0, s2) ∧ SL s s2 ∧ FZ s2 ∧ s2.1 30 = (if w < 53 then nI (w - 5) else -1) ∧ (∀ k, 12 ≤ k → k ≤ 16 → s2.1 k = s.1 k) ∧ ¬ s2.1 5 = 0 := by
        refine ⟨_, rfl, SL_t sl (flt_SL 3 (nI st)), flt_FZ (s := pI s 30 (-1)) hf (by decide), ?_, fun k k1 k2 => ?_, flt_ne (by decide)⟩
        · rw [flt_f (by decide) (by decide), if_neg c53]; rfl
        · rw [flt_f (by omega) (by omega)]; exact up1_n _ _ (by omega)
      by_cases cq : ¬ q = 0
      · rw [if_pos cq]
        obtain ⟨s2, a1, a2, a3, a4, a5, a6⟩ := fault
        exact ⟨s2, a1, a2, a3, a4, a5, fun _ => a6, fun z => absurd ⟨Or.inl cq, rfl⟩ z⟩
      · rw [if_neg cq]
        by_cases c6 : t.1 0 0 6 = 0
        · rw [if_pos c6]
          exact ⟨pI s 30 (-1), rfl, sl, hf, by rw [if_neg c53]; rfl, fun k k1 k2 => up1_n _ _ (by omega), fun z => absurd z.1 (fun y => y.elim cq (fun k => k c6)), fun _ => h5⟩
        · rw [if_neg c6]
          obtain ⟨s2, a1, a2, a3, a4, a5, a6⟩ := fault
          exact ⟨s2, a1, a2, a3, a4, a5, fun _ => a6, fun z => absurd ⟨Or.inr c6, rfl⟩ z⟩
end
