/-! LAYER 3, tokens: look tells what the token is -/
def LkR (b : Nat → Int32) (n : Nat) (s s2 : RS) (K : Int32) (st : Nat) (v o : Int32) (e : Nat) (d : Int32) : Prop := SL s s2 ∧ s2.1 4 = s.1 4 ∧ s2.1 30 = s.1 30 ∧ s2.1 13 = nI st ∧ FZ s2 ∧ (¬ s.1 5 = 0 → s2.1 5 = s.1 5) ∧ (s.1 5 = 0 → (bad K v o d → s2.1 5 = 1 ∧ s2.1 6 = nI st) ∧ (¬ bad K v o d → s2.1 5 = 0)) ∧ (¬ bad K v o d → LK b n s2 K st v o e d)
section
variable {U S N n m : Nat} {b : Nat → Int32} {s : RS} {L : Nat → Int64} {K v o d : Int32} {st e : Nat}
theorem LK_stop (h : K = 0 ∨ K = 10) (h1 : s.1 12 = 5) (h2 : s.1 16 = nI st) : LK b n s K st v o e d := by
  obtain ⟨n0, n1, n2, n3, n4, n5, n6, n10⟩ := sgn_n
  rcases h with rfl | rfl
  · exact ⟨fun _ => ⟨h1, h2⟩, fun z => absurd z (by decide), fun z => absurd z (by decide), fun z => absurd z (by decide), fun z => absurd z n0⟩
  · exact ⟨fun _ => ⟨h1, h2⟩, fun z => absurd z (by decide), fun z => absurd z (by decide), fun z => absurd z (by decide), fun z => absurd z n10⟩
theorem LK_nm (h : K = 1 ∨ K = 4 ∨ K = 5) {z : Nat} (hz : rn (nmc b n) st z) (h1 : s.1 12 = 1) (h2 : s.1 16 = nI z) (h3 : s.1 15 = nI (z - st)) : LK b n s K st v o e d := by
  obtain ⟨n0, n1, n2, n3, n4, n5, n6, n10⟩ := sgn_n
  rcases h with rfl | rfl | rfl
  · exact ⟨fun z => absurd z (by decide), fun _ => ⟨h1, z, hz, h2, h3⟩, fun z => absurd z (by decide), fun z => absurd z (by decide), fun z => absurd z n1⟩
  · exact ⟨fun z => absurd z (by decide), fun _ => ⟨h1, z, hz, h2, h3⟩, fun z => absurd z (by decide), fun z => absurd z (by decide), fun z => absurd z n4⟩
  · exact ⟨fun z => absurd z (by decide), fun _ => ⟨h1, z, hz, h2, h3⟩, fun z => absurd z (by decide), fun z => absurd z (by decide), fun z => absurd z n5⟩
theorem LK_num (h : K = 2) (h1 : s.1 12 = 2) (h2 : s.1 16 = nI e) (h3 : s.1 14 = (if d = 0 then v else o)) : LK b n s K st v o e d := by
  subst h
  exact ⟨fun z => absurd z (by decide), fun z => absurd z (by decide), fun _ => ⟨h1, h2, h3⟩, fun z => absurd z (by decide), fun z => absurd z sgn_n.2.2.1⟩
theorem LK_cd (h : K = 3) (h1 : s.1 12 = 3) (h2 : s.1 16 = nI e) (h3 : s.1 14 = v) : LK b n s K st v o e d := by
  subst h
  exact ⟨fun z => absurd z (by decide), fun z => absurd z (by decide), fun z => absurd z (by decide), fun _ => ⟨h1, h2, h3⟩, fun z => absurd z sgn_n.2.2.2.1⟩
theorem sgn_c {j : Nat} (hj : j < 256) (h : sgn (nI j)) : ¬ (nI j = 0 ∨ nI j = 10) ∧ ¬ (nI j = 1 ∨ nI j = 4 ∨ nI j = 5) ∧ ¬ nI j = 2 ∧ ¬ nI j = 3 ∧ ¬ nI j = 6 := by
  have := sgn_k hj h
  rcases this with h | h | h | h | h | h | h | h | h | h | h | h | h | h <;> subst h <;> decide
theorem LK_sg {j : Nat} (hj : j < 256) (hK : K = nI j) (h : sgn K) (h1 : s.1 12 = 4) (h2 : s.1 16 = nI e) (h3 : s.1 14 = K) : LK b n s K st v o e d := by
  subst hK
  obtain ⟨c1, c2, c3, c4, -⟩ := sgn_c hj h
  exact ⟨fun z => absurd z c1, fun z => absurd z c2, fun z => absurd z c3, fun z => absurd z c4, fun _ => ⟨h1, h2, h3⟩⟩
/-- a state that only the fields of a look tell from s, with no fault told -/
theorem lkr_ok {s2 : RS} (hf : FZ s) (h1 : SL s s2) (h4 : s2.1 4 = s.1 4) (h30 : s2.1 30 = s.1 30) (h13 : s2.1 13 = nI st) (h5 : s2.1 5 = s.1 5) (hnb : ¬ bad K v o d) (hl : LK b n s2 K st v o e d) : LkR b n s s2 K st v o e d := ⟨h1, h4, h30, h13, by unfold FZ; rw [h5]; exact hf, fun _ => h5, fun h0 => ⟨fun z => absurd z hnb, fun _ => h5.trans h0⟩, fun _ => hl⟩
theorem lkr_bad {s1 : RS} (x : Nat) (y : Int32) (hx : x = 14 ∨ x = 16) (hf : FZ s) (h1 : SL s s1) (h4 : s1.1 4 = s.1 4) (h30 : s1.1 30 = s.1 30) (h13 : s1.1 13 = nI st) (h5 : s1.1 5 = s.1 5) (hb : bad K v o d) : LkR b n s (pI (flt s1 1 (nI st)) x y) K st v o e d := by
  have hf1 : FZ s1 := by unfold FZ; rw [h5]; exact hf
  have ne : ∀ j, j ≠ x → (pI (flt s1 1 (nI st)) x y).1 j = (flt s1 1 (nI st)).1 j := fun j hj => up1_n _ _ hj
  refine ⟨SL_I (SL_t h1 (flt_SL 1 (nI st))) (by rcases hx with rfl | rfl <;> decide) y, ?_, ?_, ?_, ?_, ?_, ?_, fun z => absurd hb z⟩
  · rw [ne 4 (by omega), flt_f (by decide) (by decide)]; exact h4
  · rw [ne 30 (by omega), flt_f (by decide) (by decide)]; exact h30
  · rw [ne 13 (by omega), flt_f (by decide) (by decide)]; exact h13
  · unfold FZ
    rw [ne 5 (by omega)]
    exact flt_FZ hf1 (by decide)
  · intro h
    rw [ne 5 (by omega), flt_k (by rw [h5]; exact h)]
    exact h5
  · intro h
    rw [ne 5 (by omega), ne 6 (by omega)]
    exact ⟨fun _ => flt_5 (h5.trans h), fun z => absurd hb z⟩
theorem g30 (hn : n ≤ 2000) (h3 : s.1 3 = nI n) (hb : ∀ i, i < n → s.2.1 2 i = b i) {q : Nat} (hq : q < n) (h10 : ¬ b q = 10) (h47 : ¬ b q = 47) : g_look_30 U S N (nI q) s = (if ltr (b q) then l_look_124 U S N N (nI q) (nI (q + 1)) (pI s 13 (nI q)) else if dgt (b q) then l_look_189 U S N N (nI q) (nI (q + 1)) (pI s 13 (nI q)) else if ¬ b q = 34 then (if sgn (b q) then g_look_304 U S N (nI (q + 1)) (pI (pI (pI s 13 (nI q)) 12 4) 14 (b q)) else (g_fails U S N 1 (nI q) (pI (pI (pI s 13 (nI q)) 12 4) 14 (b q))).bind fun q14 => g_look_304 U S N (nI (q + 1)) q14.2) else (if pln (if q + 1 < n then b (q + 1) else 10) ∧ q + 1 < n then g_look_260 U S N (nI (q + 1)) (pI (pI s 13 (nI q)) 12 3) else g_look_254 U S N (nI q) (nI (q + 1)) (pI (pI s 13 (nI q)) 12 3))) := by
  unfold g_look_30
  rw [Option.bind_some]
  show (if s.1 3 ≤ nI q then _ else (rA 2000 (pI s 13 (nI q)) 2 (nI q)).bind _) = _
  rw [h3, if_neg (fun z => by have := (leI (by omega) (by omega)).mp z; omega), rA_y (by decide) (by omega), Option.bind_some]
  show (if s.2.1 2 q = 10 then _ else _) = _
  rw [hb q hq, if_neg h10, Option.bind_some]
  show (if ¬ s.2.1 2 q = 47 then _ else _) = _
  rw [hb q hq, if_pos h47, Option.bind_some]
  show ((g_isLetter U S N (s.2.1 2 q) (pI s 13 (nI q))).bind _) = _
  rw [hb q hq, g_ltr, Option.bind_some, nI_1]
  show (if (if ltr (b q) then (1 : Int32) else 0) = 0 then _ else _) = _
  by_cases c1 : ltr (b q)
  · rw [if_pos c1, if_neg (by decide), if_pos c1]
  · rw [if_neg c1, if_pos rfl, if_neg c1]
    show ((g_isDigit U S N (s.2.1 2 q) (pI s 13 (nI q))).bind _) = _
    rw [hb q hq, g_dgt, Option.bind_some]
    show (if (if dgt (b q) then (1 : Int32) else 0) = 0 then _ else _) = _
    by_cases c2 : dgt (b q)
    · rw [if_pos c2, if_neg (by decide), if_pos c2]
    · rw [if_neg c2, if_pos rfl, if_neg c2]
      show (if ¬ s.2.1 2 q = 34 then _ else _) = _
      rw [hb q hq]
      by_cases c3 : b q = 34
      · rw [if_neg (not_not_intro c3), if_neg (not_not_intro c3), Option.bind_some]
        show ((g_at U S N (nI (q + 1)) (pI (pI s 13 (nI q)) 12 3)).bind _) = _
        rw [g_at_eq (s := pI (pI s 13 (nI q)) 12 3) hn h3 hb (by omega), Option.bind_some]
        show ((g_in U S N (if q + 1 < n then b (q + 1) else 10) 32 126 (pI (pI s 13 (nI q)) 12 3)).bind _) = _
        rw [g_pln, Option.bind_some]
        generalize (if q + 1 < n then b (q + 1) else 10) = x
        show (if (if pln x then (1 : Int32) else 0) = 0 then _ else _) = _
        by_cases c4 : pln x
        · rw [if_pos c4, if_neg (by decide)]
          show (if nI (q + 1) < s.1 3 then _ else _) = _
          rw [h3]
          by_cases c5 : q + 1 < n
          · rw [if_pos ((ltI (by omega) (by omega)).mpr c5), if_pos ⟨c4, c5⟩]
          · rw [if_neg (fun z => c5 ((ltI (by omega) (by omega)).mp z)), if_neg (fun z => c5 z.2)]
        · rw [if_neg c4, if_pos rfl, if_neg (fun z => c4 z.1)]
      · rw [if_pos c3, if_pos c3, Option.bind_some, Option.bind_some]
        show ((sIx1 11 (s.2.1 2 q)).bind _) = _
        rw [hb q hq, show sIx1 11 (b q) = some (six 1 (b q) 0) from rfl, Option.bind_some]
        show (if sgn (b q) then g_look_304 U S N (nI (q + 1)) (pI (pI (pI s 13 (nI q)) 12 4) 14 (s.2.1 2 q)) else (g_fails U S N 1 (nI q) (pI (pI (pI s 13 (nI q)) 12 4) 14 (s.2.1 2 q))).bind fun q14 => g_look_304 U S N (nI (q + 1)) q14.2) = _
        rw [hb q hq]
theorem g_look_eq (hN : 5000 < N) (hn : n ≤ 2000) (h3 : s.1 3 = nI n) (hb : ∀ i, i < n → s.2.1 2 i = b i) (hB : ∀ i, i < n → ∃ j, j < 256 ∧ b i = nI j) (hf : FZ s) {p : Nat} (hp : p ≤ 2001) (h4 : s.1 4 = nI p) (h10 : s.1 10 = if d = 0 then 8 else 10) (hts : TS b n p st) (htk : Tok b n L m K st v o e) : ∃ s2, g_look U S N s = some ((), s2) ∧ LkR b n s s2 K st v o e d := by
  obtain ⟨q, hq, hst⟩ := hts
  have hq2 := rn_le (fun i => blk_n (b := b) (n := n) (i := i)) hq
  have e0 : g_look U S N s = g_look_30 U S N (nI q) s := by
    show l_look_5 U S N N (s.1 4) s = _
    rw [h4]
    exact ff_blk hn h3 hb N p (by omega) hq (by omega)
  rw [e0]
  clear e0
  have sl13 : SL s (pI s 13 (nI q)) := SL_I (SL_0 s) (by decide) _
  -- the end of a line or of the text
  have stop : rn (lin b n) q st → (n ≤ q ∨ b q = 10 ∨ b q = 47) → ∃ s2, g_look_30 U S N (nI q) s = some ((), s2) ∧ LkR b n s s2 K st v o e d := by
    intro hl hc
    have hl2 := rn_le (fun i => lin_n (b := b) (n := n) (i := i)) hl
    have e65 : g_look_30 U S N (nI q) s = some ((), pI (pI (pI (pI s 13 (nI q)) 13 (nI st)) 12 5) 16 (nI st)) := by
      have e1 : l_look_65 U S N N (nI q) (pI s 13 (nI q)) = some ((), pI (pI (pI (pI s 13 (nI q)) 13 (nI st)) 12 5) 16 (nI st)) := by
        rw [ff_lin (s := pI s 13 (nI q)) hn h3 hb N q (by omega) hl (by omega)]
        rfl
      unfold g_look_30
      rw [Option.bind_some]
      show (if s.1 3 ≤ nI q then _ else (rA 2000 (pI s 13 (nI q)) 2 (nI q)).bind _) = _
      rw [h3]
      by_cases c : n ≤ q
      · rw [if_pos ((leI (by omega) (by omega)).mpr c)]
        exact e1
      · rw [if_neg (fun z => c ((leI (by omega) (by omega)).mp z)), rA_y (by decide) (by omega), Option.bind_some]
        show (if s.2.1 2 q = 10 then _ else _) = _
        rw [hb q (by omega)]
        by_cases c10 : b q = 10
        · rw [if_pos c10]
          exact e1
        · rw [if_neg c10, Option.bind_some]
          show (if ¬ s.2.1 2 q = 47 then _ else _) = _
          rw [hb q (by omega), if_neg (not_not_intro ((hc.resolve_left c).resolve_left c10))]
          exact e1
    refine ⟨_, e65, ?_⟩
    have hK : K = 0 ∨ K = 10 := by
      have hend : n ≤ st ∨ b st = 10 := by
        by_cases c : st < n
        · refine Or.inr (Decidable.byContradiction (fun z => hl.2.2 ⟨c, z⟩))
        · exact Or.inl (by omega)
      rcases htk with ⟨-, h⟩ | ⟨-, -, h, -⟩ | ⟨c, h, -⟩ | ⟨c, -, h, -⟩ | ⟨c, h, -⟩ | ⟨c, -, -, -, h, -⟩
      · exact Or.inl h
      · exact Or.inr h
      · rcases hend with g | g
        · omega
        · rw [g] at h; exact absurd h ltr_10.1
      · rcases hend with g | g
        · omega
        · rw [g] at h; exact absurd h ltr_10.2.2.2.2.1
      · rcases hend with g | g
        · omega
        · rw [g] at h; exact absurd h (by decide)
      · rcases hend with g | g
        · omega
        · exact absurd g h
    refine lkr_ok hf (SL_I (SL_I (SL_I sl13 (by decide) _) (by decide) _) (by decide) _) rfl rfl rfl rfl ?_ (LK_stop hK rfl rfl)
    rintro (z | ⟨z, -⟩)
    · rcases hK with g | g <;> rw [g] at z <;> exact absurd z (by decide)
    · rcases hK with g | g <;> rw [g] at z <;> exact absurd z (by decide)
  rcases hst with ⟨c1, c2, c3⟩ | ⟨c1, rfl⟩
  · exact stop c3 (Or.inr (Or.inr c2))
  · by_cases hlt : st < n
    · by_cases c10 : b st = 10
      · exact stop ⟨Nat.le_refl _, fun i h1 h2 => by omega, fun z => z.2 c10⟩ (Or.inr (Or.inl c10))
      · have c47 : ¬ b st = 47 := fun z => c1 ⟨hlt, z⟩
        rw [g30 hn h3 hb hlt c10 c47]
        rcases htk with ⟨c, h⟩ | ⟨-, c, h, -⟩ | ⟨c, h, z, hz, hk⟩ | ⟨c, hl, h, z, hz, hk⟩ | ⟨c, h, hk⟩ | ⟨c, hl, hd, h34, -, -, hk⟩
        · omega
        · exact absurd c c10
        · rw [if_pos h, ff_nm (s := pI s 13 (nI st)) hn h3 hb hf hlt N (st + 1) (by omega) (by omega) (rn_s hz ⟨hlt, Or.inl h⟩) (by have := rn_le (fun i => nmc_n (b := b) (n := n) (i := i)) hz; omega)]
          refine ⟨_, rfl, ?_⟩
          rcases hk with ⟨h7, hK⟩ | ⟨h7, ν, -, -, hk⟩
          · rw [if_neg (by omega)]
            exact lkr_bad (s1 := pI (pI (pI s 13 (nI st)) 12 1) 15 (nI (z - st))) 16 _ (Or.inr rfl) hf (SL_I (SL_I sl13 (by decide) _) (by decide) _) rfl rfl rfl rfl (Or.inl hK)
          · rw [if_pos h7]
            have hK : K = 1 ∨ K = 4 ∨ K = 5 := by
              rcases hk with ⟨h, -⟩ | ⟨-, -, -, ⟨h, -⟩ | ⟨h, -⟩⟩
              · exact Or.inl h
              · exact Or.inr (Or.inr h)
              · exact Or.inr (Or.inl h)
            refine lkr_ok hf (SL_I (SL_I (SL_I sl13 (by decide) _) (by decide) _) (by decide) _) rfl rfl rfl rfl ?_ (LK_nm hK hz rfl rfl rfl)
            rintro (z | ⟨z, -⟩)
            · rcases hK with g | g | g <;> rw [g] at z <;> exact absurd z (by decide)
            · rcases hK with g | g | g <;> rw [g] at z <;> exact absurd z (by decide)
        · have hz2 := rn_le (fun i => dgc_n (b := b) (n := n) (i := i)) hz
          have hz3 := hz.1
          rw [if_neg hl, if_pos h, ff_dg (s := pI s 13 (nI st)) hn h3 hb N (st + 1) (by omega) (rn_s hz ⟨hlt, h⟩) (by omega)]
          have hzn : z ≤ n := by omega
          have hdd : ∀ i, st ≤ i → i < z → dgt (b i) := fun i h1 h2 => (hz.2.1 i h1 h2).2
          have mn : ∀ r, (r = 8 ∨ r = 10) → s.1 10 = nI r → (z - st ≤ 4 ∧ gdr r b st (z - st) ∧ nvl r b st (z - st) ≤ 4095 → ∃ s2, ((g_number U S N (nI st) (nI z) (pI (pI s 13 (nI st)) 12 2)).bind fun q5 => some ((), pI q5.2 16 (nI z))) = some ((), s2) ∧ s2 = pI (pI (pI (pI s 13 (nI st)) 12 2) 14 (nI (nvl r b st (z - st)))) 16 (nI z)) ∧ (¬ (z - st ≤ 4 ∧ gdr r b st (z - st) ∧ nvl r b st (z - st) ≤ 4095) → ∃ s2 x, ((g_number U S N (nI st) (nI z) (pI (pI s 13 (nI st)) 12 2)).bind fun q5 => some ((), pI q5.2 16 (nI z))) = some ((), s2) ∧ s2 = pI (flt (pI (pI (pI s 13 (nI st)) 12 2) 14 x) 1 (nI st)) 16 (nI z)) := by
            intro r hr h10r
            obtain ⟨i1, i2⟩ := g_num_eq (U := U) (S := S) (s := pI (pI s 13 (nI st)) 12 2) hN hn hb hf hr h10r hz3 hzn hdd
            constructor
            · intro g
              rw [i1 g]
              exact ⟨_, rfl, rfl⟩
            · intro g
              obtain ⟨x, hx⟩ := i2 g
              rw [hx]
              exact ⟨_, x, rfl, rfl⟩
          have isbad : bad K v o d → (∃ s2 x, ((g_number U S N (nI st) (nI z) (pI (pI s 13 (nI st)) 12 2)).bind fun q5 => some ((), pI q5.2 16 (nI z))) = some ((), s2) ∧ s2 = pI (flt (pI (pI (pI s 13 (nI st)) 12 2) 14 x) 1 (nI st)) 16 (nI z)) → ∃ s2, ((g_number U S N (nI st) (nI z) (pI (pI s 13 (nI st)) 12 2)).bind fun q5 => some ((), pI q5.2 16 (nI z))) = some ((), s2) ∧ LkR b n s s2 K st v o e d := by
            rintro hb2 ⟨s2, x, h1, rfl⟩
            exact ⟨_, h1, lkr_bad (s1 := pI (pI (pI s 13 (nI st)) 12 2) 14 x) 16 _ (Or.inr rfl) hf (SL_I (SL_I sl13 (by decide) _) (by decide) _) rfl rfl rfl rfl hb2⟩
          have isgood : ∀ V : Nat, K = 2 → e = z → ¬ bad K v o d → (if d = 0 then v else o) = nI V → (∃ s2, ((g_number U S N (nI st) (nI z) (pI (pI s 13 (nI st)) 12 2)).bind fun q5 => some ((), pI q5.2 16 (nI z))) = some ((), s2) ∧ s2 = pI (pI (pI (pI s 13 (nI st)) 12 2) 14 (nI V)) 16 (nI z)) → ∃ s2, ((g_number U S N (nI st) (nI z) (pI (pI s 13 (nI st)) 12 2)).bind fun q5 => some ((), pI q5.2 16 (nI z))) = some ((), s2) ∧ LkR b n s s2 K st v o e d := by
            rintro V hK he hb2 hv ⟨s2, h1, rfl⟩
            exact ⟨_, h1, lkr_ok hf (SL_I (SL_I (SL_I sl13 (by decide) _) (by decide) _) (by decide) _) rfl rfl rfl rfl hb2 (LK_num hK rfl (by rw [he]; rfl) (by rw [hv]; rfl))⟩
          by_cases d0 : d = 0
          · rw [if_pos d0] at h10 isgood
            obtain ⟨m1, m2⟩ := mn 8 (Or.inl rfl) h10
            rcases hk with ⟨h4, hK⟩ | ⟨h4, hK, he, hv, -⟩
            · exact isbad (Or.inl hK) (m2 (fun q => by omega))
            · rcases hv with ⟨g, hv⟩ | ⟨g, hv⟩
              · have hlt8 : nvl 8 b st (z - st) ≤ 4095 := by
                  have h1 := nvl_lt _ g
                  have h2 : 8 ^ (z - st) ≤ 8 ^ 4 := Nat.pow_le_pow_right (by decide) h4
                  omega
                refine isgood _ hK he ?_ hv (m1 ⟨h4, g, hlt8⟩)
                rintro (q | ⟨-, q⟩)
                · rw [hK] at q; exact absurd q (by decide)
                · rw [if_pos d0, hv] at q; exact nI_ne (by omega) q
              · exact isbad (Or.inr ⟨hK, by rw [if_pos d0]; exact hv⟩) (m2 (fun q => g q.2.1))
          · rw [if_neg d0] at h10 isgood
            obtain ⟨m1, m2⟩ := mn 10 (Or.inr rfl) h10
            rcases hk with ⟨h4, hK⟩ | ⟨h4, hK, he, -, ho⟩
            · exact isbad (Or.inl hK) (m2 (fun q => by omega))
            · rcases ho with ⟨g, ho⟩ | ⟨g, ho⟩
              · refine isgood _ hK he ?_ ho (m1 ⟨h4, fun i hi => (dgt_v (hdd (st + i) (by omega) (by omega))).2, g⟩)
                rintro (q | ⟨-, q⟩)
                · rw [hK] at q; exact absurd q (by decide)
                · rw [if_neg d0, ho] at q; exact nI_ne (by omega) q
              · exact isbad (Or.inr ⟨hK, by rw [if_neg d0]; exact ho⟩) (m2 (fun q => by omega))
        · rw [if_neg (by rw [h]; decide), if_neg (by rw [h]; decide), if_neg (not_not_intro h)]
          rcases hk with ⟨hK, hp⟩ | ⟨hK, h1, h2, hv, he⟩
          · rw [if_neg (fun z => hp ⟨z.2, by have := z.1; rw [if_pos z.2] at this; exact this⟩)]
            unfold g_look_254 g_look_260 g_look_304
            rw [g_fails_eq (s := pI (pI s 13 (nI st)) 12 3) hf, Option.bind_some]
            show ∃ s2, ((g_at U S N (nI (st + 1)) (flt (pI (pI s 13 (nI st)) 12 3) 1 (nI st))).bind _) = _ ∧ _
            have hsl := flt_SL (s := pI (pI s 13 (nI st)) 12 3) 1 (nI st)
            rw [g_at_eq (n := n) (b := b) hn (by rw [hsl.1 3 (by decide)]; exact h3) (by rw [hsl.2]; exact hb) (by omega), Option.bind_some, Option.bind_some, Option.bind_some]
            refine ⟨_, rfl, ?_⟩
            obtain ⟨a1, a2, a3, a4, a5, a6, a7, a8⟩ := lkr_bad (b := b) (n := n) (e := e) (s1 := pI (pI s 13 (nI st)) 12 3) 14 ((if st + 1 < n then b (st + 1) else 10) ||| 128) (Or.inl rfl) hf (SL_I sl13 (by decide) _) rfl rfl rfl rfl (show bad K v o d from Or.inl hK)
            exact ⟨SL_I a1 (by decide) _, a2, a3, a4, a5, a6, a7, fun z => absurd (Or.inl hK) z⟩
          · rw [if_pos ⟨by rw [if_pos h1]; exact h2, h1⟩]
            unfold g_look_260 g_look_304
            rw [g_at_eq (s := pI (pI s 13 (nI st)) 12 3) hn h3 hb (by omega), Option.bind_some, Option.bind_some, Option.bind_some, if_pos h1]
            refine ⟨_, rfl, lkr_ok hf (SL_I (SL_I (SL_I sl13 (by decide) _) (by decide) _) (by decide) _) rfl rfl rfl rfl ?_ (LK_cd hK rfl (by rw [he, nI_1]; rfl) (by rw [hv]; rfl))⟩
            rintro (z | ⟨z, -⟩)
            · rw [hK] at z; exact absurd z (by decide)
            · rw [hK] at z; exact absurd z (by decide)
        · rw [if_neg hl, if_neg hd, if_pos h34]
          rcases hk with ⟨hK, hs, he⟩ | ⟨hK, hs⟩
          · rw [if_pos hs]
            obtain ⟨j, hj, ej⟩ := hB st hlt
            refine ⟨_, rfl, lkr_ok hf (SL_I (SL_I (SL_I sl13 (by decide) _) (by decide) _) (by decide) _) rfl rfl rfl rfl ?_ (LK_sg hj (hK.trans ej) (by rw [hK]; exact hs) rfl (by rw [he]; rfl) (by rw [hK]; rfl))⟩
            rw [ej] at hK hs
            obtain ⟨-, -, c3, -, c5⟩ := sgn_c hj hs
            rintro (z | ⟨z, -⟩)
            · rw [hK] at z; exact c5 z
            · rw [hK] at z; exact c3 z
          · rw [if_neg hs, g_fails_eq (s := pI (pI (pI s 13 (nI st)) 12 4) 14 (b st)) hf]
            refine ⟨_, rfl, ?_⟩
            exact lkr_bad (s1 := pI (pI (pI s 13 (nI st)) 12 4) 14 (b st)) 16 _ (Or.inr rfl) hf (SL_I (SL_I sl13 (by decide) _) (by decide) _) rfl rfl rfl rfl (Or.inl hK)
    · exact stop ⟨Nat.le_refl _, fun i h1 h2 => by omega, fun z => hlt z.1⟩ (Or.inl (by omega))
end
