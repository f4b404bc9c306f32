/-! LAYER 3, tokens: the reference's look, in full -/
def FZ (s : RS) : Prop := s.1 5 = 0 ∨ 0 < s.1 5
def flt (s : RS) (k w : Int32) : RS := if s.1 5 = 0 then pI (pI s 5 k) 6 w else s
theorem up1_u {α : Type} (f : Nat → α) (k : Nat) (x y : α) : up1 (up1 f k x) k y = up1 f k y := by
  funext j
  unfold up1
  by_cases e : j = k
  · rw [if_pos e, if_pos e]
  · rw [if_neg e, if_neg e, if_neg e]
theorem leL {x c : Nat} {k : Int32} (hk : k = nI c) (hx : x < 2 ^ 31) (hc : c < 2 ^ 31) : nI x ≤ k ↔ x ≤ c := by rw [hk]; exact leI hx hc
theorem Lle {x c : Nat} {k : Int32} (hk : k = nI c) (hx : x < 2 ^ 31) (hc : c < 2 ^ 31) : k ≤ nI x ↔ c ≤ x := by rw [hk]; exact leI hc hx
theorem ltL {x c : Nat} {k : Int32} (hk : k = nI c) (hx : x < 2 ^ 31) (hc : c < 2 ^ 31) : nI x < k ↔ x < c := by rw [hk]; exact ltI hx hc
theorem Llt {x c : Nat} {k : Int32} (hk : k = nI c) (hx : x < 2 ^ 31) (hc : c < 2 ^ 31) : k < nI x ↔ c < x := by rw [hk]; exact ltI hc hx
theorem eqL {x c : Nat} {k : Int32} (hk : k = nI c) (hx : x < 2 ^ 31) (hc : c < 2 ^ 31) : nI x = k ↔ x = c := by rw [hk]; exact eqI hx hc
theorem lt0_ne {x : Int32} (h : 0 < x) : ¬ x = 0 := by
  rintro rfl
  exact absurd h (by decide)
theorem fz_le {s : RS} (h : FZ s) : s.1 5 ≤ 0 ↔ s.1 5 = 0 := by
  rcases h with h | h
  · rw [h]; decide
  · constructor
    · intro z
      rw [Int32.le_iff_toInt_le] at z
      rw [Int32.lt_iff_toInt_lt] at h
      omega
    · intro z
      rw [z] at h
      exact absurd h (by decide)
section
variable {U S N n : Nat} {b : Nat → Int32} {s : RS}
theorem g_fails_eq (h : FZ s) (k w : Int32) : g_fails U S N k w s = some ((), flt s k w) := by
  unfold g_fails flt
  by_cases c : s.1 5 = 0
  · rw [if_pos ((fz_le h).mpr c), if_pos c]; rfl
  · rw [if_neg (fun z => c ((fz_le h).mp z)), if_neg c]
theorem flt_FZ (h : FZ s) {k w : Int32} (hk : 0 < k) : FZ (flt s k w) := by
  unfold flt
  by_cases c : s.1 5 = 0
  · rw [if_pos c]; exact Or.inr hk
  · rw [if_neg c]; exact h
theorem flt_SL (k w : Int32) : SL s (flt s k w) := by
  unfold flt
  by_cases c : s.1 5 = 0
  · rw [if_pos c]; exact SL_I (SL_I (SL_0 s) (by decide) k) (by decide) w
  · rw [if_neg c]; exact SL_0 s
theorem flt_f {j : Nat} (h5 : j ≠ 5) (h6 : j ≠ 6) (k w : Int32) : (flt s k w).1 j = s.1 j := by
  unfold flt
  by_cases c : s.1 5 = 0
  · rw [if_pos c]
    show up1 (up1 s.1 5 k) 6 w j = _
    rw [up1_n _ _ h6, up1_n _ _ h5]
  · rw [if_neg c]
theorem flt_5 {k w : Int32} (h : s.1 5 = 0) : (flt s k w).1 5 = k ∧ (flt s k w).1 6 = w := by
  unfold flt
  rw [if_pos h]
  exact ⟨rfl, rfl⟩
theorem flt_k {k w : Int32} (h : ¬ s.1 5 = 0) : flt s k w = s := by
  unfold flt
  rw [if_neg h]
theorem flt_ne {k w : Int32} (hk : 0 < k) : ¬ (flt s k w).1 5 = 0 := by
  by_cases c : s.1 5 = 0
  · rw [(flt_5 c).1]; exact lt0_ne hk
  · rw [flt_k c]; exact c
theorem dgt_v {c : Int32} (h : dgt c) : c = nI (48 + (c.toNatClampNeg - 48)) ∧ c.toNatClampNeg - 48 < 10 := by
  obtain ⟨h1, h2⟩ := h
  have h0 : ¬ c < 0 := fun z => h1 (by
    rw [Int32.lt_iff_toInt_lt] at z ⊢
    have e1 : (0 : Int32).toInt = 0 := rfl
    have e2 : (48 : Int32).toInt = 48 := rfl
    omega)
  obtain ⟨j, hj, rfl⟩ := nI_of h0
  have g1 : ¬ j < 48 := fun z => h1 ((ltI (b := 48) hj (by decide)).mpr z)
  have g2 : ¬ 57 < j := fun z => h2 ((ltI (a := 57) (by decide) hj).mpr z)
  rw [nI_clamp (by omega)]
  exact ⟨by congr 1; omega, by omega⟩
theorem ltr_v {c : Int32} (h : ltr c) : ∃ j, 65 ≤ j ∧ j ≤ 90 ∧ c = nI j := by
  obtain ⟨h1, h2⟩ := h
  have h0 : ¬ c < 0 := fun z => h1 (by
    rw [Int32.lt_iff_toInt_lt] at z ⊢
    have e1 : (0 : Int32).toInt = 0 := rfl
    have e2 : (65 : Int32).toInt = 65 := rfl
    omega)
  obtain ⟨j, hj, rfl⟩ := nI_of h0
  have g1 : ¬ j < 65 := fun z => h1 ((ltI (b := 65) hj (by decide)).mpr z)
  have g2 : ¬ 90 < j := fun z => h2 ((ltI (a := 90) (by decide) hj).mpr z)
  exact ⟨j, by omega, by omega, rfl⟩
theorem ltr_10 : ¬ ltr 10 ∧ ¬ ltr 47 ∧ ¬ ltr 32 ∧ ¬ ltr 34 ∧ ¬ dgt 10 ∧ ¬ dgt 47 ∧ ¬ dgt 34 := by decide
theorem ff_nm (hn : n ≤ 2000) (h3 : s.1 3 = nI n) (hb : ∀ i, i < n → s.2.1 2 i = b i) (hf : FZ s) {st z : Nat} (hst : st < n) : ∀ (m x : Nat), st ≤ x → x ≤ 2001 → rn (nmc b n) x z → z < x + m → l_look_124 U S N m (nI st) (nI x) s = some ((), if z - st ≤ 7 then pI (pI (pI s 12 1) 15 (nI (z - st))) 16 (nI z) else pI (flt (pI (pI s 12 1) 15 (nI (z - st))) 1 (nI st)) 16 (nI z)) := by
  intro m
  induction m with
  | zero => intro x _ _ h h2; have := h.1; omega
  | succ m ih =>
    intro x h0 hx h h2
    show h_look_124 U S N (l_look_124 U S N m) (nI st) (nI x) s = _
    unfold h_look_124 g_look_146
    rw [g_at_eq hn h3 hb (by omega), Option.bind_some]
    show ((g_isLetter U S N (if x < n then b x else 10) s).bind _) = _
    rw [g_ltr, Option.bind_some]
    show (if ¬ (if ltr (if x < n then b x else 10) then (1 : Int32) else 0) = 0 then _ else _) = _
    by_cases c : x < n
    · rw [if_pos c]
      by_cases d : ltr (b x)
      · rw [if_pos d, if_pos (by decide), nI_1]
        exact ih (x + 1) (by omega) (by omega) (rn_s h ⟨c, Or.inl d⟩) (by omega)
      · rw [if_neg d, if_neg (by decide)]
        show ((g_at U S N (nI x) s).bind _) = _
        rw [g_at_eq hn h3 hb (by omega), Option.bind_some]
        show ((g_isDigit U S N (if x < n then b x else 10) s).bind _) = _
        rw [g_dgt, Option.bind_some, if_pos c]
        show (if (if dgt (b x) then (1 : Int32) else 0) = 0 then _ else _) = _
        by_cases g : dgt (b x)
        · rw [if_pos g, if_neg (by decide), nI_1]
          exact ih (x + 1) (by omega) (by omega) (rn_s h ⟨c, Or.inr g⟩) (by omega)
        · rw [if_neg g, if_pos rfl, Option.bind_some, Option.bind_some]
          have ez : z = x := rn_0 h (fun k => k.2.elim d g)
          rw [ez, sub_nI h0]
          show (if nI (x - st) ≤ (7 : Int32) then _ else _) = _
          by_cases k : x - st ≤ 7
          · rw [if_pos ((leL (k := 7) (c := 7) rfl (by omega) (by decide)).mpr k), if_pos k]
            rfl
          · rw [if_neg (fun q => k ((leL (k := 7) (c := 7) rfl (by omega) (by decide)).mp q)), if_neg k, g_fails_eq (s := pI (pI s 12 1) 15 (nI (x - st))) hf]
            rfl
    · rw [if_neg c, if_neg ltr_10.1, if_neg (by decide)]
      show ((g_at U S N (nI x) s).bind _) = _
      rw [g_at_eq hn h3 hb (by omega), Option.bind_some]
      show ((g_isDigit U S N (if x < n then b x else 10) s).bind _) = _
      rw [g_dgt, Option.bind_some, if_neg c]
      show (if (if dgt 10 then (1 : Int32) else 0) = 0 then _ else _) = _
      rw [if_neg ltr_10.2.2.2.2.1, if_pos rfl, Option.bind_some, Option.bind_some]
      have ez : z = x := rn_0 h (fun k => c k.1)
      rw [ez, sub_nI h0]
      show (if nI (x - st) ≤ (7 : Int32) then _ else _) = _
      by_cases k : x - st ≤ 7
      · rw [if_pos ((leL (k := 7) (c := 7) rfl (by omega) (by decide)).mpr k), if_pos k]
        rfl
      · rw [if_neg (fun q => k ((leL (k := 7) (c := 7) rfl (by omega) (by decide)).mp q)), if_neg k, g_fails_eq (s := pI (pI s 12 1) 15 (nI (x - st))) hf]
        rfl
theorem ff_dg (hn : n ≤ 2000) (h3 : s.1 3 = nI n) (hb : ∀ i, i < n → s.2.1 2 i = b i) {st z : Nat} : ∀ (m x : Nat), x ≤ 2001 → rn (dgc b n) x z → z < x + m → l_look_189 U S N m (nI st) (nI x) s = ((g_number U S N (nI st) (nI z) (pI s 12 2)).bind fun q5 => some ((), pI q5.2 16 (nI z))) := by
  intro m
  induction m with
  | zero => intro x _ h h2; have := h.1; omega
  | succ m ih =>
    intro x hx h h2
    show h_look_189 U S N (l_look_189 U S N m) (nI st) (nI x) s = _
    unfold h_look_189
    rw [g_at_eq hn h3 hb (by omega), Option.bind_some]
    show ((g_isDigit U S N (if x < n then b x else 10) s).bind _) = _
    rw [g_dgt, Option.bind_some]
    show (if (if dgt (if x < n then b x else 10) then (1 : Int32) else 0) = 0 then _ else _) = _
    by_cases c : x < n
    · rw [if_pos c]
      by_cases d : dgt (b x)
      · rw [if_pos d, if_neg (by decide), nI_1]
        exact ih (x + 1) (by omega) (rn_s h ⟨c, d⟩) (by omega)
      · rw [if_neg d, if_pos rfl, Option.bind_some, rn_0 h (fun k => d k.2)]
        rfl
    · rw [if_neg c, if_neg ltr_10.2.2.2.2.1, if_pos rfl, Option.bind_some, rn_0 h (fun k => c k.1)]
      rfl
theorem gdr_s {r st k : Nat} (h : gdr r b st k) (h2 : dg b (st + k) < r) : gdr r b st (k + 1) := fun i hi => by
  by_cases e : i = k
  · rw [e]; exact h2
  · exact h i (by omega)
theorem nvl_lt {r st : Nat} : ∀ k, gdr r b st k → nvl r b st k < r ^ k := by
  intro k
  induction k with
  | zero => intro _; exact Nat.one_pos
  | succ k ih =>
    intro h
    have h1 := ih (fun i hi => h i (by omega))
    have h2 := h k (by omega)
    show nvl r b st k * r + dg b (st + k) < r ^ k * r
    have : (nvl r b st k + 1) * r ≤ r ^ k * r := Nat.mul_le_mul_right r h1
    rw [Nat.add_mul] at this
    omega
theorem ff_num (hn : n ≤ 2000) (hb : ∀ i, i < n → s.2.1 2 i = b i) {st z r : Nat} (hr : r = 8 ∨ r = 10) (h10 : s.1 10 = nI r) (hz : z ≤ n) (h4 : z - st ≤ 4) (hd : ∀ i, st ≤ i → i < z → dgt (b i)) : ∀ (m k : Nat), st + k ≤ z → gdr r b st k → z < st + k + m → (gdr r b st (z - st) → l_number_21 U S N m (nI st) (nI z) 1 (nI (st + k)) (pI s 14 (nI (nvl r b st k))) = g_number_84 U S N (nI st) 1 (pI s 14 (nI (nvl r b st (z - st))))) ∧ (¬ gdr r b st (z - st) → ∃ x, l_number_21 U S N (m + 1) (nI st) (nI z) 1 (nI (st + k)) (pI s 14 (nI (nvl r b st k))) = g_number_84 U S N (nI st) 0 (pI s 14 x)) := by
  intro m
  induction m with
  | zero => intro k h1 _ h2; omega
  | succ m ih =>
    intro k hk hg h2
    have st1 : ∀ m2, l_number_21 U S N (m2 + 1) (nI st) (nI z) 1 (nI (st + k)) (pI s 14 (nI (nvl r b st k))) = h_number_21 U S N (l_number_21 U S N m2) (nI st) (nI z) 1 (nI (st + k)) (pI s 14 (nI (nvl r b st k))) := fun _ => rfl
    by_cases e : z = st + k
    · have ek : z - st = k := by omega
      constructor
      · intro _
        rw [st1]
        unfold h_number_21
        rw [if_pos ((leI (by omega) (by omega)).mpr (by omega)), ek]
      · intro hng
        rw [ek] at hng
        exact absurd hg hng
    · have hlt : st + k < z := by omega
      obtain ⟨v1, v2⟩ := dgt_v (hd (st + k) (by omega) hlt)
      have v1' : b (st + k) = nI (48 + dg b (st + k)) := v1
      have v2' : dg b (st + k) < 10 := v2
      have eb : ∀ m2, l_number_21 U S N (m2 + 1) (nI st) (nI z) 1 (nI (st + k)) (pI s 14 (nI (nvl r b st k))) = if nI r ≤ nI (dg b (st + k)) then l_number_21 U S N m2 (nI st) (nI z) 0 (nI (st + (k + 1))) (pI s 14 (nI (nvl r b st (k + 1)))) else l_number_21 U S N m2 (nI st) (nI z) 1 (nI (st + (k + 1))) (pI s 14 (nI (nvl r b st (k + 1)))) := by
        intro m2
        rw [st1]
        unfold h_number_21 g_number_53
        rw [if_neg (fun q => by have := (leI (by omega) (by omega)).mp q; omega), if_neg (by decide), rA_y (by decide) (by omega), Option.bind_some]
        show (if s.1 10 ≤ s.2.1 2 (st + k) - 48 then (some (pI (pI s 14 (nI (nvl r b st k))) 14 (((nI (nvl r b st k)) * s.1 10 + s.2.1 2 (st + k)) - 48))).bind _ else (some (pI (pI s 14 (nI (nvl r b st k))) 14 (((nI (nvl r b st k)) * s.1 10 + s.2.1 2 (st + k)) - 48))).bind _) = _
        rw [h10, hb (st + k) (by omega), v1', show (48 : Int32) = nI 48 from rfl, sub_nI (by omega), mul_nI, nI_add, sub_nI (by omega), Option.bind_some, Option.bind_some, pI_pI]
        rw [show 48 + dg b (st + k) - 48 = dg b (st + k) by omega, show nvl r b st k * r + (48 + dg b (st + k)) - 48 = nvl r b st (k + 1) by show _ = nvl r b st k * r + dg b (st + k); omega]
        rw [show nI (st + k) + 1 = nI (st + (k + 1)) from nI_1 _]
      by_cases c : dg b (st + k) < r
      · have hng : ¬ nI r ≤ nI (dg b (st + k)) := fun q => by have := (leI (by omega) (by omega)).mp q; omega
        obtain ⟨i1, i2⟩ := ih (k + 1) (by omega) (gdr_s hg c) (by omega)
        constructor
        · intro g
          rw [eb, if_neg hng]
          exact i1 g
        · intro g
          obtain ⟨x, hx⟩ := i2 g
          refine ⟨x, ?_⟩
          rw [eb, if_neg hng]
          exact hx
      · have hyg : nI r ≤ nI (dg b (st + k)) := (leI (by omega) (by omega)).mpr (by omega)
        have nog : ¬ gdr r b st (z - st) := fun g => c (g k (by omega))
        constructor
        · intro g; exact absurd g nog
        · intro _
          refine ⟨nI (nvl r b st (k + 1)), ?_⟩
          rw [eb, if_pos hyg]
          show h_number_21 U S N (l_number_21 U S N m) (nI st) (nI z) 0 (nI (st + (k + 1))) (pI s 14 (nI (nvl r b st (k + 1)))) = _
          unfold h_number_21
          by_cases q : nI z ≤ nI (st + (k + 1))
          · rw [if_pos q]
          · rw [if_neg q, if_pos rfl]
theorem g_num_eq (hN : 5000 < N) (hn : n ≤ 2000) (hb : ∀ i, i < n → s.2.1 2 i = b i) (hf : FZ s) {st z r : Nat} (hr : r = 8 ∨ r = 10) (h10 : s.1 10 = nI r) (hst : st ≤ z) (hz : z ≤ n) (hd : ∀ i, st ≤ i → i < z → dgt (b i)) : (z - st ≤ 4 ∧ gdr r b st (z - st) ∧ nvl r b st (z - st) ≤ 4095 → g_number U S N (nI st) (nI z) s = some ((), pI s 14 (nI (nvl r b st (z - st))))) ∧ (¬ (z - st ≤ 4 ∧ gdr r b st (z - st) ∧ nvl r b st (z - st) ≤ 4095) → ∃ x, g_number U S N (nI st) (nI z) s = some ((), flt (pI s 14 x) 1 (nI st))) := by
  obtain ⟨N, rfl⟩ : ∃ k, N = k + 1 := ⟨N - 1, by omega⟩
  have hbad : ∀ x, g_number_98 U S (N + 1) (nI st) (pI s 14 x) = some ((), flt (pI s 14 x) 1 (nI st)) := by
    intro x
    unfold g_number_98 g_number_104
    rw [g_fails_eq (s := pI s 14 x) hf, Option.bind_some]
  have h84 : ∀ x : Nat, x < 2 ^ 31 → g_number_84 U S (N + 1) (nI st) 1 (pI s 14 (nI x)) = if x ≤ 4095 then some ((), pI s 14 (nI x)) else some ((), flt (pI s 14 (nI x)) 1 (nI st)) := by
    intro x hx
    unfold g_number_84 g_number_104
    rw [if_neg (by decide), hbad]
    show (if nI x ≤ (4095 : Int32) then _ else _) = _
    by_cases c : x ≤ 4095
    · rw [if_pos ((leL (k := 4095) (c := 4095) rfl hx (by decide)).mpr c), if_pos c]
    · rw [if_neg (fun q => c ((leL (k := 4095) (c := 4095) rfl hx (by decide)).mp q)), if_neg c]
  unfold g_number g_number_17
  rw [Option.bind_some, sub_nI hst]
  by_cases c4 : z - st ≤ 4
  · rw [if_neg (show ¬ (4 : Int32) < nI (z - st) from fun q => by have := (ltI (a := 4) (by decide) (by omega)).mp q; omega)]
    obtain ⟨i1, i2⟩ := ff_num (U := U) (S := S) (N := N + 1) hn hb hr h10 hz c4 hd N 0 (by omega) (fun i hi => absurd hi (Nat.not_lt_zero i)) (by omega)
    obtain ⟨i3, -⟩ := ff_num (U := U) (S := S) (N := N + 1) hn hb hr h10 hz c4 hd (N + 1) 0 (by omega) (fun i hi => absurd hi (Nat.not_lt_zero i)) (by omega)
    by_cases g : gdr r b st (z - st)
    · have hv : nvl r b st (z - st) < 2 ^ 31 := by
        have h1 := nvl_lt _ g
        have h2 : r ^ (z - st) ≤ 10 ^ 4 := Nat.le_trans (Nat.pow_le_pow_left (by omega) _) (Nat.pow_le_pow_right (by decide) c4)
        omega
      have e := (i3 g).trans (h84 _ hv)
      constructor
      · rintro ⟨-, -, k⟩
        rw [if_pos k] at e
        exact e
      · intro k
        have k2 : ¬ nvl r b st (z - st) ≤ 4095 := fun q => k ⟨c4, g, q⟩
        rw [if_neg k2] at e
        exact ⟨_, e⟩
    · refine ⟨fun k => absurd k.2.1 g, fun _ => ?_⟩
      obtain ⟨x, hx⟩ := i2 g
      refine ⟨x, hx.trans ?_⟩
      unfold g_number_84
      rw [if_pos rfl]
      exact hbad x
  · rw [if_pos (show (4 : Int32) < nI (z - st) from (ltI (a := 4) (by decide) (by omega)).mpr (by omega))]
    refine ⟨fun k => absurd k.1 c4, fun _ => ⟨0, ?_⟩⟩
    show h_number_21 U S (N + 1) (l_number_21 U S (N + 1) N) (nI st) (nI z) 0 (nI st) (pI s 14 0) = _
    unfold h_number_21 g_number_84
    rw [if_pos rfl, hbad]
    by_cases q : nI z ≤ nI st
    · rw [if_pos q]
    · rw [if_neg q]; rfl
end
