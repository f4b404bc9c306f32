/-! LAYER 2, what the constructors leave: arrays, Sheet, Names -/
theorem x_maV {μ : Mem} {a i t n : Nat} (ha : a < μ.1) (E : ACl) (L : List ACl) {f : AA} (hi : L[i]? = some (.inl (t, n, f))) : maV (ext μ a E L) t (some (μ.1 + i)) = some (n, f) := by
  have h : μ.1 + i < (ext μ a E L).1 := by rw [ext_n]; have := (List.getElem?_eq_some_iff.mp hi).1; omega
  unfold maV
  dsimp only
  rw [if_pos h, ext_new E L ha hi]
  dsimp only
  rw [if_pos rfl]
theorem ext_far {μ : Mem} {a b : Nat} (E : ACl) (L : List ACl) (h : b ≠ a) (hb : μ.1 + L.length ≤ b) : (ext μ a E L).2 b = μ.2 b := by
  unfold ext
  dsimp only
  rw [if_neg h, List.getElem?_eq_none (by omega)]
theorem set_same {α : Type} {L : List α} {i : Nat} {x : α} (h : L[i]? = some x) : L.set i x = L := by
  apply List.ext_getElem?
  intro j
  rw [List.getElem?_set]
  by_cases hj : i = j
  · subst hj
    rw [if_pos rfl, if_pos (List.getElem?_eq_some_iff.mp h).1, h]
  · rw [if_neg hj]
theorem x_up {μ : Mem} {a i : Nat} (ha : a < μ.1) (E : ACl) (L : List ACl) (hi : i < L.length) (c : ACl) : ((ext μ a E L).1, va_up (ext μ a E L).2 (μ.1 + i) c) = ext μ a E (L.set i c) := by
  refine mem_eq (by unfold ext; simp) fun b => ?_
  show va_up (ext μ a E L).2 (μ.1 + i) c b = _
  unfold va_up
  by_cases hb : b = μ.1 + i
  · subst hb
    rw [if_pos rfl, ext_new _ _ ha (List.getElem?_set_self hi)]
  · rw [if_neg hb]
    by_cases h2 : b = a
    · subst h2; rw [ext_a, ext_a]
    · by_cases h3 : b < μ.1
      · rw [ext_old _ _ h2 h3, ext_old _ _ h2 h3]
      · obtain ⟨j, rfl⟩ : ∃ j, b = μ.1 + j := ⟨b - μ.1, by omega⟩
        by_cases hj : j < L.length
        · rw [ext_new _ _ ha (List.getElem?_eq_getElem hj), ext_new _ _ ha (c := L[j]) (by rw [List.getElem?_set_ne (by omega), List.getElem?_eq_getElem hj])]
        · rw [ext_far _ _ h2 (by omega), ext_far _ _ h2 (by simp; omega)]
theorem x_bI {μ : Mem} {a i t n j : Nat} (ha : a < μ.1) (E : ACl) (L : List ACl) {f : Nat → Int32} (hi : L[i]? = some (.inl (t, n, .inl f))) (hj : j < n) (hn : n < 2 ^ 31) (x : Int32) : mbI (ext μ a E L) t (some (μ.1 + i)) (nI j) x = some (ext μ a E (L.set i (.inl (t, n, .inl (upd f j x))))) := by
  unfold mbI
  rw [x_maV ha E L hi]
  dsimp only
  rw [if_neg (nI_in hj hn), nI_clamp (by omega)]
  unfold mbV
  dsimp only
  rw [x_up ha E L (List.getElem?_eq_some_iff.mp hi).1]
theorem x_bJ {μ : Mem} {a i t n j : Nat} (ha : a < μ.1) (E : ACl) (L : List ACl) {f : Nat → Int64} (hi : L[i]? = some (.inl (t, n, .inr (.inl f)))) (hj : j < n) (hn : n < 2 ^ 31) (x : Int64) : mbJ (ext μ a E L) t (some (μ.1 + i)) (nI j) x = some (ext μ a E (L.set i (.inl (t, n, .inr (.inl (vp_updL f j x)))))) := by
  unfold mbJ
  rw [x_maV ha E L hi]
  dsimp only
  rw [if_neg (nI_in hj hn), nI_clamp (by omega)]
  unfold mbV
  dsimp only
  rw [x_up ha E L (List.getElem?_eq_some_iff.mp hi).1]
theorem x_al {μ : Mem} {a i t n : Nat} (ha : a < μ.1) (E : ACl) (L : List ACl) {f : AA} (hi : L[i]? = some (.inl (t, n, f))) (ht : t < 6) : mal (ext μ a E L) (some (μ.1 + i)) = some (nI n) := by
  have h : μ.1 + i < (ext μ a E L).1 := by rw [ext_n]; have := (List.getElem?_eq_some_iff.mp hi).1; omega
  unfold mal
  dsimp only
  rw [if_pos h, ext_new E L ha hi]
  dsimp only
  rw [if_pos ht]
  rfl
/-- Arrays.fill -/
def fil (f : Nat → Int32) (k : Nat) (v : Int32) : Nat → Int32 := fun j => if j < k then v else f j
theorem fil_s (f : Nat → Int32) (k : Nat) (v : Int32) : upd (fil f k v) k v = fil f (k + 1) v := by
  funext j
  unfold upd fil
  by_cases h : j = k
  · subst h; simp
  · by_cases h2 : j < k
    · simp [h, h2, Nat.lt_succ_of_lt h2]
    · have : ¬ j < k + 1 := by omega
      simp [h, h2, this]
theorem x_fil {μ : Mem} {a i n : Nat} (ha : a < μ.1) (E : ACl) (f : Nat → Int32) (v : Int32) (N : Nat) (hn : n < 2 ^ 31) : ∀ (m k : Nat) (L : List ACl), L[i]? = some (.inl (0, n, .inl (fil f k v))) → n < k + m → k ≤ n → L_J7_fill_53178_5 N m (some (μ.1 + i)) v (nI k) (nI n) (ext μ a E L) = some ((), ext μ a E (L.set i (.inl (0, n, .inl (fil f n v))))) := by
  intro m
  induction m with
  | zero => intro k L _ h1 h2; omega
  | succ m ih =>
    intro k L hL h1 h2
    show H_J7_fill_53178_5 N (L_J7_fill_53178_5 N m) (some (μ.1 + i)) v (nI k) (nI n) (ext μ a E L) = _
    unfold H_J7_fill_53178_5
    by_cases hk : n ≤ k
    · rw [if_pos (nI_le hk (by omega))]
      have : k = n := by omega
      subst this
      rw [set_same hL]
    · rw [if_neg (nI_ge (by omega) hn), x_bI ha E L hL (by omega) hn]
      show L_J7_fill_53178_5 N m (some (μ.1 + i)) v (nI k + 1) (nI n) _ = _
      have hlt := (List.getElem?_eq_some_iff.mp hL).1
      rw [nI_1, fil_s, ih (k + 1) _ (List.getElem?_set_self hlt) (by omega) (by omega), List.set_set]
theorem x_fill {μ : Mem} {a i n : Nat} (ha : a < μ.1) (E : ACl) (L : List ACl) {f : Nat → Int32} (hi : L[i]? = some (.inl (0, n, .inl f))) (hn : n < 2 ^ 31) (v : Int32) {N : Nat} (hN : n < N) : f_J7_fill_53178 N (some (μ.1 + i)) v (ext μ a E L) = some ((), ext μ a E (L.set i (.inl (0, n, .inl (fil f n v))))) := by
  unfold f_J7_fill_53178
  rw [x_al ha E L hi (by decide)]
  show L_J7_fill_53178_5 N N (some (μ.1 + i)) v (nI 0) (nI n) (ext μ a E L) = _
  refine x_fil ha E f v N hn N 0 L ?_ (by omega) (by omega)
  rw [hi]
  congr 4
theorem k_X7 {N : Nat} (hN : 4096 < N) {μ : Mem} {a : Nat} (ha : a < μ.1) (hc : μ.2 a = .inr (7, df_X7)) : f_X7_init N (some a) μ = some ((), ext μ a (.inr (7, [aR (some μ.1), aI 0])) [.inl (0, 4096, .inl (fil (fun _ => 0) 4096 (-1)))]) := by
  conv => lhs; rw [ext_0 hc]
  unfold f_X7_init df_X7
  simp only [x_ck ha, x_naI ha, x_pR ha, x_pI ha, x_fR ha, ext_n, Option.bind_some, List.length_cons, List.length_nil, List.nil_append, List.set_cons_zero, List.set_cons_succ, Nat.zero_add, Nat.add_zero, Nat.reduceAdd, Nat.reduceLT, if_true, List.getElem?_cons_zero, fR]
  rw [show (some μ.1 : Option Nat) = some (μ.1 + 0) from rfl, x_fill ha _ _ (i := 0) rfl (by decide) _ hN]
  rfl
/-- what Names() does with the text of its names: how many, their letters, values, tellings -/
def nmS : Nat → Nat → Int64 → Nat × (Nat → Int64) × (Nat → Int32) × (Nat → Int32) → Nat × (Nat → Int64) × (Nat → Int32) × (Nat → Int32)
  | 0, _, _, q => q
  | n + 1, i, nm, q => if slen 0 ≤ i then q else if schr 0 (nI i) = 32 then (if 53 ≤ q.1 then nmS n (i + 1) nm q else nmS n (i + 1) 0 (q.1 + 1, vp_updL q.2.1 q.1 nm, upd q.2.2.1 q.1 (x_fv.getD q.1 0), upd q.2.2.2 q.1 3)) else nmS n (i + 1) ((nm <<< ((8 : Int32).toInt64 &&& 63)) ||| (schr 0 (nI i)).toInt64) q
def nmE (n0 : Nat) (q : Nat × (Nat → Int64) × (Nat → Int32) × (Nat → Int32)) : ACl := .inr (4, [aR (some n0), aR (some (n0 + 1)), aR (some (n0 + 2)), aI (nI q.1), aI 0])
def nmL (q : Nat × (Nat → Int64) × (Nat → Int32) × (Nat → Int32)) : List ACl := [.inl (1, 1054, .inr (.inl q.2.1)), .inl (0, 1054, .inl q.2.2.1), .inl (0, 1054, .inl q.2.2.2)]
theorem nm_loop {μ : Mem} {a : Nat} (ha : a < μ.1) (N : Nat) : ∀ (n i : Nat) (nm : Int64) (q : Nat × (Nat → Int64) × (Nat → Int32) × (Nat → Int32)), slen 0 < i + n → i ≤ slen 0 → q.1 ≤ 53 → L_X4_init_60 N n (some a) nm (nI i) (ext μ a (nmE μ.1 q) (nmL q)) = some ((), ext μ a (nmE μ.1 (nmS n i nm q)) (nmL (nmS n i nm q))) := by
  have hs : slen 0 = 221 := rfl
  intro n
  induction n with
  | zero => intro i nm q h1 h2 _; omega
  | succ n ih =>
    intro i nm q h1 h2 h3
    show H_X4_init_60 N (L_X4_init_60 N n) (some a) nm (nI i) _ = _
    unfold H_X4_init_60 nmS
    have hlen : sLen 10 = some (nI (slen 0)) := rfl
    rw [hlen]
    simp only [Option.bind_some]
    by_cases hk : slen 0 ≤ i
    · rw [if_pos (nI_le hk (by omega)), if_pos hk]
    · rw [if_neg (nI_ge (by omega) (by omega)), if_neg hk]
      have hch : sChr 10 (nI i) = some (schr 0 (nI i)) := by
        unfold sChr
        rw [if_pos ⟨by decide, by decide, nI_in (N := slen 0) (by omega) (by omega)⟩]
      rw [hch]
      simp only [Option.bind_some]
      by_cases hc : schr 0 (nI i) = 32
      · rw [if_pos hc, if_pos hc]
        unfold nmE
        rw [x_fI ha]
        simp only [List.getElem?_cons_succ, List.getElem?_cons_zero, fI, Option.bind_some]
        by_cases hq : 53 ≤ q.1
        · rw [if_pos (show (53 : Int32) ≤ nI q.1 from nI_le (a := 53) hq (by omega)), if_pos hq]
          unfold f_X4_init_154
          rw [nI_1]
          exact ih (i + 1) nm q (by omega) (by omega) h3
        · rw [if_neg (show ¬ (53 : Int32) ≤ nI q.1 from nI_ge (b := 53) (by omega) (by omega)), if_neg hq]
          have hx : xI x_fv (nI q.1) = some (x_fv.getD q.1 0) := by
            unfold xI
            rw [if_neg (show ¬ (nI q.1 < 0 ∨ x_fv.length ≤ (nI q.1).toNatClampNeg) from nI_in (c := q.1) (N := 53) (by omega) (by decide)), nI_clamp (by omega)]
          have e0 : mbJ (ext μ a (.inr (4, [aR (some μ.1), aR (some (μ.1 + 1)), aR (some (μ.1 + 2)), aI (nI q.1), aI 0])) (nmL q)) 1 (some μ.1) (nI q.1) nm = some (ext μ a (.inr (4, [aR (some μ.1), aR (some (μ.1 + 1)), aR (some (μ.1 + 2)), aI (nI q.1), aI 0])) [.inl (1, 1054, .inr (.inl (vp_updL q.2.1 q.1 nm))), .inl (0, 1054, .inl q.2.2.1), .inl (0, 1054, .inl q.2.2.2)]) := x_bJ (i := 0) ha _ (nmL q) (f := q.2.1) rfl (show q.1 < 1054 by omega) (by decide) nm
          have e1 : mbI (ext μ a (.inr (4, [aR (some μ.1), aR (some (μ.1 + 1)), aR (some (μ.1 + 2)), aI (nI q.1), aI 0])) [.inl (1, 1054, .inr (.inl (vp_updL q.2.1 q.1 nm))), .inl (0, 1054, .inl q.2.2.1), .inl (0, 1054, .inl q.2.2.2)]) 0 (some (μ.1 + 1)) (nI q.1) (x_fv.getD q.1 0) = some (ext μ a (.inr (4, [aR (some μ.1), aR (some (μ.1 + 1)), aR (some (μ.1 + 2)), aI (nI q.1), aI 0])) [.inl (1, 1054, .inr (.inl (vp_updL q.2.1 q.1 nm))), .inl (0, 1054, .inl (upd q.2.2.1 q.1 (x_fv.getD q.1 0))), .inl (0, 1054, .inl q.2.2.2)]) := x_bI (i := 1) ha _ _ (f := q.2.2.1) rfl (show q.1 < 1054 by omega) (by decide) _
          have e2 : mbI (ext μ a (.inr (4, [aR (some μ.1), aR (some (μ.1 + 1)), aR (some (μ.1 + 2)), aI (nI q.1), aI 0])) [.inl (1, 1054, .inr (.inl (vp_updL q.2.1 q.1 nm))), .inl (0, 1054, .inl (upd q.2.2.1 q.1 (x_fv.getD q.1 0))), .inl (0, 1054, .inl q.2.2.2)]) 0 (some (μ.1 + 2)) (nI q.1) 3 = some (ext μ a (.inr (4, [aR (some μ.1), aR (some (μ.1 + 1)), aR (some (μ.1 + 2)), aI (nI q.1), aI 0])) [.inl (1, 1054, .inr (.inl (vp_updL q.2.1 q.1 nm))), .inl (0, 1054, .inl (upd q.2.2.1 q.1 (x_fv.getD q.1 0))), .inl (0, 1054, .inl (upd q.2.2.2 q.1 3))]) := x_bI (i := 2) ha _ _ (f := q.2.2.2) rfl (show q.1 < 1054 by omega) (by decide) _
          simp only [x_fR ha, x_fI ha, x_pI ha, List.getElem?_cons_succ, List.getElem?_cons_zero, fI, fR, Option.bind_some, e0, e1, e2, hx, List.length_cons, List.length_nil, List.set_cons_zero, List.set_cons_succ, Nat.zero_add, Nat.reduceAdd, Nat.reduceLT, if_true]
          unfold f_X4_init_154
          rw [nI_1, nI_1]
          exact ih (i + 1) 0 (q.1 + 1, vp_updL q.2.1 q.1 nm, upd q.2.2.1 q.1 (x_fv.getD q.1 0), upd q.2.2.2 q.1 3) (by omega) (by omega) (show q.1 + 1 ≤ 53 by omega)
      · rw [if_neg hc, if_neg hc]
        unfold f_X4_withLetter f_X4_init_154
        simp only [Option.bind_some]
        rw [nI_1]
        exact ih (i + 1) _ q (by omega) (by omega) h3
/-- the names that are there -/
theorem nm0_ex : ∃ q : Nat × (Nat → Int64) × (Nat → Int32) × (Nat → Int32), q = nmS 222 0 0 (0, fun _ => 0, fun _ => 0, fun _ => 0) := ⟨_, rfl⟩
noncomputable def nm0 : Nat × (Nat → Int64) × (Nat → Int32) × (Nat → Int32) := Classical.choose nm0_ex
theorem nm0_eq : nm0 = nmS 222 0 0 (0, fun _ => 0, fun _ => 0, fun _ => 0) := Classical.choose_spec nm0_ex
theorem nmS_more : ∀ (n m i : Nat) (nm : Int64) (q : Nat × (Nat → Int64) × (Nat → Int32) × (Nat → Int32)), slen 0 < i + n → slen 0 < i + m → nmS n i nm q = nmS m i nm q := by
  intro n
  induction n with
  | zero =>
    intro m i nm q h1 h2
    cases m with
    | zero => rfl
    | succ m => show q = nmS (m + 1) i nm q; unfold nmS; rw [if_pos (by omega)]
  | succ n ih =>
    intro m i nm q h1 h2
    cases m with
    | zero => show nmS (n + 1) i nm q = q; unfold nmS; rw [if_pos (by omega)]
    | succ m =>
      unfold nmS
      by_cases hk : slen 0 ≤ i
      · rw [if_pos hk, if_pos hk]
      · rw [if_neg hk, if_neg hk]
        by_cases hc : schr 0 (nI i) = 32
        · rw [if_pos hc, if_pos hc]
          by_cases hq : 53 ≤ q.1
          · rw [if_pos hq, if_pos hq]; exact ih m _ _ _ (by omega) (by omega)
          · rw [if_neg hq, if_neg hq]; exact ih m _ _ _ (by omega) (by omega)
        · rw [if_neg hc, if_neg hc]; exact ih m _ _ _ (by omega) (by omega)
theorem k_X4 {N : Nat} (hN : 221 < N) {μ : Mem} {a : Nat} (ha : a < μ.1) (hc : μ.2 a = .inr (4, df_X4)) : f_X4_init N (some a) μ = some ((), ext μ a (nmE μ.1 nm0) (nmL nm0)) := by
  have hs : slen 0 = 221 := rfl
  conv => lhs; rw [ext_0 hc]
  unfold f_X4_init df_X4
  simp only [x_ck ha, x_naI ha, x_naJ ha, x_pR ha, x_pI ha, ext_n, Option.bind_some, List.length_cons, List.length_nil, List.nil_append, List.cons_append, List.set_cons_zero, List.set_cons_succ, Nat.zero_add, Nat.add_zero, Nat.reduceAdd, Nat.reduceLT, if_true]
  have h := nm_loop ha N N 0 0 (0, fun _ => 0, fun _ => 0, fun _ => 0) (by omega) (by omega) (by decide)
  rw [nmS_more N 222 0 0 _ (by omega) (by omega), ← nm0_eq] at h
  exact h
theorem ext_in0 {μ : Mem} {a : Nat} (ha : a < μ.1) (E : ACl) (L : List ACl) (hi : 0 < L.length) (E2 : ACl) (L2 : List ACl) : ext (ext μ a E L) μ.1 E2 L2 = ext μ a E (L.set 0 E2 ++ L2) := ext_in (i := 0) ha E L hi E2 L2
theorem k_X0 {N : Nat} (hN : 4096 < N) {μ : Mem} {a : Nat} (ha : a < μ.1) (hc : μ.2 a = .inr (0, df_X0)) : f_X0_init N (some a) μ = some ((), ext μ a (.inr (0, [aR (some μ.1), aR (some (μ.1 + 4)), aR (some (μ.1 + 10)), aR (some (μ.1 + 12)), aI 0, aI (-1), aI 0, aI 0, aI 0, aI 0, aI 128])) (nmE (μ.1 + 1) nm0 :: (nmL nm0 ++ [.inr (9, [aR (some μ.1), aR (some (μ.1 + 5)), aR (some (μ.1 + 6)), aR (some (μ.1 + 7)), aR (some (μ.1 + 8)), aI 0, aR (some (μ.1 + 9)), aI 0, aI 0]), .inl (0, 2001, .inl (fun _ => 0)), .inl (0, 2001, .inl (fun _ => 0)), .inl (0, 2001, .inl (fun _ => 0)), .inl (0, 2001, .inl (fun _ => 0)), .inl (0, 0, .inl (fun _ => 0)), .inr (7, [aR (some (μ.1 + 11)), aI 0]), .inl (0, 4096, .inl (fil (fun _ => 0) 4096 (-1))), .inr (7, [aR (some (μ.1 + 13)), aI 0]), .inl (0, 4096, .inl (fil (fun _ => 0) 4096 (-1)))]))) := by
  conv => lhs; rw [ext_0 hc]
  unfold f_X0_init df_X0
  simp only [x_ck ha, ext_madd ha, ext_n, Option.bind_some, List.length_nil, List.nil_append, Nat.add_zero]
  rw [k_X4 (by omega)]
  rotate_left
  · rw [ext_n]; simp
  · exact ext_new (i := 0) _ _ ha rfl
  rw [ext_in0 ha _ _ (by simp)]
  simp only [x_ck ha, x_naI ha, x_pR ha, x_pI ha, x_pZ ha, x_fR ha, ext_n, Option.bind_some, ext_madd ha, List.length_cons, List.length_nil, List.nil_append, List.cons_append, List.set_cons_zero, List.set_cons_succ, Nat.zero_add, Nat.add_zero, Nat.reduceAdd, Nat.reduceLT, if_true, List.getElem?_cons_zero, List.getElem?_cons_succ, fR, nmL, true_or, Nat.add_assoc]
  rw [k_X9]
  rotate_left
  · rw [ext_n]; simp
  · exact ext_new (i := 4) _ _ ha rfl
  rw [ext_in ha _ _ (by simp)]
  simp only [x_ck ha, x_naI ha, x_pR ha, x_pI ha, x_pZ ha, x_fR ha, ext_n, Option.bind_some, ext_madd ha, List.length_cons, List.length_nil, List.nil_append, List.cons_append, List.set_cons_zero, List.set_cons_succ, Nat.zero_add, Nat.add_zero, Nat.reduceAdd, Nat.reduceLT, if_true, List.getElem?_cons_zero, List.getElem?_cons_succ, fR, nmL, true_or, Nat.add_assoc]
  rw [k_X7 hN]
  rotate_left
  · rw [ext_n]; simp
  · exact ext_new (i := 10) _ _ ha rfl
  rw [ext_in ha _ _ (by simp)]
  simp only [x_ck ha, x_naI ha, x_pR ha, x_pI ha, x_pZ ha, x_fR ha, ext_n, Option.bind_some, ext_madd ha, List.length_cons, List.length_nil, List.nil_append, List.cons_append, List.set_cons_zero, List.set_cons_succ, Nat.zero_add, Nat.add_zero, Nat.reduceAdd, Nat.reduceLT, if_true, List.getElem?_cons_zero, List.getElem?_cons_succ, fR, nmL, true_or, Nat.add_assoc]
  rw [k_X7 hN]
  rotate_left
  · rw [ext_n]; simp
  · exact ext_new (i := 12) _ _ ha rfl
  rw [ext_in ha _ _ (by simp)]
  simp only [x_ck ha, x_naI ha, x_pR ha, x_pI ha, x_pZ ha, x_fR ha, ext_n, Option.bind_some, ext_madd ha, List.length_cons, List.length_nil, List.nil_append, List.cons_append, List.set_cons_zero, List.set_cons_succ, Nat.zero_add, Nat.add_zero, Nat.reduceAdd, Nat.reduceLT, if_true, List.getElem?_cons_zero, List.getElem?_cons_succ, fR, nmL, true_or, Nat.add_assoc]
