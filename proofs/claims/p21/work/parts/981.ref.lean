/-! LAYER 2, the reference as a typed state: its int fields, its rows of ints by field, its grids by field and row -/
abbrev RS : Type := (Nat → Int32) × (Nat → Nat → Int32) × (Nat → Nat → Nat → Int32)
def up1 {α : Type} (f : Nat → α) (k : Nat) (x : α) : Nat → α := fun j => if j = k then x else f j
theorem up1_s {α : Type} (f : Nat → α) (k : Nat) (x : α) : up1 f k x k = x := by unfold up1; rw [if_pos rfl]
theorem up1_n {α : Type} (f : Nat → α) {k j : Nat} (x : α) (h : j ≠ k) : up1 f k x j = f j := by unfold up1; rw [if_neg h]
def pI (s : RS) (k : Nat) (x : Int32) : RS := (up1 s.1 k x, s.2)
def pA (s : RS) (k i : Nat) (x : Int32) : RS := (s.1, up1 s.2.1 k (upd (s.2.1 k) i x), s.2.2)
def pG (s : RS) (k j i : Nat) (x : Int32) : RS := (s.1, s.2.1, up1 s.2.2 k (up1 (s.2.2 k) j (upd (s.2.2 k j) i x)))
def pZ (s : RS) (k : Nat) (x : Int32) : Option RS := if x = 0 ∨ x = 1 then some (pI s k x) else none
def rA (n : Nat) (s : RS) (k : Nat) (i : Int32) : Option Int32 := if i < 0 ∨ n ≤ i.toNatClampNeg then none else some (s.2.1 k i.toNatClampNeg)
def wA (n : Nat) (s : RS) (k : Nat) (i x : Int32) : Option RS := if i < 0 ∨ n ≤ i.toNatClampNeg then none else some (pA s k i.toNatClampNeg x)
def wZ (n : Nat) (s : RS) (k : Nat) (i x : Int32) : Option RS := if i < 0 ∨ n ≤ i.toNatClampNeg then none else if x = 0 ∨ x = 1 then some (pA s k i.toNatClampNeg x) else none
def rQ (n : Nat) (i : Int32) : Option Nat := if i < 0 ∨ n ≤ i.toNatClampNeg then none else some i.toNatClampNeg
def rG (n : Nat) (s : RS) (k j : Nat) (i : Int32) : Option Int32 := if i < 0 ∨ n ≤ i.toNatClampNeg then none else some (s.2.2 k j i.toNatClampNeg)
def wG (n : Nat) (s : RS) (k j : Nat) (i x : Int32) : Option RS := if i < 0 ∨ n ≤ i.toNatClampNeg then none else some (pG s k j i.toNatClampNeg x)
def rZ (x : Int32) (s : RS) : Option (Int32 × RS) := if x = 0 ∨ x = 1 then some (x, s) else none
/-- the pieces that the constructor makes: field, tag, length, and of a grid the length of its rows -/
abbrev Pc : Type := Nat × Nat × Nat × Option Nat
def pcs (U S : Nat) : List Pc := [(0, 0, 2000, none), (2, 0, 2000, none), (17, 0, 1400, none), (18, 0, 200, none), (19, 0, 200, none), (20, 2, 200, none), (22, 0, 4096, none), (23, 2, 4096, none), (24, 2, 4096, none), (25, 0, 4096, none), (26, 0, 32, none), (62, 0, 8, none), (35, 3, S, some 4096), (36, 3, U, some 4096), (37, 3, U, some 1024), (38, 0, S, none), (39, 2, S, none), (40, 2, S, none), (41, 0, U, none), (42, 0, U, none), (43, 0, U, none), (44, 0, U, none), (45, 0, U, none), (46, 0, U, none), (47, 0, U, none), (48, 0, U, none), (49, 3, U, some 16), (50, 0, U, none), (51, 0, U, none), (52, 3, U, some 16), (53, 0, U, none), (54, 3, U, some 500), (55, 0, U, none), (56, 0, U, none), (57, 0, U, none), (58, 0, U, none), (59, 0, U, none), (60, 0, U, none), (61, 2, U, none)]
def psz (p : Pc) : Nat := match p.2.2.2 with
  | none => 1
  | some _ => 1 + p.2.2.1
def pc1 (s : RS) (b : Nat) (p : Pc) : List ACl := match p.2.2.2 with
  | none => [.inl (p.2.1, p.2.2.1, .inl (s.2.1 p.1))]
  | some m => .inl (3, p.2.2.1, .inr (.inr (fun i => if i < p.2.2.1 then some (b + 1 + i) else none))) :: (List.range p.2.2.1).map (fun i => .inl (0, m, .inl (s.2.2 p.1 i)))
def pcl (s : RS) : Nat → List Pc → List ACl
  | _, [] => []
  | b, p :: ps => pc1 s b p ++ pcl s (b + psz p) ps
def fnd : List Pc → Nat → Nat → Option Nat
  | [], _, _ => none
  | p :: ps, b, k => if p.1 = k then some b else fnd ps (b + psz p) k
def lk : List Pc → Nat → Option (Nat × Nat × Option Nat)
  | [], _ => none
  | p :: ps, k => if p.1 = k then some p.2 else lk ps k
def isI (k : Nat) : Bool := !([0, 2, 17, 18, 19, 20, 22, 23, 24, 25, 26, 62, 35, 36, 37, 38, 39, 40, 41, 42, 43, 44, 45, 46, 47, 48, 49, 50, 51, 52, 53, 54, 55, 56, 57, 58, 59, 60, 61].contains k)
def rfs (s : RS) (ps : List Pc) (b : Nat) : List AV := (List.range 79).map fun k => if isI k = true then aI (s.1 k) else aR (fnd ps b k)
def EM (μ : Mem) (r : Nat) (ps : List Pc) (s : RS) : Mem := ext μ r (.inr (12, rfs s ps μ.1)) (pcl s μ.1 ps)
theorem pc1_len (s : RS) (b : Nat) (p : Pc) : (pc1 s b p).length = psz p := by
  obtain ⟨k, t, n, m⟩ := p
  cases m with
  | none => rfl
  | some m => unfold pc1 psz; simp; omega
/-- a piece of the list, by its field -/
theorem fnd_at (s : RS) (k : Nat) (q : Nat × Nat × Option Nat) : ∀ (ps : List Pc) (b : Nat), lk ps k = some q → ∃ o, fnd ps b k = some (b + o) ∧ ∀ j, j < psz (k, q) → (pcl s b ps)[o + j]? = (pc1 s (b + o) (k, q))[j]? := by
  intro ps
  induction ps with
  | nil => intro b h; cases h
  | cons p ps ih =>
    intro b h
    unfold lk at h
    unfold fnd pcl
    by_cases hp : p.1 = k
    · rw [if_pos hp] at h
      rw [if_pos hp]
      have : p = (k, q) := by
        obtain ⟨a, c⟩ := p
        cases hp
        cases h
        rfl
      subst this
      refine ⟨0, rfl, fun j hj => ?_⟩
      rw [Nat.zero_add, List.getElem?_append_left (by rw [pc1_len]; exact hj)]
      rfl
    · rw [if_neg hp] at h
      rw [if_neg hp]
      obtain ⟨o, h1, h2⟩ := ih (b + psz p) h
      refine ⟨psz p + o, by rw [h1, Nat.add_assoc], fun j hj => ?_⟩
      rw [List.getElem?_append_right (by rw [pc1_len]; omega), pc1_len, show psz p + o + j - psz p = o + j by omega, h2 j hj, Nat.add_assoc]
theorem pc1_A (s : RS) (b k t n : Nat) : pc1 s b (k, t, n, none) = [.inl (t, n, .inl (s.2.1 k))] := rfl
theorem at_A (s : RS) {k t n : Nat} {ps : List Pc} (b : Nat) (h : lk ps k = some (t, n, none)) : ∃ o, fnd ps b k = some (b + o) ∧ (pcl s b ps)[o]? = some (.inl (t, n, .inl (s.2.1 k))) := by
  obtain ⟨o, h1, h2⟩ := fnd_at s k _ ps b h
  refine ⟨o, h1, ?_⟩
  have := h2 0 (by show 0 < 1; omega)
  rw [Nat.add_zero] at this
  rw [this]
  rfl
theorem at_Q (s : RS) {k n m : Nat} {ps : List Pc} (b : Nat) (h : lk ps k = some (3, n, some m)) : ∃ o, fnd ps b k = some (b + o) ∧ (pcl s b ps)[o]? = some (.inl (3, n, .inr (.inr (fun i => if i < n then some (b + o + 1 + i) else none)))) ∧ ∀ j, j < n → (pcl s b ps)[o + 1 + j]? = some (.inl (0, m, .inl (s.2.2 k j))) := by
  obtain ⟨o, h1, h2⟩ := fnd_at s k _ ps b h
  refine ⟨o, h1, ?_, fun j hj => ?_⟩
  · have := h2 0 (by show 0 < 1 + n; omega)
    rw [Nat.add_zero] at this
    rw [this]
    rfl
  · have := h2 (1 + j) (by show 1 + j < 1 + n; omega)
    rw [Nat.add_assoc, this, Nat.add_comm 1 j]
    show ((List.range n).map _)[j]? = _
    rw [List.getElem?_map, List.getElem?_range hj]
    rfl
/-- changing one field's piece -/
theorem pc1_o {s s2 : RS} {b : Nat} {p : Pc} {k : Nat} (hp : p.1 ≠ k) (hA : ∀ j, j ≠ k → s2.2.1 j = s.2.1 j) (hG : ∀ j, j ≠ k → s2.2.2 j = s.2.2 j) : pc1 s2 b p = pc1 s b p := by
  unfold pc1
  rw [hA _ hp, hG _ hp]
theorem pcl_o {s s2 : RS} {k : Nat} (hA : ∀ j, j ≠ k → s2.2.1 j = s.2.1 j) (hG : ∀ j, j ≠ k → s2.2.2 j = s.2.2 j) : ∀ (ps : List Pc) (b : Nat), (∀ p ∈ ps, p.1 ≠ k) → pcl s2 b ps = pcl s b ps := by
  intro ps
  induction ps with
  | nil => intro b _; rfl
  | cons p ps ih =>
    intro b h
    unfold pcl
    rw [pc1_o (h p (List.mem_cons_self)) hA hG, ih _ (fun q hq => h q (List.mem_cons_of_mem _ hq))]
theorem set_at {s s2 : RS} {k : Nat} {q : Nat × Nat × Option Nat} {c : ACl} {j : Nat} (hj : j < psz (k, q)) (hA : ∀ j, j ≠ k → s2.2.1 j = s.2.1 j) (hG : ∀ j, j ≠ k → s2.2.2 j = s.2.2 j) (hc : ∀ b, pc1 s2 b (k, q) = (pc1 s b (k, q)).set j c) : ∀ (ps : List Pc) (b o : Nat), (ps.map (·.1)).Nodup → lk ps k = some q → fnd ps b k = some (b + o) → (pcl s b ps).set (o + j) c = pcl s2 b ps := by
  intro ps
  induction ps with
  | nil => intro b o _ h; cases h
  | cons p ps ih =>
    intro b o hn h h2
    unfold lk at h
    unfold fnd at h2
    unfold pcl
    rw [List.map_cons, List.nodup_cons] at hn
    by_cases hp : p.1 = k
    · rw [if_pos hp] at h h2
      have : p = (k, q) := by
        obtain ⟨a, c⟩ := p
        cases hp
        cases h
        rfl
      subst this
      have : o = 0 := by have := Option.some.inj h2; omega
      subst this
      rw [Nat.zero_add, List.set_append_left _ _ (by rw [pc1_len]; exact hj), ← hc, pcl_o hA hG]
      intro p hp e
      exact hn.1 (List.mem_map.mpr ⟨p, hp, e⟩)
    · rw [if_neg hp] at h h2
      have hle : ∀ (ps : List Pc) (b x : Nat), fnd ps b k = some x → b ≤ x := by
        intro ps
        induction ps with
        | nil => intro b x h; cases h
        | cons p ps ih =>
          intro b x h
          unfold fnd at h
          by_cases hp : p.1 = k
          · rw [if_pos hp] at h; have := Option.some.inj h; omega
          · rw [if_neg hp] at h; have := ih _ _ h; omega
      have h3 := hle _ _ _ h2
      rw [List.set_append_right _ _ (by rw [pc1_len]; omega), pc1_len, show o + j - psz p = (o - psz p) + j by omega, ih (b + psz p) (o - psz p) hn.2 h (by rw [h2]; congr 1; omega), pc1_o hp hA hG]
theorem rfs_n (s : RS) (ps : List Pc) (b : Nat) : (rfs s ps b).length = 79 := by unfold rfs; simp
theorem rfs_at (s : RS) (ps : List Pc) (b : Nat) {k : Nat} (hk : k < 79) : (rfs s ps b)[k]? = some (if isI k = true then aI (s.1 k) else aR (fnd ps b k)) := by
  unfold rfs
  rw [List.getElem?_map, List.getElem?_range hk]
  rfl
theorem rfs_pI (s : RS) (ps : List Pc) (b : Nat) {k : Nat} (hk : k < 79) (hi : isI k = true) (x : Int32) : (rfs s ps b).set k (aI x) = rfs (pI s k x) ps b := by
  apply List.ext_getElem?
  intro j
  rw [List.getElem?_set]
  by_cases hj : k = j
  · subst hj
    rw [if_pos rfl, if_pos (by rw [rfs_n]; exact hk), rfs_at _ _ _ hk, if_pos hi]
    unfold pI
    dsimp only
    rw [up1_s]
  · rw [if_neg hj]
    by_cases h79 : j < 79
    · rw [rfs_at _ _ _ h79, rfs_at _ _ _ h79]
      unfold pI
      dsimp only
      rw [up1_n _ _ (Ne.symm hj)]
    · rw [List.getElem?_eq_none (by rw [rfs_n]; omega), List.getElem?_eq_none (by rw [rfs_n]; omega)]
theorem pcl_pI (s : RS) (k : Nat) (x : Int32) : ∀ (ps : List Pc) (b : Nat), pcl (pI s k x) b ps = pcl s b ps := by
  intro ps
  induction ps with
  | nil => intro b; rfl
  | cons p ps ih => intro b; unfold pcl; rw [ih]; rfl
-- the machine's steps over the state
variable {μ : Mem} {r : Nat} {ps : List Pc}
theorem e_ck (hr : r < μ.1) (s : RS) : mck (EM μ r ps s) (some r) 12 = some r := x_ck hr _ _ _
theorem e_fI (hr : r < μ.1) (s : RS) {k : Nat} (hk : k < 79) (hi : isI k = true) : mfI (EM μ r ps s) (some r) 12 k = some (s.1 k) := by
  unfold EM
  rw [x_fI hr, rfs_at _ _ _ hk, if_pos hi]
  rfl
theorem e_fR (hr : r < μ.1) (s : RS) {k : Nat} (hk : k < 79) (hi : isI k = false) : mfR (EM μ r ps s) (some r) 12 k = some (fnd ps μ.1 k) := by
  unfold EM
  rw [x_fR hr, rfs_at _ _ _ hk, if_neg (by rw [hi]; decide)]
  rfl
theorem e_pI (hr : r < μ.1) (s : RS) {k : Nat} (hk : k < 79) (hi : isI k = true) (x : Int32) : mpI (EM μ r ps s) (some r) 12 k x = some (EM μ r ps (pI s k x)) := by
  unfold EM
  rw [x_pI hr, if_pos (by rw [rfs_n]; exact hk), rfs_pI _ _ _ hk hi, pcl_pI]
theorem e_pZ (hr : r < μ.1) (s : RS) {k : Nat} (hk : k < 79) (hi : isI k = true) (x : Int32) : mpZ (EM μ r ps s) (some r) 12 k x = (pZ s k x).map (EM μ r ps) := by
  have hp := e_pI (ps := ps) hr s hk hi x
  unfold mpZ pZ
  by_cases h : x = 0 ∨ x = 1
  · rw [if_pos h, if_pos h]
    exact hp
  · rw [if_neg h, if_neg h]; rfl
theorem e_aV (hr : r < μ.1) (s : RS) {k t n : Nat} (h : lk ps k = some (t, n, none)) : maV (EM μ r ps s) t (fnd ps μ.1 k) = some (n, .inl (s.2.1 k)) := by
  obtain ⟨o, h1, h2⟩ := at_A s μ.1 h
  rw [h1]
  exact x_maV hr _ _ h2
theorem e_aI (hr : r < μ.1) (s : RS) {k t n : Nat} (h : lk ps k = some (t, n, none)) (i : Int32) : maI (EM μ r ps s) t (fnd ps μ.1 k) i = rA n s k i := by
  unfold maI
  rw [e_aV hr s h]
  rfl
theorem e_bV (hr : r < μ.1) (hn : (ps.map (·.1)).Nodup) (s : RS) {k t n : Nat} (h : lk ps k = some (t, n, none)) (j : Nat) (x : Int32) : mbV (EM μ r ps s) t (fnd ps μ.1 k) n (.inl (upd (s.2.1 k) j x)) = some (EM μ r ps (pA s k j x)) := by
  obtain ⟨o, h1, h2⟩ := at_A s μ.1 h
  rw [h1]
  unfold mbV EM
  dsimp only
  rw [x_up hr _ _ (List.getElem?_eq_some_iff.mp h2).1]
  have := set_at (s := s) (s2 := pA s k j x) (k := k) (q := (t, n, none)) (c := .inl (t, n, .inl (upd (s.2.1 k) j x))) (j := 0) (by show 0 < 1; omega) (fun i hi => up1_n _ _ hi) (fun i hi => rfl) (fun b => by rw [pc1_A, pc1_A]; unfold pA; dsimp only; rw [up1_s]; rfl) ps μ.1 o hn h h1
  rw [Nat.add_zero] at this
  rw [this]
  rfl
theorem e_bI (hr : r < μ.1) (hn : (ps.map (·.1)).Nodup) (s : RS) {k t n : Nat} (h : lk ps k = some (t, n, none)) (i x : Int32) : mbI (EM μ r ps s) t (fnd ps μ.1 k) i x = (wA n s k i x).map (EM μ r ps) := by
  unfold mbI wA
  rw [e_aV hr s h]
  dsimp only
  by_cases hi : i < 0 ∨ n ≤ i.toNatClampNeg
  · rw [if_pos hi, if_pos hi]; rfl
  · rw [if_neg hi, if_neg hi, e_bV hr hn s h]; rfl
theorem e_bZ (hr : r < μ.1) (hn : (ps.map (·.1)).Nodup) (s : RS) {k t n : Nat} (h : lk ps k = some (t, n, none)) (i x : Int32) : mbZ (EM μ r ps s) t (fnd ps μ.1 k) i x = (wZ n s k i x).map (EM μ r ps) := by
  unfold mbZ wZ
  rw [e_aV hr s h]
  dsimp only
  by_cases hi : i < 0 ∨ n ≤ i.toNatClampNeg
  · rw [if_pos hi, if_pos hi]; rfl
  · rw [if_neg hi, if_neg hi]
    by_cases hx : x = 0 ∨ x = 1
    · rw [if_pos hx, if_pos hx, e_bV hr hn s h]; rfl
    · rw [if_neg hx, if_neg hx]; rfl
/-- where row j of the grid of field k lies -/
def rloc (ps : List Pc) (b k j : Nat) : Option Nat := (fnd ps b k).map fun o => o + 1 + j
theorem e_aR (hr : r < μ.1) (s : RS) {k n m : Nat} (h : lk ps k = some (3, n, some m)) (i : Int32) : maR (EM μ r ps s) 3 (fnd ps μ.1 k) i = (rQ n i).map (rloc ps μ.1 k) := by
  obtain ⟨o, h1, h2, _⟩ := at_Q s μ.1 h
  unfold maR rQ rloc
  rw [h1]
  unfold EM
  rw [x_maV hr _ _ h2]
  dsimp only
  by_cases hi : i < 0 ∨ n ≤ i.toNatClampNeg
  · rw [if_pos hi, if_pos hi]; rfl
  · rw [if_neg hi, if_neg hi]
    show some (if _ then _ else _) = some _
    rw [if_pos (by omega)]
    rfl
theorem e_gV (hr : r < μ.1) (s : RS) {k n m j : Nat} (h : lk ps k = some (3, n, some m)) (hj : j < n) : maV (EM μ r ps s) 0 (rloc ps μ.1 k j) = some (m, .inl (s.2.2 k j)) := by
  obtain ⟨o, h1, _, h2⟩ := at_Q s μ.1 h
  unfold rloc
  rw [h1]
  show maV _ 0 (some (μ.1 + o + 1 + j)) = _
  rw [show μ.1 + o + 1 + j = μ.1 + (o + 1 + j) by omega]
  exact x_maV hr _ _ (h2 j hj)
theorem e_gI (hr : r < μ.1) (s : RS) {k n m j : Nat} (h : lk ps k = some (3, n, some m)) (hj : j < n) (i : Int32) : maI (EM μ r ps s) 0 (rloc ps μ.1 k j) i = rG m s k j i := by
  unfold maI
  rw [e_gV hr s h hj]
  rfl
theorem e_hI (hr : r < μ.1) (hn : (ps.map (·.1)).Nodup) (s : RS) {k n m j : Nat} (h : lk ps k = some (3, n, some m)) (hj : j < n) (i x : Int32) : mbI (EM μ r ps s) 0 (rloc ps μ.1 k j) i x = (wG m s k j i x).map (EM μ r ps) := by
  unfold mbI wG
  rw [e_gV hr s h hj]
  dsimp only
  by_cases hi : i < 0 ∨ m ≤ i.toNatClampNeg
  · rw [if_pos hi, if_pos hi]; rfl
  · rw [if_neg hi, if_neg hi]
    obtain ⟨o, h1, _, h2⟩ := at_Q s μ.1 h
    unfold rloc
    rw [h1]
    unfold mbV EM
    show some _ = some _
    congr 1
    dsimp only
    rw [show μ.1 + o + 1 + j = μ.1 + (o + 1 + j) by omega, x_up hr _ _ (List.getElem?_eq_some_iff.mp (h2 j hj)).1]
    have := set_at (s := s) (s2 := pG s k j i.toNatClampNeg x) (k := k) (q := (3, n, some m)) (c := .inl (0, m, .inl (upd (s.2.2 k j) i.toNatClampNeg x))) (j := 1 + j) (by show 1 + j < 1 + n; omega) (fun i hi => rfl) (fun i hi => up1_n _ _ hi) (fun b => ?_) ps μ.1 o hn h h1
    · rw [show o + 1 + j = o + (1 + j) by omega, this]
      rfl
    · unfold pc1 pG
      dsimp only
      rw [Nat.add_comm 1 j, List.set_cons_succ, up1_s]
      congr 1
      apply List.ext_getElem?
      intro a
      rw [List.getElem?_set, List.getElem?_map, List.getElem?_map, List.length_map, List.length_range]
      by_cases ha : j = a
      · subst ha
        rw [if_pos rfl, if_pos hj, List.getElem?_range hj]
        show some _ = some _
        dsimp only
        rw [up1_s]
      · rw [if_neg ha]
        by_cases ha2 : a < n
        · rw [List.getElem?_range ha2]
          show some _ = some _
          dsimp only
          rw [up1_n _ _ (Ne.symm ha)]
        · rw [List.getElem?_eq_none (by simp; omega)]
          rfl
-- a new piece
theorem pcl_app (s : RS) (p : Pc) : ∀ (ps : List Pc) (b : Nat), pcl s b (ps ++ [p]) = pcl s b ps ++ pc1 s (b + (pcl s b ps).length) p := by
  intro ps
  induction ps with
  | nil => intro b; show pc1 s b p ++ [] = [] ++ pc1 s (b + 0) p; simp
  | cons q ps ih =>
    intro b
    show pc1 s b q ++ pcl s (b + psz q) (ps ++ [p]) = (pc1 s b q ++ pcl s (b + psz q) ps) ++ pc1 s (b + (pc1 s b q ++ pcl s (b + psz q) ps).length) p
    rw [ih, List.append_assoc, List.length_append, pc1_len, Nat.add_assoc]
theorem fnd_app (p : Pc) (s : RS) (k : Nat) : ∀ (ps : List Pc) (b : Nat), fnd (ps ++ [p]) b k = if fnd ps b k = none then (if p.1 = k then some (b + (pcl s b ps).length) else none) else fnd ps b k := by
  intro ps
  induction ps with
  | nil => intro b; rfl
  | cons q ps ih =>
    intro b
    show (if q.1 = k then some b else fnd (ps ++ [p]) (b + psz q) k) = if (if q.1 = k then some b else fnd ps (b + psz q) k) = none then (if p.1 = k then some (b + (pcl s b (q :: ps)).length) else none) else (if q.1 = k then some b else fnd ps (b + psz q) k)
    by_cases hq : q.1 = k
    · rw [if_pos hq, if_pos hq, if_neg (by simp)]
    · rw [if_neg hq, if_neg hq, ih, pcl, List.length_append, pc1_len, Nat.add_assoc]
theorem rfs_app (s : RS) (ps : List Pc) (b k : Nat) (q : Nat × Nat × Option Nat) (hk : k < 79) (hi : isI k = false) (hf : fnd ps b k = none) : (rfs s ps b).set k (aR (some (b + (pcl s b ps).length))) = rfs s (ps ++ [(k, q)]) b := by
  apply List.ext_getElem?
  intro j
  rw [List.getElem?_set]
  by_cases hj : k = j
  · subst hj
    rw [if_pos rfl, if_pos (by rw [rfs_n]; exact hk), rfs_at _ _ _ hk, if_neg (by rw [hi]; decide), fnd_app _ s, if_pos hf, if_pos rfl]
  · rw [if_neg hj]
    by_cases h79 : j < 79
    · rw [rfs_at _ _ _ h79, rfs_at _ _ _ h79]
      congr 2
      rw [fnd_app _ s]
      by_cases h0 : fnd ps b j = none
      · rw [if_pos h0, if_neg (show ¬ k = j from hj), h0]
      · rw [if_neg h0]
    · rw [List.getElem?_eq_none (by rw [rfs_n]; omega), List.getElem?_eq_none (by rw [rfs_n]; omega)]
/-- a state whose arrays are 0 -/
def z0 (I : Nat → Int32) (s : RS) : RS := (I, s.2)
theorem e_na (hr : r < μ.1) (s : RS) {k t n : Nat} (hk : k < 79) (hi : isI k = false) (hf : fnd ps μ.1 k = none) (hs : s.2.1 k = fun _ => 0) : mpR (mnaI (EM μ r ps s) t n) (some r) 12 k (some (EM μ r ps s).1) = some (EM μ r (ps ++ [(k, t, n, none)]) s) := by
  unfold EM
  rw [x_naI hr, x_pR hr, if_pos (by rw [rfs_n]; exact hk)]
  rw [show (ext μ r (.inr (12, rfs s ps μ.1)) (pcl s μ.1 ps)).1 = μ.1 + (pcl s μ.1 ps).length from rfl, rfs_app s ps μ.1 k (t, n, none) hk hi hf, pcl_app, pc1_A, hs]
theorem ext_mmna (hr : r < μ.1) (E : ACl) (L : List ACl) (n m : Nat) : mmna (ext μ r E L) n m = ext μ r E (L ++ (.inl (3, n, .inr (.inr (fun i => if i < n then some (μ.1 + L.length + 1 + i) else none))) :: (List.range n).map (fun _ => .inl (0, m, .inl (fun _ => 0))))) := by
  refine mem_eq ?_ fun b => ?_
  · unfold mmna ext; simp; omega
  · show (if b = (ext μ r E L).1 then _ else if (ext μ r E L).1 < b ∧ b ≤ (ext μ r E L).1 + n then _ else (ext μ r E L).2 b) = _
    rw [ext_n]
    by_cases h1 : b = μ.1 + L.length
    · rw [if_pos h1]
      subst h1
      symm
      refine ext_new _ _ hr ?_
      rw [List.getElem?_append_right (Nat.le_refl _), Nat.sub_self]
      rfl
    · rw [if_neg h1]
      by_cases h2 : μ.1 + L.length < b ∧ b ≤ μ.1 + L.length + n
      · rw [if_pos h2]
        obtain ⟨j, rfl⟩ : ∃ j, b = μ.1 + (L.length + (1 + j)) := ⟨b - μ.1 - L.length - 1, by omega⟩
        symm
        refine ext_new _ _ hr ?_
        rw [List.getElem?_append_right (by omega), show L.length + (1 + j) - L.length = j + 1 by omega, List.getElem?_cons_succ, List.getElem?_map, List.getElem?_range (by omega)]
        rfl
      · rw [if_neg h2]
        by_cases h3 : b = r
        · subst h3; rw [ext_a, ext_a]
        · by_cases h4 : b < μ.1
          · rw [ext_old _ _ h3 h4, ext_old _ _ h3 h4]
          · by_cases h5 : b < μ.1 + L.length
            · obtain ⟨j, rfl⟩ : ∃ j, b = μ.1 + j := ⟨b - μ.1, by omega⟩
              rw [ext_new E L hr (List.getElem?_eq_getElem (by omega)), ext_new _ _ hr (c := L[j]) (by rw [List.getElem?_append_left (by omega), List.getElem?_eq_getElem])]
            · rw [ext_far _ _ h3 (by omega), ext_far _ _ h3 (by simp; omega)]
theorem e_nq (hr : r < μ.1) (s : RS) {k n m : Nat} (hk : k < 79) (hi : isI k = false) (hf : fnd ps μ.1 k = none) (hs : s.2.2 k = fun _ _ => 0) : mpR (mmna (EM μ r ps s) n m) (some r) 12 k (some (EM μ r ps s).1) = some (EM μ r (ps ++ [(k, 3, n, some m)]) s) := by
  unfold EM
  rw [ext_mmna hr, x_pR hr, if_pos (by rw [rfs_n]; exact hk)]
  rw [show (ext μ r (.inr (12, rfs s ps μ.1)) (pcl s μ.1 ps)).1 = μ.1 + (pcl s μ.1 ps).length from rfl, rfs_app s ps μ.1 k (3, n, some m) hk hi hf, pcl_app]
  congr 4
  dsimp only
  rw [hs]
