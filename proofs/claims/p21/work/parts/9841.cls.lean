/-! LAYER 2, ShareEight as a typed state: numbers (class, which one, field), rows of numbers, the names' letters, references that change (which one), the queue -/
abbrev CS : Type := (Nat → Nat → Nat → Int32) × (Nat → Nat → Nat → Nat → Int32) × (Nat → Int64) × (Nat → Nat → Nat → Option Nat) × (Nat → Option Nat)
def up3 {α : Type} (f : Nat → Nat → Nat → α) (a b c : Nat) (x : α) : Nat → Nat → Nat → α := fun i j k => if i = a ∧ j = b ∧ k = c then x else f i j k
theorem up3_s {α : Type} (f : Nat → Nat → Nat → α) (a b c : Nat) (x : α) : up3 f a b c x a b c = x := by unfold up3; rw [if_pos ⟨rfl, rfl, rfl⟩]
theorem up3_n {α : Type} (f : Nat → Nat → Nat → α) {a b c i j k : Nat} (x : α) (h : ¬ (i = a ∧ j = b ∧ k = c)) : up3 f a b c x i j k = f i j k := by unfold up3; rw [if_neg h]
def qI (t : CS) (ci j k : Nat) (x : Int32) : CS := (up3 t.1 ci j k x, t.2)
def qF (t : CS) (ci j k : Nat) (f : Nat → Int32) : CS := (t.1, up3 t.2.1 ci j k f, t.2.2)
def qA (t : CS) (ci j k i : Nat) (x : Int32) : CS := qF t ci j k (upd (t.2.1 ci j k) i x)
def qJ (t : CS) (i : Nat) (x : Int64) : CS := (t.1, t.2.1, vp_updL t.2.2.1 i x, t.2.2.2)
def qR (t : CS) (ci j k : Nat) (x : Option Nat) : CS := (t.1, t.2.1, t.2.2.1, up3 t.2.2.2.1 ci j k x, t.2.2.2.2)
def qQ (t : CS) (i : Nat) (x : Option Nat) : CS := (t.1, t.2.1, t.2.2.1, t.2.2.2.1, va_up t.2.2.2.2 i x)
def keys (U S : Nat) : List (Nat × Nat × Nat) := [(11, 0, 1), (0, 0, 0), (4, 0, 0), (4, 0, 1), (4, 0, 2), (4, 0, 3), (9, 0, 0), (9, 0, 2), (9, 0, 3), (9, 0, 4), (9, 0, 5), (9, 0, 7), (7, 0, 0), (7, 0, 1), (7, 1, 0), (7, 1, 1), (2, 0, 0), (1, 0, 0), (3, 0, 0), (2, 0, 1)] ++ ((List.range U).flatMap (fun i => [(10, i, 0), (10, i, 2), (10, i, 3), (10, i, 4), (6, 2 * i, 0), (6, 2 * i, 1), (6, 2 * i + 1, 0), (6, 2 * i + 1, 1)]) ++ ([(2, 0, 2)] ++ ((List.range S).flatMap (fun j => [(8, j, 0), (8, j, 2)]) ++ [(5, 0, 0), (5, 0, 1)])))
def kN (U S : Nat) : Bool := decide (keys U S).Nodup && !((keys U S).contains (11, 0, 0))
set_option maxRecDepth 100000 in
theorem kN_all : ((List.range 7).all fun U => (List.range 5).all fun S => kN U S) = true := by decide +kernel
theorem keys_nd (U : Nat) (hU : U < 7) (S : Nat) (hS : S < 5) : (keys U S).Nodup ∧ (11, 0, 0) ∉ keys U S := by
  have h := List.all_eq_true.mp (List.all_eq_true.mp kN_all U (List.mem_range.mpr hU)) S (List.mem_range.mpr hS)
  unfold kN at h
  rw [Bool.and_eq_true] at h
  refine ⟨of_decide_eq_true h.1, fun e => ?_⟩
  have h2 := h.2
  rw [List.contains_iff_mem.mpr e] at h2
  exact absurd h2 (by decide)
/-- the fields that refer: class, field -> 1 a user, 2 a slot, 3 a sheet (these change), 4 the bytes, else 10 and a key's class, number (100: that of this one, 101: twice, 102: twice and 1), piece -/
def rfT : List (Nat × Nat × Nat × Nat × Nat × Nat) := [(11, 0, 10, 11, 0, 1), (11, 2, 10, 0, 0, 0), (11, 3, 10, 2, 0, 0), (0, 0, 10, 4, 0, 0), (0, 1, 10, 9, 0, 0), (0, 2, 3, 0, 0, 0), (0, 3, 3, 0, 0, 0), (1, 1, 1, 0, 0, 0), (1, 2, 2, 0, 0, 0), (2, 0, 10, 2, 0, 1), (2, 1, 10, 2, 0, 2), (2, 2, 10, 5, 0, 0), (2, 3, 10, 1, 0, 0), (2, 4, 10, 3, 0, 0), (2, 8, 1, 0, 0, 0), (4, 0, 10, 4, 0, 1), (4, 1, 10, 4, 0, 2), (4, 2, 10, 4, 0, 3), (5, 0, 10, 5, 0, 1), (6, 0, 10, 6, 100, 1), (7, 0, 10, 7, 100, 1), (8, 1, 10, 8, 100, 2), (8, 2, 1, 0, 0, 0), (9, 0, 10, 4, 0, 0), (9, 1, 10, 9, 0, 2), (9, 2, 10, 9, 0, 3), (9, 3, 10, 9, 0, 4), (9, 4, 10, 9, 0, 5), (9, 6, 4, 0, 0, 0), (10, 1, 10, 10, 100, 2), (10, 2, 10, 10, 100, 3), (10, 3, 10, 10, 100, 4), (10, 4, 10, 6, 101, 0), (10, 5, 10, 6, 102, 0), (10, 19, 2, 0, 0, 0)]
def rfK : List (Nat × Nat × Nat × Nat × Nat × Nat) → Nat → Nat → Option (Nat × Nat × Nat × Nat)
  | [], _, _ => none
  | p :: ps, ci, k => if p.1 = ci then (if p.2.1 = k then some p.2.2 else rfK ps ci k) else rfK ps ci k
def nfT : List Nat := [11, 8, 12, 2, 5, 2, 3, 2, 5, 9, 20, 4]
def nf (ci : Nat) : Nat := nfT.getD ci 0
def wh (w j : Nat) : Nat := if w = 100 then j else if w = 101 then 2 * j else if w = 102 then 2 * j + 1 else w
section
variable (ad : Nat × Nat × Nat → Option Nat)
def tg (c : Nat) : Nat := if c = 1 then 10 else if c = 2 then 8 else 7
def byt (b : Nat) : Nat × Nat × Nat := if b = 0 then (9, 0, 7) else (11, 0, 1)
def fv (t : CS) (ci j k : Nat) : AV := match rfK rfT ci k with
  | none => aI (t.1 ci j k)
  | some (c, x, w, y) => if c = 10 then aR (ad (x, wh w j, y)) else if c = 4 then aR ((t.2.2.2.1 ci j k).bind fun b => ad (byt b)) else aR ((t.2.2.2.1 ci j k).bind fun b => ad (tg c, b, 0))
def fl (t : CS) (ci j : Nat) : List AV := (List.range (nf ci)).map (fv ad t ci j)
def lnT : List (Nat × Nat × Nat) := [(11, 1, 2000), (4, 2, 1054), (4, 3, 1054), (9, 2, 2001), (9, 3, 2001), (9, 4, 2001), (9, 5, 2001), (9, 7, 0), (7, 1, 4096), (10, 2, 4096), (10, 3, 1024), (10, 4, 500), (6, 1, 16), (8, 2, 4096)]
def lnK : List (Nat × Nat × Nat) → Nat → Nat → Nat
  | [], _, _ => 0
  | p :: ps, ci, k => if p.1 = ci then (if p.2.1 = k then p.2.2 else lnK ps ci k) else lnK ps ci k
def cel (U S : Nat) (t : CS) (K : Nat × Nat × Nat) : ACl := if K.2.2 = 0 then .inr (K.1, fl ad t K.1 K.2.1) else if K = (4, 0, 1) then .inl (1, 1054, .inr (.inl t.2.2.1)) else if K = (2, 0, 1) then .inl (4, U, .inr (.inr (fun i => if i < U then ad (10, i, 0) else none))) else if K = (2, 0, 2) then .inl (5, S, .inr (.inr (fun i => if i < S then ad (8, i, 0) else none))) else if K = (5, 0, 1) then .inl (4, U, .inr (.inr (fun i => (t.2.2.2.2 i).bind fun b => ad (10, b, 0)))) else .inl (0, lnK lnT K.1 K.2.2, .inl (t.2.1 K.1 K.2.1 (K.2.2 - 1)))
end
/-- a memory, and where the class's cells begin in it -/
abbrev BM : Type := Nat × Mem
def adr (μ : BM) (a U S : Nat) (K : Nat × Nat × Nat) : Option Nat := if K = (11, 0, 0) then some a else if K ∈ keys U S then some (μ.1 + (keys U S).idxOf K) else none
/-- the memory with the class's cells as t says -/
def EC (μ : BM) (a U S : Nat) (t : CS) : Mem := (μ.2.1, (ext (μ.1, μ.2.2) a (cel (adr μ a U S) U S t (11, 0, 0)) ((keys U S).map (cel (adr μ a U S) U S t))).2)
def Wd (μ : BM) (a U S : Nat) : Prop := a < μ.1 ∧ U < 7 ∧ S < 5 ∧ μ.1 + (keys U S).length ≤ μ.2.1
def inK (U S : Nat) (K : Nat × Nat × Nat) : Prop := K = (11, 0, 0) ∨ K ∈ keys U S
section
variable {μ : BM} {a U S : Nat}
theorem adr_k {K : Nat × Nat × Nat} (W : Wd μ a U S) (h : K ∈ keys U S) : adr μ a U S K = some (μ.1 + (keys U S).idxOf K) := by
  unfold adr
  have := (keys_nd U W.2.1 S W.2.2.1).2
  rw [if_neg (fun e : K = (11, 0, 0) => this (e ▸ h)), if_pos h]
theorem kx {K : Nat × Nat × Nat} (h : K ∈ keys U S) {α : Type} (f : Nat × Nat × Nat → α) : ((keys U S).map f)[(keys U S).idxOf K]? = some (f K) := by
  rw [List.getElem?_map, List.getElem?_eq_getElem (List.idxOf_lt_length_of_mem h), List.getElem_idxOf]
  rfl
theorem EC_at (W : Wd μ a U S) (t : CS) {K : Nat × Nat × Nat} (h : inK U S K) : ∃ b, adr μ a U S K = some b ∧ b < (EC μ a U S t).1 ∧ (EC μ a U S t).2 b = cel (adr μ a U S) U S t K := by
  have w1 := W.1
  have w2 := W.2.2.2
  rcases h with rfl | h
  · refine ⟨a, by unfold adr; rw [if_pos rfl], ?_, ext_a _ _ _ _⟩
    show a < μ.2.1
    omega
  · refine ⟨_, adr_k W h, ?_, ext_new (μ := (μ.1, μ.2.2)) _ _ W.1 (kx h _)⟩
    show _ < μ.2.1
    have := List.idxOf_lt_length_of_mem h
    omega
/-- a cell is changed -/
theorem EC_up (W : Wd μ a U S) (t t2 : CS) {K : Nat × Nat × Nat} (h : inK U S K) (ho : ∀ K', K' ≠ K → inK U S K' → cel (adr μ a U S) U S t2 K' = cel (adr μ a U S) U S t K') {b : Nat} (hb : adr μ a U S K = some b) : ((EC μ a U S t).1, va_up (EC μ a U S t).2 b (cel (adr μ a U S) U S t2 K)) = EC μ a U S t2 := by
  have hroot := (keys_nd U W.2.1 S W.2.2.1).2
  rcases h with rfl | h
  · unfold adr at hb
    rw [if_pos rfl] at hb
    cases hb
    have hm : (keys U S).map (cel (adr μ a U S) U S t2) = (keys U S).map (cel (adr μ a U S) U S t) := List.map_congr_left fun K' hK' => ho K' (fun e => hroot (e ▸ hK')) (Or.inr hK')
    unfold EC
    rw [hm]
    refine mem_eq rfl fun c => ?_
    unfold va_up ext
    dsimp only
    by_cases hc : c = a
    · rw [if_pos hc, if_pos hc]
    · rw [if_neg hc, if_neg hc]; simp only [hc, if_false]
  · rw [adr_k W h] at hb
    cases hb
    have hlt := List.idxOf_lt_length_of_mem h
    have hx := x_up (μ := (μ.1, μ.2.2)) W.1 (cel (adr μ a U S) U S t (11, 0, 0)) ((keys U S).map (cel (adr μ a U S) U S t)) (i := (keys U S).idxOf K) (by rw [List.length_map]; exact hlt) (cel (adr μ a U S) U S t2 K)
    have hx2 := congrArg Prod.snd hx
    dsimp only at hx2
    unfold EC
    refine mem_eq rfl fun c => ?_
    show va_up _ _ _ c = _
    rw [hx2, ho (11, 0, 0) (fun e => hroot (e ▸ h)) (Or.inl rfl)]
    suffices hL : (List.map (cel (adr μ a U S) U S t) (keys U S)).set (List.idxOf K (keys U S)) (cel (adr μ a U S) U S t2 K) = List.map (cel (adr μ a U S) U S t2) (keys U S) by rw [hL]
    apply List.ext_getElem?
    intro i
    rw [List.getElem?_set, List.length_map]
    by_cases hi : (keys U S).idxOf K = i
    · subst hi
      rw [if_pos rfl, if_pos hlt, kx h]
    · rw [if_neg hi, List.getElem?_map, List.getElem?_map]
      by_cases hil : i < (keys U S).length
      · rw [List.getElem?_eq_getElem hil]
        show some _ = some _
        congr 1
        symm
        refine ho _ (fun e => hi ?_) (Or.inr (List.getElem_mem hil))
        rw [← e]
        exact List.Nodup.idxOf_getElem (keys_nd U W.2.1 S W.2.2.1).1 i hil
      · rw [List.getElem?_eq_none (by omega)]
        rfl
theorem adr_inj (W : Wd μ a U S) {K L : Nat × Nat × Nat} (hK : K ∈ keys U S) (hL : L ∈ keys U S) (h : adr μ a U S K = adr μ a U S L) : K = L := by
  rw [adr_k W hK, adr_k W hL] at h
  have h2 : (keys U S).idxOf K = (keys U S).idxOf L := by have := Option.some.inj h; omega
  have e1 := List.getElem_idxOf (List.idxOf_lt_length_of_mem hK)
  have e2 := List.getElem_idxOf (List.idxOf_lt_length_of_mem hL)
  rw [← e1, ← e2]
  congr 1
theorem cel_o (ad : Nat × Nat × Nat → Option Nat) (t : CS) (ci j : Nat) : cel ad U S t (ci, j, 0) = .inr (ci, fl ad t ci j) := by unfold cel; rw [if_pos rfl]
theorem fl_n (ad : Nat × Nat × Nat → Option Nat) (t : CS) (ci j : Nat) : (fl ad t ci j).length = nf ci := by unfold fl; simp
theorem fl_at (ad : Nat × Nat × Nat → Option Nat) (t : CS) (ci j : Nat) {k : Nat} (hk : k < nf ci) : (fl ad t ci j)[k]? = some (fv ad t ci j k) := by
  unfold fl
  rw [List.getElem?_map, List.getElem?_range hk]
  rfl
theorem o_ck (W : Wd μ a U S) (t : CS) {ci j : Nat} (h : inK U S (ci, j, 0)) : ∃ b, adr μ a U S (ci, j, 0) = some b ∧ mck (EC μ a U S t) (some b) ci = some b := by
  obtain ⟨b, h1, h2, h3⟩ := EC_at W t h
  refine ⟨b, h1, ?_⟩
  unfold mck
  dsimp only
  rw [if_pos h2, h3, cel_o]
  dsimp only
  rw [if_pos rfl]
theorem o_fV (W : Wd μ a U S) (t : CS) {ci j k : Nat} (h : inK U S (ci, j, 0)) (hk : k < nf ci) : mfV (EC μ a U S t) (adr μ a U S (ci, j, 0)) ci k = some (fv (adr μ a U S) t ci j k) := by
  obtain ⟨b, h1, h2, h3⟩ := EC_at W t h
  rw [h1]
  unfold mfV
  dsimp only
  rw [if_pos h2, h3, cel_o]
  dsimp only
  rw [if_pos rfl, fl_at _ _ _ _ hk]
theorem o_fI (W : Wd μ a U S) (t : CS) {ci j k : Nat} (h : inK U S (ci, j, 0)) (hk : k < nf ci) (hf : rfK rfT ci k = none) : mfI (EC μ a U S t) (adr μ a U S (ci, j, 0)) ci k = some (t.1 ci j k) := by
  unfold mfI
  rw [o_fV W t h hk]
  unfold fv
  rw [hf]
theorem o_fR (W : Wd μ a U S) (t : CS) {ci j k : Nat} (h : inK U S (ci, j, 0)) (hk : k < nf ci) {x w y : Nat} (hf : rfK rfT ci k = some (10, x, w, y)) : mfR (EC μ a U S t) (adr μ a U S (ci, j, 0)) ci k = some (adr μ a U S (x, wh w j, y)) := by
  unfold mfR
  rw [o_fV W t h hk]
  unfold fv
  rw [hf]
  rfl
theorem o_fD (W : Wd μ a U S) (t : CS) {ci j k : Nat} (h : inK U S (ci, j, 0)) (hk : k < nf ci) {c x w y : Nat} (hf : rfK rfT ci k = some (c, x, w, y)) (h10 : c ≠ 10) (h4 : c ≠ 4) : mfR (EC μ a U S t) (adr μ a U S (ci, j, 0)) ci k = some ((t.2.2.2.1 ci j k).bind fun b => adr μ a U S (tg c, b, 0)) := by
  unfold mfR
  rw [o_fV W t h hk]
  unfold fv
  rw [hf]
  simp only [h10, h4, if_false]
theorem o_fB (W : Wd μ a U S) (t : CS) {ci j k : Nat} (h : inK U S (ci, j, 0)) (hk : k < nf ci) {x w y : Nat} (hf : rfK rfT ci k = some (4, x, w, y)) : mfR (EC μ a U S t) (adr μ a U S (ci, j, 0)) ci k = some ((t.2.2.2.1 ci j k).bind fun b => adr μ a U S (byt b)) := by
  unfold mfR
  rw [o_fV W t h hk]
  unfold fv
  rw [hf]
  rfl
/-- an object's cell after one field is put -/
theorem o_pV (W : Wd μ a U S) (t t2 : CS) {ci j k : Nat} (h : inK U S (ci, j, 0)) (hk : k < nf ci) (v : AV) (hv : fv (adr μ a U S) t2 ci j k = v) (hs : ∀ k', k' ≠ k → fv (adr μ a U S) t2 ci j k' = fv (adr μ a U S) t ci j k') (ho : ∀ K', K' ≠ (ci, j, 0) → inK U S K' → cel (adr μ a U S) U S t2 K' = cel (adr μ a U S) U S t K') : mpV (EC μ a U S t) (adr μ a U S (ci, j, 0)) ci k v = some (EC μ a U S t2) := by
  obtain ⟨b, h1, h2, h3⟩ := EC_at W t h
  rw [h1]
  unfold mpV
  dsimp only
  rw [if_pos h2, h3, cel_o]
  dsimp only
  rw [if_pos ⟨rfl, by rw [fl_n]; exact hk⟩, ← EC_up W t t2 h ho h1, cel_o]
  congr 5
  apply List.ext_getElem?
  intro i
  rw [List.getElem?_set]
  by_cases hi : k = i
  · subst hi
    rw [if_pos rfl, if_pos (by rw [fl_n]; exact hk), fl_at _ _ _ _ hk, hv]
  · rw [if_neg hi]
    by_cases hl : i < nf ci
    · rw [fl_at _ _ _ _ hl, fl_at _ _ _ _ hl, hs _ (Ne.symm hi)]
    · rw [List.getElem?_eq_none (by rw [fl_n]; omega), List.getElem?_eq_none (by rw [fl_n]; omega)]
theorem fl_o {ad : Nat × Nat × Nat → Option Nat} {t t2 : CS} {ci j : Nat} (h : ∀ k, fv ad t2 ci j k = fv ad t ci j k) : fl ad t2 ci j = fl ad t ci j := by
  unfold fl
  exact List.map_congr_left fun k _ => h k
theorem fv_qI (ad : Nat × Nat × Nat → Option Nat) (t : CS) (ci j k ci2 j2 k2 : Nat) (x : Int32) (h : ¬ (ci2 = ci ∧ j2 = j ∧ k2 = k)) : fv ad (qI t ci j k x) ci2 j2 k2 = fv ad t ci2 j2 k2 := by
  unfold fv qI
  dsimp only
  rw [up3_n _ _ h]
theorem fv_qR (ad : Nat × Nat × Nat → Option Nat) (t : CS) (ci j k ci2 j2 k2 : Nat) (x : Option Nat) (h : ¬ (ci2 = ci ∧ j2 = j ∧ k2 = k)) : fv ad (qR t ci j k x) ci2 j2 k2 = fv ad t ci2 j2 k2 := by
  unfold fv qR
  dsimp only
  rw [up3_n _ _ h]
theorem cel_ob {ad : Nat × Nat × Nat → Option Nat} {t t2 : CS} {ci j : Nat} (h1 : t2.2.1 = t.2.1) (h2 : t2.2.2.1 = t.2.2.1) (h3 : t2.2.2.2.2 = t.2.2.2.2) (h : ∀ ci2 j2 k2, ¬ (ci2 = ci ∧ j2 = j) → fv ad t2 ci2 j2 k2 = fv ad t ci2 j2 k2) : ∀ K', K' ≠ (ci, j, 0) → inK U S K' → cel ad U S t2 K' = cel ad U S t K' := by
  intro K' hK _
  obtain ⟨c2, j2, p⟩ := K'
  unfold cel
  rw [h1, h2, h3]
  by_cases hp : p = 0
  · subst hp
    rw [if_pos rfl, if_pos rfl]
    dsimp only
    rw [fl_o fun k => h c2 j2 k (fun e => hK (by rw [e.1, e.2]))]
  · rw [if_neg hp, if_neg hp]
theorem o_pI (W : Wd μ a U S) (t : CS) {ci j k : Nat} (h : inK U S (ci, j, 0)) (hk : k < nf ci) (hf : rfK rfT ci k = none) (x : Int32) : mpI (EC μ a U S t) (adr μ a U S (ci, j, 0)) ci k x = some (EC μ a U S (qI t ci j k x)) := by
  refine o_pV W t (qI t ci j k x) h hk (aI x) ?_ (fun k' hk' => fv_qI _ _ _ _ _ _ _ _ _ (fun e => hk' e.2.2)) (cel_ob rfl rfl rfl fun c2 j2 k2 hn => fv_qI _ _ _ _ _ _ _ _ _ (fun e => hn ⟨e.1, e.2.1⟩))
  unfold fv
  rw [hf]
  show aI (up3 t.1 ci j k x ci j k) = aI x
  rw [up3_s]
theorem o_pZ (W : Wd μ a U S) (t : CS) {ci j k : Nat} (h : inK U S (ci, j, 0)) (hk : k < nf ci) (hf : rfK rfT ci k = none) (x : Int32) (hx : x = 0 ∨ x = 1) : mpZ (EC μ a U S t) (adr μ a U S (ci, j, 0)) ci k x = some (EC μ a U S (qI t ci j k x)) := by
  unfold mpZ
  rw [if_pos hx]
  exact o_pI W t h hk hf x
theorem o_pR (W : Wd μ a U S) (t : CS) {ci j k : Nat} (h : inK U S (ci, j, 0)) (hk : k < nf ci) {c x0 w y : Nat} (hf : rfK rfT ci k = some (c, x0, w, y)) (h10 : c ≠ 10) (h4 : c ≠ 4) (x : Option Nat) : mpR (EC μ a U S t) (adr μ a U S (ci, j, 0)) ci k (x.bind fun b => adr μ a U S (tg c, b, 0)) = some (EC μ a U S (qR t ci j k x)) := by
  refine o_pV W t (qR t ci j k x) h hk (aR _) ?_ (fun k' hk' => fv_qR _ _ _ _ _ _ _ _ _ (fun e => hk' e.2.2)) (cel_ob rfl rfl rfl fun c2 j2 k2 hn => fv_qR _ _ _ _ _ _ _ _ _ (fun e => hn ⟨e.1, e.2.1⟩))
  unfold fv
  rw [hf]
  simp only [h10, h4, if_false]
  show aR ((up3 t.2.2.2.1 ci j k x ci j k).bind _) = aR _
  rw [up3_s]
theorem o_pB (W : Wd μ a U S) (t : CS) {ci j k : Nat} (h : inK U S (ci, j, 0)) (hk : k < nf ci) {x0 w y : Nat} (hf : rfK rfT ci k = some (4, x0, w, y)) (x : Option Nat) : mpR (EC μ a U S t) (adr μ a U S (ci, j, 0)) ci k (x.bind fun b => adr μ a U S (byt b)) = some (EC μ a U S (qR t ci j k x)) := by
  refine o_pV W t (qR t ci j k x) h hk (aR _) ?_ (fun k' hk' => fv_qR _ _ _ _ _ _ _ _ _ (fun e => hk' e.2.2)) (cel_ob rfl rfl rfl fun c2 j2 k2 hn => fv_qR _ _ _ _ _ _ _ _ _ (fun e => hn ⟨e.1, e.2.1⟩))
  unfold fv
  rw [hf]
  show aR ((up3 t.2.2.2.1 ci j k x ci j k).bind _) = aR _
  rw [up3_s]
-- arrays of numbers
def isA (ci p : Nat) : Bool := lnT.any fun q => q.1 == ci && q.2.1 == p
theorem cel_a (ad : Nat × Nat × Nat → Option Nat) (t : CS) {ci j k : Nat} (h : isA ci (k + 1) = true) : cel ad U S t (ci, j, k + 1) = .inl (0, lnK lnT ci (k + 1), .inl (t.2.1 ci j k)) := by
  unfold cel
  rw [if_neg (show ¬ k + 1 = 0 by omega)]
  have n1 : ¬ ((ci, j, k + 1) : Nat × Nat × Nat) = (4, 0, 1) := by
    intro e; simp only [Prod.mk.injEq] at e; rw [e.1, e.2.2] at h; exact absurd h (by decide)
  have n2 : ¬ ((ci, j, k + 1) : Nat × Nat × Nat) = (2, 0, 1) := by
    intro e; simp only [Prod.mk.injEq] at e; rw [e.1, e.2.2] at h; exact absurd h (by decide)
  have n3 : ¬ ((ci, j, k + 1) : Nat × Nat × Nat) = (2, 0, 2) := by
    intro e; simp only [Prod.mk.injEq] at e; rw [e.1, e.2.2] at h; exact absurd h (by decide)
  have n4 : ¬ ((ci, j, k + 1) : Nat × Nat × Nat) = (5, 0, 1) := by
    intro e; simp only [Prod.mk.injEq] at e; rw [e.1, e.2.2] at h; exact absurd h (by decide)
  rw [if_neg n1, if_neg n2, if_neg n3, if_neg n4]
  rfl
theorem o_aV (W : Wd μ a U S) (t : CS) {ci j k : Nat} (h : inK U S (ci, j, k + 1)) (hA : isA ci (k + 1) = true) : maV (EC μ a U S t) 0 (adr μ a U S (ci, j, k + 1)) = some (lnK lnT ci (k + 1), .inl (t.2.1 ci j k)) := by
  obtain ⟨b, h1, h2, h3⟩ := EC_at W t h
  rw [h1]
  unfold maV
  dsimp only
  rw [if_pos h2, h3, cel_a _ _ hA]
  dsimp only
  rw [if_pos rfl]
def rH (n : Nat) (t : CS) (ci j k : Nat) (i : Int32) : Option Int32 := if i < 0 ∨ n ≤ i.toNatClampNeg then none else some (t.2.1 ci j k i.toNatClampNeg)
def wH (n : Nat) (t : CS) (ci j k : Nat) (i x : Int32) : Option CS := if i < 0 ∨ n ≤ i.toNatClampNeg then none else some (qA t ci j k i.toNatClampNeg x)
theorem o_aI (W : Wd μ a U S) (t : CS) {ci j k : Nat} (h : inK U S (ci, j, k + 1)) (hA : isA ci (k + 1) = true) (i : Int32) : maI (EC μ a U S t) 0 (adr μ a U S (ci, j, k + 1)) i = rH (lnK lnT ci (k + 1)) t ci j k i := by
  unfold maI
  rw [o_aV W t h hA]
  rfl
theorem cel_qF (ad : Nat × Nat × Nat → Option Nat) (t : CS) {ci j k : Nat} (f : Nat → Int32) : ∀ K', K' ≠ (ci, j, k + 1) → inK U S K' → cel ad U S (qF t ci j k f) K' = cel ad U S t K' := by
  intro K' hK _
  obtain ⟨c2, j2, p⟩ := K'
  unfold cel
  dsimp only
  have e1 : (qF t ci j k f).2.1 c2 j2 (p - 1) = if c2 = ci ∧ j2 = j ∧ p - 1 = k then f else t.2.1 c2 j2 (p - 1) := rfl
  by_cases hp : p = 0
  · rw [if_pos hp, if_pos hp]
    rfl
  · have hne : ¬ (c2 = ci ∧ j2 = j ∧ p - 1 = k) := by
      intro e
      refine hK ?_
      obtain ⟨rfl, rfl, e3⟩ := e
      rw [show p = k + 1 by omega]
    rw [if_neg hp, if_neg hp, e1, if_neg hne]
    rfl
theorem o_bV (W : Wd μ a U S) (t : CS) {ci j k : Nat} (h : inK U S (ci, j, k + 1)) (hA : isA ci (k + 1) = true) (f : Nat → Int32) : mbV (EC μ a U S t) 0 (adr μ a U S (ci, j, k + 1)) (lnK lnT ci (k + 1)) (.inl f) = some (EC μ a U S (qF t ci j k f)) := by
  obtain ⟨b, h1, h2, h3⟩ := EC_at W t h
  rw [h1, ← EC_up W t (qF t ci j k f) h (cel_qF _ t f) h1, cel_a _ _ hA]
  unfold mbV qF
  dsimp only
  rw [up3_s]
theorem o_bI (W : Wd μ a U S) (t : CS) {ci j k : Nat} (h : inK U S (ci, j, k + 1)) (hA : isA ci (k + 1) = true) (i x : Int32) : mbI (EC μ a U S t) 0 (adr μ a U S (ci, j, k + 1)) i x = (wH (lnK lnT ci (k + 1)) t ci j k i x).map (EC μ a U S) := by
  unfold mbI wH
  rw [o_aV W t h hA]
  dsimp only
  by_cases hi : i < 0 ∨ lnK lnT ci (k + 1) ≤ i.toNatClampNeg
  · rw [if_pos hi, if_pos hi]; rfl
  · rw [if_neg hi, if_neg hi, o_bV W t h hA]; rfl
theorem o_al (W : Wd μ a U S) (t : CS) {ci j k : Nat} (h : inK U S (ci, j, k + 1)) (hA : isA ci (k + 1) = true) : mal (EC μ a U S t) (adr μ a U S (ci, j, k + 1)) = some (nI (lnK lnT ci (k + 1))) := by
  obtain ⟨b, h1, h2, h3⟩ := EC_at W t h
  rw [h1]
  unfold mal
  dsimp only
  rw [if_pos h2, h3, cel_a _ _ hA]
  rfl
def cpH (t : CS) (n0 : Nat) (f : Nat → Int32) (sp : Int32) (n1 ci j k : Nat) (dp n : Int32) : Option CS := if sp < 0 ∨ dp < 0 ∨ n < 0 ∨ n0 < sp.toNatClampNeg + n.toNatClampNeg ∨ n1 < dp.toNatClampNeg + n.toNatClampNeg then none else some (qF t ci j k (va_cpy f (t.2.1 ci j k) sp.toNatClampNeg dp.toNatClampNeg n.toNatClampNeg))
theorem o_cpy (W : Wd μ a U S) (t : CS) {ci j k c2 j2 k2 : Nat} (h : inK U S (ci, j, k + 1)) (hA : isA ci (k + 1) = true) (h' : inK U S (c2, j2, k2 + 1)) (hA' : isA c2 (k2 + 1) = true) (sp dp n : Int32) : mcpy (EC μ a U S t) (adr μ a U S (ci, j, k + 1)) sp (adr μ a U S (c2, j2, k2 + 1)) dp n = (cpH t (lnK lnT ci (k + 1)) (t.2.1 ci j k) sp (lnK lnT c2 (k2 + 1)) c2 j2 k2 dp n).map (EC μ a U S) := by
  unfold mcpy cpH
  rw [o_aV W t h hA, o_aV W t h' hA']
  dsimp only
  by_cases hi : sp < 0 ∨ dp < 0 ∨ n < 0 ∨ lnK lnT ci (k + 1) < sp.toNatClampNeg + n.toNatClampNeg ∨ lnK lnT c2 (k2 + 1) < dp.toNatClampNeg + n.toNatClampNeg
  · rw [if_pos hi, if_pos hi]; rfl
  · rw [if_neg hi, if_neg hi, o_bV W t h' hA']; rfl
-- the names' letters
theorem in_let (U S : Nat) : inK U S (4, 0, 1) := Or.inr (by unfold keys; simp)
theorem o_jV (W : Wd μ a U S) (t : CS) : maV (EC μ a U S t) 1 (adr μ a U S (4, 0, 1)) = some (1054, .inr (.inl t.2.2.1)) := by
  obtain ⟨b, h1, h2, h3⟩ := EC_at W t (in_let U S)
  rw [h1]
  unfold maV
  dsimp only
  rw [if_pos h2, h3]
  rfl
def rJ (t : CS) (i : Int32) : Option Int64 := if i < 0 ∨ 1054 ≤ i.toNatClampNeg then none else some (t.2.2.1 i.toNatClampNeg)
def wJ (t : CS) (i : Int32) (x : Int64) : Option CS := if i < 0 ∨ 1054 ≤ i.toNatClampNeg then none else some (qJ t i.toNatClampNeg x)
theorem o_aJ (W : Wd μ a U S) (t : CS) (i : Int32) : maJ (EC μ a U S t) 1 (adr μ a U S (4, 0, 1)) i = rJ t i := by
  unfold maJ
  rw [o_jV W t]
  rfl
theorem cel_qJ (ad : Nat × Nat × Nat → Option Nat) (t : CS) (i : Nat) (x : Int64) : ∀ K', K' ≠ (4, 0, 1) → inK U S K' → cel ad U S (qJ t i x) K' = cel ad U S t K' := by
  intro K' hK _
  unfold cel
  rw [if_neg hK, if_neg hK]
  rfl
theorem o_bJ (W : Wd μ a U S) (t : CS) (i : Int32) (x : Int64) : mbJ (EC μ a U S t) 1 (adr μ a U S (4, 0, 1)) i x = (wJ t i x).map (EC μ a U S) := by
  unfold mbJ wJ
  rw [o_jV W t]
  dsimp only
  by_cases hi : i < 0 ∨ 1054 ≤ i.toNatClampNeg
  · rw [if_pos hi, if_pos hi]; rfl
  · rw [if_neg hi, if_neg hi]
    obtain ⟨b, h1, h2, h3⟩ := EC_at W t (in_let U S)
    show mbV _ _ _ _ _ = some _
    rw [h1, ← EC_up W t (qJ t i.toNatClampNeg x) (in_let U S) (cel_qJ _ t _ x) h1]
    rfl
theorem o_jl (W : Wd μ a U S) (t : CS) : mal (EC μ a U S t) (adr μ a U S (4, 0, 1)) = some (nI 1054) := by
  obtain ⟨b, h1, h2, h3⟩ := EC_at W t (in_let U S)
  rw [h1]
  unfold mal
  dsimp only
  rw [if_pos h2, h3]
  rfl
-- users, slots, the queue
theorem in_us (U S : Nat) : inK U S (2, 0, 1) := Or.inr (by unfold keys; simp)
theorem in_sl (U S : Nat) : inK U S (2, 0, 2) := Or.inr (by unfold keys; simp)
theorem in_qu (U S : Nat) : inK U S (5, 0, 1) := Or.inr (by unfold keys; simp)
theorem o_us (W : Wd μ a U S) (t : CS) (i : Int32) : maR (EC μ a U S t) 4 (adr μ a U S (2, 0, 1)) i = (rQ U i).map fun b => adr μ a U S (10, b, 0) := by
  obtain ⟨b, h1, h2, h3⟩ := EC_at W t (in_us U S)
  have : maV (EC μ a U S t) 4 (some b) = some (U, .inr (.inr (fun i => if i < U then adr μ a U S (10, i, 0) else none))) := by
    unfold maV
    dsimp only
    rw [if_pos h2, h3]
    rfl
  unfold maR rQ
  rw [h1, this]
  dsimp only
  by_cases hi : i < 0 ∨ U ≤ i.toNatClampNeg
  · rw [if_pos hi, if_pos hi]; rfl
  · rw [if_neg hi, if_neg hi, if_pos (by omega)]; rfl
theorem o_ul (W : Wd μ a U S) (t : CS) : mal (EC μ a U S t) (adr μ a U S (2, 0, 1)) = some (nI U) := by
  obtain ⟨b, h1, h2, h3⟩ := EC_at W t (in_us U S)
  rw [h1]
  unfold mal
  dsimp only
  rw [if_pos h2, h3]
  rfl
theorem o_sl (W : Wd μ a U S) (t : CS) (i : Int32) : maR (EC μ a U S t) 5 (adr μ a U S (2, 0, 2)) i = (rQ S i).map fun b => adr μ a U S (8, b, 0) := by
  obtain ⟨b, h1, h2, h3⟩ := EC_at W t (in_sl U S)
  have : maV (EC μ a U S t) 5 (some b) = some (S, .inr (.inr (fun i => if i < S then adr μ a U S (8, i, 0) else none))) := by
    unfold maV
    dsimp only
    rw [if_pos h2, h3]
    rfl
  unfold maR rQ
  rw [h1, this]
  dsimp only
  by_cases hi : i < 0 ∨ S ≤ i.toNatClampNeg
  · rw [if_pos hi, if_pos hi]; rfl
  · rw [if_neg hi, if_neg hi, if_pos (by omega)]; rfl
theorem o_ll (W : Wd μ a U S) (t : CS) : mal (EC μ a U S t) (adr μ a U S (2, 0, 2)) = some (nI S) := by
  obtain ⟨b, h1, h2, h3⟩ := EC_at W t (in_sl U S)
  rw [h1]
  unfold mal
  dsimp only
  rw [if_pos h2, h3]
  rfl
theorem o_qV (W : Wd μ a U S) (t : CS) : maV (EC μ a U S t) 4 (adr μ a U S (5, 0, 1)) = some (U, .inr (.inr (fun i => (t.2.2.2.2 i).bind fun b => adr μ a U S (10, b, 0)))) := by
  obtain ⟨b, h1, h2, h3⟩ := EC_at W t (in_qu U S)
  rw [h1]
  unfold maV
  dsimp only
  rw [if_pos h2, h3]
  rfl
theorem o_ql (W : Wd μ a U S) (t : CS) : mal (EC μ a U S t) (adr μ a U S (5, 0, 1)) = some (nI U) := by
  obtain ⟨b, h1, h2, h3⟩ := EC_at W t (in_qu U S)
  rw [h1]
  unfold mal
  dsimp only
  rw [if_pos h2, h3]
  rfl
def rU (U : Nat) (t : CS) (i : Int32) : Option (Option Nat) := if i < 0 ∨ U ≤ i.toNatClampNeg then none else some (t.2.2.2.2 i.toNatClampNeg)
def wU (U : Nat) (t : CS) (i : Int32) (x : Option Nat) : Option CS := if i < 0 ∨ U ≤ i.toNatClampNeg then none else some (qQ t i.toNatClampNeg x)
theorem o_qa (W : Wd μ a U S) (t : CS) (i : Int32) : maR (EC μ a U S t) 4 (adr μ a U S (5, 0, 1)) i = (rU U t i).map fun v => v.bind fun b => adr μ a U S (10, b, 0) := by
  unfold maR rU
  rw [o_qV W t]
  dsimp only
  by_cases hi : i < 0 ∨ U ≤ i.toNatClampNeg
  · rw [if_pos hi, if_pos hi]; rfl
  · rw [if_neg hi, if_neg hi]; rfl
theorem cel_qQ (ad : Nat × Nat × Nat → Option Nat) (t : CS) (i : Nat) (x : Option Nat) : ∀ K', K' ≠ (5, 0, 1) → inK U S K' → cel ad U S (qQ t i x) K' = cel ad U S t K' := by
  intro K' hK _
  unfold cel
  rw [if_neg hK, if_neg hK]
  rfl
theorem in_u (U S : Nat) {j : Nat} (h : j < U) : inK U S (10, j, 0) := Or.inr (by unfold keys; simp; exact h)
theorem o_qb (W : Wd μ a U S) (t : CS) (i : Int32) (x : Option Nat) (hx : ∀ j, x = some j → j < U) : mbR (EC μ a U S t) 4 10 (adr μ a U S (5, 0, 1)) i (x.bind fun b => adr μ a U S (10, b, 0)) = (wU U t i x).map (EC μ a U S) := by
  unfold mbR wU
  rw [o_qV W t]
  dsimp only
  by_cases hi : i < 0 ∨ U ≤ i.toNatClampNeg
  · rw [if_pos hi, if_pos hi]; rfl
  · rw [if_neg hi, if_neg hi, if_pos]
    · obtain ⟨b, h1, h2, h3⟩ := EC_at W t (in_qu U S)
      show mbV _ _ _ _ _ = some _
      rw [h1, ← EC_up W t (qQ t i.toNatClampNeg x) (in_qu U S) (cel_qQ _ t _ x) h1]
      show some (_, va_up _ b _) = some (_, va_up _ b _)
      congr 3
      show (Sum.inl (4, U, .inr (.inr _)) : ACl) = .inl (4, U, .inr (.inr _))
      congr 5
      funext m
      show va_up _ _ _ m = Option.bind (va_up t.2.2.2.2 i.toNatClampNeg x m) _
      unfold va_up
      by_cases hm : m = i.toNatClampNeg
      · rw [if_pos hm, if_pos hm]
      · rw [if_neg hm, if_neg hm]
    · cases x with
      | none => exact Or.inl rfl
      | some j =>
        refine Or.inr ?_
        obtain ⟨b, h1, h2⟩ := o_ck W t (in_u U S (hx j rfl))
        show mck _ (adr μ a U S (10, j, 0)) 10 = adr μ a U S (10, j, 0)
        rw [h1, h2]
end
