/-! LAYER 2, ShareEight over its typed state: the steps of 'where u ends, f does the same' -/
def vd (B : Nat) (v : Option Nat) : Prop := ∀ j, v = some j → j < B
theorem vd_s {B j : Nat} (h : j < B) : vd B (some j) := by intro i hi; cases hi; exact h
theorem vd_n (B : Nat) : vd B none := by intro i hi; cases hi
/-- a reference that is read must be one of those that are there -/
def vl (B : Nat) (v : Option Nat) : Option (Option Nat) := match v with
  | none => some none
  | some j => if j < B then some (some j) else none
theorem vl_some {B : Nat} {v w : Option Nat} (h : vl B v = some w) : w = v ∧ vd B v := by
  cases v with
  | none => cases h; exact ⟨rfl, vd_n B⟩
  | some j =>
    unfold vl at h
    dsimp only at h
    by_cases hj : j < B
    · rw [if_pos hj] at h; cases h; exact ⟨rfl, vd_s hj⟩
    · rw [if_neg hj] at h; cases h
theorem two0 {j U : Nat} (h : j < U) : 2 * j < 2 * U := by omega
theorem two1 {j U : Nat} (h : j < U) : 2 * j + 1 < 2 * U := by omega
def cZ (x : Int32) (t : CS) : Option (Int32 × CS) := if x = 0 ∨ x = 1 then some (x, t) else none
def qZ (t : CS) (ci j k : Nat) (x : Int32) : Option CS := if x = 0 ∨ x = 1 then some (qI t ci j k x) else none
def rB (t : CS) (v : Option Nat) (i : Int32) : Option Int32 := v.bind fun b => if b = 0 then none else rH 2000 t 11 0 0 i
-- the keys that are there
theorem ik_11 (U S : Nat) : inK U S (11, 0, 0) := Or.inl rfl
theorem ik_0 (U S : Nat) : inK U S (0, 0, 0) := Or.inr (by unfold keys; simp)
theorem ik_1 (U S : Nat) : inK U S (1, 0, 0) := Or.inr (by unfold keys; simp)
theorem ik_2 (U S : Nat) : inK U S (2, 0, 0) := Or.inr (by unfold keys; simp)
theorem ik_3 (U S : Nat) : inK U S (3, 0, 0) := Or.inr (by unfold keys; simp)
theorem ik_4 (U S : Nat) : inK U S (4, 0, 0) := Or.inr (by unfold keys; simp)
theorem ik_5 (U S : Nat) : inK U S (5, 0, 0) := Or.inr (by unfold keys; simp)
theorem ik_9 (U S : Nat) : inK U S (9, 0, 0) := Or.inr (by unfold keys; simp)
theorem ik_10 {U S j : Nat} (h : j < U) : inK U S (10, j, 0) := Or.inr (by unfold keys; simp; exact h)
theorem ik_8 {U S j : Nat} (h : j < S) : inK U S (8, j, 0) := Or.inr (by unfold keys; simp; exact h)
theorem ik_7 {U S j : Nat} (h : j < 2) : inK U S (7, j, 0) := by
  have : j = 0 ∨ j = 1 := by omega
  rcases this with rfl | rfl <;> exact Or.inr (by unfold keys; simp)
theorem ik_6 {U S j : Nat} (h : j < 2 * U) : inK U S (6, j, 0) := Or.inr (by
  unfold keys
  rw [List.mem_append, List.mem_append]
  refine Or.inr (Or.inl ?_)
  rw [List.mem_flatMap]
  refine ⟨j / 2, List.mem_range.mpr (by omega), ?_⟩
  have : j = 2 * (j / 2) ∨ j = 2 * (j / 2) + 1 := by omega
  rcases this with h2 | h2
  · rw [show (6, j, 0) = (6, 2 * (j / 2), 0) by rw [← h2]]; simp
  · rw [show (6, j, 0) = (6, 2 * (j / 2) + 1, 0) by rw [← h2]]; simp)
theorem ia_6_1 {U S j : Nat} (h : j < 2 * U) : inK U S (6, j, 0 + 1) := Or.inr (by
  unfold keys
  rw [List.mem_append, List.mem_append]
  refine Or.inr (Or.inl ?_)
  rw [List.mem_flatMap]
  refine ⟨j / 2, List.mem_range.mpr (by omega), ?_⟩
  have : j = 2 * (j / 2) ∨ j = 2 * (j / 2) + 1 := by omega
  rcases this with h2 | h2
  · rw [show (6, j, 0 + 1) = (6, 2 * (j / 2), 1) by rw [← h2]]; simp
  · rw [show (6, j, 0 + 1) = (6, 2 * (j / 2) + 1, 1) by rw [← h2]]; simp)
theorem ia_11_1 (U S : Nat) : inK U S (11, 0, 0 + 1) := Or.inr (by unfold keys; simp)
theorem ia_4_2 (U S : Nat) : inK U S (4, 0, 1 + 1) := Or.inr (by unfold keys; simp)
theorem ia_4_3 (U S : Nat) : inK U S (4, 0, 2 + 1) := Or.inr (by unfold keys; simp)
theorem ia_9_2 (U S : Nat) : inK U S (9, 0, 1 + 1) := Or.inr (by unfold keys; simp)
theorem ia_9_3 (U S : Nat) : inK U S (9, 0, 2 + 1) := Or.inr (by unfold keys; simp)
theorem ia_9_4 (U S : Nat) : inK U S (9, 0, 3 + 1) := Or.inr (by unfold keys; simp)
theorem ia_9_5 (U S : Nat) : inK U S (9, 0, 4 + 1) := Or.inr (by unfold keys; simp)
theorem ia_9_7 (U S : Nat) : inK U S (9, 0, 6 + 1) := Or.inr (by unfold keys; simp)
theorem ia_7_1 {U S j : Nat} (h : j < 2) : inK U S (7, j, 0 + 1) := by
  have : j = 0 ∨ j = 1 := by omega
  rcases this with rfl | rfl <;> exact Or.inr (by unfold keys; simp)
theorem ia_8_2 {U S j : Nat} (h : j < S) : inK U S (8, j, 1 + 1) := Or.inr (by unfold keys; simp; exact h)
theorem ia_10_2 {U S j : Nat} (h : j < U) : inK U S (10, j, 1 + 1) := Or.inr (by unfold keys; simp; exact h)
theorem ia_10_3 {U S j : Nat} (h : j < U) : inK U S (10, j, 2 + 1) := Or.inr (by unfold keys; simp; exact h)
theorem ia_10_4 {U S j : Nat} (h : j < U) : inK U S (10, j, 3 + 1) := Or.inr (by unfold keys; simp; exact h)
def bdd (U S c : Nat) : Nat := if c = 10 then U else if c = 8 then S else 2
/-- where u ends, f ends with the same -/
def IM (μ0 : BM) (ro U S : Nat) {α β : Type} (E : α → β) (c : Option (α × CS)) (f : Option (β × Mem)) : Prop := ∀ q, c = some q → f = some (E q.1, EC μ0 ro U S q.2)
section
variable {μ0 : BM} {ro U S : Nat} {α β : Type} {E : α → β}
theorem im_none {f : Option (β × Mem)} : IM μ0 ro U S E none f := by intro q h; cases h
theorem im_ret {x : α} {y : β} {t : CS} (h : y = E x) : IM μ0 ro U S E (some (x, t)) (some (y, EC μ0 ro U S t)) := by
  intro q e; cases e; rw [h]
theorem im_rZ (x : Int32) (t : CS) : IM μ0 ro U S id (cZ x t) (retZ x (EC μ0 ro U S t)) := by
  intro q h
  unfold cZ at h
  unfold retZ
  by_cases hx : x = 0 ∨ x = 1
  · rw [if_pos hx] at h ⊢; cases h; rfl
  · rw [if_neg hx] at h; cases h
theorem im_if {c d : Prop} [Decidable c] [Decidable d] (hcd : c ↔ d) {A B : Option (α × CS)} {A' B' : Option (β × Mem)} (h1 : d → IM μ0 ro U S E A A') (h2 : ¬ d → IM μ0 ro U S E B B') : IM μ0 ro U S E (if d then A else B) (if c then A' else B') := by
  by_cases h : d
  · rw [if_pos h, if_pos (hcd.mpr h)]; exact h1 h
  · rw [if_neg h, if_neg (fun z => h (hcd.mp z))]; exact h2 h
theorem im_b {γ : Type} (x : Option γ) {F : γ → Option (β × Mem)} {G : γ → Option (α × CS)} (h : ∀ v, IM μ0 ro U S E (G v) (F v)) : IM μ0 ro U S E (x.bind G) (x.bind F) := by
  cases x with
  | none => exact im_none
  | some v => exact h v
theorem im_call {γ δ : Type} {E2 : γ → δ} {g : Option (γ × CS)} {f : Option (δ × Mem)} (e : IM μ0 ro U S E2 g f) {F : δ × Mem → Option (β × Mem)} {G : γ × CS → Option (α × CS)} (h : ∀ q, IM μ0 ro U S E (G q) (F (E2 q.1, EC μ0 ro U S q.2))) : IM μ0 ro U S E (g.bind G) (f.bind F) := by
  cases g with
  | none => exact im_none
  | some q => rw [e q rfl]; exact h q
theorem im_vl {B : Nat} {v : Option Nat} {c : Option (α × CS)} {f : Option (β × Mem)} (h : vd B v → IM μ0 ro U S E c f) : IM μ0 ro U S E ((vl B v).bind fun _ => c) f := by
  cases hv : vl B v with
  | none => exact im_none
  | some w => exact h (vl_some hv).2
theorem im_der {B ci : Nat} {v r : Option Nat} (hv : vd B v) (hr : r = v.bind fun b => adr μ0 ro U S (ci, b, 0)) {c : Nat → Option (α × CS)} {f : Option (β × Mem)} (h : ∀ j, j < B → r = adr μ0 ro U S (ci, j, 0) → IM μ0 ro U S E (c j) f) : IM μ0 ro U S E (v.bind c) f := by
  cases v with
  | none => exact im_none
  | some j => exact h j (hv j rfl) hr
theorem im_ck (W : Wd μ0 ro U S) {ci j : Nat} {r : Option Nat} {t : CS} (hk : inK U S (ci, j, 0)) (hr : r = adr μ0 ro U S (ci, j, 0)) {F : Nat → Option (β × Mem)} {c : Option (α × CS)} (h : ∀ b, some b = adr μ0 ro U S (ci, j, 0) → IM μ0 ro U S E c (F b)) : IM μ0 ro U S E c ((mck (EC μ0 ro U S t) r ci).bind F) := by
  obtain ⟨b, h1, h2⟩ := o_ck W t hk
  rw [hr, h1, h2]
  exact h b h1.symm
theorem im_fI (W : Wd μ0 ro U S) {ci j k : Nat} {r : Option Nat} {t : CS} (hk : inK U S (ci, j, 0)) (hn : k < nf ci) (hf : rfK rfT ci k = none) (hr : r = adr μ0 ro U S (ci, j, 0)) {F : Int32 → Option (β × Mem)} {c : Option (α × CS)} (h : IM μ0 ro U S E c (F (t.1 ci j k))) : IM μ0 ro U S E c ((mfI (EC μ0 ro U S t) r ci k).bind F) := by
  rw [hr, o_fI W t hk hn hf]
  exact h
theorem im_fR (W : Wd μ0 ro U S) {ci j k x w y : Nat} {r : Option Nat} {t : CS} (hk : inK U S (ci, j, 0)) (hn : k < nf ci) (hf : rfK rfT ci k = some (10, x, w, y)) (hr : r = adr μ0 ro U S (ci, j, 0)) {F : Option Nat → Option (β × Mem)} {c : Option (α × CS)} (h : ∀ v, v = adr μ0 ro U S (x, wh w j, y) → IM μ0 ro U S E c (F v)) : IM μ0 ro U S E c ((mfR (EC μ0 ro U S t) r ci k).bind F) := by
  rw [hr, o_fR W t hk hn hf]
  exact h _ rfl
theorem im_vb {B : Nat} {v : Option Nat} {G : Option Nat → Option (α × CS)} {f : Option (β × Mem)} (h : vd B v → IM μ0 ro U S E (G v) f) : IM μ0 ro U S E ((vl B v).bind G) f := by
  cases hv : vl B v with
  | none => exact im_none
  | some w =>
    obtain ⟨rfl, h2⟩ := vl_some hv
    exact h h2
theorem im_fD1 (W : Wd μ0 ro U S) {B ci j k x w y : Nat} {r : Option Nat} {t : CS} (hk : inK U S (ci, j, 0)) (hn : k < nf ci) (hf : rfK rfT ci k = some (1, x, w, y)) (hr : r = adr μ0 ro U S (ci, j, 0)) {F : Option Nat → Option (β × Mem)} {G : Option Nat → Option (α × CS)} (h : ∀ v, vd B v → ∀ v', (v' = v.bind fun b => adr μ0 ro U S (10, b, 0)) → IM μ0 ro U S E (G v) (F v')) : IM μ0 ro U S E ((vl B (t.2.2.2.1 ci j k)).bind G) ((mfR (EC μ0 ro U S t) r ci k).bind F) := by
  rw [hr, o_fD W t hk hn hf (by decide) (by decide)]
  exact im_vb fun hv => h _ hv _ rfl
theorem im_fD2 (W : Wd μ0 ro U S) {B ci j k x w y : Nat} {r : Option Nat} {t : CS} (hk : inK U S (ci, j, 0)) (hn : k < nf ci) (hf : rfK rfT ci k = some (2, x, w, y)) (hr : r = adr μ0 ro U S (ci, j, 0)) {F : Option Nat → Option (β × Mem)} {G : Option Nat → Option (α × CS)} (h : ∀ v, vd B v → ∀ v', (v' = v.bind fun b => adr μ0 ro U S (8, b, 0)) → IM μ0 ro U S E (G v) (F v')) : IM μ0 ro U S E ((vl B (t.2.2.2.1 ci j k)).bind G) ((mfR (EC μ0 ro U S t) r ci k).bind F) := by
  rw [hr, o_fD W t hk hn hf (by decide) (by decide)]
  exact im_vb fun hv => h _ hv _ rfl
theorem im_fD3 (W : Wd μ0 ro U S) {B ci j k x w y : Nat} {r : Option Nat} {t : CS} (hk : inK U S (ci, j, 0)) (hn : k < nf ci) (hf : rfK rfT ci k = some (3, x, w, y)) (hr : r = adr μ0 ro U S (ci, j, 0)) {F : Option Nat → Option (β × Mem)} {G : Option Nat → Option (α × CS)} (h : ∀ v, vd B v → ∀ v', (v' = v.bind fun b => adr μ0 ro U S (7, b, 0)) → IM μ0 ro U S E (G v) (F v')) : IM μ0 ro U S E ((vl B (t.2.2.2.1 ci j k)).bind G) ((mfR (EC μ0 ro U S t) r ci k).bind F) := by
  rw [hr, o_fD W t hk hn hf (by decide) (by decide)]
  exact im_vb fun hv => h _ hv _ rfl
theorem im_fB (W : Wd μ0 ro U S) {r : Option Nat} {t : CS} (hk : inK U S (9, 0, 0)) (hr : r = adr μ0 ro U S (9, 0, 0)) {F : Option Nat → Option (β × Mem)} {G : Option Nat → Option (α × CS)} (h : ∀ v, vd 2 v → ∀ v', (v' = v.bind fun b => adr μ0 ro U S (byt b)) → IM μ0 ro U S E (G v) (F v')) : IM μ0 ro U S E ((vl 2 (t.2.2.2.1 9 0 6)).bind G) ((mfR (EC μ0 ro U S t) r 9 6).bind F) := by
  rw [hr, o_fB W t hk (by decide) rfl]
  exact im_vb fun hv => h _ hv _ rfl
theorem im_pI (W : Wd μ0 ro U S) {ci j k : Nat} {r : Option Nat} {t : CS} (hk : inK U S (ci, j, 0)) (hn : k < nf ci) (hf : rfK rfT ci k = none) (hr : r = adr μ0 ro U S (ci, j, 0)) (x : Int32) {F : Mem → Option (β × Mem)} {G : CS → Option (α × CS)} (h : IM μ0 ro U S E (G (qI t ci j k x)) (F (EC μ0 ro U S (qI t ci j k x)))) : IM μ0 ro U S E ((some (qI t ci j k x)).bind G) ((mpI (EC μ0 ro U S t) r ci k x).bind F) := by
  rw [hr, o_pI W t hk hn hf]
  exact h
theorem im_pZ (W : Wd μ0 ro U S) {ci j k : Nat} {r : Option Nat} {t : CS} (hk : inK U S (ci, j, 0)) (hn : k < nf ci) (hf : rfK rfT ci k = none) (hr : r = adr μ0 ro U S (ci, j, 0)) (x : Int32) {F : Mem → Option (β × Mem)} {G : CS → Option (α × CS)} (h : ∀ s, IM μ0 ro U S E (G s) (F (EC μ0 ro U S s))) : IM μ0 ro U S E ((qZ t ci j k x).bind G) ((mpZ (EC μ0 ro U S t) r ci k x).bind F) := by
  unfold qZ
  by_cases hx : x = 0 ∨ x = 1
  · rw [if_pos hx, hr, o_pZ W t hk hn hf x hx]; exact h _
  · rw [if_neg hx]; exact im_none
theorem im_pR1 (W : Wd μ0 ro U S) {B ci j k x0 w y : Nat} {r : Option Nat} {t : CS} (hk : inK U S (ci, j, 0)) (hn : k < nf ci) (hf : rfK rfT ci k = some (1, x0, w, y)) (hr : r = adr μ0 ro U S (ci, j, 0)) {v v' : Option Nat} (hv : vd B v) (hv' : v' = v.bind fun b => adr μ0 ro U S (10, b, 0)) {F : Mem → Option (β × Mem)} {G : CS → Option (α × CS)} (h : IM μ0 ro U S E (G (qR t ci j k v)) (F (EC μ0 ro U S (qR t ci j k v)))) : IM μ0 ro U S E ((some (qR t ci j k v)).bind G) ((mpR (EC μ0 ro U S t) r ci k v').bind F) := by
  have := o_pR W t hk hn hf (by decide) (by decide) v
  rw [hr, hv']
  rw [show (fun b => adr μ0 ro U S (tg 1, b, 0)) = fun b => adr μ0 ro U S (10, b, 0) from rfl] at this
  rw [this]
  exact h
theorem im_pR2 (W : Wd μ0 ro U S) {B ci j k x0 w y : Nat} {r : Option Nat} {t : CS} (hk : inK U S (ci, j, 0)) (hn : k < nf ci) (hf : rfK rfT ci k = some (2, x0, w, y)) (hr : r = adr μ0 ro U S (ci, j, 0)) {v v' : Option Nat} (hv : vd B v) (hv' : v' = v.bind fun b => adr μ0 ro U S (8, b, 0)) {F : Mem → Option (β × Mem)} {G : CS → Option (α × CS)} (h : IM μ0 ro U S E (G (qR t ci j k v)) (F (EC μ0 ro U S (qR t ci j k v)))) : IM μ0 ro U S E ((some (qR t ci j k v)).bind G) ((mpR (EC μ0 ro U S t) r ci k v').bind F) := by
  have := o_pR W t hk hn hf (by decide) (by decide) v
  rw [hr, hv']
  rw [show (fun b => adr μ0 ro U S (tg 2, b, 0)) = fun b => adr μ0 ro U S (8, b, 0) from rfl] at this
  rw [this]
  exact h
theorem im_pR3 (W : Wd μ0 ro U S) {B ci j k x0 w y : Nat} {r : Option Nat} {t : CS} (hk : inK U S (ci, j, 0)) (hn : k < nf ci) (hf : rfK rfT ci k = some (3, x0, w, y)) (hr : r = adr μ0 ro U S (ci, j, 0)) {v v' : Option Nat} (hv : vd B v) (hv' : v' = v.bind fun b => adr μ0 ro U S (7, b, 0)) {F : Mem → Option (β × Mem)} {G : CS → Option (α × CS)} (h : IM μ0 ro U S E (G (qR t ci j k v)) (F (EC μ0 ro U S (qR t ci j k v)))) : IM μ0 ro U S E ((some (qR t ci j k v)).bind G) ((mpR (EC μ0 ro U S t) r ci k v').bind F) := by
  have := o_pR W t hk hn hf (by decide) (by decide) v
  rw [hr, hv']
  rw [show (fun b => adr μ0 ro U S (tg 3, b, 0)) = fun b => adr μ0 ro U S (7, b, 0) from rfl] at this
  rw [this]
  exact h
theorem im_pB (W : Wd μ0 ro U S) {r : Option Nat} {t : CS} (hk : inK U S (9, 0, 0)) (hr : r = adr μ0 ro U S (9, 0, 0)) {v' : Option Nat} (hv' : v' = adr μ0 ro U S (11, 0, 1)) {F : Mem → Option (β × Mem)} {G : CS → Option (α × CS)} (h : IM μ0 ro U S E (G (qR t 9 0 6 (some 1))) (F (EC μ0 ro U S (qR t 9 0 6 (some 1))))) : IM μ0 ro U S E ((some (qR t 9 0 6 (some 1))).bind G) ((mpR (EC μ0 ro U S t) r 9 6 v').bind F) := by
  have := o_pB (k := 6) W t hk (by decide) rfl (some 1)
  rw [hr, hv']
  rw [show ((some 1).bind fun b => adr μ0 ro U S (byt b)) = adr μ0 ro U S (11, 0, 1) from rfl] at this
  rw [this]
  exact h
theorem im_m {o : Option CS} {F : Mem → Option (β × Mem)} {G : CS → Option (α × CS)} (h : ∀ s, IM μ0 ro U S E (G s) (F (EC μ0 ro U S s))) : IM μ0 ro U S E (o.bind G) ((o.map (EC μ0 ro U S)).bind F) := by
  cases o with
  | none => exact im_none
  | some s => exact h s
theorem im_aI (W : Wd μ0 ro U S) {ci j k n : Nat} {r : Option Nat} {t : CS} (hk : inK U S (ci, j, k + 1)) (hA : isA ci (k + 1) = true) (hn : lnK lnT ci (k + 1) = n) (hr : r = adr μ0 ro U S (ci, j, k + 1)) (i : Int32) {F : Int32 → Option (β × Mem)} {G : Int32 → Option (α × CS)} (h : ∀ v, IM μ0 ro U S E (G v) (F v)) : IM μ0 ro U S E ((rH n t ci j k i).bind G) ((maI (EC μ0 ro U S t) 0 r i).bind F) := by
  rw [hr, o_aI W t hk hA, hn]
  exact im_b _ h
theorem im_bI (W : Wd μ0 ro U S) {ci j k n : Nat} {r : Option Nat} {t : CS} (hk : inK U S (ci, j, k + 1)) (hA : isA ci (k + 1) = true) (hn : lnK lnT ci (k + 1) = n) (hr : r = adr μ0 ro U S (ci, j, k + 1)) (i x : Int32) {F : Mem → Option (β × Mem)} {G : CS → Option (α × CS)} (h : ∀ s, IM μ0 ro U S E (G s) (F (EC μ0 ro U S s))) : IM μ0 ro U S E ((wH n t ci j k i x).bind G) ((mbI (EC μ0 ro U S t) 0 r i x).bind F) := by
  rw [hr, o_bI W t hk hA, hn]
  exact im_m h
theorem im_al (W : Wd μ0 ro U S) {ci j k n : Nat} {r : Option Nat} {t : CS} (hk : inK U S (ci, j, k + 1)) (hA : isA ci (k + 1) = true) (hn : lnK lnT ci (k + 1) = n) (hr : r = adr μ0 ro U S (ci, j, k + 1)) {F : Int32 → Option (β × Mem)} {c : Option (α × CS)} (h : IM μ0 ro U S E c (F (nI n))) : IM μ0 ro U S E c ((mal (EC μ0 ro U S t) r).bind F) := by
  rw [hr, o_al W t hk hA, hn]
  exact h
theorem im_aB (W : Wd μ0 ro U S) {r v : Option Nat} {t : CS} (hv : vd 2 v) (hr : r = v.bind fun b => adr μ0 ro U S (byt b)) (i : Int32) {F : Int32 → Option (β × Mem)} {G : Int32 → Option (α × CS)} (h : ∀ v, IM μ0 ro U S E (G v) (F v)) : IM μ0 ro U S E ((rB t v i).bind G) ((maI (EC μ0 ro U S t) 0 r i).bind F) := by
  cases v with
  | none => exact im_none
  | some b =>
    rw [hr]
    show IM μ0 ro U S E ((if b = 0 then none else rH 2000 t 11 0 0 i).bind G) _
    by_cases hb : b = 0
    · rw [if_pos hb]; exact im_none
    · rw [if_neg hb]
      refine im_aI W (ia_11_1 U S) rfl rfl ?_ i h
      show adr μ0 ro U S (byt b) = _
      unfold byt
      rw [if_neg hb]
theorem im_aJ (W : Wd μ0 ro U S) {r : Option Nat} {t : CS} (hr : r = adr μ0 ro U S (4, 0, 1)) (i : Int32) {F : Int64 → Option (β × Mem)} {G : Int64 → Option (α × CS)} (h : ∀ v, IM μ0 ro U S E (G v) (F v)) : IM μ0 ro U S E ((rJ t i).bind G) ((maJ (EC μ0 ro U S t) 1 r i).bind F) := by
  rw [hr, o_aJ W t]
  exact im_b _ h
theorem im_bJ (W : Wd μ0 ro U S) {r : Option Nat} {t : CS} (hr : r = adr μ0 ro U S (4, 0, 1)) (i : Int32) (x : Int64) {F : Mem → Option (β × Mem)} {G : CS → Option (α × CS)} (h : ∀ s, IM μ0 ro U S E (G s) (F (EC μ0 ro U S s))) : IM μ0 ro U S E ((wJ t i x).bind G) ((mbJ (EC μ0 ro U S t) 1 r i x).bind F) := by
  rw [hr, o_bJ W t]
  exact im_m h
theorem im_l_let (W : Wd μ0 ro U S) {r : Option Nat} {t : CS} (hr : r = adr μ0 ro U S (4, 0, 1)) {F : Int32 → Option (β × Mem)} {c : Option (α × CS)} (h : IM μ0 ro U S E c (F (nI 1054))) : IM μ0 ro U S E c ((mal (EC μ0 ro U S t) r).bind F) := by
  rw [hr, o_jl W t]; exact h
theorem im_l_us (W : Wd μ0 ro U S) {r : Option Nat} {t : CS} (hr : r = adr μ0 ro U S (2, 0, 1)) {F : Int32 → Option (β × Mem)} {c : Option (α × CS)} (h : IM μ0 ro U S E c (F (nI U))) : IM μ0 ro U S E c ((mal (EC μ0 ro U S t) r).bind F) := by
  rw [hr, o_ul W t]; exact h
theorem im_l_sl (W : Wd μ0 ro U S) {r : Option Nat} {t : CS} (hr : r = adr μ0 ro U S (2, 0, 2)) {F : Int32 → Option (β × Mem)} {c : Option (α × CS)} (h : IM μ0 ro U S E c (F (nI S))) : IM μ0 ro U S E c ((mal (EC μ0 ro U S t) r).bind F) := by
  rw [hr, o_ll W t]; exact h
theorem im_l_qu (W : Wd μ0 ro U S) {r : Option Nat} {t : CS} (hr : r = adr μ0 ro U S (5, 0, 1)) {F : Int32 → Option (β × Mem)} {c : Option (α × CS)} (h : IM μ0 ro U S E c (F (nI U))) : IM μ0 ro U S E c ((mal (EC μ0 ro U S t) r).bind F) := by
  rw [hr, o_ql W t]; exact h
theorem im_rq {n ci : Nat} {i : Int32} {F : Option Nat → Option (β × Mem)} {G : Nat → Option (α × CS)} (h : ∀ j, j < n → ∀ v', v' = adr μ0 ro U S (ci, j, 0) → IM μ0 ro U S E (G j) (F v')) : IM μ0 ro U S E ((rQ n i).bind G) (((rQ n i).map fun b => adr μ0 ro U S (ci, b, 0)).bind F) := by
  unfold rQ
  by_cases hi : i < 0 ∨ n ≤ i.toNatClampNeg
  · rw [if_pos hi]; exact im_none
  · rw [if_neg hi]; exact h _ (by omega) _ rfl
theorem im_r_us (W : Wd μ0 ro U S) {r : Option Nat} {t : CS} (hr : r = adr μ0 ro U S (2, 0, 1)) (i : Int32) {F : Option Nat → Option (β × Mem)} {G : Nat → Option (α × CS)} (h : ∀ j, j < U → ∀ v', v' = adr μ0 ro U S (10, j, 0) → IM μ0 ro U S E (G j) (F v')) : IM μ0 ro U S E ((rQ U i).bind G) ((maR (EC μ0 ro U S t) 4 r i).bind F) := by
  rw [hr, o_us W t]
  exact im_rq h
theorem im_r_sl (W : Wd μ0 ro U S) {r : Option Nat} {t : CS} (hr : r = adr μ0 ro U S (2, 0, 2)) (i : Int32) {F : Option Nat → Option (β × Mem)} {G : Nat → Option (α × CS)} (h : ∀ j, j < S → ∀ v', v' = adr μ0 ro U S (8, j, 0) → IM μ0 ro U S E (G j) (F v')) : IM μ0 ro U S E ((rQ S i).bind G) ((maR (EC μ0 ro U S t) 5 r i).bind F) := by
  rw [hr, o_sl W t]
  exact im_rq h
theorem im_r_qu (W : Wd μ0 ro U S) {r : Option Nat} {t : CS} (hr : r = adr μ0 ro U S (5, 0, 1)) (i : Int32) {F : Option Nat → Option (β × Mem)} {G : Option Nat → Option (α × CS)} (h : ∀ v, vd U v → ∀ v', (v' = v.bind fun b => adr μ0 ro U S (10, b, 0)) → IM μ0 ro U S E (G v) (F v')) : IM μ0 ro U S E (((rU U t i).bind (vl U)).bind G) ((maR (EC μ0 ro U S t) 4 r i).bind F) := by
  rw [hr, o_qa W t]
  cases rU U t i with
  | none => exact im_none
  | some v => exact im_vb fun hv => h _ hv _ rfl
theorem im_w_qu (W : Wd μ0 ro U S) {r v v' : Option Nat} {t : CS} (hr : r = adr μ0 ro U S (5, 0, 1)) (hv : vd U v) (hv' : v' = v.bind fun b => adr μ0 ro U S (10, b, 0)) (i : Int32) {F : Mem → Option (β × Mem)} {G : CS → Option (α × CS)} (h : ∀ s, IM μ0 ro U S E (G s) (F (EC μ0 ro U S s))) : IM μ0 ro U S E ((wU U t i v).bind G) ((mbR (EC μ0 ro U S t) 4 10 r i v').bind F) := by
  rw [hr, hv', o_qb W t i v hv]
  exact im_m h
theorem im_cpy (W : Wd μ0 ro U S) {h1 h2 : Nat × Nat × Nat} {r q : Option Nat} {t : CS} (hk : inK U S (h1.1, h1.2.1, h1.2.2 + 1) ∧ isA h1.1 (h1.2.2 + 1) = true) (hr : r = adr μ0 ro U S (h1.1, h1.2.1, h1.2.2 + 1)) (hk2 : inK U S (h2.1, h2.2.1, h2.2.2 + 1) ∧ isA h2.1 (h2.2.2 + 1) = true) (hq : q = adr μ0 ro U S (h2.1, h2.2.1, h2.2.2 + 1)) (sp dp n : Int32) {F : Mem → Option (β × Mem)} {G : CS → Option (α × CS)} (h : ∀ s, IM μ0 ro U S E (G s) (F (EC μ0 ro U S s))) : IM μ0 ro U S E ((cpH t (lnK lnT h1.1 (h1.2.2 + 1)) (t.2.1 h1.1 h1.2.1 h1.2.2) sp (lnK lnT h2.1 (h2.2.2 + 1)) h2.1 h2.2.1 h2.2.2 dp n).bind G) ((mcpy (EC μ0 ro U S t) r sp q dp n).bind F) := by
  rw [hr, hq, o_cpy W t hk.1 hk.2 hk2.1 hk2.2]
  exact im_m h
theorem ik_c {c j : Nat} (hc : c = 10 ∨ c = 8 ∨ c = 7) (h : j < bdd U S c) : (c, j, 0) ∈ keys U S := by
  rcases hc with rfl | rfl | rfl
  · rcases ik_10 (S := S) (show j < U from h) with e | e
    · cases e
    · exact e
  · rcases ik_8 (U := U) (show j < S from h) with e | e
    · cases e
    · exact e
  · rcases ik_7 (U := U) (S := S) (show j < 2 from h) with e | e
    · cases e
    · exact e
theorem im_nn (c : Nat) (W : Wd μ0 ro U S) (hc : c = 10 ∨ c = 8 ∨ c = 7) {r v : Option Nat} (hv : vd (bdd U S c) v) (hr : r = v.bind fun b => adr μ0 ro U S (c, b, 0)) : r = none ↔ v = none := by
  cases v with
  | none => rw [hr]; exact Iff.rfl
  | some j =>
    rw [hr]
    show adr μ0 ro U S (c, j, 0) = none ↔ some j = none
    rw [adr_k W (ik_c hc (hv j rfl))]
    constructor <;> intro h <;> cases h
theorem im_eq (c : Nat) (W : Wd μ0 ro U S) (hc : c = 10 ∨ c = 8 ∨ c = 7) {r v r2 v2 : Option Nat} (hv : vd (bdd U S c) v) (hr : r = v.bind fun b => adr μ0 ro U S (c, b, 0)) (hv2 : vd (bdd U S c) v2) (hr2 : r2 = v2.bind fun b => adr μ0 ro U S (c, b, 0)) : r = r2 ↔ v = v2 := by
  constructor
  · intro h
    rw [hr, hr2] at h
    cases v with
    | none =>
      cases v2 with
      | none => rfl
      | some j =>
        have := adr_k W (ik_c hc (hv2 j rfl))
        rw [show (some j).bind (fun b => adr μ0 ro U S (c, b, 0)) = adr μ0 ro U S (c, j, 0) from rfl, this] at h
        cases h
    | some i =>
      cases v2 with
      | none =>
        have := adr_k W (ik_c hc (hv i rfl))
        rw [show (some i).bind (fun b => adr μ0 ro U S (c, b, 0)) = adr μ0 ro U S (c, i, 0) from rfl, this] at h
        cases h
      | some j =>
        have := adr_inj W (ik_c hc (hv i rfl)) (ik_c hc (hv2 j rfl)) h
        simp only [Prod.mk.injEq] at this
        rw [this.2.1]
  · intro h; rw [hr, hr2, h]
end
