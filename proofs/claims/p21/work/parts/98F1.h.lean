/-! LAYER 3, the assembler of the class never throws: its invariant, its readers -/
def tkOK (k v o : Int32) : Prop := (k = 2 → (v = -1 ∨ W12 v) ∧ (o = -1 ∨ W12 o)) ∧ (k = 3 → W12 v) ∧ (k = 4 → ∃ a b, v = nI a ∧ o = nI b ∧ a ≤ b ∧ b ≤ 2000)
/-- the names that are there first -/
def FX (t : CS) : Prop := ∀ i, i < 53 → t.2.2.1 i = nm0.2.1 i ∧ t.2.1 4 0 1 i = nm0.2.2.1 i ∧ t.2.1 4 0 2 i = 3
def CA (t : CS) : Prop := (∃ c, c ≤ 2001 ∧ t.1 9 0 5 = nI c ∧ ∀ j, j < c → tkOK (t.2.1 9 0 1 j) (t.2.1 9 0 3 j) (t.2.1 9 0 4 j)) ∧ (∃ m, m ≤ 1054 ∧ t.1 4 0 3 = nI m ∧ 53 ≤ m ∧ FX t) ∧ (∃ L, L ≤ 2000 ∧ t.1 9 0 7 = nI L) ∧ t.2.2.2.1 9 0 6 = some 1 ∧ (∃ i, i < 2 ∧ t.2.2.2.1 0 0 3 = some i ∧ t.2.2.2.1 0 0 2 = some (1 - i)) ∧ (∀ j, W12 (t.2.1 4 0 1 j)) ∧ ∃ x, x ≤ 2001 ∧ t.1 9 0 8 = nI x
/-- what the assembler leaves alone -/
def AF (t0 t : CS) : Prop := (∀ ci, ci ≠ 0 → ci ≠ 4 → ci ≠ 7 → ci ≠ 9 → t.1 ci = t0.1 ci) ∧ (∀ ci, ci ≠ 4 → ci ≠ 7 → ci ≠ 9 → t.2.1 ci = t0.2.1 ci) ∧ (∀ ci, ci ≠ 9 → t.2.2.2.1 ci = t0.2.2.2.1 ci) ∧ t.2.2.2.2 = t0.2.2.2.2 ∧ (¬ t0.1 0 0 4 = 0 → ¬ t.1 0 0 4 = 0) ∧ ∀ j, ¬ t0.2.2.2.1 0 0 3 = some j → t.1 7 j = t0.1 7 j ∧ t.2.1 7 j = t0.2.1 7 j
def GA (t0 t : CS) : Prop := CA t ∧ AF t0 t
def Sf {α : Type} (t0 : CS) (Q : α → Prop) (o : Option (α × CS)) : Prop := ∃ r t2, o = some (r, t2) ∧ GA t0 t2 ∧ Q r
def Rd {α : Type} (t : CS) (Q : α → Prop) (o : Option (α × CS)) : Prop := ∃ r, o = some (r, t) ∧ Q r
def an {α : Type} : α → Prop := fun _ => True
section
variable {α β γ : Type} {t0 t : CS} {Q : α → Prop} {Q2 : β → Prop}
theorem sf_b {o : Option (α × CS)} {k : α × CS → Option (β × CS)} (h : Sf t0 Q o) (hk : ∀ r t2, GA t0 t2 → Q r → Sf t0 Q2 (k (r, t2))) : Sf t0 Q2 (o.bind k) := by
  obtain ⟨r, t2, e, g, q⟩ := h
  rw [e, Option.bind_some]
  exact hk r t2 g q
theorem sf_r {o : Option (α × CS)} {k : α × CS → Option (β × CS)} (h : Rd t Q o) (hk : ∀ r, Q r → Sf t0 Q2 (k (r, t))) : Sf t0 Q2 (o.bind k) := by
  obtain ⟨r, e, q⟩ := h
  rw [e, Option.bind_some]
  exact hk r q
theorem rd_b {o : Option (α × CS)} {k : α × CS → Option (β × CS)} (h : Rd t Q o) (hk : ∀ r, Q r → Rd t Q2 (k (r, t))) : Rd t Q2 (o.bind k) := by
  obtain ⟨r, e, q⟩ := h
  rw [e, Option.bind_some]
  exact hk r q
theorem sf_v {o : Option γ} {k : γ → Option (β × CS)} {x : γ} (h : o = some x) (hk : Sf t0 Q2 (k x)) : Sf t0 Q2 (o.bind k) := by rw [h, Option.bind_some]; exact hk
theorem rd_v {o : Option γ} {k : γ → Option (β × CS)} {x : γ} (h : o = some x) (hk : Rd t Q2 (k x)) : Rd t Q2 (o.bind k) := by rw [h, Option.bind_some]; exact hk
theorem sf_i {c : Prop} [Decidable c] {A B : Option (β × CS)} (h1 : c → Sf t0 Q2 A) (h2 : ¬ c → Sf t0 Q2 B) : Sf t0 Q2 (if c then A else B) := by
  by_cases h : c
  · rw [if_pos h]; exact h1 h
  · rw [if_neg h]; exact h2 h
theorem rd_i {c : Prop} [Decidable c] {A B : Option (β × CS)} (h1 : c → Rd t Q2 A) (h2 : ¬ c → Rd t Q2 B) : Rd t Q2 (if c then A else B) := by
  by_cases h : c
  · rw [if_pos h]; exact h1 h
  · rw [if_neg h]; exact h2 h
theorem sf_s {r : β} (h : GA t0 t) (hq : Q2 r) : Sf t0 Q2 (some (r, t)) := ⟨r, t, rfl, h, hq⟩
theorem rd_s {r : β} (hq : Q2 r) : Rd t Q2 (some (r, t)) := ⟨r, rfl, hq⟩
theorem rd_z {x : Int32} {Q : Int32 → Prop} (hx : x = 0 ∨ x = 1) (hq : Q x) : Rd t Q (cZ x t) := by
  refine ⟨x, ?_, hq⟩
  unfold cZ
  rw [if_pos hx]
theorem sf_z {x : Int32} {Q : Int32 → Prop} (h : GA t0 t) (hx : x = 0 ∨ x = 1) (hq : Q x) : Sf t0 Q (cZ x t) := by
  refine ⟨x, t, ?_, h, hq⟩
  unfold cZ
  rw [if_pos hx]
theorem rd_sf {o : Option (α × CS)} (h : Rd t Q o) (g : GA t0 t) : Sf t0 Q o := by
  obtain ⟨r, e, q⟩ := h
  exact ⟨r, t, e, g, q⟩
theorem rd_w {o : Option (α × CS)} {Q3 : α → Prop} (h : Rd t Q o) (hw : ∀ r, Q r → Q3 r) : Rd t Q3 o := by
  obtain ⟨r, e, q⟩ := h
  exact ⟨r, e, hw r q⟩
theorem sf_w {o : Option (α × CS)} {Q3 : α → Prop} (h : Sf t0 Q o) (hw : ∀ r, Q r → Q3 r) : Sf t0 Q3 o := by
  obtain ⟨r, t2, e, g, q⟩ := h
  exact ⟨r, t2, e, g, hw r q⟩
theorem AF_refl (t : CS) : AF t t := ⟨fun _ _ _ _ _ => rfl, fun _ _ _ _ => rfl, fun _ _ => rfl, rfl, fun h => h, fun _ _ => ⟨rfl, rfl⟩⟩
theorem AF_I (h : AF t0 t) {ci : Nat} {j k : Nat} (hc : ci = 4 ∨ ci = 9 ∨ (ci = 0 ∧ k ≠ 4)) (x : Int32) : AF t0 (qI t ci j k x) := by
  obtain ⟨h1, h2, h3, h4, h5, h6⟩ := h
  refine ⟨fun c g1 g2 g3 g4 => ?_, h2, h3, h4, fun g => ?_, fun c g => ⟨?_, (h6 c g).2⟩⟩
  · rw [← h1 c g1 g2 g3 g4]
    funext a b
    show up3 t.1 ci j k x c a b = _
    rw [up3_n _ _ (fun e => by have := e.1; omega)]
  · show ¬ up3 t.1 ci j k x 0 0 4 = 0
    rw [up3_n _ _ (fun e => by omega)]
    exact h5 g
  · rw [← (h6 c g).1]
    funext a
    show up3 t.1 ci j k x 7 c a = _
    rw [up3_n _ _ (fun e => by have := e.1; omega)]
theorem AF_0 (h : AF t0 t) (h0 : t.1 0 0 4 = 0) (x : Int32) : AF t0 (qI t 0 0 4 x) := by
  obtain ⟨h1, h2, h3, h4, h5, h6⟩ := h
  refine ⟨fun c g1 g2 g3 g4 => ?_, h2, h3, h4, fun g => absurd h0 (h5 g), fun c g => ⟨?_, (h6 c g).2⟩⟩
  · rw [← h1 c g1 g2 g3 g4]
    funext a b
    show up3 t.1 0 0 4 x c a b = _
    rw [up3_n _ _ (fun e => by have := e.1; omega)]
  · rw [← (h6 c g).1]
    rfl
theorem AF_7 (h : AF t0 t) {j : Nat} (hj : t.2.2.2.1 0 0 3 = some j) (k : Nat) (x : Int32) : AF t0 (qI t 7 j k x) := by
  obtain ⟨h1, h2, h3, h4, h5, h6⟩ := h
  refine ⟨fun c g1 g2 g3 g4 => ?_, h2, h3, h4, h5, fun c g => ⟨?_, (h6 c g).2⟩⟩
  · rw [← h1 c g1 g2 g3 g4]
    funext a b
    show up3 t.1 7 j k x c a b = _
    rw [up3_n _ _ (fun e => by have := e.1; omega)]
  · rw [← (h6 c g).1]
    funext a
    show up3 t.1 7 j k x 7 c a = _
    rw [up3_n _ _ (fun e => g (by rw [e.2.1, ← h3 0 (by decide)]; exact hj))]
theorem AF_A (h : AF t0 t) {ci : Nat} (hc : ci = 4 ∨ ci = 9) (j k : Nat) (f : Nat → Int32) : AF t0 (qF t ci j k f) := by
  obtain ⟨h1, h2, h3, h4, h5, h6⟩ := h
  refine ⟨h1, fun c g1 g2 g3 => ?_, h3, h4, h5, fun c g => ⟨(h6 c g).1, ?_⟩⟩
  · rw [← h2 c g1 g2 g3]
    funext a b
    show up3 t.2.1 ci j k f c a b = _
    rw [up3_n _ _ (fun e => by have := e.1; omega)]
  · rw [← (h6 c g).2]
    funext a
    show up3 t.2.1 ci j k f 7 c a = _
    rw [up3_n _ _ (fun e => by have := e.1; omega)]
theorem AF_A7 (h : AF t0 t) {j : Nat} (hj : t.2.2.2.1 0 0 3 = some j) (k : Nat) (f : Nat → Int32) : AF t0 (qF t 7 j k f) := by
  obtain ⟨h1, h2, h3, h4, h5, h6⟩ := h
  refine ⟨h1, fun c g1 g2 g3 => ?_, h3, h4, h5, fun c g => ⟨(h6 c g).1, ?_⟩⟩
  · rw [← h2 c g1 g2 g3]
    funext a b
    show up3 t.2.1 7 j k f c a b = _
    rw [up3_n _ _ (fun e => by have := e.1; omega)]
  · rw [← (h6 c g).2]
    funext a
    show up3 t.2.1 7 j k f 7 c a = _
    rw [up3_n _ _ (fun e => g (by rw [e.2.1, ← h3 0 (by decide)]; exact hj))]
theorem AF_J (h : AF t0 t) (i : Nat) (x : Int64) : AF t0 (qJ t i x) := h
theorem AF_R (h : AF t0 t) (j k : Nat) (o : Option Nat) : AF t0 (qR t 9 j k o) := by
  obtain ⟨h1, h2, h3, h4, h5, h6⟩ := h
  refine ⟨h1, h2, fun c g1 => ?_, h4, h5, h6⟩
  rw [← h3 c g1]
  funext a b
  show up3 t.2.2.2.1 9 j k o c a b = _
  rw [up3_n _ _ (fun e => g1 e.1)]
theorem GA_0 (h : GA t0 t) (k : Nat) (x : Int32) (hk : k ≠ 4 := by decide) : GA t0 (qI t 0 0 k x) := ⟨h.1, AF_I h.2 (Or.inr (Or.inr ⟨rfl, hk⟩)) x⟩
theorem GA_04 (h : GA t0 t) (h0 : t.1 0 0 4 = 0) (x : Int32) : GA t0 (qI t 0 0 4 x) := ⟨h.1, AF_0 h.2 h0 x⟩
theorem GA_44 (h : GA t0 t) (x : Int32) : GA t0 (qI t 4 0 4 x) := ⟨h.1, AF_I h.2 (by decide) x⟩
theorem GA_71 (h : GA t0 t) {j : Nat} (hj : t.2.2.2.1 0 0 3 = some j) (x : Int32) : GA t0 (qI t 7 j 1 x) := ⟨h.1, AF_7 h.2 hj 1 x⟩
theorem GA_7 (h : GA t0 t) {j : Nat} (hj : t.2.2.2.1 0 0 3 = some j) (f : Nat → Int32) : GA t0 (qF t 7 j 0 f) := ⟨h.1, AF_A7 h.2 hj 0 f⟩
theorem FX_41 (h : FX t) {i : Nat} (hi : 53 ≤ i) (x : Int32) : FX (qA t 4 0 1 i x) := fun j hj => by
  show t.2.2.1 j = _ ∧ upd (t.2.1 4 0 1) i x j = _ ∧ t.2.1 4 0 2 j = 3
  rw [upd_n _ _ (by omega)]
  exact h j hj
theorem FX_42 (h : FX t) {i : Nat} (hi : 53 ≤ i) (x : Int32) : FX (qA t 4 0 2 i x) := fun j hj => by
  show t.2.2.1 j = _ ∧ t.2.1 4 0 1 j = _ ∧ upd (t.2.1 4 0 2) i x j = 3
  rw [upd_n _ _ (by omega)]
  exact h j hj
theorem FX_J (h : FX t) {i : Nat} (hi : 53 ≤ i) (x : Int64) : FX (qJ t i x) := fun j hj => by
  show vp_updL t.2.2.1 i x j = _ ∧ t.2.1 4 0 1 j = _ ∧ t.2.1 4 0 2 j = 3
  unfold vp_updL
  rw [if_neg (by omega)]
  exact h j hj
theorem GA_42 (h : GA t0 t) {i : Nat} (hi : 53 ≤ i) (x : Int32) : GA t0 (qA t 4 0 2 i x) := by
  obtain ⟨⟨a1, ⟨m, b1, b2, b3, b4⟩, a3, a4, a5, a6, a7⟩, hf⟩ := h
  exact ⟨⟨a1, ⟨m, b1, b2, b3, FX_42 b4 hi x⟩, a3, a4, a5, a6, a7⟩, AF_A hf (by decide) 0 2 _⟩
theorem GA_41 (h : GA t0 t) {i : Nat} (hi : 53 ≤ i) {x : Int32} (hx : W12 x) : GA t0 (qA t 4 0 1 i x) := by
  obtain ⟨⟨a1, ⟨m, b1, b2, b3, b4⟩, a3, a4, a5, a6, a7⟩, hf⟩ := h
  exact ⟨⟨a1, ⟨m, b1, b2, b3, FX_41 b4 hi x⟩, a3, a4, a5, upd_all a6 hx i, a7⟩, AF_A hf (by decide) 0 1 _⟩
theorem GA_J (h : GA t0 t) {i : Nat} (hi : 53 ≤ i) (x : Int64) : GA t0 (qJ t i x) := by
  obtain ⟨⟨a1, ⟨m, b1, b2, b3, b4⟩, a3, a4, a5, a6, a7⟩, hf⟩ := h
  exact ⟨⟨a1, ⟨m, b1, b2, b3, FX_J b4 hi x⟩, a3, a4, a5, a6, a7⟩, hf⟩
theorem GA_98 (h : GA t0 t) {x : Nat} (hx : x ≤ 2001) : GA t0 (qI t 9 0 8 (nI x)) := by
  obtain ⟨⟨a1, a2, a3, a4, a5, a6, a7⟩, hf⟩ := h
  exact ⟨⟨a1, a2, a3, a4, a5, a6, x, hx, rfl⟩, AF_I hf (by decide) _⟩
end
section
variable {U S N : Nat} {t0 t : CS}
theorem i_in {n : Nat} {a : Int32} (h0 : ¬ a < 0) (h1 : a < nI n) (hn : n < 2 ^ 31) : ∃ j, j < n ∧ a = nI j := by
  obtain ⟨j, hj, rfl⟩ := nI_of h0
  exact ⟨j, (ltI hj hn).mp h1, rfl⟩
theorem r_byteAt (h : CA t) (a : Int32) : Rd t an (u_X9_byteAt U S N a t) := by
  obtain ⟨-, -, ⟨L, hL, eL⟩, h6, -⟩ := h
  unfold u_X9_byteAt u_X9_byteAt_12 u_X9_byteAt_22
  refine rd_i (fun _ => rd_s trivial) (fun h0 => rd_i (fun h1 => ?_) (fun _ => rd_s trivial))
  rw [eL] at h1
  obtain ⟨j, hj, rfl⟩ := i_in h0 h1 (by omega)
  refine rd_v (x := some 1) (by rw [h6]; rfl) ?_
  refine rd_v (x := t.2.1 11 0 0 j) ?_ (rd_s trivial)
  unfold rB
  rw [Option.bind_some, if_neg (by decide), rH_y (by decide) (by omega)]
theorem r_isLetter (a : Int32) : Rd t (fun x => x = 0 ∨ x = 1) (u_X9_isLetter U S N a t) := by
  unfold u_X9_isLetter u_X9_isLetter_16 u_X9_isLetter_17
  exact rd_i (fun _ => rd_z (Or.inl rfl) (Or.inl rfl)) (fun _ => rd_i (fun _ => rd_z (Or.inl rfl) (Or.inl rfl)) (fun _ => rd_z (Or.inr rfl) (Or.inr rfl)))
theorem r_isDigit (a : Int32) : Rd t (fun x => x = 0 ∨ ∃ d, d < 10 ∧ a = nI (48 + d)) (u_X9_isDigit U S N a t) := by
  unfold u_X9_isDigit u_X9_isDigit_16 u_X9_isDigit_17
  refine rd_i (fun _ => rd_z (Or.inl rfl) (Or.inl rfl)) (fun h1 => rd_i (fun _ => rd_z (Or.inl rfl) (Or.inl rfl)) (fun h2 => rd_z (Or.inr rfl) (Or.inr ?_)))
  have h0 : ¬ a < 0 := fun z => h1 (by
    rw [Int32.lt_iff_toInt_lt] at z ⊢
    have e1 : (0 : Int32).toInt = 0 := rfl
    have e2 : (48 : Int32).toInt = 48 := rfl
    omega)
  obtain ⟨j, hj, rfl⟩ := nI_of h0
  have g1 : ¬ j < 48 := fun z => h1 ((ltI (b := 48) hj (by decide)).mpr z)
  have g2 : ¬ 57 < j := fun z => h2 ((ltI (a := 57) (by decide) hj).mpr z)
  exact ⟨j - 48, by omega, by congr 1; omega⟩
theorem r_isPlain (a : Int32) : Rd t (fun x => x = 0 ∨ ∃ d, d < 127 ∧ a = nI d) (u_X9_isPlain U S N a t) := by
  unfold u_X9_isPlain u_X9_isPlain_16 u_X9_isPlain_17
  refine rd_i (fun _ => rd_z (Or.inl rfl) (Or.inl rfl)) (fun h1 => rd_i (fun _ => rd_z (Or.inl rfl) (Or.inl rfl)) (fun h2 => rd_z (Or.inr rfl) (Or.inr ?_)))
  have h0 : ¬ a < 0 := fun z => h1 (by
    rw [Int32.lt_iff_toInt_lt] at z ⊢
    have e1 : (0 : Int32).toInt = 0 := rfl
    have e2 : (32 : Int32).toInt = 32 := rfl
    omega)
  obtain ⟨j, hj, rfl⟩ := nI_of h0
  have g2 : ¬ 126 < j := fun z => h2 ((ltI (a := 126) (by decide) hj).mpr z)
  exact ⟨j, by omega, rfl⟩
theorem r_valueOf (h : CA t) (a : Int32) : Rd t an (u_X9_valueOf U S N a t) := by
  obtain ⟨⟨c, hc, ec, -⟩, -⟩ := h
  unfold u_X9_valueOf u_X9_valueOf_12 u_X9_valueOf_22
  refine rd_i (fun _ => rd_s trivial) (fun h0 => rd_i (fun h1 => ?_) (fun _ => rd_s trivial))
  rw [ec] at h1
  obtain ⟨j, hj, rfl⟩ := i_in h0 h1 (by omega)
  exact rd_v (rH_y (by decide) (by omega) _ _ _ _) (rd_s trivial)
theorem r_otherOf (h : CA t) (a : Int32) : Rd t an (u_X9_otherOf U S N a t) := by
  obtain ⟨⟨c, hc, ec, -⟩, -⟩ := h
  unfold u_X9_otherOf u_X9_otherOf_12 u_X9_otherOf_22
  refine rd_i (fun _ => rd_s trivial) (fun h0 => rd_i (fun h1 => ?_) (fun _ => rd_s trivial))
  rw [ec] at h1
  obtain ⟨j, hj, rfl⟩ := i_in h0 h1 (by omega)
  exact rd_v (rH_y (by decide) (by omega) _ _ _ _) (rd_s trivial)
theorem r_tellingOf (h : CA t) (a : Int32) : Rd t an (u_X4_tellingOf U S N a t) := by
  obtain ⟨-, ⟨m, hm, em, -⟩, -⟩ := h
  unfold u_X4_tellingOf u_X4_tellingOf_12 u_X4_tellingOf_22
  refine rd_i (fun _ => rd_s trivial) (fun h0 => rd_i (fun h1 => ?_) (fun _ => rd_s trivial))
  rw [em] at h1
  obtain ⟨j, hj, rfl⟩ := i_in h0 h1 (by omega)
  exact rd_v (rH_y (by decide) (by omega) _ _ _ _) (rd_s trivial)
theorem r_nvalue (h : CA t) (a : Int32) : Rd t W12 (u_X4_valueOf U S N a t) := by
  obtain ⟨-, ⟨m, hm, em, -⟩, -, -, -, hv, -⟩ := h
  unfold u_X4_valueOf u_X4_valueOf_12 u_X4_valueOf_22
  refine rd_i (fun _ => rd_s w12_0) (fun h0 => rd_i (fun h1 => ?_) (fun _ => rd_s w12_0))
  rw [em] at h1
  obtain ⟨j, hj, rfl⟩ := i_in h0 h1 (by omega)
  exact rd_v (rH_y (by decide) (by omega) _ _ _ _) (rd_s (hv j))
end
