/-! LAYER 3, one invariant for all calls -/
section
variable {U S N T : Nat} {t t2 : CS} {s s2 : RS}
theorem fv_w : ∀ k, k < 53 → (x_fv.getD k 0) &&& 4095 = x_fv.getD k 0 := by decide +kernel
theorem nmS_w : ∀ (n i : Nat) (nm : Int64) (q : Nat × (Nat → Int64) × (Nat → Int32) × (Nat → Int32)), (∀ j, W12 (q.2.2.1 j)) → ∀ j, W12 ((nmS n i nm q).2.2.1 j) := by
  intro n
  induction n with
  | zero => intro i nm q h j; exact h j
  | succ n ih =>
    intro i nm q h j
    show W12 ((if slen 0 ≤ i then q else if schr 0 (nI i) = 32 then (if 53 ≤ q.1 then nmS n (i + 1) nm q else nmS n (i + 1) 0 (q.1 + 1, vp_updL q.2.1 q.1 nm, upd q.2.2.1 q.1 (x_fv.getD q.1 0), upd q.2.2.2 q.1 3)) else nmS n (i + 1) ((nm <<< ((8 : Int32).toInt64 &&& 63)) ||| (schr 0 (nI i)).toInt64) q).2.2.1 j)
    by_cases c1 : slen 0 ≤ i
    · rw [if_pos c1]; exact h j
    · rw [if_neg c1]
      by_cases c2 : schr 0 (nI i) = 32
      · rw [if_pos c2]
        by_cases c3 : 53 ≤ q.1
        · rw [if_pos c3]; exact ih _ _ _ h j
        · rw [if_neg c3]
          refine ih _ _ _ (fun k => ?_) j
          refine upd_all (P := W12) h ?_ _ k
          rw [← fv_w q.1 (by omega)]
          exact w12_and _
      · rw [if_neg c2]; exact ih _ _ _ h j
theorem nm0_w (j : Nat) : W12 (nm0.2.2.1 j) := by
  rw [nm0_eq]
  exact nmS_w 222 0 0 _ (fun _ => w12_0) j
theorem nm0_3 : ∀ i, i < 53 → nm0.2.2.2 i = 3 := by
  rw [nm0_eq]
  decide +kernel
theorem EXT_0 (q sp : Int32) (a1 a2 a3 a4 : Int32) : EXT (cs0 q sp) (rs0 U S a1 a2 a3 a4) := ⟨fun i hi => ⟨rfl, rfl, nm0_3 i hi⟩, fun j => nm0_w j, fun _ => ⟨0, by decide, rfl⟩, rfl⟩
theorem IV_0 {a1 a2 a3 a4 : Int32} (h1 : nr a1 6 = nI U) (h2 : nr a2 4 = nI S) : IV U S (cs0 (nr a3 64) (nr a4 64)) (rs0 U S a1 a2 a3 a4) 0 := by
  have z12 : W12 (0 : Int32) := w12_0
  refine ⟨[], Sim_0 h1 h2, ⟨List.nodup_nil, fun j hj => absurd hj (List.not_mem_nil), rfl, fun i j hi => by simp at hi⟩, ?_⟩
  refine ⟨⟨fun _ => z12, fun _ => z12, fun _ => z12, fun _ => z12, fun _ => Or.inl rfl, fun _ _ => z12, fun _ _ => z12, fun _ _ => z12, fun _ _ => ⟨0, by decide, rfl⟩⟩, ⟨rfl, fun j _ => ⟨0, Nat.le_refl _, rfl⟩⟩, fun j _ hj => ?_, ⟨0, fun _ => 0, fun _ => 0, by decide, rfl, fun j _ hj => ?_, fun j l _ _ hj => ?_⟩, ⟨fun u k _ _ => ⟨fun z => ?_, fun z => ?_⟩, fun k _ _ => ⟨rfl, rfl⟩⟩, fun j hj => absurd hj (List.not_mem_nil), fun u hu => ?_, fun _ u k hu => ?_⟩
  · have : (0 : Int32) = 5 := hj
    exact absurd this (by decide)
  · have : (0 : Int32) = 5 := hj
    exact absurd this (by decide)
  · have : (0 : Int32) = 5 := hj
    exact absurd this (by decide)
  · have : (none : Option Nat) = some k := z
    cases this
  · have : (none : Option Nat) = some u := z
    cases this
  · have : (none : Option Nat) = some u := hu
    cases this
  · have : (none : Option Nat) = some u := hu
    cases this
theorem EXT_k (h : EXT t s) (g : Fr t t2) (e : Fs s s2) : EXT t2 s2 := by
  obtain ⟨h1, h2, h3, h4⟩ := h
  obtain ⟨g1, g2, g3⟩ := g
  refine ⟨?_, ?_, g3 h3, e.trans h4⟩
  · unfold FX at *
    rw [g1, g2]
    exact h1
  · rw [g1]
    exact h2
theorem ft_c (x1 : Int32) : ∃ x, u_X11_fault U S N x1 t = some (x, t) := by
  unfold u_X11_fault
  split
  · exact ⟨_, rfl⟩
  · split
    · exact ⟨_, rfl⟩
    · exact ⟨_, rfl⟩
theorem ft_r (x1 : Int32) : ∃ x, g_fault U S N x1 s = some (x, s) := by
  unfold g_fault g_fault_24
  split
  · split
    · exact ⟨_, rfl⟩
    · exact ⟨_, rfl⟩
  · exact ⟨_, rfl⟩
theorem HI_tw {qs : List Nat} {B : Nat} {Q : Nat → Nat} {D : Nat} : TwK (fun t s => isQ U t s qs ∧ HI U S t s qs T B Q D) := by
  intro t s n b h
  obtain ⟨h1, h2⟩ := h
  refine ⟨h1, ?_⟩
  refine HJ_fr (s := s) (R := t.2.2.2.1) (fun k hk => ?_) (fun k hk => ?_) rfl rfl rfl rfl rfl h2
  · show up1 s.1 1 _ k = _
    rw [up1_n _ _ (by omega)]
  · show up1 s.2.1 0 _ k = _
    rw [up1_n _ _ (by omega)]
/-- what holds between the calls -/
def inv (U S k : Nat) (t : CS) (s : RS) : Prop := ∃ T, T ≤ 20000 * k ∧ IV U S t s T ∧ EXT t s
end
