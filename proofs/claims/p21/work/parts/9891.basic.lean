/-! LAYER 3, the smallest steps over the typed states -/
theorem rZ0 (s : RS) : rZ 0 s = some (0, s) := rfl
theorem rZ1 (s : RS) : rZ 1 s = some (1, s) := rfl
theorem cZ0 (t : CS) : cZ 0 t = some (0, t) := rfl
theorem cZ1 (t : CS) : cZ 1 t = some (1, t) := rfl
theorem g_in_eq (U S N : Nat) (a lo hi : Int32) (s : RS) : g_in U S N a lo hi s = some (if a < lo then 0 else if hi < a then 0 else 1, s) := by
  unfold g_in g_in_14 g_in_15
  by_cases h1 : a < lo
  · rw [if_pos h1, if_pos h1]; rfl
  · rw [if_neg h1, if_neg h1]
    by_cases h2 : hi < a
    · rw [if_pos h2, if_pos h2]; rfl
    · rw [if_neg h2, if_neg h2]; rfl
theorem nI_nn {j : Nat} (h : j < 2 ^ 31) : ¬ nI j < 0 := by
  rw [Int32.lt_iff_toInt_lt, nI_toInt h]
  show ¬ (j : Int) < 0
  omega
theorem ltI {a b : Nat} (ha : a < 2 ^ 31) (hb : b < 2 ^ 31) : nI a < nI b ↔ a < b := nI_ltI ha hb
theorem leI {a b : Nat} (ha : a < 2 ^ 31) (hb : b < 2 ^ 31) : nI a ≤ nI b ↔ a ≤ b := by
  rw [Int32.le_iff_toInt_le, nI_toInt ha, nI_toInt hb]
  omega
theorem eqI {a b : Nat} (ha : a < 2 ^ 31) (hb : b < 2 ^ 31) : nI a = nI b ↔ a = b := by
  constructor
  · intro h
    have := congrArg Int32.toInt h
    rw [nI_toInt ha, nI_toInt hb] at this
    omega
  · intro h; rw [h]
/-- a number is one of 0 .. n - 1, or outside -/
theorem in_cases (n : Nat) (hn : n < 2 ^ 31) (x : Int32) : (∃ j, j < n ∧ x = nI j) ∨ (x < 0 ∨ nI n ≤ x) := by
  by_cases h : x < 0
  · exact Or.inr (Or.inl h)
  · obtain ⟨j, hj, rfl⟩ := nI_of h
    by_cases h2 : j < n
    · exact Or.inl ⟨j, h2, rfl⟩
    · exact Or.inr (Or.inr ((leI hn hj).mpr (by omega)))
theorem out_ge {n : Nat} (hn : 0 < n) (hn2 : n < 2 ^ 31) {x : Int32} (h : nI n ≤ x) : nI (n - 1) < x ∧ ¬ x < 0 ∧ ¬ x < nI n := by
  rw [Int32.le_iff_toInt_le, nI_toInt hn2] at h
  rw [Int32.lt_iff_toInt_lt, Int32.lt_iff_toInt_lt, Int32.lt_iff_toInt_lt, nI_toInt (show n - 1 < 2 ^ 31 by omega), nI_toInt hn2]
  refine ⟨by omega, ?_, by omega⟩
  show ¬ x.toInt < 0
  omega
theorem nI_m1 {n : Nat} (h : 0 < n) : nI n - 1 = nI (n - 1) := by
  rw [show nI n = nI (n - 1) + 1 by rw [nI_1]; congr 1; omega]
  exact Int32.add_sub_cancel _ _
/-- 'in' of 0 .. n - 1 -/
theorem in_y {U S N n j : Nat} (hn : n < 2 ^ 31) (hj : j < n) (s : RS) : g_in U S N (nI j) 0 (nI (n - 1)) s = some (1, s) := by
  rw [g_in_eq, if_neg (nI_nn (by omega)), if_neg (by rw [ltI (by omega) (by omega)]; omega)]
theorem in_n {U S N n : Nat} (hn0 : 0 < n) (hn : n < 2 ^ 31) {x : Int32} (h : x < 0 ∨ nI n ≤ x) (s : RS) : g_in U S N x 0 (nI (n - 1)) s = some (0, s) := by
  rw [g_in_eq]
  rcases h with h | h
  · rw [if_pos h]
  · rw [if_neg (out_ge hn0 hn h).2.1, if_pos (out_ge hn0 hn h).1]
theorem isU_y {U S N j : Nat} {s : RS} (h : s.1 31 = nI U) (hU : U < 7) (hj : j < U) : g_isUser U S N (nI j) s = some (1, s) := by
  unfold g_isUser
  rw [h, nI_m1 (by omega), in_y (by omega) hj]
  rfl
theorem isU_n {U S N : Nat} {s : RS} (h : s.1 31 = nI U) (hU0 : 0 < U) (hU : U < 7) {x : Int32} (hx : x < 0 ∨ nI U ≤ x) : g_isUser U S N x s = some (0, s) := by
  unfold g_isUser
  rw [h, nI_m1 hU0, in_n hU0 (by omega) hx]
  rfl
theorem isW_y {U S N j : Nat} {s : RS} (hj : j < 4096) : g_isWord U S N (nI j) s = some (1, s) := by
  unfold g_isWord
  rw [show (4095 : Int32) = nI (4096 - 1) from rfl, in_y (by decide) hj]
  rfl
theorem isW_n {U S N : Nat} {s : RS} {x : Int32} (hx : x < 0 ∨ nI 4096 ≤ x) : g_isWord U S N x s = some (0, s) := by
  unfold g_isWord
  rw [show (4095 : Int32) = nI (4096 - 1) from rfl, in_n (by decide) (by decide) hx]
  rfl
theorem rQ_y {n j : Nat} (hn : n < 2 ^ 31) (hj : j < n) : rQ n (nI j) = some j := by
  unfold rQ
  rw [if_neg (nI_in hj hn), nI_clamp (by omega)]
theorem rA_y {n j : Nat} (hn : n < 2 ^ 31) (hj : j < n) (s : RS) (k : Nat) : rA n s k (nI j) = some (s.2.1 k j) := by
  unfold rA
  rw [if_neg (nI_in hj hn), nI_clamp (by omega)]
theorem wA_y {n j : Nat} (hn : n < 2 ^ 31) (hj : j < n) (s : RS) (k : Nat) (x : Int32) : wA n s k (nI j) x = some (pA s k j x) := by
  unfold wA
  rw [if_neg (nI_in hj hn), nI_clamp (by omega)]
theorem wZ_y {n j : Nat} (hn : n < 2 ^ 31) (hj : j < n) (s : RS) (k : Nat) {x : Int32} (hx : x = 0 ∨ x = 1) : wZ n s k (nI j) x = some (pA s k j x) := by
  unfold wZ
  rw [if_neg (nI_in hj hn), if_pos hx, nI_clamp (by omega)]
theorem rG_y {n i : Nat} (hn : n < 2 ^ 31) (hi : i < n) (s : RS) (k j : Nat) : rG n s k j (nI i) = some (s.2.2 k j i) := by
  unfold rG
  rw [if_neg (nI_in hi hn), nI_clamp (by omega)]
theorem wG_y {n i : Nat} (hn : n < 2 ^ 31) (hi : i < n) (s : RS) (k j : Nat) (x : Int32) : wG n s k j (nI i) x = some (pG s k j i x) := by
  unfold wG
  rw [if_neg (nI_in hi hn), nI_clamp (by omega)]
theorem rH_y {n i : Nat} (hn : n < 2 ^ 31) (hi : i < n) (t : CS) (ci j k : Nat) : rH n t ci j k (nI i) = some (t.2.1 ci j k i) := by
  unfold rH
  rw [if_neg (nI_in hi hn), nI_clamp (by omega)]
theorem wH_y {n i : Nat} (hn : n < 2 ^ 31) (hi : i < n) (t : CS) (ci j k : Nat) (x : Int32) : wH n t ci j k (nI i) x = some (qA t ci j k i x) := by
  unfold wH
  rw [if_neg (nI_in hi hn), nI_clamp (by omega)]
theorem vl_y {B j : Nat} (h : j < B) : vl B (some j) = some (some j) := by
  unfold vl
  dsimp only
  rw [if_pos h]
theorem vl_0 (B : Nat) : vl B none = some none := rfl
theorem usA_y {U S N j : Nat} (hU : U < 7) (hj : j < U) (t : CS) : u_X2_userAt U S N (nI j) t = some (some j, t) := by
  unfold u_X2_userAt u_X2_userAt_23
  rw [if_neg (nI_nn (by omega)), if_pos ((ltI (by omega) (by omega)).mpr hj), rQ_y (by omega) hj]
  rfl
theorem usA_n {U S N : Nat} (hU0 : 0 < U) (hU : U < 7) {x : Int32} (hx : x < 0 ∨ nI U ≤ x) (t : CS) : u_X2_userAt U S N x t = some (none, t) := by
  unfold u_X2_userAt u_X2_userAt_13 u_X2_userAt_23
  rcases hx with h | h
  · rw [if_pos h]
  · rw [if_neg (out_ge hU0 (by omega) h).2.1, if_neg (out_ge hU0 (by omega) h).2.2]
theorem slA_y {U S N j : Nat} (hS : S < 5) (hj : j < S) (t : CS) : u_X2_slotAt U S N (nI j) t = some (some j, t) := by
  unfold u_X2_slotAt u_X2_slotAt_23
  rw [if_neg (nI_nn (by omega)), if_pos ((ltI (by omega) (by omega)).mpr hj), rQ_y (by omega) hj]
  rfl
theorem slA_n {U S N : Nat} (hS0 : 0 < S) (hS : S < 5) {x : Int32} (hx : x < 0 ∨ nI S ≤ x) (t : CS) : u_X2_slotAt U S N x t = some (none, t) := by
  unfold u_X2_slotAt u_X2_slotAt_13 u_X2_slotAt_23
  rcases hx with h | h
  · rw [if_pos h]
  · rw [if_neg (out_ge hS0 (by omega) h).2.1, if_neg (out_ge hS0 (by omega) h).2.2]
theorem cW_y {U S N j : Nat} {t : CS} (hj : j < 4096) : u_X11_isWord U S N (nI j) t = some (1, t) := by
  unfold u_X11_isWord u_X11_isWord_16
  rw [if_neg (nI_nn (by omega)), if_neg (show ¬ (4096 : Int32) ≤ nI j from fun z => by have := (leI (a := 4096) (by decide) (by omega)).mp z; omega)]
  rfl
theorem cW_n {U S N : Nat} {t : CS} {x : Int32} (hx : x < 0 ∨ nI 4096 ≤ x) : u_X11_isWord U S N x t = some (0, t) := by
  unfold u_X11_isWord u_X11_isWord_15 u_X11_isWord_16
  rcases hx with h | h
  · rw [if_pos h]; rfl
  · rw [if_neg (out_ge (by decide) (by decide) h).2.1, if_pos (show (4096 : Int32) ≤ x from h)]; rfl
/-- both answer, and alike -/
def Agr (c : Option (Int32 × CS)) (g : Option (Int32 × RS)) : Prop := ∃ q p, c = some q ∧ g = some p ∧ q.1 = p.1
theorem agr {c : Option (Int32 × CS)} {g : Option (Int32 × RS)} {x : Int32} {t : CS} {s : RS} (h1 : c = some (x, t)) (h2 : g = some (x, s)) : Agr c g := ⟨_, _, h1, h2, rfl⟩
