/-! LAYER 3, the assembler of the class: its readers as functions -/
def bA (t : CS) (a : Int32) : Int32 := if a < 0 then -1 else if a < t.1 9 0 7 then t.2.1 11 0 0 a.toNatClampNeg else -1
def vA (t : CS) (a : Int32) : Int32 := if a < 0 then -1 else if a < t.1 9 0 5 then t.2.1 9 0 3 a.toNatClampNeg else -1
def oA (t : CS) (a : Int32) : Int32 := if a < 0 then -1 else if a < t.1 9 0 5 then t.2.1 9 0 4 a.toNatClampNeg else -1
def kA (t : CS) (a : Int32) : Int32 := if a < 0 then 0 else if a < t.1 9 0 5 then (if t.2.1 9 0 1 a.toNatClampNeg = 2 then (if t.1 0 0 8 = 0 then (if ¬ t.2.1 9 0 3 a.toNatClampNeg = -1 then t.2.1 9 0 1 a.toNatClampNeg else 6) else (if ¬ t.2.1 9 0 4 a.toNatClampNeg = -1 then t.2.1 9 0 1 a.toNatClampNeg else 6)) else t.2.1 9 0 1 a.toNatClampNeg) else 0
def gA (t : CS) (a : Int32) : Int32 := if a < 0 then 0 else if a < t.1 4 0 3 then t.2.1 4 0 2 a.toNatClampNeg else 0
def nA (t : CS) (a : Int32) : Int32 := if a < 0 then 0 else if a < t.1 4 0 3 then t.2.1 4 0 1 a.toNatClampNeg else 0
def eN (k : Int32) : Int32 := if k = 59 then 1 else if k = 10 then 1 else if ¬ k = 0 then 0 else 1
def sN (x : Int32) : Int32 := if x < 0 then 0 else if 4 < x then 0 else 1
def lS (k : Int32) : Int32 := if k = 40 then 1 else if ¬ k = 91 then 0 else 1
def oP (k : Int32) : Int32 := if k = 43 then 1 else if k = 45 then 1 else if k = 33 then 1 else if ¬ k = 38 then 0 else 1
def bV (t : CS) (a : Int32) : Int32 := if ¬ kA t a = 1 then (if kA t a = 2 then 1 else if kA t a = 3 then 1 else if kA t a = 46 then 1 else if ¬ kA t a = 45 then 0 else 1) else (if ¬ sN (vA t a) = 0 then 0 else 1)
def bP (t : CS) (a : Int32) : Int32 := if ¬ bV t a = 0 then 1 else if lS (kA t a) = 0 then 0 else 1
def mdf (t : CS) (a : Int32) : Int32 := if ¬ kA t a = 1 then 0 else if ¬ oP (kA t (a + 1)) = 0 then 0 else if vA t a = 11 then 1 else if ¬ vA t a = 12 then 0 else 1
def kNm (t : CS) (a : Int32) : Int32 := if ¬ kA t (a + 1) = 61 then (if sN (vA t a) = 0 then (if kA t (a + 1) = 45 then 1 else if bP t (a + 1) = 0 then 1 else if vA t a < 5 then 1 else if 10 < vA t a then 1 else 257) else 300 + vA t a) else 256
theorem cZ_y {x : Int32} (t : CS) (h : x = 0 ∨ x = 1) : cZ x t = some (x, t) := by
  unfold cZ
  rw [if_pos h]
theorem clamp_in {n : Nat} {a : Int32} (h0 : ¬ a < 0) (h1 : a < nI n) (hn : n < 2 ^ 31) : a.toNatClampNeg < n ∧ a = nI a.toNatClampNeg := by
  obtain ⟨j, hj, rfl⟩ := i_in h0 h1 hn
  rw [nI_clamp (by omega)]
  exact ⟨hj, rfl⟩
section
variable {U S N : Nat} {t0 t : CS}
theorem rH_c {n : Nat} {a : Int32} (h0 : ¬ a < 0) {c : Nat} (h1 : a < nI c) (hc : c ≤ n) (hn : n < 2 ^ 31) (ci j k : Nat) : rH n t ci j k a = some (t.2.1 ci j k a.toNatClampNeg) := by
  obtain ⟨g1, g2⟩ := clamp_in h0 h1 (by omega)
  have := rH_y (n := n) (i := a.toNatClampNeg) hn (by omega) t ci j k
  rw [← g2] at this
  exact this
theorem e_byte (h : CA t) (a : Int32) : u_X9_byteAt U S N a t = some (bA t a, t) := by
  obtain ⟨-, -, ⟨L, hL, eL⟩, h6, -⟩ := h
  unfold u_X9_byteAt u_X9_byteAt_12 u_X9_byteAt_22 bA
  by_cases h0 : a < 0
  · rw [if_pos h0, if_pos h0]
  · rw [if_neg h0, if_neg h0]
    by_cases h1 : a < t.1 9 0 7
    · rw [if_pos h1, if_pos h1]
      rw [eL] at h1
      rw [h6, vl_y (by decide), Option.bind_some]
      unfold rB
      rw [Option.bind_some, if_neg (by decide), rH_c h0 h1 hL (by decide), Option.bind_some]
    · rw [if_neg h1, if_neg h1]
theorem e_value (h : CA t) (a : Int32) : u_X9_valueOf U S N a t = some (vA t a, t) := by
  obtain ⟨⟨c, hc, ec, -⟩, -⟩ := h
  unfold u_X9_valueOf u_X9_valueOf_12 u_X9_valueOf_22 vA
  by_cases h0 : a < 0
  · rw [if_pos h0, if_pos h0]
  · rw [if_neg h0, if_neg h0]
    by_cases h1 : a < t.1 9 0 5
    · rw [if_pos h1, if_pos h1]
      rw [ec] at h1
      rw [rH_c h0 h1 hc (by decide), Option.bind_some]
    · rw [if_neg h1, if_neg h1]
theorem e_other (h : CA t) (a : Int32) : u_X9_otherOf U S N a t = some (oA t a, t) := by
  obtain ⟨⟨c, hc, ec, -⟩, -⟩ := h
  unfold u_X9_otherOf u_X9_otherOf_12 u_X9_otherOf_22 oA
  by_cases h0 : a < 0
  · rw [if_pos h0, if_pos h0]
  · rw [if_neg h0, if_neg h0]
    by_cases h1 : a < t.1 9 0 5
    · rw [if_pos h1, if_pos h1]
      rw [ec] at h1
      rw [rH_c h0 h1 hc (by decide), Option.bind_some]
    · rw [if_neg h1, if_neg h1]
theorem e_kind (h : CA t) (a : Int32) : u_X0_kindAt U S N a t = some (kA t a, t) := by
  obtain ⟨⟨c, hc, ec, -⟩, -⟩ := h
  unfold u_X0_kindAt u_X0_kindAt_15 u_X0_kindAt_62 u_X0_kindAt_74 kA
  by_cases h0 : a < 0
  · rw [if_pos h0, if_pos h0]
  · rw [if_neg h0, if_neg h0]
    by_cases h1 : a < t.1 9 0 5
    · rw [if_pos h1, if_pos h1]
      rw [ec] at h1
      rw [rH_c h0 h1 hc (by decide), Option.bind_some, rH_c h0 h1 hc (by decide), rH_c h0 h1 hc (by decide), Option.bind_some, Option.bind_some]
      repeat' split
      all_goals rfl
    · rw [if_neg h1, if_neg h1]
theorem e_tell (h : CA t) (a : Int32) : u_X4_tellingOf U S N a t = some (gA t a, t) := by
  obtain ⟨-, ⟨m, hm, em, -⟩, -⟩ := h
  unfold u_X4_tellingOf u_X4_tellingOf_12 u_X4_tellingOf_22 gA
  by_cases h0 : a < 0
  · rw [if_pos h0, if_pos h0]
  · rw [if_neg h0, if_neg h0]
    by_cases h1 : a < t.1 4 0 3
    · rw [if_pos h1, if_pos h1]
      rw [em] at h1
      rw [rH_c h0 h1 hm (by decide), Option.bind_some]
    · rw [if_neg h1, if_neg h1]
theorem e_nval (h : CA t) (a : Int32) : u_X4_valueOf U S N a t = some (nA t a, t) := by
  obtain ⟨-, ⟨m, hm, em, -⟩, -⟩ := h
  unfold u_X4_valueOf u_X4_valueOf_12 u_X4_valueOf_22 nA
  by_cases h0 : a < 0
  · rw [if_pos h0, if_pos h0]
  · rw [if_neg h0, if_neg h0]
    by_cases h1 : a < t.1 4 0 3
    · rw [if_pos h1, if_pos h1]
      rw [em] at h1
      rw [rH_c h0 h1 hm (by decide), Option.bind_some]
    · rw [if_neg h1, if_neg h1]
theorem w_nA (h : CA t) (a : Int32) : W12 (nA t a) := by
  unfold nA
  repeat' split
  · exact w12_0
  · exact h.2.2.2.2.2.1 _
  · exact w12_0
/-- what a token of a kind bears -/
theorem kA_w (h : CA t) (a : Int32) : (kA t a = 2 → t.1 0 0 8 = 0 → W12 (vA t a)) ∧ (kA t a = 2 → ¬ t.1 0 0 8 = 0 → W12 (oA t a)) ∧ (kA t a = 3 → W12 (vA t a)) ∧ (kA t a = 4 → ∃ x y, vA t a = nI x ∧ oA t a = nI y ∧ x ≤ y ∧ y ≤ 2000) := by
  obtain ⟨⟨c, hc, ec, hk⟩, -⟩ := h
  unfold kA vA oA
  by_cases h0 : a < 0
  · rw [if_pos h0, if_pos h0, if_pos h0]
    exact ⟨fun z => absurd z (by decide), fun z => absurd z (by decide), fun z => absurd z (by decide), fun z => absurd z (by decide)⟩
  · rw [if_neg h0, if_neg h0, if_neg h0]
    by_cases h1 : a < t.1 9 0 5
    · rw [if_pos h1, if_pos h1, if_pos h1]
      rw [ec] at h1
      obtain ⟨g1, g2⟩ := clamp_in h0 h1 (by omega)
      obtain ⟨k1, k2, k3⟩ := hk _ g1
      generalize t.2.1 9 0 1 a.toNatClampNeg = kk at *
      generalize t.2.1 9 0 3 a.toNatClampNeg = vv at *
      generalize t.2.1 9 0 4 a.toNatClampNeg = oo at *
      by_cases c2 : kk = 2
      · rw [if_pos c2]
        obtain ⟨m1, m2⟩ := k1 c2
        refine ⟨fun z hz => ?_, fun z hz => ?_, fun z => ?_, fun z => ?_⟩
        · rw [if_pos hz] at z
          by_cases d : vv = -1
          · rw [if_neg (not_not_intro d)] at z; exact absurd z (by decide)
          · exact m1.resolve_left d
        · rw [if_neg hz] at z
          by_cases d : oo = -1
          · rw [if_neg (not_not_intro d)] at z; exact absurd z (by decide)
          · exact m2.resolve_left d
        · exfalso
          rw [c2] at z
          repeat' split at z
          all_goals exact absurd z (by decide)
        · exfalso
          rw [c2] at z
          repeat' split at z
          all_goals exact absurd z (by decide)
      · rw [if_neg c2]
        exact ⟨fun z => absurd z c2, fun z => absurd z c2, k2, k3⟩
    · rw [if_neg h1, if_neg h1, if_neg h1]
      exact ⟨fun z => absurd z (by decide), fun z => absurd z (by decide), fun z => absurd z (by decide), fun z => absurd z (by decide)⟩
theorem e_isEnd (k : Int32) : u_X0_isEnd U S N k t = some (eN k, t) := by
  unfold u_X0_isEnd u_X0_isEnd_16 u_X0_isEnd_21 eN
  repeat' split
  all_goals rfl
theorem e_isSt (x : Int32) : u_X0_isStatementName U S N x t = some (sN x, t) := by
  unfold u_X0_isStatementName u_X0_isStatementName_13 u_X0_isStatementName_14 sN
  repeat' split
  all_goals rfl
theorem e_isLit (k : Int32) : u_X0_isLiteralSign U S N k t = some (lS k, t) := by
  unfold u_X0_isLiteralSign u_X0_isLiteralSign_12 u_X0_isLiteralSign_17 lS
  repeat' split
  all_goals rfl
theorem e_isOp (k : Int32) : u_X0_isOperator U S N k t = some (oP k, t) := by
  unfold u_X0_isOperator u_X0_isOperator_24 u_X0_isOperator_29 oP
  repeat' split
  all_goals rfl
theorem e_begV (h : CA t) (a : Int32) : u_X0_beginsValue U S N a t = some (bV t a, t) := by
  unfold u_X0_beginsValue u_X0_beginsValue_53 u_X0_beginsValue_58 u_X0_beginsValue_30 bV
  rw [e_kind h, Option.bind_some, e_value h, Option.bind_some, e_isSt, Option.bind_some]
  repeat' split
  all_goals rfl
theorem e_begP (h : CA t) (a : Int32) : u_X0_beginsPart U S N a t = some (bP t a, t) := by
  unfold u_X0_beginsPart u_X0_beginsPart_19 u_X0_beginsPart_24 bP
  rw [e_begV h, Option.bind_some, e_kind h, Option.bind_some, e_isLit, Option.bind_some]
  repeat' split
  all_goals rfl
theorem e_mdf (h : CA t) (a : Int32) : u_X0_isModifierAt U S N a t = some (mdf t a, t) := by
  unfold u_X0_isModifierAt u_X0_isModifierAt_47 u_X0_isModifierAt_43 u_X0_isModifierAt_48 mdf
  rw [e_value h, Option.bind_some, e_kind h, Option.bind_some, e_kind h, Option.bind_some, e_isOp, Option.bind_some]
  repeat' split
  all_goals rfl
theorem e_kNm (h : CA t) : u_X0_kindOfNamed U S N t = some (kNm t (t.1 0 0 9), t) := by
  unfold u_X0_kindOfNamed u_X0_kindOfNamed_76 u_X0_kindOfNamed_77 u_X0_kindOfNamed_93 u_X0_kindOfNamed_94 u_X0_kindOfNamed_109 u_X0_kindOfNamed_110 kNm
  simp only [e_value h, e_kind h, e_isSt, e_begP h, Option.bind_some]
  repeat' split
  all_goals first | rfl | (exfalso; simp_all)
end
