/-! LAYER 3, the methods that only look: alike -/
def RO (c : Option (Int32 × CS)) (g : Option (Int32 × RS)) (t : CS) (s : RS) : Prop := ∃ x, c = some (x, t) ∧ g = some (x, s)
theorem nI_ne {j : Nat} (h : j < 2 ^ 31) : ¬ nI j = -1 := by
  intro e
  have := congrArg Int32.toInt e
  rw [nI_toInt h] at this
  have e1 : (-1 : Int32).toInt = -1 := rfl
  rw [e1] at this
  omega
theorem rf_n {B : Nat} {o : Option Nat} (hB : B < 100) (h : vd B o) : rf o = -1 ↔ o = none := by
  cases o with
  | none => exact ⟨fun _ => rfl, fun _ => rfl⟩
  | some j =>
    have := h j rfl
    exact ⟨fun e => absurd e (nI_ne (by omega)), fun e => by cases e⟩
theorem and4095 {a : Nat} (h : a < 4096) : nI a &&& 4095 = nI a := by
  apply Int32.toBitVec_inj.mp
  show BitVec.ofNat 32 a &&& 4095#32 = BitVec.ofNat 32 a
  apply BitVec.eq_of_toNat_eq
  rw [BitVec.toNat_and, BitVec.toNat_ofNat, show (4095#32).toNat = 2 ^ 12 - 1 from rfl, Nat.and_two_pow_sub_one_eq_mod, Nat.mod_eq_of_lt (show a < 2 ^ 32 by omega), Nat.mod_eq_of_lt (by omega)]
theorem o10 : ((1 : Int32) = 0) = False := eq_false (by decide)
theorem z00 : ((0 : Int32) = 0) = True := eq_true rfl
section
variable {U S N : Nat} {t : CS} {s : RS} 
theorem inS_y (h : s.1 32 = nI S) (hS : S < 5) {j : Nat} (hj : j < S) : g_in U S N (nI j) 0 ((s.1 32) - 1) s = some (1, s) := by
  rw [h, nI_m1 (by omega), in_y (by omega) hj]
theorem inS_n (h : s.1 32 = nI S) (hS0 : 0 < S) (hS : S < 5) {x : Int32} (hx : x < 0 ∨ nI S ≤ x) : g_in U S N x 0 ((s.1 32) - 1) s = some (0, s) := by
  rw [h, nI_m1 hS0, in_n hS0 (by omega) hx]
theorem ro_core (hU0 : 0 < U) (hU : U < 7) (hS0 : 0 < S) (hS : S < 5) (H : Sim U S t s) (x1 x2 : Int32) : RO (u_X11_core U S N x1 x2 t) (g_core U S N x1 x2 s) t s := by
  obtain ⟨hA, hSs, hB, hC, hR, hL, hK, hQ, hG, hM, hT⟩ := H
  unfold u_X11_core g_core u_X11_core_20 u_X11_core_30 g_core_32 g_core_33
  rcases in_cases S (by omega) x1 with ⟨j, hj, rfl⟩ | hx
  · rw [inS_y hR.1.2 hS hj, slA_y hS hj]
    simp only [Option.bind_some, vl_y hj, reduceCtorEq, if_false, o10]
    rcases in_cases 4096 (by decide) x2 with ⟨p, hp, rfl⟩ | hy
    · rw [isW_y hp, cW_y hp]
      simp only [Option.bind_some, o10, if_false, not_false_eq_true, if_true]
      rw [rQ_y (by omega) hj, rH_y (by decide) hp]
      simp only [Option.bind_some]
      rw [rG_y (by decide) hp]
      exact ⟨_, rfl, by rw [hC (8, 1, 35) (by decide) j p]; rfl⟩
    · rw [isW_n hy, cW_n hy]
      exact ⟨_, rfl, rfl⟩
  · rw [inS_n hR.1.2 hS0 hS hx, slA_n hS0 hS hx]
    exact ⟨_, rfl, rfl⟩
theorem ro_drum (hU0 : 0 < U) (hU : U < 7) (hS0 : 0 < S) (hS : S < 5) (H : Sim U S t s) (x1 x2 : Int32) : RO (u_X11_drum U S N x1 x2 t) (g_drum U S N x1 x2 s) t s := by
  obtain ⟨hA, hSs, hB, hC, hR, hL, hK, hQ, hG, hM, hT⟩ := H
  unfold u_X11_drum u_X11_drum_20 u_X11_drum_30 g_drum g_drum_26 g_drum_27
  rcases in_cases U (by omega) x1 with ⟨j, hj, rfl⟩ | hx
  · rw [isU_y hR.1.1 hU hj, usA_y hU hj]
    simp only [Option.bind_some, vl_y hj, reduceCtorEq, if_false, o10]
    rcases in_cases 4096 (by decide) x2 with ⟨p, hp, rfl⟩ | hy
    · rw [isW_y hp, cW_y hp]
      simp only [Option.bind_some, o10, if_false, not_false_eq_true, if_true]
      rw [rQ_y (by omega) hj, rH_y (by decide) hp]
      simp only [Option.bind_some]
      rw [rG_y (by decide) hp]
      exact ⟨_, rfl, by rw [hC (10, 1, 36) (by decide) j p]; rfl⟩
    · rw [isW_n hy, cW_n hy]
      exact ⟨_, rfl, rfl⟩
  · rw [isU_n hR.1.1 hU0 hU hx, usA_n hU0 hU hx]
    exact ⟨_, rfl, rfl⟩
theorem ro_word (hU0 : 0 < U) (hU : U < 7) (hS0 : 0 < S) (hS : S < 5) (H : Sim U S t s) (x1 x2 : Int32) : RO (u_X11_word U S N x1 x2 t) (g_word__ U S N x1 x2 s) t s := by
  obtain ⟨hA, hSs, hB, hC, hR, hL, hK, hQ, hG, hM, hT⟩ := H
  unfold u_X11_word g_word__ u_X11_word_20 u_X11_word_29 g_word___15 g_word___51
  rcases in_cases U (by omega) x1 with ⟨j, hj, rfl⟩ | hx
  · rw [isU_y hR.1.1 hU hj, usA_y hU hj]
    simp only [Option.bind_some, vl_y hj, reduceCtorEq, if_false, o10]
    rcases in_cases 4096 (by decide) x2 with ⟨p, hp, rfl⟩ | hy
    · rw [isW_y hp, cW_y hp]
      simp only [Option.bind_some, o10, if_false, not_false_eq_true, if_true]
      rw [rA_y (by omega) hj]
      simp only [Option.bind_some]
      obtain ⟨h0, h1, h2⟩ := hR.2.1 j hj
      unfold u_X10_fetch u_X10_fetch_33
      rw [h1, and4095 hp]
      cases ho : t.2.2.2.1 10 j 19 with
      | none =>
        simp only [vl_0, Option.bind_some, not_true_eq_false, if_false, rf]
        rw [rQ_y (by omega) hj, rH_y (by decide) hp]
        simp only [Option.bind_some]
        rw [rG_y (by decide) hp]
        exact ⟨_, rfl, by rw [hC (10, 1, 36) (by decide) j p]; rfl⟩
      | some k =>
        have hk : k < S := h2 k ho
        simp only [vl_y hk, Option.bind_some, reduceCtorEq, not_false_eq_true, if_true, rf]
        simp only [show ¬ nI k = -1 from nI_ne (by omega), not_false_eq_true, if_true]
        rw [rQ_y (by omega) hk, rH_y (by decide) hp]
        simp only [Option.bind_some]
        rw [rG_y (by decide) hp]
        exact ⟨_, rfl, by rw [hC (8, 1, 35) (by decide) k p]; rfl⟩
    · rw [isW_n hy, cW_n hy]
      exact ⟨_, rfl, rfl⟩
  · rw [isU_n hR.1.1 hU0 hU hx, usA_n hU0 hU hx]
    exact ⟨_, rfl, rfl⟩
theorem ro_slot (hU0 : 0 < U) (hU : U < 7) (hS0 : 0 < S) (hS : S < 5) (H : Sim U S t s) (x1 x2 : Int32) : RO (u_X11_slot U S N x1 x2 t) (g_slot U S N x1 x2 s) t s := by
  obtain ⟨hA, hSs, hB, hC, hR, hL, hK, hQ, hG, hM, hT⟩ := H
  unfold u_X11_slot g_slot u_X11_slot_22 g_slot_65 g_slot_80
  rcases in_cases S (by omega) x1 with ⟨j, hj, rfl⟩ | hx
  · rw [inS_y hR.1.2 hS hj, slA_y hS hj]
    simp only [Option.bind_some, vl_y hj, reduceCtorEq, not_false_eq_true, if_true, o10]
    unfold u_X8_register u_X8_register_46 u_X8_register_59 u_X8_register_72
    obtain ⟨h0, h1, h2⟩ := hR.2.2.1 j hj
    by_cases c0 : x2 = 0
    · rw [if_pos c0, if_pos c0, rA_y (by omega) hj, h1]
      cases ho : t.2.2.2.1 8 j 2 with
      | none => simp only [vl_0, Option.bind_some, not_true_eq_false, if_false, rf]; exact ⟨_, rfl, rfl⟩
      | some k =>
        have hk : k < U := h2 k ho
        simp only [vl_y hk, Option.bind_some, reduceCtorEq, not_false_eq_true, if_true, rf]
        exact ⟨_, rfl, by rw [(hR.2.1 k hk).1]⟩
    · rw [if_neg c0, if_neg c0]
      by_cases c1 : x2 = 1
      · rw [if_pos c1, if_pos c1, rA_y (by omega) hj, hSs (3, 39) (by decide) j]
        simp only [Option.bind_some]
        by_cases d : s.2.1 39 j = 0
        · rw [if_pos d, if_pos d]; exact ⟨_, rfl, rfl⟩
        · rw [if_neg d, if_neg d]; exact ⟨_, rfl, rfl⟩
      · rw [if_neg c1, if_neg c1]
        by_cases c2 : x2 = 2
        · rw [if_pos c2, if_pos c2, rA_y (by omega) hj, hSs (4, 40) (by decide) j]
          simp only [Option.bind_some]
          by_cases d : s.2.1 40 j = 0
          · rw [if_pos d, if_pos d]; exact ⟨_, rfl, rfl⟩
          · rw [if_neg d, if_neg d]; exact ⟨_, rfl, rfl⟩
        · rw [if_neg c2, if_neg c2]; exact ⟨_, rfl, rfl⟩
  · rw [inS_n hR.1.2 hS0 hS hx, slA_n hS0 hS hx]
    exact ⟨_, rfl, rfl⟩
theorem ro_made (hU0 : 0 < U) (hU : U < 7) (hS0 : 0 < S) (hS : S < 5) (H : Sim U S t s) (x1 : Int32) : RO (u_X11_made U S N x1 t) (g_made U S N x1 s) t s := by
  obtain ⟨hA, hSs, hB, hC, hR, hL, hK, hQ, hG, hM, hT⟩ := H
  obtain ⟨i, hi, h1, h2, h3⟩ := hM
  unfold u_X11_made g_made g_made_21 u_X7_at u_X7_at_21 u_X7_at_35
  rw [h1]
  simp only [vl_y hi, Option.bind_some]
  rcases in_cases 4096 (by decide) x1 with ⟨p, hp, rfl⟩ | hy
  · rw [show (4095 : Int32) = nI (4096 - 1) from rfl, in_y (by decide) hp, if_neg (nI_nn (by omega)), if_neg (show ¬ (4096 : Int32) ≤ nI p from fun z => by have := (leI (a := 4096) (by decide) (by omega)).mp z; omega), rH_y (by decide) hp]
    simp only [Option.bind_some, o10, if_false]
    rw [rA_y (by decide) hp]
    simp only [Option.bind_some]
    rw [h3 p hp]
    unfold mk
    by_cases d : t.2.1 7 i 0 p = -1
    · rw [if_neg (not_not_intro d), if_pos d]; exact ⟨_, rfl, rfl⟩
    · rw [if_pos d, if_neg d]; exact ⟨_, rfl, rfl⟩
  · rw [show (4095 : Int32) = nI (4096 - 1) from rfl, in_n (by decide) (by decide) hy]
    rcases hy with h | h
    · rw [if_pos h]; exact ⟨_, rfl, rfl⟩
    · rw [if_neg (out_ge (by decide) (by decide) h).2.1, if_pos (show (4096 : Int32) ≤ x1 from h)]; exact ⟨_, rfl, rfl⟩
theorem ro_block (hU0 : 0 < U) (hU : U < 7) (hS0 : 0 < S) (hS : S < 5) (H : Sim U S t s) (x1 x2 x3 : Int32) : RO (u_X11_block U S N x1 x2 x3 t) (g_block U S N x1 x2 x3 s) t s := by
  obtain ⟨hA, hSs, hB, hC, hR, hL, hK, hQ, hG, hM, hT⟩ := H
  unfold u_X11_block g_block u_X11_block_36 g_block_45 g_block_46
  rcases in_cases U (by omega) x1 with ⟨j, hj, rfl⟩ | hx
  · rw [isU_y hR.1.1 hU hj, usA_y hU hj]
    simp only [Option.bind_some, vl_y hj, reduceCtorEq, if_false, o10]
    rcases in_cases 8 (by decide) x2 with ⟨b, hb, rfl⟩ | hy
    · rw [show (7 : Int32) = nI (8 - 1) from rfl, in_y (by decide) hb, if_neg (nI_nn (by omega)), if_neg (show ¬ (8 : Int32) ≤ nI b from fun z => by have := (leI (a := 8) (by decide) (by omega)).mp z; omega)]
      simp only [Option.bind_some, o10, if_false]
      rcases in_cases 128 (by decide) x3 with ⟨i, hi, rfl⟩ | hz
      · rw [show (127 : Int32) = nI (128 - 1) from rfl, in_y (by decide) hi, if_neg (nI_nn (by omega)), if_pos (show nI i < (128 : Int32) from (ltI (b := 128) (by omega) (by decide)).mpr hi)]
        simp only [Option.bind_some, o10, if_false]
        have e1 : nI b * 128 + nI i = nI (128 * b + i) := by
          rw [show (128 : Int32) = nI 128 from rfl, show nI b * nI 128 = nI (b * 128) from (Int32.ofNat_mul b 128).symm, nI_add, Nat.mul_comm]
        have e2 : 128 * nI b + nI i = nI (128 * b + i) := by
          rw [show (128 : Int32) = nI 128 from rfl, show nI 128 * nI b = nI (128 * b) from (Int32.ofNat_mul 128 b).symm, nI_add]
        rw [e1, e2, rQ_y (by omega) hj, rH_y (by decide) (by omega)]
        simp only [Option.bind_some]
        rw [rG_y (by decide) (by omega)]
        exact ⟨_, rfl, by rw [hC (10, 2, 37) (by decide) j _]; rfl⟩
      · rw [show (127 : Int32) = nI (128 - 1) from rfl, in_n (by decide) (by decide) hz]
        simp only [Option.bind_some, if_true]
        rcases hz with h | h
        · rw [if_pos h]; exact ⟨_, rfl, rfl⟩
        · rw [if_neg (out_ge (by decide) (by decide) h).2.1, if_neg (show ¬ x3 < (128 : Int32) from (out_ge (by decide) (by decide) h).2.2)]; exact ⟨_, rfl, rfl⟩
    · rw [show (7 : Int32) = nI (8 - 1) from rfl, in_n (by decide) (by decide) hy]
      simp only [Option.bind_some, if_true]
      rcases hy with h | h
      · rw [if_pos h]; exact ⟨_, rfl, rfl⟩
      · rw [if_neg (out_ge (by decide) (by decide) h).2.1, if_pos (show (8 : Int32) ≤ x2 from h)]; exact ⟨_, rfl, rfl⟩
  · rw [isU_n hR.1.1 hU0 hU hx, usA_n hU0 hU hx]
    exact ⟨_, rfl, rfl⟩
theorem ro_paper (hU0 : 0 < U) (hU : U < 7) (hS0 : 0 < S) (hS : S < 5) (H : Sim U S t s) (hP : ∀ j, j < U → ∃ n, n < 2 ^ 31 ∧ s.2.1 55 j = nI n) (x1 x2 : Int32) : RO (u_X11_paper U S N x1 x2 t) (g_paper U S N x1 x2 s) t s := by
  obtain ⟨hA, hSs, hB, hC, hR, hL, hK, hQ, hG, hM, hT⟩ := H
  unfold u_X11_paper g_paper u_X11_paper_22 g_paper_41 g_paper_42
  rcases in_cases U (by omega) x1 with ⟨j, hj, rfl⟩ | hx
  · rw [isU_y hR.1.1 hU hj, usA_y hU hj]
    simp only [Option.bind_some, vl_y hj, reduceCtorEq, if_false, o10, not_false_eq_true, if_true]
    obtain ⟨n, hn, hp⟩ := hP j hj
    unfold u_X10_letterOnPaper u_X10_letterOnPaper_19 u_X10_letterOnPaper_29
    rw [rA_y (by omega) hj, hA (6, 55) (by decide) j]
    simp only [Option.bind_some]
    rw [hp]
    have hmn : mmin (nI n) 500 = nI (min n 500) := by
      unfold mmin
      by_cases h5 : 500 < n
      · rw [if_pos (show (500 : Int32) < nI n from (ltI (a := 500) (by decide) hn).mpr h5)]; show nI 500 = _; congr 1; omega
      · rw [if_neg (show ¬ (500 : Int32) < nI n from fun z => h5 ((ltI (a := 500) (by decide) hn).mp z))]; congr 1; omega
    rw [hmn]
    by_cases hm : min n 500 = 0
    · have h0 : n = 0 := by omega
      subst h0
      rw [show nI (min 0 500) - 1 = -1 from rfl, g_in_eq]
      have : (if x2 < 0 then (0 : Int32) else if -1 < x2 then 0 else 1) = 0 := by
        by_cases h : x2 < 0
        · rw [if_pos h]
        · rw [if_neg h, if_pos]
          rw [Int32.lt_iff_toInt_lt] at h ⊢
          have e0 : (0 : Int32).toInt = 0 := rfl
          have e1 : (-1 : Int32).toInt = -1 := rfl
          rw [e0] at h
          rw [e1]
          omega
      rw [this]
      simp only [Option.bind_some, if_true]
      by_cases h : x2 < 0
      · rw [if_pos h]; exact ⟨_, rfl, rfl⟩
      · rw [if_neg h, if_pos (by rw [Int32.lt_iff_toInt_lt] at h; rw [Int32.le_iff_toInt_le]; have e0 : (0 : Int32).toInt = 0 := rfl; have e1 : (nI 0).toInt = 0 := rfl; omega)]; exact ⟨_, rfl, rfl⟩
    · rw [nI_m1 (by omega)]
      rcases in_cases (min n 500) (by omega) x2 with ⟨i, hi, rfl⟩ | hy
      · rw [in_y (by omega) hi, if_neg (nI_nn (by omega)), if_neg (fun z => by have := (leI hn (by omega)).mp z; omega), if_pos (show nI i < (500 : Int32) from (ltI (b := 500) (by omega) (by decide)).mpr (by omega)), rH_y (by decide) (by omega)]
        simp only [Option.bind_some, o10, if_false]
        rw [rQ_y (by omega) hj]
        simp only [Option.bind_some]
        rw [rG_y (by decide) (by omega)]
        exact ⟨_, rfl, by rw [hC (10, 3, 54) (by decide) j _]; rfl⟩
      · rw [in_n (by omega) (by omega) hy]
        simp only [Option.bind_some, if_true]
        rcases hy with h | h
        · rw [if_pos h]; exact ⟨_, rfl, rfl⟩
        · obtain ⟨h1, h2, h3⟩ := out_ge (by omega) (by omega) h
          rw [if_neg h2]
          by_cases d : nI n ≤ x2
          · rw [if_pos d]; exact ⟨_, rfl, rfl⟩
          · rw [if_neg d, if_neg]
            · exact ⟨_, rfl, rfl⟩
            · intro z
              rw [Int32.lt_iff_toInt_lt] at z
              rw [Int32.le_iff_toInt_le, nI_toInt hn] at d
              rw [Int32.le_iff_toInt_le, nI_toInt (by omega)] at h
              have e0 : (500 : Int32).toInt = 500 := rfl
              omega
  · rw [isU_n hR.1.1 hU0 hU hx, usA_n hU0 hU hx]
    exact ⟨_, rfl, rfl⟩
theorem ro_look (hU0 : 0 < U) (hU : U < 7) (hS0 : 0 < S) (hS : S < 5) (H : Sim U S t s) (x1 : Int32) : RO (u_X11_look U S N x1 t) (g_look_ U S N x1 s) t s := by
  obtain ⟨hA, hSs, hB, hC, hR, hL, hK, hQ, hG, hM, hT⟩ := H
  unfold u_X11_look u_X11_look_96 u_X11_look_129 u_X1_register u_X1_register_123 u_X1_register_83 u_X1_register_107 g_look_ g_look__98 g_look__114 g_look__130
  by_cases c0 : x1 = 0
  · subst c0
    simp (decide := true) only [if_true, if_false]
    exact ⟨_, rfl, by rw [hB (2, 7, 66) (by decide)]⟩
  by_cases c1 : x1 = 1
  · subst c1
    simp (decide := true) only [if_true, if_false]
    rw [hR.2.2.2.1]
    cases ho : t.2.2.2.1 2 0 8 with
    | none => exact ⟨_, rfl, rfl⟩
    | some j =>
      have hj : j < U := hR.2.2.2.2 j ho
      simp only [vl_y hj, Option.bind_some, reduceCtorEq, not_false_eq_true, if_true]
      exact ⟨_, rfl, by rw [(hR.2.1 j hj).1]; first | done | rfl⟩
  by_cases c2 : x1 = 2
  · subst c2
    simp (decide := true) only [if_true, if_false]
    exact ⟨_, rfl, by rw [hB (1, 0, 67) (by decide)]⟩
  by_cases c3 : x1 = 3
  · subst c3
    simp (decide := true) only [if_true, if_false]
    rcases hK with ⟨h1, h2, h3, h4⟩ | ⟨h0, u, k, hu, hk, h1, h2, h3, h4, h5⟩
    · rw [h1, h2]; exact ⟨_, rfl, rfl⟩
    · rw [if_pos (show ¬ s.1 67 = 0 by rcases h0 with h | h | h | h <;> rw [h] <;> decide), h1, h2]
      simp only [vl_y hu, vl_y hk, Option.bind_some, reduceCtorEq, not_false_eq_true, if_true]
      exact ⟨_, rfl, by rw [(hR.2.1 u hu).1]⟩
  by_cases c4 : x1 = 4
  · subst c4
    simp (decide := true) only [if_true, if_false]
    rcases hK with ⟨h1, h2, h3, h4⟩ | ⟨h0, u, k, hu, hk, h1, h2, h3, h4, h5⟩
    · rw [h1]; exact ⟨_, rfl, by rw [h4]; first | done | rfl⟩
    · rw [if_pos (by rcases h0 with h | h | h | h <;> rw [h] <;> decide)]; exact ⟨_, rfl, by rw [h5]⟩
  by_cases c5 : x1 = 5
  · subst c5
    simp (decide := true) only [if_true, if_false]
    rcases hK with ⟨h1, h2, h3, h4⟩ | ⟨h0, u, k, hu, hk, h1, h2, h3, h4, h5⟩
    · rw [h1, h3]; exact ⟨_, rfl, rfl⟩
    · rw [if_pos (show ¬ s.1 67 = 0 by rcases h0 with h | h | h | h <;> rw [h] <;> decide), h3, h4]
      simp only [vl_y hu, vl_y hk, Option.bind_some, reduceCtorEq, not_false_eq_true, if_true]
      exact ⟨_, rfl, by rw [(hR.2.2.1 k hk).1]⟩
  by_cases c6 : x1 = 6
  · subst c6
    simp (decide := true) only [if_true, if_false]
    exact ⟨_, rfl, by rw [hB (1, 5, 71) (by decide)]⟩
  by_cases c7 : x1 = 7
  · subst c7
    simp (decide := true) only [if_true, if_false]
    exact ⟨_, rfl, by rw [hB (1, 6, 72) (by decide)]⟩
  by_cases c8 : x1 = 8
  · subst c8
    simp (decide := true) only [if_true, if_false]
    exact ⟨_, rfl, by rw [hB (2, 10, 74) (by decide)]⟩
  by_cases c9 : x1 = 9
  · subst c9
    simp (decide := true) only [if_true, if_false]
    exact ⟨_, rfl, by rw [hB (5, 1, 63) (by decide)]⟩
  by_cases c10 : x1 = 10
  · subst c10
    simp (decide := true) only [if_true, if_false]
    exact ⟨_, rfl, by rw [hB (2, 11, 75) (by decide)]⟩
  by_cases c11 : x1 = 11
  · subst c11
    simp (decide := true) only [if_true, if_false]
    exact ⟨_, rfl, by rw [hB (11, 1, 1) (by decide)]⟩
  by_cases c12 : x1 = 12
  · subst c12
    simp (decide := true) only [if_true, if_false]
    exact ⟨_, rfl, by rw [hB (1, 7, 73) (by decide)]⟩
  simp only [c0, c1, c2, c3, c4, c5, c6, c7, c8, c9, c10, c11, c12, if_false]
  exact ⟨_, rfl, rfl⟩
end
