/-! LAYER 3, one call on fresh objects: key, mount, run -/
def cpF (f g : Nat → Int32) (k : Nat) : Nat → Int32 := fun i => if k ≤ i ∧ i < 4096 then g i else f i
theorem cp_s (f g : Nat → Int32) {k : Nat} (h : k < 4096) : cpF (upd f k (g k)) g (k + 1) = cpF f g k := by
  funext i
  unfold cpF upd
  by_cases h1 : k + 1 ≤ i ∧ i < 4096
  · rw [if_pos h1, if_pos ⟨by omega, h1.2⟩]
  · rw [if_neg h1]
    by_cases h2 : i = k
    · rw [if_pos h2, if_pos ⟨by omega, by omega⟩, h2]
    · rw [if_neg h2, if_neg (fun e => h1 ⟨by omega, e.2⟩)]
theorem cp_e (f g : Nat → Int32) : cpF f g 4096 = f := by
  funext i
  unfold cpF
  rw [if_neg (fun e => by omega)]
def mk0 (c : Int32) : Int32 := if c = -1 then 0 else c &&& 4095
def rmz (c : Int32) : Int32 := if c = -1 then 0 else c
theorem qF_qF (t : CS) (a b c : Nat) (f g : Nat → Int32) : qF (qF t a b c f) a b c g = qF t a b c g := by
  unfold qF
  dsimp only
  rw [up3_up3]
theorem qF_id (t : CS) (a b c : Nat) : qF t a b c (t.2.1 a b c) = t := by
  unfold qF
  rw [up3_id]
theorem qF_s (t : CS) (a b c : Nat) (f : Nat → Int32) : (qF t a b c f).2.1 a b c = f := by
  unfold qF up3
  dsimp only
  rw [if_pos ⟨rfl, rfl, rfl⟩]
def sG (s : RS) (k j : Nat) (f : Nat → Int32) : RS := (s.1, s.2.1, up1 s.2.2 k (up1 (s.2.2 k) j f))
theorem sG_sG (s : RS) (k j : Nat) (f g : Nat → Int32) : sG (sG s k j f) k j g = sG s k j g := by
  unfold sG
  dsimp only
  rw [up1_s, up1_up1, up1_up1]
theorem sG_id (s : RS) (k j : Nat) : sG s k j (s.2.2 k j) = s := by
  unfold sG
  rw [up1_id, up1_id]
theorem sG_s (s : RS) (k j : Nat) (f : Nat → Int32) : (sG s k j f).2.2 k j = f := by
  unfold sG
  dsimp only
  rw [up1_s, up1_s]
section
variable {U S N : Nat} {t : CS} {s : RS}
theorem cp_c {a j : Nat} (G : Nat → Int32) : ∀ (m k : Nat) (t : CS), (∀ i, i < 4096 → t.2.1 7 a 0 i = G i) → 4096 < k + m → k ≤ 4096 → ul_X7_copyTo_2 U S N m a j (nI k) t = some ((), qF t 10 j 1 (cpF (t.2.1 10 j 1) (fun i => mk0 (G i)) k)) := by
  intro m
  induction m with
  | zero => intro k t _ h1 h2; omega
  | succ m ih =>
    intro k t hG h1 h2
    show uh_X7_copyTo_2 U S N (ul_X7_copyTo_2 U S N m) a j (nI k) t = _
    unfold uh_X7_copyTo_2 u_X7_copyTo_48 u_X7_copyTo_41
    by_cases hk : k = 4096
    · subst hk
      rw [if_pos (show (4096 : Int32) ≤ nI 4096 from (leI (a := 4096) (by decide) (by decide)).mpr (Nat.le_refl _)), cp_e, qF_id]
    · have hlt : k < 4096 := by omega
      rw [if_neg (show ¬ (4096 : Int32) ≤ nI k from fun z => by have := (leI (a := 4096) (by decide) (by omega)).mp z; omega), if_neg (fun z => by have := (leI (by decide) (by omega)).mp z; omega), rH_y (by decide) hlt]
      simp only [Option.bind_some]
      rw [wH_y (by decide) hlt, wH_y (by decide) hlt, hG k hlt, nI_1]
      have fin : ∀ v, v = mk0 (G k) → ((some (qA t 10 j 1 k v)).bind fun μ1 => ul_X7_copyTo_2 U S N m a j (nI (k + 1)) μ1) = some ((), qF t 10 j 1 (cpF (t.2.1 10 j 1) (fun i => mk0 (G i)) k)) := by
        intro v hv
        show ul_X7_copyTo_2 U S N m a j (nI (k + 1)) (qA t 10 j 1 k v) = _
        rw [ih (k + 1) (qA t 10 j 1 k v) hG (by omega) (by omega)]
        unfold qA
        rw [qF_qF, qF_s, hv, cp_s (t.2.1 10 j 1) (fun i => mk0 (G i)) hlt]
      by_cases hc : G k = -1
      · rw [if_neg (not_not_intro hc)]
        exact fin 0 (by unfold mk0; rw [if_pos hc])
      · rw [if_pos hc]
        exact fin (G k &&& 4095) (by unfold mk0; rw [if_neg hc])
def mtR (s : RS) (j : Nat) : RS := pA (pA (pA (pA (pA s 43 j 0) 44 j 0) 46 j 0) 45 j 128) 42 j 6
theorem cp_r (hU : U < 7) {j : Nat} (hj : j < U) (G : Nat → Int32) : ∀ (m k : Nat) (s : RS), (∀ i, i < 4096 → s.2.1 25 i = G i) → 4096 < k + m → k ≤ 4096 → l_mount_40 U S N m (nI j) (nI k) s = some (1, mtR (sG s 36 j (cpF (s.2.2 36 j) (fun i => rmz (G i)) k)) j) := by
  intro m
  induction m with
  | zero => intro k s _ h1 h2; omega
  | succ m ih =>
    intro k s hG h1 h2
    show h_mount_40 U S N (l_mount_40 U S N m) (nI j) (nI k) s = _
    unfold h_mount_40 g_mount_74
    by_cases hk : k = 4096
    · subst hk
      rw [if_pos (show (4096 : Int32) ≤ nI 4096 from (leI (a := 4096) (by decide) (by decide)).mpr (Nat.le_refl _)), cp_e, sG_id, wA_y (by omega) hj]
      simp only [Option.bind_some]
      rw [wA_y (by omega) hj]
      simp only [Option.bind_some]
      rw [wA_y (by omega) hj]
      simp only [Option.bind_some]
      rw [wA_y (by omega) hj]
      simp only [Option.bind_some]
      rw [wA_y (by omega) hj]
      rfl
    · have hlt : k < 4096 := by omega
      rw [if_neg (show ¬ (4096 : Int32) ≤ nI k from fun z => by have := (leI (a := 4096) (by decide) (by omega)).mp z; omega), rQ_y (by omega) hj]
      simp only [Option.bind_some]
      rw [rA_y (by decide) hlt, hG k hlt]
      simp only [Option.bind_some]
      rw [wG_y (by decide) hlt, wG_y (by decide) hlt, nI_1]
      have fin : ∀ v, v = rmz (G k) → ((some (pG s 36 j k v)).bind fun μ1 => l_mount_40 U S N m (nI j) (nI (k + 1)) μ1) = some (1, mtR (sG s 36 j (cpF (s.2.2 36 j) (fun i => rmz (G i)) k)) j) := by
        intro v hv
        show l_mount_40 U S N m (nI j) (nI (k + 1)) (pG s 36 j k v) = _
        rw [ih (k + 1) (pG s 36 j k v) hG (by omega) (by omega)]
        rw [show pG s 36 j k v = sG s 36 j (upd (s.2.2 36 j) k v) from rfl, sG_sG, sG_s, hv, cp_s (s.2.2 36 j) (fun i => rmz (G i)) hlt]
      by_cases hc : G k = -1
      · rw [if_neg (not_not_intro hc)]
        exact fin 0 (by unfold rmz; rw [if_pos hc])
      · rw [if_pos hc]
        exact fin (G k) (by unfold rmz; rw [if_neg hc])
theorem em_mount (hU0 : 0 < U) (hU : U < 7) (hN : 4096 < N) (H : Sim U S t s) (hz : ∀ j, j < U → s.2.1 42 j = 0) (hs : ∀ j, j < U → t.2.2.2.1 10 j 19 = none) (hk : s.1 67 = 0) (x1 : Int32) : Agr (u_X11_mount U S N x1 t) (g_mount U S N x1 s) := by
  have h31 := H.2.2.2.2.1.1.1
  unfold u_X11_mount u_X11_mount_24 g_mount g_mount_16 g_mount_38
  rcases in_cases U (by omega) x1 with ⟨j, hj, rfl⟩ | hx
  · obtain ⟨m1, m2⟩ := u_mayChange_y (N := N) hU H hj
    have hm : mayc s j := ⟨Or.inl (hz j hj), fun z => z.1 hk⟩
    rw [g_rests_y hU h31 hj, usA_y hU hj, hz j hj]
    simp only [Option.bind_some, vl_y hj, reduceCtorEq, if_false, true_or, if_true, o10]
    rw [m1 hm]
    rcases g_isMoved_y (N := N) H j with ⟨h, _⟩ | ⟨_, h⟩
    · exact absurd h hm.2
    · rw [h]
      obtain ⟨i, hi, hM1, hM2, hM3⟩ := H.2.2.2.2.2.2.2.2.2.1
      simp only [Option.bind_some, o10, not_false_eq_true, if_true]
      rw [hM1, rA_y (by omega) hj, (H.2.2.2.2.1.2.1 j hj).2.1, hs j hj]
      simp only [Option.bind_some, vl_y hi, rf, if_true]
      rw [show (0 : Int32) = nI 0 from rfl, cp_r hU hj (s.2.1 25) N 0 s (fun _ _ => rfl) (by omega) (by omega)]
      unfold u_X2_load u_X2_load_14 u_X7_copyTo
      simp only [Option.bind_some]
      rw [hs j hj]
      simp only [Option.bind_some, vl_0, if_true]
      rw [show (0 : Int32) = nI 0 from rfl, cp_c (t.2.1 7 i 0) N 0 t (fun _ _ => rfl) (by omega) (by omega)]
      exact agr rfl rfl
  · rw [g_rests_n hU0 hU h31 hx, usA_n hU0 hU hx]
    exact agr rfl rfl
theorem em_key (hU0 : 0 < U) (hU : U < 7) (H : Sim U S t s) (hz : ∀ j, j < U → s.2.1 42 j = 0) (x1 x2 : Int32) : Agr (u_X11_key U S N x1 x2 t) (g_key U S N x1 x2 s) := by
  have h31 := H.2.2.2.2.1.1.1
  unfold u_X11_key u_X11_key_23 g_key g_key_18 g_key_82
  rcases in_cases U (by omega) x1 with ⟨j, hj, rfl⟩ | hx
  · rw [isU_y h31 hU hj, usA_y hU hj]
    simp only [Option.bind_some, vl_y hj, reduceCtorEq, if_false, o10]
    rcases in_cases 128 (by decide) x2 with ⟨c, hc, rfl⟩ | hy
    · rw [show (127 : Int32) = nI (128 - 1) from rfl, in_y (by decide) hc, if_neg (nI_nn (by omega)), if_pos ((leI (by omega) (by decide)).mpr (by omega))]
      simp only [Option.bind_some, o10, not_false_eq_true, if_true]
      obtain ⟨F, M, hF, hM, e1, e2, e3, e4⟩ := (H.2.2.2.2.2.2.2.2.1 j hj).1
      have e8 : t.1 10 j 8 = 0 := by rw [H.1 (8, 42) (by decide) j]; exact hz j hj
      unfold u_X2_press u_X2_press_43
      simp only [Option.bind_some]
      rw [full_y e2 hM, rA_y (by omega) hj, e3]
      simp only [Option.bind_some]
      by_cases hf : M = 16
      · subst hf
        rw [if_pos rfl, if_neg (show ¬ ¬ nI 16 = (16 : Int32) from not_not_intro rfl), rA_y (by omega) hj]
        simp only [Option.bind_some, o10, if_false]
        rw [wA_y (by omega) hj]
        exact agr rfl rfl
      · rw [if_neg hf, if_pos (show ¬ nI M = (16 : Int32) from fun z => hf ((eqI (b := 16) (by omega) (by decide)).mp z)), rQ_y (by omega) hj, app_y e1 e2 hF (by omega)]
        simp only [Option.bind_some, if_true]
        rw [wG_y (by decide) (by omega)]
        simp only [Option.bind_some]
        rw [rA_y (by omega) hj]
        simp only [Option.bind_some]
        rw [wA_y (by omega) hj]
        simp only [Option.bind_some]
        rw [rA_y (by omega) hj]
        simp only [Option.bind_some]
        rw [if_pos, if_pos]
        · exact agr rfl rfl
        · intro z
          have : s.2.1 42 j = 2 := z
          rw [hz j hj] at this
          exact absurd this (by decide)
        · intro z
          have : t.1 10 j 8 = 2 := z
          rw [e8] at this
          exact absurd this (by decide)
    · rw [show (127 : Int32) = nI (128 - 1) from rfl, in_n (by decide) (by decide) hy]
      simp only [Option.bind_some, not_true_eq_false, if_false]
      rcases hy with h | h
      · rw [if_pos h]; exact agr rfl rfl
      · rw [if_neg (out_ge (by decide) (by decide) h).2.1, if_neg (fun z => by have := (out_ge (n := 128) (by decide) (by decide) h).1; rw [Int32.lt_iff_toInt_lt] at this; rw [Int32.le_iff_toInt_le] at z; omega)]; exact agr rfl rfl
  · rw [isU_n h31 hU0 hU hx, usA_n hU0 hU hx]
    exact agr rfl rfl
end
