/-! LAYER 3, every call keeps the invariant -/
section
variable {U S N k : Nat} {t : CS} {s : RS}
theorem inv_s (hU0 : 1 ≤ U) (hU : U ≤ 6) (hS0 : 1 ≤ S) (hS : S ≤ 4) (hN : 20001 < N) (hk : k < 512) (h : inv U S k t s) (op x1 x2 x3 x4 x5 : Int32) : ∃ t2 s2, stp U S N op x1 x2 x3 x4 x5 t s = some (t2, s2) ∧ inv U S (k + 1) t2 s2 := by
  obtain ⟨T, hT, hI, hX⟩ := h
  obtain ⟨qs, hInv⟩ := id hI
  obtain ⟨H, hQ, hH⟩ := id hInv
  have keep : ∀ (t2 : CS) (s2 : RS), IV U S t2 s2 T → Fr t t2 → Fs s s2 → inv U S (k + 1) t2 s2 := fun t2 s2 a b c => ⟨T, by omega, a, EXT_k hX b c⟩
  have same : inv U S (k + 1) t s := ⟨T, by omega, hI, hX⟩
  unfold stp
  by_cases c0 : op = 0
  · rw [if_pos c0]
    unfold sc_feed
    obtain ⟨x, t2, s2, e1, e2, e3, e4⟩ := al_feed (N := N) (by omega) H x1 x2 x3 x4 x5
    rw [e1, Option.bind_some, e2, Option.bind_some]
    refine ⟨t2, s2, by first | rfl | exact if_pos rfl, keep t2 s2 ⟨qs, e3, e4 _ HI_tw ⟨hQ, hH⟩⟩ (fr_u_X11_feed (Fr_0 t) _ _ e1) (fs_g_feed rfl _ _ e2)⟩
  rw [if_neg c0]
  by_cases c1 : op = 1
  · rw [if_pos c1]
    unfold sc_end
    obtain ⟨x, t2, s2, e1, e2, e3, e4⟩ := al_end (N := N) H x1
    rw [e1, Option.bind_some, e2, Option.bind_some]
    refine ⟨t2, s2, by first | rfl | exact if_pos rfl, keep t2 s2 ⟨qs, e3, ?_⟩ (fr_u_X11_end (Fr_0 t) _ _ e1) (fs_g_end rfl _ _ e2)⟩
    rcases e4 with ⟨rfl, rfl⟩ | ⟨m, rfl, rfl⟩
    · exact ⟨hQ, hH⟩
    · refine ⟨hQ, HJ_fr (s := s) (R := t.2.2.2.1) (fun k hk => ?_) (fun k hk => rfl) rfl rfl rfl rfl rfl hH⟩
      show up1 s.1 1 _ k = _
      rw [up1_n _ _ (by omega)]
  rw [if_neg c1]
  by_cases c2 : op = 2
  · rw [if_pos c2]
    unfold sc_assemble
    obtain ⟨x, t2, s2, e1, e2, e3, e4⟩ := al_asm (N := N) (by omega) hI hX
    rw [e1, Option.bind_some, e2, Option.bind_some]
    exact ⟨t2, s2, by first | rfl | exact if_pos rfl, T, by omega, e3, e4⟩
  rw [if_neg c2]
  by_cases c3 : op = 3
  · rw [if_pos c3]
    unfold sc_fault
    obtain ⟨x, e1⟩ := ft_c (U := U) (S := S) (N := N) (t := t) x1
    obtain ⟨y, e2⟩ := ft_r (U := U) (S := S) (N := N) (s := s) x1
    rw [e1, Option.bind_some, e2, Option.bind_some]
    exact ⟨t, s, rfl, same⟩
  rw [if_neg c3]
  by_cases c4 : op = 4
  · rw [if_pos c4]
    unfold sc_made
    obtain ⟨x, e1, e2⟩ := ro_made (N := N) (by omega) (by omega) (by omega) (by omega) H x1
    rw [e1, Option.bind_some, e2, Option.bind_some]
    exact ⟨t, s, by first | rfl | exact if_pos rfl, same⟩
  rw [if_neg c4]
  by_cases c5 : op = 5
  · rw [if_pos c5]
    unfold sc_mount
    obtain ⟨x, t2, s2, e1, e2, e3⟩ := al_mount (N := N) (by omega) (by omega) (by omega) (by omega) hInv x1
    rw [e1, Option.bind_some, e2, Option.bind_some]
    refine ⟨t2, s2, by first | rfl | exact if_pos rfl, keep t2 s2 ⟨qs, e3⟩ (fr_u_X11_mount (Fr_0 t) _ _ e1) (fs_g_mount rfl _ _ e2)⟩
  rw [if_neg c5]
  by_cases c6 : op = 6
  · rw [if_pos c6]
    unfold sc_begin
    obtain ⟨x, t2, s2, qs2, e1, e2, e3⟩ := al_begin (N := N) (by omega) (by omega) hInv x1 x2
    rw [e1, Option.bind_some, e2, Option.bind_some]
    refine ⟨t2, s2, by first | rfl | exact if_pos rfl, keep t2 s2 ⟨qs2, e3⟩ (fr_u_X11_begin (Fr_0 t) _ _ e1) (fs_g_begin rfl _ _ e2)⟩
  rw [if_neg c6]
  by_cases c7 : op = 7
  · rw [if_pos c7]
    unfold sc_halt
    obtain ⟨x, t2, s2, qs2, e1, e2, e3⟩ := al_halt (N := N) (by omega) (by omega) (by omega) (by omega) hInv x1
    rw [e1, Option.bind_some, e2, Option.bind_some]
    refine ⟨t2, s2, by first | rfl | exact if_pos rfl, keep t2 s2 ⟨qs2, e3⟩ (fr_u_X11_halt (Fr_0 t) _ _ e1) (fs_g_halt rfl _ _ e2)⟩
  rw [if_neg c7]
  by_cases c8 : op = 8
  · rw [if_pos c8]
    unfold sc_key
    obtain ⟨x, t2, s2, qs2, e1, e2, e3⟩ := al_key (N := N) (by omega) (by omega) hInv x1 x2
    rw [e1, Option.bind_some, e2, Option.bind_some]
    refine ⟨t2, s2, by first | rfl | exact if_pos rfl, keep t2 s2 ⟨qs2, e3⟩ (fr_u_X11_key (Fr_0 t) _ _ e1) (fs_g_key rfl _ _ e2)⟩
  rw [if_neg c8]
  by_cases c9 : op = 9
  · rw [if_pos c9]
    unfold sc_set
    obtain ⟨x, t2, s2, e1, e2, e3⟩ := iv_set (N := N) (by omega) (by omega) hInv x1 x2
    rw [e1, Option.bind_some, e2, Option.bind_some]
    refine ⟨t2, s2, by first | rfl | exact if_pos rfl, keep t2 s2 ⟨qs, e3⟩ (fr_u_X11_set (Fr_0 t) _ _ e1) (fs_g_set rfl _ _ e2)⟩
  rw [if_neg c9]
  by_cases c10 : op = 10
  · rw [if_pos c10]
    unfold sc_deposit
    obtain ⟨x, t2, s2, e1, e2, e3⟩ := iv_deposit (N := N) (by omega) (by omega) (by omega) (by omega) hInv x1 x2 x3
    rw [e1, Option.bind_some, e2, Option.bind_some]
    refine ⟨t2, s2, by first | rfl | exact if_pos rfl, keep t2 s2 ⟨qs, e3⟩ (fr_u_X11_deposit (Fr_0 t) _ _ e1) (fs_g_deposit rfl _ _ e2)⟩
  rw [if_neg c10]
  by_cases c11 : op = 11
  · rw [if_pos c11]
    unfold sc_run
    obtain ⟨x, t2, s2, T2, e1, e2, e3, e4⟩ := al_run (N := N) (by omega) (by omega) hN (by omega) hI x1
    rw [e1, Option.bind_some, e2, Option.bind_some]
    exact ⟨t2, s2, by first | rfl | exact if_pos rfl, T2, by omega, e4, EXT_k hX (fr_u_X11_run (Fr_0 t) _ _ e1) (fs_g_run rfl _ _ e2)⟩
  rw [if_neg c11]
  by_cases c12 : op = 12
  · rw [if_pos c12]
    unfold sc_user
    obtain ⟨x, e1, e2⟩ := ro_user (N := N) (by omega) (by omega) (by omega) (by omega) (by omega) H x1 x2
    rw [e1, Option.bind_some, e2, Option.bind_some]
    exact ⟨t, s, by first | rfl | exact if_pos rfl, same⟩
  rw [if_neg c12]
  by_cases c13 : op = 13
  · rw [if_pos c13]
    unfold sc_look
    obtain ⟨x, e1, e2⟩ := ro_look (N := N) (by omega) (by omega) (by omega) (by omega) H x1
    rw [e1, Option.bind_some, e2, Option.bind_some]
    exact ⟨t, s, by first | rfl | exact if_pos rfl, same⟩
  rw [if_neg c13]
  by_cases c14 : op = 14
  · rw [if_pos c14]
    unfold sc_word
    obtain ⟨x, e1, e2⟩ := ro_word (N := N) (by omega) (by omega) (by omega) (by omega) H x1 x2
    rw [e1, Option.bind_some, e2, Option.bind_some]
    exact ⟨t, s, by first | rfl | exact if_pos rfl, same⟩
  rw [if_neg c14]
  by_cases c15 : op = 15
  · rw [if_pos c15]
    unfold sc_core
    obtain ⟨x, e1, e2⟩ := ro_core (N := N) (by omega) (by omega) (by omega) (by omega) H x1 x2
    rw [e1, Option.bind_some, e2, Option.bind_some]
    exact ⟨t, s, by first | rfl | exact if_pos rfl, same⟩
  rw [if_neg c15]
  by_cases c16 : op = 16
  · rw [if_pos c16]
    unfold sc_drum
    obtain ⟨x, e1, e2⟩ := ro_drum (N := N) (by omega) (by omega) (by omega) (by omega) H x1 x2
    rw [e1, Option.bind_some, e2, Option.bind_some]
    exact ⟨t, s, by first | rfl | exact if_pos rfl, same⟩
  rw [if_neg c16]
  by_cases c17 : op = 17
  · rw [if_pos c17]
    unfold sc_slot
    obtain ⟨x, e1, e2⟩ := ro_slot (N := N) (by omega) (by omega) (by omega) (by omega) H x1 x2
    rw [e1, Option.bind_some, e2, Option.bind_some]
    exact ⟨t, s, by first | rfl | exact if_pos rfl, same⟩
  rw [if_neg c17]
  by_cases c18 : op = 18
  · rw [if_pos c18]
    unfold sc_block
    obtain ⟨x, e1, e2⟩ := ro_block (N := N) (by omega) (by omega) (by omega) (by omega) H x1 x2 x3
    rw [e1, Option.bind_some, e2, Option.bind_some]
    exact ⟨t, s, by first | rfl | exact if_pos rfl, same⟩
  rw [if_neg c18]
  by_cases c19 : op = 19
  · rw [if_pos c19]
    unfold sc_paper
    have hP : ∀ j, j < U → ∃ n, n < 2 ^ 31 ∧ s.2.1 55 j = nI n := by
      intro j hj
      obtain ⟨n, n1, n2⟩ := hH.2.1.2 j hj
      have n1 : n ≤ T := n1
      exact ⟨n, by omega, n2⟩
    obtain ⟨x, e1, e2⟩ := ro_paper (N := N) (by omega) (by omega) (by omega) (by omega) H hP x1 x2
    rw [e1, Option.bind_some, e2, Option.bind_some]
    exact ⟨t, s, by first | rfl | exact if_pos rfl, same⟩
  rw [if_neg c19]
  exact ⟨t, s, rfl, same⟩
theorem px_fun (L : Nat) (xs : Nat → Int32) (hL : L ≤ 3076) (g : CG) (hg : g.1.2.2 = (L, xs)) : ∃ (N U S : Nat) (μ9 : Mem), (U ≤ 6 ∧ S ≤ 4) ∧ f_L_law N g U S 2 μe = some ((), μ9) := by
  refine ⟨30000, law_inv (N := 30000) (K := 512) hg (by omega) (by omega) (by omega) inv ?_ ?_⟩
  · intro U S a1 a2 a3 a4 _ _ _ _ h1 h2
    exact ⟨0, by omega, IV_0 h1 h2, EXT_0 _ _ _ _ _ _⟩
  · intro U S hU0 hU hS0 hS k hk op x1 x2 x3 x4 x5 t s h
    exact inv_s (N := 30000) hU0 hU hS0 hS (by omega) hk h (op &&& 31) x1 x2 x3 x4 x5
end
