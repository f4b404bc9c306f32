/-! p1: one call on fresh objects -/
def fre (U S : Nat) (t : CS) (s : RS) : Prop := ∃ a1 a2 a3 a4, t = cs0 (nr a3 64) (nr a4 64) ∧ s = rs0 U S a1 a2 a3 a4 ∧ nr a1 6 = nI U ∧ nr a2 4 = nI S
theorem agr_sc {c : Option (Int32 × CS)} {g : Option (Int32 × RS)} (h : Agr c g) : ∃ t2 s2, (c.bind fun q => g.bind fun p => if q.1 = p.1 then some (q.2, p.2) else none) = some (t2, s2) := by
  obtain ⟨q, p, e1, e2, e3⟩ := h
  refine ⟨q.2, p.2, ?_⟩
  rw [e1, e2]
  simp only [Option.bind_some]
  rw [if_pos e3]
theorem ro_agr {c : Option (Int32 × CS)} {g : Option (Int32 × RS)} {t : CS} {s : RS} (h : RO c g t s) : Agr c g := by
  obtain ⟨x, e1, e2⟩ := h
  exact agr e1 e2
theorem p1_step {U S N : Nat} (hU0 : 1 ≤ U) (hU : U ≤ 6) (hS0 : 1 ≤ S) (hS : S ≤ 4) (hN : 20001 < N) {t : CS} {s : RS} (h : fre U S t s) (op x1 x2 x3 x4 x5 : Int32) : ∃ t2 s2, stp U S N op x1 x2 x3 x4 x5 t s = some (t2, s2) := by
  obtain ⟨a1, a2, a3, a4, rfl, rfl, h1, h2⟩ := h
  have H : Sim U S (cs0 (nr a3 64) (nr a4 64)) (rs0 U S a1 a2 a3 a4) := Sim_0 h1 h2
  have hz : ∀ j, j < U → (rs0 U S a1 a2 a3 a4).2.1 42 j = 0 := fun j _ => rfl
  have hI : IdC U 0 (cs0 (nr a3 64) (nr a4 64)) := ⟨fun j _ => ⟨rfl, rfl⟩, rfl, rfl, rfl, rfl, rfl⟩
  have hJ : IdR U 0 (rs0 U S a1 a2 a3 a4) := ⟨h1, fun j _ => ⟨rfl, rfl⟩, rfl, rfl, rfl, rfl, rfl⟩
  unfold stp
  by_cases c0 : op = 0
  · rw [if_pos c0]
    obtain ⟨x, t2, s2, e1, e2, _⟩ := al_feed (N := N) (by omega) H x1 x2 x3 x4 x5
    exact agr_sc (agr e1 e2)
  rw [if_neg c0]
  by_cases c1 : op = 1
  · rw [if_pos c1]
    obtain ⟨x, t2, s2, e1, e2, _⟩ := al_end (N := N) H x1
    exact agr_sc (agr e1 e2)
  rw [if_neg c1]
  by_cases c2 : op = 2
  · rw [if_pos c2]
    obtain ⟨t2, e1⟩ := asm0_c (U := U) (S := S) (N := N) (t := cs0 (nr a3 64) (nr a4 64)) (by omega) rfl (i := 1) (j := 0) (by decide) (by decide) rfl rfl
    obtain ⟨s2, e2⟩ := asm0_r (U := U) (S := S) (N := N) (s := rs0 U S a1 a2 a3 a4) (by omega) rfl
    exact agr_sc (agr e1 e2)
  rw [if_neg c2]
  by_cases c3 : op = 3
  · rw [if_pos c3]
    exact agr_sc (em_fault ⟨rfl, rfl⟩ x1)
  rw [if_neg c3]
  by_cases c4 : op = 4
  · rw [if_pos c4]
    exact agr_sc (ro_agr (ro_made (by omega) (by omega) (by omega) (by omega) H x1))
  rw [if_neg c4]
  by_cases c5 : op = 5
  · rw [if_pos c5]
    exact agr_sc (em_mount (by omega) (by omega) (by omega) H hz (fun j _ => rfl) rfl x1)
  rw [if_neg c5]
  by_cases c6 : op = 6
  · rw [if_pos c6]
    exact agr_sc (em_begin (by omega) (by omega) H hz x1 x2)
  rw [if_neg c6]
  by_cases c7 : op = 7
  · rw [if_pos c7]
    exact agr_sc (em_halt (by omega) (by omega) H hz x1)
  rw [if_neg c7]
  by_cases c8 : op = 8
  · rw [if_pos c8]
    exact agr_sc (em_key (by omega) (by omega) H hz x1 x2)
  rw [if_neg c8]
  by_cases c9 : op = 9
  · rw [if_pos c9]
    obtain ⟨x, t2, s2, e1, e2, _⟩ := al_set (N := N) (by omega) (by omega) H x1 x2
    exact agr_sc (agr e1 e2)
  rw [if_neg c9]
  by_cases c10 : op = 10
  · rw [if_pos c10]
    obtain ⟨x, t2, s2, e1, e2, _⟩ := al_deposit (N := N) (by omega) (by omega) (by omega) (by omega) H x1 x2 x3
    exact agr_sc (agr e1 e2)
  rw [if_neg c10]
  by_cases c11 : op = 11
  · rw [if_pos c11]
    exact agr_sc (em_run (by omega) hN hI hJ x1)
  rw [if_neg c11]
  by_cases c12 : op = 12
  · rw [if_pos c12]
    exact agr_sc (ro_agr (ro_user (by omega) (by omega) (by omega) (by omega) (by omega) H x1 x2))
  rw [if_neg c12]
  by_cases c13 : op = 13
  · rw [if_pos c13]
    exact agr_sc (ro_agr (ro_look (by omega) (by omega) (by omega) (by omega) H x1))
  rw [if_neg c13]
  by_cases c14 : op = 14
  · rw [if_pos c14]
    exact agr_sc (ro_agr (ro_word (by omega) (by omega) (by omega) (by omega) H x1 x2))
  rw [if_neg c14]
  by_cases c15 : op = 15
  · rw [if_pos c15]
    exact agr_sc (ro_agr (ro_core (by omega) (by omega) (by omega) (by omega) H x1 x2))
  rw [if_neg c15]
  by_cases c16 : op = 16
  · rw [if_pos c16]
    exact agr_sc (ro_agr (ro_drum (by omega) (by omega) (by omega) (by omega) H x1 x2))
  rw [if_neg c16]
  by_cases c17 : op = 17
  · rw [if_pos c17]
    exact agr_sc (ro_agr (ro_slot (by omega) (by omega) (by omega) (by omega) H x1 x2))
  rw [if_neg c17]
  by_cases c18 : op = 18
  · rw [if_pos c18]
    exact agr_sc (ro_agr (ro_block (by omega) (by omega) (by omega) (by omega) H x1 x2 x3))
  rw [if_neg c18]
  by_cases c19 : op = 19
  · rw [if_pos c19]
    exact agr_sc (ro_agr (ro_paper (by omega) (by omega) (by omega) (by omega) H (fun j _ => ⟨0, by decide, rfl⟩) x1 x2))
  rw [if_neg c19]
  exact ⟨_, _, rfl⟩
theorem p1_fun (L : Nat) (xs : Nat → Int32) (hL : L ≤ 10) (g : CG) (hg : g.1.2.2 = (L, xs)) : ∃ (N U S : Nat) (μ9 : Mem), (U ≤ 6 ∧ S ≤ 4) ∧ f_L_law N g U S 2 μe = some ((), μ9) := by
  refine ⟨30000, law_inv (N := 30000) (K := 1) hg (by omega) (by omega) (by omega) (fun U S k t s => k = 0 → fre U S t s) ?_ ?_⟩
  · intro U S a1 a2 a3 a4 _ _ _ _ h1 h2 _
    exact ⟨a1, a2, a3, a4, rfl, rfl, h1, h2⟩
  · intro U S hU0 hU hS0 hS k hk op x1 x2 x3 x4 x5 t s h
    obtain ⟨t2, s2, e⟩ := p1_step (N := 30000) hU0 hU hS0 hS (by omega) (h (by omega)) (op &&& 31) x1 x2 x3 x4 x5
    exact ⟨t2, s2, e, fun z => by omega⟩
