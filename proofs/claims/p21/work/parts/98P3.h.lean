/-! LAYER 3, assemble, side by side -/
def EXT (t : CS) (s : RS) : Prop := FX t ∧ (∀ j, W12 (t.2.1 4 0 1 j)) ∧ (∀ i, B8 (t.2.1 11 0 0 i)) ∧ s.1 29 = 0
/-- the class's sheet is cleared, fault and tape are reset -/
def opn (t : CS) (i : Nat) : CS := qI (qI (qI (qI (qF t 7 i 0 (cpF (t.2.1 7 i 0) (fun _ => -1) 0)) 7 i 1 0) 0 0 4 0) 0 0 5 (-1)) 11 0 1 0
/-- the reference's tape is read, all is cleared -/
def opr (s : RS) (n : Nat) : RS := sA (cl3 (pI (pI (pI (cpr (pI (pI s 3 (nI n)) 1 0) n 0) 5 0) 6 (-1)) 21 0) 0) 26 (lo3 ((cl3 (pI (pI (pI (cpr (pI (pI s 3 (nI n)) 1 0) n 0) 5 0) 6 (-1)) 21 0) 0).2.1 26) 0)
section
variable {U S N n c m T i p a : Nat} {b : Nat → Int32} {P ν : Nat → Nat} {t t2 : CS} {s s2 : RS}
theorem opr_eq (hN : 5000 < N) (hn : n ≤ 2000) (h1 : s.1 1 = nI n) : g_assemble U S N s = aft U S N (opr s n) := by
  unfold g_assemble
  rw [Option.bind_some, h1, Option.bind_some]
  have e := as15 (U := U) (S := S) (N := N) hn N 0 (pI (pI s 3 (nI n)) 1 0) rfl (by omega) (by omega)
  rw [show (0 : Int32) = nI 0 from rfl] at e ⊢
  rw [e, as58 N 0 _ (by omega) (by omega), show (0 : Int32) = nI 0 from rfl, as94 N 0 _ (by omega) (by omega)]
  rfl
theorem opr_f (s : RS) (n : Nat) : (opr s n).1 3 = nI n ∧ (opr s n).1 1 = 0 ∧ (opr s n).1 5 = 0 ∧ (opr s n).1 21 = 0 ∧ (opr s n).1 29 = s.1 29 ∧ (∀ k, 31 ≤ k → (opr s n).1 k = s.1 k) ∧ (∀ k, (k = 25 ∨ 27 ≤ k) → (opr s n).2.1 k = s.2.1 k) ∧ (opr s n).2.2 = s.2.2 ∧ (∀ i, i < n → (opr s n).2.1 2 i = s.2.1 0 i) ∧ (∀ p, p < 4096 → (opr s n).2.1 23 p = 0 ∧ (opr s n).2.1 24 p = 0) ∧ (∀ k, k < 32 → (opr s n).2.1 26 k = nI (128 * k + 127)) := by
  refine ⟨rfl, rfl, rfl, rfl, rfl, fun k hk => ?_, fun k hk => ?_, rfl, fun i hi => ?_, fun p hp => ⟨?_, ?_⟩, fun k hk => ?_⟩
  · show up1 (up1 (up1 (up1 (up1 s.1 3 _) 1 _) 5 _) 6 _) 21 _ k = _
    rw [up1_n _ _ (by omega), up1_n _ _ (by omega), up1_n _ _ (by omega), up1_n _ _ (by omega), up1_n _ _ (by omega)]
  · unfold opr sA
    dsimp only
    rw [up1_n _ _ (by omega)]
    unfold cl3
    dsimp only
    rw [if_neg (by omega)]
    show up1 s.2.1 2 _ k = _
    rw [up1_n _ _ (by omega)]
  · show (fun i => if 0 ≤ i ∧ i < n then s.2.1 0 i else s.2.1 2 i) i = _
    dsimp only
    rw [if_pos ⟨Nat.zero_le _, hi⟩]
  · show cpF (s.2.1 23) (fun _ => 0) 0 p = 0
    unfold cpF
    rw [if_pos ⟨Nat.zero_le _, hp⟩]
  · show cpF (s.2.1 24) (fun _ => 0) 0 p = 0
    unfold cpF
    rw [if_pos ⟨Nat.zero_le _, hp⟩]
  · show lo3 (s.2.1 26) 0 k = _
    unfold lo3
    rw [if_pos ⟨Nat.zero_le _, hk⟩]
theorem opn_X (t : CS) (i : Nat) : (∀ p, p < 4096 → (opn t i).2.1 7 i 0 p = -1) ∧ (opn t i).1 7 i 1 = 0 := by
  constructor
  · intro p hp
    show up3 t.2.1 7 i 0 (cpF (t.2.1 7 i 0) (fun _ => -1) 0) 7 i 0 p = -1
    rw [up3_s]
    unfold cpF
    rw [if_pos ⟨Nat.zero_le _, hp⟩]
  · show up3 t.1 7 i 1 0 7 i 1 = 0
    rw [up3_s]
theorem opn_S (hi : i < 2) : RSh ((opn t i).2.1 7 i 0) (opr s n) := by
  obtain ⟨-, -, -, -, -, -, -, -, -, hz, h26⟩ := opr_f s n
  refine ⟨fun p hp => ?_, fun k hk => ⟨0, by decide, ?_, fun p p1 p2 => ?_⟩⟩
  · obtain ⟨z1, z2⟩ := hz p hp
    rw [z1, z2]
    exact ⟨Or.inl rfl, Or.inl rfl, fun z => absurd z (by decide), fun _ z => absurd z (by decide), fun _ _ => (opn_X t i).1 p hp⟩
  · rw [h26 k hk, nI_m1 (by omega)]
    rfl
  · rw [(hz p (by omega)).2]
    exact ⟨fun z => absurd z (by decide), fun z => by omega⟩
theorem opn_c (hN : 5000 < N) (h11 : t.1 11 0 1 = nI n) (e : u_X9_scan U S N (nI n) t = some ((), t2)) (hi : t2.2.2.2.1 0 0 3 = some i) (hi2 : i < 2) : u_X11_assemble U S N t = (u_X0_passOver U S N 0 (opn t2 i)).bind fun q8 => (u_X0_passOver U S N 1 q8.2).bind fun q11 => u_X0_close U S N q11.2 := by
  unfold u_X11_assemble u_X0_open u_X7_clear
  rw [h11, e, Option.bind_some]
  dsimp only
  rw [hi, vl_y hi2, Option.bind_some, Option.bind_some, fill_c (by omega), Option.bind_some, Option.bind_some, Option.bind_some, Option.bind_some, Option.bind_some, Option.bind_some, Option.bind_some]
  show ((u_X0_passOver U S N 0 (opn t2 i)).bind _) = _
  congr 1
  funext q8
  congr 1
  funext q11
  cases u_X0_close U S N q11.2 <;> rfl
theorem al_asm (hN : 5000 < N) (h : IV U S t s T) (hX : EXT t s) : ∃ x t2 s2, u_X11_assemble U S N t = some (x, t2) ∧ g_assemble U S N s = some (x, s2) ∧ IV U S t2 s2 T ∧ EXT t2 s2 := by
  obtain ⟨hF, hW, hB8, h29⟩ := hX
  have hIV := h
  obtain ⟨qs, ⟨-, -, hSB, -, -, -, -, -, -, ⟨i0, hi0, r2, r3, hmk⟩, ⟨n, hn, hs1, htape⟩⟩, -, -⟩ := h
  have h11 : t.1 11 0 1 = nI n := (hSB (11, 1, 1) (by decide)).trans hs1
  obtain ⟨i, hi2, hii, hio⟩ : ∃ i, i < 2 ∧ i = 1 - i0 ∧ i0 = 1 - i := ⟨1 - i0, by omega, rfl, by omega⟩
  rw [← hii] at r3
  obtain ⟨t1, P, c, m, e1, g1, fs, hTB, hNV⟩ := c_scan (U := U) (S := S) (t0 := t) (t := t) (n := n) (b := t.2.1 11 0 0) hN (AF_refl t) ⟨i, hi2, r3, by rw [r2, hio]⟩ hW hF hn rfl (fun j _ => hB8 j)
  have hi1 : t1.2.2.2.1 0 0 3 = some i := by rw [g1.2.2.2.1 0 (by decide)]; exact r3
  rw [opn_c hN h11 e1 hi1 hi2, opr_eq hN hn hs1]
  obtain ⟨o3, o1, o5, o21, o29, oI, oR, oG, o2, oz, o26⟩ := opr_f s n
  have hcn := opn_X t1 i
  -- the class's state when the passes begin
  have hCA : CA (opn t1 i) := (GA_71 (GA_7 g1 hi1 (cpF (t1.2.1 7 i 0) (fun _ => -1) 0)) hi1 0).1
  have hR : RSh ((opn t1 i).2.1 7 i 0) (opr s n) := opn_S hi2
  have hTB3 : TB (t.2.1 11 0 0) n (opn t1 i) P c m := hTB
  obtain ⟨em, hm53, hm, hinj, hFX1, hz, h40⟩ := hNV
  have hNC : NC (opn t1 i) m := ⟨em, hm53, hm, hinj, hFX1⟩
  have hRN : RN (opn t1 i) (opr s n) m 0 (fun _ => 0) := ⟨by decide, o21, h40, fun k hk => by omega, fun k _ hk => by omega, fun w w1 w2 _ => ⟨(hz w w1 w2).2, (hz w w1 w2).1⟩⟩
  have hi3 : (opn t1 i).2.2.2.1 0 0 3 = some i := hi1
  have hc3 : (opn t1 i).1 7 i 1 = nI (cn ((opn t1 i).2.1 7 i 0) 4096) := by
    rw [hcn.2, cn_m1 4096 hcn.1]
    rfl
  have h43 : (opn t1 i).1 0 0 4 = 0 := rfl
  have hBb : ∀ j, j < n → ∃ k, k < 256 ∧ t.2.1 11 0 0 j = nI k := fun j _ => hB8 j
  -- frames
  have fr1 : ∀ ci, ci ≠ 0 → ci ≠ 4 → ci ≠ 7 → ci ≠ 9 → ci ≠ 11 → (opn t1 i).1 ci = t.1 ci := by
    intro ci h0 h4 h7 h9 h11
    unfold opn
    rw [qI_o h11, qI_o h0, qI_o h0, qI_o h7]
    exact g1.2.1 ci h0 h4 h7 h9
  have fr2 : ∀ ci, ci ≠ 4 → ci ≠ 7 → ci ≠ 9 → (opn t1 i).2.1 ci = t.2.1 ci := by
    intro ci h4 h7 h9
    have : (opn t1 i).2.1 ci = (qF t1 7 i 0 (cpF (t1.2.1 7 i 0) (fun _ => -1) 0)).2.1 ci := rfl
    rw [this, qF_o h7]
    exact g1.2.2.1 ci h4 h7 h9
  have fr3 : ∀ ci, ci ≠ 9 → (opn t1 i).2.2.2.1 ci = t.2.2.2.1 ci := fun ci h9 => g1.2.2.2.1 ci h9
  have fr4 : (opn t1 i).2.2.2.2 = t.2.2.2.2 := g1.2.2.2.2.1
  have fr7 : (opn t1 i).2.1 7 i0 = t.2.1 7 i0 := by
    have hne : i0 ≠ i := by omega
    have e7 : (opn t1 i).2.1 7 i0 = t1.2.1 7 i0 := by
      funext k
      show up3 t1.2.1 7 i 0 _ 7 i0 k = _
      rw [up3_n _ _ (fun z => hne z.2.1)]
    rw [e7]
    exact (g1.2.2.2.2.2.2 i0 (fun z => by rw [r3] at z; exact hne (Option.some.inj z).symm)).2
  generalize ht3 : opn t1 i = t3 at *
  obtain ⟨⟨⟩, t4, e4, g4, -⟩ := s_over (U := U) (S := S) (t0 := t3) hN ⟨hCA, AF_refl t3⟩ (a := 0) (Or.inl rfl)
  obtain ⟨⟨⟩, t5, e5, g5, -⟩ := s_over (U := U) (S := S) (t0 := t3) hN g4 (a := 1) (Or.inr rfl)
  rw [e4, Option.bind_some]
  dsimp only
  rw [e5, Option.bind_some]
  dsimp only
  -- whatever comes out, if the sheets are right
  have fin : ∀ (t6 : CS) (s6 : RS), t6.1 = t5.1 → t6.2.1 = t5.2.1 → t6.2.2.1 = t5.2.2.1 → (∀ ci, ci ≠ 0 → t6.2.2.2.1 ci = t5.2.2.2.1 ci) → t6.2.2.2.2 = t5.2.2.2.2 → (∀ k, 31 ≤ k → s6.1 k = (opr s n).1 k) → s6.1 1 = 0 → s6.1 29 = 0 → (∀ k, 27 ≤ k → s6.2.1 k = (opr s n).2.1 k) → s6.2.2 = (opr s n).2.2 → SmM t6 s6 → IV U S t6 s6 T ∧ EXT t6 s6 := by
    intro t6 s6 x1 x2 x3 x4 x5 y1 y2 y3 y4 y5 z
    have h111 : t3.1 11 0 1 = 0 := by rw [← ht3]; rfl
    refine ⟨IV_fr hIV (fun ci h0 h4 h7 h9 h11 => ?_) (fun ci h4 h7 h9 => ?_) (fun ci h0 h9 => ?_) ?_ (fun k hk => (y1 k hk).trans (oI k hk)) (fun k hk => (y4 k hk).trans (oR k (Or.inr hk))) (y5.trans oG) ?_ y2 z, ?_, ?_, ?_, y3⟩
    · rw [x1, g5.2.1 ci h0 h4 h7 h9, fr1 ci h0 h4 h7 h9 h11]
    · rw [x2, g5.2.2.1 ci h4 h7 h9, fr2 ci h4 h7 h9]
    · rw [x4 ci h0, g5.2.2.2.1 ci h9, fr3 ci h9]
    · rw [x5, g5.2.2.2.2.1, fr4]
    · rw [x1, g5.2.1 11 (by decide) (by decide) (by decide) (by decide)]
      exact h111
    · obtain ⟨-, ⟨_, _, _, _, hFX5⟩, -⟩ := id g5.1
      unfold FX at *
      rw [x2, x3]
      exact hFX5
    · obtain ⟨-, -, -, -, -, hW5, -⟩ := id g5.1
      rw [x2]
      exact hW5
    · rw [x2, g5.2.2.1 11 (by decide) (by decide) (by decide), fr2 11 (by decide) (by decide) (by decide)]
      exact hB8
  have r52 : t5.2.2.2.1 0 0 2 = some i0 := by rw [g5.2.2.2.1 0 (by decide), fr3 0 (by decide)]; exact r2
  have r53 : t5.2.2.2.1 0 0 3 = some i := by rw [g5.2.2.2.1 0 (by decide), fr3 0 (by decide)]; exact r3
  have sh5 : t5.2.1 7 i0 = t.2.1 7 i0 := by
    have hne : i0 ≠ i := by omega
    rw [(g5.2.2.2.2.2.2 i0 (fun z => by rw [hi3] at z; exact hne (Option.some.inj z).symm)).2, fr7]
  -- a fault
  have bad : ∀ s' : RS, FZ s' → ¬ s'.1 5 = 0 → SF (opr s n) s' → ¬ t5.1 0 0 4 = 0 → ∃ x t2 s2, u_X0_close U S N t5 = some (x, t2) ∧ g_assemble_137 U S N s' = some (x, s2) ∧ IV U S t2 s2 T ∧ EXT t2 s2 := by
    intro s' q1 q2 q3 q4
    refine ⟨-1, t5, pI (pI s' 7 (s'.1 5)) 8 ((pI s' 7 (s'.1 5)).1 6), ?_, ?_, fin t5 _ rfl rfl rfl (fun _ _ => rfl) rfl (fun k hk => ?_) ?_ ?_ (fun k hk => ?_) ?_ ⟨i0, hi0, r52, by rw [r53, hii], fun p hp => ?_⟩⟩
    · unfold u_X0_close
      rw [if_neg q4]
    · unfold g_assemble_137
      rw [Option.bind_some, Option.bind_some, if_neg (show ¬ (pI (pI s' 7 (s'.1 5)) 8 ((pI s' 7 (s'.1 5)).1 6)).1 5 ≤ 0 from nle0 q1 q2)]
    · show up1 (up1 s'.1 7 _) 8 _ k = _
      rw [up1_n _ _ (by omega), up1_n _ _ (by omega)]
      exact q3.1 k (by omega)
    · show s'.1 1 = 0
      rw [q3.1 1 (by decide)]
      exact o1
    · show s'.1 29 = 0
      rw [q3.1 29 (by decide), o29]
      exact h29
    · show s'.2.1 k = _
      exact q3.2.1 k (by omega)
    · exact q3.2.2
    · show s'.2.1 25 p = _
      rw [q3.2.1 25 (by decide), oR 25 (by decide), sh5]
      exact hmk p hp
  -- the first pass
  have hPH0 : PH U S N m 0 (pst 0 t3) := Or.inl rfl
  obtain ⟨t4', s8, p1, p2, p3⟩ := ps_eq (U := U) (S := S) (i := i) (x := 0) hN (Or.inl rfl) hn hBb hTB3 hNC hRN o3 (fun j hj => (o2 j hj).trans (htape j hj).symm) hCA hi2 hi3 hc3 (o29.trans h29) o5 h43 hR hPH0
  have et4 : t4' = t4 := inj2 p1 e4
  subst et4
  unfold aft
  rw [p2, Option.bind_some]
  dsimp only
  obtain ⟨f1, f2, f3⟩ := p3
  rcases f3 with ⟨f3, f4⟩ | ⟨f3, f4, T4, ν4, hJE⟩
  · rw [if_pos f4]
    refine bad s8 f1 f4 f2 ?_
    have := over_c (U := U) (S := S) (N := N) (t := t4') (x := 1) (Or.inr rfl)
    obtain ⟨M, hM⟩ : ∃ M, N = M + 1 := ⟨N - 1, by omega⟩
    have e6 : ul_X0_passOver_29 U S N N (nI 0) (pst 1 t4') = some ((), pst 1 t4') := by
      have := ov_f (U := U) (S := S) (N := N) (f := M) (x := nI 0) (t := pst 1 t4') (Or.inl f3)
      rw [← hM] at this
      exact this
    rw [e6] at this
    rw [inj2 e5 this]
    exact f3
  · rw [if_neg (not_not_intro f4)]
    obtain ⟨hE, -, hi4, hc4, -, h294, -, hR4⟩ := hJE
    obtain ⟨-, -, hTB4, hNC4, hRN4, ⟨h34, hb4⟩, -, -, -, hCA4⟩ := id hE
    -- what the second pass knows of the first
    have hul : ul_X0_passOver_29 U S N N (nI 0) (pst 0 t3) = some ((), t4') := by
      rw [← over_c (Or.inl rfl)]
      exact p1
    have hTV : TV n c m (pst 0 t3) := TV_TB (b := t.2.1 11 0 0) (P := P) hTB3 hBb
    have hrg : rg m (pst 0 t3) := by
      intro w w1 w2
      have := (hz w w1 w2).2
      exact Or.inl (by rw [← ht3]; exact this)
    have hP0 : P0 n c m 0 128 (pst 0 t3) := ⟨CA_pst hCA 0, hTB3.2.2.1, hNC.1, hTB3.1, hTV, hrg, h43, rfl, Nat.zero_le _, rfl, by decide⟩
    obtain ⟨-, hKP⟩ := mo_all (U := U) (S := S) (tE := t4') hN hTB3.2.2.2.2.1 hm hn N 0 0 128 (pst 0 t3) hP0 rfl hul f3
    obtain ⟨k1, k2, k3, k4, k5, k6⟩ := hKP
    have hPH1 : PH U S N m 0 (pst 1 t4') := by
      refine Or.inr ⟨show ¬ (1 : Int32) = 0 by decide, pst 0 t3, t4', N, ⟨CA_pst hCA 0, ⟨k1.symm, k2.symm, k3.symm, k4.symm⟩, ⟨h43, rfl, rfl, rfl, rfl, rfl⟩, fun _ => rfl, fun _ _ => rfl, fun w hw h2 => ?_, hrg⟩, hul, f3⟩
      exfalso
      by_cases w53 : w < 53
      · have := (hNC.2.2.2.2 w w53).2.2
        have h2' : t3.2.1 4 0 2 w = 2 := h2
        rw [this] at h2'
        exact absurd h2' (by decide)
      · have := (hz w (by omega) hw).2
        have h2' : t3.2.1 4 0 2 w = 2 := h2
        have h0 : t3.2.1 4 0 2 w = 0 := by rw [← ht3]; exact this
        rw [h0] at h2'
        exact absurd h2' (by decide)
    obtain ⟨t5', s9, q1, q2, q3⟩ := ps_eq (U := U) (S := S) (i := i) (x := 1) hN (Or.inr rfl) hn hBb hTB4 hNC4 hRN4 h34 hb4 hCA4 hi2 hi4 hc4 h294 f4 f3 hR4 hPH1
    have et5 : t5' = t5 := inj2 q1 e5
    subst et5
    rw [q2, Option.bind_some]
    dsimp only
    obtain ⟨v1, v2, v3⟩ := q3
    have sf := SF_t f2 v2
    rcases v3 with ⟨v3, v4⟩ | ⟨v3, v4, T5, ν5, hJE5⟩
    · exact bad s9 v1 v4 sf v3
    · obtain ⟨hE5, -, hi5, hc5, -, h295, -, hR5⟩ := hJE5
      obtain ⟨x1, x2⟩ := RSh_mk hR5
      -- what is made
      obtain ⟨s10, y1, y2, y3, y4, y5, -⟩ := as_cp (U := U) (S := S) (N := N) (t5'.2.1 7 i 0) N 0 (pI (pI s9 7 (s9.1 5)) 8 ((pI s9 7 (s9.1 5)).1 6)) x1 x2 (by omega) (by omega)
      have er : g_assemble_137 U S N s9 = some (nI (cn (t5'.2.1 7 i 0) 4096), s10) := by
        unfold g_assemble_137
        rw [Option.bind_some, Option.bind_some, if_pos (show (pI (pI s9 7 (s9.1 5)) 8 ((pI s9 7 (s9.1 5)).1 6)).1 5 ≤ 0 from le0 v4)]
        exact y1
      have ec : u_X0_close U S N t5' = some (nI (cn (t5'.2.1 7 i 0) 4096), qR (qR t5' 0 0 2 (some i)) 0 0 3 (some i0)) := by
        unfold u_X0_close
        rw [if_pos v3, r52, vl_y hi0, Option.bind_some, r53, vl_y hi2, Option.bind_some, Option.bind_some, Option.bind_some]
        show ((vl 2 (some i)).bind _) = _
        rw [vl_y hi2, Option.bind_some, Option.bind_some]
        show some (t5'.1 7 i 1, _) = _
        rw [hc5]
      refine ⟨_, _, _, ec, er, fin _ s10 rfl rfl rfl (fun ci h0 => ?_) rfl (fun k hk => ?_) ?_ ?_ (fun k hk => ?_) ?_ ⟨i, hi2, rfl, ?_, fun p hp => y5 p (by omega) hp⟩⟩
      · funext j k
        show up3 (up3 t5'.2.2.2.1 0 0 2 (some i)) 0 0 3 (some i0) ci j k = _
        rw [up3_n _ _ (fun z => h0 z.1), up3_n _ _ (fun z => h0 z.1)]
      · rw [y2]
        show up1 (up1 s9.1 7 _) 8 _ k = _
        rw [up1_n _ _ (by omega), up1_n _ _ (by omega)]
        exact sf.1 k (by omega)
      · rw [y2]
        show s9.1 1 = 0
        rw [sf.1 1 (by decide)]
        exact o1
      · rw [y2]
        exact h295
      · rw [y4 k (by omega)]
        show s9.2.1 k = _
        exact sf.2.1 k (by omega)
      · rw [y3]
        exact sf.2.2
      · show some i0 = some (1 - i)
        rw [hio]
end
