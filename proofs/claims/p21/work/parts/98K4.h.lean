/-! LAYER 3, words: references -/
def ipg (x : Int32) : Int32 := if (128 : Int32) ≤ x then 128 ||| (x &&& 127) else x
def idB (d : Int32) : Int32 := if d = 0 then 0 else 256
theorem fx_cd : ∀ k, k < 8 → nm0.2.2.1 (5 + k) = if k < 6 then nI (512 * k) else if k = 6 then 256 else 0 := by
  rw [nm0_eq]
  decide +kernel
theorem op_tab : ∀ F, F < 6 → (nI (512 * F) ||| 0) &&& 256 = 0 ∧ ¬ (nI (512 * F) ||| 256) &&& 256 = 0 ∧ (nI (512 * F) ||| 0) ||| 256 = nI (512 * F) ||| 256 ∧ (nI (512 * F) ||| 256) ||| 256 = nI (512 * F) ||| 256 ∧ (nI (512 * F) ||| 0) ||| 0 = nI (512 * F) ||| 0 ∧ (nI (512 * F) ||| 256) ||| 0 = nI (512 * F) ||| 256 ∧ nI (512 * F) = nI (512 * F) ||| 0 := by decide +kernel
theorem op_256 {F : Nat} (hF : F < 6) {d : Int32} : (nI (512 * F) ||| idB d) &&& 256 = 0 ↔ d = 0 := by
  obtain ⟨h1, h2, -⟩ := op_tab F hF
  unfold idB
  by_cases c : d = 0
  · rw [if_pos c]; exact ⟨fun _ => c, fun _ => h1⟩
  · rw [if_neg c]; exact ⟨fun z => absurd z h2, fun z => absurd z c⟩
theorem idB_w (d : Int32) : W12 (idB d) := by
  unfold idB
  split
  · exact w12_0
  · exact w12_n (n := 256) (by decide)
theorem ipg_w {x : Int32} (h : W12 x) : W12 (ipg x) := by
  unfold ipg
  split
  · exact w12_or (w12_n (n := 128) (by decide)) (w12_an h 127 ⟨127, by decide, rfl⟩)
  · exact h
section
variable {U S N n c m T i p a : Nat} {b : Nat → Int32} {P ν : Nat → Nat} {t : CS} {s : RS}
theorem e_ip (x : Int32) : u_X0_inPage U S N x t = some (ipg x, t) := by
  unfold u_X0_inPage u_X0_inPage_19 ipg
  split <;> rfl
theorem rf_any (hN : 5000 < N) (h : CA t) (h4 : t.1 0 0 4 = 0) (x y z : Int32) : ∃ v t2, u_X0_refer U S N x y z t = some (v, t2) ∧ lfR t t2 := by
  unfold u_X0_refer u_X0_refer_14 u_X0_refer_39
  rw [if_neg (not_not_intro h4), e_ip, Option.bind_some]
  by_cases c6 : t.1 0 0 6 = 0
  · rw [if_neg (not_not_intro c6)]
    exact ⟨0, t, rfl, lfR_0 h4⟩
  · rw [if_pos c6]
    by_cases c1 : y < 128
    · rw [if_pos c1]
      exact ⟨_, t, rfl, lfR_0 h4⟩
    · rw [if_neg c1]
      by_cases c2 : (y &&& 3968) = (t.1 0 0 10 &&& 3968)
      · rw [if_neg (not_not_intro c2)]
        exact ⟨_, t, rfl, lfR_0 h4⟩
      · rw [if_pos c2]
        by_cases c3 : (x &&& 256) = 0
        · rw [if_pos c3]
          obtain ⟨v, t2, e, r⟩ := lf_any (U := U) (S := S) hN h h4 (t.1 0 0 10 &&& 3968) y z
          rw [e, Option.bind_some]
          dsimp only
          rw [e_ip, Option.bind_some]
          exact ⟨_, t2, rfl, r⟩
        · rw [if_neg c3]
          obtain ⟨t2, e, hf⟩ := e_report (U := U) (S := S) (N := N) h (show ¬ (7 : Int32) = 0 by decide) z
          rw [e, Option.bind_some]
          exact ⟨0, t2, rfl, Or.inl hf⟩
theorem rf_f (h4 : ¬ t.1 0 0 4 = 0) (x y z : Int32) : u_X0_refer U S N x y z t = some (0, t) := by
  unfold u_X0_refer u_X0_refer_14
  rw [if_pos h4]
theorem mem_rf (hN : 5000 < N) (h : JW b n P c m T ν i p t s) (h4 : t.1 0 0 4 = 0) (h5 : s.1 5 = 0) {F v : Nat} (hF : F < 6) (hv : v < 4096) (d z wh : Int32) : ∃ x y t2 s2, u_X0_refer U S N (nI (512 * F) ||| idB d) (nI v) z t = some (x, t2) ∧ g_memory U S N (nI (512 * F)) d (nI v) wh s = some (y, s2) ∧ FZ s2 ∧ SF s s2 ∧ ((¬ t2.1 0 0 4 = 0 ∧ ¬ s2.1 5 = 0) ∨ (t2.1 0 0 4 = 0 ∧ s2.1 5 = 0 ∧ (¬ t2.1 0 0 6 = 0 → x = y ∧ W12 x) ∧ SR t t2 ∧ t2.1 0 0 9 = t.1 0 0 9 ∧ s2.1 = s.1 ∧ JW b n P c m T ν i p t2 s2)) := by
  obtain ⟨hE, hi2, hi, hcn, hp, h10, h29, h28, h7, hf, h8, h12⟩ := id h
  obtain ⟨e1, e2, e3, e4, e5, e6, e7, e8, e9, e10⟩ := id hE
  have hop : W12 (nI (512 * F) ||| idB d) := w12_or (w12_n (by omega)) (idB_w d)
  have em : g_memory U S N (nI (512 * F)) d (nI v) wh s = g_memory_12 U S N d (nI v) wh (nI (512 * F)) (idB d) s := by
    unfold g_memory idB
    split <;> rfl
  have hd := op_256 (d := d) hF
  rw [em]
  generalize hop2 : nI (512 * F) ||| idB d = op at *
  have good : ∀ x y : Int32, (¬ t.1 0 0 6 = 0 → x = y ∧ W12 x) → ∃ x2 y2 t2 s2, some (x, t) = some (x2, t2) ∧ some (y, s) = some (y2, s2) ∧ FZ s2 ∧ SF s s2 ∧ ((¬ t2.1 0 0 4 = 0 ∧ ¬ s2.1 5 = 0) ∨ (t2.1 0 0 4 = 0 ∧ s2.1 5 = 0 ∧ (¬ t2.1 0 0 6 = 0 → x2 = y2 ∧ W12 x2) ∧ SR t t2 ∧ t2.1 0 0 9 = t.1 0 0 9 ∧ s2.1 = s.1 ∧ JW b n P c m T ν i p t2 s2)) := fun x y hxy => ⟨x, y, t, s, rfl, rfl, hf, SF_0 s, Or.inr ⟨h4, h5, hxy, SR_0 t, rfl, rfl, h⟩⟩
  unfold u_X0_refer u_X0_refer_14 u_X0_refer_39 g_memory_12 g_memory_125
  rw [if_neg (not_not_intro h4), e_ip, Option.bind_some, e9, hop2]
  by_cases c1 : v < 128
  · have l1 : nI v < 128 := (ltL (k := 128) (c := 128) rfl (by omega) (by decide)).mpr c1
    have l2 : ¬ (128 : Int32) ≤ nI v := fun z => by have := (Lle (k := 128) (c := 128) rfl (by omega) (by decide)).mp z; omega
    rw [if_neg l2, if_pos l1]
    by_cases c6 : t.1 0 0 6 = 0
    · rw [if_neg (not_not_intro c6)]
      exact good _ _ (fun z => absurd c6 z)
    · rw [if_pos c6]
      refine good _ _ (fun _ => ⟨?_, w12_or hop (ipg_w (w12_n hv))⟩)
      unfold ipg
      rw [if_neg l2]
  · have l1 : ¬ nI v < 128 := fun z => c1 ((ltL (k := 128) (c := 128) rfl (by omega) (by decide)).mp z)
    have l2 : (128 : Int32) ≤ nI v := (Lle (k := 128) (c := 128) rfl (by omega) (by decide)).mpr (by omega)
    rw [if_pos l2, if_neg l1, if_neg (show ¬ (128 : Int32) = 0 by decide), if_neg (show ¬ (128 : Int32) = 0 by decide), e8, h10, pg_and hv, pg_and hp]
    have dv : nI v / 128 = nI (v / 128) := by rw [show (128 : Int32) = nI 128 from rfl, pk_div (by omega) (by decide) (by decide)]
    have dp : nI p / 128 = nI (p / 128) := by rw [show (128 : Int32) = nI 128 from rfl, pk_div (by omega) (by decide) (by decide)]
    rw [dv, dp]
    by_cases c2 : v / 128 = p / 128
    · rw [if_neg (not_not_intro (show nI (v / 128) = nI (p / 128) by rw [c2])), if_neg (not_not_intro (show nI (128 * (v / 128)) = nI (128 * (p / 128)) by rw [c2]))]
      by_cases c6 : t.1 0 0 6 = 0
      · rw [if_neg (not_not_intro c6)]
        exact good _ _ (fun z => absurd c6 z)
      · rw [if_pos c6]
        refine good _ _ (fun _ => ⟨?_, w12_or hop (ipg_w (w12_n hv))⟩)
        unfold ipg
        rw [if_pos l2, Int32.or_assoc]
    · rw [if_pos (show ¬ nI (v / 128) = nI (p / 128) from fun z => c2 ((eqI (by omega) (by omega)).mp z)), if_pos (show ¬ nI (128 * (v / 128)) = nI (128 * (p / 128)) from fun z => c2 (by have := (eqI (by omega) (by omega)).mp z; omega))]
      by_cases c6 : t.1 0 0 6 = 0
      · rw [if_neg (not_not_intro c6), if_neg (not_not_intro c6)]
        exact good _ _ (fun z => absurd c6 z)
      · rw [if_pos c6, if_pos c6, if_neg (show ¬ (128 : Int32) = 0 by decide)]
        by_cases c3 : d = 0
        · rw [if_pos (hd.mpr c3), if_pos c3]
          obtain ⟨x, y, t2, s2, k1, k2, k3, k4, k5⟩ := lf_eq (U := U) (S := S) hN h h4 h5 (k := p / 128) (v := v) (by omega) hv z wh
          rw [if_neg (by rw [e9]; exact c6)] at k2
          rw [k1, k2, Option.bind_some, Option.bind_some]
          dsimp only
          rw [e_ip, Option.bind_some]
          dsimp only
          refine ⟨_, (op ||| 256) ||| ipg y, t2, s2, rfl, ?_, k3, k4, ?_⟩
          · unfold ipg
            by_cases c4 : (128 : Int32) ≤ y
            · rw [if_pos c4, if_pos c4]
            · rw [if_neg c4, if_neg c4]
          · rcases k5 with k5 | ⟨k5, k6, k7, k8, k9, k10, k11, k12⟩
            · exact Or.inl k5
            · refine Or.inr ⟨k5, k6, fun _ => ⟨by rw [k7], w12_or (w12_or hop (w12_n (n := 256) (by decide))) (ipg_w k8)⟩, k9, k10, k11, k12⟩
        · rw [if_neg (fun z => c3 (hd.mp z)), if_neg c3, g_fails_eq hf, Option.bind_some]
          obtain ⟨t2, r1, r2⟩ := e_report (U := U) (S := S) (N := N) e10 (show ¬ (7 : Int32) = 0 by decide) z
          rw [r1, Option.bind_some]
          exact ⟨_, _, t2, _, rfl, rfl, flt_FZ hf (by decide), SF_SL (flt_SL _ _), Or.inl ⟨r2, flt_ne (by decide)⟩⟩
/-- a code alone, as a value -/
theorem rv_cd (hC : CA t) {w : Nat} (hk : kA t (nI a) = 1) (hv : vA t (nI a) = nI w) (h5 : 5 ≤ w) (h53 : w < 53) (ho : oP (kA t (nI (a + 1))) = 0) : rv t 0 a = some (nm0.2.2.1 w, a + 1) ∧ aln t 0 a = nI (w - 5) ∧ nA t (nI w) = nm0.2.2.1 w := by
  obtain ⟨-, ⟨m, hm, em, hm53, hFX⟩, -, -, -, hw, -⟩ := id hC
  have en : nA t (nI w) = nm0.2.2.1 w := by
    unfold nA
    rw [if_neg (nI_nn (by omega)), em, if_pos ((ltI (by omega) (by omega)).mpr (by omega)), nI_clamp (by omega)]
    exact (hFX w h53).2.1
  have eg : gA t (nI w) = 3 := by
    unfold gA
    rw [if_neg (nI_nn (by omega)), em, if_pos ((ltI (by omega) (by omega)).mpr (by omega)), nI_clamp (by omega)]
    exact (hFX w h53).2.2
  have ew : W12 (nm0.2.2.1 w) := by rw [← (hFX w h53).2.1]; exact hw w
  have epv : pv t 0 a = some (nm0.2.2.1 w) := by
    unfold pv
    rw [hk, hv, sN_n (by omega), if_neg (show ¬ w < 5 by omega), if_pos ⟨rfl, rfl⟩, eg, if_neg (fun z => absurd z.2 (by decide)), en]
  have epm : pm t 0 a = some (nm0.2.2.1 w, a + 1) := by
    unfold pm
    rw [hk, if_neg (by decide), epv]
    rfl
  refine ⟨?_, ?_, en⟩
  · show (pm t 0 a).bind _ = _
    rw [epm, Option.bind_some]
    dsimp only
    rw [if_neg (not_not_intro ho)]
    have : cmb 0 43 (nm0.2.2.1 w) = nm0.2.2.1 w := by
      unfold cmb
      rw [if_neg (by decide), if_pos rfl, Int32.zero_add, w12_id ew]
    rw [this]
  · unfold aln
    rw [epm]
    dsimp only
    rw [if_pos ho]
    unfold alo
    rw [hk, hv, if_pos ⟨rfl, fun z => by have := (ltL (k := 5) (c := 5) rfl (by omega) (by decide)).mp z; omega, (ltL (k := 53) (c := 53) rfl (by omega) (by decide)).mpr h53⟩, show (5 : Int32) = nI 5 from rfl, sub_nI h5]
theorem w_219m (K : Int32 → Int32 → Int32 → Int32 → Int32 → Int32 → Int32 → RS → Option (Unit × RS)) (h5 : s.1 5 = 0) {F k : Int32} (hk : ¬ k = 0) (hk2 : ¬ k ≤ 0) (hF : ¬ F = -1) (h30 : s.1 30 = 6 ∨ s.1 30 = 7) (v d A W wh y : Int32) : g_word_219 U S N K v F k d A W 0 wh y s = K (v ||| y) F (k + 1) (if ¬ d = 0 then 1 else if s.1 30 = 6 then 1 else 0) A W 0 s := by
  unfold g_word_219 g_word_247 g_word_279 g_word_311 g_word_325 g_word_330 g_word_343
  rw [if_pos (le0 h5), if_neg (show ¬ ¬ (0 : Int32) = 0 from fun z => z rfl), if_neg (by rcases h30 with z | z <;> rw [z] <;> decide), if_pos hk, if_neg hk2, if_neg hF, if_neg (show ¬ (1 : Int32) = 0 by decide)]
  rcases h30 with z | z
  · rw [z, if_pos rfl, if_neg (not_not_intro rfl), if_pos rfl]
    split <;> rfl
  · rw [z, if_neg (show ¬ (7 : Int32) = 6 by decide), if_neg (show ¬ ¬ (7 : Int32) = 7 from fun z => z rfl)]
    by_cases cd : d = 0
    · rw [if_neg (not_not_intro cd), if_neg (not_not_intro cd), if_pos (show ¬ (7 : Int32) = 6 by decide), if_neg (show ¬ (7 : Int32) = 6 by decide)]
    · rw [if_pos cd, if_pos cd]
theorem w_219a (K : Int32 → Int32 → Int32 → Int32 → Int32 → Int32 → Int32 → RS → Option (Unit × RS)) (h5 : s.1 5 = 0) {F k L : Int32} (hk : ¬ k = 0) (hk2 : ¬ k ≤ 0) (hF : ¬ F = -1) (h30 : ¬ L = 0 ∨ (¬ s.1 30 = 6 ∧ ¬ s.1 30 = 7)) (v d A W wh y : Int32) : g_word_219 U S N K v F k d A W L wh y s = K (v ||| y) F (k + 1) d y wh L s := by
  have e0 : g_word_247 U S N K v F k d A W L wh y 0 s = K (v ||| y) F (k + 1) d y wh L s := by
    unfold g_word_247 g_word_279 g_word_335 g_word_343
    rw [if_pos hk, if_neg hk2, if_neg hF, if_pos rfl]
  unfold g_word_219 g_word_246
  rw [if_pos (le0 h5), e0]
  by_cases c : L = 0
  · rw [if_neg (not_not_intro c)]
    obtain ⟨z1, z2⟩ := h30.resolve_left (not_not_intro c)
    by_cases c2 : s.1 30 = -1
    · rw [if_pos c2]
    · rw [if_neg c2]
      unfold g_word_247 g_word_279 g_word_335 g_word_343
      rw [if_pos hk, if_neg hk2, if_neg hF, if_neg (show ¬ (1 : Int32) = 0 by decide), if_neg z1, if_pos z2]
  · rw [if_pos c]
theorem w_mem (h5 : s.1 5 = 0) {F k : Nat} (hF : F < 6) (hk : 2 ≤ k) (hk2 : k < 2 ^ 30) (v d A W : Int32) : g_word_354 U S N v (nI F) (nI k) d A W s = (g_memory U S N (nI (512 * F)) d (if A = -1 then 0 else A) W s).bind fun q => g_word_398 U S N q.1 q.2 := by
  unfold g_word_354 g_word_392
  rw [if_pos (le0 h5), if_neg (nI_ne (by omega)), if_neg (fun z => by have := (leL (k := 1) (c := 1) rfl (by omega) (by decide)).mp z; omega), cd_fix F (by omega), Option.bind_some, fx_cd F (by omega), if_pos hF]
  by_cases c : A = -1
  · rw [if_neg (not_not_intro c), if_pos c]
  · rw [if_pos c, if_neg c]
theorem w_398 (h5 : s.1 5 = 0) (v : Int32) : g_word_398 U S N v s = g_lies U S N v s := by
  unfold g_word_398 g_word_410
  rw [if_neg (not_not_intro h5), rb]
theorem w_398f (h5 : ¬ s.1 5 = 0) (v : Int32) : g_word_398 U S N v s = some ((), s) := by
  unfold g_word_398 g_word_410
  rw [if_pos h5]
end
