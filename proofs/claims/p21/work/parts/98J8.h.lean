/-! LAYER 3, the assemblers side by side: TEXT -/
section
variable {U S N n c m T i : Nat} {b : Nat → Int32} {P ν : Nat → Nat} {t : CS} {s : RS}
def tEnd (b : Nat → Int32) (n : Nat) (d : Int32) (j : Nat) : Prop := j < n ∧ ¬ b j = d ∧ ¬ b j = 10
theorem tEnd_n {d : Int32} {j : Nat} (h : tEnd b n d j) : j < n := h.1
theorem ff_t5 (hn : n ≤ 2000) (h3 : s.1 3 = nI n) (hb : ∀ i, i < n → s.2.1 2 i = b i) {q : Nat} (a1 : Int32) : ∀ (f x : Nat), x < 2 ^ 30 → rn (blk b n) x q → q < x + f → l_texts_5 U S N f a1 (nI x) s = g_texts_30 U S N a1 (nI q) s := by
  intro f
  induction f with
  | zero => intro x _ h h2; have := h.1; omega
  | succ f ih =>
    intro x hx h h2
    show h_texts_5 U S N (l_texts_5 U S N f) a1 (nI x) s = _
    unfold h_texts_5
    rw [h3]
    by_cases c : x < n
    · rw [if_neg (fun z => by have := (leI (by omega) (by omega)).mp z; omega), rA_y (by decide) (by omega), Option.bind_some, hb x c]
      by_cases d : b x = 32
      · rw [if_neg (not_not_intro d), nI_1]
        exact ih (x + 1) (by omega) (rn_s h ⟨c, d⟩) (by omega)
      · rw [if_pos d, rn_0 h (fun z => d z.2)]
    · rw [if_pos ((leI (by omega) (by omega)).mpr (by omega)), rn_0 h (fun z => c z.1)]
theorem ff_t55 (hn : n ≤ 2000) (h3 : s.1 3 = nI n) (hb : ∀ i, i < n → s.2.1 2 i = b i) {q : Nat} (a1 a2 d : Int32) : ∀ (f x : Nat), x < 2 ^ 30 → rn (tEnd b n d) x q → q < x + f → l_texts_55 U S N f a1 a2 d (nI x) s = g_texts_93 U S N a1 a2 d (nI q) s := by
  intro f
  induction f with
  | zero => intro x _ h h2; have := h.1; omega
  | succ f ih =>
    intro x hx h h2
    show h_texts_55 U S N (l_texts_55 U S N f) a1 a2 d (nI x) s = _
    unfold h_texts_55
    rw [h3]
    by_cases c : x < n
    · rw [if_neg (fun z => by have := (leI (by omega) (by omega)).mp z; omega)]
      simp only [rA_y (show 2000 < 2 ^ 31 by decide) (show x < 2000 by omega), Option.bind_some, hb x c]
      by_cases e1 : b x = d
      · rw [if_pos e1, rn_0 h (fun z => z.2.1 e1)]
      · rw [if_neg e1]
        by_cases e2 : b x = 10
        · rw [if_pos e2, rn_0 h (fun z => z.2.2 e2)]
        · rw [if_neg e2, nI_1]
          exact ih (x + 1) (by omega) (rn_s h ⟨c, e1, e2⟩) (by omega)
    · rw [if_pos ((leI (by omega) (by omega)).mpr (by omega)), rn_0 h (fun z => c z.1)]
theorem ff_t109 (hn : n ≤ 2000) (h3 : s.1 3 = nI n) (hb : ∀ i, i < n → s.2.1 2 i = b i) {e : Nat} (he : e ≤ 2100) (a1 a2 d : Int32) : ∀ (f x : Nat) (pr : Int32), x ≤ 2100 → 2100 < x + f → (pr = 0 ∨ pr = 1) → ∃ pr2, (pr2 = 0 ∨ pr2 = 1) ∧ l_texts_109 U S N f a1 a2 d (nI e) pr (nI x) s = g_texts_160 U S N a1 a2 d (nI e) pr2 s ∧ (pr2 = 1 ↔ (pr = 1 ∧ ∀ j, x ≤ j → j < e → j < n → pln (b j))) := by
  intro f
  induction f with
  | zero => intro x pr h1 h2; omega
  | succ f ih =>
    intro x pr h1 h2 hpr
    have st1 : l_texts_109 U S N (f + 1) a1 a2 d (nI e) pr (nI x) s = h_texts_109 U S N (l_texts_109 U S N f) a1 a2 d (nI e) pr (nI x) s := rfl
    rw [st1]
    unfold h_texts_109 g_texts_151 g_texts_152
    rw [h3]
    by_cases c1 : e ≤ x
    · rw [if_pos ((leI (by omega) (by omega)).mpr c1)]
      exact ⟨pr, hpr, rfl, fun z => ⟨z, fun j j1 j2 => by omega⟩, fun z => z.1⟩
    · rw [if_neg (fun z => c1 ((leI (by omega) (by omega)).mp z))]
      by_cases c2 : n ≤ x
      · rw [if_pos ((leI (by omega) (by omega)).mpr c2)]
        exact ⟨pr, hpr, rfl, fun z => ⟨z, fun j j1 j2 j3 => by omega⟩, fun z => z.1⟩
      · rw [if_neg (fun z => c2 ((leI (by omega) (by omega)).mp z)), nI_1]
        by_cases c0 : pr = 0
        · rw [if_pos c0]
          obtain ⟨pr2, p1, p2, p3⟩ := ih (x + 1) 0 (by omega) (by omega) (Or.inl rfl)
          refine ⟨pr2, p1, p2, fun z => absurd (p3.mp z).1 (by decide), fun z => ?_⟩
          rw [c0] at z
          exact absurd z.1 (by decide)
        · have pr1 : pr = 1 := hpr.resolve_left c0
          rw [if_neg c0, rA_y (by decide) (by omega), Option.bind_some, hb x (by omega), g_pln, Option.bind_some]
          dsimp only
          by_cases cp : pln (b x)
          · rw [if_pos cp, if_neg (show ¬ (1 : Int32) = 0 by decide)]
            obtain ⟨pr2, p1, p2, p3⟩ := ih (x + 1) 1 (by omega) (by omega) (Or.inr rfl)
            refine ⟨pr2, p1, p2, fun z => ⟨pr1, fun j j1 j2 j3 => ?_⟩, fun z => p3.mpr ⟨rfl, fun j j1 j2 j3 => z.2 j (by omega) j2 j3⟩⟩
            by_cases ej : j = x
            · rw [ej]; exact cp
            · exact (p3.mp z).2 j (by omega) j2 j3
          · rw [if_neg cp, if_pos (show (0 : Int32) = 0 from rfl)]
            obtain ⟨pr2, p1, p2, p3⟩ := ih (x + 1) 0 (by omega) (by omega) (Or.inl rfl)
            exact ⟨pr2, p1, p2, fun z => absurd (p3.mp z).1 (by decide), fun z => absurd (z.2 x (Nat.le_refl _) (by omega) (by omega)) cp⟩
/-- what texts finds -/
theorem tx_eq (hN : 5000 < N) (hn : n ≤ 2000) (h3 : s.1 3 = nI n) (hb : ∀ i, i < n → s.2.1 2 i = b i) (hf : FZ s) (a1 : Int32) {z : Nat} (hz : z ≤ n) (h16 : s.1 16 = nI z) : (∀ y w, txt b n z y w → g_texts U S N a1 s = l_texts_197 U S N N (nI w) (nI (y + 1)) s) ∧ ((¬ ∃ y w, txt b n z y w) → ∃ s2, g_texts U S N a1 s = some ((), s2) ∧ SL s s2 ∧ FZ s2 ∧ ¬ s2.1 5 = 0) := by
  obtain ⟨y, hy, hy2⟩ := rn_ex (fun i => blk_n (b := b) (n := n) (i := i)) n z (by omega)
  have hyn : y ≤ n := by omega
  have e0 : g_texts U S N a1 s = g_texts_30 U S N a1 (nI y) s := by
    show l_texts_5 U S N N a1 (s.1 16) s = _
    rw [h16]
    exact ff_t5 hn h3 hb a1 N z (by omega) hy (by omega)
  -- the mark
  obtain ⟨d, hd⟩ : ∃ d, d = if y < n then b y else 10 := ⟨_, rfl⟩
  obtain ⟨e, he, he2⟩ := rn_ex (fun i => tEnd_n (b := b) (n := n) (d := d) (j := i)) n (y + 1) (by omega)
  have e1 : g_texts_30 U S N a1 (nI y) s = g_texts_93 U S N a1 (nI y) d (nI e) s := by
    unfold g_texts_30 g_texts_49
    rw [h3, nI_1]
    by_cases c : y < n
    · rw [if_neg (fun z => by have := (leI (by omega) (by omega)).mp z; omega), rA_y (by decide) (by omega), Option.bind_some, hb y c]
      rw [if_pos c] at hd
      rw [← hd]
      exact ff_t55 hn h3 hb a1 (nI y) d N (y + 1) (by omega) he (by omega)
    · rw [if_pos ((leI (by omega) (by omega)).mpr (by omega))]
      rw [if_neg c] at hd
      rw [← hd]
      exact ff_t55 hn h3 hb a1 (nI y) d N (y + 1) (by omega) he (by omega)
  obtain ⟨pr, p1, p2, p3⟩ := ff_t109 (U := U) (S := S) (N := N) hn h3 hb (e := e) (by omega) a1 (nI y) d N y (if d = 10 then 0 else 1) (by omega) (by omega) (by split; exact Or.inl rfl; exact Or.inr rfl)
  have e2 : g_texts_93 U S N a1 (nI y) d (nI e) s = g_texts_160 U S N a1 (nI y) d (nI e) pr s := by
    rw [← p2]
    unfold g_texts_93 g_texts_104
    by_cases c : d = 10
    · rw [if_pos c, if_pos c]
    · rw [if_neg c, if_neg c]
  rw [e0, e1, e2]
  have fail : g_texts_185 U S N a1 s = some ((), flt s 1 a1) := by
    unfold g_texts_185
    rw [g_fails_eq hf]
    rfl
  have e3 : g_texts_160 U S N a1 (nI y) d (nI e) pr s = if pr = 1 ∧ e < n ∧ b e = d then l_texts_197 U S N N (nI e) (nI (y + 1)) s else some ((), flt s 1 a1) := by
    unfold g_texts_160
    rw [fail, h3, nI_1]
    by_cases c0 : pr = 0
    · rw [if_pos c0, if_neg (fun q => by rw [c0] at q; exact absurd q.1 (by decide))]
    · rw [if_neg c0]
      by_cases c1 : e < n
      · rw [if_neg (fun z => by have := (leI (by omega) (by omega)).mp z; omega), rA_y (by decide) (by omega), Option.bind_some, hb e c1]
        by_cases c2 : b e = d
        · rw [if_pos c2, if_pos ⟨p1.resolve_left c0, c1, c2⟩]
        · rw [if_neg c2, if_neg (fun q => c2 q.2.2)]
      · rw [if_pos ((leI (by omega) (by omega)).mpr (by omega)), if_neg (fun q => c1 q.2.1)]
  rw [e3]
  have good : ∀ y2 w, txt b n z y2 w → y2 = y ∧ w = e ∧ pr = 1 ∧ e < n ∧ b e = d := by
    rintro y2 w ⟨k1, k2, k3, k4, k5, k6, k7⟩
    have ey := rn_u hy k1
    subst ey
    rw [if_pos k2] at hd
    have hd10 : ¬ d = 10 := by
      rw [hd]
      intro q
      rw [q] at k3
      exact absurd k3 (by decide)
    have ew : e = w := by
      refine rn_u he ⟨k4, fun j j1 j2 => ⟨by omega, by rw [hd]; exact (k7 j j1 j2).2, fun q => ?_⟩, fun q => q.2.1 (by rw [hd]; exact k6)⟩
      have := (k7 j j1 j2).1
      rw [q] at this
      exact absurd this (by decide)
    subst ew
    refine ⟨rfl, rfl, p3.mpr ⟨if_neg hd10, fun j j1 j2 j3 => ?_⟩, k5, by rw [hd]; exact k6⟩
    by_cases ej : j = y
    · rw [ej]; exact k3
    · exact (k7 j (by omega) j2).1
  constructor
  · intro y2 w ht
    obtain ⟨g1, g2, g3⟩ := good y2 w ht
    rw [if_pos g3, g1, g2]
  · intro hno
    rw [if_neg]
    · exact ⟨_, rfl, flt_SL _ _, flt_FZ hf (by decide), flt_ne (by decide)⟩
    · rintro ⟨q1, q2, q3⟩
      obtain ⟨r1, r2⟩ := p3.mp q1
      have hd10 : ¬ d = 10 := by
        intro q
        rw [if_pos q] at r1
        exact absurd r1 (by decide)
      have hyl : y < n := by
        by_cases c : y < n
        · exact c
        · rw [if_neg c] at hd; exact absurd hd hd10
      rw [if_pos hyl] at hd
      have he1 := he.1
      refine hno ⟨y, e, hy, hyl, r2 y (Nat.le_refl _) (by omega) hyl, he1, q2, by rw [q3, hd], fun j j1 j2 => ⟨r2 j (by omega) j2 (by omega), ?_⟩⟩
      have := (he.2.1 j j1 j2).2.1
      rw [hd] at this
      exact this
/-- TEXT -/
theorem j_text (hN : 5000 < N) (h : JS b n P c m T ν i t s) {a : Nat} (hl : LA b n P c m t s a) (h4 : t.1 0 0 4 = 0) (h5 : s.1 5 = 0) (h9 : t.1 0 0 9 = nI a) (hk : kA t (nI a) = 4) : ∃ t2 s2, u_X0_passText U S N t = some ((), t2) ∧ g_told U S N 4 s = some ((), s2) ∧ OUT b n P c m i s t2 s2 := by
  obtain ⟨hE, h2, h3, h4', hpl, h6, h7, h8, hf, hd8, hd6, hsh⟩ := id h
  obtain ⟨hn, -, ⟨eL, hbb, ec, -, hc, -⟩, -, -, ⟨hs3, hb⟩, -, h11, hs9, hCA⟩ := id hE
  obtain ⟨e1, e2, e3, -⟩ := LA_k hE hl
  have hK : t.2.1 9 0 1 a = 4 := by rw [← e1]; exact hk
  obtain ⟨e12, st, z, w0, w1, w2, w3, w4, w5, w6, w7, w8, w9, w10⟩ := LA_n hE hl (Or.inr (Or.inl hK))
  obtain ⟨y, w, htx, hv, ho, hP⟩ : ∃ y w, txt b n z y w ∧ t.2.1 9 0 3 a = nI (y + 1) ∧ t.2.1 9 0 4 a = nI w ∧ P (a + 1) = w + 1 := by
    rcases w10 with ⟨k, -⟩ | ⟨-, -, -, -, ⟨k, -⟩ | ⟨-, k⟩⟩
    · rw [hK] at k; exact absurd k (by decide)
    · rw [hK] at k; exact absurd k (by decide)
    · exact k
  obtain ⟨ha1, st1, x1, x2, x3, x4, x5⟩ := tk_nx hE hl.1 (by rw [hK]; rintro (q | q | q | q) <;> exact absurd q (by decide))
  obtain ⟨p, hp, ep⟩ := id hpl
  obtain ⟨-, -, -, hyw, hwn, -, -⟩ := id htx
  obtain ⟨c1, c2⟩ := c_ttext (U := U) (S := S) hN hCA ec hc eL hn hbb h4 h9 hl.1 h3 h2 hp ep (by rw [e2]; exact hv) (by rw [e3]; exact ho) hyw hwn
  have hkw : ∀ x, x < (w - (y + 1)) / 2 + 1 ↔ y + 1 + 2 * x ≤ w := fun x => by omega
  have hk5 : (w - (y + 1)) / 2 + 1 ≤ 1001 := by omega
  generalize (w - (y + 1)) / 2 + 1 = k at *
  have et : g_told U S N 4 s = ((l_texts_197 U S N N (nI w) (nI (y + 1)) s).bind fun q12 => some ((), q12.2)) := by
    unfold g_told
    rw [if_neg (show ¬ ¬ (4 : Int32) = 4 from fun z => z rfl), (tx_eq (U := U) (S := S) hN hn hs3 hb hf (s.1 13) w6 w3).1 y w htx]
  rw [et]
  have f279 : ∀ sx : RS, ¬ sx.1 5 = 0 → g_texts_279 U S N (nI w) sx = some ((), pI sx 4 (nI (w + 1))) := by
    intro sx hx
    unfold g_texts_279 g_texts_298
    rw [Option.bind_some, nI_1]
    show (if ¬ sx.1 5 = 0 then _ else _) = _
    rw [if_pos hx]
  have f197 : ∀ (f : Nat) (x : Int32) (sx : RS), ¬ sx.1 5 = 0 → l_texts_197 U S N (f + 1) (nI w) x sx = some ((), pI sx 4 (nI (w + 1))) := by
    intro f x sx hx
    show h_texts_197 U S N (l_texts_197 U S N f) (nI w) x sx = _
    unfold h_texts_197
    by_cases q : nI w < x
    · rw [if_pos q]; exact f279 sx hx
    · rw [if_neg q, if_pos hx]; exact f279 sx hx
  have hJq := JS_9 h (nI (a + 1))
  have loop : ∀ (f x : Nat) (sx : RS), x ≤ k → k + 1 < x + f → LQ (qI t 0 0 9 (nI (a + 1))) i p (wdT b y w) s x sx → (∀ j, j < x → p + j < 4096 ∧ (s.1 9 = 0 ∨ s.2.1 24 (p + j) = 0)) → (mlOK t i p k → ∃ s3, l_texts_197 U S N f (nI w) (nI (y + 1 + 2 * x)) sx = g_texts_279 U S N (nI w) s3 ∧ LQ (qI t 0 0 9 (nI (a + 1))) i p (wdT b y w) s k s3) ∧ (¬ mlOK t i p k → ∃ s3, l_texts_197 U S N f (nI w) (nI (y + 1 + 2 * x)) sx = some ((), s3) ∧ SF s s3 ∧ FZ s3 ∧ ¬ s3.1 5 = 0) := by
    intro f
    induction f with
    | zero => intro x sx q1 q2; omega
    | succ f ih =>
      intro x sx q1 q2 q3 q4
      have sx5 : sx.1 5 = 0 := by rw [q3.1]; exact h5
      have sxb2 : ∀ j, j < n → sx.2.1 2 j = b j := by rw [q3.2.2.1 2 (by decide) (by decide)]; exact hb
      have st1 : l_texts_197 U S N (f + 1) (nI w) (nI (y + 1 + 2 * x)) sx = h_texts_197 U S N (l_texts_197 U S N f) (nI w) (nI (y + 1 + 2 * x)) sx := rfl
      rw [st1]
      by_cases cx : x = k
      · have hgt : ¬ y + 1 + 2 * x ≤ w := fun q => by have := (hkw x).mpr q; omega
        unfold h_texts_197
        rw [if_pos ((ltI (by omega) (by omega)).mpr (by omega))]
        refine ⟨fun _ => ⟨sx, rfl, by rw [← cx]; exact q3⟩, fun nok => absurd ((ml_all h).mpr ⟨?_, fun j hj => q4 j (by omega)⟩) nok⟩
        by_cases k0 : k = 0
        · omega
        · have := (q4 (k - 1) (by omega)).1; omega
      · have hle : y + 1 + 2 * x ≤ w := (hkw x).mp (by omega)
        have hpx : p + x ≤ 4096 := by
          by_cases x0 : x = 0
          · omega
          · have := (q4 (x - 1) (by omega)).1; omega
        obtain ⟨hh, ll, hh1, ll1, hh2, ll2, ewd⟩ := wdT_n b y w x
        have e259 : h_texts_197 U S N (l_texts_197 U S N f) (nI w) (nI (y + 1 + 2 * x)) sx = (g_lies U S N (nI (64 * hh + ll)) sx).bind fun q1 => l_texts_197 U S N f (nI w) (nI (y + 1 + 2 * (x + 1))) q1.2 := by
          have enx : nI (y + 1 + 2 * x) + 2 = nI (y + 1 + 2 * (x + 1)) := nI_add _ 2
          have e64 : (64 : Int32) * nI hh + nI ll = nI (64 * hh + ll) := by
            rw [show (64 : Int32) = nI 64 from rfl, mul_nI, nI_add]
          have e232 : g_texts_232 U S N (l_texts_197 U S N f) (nI w) (nI (y + 1 + 2 * x)) (nI hh) sx = (g_lies U S N (nI (64 * hh + ll)) sx).bind fun q1 => l_texts_197 U S N f (nI w) (nI (y + 1 + 2 * (x + 1))) q1.2 := by
            unfold g_texts_232 g_texts_259
            rw [nI_1, enx]
            unfold sxb at ll2
            by_cases q : y + 1 + 2 * x + 1 < w
            · rw [if_neg (fun z => by have := (leI (by omega) (by omega)).mp z; omega), rA_y (by decide) (by omega), Option.bind_some, sxb2 _ (by omega)]
              rw [if_pos q] at ll2
              rw [ll2, e64]
            · rw [if_pos ((leI (by omega) (by omega)).mpr (by omega))]
              rw [if_neg q] at ll2
              rw [ll2, e64]
          unfold h_texts_197
          rw [if_neg (fun z => by have := (ltI (by omega) (by omega)).mp z; omega), if_neg (not_not_intro sx5)]
          unfold sxb at hh2
          by_cases q : y + 1 + 2 * x < w
          · rw [if_neg (fun z => by have := (leI (by omega) (by omega)).mp z; omega), rA_y (by decide) (by omega), Option.bind_some, sxb2 _ (by omega)]
            rw [if_pos q] at hh2
            rw [hh2]
            exact e232
          · rw [if_pos ((leI (by omega) (by omega)).mpr (by omega))]
            rw [if_neg q] at hh2
            rw [hh2]
            exact e232
        rw [e259]
        obtain ⟨l1, l2⟩ := LQ_s (U := U) (S := S) (N := N) q3 hf hpx (v := nI (64 * hh + ll)) (by rw [ewd]; exact w12_id ⟨_, by omega, rfl⟩)
        by_cases ok1 : p + x < 4096 ∧ (s.1 9 = 0 ∨ s.2.1 24 (p + x) = 0)
        · obtain ⟨s3, r1, r2⟩ := l1 ok1
          rw [r1, Option.bind_some]
          refine ih (x + 1) s3 (by omega) (by omega) r2 (fun j hj => ?_)
          by_cases e : j = x
          · rw [e]; exact ok1
          · exact q4 j (by omega)
        · obtain ⟨s3, r1, r2, r3, r4⟩ := l2 ok1
          rw [r1, Option.bind_some]
          obtain ⟨f, rfl⟩ : ∃ k, f = k + 1 := ⟨f - 1, by omega⟩
          dsimp only
          rw [f197 f _ s3 r4]
          exact ⟨fun ok => absurd (((ml_all h).mp ok).2 x (by omega)) ok1, fun _ => ⟨_, rfl, SF_I (SF_t (LQ_SF q3) (SF_SL r2)) (by decide) _, r3, r4⟩⟩
  obtain ⟨l1, l2⟩ := loop N 0 s (by omega) (by omega) (LQ_0 (by rw [h11, ep]) hsh) (fun j hj => absurd hj (Nat.not_lt_zero j))
  by_cases ok : mlOK t i p k
  · obtain ⟨s3, r1, r2⟩ := l1 ok
    have cc := c1 ok
    have hw12 : ∀ j, W12 (wdT b y w j) := fun j => by
      obtain ⟨hh, ll, hh1, ll1, -, -, e⟩ := wdT_n b y w j
      rw [e]
      exact ⟨_, by omega, rfl⟩
    have hJf : JS b n P c m T ν i (qI (if t.1 0 0 6 = 0 then qI t 0 0 9 (nI (a + 1)) else lyS (qI t 0 0 9 (nI (a + 1))) i p (wdT b y w) k) 0 0 10 (nI (p + k))) s3 := JS_LQ hJq ep ok.1 hw12 r2 (fun _ _ => trivial)
    have g4 : (qI (if t.1 0 0 6 = 0 then qI t 0 0 9 (nI (a + 1)) else lyS (qI t 0 0 9 (nI (a + 1))) i p (wdT b y w) k) 0 0 10 (nI (p + k))).1 0 0 4 = 0 := by
      by_cases c6 : t.1 0 0 6 = 0
      · rw [if_pos c6]; exact h4
      · rw [if_neg c6]
        show (lyS (qI t 0 0 9 (nI (a + 1))) i p (wdT b y w) k).1 0 0 4 = 0
        rw [(lyS_f p (wdT b y w) k).1 0 (by decide)]
        exact h4
    have g9 : (qI (if t.1 0 0 6 = 0 then qI t 0 0 9 (nI (a + 1)) else lyS (qI t 0 0 9 (nI (a + 1))) i p (wdT b y w) k) 0 0 10 (nI (p + k))).1 0 0 9 = nI (a + 1) := by
      by_cases c6 : t.1 0 0 6 = 0
      · rw [if_pos c6]; rfl
      · rw [if_neg c6]
        show (lyS (qI t 0 0 9 (nI (a + 1))) i p (wdT b y w) k).1 0 0 9 = _
        rw [(lyS_f p (wdT b y w) k).1 0 (by decide)]
        rfl
    have gt : (qI (if t.1 0 0 6 = 0 then qI t 0 0 9 (nI (a + 1)) else lyS (qI t 0 0 9 (nI (a + 1))) i p (wdT b y w) k) 0 0 10 (nI (p + k))).2.1 9 = t.2.1 9 ∧ (qI (if t.1 0 0 6 = 0 then qI t 0 0 9 (nI (a + 1)) else lyS (qI t 0 0 9 (nI (a + 1))) i p (wdT b y w) k) 0 0 10 (nI (p + k))).2.2.1 = t.2.2.1 := by
      by_cases c6 : t.1 0 0 6 = 0
      · rw [if_pos c6]; exact ⟨rfl, rfl⟩
      · rw [if_neg c6]
        obtain ⟨-, q2, q3⟩ := lyS_f (t := qI t 0 0 9 (nI (a + 1))) (i := i) p (wdT b y w) k
        exact ⟨q2 9 (by decide), by show (lyS (qI t 0 0 9 (nI (a + 1))) i p (wdT b y w) k).2.2.1 = _; rw [q3]; rfl⟩
    generalize hT2 : qI (if t.1 0 0 6 = 0 then qI t 0 0 9 (nI (a + 1)) else lyS (qI t 0 0 9 (nI (a + 1))) i p (wdT b y w) k) 0 0 10 (nI (p + k)) = T2 at *
    have s35 : s3.1 5 = 0 := by rw [r2.1]; exact h5
    have fz3 : FZ s3 := Or.inl s35
    have sl4 : SL s3 (pI s3 4 (nI (w + 1))) := SL_I (SL_0 s3) (by decide) _
    obtain ⟨s4, y1, ⟨z1, z2, z3, z4, z5⟩, -⟩ := look_at (U := U) (S := S) (s := pI s3 4 (nI (w + 1))) (t := T2) hN (EX_SL hJf.1 sl4) fz3 ha1 (by rw [hP]; rfl) x1 x2 x3 (by rw [gt.1]; exact x4) (by rw [gt.1, gt.2]; exact x5)
    have e279 : g_texts_279 U S N (nI w) s3 = some ((), s4) := by
      unfold g_texts_279 g_texts_298
      rw [Option.bind_some, nI_1]
      show (if ¬ s3.1 5 = 0 then _ else _) = _
      rw [if_neg (not_not_intro s35), y1]
      rfl
    have r1' : l_texts_197 U S N N (nI w) (nI (y + 1)) s = some ((), s4) := r1.trans e279
    rw [r1', Option.bind_some]
    have sf4 : SF s s4 := SF_t (LQ_SF r2) (SF_t (SF_SL sl4) (SF_SL z1))
    refine ⟨T2, s4, cc, rfl, z3, sf4, ?_⟩
    rcases z5 s35 with ⟨u1, u2, -⟩ | ⟨u1, u2, u3⟩
    · exact Or.inr (Or.inl ⟨g4, by rw [u2]; decide, by rw [g9]; exact u1⟩)
    · exact Or.inr (Or.inr ⟨g4, u2, a + 1, T, ν, g9, JS_SL (JS_SL hJf sl4 fz3) z1 z3, u3⟩)
  · obtain ⟨s3, r1, r2, r3, r4⟩ := l2 ok
    obtain ⟨t2, q1, q2⟩ := c2 ok
    have r1' : l_texts_197 U S N N (nI w) (nI (y + 1)) s = some ((), s3) := r1
    rw [r1', Option.bind_some]
    exact ⟨t2, s3, q1, rfl, r3, r2, Or.inl ⟨q2, r4⟩⟩
end
