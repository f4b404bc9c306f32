/-! LAYER 3, tokens: the class's row of tokens in full -/
section
variable {U S N n c m x : Nat} {t0 t : CS} {b : Nat → Int32}
theorem ct_num (hN : 5000 < N) (h : GA t0 t) (eL : t.1 9 0 7 = nI n) (hn : n ≤ 2000) (hb : t.2.1 11 0 0 = b) (ec : t.1 9 0 5 = nI c) (hc : c < 2001) (hv : NV t m) (hm : 2 * (m - 53) ≤ x + 1) (e8 : t.1 9 0 8 = nI x) (hx : x < n) (hnl : ¬ ltr (b x)) (hl : dgt (b x)) : AT b n c m x t (u_X9_scanNumber U S N t) := by
  obtain ⟨z, hz, hz2⟩ := rn_ex (fun i => dgc_n (b := b) (n := n) (i := i)) n x (by omega)
  have hzx : x + 1 ≤ z := (rn_s hz ⟨hx, hl⟩).1
  have hsub : ∀ k, nI (x + k) - nI x = nI k := fun k => by rw [sub_nI (by omega)]; congr 1; omega
  have dgl : ∀ i, x ≤ i → i < z → b i = nI (48 + dg b i) ∧ dg b i < 10 := fun i h1 h2 => dgt_v (hz.2.1 i h1 h2).2
  -- what is put behind
  have fin : ∀ (k : Nat) (a1 : Int32), x + k ≤ z → (x + k = z ∨ k = 5) → k ≤ 5 → ((gdr 8 b x k ∧ a1 = nI (nvl 8 b x k)) ∨ (¬ gdr 8 b x k ∧ a1 = -1)) → AT b n c m x t (u_X9_scanNumber_86 U S N a1 (nI (nvl 10 b x k)) (nI (x + k)) t) := by
    intro k a1 hk1 hk2 hk5 ha
    unfold u_X9_scanNumber_86 u_X9_scanNumber_122
    rw [e8, hsub]
    by_cases c4 : k ≤ 4
    · have ez : x + k = z := hk2.resolve_right (by omega)
      have ek : z - x = k := by omega
      have h10 : nvl 10 b x k < 10 ^ 4 := Nat.lt_of_lt_of_le (nvl_lt _ (fun i hi => (dgl (x + i) (by omega) (by omega)).2)) (Nat.pow_le_pow_right (by decide) c4)
      rw [if_pos ((leL (k := 4) (c := 4) rfl (by omega) (by decide)).mpr c4)]
      have bld : ∀ o, ((nvl 10 b x k ≤ 4095 ∧ o = nI (nvl 10 b x k)) ∨ (4095 < nvl 10 b x k ∧ o = -1)) → AT b n c m x t ((u_X9_append U S N 2 (nI (x + k)) a1 o t).bind fun q1 => some (q1.1, q1.2)) := by
        intro o ho
        rw [e_app2 ec hc]
        refine ⟨2, a1, o, x + k, t, m, rfl, Or.inl ⟨rfl, rfl⟩, hv, Or.inr (Or.inr (Or.inr (Or.inl ⟨hx, hnl, hl, z, hz, Or.inr ⟨by omega, rfl, ez, ?_, ?_⟩⟩))), fun _ => ⟨by omega, by omega, Or.inl (by omega)⟩⟩
        · rw [ek]; exact ha
        · rw [ek]; exact ho
      by_cases c10 : nvl 10 b x k ≤ 4095
      · rw [if_pos ((leL (k := 4095) (c := 4095) rfl (by omega) (by decide)).mpr c10)]
        exact bld _ (Or.inl ⟨c10, rfl⟩)
      · rw [if_neg (fun q => c10 ((leL (k := 4095) (c := 4095) rfl (by omega) (by decide)).mp q))]
        exact bld _ (Or.inr ⟨by omega, rfl⟩)
    · rw [if_neg (fun q => c4 ((leL (k := 4) (c := 4) rfl (by omega) (by decide)).mp q)), e_app2 ec hc]
      exact ⟨6, 0, 0, x + k, t, m, rfl, Or.inl ⟨rfl, rfl⟩, hv, Or.inr (Or.inr (Or.inr (Or.inl ⟨hx, hnl, hl, z, hz, Or.inl ⟨by omega, rfl⟩⟩))), fun q => absurd (Or.inr (Or.inr (Or.inl rfl))) q⟩
  have loop : ∀ (f k : Nat) (a1 : Int32), x + k ≤ z → k ≤ 5 → ((gdr 8 b x k ∧ a1 = nI (nvl 8 b x k)) ∨ (¬ gdr 8 b x k ∧ a1 = -1)) → 5 < k + f → AT b n c m x t (ul_X9_scanNumber_9 U S N f a1 (nI (nvl 10 b x k)) (nI (x + k)) t) := by
    intro f
    induction f with
    | zero => intro k a1 h1 h2 _ h3; omega
    | succ f ih =>
      intro k a1 hk1 hk5 ha h3
      show AT b n c m x t (uh_X9_scanNumber_9 U S N (ul_X9_scanNumber_9 U S N f) a1 (nI (nvl 10 b x k)) (nI (x + k)) t)
      unfold uh_X9_scanNumber_9 u_X9_scanNumber_60
      unfold u_X9_scanNumber_71
      rw [eL, e8, hsub]
      by_cases q : x + k = z
      · have fin1 := fin k a1 hk1 (Or.inl q) hk5 ha
        by_cases cx : x + k < n
        · rw [if_neg (fun z => by have := (leI (by omega) (by omega)).mp z; omega)]
          by_cases k4 : (4 : Int32) < nI k
          · rw [if_pos k4]; exact fin1
          · rw [if_neg k4, e_byte h.1, Option.bind_some, e_bA eL hn hb (by omega), if_pos cx]
            show AT b n c m x t ((u_X9_isDigit U S N (b (x + k)) t).bind _)
            rw [c_dgt, Option.bind_some, if_neg (show ¬ dgt (b (x + k)) from fun z => hz.2.2 (by rw [← q]; exact ⟨cx, z⟩)), if_pos (show (0 : Int32) = 0 from rfl)]
            exact fin1
        · rw [if_pos ((leI (by omega) (by omega)).mpr (by omega))]
          exact fin1
      · obtain ⟨cx, hd⟩ := hz.2.1 (x + k) (by omega) (by omega)
        obtain ⟨v1, v2⟩ := dgl (x + k) (by omega) (by omega)
        rw [if_neg (fun z => by have := (leI (by omega) (by omega)).mp z; omega)]
        by_cases k4 : 4 < k
        · rw [if_pos ((Llt (k := 4) (c := 4) rfl (by omega) (by decide)).mpr k4)]
          exact fin k a1 hk1 (Or.inr (by omega)) hk5 ha
        · rw [if_neg (fun q => k4 ((Llt (k := 4) (c := 4) rfl (by omega) (by decide)).mp q)), e_byte h.1, Option.bind_some, e_bA eL hn hb (by omega), if_pos cx]
          show AT b n c m x t ((u_X9_isDigit U S N (b (x + k)) t).bind _)
          rw [c_dgt, Option.bind_some, if_pos hd, if_neg (show ¬ (1 : Int32) = 0 by decide)]
          show AT b n c m x t ((u_X9_byteAt U S N (nI (x + k)) t).bind _)
          rw [e_byte h.1, Option.bind_some, e_bA eL hn hb (by omega), if_pos cx]
          have ev : b (x + k) - 48 = nI (dg b (x + k)) := by
            rw [v1, show (48 : Int32) = nI 48 from rfl, sub_nI (by omega)]
            congr 1
            omega
          have e10 : nI (nvl 10 b x k) * 10 + (b (x + k) - 48) = nI (nvl 10 b x (k + 1)) := by
            rw [ev, show (10 : Int32) = nI 10 from rfl, mul_nI, nI_add]
            rfl
          have enx : nI (x + k) + 1 = nI (x + (k + 1)) := nI_1 _
          show AT b n c m x t (if a1 = -1 then ul_X9_scanNumber_9 U S N f (-1) (nI (nvl 10 b x k) * 10 + (b (x + k) - 48)) (nI (x + k) + 1) t else if b (x + k) - 48 ≤ 7 then ul_X9_scanNumber_9 U S N f (a1 * 8 + (b (x + k) - 48)) (nI (nvl 10 b x k) * 10 + (b (x + k) - 48)) (nI (x + k) + 1) t else ul_X9_scanNumber_9 U S N f (-1) (nI (nvl 10 b x k) * 10 + (b (x + k) - 48)) (nI (x + k) + 1) t)
          rw [e10, enx, ev]
          have gs : ∀ g : gdr 8 b x (k + 1), gdr 8 b x k := fun g i hi => g i (by omega)
          rcases ha with ⟨g, ha⟩ | ⟨g, ha⟩
          · have hlt8 : nvl 8 b x k < 8 ^ 4 := Nat.lt_of_lt_of_le (nvl_lt _ g) (Nat.pow_le_pow_right (by decide) (by omega))
            rw [if_neg (by rw [ha]; exact nI_ne (by omega))]
            by_cases c7 : dg b (x + k) ≤ 7
            · rw [if_pos ((leL (k := 7) (c := 7) rfl (by omega) (by decide)).mpr c7)]
              refine ih (k + 1) _ (by omega) (by omega) (Or.inl ⟨gdr_s g (by omega), ?_⟩) (by omega)
              rw [ha, show (8 : Int32) = nI 8 from rfl, mul_nI, nI_add]
              rfl
            · rw [if_neg (fun q => c7 ((leL (k := 7) (c := 7) rfl (by omega) (by decide)).mp q))]
              exact ih (k + 1) _ (by omega) (by omega) (Or.inr ⟨fun g2 => by have := g2 k (by omega); omega, rfl⟩) (by omega)
          · rw [if_pos ha]
            exact ih (k + 1) _ (by omega) (by omega) (Or.inr ⟨fun g2 => g (gs g2), rfl⟩) (by omega)
  show AT b n c m x t (ul_X9_scanNumber_9 U S N N 0 0 (t.1 9 0 8) t)
  rw [e8]
  exact loop N 0 0 (by omega) (by omega) (Or.inl ⟨fun i hi => absurd hi (Nat.not_lt_zero i), rfl⟩) (by omega)
theorem mod16 {j : Nat} (hj : j < 256) : ((nI j).toUInt32 % 65536).toInt32 = nI j := by
  have : ∀ j, j < 256 → ((nI j).toUInt32 % 65536).toInt32 = nI j := by decide +kernel
  exact this j hj
theorem AT_b {o : Option (Int32 × CS)} (h : AT b n c m x t o) : AT b n c m x t (o.bind fun q => some (q.1, q.2)) := by
  obtain ⟨K, v, w, e, t2, m2, h1, h2⟩ := h
  exact ⟨K, v, w, e, t2, m2, by rw [h1]; rfl, h2⟩
theorem ct_token (hN : 5000 < N) (h : GA t0 t) (eL : t.1 9 0 7 = nI n) (hn : n ≤ 2000) (hb : t.2.1 11 0 0 = b) (hB : ∀ i, i < n → ∃ j, j < 256 ∧ b i = nI j) (ec : t.1 9 0 5 = nI c) (hc : c < 2001) (hv : NV t m) (hm : 2 * (m - 53) ≤ x + 1) (hm2 : nmc b n x → 2 * (m - 53) ≤ x) (e8 : t.1 9 0 8 = nI x) (hx : x ≤ n) (h47 : ¬ (x < n ∧ b x = 47)) : AT b n c m x t (u_X9_scanToken U S N t) := by
  unfold u_X9_scanToken u_X9_scanToken_129 u_X9_scanToken_145
  unfold u_X9_scanToken_157
  rw [e8, e_byte h.1, Option.bind_some, e_bA eL hn hb (by omega)]
  have ap : ∀ K v o e, Tok b n t.2.2.1 m K x v o e → (¬ fk K → x < e ∧ e ≤ n) → AT b n c m x t ((u_X9_append U S N K (nI e) v o t).bind fun q => some (q.1, q.2)) := by
    intro K v o e hk he
    rw [e_app2 ec hc]
    exact ⟨K, v, o, e, t, m, rfl, Or.inl ⟨rfl, rfl⟩, hv, hk, fun q => ⟨(he q).1, (he q).2, Or.inl (by have := (he q).1; omega)⟩⟩
  by_cases cx : x < n
  · obtain ⟨j, hj, ej⟩ := hB x cx
    have c47 : ¬ b x = 47 := fun z => h47 ⟨cx, z⟩
    rw [if_pos cx]
    show AT b n c m x t (if ¬ b x = -1 then _ else _)
    rw [if_pos (by rw [ej]; exact nI_ne (by omega))]
    show AT b n c m x t (if ¬ b x = 10 then _ else _)
    by_cases c10 : b x = 10
    · rw [if_neg (not_not_intro c10)]
      show AT b n c m x t ((u_X9_append U S N 10 (t.1 9 0 8 + 1) 0 0 t).bind _)
      rw [e8, nI_1]
      exact ap _ _ _ _ (Or.inr (Or.inl ⟨cx, c10, rfl, rfl⟩)) (fun _ => ⟨by omega, by omega⟩)
    · rw [if_pos c10, c_ltr, Option.bind_some]
      show AT b n c m x t (if (if ltr (b x) then (1 : Int32) else 0) = 0 then _ else _)
      by_cases cl : ltr (b x)
      · rw [if_pos cl, if_neg (show ¬ (1 : Int32) = 0 by decide)]
        exact AT_b (ct_name hN h eL hn hb ec hc hv (hm2 ⟨cx, Or.inl cl⟩) e8 cx cl)
      · rw [if_neg cl, if_pos (show (0 : Int32) = 0 from rfl)]
        show AT b n c m x t ((u_X9_isDigit U S N (b x) t).bind _)
        rw [c_dgt, Option.bind_some]
        show AT b n c m x t (if (if dgt (b x) then (1 : Int32) else 0) = 0 then _ else _)
        by_cases cd : dgt (b x)
        · rw [if_pos cd, if_neg (show ¬ (1 : Int32) = 0 by decide)]
          exact AT_b (ct_num hN h eL hn hb ec hc hv hm e8 cx cl cd)
        · rw [if_neg cd, if_pos (show (0 : Int32) = 0 from rfl)]
          show AT b n c m x t (if ¬ b x = 34 then _ else _)
          by_cases c34 : b x = 34
          · rw [if_neg (not_not_intro c34)]
            show AT b n c m x t ((u_X9_byteAt U S N (t.1 9 0 8 + 1) t).bind _)
            rw [e8, nI_1, e_byte h.1, Option.bind_some, e_bA eL hn hb (by omega)]
            show AT b n c m x t ((u_X9_isPlain U S N (if x + 1 < n then b (x + 1) else -1) t).bind _)
            rw [c_pln, Option.bind_some]
            show AT b n c m x t (if (if pln (if x + 1 < n then b (x + 1) else -1) then (1 : Int32) else 0) = 0 then (u_X9_append U S N 6 (t.1 9 0 8 + 1) 0 0 t).bind _ else (u_X9_append U S N 3 (t.1 9 0 8 + 2) ((if x + 1 < n then b (x + 1) else -1) ||| 128) 0 t).bind _)
            rw [e8, nI_1, show nI x + 2 = nI (x + 2) from nI_add x 2]
            by_cases cx1 : x + 1 < n
            · rw [if_pos cx1]
              by_cases cp : pln (b (x + 1))
              · rw [if_pos cp, if_neg (show ¬ (1 : Int32) = 0 by decide)]
                exact ap _ _ _ _ (Or.inr (Or.inr (Or.inr (Or.inr (Or.inl ⟨cx, c34, Or.inr ⟨rfl, cx1, cp, rfl, rfl⟩⟩))))) (fun _ => ⟨by omega, by omega⟩)
              · rw [if_neg cp, if_pos (show (0 : Int32) = 0 from rfl)]
                exact ap _ _ _ _ (Or.inr (Or.inr (Or.inr (Or.inr (Or.inl ⟨cx, c34, Or.inl ⟨rfl, fun q => cp q.2⟩⟩))))) (fun q => absurd (Or.inr (Or.inr (Or.inl rfl))) q)
            · rw [if_neg cx1, if_neg (show ¬ pln (-1) by decide), if_pos (show (0 : Int32) = 0 from rfl)]
              exact ap _ _ _ _ (Or.inr (Or.inr (Or.inr (Or.inr (Or.inl ⟨cx, c34, Or.inl ⟨rfl, fun q => cx1 q.1⟩⟩))))) (fun q => absurd (Or.inr (Or.inr (Or.inl rfl))) q)
          · rw [if_pos c34]
            show AT b n c m x t ((sIx1 11 (((b x).toUInt32 % 65536).toInt32)).bind _)
            rw [show ((b x).toUInt32 % 65536).toInt32 = b x by rw [ej]; exact mod16 hj, show sIx1 11 (b x) = some (six 1 (b x) 0) from rfl, Option.bind_some]
            by_cases cs : sgn (b x)
            · rw [if_neg (fun q => by rw [Int32.lt_iff_toInt_lt] at q; have := Int32.le_iff_toInt_le.mp cs; omega), if_neg (show ¬ (1 : Int32) = 0 by decide)]
              show AT b n c m x t ((u_X9_append U S N (b x) (t.1 9 0 8 + 1) 0 0 t).bind _)
              rw [e8, nI_1]
              exact ap _ _ _ _ (Or.inr (Or.inr (Or.inr (Or.inr (Or.inr ⟨cx, cl, cd, c34, c10, c47, Or.inl ⟨rfl, cs, rfl⟩⟩))))) (fun _ => ⟨by omega, by omega⟩)
            · rw [if_pos (by rw [Int32.lt_iff_toInt_lt]; have := mt Int32.le_iff_toInt_le.mpr cs; omega), if_pos (show (0 : Int32) = 0 from rfl)]
              show AT b n c m x t ((u_X9_append U S N 6 (t.1 9 0 8 + 1) 0 0 t).bind _)
              rw [e8, nI_1]
              exact ap _ _ _ _ (Or.inr (Or.inr (Or.inr (Or.inr (Or.inr ⟨cx, cl, cd, c34, c10, c47, Or.inr ⟨rfl, cs⟩⟩))))) (fun q => absurd (Or.inr (Or.inr (Or.inl rfl))) q)
  · rw [if_neg cx]
    show AT b n c m x t (if ¬ (-1 : Int32) = -1 then _ else _)
    rw [if_neg (not_not_intro rfl)]
    show AT b n c m x t ((u_X9_append U S N 0 (t.1 9 0 8) 0 0 t).bind _)
    rw [e8]
    exact ap _ _ _ _ (Or.inl ⟨by omega, rfl⟩) (fun q => absurd (Or.inl rfl) q)
/-- the row of tokens -/
def TT (b : Nat → Int32) (n : Nat) (t : CS) (P : Nat → Nat) (c m : Nat) : Prop := ∀ j, j < c → ∃ st, TS b n (P j) st ∧ st ≤ n ∧ P j ≤ n ∧ t.2.1 9 0 2 j = nI st ∧ Tok b n t.2.2.1 m (t.2.1 9 0 1 j) st (t.2.1 9 0 3 j) (t.2.1 9 0 4 j) (P (j + 1))
def TB (b : Nat → Int32) (n : Nat) (t : CS) (P : Nat → Nat) (c m : Nat) : Prop := t.1 9 0 7 = nI n ∧ t.2.1 11 0 0 = b ∧ t.1 9 0 5 = nI c ∧ 0 < c ∧ c ≤ 2001 ∧ P 0 = 0 ∧ TT b n t P c m ∧ (∀ j, j + 1 < c → ¬ fk (t.2.1 9 0 1 j)) ∧ fk (t.2.1 9 0 1 (c - 1))
def FS (tS t : CS) : Prop := t.1 0 = tS.1 0 ∧ t.1 7 = tS.1 7 ∧ t.2.1 7 = tS.2.1 7
theorem FS_n {tS t t2 : CS} {m m2 : Nat} (h : FS tS t) (g : nT t t2 m m2) : FS tS t2 := by
  rcases g with ⟨rfl, -⟩ | ⟨a, rfl, -⟩
  · exact h
  · exact h
theorem TT_a {P : Nat → Nat} {t2 : CS} {m2 e st : Nat} {K v w : Int32} (h : TT b n t P c m) (hT : nT t t2 m m2) (hts : TS b n (P c) st) (hst : st ≤ n) (hP : P c ≤ n) (e8 : t.1 9 0 8 = nI st) (hk : Tok b n t2.2.2.1 m2 K st v w e) : TT b n (apT t2 c K e v w) (up1 P (c + 1) e) (c + 1) m2 := by
  have f : t2.1 9 = t.1 9 ∧ t2.2.1 9 = t.2.1 9 ∧ m ≤ m2 ∧ ∀ i, i < m → t2.2.2.1 i = t.2.2.1 i := by
    rcases hT with ⟨rfl, rfl⟩ | ⟨a, rfl, rfl⟩
    · exact ⟨rfl, rfl, Nat.le_refl _, fun _ _ => rfl⟩
    · exact ⟨rfl, rfl, by omega, fun i hi => updL_n _ _ (by omega)⟩
  obtain ⟨f1, f2, f3, f4⟩ := f
  have r1 : ∀ j, (apT t2 c K e v w).2.1 9 0 1 j = upd (t.2.1 9 0 1) c K j := fun j => by rw [← f2]; rfl
  have r2 : ∀ j, (apT t2 c K e v w).2.1 9 0 2 j = upd (t.2.1 9 0 2) c (nI st) j := fun j => by rw [← f2, ← e8, ← f1]; rfl
  have r3 : ∀ j, (apT t2 c K e v w).2.1 9 0 3 j = upd (t.2.1 9 0 3) c v j := fun j => by rw [← f2]; rfl
  have r4 : ∀ j, (apT t2 c K e v w).2.1 9 0 4 j = upd (t.2.1 9 0 4) c w j := fun j => by rw [← f2]; rfl
  intro j hj
  rw [r1, r2, r3, r4]
  by_cases q : j = c
  · subst q
    rw [upd_y, upd_y, upd_y, upd_y, up1_s, up1_n _ _ (by omega)]
    exact ⟨st, hts, hst, hP, rfl, hk⟩
  · obtain ⟨s1, a1, a2, a3, a4, a5⟩ := h j (by omega)
    rw [upd_n _ _ q, upd_n _ _ q, upd_n _ _ q, upd_n _ _ q, up1_n _ _ (by omega), up1_n _ _ (by omega)]
    exact ⟨s1, a1, a2, a3, a4, Tok_m a5 f3 f4⟩
theorem ct_loop (hN : 5000 < N) (hn : n ≤ 2000) (hB : ∀ i, i < n → ∃ j, j < 256 ∧ b i = nI j) {tS : CS} : ∀ (f c m : Nat) (t : CS) (P : Nat → Nat), n < c + f → c ≤ P c → P c ≤ n → P 0 = 0 → GA t0 t → FS tS t → t.1 9 0 7 = nI n → t.2.1 11 0 0 = b → t.1 9 0 5 = nI c → t.1 9 0 8 = nI (P c) → NV t m → SX b n m (P c) → TT b n t P c m → (∀ j, j < c → ¬ fk (t.2.1 9 0 1 j)) → ∃ t2 P2 c2 m2, ul_X9_scan_44 U S N f (nI c) t = some ((), t2) ∧ GA t0 t2 ∧ FS tS t2 ∧ TB b n t2 P2 c2 m2 ∧ NV t2 m2 := by
  intro f
  induction f with
  | zero => intro c m t P h1 h2 h3; omega
  | succ f ih =>
    intro c m t P h1 h2 h3 hP0 hG hFS eL hb ec e8 hv hsx hT hfk
    obtain ⟨q, hq, hq2⟩ := rn_ex (fun i => blk_n (b := b) (n := n) (i := i)) n (P c) (by omega)
    have hqn : q ≤ n := by omega
    obtain ⟨st, hst⟩ : ∃ st, (q < n ∧ b q = 47 ∧ rn (lin b n) q st) ∨ (¬ (q < n ∧ b q = 47) ∧ st = q) := by
      by_cases c1 : q < n ∧ b q = 47
      · obtain ⟨st, k, -⟩ := rn_ex (fun i => lin_n (b := b) (n := n) (i := i)) n q (by omega)
        exact ⟨st, Or.inl ⟨c1.1, c1.2, k⟩⟩
      · exact ⟨q, Or.inr ⟨c1, rfl⟩⟩
    have hstn : st ≤ n := by
      rcases hst with ⟨-, -, k⟩ | ⟨-, rfl⟩
      · have := rn_le (fun i => lin_n (b := b) (n := n) (i := i)) k; omega
      · exact hqn
    have hqst : q ≤ st := by
      rcases hst with ⟨-, -, k⟩ | ⟨-, rfl⟩
      · exact k.1
      · exact Nat.le_refl _
    have h47 : ¬ (st < n ∧ b st = 47) := by
      rcases hst with ⟨-, -, k⟩ | ⟨k, rfl⟩
      · intro z
        exact k.2.2 ⟨z.1, by rw [z.2]; decide⟩
      · exact k
    have hpq := hq.1
    have hsx2 : 2 * (m - 53) ≤ st + 1 ∧ (nmc b n st → 2 * (m - 53) ≤ st) := by
      rcases hsx with k | ⟨k1, k2⟩
      · exact ⟨by omega, fun _ => by omega⟩
      · refine ⟨by omega, fun z => ?_⟩
        have : ¬ st = P c := fun e => k2 (by rw [← e]; exact z)
        omega
    have G1 := GA_98 hG (show q ≤ 2001 by omega)
    have G2 := GA_98 hG (show st ≤ 2001 by omega)
    show ∃ t2 P2 c2 m2, uh_X9_scan_44 U S N (ul_X9_scan_44 U S N f) (nI c) t = some ((), t2) ∧ _
    unfold uh_X9_scan_44 u_X9_scan_99
    rw [eL, if_neg (fun z => by have := (ltI (by omega) (by omega)).mp z; omega), e8, c_skip hN hG.1 eL hn hb (by omega) hq, Option.bind_some, Option.bind_some]
    show ∃ t2 P2 c2 m2, ((u_X9_skipRemark U S N (qI t 9 0 8 (nI q))).bind _) = some ((), t2) ∧ _
    rw [c_rem (t := qI t 9 0 8 (nI q)) hN G1 eL hn hb hqn rfl hst, Option.bind_some, qI_qI]
    obtain ⟨r, tr, er, Gr, -⟩ := s_scanToken (U := U) (S := S) hN G2
    obtain ⟨K, v, w, e, t2, m2, e1, e2, e3, e4, e5⟩ := ct_token (U := U) (S := S) (t := qI t 9 0 8 (nI st)) (m := m) (c := c) hN G2 eL hn hb hB ec (by omega) hv hsx2.1 hsx2.2 rfl hstn h47
    rw [er] at e1
    obtain ⟨rfl, rfl⟩ : r = K ∧ tr = apT t2 c K e v w := by
      have := Option.some.inj e1
      exact ⟨congrArg Prod.fst this, congrArg Prod.snd this⟩
    rw [er, Option.bind_some]
    have hTT : TT b n (apT t2 c r e v w) (up1 P (c + 1) e) (c + 1) m2 := by
      refine TT_a (t := qI t 9 0 8 (nI st)) (m := m) (st := st) ?_ e2 ⟨q, hq, hst⟩ hstn h3 rfl e4
      exact hT
    have f9 : t2.1 9 = (qI t 9 0 8 (nI st)).1 9 ∧ t2.2.1 9 = t.2.1 9 ∧ t2.2.1 11 = t.2.1 11 := by
      rcases e2 with ⟨rfl, -⟩ | ⟨a, rfl, -⟩
      · exact ⟨rfl, rfl, rfl⟩
      · exact ⟨rfl, rfl, rfl⟩
    have eL2 : (apT t2 c r e v w).1 9 0 7 = nI n := by
      show t2.1 9 0 7 = nI n
      rw [f9.1]
      exact eL
    have hb2 : (apT t2 c r e v w).2.1 11 0 0 = b := by
      show t2.2.1 11 0 0 = b
      rw [f9.2.2]
      exact hb
    have k1 : ∀ j, (apT t2 c r e v w).2.1 9 0 1 j = upd (t.2.1 9 0 1) c r j := fun j => by rw [← f9.2.1]; rfl
    have hF2 : FS tS (apT t2 c r e v w) := FS_n (t := qI t 9 0 8 (nI st)) (t2 := t2) hFS e2
    have hv2 : NV (apT t2 c r e v w) m2 := e3
    have fin : fk r → ∃ t3 P2 c2 m2, (some ((), apT t2 c r e v w) : Option (Unit × CS)) = some ((), t3) ∧ GA t0 t3 ∧ FS tS t3 ∧ TB b n t3 P2 c2 m2 ∧ NV t3 m2 := by
      intro hr
      refine ⟨_, up1 P (c + 1) e, c + 1, m2, rfl, Gr, hF2, ⟨eL2, hb2, rfl, by omega, by omega, by rw [up1_n _ _ (by omega)]; exact hP0, hTT, fun j hj => ?_, ?_⟩, hv2⟩
      · rw [k1, upd_n _ _ (by omega)]
        exact hfk j (by omega)
      · rw [k1, show c + 1 - 1 = c by omega, upd_y]
        exact hr
    show ∃ t3 P2 c2 m2, (if r = 0 then _ else _) = some ((), t3) ∧ _
    by_cases c0 : r = 0
    · rw [if_pos c0]; exact fin (Or.inl c0)
    · rw [if_neg c0]
      by_cases c6 : r = 6
      · rw [if_pos c6]; exact fin (Or.inr (Or.inr (Or.inl c6)))
      · rw [if_neg c6]
        by_cases c5 : r = 5
        · rw [if_pos c5]; exact fin (Or.inr (Or.inl c5))
        · rw [if_neg c5]
          by_cases c36 : r = 36
          · rw [if_neg (not_not_intro c36)]; exact fin (Or.inr (Or.inr (Or.inr c36)))
          · rw [if_pos c36, nI_1]
            have nfk : ¬ fk r := by
              rintro (k | k | k | k)
              · exact c0 k
              · exact c5 k
              · exact c6 k
              · exact c36 k
            obtain ⟨x1, x2, x3⟩ := e5 nfk
            refine ih (c + 1) m2 (apT t2 c r e v w) (up1 P (c + 1) e) (by omega) (by rw [up1_s]; omega) (by rw [up1_s]; omega) (by rw [up1_n _ _ (by omega)]; exact hP0) Gr hF2 eL2 hb2 rfl (by rw [up1_s]; rfl) hv2 (by rw [up1_s]; exact x3) hTT (fun j hj => ?_)
            rw [k1]
            by_cases q : j = c
            · rw [q, upd_y]; exact nfk
            · rw [upd_n _ _ q]; exact hfk j (by omega)
theorem fix_inj : ∀ i j, i < 53 → j < 53 → nm0.2.1 i = nm0.2.1 j → i = j := by
  rw [nm0_eq]
  have key : ∀ i, i < 53 → ∀ j, j < 53 → (nmS 222 0 0 (0, fun _ => 0, fun _ => 0, fun _ => 0)).2.1 i = (nmS 222 0 0 (0, fun _ => 0, fun _ => 0, fun _ => 0)).2.1 j → i = j := by decide +kernel
  exact fun i j hi hj => key i hi j hj
/-- the scan -/
theorem c_scan (hN : 5000 < N) (hA : AF t0 t) (h5 : ∃ i, i < 2 ∧ t.2.2.2.1 0 0 3 = some i ∧ t.2.2.2.1 0 0 2 = some (1 - i)) (h6 : ∀ j, W12 (t.2.1 4 0 1 j)) (hF : FX t) (hn : n ≤ 2000) (hb : t.2.1 11 0 0 = b) (hB : ∀ i, i < n → ∃ j, j < 256 ∧ b i = nI j) : ∃ t2 P c m, u_X9_scan U S N (nI n) t = some ((), t2) ∧ GA t0 t2 ∧ FS t t2 ∧ TB b n t2 P c m ∧ NV t2 m := by
  have el : mmax 0 (mmin (nI n) (mmin (nI 2000) 2000)) = nI n := by
    have e1 : mmin (nI 2000) 2000 = nI 2000 := rfl
    rw [e1]
    unfold mmin mmax
    by_cases c : nI 2000 < nI n
    · have := (ltI (by decide) (by omega)).mp c
      omega
    · rw [if_neg c]
      by_cases d : n = 0
      · subst d; rfl
      · first | rw [if_pos (show (0 : Int32) < nI n from (ltI (a := 0) (by decide) (by omega)).mpr (by omega))] | rw [if_neg (show ¬ nI n < (0 : Int32) from nI_nn (by omega))]
  unfold u_X9_scan u_X4_forget
  rw [el]
  simp only [Option.bind_some]
  refine ct_loop hN hn hB N 0 53 _ (fun _ => 0) (by omega) (Nat.le_refl _) (Nat.zero_le _) rfl ?_ ?_ rfl hb rfl rfl ?_ (Or.inl (by omega)) (fun j hj => absurd hj (Nat.not_lt_zero j)) (fun j hj => absurd hj (Nat.not_lt_zero j))
  · refine ⟨⟨⟨0, by decide, rfl, fun j hj => absurd hj (Nat.not_lt_zero j)⟩, ⟨53, by decide, rfl, Nat.le_refl _, hF⟩, ⟨n, hn, rfl⟩, rfl, h5, h6, 0, by decide, rfl⟩, ?_⟩
    exact AF_I (AF_I (AF_I (AF_I (AF_I (AF_R hA 0 6 _) (by decide) _) (by decide) _) (by decide) _) (by decide) _) (by decide) _
  · exact ⟨rfl, rfl, rfl⟩
  · refine ⟨rfl, Nat.le_refl _, by omega, fun i j hi hj he => ?_, hF, fun i h1 h2 => by omega, rfl⟩
    have he2 : t.2.2.1 i = t.2.2.1 j := he
    rw [(hF i hi).1, (hF j hj).1] at he2
    exact fix_inj i j hi hj he2
end
