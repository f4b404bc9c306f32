/-! LAYER 3, assemble: the whole of it, and what it leaves alone -/
section
variable {U S N n c m T i p a : Nat} {b : Nat → Int32} {P ν : Nat → Nat} {t t2 : CS} {s s2 : RS}
theorem HJ_fr {R R2 : Rf} {v w : Nat → Int32} {qs : List Nat} {B : Nat} {Q : Nat → Nat} {D : Nat} (e1 : ∀ k, 31 ≤ k → s2.1 k = s.1 k) (e2 : ∀ k, 27 ≤ k → s2.2.1 k = s.2.1 k) (e3 : s2.2.2 = s.2.2) (r10 : R2 10 = R 10) (r8 : R2 8 = R 8) (r2 : R2 2 = R 2) (r1 : R2 1 = R 1) (h : HJ U S R v w s qs T B Q D) : HJ U S R2 v w s2 qs T B Q D := by
  unfold HJ HW HT HB HX HS HQ HR HO at *
  simp only [e2 45 (by decide), e2 43 (by decide), e2 44 (by decide), e2 47 (by decide), e2 46 (by decide), e2 55 (by decide), e2 42 (by decide), e2 59 (by decide), e2 60 (by decide), e2 61 (by decide), e2 58 (by decide), e2 39 (by decide), e2 40 (by decide), e1 66 (by decide), e1 76 (by decide), e1 67 (by decide), e1 70 (by decide), e3, r10, r8, r2, r1]
  exact h
theorem IV_fr (h : IV U S t s T) (a1 : ∀ ci, ci ≠ 0 → ci ≠ 4 → ci ≠ 7 → ci ≠ 9 → ci ≠ 11 → t2.1 ci = t.1 ci) (a2 : ∀ ci, ci ≠ 4 → ci ≠ 7 → ci ≠ 9 → t2.2.1 ci = t.2.1 ci) (a3 : ∀ ci, ci ≠ 0 → ci ≠ 9 → t2.2.2.2.1 ci = t.2.2.2.1 ci) (a4 : t2.2.2.2.2 = t.2.2.2.2) (e1 : ∀ k, 31 ≤ k → s2.1 k = s.1 k) (e2 : ∀ k, 27 ≤ k → s2.2.1 k = s.2.1 k) (e3 : s2.2.2 = s.2.2) (f1 : t2.1 11 0 1 = 0) (f2 : s2.1 1 = 0) (g : SmM t2 s2) : IV U S t2 s2 T := by
  obtain ⟨qs, ⟨h1, h2, h3, h4, h5, h6, h7, h8, h9, -, -⟩, hQ, hH⟩ := h
  have hQ2 : isQ U t2 s2 qs := by
    obtain ⟨q1, q2, q3, q4⟩ := hQ
    refine ⟨q1, q2, by rw [e1 63 (by decide)]; exact q3, fun i j hij => ?_⟩
    rw [a4, e2 62 (by decide)]
    exact q4 i j hij
  refine ⟨qs, ⟨?_, ?_, ?_, ?_, ?_, ?_, ?_, ⟨qs, hQ2⟩, ?_, g, ⟨0, by decide, f2, fun i hi => by omega⟩⟩, hQ2, ?_⟩
  · intro p hp j
    have hk : 27 ≤ p.2 := (by decide : ∀ p ∈ mU, 27 ≤ p.2) p hp
    rw [a1 10 (by decide) (by decide) (by decide) (by decide) (by decide), e2 _ hk]
    exact h1 p hp j
  · intro p hp j
    have hk : 27 ≤ p.2 := (by decide : ∀ p ∈ mS, 27 ≤ p.2) p hp
    rw [a1 8 (by decide) (by decide) (by decide) (by decide) (by decide), e2 _ hk]
    exact h2 p hp j
  · intro p hp
    have hk : (p.1 ≠ 0 ∧ p.1 ≠ 4 ∧ p.1 ≠ 7 ∧ p.1 ≠ 9 ∧ p.1 ≠ 11 ∧ 31 ≤ p.2.2) ∨ p = (11, 1, 1) := (by decide : ∀ p ∈ mB, (p.1 ≠ 0 ∧ p.1 ≠ 4 ∧ p.1 ≠ 7 ∧ p.1 ≠ 9 ∧ p.1 ≠ 11 ∧ 31 ≤ p.2.2) ∨ p = (11, 1, 1)) p hp
    rcases hk with ⟨k1, k2, k3, k4, k5, k6⟩ | rfl
    · rw [a1 p.1 k1 k2 k3 k4 k5, e1 _ k6]
      exact h3 p hp
    · show t2.1 11 0 1 = s2.1 1
      rw [f1, f2]
  · intro p hp j i
    have hk : p.1 ≠ 4 ∧ p.1 ≠ 7 ∧ p.1 ≠ 9 := (by decide : ∀ p ∈ mC, p.1 ≠ 4 ∧ p.1 ≠ 7 ∧ p.1 ≠ 9) p hp
    rw [a2 p.1 hk.1 hk.2.1 hk.2.2, e3]
    exact h4 p hp j i
  · unfold SmR at *
    rw [a1 10 (by decide) (by decide) (by decide) (by decide) (by decide), a1 8 (by decide) (by decide) (by decide) (by decide) (by decide), a3 10 (by decide) (by decide), a3 8 (by decide) (by decide), a3 2 (by decide) (by decide), e1 31 (by decide), e1 32 (by decide), e1 64 (by decide), e2 41 (by decide), e2 38 (by decide)]
    exact h5
  · unfold SmL at *
    rw [a1 2 (by decide) (by decide) (by decide) (by decide) (by decide), a3 2 (by decide) (by decide), e1 65 (by decide)]
    exact h6
  · unfold SmK at *
    rw [a1 1 (by decide) (by decide) (by decide) (by decide) (by decide), a3 1 (by decide) (by decide), e1 67 (by decide), e1 68 (by decide), e1 69 (by decide), e1 70 (by decide)]
    exact h7
  · unfold SmG at *
    rw [a1 6 (by decide) (by decide) (by decide) (by decide) (by decide), a2 6 (by decide) (by decide) (by decide), e2 50 (by decide), e2 53 (by decide), e3]
    exact h9
  · have e17 : f17 t2 = f17 t := by unfold f17; rw [a1 10 (by decide) (by decide) (by decide) (by decide) (by decide)]
    have e18 : f18 t2 = f18 t := by unfold f18; rw [a1 10 (by decide) (by decide) (by decide) (by decide) (by decide)]
    unfold HI at *
    rw [e17, e18]
    exact HJ_fr e1 e2 e3 (a3 10 (by decide) (by decide)) (a3 8 (by decide) (by decide)) (a3 2 (by decide) (by decide)) (a3 1 (by decide) (by decide)) hH
theorem qI_o {t : CS} {ci a b c : Nat} {x : Int32} (h : ci ≠ a) : (qI t a b c x).1 ci = t.1 ci := by
  funext j k
  show up3 t.1 a b c x ci j k = _
  rw [up3_n _ _ (fun z => h z.1)]
theorem qF_o {t : CS} {ci a b c : Nat} {f : Nat → Int32} (h : ci ≠ a) : (qF t a b c f).2.1 ci = t.2.1 ci := by
  funext j k
  show up3 t.2.1 a b c f ci j k = _
  rw [up3_n _ _ (fun z => h z.1)]
theorem cn_m1 {X : Nat → Int32} : ∀ k, (∀ p, p < k → X p = -1) → cn X k = 0 := by
  intro k
  induction k with
  | zero => intro _; rfl
  | succ k ih =>
    intro h
    show cn X k + (if X k = -1 then 0 else 1) = 0
    rw [ih (fun p hp => h p (by omega)), if_pos (h k (by omega))]
/-- the tape is read -/
def cpr (s : RS) (n k : Nat) : RS := sA s 2 (fun i => if k ≤ i ∧ i < n then s.2.1 0 i else s.2.1 2 i)
theorem as15 (hn : n ≤ 2000) : ∀ (f k : Nat) (s : RS), s.1 3 = nI n → k ≤ n → n < k + f → l_assemble_15 U S N f (nI k) s = l_assemble_58 U S N N 0 (pI (pI (pI (cpr s n k) 5 0) 6 (-1)) 21 0) := by
  intro f
  induction f with
  | zero => intro k s _ h1 h2; omega
  | succ f ih =>
    intro k s h3 h1 h2
    show h_assemble_15 U S N (l_assemble_15 U S N f) (nI k) s = _
    unfold h_assemble_15
    rw [h3]
    by_cases hk : k = n
    · subst hk
      rw [if_pos ((leI (by omega) (by omega)).mpr (Nat.le_refl _)), Option.bind_some, Option.bind_some, Option.bind_some]
      have : cpr s k k = s := by
        unfold cpr sA
        refine Prod.ext rfl (Prod.ext ?_ rfl)
        dsimp only
        have e : (fun i => if k ≤ i ∧ i < k then s.2.1 0 i else s.2.1 2 i) = s.2.1 2 := by
          funext i
          rw [if_neg (fun z => by omega)]
        rw [e, up1_id]
      rw [this]
    · rw [if_neg (fun z => hk (by have := (leI (by omega) (by omega)).mp z; omega)), rA_y (by decide) (by omega), Option.bind_some, wA_y (by decide) (by omega), Option.bind_some, nI_1, ih (k + 1) (pA s 2 k (s.2.1 0 k)) h3 (by omega) (by omega)]
      congr 1
      have : cpr (pA s 2 k (s.2.1 0 k)) n (k + 1) = cpr s n k := by
        unfold cpr sA pA
        refine Prod.ext rfl (Prod.ext ?_ rfl)
        dsimp only
        rw [up1_up1]
        congr 1
        funext i
        have e0 : up1 s.2.1 2 (upd (s.2.1 2) k (s.2.1 0 k)) 0 = s.2.1 0 := up1_n _ _ (by decide)
        rw [up1_s, e0]
        by_cases h5 : k + 1 ≤ i ∧ i < n
        · rw [if_pos h5, if_pos ⟨by omega, h5.2⟩]
        · rw [if_neg h5]
          by_cases h6 : i = k
          · subst h6
            rw [upd_y, if_pos ⟨Nat.le_refl _, by omega⟩]
          · rw [upd_n _ _ h6, if_neg (fun z => h5 ⟨by omega, z.2⟩)]
      rw [this]
end
