/-! LAYER 3, the house: the channel looks for a task -/
def ff (p : Nat → Bool) : Nat → Nat → Option Nat
  | 0, _ => none
  | n + 1, i => if p i = true then some i else ff p n (i + 1)
theorem ff_some {p : Nat → Bool} : ∀ {n i k : Nat}, ff p n i = some k → i ≤ k ∧ k < i + n ∧ p k = true := by
  intro n
  induction n with
  | zero => intro i k h; cases h
  | succ n ih =>
    intro i k h
    unfold ff at h
    by_cases c : p i = true
    · rw [if_pos c] at h
      have e := Option.some.inj h
      subst e
      exact ⟨Nat.le_refl _, by omega, c⟩
    · rw [if_neg c] at h
      obtain ⟨a, b, d⟩ := ih h
      exact ⟨by omega, by omega, d⟩
theorem ff_none {p : Nat → Bool} : ∀ {n i : Nat}, ff p n i = none → ∀ k, i ≤ k → k < i + n → p k = false := by
  intro n
  induction n with
  | zero => intro i _ k h1 h2; omega
  | succ n ih =>
    intro i h k h1 h2
    unfold ff at h
    by_cases c : p i = true
    · rw [if_pos c] at h; cases h
    · rw [if_neg c] at h
      by_cases e : k = i
      · subst e; simpa using c
      · exact ih h k (by omega) (by omega)
theorem ff_ext {p q : Nat → Bool} : ∀ {n i : Nat}, (∀ k, i ≤ k → k < i + n → p k = q k) → ff p n i = ff q n i := by
  intro n
  induction n with
  | zero => intro i _; rfl
  | succ n ih =>
    intro i h
    unfold ff
    rw [h i (Nat.le_refl _) (by omega), ih (fun k h1 h2 => h k (by omega) (by omega))]
theorem ff_1 (p : Nat → Bool) {n i : Nat} (h : i < n) : ff p (n - i) i = if p i = true then some i else ff p (n - (i + 1)) (i + 1) := by
  rw [show n - i = (n - (i + 1)) + 1 by omega]
  rfl
theorem ff_0 (p : Nat → Bool) {n i : Nat} (h : n ≤ i) : ff p (n - i) i = none := by
  rw [show n - i = 0 by omega]
  rfl
theorem sub_1 (x : Int32) : x + (-1) = x - 1 := by
  rw [Int32.sub_eq_add_neg]
theorem rf_m (o : Option Nat) (h : o = none) : rf o = -1 := by rw [h]; rfl
section
variable {U S N : Nat} {t : CS} {s : RS} {qs : List Nat} {T B D : Nat} {P : Nat → Nat}
def stC (t : CS) (a : Int32) (o1 o2 : Option Nat) : CS := qI (qR (qR (qI t 1 0 0 a) 1 0 1 o1) 1 0 2 o2) 1 0 3 0
def stR (s : RS) (a x y : Int32) : RS := pI (pI (pI (pI s 67 a) 68 x) 69 y) 70 0
theorem st_cc (a : Int32) (o1 o2 : Option Nat) (t : CS) : u_X1_start U S N a o1 o2 t = some ((), stC t a o1 o2) := rfl
theorem st_rr (a x y : Int32) (s : RS) : g_starts U S N a x y s = some ((), stR s a x y) := rfl
theorem Sim_go (H : Sim U S t s) {a : Int32} {u k : Nat} (ha : a = 1 ∨ a = 2 ∨ a = 3 ∨ a = 4) (hu : u < U) (hk : k < S) : Sim U S (stC t a (some u) (some k)) (stR s a (nI u) (nI k)) := by
  obtain ⟨hA, hSs, hB, hC, hR, hL, hK, hQ, hG, hM, hT⟩ := H
  refine ⟨hA, hSs, ?_, hC, hR, hL, Or.inr ⟨ha, u, k, hu, hk, rfl, rfl, rfl, rfl, rfl⟩, hQ, hG, hM, hT⟩
  intro p hp
  simp only [mB, List.mem_cons, List.not_mem_nil, or_false] at hp
  rcases hp with rfl | rfl | rfl | rfl | rfl | rfl | rfl | rfl | rfl | rfl | rfl | rfl <;> first | exact hB _ (by decide) | rfl
theorem HJ_go {R : Rf} {v w : Nat → Int32} (h : HJ U S R v w s qs T B P D) {a : Int32} {u k : Nat} (hc : (a = 1 ∧ R 10 u 19 = some k ∧ R 2 0 8 ≠ some u ∧ s.2.1 42 u ≠ 5) ∨ (a = 2 ∧ R 10 u 19 = none ∧ R 8 k 2 = none) ∨ ((a = 3 ∨ a = 4) ∧ s.2.1 42 u = 5 ∧ R 10 u 19 = some k)) : HJ U S (up3 (up3 R 1 0 1 (some u)) 1 0 2 (some k)) v w (stR s a (nI u) (nI k)) qs T B P 0 := by
  obtain ⟨hW, hT, hB, hX, hS, hQ, hR, hO⟩ := h
  refine ⟨hW, hT, hB, hX, hS, hQ, hR, ?_⟩
  intro _ u2 k2 e1 e2
  have f1 : u = u2 := Option.some.inj (show some u = some u2 from e1)
  have f2 : k = k2 := Option.some.inj (show some k = some k2 from e2)
  subst f1
  subst f2
  rcases hc with ⟨c1, c2, c3, c4⟩ | ⟨c1, c2, c3⟩ | ⟨c1, c2, c3⟩
  · exact Or.inl ⟨c1, c2, c3, c4, 0, by decide, rfl⟩
  · exact Or.inr (Or.inl ⟨c1, c2, c3, 0, by decide, rfl⟩)
  · exact Or.inr (Or.inr ⟨c1, c2, c3, 0, by decide, rfl⟩)
def tbC (U S N : Nat) (o : Option Nat) (t : CS) : Option (Int32 × CS) := if o = none then u_X2_serveBlocks_62 U S N t else (o).bind fun j1 => (vl S (t.2.2.2.1 10 j1 19)).bind fun v3 => if ¬ v3 = none then (vl S (t.2.2.2.1 10 j1 19)).bind fun v6 => (u_X1_start U S N (t.1 10 j1 18) o v6 t).bind fun q7 => cZ 1 q7.2 else u_X2_serveBlocks_62 U S N t
def tbR (U S N : Nat) (a1 : Int32) (s : RS) : Option (Int32 × RS) := if a1 = (((-1)) : Int32) then g_blocksTask_80 U S N a1 s else (rA U s 61 a1).bind fun v3 => if v3 = 0 then g_blocksTask_70 U S N a1 3 s else g_blocksTask_70 U S N a1 4 s
theorem bt_l (hU : U < 7) (hBb : B < 2 ^ 31) (h : Inv U S t s qs T B P D) : ∀ (m i : Nat) (o : Option Nat), (∀ j, o = some j → j < U ∧ s.2.1 42 j = 5) → i ≤ U → U < i + m → ∃ o2, (∀ j, o2 = some j → j < U ∧ s.2.1 42 j = 5) ∧ ul_X2_serveBlocks_4 U S N m o (nI i) t = tbC U S N o2 t ∧ l_blocksTask_4 U S N m (rf o) (nI i) s = tbR U S N (rf o2) s := by
  obtain ⟨H, hQ, hJ⟩ := id h
  intro m
  induction m with
  | zero => intro i o _ h1 h2; omega
  | succ m ih =>
    intro i o ho h1 h2
    show ∃ o2, _ ∧ uh_X2_serveBlocks_4 U S N (ul_X2_serveBlocks_4 U S N m) o (nI i) t = _ ∧ h_blocksTask_4 U S N (l_blocksTask_4 U S N m) (rf o) (nI i) s = _
    unfold uh_X2_serveBlocks_4 h_blocksTask_4
    rw [H.2.2.2.2.1.1.1]
    by_cases hi : U ≤ i
    · rw [if_pos ((leI (by omega) (by omega)).mpr hi), if_pos ((leI (by omega) (by omega)).mpr hi)]
      exact ⟨o, ho, rfl, rfl⟩
    · have hiU : i < U := by omega
      rw [if_neg (fun z => hi ((leI (by omega) (by omega)).mp z)), if_neg (fun z => hi ((leI (by omega) (by omega)).mp z)), rQ_y (by omega) hiU, rA_y (by omega) hiU]
      simp only [Option.bind_some]
      unfold u_X2_serveBlocks_43 g_blocksTask_42
      unfold u_X2_serveBlocks_45 g_blocksTask_44
      rw [show t.1 10 i 8 = s.2.1 42 i from H.1 (8, 42) (by decide) i, nI_1]
      by_cases h5 : s.2.1 42 i = 5
      · rw [if_neg (not_not_intro h5), if_neg (not_not_intro h5)]
        cases o with
        | none =>
          simp only [show rf (none : Option Nat) = -1 from rfl, if_true]
          exact ih (i + 1) (some i) (fun j hj => by have := Option.some.inj hj; subst this; exact ⟨hiU, h5⟩) (by omega) (by omega)
        | some j =>
          obtain ⟨hj, hj5⟩ := ho j rfl
          simp only [reduceCtorEq, if_false, show ¬ rf (some j) = -1 from nI_ne (by omega), Option.bind_some]
          rw [rA_y (by omega) hiU, show rf (some j) = nI j from rfl, rA_y (by omega) hj]
          simp only [Option.bind_some]
          obtain ⟨W, fa, fb, x1, x2, x3, x4⟩ := hJ.2.2.2.1
          obtain ⟨y1, y2, y3, y4⟩ := x3 j hj hj5
          obtain ⟨z1, z2, z3, z4⟩ := x3 i hiU h5
          have y3' : t.1 10 j 17 = nI (fb j) := y3
          have z3' : t.1 10 i 17 = nI (fb i) := z3
          rw [y1, z1, y3', z3']
          by_cases c : fa j ≤ fa i
          · rw [if_pos ((leI (by omega) (by omega)).mpr ((x4 j i hj hiU hj5 h5).mp c)), if_pos ((leI (by omega) (by omega)).mpr c)]
            exact ih (i + 1) (some j) ho (by omega) (by omega)
          · rw [if_neg (fun z => c ((x4 j i hj hiU hj5 h5).mpr ((leI (by omega) (by omega)).mp z))), if_neg (fun z => c ((leI (by omega) (by omega)).mp z))]
            exact ih (i + 1) (some i) (fun l hl => by have := Option.some.inj hl; subst this; exact ⟨hiU, h5⟩) (by omega) (by omega)
      · rw [if_pos h5, if_pos h5]
        exact ih (i + 1) o ho (by omega) (by omega)
theorem al_bt (hU : U < 7) (hS5 : S < 5) (hBb : B < 2 ^ 31) (hN : 100 < N) (h : Inv U S t s qs T B P D) : ∃ x t2 s2, u_X2_serveBlocks U S N t = some (x, t2) ∧ g_blocksTask U S N s = some (x, s2) ∧ ((x = 0 ∧ t2 = t ∧ s2 = s) ∨ (x = 1 ∧ Inv U S t2 s2 qs T B P 0)) := by
  obtain ⟨H, hQ, hJ⟩ := id h
  obtain ⟨o, ho, e1, e2⟩ := bt_l (S := S) (N := N) hU hBb h N 0 none (fun j hj => by cases hj) (by omega) (by omega)
  unfold u_X2_serveBlocks g_blocksTask
  rw [show ul_X2_serveBlocks_4 U S N N none 0 t = tbC U S N o t from e1, show l_blocksTask_4 U S N N (-1) 0 s = tbR U S N (rf o) s from e2]
  unfold tbC tbR g_blocksTask_80 g_blocksTask_90 g_blocksTask_70 u_X2_serveBlocks_62
  cases o with
  | none => exact ⟨0, t, s, rfl, rfl, Or.inl ⟨rfl, rfl, rfl⟩⟩
  | some j =>
    obtain ⟨hj, h5⟩ := ho j rfl
    obtain ⟨b1, b2, b3, b4⟩ := hJ.2.2.1 j hj h5
    obtain ⟨k, hk⟩ : ∃ k, t.2.2.2.1 10 j 19 = some k := by
      cases e : t.2.2.2.1 10 j 19 with
      | none => exact absurd e b1
      | some k => exact ⟨k, rfl⟩
    have hkS : k < S := (H.2.2.2.2.1.2.1 j hj).2.2 k hk
    have h41 : s.2.1 41 j = nI k := by rw [(H.2.2.2.2.1.2.1 j hj).2.1, hk]; rfl
    simp only [rf, reduceCtorEq, if_false, show ¬ nI j = -1 from nI_ne (by omega), Option.bind_some]
    rw [hk, rA_y (by omega) hj, rA_y (by omega) hj, h41]
    simp only [vl_y hkS, Option.bind_some, reduceCtorEq, not_false_eq_true, if_true]
    unfold g_blocksTask_80 g_blocksTask_90
    rw [st_cc, st_rr, st_rr]
    simp only [Option.bind_some, show ¬ nI j = -1 from nI_ne (by omega), if_false]
    rcases b4 with ⟨c1, c2⟩ | ⟨c1, c2⟩
    · rw [c1, if_pos rfl, show t.1 10 j 18 = 3 from c2]
      exact ⟨1, _, _, rfl, rfl, Or.inr ⟨rfl, Sim_go H (Or.inr (Or.inr (Or.inl rfl))) hj hkS, hQ, HJ_go hJ (Or.inr (Or.inr ⟨Or.inl rfl, h5, hk⟩))⟩⟩
    · rw [c1, if_neg (by decide), show t.1 10 j 18 = 4 from c2]
      exact ⟨1, _, _, rfl, rfl, Or.inr ⟨rfl, Sim_go H (Or.inr (Or.inr (Or.inr rfl))) hj hkS, hQ, HJ_go hJ (Or.inr (Or.inr ⟨Or.inr rfl, h5, hk⟩))⟩⟩
/-- the first in the queue without a slot -/
def pq (R : Rf) (qs : List Nat) (i : Nat) : Bool := decide (R 10 (qs.getD i 0) 19 = none)
def fq (R : Rf) (qs : List Nat) (n i : Nat) : Option Nat := (ff (pq R qs) n i).map fun k => qs.getD k 0
theorem getD_q {qs : List Nat} {i : Nat} (h : i < qs.length) : qs[i]? = some (qs.getD i 0) := by
  rw [List.getD_eq_getElem?_getD, List.getElem?_eq_getElem h]
  rfl
theorem fw_c (hU : U < 7) (H : Sim U S t s) (hQ : isQ U t s qs) : ∀ (m i : Nat), i ≤ qs.length → qs.length < i + m → ul_X2_firstWithoutSlot_2 U S N m (nI i) t = some (fq t.2.2.2.1 qs (qs.length - i) i, t) := by
  have hn := nd_len U qs hQ.1 hQ.2.1
  have ht : t.1 5 0 1 = nI qs.length := by rw [H.2.2.1 (5, 1, 63) (by decide)]; exact hQ.2.2.1
  intro m
  induction m with
  | zero => intro i h1 h2; omega
  | succ m ih =>
    intro i h1 h2
    show uh_X2_firstWithoutSlot_2 U S N (ul_X2_firstWithoutSlot_2 U S N m) (nI i) t = _
    unfold uh_X2_firstWithoutSlot_2 u_X2_firstWithoutSlot_35
    rw [ht]
    by_cases hi : qs.length ≤ i
    · rw [if_pos ((leI (by omega) (by omega)).mpr hi)]
      unfold fq
      rw [ff_0 _ hi]
      rfl
    · have hlt : i < qs.length := by omega
      have hq := hQ.2.2.2 i _ (getD_q hlt)
      have hjU : qs.getD i 0 < U := hQ.2.1 _ (List.mem_of_getElem? (getD_q hlt))
      have hat : u_X5_at U S N (nI i) t = some (some (qs.getD i 0), t) := by
        unfold u_X5_at u_X5_at_22
        rw [if_neg (nI_nn (by omega)), ht, if_pos ((ltI (by omega) (by omega)).mpr hlt), rU_y (by omega) (by omega), hq.1]
        simp only [Option.bind_some, vl_y hjU]
      rw [if_neg (fun z => hi ((leI (by omega) (by omega)).mp z)), hat]
      simp only [Option.bind_some, vl_y hjU, reduceCtorEq, if_false]
      unfold fq
      rw [ff_1 _ hlt]
      unfold pq
      cases e : t.2.2.2.1 10 (qs.getD i 0) 19 with
      | none =>
        rw [if_pos (by simp [e])]
        simp only [vl_0, Option.bind_some, not_true_eq_false, if_false]
        rfl
      | some k =>
        have hk : k < S := (H.2.2.2.2.1.2.1 _ hjU).2.2 k e
        rw [if_neg (by simp [e])]
        simp only [vl_y hk, Option.bind_some, reduceCtorEq, not_false_eq_true, if_true]
        rw [nI_1]
        exact ih (i + 1) (by omega) (by omega)
def qtl (U S N : Nat) (a1 : Int32) (s : RS) : Option (Int32 × RS) := if ¬ a1 = (((-1)) : Int32) then l_queuesTask_57 U S N N a1 ((-1)) ((s.1 32) - 1) s else rZ 0 s
theorem fw_r (hU : U < 7) (hS5 : S < 5) (H : Sim U S t s) (hQ : isQ U t s qs) : ∀ (i m : Nat), i ≤ qs.length → i < m → l_queuesTask_9 U S N m (rf (fq t.2.2.2.1 qs (qs.length - i) i)) (nI i - 1) s = qtl U S N (rf (fq t.2.2.2.1 qs qs.length 0)) s := by
  have hn := nd_len U qs hQ.1 hQ.2.1
  intro i
  induction i with
  | zero =>
    intro m h1 h2
    obtain ⟨m, rfl⟩ : ∃ m', m = m' + 1 := ⟨m - 1, by omega⟩
    show h_queuesTask_9 U S N (l_queuesTask_9 U S N m) _ (nI 0 - 1) s = _
    unfold h_queuesTask_9
    rw [if_pos (by decide)]
    rfl
  | succ i ih =>
    intro m h1 h2
    obtain ⟨m, rfl⟩ : ∃ m', m = m' + 1 := ⟨m - 1, by omega⟩
    have hlt : i < qs.length := by omega
    have hq := hQ.2.2.2 i _ (getD_q hlt)
    have hjU : qs.getD i 0 < U := hQ.2.1 _ (List.mem_of_getElem? (getD_q hlt))
    show h_queuesTask_9 U S N (l_queuesTask_9 U S N m) _ (nI (i + 1) - 1) s = _
    rw [nI_pred]
    unfold h_queuesTask_9 g_queuesTask_35
    rw [if_neg (nI_nn (by omega)), rA_y (by decide) (by omega), hq.2]
    simp only [Option.bind_some]
    rw [rA_y (by omega) hjU, (H.2.2.2.2.1.2.1 _ hjU).2.1, sub_1]
    simp only [Option.bind_some]
    have key := ih m (by omega) (by omega)
    unfold fq at key
    rw [ff_1 _ hlt] at key
    cases e : t.2.2.2.1 10 (qs.getD i 0) 19 with
    | none =>
      rw [if_pos (show pq t.2.2.2.1 qs i = true from decide_eq_true e)] at key
      simp only [rf, not_true_eq_false, if_false]
      exact key
    | some k =>
      have hk : k < S := (H.2.2.2.2.1.2.1 _ hjU).2.2 k e
      rw [if_neg (show ¬ pq t.2.2.2.1 qs i = true from fun z => by have := of_decide_eq_true z; rw [e] at this; cases this)] at key
      simp only [show ¬ rf (some k) = -1 from nI_ne (by omega), not_false_eq_true, if_true]
      exact key
/-- the first free slot -/
def pf (R : Rf) (k : Nat) : Bool := decide (R 8 k 2 = none)
theorem fs_c (hU : U < 7) (hS5 : S < 5) (H : Sim U S t s) : ∀ (m i : Nat), i ≤ S → S < i + m → ul_X2_freeSlot_2 U S N m (nI i) t = some (ff (pf t.2.2.2.1) (S - i) i, t) := by
  intro m
  induction m with
  | zero => intro i h1 h2; omega
  | succ m ih =>
    intro i h1 h2
    show uh_X2_freeSlot_2 U S N (ul_X2_freeSlot_2 U S N m) (nI i) t = _
    unfold uh_X2_freeSlot_2
    by_cases hi : S ≤ i
    · rw [if_pos ((leI (by omega) (by omega)).mpr hi), ff_0 _ hi]
    · have hlt : i < S := by omega
      rw [if_neg (fun z => hi ((leI (by omega) (by omega)).mp z)), rQ_y (by omega) hlt, ff_1 _ hlt]
      simp only [Option.bind_some]
      unfold pf
      cases e : t.2.2.2.1 8 i 2 with
      | none =>
        rw [if_pos (by simp [e])]
        simp only [vl_0, Option.bind_some, not_true_eq_false, if_false]
      | some j =>
        have hj : j < U := (H.2.2.2.2.1.2.2.1 i hlt).2.2 j e
        rw [if_neg (by simp [e])]
        simp only [vl_y hj, Option.bind_some, reduceCtorEq, not_false_eq_true, if_true]
        rw [nI_1]
        exact ih (i + 1) (by omega) (by omega)
def ftl (U S N : Nat) (a1 a2 : Int32) (s : RS) : Option (Int32 × RS) := if ¬ a2 = (((-1)) : Int32) then g_queuesTask_89 U S N a1 a2 s else (g_given U S N s).bind fun q1 => g_queuesTask_89 U S N a1 q1.1 q1.2
theorem fs_r (hU : U < 7) (hS5 : S < 5) (H : Sim U S t s) (a1 : Int32) : ∀ (i m : Nat), i ≤ S → i < m → l_queuesTask_57 U S N m a1 (rf (ff (pf t.2.2.2.1) (S - i) i)) (nI i - 1) s = ftl U S N a1 (rf (ff (pf t.2.2.2.1) S 0)) s := by
  intro i
  induction i with
  | zero =>
    intro m h1 h2
    obtain ⟨m, rfl⟩ : ∃ m', m = m' + 1 := ⟨m - 1, by omega⟩
    show h_queuesTask_57 U S N (l_queuesTask_57 U S N m) a1 _ (nI 0 - 1) s = _
    unfold h_queuesTask_57
    rw [if_pos (by decide)]
    rfl
  | succ i ih =>
    intro m h1 h2
    obtain ⟨m, rfl⟩ : ∃ m', m = m' + 1 := ⟨m - 1, by omega⟩
    have hlt : i < S := by omega
    show h_queuesTask_57 U S N (l_queuesTask_57 U S N m) a1 _ (nI (i + 1) - 1) s = _
    rw [nI_pred]
    unfold h_queuesTask_57 g_queuesTask_73
    rw [if_neg (nI_nn (by omega)), rA_y (by omega) hlt, (H.2.2.2.2.1.2.2.1 i hlt).2.1, sub_1]
    simp only [Option.bind_some]
    have key := ih m (by omega) (by omega)
    rw [ff_1 _ hlt] at key
    unfold pf at key
    cases e : t.2.2.2.1 8 i 2 with
    | none =>
      rw [if_pos (by simp [e])] at key
      simp only [rf, not_true_eq_false, if_false]
      exact key
    | some k =>
      have hk : k < U := (H.2.2.2.2.1.2.2.1 i hlt).2.2 k e
      rw [if_neg (by simp [e])] at key
      simp only [show ¬ rf (some k) = -1 from nI_ne (by omega), not_false_eq_true, if_true]
      exact key
/-- the slot that is to be cleared -/
def ow (R : Rf) (k : Nat) : Nat := (R 8 k 2).getD 0
def pA1 (R : Rf) (s : RS) (k : Nat) : Bool := decide (s.2.1 42 (ow R k) ≠ 1 ∧ s.2.1 42 (ow R k) ≠ 5)
def pB1 (R : Rf) (s : RS) (k : Nat) : Bool := decide (s.2.1 42 (ow R k) ≠ 5 ∧ s.2.1 40 k ≠ 0 ∧ R 2 0 8 ≠ some (ow R k))
def pB2 (R : Rf) (s : RS) (k : Nat) : Bool := decide (s.2.1 42 (ow R k) = 1 ∧ s.2.1 40 k ≠ 0 ∧ R 2 0 8 ≠ some (ow R k))
def pick (S : Nat) (R : Rf) (s : RS) (i : Nat) (a : Option Nat) : Option Nat := match ff (pA1 R s) (S - i) i with
  | some k => some k
  | none => match a with
    | some x => some x
    | none => ff (pB2 R s) (S - i) i
theorem sc_c (hU : U < 7) (hS5 : S < 5) (H : Sim U S t s) (hf : ∀ k, k < S → t.2.2.2.1 8 k 2 = some (ow t.2.2.2.1 k) ∧ ow t.2.2.2.1 k < U) : ∀ (m i : Nat) (a : Option Nat), i ≤ S → S < i + m → ul_X2_slotToClear_4 U S N m a (nI i) t = some (pick S t.2.2.2.1 s i a, t) := by
  have hvl : vl U (t.2.2.2.1 2 0 8) = some (t.2.2.2.1 2 0 8) := by
    cases e : t.2.2.2.1 2 0 8 with
    | none => rfl
    | some j => exact vl_y (H.2.2.2.2.1.2.2.2.2 j e)
  intro m
  induction m with
  | zero => intro i a h1 h2; omega
  | succ m ih =>
    intro i a h1 h2
    show uh_X2_slotToClear_4 U S N (ul_X2_slotToClear_4 U S N m) a (nI i) t = _
    unfold uh_X2_slotToClear_4 u_X2_slotToClear_84
    by_cases hi : S ≤ i
    · rw [if_pos ((leI (by omega) (by omega)).mpr hi)]
      unfold pick
      rw [ff_0 _ hi, ff_0 _ hi]
      cases a <;> rfl
    · have hlt : i < S := by omega
      obtain ⟨f1, f2⟩ := hf i hlt
      rw [if_neg (fun z => hi ((leI (by omega) (by omega)).mp z)), rQ_y (by omega) hlt]
      simp only [Option.bind_some]
      rw [f1]
      simp only [vl_y f2, Option.bind_some, reduceCtorEq, if_false]
      rw [show t.1 10 (ow t.2.2.2.1 i) 8 = s.2.1 42 (ow t.2.2.2.1 i) from H.1 (8, 42) (by decide) _, show t.1 8 i 4 = s.2.1 40 i from H.2.1 (4, 40) (by decide) i, hvl, nI_1]
      simp only [Option.bind_some]
      have kA : pick S t.2.2.2.1 s i a = if pA1 t.2.2.2.1 s i = true then some i else (match ff (pA1 t.2.2.2.1 s) (S - (i + 1)) (i + 1) with
        | some k => some k
        | none => match a with
          | some x => some x
          | none => if pB2 t.2.2.2.1 s i = true then some i else ff (pB2 t.2.2.2.1 s) (S - (i + 1)) (i + 1)) := by
        unfold pick
        rw [ff_1 _ hlt, ff_1 (pB2 _ _) hlt]
        by_cases c : pA1 t.2.2.2.1 s i = true
        · rw [if_pos c, if_pos c]
        · rw [if_neg c, if_neg c]
      rw [kA]
      by_cases c5 : s.2.1 42 (ow t.2.2.2.1 i) = 5
      · rw [if_neg (not_not_intro c5), if_neg (by unfold pA1; simp [c5])]
        rw [ih (i + 1) a (by omega) (by omega)]
        unfold pick
        rw [show pB2 t.2.2.2.1 s i = false by unfold pB2; simp [c5]]
        cases ff (pA1 t.2.2.2.1 s) (S - (i + 1)) (i + 1) with
        | some k => rfl
        | none => cases a <;> rfl
      · rw [if_pos c5]
        by_cases c1 : s.2.1 42 (ow t.2.2.2.1 i) = 1
        · have hA1 : ¬ pA1 t.2.2.2.1 s i = true := by unfold pA1; simp [c1]
          rw [if_pos c1, if_neg hA1]
          cases a with
          | some x =>
            simp only [reduceCtorEq, not_false_eq_true, if_true]
            rw [ih (i + 1) (some x) (by omega) (by omega)]
            rfl
          | none =>
            simp only [not_true_eq_false, if_false]
            by_cases c40 : s.2.1 40 i = 0
            · rw [if_pos c40, ih (i + 1) none (by omega) (by omega)]
              unfold pick
              rw [show pB2 t.2.2.2.1 s i = false by unfold pB2; simp [c40]]
              cases ff (pA1 t.2.2.2.1 s) (S - (i + 1)) (i + 1) with
              | some k => rfl
              | none => rfl
            · rw [if_neg c40]
              by_cases cr : t.2.2.2.1 2 0 8 = some (ow t.2.2.2.1 i)
              · rw [if_pos cr.symm, ih (i + 1) none (by omega) (by omega)]
                unfold pick
                rw [show pB2 t.2.2.2.1 s i = false by unfold pB2; simp [cr]]
                cases ff (pA1 t.2.2.2.1 s) (S - (i + 1)) (i + 1) with
                | some k => rfl
                | none => rfl
              · rw [if_neg (fun z => cr z.symm), ih (i + 1) (some i) (by omega) (by omega)]
                unfold pick
                rw [show pB2 t.2.2.2.1 s i = true by unfold pB2; simp [c1, c40, cr]]
                cases ff (pA1 t.2.2.2.1 s) (S - (i + 1)) (i + 1) with
                | some k => rfl
                | none => rfl
        · rw [if_neg c1, if_pos (by unfold pA1; simp [c1, c5])]
theorem gv_2 (hU : U < 7) (hS5 : S < 5) (H : Sim U S t s) (hf : ∀ k, k < S → t.2.2.2.1 8 k 2 = some (ow t.2.2.2.1 k) ∧ ow t.2.2.2.1 k < U) : ∀ (m i : Nat), i ≤ S → S < i + m → l_given_50 U S N m (nI i) s = some (rf (ff (pB1 t.2.2.2.1 s) (S - i) i), s) := by
  intro m
  induction m with
  | zero => intro i h1 h2; omega
  | succ m ih =>
    intro i h1 h2
    show h_given_50 U S N (l_given_50 U S N m) (nI i) s = _
    unfold h_given_50 g_given_97
    rw [H.2.2.2.2.1.1.2]
    by_cases hi : S ≤ i
    · rw [if_pos ((leI (by omega) (by omega)).mpr hi), ff_0 _ hi]
      rfl
    · have hlt : i < S := by omega
      obtain ⟨f1, f2⟩ := hf i hlt
      have h38 : s.2.1 38 i = nI (ow t.2.2.2.1 i) := by rw [(H.2.2.2.2.1.2.2.1 i hlt).2.1, f1]; rfl
      rw [if_neg (fun z => hi ((leI (by omega) (by omega)).mp z)), rA_y (by omega) hlt, h38]
      simp only [Option.bind_some]
      rw [rA_y (by omega) f2, rA_y (by omega) hlt, ff_1 _ hlt, H.2.2.2.2.1.2.2.2.1, nI_1]
      simp only [Option.bind_some]
      have hrf : (nI (ow t.2.2.2.1 i) = rf (t.2.2.2.1 2 0 8)) ↔ t.2.2.2.1 2 0 8 = some (ow t.2.2.2.1 i) := by
        cases e : t.2.2.2.1 2 0 8 with
        | none => exact ⟨fun z => absurd z (nI_ne (by omega)), fun z => by cases z⟩
        | some j =>
          have hj := H.2.2.2.2.1.2.2.2.2 j e
          exact ⟨fun z => by rw [(eqI (by omega) (by omega)).mp z], fun z => by rw [Option.some.inj z]; rfl⟩
      by_cases c5 : s.2.1 42 (ow t.2.2.2.1 i) = 5
      · rw [if_pos c5, if_neg (by unfold pB1; simp [c5])]
        exact ih (i + 1) (by omega) (by omega)
      · rw [if_neg c5]
        by_cases c40 : s.2.1 40 i = 0
        · rw [if_pos c40, if_neg (by unfold pB1; simp [c40])]
          exact ih (i + 1) (by omega) (by omega)
        · rw [if_neg c40]
          by_cases cr : t.2.2.2.1 2 0 8 = some (ow t.2.2.2.1 i)
          · rw [if_pos (hrf.mpr cr), if_neg (by unfold pB1; simp [cr])]
            exact ih (i + 1) (by omega) (by omega)
          · rw [if_neg (fun z => cr (hrf.mp z)), if_pos (by unfold pB1; simp [c5, c40, cr])]
            rfl
theorem gv_1 (hU : U < 7) (hS5 : S < 5) (hN : 100 < N) (H : Sim U S t s) (hf : ∀ k, k < S → t.2.2.2.1 8 k 2 = some (ow t.2.2.2.1 k) ∧ ow t.2.2.2.1 k < U) : ∀ (m i : Nat), i ≤ S → S < i + m → l_given_2 U S N m (nI i) s = (match ff (pA1 t.2.2.2.1 s) (S - i) i with
    | some k => some (nI k, s)
    | none => some (rf (ff (pB1 t.2.2.2.1 s) S 0), s)) := by
  intro m
  induction m with
  | zero => intro i h1 h2; omega
  | succ m ih =>
    intro i h1 h2
    show h_given_2 U S N (l_given_2 U S N m) (nI i) s = _
    unfold h_given_2 g_given_42
    rw [H.2.2.2.2.1.1.2]
    by_cases hi : S ≤ i
    · rw [if_pos ((leI (by omega) (by omega)).mpr hi), ff_0 _ hi]
      exact gv_2 hU hS5 H hf N 0 (by omega) (by omega)
    · have hlt : i < S := by omega
      obtain ⟨f1, f2⟩ := hf i hlt
      have h38 : s.2.1 38 i = nI (ow t.2.2.2.1 i) := by rw [(H.2.2.2.2.1.2.2.1 i hlt).2.1, f1]; rfl
      rw [if_neg (fun z => hi ((leI (by omega) (by omega)).mp z)), rA_y (by omega) hlt, h38]
      simp only [Option.bind_some]
      rw [rA_y (by omega) f2, ff_1 _ hlt, nI_1]
      simp only [Option.bind_some]
      by_cases c1 : s.2.1 42 (ow t.2.2.2.1 i) = 1
      · rw [if_pos c1, if_neg (by unfold pA1; simp [c1])]
        exact ih (i + 1) (by omega) (by omega)
      · rw [if_neg c1]
        by_cases c5 : s.2.1 42 (ow t.2.2.2.1 i) = 5
        · rw [if_pos c5, if_neg (by unfold pA1; simp [c5])]
          exact ih (i + 1) (by omega) (by omega)
        · rw [if_neg c5, if_pos (by unfold pA1; simp [c1, c5])]
theorem gv (hU : U < 7) (hS5 : S < 5) (hN : 100 < N) (H : Sim U S t s) (hf : ∀ k, k < S → t.2.2.2.1 8 k 2 = some (ow t.2.2.2.1 k) ∧ ow t.2.2.2.1 k < U) : g_given U S N s = some (rf (pick S t.2.2.2.1 s 0 none), s) := by
  unfold g_given
  rw [show l_given_2 U S N N 0 s = _ from gv_1 hU hS5 hN H hf N 0 (by omega) (by omega)]
  unfold pick
  rw [Nat.sub_zero]
  cases e : ff (pA1 t.2.2.2.1 s) S 0 with
  | some k => rfl
  | none =>
    have hno := ff_none e
    show some (rf (ff (pB1 t.2.2.2.1 s) S 0), s) = some (rf (ff (pB2 t.2.2.2.1 s) S 0), s)
    rw [ff_ext (p := pB1 t.2.2.2.1 s) (q := pB2 t.2.2.2.1 s)]
    intro k h1 h2
    have hk := hno k h1 h2
    unfold pA1 at hk
    unfold pB1 pB2
    have hk2 := of_decide_eq_false hk
    by_cases c1 : s.2.1 42 (ow t.2.2.2.1 k) = 1
    · simp [c1]
    · by_cases c5 : s.2.1 42 (ow t.2.2.2.1 k) = 5
      · simp [c5]
      · exact absurd ⟨c1, c5⟩ hk2
end
