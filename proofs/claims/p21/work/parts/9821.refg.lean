/-! LAYER 2, the reference's methods over its typed state: g_ (by program, out of f_), and e_: f_ over the memory is g_ over the state -/
def em (μ : Mem) (r U S : Nat) {α : Type} (q : α × RS) : α × Mem := (q.1, EM μ r (pcs U S) q.2)
theorem pcs_nd (U S : Nat) : ((pcs U S).map (·.1)).Nodup := by show List.Nodup [0, 2, 17, 18, 19, 20, 22, 23, 24, 25, 26, 62, 35, 36, 37, 38, 39, 40, 41, 42, 43, 44, 45, 46, 47, 48, 49, 50, 51, 52, 53, 54, 55, 56, 57, 58, 59, 60, 61]; decide
theorem lk_0 (U S : Nat) : lk (pcs U S) 0 = some (0, 2000, none) := rfl
theorem lk_2 (U S : Nat) : lk (pcs U S) 2 = some (0, 2000, none) := rfl
theorem lk_17 (U S : Nat) : lk (pcs U S) 17 = some (0, 1400, none) := rfl
theorem lk_18 (U S : Nat) : lk (pcs U S) 18 = some (0, 200, none) := rfl
theorem lk_19 (U S : Nat) : lk (pcs U S) 19 = some (0, 200, none) := rfl
theorem lk_20 (U S : Nat) : lk (pcs U S) 20 = some (2, 200, none) := rfl
theorem lk_22 (U S : Nat) : lk (pcs U S) 22 = some (0, 4096, none) := rfl
theorem lk_23 (U S : Nat) : lk (pcs U S) 23 = some (2, 4096, none) := rfl
theorem lk_24 (U S : Nat) : lk (pcs U S) 24 = some (2, 4096, none) := rfl
theorem lk_25 (U S : Nat) : lk (pcs U S) 25 = some (0, 4096, none) := rfl
theorem lk_26 (U S : Nat) : lk (pcs U S) 26 = some (0, 32, none) := rfl
theorem lk_35 (U S : Nat) : lk (pcs U S) 35 = some (3, S, some 4096) := rfl
theorem lk_36 (U S : Nat) : lk (pcs U S) 36 = some (3, U, some 4096) := rfl
theorem lk_37 (U S : Nat) : lk (pcs U S) 37 = some (3, U, some 1024) := rfl
theorem lk_38 (U S : Nat) : lk (pcs U S) 38 = some (0, S, none) := rfl
theorem lk_39 (U S : Nat) : lk (pcs U S) 39 = some (2, S, none) := rfl
theorem lk_40 (U S : Nat) : lk (pcs U S) 40 = some (2, S, none) := rfl
theorem lk_41 (U S : Nat) : lk (pcs U S) 41 = some (0, U, none) := rfl
theorem lk_42 (U S : Nat) : lk (pcs U S) 42 = some (0, U, none) := rfl
theorem lk_43 (U S : Nat) : lk (pcs U S) 43 = some (0, U, none) := rfl
theorem lk_44 (U S : Nat) : lk (pcs U S) 44 = some (0, U, none) := rfl
theorem lk_45 (U S : Nat) : lk (pcs U S) 45 = some (0, U, none) := rfl
theorem lk_46 (U S : Nat) : lk (pcs U S) 46 = some (0, U, none) := rfl
theorem lk_47 (U S : Nat) : lk (pcs U S) 47 = some (0, U, none) := rfl
theorem lk_48 (U S : Nat) : lk (pcs U S) 48 = some (0, U, none) := rfl
theorem lk_49 (U S : Nat) : lk (pcs U S) 49 = some (3, U, some 16) := rfl
theorem lk_50 (U S : Nat) : lk (pcs U S) 50 = some (0, U, none) := rfl
theorem lk_51 (U S : Nat) : lk (pcs U S) 51 = some (0, U, none) := rfl
theorem lk_52 (U S : Nat) : lk (pcs U S) 52 = some (3, U, some 16) := rfl
theorem lk_53 (U S : Nat) : lk (pcs U S) 53 = some (0, U, none) := rfl
theorem lk_54 (U S : Nat) : lk (pcs U S) 54 = some (3, U, some 500) := rfl
theorem lk_55 (U S : Nat) : lk (pcs U S) 55 = some (0, U, none) := rfl
theorem lk_56 (U S : Nat) : lk (pcs U S) 56 = some (0, U, none) := rfl
theorem lk_57 (U S : Nat) : lk (pcs U S) 57 = some (0, U, none) := rfl
theorem lk_58 (U S : Nat) : lk (pcs U S) 58 = some (0, U, none) := rfl
theorem lk_59 (U S : Nat) : lk (pcs U S) 59 = some (0, U, none) := rfl
theorem lk_60 (U S : Nat) : lk (pcs U S) 60 = some (0, U, none) := rfl
theorem lk_61 (U S : Nat) : lk (pcs U S) 61 = some (2, U, none) := rfl
theorem lk_62 (U S : Nat) : lk (pcs U S) 62 = some (0, 8, none) := rfl
section
variable {μ0 : Mem} {r U S : Nat} {T : Type}
theorem st_b {α : Type} (x : Option α) {F : α → Option (T × Mem)} {G : α → Option (T × RS)} (h : ∀ v, F v = (G v).map (em μ0 r U S)) : x.bind F = (x.bind G).map (em μ0 r U S) := by
  cases x with
  | none => rfl
  | some v => exact h v
theorem st_ck (hr : r < μ0.1) (s : RS) {F : Nat → Option (T × Mem)} {G : Option (T × RS)} (h : F r = G.map (em μ0 r U S)) : (mck (EM μ0 r (pcs U S) s) (some r) 12).bind F = G.map (em μ0 r U S) := by
  rw [e_ck hr]; exact h
theorem st_fI (hr : r < μ0.1) (s : RS) {k : Nat} (hk : k < 79) (hi : isI k = true) {F : Int32 → Option (T × Mem)} {G : Option (T × RS)} (h : F (s.1 k) = G.map (em μ0 r U S)) : (mfI (EM μ0 r (pcs U S) s) (some r) 12 k).bind F = G.map (em μ0 r U S) := by
  rw [e_fI hr s hk hi]; exact h
theorem st_fR (hr : r < μ0.1) (s : RS) {k : Nat} (hk : k < 79) (hi : isI k = false) {F : Option Nat → Option (T × Mem)} {G : Option (T × RS)} (h : F (fnd (pcs U S) μ0.1 k) = G.map (em μ0 r U S)) : (mfR (EM μ0 r (pcs U S) s) (some r) 12 k).bind F = G.map (em μ0 r U S) := by
  rw [e_fR hr s hk hi]; exact h
theorem st_pI (hr : r < μ0.1) (s : RS) {k : Nat} (hk : k < 79) (hi : isI k = true) (x : Int32) {F : Mem → Option (T × Mem)} {G : RS → Option (T × RS)} (h : F (EM μ0 r (pcs U S) (pI s k x)) = (G (pI s k x)).map (em μ0 r U S)) : (mpI (EM μ0 r (pcs U S) s) (some r) 12 k x).bind F = ((some (pI s k x)).bind G).map (em μ0 r U S) := by
  rw [e_pI hr s hk hi]; exact h
theorem st_m {o : Option RS} {F : Mem → Option (T × Mem)} {G : RS → Option (T × RS)} (h : ∀ s, F (EM μ0 r (pcs U S) s) = (G s).map (em μ0 r U S)) : (o.map (EM μ0 r (pcs U S))).bind F = (o.bind G).map (em μ0 r U S) := by
  cases o with
  | none => rfl
  | some s => exact h s
theorem st_pZ (hr : r < μ0.1) (s : RS) {k : Nat} (hk : k < 79) (hi : isI k = true) (x : Int32) {F : Mem → Option (T × Mem)} {G : RS → Option (T × RS)} (h : ∀ s, F (EM μ0 r (pcs U S) s) = (G s).map (em μ0 r U S)) : (mpZ (EM μ0 r (pcs U S) s) (some r) 12 k x).bind F = ((pZ s k x).bind G).map (em μ0 r U S) := by
  rw [e_pZ hr s hk hi]; exact st_m h
theorem st_aI (hr : r < μ0.1) (s : RS) {k t n : Nat} (hl : lk (pcs U S) k = some (t, n, none)) (i : Int32) {F : Int32 → Option (T × Mem)} {G : Int32 → Option (T × RS)} (h : ∀ v, F v = (G v).map (em μ0 r U S)) : (maI (EM μ0 r (pcs U S) s) t (fnd (pcs U S) μ0.1 k) i).bind F = ((rA n s k i).bind G).map (em μ0 r U S) := by
  rw [e_aI hr s hl]; exact st_b _ h
theorem st_bI (hr : r < μ0.1) (s : RS) {k t n : Nat} (hl : lk (pcs U S) k = some (t, n, none)) (i x : Int32) {F : Mem → Option (T × Mem)} {G : RS → Option (T × RS)} (h : ∀ s, F (EM μ0 r (pcs U S) s) = (G s).map (em μ0 r U S)) : (mbI (EM μ0 r (pcs U S) s) t (fnd (pcs U S) μ0.1 k) i x).bind F = ((wA n s k i x).bind G).map (em μ0 r U S) := by
  rw [e_bI hr (pcs_nd U S) s hl]; exact st_m h
theorem st_bZ (hr : r < μ0.1) (s : RS) {k t n : Nat} (hl : lk (pcs U S) k = some (t, n, none)) (i x : Int32) {F : Mem → Option (T × Mem)} {G : RS → Option (T × RS)} (h : ∀ s, F (EM μ0 r (pcs U S) s) = (G s).map (em μ0 r U S)) : (mbZ (EM μ0 r (pcs U S) s) t (fnd (pcs U S) μ0.1 k) i x).bind F = ((wZ n s k i x).bind G).map (em μ0 r U S) := by
  rw [e_bZ hr (pcs_nd U S) s hl]; exact st_m h
theorem st_aR (hr : r < μ0.1) (s : RS) {k n m : Nat} (hl : lk (pcs U S) k = some (3, n, some m)) (i : Int32) {F : Option Nat → Option (T × Mem)} {G : Nat → Option (T × RS)} (h : ∀ j, j < n → F (rloc (pcs U S) μ0.1 k j) = (G j).map (em μ0 r U S)) : (maR (EM μ0 r (pcs U S) s) 3 (fnd (pcs U S) μ0.1 k) i).bind F = ((rQ n i).bind G).map (em μ0 r U S) := by
  rw [e_aR hr s hl]
  unfold rQ
  by_cases hi : i < 0 ∨ n ≤ i.toNatClampNeg
  · rw [if_pos hi]; rfl
  · rw [if_neg hi]; exact h _ (by omega)
theorem st_gI (hr : r < μ0.1) (s : RS) {k n m j : Nat} (hl : lk (pcs U S) k = some (3, n, some m)) (hj : j < n) (i : Int32) {F : Int32 → Option (T × Mem)} {G : Int32 → Option (T × RS)} (h : ∀ v, F v = (G v).map (em μ0 r U S)) : (maI (EM μ0 r (pcs U S) s) 0 (rloc (pcs U S) μ0.1 k j) i).bind F = ((rG m s k j i).bind G).map (em μ0 r U S) := by
  rw [e_gI hr s hl hj]; exact st_b _ h
theorem st_hI (hr : r < μ0.1) (s : RS) {k n m j : Nat} (hl : lk (pcs U S) k = some (3, n, some m)) (hj : j < n) (i x : Int32) {F : Mem → Option (T × Mem)} {G : RS → Option (T × RS)} (h : ∀ s, F (EM μ0 r (pcs U S) s) = (G s).map (em μ0 r U S)) : (mbI (EM μ0 r (pcs U S) s) 0 (rloc (pcs U S) μ0.1 k j) i x).bind F = ((wG m s k j i x).bind G).map (em μ0 r U S) := by
  rw [e_hI hr (pcs_nd U S) s hl hj]; exact st_m h
theorem st_call {α : Type} {f : Option (α × Mem)} {g : Option (α × RS)} (e : f = g.map (em μ0 r U S)) {F : α × Mem → Option (T × Mem)} {G : α × RS → Option (T × RS)} (h : ∀ q, F (q.1, EM μ0 r (pcs U S) q.2) = (G q).map (em μ0 r U S)) : f.bind F = (g.bind G).map (em μ0 r U S) := by
  rw [e]
  cases g with
  | none => rfl
  | some q => exact h q
theorem st_if {c : Prop} [Decidable c] {A B : Option (T × Mem)} {A' B' : Option (T × RS)} (h1 : c → A = A'.map (em μ0 r U S)) (h2 : ¬ c → B = B'.map (em μ0 r U S)) : (if c then A else B) = (if c then A' else B').map (em μ0 r U S) := by
  by_cases h : c
  · rw [if_pos h, if_pos h]; exact h1 h
  · rw [if_neg h, if_neg h]; exact h2 h
theorem st_rZ (x : Int32) (s : RS) : retZ x (EM μ0 r (pcs U S) s) = (rZ x s).map (em μ0 r U S) := by
  unfold retZ rZ
  by_cases h : x = 0 ∨ x = 1
  · rw [if_pos h, if_pos h]; rfl
  · rw [if_neg h, if_neg h]; rfl
end
def g_near_19 (U S N : Nat) (s0 : Int32) (μ : RS) : Option (Int32 × RS) :=
  some (s0, μ)
theorem e_g_near_19 {μ0 : Mem} {r U S : Nat} (hr : r < μ0.1) {N : Nat} (s0 : Int32) (s : RS) : f_X12_near_19 N s0 (EM μ0 r (pcs U S) s) = (g_near_19 U S N s0 s).map (em μ0 r U S) := by
  unfold f_X12_near_19 g_near_19
  exact rfl
def g_near (U S N : Nat) (a0 : Int32) (a1 : Int32) (a2 : Int32) (μ : RS) : Option (Int32 × RS) :=
  if a1 ≤ a0 then
    if a0 ≤ a2 then
      g_near_19 U S N a0 μ
    else
      g_near_19 U S N a2 μ
  else
    g_near_19 U S N a1 μ
theorem e_g_near {μ0 : Mem} {r U S : Nat} (hr : r < μ0.1) {N : Nat} (a0 : Int32) (a1 : Int32) (a2 : Int32) (s : RS) : f_X12_near N a0 a1 a2 (EM μ0 r (pcs U S) s) = (g_near U S N a0 a1 a2 s).map (em μ0 r U S) := by
  unfold f_X12_near g_near
  refine st_if (fun _ => ?_) (fun _ => ?_)
  · refine st_if (fun _ => ?_) (fun _ => ?_)
    · exact e_g_near_19 hr _ _
    · exact e_g_near_19 hr _ _
  · exact e_g_near_19 hr _ _
def h_put_3 (U S N : Nat) (k3 : Int32 → Int32 → RS → Option (Unit × RS)) (a1 : Int32) (a2 : Int32) (μ : RS) : Option (Unit × RS) :=
  if a2 < 0 then
    some ((), μ)
  else
    (wA 2000 μ 0 (μ.1 1) ((a1 >>> (a2 &&& 31)) &&& 255)).bind fun μ3 =>
    (some (pI μ3 1 ((μ3.1 1) + 1))).bind fun μ5 =>
    k3 a1 (a2 + (-8)) μ5
theorem e_h_put_3 {μ0 : Mem} {r U S : Nat} (hr : r < μ0.1) {N : Nat} {k3 : (Option Nat) → Int32 → Int32 → Mem → Option (Unit × Mem)} {k3' : Int32 → Int32 → RS → Option (Unit × RS)} (hk3 : ∀ (x1 : Int32) (x2 : Int32) (s : RS), k3 (some r) x1 x2 (EM μ0 r (pcs U S) s) = (k3' x1 x2 s).map (em μ0 r U S)) (a1 : Int32) (a2 : Int32) (s : RS) : H_X12_put_3 N k3 (some r) a1 a2 (EM μ0 r (pcs U S) s) = (h_put_3 U S N k3' a1 a2 s).map (em μ0 r U S) := by
  unfold H_X12_put_3 h_put_3
  refine st_if (fun _ => ?_) (fun _ => ?_)
  · exact rfl
  · refine st_fR hr _ (by decide) rfl ?_
    refine st_fI hr _ (by decide) rfl ?_
    refine st_bI hr _ (lk_0 U S) _ _ fun μ3 => ?_
    refine st_fI hr _ (by decide) rfl ?_
    refine st_pI hr _ (by decide) rfl _ ?_
    exact hk3 _ _ _
def l_put_3 (U S N : Nat)  : Nat → Int32 → Int32 → RS → Option (Unit × RS)
  | 0 => fun _ _ _ => none
  | n + 1 => h_put_3 U S N (l_put_3 U S N n)
theorem e_l_put_3 {μ0 : Mem} {r U S : Nat} (hr : r < μ0.1) {N : Nat} : ∀ (n : Nat) (x1 : Int32) (x2 : Int32) (s : RS), L_X12_put_3 N n (some r) x1 x2 (EM μ0 r (pcs U S) s) = (l_put_3 U S N n x1 x2 s).map (em μ0 r U S) := by
  intro n
  induction n with
  | zero => intros; exact rfl
  | succ n ih => intros; exact e_h_put_3 hr ih _ _ _
def g_put (U S N : Nat) (a1 : Int32) (μ : RS) : Option (Unit × RS) :=
  l_put_3 U S N N a1 24 μ
theorem e_g_put {μ0 : Mem} {r U S : Nat} (hr : r < μ0.1) {N : Nat} (a1 : Int32) (s : RS) : f_X12_put N (some r) a1 (EM μ0 r (pcs U S) s) = (g_put U S N a1 s).map (em μ0 r U S) := by
  unfold f_X12_put g_put
  exact e_l_put_3 hr N _ _ _
def g_feed (U S N : Nat) (a1 : Int32) (a2 : Int32) (a3 : Int32) (a4 : Int32) (a5 : Int32) (μ : RS) : Option (Int32 × RS) :=
  if ((μ.1 1) + 20) ≤ (2000 : Int32) then
    (g_put U S N a1 μ).bind fun q2 =>
    (g_put U S N a2 q2.2).bind fun q4 =>
    (g_put U S N a3 q4.2).bind fun q6 =>
    (g_put U S N a4 q6.2).bind fun q8 =>
    (g_put U S N a5 q8.2).bind fun q10 =>
    some ((q10.2.1 1), q10.2)
  else
    some ((-1), μ)
theorem e_g_feed {μ0 : Mem} {r U S : Nat} (hr : r < μ0.1) {N : Nat} (a1 : Int32) (a2 : Int32) (a3 : Int32) (a4 : Int32) (a5 : Int32) (s : RS) : f_X12_feed N (some r) a1 a2 a3 a4 a5 (EM μ0 r (pcs U S) s) = (g_feed U S N a1 a2 a3 a4 a5 s).map (em μ0 r U S) := by
  unfold f_X12_feed g_feed
  refine st_fI hr _ (by decide) rfl ?_
  refine st_if (fun _ => ?_) (fun _ => ?_)
  · refine st_ck hr _ ?_
    refine st_call (e_g_put hr _ _) fun q2 => ?_
    dsimp only
    refine st_ck hr _ ?_
    refine st_call (e_g_put hr _ _) fun q4 => ?_
    dsimp only
    refine st_ck hr _ ?_
    refine st_call (e_g_put hr _ _) fun q6 => ?_
    dsimp only
    refine st_ck hr _ ?_
    refine st_call (e_g_put hr _ _) fun q8 => ?_
    dsimp only
    refine st_ck hr _ ?_
    refine st_call (e_g_put hr _ _) fun q10 => ?_
    dsimp only
    refine st_fI hr _ (by decide) rfl ?_
    exact rfl
  · exact rfl
def g_in_15 (U S N : Nat) (s0 : Int32) (μ : RS) : Option (Int32 × RS) :=
  rZ s0 μ
theorem e_g_in_15 {μ0 : Mem} {r U S : Nat} (hr : r < μ0.1) {N : Nat} (s0 : Int32) (s : RS) : f_X12_in_15 N s0 (EM μ0 r (pcs U S) s) = (g_in_15 U S N s0 s).map (em μ0 r U S) := by
  unfold f_X12_in_15 g_in_15
  exact st_rZ _ _
def g_in_14 (U S N : Nat) (μ : RS) : Option (Int32 × RS) :=
  g_in_15 U S N 0 μ
theorem e_g_in_14 {μ0 : Mem} {r U S : Nat} (hr : r < μ0.1) {N : Nat} (s : RS) : f_X12_in_14 N  (EM μ0 r (pcs U S) s) = (g_in_14 U S N  s).map (em μ0 r U S) := by
  unfold f_X12_in_14 g_in_14
  exact e_g_in_15 hr _ _
def g_in (U S N : Nat) (a0 : Int32) (a1 : Int32) (a2 : Int32) (μ : RS) : Option (Int32 × RS) :=
  if a0 < a1 then
    g_in_14 U S N μ
  else
    if a2 < a0 then
      g_in_14 U S N μ
    else
      g_in_15 U S N 1 μ
theorem e_g_in {μ0 : Mem} {r U S : Nat} (hr : r < μ0.1) {N : Nat} (a0 : Int32) (a1 : Int32) (a2 : Int32) (s : RS) : f_X12_in N a0 a1 a2 (EM μ0 r (pcs U S) s) = (g_in U S N a0 a1 a2 s).map (em μ0 r U S) := by
  unfold f_X12_in g_in
  refine st_if (fun _ => ?_) (fun _ => ?_)
  · exact e_g_in_14 hr _
  · refine st_if (fun _ => ?_) (fun _ => ?_)
    · exact e_g_in_14 hr _
    · exact e_g_in_15 hr _ _
def g_end (U S N : Nat) (a1 : Int32) (μ : RS) : Option (Int32 × RS) :=
  (g_in U S N a1 0 (μ.1 1) μ).bind fun q2 =>
  if ¬ q2.1 = 0 then
    (some (pI q2.2 1 a1)).bind fun μ3 =>
    rZ 1 μ3
  else
    rZ 0 q2.2
theorem e_g_end {μ0 : Mem} {r U S : Nat} (hr : r < μ0.1) {N : Nat} (a1 : Int32) (s : RS) : f_X12_end N (some r) a1 (EM μ0 r (pcs U S) s) = (g_end U S N a1 s).map (em μ0 r U S) := by
  unfold f_X12_end g_end
  refine st_fI hr _ (by decide) rfl ?_
  refine st_call (e_g_in hr _ _ _ _) fun q2 => ?_
  dsimp only
  refine st_if (fun _ => ?_) (fun _ => ?_)
  · refine st_pI hr _ (by decide) rfl _ ?_
    exact st_rZ _ _
  · exact st_rZ _ _
def g_isLetter (U S N : Nat) (a0 : Int32) (μ : RS) : Option (Int32 × RS) :=
  (g_in U S N a0 65 90 μ).bind fun q1 =>
  rZ q1.1 q1.2
theorem e_g_isLetter {μ0 : Mem} {r U S : Nat} (hr : r < μ0.1) {N : Nat} (a0 : Int32) (s : RS) : f_X12_isLetter N a0 (EM μ0 r (pcs U S) s) = (g_isLetter U S N a0 s).map (em μ0 r U S) := by
  unfold f_X12_isLetter g_isLetter
  refine st_call (e_g_in hr _ _ _ _) fun q1 => ?_
  dsimp only
  exact st_rZ _ _
def g_at_19 (U S N : Nat) (s0 : Int32) (μ : RS) : Option (Int32 × RS) :=
  some (s0, μ)
theorem e_g_at_19 {μ0 : Mem} {r U S : Nat} (hr : r < μ0.1) {N : Nat} (s0 : Int32) (s : RS) : f_X12_at_19 N s0 (EM μ0 r (pcs U S) s) = (g_at_19 U S N s0 s).map (em μ0 r U S) := by
  unfold f_X12_at_19 g_at_19
  exact rfl
def g_at (U S N : Nat) (a1 : Int32) (μ : RS) : Option (Int32 × RS) :=
  if (μ.1 3) ≤ a1 then
    g_at_19 U S N 10 μ
  else
    (rA 2000 μ 2 a1).bind fun v3 =>
    g_at_19 U S N v3 μ
theorem e_g_at {μ0 : Mem} {r U S : Nat} (hr : r < μ0.1) {N : Nat} (a1 : Int32) (s : RS) : f_X12_at N (some r) a1 (EM μ0 r (pcs U S) s) = (g_at U S N a1 s).map (em μ0 r U S) := by
  unfold f_X12_at g_at
  refine st_fI hr _ (by decide) rfl ?_
  refine st_if (fun _ => ?_) (fun _ => ?_)
  · exact e_g_at_19 hr _ _
  · refine st_fR hr _ (by decide) rfl ?_
    refine st_aI hr _ (lk_2 U S) _ fun v3 => ?_
    exact e_g_at_19 hr _ _
def g_isDigit (U S N : Nat) (a0 : Int32) (μ : RS) : Option (Int32 × RS) :=
  (g_in U S N a0 48 57 μ).bind fun q1 =>
  rZ q1.1 q1.2
theorem e_g_isDigit {μ0 : Mem} {r U S : Nat} (hr : r < μ0.1) {N : Nat} (a0 : Int32) (s : RS) : f_X12_isDigit N a0 (EM μ0 r (pcs U S) s) = (g_isDigit U S N a0 s).map (em μ0 r U S) := by
  unfold f_X12_isDigit g_isDigit
  refine st_call (e_g_in hr _ _ _ _) fun q1 => ?_
  dsimp only
  exact st_rZ _ _
def g_fails (U S N : Nat) (a1 : Int32) (a2 : Int32) (μ : RS) : Option (Unit × RS) :=
  if (μ.1 5) ≤ 0 then
    (some (pI μ 5 a1)).bind fun μ2 =>
    (some (pI μ2 6 a2)).bind fun μ3 =>
    some ((), μ3)
  else
    some ((), μ)
theorem e_g_fails {μ0 : Mem} {r U S : Nat} (hr : r < μ0.1) {N : Nat} (a1 : Int32) (a2 : Int32) (s : RS) : f_X12_fails N (some r) a1 a2 (EM μ0 r (pcs U S) s) = (g_fails U S N a1 a2 s).map (em μ0 r U S) := by
  unfold f_X12_fails g_fails
  refine st_fI hr _ (by decide) rfl ?_
  refine st_if (fun _ => ?_) (fun _ => ?_)
  · refine st_pI hr _ (by decide) rfl _ ?_
    refine st_pI hr _ (by decide) rfl _ ?_
    exact rfl
  · exact rfl
def g_number_104 (U S N : Nat) (μ : RS) : Option (Unit × RS) :=
  some ((), μ)
theorem e_g_number_104 {μ0 : Mem} {r U S : Nat} (hr : r < μ0.1) {N : Nat} (s : RS) : f_X12_number_104 N  (EM μ0 r (pcs U S) s) = (g_number_104 U S N  s).map (em μ0 r U S) := by
  unfold f_X12_number_104 g_number_104
  exact rfl
def g_number_98 (U S N : Nat) (a1 : Int32) (μ : RS) : Option (Unit × RS) :=
  (g_fails U S N 1 a1 μ).bind fun q1 =>
  g_number_104 U S N q1.2
theorem e_g_number_98 {μ0 : Mem} {r U S : Nat} (hr : r < μ0.1) {N : Nat} (a1 : Int32) (s : RS) : f_X12_number_98 N (some r) a1 (EM μ0 r (pcs U S) s) = (g_number_98 U S N a1 s).map (em μ0 r U S) := by
  unfold f_X12_number_98 g_number_98
  refine st_ck hr _ ?_
  refine st_call (e_g_fails hr _ _ _) fun q1 => ?_
  dsimp only
  exact e_g_number_104 hr _
def g_number_84 (U S N : Nat) (a1 : Int32) (a3 : Int32) (μ : RS) : Option (Unit × RS) :=
  if a3 = 0 then
    g_number_98 U S N a1 μ
  else
    if (μ.1 14) ≤ (4095 : Int32) then
      g_number_104 U S N μ
    else
      g_number_98 U S N a1 μ
theorem e_g_number_84 {μ0 : Mem} {r U S : Nat} (hr : r < μ0.1) {N : Nat} (a1 : Int32) (a3 : Int32) (s : RS) : f_X12_number_84 N (some r) a1 a3 (EM μ0 r (pcs U S) s) = (g_number_84 U S N a1 a3 s).map (em μ0 r U S) := by
  unfold f_X12_number_84 g_number_84
  refine st_if (fun _ => ?_) (fun _ => ?_)
  · exact e_g_number_98 hr _ _
  · refine st_fI hr _ (by decide) rfl ?_
    refine st_if (fun _ => ?_) (fun _ => ?_)
    · exact e_g_number_104 hr _
    · exact e_g_number_98 hr _ _
def g_number_53 (U S N : Nat) (k21 : Int32 → Int32 → Int32 → Int32 → RS → Option (Unit × RS)) (a1 : Int32) (a2 : Int32) (a4 : Int32) (s0 : Int32) (μ : RS) : Option (Unit × RS) :=
  (rA 2000 μ 2 a4).bind fun v4 =>
  (some (pI μ 14 ((((μ.1 14) * (μ.1 10)) + v4) - 48))).bind fun μ5 =>
  k21 a1 a2 s0 (a4 + 1) μ5
theorem e_g_number_53 {μ0 : Mem} {r U S : Nat} (hr : r < μ0.1) {N : Nat} {k21 : (Option Nat) → Int32 → Int32 → Int32 → Int32 → Mem → Option (Unit × Mem)} {k21' : Int32 → Int32 → Int32 → Int32 → RS → Option (Unit × RS)} (hk21 : ∀ (x1 : Int32) (x2 : Int32) (x3 : Int32) (x4 : Int32) (s : RS), k21 (some r) x1 x2 x3 x4 (EM μ0 r (pcs U S) s) = (k21' x1 x2 x3 x4 s).map (em μ0 r U S)) (a1 : Int32) (a2 : Int32) (a4 : Int32) (s0 : Int32) (s : RS) : f_X12_number_53 N k21 (some r) a1 a2 a4 s0 (EM μ0 r (pcs U S) s) = (g_number_53 U S N k21' a1 a2 a4 s0 s).map (em μ0 r U S) := by
  unfold f_X12_number_53 g_number_53
  refine st_fI hr _ (by decide) rfl ?_
  refine st_fI hr _ (by decide) rfl ?_
  refine st_fR hr _ (by decide) rfl ?_
  refine st_aI hr _ (lk_2 U S) _ fun v4 => ?_
  refine st_pI hr _ (by decide) rfl _ ?_
  exact hk21 _ _ _ _ _
def h_number_21 (U S N : Nat) (k21 : Int32 → Int32 → Int32 → Int32 → RS → Option (Unit × RS)) (a1 : Int32) (a2 : Int32) (a3 : Int32) (a4 : Int32) (μ : RS) : Option (Unit × RS) :=
  if a2 ≤ a4 then
    g_number_84 U S N a1 a3 μ
  else
    if a3 = 0 then
      g_number_84 U S N a1 a3 μ
    else
      (rA 2000 μ 2 a4).bind fun v2 =>
      if (μ.1 10) ≤ (v2 - 48) then
        g_number_53 U S N k21 a1 a2 a4 0 μ
      else
        g_number_53 U S N k21 a1 a2 a4 1 μ
theorem e_h_number_21 {μ0 : Mem} {r U S : Nat} (hr : r < μ0.1) {N : Nat} {k21 : (Option Nat) → Int32 → Int32 → Int32 → Int32 → Mem → Option (Unit × Mem)} {k21' : Int32 → Int32 → Int32 → Int32 → RS → Option (Unit × RS)} (hk21 : ∀ (x1 : Int32) (x2 : Int32) (x3 : Int32) (x4 : Int32) (s : RS), k21 (some r) x1 x2 x3 x4 (EM μ0 r (pcs U S) s) = (k21' x1 x2 x3 x4 s).map (em μ0 r U S)) (a1 : Int32) (a2 : Int32) (a3 : Int32) (a4 : Int32) (s : RS) : H_X12_number_21 N k21 (some r) a1 a2 a3 a4 (EM μ0 r (pcs U S) s) = (h_number_21 U S N k21' a1 a2 a3 a4 s).map (em μ0 r U S) := by
  unfold H_X12_number_21 h_number_21
  refine st_if (fun _ => ?_) (fun _ => ?_)
  · exact e_g_number_84 hr _ _ _
  · refine st_if (fun _ => ?_) (fun _ => ?_)
    · exact e_g_number_84 hr _ _ _
    · refine st_fR hr _ (by decide) rfl ?_
      refine st_aI hr _ (lk_2 U S) _ fun v2 => ?_
      refine st_fI hr _ (by decide) rfl ?_
      refine st_if (fun _ => ?_) (fun _ => ?_)
      · exact e_g_number_53 hr hk21 _ _ _ _ _
      · exact e_g_number_53 hr hk21 _ _ _ _ _
def l_number_21 (U S N : Nat)  : Nat → Int32 → Int32 → Int32 → Int32 → RS → Option (Unit × RS)
  | 0 => fun _ _ _ _ _ => none
  | n + 1 => h_number_21 U S N (l_number_21 U S N n)
theorem e_l_number_21 {μ0 : Mem} {r U S : Nat} (hr : r < μ0.1) {N : Nat} : ∀ (n : Nat) (x1 : Int32) (x2 : Int32) (x3 : Int32) (x4 : Int32) (s : RS), L_X12_number_21 N n (some r) x1 x2 x3 x4 (EM μ0 r (pcs U S) s) = (l_number_21 U S N n x1 x2 x3 x4 s).map (em μ0 r U S) := by
  intro n
  induction n with
  | zero => intros; exact rfl
  | succ n ih => intros; exact e_h_number_21 hr ih _ _ _ _ _
def g_number_17 (U S N : Nat) (a1 : Int32) (a2 : Int32) (s0 : Int32) (μ : RS) : Option (Unit × RS) :=
  l_number_21 U S N N a1 a2 s0 a1 μ
theorem e_g_number_17 {μ0 : Mem} {r U S : Nat} (hr : r < μ0.1) {N : Nat} (a1 : Int32) (a2 : Int32) (s0 : Int32) (s : RS) : f_X12_number_17 N (some r) a1 a2 s0 (EM μ0 r (pcs U S) s) = (g_number_17 U S N a1 a2 s0 s).map (em μ0 r U S) := by
  unfold f_X12_number_17 g_number_17
  exact e_l_number_21 hr N _ _ _ _ _
def g_number (U S N : Nat) (a1 : Int32) (a2 : Int32) (μ : RS) : Option (Unit × RS) :=
  (some (pI μ 14 0)).bind fun μ1 =>
  if (4 : Int32) < (a2 - a1) then
    g_number_17 U S N a1 a2 0 μ1
  else
    g_number_17 U S N a1 a2 1 μ1
theorem e_g_number {μ0 : Mem} {r U S : Nat} (hr : r < μ0.1) {N : Nat} (a1 : Int32) (a2 : Int32) (s : RS) : f_X12_number N (some r) a1 a2 (EM μ0 r (pcs U S) s) = (g_number U S N a1 a2 s).map (em μ0 r U S) := by
  unfold f_X12_number g_number
  refine st_pI hr _ (by decide) rfl _ ?_
  refine st_if (fun _ => ?_) (fun _ => ?_)
  · exact e_g_number_17 hr _ _ _ _
  · exact e_g_number_17 hr _ _ _ _
def g_look_90 (U S N : Nat) (a1 : Int32) (μ : RS) : Option (Unit × RS) :=
  (some (pI μ 13 a1)).bind fun μ1 =>
  (some (pI μ1 12 5)).bind fun μ2 =>
  (some (pI μ2 16 a1)).bind fun μ3 =>
  some ((), μ3)
theorem e_g_look_90 {μ0 : Mem} {r U S : Nat} (hr : r < μ0.1) {N : Nat} (a1 : Int32) (s : RS) : f_X12_look_90 N (some r) a1 (EM μ0 r (pcs U S) s) = (g_look_90 U S N a1 s).map (em μ0 r U S) := by
  unfold f_X12_look_90 g_look_90
  refine st_pI hr _ (by decide) rfl _ ?_
  refine st_pI hr _ (by decide) rfl _ ?_
  refine st_pI hr _ (by decide) rfl _ ?_
  exact rfl
def h_look_65 (U S N : Nat) (k65 : Int32 → RS → Option (Unit × RS)) (a1 : Int32) (μ : RS) : Option (Unit × RS) :=
  if (μ.1 3) ≤ a1 then
    g_look_90 U S N a1 μ
  else
    (rA 2000 μ 2 a1).bind fun v3 =>
    if v3 = (10 : Int32) then
      g_look_90 U S N a1 μ
    else
      k65 (a1 + 1) μ
theorem e_h_look_65 {μ0 : Mem} {r U S : Nat} (hr : r < μ0.1) {N : Nat} {k65 : (Option Nat) → Int32 → Mem → Option (Unit × Mem)} {k65' : Int32 → RS → Option (Unit × RS)} (hk65 : ∀ (x1 : Int32) (s : RS), k65 (some r) x1 (EM μ0 r (pcs U S) s) = (k65' x1 s).map (em μ0 r U S)) (a1 : Int32) (s : RS) : H_X12_look_65 N k65 (some r) a1 (EM μ0 r (pcs U S) s) = (h_look_65 U S N k65' a1 s).map (em μ0 r U S) := by
  unfold H_X12_look_65 h_look_65
  refine st_fI hr _ (by decide) rfl ?_
  refine st_if (fun _ => ?_) (fun _ => ?_)
  · exact e_g_look_90 hr _ _
  · refine st_fR hr _ (by decide) rfl ?_
    refine st_aI hr _ (lk_2 U S) _ fun v3 => ?_
    refine st_if (fun _ => ?_) (fun _ => ?_)
    · exact e_g_look_90 hr _ _
    · exact hk65 _ _
def l_look_65 (U S N : Nat)  : Nat → Int32 → RS → Option (Unit × RS)
  | 0 => fun _ _ => none
  | n + 1 => h_look_65 U S N (l_look_65 U S N n)
theorem e_l_look_65 {μ0 : Mem} {r U S : Nat} (hr : r < μ0.1) {N : Nat} : ∀ (n : Nat) (x1 : Int32) (s : RS), L_X12_look_65 N n (some r) x1 (EM μ0 r (pcs U S) s) = (l_look_65 U S N n x1 s).map (em μ0 r U S) := by
  intro n
  induction n with
  | zero => intros; exact rfl
  | succ n ih => intros; exact e_h_look_65 hr ih _ _
def g_look_304 (U S N : Nat) (a3 : Int32) (μ : RS) : Option (Unit × RS) :=
  (some (pI μ 16 a3)).bind fun μ1 =>
  some ((), μ1)
theorem e_g_look_304 {μ0 : Mem} {r U S : Nat} (hr : r < μ0.1) {N : Nat} (a3 : Int32) (s : RS) : f_X12_look_304 N (some r) a3 (EM μ0 r (pcs U S) s) = (g_look_304 U S N a3 s).map (em μ0 r U S) := by
  unfold f_X12_look_304 g_look_304
  refine st_pI hr _ (by decide) rfl _ ?_
  exact rfl
def g_look_260 (U S N : Nat) (a3 : Int32) (μ : RS) : Option (Unit × RS) :=
  (g_at U S N a3 μ).bind fun q1 =>
  (some (pI q1.2 14 (q1.1 ||| 128))).bind fun μ3 =>
  g_look_304 U S N (a3 + 1) μ3
theorem e_g_look_260 {μ0 : Mem} {r U S : Nat} (hr : r < μ0.1) {N : Nat} (a3 : Int32) (s : RS) : f_X12_look_260 N (some r) a3 (EM μ0 r (pcs U S) s) = (g_look_260 U S N a3 s).map (em μ0 r U S) := by
  unfold f_X12_look_260 g_look_260
  refine st_ck hr _ ?_
  refine st_call (e_g_at hr _ _) fun q1 => ?_
  dsimp only
  refine st_pI hr _ (by decide) rfl _ ?_
  exact e_g_look_304 hr _ _
def g_look_254 (U S N : Nat) (a1 : Int32) (a3 : Int32) (μ : RS) : Option (Unit × RS) :=
  (g_fails U S N 1 a1 μ).bind fun q1 =>
  g_look_260 U S N a3 q1.2
theorem e_g_look_254 {μ0 : Mem} {r U S : Nat} (hr : r < μ0.1) {N : Nat} (a1 : Int32) (a3 : Int32) (s : RS) : f_X12_look_254 N (some r) a1 a3 (EM μ0 r (pcs U S) s) = (g_look_254 U S N a1 a3 s).map (em μ0 r U S) := by
  unfold f_X12_look_254 g_look_254
  refine st_ck hr _ ?_
  refine st_call (e_g_fails hr _ _ _) fun q1 => ?_
  dsimp only
  exact e_g_look_260 hr _ _
def h_look_189 (U S N : Nat) (k189 : Int32 → Int32 → RS → Option (Unit × RS)) (a1 : Int32) (a3 : Int32) (μ : RS) : Option (Unit × RS) :=
  (g_at U S N a3 μ).bind fun q1 =>
  (g_isDigit U S N q1.1 q1.2).bind fun q3 =>
  if q3.1 = 0 then
    (some (pI q3.2 12 2)).bind fun μ4 =>
    (g_number U S N a1 a3 μ4).bind fun q5 =>
    g_look_304 U S N a3 q5.2
  else
    k189 a1 (a3 + 1) q3.2
theorem e_h_look_189 {μ0 : Mem} {r U S : Nat} (hr : r < μ0.1) {N : Nat} {k189 : (Option Nat) → Int32 → Int32 → Mem → Option (Unit × Mem)} {k189' : Int32 → Int32 → RS → Option (Unit × RS)} (hk189 : ∀ (x1 : Int32) (x2 : Int32) (s : RS), k189 (some r) x1 x2 (EM μ0 r (pcs U S) s) = (k189' x1 x2 s).map (em μ0 r U S)) (a1 : Int32) (a3 : Int32) (s : RS) : H_X12_look_189 N k189 (some r) a1 a3 (EM μ0 r (pcs U S) s) = (h_look_189 U S N k189' a1 a3 s).map (em μ0 r U S) := by
  unfold H_X12_look_189 h_look_189
  refine st_ck hr _ ?_
  refine st_call (e_g_at hr _ _) fun q1 => ?_
  dsimp only
  refine st_call (e_g_isDigit hr _ _) fun q3 => ?_
  dsimp only
  refine st_if (fun _ => ?_) (fun _ => ?_)
  · refine st_pI hr _ (by decide) rfl _ ?_
    refine st_ck hr _ ?_
    refine st_call (e_g_number hr _ _ _) fun q5 => ?_
    dsimp only
    exact e_g_look_304 hr _ _
  · exact hk189 _ _ _
def l_look_189 (U S N : Nat)  : Nat → Int32 → Int32 → RS → Option (Unit × RS)
  | 0 => fun _ _ _ => none
  | n + 1 => h_look_189 U S N (l_look_189 U S N n)
theorem e_l_look_189 {μ0 : Mem} {r U S : Nat} (hr : r < μ0.1) {N : Nat} : ∀ (n : Nat) (x1 : Int32) (x2 : Int32) (s : RS), L_X12_look_189 N n (some r) x1 x2 (EM μ0 r (pcs U S) s) = (l_look_189 U S N n x1 x2 s).map (em μ0 r U S) := by
  intro n
  induction n with
  | zero => intros; exact rfl
  | succ n ih => intros; exact e_h_look_189 hr ih _ _ _
def g_look_146 (U S N : Nat) (k124 : Int32 → Int32 → RS → Option (Unit × RS)) (a1 : Int32) (a3 : Int32) (μ : RS) : Option (Unit × RS) :=
  k124 a1 (a3 + 1) μ
theorem e_g_look_146 {μ0 : Mem} {r U S : Nat} (hr : r < μ0.1) {N : Nat} {k124 : (Option Nat) → Int32 → Int32 → Mem → Option (Unit × Mem)} {k124' : Int32 → Int32 → RS → Option (Unit × RS)} (hk124 : ∀ (x1 : Int32) (x2 : Int32) (s : RS), k124 (some r) x1 x2 (EM μ0 r (pcs U S) s) = (k124' x1 x2 s).map (em μ0 r U S)) (a1 : Int32) (a3 : Int32) (s : RS) : f_X12_look_146 N k124 (some r) a1 a3 (EM μ0 r (pcs U S) s) = (g_look_146 U S N k124' a1 a3 s).map (em μ0 r U S) := by
  unfold f_X12_look_146 g_look_146
  exact hk124 _ _ _
def h_look_124 (U S N : Nat) (k124 : Int32 → Int32 → RS → Option (Unit × RS)) (a1 : Int32) (a3 : Int32) (μ : RS) : Option (Unit × RS) :=
  (g_at U S N a3 μ).bind fun q1 =>
  (g_isLetter U S N q1.1 q1.2).bind fun q3 =>
  if ¬ q3.1 = 0 then
    g_look_146 U S N k124 a1 a3 q3.2
  else
    (g_at U S N a3 q3.2).bind fun q4 =>
    (g_isDigit U S N q4.1 q4.2).bind fun q6 =>
    if q6.1 = 0 then
      (some (pI q6.2 12 1)).bind fun μ7 =>
      (some (pI μ7 15 (a3 - a1))).bind fun μ8 =>
      if (μ8.1 15) ≤ (7 : Int32) then
        g_look_304 U S N a3 μ8
      else
        (g_fails U S N 1 a1 μ8).bind fun q10 =>
        g_look_304 U S N a3 q10.2
    else
      g_look_146 U S N k124 a1 a3 q6.2
theorem e_h_look_124 {μ0 : Mem} {r U S : Nat} (hr : r < μ0.1) {N : Nat} {k124 : (Option Nat) → Int32 → Int32 → Mem → Option (Unit × Mem)} {k124' : Int32 → Int32 → RS → Option (Unit × RS)} (hk124 : ∀ (x1 : Int32) (x2 : Int32) (s : RS), k124 (some r) x1 x2 (EM μ0 r (pcs U S) s) = (k124' x1 x2 s).map (em μ0 r U S)) (a1 : Int32) (a3 : Int32) (s : RS) : H_X12_look_124 N k124 (some r) a1 a3 (EM μ0 r (pcs U S) s) = (h_look_124 U S N k124' a1 a3 s).map (em μ0 r U S) := by
  unfold H_X12_look_124 h_look_124
  refine st_ck hr _ ?_
  refine st_call (e_g_at hr _ _) fun q1 => ?_
  dsimp only
  refine st_call (e_g_isLetter hr _ _) fun q3 => ?_
  dsimp only
  refine st_if (fun _ => ?_) (fun _ => ?_)
  · exact e_g_look_146 hr hk124 _ _ _
  · refine st_ck hr _ ?_
    refine st_call (e_g_at hr _ _) fun q4 => ?_
    dsimp only
    refine st_call (e_g_isDigit hr _ _) fun q6 => ?_
    dsimp only
    refine st_if (fun _ => ?_) (fun _ => ?_)
    · refine st_pI hr _ (by decide) rfl _ ?_
      refine st_pI hr _ (by decide) rfl _ ?_
      refine st_fI hr _ (by decide) rfl ?_
      refine st_if (fun _ => ?_) (fun _ => ?_)
      · exact e_g_look_304 hr _ _
      · refine st_ck hr _ ?_
        refine st_call (e_g_fails hr _ _ _) fun q10 => ?_
        dsimp only
        exact e_g_look_304 hr _ _
    · exact e_g_look_146 hr hk124 _ _ _
def l_look_124 (U S N : Nat)  : Nat → Int32 → Int32 → RS → Option (Unit × RS)
  | 0 => fun _ _ _ => none
  | n + 1 => h_look_124 U S N (l_look_124 U S N n)
theorem e_l_look_124 {μ0 : Mem} {r U S : Nat} (hr : r < μ0.1) {N : Nat} : ∀ (n : Nat) (x1 : Int32) (x2 : Int32) (s : RS), L_X12_look_124 N n (some r) x1 x2 (EM μ0 r (pcs U S) s) = (l_look_124 U S N n x1 x2 s).map (em μ0 r U S) := by
  intro n
  induction n with
  | zero => intros; exact rfl
  | succ n ih => intros; exact e_h_look_124 hr ih _ _ _
def g_look_30 (U S N : Nat) (a1 : Int32) (μ : RS) : Option (Unit × RS) :=
  (some (pI μ 13 a1)).bind fun μ1 =>
  if (μ1.1 3) ≤ a1 then
    l_look_65 U S N N a1 μ1
  else
    (rA 2000 μ1 2 a1).bind fun v4 =>
    if v4 = (10 : Int32) then
      l_look_65 U S N N a1 μ1
    else
      (rA 2000 μ1 2 a1).bind fun v6 =>
      if ¬ v6 = (47 : Int32) then
        (rA 2000 μ1 2 a1).bind fun v8 =>
        (g_isLetter U S N v8 μ1).bind fun q9 =>
        if q9.1 = 0 then
          (g_isDigit U S N v8 q9.2).bind fun q10 =>
          if q10.1 = 0 then
            if ¬ v8 = (34 : Int32) then
              (some (pI q10.2 12 4)).bind fun μ11 =>
              (some (pI μ11 14 v8)).bind fun μ12 =>
              (sIx1 11 v8).bind fun q13 =>
              if 0 ≤ q13 then
                g_look_304 U S N (a1 + 1) μ12
              else
                (g_fails U S N 1 a1 μ12).bind fun q14 =>
                g_look_304 U S N (a1 + 1) q14.2
            else
              (some (pI q10.2 12 3)).bind fun μ16 =>
              (g_at U S N (a1 + 1) μ16).bind fun q17 =>
              (g_in U S N q17.1 32 126 q17.2).bind fun q19 =>
              if q19.1 = 0 then
                g_look_254 U S N a1 (a1 + 1) q19.2
              else
                if (a1 + 1) < (q19.2.1 3) then
                  g_look_260 U S N (a1 + 1) q19.2
                else
                  g_look_254 U S N a1 (a1 + 1) q19.2
          else
            l_look_189 U S N N a1 (a1 + 1) q10.2
        else
          l_look_124 U S N N a1 (a1 + 1) q9.2
      else
        l_look_65 U S N N a1 μ1
theorem e_g_look_30 {μ0 : Mem} {r U S : Nat} (hr : r < μ0.1) {N : Nat} (a1 : Int32) (s : RS) : f_X12_look_30 N (some r) a1 (EM μ0 r (pcs U S) s) = (g_look_30 U S N a1 s).map (em μ0 r U S) := by
  unfold f_X12_look_30 g_look_30
  refine st_pI hr _ (by decide) rfl _ ?_
  refine st_fI hr _ (by decide) rfl ?_
  refine st_if (fun _ => ?_) (fun _ => ?_)
  · exact e_l_look_65 hr N _ _
  · refine st_fR hr _ (by decide) rfl ?_
    refine st_aI hr _ (lk_2 U S) _ fun v4 => ?_
    refine st_if (fun _ => ?_) (fun _ => ?_)
    · exact e_l_look_65 hr N _ _
    · refine st_fR hr _ (by decide) rfl ?_
      refine st_aI hr _ (lk_2 U S) _ fun v6 => ?_
      refine st_if (fun _ => ?_) (fun _ => ?_)
      · refine st_fR hr _ (by decide) rfl ?_
        refine st_aI hr _ (lk_2 U S) _ fun v8 => ?_
        refine st_call (e_g_isLetter hr _ _) fun q9 => ?_
        dsimp only
        refine st_if (fun _ => ?_) (fun _ => ?_)
        · refine st_call (e_g_isDigit hr _ _) fun q10 => ?_
          dsimp only
          refine st_if (fun _ => ?_) (fun _ => ?_)
          · refine st_if (fun _ => ?_) (fun _ => ?_)
            · refine st_pI hr _ (by decide) rfl _ ?_
              refine st_pI hr _ (by decide) rfl _ ?_
              refine st_b _ fun q13 => ?_
              refine st_if (fun _ => ?_) (fun _ => ?_)
              · exact e_g_look_304 hr _ _
              · refine st_ck hr _ ?_
                refine st_call (e_g_fails hr _ _ _) fun q14 => ?_
                dsimp only
                exact e_g_look_304 hr _ _
            · refine st_pI hr _ (by decide) rfl _ ?_
              refine st_ck hr _ ?_
              refine st_call (e_g_at hr _ _) fun q17 => ?_
              dsimp only
              refine st_call (e_g_in hr _ _ _ _) fun q19 => ?_
              dsimp only
              refine st_if (fun _ => ?_) (fun _ => ?_)
              · exact e_g_look_254 hr _ _ _
              · refine st_fI hr _ (by decide) rfl ?_
                refine st_if (fun _ => ?_) (fun _ => ?_)
                · exact e_g_look_260 hr _ _
                · exact e_g_look_254 hr _ _ _
          · exact e_l_look_189 hr N _ _ _
        · exact e_l_look_124 hr N _ _ _
      · exact e_l_look_65 hr N _ _
def h_look_5 (U S N : Nat) (k5 : Int32 → RS → Option (Unit × RS)) (a1 : Int32) (μ : RS) : Option (Unit × RS) :=
  if (μ.1 3) ≤ a1 then
    g_look_30 U S N a1 μ
  else
    (rA 2000 μ 2 a1).bind fun v3 =>
    if ¬ v3 = (32 : Int32) then
      g_look_30 U S N a1 μ
    else
      k5 (a1 + 1) μ
theorem e_h_look_5 {μ0 : Mem} {r U S : Nat} (hr : r < μ0.1) {N : Nat} {k5 : (Option Nat) → Int32 → Mem → Option (Unit × Mem)} {k5' : Int32 → RS → Option (Unit × RS)} (hk5 : ∀ (x1 : Int32) (s : RS), k5 (some r) x1 (EM μ0 r (pcs U S) s) = (k5' x1 s).map (em μ0 r U S)) (a1 : Int32) (s : RS) : H_X12_look_5 N k5 (some r) a1 (EM μ0 r (pcs U S) s) = (h_look_5 U S N k5' a1 s).map (em μ0 r U S) := by
  unfold H_X12_look_5 h_look_5
  refine st_fI hr _ (by decide) rfl ?_
  refine st_if (fun _ => ?_) (fun _ => ?_)
  · exact e_g_look_30 hr _ _
  · refine st_fR hr _ (by decide) rfl ?_
    refine st_aI hr _ (lk_2 U S) _ fun v3 => ?_
    refine st_if (fun _ => ?_) (fun _ => ?_)
    · exact e_g_look_30 hr _ _
    · exact hk5 _ _
def l_look_5 (U S N : Nat)  : Nat → Int32 → RS → Option (Unit × RS)
  | 0 => fun _ _ => none
  | n + 1 => h_look_5 U S N (l_look_5 U S N n)
theorem e_l_look_5 {μ0 : Mem} {r U S : Nat} (hr : r < μ0.1) {N : Nat} : ∀ (n : Nat) (x1 : Int32) (s : RS), L_X12_look_5 N n (some r) x1 (EM μ0 r (pcs U S) s) = (l_look_5 U S N n x1 s).map (em μ0 r U S) := by
  intro n
  induction n with
  | zero => intros; exact rfl
  | succ n ih => intros; exact e_h_look_5 hr ih _ _
def g_look (U S N : Nat) (μ : RS) : Option (Unit × RS) :=
  l_look_5 U S N N (μ.1 4) μ
theorem e_g_look {μ0 : Mem} {r U S : Nat} (hr : r < μ0.1) {N : Nat} (s : RS) : f_X12_look N (some r) (EM μ0 r (pcs U S) s) = (g_look U S N  s).map (em μ0 r U S) := by
  unfold f_X12_look g_look
  refine st_fI hr _ (by decide) rfl ?_
  exact e_l_look_5 hr N _ _
def g_isNext_53 (U S N : Nat) (s0 : Int32) (μ : RS) : Option (Int32 × RS) :=
  rZ s0 μ
theorem e_g_isNext_53 {μ0 : Mem} {r U S : Nat} (hr : r < μ0.1) {N : Nat} (s0 : Int32) (s : RS) : f_X12_isNext_53 N s0 (EM μ0 r (pcs U S) s) = (g_isNext_53 U S N s0 s).map (em μ0 r U S) := by
  unfold f_X12_isNext_53 g_isNext_53
  exact st_rZ _ _
def g_isNext_52 (U S N : Nat) (μ : RS) : Option (Int32 × RS) :=
  g_isNext_53 U S N 0 μ
theorem e_g_isNext_52 {μ0 : Mem} {r U S : Nat} (hr : r < μ0.1) {N : Nat} (s : RS) : f_X12_isNext_52 N  (EM μ0 r (pcs U S) s) = (g_isNext_52 U S N  s).map (em μ0 r U S) := by
  unfold f_X12_isNext_52 g_isNext_52
  exact e_g_isNext_53 hr _ _
def g_isNext_30 (U S N : Nat) (a1 : Int32) (a2 : Int32) (μ : RS) : Option (Int32 × RS) :=
  if (μ.1 3) ≤ a2 then
    g_isNext_52 U S N μ
  else
    (rA 2000 μ 2 a2).bind fun v3 =>
    if ¬ v3 = a1 then
      g_isNext_52 U S N μ
    else
      g_isNext_53 U S N 1 μ
theorem e_g_isNext_30 {μ0 : Mem} {r U S : Nat} (hr : r < μ0.1) {N : Nat} (a1 : Int32) (a2 : Int32) (s : RS) : f_X12_isNext_30 N (some r) a1 a2 (EM μ0 r (pcs U S) s) = (g_isNext_30 U S N a1 a2 s).map (em μ0 r U S) := by
  unfold f_X12_isNext_30 g_isNext_30
  refine st_fI hr _ (by decide) rfl ?_
  refine st_if (fun _ => ?_) (fun _ => ?_)
  · exact e_g_isNext_52 hr _
  · refine st_fR hr _ (by decide) rfl ?_
    refine st_aI hr _ (lk_2 U S) _ fun v3 => ?_
    refine st_if (fun _ => ?_) (fun _ => ?_)
    · exact e_g_isNext_52 hr _
    · exact e_g_isNext_53 hr _ _
def h_isNext_5 (U S N : Nat) (k5 : Int32 → Int32 → RS → Option (Int32 × RS)) (a1 : Int32) (a2 : Int32) (μ : RS) : Option (Int32 × RS) :=
  if (μ.1 3) ≤ a2 then
    g_isNext_30 U S N a1 a2 μ
  else
    (rA 2000 μ 2 a2).bind fun v3 =>
    if ¬ v3 = (32 : Int32) then
      g_isNext_30 U S N a1 a2 μ
    else
      k5 a1 (a2 + 1) μ
theorem e_h_isNext_5 {μ0 : Mem} {r U S : Nat} (hr : r < μ0.1) {N : Nat} {k5 : (Option Nat) → Int32 → Int32 → Mem → Option (Int32 × Mem)} {k5' : Int32 → Int32 → RS → Option (Int32 × RS)} (hk5 : ∀ (x1 : Int32) (x2 : Int32) (s : RS), k5 (some r) x1 x2 (EM μ0 r (pcs U S) s) = (k5' x1 x2 s).map (em μ0 r U S)) (a1 : Int32) (a2 : Int32) (s : RS) : H_X12_isNext_5 N k5 (some r) a1 a2 (EM μ0 r (pcs U S) s) = (h_isNext_5 U S N k5' a1 a2 s).map (em μ0 r U S) := by
  unfold H_X12_isNext_5 h_isNext_5
  refine st_fI hr _ (by decide) rfl ?_
  refine st_if (fun _ => ?_) (fun _ => ?_)
  · exact e_g_isNext_30 hr _ _ _
  · refine st_fR hr _ (by decide) rfl ?_
    refine st_aI hr _ (lk_2 U S) _ fun v3 => ?_
    refine st_if (fun _ => ?_) (fun _ => ?_)
    · exact e_g_isNext_30 hr _ _ _
    · exact hk5 _ _ _
def l_isNext_5 (U S N : Nat)  : Nat → Int32 → Int32 → RS → Option (Int32 × RS)
  | 0 => fun _ _ _ => none
  | n + 1 => h_isNext_5 U S N (l_isNext_5 U S N n)
theorem e_l_isNext_5 {μ0 : Mem} {r U S : Nat} (hr : r < μ0.1) {N : Nat} : ∀ (n : Nat) (x1 : Int32) (x2 : Int32) (s : RS), L_X12_isNext_5 N n (some r) x1 x2 (EM μ0 r (pcs U S) s) = (l_isNext_5 U S N n x1 x2 s).map (em μ0 r U S) := by
  intro n
  induction n with
  | zero => intros; exact rfl
  | succ n ih => intros; exact e_h_isNext_5 hr ih _ _ _
def g_isNext (U S N : Nat) (a1 : Int32) (μ : RS) : Option (Int32 × RS) :=
  l_isNext_5 U S N N a1 (μ.1 16) μ
theorem e_g_isNext {μ0 : Mem} {r U S : Nat} (hr : r < μ0.1) {N : Nat} (a1 : Int32) (s : RS) : f_X12_isNext N (some r) a1 (EM μ0 r (pcs U S) s) = (g_isNext U S N a1 s).map (em μ0 r U S) := by
  unfold f_X12_isNext g_isNext
  refine st_fI hr _ (by decide) rfl ?_
  exact e_l_isNext_5 hr N _ _ _
def g_take (U S N : Nat) (μ : RS) : Option (Unit × RS) :=
  (some (pI μ 4 (μ.1 16))).bind fun μ2 =>
  (g_look U S N μ2).bind fun q3 =>
  some ((), q3.2)
theorem e_g_take {μ0 : Mem} {r U S : Nat} (hr : r < μ0.1) {N : Nat} (s : RS) : f_X12_take N (some r) (EM μ0 r (pcs U S) s) = (g_take U S N  s).map (em μ0 r U S) := by
  unfold f_X12_take g_take
  refine st_fI hr _ (by decide) rfl ?_
  refine st_pI hr _ (by decide) rfl _ ?_
  refine st_ck hr _ ?_
  refine st_call (e_g_look hr _) fun q3 => ?_
  dsimp only
  exact rfl
def g_find_86 (U S N : Nat) (k6 : Nat → Int32 → Int32 → Int32 → Int32 → RS → Option (Int32 × RS)) (a0 : Nat) (a2 : Int32) (a3 : Int32) (a4 : Int32) (a6 : Int32) (a7 : Int32) (μ : RS) : Option (Int32 × RS) :=
  if a7 = 0 then
    k6 a0 a2 a3 (a4 + 1) (a6 + 1) μ
  else
    some (a4, μ)
theorem e_g_find_86 {μ0 : Mem} {r U S : Nat} (hr : r < μ0.1) {N : Nat} {k6 : Nat → (Option Nat) → Int32 → Int32 → Int32 → Int32 → Mem → Option (Int32 × Mem)} {k6' : Nat → Int32 → Int32 → Int32 → Int32 → RS → Option (Int32 × RS)} (hk6 : ∀ (x0 : Nat) (x2 : Int32) (x3 : Int32) (x4 : Int32) (x5 : Int32) (s : RS), k6 x0 (fnd (pcs U S) μ0.1 2) x2 x3 x4 x5 (EM μ0 r (pcs U S) s) = (k6' x0 x2 x3 x4 x5 s).map (em μ0 r U S)) (a0 : Nat) (a2 : Int32) (a3 : Int32) (a4 : Int32) (a6 : Int32) (a7 : Int32) (s : RS) : f_X12_find_86 N k6 a0 (fnd (pcs U S) μ0.1 2) a2 a3 a4 a6 a7 (EM μ0 r (pcs U S) s) = (g_find_86 U S N k6' a0 a2 a3 a4 a6 a7 s).map (em μ0 r U S) := by
  unfold f_X12_find_86 g_find_86
  refine st_if (fun _ => ?_) (fun _ => ?_)
  · exact hk6 _ _ _ _ _ _
  · exact rfl
def g_find_78 (U S N : Nat) (k6 : Nat → Int32 → Int32 → Int32 → Int32 → RS → Option (Int32 × RS)) (k44 : Nat → Int32 → Int32 → Int32 → Int32 → Int32 → Int32 → Int32 → RS → Option (Int32 × RS)) (a0 : Nat) (a2 : Int32) (a3 : Int32) (a4 : Int32) (a5 : Int32) (a6 : Int32) (a8 : Int32) (s0 : Int32) (μ : RS) : Option (Int32 × RS) :=
  k44 a0 a2 a3 a4 a5 a6 s0 (a8 + 1) μ
theorem e_g_find_78 {μ0 : Mem} {r U S : Nat} (hr : r < μ0.1) {N : Nat} {k6 : Nat → (Option Nat) → Int32 → Int32 → Int32 → Int32 → Mem → Option (Int32 × Mem)} {k6' : Nat → Int32 → Int32 → Int32 → Int32 → RS → Option (Int32 × RS)} (hk6 : ∀ (x0 : Nat) (x2 : Int32) (x3 : Int32) (x4 : Int32) (x5 : Int32) (s : RS), k6 x0 (fnd (pcs U S) μ0.1 2) x2 x3 x4 x5 (EM μ0 r (pcs U S) s) = (k6' x0 x2 x3 x4 x5 s).map (em μ0 r U S)) {k44 : Nat → (Option Nat) → Int32 → Int32 → Int32 → Int32 → Int32 → Int32 → Int32 → Mem → Option (Int32 × Mem)} {k44' : Nat → Int32 → Int32 → Int32 → Int32 → Int32 → Int32 → Int32 → RS → Option (Int32 × RS)} (hk44 : ∀ (x0 : Nat) (x2 : Int32) (x3 : Int32) (x4 : Int32) (x5 : Int32) (x6 : Int32) (x7 : Int32) (x8 : Int32) (s : RS), k44 x0 (fnd (pcs U S) μ0.1 2) x2 x3 x4 x5 x6 x7 x8 (EM μ0 r (pcs U S) s) = (k44' x0 x2 x3 x4 x5 x6 x7 x8 s).map (em μ0 r U S)) (a0 : Nat) (a2 : Int32) (a3 : Int32) (a4 : Int32) (a5 : Int32) (a6 : Int32) (a8 : Int32) (s0 : Int32) (s : RS) : f_X12_find_78 N k6 k44 a0 (fnd (pcs U S) μ0.1 2) a2 a3 a4 a5 a6 a8 s0 (EM μ0 r (pcs U S) s) = (g_find_78 U S N k6' k44' a0 a2 a3 a4 a5 a6 a8 s0 s).map (em μ0 r U S) := by
  unfold f_X12_find_78 g_find_78
  exact hk44 _ _ _ _ _ _ _ _ _
def h_find_44 (U S N : Nat) (k6 : Nat → Int32 → Int32 → Int32 → Int32 → RS → Option (Int32 × RS)) (k44 : Nat → Int32 → Int32 → Int32 → Int32 → Int32 → Int32 → Int32 → RS → Option (Int32 × RS)) (a0 : Nat) (a2 : Int32) (a3 : Int32) (a4 : Int32) (a5 : Int32) (a6 : Int32) (a7 : Int32) (a8 : Int32) (μ : RS) : Option (Int32 × RS) :=
  if a3 ≤ a8 then
    g_find_86 U S N k6 a0 a2 a3 a4 a6 a7 μ
  else
    if a7 = 0 then
      g_find_86 U S N k6 a0 a2 a3 a4 a6 a7 μ
    else
      (sChr a0 (a5 + a8)).bind fun q1 =>
      (rA 2000 μ 2 (a2 + a8)).bind fun v2 =>
      if ¬ q1 = v2 then
        g_find_78 U S N k6 k44 a0 a2 a3 a4 a5 a6 a8 0 μ
      else
        g_find_78 U S N k6 k44 a0 a2 a3 a4 a5 a6 a8 1 μ
theorem e_h_find_44 {μ0 : Mem} {r U S : Nat} (hr : r < μ0.1) {N : Nat} {k6 : Nat → (Option Nat) → Int32 → Int32 → Int32 → Int32 → Mem → Option (Int32 × Mem)} {k6' : Nat → Int32 → Int32 → Int32 → Int32 → RS → Option (Int32 × RS)} (hk6 : ∀ (x0 : Nat) (x2 : Int32) (x3 : Int32) (x4 : Int32) (x5 : Int32) (s : RS), k6 x0 (fnd (pcs U S) μ0.1 2) x2 x3 x4 x5 (EM μ0 r (pcs U S) s) = (k6' x0 x2 x3 x4 x5 s).map (em μ0 r U S)) {k44 : Nat → (Option Nat) → Int32 → Int32 → Int32 → Int32 → Int32 → Int32 → Int32 → Mem → Option (Int32 × Mem)} {k44' : Nat → Int32 → Int32 → Int32 → Int32 → Int32 → Int32 → Int32 → RS → Option (Int32 × RS)} (hk44 : ∀ (x0 : Nat) (x2 : Int32) (x3 : Int32) (x4 : Int32) (x5 : Int32) (x6 : Int32) (x7 : Int32) (x8 : Int32) (s : RS), k44 x0 (fnd (pcs U S) μ0.1 2) x2 x3 x4 x5 x6 x7 x8 (EM μ0 r (pcs U S) s) = (k44' x0 x2 x3 x4 x5 x6 x7 x8 s).map (em μ0 r U S)) (a0 : Nat) (a2 : Int32) (a3 : Int32) (a4 : Int32) (a5 : Int32) (a6 : Int32) (a7 : Int32) (a8 : Int32) (s : RS) : H_X12_find_44 N k6 k44 a0 (fnd (pcs U S) μ0.1 2) a2 a3 a4 a5 a6 a7 a8 (EM μ0 r (pcs U S) s) = (h_find_44 U S N k6' k44' a0 a2 a3 a4 a5 a6 a7 a8 s).map (em μ0 r U S) := by
  unfold H_X12_find_44 h_find_44
  refine st_if (fun _ => ?_) (fun _ => ?_)
  · exact e_g_find_86 hr hk6 _ _ _ _ _ _ _
  · refine st_if (fun _ => ?_) (fun _ => ?_)
    · exact e_g_find_86 hr hk6 _ _ _ _ _ _ _
    · refine st_b _ fun q1 => ?_
      refine st_aI hr _ (lk_2 U S) _ fun v2 => ?_
      refine st_if (fun _ => ?_) (fun _ => ?_)
      · exact e_g_find_78 hr hk6 hk44 _ _ _ _ _ _ _ _ _
      · exact e_g_find_78 hr hk6 hk44 _ _ _ _ _ _ _ _ _
def l_find_44 (U S N : Nat) (k6 : Nat → Int32 → Int32 → Int32 → Int32 → RS → Option (Int32 × RS)) : Nat → Nat → Int32 → Int32 → Int32 → Int32 → Int32 → Int32 → Int32 → RS → Option (Int32 × RS)
  | 0 => fun _ _ _ _ _ _ _ _ _ => none
  | n + 1 => h_find_44 U S N k6 (l_find_44 U S N k6 n)
theorem e_l_find_44 {μ0 : Mem} {r U S : Nat} (hr : r < μ0.1) {N : Nat} {k6 : Nat → (Option Nat) → Int32 → Int32 → Int32 → Int32 → Mem → Option (Int32 × Mem)} {k6' : Nat → Int32 → Int32 → Int32 → Int32 → RS → Option (Int32 × RS)} (hk6 : ∀ (x0 : Nat) (x2 : Int32) (x3 : Int32) (x4 : Int32) (x5 : Int32) (s : RS), k6 x0 (fnd (pcs U S) μ0.1 2) x2 x3 x4 x5 (EM μ0 r (pcs U S) s) = (k6' x0 x2 x3 x4 x5 s).map (em μ0 r U S)) : ∀ (n : Nat) (x0 : Nat) (x2 : Int32) (x3 : Int32) (x4 : Int32) (x5 : Int32) (x6 : Int32) (x7 : Int32) (x8 : Int32) (s : RS), L_X12_find_44 N k6 n x0 (fnd (pcs U S) μ0.1 2) x2 x3 x4 x5 x6 x7 x8 (EM μ0 r (pcs U S) s) = (l_find_44 U S N k6' n x0 x2 x3 x4 x5 x6 x7 x8 s).map (em μ0 r U S) := by
  intro n
  induction n with
  | zero => intros; exact rfl
  | succ n ih => intros; exact e_h_find_44 hr hk6 ih _ _ _ _ _ _ _ _ _
def g_find_39 (U S N : Nat) (k6 : Nat → Int32 → Int32 → Int32 → Int32 → RS → Option (Int32 × RS)) (a0 : Nat) (a2 : Int32) (a3 : Int32) (a4 : Int32) (a5 : Int32) (a6 : Int32) (s0 : Int32) (μ : RS) : Option (Int32 × RS) :=
  l_find_44 U S N k6 N a0 a2 a3 a4 a5 a6 s0 0 μ
theorem e_g_find_39 {μ0 : Mem} {r U S : Nat} (hr : r < μ0.1) {N : Nat} {k6 : Nat → (Option Nat) → Int32 → Int32 → Int32 → Int32 → Mem → Option (Int32 × Mem)} {k6' : Nat → Int32 → Int32 → Int32 → Int32 → RS → Option (Int32 × RS)} (hk6 : ∀ (x0 : Nat) (x2 : Int32) (x3 : Int32) (x4 : Int32) (x5 : Int32) (s : RS), k6 x0 (fnd (pcs U S) μ0.1 2) x2 x3 x4 x5 (EM μ0 r (pcs U S) s) = (k6' x0 x2 x3 x4 x5 s).map (em μ0 r U S)) (a0 : Nat) (a2 : Int32) (a3 : Int32) (a4 : Int32) (a5 : Int32) (a6 : Int32) (s0 : Int32) (s : RS) : f_X12_find_39 N k6 a0 (fnd (pcs U S) μ0.1 2) a2 a3 a4 a5 a6 s0 (EM μ0 r (pcs U S) s) = (g_find_39 U S N k6' a0 a2 a3 a4 a5 a6 s0 s).map (em μ0 r U S) := by
  unfold f_X12_find_39 g_find_39
  exact e_l_find_44 hr hk6 N _ _ _ _ _ _ _ _ _
def h_find_6 (U S N : Nat) (k6 : Nat → Int32 → Int32 → Int32 → Int32 → RS → Option (Int32 × RS)) (a0 : Nat) (a2 : Int32) (a3 : Int32) (a4 : Int32) (a5 : Int32) (μ : RS) : Option (Int32 × RS) :=
  (sLen a0).bind fun q1 =>
  if q1 ≤ a5 then
    some ((-1), μ)
  else
    (sIx2 a0 32 a5).bind fun q2 =>
    if ¬ (q2 - a5) = a3 then
      g_find_39 U S N k6 a0 a2 a3 a4 a5 q2 0 μ
    else
      g_find_39 U S N k6 a0 a2 a3 a4 a5 q2 1 μ
theorem e_h_find_6 {μ0 : Mem} {r U S : Nat} (hr : r < μ0.1) {N : Nat} {k6 : Nat → (Option Nat) → Int32 → Int32 → Int32 → Int32 → Mem → Option (Int32 × Mem)} {k6' : Nat → Int32 → Int32 → Int32 → Int32 → RS → Option (Int32 × RS)} (hk6 : ∀ (x0 : Nat) (x2 : Int32) (x3 : Int32) (x4 : Int32) (x5 : Int32) (s : RS), k6 x0 (fnd (pcs U S) μ0.1 2) x2 x3 x4 x5 (EM μ0 r (pcs U S) s) = (k6' x0 x2 x3 x4 x5 s).map (em μ0 r U S)) (a0 : Nat) (a2 : Int32) (a3 : Int32) (a4 : Int32) (a5 : Int32) (s : RS) : H_X12_find_6 N k6 a0 (fnd (pcs U S) μ0.1 2) a2 a3 a4 a5 (EM μ0 r (pcs U S) s) = (h_find_6 U S N k6' a0 a2 a3 a4 a5 s).map (em μ0 r U S) := by
  unfold H_X12_find_6 h_find_6
  refine st_b _ fun q1 => ?_
  refine st_if (fun _ => ?_) (fun _ => ?_)
  · exact rfl
  · refine st_b _ fun q2 => ?_
    refine st_if (fun _ => ?_) (fun _ => ?_)
    · exact e_g_find_39 hr hk6 _ _ _ _ _ _ _ _
    · exact e_g_find_39 hr hk6 _ _ _ _ _ _ _ _
def l_find_6 (U S N : Nat)  : Nat → Nat → Int32 → Int32 → Int32 → Int32 → RS → Option (Int32 × RS)
  | 0 => fun _ _ _ _ _ _ => none
  | n + 1 => h_find_6 U S N (l_find_6 U S N n)
theorem e_l_find_6 {μ0 : Mem} {r U S : Nat} (hr : r < μ0.1) {N : Nat} : ∀ (n : Nat) (x0 : Nat) (x2 : Int32) (x3 : Int32) (x4 : Int32) (x5 : Int32) (s : RS), L_X12_find_6 N n x0 (fnd (pcs U S) μ0.1 2) x2 x3 x4 x5 (EM μ0 r (pcs U S) s) = (l_find_6 U S N n x0 x2 x3 x4 x5 s).map (em μ0 r U S) := by
  intro n
  induction n with
  | zero => intros; exact rfl
  | succ n ih => intros; exact e_h_find_6 hr ih _ _ _ _ _ _
def g_find (U S N : Nat) (a0 : Nat) (a2 : Int32) (a3 : Int32) (μ : RS) : Option (Int32 × RS) :=
  l_find_6 U S N N a0 a2 a3 0 0 μ
theorem e_g_find {μ0 : Mem} {r U S : Nat} (hr : r < μ0.1) {N : Nat} (a0 : Nat) (a2 : Int32) (a3 : Int32) (s : RS) : f_X12_find N a0 (fnd (pcs U S) μ0.1 2) a2 a3 (EM μ0 r (pcs U S) s) = (g_find U S N a0 a2 a3 s).map (em μ0 r U S) := by
  unfold f_X12_find g_find
  exact e_l_find_6 hr N _ _ _ _ _ _
def g_findTold_78 (U S N : Nat) (k2 : Int32 → Int32 → Int32 → RS → Option (Int32 × RS)) (a1 : Int32) (a2 : Int32) (a3 : Int32) (a4 : Int32) (μ : RS) : Option (Int32 × RS) :=
  if a4 = 0 then
    k2 a1 a2 (a3 + 1) μ
  else
    some (a3, μ)
theorem e_g_findTold_78 {μ0 : Mem} {r U S : Nat} (hr : r < μ0.1) {N : Nat} {k2 : (Option Nat) → Int32 → Int32 → Int32 → Mem → Option (Int32 × Mem)} {k2' : Int32 → Int32 → Int32 → RS → Option (Int32 × RS)} (hk2 : ∀ (x1 : Int32) (x2 : Int32) (x3 : Int32) (s : RS), k2 (some r) x1 x2 x3 (EM μ0 r (pcs U S) s) = (k2' x1 x2 x3 s).map (em μ0 r U S)) (a1 : Int32) (a2 : Int32) (a3 : Int32) (a4 : Int32) (s : RS) : f_X12_findTold_78 N k2 (some r) a1 a2 a3 a4 (EM μ0 r (pcs U S) s) = (g_findTold_78 U S N k2' a1 a2 a3 a4 s).map (em μ0 r U S) := by
  unfold f_X12_findTold_78 g_findTold_78
  refine st_if (fun _ => ?_) (fun _ => ?_)
  · exact hk2 _ _ _ _
  · exact rfl
def g_findTold_70 (U S N : Nat) (k2 : Int32 → Int32 → Int32 → RS → Option (Int32 × RS)) (k30 : Int32 → Int32 → Int32 → Int32 → Int32 → RS → Option (Int32 × RS)) (a1 : Int32) (a2 : Int32) (a3 : Int32) (a5 : Int32) (s0 : Int32) (μ : RS) : Option (Int32 × RS) :=
  k30 a1 a2 a3 s0 (a5 + 1) μ
theorem e_g_findTold_70 {μ0 : Mem} {r U S : Nat} (hr : r < μ0.1) {N : Nat} {k2 : (Option Nat) → Int32 → Int32 → Int32 → Mem → Option (Int32 × Mem)} {k2' : Int32 → Int32 → Int32 → RS → Option (Int32 × RS)} (hk2 : ∀ (x1 : Int32) (x2 : Int32) (x3 : Int32) (s : RS), k2 (some r) x1 x2 x3 (EM μ0 r (pcs U S) s) = (k2' x1 x2 x3 s).map (em μ0 r U S)) {k30 : (Option Nat) → Int32 → Int32 → Int32 → Int32 → Int32 → Mem → Option (Int32 × Mem)} {k30' : Int32 → Int32 → Int32 → Int32 → Int32 → RS → Option (Int32 × RS)} (hk30 : ∀ (x1 : Int32) (x2 : Int32) (x3 : Int32) (x4 : Int32) (x5 : Int32) (s : RS), k30 (some r) x1 x2 x3 x4 x5 (EM μ0 r (pcs U S) s) = (k30' x1 x2 x3 x4 x5 s).map (em μ0 r U S)) (a1 : Int32) (a2 : Int32) (a3 : Int32) (a5 : Int32) (s0 : Int32) (s : RS) : f_X12_findTold_70 N k2 k30 (some r) a1 a2 a3 a5 s0 (EM μ0 r (pcs U S) s) = (g_findTold_70 U S N k2' k30' a1 a2 a3 a5 s0 s).map (em μ0 r U S) := by
  unfold f_X12_findTold_70 g_findTold_70
  exact hk30 _ _ _ _ _ _
def h_findTold_30 (U S N : Nat) (k2 : Int32 → Int32 → Int32 → RS → Option (Int32 × RS)) (k30 : Int32 → Int32 → Int32 → Int32 → Int32 → RS → Option (Int32 × RS)) (a1 : Int32) (a2 : Int32) (a3 : Int32) (a4 : Int32) (a5 : Int32) (μ : RS) : Option (Int32 × RS) :=
  if a2 ≤ a5 then
    g_findTold_78 U S N k2 a1 a2 a3 a4 μ
  else
    if a4 = 0 then
      g_findTold_78 U S N k2 a1 a2 a3 a4 μ
    else
      (rA 1400 μ 17 ((7 * a3) + a5)).bind fun v2 =>
      (rA 2000 μ 2 (a1 + a5)).bind fun v4 =>
      if ¬ v2 = v4 then
        g_findTold_70 U S N k2 k30 a1 a2 a3 a5 0 μ
      else
        g_findTold_70 U S N k2 k30 a1 a2 a3 a5 1 μ
theorem e_h_findTold_30 {μ0 : Mem} {r U S : Nat} (hr : r < μ0.1) {N : Nat} {k2 : (Option Nat) → Int32 → Int32 → Int32 → Mem → Option (Int32 × Mem)} {k2' : Int32 → Int32 → Int32 → RS → Option (Int32 × RS)} (hk2 : ∀ (x1 : Int32) (x2 : Int32) (x3 : Int32) (s : RS), k2 (some r) x1 x2 x3 (EM μ0 r (pcs U S) s) = (k2' x1 x2 x3 s).map (em μ0 r U S)) {k30 : (Option Nat) → Int32 → Int32 → Int32 → Int32 → Int32 → Mem → Option (Int32 × Mem)} {k30' : Int32 → Int32 → Int32 → Int32 → Int32 → RS → Option (Int32 × RS)} (hk30 : ∀ (x1 : Int32) (x2 : Int32) (x3 : Int32) (x4 : Int32) (x5 : Int32) (s : RS), k30 (some r) x1 x2 x3 x4 x5 (EM μ0 r (pcs U S) s) = (k30' x1 x2 x3 x4 x5 s).map (em μ0 r U S)) (a1 : Int32) (a2 : Int32) (a3 : Int32) (a4 : Int32) (a5 : Int32) (s : RS) : H_X12_findTold_30 N k2 k30 (some r) a1 a2 a3 a4 a5 (EM μ0 r (pcs U S) s) = (h_findTold_30 U S N k2' k30' a1 a2 a3 a4 a5 s).map (em μ0 r U S) := by
  unfold H_X12_findTold_30 h_findTold_30
  refine st_if (fun _ => ?_) (fun _ => ?_)
  · exact e_g_findTold_78 hr hk2 _ _ _ _ _
  · refine st_if (fun _ => ?_) (fun _ => ?_)
    · exact e_g_findTold_78 hr hk2 _ _ _ _ _
    · refine st_fR hr _ (by decide) rfl ?_
      refine st_aI hr _ (lk_17 U S) _ fun v2 => ?_
      refine st_fR hr _ (by decide) rfl ?_
      refine st_aI hr _ (lk_2 U S) _ fun v4 => ?_
      refine st_if (fun _ => ?_) (fun _ => ?_)
      · exact e_g_findTold_70 hr hk2 hk30 _ _ _ _ _ _
      · exact e_g_findTold_70 hr hk2 hk30 _ _ _ _ _ _
def l_findTold_30 (U S N : Nat) (k2 : Int32 → Int32 → Int32 → RS → Option (Int32 × RS)) : Nat → Int32 → Int32 → Int32 → Int32 → Int32 → RS → Option (Int32 × RS)
  | 0 => fun _ _ _ _ _ _ => none
  | n + 1 => h_findTold_30 U S N k2 (l_findTold_30 U S N k2 n)
theorem e_l_findTold_30 {μ0 : Mem} {r U S : Nat} (hr : r < μ0.1) {N : Nat} {k2 : (Option Nat) → Int32 → Int32 → Int32 → Mem → Option (Int32 × Mem)} {k2' : Int32 → Int32 → Int32 → RS → Option (Int32 × RS)} (hk2 : ∀ (x1 : Int32) (x2 : Int32) (x3 : Int32) (s : RS), k2 (some r) x1 x2 x3 (EM μ0 r (pcs U S) s) = (k2' x1 x2 x3 s).map (em μ0 r U S)) : ∀ (n : Nat) (x1 : Int32) (x2 : Int32) (x3 : Int32) (x4 : Int32) (x5 : Int32) (s : RS), L_X12_findTold_30 N k2 n (some r) x1 x2 x3 x4 x5 (EM μ0 r (pcs U S) s) = (l_findTold_30 U S N k2' n x1 x2 x3 x4 x5 s).map (em μ0 r U S) := by
  intro n
  induction n with
  | zero => intros; exact rfl
  | succ n ih => intros; exact e_h_findTold_30 hr hk2 ih _ _ _ _ _ _
def g_findTold_25 (U S N : Nat) (k2 : Int32 → Int32 → Int32 → RS → Option (Int32 × RS)) (a1 : Int32) (a2 : Int32) (a3 : Int32) (s0 : Int32) (μ : RS) : Option (Int32 × RS) :=
  l_findTold_30 U S N k2 N a1 a2 a3 s0 0 μ
theorem e_g_findTold_25 {μ0 : Mem} {r U S : Nat} (hr : r < μ0.1) {N : Nat} {k2 : (Option Nat) → Int32 → Int32 → Int32 → Mem → Option (Int32 × Mem)} {k2' : Int32 → Int32 → Int32 → RS → Option (Int32 × RS)} (hk2 : ∀ (x1 : Int32) (x2 : Int32) (x3 : Int32) (s : RS), k2 (some r) x1 x2 x3 (EM μ0 r (pcs U S) s) = (k2' x1 x2 x3 s).map (em μ0 r U S)) (a1 : Int32) (a2 : Int32) (a3 : Int32) (s0 : Int32) (s : RS) : f_X12_findTold_25 N k2 (some r) a1 a2 a3 s0 (EM μ0 r (pcs U S) s) = (g_findTold_25 U S N k2' a1 a2 a3 s0 s).map (em μ0 r U S) := by
  unfold f_X12_findTold_25 g_findTold_25
  exact e_l_findTold_30 hr hk2 N _ _ _ _ _ _
def h_findTold_2 (U S N : Nat) (k2 : Int32 → Int32 → Int32 → RS → Option (Int32 × RS)) (a1 : Int32) (a2 : Int32) (a3 : Int32) (μ : RS) : Option (Int32 × RS) :=
  if (μ.1 21) ≤ a3 then
    some ((-1), μ)
  else
    (rA 200 μ 18 a3).bind fun v3 =>
    if ¬ v3 = a2 then
      g_findTold_25 U S N k2 a1 a2 a3 0 μ
    else
      g_findTold_25 U S N k2 a1 a2 a3 1 μ
theorem e_h_findTold_2 {μ0 : Mem} {r U S : Nat} (hr : r < μ0.1) {N : Nat} {k2 : (Option Nat) → Int32 → Int32 → Int32 → Mem → Option (Int32 × Mem)} {k2' : Int32 → Int32 → Int32 → RS → Option (Int32 × RS)} (hk2 : ∀ (x1 : Int32) (x2 : Int32) (x3 : Int32) (s : RS), k2 (some r) x1 x2 x3 (EM μ0 r (pcs U S) s) = (k2' x1 x2 x3 s).map (em μ0 r U S)) (a1 : Int32) (a2 : Int32) (a3 : Int32) (s : RS) : H_X12_findTold_2 N k2 (some r) a1 a2 a3 (EM μ0 r (pcs U S) s) = (h_findTold_2 U S N k2' a1 a2 a3 s).map (em μ0 r U S) := by
  unfold H_X12_findTold_2 h_findTold_2
  refine st_fI hr _ (by decide) rfl ?_
  refine st_if (fun _ => ?_) (fun _ => ?_)
  · exact rfl
  · refine st_fR hr _ (by decide) rfl ?_
    refine st_aI hr _ (lk_18 U S) _ fun v3 => ?_
    refine st_if (fun _ => ?_) (fun _ => ?_)
    · exact e_g_findTold_25 hr hk2 _ _ _ _ _
    · exact e_g_findTold_25 hr hk2 _ _ _ _ _
def l_findTold_2 (U S N : Nat)  : Nat → Int32 → Int32 → Int32 → RS → Option (Int32 × RS)
  | 0 => fun _ _ _ _ => none
  | n + 1 => h_findTold_2 U S N (l_findTold_2 U S N n)
theorem e_l_findTold_2 {μ0 : Mem} {r U S : Nat} (hr : r < μ0.1) {N : Nat} : ∀ (n : Nat) (x1 : Int32) (x2 : Int32) (x3 : Int32) (s : RS), L_X12_findTold_2 N n (some r) x1 x2 x3 (EM μ0 r (pcs U S) s) = (l_findTold_2 U S N n x1 x2 x3 s).map (em μ0 r U S) := by
  intro n
  induction n with
  | zero => intros; exact rfl
  | succ n ih => intros; exact e_h_findTold_2 hr ih _ _ _ _
def g_findTold (U S N : Nat) (a1 : Int32) (a2 : Int32) (μ : RS) : Option (Int32 × RS) :=
  l_findTold_2 U S N N a1 a2 0 μ
theorem e_g_findTold {μ0 : Mem} {r U S : Nat} (hr : r < μ0.1) {N : Nat} (a1 : Int32) (a2 : Int32) (s : RS) : f_X12_findTold N (some r) a1 a2 (EM μ0 r (pcs U S) s) = (g_findTold U S N a1 a2 s).map (em μ0 r U S) := by
  unfold f_X12_findTold g_findTold
  exact e_l_findTold_2 hr N _ _ _ _
def g_tells_202 (U S N : Nat) (μ : RS) : Option (Unit × RS) :=
  some ((), μ)
theorem e_g_tells_202 {μ0 : Mem} {r U S : Nat} (hr : r < μ0.1) {N : Nat} (s : RS) : f_X12_tells_202 N  (EM μ0 r (pcs U S) s) = (g_tells_202 U S N  s).map (em μ0 r U S) := by
  unfold f_X12_tells_202 g_tells_202
  exact rfl
def g_tells_185 (U S N : Nat) (a3 : Int32) (a5 : Int32) (μ : RS) : Option (Unit × RS) :=
  if a3 = (((-1)) : Int32) then
    g_tells_202 U S N μ
  else
    (wA 200 μ 19 a5 (a3 &&& 4095)).bind fun μ2 =>
    g_tells_202 U S N μ2
theorem e_g_tells_185 {μ0 : Mem} {r U S : Nat} (hr : r < μ0.1) {N : Nat} (a3 : Int32) (a5 : Int32) (s : RS) : f_X12_tells_185 N (some r) a3 a5 (EM μ0 r (pcs U S) s) = (g_tells_185 U S N a3 a5 s).map (em μ0 r U S) := by
  unfold f_X12_tells_185 g_tells_185
  refine st_if (fun _ => ?_) (fun _ => ?_)
  · exact e_g_tells_202 hr _
  · refine st_fR hr _ (by decide) rfl ?_
    refine st_bI hr _ (lk_19 U S) _ _ fun μ2 => ?_
    exact e_g_tells_202 hr _
def h_tells_142 (U S N : Nat) (k142 : Int32 → Int32 → Int32 → Int32 → Int32 → Int32 → RS → Option (Unit × RS)) (a1 : Int32) (a2 : Int32) (a3 : Int32) (a4 : Int32) (a5 : Int32) (a6 : Int32) (μ : RS) : Option (Unit × RS) :=
  if a2 ≤ a6 then
    (wZ 200 μ 20 a5 a4).bind fun μ2 =>
    g_tells_185 U S N a3 a5 μ2
  else
    (rA 2000 μ 2 (a1 + a6)).bind fun v5 =>
    (wA 1400 μ 17 ((7 * a5) + a6) v5).bind fun μ6 =>
    k142 a1 a2 a3 a4 a5 (a6 + 1) μ6
theorem e_h_tells_142 {μ0 : Mem} {r U S : Nat} (hr : r < μ0.1) {N : Nat} {k142 : (Option Nat) → Int32 → Int32 → Int32 → Int32 → Int32 → Int32 → Mem → Option (Unit × Mem)} {k142' : Int32 → Int32 → Int32 → Int32 → Int32 → Int32 → RS → Option (Unit × RS)} (hk142 : ∀ (x1 : Int32) (x2 : Int32) (x3 : Int32) (x4 : Int32) (x5 : Int32) (x6 : Int32) (s : RS), k142 (some r) x1 x2 x3 x4 x5 x6 (EM μ0 r (pcs U S) s) = (k142' x1 x2 x3 x4 x5 x6 s).map (em μ0 r U S)) (a1 : Int32) (a2 : Int32) (a3 : Int32) (a4 : Int32) (a5 : Int32) (a6 : Int32) (s : RS) : H_X12_tells_142 N k142 (some r) a1 a2 a3 a4 a5 a6 (EM μ0 r (pcs U S) s) = (h_tells_142 U S N k142' a1 a2 a3 a4 a5 a6 s).map (em μ0 r U S) := by
  unfold H_X12_tells_142 h_tells_142
  refine st_if (fun _ => ?_) (fun _ => ?_)
  · refine st_fR hr _ (by decide) rfl ?_
    refine st_bZ hr _ (lk_20 U S) _ _ fun μ2 => ?_
    exact e_g_tells_185 hr _ _ _
  · refine st_fR hr _ (by decide) rfl ?_
    refine st_fR hr _ (by decide) rfl ?_
    refine st_aI hr _ (lk_2 U S) _ fun v5 => ?_
    refine st_bI hr _ (lk_17 U S) _ _ fun μ6 => ?_
    exact hk142 _ _ _ _ _ _ _
def l_tells_142 (U S N : Nat)  : Nat → Int32 → Int32 → Int32 → Int32 → Int32 → Int32 → RS → Option (Unit × RS)
  | 0 => fun _ _ _ _ _ _ _ => none
  | n + 1 => h_tells_142 U S N (l_tells_142 U S N n)
theorem e_l_tells_142 {μ0 : Mem} {r U S : Nat} (hr : r < μ0.1) {N : Nat} : ∀ (n : Nat) (x1 : Int32) (x2 : Int32) (x3 : Int32) (x4 : Int32) (x5 : Int32) (x6 : Int32) (s : RS), L_X12_tells_142 N n (some r) x1 x2 x3 x4 x5 x6 (EM μ0 r (pcs U S) s) = (l_tells_142 U S N n x1 x2 x3 x4 x5 x6 s).map (em μ0 r U S) := by
  intro n
  induction n with
  | zero => intros; exact rfl
  | succ n ih => intros; exact e_h_tells_142 hr ih _ _ _ _ _ _ _
def g_tells_101 (U S N : Nat) (a1 : Int32) (a2 : Int32) (a3 : Int32) (a4 : Int32) (a5 : Int32) (μ : RS) : Option (Unit × RS) :=
  if (μ.1 5) ≤ 0 then
    if ¬ a5 = (((-1)) : Int32) then
      g_tells_185 U S N a3 a5 μ
    else
      (some (pI μ 21 ((μ.1 21) + 1))).bind fun μ4 =>
      (wA 200 μ4 18 (μ.1 21) a2).bind fun μ6 =>
      l_tells_142 U S N N a1 a2 a3 a4 (μ.1 21) 0 μ6
  else
    some ((), μ)
theorem e_g_tells_101 {μ0 : Mem} {r U S : Nat} (hr : r < μ0.1) {N : Nat} (a1 : Int32) (a2 : Int32) (a3 : Int32) (a4 : Int32) (a5 : Int32) (s : RS) : f_X12_tells_101 N (some r) a1 a2 a3 a4 a5 (EM μ0 r (pcs U S) s) = (g_tells_101 U S N a1 a2 a3 a4 a5 s).map (em μ0 r U S) := by
  unfold f_X12_tells_101 g_tells_101
  refine st_fI hr _ (by decide) rfl ?_
  refine st_if (fun _ => ?_) (fun _ => ?_)
  · refine st_if (fun _ => ?_) (fun _ => ?_)
    · exact e_g_tells_185 hr _ _ _
    · refine st_fI hr _ (by decide) rfl ?_
      refine st_fI hr _ (by decide) rfl ?_
      refine st_pI hr _ (by decide) rfl _ ?_
      refine st_fR hr _ (by decide) rfl ?_
      refine st_bI hr _ (lk_18 U S) _ _ fun μ6 => ?_
      exact e_l_tells_142 hr N _ _ _ _ _ _ _
  · exact rfl
def g_tells_78 (U S N : Nat) (a1 : Int32) (a2 : Int32) (a3 : Int32) (a4 : Int32) (a5 : Int32) (μ : RS) : Option (Unit × RS) :=
  if ¬ a5 = (((-1)) : Int32) then
    g_tells_101 U S N a1 a2 a3 a4 a5 μ
  else
    if ¬ (μ.1 21) = (200 : Int32) then
      g_tells_101 U S N a1 a2 a3 a4 a5 μ
    else
      (g_fails U S N 6 a1 μ).bind fun q2 =>
      g_tells_101 U S N a1 a2 a3 a4 a5 q2.2
theorem e_g_tells_78 {μ0 : Mem} {r U S : Nat} (hr : r < μ0.1) {N : Nat} (a1 : Int32) (a2 : Int32) (a3 : Int32) (a4 : Int32) (a5 : Int32) (s : RS) : f_X12_tells_78 N (some r) a1 a2 a3 a4 a5 (EM μ0 r (pcs U S) s) = (g_tells_78 U S N a1 a2 a3 a4 a5 s).map (em μ0 r U S) := by
  unfold f_X12_tells_78 g_tells_78
  refine st_if (fun _ => ?_) (fun _ => ?_)
  · exact e_g_tells_101 hr _ _ _ _ _ _
  · refine st_fI hr _ (by decide) rfl ?_
    refine st_if (fun _ => ?_) (fun _ => ?_)
    · exact e_g_tells_101 hr _ _ _ _ _ _
    · refine st_ck hr _ ?_
      refine st_call (e_g_fails hr _ _ _) fun q2 => ?_
      dsimp only
      exact e_g_tells_101 hr _ _ _ _ _ _
def g_tells_72 (U S N : Nat) (a1 : Int32) (a2 : Int32) (a3 : Int32) (a4 : Int32) (a5 : Int32) (μ : RS) : Option (Unit × RS) :=
  (g_fails U S N 4 a1 μ).bind fun q1 =>
  g_tells_78 U S N a1 a2 a3 a4 a5 q1.2
theorem e_g_tells_72 {μ0 : Mem} {r U S : Nat} (hr : r < μ0.1) {N : Nat} (a1 : Int32) (a2 : Int32) (a3 : Int32) (a4 : Int32) (a5 : Int32) (s : RS) : f_X12_tells_72 N (some r) a1 a2 a3 a4 a5 (EM μ0 r (pcs U S) s) = (g_tells_72 U S N a1 a2 a3 a4 a5 s).map (em μ0 r U S) := by
  unfold f_X12_tells_72 g_tells_72
  refine st_ck hr _ ?_
  refine st_call (e_g_fails hr _ _ _) fun q1 => ?_
  dsimp only
  exact e_g_tells_78 hr _ _ _ _ _ _
def g_tells_36 (U S N : Nat) (a1 : Int32) (a2 : Int32) (a3 : Int32) (a4 : Int32) (μ : RS) : Option (Unit × RS) :=
  (g_findTold U S N a1 a2 μ).bind fun q1 =>
  if ¬ (q1.2.1 9) = 0 then
    g_tells_78 U S N a1 a2 a3 a4 q1.1 q1.2
  else
    if q1.1 = (((-1)) : Int32) then
      g_tells_78 U S N a1 a2 a3 a4 q1.1 q1.2
    else
      if ¬ a4 = 0 then
        g_tells_72 U S N a1 a2 a3 a4 q1.1 q1.2
      else
        (rA 200 q1.2 20 q1.1).bind fun v5 =>
        if v5 = 0 then
          g_tells_78 U S N a1 a2 a3 a4 q1.1 q1.2
        else
          g_tells_72 U S N a1 a2 a3 a4 q1.1 q1.2
theorem e_g_tells_36 {μ0 : Mem} {r U S : Nat} (hr : r < μ0.1) {N : Nat} (a1 : Int32) (a2 : Int32) (a3 : Int32) (a4 : Int32) (s : RS) : f_X12_tells_36 N (some r) a1 a2 a3 a4 (EM μ0 r (pcs U S) s) = (g_tells_36 U S N a1 a2 a3 a4 s).map (em μ0 r U S) := by
  unfold f_X12_tells_36 g_tells_36
  refine st_ck hr _ ?_
  refine st_call (e_g_findTold hr _ _ _) fun q1 => ?_
  dsimp only
  refine st_fI hr _ (by decide) rfl ?_
  refine st_if (fun _ => ?_) (fun _ => ?_)
  · exact e_g_tells_78 hr _ _ _ _ _ _
  · refine st_if (fun _ => ?_) (fun _ => ?_)
    · exact e_g_tells_78 hr _ _ _ _ _ _
    · refine st_if (fun _ => ?_) (fun _ => ?_)
      · exact e_g_tells_72 hr _ _ _ _ _ _
      · refine st_fR hr _ (by decide) rfl ?_
        refine st_aI hr _ (lk_20 U S) _ fun v5 => ?_
        refine st_if (fun _ => ?_) (fun _ => ?_)
        · exact e_g_tells_78 hr _ _ _ _ _ _
        · exact e_g_tells_72 hr _ _ _ _ _ _
def g_tells_30 (U S N : Nat) (a1 : Int32) (a2 : Int32) (a3 : Int32) (a4 : Int32) (μ : RS) : Option (Unit × RS) :=
  (g_fails U S N 5 a1 μ).bind fun q1 =>
  g_tells_36 U S N a1 a2 a3 a4 q1.2
theorem e_g_tells_30 {μ0 : Mem} {r U S : Nat} (hr : r < μ0.1) {N : Nat} (a1 : Int32) (a2 : Int32) (a3 : Int32) (a4 : Int32) (s : RS) : f_X12_tells_30 N (some r) a1 a2 a3 a4 (EM μ0 r (pcs U S) s) = (g_tells_30 U S N a1 a2 a3 a4 s).map (em μ0 r U S) := by
  unfold f_X12_tells_30 g_tells_30
  refine st_ck hr _ ?_
  refine st_call (e_g_fails hr _ _ _) fun q1 => ?_
  dsimp only
  exact e_g_tells_36 hr _ _ _ _ _
def g_tells (U S N : Nat) (a1 : Int32) (a2 : Int32) (a3 : Int32) (a4 : Int32) (μ : RS) : Option (Unit × RS) :=
  (g_find U S N 12 a1 a2 μ).bind fun q2 =>
  if ¬ q2.1 = (((-1)) : Int32) then
    g_tells_30 U S N a1 a2 a3 a4 q2.2
  else
    (g_find U S N 13 a1 a2 q2.2).bind fun q4 =>
    if q4.1 = (((-1)) : Int32) then
      g_tells_36 U S N a1 a2 a3 a4 q4.2
    else
      g_tells_30 U S N a1 a2 a3 a4 q4.2
theorem e_g_tells {μ0 : Mem} {r U S : Nat} (hr : r < μ0.1) {N : Nat} (a1 : Int32) (a2 : Int32) (a3 : Int32) (a4 : Int32) (s : RS) : f_X12_tells N (some r) a1 a2 a3 a4 (EM μ0 r (pcs U S) s) = (g_tells U S N a1 a2 a3 a4 s).map (em μ0 r U S) := by
  unfold f_X12_tells g_tells
  refine st_fR hr _ (by decide) rfl ?_
  refine st_call (e_g_find hr _ _ _ _) fun q2 => ?_
  dsimp only
  refine st_if (fun _ => ?_) (fun _ => ?_)
  · exact e_g_tells_30 hr _ _ _ _ _
  · refine st_fR hr _ (by decide) rfl ?_
    refine st_call (e_g_find hr _ _ _ _) fun q4 => ?_
    dsimp only
    refine st_if (fun _ => ?_) (fun _ => ?_)
    · exact e_g_tells_36 hr _ _ _ _ _
    · exact e_g_tells_30 hr _ _ _ _ _
def g_labels_63 (U S N : Nat) (μ : RS) : Option (Unit × RS) :=
  (some (pI μ 27 (μ.1 13))).bind fun μ2 =>
  some ((), μ2)
theorem e_g_labels_63 {μ0 : Mem} {r U S : Nat} (hr : r < μ0.1) {N : Nat} (s : RS) : f_X12_labels_63 N (some r) (EM μ0 r (pcs U S) s) = (g_labels_63 U S N  s).map (em μ0 r U S) := by
  unfold f_X12_labels_63 g_labels_63
  refine st_fI hr _ (by decide) rfl ?_
  refine st_pI hr _ (by decide) rfl _ ?_
  exact rfl
def g_labels_60 (U S N : Nat) (k0 : RS → Option (Unit × RS)) (μ : RS) : Option (Unit × RS) :=
  k0 μ
theorem e_g_labels_60 {μ0 : Mem} {r U S : Nat} (hr : r < μ0.1) {N : Nat} {k0 : (Option Nat) → Mem → Option (Unit × Mem)} {k0' : RS → Option (Unit × RS)} (hk0 : ∀  (s : RS), k0 (some r) (EM μ0 r (pcs U S) s) = (k0'  s).map (em μ0 r U S)) (s : RS) : f_X12_labels_60 N k0 (some r) (EM μ0 r (pcs U S) s) = (g_labels_60 U S N k0'  s).map (em μ0 r U S) := by
  unfold f_X12_labels_60 g_labels_60
  exact hk0 _
def h_labels_0 (U S N : Nat) (k0 : RS → Option (Unit × RS)) (μ : RS) : Option (Unit × RS) :=
  if ¬ (μ.1 5) = 0 then
    g_labels_63 U S N μ
  else
    if ¬ (μ.1 12) = (1 : Int32) then
      g_labels_63 U S N μ
    else
      (g_isNext U S N 44 μ).bind fun q3 =>
      if q3.1 = 0 then
        g_labels_63 U S N q3.2
      else
        (g_take U S N q3.2).bind fun q7 =>
        (g_tells U S N (q3.2.1 13) (q3.2.1 15) (q7.2.1 11) 1 q7.2).bind fun q10 =>
        if ¬ (q10.2.1 5) = 0 then
          g_labels_60 U S N k0 q10.2
        else
          (g_take U S N q10.2).bind fun q13 =>
          g_labels_60 U S N k0 q13.2
theorem e_h_labels_0 {μ0 : Mem} {r U S : Nat} (hr : r < μ0.1) {N : Nat} {k0 : (Option Nat) → Mem → Option (Unit × Mem)} {k0' : RS → Option (Unit × RS)} (hk0 : ∀  (s : RS), k0 (some r) (EM μ0 r (pcs U S) s) = (k0'  s).map (em μ0 r U S)) (s : RS) : H_X12_labels_0 N k0 (some r) (EM μ0 r (pcs U S) s) = (h_labels_0 U S N k0'  s).map (em μ0 r U S) := by
  unfold H_X12_labels_0 h_labels_0
  refine st_fI hr _ (by decide) rfl ?_
  refine st_if (fun _ => ?_) (fun _ => ?_)
  · exact e_g_labels_63 hr _
  · refine st_fI hr _ (by decide) rfl ?_
    refine st_if (fun _ => ?_) (fun _ => ?_)
    · exact e_g_labels_63 hr _
    · refine st_ck hr _ ?_
      refine st_call (e_g_isNext hr _ _) fun q3 => ?_
      dsimp only
      refine st_if (fun _ => ?_) (fun _ => ?_)
      · exact e_g_labels_63 hr _
      · refine st_fI hr _ (by decide) rfl ?_
        refine st_fI hr _ (by decide) rfl ?_
        refine st_ck hr _ ?_
        refine st_call (e_g_take hr _) fun q7 => ?_
        dsimp only
        refine st_fI hr _ (by decide) rfl ?_
        refine st_ck hr _ ?_
        refine st_call (e_g_tells hr _ _ _ _ _) fun q10 => ?_
        dsimp only
        refine st_fI hr _ (by decide) rfl ?_
        refine st_if (fun _ => ?_) (fun _ => ?_)
        · exact e_g_labels_60 hr hk0 _
        · refine st_ck hr _ ?_
          refine st_call (e_g_take hr _) fun q13 => ?_
          dsimp only
          exact e_g_labels_60 hr hk0 _
