/-! LAYER 0, switches, arrays of references, new cells -/
def sel (a : Int32) (cs : List (Int32 × Nat)) (dt : Nat) : Nat := match cs with
  | [] => dt
  | q :: r => if a = q.1 then q.2 else sel a r dt
theorem sel_look (pc : Nat) (a : Int32) (cs : List (Int32 × Nat)) (dt : Nat) (df : Int) (hd : (pc : Int) + df = (dt : Int)) : (pc : Int) + Op.lookupswitch.offset (cs.map (fun q => (q.1.toInt, (q.2 : Int) - (pc : Int)))) df a.toInt = ((sel a cs dt : Nat) : Int) := by
  induction cs with
  | nil => exact hd
  | cons q r ih =>
    rw [List.map_cons, Op.lookupswitch.offset_cons]
    unfold sel
    by_cases h : a = q.1
    · rw [if_pos (by rw [h]), if_pos h]; omega
    · rw [if_neg (fun z => h (Int32.toInt_inj.mp z).symm), if_neg h]; exact ih
theorem v_lookupswitch {x : CX} {l : Launch} {g : CG} {M : MI} {nL k n : Nat} {μ : Mem} {pc : Nat} {lv : LV} {st : List AV} (C : Cx x l g M) {a : Int32} {df : Int} {ps : Array (Int × Int)} {len dt : Nat} (cs : List (Int32 × Nat)) (d : decode M.1 pc = .ok (.lookupswitch df ps, len)) (hp : (ps.toList.zip (ps.toList.drop 1)).all (fun (a, next) => a.1 < next.1) = true) (hc : ps.toList = cs.map (fun q => (q.1.toInt, (q.2 : Int) - (pc : Int)))) (hd : (pc : Int) + df = (dt : Int)) (kk : V x g nL k n μ (sel a cs dt) lv st) : V x g nL k n μ pc lv (aI a :: st) := by
  obtain ⟨p, l0, e, R, s, m, args, below, meth, c, Q⟩ := x
  intro h0 H locs ls h1 h2 h3
  exact lv_lookup C.1 C.2.1 d hp rfl (by rw [hc]; exact sel_look pc a cs dt df hd) (kk h0 H locs ls h1 h2 h3)
theorem v_case {x : CX} {g : CG} {nL k n : Nat} {μ : Mem} {lv : LV} {st : List AV} {a k0 : Int32} {t dt : Nat} {cs : List (Int32 × Nat)} (kt : a = k0 → V x g nL k n μ t lv st) (kf : ¬ a = k0 → V x g nL k n μ (sel a cs dt) lv st) : V x g nL k n μ (sel a ((k0, t) :: cs) dt) lv st := by
  unfold sel
  by_cases h : a = k0
  · rw [if_pos h]; exact kt h
  · rw [if_neg h]; exact kf h
theorem sel_tab (a : Int32) (dt : Nat) : ∀ (ts : List Nat) (lo : Int) (cs : List (Int32 × Nat)), cs.map (fun q => q.1.toInt) = (List.range ts.length).map (fun (i : Nat) => lo + (i : Int)) → cs.map (fun q => q.2) = ts → sel a cs dt = if a.toInt < lo ∨ lo + ts.length ≤ a.toInt then dt else ts.getD (a.toInt - lo).toNat dt := by
  intro ts
  induction ts with
  | nil =>
    intro lo cs h1 h2
    cases cs with
    | nil => unfold sel; rw [if_pos (by simp only [List.length_nil]; omega)]
    | cons q r => cases h2
  | cons t ts ih =>
    intro lo cs h1 h2
    cases cs with
    | nil => cases h2
    | cons q r =>
      rw [List.length_cons, List.range_succ_eq_map, List.map_cons, List.map_cons, List.map_map] at h1
      injection h1 with h3 h4
      injection h2 with h5 h6
      have h3 : q.1.toInt = lo := by rw [h3]; simp
      have h5 : q.2 = t := h5
      unfold sel
      by_cases h : a = q.1
      · rw [if_pos h, h, h3, if_neg (by simp only [List.length_cons]; omega), h5]
        simp
      · rw [if_neg h]
        have hne : a.toInt ≠ lo := fun z => h (Int32.toInt_inj.mp (z.trans h3.symm))
        rw [ih (lo + 1) r (by rw [h4]; apply List.map_congr_left; intro i _; simp only [Function.comp_apply]; omega) h6]
        simp only [List.length_cons]
        by_cases c1 : a.toInt < lo
        · rw [if_pos (Or.inl (by omega)), if_pos (Or.inl c1)]
        · by_cases c2 : lo + (↑(ts.length + 1) : Int) ≤ a.toInt
          · rw [if_pos (Or.inr (by omega)), if_pos (Or.inr c2)]
          · rw [if_neg (by omega), if_neg (by omega)]
            have : (a.toInt - lo).toNat = (a.toInt - (lo + 1)).toNat + 1 := by omega
            rw [this, List.getD_cons_succ]
theorem v_tableswitch {x : CX} {l : Launch} {g : CG} {M : MI} {nL k n : Nat} {μ : Mem} {pc : Nat} {lv : LV} {st : List AV} (C : Cx x l g M) {a : Int32} {df lo hi : Int} {offs : Array Int} {len dt : Nat} (cs : List (Int32 × Nat)) (d : decode M.1 pc = .ok (.tableswitch df lo hi offs, len)) (h1 : cs.map (fun q => q.1.toInt) = (List.range cs.length).map (fun (i : Nat) => lo + (i : Int))) (h2 : offs.toList = cs.map (fun q => (q.2 : Int) - (pc : Int))) (hh : hi + 1 = lo + (cs.length : Int)) (hd : (pc : Int) + df = (dt : Int)) (kk : V x g nL k n μ (sel a cs dt) lv st) : V x g nL k n μ pc lv (aI a :: st) := by
  obtain ⟨p, l0, e, R, s, m, args, below, meth, c, Q⟩ := x
  intro h0 H locs ls h5 h6 h7
  have hs := sel_tab a dt (cs.map (fun q => q.2)) lo cs (by rw [List.length_map]; exact h1) rfl
  rw [List.length_map] at hs
  by_cases c1 : a.toInt < lo ∨ hi < a.toInt
  · rw [if_pos (by omega)] at hs
    exact lv_tableOut C.1 C.2.1 d c1 (by rw [hs] at *; exact hd) (by have := kk h0 H locs ls h5 h6 h7; rw [hs] at this; exact this)
  · rw [if_neg (by omega)] at hs
    have hlt : (a.toInt - lo).toNat < cs.length := by omega
    have ho : offs[(a.toInt - lo).toNat]? = some ((cs[(a.toInt - lo).toNat].2 : Int) - (pc : Int)) := by
      rw [← Array.getElem?_toList, h2, List.getElem?_map, List.getElem?_eq_getElem hlt]; rfl
    have hg : (cs.map (fun q => q.2)).getD (a.toInt - lo).toNat dt = cs[(a.toInt - lo).toNat].2 := by
      rw [List.getD_eq_getElem?_getD, List.getElem?_map, List.getElem?_eq_getElem hlt]; rfl
    rw [hg] at hs
    exact lv_tableIn C.1 C.2.1 d (fun z => c1 (Or.inl z)) (fun z => c1 (Or.inr z)) ho (by rw [← hs]; omega : (pc : Int) + ((cs[(a.toInt - lo).toNat].2 : Int) - (pc : Int)) = ((sel a cs dt : Nat) : Int)) (kk h0 H locs ls h5 h6 h7)
