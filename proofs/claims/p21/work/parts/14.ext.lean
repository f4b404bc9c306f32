/-! THE CELLS THAT ARE THERE BEFORE: two static arrays, four texts (by program out of the Statement) -/
def x_fv : List Int32 := [0, 0, 0, 0, 0, 0, 512, 1024, 1536, 2048, 2560, 256, 0, 3584, 3712, 3648, 3616, 3600, 3592, 3588, 3594, 3590, 3586, 3585, 3617, 3664, 3904, 3872, 3912, 3880, 3856, 3864, 3848, 3844, 3842, 3857, 3905, 3921, 3845, 3847, 3851, 3853, 3855, 3097, 3098, 3100, 3102, 3105, 3110, 3344, 3343, 3360, 3361]
def x_cd : List Int32 := [0, 512, 1024, 1536, 2048, 2560, 256, 0, 3584, 3712, 3648, 3616, 3600, 3592, 3588, 3594, 3590, 3586, 3585, 3617, 3664, 3904, 3872, 3912, 3880, 3856, 3864, 3848, 3844, 3842, 3857, 3905, 3921, 3845, 3847, 3851, 3853, 3855, 3097, 3098, 3100, 3102, 3105, 3110, 3344, 3343, 3360, 3361]
def x_tx0 : String := "PAGE DECIMAL OCTAL ZBLOCK TEXT AND TAD ISZ DCA JMS JMP I Z NOP CLA CLL CMA CML RAR RAL RTR RTL BSW IAC CIA STL SMA SZA SPA SNA SNL SZL SKP OSR HLT MQL MQA SWP MUY DVI SHL ASR LSR KSF KCC KRS KRB TSF TLS SLEEP WHO RDB WRB "
def x_by0 : List Int32 := [80, 65, 71, 69, 32, 68, 69, 67, 73, 77, 65, 76, 32, 79, 67, 84, 65, 76, 32, 90, 66, 76, 79, 67, 75, 32, 84, 69, 88, 84, 32, 65, 78, 68, 32, 84, 65, 68, 32, 73, 83, 90, 32, 68, 67, 65, 32, 74, 77, 83, 32, 74, 77, 80, 32, 73, 32, 90, 32, 78, 79, 80, 32, 67, 76, 65, 32, 67, 76, 76, 32, 67, 77, 65, 32, 67, 77, 76, 32, 82, 65, 82, 32, 82, 65, 76, 32, 82, 84, 82, 32, 82, 84, 76, 32, 66, 83, 87, 32, 73, 65, 67, 32, 67, 73, 65, 32, 83, 84, 76, 32, 83, 77, 65, 32, 83, 90, 65, 32, 83, 80, 65, 32, 83, 78, 65, 32, 83, 78, 76, 32, 83, 90, 76, 32, 83, 75, 80, 32, 79, 83, 82, 32, 72, 76, 84, 32, 77, 81, 76, 32, 77, 81, 65, 32, 83, 87, 80, 32, 77, 85, 89, 32, 68, 86, 73, 32, 83, 72, 76, 32, 65, 83, 82, 32, 76, 83, 82, 32, 75, 83, 70, 32, 75, 67, 67, 32, 75, 82, 83, 32, 75, 82, 66, 32, 84, 83, 70, 32, 84, 76, 83, 32, 83, 76, 69, 69, 80, 32, 87, 72, 79, 32, 82, 68, 66, 32, 87, 82, 66, 32]
def x_tx1 : String := ",*=+-!&.()[];$"
def x_by1 : List Int32 := [44, 42, 61, 43, 45, 33, 38, 46, 40, 41, 91, 93, 59, 36]
def x_tx2 : String := "AND TAD ISZ DCA JMS JMP I Z NOP CLA CLL CMA CML RAR RAL RTR RTL BSW IAC CIA STL SMA SZA SPA SNA SNL SZL SKP OSR HLT MQL MQA SWP MUY DVI SHL ASR LSR KSF KCC KRS KRB TSF TLS SLEEP WHO RDB WRB "
def x_by2 : List Int32 := [65, 78, 68, 32, 84, 65, 68, 32, 73, 83, 90, 32, 68, 67, 65, 32, 74, 77, 83, 32, 74, 77, 80, 32, 73, 32, 90, 32, 78, 79, 80, 32, 67, 76, 65, 32, 67, 76, 76, 32, 67, 77, 65, 32, 67, 77, 76, 32, 82, 65, 82, 32, 82, 65, 76, 32, 82, 84, 82, 32, 82, 84, 76, 32, 66, 83, 87, 32, 73, 65, 67, 32, 67, 73, 65, 32, 83, 84, 76, 32, 83, 77, 65, 32, 83, 90, 65, 32, 83, 80, 65, 32, 83, 78, 65, 32, 83, 78, 76, 32, 83, 90, 76, 32, 83, 75, 80, 32, 79, 83, 82, 32, 72, 76, 84, 32, 77, 81, 76, 32, 77, 81, 65, 32, 83, 87, 80, 32, 77, 85, 89, 32, 68, 86, 73, 32, 83, 72, 76, 32, 65, 83, 82, 32, 76, 83, 82, 32, 75, 83, 70, 32, 75, 67, 67, 32, 75, 82, 83, 32, 75, 82, 66, 32, 84, 83, 70, 32, 84, 76, 83, 32, 83, 76, 69, 69, 80, 32, 87, 72, 79, 32, 82, 68, 66, 32, 87, 82, 66, 32]
def x_tx3 : String := "PAGE DECIMAL OCTAL ZBLOCK TEXT "
def x_by3 : List Int32 := [80, 65, 71, 69, 32, 68, 69, 67, 73, 77, 65, 76, 32, 79, 67, 84, 65, 76, 32, 90, 66, 76, 79, 67, 75, 32, 84, 69, 88, 84, 32]
def x_len : List Nat := [221, 14, 190, 31]
def x_byt : List (List Int32) := [x_by0, x_by1, x_by2, x_by3]
def Ext (g : CG) (U : State) : Prop :=
  va_Z "ShareEight$Names" "FIXED_VALUES" "[I" (.ref (g.1.2.1 0)) (fun q => g.1.1 ≤ q) U U.heap ∧
  va_T .int (g.1.2.1 0) 53 (fun j => .int (x_fv.getD j 0)) (fun q => g.1.1 ≤ q) U U.heap ∧
  va_Z "ShareEightModel" "CODES" "[I" (.ref (g.1.2.1 1)) (fun q => g.1.1 ≤ q) U U.heap ∧
  va_T .int (g.1.2.1 1) 48 (fun j => .int (x_cd.getD j 0)) (fun q => g.1.1 ≤ q) U U.heap ∧
  va_Z "java/lang/String" "COMPACT_STRINGS" "Z" (.int 1) (fun q => g.1.1 ≤ q) U U.heap ∧
  vk_S 4 x_len x_byt (fun i => g.1.2.1 (10 + i)) (fun i => g.1.2.1 (20 + i)) (fun q => g.1.1 ≤ q) U U.heap ∧
  va_T .int (g.1.2.1 2) g.1.2.2.1 (fun j => .int (g.1.2.2.2 j)) (fun q => g.1.1 ≤ q) U U.heap ∧
  (va_Z "jdk/internal/util/Preconditions" "SIOOBE_FORMATTER" "Ljava/util/function/BiFunction;" .null (fun q => g.1.1 ≤ q) U U.heap ∨ va_Z "jdk/internal/util/Preconditions" "SIOOBE_FORMATTER" "Ljava/util/function/BiFunction;" (.ref (g.1.2.1 30)) (fun q => g.1.1 ≤ q) U U.heap) ∧
  vk_R "ShareEight$Names" 32 x_tx0 (g.1.2.1 10) U ∧
  vk_R "ShareEight$Tokens" 89 x_tx1 (g.1.2.1 11) U ∧
  vk_R "ShareEightModel" 67 x_tx1 (g.1.2.1 11) U ∧
  vk_R "ShareEightModel" 101 x_tx2 (g.1.2.1 12) U ∧
  vk_R "ShareEightModel" 107 x_tx3 (g.1.2.1 13) U
theorem ext_mv {g : CG} {u U : State} (h : Ext g u) (hA : u.vm.Alike U.vm) (hR : ∀ own k tx a, vk_R own k tx a u → vk_R own k tx a U) (hk : ∀ q : Nat, q < u.heap.size → ¬ g.1.1 ≤ q → U.heap[q]? = u.heap[q]?) : Ext g U :=
  ⟨((h.1).moved hA).kept hk, ((h.2.1).moved hA).kept hk, ((h.2.2.1).moved hA).kept hk, ((h.2.2.2.1).moved hA).kept hk, ((h.2.2.2.2.1).moved hA).kept hk, ((h.2.2.2.2.2.1).moved hA).kept hk, ((h.2.2.2.2.2.2.1).moved hA).kept hk, (h.2.2.2.2.2.2.2.1).imp (fun z => (z.moved hA).kept hk) (fun z => (z.moved hA).kept hk), hR _ _ _ _ h.2.2.2.2.2.2.2.2.1, hR _ _ _ _ h.2.2.2.2.2.2.2.2.2.1, hR _ _ _ _ h.2.2.2.2.2.2.2.2.2.2.1, hR _ _ _ _ h.2.2.2.2.2.2.2.2.2.2.2.1, hR _ _ _ _ h.2.2.2.2.2.2.2.2.2.2.2.2⟩
theorem ext_warm {g : CG} {s U : State} (h : Ext g s) (hW : s.WarmedH U.vm) (hk : ∀ q : Nat, q < s.heap.size → ¬ g.1.1 ≤ q → U.heap[q]? = s.heap[q]?) : Ext g U := ext_mv h hW.alike (fun _ _ _ _ z => z.warm hW) hk
theorem ext_blind {g : CG} {U : State} (h : Ext g U) (f : JFrame) (mk : MethodId) (a : Array Value) : Ext g (U.calling f mk a) := ext_mv h (Vm.Alike.refl U.vm) (fun _ _ _ _ z => z.same rfl) (fun _ _ _ => rfl)
-- the words that every call carries, and the nest's
def goodW (w : Cond) : Bool := (w.onTables && w.keeps) || (match w with | .arrayClass _ => true | _ => false)
def nestW (w : Cond) : Bool := match w with
  | .fieldLinkNest .. => true
  | .methodLinkNest .. => true
  | .arrayOver _ => true
  | _ => false
def lw_ok : List Cond := lw_tbl.filter goodW
def lw_ns : List Cond := lw_tbl.filter nestW
theorem ok_good : GoodIn lw_ok lw_ok := by
  intro w hw
  refine ⟨hw, ?_⟩
  have h := (List.mem_filter.mp hw).2
  unfold goodW at h
  rw [Bool.or_eq_true] at h
  rcases h with h | h
  · exact Or.inl h
  · cases w <;> first | (exact Or.inr ⟨_, rfl⟩) | (cases h; done)
theorem ao_moved {ty : FieldType} {u U : State} (hvm : u.vm.Alike U.vm) (h : va_Nw (.arrayOver ty) u) : va_Nw (.arrayOver ty) U := by
  have e := Cond.arrayOver_setVmC (args := #[]) hvm ty
  have h2 : (Cond.arrayOver ty).before #[] (u.setVm U.vm) = true := by rw [e]; exact h
  exact h2
theorem ns_warm {s U : State} (hW : s.WarmedH U.vm) (h : ∀ w ∈ lw_ns, va_Nw w s) : ∀ w ∈ lw_ns, va_Nw w U := by
  intro w hw
  have h1 := h w hw
  have h2 := (List.mem_filter.mp hw).2
  cases w <;> first | (exact va_Nw.warmF hW h1) | (exact va_Nw.warmM hW h1) | (exact ao_moved hW.alike h1) | (cases h2; done)
theorem ns_same {U : State} (f : JFrame) (mk : MethodId) (a : Array Value) (h : ∀ w ∈ lw_ns, va_Nw w U) : ∀ w ∈ lw_ns, va_Nw w (U.calling f mk a) := by
  intro w hw
  have h1 := h w hw
  have h2 := (List.mem_filter.mp hw).2
  cases w <;> first | (exact va_Nw.same rfl rfl h1) | (exact ao_moved (Vm.Alike.refl U.vm) h1) | (cases h2; done)
