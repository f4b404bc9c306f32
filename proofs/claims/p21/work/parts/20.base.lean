/-! LAYER 0, the judgement -/
-- the context of a walk
abbrev CX : Type := Program × Launch × Env × Room × State × MethodId × Array Value × List Frame × Method × Code × (State → Prop)
def WX (x : CX) (H : Heap) (locs : List Loc) (k n : Nat) (f : JFrame) : Prop := match x with
  | (p, l, e, R, s, m, args, below, meth, c, Q) => W p l e R s m args below meth c H locs k n Q f
abbrev xs (x : CX) : State := x.2.2.2.2.1
abbrev xm (x : CX) : MethodId := x.2.2.2.2.2.1
abbrev xa (x : CX) : Array Value := x.2.2.2.2.2.2.1
abbrev xb (x : CX) : List Frame := x.2.2.2.2.2.2.2.1
abbrev xM (x : CX) : Method := x.2.2.2.2.2.2.2.2.1
abbrev xc (x : CX) : Code := x.2.2.2.2.2.2.2.2.2.1
abbrev xQ (x : CX) : State → Prop := x.2.2.2.2.2.2.2.2.2.2
/-- a method's fixed things: code, locals, class, name, answer's type, room -/
abbrev MI : Type := ByteArray × Nat × String × String × Option FieldType × Room
def Cx (x : CX) (l : Launch) (g : CG) (M : MI) : Prop :=
  x.1.tables.exec = Jvm.exec ∧ (xc x).code = M.1 ∧ (xc x).maxLocals = M.2.1 ∧ (xs x).vm.findClass M.2.2.1 = some (xm x).cls ∧ (∀ w ∈ lw_ok, w.before (xa x) (xs x) = true) ∧ va_K g.2.1 vwCl g.2.2 (xs x) ∧ (xM x).locks = false ∧ g.1.1 ≤ (xs x).heap.size ∧ x.2.1 = l ∧ x.2.2.2.1 = M.2.2.2.2.2 ∧ (xM x).sig.returnType = M.2.2.2.2.1 ∧ (xM x).name = M.2.2.2.1 ∧ g.2.2.map (fun q => q.2) = arrTys ∧ Ext g (xs x) ∧ (∀ w ∈ lw_ns, va_Nw w (xs x))
def V (x : CX) (g : CG) (nL k n : Nat) (μ : Mem) (pc : Nat) (lv : LV) (st : List AV) : Prop :=
  (xs x).heap.size + k = g.1.1 + μ.1 → ∀ (H : Heap) (locs : List Loc) (ls : Array Slot), Hold g μ H → va_S (fun q => g.1.1 ≤ q) (xs x).heap H locs → lv_has ls nL (lvm g.1 lv) → WX x H locs k n (F0 (xm x) pc ls (st.map (av_v g.1)))
