/-! What is to be said of entries and methods. -/
/-- a body's entries -/
def mi_VE (cc : ByteArray) (own : String) (cl : List vw_C) (s : State) (args : Array Value) (ini : Bool) (tb : mB) : Prop := ∀ (pc : Nat) (q : mI), mi_lk tb pc = some q → (decode cc pc = .ok (q.1, mi_len q.1) ∨ ∃ d lo hi offs, q.1 = .tableswitch d lo hi offs ∧ ∃ len, decode cc pc = .ok (q.1, len)) ∧ (q.2.1 = pc + mi_len q.1 ∨ ∃ d lo hi offs, q.1 = .tableswitch d lo hi offs) ∧ mi_V1 q.1 pc q.2.2.1 q.2.2.2.2.2 ∧ mi_V2 own cl s args ini q.1 q.2.2.1 q.2.2.2.1
abbrev mY : Type := MethodName × ByteArray × Nat × Nat
/-- what the words say of a method: its name, code; how many parameters; 0 static, 1 virtual, 2 a constructor -/
def mi_YF (Ts : List Cond) (q : mM) (y : mY) : Prop := plainName y.1.cls = true ∧ Jvm.Cond.code y.1 y.2.1 q.2.1 q.2.2 ∈ Ts ∧ Jvm.Cond.initialized y.1.cls ∈ Ts ∧ (y.1.cls ≠ "java/lang/invoke/MethodHandle" ∧ y.1.cls ≠ "java/lang/invoke/VarHandle" ∧ (parseMethodDescriptor y.1.desc).map (fun d => d.parameters.length) = some y.2.2.1) ∧ (y.2.2.2 = 0 → Jvm.Cond.static y.1 ∈ Ts) ∧ (y.2.2.2 = 1 → Jvm.Cond.instanceMethod y.1 ∈ Ts ∧ Jvm.Cond.selects y.1.cls y.1 y.1 ∈ Ts) ∧ (y.2.2.2 = 2 → Jvm.Cond.instanceMethod y.1 ∈ Ts ∧ y.1.name = "<init>" ∧ q.2.2 = none) ∧ q.2.1 ≤ 20
def mi_VC (Ts : List Cond) (own : String) (Y : List mY) (cl : List vw_C) (x : mI) : Prop := match x.1 with
  | .invokevirtual k => ∃ (y : mY) (T : u_T) (N : Nat), Y[x.2.2.1]? = some y ∧ y.2.2.2 = 1 ∧ x.2.2.2.1 = y.2.2.1 + 1 ∧ Jvm.Cond.methodLink own k y.1 ∈ Ts ∧ cl[x.2.2.2.2.1]? = some (y.1.cls, T, N) ∧ Nat.beq x.2.2.2.2.1 99 = false ∧ Nat.beq x.2.2.2.2.1 98 = false
  | .invokestatic k => ∃ y : mY, Y[x.2.2.1]? = some y ∧ y.2.2.2 = 0 ∧ x.2.2.2.1 = y.2.2.1 ∧ Jvm.Cond.methodLink own k y.1 ∈ Ts
  | .invokespecial k => ∃ y : mY, Y[x.2.2.1]? = some y ∧ y.2.2.2 = 2 ∧ x.2.2.2.1 = y.2.2.1 + 1 ∧ Jvm.Cond.methodLink own k y.1 ∈ Ts ∧ Nat.beq x.2.2.2.2.1 99 = false
  | _ => True
