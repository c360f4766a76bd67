section
/-! The mini: a small interpreter over a heap of any kind (a list of cells; later: two functions). A reference is the place of its cell. -/
abbrev mE : Type := (Nat × vp_A) ⊕ (Nat × List Value)
abbrev mH : Type := List mE
abbrev mL : Type := List (Option Value)
/-- what stands at a pc: the instruction, the next pc, three numbers (target; class, slot; method, how many values, receiver's class), a constant -/
abbrev mI : Type := Instr × Nat × Nat × Nat × Nat × Value
abbrev mB : Type := List (Nat × mI)
abbrev mS (α : Type) : Type := Nat × mL × List Value × α
abbrev mA (α : Type) : Type := Option Value × α
/-- getfield, putfield, load, store, length, new, newarray, 'is of this class' -/
abbrev mOp (α : Type) : Type := (Nat → Nat → Nat → α → Option Value) × (Nat → Nat → Nat → Value → α → Option α) × (Nat → Nat → Int32 → α → Option Value) × (Nat → Nat → Int32 → Value → α → Option α) × (Nat → α → Option Int32) × (Nat → α → Option (Nat × α)) × (Nat → Int32 → α → Option (Nat × α)) × (Nat → Nat → α → Bool)
def mi_lk : mB → Nat → Option mI
  | [], _ => none
  | q :: r, pc => bif Nat.beq q.1 pc then some q.2 else mi_lk r pc
/-- no two-place value right below place i -/
def mi_nl (ls : mL) (i : Nat) : Bool := match i with
  | 0 => true
  | k + 1 => match ls[k]? with
    | some (some v) => Nat.beq v.category 1
    | _ => true
def mi_s1 (ls : mL) (i : Nat) (v : Value) : Option mL := bif Nat.blt i ls.length && mi_nl ls i then some (ls.set i (some v)) else none
def mi_s2 (ls : mL) (i : Nat) (v : Value) : Option mL := bif Nat.blt (i + 1) ls.length && mi_nl ls i then some ((ls.set i (some v)).set (i + 1) none) else none
def mi_tgt (pc : Nat) (off : Int) : Option Nat := match (pc : Int) + off with
  | .ofNat t => some t
  | .negSucc _ => none
def mi_isI : Value → Bool
  | .int _ => true
  | _ => false
def mi_isL : Value → Bool
  | .long _ => true
  | _ => false
def mi_isA : Value → Bool
  | .ref _ => true
  | _ => false
abbrev mP : Type := Nat × mL × List Value
def mi_ld (nx k : Nat) (ok : Value → Bool) (ls : mL) (st : List Value) : Option mP := match ls[k]? with
  | some (some v) => bif ok v then some (nx, ls, v :: st) else none
  | _ => none
def mi_sv (nx k : Nat) (ok : Value → Bool) (ls : mL) (st : List Value) : Option mP := match st with
  | v :: r => bif ok v then (match mi_s1 ls k v with
    | some l1 => some (nx, l1, r)
    | none => none) else none
  | [] => none
def mi_sv2 (nx k : Nat) (ls : mL) (st : List Value) : Option mP := match st with
  | v :: r => bif mi_isL v then (match mi_s2 ls k v with
    | some l1 => some (nx, l1, r)
    | none => none) else none
  | [] => none
def mi_b1 (f : Int32 → Int32 → Int32) (nx : Nat) (ls : mL) (st : List Value) : Option mP := match st with
  | .int y :: .int x :: r => some (nx, ls, .int (f x y) :: r)
  | _ => none
def mi_b2 (f : Int64 → Int64 → Int64) (nx : Nat) (ls : mL) (st : List Value) : Option mP := match st with
  | .long y :: .long x :: r => some (nx, ls, .long (f x y) :: r)
  | _ => none
def mi_b3 (f : Int64 → Int32 → Int64) (nx : Nat) (ls : mL) (st : List Value) : Option mP := match st with
  | .int y :: .long x :: r => some (nx, ls, .long (f x y) :: r)
  | _ => none
def mi_d1 (f : Int32 → Int32 → Int32) (nx : Nat) (ls : mL) (st : List Value) : Option mP := match st with
  | .int y :: .int x :: r => bif decide (y = 0) then none else some (nx, ls, .int (f x y) :: r)
  | _ => none
def mi_d2 (f : Int64 → Int64 → Int64) (nx : Nat) (ls : mL) (st : List Value) : Option mP := match st with
  | .long y :: .long x :: r => bif decide (y = 0) then none else some (nx, ls, .long (f x y) :: r)
  | _ => none
def mi_u1 (f : Int32 → Value) (nx : Nat) (ls : mL) (st : List Value) : Option mP := match st with
  | .int x :: r => some (nx, ls, f x :: r)
  | _ => none
def mi_u2 (f : Int64 → Value) (nx : Nat) (ls : mL) (st : List Value) : Option mP := match st with
  | .long x :: r => some (nx, ls, f x :: r)
  | _ => none
def mi_c0 (cd : Jvm.ClassFile.Cond) (x : Int32) : Bool := match cd with
  | .eq => decide (x = 0)
  | .ne => decide (¬ x = 0)
  | .lt => decide (x < 0)
  | .ge => decide (0 ≤ x)
  | .gt => decide (0 < x)
  | .le => decide (x ≤ 0)
def mi_c2 (cd : Jvm.ClassFile.Cond) (x y : Int32) : Bool := match cd with
  | .eq => decide (x = y)
  | .ne => decide (¬ x = y)
  | .lt => decide (x < y)
  | .ge => decide (y ≤ x)
  | .gt => decide (y < x)
  | .le => decide (x ≤ y)
def mi_is1 (v : Value) : Bool := Nat.beq v.category 1
def mi_sw (d lo hi : Int) (offs : Array Int) (x : Int32) : Option Int := bif decide (x.toInt < lo) || decide (hi < x.toInt) then some d else offs[(x.toInt - lo).toNat]?
/-- an instruction that looks at no cell -/
def mi_pl (i : Instr) (pc nx a : Nat) (w : Value) (ls : mL) (st : List Value) : Option mP := match i with
  | .iconst _ => some (nx, ls, w :: st)
  | .bipush _ => some (nx, ls, w :: st)
  | .sipush _ => some (nx, ls, w :: st)
  | .lconst _ => some (nx, ls, w :: st)
  | .ldc _ => some (nx, ls, w :: st)
  | .ldc_w _ => some (nx, ls, w :: st)
  | .ldc2_w _ => some (nx, ls, w :: st)
  | .iload k => mi_ld nx k mi_isI ls st
  | .iload_n k => mi_ld nx k.val mi_isI ls st
  | .lload k => mi_ld nx k mi_isL ls st
  | .lload_n k => mi_ld nx k.val mi_isL ls st
  | .aload k => mi_ld nx k mi_isA ls st
  | .aload_n k => mi_ld nx k.val mi_isA ls st
  | .istore k => mi_sv nx k mi_isI ls st
  | .istore_n k => mi_sv nx k.val mi_isI ls st
  | .astore k => mi_sv nx k mi_isA ls st
  | .astore_n k => mi_sv nx k.val mi_isA ls st
  | .lstore k => mi_sv2 nx k ls st
  | .lstore_n k => mi_sv2 nx k.val ls st
  | .iinc k _ => match ls[k]?, w with
    | some (some (.int x)), .int z => (match mi_s1 ls k (.int (x + z)) with
      | some l1 => some (nx, l1, st)
      | none => none)
    | _, _ => none
  | .iadd => mi_b1 (fun x y => x + y) nx ls st
  | .isub => mi_b1 (fun x y => x - y) nx ls st
  | .imul => mi_b1 (fun x y => x * y) nx ls st
  | .iand => mi_b1 (fun x y => x &&& y) nx ls st
  | .ior => mi_b1 (fun x y => x ||| y) nx ls st
  | .ixor => mi_b1 (fun x y => x ^^^ y) nx ls st
  | .ishl => mi_b1 (fun x y => x <<< (y &&& 31)) nx ls st
  | .ishr => mi_b1 (fun x y => x >>> (y &&& 31)) nx ls st
  | .idiv => mi_d1 (fun x y => x / y) nx ls st
  | .irem => mi_d1 (fun x y => x - x / y * y) nx ls st
  | .ineg => mi_u1 (fun x => .int (-x)) nx ls st
  | .i2l => mi_u1 (fun x => .long x.toInt64) nx ls st
  | .i2c => mi_u1 (fun x => .int (x.toUInt32 % 65536).toInt32) nx ls st
  | .l2i => mi_u2 (fun x => .int x.toInt32) nx ls st
  | .ladd => mi_b2 (fun x y => x + y) nx ls st
  | .lsub => mi_b2 (fun x y => x - y) nx ls st
  | .lmul => mi_b2 (fun x y => x * y) nx ls st
  | .land => mi_b2 (fun x y => x &&& y) nx ls st
  | .lor => mi_b2 (fun x y => x ||| y) nx ls st
  | .ldiv => mi_d2 (fun x y => x / y) nx ls st
  | .lrem => mi_d2 (fun x y => x - x / y * y) nx ls st
  | .lshl => mi_b3 (fun x y => x <<< (y.toInt64 &&& 63)) nx ls st
  | .lshr => mi_b3 (fun x y => x >>> (y.toInt64 &&& 63)) nx ls st
  | .lcmp => match st with
    | .long y :: .long x :: r => some (nx, ls, .int (lg_cmp x y) :: r)
    | _ => none
  | .dup => match st with
    | v :: r => bif mi_is1 v then some (nx, ls, v :: v :: r) else none
    | _ => none
  | .pop => match st with
    | v :: r => bif mi_is1 v then some (nx, ls, r) else none
    | _ => none
  | .dup_x1 => match st with
    | v :: u :: r => bif mi_is1 v && mi_is1 u then some (nx, ls, v :: u :: v :: r) else none
    | _ => none
  | .dup_x2 => match st with
    | v :: u :: t :: r => bif mi_is1 v && (mi_is1 u && mi_is1 t) then some (nx, ls, v :: u :: t :: v :: r) else none
    | _ => none
  | .dup2 => match st with
    | v :: u :: r => bif mi_is1 v && mi_is1 u then some (nx, ls, v :: u :: v :: u :: r) else none
    | _ => none
  | .goto _ => some (a, ls, st)
  | .ifCond cd _ => match st with
    | .int x :: r => some (bif mi_c0 cd x then a else nx, ls, r)
    | _ => none
  | .if_icmp cd _ => match st with
    | .int y :: .int x :: r => some (bif mi_c2 cd x y then a else nx, ls, r)
    | _ => none
  | .tableswitch d lo hi offs => match st with
    | .int x :: r => (match mi_sw d lo hi offs x with
      | some off => (match mi_tgt pc off with
        | some t => some (t, ls, r)
        | none => none)
      | none => none)
    | _ => none
  | _ => none
section MH
variable {α : Type}
def mi_al (O : mOp α) (t : Nat) (st : List Value) (h : α) : Option (List Value × α) := match st with
  | .int i :: .ref q :: r => (match O.2.2.1 t q i h with
    | some v => some (v :: r, h)
    | none => none)
  | _ => none
def mi_as (O : mOp α) (t : Nat) (st : List Value) (h : α) : Option (List Value × α) := match st with
  | v :: .int i :: .ref q :: r => (match O.2.2.2.1 t q i v h with
    | some h1 => some (r, h1)
    | none => none)
  | _ => none
/-- an instruction that looks at a cell -/
def mi_hp (O : mOp α) (i : Instr) (a b : Nat) (st : List Value) (h : α) : Option (List Value × α) := match i with
  | .getfield _ => match st with
    | .ref q :: r => (match O.1 a b q h with
      | some v => some (v :: r, h)
      | none => none)
    | _ => none
  | .putfield _ => match st with
    | v :: .ref q :: r => (match O.2.1 a b q v h with
      | some h1 => some (r, h1)
      | none => none)
    | _ => none
  | .iaload => mi_al O 0 st h
  | .caload => mi_al O 1 st h
  | .baload => mi_al O 2 st h
  | .laload => mi_al O 3 st h
  | .iastore => mi_as O 0 st h
  | .castore => mi_as O 1 st h
  | .bastore => mi_as O 2 st h
  | .lastore => mi_as O 3 st h
  | .arraylength => match st with
    | .ref q :: r => (match O.2.2.2.2.1 q h with
      | some n => some (.int n :: r, h)
      | none => none)
    | _ => none
  | .new _ => match O.2.2.2.2.2.1 a h with
    | some (q, h1) => some (.ref q :: st, h1)
    | none => none
  | .newarray _ => match st with
    | .int n :: r => (match O.2.2.2.2.2.2.1 a n h with
      | some (q, h1) => some (.ref q :: r, h1)
      | none => none)
    | _ => none
  | _ => none
/-- which kind: looks at no cell, looks at a cell, a call, a return -/
def mi_kd : Instr → Bool × Bool
  | .getfield _ => (false, true)
  | .putfield _ => (false, true)
  | .iaload => (false, true)
  | .caload => (false, true)
  | .baload => (false, true)
  | .laload => (false, true)
  | .iastore => (false, true)
  | .castore => (false, true)
  | .bastore => (false, true)
  | .lastore => (false, true)
  | .arraylength => (false, true)
  | .new _ => (false, true)
  | .newarray _ => (false, true)
  | .invokevirtual _ => (true, false)
  | .invokespecial _ => (true, false)
  | .invokestatic _ => (true, false)
  | .ireturn => (true, true)
  | .lreturn => (true, true)
  | .return_ => (true, true)
  | _ => (false, false)
def mi_take : Nat → List Value → List Value → Option (List Value × List Value)
  | 0, acc, r => some (acc, r)
  | n + 1, acc, v :: r => mi_take n (v :: acc) r
  | _ + 1, _, [] => none
def mi_cats : List Value → Nat
  | [] => 0
  | v :: r => v.category + mi_cats r
/-- is the first value a reference to a cell of that class (99: not asked; 98: a reference)? -/
def mi_rc (O : mOp α) (c : Nat) (as : List Value) (h : α) : Bool := bif Nat.beq c 99 then true else match as with
  | .ref q :: _ => bif Nat.beq c 98 then true else O.2.2.2.2.2.2.2 c q h
  | _ => false
def mi_cl (O : mOp α) (PR cal : Nat → List Value → α → Option (mA α)) (nx a b c : Nat) (ls : mL) (st : List Value) (h : α) : Option (mS α) := match mi_take b [] st with
  | some (as, r) => bif Nat.ble (mi_cats r) 8 && mi_rc O c as h then (match (bif Nat.blt a 1000 then cal a as h else PR a as h) with
    | some (v, h1) => some (nx, ls, v.toList ++ r, h1)
    | none => none) else none
  | none => none
def mi_nr (ty : FieldType) (v : Int32) : Bool := match ty with
  | .int => true
  | .boolean => decide (v = 0) || decide (v = 1)
  | _ => false
def mi_re (i : Instr) (ret : Option FieldType) (st : List Value) (h : α) : Option (mA α) := match i with
  | .ireturn => match st, ret with
    | [.int v], some ty => bif mi_nr ty v then some (some (.int v), h) else none
    | _, _ => none
  | .lreturn => match st, ret with
    | [.long v], some .long => some (some (.long v), h)
    | _, _ => none
  | .return_ => match st, ret with
    | [], none => some (none, h)
    | _, _ => none
  | _ => none
/-- one instruction -/
def mi_one (O : mOp α) (PR cal : Nat → List Value → α → Option (mA α)) (tb : mB) (ret : Option FieldType) (s : mS α) : Option (mS α ⊕ mA α) := match mi_lk tb s.1 with
  | none => none
  | some q => match mi_kd q.1 with
    | (false, false) => (match mi_pl q.1 s.1 q.2.1 q.2.2.1 q.2.2.2.2.2 s.2.1 s.2.2.1 with
      | some x => some (.inl (x.1, x.2.1, x.2.2, s.2.2.2))
      | none => none)
    | (false, true) => (match mi_hp O q.1 q.2.2.1 q.2.2.2.1 s.2.2.1 s.2.2.2 with
      | some x => some (.inl (q.2.1, s.2.1, x.1, x.2))
      | none => none)
    | (true, false) => (match mi_cl O PR cal q.2.1 q.2.2.1 q.2.2.2.1 q.2.2.2.2.1 s.2.1 s.2.2.1 s.2.2.2 with
      | some x => some (.inl x)
      | none => none)
    | (true, true) => (match mi_re q.1 ret s.2.2.1 s.2.2.2 with
      | some x => some (.inr x)
      | none => none)
def mi_ex (O : mOp α) (PR cal : Nat → List Value → α → Option (mA α)) (tb : mB) (ret : Option FieldType) : Nat → mS α → Option (mA α)
  | 0, _ => none
  | n + 1, s => match mi_one O PR cal tb ret s with
    | some (.inl s1) => mi_ex O PR cal tb ret n s1
    | some (.inr r) => some r
    | none => none
/-- the locals at a method's start -/
def mi_fl (as : List Value) : mL := match as with
  | [] => []
  | v :: r => bif Nat.beq v.category 2 then some v :: none :: mi_fl r else some v :: mi_fl r
def mi_ent (nL : Nat) (as : List Value) : mL := mi_fl as ++ List.replicate (nL - (mi_fl as).length) none
/-- a method: its code, how many places its locals have, what it answers -/
abbrev mM : Type := mB × Nat × Option FieldType
def mi_run (O : mOp α) (PR : Nat → List Value → α → Option (mA α)) (M : List mM) : Nat → Nat → Nat → List Value → α → Option (mA α)
  | 0, _, _, _, _ => none
  | d + 1, n, j, as, h => match M[j]? with
    | some q => bif Nat.ble (mi_fl as).length q.2.1 then mi_ex O PR (mi_run O PR M d n) q.1 q.2.2 n (0, mi_ent q.2.1 as, [], h) else none
    | none => none
def mi_T (O : mOp α) (PR : Nat → List Value → α → Option (mA α)) (M : List mM) (d : Nat) (tb : mB) (ret : Option FieldType) (s : mS α) (r : mA α) : Prop := ∃ n, mi_ex O PR (mi_run O PR M d n) tb ret n s = some r
def mi_R (O : mOp α) (PR : Nat → List Value → α → Option (mA α)) (M : List mM) (d j : Nat) (as : List Value) (h : α) (r : mA α) : Prop := ∃ n, mi_run O PR M d n j as h = some r
variable {O : mOp α} {PR : Nat → List Value → α → Option (mA α)} {M : List mM} {tb : mB} {ret : Option FieldType}
theorem mi_cl_mono {cal cal' : Nat → List Value → α → Option (mA α)} (hc : ∀ j as h r, cal j as h = some r → cal' j as h = some r) {nx a b c : Nat} {ls : mL} {st : List Value} {h : α} {x : mS α} (e : mi_cl O PR cal nx a b c ls st h = some x) : mi_cl O PR cal' nx a b c ls st h = some x := by
  unfold mi_cl at e ⊢
  cases ht : mi_take b [] st with
  | none => rw [ht] at e; cases e
  | some q =>
    obtain ⟨as, r⟩ := q
    rw [ht] at e
    dsimp only at e ⊢
    cases hb : (Nat.ble (mi_cats r) 8 && mi_rc O c as h) with
    | false => rw [hb] at e; cases e
    | true =>
      rw [hb] at e
      dsimp only [cond_true] at e ⊢
      cases hk : Nat.blt a 1000 with
      | false => rw [hk] at e; exact e
      | true =>
        rw [hk] at e
        dsimp only [cond_true] at e ⊢
        cases hq : cal a as h with
        | none => rw [hq] at e; cases e
        | some y => rw [hq] at e; rw [hc _ _ _ _ hq]; exact e
theorem mi_one_mono {cal cal' : Nat → List Value → α → Option (mA α)} (hc : ∀ j as h r, cal j as h = some r → cal' j as h = some r) {s : mS α} {x : mS α ⊕ mA α} (e : mi_one O PR cal tb ret s = some x) : mi_one O PR cal' tb ret s = some x := by
  unfold mi_one at e ⊢
  cases hl : mi_lk tb s.1 with
  | none => rw [hl] at e; cases e
  | some q =>
    rw [hl] at e
    dsimp only at e ⊢
    match hk : mi_kd q.1 with
    | (false, false) => rw [hk] at e; exact e
    | (false, true) => rw [hk] at e; exact e
    | (true, false) =>
      rw [hk] at e
      try dsimp only at e ⊢
      cases hq : mi_cl O PR cal q.2.1 q.2.2.1 q.2.2.2.1 q.2.2.2.2.1 s.2.1 s.2.2.1 s.2.2.2 with
      | none => rw [hq] at e; cases e
      | some y => rw [hq] at e; rw [mi_cl_mono hc hq]; exact e
    | (true, true) => rw [hk] at e; exact e
theorem mi_ex_mono {cal cal' : Nat → List Value → α → Option (mA α)} (hc : ∀ j as h r, cal j as h = some r → cal' j as h = some r) : ∀ (n m : Nat) (s : mS α) (r : mA α), n ≤ m → mi_ex O PR cal tb ret n s = some r → mi_ex O PR cal' tb ret m s = some r := by
  intro n
  induction n with
  | zero => intro m s r _ e; cases e
  | succ n ih =>
    intro m s r hm e
    cases m with
    | zero => omega
    | succ m =>
      unfold mi_ex at e ⊢
      cases hq : mi_one O PR cal tb ret s with
      | none => rw [hq] at e; cases e
      | some y =>
        rw [hq] at e
        rw [mi_one_mono hc hq]
        cases y with
        | inl s1 => exact ih m s1 r (by omega) e
        | inr z => exact e
theorem mi_run_mono : ∀ (d n m : Nat), n ≤ m → ∀ (j : Nat) (as : List Value) (h : α) (r : mA α), mi_run O PR M d n j as h = some r → mi_run O PR M d m j as h = some r := by
  intro d
  induction d with
  | zero => intro n m _ j as h r e; cases e
  | succ d ih =>
    intro n m hm j as h r e
    unfold mi_run at e ⊢
    cases hq : M[j]? with
    | none => rw [hq] at e; cases e
    | some q =>
      rw [hq] at e
      dsimp only at e ⊢
      cases hb : Nat.ble (mi_fl as).length q.2.1 with
      | false => rw [hb] at e; cases e
      | true => rw [hb] at e; exact mi_ex_mono (ih n m hm) n m _ r hm e
theorem mi_run_deep : ∀ (d n : Nat) (j : Nat) (as : List Value) (h : α) (r : mA α), mi_run O PR M d n j as h = some r → mi_run O PR M (d + 1) n j as h = some r := by
  intro d
  induction d with
  | zero => intro n j as h r e; cases e
  | succ d ih =>
    intro n j as h r e
    unfold mi_run at e ⊢
    cases hq : M[j]? with
    | none => rw [hq] at e; cases e
    | some q =>
      rw [hq] at e
      dsimp only at e ⊢
      cases hb : Nat.ble (mi_fl as).length q.2.1 with
      | false => rw [hb] at e; cases e
      | true => rw [hb] at e; exact mi_ex_mono (ih n) n n _ r (Nat.le_refl _) e
theorem mi_R.deep {d j : Nat} {as : List Value} {h : α} {r : mA α} (e : mi_R O PR M d j as h r) : mi_R O PR M (d + 1) j as h r := by
  obtain ⟨n, e⟩ := e
  exact ⟨n, mi_run_deep d n j as h r e⟩
theorem mi_R.le {d d' j : Nat} {as : List Value} {h : α} {r : mA α} (hd : d ≤ d') (e : mi_R O PR M d j as h r) : mi_R O PR M d' j as h r := by
  induction hd with
  | refl => exact e
  | step _ ih => exact ih.deep
variable {d : Nat} {s s1 : mS α} {r : mA α}
theorem mi_T.step (h1 : ∀ cal, mi_one O PR cal tb ret s = some (.inl s1)) (k : mi_T O PR M d tb ret s1 r) : mi_T O PR M d tb ret s r := by
  obtain ⟨n, e⟩ := k
  refine ⟨n + 1, ?_⟩
  unfold mi_ex
  rw [h1]
  exact mi_ex_mono (mi_run_mono d n (n + 1) (by omega)) n n s1 r (Nat.le_refl _) e
theorem mi_T.done (h1 : ∀ cal, mi_one O PR cal tb ret s = some (.inr r)) : mi_T O PR M d tb ret s r := by
  refine ⟨1, ?_⟩
  unfold mi_ex
  rw [h1]
def mi_go (O : mOp α) (PR : Nat → List Value → α → Option (mA α)) (tb : mB) (ret : Option FieldType) : Nat → mS α → Option (mS α)
  | 0, s => some s
  | n + 1, s => match mi_one O PR (fun _ _ _ => none) tb ret s with
    | some (.inl s1) => mi_go O PR tb ret n s1
    | _ => none
theorem mi_T.go : ∀ (n : Nat) {s s1 : mS α}, mi_go O PR tb ret n s = some s1 → mi_T O PR M d tb ret s1 r → mi_T O PR M d tb ret s r := by
  intro n
  induction n with
  | zero => intro s s1 e k; cases e; exact k
  | succ n ih =>
    intro s s1 e k
    unfold mi_go at e
    cases hq : mi_one O PR (fun _ _ _ => none) tb ret s with
    | none => rw [hq] at e; cases e
    | some y =>
      rw [hq] at e
      cases y with
      | inl s2 => exact mi_T.step (fun cal => mi_one_mono (fun _ _ _ _ z => by cases z) hq) (ih e k)
      | inr z => cases e
theorem mi_T.br {P : Prop} [Decidable P] {t f : Nat} {ls : mL} {st : List Value} {h : α} (h1 : ∀ cal, mi_one O PR cal tb ret s = some (.inl (bif decide P then t else f, ls, st, h))) (kt : P → mi_T O PR M d tb ret (t, ls, st, h) r) (kf : ¬ P → mi_T O PR M d tb ret (f, ls, st, h) r) : mi_T O PR M d tb ret s r := by
  by_cases hp : P
  · exact mi_T.step (s1 := (t, ls, st, h)) (fun cal => by rw [h1, decide_eq_true hp]; rfl) (kt hp)
  · exact mi_T.step (s1 := (f, ls, st, h)) (fun cal => by rw [h1, decide_eq_false hp]; rfl) (kf hp)
/-- a call of a method of the table -/
theorem mi_T.call {pc nx j b c : Nat} {i : Instr} {w : Value} {ls : mL} {st rest as : List Value} {h h1 : α} {v : Option Value} (hl : mi_lk tb pc = some (i, nx, j, b, c, w)) (hk : mi_kd i = (true, false)) (ht : mi_take b [] st = some (as, rest)) (hj : (Nat.ble (mi_cats rest) 8 && mi_rc O c as h) = true) (hm : Nat.blt j 1000 = true)
    (hr : mi_R O PR M d j as h (v, h1)) (k : mi_T O PR M d tb ret (nx, ls, v.toList ++ rest, h1) r) : mi_T O PR M d tb ret (pc, ls, st, h) r := by
  obtain ⟨n1, e1⟩ := hr
  obtain ⟨n2, e2⟩ := k
  have e1' := mi_run_mono d n1 (n1 + n2 + 1) (by omega) _ _ _ _ e1
  have e2' := mi_ex_mono (mi_run_mono d n2 (n1 + n2 + 1) (by omega)) n2 (n1 + n2) _ _ (by omega) e2
  refine ⟨n1 + n2 + 1, ?_⟩
  unfold mi_ex
  have : mi_one O PR (mi_run O PR M d (n1 + n2 + 1)) tb ret (pc, ls, st, h) = some (.inl (nx, ls, v.toList ++ rest, h1)) := by
    unfold mi_one
    dsimp only
    rw [hl]
    dsimp only
    rw [hk]
    try dsimp only
    unfold mi_cl
    rw [ht]
    dsimp only
    rw [hj, hm]
    dsimp only [cond_true]
    rw [e1']
  rw [this]
  exact e2'
theorem mi_R.of {j : Nat} {as : List Value} {h : α} {q : mM} (hq : M[j]? = some q) (hb : Nat.ble (mi_fl as).length q.2.1 = true) (k : mi_T O PR M d q.1 q.2.2 (0, mi_ent q.2.1 as, [], h) r) : mi_R O PR M (d + 1) j as h r := by
  obtain ⟨n, e⟩ := k
  refine ⟨n, ?_⟩
  unfold mi_run
  rw [hq]
  dsimp only
  rw [hb]
  exact e
end MH
end
section
/-! Two kinds of heap for the mini: a list of cells, and (its shape being fixed) two functions; the second is a picture of the first. -/
def mi_in (i : Int32) (n : Nat) : Bool := !(decide (i < 0)) && Nat.blt i.toNatClampNeg n
def mi_fits (k : Nat) (v : Value) : Bool := match v with
  | .int _ => Nat.beq k 0
  | .long _ => Nat.beq k 1
  | .ref _ => Nat.beq k 2
  | _ => false
def mi_dv (k : Nat) : Value := bif Nat.beq k 0 then .int 0 else bif Nat.beq k 1 then .long 0 else .null
def mi_nar (t : Nat) (x : Int32) : Int32 := bif Nat.beq t 0 then x else bif Nat.beq t 1 then vp_nar .char x else vp_nar .boolean x
def mi_gf1 (ci f a : Nat) (h : mH) : Option Value := match h[a]? with
  | some (.inr (c, fs)) => bif Nat.beq c ci then fs[f]? else none
  | _ => none
def mi_pf1 (F : List (List Nat)) (ci f a : Nat) (v : Value) (h : mH) : Option mH := match h[a]? with
  | some (.inr (c, fs)) => bif Nat.beq c ci && (Nat.blt f fs.length && mi_fits ((F.getD ci []).getD f 9) v) then some (h.set a (.inr (c, fs.set f v))) else none
  | _ => none
def mi_ld1 (X : Nat × (Nat → Int32)) (t a : Nat) (i : Int32) (h : mH) : Option Value := bif Nat.beq a 999 then (bif Nat.beq t 0 && mi_in i X.1 then some (.int (X.2 i.toNatClampNeg)) else none) else match h[a]? with
  | some (.inl (u, n, .inl f)) => bif Nat.beq u t && (Nat.blt t 3 && mi_in i n) then some (.int (f i.toNatClampNeg)) else none
  | some (.inl (u, n, .inr (.inl f))) => bif Nat.beq u t && (Nat.beq t 3 && mi_in i n) then some (.long (f i.toNatClampNeg)) else none
  | _ => none
def mi_sa1 (t a : Nat) (i : Int32) (v : Value) (h : mH) : Option mH := match h[a]? with
  | some (.inl (u, n, .inl f)) => (match v with
    | .int x => bif Nat.beq u t && (Nat.blt t 3 && mi_in i n) then some (h.set a (.inl (u, n, .inl (upd f i.toNatClampNeg (mi_nar t x))))) else none
    | _ => none)
  | some (.inl (u, n, .inr (.inl f))) => (match v with
    | .long x => bif Nat.beq u t && (Nat.beq t 3 && mi_in i n) then some (h.set a (.inl (u, n, .inr (.inl (vp_updL f i.toNatClampNeg x))))) else none
    | _ => none)
  | _ => none
def mi_ln1 (X : Nat × (Nat → Int32)) (a : Nat) (h : mH) : Option Int32 := bif Nat.beq a 999 then some (Int32.ofNat X.1) else match h[a]? with
  | some (.inl (u, n, _)) => bif Nat.blt u 4 then some (Int32.ofNat n) else none
  | _ => none
def mi_nw1 (F : List (List Nat)) (ci : Nat) (h : mH) : Option (Nat × mH) := match F[ci]? with
  | some ks => bif Nat.blt h.length 900 then some (h.length, h ++ [.inr (ci, ks.map mi_dv)]) else none
  | none => none
def mi_na1 (t : Nat) (n : Int32) (h : mH) : Option (Nat × mH) := bif Nat.blt t 4 && (!(decide (n < 0)) && (Nat.ble n.toNatClampNeg 1000 && Nat.blt h.length 900)) then some (h.length, h ++ [.inl (t, n.toNatClampNeg, bif Nat.beq t 3 then .inr (.inl (fun _ => 0)) else .inl (fun _ => 0))]) else none
def mi_is1' (c q : Nat) (h : mH) : Bool := match h[q]? with
  | some (.inr (ci, _)) => Nat.beq ci c
  | _ => false
def mi_cq (x y n : Int32) (n0 n1 : Nat) : Bool := !(decide (x < 0)) && (!(decide (y < 0)) && (!(decide (n < 0)) && (Nat.ble (x.toNatClampNeg + n.toNatClampNeg) n0 && Nat.ble (y.toNatClampNeg + n.toNatClampNeg) n1)))
def mi_fc (f : Nat → Int32) (k n : Nat) : Bool := (List.range n).all (fun i => fits .char (.int (f (k + i))))
def mi_cp1 (a : Nat) (x : Int32) (b : Nat) (y n : Int32) (h : mH) : Option mH := match h[a]? with
  | some (.inl (u, n0, .inl f)) => (match h[b]? with
    | some (.inl (v, n1, .inl g)) => bif Nat.beq u 1 && (Nat.beq v 1 && (mi_cq x y n n0 n1 && mi_fc f x.toNatClampNeg n.toNatClampNeg)) then some (h.set b (.inl (v, n1, .inl (va_cpy f g x.toNatClampNeg y.toNatClampNeg n.toNatClampNeg)))) else none
    | _ => none)
  | _ => none
def mi_O1 (F : List (List Nat)) (X : Nat × (Nat → Int32)) : mOp mH := (mi_gf1, mi_pf1 F, mi_ld1 X, mi_sa1, mi_ln1 X, mi_nw1 F, mi_na1, mi_is1')
def mi_lit (L : List (List Int32)) (a : Nat) : Option (List Int32) := bif Nat.ble 1000 a then L[a - 1000]? else none
def mi_min (x y : Int32) : Int32 := if y < x then y else x
/-- Object.<init>, Math.min, System.arraycopy, String.length, String.charAt -/
def mi_pr {α : Type} (L : List (List Int32)) (cp : Nat → Int32 → Nat → Int32 → Int32 → α → Option α) (j : Nat) (as : List Value) (h : α) : Option (mA α) := bif Nat.beq j 1000 then (match as with
    | [.ref _] => some (none, h)
    | _ => none)
  else bif Nat.beq j 1001 then (match as with
    | [.int x, .int y] => some (some (.int (mi_min x y)), h)
    | _ => none)
  else bif Nat.beq j 1002 then (match as with
    | [.ref a, .int x, .ref b, .int y, .int n] => (match cp a x b y n h with
      | some h1 => some (none, h1)
      | none => none)
    | _ => none)
  else bif Nat.beq j 1003 then (match as with
    | [.ref a] => (match mi_lit L a with
      | some l => some (some (.int (Int32.ofNat l.length)), h)
      | none => none)
    | _ => none)
  else bif Nat.beq j 1004 then (match as with
    | [.ref a, .int i] => (match mi_lit L a with
      | some l => bif mi_in i l.length then some (some (.int (l.getD i.toNatClampNeg 0)), h) else none
      | none => none)
    | _ => none)
  else none
/-- the second kind: by cell and place, ints and longs -/
abbrev mG : Type := (Nat → Nat → Int32) × (Nat → Nat → Int64)
abbrev mF : Type := Nat ⊕ Bool
abbrev mK : Type := (Nat × Nat × Bool) ⊕ (Nat × List mF)
def mi_uc {β : Type} (I : Nat → Nat → β) (c : Nat) (g : Nat → β) : Nat → Nat → β := fun k => bif Nat.beq k c then g else I k
def mi_fv (σ : mG) (c j : Nat) (k : mF) : Value := match k with
  | .inl r => .ref r
  | .inr true => .int (σ.1 c j)
  | .inr false => .long (σ.2 c j)
def mi_fvs (σ : mG) (c : Nat) : Nat → List mF → List Value
  | _, [] => []
  | j, k :: ks => mi_fv σ c j k :: mi_fvs σ c (j + 1) ks
def mi_ce (σ : mG) (c : Nat) (k : mK) : mE := match k with
  | .inl (t, n, false) => .inl (t, n, .inl (σ.1 c))
  | .inl (t, n, true) => .inl (t, n, .inr (.inl (σ.2 c)))
  | .inr (ci, ks) => .inr (ci, mi_fvs σ c 0 ks)
def mi_rn (σ : mG) : Nat → List mK → mH
  | _, [] => []
  | c, k :: ks => mi_ce σ c k :: mi_rn σ (c + 1) ks
def mi_gf2 (sh : List mK) (ci f a : Nat) (σ : mG) : Option Value := match sh[a]? with
  | some (.inr (c, ks)) => bif Nat.beq c ci then (match ks[f]? with
    | some k => some (mi_fv σ a f k)
    | none => none) else none
  | _ => none
def mi_pf2 (F : List (List Nat)) (sh : List mK) (ci f a : Nat) (v : Value) (σ : mG) : Option mG := match sh[a]? with
  | some (.inr (c, ks)) => bif Nat.beq c ci && mi_fits ((F.getD ci []).getD f 9) v then (match ks[f]?, v with
    | some (.inr true), .int x => some (mi_uc σ.1 a (upd (σ.1 a) f x), σ.2)
    | some (.inr false), .long x => some (σ.1, mi_uc σ.2 a (vp_updL (σ.2 a) f x))
    | _, _ => none) else none
  | _ => none
def mi_ld2 (X : Nat × (Nat → Int32)) (sh : List mK) (t a : Nat) (i : Int32) (σ : mG) : Option Value := bif Nat.beq a 999 then (bif Nat.beq t 0 && mi_in i X.1 then some (.int (X.2 i.toNatClampNeg)) else none) else match sh[a]? with
  | some (.inl (u, n, false)) => bif Nat.beq u t && (Nat.blt t 3 && mi_in i n) then some (.int (σ.1 a i.toNatClampNeg)) else none
  | some (.inl (u, n, true)) => bif Nat.beq u t && (Nat.beq t 3 && mi_in i n) then some (.long (σ.2 a i.toNatClampNeg)) else none
  | _ => none
def mi_sa2 (sh : List mK) (t a : Nat) (i : Int32) (v : Value) (σ : mG) : Option mG := match sh[a]? with
  | some (.inl (u, n, false)) => (match v with
    | .int x => bif Nat.beq u t && (Nat.blt t 3 && mi_in i n) then some (mi_uc σ.1 a (upd (σ.1 a) i.toNatClampNeg (mi_nar t x)), σ.2) else none
    | _ => none)
  | some (.inl (u, n, true)) => (match v with
    | .long x => bif Nat.beq u t && (Nat.beq t 3 && mi_in i n) then some (σ.1, mi_uc σ.2 a (vp_updL (σ.2 a) i.toNatClampNeg x)) else none
    | _ => none)
  | _ => none
def mi_ln2 (X : Nat × (Nat → Int32)) (sh : List mK) (a : Nat) (_ : mG) : Option Int32 := bif Nat.beq a 999 then some (Int32.ofNat X.1) else match sh[a]? with
  | some (.inl (u, n, _)) => bif Nat.blt u 4 then some (Int32.ofNat n) else none
  | _ => none
def mi_is2 (sh : List mK) (c q : Nat) (_ : mG) : Bool := match sh[q]? with
  | some (.inr (ci, _)) => Nat.beq ci c
  | _ => false
def mi_cp2 (sh : List mK) (a : Nat) (x : Int32) (b : Nat) (y n : Int32) (σ : mG) : Option mG := match sh[a]? with
  | some (.inl (u, n0, false)) => (match sh[b]? with
    | some (.inl (v, n1, false)) => bif Nat.beq u 1 && (Nat.beq v 1 && (mi_cq x y n n0 n1 && mi_fc (σ.1 a) x.toNatClampNeg n.toNatClampNeg)) then some (mi_uc σ.1 b (va_cpy (σ.1 a) (σ.1 b) x.toNatClampNeg y.toNatClampNeg n.toNatClampNeg), σ.2) else none
    | _ => none)
  | _ => none
def mi_O2 (F : List (List Nat)) (X : Nat × (Nat → Int32)) (sh : List mK) : mOp mG := (mi_gf2 sh, mi_pf2 F sh, mi_ld2 X sh, mi_sa2 sh, mi_ln2 X sh, fun _ _ => none, fun _ _ _ => none, mi_is2 sh)
theorem mi_uc_same {β : Type} (I : Nat → Nat → β) (c : Nat) (g : Nat → β) : mi_uc I c g c = g := by simp [mi_uc]
theorem mi_uc_ne {β : Type} (I : Nat → Nat → β) {c k : Nat} (g : Nat → β) (h : k ≠ c) : mi_uc I c g k = I k := by
  have hb : Nat.beq k c = false := by
    cases h1 : Nat.beq k c with
    | false => rfl
    | true => exact absurd (Nat.eq_of_beq_eq_true h1) h
  unfold mi_uc
  rw [hb]
  rfl
/-! the picture -/
theorem mi_rn_at (σ : mG) : ∀ (sh : List mK) (c q : Nat), (mi_rn σ c sh)[q]? = (sh[q]?).map (mi_ce σ (c + q)) := by
  intro sh
  induction sh with
  | nil => intro c q; simp [mi_rn]
  | cons k ks ih =>
    intro c q
    cases q with
    | zero => simp [mi_rn]
    | succ q => simp [mi_rn, ih, Nat.add_assoc, Nat.add_comm 1 q]
theorem mi_rn_get {σ : mG} {sh : List mK} {q : Nat} {k : mK} (h : sh[q]? = some k) : (mi_rn σ 0 sh)[q]? = some (mi_ce σ q k) := by rw [mi_rn_at, h]; simp
theorem mi_fvs_at (σ : mG) (c : Nat) : ∀ (ks : List mF) (j f : Nat), (mi_fvs σ c j ks)[f]? = (ks[f]?).map (mi_fv σ c (j + f)) := by
  intro ks
  induction ks with
  | nil => intro j f; simp [mi_fvs]
  | cons k ks ih =>
    intro j f
    cases f with
    | zero => simp [mi_fvs]
    | succ f => simp [mi_fvs, ih, Nat.add_assoc, Nat.add_comm 1 f]
theorem mi_fvs_len (σ : mG) (c : Nat) : ∀ (ks : List mF) (j : Nat), (mi_fvs σ c j ks).length = ks.length := by
  intro ks
  induction ks with
  | nil => intro j; rfl
  | cons k ks ih => intro j; simp [mi_fvs, ih]
/-- a cell that is another one doesn't see the change -/
theorem mi_ce_ne {σ τ : mG} {c : Nat} (h1 : τ.1 c = σ.1 c) (h2 : τ.2 c = σ.2 c) (k : mK) : mi_ce τ c k = mi_ce σ c k := by
  have hf : ∀ (ks : List mF) (j : Nat), mi_fvs τ c j ks = mi_fvs σ c j ks := by
    intro ks
    induction ks with
    | nil => intro j; rfl
    | cons k ks ih =>
      intro j
      simp only [mi_fvs, ih]
      congr 1
      unfold mi_fv
      rw [h1, h2]
  rcases k with ⟨t, n, b⟩ | ⟨ci, ks⟩
  · cases b
    · simp only [mi_ce, h1]
    · simp only [mi_ce, h2]
  · simp only [mi_ce, hf]
theorem mi_rn_set {σ τ : mG} {sh : List mK} {q : Nat} {k : mK} {x : mE} (hk : sh[q]? = some k) (hx : mi_ce τ q k = x) (h1 : ∀ c, c ≠ q → τ.1 c = σ.1 c) (h2 : ∀ c, c ≠ q → τ.2 c = σ.2 c) : (mi_rn σ 0 sh).set q x = mi_rn τ 0 sh := by
  apply List.ext_getElem?
  intro j
  by_cases hj : q = j
  · subst hj
    rw [List.getElem?_set_self (List.getElem?_eq_some_iff.mp (mi_rn_get (σ := σ) hk)).1, mi_rn_get hk, hx]
  · rw [List.getElem?_set_ne hj, mi_rn_at, mi_rn_at]
    cases sh[j]? with
    | none => rfl
    | some k' =>
      simp only [Option.map_some, Nat.zero_add]
      rw [mi_ce_ne (h1 j (Ne.symm hj)) (h2 j (Ne.symm hj))]
def mi_rf {α β : Type} (f : α → β) (O : mOp α) (O' : mOp β) : Prop := (∀ a b q h v, O.1 a b q h = some v → O'.1 a b q (f h) = some v) ∧ (∀ a b q v h h1, O.2.1 a b q v h = some h1 → O'.2.1 a b q v (f h) = some (f h1)) ∧ (∀ t q i h v, O.2.2.1 t q i h = some v → O'.2.2.1 t q i (f h) = some v) ∧ (∀ t q i v h h1, O.2.2.2.1 t q i v h = some h1 → O'.2.2.2.1 t q i v (f h) = some (f h1)) ∧ (∀ q h n, O.2.2.2.2.1 q h = some n → O'.2.2.2.2.1 q (f h) = some n) ∧ (∀ a h q h1, O.2.2.2.2.2.1 a h = some (q, h1) → O'.2.2.2.2.2.1 a (f h) = some (q, f h1)) ∧ (∀ a n h q h1, O.2.2.2.2.2.2.1 a n h = some (q, h1) → O'.2.2.2.2.2.2.1 a n (f h) = some (q, f h1)) ∧ ∀ c q h, O.2.2.2.2.2.2.2 c q h = true → O'.2.2.2.2.2.2.2 c q (f h) = true
section RF
variable {α β : Type} {f : α → β} {O : mOp α} {O' : mOp β}
theorem mi_al_rf (R : mi_rf f O O') {t : Nat} {st st1 : List Value} {h h1 : α} (e : mi_al O t st h = some (st1, h1)) : mi_al O' t st (f h) = some (st1, f h1) := by
  unfold mi_al at e ⊢
  split at e
  · split at e
    · rename_i v hv
      cases e
      try dsimp only
      rw [R.2.2.1 _ _ _ _ _ hv]
    · cases e
  · cases e
theorem mi_as_rf (R : mi_rf f O O') {t : Nat} {st st1 : List Value} {h h1 : α} (e : mi_as O t st h = some (st1, h1)) : mi_as O' t st (f h) = some (st1, f h1) := by
  unfold mi_as at e ⊢
  split at e
  · split at e
    · rename_i v hv
      cases e
      try dsimp only
      rw [R.2.2.2.1 _ _ _ _ _ _ hv]
    · cases e
  · cases e
theorem mi_hp_rf (R : mi_rf f O O') {i : Instr} {a b : Nat} {st st1 : List Value} {h h1 : α} (e : mi_hp O i a b st h = some (st1, h1)) : mi_hp O' i a b st (f h) = some (st1, f h1) := by
  unfold mi_hp at e
  split at e
  · split at e
    · split at e
      · rename_i v hv
        cases e
        unfold mi_hp
        dsimp only
        rw [R.1 _ _ _ _ _ hv]
      · cases e
    · cases e
  · split at e
    · split at e
      · rename_i v hv
        cases e
        unfold mi_hp
        dsimp only
        rw [R.2.1 _ _ _ _ _ _ hv]
      · cases e
    · cases e
  · exact mi_al_rf R e
  · exact mi_al_rf R e
  · exact mi_al_rf R e
  · exact mi_al_rf R e
  · exact mi_as_rf R e
  · exact mi_as_rf R e
  · exact mi_as_rf R e
  · exact mi_as_rf R e
  · split at e
    · split at e
      · rename_i v hv
        cases e
        unfold mi_hp
        dsimp only
        rw [R.2.2.2.2.1 _ _ _ hv]
      · cases e
    · cases e
  · split at e
    · rename_i v hv
      cases e
      unfold mi_hp
      dsimp only
      rw [R.2.2.2.2.2.1 _ _ _ _ hv]
    · cases e
  · split at e
    · split at e
      · rename_i v hv
        cases e
        unfold mi_hp
        dsimp only
        rw [R.2.2.2.2.2.2.1 _ _ _ _ _ hv]
      · cases e
    · cases e
  · cases e
variable {PR cal : Nat → List Value → α → Option (mA α)} {PR' cal' : Nat → List Value → β → Option (mA β)}
abbrev mi_rc' (f : α → β) (cal : Nat → List Value → α → Option (mA α)) (cal' : Nat → List Value → β → Option (mA β)) : Prop := ∀ j as h v h1, cal j as h = some (v, h1) → cal' j as (f h) = some (v, f h1)
theorem mi_cl_rf (R : mi_rf f O O') (hp : mi_rc' f PR PR') (hc : mi_rc' f cal cal') {nx a b c : Nat} {ls : mL} {st : List Value} {h : α} {x : mS α} (e : mi_cl O PR cal nx a b c ls st h = some x) : mi_cl O' PR' cal' nx a b c ls st (f h) = some (x.1, x.2.1, x.2.2.1, f x.2.2.2) := by
  unfold mi_cl at e ⊢
  cases ht : mi_take b [] st with
  | none => rw [ht] at e; cases e
  | some q =>
    obtain ⟨as, r⟩ := q
    rw [ht] at e
    dsimp only at e ⊢
    cases hb : (Nat.ble (mi_cats r) 8 && mi_rc O c as h) with
    | false => rw [hb] at e; cases e
    | true =>
      rw [hb] at e
      dsimp only [cond_true] at e
      have hb' : (Nat.ble (mi_cats r) 8 && mi_rc O' c as (f h)) = true := by
        rw [Bool.and_eq_true] at hb ⊢
        refine ⟨hb.1, ?_⟩
        have h2 := hb.2
        unfold mi_rc at h2 ⊢
        cases hk : Nat.beq c 99 with
        | true => rfl
        | false =>
          rw [hk] at h2
          dsimp only [cond_false] at h2 ⊢
          split at h2
          · cases hk8 : Nat.beq c 98 with
            | true => rfl
            | false =>
              rw [hk8] at h2
              exact R.2.2.2.2.2.2.2 _ _ _ h2
          · cases h2
      rw [hb']
      dsimp only [cond_true]
      cases hk : Nat.blt a 1000 with
      | false =>
        rw [hk] at e
        dsimp only [cond_false] at e ⊢
        split at e
        · rename_i v h1 hv
          cases e
          rw [hp _ _ _ _ _ hv]
        · cases e
      | true =>
        rw [hk] at e
        dsimp only [cond_true] at e ⊢
        split at e
        · rename_i v h1 hv
          cases e
          rw [hc _ _ _ _ _ hv]
        · cases e
theorem mi_re_rf {i : Instr} {ret : Option FieldType} {st : List Value} {h : α} {x : mA α} (e : mi_re i ret st h = some x) : mi_re i ret st (f h) = some (x.1, f x.2) := by
  unfold mi_re at e
  split at e
  · split at e
    · cases hb : mi_nr _ _ with
      | false => rw [hb] at e; cases e
      | true =>
        rw [hb] at e
        cases e
        unfold mi_re
        dsimp only
        rw [hb]
        rfl
    · cases e
  · split at e
    · cases e
      rfl
    · cases e
  · split at e
    · cases e
      rfl
    · cases e
  · cases e
def mi_mp (f : α → β) (x : mS α ⊕ mA α) : mS β ⊕ mA β := match x with
  | .inl y => .inl (y.1, y.2.1, y.2.2.1, f y.2.2.2)
  | .inr y => .inr (y.1, f y.2)
theorem mi_one_rf (R : mi_rf f O O') (hp : mi_rc' f PR PR') (hc : mi_rc' f cal cal') {tb : mB} {ret : Option FieldType} {s : mS α} {x : mS α ⊕ mA α} (e : mi_one O PR cal tb ret s = some x) :
    mi_one O' PR' cal' tb ret (s.1, s.2.1, s.2.2.1, f s.2.2.2) = some (mi_mp f x) := by
  unfold mi_one at e ⊢
  dsimp only
  cases hl : mi_lk tb s.1 with
  | none => rw [hl] at e; cases e
  | some q =>
    rw [hl] at e
    dsimp only at e ⊢
    match hk : mi_kd q.1 with
    | (false, false) =>
      rw [hk] at e
      try dsimp only at e ⊢
      split at e
      · rename_i y hy
        cases e
        rfl
      · cases e
    | (false, true) =>
      rw [hk] at e
      try dsimp only at e ⊢
      split at e
      · rename_i y hy
        cases e
        obtain ⟨y1, y2⟩ := y
        rw [mi_hp_rf R hy]
        rfl
      · cases e
    | (true, false) =>
      rw [hk] at e
      try dsimp only at e ⊢
      split at e
      · rename_i y hy
        cases e
        rw [mi_cl_rf R hp hc hy]
        rfl
      · cases e
    | (true, true) =>
      rw [hk] at e
      try dsimp only at e ⊢
      split at e
      · rename_i y hy
        cases e
        rw [mi_re_rf hy]
        rfl
      · cases e
theorem mi_ex_rf (R : mi_rf f O O') (hp : mi_rc' f PR PR') (hc : mi_rc' f cal cal') {tb : mB} {ret : Option FieldType} : ∀ (n : Nat) (s : mS α) (x : mA α), mi_ex O PR cal tb ret n s = some x → mi_ex O' PR' cal' tb ret n (s.1, s.2.1, s.2.2.1, f s.2.2.2) = some (x.1, f x.2) := by
  intro n
  induction n with
  | zero => intro s x e; cases e
  | succ n ih =>
    intro s x e
    unfold mi_ex at e ⊢
    cases hq : mi_one O PR cal tb ret s with
    | none => rw [hq] at e; cases e
    | some y =>
      rw [hq] at e
      rw [mi_one_rf R hp hc hq]
      cases y with
      | inl s1 => exact ih s1 x e
      | inr z => cases e; rfl
theorem mi_run_rf (R : mi_rf f O O') (hp : mi_rc' f PR PR') {M : List mM} : ∀ (d n : Nat), mi_rc' f (mi_run O PR M d n) (mi_run O' PR' M d n) := by
  intro d
  induction d with
  | zero => intro n j as h v h1 e; cases e
  | succ d ih =>
    intro n j as h v h1 e
    unfold mi_run at e ⊢
    cases hq : M[j]? with
    | none => rw [hq] at e; cases e
    | some q =>
      rw [hq] at e
      dsimp only at e ⊢
      cases hb : Nat.ble (mi_fl as).length q.2.1 with
      | false => rw [hb] at e; cases e
      | true => rw [hb] at e; exact mi_ex_rf R hp (ih n) n _ _ e
theorem mi_T.rf (R : mi_rf f O O') (hp : mi_rc' f PR PR') {M : List mM} {d : Nat} {tb : mB} {ret : Option FieldType} {s : mS α} {r : mA α} (k : mi_T O PR M d tb ret s r) : mi_T O' PR' M d tb ret (s.1, s.2.1, s.2.2.1, f s.2.2.2) (r.1, f r.2) := by
  obtain ⟨n, e⟩ := k
  exact ⟨n, mi_ex_rf R hp (mi_run_rf R hp d n) n s r e⟩
theorem mi_R.rf (R : mi_rf f O O') (hp : mi_rc' f PR PR') {M : List mM} {d j : Nat} {as : List Value} {h : α} {r : mA α} (k : mi_R O PR M d j as h r) : mi_R O' PR' M d j as (f h) (r.1, f r.2) := by
  obtain ⟨n, e⟩ := k
  exact ⟨n, mi_run_rf R hp d n j as h r.1 r.2 e⟩
end RF
end
section
/-! The second kind of heap is a picture of the first; rows for its arrays. -/
theorem mi_fvs_set {σ τ : mG} {q f : Nat} {ks : List mF} {v : Value} {k : mF} (hk : ks[f]? = some k) (hv : mi_fv τ q f k = v) (h1 : ∀ j, j ≠ f → τ.1 q j = σ.1 q j) (h2 : ∀ j, j ≠ f → τ.2 q j = σ.2 q j) : mi_fvs τ q 0 ks = (mi_fvs σ q 0 ks).set f v := by
  apply List.ext_getElem?
  intro i
  have hl : f < (mi_fvs σ q 0 ks).length := by rw [mi_fvs_len]; exact (List.getElem?_eq_some_iff.mp hk).1
  by_cases hi : f = i
  · subst hi
    rw [List.getElem?_set_self hl, mi_fvs_at, hk, ← hv]
    simp
  · rw [List.getElem?_set_ne hi, mi_fvs_at, mi_fvs_at]
    cases ks[i]? with
    | none => rfl
    | some k' =>
      simp only [Option.map_some, Nat.zero_add, Option.some.injEq]
      rcases k' with r | b
      · rfl
      · cases b
        · simp only [mi_fv, h2 i (Ne.symm hi)]
        · simp only [mi_fv, h1 i (Ne.symm hi)]
theorem mi_upd_same (f : Nat → Int32) (k : Nat) (x : Int32) : upd f k x k = x := by simp [upd]
theorem mi_upd_ne (f : Nat → Int32) {k j : Nat} (x : Int32) (h : j ≠ k) : upd f k x j = f j := by simp [upd, h]
theorem mi_updL_same (f : Nat → Int64) (k : Nat) (x : Int64) : vp_updL f k x k = x := by simp [vp_updL]
theorem mi_updL_ne (f : Nat → Int64) {k j : Nat} (x : Int64) (h : j ≠ k) : vp_updL f k x j = f j := by simp [vp_updL, h]
theorem mi_rf_get {sh : List mK} (a b q : Nat) (σ : mG) (v : Value) (e : mi_gf2 sh a b q σ = some v) : mi_gf1 a b q (mi_rn σ 0 sh) = some v := by
  unfold mi_gf2 at e
  split at e
  · rename_i c ks hk
    cases hb : Nat.beq c a with
    | false => rw [hb] at e; cases e
    | true =>
      rw [hb] at e
      dsimp only [cond_true] at e
      split at e
      · rename_i k hf
        cases e
        unfold mi_gf1
        rw [mi_rn_get hk]
        simp only [mi_ce, hb, cond_true, mi_fvs_at, hf, Option.map_some, Nat.zero_add]
      · cases e
  · cases e
theorem mi_rf_put {F : List (List Nat)} {sh : List mK} (a b q : Nat) (v : Value) (σ τ : mG) (e : mi_pf2 F sh a b q v σ = some τ) : mi_pf1 F a b q v (mi_rn σ 0 sh) = some (mi_rn τ 0 sh) := by
  unfold mi_pf2 at e
  split at e
  · rename_i c ks hk
    cases hb : (Nat.beq c a && mi_fits ((F.getD a []).getD b 9) v) with
    | false => rw [hb] at e; cases e
    | true =>
      rw [hb] at e
      dsimp only [cond_true] at e
      rw [Bool.and_eq_true] at hb
      have main : ∀ (k : mF), ks[b]? = some k → mi_fv τ q b k = v → (∀ c, c ≠ q → τ.1 c = σ.1 c) → (∀ c, c ≠ q → τ.2 c = σ.2 c) → (∀ j, j ≠ b → τ.1 q j = σ.1 q j) → (∀ j, j ≠ b → τ.2 q j = σ.2 q j) → mi_pf1 F a b q v (mi_rn σ 0 sh) = some (mi_rn τ 0 sh) := by
        intro k hf hv g1 g2 g3 g4
        unfold mi_pf1
        rw [mi_rn_get hk]
        have hl : Nat.blt b (mi_fvs σ q 0 ks).length = true := by
          rw [mi_fvs_len, Nat.blt_eq]
          exact (List.getElem?_eq_some_iff.mp hf).1
        simp only [mi_ce, hb.1, hb.2, hl, Bool.and_self, cond_true, Option.some.injEq]
        exact mi_rn_set hk (by rw [mi_ce, mi_fvs_set hf hv g3 g4]) g1 g2
      split at e
      · rename_i x hf
        cases e
        exact main _ hf (by simp [mi_fv, mi_uc_same, mi_upd_same]) (fun c h => mi_uc_ne _ _ h) (fun _ _ => rfl) (fun j h => by simp [mi_uc_same, mi_upd_ne _ _ h]) (fun _ _ => rfl)
      · rename_i x hf
        cases e
        exact main _ hf (by simp [mi_fv, mi_uc_same, mi_updL_same]) (fun _ _ => rfl) (fun c h => mi_uc_ne _ _ h) (fun _ _ => rfl) (fun j h => by simp [mi_uc_same, mi_updL_ne _ _ h])
      · cases e
  · cases e
theorem mi_rf_ld {X : Nat × (Nat → Int32)} {sh : List mK} (t q : Nat) (i : Int32) (σ : mG) (v : Value) (e : mi_ld2 X sh t q i σ = some v) : mi_ld1 X t q i (mi_rn σ 0 sh) = some v := by
  unfold mi_ld2 at e
  unfold mi_ld1
  cases hb : Nat.beq q 999 with
  | true => rw [hb] at e; exact e
  | false =>
    rw [hb] at e
    dsimp only [cond_false] at e ⊢
    split at e
    · rename_i u n hk
      rw [mi_rn_get hk]
      exact e
    · rename_i u n hk
      rw [mi_rn_get hk]
      exact e
    · cases e
theorem mi_rf_sa {sh : List mK} (t q : Nat) (i : Int32) (v : Value) (σ τ : mG) (e : mi_sa2 sh t q i v σ = some τ) : mi_sa1 t q i v (mi_rn σ 0 sh) = some (mi_rn τ 0 sh) := by
  unfold mi_sa2 at e
  unfold mi_sa1
  split at e
  · rename_i u n hk
    rw [mi_rn_get hk]
    dsimp only [mi_ce]
    split at e
    · rename_i x
      cases hb : (Nat.beq u t && (Nat.blt t 3 && mi_in i n)) with
      | false => rw [hb] at e; cases e
      | true =>
        rw [hb] at e
        dsimp only [cond_true] at e ⊢
        cases e
        rw [mi_rn_set hk (τ := (mi_uc σ.1 q (upd (σ.1 q) i.toNatClampNeg (mi_nar t x)), σ.2)) (by simp [mi_ce, mi_uc_same]) (fun c h => mi_uc_ne _ _ h) (fun _ _ => rfl)]
    · cases e
  · rename_i u n hk
    rw [mi_rn_get hk]
    dsimp only [mi_ce]
    split at e
    · rename_i x
      cases hb : (Nat.beq u t && (Nat.beq t 3 && mi_in i n)) with
      | false => rw [hb] at e; cases e
      | true =>
        rw [hb] at e
        dsimp only [cond_true] at e ⊢
        cases e
        rw [mi_rn_set (σ := σ) hk (τ := (σ.1, mi_uc σ.2 q (vp_updL (σ.2 q) i.toNatClampNeg x))) (by simp [mi_ce, mi_uc_same]) (fun _ _ => rfl) (fun c h => mi_uc_ne _ _ h)]
    · cases e
  · cases e
theorem mi_rf_ln {X : Nat × (Nat → Int32)} {sh : List mK} (q : Nat) (σ : mG) (n : Int32) (e : mi_ln2 X sh q σ = some n) : mi_ln1 X q (mi_rn σ 0 sh) = some n := by
  unfold mi_ln2 at e
  unfold mi_ln1
  cases hb : Nat.beq q 999 with
  | true => rw [hb] at e; exact e
  | false =>
    rw [hb] at e
    dsimp only [cond_false] at e ⊢
    split at e
    · rename_i u n b hk
      rw [mi_rn_get hk]
      cases b <;> exact e
    · cases e
theorem mi_rf_is {sh : List mK} (c q : Nat) (σ : mG) (e : mi_is2 sh c q σ = true) : mi_is1' c q (mi_rn σ 0 sh) = true := by
  unfold mi_is2 at e
  unfold mi_is1'
  split at e
  · rename_i ci ks hk
    rw [mi_rn_get hk]
    exact e
  · cases e
theorem mi_rf_cp {sh : List mK} (a : Nat) (x : Int32) (b : Nat) (y n : Int32) (σ τ : mG) (e : mi_cp2 sh a x b y n σ = some τ) : mi_cp1 a x b y n (mi_rn σ 0 sh) = some (mi_rn τ 0 sh) := by
  unfold mi_cp2 at e
  unfold mi_cp1
  split at e
  · rename_i u n0 hk
    rw [mi_rn_get hk]
    dsimp only [mi_ce]
    split at e
    · rename_i v n1 hk1
      rw [mi_rn_get hk1]
      dsimp only [mi_ce]
      cases hb : (Nat.beq u 1 && (Nat.beq v 1 && (mi_cq x y n n0 n1 && mi_fc (σ.1 a) x.toNatClampNeg n.toNatClampNeg))) with
      | false => rw [hb] at e; cases e
      | true =>
        rw [hb] at e
        dsimp only [cond_true] at e ⊢
        cases e
        rw [mi_rn_set hk1 (τ := (mi_uc σ.1 b (va_cpy (σ.1 a) (σ.1 b) x.toNatClampNeg y.toNatClampNeg n.toNatClampNeg), σ.2)) (by simp [mi_ce, mi_uc_same]) (fun c h => mi_uc_ne _ _ h) (fun _ _ => rfl)]
    · cases e
  · cases e
theorem mi_rf21 (F : List (List Nat)) (X : Nat × (Nat → Int32)) (sh : List mK) : mi_rf (fun σ => mi_rn σ 0 sh) (mi_O2 F X sh) (mi_O1 F X) := ⟨mi_rf_get, mi_rf_put, mi_rf_ld, mi_rf_sa, mi_rf_ln, (fun a h q h1 e => by cases e), (fun a n h q h1 e => by cases e), mi_rf_is⟩
theorem mi_pr_rf {α β : Type} {f : α → β} {L : List (List Int32)} {cp : Nat → Int32 → Nat → Int32 → Int32 → α → Option α} {cp' : Nat → Int32 → Nat → Int32 → Int32 → β → Option β} (hcp : ∀ a x b y n h h1, cp a x b y n h = some h1 → cp' a x b y n (f h) = some (f h1)) : mi_rc' f (mi_pr L cp) (mi_pr L cp') := by
  intro j as h v h1 e
  unfold mi_pr at e ⊢
  cases hb0 : Nat.beq j 1000 with
  | true =>
    rw [hb0] at e
    dsimp only [cond_true] at e ⊢
    split at e
    · cases e; rfl
    · cases e
  | false =>
    rw [hb0] at e
    dsimp only [cond_false] at e ⊢
    cases hb1 : Nat.beq j 1001 with
    | true =>
      rw [hb1] at e
      dsimp only [cond_true] at e ⊢
      split at e
      · cases e; rfl
      · cases e
    | false =>
      rw [hb1] at e
      dsimp only [cond_false] at e ⊢
      cases hb2 : Nat.beq j 1002 with
      | true =>
        rw [hb2] at e
        dsimp only [cond_true] at e ⊢
        split at e
        · split at e
          · rename_i h2 hh
            cases e
            try dsimp only
            rw [hcp _ _ _ _ _ _ _ hh]
          · cases e
        · cases e
      | false =>
        rw [hb2] at e
        dsimp only [cond_false] at e ⊢
        cases hb3 : Nat.beq j 1003 with
        | true =>
          rw [hb3] at e
          dsimp only [cond_true] at e ⊢
          split at e
          · split at e
            · rename_i l hh
              cases e
              try dsimp only
              try rw [hh]
            · cases e
          · cases e
        | false =>
          rw [hb3] at e
          dsimp only [cond_false] at e ⊢
          cases hb4 : Nat.beq j 1004 with
          | true =>
            rw [hb4] at e
            dsimp only [cond_true] at e ⊢
            split at e
            · split at e
              · rename_i i _ l hh
                try dsimp only
                try rw [hh]
                try dsimp only
                cases hi : mi_in i l.length with
                | true => rw [hi] at e; cases e; rfl
                | false => rw [hi] at e; cases e
              · cases e
            · cases e
          | false => rw [hb4] at e; cases e
section T2
variable {α : Type} {O : mOp α} {PR : Nat → List Value → α → Option (mA α)} {M : List mM} {tb : mB} {ret : Option FieldType} {d : Nat} {r : mA α} {pc nx a b c : Nat} {i : Instr} {w : Value} {ls : mL} {st : List Value} {h : α}
theorem mi_T.hp {st1 : List Value} {h1 : α} (hl : mi_lk tb pc = some (i, nx, a, b, c, w)) (hk : mi_kd i = (false, true)) (hh : mi_hp O i a b st h = some (st1, h1)) (k : mi_T O PR M d tb ret (nx, ls, st1, h1) r) : mi_T O PR M d tb ret (pc, ls, st, h) r := by
  refine mi_T.step (fun cal => ?_) k
  unfold mi_one
  dsimp only
  rw [hl]
  dsimp only
  rw [hk]
  dsimp only
  rw [hh]
theorem mi_T.pl {pc1 : Nat} {ls1 : mL} {st1 : List Value} (hl : mi_lk tb pc = some (i, nx, a, b, c, w)) (hk : mi_kd i = (false, false)) (hh : mi_pl i pc nx a w ls st = some (pc1, ls1, st1)) (k : mi_T O PR M d tb ret (pc1, ls1, st1, h) r) : mi_T O PR M d tb ret (pc, ls, st, h) r := by
  refine mi_T.step (fun cal => ?_) k
  unfold mi_one
  dsimp only
  rw [hl]
  dsimp only
  rw [hk]
  dsimp only
  rw [hh]
/-- int division and remainder by what isn't 0 -/
theorem mi_T.idiv {x y : Int32} (hl : mi_lk tb pc = some (.idiv, nx, a, b, c, w)) (hy : ¬ y = 0) (k : mi_T O PR M d tb ret (nx, ls, .int (x / y) :: st, h) r) : mi_T O PR M d tb ret (pc, ls, .int y :: .int x :: st, h) r := mi_T.pl hl rfl (by simp only [mi_pl, mi_d1, decide_eq_false hy, cond_false]) k
theorem mi_T.irem {x y : Int32} (hl : mi_lk tb pc = some (.irem, nx, a, b, c, w)) (hy : ¬ y = 0) (k : mi_T O PR M d tb ret (nx, ls, .int (x - x / y * y) :: st, h) r) : mi_T O PR M d tb ret (pc, ls, .int y :: .int x :: st, h) r := mi_T.pl hl rfl (by simp only [mi_pl, mi_d1, decide_eq_false hy, cond_false]) k
theorem mi_T.ldiv {x y : Int64} (hl : mi_lk tb pc = some (.ldiv, nx, a, b, c, w)) (hy : ¬ y = 0) (k : mi_T O PR M d tb ret (nx, ls, .long (x / y) :: st, h) r) : mi_T O PR M d tb ret (pc, ls, .long y :: .long x :: st, h) r := mi_T.pl hl rfl (by simp only [mi_pl, mi_d2, decide_eq_false hy, cond_false]) k
theorem mi_T.lrem {x y : Int64} (hl : mi_lk tb pc = some (.lrem, nx, a, b, c, w)) (hy : ¬ y = 0) (k : mi_T O PR M d tb ret (nx, ls, .long (x - x / y * y) :: st, h) r) : mi_T O PR M d tb ret (pc, ls, .long y :: .long x :: st, h) r := mi_T.pl hl rfl (by simp only [mi_pl, mi_d2, decide_eq_false hy, cond_false]) k
/-- a call of a method of the JDK's -/
theorem mi_T.prim {j : Nat} {rest as : List Value} {h1 : α} {v : Option Value} (hl : mi_lk tb pc = some (i, nx, j, b, c, w)) (hk : mi_kd i = (true, false)) (ht : mi_take b [] st = some (as, rest)) (hj : (Nat.ble (mi_cats rest) 8 && mi_rc O c as h) = true) (hm : Nat.blt j 1000 = false)
    (hr : PR j as h = some (v, h1)) (k : mi_T O PR M d tb ret (nx, ls, v.toList ++ rest, h1) r) : mi_T O PR M d tb ret (pc, ls, st, h) r := by
  refine mi_T.step (fun cal => ?_) k
  unfold mi_one
  dsimp only
  rw [hl]
  dsimp only
  rw [hk]
  dsimp only
  unfold mi_cl
  rw [ht]
  dsimp only
  rw [hj, hm]
  dsimp only [cond_true, cond_false]
  rw [hr]
end T2
theorem mi_in_nI {j n : Nat} (hj : j < n) (hn : n < 2 ^ 31) : mi_in (nI j) n = true := by
  unfold mi_in
  rw [decide_eq_false (nI_pos (by omega)), nI_clamp (by omega)]
  simpa using hj
section T3
variable {F : List (List Nat)} {X : Nat × (Nat → Int32)} {sh : List mK} {PR : Nat → List Value → mG → Option (mA mG)} {M : List mM} {tb : mB} {ret : Option FieldType} {d : Nat} {r : mA mG} {pc nx a b c : Nat} {i : Instr} {w : Value} {ls : mL} {st : List Value} {σ : mG}
/-- a load from an int, char or boolean array -/
theorem mi_T.ldI {x : Int32} {q t n : Nat} (j : Nat) (hl : mi_lk tb pc = some (i, nx, a, b, c, w)) (hi : mi_kd i = (false, true)) (hh : ∀ z, mi_hp (mi_O2 F X sh) i a b z σ = mi_al (mi_O2 F X sh) t z σ) (hs : sh[q]? = some (.inl (t, n, false))) (hq : Nat.beq q 999 = false) (ht : Nat.blt t 3 = true) (hn : n < 2 ^ 31) (hx : x = nI j) (hj : j < n)
    (k : mi_T (mi_O2 F X sh) PR M d tb ret (nx, ls, .int (σ.1 q j) :: st, σ) r) : mi_T (mi_O2 F X sh) PR M d tb ret (pc, ls, .int x :: .ref q :: st, σ) r := by
  refine mi_T.hp hl hi ?_ k
  rw [hh]
  subst hx
  simp only [mi_al, mi_O2, mi_ld2, hq, hs, ht, mi_in_nI hj hn, nI_clamp (Nat.lt_trans hj hn), cond_false, Nat.beq_refl, Bool.and_self, cond_true]
theorem mi_T.ldJ {x : Int32} {q n : Nat} (j : Nat) (hl : mi_lk tb pc = some (.laload, nx, a, b, c, w)) (hs : sh[q]? = some (.inl (3, n, true))) (hq : Nat.beq q 999 = false) (hn : n < 2 ^ 31) (hx : x = nI j) (hj : j < n)
    (k : mi_T (mi_O2 F X sh) PR M d tb ret (nx, ls, .long (σ.2 q j) :: st, σ) r) : mi_T (mi_O2 F X sh) PR M d tb ret (pc, ls, .int x :: .ref q :: st, σ) r := by
  refine mi_T.hp hl rfl ?_ k
  subst hx
  simp only [mi_hp, mi_al, mi_O2, mi_ld2, hq, hs, mi_in_nI hj hn, nI_clamp (Nat.lt_trans hj hn), cond_false, Nat.beq_refl, Bool.and_self, cond_true]
theorem mi_T.stI {x v : Int32} {q t n : Nat} (j : Nat) (hl : mi_lk tb pc = some (i, nx, a, b, c, w)) (hi : mi_kd i = (false, true)) (hh : ∀ z, mi_hp (mi_O2 F X sh) i a b z σ = mi_as (mi_O2 F X sh) t z σ) (hs : sh[q]? = some (.inl (t, n, false))) (ht : Nat.blt t 3 = true) (hn : n < 2 ^ 31) (hx : x = nI j) (hj : j < n)
    (k : mi_T (mi_O2 F X sh) PR M d tb ret (nx, ls, st, (mi_uc σ.1 q (upd (σ.1 q) j (mi_nar t v)), σ.2)) r) : mi_T (mi_O2 F X sh) PR M d tb ret (pc, ls, .int v :: .int x :: .ref q :: st, σ) r := by
  refine mi_T.hp hl hi ?_ k
  rw [hh]
  subst hx
  simp only [mi_as, mi_O2, mi_sa2, hs, ht, mi_in_nI hj hn, nI_clamp (Nat.lt_trans hj hn), Nat.beq_refl, Bool.and_self, cond_true]
theorem mi_T.stJ {x : Int32} {v : Int64} {q n : Nat} (j : Nat) (hl : mi_lk tb pc = some (.lastore, nx, a, b, c, w)) (hs : sh[q]? = some (.inl (3, n, true))) (hn : n < 2 ^ 31) (hx : x = nI j) (hj : j < n)
    (k : mi_T (mi_O2 F X sh) PR M d tb ret (nx, ls, st, (σ.1, mi_uc σ.2 q (vp_updL (σ.2 q) j v))) r) : mi_T (mi_O2 F X sh) PR M d tb ret (pc, ls, .long v :: .int x :: .ref q :: st, σ) r := by
  refine mi_T.hp hl rfl ?_ k
  subst hx
  simp only [mi_hp, mi_as, mi_O2, mi_sa2, hs, mi_in_nI hj hn, nI_clamp (Nat.lt_trans hj hn), Nat.beq_refl, Bool.and_self, cond_true]
end T3
section T4
variable {α : Type} {O : mOp α} {PR : Nat → List Value → α → Option (mA α)} {M : List mM} {tb : mB} {ret : Option FieldType} {d : Nat} {r q : mA α} {pc nx a b c : Nat} {w : Value} {ls : mL} {s : mS α} {h : α}
theorem mi_T.fin (e : r = q) (h1 : ∀ cal, mi_one O PR cal tb ret s = some (.inr q)) : mi_T O PR M d tb ret s r := e ▸ mi_T.done h1
theorem mi_T.finz {v : Int32} (hl : mi_lk tb pc = some (.ireturn, nx, a, b, c, w)) (hb : v = 0 ∨ v = 1) (e : r = (some (.int v), h)) : mi_T O PR M d tb (some .boolean) (pc, ls, [.int v], h) r := by
  refine mi_T.fin e (fun cal => ?_)
  unfold mi_one
  dsimp only
  rw [hl]
  dsimp only [mi_kd]
  have hn : mi_nr .boolean v = true := by
    unfold mi_nr
    rcases hb with rfl | rfl <;> rfl
  unfold mi_re
  dsimp only
  rw [hn]
  rfl
end T4
section T5
variable {F : List (List Nat)} {X : Nat × (Nat → Int32)} {sh : List mK} {PR : Nat → List Value → mG → Option (mA mG)} {M : List mM} {tb : mB} {ret : Option FieldType} {d : Nat} {r : mA mG} {pc nx a b c : Nat} {w : Value} {ls : mL} {st : List Value} {σ : mG} {x v : Int32} {y : Int64} {q n : Nat}
theorem mi_T.li (hl : mi_lk tb pc = some (.iaload, nx, a, b, c, w)) (hs : sh[q]? = some (.inl (0, n, false))) (hb : mi_in x n = true) (k : mi_T (mi_O2 F X sh) PR M d tb ret (nx, ls, .int (σ.1 q x.toNatClampNeg) :: st, σ) r) (hq : Nat.beq q 999 = false := by rfl) : mi_T (mi_O2 F X sh) PR M d tb ret (pc, ls, .int x :: .ref q :: st, σ) r :=
  mi_T.hp hl rfl (by simp only [mi_hp, mi_al, mi_O2, mi_ld2, hq, hs, hb, cond_false, Nat.beq_refl, Bool.and_self, cond_true]; rfl) k
theorem mi_T.lc (hl : mi_lk tb pc = some (.caload, nx, a, b, c, w)) (hs : sh[q]? = some (.inl (1, n, false))) (hb : mi_in x n = true) (k : mi_T (mi_O2 F X sh) PR M d tb ret (nx, ls, .int (σ.1 q x.toNatClampNeg) :: st, σ) r) (hq : Nat.beq q 999 = false := by rfl) : mi_T (mi_O2 F X sh) PR M d tb ret (pc, ls, .int x :: .ref q :: st, σ) r :=
  mi_T.hp hl rfl (by simp only [mi_hp, mi_al, mi_O2, mi_ld2, hq, hs, hb, cond_false, Nat.beq_refl, Bool.and_self, cond_true]; rfl) k
theorem mi_T.lz (hl : mi_lk tb pc = some (.baload, nx, a, b, c, w)) (hs : sh[q]? = some (.inl (2, n, false))) (hb : mi_in x n = true) (k : mi_T (mi_O2 F X sh) PR M d tb ret (nx, ls, .int (σ.1 q x.toNatClampNeg) :: st, σ) r) (hq : Nat.beq q 999 = false := by rfl) : mi_T (mi_O2 F X sh) PR M d tb ret (pc, ls, .int x :: .ref q :: st, σ) r :=
  mi_T.hp hl rfl (by simp only [mi_hp, mi_al, mi_O2, mi_ld2, hq, hs, hb, cond_false, Nat.beq_refl, Bool.and_self, cond_true]; rfl) k
theorem mi_T.lj (hl : mi_lk tb pc = some (.laload, nx, a, b, c, w)) (hs : sh[q]? = some (.inl (3, n, true))) (hb : mi_in x n = true) (k : mi_T (mi_O2 F X sh) PR M d tb ret (nx, ls, .long (σ.2 q x.toNatClampNeg) :: st, σ) r) (hq : Nat.beq q 999 = false := by rfl) : mi_T (mi_O2 F X sh) PR M d tb ret (pc, ls, .int x :: .ref q :: st, σ) r :=
  mi_T.hp hl rfl (by simp only [mi_hp, mi_al, mi_O2, mi_ld2, hq, hs, hb, cond_false, Nat.beq_refl, Bool.and_self, cond_true]) k
theorem mi_T.si (hl : mi_lk tb pc = some (.iastore, nx, a, b, c, w)) (hs : sh[q]? = some (.inl (0, n, false))) (hb : mi_in x n = true) (k : mi_T (mi_O2 F X sh) PR M d tb ret (nx, ls, st, (mi_uc σ.1 q (upd (σ.1 q) x.toNatClampNeg v), σ.2)) r) : mi_T (mi_O2 F X sh) PR M d tb ret (pc, ls, .int v :: .int x :: .ref q :: st, σ) r :=
  mi_T.hp hl rfl (by simp only [mi_hp, mi_as, mi_O2, mi_sa2, hs, hb, Nat.beq_refl, Bool.and_self, cond_true]; rfl) k
theorem mi_T.sc (hl : mi_lk tb pc = some (.castore, nx, a, b, c, w)) (hs : sh[q]? = some (.inl (1, n, false))) (hb : mi_in x n = true) (k : mi_T (mi_O2 F X sh) PR M d tb ret (nx, ls, st, (mi_uc σ.1 q (upd (σ.1 q) x.toNatClampNeg (mi_nar 1 v)), σ.2)) r) : mi_T (mi_O2 F X sh) PR M d tb ret (pc, ls, .int v :: .int x :: .ref q :: st, σ) r :=
  mi_T.hp hl rfl (by simp only [mi_hp, mi_as, mi_O2, mi_sa2, hs, hb, Nat.beq_refl, Bool.and_self, cond_true]; rfl) k
theorem mi_T.sz (hl : mi_lk tb pc = some (.bastore, nx, a, b, c, w)) (hs : sh[q]? = some (.inl (2, n, false))) (hb : mi_in x n = true) (k : mi_T (mi_O2 F X sh) PR M d tb ret (nx, ls, st, (mi_uc σ.1 q (upd (σ.1 q) x.toNatClampNeg (mi_nar 2 v)), σ.2)) r) : mi_T (mi_O2 F X sh) PR M d tb ret (pc, ls, .int v :: .int x :: .ref q :: st, σ) r :=
  mi_T.hp hl rfl (by simp only [mi_hp, mi_as, mi_O2, mi_sa2, hs, hb, Nat.beq_refl, Bool.and_self, cond_true]; rfl) k
theorem mi_T.sj (hl : mi_lk tb pc = some (.lastore, nx, a, b, c, w)) (hs : sh[q]? = some (.inl (3, n, true))) (hb : mi_in x n = true) (k : mi_T (mi_O2 F X sh) PR M d tb ret (nx, ls, st, (σ.1, mi_uc σ.2 q (vp_updL (σ.2 q) x.toNatClampNeg y))) r) : mi_T (mi_O2 F X sh) PR M d tb ret (pc, ls, .long y :: .int x :: .ref q :: st, σ) r :=
  mi_T.hp hl rfl (by simp only [mi_hp, mi_as, mi_O2, mi_sa2, hs, hb, Nat.beq_refl, Bool.and_self, cond_true]) k
end T5
end
section
/-! The machine does what the mini does: places, locals, and the instructions that look at no cell. -/
def mi_ad (base scr : Nat) (lit : Nat → Nat) (k : Nat) : Nat := bif Nat.blt k 900 then base + k else bif Nat.beq k 999 then scr else lit (k - 1000)
def mi_v (ad : Nat → Nat) : Value → Value
  | .ref a => .ref (ad a)
  | v => v
def mi_e (ct : Nat → ClassId) (ad : Nat → Nat) (x : mE) : va_E := match x with
  | .inl q => .inl (ct q.1, q.2)
  | .inr q => .inr (q.1, q.2.map (mi_v ad))
def mi_ws (ct : Nat → ClassId) (ad : Nat → Nat) : Nat → mH → va_W
  | _, [] => []
  | k, x :: r => (ad k, mi_e ct ad x) :: mi_ws ct ad (k + 1) r
theorem mi_ws_at (ct : Nat → ClassId) (ad : Nat → Nat) : ∀ (h : mH) (k j : Nat), (mi_ws ct ad k h)[j]? = (h[j]?).map (fun x => (ad (k + j), mi_e ct ad x)) := by
  intro h
  induction h with
  | nil => intro k j; simp [mi_ws]
  | cons x r ih =>
    intro k j
    cases j with
    | zero => simp [mi_ws]
    | succ j => simp [mi_ws, ih, Nat.add_assoc, Nat.add_comm 1 j]
theorem mi_ws_get {ct : Nat → ClassId} {ad : Nat → Nat} {h : mH} {j : Nat} {x : mE} (hj : h[j]? = some x) : (mi_ws ct ad 0 h)[j]? = some (ad j, mi_e ct ad x) := by rw [mi_ws_at, hj]; simp
theorem mi_ws_set {ct : Nat → ClassId} {ad : Nat → Nat} {h : mH} {j : Nat} {x : mE} : mi_ws ct ad 0 (h.set j x) = (mi_ws ct ad 0 h).set j (ad j, mi_e ct ad x) := by
  apply List.ext_getElem?
  intro i
  by_cases hi : j = i
  · subst hi
    by_cases hl : j < h.length
    · have hl2 : j < (mi_ws ct ad 0 h).length := by
        have := mi_ws_get (ct := ct) (ad := ad) (List.getElem?_eq_getElem hl)
        exact (List.getElem?_eq_some_iff.mp this).1
      rw [mi_ws_at, List.getElem?_set_self hl, List.getElem?_set_self hl2]
      simp
    · have hl2 : ¬ j < (mi_ws ct ad 0 h).length := by
        intro z
        have h1 := List.getElem?_eq_getElem z
        rw [mi_ws_at, List.getElem?_eq_none (by omega)] at h1
        cases h1
      rw [mi_ws_at, List.getElem?_eq_none (by rw [List.length_set]; omega), List.getElem?_eq_none (by rw [List.length_set]; omega)]
      rfl
  · rw [mi_ws_at, List.getElem?_set_ne hi, List.getElem?_set_ne hi, mi_ws_at]
theorem mi_ws_app {ct : Nat → ClassId} {ad : Nat → Nat} {x : mE} : ∀ (h : mH) (k : Nat), mi_ws ct ad k (h ++ [x]) = mi_ws ct ad k h ++ [(ad (k + h.length), mi_e ct ad x)] := by
  intro h
  induction h with
  | nil => intro k; simp [mi_ws]
  | cons y r ih => intro k; simp [mi_ws, ih, Nat.add_assoc, Nat.add_comm 1]
theorem mi_cat (ad : Nat → Nat) (v : Value) : (mi_v ad v).category = v.category := by cases v <;> rfl
theorem mi_ad_lt {base scr : Nat} {lit : Nat → Nat} {k : Nat} (h : k < 900) : mi_ad base scr lit k = base + k := by
  have hb : Nat.blt k 900 = true := by rw [Nat.blt_eq]; exact h
  unfold mi_ad
  rw [hb]
  rfl
theorem mi_D {ct : Nat → ClassId} {base scr : Nat} {lit : Nat → Nat} {h : mH} (hl : h.length ≤ 900) : va_D (fun q => base ≤ q) (mi_ws ct (mi_ad base scr lit) 0 h) := by
  have key : ∀ (k : Nat) (q : Nat × va_E), (mi_ws ct (mi_ad base scr lit) 0 h)[k]? = some q → q.1 = base + k := by
    intro k q hk
    rw [mi_ws_at] at hk
    cases hx : h[k]? with
    | none => rw [hx] at hk; cases hk
    | some x =>
      rw [hx] at hk
      cases hk
      simp only [Nat.zero_add]
      exact mi_ad_lt (by have := (List.getElem?_eq_some_iff.mp hx).1; omega)
  refine ⟨fun i j p q hi hj e => ?_, fun k q hk => ?_⟩
  · rw [key i p hi, key j q hj] at e
    omega
  · show base ≤ q.1
    rw [key k q hk]
    omega
/-- the locals -/
def mi_lh (ad : Nat → Nat) (lr : Array Slot) (nL : Nat) (ls : mL) : Prop := lr.size = nL ∧ lv_wf lr ∧ ls.length = nL ∧ ∀ (i : Nat) (v : Value), ls[i]? = some (some v) → lr[i]? = some (Slot.val (mi_v ad v))
def mi_lp (ad : Nat → Nat) : Nat → mL → List (Nat × Value)
  | _, [] => []
  | k, some v :: r => (k, mi_v ad v) :: mi_lp ad (k + 1) r
  | k, none :: r => mi_lp ad (k + 1) r
theorem mi_lp_of {ad : Nat → Nat} : ∀ (ls : mL) (k : Nat) (q : Nat × Value), q ∈ mi_lp ad k ls → ∃ i v, ls[i]? = some (some v) ∧ q = (k + i, mi_v ad v) := by
  intro ls
  induction ls with
  | nil => intro k q hq; cases hq
  | cons x r ih =>
    intro k q hq
    cases x with
    | none =>
      obtain ⟨i, v, h1, h2⟩ := ih (k + 1) q hq
      exact ⟨i + 1, v, by simpa using h1, by rw [h2]; simp [Nat.add_assoc, Nat.add_comm 1]⟩
    | some y =>
      rcases List.mem_cons.mp hq with h | h
      · exact ⟨0, y, rfl, by rw [h]; rfl⟩
      · obtain ⟨i, v, h1, h2⟩ := ih (k + 1) q h
        exact ⟨i + 1, v, by simpa using h1, by rw [h2]; simp [Nat.add_assoc, Nat.add_comm 1]⟩
theorem mi_lp_in {ad : Nat → Nat} : ∀ (ls : mL) (k i : Nat) (v : Value), ls[i]? = some (some v) → (k + i, mi_v ad v) ∈ mi_lp ad k ls := by
  intro ls
  induction ls with
  | nil => intro k i v h; simp at h
  | cons x r ih =>
    intro k i v h
    cases i with
    | zero =>
      simp only [List.getElem?_cons_zero, Option.some.injEq] at h
      subst h
      exact List.mem_cons_self
    | succ i =>
      have h1 := ih (k + 1) i v (by simpa using h)
      rw [show k + 1 + i = k + (i + 1) by omega] at h1
      cases x with
      | none => exact h1
      | some y => exact List.mem_cons_of_mem _ h1
theorem mi_lh.has {ad : Nat → Nat} {lr : Array Slot} {nL : Nat} {ls : mL} (h : mi_lh ad lr nL ls) : lv_has lr nL (mi_lp ad 0 ls) := by
  refine ⟨h.1, h.2.1, fun q hq => ?_⟩
  obtain ⟨i, v, h1, h2⟩ := mi_lp_of ls 0 q hq
  rw [h2]
  simpa using h.2.2.2 i v h1
theorem mi_s1_ok {ad : Nat → Nat} {nL : Nat} {ls l1 : mL} {i : Nat} {v : Value} (hn : ls.length = nL) (e : mi_s1 ls i v = some l1) : i < nL ∧ ∀ lr : Array Slot, lv_has lr nL ((i, mi_v ad v) :: (mi_lp ad 0 ls).filter (fun q => !(q.1 == i) && !(q.1 + 1 == i && q.2.category == 2))) → mi_lh ad lr nL l1 := by
  unfold mi_s1 at e
  cases hb : (Nat.blt i ls.length && mi_nl ls i) with
  | false => rw [hb] at e; cases e
  | true =>
    rw [hb] at e
    cases e
    rw [Bool.and_eq_true, Nat.blt_eq] at hb
    refine ⟨by omega, fun lr h => ⟨h.1, h.2.1, by rw [List.length_set]; exact hn, fun j u hj => ?_⟩⟩
    by_cases hij : i = j
    · subst hij
      rw [List.getElem?_set_self hb.1] at hj
      cases hj
      exact h.2.2 _ List.mem_cons_self
    · rw [List.getElem?_set_ne hij] at hj
      have h1 := mi_lp_in (ad := ad) ls 0 j u hj
      rw [Nat.zero_add] at h1
      refine h.2.2 _ (List.mem_cons_of_mem _ (List.mem_filter.mpr ⟨h1, ?_⟩))
      have h2 : ¬ (j + 1 = i ∧ u.category = 2) := by
        rintro ⟨rfl, hc⟩
        have h3 := hb.2
        simp [mi_nl, hj, hc] at h3
      simp only [mi_cat]
      have h4 : (j == i) = false := by simpa using Ne.symm hij
      rw [h4]
      simp only [Bool.not_false, Bool.true_and, Bool.not_eq_true', Bool.and_eq_false_iff, beq_eq_false_iff_ne, ne_eq]
      by_cases z : j + 1 = i
      · exact Or.inr (fun y => h2 ⟨z, y⟩)
      · exact Or.inl z
theorem mi_s2_ok {ad : Nat → Nat} {nL : Nat} {ls l1 : mL} {i : Nat} {v : Value} (hn : ls.length = nL) (e : mi_s2 ls i v = some l1) : i + 1 < nL ∧ ∀ lr : Array Slot, lv_has lr nL ((i, mi_v ad v) :: (mi_lp ad 0 ls).filter (fun q => !(q.1 == i) && (!(q.1 == i + 1) && !(q.1 + 1 == i && q.2.category == 2)))) → mi_lh ad lr nL l1 := by
  unfold mi_s2 at e
  cases hb : (Nat.blt (i + 1) ls.length && mi_nl ls i) with
  | false => rw [hb] at e; cases e
  | true =>
    rw [hb] at e
    cases e
    rw [Bool.and_eq_true, Nat.blt_eq] at hb
    refine ⟨by omega, fun lr h => ⟨h.1, h.2.1, by rw [List.length_set, List.length_set]; exact hn, fun j u hj => ?_⟩⟩
    by_cases hij1 : i + 1 = j
    · subst hij1
      rw [List.getElem?_set_self (by rw [List.length_set]; exact hb.1)] at hj
      cases hj
    · rw [List.getElem?_set_ne hij1] at hj
      by_cases hij : i = j
      · subst hij
        rw [List.getElem?_set_self (by omega)] at hj
        cases hj
        exact h.2.2 _ List.mem_cons_self
      · rw [List.getElem?_set_ne hij] at hj
        have h1 := mi_lp_in (ad := ad) ls 0 j u hj
        rw [Nat.zero_add] at h1
        refine h.2.2 _ (List.mem_cons_of_mem _ (List.mem_filter.mpr ⟨h1, ?_⟩))
        have h2 : ¬ (j + 1 = i ∧ u.category = 2) := by
          rintro ⟨rfl, hc⟩
          have h3 := hb.2
          simp [mi_nl, hj, hc] at h3
        simp only [mi_cat]
        have h4 : (j == i) = false := by simpa using Ne.symm hij
        have h5 : (j == i + 1) = false := by simpa using Ne.symm hij1
        rw [h4, h5]
        simp only [Bool.not_false, Bool.true_and, Bool.not_eq_true', Bool.and_eq_false_iff, beq_eq_false_iff_ne, ne_eq]
        by_cases z : j + 1 = i
        · exact Or.inr (fun y => h2 ⟨z, y⟩)
        · exact Or.inl z
def mi_len : Instr → Nat
  | .aload _ => 2
  | .astore _ => 2
  | .bipush _ => 2
  | .iload _ => 2
  | .istore _ => 2
  | .lload _ => 2
  | .lstore _ => 2
  | .ldc _ => 2
  | .newarray _ => 2
  | .getfield _ => 3
  | .putfield _ => 3
  | .goto _ => 3
  | .if_icmp _ _ => 3
  | .ifCond _ _ => 3
  | .iinc _ _ => 3
  | .invokespecial _ => 3
  | .invokestatic _ => 3
  | .invokevirtual _ => 3
  | .ldc_w _ => 3
  | .ldc2_w _ => 3
  | .new _ => 3
  | .sipush _ => 3
  | _ => 1
/-- what the constant and the target of an entry must be -/
def mi_V1 (i : Instr) (pc a : Nat) (w : Value) : Prop := match i with
  | .iconst n => w = .int (Int32.ofInt n)
  | .bipush n => w = .int (Int8.ofInt n).toInt32
  | .sipush n => w = .int (Int16.ofInt n).toInt32
  | .lconst n => w = .long (Int64.ofNat n.val)
  | .iinc _ n => w = .int (Int32.ofInt n)
  | .goto off => (pc : Int) + off = (a : Int)
  | .ifCond _ off => (pc : Int) + off = (a : Int)
  | .if_icmp _ off => (pc : Int) + off = (a : Int)
  | _ => True
theorem mi_ld_inv {nx k : Nat} {ok : Value → Bool} {ls : mL} {st : List Value} {x : mP} (e : mi_ld nx k ok ls st = some x) : ∃ v, ls[k]? = some (some v) ∧ ok v = true ∧ x = (nx, ls, v :: st) := by
  unfold mi_ld at e
  split at e
  · rename_i v hv
    cases hb : ok v with
    | false => rw [hb] at e; cases e
    | true => rw [hb] at e; cases e; exact ⟨v, hv, hb, rfl⟩
  · cases e
theorem mi_sv_inv {nx k : Nat} {ok : Value → Bool} {ls : mL} {st : List Value} {x : mP} (e : mi_sv nx k ok ls st = some x) : ∃ v r l1, st = v :: r ∧ ok v = true ∧ mi_s1 ls k v = some l1 ∧ x = (nx, l1, r) := by
  unfold mi_sv at e
  split at e
  · rename_i v r
    cases hb : ok v with
    | false => rw [hb] at e; cases e
    | true =>
      rw [hb] at e
      dsimp only [cond_true] at e
      split at e
      · rename_i l1 hl
        cases e
        exact ⟨v, r, l1, rfl, hb, hl, rfl⟩
      · cases e
  · cases e
theorem mi_sv2_inv {nx k : Nat} {ls : mL} {st : List Value} {x : mP} (e : mi_sv2 nx k ls st = some x) : ∃ v r l1, st = v :: r ∧ mi_isL v = true ∧ mi_s2 ls k v = some l1 ∧ x = (nx, l1, r) := by
  unfold mi_sv2 at e
  split at e
  · rename_i v r
    cases hb : mi_isL v with
    | false => rw [hb] at e; cases e
    | true =>
      rw [hb] at e
      dsimp only [cond_true] at e
      split at e
      · rename_i l1 hl
        cases e
        exact ⟨v, r, l1, rfl, hb, hl, rfl⟩
      · cases e
  · cases e
theorem mi_b1_inv {f : Int32 → Int32 → Int32} {nx : Nat} {ls : mL} {st : List Value} {x : mP} (e : mi_b1 f nx ls st = some x) : ∃ a b r, st = .int b :: .int a :: r ∧ x = (nx, ls, .int (f a b) :: r) := by
  unfold mi_b1 at e
  split at e
  · cases e; exact ⟨_, _, _, rfl, rfl⟩
  · cases e
theorem mi_b2_inv {f : Int64 → Int64 → Int64} {nx : Nat} {ls : mL} {st : List Value} {x : mP} (e : mi_b2 f nx ls st = some x) : ∃ a b r, st = .long b :: .long a :: r ∧ x = (nx, ls, .long (f a b) :: r) := by
  unfold mi_b2 at e
  split at e
  · cases e; exact ⟨_, _, _, rfl, rfl⟩
  · cases e
theorem mi_b3_inv {f : Int64 → Int32 → Int64} {nx : Nat} {ls : mL} {st : List Value} {x : mP} (e : mi_b3 f nx ls st = some x) : ∃ a b r, st = .int b :: .long a :: r ∧ x = (nx, ls, .long (f a b) :: r) := by
  unfold mi_b3 at e
  split at e
  · cases e; exact ⟨_, _, _, rfl, rfl⟩
  · cases e
theorem mi_d1_inv {f : Int32 → Int32 → Int32} {nx : Nat} {ls : mL} {st : List Value} {x : mP} (e : mi_d1 f nx ls st = some x) : ∃ a b r, st = .int b :: .int a :: r ∧ ¬ b = 0 ∧ x = (nx, ls, .int (f a b) :: r) := by
  unfold mi_d1 at e
  split at e
  · rename_i y x r
    by_cases h : y = 0
    · rw [decide_eq_true h] at e; cases e
    · rw [decide_eq_false h] at e; cases e; exact ⟨_, _, _, rfl, h, rfl⟩
  · cases e
theorem mi_d2_inv {f : Int64 → Int64 → Int64} {nx : Nat} {ls : mL} {st : List Value} {x : mP} (e : mi_d2 f nx ls st = some x) : ∃ a b r, st = .long b :: .long a :: r ∧ ¬ b = 0 ∧ x = (nx, ls, .long (f a b) :: r) := by
  unfold mi_d2 at e
  split at e
  · rename_i y x r
    by_cases h : y = 0
    · rw [decide_eq_true h] at e; cases e
    · rw [decide_eq_false h] at e; cases e; exact ⟨_, _, _, rfl, h, rfl⟩
  · cases e
theorem mi_u1_inv {f : Int32 → Value} {nx : Nat} {ls : mL} {st : List Value} {x : mP} (e : mi_u1 f nx ls st = some x) : ∃ a r, st = .int a :: r ∧ x = (nx, ls, f a :: r) := by
  unfold mi_u1 at e
  split at e
  · cases e; exact ⟨_, _, rfl, rfl⟩
  · cases e
theorem mi_u2_inv {f : Int64 → Value} {nx : Nat} {ls : mL} {st : List Value} {x : mP} (e : mi_u2 f nx ls st = some x) : ∃ a r, st = .long a :: r ∧ x = (nx, ls, f a :: r) := by
  unfold mi_u2 at e
  split at e
  · cases e; exact ⟨_, _, rfl, rfl⟩
  · cases e
theorem mi_is1_eq {v : Value} (h : mi_is1 v = true) : v.category = 1 := Nat.eq_of_beq_eq_true h
section SIM
variable {p : Program} {l : Launch} {ev : Env} {R : Room} {s : State} {m : MethodId} {args : Array Value} {below : List Frame} {meth : Method} {c : Code} {H : Heap} {locs : List Loc} {cells slots : Nat} {Q : State → Prop}
variable {cc : ByteArray} {nL : Nat} {ad : Nat → Nat}
def mi_Wp (p : Program) (l : Launch) (ev : Env) (R : Room) (s : State) (m : MethodId) (args : Array Value) (below : List Frame) (meth : Method) (c : Code) (H : Heap) (locs : List Loc) (cells slots : Nat) (Q : State → Prop) (nL : Nat) (ad : Nat → Nat) (x : mP) : Prop :=
  ∀ lr : Array Slot, mi_lh ad lr nL x.2.1 → W p l ev R s m args below meth c H locs cells slots Q (F0 m x.1 lr (x.2.2.map (mi_v ad)))
variable {pc nx a : Nat} {i : Instr} {w : Value} {ls : mL} {st : List Value} {x : mP}
theorem mi_pl_ld (hx : ∃ v, ls[a]? = some (some v) ∧ mi_isI v = true ∧ x = (nx, ls, v :: st)) (row : ∀ {lr : Array Slot} {y : Int32}, lr[a]? = some (.val (.int y)) → W p l ev R s m args below meth c H locs cells slots Q (F0 m nx lr (.int y :: st.map (mi_v ad))) → W p l ev R s m args below meth c H locs cells slots Q (F0 m pc lr (st.map (mi_v ad)))) (k : mi_Wp p l ev R s m args below meth c H locs cells slots Q nL ad x) : mi_Wp p l ev R s m args below meth c H locs cells slots Q nL ad (pc, ls, st) := by
  obtain ⟨v, h1, h2, rfl⟩ := hx
  intro lr hl
  cases v with
  | int y => exact row (hl.2.2.2 _ _ h1) (k lr hl)
  | _ => simp [mi_isI] at h2
theorem mi_pl_ldL (hx : ∃ v, ls[a]? = some (some v) ∧ mi_isL v = true ∧ x = (nx, ls, v :: st)) (row : ∀ {lr : Array Slot} {y : Int64}, lr[a]? = some (.val (.long y)) → W p l ev R s m args below meth c H locs cells slots Q (F0 m nx lr (.long y :: st.map (mi_v ad))) → W p l ev R s m args below meth c H locs cells slots Q (F0 m pc lr (st.map (mi_v ad)))) (k : mi_Wp p l ev R s m args below meth c H locs cells slots Q nL ad x) : mi_Wp p l ev R s m args below meth c H locs cells slots Q nL ad (pc, ls, st) := by
  obtain ⟨v, h1, h2, rfl⟩ := hx
  intro lr hl
  cases v with
  | long y => exact row (hl.2.2.2 _ _ h1) (k lr hl)
  | _ => simp [mi_isL] at h2
theorem mi_pl_ldA (hx : ∃ v, ls[a]? = some (some v) ∧ mi_isA v = true ∧ x = (nx, ls, v :: st)) (row : ∀ {lr : Array Slot} {y : Nat}, lr[a]? = some (.val (.ref y)) → W p l ev R s m args below meth c H locs cells slots Q (F0 m nx lr (.ref y :: st.map (mi_v ad))) → W p l ev R s m args below meth c H locs cells slots Q (F0 m pc lr (st.map (mi_v ad)))) (k : mi_Wp p l ev R s m args below meth c H locs cells slots Q nL ad x) : mi_Wp p l ev R s m args below meth c H locs cells slots Q nL ad (pc, ls, st) := by
  obtain ⟨v, h1, h2, rfl⟩ := hx
  intro lr hl
  cases v with
  | ref y => exact row (hl.2.2.2 _ _ h1) (k lr hl)
  | _ => simp [mi_isA] at h2
theorem mi_pl_svI (hx : ∃ v r l1, st = v :: r ∧ mi_isI v = true ∧ mi_s1 ls a v = some l1 ∧ x = (nx, l1, r)) (row : ∀ {lr : Array Slot} {y : Int32} {rest : List Value} {lv lv' : List (Nat × Value)}, lv_has lr nL lv → a < nL → (a, Value.int y) :: lv.filter (fun q => !(q.1 == a) && !(q.1 + 1 == a && q.2.category == 2)) = lv' → (∀ lr' : Array Slot, lv_has lr' nL lv' → W p l ev R s m args below meth c H locs cells slots Q (F0 m nx lr' rest)) → W p l ev R s m args below meth c H locs cells slots Q (F0 m pc lr (.int y :: rest))) (k : mi_Wp p l ev R s m args below meth c H locs cells slots Q nL ad x) : mi_Wp p l ev R s m args below meth c H locs cells slots Q nL ad (pc, ls, st) := by
  obtain ⟨v, r, l1, rfl, h2, h3, rfl⟩ := hx
  intro lr hl
  cases v with
  | int y =>
    obtain ⟨g1, g2⟩ := mi_s1_ok (ad := ad) hl.2.2.1 h3
    exact row hl.has g1 rfl (fun lr' h' => k lr' (g2 lr' h'))
  | _ => simp [mi_isI] at h2
theorem mi_pl_svA (hx : ∃ v r l1, st = v :: r ∧ mi_isA v = true ∧ mi_s1 ls a v = some l1 ∧ x = (nx, l1, r)) (row : ∀ {lr : Array Slot} {y : Nat} {rest : List Value} {lv lv' : List (Nat × Value)}, lv_has lr nL lv → a < nL → (a, Value.ref y) :: lv.filter (fun q => !(q.1 == a) && !(q.1 + 1 == a && q.2.category == 2)) = lv' → (∀ lr' : Array Slot, lv_has lr' nL lv' → W p l ev R s m args below meth c H locs cells slots Q (F0 m nx lr' rest)) → W p l ev R s m args below meth c H locs cells slots Q (F0 m pc lr (.ref y :: rest))) (k : mi_Wp p l ev R s m args below meth c H locs cells slots Q nL ad x) : mi_Wp p l ev R s m args below meth c H locs cells slots Q nL ad (pc, ls, st) := by
  obtain ⟨v, r, l1, rfl, h2, h3, rfl⟩ := hx
  intro lr hl
  cases v with
  | ref y =>
    obtain ⟨g1, g2⟩ := mi_s1_ok (ad := ad) hl.2.2.1 h3
    exact row hl.has g1 rfl (fun lr' h' => k lr' (g2 lr' h'))
  | _ => simp [mi_isA] at h2
theorem mi_pl_svL (hx : ∃ v r l1, st = v :: r ∧ mi_isL v = true ∧ mi_s2 ls a v = some l1 ∧ x = (nx, l1, r)) (row : ∀ {lr : Array Slot} {y : Int64} {rest : List Value} {lv lv' : List (Nat × Value)}, lv_has lr nL lv → a + 1 < nL → (a, Value.long y) :: lv.filter (fun q => !(q.1 == a) && (!(q.1 == a + 1) && !(q.1 + 1 == a && q.2.category == 2))) = lv' → (∀ lr' : Array Slot, lv_has lr' nL lv' → W p l ev R s m args below meth c H locs cells slots Q (F0 m nx lr' rest)) → W p l ev R s m args below meth c H locs cells slots Q (F0 m pc lr (.long y :: rest))) (k : mi_Wp p l ev R s m args below meth c H locs cells slots Q nL ad x) : mi_Wp p l ev R s m args below meth c H locs cells slots Q nL ad (pc, ls, st) := by
  obtain ⟨v, r, l1, rfl, h2, h3, rfl⟩ := hx
  intro lr hl
  cases v with
  | long y =>
    obtain ⟨g1, g2⟩ := mi_s2_ok (ad := ad) hl.2.2.1 h3
    exact row hl.has g1 rfl (fun lr' h' => k lr' (g2 lr' h'))
  | _ => simp [mi_isL] at h2
set_option maxHeartbeats 4000000 in
/-- an instruction that looks at no cell -/
theorem mi_pl_ok (hexec : p.tables.exec = Jvm.exec) (hb : c.code = cc) (V : decode cc pc = .ok (i, mi_len i) ∨ ∃ d lo hi offs, i = .tableswitch d lo hi offs ∧ ∃ len, decode cc pc = .ok (i, len)) (hnx : nx = pc + mi_len i ∨ ∃ d lo hi offs, i = .tableswitch d lo hi offs) (hV1 : mi_V1 i pc a w)
    (hlc : (∃ k, i = .ldc k ∨ i = .ldc_w k ∨ i = .ldc2_w k) → ∀ (lr : Array Slot) (rest : List Value), W p l ev R s m args below meth c H locs cells slots Q (F0 m nx lr (mi_v ad w :: rest)) → W p l ev R s m args below meth c H locs cells slots Q (F0 m pc lr rest))
    (e : mi_pl i pc nx a w ls st = some x) (k : mi_Wp p l ev R s m args below meth c H locs cells slots Q nL ad x) : mi_Wp p l ev R s m args below meth c H locs cells slots Q nL ad (pc, ls, st) := by
  have hV : (∀ d lo hi offs, i ≠ .tableswitch d lo hi offs) → decode cc pc = .ok (i, mi_len i) ∧ nx = pc + mi_len i := by
    intro hne
    refine ⟨?_, ?_⟩
    · rcases V with h | ⟨d, lo, hi, offs, h, -⟩
      · exact h
      · exact absurd h (hne d lo hi offs)
    · rcases hnx with h | ⟨d, lo, hi, offs, h⟩
      · exact h
      · exact absurd h (hne d lo hi offs)
  unfold mi_pl at e
  split at e
  -- iconst
  · obtain ⟨V, rfl⟩ := hV (by intros; exact Instr.noConfusion)
    cases e
    have hV1 : w = _ := hV1
    subst hV1
    exact fun lr hl => lv_iconst hexec hb V rfl (k lr hl)
  -- bipush
  · obtain ⟨V, rfl⟩ := hV (by intros; exact Instr.noConfusion)
    cases e
    have hV1 : w = _ := hV1
    subst hV1
    exact fun lr hl => lv_bipush hexec hb V rfl (k lr hl)
  -- sipush
  · obtain ⟨V, rfl⟩ := hV (by intros; exact Instr.noConfusion)
    cases e
    have hV1 : w = _ := hV1
    subst hV1
    exact fun lr hl => lv_sipush hexec hb V rfl (k lr hl)
  -- lconst
  · obtain ⟨V, rfl⟩ := hV (by intros; exact Instr.noConfusion)
    cases e
    have hV1 : w = _ := hV1
    subst hV1
    exact fun lr hl => lv_lconst hexec hb V rfl (k lr hl)
  -- ldc, ldc_w, ldc2_w
  · cases e
    exact fun lr hl => hlc ⟨_, Or.inl rfl⟩ lr _ (k lr hl)
  · cases e
    exact fun lr hl => hlc ⟨_, Or.inr (Or.inl rfl)⟩ lr _ (k lr hl)
  · cases e
    exact fun lr hl => hlc ⟨_, Or.inr (Or.inr rfl)⟩ lr _ (k lr hl)
  -- loads
  · obtain ⟨V, rfl⟩ := hV (by intros; exact Instr.noConfusion)
    exact mi_pl_ld (mi_ld_inv e) (fun h1 h2 => lv_iload hexec hb V h1 h2) k
  · obtain ⟨V, rfl⟩ := hV (by intros; exact Instr.noConfusion)
    exact mi_pl_ld (mi_ld_inv e) (fun h1 h2 => lv_iload_n hexec hb V rfl h1 h2) k
  · obtain ⟨V, rfl⟩ := hV (by intros; exact Instr.noConfusion)
    exact mi_pl_ldL (mi_ld_inv e) (fun h1 h2 => lv_lload hexec hb V h1 h2) k
  · obtain ⟨V, rfl⟩ := hV (by intros; exact Instr.noConfusion)
    exact mi_pl_ldL (mi_ld_inv e) (fun h1 h2 => lv_lload_n hexec hb V rfl h1 h2) k
  · obtain ⟨V, rfl⟩ := hV (by intros; exact Instr.noConfusion)
    exact mi_pl_ldA (mi_ld_inv e) (fun h1 h2 => lv_aload hexec hb V h1 h2) k
  · obtain ⟨V, rfl⟩ := hV (by intros; exact Instr.noConfusion)
    exact mi_pl_ldA (mi_ld_inv e) (fun h1 h2 => lv_aload_n hexec hb V rfl h1 h2) k
  -- stores
  · obtain ⟨V, rfl⟩ := hV (by intros; exact Instr.noConfusion)
    exact mi_pl_svI (mi_sv_inv e) (fun h1 h2 h3 h4 => lv_istore hexec hb V h1 h2 h3 h4) k
  · obtain ⟨V, rfl⟩ := hV (by intros; exact Instr.noConfusion)
    exact mi_pl_svI (mi_sv_inv e) (fun h1 h2 h3 h4 => lv_istore_n hexec hb V rfl h1 h2 h3 h4) k
  · obtain ⟨V, rfl⟩ := hV (by intros; exact Instr.noConfusion)
    exact mi_pl_svA (mi_sv_inv e) (fun h1 h2 h3 h4 => lv_astore hexec hb V h1 h2 h3 h4) k
  · obtain ⟨V, rfl⟩ := hV (by intros; exact Instr.noConfusion)
    exact mi_pl_svA (mi_sv_inv e) (fun h1 h2 h3 h4 => lv_astore_n hexec hb V rfl h1 h2 h3 h4) k
  · obtain ⟨V, rfl⟩ := hV (by intros; exact Instr.noConfusion)
    exact mi_pl_svL (mi_sv2_inv e) (fun h1 h2 h3 h4 => lv_lstore hexec hb V h1 h2 h3 h4) k
  · obtain ⟨V, rfl⟩ := hV (by intros; exact Instr.noConfusion)
    exact mi_pl_svL (mi_sv2_inv e) (fun h1 h2 h3 h4 => lv_lstore_n hexec hb V rfl h1 h2 h3 h4) k
  -- iinc
  · obtain ⟨V, rfl⟩ := hV (by intros; exact Instr.noConfusion)
    split at e
    · rename_i y z hy
      split at e
      · rename_i l1 hl1
        cases e
        have hV1 : Value.int z = _ := hV1
        cases hV1
        intro lr hl
        obtain ⟨g1, g2⟩ := mi_s1_ok (ad := ad) hl.2.2.1 hl1
        have hm := mi_lp_in (ad := ad) ls 0 _ _ hy
        obtain ⟨j, hj⟩ := List.getElem?_of_mem hm
        rw [Nat.zero_add] at hj
        exact lv_iinc hexec hb V hl.has hj rfl g1 rfl (fun lr' h' => k lr' (g2 lr' h'))
      · cases e
    · cases e
  -- two ints
  · obtain ⟨V, rfl⟩ := hV (by intros; exact Instr.noConfusion)
    obtain ⟨a, b, r, rfl, rfl⟩ := mi_b1_inv e
    exact fun lr hl => lv_iadd hexec hb V (k lr hl)
  · obtain ⟨V, rfl⟩ := hV (by intros; exact Instr.noConfusion)
    obtain ⟨a, b, r, rfl, rfl⟩ := mi_b1_inv e
    exact fun lr hl => lv_isub hexec hb V (k lr hl)
  · obtain ⟨V, rfl⟩ := hV (by intros; exact Instr.noConfusion)
    obtain ⟨a, b, r, rfl, rfl⟩ := mi_b1_inv e
    exact fun lr hl => lv_imul hexec hb V (k lr hl)
  · obtain ⟨V, rfl⟩ := hV (by intros; exact Instr.noConfusion)
    obtain ⟨a, b, r, rfl, rfl⟩ := mi_b1_inv e
    exact fun lr hl => lv_iand hexec hb V (k lr hl)
  · obtain ⟨V, rfl⟩ := hV (by intros; exact Instr.noConfusion)
    obtain ⟨a, b, r, rfl, rfl⟩ := mi_b1_inv e
    exact fun lr hl => lv_ior hexec hb V (k lr hl)
  · obtain ⟨V, rfl⟩ := hV (by intros; exact Instr.noConfusion)
    obtain ⟨a, b, r, rfl, rfl⟩ := mi_b1_inv e
    exact fun lr hl => lv_ixor hexec hb V (k lr hl)
  · obtain ⟨V, rfl⟩ := hV (by intros; exact Instr.noConfusion)
    obtain ⟨a, b, r, rfl, rfl⟩ := mi_b1_inv e
    exact fun lr hl => lv_ishl hexec hb V (k lr hl)
  · obtain ⟨V, rfl⟩ := hV (by intros; exact Instr.noConfusion)
    obtain ⟨a, b, r, rfl, rfl⟩ := mi_b1_inv e
    exact fun lr hl => lv_ishr hexec hb V (k lr hl)
  · obtain ⟨V, rfl⟩ := hV (by intros; exact Instr.noConfusion)
    obtain ⟨a, b, r, rfl, h0, rfl⟩ := mi_d1_inv e
    exact fun lr hl => lv_idiv hexec hb V h0 (k lr hl)
  · obtain ⟨V, rfl⟩ := hV (by intros; exact Instr.noConfusion)
    obtain ⟨a, b, r, rfl, h0, rfl⟩ := mi_d1_inv e
    exact fun lr hl => lv_irem hexec hb V h0 (k lr hl)
  -- one
  · obtain ⟨V, rfl⟩ := hV (by intros; exact Instr.noConfusion)
    obtain ⟨a, r, rfl, rfl⟩ := mi_u1_inv e
    exact fun lr hl => lv_ineg hexec hb V (k lr hl)
  · obtain ⟨V, rfl⟩ := hV (by intros; exact Instr.noConfusion)
    obtain ⟨a, r, rfl, rfl⟩ := mi_u1_inv e
    exact fun lr hl => lv_i2l hexec hb V rfl (k lr hl)
  · obtain ⟨V, rfl⟩ := hV (by intros; exact Instr.noConfusion)
    obtain ⟨a, r, rfl, rfl⟩ := mi_u1_inv e
    exact fun lr hl => lv_i2c hexec hb V rfl (k lr hl)
  · obtain ⟨V, rfl⟩ := hV (by intros; exact Instr.noConfusion)
    obtain ⟨a, r, rfl, rfl⟩ := mi_u2_inv e
    exact fun lr hl => lv_l2i hexec hb V rfl (k lr hl)
  -- two longs
  · obtain ⟨V, rfl⟩ := hV (by intros; exact Instr.noConfusion)
    obtain ⟨a, b, r, rfl, rfl⟩ := mi_b2_inv e
    exact fun lr hl => lv_ladd hexec hb V (k lr hl)
  · obtain ⟨V, rfl⟩ := hV (by intros; exact Instr.noConfusion)
    obtain ⟨a, b, r, rfl, rfl⟩ := mi_b2_inv e
    exact fun lr hl => lv_lsub hexec hb V (k lr hl)
  · obtain ⟨V, rfl⟩ := hV (by intros; exact Instr.noConfusion)
    obtain ⟨a, b, r, rfl, rfl⟩ := mi_b2_inv e
    exact fun lr hl => lv_lmul hexec hb V (k lr hl)
  · obtain ⟨V, rfl⟩ := hV (by intros; exact Instr.noConfusion)
    obtain ⟨a, b, r, rfl, rfl⟩ := mi_b2_inv e
    exact fun lr hl => lv_land hexec hb V (k lr hl)
  · obtain ⟨V, rfl⟩ := hV (by intros; exact Instr.noConfusion)
    obtain ⟨a, b, r, rfl, rfl⟩ := mi_b2_inv e
    exact fun lr hl => lv_lor hexec hb V (k lr hl)
  · obtain ⟨V, rfl⟩ := hV (by intros; exact Instr.noConfusion)
    obtain ⟨a, b, r, rfl, h0, rfl⟩ := mi_d2_inv e
    exact fun lr hl => lv_ldiv hexec hb V h0 (k lr hl)
  · obtain ⟨V, rfl⟩ := hV (by intros; exact Instr.noConfusion)
    obtain ⟨a, b, r, rfl, h0, rfl⟩ := mi_d2_inv e
    exact fun lr hl => lv_lrem hexec hb V h0 (k lr hl)
  · obtain ⟨V, rfl⟩ := hV (by intros; exact Instr.noConfusion)
    obtain ⟨a, b, r, rfl, rfl⟩ := mi_b3_inv e
    exact fun lr hl => lv_lshl hexec hb V rfl (k lr hl)
  · obtain ⟨V, rfl⟩ := hV (by intros; exact Instr.noConfusion)
    obtain ⟨a, b, r, rfl, rfl⟩ := mi_b3_inv e
    exact fun lr hl => lv_lshr hexec hb V rfl (k lr hl)
  -- lcmp
  · obtain ⟨V, rfl⟩ := hV (by intros; exact Instr.noConfusion)
    split at e
    · cases e
      exact fun lr hl => W.lcmp hexec hb V (k lr hl)
    · cases e
  -- dup
  · obtain ⟨V, rfl⟩ := hV (by intros; exact Instr.noConfusion)
    split at e
    · rename_i v r
      cases h1 : mi_is1 v with
      | false => rw [h1] at e; cases e
      | true =>
        rw [h1] at e
        cases e
        exact fun lr hl => lv_dup hexec hb V (by rw [mi_cat]; exact mi_is1_eq h1) (k lr hl)
    · cases e
  -- pop
  · obtain ⟨V, rfl⟩ := hV (by intros; exact Instr.noConfusion)
    split at e
    · rename_i v r
      cases h1 : mi_is1 v with
      | false => rw [h1] at e; cases e
      | true =>
        rw [h1] at e
        cases e
        exact fun lr hl => lv_pop hexec hb V (by rw [mi_cat]; exact mi_is1_eq h1) (k lr hl)
    · cases e
  -- dup_x1
  · obtain ⟨V, rfl⟩ := hV (by intros; exact Instr.noConfusion)
    split at e
    · rename_i v u r
      cases h1 : (mi_is1 v && mi_is1 u) with
      | false => rw [h1] at e; cases e
      | true =>
        rw [h1] at e
        cases e
        rw [Bool.and_eq_true] at h1
        exact fun lr hl => lv_dup_x1 hexec hb V (by rw [mi_cat]; exact mi_is1_eq h1.1) (by rw [mi_cat]; exact mi_is1_eq h1.2) (k lr hl)
    · cases e
  -- dup_x2
  · obtain ⟨V, rfl⟩ := hV (by intros; exact Instr.noConfusion)
    split at e
    · rename_i v u t r
      cases h1 : (mi_is1 v && (mi_is1 u && mi_is1 t)) with
      | false => rw [h1] at e; cases e
      | true =>
        rw [h1] at e
        cases e
        rw [Bool.and_eq_true, Bool.and_eq_true] at h1
        exact fun lr hl => lv_dup_x2 hexec hb V (by rw [mi_cat]; exact mi_is1_eq h1.1) (by rw [mi_cat]; exact mi_is1_eq h1.2.1) (by rw [mi_cat]; exact mi_is1_eq h1.2.2) (k lr hl)
    · cases e
  -- dup2
  · obtain ⟨V, rfl⟩ := hV (by intros; exact Instr.noConfusion)
    split at e
    · rename_i v u r
      cases h1 : (mi_is1 v && mi_is1 u) with
      | false => rw [h1] at e; cases e
      | true =>
        rw [h1] at e
        cases e
        rw [Bool.and_eq_true] at h1
        exact fun lr hl => lv_dup2_11 hexec hb V (by rw [mi_cat]; exact mi_is1_eq h1.1) (by rw [mi_cat]; exact mi_is1_eq h1.2) (k lr hl)
    · cases e
  -- goto
  · obtain ⟨V, rfl⟩ := hV (by intros; exact Instr.noConfusion)
    cases e
    exact fun lr hl => lv_goto hexec hb V hV1 (k lr hl)
  -- ifCond
  · rename_i cd off
    obtain ⟨V, rfl⟩ := hV (by intros; exact Instr.noConfusion)
    split at e
    · rename_i y r
      cases e
      intro lr hl
      have k1 := k lr hl
      dsimp only at k1
      cases cd with
      | eq =>
        refine lv_if_eq hexec hb V hV1 (fun h => ?_) (fun h => ?_)
        · simp only [mi_c0, decide_eq_true h, cond_true] at k1; exact k1
        · simp only [mi_c0, decide_eq_false h, cond_false] at k1; exact k1
      | ne =>
        refine lv_if_ne hexec hb V hV1 (fun h => ?_) (fun h => ?_)
        · simp only [mi_c0, decide_eq_true h, cond_true] at k1; exact k1
        · simp only [mi_c0, decide_eq_false (show ¬ ¬ y = 0 from fun q => q h), cond_false] at k1; exact k1
      | lt =>
        refine lv_if_lt hexec hb V hV1 (fun h => ?_) (fun h => ?_)
        · simp only [mi_c0, decide_eq_true h, cond_true] at k1; exact k1
        · simp only [mi_c0, decide_eq_false h, cond_false] at k1; exact k1
      | ge =>
        refine lv_if_ge hexec hb V hV1 (fun h => ?_) (fun h => ?_)
        · simp only [mi_c0, decide_eq_true h, cond_true] at k1; exact k1
        · simp only [mi_c0, decide_eq_false h, cond_false] at k1; exact k1
      | gt =>
        refine lv_if_gt hexec hb V hV1 (fun h => ?_) (fun h => ?_)
        · simp only [mi_c0, decide_eq_true h, cond_true] at k1; exact k1
        · simp only [mi_c0, decide_eq_false h, cond_false] at k1; exact k1
      | le =>
        refine lv_if_le hexec hb V hV1 (fun h => ?_) (fun h => ?_)
        · simp only [mi_c0, decide_eq_true h, cond_true] at k1; exact k1
        · simp only [mi_c0, decide_eq_false h, cond_false] at k1; exact k1
    · cases e
  -- if_icmp
  · rename_i cd off
    obtain ⟨V, rfl⟩ := hV (by intros; exact Instr.noConfusion)
    split at e
    · rename_i y z r
      cases e
      intro lr hl
      have k1 := k lr hl
      dsimp only at k1
      cases cd with
      | eq =>
        refine lv_icmp_eq hexec hb V hV1 (fun h => ?_) (fun h => ?_)
        · simp only [mi_c2, decide_eq_true h, cond_true] at k1; exact k1
        · simp only [mi_c2, decide_eq_false h, cond_false] at k1; exact k1
      | ne =>
        refine lv_icmp_ne hexec hb V hV1 (fun h => ?_) (fun h => ?_)
        · simp only [mi_c2, decide_eq_true h, cond_true] at k1; exact k1
        · simp only [mi_c2, decide_eq_false (show ¬ ¬ z = y from fun q => q h), cond_false] at k1; exact k1
      | lt =>
        refine lv_icmp_lt hexec hb V hV1 (fun h => ?_) (fun h => ?_)
        · simp only [mi_c2, decide_eq_true h, cond_true] at k1; exact k1
        · simp only [mi_c2, decide_eq_false h, cond_false] at k1; exact k1
      | ge =>
        refine lv_icmp_ge hexec hb V hV1 (fun h => ?_) (fun h => ?_)
        · simp only [mi_c2, decide_eq_true h, cond_true] at k1; exact k1
        · simp only [mi_c2, decide_eq_false h, cond_false] at k1; exact k1
      | gt =>
        refine lv_icmp_gt hexec hb V hV1 (fun h => ?_) (fun h => ?_)
        · simp only [mi_c2, decide_eq_true h, cond_true] at k1; exact k1
        · simp only [mi_c2, decide_eq_false h, cond_false] at k1; exact k1
      | le =>
        refine lv_icmp_le hexec hb V hV1 (fun h => ?_) (fun h => ?_)
        · simp only [mi_c2, decide_eq_true h, cond_true] at k1; exact k1
        · simp only [mi_c2, decide_eq_false h, cond_false] at k1; exact k1
    · cases e
  -- tableswitch
  · rename_i d0 lo0 hi0 offs0
    have V : ∃ len, decode cc pc = .ok (Instr.tableswitch d0 lo0 hi0 offs0, len) := by
      rcases V with h | ⟨d, lo, hi, offs, -, h⟩
      · exact ⟨_, h⟩
      · exact h
    obtain ⟨len, V⟩ := V
    split at e
    · rename_i y r
      split at e
      · rename_i off ho
        split at e
        · rename_i t ht
          cases e
          intro lr hl
          have k1 := k lr hl
          dsimp only at k1
          have ht2 : (pc : Int) + off = (t : Int) := by
            unfold mi_tgt at ht
            split at ht
            · rename_i t2 h2
              cases ht
              exact h2
            · cases ht
          unfold mi_sw at ho
          cases hc : (decide (y.toInt < lo0) || decide (hi0 < y.toInt)) with
          | true =>
            rw [hc] at ho
            cases ho
            refine lv_tableOut hexec hb V ?_ ht2 k1
            simpa using hc
          | false =>
            rw [hc] at ho
            rw [Bool.or_eq_false_iff, decide_eq_false_iff_not, decide_eq_false_iff_not] at hc
            exact lv_tableIn hexec hb V hc.1 hc.2 ho ht2 k1
        · cases e
      · cases e
    · cases e
  · cases e
end SIM
end
section
/-! The machine does what the mini does: cells. -/
def mi_sz (x : mE) : Nat := match x with
  | .inl q => q.2.1
  | .inr q => q.2.length
def mi_sl : mH → Nat
  | [] => 0
  | x :: r => mi_sz x + mi_sl r
theorem mi_sl_set : ∀ (h : mH) (q : Nat) (x y : mE), h[q]? = some y → mi_sz x = mi_sz y → mi_sl (h.set q x) = mi_sl h := by
  intro h
  induction h with
  | nil => intro q x y e; simp at e
  | cons z r ih =>
    intro q x y e hs
    cases q with
    | zero =>
      simp only [List.getElem?_cons_zero, Option.some.injEq] at e
      subst e
      simp [mi_sl, hs]
    | succ q =>
      simp only [List.getElem?_cons_succ] at e
      simp [mi_sl, ih q x y e hs]
theorem mi_sl_app (x : mE) : ∀ (h : mH), mi_sl (h ++ [x]) = mi_sl h + mi_sz x := by
  intro h
  induction h with
  | nil => simp [mi_sl]
  | cons z r ih => simp [mi_sl, ih, Nat.add_assoc]
def mi_le (h h1 : mH) : Prop := h.length ≤ h1.length ∧ mi_sl h ≤ mi_sl h1
theorem mi_le.rf {h : mH} : mi_le h h := ⟨Nat.le_refl _, Nat.le_refl _⟩
theorem mi_le.tr {h h1 h2 : mH} (a : mi_le h h1) (b : mi_le h1 h2) : mi_le h h2 := ⟨Nat.le_trans a.1 b.1, Nat.le_trans a.2 b.2⟩
theorem mi_le_set {h : mH} {q : Nat} {x y : mE} (e : h[q]? = some y) (hs : mi_sz x = mi_sz y) : mi_le h (h.set q x) := ⟨by rw [List.length_set]; exact Nat.le_refl _, by rw [mi_sl_set h q x y e hs]; exact Nat.le_refl _⟩
theorem mi_le_app {h : mH} {x : mE} : mi_le h (h ++ [x]) := ⟨by simp, by rw [mi_sl_app]; omega⟩
theorem mi_pf_inv {F : List (List Nat)} {a b q : Nat} {v : Value} {h h1 : mH} (e : mi_pf1 F a b q v h = some h1) : ∃ fs, h[q]? = some (.inr (a, fs)) ∧ b < fs.length ∧ mi_fits ((F.getD a []).getD b 9) v = true ∧ h1 = h.set q (.inr (a, fs.set b v)) := by
  unfold mi_pf1 at e
  split at e
  · rename_i c fs hq
    cases hb : (Nat.beq c a && (Nat.blt b fs.length && mi_fits ((F.getD a []).getD b 9) v)) with
    | false => rw [hb] at e; cases e
    | true =>
      rw [hb] at e
      cases e
      rw [Bool.and_eq_true, Bool.and_eq_true, Nat.blt_eq] at hb
      have hc := Nat.eq_of_beq_eq_true hb.1
      subst hc
      exact ⟨fs, hq, hb.2.1, hb.2.2, rfl⟩
  · cases e
theorem mi_gf_inv {a b q : Nat} {v : Value} {h : mH} (e : mi_gf1 a b q h = some v) : ∃ fs, h[q]? = some (.inr (a, fs)) ∧ fs[b]? = some v := by
  unfold mi_gf1 at e
  split at e
  · rename_i c fs hq
    cases hb : Nat.beq c a with
    | false => rw [hb] at e; cases e
    | true =>
      rw [hb] at e
      have hc := Nat.eq_of_beq_eq_true hb
      subst hc
      exact ⟨fs, hq, e⟩
  · cases e
theorem mi_ld_inv1 {X : Nat × (Nat → Int32)} {t q : Nat} {i : Int32} {v : Value} {h : mH} (e : mi_ld1 X t q i h = some v) : (q = 999 ∧ t = 0 ∧ mi_in i X.1 = true ∧ v = .int (X.2 i.toNatClampNeg)) ∨ (∃ n f, h[q]? = some (.inl (t, n, .inl f)) ∧ t < 3 ∧ mi_in i n = true ∧ v = .int (f i.toNatClampNeg)) ∨ (∃ n f, h[q]? = some (.inl (t, n, .inr (.inl f))) ∧ t = 3 ∧ mi_in i n = true ∧ v = .long (f i.toNatClampNeg)) := by
  unfold mi_ld1 at e
  cases h9 : Nat.beq q 999 with
  | true =>
    rw [h9] at e
    dsimp only [cond_true] at e
    cases hb : (Nat.beq t 0 && mi_in i X.1) with
    | false => rw [hb] at e; cases e
    | true =>
      rw [hb] at e
      cases e
      rw [Bool.and_eq_true] at hb
      exact Or.inl ⟨Nat.eq_of_beq_eq_true h9, Nat.eq_of_beq_eq_true hb.1, hb.2, rfl⟩
  | false =>
    rw [h9] at e
    dsimp only [cond_false] at e
    split at e
    · rename_i u n f hq
      cases hb : (Nat.beq u t && (Nat.blt t 3 && mi_in i n)) with
      | false => rw [hb] at e; cases e
      | true =>
        rw [hb] at e
        cases e
        rw [Bool.and_eq_true, Bool.and_eq_true, Nat.blt_eq] at hb
        have hc := Nat.eq_of_beq_eq_true hb.1
        subst hc
        exact Or.inr (Or.inl ⟨n, f, hq, hb.2.1, hb.2.2, rfl⟩)
    · rename_i u n f hq
      cases hb : (Nat.beq u t && (Nat.beq t 3 && mi_in i n)) with
      | false => rw [hb] at e; cases e
      | true =>
        rw [hb] at e
        cases e
        rw [Bool.and_eq_true, Bool.and_eq_true] at hb
        have hc := Nat.eq_of_beq_eq_true hb.1
        subst hc
        exact Or.inr (Or.inr ⟨n, f, hq, Nat.eq_of_beq_eq_true hb.2.1, hb.2.2, rfl⟩)
    · cases e
theorem mi_sa_inv {t q : Nat} {i : Int32} {v : Value} {h h1 : mH} (e : mi_sa1 t q i v h = some h1) : (∃ n f x, h[q]? = some (.inl (t, n, .inl f)) ∧ t < 3 ∧ mi_in i n = true ∧ v = .int x ∧ h1 = h.set q (.inl (t, n, .inl (upd f i.toNatClampNeg (mi_nar t x))))) ∨ (∃ n f x, h[q]? = some (.inl (t, n, .inr (.inl f))) ∧ t = 3 ∧ mi_in i n = true ∧ v = .long x ∧ h1 = h.set q (.inl (t, n, .inr (.inl (vp_updL f i.toNatClampNeg x))))) := by
  unfold mi_sa1 at e
  split at e
  · rename_i u n f hq
    split at e
    · rename_i x
      cases hb : (Nat.beq u t && (Nat.blt t 3 && mi_in i n)) with
      | false => rw [hb] at e; cases e
      | true =>
        rw [hb] at e
        cases e
        rw [Bool.and_eq_true, Bool.and_eq_true, Nat.blt_eq] at hb
        have hc := Nat.eq_of_beq_eq_true hb.1
        subst hc
        exact Or.inl ⟨n, f, x, hq, hb.2.1, hb.2.2, rfl, rfl⟩
    · cases e
  · rename_i u n f hq
    split at e
    · rename_i x
      cases hb : (Nat.beq u t && (Nat.beq t 3 && mi_in i n)) with
      | false => rw [hb] at e; cases e
      | true =>
        rw [hb] at e
        cases e
        rw [Bool.and_eq_true, Bool.and_eq_true] at hb
        have hc := Nat.eq_of_beq_eq_true hb.1
        subst hc
        exact Or.inr ⟨n, f, x, hq, Nat.eq_of_beq_eq_true hb.2.1, hb.2.2, rfl, rfl⟩
    · cases e
  · cases e
theorem mi_cp_inv {a : Nat} {x : Int32} {b : Nat} {y n : Int32} {h h1 : mH} (e : mi_cp1 a x b y n h = some h1) : ∃ n0 f n1 g, h[a]? = some (.inl (1, n0, .inl f)) ∧ h[b]? = some (.inl (1, n1, .inl g)) ∧ mi_cq x y n n0 n1 = true ∧ mi_fc f x.toNatClampNeg n.toNatClampNeg = true ∧ h1 = h.set b (.inl (1, n1, .inl (va_cpy f g x.toNatClampNeg y.toNatClampNeg n.toNatClampNeg))) := by
  unfold mi_cp1 at e
  split at e
  · rename_i u n0 f hq
    split at e
    · rename_i v n1 g hq1
      cases hb : (Nat.beq u 1 && (Nat.beq v 1 && (mi_cq x y n n0 n1 && mi_fc f x.toNatClampNeg n.toNatClampNeg))) with
      | false => rw [hb] at e; cases e
      | true =>
        rw [hb] at e
        cases e
        rw [Bool.and_eq_true, Bool.and_eq_true, Bool.and_eq_true] at hb
        have hc := Nat.eq_of_beq_eq_true hb.1
        have hd := Nat.eq_of_beq_eq_true hb.2.1
        subst hc
        subst hd
        exact ⟨n0, f, n1, g, hq, hq1, hb.2.2.1, hb.2.2.2, rfl⟩
    · cases e
  · cases e
theorem mi_nw_inv {F : List (List Nat)} {a q : Nat} {h h1 : mH} (e : mi_nw1 F a h = some (q, h1)) : ∃ ks, F[a]? = some ks ∧ h.length < 900 ∧ q = h.length ∧ h1 = h ++ [.inr (a, ks.map mi_dv)] := by
  unfold mi_nw1 at e
  split at e
  · rename_i ks hk
    cases hb : Nat.blt h.length 900 with
    | false => rw [hb] at e; cases e
    | true =>
      rw [hb] at e
      cases e
      rw [Nat.blt_eq] at hb
      exact ⟨ks, hk, hb, rfl, rfl⟩
  · cases e
theorem mi_na_inv {t : Nat} {n : Int32} {q : Nat} {h h1 : mH} (e : mi_na1 t n h = some (q, h1)) : t < 4 ∧ ¬ n < 0 ∧ n.toNatClampNeg ≤ 1000 ∧ h.length < 900 ∧ q = h.length ∧ h1 = h ++ [.inl (t, n.toNatClampNeg, bif Nat.beq t 3 then .inr (.inl (fun _ => 0)) else .inl (fun _ => 0))] := by
  unfold mi_na1 at e
  cases hb : (Nat.blt t 4 && (!(decide (n < 0)) && (Nat.ble n.toNatClampNeg 1000 && Nat.blt h.length 900))) with
  | false => rw [hb] at e; cases e
  | true =>
    rw [hb] at e
    cases e
    rw [Bool.and_eq_true, Bool.and_eq_true, Bool.and_eq_true, Nat.blt_eq, Nat.blt_eq, Nat.ble_eq] at hb
    exact ⟨hb.1, by simpa using hb.2.1, hb.2.2.1, hb.2.2.2, rfl, rfl⟩
theorem mi_hp_le {F : List (List Nat)} {X : Nat × (Nat → Int32)} {i : Instr} {a b : Nat} {st st1 : List Value} {h h1 : mH} (e : mi_hp (mi_O1 F X) i a b st h = some (st1, h1)) : mi_le h h1 := by
  have al : ∀ t, mi_al (mi_O1 F X) t st h = some (st1, h1) → mi_le h h1 := by
    intro t e
    unfold mi_al at e
    split at e
    · split at e
      · cases e; exact mi_le.rf
      · cases e
    · cases e
  have as : ∀ t, mi_as (mi_O1 F X) t st h = some (st1, h1) → mi_le h h1 := by
    intro t e
    unfold mi_as at e
    split at e
    · split at e
      · rename_i h2 hh
        cases e
        rcases mi_sa_inv hh with ⟨n, f, x, hq, -, -, -, rfl⟩ | ⟨n, f, x, hq, -, -, -, rfl⟩
        · exact mi_le_set hq rfl
        · exact mi_le_set hq rfl
      · cases e
    · cases e
  unfold mi_hp at e
  split at e
  · split at e
    · split at e
      · cases e; exact mi_le.rf
      · cases e
    · cases e
  · split at e
    · split at e
      · rename_i h2 hh
        cases e
        obtain ⟨fs, hq, -, -, rfl⟩ := mi_pf_inv hh
        exact mi_le_set hq (by simp [mi_sz])
      · cases e
    · cases e
  · exact al _ e
  · exact al _ e
  · exact al _ e
  · exact al _ e
  · exact as _ e
  · exact as _ e
  · exact as _ e
  · exact as _ e
  · split at e
    · split at e
      · cases e; exact mi_le.rf
      · cases e
    · cases e
  · split at e
    · rename_i q h2 hh
      cases e
      obtain ⟨ks, -, -, -, rfl⟩ := mi_nw_inv hh
      exact mi_le_app
    · cases e
  · split at e
    · split at e
      · rename_i q h2 hh
        cases e
        obtain ⟨-, -, -, -, -, rfl⟩ := mi_na_inv hh
        exact mi_le_app
      · cases e
    · cases e
  · cases e
abbrev mi_cle (cal : Nat → List Value → mH → Option (mA mH)) : Prop := ∀ j as h v h1, cal j as h = some (v, h1) → mi_le h h1
theorem mi_cl_le {O : mOp mH} {PR cal : Nat → List Value → mH → Option (mA mH)} (hp : mi_cle PR) (hc : mi_cle cal) {nx a b c : Nat} {ls : mL} {st : List Value} {h : mH} {x : mS mH} (e : mi_cl O PR cal nx a b c ls st h = some x) : mi_le h x.2.2.2 := by
  unfold mi_cl at e
  split at e
  · rename_i as r ht
    cases hb : (Nat.ble (mi_cats r) 8 && mi_rc O c as h) with
    | false => rw [hb] at e; cases e
    | true =>
      rw [hb] at e
      dsimp only [cond_true] at e
      split at e
      · rename_i v h1 hv
        cases e
        cases hk : Nat.blt a 1000 with
        | true => rw [hk] at hv; exact hc _ _ _ _ _ hv
        | false => rw [hk] at hv; exact hp _ _ _ _ _ hv
      · cases e
  · cases e
theorem mi_re_eq {α : Type} {i : Instr} {ret : Option FieldType} {st : List Value} {h : α} {x : mA α} (e : mi_re i ret st h = some x) : x.2 = h := by
  unfold mi_re at e
  split at e
  · split at e
    · cases hb : mi_nr _ _ with
      | false => rw [hb] at e; cases e
      | true => rw [hb] at e; cases e; rfl
    · cases e
  · split at e
    · cases e; rfl
    · cases e
  · split at e
    · cases e; rfl
    · cases e
  · cases e
theorem mi_one_le {F : List (List Nat)} {X : Nat × (Nat → Int32)} {PR cal : Nat → List Value → mH → Option (mA mH)} (hp : mi_cle PR) (hc : mi_cle cal) {tb : mB} {ret : Option FieldType} {s : mS mH} {x : mS mH ⊕ mA mH} (e : mi_one (mi_O1 F X) PR cal tb ret s = some x) : mi_le s.2.2.2 (match x with
    | .inl y => y.2.2.2
    | .inr y => y.2) := by
  unfold mi_one at e
  split at e
  · cases e
  · rename_i q hl
    split at e
    · split at e
      · cases e; exact mi_le.rf
      · cases e
    · split at e
      · rename_i y hy
        obtain ⟨y1, y2⟩ := y
        cases e
        exact mi_hp_le hy
      · cases e
    · split at e
      · rename_i y hy
        cases e
        exact mi_cl_le hp hc hy
      · cases e
    · split at e
      · rename_i y hy
        cases e
        dsimp only
        rw [mi_re_eq hy]
        exact mi_le.rf
      · cases e
theorem mi_ex_le {F : List (List Nat)} {X : Nat × (Nat → Int32)} {PR cal : Nat → List Value → mH → Option (mA mH)} (hp : mi_cle PR) (hc : mi_cle cal) {tb : mB} {ret : Option FieldType} : ∀ (n : Nat) (s : mS mH) (r : mA mH), mi_ex (mi_O1 F X) PR cal tb ret n s = some r → mi_le s.2.2.2 r.2 := by
  intro n
  induction n with
  | zero => intro s r e; cases e
  | succ n ih =>
    intro s r e
    unfold mi_ex at e
    split at e
    · rename_i s1 h1
      exact (mi_one_le hp hc h1).tr (ih s1 r e)
    · rename_i y h1
      cases e
      exact mi_one_le hp hc h1
    · cases e
theorem mi_run_le {F : List (List Nat)} {X : Nat × (Nat → Int32)} {PR : Nat → List Value → mH → Option (mA mH)} (hp : mi_cle PR) {M : List mM} : ∀ (d n : Nat), mi_cle (mi_run (mi_O1 F X) PR M d n) := by
  intro d
  induction d with
  | zero => intro n j as h v h1 e; cases e
  | succ d ih =>
    intro n j as h v h1 e
    unfold mi_run at e
    split at e
    · rename_i q hq
      cases hb : Nat.ble (mi_fl as).length q.2.1 with
      | false => rw [hb] at e; cases e
      | true => rw [hb] at e; exact mi_ex_le hp (ih n) n _ _ e
    · cases e
theorem mi_pr_le {L : List (List Int32)} : mi_cle (mi_pr L mi_cp1) := by
  intro j as h v h1 e
  unfold mi_pr at e
  cases hb0 : Nat.beq j 1000 with
  | true =>
    rw [hb0] at e
    dsimp only [cond_true] at e
    split at e
    · cases e; exact mi_le.rf
    · cases e
  | false =>
    rw [hb0] at e
    dsimp only [cond_false] at e
    cases hb1 : Nat.beq j 1001 with
    | true =>
      rw [hb1] at e
      dsimp only [cond_true] at e
      split at e
      · cases e; exact mi_le.rf
      · cases e
    | false =>
      rw [hb1] at e
      dsimp only [cond_false] at e
      cases hb2 : Nat.beq j 1002 with
      | true =>
        rw [hb2] at e
        dsimp only [cond_true] at e
        split at e
        · split at e
          · rename_i h2 hh
            cases e
            obtain ⟨n0, f, n1, g, -, hq, -, -, rfl⟩ := mi_cp_inv hh
            exact mi_le_set hq rfl
          · cases e
        · cases e
      | false =>
        rw [hb2] at e
        dsimp only [cond_false] at e
        cases hb3 : Nat.beq j 1003 with
        | true =>
          rw [hb3] at e
          dsimp only [cond_true] at e
          split at e
          · split at e
            · cases e; exact mi_le.rf
            · cases e
          · cases e
        | false =>
          rw [hb3] at e
          dsimp only [cond_false] at e
          cases hb4 : Nat.beq j 1004 with
          | true =>
            rw [hb4] at e
            dsimp only [cond_true] at e
            split at e
            · split at e
              · rename_i i _ l hh
                cases hi : mi_in i l.length with
                | true => rw [hi] at e; cases e; exact mi_le.rf
                | false => rw [hi] at e; cases e
              · cases e
            · cases e
          | false => rw [hb4] at e; cases e
end
section
/-! The machine does what the mini does: the instructions that look at cells, calls, returns; a whole body. -/
def mi_tys (ct : Nat → ClassId) : List (ClassId × FieldType) := [(ct 0, .int), (ct 1, .char), (ct 2, .boolean), (ct 3, .long)]
def mi_Wd (D : va_G) (cl : List vw_C) (ct : Nat → ClassId) (ad : Nat → Nat) (h : mH) (H : Heap) : Prop := va_P D cl (mi_ws ct ad 0 h) H ∧ h.length ≤ 900
/-- what is fixed of the classes -/
def mi_St (cl : List vw_C) (F : List (List Nat)) (Ts : List Cond) : Prop := ∀ (a : Nat) (C : String) (T : u_T) (N : Nat), cl[a]? = some (C, T, N) → (∃ ty0 : Nat → FieldType, (∀ k, k < N → parseFieldDescriptor (T k).2.2.1 = some (ty0 k)) ∧ (∀ k, k < N → ((F.getD a []).getD k 9 = 0 → ty0 k = .int) ∧ ((F.getD a []).getD k 9 = 1 → ty0 k = .long) ∧ ((F.getD a []).getD k 9 = 2 → (∃ x, ty0 k = .object x) ∨ ∃ x, ty0 k = .array x)) ∧ ∀ j, j < N → defaultValue (ty0 j) = vp_V ((F.getD a []).map mi_dv) j) ∧ (∀ x, x < N → ∀ y, y < N → x ≠ y → (T x).2.1 ≠ (T y).2.1) ∧ (F.getD a []).length = N ∧ (∀ k, k < N → (T k).1 = C) ∧ ∀ w ∈ u_ws C T N, w ∈ Ts
def mi_ty (a : Nat) : Option FieldType := [FieldType.int, .char, .boolean, .long][a]?
/-- what the tables say of an entry -/
def mi_V2 (own : String) (cl : List vw_C) (s : State) (args : Array Value) (ini : Bool) (i : Instr) (a b : Nat) : Prop := match i with
  | .getfield k => ∃ C T N, cl[a]? = some (C, T, N) ∧ b < N ∧ (Jvm.Cond.fieldLink own k C (T b).2.1 (T b).2.2.1).before args s = true
  | .putfield k => ∃ C T N, cl[a]? = some (C, T, N) ∧ b < N ∧ (Jvm.Cond.fieldLink own k C (T b).2.1 (T b).2.2.1).before args s = true ∧ ((T b).2.2.2 = false ∨ ((T b).2.2.2 = true ∧ C = own ∧ ini = true))
  | .new k => ∃ C T N, cl[a]? = some (C, T, N) ∧ (Jvm.Cond.classLink own k C).before args s = true ∧ (Jvm.Cond.instantiable C N).before args s = true ∧ (Jvm.Cond.initialized C).before args s = true
  | .newarray t => mi_ty a = some (newarray.typeOf t) ∧ (Jvm.Cond.arrayClass (newarray.typeOf t)).before args s = true
  | _ => True
theorem mi_vp_in {i : Int32} {n : Nat} (h : mi_in i n = true) : vp_in i n := by
  unfold mi_in at h
  rw [Bool.and_eq_true, Nat.blt_eq] at h
  rintro (h1 | h1)
  · have := h.1
    rw [decide_eq_true h1] at this
    cases this
  · omega
theorem mi_fit {k : Nat} {v : Value} {ty : FieldType} {ad : Nat → Nat} (h : mi_fits k v = true) (g : (k = 0 → ty = .int) ∧ (k = 1 → ty = .long) ∧ (k = 2 → (∃ x, ty = .object x) ∨ ∃ x, ty = .array x)) : narrow ty (mi_v ad v) = mi_v ad v ∧ fits ty (mi_v ad v) = true := by
  cases v with
  | int x =>
    have := g.1 (Nat.eq_of_beq_eq_true h)
    subst this
    exact ⟨rfl, rfl⟩
  | long x =>
    have := g.2.1 (Nat.eq_of_beq_eq_true h)
    subst this
    exact ⟨rfl, rfl⟩
  | ref x =>
    rcases g.2.2 (Nat.eq_of_beq_eq_true h) with ⟨y, rfl⟩ | ⟨y, rfl⟩ <;> exact ⟨rfl, rfl⟩
  | _ => simp [mi_fits] at h
theorem mi_dv_v (ad : Nat → Nat) (k : Nat) : mi_v ad (mi_dv k) = mi_dv k := by
  unfold mi_dv
  cases Nat.beq k 0 <;> cases Nat.beq k 1 <;> rfl
section CELLS
variable {p : Program} {l : Launch} {ev : Env} {R : Room} {s : State} {m : MethodId} {args : Array Value} {below : List Frame} {meth : Method} {c : Code} {Q : State → Prop}
variable {cc : ByteArray} {nL : Nat} {D : va_G} {cl : List vw_C} {ct : Nat → ClassId} {base scr : Nat} {lit : Nat → Nat} {h0 : mH} {F : List (List Nat)} {X : Nat × (Nat → Int32)} {Ts : List Cond} {own : String}
def mi_Wm (p : Program) (l : Launch) (ev : Env) (R : Room) (s : State) (m : MethodId) (args : Array Value) (below : List Frame) (meth : Method) (c : Code) (Q : State → Prop) (nL : Nat) (D : va_G) (cl : List vw_C) (ct : Nat → ClassId) (base scr : Nat) (lit : Nat → Nat) (h0 : mH) (x : mS mH) : Prop :=
  ∀ (H : Heap) (locs : List Loc), mi_Wd D cl ct (mi_ad base scr lit) x.2.2.2 H → va_S (fun q => base ≤ q) s.heap H locs → mi_Wp p l ev R s m args below meth c H locs (x.2.2.2.length - h0.length) (mi_sl x.2.2.2 - mi_sl h0) Q nL (mi_ad base scr lit) (x.1, x.2.1, x.2.2.1)
theorem mi_size {H : Heap} {h : mH} {T : State} {locs : List Loc} {slots : Nat} (hw : mi_Wd D cl ct (mi_ad base scr lit) h H) (hs0 : s.heap.size = base + h0.length) (hge : h0.length ≤ h.length) (hT : T.heap = H) (St : Stand p l ev R s m args below meth c T locs (h.length - h0.length) slots) : H.size = base + h.length := by
  have h1 : T.heap.size ≤ s.heap.size + (h.length - h0.length) := St.same.2.2.1
  have h2 : s.heap.size ≤ T.heap.size := St.same.2.1
  rw [hT] at h1 h2
  have h3 : base + h.length ≤ H.size := by
    cases hn : h.length with
    | zero => omega
    | succ n =>
      have hx : h[n]? = some h[n] := List.getElem?_eq_getElem (by omega)
      have := (hw.1 n _ (mi_ws_get hx)).lt
      have hl := hw.2
      rw [show ((mi_ad base scr lit n, mi_e ct (mi_ad base scr lit) h[n]) : Nat × va_E).1 = base + n from mi_ad_lt (by omega)] at this
      omega
  omega
variable {pc nx a b : Nat} {i : Instr} {ls : mL} {st st1 : List Value} {h h1 : mH}
theorem mi_Wd.set {H1 : Heap} {q : Nat} {x : mE} {ad : Nat → Nat} (hP : va_P D cl ((mi_ws ct ad 0 h).set q (ad q, mi_e ct ad x)) H1) (hl : h.length ≤ 900) : mi_Wd D cl ct ad (h.set q x) H1 := ⟨by rw [mi_ws_set]; exact hP, by rw [List.length_set]; exact hl⟩
set_option maxHeartbeats 1000000 in
theorem mi_hp_ok (hexec : p.tables.exec = Jvm.exec) (hb : c.code = cc) (hown : s.vm.findClass own = some m.cls) (hts : ∀ w ∈ Ts, w.before args s = true) (hSt : mi_St cl F Ts) (hK : va_K D cl (mi_tys ct) s) (hX : va_X scr X.1 X.2 s s.heap) (hsc : scr < base) (hs0 : s.heap.size = base + h0.length) {ini : Bool} (hini : ini = true → meth.name = "<init>")
    (V : decode cc pc = .ok (i, mi_len i)) (hnx : nx = pc + mi_len i) (hV2 : mi_V2 own cl s args ini i a b) (hge : mi_le h0 h) (hR : h1.length - h0.length ≤ R.cells ∧ mi_sl h1 - mi_sl h0 ≤ R.slots)
    (e : mi_hp (mi_O1 F X) i a b st h = some (st1, h1)) (k : mi_Wm p l ev R s m args below meth c Q nL D cl ct base scr lit h0 (nx, ls, st1, h1)) : mi_Wm p l ev R s m args below meth c Q nL D cl ct base scr lit h0 (pc, ls, st, h) := by
  subst hnx
  have hA : ∀ q, s.heap.size ≤ q → (fun q => base ≤ q) q := fun q hq => by show base ≤ q; omega
  unfold mi_hp at e
  split at e
  -- getfield
  · split at e
    · rename_i q r
      split at e
      · rename_i v hv
        cases e
        obtain ⟨fs, hq, hf⟩ := mi_gf_inv hv
        obtain ⟨C, T, N, hc, hbN, hlink⟩ := hV2
        obtain ⟨-, g4, g5, g6, g7⟩ := hSt a C T N hc
        intro H locs hw hS lr hl
        exact va_get hexec hb hts g7 hown hK hw.1 q (mi_ws_get hq) hc b hbN hlink (by rw [g6 b hbN]; exact fun x hx => hx) (by rw [List.getElem?_map, hf]; rfl) V (k H locs hw hS lr hl)
      · cases e
    · cases e
  -- putfield
  · split at e
    · rename_i v q r
      split at e
      · rename_i h2 hv
        cases e
        obtain ⟨fs, hq, hlt, hfit, rfl⟩ := mi_pf_inv hv
        obtain ⟨C, T, N, hc, hbN, hlink, hfin⟩ := hV2
        obtain ⟨⟨ty0, g1, g2, g3⟩, g4, g5, g6, g7⟩ := hSt a C T N hc
        obtain ⟨f1, f2⟩ := mi_fit (ad := mi_ad base scr lit) hfit (g2 b hbN)
        have hsl := mi_sl_set h q (.inr (a, fs.set b v)) _ hq (by simp [mi_sz])
        intro H locs hw hS lr hl
        have kk : ∀ (H1 : Heap) (locs1 : List Loc), va_P D cl ((mi_ws ct (mi_ad base scr lit) 0 h).set q (mi_ad base scr lit q, .inr (a, (fs.map (mi_v (mi_ad base scr lit))).set b (mi_v (mi_ad base scr lit) v)))) H1 → va_D (fun q => base ≤ q) ((mi_ws ct (mi_ad base scr lit) 0 h).set q (mi_ad base scr lit q, .inr (a, (fs.map (mi_v (mi_ad base scr lit))).set b (mi_v (mi_ad base scr lit) v)))) → va_S (fun q => base ≤ q) s.heap H1 locs1 → W p l ev R s m args below meth c H1 locs1 (h.length - h0.length) (mi_sl h - mi_sl h0) Q (F0 m (pc + 3) lr (st1.map (mi_v (mi_ad base scr lit)))) := by
          intro H1 locs1 hP1 _ hS1
          have := k H1 locs1 (mi_Wd.set (x := .inr (a, fs.set b v)) (by simp only [mi_e, List.map_set]; exact hP1) hw.2) hS1 lr hl
          dsimp only at this
          rw [List.length_set, hsl] at this
          exact this
        rcases hfin with hfin | ⟨hfin, rfl, hi⟩
        · exact va_put hexec hb hts g7 ty0 g1 g4 hown hK hw.1 (mi_D hw.2) hS q (mi_ws_get hq) hc b hbN hlink (by rw [g6 b hbN]; exact fun x hx => hx) hfin (g1 b hbN) f1 f2 (by rw [List.length_map]; exact hlt) V kk
        · exact va_putF hexec hb hts g7 ty0 g1 g4 hown hK hw.1 (mi_D hw.2) hS q (mi_ws_get hq) hc b hbN hlink (by rw [g6 b hbN]; exact fun x hx => hx) hfin (hini hi) (g6 b hbN) (g1 b hbN) f1 f2 (by rw [List.length_map]; exact hlt) V kk
      · cases e
    · cases e
  -- iaload
  · unfold mi_al at e
    split at e
    · rename_i j q r
      split at e
      · rename_i v hv
        cases e
        intro H locs hw hS lr hl
        rcases mi_ld_inv1 hv with ⟨rfl, -, hin, rfl⟩ | ⟨n, f, hq, -, hin, rfl⟩ | ⟨n, f, hq, ht, hin, rfl⟩
        · exact va_sld (b := scr) hexec hb hX (by omega) (by show ¬ base ≤ scr; omega) hS (mi_vp_in hin) V (k H locs hw hS lr hl)
        · exact va_iald hexec hb hK hw.1 q 0 (mi_ws_get hq) rfl (mi_vp_in hin) V (k H locs hw hS lr hl)
        · cases ht
      · cases e
    · cases e
  -- caload
  · unfold mi_al at e
    split at e
    · rename_i j q r
      split at e
      · rename_i v hv
        cases e
        intro H locs hw hS lr hl
        rcases mi_ld_inv1 hv with ⟨-, ht, -, -⟩ | ⟨n, f, hq, -, hin, rfl⟩ | ⟨n, f, hq, ht, hin, rfl⟩
        · cases ht
        · exact va_cald hexec hb hK hw.1 q 1 (mi_ws_get hq) rfl (mi_vp_in hin) V (k H locs hw hS lr hl)
        · cases ht
      · cases e
    · cases e
  -- baload
  · unfold mi_al at e
    split at e
    · rename_i j q r
      split at e
      · rename_i v hv
        cases e
        intro H locs hw hS lr hl
        rcases mi_ld_inv1 hv with ⟨-, ht, -, -⟩ | ⟨n, f, hq, -, hin, rfl⟩ | ⟨n, f, hq, ht, hin, rfl⟩
        · cases ht
        · exact va_zald hexec hb hK hw.1 q 2 (mi_ws_get hq) rfl (mi_vp_in hin) V (k H locs hw hS lr hl)
        · cases ht
      · cases e
    · cases e
  -- laload
  · unfold mi_al at e
    split at e
    · rename_i j q r
      split at e
      · rename_i v hv
        cases e
        intro H locs hw hS lr hl
        rcases mi_ld_inv1 hv with ⟨-, ht, -, -⟩ | ⟨n, f, hq, ht, hin, rfl⟩ | ⟨n, f, hq, ht, hin, rfl⟩
        · cases ht
        · omega
        · exact va_lald hexec hb hK hw.1 q 3 (mi_ws_get hq) rfl (mi_vp_in hin) V (k H locs hw hS lr hl)
      · cases e
    · cases e
  -- iastore
  · unfold mi_as at e
    split at e
    · rename_i v j q r
      split at e
      · rename_i h2 hv
        cases e
        intro H locs hw hS lr hl
        rcases mi_sa_inv hv with ⟨n, f, y, hq, -, hin, rfl, rfl⟩ | ⟨n, f, y, hq, ht, hin, rfl, rfl⟩
        · refine va_iast hexec hb hK hw.1 (mi_D hw.2) hS q 0 (mi_ws_get hq) rfl (mi_vp_in hin) V (fun H1 locs1 hP1 _ hS1 => ?_)
          have := k H1 locs1 (mi_Wd.set (by exact hP1) hw.2) hS1 lr hl
          dsimp only at this
          rw [List.length_set, mi_sl_set h q (.inl (0, n, .inl (upd f j.toNatClampNeg (mi_nar 0 y)))) _ hq rfl] at this
          exact this
        · cases ht
      · cases e
    · cases e
  -- castore
  · unfold mi_as at e
    split at e
    · rename_i v j q r
      split at e
      · rename_i h2 hv
        cases e
        intro H locs hw hS lr hl
        rcases mi_sa_inv hv with ⟨n, f, y, hq, -, hin, rfl, rfl⟩ | ⟨n, f, y, hq, ht, hin, rfl, rfl⟩
        · refine va_cast hexec hb hK hw.1 (mi_D hw.2) hS q 1 (mi_ws_get hq) rfl (mi_vp_in hin) V (fun H1 locs1 hP1 _ hS1 => ?_)
          have := k H1 locs1 (mi_Wd.set (by exact hP1) hw.2) hS1 lr hl
          dsimp only at this
          rw [List.length_set, mi_sl_set h q (.inl (1, n, .inl (upd f j.toNatClampNeg (mi_nar 1 y)))) _ hq rfl] at this
          exact this
        · cases ht
      · cases e
    · cases e
  -- bastore
  · unfold mi_as at e
    split at e
    · rename_i v j q r
      split at e
      · rename_i h2 hv
        cases e
        intro H locs hw hS lr hl
        rcases mi_sa_inv hv with ⟨n, f, y, hq, -, hin, rfl, rfl⟩ | ⟨n, f, y, hq, ht, hin, rfl, rfl⟩
        · refine va_zast hexec hb hK hw.1 (mi_D hw.2) hS q 2 (mi_ws_get hq) rfl (mi_vp_in hin) V (fun H1 locs1 hP1 _ hS1 => ?_)
          have := k H1 locs1 (mi_Wd.set (by exact hP1) hw.2) hS1 lr hl
          dsimp only at this
          rw [List.length_set, mi_sl_set h q (.inl (2, n, .inl (upd f j.toNatClampNeg (mi_nar 2 y)))) _ hq rfl] at this
          exact this
        · cases ht
      · cases e
    · cases e
  -- lastore
  · unfold mi_as at e
    split at e
    · rename_i v j q r
      split at e
      · rename_i h2 hv
        cases e
        intro H locs hw hS lr hl
        rcases mi_sa_inv hv with ⟨n, f, y, hq, ht, hin, rfl, rfl⟩ | ⟨n, f, y, hq, ht, hin, rfl, rfl⟩
        · omega
        · refine va_last hexec hb hK hw.1 (mi_D hw.2) hS q 3 (mi_ws_get hq) rfl (mi_vp_in hin) V (fun H1 locs1 hP1 _ hS1 => ?_)
          have := k H1 locs1 (mi_Wd.set (by exact hP1) hw.2) hS1 lr hl
          dsimp only at this
          rw [List.length_set, mi_sl_set h q (.inl (3, n, .inr (.inl (vp_updL f j.toNatClampNeg y)))) _ hq rfl] at this
          exact this
      · cases e
    · cases e
  -- arraylength
  · split at e
    · rename_i q r
      split at e
      · rename_i n hv
        cases e
        intro H locs hw hS lr hl
        have hv : mi_ln1 X q h = some n := hv
        unfold mi_ln1 at hv
        cases h9 : Nat.beq q 999 with
        | true =>
          rw [h9] at hv
          have := Nat.eq_of_beq_eq_true h9
          subst this
          cases hv
          exact va_slen (b := scr) hexec hb hX (by omega) (by show ¬ base ≤ scr; omega) hS V (k H locs hw hS lr hl)
        | false =>
          rw [h9] at hv
          dsimp only [cond_false] at hv
          split at hv
          · rename_i u n1 f hq
            cases hu : Nat.blt u 4 with
            | false => rw [hu] at hv; cases hv
            | true =>
              rw [hu] at hv
              cases hv
              rw [Nat.blt_eq] at hu
              have ht : ∃ ty, (mi_tys ct)[u]? = some (ct u, ty) := by
                rcases (by omega : u = 0 ∨ u = 1 ∨ u = 2 ∨ u = 3) with rfl | rfl | rfl | rfl <;> exact ⟨_, rfl⟩
              obtain ⟨ty, ht⟩ := ht
              exact va_alen hexec hb hK hw.1 q u (mi_ws_get hq) ht rfl V (k H locs hw hS lr hl)
          · cases hv
      · cases e
    · cases e
  -- new
  · split at e
    · rename_i q h2 hv
      cases e
      obtain ⟨ks, hks, hlen, rfl, rfl⟩ := mi_nw_inv hv
      obtain ⟨C, T, N, hc, hcl, hinst, hinit⟩ := hV2
      obtain ⟨⟨ty0, g1, g2, g3⟩, g4, g5, g6, g7⟩ := hSt a C T N hc
      have hgd : F.getD a [] = ks := by rw [List.getD_eq_getElem?_getD, hks]; rfl
      rw [hgd] at g3 g5
      intro H locs hw hS lr hl T' hT' Sd
      have hsz := mi_size hw hs0 hge.1 hT' Sd
      have hKn := hK.1 a _ hc
      have had : mi_ad base scr lit h.length = base + h.length := mi_ad_lt hlen
      have hN : (ks.map mi_dv).length = N := by rw [List.length_map]; exact g5
      have e1 : (h ++ [Sum.inr (a, ks.map mi_dv)] : mH).length - h0.length = h.length - h0.length + 1 := by
        have := hge.1
        simp only [List.length_append, List.length_singleton]
        omega
      have e2 : mi_sl (h ++ [Sum.inr (a, ks.map mi_dv)]) - mi_sl h0 = mi_sl h - mi_sl h0 + N := by
        have := hge.2
        rw [mi_sl_app]
        simp only [mi_sz, hN]
        omega
      rw [e1, e2] at hR
      suffices key : W p l ev R s m args below meth c H locs (h.length - h0.length) (mi_sl h - mi_sl h0) Q (F0 m pc lr (st.map (mi_v (mi_ad base scr lit)))) from key T' hT' Sd
      refine W.newcK hexec hb hown hcl hinst hinit rfl V hR.1 hR.2 hKn.2.1 hsz (fun H1 kC hkC f1 z1 o1 => ?_)
      have hk : ∀ (j : Nat) (x : Nat × va_E), (mi_ws ct (mi_ad base scr lit) 0 h)[j]? = some x → H1[x.1]? = H[x.1]? := fun j x hx => o1 x.1 (by rw [← hsz]; exact (hw.1 j x hx).lt)
      have hfs : (ks.map mi_dv).map (mi_v (mi_ad base scr lit)) = ks.map mi_dv := by
        rw [List.map_map]
        apply List.map_congr_left
        intro y _
        exact mi_dv_v _ y
      have hw1 : mi_Wd D cl ct (mi_ad base scr lit) (h ++ [Sum.inr (a, ks.map mi_dv)]) H1 := by
        refine ⟨?_, by simp only [List.length_append, List.length_singleton]; omega⟩
        rw [mi_ws_app]
        refine (hw.1.kept hk).app (fun j x hx => ?_)
        have hz : j < 1 := (List.getElem?_eq_some_iff.mp hx).1
        rw [show j = 0 by omega] at hx
        cases hx
        rw [Nat.zero_add, had]
        show va_at D cl (base + h.length, .inr (a, (ks.map mi_dv).map _)) H1
        rw [hfs]
        exact ⟨_, hc, (u_born ty0 hts g7 hKn hkC f1 g1).to g3⟩
      have hS1 : va_S (fun q => base ≤ q) s.heap H1 locs := ⟨Nat.le_trans hS.1 (by omega), fun x x1 x2 => (o1 x (by have := hS.1; omega)).trans (hS.2.1 x x1 x2), hS.2.2⟩
      have := k H1 locs hw1 hS1 lr hl
      dsimp only at this
      rw [e1, e2] at this
      rw [← had]
      exact this
    · cases e
  -- newarray
  · rename_i aty
    split at e
    · rename_i n r
      split at e
      · rename_i q h2 hv
        cases e
        obtain ⟨ht4, hn0, hn1, hlen, rfl, rfl⟩ := mi_na_inv hv
        obtain ⟨hty, harr⟩ := hV2
        intro H locs hw hS lr hl T' hT' Sd
        have hsz := mi_size hw hs0 hge.1 hT' Sd
        have had : mi_ad base scr lit h.length = base + h.length := mi_ad_lt hlen
        have e1 : ∀ x : mE, (h ++ [x] : mH).length - h0.length = h.length - h0.length + 1 := by
          intro x
          have := hge.1
          simp only [List.length_append, List.length_singleton]
          omega
        have e2 : ∀ x : vp_A, x.1 = n.toNatClampNeg → mi_sl (h ++ [Sum.inl (a, x)]) - mi_sl h0 = mi_sl h - mi_sl h0 + n.toNatClampNeg := by
          intro x hx
          have := hge.2
          rw [mi_sl_app]
          simp only [mi_sz, hx]
          omega
        rw [e1, e2 _ rfl] at hR
        have hbytes : n.toNatClampNeg * componentBytes (newarray.typeOf aty) ≤ 536870912 := by
          have : componentBytes (newarray.typeOf aty) ≤ 8 := by cases aty <;> decide
          calc n.toNatClampNeg * componentBytes (newarray.typeOf aty) ≤ 1000 * 8 := Nat.mul_le_mul hn1 this
            _ ≤ 536870912 := by decide
        suffices key : W p l ev R s m args below meth c H locs (h.length - h0.length) (mi_sl h - mi_sl h0) Q (F0 m pc lr (.int n :: r.map (mi_v (mi_ad base scr lit)))) from key T' hT' Sd
        refine va_newaK hexec hb harr rfl V rfl hn0 rfl hbytes hR.1 hR.2 hsz (fun H1 cA f1 z1 o1 hAr hNm => ?_)
        have hk : ∀ (j : Nat) (x : Nat × va_E), (mi_ws ct (mi_ad base scr lit) 0 h)[j]? = some x → H1[x.1]? = H[x.1]? := fun j x hx => o1 x.1 (by rw [← hsz]; exact (hw.1 j x hx).lt)
        have hS1 : va_S (fun q => base ≤ q) s.heap H1 locs := ⟨Nat.le_trans hS.1 (by omega), fun x x1 x2 => (o1 x (by have := hS.1; omega)).trans (hS.2.1 x x1 x2), hS.2.2⟩
        have fin : ∀ x : vp_A, x.1 = n.toNatClampNeg → (bif Nat.beq a 3 then (Sum.inr (Sum.inl (fun _ => 0)) : (Nat → Int32) ⊕ (Nat → Int64) ⊕ (Nat → UInt32) ⊕ (Nat → UInt64) ⊕ (Nat → Option Nat)) else Sum.inl (fun _ => 0)) = x.2 → cA = ct a → vp_cell (ct a) x = arrV (ct a) n.toNatClampNeg (fun _ => defaultValue (newarray.typeOf aty)) → W p l ev R s m args below meth c H1 locs (h.length - h0.length + 1) (mi_sl h - mi_sl h0 + n.toNatClampNeg) Q (F0 m (pc + 2) lr (.ref (base + h.length) :: r.map (mi_v (mi_ad base scr lit)))) := by
          rintro ⟨x1, x2⟩ hx1 hx2 rfl hx3
          dsimp only at hx1 hx2
          subst hx1
          have hw1 : mi_Wd D cl ct (mi_ad base scr lit) (h ++ [Sum.inl (a, n.toNatClampNeg, x2)]) H1 := by
            refine ⟨?_, by simp only [List.length_append, List.length_singleton]; omega⟩
            rw [mi_ws_app]
            refine (hw.1.kept hk).app (fun j x hx => ?_)
            have hz : j < 1 := (List.getElem?_eq_some_iff.mp hx).1
            rw [show j = 0 by omega] at hx
            cases hx
            rw [Nat.zero_add, had]
            show H1[base + h.length]? = some (vp_cell (ct a) (n.toNatClampNeg, x2))
            rw [hx3]
            exact f1
          have := k H1 locs (by rw [hx2]; exact hw1) hS1 lr hl
          dsimp only at this
          rw [e1, e2 _ rfl] at this
          rw [← had]
          exact this
        have hcA : ∀ (ty : FieldType) (u : Nat), (mi_tys ct)[u]? = some (ct u, ty) → newarray.typeOf aty = ty → (∀ C, ty ≠ .object C) → cA = ct u := by
          intro ty u hu hty hno
          have h1 := (hK.2 u _ hu).2
          rw [hty] at hNm
          cases ty with
          | object C => exact absurd rfl (hno C)
          | _ => exact Option.some.inj (hNm.symm.trans h1)
        rcases (by omega : a = 0 ∨ a = 1 ∨ a = 2 ∨ a = 3) with rfl | rfl | rfl | rfl
        · have hty : newarray.typeOf aty = .int := (Option.some.inj hty).symm
          exact fin (n.toNatClampNeg, .inl (fun _ => 0)) rfl rfl (hcA .int 0 rfl hty (by intro C h; cases h)) (by rw [hty]; rfl)
        · have hty : newarray.typeOf aty = .char := (Option.some.inj hty).symm
          exact fin (n.toNatClampNeg, .inl (fun _ => 0)) rfl rfl (hcA .char 1 rfl hty (by intro C h; cases h)) (by rw [hty]; rfl)
        · have hty : newarray.typeOf aty = .boolean := (Option.some.inj hty).symm
          exact fin (n.toNatClampNeg, .inl (fun _ => 0)) rfl rfl (hcA .boolean 2 rfl hty (by intro C h; cases h)) (by rw [hty]; rfl)
        · have hty : newarray.typeOf aty = .long := (Option.some.inj hty).symm
          exact fin (n.toNatClampNeg, .inr (.inl (fun _ => 0))) rfl rfl (hcA .long 3 rfl hty (by intro C h; cases h)) (by rw [hty]; rfl)
      · cases e
    · cases e
  · cases e
end CELLS
end
section
/-! A whole body: the machine does what the mini does. -/
def mi_Qc (D : va_G) (cl : List vw_C) (ct : Nat → ClassId) (ad : Nat → Nat) (base : Nat) (v : Option Value) (h1 : mH) : Array Value → State → Outcome → State → Prop := fun _ st oc t => oc = .returned (v.map (mi_v ad)) ∧ mi_Wd D cl ct ad h1 t.heap ∧ va_F (fun q => base ≤ q) st t
theorem mi_take_ok : ∀ (n : Nat) (acc st as r : List Value), mi_take n acc st = some (as, r) → ∃ xs, st = xs ++ r ∧ as = xs.reverse ++ acc ∧ xs.length = n := by
  intro n
  induction n with
  | zero => intro acc st as r e; cases e; exact ⟨[], rfl, rfl, rfl⟩
  | succ n ih =>
    intro acc st as r e
    cases st with
    | nil => cases e
    | cons v st =>
      obtain ⟨xs, h1, h2, h3⟩ := ih (v :: acc) st as r e
      exact ⟨v :: xs, by rw [h1]; rfl, by rw [h2]; simp, by simp [h3]⟩
theorem mi_cats_eq (ad : Nat → Nat) : ∀ r : List Value, ((r.map (mi_v ad)).map fun v => v.category).sum = mi_cats r := by
  intro r
  induction r with
  | nil => rfl
  | cons v r ih => simp only [List.map_cons, List.sum_cons, mi_cats, ih, mi_cat]
section BODY
variable {p : Program} {l : Launch} {ev : Env} {R : Room} {s : State} {m : MethodId} {args : Array Value} {below : List Frame} {meth : Method} {c : Code}
variable {cc : ByteArray} {nL : Nat} {D : va_G} {cl : List vw_C} {ct : Nat → ClassId} {base scr : Nat} {lit : Nat → Nat} {h0 : mH} {F : List (List Nat)} {X : Nat × (Nat → Int32)} {Ts : List Cond} {own : String}
theorem mi_after {Q : State → Prop} {H : Heap} {locs : List Loc} {cells slots mc ms pc : Nat} {lr : Array Slot} {st0 rest : List Value} {ad : Nat → Nat} {v : Option Value} {h1 : mH} {a : Array Value} (hr : va_Run p l ev R s m args below meth c H locs cells slots mc ms (F0 m pc lr st0) rest (mi_Qc D cl ct ad base v h1 a) (fun q => base ≤ q)) (hS : va_S (fun q => base ≤ q) s.heap H locs)
    (k : ∀ (H1 : Heap) (locs1 : List Loc), mi_Wd D cl ct ad h1 H1 → va_S (fun q => base ≤ q) s.heap H1 locs1 → W p l ev R s m args below meth c H1 locs1 (cells + mc) (slots + ms) Q (F0 m (pc + 3) lr ((v.map (mi_v ad)).toList ++ rest))) : W p l ev R s m args below meth c H locs cells slots Q (F0 m pc lr st0) := by
  intro T hT Sd
  obtain ⟨v1, st₀, t, T', L, g0, Sd', hL, e1, e2, ⟨hv, hw, hz, hk⟩, st⟩ := hr T hT Sd
  cases hv
  rw [g0] at hz hk
  obtain ⟨t2, a1, b1⟩ := k T'.heap (locs ++ L) (by rw [e1]; exact hw)
    ⟨Nat.le_trans hS.1 (by rw [e1]; exact hz), fun q q1 q2 => by rw [e1, hk q (Nat.lt_of_lt_of_le q1 hS.1) q2]; exact hS.2.1 q q1 q2, fun q hq => by
      rcases List.mem_append.mp hq with h | h
      · exact hS.2.2 q h
      · exact hL q h⟩ T' rfl Sd'
  exact ⟨t2, st t2 a1, b1⟩
/-- a body's entries -/
def mi_VE (cc : ByteArray) (own : String) (cl : List vw_C) (s : State) (args : Array Value) (ini : Bool) (tb : mB) : Prop := ∀ (pc : Nat) (q : mI), mi_lk tb pc = some q → (decode cc pc = .ok (q.1, mi_len q.1) ∨ ∃ d lo hi offs, q.1 = .tableswitch d lo hi offs ∧ ∃ len, decode cc pc = .ok (q.1, len)) ∧ (q.2.1 = pc + mi_len q.1 ∨ ∃ d lo hi offs, q.1 = .tableswitch d lo hi offs) ∧ mi_V1 q.1 pc q.2.2.1 q.2.2.2.2.2 ∧ mi_V2 own cl s args ini q.1 q.2.2.1 q.2.2.2.1
theorem mi_nr_ok {ty : FieldType} {v : Int32} (h : mi_nr ty v = true) : narrow ty (.int v) = .int v := by
  unfold mi_nr at h
  split at h
  · rfl
  · rw [Bool.or_eq_true, decide_eq_true_eq, decide_eq_true_eq] at h
    rcases h with rfl | rfl <;> rfl
  · cases h
theorem mi_kd_sw {d lo hi : Int} {offs : Array Int} : mi_kd (.tableswitch d lo hi offs) = (false, false) := rfl
set_option maxHeartbeats 4000000 in
theorem mi_body (hexec : p.tables.exec = Jvm.exec) (hb : c.code = cc) (hown : s.vm.findClass own = some m.cls) (hts : ∀ w ∈ Ts, w.before args s = true) (hSt : mi_St cl F Ts) (hK : va_K D cl (mi_tys ct) s) (hX : va_X scr X.1 X.2 s s.heap) (hsc : scr < base) (hs0 : s.heap.size = base + h0.length) {ini : Bool} (hini : ini = true → meth.name = "<init>") {ret : Option FieldType} (hret : meth.sig.returnType = ret) (hlk : meth.locks = false) {tb : mB} {PR cal : Nat → List Value → mH → Option (mA mH)} (hVE : mi_VE cc own cl s args ini tb) (hpl : mi_cle PR) (hcl : mi_cle cal)
    (hldc : ∀ (pc : Nat) (q : mI), mi_lk tb pc = some q → (∃ k, q.1 = .ldc k ∨ q.1 = .ldc_w k ∨ q.1 = .ldc2_w k) → ∀ (H : Heap) (locs : List Loc) (cells slots : Nat) (Q : State → Prop) (lr : Array Slot) (rest : List Value), W p l ev R s m args below meth c H locs cells slots Q (F0 m q.2.1 lr (mi_v (mi_ad base scr lit) q.2.2.2.2.2 :: rest)) → W p l ev R s m args below meth c H locs cells slots Q (F0 m pc lr rest))
    (hcall : ∀ (pc : Nat) (q : mI), mi_lk tb pc = some q → mi_kd q.1 = (true, false) → q.2.2.1 < 1000 → ∀ (as rest : List Value) (h : mH) (v : Option Value) (h1 : mH), cal q.2.2.1 as h = some (v, h1) → mi_rc (mi_O1 F X) q.2.2.2.2.1 as h = true → as.length = q.2.2.2.1 → mi_cats rest ≤ 8 → ∀ (lr : Array Slot) (H : Heap) (locs : List Loc) (cells slots : Nat), lr.size = nL → mi_Wd D cl ct (mi_ad base scr lit) h H → H.size = base + h.length → va_S (fun q => base ≤ q) s.heap H locs → cells + (h1.length - h.length) ≤ R.cells → slots + (mi_sl h1 - mi_sl h) ≤ R.slots →
      va_Run p l ev R s m args below meth c H locs cells slots (h1.length - h.length) (mi_sl h1 - mi_sl h) (F0 m pc lr ((as.reverse ++ rest).map (mi_v (mi_ad base scr lit)))) (rest.map (mi_v (mi_ad base scr lit))) (mi_Qc D cl ct (mi_ad base scr lit) base v h1 #[]) (fun q => base ≤ q))
    (hprim : ∀ (pc : Nat) (q : mI), mi_lk tb pc = some q → mi_kd q.1 = (true, false) → ¬ q.2.2.1 < 1000 → ∀ (Q : State → Prop) (ls : mL) (as rest : List Value) (h : mH) (v : Option Value) (h1 : mH), PR q.2.2.1 as h = some (v, h1) → as.length = q.2.2.2.1 → mi_cats rest ≤ 8 → mi_Wm p l ev R s m args below meth c Q nL D cl ct base scr lit h0 (q.2.1, ls, v.toList ++ rest, h1) → mi_Wm p l ev R s m args below meth c Q nL D cl ct base scr lit h0 (pc, ls, as.reverse ++ rest, h))
    {v : Option Value} {h' : mH} (hRc : h'.length - h0.length ≤ R.cells) (hRs : mi_sl h' - mi_sl h0 ≤ R.slots) :
    ∀ (n : Nat) (x : mS mH), mi_ex (mi_O1 F X) PR cal tb ret n x = some (v, h') → mi_le h0 x.2.2.2 → mi_Wm p l ev R s m args below meth c (MQ below (mi_Qc D cl ct (mi_ad base scr lit) base v h') args s (h'.length - h0.length) (mi_sl h' - mi_sl h0) (fun q => base ≤ q)) nL D cl ct base scr lit h0 x := by
  intro n
  induction n with
  | zero => intro x e; cases e
  | succ n ih =>
    intro x e hge
    obtain ⟨pc, ls, st, h⟩ := x
    unfold mi_ex at e
    split at e
    · rename_i x1 h1
      have hge1 : mi_le h0 x1.2.2.2 := hge.tr (mi_one_le hpl hcl h1)
      have hle1 : mi_le x1.2.2.2 h' := mi_ex_le hpl hcl n x1 _ e
      have k := ih x1 e hge1
      have hR : x1.2.2.2.length - h0.length ≤ R.cells ∧ mi_sl x1.2.2.2 - mi_sl h0 ≤ R.slots := ⟨by have := hle1.1; omega, by have := hle1.2; omega⟩
      unfold mi_one at h1
      split at h1
      · cases h1
      · rename_i q hl
        obtain ⟨V, hnx, hV1, hV2⟩ := hVE pc q hl
        split at h1
        · split at h1
          · rename_i y hy
            cases h1
            intro H locs hw hS
            exact mi_pl_ok hexec hb V hnx hV1 (fun hq lr rest => hldc pc q hl hq H locs _ _ _ lr rest) hy (k H locs hw hS)
          · cases h1
        · rename_i hk
          split at h1
          · rename_i y hy
            obtain ⟨y1, y2⟩ := y
            cases h1
            have V' : decode cc pc = .ok (q.1, mi_len q.1) := by
              rcases V with h | ⟨d, lo, hi, offs, h, -⟩
              · exact h
              · rw [h] at hk; cases hk
            have hnx' : q.2.1 = pc + mi_len q.1 := by
              rcases hnx with h | ⟨d, lo, hi, offs, h⟩
              · exact h
              · rw [h] at hk; cases hk
            exact mi_hp_ok hexec hb hown hts hSt hK hX hsc hs0 hini V' hnx' hV2 hge hR hy k
          · cases h1
        · rename_i hk
          split at h1
          · rename_i y hy
            cases h1
            unfold mi_cl at hy
            split at hy
            · rename_i as r ht
              cases hbb : (Nat.ble (mi_cats r) 8 && mi_rc (mi_O1 F X) q.2.2.2.2.1 as h) with
              | false => rw [hbb] at hy; cases hy
              | true =>
                rw [hbb] at hy
                dsimp only [cond_true] at hy
                rw [Bool.and_eq_true, Nat.ble_eq] at hbb
                obtain ⟨xs, t1, t2, t3⟩ := mi_take_ok _ _ _ _ _ ht
                rw [List.append_nil] at t2
                have hst : st = as.reverse ++ r := by rw [t2, List.reverse_reverse]; exact t1
                have hal : as.length = q.2.2.2.1 := by rw [t2, List.length_reverse]; exact t3
                have hnx' : q.2.1 = pc + 3 := by
                  rcases hnx with h | ⟨d, lo, hi, offs, h⟩
                  · rw [h]
                    congr 1
                    revert hk
                    generalize q.1 = i
                    intro hk
                    unfold mi_kd at hk
                    split at hk <;> first | rfl | cases hk
                  · rw [h] at hk; cases hk
                subst hst
                split at hy
                · rename_i v1 h1 hv
                  cases hy
                  cases hk1 : Nat.blt q.2.2.1 1000 with
                  | true =>
                    rw [hk1] at hv
                    dsimp only [cond_true] at hv
                    rw [Nat.blt_eq] at hk1
                    have hle2 := hcl _ _ _ _ _ hv
                    intro H locs hw hS lr hlr T hT Sd
                    have hsz := mi_size hw hs0 hge.1 hT Sd
                    have c1 : h.length - h0.length + (h1.length - h.length) = h1.length - h0.length := by
                      have g1 : h0.length ≤ h.length := hge.1
                      have g2 : h.length ≤ h1.length := hle2.1
                      omega
                    have c2 : mi_sl h - mi_sl h0 + (mi_sl h1 - mi_sl h) = mi_sl h1 - mi_sl h0 := by
                      have g1 : mi_sl h0 ≤ mi_sl h := hge.2
                      have g2 : mi_sl h ≤ mi_sl h1 := hle2.2
                      omega
                    refine mi_after (hcall pc q hl hk hk1 as r h v1 h1 hv hbb.2 hal hbb.1 lr H locs _ _ hlr.1 hw hsz hS (by rw [c1]; exact hR.1) (by rw [c2]; exact hR.2)) hS (fun H1 locs1 hw1 hS1 => ?_) T hT Sd
                    rw [c1, c2]
                    have := k H1 locs1 hw1 hS1 lr hlr
                    dsimp only at this
                    rw [hnx', List.map_append] at this
                    cases v1 with
                    | none => exact this
                    | some z => exact this
                  | false =>
                    rw [hk1] at hv
                    dsimp only [cond_false] at hv
                    exact hprim pc q hl hk (by intro z; rw [← Nat.blt_eq, hk1] at z; cases z) _ ls as r h v1 h1 hv hal hbb.1 k
                · cases hy
            · cases hy
          · cases h1
        · split at h1
          · cases h1
          · cases h1
    · rename_i y h1
      cases e
      unfold mi_one at h1
      split at h1
      · cases h1
      · rename_i q hl
        obtain ⟨V, hnx, hV1, hV2⟩ := hVE pc q hl
        split at h1
        · split at h1 <;> cases h1
        · split at h1 <;> cases h1
        · split at h1 <;> cases h1
        · rename_i hk
          split at h1
          · rename_i y hy
            cases h1
            have V' : decode cc pc = .ok (q.1, mi_len q.1) := by
              rcases V with h | ⟨d, lo, hi, offs, h, -⟩
              · exact h
              · rw [h] at hk; cases hk
            have hh := mi_re_eq hy
            dsimp only at hh
            subst hh
            intro H locs hw hS lr hlr
            dsimp only at hy
            revert V'
            generalize q.1 = i at hy
            intro V'
            unfold mi_re at hy
            split at hy
            · split at hy
              · rename_i z ty
                cases hn : mi_nr ty z with
                | false => rw [hn] at hy; cases hy
                | true =>
                  rw [hn] at hy
                  cases hy
                  exact W.zret hexec hb hret (mi_nr_ok hn) (fun t ht _ => ⟨rfl, by rw [ht]; exact hw, hS.F ht⟩) hS.2.2 V' hlk
              · cases hy
            · split at hy
              · cases hy
                exact W.lret hexec hb hret (fun t ht _ => ⟨rfl, by rw [ht]; exact hw, hS.F ht⟩) hS.2.2 V' hlk
              · cases hy
            · split at hy
              · cases hy
                exact W.vret hexec hb hret (fun t ht _ => ⟨rfl, by rw [ht]; exact hw, hS.F ht⟩) hS.2.2 V' hlk
              · cases hy
            · cases hy
          · cases h1
    · cases e
end BODY
end
section
/-! A method's contract out of the mini's run, for every method of the table. -/
abbrev mY : Type := MethodName × ByteArray × Nat × Nat
/-- what the words say of a method: its name, code; how many parameters; 0 static, 1 virtual, 2 a constructor -/
def mi_YF (Ts : List Cond) (q : mM) (y : mY) : Prop := plainName y.1.cls = true ∧ Jvm.Cond.code y.1 y.2.1 q.2.1 q.2.2 ∈ Ts ∧ Jvm.Cond.initialized y.1.cls ∈ Ts ∧ (y.1.cls ≠ "java/lang/invoke/MethodHandle" ∧ y.1.cls ≠ "java/lang/invoke/VarHandle" ∧ (parseMethodDescriptor y.1.desc).map (fun d => d.parameters.length) = some y.2.2.1) ∧ (y.2.2.2 = 0 → Jvm.Cond.static y.1 ∈ Ts) ∧ (y.2.2.2 = 1 → Jvm.Cond.instanceMethod y.1 ∈ Ts ∧ Jvm.Cond.selects y.1.cls y.1 y.1 ∈ Ts) ∧ (y.2.2.2 = 2 → Jvm.Cond.instanceMethod y.1 ∈ Ts ∧ y.1.name = "<init>" ∧ q.2.2 = none) ∧ q.2.1 ≤ 20
def mi_VC (Ts : List Cond) (own : String) (Y : List mY) (cl : List vw_C) (x : mI) : Prop := match x.1 with
  | .invokevirtual k => ∃ (y : mY) (T : u_T) (N : Nat), Y[x.2.2.1]? = some y ∧ y.2.2.2 = 1 ∧ x.2.2.2.1 = y.2.2.1 + 1 ∧ Jvm.Cond.methodLink own k y.1 ∈ Ts ∧ cl[x.2.2.2.2.1]? = some (y.1.cls, T, N) ∧ Nat.beq x.2.2.2.2.1 99 = false ∧ Nat.beq x.2.2.2.2.1 98 = false
  | .invokestatic k => ∃ y : mY, Y[x.2.2.1]? = some y ∧ y.2.2.2 = 0 ∧ x.2.2.2.1 = y.2.2.1 ∧ Jvm.Cond.methodLink own k y.1 ∈ Ts
  | .invokespecial k => ∃ y : mY, Y[x.2.2.1]? = some y ∧ y.2.2.2 = 2 ∧ x.2.2.2.1 = y.2.2.1 + 1 ∧ Jvm.Cond.methodLink own k y.1 ∈ Ts ∧ Nat.beq x.2.2.2.2.1 99 = false
  | _ => True
def mi_rm (d mc ms : Nat) : Room := { frames := d + 4, cells := mc, slots := ms, locals := 40 * d + 136 }
def mi_Pc (D : va_G) (cl : List vw_C) (ct : Nat → ClassId) (base scr : Nat) (lit : Nat → Nat) (X : Nat × (Nat → Int32)) (J : State → Prop) (as : List Value) (h : mH) : Array Value → State → Prop := va_Pc (as.map (mi_v (mi_ad base scr lit))) (fun U => mi_Wd D cl ct (mi_ad base scr lit) h U.heap ∧ U.heap.size = base + h.length ∧ va_K D cl (mi_tys ct) U ∧ va_X scr X.1 X.2 U U.heap ∧ J U)
theorem mi_fl_at (ad : Nat → Nat) : ∀ (as : List Value) (i : Nat) (v : Value), (mi_fl as)[i]? = some (some v) → (lg_sl (as.map (mi_v ad)))[i]? = some (Slot.val (mi_v ad v)) := by
  intro as
  induction as with
  | nil => intro i v e; simp [mi_fl] at e
  | cons u r ih =>
    intro i v e
    unfold mi_fl at e
    cases hb : Nat.beq u.category 2 with
    | true =>
      rw [hb] at e
      have hc : (mi_v ad u).category = 2 := by rw [mi_cat]; exact Nat.eq_of_beq_eq_true hb
      have hs : lg_sl ((u :: r).map (mi_v ad)) = Slot.val (mi_v ad u) :: Slot.second :: lg_sl (r.map (mi_v ad)) := by simp [lg_sl, hc]
      rw [hs]
      match i with
      | 0 => simp at e; rw [← e]; rfl
      | 1 => simp at e
      | i + 2 => simp only [cond_true, List.getElem?_cons_succ] at e ⊢; exact ih i v e
    | false =>
      rw [hb] at e
      have hc : ¬ (mi_v ad u).category = 2 := by
        rw [mi_cat]
        intro z
        rw [z] at hb
        cases hb
      have hs : lg_sl ((u :: r).map (mi_v ad)) = Slot.val (mi_v ad u) :: lg_sl (r.map (mi_v ad)) := by simp [lg_sl, hc]
      rw [hs]
      match i with
      | 0 => simp at e; rw [← e]; rfl
      | i + 1 => simp only [cond_false, List.getElem?_cons_succ] at e ⊢; exact ih i v e
theorem mi_fl_len (ad : Nat → Nat) : ∀ as : List Value, (lg_sl (as.map (mi_v ad))).length = (mi_fl as).length := by
  intro as
  induction as with
  | nil => rfl
  | cons u r ih =>
    unfold mi_fl
    cases hb : Nat.beq u.category 2 with
    | true =>
      have hc : (mi_v ad u).category = 2 := by rw [mi_cat]; exact Nat.eq_of_beq_eq_true hb
      have hs : lg_sl ((u :: r).map (mi_v ad)) = Slot.val (mi_v ad u) :: Slot.second :: lg_sl (r.map (mi_v ad)) := by simp [lg_sl, hc]
      rw [hs]
      simp [ih]
    | false =>
      have hc : ¬ (mi_v ad u).category = 2 := by
        rw [mi_cat]
        intro z
        rw [z] at hb
        cases hb
      have hs : lg_sl ((u :: r).map (mi_v ad)) = Slot.val (mi_v ad u) :: lg_sl (r.map (mi_v ad)) := by simp [lg_sl, hc]
      rw [hs]
      simp [ih]
theorem mi_ent_ok (ad : Nat → Nat) {nL : Nat} {as : List Value} (hn : (mi_fl as).length ≤ nL) : mi_lh ad ((lg_sl (as.map (mi_v ad)) ++ List.replicate (nL - (lg_sl (as.map (mi_v ad))).length) Slot.unset).toArray) nL (mi_ent nL as) := by
  have h0 := lv_entry (as.map (mi_v ad)) (n := nL) (by rw [mi_fl_len]; exact hn)
  refine ⟨h0.1, h0.2.1, ?_, fun i v e => ?_⟩
  · unfold mi_ent
    rw [List.length_append, List.length_replicate]
    omega
  · unfold mi_ent at e
    by_cases hi : i < (mi_fl as).length
    · rw [List.getElem?_append_left hi] at e
      have h1 := mi_fl_at ad as i v e
      simp only [List.getElem?_toArray]
      rw [List.getElem?_append_left (by rw [mi_fl_len]; exact hi)]
      exact h1
    · rw [List.getElem?_append_right (by omega)] at e
      have := List.eq_of_mem_replicate (List.mem_of_getElem? e)
      cases this
section MET
variable {l : Launch} {Ts : List Cond} {Y : List mY} {M : List mM} {cl : List vw_C} {F : List (List Nat)} {X : Nat × (Nat → Int32)} {PR : Nat → List Value → mH → Option (mA mH)} {D : va_G} {ct : Nat → ClassId} {base scr : Nat} {lit : Nat → Nat} {J : State → Prop}
/-- what J must keep -/
def mi_JK (base : Nat) (J : State → Prop) : Prop := (∀ (U : State) (g : JFrame) (mk : MethodId) (a : Array Value), J U → J (U.calling g mk a)) ∧ ∀ s U : State, J s → s.WarmedH U.vm → s.heap.size ≤ U.heap.size → (∀ q, q < s.heap.size → ¬ base ≤ q → U.heap[q]? = s.heap[q]?) → J U
/-- a body's methods: words, entries, calls -/
def mi_YA (Ts : List Cond) (Y : List mY) (M : List mM) (cl : List vw_C) : Prop := ∀ (j : Nat) (q : mM), M[j]? = some q → ∃ y : mY, Y[j]? = some y ∧ mi_YF Ts q y ∧ (∀ (args : Array Value) (s : State), (∀ w ∈ Ts, w.before args s = true) → mi_VE y.2.1 y.1.cls cl s args (Nat.beq y.2.2.2 2) q.1) ∧ ∀ (pc : Nat) (x : mI), mi_lk q.1 pc = some x → mi_kd x.1 = (true, false) → x.2.2.1 < 1000 → mi_VC Ts y.1.cls Y cl x
/-- constants, and what the JDK's own methods do -/
def mi_LP (l : Launch) (Ts : List Cond) (cl : List vw_C) (D : va_G) (ct : Nat → ClassId) (base scr : Nat) (lit : Nat → Nat) (X : Nat × (Nat → Int32)) (J : State → Prop) (PR : Nat → List Value → mH → Option (mA mH)) (own : String) (cc : ByteArray) (tb : mB) : Prop :=
  ∀ (p : Program) (ev : Env) (R : Room) (s : State) (m : MethodId) (args : Array Value) (below : List Frame) (meth : Method) (c : Code) (nL : Nat) (h0 : mH), p.tables.exec = Jvm.exec → c.code = cc → c.maxLocals = nL → s.vm.findClass own = some m.cls → (∀ w ∈ Ts, w.before args s = true) → va_K D cl (mi_tys ct) s → J s → base ≤ s.heap.size → 4 ≤ R.frames → 136 ≤ R.locals →
  (∀ (pc : Nat) (q : mI), mi_lk tb pc = some q → (∃ k, q.1 = .ldc k ∨ q.1 = .ldc_w k ∨ q.1 = .ldc2_w k) → ∀ (H : Heap) (locs : List Loc) (cells slots : Nat) (Q : State → Prop) (lr : Array Slot) (rest : List Value), W p l ev R s m args below meth c H locs cells slots Q (F0 m q.2.1 lr (mi_v (mi_ad base scr lit) q.2.2.2.2.2 :: rest)) → W p l ev R s m args below meth c H locs cells slots Q (F0 m pc lr rest)) ∧
  (∀ (pc : Nat) (q : mI), mi_lk tb pc = some q → mi_kd q.1 = (true, false) → ¬ q.2.2.1 < 1000 → ∀ (Q : State → Prop) (ls : mL) (as rest : List Value) (h : mH) (v : Option Value) (h1 : mH), PR q.2.2.1 as h = some (v, h1) → as.length = q.2.2.2.1 → mi_cats rest ≤ 8 → mi_Wm p l ev R s m args below meth c Q nL D cl ct base scr lit h0 (q.2.1, ls, v.toList ++ rest, h1) → mi_Wm p l ev R s m args below meth c Q nL D cl ct base scr lit h0 (pc, ls, as.reverse ++ rest, h))
theorem mi_blind {as : List Value} {h : mH} (hJ : mi_JK base J) : FrameBlind (mi_Pc D cl ct base scr lit X J as h) := by
  intro a U g mk q
  obtain ⟨q0, q1, q2, q3, q4, q5⟩ := q
  exact ⟨q0, q1, q2, va_K.moved (u := U) (U := U.calling g mk a) (Vm.Alike.refl U.vm) q3, va_X.moved (u := U) (U := U.calling g mk a) (Vm.Alike.refl U.vm) q4, hJ.1 U g mk a q5⟩
set_option maxHeartbeats 4000000 in
theorem mi_met (hG : GoodIn Ts Ts) (hSt : mi_St cl F Ts) (hJ : mi_JK base J) (hsc : scr < base) (hYA : mi_YA Ts Y M cl) (hpl : mi_cle PR) (hLP : ∀ (j : Nat) (q : mM) (y : mY), M[j]? = some q → Y[j]? = some y → mi_LP l Ts cl D ct base scr lit X J PR y.1.cls y.2.1 q.1) :
    ∀ (d n j : Nat) (as : List Value) (h : mH) (v : Option Value) (h1 : mH), mi_run (mi_O1 F X) PR M d n j as h = some (v, h1) → ∀ (q : mM) (y : mY), M[j]? = some q → Y[j]? = some y → Met l y.1 (Jvm.Cond.code y.1 y.2.1 q.2.1 q.2.2 :: Ts) (mi_rm d (h1.length - h.length) (mi_sl h1 - mi_sl h)) (mi_Pc D cl ct base scr lit X J as h) (mi_Qc D cl ct (mi_ad base scr lit) base v h1) (h1.length - h.length) (mi_sl h1 - mi_sl h) (fun q => base ≤ q) := by
  intro d
  induction d with
  | zero => intro n j as h v h1 e; cases e
  | succ d ih =>
    intro n j as h v h1 e q y hq hy
    unfold mi_run at e
    rw [hq] at e
    dsimp only at e
    cases hbl : Nat.ble (mi_fl as).length q.2.1 with
    | false => rw [hbl] at e; cases e
    | true =>
      rw [hbl] at e
      dsimp only [cond_true] at e
      rw [Nat.ble_eq] at hbl
      obtain ⟨y', hy', hYF, hVE, hVC⟩ := hYA j q hq
      have : y' = y := Option.some.inj (hy'.symm.trans hy)
      subst this
      refine Met.ofW (cc := y'.2.1) (maxL := q.2.1) (ret := q.2.2) hYF.1 rfl ?_
      intro p ev s m args below meth c s₁ B hml hv
      obtain ⟨hargs, hw, hsz, hK, hX, hJs⟩ := hv
      subst hargs
      have hx := B.exec
      have hb := B.bytes
      have hr := B.returns
      have hts0 := atoms_spec (ws := Jvm.Cond.code y'.1 y'.2.1 q.2.1 q.2.2 :: Ts) B.pre
      have hts : ∀ w ∈ Ts, w.before (as.map (mi_v (mi_ad base scr lit))).toArray s = true := fun w hw => hts0 w (List.mem_cons_of_mem _ hw)
      have hown : s.vm.findClass y'.1.cls = some m.cls := findClass_of_methodNamed B.named
      have hlocks := B.notSynchronized
      have hini : Nat.beq y'.2.2.2 2 = true → meth.name = "<init>" := by
        intro z
        rw [← (hYF.2.2.2.2.2.2.1 (Nat.eq_of_beq_eq_true z)).2.1]
        exact (name_of_methodNamed B.named B.method).1
      obtain ⟨hldc, hprim⟩ := hLP j q y' hq hy' p ev (headSpec (Jvm.Cond.code y'.1 y'.2.1 q.2.1 q.2.2 :: Ts) (mi_rm (d + 1) (h1.length - h.length) (mi_sl h1 - mi_sl h))).room s m _ below meth c q.2.1 h hx hb hml hown hts hK hJs (by omega) (by show 4 ≤ d + 1 + 4; omega) (by show 136 ≤ 40 * (d + 1) + 136; omega)
      rw [lg_entry_eq]
      refine W.cs (cells' := h.length - h.length) (slots' := mi_sl h - mi_sl h) (by omega) (by omega) ?_
      refine mi_body (nL := q.2.1) (h0 := h) hx hb hown hts hSt hK hX hsc hsz hini hr hlocks (hVE _ s hts) hpl (mi_run_le hpl d n) hldc ?_ hprim (Nat.le_refl _) (Nat.le_refl _) n (0, mi_ent q.2.1 as, [], h) e mi_le.rf s.heap [] hw va_S.rf _ (mi_ent_ok _ hbl)
      intro pc x hl hk hlt As rest g v1 g1 hc hrc hal hcats lr H locs cells slots hlr hwg hszg hS hc1 hc2
      have hcall := hVC pc x hl hk hlt
      obtain ⟨V, hnx, -, -⟩ := hVE _ s hts pc x hl
      have hq2 : ∃ q2, M[x.2.2.1]? = some q2 := by
        cases d with
        | zero => cases hc
        | succ d =>
          unfold mi_run at hc
          cases hq2 : M[x.2.2.1]? with
          | none => rw [hq2] at hc; cases hc
          | some q2 => exact ⟨q2, rfl⟩
      obtain ⟨q2, hq2⟩ := hq2
      obtain ⟨y2, hy2, hYF2, -, -⟩ := hYA _ q2 hq2
      have hM2 := ih n _ As g v1 g1 hc q2 y2 hq2 hy2
      have hwW : 2 * (F0 m pc lr ((As.reverse ++ rest).map (mi_v (mi_ad base scr lit)))).monitorRoom + ((rest.map (mi_v (mi_ad base scr lit))).map fun v => v.category).sum ≤ 8 := by
        rw [mi_cats_eq]
        show 2 * 0 + mi_cats rest ≤ 8
        omega
      have hG2 : GoodIn Ts (Jvm.Cond.code y2.1 y2.2.1 q2.2.1 q2.2.2 :: Ts) := by
        intro w hw
        rcases List.mem_cons.mp hw with rfl | hw
        · exact hG _ hYF2.2.1
        · exact hG w hw
      have hCB : ∀ k, Jvm.Cond.methodLink y'.1.cls k y2.1 ∈ Ts → CallB (headSpec (Jvm.Cond.code y'.1 y'.2.1 q.2.1 q.2.2 :: Ts) (mi_rm (d + 1) (h1.length - h.length) (mi_sl h1 - mi_sl h))).room s (as.map (mi_v (mi_ad base scr lit))).toArray y'.1.cls k y2.1 y2.2.1 q2.2.1 q2.2.2 (Jvm.Cond.code y2.1 y2.2.1 q2.2.1 q2.2.2 :: Ts) (mi_rm d (g1.length - g.length) (mi_sl g1 - mi_sl g)) (g1.length - g.length) (mi_sl g1 - mi_sl g) y2.2.2.1 := by
        intro k hlk
        have h20 := hYF2.2.2.2.2.2.2.2
        exact callB_of y2.2.2.1 hts hG2 rfl rfl rfl (hts _ hYF2.2.2.1) (hts _ hlk) hYF2.2.2.2.1 ⟨by show d + 4 + 1 ≤ d + 1 + 4; omega, by show 8 + (q2.2.1 + 11) + (40 * d + 136) ≤ 40 * (d + 1) + 136; omega⟩
      have hPre : ∀ U : State, U.heap = H → s.WarmedH U.vm → mi_Pc D cl ct base scr lit X J As g (As.map (mi_v (mi_ad base scr lit))).toArray U := by
        intro U hU hW
        refine ⟨rfl, by rw [hU]; exact hwg, by rw [hU]; exact hszg, va_K.moved hW.alike hK, ?_, hJ.2 s U hJs hW (by rw [hU]; exact hS.1) (fun z z1 z2 => by rw [hU]; exact hS.2.1 z z1 z2)⟩
        have := va_X.moved hW.alike hX
        exact this.kept (by rw [hU]; exact hS.2.1 scr (by omega) (by show ¬ base ≤ scr; omega))
      have V' : decode y'.2.1 pc = .ok (x.1, mi_len x.1) := by
        rcases V with h | ⟨d, lo, hi, offs, h, -⟩
        · exact h
        · rw [h] at hk; cases hk
      clear V hnx
      obtain ⟨xi, xn, xa, xb, xc, xw⟩ := x
      dsimp only at hk hlt hc hrc hal hcall hq2 hy2 V' ⊢
      unfold mi_VC at hcall
      dsimp only at hcall
      cases xi with
      | invokevirtual k =>
        obtain ⟨y3, T, N, h3, h4, h5, h6, h7, h8, h9⟩ := hcall
        have : y3 = y2 := Option.some.inj (h3.symm.trans hy2)
        subst this
        unfold mi_rc at hrc
        rw [h8] at hrc
        dsimp only [cond_false] at hrc
        split at hrc
        · rename_i q0 As0
          have hq0 : ∃ fs, g[q0]? = some (.inr (xc, fs)) := by
            rw [h9] at hrc
            have hrc : mi_is1' xc q0 g = true := hrc
            unfold mi_is1' at hrc
            split at hrc
            · rename_i ci fs hq0
              have := Nat.eq_of_beq_eq_true hrc
              subst this
              exact ⟨fs, hq0⟩
            · cases hrc
          obtain ⟨fs, hq0⟩ := hq0
          exact va_runV (As := As0.map (mi_v (mi_ad base scr lit))) ⟨hx, hb, hml, hown, hts⟩ hM2 ⟨hCB k h6, hts _ (hYF2.2.2.2.2.2.1 h4).1, hts _ (hYF2.2.2.2.2.2.1 h4).2⟩ ⟨mi_blind hJ, va_recv hK hwg.1 h7 (mi_ws_get hq0), hPre⟩ rfl (by rw [List.length_map]; simp only [List.length_cons] at hal; omega) hlr (by simp [mi_v]) hwW V' ⟨hc1, hc2⟩
        · cases hrc
      | invokestatic k =>
        obtain ⟨y3, h3, h4, h5, h6⟩ := hcall
        have : y3 = y2 := Option.some.inj (h3.symm.trans hy2)
        subst this
        exact va_runS (As := As.map (mi_v (mi_ad base scr lit))) ⟨hx, hb, hml, hown, hts⟩ hM2 ⟨hCB k h6, hts _ (hYF2.2.2.2.2.1 h4)⟩ ⟨mi_blind hJ, hPre⟩ rfl (by rw [List.length_map]; omega) hlr (by simp) hwW V' ⟨hc1, hc2⟩
      | invokespecial k =>
        obtain ⟨y3, h3, h4, h5, h6, h8⟩ := hcall
        have : y3 = y2 := Option.some.inj (h3.symm.trans hy2)
        subst this
        obtain ⟨i1, i2, i3⟩ := hYF2.2.2.2.2.2.2.1 h4
        unfold mi_rc at hrc
        rw [h8] at hrc
        dsimp only [cond_false] at hrc
        split at hrc
        · rename_i q0 As0
          have hCB2 := hCB k h6
          rw [i3] at hCB2 hM2
          exact va_runI (As := As0.map (mi_v (mi_ad base scr lit))) ⟨hx, hb, hml, hown, hts⟩ hM2 ⟨hCB2, i2, hts _ i1⟩ ⟨mi_blind hJ, hPre⟩ rfl (by rw [List.length_map]; simp only [List.length_cons] at hal; omega) hlr (by simp [mi_v]) hwW V' ⟨hc1, hc2⟩
        · cases hrc
      | _ => cases hk
end MET
end
