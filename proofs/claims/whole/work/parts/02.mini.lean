/-! The mini: a small interpreter over a heap of any kind (a list of cells; later: two functions). A reference is the place of its cell. -/
abbrev mE : Type := (Nat × vp_A) ⊕ (Nat × List Value)
abbrev mH : Type := List mE
abbrev mL : Type := List (Option Value)
/-- what stands at a pc: the instruction, the next pc, three numbers (target; class, slot; method, how many values, receiver's class), a constant -/
abbrev mI : Type := Instr × Nat × Nat × Nat × Nat × Value
abbrev mB : Type := List (Nat × mI)
abbrev mS (α : Type) : Type := Nat × mL × List Value × α
abbrev mA (α : Type) : Type := Option Value × α
/-- getfield, putfield, load, store, length, new, newarray, 'is of this class' -/
abbrev mOp (α : Type) : Type := (Nat → Nat → Nat → α → Option Value) × (Nat → Nat → Nat → Value → α → Option α) × (Nat → Nat → Int32 → α → Option Value) × (Nat → Nat → Int32 → Value → α → Option α) × (Nat → α → Option Int32) × (Nat → α → Option (Nat × α)) × (Nat → Int32 → α → Option (Nat × α)) × (Nat → Nat → α → Bool)
def mi_lk : mB → Nat → Option mI
  | [], _ => none
  | q :: r, pc => bif Nat.beq q.1 pc then some q.2 else mi_lk r pc
/-- no two-place value right below place i -/
def mi_nl (ls : mL) (i : Nat) : Bool := match i with
  | 0 => true
  | k + 1 => match ls[k]? with
    | some (some v) => Nat.beq v.category 1
    | _ => true
def mi_s1 (ls : mL) (i : Nat) (v : Value) : Option mL := bif Nat.blt i ls.length && mi_nl ls i then some (ls.set i (some v)) else none
def mi_s2 (ls : mL) (i : Nat) (v : Value) : Option mL := bif Nat.blt (i + 1) ls.length && mi_nl ls i then some ((ls.set i (some v)).set (i + 1) none) else none
def mi_tgt (pc : Nat) (off : Int) : Option Nat := match (pc : Int) + off with
  | .ofNat t => some t
  | .negSucc _ => none
def mi_isI : Value → Bool
  | .int _ => true
  | _ => false
def mi_isL : Value → Bool
  | .long _ => true
  | _ => false
def mi_isA : Value → Bool
  | .ref _ => true
  | _ => false
abbrev mP : Type := Nat × mL × List Value
def mi_ld (nx k : Nat) (ok : Value → Bool) (ls : mL) (st : List Value) : Option mP := match ls[k]? with
  | some (some v) => bif ok v then some (nx, ls, v :: st) else none
  | _ => none
def mi_sv (nx k : Nat) (ok : Value → Bool) (ls : mL) (st : List Value) : Option mP := match st with
  | v :: r => bif ok v then (match mi_s1 ls k v with
    | some l1 => some (nx, l1, r)
    | none => none) else none
  | [] => none
def mi_sv2 (nx k : Nat) (ls : mL) (st : List Value) : Option mP := match st with
  | v :: r => bif mi_isL v then (match mi_s2 ls k v with
    | some l1 => some (nx, l1, r)
    | none => none) else none
  | [] => none
def mi_b1 (f : Int32 → Int32 → Int32) (nx : Nat) (ls : mL) (st : List Value) : Option mP := match st with
  | .int y :: .int x :: r => some (nx, ls, .int (f x y) :: r)
  | _ => none
def mi_b2 (f : Int64 → Int64 → Int64) (nx : Nat) (ls : mL) (st : List Value) : Option mP := match st with
  | .long y :: .long x :: r => some (nx, ls, .long (f x y) :: r)
  | _ => none
def mi_b3 (f : Int64 → Int32 → Int64) (nx : Nat) (ls : mL) (st : List Value) : Option mP := match st with
  | .int y :: .long x :: r => some (nx, ls, .long (f x y) :: r)
  | _ => none
def mi_d1 (f : Int32 → Int32 → Int32) (nx : Nat) (ls : mL) (st : List Value) : Option mP := match st with
  | .int y :: .int x :: r => bif decide (y = 0) then none else some (nx, ls, .int (f x y) :: r)
  | _ => none
def mi_d2 (f : Int64 → Int64 → Int64) (nx : Nat) (ls : mL) (st : List Value) : Option mP := match st with
  | .long y :: .long x :: r => bif decide (y = 0) then none else some (nx, ls, .long (f x y) :: r)
  | _ => none
def mi_u1 (f : Int32 → Value) (nx : Nat) (ls : mL) (st : List Value) : Option mP := match st with
  | .int x :: r => some (nx, ls, f x :: r)
  | _ => none
def mi_u2 (f : Int64 → Value) (nx : Nat) (ls : mL) (st : List Value) : Option mP := match st with
  | .long x :: r => some (nx, ls, f x :: r)
  | _ => none
def mi_c0 (cd : Jvm.ClassFile.Cond) (x : Int32) : Bool := match cd with
  | .eq => decide (x = 0)
  | .ne => decide (¬ x = 0)
  | .lt => decide (x < 0)
  | .ge => decide (0 ≤ x)
  | .gt => decide (0 < x)
  | .le => decide (x ≤ 0)
def mi_c2 (cd : Jvm.ClassFile.Cond) (x y : Int32) : Bool := match cd with
  | .eq => decide (x = y)
  | .ne => decide (¬ x = y)
  | .lt => decide (x < y)
  | .ge => decide (y ≤ x)
  | .gt => decide (y < x)
  | .le => decide (x ≤ y)
def mi_is1 (v : Value) : Bool := Nat.beq v.category 1
def mi_sw (d lo hi : Int) (offs : Array Int) (x : Int32) : Option Int := bif decide (x.toInt < lo) || decide (hi < x.toInt) then some d else offs[(x.toInt - lo).toNat]?
/-- an instruction that looks at no cell -/
def mi_pl (i : Instr) (pc nx a : Nat) (w : Value) (ls : mL) (st : List Value) : Option mP := match i with
  | .iconst _ => some (nx, ls, w :: st)
  | .bipush _ => some (nx, ls, w :: st)
  | .sipush _ => some (nx, ls, w :: st)
  | .lconst _ => some (nx, ls, w :: st)
  | .ldc _ => some (nx, ls, w :: st)
  | .ldc_w _ => some (nx, ls, w :: st)
  | .ldc2_w _ => some (nx, ls, w :: st)
  | .iload k => mi_ld nx k mi_isI ls st
  | .iload_n k => mi_ld nx k.val mi_isI ls st
  | .lload k => mi_ld nx k mi_isL ls st
  | .lload_n k => mi_ld nx k.val mi_isL ls st
  | .aload k => mi_ld nx k mi_isA ls st
  | .aload_n k => mi_ld nx k.val mi_isA ls st
  | .istore k => mi_sv nx k mi_isI ls st
  | .istore_n k => mi_sv nx k.val mi_isI ls st
  | .astore k => mi_sv nx k mi_isA ls st
  | .astore_n k => mi_sv nx k.val mi_isA ls st
  | .lstore k => mi_sv2 nx k ls st
  | .lstore_n k => mi_sv2 nx k.val ls st
  | .iinc k _ => match ls[k]?, w with
    | some (some (.int x)), .int z => (match mi_s1 ls k (.int (x + z)) with
      | some l1 => some (nx, l1, st)
      | none => none)
    | _, _ => none
  | .iadd => mi_b1 (fun x y => x + y) nx ls st
  | .isub => mi_b1 (fun x y => x - y) nx ls st
  | .imul => mi_b1 (fun x y => x * y) nx ls st
  | .iand => mi_b1 (fun x y => x &&& y) nx ls st
  | .ior => mi_b1 (fun x y => x ||| y) nx ls st
  | .ixor => mi_b1 (fun x y => x ^^^ y) nx ls st
  | .ishl => mi_b1 (fun x y => x <<< (y &&& 31)) nx ls st
  | .ishr => mi_b1 (fun x y => x >>> (y &&& 31)) nx ls st
  | .idiv => mi_d1 (fun x y => x / y) nx ls st
  | .irem => mi_d1 (fun x y => x - x / y * y) nx ls st
  | .ineg => mi_u1 (fun x => .int (-x)) nx ls st
  | .i2l => mi_u1 (fun x => .long x.toInt64) nx ls st
  | .i2c => mi_u1 (fun x => .int (x.toUInt32 % 65536).toInt32) nx ls st
  | .l2i => mi_u2 (fun x => .int x.toInt32) nx ls st
  | .ladd => mi_b2 (fun x y => x + y) nx ls st
  | .lsub => mi_b2 (fun x y => x - y) nx ls st
  | .lmul => mi_b2 (fun x y => x * y) nx ls st
  | .land => mi_b2 (fun x y => x &&& y) nx ls st
  | .lor => mi_b2 (fun x y => x ||| y) nx ls st
  | .ldiv => mi_d2 (fun x y => x / y) nx ls st
  | .lrem => mi_d2 (fun x y => x - x / y * y) nx ls st
  | .lshl => mi_b3 (fun x y => x <<< (y.toInt64 &&& 63)) nx ls st
  | .lshr => mi_b3 (fun x y => x >>> (y.toInt64 &&& 63)) nx ls st
  | .lcmp => match st with
    | .long y :: .long x :: r => some (nx, ls, .int (lg_cmp x y) :: r)
    | _ => none
  | .dup => match st with
    | v :: r => bif mi_is1 v then some (nx, ls, v :: v :: r) else none
    | _ => none
  | .pop => match st with
    | v :: r => bif mi_is1 v then some (nx, ls, r) else none
    | _ => none
  | .dup_x1 => match st with
    | v :: u :: r => bif mi_is1 v && mi_is1 u then some (nx, ls, v :: u :: v :: r) else none
    | _ => none
  | .dup_x2 => match st with
    | v :: u :: t :: r => bif mi_is1 v && (mi_is1 u && mi_is1 t) then some (nx, ls, v :: u :: t :: v :: r) else none
    | _ => none
  | .dup2 => match st with
    | v :: u :: r => bif mi_is1 v && mi_is1 u then some (nx, ls, v :: u :: v :: u :: r) else none
    | _ => none
  | .goto _ => some (a, ls, st)
  | .ifCond cd _ => match st with
    | .int x :: r => some (bif mi_c0 cd x then a else nx, ls, r)
    | _ => none
  | .if_icmp cd _ => match st with
    | .int y :: .int x :: r => some (bif mi_c2 cd x y then a else nx, ls, r)
    | _ => none
  | .tableswitch d lo hi offs => match st with
    | .int x :: r => (match mi_sw d lo hi offs x with
      | some off => (match mi_tgt pc off with
        | some t => some (t, ls, r)
        | none => none)
      | none => none)
    | _ => none
  | _ => none
section MH
variable {α : Type}
def mi_al (O : mOp α) (t : Nat) (st : List Value) (h : α) : Option (List Value × α) := match st with
  | .int i :: .ref q :: r => (match O.2.2.1 t q i h with
    | some v => some (v :: r, h)
    | none => none)
  | _ => none
def mi_as (O : mOp α) (t : Nat) (st : List Value) (h : α) : Option (List Value × α) := match st with
  | v :: .int i :: .ref q :: r => (match O.2.2.2.1 t q i v h with
    | some h1 => some (r, h1)
    | none => none)
  | _ => none
/-- an instruction that looks at a cell -/
def mi_hp (O : mOp α) (i : Instr) (a b : Nat) (st : List Value) (h : α) : Option (List Value × α) := match i with
  | .getfield _ => match st with
    | .ref q :: r => (match O.1 a b q h with
      | some v => some (v :: r, h)
      | none => none)
    | _ => none
  | .putfield _ => match st with
    | v :: .ref q :: r => (match O.2.1 a b q v h with
      | some h1 => some (r, h1)
      | none => none)
    | _ => none
  | .iaload => mi_al O 0 st h
  | .caload => mi_al O 1 st h
  | .baload => mi_al O 2 st h
  | .laload => mi_al O 3 st h
  | .iastore => mi_as O 0 st h
  | .castore => mi_as O 1 st h
  | .bastore => mi_as O 2 st h
  | .lastore => mi_as O 3 st h
  | .arraylength => match st with
    | .ref q :: r => (match O.2.2.2.2.1 q h with
      | some n => some (.int n :: r, h)
      | none => none)
    | _ => none
  | .new _ => match O.2.2.2.2.2.1 a h with
    | some (q, h1) => some (.ref q :: st, h1)
    | none => none
  | .newarray _ => match st with
    | .int n :: r => (match O.2.2.2.2.2.2.1 a n h with
      | some (q, h1) => some (.ref q :: r, h1)
      | none => none)
    | _ => none
  | _ => none
/-- which kind: looks at no cell, looks at a cell, a call, a return -/
def mi_kd : Instr → Bool × Bool
  | .getfield _ => (false, true)
  | .putfield _ => (false, true)
  | .iaload => (false, true)
  | .caload => (false, true)
  | .baload => (false, true)
  | .laload => (false, true)
  | .iastore => (false, true)
  | .castore => (false, true)
  | .bastore => (false, true)
  | .lastore => (false, true)
  | .arraylength => (false, true)
  | .new _ => (false, true)
  | .newarray _ => (false, true)
  | .invokevirtual _ => (true, false)
  | .invokespecial _ => (true, false)
  | .invokestatic _ => (true, false)
  | .ireturn => (true, true)
  | .lreturn => (true, true)
  | .return_ => (true, true)
  | _ => (false, false)
def mi_take : Nat → List Value → List Value → Option (List Value × List Value)
  | 0, acc, r => some (acc, r)
  | n + 1, acc, v :: r => mi_take n (v :: acc) r
  | _ + 1, _, [] => none
def mi_cats : List Value → Nat
  | [] => 0
  | v :: r => v.category + mi_cats r
/-- is the first value a reference to a cell of that class (99: not asked; 98: a reference)? -/
def mi_rc (O : mOp α) (c : Nat) (as : List Value) (h : α) : Bool := bif Nat.beq c 99 then true else match as with
  | .ref q :: _ => bif Nat.beq c 98 then true else O.2.2.2.2.2.2.2 c q h
  | _ => false
def mi_cl (O : mOp α) (PR cal : Nat → List Value → α → Option (mA α)) (nx a b c : Nat) (ls : mL) (st : List Value) (h : α) : Option (mS α) := match mi_take b [] st with
  | some (as, r) => bif Nat.ble (mi_cats r) 8 && mi_rc O c as h then (match (bif Nat.blt a 1000 then cal a as h else PR a as h) with
    | some (v, h1) => some (nx, ls, v.toList ++ r, h1)
    | none => none) else none
  | none => none
def mi_nr (ty : FieldType) (v : Int32) : Bool := match ty with
  | .int => true
  | .boolean => decide (v = 0) || decide (v = 1)
  | _ => false
def mi_re (i : Instr) (ret : Option FieldType) (st : List Value) (h : α) : Option (mA α) := match i with
  | .ireturn => match st, ret with
    | [.int v], some ty => bif mi_nr ty v then some (some (.int v), h) else none
    | _, _ => none
  | .lreturn => match st, ret with
    | [.long v], some .long => some (some (.long v), h)
    | _, _ => none
  | .return_ => match st, ret with
    | [], none => some (none, h)
    | _, _ => none
  | _ => none
/-- one instruction -/
def mi_one (O : mOp α) (PR cal : Nat → List Value → α → Option (mA α)) (tb : mB) (ret : Option FieldType) (s : mS α) : Option (mS α ⊕ mA α) := match mi_lk tb s.1 with
  | none => none
  | some q => match mi_kd q.1 with
    | (false, false) => (match mi_pl q.1 s.1 q.2.1 q.2.2.1 q.2.2.2.2.2 s.2.1 s.2.2.1 with
      | some x => some (.inl (x.1, x.2.1, x.2.2, s.2.2.2))
      | none => none)
    | (false, true) => (match mi_hp O q.1 q.2.2.1 q.2.2.2.1 s.2.2.1 s.2.2.2 with
      | some x => some (.inl (q.2.1, s.2.1, x.1, x.2))
      | none => none)
    | (true, false) => (match mi_cl O PR cal q.2.1 q.2.2.1 q.2.2.2.1 q.2.2.2.2.1 s.2.1 s.2.2.1 s.2.2.2 with
      | some x => some (.inl x)
      | none => none)
    | (true, true) => (match mi_re q.1 ret s.2.2.1 s.2.2.2 with
      | some x => some (.inr x)
      | none => none)
def mi_ex (O : mOp α) (PR cal : Nat → List Value → α → Option (mA α)) (tb : mB) (ret : Option FieldType) : Nat → mS α → Option (mA α)
  | 0, _ => none
  | n + 1, s => match mi_one O PR cal tb ret s with
    | some (.inl s1) => mi_ex O PR cal tb ret n s1
    | some (.inr r) => some r
    | none => none
/-- the locals at a method's start -/
def mi_fl (as : List Value) : mL := match as with
  | [] => []
  | v :: r => bif Nat.beq v.category 2 then some v :: none :: mi_fl r else some v :: mi_fl r
def mi_ent (nL : Nat) (as : List Value) : mL := mi_fl as ++ List.replicate (nL - (mi_fl as).length) none
/-- a method: its code, how many places its locals have, what it answers -/
abbrev mM : Type := mB × Nat × Option FieldType
def mi_run (O : mOp α) (PR : Nat → List Value → α → Option (mA α)) (M : List mM) : Nat → Nat → Nat → List Value → α → Option (mA α)
  | 0, _, _, _, _ => none
  | d + 1, n, j, as, h => match M[j]? with
    | some q => bif Nat.ble (mi_fl as).length q.2.1 then mi_ex O PR (mi_run O PR M d n) q.1 q.2.2 n (0, mi_ent q.2.1 as, [], h) else none
    | none => none
def mi_T (O : mOp α) (PR : Nat → List Value → α → Option (mA α)) (M : List mM) (d : Nat) (tb : mB) (ret : Option FieldType) (s : mS α) (r : mA α) : Prop := ∃ n, mi_ex O PR (mi_run O PR M d n) tb ret n s = some r
def mi_R (O : mOp α) (PR : Nat → List Value → α → Option (mA α)) (M : List mM) (d j : Nat) (as : List Value) (h : α) (r : mA α) : Prop := ∃ n, mi_run O PR M d n j as h = some r
variable {O : mOp α} {PR : Nat → List Value → α → Option (mA α)} {M : List mM} {tb : mB} {ret : Option FieldType}
theorem mi_cl_mono {cal cal' : Nat → List Value → α → Option (mA α)} (hc : ∀ j as h r, cal j as h = some r → cal' j as h = some r) {nx a b c : Nat} {ls : mL} {st : List Value} {h : α} {x : mS α} (e : mi_cl O PR cal nx a b c ls st h = some x) : mi_cl O PR cal' nx a b c ls st h = some x := by
  unfold mi_cl at e ⊢
  cases ht : mi_take b [] st with
  | none => rw [ht] at e; cases e
  | some q =>
    obtain ⟨as, r⟩ := q
    rw [ht] at e
    dsimp only at e ⊢
    cases hb : (Nat.ble (mi_cats r) 8 && mi_rc O c as h) with
    | false => rw [hb] at e; cases e
    | true =>
      rw [hb] at e
      dsimp only [cond_true] at e ⊢
      cases hk : Nat.blt a 1000 with
      | false => rw [hk] at e; exact e
      | true =>
        rw [hk] at e
        dsimp only [cond_true] at e ⊢
        cases hq : cal a as h with
        | none => rw [hq] at e; cases e
        | some y => rw [hq] at e; rw [hc _ _ _ _ hq]; exact e
theorem mi_one_mono {cal cal' : Nat → List Value → α → Option (mA α)} (hc : ∀ j as h r, cal j as h = some r → cal' j as h = some r) {s : mS α} {x : mS α ⊕ mA α} (e : mi_one O PR cal tb ret s = some x) : mi_one O PR cal' tb ret s = some x := by
  unfold mi_one at e ⊢
  cases hl : mi_lk tb s.1 with
  | none => rw [hl] at e; cases e
  | some q =>
    rw [hl] at e
    dsimp only at e ⊢
    match hk : mi_kd q.1 with
    | (false, false) => rw [hk] at e; exact e
    | (false, true) => rw [hk] at e; exact e
    | (true, false) =>
      rw [hk] at e
      try dsimp only at e ⊢
      cases hq : mi_cl O PR cal q.2.1 q.2.2.1 q.2.2.2.1 q.2.2.2.2.1 s.2.1 s.2.2.1 s.2.2.2 with
      | none => rw [hq] at e; cases e
      | some y => rw [hq] at e; rw [mi_cl_mono hc hq]; exact e
    | (true, true) => rw [hk] at e; exact e
theorem mi_ex_mono {cal cal' : Nat → List Value → α → Option (mA α)} (hc : ∀ j as h r, cal j as h = some r → cal' j as h = some r) : ∀ (n m : Nat) (s : mS α) (r : mA α), n ≤ m → mi_ex O PR cal tb ret n s = some r → mi_ex O PR cal' tb ret m s = some r := by
  intro n
  induction n with
  | zero => intro m s r _ e; cases e
  | succ n ih =>
    intro m s r hm e
    cases m with
    | zero => omega
    | succ m =>
      unfold mi_ex at e ⊢
      cases hq : mi_one O PR cal tb ret s with
      | none => rw [hq] at e; cases e
      | some y =>
        rw [hq] at e
        rw [mi_one_mono hc hq]
        cases y with
        | inl s1 => exact ih m s1 r (by omega) e
        | inr z => exact e
theorem mi_run_mono : ∀ (d n m : Nat), n ≤ m → ∀ (j : Nat) (as : List Value) (h : α) (r : mA α), mi_run O PR M d n j as h = some r → mi_run O PR M d m j as h = some r := by
  intro d
  induction d with
  | zero => intro n m _ j as h r e; cases e
  | succ d ih =>
    intro n m hm j as h r e
    unfold mi_run at e ⊢
    cases hq : M[j]? with
    | none => rw [hq] at e; cases e
    | some q =>
      rw [hq] at e
      dsimp only at e ⊢
      cases hb : Nat.ble (mi_fl as).length q.2.1 with
      | false => rw [hb] at e; cases e
      | true => rw [hb] at e; exact mi_ex_mono (ih n m hm) n m _ r hm e
theorem mi_run_deep : ∀ (d n : Nat) (j : Nat) (as : List Value) (h : α) (r : mA α), mi_run O PR M d n j as h = some r → mi_run O PR M (d + 1) n j as h = some r := by
  intro d
  induction d with
  | zero => intro n j as h r e; cases e
  | succ d ih =>
    intro n j as h r e
    unfold mi_run at e ⊢
    cases hq : M[j]? with
    | none => rw [hq] at e; cases e
    | some q =>
      rw [hq] at e
      dsimp only at e ⊢
      cases hb : Nat.ble (mi_fl as).length q.2.1 with
      | false => rw [hb] at e; cases e
      | true => rw [hb] at e; exact mi_ex_mono (ih n) n n _ r (Nat.le_refl _) e
theorem mi_R.deep {d j : Nat} {as : List Value} {h : α} {r : mA α} (e : mi_R O PR M d j as h r) : mi_R O PR M (d + 1) j as h r := by
  obtain ⟨n, e⟩ := e
  exact ⟨n, mi_run_deep d n j as h r e⟩
theorem mi_R.le {d d' j : Nat} {as : List Value} {h : α} {r : mA α} (hd : d ≤ d') (e : mi_R O PR M d j as h r) : mi_R O PR M d' j as h r := by
  induction hd with
  | refl => exact e
  | step _ ih => exact ih.deep
variable {d : Nat} {s s1 : mS α} {r : mA α}
theorem mi_T.step (h1 : ∀ cal, mi_one O PR cal tb ret s = some (.inl s1)) (k : mi_T O PR M d tb ret s1 r) : mi_T O PR M d tb ret s r := by
  obtain ⟨n, e⟩ := k
  refine ⟨n + 1, ?_⟩
  unfold mi_ex
  rw [h1]
  exact mi_ex_mono (mi_run_mono d n (n + 1) (by omega)) n n s1 r (Nat.le_refl _) e
theorem mi_T.done (h1 : ∀ cal, mi_one O PR cal tb ret s = some (.inr r)) : mi_T O PR M d tb ret s r := by
  refine ⟨1, ?_⟩
  unfold mi_ex
  rw [h1]
def mi_go (O : mOp α) (PR : Nat → List Value → α → Option (mA α)) (tb : mB) (ret : Option FieldType) : Nat → mS α → Option (mS α)
  | 0, s => some s
  | n + 1, s => match mi_one O PR (fun _ _ _ => none) tb ret s with
    | some (.inl s1) => mi_go O PR tb ret n s1
    | _ => none
theorem mi_T.go : ∀ (n : Nat) {s s1 : mS α}, mi_go O PR tb ret n s = some s1 → mi_T O PR M d tb ret s1 r → mi_T O PR M d tb ret s r := by
  intro n
  induction n with
  | zero => intro s s1 e k; cases e; exact k
  | succ n ih =>
    intro s s1 e k
    unfold mi_go at e
    cases hq : mi_one O PR (fun _ _ _ => none) tb ret s with
    | none => rw [hq] at e; cases e
    | some y =>
      rw [hq] at e
      cases y with
      | inl s2 => exact mi_T.step (fun cal => mi_one_mono (fun _ _ _ _ z => by cases z) hq) (ih e k)
      | inr z => cases e
theorem mi_T.br {P : Prop} [Decidable P] {t f : Nat} {ls : mL} {st : List Value} {h : α} (h1 : ∀ cal, mi_one O PR cal tb ret s = some (.inl (bif decide P then t else f, ls, st, h))) (kt : P → mi_T O PR M d tb ret (t, ls, st, h) r) (kf : ¬ P → mi_T O PR M d tb ret (f, ls, st, h) r) : mi_T O PR M d tb ret s r := by
  by_cases hp : P
  · exact mi_T.step (s1 := (t, ls, st, h)) (fun cal => by rw [h1, decide_eq_true hp]; rfl) (kt hp)
  · exact mi_T.step (s1 := (f, ls, st, h)) (fun cal => by rw [h1, decide_eq_false hp]; rfl) (kf hp)
/-- a call of a method of the table -/
theorem mi_T.call {pc nx j b c : Nat} {i : Instr} {w : Value} {ls : mL} {st rest as : List Value} {h h1 : α} {v : Option Value} (hl : mi_lk tb pc = some (i, nx, j, b, c, w)) (hk : mi_kd i = (true, false)) (ht : mi_take b [] st = some (as, rest)) (hj : (Nat.ble (mi_cats rest) 8 && mi_rc O c as h) = true) (hm : Nat.blt j 1000 = true)
    (hr : mi_R O PR M d j as h (v, h1)) (k : mi_T O PR M d tb ret (nx, ls, v.toList ++ rest, h1) r) : mi_T O PR M d tb ret (pc, ls, st, h) r := by
  obtain ⟨n1, e1⟩ := hr
  obtain ⟨n2, e2⟩ := k
  have e1' := mi_run_mono d n1 (n1 + n2 + 1) (by omega) _ _ _ _ e1
  have e2' := mi_ex_mono (mi_run_mono d n2 (n1 + n2 + 1) (by omega)) n2 (n1 + n2) _ _ (by omega) e2
  refine ⟨n1 + n2 + 1, ?_⟩
  unfold mi_ex
  have : mi_one O PR (mi_run O PR M d (n1 + n2 + 1)) tb ret (pc, ls, st, h) = some (.inl (nx, ls, v.toList ++ rest, h1)) := by
    unfold mi_one
    dsimp only
    rw [hl]
    dsimp only
    rw [hk]
    try dsimp only
    unfold mi_cl
    rw [ht]
    dsimp only
    rw [hj, hm]
    dsimp only [cond_true]
    rw [e1']
  rw [this]
  exact e2'
theorem mi_R.of {j : Nat} {as : List Value} {h : α} {q : mM} (hq : M[j]? = some q) (hb : Nat.ble (mi_fl as).length q.2.1 = true) (k : mi_T O PR M d q.1 q.2.2 (0, mi_ent q.2.1 as, [], h) r) : mi_R O PR M (d + 1) j as h r := by
  obtain ⟨n, e⟩ := k
  refine ⟨n, ?_⟩
  unfold mi_run
  rw [hq]
  dsimp only
  rw [hb]
  exact e
end MH
