/-! The machine does what the mini does: places, locals, and the instructions that look at no cell. -/
def mi_ad (base scr : Nat) (lit : Nat → Nat) (k : Nat) : Nat := bif Nat.blt k 900 then base + k else bif Nat.beq k 999 then scr else lit (k - 1000)
def mi_v (ad : Nat → Nat) : Value → Value
  | .ref a => .ref (ad a)
  | v => v
def mi_e (ct : Nat → ClassId) (ad : Nat → Nat) (x : mE) : va_E := match x with
  | .inl q => .inl (ct q.1, q.2)
  | .inr q => .inr (q.1, q.2.map (mi_v ad))
def mi_ws (ct : Nat → ClassId) (ad : Nat → Nat) : Nat → mH → va_W
  | _, [] => []
  | k, x :: r => (ad k, mi_e ct ad x) :: mi_ws ct ad (k + 1) r
theorem mi_ws_at (ct : Nat → ClassId) (ad : Nat → Nat) : ∀ (h : mH) (k j : Nat), (mi_ws ct ad k h)[j]? = (h[j]?).map (fun x => (ad (k + j), mi_e ct ad x)) := by
  intro h
  induction h with
  | nil => intro k j; simp [mi_ws]
  | cons x r ih =>
    intro k j
    cases j with
    | zero => simp [mi_ws]
    | succ j => simp [mi_ws, ih, Nat.add_assoc, Nat.add_comm 1 j]
theorem mi_ws_get {ct : Nat → ClassId} {ad : Nat → Nat} {h : mH} {j : Nat} {x : mE} (hj : h[j]? = some x) : (mi_ws ct ad 0 h)[j]? = some (ad j, mi_e ct ad x) := by rw [mi_ws_at, hj]; simp
theorem mi_ws_set {ct : Nat → ClassId} {ad : Nat → Nat} {h : mH} {j : Nat} {x : mE} : mi_ws ct ad 0 (h.set j x) = (mi_ws ct ad 0 h).set j (ad j, mi_e ct ad x) := by
  apply List.ext_getElem?
  intro i
  by_cases hi : j = i
  · subst hi
    by_cases hl : j < h.length
    · have hl2 : j < (mi_ws ct ad 0 h).length := by
        have := mi_ws_get (ct := ct) (ad := ad) (List.getElem?_eq_getElem hl)
        exact (List.getElem?_eq_some_iff.mp this).1
      rw [mi_ws_at, List.getElem?_set_self hl, List.getElem?_set_self hl2]
      simp
    · have hl2 : ¬ j < (mi_ws ct ad 0 h).length := by
        intro z
        have h1 := List.getElem?_eq_getElem z
        rw [mi_ws_at, List.getElem?_eq_none (by omega)] at h1
        cases h1
      rw [mi_ws_at, List.getElem?_eq_none (by rw [List.length_set]; omega), List.getElem?_eq_none (by rw [List.length_set]; omega)]
      rfl
  · rw [mi_ws_at, List.getElem?_set_ne hi, List.getElem?_set_ne hi, mi_ws_at]
theorem mi_ws_app {ct : Nat → ClassId} {ad : Nat → Nat} {x : mE} : ∀ (h : mH) (k : Nat), mi_ws ct ad k (h ++ [x]) = mi_ws ct ad k h ++ [(ad (k + h.length), mi_e ct ad x)] := by
  intro h
  induction h with
  | nil => intro k; simp [mi_ws]
  | cons y r ih => intro k; simp [mi_ws, ih, Nat.add_assoc, Nat.add_comm 1]
theorem mi_cat (ad : Nat → Nat) (v : Value) : (mi_v ad v).category = v.category := by cases v <;> rfl
theorem mi_ad_lt {base scr : Nat} {lit : Nat → Nat} {k : Nat} (h : k < 900) : mi_ad base scr lit k = base + k := by
  have hb : Nat.blt k 900 = true := by rw [Nat.blt_eq]; exact h
  unfold mi_ad
  rw [hb]
  rfl
theorem mi_D {ct : Nat → ClassId} {base scr : Nat} {lit : Nat → Nat} {h : mH} (hl : h.length ≤ 900) : va_D (fun q => base ≤ q) (mi_ws ct (mi_ad base scr lit) 0 h) := by
  have key : ∀ (k : Nat) (q : Nat × va_E), (mi_ws ct (mi_ad base scr lit) 0 h)[k]? = some q → q.1 = base + k := by
    intro k q hk
    rw [mi_ws_at] at hk
    cases hx : h[k]? with
    | none => rw [hx] at hk; cases hk
    | some x =>
      rw [hx] at hk
      cases hk
      simp only [Nat.zero_add]
      exact mi_ad_lt (by have := (List.getElem?_eq_some_iff.mp hx).1; omega)
  refine ⟨fun i j p q hi hj e => ?_, fun k q hk => ?_⟩
  · rw [key i p hi, key j q hj] at e
    omega
  · show base ≤ q.1
    rw [key k q hk]
    omega
/-- the locals -/
def mi_lh (ad : Nat → Nat) (lr : Array Slot) (nL : Nat) (ls : mL) : Prop := lr.size = nL ∧ lv_wf lr ∧ ls.length = nL ∧ ∀ (i : Nat) (v : Value), ls[i]? = some (some v) → lr[i]? = some (Slot.val (mi_v ad v))
def mi_lp (ad : Nat → Nat) : Nat → mL → List (Nat × Value)
  | _, [] => []
  | k, some v :: r => (k, mi_v ad v) :: mi_lp ad (k + 1) r
  | k, none :: r => mi_lp ad (k + 1) r
theorem mi_lp_of {ad : Nat → Nat} : ∀ (ls : mL) (k : Nat) (q : Nat × Value), q ∈ mi_lp ad k ls → ∃ i v, ls[i]? = some (some v) ∧ q = (k + i, mi_v ad v) := by
  intro ls
  induction ls with
  | nil => intro k q hq; cases hq
  | cons x r ih =>
    intro k q hq
    cases x with
    | none =>
      obtain ⟨i, v, h1, h2⟩ := ih (k + 1) q hq
      exact ⟨i + 1, v, by simpa using h1, by rw [h2]; simp [Nat.add_assoc, Nat.add_comm 1]⟩
    | some y =>
      rcases List.mem_cons.mp hq with h | h
      · exact ⟨0, y, rfl, by rw [h]; rfl⟩
      · obtain ⟨i, v, h1, h2⟩ := ih (k + 1) q h
        exact ⟨i + 1, v, by simpa using h1, by rw [h2]; simp [Nat.add_assoc, Nat.add_comm 1]⟩
theorem mi_lp_in {ad : Nat → Nat} : ∀ (ls : mL) (k i : Nat) (v : Value), ls[i]? = some (some v) → (k + i, mi_v ad v) ∈ mi_lp ad k ls := by
  intro ls
  induction ls with
  | nil => intro k i v h; simp at h
  | cons x r ih =>
    intro k i v h
    cases i with
    | zero =>
      simp only [List.getElem?_cons_zero, Option.some.injEq] at h
      subst h
      exact List.mem_cons_self
    | succ i =>
      have h1 := ih (k + 1) i v (by simpa using h)
      rw [show k + 1 + i = k + (i + 1) by omega] at h1
      cases x with
      | none => exact h1
      | some y => exact List.mem_cons_of_mem _ h1
theorem mi_lh.has {ad : Nat → Nat} {lr : Array Slot} {nL : Nat} {ls : mL} (h : mi_lh ad lr nL ls) : lv_has lr nL (mi_lp ad 0 ls) := by
  refine ⟨h.1, h.2.1, fun q hq => ?_⟩
  obtain ⟨i, v, h1, h2⟩ := mi_lp_of ls 0 q hq
  rw [h2]
  simpa using h.2.2.2 i v h1
theorem mi_s1_ok {ad : Nat → Nat} {nL : Nat} {ls l1 : mL} {i : Nat} {v : Value} (hn : ls.length = nL) (e : mi_s1 ls i v = some l1) : i < nL ∧ ∀ lr : Array Slot, lv_has lr nL ((i, mi_v ad v) :: (mi_lp ad 0 ls).filter (fun q => !(q.1 == i) && !(q.1 + 1 == i && q.2.category == 2))) → mi_lh ad lr nL l1 := by
  unfold mi_s1 at e
  cases hb : (Nat.blt i ls.length && mi_nl ls i) with
  | false => rw [hb] at e; cases e
  | true =>
    rw [hb] at e
    cases e
    rw [Bool.and_eq_true, Nat.blt_eq] at hb
    refine ⟨by omega, fun lr h => ⟨h.1, h.2.1, by rw [List.length_set]; exact hn, fun j u hj => ?_⟩⟩
    by_cases hij : i = j
    · subst hij
      rw [List.getElem?_set_self hb.1] at hj
      cases hj
      exact h.2.2 _ List.mem_cons_self
    · rw [List.getElem?_set_ne hij] at hj
      have h1 := mi_lp_in (ad := ad) ls 0 j u hj
      rw [Nat.zero_add] at h1
      refine h.2.2 _ (List.mem_cons_of_mem _ (List.mem_filter.mpr ⟨h1, ?_⟩))
      have h2 : ¬ (j + 1 = i ∧ u.category = 2) := by
        rintro ⟨rfl, hc⟩
        have h3 := hb.2
        simp [mi_nl, hj, hc] at h3
      simp only [mi_cat]
      have h4 : (j == i) = false := by simpa using Ne.symm hij
      rw [h4]
      simp only [Bool.not_false, Bool.true_and, Bool.not_eq_true', Bool.and_eq_false_iff, beq_eq_false_iff_ne, ne_eq]
      by_cases z : j + 1 = i
      · exact Or.inr (fun y => h2 ⟨z, y⟩)
      · exact Or.inl z
theorem mi_s2_ok {ad : Nat → Nat} {nL : Nat} {ls l1 : mL} {i : Nat} {v : Value} (hn : ls.length = nL) (e : mi_s2 ls i v = some l1) : i + 1 < nL ∧ ∀ lr : Array Slot, lv_has lr nL ((i, mi_v ad v) :: (mi_lp ad 0 ls).filter (fun q => !(q.1 == i) && (!(q.1 == i + 1) && !(q.1 + 1 == i && q.2.category == 2)))) → mi_lh ad lr nL l1 := by
  unfold mi_s2 at e
  cases hb : (Nat.blt (i + 1) ls.length && mi_nl ls i) with
  | false => rw [hb] at e; cases e
  | true =>
    rw [hb] at e
    cases e
    rw [Bool.and_eq_true, Nat.blt_eq] at hb
    refine ⟨by omega, fun lr h => ⟨h.1, h.2.1, by rw [List.length_set, List.length_set]; exact hn, fun j u hj => ?_⟩⟩
    by_cases hij1 : i + 1 = j
    · subst hij1
      rw [List.getElem?_set_self (by rw [List.length_set]; exact hb.1)] at hj
      cases hj
    · rw [List.getElem?_set_ne hij1] at hj
      by_cases hij : i = j
      · subst hij
        rw [List.getElem?_set_self (by omega)] at hj
        cases hj
        exact h.2.2 _ List.mem_cons_self
      · rw [List.getElem?_set_ne hij] at hj
        have h1 := mi_lp_in (ad := ad) ls 0 j u hj
        rw [Nat.zero_add] at h1
        refine h.2.2 _ (List.mem_cons_of_mem _ (List.mem_filter.mpr ⟨h1, ?_⟩))
        have h2 : ¬ (j + 1 = i ∧ u.category = 2) := by
          rintro ⟨rfl, hc⟩
          have h3 := hb.2
          simp [mi_nl, hj, hc] at h3
        simp only [mi_cat]
        have h4 : (j == i) = false := by simpa using Ne.symm hij
        have h5 : (j == i + 1) = false := by simpa using Ne.symm hij1
        rw [h4, h5]
        simp only [Bool.not_false, Bool.true_and, Bool.not_eq_true', Bool.and_eq_false_iff, beq_eq_false_iff_ne, ne_eq]
        by_cases z : j + 1 = i
        · exact Or.inr (fun y => h2 ⟨z, y⟩)
        · exact Or.inl z
def mi_len : Instr → Nat
  | .aload _ => 2
  | .astore _ => 2
  | .bipush _ => 2
  | .iload _ => 2
  | .istore _ => 2
  | .lload _ => 2
  | .lstore _ => 2
  | .ldc _ => 2
  | .newarray _ => 2
  | .getfield _ => 3
  | .putfield _ => 3
  | .goto _ => 3
  | .if_icmp _ _ => 3
  | .ifCond _ _ => 3
  | .iinc _ _ => 3
  | .invokespecial _ => 3
  | .invokestatic _ => 3
  | .invokevirtual _ => 3
  | .ldc_w _ => 3
  | .ldc2_w _ => 3
  | .new _ => 3
  | .sipush _ => 3
  | _ => 1
/-- what the constant and the target of an entry must be -/
def mi_V1 (i : Instr) (pc a : Nat) (w : Value) : Prop := match i with
  | .iconst n => w = .int (Int32.ofInt n)
  | .bipush n => w = .int (Int8.ofInt n).toInt32
  | .sipush n => w = .int (Int16.ofInt n).toInt32
  | .lconst n => w = .long (Int64.ofNat n.val)
  | .iinc _ n => w = .int (Int32.ofInt n)
  | .goto off => (pc : Int) + off = (a : Int)
  | .ifCond _ off => (pc : Int) + off = (a : Int)
  | .if_icmp _ off => (pc : Int) + off = (a : Int)
  | _ => True
theorem mi_ld_inv {nx k : Nat} {ok : Value → Bool} {ls : mL} {st : List Value} {x : mP} (e : mi_ld nx k ok ls st = some x) : ∃ v, ls[k]? = some (some v) ∧ ok v = true ∧ x = (nx, ls, v :: st) := by
  unfold mi_ld at e
  split at e
  · rename_i v hv
    cases hb : ok v with
    | false => rw [hb] at e; cases e
    | true => rw [hb] at e; cases e; exact ⟨v, hv, hb, rfl⟩
  · cases e
theorem mi_sv_inv {nx k : Nat} {ok : Value → Bool} {ls : mL} {st : List Value} {x : mP} (e : mi_sv nx k ok ls st = some x) : ∃ v r l1, st = v :: r ∧ ok v = true ∧ mi_s1 ls k v = some l1 ∧ x = (nx, l1, r) := by
  unfold mi_sv at e
  split at e
  · rename_i v r
    cases hb : ok v with
    | false => rw [hb] at e; cases e
    | true =>
      rw [hb] at e
      dsimp only [cond_true] at e
      split at e
      · rename_i l1 hl
        cases e
        exact ⟨v, r, l1, rfl, hb, hl, rfl⟩
      · cases e
  · cases e
theorem mi_sv2_inv {nx k : Nat} {ls : mL} {st : List Value} {x : mP} (e : mi_sv2 nx k ls st = some x) : ∃ v r l1, st = v :: r ∧ mi_isL v = true ∧ mi_s2 ls k v = some l1 ∧ x = (nx, l1, r) := by
  unfold mi_sv2 at e
  split at e
  · rename_i v r
    cases hb : mi_isL v with
    | false => rw [hb] at e; cases e
    | true =>
      rw [hb] at e
      dsimp only [cond_true] at e
      split at e
      · rename_i l1 hl
        cases e
        exact ⟨v, r, l1, rfl, hb, hl, rfl⟩
      · cases e
  · cases e
theorem mi_b1_inv {f : Int32 → Int32 → Int32} {nx : Nat} {ls : mL} {st : List Value} {x : mP} (e : mi_b1 f nx ls st = some x) : ∃ a b r, st = .int b :: .int a :: r ∧ x = (nx, ls, .int (f a b) :: r) := by
  unfold mi_b1 at e
  split at e
  · cases e; exact ⟨_, _, _, rfl, rfl⟩
  · cases e
theorem mi_b2_inv {f : Int64 → Int64 → Int64} {nx : Nat} {ls : mL} {st : List Value} {x : mP} (e : mi_b2 f nx ls st = some x) : ∃ a b r, st = .long b :: .long a :: r ∧ x = (nx, ls, .long (f a b) :: r) := by
  unfold mi_b2 at e
  split at e
  · cases e; exact ⟨_, _, _, rfl, rfl⟩
  · cases e
theorem mi_b3_inv {f : Int64 → Int32 → Int64} {nx : Nat} {ls : mL} {st : List Value} {x : mP} (e : mi_b3 f nx ls st = some x) : ∃ a b r, st = .int b :: .long a :: r ∧ x = (nx, ls, .long (f a b) :: r) := by
  unfold mi_b3 at e
  split at e
  · cases e; exact ⟨_, _, _, rfl, rfl⟩
  · cases e
theorem mi_d1_inv {f : Int32 → Int32 → Int32} {nx : Nat} {ls : mL} {st : List Value} {x : mP} (e : mi_d1 f nx ls st = some x) : ∃ a b r, st = .int b :: .int a :: r ∧ ¬ b = 0 ∧ x = (nx, ls, .int (f a b) :: r) := by
  unfold mi_d1 at e
  split at e
  · rename_i y x r
    by_cases h : y = 0
    · rw [decide_eq_true h] at e; cases e
    · rw [decide_eq_false h] at e; cases e; exact ⟨_, _, _, rfl, h, rfl⟩
  · cases e
theorem mi_d2_inv {f : Int64 → Int64 → Int64} {nx : Nat} {ls : mL} {st : List Value} {x : mP} (e : mi_d2 f nx ls st = some x) : ∃ a b r, st = .long b :: .long a :: r ∧ ¬ b = 0 ∧ x = (nx, ls, .long (f a b) :: r) := by
  unfold mi_d2 at e
  split at e
  · rename_i y x r
    by_cases h : y = 0
    · rw [decide_eq_true h] at e; cases e
    · rw [decide_eq_false h] at e; cases e; exact ⟨_, _, _, rfl, h, rfl⟩
  · cases e
theorem mi_u1_inv {f : Int32 → Value} {nx : Nat} {ls : mL} {st : List Value} {x : mP} (e : mi_u1 f nx ls st = some x) : ∃ a r, st = .int a :: r ∧ x = (nx, ls, f a :: r) := by
  unfold mi_u1 at e
  split at e
  · cases e; exact ⟨_, _, rfl, rfl⟩
  · cases e
theorem mi_u2_inv {f : Int64 → Value} {nx : Nat} {ls : mL} {st : List Value} {x : mP} (e : mi_u2 f nx ls st = some x) : ∃ a r, st = .long a :: r ∧ x = (nx, ls, f a :: r) := by
  unfold mi_u2 at e
  split at e
  · cases e; exact ⟨_, _, rfl, rfl⟩
  · cases e
theorem mi_is1_eq {v : Value} (h : mi_is1 v = true) : v.category = 1 := Nat.eq_of_beq_eq_true h
section SIM
variable {p : Program} {l : Launch} {ev : Env} {R : Room} {s : State} {m : MethodId} {args : Array Value} {below : List Frame} {meth : Method} {c : Code} {H : Heap} {locs : List Loc} {cells slots : Nat} {Q : State → Prop}
variable {cc : ByteArray} {nL : Nat} {ad : Nat → Nat}
def mi_Wp (p : Program) (l : Launch) (ev : Env) (R : Room) (s : State) (m : MethodId) (args : Array Value) (below : List Frame) (meth : Method) (c : Code) (H : Heap) (locs : List Loc) (cells slots : Nat) (Q : State → Prop) (nL : Nat) (ad : Nat → Nat) (x : mP) : Prop :=
  ∀ lr : Array Slot, mi_lh ad lr nL x.2.1 → W p l ev R s m args below meth c H locs cells slots Q (F0 m x.1 lr (x.2.2.map (mi_v ad)))
variable {pc nx a : Nat} {i : Instr} {w : Value} {ls : mL} {st : List Value} {x : mP}
theorem mi_pl_ld (hx : ∃ v, ls[a]? = some (some v) ∧ mi_isI v = true ∧ x = (nx, ls, v :: st)) (row : ∀ {lr : Array Slot} {y : Int32}, lr[a]? = some (.val (.int y)) → W p l ev R s m args below meth c H locs cells slots Q (F0 m nx lr (.int y :: st.map (mi_v ad))) → W p l ev R s m args below meth c H locs cells slots Q (F0 m pc lr (st.map (mi_v ad)))) (k : mi_Wp p l ev R s m args below meth c H locs cells slots Q nL ad x) : mi_Wp p l ev R s m args below meth c H locs cells slots Q nL ad (pc, ls, st) := by
  obtain ⟨v, h1, h2, rfl⟩ := hx
  intro lr hl
  cases v with
  | int y => exact row (hl.2.2.2 _ _ h1) (k lr hl)
  | _ => simp [mi_isI] at h2
theorem mi_pl_ldL (hx : ∃ v, ls[a]? = some (some v) ∧ mi_isL v = true ∧ x = (nx, ls, v :: st)) (row : ∀ {lr : Array Slot} {y : Int64}, lr[a]? = some (.val (.long y)) → W p l ev R s m args below meth c H locs cells slots Q (F0 m nx lr (.long y :: st.map (mi_v ad))) → W p l ev R s m args below meth c H locs cells slots Q (F0 m pc lr (st.map (mi_v ad)))) (k : mi_Wp p l ev R s m args below meth c H locs cells slots Q nL ad x) : mi_Wp p l ev R s m args below meth c H locs cells slots Q nL ad (pc, ls, st) := by
  obtain ⟨v, h1, h2, rfl⟩ := hx
  intro lr hl
  cases v with
  | long y => exact row (hl.2.2.2 _ _ h1) (k lr hl)
  | _ => simp [mi_isL] at h2
theorem mi_pl_ldA (hx : ∃ v, ls[a]? = some (some v) ∧ mi_isA v = true ∧ x = (nx, ls, v :: st)) (row : ∀ {lr : Array Slot} {y : Nat}, lr[a]? = some (.val (.ref y)) → W p l ev R s m args below meth c H locs cells slots Q (F0 m nx lr (.ref y :: st.map (mi_v ad))) → W p l ev R s m args below meth c H locs cells slots Q (F0 m pc lr (st.map (mi_v ad)))) (k : mi_Wp p l ev R s m args below meth c H locs cells slots Q nL ad x) : mi_Wp p l ev R s m args below meth c H locs cells slots Q nL ad (pc, ls, st) := by
  obtain ⟨v, h1, h2, rfl⟩ := hx
  intro lr hl
  cases v with
  | ref y => exact row (hl.2.2.2 _ _ h1) (k lr hl)
  | _ => simp [mi_isA] at h2
theorem mi_pl_svI (hx : ∃ v r l1, st = v :: r ∧ mi_isI v = true ∧ mi_s1 ls a v = some l1 ∧ x = (nx, l1, r)) (row : ∀ {lr : Array Slot} {y : Int32} {rest : List Value} {lv lv' : List (Nat × Value)}, lv_has lr nL lv → a < nL → (a, Value.int y) :: lv.filter (fun q => !(q.1 == a) && !(q.1 + 1 == a && q.2.category == 2)) = lv' → (∀ lr' : Array Slot, lv_has lr' nL lv' → W p l ev R s m args below meth c H locs cells slots Q (F0 m nx lr' rest)) → W p l ev R s m args below meth c H locs cells slots Q (F0 m pc lr (.int y :: rest))) (k : mi_Wp p l ev R s m args below meth c H locs cells slots Q nL ad x) : mi_Wp p l ev R s m args below meth c H locs cells slots Q nL ad (pc, ls, st) := by
  obtain ⟨v, r, l1, rfl, h2, h3, rfl⟩ := hx
  intro lr hl
  cases v with
  | int y =>
    obtain ⟨g1, g2⟩ := mi_s1_ok (ad := ad) hl.2.2.1 h3
    exact row hl.has g1 rfl (fun lr' h' => k lr' (g2 lr' h'))
  | _ => simp [mi_isI] at h2
theorem mi_pl_svA (hx : ∃ v r l1, st = v :: r ∧ mi_isA v = true ∧ mi_s1 ls a v = some l1 ∧ x = (nx, l1, r)) (row : ∀ {lr : Array Slot} {y : Nat} {rest : List Value} {lv lv' : List (Nat × Value)}, lv_has lr nL lv → a < nL → (a, Value.ref y) :: lv.filter (fun q => !(q.1 == a) && !(q.1 + 1 == a && q.2.category == 2)) = lv' → (∀ lr' : Array Slot, lv_has lr' nL lv' → W p l ev R s m args below meth c H locs cells slots Q (F0 m nx lr' rest)) → W p l ev R s m args below meth c H locs cells slots Q (F0 m pc lr (.ref y :: rest))) (k : mi_Wp p l ev R s m args below meth c H locs cells slots Q nL ad x) : mi_Wp p l ev R s m args below meth c H locs cells slots Q nL ad (pc, ls, st) := by
  obtain ⟨v, r, l1, rfl, h2, h3, rfl⟩ := hx
  intro lr hl
  cases v with
  | ref y =>
    obtain ⟨g1, g2⟩ := mi_s1_ok (ad := ad) hl.2.2.1 h3
    exact row hl.has g1 rfl (fun lr' h' => k lr' (g2 lr' h'))
  | _ => simp [mi_isA] at h2
theorem mi_pl_svL (hx : ∃ v r l1, st = v :: r ∧ mi_isL v = true ∧ mi_s2 ls a v = some l1 ∧ x = (nx, l1, r)) (row : ∀ {lr : Array Slot} {y : Int64} {rest : List Value} {lv lv' : List (Nat × Value)}, lv_has lr nL lv → a + 1 < nL → (a, Value.long y) :: lv.filter (fun q => !(q.1 == a) && (!(q.1 == a + 1) && !(q.1 + 1 == a && q.2.category == 2))) = lv' → (∀ lr' : Array Slot, lv_has lr' nL lv' → W p l ev R s m args below meth c H locs cells slots Q (F0 m nx lr' rest)) → W p l ev R s m args below meth c H locs cells slots Q (F0 m pc lr (.long y :: rest))) (k : mi_Wp p l ev R s m args below meth c H locs cells slots Q nL ad x) : mi_Wp p l ev R s m args below meth c H locs cells slots Q nL ad (pc, ls, st) := by
  obtain ⟨v, r, l1, rfl, h2, h3, rfl⟩ := hx
  intro lr hl
  cases v with
  | long y =>
    obtain ⟨g1, g2⟩ := mi_s2_ok (ad := ad) hl.2.2.1 h3
    exact row hl.has g1 rfl (fun lr' h' => k lr' (g2 lr' h'))
  | _ => simp [mi_isL] at h2
set_option maxHeartbeats 4000000 in
/-- an instruction that looks at no cell -/
theorem mi_pl_ok (hexec : p.tables.exec = Jvm.exec) (hb : c.code = cc) (V : decode cc pc = .ok (i, mi_len i) ∨ ∃ d lo hi offs, i = .tableswitch d lo hi offs ∧ ∃ len, decode cc pc = .ok (i, len)) (hnx : nx = pc + mi_len i ∨ ∃ d lo hi offs, i = .tableswitch d lo hi offs) (hV1 : mi_V1 i pc a w)
    (hlc : (∃ k, i = .ldc k ∨ i = .ldc_w k ∨ i = .ldc2_w k) → ∀ (lr : Array Slot) (rest : List Value), W p l ev R s m args below meth c H locs cells slots Q (F0 m nx lr (mi_v ad w :: rest)) → W p l ev R s m args below meth c H locs cells slots Q (F0 m pc lr rest))
    (e : mi_pl i pc nx a w ls st = some x) (k : mi_Wp p l ev R s m args below meth c H locs cells slots Q nL ad x) : mi_Wp p l ev R s m args below meth c H locs cells slots Q nL ad (pc, ls, st) := by
  have hV : (∀ d lo hi offs, i ≠ .tableswitch d lo hi offs) → decode cc pc = .ok (i, mi_len i) ∧ nx = pc + mi_len i := by
    intro hne
    refine ⟨?_, ?_⟩
    · rcases V with h | ⟨d, lo, hi, offs, h, -⟩
      · exact h
      · exact absurd h (hne d lo hi offs)
    · rcases hnx with h | ⟨d, lo, hi, offs, h⟩
      · exact h
      · exact absurd h (hne d lo hi offs)
  unfold mi_pl at e
  split at e
  -- iconst
  · obtain ⟨V, rfl⟩ := hV (by intros; exact Instr.noConfusion)
    cases e
    have hV1 : w = _ := hV1
    subst hV1
    exact fun lr hl => lv_iconst hexec hb V rfl (k lr hl)
  -- bipush
  · obtain ⟨V, rfl⟩ := hV (by intros; exact Instr.noConfusion)
    cases e
    have hV1 : w = _ := hV1
    subst hV1
    exact fun lr hl => lv_bipush hexec hb V rfl (k lr hl)
  -- sipush
  · obtain ⟨V, rfl⟩ := hV (by intros; exact Instr.noConfusion)
    cases e
    have hV1 : w = _ := hV1
    subst hV1
    exact fun lr hl => lv_sipush hexec hb V rfl (k lr hl)
  -- lconst
  · obtain ⟨V, rfl⟩ := hV (by intros; exact Instr.noConfusion)
    cases e
    have hV1 : w = _ := hV1
    subst hV1
    exact fun lr hl => lv_lconst hexec hb V rfl (k lr hl)
  -- ldc, ldc_w, ldc2_w
  · cases e
    exact fun lr hl => hlc ⟨_, Or.inl rfl⟩ lr _ (k lr hl)
  · cases e
    exact fun lr hl => hlc ⟨_, Or.inr (Or.inl rfl)⟩ lr _ (k lr hl)
  · cases e
    exact fun lr hl => hlc ⟨_, Or.inr (Or.inr rfl)⟩ lr _ (k lr hl)
  -- loads
  · obtain ⟨V, rfl⟩ := hV (by intros; exact Instr.noConfusion)
    exact mi_pl_ld (mi_ld_inv e) (fun h1 h2 => lv_iload hexec hb V h1 h2) k
  · obtain ⟨V, rfl⟩ := hV (by intros; exact Instr.noConfusion)
    exact mi_pl_ld (mi_ld_inv e) (fun h1 h2 => lv_iload_n hexec hb V rfl h1 h2) k
  · obtain ⟨V, rfl⟩ := hV (by intros; exact Instr.noConfusion)
    exact mi_pl_ldL (mi_ld_inv e) (fun h1 h2 => lv_lload hexec hb V h1 h2) k
  · obtain ⟨V, rfl⟩ := hV (by intros; exact Instr.noConfusion)
    exact mi_pl_ldL (mi_ld_inv e) (fun h1 h2 => lv_lload_n hexec hb V rfl h1 h2) k
  · obtain ⟨V, rfl⟩ := hV (by intros; exact Instr.noConfusion)
    exact mi_pl_ldA (mi_ld_inv e) (fun h1 h2 => lv_aload hexec hb V h1 h2) k
  · obtain ⟨V, rfl⟩ := hV (by intros; exact Instr.noConfusion)
    exact mi_pl_ldA (mi_ld_inv e) (fun h1 h2 => lv_aload_n hexec hb V rfl h1 h2) k
  -- stores
  · obtain ⟨V, rfl⟩ := hV (by intros; exact Instr.noConfusion)
    exact mi_pl_svI (mi_sv_inv e) (fun h1 h2 h3 h4 => lv_istore hexec hb V h1 h2 h3 h4) k
  · obtain ⟨V, rfl⟩ := hV (by intros; exact Instr.noConfusion)
    exact mi_pl_svI (mi_sv_inv e) (fun h1 h2 h3 h4 => lv_istore_n hexec hb V rfl h1 h2 h3 h4) k
  · obtain ⟨V, rfl⟩ := hV (by intros; exact Instr.noConfusion)
    exact mi_pl_svA (mi_sv_inv e) (fun h1 h2 h3 h4 => lv_astore hexec hb V h1 h2 h3 h4) k
  · obtain ⟨V, rfl⟩ := hV (by intros; exact Instr.noConfusion)
    exact mi_pl_svA (mi_sv_inv e) (fun h1 h2 h3 h4 => lv_astore_n hexec hb V rfl h1 h2 h3 h4) k
  · obtain ⟨V, rfl⟩ := hV (by intros; exact Instr.noConfusion)
    exact mi_pl_svL (mi_sv2_inv e) (fun h1 h2 h3 h4 => lv_lstore hexec hb V h1 h2 h3 h4) k
  · obtain ⟨V, rfl⟩ := hV (by intros; exact Instr.noConfusion)
    exact mi_pl_svL (mi_sv2_inv e) (fun h1 h2 h3 h4 => lv_lstore_n hexec hb V rfl h1 h2 h3 h4) k
  -- iinc
  · obtain ⟨V, rfl⟩ := hV (by intros; exact Instr.noConfusion)
    split at e
    · rename_i y z hy
      split at e
      · rename_i l1 hl1
        cases e
        have hV1 : Value.int z = _ := hV1
        cases hV1
        intro lr hl
        obtain ⟨g1, g2⟩ := mi_s1_ok (ad := ad) hl.2.2.1 hl1
        have hm := mi_lp_in (ad := ad) ls 0 _ _ hy
        obtain ⟨j, hj⟩ := List.getElem?_of_mem hm
        rw [Nat.zero_add] at hj
        exact lv_iinc hexec hb V hl.has hj rfl g1 rfl (fun lr' h' => k lr' (g2 lr' h'))
      · cases e
    · cases e
  -- two ints
  · obtain ⟨V, rfl⟩ := hV (by intros; exact Instr.noConfusion)
    obtain ⟨a, b, r, rfl, rfl⟩ := mi_b1_inv e
    exact fun lr hl => lv_iadd hexec hb V (k lr hl)
  · obtain ⟨V, rfl⟩ := hV (by intros; exact Instr.noConfusion)
    obtain ⟨a, b, r, rfl, rfl⟩ := mi_b1_inv e
    exact fun lr hl => lv_isub hexec hb V (k lr hl)
  · obtain ⟨V, rfl⟩ := hV (by intros; exact Instr.noConfusion)
    obtain ⟨a, b, r, rfl, rfl⟩ := mi_b1_inv e
    exact fun lr hl => lv_imul hexec hb V (k lr hl)
  · obtain ⟨V, rfl⟩ := hV (by intros; exact Instr.noConfusion)
    obtain ⟨a, b, r, rfl, rfl⟩ := mi_b1_inv e
    exact fun lr hl => lv_iand hexec hb V (k lr hl)
  · obtain ⟨V, rfl⟩ := hV (by intros; exact Instr.noConfusion)
    obtain ⟨a, b, r, rfl, rfl⟩ := mi_b1_inv e
    exact fun lr hl => lv_ior hexec hb V (k lr hl)
  · obtain ⟨V, rfl⟩ := hV (by intros; exact Instr.noConfusion)
    obtain ⟨a, b, r, rfl, rfl⟩ := mi_b1_inv e
    exact fun lr hl => lv_ixor hexec hb V (k lr hl)
  · obtain ⟨V, rfl⟩ := hV (by intros; exact Instr.noConfusion)
    obtain ⟨a, b, r, rfl, rfl⟩ := mi_b1_inv e
    exact fun lr hl => lv_ishl hexec hb V (k lr hl)
  · obtain ⟨V, rfl⟩ := hV (by intros; exact Instr.noConfusion)
    obtain ⟨a, b, r, rfl, rfl⟩ := mi_b1_inv e
    exact fun lr hl => lv_ishr hexec hb V (k lr hl)
  · obtain ⟨V, rfl⟩ := hV (by intros; exact Instr.noConfusion)
    obtain ⟨a, b, r, rfl, h0, rfl⟩ := mi_d1_inv e
    exact fun lr hl => lv_idiv hexec hb V h0 (k lr hl)
  · obtain ⟨V, rfl⟩ := hV (by intros; exact Instr.noConfusion)
    obtain ⟨a, b, r, rfl, h0, rfl⟩ := mi_d1_inv e
    exact fun lr hl => lv_irem hexec hb V h0 (k lr hl)
  -- one
  · obtain ⟨V, rfl⟩ := hV (by intros; exact Instr.noConfusion)
    obtain ⟨a, r, rfl, rfl⟩ := mi_u1_inv e
    exact fun lr hl => lv_ineg hexec hb V (k lr hl)
  · obtain ⟨V, rfl⟩ := hV (by intros; exact Instr.noConfusion)
    obtain ⟨a, r, rfl, rfl⟩ := mi_u1_inv e
    exact fun lr hl => lv_i2l hexec hb V rfl (k lr hl)
  · obtain ⟨V, rfl⟩ := hV (by intros; exact Instr.noConfusion)
    obtain ⟨a, r, rfl, rfl⟩ := mi_u1_inv e
    exact fun lr hl => lv_i2c hexec hb V rfl (k lr hl)
  · obtain ⟨V, rfl⟩ := hV (by intros; exact Instr.noConfusion)
    obtain ⟨a, r, rfl, rfl⟩ := mi_u2_inv e
    exact fun lr hl => lv_l2i hexec hb V rfl (k lr hl)
  -- two longs
  · obtain ⟨V, rfl⟩ := hV (by intros; exact Instr.noConfusion)
    obtain ⟨a, b, r, rfl, rfl⟩ := mi_b2_inv e
    exact fun lr hl => lv_ladd hexec hb V (k lr hl)
  · obtain ⟨V, rfl⟩ := hV (by intros; exact Instr.noConfusion)
    obtain ⟨a, b, r, rfl, rfl⟩ := mi_b2_inv e
    exact fun lr hl => lv_lsub hexec hb V (k lr hl)
  · obtain ⟨V, rfl⟩ := hV (by intros; exact Instr.noConfusion)
    obtain ⟨a, b, r, rfl, rfl⟩ := mi_b2_inv e
    exact fun lr hl => lv_lmul hexec hb V (k lr hl)
  · obtain ⟨V, rfl⟩ := hV (by intros; exact Instr.noConfusion)
    obtain ⟨a, b, r, rfl, rfl⟩ := mi_b2_inv e
    exact fun lr hl => lv_land hexec hb V (k lr hl)
  · obtain ⟨V, rfl⟩ := hV (by intros; exact Instr.noConfusion)
    obtain ⟨a, b, r, rfl, rfl⟩ := mi_b2_inv e
    exact fun lr hl => lv_lor hexec hb V (k lr hl)
  · obtain ⟨V, rfl⟩ := hV (by intros; exact Instr.noConfusion)
    obtain ⟨a, b, r, rfl, h0, rfl⟩ := mi_d2_inv e
    exact fun lr hl => lv_ldiv hexec hb V h0 (k lr hl)
  · obtain ⟨V, rfl⟩ := hV (by intros; exact Instr.noConfusion)
    obtain ⟨a, b, r, rfl, h0, rfl⟩ := mi_d2_inv e
    exact fun lr hl => lv_lrem hexec hb V h0 (k lr hl)
  · obtain ⟨V, rfl⟩ := hV (by intros; exact Instr.noConfusion)
    obtain ⟨a, b, r, rfl, rfl⟩ := mi_b3_inv e
    exact fun lr hl => lv_lshl hexec hb V rfl (k lr hl)
  · obtain ⟨V, rfl⟩ := hV (by intros; exact Instr.noConfusion)
    obtain ⟨a, b, r, rfl, rfl⟩ := mi_b3_inv e
    exact fun lr hl => lv_lshr hexec hb V rfl (k lr hl)
  -- lcmp
  · obtain ⟨V, rfl⟩ := hV (by intros; exact Instr.noConfusion)
    split at e
    · cases e
      exact fun lr hl => W.lcmp hexec hb V (k lr hl)
    · cases e
  -- dup
  · obtain ⟨V, rfl⟩ := hV (by intros; exact Instr.noConfusion)
    split at e
    · rename_i v r
      cases h1 : mi_is1 v with
      | false => rw [h1] at e; cases e
      | true =>
        rw [h1] at e
        cases e
        exact fun lr hl => lv_dup hexec hb V (by rw [mi_cat]; exact mi_is1_eq h1) (k lr hl)
    · cases e
  -- pop
  · obtain ⟨V, rfl⟩ := hV (by intros; exact Instr.noConfusion)
    split at e
    · rename_i v r
      cases h1 : mi_is1 v with
      | false => rw [h1] at e; cases e
      | true =>
        rw [h1] at e
        cases e
        exact fun lr hl => lv_pop hexec hb V (by rw [mi_cat]; exact mi_is1_eq h1) (k lr hl)
    · cases e
  -- dup_x1
  · obtain ⟨V, rfl⟩ := hV (by intros; exact Instr.noConfusion)
    split at e
    · rename_i v u r
      cases h1 : (mi_is1 v && mi_is1 u) with
      | false => rw [h1] at e; cases e
      | true =>
        rw [h1] at e
        cases e
        rw [Bool.and_eq_true] at h1
        exact fun lr hl => lv_dup_x1 hexec hb V (by rw [mi_cat]; exact mi_is1_eq h1.1) (by rw [mi_cat]; exact mi_is1_eq h1.2) (k lr hl)
    · cases e
  -- dup_x2
  · obtain ⟨V, rfl⟩ := hV (by intros; exact Instr.noConfusion)
    split at e
    · rename_i v u t r
      cases h1 : (mi_is1 v && (mi_is1 u && mi_is1 t)) with
      | false => rw [h1] at e; cases e
      | true =>
        rw [h1] at e
        cases e
        rw [Bool.and_eq_true, Bool.and_eq_true] at h1
        exact fun lr hl => lv_dup_x2 hexec hb V (by rw [mi_cat]; exact mi_is1_eq h1.1) (by rw [mi_cat]; exact mi_is1_eq h1.2.1) (by rw [mi_cat]; exact mi_is1_eq h1.2.2) (k lr hl)
    · cases e
  -- dup2
  · obtain ⟨V, rfl⟩ := hV (by intros; exact Instr.noConfusion)
    split at e
    · rename_i v u r
      cases h1 : (mi_is1 v && mi_is1 u) with
      | false => rw [h1] at e; cases e
      | true =>
        rw [h1] at e
        cases e
        rw [Bool.and_eq_true] at h1
        exact fun lr hl => lv_dup2_11 hexec hb V (by rw [mi_cat]; exact mi_is1_eq h1.1) (by rw [mi_cat]; exact mi_is1_eq h1.2) (k lr hl)
    · cases e
  -- goto
  · obtain ⟨V, rfl⟩ := hV (by intros; exact Instr.noConfusion)
    cases e
    exact fun lr hl => lv_goto hexec hb V hV1 (k lr hl)
  -- ifCond
  · rename_i cd off
    obtain ⟨V, rfl⟩ := hV (by intros; exact Instr.noConfusion)
    split at e
    · rename_i y r
      cases e
      intro lr hl
      have k1 := k lr hl
      dsimp only at k1
      cases cd with
      | eq =>
        refine lv_if_eq hexec hb V hV1 (fun h => ?_) (fun h => ?_)
        · simp only [mi_c0, decide_eq_true h, cond_true] at k1; exact k1
        · simp only [mi_c0, decide_eq_false h, cond_false] at k1; exact k1
      | ne =>
        refine lv_if_ne hexec hb V hV1 (fun h => ?_) (fun h => ?_)
        · simp only [mi_c0, decide_eq_true h, cond_true] at k1; exact k1
        · simp only [mi_c0, decide_eq_false (show ¬ ¬ y = 0 from fun q => q h), cond_false] at k1; exact k1
      | lt =>
        refine lv_if_lt hexec hb V hV1 (fun h => ?_) (fun h => ?_)
        · simp only [mi_c0, decide_eq_true h, cond_true] at k1; exact k1
        · simp only [mi_c0, decide_eq_false h, cond_false] at k1; exact k1
      | ge =>
        refine lv_if_ge hexec hb V hV1 (fun h => ?_) (fun h => ?_)
        · simp only [mi_c0, decide_eq_true h, cond_true] at k1; exact k1
        · simp only [mi_c0, decide_eq_false h, cond_false] at k1; exact k1
      | gt =>
        refine lv_if_gt hexec hb V hV1 (fun h => ?_) (fun h => ?_)
        · simp only [mi_c0, decide_eq_true h, cond_true] at k1; exact k1
        · simp only [mi_c0, decide_eq_false h, cond_false] at k1; exact k1
      | le =>
        refine lv_if_le hexec hb V hV1 (fun h => ?_) (fun h => ?_)
        · simp only [mi_c0, decide_eq_true h, cond_true] at k1; exact k1
        · simp only [mi_c0, decide_eq_false h, cond_false] at k1; exact k1
    · cases e
  -- if_icmp
  · rename_i cd off
    obtain ⟨V, rfl⟩ := hV (by intros; exact Instr.noConfusion)
    split at e
    · rename_i y z r
      cases e
      intro lr hl
      have k1 := k lr hl
      dsimp only at k1
      cases cd with
      | eq =>
        refine lv_icmp_eq hexec hb V hV1 (fun h => ?_) (fun h => ?_)
        · simp only [mi_c2, decide_eq_true h, cond_true] at k1; exact k1
        · simp only [mi_c2, decide_eq_false h, cond_false] at k1; exact k1
      | ne =>
        refine lv_icmp_ne hexec hb V hV1 (fun h => ?_) (fun h => ?_)
        · simp only [mi_c2, decide_eq_true h, cond_true] at k1; exact k1
        · simp only [mi_c2, decide_eq_false (show ¬ ¬ z = y from fun q => q h), cond_false] at k1; exact k1
      | lt =>
        refine lv_icmp_lt hexec hb V hV1 (fun h => ?_) (fun h => ?_)
        · simp only [mi_c2, decide_eq_true h, cond_true] at k1; exact k1
        · simp only [mi_c2, decide_eq_false h, cond_false] at k1; exact k1
      | ge =>
        refine lv_icmp_ge hexec hb V hV1 (fun h => ?_) (fun h => ?_)
        · simp only [mi_c2, decide_eq_true h, cond_true] at k1; exact k1
        · simp only [mi_c2, decide_eq_false h, cond_false] at k1; exact k1
      | gt =>
        refine lv_icmp_gt hexec hb V hV1 (fun h => ?_) (fun h => ?_)
        · simp only [mi_c2, decide_eq_true h, cond_true] at k1; exact k1
        · simp only [mi_c2, decide_eq_false h, cond_false] at k1; exact k1
      | le =>
        refine lv_icmp_le hexec hb V hV1 (fun h => ?_) (fun h => ?_)
        · simp only [mi_c2, decide_eq_true h, cond_true] at k1; exact k1
        · simp only [mi_c2, decide_eq_false h, cond_false] at k1; exact k1
    · cases e
  -- tableswitch
  · rename_i d0 lo0 hi0 offs0
    have V : ∃ len, decode cc pc = .ok (Instr.tableswitch d0 lo0 hi0 offs0, len) := by
      rcases V with h | ⟨d, lo, hi, offs, -, h⟩
      · exact ⟨_, h⟩
      · exact h
    obtain ⟨len, V⟩ := V
    split at e
    · rename_i y r
      split at e
      · rename_i off ho
        split at e
        · rename_i t ht
          cases e
          intro lr hl
          have k1 := k lr hl
          dsimp only at k1
          have ht2 : (pc : Int) + off = (t : Int) := by
            unfold mi_tgt at ht
            split at ht
            · rename_i t2 h2
              cases ht
              exact h2
            · cases ht
          unfold mi_sw at ho
          cases hc : (decide (y.toInt < lo0) || decide (hi0 < y.toInt)) with
          | true =>
            rw [hc] at ho
            cases ho
            refine lv_tableOut hexec hb V ?_ ht2 k1
            simpa using hc
          | false =>
            rw [hc] at ho
            rw [Bool.or_eq_false_iff, decide_eq_false_iff_not, decide_eq_false_iff_not] at hc
            exact lv_tableIn hexec hb V hc.1 hc.2 ho ht2 k1
        · cases e
      · cases e
    · cases e
  · cases e
end SIM
