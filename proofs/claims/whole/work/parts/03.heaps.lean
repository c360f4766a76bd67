/-! Two kinds of heap for the mini: a list of cells, and (its shape being fixed) two functions; the second is a picture of the first. -/
def mi_in (i : Int32) (n : Nat) : Bool := !(decide (i < 0)) && Nat.blt i.toNatClampNeg n
def mi_fits (k : Nat) (v : Value) : Bool := match v with
  | .int _ => Nat.beq k 0
  | .long _ => Nat.beq k 1
  | .ref _ => Nat.beq k 2
  | _ => false
def mi_dv (k : Nat) : Value := bif Nat.beq k 0 then .int 0 else bif Nat.beq k 1 then .long 0 else .null
def mi_nar (t : Nat) (x : Int32) : Int32 := bif Nat.beq t 0 then x else bif Nat.beq t 1 then vp_nar .char x else vp_nar .boolean x
def mi_gf1 (ci f a : Nat) (h : mH) : Option Value := match h[a]? with
  | some (.inr (c, fs)) => bif Nat.beq c ci then fs[f]? else none
  | _ => none
def mi_pf1 (F : List (List Nat)) (ci f a : Nat) (v : Value) (h : mH) : Option mH := match h[a]? with
  | some (.inr (c, fs)) => bif Nat.beq c ci && (Nat.blt f fs.length && mi_fits ((F.getD ci []).getD f 9) v) then some (h.set a (.inr (c, fs.set f v))) else none
  | _ => none
def mi_ld1 (X : Nat × (Nat → Int32)) (t a : Nat) (i : Int32) (h : mH) : Option Value := bif Nat.beq a 999 then (bif Nat.beq t 0 && mi_in i X.1 then some (.int (X.2 i.toNatClampNeg)) else none) else match h[a]? with
  | some (.inl (u, n, .inl f)) => bif Nat.beq u t && (Nat.blt t 3 && mi_in i n) then some (.int (f i.toNatClampNeg)) else none
  | some (.inl (u, n, .inr (.inl f))) => bif Nat.beq u t && (Nat.beq t 3 && mi_in i n) then some (.long (f i.toNatClampNeg)) else none
  | _ => none
def mi_sa1 (t a : Nat) (i : Int32) (v : Value) (h : mH) : Option mH := match h[a]? with
  | some (.inl (u, n, .inl f)) => (match v with
    | .int x => bif Nat.beq u t && (Nat.blt t 3 && mi_in i n) then some (h.set a (.inl (u, n, .inl (upd f i.toNatClampNeg (mi_nar t x))))) else none
    | _ => none)
  | some (.inl (u, n, .inr (.inl f))) => (match v with
    | .long x => bif Nat.beq u t && (Nat.beq t 3 && mi_in i n) then some (h.set a (.inl (u, n, .inr (.inl (vp_updL f i.toNatClampNeg x))))) else none
    | _ => none)
  | _ => none
def mi_ln1 (X : Nat × (Nat → Int32)) (a : Nat) (h : mH) : Option Int32 := bif Nat.beq a 999 then some (Int32.ofNat X.1) else match h[a]? with
  | some (.inl (u, n, _)) => bif Nat.blt u 4 then some (Int32.ofNat n) else none
  | _ => none
def mi_nw1 (F : List (List Nat)) (ci : Nat) (h : mH) : Option (Nat × mH) := match F[ci]? with
  | some ks => bif Nat.blt h.length 900 then some (h.length, h ++ [.inr (ci, ks.map mi_dv)]) else none
  | none => none
def mi_na1 (t : Nat) (n : Int32) (h : mH) : Option (Nat × mH) := bif Nat.blt t 4 && (!(decide (n < 0)) && (Nat.ble n.toNatClampNeg 1000 && Nat.blt h.length 900)) then some (h.length, h ++ [.inl (t, n.toNatClampNeg, bif Nat.beq t 3 then .inr (.inl (fun _ => 0)) else .inl (fun _ => 0))]) else none
def mi_is1' (c q : Nat) (h : mH) : Bool := match h[q]? with
  | some (.inr (ci, _)) => Nat.beq ci c
  | _ => false
def mi_cq (x y n : Int32) (n0 n1 : Nat) : Bool := !(decide (x < 0)) && (!(decide (y < 0)) && (!(decide (n < 0)) && (Nat.ble (x.toNatClampNeg + n.toNatClampNeg) n0 && Nat.ble (y.toNatClampNeg + n.toNatClampNeg) n1)))
def mi_fc (f : Nat → Int32) (k n : Nat) : Bool := (List.range n).all (fun i => fits .char (.int (f (k + i))))
def mi_cp1 (a : Nat) (x : Int32) (b : Nat) (y n : Int32) (h : mH) : Option mH := match h[a]? with
  | some (.inl (u, n0, .inl f)) => (match h[b]? with
    | some (.inl (v, n1, .inl g)) => bif Nat.beq u 1 && (Nat.beq v 1 && (mi_cq x y n n0 n1 && mi_fc f x.toNatClampNeg n.toNatClampNeg)) then some (h.set b (.inl (v, n1, .inl (va_cpy f g x.toNatClampNeg y.toNatClampNeg n.toNatClampNeg)))) else none
    | _ => none)
  | _ => none
def mi_O1 (F : List (List Nat)) (X : Nat × (Nat → Int32)) : mOp mH := (mi_gf1, mi_pf1 F, mi_ld1 X, mi_sa1, mi_ln1 X, mi_nw1 F, mi_na1, mi_is1')
def mi_lit (L : List (List Int32)) (a : Nat) : Option (List Int32) := bif Nat.ble 1000 a then L[a - 1000]? else none
def mi_min (x y : Int32) : Int32 := if y < x then y else x
/-- Object.<init>, Math.min, System.arraycopy, String.length, String.charAt -/
def mi_pr {α : Type} (L : List (List Int32)) (cp : Nat → Int32 → Nat → Int32 → Int32 → α → Option α) (j : Nat) (as : List Value) (h : α) : Option (mA α) := bif Nat.beq j 1000 then (match as with
    | [.ref _] => some (none, h)
    | _ => none)
  else bif Nat.beq j 1001 then (match as with
    | [.int x, .int y] => some (some (.int (mi_min x y)), h)
    | _ => none)
  else bif Nat.beq j 1002 then (match as with
    | [.ref a, .int x, .ref b, .int y, .int n] => (match cp a x b y n h with
      | some h1 => some (none, h1)
      | none => none)
    | _ => none)
  else bif Nat.beq j 1003 then (match as with
    | [.ref a] => (match mi_lit L a with
      | some l => some (some (.int (Int32.ofNat l.length)), h)
      | none => none)
    | _ => none)
  else bif Nat.beq j 1004 then (match as with
    | [.ref a, .int i] => (match mi_lit L a with
      | some l => bif mi_in i l.length then some (some (.int (l.getD i.toNatClampNeg 0)), h) else none
      | none => none)
    | _ => none)
  else none
/-- the second kind: by cell and place, ints and longs -/
abbrev mG : Type := (Nat → Nat → Int32) × (Nat → Nat → Int64)
abbrev mF : Type := Nat ⊕ Bool
abbrev mK : Type := (Nat × Nat × Bool) ⊕ (Nat × List mF)
def mi_uc {β : Type} (I : Nat → Nat → β) (c : Nat) (g : Nat → β) : Nat → Nat → β := fun k => bif Nat.beq k c then g else I k
def mi_fv (σ : mG) (c j : Nat) (k : mF) : Value := match k with
  | .inl r => .ref r
  | .inr true => .int (σ.1 c j)
  | .inr false => .long (σ.2 c j)
def mi_fvs (σ : mG) (c : Nat) : Nat → List mF → List Value
  | _, [] => []
  | j, k :: ks => mi_fv σ c j k :: mi_fvs σ c (j + 1) ks
def mi_ce (σ : mG) (c : Nat) (k : mK) : mE := match k with
  | .inl (t, n, false) => .inl (t, n, .inl (σ.1 c))
  | .inl (t, n, true) => .inl (t, n, .inr (.inl (σ.2 c)))
  | .inr (ci, ks) => .inr (ci, mi_fvs σ c 0 ks)
def mi_rn (σ : mG) : Nat → List mK → mH
  | _, [] => []
  | c, k :: ks => mi_ce σ c k :: mi_rn σ (c + 1) ks
def mi_gf2 (sh : List mK) (ci f a : Nat) (σ : mG) : Option Value := match sh[a]? with
  | some (.inr (c, ks)) => bif Nat.beq c ci then (match ks[f]? with
    | some k => some (mi_fv σ a f k)
    | none => none) else none
  | _ => none
def mi_pf2 (F : List (List Nat)) (sh : List mK) (ci f a : Nat) (v : Value) (σ : mG) : Option mG := match sh[a]? with
  | some (.inr (c, ks)) => bif Nat.beq c ci && mi_fits ((F.getD ci []).getD f 9) v then (match ks[f]?, v with
    | some (.inr true), .int x => some (mi_uc σ.1 a (upd (σ.1 a) f x), σ.2)
    | some (.inr false), .long x => some (σ.1, mi_uc σ.2 a (vp_updL (σ.2 a) f x))
    | _, _ => none) else none
  | _ => none
def mi_ld2 (X : Nat × (Nat → Int32)) (sh : List mK) (t a : Nat) (i : Int32) (σ : mG) : Option Value := bif Nat.beq a 999 then (bif Nat.beq t 0 && mi_in i X.1 then some (.int (X.2 i.toNatClampNeg)) else none) else match sh[a]? with
  | some (.inl (u, n, false)) => bif Nat.beq u t && (Nat.blt t 3 && mi_in i n) then some (.int (σ.1 a i.toNatClampNeg)) else none
  | some (.inl (u, n, true)) => bif Nat.beq u t && (Nat.beq t 3 && mi_in i n) then some (.long (σ.2 a i.toNatClampNeg)) else none
  | _ => none
def mi_sa2 (sh : List mK) (t a : Nat) (i : Int32) (v : Value) (σ : mG) : Option mG := match sh[a]? with
  | some (.inl (u, n, false)) => (match v with
    | .int x => bif Nat.beq u t && (Nat.blt t 3 && mi_in i n) then some (mi_uc σ.1 a (upd (σ.1 a) i.toNatClampNeg (mi_nar t x)), σ.2) else none
    | _ => none)
  | some (.inl (u, n, true)) => (match v with
    | .long x => bif Nat.beq u t && (Nat.beq t 3 && mi_in i n) then some (σ.1, mi_uc σ.2 a (vp_updL (σ.2 a) i.toNatClampNeg x)) else none
    | _ => none)
  | _ => none
def mi_ln2 (X : Nat × (Nat → Int32)) (sh : List mK) (a : Nat) (_ : mG) : Option Int32 := bif Nat.beq a 999 then some (Int32.ofNat X.1) else match sh[a]? with
  | some (.inl (u, n, _)) => bif Nat.blt u 4 then some (Int32.ofNat n) else none
  | _ => none
def mi_is2 (sh : List mK) (c q : Nat) (_ : mG) : Bool := match sh[q]? with
  | some (.inr (ci, _)) => Nat.beq ci c
  | _ => false
def mi_cp2 (sh : List mK) (a : Nat) (x : Int32) (b : Nat) (y n : Int32) (σ : mG) : Option mG := match sh[a]? with
  | some (.inl (u, n0, false)) => (match sh[b]? with
    | some (.inl (v, n1, false)) => bif Nat.beq u 1 && (Nat.beq v 1 && (mi_cq x y n n0 n1 && mi_fc (σ.1 a) x.toNatClampNeg n.toNatClampNeg)) then some (mi_uc σ.1 b (va_cpy (σ.1 a) (σ.1 b) x.toNatClampNeg y.toNatClampNeg n.toNatClampNeg), σ.2) else none
    | _ => none)
  | _ => none
def mi_O2 (F : List (List Nat)) (X : Nat × (Nat → Int32)) (sh : List mK) : mOp mG := (mi_gf2 sh, mi_pf2 F sh, mi_ld2 X sh, mi_sa2 sh, mi_ln2 X sh, fun _ _ => none, fun _ _ _ => none, mi_is2 sh)
theorem mi_uc_same {β : Type} (I : Nat → Nat → β) (c : Nat) (g : Nat → β) : mi_uc I c g c = g := by simp [mi_uc]
theorem mi_uc_ne {β : Type} (I : Nat → Nat → β) {c k : Nat} (g : Nat → β) (h : k ≠ c) : mi_uc I c g k = I k := by
  have hb : Nat.beq k c = false := by
    cases h1 : Nat.beq k c with
    | false => rfl
    | true => exact absurd (Nat.eq_of_beq_eq_true h1) h
  unfold mi_uc
  rw [hb]
  rfl
/-! the picture -/
theorem mi_rn_at (σ : mG) : ∀ (sh : List mK) (c q : Nat), (mi_rn σ c sh)[q]? = (sh[q]?).map (mi_ce σ (c + q)) := by
  intro sh
  induction sh with
  | nil => intro c q; simp [mi_rn]
  | cons k ks ih =>
    intro c q
    cases q with
    | zero => simp [mi_rn]
    | succ q => simp [mi_rn, ih, Nat.add_assoc, Nat.add_comm 1 q]
theorem mi_rn_get {σ : mG} {sh : List mK} {q : Nat} {k : mK} (h : sh[q]? = some k) : (mi_rn σ 0 sh)[q]? = some (mi_ce σ q k) := by rw [mi_rn_at, h]; simp
theorem mi_fvs_at (σ : mG) (c : Nat) : ∀ (ks : List mF) (j f : Nat), (mi_fvs σ c j ks)[f]? = (ks[f]?).map (mi_fv σ c (j + f)) := by
  intro ks
  induction ks with
  | nil => intro j f; simp [mi_fvs]
  | cons k ks ih =>
    intro j f
    cases f with
    | zero => simp [mi_fvs]
    | succ f => simp [mi_fvs, ih, Nat.add_assoc, Nat.add_comm 1 f]
theorem mi_fvs_len (σ : mG) (c : Nat) : ∀ (ks : List mF) (j : Nat), (mi_fvs σ c j ks).length = ks.length := by
  intro ks
  induction ks with
  | nil => intro j; rfl
  | cons k ks ih => intro j; simp [mi_fvs, ih]
/-- a cell that is another one doesn't see the change -/
theorem mi_ce_ne {σ τ : mG} {c : Nat} (h1 : τ.1 c = σ.1 c) (h2 : τ.2 c = σ.2 c) (k : mK) : mi_ce τ c k = mi_ce σ c k := by
  have hf : ∀ (ks : List mF) (j : Nat), mi_fvs τ c j ks = mi_fvs σ c j ks := by
    intro ks
    induction ks with
    | nil => intro j; rfl
    | cons k ks ih =>
      intro j
      simp only [mi_fvs, ih]
      congr 1
      unfold mi_fv
      rw [h1, h2]
  rcases k with ⟨t, n, b⟩ | ⟨ci, ks⟩
  · cases b
    · simp only [mi_ce, h1]
    · simp only [mi_ce, h2]
  · simp only [mi_ce, hf]
theorem mi_rn_set {σ τ : mG} {sh : List mK} {q : Nat} {k : mK} {x : mE} (hk : sh[q]? = some k) (hx : mi_ce τ q k = x) (h1 : ∀ c, c ≠ q → τ.1 c = σ.1 c) (h2 : ∀ c, c ≠ q → τ.2 c = σ.2 c) : (mi_rn σ 0 sh).set q x = mi_rn τ 0 sh := by
  apply List.ext_getElem?
  intro j
  by_cases hj : q = j
  · subst hj
    rw [List.getElem?_set_self (List.getElem?_eq_some_iff.mp (mi_rn_get (σ := σ) hk)).1, mi_rn_get hk, hx]
  · rw [List.getElem?_set_ne hj, mi_rn_at, mi_rn_at]
    cases sh[j]? with
    | none => rfl
    | some k' =>
      simp only [Option.map_some, Nat.zero_add]
      rw [mi_ce_ne (h1 j (Ne.symm hj)) (h2 j (Ne.symm hj))]
def mi_rf {α β : Type} (f : α → β) (O : mOp α) (O' : mOp β) : Prop := (∀ a b q h v, O.1 a b q h = some v → O'.1 a b q (f h) = some v) ∧ (∀ a b q v h h1, O.2.1 a b q v h = some h1 → O'.2.1 a b q v (f h) = some (f h1)) ∧ (∀ t q i h v, O.2.2.1 t q i h = some v → O'.2.2.1 t q i (f h) = some v) ∧ (∀ t q i v h h1, O.2.2.2.1 t q i v h = some h1 → O'.2.2.2.1 t q i v (f h) = some (f h1)) ∧ (∀ q h n, O.2.2.2.2.1 q h = some n → O'.2.2.2.2.1 q (f h) = some n) ∧ (∀ a h q h1, O.2.2.2.2.2.1 a h = some (q, h1) → O'.2.2.2.2.2.1 a (f h) = some (q, f h1)) ∧ (∀ a n h q h1, O.2.2.2.2.2.2.1 a n h = some (q, h1) → O'.2.2.2.2.2.2.1 a n (f h) = some (q, f h1)) ∧ ∀ c q h, O.2.2.2.2.2.2.2 c q h = true → O'.2.2.2.2.2.2.2 c q (f h) = true
section RF
variable {α β : Type} {f : α → β} {O : mOp α} {O' : mOp β}
theorem mi_al_rf (R : mi_rf f O O') {t : Nat} {st st1 : List Value} {h h1 : α} (e : mi_al O t st h = some (st1, h1)) : mi_al O' t st (f h) = some (st1, f h1) := by
  unfold mi_al at e ⊢
  split at e
  · split at e
    · rename_i v hv
      cases e
      try dsimp only
      rw [R.2.2.1 _ _ _ _ _ hv]
    · cases e
  · cases e
theorem mi_as_rf (R : mi_rf f O O') {t : Nat} {st st1 : List Value} {h h1 : α} (e : mi_as O t st h = some (st1, h1)) : mi_as O' t st (f h) = some (st1, f h1) := by
  unfold mi_as at e ⊢
  split at e
  · split at e
    · rename_i v hv
      cases e
      try dsimp only
      rw [R.2.2.2.1 _ _ _ _ _ _ hv]
    · cases e
  · cases e
theorem mi_hp_rf (R : mi_rf f O O') {i : Instr} {a b : Nat} {st st1 : List Value} {h h1 : α} (e : mi_hp O i a b st h = some (st1, h1)) : mi_hp O' i a b st (f h) = some (st1, f h1) := by
  unfold mi_hp at e
  split at e
  · split at e
    · split at e
      · rename_i v hv
        cases e
        unfold mi_hp
        dsimp only
        rw [R.1 _ _ _ _ _ hv]
      · cases e
    · cases e
  · split at e
    · split at e
      · rename_i v hv
        cases e
        unfold mi_hp
        dsimp only
        rw [R.2.1 _ _ _ _ _ _ hv]
      · cases e
    · cases e
  · exact mi_al_rf R e
  · exact mi_al_rf R e
  · exact mi_al_rf R e
  · exact mi_al_rf R e
  · exact mi_as_rf R e
  · exact mi_as_rf R e
  · exact mi_as_rf R e
  · exact mi_as_rf R e
  · split at e
    · split at e
      · rename_i v hv
        cases e
        unfold mi_hp
        dsimp only
        rw [R.2.2.2.2.1 _ _ _ hv]
      · cases e
    · cases e
  · split at e
    · rename_i v hv
      cases e
      unfold mi_hp
      dsimp only
      rw [R.2.2.2.2.2.1 _ _ _ _ hv]
    · cases e
  · split at e
    · split at e
      · rename_i v hv
        cases e
        unfold mi_hp
        dsimp only
        rw [R.2.2.2.2.2.2.1 _ _ _ _ _ hv]
      · cases e
    · cases e
  · cases e
variable {PR cal : Nat → List Value → α → Option (mA α)} {PR' cal' : Nat → List Value → β → Option (mA β)}
abbrev mi_rc' (f : α → β) (cal : Nat → List Value → α → Option (mA α)) (cal' : Nat → List Value → β → Option (mA β)) : Prop := ∀ j as h v h1, cal j as h = some (v, h1) → cal' j as (f h) = some (v, f h1)
theorem mi_cl_rf (R : mi_rf f O O') (hp : mi_rc' f PR PR') (hc : mi_rc' f cal cal') {nx a b c : Nat} {ls : mL} {st : List Value} {h : α} {x : mS α} (e : mi_cl O PR cal nx a b c ls st h = some x) : mi_cl O' PR' cal' nx a b c ls st (f h) = some (x.1, x.2.1, x.2.2.1, f x.2.2.2) := by
  unfold mi_cl at e ⊢
  cases ht : mi_take b [] st with
  | none => rw [ht] at e; cases e
  | some q =>
    obtain ⟨as, r⟩ := q
    rw [ht] at e
    dsimp only at e ⊢
    cases hb : (Nat.ble (mi_cats r) 8 && mi_rc O c as h) with
    | false => rw [hb] at e; cases e
    | true =>
      rw [hb] at e
      dsimp only [cond_true] at e
      have hb' : (Nat.ble (mi_cats r) 8 && mi_rc O' c as (f h)) = true := by
        rw [Bool.and_eq_true] at hb ⊢
        refine ⟨hb.1, ?_⟩
        have h2 := hb.2
        unfold mi_rc at h2 ⊢
        cases hk : Nat.beq c 99 with
        | true => rfl
        | false =>
          rw [hk] at h2
          dsimp only [cond_false] at h2 ⊢
          split at h2
          · cases hk8 : Nat.beq c 98 with
            | true => rfl
            | false =>
              rw [hk8] at h2
              exact R.2.2.2.2.2.2.2 _ _ _ h2
          · cases h2
      rw [hb']
      dsimp only [cond_true]
      cases hk : Nat.blt a 1000 with
      | false =>
        rw [hk] at e
        dsimp only [cond_false] at e ⊢
        split at e
        · rename_i v h1 hv
          cases e
          rw [hp _ _ _ _ _ hv]
        · cases e
      | true =>
        rw [hk] at e
        dsimp only [cond_true] at e ⊢
        split at e
        · rename_i v h1 hv
          cases e
          rw [hc _ _ _ _ _ hv]
        · cases e
theorem mi_re_rf {i : Instr} {ret : Option FieldType} {st : List Value} {h : α} {x : mA α} (e : mi_re i ret st h = some x) : mi_re i ret st (f h) = some (x.1, f x.2) := by
  unfold mi_re at e
  split at e
  · split at e
    · cases hb : mi_nr _ _ with
      | false => rw [hb] at e; cases e
      | true =>
        rw [hb] at e
        cases e
        unfold mi_re
        dsimp only
        rw [hb]
        rfl
    · cases e
  · split at e
    · cases e
      rfl
    · cases e
  · split at e
    · cases e
      rfl
    · cases e
  · cases e
def mi_mp (f : α → β) (x : mS α ⊕ mA α) : mS β ⊕ mA β := match x with
  | .inl y => .inl (y.1, y.2.1, y.2.2.1, f y.2.2.2)
  | .inr y => .inr (y.1, f y.2)
theorem mi_one_rf (R : mi_rf f O O') (hp : mi_rc' f PR PR') (hc : mi_rc' f cal cal') {tb : mB} {ret : Option FieldType} {s : mS α} {x : mS α ⊕ mA α} (e : mi_one O PR cal tb ret s = some x) :
    mi_one O' PR' cal' tb ret (s.1, s.2.1, s.2.2.1, f s.2.2.2) = some (mi_mp f x) := by
  unfold mi_one at e ⊢
  dsimp only
  cases hl : mi_lk tb s.1 with
  | none => rw [hl] at e; cases e
  | some q =>
    rw [hl] at e
    dsimp only at e ⊢
    match hk : mi_kd q.1 with
    | (false, false) =>
      rw [hk] at e
      try dsimp only at e ⊢
      split at e
      · rename_i y hy
        cases e
        rfl
      · cases e
    | (false, true) =>
      rw [hk] at e
      try dsimp only at e ⊢
      split at e
      · rename_i y hy
        cases e
        obtain ⟨y1, y2⟩ := y
        rw [mi_hp_rf R hy]
        rfl
      · cases e
    | (true, false) =>
      rw [hk] at e
      try dsimp only at e ⊢
      split at e
      · rename_i y hy
        cases e
        rw [mi_cl_rf R hp hc hy]
        rfl
      · cases e
    | (true, true) =>
      rw [hk] at e
      try dsimp only at e ⊢
      split at e
      · rename_i y hy
        cases e
        rw [mi_re_rf hy]
        rfl
      · cases e
theorem mi_ex_rf (R : mi_rf f O O') (hp : mi_rc' f PR PR') (hc : mi_rc' f cal cal') {tb : mB} {ret : Option FieldType} : ∀ (n : Nat) (s : mS α) (x : mA α), mi_ex O PR cal tb ret n s = some x → mi_ex O' PR' cal' tb ret n (s.1, s.2.1, s.2.2.1, f s.2.2.2) = some (x.1, f x.2) := by
  intro n
  induction n with
  | zero => intro s x e; cases e
  | succ n ih =>
    intro s x e
    unfold mi_ex at e ⊢
    cases hq : mi_one O PR cal tb ret s with
    | none => rw [hq] at e; cases e
    | some y =>
      rw [hq] at e
      rw [mi_one_rf R hp hc hq]
      cases y with
      | inl s1 => exact ih s1 x e
      | inr z => cases e; rfl
theorem mi_run_rf (R : mi_rf f O O') (hp : mi_rc' f PR PR') {M : List mM} : ∀ (d n : Nat), mi_rc' f (mi_run O PR M d n) (mi_run O' PR' M d n) := by
  intro d
  induction d with
  | zero => intro n j as h v h1 e; cases e
  | succ d ih =>
    intro n j as h v h1 e
    unfold mi_run at e ⊢
    cases hq : M[j]? with
    | none => rw [hq] at e; cases e
    | some q =>
      rw [hq] at e
      dsimp only at e ⊢
      cases hb : Nat.ble (mi_fl as).length q.2.1 with
      | false => rw [hb] at e; cases e
      | true => rw [hb] at e; exact mi_ex_rf R hp (ih n) n _ _ e
theorem mi_T.rf (R : mi_rf f O O') (hp : mi_rc' f PR PR') {M : List mM} {d : Nat} {tb : mB} {ret : Option FieldType} {s : mS α} {r : mA α} (k : mi_T O PR M d tb ret s r) : mi_T O' PR' M d tb ret (s.1, s.2.1, s.2.2.1, f s.2.2.2) (r.1, f r.2) := by
  obtain ⟨n, e⟩ := k
  exact ⟨n, mi_ex_rf R hp (mi_run_rf R hp d n) n s r e⟩
theorem mi_R.rf (R : mi_rf f O O') (hp : mi_rc' f PR PR') {M : List mM} {d j : Nat} {as : List Value} {h : α} {r : mA α} (k : mi_R O PR M d j as h r) : mi_R O' PR' M d j as (f h) (r.1, f r.2) := by
  obtain ⟨n, e⟩ := k
  exact ⟨n, mi_run_rf R hp d n j as h r.1 r.2 e⟩
end RF
