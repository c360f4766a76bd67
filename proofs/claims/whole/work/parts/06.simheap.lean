/-! The machine does what the mini does: cells. -/
def mi_sz (x : mE) : Nat := match x with
  | .inl q => q.2.1
  | .inr q => q.2.length
def mi_sl : mH → Nat
  | [] => 0
  | x :: r => mi_sz x + mi_sl r
theorem mi_sl_set : ∀ (h : mH) (q : Nat) (x y : mE), h[q]? = some y → mi_sz x = mi_sz y → mi_sl (h.set q x) = mi_sl h := by
  intro h
  induction h with
  | nil => intro q x y e; simp at e
  | cons z r ih =>
    intro q x y e hs
    cases q with
    | zero =>
      simp only [List.getElem?_cons_zero, Option.some.injEq] at e
      subst e
      simp [mi_sl, hs]
    | succ q =>
      simp only [List.getElem?_cons_succ] at e
      simp [mi_sl, ih q x y e hs]
theorem mi_sl_app (x : mE) : ∀ (h : mH), mi_sl (h ++ [x]) = mi_sl h + mi_sz x := by
  intro h
  induction h with
  | nil => simp [mi_sl]
  | cons z r ih => simp [mi_sl, ih, Nat.add_assoc]
def mi_le (h h1 : mH) : Prop := h.length ≤ h1.length ∧ mi_sl h ≤ mi_sl h1
theorem mi_le.rf {h : mH} : mi_le h h := ⟨Nat.le_refl _, Nat.le_refl _⟩
theorem mi_le.tr {h h1 h2 : mH} (a : mi_le h h1) (b : mi_le h1 h2) : mi_le h h2 := ⟨Nat.le_trans a.1 b.1, Nat.le_trans a.2 b.2⟩
theorem mi_le_set {h : mH} {q : Nat} {x y : mE} (e : h[q]? = some y) (hs : mi_sz x = mi_sz y) : mi_le h (h.set q x) := ⟨by rw [List.length_set]; exact Nat.le_refl _, by rw [mi_sl_set h q x y e hs]; exact Nat.le_refl _⟩
theorem mi_le_app {h : mH} {x : mE} : mi_le h (h ++ [x]) := ⟨by simp, by rw [mi_sl_app]; omega⟩
theorem mi_pf_inv {F : List (List Nat)} {a b q : Nat} {v : Value} {h h1 : mH} (e : mi_pf1 F a b q v h = some h1) : ∃ fs, h[q]? = some (.inr (a, fs)) ∧ b < fs.length ∧ mi_fits ((F.getD a []).getD b 9) v = true ∧ h1 = h.set q (.inr (a, fs.set b v)) := by
  unfold mi_pf1 at e
  split at e
  · rename_i c fs hq
    cases hb : (Nat.beq c a && (Nat.blt b fs.length && mi_fits ((F.getD a []).getD b 9) v)) with
    | false => rw [hb] at e; cases e
    | true =>
      rw [hb] at e
      cases e
      rw [Bool.and_eq_true, Bool.and_eq_true, Nat.blt_eq] at hb
      have hc := Nat.eq_of_beq_eq_true hb.1
      subst hc
      exact ⟨fs, hq, hb.2.1, hb.2.2, rfl⟩
  · cases e
theorem mi_gf_inv {a b q : Nat} {v : Value} {h : mH} (e : mi_gf1 a b q h = some v) : ∃ fs, h[q]? = some (.inr (a, fs)) ∧ fs[b]? = some v := by
  unfold mi_gf1 at e
  split at e
  · rename_i c fs hq
    cases hb : Nat.beq c a with
    | false => rw [hb] at e; cases e
    | true =>
      rw [hb] at e
      have hc := Nat.eq_of_beq_eq_true hb
      subst hc
      exact ⟨fs, hq, e⟩
  · cases e
theorem mi_ld_inv1 {X : Nat × (Nat → Int32)} {t q : Nat} {i : Int32} {v : Value} {h : mH} (e : mi_ld1 X t q i h = some v) : (q = 999 ∧ t = 0 ∧ mi_in i X.1 = true ∧ v = .int (X.2 i.toNatClampNeg)) ∨ (∃ n f, h[q]? = some (.inl (t, n, .inl f)) ∧ t < 3 ∧ mi_in i n = true ∧ v = .int (f i.toNatClampNeg)) ∨ (∃ n f, h[q]? = some (.inl (t, n, .inr (.inl f))) ∧ t = 3 ∧ mi_in i n = true ∧ v = .long (f i.toNatClampNeg)) := by
  unfold mi_ld1 at e
  cases h9 : Nat.beq q 999 with
  | true =>
    rw [h9] at e
    dsimp only [cond_true] at e
    cases hb : (Nat.beq t 0 && mi_in i X.1) with
    | false => rw [hb] at e; cases e
    | true =>
      rw [hb] at e
      cases e
      rw [Bool.and_eq_true] at hb
      exact Or.inl ⟨Nat.eq_of_beq_eq_true h9, Nat.eq_of_beq_eq_true hb.1, hb.2, rfl⟩
  | false =>
    rw [h9] at e
    dsimp only [cond_false] at e
    split at e
    · rename_i u n f hq
      cases hb : (Nat.beq u t && (Nat.blt t 3 && mi_in i n)) with
      | false => rw [hb] at e; cases e
      | true =>
        rw [hb] at e
        cases e
        rw [Bool.and_eq_true, Bool.and_eq_true, Nat.blt_eq] at hb
        have hc := Nat.eq_of_beq_eq_true hb.1
        subst hc
        exact Or.inr (Or.inl ⟨n, f, hq, hb.2.1, hb.2.2, rfl⟩)
    · rename_i u n f hq
      cases hb : (Nat.beq u t && (Nat.beq t 3 && mi_in i n)) with
      | false => rw [hb] at e; cases e
      | true =>
        rw [hb] at e
        cases e
        rw [Bool.and_eq_true, Bool.and_eq_true] at hb
        have hc := Nat.eq_of_beq_eq_true hb.1
        subst hc
        exact Or.inr (Or.inr ⟨n, f, hq, Nat.eq_of_beq_eq_true hb.2.1, hb.2.2, rfl⟩)
    · cases e
theorem mi_sa_inv {t q : Nat} {i : Int32} {v : Value} {h h1 : mH} (e : mi_sa1 t q i v h = some h1) : (∃ n f x, h[q]? = some (.inl (t, n, .inl f)) ∧ t < 3 ∧ mi_in i n = true ∧ v = .int x ∧ h1 = h.set q (.inl (t, n, .inl (upd f i.toNatClampNeg (mi_nar t x))))) ∨ (∃ n f x, h[q]? = some (.inl (t, n, .inr (.inl f))) ∧ t = 3 ∧ mi_in i n = true ∧ v = .long x ∧ h1 = h.set q (.inl (t, n, .inr (.inl (vp_updL f i.toNatClampNeg x))))) := by
  unfold mi_sa1 at e
  split at e
  · rename_i u n f hq
    split at e
    · rename_i x
      cases hb : (Nat.beq u t && (Nat.blt t 3 && mi_in i n)) with
      | false => rw [hb] at e; cases e
      | true =>
        rw [hb] at e
        cases e
        rw [Bool.and_eq_true, Bool.and_eq_true, Nat.blt_eq] at hb
        have hc := Nat.eq_of_beq_eq_true hb.1
        subst hc
        exact Or.inl ⟨n, f, x, hq, hb.2.1, hb.2.2, rfl, rfl⟩
    · cases e
  · rename_i u n f hq
    split at e
    · rename_i x
      cases hb : (Nat.beq u t && (Nat.beq t 3 && mi_in i n)) with
      | false => rw [hb] at e; cases e
      | true =>
        rw [hb] at e
        cases e
        rw [Bool.and_eq_true, Bool.and_eq_true] at hb
        have hc := Nat.eq_of_beq_eq_true hb.1
        subst hc
        exact Or.inr ⟨n, f, x, hq, Nat.eq_of_beq_eq_true hb.2.1, hb.2.2, rfl, rfl⟩
    · cases e
  · cases e
theorem mi_cp_inv {a : Nat} {x : Int32} {b : Nat} {y n : Int32} {h h1 : mH} (e : mi_cp1 a x b y n h = some h1) : ∃ n0 f n1 g, h[a]? = some (.inl (1, n0, .inl f)) ∧ h[b]? = some (.inl (1, n1, .inl g)) ∧ mi_cq x y n n0 n1 = true ∧ mi_fc f x.toNatClampNeg n.toNatClampNeg = true ∧ h1 = h.set b (.inl (1, n1, .inl (va_cpy f g x.toNatClampNeg y.toNatClampNeg n.toNatClampNeg))) := by
  unfold mi_cp1 at e
  split at e
  · rename_i u n0 f hq
    split at e
    · rename_i v n1 g hq1
      cases hb : (Nat.beq u 1 && (Nat.beq v 1 && (mi_cq x y n n0 n1 && mi_fc f x.toNatClampNeg n.toNatClampNeg))) with
      | false => rw [hb] at e; cases e
      | true =>
        rw [hb] at e
        cases e
        rw [Bool.and_eq_true, Bool.and_eq_true, Bool.and_eq_true] at hb
        have hc := Nat.eq_of_beq_eq_true hb.1
        have hd := Nat.eq_of_beq_eq_true hb.2.1
        subst hc
        subst hd
        exact ⟨n0, f, n1, g, hq, hq1, hb.2.2.1, hb.2.2.2, rfl⟩
    · cases e
  · cases e
theorem mi_nw_inv {F : List (List Nat)} {a q : Nat} {h h1 : mH} (e : mi_nw1 F a h = some (q, h1)) : ∃ ks, F[a]? = some ks ∧ h.length < 900 ∧ q = h.length ∧ h1 = h ++ [.inr (a, ks.map mi_dv)] := by
  unfold mi_nw1 at e
  split at e
  · rename_i ks hk
    cases hb : Nat.blt h.length 900 with
    | false => rw [hb] at e; cases e
    | true =>
      rw [hb] at e
      cases e
      rw [Nat.blt_eq] at hb
      exact ⟨ks, hk, hb, rfl, rfl⟩
  · cases e
theorem mi_na_inv {t : Nat} {n : Int32} {q : Nat} {h h1 : mH} (e : mi_na1 t n h = some (q, h1)) : t < 4 ∧ ¬ n < 0 ∧ n.toNatClampNeg ≤ 1000 ∧ h.length < 900 ∧ q = h.length ∧ h1 = h ++ [.inl (t, n.toNatClampNeg, bif Nat.beq t 3 then .inr (.inl (fun _ => 0)) else .inl (fun _ => 0))] := by
  unfold mi_na1 at e
  cases hb : (Nat.blt t 4 && (!(decide (n < 0)) && (Nat.ble n.toNatClampNeg 1000 && Nat.blt h.length 900))) with
  | false => rw [hb] at e; cases e
  | true =>
    rw [hb] at e
    cases e
    rw [Bool.and_eq_true, Bool.and_eq_true, Bool.and_eq_true, Nat.blt_eq, Nat.blt_eq, Nat.ble_eq] at hb
    exact ⟨hb.1, by simpa using hb.2.1, hb.2.2.1, hb.2.2.2, rfl, rfl⟩
theorem mi_hp_le {F : List (List Nat)} {X : Nat × (Nat → Int32)} {i : Instr} {a b : Nat} {st st1 : List Value} {h h1 : mH} (e : mi_hp (mi_O1 F X) i a b st h = some (st1, h1)) : mi_le h h1 := by
  have al : ∀ t, mi_al (mi_O1 F X) t st h = some (st1, h1) → mi_le h h1 := by
    intro t e
    unfold mi_al at e
    split at e
    · split at e
      · cases e; exact mi_le.rf
      · cases e
    · cases e
  have as : ∀ t, mi_as (mi_O1 F X) t st h = some (st1, h1) → mi_le h h1 := by
    intro t e
    unfold mi_as at e
    split at e
    · split at e
      · rename_i h2 hh
        cases e
        rcases mi_sa_inv hh with ⟨n, f, x, hq, -, -, -, rfl⟩ | ⟨n, f, x, hq, -, -, -, rfl⟩
        · exact mi_le_set hq rfl
        · exact mi_le_set hq rfl
      · cases e
    · cases e
  unfold mi_hp at e
  split at e
  · split at e
    · split at e
      · cases e; exact mi_le.rf
      · cases e
    · cases e
  · split at e
    · split at e
      · rename_i h2 hh
        cases e
        obtain ⟨fs, hq, -, -, rfl⟩ := mi_pf_inv hh
        exact mi_le_set hq (by simp [mi_sz])
      · cases e
    · cases e
  · exact al _ e
  · exact al _ e
  · exact al _ e
  · exact al _ e
  · exact as _ e
  · exact as _ e
  · exact as _ e
  · exact as _ e
  · split at e
    · split at e
      · cases e; exact mi_le.rf
      · cases e
    · cases e
  · split at e
    · rename_i q h2 hh
      cases e
      obtain ⟨ks, -, -, -, rfl⟩ := mi_nw_inv hh
      exact mi_le_app
    · cases e
  · split at e
    · split at e
      · rename_i q h2 hh
        cases e
        obtain ⟨-, -, -, -, -, rfl⟩ := mi_na_inv hh
        exact mi_le_app
      · cases e
    · cases e
  · cases e
abbrev mi_cle (cal : Nat → List Value → mH → Option (mA mH)) : Prop := ∀ j as h v h1, cal j as h = some (v, h1) → mi_le h h1
theorem mi_cl_le {O : mOp mH} {PR cal : Nat → List Value → mH → Option (mA mH)} (hp : mi_cle PR) (hc : mi_cle cal) {nx a b c : Nat} {ls : mL} {st : List Value} {h : mH} {x : mS mH} (e : mi_cl O PR cal nx a b c ls st h = some x) : mi_le h x.2.2.2 := by
  unfold mi_cl at e
  split at e
  · rename_i as r ht
    cases hb : (Nat.ble (mi_cats r) 8 && mi_rc O c as h) with
    | false => rw [hb] at e; cases e
    | true =>
      rw [hb] at e
      dsimp only [cond_true] at e
      split at e
      · rename_i v h1 hv
        cases e
        cases hk : Nat.blt a 1000 with
        | true => rw [hk] at hv; exact hc _ _ _ _ _ hv
        | false => rw [hk] at hv; exact hp _ _ _ _ _ hv
      · cases e
  · cases e
theorem mi_re_eq {α : Type} {i : Instr} {ret : Option FieldType} {st : List Value} {h : α} {x : mA α} (e : mi_re i ret st h = some x) : x.2 = h := by
  unfold mi_re at e
  split at e
  · split at e
    · cases hb : mi_nr _ _ with
      | false => rw [hb] at e; cases e
      | true => rw [hb] at e; cases e; rfl
    · cases e
  · split at e
    · cases e; rfl
    · cases e
  · split at e
    · cases e; rfl
    · cases e
  · cases e
theorem mi_one_le {F : List (List Nat)} {X : Nat × (Nat → Int32)} {PR cal : Nat → List Value → mH → Option (mA mH)} (hp : mi_cle PR) (hc : mi_cle cal) {tb : mB} {ret : Option FieldType} {s : mS mH} {x : mS mH ⊕ mA mH} (e : mi_one (mi_O1 F X) PR cal tb ret s = some x) : mi_le s.2.2.2 (match x with
    | .inl y => y.2.2.2
    | .inr y => y.2) := by
  unfold mi_one at e
  split at e
  · cases e
  · rename_i q hl
    split at e
    · split at e
      · cases e; exact mi_le.rf
      · cases e
    · split at e
      · rename_i y hy
        obtain ⟨y1, y2⟩ := y
        cases e
        exact mi_hp_le hy
      · cases e
    · split at e
      · rename_i y hy
        cases e
        exact mi_cl_le hp hc hy
      · cases e
    · split at e
      · rename_i y hy
        cases e
        dsimp only
        rw [mi_re_eq hy]
        exact mi_le.rf
      · cases e
theorem mi_ex_le {F : List (List Nat)} {X : Nat × (Nat → Int32)} {PR cal : Nat → List Value → mH → Option (mA mH)} (hp : mi_cle PR) (hc : mi_cle cal) {tb : mB} {ret : Option FieldType} : ∀ (n : Nat) (s : mS mH) (r : mA mH), mi_ex (mi_O1 F X) PR cal tb ret n s = some r → mi_le s.2.2.2 r.2 := by
  intro n
  induction n with
  | zero => intro s r e; cases e
  | succ n ih =>
    intro s r e
    unfold mi_ex at e
    split at e
    · rename_i s1 h1
      exact (mi_one_le hp hc h1).tr (ih s1 r e)
    · rename_i y h1
      cases e
      exact mi_one_le hp hc h1
    · cases e
theorem mi_run_le {F : List (List Nat)} {X : Nat × (Nat → Int32)} {PR : Nat → List Value → mH → Option (mA mH)} (hp : mi_cle PR) {M : List mM} : ∀ (d n : Nat), mi_cle (mi_run (mi_O1 F X) PR M d n) := by
  intro d
  induction d with
  | zero => intro n j as h v h1 e; cases e
  | succ d ih =>
    intro n j as h v h1 e
    unfold mi_run at e
    split at e
    · rename_i q hq
      cases hb : Nat.ble (mi_fl as).length q.2.1 with
      | false => rw [hb] at e; cases e
      | true => rw [hb] at e; exact mi_ex_le hp (ih n) n _ _ e
    · cases e
theorem mi_pr_le {L : List (List Int32)} : mi_cle (mi_pr L mi_cp1) := by
  intro j as h v h1 e
  unfold mi_pr at e
  cases hb0 : Nat.beq j 1000 with
  | true =>
    rw [hb0] at e
    dsimp only [cond_true] at e
    split at e
    · cases e; exact mi_le.rf
    · cases e
  | false =>
    rw [hb0] at e
    dsimp only [cond_false] at e
    cases hb1 : Nat.beq j 1001 with
    | true =>
      rw [hb1] at e
      dsimp only [cond_true] at e
      split at e
      · cases e; exact mi_le.rf
      · cases e
    | false =>
      rw [hb1] at e
      dsimp only [cond_false] at e
      cases hb2 : Nat.beq j 1002 with
      | true =>
        rw [hb2] at e
        dsimp only [cond_true] at e
        split at e
        · split at e
          · rename_i h2 hh
            cases e
            obtain ⟨n0, f, n1, g, -, hq, -, -, rfl⟩ := mi_cp_inv hh
            exact mi_le_set hq rfl
          · cases e
        · cases e
      | false =>
        rw [hb2] at e
        dsimp only [cond_false] at e
        cases hb3 : Nat.beq j 1003 with
        | true =>
          rw [hb3] at e
          dsimp only [cond_true] at e
          split at e
          · split at e
            · cases e; exact mi_le.rf
            · cases e
          · cases e
        | false =>
          rw [hb3] at e
          dsimp only [cond_false] at e
          cases hb4 : Nat.beq j 1004 with
          | true =>
            rw [hb4] at e
            dsimp only [cond_true] at e
            split at e
            · split at e
              · rename_i i _ l hh
                cases hi : mi_in i l.length with
                | true => rw [hi] at e; cases e; exact mi_le.rf
                | false => rw [hi] at e; cases e
              · cases e
            · cases e
          | false => rw [hb4] at e; cases e
