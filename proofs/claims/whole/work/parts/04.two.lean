/-! The second kind of heap is a picture of the first; rows for its arrays. -/
theorem mi_fvs_set {σ τ : mG} {q f : Nat} {ks : List mF} {v : Value} {k : mF} (hk : ks[f]? = some k) (hv : mi_fv τ q f k = v) (h1 : ∀ j, j ≠ f → τ.1 q j = σ.1 q j) (h2 : ∀ j, j ≠ f → τ.2 q j = σ.2 q j) : mi_fvs τ q 0 ks = (mi_fvs σ q 0 ks).set f v := by
  apply List.ext_getElem?
  intro i
  have hl : f < (mi_fvs σ q 0 ks).length := by rw [mi_fvs_len]; exact (List.getElem?_eq_some_iff.mp hk).1
  by_cases hi : f = i
  · subst hi
    rw [List.getElem?_set_self hl, mi_fvs_at, hk, ← hv]
    simp
  · rw [List.getElem?_set_ne hi, mi_fvs_at, mi_fvs_at]
    cases ks[i]? with
    | none => rfl
    | some k' =>
      simp only [Option.map_some, Nat.zero_add, Option.some.injEq]
      rcases k' with r | b
      · rfl
      · cases b
        · simp only [mi_fv, h2 i (Ne.symm hi)]
        · simp only [mi_fv, h1 i (Ne.symm hi)]
theorem mi_upd_same (f : Nat → Int32) (k : Nat) (x : Int32) : upd f k x k = x := by simp [upd]
theorem mi_upd_ne (f : Nat → Int32) {k j : Nat} (x : Int32) (h : j ≠ k) : upd f k x j = f j := by simp [upd, h]
theorem mi_updL_same (f : Nat → Int64) (k : Nat) (x : Int64) : vp_updL f k x k = x := by simp [vp_updL]
theorem mi_updL_ne (f : Nat → Int64) {k j : Nat} (x : Int64) (h : j ≠ k) : vp_updL f k x j = f j := by simp [vp_updL, h]
theorem mi_rf_get {sh : List mK} (a b q : Nat) (σ : mG) (v : Value) (e : mi_gf2 sh a b q σ = some v) : mi_gf1 a b q (mi_rn σ 0 sh) = some v := by
  unfold mi_gf2 at e
  split at e
  · rename_i c ks hk
    cases hb : Nat.beq c a with
    | false => rw [hb] at e; cases e
    | true =>
      rw [hb] at e
      dsimp only [cond_true] at e
      split at e
      · rename_i k hf
        cases e
        unfold mi_gf1
        rw [mi_rn_get hk]
        simp only [mi_ce, hb, cond_true, mi_fvs_at, hf, Option.map_some, Nat.zero_add]
      · cases e
  · cases e
theorem mi_rf_put {F : List (List Nat)} {sh : List mK} (a b q : Nat) (v : Value) (σ τ : mG) (e : mi_pf2 F sh a b q v σ = some τ) : mi_pf1 F a b q v (mi_rn σ 0 sh) = some (mi_rn τ 0 sh) := by
  unfold mi_pf2 at e
  split at e
  · rename_i c ks hk
    cases hb : (Nat.beq c a && mi_fits ((F.getD a []).getD b 9) v) with
    | false => rw [hb] at e; cases e
    | true =>
      rw [hb] at e
      dsimp only [cond_true] at e
      rw [Bool.and_eq_true] at hb
      have main : ∀ (k : mF), ks[b]? = some k → mi_fv τ q b k = v → (∀ c, c ≠ q → τ.1 c = σ.1 c) → (∀ c, c ≠ q → τ.2 c = σ.2 c) → (∀ j, j ≠ b → τ.1 q j = σ.1 q j) → (∀ j, j ≠ b → τ.2 q j = σ.2 q j) → mi_pf1 F a b q v (mi_rn σ 0 sh) = some (mi_rn τ 0 sh) := by
        intro k hf hv g1 g2 g3 g4
        unfold mi_pf1
        rw [mi_rn_get hk]
        have hl : Nat.blt b (mi_fvs σ q 0 ks).length = true := by
          rw [mi_fvs_len, Nat.blt_eq]
          exact (List.getElem?_eq_some_iff.mp hf).1
        simp only [mi_ce, hb.1, hb.2, hl, Bool.and_self, cond_true, Option.some.injEq]
        exact mi_rn_set hk (by rw [mi_ce, mi_fvs_set hf hv g3 g4]) g1 g2
      split at e
      · rename_i x hf
        cases e
        exact main _ hf (by simp [mi_fv, mi_uc_same, mi_upd_same]) (fun c h => mi_uc_ne _ _ h) (fun _ _ => rfl) (fun j h => by simp [mi_uc_same, mi_upd_ne _ _ h]) (fun _ _ => rfl)
      · rename_i x hf
        cases e
        exact main _ hf (by simp [mi_fv, mi_uc_same, mi_updL_same]) (fun _ _ => rfl) (fun c h => mi_uc_ne _ _ h) (fun _ _ => rfl) (fun j h => by simp [mi_uc_same, mi_updL_ne _ _ h])
      · cases e
  · cases e
theorem mi_rf_ld {X : Nat × (Nat → Int32)} {sh : List mK} (t q : Nat) (i : Int32) (σ : mG) (v : Value) (e : mi_ld2 X sh t q i σ = some v) : mi_ld1 X t q i (mi_rn σ 0 sh) = some v := by
  unfold mi_ld2 at e
  unfold mi_ld1
  cases hb : Nat.beq q 999 with
  | true => rw [hb] at e; exact e
  | false =>
    rw [hb] at e
    dsimp only [cond_false] at e ⊢
    split at e
    · rename_i u n hk
      rw [mi_rn_get hk]
      exact e
    · rename_i u n hk
      rw [mi_rn_get hk]
      exact e
    · cases e
theorem mi_rf_sa {sh : List mK} (t q : Nat) (i : Int32) (v : Value) (σ τ : mG) (e : mi_sa2 sh t q i v σ = some τ) : mi_sa1 t q i v (mi_rn σ 0 sh) = some (mi_rn τ 0 sh) := by
  unfold mi_sa2 at e
  unfold mi_sa1
  split at e
  · rename_i u n hk
    rw [mi_rn_get hk]
    dsimp only [mi_ce]
    split at e
    · rename_i x
      cases hb : (Nat.beq u t && (Nat.blt t 3 && mi_in i n)) with
      | false => rw [hb] at e; cases e
      | true =>
        rw [hb] at e
        dsimp only [cond_true] at e ⊢
        cases e
        rw [mi_rn_set hk (τ := (mi_uc σ.1 q (upd (σ.1 q) i.toNatClampNeg (mi_nar t x)), σ.2)) (by simp [mi_ce, mi_uc_same]) (fun c h => mi_uc_ne _ _ h) (fun _ _ => rfl)]
    · cases e
  · rename_i u n hk
    rw [mi_rn_get hk]
    dsimp only [mi_ce]
    split at e
    · rename_i x
      cases hb : (Nat.beq u t && (Nat.beq t 3 && mi_in i n)) with
      | false => rw [hb] at e; cases e
      | true =>
        rw [hb] at e
        dsimp only [cond_true] at e ⊢
        cases e
        rw [mi_rn_set (σ := σ) hk (τ := (σ.1, mi_uc σ.2 q (vp_updL (σ.2 q) i.toNatClampNeg x))) (by simp [mi_ce, mi_uc_same]) (fun _ _ => rfl) (fun c h => mi_uc_ne _ _ h)]
    · cases e
  · cases e
theorem mi_rf_ln {X : Nat × (Nat → Int32)} {sh : List mK} (q : Nat) (σ : mG) (n : Int32) (e : mi_ln2 X sh q σ = some n) : mi_ln1 X q (mi_rn σ 0 sh) = some n := by
  unfold mi_ln2 at e
  unfold mi_ln1
  cases hb : Nat.beq q 999 with
  | true => rw [hb] at e; exact e
  | false =>
    rw [hb] at e
    dsimp only [cond_false] at e ⊢
    split at e
    · rename_i u n b hk
      rw [mi_rn_get hk]
      cases b <;> exact e
    · cases e
theorem mi_rf_is {sh : List mK} (c q : Nat) (σ : mG) (e : mi_is2 sh c q σ = true) : mi_is1' c q (mi_rn σ 0 sh) = true := by
  unfold mi_is2 at e
  unfold mi_is1'
  split at e
  · rename_i ci ks hk
    rw [mi_rn_get hk]
    exact e
  · cases e
theorem mi_rf_cp {sh : List mK} (a : Nat) (x : Int32) (b : Nat) (y n : Int32) (σ τ : mG) (e : mi_cp2 sh a x b y n σ = some τ) : mi_cp1 a x b y n (mi_rn σ 0 sh) = some (mi_rn τ 0 sh) := by
  unfold mi_cp2 at e
  unfold mi_cp1
  split at e
  · rename_i u n0 hk
    rw [mi_rn_get hk]
    dsimp only [mi_ce]
    split at e
    · rename_i v n1 hk1
      rw [mi_rn_get hk1]
      dsimp only [mi_ce]
      cases hb : (Nat.beq u 1 && (Nat.beq v 1 && (mi_cq x y n n0 n1 && mi_fc (σ.1 a) x.toNatClampNeg n.toNatClampNeg))) with
      | false => rw [hb] at e; cases e
      | true =>
        rw [hb] at e
        dsimp only [cond_true] at e ⊢
        cases e
        rw [mi_rn_set hk1 (τ := (mi_uc σ.1 b (va_cpy (σ.1 a) (σ.1 b) x.toNatClampNeg y.toNatClampNeg n.toNatClampNeg), σ.2)) (by simp [mi_ce, mi_uc_same]) (fun c h => mi_uc_ne _ _ h) (fun _ _ => rfl)]
    · cases e
  · cases e
theorem mi_rf21 (F : List (List Nat)) (X : Nat × (Nat → Int32)) (sh : List mK) : mi_rf (fun σ => mi_rn σ 0 sh) (mi_O2 F X sh) (mi_O1 F X) := ⟨mi_rf_get, mi_rf_put, mi_rf_ld, mi_rf_sa, mi_rf_ln, (fun a h q h1 e => by cases e), (fun a n h q h1 e => by cases e), mi_rf_is⟩
theorem mi_pr_rf {α β : Type} {f : α → β} {L : List (List Int32)} {cp : Nat → Int32 → Nat → Int32 → Int32 → α → Option α} {cp' : Nat → Int32 → Nat → Int32 → Int32 → β → Option β} (hcp : ∀ a x b y n h h1, cp a x b y n h = some h1 → cp' a x b y n (f h) = some (f h1)) : mi_rc' f (mi_pr L cp) (mi_pr L cp') := by
  intro j as h v h1 e
  unfold mi_pr at e ⊢
  cases hb0 : Nat.beq j 1000 with
  | true =>
    rw [hb0] at e
    dsimp only [cond_true] at e ⊢
    split at e
    · cases e; rfl
    · cases e
  | false =>
    rw [hb0] at e
    dsimp only [cond_false] at e ⊢
    cases hb1 : Nat.beq j 1001 with
    | true =>
      rw [hb1] at e
      dsimp only [cond_true] at e ⊢
      split at e
      · cases e; rfl
      · cases e
    | false =>
      rw [hb1] at e
      dsimp only [cond_false] at e ⊢
      cases hb2 : Nat.beq j 1002 with
      | true =>
        rw [hb2] at e
        dsimp only [cond_true] at e ⊢
        split at e
        · split at e
          · rename_i h2 hh
            cases e
            try dsimp only
            rw [hcp _ _ _ _ _ _ _ hh]
          · cases e
        · cases e
      | false =>
        rw [hb2] at e
        dsimp only [cond_false] at e ⊢
        cases hb3 : Nat.beq j 1003 with
        | true =>
          rw [hb3] at e
          dsimp only [cond_true] at e ⊢
          split at e
          · split at e
            · rename_i l hh
              cases e
              try dsimp only
              try rw [hh]
            · cases e
          · cases e
        | false =>
          rw [hb3] at e
          dsimp only [cond_false] at e ⊢
          cases hb4 : Nat.beq j 1004 with
          | true =>
            rw [hb4] at e
            dsimp only [cond_true] at e ⊢
            split at e
            · split at e
              · rename_i i _ l hh
                try dsimp only
                try rw [hh]
                try dsimp only
                cases hi : mi_in i l.length with
                | true => rw [hi] at e; cases e; rfl
                | false => rw [hi] at e; cases e
              · cases e
            · cases e
          | false => rw [hb4] at e; cases e
section T2
variable {α : Type} {O : mOp α} {PR : Nat → List Value → α → Option (mA α)} {M : List mM} {tb : mB} {ret : Option FieldType} {d : Nat} {r : mA α} {pc nx a b c : Nat} {i : Instr} {w : Value} {ls : mL} {st : List Value} {h : α}
theorem mi_T.hp {st1 : List Value} {h1 : α} (hl : mi_lk tb pc = some (i, nx, a, b, c, w)) (hk : mi_kd i = (false, true)) (hh : mi_hp O i a b st h = some (st1, h1)) (k : mi_T O PR M d tb ret (nx, ls, st1, h1) r) : mi_T O PR M d tb ret (pc, ls, st, h) r := by
  refine mi_T.step (fun cal => ?_) k
  unfold mi_one
  dsimp only
  rw [hl]
  dsimp only
  rw [hk]
  dsimp only
  rw [hh]
theorem mi_T.pl {pc1 : Nat} {ls1 : mL} {st1 : List Value} (hl : mi_lk tb pc = some (i, nx, a, b, c, w)) (hk : mi_kd i = (false, false)) (hh : mi_pl i pc nx a w ls st = some (pc1, ls1, st1)) (k : mi_T O PR M d tb ret (pc1, ls1, st1, h) r) : mi_T O PR M d tb ret (pc, ls, st, h) r := by
  refine mi_T.step (fun cal => ?_) k
  unfold mi_one
  dsimp only
  rw [hl]
  dsimp only
  rw [hk]
  dsimp only
  rw [hh]
/-- int division and remainder by what isn't 0 -/
theorem mi_T.idiv {x y : Int32} (hl : mi_lk tb pc = some (.idiv, nx, a, b, c, w)) (hy : ¬ y = 0) (k : mi_T O PR M d tb ret (nx, ls, .int (x / y) :: st, h) r) : mi_T O PR M d tb ret (pc, ls, .int y :: .int x :: st, h) r := mi_T.pl hl rfl (by simp only [mi_pl, mi_d1, decide_eq_false hy, cond_false]) k
theorem mi_T.irem {x y : Int32} (hl : mi_lk tb pc = some (.irem, nx, a, b, c, w)) (hy : ¬ y = 0) (k : mi_T O PR M d tb ret (nx, ls, .int (x - x / y * y) :: st, h) r) : mi_T O PR M d tb ret (pc, ls, .int y :: .int x :: st, h) r := mi_T.pl hl rfl (by simp only [mi_pl, mi_d1, decide_eq_false hy, cond_false]) k
theorem mi_T.ldiv {x y : Int64} (hl : mi_lk tb pc = some (.ldiv, nx, a, b, c, w)) (hy : ¬ y = 0) (k : mi_T O PR M d tb ret (nx, ls, .long (x / y) :: st, h) r) : mi_T O PR M d tb ret (pc, ls, .long y :: .long x :: st, h) r := mi_T.pl hl rfl (by simp only [mi_pl, mi_d2, decide_eq_false hy, cond_false]) k
theorem mi_T.lrem {x y : Int64} (hl : mi_lk tb pc = some (.lrem, nx, a, b, c, w)) (hy : ¬ y = 0) (k : mi_T O PR M d tb ret (nx, ls, .long (x - x / y * y) :: st, h) r) : mi_T O PR M d tb ret (pc, ls, .long y :: .long x :: st, h) r := mi_T.pl hl rfl (by simp only [mi_pl, mi_d2, decide_eq_false hy, cond_false]) k
/-- a call of a method of the JDK's -/
theorem mi_T.prim {j : Nat} {rest as : List Value} {h1 : α} {v : Option Value} (hl : mi_lk tb pc = some (i, nx, j, b, c, w)) (hk : mi_kd i = (true, false)) (ht : mi_take b [] st = some (as, rest)) (hj : (Nat.ble (mi_cats rest) 8 && mi_rc O c as h) = true) (hm : Nat.blt j 1000 = false)
    (hr : PR j as h = some (v, h1)) (k : mi_T O PR M d tb ret (nx, ls, v.toList ++ rest, h1) r) : mi_T O PR M d tb ret (pc, ls, st, h) r := by
  refine mi_T.step (fun cal => ?_) k
  unfold mi_one
  dsimp only
  rw [hl]
  dsimp only
  rw [hk]
  dsimp only
  unfold mi_cl
  rw [ht]
  dsimp only
  rw [hj, hm]
  dsimp only [cond_true, cond_false]
  rw [hr]
end T2
theorem mi_in_nI {j n : Nat} (hj : j < n) (hn : n < 2 ^ 31) : mi_in (nI j) n = true := by
  unfold mi_in
  rw [decide_eq_false (nI_pos (by omega)), nI_clamp (by omega)]
  simpa using hj
section T3
variable {F : List (List Nat)} {X : Nat × (Nat → Int32)} {sh : List mK} {PR : Nat → List Value → mG → Option (mA mG)} {M : List mM} {tb : mB} {ret : Option FieldType} {d : Nat} {r : mA mG} {pc nx a b c : Nat} {i : Instr} {w : Value} {ls : mL} {st : List Value} {σ : mG}
/-- a load from an int, char or boolean array -/
theorem mi_T.ldI {x : Int32} {q t n : Nat} (j : Nat) (hl : mi_lk tb pc = some (i, nx, a, b, c, w)) (hi : mi_kd i = (false, true)) (hh : ∀ z, mi_hp (mi_O2 F X sh) i a b z σ = mi_al (mi_O2 F X sh) t z σ) (hs : sh[q]? = some (.inl (t, n, false))) (hq : Nat.beq q 999 = false) (ht : Nat.blt t 3 = true) (hn : n < 2 ^ 31) (hx : x = nI j) (hj : j < n)
    (k : mi_T (mi_O2 F X sh) PR M d tb ret (nx, ls, .int (σ.1 q j) :: st, σ) r) : mi_T (mi_O2 F X sh) PR M d tb ret (pc, ls, .int x :: .ref q :: st, σ) r := by
  refine mi_T.hp hl hi ?_ k
  rw [hh]
  subst hx
  simp only [mi_al, mi_O2, mi_ld2, hq, hs, ht, mi_in_nI hj hn, nI_clamp (Nat.lt_trans hj hn), cond_false, Nat.beq_refl, Bool.and_self, cond_true]
theorem mi_T.ldJ {x : Int32} {q n : Nat} (j : Nat) (hl : mi_lk tb pc = some (.laload, nx, a, b, c, w)) (hs : sh[q]? = some (.inl (3, n, true))) (hq : Nat.beq q 999 = false) (hn : n < 2 ^ 31) (hx : x = nI j) (hj : j < n)
    (k : mi_T (mi_O2 F X sh) PR M d tb ret (nx, ls, .long (σ.2 q j) :: st, σ) r) : mi_T (mi_O2 F X sh) PR M d tb ret (pc, ls, .int x :: .ref q :: st, σ) r := by
  refine mi_T.hp hl rfl ?_ k
  subst hx
  simp only [mi_hp, mi_al, mi_O2, mi_ld2, hq, hs, mi_in_nI hj hn, nI_clamp (Nat.lt_trans hj hn), cond_false, Nat.beq_refl, Bool.and_self, cond_true]
theorem mi_T.stI {x v : Int32} {q t n : Nat} (j : Nat) (hl : mi_lk tb pc = some (i, nx, a, b, c, w)) (hi : mi_kd i = (false, true)) (hh : ∀ z, mi_hp (mi_O2 F X sh) i a b z σ = mi_as (mi_O2 F X sh) t z σ) (hs : sh[q]? = some (.inl (t, n, false))) (ht : Nat.blt t 3 = true) (hn : n < 2 ^ 31) (hx : x = nI j) (hj : j < n)
    (k : mi_T (mi_O2 F X sh) PR M d tb ret (nx, ls, st, (mi_uc σ.1 q (upd (σ.1 q) j (mi_nar t v)), σ.2)) r) : mi_T (mi_O2 F X sh) PR M d tb ret (pc, ls, .int v :: .int x :: .ref q :: st, σ) r := by
  refine mi_T.hp hl hi ?_ k
  rw [hh]
  subst hx
  simp only [mi_as, mi_O2, mi_sa2, hs, ht, mi_in_nI hj hn, nI_clamp (Nat.lt_trans hj hn), Nat.beq_refl, Bool.and_self, cond_true]
theorem mi_T.stJ {x : Int32} {v : Int64} {q n : Nat} (j : Nat) (hl : mi_lk tb pc = some (.lastore, nx, a, b, c, w)) (hs : sh[q]? = some (.inl (3, n, true))) (hn : n < 2 ^ 31) (hx : x = nI j) (hj : j < n)
    (k : mi_T (mi_O2 F X sh) PR M d tb ret (nx, ls, st, (σ.1, mi_uc σ.2 q (vp_updL (σ.2 q) j v))) r) : mi_T (mi_O2 F X sh) PR M d tb ret (pc, ls, .long v :: .int x :: .ref q :: st, σ) r := by
  refine mi_T.hp hl rfl ?_ k
  subst hx
  simp only [mi_hp, mi_as, mi_O2, mi_sa2, hs, mi_in_nI hj hn, nI_clamp (Nat.lt_trans hj hn), Nat.beq_refl, Bool.and_self, cond_true]
end T3
section T4
variable {α : Type} {O : mOp α} {PR : Nat → List Value → α → Option (mA α)} {M : List mM} {tb : mB} {ret : Option FieldType} {d : Nat} {r q : mA α} {pc nx a b c : Nat} {w : Value} {ls : mL} {s : mS α} {h : α}
theorem mi_T.fin (e : r = q) (h1 : ∀ cal, mi_one O PR cal tb ret s = some (.inr q)) : mi_T O PR M d tb ret s r := e ▸ mi_T.done h1
theorem mi_T.finz {v : Int32} (hl : mi_lk tb pc = some (.ireturn, nx, a, b, c, w)) (hb : v = 0 ∨ v = 1) (e : r = (some (.int v), h)) : mi_T O PR M d tb (some .boolean) (pc, ls, [.int v], h) r := by
  refine mi_T.fin e (fun cal => ?_)
  unfold mi_one
  dsimp only
  rw [hl]
  dsimp only [mi_kd]
  have hn : mi_nr .boolean v = true := by
    unfold mi_nr
    rcases hb with rfl | rfl <;> rfl
  unfold mi_re
  dsimp only
  rw [hn]
  rfl
end T4
section T5
variable {F : List (List Nat)} {X : Nat × (Nat → Int32)} {sh : List mK} {PR : Nat → List Value → mG → Option (mA mG)} {M : List mM} {tb : mB} {ret : Option FieldType} {d : Nat} {r : mA mG} {pc nx a b c : Nat} {w : Value} {ls : mL} {st : List Value} {σ : mG} {x v : Int32} {y : Int64} {q n : Nat}
theorem mi_T.li (hl : mi_lk tb pc = some (.iaload, nx, a, b, c, w)) (hs : sh[q]? = some (.inl (0, n, false))) (hb : mi_in x n = true) (k : mi_T (mi_O2 F X sh) PR M d tb ret (nx, ls, .int (σ.1 q x.toNatClampNeg) :: st, σ) r) (hq : Nat.beq q 999 = false := by rfl) : mi_T (mi_O2 F X sh) PR M d tb ret (pc, ls, .int x :: .ref q :: st, σ) r :=
  mi_T.hp hl rfl (by simp only [mi_hp, mi_al, mi_O2, mi_ld2, hq, hs, hb, cond_false, Nat.beq_refl, Bool.and_self, cond_true]; rfl) k
theorem mi_T.lc (hl : mi_lk tb pc = some (.caload, nx, a, b, c, w)) (hs : sh[q]? = some (.inl (1, n, false))) (hb : mi_in x n = true) (k : mi_T (mi_O2 F X sh) PR M d tb ret (nx, ls, .int (σ.1 q x.toNatClampNeg) :: st, σ) r) (hq : Nat.beq q 999 = false := by rfl) : mi_T (mi_O2 F X sh) PR M d tb ret (pc, ls, .int x :: .ref q :: st, σ) r :=
  mi_T.hp hl rfl (by simp only [mi_hp, mi_al, mi_O2, mi_ld2, hq, hs, hb, cond_false, Nat.beq_refl, Bool.and_self, cond_true]; rfl) k
theorem mi_T.lz (hl : mi_lk tb pc = some (.baload, nx, a, b, c, w)) (hs : sh[q]? = some (.inl (2, n, false))) (hb : mi_in x n = true) (k : mi_T (mi_O2 F X sh) PR M d tb ret (nx, ls, .int (σ.1 q x.toNatClampNeg) :: st, σ) r) (hq : Nat.beq q 999 = false := by rfl) : mi_T (mi_O2 F X sh) PR M d tb ret (pc, ls, .int x :: .ref q :: st, σ) r :=
  mi_T.hp hl rfl (by simp only [mi_hp, mi_al, mi_O2, mi_ld2, hq, hs, hb, cond_false, Nat.beq_refl, Bool.and_self, cond_true]; rfl) k
theorem mi_T.lj (hl : mi_lk tb pc = some (.laload, nx, a, b, c, w)) (hs : sh[q]? = some (.inl (3, n, true))) (hb : mi_in x n = true) (k : mi_T (mi_O2 F X sh) PR M d tb ret (nx, ls, .long (σ.2 q x.toNatClampNeg) :: st, σ) r) (hq : Nat.beq q 999 = false := by rfl) : mi_T (mi_O2 F X sh) PR M d tb ret (pc, ls, .int x :: .ref q :: st, σ) r :=
  mi_T.hp hl rfl (by simp only [mi_hp, mi_al, mi_O2, mi_ld2, hq, hs, hb, cond_false, Nat.beq_refl, Bool.and_self, cond_true]) k
theorem mi_T.si (hl : mi_lk tb pc = some (.iastore, nx, a, b, c, w)) (hs : sh[q]? = some (.inl (0, n, false))) (hb : mi_in x n = true) (k : mi_T (mi_O2 F X sh) PR M d tb ret (nx, ls, st, (mi_uc σ.1 q (upd (σ.1 q) x.toNatClampNeg v), σ.2)) r) : mi_T (mi_O2 F X sh) PR M d tb ret (pc, ls, .int v :: .int x :: .ref q :: st, σ) r :=
  mi_T.hp hl rfl (by simp only [mi_hp, mi_as, mi_O2, mi_sa2, hs, hb, Nat.beq_refl, Bool.and_self, cond_true]; rfl) k
theorem mi_T.sc (hl : mi_lk tb pc = some (.castore, nx, a, b, c, w)) (hs : sh[q]? = some (.inl (1, n, false))) (hb : mi_in x n = true) (k : mi_T (mi_O2 F X sh) PR M d tb ret (nx, ls, st, (mi_uc σ.1 q (upd (σ.1 q) x.toNatClampNeg (mi_nar 1 v)), σ.2)) r) : mi_T (mi_O2 F X sh) PR M d tb ret (pc, ls, .int v :: .int x :: .ref q :: st, σ) r :=
  mi_T.hp hl rfl (by simp only [mi_hp, mi_as, mi_O2, mi_sa2, hs, hb, Nat.beq_refl, Bool.and_self, cond_true]; rfl) k
theorem mi_T.sz (hl : mi_lk tb pc = some (.bastore, nx, a, b, c, w)) (hs : sh[q]? = some (.inl (2, n, false))) (hb : mi_in x n = true) (k : mi_T (mi_O2 F X sh) PR M d tb ret (nx, ls, st, (mi_uc σ.1 q (upd (σ.1 q) x.toNatClampNeg (mi_nar 2 v)), σ.2)) r) : mi_T (mi_O2 F X sh) PR M d tb ret (pc, ls, .int v :: .int x :: .ref q :: st, σ) r :=
  mi_T.hp hl rfl (by simp only [mi_hp, mi_as, mi_O2, mi_sa2, hs, hb, Nat.beq_refl, Bool.and_self, cond_true]; rfl) k
theorem mi_T.sj (hl : mi_lk tb pc = some (.lastore, nx, a, b, c, w)) (hs : sh[q]? = some (.inl (3, n, true))) (hb : mi_in x n = true) (k : mi_T (mi_O2 F X sh) PR M d tb ret (nx, ls, st, (σ.1, mi_uc σ.2 q (vp_updL (σ.2 q) x.toNatClampNeg y))) r) : mi_T (mi_O2 F X sh) PR M d tb ret (pc, ls, .long y :: .int x :: .ref q :: st, σ) r :=
  mi_T.hp hl rfl (by simp only [mi_hp, mi_as, mi_O2, mi_sa2, hs, hb, Nat.beq_refl, Bool.and_self, cond_true]) k
end T5
