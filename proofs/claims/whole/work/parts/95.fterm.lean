/-! Labels, requests and sessions of the class -/
def lbs (m : Nat) (codes sizes : Nat → Int32) (sl : Nat → List Nat) : Prop := ∀ i, i < m → okL (sl i) ∧ iLab i codes sizes (sl i)
theorem an_fs {f : Nat → Bool} : ∀ n, fs f n = none ↔ an f n = false := by
  intro n
  induction n with
  | zero => exact ⟨fun _ => rfl, fun _ => rfl⟩
  | succ k ih =>
    cases hf : fs f k with
    | some c =>
      rw [fs_s hf]
      have : an f k = true := by
        cases hh : an f k with
        | true => rfl
        | false => rw [ih.mpr hh] at hf; cases hf
      constructor
      · exact fun z => (by cases z)
      · intro z
        have z : (an f k || f k) = false := z
        rw [this] at z
        cases z
    | none =>
      rw [fs_n hf]
      have h1 := ih.mp hf
      show _ ↔ (an f k || f k) = false
      rw [h1, Bool.false_or]
      cases f k with
      | true => exact ⟨fun z => (by cases z), fun z => (by cases z)⟩
      | false => exact ⟨fun _ => rfl, fun _ => rfl⟩
theorem chr_I {c : Nat} (h : c ≤ 126) : mi_nar 1 ((nI c).toUInt32 % 65536).toInt32 = nI c := by
  rw [pk_char, pk_tn (by omega), Nat.mod_eq_of_lt (by omega)]
  exact nar1 h
section
variable {X : Nat × (Nat → Int32)} {d : Nat} {T : List Nat} {σ : mG}
theorem K113a {m : Nat} {sl : Nat → List Nat} (hm : m ≤ 20) (hc : σ.1 30 3 = nI m) (hb : lbs m (σ.1 31) (σ.1 32) sl) {i j : Nat} (hi : i < m) (hj : j < (sl i).length) : RR X (d + 1) 113 [.ref 30, .int (nI i), .int (nI j)] σ (some (.int (nI ((sl i).getD j 0))), σ) := by
  obtain ⟨⟨o1, o2, -⟩, l1, l2⟩ := hb i hi
  have z1 : ¬ nI i < 0 := nI_pos (by omega)
  have z2 : ¬ σ.1 30 3 ≤ nI i := by rw [hc]; exact nI_ge hi (by omega)
  have z3 : ¬ nI j < 0 := nI_pos (by omega)
  have z4 : ¬ σ.1 32 (nI i).toNatClampNeg ≤ nI j := by rw [nI_clamp (by omega), l1]; exact nI_ge hj (by omega)
  have e8 : nI i * 8 + nI j = nI (8 * i + j) := by rw [show (8 : Int32) = nI 8 from rfl, pk_mul, nI_add, Nat.mul_comm]
  refine mi_R.of rfl rfl (R113a_0 (fun y => absurd y z1) (fun _ y => absurd y z2) (fun _ _ y => absurd y z3) (fun _ _ _ => mi_in_nI (by omega) (by omega)) (fun _ _ _ y => absurd y z4) (fun _ _ _ _ => ?_) (fun _ _ _ _ => ?_))
  · rw [e8]
    exact mi_in_nI (by omega) (by omega)
  · rw [e8, nI_clamp (by omega), l2 j hj]
theorem L114a {m : Nat} {sl : Nat → List Nat} (hT : okT T) (hx : cT (σ.1 1 1) (σ.1 2) T) (hm : m ≤ 20) (hc : σ.1 30 3 = nI m) (hb : lbs m (σ.1 31) (σ.1 32) sl) {i p q : Nat} (hi : i < m) (hq : q ≤ T.length) (hpq : p + (sl i).length = q) : ∀ (k j : Nat), j + k = (sl i).length → TT X (d + 1) tb114 (some .boolean) (30, [some (.ref 30), some (.int (nI i)), some (.ref 1), some (.int (nI p)), some (.int (nI q)), some (.int (nI (p + j)))], [], σ) (some (.int (bI (decide ((sl i).drop j = seg T (p + j) q)))), σ) := by
  have hl := hT.1
  obtain ⟨⟨o1, o2, o3⟩, -⟩ := hb i hi
  intro k
  induction k with
  | zero =>
    intro j hj
    have z : nI q ≤ nI (p + j) := nI_le (by omega) (by omega)
    refine R114a_30 (v1 := 0) (σ1 := σ) (v2 := 0) (σ2 := σ) (fun _ => ?_) (fun y => absurd z y) (fun y => absurd z y) (fun y => absurd z y) (fun y => absurd z y)
    rw [List.drop_eq_nil_of_le (by omega), seg_nil (by omega)]
    rfl
  | succ k ih =>
    intro j hj
    have z : ¬ nI q ≤ nI (p + j) := nI_ge (by omega) (by omega)
    have hjl : j < (sl i).length := by omega
    have ht := tc_hi hT (p + j)
    have hg : (sl i).getD j 0 ≤ 126 := by
      rw [List.getD_eq_getElem?_getD, List.getElem?_eq_getElem hjl]
      exact (o3 _ (List.getElem_mem _)).2
    have e : nI ((sl i).getD j 0) = nI (tc T (p + j)) ↔ (sl i).getD j 0 = tc T (p + j) := nI_eq (by omega) (by omega)
    refine R114a_30 (v1 := nI ((sl i).getD j 0)) (σ1 := σ) (v2 := nI (tc T (p + j))) (σ2 := σ) (fun y => absurd y z) (fun _ => ?_) (fun _ => K39c hT hx (by omega)) (fun _ y => ?_) (fun _ y => ?_)
    · rw [pk_sub (by omega), Nat.add_sub_cancel_left]
      exact K113a hm hc hb hi hjl
    · have t := ih (j + 1) (by omega)
      have : decide ((sl i).drop j = seg T (p + j) q) = decide ((sl i).drop (j + 1) = seg T (p + (j + 1)) q) := by
        rw [drop_getD hjl, seg_cons (by omega) hq, e.mp y]
        exact decide_eq_decide.mpr ⟨fun w => (List.cons.inj w).2, fun w => by rw [show p + j + 1 = p + (j + 1) by omega, w]⟩
      rw [this, nI_1]
      exact t
    · rw [drop_getD hjl, seg_cons (by omega) hq, decide_eq_false fun w => y (e.mpr (List.cons.inj w).1)]
      rfl
theorem K114a {m : Nat} {sl : Nat → List Nat} (hT : okT T) (hx : cT (σ.1 1 1) (σ.1 2) T) (hm : m ≤ 20) (hc : σ.1 30 3 = nI m) (hb : lbs m (σ.1 31) (σ.1 32) sl) {i p q : Nat} (hi : i < m) (hp : p ≤ q) (hq : q ≤ T.length) : RR X (d + 2) 114 [.ref 30, .int (nI i), .ref 1, .int (nI p), .int (nI q)] σ (some (.int (bI (decide (sl i = seg T p q)))), σ) := by
  have hl := hT.1
  obtain ⟨⟨o1, o2, o3⟩, l1, -⟩ := hb i hi
  have z1 : ¬ nI i < 0 := nI_pos (by omega)
  have z2 : ¬ σ.1 30 3 ≤ nI i := by rw [hc]; exact nI_ge hi (by omega)
  have e : σ.1 32 (nI i).toNatClampNeg = nI q - nI p ↔ p + (sl i).length = q := by
    rw [nI_clamp (by omega), l1, pk_sub hp, nI_eq (by omega) (by omega)]
    omega
  refine mi_R.of rfl rfl (R114a_0 (fun y => absurd y z1) (fun _ y => absurd y z2) (fun _ _ => mi_in_nI (by omega) (by omega)) (fun _ _ y => ?_) (fun _ _ y => ?_))
  · have := L114a (X := X) (d := d) hT hx hm hc hb hi hq (e.mp y) (sl i).length 0 (by omega)
    exact this
  · rw [decide_eq_false fun w => y (e.mpr (by have := seg_len (p := p) hq; rw [← w] at this; omega))]
    rfl
theorem K111a {m : Nat} (hm : m ≤ 20) (hc : σ.1 30 3 = nI m) (h0 : σ.1 30 0 = 20) : RR X (d + 1) 111 [.ref 30] σ (some (.int (bI (decide (20 ≤ m)))), σ) := by
  have e : σ.1 30 3 < σ.1 30 0 ↔ m < 20 := by
    rw [hc, h0]
    exact nI_ltI (b := 20) (by omega) (by omega)
  refine mi_R.of rfl rfl (R111a_0 (fun y => ?_) (fun y => ?_))
  · rw [decide_eq_false (by have := e.mp y; omega)]
    rfl
  · rw [decide_eq_true (show 20 ≤ m from Nat.not_lt.mp fun w => y (e.mpr w))]
    rfl
def fLa (m : Nat) (σ σ' : mG) : Prop := σ'.2 = σ.2 ∧ (∀ c, c ≠ 30 → c ≠ 31 → c ≠ 32 → σ'.1 c = σ.1 c) ∧ (∀ k, k ≠ 3 → σ'.1 30 k = σ.1 30 k) ∧ (∀ i, i ≠ m → σ'.1 32 i = σ.1 32 i) ∧ ∀ k, k < 8 * m ∨ 8 * m + 8 ≤ k → σ'.1 31 k = σ.1 31 k
theorem L112a {m : Nat} (hT : okT T) {p q : Nat} (hp : p ≤ q) (hq : q ≤ T.length) (h8 : q - p ≤ 8) (hm : m < 20) : ∀ (k j : Nat) (σ : mG), j + k = q - p → cT (σ.1 1 1) (σ.1 2) T → σ.1 30 3 = nI m → (∀ i, i < j → σ.1 31 (8 * m + i) = nI (tc T (p + i))) → ∃ σ', TT X (d + 1) tb112 none (19, [some (.ref 30), some (.ref 1), some (.int (nI p)), some (.int (nI q)), some (.int (nI (p + j)))], [], σ) (none, σ') ∧ fLa m σ σ' ∧ σ'.1 30 3 = nI (m + 1) ∧ σ'.1 32 m = nI (q - p) ∧ ∀ i, i < q - p → σ'.1 31 (8 * m + i) = nI (tc T (p + i)) := by
  have hl := hT.1
  intro k
  induction k with
  | zero =>
    intro j σ hj hx hc hw
    have z : nI q ≤ nI (p + j) := nI_le (by omega) (by omega)
    refine ⟨_, R112a_19 (v1 := 0) (σ1 := σ) (fun _ => by rw [hc]; exact mi_in_nI (by omega) (by omega)) (fun _ => rfl) (fun y => absurd z y) (fun y => absurd z y) (fun y => absurd z y), ⟨rfl, fun c h1 h2 h3 => (mi_uc_ne _ _ h1).trans (mi_uc_ne _ _ h3), fun k hk => mi_upd_ne _ _ hk, fun i hi => ?_, fun k _ => rfl⟩, ?_, ?_, fun i hi => hw i (by omega)⟩
    · refine mi_upd_ne _ _ ?_
      rw [hc, nI_clamp (by omega)]
      exact hi
    · show upd (σ.1 30) 3 (σ.1 30 3 + 1) 3 = _
      rw [mi_upd_same, hc, nI_1]
    · show upd (σ.1 32) _ _ m = _
      rw [hc, nI_clamp (by omega), mi_upd_same, pk_sub hp]
  | succ k ih =>
    intro j σ hj hx hc hw
    have z : ¬ nI q ≤ nI (p + j) := nI_ge (by omega) (by omega)
    have ht := tc_hi hT (p + j)
    have e8 : σ.1 30 3 * 8 + nI (p + j) - nI p = nI (8 * m + j) := by
      rw [hc, show (8 : Int32) = nI 8 from rfl, pk_mul, nI_add, pk_sub (by omega)]
      congr 1
      omega
    let s1 : mG := (mi_uc σ.1 31 (upd (σ.1 31) (8 * m + j) (nI (tc T (p + j)))), σ.2)
    have hs : ∀ c, c ≠ 31 → s1.1 c = σ.1 c := fun c hc' => mi_uc_ne _ _ hc'
    obtain ⟨σ', a1, ⟨b0, b1, b2, b3, b4⟩, a3, a4, a5⟩ := ih (j + 1) s1 (by omega) (by rw [hs 1 (by omega), hs 2 (by omega)]; exact hx) (by rw [hs 30 (by omega)]; exact hc) (fun i hi => by
      show upd (σ.1 31) _ _ _ = _
      by_cases e : i = j
      · rw [e, mi_upd_same]
      · rw [mi_upd_ne _ _ (by omega)]
        exact hw i (by omega))
    refine ⟨σ', R112a_19 (fun y => absurd y z) (fun y => absurd y z) (fun _ => K39c hT hx (by omega)) (fun _ => ?_) (fun _ => ?_), ⟨b0, fun c h1 h2 h3 => (b1 c h1 h2 h3).trans (hs c h2), fun k hk => (b2 k hk).trans (by rw [hs 30 (by omega)]), fun i hi => (b3 i hi).trans (by rw [hs 32 (by omega)]), fun k hk => (b4 k hk).trans (mi_upd_ne _ _ (by omega))⟩, a3, a4, a5⟩
    · rw [e8]
      exact mi_in_nI (by omega) (by omega)
    · rw [e8, nI_clamp (by omega), chr_I ht, nI_1]
      exact a1
theorem K112a {m : Nat} (hT : okT T) (hx : cT (σ.1 1 1) (σ.1 2) T) {p q : Nat} (hp : p ≤ q) (hq : q ≤ T.length) (h8 : q - p ≤ 8) (hm : m < 20) (hc : σ.1 30 3 = nI m) (h0 : σ.1 30 0 = 20) : ∃ σ', RR X (d + 2) 112 [.ref 30, .ref 1, .int (nI p), .int (nI q)] σ (none, σ') ∧ fLa m σ σ' ∧ σ'.1 30 3 = nI (m + 1) ∧ σ'.1 32 m = nI (q - p) ∧ ∀ i, i < q - p → σ'.1 31 (8 * m + i) = nI (tc T (p + i)) := by
  have hl := hT.1
  obtain ⟨σ', a, b⟩ := L112a (X := X) (d := d) hT hp hq h8 hm (q - p) 0 σ (by omega) hx hc (fun i hi => absurd hi (Nat.not_lt_zero i))
  have k111 := K111a (X := X) (d := d) (m := m) (by omega) hc h0
  rw [decide_eq_false (p := 20 ≤ m) (by omega)] at k111
  have s8 := sub_le (c := 8) hp (by omega) (by omega)
  exact ⟨σ', mi_R.of rfl rfl (R112a_0 k111 (fun y => absurd rfl y) (fun _ _ => a) (fun _ y => absurd (s8.mpr h8) y)), b⟩
theorem lbsa {m : Nat} {sl : Nat → List Nat} {σ' : mG} {p q : Nat} (hq : q ≤ T.length) (hb : lbs m (σ.1 31) (σ.1 32) sl) (f : fLa m σ σ') (e1 : σ'.1 32 m = nI (q - p)) (e2 : ∀ i, i < q - p → σ'.1 31 (8 * m + i) = nI (tc T (p + i))) (ho : okL (seg T p q)) : lbs (m + 1) (σ'.1 31) (σ'.1 32) (fun i => if i = m then seg T p q else sl i) := by
  intro i hi
  have hlen : (seg T p q).length = q - p := seg_len hq
  by_cases e : i = m
  · subst e
    show okL (if i = i then _ else _) ∧ iLab i _ _ (if i = i then _ else _)
    rw [if_pos rfl]
    refine ⟨ho, ?_, fun j hj => ?_⟩
    · rw [e1, hlen]
    · rw [hlen] at hj
      rw [e2 j hj, seg_get hj]
  · show okL (if i = m then _ else _) ∧ iLab i _ _ (if i = m then _ else _)
    rw [if_neg e]
    obtain ⟨h1, h2, h3⟩ := hb i (by omega)
    refine ⟨h1, ?_, fun j hj => ?_⟩
    · rw [f.2.2.2.1 i e]
      exact h2
    · have := h1.2.1
      rw [f.2.2.2.2 (8 * i + j) (by omega)]
      exact h3 j hj
theorem K113b {m : Nat} {sl : Nat → List Nat} (hm : m ≤ 40) (hc : σ.1 33 3 = nI m) (hb : lbs m (σ.1 34) (σ.1 35) sl) {i j : Nat} (hi : i < m) (hj : j < (sl i).length) : RR X (d + 1) 113 [.ref 33, .int (nI i), .int (nI j)] σ (some (.int (nI ((sl i).getD j 0))), σ) := by
  obtain ⟨⟨o1, o2, -⟩, l1, l2⟩ := hb i hi
  have z1 : ¬ nI i < 0 := nI_pos (by omega)
  have z2 : ¬ σ.1 33 3 ≤ nI i := by rw [hc]; exact nI_ge hi (by omega)
  have z3 : ¬ nI j < 0 := nI_pos (by omega)
  have z4 : ¬ σ.1 35 (nI i).toNatClampNeg ≤ nI j := by rw [nI_clamp (by omega), l1]; exact nI_ge hj (by omega)
  have e8 : nI i * 8 + nI j = nI (8 * i + j) := by rw [show (8 : Int32) = nI 8 from rfl, pk_mul, nI_add, Nat.mul_comm]
  refine mi_R.of rfl rfl (R113b_0 (fun y => absurd y z1) (fun _ y => absurd y z2) (fun _ _ y => absurd y z3) (fun _ _ _ => mi_in_nI (by omega) (by omega)) (fun _ _ _ y => absurd y z4) (fun _ _ _ _ => ?_) (fun _ _ _ _ => ?_))
  · rw [e8]
    exact mi_in_nI (by omega) (by omega)
  · rw [e8, nI_clamp (by omega), l2 j hj]
theorem L114b {m : Nat} {sl : Nat → List Nat} (hT : okT T) (hx : cT (σ.1 1 1) (σ.1 2) T) (hm : m ≤ 40) (hc : σ.1 33 3 = nI m) (hb : lbs m (σ.1 34) (σ.1 35) sl) {i p q : Nat} (hi : i < m) (hq : q ≤ T.length) (hpq : p + (sl i).length = q) : ∀ (k j : Nat), j + k = (sl i).length → TT X (d + 1) tb114 (some .boolean) (30, [some (.ref 33), some (.int (nI i)), some (.ref 1), some (.int (nI p)), some (.int (nI q)), some (.int (nI (p + j)))], [], σ) (some (.int (bI (decide ((sl i).drop j = seg T (p + j) q)))), σ) := by
  have hl := hT.1
  obtain ⟨⟨o1, o2, o3⟩, -⟩ := hb i hi
  intro k
  induction k with
  | zero =>
    intro j hj
    have z : nI q ≤ nI (p + j) := nI_le (by omega) (by omega)
    refine R114b_30 (v1 := 0) (σ1 := σ) (v2 := 0) (σ2 := σ) (fun _ => ?_) (fun y => absurd z y) (fun y => absurd z y) (fun y => absurd z y) (fun y => absurd z y)
    rw [List.drop_eq_nil_of_le (by omega), seg_nil (by omega)]
    rfl
  | succ k ih =>
    intro j hj
    have z : ¬ nI q ≤ nI (p + j) := nI_ge (by omega) (by omega)
    have hjl : j < (sl i).length := by omega
    have ht := tc_hi hT (p + j)
    have hg : (sl i).getD j 0 ≤ 126 := by
      rw [List.getD_eq_getElem?_getD, List.getElem?_eq_getElem hjl]
      exact (o3 _ (List.getElem_mem _)).2
    have e : nI ((sl i).getD j 0) = nI (tc T (p + j)) ↔ (sl i).getD j 0 = tc T (p + j) := nI_eq (by omega) (by omega)
    refine R114b_30 (v1 := nI ((sl i).getD j 0)) (σ1 := σ) (v2 := nI (tc T (p + j))) (σ2 := σ) (fun y => absurd y z) (fun _ => ?_) (fun _ => K39c hT hx (by omega)) (fun _ y => ?_) (fun _ y => ?_)
    · rw [pk_sub (by omega), Nat.add_sub_cancel_left]
      exact K113b hm hc hb hi hjl
    · have t := ih (j + 1) (by omega)
      have : decide ((sl i).drop j = seg T (p + j) q) = decide ((sl i).drop (j + 1) = seg T (p + (j + 1)) q) := by
        rw [drop_getD hjl, seg_cons (by omega) hq, e.mp y]
        exact decide_eq_decide.mpr ⟨fun w => (List.cons.inj w).2, fun w => by rw [show p + j + 1 = p + (j + 1) by omega, w]⟩
      rw [this, nI_1]
      exact t
    · rw [drop_getD hjl, seg_cons (by omega) hq, decide_eq_false fun w => y (e.mpr (List.cons.inj w).1)]
      rfl
theorem K114b {m : Nat} {sl : Nat → List Nat} (hT : okT T) (hx : cT (σ.1 1 1) (σ.1 2) T) (hm : m ≤ 40) (hc : σ.1 33 3 = nI m) (hb : lbs m (σ.1 34) (σ.1 35) sl) {i p q : Nat} (hi : i < m) (hp : p ≤ q) (hq : q ≤ T.length) : RR X (d + 2) 114 [.ref 33, .int (nI i), .ref 1, .int (nI p), .int (nI q)] σ (some (.int (bI (decide (sl i = seg T p q)))), σ) := by
  have hl := hT.1
  obtain ⟨⟨o1, o2, o3⟩, l1, -⟩ := hb i hi
  have z1 : ¬ nI i < 0 := nI_pos (by omega)
  have z2 : ¬ σ.1 33 3 ≤ nI i := by rw [hc]; exact nI_ge hi (by omega)
  have e : σ.1 35 (nI i).toNatClampNeg = nI q - nI p ↔ p + (sl i).length = q := by
    rw [nI_clamp (by omega), l1, pk_sub hp, nI_eq (by omega) (by omega)]
    omega
  refine mi_R.of rfl rfl (R114b_0 (fun y => absurd y z1) (fun _ y => absurd y z2) (fun _ _ => mi_in_nI (by omega) (by omega)) (fun _ _ y => ?_) (fun _ _ y => ?_))
  · have := L114b (X := X) (d := d) hT hx hm hc hb hi hq (e.mp y) (sl i).length 0 (by omega)
    exact this
  · rw [decide_eq_false fun w => y (e.mpr (by have := seg_len (p := p) hq; rw [← w] at this; omega))]
    rfl
theorem K111b {m : Nat} (hm : m ≤ 40) (hc : σ.1 33 3 = nI m) (h0 : σ.1 33 0 = 40) : RR X (d + 1) 111 [.ref 33] σ (some (.int (bI (decide (40 ≤ m)))), σ) := by
  have e : σ.1 33 3 < σ.1 33 0 ↔ m < 40 := by
    rw [hc, h0]
    exact nI_ltI (b := 40) (by omega) (by omega)
  refine mi_R.of rfl rfl (R111b_0 (fun y => ?_) (fun y => ?_))
  · rw [decide_eq_false (by have := e.mp y; omega)]
    rfl
  · rw [decide_eq_true (show 40 ≤ m from Nat.not_lt.mp fun w => y (e.mpr w))]
    rfl
def fLb (m : Nat) (σ σ' : mG) : Prop := σ'.2 = σ.2 ∧ (∀ c, c ≠ 33 → c ≠ 34 → c ≠ 35 → σ'.1 c = σ.1 c) ∧ (∀ k, k ≠ 3 → σ'.1 33 k = σ.1 33 k) ∧ (∀ i, i ≠ m → σ'.1 35 i = σ.1 35 i) ∧ ∀ k, k < 8 * m ∨ 8 * m + 8 ≤ k → σ'.1 34 k = σ.1 34 k
theorem L112b {m : Nat} (hT : okT T) {p q : Nat} (hp : p ≤ q) (hq : q ≤ T.length) (h8 : q - p ≤ 8) (hm : m < 40) : ∀ (k j : Nat) (σ : mG), j + k = q - p → cT (σ.1 1 1) (σ.1 2) T → σ.1 33 3 = nI m → (∀ i, i < j → σ.1 34 (8 * m + i) = nI (tc T (p + i))) → ∃ σ', TT X (d + 1) tb112 none (19, [some (.ref 33), some (.ref 1), some (.int (nI p)), some (.int (nI q)), some (.int (nI (p + j)))], [], σ) (none, σ') ∧ fLb m σ σ' ∧ σ'.1 33 3 = nI (m + 1) ∧ σ'.1 35 m = nI (q - p) ∧ ∀ i, i < q - p → σ'.1 34 (8 * m + i) = nI (tc T (p + i)) := by
  have hl := hT.1
  intro k
  induction k with
  | zero =>
    intro j σ hj hx hc hw
    have z : nI q ≤ nI (p + j) := nI_le (by omega) (by omega)
    refine ⟨_, R112b_19 (v1 := 0) (σ1 := σ) (fun _ => by rw [hc]; exact mi_in_nI (by omega) (by omega)) (fun _ => rfl) (fun y => absurd z y) (fun y => absurd z y) (fun y => absurd z y), ⟨rfl, fun c h1 h2 h3 => (mi_uc_ne _ _ h1).trans (mi_uc_ne _ _ h3), fun k hk => mi_upd_ne _ _ hk, fun i hi => ?_, fun k _ => rfl⟩, ?_, ?_, fun i hi => hw i (by omega)⟩
    · refine mi_upd_ne _ _ ?_
      rw [hc, nI_clamp (by omega)]
      exact hi
    · show upd (σ.1 33) 3 (σ.1 33 3 + 1) 3 = _
      rw [mi_upd_same, hc, nI_1]
    · show upd (σ.1 35) _ _ m = _
      rw [hc, nI_clamp (by omega), mi_upd_same, pk_sub hp]
  | succ k ih =>
    intro j σ hj hx hc hw
    have z : ¬ nI q ≤ nI (p + j) := nI_ge (by omega) (by omega)
    have ht := tc_hi hT (p + j)
    have e8 : σ.1 33 3 * 8 + nI (p + j) - nI p = nI (8 * m + j) := by
      rw [hc, show (8 : Int32) = nI 8 from rfl, pk_mul, nI_add, pk_sub (by omega)]
      congr 1
      omega
    let s1 : mG := (mi_uc σ.1 34 (upd (σ.1 34) (8 * m + j) (nI (tc T (p + j)))), σ.2)
    have hs : ∀ c, c ≠ 34 → s1.1 c = σ.1 c := fun c hc' => mi_uc_ne _ _ hc'
    obtain ⟨σ', a1, ⟨b0, b1, b2, b3, b4⟩, a3, a4, a5⟩ := ih (j + 1) s1 (by omega) (by rw [hs 1 (by omega), hs 2 (by omega)]; exact hx) (by rw [hs 33 (by omega)]; exact hc) (fun i hi => by
      show upd (σ.1 34) _ _ _ = _
      by_cases e : i = j
      · rw [e, mi_upd_same]
      · rw [mi_upd_ne _ _ (by omega)]
        exact hw i (by omega))
    refine ⟨σ', R112b_19 (fun y => absurd y z) (fun y => absurd y z) (fun _ => K39c hT hx (by omega)) (fun _ => ?_) (fun _ => ?_), ⟨b0, fun c h1 h2 h3 => (b1 c h1 h2 h3).trans (hs c h2), fun k hk => (b2 k hk).trans (by rw [hs 33 (by omega)]), fun i hi => (b3 i hi).trans (by rw [hs 35 (by omega)]), fun k hk => (b4 k hk).trans (mi_upd_ne _ _ (by omega))⟩, a3, a4, a5⟩
    · rw [e8]
      exact mi_in_nI (by omega) (by omega)
    · rw [e8, nI_clamp (by omega), chr_I ht, nI_1]
      exact a1
theorem K112b {m : Nat} (hT : okT T) (hx : cT (σ.1 1 1) (σ.1 2) T) {p q : Nat} (hp : p ≤ q) (hq : q ≤ T.length) (h8 : q - p ≤ 8) (hm : m < 40) (hc : σ.1 33 3 = nI m) (h0 : σ.1 33 0 = 40) : ∃ σ', RR X (d + 2) 112 [.ref 33, .ref 1, .int (nI p), .int (nI q)] σ (none, σ') ∧ fLb m σ σ' ∧ σ'.1 33 3 = nI (m + 1) ∧ σ'.1 35 m = nI (q - p) ∧ ∀ i, i < q - p → σ'.1 34 (8 * m + i) = nI (tc T (p + i)) := by
  have hl := hT.1
  obtain ⟨σ', a, b⟩ := L112b (X := X) (d := d) hT hp hq h8 hm (q - p) 0 σ (by omega) hx hc (fun i hi => absurd hi (Nat.not_lt_zero i))
  have k111 := K111b (X := X) (d := d) (m := m) (by omega) hc h0
  rw [decide_eq_false (p := 40 ≤ m) (by omega)] at k111
  have s8 := sub_le (c := 8) hp (by omega) (by omega)
  exact ⟨σ', mi_R.of rfl rfl (R112b_0 k111 (fun y => absurd rfl y) (fun _ _ => a) (fun _ y => absurd (s8.mpr h8) y)), b⟩
theorem lbsb {m : Nat} {sl : Nat → List Nat} {σ' : mG} {p q : Nat} (hq : q ≤ T.length) (hb : lbs m (σ.1 34) (σ.1 35) sl) (f : fLb m σ σ') (e1 : σ'.1 35 m = nI (q - p)) (e2 : ∀ i, i < q - p → σ'.1 34 (8 * m + i) = nI (tc T (p + i))) (ho : okL (seg T p q)) : lbs (m + 1) (σ'.1 34) (σ'.1 35) (fun i => if i = m then seg T p q else sl i) := by
  intro i hi
  have hlen : (seg T p q).length = q - p := seg_len hq
  by_cases e : i = m
  · subst e
    show okL (if i = i then _ else _) ∧ iLab i _ _ (if i = i then _ else _)
    rw [if_pos rfl]
    refine ⟨ho, ?_, fun j hj => ?_⟩
    · rw [e1, hlen]
    · rw [hlen] at hj
      rw [e2 j hj, seg_get hj]
  · show okL (if i = m then _ else _) ∧ iLab i _ _ (if i = m then _ else _)
    rw [if_neg e]
    obtain ⟨h1, h2, h3⟩ := hb i (by omega)
    refine ⟨h1, ?_, fun j hj => ?_⟩
    · rw [f.2.2.2.1 i e]
      exact h2
    · have := h1.2.1
      rw [f.2.2.2.2 (8 * i + j) (by omega)]
      exact h3 j hj
theorem L115 {m : Nat} {sl : Nat → List Nat} (hT : okT T) (hx : cT (σ.1 1 1) (σ.1 2) T) (hm : m ≤ 40) (hc : σ.1 33 3 = nI m) (hb : lbs m (σ.1 34) (σ.1 35) sl) {p q : Nat} (hp : p ≤ q) (hq : q ≤ T.length) : ∀ (k j : Nat), j + k = m → fs (fun i => decide (sl i = seg T p q)) j = none → TT X (d + 2) tb115 (some .int) (3, [some (.ref 33), some (.ref 1), some (.int (nI p)), some (.int (nI q)), some (.int (nI j))], [], σ) (some (.int (oI (fs (fun i => decide (sl i = seg T p q)) m))), σ) := by
  intro k
  induction k with
  | zero =>
    intro j hj hf
    have : j = m := by omega
    subst this
    have z : σ.1 33 3 ≤ nI j := by rw [hc]; exact nI_le (Nat.le_refl _) (by omega)
    refine R115b_3 (v1 := 0) (σ1 := σ) (fun _ => ?_) (fun y => absurd z y) (fun y => absurd z y) (fun y => absurd z y)
    rw [hf]
    rfl
  | succ k ih =>
    intro j hj hf
    have z : ¬ σ.1 33 3 ≤ nI j := by rw [hc]; exact nI_ge (by omega) (by omega)
    refine R115b_3 (v1 := bI (decide (sl j = seg T p q))) (σ1 := σ) (fun y => absurd y z) (fun _ => K114b hT hx hm hc hb (by omega) hp hq) (fun _ y => ?_) (fun _ y => ?_)
    · rw [nI_1]
      refine ih (j + 1) (by omega) ?_
      rw [fs_n hf, bI_0.mp y]
      rfl
    · have f1 : fs (fun i => decide (sl i = seg T p q)) (j + 1) = some j := by
        rw [fs_n hf, bI_n0.mp y]
        rfl
      have := fs_mono f1 k
      rw [show j + 1 + k = m by omega] at this
      rw [this]
      rfl
theorem K115 {m : Nat} {sl : Nat → List Nat} (hT : okT T) (hx : cT (σ.1 1 1) (σ.1 2) T) (hm : m ≤ 40) (hc : σ.1 33 3 = nI m) (hb : lbs m (σ.1 34) (σ.1 35) sl) {p q : Nat} (hp : p ≤ q) (hq : q ≤ T.length) : RR X (d + 3) 115 [.ref 33, .ref 1, .int (nI p), .int (nI q)] σ (some (.int (oI (fs (fun i => decide (sl i = seg T p q)) m))), σ) := mi_R.of rfl rfl (R115b_0 (L115 hT hx hm hc hb hp hq m 0 (by omega) rfl))
variable {n : Nat} {E : Nat → mEl}
theorem K36 {m : Nat} {sl : Nat → List Nat} (h : cC T n E σ) (hm : m ≤ 40) (hc : σ.1 33 3 = nI m) (hb : lbs m (σ.1 34) (σ.1 35) sl) {o : Option Nat} (ho : oE n o) : RR X (d + 4) 36 [.ref 0, .int (oI o)] σ (some (.int (bI (an (fun i => decide (sl i = vlo T E (sxo T E o wID))) m))), σ) := by
  have hs := (sxo_ok h.2.2.1 (W := wID) ho).1
  obtain ⟨b1, b2⟩ := val_le h.2.2.1 hs
  have k65 : RR X (d + 3) 65 [.ref 5, .int (oI o), .ref 1044] σ (some (.int (oI (sxo T E o wID))), σ) := K65 (d := d + 1) (W := wID) h ho ⟨rfl, by decide, by decide⟩
  have k115 := K115 (X := X) (d := d) h.1 h.2.1 hm hc hb b1 b2
  have em := oI_m1 (o := fs (fun i => decide (sl i = seg T (vF E (sxo T E o wID)) (vT E (sxo T E o wID)))) m) (fun e he => by have := (fs_ok he).1; omega)
  have ef := an_fs (f := fun i => decide (sl i = seg T (vF E (sxo T E o wID)) (vT E (sxo T E o wID)))) m
  refine mi_R.of rfl rfl (R36_0 k65 (K67 (d := d + 2) h hs) (K68 (d := d + 2) h hs) k115 (fun y => ?_) (fun y => ?_))
  · exact bI_s fun q => tf (ef.mp (em.mp y)) q
  · exact bI_r (nt fun q => y (em.mpr (ef.mpr q)))
theorem K37 {m : Nat} (h : cC T n E σ) (hm : m < 40) (hc : σ.1 33 3 = nI m) (h0 : σ.1 33 0 = 40) {o : Option Nat} (ho : oE n o) (h8 : vT E (sxo T E o wID) - vF E (sxo T E o wID) ≤ 8) : ∃ σ', RR X (d + 3) 37 [.ref 0, .int (oI o)] σ (none, σ') ∧ fLb m σ σ' ∧ σ'.1 33 3 = nI (m + 1) ∧ σ'.1 35 m = nI (vT E (sxo T E o wID) - vF E (sxo T E o wID)) ∧ ∀ i, i < vT E (sxo T E o wID) - vF E (sxo T E o wID) → σ'.1 34 (8 * m + i) = nI (tc T (vF E (sxo T E o wID) + i)) := by
  have hs := (sxo_ok h.2.2.1 (W := wID) ho).1
  obtain ⟨b1, b2⟩ := val_le h.2.2.1 hs
  have k65 : RR X (d + 2) 65 [.ref 5, .int (oI o), .ref 1044] σ (some (.int (oI (sxo T E o wID))), σ) := K65 (W := wID) h ho ⟨rfl, by decide, by decide⟩
  obtain ⟨σ', a, b⟩ := K112b (X := X) (d := d) h.1 h.2.1 b1 b2 h8 hm hc h0
  exact ⟨σ', mi_R.of rfl rfl (R37_0 k65 (K67 (d := d + 1) h hs) (K68 (d := d + 1) h hs) a rfl), b⟩
/-! requests -/
def awB (an' mk gt : Nat → Int32) (life clock : Int32) (m : Nat) (x : Int32) : Option Nat → Bool
  | none => false
  | some r => decide (r < m) && (decide (wt an' mk life clock r = 1) && decide (gt r = x))
theorem awB_s (an' mk gt : Nat → Int32) (life clock : Int32) (m : Nat) (x : Int32) (r : Nat) : awB an' mk gt life clock m x (some r) = (decide (r < m) && (decide (wt an' mk life clock r = 1) && decide (gt r = x))) := rfl
theorem wt_01 (an' mk : Nat → Int32) (life clock : Int32) (i : Nat) : wt an' mk life clock i = 0 ∨ wt an' mk life clock i = 1 := by
  unfold wt
  split
  · split
    · exact Or.inl rfl
    · exact Or.inr rfl
  · exact Or.inl rfl
theorem K102 {m : Nat} (hm : m ≤ 30) (hc : σ.1 23 4 = nI m) {r : Option Nat} (hr : ∀ v, r = some v → v < 2 ^ 31) (x c : Int32) : RR X (d + 2) 102 [.ref 23, .int (oI r), .int x, .int c] σ (some (.int (bI (awB (σ.1 26) (σ.1 25) (σ.1 24) (σ.1 23 0) c m x r))), σ) := by
  cases r with
  | none =>
    have zn : oI none < 0 := show (-1 : Int32) < 0 by decide
    have k101 : RR X (d + 1) 101 [.ref 23, .int (oI none), .int c] σ (some (.int 0), σ) := mi_R.of rfl rfl (R101_0 (fun _ => rfl) (fun y => absurd zn y) (fun y => absurd zn y) (fun y => absurd zn y) (fun y => absurd zn y) (fun y => absurd zn y) (fun y => absurd zn y))
    exact mi_R.of rfl rfl (R102_0 k101 (fun _ => rfl) (fun y => absurd rfl y) (fun y => absurd rfl y) (fun y => absurd rfl y))
  | some r =>
    have hr := hr r rfl
    by_cases h : r < m
    · have k101 := K101 (X := X) (d := d) hm hc h c
      rcases wt_01 (σ.1 26) (σ.1 25) (σ.1 23 0) c r with w | w
      · rw [w] at k101
        refine mi_R.of rfl rfl (R102_0 k101 (fun _ => bI_s fun q => ?_) (fun y => absurd rfl y) (fun y => absurd rfl y) (fun y => absurd rfl y))
        rw [awB_s, decide_eq_false (p := wt (σ.1 26) (σ.1 25) (σ.1 23 0) c r = 1) (by rw [w]; decide), Bool.false_and, Bool.and_false] at q
        cases q
      · rw [w] at k101
        have e : awB (σ.1 26) (σ.1 25) (σ.1 24) (σ.1 23 0) c m x (some r) = decide (σ.1 24 r = x) := by
          rw [awB_s, decide_eq_true h, decide_eq_true w]
          rfl
        rw [e]
        refine mi_R.of rfl rfl (R102_0 k101 (fun y => absurd y (by decide)) (fun _ => mi_in_nI (j := r) (by omega) (by omega)) (fun _ y => bI_s fun q => ?_) (fun _ y => bI_r ?_))
        · refine y ?_
          show σ.1 24 (nI r).toNatClampNeg = x
          rw [nI_clamp (by omega)]
          exact of_decide_eq_true q
        · have y : σ.1 24 (nI r).toNatClampNeg = x := Decidable.not_not.mp y
          rw [nI_clamp (by omega)] at y
          exact decide_eq_true y
    · have z1 : ¬ oI (some r) < 0 := nI_pos (n := r) hr
      have z2 : σ.1 23 4 ≤ oI (some r) := by rw [hc]; exact nI_le (b := r) (by omega) hr
      have k101 : RR X (d + 1) 101 [.ref 23, .int (oI (some r)), .int c] σ (some (.int 0), σ) := mi_R.of rfl rfl (R101_0 (fun _ => rfl) (fun _ _ => rfl) (fun _ y => absurd z2 y) (fun _ y => absurd z2 y) (fun _ y => absurd z2 y) (fun _ y => absurd z2 y) (fun _ y => absurd z2 y))
      refine mi_R.of rfl rfl (R102_0 k101 (fun _ => bI_s fun q => ?_) (fun y => absurd rfl y) (fun y => absurd rfl y) (fun y => absurd rfl y))
      rw [awB_s, decide_eq_false h] at q
      cases q
theorem K103 {m r : Nat} (hm : m ≤ 30) (hc : σ.1 23 4 = nI m) (hr : r < m) : RR X (d + 1) 103 [.ref 23, .int (nI r)] σ (none, u36 σ 26 r 1) := by
  refine mi_R.of rfl rfl (R103_0 (fun y => absurd y (nI_pos (by omega))) (fun _ y => absurd y (by rw [hc]; exact nI_ge hr (by omega))) (fun _ _ => mi_in_nI (by omega) (by omega)) (fun _ _ => ?_))
  rw [nI_clamp (by omega)]
  rfl
def ro (T : List Nat) (E : Nat → mEl) (c s : Int32) (o : Option Nat) : Bool := !decide (c - s < oI (num (vlo T E (sxo T E o wNoa))))
theorem K32 (h : cC T n E σ) {o : Option Nat} (ho : oE n o) : RR X (d + 4) 32 [.ref 0, .int (oI o)] σ (some (.int (bI (ro T E (σ.1 0 12) (σ.1 0 11) o))), σ) := by
  have k74 : RR X (d + 3) 74 [.ref 5, .int (oI o), .ref 1053] σ (some (.int (oI (num (vlo T E (sxo T E o wNoa))))), σ) := K74 (W := wNoa) h ho ⟨rfl, by decide, by decide⟩
  refine mi_R.of rfl rfl (R32_0 k74 (fun y => ?_) (fun y => ?_))
  · unfold ro
    rw [decide_eq_true y]
    rfl
  · unfold ro
    rw [decide_eq_false y]
    rfl
def fc (b8 b9 b10 b11 b12 b13 b14 b15 : Bool) : Int32 := bif b8 then -8 else bif b9 then -9 else bif b10 then -10 else bif b11 then -11 else bif b12 then -12 else bif b13 then -13 else bif b14 then -14 else bif b15 then -15 else 0
theorem A31 {a1 a2 a4 a5 a7 a8 a9 a10 a11 a12 a13 : Bool} {v3 v6 x1 : Int32}
    (c1 : RR X d 69 [.ref 5, .int 0, .ref 1046, .ref 1047] σ (some (.int (bI a1)), σ))
    (c2 : RR X d 63 [.ref 5, .int (σ.1 36 2), .ref 1048] σ (some (.int (bI a2)), σ))
    (c3 : RR X d 74 [.ref 5, .int 0, .ref 1049] σ (some (.int v3), σ))
    (c4 : RR X d 102 [.ref 23, .int v3, .int x1, .int (σ.1 0 12)] σ (some (.int (bI a4)), σ))
    (c5 : RR X d 69 [.ref 5, .int (σ.1 36 6), .ref 1050, .ref 1051] σ (some (.int (bI a5)), σ))
    (c6 : RR X d 74 [.ref 5, .int (σ.1 36 6), .ref 1052] σ (some (.int v6), σ))
    (c7 : RR X d 32 [.ref 0, .int (σ.1 36 6)] σ (some (.int (bI a7)), σ))
    (c8 : RR X d 69 [.ref 5, .int (σ.1 36 10), .ref 1054, .ref 1047] σ (some (.int (bI a8)), σ))
    (c9 : RR X d 71 [.ref 5, .int (σ.1 36 10), .int 0, .ref 1049] σ (some (.int (bI a9)), σ))
    (c10 : RR X d 32 [.ref 0, .int (σ.1 36 10)] σ (some (.int (bI a10)), σ))
    (c11 : RR X d 36 [.ref 0, .int (σ.1 36 3)] σ (some (.int (bI a11)), σ))
    (c12 : RR X d 106 [.ref 27] σ (some (.int (bI a12)), σ))
    (c13 : RR X d 111 [.ref 33] σ (some (.int (bI a13)), σ)) : RR X (d + 1) 31 [.ref 0, .int x1] σ (some (.int (fc (!a1) (!a2) (!a4) (!a5) (decide (σ.1 0 12 + σ.1 0 11 < v6) || a7) (!a8 || (!a9 || a10)) a11 (a12 || a13))), σ) := by
  refine mi_R.of rfl rfl ?_
  apply R31_0 (v1 := bI a1) (σ1 := σ) (v2 := bI a2) (σ2 := σ) (v3 := v3) (σ3 := σ) (v4 := bI a4) (σ4 := σ) (v5 := bI a5) (σ5 := σ) (v6 := v6) (σ6 := σ) (v7 := bI a7) (σ7 := σ) (v8 := bI a8) (σ8 := σ) (v9 := bI a9) (σ9 := σ) (v10 := bI a10) (σ10 := σ) (v11 := bI a11) (σ11 := σ) (v12 := bI a12) (σ12 := σ) (v13 := bI a13) (σ13 := σ)
  all_goals (intros; first | assumption | (simp only [Decidable.not_not, bI_n0, bI_0] at *; simp_all [fc]; done) | (simp only [Decidable.not_not, bI_n0, bI_0] at *; simp_all [fc]; rw [decide_eq_false (Int32.not_lt.mpr (by assumption))]; rfl))
theorem K106 {m : Nat} (hm : m ≤ 20) (hc : σ.1 30 3 = nI m) (h0 : σ.1 30 0 = 20) : RR X (d + 2) 106 [.ref 27] σ (some (.int (bI (decide (20 ≤ m)))), σ) := mi_R.of rfl rfl (R106_0 (K111a hm hc h0) rfl (bI_01 _))
theorem nar21 : mi_nar 2 1 = 1 := nar2 true
theorem nar20 : mi_nar 2 0 = 0 := nar2 false
theorem K107 {m : Nat} (h : cC T n E σ) (hm : m < 20) (hc : σ.1 30 3 = nI m) (h0 : σ.1 30 0 = 20) {p q : Nat} (hp : p ≤ q) (hq : q ≤ T.length) (h8 : q - p ≤ 8) (x : Int32) : ∃ σ', RR X (d + 3) 107 [.ref 27, .int x, .ref 1, .int (nI p), .int (nI q)] σ (some (.int (nI m)), u36 (u36 σ' 28 m x) 29 m 1) ∧ fLa m σ σ' ∧ σ'.1 30 3 = nI (m + 1) ∧ σ'.1 32 m = nI (q - p) ∧ ∀ i, i < q - p → σ'.1 31 (8 * m + i) = nI (tc T (p + i)) := by
  obtain ⟨σ', a, b⟩ := K112a (X := X) (d := d) h.1 h.2.1 hp hq h8 hm hc h0
  have k106 := K106 (X := X) (d := d) (m := m) (by omega) hc h0
  rw [decide_eq_false (p := 20 ≤ m) (by omega)] at k106
  have hin : mi_in (σ.1 30 3) 20 = true := by rw [hc]; exact mi_in_nI hm (by omega)
  refine ⟨σ', mi_R.of rfl rfl (R107_0 k106 (fun _ => a) (fun _ => hin) (fun _ => hin) (fun _ => ?_) (fun y => absurd rfl y)), b⟩
  rw [hc, nI_clamp (by omega), nar21]
  rfl
/-! the end of sessions -/
def eC (L : List Nat) (is op : Nat → Int32) (sl : Nat → List Nat) (x : Int32) (i : Nat) : Bool := decide (¬ op i = 0) && (decide (is i = x) && decide (sl i = L))
theorem L108 {m : Nat} {sl : Nat → List Nat} (h : cC T n E σ) (hm : m ≤ 20) (hc : σ.1 30 3 = nI m) (hb : lbs m (σ.1 31) (σ.1 32) sl) {p q : Nat} (hp : p ≤ q) (hq : q ≤ T.length) (x : Int32) : ∀ (k j : Nat) (σ' : mG), j + k = m → σ'.2 = σ.2 → (∀ c, c ≠ 29 → σ'.1 c = σ.1 c) → (∀ i, σ'.1 29 i = if i < j ∧ eC (seg T p q) (σ.1 28) (σ.1 29) sl x i = true then 0 else σ.1 29 i) → ∃ σ'', TT X (d + 2) tb108 (some .int) (6, [some (.ref 27), some (.int x), some (.ref 1), some (.int (nI p)), some (.int (nI q)), some (.int (nI (cnt (eC (seg T p q) (σ.1 28) (σ.1 29) sl x) j))), some (.int (nI j))], [], σ') (some (.int (nI (cnt (eC (seg T p q) (σ.1 28) (σ.1 29) sl x) m))), σ'') ∧ σ''.2 = σ.2 ∧ (∀ c, c ≠ 29 → σ''.1 c = σ.1 c) ∧ ∀ i, σ''.1 29 i = if i < m ∧ eC (seg T p q) (σ.1 28) (σ.1 29) sl x i = true then 0 else σ.1 29 i := by
  intro k
  induction k with
  | zero =>
    intro j σ' hj h2 h1 h3
    have : j = m := by omega
    subst this
    have z : σ'.1 30 3 ≤ nI j := by rw [h1 30 (by omega), hc]; exact nI_le (Nat.le_refl _) (by omega)
    exact ⟨σ', R108_6 (v1 := 0) (σ1 := σ') (fun _ => rfl) (fun y => absurd z y) (fun y => absurd z y) (fun y => absurd z y) (fun y => absurd z y) (fun y => absurd z y) (fun y => absurd z y) (fun y => absurd z y) (fun y => absurd z y) (fun y => absurd z y), h2, h1, h3⟩
  | succ k ih =>
    intro j σ' hj h2 h1 h3
    have z : ¬ σ'.1 30 3 ≤ nI j := by rw [h1 30 (by omega), hc]; exact nI_ge (by omega) (by omega)
    have z20 : ¬ (20 : Int32) ≤ nI j := nI_ge (b := 20) (by omega) (by omega)
    have hin : mi_in (nI j) 20 = true := mi_in_nI (by omega) (by omega)
    have e29 : σ'.1 29 (nI j).toNatClampNeg = σ.1 29 j := by
      rw [nI_clamp (by omega), h3 j, if_neg (by omega)]
    have e28 : σ'.1 28 (nI j).toNatClampNeg = σ.1 28 j := by
      rw [nI_clamp (by omega), h1 28 (by omega)]
    have k114 : RR X (d + 2) 114 [.ref 30, .int (nI j), .ref 1, .int (nI p), .int (nI q)] σ' (some (.int (bI (decide (sl j = seg T p q)))), σ') := by
      refine K114a (m := m) h.1 ?_ hm ?_ ?_ (by omega) hp hq
      · rw [h1 1 (by omega), h1 2 (by omega)]
        exact h.2.1
      · rw [h1 30 (by omega)]
        exact hc
      · rw [h1 31 (by omega), h1 32 (by omega)]
        exact hb
    have keep : eC (seg T p q) (σ.1 28) (σ.1 29) sl x j = false → ∃ σ'', TT X (d + 2) tb108 (some .int) (6, [some (.ref 27), some (.int x), some (.ref 1), some (.int (nI p)), some (.int (nI q)), some (.int (nI (cnt (eC (seg T p q) (σ.1 28) (σ.1 29) sl x) j))), some (.int (nI j + 1))], [], σ') (some (.int (nI (cnt (eC (seg T p q) (σ.1 28) (σ.1 29) sl x) m))), σ'') ∧ σ''.2 = σ.2 ∧ (∀ c, c ≠ 29 → σ''.1 c = σ.1 c) ∧ ∀ i, σ''.1 29 i = if i < m ∧ eC (seg T p q) (σ.1 28) (σ.1 29) sl x i = true then 0 else σ.1 29 i := fun hf => by
      have := ih (j + 1) σ' (by omega) h2 h1 (fun i => by
        rw [h3 i]
        by_cases e : i = j
        · rw [e, if_neg (by omega), if_neg (by intro w; exact tf hf w.2)]
        · by_cases e2 : i < j ∧ eC (seg T p q) (σ.1 28) (σ.1 29) sl x i = true
          · rw [if_pos e2, if_pos ⟨by omega, e2.2⟩]
          · rw [if_neg e2, if_neg fun w => e2 ⟨by omega, w.2⟩])
      rw [cnt_f hf] at this
      rw [nI_1]
      exact this
    by_cases f1 : σ.1 29 j = 0
    · obtain ⟨s2, t1, t2⟩ := keep (by unfold eC; rw [decide_eq_false fun w => w f1]; rfl)
      refine ⟨s2, R108_6 (v1 := 0) (σ1 := σ') (fun y => absurd y z) (fun _ y => absurd y z20) (fun _ _ => hin) (fun _ _ _ => t1) (fun _ _ y => absurd (e29.trans f1) y) (fun _ _ y => absurd (e29.trans f1) y) (fun _ _ y => absurd (e29.trans f1) y) (fun _ _ y => absurd (e29.trans f1) y) (fun _ _ y => absurd (e29.trans f1) y) (fun _ _ y => absurd (e29.trans f1) y), t2⟩
    · have n29 : ¬ σ'.1 29 (nI j).toNatClampNeg = 0 := by rw [e29]; exact f1
      by_cases f2 : σ.1 28 j = x
      · have y28 : σ'.1 28 (nI j).toNatClampNeg = x := e28.trans f2
        by_cases f3 : sl j = seg T p q
        · have ht : eC (seg T p q) (σ.1 28) (σ.1 29) sl x j = true := by
            unfold eC
            rw [decide_eq_true f1, decide_eq_true f2, decide_eq_true f3]
            rfl
          rw [decide_eq_true f3] at k114
          obtain ⟨s2, t1, t2⟩ := ih (j + 1) (u36 σ' 29 j 0) (by omega) h2 (fun c hc' => (u36_c hc').trans (h1 c hc')) (fun i => by
            by_cases e : i = j
            · rw [e, u36_s, if_pos ⟨by omega, ht⟩]
            · rw [u36_n e, h3 i]
              by_cases e2 : i < j ∧ eC (seg T p q) (σ.1 28) (σ.1 29) sl x i = true
              · rw [if_pos e2, if_pos ⟨by omega, e2.2⟩]
              · rw [if_neg e2, if_neg fun w => e2 ⟨by omega, w.2⟩])
          rw [cnt_t ht] at t1
          refine ⟨s2, R108_6 (v1 := 1) (σ1 := σ') (fun y => absurd y z) (fun _ y => absurd y z20) (fun _ _ => hin) (fun _ _ y => absurd y n29) (fun _ _ _ => hin) (fun _ _ _ y => absurd y28 y) (fun _ _ _ _ => k114) (fun _ _ _ _ y => absurd y (by decide)) (fun _ _ _ _ _ => hin) (fun _ _ _ _ _ => ?_), t2⟩
          rw [nI_1, nI_1, nI_clamp (by omega), nar20]
          exact t1
        · rw [decide_eq_false f3] at k114
          obtain ⟨s2, t1, t2⟩ := keep (by unfold eC; rw [decide_eq_false f3, Bool.and_false, Bool.and_false])
          exact ⟨s2, R108_6 (v1 := 0) (σ1 := σ') (fun y => absurd y z) (fun _ y => absurd y z20) (fun _ _ => hin) (fun _ _ y => absurd y n29) (fun _ _ _ => hin) (fun _ _ _ y => absurd y28 y) (fun _ _ _ _ => k114) (fun _ _ _ _ _ => t1) (fun _ _ _ _ y => absurd rfl y) (fun _ _ _ _ y => absurd rfl y), t2⟩
      · have n28 : ¬ σ'.1 28 (nI j).toNatClampNeg = x := by rw [e28]; exact f2
        obtain ⟨s2, t1, t2⟩ := keep (by unfold eC; rw [decide_eq_false f2, Bool.false_and, Bool.and_false])
        exact ⟨s2, R108_6 (v1 := 0) (σ1 := σ') (fun y => absurd y z) (fun _ y => absurd y z20) (fun _ _ => hin) (fun _ _ y => absurd y n29) (fun _ _ _ => hin) (fun _ _ _ _ => t1) (fun _ _ _ y => absurd n28 y) (fun _ _ _ y => absurd n28 y) (fun _ _ _ y => absurd n28 y) (fun _ _ _ y => absurd n28 y), t2⟩
theorem K108 {m : Nat} {sl : Nat → List Nat} (h : cC T n E σ) (hm : m ≤ 20) (hc : σ.1 30 3 = nI m) (hb : lbs m (σ.1 31) (σ.1 32) sl) {p q : Nat} (hp : p ≤ q) (hq : q ≤ T.length) (x : Int32) : ∃ σ', RR X (d + 3) 108 [.ref 27, .int x, .ref 1, .int (nI p), .int (nI q)] σ (some (.int (nI (cnt (eC (seg T p q) (σ.1 28) (σ.1 29) sl x) m))), σ') ∧ σ'.2 = σ.2 ∧ (∀ c, c ≠ 29 → σ'.1 c = σ.1 c) ∧ ∀ i, σ'.1 29 i = if i < m ∧ eC (seg T p q) (σ.1 28) (σ.1 29) sl x i = true then 0 else σ.1 29 i := by
  obtain ⟨σ', a, b⟩ := L108 (X := X) (d := d) h hm hc hb hp hq x m 0 σ (by omega) rfl (fun _ _ => rfl) (fun i => by rw [if_neg fun w => Nat.not_lt_zero i w.1])
  exact ⟨σ', mi_R.of rfl rfl (R108_0 a), b⟩
end
