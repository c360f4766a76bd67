/-! Attributes: what the text says, and how the class keeps them. -/
abbrev mAt : Type := Nat × Nat × Nat
def kA (T : List Nat) (a : mAt) : Nat := pkp 6 (seg T a.1 a.2.1)
def insA (T : List Nat) (a : mAt) (L : List mAt) : List mAt := L.filter (fun b => decide (kA T b < kA T a)) ++ a :: L.filter (fun b => decide (kA T a < kA T b))
def vlS (T : List Nat) (f : Nat) : Option mAt := if nL T f ≤ 6 ∧ tc T (f + nL T f) = 61 ∧ tc T (f + nL T f + 1) = 34 ∧ tc T (f + nL T f + 2 + nV T (f + nL T f + 2)) = 34 then some (f, f + nL T f, f + nL T f + 2 + nV T (f + nL T f + 2)) else none
def atS (T : List Nat) : Nat → Nat → List mAt → List mAt → Option (List mAt × List mAt × Nat)
  | 0, _, _, _ => none
  | k + 1, p, as, L => if nS T p = 0 ∨ nL T (p + nS T p) = 0 then some (as, L, p + nS T p) else match vlS T (p + nS T p) with
    | none => none
    | some a => if as.length < 4 ∧ ∀ b ∈ as, kA T b ≠ kA T a then atS T k (a.2.2 + 1) (as ++ [a]) (insA T a L) else none
theorem atS_end {T : List Nat} {k p : Nat} {as L : List mAt} (h : nS T p = 0 ∨ nL T (p + nS T p) = 0) : atS T (k + 1) p as L = some (as, L, p + nS T p) := by
  show (if nS T p = 0 ∨ nL T (p + nS T p) = 0 then some (as, L, p + nS T p) else _) = _
  rw [if_pos h]
theorem atS_none {T : List Nat} {k p : Nat} {as L : List mAt} (h : ¬ (nS T p = 0 ∨ nL T (p + nS T p) = 0)) (hv : vlS T (p + nS T p) = none) : atS T (k + 1) p as L = none := by
  show (if nS T p = 0 ∨ nL T (p + nS T p) = 0 then some (as, L, p + nS T p) else match vlS T (p + nS T p) with
    | none => none
    | some a => if as.length < 4 ∧ ∀ b ∈ as, kA T b ≠ kA T a then atS T k (a.2.2 + 1) (as ++ [a]) (insA T a L) else none) = _
  rw [if_neg h, hv]
theorem atS_some {T : List Nat} {k p : Nat} {as L : List mAt} {a : mAt} (h : ¬ (nS T p = 0 ∨ nL T (p + nS T p) = 0)) (hv : vlS T (p + nS T p) = some a) : atS T (k + 1) p as L = if as.length < 4 ∧ ∀ b ∈ as, kA T b ≠ kA T a then atS T k (a.2.2 + 1) (as ++ [a]) (insA T a L) else none := by
  show (if nS T p = 0 ∨ nL T (p + nS T p) = 0 then some (as, L, p + nS T p) else match vlS T (p + nS T p) with
    | none => none
    | some a => if as.length < 4 ∧ ∀ b ∈ as, kA T b ≠ kA T a then atS T k (a.2.2 + 1) (as ++ [a]) (insA T a L) else none) = _
  rw [if_neg h, hv]
/-- a name of letters -/
def gN (T : List Nat) (p q : Nat) : Prop := p < q ∧ q ≤ p + 6 ∧ q ≤ T.length ∧ ∀ i, p ≤ i → i < q → isL (tc T i) = true
def gA (T : List Nat) (a : mAt) : Prop := gN T a.1 a.2.1 ∧ a.2.1 + 2 ≤ a.2.2 ∧ a.2.2 < T.length
theorem nL_le {T : List Nat} (p : Nat) (h : p ≤ T.length) : p + nL T p ≤ T.length := rn_le h
theorem nS_le {T : List Nat} (p : Nat) (h : p ≤ T.length) : p + nS T p ≤ T.length := rn_le h
theorem nL_out {T : List Nat} {p : Nat} (h : T.length ≤ p) : nL T p = 0 := rn_f (by omega)
theorem nS_out {T : List Nat} {p : Nat} (h : T.length ≤ p) : nS T p = 0 := rn_f (by omega)
theorem nL_gN {T : List Nat} {p : Nat} (h1 : 1 ≤ nL T p) (h2 : nL T p ≤ 6) : gN T p (p + nL T p) := by
  have hp : p < T.length := Nat.not_le.mp fun z => by rw [nL_out z] at h1; omega
  exact ⟨by omega, by omega, nL_le p (by omega), rn_in⟩
theorem seg_all {T : List Nat} {P : Nat → Prop} : ∀ (k p q : Nat), q - p = k → q ≤ T.length → (∀ i, p ≤ i → i < q → P (tc T i)) → ∀ c ∈ seg T p q, P c := by
  intro k
  induction k with
  | zero =>
    intro p q hk _ _ c hc
    rw [seg_nil (by omega)] at hc
    cases hc
  | succ k ih =>
    intro p q hk hq h c hc
    rw [seg_cons (by omega) hq] at hc
    rcases List.mem_cons.mp hc with z | z
    · rw [z]
      exact h p (by omega) (by omega)
    · exact ih (p + 1) q (by omega) hq (fun i h1 h2 => h i (by omega) h2) c z
theorem gN.ok {T : List Nat} {p q : Nat} (h : gN T p q) : okN 6 (seg T p q) := by
  refine ⟨by rw [seg_len h.2.2.1]; have := h.2.1; omega, seg_all _ p q rfl h.2.2.1 (P := fun c => 0 < c ∧ c < 256) (fun i h1 h2 => ?_)⟩
  have := isL_iff.mp (h.2.2.2 i h1 h2)
  omega
theorem vlS_gA {T : List Nat} {f : Nat} {a : mAt} (h : vlS T f = some a) (h1 : 1 ≤ nL T f) : gA T a ∧ a.1 = f := by
  unfold vlS at h
  split at h
  · rename_i hc
    injection h with h
    subst h
    exact ⟨⟨nL_gN h1 hc.1, by show f + nL T f + 2 ≤ f + nL T f + 2 + _; omega, tc_is hc.2.2.2 (by omega)⟩, rfl⟩
  · cases h
/-- the class's slots L: the attributes as, in rising order of the names -/
def SL (T : List Nat) (as L : List mAt) : Prop := L.length = as.length ∧ (∀ b, b ∈ L ↔ b ∈ as) ∧ L.Pairwise (fun b c => kA T b < kA T c)
theorem SL_nil (T : List Nat) : SL T [] [] := ⟨rfl, fun _ => Iff.rfl, List.Pairwise.nil⟩
theorem insA_len {T : List Nat} {a : mAt} : ∀ {L : List mAt}, (∀ b ∈ L, kA T b ≠ kA T a) → (insA T a L).length = L.length + 1 := by
  intro L
  unfold insA
  rw [List.length_append, List.length_cons]
  induction L with
  | nil => intro _; rfl
  | cons b L ih =>
    intro h
    have h1 := ih (fun c hc => h c (List.mem_cons_of_mem b hc))
    have h2 := h b (List.mem_cons_self ..)
    rw [List.filter_cons, List.filter_cons]
    by_cases hz : kA T b < kA T a
    · rw [if_pos (decide_eq_true hz), if_neg (by simp; omega)]
      simp only [List.length_cons]
      omega
    · rw [if_neg (by simp; omega), if_pos (decide_eq_true (show kA T a < kA T b by omega))]
      simp only [List.length_cons]
      omega
theorem SL.ins {T : List Nat} {as L : List mAt} {a : mAt} (h : SL T as L) (hn : ∀ b ∈ as, kA T b ≠ kA T a) : SL T (as ++ [a]) (insA T a L) := by
  obtain ⟨h1, h2, h3⟩ := h
  have hn' : ∀ b ∈ L, kA T b ≠ kA T a := fun b hb => hn b ((h2 b).mp hb)
  refine ⟨by rw [insA_len hn', h1, List.length_append]; rfl, fun b => ?_, ?_⟩
  · unfold insA
    rw [List.mem_append, List.mem_cons, List.mem_append, List.mem_singleton, List.mem_filter, List.mem_filter, decide_eq_true_iff, decide_eq_true_iff, ← h2 b]
    constructor
    · rintro (z | z | z)
      · exact Or.inl z.1
      · exact Or.inr z
      · exact Or.inl z.1
    · rintro (z | z)
      · rcases Nat.lt_or_gt_of_ne (hn' b z) with y | y
        · exact Or.inl ⟨z, y⟩
        · exact Or.inr (Or.inr ⟨z, y⟩)
      · exact Or.inr (Or.inl z)
  · unfold insA
    rw [List.pairwise_append]
    refine ⟨h3.filter _, ?_, fun b hb c hc => ?_⟩
    · rw [List.pairwise_cons]
      exact ⟨fun c hc => of_decide_eq_true (List.mem_filter.mp hc).2, h3.filter _⟩
    · have b1 := of_decide_eq_true (List.mem_filter.mp hb).2
      rcases List.mem_cons.mp hc with z | z
      · rw [z]
        exact b1
      · have c1 := of_decide_eq_true (List.mem_filter.mp z).2
        omega
theorem atS_ok {T : List Nat} : ∀ (k p : Nat) (as L : List mAt) {as' L' : List mAt} {q : Nat}, atS T k p as L = some (as', L', q) → (∀ a ∈ as, gA T a) → SL T as L → as.length ≤ 4 → p ≤ T.length → (∀ a ∈ as', gA T a) ∧ SL T as' L' ∧ as'.length ≤ 4 ∧ p ≤ q ∧ q ≤ T.length := by
  intro k
  induction k with
  | zero => intro p as L as' L' q h; cases h
  | succ k ih =>
    intro p as L as' L' q h hg hs h4 hp
    by_cases hz : nS T p = 0 ∨ nL T (p + nS T p) = 0
    · rw [atS_end hz] at h
      injection h with h
      injection h with e1 h
      injection h with e2 e3
      subst e1 e2 e3
      exact ⟨hg, hs, h4, by omega, nS_le p hp⟩
    · cases hv : vlS T (p + nS T p) with
      | none => rw [atS_none hz hv] at h; cases h
      | some a =>
        rw [atS_some hz hv] at h
        split at h
        · rename_i hc
          obtain ⟨ga, ea⟩ := vlS_gA hv (by omega)
          have hl := ga.2.2
          have hm := ga.2.1
          have hm2 := ga.1.1
          obtain ⟨r1, r2, r3, r4, r5⟩ := ih (a.2.2 + 1) (as ++ [a]) (insA T a L) h (fun b hb => by
            rcases List.mem_append.mp hb with z | z
            · exact hg b z
            · rw [List.mem_singleton.mp z]
              exact ga) (hs.ins hc.2) (by rw [List.length_append, List.length_singleton]; omega) (by omega)
          exact ⟨r1, r2, r3, by omega, r5⟩
        · cases h
section AT
variable {X : Nat × (Nat → Int32)} {d : Nat} {T : List Nat}
theorem min_nI {a b : Nat} (ha : a < 2 ^ 31) (hb : b < 2 ^ 31) : mi_min (nI a) (nI b) = nI (min a b) := by
  unfold mi_min
  by_cases h : b < a
  · rw [if_pos (nI_lt h ha), Nat.min_eq_right (by omega)]
  · rw [if_neg (nI_nlt (by omega) hb), Nat.min_eq_left (by omega)]
theorem L51 {σ : mG} (hT : okT T) (h : cT (σ.1 1 1) (σ.1 2) T) {p q p' q' : Nat} (hp : p ≤ q) (hq : q ≤ T.length) (hp' : p' ≤ q') (hq' : q' ≤ T.length) : ∀ (k i : Nat) (u : Option Value), i + k = min (q - p) (q' - p') → TT X (d + 1) tb51 (some .int) (15, [some (.ref 1), some (.int (nI p)), some (.int (nI q)), some (.int (nI p')), some (.int (nI q')), some (.int (nI (min (q - p) (q' - p')))), some (.int (nI i)), u], [], σ) (some (.int (ordL ((nI q - nI p) - (nI q' - nI p')) (seg T (p + i) q) (seg T (p' + i) q'))), σ) := by
  have hl := hT.1
  intro k
  induction k with
  | zero =>
    intro i u hi
    have z : nI (min (q - p) (q' - p')) ≤ nI i := nI_le (by omega) (by omega)
    refine R51_15 (v1 := 0) (σ1 := σ) (v2 := 0) (σ2 := σ) (fun _ => ?_) (fun y => absurd z y) (fun y => absurd z y) (fun y => absurd z y) (fun y => absurd z y)
    rcases (show q ≤ p + i ∨ q' ≤ p' + i by omega) with z | z
    · rw [seg_nil z]
      rfl
    · rw [seg_nil (p := p' + i) z]
      cases seg T (p + i) q <;> rfl
  | succ k ih =>
    intro i u hi
    have z : ¬ nI (min (q - p) (q' - p')) ≤ nI i := nI_ge (by omega) (by omega)
    have c1 := K39e (X := X) (d := d) (σ := σ) hT h (nI_add p i)
    have c2 := K39e (X := X) (d := d) (σ := σ) hT h (nI_add p' i)
    rw [cdA_in hT (by omega)] at c1 c2
    rw [seg_cons (by omega) hq, seg_cons (p := p' + i) (by omega) hq']
    refine R51_15 (fun y => absurd y z) (fun _ => c1) (fun _ => c2) (fun _ y => ?_) (fun _ y => ?_)
    · have h2 := ih (i + 1) (some (.int (nI (tc T (p + i)) - nI (tc T (p' + i))))) (by omega)
      rw [nI_1]
      show TT X (d + 1) tb51 (some .int) _ (some (.int (if nI (tc T (p + i)) - nI (tc T (p' + i)) = 0 then _ else _)), σ)
      rw [if_pos y]
      exact h2
    · show (some (Value.int (if nI (tc T (p + i)) - nI (tc T (p' + i)) = 0 then _ else _)), σ) = _
      rw [if_neg y]
theorem K51 {σ : mG} (hT : okT T) (h : cT (σ.1 1 1) (σ.1 2) T) {p q p' q' : Nat} (hp : p ≤ q) (hq : q ≤ T.length) (hp' : p' ≤ q') (hq' : q' ≤ T.length) : RR X (d + 2) 51 [.ref 1, .int (nI p), .int (nI q), .int (nI p'), .int (nI q')] σ (some (.int (ordL ((nI q - nI p) - (nI q' - nI p')) (seg T p q) (seg T p' q'))), σ) := by
  have hl := hT.1
  refine mi_R.of rfl rfl (R51_0 ?_)
  have h1 := L51 (X := X) (d := d) hT h hp hq hp' hq' (min (q - p) (q' - p')) 0 none (by omega)
  rw [show mi_min (nI q - nI p) (nI q' - nI p') = nI (min (q - p) (q' - p')) by rw [pk_sub hp, pk_sub hp', min_nI (by omega) (by omega)]]
  exact h1
theorem D51 {p q p' q' : Nat} (hT : okT T) (hp : p ≤ q) (hq : q ≤ T.length) (hp' : p' ≤ q') (hq' : q' ≤ T.length) : ((nI q - nI p) - (nI q' - nI p')).toInt = ((seg T p q).length : Int) - (seg T p' q').length := by
  have hl := hT.1
  rw [pk_sub hp, pk_sub hp', pk_sub_toInt (by omega) (by omega), seg_len hq, seg_len hq']
theorem seg_256 (hT : okT T) (p q : Nat) : ∀ c ∈ seg T p q, c < 256 := fun c hc => by
  have := (seg_okC hT p q c hc).2
  omega
/-- order as a test of equality -/
theorem ord_eq {p q p' q' : Nat} (hT : okT T) (hp : p ≤ q) (hq : q ≤ T.length) (hp' : p' ≤ q') (hq' : q' ≤ T.length) : ordL ((nI q - nI p) - (nI q' - nI p')) (seg T p q) (seg T p' q') = 0 ↔ seg T p q = seg T p' q' := ordL_eq _ _ _ (D51 hT hp hq hp' hq') (seg_256 hT _ _) (seg_256 hT _ _)
theorem ord_key {a b : mAt} (hT : okT T) (ha : gA T a) (hb : gA T b) : (ordL ((nI a.2.1 - nI a.1) - (nI b.2.1 - nI b.1)) (seg T a.1 a.2.1) (seg T b.1 b.2.1) = 0 ↔ kA T a = kA T b) ∧ (ordL ((nI a.2.1 - nI a.1) - (nI b.2.1 - nI b.1)) (seg T a.1 a.2.1) (seg T b.1 b.2.1) ≤ 0 ↔ kA T a ≤ kA T b) :=
  ordL_key _ 6 _ _ (D51 hT (Nat.le_of_lt ha.1.1) ha.1.2.2.1 (Nat.le_of_lt hb.1.1) hb.1.2.2.1) ha.1.ok hb.1.ok
/-- a slot holds an attribute -/
def sl3 (σ : mG) (k : Nat) (a : mAt) : Prop := σ.1 13 k = nI a.1 ∧ σ.1 14 k = nI (a.2.1 + 2) ∧ σ.1 15 k = nI a.2.2
def gtA (L : List mAt) (j : Nat) : mAt := L.getD j (0, 0, 0)
theorem gtA_mem {L : List mAt} {j : Nat} (h : j < L.length) : gtA L j ∈ L := by
  unfold gtA
  rw [List.getD_eq_getElem?_getD, List.getElem?_eq_getElem h]
  exact List.getElem_mem h
theorem mem_gtA {L : List mAt} {a : mAt} (h : a ∈ L) : ∃ j, j < L.length ∧ gtA L j = a := by
  obtain ⟨j, hj, e⟩ := List.mem_iff_getElem.mp h
  refine ⟨j, hj, ?_⟩
  unfold gtA
  rw [List.getD_eq_getElem?_getD, List.getElem?_eq_getElem hj]
  exact e
/-- only element i's attributes differ -/
def fA (i : Nat) (σ σ' : mG) : Prop := σ'.2 = σ.2 ∧ (∀ c, c < 12 ∨ 15 < c → σ'.1 c = σ.1 c) ∧ (∀ k, k ≠ i → σ'.1 12 k = σ.1 12 k) ∧ ∀ k, k < 4 * i ∨ 4 * i + 4 ≤ k → σ'.1 13 k = σ.1 13 k ∧ σ'.1 14 k = σ.1 14 k ∧ σ'.1 15 k = σ.1 15 k
theorem fA.rfl' {i : Nat} {σ : mG} : fA i σ σ := ⟨rfl, fun _ _ => rfl, fun _ _ => rfl, fun _ _ => ⟨rfl, rfl, rfl⟩⟩
theorem fA.tr {i : Nat} {σ σ1 σ2 : mG} (h : fA i σ σ1) (g : fA i σ1 σ2) : fA i σ σ2 :=
  ⟨g.1.trans h.1, fun c hc => (g.2.1 c hc).trans (h.2.1 c hc), fun k hk => (g.2.2.1 k hk).trans (h.2.2.1 k hk), fun k hk => ⟨(g.2.2.2 k hk).1.trans (h.2.2.2 k hk).1, (g.2.2.2 k hk).2.1.trans (h.2.2.2 k hk).2.1, (g.2.2.2 k hk).2.2.trans (h.2.2.2 k hk).2.2⟩⟩
/-- one slot written -/
def wr3 (σ : mG) (k : Nat) (x y z : Int32) : mG := (mi_uc (mi_uc (mi_uc σ.1 13 (upd (σ.1 13) k x)) 14 (upd (σ.1 14) k y)) 15 (upd (σ.1 15) k z), σ.2)
theorem wr3_fA {i k : Nat} {σ : mG} {x y z : Int32} (h : 4 * i ≤ k) (h2 : k < 4 * i + 4) : fA i σ (wr3 σ k x y z) := by
  refine ⟨rfl, fun c hc => ?_, fun _ _ => rfl, fun j hj => ⟨?_, ?_, ?_⟩⟩
  · show mi_uc (mi_uc (mi_uc σ.1 13 _) 14 _) 15 _ c = σ.1 c
    rw [mi_uc_ne _ _ (by omega), mi_uc_ne _ _ (by omega), mi_uc_ne _ _ (by omega)]
  · exact mi_upd_ne _ _ (by omega)
  · exact mi_upd_ne _ _ (by omega)
  · exact mi_upd_ne _ _ (by omega)
theorem wr3_sl {σ : mG} {k : Nat} {x y z : Int32} {a : mAt} (h1 : x = nI a.1) (h2 : y = nI (a.2.1 + 2)) (h3 : z = nI a.2.2) : sl3 (wr3 σ k x y z) k a := ⟨(mi_upd_same _ _ _).trans h1, (mi_upd_same _ _ _).trans h2, (mi_upd_same _ _ _).trans h3⟩
theorem wr3_ne {σ : mG} {k j : Nat} {x y z : Int32} {a : mAt} (h : j ≠ k) (g : sl3 σ j a) : sl3 (wr3 σ k x y z) j a := ⟨(mi_upd_ne _ _ h).trans g.1, (mi_upd_ne _ _ h).trans g.2.1, (mi_upd_ne _ _ h).trans g.2.2⟩
theorem fl_take {L : List mAt} {s : Nat} {P : mAt → Bool} (h1 : ∀ j, j < s → j < L.length → P (gtA L j) = true) (h2 : ∀ j, s ≤ j → j < L.length → P (gtA L j) = false) : L.filter P = L.take s := by
  conv => lhs; rw [← List.take_append_drop s L]
  rw [List.filter_append, List.filter_eq_self.mpr, List.filter_eq_nil_iff.mpr, List.append_nil]
  · intro a ha
    obtain ⟨j, hj, e⟩ := List.mem_iff_getElem.mp ha
    rw [List.length_drop] at hj
    rw [List.getElem_drop] at e
    have := h2 (s + j) (by omega) (by omega)
    unfold gtA at this
    rw [List.getD_eq_getElem?_getD, List.getElem?_eq_getElem (by omega)] at this
    simp only [Option.getD_some] at this
    rw [e] at this
    rw [this]
    simp
  · intro a ha
    obtain ⟨j, hj, e⟩ := List.mem_iff_getElem.mp ha
    rw [List.length_take] at hj
    rw [List.getElem_take] at e
    have := h1 j (by omega) (by omega)
    unfold gtA at this
    rw [List.getD_eq_getElem?_getD, List.getElem?_eq_getElem (by omega)] at this
    simp only [Option.getD_some] at this
    rw [e] at this
    exact this
theorem fl_drop {L : List mAt} {s : Nat} {P : mAt → Bool} (h1 : ∀ j, j < s → j < L.length → P (gtA L j) = false) (h2 : ∀ j, s ≤ j → j < L.length → P (gtA L j) = true) : L.filter P = L.drop s := by
  conv => lhs; rw [← List.take_append_drop s L]
  rw [List.filter_append, List.filter_eq_nil_iff.mpr, List.filter_eq_self.mpr, List.nil_append]
  · intro a ha
    obtain ⟨j, hj, e⟩ := List.mem_iff_getElem.mp ha
    rw [List.length_drop] at hj
    rw [List.getElem_drop] at e
    have := h2 (s + j) (by omega) (by omega)
    unfold gtA at this
    rw [List.getD_eq_getElem?_getD, List.getElem?_eq_getElem (by omega)] at this
    simp only [Option.getD_some] at this
    rw [e] at this
    exact this
  · intro a ha
    obtain ⟨j, hj, e⟩ := List.mem_iff_getElem.mp ha
    rw [List.length_take] at hj
    rw [List.getElem_take] at e
    have := h1 j (by omega) (by omega)
    unfold gtA at this
    rw [List.getD_eq_getElem?_getD, List.getElem?_eq_getElem (by omega)] at this
    simp only [Option.getD_some] at this
    rw [e] at this
    rw [this]
    simp
theorem pw_gtA {L : List mAt} (h : L.Pairwise (fun b c => kA T b < kA T c)) {i j : Nat} (hij : i < j) (hj : j < L.length) : kA T (gtA L i) < kA T (gtA L j) := by
  have := List.pairwise_iff_getElem.mp h i j (by omega) hj hij
  unfold gtA
  rw [List.getD_eq_getElem?_getD, List.getD_eq_getElem?_getD, List.getElem?_eq_getElem hj, List.getElem?_eq_getElem (by omega)]
  exact this
theorem gtA_ins {L : List mAt} {s j : Nat} {a : mAt} (hs : s ≤ L.length) : gtA (L.take s ++ a :: L.drop s) j = if j < s then gtA L j else if j = s then a else gtA L (j - 1) := by
  unfold gtA
  rw [List.getD_eq_getElem?_getD]
  have hl : (L.take s).length = s := by rw [List.length_take]; omega
  by_cases h : j < s
  · rw [if_pos h, List.getElem?_append_left (by omega), List.getElem?_take, if_pos h, List.getD_eq_getElem?_getD]
  · rw [if_neg h, List.getElem?_append_right (by omega), hl]
    by_cases h2 : j = s
    · rw [if_pos h2, h2, Nat.sub_self]
      rfl
    · rw [if_neg h2, show j - s = (j - s - 1) + 1 by omega, List.getElem?_cons_succ, List.getElem?_drop, List.getD_eq_getElem?_getD, show s + (j - s - 1) = j - 1 by omega]
end AT
