/-! What a text says: places, runs, names, tags. -/
def tc (T : List Nat) (p : Nat) : Nat := T.getD p 0
theorem tc_out {T : List Nat} {p : Nat} (h : T.length ≤ p) : tc T p = 0 := by
  unfold tc
  rw [List.getD_eq_getElem?_getD, List.getElem?_eq_none h]
  rfl
theorem tc_lt {T : List Nat} {p : Nat} (h : tc T p ≠ 0) : p < T.length := Nat.not_le.mp fun z => h (tc_out z)
theorem tc_is {T : List Nat} {p c : Nat} (h : tc T p = c) (hc : 0 < c) : p < T.length := tc_lt (by omega)
theorem tc_ok {T : List Nat} {p : Nat} (hT : okT T) (h : p < T.length) : 32 ≤ tc T p ∧ tc T p ≤ 126 := by
  have : tc T p ∈ T := by
    unfold tc
    rw [List.getD_eq_getElem?_getD, List.getElem?_eq_getElem h]
    exact List.getElem_mem h
  exact hT.2 _ this
theorem tc_hi {T : List Nat} (hT : okT T) (p : Nat) : tc T p ≤ 126 := by
  by_cases h : p < T.length
  · exact (tc_ok hT h).2
  · rw [tc_out (by omega)]
    omega
theorem cdA_in {T : List Nat} {p : Nat} (hT : okT T) (h : p < T.length) : cdA T (nI p) = nI (tc T p) := by
  have := hT.1
  rw [cdA, if_neg (nI_pos (by omega)), if_neg (nI_ge h (by omega)), nI_clamp (by omega)]
  rfl
theorem cdA_out {T : List Nat} {p : Nat} (h : T.length ≤ p) (hp : p < 2 ^ 31) : cdA T (nI p) = -1 := by
  rw [cdA, if_neg (nI_pos hp), if_pos (nI_le h hp)]
theorem cdA_m {T : List Nat} : cdA T (-1) = -1 := by
  rw [cdA, if_pos (by decide)]
theorem m1_ne {c : Nat} (h : c < 2 ^ 31) : ¬ (-1 : Int32) = nI c := by
  intro z
  have := congrArg Int32.toInt z
  rw [nI_toInt h] at this
  have e : (-1 : Int32).toInt = -1 := by decide
  rw [e] at this
  omega
theorem cdA_is {T : List Nat} {p c : Nat} (hT : okT T) (hp : p < 2 ^ 31) (h0 : 0 < c) (hc : c < 2 ^ 31) : cdA T (nI p) = nI c ↔ tc T p = c := by
  by_cases h : p < T.length
  · rw [cdA_in hT h]
    have := tc_hi hT p
    exact nI_eq (by omega) hc
  · rw [cdA_out (by omega) hp, tc_out (by omega)]
    constructor
    · intro z
      exact absurd z (m1_ne hc)
    · intro z
      omega
/-- how many places from p on, below n, keep f -/
def rnF (f : Nat → Bool) : Nat → Nat → Nat
  | 0, _ => 0
  | k + 1, p => if f p = true then rnF f k (p + 1) + 1 else 0
def rn (f : Nat → Bool) (n p : Nat) : Nat := rnF f (n - p) p
theorem rn_t {f : Nat → Bool} {n p : Nat} (h : p < n) (hf : f p = true) : rn f n p = rn f n (p + 1) + 1 := by
  unfold rn
  rw [show n - p = (n - (p + 1)) + 1 by omega]
  show (if f p = true then rnF f (n - (p + 1)) (p + 1) + 1 else 0) = _
  rw [if_pos hf]
theorem rn_f {f : Nat → Bool} {n p : Nat} (h : ¬ (p < n ∧ f p = true)) : rn f n p = 0 := by
  unfold rn
  by_cases hp : p < n
  · rw [show n - p = (n - (p + 1)) + 1 by omega]
    show (if f p = true then rnF f (n - (p + 1)) (p + 1) + 1 else 0) = _
    rw [if_neg (fun z => h ⟨hp, z⟩)]
  · rw [show n - p = 0 by omega]
    rfl
theorem rn_ind {f : Nat → Bool} {n : Nat} {P : Nat → Nat → Prop} (h0 : ∀ p, ¬ (p < n ∧ f p = true) → P p 0) (h1 : ∀ p k, p < n → f p = true → P (p + 1) k → P p (k + 1)) : ∀ p, P p (rn f n p) := by
  have : ∀ k p, rn f n p = k → P p k := by
    intro k
    induction k with
    | zero =>
      intro p hk
      refine h0 p fun z => ?_
      rw [rn_t z.1 z.2] at hk
      omega
    | succ k ih =>
      intro p hk
      by_cases z : p < n ∧ f p = true
      · rw [rn_t z.1 z.2] at hk
        exact h1 p k z.1 z.2 (ih (p + 1) (by omega))
      · rw [rn_f z] at hk
        omega
  exact fun p => this _ p rfl
theorem rn_le {f : Nat → Bool} {n p : Nat} (h : p ≤ n) : p + rn f n p ≤ n := by
  refine rn_ind (f := f) (n := n) (P := fun p k => p ≤ n → p + k ≤ n) (fun p _ h => h) (fun p k h1 _ ih _ => ?_) p h
  have := ih (by omega)
  omega
theorem rn_stop {f : Nat → Bool} {n p : Nat} : ¬ (p + rn f n p < n ∧ f (p + rn f n p) = true) := by
  refine rn_ind (f := f) (n := n) (P := fun p k => ¬ (p + k < n ∧ f (p + k) = true)) (fun p h => h) (fun p k _ _ ih => ?_) p
  rw [show p + (k + 1) = p + 1 + k by omega]
  exact ih
theorem rn_in {f : Nat → Bool} {n p : Nat} : ∀ q, p ≤ q → q < p + rn f n p → f q = true := by
  refine rn_ind (f := f) (n := n) (P := fun p k => ∀ q, p ≤ q → q < p + k → f q = true) (fun p _ q h1 h2 => by omega) (fun p k _ hf ih q h1 h2 => ?_) p
  by_cases hz : q = p
  · rw [hz]
    exact hf
  · exact ih q (by omega) (by omega)
def isL (c : Nat) : Bool := decide (97 ≤ c) && decide (c ≤ 122)
theorem isL_iff {c : Nat} : isL c = true ↔ 97 ≤ c ∧ c ≤ 122 := by
  unfold isL
  rw [Bool.and_eq_true, decide_eq_true_iff, decide_eq_true_iff]
/-- letters, spaces, a value's codes, what is no two dashes -/
def nL (T : List Nat) (p : Nat) : Nat := rn (fun q => isL (tc T q)) T.length p
def nS (T : List Nat) (p : Nat) : Nat := rn (fun q => decide (tc T q = 32)) T.length p
def nV (T : List Nat) (p : Nat) : Nat := rn (fun q => !(decide (tc T q = 34) || decide (tc T q = 60))) T.length p
def dsh (T : List Nat) (p : Nat) : Bool := decide (tc T p = 45) && decide (tc T (p + 1) = 45)
def nC (T : List Nat) (p : Nat) : Nat := rn (fun q => !dsh T q) T.length p
def oI : Option Nat → Int32
  | none => -1
  | some p => nI p
def seg (T : List Nat) (p q : Nat) : List Nat := (T.drop p).take (q - p)
theorem seg_len {T : List Nat} {p q : Nat} (h : q ≤ T.length) : (seg T p q).length = q - p := by
  unfold seg
  rw [List.length_take, List.length_drop]
  omega
theorem seg_nil {T : List Nat} {p q : Nat} (h : q ≤ p) : seg T p q = [] := by
  unfold seg
  rw [show q - p = 0 by omega]
  rfl
theorem seg_cons {T : List Nat} {p q : Nat} (h : p < q) (hq : q ≤ T.length) : seg T p q = tc T p :: seg T (p + 1) q := by
  unfold seg
  rw [show q - p = (q - (p + 1)) + 1 by omega, List.drop_eq_getElem_cons (by omega), List.take_succ_cons]
  congr 1
  unfold tc
  rw [List.getD_eq_getElem?_getD, List.getElem?_eq_getElem (by omega)]
  rfl
theorem seg_snoc {T : List Nat} {p q : Nat} (h : p ≤ q) (hq : q < T.length) : seg T p (q + 1) = seg T p q ++ [tc T q] := by
  unfold seg
  rw [show q + 1 - p = (q - p) + 1 by omega, List.take_add_one]
  congr 1
  rw [List.getElem?_drop, show p + (q - p) = q by omega, List.getElem?_eq_getElem hq]
  unfold tc
  rw [List.getD_eq_getElem?_getD, List.getElem?_eq_getElem hq]
  rfl
theorem seg_get {T : List Nat} {p q i : Nat} (h : i < q - p) : (seg T p q).getD i 0 = tc T (p + i) := getD_mid h
theorem seg_okC {T : List Nat} (hT : okT T) (p q : Nat) : okC (seg T p q) := fun c hc => hT.2 c (List.mem_of_mem_drop (List.mem_of_mem_take hc))
/-- a packed name: k bytes, the first code on top -/
def pkp : Nat → List Nat → Nat
  | 0, _ => 0
  | _ + 1, [] => 0
  | k + 1, a :: l => a * 256 ^ k + pkp k l
theorem pkp_nil (k : Nat) : pkp k [] = 0 := by
  cases k
  · rfl
  · rfl
theorem pkp_lt : ∀ (k : Nat) (l : List Nat), (∀ c ∈ l, c < 256) → pkp k l < 256 ^ k := by
  intro k
  induction k with
  | zero => intro l _; exact Nat.zero_lt_one
  | succ k ih =>
    intro l h
    cases l with
    | nil => exact Nat.pow_pos (by decide)
    | cons a l =>
      have h1 := ih l (fun c hc => h c (List.mem_cons_of_mem a hc))
      have h2 := h a (List.mem_cons_self ..)
      show a * 256 ^ k + pkp k l < 256 ^ (k + 1)
      rw [Nat.pow_succ]
      have h3 : a * 256 ^ k ≤ 255 * 256 ^ k := Nat.mul_le_mul_right _ (by omega)
      omega
/-- names: at most k codes, none of them 0 -/
def okN (k : Nat) (l : List Nat) : Prop := l.length ≤ k ∧ ∀ c ∈ l, 0 < c ∧ c < 256
theorem okN.tl {k a : Nat} {l : List Nat} (h : okN (k + 1) (a :: l)) : okN k l := ⟨Nat.le_of_succ_le_succ h.1, fun c hc => h.2 c (List.mem_cons_of_mem a hc)⟩
theorem okN.lt {k : Nat} {l : List Nat} (h : okN k l) : pkp k l < 256 ^ k := pkp_lt k l (fun c hc => (h.2 c hc).2)
/-- the order of two names -/
def ordL (D : Int32) : List Nat → List Nat → Int32
  | a :: l, b :: m => if nI a - nI b = 0 then ordL D l m else nI a - nI b
  | _, _ => D
theorem mul_lt_key {a b x y P : Nat} (h : a < b) (hx : x < P) : a * P + x < b * P + y := by
  have : (a + 1) * P ≤ b * P := Nat.mul_le_mul_right _ h
  rw [Nat.add_mul] at this
  omega
theorem subI {a b : Nat} (ha : a < 2 ^ 30) (hb : b < 2 ^ 30) : (nI a - nI b = 0 ↔ a = b) ∧ (nI a - nI b ≤ 0 ↔ a ≤ b) := by
  have h0 : (0 : Int32).toInt = 0 := rfl
  rw [← Int32.toInt_inj, Int32.le_iff_toInt_le, pk_sub_toInt ha hb, h0]
  omega
theorem ordL_eq (D : Int32) : ∀ (l m : List Nat), D.toInt = (l.length : Int) - m.length → (∀ c ∈ l, c < 256) → (∀ c ∈ m, c < 256) → (ordL D l m = 0 ↔ l = m) := by
  intro l
  induction l with
  | nil =>
    intro m hD _ _
    cases m with
    | nil =>
      show D = 0 ↔ _
      rw [← Int32.toInt_inj, hD]
      simp
    | cons b m =>
      show D = 0 ↔ _
      rw [← Int32.toInt_inj, hD]
      have h0 : (0 : Int32).toInt = 0 := rfl
      rw [h0]
      simp
      omega
  | cons a l ih =>
    intro m hD h1 h2
    cases m with
    | nil =>
      show D = 0 ↔ _
      rw [← Int32.toInt_inj, hD]
      have h0 : (0 : Int32).toInt = 0 := rfl
      rw [h0]
      simp
      omega
    | cons b m =>
      have ha := h1 a (List.mem_cons_self ..)
      have hb := h2 b (List.mem_cons_self ..)
      have hs := subI (a := a) (b := b) (by omega) (by omega)
      show (if nI a - nI b = 0 then ordL D l m else nI a - nI b) = 0 ↔ _
      by_cases hz : nI a - nI b = 0
      · rw [if_pos hz, ih m (by rw [hD]; simp; omega) (fun c hc => h1 c (List.mem_cons_of_mem a hc)) (fun c hc => h2 c (List.mem_cons_of_mem b hc))]
        rw [hs.1.mp hz]
        simp
      · rw [if_neg hz]
        constructor
        · intro z
          exact absurd z hz
        · intro z
          injection z with z1 z2
          exact absurd (hs.1.mpr z1) hz
theorem ordL_key (D : Int32) : ∀ (k : Nat) (l m : List Nat), D.toInt = (l.length : Int) - m.length → okN k l → okN k m → (ordL D l m = 0 ↔ pkp k l = pkp k m) ∧ (ordL D l m ≤ 0 ↔ pkp k l ≤ pkp k m) := by
  intro k
  have h0 : (0 : Int32).toInt = 0 := rfl
  induction k with
  | zero =>
    intro l m hD h1 h2
    have e1 := List.eq_nil_of_length_eq_zero (Nat.le_zero.mp h1.1)
    have e2 := List.eq_nil_of_length_eq_zero (Nat.le_zero.mp h2.1)
    subst e1 e2
    show (D = 0 ↔ _) ∧ (D ≤ 0 ↔ _)
    rw [← Int32.toInt_inj, Int32.le_iff_toInt_le, hD, h0]
    simp
  | succ k ih =>
    intro l m hD h1 h2
    cases l with
    | nil =>
      cases m with
      | nil =>
        show (D = 0 ↔ _) ∧ (D ≤ 0 ↔ _)
        rw [← Int32.toInt_inj, Int32.le_iff_toInt_le, hD, h0]
        simp
      | cons b m =>
        show (D = 0 ↔ _) ∧ (D ≤ 0 ↔ _)
        rw [← Int32.toInt_inj, Int32.le_iff_toInt_le, hD, h0]
        have hb := (h2.2 b (List.mem_cons_self ..)).1
        have hp : 1 * 256 ^ k ≤ b * 256 ^ k := Nat.mul_le_mul_right _ hb
        have hq : 0 < 256 ^ k := Nat.pow_pos (by decide)
        show (((([] : List Nat).length : Int) - ((b :: m).length : Int) = 0) ↔ (0 = b * 256 ^ k + pkp k m)) ∧ (((([] : List Nat).length : Int) - ((b :: m).length : Int) ≤ 0) ↔ (0 ≤ b * 256 ^ k + pkp k m))
        simp only [List.length_nil, List.length_cons]
        omega
    | cons a l =>
      cases m with
      | nil =>
        show (D = 0 ↔ _) ∧ (D ≤ 0 ↔ _)
        rw [← Int32.toInt_inj, Int32.le_iff_toInt_le, hD, h0]
        have ha := (h1.2 a (List.mem_cons_self ..)).1
        have hp : 1 * 256 ^ k ≤ a * 256 ^ k := Nat.mul_le_mul_right _ ha
        have hq : 0 < 256 ^ k := Nat.pow_pos (by decide)
        show ((((a :: l).length : Int) - (([] : List Nat).length : Int) = 0) ↔ (a * 256 ^ k + pkp k l = 0)) ∧ ((((a :: l).length : Int) - (([] : List Nat).length : Int) ≤ 0) ↔ (a * 256 ^ k + pkp k l ≤ 0))
        simp only [List.length_nil, List.length_cons]
        omega
      | cons b m =>
        have ha := (h1.2 a (List.mem_cons_self ..)).2
        have hb := (h2.2 b (List.mem_cons_self ..)).2
        have hs := subI (a := a) (b := b) (by omega) (by omega)
        have l1 := h1.tl.lt
        have l2 := h2.tl.lt
        have hi := ih l m (by rw [hD]; simp; omega) h1.tl h2.tl
        show ((if nI a - nI b = 0 then ordL D l m else nI a - nI b) = 0 ↔ a * 256 ^ k + pkp k l = b * 256 ^ k + pkp k m) ∧ ((if nI a - nI b = 0 then ordL D l m else nI a - nI b) ≤ 0 ↔ a * 256 ^ k + pkp k l ≤ b * 256 ^ k + pkp k m)
        by_cases hz : nI a - nI b = 0
        · have e := hs.1.mp hz
          subst e
          rw [if_pos hz, hi.1, hi.2]
          omega
        · rw [if_neg hz]
          have hne : a ≠ b := fun z => hz (hs.1.mpr z)
          rcases Nat.lt_or_gt_of_ne hne with z | z
          · have := mul_lt_key (x := pkp k l) (y := pkp k m) z l1
            refine ⟨⟨fun y => absurd y hz, fun y => by omega⟩, ⟨fun _ => by omega, fun _ => hs.2.mpr (by omega)⟩⟩
          · have := mul_lt_key (x := pkp k m) (y := pkp k l) z l2
            refine ⟨⟨fun y => absurd y hz, fun y => by omega⟩, ⟨fun y => ?_, fun y => by omega⟩⟩
            have := hs.2.mp y
            omega
theorem pkp_inj : ∀ (k : Nat) (l m : List Nat), okN k l → okN k m → pkp k l = pkp k m → l = m := by
  intro k l m h1 h2 he
  have hk : ∀ a b : Nat, ∃ D : Int32, a < 2 ^ 30 → b < 2 ^ 30 → D.toInt = (a : Int) - b := fun a b => ⟨nI a - nI b, fun x y => pk_sub_toInt x y⟩
  induction k generalizing l m with
  | zero =>
    have e1 := List.eq_nil_of_length_eq_zero (Nat.le_zero.mp h1.1)
    have e2 := List.eq_nil_of_length_eq_zero (Nat.le_zero.mp h2.1)
    rw [e1, e2]
  | succ k ih =>
    have hq : 0 < 256 ^ k := Nat.pow_pos (by decide)
    cases l with
    | nil =>
      cases m with
      | nil => rfl
      | cons b m =>
        have hb := (h2.2 b (List.mem_cons_self ..)).1
        have hp : 1 * 256 ^ k ≤ b * 256 ^ k := Nat.mul_le_mul_right _ hb
        have he : 0 = b * 256 ^ k + pkp k m := he
        omega
    | cons a l =>
      cases m with
      | nil =>
        have ha := (h1.2 a (List.mem_cons_self ..)).1
        have hp : 1 * 256 ^ k ≤ a * 256 ^ k := Nat.mul_le_mul_right _ ha
        have he : a * 256 ^ k + pkp k l = 0 := he
        omega
      | cons b m =>
        have l1 := h1.tl.lt
        have l2 := h2.tl.lt
        have he : a * 256 ^ k + pkp k l = b * 256 ^ k + pkp k m := he
        have e : a = b := by
          rcases Nat.lt_trichotomy a b with z | z | z
          · have := mul_lt_key (x := pkp k l) (y := pkp k m) z l1
            omega
          · exact z
          · have := mul_lt_key (x := pkp k m) (y := pkp k l) z l2
            omega
        subst e
        rw [ih l m h1.tl h2.tl (by omega)]
