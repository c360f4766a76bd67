/-! The reference's digest of an element -/
section
variable {X : Nat × (Nat → Int32)} {d : Nat} {T : List Nat} {σ : mG}
theorem K155 {h c : Nat} (hh : h < 65521) (hc : c < 256) : RR X (d + 1) 155 [.int (nI h), .int (nI c)] σ (some (.int (nI (fd h c))), σ) := by
  refine mi_R.of rfl rfl (R155_0 ?_)
  rw [show (257 : Int32) = nI 257 from rfl, show (65521 : Int32) = nI 65521 from rfl, pk_mul, nI_add, pk_rem (by omega) (by omega) (by omega)]
  unfold fd
  rfl
def s8 : Nat → Int32
  | 0 => -8
  | k + 1 => nI (8 * k)
theorem s8_step (k : Nat) : nI (8 * k) + (-8) = s8 k := by
  cases k with
  | zero => rfl
  | succ k =>
    show nI (8 * k + 8) + (-8) = nI (8 * k)
    rw [← nI_add, Int32.add_assoc, show nI 8 + (-8) = 0 from rfl, Int32.add_zero]
theorem byt {w k : Nat} (hw : w < 2 ^ 63) (hk : k < 8) : ((lN w >>> ((nI (8 * k)).toInt64 &&& 63)) &&& 255).toInt32 = nI (w / 256 ^ k % 256) := by
  have e : (nI (8 * k)) = (8 : Int32) * nI k := by rw [show (8 : Int32) = nI 8 from rfl, pk_mul]
  rw [e, lb_shr (d := 8 * k) (by rw [shN k hk, BitVec.toNat_ofNat, Nat.mod_eq_of_lt (by omega)]) hw, lb_and (Nat.lt_of_le_of_lt (Nat.div_le_self _ _) (by omega)), lN_i, Nat.pow_mul]
theorem pkp_hd {k a : Nat} {l : List Nat} (h : okN (k + 1) (a :: l)) {w : Nat} (e : w % 256 ^ (k + 1) = pkp (k + 1) (a :: l)) : w / 256 ^ k % 256 = a ∧ w % 256 ^ k = pkp k l := by
  have h1 := h.tl.lt
  have hp : 0 < 256 ^ k := Nat.pow_pos (by omega)
  have e2 : w % (256 ^ k * 256) = a * 256 ^ k + pkp k l := by rw [← Nat.pow_succ]; exact e
  constructor
  · rw [← Nat.mod_mul_right_div_self, e2, Nat.mul_comm a, Nat.mul_add_div hp, Nat.div_eq_of_lt h1, Nat.add_zero]
  · have : w % (256 ^ k * 256) % 256 ^ k = w % 256 ^ k := Nat.mod_mul_right_mod _ _ _
    rw [← this, e2, Nat.mul_comm a, Nat.mul_add_mod, Nat.mod_eq_of_lt h1]
theorem pkp_n0 {k w : Nat} (e : w % 256 ^ (k + 1) = 0) : w / 256 ^ k % 256 = 0 ∧ w % 256 ^ k = 0 := by
  have e2 : w % (256 ^ k * 256) = 0 := by rw [← Nat.pow_succ]; exact e
  constructor
  · rw [← Nat.mod_mul_right_div_self, e2, Nat.zero_div]
  · have : w % (256 ^ k * 256) % 256 ^ k = w % 256 ^ k := Nat.mod_mul_right_mod _ _ _
    rw [← this, e2, Nat.zero_mod]
theorem L156 {w : Nat} (hw : w < 2 ^ 63) {x0 : Int32} : ∀ (k h : Nat) (l : List Nat) (u : Option Value), k ≤ 6 → okN k l → w % 256 ^ k = pkp k l → h < 65521 → TT X (d + 1) tb156 (some .int) (6, [some (.int x0), some (.long (lN w)), none, some (.int (nI h)), some (.int (s8 k)), u], [], σ) (some (.int (nI (fl h l))), σ) := by
  intro k
  induction k with
  | zero =>
    intro h l u _ hl _ _
    have : l = [] := List.length_eq_zero_iff.mp (Nat.le_zero.mp hl.1)
    rw [this, fl_nil]
    exact R156_6 (v1 := 0) (σ1 := σ) (fun _ => rfl) (fun z => absurd (by decide) z) (fun z => absurd (by decide) z) (fun z => absurd (by decide) z)
  | succ k ih =>
    intro h l u hk hl he hh
    show TT X (d + 1) tb156 (some .int) (6, [some (.int x0), some (.long (lN w)), none, some (.int (nI h)), some (.int (nI (8 * k))), u], [], σ) _
    have hb := byt (w := w) (k := k) hw (by omega)
    have z0 : ¬ nI (8 * k) < 0 := nI_pos (by omega)
    cases l with
    | nil =>
      rw [pkp_nil] at he
      obtain ⟨e1, e2⟩ := pkp_n0 he
      rw [e1] at hb
      refine R156_6 (v1 := 0) (σ1 := σ) (fun z => absurd z z0) (fun _ z => absurd hb z) (fun _ z => absurd hb z) (fun _ _ => ?_)
      rw [s8_step]
      exact ih h [] _ (by omega) ⟨Nat.zero_le _, fun c hc => by cases hc⟩ (by rw [pkp_nil]; exact e2) hh
    | cons a l =>
      obtain ⟨e1, e2⟩ := pkp_hd hl he
      have ha := hl.2 a (List.mem_cons_self ..)
      rw [e1] at hb
      have z1 : ¬ ((lN w >>> ((nI (8 * k)).toInt64 &&& 63)) &&& 255).toInt32 = 0 := by
        rw [hb]
        exact nI_ne0 ha.1 (by omega)
      refine R156_6 (v1 := nI (fd h a)) (σ1 := σ) (fun z => absurd z z0) (fun _ _ => ?_) (fun _ _ => ?_) (fun _ z => absurd z1 z)
      · rw [hb]
        exact K155 hh ha.2
      · rw [s8_step, fl_cons]
        exact ih (fd h a) l _ (by omega) hl.tl e2 (fd_lt _ _)
theorem K156 {h : Nat} {l : List Nat} (hl : okN 6 l) (hh : h < 65521) : RR X (d + 2) 156 [.int (nI h), .long (lN (pkp 6 l))] σ (some (.int (nI (fl h l))), σ) := by
  have h6 := hl.lt
  have h6' : pkp 6 l < 2 ^ 63 := Nat.lt_of_lt_of_le h6 (by decide)
  exact mi_R.of rfl rfl (R156_0 (L156 h6' 6 h l none (by omega) hl (Nat.mod_eq_of_lt h6) hh))
theorem tx_M (hT : okT T) (hc : cT (σ.1 38 4) (σ.1 39) T) {p : Nat} (hp : p < T.length) : σ.1 39 (nI p).toNatClampNeg = nI (tc T p) := by
  have hl := hT.1
  rw [nI_clamp (by omega), hc.2 p hp]
  rfl
theorem L157 (hT : okT T) (hc : cT (σ.1 38 4) (σ.1 39) T) {s q : Nat} (hs : s < 80) (e62 : σ.1 62 s = nI q) (hq : q < T.length) {x1 : Int32} : ∀ (k p h : Nat), p + k = q → h < 65521 → TT X (d + 1) tb157 (some .int) (36, [some (.ref 38), some (.int x1), some (.int (nI s)), some (.int (nI h)), some (.int (nI p))], [], σ) (some (.int (nI (fl h (seg T p q ++ [34])))), σ) := by
  have hl := hT.1
  have hin : mi_in (nI s) 80 = true := mi_in_nI hs (by omega)
  intro k
  induction k with
  | zero =>
    intro p h hk hh
    have z : σ.1 62 (nI s).toNatClampNeg ≤ nI p := by
      rw [nI_clamp (by omega), e62]
      exact nI_le (by omega) (by omega)
    refine R157_36 (v2 := 0) (σ2 := σ) hin (fun _ => K155 (c := 34) hh (by omega)) (fun _ => ?_) (fun y => absurd z y) (fun y => absurd z y) (fun y => absurd z y)
    rw [seg_nil (by omega), List.nil_append, fl_cons, fl_nil]
  | succ k ih =>
    intro p h hk hh
    have z : ¬ σ.1 62 (nI s).toNatClampNeg ≤ nI p := by
      rw [nI_clamp (by omega), e62]
      exact nI_ge (by omega) (by omega)
    have ht := tc_hi hT p
    refine R157_36 (v1 := 0) (σ1 := σ) hin (fun y => absurd y z) (fun y => absurd y z) (fun _ => mi_in_nI (by omega) (by omega)) (fun _ => ?_) (fun _ => ?_) (v2 := nI (fd h (tc T p))) (σ2 := σ)
    · rw [tx_M hT hc (by omega)]
      exact K155 hh (by omega)
    · rw [nI_1, seg_cons (by omega) (by omega), List.cons_append, fl_cons]
      exact ih (p + 1) (fd h (tc T p)) (by omega) (fd_lt _ _)
theorem K157 (hT : okT T) (hc : cT (σ.1 38 4) (σ.1 39) T) {i j : Nat} {as : List mAt} (ha : atM T σ i as) (h4 : as.length ≤ 4) (hi : i < 20) (hj : j < as.length) (ga : gA T (gtA as j)) (gq : gQ T (gtA as j)) {h : Nat} (hh : h < 65521) : RR X (d + 3) 157 [.ref 38, .int (nI h), .int (nI (4 * i + j))] σ (some (.int (nI (fl (fd h 32) (seg T (gtA as j).1 ((gtA as j).2.2 + 1))))), σ) := by
  have hl := hT.1
  have hin : mi_in (nI (4 * i + j)) 80 = true := mi_in_nI (by omega) (by omega)
  obtain ⟨e1, e2, e3⟩ := ha.2 j hj
  have e1' : σ.2 60 (nI (4 * i + j)).toNatClampNeg = lN (pkp 6 (seg T (gtA as j).1 (gtA as j).2.1)) := by
    rw [nI_clamp (by omega)]
    exact e1
  refine mi_R.of rfl rfl (R157_0 (K155 (c := 32) hh (by omega)) hin (v2 := nI (fl (fd h 32) (seg T (gtA as j).1 (gtA as j).2.1))) (σ2 := σ) ?_ (K155 (c := 61) (fl_lt _ _ (fd_lt _ _)) (by omega)) (K155 (c := 34) (fd_lt _ _) (by omega)) hin ?_)
  · rw [e1']
    exact K156 ga.1.ok (fd_lt _ _)
  · have := L157 (X := X) (d := d + 1) hT hc (s := 4 * i + j) (by omega) e3 ga.2.2 (x1 := nI h) ((gtA as j).2.2 - ((gtA as j).2.1 + 2)) ((gtA as j).2.1 + 2) (fd (fd (fl (fd h 32) (seg T (gtA as j).1 (gtA as j).2.1)) 61) 34) (by have := ga.2.1; omega) (fd_lt _ _)
    rw [seg_attr ga gq, fl_app, fl_cons, fl_cons, nI_clamp (n := 4 * i + j) (by omega), e2]
    exact this
/-! selection of the next attribute -/
def bst (T : List Nat) (as : List mAt) (w j : Nat) (o : Option Nat) : Prop := (∀ b, o = some b → b < j ∧ w < kA T (gtA as b) ∧ ∀ i, i < j → w < kA T (gtA as i) → kA T (gtA as b) ≤ kA T (gtA as i)) ∧ (o = none → ∀ i, i < j → kA T (gtA as i) ≤ w)
def lst (T : List Nat) (L : List mAt) (c : Nat) : Nat := if c = 0 then 0 else kA T (gtA L (c - 1))
theorem kA_pos {a : mAt} (g : gA T a) : 0 < kA T a := by
  obtain ⟨⟨g1, g2, g3, g4⟩, -⟩ := g
  unfold kA
  rw [seg_cons g1 g3]
  have := isL_iff.mp (g4 a.1 (Nat.le_refl _) g1)
  show 0 < tc T a.1 * 256 ^ 5 + pkp 5 _
  omega
theorem bst_L {as L : List mAt} (hS : SL T as L) (hg : ∀ a ∈ as, gA T a) {c : Nat} (hc : c < L.length) {o : Option Nat} (h : bst T as (lst T L c) as.length o) : ∃ b, o = some b ∧ b < as.length ∧ gtA as b = gtA L c := by
  obtain ⟨s1, s2, s3⟩ := hS
  obtain ⟨j0, q1, q2⟩ := mem_gtA ((s2 _).mp (gtA_mem hc))
  have hlt : lst T L c < kA T (gtA L c) := by
    unfold lst
    by_cases z : c = 0
    · rw [if_pos z]
      exact kA_pos (hg _ ((s2 _).mp (gtA_mem hc)))
    · rw [if_neg z]
      exact pw_gtA s3 (by omega) hc
  cases o with
  | none =>
    have := h.2 rfl j0 q1
    rw [q2] at this
    omega
  | some b =>
    obtain ⟨b1, b2, b3⟩ := h.1 b rfl
    refine ⟨b, rfl, b1, ?_⟩
    have b4 := b3 j0 q1 (by rw [q2]; exact hlt)
    rw [q2] at b4
    obtain ⟨m, m1, m2⟩ := mem_gtA ((s2 _).mpr (gtA_mem b1))
    rw [← m2] at b2 b4 ⊢
    rcases Nat.lt_trichotomy m c with z | z | z
    · exfalso
      unfold lst at b2
      rw [if_neg (by omega)] at b2
      by_cases e : m = c - 1
      · rw [e] at b2
        omega
      · have := pw_gtA s3 (show m < c - 1 by omega) (by omega)
        omega
    · rw [z]
    · have := pw_gtA s3 z m1
      omega
theorem bst_0 {as : List mAt} {w : Nat} : bst T as w 0 none := ⟨fun b e => (by cases e), fun _ i' hi' => absurd hi' (Nat.not_lt_zero _)⟩
theorem bst_no {as : List mAt} {w j : Nat} (hb : bst T as w j none) (h1 : kA T (gtA as j) ≤ w) : bst T as w (j + 1) none := by
  refine ⟨fun b e => (by cases e), fun _ i' hi' => ?_⟩
  by_cases e : i' = j
  · rw [e]
    exact h1
  · exact hb.2 rfl i' (by omega)
theorem bst_new {as : List mAt} {w j : Nat} (hb : bst T as w j none) (h1 : ¬ kA T (gtA as j) ≤ w) : bst T as w (j + 1) (some j) := by
  refine ⟨fun b e => ?_, fun e => (by cases e)⟩
  injection e with e
  subst e
  refine ⟨by omega, by omega, fun i' hi' hlt => ?_⟩
  by_cases e : i' = j
  · rw [e]
    exact Nat.le_refl _
  · have := hb.2 rfl i' (by omega)
    omega
theorem bst_kp {as : List mAt} {w j b : Nat} (hb : bst T as w j (some b)) (h : kA T (gtA as j) ≤ w ∨ kA T (gtA as b) ≤ kA T (gtA as j)) : bst T as w (j + 1) (some b) := by
  obtain ⟨b1, b2, b3⟩ := hb.1 b rfl
  refine ⟨fun b' e => ?_, fun e => (by cases e)⟩
  injection e with e
  subst e
  refine ⟨by omega, b2, fun i' hi' hlt => ?_⟩
  by_cases e : i' = j
  · rw [e] at hlt ⊢
    omega
  · exact b3 i' (by omega) hlt
theorem bst_ch {as : List mAt} {w j b : Nat} (hb : bst T as w j (some b)) (h1 : ¬ kA T (gtA as j) ≤ w) (h2 : ¬ kA T (gtA as b) ≤ kA T (gtA as j)) : bst T as w (j + 1) (some j) := by
  obtain ⟨b1, b2, b3⟩ := hb.1 b rfl
  refine ⟨fun b' e => ?_, fun e => (by cases e)⟩
  injection e with e
  subst e
  refine ⟨by omega, by omega, fun i' hi' hlt => ?_⟩
  by_cases e : i' = j
  · rw [e]
    exact Nat.le_refl _
  · have := b3 i' (by omega) hlt
    omega
theorem L158i {i : Nat} {as : List mAt} (ha : atM T σ i as) (h4 : as.length ≤ 4) (hi : i < 20) (hg : ∀ a ∈ as, gA T a) {w : Nat} (hw : w < 2 ^ 63) {x1 x3 x6 : Int32} {r : mA mG} : ∀ (m j : Nat) (o : Option Nat), j + m = as.length → bst T as w j o → (∀ o', bst T as w as.length o' → TT X d tb158 (some .int) (41, [some (.ref 38), some (.int x1), some (.int (nI i)), some (.int x3), some (.long (lN w)), none, some (.int x6), some (.int (o4 i o')), some (.int (nI (4 * i + as.length)))], [], σ) r) → TT X d tb158 (some .int) (41, [some (.ref 38), some (.int x1), some (.int (nI i)), some (.int x3), some (.long (lN w)), none, some (.int x6), some (.int (o4 i o)), some (.int (nI (4 * i + j)))], [], σ) r := by
  have hin : mi_in (nI i) 20 = true := mi_in_nI (by omega) (by omega)
  have hk : ∀ b, b < as.length → kA T (gtA as b) < 2 ^ 63 := fun b hb => Nat.lt_of_lt_of_le (hg _ (gtA_mem hb)).1.ok.lt (by decide)
  intro m
  induction m with
  | zero =>
    intro j o hj hb k
    have : j = as.length := by omega
    subst this
    exact k o hb
  | succ m ih =>
    intro j o hj hb k
    have hjl : j < as.length := by omega
    have hin8 : mi_in (nI (4 * i + j)) 80 = true := mi_in_nI (by omega) (by omega)
    have z0 : ¬ 4 * nI i + σ.1 59 (nI i).toNatClampNeg ≤ nI (4 * i + j) := by
      rw [nI_clamp (by omega), ha.1, show (4 : Int32) = nI 4 from rfl, pk_mul, nI_add]
      exact nI_ge (by omega) (by omega)
    have ej : σ.2 60 (nI (4 * i + j)).toNatClampNeg = lN (kA T (gtA as j)) := by
      rw [nI_clamp (by omega)]
      exact (ha.2 j hjl).1
    have hle : lg_cmp (σ.2 60 (nI (4 * i + j)).toNatClampNeg) (lN w) ≤ 0 ↔ kA T (gtA as j) ≤ w := by
      rw [ej, lg_cmp_le, pk_lLE (hk j hjl) hw]
    have st : nI (4 * i + j) + 1 = nI (4 * i + (j + 1)) := nI_1 _
    cases o with
    | none =>
      have z7 : o4 i none < 0 := show (-1 : Int32) < 0 by decide
      by_cases h1 : kA T (gtA as j) ≤ w
      · have t := ih (j + 1) none (by omega) (bst_no hb h1) k
        apply R158_41 (v1 := 0) (σ1 := σ)
        case k3 =>
          intro _ _
          rw [st]
          exact t
        case k4 => exact fun _ z => absurd (hle.mpr h1) z
        case b4 => exact fun _ z => absurd (hle.mpr h1) z
        case b5 => exact fun _ z => absurd (hle.mpr h1) z
        case k5 => exact fun _ z => absurd (hle.mpr h1) z
        case k6 => exact fun _ z => absurd (hle.mpr h1) z
        all_goals (intros; first | exact hin | exact hin8 | contradiction)
      · have t := ih (j + 1) (some j) (by omega) (bst_new hb h1) k
        apply R158_41 (v1 := 0) (σ1 := σ)
        case k3 => exact fun _ z => absurd (hle.mp z) h1
        case k4 =>
          intro _ _ _
          rw [st]
          exact t
        case b5 => exact fun _ _ z => absurd z7 z
        case k5 => exact fun _ _ z => absurd z7 z
        case k6 => exact fun _ _ z => absurd z7 z
        all_goals (intros; first | exact hin | exact hin8 | contradiction)
    | some b =>
      obtain ⟨b1, b2, b3⟩ := hb.1 b rfl
      have hbl : b < as.length := by omega
      have z7 : ¬ o4 i (some b) < 0 := nI_pos (n := 4 * i + b) (by omega)
      have hin7 : mi_in (o4 i (some b)) 80 = true := mi_in_nI (j := 4 * i + b) (by omega) (by omega)
      have eb : σ.2 60 (o4 i (some b)).toNatClampNeg = lN (kA T (gtA as b)) := by
        show σ.2 60 (nI (4 * i + b)).toNatClampNeg = _
        rw [nI_clamp (by omega)]
        exact (ha.2 b hbl).1
      have hge : 0 ≤ lg_cmp (σ.2 60 (nI (4 * i + j)).toNatClampNeg) (σ.2 60 (o4 i (some b)).toNatClampNeg) ↔ kA T (gtA as b) ≤ kA T (gtA as j) := by
        rw [ej, eb, lg_cmp_ge, pk_lLE (hk b hbl) (hk j hjl)]
      by_cases h1 : kA T (gtA as j) ≤ w
      · have t := ih (j + 1) (some b) (by omega) (bst_kp hb (Or.inl h1)) k
        apply R158_41 (v1 := 0) (σ1 := σ)
        case k3 =>
          intro _ _
          rw [st]
          exact t
        case k4 => exact fun _ z => absurd (hle.mpr h1) z
        case b4 => exact fun _ z => absurd (hle.mpr h1) z
        case b5 => exact fun _ z => absurd (hle.mpr h1) z
        case k5 => exact fun _ z => absurd (hle.mpr h1) z
        case k6 => exact fun _ z => absurd (hle.mpr h1) z
        all_goals (intros; first | exact hin | exact hin8 | contradiction)
      · by_cases h2 : kA T (gtA as b) ≤ kA T (gtA as j)
        · have t := ih (j + 1) (some b) (by omega) (bst_kp hb (Or.inr h2)) k
          apply R158_41 (v1 := 0) (σ1 := σ)
          case k3 => exact fun _ z => absurd (hle.mp z) h1
          case k4 => exact fun _ _ z => absurd z z7
          case k5 =>
            intro _ _ _ _
            rw [st]
            exact t
          case k6 => exact fun _ _ _ z => absurd (hge.mpr h2) z
          all_goals (intros; first | exact hin | exact hin8 | exact hin7 | contradiction)
        · have t := ih (j + 1) (some j) (by omega) (bst_ch hb h1 h2) k
          apply R158_41 (v1 := 0) (σ1 := σ)
          case k3 => exact fun _ z => absurd (hle.mp z) h1
          case k4 => exact fun _ _ z => absurd z z7
          case k5 => exact fun _ _ _ z => absurd (hge.mp z) h2
          case k6 =>
            intro _ _ _ _
            rw [st]
            exact t
          all_goals (intros; first | exact hin | exact hin8 | exact hin7 | contradiction)
theorem L158 (hT : okT T) (hc : cT (σ.1 38 4) (σ.1 39) T) {i : Nat} {as L : List mAt} (ha : atM T σ i as) (h4 : as.length ≤ 4) (hi : i < 20) (hg : ∀ a ∈ as, gA T a) (hq : ∀ a ∈ as, gQ T a) (hS : SL T as L) {x1 : Int32} : ∀ (m c h : Nat) (u7 u8 : Option Value), c + m = L.length → h < 65521 → TT X (d + 3) tb158 (some .int) (22, [some (.ref 38), some (.int x1), some (.int (nI i)), some (.int (nI h)), some (.long (lN (lst T L c))), none, some (.int (nI c)), u7, u8], [], σ) (some (.int (nI (fl (fas T h (L.drop c)) [62]))), σ) := by
  have hin : mi_in (nI i) 20 = true := mi_in_nI (by omega) (by omega)
  have hL := hS.1
  intro m
  induction m with
  | zero =>
    intro c h u7 u8 hm hh
    have z : σ.1 59 (nI i).toNatClampNeg ≤ nI c := by
      rw [nI_clamp (by omega), ha.1]
      exact nI_le (by omega) (by omega)
    refine R158_22 hin (fun _ => K155 (c := 62) hh (by omega)) (fun _ => ?_) (fun y => absurd z y)
    rw [List.drop_eq_nil_of_le (by omega), fas_nil, fl_cons, fl_nil]
  | succ m ih =>
    intro c h u7 u8 hm hh
    have z : ¬ σ.1 59 (nI i).toNatClampNeg ≤ nI c := by
      rw [nI_clamp (by omega), ha.1]
      exact nI_ge (by omega) (by omega)
    have hcl : c < L.length := by omega
    have hw : lst T L c < 2 ^ 63 := by
      unfold lst
      by_cases e : c = 0
      · rw [if_pos e]
        omega
      · rw [if_neg e]
        exact Nat.lt_of_lt_of_le (hg _ ((hS.2.1 _).mp (gtA_mem (show c - 1 < L.length by omega)))).1.ok.lt (by decide)
    refine R158_22 (v1 := 0) (σ1 := σ) hin (fun y => absurd y z) (fun y => absurd y z) (fun _ => ?_)
    rw [show (4 : Int32) * nI i = nI (4 * i + 0) by rw [show (4 : Int32) = nI 4 from rfl, pk_mul]; rfl]
    refine L158i ha h4 hi hg hw as.length 0 none (by omega) bst_0 fun o' ho => ?_
    obtain ⟨b, rfl, b1, b2⟩ := bst_L hS hg hcl ho
    have z7 : ¬ o4 i (some b) < 0 := nI_pos (n := 4 * i + b) (by omega)
    have hin7 : mi_in (o4 i (some b)) 80 = true := mi_in_nI (j := 4 * i + b) (by omega) (by omega)
    have zl : 4 * nI i + σ.1 59 (nI i).toNatClampNeg ≤ nI (4 * i + as.length) := by
      rw [nI_clamp (by omega), ha.1, show (4 : Int32) = nI 4 from rfl, pk_mul, nI_add]
      exact nI_le (by omega) (by omega)
    have eb : σ.2 60 (o4 i (some b)).toNatClampNeg = lN (kA T (gtA as b)) := by
      show σ.2 60 (nI (4 * i + b)).toNatClampNeg = _
      rw [nI_clamp (by omega)]
      exact (ha.2 b b1).1
    have k157 := K157 (X := X) (d := d) hT hc ha h4 hi b1 (hg _ (gtA_mem b1)) (hq _ (gtA_mem b1)) hh
    have t := ih (c + 1) (fl (fd h 32) (seg T (gtA as b).1 ((gtA as b).2.2 + 1))) (some (.int (o4 i (some b)))) (some (.int (nI (4 * i + as.length)))) (by omega) (fl_lt _ _ (fd_lt _ _))
    apply R158_41 (v1 := nI (fl (fd h 32) (seg T (gtA as b).1 ((gtA as b).2.2 + 1)))) (σ1 := σ)
    case k1 => exact fun _ y => absurd y z7
    case c1 => exact fun _ _ => k157
    case k2 =>
      intro _ _
      rw [eb, nI_1, drop_gtA hcl, fas_cons, ← b2]
      have : lst T L (c + 1) = kA T (gtA as b) := by
        unfold lst
        rw [if_neg (by omega), b2]
        rfl
      rw [this] at t
      exact t
    all_goals (intros; first | exact hin | exact hin7 | contradiction)
end
