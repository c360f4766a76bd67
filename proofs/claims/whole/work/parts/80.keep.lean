/-! keepAttribute, afterAttributes -/
def kp3 (σ : mG) (k : Nat) (x y z : Int32) (i : Nat) : mG := (mi_uc (wr3 σ k x y z).1 12 (upd (σ.1 12) i (σ.1 12 i + 1)), σ.2)
theorem kp3_fA {i k : Nat} {σ : mG} {x y z : Int32} (h : 4 * i ≤ k) (h2 : k < 4 * i + 4) : fA i σ (kp3 σ k x y z i) := by
  obtain ⟨g1, g2, g3, g4⟩ := wr3_fA (σ := σ) (x := x) (y := y) (z := z) h h2
  refine ⟨rfl, fun c hc => ?_, fun j hj => mi_upd_ne _ _ hj, fun j hj => g4 j hj⟩
  show mi_uc (wr3 σ k x y z).1 12 _ c = σ.1 c
  rw [mi_uc_ne _ _ (by omega)]
  exact g2 c hc
section KP
variable {X : Nat × (Nat → Int32)} {d : Nat} {T : List Nat}
theorem fin55 {σ : mG} {i s : Nat} {L : List mAt} {a : mAt} (h12 : σ.1 12 i = nI L.length) (hm : L.length ≤ 3) (hs : s ≤ L.length) (h1 : ∀ j, j < s → sl3 σ (4 * i + j) (gtA L j)) (h2 : ∀ j, s < j → j ≤ L.length → sl3 σ (4 * i + j) (gtA L (j - 1))) (g1 : ∀ j, j < s → kA T (gtA L j) < kA T a) (g2 : ∀ j, s ≤ j → j < L.length → kA T a < kA T (gtA L j)) : (∀ b ∈ L, kA T b ≠ kA T a) ∧ fA i σ (kp3 σ (4 * i + s) (nI a.1) (nI (a.2.1 + 2)) (nI a.2.2) i) ∧ (kp3 σ (4 * i + s) (nI a.1) (nI (a.2.1 + 2)) (nI a.2.2) i).1 12 i = nI (L.length + 1) ∧ ∀ j, j < L.length + 1 → sl3 (kp3 σ (4 * i + s) (nI a.1) (nI (a.2.1 + 2)) (nI a.2.2) i) (4 * i + j) (gtA (insA T a L) j) := by
  have e : insA T a L = L.take s ++ a :: L.drop s := by
    unfold insA
    rw [fl_take (s := s) (fun j hj _ => decide_eq_true (g1 j hj)) (fun j hj hl => decide_eq_false (by have := g2 j hj hl; omega)), fl_drop (s := s) (fun j hj _ => decide_eq_false (by have := g1 j hj; omega)) (fun j hj hl => decide_eq_true (g2 j hj hl))]
  refine ⟨fun b hb => ?_, kp3_fA (by omega) (by omega), ?_, fun j hj => ?_⟩
  · obtain ⟨j, hj, rfl⟩ := mem_gtA hb
    by_cases z : j < s
    · have := g1 j z
      omega
    · have := g2 j (by omega) hj
      omega
  · show upd (σ.1 12) i (σ.1 12 i + 1) i = _
    rw [mi_upd_same, h12, nI_1]
  · show sl3 (wr3 σ (4 * i + s) (nI a.1) (nI (a.2.1 + 2)) (nI a.2.2)) (4 * i + j) _
    rw [e, gtA_ins hs]
    by_cases z : j < s
    · rw [if_pos z]
      exact wr3_ne (by omega) (h1 j z)
    · rw [if_neg z]
      by_cases y : j = s
      · rw [if_pos y, y]
        exact wr3_sl rfl rfl rfl
      · rw [if_neg y]
        exact wr3_ne (by omega) (h2 j (by omega) (by omega))
theorem L55 (hT : okT T) {i : Nat} (hi : i < 20) {L : List mAt} {a : mAt} (hm : L.length ≤ 3) (ga : gA T a) (gL : ∀ b ∈ L, gA T b) (hp : L.Pairwise (fun b c => kA T b < kA T c)) : ∀ (s : Nat) (σ : mG) (u : Option Value), s ≤ L.length → cT (σ.1 1 1) (σ.1 2) T → σ.1 12 i = nI L.length → (∀ j, j < s → sl3 σ (4 * i + j) (gtA L j)) → (∀ j, s < j → j ≤ L.length → sl3 σ (4 * i + j) (gtA L (j - 1))) → (∀ j, s ≤ j → j < L.length → kA T a < kA T (gtA L j)) → ∃ σ', TT X (d + 2) tb55 (some .boolean) (36, [some (.ref 5), some (.int (nI i)), some (.int (nI a.1)), some (.int (nI a.2.1)), some (.int (nI a.2.2)), some (.int (nI (4 * i))), some (.int (nI (4 * i + s))), u], [], σ) (some (.int (bI (decide (∀ b ∈ L, kA T b ≠ kA T a)))), σ') ∧ fA i σ σ' ∧ ((∀ b ∈ L, kA T b ≠ kA T a) → σ'.1 12 i = nI (L.length + 1) ∧ ∀ j, j < L.length + 1 → sl3 σ' (4 * i + j) (gtA (insA T a L) j)) := by
  intro s
  have cl : (nI i).toNatClampNeg = i := nI_clamp (by omega)
  have hin20 : mi_in (nI i) 20 = true := mi_in_nI hi (by omega)
  induction s with
  | zero =>
    intro σ u hs hc h12 h1 h2 g2
    obtain ⟨f1, f2, f3, f4⟩ := fin55 (T := T) (a := a) h12 hm (Nat.zero_le _) h1 h2 (fun j hj => absurd hj (Nat.not_lt_zero j)) g2
    have hin80 : mi_in (nI (4 * i + 0)) 80 = true := mi_in_nI (by omega) (by omega)
    have hle : nI (4 * i + 0) ≤ nI (4 * i) := nI_le (by omega) (by omega)
    refine ⟨_, ?_, f2, fun _ => ⟨f3, f4⟩⟩
    apply R55_36 (v1 := 0) (σ1 := σ)
    case k1 =>
      intro _
      rw [decide_eq_true f1, nI_clamp (show 4 * i + 0 < 2 ^ 31 by omega), cl, nI_2]
      rfl
    all_goals (intros; first | assumption | contradiction)
  | succ s ih =>
    intro σ u hs hc h12 h1 h2 g2
    have hin80 : mi_in (nI (4 * i + (s + 1))) 80 = true := mi_in_nI (by omega) (by omega)
    have e1 : nI (4 * i + (s + 1)) - 1 = nI (4 * i + s) := nI_pred (4 * i + s)
    have hin79 : mi_in (nI (4 * i + (s + 1)) - 1) 80 = true := by rw [e1]; exact mi_in_nI (by omega) (by omega)
    have hle : ¬ nI (4 * i + (s + 1)) ≤ nI (4 * i) := nI_ge (by omega) (by omega)
    have gb := gL _ (gtA_mem (show s < L.length by omega))
    obtain ⟨b1, b2, b3⟩ := h1 s (by omega)
    have ok := ord_key hT ga gb
    have k51 := K51 (X := X) (d := d) (σ := σ) hT hc (Nat.le_of_lt ga.1.1) ga.1.2.2.1 (Nat.le_of_lt gb.1.1) gb.1.2.2.1
    generalize hv : ordL ((nI a.2.1 - nI a.1) - (nI (gtA L s).2.1 - nI (gtA L s).1)) (seg T a.1 a.2.1) (seg T (gtA L s).1 (gtA L s).2.1) = v at ok k51
    have k51' : RR X (d + 2) 51 [.ref 1, .int (nI a.1), .int (nI a.2.1), .int (σ.1 13 (nI (4 * i + (s + 1)) - 1).toNatClampNeg), .int (σ.1 14 (nI (4 * i + (s + 1)) - 1).toNatClampNeg - 2)] σ (some (.int v), σ) := by
      rw [e1, nI_clamp (by omega), b1, b2, show (2 : Int32) = nI 2 from rfl, pk_sub (by omega), show (gtA L s).2.1 + 2 - 2 = (gtA L s).2.1 by omega]
      exact k51
    by_cases hz : v = 0
    · have hne : ¬ ∀ b ∈ L, kA T b ≠ kA T a := fun y => y _ (gtA_mem (show s < L.length by omega)) (ok.1.mp hz).symm
      refine ⟨σ, ?_, fA.rfl', fun y => absurd y hne⟩
      have hz' : ¬ ¬ v = 0 := fun y => y hz
      apply R55_36 (v1 := v) (σ1 := σ)
      case c1 => exact fun _ => k51'
      case k4 =>
        intro _ _
        rw [decide_eq_false hne]
        rfl
      all_goals (intros; first | assumption | contradiction)
    · by_cases hy : v ≤ 0
      · have hlt : kA T a < kA T (gtA L s) := by
          have := ok.2.mp hy
          have : ¬ kA T a = kA T (gtA L s) := fun y => hz (ok.1.mpr y)
          omega
        obtain ⟨σ', t1, t2, t3⟩ := ih (wr3 σ (4 * i + (s + 1)) (nI (gtA L s).1) (nI ((gtA L s).2.1 + 2)) (nI (gtA L s).2.2)) (some (.int v)) (by omega) hc h12 (fun j hj => wr3_ne (by omega) (h1 j (by omega))) (fun j hj hl => by
          by_cases w : j = s + 1
          · subst w
            exact wr3_sl rfl rfl rfl
          · exact wr3_ne (by omega) (h2 j (by omega) hl)) (fun j hj hl => by
          by_cases w : j = s
          · subst w
            exact hlt
          · exact g2 j (by omega) hl)
        refine ⟨σ', ?_, (wr3_fA (by omega) (by omega)).tr t2, t3⟩
        apply R55_36 (v1 := v) (σ1 := σ)
        case c1 => exact fun _ => k51'
        case k2 =>
          intro _ _ _
          rw [show nI (4 * i + (s + 1)) + (-1) = nI (4 * i + s) from pk_m1 (4 * i + s), e1, nI_clamp (show 4 * i + (s + 1) < 2 ^ 31 by omega), nI_clamp (show 4 * i + s < 2 ^ 31 by omega), b1, b2, b3]
          exact t1
        all_goals (intros; first | assumption | contradiction)
      · have hgt : kA T (gtA L s) < kA T a := by
          have : ¬ kA T a ≤ kA T (gtA L s) := fun y => hy (ok.2.mpr y)
          omega
        obtain ⟨f1, f2, f3, f4⟩ := fin55 (T := T) (a := a) h12 hm hs h1 h2 (fun j hj => by
          by_cases w : j = s
          · rw [w]
            exact hgt
          · have := pw_gtA hp (show j < s by omega) (by omega)
            omega) g2
        refine ⟨_, ?_, f2, fun _ => ⟨f3, f4⟩⟩
        apply R55_36 (v1 := v) (σ1 := σ)
        case c1 => exact fun _ => k51'
        case k3 =>
          intro _ _ _
          rw [decide_eq_true f1, nI_clamp (show 4 * i + (s + 1) < 2 ^ 31 by omega), cl, nI_2]
          rfl
        all_goals (intros; first | assumption | contradiction)
theorem K53 {σ : mG} {n : Nat} (h : σ.1 5 1 = nI n) (hn : n ≤ 20) {i : Nat} (hi : i < n) : RR X (d + 1) 53 [.ref 5, .int (nI i)] σ (some (.int 1), σ) := by
  have z1 : ¬ nI i < 0 := nI_pos (by omega)
  have z2 : ¬ σ.1 5 1 ≤ nI i := by rw [h]; exact nI_ge hi (by omega)
  exact mi_R.of rfl rfl (R53_0 (fun z => absurd z z1) (fun _ z => absurd z z2) (fun _ _ => rfl))
theorem K55 (hT : okT T) {σ : mG} {n i : Nat} (hc : cT (σ.1 1 1) (σ.1 2) T) (h5 : σ.1 5 1 = nI n) (hn : n ≤ 20) (hi : i < n) {L : List mAt} {a : mAt} (h12 : σ.1 12 i = nI L.length) (hm : L.length ≤ 4) (ga : gA T a) (gL : ∀ b ∈ L, gA T b) (hp : L.Pairwise (fun b c => kA T b < kA T c)) (h1 : ∀ j, j < L.length → sl3 σ (4 * i + j) (gtA L j)) : ∃ σ', RR X (d + 3) 55 [.ref 5, .int (nI i), .int (nI a.1), .int (nI a.2.1), .int (nI a.2.2)] σ (some (.int (bI (decide (L.length < 4 ∧ ∀ b ∈ L, kA T b ≠ kA T a)))), σ') ∧ fA i σ σ' ∧ ((L.length < 4 ∧ ∀ b ∈ L, kA T b ≠ kA T a) → σ'.1 12 i = nI (L.length + 1) ∧ ∀ j, j < L.length + 1 → sl3 σ' (4 * i + j) (gtA (insA T a L) j)) := by
  have cl : (nI i).toNatClampNeg = i := nI_clamp (by omega)
  have hin20 : mi_in (nI i) 20 = true := mi_in_nI (by omega) (by omega)
  have k53 := K53 (X := X) (d := d + 1) h5 hn hi
  by_cases h4 : L.length < 4
  · obtain ⟨σ', t1, t2, t3⟩ := L55 (X := X) (d := d) (a := a) hT (show i < 20 by omega) (by omega) ga gL hp L.length σ none (Nat.le_refl _) hc h12 h1 (fun j z y => by omega) (fun j z y => by omega)
    have hlt : σ.1 12 (nI i).toNatClampNeg < 4 := by rw [cl, h12]; exact nI_lt (b := 4) h4 (by omega)
    refine ⟨σ', mi_R.of rfl rfl (R55_0 k53 (fun z => absurd z (by decide)) (fun _ => hin20) (fun _ _ => hin20) (fun _ _ => ?_) (fun _ z => absurd hlt z)), t2, fun z => t3 z.2⟩
    rw [cl, h12, show (4 : Int32) = nI 4 from rfl, pk_mul, nI_add, Nat.mul_comm i 4, show decide (L.length < 4 ∧ ∀ b ∈ L, kA T b ≠ kA T a) = decide (∀ b ∈ L, kA T b ≠ kA T a) by simp [h4]]
    exact t1
  · have hlt : ¬ σ.1 12 (nI i).toNatClampNeg < 4 := by rw [cl, h12]; exact nI_nlt (b := 4) (by omega) (by omega)
    refine ⟨σ, mi_R.of rfl rfl (R55_0 k53 (fun z => absurd z (by decide)) (fun _ => hin20) (fun _ z => absurd z hlt) (fun _ z => absurd z hlt) (fun _ _ => ?_)), fA.rfl', fun z => absurd z.1 h4⟩
    rw [decide_eq_false (fun z => h4 z.1)]
    rfl
/-- the places of an attribute that starts at f -/
theorem vl_of {f : Nat} (h1 : 1 ≤ nL T f) : (vlS T f = none ∧ (nmS T f = none ∨ ∃ n, nmS T f = some n ∧ cqS T n = none)) ∨ ∃ n e, vlS T f = some (f, n, e) ∧ nmS T f = some n ∧ cqS T n = some e := by
  unfold vlS nmS
  by_cases h6 : nL T f ≤ 6
  · rw [if_pos (show 1 ≤ nL T f ∧ nL T f ≤ 6 from ⟨h1, h6⟩)]
    unfold cqS
    by_cases hc : tc T (f + nL T f) = 61 ∧ tc T (f + nL T f + 1) = 34 ∧ tc T (f + nL T f + 2 + nV T (f + nL T f + 2)) = 34
    · right
      exact ⟨f + nL T f, f + nL T f + 2 + nV T (f + nL T f + 2), by rw [if_pos ⟨h6, hc⟩], rfl, by rw [if_pos hc]⟩
    · left
      exact ⟨by rw [if_neg (fun z => hc z.2)], Or.inr ⟨_, rfl, by rw [if_neg hc]⟩⟩
  · left
    exact ⟨by rw [if_neg (fun z => h6 z.1)], Or.inl (by rw [if_neg (fun z => h6 z.2)])⟩
/-- element i's attributes stand in the class's slots -/
def atC (σ : mG) (i : Nat) (L : List mAt) : Prop := σ.1 12 i = nI L.length ∧ ∀ j, j < L.length → sl3 σ (4 * i + j) (gtA L j)
theorem L82 (hT : okT T) {n i : Nat} (hn : n ≤ 20) (hi : i < n) {x2 : Int32} : ∀ (k p : Nat) (as L : List mAt) (σ : mG) (u5 u6 u7 : Option Value), k + 1 + as.length = 5 → p ≤ T.length → (∀ a ∈ as, gA T a) → SL T as L → cT (σ.1 1 1) (σ.1 2) T → σ.1 5 1 = nI n → atC σ i L → ∃ σ', TT X (d + 3) tb82 (some .int) (5, [some (.ref 16), some (.int (nI i)), some (.int x2), some (.int (nI p)), some (.int (nI as.length)), u5, u6, u7], [], σ) (some (.int (oI ((atS T (k + 1) p as L).map (fun y => y.2.2)))), σ') ∧ fA i σ σ' ∧ ∀ y, atS T (k + 1) p as L = some y → atC σ' i y.2.1 := by
  have hl := hT.1
  intro k
  induction k with
  | zero =>
    intro p as L σ u5 u6 u7 hk hp hg hs hc h5 ha
    have h4 : ¬ (4 : Int32) < nI as.length := nI_nlt (a := 4) (by omega) (by omega)
    have k47 := K47 (X := X) (d := d + 1) hT hc (show p < 2 ^ 30 by omega)
    have hq := nS_le p hp
    have k46 := K46 (X := X) (d := d + 2) hT hc (show p + nS T p < 2 ^ 30 by omega)
    have hr := nL_le _ hq
    by_cases hz : nS T p = 0
    · refine ⟨σ, ?_, fA.rfl', fun y hy => ?_⟩
      · have e : nI (p + nS T p) = nI p := by rw [hz]; rfl
        rw [atS_end (Or.inl hz)]
        apply R82_5 (v1 := nI (p + nS T p)) (σ1 := σ) (v2 := 0) (σ2 := σ) (v3 := 0) (σ3 := σ) (v4 := 0) (σ4 := σ) (v5 := 0) (σ5 := σ)
        case c1 => exact fun _ => k47
        case k2 => exact fun _ _ => rfl
        all_goals (intros; first | assumption | contradiction)
      · rw [atS_end (Or.inl hz)] at hy
        injection hy with hy
        subst hy
        exact ha
    · have e : ¬ nI (p + nS T p) = nI p := fun z => by
        have := (nI_eq (by omega) (by omega)).mp z
        omega
      by_cases hy : nL T (p + nS T p) = 0
      · refine ⟨σ, ?_, fA.rfl', fun y hy' => ?_⟩
        · have e2 : ¬ ¬ nI (p + nS T p + nL T (p + nS T p)) = nI (p + nS T p) := fun z => z (by rw [hy]; rfl)
          rw [atS_end (Or.inr hy)]
          apply R82_5 (v1 := nI (p + nS T p)) (σ1 := σ) (v2 := nI (p + nS T p + nL T (p + nS T p))) (σ2 := σ) (v3 := 0) (σ3 := σ) (v4 := 0) (σ4 := σ) (v5 := 0) (σ5 := σ)
          case c1 => exact fun _ => k47
          case c2 => exact fun _ _ => k46
          case k6 => exact fun _ _ _ => rfl
          all_goals (intros; first | assumption | contradiction)
        · rw [atS_end (Or.inr hy)] at hy'
          injection hy' with hy'
          subst hy'
          exact ha
      · have e2 : ¬ nI (p + nS T p + nL T (p + nS T p)) = nI (p + nS T p) := fun z => by
          have := (nI_eq (by omega) (by omega)).mp z
          omega
        have hzy : ¬ (nS T p = 0 ∨ nL T (p + nS T p) = 0) := fun z => z.elim hz hy
        have k80 := K80 (X := X) (d := d + 1) hT hc (show p + nS T p < 2 ^ 28 by omega)
        rcases vl_of (T := T) (f := p + nS T p) (by omega) with ⟨v1, v2⟩ | ⟨m, e', v1, v2, v3⟩
        · rw [atS_none hzy v1]
          refine ⟨σ, ?_, fA.rfl', fun y hy => by cases hy⟩
          have : ∃ w, RR X (d + 3) 80 [.ref 16, .int (nI (p + nS T p))] σ (some (.int w), σ) ∧ RR X (d + 3) 83 [.ref 16, .int w] σ (some (.int (-1)), σ) := by
            rcases v2 with v2 | ⟨m, v2, v3⟩
            · rw [v2] at k80
              exact ⟨_, k80, K83n hT hc⟩
            · rw [v2] at k80
              have k83 := K83 (X := X) (d := d + 1) (σ := σ) (p := m) hT hc (by
                unfold nmS at v2
                split at v2
                · injection v2 with v2
                  omega
                · cases v2)
              rw [v3] at k83
              exact ⟨_, k80, k83⟩
          obtain ⟨w, w1, w2⟩ := this
          have hm : (-1 : Int32) = -1 := rfl
          apply R82_5 (v1 := nI (p + nS T p)) (σ1 := σ) (v2 := nI (p + nS T p + nL T (p + nS T p))) (σ2 := σ) (v3 := w) (σ3 := σ) (v4 := -1) (σ4 := σ) (v5 := 0) (σ5 := σ)
          case c1 => exact fun _ => k47
          case c2 => exact fun _ _ => k46
          case c3 => exact fun _ _ _ => w1
          case c4 => exact fun _ _ _ => w2
          case k3 => exact fun _ _ _ _ => rfl
          all_goals (intros; first | assumption | contradiction)
        · obtain ⟨ga, -⟩ := vlS_gA v1 (by omega)
          rw [v2] at k80
          have gm : m ≤ T.length := ga.1.2.2.1
          have ge : e' < T.length := ga.2.2
          have k83 := K83 (X := X) (d := d + 1) (σ := σ) (p := m) hT hc (by omega)
          rw [v3] at k83
          obtain ⟨σ1, t1, t2, t3⟩ := K55 (X := X) (d := d) (a := (p + nS T p, m, e')) hT hc h5 hn hi ha.1 (by rw [hs.1]; omega) ga (fun b hb => hg b ((hs.2.1 b).mp hb)) hs.2.2 ha.2
          have hno : ¬ (L.length < 4 ∧ ∀ b ∈ L, kA T b ≠ kA T (p + nS T p, m, e')) := fun z => by
            have := hs.1
            omega
          rw [decide_eq_false hno] at t1
          rw [atS_some hzy v1, if_neg (fun z => by omega)]
          refine ⟨σ1, ?_, t2, fun y hy => by cases hy⟩
          have hm : ¬ nI e' = -1 := fun z => m1_ne (show e' < 2 ^ 31 by omega) z.symm
          have h00 : ¬ ¬ bI false = 0 := fun z => z rfl
          apply R82_5 (v1 := nI (p + nS T p)) (σ1 := σ) (v2 := nI (p + nS T p + nL T (p + nS T p))) (σ2 := σ) (v3 := nI m) (σ3 := σ) (v4 := nI e') (σ4 := σ) (v5 := bI false) (σ5 := σ1)
          case c1 => exact fun _ => k47
          case c2 => exact fun _ _ => k46
          case c3 => exact fun _ _ _ => k80
          case c4 => exact fun _ _ _ => k83
          case c5 => exact fun _ _ _ _ => t1
          case k5 => exact fun _ _ _ _ _ => rfl
          all_goals (intros; first | assumption | contradiction)
  | succ k ih =>
    intro p as L σ u5 u6 u7 hk hp hg hs hc h5 ha
    have h4 : ¬ (4 : Int32) < nI as.length := nI_nlt (a := 4) (by omega) (by omega)
    have k47 := K47 (X := X) (d := d + 1) hT hc (show p < 2 ^ 30 by omega)
    have hq := nS_le p hp
    have k46 := K46 (X := X) (d := d + 2) hT hc (show p + nS T p < 2 ^ 30 by omega)
    have hr := nL_le _ hq
    by_cases hz : nS T p = 0
    · refine ⟨σ, ?_, fA.rfl', fun y hy => ?_⟩
      · have e : nI (p + nS T p) = nI p := by rw [hz]; rfl
        rw [atS_end (Or.inl hz)]
        apply R82_5 (v1 := nI (p + nS T p)) (σ1 := σ) (v2 := 0) (σ2 := σ) (v3 := 0) (σ3 := σ) (v4 := 0) (σ4 := σ) (v5 := 0) (σ5 := σ)
        case c1 => exact fun _ => k47
        case k2 => exact fun _ _ => rfl
        all_goals (intros; first | assumption | contradiction)
      · rw [atS_end (Or.inl hz)] at hy
        injection hy with hy
        subst hy
        exact ha
    · have e : ¬ nI (p + nS T p) = nI p := fun z => by
        have := (nI_eq (by omega) (by omega)).mp z
        omega
      by_cases hy : nL T (p + nS T p) = 0
      · refine ⟨σ, ?_, fA.rfl', fun y hy' => ?_⟩
        · have e2 : ¬ ¬ nI (p + nS T p + nL T (p + nS T p)) = nI (p + nS T p) := fun z => z (by rw [hy]; rfl)
          rw [atS_end (Or.inr hy)]
          apply R82_5 (v1 := nI (p + nS T p)) (σ1 := σ) (v2 := nI (p + nS T p + nL T (p + nS T p))) (σ2 := σ) (v3 := 0) (σ3 := σ) (v4 := 0) (σ4 := σ) (v5 := 0) (σ5 := σ)
          case c1 => exact fun _ => k47
          case c2 => exact fun _ _ => k46
          case k6 => exact fun _ _ _ => rfl
          all_goals (intros; first | assumption | contradiction)
        · rw [atS_end (Or.inr hy)] at hy'
          injection hy' with hy'
          subst hy'
          exact ha
      · have e2 : ¬ nI (p + nS T p + nL T (p + nS T p)) = nI (p + nS T p) := fun z => by
          have := (nI_eq (by omega) (by omega)).mp z
          omega
        have hzy : ¬ (nS T p = 0 ∨ nL T (p + nS T p) = 0) := fun z => z.elim hz hy
        have k80 := K80 (X := X) (d := d + 1) hT hc (show p + nS T p < 2 ^ 28 by omega)
        rcases vl_of (T := T) (f := p + nS T p) (by omega) with ⟨v1, v2⟩ | ⟨m, e', v1, v2, v3⟩
        · rw [atS_none hzy v1]
          refine ⟨σ, ?_, fA.rfl', fun y hy => by cases hy⟩
          have : ∃ w, RR X (d + 3) 80 [.ref 16, .int (nI (p + nS T p))] σ (some (.int w), σ) ∧ RR X (d + 3) 83 [.ref 16, .int w] σ (some (.int (-1)), σ) := by
            rcases v2 with v2 | ⟨m, v2, v3⟩
            · rw [v2] at k80
              exact ⟨_, k80, K83n hT hc⟩
            · rw [v2] at k80
              have k83 := K83 (X := X) (d := d + 1) (σ := σ) (p := m) hT hc (by
                unfold nmS at v2
                split at v2
                · injection v2 with v2
                  omega
                · cases v2)
              rw [v3] at k83
              exact ⟨_, k80, k83⟩
          obtain ⟨w, w1, w2⟩ := this
          have hm : (-1 : Int32) = -1 := rfl
          apply R82_5 (v1 := nI (p + nS T p)) (σ1 := σ) (v2 := nI (p + nS T p + nL T (p + nS T p))) (σ2 := σ) (v3 := w) (σ3 := σ) (v4 := -1) (σ4 := σ) (v5 := 0) (σ5 := σ)
          case c1 => exact fun _ => k47
          case c2 => exact fun _ _ => k46
          case c3 => exact fun _ _ _ => w1
          case c4 => exact fun _ _ _ => w2
          case k3 => exact fun _ _ _ _ => rfl
          all_goals (intros; first | assumption | contradiction)
        · obtain ⟨ga, -⟩ := vlS_gA v1 (by omega)
          rw [v2] at k80
          have gm : m ≤ T.length := ga.1.2.2.1
          have ge : e' < T.length := ga.2.2
          have k83 := K83 (X := X) (d := d + 1) (σ := σ) (p := m) hT hc (by omega)
          rw [v3] at k83
          obtain ⟨σ1, t1, t2, t3⟩ := K55 (X := X) (d := d) (a := (p + nS T p, m, e')) hT hc h5 hn hi ha.1 (by rw [hs.1]; omega) ga (fun b hb => hg b ((hs.2.1 b).mp hb)) hs.2.2 ha.2
          have hm : ¬ nI e' = -1 := fun z => m1_ne (show e' < 2 ^ 31 by omega) z.symm
          rw [atS_some hzy v1]
          by_cases hno : as.length < 4 ∧ ∀ b ∈ as, kA T b ≠ kA T (p + nS T p, m, e')
          · rw [if_pos hno]
            have hyes : L.length < 4 ∧ ∀ b ∈ L, kA T b ≠ kA T (p + nS T p, m, e') := ⟨by rw [hs.1]; exact hno.1, fun b hb => hno.2 b ((hs.2.1 b).mp hb)⟩
            rw [decide_eq_true hyes] at t1
            have hsl := hs.ins hno.2
            obtain ⟨σ', s1, s2, s3⟩ := ih (e' + 1) (as ++ [(p + nS T p, m, e')]) (insA T (p + nS T p, m, e') L) σ1 (some (.int (nI (p + nS T p)))) (some (.int (nI m))) (some (.int (nI e'))) (by rw [List.length_append, List.length_singleton]; omega) (by omega) (fun b hb => by
              rcases List.mem_append.mp hb with z | z
              · exact hg b z
              · rw [List.mem_singleton.mp z]
                exact ga) hsl (by rw [t2.2.1 1 (by omega), t2.2.1 2 (by omega)]; exact hc) (by rw [t2.2.1 5 (by omega)]; exact h5) (by
              have hle : (insA T (p + nS T p, m, e') L).length = L.length + 1 := insA_len hyes.2
              refine ⟨by rw [hle]; exact (t3 hyes).1, fun j hj => (t3 hyes).2 j (by omega)⟩)
            refine ⟨σ', ?_, t2.tr s2, s3⟩
            have h11 : ¬ bI true = 0 := by decide
            apply R82_5 (v1 := nI (p + nS T p)) (σ1 := σ) (v2 := nI (p + nS T p + nL T (p + nS T p))) (σ2 := σ) (v3 := nI m) (σ3 := σ) (v4 := nI e') (σ4 := σ) (v5 := bI true) (σ5 := σ1)
            case c1 => exact fun _ => k47
            case c2 => exact fun _ _ => k46
            case c3 => exact fun _ _ _ => k80
            case c4 => exact fun _ _ _ => k83
            case c5 => exact fun _ _ _ _ => t1
            case k4 =>
              intro _ _ _ _ _
              rw [nI_1, nI_1]
              rw [List.length_append, List.length_singleton] at s1
              exact s1
            all_goals (intros; first | assumption | contradiction)
          · rw [if_neg hno]
            have hno' : ¬ (L.length < 4 ∧ ∀ b ∈ L, kA T b ≠ kA T (p + nS T p, m, e')) := fun z => hno ⟨by rw [← hs.1]; exact z.1, fun b hb => z.2 b ((hs.2.1 b).mpr hb)⟩
            rw [decide_eq_false hno'] at t1
            refine ⟨σ1, ?_, t2, fun y hy => by cases hy⟩
            have h00 : ¬ ¬ bI false = 0 := fun z => z rfl
            apply R82_5 (v1 := nI (p + nS T p)) (σ1 := σ) (v2 := nI (p + nS T p + nL T (p + nS T p))) (σ2 := σ) (v3 := nI m) (σ3 := σ) (v4 := nI e') (σ4 := σ) (v5 := bI false) (σ5 := σ1)
            case c1 => exact fun _ => k47
            case c2 => exact fun _ _ => k46
            case c3 => exact fun _ _ _ => k80
            case c4 => exact fun _ _ _ => k83
            case c5 => exact fun _ _ _ _ => t1
            case k5 => exact fun _ _ _ _ _ => rfl
            all_goals (intros; first | assumption | contradiction)
theorem K82 (hT : okT T) {σ : mG} {n i : Nat} (hn : n ≤ 20) (hi : i < n) {p : Nat} (hp : p ≤ T.length) (hc : cT (σ.1 1 1) (σ.1 2) T) (h5 : σ.1 5 1 = nI n) (ha : σ.1 12 i = 0) : ∃ σ', RR X (d + 4) 82 [.ref 16, .int (nI i), .int (nI p)] σ (some (.int (oI ((atS T 5 p [] []).map (fun y => y.2.2)))), σ') ∧ fA i σ σ' ∧ ∀ y, atS T 5 p [] [] = some y → atC σ' i y.2.1 := by
  obtain ⟨σ', t1, t2, t3⟩ := L82 (X := X) (d := d) hT hn hi (x2 := nI p) 4 p [] [] σ none none none rfl hp (fun a h => by cases h) (SL_nil T) hc h5 ⟨ha, fun j hj => absurd hj (Nat.not_lt_zero j)⟩
  exact ⟨σ', mi_R.of rfl rfl (R82_0 t1), t2, t3⟩
end KP
