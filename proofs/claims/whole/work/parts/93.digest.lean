/-! The reference's digest, and digest -/
section
variable {X : Nat × (Nat → Int32)} {d : Nat} {T : List Nat} {σ : mG} {n : Nat} {E : Nat → mEl}
theorem K158 (hT : okT T) (hc : cT (σ.1 38 4) (σ.1 39) T) (g : gM T n E) (hr : rpM T σ n E) {i h : Nat} (hi : i < n) (hh : h < 65521) : RR X (d + 4) 158 [.ref 38, .int (nI h), .int (nI i)] σ (some (.int (nI (fhd T h (E i)))), σ) := by
  have hn := g.2.1
  have hin : mi_in (nI i) 20 = true := mi_in_nI (by omega) (by omega)
  obtain ⟨e1, -, -, -, -, -, -, e8⟩ := hr.2 i hi
  obtain ⟨gn, gas, gsl, g4, -⟩ := g.2.2.1 i hi
  have t := L158 (X := X) (d := d) hT hc e8 g4 (by omega) gas (tgO_gQ (g.2.2.2.1 i hi).2) gsl (x1 := nI h) (eL (E i)).length 0 (fl (fd h 60) (nmL T (E i))) none none (by omega) (fl_lt _ _ (fd_lt _ _))
  refine mi_R.of rfl rfl (R158_0 (K155 (c := 60) hh (by omega)) hin (v2 := nI (fl (fd h 60) (nmL T (E i)))) (σ2 := σ) ?_ ?_)
  · rw [nI_clamp (by omega), e1]
    exact K156 gn.ok (fd_lt _ _)
  · rw [List.drop_zero] at t
    unfold fhd
    rw [show fl h (60 :: nmL T (E i)) = fl (fd h 60) (nmL T (E i)) from fl_cons _ _ _]
    exact t
theorem K159 (g : gM T n E) (hr : rpM T σ n E) {i h : Nat} (hi : i < n) (hh : h < 65521) : RR X (d + 3) 159 [.ref 38, .int (nI h), .int (nI i)] σ (some (.int (nI (ftl T h (E i)))), σ) := by
  have hn := g.2.1
  have hin : mi_in (nI i) 20 = true := mi_in_nI (by omega) (by omega)
  obtain ⟨e1, -⟩ := hr.2 i hi
  obtain ⟨gn, -⟩ := g.2.2.1 i hi
  refine mi_R.of rfl rfl (R159_0 (K155 (c := 60) hh (by omega)) (K155 (c := 47) (fd_lt _ _) (by omega)) hin (v3 := nI (fl (fd (fd h 60) 47) (nmL T (E i)))) (σ3 := σ) ?_ (K155 (c := 62) (fl_lt _ _ (fd_lt _ _)) (by omega)) ?_)
  · rw [nI_clamp (by omega), e1]
    exact K156 gn.ok (fd_lt _ _)
  · unfold ftl
    rw [fl_cons, fl_cons, fl_app, fl_cons, fl_nil]
def rt (i j : Nat) : Int32 := if i < j then nI i else -1
theorem rt_is (j : Nat) : rt j (j + 1) = nI j := by
  unfold rt
  rw [if_pos (by omega)]
theorem rt_ne {i j : Nat} (h : j ≠ i) : rt i (j + 1) = rt i j := by
  unfold rt
  by_cases z : i < j
  · rw [if_pos z, if_pos (by omega)]
  · rw [if_neg z, if_neg (by omega)]
theorem L160b (g : gM T n E) (hl : T.length ≤ 400) (hr : rpM T σ n E) {i : Nat} (hi : i < n) : ∀ (m j : Nat), j + m = n → TT X d tb160 (some .int) (5, [some (.ref 38), some (.int (nI (eBg (E i)))), some (.int 0), some (.int (rt i j)), some (.int (nI j))], [], σ) (some (.int (nI i)), σ) := by
  have hn := g.2.1
  have gi := (g.2.2.1 i hi).2.2.2.2.2
  intro m
  induction m with
  | zero =>
    intro j hj
    have z : σ.1 38 22 ≤ nI j := by
      rw [hr.1]
      exact nI_le (by omega) (by omega)
    apply R160_5
    case k1 =>
      intro _
      unfold rt
      rw [if_pos (by omega)]
    all_goals exact fun y => absurd z y
  | succ m ih =>
    intro j hj
    have z : ¬ σ.1 38 22 ≤ nI j := by
      rw [hr.1]
      exact nI_ge (by omega) (by omega)
    have hin : mi_in (nI j) 20 = true := mi_in_nI (by omega) (by omega)
    have gj := (g.2.2.1 j (by omega)).2.2.2.2.2
    have e : σ.1 54 (nI j).toNatClampNeg = nI (eBg (E i)) ↔ j = i := by
      rw [nI_clamp (by omega), (hr.2 j (by omega)).2.2.1, nI_eq (by omega) (by omega)]
      exact ⟨fun y => bg_inj g hi (by omega) y, fun y => by rw [y]⟩
    have t := ih (j + 1) (by omega)
    apply R160_5
    case k1 => exact fun y => absurd y z
    case b1 => exact fun _ _ => hin
    case k2 =>
      intro _ _ y
      rw [rt_ne fun q => y (e.mpr q)] at t
      rw [nI_1]
      exact t
    case k3 =>
      intro _ _ y
      have q := e.mp (Decidable.not_not.mp y)
      subst q
      rw [rt_is] at t
      rw [nI_1]
      exact t
    all_goals exact fun _ y => absurd rfl y
theorem K160b (g : gM T n E) (hl : T.length ≤ 400) (hr : rpM T σ n E) {i : Nat} (hi : i < n) : RR X (d + 1) 160 [.ref 38, .int (nI (eBg (E i))), .int 0] σ (some (.int (nI i)), σ) := mi_R.of rfl rfl (R160_0 (L160b g hl hr hi n 0 (by omega)))
theorem L160e (g : gM T n E) (hl : T.length ≤ 400) (hr : rpM T σ n E) {i : Nat} (hi : i < n) (hs : eSg (E i) = false) : ∀ (m j : Nat), j + m = n → TT X d tb160 (some .int) (5, [some (.ref 38), some (.int (nI (eBe (E i)))), some (.int 1), some (.int (rt i j)), some (.int (nI j))], [], σ) (some (.int (nI i)), σ) := by
  have hn := g.2.1
  have gi := (g.2.2.1 i hi).2.2.2.2.2
  intro m
  induction m with
  | zero =>
    intro j hj
    have z : σ.1 38 22 ≤ nI j := by
      rw [hr.1]
      exact nI_le (by omega) (by omega)
    apply R160_5
    case k1 =>
      intro _
      unfold rt
      rw [if_pos (by omega)]
    all_goals exact fun y => absurd z y
  | succ m ih =>
    intro j hj
    have z : ¬ σ.1 38 22 ≤ nI j := by
      rw [hr.1]
      exact nI_ge (by omega) (by omega)
    have hin : mi_in (nI j) 20 = true := mi_in_nI (by omega) (by omega)
    have gj := (g.2.2.1 j (by omega)).2.2.2.2.2
    obtain ⟨-, -, -, -, r56, -, r58, -⟩ := hr.2 j (by omega)
    have e : σ.1 56 (nI j).toNatClampNeg = nI (eBe (E i)) ↔ eBe (E j) = eBe (E i) := by
      rw [nI_clamp (by omega), r56, nI_eq (by omega) (by omega)]
    have e2 : σ.1 58 (nI j).toNatClampNeg = 0 ↔ eSg (E j) = false := by
      rw [nI_clamp (by omega), r58, bI_0]
    have t := ih (j + 1) (by omega)
    have hne : ∀ {A : Prop}, (1 : Int32) = 0 → A := fun y => absurd y (by decide)
    apply R160_5
    case k1 => exact fun y => absurd y z
    case b1 => exact fun _ y => hne y
    case k2 => exact fun _ y => hne y
    case k3 => exact fun _ y => hne y
    case b2 => exact fun _ _ => hin
    case k4 =>
      intro _ _ y
      rw [rt_ne fun q => y (e.mpr (by rw [q]))] at t
      rw [nI_1]
      exact t
    case b3 => exact fun _ _ _ => hin
    case k5 =>
      intro _ _ _ y
      rw [rt_ne fun q => y (e2.mpr (by rw [q]; exact hs))] at t
      rw [nI_1]
      exact t
    case k6 =>
      intro _ _ y w
      have q := g.2.2.2.2.2.2.2.2.2 j i (by omega) hi (e2.mp (Decidable.not_not.mp w)) hs (e.mp (Decidable.not_not.mp y))
      subst q
      rw [rt_is] at t
      rw [nI_1]
      exact t
theorem K160e (g : gM T n E) (hl : T.length ≤ 400) (hr : rpM T σ n E) {i : Nat} (hi : i < n) (hs : eSg (E i) = false) : RR X (d + 1) 160 [.ref 38, .int (nI (eBe (E i))), .int 1] σ (some (.int (nI i)), σ) := mi_R.of rfl rfl (R160_0 (L160e g hl hr hi hs n 0 (by omega)))
theorem sigK {l : List Nat} (h : okN 6 l) : lg_cmp (lN (pkp 6 l)) 126896536813568 = 0 ↔ l = sigL := by
  rw [lg_cmp_eq, show (126896536813568 : Int64) = lN (pkp 6 sigL) from rfl, pk_lEQ (Nat.lt_of_lt_of_le h.lt (by decide)) (by decide)]
  exact ⟨fun z => pkp_inj 6 l sigL h ⟨by decide, by decide⟩ z, fun z => by rw [z]⟩
theorem L161 (hT : okT T) (hc : cT (σ.1 38 4) (σ.1 39) T) (g : gM T n E) (hr : rpM T σ n E) {k : Nat} (hk : k < n) : ∀ (f s p h : Nat) (u5 u6 : Option Value), s + f = 500 → vis T p → eBs (E k) ≤ p → p ≤ eBe (E k) → h < 65521 → TT X (d + 4) tb161 (some .int) (17, [some (.ref 38), some (.int (nI k)), some (.int (nI h)), some (.int (nI p)), some (.int (nI s)), u5, u6], [], σ) (some (.int (nI (ftl T (wk T n E k f p h) (E k)))), σ) := by
  have hl := hT.1
  have hn := g.2.1
  obtain ⟨-, -, -, -, -, gk6, gk7, gk8, gk9⟩ := g.2.2.1 k hk
  have hin : mi_in (nI k) 20 = true := mi_in_nI (by omega) (by omega)
  have e56 : σ.1 56 (nI k).toNatClampNeg = nI (eBe (E k)) := by rw [nI_clamp (by omega), (hr.2 k hk).2.2.2.2.1]
  intro f
  induction f with
  | zero =>
    intro s p h u5 u6 hs hv hp1 hp2 hh
    have t : TT X (d + 4) tb161 (some .int) (238, [some (.ref 38), some (.int (nI k)), some (.int (nI h)), some (.int (nI p)), some (.int (nI s)), u5, u6], [], σ) (some (.int (nI (ftl T (wk T n E k 0 p h) (E k)))), σ) := R161_238 (K159 g hr hk hh) rfl
    have z : (500 : Int32) ≤ nI s := nI_le (a := 500) (by omega) (by omega)
    apply R161_17 (v1 := 0) (σ1 := σ) (v2 := 0) (σ2 := σ) (v3 := 0) (σ3 := σ) (v4 := 0) (σ4 := σ) (v5 := 0) (σ5 := σ)
    case k1 => exact fun _ => t
    all_goals exact fun y => absurd z y
  | succ f ih =>
    intro s p h u5 u6 hs hv hp1 hp2 hh
    have z0 : ¬ (500 : Int32) ≤ nI s := nI_ge (b := 500) (by omega) (by omega)
    by_cases hb : eBe (E k) ≤ p
    · have zb : σ.1 56 (nI k).toNatClampNeg ≤ nI p := by
        rw [e56]
        exact nI_le hb (by omega)
      have t : TT X (d + 4) tb161 (some .int) (238, [some (.ref 38), some (.int (nI k)), some (.int (nI h)), some (.int (nI p)), some (.int (nI s)), u5, u6], [], σ) (some (.int (nI (ftl T (wk T n E k (f + 1) p h) (E k)))), σ) := by
        rw [wk_end hb]
        exact R161_238 (K159 g hr hk hh) rfl
      apply R161_17 (v1 := 0) (σ1 := σ) (v2 := 0) (σ2 := σ) (v3 := 0) (σ3 := σ) (v4 := 0) (σ4 := σ) (v5 := 0) (σ5 := σ)
      case k2 => exact fun _ _ => t
      case k1 => exact fun y => absurd y z0
      case b1 => exact fun _ => hin
      all_goals exact fun _ y => absurd zb y
    · have zb : ¬ σ.1 56 (nI k).toNatClampNeg ≤ nI p := by
        rw [e56]
        exact nI_ge (by omega) (by omega)
      have hsg : eSg (E k) = false := by
        cases hh : eSg (E k) with
        | false => rfl
        | true =>
          have := (g.2.2.2.2.1 k hk).2 hh
          omega
      have hbo := ((g.2.2.2.2.1 k hk).1 hsg).2.2.2.2.2.2
      have ep : σ.1 39 (nI p).toNatClampNeg = nI (tc T p) := tx_M hT hc (by omega)
      have ep1 : σ.1 39 (nI p + 1).toNatClampNeg = nI (tc T (p + 1)) := by
        rw [nI_1]
        exact tx_M hT hc (by omega)
      have ip : mi_in (nI p) 400 = true := mi_in_nI (by omega) (by omega)
      have ip1 : mi_in (nI p + 1) 400 = true := by
        rw [nI_1]
        exact mi_in_nI (by omega) (by omega)
      have ht := tc_hi hT p
      have ht1 := tc_hi hT (p + 1)
      have e60 : σ.1 39 (nI p).toNatClampNeg = 60 ↔ tc T p = 60 := by
        rw [ep]
        exact nI_eq (b := 60) (by omega) (by omega)
      have e33 : σ.1 39 (nI p + 1).toNatClampNeg = 33 ↔ tc T (p + 1) = 33 := by
        rw [ep1]
        exact nI_eq (b := 33) (by omega) (by omega)
      have e47 : σ.1 39 (nI p + 1).toNatClampNeg = 47 ↔ tc T (p + 1) = 47 := by
        rw [ep1]
        exact nI_eq (b := 47) (by omega) (by omega)
      rcases stk g hk hv (by omega) with ⟨q0, q1, q2⟩ | ⟨q0, q1, q, q2, q3⟩ | ⟨q0, q1, i, q2, q3, q4, q5, q6⟩ | ⟨q0, q1, q2, i, q3, q4, q5, q6⟩
      · rw [wk_ch hb q0]
        have t := ih (s + 1) (p + 1) (fd h (tc T p)) u5 u6 (by omega) (vis_nx hv q2) (by omega) (by omega) (fd_lt _ _)
        have n60 : ¬ σ.1 39 (nI p).toNatClampNeg = 60 := fun z => q0 (e60.mp z)
        apply R161_17 (v1 := 0) (σ1 := σ) (v2 := 0) (σ2 := σ) (v3 := 0) (σ3 := σ) (v4 := 0) (σ4 := σ) (v5 := nI (fd h (tc T p))) (σ5 := σ)
        case c5 =>
          intro _ _ _
          rw [ep]
          exact K155 hh (by omega)
        case k8 =>
          intro _ _ _
          refine R161_232 ?_
          rw [nI_1, nI_1]
          exact t
        all_goals (intros; first | exact hin | exact ip | exact ip1 | contradiction)
      · rw [wk_cm hb q0 q1 q2]
        have hq := nx_lt q3
        have t := ih (s + 1) q h u5 u6 (by omega) (vis_nx hv q3) (by omega) (vis_le hv (vis_be g hk) (by omega) q3) hh
        have y60 := e60.mpr q0
        have y33 := e33.mpr q1
        apply R161_17 (v1 := 0) (σ1 := σ) (v2 := 0) (σ2 := σ) (v3 := 0) (σ3 := σ) (v4 := nI q) (σ4 := σ) (v5 := 0) (σ5 := σ)
        case c4 =>
          intro _ _ _ _
          have := K150 (X := X) (d := d + 1) hT hc (p := p) (by omega)
          rw [q2] at this
          exact this
        case k7 =>
          intro _ _ _ _
          refine R161_232 ?_
          rw [nI_1]
          exact t
        all_goals (intros; first | exact hin | exact ip | exact ip1 | contradiction)
      · rw [wk_en hb q0 q1 q5]
        have hq := nx_lt q6
        have t := ih (s + 1) (eOv (E i)) (ftl T h (E i)) (some (.int (nI i))) u6 (by omega) (vis_nx hv q6) (by omega) (vis_le hv (vis_be g hk) (by omega) q6) (ftl_lt hh)
        have y60 := e60.mpr q0
        have y33 : ¬ σ.1 39 (nI p + 1).toNatClampNeg = 33 := fun z => by have := e33.mp z; omega
        have y47 := e47.mpr q1
        have ii : mi_in (nI i) 20 = true := mi_in_nI (by omega) (by omega)
        apply R161_17 (v1 := 0) (σ1 := σ) (v2 := nI i) (σ2 := σ) (v3 := nI (ftl T h (E i))) (σ3 := σ) (v4 := 0) (σ4 := σ) (v5 := 0) (σ5 := σ)
        case c2 =>
          intro _ _ _ _ _
          rw [← q4]
          exact K160e g hl hr q2 q3
        case c3 => exact fun _ _ _ _ _ => K159 g hr q2 hh
        case k6 =>
          intro _ _ _ _ _
          refine R161_232 ?_
          rw [nI_1, nI_clamp (n := i) (by omega), (hr.2 i q2).2.2.2.2.2.1]
          exact t
        all_goals (intros; first | exact hin | exact ip | exact ip1 | exact ii | contradiction)
      · have hq := nx_lt q6
        have y60 := e60.mpr q0
        have y33 : ¬ σ.1 39 (nI p + 1).toNatClampNeg = 33 := fun z => q1 (e33.mp z)
        have y47 : ¬ σ.1 39 (nI p + 1).toNatClampNeg = 47 := fun z => q2 (e47.mp z)
        have ii : mi_in (nI i) 20 = true := mi_in_nI (by omega) (by omega)
        obtain ⟨gni, -, -, -, gpar, gi6, gi7, gi8, gi9⟩ := g.2.2.1 i q3
        obtain ⟨r52, r53, -, r55, -, r57, r58, -⟩ := hr.2 i q3
        have hpar : σ.1 53 (nI i).toNatClampNeg = nI k ↔ ePar (E i) = some k := by
          rw [nI_clamp (by omega), r53]
          exact oI_eq (fun i' hi' => by have := gpar i' hi'; omega) (by omega)
        have hsig : lg_cmp (σ.2 52 (nI i).toNatClampNeg) 126896536813568 = 0 ↔ nmL T (E i) = sigL := by
          rw [nI_clamp (by omega), r52]
          exact sigK gni.ok
        have c160 : RR X (d + 4) 160 [.ref 38, .int (nI p), .int 0] σ (some (.int (nI i)), σ) := by
          rw [← q4]
          exact K160b g hl hr q3
        cases hS : isS T k (E i) with
        | true =>
          rw [wk_ss hb q0 q1 q2 q5 hS]
          obtain ⟨hS1, hS2⟩ := isS_t hS
          have t := ih (s + 1) (eOv (E i)) h (some (.int (nI i))) (some (.int 1)) (by omega) (vis_ov g q3) (by omega) (g.2.2.2.2.2.2.2.2.1 k i hk q3 hS1).2 hh
          have w1 := hpar.mpr hS1
          have w2 := hsig.mpr hS2
          apply R161_17 (v1 := nI i) (σ1 := σ) (v2 := 0) (σ2 := σ) (v3 := 0) (σ3 := σ) (v4 := 0) (σ4 := σ) (v5 := 0) (σ5 := σ)
          case c1 => exact fun _ _ _ _ _ => c160
          case k5 =>
            intro _ _ _ _ _ _ _
            have n1 : ¬ (1 : Int32) = 0 := by decide
            refine R161_163 (v1 := 0) (σ1 := σ) (fun y => absurd y n1) (fun y => absurd y n1) (fun _ => R161_181 (v1 := 0) (σ1 := σ) (fun _ => R161_197 (R161_208 (fun y => absurd y n1) (fun y => absurd y n1) (fun _ => ii) (fun _ => R161_231 (R161_232 ?_)))) (fun y => absurd n1 y) (fun y => absurd n1 y) (fun y => absurd n1 y) (fun y => absurd n1 y))
            rw [nI_1, nI_clamp (n := i) (by omega), r57]
            exact t
          all_goals (intros; first | exact hin | exact ip | exact ip1 | exact ii | contradiction)
        | false =>
          rw [wk_st hb q0 q1 q2 q5 hS]
          have t := ih (s + 1) (eBs (E i)) (hst T h (E i)) (some (.int (nI i))) (some (.int 0)) (by omega) (vis_bs g q3) (by omega) (vis_le hv (vis_be g hk) (by omega) q6) (hst_lt hh)
          have nS : ¬ (ePar (E i) = some k ∧ nmL T (E i) = sigL) := fun z => by
            unfold isS at hS
            rw [decide_eq_true z.1, decide_eq_true z.2] at hS
            cases hS
          have k158 := K158 (X := X) (d := d) hT hc g hr q3 hh
          have t162 : TT X (d + 4) tb161 (some .int) (162, [some (.ref 38), some (.int (nI k)), some (.int (nI h)), some (.int (nI p)), some (.int (nI s)), some (.int (nI i)), u6], [], σ) (some (.int (nI (ftl T (wk T n E k f (eBs (E i)) (hst T h (E i))) (E k)))), σ) := by
            have n0 : ¬ ¬ (0 : Int32) = 0 := fun z => z rfl
            have t208 : ∀ {x2 : Int32}, TT X (d + 4) tb161 (some .int) (208, [some (.ref 38), some (.int (nI k)), some (.int x2), some (.int (nI p)), some (.int (nI s)), some (.int (nI i)), some (.int 0)], [.int (nI (hst T h (E i)))], σ) (some (.int (nI (ftl T (wk T n E k f (eBs (E i)) (hst T h (E i))) (E k)))), σ) := by
              intro x2
              refine R161_208 (fun _ => ii) (fun _ => R161_231 (R161_232 ?_)) (fun y => absurd rfl y) (fun y => absurd rfl y)
              rw [nI_1, nI_clamp (n := i) (by omega), r55]
              exact t
            refine R161_162 (R161_163 (v1 := nI (fhd T h (E i))) (σ1 := σ) (fun _ => k158) (fun _ => ?_) (fun y => absurd rfl y))
            cases hsi : eSg (E i) with
            | true =>
              have w8 : ¬ σ.1 58 (nI i).toNatClampNeg = 0 := by
                rw [nI_clamp (by omega), r58, hsi]
                decide
              refine R161_181 (v1 := nI (ftl T (fhd T h (E i)) (E i))) (σ1 := σ) (fun y => absurd rfl y) (fun _ => ii) (fun _ _ => K159 g hr q3 (fhd_lt hh)) (fun _ _ => ?_) (fun _ y => absurd w8 y)
              have := t208 (x2 := nI (fhd T h (E i)))
              rw [show hst T h (E i) = ftl T (fhd T h (E i)) (E i) by unfold hst; rw [hsi, cond_true]] at this ⊢
              exact this
            | false =>
              have w8 : σ.1 58 (nI i).toNatClampNeg = 0 := by
                rw [nI_clamp (by omega), r58, hsi]
                rfl
              refine R161_181 (v1 := 0) (σ1 := σ) (fun y => absurd rfl y) (fun _ => ii) (fun _ y => absurd w8 y) (fun _ y => absurd w8 y) (fun _ _ => R161_197 ?_)
              have := t208 (x2 := nI (fhd T h (E i)))
              rw [show hst T h (E i) = fhd T h (E i) by unfold hst; rw [hsi, cond_false]] at this ⊢
              exact this
          apply R161_17 (v1 := nI i) (σ1 := σ) (v2 := 0) (σ2 := σ) (v3 := 0) (σ3 := σ) (v4 := 0) (σ4 := σ) (v5 := 0) (σ5 := σ)
          case c1 => exact fun _ _ _ _ _ => c160
          case k3 => exact fun _ _ _ _ _ _ => t162
          case k4 => exact fun _ _ _ _ _ _ _ => t162
          case k5 => exact fun _ _ _ _ _ y1 y2 => absurd ⟨hpar.mp (Decidable.not_not.mp y1), hsig.mp (Decidable.not_not.mp y2)⟩ nS
          all_goals (intros; first | exact hin | exact ip | exact ip1 | exact ii | contradiction)
theorem K161 (hT : okT T) (hc : cT (σ.1 38 4) (σ.1 39) T) (g : gM T n E) (hr : rpM T σ n E) {k : Nat} (hk : k < n) : RR X (d + 5) 161 [.ref 38, .int (nI k)] σ (some (.int (nI (dgS T n E k))), σ) := by
  have hn := g.2.1
  obtain ⟨-, -, -, -, -, gk6, gk7, gk8, gk9⟩ := g.2.2.1 k hk
  refine mi_R.of rfl rfl (R161_0 (K158 (h := 0) hT hc g hr hk (by omega)) (mi_in_nI (by omega) (by omega)) ?_)
  rw [nI_clamp (by omega), (hr.2 k hk).2.2.2.1]
  exact L161 hT hc g hr hk 500 0 (eBs (E k)) (fhd T 0 (E k)) none none (by omega) (vis_bs g hk) (Nat.le_refl _) gk7 (fhd_lt (by omega))
end
theorem rdI_cases (T : List Nat) : (rdI T = -1 ∨ rdI T = -2) ∨ ∃ y, bnS T = false ∧ rdS T = some y ∧ rdI T = nI y.1 ∧ gM T y.1 y.2 := by
  unfold rdI
  cases hb : bnS T with
  | true => exact Or.inl (Or.inl rfl)
  | false =>
    cases hr : rdS T with
    | none => exact Or.inl (Or.inr rfl)
    | some y => exact Or.inr ⟨y, rfl, rfl, rfl, msg_gM (rd_msg hr)⟩
theorem fG_qI {n : Nat} {σ σ' : mG} (f : fG σ σ') (h : qI n σ) : qI n σ' := by
  unfold qI at *
  rw [f.1, f.2 1 (by omega), f.2 2 (by omega), f.2 3 (by omega), f.2 4 (by omega), f.2 0 (by omega), f.2 38 (by omega), f.2 39 (by omega), f.2 40 (by omega), f.2 23 (by omega), f.2 19 (by omega), f.2 20 (by omega), f.2 21 (by omega), f.2 22 (by omega), f.2 41 (by omega), f.2 42 (by omega), f.2 43 (by omega), f.2 44 (by omega), f.2 24 (by omega), f.2 25 (by omega), f.2 26 (by omega), f.2 45 (by omega), f.2 46 (by omega), f.2 47 (by omega), f.2 30 (by omega), f.2 28 (by omega), f.2 29 (by omega), f.2 31 (by omega), f.2 32 (by omega), f.2 48 (by omega), f.2 50 (by omega), f.2 33 (by omega), f.2 34 (by omega), f.2 35 (by omega)]
  exact h
theorem qdigest : qO14 qI := by
  intro a X n σ hn hI
  obtain ⟨⟨T, h1, h2, h3⟩, -⟩ := id hI
  by_cases ha : a < 0
  · obtain ⟨σ2, b1, b2, -⟩ := K153 (X := X) (d := 3) h1 h3
    exact ⟨-1, σ, σ2, mi_R.of rfl rfl (R23_0 (v1 := 0) (σ1 := σ) (v2 := 0) (σ2 := σ) (fun _ => rfl) (fun z => absurd ha z) (fun z => absurd ha z) (fun z => absurd ha z) (fun z => absurd ha z)), mi_R.of rfl rfl (R162_0 (v2 := 0) (σ2 := σ) b1 (fun _ => rfl) (fun z => absurd ha z) (fun z => absurd ha z) (fun z => absurd ha z)), qI_skip n σ2 (fM_qI b2 hI)⟩
  · obtain ⟨σ1, a1, a2, a3⟩ := K78 (X := X) (d := 2) h1 h2
    have hI1 := fR_qI a2 hI
    have hm : ∀ {σ1 : mG}, (∀ c, c = 38 ∨ c = 39 → σ1.1 c = σ.1 c) → cT (σ1.1 38 4) (σ1.1 39) T := fun q => by
      rw [q 38 (Or.inl rfl), q 39 (Or.inr rfl)]
      exact h3
    rcases rdI_cases T with hv | ⟨y, y1, y2, y3, y4⟩
    · obtain ⟨σ2, b1, b2, -⟩ := K153 (X := X) (d := 3) h1 (hm (σ1 := σ1) (fun c hc => a2.2 c (by omega)))
      have hle : rdI T ≤ a := by
        obtain ⟨j, hj, rfl⟩ := nI_of ha
        rw [Int32.le_iff_toInt_le, nI_toInt hj]
        rcases hv with e | e
        · rw [e]
          have : ((-1 : Int32)).toInt = -1 := rfl
          omega
        · rw [e]
          have : ((-2 : Int32)).toInt = -2 := rfl
          omega
      exact ⟨-1, σ1, σ2, mi_R.of rfl rfl (R23_0 (v2 := 0) (σ2 := σ) (fun z => absurd z ha) (fun _ => a1) (fun _ _ => rfl) (fun _ z => absurd hle z) (fun _ z => absurd hle z)), mi_R.of rfl rfl (R162_0 (v2 := 0) (σ2 := σ) b1 (fun z => absurd z ha) (fun _ z => absurd z (Int32.not_lt.mpr hle)) (fun _ z => absurd z (Int32.not_lt.mpr hle)) (fun _ _ => rfl)), qI_skip n σ2 (fM_qI b2 hI1)⟩
    · have hn20 := y4.2.1
      by_cases hle : rdI T ≤ a
      · obtain ⟨σ2, b1, b2, -⟩ := K153 (X := X) (d := 3) h1 (hm (σ1 := σ1) (fun c hc => a2.2 c (by omega)))
        exact ⟨-1, σ1, σ2, mi_R.of rfl rfl (R23_0 (v2 := 0) (σ2 := σ) (fun z => absurd z ha) (fun _ => a1) (fun _ _ => rfl) (fun _ z => absurd hle z) (fun _ z => absurd hle z)), mi_R.of rfl rfl (R162_0 (v2 := 0) (σ2 := σ) b1 (fun z => absurd z ha) (fun _ z => absurd z (Int32.not_lt.mpr hle)) (fun _ z => absurd z (Int32.not_lt.mpr hle)) (fun _ _ => rfl)), qI_skip n σ2 (fM_qI b2 hI1)⟩
      · obtain ⟨k, hk, rfl⟩ : ∃ k, k < y.1 ∧ a = nI k := by
          rcases pk_ix a (n := y.1) (by omega) with z | z | z
          · exact absurd z ha
          · rw [y3] at hle
            exact absurd z hle
          · exact z
        have hr1 := a3 y y1 y2
        have hc1 : cT (σ1.1 1 1) (σ1.1 2) T := by
          rw [a2.2 1 (by omega), a2.2 2 (by omega)]
          exact h2
        obtain ⟨σ2, c1, c2⟩ := K86 (X := X) (d := 3) h1 y4 hk hc1 hr1
        have hI2 := fG_qI c2 hI1
        have hc2 : cT (σ2.1 38 4) (σ2.1 39) T := hm (fun c hc => (c2.2 c (by omega)).trans (a2.2 c (by omega)))
        obtain ⟨σ3, b1, b2, b3⟩ := K153 (X := X) (d := 3) h1 hc2
        have hc3 := b2.cT hc2
        refine ⟨nI (dgS T y.1 y.2 k), σ2, σ3, mi_R.of rfl rfl (R23_0 (fun z => absurd z ha) (fun _ => a1) (fun _ z => absurd z hle) (fun _ _ => c1) (fun _ _ => rfl)), mi_R.of rfl rfl (R162_0 b1 (fun z => absurd z ha) (fun _ _ => K161 h1 hc3 y4 (b3 y y1 y2) hk) (fun _ _ => rfl) (fun _ z => absurd ?_ z)), qI_skip n σ3 (fM_qI b2 hI2)⟩
        exact Int32.not_le.mp hle
