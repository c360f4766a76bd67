/-! The class's digest of an element -/
def nxI (n : Nat) (E : Nat → mEl) (p j : Nat) : Prop := j ≤ n ∧ (∀ i, i < j → eBg (E i) < p) ∧ ∀ i, j ≤ i → i < n → p ≤ eBg (E i)
section
variable {X : Nat × (Nat → Int32)} {d : Nat} {T : List Nat} {n : Nat} {E : Nat → mEl}
theorem bg_60 (g : gM T n E) {i : Nat} (hi : i < n) : tc T (eBg (E i)) = 60 ∧ tc T (eBg (E i) + 1) ≠ 33 ∧ tc T (eBg (E i) + 1) ≠ 47 := ⟨(tgS_ok (g.2.2.2.1 i hi).2).1, tg_letter (g.2.2.2.1 i hi).2⟩
theorem nxI_nx (g : gM T n E) {p q j : Nat} (hv : vis T p) (hn : nx T p = some q) (hb : ∀ i, i < n → eBg (E i) ≠ p) (h : nxI n E p j) : nxI n E q j := by
  have hq := nx_lt hn
  refine ⟨h.1, fun i hi => by have := h.2.1 i hi; omega, fun i h1 h2 => ?_⟩
  have h3 := h.2.2 i h1 h2
  have h4 := hb i h2
  exact vis_le hv (g.2.2.2.1 i h2).1 (by omega) hn
theorem nxI_bg (g : gM T n E) {i j : Nat} (hi : i < n) (h : nxI n E (eBg (E i)) j) : j = i := by
  rcases Nat.lt_trichotomy j i with z | z | z
  · have h1 := h.2.2 j (Nat.le_refl _) (by omega)
    have h2 := bg_lt g z hi
    omega
  · exact z
  · have := h.2.1 i z
    omega
theorem nxI_bs (g : gM T n E) {i : Nat} (hi : i < n) : nxI n E (eBs (E i)) (i + 1) := by
  have h0 := (g.2.2.1 i hi).2.2.2.2.2.1
  refine ⟨hi, fun i' h => ?_, fun i' h1 h2 => g.2.2.2.2.2.1 i i' (by omega) h2⟩
  by_cases e : i' = i
  · rw [e]
    exact h0
  · have := bg_lt g (show i' < i by omega) hi
    omega
theorem nxI_ov (g : gM T n E) {o p j j' : Nat} (h : nxI n E p j) (hp : p < o) (h1 : j ≤ j') (h2 : j' ≤ n) (h3 : ∀ i', j ≤ i' → i' < j' → eBg (E i') < o) (h4 : j' < n → o ≤ eBg (E j')) : nxI n E o j' := by
  refine ⟨h2, fun i hi => ?_, fun i a b => ?_⟩
  · by_cases z : i < j
    · have := h.2.1 i z
      omega
    · exact h3 i (by omega) hi
  · have h5 := h4 (by omega)
    by_cases e : i = j'
    · rw [e]
      exact h5
    · have := bg_lt g (show j' < i by omega) b
      omega
theorem hst_lt {h : Nat} {e : mEl} (hh : h < 65521) : hst T h e < 65521 := by
  unfold hst
  cases eSg e with
  | true =>
    rw [cond_true]
    exact ftl_lt (fhd_lt hh)
  | false =>
    rw [cond_false]
    exact fhd_lt hh
theorem wk_end {k f p h : Nat} (hb : eBe (E k) ≤ p) : wk T n E k f p h = h := by
  cases f with
  | zero => rfl
  | succ f =>
    unfold wk
    rw [if_pos hb]
theorem wk_ch {k f p h : Nat} (hb : ¬ eBe (E k) ≤ p) (c0 : tc T p ≠ 60) : wk T n E k (f + 1) p h = wk T n E k f (p + 1) (fd h (tc T p)) := by
  rw [wk, if_neg hb, if_neg c0]
theorem wk_cm {k f p h q : Nat} (hb : ¬ eBe (E k) ≤ p) (c0 : tc T p = 60) (c1 : tc T (p + 1) = 33) (c2 : cmS T p = some q) : wk T n E k (f + 1) p h = wk T n E k f q h := by
  rw [wk, if_neg hb, if_pos c0, if_pos c1, c2]
  rfl
theorem wk_en {k f p h i : Nat} (hb : ¬ eBe (E k) ≤ p) (c0 : tc T p = 60) (c1 : tc T (p + 1) = 47) (c2 : ixE n E p = i) : wk T n E k (f + 1) p h = wk T n E k f (eOv (E i)) (ftl T h (E i)) := by
  have c1' : tc T (p + 1) ≠ 33 := by omega
  rw [wk, if_neg hb, if_pos c0, if_neg c1', if_pos c1, c2]
theorem wk_ss {k f p h i : Nat} (hb : ¬ eBe (E k) ≤ p) (c0 : tc T p = 60) (c1 : tc T (p + 1) ≠ 33) (c2 : tc T (p + 1) ≠ 47) (c3 : ixB n E p = i) (hs : isS T k (E i) = true) : wk T n E k (f + 1) p h = wk T n E k f (eOv (E i)) h := by
  rw [wk, if_neg hb, if_pos c0, if_neg c1, if_neg c2, c3, hs, cond_true]
theorem wk_st {k f p h i : Nat} (hb : ¬ eBe (E k) ≤ p) (c0 : tc T p = 60) (c1 : tc T (p + 1) ≠ 33) (c2 : tc T (p + 1) ≠ 47) (c3 : ixB n E p = i) (hs : isS T k (E i) = false) : wk T n E k (f + 1) p h = wk T n E k f (eBs (E i)) (hst T h (E i)) := by
  rw [wk, if_neg hb, if_pos c0, if_neg c1, if_neg c2, c3, hs, cond_false]
theorem K39c (hT : okT T) {σ : mG} (hc : cT (σ.1 1 1) (σ.1 2) T) {p : Nat} (hp : p < T.length) : RR X (d + 1) 39 [.ref 1, .int (nI p)] σ (some (.int (nI (tc T p))), σ) := by
  have := K39e (X := X) (d := d) hT hc (x := nI p) rfl
  rw [cdA_in hT hp] at this
  exact this
theorem e86 (g : gM T n E) {k q h : Nat} (hk : k < n) (hq : eOv (E k) ≤ q) (hq2 : q ≤ 400) {σ : mG} (hr : rpC σ n E) (e : σ.1 17 2 = nI h) {x3 : Int32} {u : Option Value} : TT X d tb86 (some .int) (38, [some (.ref 17), some (.int (nI k)), some (.int (nI q)), some (.int x3), u], [], σ) (some (.int (nI h)), σ) := by
  have hn := g.2.1
  have t : TT X d tb86 (some .int) (169, [some (.ref 17), some (.int (nI k)), some (.int (nI q)), some (.int x3), u], [], σ) (some (.int (nI h)), σ) := R86_169 (by rw [e])
  have z : σ.1 11 (nI k).toNatClampNeg ≤ nI q := by
    rw [nI_clamp (by omega), (hr.2 k hk).2.2.2.2.2.1]
    exact nI_le hq (by omega)
  refine R86_38 (v1 := 0) (σ1 := σ) (v2 := 0) (σ2 := σ) (fun _ => t) (fun _ _ => t) (fun _ _ => mi_in_nI (by omega) (by omega)) (fun _ _ _ => t) (fun _ _ y => absurd z y) (fun _ _ y => absurd z y) (fun _ _ y => absurd z y) (fun _ _ y => absurd z y)
theorem s86 (hT : okT T) (g : gM T n E) {k p s : Nat} (hk : k < n) (hp : p < eOv (E k)) (hs : s < 400) {σ : mG} (hc : cT (σ.1 1 1) (σ.1 2) T) (hr : rpC σ n E) {u : Option Value} {r : mA mG} (ka : tc T p = 60 → TT X (d + 1) tb86 (some .int) (90, [some (.ref 17), some (.int (nI k)), some (.int (nI p)), some (.int (nI s)), u], [.int (cdA T (nI (p + 1)))], σ) r) (kb : tc T p ≠ 60 → TT X (d + 1) tb86 (some .int) (90, [some (.ref 17), some (.int (nI k)), some (.int (nI p)), some (.int (nI s)), u], [.int (-1)], σ) r) : TT X (d + 1) tb86 (some .int) (38, [some (.ref 17), some (.int (nI k)), some (.int (nI p)), some (.int (nI s)), u], [], σ) r := by
  have hl := hT.1
  have hn := g.2.1
  have ho := (g.2.2.1 k hk).2.2.2.2.2.2.2.2
  have ht := tc_hi hT p
  have z0 : ¬ (400 : Int32) ≤ nI s := nI_ge (b := 400) hs (by omega)
  have z1 : ¬ nI p = -1 := fun z => m1_ne (c := p) (by omega) z.symm
  have z2 : ¬ σ.1 11 (nI k).toNatClampNeg ≤ nI p := by
    rw [nI_clamp (by omega), (hr.2 k hk).2.2.2.2.2.1]
    exact nI_ge (by omega) (by omega)
  have e60 : nI (tc T p) = 60 ↔ tc T p = 60 := nI_eq (b := 60) (by omega) (by omega)
  refine R86_38 (fun z => absurd z z0) (fun _ z => absurd z z1) (fun _ _ => mi_in_nI (by omega) (by omega)) (fun _ _ z => absurd z z2) (fun _ _ _ => K39c hT hc (by omega)) (fun _ _ _ z => kb fun y => z (e60.mpr y)) (fun _ _ _ _ => K39e hT hc (p := p + 1) (nI_1 p)) (fun _ _ _ z => ka (e60.mp (Decidable.not_not.mp z)))
theorem L86 (hT : okT T) (g : gM T n E) {k : Nat} (hk : k < n) (hsg : eSg (E k) = false) : ∀ (f s p h j : Nat) (σ : mG) (u : Option Value), s + f = 399 → s + 1 ≤ p → p ≤ eBe (E k) → vis T p → nxI n E p j → cT (σ.1 1 1) (σ.1 2) T → rpC σ n E → σ.1 17 2 = nI h → h < 65521 → σ.1 17 3 = nI j → ∃ σ', TT X (d + 4) tb86 (some .int) (38, [some (.ref 17), some (.int (nI k)), some (.int (nI p)), some (.int (nI s)), u], [], σ) (some (.int (nI (ftl T (wk T n E k f p h) (E k)))), σ') ∧ fG σ σ' := by
  have hl := hT.1
  have hn := g.2.1
  have ho := (g.2.2.1 k hk).2.2.2.2.2.2.2.2
  obtain ⟨-, k2, k3, k4, ⟨m0, k5, k6⟩, k7, k8⟩ := (g.2.2.2.2.1 k hk).1 hsg
  intro f
  induction f with
  | zero =>
    intro s p h j σ u h1 h2 h3
    omega
  | succ f ih =>
    intro s p h j σ u h1 h2 h3 hv hj hc hr e hh e3
    have ht := tc_hi hT p
    have ht1 := tc_hi hT (p + 1)
    have e60 : nI (tc T p) = 60 ↔ tc T p = 60 := nI_eq (b := 60) (by omega) (by omega)
    have c33 : cdA T (nI (p + 1)) = 33 ↔ tc T (p + 1) = 33 := cdA_is hT (c := 33) (by omega) (by omega) (by omega)
    have c47 : cdA T (nI (p + 1)) = 47 ↔ tc T (p + 1) = 47 := cdA_is hT (c := 47) (by omega) (by omega) (by omega)
    have c1 : RR X (d + 4) 39 [.ref 1, .int (nI p)] σ (some (.int (nI (tc T p))), σ) := K39c hT hc (by omega)
    by_cases hb : eBe (E k) ≤ p
    · have hpe : p = eBe (E k) := by omega
      subst hpe
      rw [wk_end hb]
      obtain ⟨σ', a1, a2⟩ := K87 (X := X) (d := d) hT k5 hc e hh
      rw [k6] at a2
      refine ⟨σ', s86 hT g hk k8 (by omega) hc hr (fun _ => ?_) (fun z => absurd k3 z), a2.1⟩
      apply R86_90 (v1 := nI (tc T (eBe (E k)))) (σ1 := σ) (v2 := 0) (σ2 := σ) (v3 := nI (eOv (E k))) (σ3 := σ') (v4 := 0) (σ4 := σ) (v5 := 0) (σ5 := σ) (σ6 := σ) c1
      case c2 => exact fun _ _ z => absurd (c47.mpr k4) z
      case k1 => exact fun _ _ z => absurd (c47.mpr k4) z
      case c3 => exact fun _ _ _ => a1
      case k2 => exact fun _ _ _ => R86_162 (R86_163 (e86 g hk (Nat.le_refl _) (by omega) (a2.1.rpC hr) a2.2.2))
      case c4 => exact fun _ z => absurd (fun y => by have := c33.mp y; omega) z
      case k3 => exact fun _ z => absurd (fun y => by have := c33.mp y; omega) z
      case c5 => exact fun z => absurd (e60.mpr k3) z
      case c6 => exact fun z => absurd (e60.mpr k3) z
      case k4 => exact fun z => absurd (e60.mpr k3) z
    · rcases stk g hk hv (by omega) with ⟨q0, q1, q2⟩ | ⟨q0, q1, q, q2, q3⟩ | ⟨q0, q1, i, q2, q3, q4, q5, q6⟩ | ⟨q0, q1, q2, i, q3, q4, q5, q6⟩
      · rw [wk_ch hb q0]
        obtain ⟨σ6, a1, a2⟩ := K92 (X := X) (d := d + 3) (c := tc T p) e hh (by omega)
        obtain ⟨σ', b1, b2⟩ := ih (s + 1) (p + 1) (fd h (tc T p)) j σ6 (some (.int (-1))) (by omega) (by omega) (by omega) (vis_nx hv q2) (nxI_nx g hv q2 (fun i hi z => q0 (z ▸ (bg_60 g hi).1)) hj) (a2.1.cT hc) (a2.1.rpC hr) a2.2.2 (fd_lt _ _) ((a2.2.1 3 (by omega)).trans e3)
        refine ⟨σ', s86 hT g hk (by omega) (by omega) hc hr (fun z => absurd z q0) (fun _ => ?_), a2.1.tr b2⟩
        have q0' : ¬ nI (tc T p) = 60 := fun z => q0 (e60.mp z)
        apply R86_90 (v1 := nI (tc T p)) (σ1 := σ) (v2 := 0) (σ2 := σ) (v3 := 0) (σ3 := σ) (v4 := 0) (σ4 := σ) (v5 := nI (tc T p)) (σ5 := σ) (σ6 := σ6) c1
        case c5 => exact fun _ => c1
        case c6 => exact fun _ => a1
        case k4 =>
          intro _
          refine R86_163 ?_
          rw [nI_1, nI_1]
          exact b1
        all_goals exact fun z => absurd z q0'
      · rw [wk_cm hb q0 q1 q2]
        have hq := nx_lt q3
        have hq2 := vis_le hv (vis_be g hk) (by omega) q3
        obtain ⟨σ', b1, b2⟩ := ih (s + 1) q h j σ (some (.int (cdA T (nI (p + 1))))) (by omega) (by omega) hq2 (vis_nx hv q3) (nxI_nx g hv q3 (fun i hi z => (bg_60 g hi).2.1 (by rw [z]; exact q1)) hj) hc hr e hh e3
        refine ⟨σ', s86 hT g hk (by omega) (by omega) hc hr (fun _ => ?_) (fun z => absurd q0 z), b2⟩
        apply R86_90 (v1 := nI (tc T p)) (σ1 := σ) (v2 := 0) (σ2 := σ) (v3 := 0) (σ3 := σ) (v4 := nI q) (σ4 := σ) (v5 := 0) (σ5 := σ) (σ6 := σ) c1
        case c4 =>
          intro _ _
          have := K49 (X := X) (d := d + 1) hT hc (p := p) (by omega)
          rw [q2] at this
          exact this
        case k3 =>
          intro _ _
          refine R86_163 ?_
          rw [nI_1]
          exact b1
        case c5 => exact fun z => absurd (e60.mpr q0) z
        case c6 => exact fun z => absurd (e60.mpr q0) z
        case k4 => exact fun z => absurd (e60.mpr q0) z
        all_goals exact fun _ z => absurd (c33.mpr q1) z
      · rw [wk_en hb q0 q1 q5]
        have hq := nx_lt q6
        have hq2 := vis_le hv (vis_be g hk) (by omega) q6
        obtain ⟨-, -, -, -, ⟨m1, i5, i6⟩, -, -⟩ := (g.2.2.2.2.1 i q2).1 q3
        rw [q4] at i5 i6
        obtain ⟨σ3, a1, a2⟩ := K87 (X := X) (d := d) hT i5 hc e hh
        rw [i6] at a2
        obtain ⟨σ', b1, b2⟩ := ih (s + 1) (eOv (E i)) (ftl T h (E i)) j σ3 (some (.int (cdA T (nI (p + 1))))) (by omega) (by omega) hq2 (vis_nx hv q6) (nxI_nx g hv q6 (fun i hi z => (bg_60 g hi).2.2 (by rw [z]; exact q1)) hj) (a2.1.cT hc) (a2.1.rpC hr) a2.2.2 (ftl_lt hh) ((a2.2.1 3 (by omega)).trans e3)
        refine ⟨σ', s86 hT g hk (by omega) (by omega) hc hr (fun _ => ?_) (fun z => absurd q0 z), a2.1.tr b2⟩
        apply R86_90 (v1 := nI (tc T p)) (σ1 := σ) (v2 := 0) (σ2 := σ) (v3 := nI (eOv (E i))) (σ3 := σ3) (v4 := 0) (σ4 := σ) (v5 := 0) (σ5 := σ) (σ6 := σ) c1
        case c2 => exact fun _ _ z => absurd (c47.mpr q1) z
        case k1 => exact fun _ _ z => absurd (c47.mpr q1) z
        case c3 => exact fun _ _ _ => a1
        case k2 =>
          intro _ _ _
          refine R86_162 (R86_163 ?_)
          rw [nI_1]
          exact b1
        case c4 => exact fun _ z => absurd (fun y => by have := c33.mp y; omega) z
        case k3 => exact fun _ z => absurd (fun y => by have := c33.mp y; omega) z
        case c5 => exact fun z => absurd (e60.mpr q0) z
        case c6 => exact fun z => absurd (e60.mpr q0) z
        case k4 => exact fun z => absurd (e60.mpr q0) z
      · have hji : j = i := nxI_bg g q3 (by rw [q4]; exact hj)
        subst hji
        have hq := nx_lt q6
        have n33 : ¬ cdA T (nI (p + 1)) = 33 := fun z => q1 (c33.mp z)
        have n47 : ¬ cdA T (nI (p + 1)) = 47 := fun z => q2 (c47.mp z)
        cases hS : isS T k (E j) with
        | true =>
          rw [wk_ss hb q0 q1 q2 q5 hS]
          obtain ⟨σ2, j', a1, a2, a3, a4, a5, a6, a7, a8⟩ := K88s (X := X) (d := d) hT g q3 hk hS hc hr e e3
          have hov := (g.2.2.1 j q3).2.2.2.2.2.2
          have hpar := (g.2.2.2.2.2.2.2.2.1 k j hk q3 (isS_t hS).1).2
          obtain ⟨σ', b1, b2⟩ := ih (s + 1) (eOv (E j)) h j' σ2 (some (.int (cdA T (nI (p + 1))))) (by omega) (by omega) hpar (vis_ov g q3) (nxI_ov g hj (by omega) a5 a6 a7 a8) (a2.cT hc) (a2.rpC hr) a3 hh a4
          refine ⟨σ', s86 hT g hk (by omega) (by omega) hc hr (fun _ => ?_) (fun z => absurd q0 z), a2.tr b2⟩
          apply R86_90 (v1 := nI (tc T p)) (σ1 := σ) (v2 := nI (eOv (E j))) (σ2 := σ2) (v3 := 0) (σ3 := σ) (v4 := 0) (σ4 := σ) (v5 := 0) (σ5 := σ) (σ6 := σ) c1
          case c2 => exact fun _ _ _ => a1
          case k1 =>
            intro _ _ _
            refine R86_162 (R86_163 ?_)
            rw [nI_1]
            exact b1
          case c3 => exact fun _ _ z => absurd n47 z
          case k2 => exact fun _ _ z => absurd n47 z
          case c4 => exact fun _ z => absurd n33 z
          case k3 => exact fun _ z => absurd n33 z
          case c5 => exact fun z => absurd (e60.mpr q0) z
          case c6 => exact fun z => absurd (e60.mpr q0) z
          case k4 => exact fun z => absurd (e60.mpr q0) z
        | false =>
          rw [wk_st hb q0 q1 q2 q5 hS]
          have hq2 := vis_le hv (vis_be g hk) (by omega) q6
          obtain ⟨σ2, a1, a2, a3, a4⟩ := K88h (X := X) (d := d) hT g q3 hk hS hc hr e hh e3
          have hhs : hst T h (E j) < 65521 := hst_lt hh
          obtain ⟨σ', b1, b2⟩ := ih (s + 1) (eBs (E j)) (hst T h (E j)) (j + 1) σ2 (some (.int (cdA T (nI (p + 1))))) (by omega) (by omega) hq2 (vis_bs g q3) (nxI_bs g q3) (a2.cT hc) (a2.rpC hr) a3 hhs a4
          refine ⟨σ', s86 hT g hk (by omega) (by omega) hc hr (fun _ => ?_) (fun z => absurd q0 z), a2.tr b2⟩
          apply R86_90 (v1 := nI (tc T p)) (σ1 := σ) (v2 := nI (eBs (E j))) (σ2 := σ2) (v3 := 0) (σ3 := σ) (v4 := 0) (σ4 := σ) (v5 := 0) (σ5 := σ) (σ6 := σ) c1
          case c2 => exact fun _ _ _ => a1
          case k1 =>
            intro _ _ _
            refine R86_162 (R86_163 ?_)
            rw [nI_1]
            exact b1
          case c3 => exact fun _ _ z => absurd n47 z
          case k2 => exact fun _ _ z => absurd n47 z
          case c4 => exact fun _ z => absurd n33 z
          case k3 => exact fun _ z => absurd n33 z
          case c5 => exact fun z => absurd (e60.mpr q0) z
          case c6 => exact fun z => absurd (e60.mpr q0) z
          case k4 => exact fun z => absurd (e60.mpr q0) z
theorem K86 (hT : okT T) (g : gM T n E) {k : Nat} (hk : k < n) {σ : mG} (hc : cT (σ.1 1 1) (σ.1 2) T) (hr : rpC σ n E) : ∃ σ', RR X (d + 5) 86 [.ref 17, .int (nI k)] σ (some (.int (nI (dgS T n E k))), σ') ∧ fG σ σ' := by
  have hl := hT.1
  have hn := g.2.1
  obtain ⟨gn, -, -, -, gpar, g6, g7, g8, g9⟩ := g.2.2.1 k hk
  obtain ⟨b60, b33, b47⟩ := bg_60 g hk
  have hbs := (tgS_ok (g.2.2.2.1 k hk).2).2.2.2.2.2.1
  have hbs : eBg (E k) + 2 < eBs (E k) := hbs
  let σ0 : mG := (mi_uc (mi_uc σ.1 17 (upd (σ.1 17) 2 0)) 17 (upd (upd (σ.1 17) 2 0) 3 (nI k)), σ.2)
  have f0 : fG σ σ0 := ⟨rfl, fun c hc' => (mi_uc_ne _ _ hc').trans (mi_uc_ne _ _ hc')⟩
  have e2 : σ0.1 17 2 = nI 0 := (mi_upd_ne (upd (σ.1 17) 2 0) (k := 3) (j := 2) (nI k) (by omega)).trans (mi_upd_same (σ.1 17) 2 0)
  have e3 : σ0.1 17 3 = nI k := mi_upd_same (upd (σ.1 17) 2 0) 3 (nI k)
  have hc0 := f0.cT hc
  have hr0 := f0.rpC hr
  have hS : isS T k (E k) = false := by
    cases hh : isS T k (E k) with
    | false => rfl
    | true =>
      have := gpar k (isS_t hh).1
      omega
  have ht := tc_hi hT (eBg (E k))
  have e60 : nI (tc T (eBg (E k))) = 60 ↔ tc T (eBg (E k)) = 60 := nI_eq (b := 60) (by omega) (by omega)
  have n33 : ¬ cdA T (nI (eBg (E k) + 1)) = 33 := fun z => b33 ((cdA_is hT (c := 33) (by omega) (by omega) (by omega)).mp z)
  have n47 : ¬ cdA T (nI (eBg (E k) + 1)) = 47 := fun z => b47 ((cdA_is hT (c := 47) (by omega) (by omega) (by omega)).mp z)
  obtain ⟨σ2, a1, a2, a3, a4⟩ := K88h (X := X) (d := d) hT g hk hk hS hc0 hr0 e2 (by omega) e3
  have key : ∃ σ', TT X (d + 4) tb86 (some .int) (38, [some (.ref 17), some (.int (nI k)), some (.int (nI (eBs (E k)))), some (.int (nI 1)), some (.int (cdA T (nI (eBg (E k) + 1))))], [], σ2) (some (.int (nI (dgS T n E k))), σ') ∧ fG σ2 σ' := by
    cases hsg : eSg (E k) with
    | true =>
      have hov := ((g.2.2.2.2.1 k hk).2 hsg)
      refine ⟨σ2, e86 g hk (by omega) (by omega) (a2.rpC hr0) ?_, fG.rfl'⟩
      rw [a3]
      unfold dgS hst
      rw [hsg, cond_true, wk_end (by omega)]
    | false =>
      obtain ⟨-, k2, k3, k4, -, k7, k8⟩ := (g.2.2.2.2.1 k hk).1 hsg
      unfold hst at a3
      rw [hsg, cond_false] at a3
      have := L86 (X := X) (d := d) hT g hk hsg 398 1 (eBs (E k)) (fhd T 0 (E k)) (k + 1) σ2 (some (.int (cdA T (nI (eBg (E k) + 1))))) (by omega) (by omega) k7 (vis_bs g hk) (nxI_bs g hk) (a2.cT hc0) (a2.rpC hr0) a3 (fhd_lt (by omega)) a4
      rw [wk_fuel g hk 398 500 _ _ (vis_bs g hk) (by omega) (by omega)] at this
      exact this
  obtain ⟨σ', b1, b2⟩ := key
  refine ⟨σ', mi_R.of rfl rfl (R86_0 (v1 := 1) (σ1 := σ0) (K53 hr0.1 hn hk) (fun _ => mi_in_nI (by omega) (by omega)) (fun _ => ?_) (fun z => absurd (by decide) z)), f0.tr (a2.tr b2)⟩
  rw [nI_clamp (by omega), (hr0.2 k hk).2.1]
  refine s86 (s := 0) hT g hk (by omega) (by omega) hc0 hr0 (fun _ => ?_) (fun z => absurd b60 z)
  apply R86_90 (v1 := nI (tc T (eBg (E k)))) (σ1 := σ0) (v2 := nI (eBs (E k))) (σ2 := σ2) (v3 := 0) (σ3 := σ) (v4 := 0) (σ4 := σ) (v5 := 0) (σ5 := σ) (σ6 := σ) (K39c hT hc0 (by omega))
  case c2 => exact fun _ _ _ => a1
  case k1 => exact fun _ _ _ => R86_162 (R86_163 b1)
  case c3 => exact fun _ _ z => absurd n47 z
  case k2 => exact fun _ _ z => absurd n47 z
  case c4 => exact fun _ z => absurd n33 z
  case k3 => exact fun _ z => absurd n33 z
  case c5 => exact fun z => absurd (e60.mpr b60) z
  case c6 => exact fun z => absurd (e60.mpr b60) z
  case k4 => exact fun z => absurd (e60.mpr b60) z
end
