/-! The reference's attribute, tag, close, depth -/
theorem vl_nm {T : List Nat} {f m : Nat} (h : nmS T f = some m) : vlS T f = if tc T m = 61 ∧ tc T (m + 1) = 34 ∧ tc T (m + 2 + nV T (m + 2)) = 34 then some (f, m, m + 2 + nV T (m + 2)) else none := by
  unfold nmS at h
  split at h
  · rename_i hc
    injection h with h
    subst h
    unfold vlS
    by_cases hz : tc T (f + nL T f) = 61 ∧ tc T (f + nL T f + 1) = 34 ∧ tc T (f + nL T f + 2 + nV T (f + nL T f + 2)) = 34
    · rw [if_pos hz, if_pos ⟨hc.2, hz⟩]
    · rw [if_neg hz, if_neg (fun z => hz z.2)]
  · cases h
theorem vl_no {T : List Nat} {f : Nat} (h1 : 1 ≤ nL T f) (h : nmS T f = none) : vlS T f = none := by
  rcases vl_of (T := T) h1 with z | ⟨n, e, -, z, -⟩
  · exact z.1
  · rw [z] at h
    cases h
theorem nS_32 {T : List Nat} {p : Nat} : nS T p = 0 ↔ ¬ tc T p = 32 := by
  unfold nS
  constructor
  · intro h z
    rw [rn_t (tc_is z (by omega)) (decide_eq_true z)] at h
    omega
  · intro h
    exact rn_f (fun z => h (of_decide_eq_true z.2))
theorem nL_0 {T : List Nat} {p : Nat} : nL T p = 0 ↔ isL (tc T p) = false := by
  unfold nL
  constructor
  · intro h
    cases hb : isL (tc T p)
    · rfl
    · have := isL_iff.mp hb
      rw [rn_t (f := fun q => isL (tc T q)) (n := T.length) (p := p) (tc_lt (by omega)) hb] at h
      omega
  · intro h
    exact rn_f (fun z => by rw [h] at z; cases z.2)
section MT
variable {X : Nat × (Nat → Int32)} {d : Nat} {T : List Nat}
theorem o4_neg {i : Nat} {b : Option Nat} (h : 4 * i < 2 ^ 30) (hb : ∀ j, b = some j → j < 2 ^ 30) : o4 i b < 0 ↔ b = none := by
  cases b with
  | none => exact ⟨fun _ => rfl, fun _ => show (-1 : Int32) < 0 by decide⟩
  | some j =>
    refine ⟨fun z => absurd z (nI_pos ?_), fun z => by cases z⟩
    have := hb j rfl
    omega
theorem K147 (hT : okT T) {σ : mG} (hc : cT (σ.1 38 4) (σ.1 39) T) {i p : Nat} (hi : i < 20) (hp : p ≤ T.length) {as : List mAt} (ha : atM T σ i as) (h4 : as.length ≤ 4) (hg : ∀ a ∈ as, gA T a) (h1 : 1 ≤ nL T (p + nS T p)) : ∃ σ', RR X (d + 3) 147 [.ref 38, .int (nI i), .int (nI p)] σ (some (.int (oI ((atrS T p as).map (fun a => a.2.2 + 1)))), σ') ∧ fB i σ σ' ∧ ∀ a, atrS T p as = some a → atM T σ' i (as ++ [a]) := by
  have hl := hT.1
  have hf := nS_le p hp
  have k146 := K146 (X := X) (d := d) (σ := σ) hT hc (p := p) (by omega)
  obtain ⟨σ2, k145, f2, w2⟩ := K145 (X := X) (d := d) (σ := σ) hT hc (p := p + nS T p) (by omega)
  have hc2 := f2.cT hc
  have cl : (nI i).toNatClampNeg = i := nI_clamp (by omega)
  have hin : mi_in (nI i) 20 = true := mi_in_nI hi (by omega)
  have e32 := nS_32 (T := T) (p := p)
  have c32 : cdA T (nI p) = 32 ↔ tc T p = 32 := cdA_is hT (c := 32) (by omega) (by omega) (by omega)
  cases hm : nmS T (p + nS T p) with
  | none =>
    have e : atrS T p as = none := by
      unfold atrS
      rw [vl_no h1 hm]
      split <;> rfl
    rw [e]
    rw [hm] at k145
    refine ⟨σ2, mi_R.of rfl rfl ?_, f2.fB, fun a h => by cases h⟩
    have z : oI none < 0 := by decide
    apply R147_0 (v1 := nI (p + nS T p)) (σ1 := σ) (v2 := oI none) (σ2 := σ2) (v3 := 0) (σ3 := σ2) (v4 := 0) (σ4 := σ2) (v5 := 0) (σ5 := σ2) (v6 := 0) (σ6 := σ2)
    case c1 => exact k146
    case c2 => exact k145
    case k1 => exact fun _ => rfl
    all_goals (intros; first | assumption | contradiction)
  | some m =>
    rw [hm] at k145
    have gm := nmS_gN hm
    have gm2 := gm.2.2.1
    have hw := w2 m hm
    have z0 : ¬ oI (some m) < 0 := nI_pos (show m < 2 ^ 31 by omega)
    have k3 := K141e (X := X) (d := d + 1) (σ := σ2) hT hc2 (x := nI p) rfl
    have ev := vl_nm hm
    by_cases h32 : tc T p = 32
    · have z32 : ¬ ¬ cdA T (nI p) = 32 := fun z => z (c32.mpr h32)
      have hs0 : ¬ nS T p = 0 := fun z => e32.mp z h32
      have k4 := K141e (X := X) (d := d + 1) (σ := σ2) hT hc2 (x := nI m) rfl
      have c61 : cdA T (nI m) = 61 ↔ tc T m = 61 := cdA_is hT (c := 61) (by omega) (by omega) (by omega)
      by_cases h61 : tc T m = 61
      · have z61 : ¬ ¬ cdA T (nI m) = 61 := fun z => z (c61.mpr h61)
        have k5 := K141e (X := X) (d := d + 1) (σ := σ2) hT hc2 (nI_1 m)
        have c34 : cdA T (nI (m + 1)) = 34 ↔ tc T (m + 1) = 34 := cdA_is hT (c := 34) (by omega) (by omega) (by omega)
        by_cases h34 : tc T (m + 1) = 34
        · have z34 : ¬ ¬ cdA T (nI (m + 1)) = 34 := fun z => z (c34.mpr h34)
          have hm1 := tc_is h34 (by omega)
          by_cases h44 : as.length < 4
          · have z4 : ¬ (4 : Int32) ≤ σ2.1 59 (nI i).toNatClampNeg := by
              rw [cl, (f2.1 59 (by omega)).1, ha.1]
              exact nI_ge (b := 4) h44 (by omega)
            have hk : pkp 6 (seg T (p + nS T p) m) < 2 ^ 63 := by
              have := key_lt gm
              omega
            have k148 := K148 (X := X) (d := d + 1) (σ := σ2) (f2.atM ha) h4 hi hg hk
            rw [← hw] at k148
            have hneg := o4_neg (i := i) (b := fdA T as (pkp 6 (seg T (p + nS T p) m))) (by omega) (fun j hj => by
              have := (fdA_some hj).1
              omega)
            cases hfd : fdA T as (pkp 6 (seg T (p + nS T p) m)) with
            | some j =>
              obtain ⟨j1, j2⟩ := fdA_some hfd
              have e : atrS T p as = none := by
                unfold atrS
                rw [if_neg hs0, ev]
                split
                · rfl
                · rename_i a ha'
                  split at ha'
                  · injection ha' with ha'
                    subst ha'
                    rw [if_neg (fun z => z.2 _ (gtA_mem j1) j2)]
                  · cases ha'
              rw [e]
              rw [hfd] at k148 hneg
              refine ⟨σ2, mi_R.of rfl rfl ?_, f2.fB, fun a h => by cases h⟩
              have z6 : ¬ o4 i (some j) < 0 := fun z => by cases hneg.mp z
              apply R147_0 (v1 := nI (p + nS T p)) (σ1 := σ) (v2 := oI (some m)) (σ2 := σ2) (v3 := cdA T (nI p)) (σ3 := σ2) (v4 := cdA T (nI m)) (σ4 := σ2) (v5 := cdA T (nI (m + 1))) (σ5 := σ2) (v6 := o4 i (some j)) (σ6 := σ2)
              case c1 => exact k146
              case c2 => exact k145
              case c3 => exact fun _ => k3
              case c4 => exact fun _ _ => k4
              case c5 => exact fun _ _ _ => k5
              case c6 => exact fun _ _ _ _ _ => k148
              case k7 => exact fun _ _ _ _ _ _ => rfl
              all_goals (intros; first | assumption | contradiction)
            | none =>
              rw [hfd] at k148
              have z6 : o4 i none < 0 := show (-1 : Int32) < 0 by decide
              have hno := fdA_none hfd
              have ke := K141e (X := X) (d := d + 1) (σ := σ2) hT hc2 (x := nI (m + 2 + nV T (m + 2))) rfl
              have hev : m + 2 + nV T (m + 2) ≤ T.length := rn_le (by omega)
              have ce : cdA T (nI (m + 2 + nV T (m + 2))) = 34 ↔ tc T (m + 2 + nV T (m + 2)) = 34 := cdA_is hT (c := 34) (by omega) (by omega) (by omega)
              have e59 : (4 : Int32) * nI i + σ2.1 59 (nI i).toNatClampNeg = nI (4 * i + as.length) := by
                rw [cl, (f2.1 59 (by omega)).1, ha.1, show (4 : Int32) = nI 4 from rfl, pk_mul, nI_add]
              have hin80 : mi_in (nI (4 * i + as.length)) 80 = true := mi_in_nI (by omega) (by omega)
              by_cases hend : tc T (m + 2 + nV T (m + 2)) = 34
              · have zend := ce.mpr hend
                have e : atrS T p as = some (p + nS T p, m, m + 2 + nV T (m + 2)) := by
                  unfold atrS
                  rw [if_neg hs0, ev, if_pos ⟨h61, h34, hend⟩]
                  dsimp only
                  rw [if_pos ⟨h44, hno⟩]
                rw [e]
                refine ⟨kpM σ2 i (4 * i + as.length) (nI (m + 2)) (nI (m + 2 + nV T (m + 2))), mi_R.of rfl rfl ?_, f2.fB.tr (kpM_fB (by omega) (by omega)), fun a h => ?_⟩
                · apply R147_0 (v1 := nI (p + nS T p)) (σ1 := σ) (v2 := oI (some m)) (σ2 := σ2) (v3 := cdA T (nI p)) (σ3 := σ2) (v4 := cdA T (nI m)) (σ4 := σ2) (v5 := cdA T (nI (m + 1))) (σ5 := σ2) (v6 := o4 i none) (σ6 := σ2)
                  case c1 => exact k146
                  case c2 => exact k145
                  case c3 => exact fun _ => k3
                  case c4 => exact fun _ _ => k4
                  case c5 => exact fun _ _ _ => k5
                  case c6 => exact fun _ _ _ _ _ => k148
                  case k6 =>
                    intro _ _ _ _ _ _
                    rw [e59, show oI (some m) + 2 = nI (m + 2) from nI_2 m]
                    refine L147 hT hc2 (m + 2) (by omega) (R147_126 ke (fun _ => hin80) (fun _ => hin80) (fun _ => hin80) (fun _ => hin) (fun _ => hin) (fun _ => ?_) (fun z => absurd zend z))
                    rw [nI_clamp (show 4 * i + as.length < 2 ^ 31 by omega), cl, nI_1, show oI (some m) + 2 = nI (m + 2) from nI_2 m]
                    rfl
                  all_goals (intros; first | assumption | contradiction)
                · injection h with h
                  subst h
                  exact kpM_at (f2.atM ha) hw
              · have zend : ¬ cdA T (nI (m + 2 + nV T (m + 2))) = 34 := fun z => hend (ce.mp z)
                have e : atrS T p as = none := by
                  unfold atrS
                  rw [if_neg hs0, ev, if_neg (fun z => hend z.2.2)]
                rw [e]
                refine ⟨σ2, mi_R.of rfl rfl ?_, f2.fB, fun a h => by cases h⟩
                apply R147_0 (v1 := nI (p + nS T p)) (σ1 := σ) (v2 := oI (some m)) (σ2 := σ2) (v3 := cdA T (nI p)) (σ3 := σ2) (v4 := cdA T (nI m)) (σ4 := σ2) (v5 := cdA T (nI (m + 1))) (σ5 := σ2) (v6 := o4 i none) (σ6 := σ2)
                case c1 => exact k146
                case c2 => exact k145
                case c3 => exact fun _ => k3
                case c4 => exact fun _ _ => k4
                case c5 => exact fun _ _ _ => k5
                case c6 => exact fun _ _ _ _ _ => k148
                case k6 =>
                  intro _ _ _ _ _ _
                  rw [e59, show oI (some m) + 2 = nI (m + 2) from nI_2 m]
                  exact L147 hT hc2 (m + 2) (by omega) (R147_126 ke (fun z => absurd z zend) (fun z => absurd z zend) (fun z => absurd z zend) (fun z => absurd z zend) (fun z => absurd z zend) (fun z => absurd z zend) (fun _ => rfl))
                all_goals (intros; first | assumption | contradiction)
          · have z4 : (4 : Int32) ≤ σ2.1 59 (nI i).toNatClampNeg := by
              rw [cl, (f2.1 59 (by omega)).1, ha.1]
              exact nI_le (a := 4) (by omega) (by omega)
            have e : atrS T p as = none := by
              unfold atrS
              rw [if_neg hs0]
              split
              · rfl
              · rw [if_neg (fun z => h44 z.1)]
            rw [e]
            refine ⟨σ2, mi_R.of rfl rfl ?_, f2.fB, fun a h => by cases h⟩
            apply R147_0 (v1 := nI (p + nS T p)) (σ1 := σ) (v2 := oI (some m)) (σ2 := σ2) (v3 := cdA T (nI p)) (σ3 := σ2) (v4 := cdA T (nI m)) (σ4 := σ2) (v5 := cdA T (nI (m + 1))) (σ5 := σ2) (v6 := 0) (σ6 := σ2)
            case c1 => exact k146
            case c2 => exact k145
            case c3 => exact fun _ => k3
            case c4 => exact fun _ _ => k4
            case c5 => exact fun _ _ _ => k5
            case k5 => exact fun _ _ _ _ _ => rfl
            all_goals (intros; first | assumption | contradiction)
        · have z34 : ¬ cdA T (nI (m + 1)) = 34 := fun z => h34 (c34.mp z)
          have e : atrS T p as = none := by
            unfold atrS
            rw [if_neg hs0, ev, if_neg (fun z => h34 z.2.1)]
          rw [e]
          refine ⟨σ2, mi_R.of rfl rfl ?_, f2.fB, fun a h => by cases h⟩
          apply R147_0 (v1 := nI (p + nS T p)) (σ1 := σ) (v2 := oI (some m)) (σ2 := σ2) (v3 := cdA T (nI p)) (σ3 := σ2) (v4 := cdA T (nI m)) (σ4 := σ2) (v5 := cdA T (nI (m + 1))) (σ5 := σ2) (v6 := 0) (σ6 := σ2)
          case c1 => exact k146
          case c2 => exact k145
          case c3 => exact fun _ => k3
          case c4 => exact fun _ _ => k4
          case c5 => exact fun _ _ _ => k5
          case k4 => exact fun _ _ _ _ => rfl
          all_goals (intros; first | assumption | contradiction)
      · have z61 : ¬ cdA T (nI m) = 61 := fun z => h61 (c61.mp z)
        have e : atrS T p as = none := by
          unfold atrS
          rw [if_neg hs0, ev, if_neg (fun z => h61 z.1)]
        rw [e]
        refine ⟨σ2, mi_R.of rfl rfl ?_, f2.fB, fun a h => by cases h⟩
        apply R147_0 (v1 := nI (p + nS T p)) (σ1 := σ) (v2 := oI (some m)) (σ2 := σ2) (v3 := cdA T (nI p)) (σ3 := σ2) (v4 := cdA T (nI m)) (σ4 := σ2) (v5 := 0) (σ5 := σ2) (v6 := 0) (σ6 := σ2)
        case c1 => exact k146
        case c2 => exact k145
        case c3 => exact fun _ => k3
        case c4 => exact fun _ _ => k4
        case k3 => exact fun _ _ _ => rfl
        all_goals (intros; first | assumption | contradiction)
    · have z32 : ¬ cdA T (nI p) = 32 := fun z => h32 (c32.mp z)
      have e : atrS T p as = none := by
        unfold atrS
        rw [if_pos (e32.mpr h32)]
      rw [e]
      refine ⟨σ2, mi_R.of rfl rfl ?_, f2.fB, fun a h => by cases h⟩
      apply R147_0 (v1 := nI (p + nS T p)) (σ1 := σ) (v2 := oI (some m)) (σ2 := σ2) (v3 := cdA T (nI p)) (σ3 := σ2) (v4 := 0) (σ4 := σ2) (v5 := 0) (σ5 := σ2) (v6 := 0) (σ6 := σ2)
      case c1 => exact k146
      case c2 => exact k145
      case c3 => exact fun _ => k3
      case k2 => exact fun _ _ => rfl
      all_goals (intros; first | assumption | contradiction)
/-- only the reading's rows of element n differ -/
def fD (n : Nat) (σ σ' : mG) : Prop := (∀ c, c ≠ 38 → c < 55 ∨ 62 < c → σ'.1 c = σ.1 c ∧ σ'.2 c = σ.2 c) ∧ (∀ k, k ≠ 35 → σ'.1 38 k = σ.1 38 k) ∧ (∀ c, 55 ≤ c → c ≤ 59 → ∀ k, k ≠ n → σ'.1 c k = σ.1 c k) ∧ ∀ k, k < 4 * n ∨ 4 * n + 4 ≤ k → σ'.2 60 k = σ.2 60 k ∧ σ'.1 61 k = σ.1 61 k ∧ σ'.1 62 k = σ.1 62 k
theorem fD.rfl' {n : Nat} {σ : mG} : fD n σ σ := ⟨fun _ _ _ => ⟨rfl, rfl⟩, fun _ _ => rfl, fun _ _ _ _ _ => rfl, fun _ _ => ⟨rfl, rfl, rfl⟩⟩
theorem fB.fD {n : Nat} {σ σ' : mG} (h : fB n σ σ') : fD n σ σ' := by
  refine ⟨fun c h1 h2 => h.1 c h1 (by omega), h.2.1, fun c h1 h2 k hk => ?_, h.2.2.2⟩
  by_cases hz : c = 59
  · subst hz
    exact h.2.2.1 k hk
  · rw [(h.1 c (by omega) (by omega)).1]
theorem fD.tr {n : Nat} {σ σ1 σ2 : mG} (h : fD n σ σ1) (g : fD n σ1 σ2) : fD n σ σ2 :=
  ⟨fun c h1 h2 => ⟨(g.1 c h1 h2).1.trans (h.1 c h1 h2).1, (g.1 c h1 h2).2.trans (h.1 c h1 h2).2⟩, fun k hk => (g.2.1 k hk).trans (h.2.1 k hk), fun c h1 h2 k hk => (g.2.2.1 c h1 h2 k hk).trans (h.2.2.1 c h1 h2 k hk), fun k hk => ⟨(g.2.2.2 k hk).1.trans (h.2.2.2 k hk).1, (g.2.2.2 k hk).2.1.trans (h.2.2.2 k hk).2.1, (g.2.2.2 k hk).2.2.trans (h.2.2.2 k hk).2.2⟩⟩
/-- the end of a tag -/
def tdM (σ : mG) (n : Nat) (b : Bool) (x : Int32) : mG := (mi_uc (mi_uc (mi_uc (mi_uc σ.1 58 (upd (σ.1 58) n (bI b))) 55 (upd (σ.1 55) n x)) 56 (upd (σ.1 56) n x)) 57 (upd (σ.1 57) n x), σ.2)
theorem tdM_fD {σ : mG} {n : Nat} {b : Bool} {x : Int32} : fD n σ (tdM σ n b x) := by
  refine ⟨fun c h1 h2 => ⟨?_, rfl⟩, fun _ _ => rfl, fun c h1 h2 k hk => ?_, fun _ _ => ⟨rfl, rfl, rfl⟩⟩
  · show mi_uc (mi_uc (mi_uc (mi_uc σ.1 58 _) 55 _) 56 _) 57 _ c = _
    rw [mi_uc_ne _ _ (by omega), mi_uc_ne _ _ (by omega), mi_uc_ne _ _ (by omega), mi_uc_ne _ _ (by omega)]
  · rcases (show c = 55 ∨ c = 56 ∨ c = 57 ∨ c = 58 ∨ c = 59 by omega) with rfl | rfl | rfl | rfl | rfl
    · exact mi_upd_ne _ _ hk
    · exact mi_upd_ne _ _ hk
    · exact mi_upd_ne _ _ hk
    · exact mi_upd_ne _ _ hk
    · rfl
theorem nar2 (b : Bool) : mi_nar 2 (bI b) = bI b := by
  cases b <;> decide +kernel
/-- from the attributes' end on -/
theorem T149 (hT : okT T) {σ : mG} (hc : cT (σ.1 38 4) (σ.1 39) T) {n q m : Nat} (hn : n < 20) (hq : q ≤ T.length) (hL : nL T q = 0) (as L : List mAt) {x1 x2 : Int32} {x3 : Int32} : ∃ σ', TT X (d + 3) tb149 (some .int) (85, [some (.ref 38), some (.int x1), some (.int x2), some (.int x3), some (.int (nI n)), some (.int (nI q))], [], σ) (some (.int (oI ((tgE T m (as, L, q)).map (fun t => t.2.2.2.1)))), σ') ∧ fD n σ σ' ∧ (∀ as', atM T σ n as' → atM T σ' n as') ∧ ∀ t, tgE T m (as, L, q) = some t → σ'.1 55 n = nI t.2.2.2.1 ∧ σ'.1 56 n = nI t.2.2.2.1 ∧ σ'.1 57 n = nI t.2.2.2.1 ∧ σ'.1 58 n = bI t.2.2.2.2 := by
  have hl := hT.1
  have k1 := K141e (X := X) (d := d + 2) (σ := σ) hT hc (x := nI q) rfl
  have k2 := K144 (X := X) (d := d + 2) (σ := σ) hT (p := q) (by omega)
  rw [nL_0.mp hL] at k2
  have c47 : cdA T (nI q) = 47 ↔ tc T q = 47 := cdA_is hT (c := 47) (by omega) (by omega) (by omega)
  have c62 : cdA T (nI q) = 62 ↔ tc T q = 62 := cdA_is hT (c := 62) (by omega) (by omega) (by omega)
  have c62' : cdA T (nI (q + 1)) = 62 ↔ tc T (q + 1) = 62 := cdA_is hT (c := 62) (by omega) (by omega) (by omega)
  have hin : mi_in (nI n) 20 = true := mi_in_nI hn (by omega)
  have cl : (nI n).toNatClampNeg = n := nI_clamp (by omega)
  have b0 : bI false = 0 := rfl
  have n0 : mi_nar 2 (0 : Int32) = bI false := nar2 false
  have n1 : mi_nar 2 (1 : Int32) = bI true := nar2 true
  by_cases h47 : tc T q = 47
  · have z47 : ¬ ¬ cdA T (nI q) = 47 := fun z => z (c47.mpr h47)
    refine ⟨tdM σ n true (nI (q + 2)), ?_, tdM_fD, fun as' h => h, fun t ht => ?_⟩
    · apply R149_85 (v1 := cdA T (nI q)) (σ1 := σ) (v2 := bI false) (σ2 := σ) (v3 := cdA T (nI q)) (σ3 := σ) (v4 := 0) (σ4 := σ) (v5 := 0) (σ5 := σ)
      case c1 => exact k1
      case c2 => exact k2
      case c3 => exact fun _ => k1
      case k2 =>
        intro _ _
        have e1 : upd (σ.1 58) (nI n).toNatClampNeg (mi_nar 2 (1 : Int32)) (nI n).toNatClampNeg = 1 := by rw [mi_upd_same]; exact n1
        refine R149_145 hin hin (fun z => absurd (e1.symm.trans z) (by decide)) (fun _ => ?_)
        have k3 := K141e (X := X) (d := d + 2) (σ := tdM σ n true (nI (q + 2))) hT hc (x := nI (q + 1)) rfl
        rw [nI_1, cl, n1]
        refine R149_163 hin hin hin (v1 := cdA T (nI (q + 1))) (σ1 := tdM σ n true (nI (q + 2))) ?_ (fun z => ?_) (fun z => ?_)
        · rw [nI_1, cl]
          exact k3
        · unfold tgE
          rw [if_neg (fun y => z (c62'.mpr y.2)), if_neg (fun y => by dsimp only at y; omega)]
          rfl
        · unfold tgE
          rw [if_pos ⟨h47, c62'.mp (Classical.not_not.mp z)⟩, nI_1]
          rfl
      all_goals (intros; first | assumption | contradiction)
    · unfold tgE at ht
      split at ht
      · injection ht with ht
        subst ht
        exact ⟨mi_upd_same _ _ _, mi_upd_same _ _ _, mi_upd_same _ _ _, mi_upd_same _ _ _⟩
      · rw [if_neg (fun y => by dsimp only at y; omega)] at ht
        cases ht
  · have z47 : ¬ cdA T (nI q) = 47 := fun z => h47 (c47.mp z)
    refine ⟨tdM σ n false (nI (q + 1)), ?_, tdM_fD, fun as' h => h, fun t ht => ?_⟩
    · apply R149_85 (v1 := cdA T (nI q)) (σ1 := σ) (v2 := bI false) (σ2 := σ) (v3 := cdA T (nI q)) (σ3 := σ) (v4 := 0) (σ4 := σ) (v5 := 0) (σ5 := σ)
      case c1 => exact k1
      case c2 => exact k2
      case c3 => exact fun _ => k1
      case k1 =>
        intro _ _
        have e1 : upd (σ.1 58) (nI n).toNatClampNeg (mi_nar 2 (0 : Int32)) (nI n).toNatClampNeg = 0 := by rw [mi_upd_same]; exact n0
        refine R149_145 hin hin (fun _ => ?_) (fun z => absurd e1 z)
        have k3 := K141e (X := X) (d := d + 2) (σ := tdM σ n false (nI (q + 1))) hT hc (x := nI q) rfl
        rw [cl, n0]
        refine R149_163 hin hin hin (v1 := cdA T (nI q)) (σ1 := tdM σ n false (nI (q + 1))) ?_ (fun z => ?_) (fun z => ?_)
        · rw [nI_1, cl]
          exact k3
        · unfold tgE
          rw [if_neg (fun y => h47 y.1), if_neg (fun y => z (c62.mpr y))]
          rfl
        · unfold tgE
          rw [if_neg (fun y => h47 y.1), if_pos (c62.mp (Classical.not_not.mp z)), nI_1]
          rfl
      all_goals (intros; first | assumption | contradiction)
    · unfold tgE at ht
      rw [if_neg (fun y => h47 y.1)] at ht
      split at ht
      · injection ht with ht
        subst ht
        exact ⟨mi_upd_same _ _ _, mi_upd_same _ _ _, mi_upd_same _ _ _, mi_upd_same _ _ _⟩
      · cases ht
def tgB (T : List Nat) (m : Nat) : Option (List mAt × List mAt × Nat) → Option mTg
  | none => none
  | some y => tgE T m y
theorem L149 (hT : okT T) {n m : Nat} (hn : n < 20) {x1 x2 : Int32} : ∀ (k q : Nat) (as L : List mAt) (σ : mG), k + as.length = 4 → q ≤ T.length → (∀ a ∈ as, gA T a) → SL T as L → cT (σ.1 38 4) (σ.1 39) T → atM T σ n as → ∃ σ', TT X (d + 3) tb149 (some .int) (85, [some (.ref 38), some (.int x1), some (.int x2), some (.int (nI q)), some (.int (nI n)), some (.int (nI (q + nS T q)))], [], σ) (some (.int (oI ((tgB T m (atS T (k + 1) q as L)).map (fun t => t.2.2.2.1)))), σ') ∧ fD n σ σ' ∧ ∀ y, atS T (k + 1) q as L = some y → ∀ t, tgE T m y = some t → atM T σ' n y.1 ∧ σ'.1 55 n = nI t.2.2.2.1 ∧ σ'.1 56 n = nI t.2.2.2.1 ∧ σ'.1 57 n = nI t.2.2.2.1 ∧ σ'.1 58 n = bI t.2.2.2.2 := by
  have hl := hT.1
  intro k
  induction k with
  | zero =>
    intro q as L σ hk hq hg hs hc ha
    have hq2 := nS_le q hq
    by_cases hL : nL T (q + nS T q) = 0
    · obtain ⟨σ', t1, t2, t3, t4⟩ := T149 (X := X) (d := d) (m := m) hT hc hn hq2 hL as L (x1 := x1) (x2 := x2) (x3 := nI q)
      rw [atS_end (Or.inr hL)]
      refine ⟨σ', t1, t2, fun y hy t ht => ?_⟩
      injection hy with hy
      subst hy
      exact ⟨t3 as ha, t4 t ht⟩
    · have k1 := K141e (X := X) (d := d + 2) (σ := σ) hT hc (x := nI (q + nS T q)) rfl
      have k2 := K144 (X := X) (d := d + 2) (σ := σ) hT (p := q + nS T q) (by omega)
      have hb : isL (tc T (q + nS T q)) = true := by
        cases hb : isL (tc T (q + nS T q))
        · exact absurd (nL_0.mpr hb) hL
        · rfl
      rw [hb] at k2
      obtain ⟨σ4, w1, w2, w3⟩ := K147 (X := X) (d := d) hT hc hn hq ha (by omega) hg (by omega)
      have e : atrS T q as = none := by
        unfold atrS
        split
        · rfl
        · split
          · rfl
          · rw [if_neg (fun z => by omega)]
      rw [e] at w1
      have er : tgB T m (atS T (0 + 1) q as L) = none := by
        by_cases hz : nS T q = 0
        · rw [atS_end (Or.inl hz)]
          show tgE T m (as, L, q + nS T q) = none
          have hc97 := isL_iff.mp hb
          unfold tgE
          rw [if_neg (fun y => by dsimp only at y; omega), if_neg (fun y => by dsimp only at y; omega)]
        · have hzy : ¬ (nS T q = 0 ∨ nL T (q + nS T q) = 0) := fun z => z.elim hz hL
          cases hv : vlS T (q + nS T q) with
          | none =>
            rw [atS_none hzy hv]
            rfl
          | some a =>
            rw [atS_some hzy hv, if_neg (fun z => by omega)]
            rfl
      rw [er]
      refine ⟨σ4, ?_, w2.fD, fun y hy t ht => ?_⟩
      · have b1 : ¬ bI true = 0 := by decide
        have z : ¬ (0 : Int32) ≤ oI none := by decide
        apply R149_85 (v1 := cdA T (nI (q + nS T q))) (σ1 := σ) (v2 := bI true) (σ2 := σ) (v3 := 0) (σ3 := σ) (v4 := oI none) (σ4 := σ4) (v5 := 0) (σ5 := σ)
        case c1 => exact k1
        case c2 => exact k2
        case c4 => exact fun _ => w1
        case k4 => exact fun _ _ => rfl
        all_goals (intros; first | assumption | contradiction)
      · rw [hy] at er
        rw [show tgB T m (some y) = tgE T m y from rfl, ht] at er
        cases er
  | succ k ih =>
    intro q as L σ hk hq hg hs hc ha
    have hq2 := nS_le q hq
    by_cases hL : nL T (q + nS T q) = 0
    · obtain ⟨σ', t1, t2, t3, t4⟩ := T149 (X := X) (d := d) (m := m) hT hc hn hq2 hL as L (x1 := x1) (x2 := x2) (x3 := nI q)
      rw [atS_end (Or.inr hL)]
      refine ⟨σ', t1, t2, fun y hy t ht => ?_⟩
      injection hy with hy
      subst hy
      exact ⟨t3 as ha, t4 t ht⟩
    · have k1 := K141e (X := X) (d := d + 2) (σ := σ) hT hc (x := nI (q + nS T q)) rfl
      have k2 := K144 (X := X) (d := d + 2) (σ := σ) hT (p := q + nS T q) (by omega)
      have hb : isL (tc T (q + nS T q)) = true := by
        cases hb : isL (tc T (q + nS T q))
        · exact absurd (nL_0.mpr hb) hL
        · rfl
      rw [hb] at k2
      have b1 : ¬ bI true = 0 := by decide
      obtain ⟨σ4, w1, w2, w3⟩ := K147 (X := X) (d := d) hT hc hn hq ha (by omega) hg (by omega)
      cases he : atrS T q as with
      | none =>
        rw [he] at w1
        have er : tgB T m (atS T (k + 1 + 1) q as L) = none := by
          by_cases hz : nS T q = 0
          · rw [atS_end (Or.inl hz)]
            show tgE T m (as, L, q + nS T q) = none
            have hc97 := isL_iff.mp hb
            unfold tgE
            rw [if_neg (fun y => by dsimp only at y; omega), if_neg (fun y => by dsimp only at y; omega)]
          · have hzy : ¬ (nS T q = 0 ∨ nL T (q + nS T q) = 0) := fun z => z.elim hz hL
            unfold atrS at he
            rw [if_neg hz] at he
            cases hv : vlS T (q + nS T q) with
            | none =>
              rw [atS_none hzy hv]
              rfl
            | some a =>
              rw [hv] at he
              dsimp only at he
              split at he
              · cases he
              · rename_i hno
                rw [atS_some hzy hv, if_neg hno]
                rfl
        rw [er]
        refine ⟨σ4, ?_, w2.fD, fun y hy t ht => ?_⟩
        · have z : ¬ (0 : Int32) ≤ oI none := by decide
          apply R149_85 (v1 := cdA T (nI (q + nS T q))) (σ1 := σ) (v2 := bI true) (σ2 := σ) (v3 := 0) (σ3 := σ) (v4 := oI none) (σ4 := σ4) (v5 := 0) (σ5 := σ)
          case c1 => exact k1
          case c2 => exact k2
          case c4 => exact fun _ => w1
          case k4 => exact fun _ _ => rfl
          all_goals (intros; first | assumption | contradiction)
        · rw [hy] at er
          rw [show tgB T m (some y) = tgE T m y from rfl, ht] at er
          cases er
      | some a =>
        rw [he] at w1
        have hat := w3 a he
        unfold atrS at he
        split at he
        · cases he
        · rename_i hz
          have hzy : ¬ (nS T q = 0 ∨ nL T (q + nS T q) = 0) := fun z => z.elim hz hL
          cases hv : vlS T (q + nS T q) with
          | none => rw [hv] at he; cases he
          | some a' =>
            rw [hv] at he
            dsimp only at he
            split at he
            · rename_i hno
              injection he with he
              subst he
              obtain ⟨ga, -⟩ := vlS_gA hv (by omega)
              have ge := ga.2.2
              rw [atS_some hzy hv, if_pos hno]
              obtain ⟨σ', t1, t2, t3⟩ := ih (a'.2.2 + 1) (as ++ [a']) (insA T a' L) σ4 (by rw [List.length_append, List.length_singleton]; omega) (by omega) (fun b hb => by
                rcases List.mem_append.mp hb with z | z
                · exact hg b z
                · rw [List.mem_singleton.mp z]
                  exact ga) (hs.ins hno.2) (w2.cT hc) hat
              refine ⟨σ', ?_, w2.fD.tr t2, t3⟩
              have k5 := K146 (X := X) (d := d + 1) (σ := σ4) hT (w2.cT hc) (p := a'.2.2 + 1) (by omega)
              have z : (0 : Int32) ≤ nI (a'.2.2 + 1) := nI_pos' (by omega)
              apply R149_85 (v1 := cdA T (nI (q + nS T q))) (σ1 := σ) (v2 := bI true) (σ2 := σ) (v3 := 0) (σ3 := σ) (v4 := nI (a'.2.2 + 1)) (σ4 := σ4) (v5 := nI (a'.2.2 + 1 + nS T (a'.2.2 + 1))) (σ5 := σ4)
              case c1 => exact k1
              case c2 => exact k2
              case c4 => exact fun _ => w1
              case c5 => exact fun _ _ => k5
              case k3 => exact fun _ _ => t1
              all_goals (intros; first | assumption | contradiction)
            · cases he
end MT
