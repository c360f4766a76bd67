/-! The reference's read; elements is proved. -/
section ME
variable {X : Nat × (Nat → Int32)} {d : Nat} {T : List Nat}
theorem gS_A {s : mPS} (g : gS T s) : ∀ i, i < s.1 → (eAs (s.2.1 i)).length ≤ 4 := fun i hi => (g.2.1 i hi).2.2.2.1
theorem L153 (hT : okT T) : ∀ (f : Nat) (s : mPS) (σ : mG) (i : Nat) (u4 u5 : Option Value), i + f = 400 → i + 1 ≤ s.2.2.2.2 → gS T s → cT (σ.1 38 4) (σ.1 39) T → rpM T σ s.1 s.2.1 → ∃ σ', TT X (d + 4) tb153 (some .int) (69, [some (.ref 38), some (.int (oI s.2.2.1)), some (.int (nI s.2.2.2.2)), some (.int (nI i)), u4, u5], [], σ) (some (.int (rI (reS T (runS T f s)))), σ') ∧ fM σ σ' ∧ ∀ y, reS T (runS T f s) = some y → rpM T σ' y.1 y.2 := by
  have hl := hT.1
  intro f
  induction f with
  | zero =>
    intro s σ i u4 u5 hi hp g hc hr
    have := g.2.2.2.2.2.1
    omega
  | succ f ih =>
    intro s σ i u4 u5 hi hp g hc hr
    have hA := gS_A g
    obtain ⟨n, E, o, dd, p⟩ := s
    dsimp only at hp hr hA ⊢
    have g6 : p ≤ T.length := g.2.2.2.2.2.1
    have g1 : n ≤ 20 := g.1
    have z500 : ¬ (500 : Int32) ≤ nI i := nI_ge (b := 500) (by omega) (by omega)
    have zp : ¬ nI p ≤ 0 := nI_nle (by omega) (by omega)
    cases o with
    | none =>
      have zo : oI none < 0 := by decide
      have e0 : runS T (f + 1) (n, E, none, dd, p) = some (n, E, none, dd, p) := rfl
      rw [e0]
      by_cases hpl : p = T.length
      · have e1 : reS T (some (n, E, none, dd, p)) = some (n, E) := by
          show (if p = T.length then some (n, E) else none) = _
          rw [if_pos hpl]
        have zl : ¬ ¬ nI p = σ.1 38 4 := fun z => z (by rw [hc.1, hpl])
        rw [e1]
        refine ⟨σ, ?_, fM.rfl', fun y hy => by injection hy with hy; subst hy; exact hr⟩
        apply R153_69 (v1 := 0) (σ1 := σ) (v2 := 0) (σ2 := σ) (v3 := 0) (σ3 := σ) (v4 := 0) (σ4 := σ) (v5 := 0) (σ5 := σ) (v6 := 0) (σ6 := σ) (v7 := 0) (σ7 := σ)
        case k3 =>
          intro _ _ _
          refine R153_234 (fun z => absurd z zl) (fun _ z => absurd z zp) (fun _ _ => ?_)
          rw [hr.1]
          rfl
        all_goals (intros; first | assumption | contradiction)
      · have e1 : reS T (some (n, E, none, dd, p)) = none := by
          show (if p = T.length then some (n, E) else none) = _
          rw [if_neg hpl]
        have zl : ¬ nI p = σ.1 38 4 := by
          rw [hc.1]
          exact fun z => hpl ((nI_eq (by omega) (by omega)).mp z)
        rw [e1]
        refine ⟨σ, ?_, fM.rfl', fun y hy => by cases hy⟩
        apply R153_69 (v1 := 0) (σ1 := σ) (v2 := 0) (σ2 := σ) (v3 := 0) (σ3 := σ) (v4 := 0) (σ4 := σ) (v5 := 0) (σ5 := σ) (v6 := 0) (σ6 := σ) (v7 := 0) (σ7 := σ)
        case k3 =>
          intro _ _ _
          exact R153_234 (fun _ => rfl) (fun z => absurd zl z) (fun z => absurd zl z)
        all_goals (intros; first | assumption | contradiction)
    | some k =>
      have hk : k < n := (g.2.2.1 k rfl).1
      have zo : ¬ oI (some k) < 0 := nI_pos (show k < 2 ^ 31 by omega)
      have ck : (oI (some k)).toNatClampNeg = k := nI_clamp (show k < 2 ^ 31 by omega)
      have e0 : runS T (f + 1) (n, E, some k, dd, p) = (stp T n E k dd p).bind (runS T f) := rfl
      rw [e0]
      have k141 := K141e (X := X) (d := d + 3) (σ := σ) hT hc (x := nI p) rfl
      have k141' := K141e (X := X) (d := d + 3) (σ := σ) hT hc (nI_1 p)
      have c60 : cdA T (nI p) = 60 ↔ tc T p = 60 := cdA_is hT (c := 60) (by omega) (by omega) (by omega)
      have c33 : cdA T (nI (p + 1)) = 33 ↔ tc T (p + 1) = 33 := cdA_is hT (c := 33) (by omega) (by omega) (by omega)
      have c47 : cdA T (nI (p + 1)) = 47 ↔ tc T (p + 1) = 47 := cdA_is hT (c := 47) (by omega) (by omega) (by omega)
      have rest : ∀ (σ1 : mG) (x1 : Int32) (u4 u5 : Option Value) (R : Option mPS), stp T n E k dd p = R → fM σ σ1 → (∀ s, R = some s → rpM T σ1 s.1 s.2.1 ∧ x1 = oI s.2.2.1) → ∃ σ', TT X (d + 4) tb153 (some .int) (69, [some (.ref 38), some (.int x1), some (.int (oI (R.map (fun s => s.2.2.2.2)))), some (.int (nI i + 1)), u4, u5], [], σ1) (some (.int (rI (reS T ((stp T n E k dd p).bind (runS T f))))), σ') ∧ fM σ σ' ∧ ∀ y, reS T ((stp T n E k dd p).bind (runS T f)) = some y → rpM T σ' y.1 y.2 := by
        intro σ1 x1 u4 u5 R hR hf hst
        rw [hR]
        cases R with
        | none => exact ⟨σ1, L153f hT (hf.cT hc) _ _ _ _, hf, fun y hy => by cases hy⟩
        | some s =>
          obtain ⟨gs, hlt⟩ := stp_gS hR g
          obtain ⟨h1, h2⟩ := hst s rfl
          obtain ⟨σ', t1, t2, t3⟩ := ih s σ1 (i + 1) u4 u5 (by omega) (by omega) gs (hf.cT hc) h1
          rw [← nI_1, ← h2] at t1
          exact ⟨σ', t1, hf.tr t2, t3⟩
      by_cases h60 : tc T p = 60
      · have z60 : cdA T (nI p) = 60 := c60.mpr h60
        by_cases h33 : tc T (p + 1) = 33
        · have z33 : ¬ ¬ cdA T (nI (p + 1)) = 33 := fun z => z (c33.mpr h33)
          have k150 := K150 (X := X) (d := d + 1) (σ := σ) hT hc (p := p) (by omega)
          have e1 : stp T n E k dd p = (cmS T p).map (fun q => (n, E, some k, dd, q)) := by
            unfold stp
            rw [if_pos h60, if_pos h33]
          obtain ⟨σ', t1, t2, t3⟩ := rest σ (oI (some k)) u4 u5 _ e1 fM.rfl' (fun s hs => by
            cases hq : cmS T p with
            | none => rw [hq] at hs; cases hs
            | some q =>
              rw [hq] at hs
              injection hs with hs
              subst hs
              exact ⟨hr, rfl⟩)
          refine ⟨σ', ?_, t2, t3⟩
          have e2 : oI (((cmS T p).map (fun q => ((n, E, some k, dd, q) : mPS))).map (fun s => s.2.2.2.2)) = oI (cmS T p) := by
            cases cmS T p <;> rfl
          rw [e2] at t1
          apply R153_69 (v1 := cdA T (nI p)) (σ1 := σ) (v2 := cdA T (nI (p + 1))) (σ2 := σ) (v3 := 0) (σ3 := σ) (v4 := 0) (σ4 := σ) (v5 := 0) (σ5 := σ) (v6 := 0) (σ6 := σ) (v7 := oI (cmS T p)) (σ7 := σ)
          case c1 => exact fun _ _ _ => k141
          case c2 => exact fun _ _ _ _ => k141'
          case c7 => exact fun _ _ _ _ _ => k150
          case k7 => exact fun _ _ _ _ _ => R153_228 t1
          all_goals (intros; first | assumption | contradiction)
        · have z33 : ¬ cdA T (nI (p + 1)) = 33 := fun z => h33 (c33.mp z)
          by_cases h47 : tc T (p + 1) = 47
          · have z47 : ¬ ¬ cdA T (nI (p + 1)) = 47 := fun z => z (c47.mpr h47)
            have e1 : stp T n E k dd p = clS T n E k dd p := by
              unfold stp
              rw [if_pos h60, if_neg h33, if_pos h47]
            obtain ⟨σ1, w1, w2, w5, w3⟩ := K151 (X := X) (d := d + 1) (dd := dd) hT hc hr g1 hk g6 (g.2.1 k hk).1 hA
            have e53 : σ1.1 53 (oI (some k)).toNatClampNeg = oI (ePar (E k)) := by
              rw [ck, w5]
              exact (hr.2 k hk).2.1
            obtain ⟨σ', t1, t2, t3⟩ := rest σ1 (oI (ePar (E k))) u4 u5 _ e1 w2 (fun s hs => ⟨w3 s hs, by
              unfold clS at hs
              split at hs
              · cases hs
              · split at hs
                · injection hs with hs
                  subst hs
                  rfl
                · cases hs⟩)
            refine ⟨σ', ?_, t2, t3⟩
            have hin : mi_in (oI (some k)) 20 = true := mi_in_nI (show k < 20 by omega) (by omega)
            apply R153_69 (v1 := cdA T (nI p)) (σ1 := σ) (v2 := cdA T (nI (p + 1))) (σ2 := σ) (v3 := cdA T (nI (p + 1))) (σ3 := σ) (v4 := 0) (σ4 := σ) (v5 := 0) (σ5 := σ) (v6 := oI ((clS T n E k dd p).map (fun s => s.2.2.2.2))) (σ6 := σ1) (v7 := 0) (σ7 := σ)
            case c1 => exact fun _ _ _ => k141
            case c2 => exact fun _ _ _ _ => k141'
            case c3 => exact fun _ _ _ _ _ => k141'
            case c6 => exact fun _ _ _ _ _ _ => w1
            case k6 =>
              intro _ _ _ _ _ _
              rw [e53]
              exact R153_228 t1
            all_goals (intros; first | assumption | contradiction)
          · have z47 : ¬ cdA T (nI (p + 1)) = 47 := fun z => h47 (c47.mp z)
            have e1 : stp T n E k dd p = tnS T n E (some k) dd p := by
              unfold stp
              rw [if_pos h60, if_neg h33, if_neg h47]
            obtain ⟨σ1, w1, w2, w3, w4, w5⟩ := K149 (X := X) (d := d) (o := some k) hT hc hr g1 g6 h60 hA
            have hparE : ∀ j, j < n → σ1.1 53 j = oI (ePar (E j)) := fun j hj => (w3 j hj).2.1
            have hltE : ∀ j, j < n → ∀ j', ePar (E j) = some j' → j' < j := fun j hj => (g.2.1 j hj).2.2.2.2.1
            cases ht : tgM T n p with
            | none =>
              rw [ht] at w1
              have e2 : tnS T n E (some k) dd p = none := by
                unfold tgM at ht
                unfold tnS
                by_cases hcc : n < 20 ∧ dd < 6
                · rw [if_pos hcc.1] at ht
                  rw [if_pos hcc, ht]
                  rfl
                · rw [if_neg hcc]
              obtain ⟨σ', t1, t2, t3⟩ := rest σ1 (oI (some k)) (some (.int (σ1.1 38 22 - 1))) (some (.int 0)) _ (e1.trans e2) w2 (fun s hs => by cases hs)
              obtain ⟨σ'', s1, s2, s3⟩ := rest σ1 (oI (some k)) (some (.int (σ1.1 38 22 - 1))) (some (.int 1)) _ (e1.trans e2) w2 (fun s hs => by cases hs)
              -- the depth is asked all the same
              have hdep : ∃ D, RR X (d + 4) 152 [.ref 38, .int (σ1.1 38 22 - 1)] σ1 (some (.int (nI D)), σ1) := by
                rcases w4 with z | ⟨z1, z2, z3⟩
                · obtain ⟨n', rfl⟩ : ∃ n', n = n' + 1 := ⟨n - 1, by omega⟩
                  obtain ⟨D, hD⟩ := dep_ex hltE n' (by omega)
                  refine ⟨D, ?_⟩
                  rw [z, nI_pred]
                  exact K152 g1 hparE hltE (by omega) hD
                · have hdE : dep (fu E n (some k, 0, 0, 0, 0, 0, false, [], [])) (dd + 1) (some n) := by
                    refine ⟨n, rfl, ?_⟩
                    rw [fu_s]
                    exact dep_ext g.2.1 (fun j hj => by rw [fu_n (show j ≠ n from Nat.ne_of_lt hj)]) dd (some k) (fun j hj => by injection hj with hj; subst hj; exact hk) g.2.2.2.1
                  refine ⟨dd + 1, ?_⟩
                  rw [z2, nI_pred]
                  refine K152 (n := n + 1) (by omega) (fun j hj => ?_) (fun j hj j' hj' => ?_) (by omega) hdE
                  · by_cases hz : j = n
                    · subst hz
                      rw [fu_s]
                      exact z3
                    · rw [fu_n hz]
                      exact hparE j (by omega)
                  · by_cases hz : j = n
                    · subst hz
                      rw [fu_s] at hj'
                      have hj' : some k = some j' := hj'
                      injection hj' with hj'
                      omega
                    · rw [fu_n hz] at hj'
                      exact hltE j (by omega) j' hj'
              obtain ⟨D, hD⟩ := hdep
              have zm : oI none ≤ 0 := by decide
              by_cases hD6 : nI D ≤ 6
              · refine ⟨σ', ?_, t2, t3⟩
                apply R153_69 (v1 := cdA T (nI p)) (σ1 := σ) (v2 := cdA T (nI (p + 1))) (σ2 := σ) (v3 := cdA T (nI (p + 1))) (σ3 := σ) (v4 := oI none) (σ4 := σ1) (v5 := nI D) (σ5 := σ1) (v6 := 0) (σ6 := σ) (v7 := 0) (σ7 := σ)
                case c1 => exact fun _ _ _ => k141
                case c2 => exact fun _ _ _ _ => k141'
                case c3 => exact fun _ _ _ _ _ => k141'
                case c4 => exact fun _ _ _ _ _ _ => w1
                case c5 => exact fun _ _ _ _ _ _ => hD
                case k4 =>
                  intro _ _ _ _ _ _ _
                  exact R153_194 (fun _ => R153_215 (R153_216 (fun _ => R153_227 (R153_228 t1)) (fun z => absurd (show (0 : Int32) = 0 from rfl) z))) (fun z => absurd zm z) (fun z => absurd zm z) (fun z => absurd zm z)
                all_goals (intros; first | assumption | contradiction)
              · refine ⟨σ'', ?_, s2, s3⟩
                apply R153_69 (v1 := cdA T (nI p)) (σ1 := σ) (v2 := cdA T (nI (p + 1))) (σ2 := σ) (v3 := cdA T (nI (p + 1))) (σ3 := σ) (v4 := oI none) (σ4 := σ1) (v5 := nI D) (σ5 := σ1) (v6 := 0) (σ6 := σ) (v7 := 0) (σ7 := σ)
                case c1 => exact fun _ _ _ => k141
                case c2 => exact fun _ _ _ _ => k141'
                case c3 => exact fun _ _ _ _ _ => k141'
                case c4 => exact fun _ _ _ _ _ _ => w1
                case c5 => exact fun _ _ _ _ _ _ => hD
                case k5 =>
                  intro _ _ _ _ _ _ _
                  exact R153_194 (fun _ => R153_215 (R153_216 (fun z => absurd z (by decide)) (fun _ => R153_227 (R153_228 s1)))) (fun z => absurd zm z) (fun z => absurd zm z) (fun z => absurd zm z)
                all_goals (intros; first | assumption | contradiction)
            | some t =>
              rw [ht] at w1
              have hn20 : n < 20 := by
                unfold tgM at ht
                split at ht
                · assumption
                · cases ht
              have htS : tgS T p = some t := by
                unfold tgM at ht
                rw [if_pos hn20] at ht
                exact ht
              obtain ⟨-, -, -, -, -, q6, q7, -⟩ := tgS_ok htS
              obtain ⟨v1, v2⟩ := w5 t ht
              have hrn : rpM T σ1 (n + 1) (fu E n (nwE (some k) p t)) := ⟨v1, fun j hj => by
                by_cases hz : j = n
                · subst hz
                  rw [fu_s]
                  exact v2
                · rw [fu_n hz]
                  exact w3 j (by omega)⟩
              have hdE : dep (fu E n (nwE (some k) p t)) (dd + 1) (some n) := by
                refine ⟨n, rfl, ?_⟩
                rw [fu_s]
                exact dep_ext g.2.1 (fun j hj => by rw [fu_n (show j ≠ n from Nat.ne_of_lt hj)]) dd (some k) (fun j hj => by injection hj with hj; subst hj; exact hk) g.2.2.2.1
              have k152 : RR X (d + 4) 152 [.ref 38, .int (σ1.1 38 22 - 1)] σ1 (some (.int (nI (dd + 1))), σ1) := by
                rw [v1, nI_pred]
                refine K152 (n := n + 1) (by omega) (fun j hj => (hrn.2 j hj).2.1) (fun j hj j' hj' => ?_) (by omega) hdE
                by_cases hz : j = n
                · subst hz
                  rw [fu_s] at hj'
                  have hj' : some k = some j' := hj'
                  injection hj' with hj'
                  omega
                · rw [fu_n hz] at hj'
                  exact hltE j (by omega) j' hj'
              have g5 : dd ≤ 6 := g.2.2.2.2.1
              have zq : ¬ nI t.2.2.2.1 ≤ 0 := nI_nle (by omega) (by omega)
              have x4e : σ1.1 38 22 - 1 = nI n := by rw [v1, nI_pred]
              have hin4 : mi_in (σ1.1 38 22 - 1) 20 = true := by rw [x4e]; exact mi_in_nI hn20 (by omega)
              have e58 : σ1.1 58 (σ1.1 38 22 - 1).toNatClampNeg = bI t.2.2.2.2 := by
                rw [x4e, nI_clamp (by omega)]
                exact v2.2.2.2.2.2.2.1
              by_cases hd6 : dd < 6
              · have zD : nI (dd + 1) ≤ 6 := nI_le (b := 6) (by omega) (by omega)
                have e2 : tnS T n E (some k) dd p = some (nwS n E (some k) dd p t) := by
                  unfold tnS
                  rw [if_pos ⟨hn20, hd6⟩, htS]
                  rfl
                obtain ⟨σ', t1, t2, t3⟩ := rest σ1 (oI (nwS n E (some k) dd p t).2.2.1) (some (.int (σ1.1 38 22 - 1))) (some (.int 0)) _ (e1.trans e2) w2 (fun s hs => by
                  injection hs with hs
                  subst hs
                  exact ⟨hrn, rfl⟩)
                refine ⟨σ', ?_, t2, t3⟩
                apply R153_69 (v1 := cdA T (nI p)) (σ1 := σ) (v2 := cdA T (nI (p + 1))) (σ2 := σ) (v3 := cdA T (nI (p + 1))) (σ3 := σ) (v4 := nI t.2.2.2.1) (σ4 := σ1) (v5 := nI (dd + 1)) (σ5 := σ1) (v6 := 0) (σ6 := σ) (v7 := 0) (σ7 := σ)
                case c1 => exact fun _ _ _ => k141
                case c2 => exact fun _ _ _ _ => k141'
                case c3 => exact fun _ _ _ _ _ => k141'
                case c4 => exact fun _ _ _ _ _ _ => w1
                case c5 => exact fun _ _ _ _ _ _ => k152
                case k4 =>
                  intro _ _ _ _ _ _ _
                  have fin : ∀ x, x = oI (nwS n E (some k) dd p t).2.2.1 → TT X (d + 4) tb153 (some .int) (216, [some (.ref 38), some (.int (oI (some k))), some (.int (nI t.2.2.2.1)), some (.int (nI i)), some (.int (σ1.1 38 22 - 1)), some (.int 0)], [.int x], σ1) (some (.int (rI (reS T ((stp T n E k dd p).bind (runS T f))))), σ') := by
                    intro x hx
                    rw [hx]
                    exact R153_216 (fun _ => R153_227 (R153_228 t1)) (fun z => absurd (show (0 : Int32) = 0 from rfl) z)
                  refine R153_194 (fun z => absurd z zq) (fun _ => hin4) (fun _ z => R153_215 (fin _ ?_)) (fun _ z => fin _ ?_)
                  · rw [e58] at z
                    have : t.2.2.2.2 = true := by
                      cases hb : t.2.2.2.2
                      · rw [hb] at z
                        exact absurd rfl z
                      · rfl
                    show _ = oI (bif t.2.2.2.2 then some k else some n)
                    rw [this]
                    rfl
                  · rw [e58] at z
                    have : t.2.2.2.2 = false := bI_0.mp (Classical.not_not.mp z)
                    show _ = oI (bif t.2.2.2.2 then some k else some n)
                    rw [this, x4e]
                    rfl
                all_goals (intros; first | assumption | contradiction)
              · have zD : ¬ nI (dd + 1) ≤ 6 := nI_ge (a := 6) (by omega) (by omega)
                have e2 : tnS T n E (some k) dd p = none := by
                  unfold tnS
                  rw [if_neg (fun z => hd6 z.2)]
                have fin : ∀ x, ∃ σ', TT X (d + 4) tb153 (some .int) (216, [some (.ref 38), some (.int (oI (some k))), some (.int (nI t.2.2.2.1)), some (.int (nI i)), some (.int (σ1.1 38 22 - 1)), some (.int 1)], [.int x], σ1) (some (.int (rI (reS T ((stp T n E k dd p).bind (runS T f))))), σ') ∧ fM σ σ' ∧ ∀ y, reS T ((stp T n E k dd p).bind (runS T f)) = some y → rpM T σ' y.1 y.2 := by
                  intro x
                  obtain ⟨σ', t1, t2, t3⟩ := rest σ1 x (some (.int (σ1.1 38 22 - 1))) (some (.int 1)) _ (e1.trans e2) w2 (fun s hs => by cases hs)
                  exact ⟨σ', R153_216 (fun z => absurd z (by decide)) (fun _ => R153_227 (R153_228 t1)), t2, t3⟩
                have : ∃ σ', TT X (d + 4) tb153 (some .int) (194, [some (.ref 38), some (.int (oI (some k))), some (.int (nI t.2.2.2.1)), some (.int (nI i)), some (.int (σ1.1 38 22 - 1)), u5], [.int 1], σ1) (some (.int (rI (reS T ((stp T n E k dd p).bind (runS T f))))), σ') ∧ fM σ σ' ∧ ∀ y, reS T ((stp T n E k dd p).bind (runS T f)) = some y → rpM T σ' y.1 y.2 := by
                  by_cases hz : σ1.1 58 (σ1.1 38 22 - 1).toNatClampNeg = 0
                  · obtain ⟨σ', t1, t2, t3⟩ := fin (σ1.1 38 22 - 1)
                    exact ⟨σ', R153_194 (fun z => absurd z zq) (fun _ => hin4) (fun _ z => absurd hz z) (fun _ _ => t1), t2, t3⟩
                  · obtain ⟨σ', t1, t2, t3⟩ := fin (oI (some k))
                    exact ⟨σ', R153_194 (fun z => absurd z zq) (fun _ => hin4) (fun _ _ => R153_215 t1) (fun _ z => absurd hz z), t2, t3⟩
                obtain ⟨σ', t1, t2, t3⟩ := this
                refine ⟨σ', ?_, t2, t3⟩
                apply R153_69 (v1 := cdA T (nI p)) (σ1 := σ) (v2 := cdA T (nI (p + 1))) (σ2 := σ) (v3 := cdA T (nI (p + 1))) (σ3 := σ) (v4 := nI t.2.2.2.1) (σ4 := σ1) (v5 := nI (dd + 1)) (σ5 := σ1) (v6 := 0) (σ6 := σ) (v7 := 0) (σ7 := σ)
                case c1 => exact fun _ _ _ => k141
                case c2 => exact fun _ _ _ _ => k141'
                case c3 => exact fun _ _ _ _ _ => k141'
                case c4 => exact fun _ _ _ _ _ _ => w1
                case c5 => exact fun _ _ _ _ _ _ => k152
                case k5 => exact fun _ _ _ _ _ _ _ => t1
                all_goals (intros; first | assumption | contradiction)
      · have z60 : ¬ cdA T (nI p) = 60 := fun z => h60 (c60.mp z)
        have e1 : stp T n E k dd p = if p < T.length then some (n, E, some k, dd, p + 1) else none := by
          unfold stp
          rw [if_neg h60]
        have hsz := szM hc hT (p := p) (by omega)
        obtain ⟨σ', t1, t2, t3⟩ := rest σ (oI (some k)) u4 u5 _ e1 fM.rfl' (fun s hs => by
          split at hs
          · injection hs with hs
            subst hs
            exact ⟨hr, rfl⟩
          · cases hs)
        refine ⟨σ', ?_, t2, t3⟩
        apply R153_69 (v1 := cdA T (nI p)) (σ1 := σ) (v2 := 0) (σ2 := σ) (v3 := 0) (σ3 := σ) (v4 := 0) (σ4 := σ) (v5 := 0) (σ5 := σ) (v6 := 0) (σ6 := σ) (v7 := 0) (σ7 := σ)
        case c1 => exact fun _ _ _ => k141
        case k8 =>
          intro _ _ _ _ z
          rw [if_neg (by have := hsz.mp z; omega)] at t1
          exact R153_109 (R153_228 t1)
        case k9 =>
          intro _ _ _ _ z
          rw [if_pos (by have := fun y => z (hsz.mpr y); exact Nat.not_le.mp this)] at t1
          refine R153_109 (R153_228 ?_)
          rw [nI_1]
          exact t1
        all_goals (intros; first | assumption | contradiction)
theorem K153 (hT : okT T) {σ : mG} (hc : cT (σ.1 38 4) (σ.1 39) T) : ∃ σ', RR X (d + 5) 153 [.ref 38] σ (some (.int (rdI T)), σ') ∧ fM σ σ' ∧ ∀ y, bnS T = false → rdS T = some y → rpM T σ' y.1 y.2 := by
  have hl := hT.1
  have f0 : fM σ (mi_uc σ.1 38 (upd (σ.1 38) 22 0), σ.2) := by
    refine ⟨fun c h1 h2 => ⟨?_, rfl⟩, fun k h1 h2 => mi_upd_ne _ _ h1⟩
    show mi_uc σ.1 38 _ c = _
    rw [mi_uc_ne _ _ h1]
  have hc0 := f0.cT hc
  have k143 := K143 (X := X) (d := d + 1) hT hc0
  unfold rdI
  cases hb : bnS T with
  | true =>
    rw [hb] at k143
    have b1 : ¬ bI true = 0 := by decide
    refine ⟨_, mi_R.of rfl rfl ?_, f0, fun y hy => by cases hy⟩
    apply R153_0 (v1 := bI true) (σ1 := (mi_uc σ.1 38 (upd (σ.1 38) 22 0), σ.2)) (v2 := 0) (σ2 := σ) (v3 := 0) (σ3 := σ) (v4 := 0) (σ4 := σ) (v5 := 0) (σ5 := σ)
    case c1 => exact k143
    case k4 => exact fun _ => rfl
    all_goals (intros; first | assumption | contradiction)
  | false =>
    rw [hb] at k143
    have b0 : bI false = 0 := rfl
    have k1 := K141e (X := X) (d := d + 3) hT hc0 (x := 0) (p := 0) rfl
    have k2 := K141e (X := X) (d := d + 3) hT hc0 (x := 1) (p := 1) rfl
    have k3 := K144 (X := X) (d := d + 3) (σ := (mi_uc σ.1 38 (upd (σ.1 38) 22 0), σ.2)) hT (p := 1) (by omega)
    have c60 : cdA T (nI 0) = 60 ↔ tc T 0 = 60 := cdA_is hT (c := 60) (by omega) (by omega) (by omega)
    have hr0 : rpM T (mi_uc σ.1 38 (upd (σ.1 38) 22 0), σ.2) 0 E0 := ⟨show upd (σ.1 38) 22 0 22 = 0 from mi_upd_same _ _ _, fun i hi => absurd hi (Nat.not_lt_zero i)⟩
    -- no first tag
    have fail : ∀ (σ1 : mG), cT (σ1.1 38 4) (σ1.1 39) T → TT X (d + 4) tb153 (some .int) (47, [some (.ref 38), some (.int (-1)), none, none, none, none], [.int (-1)], σ1) (some (.int (-2)), σ1) := by
      intro σ1 h1
      have zm : (-1 : Int32) ≤ 0 := by decide
      exact R153_47 (fun _ => R153_65 (R153_66 (L153f hT h1 _ _ _ _))) (fun z => absurd zm z) (fun z => absurd zm z) (fun z => absurd zm z)
    by_cases h60 : tc T 0 = 60
    · have z60 : ¬ ¬ cdA T (nI 0) = 60 := fun z => z (c60.mpr h60)
      cases hL : isL (tc T 1) with
      | false =>
        rw [hL] at k3
        have hs : tnS T 0 E0 none 0 0 = none := by
          have : nmS T (0 + 1) = none := by
            unfold nmS
            rw [if_neg (fun z => by have : nL T (0 + 1) = 0 := nL_0.mpr hL; omega)]
          unfold tnS tgS
          rw [if_pos h60, this]
          split <;> rfl
        rw [rdS_none hs]
        refine ⟨_, mi_R.of rfl rfl ?_, f0, fun y _ hy => by cases hy⟩
        apply R153_0 (v1 := bI false) (σ1 := (mi_uc σ.1 38 (upd (σ.1 38) 22 0), σ.2)) (v2 := cdA T (nI 0)) (σ2 := (mi_uc σ.1 38 (upd (σ.1 38) 22 0), σ.2)) (v3 := cdA T (nI 1)) (σ3 := (mi_uc σ.1 38 (upd (σ.1 38) 22 0), σ.2)) (v4 := bI false) (σ4 := (mi_uc σ.1 38 (upd (σ.1 38) 22 0), σ.2)) (v5 := 0) (σ5 := σ)
        case c1 => exact k143
        case c2 => exact fun _ => k1
        case c3 => exact fun _ _ => k2
        case c4 => exact fun _ _ => k3
        case k2 => exact fun _ _ _ => R153_46 (fail _ hc0)
        all_goals (intros; first | assumption | contradiction)
      | true =>
        rw [hL] at k3
        have b1 : ¬ bI true = 0 := by decide
        obtain ⟨σ1, w1, w2, w3, w4, w5⟩ := K149 (X := X) (d := d) (o := none) (p := 0) hT hc0 hr0 (by omega) (by omega) h60 (fun i hi => absurd hi (Nat.not_lt_zero i))
        have et : tgM T 0 0 = tgS T 0 := rfl
        rw [et] at w1
        have es : tnS T 0 E0 none 0 0 = (tgS T 0).map (nwS 0 E0 none 0 0) := by
          unfold tnS
          rw [if_pos ⟨by omega, by omega⟩]
        cases ht : tgS T 0 with
        | none =>
          rw [ht] at w1 es
          rw [rdS_none es]
          refine ⟨σ1, mi_R.of rfl rfl ?_, f0.tr w2, fun y _ hy => by cases hy⟩
          apply R153_0 (v1 := bI false) (σ1 := (mi_uc σ.1 38 (upd (σ.1 38) 22 0), σ.2)) (v2 := cdA T (nI 0)) (σ2 := (mi_uc σ.1 38 (upd (σ.1 38) 22 0), σ.2)) (v3 := cdA T (nI 1)) (σ3 := (mi_uc σ.1 38 (upd (σ.1 38) 22 0), σ.2)) (v4 := bI true) (σ4 := (mi_uc σ.1 38 (upd (σ.1 38) 22 0), σ.2)) (v5 := oI none) (σ5 := σ1)
          case c1 => exact k143
          case c2 => exact fun _ => k1
          case c3 => exact fun _ _ => k2
          case c4 => exact fun _ _ => k3
          case c5 => exact fun _ _ _ => w1
          case k3 => exact fun _ _ _ => fail _ (w2.cT hc0)
          all_goals (intros; first | assumption | contradiction)
        | some t =>
          rw [ht] at w1 es
          have es : tnS T 0 E0 none 0 0 = some (nwS 0 E0 none 0 0 t) := es
          rw [rdS_eq es]
          obtain ⟨gs, hlt⟩ := tnS_gS es (fun i hi => absurd hi (Nat.not_lt_zero i)) (fun k hk => by cases hk) rfl (fun k hk => absurd hk (Nat.not_lt_zero k))
          obtain ⟨-, -, -, -, -, q6, q7, -⟩ := tgS_ok ht
          obtain ⟨v1, v2⟩ := w5 t (et.trans ht)
          have hrn : rpM T σ1 (nwS 0 E0 none 0 0 t).1 (nwS 0 E0 none 0 0 t).2.1 := ⟨v1, fun j hj => by
            have hj : j < 1 := hj
            have : j = 0 := by omega
            subst this
            exact v2⟩
          obtain ⟨σ', t1, t2, t3⟩ := L153 (X := X) (d := d) hT 400 (nwS 0 E0 none 0 0 t) σ1 0 none none rfl (by omega) gs (w2.cT hc0) hrn
          refine ⟨σ', mi_R.of rfl rfl ?_, (f0.tr w2).tr t2, fun y _ hy => t3 y hy⟩
          have zq : ¬ nI t.2.2.2.1 ≤ 0 := nI_nle (by omega) (by omega)
          have e58 : σ1.1 58 ((0 : Int32).toNatClampNeg) = bI t.2.2.2.2 := v2.2.2.2.2.2.2.1
          apply R153_0 (v1 := bI false) (σ1 := (mi_uc σ.1 38 (upd (σ.1 38) 22 0), σ.2)) (v2 := cdA T (nI 0)) (σ2 := (mi_uc σ.1 38 (upd (σ.1 38) 22 0), σ.2)) (v3 := cdA T (nI 1)) (σ3 := (mi_uc σ.1 38 (upd (σ.1 38) 22 0), σ.2)) (v4 := bI true) (σ4 := (mi_uc σ.1 38 (upd (σ.1 38) 22 0), σ.2)) (v5 := nI t.2.2.2.1) (σ5 := σ1)
          case c1 => exact k143
          case c2 => exact fun _ => k1
          case c3 => exact fun _ _ => k2
          case c4 => exact fun _ _ => k3
          case c5 => exact fun _ _ _ => w1
          case k3 =>
            intro _ _ _
            have fin : ∀ x, x = oI (nwS 0 E0 none 0 0 t).2.2.1 → TT X (d + 4) tb153 (some .int) (66, [some (.ref 38), some (.int (-1)), some (.int (nI t.2.2.2.1)), none, none, none], [.int x], σ1) (some (.int (rI (reS T (runS T 400 (nwS 0 E0 none 0 0 t))))), σ') := by
              intro x hx
              rw [hx]
              exact R153_66 t1
            refine R153_47 (fun z => absurd z zq) (fun _ => rfl) (fun _ z => R153_65 (fin _ ?_)) (fun _ z => fin _ ?_)
            · rw [e58] at z
              have : t.2.2.2.2 = true := by
                cases hb : t.2.2.2.2
                · rw [hb] at z
                  exact absurd rfl z
                · rfl
              show _ = oI (bif t.2.2.2.2 then none else some 0)
              rw [this]
              rfl
            · rw [e58] at z
              have : t.2.2.2.2 = false := bI_0.mp (Classical.not_not.mp z)
              show _ = oI (bif t.2.2.2.2 then none else some 0)
              rw [this]
              rfl
          all_goals (intros; first | assumption | contradiction)
    · have z60 : ¬ cdA T (nI 0) = 60 := fun z => h60 (c60.mp z)
      have hs : tnS T 0 E0 none 0 0 = none := by
        unfold tnS tgS
        rw [if_neg h60]
        split <;> rfl
      rw [rdS_none hs]
      refine ⟨_, mi_R.of rfl rfl ?_, f0, fun y _ hy => by cases hy⟩
      apply R153_0 (v1 := bI false) (σ1 := (mi_uc σ.1 38 (upd (σ.1 38) 22 0), σ.2)) (v2 := cdA T (nI 0)) (σ2 := (mi_uc σ.1 38 (upd (σ.1 38) 22 0), σ.2)) (v3 := 0) (σ3 := σ) (v4 := 0) (σ4 := σ) (v5 := 0) (σ5 := σ)
      case c1 => exact k143
      case c2 => exact fun _ => k1
      case k1 => exact fun _ _ => R153_46 (fail _ hc0)
      all_goals (intros; first | assumption | contradiction)
end ME
theorem fR_qI {n : Nat} {σ σ' : mG} (f : fR σ σ') (h : qI n σ) : qI n σ' := by
  obtain ⟨f1, f2⟩ := f
  unfold qI
  rw [f1, f2 1 (by omega), f2 2 (by omega), f2 38 (by omega), f2 39 (by omega), f2 3 (by omega), f2 4 (by omega), f2 40 (by omega), f2 0 (by omega), f2 23 (by omega), f2 19 (by omega), f2 20 (by omega), f2 41 (by omega), f2 42 (by omega), f2 21 (by omega), f2 22 (by omega), f2 43 (by omega), f2 44 (by omega), f2 24 (by omega), f2 25 (by omega), f2 26 (by omega), f2 45 (by omega), f2 46 (by omega), f2 47 (by omega), f2 30 (by omega), f2 28 (by omega), f2 29 (by omega), f2 31 (by omega), f2 32 (by omega), f2 48 (by omega), f2 50 (by omega), f2 33 (by omega), f2 34 (by omega), f2 35 (by omega)]
  exact h
theorem fM_qI {n : Nat} {σ σ' : mG} (f : fM σ σ') (h : qI n σ) : qI n σ' := by
  obtain ⟨f1, f2⟩ := f
  unfold qI
  rw [(f1 49 (by omega) (by omega)).2, (f1 51 (by omega) (by omega)).2, (f1 1 (by omega) (by omega)).1, (f1 2 (by omega) (by omega)).1, f2 4 (by omega) (by omega), (f1 39 (by omega) (by omega)).1, (f1 3 (by omega) (by omega)).1, (f1 4 (by omega) (by omega)).1, f2 6 (by omega) (by omega), (f1 40 (by omega) (by omega)).1, (f1 0 (by omega) (by omega)).1, f2 2 (by omega) (by omega), f2 0 (by omega) (by omega), (f1 23 (by omega) (by omega)).1, f2 1 (by omega) (by omega), f2 21 (by omega) (by omega), (f1 19 (by omega) (by omega)).1, (f1 20 (by omega) (by omega)).1, (f1 41 (by omega) (by omega)).1, (f1 42 (by omega) (by omega)).1, (f1 21 (by omega) (by omega)).1, (f1 22 (by omega) (by omega)).1, (f1 43 (by omega) (by omega)).1, (f1 44 (by omega) (by omega)).1, (f1 24 (by omega) (by omega)).1, (f1 25 (by omega) (by omega)).1, (f1 26 (by omega) (by omega)).1, f2 11 (by omega) (by omega), (f1 45 (by omega) (by omega)).1, (f1 46 (by omega) (by omega)).1, (f1 47 (by omega) (by omega)).1, (f1 30 (by omega) (by omega)).1, (f1 28 (by omega) (by omega)).1, (f1 29 (by omega) (by omega)).1, (f1 31 (by omega) (by omega)).1, (f1 32 (by omega) (by omega)).1, f2 15 (by omega) (by omega), (f1 48 (by omega) (by omega)).1, (f1 50 (by omega) (by omega)).1, (f1 33 (by omega) (by omega)).1, (f1 34 (by omega) (by omega)).1, (f1 35 (by omega) (by omega)).1, f2 19 (by omega) (by omega)]
  exact h
theorem qelements : qO13 qI := by
  intro X n σ hn hI
  obtain ⟨⟨T, h1, h2, h3⟩, -⟩ := id hI
  obtain ⟨σ1, a1, a2, -⟩ := K78 (X := X) (d := 2) h1 h2
  have hI1 := fR_qI a2 hI
  have h3' : cT (σ1.1 38 4) (σ1.1 39) T := by
    rw [a2.2 38 (by omega), a2.2 39 (by omega)]
    exact h3
  obtain ⟨σ2, b1, b2, -⟩ := K153 (X := X) (d := 3) h1 h3'
  exact ⟨rdI T, σ1, σ2, mi_R.of rfl rfl (R22_0 a1 rfl), mi_R.of rfl rfl (R154_0 b1 rfl), qI_skip n σ2 (fM_qI b2 hI1)⟩
