/-! consume, both sides -/
theorem sA_1 {σ : mG} {m c : Nat} {y : Int64} (h : c ≠ 38) : (sA σ m y).1 c = σ.1 c := mi_uc_ne _ _ h
theorem sA_2 {σ : mG} {m c : Nat} {y : Int64} (h : c ≠ 51) : (sA σ m y).2 c = σ.2 c := mi_uc_ne _ _ h
theorem sA_51 {σ : mG} {m : Nat} {y : Int64} : (sA σ m y).2 51 = vp_updL (σ.2 51) m y := mi_uc_same σ.2 51 (vp_updL (σ.2 51) m y)
theorem sB_1 {σ : mG} {m c : Nat} {y : Int64} (h : c ≠ 38) : (sB σ m y).1 c = σ.1 c := mi_uc_ne _ _ h
theorem sB_2 {σ : mG} {m c : Nat} {y : Int64} (h : c ≠ 49) : (sB σ m y).2 c = σ.2 c := mi_uc_ne _ _ h
theorem sB_49 {σ : mG} {m : Nat} {y : Int64} : (sB σ m y).2 49 = vp_updL (σ.2 49) m y := mi_uc_same σ.2 49 (vp_updL (σ.2 49) m y)
theorem sB_15 {σ : mG} {m : Nat} {y : Int64} : (sB σ m y).1 38 15 = nI (m + 1) := mi_upd_same (σ.1 38) 15 (nI (m + 1))
theorem sB_k {σ : mG} {m k : Nat} {y : Int64} (h : k ≠ 15) : (sB σ m y).1 38 k = σ.1 38 k := mi_upd_ne (σ.1 38) (nI (m + 1)) h
theorem sA_19 {σ : mG} {m : Nat} {y : Int64} : (sA σ m y).1 38 19 = nI (m + 1) := mi_upd_same (σ.1 38) 19 (nI (m + 1))
theorem u36_2 {σ : mG} {c k : Nat} {v : Int32} : (u36 σ c k v).2 = σ.2 := rfl
theorem fc_0 {b8 b9 b10 b11 b12 b13 b14 b15 : Bool} (h : fc b8 b9 b10 b11 b12 b13 b14 b15 = 0) : b8 = false ∧ b9 = false ∧ b10 = false ∧ b11 = false ∧ b12 = false ∧ b13 = false ∧ b14 = false ∧ b15 = false := by
  revert h
  cases b8 <;> cases b9 <;> cases b10 <;> cases b11 <;> cases b12 <;> cases b13 <;> cases b14 <;> cases b15 <;> decide
theorem not_t {b : Bool} (h : (!b) = false) : b = true := by
  cases b with
  | true => rfl
  | false => cases h
theorem iReq_ans {n m r : Nat} {q : Int32} {is mk an' : Nat → Int32} {q' : Int32} {mk' gt an'' : Nat → Int32} (h : iReq n q is mk an' q' mk' gt an'') (hm : m ≤ 30) (hq : q = nI m) (hr : r < m) : iReq (n + 1) q is mk (upd an' r 1) q' mk' gt (upd an'' r 1) := by
  obtain ⟨m0, e1, e2, e3, e4, e5, e6⟩ := h
  have : m0 = m := (nI_eq (by omega) (by omega)).mp (e2.symm.trans hq)
  subst this
  refine ⟨m0, e1, e2, e3, fun i hi => ?_, fun i hi => ?_, fun i h1 h2 => ?_⟩
  · obtain ⟨k, c, a1, a2, a3⟩ := e4 i hi
    exact ⟨k, c, a1, by omega, a3⟩
  · by_cases e : i = r
    · rw [e, mi_upd_same, mi_upd_same]
      exact ⟨rfl, Or.inr rfl⟩
    · rw [mi_upd_ne _ _ e, mi_upd_ne _ _ e]
      exact e5 i hi
  · rw [mi_upd_ne _ _ (by omega)]
    exact e6 i h1 h2
theorem tk_of {a b c d : Nat → Int32} (h : iKey a b c d) : ∃ tk, trC tk a b ∧ trC tk c d := by
  refine ⟨fun k => ((a k).toNatClampNeg, (b k).toNatClampNeg), ?_⟩
  have key : ∀ k, k < 4 → ((a k).toNatClampNeg = 0 ∨ (65521 ≤ (a k).toNatClampNeg ∧ (a k).toNatClampNeg ≤ 1000000 ∧ 1 ≤ (b k).toNatClampNeg ∧ (b k).toNatClampNeg ≤ 1000000)) ∧ a k = nI (a k).toNatClampNeg ∧ ((a k).toNatClampNeg = 0 ∨ b k = nI (b k).toNatClampNeg) := by
    intro k hk
    rcases (h k hk).2.2 with z | ⟨N, D, n1, n2, n3, n4, n5, n6⟩
    · rw [z]
      exact ⟨Or.inl rfl, rfl, Or.inl rfl⟩
    · rw [n5, n6, nI_clamp (by omega), nI_clamp (by omega)]
      exact ⟨Or.inr ⟨n1, n2, n3, n4⟩, rfl, Or.inr rfl⟩
  refine ⟨⟨fun k hk => (key k hk).1, fun k hk => (key k hk).2⟩, ⟨fun k hk => (key k hk).1, fun k hk => ?_⟩⟩
  rw [(h k hk).1, (h k hk).2.1]
  exact (key k hk).2
theorem q10_eq {T : List Nat} {E : Nat → mEl} {n m k : Nat} {q : Int32} {is mk an' : Nat → Int32} {q' : Int32} {mk' gt an'' : Nat → Int32} (h : iReq n q is mk an' q' mk' gt an'') (hm : m ≤ 30) (hq : q = nI m) (life c : Int32) : q10 T E an' mk is life c m k = q10 T E an'' mk' gt life c m k := by
  obtain ⟨m0, e1, e2, e3, e4, e5, e6⟩ := h
  have : m0 = m := (nI_eq (by omega) (by omega)).mp (e2.symm.trans hq)
  subst this
  unfold q10
  cases num (vlo T E (sxo T E (some 0) wIrt)) with
  | none => rfl
  | some r =>
    rw [awB_s, awB_s]
    by_cases hr : r < m0
    · obtain ⟨k', c', -, -, a1, a2, a3, a4⟩ := e4 r hr
      have ea := (e5 r (by omega)).1
      unfold wt
      rw [ea, a1, a2, a3, a4]
    · rw [decide_eq_false hr]
      rfl
theorem q10_r {T : List Nat} {E : Nat → mEl} {an' mk gt : Nat → Int32} {life c : Int32} {m k : Nat} (h : q10 T E an' mk gt life c m k = true) : ∃ r, num (vlo T E (sxo T E (some 0) wIrt)) = some r ∧ r < m := by
  unfold q10 at h
  cases hr : num (vlo T E (sxo T E (some 0) wIrt)) with
  | none => rw [hr] at h; cases h
  | some r =>
    rw [hr, awB_s, Bool.and_eq_true] at h
    exact ⟨r, rfl, of_decide_eq_true h.1⟩
theorem cnt_ext {f g : Nat → Bool} : ∀ n, (∀ i, i < n → f i = g i) → cnt f n = cnt g n := by
  intro n
  induction n with
  | zero => exact fun _ => rfl
  | succ n ih =>
    intro h
    show cnt f n + _ = cnt g n + _
    rw [ih fun i hi => h i (by omega), h n (by omega)]
theorem qconsume : qO16 qI := by
  intro X n σ hn hI
  obtain ⟨⟨T, h1, h2, h3⟩, hS, hCk, hSk, hLf, hIs, hK1, hK2, hReq, hSes, hSeen, h30, h33⟩ := id hI
  obtain ⟨tk, htC, htM⟩ := tk_of hK1
  obtain ⟨ck, -, ck1, ck2⟩ := id hCk
  obtain ⟨sk, -, sk1, sk2⟩ := id hSk
  obtain ⟨lf, -, -, lf1, lf2⟩ := id hLf
  obtain ⟨m, rm1, rm2, rm3, rm4, rm5, rm6⟩ := id hReq
  obtain ⟨m', sm1, sm2, sm3, sm4, sm5⟩ := id hSes
  obtain ⟨M, em1, em2, em3, em4⟩ := id hSeen
  obtain ⟨sl, hsl⟩ := ch_l em4
  obtain ⟨sl', hsl'⟩ := ch_l (P := fun i l => ∃ k, k < 4 ∧ okL l ∧ σ.1 28 i = nI k ∧ σ.1 48 i = nI k ∧ iLab i (σ.1 31) (σ.1 32) l ∧ σ.2 49 i = lN (pk8 l) ∧ ((σ.1 29 i = 1 ∧ σ.1 50 i = 0) ∨ (σ.1 29 i = 0 ∧ σ.1 50 i = 1))) (fun i hi => by
    obtain ⟨k, l, q⟩ := sm4 i hi
    exact ⟨l, k, q⟩)
  have lb : lbs M (σ.1 34) (σ.1 35) sl := fun i hi => ⟨(hsl i hi).1, (hsl i hi).2.1⟩
  have lb' : lbs m' (σ.1 31) (σ.1 32) sl' := fun i hi => by
    obtain ⟨k, q1, q2, q3, q4, q5, q6, q7⟩ := hsl' i hi
    exact ⟨q2, q5⟩
  obtain ⟨σ1, a1, a2, a3⟩ := K78 (X := X) (d := 2) h1 h2
  have mread : ∀ σc : mG, σc.1 38 = σ.1 38 → σc.1 39 = σ.1 39 → ∃ σm, RR X 8 153 [.ref 38] σc (some (.int (rdI T)), σm) ∧ fM σc σm ∧ ∀ y, bnS T = false → rdS T = some y → gM T y.1 y.2 → cM T y.1 y.2 σm := by
    intro σc e38 e39
    have hc : cT (σc.1 38 4) (σc.1 39) T := by
      rw [e38, e39]
      exact h3
    obtain ⟨σm, b1, b2, b3⟩ := K153 (X := X) (d := 3) h1 hc
    exact ⟨σm, b1, b2, fun y y1 y2 y4 => ⟨h1, b2.cT hc, y4, b3 y y1 y2⟩⟩
  have fail : ∀ (v : Int32) (σc σm : mG), RR X 9 26 [.ref 0] σ (some (.int v), σc) → fF σ σc → RR X 9 183 [.ref 38] σc (some (.int v), σm) → fM σc σm → ∃ (v : Int32) (σ1 σ2 : mG), RR X 9 26 [.ref 0] σ (some (.int v), σ1) ∧ RR X 9 183 [.ref 38] σ1 (some (.int v), σ2) ∧ qI (n + 1) σ2 := fun v σc σm q1 q2 q3 q4 => ⟨v, σc, σm, q1, q3, qI_skip n σm (fM_qI q4 (fF_qI q2 hI))⟩
  rcases rdI_cases T with hv | ⟨y, y1, y2, y3, y4⟩
  · have hneg : ¬ 0 ≤ rdI T := by
      rcases hv with e | e <;> rw [e] <;> decide
    obtain ⟨σm, b1, b2, -⟩ := mread σ1 (a2.2 38 (by omega)) (a2.2 39 (by omega))
    refine fail (rdI T) σ1 σm (mi_R.of rfl rfl ?_) a2.fF (mi_R.of rfl rfl ?_) b2
    · apply R26_0 (v2 := 0) (σ2 := σ) (v3 := 0) (σ3 := σ) (v4 := 0) (σ4 := σ) (v5 := 0) (σ5 := σ) (v6 := 0) (σ6 := σ) a1
      case k5 => exact fun _ => rfl
      all_goals exact fun q => absurd q hneg
    · apply R183_0 (v2 := 0) (σ2 := σ) (v3 := 0) (σ3 := σ) (v4 := 0) (σ4 := σ) b1
      case k5 => exact fun _ => rfl
      all_goals exact fun q => absurd q hneg
  · have hn20 := y4.2.1
    have hpos : 0 ≤ rdI T := by
      rw [y3]
      exact nI_pos' (by omega)
    generalize hN : y.1 = N at *
    generalize hE : y.2 = E at *
    have a3 := a3 y y1 y2
    rw [hN, hE] at a3
    have hc1 : cC T N E σ1 := by
      refine ⟨h1, ?_, y4, a3⟩
      rw [a2.2 1 (by omega), a2.2 2 (by omega)]
      exact h2
    have cm : ∀ {σm : mG}, (∀ y, bnS T = false → rdS T = some y → gM T y.1 y.2 → cM T y.1 y.2 σm) → cM T N E σm := fun q => by
      have := q y y1 y2 (by rw [hN, hE]; exact y4)
      rw [hN, hE] at this
      exact this
    have k75 := K75 (X := X) (d := 4) hc1
    cases hrep : rep T N E with
    | true =>
      rw [hrep] at k75
      obtain ⟨σm, b1, b2, b3⟩ := mread σ1 (a2.2 38 (by omega)) (a2.2 39 (by omega))
      have k173 := K173 (X := X) (d := 5) (cm b3)
      rw [hrep] at k173
      have nt' : ¬ bI true = 0 := by decide
      refine fail (-3) σ1 σm (mi_R.of rfl rfl ?_) a2.fF (mi_R.of rfl rfl ?_) b2
      · apply R26_0 (v3 := 0) (σ3 := σ) (v4 := 0) (σ4 := σ) (v5 := 0) (σ5 := σ) (v6 := 0) (σ6 := σ) a1 (fun _ => k75)
        case k4 => exact fun _ _ => rfl
        case k5 => exact fun q => absurd hpos q
        all_goals exact fun _ q => absurd q nt'
      · apply R183_0 (v3 := 0) (σ3 := σ) (v4 := 0) (σ4 := σ) b1 (fun _ => k173)
        case k4 => exact fun _ _ => rfl
        case k5 => exact fun q => absurd hpos q
        all_goals exact fun _ q => absurd q nt'
    | false =>
      rw [hrep] at k75
      obtain ⟨σ3, d1, d2, d3⟩ := K117 (X := X) (d := 2) hc1
      have hc3 : cC T N E σ3 := cC_of hc1 fun c hc => d2.2 c (by omega)
      have f3 : fF σ σ3 := ⟨d2.1.trans a2.1, fun c q1 q2 q3 => (d2.2 c q2).trans (a2.2 c (by omega))⟩
      have mstart : ∀ {σc σm : mG} {b : Bool} {r : mA mG}, RR X 8 153 [.ref 38] σc (some (.int (rdI T)), σm) → cM T N E σm → isR T N E = b → (b = true → TT X 8 tb183 (some .int) (40, [some (.ref 38), some (.int (rdI T)), some (.int 1), none], [], σm) r) → (b = false → isLo T N E = true → TT X 8 tb183 (some .int) (40, [some (.ref 38), some (.int (rdI T)), some (.int 0), none], [], σm) r) → (b = false → isLo T N E = false → r = (some (.int (-4)), σm)) → RR X 9 183 [.ref 38] σc r := by
        intro σc σm b r q1 q2 q3 q4 q5 q6
        have k173 := K173 (X := X) (d := 5) q2
        rw [hrep] at k173
        have k174 := K174 (X := X) (d := 4) q2
        rw [q3] at k174
        have k175 := K175 (X := X) (d := 4) q2
        refine mi_R.of rfl rfl (R183_0 q1 (fun _ => k173) (fun _ _ => k174) (fun _ _ w => ?_) (fun _ _ _ => k175) (fun _ _ w1 w2 => ?_) (fun _ _ w1 w2 => ?_) (fun _ w => absurd rfl w) (fun w => absurd hpos w))
        · have w := bI_n0.mp w
          subst w
          exact q4 rfl
        · have w1 := bI_0.mp (Decidable.not_not.mp w1)
          subst w1
          exact q5 rfl (bI_n0.mp w2)
        · have w1 := bI_0.mp (Decidable.not_not.mp w1)
          subst w1
          exact q6 rfl (bI_0.mp (Decidable.not_not.mp w2))
      have tr3 : trC tk (σ3.1 19) (σ3.1 20) := by
        rw [f3.2 19 (by omega) (by omega) (by omega), f3.2 20 (by omega) (by omega) (by omega)]
        exact htC
      have trm : ∀ {σc σm : mG}, σc.1 41 = σ.1 41 → σc.1 42 = σ.1 42 → fM σc σm → trC tk (σm.1 41) (σm.1 42) := fun e1 e2 q => by
        rw [(q.1 41 (by omega) (by omega)).1, (q.1 42 (by omega) (by omega)).1, e1, e2]
        exact htM
      cases hR : isR T N E with
      | true =>
        have hRS := isR_iff.mp hR
        obtain ⟨i, st, a, ai, c, s, nm, f, hp⟩ := RS_RP hRS
        obtain ⟨o1, o2, o3, o4, o5, o6, o7, o8⟩ := RP_one hp
        obtain ⟨-, -, la⟩ := one_some o3
        rw [hR] at d1
        have cls : ∀ {v : Int32} {σc : mG}, TT X 7 tb30 (some .int) (0, [some (.ref 0), none, none], [], σ3) (some (.int v), σc) → RR X 9 26 [.ref 0] σ (some (.int v), σc) := by
          intro v σc q
          refine mi_R.of rfl rfl ?_
          apply R26_0 (v4 := 0) (σ4 := σ) (v5 := 0) (σ5 := σ) (v6 := v) (σ6 := σc) a1 (fun _ => k75) (fun _ _ => d1)
          case c6 => exact fun _ _ _ => mi_R.of rfl rfl q
          case k3 => exact fun _ _ _ => rfl
          case k4 => exact fun _ w => absurd rfl w
          case k5 => exact fun w => absurd hpos w
          all_goals exact fun _ _ w => absurd w (show ¬ bI true = 0 by decide)
        obtain ⟨x1, x2, x3, x4, x5, x6, x7, x8, x9, x10⟩ := id d3
        have pA : ccL T N E (some a) sigL = pASig T N E := by
          unfold pASig
          rw [hp.2.2.1]
        have e31 : ∀ {o : Option Nat}, oE N o → (oI o = -1 ↔ o = none) := fun ho => oI_m1 fun e he => by have := ho e he; omega
        by_cases h5 : pSig T N E = none ∧ pASig T N E = none
        · obtain ⟨σm, b1, b2, b3⟩ := mread σ3 (f3.2 38 (by omega) (by omega) (by omega)) (f3.2 39 (by omega) (by omega) (by omega))
          have hcm := cm b3
          refine fail (-5) σ3 σm (cls (R30_0 (fun w => absurd ((e31 (ccL_oE _ _ _ _ _)).mpr h5.1) (by rw [x4] at w; exact w)) (fun _ w => absurd ((e31 (ccL_oE _ _ _ _ _)).mpr h5.2) (by rw [x8] at w; exact w)) (fun _ _ => rfl))) f3 (mstart b1 hcm hR (fun _ => ?_) (fun w => by cases w) (fun w => by cases w)) b2
          have c170 : RR X 8 170 [.ref 38, .int 0, .long 107148485722112] σm (some (.int (nI a)), σm) := by
            have := K170 (X := X) (d := 7) (W := wAssn) hcm y4.1 ⟨by decide, by decide⟩
            rw [(one_some o3).2.1] at this
            exact this
          exact R183_40 (fun w => absurd w (by decide)) (fun _ => c170) (fun _ => T56 (d := 7) hcm la (fun _ _ => rfl) (fun w => absurd ⟨h5.1, by rw [pA]; exact h5.2⟩ w))
        · have c0 : ∀ {rr : mA mG}, TT X 7 tb30 (some .int) (25, [some (.ref 0), none, none], [], σ3) rr → TT X 7 tb30 (some .int) (0, [some (.ref 0), none, none], [], σ3) rr := fun q => R30_0 (fun _ => q) (fun _ _ => q) (fun w1 w2 => absurd ⟨(e31 (ccL_oE _ _ _ _ _)).mp (x4.symm.trans (Decidable.not_not.mp w1)), (e31 (ccL_oE _ _ _ _ _)).mp (x8.symm.trans (Decidable.not_not.mp w2))⟩ h5)
          obtain ⟨σ4, g1, g2⟩ := T30 (X := X) (d := 1) hc3 d3 tr3 hp.2.2.1
          have f4 : fF σ σ4 := f3.tr g1.fF
          have hc4 : cC T N E σ4 := cC_of hc3 fun c hc => g1.2 c (by omega)
          have r4 : r36 T N E σ4 := r36_of d3 (g1.2 36 (by omega))
          have tr4 : trC tk (σ4.1 19) (σ4.1 20) := by
            rw [f4.2 19 (by omega) (by omega) (by omega), f4.2 20 (by omega) (by omega) (by omega)]
            exact htC
          have hp1 := hp.1
          have hp4 := hp.2.2.2.1
          -- the reference, at a state whose cells of the reference are those of σ
          have mgo : ∀ {σc σm : mG} {r : mA mG}, RR X 8 153 [.ref 38] σc (some (.int (rdI T)), σm) → cM T N E σm → TT X 8 tb183 (some .int) (82, [some (.ref 38), some (.int (rdI T)), some (.int 1), some (.int (nI a))], [], σm) r → RR X 9 183 [.ref 38] σc r := by
            intro σc σm r q1 hcm q2
            refine mstart q1 hcm hR (fun _ => ?_) (fun w => by cases w) (fun w => by cases w)
            have c170 : RR X 8 170 [.ref 38, .int 0, .long 107148485722112] σm (some (.int (nI a)), σm) := by
              have := K170 (X := X) (d := 7) (W := wAssn) hcm y4.1 ⟨by decide, by decide⟩
              rw [(one_some o3).2.1] at this
              exact this
            exact R183_40 (fun w => absurd w (by decide)) (fun _ => c170) (fun _ => T56 (d := 7) hcm la (fun w1 w2 => absurd ⟨w1, by rw [← pA]; exact w2⟩ h5) (fun _ => q2))
          have hwa := hRS.2.2.2.2.2.2.2.2.1
          rw [hp4] at hwa
          have hka := hRS.2.2.2.2.2.2.2.1
          rw [hp.2.2.1] at hka
          have hsga := hRS.2.2.2.2.2.2.2.2.2.1
          rw [hp.2.2.1] at hsga
          have m82 : ∀ {σm : mG}, cM T N E σm → trC tk (σm.1 41) (σm.1 42) → _ := fun {σm} q1 q2 => T82 (X := X) (d := 2) (x1 := rdI T) (x2 := 1) q1 q2 la o1 o4 (hk_hs hRS.2.1) (hk_hs hka) hRS.2.2.2.2.2.2.1 hsga hwa
          have eb : (snd' T N E tk (ccL T N E (some 0) sigL) 0 (some i) && snd' T N E tk (ccL T N E (some a) sigL) a (some ai)) = (snd' T N E tk (pSig T N E) 0 (pIss T N E) && snd' T N E tk (pASig T N E) a (pAIss T N E)) := by
            rw [hp1, hp4, pA]
            rfl
          obtain ⟨σm, b1, b2, b3⟩ := mread σ4 (f4.2 38 (by omega) (by omega) (by omega)) (f4.2 39 (by omega) (by omega) (by omega))
          have hcm := cm b3
          have mm := m82 hcm (trm (f4.2 41 (by omega) (by omega) (by omega)) (f4.2 42 (by omega) (by omega) (by omega)) b2)
          cases h6 : (snd' T N E tk (pSig T N E) 0 (pIss T N E) && snd' T N E tk (pASig T N E) a (pAIss T N E)) with
          | false => exact fail (-6) σ4 σm (cls (c0 (g2 _ (fun w => (tf h6 w).elim) (fun _ => rfl)))) f4 (mgo b1 hcm (mm.1 (eb.trans h6))) b2
          | true =>
            by_cases h7 : bdy T E (pIss T N E) = bdy T E (pAIss T N E)
            · have h7' : bdy T E (some i) = bdy T E (some ai) := by
                rw [← hp1, ← hp4]
                exact h7
              obtain ⟨k, htn⟩ := snd_tr h5 h6 h7
              have hnm : nmd (bdy T E (some i)) = some k := by
                rw [← hp1]
                exact (trn_lt htn).2.2
              have cells : ∀ c, c < 5 ∨ 17 < c → c ≠ 36 → c ≠ 37 → σ4.1 c = σ.1 c := f4.2
              have k31 := K31 (X := X) (d := 2) (m := m) (M := M) (m' := m') (k := k) (sl := sl) hc4 r4 rm1 (by rw [cells 23 (by omega) (by omega) (by omega)]; exact rm2) em1 (by rw [cells 33 (by omega) (by omega) (by omega)]; exact em2) (by rw [cells 34 (by omega) (by omega) (by omega), cells 35 (by omega) (by omega) (by omega)]; exact lb) (by rw [cells 33 (by omega) (by omega) (by omega)]; exact h33) sm1 (by rw [cells 30 (by omega) (by omega) (by omega)]; exact sm2) (by rw [cells 30 (by omega) (by omega) (by omega)]; exact h30)
              rw [cells 26 (by omega) (by omega) (by omega), cells 25 (by omega) (by omega) (by omega), cells 24 (by omega) (by omega) (by omega), cells 23 (by omega) (by omega) (by omega), cells 0 (by omega) (by omega) (by omega), q10_eq hReq rm1 rm2, hp.2.2.1] at k31
              -- what the reference's cells hold
              have mc : ∀ {σc σm : mG}, (∀ c, 38 ≤ c → σc.1 c = σ.1 c) → σc.2 = σ.2 → fM σc σm → (∀ c, c ≠ 38 → 38 ≤ c → c < 52 → σm.1 c = σ.1 c ∧ σm.2 c = σ.2 c) ∧ ∀ k, k ≠ 22 → k ≠ 35 → σm.1 38 k = σ.1 38 k := fun e1 e2 q => ⟨fun c w1 w2 w3 => ⟨(q.1 c w1 (by omega)).1.trans (e1 c w2), (q.1 c w1 (by omega)).2.trans (by rw [e2])⟩, fun k w1 w2 => (q.2 k w1 w2).trans (by rw [e1 38 (by omega)])⟩
              obtain ⟨m1c, m1k⟩ := mc (fun c w => cells c (by omega) (by omega) (by omega)) f4.1 b2
              have eC : σ.1 0 12 = σ.1 38 2 := ck1.trans ck2.symm
              have eS : σ.1 0 11 = σ.1 38 0 := sk1.trans sk2.symm
              have eL : σ.1 23 0 = σ.1 38 1 := lf1.trans lf2.symm
              rw [eC, eS, eL] at k31
              cases h8 : q8 T E with
              | false =>
                rw [h8] at k31
                exact fail (-8) σ4 σm (cls (c0 (g2 _ (fun _ => T103r (d := 2) hc4 r4 tr4 h7 htn k31 (by show ¬ (-8 : Int32) = 0; decide)) (fun w => (tf w h6).elim)))) f4 (mgo b1 hcm (mm.2.2.1 (eb.trans h6) h7' h8)) b2
              | true =>
                rw [h8] at k31
                by_cases hz : fc (!true) (!q9 T N E) (!q10 T E (σ.1 47) (σ.1 45) (σ.1 46) (σ.1 38 1) (σ.1 38 2) m k) (!q11 T N E) (q12 T N E (σ.1 38 2) (σ.1 38 0)) (q13 T N E (σ.1 38 2) (σ.1 38 0)) (q14 T E sl M (some a)) (decide (20 ≤ m') || decide (40 ≤ M)) = 0
                · rw [hz] at k31
                  obtain ⟨-, z9, z10, z11, z12, z13, z14, z15⟩ := fc_0 hz
                  rw [Bool.or_eq_false_iff] at z15
                  have lm' : m' < 20 := by
                    have := of_decide_eq_false z15.1
                    omega
                  have lM : M < 40 := by
                    have := of_decide_eq_false z15.2
                    omega
                  obtain ⟨rq, hr1, hr2⟩ := q10_r (not_t z10)
                  obtain ⟨σ5, t1, t2, t3, t4, t5, t6, t7, t8, t9, t10, t11, t12⟩ := T103a (X := X) (d := 2) (m := m) (M := M) (m' := m') (sl := sl) (sl' := sl') hc4 r4 hRS hp tr4 h7 htn k31 rm1 (by rw [cells 23 (by omega) (by omega) (by omega)]; exact rm2) hr1 hr2 lM (by rw [cells 33 (by omega) (by omega) (by omega)]; exact em2) (by rw [cells 34 (by omega) (by omega) (by omega), cells 35 (by omega) (by omega) (by omega)]; exact lb) (by rw [cells 33 (by omega) (by omega) (by omega)]; exact h33) lm' (by rw [cells 30 (by omega) (by omega) (by omega)]; exact sm2) (by rw [cells 31 (by omega) (by omega) (by omega), cells 32 (by omega) (by omega) (by omega)]; exact lb') (by rw [cells 30 (by omega) (by omega) (by omega)]; exact h30)
                  rw [cells 26 (by omega) (by omega) (by omega)] at t4
                  rw [cells 28 (by omega) (by omega) (by omega)] at t5
                  rw [cells 29 (by omega) (by omega) (by omega)] at t6
                  have c5 : ∀ c, c < 5 ∨ 17 < c → c ≠ 36 → c ≠ 37 → c ≠ 26 → (c < 28 ∨ 35 < c) → σ5.1 c = σ.1 c := fun c w1 w2 w3 w4 w5 => (t3 c w4 w5).trans (cells c w1 w2 w3)
                  obtain ⟨σn, b4, b5, b6⟩ := mread σ5 (c5 38 (by omega) (by omega) (by omega) (by omega) (by omega)) (c5 39 (by omega) (by omega) (by omega) (by omega) (by omega))
                  have hcn := cm b6
                  obtain ⟨nc, nk⟩ := mc (σc := σ5) (fun c w => c5 c (by omega) (by omega) (by omega) (by omega) (by omega)) (t2.trans f4.1) b5
                  have mn := m82 hcn (trm (c5 41 (by omega) (by omega) (by omega) (by omega) (by omega)) (c5 42 (by omega) (by omega) (by omega) (by omega) (by omega)) b5)
                  have k181 := K181a (X := X) (d := 3) (m := m) (M := M) (m' := m') (k := k) (r := rq) (sl := sl) hcn hRS hp rm1 (by rw [nk 11 (by omega) (by omega)]; exact rm3) hnm lM (by rw [nk 19 (by omega) (by omega)]; exact em3) (fun j hj => ⟨(hsl j hj).1, by rw [(nc 51 (by omega) (by omega) (by omega)).2]; exact (hsl j hj).2.2⟩) lm' (by rw [nk 15 (by omega) (by omega)]; exact sm3) (by
                    rw [(nc 47 (by omega) (by omega) (by omega)).1, (nc 45 (by omega) (by omega) (by omega)).1, (nc 46 (by omega) (by omega) (by omega)).1, nk 1 (by omega) (by omega), nk 2 (by omega) (by omega), nk 0 (by omega) (by omega), z9, z10, z11, z12, z13]
                    rfl) z14 hr1 hr2
                  refine ⟨nI m', σ5, _, cls (c0 (g2 _ (fun _ => t1) (fun w => (tf w h6).elim))), mgo b4 hcn (mn.2.2.2.2 (eb.trans h6) h7' h8 (by decide) _ _ k181), ?_⟩
                  -- the invariant
                  generalize hid : vlo T E (sxo T E (some a) wID) = idL at *
                  generalize hnam : bdy T E (some nm) = nmLs at *
                  have kf : ∀ {j : Nat}, j ≠ 15 → j ≠ 19 → j ≠ 22 → j ≠ 35 → (sB (u36 (u36 (sA σn M (lN (pck idL))) 47 rq 1) 48 m' (nI k)) m' (lN (pck nmLs))).1 38 j = σ.1 38 j := fun {j} w1 w2 w3 w4 => (mi_upd_ne _ _ w1).trans ((mi_upd_ne (σn.1 38) (nI (M + 1)) w2).trans (nk j w3 w4))
                  have cf : ∀ {c : Nat}, c ≠ 38 → c ≠ 47 → c ≠ 48 → c < 52 → (sB (u36 (u36 (sA σn M (lN (pck idL))) 47 rq 1) 48 m' (nI k)) m' (lN (pck nmLs))).1 c = σ5.1 c := fun {c} w1 w2 w3 w4 => (mi_uc_ne _ _ w1).trans ((u36_c w3).trans ((u36_c w2).trans ((mi_uc_ne _ _ w1).trans (b5.1 c w1 (by omega)).1)))
                  have c47 : (sB (u36 (u36 (sA σn M (lN (pck idL))) 47 rq 1) 48 m' (nI k)) m' (lN (pck nmLs))).1 47 = upd (σ.1 47) rq 1 := by
                    rw [sB_1 (by omega), u36_c (by omega), u36_f, sA_1 (by omega), (nc 47 (by omega) (by omega) (by omega)).1]
                  have c48 : (sB (u36 (u36 (sA σn M (lN (pck idL))) 47 rq 1) 48 m' (nI k)) m' (lN (pck nmLs))).1 48 = upd (σ.1 48) m' (nI k) := by
                    rw [sB_1 (by omega), u36_f, u36_c (by omega), sA_1 (by omega), (nc 48 (by omega) (by omega) (by omega)).1]
                  have l49 : (sB (u36 (u36 (sA σn M (lN (pck idL))) 47 rq 1) 48 m' (nI k)) m' (lN (pck nmLs))).2 49 = vp_updL (σ.2 49) m' (lN (pck nmLs)) := by
                    rw [sB_49, u36_2, u36_2, sA_2 (by omega), (nc 49 (by omega) (by omega) (by omega)).2]
                  have l51 : (sB (u36 (u36 (sA σn M (lN (pck idL))) 47 rq 1) 48 m' (nI k)) m' (lN (pck nmLs))).2 51 = vp_updL (σ.2 51) M (lN (pck idL)) := by
                    rw [sB_2 (by omega), u36_2, u36_2, sA_51, (nc 51 (by omega) (by omega) (by omega)).2]
                  have k15 : (sB (u36 (u36 (sA σn M (lN (pck idL))) 47 rq 1) 48 m' (nI k)) m' (lN (pck nmLs))).1 38 15 = nI (m' + 1) := sB_15
                  have k19 : (sB (u36 (u36 (sA σn M (lN (pck idL))) 47 rq 1) 48 m' (nI k)) m' (lN (pck nmLs))).1 38 19 = nI (M + 1) := (sB_k (by omega)).trans (by rw [u36_c (show (38 : Nat) ≠ 48 by omega), u36_c (show (38 : Nat) ≠ 47 by omega)]; exact sA_19)
                  have wid : wrd idL = true := by
                    unfold hk at hka
                    rw [← wrd_kyl (no60 y4 (sxo_ok y4 (oE_some la)).1), hid] at hka
                    exact hka
                  have wnm : wrd nmLs = true := by
                    have := hRS.2.2.2.2.2.2.2.2.2.2.2.2.2.1
                    rw [hp.2.2.2.2.2.2.1] at this
                    unfold hw at this
                    rw [hnam] at this
                    exact this
                  have c5' : ∀ {c : Nat}, c < 5 ∨ 17 < c → c ≠ 36 → c ≠ 37 → c ≠ 26 → (c < 28 ∨ 35 < c) → c ≠ 38 → c ≠ 47 → c ≠ 48 → c < 52 → (sB (u36 (u36 (sA σn M (lN (pck idL))) 47 rq 1) 48 m' (nI k)) m' (lN (pck nmLs))).1 c = σ.1 c := fun {c} w1 w2 w3 w4 w5 w6 w7 w8 w9 => (cf w6 w7 w8 w9).trans (c5 c w1 w2 w3 w4 w5)
                  obtain ⟨I1, I2, I3, I4, I5, I6, I7, I8, -⟩ := qI_skip n σ hI
                  unfold qI
                  generalize sB (u36 (u36 (sA σn M (lN (pck idL))) 47 rq 1) 48 m' (nI k)) m' (lN (pck nmLs)) = σf at *
                  rw [c5' (c := 1) (by omega) (by omega) (by omega) (by omega) (by omega) (by omega) (by omega) (by omega) (by omega), c5' (c := 2) (by omega) (by omega) (by omega) (by omega) (by omega) (by omega) (by omega) (by omega) (by omega), c5' (c := 3) (by omega) (by omega) (by omega) (by omega) (by omega) (by omega) (by omega) (by omega) (by omega), c5' (c := 4) (by omega) (by omega) (by omega) (by omega) (by omega) (by omega) (by omega) (by omega) (by omega), c5' (c := 39) (by omega) (by omega) (by omega) (by omega) (by omega) (by omega) (by omega) (by omega) (by omega), c5' (c := 40) (by omega) (by omega) (by omega) (by omega) (by omega) (by omega) (by omega) (by omega) (by omega), c5' (c := 0) (by omega) (by omega) (by omega) (by omega) (by omega) (by omega) (by omega) (by omega) (by omega), c5' (c := 23) (by omega) (by omega) (by omega) (by omega) (by omega) (by omega) (by omega) (by omega) (by omega), c5' (c := 19) (by omega) (by omega) (by omega) (by omega) (by omega) (by omega) (by omega) (by omega) (by omega), c5' (c := 20) (by omega) (by omega) (by omega) (by omega) (by omega) (by omega) (by omega) (by omega) (by omega), c5' (c := 21) (by omega) (by omega) (by omega) (by omega) (by omega) (by omega) (by omega) (by omega) (by omega), c5' (c := 22) (by omega) (by omega) (by omega) (by omega) (by omega) (by omega) (by omega) (by omega) (by omega), c5' (c := 41) (by omega) (by omega) (by omega) (by omega) (by omega) (by omega) (by omega) (by omega) (by omega), c5' (c := 42) (by omega) (by omega) (by omega) (by omega) (by omega) (by omega) (by omega) (by omega) (by omega), c5' (c := 43) (by omega) (by omega) (by omega) (by omega) (by omega) (by omega) (by omega) (by omega) (by omega), c5' (c := 44) (by omega) (by omega) (by omega) (by omega) (by omega) (by omega) (by omega) (by omega) (by omega), c5' (c := 24) (by omega) (by omega) (by omega) (by omega) (by omega) (by omega) (by omega) (by omega) (by omega), c5' (c := 25) (by omega) (by omega) (by omega) (by omega) (by omega) (by omega) (by omega) (by omega) (by omega), c5' (c := 45) (by omega) (by omega) (by omega) (by omega) (by omega) (by omega) (by omega) (by omega) (by omega), c5' (c := 46) (by omega) (by omega) (by omega) (by omega) (by omega) (by omega) (by omega) (by omega) (by omega), c5' (c := 50) (by omega) (by omega) (by omega) (by omega) (by omega) (by omega) (by omega) (by omega) (by omega), kf (j := 4) (by omega) (by omega) (by omega) (by omega), kf (j := 6) (by omega) (by omega) (by omega) (by omega), kf (j := 2) (by omega) (by omega) (by omega) (by omega), kf (j := 0) (by omega) (by omega) (by omega) (by omega), kf (j := 1) (by omega) (by omega) (by omega) (by omega), kf (j := 21) (by omega) (by omega) (by omega) (by omega), kf (j := 11) (by omega) (by omega) (by omega) (by omega), k15, k19, c47, c48, l49, l51, cf (c := 26) (by omega) (by omega) (by omega) (by omega), cf (c := 28) (by omega) (by omega) (by omega) (by omega), cf (c := 29) (by omega) (by omega) (by omega) (by omega), cf (c := 30) (by omega) (by omega) (by omega) (by omega), cf (c := 31) (by omega) (by omega) (by omega) (by omega), cf (c := 32) (by omega) (by omega) (by omega) (by omega), cf (c := 33) (by omega) (by omega) (by omega) (by omega), cf (c := 34) (by omega) (by omega) (by omega) (by omega), cf (c := 35) (by omega) (by omega) (by omega) (by omega), t4, t5, t6]
                  refine ⟨I1, I2, I3, I4, I5, I6, I7, I8, iReq_ans hReq rm1 rm2 hr2, ⟨m' + 1, by omega, t10, rfl, fun j hj => ?_, fun j j1 j2 => sm5 j (by omega) j2⟩, ⟨M + 1, by omega, t7, rfl, fun j hj => ?_⟩, t11, t8⟩
                  · obtain ⟨u1, u2⟩ := t12 j hj
                    by_cases e : j = m'
                    · subst e
                      refine ⟨k, nmLs, (trn_lt htn).1, ?_⟩
                      have u1 : okL (if j = j then nmLs else sl' j) := u1
                      have u2 : iLab j _ _ (if j = j then nmLs else sl' j) := u2
                      rw [if_pos rfl] at u1 u2
                      rw [mi_upd_same, mi_upd_same, mi_upd_same, mi_updL_same, pck_ok wnm]
                      exact ⟨u1, rfl, rfl, u2, rfl, Or.inl ⟨rfl, sm5 j (Nat.le_refl _) lm'⟩⟩
                    · have u1 : okL (if j = m' then nmLs else sl' j) := u1
                      have u2 : iLab j _ _ (if j = m' then nmLs else sl' j) := u2
                      rw [if_neg e] at u1 u2
                      obtain ⟨k', w1, w2, w3, w4, w5, w6, w7⟩ := hsl' j (by omega)
                      refine ⟨k', sl' j, w1, ?_⟩
                      rw [mi_upd_ne _ _ e, mi_upd_ne _ _ e, mi_upd_ne _ _ e, mi_updL_ne _ _ e]
                      exact ⟨w2, w3, w4, u2, w6, w7⟩
                  · obtain ⟨u1, u2⟩ := t9 j hj
                    by_cases e : j = M
                    · subst e
                      have u1 : okL (if j = j then idL else sl j) := u1
                      have u2 : iLab j _ _ (if j = j then idL else sl j) := u2
                      rw [if_pos rfl] at u1 u2
                      refine ⟨idL, u1, u2, ?_⟩
                      rw [mi_updL_same, pck_ok wid]
                    · have u1 : okL (if j = M then idL else sl j) := u1
                      have u2 : iLab j _ _ (if j = M then idL else sl j) := u2
                      rw [if_neg e] at u1 u2
                      refine ⟨sl j, u1, u2, ?_⟩
                      rw [mi_updL_ne _ _ e]
                      exact (hsl j (by omega)).2.2
                · refine fail _ σ4 σm (cls (c0 (g2 _ (fun _ => T103r (d := 2) hc4 r4 tr4 h7 htn k31 hz) (fun w => (tf w h6).elim)))) f4 (mgo b1 hcm (mm.2.2.2.2 (eb.trans h6) h7' h8 (by decide) _ _ ?_)) b2
                  exact K181r (X := X) (d := 3) (m := m) (M := M) (m' := m') (k := k) (sl := sl) hcm hRS hp rm1 (by rw [m1k 11 (by omega) (by omega)]; exact rm3) hnm em1 (by rw [m1k 19 (by omega) (by omega)]; exact em3) (fun j hj => ⟨(hsl j hj).1, by rw [(m1c 51 (by omega) (by omega) (by omega)).2]; exact (hsl j hj).2.2⟩) sm1 (by rw [m1k 15 (by omega) (by omega)]; exact sm3) (by rw [(m1c 47 (by omega) (by omega) (by omega)).1, (m1c 45 (by omega) (by omega) (by omega)).1, (m1c 46 (by omega) (by omega) (by omega)).1, m1k 1 (by omega) (by omega), m1k 2 (by omega) (by omega), m1k 0 (by omega) (by omega)]; rfl) hz
            · have h7' : ¬ bdy T E (some i) = bdy T E (some ai) := by
                rw [← hp1, ← hp4]
                exact h7
              exact fail (-7) σ4 σm (cls (c0 (g2 _ (fun _ => T103n (d := 4) hc4 r4 h7) (fun w => (tf w h6).elim)))) f4 (mgo b1 hcm (mm.2.1 (eb.trans h6) h7')) b2
      | false =>
        rw [hR] at d1
        obtain ⟨σ4, e1, e2, e3⟩ := K123 (X := X) (d := 3) hc3
        have hc4 : cC T N E σ4 := cC_of hc3 fun c hc => e2.2 c (by omega)
        have f4 : fF σ σ4 := ⟨e2.1.trans f3.1, fun c q1 q2 q3 => (e2.2 c q3).trans (f3.2 c q1 q2 q3)⟩
        have cells : ∀ c, c < 5 ∨ 17 < c → c ≠ 36 → c ≠ 37 → σ4.1 c = σ.1 c := f4.2
        obtain ⟨σm, b1, b2, b3⟩ := mread σ4 (f4.2 38 (by omega) (by omega) (by omega)) (f4.2 39 (by omega) (by omega) (by omega))
        have hcm := cm b3
        have cls : ∀ {v : Int32} {σc : mG}, isLo T N E = true → RR X 8 33 [.ref 0] σ4 (some (.int v), σc) → RR X 9 26 [.ref 0] σ (some (.int v), σc) := by
          intro v σc q0 q
          rw [q0] at e1
          refine mi_R.of rfl rfl ?_
          apply R26_0 (v5 := v) (σ5 := σc) (v6 := 0) (σ6 := σ) a1 (fun _ => k75) (fun _ _ => d1) (fun _ _ _ => e1)
          case k1 => exact fun _ _ _ w => absurd w (show ¬ bI true = 0 by decide)
          case c5 => exact fun _ _ _ _ => q
          case k2 => exact fun _ _ _ _ => rfl
          case c6 => exact fun _ _ w => absurd rfl w
          case k3 => exact fun _ _ w => absurd rfl w
          case k4 => exact fun _ w => absurd rfl w
          case k5 => exact fun w => absurd hpos w
        cases hL : isLo T N E with
        | false =>
          rw [hL] at e1
          refine fail (-4) σ4 σm (mi_R.of rfl rfl ?_) f4 (mstart b1 hcm hR (fun w => by cases w) (fun _ w => by rw [hL] at w; cases w) (fun _ _ => rfl)) b2
          apply R26_0 (v5 := 0) (σ5 := σ) (v6 := 0) (σ6 := σ) a1 (fun _ => k75) (fun _ _ => d1) (fun _ _ _ => e1)
          case k1 => exact fun _ _ _ _ => rfl
          case c5 => exact fun _ _ _ w => absurd rfl w
          case k2 => exact fun _ _ _ w => absurd rfl w
          case c6 => exact fun _ _ w => absurd rfl w
          case k3 => exact fun _ _ w => absurd rfl w
          case k4 => exact fun _ w => absurd rfl w
          case k5 => exact fun w => absurd hpos w
        | true =>
          have hLS := isLo_iff.mp hL
          obtain ⟨i, nm, hp⟩ := LoS_LoP hLS
          have o1 : one T N E (some 0) wIss = some i := hp.1
          obtain ⟨x1, x2, x3⟩ := id e3
          obtain ⟨-, -, li⟩ := one_some o1
          have mgo : ∀ {σc σm : mG} {r : mA mG}, RR X 8 153 [.ref 38] σc (some (.int (rdI T)), σm) → cM T N E σm → TT X 8 tb183 (some .int) (56, [some (.ref 38), some (.int (rdI T)), some (.int 0), none], [.int (nI 0)], σm) r → RR X 9 183 [.ref 38] σc r := by
            intro σc σm r q1 hcm q2
            exact mstart q1 hcm hR (fun w => by cases w) (fun _ _ => R183_40 (v1 := 0) (σ1 := σ) (fun _ => q2) (fun w => absurd rfl w) (fun w => absurd rfl w)) (fun _ w => by rw [hL] at w; cases w)
          cases hsg : pSig T N E with
          | none =>
            rw [hsg] at x3
            refine fail (-5) σ4 σm (cls hL (mi_R.of rfl rfl ?_)) f4 (mgo b1 hcm (T56 (d := 7) hcm y4.1 (fun _ _ => rfl) (fun w => absurd ⟨hsg, hsg⟩ w))) b2
            apply R33_0 (v1 := 0) (σ1 := σ) (v2 := 0) (σ2 := σ) (v3 := 0) (σ3 := σ) (v4 := 0) (σ4 := σ) (σ5 := σ) (v5 := 0) (σ6 := σ) (v6 := 0) (σ7 := σ) (v7 := 0) (σ8 := σ) (v8 := 0) (σ9 := σ)
            case k6 => exact fun _ => rfl
            all_goals exact fun w => absurd x3 w
          | some s =>
            have ls' : s < N := ccL_oE T N E (some 0) sigL s hsg
            have tr4 : trC tk (σ4.1 19) (σ4.1 20) := by
              rw [cells 19 (by omega) (by omega) (by omega), cells 20 (by omega) (by omega) (by omega)]
              exact htC
            obtain ⟨σ5, k34, fg⟩ := K34 (X := X) (d := 1) hc4 tr4 (s := some s) (i := some i) (e := 0) (oE_some ls') y4.1 (oE_some li)
            have f5 : fF σ σ5 := f4.tr fg.fF
            obtain ⟨σn, b4, b5, b6⟩ := mread σ5 (f5.2 38 (by omega) (by omega) (by omega)) (f5.2 39 (by omega) (by omega) (by omega))
            have hcn := cm b6
            have hwi := hLS.2.2.2.1
            rw [hp.1] at hwi
            have m82 : ∀ {σm : mG}, cM T N E σm → trC tk (σm.1 41) (σm.1 42) → _ := fun {σm} q1 q2 => T82 (X := X) (d := 2) (x1 := rdI T) (x2 := 0) q1 q2 y4.1 o1 o1 (hk_hs hLS.2.1) (hk_hs hLS.2.1) hLS.2.2.2.2.2 hLS.2.2.2.2.2 hwi
            have m56 : ∀ {σm : mG} {r : mA mG}, cM T N E σm → TT X 8 tb183 (some .int) (82, [some (.ref 38), some (.int (rdI T)), some (.int 0), some (.int (nI 0))], [], σm) r → TT X 8 tb183 (some .int) (56, [some (.ref 38), some (.int (rdI T)), some (.int 0), none], [.int (nI 0)], σm) r := fun q1 q2 => T56 (d := 7) q1 y4.1 (fun w _ => by rw [show ccL T N E (some 0) sigL = some s from hsg] at w; cases w) (fun _ => q2)
            have eb : ∀ b, vld T N E tk (some s) 0 (some i) = b → (snd' T N E tk (ccL T N E (some 0) sigL) 0 (some i) && snd' T N E tk (ccL T N E (some 0) sigL) 0 (some i)) = b := fun b q => by
              rw [show ccL T N E (some 0) sigL = some s from hsg, Bool.and_self]
              exact q
            have mn := m82 hcn (trm (f5.2 41 (by omega) (by omega) (by omega)) (f5.2 42 (by omega) (by omega) (by omega)) b5)
            have n37 : ¬ σ4.1 37 3 = -1 := by
              rw [x3, hsg]
              exact fun z => m1_ne (c := s) (by omega) z.symm
            cases hv : vld T N E tk (some s) 0 (some i) with
            | false =>
              rw [hv] at k34
              refine fail (-6) σ5 σn (cls hL (mi_R.of rfl rfl ?_)) f5 (mgo b4 hcn (m56 hcn (mn.1 (eb _ hv)))) b5
              have c1 : RR X 7 34 [.ref 0, .int (σ4.1 37 3), .int 0, .int (σ4.1 37 1)] σ4 (some (.int (bI false)), σ5) := by
                rw [x3, x1, hsg, hp.1]
                exact k34
              apply R33_0 (v2 := 0) (σ2 := σ) (v3 := 0) (σ3 := σ) (v4 := 0) (σ4 := σ) (σ5 := σ) (v5 := 0) (σ6 := σ) (v6 := 0) (σ7 := σ) (v7 := 0) (σ8 := σ) (v8 := 0) (σ9 := σ) (fun _ => c1)
              case k5 => exact fun _ _ => rfl
              case k6 => exact fun w => absurd n37 w
              all_goals exact fun _ w => absurd rfl w
            | true =>
              rw [hv] at k34
              obtain ⟨k, htn⟩ := vld_tr hv
              have hnm := (trn_lt htn).2.2
              obtain ⟨u1, u2, u3, u4⟩ := T33 (X := X) (d := 1) (M := M) (m' := m') (k := k) (sl := sl) (sl' := sl') hc4 e3 hLS hp tr4 hsg k34 fg htn em1 (by rw [cells 33 (by omega) (by omega) (by omega)]; exact em2) (by rw [cells 34 (by omega) (by omega) (by omega), cells 35 (by omega) (by omega) (by omega)]; exact lb) (by rw [cells 33 (by omega) (by omega) (by omega)]; exact h33) sm1 (by rw [cells 30 (by omega) (by omega) (by omega)]; exact sm2) (by rw [cells 31 (by omega) (by omega) (by omega), cells 32 (by omega) (by omega) (by omega)]; exact lb')
              have mc : ∀ {σc σm : mG}, (∀ c, 38 ≤ c → σc.1 c = σ.1 c) → σc.2 = σ.2 → fM σc σm → (∀ c, c ≠ 38 → 38 ≤ c → c < 52 → σm.1 c = σ.1 c ∧ σm.2 c = σ.2 c) ∧ ∀ k, k ≠ 22 → k ≠ 35 → σm.1 38 k = σ.1 38 k := fun e1 e2 q => ⟨fun c w1 w2 w3 => ⟨(q.1 c w1 (by omega)).1.trans (e1 c w2), (q.1 c w1 (by omega)).2.trans (by rw [e2])⟩, fun k w1 w2 => (q.2 k w1 w2).trans (by rw [e1 38 (by omega)])⟩
              obtain ⟨m1c, m1k⟩ := mc (fun c w => f5.2 c (by omega) (by omega) (by omega)) f5.1 b5
              have k182 := K182r (X := X) (d := 5) (M := M) (sl := sl) hcn hLS em1 (by rw [m1k 19 (by omega) (by omega)]; exact em3) (fun j hj => ⟨(hsl j hj).1, by rw [(m1c 51 (by omega) (by omega) (by omega)).2]; exact (hsl j hj).2.2⟩)
              cases h8 : q8 T E with
              | false => exact fail (-8) σ5 σn (cls hL (u1 h8)) f5 (mgo b4 hcn (m56 hcn (mn.2.2.1 (eb _ hv) rfl h8))) b5
              | true =>
                cases h14 : q14 T E sl M (some 0) with
                | true => exact fail (-14) σ5 σn (cls hL (u2 h8 h14)) f5 (mgo b4 hcn (m56 hcn (mn.2.2.2.1 (eb _ hv) rfl h8 rfl _ _ (k182.1 h14)))) b5
                | false =>
                  by_cases lM : 40 ≤ M
                  · exact fail (-15) σ5 σn (cls hL (u3 h8 h14 lM)) f5 (mgo b4 hcn (m56 hcn (mn.2.2.2.1 (eb _ hv) rfl h8 rfl _ _ (k182.2 h14 lM)))) b5
                  · have lM : M < 40 := by omega
                    obtain ⟨σ6, t1, t2, t3, t4, t5, t6, t7⟩ := u4 h8 h14 lM
                    rw [cells 28 (by omega) (by omega) (by omega), cells 29 (by omega) (by omega) (by omega)] at t1 t4
                    have c6 : ∀ c, c < 5 ∨ 17 < c → c ≠ 36 → c ≠ 37 → c ≠ 29 → (c < 33 ∨ 35 < c) → σ6.1 c = σ.1 c := fun c w1 w2 w3 w4 w5 => (t3 c w4 w5).trans (f5.2 c w1 w2 w3)
                    obtain ⟨σp, b7, b8, b9⟩ := mread σ6 (c6 38 (by omega) (by omega) (by omega) (by omega) (by omega)) (c6 39 (by omega) (by omega) (by omega) (by omega) (by omega))
                    have hcp := cm b9
                    obtain ⟨nc, nk⟩ := mc (σc := σ6) (fun c w => c6 c (by omega) (by omega) (by omega) (by omega) (by omega)) (t2.trans f5.1) b8
                    have mp := m82 hcp (trm (c6 41 (by omega) (by omega) (by omega) (by omega) (by omega)) (c6 42 (by omega) (by omega) (by omega) (by omega) (by omega)) b8)
                    obtain ⟨σf, w1, w2, w3, w4⟩ := K182a (X := X) (d := 4) (M := M) (m' := m') (k := k) (sl := sl) (sl' := sl') hcp hLS hp lM (by rw [nk 19 (by omega) (by omega)]; exact em3) (fun j hj => ⟨(hsl j hj).1, by rw [(nc 51 (by omega) (by omega) (by omega)).2]; exact (hsl j hj).2.2⟩) hnm sm1 (by rw [nk 15 (by omega) (by omega)]; exact sm3) (fun j hj => by
                      obtain ⟨k', q1, q2, q3, q4, q5, q6, q7⟩ := hsl' j hj
                      exact ⟨q2, by rw [(nc 49 (by omega) (by omega) (by omega)).2]; exact q6⟩) h14
                    rw [(nc 48 (by omega) (by omega) (by omega)).1, (nc 50 (by omega) (by omega) (by omega)).1] at w1 w4
                    have eqc : ∀ j, j < m' → eC (bdy T E (some nm)) (σ.1 28) (σ.1 29) sl' (nI k) j = eM (bdy T E (some nm)) (σ.1 48) (σ.1 50) sl' (nI k) j := fun j hj => by
                      obtain ⟨k', q1, q2, q3, q4, q5, q6, q7⟩ := hsl' j hj
                      unfold eC eM
                      rw [q3, q4]
                      rcases q7 with ⟨z1, z2⟩ | ⟨z1, z2⟩
                      · rw [z1, z2]
                        rfl
                      · rw [z1, z2]
                        rfl
                    rw [← cnt_ext m' eqc] at w1
                    refine ⟨_, σ6, σf, cls hL t1, mgo b7 hcp (m56 hcp (mp.2.2.2.1 (eb _ hv) rfl h8 rfl _ _ w1)), ?_⟩
                    generalize hid : vlo T E (sxo T E (some 0) wID) = idL at *
                    have wid : wrd idL = true := by
                      have hka := hLS.2.1
                      unfold hk at hka
                      rw [← wrd_kyl (no60 y4 (sxo_ok y4 (oE_some y4.1)).1), hid] at hka
                      exact hka
                    have cf : ∀ {c : Nat}, c ≠ 38 → c ≠ 50 → c < 52 → σf.1 c = σ6.1 c := fun {c} q1 q2 q3 => (w3 c q2).trans ((mi_uc_ne _ _ q1).trans (b8.1 c q1 (by omega)).1)
                    have kf : ∀ {j : Nat}, j ≠ 19 → j ≠ 22 → j ≠ 35 → σf.1 38 j = σ.1 38 j := fun {j} q1 q2 q3 => by
                      rw [w3 38 (by omega)]
                      exact (mi_upd_ne (σp.1 38) (nI (M + 1)) q1).trans (nk j q2 q3)
                    have k19 : σf.1 38 19 = nI (M + 1) := by
                      rw [w3 38 (by omega)]
                      exact mi_upd_same (σp.1 38) 19 (nI (M + 1))
                    have l49 : σf.2 49 = σ.2 49 := by
                      rw [w2]
                      rw [sA_2 (by omega), (nc 49 (by omega) (by omega) (by omega)).2]
                    have l51 : σf.2 51 = vp_updL (σ.2 51) M (lN (pck idL)) := by
                      rw [w2]
                      rw [sA_51, (nc 51 (by omega) (by omega) (by omega)).2]
                    have c6' : ∀ {c : Nat}, c < 5 ∨ 17 < c → c ≠ 36 → c ≠ 37 → c ≠ 29 → (c < 33 ∨ 35 < c) → c ≠ 38 → c ≠ 50 → c < 52 → σf.1 c = σ.1 c := fun {c} q1 q2 q3 q4 q5 q6 q7 q8 => (cf q6 q7 q8).trans (c6 c q1 q2 q3 q4 q5)
                    obtain ⟨I1, I2, I3, I4, I5, I6, I7, I8, I9, -⟩ := qI_skip n σ hI
                    unfold qI
                    rw [c6' (c := 1) (by omega) (by omega) (by omega) (by omega) (by omega) (by omega) (by omega) (by omega), c6' (c := 2) (by omega) (by omega) (by omega) (by omega) (by omega) (by omega) (by omega) (by omega), c6' (c := 3) (by omega) (by omega) (by omega) (by omega) (by omega) (by omega) (by omega) (by omega), c6' (c := 4) (by omega) (by omega) (by omega) (by omega) (by omega) (by omega) (by omega) (by omega), c6' (c := 39) (by omega) (by omega) (by omega) (by omega) (by omega) (by omega) (by omega) (by omega), c6' (c := 40) (by omega) (by omega) (by omega) (by omega) (by omega) (by omega) (by omega) (by omega), c6' (c := 0) (by omega) (by omega) (by omega) (by omega) (by omega) (by omega) (by omega) (by omega), c6' (c := 23) (by omega) (by omega) (by omega) (by omega) (by omega) (by omega) (by omega) (by omega), c6' (c := 19) (by omega) (by omega) (by omega) (by omega) (by omega) (by omega) (by omega) (by omega), c6' (c := 20) (by omega) (by omega) (by omega) (by omega) (by omega) (by omega) (by omega) (by omega), c6' (c := 21) (by omega) (by omega) (by omega) (by omega) (by omega) (by omega) (by omega) (by omega), c6' (c := 22) (by omega) (by omega) (by omega) (by omega) (by omega) (by omega) (by omega) (by omega), c6' (c := 41) (by omega) (by omega) (by omega) (by omega) (by omega) (by omega) (by omega) (by omega), c6' (c := 42) (by omega) (by omega) (by omega) (by omega) (by omega) (by omega) (by omega) (by omega), c6' (c := 43) (by omega) (by omega) (by omega) (by omega) (by omega) (by omega) (by omega) (by omega), c6' (c := 44) (by omega) (by omega) (by omega) (by omega) (by omega) (by omega) (by omega) (by omega), c6' (c := 24) (by omega) (by omega) (by omega) (by omega) (by omega) (by omega) (by omega) (by omega), c6' (c := 25) (by omega) (by omega) (by omega) (by omega) (by omega) (by omega) (by omega) (by omega), c6' (c := 26) (by omega) (by omega) (by omega) (by omega) (by omega) (by omega) (by omega) (by omega), c6' (c := 45) (by omega) (by omega) (by omega) (by omega) (by omega) (by omega) (by omega) (by omega), c6' (c := 46) (by omega) (by omega) (by omega) (by omega) (by omega) (by omega) (by omega) (by omega), c6' (c := 47) (by omega) (by omega) (by omega) (by omega) (by omega) (by omega) (by omega) (by omega), c6' (c := 48) (by omega) (by omega) (by omega) (by omega) (by omega) (by omega) (by omega) (by omega), c6' (c := 28) (by omega) (by omega) (by omega) (by omega) (by omega) (by omega) (by omega) (by omega), c6' (c := 30) (by omega) (by omega) (by omega) (by omega) (by omega) (by omega) (by omega) (by omega), c6' (c := 31) (by omega) (by omega) (by omega) (by omega) (by omega) (by omega) (by omega) (by omega), c6' (c := 32) (by omega) (by omega) (by omega) (by omega) (by omega) (by omega) (by omega) (by omega), kf (j := 4) (by omega) (by omega) (by omega), kf (j := 6) (by omega) (by omega) (by omega), kf (j := 2) (by omega) (by omega) (by omega), kf (j := 0) (by omega) (by omega) (by omega), kf (j := 1) (by omega) (by omega) (by omega), kf (j := 21) (by omega) (by omega) (by omega), kf (j := 11) (by omega) (by omega) (by omega), kf (j := 15) (by omega) (by omega) (by omega), k19, l49, l51, cf (c := 29) (by omega) (by omega) (by omega), cf (c := 33) (by omega) (by omega) (by omega), cf (c := 34) (by omega) (by omega) (by omega), cf (c := 35) (by omega) (by omega) (by omega)]
                    refine ⟨I1, I2, I3, I4, I5, I6, I7, I8, I9, ⟨m', sm1, sm2, sm3, fun j hj => ?_, fun j j1 j2 => ?_⟩, ⟨M + 1, by omega, t5, rfl, fun j hj => ?_⟩, h30, t6⟩
                    · obtain ⟨k', q1, q2, q3, q4, q5, q6, q7⟩ := hsl' j hj
                      refine ⟨k', sl' j, q1, q2, q3, q4, q5, q6, ?_⟩
                      rw [t4 j, w4 j, eqc j hj]
                      by_cases e : j < m' ∧ eM (bdy T E (some nm)) (σ.1 48) (σ.1 50) sl' (nI k) j = true
                      · rw [if_pos e, if_pos e]
                        exact Or.inr ⟨rfl, rfl⟩
                      · rw [if_neg e, if_neg e]
                        exact q7
                    · rw [w4 j, if_neg (by omega)]
                      exact sm5 j j1 j2
                    · obtain ⟨u1, u2⟩ := t7 j hj
                      by_cases e : j = M
                      · subst e
                        have u1 : okL (if j = j then idL else sl j) := u1
                        have u2 : iLab j _ _ (if j = j then idL else sl j) := u2
                        rw [if_pos rfl] at u1 u2
                        refine ⟨idL, u1, u2, ?_⟩
                        rw [mi_updL_same, pck_ok wid]
                      · have u1 : okL (if j = M then idL else sl j) := u1
                        have u2 : iLab j _ _ (if j = M then idL else sl j) := u2
                        rw [if_neg e] at u1 u2
                        refine ⟨sl j, u1, u2, ?_⟩
                        rw [mi_updL_ne _ _ e]
                        exact (hsl j (by omega)).2.2
