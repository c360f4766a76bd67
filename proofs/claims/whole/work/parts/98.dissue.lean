/-! issue -/
theorem above {a : Int32} {b b1 : Nat} {B : Int32} (hb : b < 2 ^ 31) (hB : B = nI b1) (e : b = b1 + 1) (h : (decide (¬ a < 0) && decide (a < nI b)) = false) (h1 : ¬ a < 0) : ¬ ¬ B < a := by
  intro z
  rw [decide_eq_true (p := ¬ a < 0) h1, Bool.true_and] at h
  refine of_decide_eq_false h ?_
  rcases pk_ix a (n := b) hb with q | q | ⟨j, hj, rfl⟩
  · exact absurd q h1
  · exfalso
    refine z ?_
    rw [hB]
    rw [Int32.lt_iff_toInt_lt, nI_toInt (by omega)]
    rw [Int32.le_iff_toInt_le, nI_toInt hb] at q
    omega
  · exact nI_lt hj hb
theorem qissue : qO4 qI := by
  intro a b c d e X n σ hn hI
  obtain ⟨hT0, hS, hCk, hSk, hLf, hIs, hK1, hK, -⟩ := id hI
  obtain ⟨T0, t1, t2, t3⟩ := hT0
  obtain ⟨i, i1, i2, i3⟩ := hIs
  obtain ⟨ck, ck0, ck1, ck2⟩ := hCk
  have refuse : RR X 9 6 [.ref 0, .int a, .int b, .int c, .int d, .int e] σ (some (.int 0), σ) → RR X 9 194 [.ref 38, .int a, .int b, .int c, .int d, .int e] σ (some (.int 0), σ) → ∃ (v : Int32) (σ1 σ2 : mG), RR X 9 6 [.ref 0, .int a, .int b, .int c, .int d, .int e] σ (some (.int v), σ1) ∧ RR X 9 194 [.ref 38, .int a, .int b, .int c, .int d, .int e] σ1 (some (.int v), σ2) ∧ qI (n + 1) σ2 := fun q1 q2 => ⟨0, σ, σ, q1, q2, qI_skip n σ hI⟩
  have n1 : ¬ (1 : Int32) = 0 := by decide
  by_cases ha : ¬ a < 0 ∧ ¬ 4 ≤ a
  · obtain ⟨k, hk, rfl⟩ := is4_of ha.1 ha.2
    have hin : mi_in (nI k) 4 = true := mi_in_nI hk (by omega)
    have k125 : ∀ {σ : mG}, RR X 8 125 [.int (nI k)] σ (some (.int 1), σ) := K125t ((is4 _).mp ha).1 ((is4 _).mp ha).2
    obtain ⟨q1, q2, q3⟩ := hK k hk
    have e43 : σ.1 43 (nI k).toNatClampNeg = σ.1 21 k := by rw [nI_clamp (by omega)]; exact q1
    by_cases z21 : σ.1 21 k = 0
    · refine refuse (mi_R.of rfl rfl ?_) (mi_R.of rfl rfl ?_)
      · have c95 : RR X 8 95 [.ref 18, .int (nI k)] σ (some (.int 0), σ) := mi_R.of rfl rfl (R95_0 (fun _ => rfl) (fun _ _ => rfl) (fun _ _ => hin) (fun _ _ _ => rfl) (fun _ _ z => absurd (by rw [nI_clamp (by omega)]; exact z21) z))
        apply R6_0 (v2 := 0) (σ2 := σ) (v3 := 0) (σ3 := σ) (v4 := 0) (σ4 := σ) (v5 := 0) (σ5 := σ) (σ6 := σ) (σ7 := σ) (σ8 := σ) c95
        case k1 => exact fun _ => rfl
        all_goals exact fun w => absurd rfl w
      · apply R194_0 (σ2 := σ) (v2 := 0) (σ3 := σ) k125
        case k1 => exact fun w => absurd w n1
        case b1 => exact fun _ => hin
        case k2 => exact fun _ _ => rfl
        all_goals exact fun _ w => absurd (e43.trans z21) w
    · have c95 : RR X 8 95 [.ref 18, .int (nI k)] σ (some (.int 1), σ) := K95t hk z21
      have n43 : ¬ σ.1 43 (nI k).toNatClampNeg = 0 := by rw [e43]; exact z21
      have cb := K13 (X := X) (d := 7) (x := 0) (b := 100) (a := b) (by omega) (σ := σ)
      have cc := K13 (X := X) (d := 7) (x := 0) (b := 100) (a := c) (by omega) (σ := σ)
      have cd := K13 (X := X) (d := 7) (x := 0) (b := 1000) (a := d) (by omega) (σ := σ)
      have ce := K13 (X := X) (d := 7) (x := 0) (b := 4) (a := e) (by omega) (σ := σ)
      by_cases hall : (decide (¬ b < 0) && decide (b < nI 100)) = true ∧ (decide (¬ c < 0) && decide (c < nI 100)) = true ∧ (decide (¬ d < 0) && decide (d < nI 1000)) = true ∧ (decide (¬ e < 0) && decide (e < nI 4)) = true
      · obtain ⟨hb, hc, hd, he⟩ := hall
        rw [hb] at cb
        rw [hc] at cc
        rw [hd] at cd
        rw [he] at ce
        obtain ⟨r, hr, rfl⟩ := below (by omega) hb
        obtain ⟨u, hu, rfl⟩ := below (by omega) hc
        obtain ⟨t, ht, rfl⟩ := below (by omega) hd
        obtain ⟨h, hh, rfl⟩ := below (by omega) he
        obtain ⟨N, D, m1, m2, m3, m4, m5, m6⟩ := q3.resolve_left z21
        have nt' : ¬ bI true = 0 := by decide
        have pg0 : pgC σ T0 := ⟨t1, t2⟩
        obtain ⟨s6, c6, f6, p6⟩ := K43 (X := X) (d := 7) (k := 0) pg0 (Nat.zero_le _)
        rw [List.take_zero] at p6
        have g6 := f6.fI
        obtain ⟨s7, c7, f7, p7⟩ := K7 (X := X) (d := 4) (i := i) (r := r) (k := k) (by omega) (by omega) (by omega) p6 (by rw [g6.2 0 (by omega) (by omega) (by omega)]; exact i2) (by show 0 + 86 ≤ 400; omega)
        have g7 := g6.tr f7.fI
        have lH := len_cHead i r k
        have lA := len_cAssn i k r u (ck + t) ck
        obtain ⟨s8, c8, f8, p8⟩ := K8 (X := X) (d := 4) (i := i) (k := k) (r := r) (u := u) (e := ck + t) (c := ck) (by omega) (by omega) (by omega) (by omega) (by omega) (by omega) p7 (by rw [g7.2 0 (by omega) (by omega) (by omega)]; exact i2) (by rw [g7.2 0 (by omega) (by omega) (by omega)]; exact ck1) (by simp only [List.length_append, List.length_nil]; omega)
        have g8 := g7.tr f8.fI
        have c8 : RR X 8 8 [.ref 0, .int (nI k), .int (nI r), .int (nI u), .int (s7.1 0 12 + nI t)] s7 (none, s8) := by
          rw [show s7.1 0 12 + nI t = nI (ck + t) from by rw [g7.2 0 (by omega) (by omega) (by omega), ck1, nI_add]]
          exact c8
        generalize hP : [] ++ cHead i r k ++ cAssn i k r u (ck + t) ck = P at p8
        have lP : P.length ≤ 269 := by
          rw [← hP]
          simp only [List.length_append, List.length_nil]
          omega
        have lw15 : w1015.length = 14 := rfl
        have lw19 : w1019.length = 7 := rfl
        have lw20 : w1020.length = 7 := rfl
        have eI : ∀ v w, P ++ oSig 97 i v ++ w1019 ++ oSig 114 i w ++ w1020 = tI i r k u (ck + t) ck v w := fun v w => by
          rw [← hP]
          unfold tI
          simp only [List.append_assoc, List.nil_append]
        have eI0 : P ++ w1015 = tI i r k u (ck + t) ck none none := by
          rw [← eI none none]
          show _ = P ++ [] ++ w1019 ++ [] ++ w1020
          rw [List.append_nil, List.append_nil, List.append_assoc]
          rfl
        have eI1 : ∀ v, P ++ oSig 97 i v ++ w1019 ++ w1020 = tI i r k u (ck + t) ck v none := fun v => by
          rw [← eI v none]
          show _ = P ++ oSig 97 i v ++ w1019 ++ [] ++ w1020
          rw [List.append_nil]
        have lI : ∀ v w, (tI i r k u (ck + t) ck v w).length ≤ 400 := fun v w => by
          have l1 := len_oSig 97 i v
          have l2 := len_oSig 114 i w
          rw [← eI v w]
          simp only [List.length_append]
          omega
        have e81 : s8.1 1 1 = nI P.length := p8.2.1
        have T0' : ∀ {rr : mA mG}, (h = 1 ∨ h = 3 → TT X 8 tb6 (some .boolean) (100, [some (.ref 0), some (.int (nI k)), some (.int (nI r)), some (.int (nI u)), some (.int (nI t)), some (.int (nI h)), some (.int (nI P.length)), none, none], [], s8) rr) → (¬ (h = 1 ∨ h = 3) → TT X 8 tb6 (some .boolean) (134, [some (.ref 0), some (.int (nI k)), some (.int (nI r)), some (.int (nI u)), some (.int (nI t)), some (.int (nI h)), some (.int (nI P.length)), none, none], [], s8) rr) → RR X 9 6 [.ref 0, .int (nI k), .int (nI r), .int (nI u), .int (nI t), .int (nI h)] σ rr := by
          intro rr w1 w2
          have x1 : nI h = 1 ↔ h = 1 := nI_eq (b := 1) (by omega) (by omega)
          have x3 : nI h = 3 ↔ h = 3 := nI_eq (b := 3) (by omega) (by omega)
          refine mi_R.of rfl rfl ?_
          apply R6_0 (σ6 := s6) (σ7 := s7) (σ8 := s8) c95
          case k1 => exact fun w => absurd w n1
          case c2 => exact fun _ => cb
          case k2 => exact fun _ w => absurd w nt'
          case c3 => exact fun _ _ => cc
          case k3 => exact fun _ _ w => absurd w nt'
          case c4 => exact fun _ _ _ => cd
          case k4 => exact fun _ _ _ w => absurd w nt'
          case c5 => exact fun _ _ _ _ => ce
          case c6 => exact fun _ _ _ _ _ => c6
          case c7 => exact fun _ _ _ _ _ => c7
          case c8 => exact fun _ _ _ _ _ => c8
          case k5 =>
            intro _ _ _ _ _ y
            rw [e81]
            exact w1 (Or.inl (x1.mp y))
          case k6 =>
            intro _ _ _ _ _ y1 y2
            rw [e81]
            exact w2 fun z => z.elim (fun z => y1 (x1.mpr z)) (fun z => y2 (x3.mpr z))
          case k7 =>
            intro _ _ _ _ _ _ y2
            rw [e81]
            exact w1 (Or.inr (x3.mp (Decidable.not_not.mp y2)))
          case k8 => exact fun _ _ _ _ w => absurd nt' w
        -- the first sig
        have stA : ∃ (vo : Option Nat) (σA : mG), fI s8 σA ∧ pgC σA (P ++ oSig 97 i vo) ∧ (∀ rr, (∀ u7, TT X 8 tb6 (some .boolean) (134, [some (.ref 0), some (.int (nI k)), some (.int (nI r)), some (.int (nI u)), some (.int (nI t)), some (.int (nI h)), some (.int (nI P.length)), u7, none], [], σA) rr) → RR X 9 6 [.ref 0, .int (nI k), .int (nI r), .int (nI u), .int (nI t), .int (nI h)] σ rr) ∧ (vo = none ∧ h % 2 = 0 ∨ vo = some (sgv (tI i r k u (ck + t) ck none none) 3 N D) ∧ h % 2 = 1) := by
          by_cases hh1 : h = 1 ∨ h = 3
          · obtain ⟨x1, x2, x3, x4, y1, y2, y3, y4, y5, y6⟩ := Csig (X := X) (d := 0) (w := 1015) (W := w1015) (x := 97) (i := i) (k := k) (e := 3) (N := N) (D := D) ⟨rfl, by decide, by decide⟩ (by unfold okC; decide) p8 (by omega) (by omega) (by rw [eI0]; exact tI_read _ _ _ _ _ _ _ _ (lI _ _)) hk (by omega) m2 (by omega) (by rw [g8.2 21 (by omega) (by omega) (by omega)]; exact m5) (by rw [g8.2 22 (by omega) (by omega) (by omega)]; exact m6) (by omega) (by omega) (by rw [g8.2 0 (by omega) (by omega) (by omega)]; exact i2)
            rw [eI0] at y2 y4 y6
            refine ⟨some (sgv (tI i r k u (ck + t) ck none none) 3 N D), x4, y5, y6, fun rr w => T0' (fun _ => R6_100 y1 y2 y3 y4 (w _)) (fun z => absurd hh1 z), Or.inr ⟨rfl, by omega⟩⟩
          · refine ⟨none, s8, fI.rfl', ?_, fun rr w => T0' (fun z => absurd z hh1) (fun _ => w none), Or.inl ⟨rfl, by omega⟩⟩
            show pgC s8 (P ++ [])
            rw [List.append_nil]
            exact p8
        obtain ⟨vo, σA, fA, pA, tA, hvo⟩ := stA
        have gA := g8.tr fA
        have hvo9 : ∀ z, vo = some z → z < 1000000000 := fun z hz => by
          rcases hvo with ⟨w, -⟩ | ⟨w, -⟩
          · rw [w] at hz
            cases hz
          · rw [w] at hz
            injection hz with hz
            have := sgv_lt (T := tI i r k u (ck + t) ck none none) (e := 3) (D := D) (N := N) (by omega)
            omega
        have lV := len_oSig 97 i vo
        obtain ⟨σB, cB, fB', pB⟩ := K41i (X := X) (d := 6) (w := 1019) (W := w1019) ⟨rfl, by decide, by decide⟩ (by unfold okC; decide) pA (by simp only [List.length_append]; omega)
        have gB := gA.tr fB'
        have eB1 : σB.1 1 1 = nI (P ++ oSig 97 i vo ++ w1019).length := pB.2.1
        have lQ : (P ++ oSig 97 i vo ++ w1019).length ≤ 315 := by
          simp only [List.length_append]
          omega
        have TB : ∀ {rr : mA mG}, (h = 2 ∨ h = 3 → ∀ x6, TT X 8 tb6 (some .boolean) (164, [some (.ref 0), some (.int (nI k)), some (.int (nI r)), some (.int (nI u)), some (.int (nI t)), some (.int (nI h)), some (.int x6), some (.int (nI (P ++ oSig 97 i vo ++ w1019).length)), none], [], σB) rr) → (¬ (h = 2 ∨ h = 3) → ∀ x6, TT X 8 tb6 (some .boolean) (198, [some (.ref 0), some (.int (nI k)), some (.int (nI r)), some (.int (nI u)), some (.int (nI t)), some (.int (nI h)), some (.int x6), some (.int (nI (P ++ oSig 97 i vo ++ w1019).length)), none], [], σB) rr) → RR X 9 6 [.ref 0, .int (nI k), .int (nI r), .int (nI u), .int (nI t), .int (nI h)] σ rr := by
          intro rr w1 w2
          have x2 : nI h = 2 ↔ h = 2 := nI_eq (b := 2) (by omega) (by omega)
          have x3 : nI h = 3 ↔ h = 3 := nI_eq (b := 3) (by omega) (by omega)
          refine tA rr fun u7 => R6_134 cB (fun y => ?_) (fun y1 y2 => ?_) (fun _ y2 => ?_)
          · rw [eB1]
            exact w1 (Or.inl (x2.mp y)) _
          · rw [eB1]
            exact w2 (fun z => z.elim (fun z => y1 (x2.mpr z)) (fun z => y2 (x3.mpr z))) _
          · rw [eB1]
            exact w1 (Or.inr (x3.mp (Decidable.not_not.mp y2))) _
        have stC : ∃ (wo : Option Nat) (σC : mG), fI σB σC ∧ pgC σC (P ++ oSig 97 i vo ++ w1019 ++ oSig 114 i wo) ∧ (∀ rr, (∀ x6 u8, TT X 8 tb6 (some .boolean) (198, [some (.ref 0), some (.int (nI k)), some (.int (nI r)), some (.int (nI u)), some (.int (nI t)), some (.int (nI h)), some (.int x6), some (.int (nI (P ++ oSig 97 i vo ++ w1019).length)), u8], [], σC) rr) → RR X 9 6 [.ref 0, .int (nI k), .int (nI r), .int (nI u), .int (nI t), .int (nI h)] σ rr) ∧ (wo = none ∧ h < 2 ∨ wo = some (sgv (tI i r k u (ck + t) ck vo none) 0 N D) ∧ 2 ≤ h) := by
          by_cases hh2 : h = 2 ∨ h = 3
          · have rd : okRd (P ++ oSig 97 i vo ++ w1019 ++ w1020) 0 := by
              rw [eI1]
              obtain ⟨r1, y, r2, r3, r4⟩ := tI_read i r k u (ck + t) ck vo none (lI _ _)
              exact ⟨r1, y, r2, by omega, r4⟩
            obtain ⟨x1, x2, x3, x4, y1, y2, y3, y4, y5, y6⟩ := Csig (X := X) (d := 0) (w := 1020) (W := w1020) (x := 114) (i := i) (k := k) (e := 0) (N := N) (D := D) ⟨rfl, by decide, by decide⟩ (by unfold okC; decide) pB (by omega) (by omega) rd hk (by omega) m2 (by omega) (by rw [gB.2 21 (by omega) (by omega) (by omega)]; exact m5) (by rw [gB.2 22 (by omega) (by omega) (by omega)]; exact m6) (by omega) (by omega) (by rw [gB.2 0 (by omega) (by omega) (by omega)]; exact i2)
            rw [eI1] at y2 y4 y6
            exact ⟨some (sgv (tI i r k u (ck + t) ck vo none) 0 N D), x4, y5, y6, fun rr w => TB (fun _ x6 => R6_164 y1 y2 y3 y4 (w x6 _)) (fun z => absurd hh2 z), Or.inr ⟨rfl, by omega⟩⟩
          · refine ⟨none, σB, fI.rfl', ?_, fun rr w => TB (fun z => absurd z hh2) (fun _ x6 => w x6 none), Or.inl ⟨rfl, by omega⟩⟩
            show pgC σB (P ++ oSig 97 i vo ++ w1019 ++ [])
            rw [List.append_nil]
            exact pB
        obtain ⟨wo, σC, fC', pC, tC, hwo⟩ := stC
        have gC := gB.tr fC'
        have hwo9 : ∀ z, wo = some z → z < 1000000000 := fun z hz => by
          rcases hwo with ⟨w, -⟩ | ⟨w, -⟩
          · rw [w] at hz
            cases hz
          · rw [w] at hz
            injection hz with hz
            have := sgv_lt (T := tI i r k u (ck + t) ck vo none) (e := 0) (D := D) (N := N) (by omega)
            omega
        have lW := len_oSig 114 i wo
        obtain ⟨σD, cD, fD', pD⟩ := K41i (X := X) (d := 6) (w := 1020) (W := w1020) ⟨rfl, by decide, by decide⟩ (by unfold okC; decide) pC (by rw [List.length_append]; omega)
        have gD := gC.tr fD'
        rw [eI] at pD
        have eD13 : σD.1 0 13 = nI i := by rw [gD.2 0 (by omega) (by omega) (by omega)]; exact i2
        let σc := u36 σD 0 13 (nI (i + 1))
        have ccl : RR X 9 6 [.ref 0, .int (nI k), .int (nI r), .int (nI u), .int (nI t), .int (nI h)] σ (some (.int 1), σc) := by
          refine tC _ fun x6 u8 => R6_198 cD ?_
          rw [eD13, nI_1]
          rfl
        -- the reference
        have gc : ∀ c, c ≠ 0 → c ≠ 1 → c ≠ 2 → (c < 5 ∨ 17 < c) → σc.1 c = σ.1 c := fun c w1 w2 w3 w4 => (u36_c w1).trans (gD.2 c w2 w3 w4)
        have gc38 : σc.1 38 = σ.1 38 := gc 38 (by omega) (by omega) (by omega) (by omega)
        have e43' : σc.1 43 (nI k).toNatClampNeg = σ.1 21 k := by rw [gc 43 (by omega) (by omega) (by omega) (by omega)]; exact e43
        have e43N : σc.1 43 k = nI N := by rw [gc 43 (by omega) (by omega) (by omega) (by omega)]; exact q1.trans m5
        have e44D : σc.1 44 k = nI D := by rw [gc 44 (by omega) (by omega) (by omega) (by omega)]; exact q2.trans m6
        have fill : ∀ (τ : mG) (v w : Option Nat), fJ σc τ ∨ τ = σc → (∀ z, v = some z → z < 1000000000) → (∀ z, w = some z → z < 1000000000) → ∃ τ', RR X 8 192 [.ref 38, .int (nI k), .int (nI r), .int (nI u), .int (nI t), .int (oI v), .int (oI w)] τ (none, τ') ∧ fJ σc τ' ∧ pgM τ' (tI i r k u (ck + t) ck v w) := by
          intro τ v w hτ hv hw
          have k21 : τ.1 38 21 = nI i := by
            rcases hτ with z | z
            · rw [z.2 21 (by omega) (by omega) (by omega), gc38]
              exact i3
            · rw [z, gc38]
              exact i3
          have k2 : τ.1 38 2 = nI ck := by
            rcases hτ with z | z
            · rw [z.2 2 (by omega) (by omega) (by omega), gc38]
              exact ck2
            · rw [z, gc38]
              exact ck2
          obtain ⟨τ', z1, z2, z3⟩ := K192 (X := X) (d := 4) (i := i) (r := r) (k := k) (u := u) (t := t) (c := ck) (v := v) (w := w) (σ := τ) (by omega) (by omega) (by omega) (by omega) (by omega) (by omega) hv hw k21 k2
          refine ⟨τ', z1, ?_, z3⟩
          rcases hτ with z | z
          · exact z.tr z2.fJ
          · rw [z] at z2
            exact z2.fJ
        have sig : ∀ (τ : mG) (v : Option Nat) (e : Nat), fJ σc τ → pgM τ (tI i r k u (ck + t) ck v none) → e ≤ 3 → ∃ τ', RR X 8 193 [.ref 38, .int (nI k), .int (nI e)] τ (some (.int (nI (sgv (tI i r k u (ck + t) ck v none) e N D))), τ') ∧ fJ σc τ' := by
          intro τ v e hτ pτ he3
          obtain ⟨r1, y, r2, r3, r4⟩ := tI_read i r k u (ck + t) ck v none (lI _ _)
          obtain ⟨τ', z1, z2, -⟩ := K193 (X := X) (d := 2) (k := k) (e := e) (N := N) (D := D) pτ ⟨r1, y, r2, by omega, r4⟩ hk (by omega) (by omega) m4 (by rw [(hτ.1 43 (by omega) (by omega) (by omega)).1]; exact e43N) (by rw [(hτ.1 44 (by omega) (by omega) (by omega)).1]; exact e44D)
          exact ⟨τ', z1, hτ.tr z2⟩
        obtain ⟨τ1, b1, j1, pm1⟩ := fill σc none none (Or.inr rfl) (fun z hz => by cases hz) (fun z hz => by cases hz)
        have hand : nI h &&& 1 = nI (h % 2) := pk_andN (by omega) (k := 1) rfl
        have hand1 : nI h &&& 1 = 1 ↔ h % 2 = 1 := by
          rw [hand]
          exact nI_eq (b := 1) (by omega) (by omega)
        have zr : ¬ nI r < 0 := nI_pos (by omega)
        have zr9 : ¬ (99 : Int32) < nI r := nI_nlt (a := 99) (by omega) (by omega)
        have zu : ¬ nI u < 0 := nI_pos (by omega)
        have zu9 : ¬ (99 : Int32) < nI u := nI_nlt (a := 99) (by omega) (by omega)
        have zt : ¬ nI t < 0 := nI_pos (by omega)
        have zt9 : ¬ (999 : Int32) < nI t := nI_nlt (a := 999) (by omega) (by omega)
        have zh : ¬ nI h < 0 := nI_pos (by omega)
        have zh3 : nI h ≤ 3 := nI_le (b := 3) (by omega) (by omega)
        have n43' : ¬ σc.1 43 (nI k).toNatClampNeg = 0 := by rw [e43']; exact z21
        have m0 : ∃ τ2, fJ σc τ2 ∧ ∀ rr, TT X 8 tb194 (some .boolean) (91, [some (.ref 38), some (.int (nI k)), some (.int (nI r)), some (.int (nI u)), some (.int (nI t)), some (.int (nI h)), none, none], [.int (oI vo)], τ2) rr → RR X 9 194 [.ref 38, .int (nI k), .int (nI r), .int (nI u), .int (nI t), .int (nI h)] σc rr := by
          rcases hvo with ⟨w1, w2⟩ | ⟨w1, w2⟩
          · subst w1
            refine ⟨τ1, j1, fun rr w => mi_R.of rfl rfl ?_⟩
            have ne : ¬ nI h &&& 1 = 1 := fun z => by have := hand1.mp z; omega
            apply R194_0 (σ2 := τ1) (v2 := 0) (σ3 := σ) k125
            case k1 => exact fun w => absurd w n1
            case b1 => exact fun _ => hin
            case k2 => exact fun _ w => absurd w n43'
            case k3 => exact fun _ _ w => absurd w zr
            case k4 => exact fun _ _ _ w => absurd w zr9
            case k5 => exact fun _ _ _ _ w => absurd w zu
            case k6 => exact fun _ _ _ _ _ w => absurd w zu9
            case k7 => exact fun _ _ _ _ _ _ w => absurd w zt
            case k8 => exact fun _ _ _ _ _ _ _ w => absurd w zt9
            case k9 => exact fun _ _ _ _ _ _ _ _ w => absurd w zh
            case c2 => exact fun _ _ _ _ _ _ _ _ _ _ => b1
            case k10 => exact fun _ _ _ _ _ _ _ _ _ _ _ => w
            case c3 => exact fun _ _ _ _ _ _ _ _ _ _ w => absurd ne w
            case k11 => exact fun _ _ _ _ _ _ _ _ _ _ w => absurd ne w
            case k12 => exact fun _ _ _ _ _ _ _ _ _ w => absurd zh3 w
          · obtain ⟨τ2, b2, j2⟩ := sig τ1 none 3 j1 pm1 (Nat.le_refl _)
            subst w1
            refine ⟨τ2, j2, fun rr w => mi_R.of rfl rfl ?_⟩
            have ye := hand1.mpr w2
            apply R194_0 (σ2 := τ1) (v2 := nI (sgv (tI i r k u (ck + t) ck none none) 3 N D)) (σ3 := τ2) k125
            case k1 => exact fun w => absurd w n1
            case b1 => exact fun _ => hin
            case k2 => exact fun _ w => absurd w n43'
            case k3 => exact fun _ _ w => absurd w zr
            case k4 => exact fun _ _ _ w => absurd w zr9
            case k5 => exact fun _ _ _ _ w => absurd w zu
            case k6 => exact fun _ _ _ _ _ w => absurd w zu9
            case k7 => exact fun _ _ _ _ _ _ w => absurd w zt
            case k8 => exact fun _ _ _ _ _ _ _ w => absurd w zt9
            case k9 => exact fun _ _ _ _ _ _ _ _ w => absurd w zh
            case c2 => exact fun _ _ _ _ _ _ _ _ _ _ => b1
            case k10 => exact fun _ _ _ _ _ _ _ _ _ _ w => absurd ye w
            case c3 => exact fun _ _ _ _ _ _ _ _ _ _ _ => b2
            case k11 => exact fun _ _ _ _ _ _ _ _ _ _ _ => w
            case k12 => exact fun _ _ _ _ _ _ _ _ _ w => absurd zh3 w
        obtain ⟨τ2, j2, t91⟩ := m0
        obtain ⟨τ3, b3, j3, pm3⟩ := fill τ2 vo none (Or.inl j2) hvo9 (fun z hz => by cases hz)
        have x2 : nI h < 2 ↔ h < 2 := nI_ltI (b := 2) (by omega) (by omega)
        have m1' : ∃ τ4, fJ σc τ4 ∧ ∀ rr, TT X 8 tb194 (some .boolean) (121, [some (.ref 38), some (.int (nI k)), some (.int (nI r)), some (.int (nI u)), some (.int (nI t)), some (.int (nI h)), some (.int (oI vo)), none], [.int (oI wo)], τ4) rr → RR X 9 194 [.ref 38, .int (nI k), .int (nI r), .int (nI u), .int (nI t), .int (nI h)] σc rr := by
          rcases hwo with ⟨w1, w2⟩ | ⟨w1, w2⟩
          · subst w1
            exact ⟨τ3, j3, fun rr w => t91 rr (R194_91 (v1 := 0) (σ2 := σ) b3 (fun _ => w) (fun z => absurd (x2.mpr w2) z) (fun z => absurd (x2.mpr w2) z))⟩
          · obtain ⟨τ4, b4, j4⟩ := sig τ3 vo 0 j3 pm3 (by omega)
            subst w1
            have nx2 : ¬ nI h < 2 := fun z => by have := x2.mp z; omega
            exact ⟨τ4, j4, fun rr w => t91 rr (R194_91 b3 (fun z => absurd z nx2) (fun _ => b4) (fun _ => w))⟩
        obtain ⟨τ4, j4, t121⟩ := m1'
        obtain ⟨τ5, b5, j5, pm5⟩ := fill τ4 vo wo (Or.inl j4) hvo9 hwo9
        have e21 : τ5.1 38 21 = nI i := by
          rw [j5.2 21 (by omega) (by omega) (by omega), gc38]
          exact i3
        refine ⟨1, σc, u36 τ5 38 21 (nI (i + 1)), ccl, t121 _ (R194_121 b5 ?_), fin_qI hn hI i2 i1 gD pD j5 pm5⟩
        rw [e21, nI_1]
        rfl
      · refine refuse (mi_R.of rfl rfl ?_) (mi_R.of rfl rfl ?_)
        · apply R6_0 (σ6 := σ) (σ7 := σ) (σ8 := σ) c95
          case k1 => exact fun w => absurd w n1
          case c2 => exact fun _ => cb
          case k2 => exact fun _ _ => rfl
          case c3 => exact fun _ _ => cc
          case k3 => exact fun _ _ _ => rfl
          case c4 => exact fun _ _ _ => cd
          case k4 => exact fun _ _ _ _ => rfl
          case c5 => exact fun _ _ _ _ => ce
          case k8 => exact fun _ _ _ _ _ => rfl
          all_goals exact fun _ w1 w2 w3 w4 => absurd ⟨bI_n0.mp w1, bI_n0.mp w2, bI_n0.mp w3, bI_n0.mp w4⟩ hall
        · have key : ¬ b < 0 → ¬ 99 < b → ¬ c < 0 → ¬ 99 < c → ¬ d < 0 → ¬ 999 < d → ¬ e < 0 → e ≤ 3 → False := by
            intro w1 w2 w3 w4 w5 w6 w7 w8
            refine hall ⟨nt fun z => above (b1 := 99) (by omega) rfl rfl z w1 w2, nt fun z => above (b1 := 99) (by omega) rfl rfl z w3 w4, nt fun z => above (b1 := 999) (by omega) rfl rfl z w5 w6, nt fun z => above (b1 := 3) (B := 3) (by omega) rfl rfl z w7 (Int32.not_lt.mpr w8)⟩
          apply R194_0 (σ2 := σ) (v2 := 0) (σ3 := σ) k125
          case k1 => exact fun _ => rfl
          case b1 => exact fun _ => hin
          case k2 => exact fun _ _ => rfl
          case k3 => exact fun _ _ _ => rfl
          case k4 => exact fun _ _ _ _ => rfl
          case k5 => exact fun _ _ _ _ _ => rfl
          case k6 => exact fun _ _ _ _ _ _ => rfl
          case k7 => exact fun _ _ _ _ _ _ _ => rfl
          case k8 => exact fun _ _ _ _ _ _ _ _ => rfl
          case k9 => exact fun _ _ _ _ _ _ _ _ _ => rfl
          case k12 => exact fun _ _ _ _ _ _ _ _ _ _ => rfl
          all_goals exact fun _ _ w1 w2 w3 w4 w5 w6 w7 w8 => (key w1 w2 w3 w4 w5 w6 w7 w8).elim
  · refine refuse (mi_R.of rfl rfl ?_) (mi_R.of rfl rfl ?_)
    · have c95 : RR X 8 95 [.ref 18, .int a] σ (some (.int 0), σ) := mi_R.of rfl rfl (R95_0 (fun _ => rfl) (fun _ _ => rfl) (fun z y => absurd ⟨z, y⟩ ha) (fun _ _ _ => rfl) (fun z y => absurd ⟨z, y⟩ ha))
      apply R6_0 (v2 := 0) (σ2 := σ) (v3 := 0) (σ3 := σ) (v4 := 0) (σ4 := σ) (v5 := 0) (σ5 := σ) (σ6 := σ) (σ7 := σ) (σ8 := σ) c95
      case k1 => exact fun _ => rfl
      all_goals exact fun w => absurd rfl w
    · have k125 : RR X 8 125 [.int a] σ (some (.int 0), σ) := K125f fun z => ha ((is4 _).mpr z)
      apply R194_0 (σ2 := σ) (v2 := 0) (σ3 := σ) k125
      case k1 => exact fun _ => rfl
      all_goals exact fun w => absurd rfl w
