/-! The reference's look at the shapes -/
theorem tf {b : Bool} (h1 : b = false) (h2 : b = true) : False := by
  rw [h1] at h2
  cases h2
theorem nt {b : Bool} (h : ¬ b = false) : b = true := by
  cases b with
  | true => rfl
  | false => exact absurd rfl h
theorem no60 {T : List Nat} {n : Nat} {E : Nat → mEl} (g : gM T n E) {o : Option Nat} (ho : okS n E o) : 60 ∉ vlo T E o := by
  intro hm
  cases o with
  | none =>
    have : vlo T E none = [] := seg_nil (Nat.le_refl _)
    rw [this] at hm
    cases hm
  | some s =>
    obtain ⟨⟨-, g4, g5⟩, ⟨-, -, -, q4⟩, -⟩ := sv_gA g (ho s rfl)
    exact seg_all (P := fun c => c ≠ 60) _ ((sv E s).2.1 + 2) (sv E s).2.2 rfl (Nat.le_of_lt g5) (fun i h1 h2 => q4 i h1 h2) 60 hm rfl
theorem wrd_kyl {l : List Nat} (h : 60 ∉ l) : wrd l = kyl l := by
  unfold wrd kyl
  rw [decide_eq_true h, Bool.and_true]
section
variable {X : Nat × (Nat → Int32)} {d : Nat} {T : List Nat} {n : Nat} {E : Nat → mEl} {σ : mG}
theorem hk_I (h : cM T n E σ) {e : Nat} {W : List Nat} (he : e < n) : lg_cmp (lN (pck (vlo T E (sxo T E (some e) W)))) 0 = 0 ↔ hk T E (some e) W = false := by
  have := w0 (l := vlo T E (sxo T E (some e) W)) (seg_okC h.1 _ _)
  rw [this]
  unfold hk
  rw [← wrd_kyl (no60 h.2.2.1 (sxo_ok h.2.2.1 (oE_some he)).1)]
theorem hs_I (h : cM T n E σ) {e : Nat} {W : List Nat} (he : e < n) (hW : okN 6 W) : oI (msl T E e W) < 0 ↔ hs T E (some e) W = false := by
  rw [oI_neg (msl_31 h he hW)]
  unfold hs
  rw [← msl_some h he hW]
  cases msl T E e W with
  | none => exact ⟨fun _ => rfl, fun _ => rfl⟩
  | some m => exact ⟨fun z => (by cases z), fun z => (by cases z)⟩
theorem hn_I {o : Option Nat} {W : List Nat} : oI (num (vlo T E (sxo T E o W))) < 0 ↔ hn T E o W = false := by
  rw [oI_neg num_31]
  unfold hn
  cases num (vlo T E (sxo T E o W)) with
  | none => exact ⟨fun _ => rfl, fun _ => rfl⟩
  | some m => exact ⟨fun z => (by cases z), fun z => (by cases z)⟩
theorem hk_none {W : List Nat} : hk T E none W = false := by
  unfold hk
  have : vlo T E none = [] := seg_nil (Nat.le_refl _)
  show kyl (vlo T E none) = false
  rw [this]
  rfl
theorem hw_none : hw T E none = false := by
  unfold hw
  have : bdy T E none = [] := seg_nil (Nat.le_refl _)
  rw [this]
  rfl
theorem hs_none {W : List Nat} : hs T E none W = false := rfl
theorem K174 (h : cM T n E σ) : RR X (d + 4) 174 [.ref 38] σ (some (.int (bI (isR T n E))), σ) := by
  have hn20 := h.2.2.1.2.1
  have h0 : 0 < n := h.2.2.1.1
  have ex : ∀ {σ' : mG}, ¬ RS T n E → ((some (Value.int (bI (isR T n E))), σ') : mA mG) = (some (.int 0), σ') := fun q => bI_s fun z => q (isR_iff.mp z)
  have okID : okN 6 wID := ⟨by decide, by decide⟩
  have okTo : okN 6 wTo := ⟨by decide, by decide⟩
  have okIrt : okN 6 wIrt := ⟨by decide, by decide⟩
  have okIss : okN 6 wIss := ⟨by decide, by decide⟩
  have okStat : okN 6 wStat := ⟨by decide, by decide⟩
  have okAssn : okN 6 wAssn := ⟨by decide, by decide⟩
  have okCond : okN 6 wCond := ⟨by decide, by decide⟩
  have okSubj : okN 6 wSubj := ⟨by decide, by decide⟩
  have okName : okN 6 wName := ⟨by decide, by decide⟩
  have okConf : okN 6 wConf := ⟨by decide, by decide⟩
  have okAud : okN 6 wAud := ⟨by decide, by decide⟩
  have okNb : okN 6 wNb := ⟨by decide, by decide⟩
  have okNoa : okN 6 wNoa := ⟨by decide, by decide⟩
  have okRcp : okN 6 wRcp := ⟨by decide, by decide⟩
  have okResp : okN 6 wResp := ⟨by decide, by decide⟩
  have n1 : ¬ (1 : Int32) = 0 := by decide
  have e1 : ∀ {o : Option Nat} {W : List Nat}, nI (ccN T n E o W) = 1 ↔ ccN T n E o W = 1 := fun {o W} => nI_eq (b := 1) (ccN_31 h) (by omega)
  have t0 : ¬ RS T n E → TT X (d + 3) tb174 (some .boolean) (60, [some (.ref 38), none, none, none, none, none, none], [], σ) (some (.int (bI (isR T n E))), σ) := fun q => by
    refine R174_60 ?_
    apply R174_61 (v1 := 0) (σ1 := σ) (v2 := 0) (σ2 := σ) (v3 := 0) (σ3 := σ) (v4 := 0) (σ4 := σ) (v5 := 0) (σ5 := σ) (v6 := 0) (σ6 := σ) (v7 := 0) (σ7 := σ) (v8 := 0) (σ8 := σ) (v9 := 0) (σ9 := σ) (v10 := 0) (σ10 := σ) (v11 := 0) (σ11 := σ) (v12 := 0) (σ12 := σ) (v13 := 0) (σ13 := σ) (v14 := 0) (σ14 := σ)
    case k1 => exact fun _ => ex q
    all_goals exact fun y => absurd rfl y
  have t1 : nmL T (E 0) = wResp → hk T E (some 0) wID = true → hs T E (some 0) wTo = true → hs T E (some 0) wIrt = true → ssg T n E (some 0) = true → TT X (d + 3) tb174 (some .boolean) (61, [some (.ref 38), none, none, none, none, none, none], [.int 1], σ) (some (.int (bI (isR T n E))), σ) := by
    intro p1 p2 p3 p4 p5
    have c1 : RR X (d + 3) 171 [.ref 38, .int 0, .long 115944571535360] σ (some (.int (bI (hw T E (pIss T n E)))), σ) := K171 h h0 okIss
    have c2 : RR X (d + 3) 171 [.ref 38, .int 0, .long 126943688392704] σ (some (.int (bI (hw T E (pStat T n E)))), σ) := K171 h h0 okStat
    have c3 : RR X (d + 3) 169 [.ref 38, .int 0, .long 107148485722112] σ (some (.int (nI (ccN T n E (some 0) wAssn))), σ) := K169 (d := d + 2) h h0 okAssn
    by_cases hA : ccN T n E (some 0) wAssn = 1
    · obtain ⟨a, eA⟩ := one_ex hA
      obtain ⟨-, fA, la⟩ := one_some eA
      have eA : pAssn T n E = some a := eA
      have c4 : RR X (d + 3) 170 [.ref 38, .int 0, .long 107148485722112] σ (some (.int (nI a)), σ) := by
        have := K170 (X := X) (d := d + 2) h h0 okAssn
        rw [fA] at this
        exact this
      have c5 : RR X (d + 3) 166 [.ref 38, .int (nI a), .long 115878217646080] σ (some (.long (lN (pck (vlo T E (sxo T E (some a) wID))))), σ) := K166 (d := d + 1) h la okID
      have c6 := K172 (X := X) (d := d) h la
      have c7 : RR X (d + 3) 171 [.ref 38, .int (nI a), .long 115944571535360] σ (some (.int (bI (hw T E (pAIss T n E)))), σ) := by
        unfold pAIss
        rw [eA]
        exact K171 h la okIss
      have c8 : RR X (d + 3) 169 [.ref 38, .int (nI a), .long 109330244567040] σ (some (.int (nI (ccN T n E (some a) wCond))), σ) := K169 (d := d + 2) h la okCond
      have c9 : RR X (d + 3) 169 [.ref 38, .int (nI a), .long 126947999481856] σ (some (.int (nI (ccN T n E (some a) wSubj))), σ) := K169 (d := d + 2) h la okSubj
      have x1 : bI (hw T E (pIss T n E)) = 0 → ¬ RS T n E := fun y q => tf (bI_0.mp y) q.2.2.2.2.1
      have x2 : bI (hw T E (pStat T n E)) = 0 → ¬ RS T n E := fun y q => tf (bI_0.mp y) q.2.2.2.2.2.1
      have x4 : lg_cmp (lN (pck (vlo T E (sxo T E (some a) wID)))) 0 = 0 → ¬ RS T n E := fun y q => tf ((hk_I h la).mp y) (eA ▸ q.2.2.2.2.2.2.2.1)
      have x5 : bI (ssg T n E (some a)) = 0 → ¬ RS T n E := fun y q => tf (bI_0.mp y) (eA ▸ q.2.2.2.2.2.2.2.2.2.1)
      have x6 : bI (hw T E (pAIss T n E)) = 0 → ¬ RS T n E := fun y q => tf (bI_0.mp y) q.2.2.2.2.2.2.2.2.1
      by_cases hC : ccN T n E (some a) wCond = 1
      · obtain ⟨c, eC⟩ := one_ex hC
        obtain ⟨-, fC', lc⟩ := one_some eC
        have eC : pCond T n E = some c := by
          unfold pCond
          rw [eA]
          exact eC
        have c10 : RR X (d + 3) 170 [.ref 38, .int (nI a), .long 109330244567040] σ (some (.int (nI c)), σ) := by
          have := K170 (X := X) (d := d + 2) h la okCond
          rw [fC'] at this
          exact this
        have c12 : RR X (d + 3) 148 [.ref 38, .int (nI c), .long 107156816789504] σ (some (.int (oI (msl T E c wAud))), σ) := K148m (d := d + 2) h lc okAud
        have c13 : RR X (d + 3) 167 [.ref 38, .int (nI c), .long 121367185850368] σ (some (.int (oI (num (vlo T E (sxo T E (some c) wNb))))), σ) := K167 (d := d + 1) h lc okNb
        have c14 : RR X (d + 3) 167 [.ref 38, .int (nI c), .long 121424647815168] σ (some (.int (oI (num (vlo T E (sxo T E (some c) wNoa))))), σ) := K167 (d := d + 1) h lc okNoa
        have x8 : oI (msl T E c wAud) < 0 → ¬ RS T n E := fun y q => tf ((hs_I h lc okAud).mp y) (eC ▸ q.2.2.2.2.2.2.2.2.2.2.1)
        have x9 : oI (num (vlo T E (sxo T E (some c) wNb))) < 0 → ¬ RS T n E := fun y q => tf (hn_I.mp y) (eC ▸ q.2.2.2.2.2.2.2.2.2.2.2.1)
        have x10 : oI (num (vlo T E (sxo T E (some c) wNoa))) < 0 → ¬ RS T n E := fun y q => tf (hn_I.mp y) (eC ▸ q.2.2.2.2.2.2.2.2.2.2.2.2.1)
        by_cases hU : ccN T n E (some a) wSubj = 1
        · obtain ⟨s, eS⟩ := one_ex hU
          obtain ⟨-, fS, lss⟩ := one_some eS
          have eS : pSubj T n E = some s := by
            unfold pSubj
            rw [eA]
            exact eS
          have c11 : RR X (d + 3) 170 [.ref 38, .int (nI a), .long 126947999481856] σ (some (.int (nI s)), σ) := by
            have := K170 (X := X) (d := d + 2) h la okSubj
            rw [fS] at this
            exact this
          have t225 : ∀ {x1 x2 x3 x4 : Int32}, ¬ RS T n E → TT X (d + 3) tb174 (some .boolean) (225, [some (.ref 38), some (.int x1), some (.int x2), some (.int x3), some (.int x4), none, none], [], σ) (some (.int (bI (isR T n E))), σ) := fun q => by
            refine R174_225 ?_
            apply R174_226 (v1 := 0) (σ1 := σ) (v2 := 0) (σ2 := σ) (v3 := 0) (σ3 := σ) (v4 := 0) (σ4 := σ) (v5 := 0) (σ5 := σ) (v6 := 0) (σ6 := σ)
            case k1 => exact fun _ => ex q
            all_goals exact fun y => absurd rfl y
          have t226 : ∀ {x1 x2 x3 : Int32}, hw T E (pIss T n E) = true → hw T E (pStat T n E) = true → hk T E (some a) wID = true → ssg T n E (some a) = true → hw T E (pAIss T n E) = true → hs T E (some c) wAud = true → hn T E (some c) wNb = true → hn T E (some c) wNoa = true → TT X (d + 3) tb174 (some .boolean) (226, [some (.ref 38), some (.int x1), some (.int x2), some (.int x3), some (.int (nI s)), none, none], [.int 1], σ) (some (.int (bI (isR T n E))), σ) := by
            intro x1' x2' x3' g1 g2 g3 g4 g5 g6 g7 g8
            have d1 : RR X (d + 3) 171 [.ref 38, .int (nI s), .long 121364726218752] σ (some (.int (bI (hw T E (pName T n E)))), σ) := by
              unfold pName
              rw [eS]
              exact K171 h lss okName
            have d2 : RR X (d + 3) 169 [.ref 38, .int (nI s), .long 109330244698112] σ (some (.int (nI (ccN T n E (some s) wConf))), σ) := K169 (d := d + 2) h lss okConf
            have z1 : bI (hw T E (pName T n E)) = 0 → ¬ RS T n E := fun y q => tf (bI_0.mp y) q.2.2.2.2.2.2.2.2.2.2.2.2.2.1
            by_cases hF : ccN T n E (some s) wConf = 1
            · obtain ⟨f, eF⟩ := one_ex hF
              obtain ⟨-, fF, lf⟩ := one_some eF
              have eF : pConf T n E = some f := by
                unfold pConf
                rw [eS]
                exact eF
              have d3 : RR X (d + 3) 170 [.ref 38, .int (nI s), .long 109330244698112] σ (some (.int (nI f)), σ) := by
                have := K170 (X := X) (d := d + 2) h lss okConf
                rw [fF] at this
                exact this
              have d4 : RR X (d + 3) 148 [.ref 38, .int (nI f), .long 115940293345280] σ (some (.int (oI (msl T E f wIrt))), σ) := K148m (d := d + 2) h lf okIrt
              have d5 : RR X (d + 3) 148 [.ref 38, .int (nI f), .long 125771406376960] σ (some (.int (oI (msl T E f wRcp))), σ) := K148m (d := d + 2) h lf okRcp
              have d6 : RR X (d + 3) 167 [.ref 38, .int (nI f), .long 121424647815168] σ (some (.int (oI (num (vlo T E (sxo T E (some f) wNoa))))), σ) := K167 (d := d + 1) h lf okNoa
              apply R174_226 (v1 := bI (hw T E (pName T n E))) (σ1 := σ) (v2 := nI (ccN T n E (some s) wConf)) (σ2 := σ) (v3 := nI f) (σ3 := σ) (v4 := oI (msl T E f wIrt)) (σ4 := σ) (v5 := oI (msl T E f wRcp)) (σ5 := σ) (v6 := oI (num (vlo T E (sxo T E (some f) wNoa)))) (σ6 := σ)
              case k1 => exact fun y => absurd y n1
              case c1 => exact fun _ => d1
              case k2 => exact fun _ y => ex (z1 y)
              case c2 => exact fun _ _ => d2
              case c3 => exact fun _ _ _ => d3
              case c4 => exact fun _ _ _ => d4
              case k3 => exact fun _ _ _ y => ex fun q => tf ((hs_I h lf okIrt).mp y) (eF ▸ q.2.2.2.2.2.2.2.2.2.2.2.2.2.2.1)
              case c5 => exact fun _ _ _ _ => d5
              case k4 => exact fun _ _ _ _ y => ex fun q => tf ((hs_I h lf okRcp).mp y) (eF ▸ q.2.2.2.2.2.2.2.2.2.2.2.2.2.2.2.1)
              case c6 => exact fun _ _ _ _ _ => d6
              case k5 => exact fun _ _ _ _ _ y => ex fun q => tf (hn_I.mp y) (eF ▸ q.2.2.2.2.2.2.2.2.2.2.2.2.2.2.2.2)
              case k6 =>
                intro _ y1 _ y2 y3 y4
                refine bI_r (isR_iff.mpr ?_)
                unfold RS
                rw [eA, eC, eF]
                exact ⟨p1, p2, p3, p4, g1, g2, p5, g3, g5, g4, g6, g7, g8, bI_n0.mp y1, nt fun z => y2 ((hs_I h lf okIrt).mpr z), nt fun z => y3 ((hs_I h lf okRcp).mpr z), nt fun z => y4 (hn_I.mpr z)⟩
              case k7 => exact fun _ _ y => absurd (e1.mpr hF) y
            · have eF : pConf T n E = none := by
                unfold pConf
                rw [eS]
                exact one_none hF
              have nz : ¬ nI (ccN T n E (some s) wConf) = 1 := fun q => hF (e1.mp q)
              apply R174_226 (v1 := bI (hw T E (pName T n E))) (σ1 := σ) (v2 := nI (ccN T n E (some s) wConf)) (σ2 := σ) (v3 := 0) (σ3 := σ) (v4 := 0) (σ4 := σ) (v5 := 0) (σ5 := σ) (v6 := 0) (σ6 := σ)
              case k1 => exact fun y => absurd y n1
              case c1 => exact fun _ => d1
              case k2 => exact fun _ y => ex (z1 y)
              case c2 => exact fun _ _ => d2
              case k7 => exact fun _ _ _ => ex fun q => tf hs_none (eF ▸ q.2.2.2.2.2.2.2.2.2.2.2.2.2.2.1)
              all_goals exact fun _ _ y => absurd y nz
          apply R174_61 (v1 := bI (hw T E (pIss T n E))) (σ1 := σ) (v2 := bI (hw T E (pStat T n E))) (σ2 := σ) (v3 := nI (ccN T n E (some 0) wAssn)) (σ3 := σ) (v4 := nI a) (σ4 := σ) (v5 := lN (pck (vlo T E (sxo T E (some a) wID)))) (σ5 := σ) (v6 := bI (ssg T n E (some a))) (σ6 := σ) (v7 := bI (hw T E (pAIss T n E))) (σ7 := σ) (v8 := nI (ccN T n E (some a) wCond)) (σ8 := σ) (v9 := nI (ccN T n E (some a) wSubj)) (σ9 := σ) (v10 := nI c) (σ10 := σ) (v11 := nI s) (σ11 := σ) (v12 := oI (msl T E c wAud)) (σ12 := σ) (v13 := oI (num (vlo T E (sxo T E (some c) wNb)))) (σ13 := σ) (v14 := oI (num (vlo T E (sxo T E (some c) wNoa)))) (σ14 := σ)
          case k1 => exact fun y => absurd y n1
          case c1 => exact fun _ => c1
          case k2 => exact fun _ y => ex (x1 y)
          case c2 => exact fun _ _ => c2
          case k3 => exact fun _ _ y => ex (x2 y)
          case c3 => exact fun _ _ _ => c3
          case c4 => exact fun _ _ _ _ => c4
          case c5 => exact fun _ _ _ _ => c5
          case k4 => exact fun _ _ _ _ y => ex (x4 y)
          case c6 => exact fun _ _ _ _ _ => c6
          case k5 => exact fun _ _ _ _ _ y => ex (x5 y)
          case c7 => exact fun _ _ _ _ _ _ => c7
          case k6 => exact fun _ _ _ _ _ _ y => ex (x6 y)
          case c8 => exact fun _ _ _ _ _ _ _ => c8
          case k7 => exact fun _ _ _ _ _ _ _ y => absurd (e1.mpr hC) y
          case c9 => exact fun _ _ _ _ _ _ _ _ => c9
          case c10 => exact fun _ _ _ _ _ _ _ _ _ => c10
          case c11 => exact fun _ _ _ _ _ _ _ _ _ => c11
          case c12 => exact fun _ _ _ _ _ _ _ _ _ => c12
          case k8 => exact fun _ _ _ _ _ _ _ _ _ y => t225 (x8 y)
          case c13 => exact fun _ _ _ _ _ _ _ _ _ _ => c13
          case k9 => exact fun _ _ _ _ _ _ _ _ _ _ y => t225 (x9 y)
          case c14 => exact fun _ _ _ _ _ _ _ _ _ _ _ => c14
          case k10 => exact fun _ _ _ _ _ _ _ _ _ _ _ y => t225 (x10 y)
          case k11 => exact fun _ y1 y2 _ y3 y4 y5 _ _ y6 y7 y8 => t226 (bI_n0.mp y1) (bI_n0.mp y2) (nt fun z => y3 ((hk_I h la).mpr z)) (bI_n0.mp y4) (bI_n0.mp y5) (nt fun z => y6 ((hs_I h lc okAud).mpr z)) (nt fun z => y7 (hn_I.mpr z)) (nt fun z => y8 (hn_I.mpr z))
          case k12 => exact fun _ _ _ _ _ _ _ _ y => absurd (e1.mpr hU) y
          case k13 => exact fun _ _ _ y => absurd (e1.mpr hA) y
        · have eS : pSubj T n E = none := by
            unfold pSubj
            rw [eA]
            exact one_none hU
          have nz : ¬ nI (ccN T n E (some a) wSubj) = 1 := fun q => hU (e1.mp q)
          have xs : ¬ RS T n E := fun q => by
            have q1 := q.2.2.2.2.2.2.2.2.2.2.2.2.2.1
            unfold pName at q1
            rw [eS] at q1
            exact tf hw_none q1
          apply R174_61 (v1 := bI (hw T E (pIss T n E))) (σ1 := σ) (v2 := bI (hw T E (pStat T n E))) (σ2 := σ) (v3 := nI (ccN T n E (some 0) wAssn)) (σ3 := σ) (v4 := nI a) (σ4 := σ) (v5 := lN (pck (vlo T E (sxo T E (some a) wID)))) (σ5 := σ) (v6 := bI (ssg T n E (some a))) (σ6 := σ) (v7 := bI (hw T E (pAIss T n E))) (σ7 := σ) (v8 := nI (ccN T n E (some a) wCond)) (σ8 := σ) (v9 := nI (ccN T n E (some a) wSubj)) (σ9 := σ) (v10 := 0) (σ10 := σ) (v11 := 0) (σ11 := σ) (v12 := 0) (σ12 := σ) (v13 := 0) (σ13 := σ) (v14 := 0) (σ14 := σ)
          case k1 => exact fun y => absurd y n1
          case c1 => exact fun _ => c1
          case k2 => exact fun _ y => ex (x1 y)
          case c2 => exact fun _ _ => c2
          case k3 => exact fun _ _ y => ex (x2 y)
          case c3 => exact fun _ _ _ => c3
          case c4 => exact fun _ _ _ _ => c4
          case c5 => exact fun _ _ _ _ => c5
          case k4 => exact fun _ _ _ _ y => ex (x4 y)
          case c6 => exact fun _ _ _ _ _ => c6
          case k5 => exact fun _ _ _ _ _ y => ex (x5 y)
          case c7 => exact fun _ _ _ _ _ _ => c7
          case k6 => exact fun _ _ _ _ _ _ y => ex (x6 y)
          case c8 => exact fun _ _ _ _ _ _ _ => c8
          case k7 => exact fun _ _ _ _ _ _ _ y => absurd (e1.mpr hC) y
          case c9 => exact fun _ _ _ _ _ _ _ _ => c9
          case k12 => exact fun _ _ _ _ _ _ _ _ _ => ex xs
          case k13 => exact fun _ _ _ y => absurd (e1.mpr hA) y
          all_goals exact fun _ _ _ _ _ _ _ _ y => absurd y nz
      · have eC : pCond T n E = none := by
          unfold pCond
          rw [eA]
          exact one_none hC
        have nz : ¬ nI (ccN T n E (some a) wCond) = 1 := fun q => hC (e1.mp q)
        have xs : ¬ RS T n E := fun q => tf hs_none (eC ▸ q.2.2.2.2.2.2.2.2.2.2.1)
        apply R174_61 (v1 := bI (hw T E (pIss T n E))) (σ1 := σ) (v2 := bI (hw T E (pStat T n E))) (σ2 := σ) (v3 := nI (ccN T n E (some 0) wAssn)) (σ3 := σ) (v4 := nI a) (σ4 := σ) (v5 := lN (pck (vlo T E (sxo T E (some a) wID)))) (σ5 := σ) (v6 := bI (ssg T n E (some a))) (σ6 := σ) (v7 := bI (hw T E (pAIss T n E))) (σ7 := σ) (v8 := nI (ccN T n E (some a) wCond)) (σ8 := σ) (v9 := 0) (σ9 := σ) (v10 := 0) (σ10 := σ) (v11 := 0) (σ11 := σ) (v12 := 0) (σ12 := σ) (v13 := 0) (σ13 := σ) (v14 := 0) (σ14 := σ)
        case k1 => exact fun y => absurd y n1
        case c1 => exact fun _ => c1
        case k2 => exact fun _ y => ex (x1 y)
        case c2 => exact fun _ _ => c2
        case k3 => exact fun _ _ y => ex (x2 y)
        case c3 => exact fun _ _ _ => c3
        case c4 => exact fun _ _ _ _ => c4
        case c5 => exact fun _ _ _ _ => c5
        case k4 => exact fun _ _ _ _ y => ex (x4 y)
        case c6 => exact fun _ _ _ _ _ => c6
        case k5 => exact fun _ _ _ _ _ y => ex (x5 y)
        case c7 => exact fun _ _ _ _ _ _ => c7
        case k6 => exact fun _ _ _ _ _ _ y => ex (x6 y)
        case c8 => exact fun _ _ _ _ _ _ _ => c8
        case k7 => exact fun _ _ _ _ _ _ _ _ => ex xs
        case k13 => exact fun _ _ _ y => absurd (e1.mpr hA) y
        all_goals exact fun _ _ _ _ _ _ _ y => absurd nz y
    · have eA : pAssn T n E = none := one_none hA
      have nz : ¬ nI (ccN T n E (some 0) wAssn) = 1 := fun q => hA (e1.mp q)
      apply R174_61 (v1 := bI (hw T E (pIss T n E))) (σ1 := σ) (v2 := bI (hw T E (pStat T n E))) (σ2 := σ) (v3 := nI (ccN T n E (some 0) wAssn)) (σ3 := σ) (v4 := 0) (σ4 := σ) (v5 := 0) (σ5 := σ) (v6 := 0) (σ6 := σ) (v7 := 0) (σ7 := σ) (v8 := 0) (σ8 := σ) (v9 := 0) (σ9 := σ) (v10 := 0) (σ10 := σ) (v11 := 0) (σ11 := σ) (v12 := 0) (σ12 := σ) (v13 := 0) (σ13 := σ) (v14 := 0) (σ14 := σ)
      case k1 => exact fun y => absurd y n1
      case c1 => exact fun _ => c1
      case k2 => exact fun _ y => ex fun q => tf (bI_0.mp y) q.2.2.2.2.1
      case c2 => exact fun _ _ => c2
      case k3 => exact fun _ _ y => ex fun q => tf (bI_0.mp y) q.2.2.2.2.2.1
      case c3 => exact fun _ _ _ => c3
      case k13 => exact fun _ _ _ _ => ex fun q => tf hk_none (eA ▸ q.2.2.2.2.2.2.2.1)
      all_goals exact fun _ _ _ y => absurd y nz
  have hnm : lg_cmp (σ.2 52 (0 : Int32).toNatClampNeg) 125780053983232 = 0 ↔ nmL T (E 0) = wResp := nm_I (W := wResp) h h0 okResp
  have b1 : RR X (d + 3) 166 [.ref 38, .int 0, .long 115878217646080] σ (some (.long (lN (pck (vlo T E (sxo T E (some 0) wID))))), σ) := K166 (d := d + 1) h h0 okID
  have b2 : RR X (d + 3) 148 [.ref 38, .int 0, .long 128020090191872] σ (some (.int (oI (msl T E 0 wTo))), σ) := K148m (d := d + 2) h h0 okTo
  have b3 : RR X (d + 3) 148 [.ref 38, .int 0, .long 115940293345280] σ (some (.int (oI (msl T E 0 wIrt))), σ) := K148m (d := d + 2) h h0 okIrt
  have b4 : RR X (d + 3) 172 [.ref 38, .int 0] σ (some (.int (bI (ssg T n E (some 0)))), σ) := K172 h h0
  refine mi_R.of rfl rfl ?_
  apply R174_0 (v1 := lN (pck (vlo T E (sxo T E (some 0) wID)))) (σ1 := σ) (v2 := oI (msl T E 0 wTo)) (σ2 := σ) (v3 := oI (msl T E 0 wIrt)) (σ3 := σ) (v4 := bI (ssg T n E (some 0))) (σ4 := σ)
  case b1 => rfl
  case k1 => exact fun y => t0 fun q => y (hnm.mpr q.1)
  case c1 => exact fun _ => b1
  case k2 => exact fun _ y => t0 fun q => tf ((hk_I h h0).mp y) q.2.1
  case c2 => exact fun _ _ => b2
  case k3 => exact fun _ _ y => t0 fun q => tf ((hs_I h h0 okTo).mp y) q.2.2.1
  case c3 => exact fun _ _ _ => b3
  case k4 => exact fun _ _ _ y => t0 fun q => tf ((hs_I h h0 okIrt).mp y) q.2.2.2.1
  case c4 => exact fun _ _ _ _ => b4
  case k5 => exact fun _ _ _ _ y => t0 fun q => tf (bI_0.mp y) q.2.2.2.2.2.2.1
  case k6 => exact fun y1 y2 y3 y4 y5 => t1 (hnm.mp (Decidable.not_not.mp y1)) (nt fun z => y2 ((hk_I h h0).mpr z)) (nt fun z => y3 ((hs_I h h0 okTo).mpr z)) (nt fun z => y4 ((hs_I h h0 okIrt).mpr z)) (bI_n0.mp y5)
theorem K175 (h : cM T n E σ) : RR X (d + 4) 175 [.ref 38] σ (some (.int (bI (isLo T n E))), σ) := by
  have hn20 := h.2.2.1.2.1
  have h0 : 0 < n := h.2.2.1.1
  have ex : ∀ {σ' : mG}, ¬ LoS T n E → ((some (Value.int (bI (isLo T n E))), σ') : mA mG) = (some (.int 0), σ') := fun q => bI_s fun z => q (isLo_iff.mp z)
  have okTo : okN 6 wTo := ⟨by decide, by decide⟩
  have hnm : lg_cmp (σ.2 52 (0 : Int32).toNatClampNeg) 122550248013824 = 0 ↔ nmL T (E 0) = wOut := nm_I (W := wOut) h h0 ⟨by decide, by decide⟩
  have b1 : RR X (d + 3) 166 [.ref 38, .int 0, .long 115878217646080] σ (some (.long (lN (pck (vlo T E (sxo T E (some 0) wID))))), σ) := K166 (d := d + 1) (W := wID) h h0 ⟨by decide, by decide⟩
  have b2 : RR X (d + 3) 148 [.ref 38, .int 0, .long 128020090191872] σ (some (.int (oI (msl T E 0 wTo))), σ) := K148m (d := d + 2) h h0 okTo
  have b3 : RR X (d + 3) 171 [.ref 38, .int 0, .long 115944571535360] σ (some (.int (bI (hw T E (pIss T n E)))), σ) := K171 (W := wIss) h h0 ⟨by decide, by decide⟩
  have b4 : RR X (d + 3) 171 [.ref 38, .int 0, .long 121364726218752] σ (some (.int (bI (hw T E (pLName T n E)))), σ) := K171 (W := wName) h h0 ⟨by decide, by decide⟩
  have b5 : RR X (d + 3) 172 [.ref 38, .int 0] σ (some (.int (bI (ssg T n E (some 0)))), σ) := K172 h h0
  refine mi_R.of rfl rfl ?_
  apply R175_0 (v1 := lN (pck (vlo T E (sxo T E (some 0) wID)))) (σ1 := σ) (v2 := oI (msl T E 0 wTo)) (σ2 := σ) (v3 := bI (hw T E (pIss T n E))) (σ3 := σ) (v4 := bI (hw T E (pLName T n E))) (σ4 := σ) (v5 := bI (ssg T n E (some 0))) (σ5 := σ)
  case b1 => rfl
  case k1 => exact fun y => ex fun q => y (hnm.mpr q.1)
  case c1 => exact fun _ => b1
  case k2 => exact fun _ y => ex fun q => tf ((hk_I h h0).mp y) q.2.1
  case c2 => exact fun _ _ => b2
  case k3 => exact fun _ _ y => ex fun q => tf ((hs_I h h0 okTo).mp y) q.2.2.1
  case c3 => exact fun _ _ _ => b3
  case k4 => exact fun _ _ _ y => ex fun q => tf (bI_0.mp y) q.2.2.2.1
  case c4 => exact fun _ _ _ _ => b4
  case k5 => exact fun _ _ _ _ y => ex fun q => tf (bI_0.mp y) q.2.2.2.2.1
  case c5 => exact fun _ _ _ _ _ => b5
  case k6 => exact fun _ _ _ _ _ y => ex fun q => tf (bI_0.mp y) q.2.2.2.2.2
  case k7 => exact fun y1 y2 y3 y4 y5 y6 => bI_r (isLo_iff.mpr ⟨hnm.mp (Decidable.not_not.mp y1), nt fun z => y2 ((hk_I h h0).mpr z), nt fun z => y3 ((hs_I h h0 okTo).mpr z), bI_n0.mp y4, bI_n0.mp y5, bI_n0.mp y6⟩)
end
