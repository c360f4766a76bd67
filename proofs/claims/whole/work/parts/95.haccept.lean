/-! The parts of a response; terms on both sides -/
def RP (T : List Nat) (n : Nat) (E : Nat → mEl) (i st a ai c s nm f : Nat) : Prop := pIss T n E = some i ∧ pStat T n E = some st ∧ pAssn T n E = some a ∧ pAIss T n E = some ai ∧ pCond T n E = some c ∧ pSubj T n E = some s ∧ pName T n E = some nm ∧ pConf T n E = some f
theorem hw_some {T : List Nat} {E : Nat → mEl} {o : Option Nat} (h : hw T E o = true) : ∃ e, o = some e := by
  cases o with
  | some e => exact ⟨e, rfl⟩
  | none => exact (tf hw_none h).elim
theorem hs_some' {T : List Nat} {E : Nat → mEl} {o : Option Nat} {W : List Nat} (h : hs T E o W = true) : ∃ e, o = some e := by
  cases o with
  | some e => exact ⟨e, rfl⟩
  | none => exact (tf hs_none h).elim
theorem hk_some' {T : List Nat} {E : Nat → mEl} {o : Option Nat} {W : List Nat} (h : hk T E o W = true) : ∃ e, o = some e := by
  cases o with
  | some e => exact ⟨e, rfl⟩
  | none => exact (tf hk_none h).elim
theorem RS_RP {T : List Nat} {n : Nat} {E : Nat → mEl} (h : RS T n E) : ∃ i st a ai c s nm f, RP T n E i st a ai c s nm f := by
  obtain ⟨-, -, -, -, h5, h6, -, h8, h9, -, h11, -, -, h14, h15, -⟩ := h
  obtain ⟨i, e1⟩ := hw_some h5
  obtain ⟨st, e2⟩ := hw_some h6
  obtain ⟨a, e3⟩ := hk_some' h8
  obtain ⟨ai, e4⟩ := hw_some h9
  obtain ⟨c, e5⟩ := hs_some' h11
  obtain ⟨nm, e7⟩ := hw_some h14
  obtain ⟨f, e8⟩ := hs_some' h15
  have e6 : ∃ s, pSubj T n E = some s := by
    cases hs : pSubj T n E with
    | some s => exact ⟨s, rfl⟩
    | none =>
      unfold pName at e7
      rw [hs] at e7
      cases e7
  obtain ⟨s, e6⟩ := e6
  exact ⟨i, st, a, ai, c, s, nm, f, e1, e2, e3, e4, e5, e6, e7, e8⟩
theorem RP_one {T : List Nat} {n : Nat} {E : Nat → mEl} {i st a ai c s nm f : Nat} (h : RP T n E i st a ai c s nm f) : one T n E (some 0) wIss = some i ∧ one T n E (some 0) wStat = some st ∧ one T n E (some 0) wAssn = some a ∧ one T n E (some a) wIss = some ai ∧ one T n E (some a) wCond = some c ∧ one T n E (some a) wSubj = some s ∧ one T n E (some s) wName = some nm ∧ one T n E (some s) wConf = some f := by
  obtain ⟨e1, e2, e3, e4, e5, e6, e7, e8⟩ := h
  unfold pAIss at e4
  unfold pCond at e5
  unfold pName at e7
  unfold pConf at e8
  rw [e6] at e7 e8
  unfold pSubj at e6
  rw [e3] at e4 e5 e6
  exact ⟨e1, e2, e3, e4, e5, e6, e7, e8⟩
def q8 (T : List Nat) (E : Nat → mEl) : Bool := (sxo T E (some 0) wTo).isSome && decide (vlo T E (sxo T E (some 0) wTo) = wAcs)
def q9 (T : List Nat) (n : Nat) (E : Nat → mEl) : Bool := decide (bdy T E (pStat T n E) = wOk)
def q10 (T : List Nat) (E : Nat → mEl) (an' mk gt : Nat → Int32) (life c : Int32) (m k : Nat) : Bool := awB an' mk gt life c m (nI k) (num (vlo T E (sxo T E (some 0) wIrt)))
def q11 (T : List Nat) (n : Nat) (E : Nat → mEl) : Bool := (sxo T E (pCond T n E) wAud).isSome && decide (vlo T E (sxo T E (pCond T n E) wAud) = wSp)
def q12 (T : List Nat) (n : Nat) (E : Nat → mEl) (c s : Int32) : Bool := decide (c + s < oI (num (vlo T E (sxo T E (pCond T n E) wNb)))) || ro T E c s (pCond T n E)
def q13 (T : List Nat) (n : Nat) (E : Nat → mEl) (c s : Int32) : Bool := !((sxo T E (pConf T n E) wRcp).isSome && decide (vlo T E (sxo T E (pConf T n E) wRcp) = wAcs)) || (!same' T E (sxo T E (pConf T n E) wIrt) (sxo T E (some 0) wIrt) || ro T E c s (pConf T n E))
def q14 (T : List Nat) (E : Nat → mEl) (sl : Nat → List Nat) (M : Nat) (o : Option Nat) : Bool := an (fun i => decide (sl i = vlo T E (sxo T E o wID))) M
section
variable {X : Nat × (Nat → Int32)} {d : Nat} {T : List Nat} {n : Nat} {E : Nat → mEl} {σ : mG}
theorem K31 {m M m' k : Nat} {sl : Nat → List Nat} (h : cC T n E σ) (r : r36 T n E σ) (hm : m ≤ 30) (hc : σ.1 23 4 = nI m) (hM : M ≤ 40) (hcM : σ.1 33 3 = nI M) (hb : lbs M (σ.1 34) (σ.1 35) sl) (h33 : σ.1 33 0 = 40) (hm' : m' ≤ 20) (hc' : σ.1 30 3 = nI m') (h30 : σ.1 30 0 = 20) : RR X (d + 5) 31 [.ref 0, .int (nI k)] σ (some (.int (fc (!q8 T E) (!q9 T n E) (!q10 T E (σ.1 26) (σ.1 25) (σ.1 24) (σ.1 23 0) (σ.1 0 12) m k) (!q11 T n E) (q12 T n E (σ.1 0 12) (σ.1 0 11)) (q13 T n E (σ.1 0 12) (σ.1 0 11)) (q14 T E sl M (pAssn T n E)) (decide (20 ≤ m') || decide (40 ≤ M)))), σ) := by
  obtain ⟨r1, r2, r3, r4, r5, r6, r7, r8, r9, r10⟩ := r
  refine A31 (d := d + 4) ?_ ?_ ?_ (K102 (d := d + 2) hm hc (r := num (vlo T E (sxo T E (some 0) wIrt))) num_31 (nI k) (σ.1 0 12)) ?_ ?_ ?_ ?_ ?_ ?_ ?_ (K106 (d := d + 2) hm' hc' h30) (K111b (d := d + 3) hM hcM h33)
  · exact K69 (d := d + 1) (o := some 0) (W := wTo) (V := wAcs) h (oE0 h) ⟨rfl, by decide, by decide⟩ ⟨rfl, by decide, by decide⟩
  · rw [r2]
    exact K63 (d := d + 1) (W := wOk) h (one_oE _ _ _ _ _) ⟨rfl, by decide, by decide⟩
  · exact K74 (d := d + 1) (o := some 0) (W := wIrt) h (oE0 h) ⟨rfl, by decide, by decide⟩
  · rw [r6]
    exact K69 (d := d + 1) (W := wAud) (V := wSp) h (one_oE _ _ _ _ _) ⟨rfl, by decide, by decide⟩ ⟨rfl, by decide, by decide⟩
  · rw [r6]
    exact K74 (d := d + 1) (W := wNb) h (one_oE _ _ _ _ _) ⟨rfl, by decide, by decide⟩
  · rw [r6]
    exact K32 h (one_oE _ _ _ _ _)
  · rw [r10]
    exact K69 (d := d + 1) (W := wRcp) (V := wAcs) h (one_oE _ _ _ _ _) ⟨rfl, by decide, by decide⟩ ⟨rfl, by decide, by decide⟩
  · rw [r10]
    exact K71 (o' := some 0) (W := wIrt) h (one_oE _ _ _ _ _) (oE0 h) ⟨rfl, by decide, by decide⟩
  · rw [r10]
    exact K32 h (one_oE _ _ _ _ _)
  · rw [r3]
    exact K36 h hM hcM hb (one_oE _ _ _ _ _)
theorem okC_acs : okC wAcs := by unfold okC; decide
theorem okC_ok : okC wOk := by unfold okC; decide
theorem okC_sp : okC wSp := by unfold okC; decide
theorem K180 {m k : Nat} {i st a ai c s nm f : Nat} (h : cM T n E σ) (hR : RS T n E) (hp : RP T n E i st a ai c s nm f) (hm : m ≤ 30) (hc : σ.1 38 11 = nI m) (hk : nmd (bdy T E (some i)) = some k) : RR X (d + 4) 180 [.ref 38, .int (nI a)] σ (some (.int (fc false (!q9 T n E) (!q10 T E (σ.1 47) (σ.1 45) (σ.1 46) (σ.1 38 1) (σ.1 38 2) m k) (!q11 T n E) (q12 T n E (σ.1 38 2) (σ.1 38 0)) (q13 T n E (σ.1 38 2) (σ.1 38 0)) false false)), σ) := by
  have h0 : 0 < n := h.2.2.1.1
  obtain ⟨o1, o2, o3, o4, o5, o6, o7, o8⟩ := RP_one hp
  obtain ⟨-, f1, l1⟩ := one_some o1
  obtain ⟨-, f2, l2⟩ := one_some o2
  obtain ⟨-, f3, l3⟩ := one_some o3
  obtain ⟨-, f5, l5⟩ := one_some o5
  obtain ⟨-, f6, l6⟩ := one_some o6
  obtain ⟨-, f8, l8⟩ := one_some o8
  obtain ⟨-, p2, p3, -, p5, -, -, p8⟩ := hp
  have okIrt : okN 6 wIrt := ⟨by decide, by decide⟩
  have c1 : RR X (d + 3) 170 [.ref 38, .int (nI a), .long 109330244567040] σ (some (.int (nI c)), σ) := by
    have := K170 (X := X) (d := d + 2) (W := wCond) h l3 ⟨by decide, by decide⟩
    rw [f5] at this
    exact this
  have c2 : RR X (d + 3) 170 [.ref 38, .int (nI a), .long 126947999481856] σ (some (.int (nI s)), σ) := by
    have := K170 (X := X) (d := d + 2) (W := wSubj) h l3 ⟨by decide, by decide⟩
    rw [f6] at this
    exact this
  have c3 : RR X (d + 3) 170 [.ref 38, .int (nI s), .long 109330244698112] σ (some (.int (nI f)), σ) := by
    have := K170 (X := X) (d := d + 2) (W := wConf) h l6 ⟨by decide, by decide⟩
    rw [f8] at this
    exact this
  have c4 : RR X (d + 3) 167 [.ref 38, .int 0, .long 115940293345280] σ (some (.int (oI (num (vlo T E (sxo T E (some 0) wIrt))))), σ) := K167 (d := d + 1) (W := wIrt) h h0 okIrt
  have c5 : RR X (d + 3) 170 [.ref 38, .int 0, .long 126943688392704] σ (some (.int (nI st)), σ) := by
    have := K170 (X := X) (d := d + 2) (W := wStat) h h0 ⟨by decide, by decide⟩
    rw [f2] at this
    exact this
  have c6 : RR X (d + 3) 165 [.ref 38, .int (nI st)] σ (some (.long (lN (pck (bdy T E (some st))))), σ) := K165 (d := d + 1) h l2
  have e6 : lg_cmp (lN (pck (bdy T E (some st)))) 28523 = 0 ↔ q9 T n E = true := by
    unfold q9
    rw [p2, decide_eq_true_iff]
    exact wc (W := wOk) (seg_okC h.1 _ _) okC_ok (by decide)
  have c7 := K131o (X := X) (d := d + 2) hm hc (r := num (vlo T E (sxo T E (some 0) wIrt))) num_31
  have c8 := K176 (X := X) (d := d) h h0 o1
  rw [hk] at c8
  have c9 : RR X (d + 3) 166 [.ref 38, .int (nI c), .long 107156816789504] σ (some (.long (lN (pck (vlo T E (sxo T E (some c) wAud))))), σ) := K166 (d := d + 1) (W := wAud) h l5 ⟨by decide, by decide⟩
  have e9 : lg_cmp (lN (pck (vlo T E (sxo T E (some c) wAud)))) 29552 = 0 ↔ q11 T n E = true := by
    unfold q11
    rw [p5, hsv (by decide), decide_eq_true_iff]
    exact wc (W := wSp) (seg_okC h.1 _ _) okC_sp (by decide)
  have c10 : RR X (d + 3) 167 [.ref 38, .int (nI c), .long 121367185850368] σ (some (.int (oI (num (vlo T E (sxo T E (some c) wNb))))), σ) := K167 (d := d + 1) (W := wNb) h l5 ⟨by decide, by decide⟩
  have c11 : RR X (d + 3) 167 [.ref 38, .int (nI c), .long 121424647815168] σ (some (.int (oI (num (vlo T E (sxo T E (some c) wNoa))))), σ) := K167 (d := d + 1) (W := wNoa) h l5 ⟨by decide, by decide⟩
  have c12 : RR X (d + 3) 166 [.ref 38, .int (nI f), .long 125771406376960] σ (some (.long (lN (pck (vlo T E (sxo T E (some f) wRcp))))), σ) := K166 (d := d + 1) (W := wRcp) h l8 ⟨by decide, by decide⟩
  have e12 : lg_cmp (lN (pck (vlo T E (sxo T E (some f) wRcp)))) 6382451 = 0 ↔ ((sxo T E (some f) wRcp).isSome && decide (vlo T E (sxo T E (some f) wRcp) = wAcs)) = true := by
    rw [hsv (by decide), decide_eq_true_iff]
    exact wc (W := wAcs) (seg_okC h.1 _ _) okC_acs (by decide)
  have c16 : RR X (d + 3) 167 [.ref 38, .int (nI f), .long 121424647815168] σ (some (.int (oI (num (vlo T E (sxo T E (some f) wNoa))))), σ) := K167 (d := d + 1) (W := wNoa) h l8 ⟨by decide, by decide⟩
  have hi0 := hR.2.2.2.1
  have hif := hR.2.2.2.2.2.2.2.2.2.2.2.2.2.2.1
  rw [p8] at hif
  unfold hs at hi0 hif
  rcases msl_sx h.2.2.1 l8 okIrt with ⟨u1, u2⟩ | ⟨m1, s1, u1, u2, u3, u4, u5⟩
  · rw [u2] at hif
    cases hif
  · rcases msl_sx h.2.2.1 h0 okIrt with ⟨w1, w2⟩ | ⟨m2, s2, w1, w2, w3, w4, w5⟩
    · rw [w2] at hi0
      cases hi0
    · have c13 : RR X (d + 3) 148 [.ref 38, .int (nI f), .long 115940293345280] σ (some (.int (nI m1)), σ) := by
        have := K148m (X := X) (d := d + 2) (W := wIrt) h l8 okIrt
        rw [u1] at this
        exact this
      have c14 : RR X (d + 3) 148 [.ref 38, .int 0, .long 115940293345280] σ (some (.int (nI m2)), σ) := by
        have := K148m (X := X) (d := d + 2) (W := wIrt) h h0 okIrt
        rw [w1] at this
        exact this
      have c15 := K168 (X := X) (d := d + 2) h (m := m1) (m' := m2) (by omega) (by rw [u4]; exact u5) (by omega) (by rw [w4]; exact w5)
      have sd : same' T E (sxo T E (some f) wIrt) (sxo T E (some 0) wIrt) = decide (vl T (mv E m1) = vl T (mv E m2)) := by
        unfold same'
        rw [u2, w2, vlo_mv u3, vlo_mv w3]
        rfl
      rw [← sd] at c15
      have t := A180 (X := X) (d := d + 3) c1 c2 c3 c4 c5 c6 e6 c7 (fun q => ?_) c8 (a8 := decide (σ.1 46 (oI (num (vlo T E (sxo T E (some 0) wIrt)))).toNatClampNeg = oI (some k))) (decide_eq_true_iff).symm c9 e9 c10 c11 c12 e12 c13 c14 c15 c16
      · have e10 : (wB (σ.1 47) (σ.1 45) (σ.1 38 1) (σ.1 38 2) m (num (vlo T E (sxo T E (some 0) wIrt))) && decide (σ.1 46 (oI (num (vlo T E (sxo T E (some 0) wIrt)))).toNatClampNeg = oI (some k))) = q10 T E (σ.1 47) (σ.1 45) (σ.1 46) (σ.1 38 1) (σ.1 38 2) m k := by
          unfold q10
          cases hr : num (vlo T E (sxo T E (some 0) wIrt)) with
          | none => rfl
          | some r =>
            have := num_31 r hr
            rw [wB_s, awB_s]
            show _ = _
            rw [show (oI (some r)).toNatClampNeg = r from nI_clamp this, Bool.and_assoc]
            rfl
        rw [e10] at t
        unfold q12 q13 ro
        rw [p5, p8]
        exact t
      · cases hr : num (vlo T E (sxo T E (some 0) wIrt)) with
        | none =>
          rw [hr] at q
          cases q
        | some r =>
          rw [hr, wB_s, Bool.and_eq_true] at q
          have := of_decide_eq_true q.1
          exact mi_in_nI (j := r) (by omega) (by omega)
theorem K181r {m M m' k : Nat} {sl : Nat → List Nat} {i st a ai c s nm f : Nat} (h : cM T n E σ) (hR : RS T n E) (hp : RP T n E i st a ai c s nm f) (hm : m ≤ 30) (hc : σ.1 38 11 = nI m) (hkk : nmd (bdy T E (some i)) = some k) (hM : M ≤ 40) (hcM : σ.1 38 19 = nI M) (hs : ∀ i, i < M → okL (sl i) ∧ σ.2 51 i = lN (pk8 (sl i))) (hm' : m' ≤ 20) (hc' : σ.1 38 15 = nI m') {code : Int32} (hcode : code = fc false (!q9 T n E) (!q10 T E (σ.1 47) (σ.1 45) (σ.1 46) (σ.1 38 1) (σ.1 38 2) m k) (!q11 T n E) (q12 T n E (σ.1 38 2) (σ.1 38 0)) (q13 T n E (σ.1 38 2) (σ.1 38 0)) (q14 T E sl M (some a)) (decide (20 ≤ m') || decide (40 ≤ M))) (hne : ¬ code = 0) : RR X (d + 5) 181 [.ref 38, .int (nI a)] σ (some (.int code), σ) := by
  have l3 := (one_some (RP_one hp).2.2.1).2.2
  have c1 : RR X (d + 4) 166 [.ref 38, .int (nI a), .long 115878217646080] σ (some (.long (lN (pck (vlo T E (sxo T E (some a) wID))))), σ) := K166 (d := d + 2) (W := wID) h l3 ⟨by decide, by decide⟩
  have c2 := K180 (X := X) (d := d) h hR hp hm hc hkk
  have hka := hR.2.2.2.2.2.2.2.1
  rw [hp.2.2.1] at hka
  unfold hk at hka
  rw [← wrd_kyl (no60 h.2.2.1 (sxo_ok h.2.2.1 (oE_some l3)).1)] at hka
  have c3 := K178 (X := X) (d := d + 3) hM hcM hs (L := vlo T E (sxo T E (some a) wID)) (seg_okC h.1 _ _) hka
  have e20 : (20 : Int32) ≤ σ.1 38 15 ↔ 20 ≤ m' := by rw [hc']; exact nI_leI (a := 20) (by omega) (by omega)
  have e40 : σ.1 38 19 < 40 ↔ M < 40 := by rw [hcM]; exact nI_ltI (b := 40) (by omega) (by omega)
  generalize q9 T n E = b9 at *
  generalize q10 T E (σ.1 47) (σ.1 45) (σ.1 46) (σ.1 38 1) (σ.1 38 2) m k = b10 at *
  generalize q11 T n E = b11 at *
  generalize q12 T n E (σ.1 38 2) (σ.1 38 0) = b12 at *
  generalize q13 T n E (σ.1 38 2) (σ.1 38 0) = b13 at *
  have e14 : q14 T E sl M (some a) = an (fun i => decide (sl i = vlo T E (sxo T E (some a) wID))) M := rfl
  rw [e14] at hcode
  generalize an (fun i => decide (sl i = vlo T E (sxo T E (some a) wID))) M = b14 at *
  by_cases hz : fc false (!b9) (!b10) (!b11) b12 b13 false false = 0
  · have hb : b9 = true ∧ b10 = true ∧ b11 = true ∧ b12 = false ∧ b13 = false := by
      revert hz
      cases b9 <;> cases b10 <;> cases b11 <;> cases b12 <;> cases b13 <;> decide
    obtain ⟨g1, g2, g3, g4, g5⟩ := hb
    subst g1 g2 g3 g4 g5
    cases b14 with
    | true =>
      have : code = -14 := hcode
      rw [this]
      refine mi_R.of rfl rfl ?_
      apply R181_0 (σ4 := σ) (v4 := 0) (σ5 := σ) (v5 := 0) (σ6 := σ) (v6 := 0) (σ7 := σ) (v7 := 0) (σ8 := σ) (v8 := 0) (σ9 := σ) c1 c2 (fun _ => c3)
      case k4 => exact fun _ _ => rfl
      case k5 => exact fun y => absurd hz y
      all_goals exact fun _ y => absurd y (show ¬ (1 : Int32) = 0 by decide)
    | false =>
      have hb15 : (decide (20 ≤ m') || decide (40 ≤ M)) = true := by
        cases hh : (decide (20 ≤ m') || decide (40 ≤ M)) with
        | true => rfl
        | false =>
          rw [hh] at hcode
          exact absurd hcode hne
      have : code = -15 := by
        rw [hcode, hb15]
        rfl
      rw [this]
      refine mi_R.of rfl rfl ?_
      apply R181_0 (σ4 := σ) (v4 := 0) (σ5 := σ) (v5 := 0) (σ6 := σ) (v6 := 0) (σ7 := σ) (v7 := 0) (σ8 := σ) (v8 := 0) (σ9 := σ) c1 c2 (fun _ => c3)
      case k1 => exact fun _ _ _ => rfl
      case k3 => exact fun _ _ _ _ => rfl
      case k4 => exact fun _ y => absurd rfl y
      case k5 => exact fun y => absurd hz y
      all_goals
        intro _ _ y1 y2
        rw [decide_eq_false (p := 20 ≤ m') (fun q => y1 (e20.mpr q)), decide_eq_false (p := 40 ≤ M) (by have := e40.mp y2; omega)] at hb15
        cases hb15
  · have : code = fc false (!b9) (!b10) (!b11) b12 b13 false false := by
      rw [hcode]
      revert hz
      cases b9 <;> cases b10 <;> cases b11 <;> cases b12 <;> cases b13 <;> first | (intro _; rfl) | (intro z; exact absurd rfl z)
    rw [this]
    refine mi_R.of rfl rfl ?_
    apply R181_0 (v3 := 0) (σ3 := σ) (σ4 := σ) (v4 := 0) (σ5 := σ) (v5 := 0) (σ6 := σ) (v6 := 0) (σ7 := σ) (v7 := 0) (σ8 := σ) (v8 := 0) (σ9 := σ) c1 c2
    case k5 => exact fun _ => rfl
    all_goals exact fun y => absurd y hz
end
