/-! Acceptance -/
section
variable {X : Nat × (Nat → Int32)} {d : Nat} {T : List Nat} {n : Nat} {E : Nat → mEl} {σ : mG}
theorem u36_f {c k : Nat} {v : Int32} : (u36 σ c k v).1 c = upd (σ.1 c) k v := mi_uc_same _ _ _
theorem u36_fN {c k : Nat} {v : Int32} (hc : c = 47 ∨ c = 48 ∨ c = 50) : fN σ (u36 σ c k v) := ⟨fun c' h1 h2 h3 h4 => u36_c (by omega), fun _ _ _ => rfl, fun k' _ _ => by rw [u36_c (show 38 ≠ c by omega)]⟩
def sB (σ : mG) (m : Nat) (y : Int64) : mG := (mi_uc σ.1 38 (upd (σ.1 38) 15 (nI (m + 1))), mi_uc σ.2 49 (vp_updL (σ.2 49) m y))
theorem sB_fN {m : Nat} {y : Int64} : fN σ (sB σ m y) := ⟨fun c h1 _ _ _ => mi_uc_ne _ _ h1, fun c h1 _ => mi_uc_ne _ _ h1, fun k h1 _ => mi_upd_ne _ _ h1⟩
theorem K181a {m M m' k r : Nat} {sl : Nat → List Nat} {i st a ai c s nm f : Nat} (h : cM T n E σ) (hR : RS T n E) (hp : RP T n E i st a ai c s nm f) (hm : m ≤ 30) (hc : σ.1 38 11 = nI m) (hkk : nmd (bdy T E (some i)) = some k) (hM : M < 40) (hcM : σ.1 38 19 = nI M) (hs : ∀ i, i < M → okL (sl i) ∧ σ.2 51 i = lN (pk8 (sl i))) (hm' : m' < 20) (hc' : σ.1 38 15 = nI m') (hcode : fc false (!q9 T n E) (!q10 T E (σ.1 47) (σ.1 45) (σ.1 46) (σ.1 38 1) (σ.1 38 2) m k) (!q11 T n E) (q12 T n E (σ.1 38 2) (σ.1 38 0)) (q13 T n E (σ.1 38 2) (σ.1 38 0)) false false = 0) (hq14 : q14 T E sl M (some a) = false) (hr : num (vlo T E (sxo T E (some 0) wIrt)) = some r) (hrm : r < m) : RR X (d + 5) 181 [.ref 38, .int (nI a)] σ (some (.int (nI m')), sB (u36 (u36 (sA σ M (lN (pck (vlo T E (sxo T E (some a) wID))))) 47 r 1) 48 m' (nI k)) m' (lN (pck (bdy T E (some nm))))) := by
  have h0 : 0 < n := h.2.2.1.1
  obtain ⟨o1, o2, o3, o4, o5, o6, o7, o8⟩ := RP_one hp
  obtain ⟨-, f3, l3⟩ := one_some o3
  obtain ⟨-, f6, l6⟩ := one_some o6
  obtain ⟨-, f7, l7⟩ := one_some o7
  have c1 : RR X (d + 4) 166 [.ref 38, .int (nI a), .long 115878217646080] σ (some (.long (lN (pck (vlo T E (sxo T E (some a) wID))))), σ) := K166 (d := d + 2) (W := wID) h l3 ⟨by decide, by decide⟩
  have c2 := K180 (X := X) (d := d) h hR hp hm hc hkk
  rw [hcode] at c2
  have hka := hR.2.2.2.2.2.2.2.1
  rw [hp.2.2.1] at hka
  unfold hk at hka
  rw [← wrd_kyl (no60 h.2.2.1 (sxo_ok h.2.2.1 (oE_some l3)).1)] at hka
  have c3 := K178 (X := X) (d := d + 3) (by omega) hcM hs (L := vlo T E (sxo T E (some a) wID)) (seg_okC h.1 _ _) hka
  have e14 : an (fun i => decide (sl i = vlo T E (sxo T E (some a) wID))) M = false := hq14
  rw [e14] at c3
  have e20 : ¬ (20 : Int32) ≤ σ.1 38 15 := by rw [hc']; exact nI_ge (b := 20) (by omega) (by omega)
  have e40 : σ.1 38 19 < 40 := by rw [hcM]; exact nI_lt (b := 40) (by omega) (by omega)
  let s4 := sA σ M (lN (pck (vlo T E (sxo T E (some a) wID))))
  have c4 : RR X (d + 4) 179 [.ref 38, .long (lN (pck (vlo T E (sxo T E (some a) wID))))] σ (none, s4) := K179 (d := d + 3) hM hcM _
  have f4 : fN σ s4 := sA_fN
  have h4 := cM_of h f4
  have c5 : RR X (d + 4) 167 [.ref 38, .int 0, .long 115940293345280] s4 (some (.int (nI r)), s4) := by
    have := K167 (X := X) (d := d + 2) (W := wIrt) h4 h0 ⟨by decide, by decide⟩
    rw [hr] at this
    exact this
  let s6 := u36 s4 47 r 1
  have h6 : cM T n E s6 := cM_of h4 (u36_fN (by omega))
  have c6 : RR X (d + 4) 176 [.ref 38, .int 0] s6 (some (.int (nI k)), s6) := by
    have := K176 (X := X) (d := d + 1) h6 h0 o1
    rw [hkk] at this
    exact this
  let s7 := u36 s6 48 m' (nI k)
  have h7 : cM T n E s7 := cM_of h6 (u36_fN (by omega))
  have c7 : RR X (d + 4) 170 [.ref 38, .int (nI a), .long 126947999481856] s7 (some (.int (nI s)), s7) := by
    have := K170 (X := X) (d := d + 3) (W := wSubj) h7 l3 ⟨by decide, by decide⟩
    rw [f6] at this
    exact this
  have c8 : RR X (d + 4) 170 [.ref 38, .int (nI s), .long 121364726218752] s7 (some (.int (nI nm)), s7) := by
    have := K170 (X := X) (d := d + 3) (W := wName) h7 l6 ⟨by decide, by decide⟩
    rw [f7] at this
    exact this
  have c9 := K165 (X := X) (d := d + 2) h7 l7
  have e15 : s4.1 38 15 = nI m' := (mi_upd_ne (σ.1 38) (k := 19) (j := 15) (nI (M + 1)) (by omega)).trans hc'
  have e15' : s7.1 38 15 = nI m' := e15
  refine mi_R.of rfl rfl ?_
  apply R181_0 (σ1 := σ) (σ2 := σ) (v3 := bI false) (σ3 := σ) (σ4 := s4) (v4 := nI r) (σ5 := s4) (v5 := nI k) (σ6 := s6) (v6 := nI s) (σ7 := s7) (v7 := nI nm) (σ8 := s7) (v8 := lN (pck (bdy T E (some nm)))) (σ9 := s7) c1 c2 (fun _ => c3)
  case k1 => exact fun _ _ y => absurd y e20
  case c4 => exact fun _ _ _ _ => c4
  case c5 => exact fun _ _ _ _ => c5
  case b1 => exact fun _ _ _ _ => mi_in_nI (by omega) (by omega)
  case c6 =>
    intro _ _ _ _
    rw [nI_clamp (by omega), nar21]
    exact c6
  case b2 =>
    intro _ _ _ _
    rw [e15]
    exact mi_in_nI hm' (by omega)
  case c7 =>
    intro _ _ _ _
    rw [e15, nI_clamp (by omega)]
    exact c7
  case c8 => exact fun _ _ _ _ => c8
  case c9 => exact fun _ _ _ _ => c9
  case b3 =>
    intro _ _ _ _
    rw [e15']
    exact mi_in_nI hm' (by omega)
  case k2 =>
    intro _ _ _ _
    rw [e15', nI_clamp (by omega), nI_1, nI_pred]
    rfl
  case k3 => exact fun _ _ _ y => absurd e40 y
  case k4 => exact fun _ y => absurd rfl y
  case k5 => exact fun y => absurd rfl y
/-! the class -/
theorem r36_of {σ' : mG} (r : r36 T n E σ) (e : σ'.1 36 = σ.1 36) : r36 T n E σ' := by
  unfold r36 at *
  rw [e]
  exact r
theorem T103n (h : cC T n E σ) (r : r36 T n E σ) (hne : ¬ bdy T E (pIss T n E) = bdy T E (pAIss T n E)) : TT X (d + 3) tb30 (some .int) (103, [some (.ref 0), none, none], [], σ) (some (.int (-7)), σ) := by
  obtain ⟨r1, r2, r3, r4, r5, r6, r7, r8, r9, r10⟩ := r
  have c1 : RR X (d + 3) 64 [.ref 5, .int (σ.1 36 1), .int (σ.1 36 5)] σ (some (.int 0), σ) := by
    rw [r1, r5]
    have := K64 (X := X) (d := d) h (o := pIss T n E) (o' := pAIss T n E) (one_oE _ _ _ _ _) (one_oE _ _ _ _ _)
    rw [decide_eq_false hne] at this
    exact this
  apply R30_103 (v2 := 0) (σ2 := σ) (v3 := 0) (σ3 := σ) (σ4 := σ) (v4 := 0) (σ5 := σ) (σ6 := σ) (v5 := 0) (σ7 := σ) (v6 := 0) (σ8 := σ) (v7 := 0) (σ9 := σ) c1
  case k3 => exact fun _ => rfl
  all_goals exact fun y => absurd rfl y
theorem T103r {k : Nat} {code : Int32} {tk : Nat → Nat × Nat} (h : cC T n E σ) (r : r36 T n E σ) (ht : trC tk (σ.1 19) (σ.1 20)) (heq : bdy T E (pIss T n E) = bdy T E (pAIss T n E)) (htr : trn tk (bdy T E (pIss T n E)) = some k) (k31 : RR X (d + 5) 31 [.ref 0, .int (nI k)] σ (some (.int code), σ)) (hne : ¬ code = 0) : TT X (d + 5) tb30 (some .int) (103, [some (.ref 0), none, none], [], σ) (some (.int code), σ) := by
  obtain ⟨r1, r2, r3, r4, r5, r6, r7, r8, r9, r10⟩ := r
  have c1 : RR X (d + 5) 64 [.ref 5, .int (σ.1 36 1), .int (σ.1 36 5)] σ (some (.int 1), σ) := by
    rw [r1, r5]
    have := K64 (X := X) (d := d + 2) h (o := pIss T n E) (o' := pAIss T n E) (one_oE _ _ _ _ _) (one_oE _ _ _ _ _)
    rw [decide_eq_true heq] at this
    exact this
  have c2 : RR X (d + 5) 35 [.ref 0, .int (σ.1 36 1)] σ (some (.int (nI k)), σ) := by
    rw [r1]
    have := K35 (X := X) (d := d + 2) h ht (o := pIss T n E) (one_oE _ _ _ _ _)
    rw [htr] at this
    exact this
  apply R30_103 (σ4 := σ) (v4 := 0) (σ5 := σ) (σ6 := σ) (v5 := 0) (σ7 := σ) (v6 := 0) (σ8 := σ) (v7 := 0) (σ9 := σ) c1 (fun _ => c2) (fun _ => k31)
  case k2 => exact fun _ _ => rfl
  case k3 => exact fun y => absurd (show ¬ (1 : Int32) = 0 by decide) y
  all_goals exact fun _ y => absurd y hne
theorem T103a {k m M m' rq : Nat} {sl sl' : Nat → List Nat} {tk : Nat → Nat × Nat} {i st a ai c s nm f : Nat} (h : cC T n E σ) (r : r36 T n E σ) (hR : RS T n E) (hp : RP T n E i st a ai c s nm f) (ht : trC tk (σ.1 19) (σ.1 20)) (heq : bdy T E (pIss T n E) = bdy T E (pAIss T n E)) (htr : trn tk (bdy T E (pIss T n E)) = some k) (k31 : RR X (d + 5) 31 [.ref 0, .int (nI k)] σ (some (.int 0), σ)) (hm : m ≤ 30) (hc : σ.1 23 4 = nI m) (hr : num (vlo T E (sxo T E (some 0) wIrt)) = some rq) (hrm : rq < m) (hM : M < 40) (hcM : σ.1 33 3 = nI M) (hb : lbs M (σ.1 34) (σ.1 35) sl) (h33 : σ.1 33 0 = 40) (hm' : m' < 20) (hc' : σ.1 30 3 = nI m') (hb' : lbs m' (σ.1 31) (σ.1 32) sl') (h30 : σ.1 30 0 = 20) : ∃ σ', TT X (d + 5) tb30 (some .int) (103, [some (.ref 0), none, none], [], σ) (some (.int (nI m')), σ') ∧ σ'.2 = σ.2 ∧ (∀ c, c ≠ 26 → (c < 28 ∨ 35 < c) → σ'.1 c = σ.1 c) ∧ σ'.1 26 = upd (σ.1 26) rq 1 ∧ σ'.1 28 = upd (σ.1 28) m' (nI k) ∧ σ'.1 29 = upd (σ.1 29) m' 1 ∧ σ'.1 33 3 = nI (M + 1) ∧ σ'.1 33 0 = 40 ∧ lbs (M + 1) (σ'.1 34) (σ'.1 35) (fun j => if j = M then vlo T E (sxo T E (some a) wID) else sl j) ∧ σ'.1 30 3 = nI (m' + 1) ∧ σ'.1 30 0 = 20 ∧ lbs (m' + 1) (σ'.1 31) (σ'.1 32) (fun j => if j = m' then bdy T E (some nm) else sl' j) := by
  have r0 := r
  obtain ⟨r1, r2, r3, r4, r5, r6, r7, r8, r9, r10⟩ := r
  obtain ⟨o1, o2, o3, o4, o5, o6, o7, o8⟩ := RP_one hp
  obtain ⟨-, -, l3⟩ := one_some o3
  obtain ⟨-, -, l7⟩ := one_some o7
  have c1 : RR X (d + 5) 64 [.ref 5, .int (σ.1 36 1), .int (σ.1 36 5)] σ (some (.int 1), σ) := by
    rw [r1, r5]
    have := K64 (X := X) (d := d + 2) h (o := pIss T n E) (o' := pAIss T n E) (one_oE _ _ _ _ _) (one_oE _ _ _ _ _)
    rw [decide_eq_true heq] at this
    exact this
  have c2 : RR X (d + 5) 35 [.ref 0, .int (σ.1 36 1)] σ (some (.int (nI k)), σ) := by
    rw [r1]
    have := K35 (X := X) (d := d + 2) h ht (o := pIss T n E) (one_oE _ _ _ _ _)
    rw [htr] at this
    exact this
  -- the key, the name
  have hka := hR.2.2.2.2.2.2.2.1
  rw [hp.2.2.1] at hka
  unfold hk at hka
  have hsx := (sxo_ok h.2.2.1 (W := wID) (oE_some l3)).1
  obtain ⟨v1, v2⟩ := val_le h.2.2.1 hsx
  have hvlen : (vlo T E (sxo T E (some a) wID)).length = vT E (sxo T E (some a) wID) - vF E (sxo T E (some a) wID) := seg_len v2
  have hv8 : vT E (sxo T E (some a) wID) - vF E (sxo T E (some a) wID) ≤ 8 := by
    unfold kyl at hka
    rw [Bool.and_eq_true] at hka
    rw [← hvlen]
    exact of_decide_eq_true hka.2
  have hokid : okL (vlo T E (sxo T E (some a) wID)) := by
    rw [← wrd_kyl (no60 h.2.2.1 hsx)] at hka
    exact okL_of (seg_okC h.1 _ _) hka
  obtain ⟨s4, c4, f4, g1, g2, g3⟩ := K37 (X := X) (d := d + 2) h hM hcM h33 (o := some a) (oE_some l3) hv8
  have c4 : RR X (d + 5) 37 [.ref 0, .int (σ.1 36 3)] σ (none, s4) := by
    rw [r3, hp.2.2.1]
    exact c4
  have h4 : cC T n E s4 := cC_of h fun c hc' => f4.2.1 c (by omega) (by omega) (by omega)
  have c5 : RR X (d + 5) 74 [.ref 5, .int 0, .ref 1049] s4 (some (.int (nI rq)), s4) := by
    have := K74 (X := X) (d := d + 2) (o := some 0) (w := 1049) (W := wIrt) h4 (oE0 h) ⟨rfl, by decide, by decide⟩
    rw [hr] at this
    exact this
  have c6 : RR X (d + 5) 103 [.ref 23, .int (nI rq)] s4 (none, u36 s4 26 rq 1) := K103 (d := d + 4) hm (by rw [f4.2.1 23 (by omega) (by omega) (by omega)]; exact hc) hrm
  have h6 : cC T n E (u36 s4 26 rq 1) := u36_cC h4 (by omega)
  have e36 : (u36 s4 26 rq 1).1 36 = σ.1 36 := (u36_c (by omega)).trans (f4.2.1 36 (by omega) (by omega) (by omega))
  have c7 : RR X (d + 5) 60 [.ref 5, .int ((u36 s4 26 rq 1).1 36 9)] (u36 s4 26 rq 1) (some (.int (nI (pF E (some nm)))), u36 s4 26 rq 1) := by
    rw [e36, r9, hp.2.2.2.2.2.2.1]
    exact K60 (d := d + 3) (o := some nm) h6 (oE_some l7)
  have c8 : RR X (d + 5) 61 [.ref 5, .int ((u36 s4 26 rq 1).1 36 9)] (u36 s4 26 rq 1) (some (.int (nI (pT' E (some nm)))), u36 s4 26 rq 1) := by
    rw [e36, r9, hp.2.2.2.2.2.2.1]
    exact K61 (d := d + 3) (o := some nm) h6 (oE_some l7)
  obtain ⟨b1, b2⟩ := body_le h.2.2.1 (oE_some l7)
  have hblen : (bdy T E (some nm)).length = pT' E (some nm) - pF E (some nm) := seg_len b2
  have hwn := hR.2.2.2.2.2.2.2.2.2.2.2.2.2.1
  rw [hp.2.2.2.2.2.2.1] at hwn
  unfold hw at hwn
  have hoknm : okL (bdy T E (some nm)) := okL_of (seg_okC h.1 _ _) hwn
  have hb8 : pT' E (some nm) - pF E (some nm) ≤ 8 := by
    rw [← hblen]
    exact hoknm.2.1
  have e30 : (u36 s4 26 rq 1).1 30 = σ.1 30 := (u36_c (by omega)).trans (f4.2.1 30 (by omega) (by omega) (by omega))
  obtain ⟨s9, c9, f9, t1, t2, t3⟩ := K107 (X := X) (d := d + 2) h6 hm' (by rw [e30]; exact hc') (by rw [e30]; exact h30) b1 b2 hb8 (nI k)
  have low : ∀ c, c ≠ 26 → (c < 28 ∨ 35 < c) → s9.1 c = σ.1 c := fun c h1 h2 => (f9.2.1 c (by omega) (by omega) (by omega)).trans ((u36_c h1).trans (f4.2.1 c (by omega) (by omega) (by omega)))
  have mid : ∀ c, 33 ≤ c → c ≤ 35 → s9.1 c = s4.1 c := fun c h1 h2 => (f9.2.1 c (by omega) (by omega) (by omega)).trans (u36_c (by omega))
  have fin : ∀ c, c ≠ 28 → c ≠ 29 → (u36 (u36 s9 28 m' (nI k)) 29 m' 1).1 c = s9.1 c := fun c h1 h2 => (u36_c h2).trans (u36_c h1)
  have e28 : s9.1 28 = σ.1 28 := (f9.2.1 28 (by omega) (by omega) (by omega)).trans ((u36_c (by omega)).trans (f4.2.1 28 (by omega) (by omega) (by omega)))
  have e29 : s9.1 29 = σ.1 29 := (f9.2.1 29 (by omega) (by omega) (by omega)).trans ((u36_c (by omega)).trans (f4.2.1 29 (by omega) (by omega) (by omega)))
  refine ⟨u36 (u36 s9 28 m' (nI k)) 29 m' 1, ?_, f9.1.trans f4.1, fun c h1 h2 => (fin c (by omega) (by omega)).trans (low c h1 h2), ?_, ?_, ?_, ?_, ?_, ?_, ?_, ?_, ?_⟩
  · apply R30_103 (v4 := nI rq) (σ5 := s4) (σ6 := u36 s4 26 rq 1) (v5 := nI (pF E (some nm))) (σ7 := u36 s4 26 rq 1) (v6 := nI (pT' E (some nm))) (σ8 := u36 s4 26 rq 1) (v7 := nI m') (σ9 := u36 (u36 s9 28 m' (nI k)) 29 m' 1) c1 (fun _ => c2) (fun _ => k31) (fun _ _ => c4) (fun _ _ => c5) (fun _ _ => c6) (fun _ _ => c7) (fun _ _ => c8) (fun _ _ => c9)
    case k1 => exact fun _ _ => rfl
    case k2 => exact fun _ y => absurd rfl y
    case k3 => exact fun y => absurd (show ¬ (1 : Int32) = 0 by decide) y
  · rw [fin 26 (by omega) (by omega), f9.2.1 26 (by omega) (by omega) (by omega)]
    rw [u36_f, f4.2.1 26 (by omega) (by omega) (by omega)]
  · rw [u36_c (show (28 : Nat) ≠ 29 by omega)]
    rw [u36_f, e28]
  · rw [u36_f, u36_c (show (29 : Nat) ≠ 28 by omega), e29]
  · rw [fin 33 (by omega) (by omega), mid 33 (by omega) (by omega)]
    exact g1
  · rw [fin 33 (by omega) (by omega), mid 33 (by omega) (by omega), f4.2.2.1 0 (by omega)]
    exact h33
  · rw [fin 34 (by omega) (by omega), fin 35 (by omega) (by omega), mid 34 (by omega) (by omega), mid 35 (by omega) (by omega)]
    exact lbsb v2 hb f4 g2 g3 hokid
  · rw [fin 30 (by omega) (by omega)]
    exact t1
  · rw [fin 30 (by omega) (by omega), f9.2.2.1 0 (by omega), e30]
    exact h30
  · rw [fin 31 (by omega) (by omega), fin 32 (by omega) (by omega)]
    refine lbsa b2 ?_ f9 t2 t3 hoknm
    rw [u36_c (show (31 : Nat) ≠ 26 by omega), u36_c (show (32 : Nat) ≠ 26 by omega), f4.2.1 31 (by omega) (by omega) (by omega), f4.2.1 32 (by omega) (by omega) (by omega)]
    exact hb'
end
