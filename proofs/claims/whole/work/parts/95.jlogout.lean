/-! Logout -/
def LoP (T : List Nat) (n : Nat) (E : Nat → mEl) (i nm : Nat) : Prop := pIss T n E = some i ∧ pLName T n E = some nm
theorem LoS_LoP {T : List Nat} {n : Nat} {E : Nat → mEl} (h : LoS T n E) : ∃ i nm, LoP T n E i nm := by
  obtain ⟨-, -, -, h4, h5, -⟩ := h
  obtain ⟨i, e1⟩ := hw_some h4
  obtain ⟨nm, e2⟩ := hw_some h5
  exact ⟨i, nm, e1, e2⟩
def eM (L : List Nat) (own en : Nat → Int32) (sl : Nat → List Nat) (x : Int32) (i : Nat) : Bool := decide (en i = 0) && (decide (own i = x) && decide (sl i = L))
section
variable {X : Nat × (Nat → Int32)} {d : Nat} {T : List Nat} {n : Nat} {E : Nat → mEl} {σ : mG}
theorem L182 {m' k i nm : Nat} {sl' : Nat → List Nat} (h : cM T n E σ) (hp : LoP T n E i nm) (hw' : wrd (bdy T E (some nm)) = true) (hkk : nmd (bdy T E (some i)) = some k) (hm' : m' ≤ 20) (hc' : σ.1 38 15 = nI m') (hs : ∀ i, i < m' → okL (sl' i) ∧ σ.2 49 i = lN (pk8 (sl' i))) {y1 : Int64} : ∀ (kk j : Nat) (σ' : mG), j + kk = m' → σ'.2 = σ.2 → (∀ c, c ≠ 50 → σ'.1 c = σ.1 c) → (∀ i, σ'.1 50 i = if i < j ∧ eM (bdy T E (some nm)) (σ.1 48) (σ.1 50) sl' (nI k) i = true then 1 else σ.1 50 i) → ∃ σ'', TT X (d + 3) tb182 (some .int) (42, [some (.ref 38), some (.long y1), none, some (.int (nI (cnt (eM (bdy T E (some nm)) (σ.1 48) (σ.1 50) sl' (nI k)) j))), some (.int (nI j))], [], σ') (some (.int (100 + nI (cnt (eM (bdy T E (some nm)) (σ.1 48) (σ.1 50) sl' (nI k)) m'))), σ'') ∧ σ''.2 = σ.2 ∧ (∀ c, c ≠ 50 → σ''.1 c = σ.1 c) ∧ ∀ i, σ''.1 50 i = if i < m' ∧ eM (bdy T E (some nm)) (σ.1 48) (σ.1 50) sl' (nI k) i = true then 1 else σ.1 50 i := by
  have h0 : 0 < n := h.2.2.1.1
  obtain ⟨-, fn, ln⟩ := one_some (show one T n E (some 0) wName = some nm from hp.2)
  intro kk
  induction kk with
  | zero =>
    intro j σ' hj h2 h1 h3
    have : j = m' := by omega
    subst this
    have z : σ'.1 38 15 ≤ nI j := by rw [h1 38 (by omega), hc']; exact nI_le (Nat.le_refl _) (by omega)
    refine ⟨σ', ?_, h2, h1, h3⟩
    apply R182_42 (v1 := 0) (σ1 := σ') (v2 := 0) (σ2 := σ') (v3 := 0) (σ3 := σ')
    case k1 => exact fun _ => rfl
    all_goals exact fun y => absurd z y
  | succ kk ih =>
    intro j σ' hj h2 h1 h3
    have z : ¬ σ'.1 38 15 ≤ nI j := by rw [h1 38 (by omega), hc']; exact nI_ge (by omega) (by omega)
    have hin : mi_in (nI j) 20 = true := mi_in_nI (by omega) (by omega)
    have h' : cM T n E σ' := cM_of h ⟨fun c _ _ _ h4 => h1 c h4, fun c _ _ => by rw [h2], fun k _ _ => by rw [h1 38 (by omega)]⟩
    have e50 : σ'.1 50 (nI j).toNatClampNeg = σ.1 50 j := by
      rw [nI_clamp (by omega), h3 j, if_neg (by omega)]
    have e48 : σ'.1 48 (nI j).toNatClampNeg = σ.1 48 j := by
      rw [nI_clamp (by omega), h1 48 (by omega)]
    have c1 : RR X (d + 3) 176 [.ref 38, .int 0] σ' (some (.int (nI k)), σ') := by
      have := K176 (X := X) (d := d) h' h0 hp.1
      rw [hkk] at this
      exact this
    have c2 : RR X (d + 3) 170 [.ref 38, .int 0, .long 121364726218752] σ' (some (.int (nI nm)), σ') := by
      have := K170 (X := X) (d := d + 2) (W := wName) h' h0 ⟨by decide, by decide⟩
      rw [fn] at this
      exact this
    have c3 := K165 (X := X) (d := d + 1) h' ln
    have e49 : lg_cmp (σ'.2 49 (nI j).toNatClampNeg) (lN (pck (bdy T E (some nm)))) = 0 ↔ sl' j = bdy T E (some nm) := by
      rw [nI_clamp (by omega), h2, (hs j (by omega)).2]
      exact lab_I (hs j (by omega)).1 (seg_okC h.1 _ _) hw'
    have keep : eM (bdy T E (some nm)) (σ.1 48) (σ.1 50) sl' (nI k) j = false → ∃ σ'', TT X (d + 3) tb182 (some .int) (42, [some (.ref 38), some (.long y1), none, some (.int (nI (cnt (eM (bdy T E (some nm)) (σ.1 48) (σ.1 50) sl' (nI k)) j))), some (.int (nI j + 1))], [], σ') (some (.int (100 + nI (cnt (eM (bdy T E (some nm)) (σ.1 48) (σ.1 50) sl' (nI k)) m'))), σ'') ∧ σ''.2 = σ.2 ∧ (∀ c, c ≠ 50 → σ''.1 c = σ.1 c) ∧ ∀ i, σ''.1 50 i = if i < m' ∧ eM (bdy T E (some nm)) (σ.1 48) (σ.1 50) sl' (nI k) i = true then 1 else σ.1 50 i := fun hf => by
      have := ih (j + 1) σ' (by omega) h2 h1 (fun i => by
        rw [h3 i]
        by_cases e : i = j
        · rw [e, if_neg (by omega), if_neg (by intro w; exact tf hf w.2)]
        · by_cases e2 : i < j ∧ eM (bdy T E (some nm)) (σ.1 48) (σ.1 50) sl' (nI k) i = true
          · rw [if_pos e2, if_pos ⟨by omega, e2.2⟩]
          · rw [if_neg e2, if_neg fun w => e2 ⟨by omega, w.2⟩])
      rw [cnt_f hf] at this
      rw [nI_1]
      exact this
    by_cases f1 : σ.1 50 j = 0
    · have y50 : σ'.1 50 (nI j).toNatClampNeg = 0 := e50.trans f1
      by_cases f2 : σ.1 48 j = nI k
      · have y48 : σ'.1 48 (nI j).toNatClampNeg = nI k := e48.trans f2
        by_cases f3 : sl' j = bdy T E (some nm)
        · have ht : eM (bdy T E (some nm)) (σ.1 48) (σ.1 50) sl' (nI k) j = true := by
            unfold eM
            rw [decide_eq_true f1, decide_eq_true f2, decide_eq_true f3]
            rfl
          obtain ⟨s2, t1, t2⟩ := ih (j + 1) (u36 σ' 50 j 1) (by omega) h2 (fun c hc'' => (u36_c hc'').trans (h1 c hc'')) (fun i => by
            by_cases e : i = j
            · rw [e, u36_s, if_pos ⟨by omega, ht⟩]
            · rw [u36_n e, h3 i]
              by_cases e2 : i < j ∧ eM (bdy T E (some nm)) (σ.1 48) (σ.1 50) sl' (nI k) i = true
              · rw [if_pos e2, if_pos ⟨by omega, e2.2⟩]
              · rw [if_neg e2, if_neg fun w => e2 ⟨by omega, w.2⟩])
          rw [cnt_t ht] at t1
          refine ⟨s2, ?_, t2⟩
          apply R182_42 (v1 := nI k) (σ1 := σ') (v2 := nI nm) (σ2 := σ') (v3 := lN (pck (bdy T E (some nm)))) (σ3 := σ')
          case k1 => exact fun y => absurd y z
          case b1 => exact fun _ => hin
          case k2 => exact fun _ y => absurd y50 y
          case b2 => exact fun _ _ => hin
          case c1 => exact fun _ _ => c1
          case k3 => exact fun _ _ y => absurd y48 y
          case b3 => exact fun _ _ _ => hin
          case c2 => exact fun _ _ _ => c2
          case c3 => exact fun _ _ _ => c3
          case k4 => exact fun _ _ _ y => absurd (e49.mpr f3) y
          case b4 => exact fun _ _ _ _ => hin
          case k5 =>
            intro _ _ _ _
            rw [nI_1, nI_1, nI_clamp (by omega), nar21]
            exact t1
        · obtain ⟨s2, t1, t2⟩ := keep (by unfold eM; rw [decide_eq_false f3, Bool.and_false, Bool.and_false])
          refine ⟨s2, ?_, t2⟩
          apply R182_42 (v1 := nI k) (σ1 := σ') (v2 := nI nm) (σ2 := σ') (v3 := lN (pck (bdy T E (some nm)))) (σ3 := σ')
          case k1 => exact fun y => absurd y z
          case b1 => exact fun _ => hin
          case k2 => exact fun _ y => absurd y50 y
          case b2 => exact fun _ _ => hin
          case c1 => exact fun _ _ => c1
          case k3 => exact fun _ _ y => absurd y48 y
          case b3 => exact fun _ _ _ => hin
          case c2 => exact fun _ _ _ => c2
          case c3 => exact fun _ _ _ => c3
          case k4 => exact fun _ _ _ _ => t1
          case b4 => exact fun _ _ _ _ => hin
          case k5 => exact fun _ _ _ y => absurd (fun q => f3 (e49.mp q)) y
      · have n48 : ¬ σ'.1 48 (nI j).toNatClampNeg = nI k := by rw [e48]; exact f2
        obtain ⟨s2, t1, t2⟩ := keep (by unfold eM; rw [decide_eq_false f2, Bool.false_and, Bool.and_false])
        refine ⟨s2, ?_, t2⟩
        apply R182_42 (v1 := nI k) (σ1 := σ') (v2 := 0) (σ2 := σ') (v3 := 0) (σ3 := σ')
        case k1 => exact fun y => absurd y z
        case b1 => exact fun _ => hin
        case k2 => exact fun _ y => absurd y50 y
        case b2 => exact fun _ _ => hin
        case c1 => exact fun _ _ => c1
        case k3 => exact fun _ _ _ => t1
        all_goals exact fun _ _ y => absurd n48 y
    · have n50 : ¬ σ'.1 50 (nI j).toNatClampNeg = 0 := by rw [e50]; exact f1
      obtain ⟨s2, t1, t2⟩ := keep (by unfold eM; rw [decide_eq_false f1]; rfl)
      refine ⟨s2, ?_, t2⟩
      apply R182_42 (v1 := 0) (σ1 := σ') (v2 := 0) (σ2 := σ') (v3 := 0) (σ3 := σ')
      case k1 => exact fun y => absurd y z
      case b1 => exact fun _ => hin
      case k2 => exact fun _ _ => t1
      all_goals exact fun _ y => absurd n50 y
theorem k182 {M : Nat} {sl : Nat → List Nat} (h : cM T n E σ) (hL : LoS T n E) (hM : M ≤ 40) (hcM : σ.1 38 19 = nI M) (hs : ∀ i, i < M → okL (sl i) ∧ σ.2 51 i = lN (pk8 (sl i))) : RR X (d + 2) 166 [.ref 38, .int 0, .long 115878217646080] σ (some (.long (lN (pck (vlo T E (sxo T E (some 0) wID))))), σ) ∧ RR X (d + 2) 178 [.ref 38, .long (lN (pck (vlo T E (sxo T E (some 0) wID))))] σ (some (.int (bI (q14 T E sl M (some 0)))), σ) := by
  have h0 : 0 < n := h.2.2.1.1
  have hka := hL.2.1
  unfold hk at hka
  rw [← wrd_kyl (no60 h.2.2.1 (sxo_ok h.2.2.1 (oE_some h0)).1)] at hka
  exact ⟨K166 (W := wID) h h0 ⟨by decide, by decide⟩, K178 (d := d + 1) hM hcM hs (L := vlo T E (sxo T E (some 0) wID)) (seg_okC h.1 _ _) hka⟩
theorem K182r {M : Nat} {sl : Nat → List Nat} (h : cM T n E σ) (hL : LoS T n E) (hM : M ≤ 40) (hcM : σ.1 38 19 = nI M) (hs : ∀ i, i < M → okL (sl i) ∧ σ.2 51 i = lN (pk8 (sl i))) : (q14 T E sl M (some 0) = true → RR X (d + 3) 182 [.ref 38] σ (some (.int (-14)), σ)) ∧ (q14 T E sl M (some 0) = false → 40 ≤ M → RR X (d + 3) 182 [.ref 38] σ (some (.int (-15)), σ)) := by
  obtain ⟨c1, c2⟩ := k182 (X := X) (d := d) h hL hM hcM hs
  refine ⟨fun q => ?_, fun q hM' => ?_⟩
  · rw [q] at c2
    have n1 : ¬ bI true = 0 := by decide
    exact mi_R.of rfl rfl (R182_0 (σ3 := σ) c1 c2 (fun y => absurd y n1) (fun y => absurd y n1) (fun y => absurd y n1) (fun _ => rfl))
  · rw [q] at c2
    have e40 : ¬ σ.1 38 19 < 40 := by rw [hcM]; exact nI_nlt (b := 40) hM' (by omega)
    exact mi_R.of rfl rfl (R182_0 (σ3 := σ) c1 c2 (fun _ y => absurd y e40) (fun _ y => absurd y e40) (fun _ _ => rfl) (fun y => absurd rfl y))
theorem K182a {M m' k i nm : Nat} {sl sl' : Nat → List Nat} (h : cM T n E σ) (hL : LoS T n E) (hp : LoP T n E i nm) (hM : M < 40) (hcM : σ.1 38 19 = nI M) (hs : ∀ i, i < M → okL (sl i) ∧ σ.2 51 i = lN (pk8 (sl i))) (hkk : nmd (bdy T E (some i)) = some k) (hm' : m' ≤ 20) (hc' : σ.1 38 15 = nI m') (hs' : ∀ i, i < m' → okL (sl' i) ∧ σ.2 49 i = lN (pk8 (sl' i))) (hq : q14 T E sl M (some 0) = false) : ∃ σ', RR X (d + 4) 182 [.ref 38] σ (some (.int (100 + nI (cnt (eM (bdy T E (some nm)) (σ.1 48) (σ.1 50) sl' (nI k)) m'))), σ') ∧ σ'.2 = (sA σ M (lN (pck (vlo T E (sxo T E (some 0) wID))))).2 ∧ (∀ c, c ≠ 50 → σ'.1 c = (sA σ M (lN (pck (vlo T E (sxo T E (some 0) wID))))).1 c) ∧ ∀ i, σ'.1 50 i = if i < m' ∧ eM (bdy T E (some nm)) (σ.1 48) (σ.1 50) sl' (nI k) i = true then 1 else σ.1 50 i := by
  obtain ⟨c1, c2⟩ := k182 (X := X) (d := d + 1) h hL (by omega) hcM hs
  rw [hq] at c2
  have e40 : σ.1 38 19 < 40 := by rw [hcM]; exact nI_lt (b := 40) hM (by omega)
  have hw' := hL.2.2.2.2.1
  rw [hp.2] at hw'
  unfold hw at hw'
  let s3 := sA σ M (lN (pck (vlo T E (sxo T E (some 0) wID))))
  have h3 : cM T n E s3 := cM_of h sA_fN
  have e15 : s3.1 38 15 = nI m' := (mi_upd_ne (σ.1 38) (k := 19) (j := 15) (nI (M + 1)) (by omega)).trans hc'
  obtain ⟨σ', t1, t2, t3, t4⟩ := L182 (X := X) (d := d) (sl' := sl') h3 hp hw' hkk hm' e15 (fun i hi => hs' i hi) (y1 := lN (pck (vlo T E (sxo T E (some 0) wID)))) m' 0 s3 (by omega) rfl (fun _ _ => rfl) (fun i => by rw [if_neg fun w => Nat.not_lt_zero i w.1])
  exact ⟨σ', mi_R.of rfl rfl (R182_0 c1 c2 (fun _ _ => K179 (d := d + 2) hM hcM _) (fun _ _ => t1) (fun _ y => absurd e40 y) (fun y => absurd rfl y)), t2, t3, t4⟩
/-! the class's logout, once its signature is valid -/
theorem T33 {tk : Nat → Nat × Nat} {M m' k i nm s : Nat} {sl sl' : Nat → List Nat} {σ1 : mG} (h : cC T n E σ) (r : r37 T n E σ) (hL : LoS T n E) (hp : LoP T n E i nm) (ht : trC tk (σ.1 19) (σ.1 20)) (hsig : pSig T n E = some s) (k34 : RR X (d + 6) 34 [.ref 0, .int (oI (some s)), .int (nI 0), .int (oI (some i))] σ (some (.int 1), σ1)) (fg : fG σ σ1) (htr : trn tk (bdy T E (some i)) = some k) (hM : M ≤ 40) (hcM : σ.1 33 3 = nI M) (hb : lbs M (σ.1 34) (σ.1 35) sl) (h33 : σ.1 33 0 = 40) (hm' : m' ≤ 20) (hc' : σ.1 30 3 = nI m') (hb' : lbs m' (σ.1 31) (σ.1 32) sl') : (q8 T E = false → RR X (d + 7) 33 [.ref 0] σ (some (.int (-8)), σ1)) ∧ (q8 T E = true → q14 T E sl M (some 0) = true → RR X (d + 7) 33 [.ref 0] σ (some (.int (-14)), σ1)) ∧ (q8 T E = true → q14 T E sl M (some 0) = false → 40 ≤ M → RR X (d + 7) 33 [.ref 0] σ (some (.int (-15)), σ1)) ∧ (q8 T E = true → q14 T E sl M (some 0) = false → M < 40 → ∃ σ', RR X (d + 7) 33 [.ref 0] σ (some (.int (100 + nI (cnt (eC (bdy T E (some nm)) (σ.1 28) (σ.1 29) sl' (nI k)) m'))), σ') ∧ σ'.2 = σ1.2 ∧ (∀ c, c ≠ 29 → (c < 33 ∨ 35 < c) → σ'.1 c = σ1.1 c) ∧ (∀ i, σ'.1 29 i = if i < m' ∧ eC (bdy T E (some nm)) (σ.1 28) (σ.1 29) sl' (nI k) i = true then 0 else σ.1 29 i) ∧ σ'.1 33 3 = nI (M + 1) ∧ σ'.1 33 0 = 40 ∧ lbs (M + 1) (σ'.1 34) (σ'.1 35) (fun j => if j = M then vlo T E (sxo T E (some 0) wID) else sl j)) := by
  obtain ⟨r1, r2, r3⟩ := r
  have h1 : cC T n E σ1 := cC_of h fun c hc'' => fg.2 c (by omega)
  have ht1 : trC tk (σ1.1 19) (σ1.1 20) := by
    rw [fg.2 19 (by omega), fg.2 20 (by omega)]
    exact ht
  have hc1 : ∀ c, c ≠ 17 → σ1.1 c = σ.1 c := fg.2
  have n37 : ¬ σ.1 37 3 = -1 := by
    rw [r3, hsig]
    exact fun z => m1_ne (c := s) (by have := (ls_ok (show ls (ch T E 0 sigL) n = some s from hsig)).1; have := h.2.2.1.2.1; omega) z.symm
  have c1 : RR X (d + 6) 34 [.ref 0, .int (σ.1 37 3), .int 0, .int (σ.1 37 1)] σ (some (.int 1), σ1) := by
    rw [r3, r1, hsig, hp.1]
    exact k34
  have c2 : RR X (d + 6) 69 [.ref 5, .int 0, .ref 1046, .ref 1047] σ1 (some (.int (bI (q8 T E))), σ1) := K69 (d := d + 3) (o := some 0) (W := wTo) (V := wAcs) h1 (oE0 h) ⟨rfl, by decide, by decide⟩ ⟨rfl, by decide, by decide⟩
  have c3 : RR X (d + 6) 36 [.ref 0, .int 0] σ1 (some (.int (bI (q14 T E sl M (some 0)))), σ1) := K36 (d := d + 2) (o := some 0) h1 hM (by rw [hc1 33 (by omega)]; exact hcM) (by rw [hc1 34 (by omega), hc1 35 (by omega)]; exact hb) (oE0 h)
  have c4 := K111b (X := X) (d := d + 5) (σ := σ1) hM (by rw [hc1 33 (by omega)]; exact hcM) (by rw [hc1 33 (by omega)]; exact h33)
  have n1 : ¬ (1 : Int32) = 0 := by decide
  refine ⟨fun q => ?_, fun q q' => ?_, fun q q' q'' => ?_, fun q q' q'' => ?_⟩
  · rw [q] at c2
    refine mi_R.of rfl rfl ?_
    apply R33_0 (v1 := 1) (σ1 := σ1) (v2 := bI false) (σ2 := σ1) (v3 := 0) (σ3 := σ1) (v4 := 0) (σ4 := σ1) (σ5 := σ1) (v5 := 0) (σ6 := σ1) (v6 := 0) (σ7 := σ1) (v7 := 0) (σ8 := σ1) (v8 := 0) (σ9 := σ1)
    case c1 => exact fun _ => c1
    case c2 => exact fun _ _ => c2
    case k4 => exact fun _ _ _ => rfl
    case k5 => exact fun _ y => absurd n1 y
    case k6 => exact fun y => absurd n37 y
    all_goals exact fun _ _ y => absurd rfl y
  · rw [q] at c2
    rw [q'] at c3
    have nt' : ¬ bI true = 0 := by decide
    refine mi_R.of rfl rfl ?_
    apply R33_0 (v1 := 1) (σ1 := σ1) (v2 := bI true) (σ2 := σ1) (v3 := bI true) (σ3 := σ1) (v4 := 0) (σ4 := σ1) (σ5 := σ1) (v5 := 0) (σ6 := σ1) (v6 := 0) (σ7 := σ1) (v7 := 0) (σ8 := σ1) (v8 := 0) (σ9 := σ1)
    case c1 => exact fun _ => c1
    case c2 => exact fun _ _ => c2
    case c3 => exact fun _ _ _ => c3
    case k3 => exact fun _ _ _ _ => rfl
    case k4 => exact fun _ _ y => absurd nt' y
    case k5 => exact fun _ y => absurd n1 y
    case k6 => exact fun y => absurd n37 y
    all_goals exact fun _ _ _ y => absurd y nt'
  · rw [q] at c2
    rw [q'] at c3
    rw [decide_eq_true q''] at c4
    have nt' : ¬ bI true = 0 := by decide
    refine mi_R.of rfl rfl ?_
    apply R33_0 (v1 := 1) (σ1 := σ1) (v2 := bI true) (σ2 := σ1) (v3 := bI false) (σ3 := σ1) (v4 := bI true) (σ4 := σ1) (σ5 := σ1) (v5 := 0) (σ6 := σ1) (v6 := 0) (σ7 := σ1) (v7 := 0) (σ8 := σ1) (v8 := 0) (σ9 := σ1)
    case c1 => exact fun _ => c1
    case c2 => exact fun _ _ => c2
    case c3 => exact fun _ _ _ => c3
    case c4 => exact fun _ _ _ _ => c4
    case k2 => exact fun _ _ _ _ _ => rfl
    case k3 => exact fun _ _ _ y => absurd rfl y
    case k4 => exact fun _ _ y => absurd nt' y
    case k5 => exact fun _ y => absurd n1 y
    case k6 => exact fun y => absurd n37 y
    all_goals exact fun _ _ _ _ y => absurd y nt'
  · rw [q] at c2
    rw [q'] at c3
    rw [decide_eq_false (p := 40 ≤ M) (by omega)] at c4
    have nt' : ¬ bI true = 0 := by decide
    have hka := hL.2.1
    unfold hk at hka
    have hsx := (sxo_ok h.2.2.1 (W := wID) (oE0 h)).1
    obtain ⟨v1, v2⟩ := val_le h.2.2.1 hsx
    have hvlen : (vlo T E (sxo T E (some 0) wID)).length = vT E (sxo T E (some 0) wID) - vF E (sxo T E (some 0) wID) := seg_len v2
    have hv8 : vT E (sxo T E (some 0) wID) - vF E (sxo T E (some 0) wID) ≤ 8 := by
      unfold kyl at hka
      rw [Bool.and_eq_true] at hka
      rw [← hvlen]
      exact of_decide_eq_true hka.2
    have hokid : okL (vlo T E (sxo T E (some 0) wID)) := by
      rw [← wrd_kyl (no60 h.2.2.1 hsx)] at hka
      exact okL_of (seg_okC h.1 _ _) hka
    obtain ⟨s5, c5, f5, g1, g2, g3⟩ := K37 (X := X) (d := d + 3) (σ := σ1) h1 q'' (by rw [hc1 33 (by omega)]; exact hcM) (by rw [hc1 33 (by omega)]; exact h33) (o := some 0) (oE0 h) hv8
    have h5 : cC T n E s5 := cC_of h1 fun c hc'' => f5.2.1 c (by omega) (by omega) (by omega)
    have lo5 : ∀ c, c ≠ 17 → (c < 33 ∨ 35 < c) → s5.1 c = σ.1 c := fun c q1 q2 => (f5.2.1 c (by omega) (by omega) (by omega)).trans (hc1 c q1)
    obtain ⟨-, -, li⟩ := one_some (show one T n E (some 0) wIss = some i from hp.1)
    obtain ⟨-, -, ln⟩ := one_some (show one T n E (some 0) wName = some nm from hp.2)
    have c6 : RR X (d + 6) 35 [.ref 0, .int (s5.1 37 1)] s5 (some (.int (nI k)), s5) := by
      rw [lo5 37 (by omega) (by omega), r1, hp.1]
      have := K35 (X := X) (d := d + 3) (tk := tk) h5 (by rw [lo5 19 (by omega) (by omega), lo5 20 (by omega) (by omega)]; exact ht) (o := some i) (oE_some li)
      rw [htr] at this
      exact this
    have c7 : RR X (d + 6) 60 [.ref 5, .int (s5.1 37 2)] s5 (some (.int (nI (pF E (some nm)))), s5) := by
      rw [lo5 37 (by omega) (by omega), r2, hp.2]
      exact K60 (d := d + 4) (o := some nm) h5 (oE_some ln)
    have c8 : RR X (d + 6) 61 [.ref 5, .int (s5.1 37 2)] s5 (some (.int (nI (pT' E (some nm)))), s5) := by
      rw [lo5 37 (by omega) (by omega), r2, hp.2]
      exact K61 (d := d + 4) (o := some nm) h5 (oE_some ln)
    obtain ⟨b1, b2⟩ := body_le h.2.2.1 (oE_some ln)
    obtain ⟨s9, c9, t1, t2, t3⟩ := K108 (X := X) (d := d + 3) (σ := s5) (m := m') (sl := sl') h5 hm' (by rw [lo5 30 (by omega) (by omega)]; exact hc') (by rw [lo5 31 (by omega) (by omega), lo5 32 (by omega) (by omega)]; exact hb') b1 b2 (nI k)
    rw [lo5 28 (by omega) (by omega), lo5 29 (by omega) (by omega)] at c9 t3
    refine ⟨s9, ?_, t1.trans f5.1, fun c q1 q2 => (t2 c q1).trans (f5.2.1 c (by omega) (by omega) (by omega)), t3, ?_, ?_, ?_⟩
    · refine mi_R.of rfl rfl ?_
      apply R33_0 (v1 := 1) (σ1 := σ1) (v2 := bI true) (σ2 := σ1) (v3 := bI false) (σ3 := σ1) (v4 := bI false) (σ4 := σ1) (σ5 := s5) (v5 := nI k) (σ6 := s5) (v6 := nI (pF E (some nm))) (σ7 := s5) (v7 := nI (pT' E (some nm))) (σ8 := s5) (v8 := nI (cnt (eC (bdy T E (some nm)) (σ.1 28) (σ.1 29) sl' (nI k)) m')) (σ9 := s9)
      case c1 => exact fun _ => c1
      case c2 => exact fun _ _ => c2
      case c3 => exact fun _ _ _ => c3
      case c4 => exact fun _ _ _ _ => c4
      case c5 => exact fun _ _ _ _ _ => c5
      case c6 => exact fun _ _ _ _ _ => c6
      case c7 => exact fun _ _ _ _ _ => c7
      case c8 => exact fun _ _ _ _ _ => c8
      case c9 => exact fun _ _ _ _ _ => c9
      case k1 => exact fun _ _ _ _ _ => rfl
      case k2 => exact fun _ _ _ _ y => absurd rfl y
      case k3 => exact fun _ _ _ y => absurd rfl y
      case k4 => exact fun _ _ y => absurd nt' y
      case k5 => exact fun _ y => absurd n1 y
      case k6 => exact fun y => absurd n37 y
    · rw [t2 33 (by omega)]
      exact g1
    · rw [t2 33 (by omega), f5.2.2.1 0 (by omega), hc1 33 (by omega)]
      exact h33
    · rw [t2 34 (by omega), t2 35 (by omega)]
      refine lbsb v2 ?_ f5 g2 g3 hokid
      rw [hc1 34 (by omega), hc1 35 (by omega)]
      exact hb
end
