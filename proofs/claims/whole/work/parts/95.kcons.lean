/-! consume -/
theorem ch_l {P : Nat → List Nat → Prop} : ∀ {M : Nat}, (∀ i, i < M → ∃ l, P i l) → ∃ sl : Nat → List Nat, ∀ i, i < M → P i (sl i) := by
  intro M
  induction M with
  | zero => exact fun _ => ⟨fun _ => [], fun i hi => absurd hi (Nat.not_lt_zero i)⟩
  | succ M ih =>
    intro h
    obtain ⟨sl, hs⟩ := ih fun i hi => h i (by omega)
    obtain ⟨l, hl⟩ := h M (by omega)
    refine ⟨fun i => if i = M then l else sl i, fun i hi => ?_⟩
    show P i (if i = M then l else sl i)
    by_cases e : i = M
    · rw [if_pos e, e]
      exact hl
    · rw [if_neg e]
      exact hs i (by omega)
def fF (σ σ' : mG) : Prop := σ'.2 = σ.2 ∧ ∀ c, c < 5 ∨ 17 < c → c ≠ 36 → c ≠ 37 → σ'.1 c = σ.1 c
theorem fF.tr {σ σ1 σ2 : mG} (a : fF σ σ1) (b : fF σ1 σ2) : fF σ σ2 := ⟨b.1.trans a.1, fun c h1 h2 h3 => (b.2 c h1 h2 h3).trans (a.2 c h1 h2 h3)⟩
theorem fR.fF {σ σ' : mG} (f : fR σ σ') : fF σ σ' := ⟨f.1, fun c h1 _ _ => f.2 c (by omega)⟩
theorem fG.fF {σ σ' : mG} (f : fG σ σ') : fF σ σ' := ⟨f.1, fun c h1 _ _ => f.2 c (by omega)⟩
theorem fF_qI {n : Nat} {σ σ' : mG} (f : fF σ σ') (h : qI n σ) : qI n σ' := by
  unfold qI at *
  rw [f.1, f.2 1 (by omega) (by omega) (by omega), f.2 2 (by omega) (by omega) (by omega), f.2 3 (by omega) (by omega) (by omega), f.2 4 (by omega) (by omega) (by omega), f.2 0 (by omega) (by omega) (by omega), f.2 38 (by omega) (by omega) (by omega), f.2 39 (by omega) (by omega) (by omega), f.2 40 (by omega) (by omega) (by omega), f.2 23 (by omega) (by omega) (by omega), f.2 19 (by omega) (by omega) (by omega), f.2 20 (by omega) (by omega) (by omega), f.2 21 (by omega) (by omega) (by omega), f.2 22 (by omega) (by omega) (by omega), f.2 41 (by omega) (by omega) (by omega), f.2 42 (by omega) (by omega) (by omega), f.2 43 (by omega) (by omega) (by omega), f.2 44 (by omega) (by omega) (by omega), f.2 24 (by omega) (by omega) (by omega), f.2 25 (by omega) (by omega) (by omega), f.2 26 (by omega) (by omega) (by omega), f.2 45 (by omega) (by omega) (by omega), f.2 46 (by omega) (by omega) (by omega), f.2 47 (by omega) (by omega) (by omega), f.2 30 (by omega) (by omega) (by omega), f.2 28 (by omega) (by omega) (by omega), f.2 29 (by omega) (by omega) (by omega), f.2 31 (by omega) (by omega) (by omega), f.2 32 (by omega) (by omega) (by omega), f.2 48 (by omega) (by omega) (by omega), f.2 50 (by omega) (by omega) (by omega), f.2 33 (by omega) (by omega) (by omega), f.2 34 (by omega) (by omega) (by omega), f.2 35 (by omega) (by omega) (by omega)]
  exact h
section
variable {X : Nat × (Nat → Int32)} {d : Nat} {T : List Nat} {n : Nat} {E : Nat → mEl} {σ : mG} {tk : Nat → Nat × Nat}
theorem T30 {a : Nat} (h : cC T n E σ) (r : r36 T n E σ) (ht : trC tk (σ.1 19) (σ.1 20)) (hA : pAssn T n E = some a) : ∃ σ', fG σ σ' ∧ ∀ rr, ((snd' T n E tk (pSig T n E) 0 (pIss T n E) && snd' T n E tk (pASig T n E) a (pAIss T n E)) = true → TT X (d + 6) tb30 (some .int) (103, [some (.ref 0), none, none], [], σ') rr) → ((snd' T n E tk (pSig T n E) 0 (pIss T n E) && snd' T n E tk (pASig T n E) a (pAIss T n E)) = false → rr = (some (.int (-6)), σ')) → TT X (d + 6) tb30 (some .int) (25, [some (.ref 0), none, none], [], σ) rr := by
  have hn := h.2.2.1.2.1
  have h0 : 0 < n := h.2.2.1.1
  have la : a < n := one_oE T n E (some 0) wAssn a hA
  -- the second look
  have second : ∀ σ1, cC T n E σ1 → r36 T n E σ1 → trC tk (σ1.1 19) (σ1.1 20) → ∃ σ', fG σ1 σ' ∧ ∀ rr, (snd' T n E tk (pASig T n E) a (pAIss T n E) = true → TT X (d + 6) tb30 (some .int) (103, [some (.ref 0), none, none], [], σ') rr) → (snd' T n E tk (pASig T n E) a (pAIss T n E) = false → rr = (some (.int (-6)), σ')) → TT X (d + 6) tb30 (some .int) (61, [some (.ref 0), none, none], [], σ1) rr := by
    intro σ1 h1 r1 ht1
    obtain ⟨x1, x2, x3, x4, x5, x6, x7, x8, x9, x10⟩ := r1
    cases hs : pASig T n E with
    | none =>
      rw [hs] at x8
      exact ⟨σ1, fG.rfl', fun rr g1 _ => R30_61 (v1 := 0) (σ1 := σ1) (fun _ => g1 rfl) (fun y => absurd x8 y) (fun y => absurd x8 y) (fun y => absurd x8 y)⟩
    | some s =>
      rw [hs] at x8
      have hsn : s < n := ccL_oE T n E (pAssn T n E) sigL s hs
      obtain ⟨σ2, k1, k2⟩ := K34 (X := X) (d := d) h1 ht1 (s := some s) (i := pAIss T n E) (e := a) (oE_some hsn) la (one_oE _ _ _ _ _)
      have nm : ¬ σ1.1 36 8 = -1 := by
        rw [x8]
        exact fun z => m1_ne (c := s) (by omega) z.symm
      have k1 : RR X (d + 6) 34 [.ref 0, .int (σ1.1 36 8), .int (σ1.1 36 3), .int (σ1.1 36 5)] σ1 (some (.int (bI (vld T n E tk (some s) a (pAIss T n E)))), σ2) := by
        rw [x8, x3, x5, hA]
        exact k1
      exact ⟨σ2, k2, fun rr g1 g2 => R30_61 (fun y => absurd y nm) (fun _ => k1) (fun _ y => g1 (bI_n0.mp y)) (fun _ y => g2 (bI_0.mp (Decidable.not_not.mp y)))⟩
  have r0 := r
  obtain ⟨x1, x2, x3, x4, x5, x6, x7, x8, x9, x10⟩ := r
  cases hs : pSig T n E with
  | none =>
    rw [hs] at x4
    obtain ⟨σ', q1, q2⟩ := second σ h r0 ht
    exact ⟨σ', q1, fun rr g1 g2 => R30_25 (v1 := 0) (σ1 := σ) (fun _ => q2 rr (fun y => g1 (by rw [y]; rfl)) (fun y => g2 (by rw [y]; rfl))) (fun y => absurd x4 y) (fun y => absurd x4 y) (fun y => absurd x4 y)⟩
  | some s =>
    rw [hs] at x4
    have hsn : s < n := ccL_oE T n E (some 0) sigL s hs
    obtain ⟨σ1, k1, k2⟩ := K34 (X := X) (d := d) h ht (s := some s) (i := pIss T n E) (e := 0) (oE_some hsn) h0 (one_oE _ _ _ _ _)
    have nm : ¬ σ.1 36 4 = -1 := by
      rw [x4]
      exact fun z => m1_ne (c := s) (by omega) z.symm
    have k1 : RR X (d + 6) 34 [.ref 0, .int (σ.1 36 4), .int 0, .int (σ.1 36 1)] σ (some (.int (bI (vld T n E tk (some s) 0 (pIss T n E)))), σ1) := by
      rw [x4, x1]
      exact k1
    show ∃ σ', fG σ σ' ∧ ∀ rr, ((vld T n E tk (some s) 0 (pIss T n E) && snd' T n E tk (pASig T n E) a (pAIss T n E)) = true → _) → ((vld T n E tk (some s) 0 (pIss T n E) && snd' T n E tk (pASig T n E) a (pAIss T n E)) = false → _) → _
    cases hv : vld T n E tk (some s) 0 (pIss T n E) with
    | false =>
      rw [hv] at k1
      exact ⟨σ1, k2, fun rr _ g2 => R30_25 (fun y => absurd y nm) (fun _ => k1) (fun _ y => absurd rfl y) (fun _ _ => g2 rfl)⟩
    | true =>
      rw [hv] at k1
      obtain ⟨σ', q1, q2⟩ := second σ1 (cC_of h fun c hc => k2.2 c (by omega)) (r36_of r0 (k2.2 36 (by omega))) (by rw [k2.2 19 (by omega), k2.2 20 (by omega)]; exact ht)
      exact ⟨σ', k2.tr q1, fun rr g1 g2 => R30_25 (fun y => absurd y nm) (fun _ => k1) (fun _ _ => q2 rr (fun y => g1 (by rw [y]; rfl)) (fun y => g2 (by rw [y]; rfl))) (fun _ y => absurd (show ¬ bI true = 0 by decide) y)⟩
theorem T82 {e i ie : Nat} {x1 x2 : Int32} (h : cM T n E σ) (ht : trC tk (σ.1 41) (σ.1 42)) (he : e < n) (hi : one T n E (some 0) wIss = some i) (hie : one T n E (some e) wIss = some ie) (hid : hs T E (some 0) wID = true) (hide : hs T E (some e) wID = true) (hsg : ssg T n E (some 0) = true) (hsge : ssg T n E (some e) = true) (hwe : wrd (bdy T E (some ie)) = true) : let both := snd' T n E tk (ccL T n E (some 0) sigL) 0 (some i) && snd' T n E tk (ccL T n E (some e) sigL) e (some ie)
    (both = false → TT X (d + 6) tb183 (some .int) (82, [some (.ref 38), some (.int x1), some (.int x2), some (.int (nI e))], [], σ) (some (.int (-6)), σ)) ∧ (both = true → ¬ bdy T E (some i) = bdy T E (some ie) → TT X (d + 6) tb183 (some .int) (82, [some (.ref 38), some (.int x1), some (.int x2), some (.int (nI e))], [], σ) (some (.int (-7)), σ)) ∧ (both = true → bdy T E (some i) = bdy T E (some ie) → q8 T E = false → TT X (d + 6) tb183 (some .int) (82, [some (.ref 38), some (.int x1), some (.int x2), some (.int (nI e))], [], σ) (some (.int (-8)), σ)) ∧ (both = true → bdy T E (some i) = bdy T E (some ie) → q8 T E = true → x2 = 0 → ∀ v σ', RR X (d + 6) 182 [.ref 38] σ (some (.int v), σ') → TT X (d + 6) tb183 (some .int) (82, [some (.ref 38), some (.int x1), some (.int x2), some (.int (nI e))], [], σ) (some (.int v), σ')) ∧ (both = true → bdy T E (some i) = bdy T E (some ie) → q8 T E = true → ¬ x2 = 0 → ∀ v σ', RR X (d + 6) 181 [.ref 38, .int (nI e)] σ (some (.int v), σ') → TT X (d + 6) tb183 (some .int) (82, [some (.ref 38), some (.int x1), some (.int x2), some (.int (nI e))], [], σ) (some (.int v), σ')) := by
  have h0 : 0 < n := h.2.2.1.1
  obtain ⟨-, f1, l1⟩ := one_some hi
  obtain ⟨-, f2, l2⟩ := one_some hie
  have c1 : RR X (d + 6) 177 [.ref 38, .int 0] σ (some (.int (bI (snd' T n E tk (ccL T n E (some 0) sigL) 0 (some i)))), σ) := K177 h ht h0 hi hid hsg
  have c2 := K177 (X := X) (d := d) h ht he hie hide hsge
  have c3 : RR X (d + 6) 170 [.ref 38, .int 0, .long 115944571535360] σ (some (.int (nI i)), σ) := by
    have := K170 (X := X) (d := d + 5) (W := wIss) h h0 ⟨by decide, by decide⟩
    rw [f1] at this
    exact this
  have c4 := K165 (X := X) (d := d + 4) h l1
  have c5 : RR X (d + 6) 170 [.ref 38, .int (nI e), .long 115944571535360] σ (some (.int (nI ie)), σ) := by
    have := K170 (X := X) (d := d + 5) (W := wIss) h he ⟨by decide, by decide⟩
    rw [f2] at this
    exact this
  have c6 := K165 (X := X) (d := d + 4) h l2
  have ew := wc (l := bdy T E (some i)) (W := bdy T E (some ie)) (seg_okC h.1 _ _) (seg_okC h.1 _ _) hwe
  have c7 : RR X (d + 6) 166 [.ref 38, .int 0, .long 128020090191872] σ (some (.long (lN (pck (vlo T E (sxo T E (some 0) wTo))))), σ) := K166 (d := d + 4) (W := wTo) h h0 ⟨by decide, by decide⟩
  have e8 : lg_cmp (lN (pck (vlo T E (sxo T E (some 0) wTo)))) 6382451 = 0 ↔ q8 T E = true := by
    unfold q8
    rw [hsv (by decide), decide_eq_true_iff]
    exact wc (W := wAcs) (seg_okC h.1 _ _) okC_acs (by decide)
  intro both
  have split : both = true → snd' T n E tk (ccL T n E (some 0) sigL) 0 (some i) = true ∧ snd' T n E tk (ccL T n E (some e) sigL) e (some ie) = true := fun q => by
    have q : (snd' T n E tk (ccL T n E (some 0) sigL) 0 (some i) && snd' T n E tk (ccL T n E (some e) sigL) e (some ie)) = true := q
    rw [Bool.and_eq_true] at q
    exact q
  have n1 : ¬ bI true = 0 := by decide
  refine ⟨fun q => ?_, fun q q1 => ?_, fun q q1 q2 => ?_, fun q q1 q2 q3 v σ' k => ?_, fun q q1 q2 q3 v σ' k => ?_⟩
  · have q : (snd' T n E tk (ccL T n E (some 0) sigL) 0 (some i) && snd' T n E tk (ccL T n E (some e) sigL) e (some ie)) = false := q
    apply R183_82 (v3 := nI i) (σ3 := σ) (v4 := lN (pck (bdy T E (some i)))) (σ4 := σ) (v5 := nI ie) (σ5 := σ) (v6 := lN (pck (bdy T E (some ie)))) (σ6 := σ) (v7 := lN (pck (vlo T E (sxo T E (some 0) wTo)))) (σ7 := σ) (v8 := 0) (σ8 := σ) (v9 := 0) (σ9 := σ) c1
    case k1 => exact fun _ => rfl
    case c2 => exact fun _ => c2
    case k6 => exact fun _ _ => rfl
    all_goals (intro y1 y2; rw [bI_n0.mp y1, bI_n0.mp y2] at q; cases q)
  · obtain ⟨s1, s2⟩ := split q
    rw [s1] at c1
    rw [s2] at c2
    apply R183_82 (v7 := 0) (σ7 := σ) (v8 := 0) (σ8 := σ) (v9 := 0) (σ9 := σ) c1 (fun y => absurd y n1) (fun _ => c2) (fun _ _ => c3) (fun _ _ => c4) (fun _ _ => c5) (fun _ _ => c6)
    case k5 => exact fun _ _ _ => rfl
    case k6 => exact fun _ y => absurd n1 y
    all_goals exact fun _ _ y => absurd (ew.mp y) q1
  · obtain ⟨s1, s2⟩ := split q
    rw [s1] at c1
    rw [s2] at c2
    have n8 : ¬ lg_cmp (lN (pck (vlo T E (sxo T E (some 0) wTo)))) 6382451 = 0 := fun z => tf q2 (e8.mp z)
    apply R183_82 (v8 := 0) (σ8 := σ) (v9 := 0) (σ9 := σ) c1 (fun y => absurd y n1) (fun _ => c2) (fun _ _ => c3) (fun _ _ => c4) (fun _ _ => c5) (fun _ _ => c6) (fun _ _ _ => c7)
    case k4 => exact fun _ _ _ _ => rfl
    case k5 => exact fun _ _ y => absurd (ew.mpr q1) y
    case k6 => exact fun _ y => absurd n1 y
    all_goals exact fun _ _ _ y => absurd y n8
  · obtain ⟨s1, s2⟩ := split q
    rw [s1] at c1
    rw [s2] at c2
    apply R183_82 (v8 := v) (σ8 := σ') (v9 := 0) (σ9 := σ) c1 (fun y => absurd y n1) (fun _ => c2) (fun _ _ => c3) (fun _ _ => c4) (fun _ _ => c5) (fun _ _ => c6) (fun _ _ _ => c7)
    case c8 => exact fun _ _ _ _ _ => k
    case k2 => exact fun _ _ _ _ _ => rfl
    case c9 => exact fun _ _ _ _ y => absurd q3 y
    case k3 => exact fun _ _ _ _ y => absurd q3 y
    case k4 => exact fun _ _ _ y => absurd (e8.mpr q2) y
    case k5 => exact fun _ _ y => absurd (ew.mpr q1) y
    case k6 => exact fun _ y => absurd n1 y
  · obtain ⟨s1, s2⟩ := split q
    rw [s1] at c1
    rw [s2] at c2
    apply R183_82 (v8 := 0) (σ8 := σ) (v9 := v) (σ9 := σ') c1 (fun y => absurd y n1) (fun _ => c2) (fun _ _ => c3) (fun _ _ => c4) (fun _ _ => c5) (fun _ _ => c6) (fun _ _ _ => c7)
    case c8 => exact fun _ _ _ _ y => absurd y q3
    case k2 => exact fun _ _ _ _ y => absurd y q3
    case c9 => exact fun _ _ _ _ _ => k
    case k3 => exact fun _ _ _ _ _ => rfl
    case k4 => exact fun _ _ _ y => absurd (e8.mpr q2) y
    case k5 => exact fun _ _ y => absurd (ew.mpr q1) y
    case k6 => exact fun _ y => absurd n1 y
theorem ls_fs {e : Nat} {W : List Nat} : fs (ch T E e W) n = none ↔ ccL T n E (some e) W = none := (cnt0_fs n).symm.trans (cnt0_ls n)
theorem T56 {e : Nat} {x1 x2 : Int32} {r : mA mG} (h : cM T n E σ) (he : e < n) (k5 : ccL T n E (some 0) sigL = none → ccL T n E (some e) sigL = none → r = (some (.int (-5)), σ)) (k82 : ¬ (ccL T n E (some 0) sigL = none ∧ ccL T n E (some e) sigL = none) → TT X (d + 1) tb183 (some .int) (82, [some (.ref 38), some (.int x1), some (.int x2), some (.int (nI e))], [], σ) r) : TT X (d + 1) tb183 (some .int) (56, [some (.ref 38), some (.int x1), some (.int x2), none], [.int (nI e)], σ) r := by
  have hn := h.2.2.1.2.1
  have h0 : 0 < n := h.2.2.1.1
  have c1 : RR X (d + 1) 170 [.ref 38, .int 0, .long 126896536813568] σ (some (.int (oI (fs (ch T E 0 sigL) n))), σ) := K170 (W := sigL) h h0 ⟨by decide, by decide⟩
  have c2 : RR X (d + 1) 170 [.ref 38, .int (nI e), .long 126896536813568] σ (some (.int (oI (fs (ch T E e sigL) n))), σ) := K170 (W := sigL) h he ⟨by decide, by decide⟩
  have g : ∀ {o : Option Nat}, (∀ x, o = some x → x < 2 ^ 31) → (0 ≤ oI o ↔ ¬ o = none) := fun {o} ho => by
    rw [← oI_neg ho, Int32.not_lt]
  have g0 := g (o := fs (ch T E 0 sigL) n) fun x hx => by have := (fs_ok hx).1; omega
  have ge := g (o := fs (ch T E e sigL) n) fun x hx => by have := (fs_ok hx).1; omega
  rw [ls_fs] at g0 ge
  refine R183_56 c1 (fun y => k82 fun z => g0.mp y z.1) (fun _ => c2) (fun _ y => k82 fun z => ge.mp y z.2) (fun y1 y2 => k5 ?_ ?_)
  · exact Decidable.not_not.mp fun z => y1 (g0.mpr z)
  · exact Decidable.not_not.mp fun z => y2 (ge.mpr z)
theorem hk_hs {o : Option Nat} {W : List Nat} (h : hk T E o W = true) : hs T E o W = true := by
  unfold hs
  cases hh : sxo T E o W with
  | some s => rfl
  | none =>
    unfold hk at h
    rw [hh] at h
    have : vlo T E none = [] := seg_nil (Nat.le_refl _)
    rw [this] at h
    cases h
theorem vld_tr {s : Option Nat} {e : Nat} {i : Option Nat} (h : vld T n E tk s e i = true) : ∃ k, trn tk (bdy T E i) = some k := by
  unfold vld at h
  cases hh : trn tk (bdy T E i) with
  | some k => exact ⟨k, rfl⟩
  | none => rw [hh] at h; cases h
theorem snd_tr {a : Nat} (h5 : ¬ (pSig T n E = none ∧ pASig T n E = none)) (h6 : (snd' T n E tk (pSig T n E) 0 (pIss T n E) && snd' T n E tk (pASig T n E) a (pAIss T n E)) = true) (h7 : bdy T E (pIss T n E) = bdy T E (pAIss T n E)) : ∃ k, trn tk (bdy T E (pIss T n E)) = some k := by
  rw [Bool.and_eq_true] at h6
  cases hs : pSig T n E with
  | some s =>
    rw [hs] at h6
    exact vld_tr h6.1
  | none =>
    cases ha : pASig T n E with
    | none => exact absurd ⟨hs, ha⟩ h5
    | some s =>
      rw [ha] at h6
      rw [h7]
      exact vld_tr h6.2
end
