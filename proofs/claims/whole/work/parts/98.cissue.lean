/-! issue and leave -/
def fI (σ σ' : mG) : Prop := σ'.2 = σ.2 ∧ ∀ c, c ≠ 1 → c ≠ 2 → (c < 5 ∨ 17 < c) → σ'.1 c = σ.1 c
theorem fI.rfl' {σ : mG} : fI σ σ := ⟨rfl, fun _ _ _ _ => rfl⟩
theorem fI.tr {σ σ1 σ2 : mG} (a : fI σ σ1) (b : fI σ1 σ2) : fI σ σ2 := ⟨b.1.trans a.1, fun c h1 h2 h3 => (b.2 c h1 h2 h3).trans (a.2 c h1 h2 h3)⟩
theorem fP.fI {σ σ' : mG} (f : fP σ σ') : fI σ σ' := ⟨f.1, fun c h1 h2 _ => f.2 c h1 h2⟩
theorem fC.fI {σ σ' : mG} (f : fC σ σ') : fI σ σ' := ⟨f.1, fun c _ _ h => f.2 c h⟩
theorem fC.pg {σ σ' : mG} {T : List Nat} (f : fC σ σ') (h : pgC σ T) : pgC σ' T := ⟨h.1, by rw [f.2 1 (by omega), f.2 2 (by omega)]; exact h.2⟩
def fJ (σ σ' : mG) : Prop := (∀ c, c ≠ 38 → c ≠ 39 → c < 52 ∨ 62 < c → σ'.1 c = σ.1 c ∧ σ'.2 c = σ.2 c) ∧ ∀ k, k ≠ 4 → k ≠ 22 → k ≠ 35 → σ'.1 38 k = σ.1 38 k
theorem fJ.tr {σ σ1 σ2 : mG} (a : fJ σ σ1) (b : fJ σ1 σ2) : fJ σ σ2 := ⟨fun c h1 h2 h3 => ⟨(b.1 c h1 h2 h3).1.trans (a.1 c h1 h2 h3).1, (b.1 c h1 h2 h3).2.trans (a.1 c h1 h2 h3).2⟩, fun k h1 h2 h3 => (b.2 k h1 h2 h3).trans (a.2 k h1 h2 h3)⟩
theorem fQ.fJ {σ σ' : mG} (f : fQ σ σ') : fJ σ σ' := ⟨fun c h1 h2 _ => ⟨f.2.1 c h1 h2, by rw [f.1]⟩, fun k h1 _ _ => f.2.2 k h1⟩
theorem fM.fJ {σ σ' : mG} (f : fM σ σ') : fJ σ σ' := ⟨fun c h1 _ h3 => f.1 c h1 h3, fun k _ h2 h3 => f.2 k h2 h3⟩
theorem fM.pg {σ σ' : mG} {T : List Nat} (f : fM σ σ') (h : pgM σ T) : pgM σ' T := ⟨h.1, f.cT h.2⟩
theorem len_cHead (i r k : Nat) : (cHead i r k).length ≤ 86 := by
  have d1 := D10_10 i
  have d2 := D10_10 r
  have d3 := len_cIss k
  have l1 : w1000.length = 11 := rfl
  have l2 : w1001.length = 7 := rfl
  have l3 : w1002.length = 11 := rfl
  have l4 : w1005.length = 15 := rfl
  unfold cHead
  simp only [List.length_append]
  omega
theorem len_cAssn (i k r u e c : Nat) : (cAssn i k r u e c).length ≤ 183 := by
  have d1 := D10_10 i
  have d2 := D10_10 r
  have d3 := D10_10 e
  have d4 := D10_10 c
  have d5 := len_cIss k
  have d6 := len_cUsr u
  have l1 : w1006.length = 11 := rfl
  have l2 : w1007.length = 2 := rfl
  have l3 : w1008.length = 6 := rfl
  have l4 : w1011.length = 11 := rfl
  have l5 : w1012.length = 7 := rfl
  have l6 : w1013.length = 39 := rfl
  have l7 : w1014.length = 3 := rfl
  unfold cAssn
  simp only [List.length_append]
  omega
def sgv (T : List Nat) (e N D : Nat) : Nat := match rdS T with
  | none => 0
  | some y => dgS T y.1 y.2 e ^ D % N
theorem sgv_lt {T : List Nat} {e N D : Nat} (h0 : 0 < N) : sgv T e N D < N := by
  unfold sgv
  cases rdS T with
  | none => exact h0
  | some y => exact Nat.mod_lt _ h0
theorem sgv_is {T : List Nat} {e N D : Nat} {y : Nat × (Nat → mEl)} (h : rdS T = some y) : sgv T e N D = dgS T y.1 y.2 e ^ D % N := by
  unfold sgv
  rw [h]
def okRd (T : List Nat) (e : Nat) : Prop := bnS T = false ∧ ∃ y : Nat × (Nat → mEl), rdS T = some y ∧ e < y.1 ∧ gM T y.1 y.2
section
variable {X : Nat × (Nat → Int32)} {d : Nat}
theorem K13 {x b : Nat} {a : Int32} (hb : b < 2 ^ 31) : ∀ {σ : mG}, RR X (d + 1) 13 [.int a, .int (nI b)] σ (some (.int (bI (decide (¬ a < 0) && decide (a < nI b)))), σ) := by
  intro σ
  refine mi_R.of rfl rfl (R13_0 (fun y => ?_) (fun y1 y2 => ?_) (fun y1 y2 => ?_))
  · rw [decide_eq_false (p := ¬ a < 0) (fun z => z y)]
    rfl
  · rw [decide_eq_true (p := ¬ a < 0) y1, decide_eq_false (p := a < nI b) (Int32.not_lt.mpr y2)]
    rfl
  · rw [decide_eq_true (p := ¬ a < 0) y1, decide_eq_true (p := a < nI b) (Int32.not_le.mp y2)]
    rfl
theorem K25g {σ : mG} {T : List Nat} {k e N D : Nat} (h : pgC σ T) (hr : okRd T e) (hk : k < 4) (h0 : 0 < N) (hN : N < 2 ^ 31) (hD : D < 2 ^ 31) (e1 : σ.1 21 k = nI N) (e2 : σ.1 22 k = nI D) : ∃ σ', RR X (d + 7) 25 [.ref 0, .int (nI k), .int (nI e)] σ (some (.int (nI (sgv T e N D))), σ') ∧ fI σ σ' ∧ pgC σ' T := by
  obtain ⟨r1, y, r2, r3, r4⟩ := hr
  obtain ⟨σ', a, b⟩ := K25s (X := X) (d := d) h.1 h.2 r1 r2 r4 r3 hk h0 hN hD e1 e2
  rw [← sgv_is r2] at a
  exact ⟨σ', a, b.fI, b.pg h⟩
theorem K193 {σ : mG} {T : List Nat} {k e N D : Nat} (h : pgM σ T) (hr : okRd T e) (hk : k < 4) (h0 : 0 < N) (hN : N < 2 ^ 31) (hD : D ≤ 1000000) (e1 : σ.1 43 k = nI N) (e2 : σ.1 44 k = nI D) : ∃ σ', RR X (d + 6) 193 [.ref 38, .int (nI k), .int (nI e)] σ (some (.int (nI (sgv T e N D))), σ') ∧ fJ σ σ' ∧ pgM σ' T := by
  obtain ⟨r1, y, r2, r3, r4⟩ := hr
  have hn := r4.2.1
  obtain ⟨σ1, b1, b2, b3⟩ := K153 (X := X) (d := d) h.1 h.2
  have hc1 := b2.cT h.2
  have k161 := K161 (X := X) (d := d) h.1 hc1 r4 (b3 y r1 r2) r3
  have z : ¬ rdI T ≤ nI e := by
    rw [rdI_some r1 r2]
    exact nI_ge r3 (by omega)
  have hin : mi_in (nI k) 4 = true := mi_in_nI hk (by omega)
  have f1 : σ1.1 43 (nI k).toNatClampNeg = nI N := by
    rw [nI_clamp (by omega), (b2.1 43 (by omega) (by omega)).1]
    exact e1
  have f2 : σ1.1 44 (nI k).toNatClampNeg = nI D := by
    rw [nI_clamp (by omega), (b2.1 44 (by omega) (by omega)).1]
    exact e2
  have hdg := dgS_lt T y.1 y.2 e
  have k133 : RR X (d + 5) 133 [.int (nI (dgS T y.1 y.2 e)), .int (σ1.1 44 (nI k).toNatClampNeg), .int (σ1.1 43 (nI k).toNatClampNeg)] σ1 (some (.int (nI (sgv T e N D))), σ1) := by
    rw [f1, f2, sgv_is r2]
    exact K133 h0 hN (by omega) hD
  exact ⟨σ1, mi_R.of rfl rfl (R193_0 (v2 := 0) (σ2 := σ) (v3 := 0) (σ3 := σ) b1 (fun y => absurd y z) (fun y => absurd y z) (fun y => absurd y z) (fun y => absurd y z) (fun y => absurd y z) (fun _ => k161) (fun _ => hin) (fun _ => hin) (fun _ => k133) (fun _ => rfl)), b2.fJ, b2.pg h⟩
theorem K41i {w : Nat} {W : List Nat} (hw : wd w W) (hW : okC W) {σ : mG} {T : List Nat} (h : pgC σ T) (hl : T.length + W.length ≤ 400) : ∃ σ', RR X (d + 2) 41 [.ref 1, .ref w] σ (none, σ') ∧ fI σ σ' ∧ pgC σ' (T ++ W) := by
  obtain ⟨σ', a, b, c⟩ := K41 (X := X) (d := d) hw hW h hl
  exact ⟨σ', a, b.fI, c⟩
/-- a seal over the text with its ends, then the ends taken off, then the sig -/
theorem Csig {σ : mG} {P W : List Nat} {w x i k e N D : Nat} (hw : wd w W) (hW : okC W) (h : pgC σ P) (hl : P.length + W.length ≤ 400) (hl2 : P.length + 39 ≤ 400) (hr : okRd (P ++ W) e) (hk : k < 4) (h0 : 0 < N) (hN : N ≤ 1000000) (hD : D < 2 ^ 31) (e1 : σ.1 21 k = nI N) (e2 : σ.1 22 k = nI D) (hx : 32 ≤ x ∧ x ≤ 126) (hi : i < 1000000000) (hii : σ.1 0 13 = nI i) : ∃ σ1 σ2 σ3 σ4, RR X (d + 8) 41 [.ref 1, .ref w] σ (none, σ1) ∧ RR X (d + 8) 25 [.ref 0, .int (nI k), .int (nI e)] σ1 (some (.int (nI (sgv (P ++ W) e N D))), σ2) ∧ RR X (d + 8) 43 [.ref 1, .int (nI P.length)] σ2 (none, σ3) ∧ RR X (d + 8) 11 [.ref 0, .int (nI x), .int (nI (sgv (P ++ W) e N D))] σ3 (none, σ4) ∧ fI σ σ4 ∧ pgC σ4 (P ++ cSig x i (sgv (P ++ W) e N D)) := by
  obtain ⟨σ1, a1, f1, p1⟩ := K41i (X := X) (d := d + 6) hw hW h hl
  obtain ⟨σ2, a2, f2, p2⟩ := K25g (X := X) (d := d + 1) p1 hr hk h0 (by omega) hD (by rw [f1.2 21 (by omega) (by omega) (by omega)]; exact e1) (by rw [f1.2 22 (by omega) (by omega) (by omega)]; exact e2)
  obtain ⟨σ3, a3, f3, p3⟩ := K43 (X := X) (d := d + 7) (k := P.length) p2 (by rw [List.length_append]; omega)
  rw [List.take_left] at p3
  have g3 := (f1.tr f2).tr f3.fI
  have hv := sgv_lt (T := P ++ W) (e := e) (D := D) h0
  obtain ⟨σ4, a4, f4, p4⟩ := K11 (X := X) (d := d + 5) (x := x) (i := i) (v := sgv (P ++ W) e N D) hx hi (by omega) p3 (by rw [g3.2 0 (by omega) (by omega) (by omega)]; exact hii) hl2
  exact ⟨σ1, σ2, σ3, σ4, a1, a2, a3, a4, g3.tr f4.fI, p4⟩
end
theorem fin_qI {n i : Nat} {σ σc σm : mG} {T : List Nat} (hn : n < 512) (hI : qI n σ) (hi : σ.1 0 13 = nI i) (hi2 : i ≤ n) (f1 : fI σ σc) (p1 : pgC σc T) (f2 : fJ (u36 σc 0 13 (nI (i + 1))) σm) (p2 : pgM σm T) : qI (n + 1) (u36 σm 38 21 (nI (i + 1))) := by
  obtain ⟨I1, I2, I3, I4, I5, I6, I7, I8, I9, I10, I11, I12, I13⟩ := qI_skip n σ hI
  have c1 : ∀ c, c ≠ 38 → c ≠ 39 → c ≠ 0 → c < 52 → c ≠ 1 → c ≠ 2 → (c < 5 ∨ 17 < c) → (u36 σm 38 21 (nI (i + 1))).1 c = σ.1 c := fun c q1 q2 q3 q4 q5 q6 q7 => (u36_c q1).trans ((f2.1 c q1 q2 (by omega)).1.trans ((u36_c q3).trans (f1.2 c q5 q6 q7)))
  have c12 : ∀ c, c = 1 ∨ c = 2 → (u36 σm 38 21 (nI (i + 1))).1 c = σc.1 c := fun c q => (u36_c (by omega)).trans ((f2.1 c (by omega) (by omega) (by omega)).1.trans (u36_c (by omega)))
  have c39 : (u36 σm 38 21 (nI (i + 1))).1 39 = σm.1 39 := u36_c (by omega)
  have e38 : σc.1 38 = σ.1 38 := f1.2 38 (by omega) (by omega) (by omega)
  have k38 : ∀ k, k ≠ 21 → k ≠ 4 → k ≠ 22 → k ≠ 35 → (u36 σm 38 21 (nI (i + 1))).1 38 k = σ.1 38 k := fun k q1 q2 q3 q4 => (u36_n q1).trans ((f2.2 k q2 q3 q4).trans (by rw [u36_c (show (38 : Nat) ≠ 0 by omega), e38]))
  have k4 : (u36 σm 38 21 (nI (i + 1))).1 38 4 = σm.1 38 4 := u36_n (by omega)
  have k21 : (u36 σm 38 21 (nI (i + 1))).1 38 21 = nI (i + 1) := u36_s
  have l2 : ∀ c, c ≠ 38 → c ≠ 39 → c < 52 → (u36 σm 38 21 (nI (i + 1))).2 c = σ.2 c := fun c q1 q2 q3 => (f2.1 c q1 q2 (by omega)).2.trans (by rw [u36_2, f1.1])
  have e0 : (u36 σm 38 21 (nI (i + 1))).1 0 = (u36 σc 0 13 (nI (i + 1))).1 0 := (u36_c (by omega)).trans (f2.1 0 (by omega) (by omega) (by omega)).1
  have z13 : (u36 σc 0 13 (nI (i + 1))).1 0 13 = nI (i + 1) := u36_s
  have zk : ∀ k, k ≠ 13 → (u36 σc 0 13 (nI (i + 1))).1 0 k = σ.1 0 k := fun k q => (u36_n q).trans (by rw [f1.2 0 (by omega) (by omega) (by omega)])
  unfold qI
  rw [e0, z13, zk 12 (by omega), zk 11 (by omega), c12 1 (Or.inl rfl), c12 2 (Or.inr rfl), c39, k4, k21, c1 3 (by omega) (by omega) (by omega) (by omega) (by omega) (by omega) (by omega), c1 4 (by omega) (by omega) (by omega) (by omega) (by omega) (by omega) (by omega), c1 40 (by omega) (by omega) (by omega) (by omega) (by omega) (by omega) (by omega), c1 23 (by omega) (by omega) (by omega) (by omega) (by omega) (by omega) (by omega), c1 19 (by omega) (by omega) (by omega) (by omega) (by omega) (by omega) (by omega), c1 20 (by omega) (by omega) (by omega) (by omega) (by omega) (by omega) (by omega), c1 21 (by omega) (by omega) (by omega) (by omega) (by omega) (by omega) (by omega), c1 22 (by omega) (by omega) (by omega) (by omega) (by omega) (by omega) (by omega), c1 41 (by omega) (by omega) (by omega) (by omega) (by omega) (by omega) (by omega), c1 42 (by omega) (by omega) (by omega) (by omega) (by omega) (by omega) (by omega), c1 43 (by omega) (by omega) (by omega) (by omega) (by omega) (by omega) (by omega), c1 44 (by omega) (by omega) (by omega) (by omega) (by omega) (by omega) (by omega), c1 24 (by omega) (by omega) (by omega) (by omega) (by omega) (by omega) (by omega), c1 25 (by omega) (by omega) (by omega) (by omega) (by omega) (by omega) (by omega), c1 26 (by omega) (by omega) (by omega) (by omega) (by omega) (by omega) (by omega), c1 45 (by omega) (by omega) (by omega) (by omega) (by omega) (by omega) (by omega), c1 46 (by omega) (by omega) (by omega) (by omega) (by omega) (by omega) (by omega), c1 47 (by omega) (by omega) (by omega) (by omega) (by omega) (by omega) (by omega), c1 28 (by omega) (by omega) (by omega) (by omega) (by omega) (by omega) (by omega), c1 29 (by omega) (by omega) (by omega) (by omega) (by omega) (by omega) (by omega), c1 30 (by omega) (by omega) (by omega) (by omega) (by omega) (by omega) (by omega), c1 31 (by omega) (by omega) (by omega) (by omega) (by omega) (by omega) (by omega), c1 32 (by omega) (by omega) (by omega) (by omega) (by omega) (by omega) (by omega), c1 33 (by omega) (by omega) (by omega) (by omega) (by omega) (by omega) (by omega), c1 34 (by omega) (by omega) (by omega) (by omega) (by omega) (by omega) (by omega), c1 35 (by omega) (by omega) (by omega) (by omega) (by omega) (by omega) (by omega), c1 48 (by omega) (by omega) (by omega) (by omega) (by omega) (by omega) (by omega), c1 50 (by omega) (by omega) (by omega) (by omega) (by omega) (by omega) (by omega), k38 6 (by omega) (by omega) (by omega) (by omega), k38 2 (by omega) (by omega) (by omega) (by omega), k38 0 (by omega) (by omega) (by omega) (by omega), k38 1 (by omega) (by omega) (by omega) (by omega), k38 11 (by omega) (by omega) (by omega) (by omega), k38 15 (by omega) (by omega) (by omega) (by omega), k38 19 (by omega) (by omega) (by omega) (by omega), l2 49 (by omega) (by omega) (by omega), l2 51 (by omega) (by omega) (by omega)]
  exact ⟨⟨T, p1.1, p1.2, p2.2⟩, I2, I3, I4, I5, ⟨i + 1, by omega, rfl, rfl⟩, I7, I8, I9, I10, I11, I12, I13⟩
/-! leave -/
theorem below {a : Int32} {b : Nat} (hb : b < 2 ^ 31) (h : (decide (¬ a < 0) && decide (a < nI b)) = true) : ∃ j, j < b ∧ a = nI j := by
  rw [Bool.and_eq_true] at h
  rcases pk_ix a (n := b) hb with z | z | z
  · exact absurd z (of_decide_eq_true h.1)
  · exact absurd (of_decide_eq_true h.2) (Int32.not_lt.mpr z)
  · exact z
theorem qleave : qO5 qI := by
  intro a b X n σ hn hI
  obtain ⟨hT0, hS, hCk, hSk, hLf, hIs, hK1, hK, -⟩ := id hI
  obtain ⟨T0, t1, t2, t3⟩ := hT0
  obtain ⟨i, i1, i2, i3⟩ := hIs
  have refuse : RR X 9 12 [.ref 0, .int a, .int b] σ (some (.int 0), σ) → RR X 9 196 [.ref 38, .int a, .int b] σ (some (.int 0), σ) → ∃ (v : Int32) (σ1 σ2 : mG), RR X 9 12 [.ref 0, .int a, .int b] σ (some (.int v), σ1) ∧ RR X 9 196 [.ref 38, .int a, .int b] σ1 (some (.int v), σ2) ∧ qI (n + 1) σ2 := fun q1 q2 => ⟨0, σ, σ, q1, q2, qI_skip n σ hI⟩
  have n1 : ¬ (1 : Int32) = 0 := by decide
  by_cases ha : ¬ a < 0 ∧ ¬ 4 ≤ a
  · obtain ⟨k, hk, rfl⟩ := is4_of ha.1 ha.2
    have hin : mi_in (nI k) 4 = true := mi_in_nI hk (by omega)
    have k125 : RR X 8 125 [.int (nI k)] σ (some (.int 1), σ) := K125t ((is4 _).mp ha).1 ((is4 _).mp ha).2
    obtain ⟨q1, q2, q3⟩ := hK k hk
    have e43 : σ.1 43 (nI k).toNatClampNeg = σ.1 21 k := by rw [nI_clamp (by omega)]; exact q1
    by_cases z21 : σ.1 21 k = 0
    · refine refuse (mi_R.of rfl rfl ?_) (mi_R.of rfl rfl ?_)
      · have c95 : RR X 8 95 [.ref 18, .int (nI k)] σ (some (.int 0), σ) := mi_R.of rfl rfl (R95_0 (fun _ => rfl) (fun _ _ => rfl) (fun _ _ => hin) (fun _ _ _ => rfl) (fun _ _ z => absurd (by rw [nI_clamp (by omega)]; exact z21) z))
        apply R12_0 (v2 := 0) (σ2 := σ) (σ3 := σ) (σ4 := σ) (σ5 := σ) (σ6 := σ) (σ7 := σ) (σ8 := σ) (σ9 := σ) (v3 := 0) (σ10 := σ) (σ11 := σ) (σ12 := σ) (σ13 := σ) c95
        case k1 => exact fun _ => rfl
        all_goals exact fun w => absurd rfl w
      · apply R196_0 (σ2 := σ) (v2 := 0) (σ3 := σ) (σ4 := σ) k125
        case k1 => exact fun w => absurd w n1
        case b1 => exact fun _ => hin
        case k2 => exact fun _ _ => rfl
        all_goals exact fun _ w => absurd (e43.trans z21) w
    · have c95 : RR X 8 95 [.ref 18, .int (nI k)] σ (some (.int 1), σ) := K95t hk z21
      have c13 := K13 (X := X) (d := 7) (x := 0) (b := 100) (a := b) (by omega) (σ := σ)
      have n43 : ¬ σ.1 43 (nI k).toNatClampNeg = 0 := by rw [e43]; exact z21
      cases hb : (decide (¬ b < 0) && decide (b < nI 100)) with
      | false =>
        rw [hb] at c13
        refine refuse (mi_R.of rfl rfl ?_) (mi_R.of rfl rfl ?_)
        · apply R12_0 (v2 := 0) (σ2 := σ) (σ3 := σ) (σ4 := σ) (σ5 := σ) (σ6 := σ) (σ7 := σ) (σ8 := σ) (σ9 := σ) (v3 := 0) (σ10 := σ) (σ11 := σ) (σ12 := σ) (σ13 := σ) c95
          case k1 => exact fun w => absurd w n1
          case c2 => exact fun _ => c13
          case k3 => exact fun _ _ => rfl
          all_goals exact fun _ w => absurd rfl w
        · have h99 : ¬ b < 0 → ¬ b ≤ 99 := fun w1 w2 => by
            rw [decide_eq_true (p := ¬ b < 0) w1, Bool.true_and] at hb
            refine of_decide_eq_false hb ?_
            obtain ⟨j, hj, rfl⟩ := nI_of2 (M := 99) (n := 99) rfl w1 w2
            exact nI_lt (by omega) (by omega)
          apply R196_0 (σ2 := σ) (v2 := 0) (σ3 := σ) (σ4 := σ) k125
          case k1 => exact fun w => absurd w n1
          case b1 => exact fun _ => hin
          case k2 => exact fun _ w => absurd w n43
          case k3 => exact fun _ _ _ => rfl
          case k5 => exact fun _ _ _ _ => rfl
          all_goals exact fun _ _ w1 w2 => absurd w2 (h99 w1)
      | true =>
        rw [hb] at c13
        obtain ⟨u, hu, rfl⟩ := below (by omega) hb
        obtain ⟨N, D, m1, m2, m3, m4, m5, m6⟩ := q3.resolve_left z21
        have pg0 : pgC σ T0 := ⟨t1, t2⟩
        obtain ⟨s3, c3, f3, p3⟩ := K43 (X := X) (d := 7) (k := 0) pg0 (Nat.zero_le _)
        rw [List.take_zero] at p3
        have g3 := f3.fI
        obtain ⟨s4, c4, f4, p4⟩ := K41i (X := X) (d := 6) (w := 1021) (W := w1021) ⟨rfl, by decide, by decide⟩ (by unfold okC; decide) p3 (by show 0 + 10 ≤ 400; omega)
        have g4 := g3.tr f4
        have d1 := D10_10 i
        have d2 := len_cIss k
        have d3 := len_cUsr u
        have lw1 : w1021.length = 10 := rfl
        have lw2 : w1002.length = 11 := rfl
        have lw3 : w1022.length = 6 := rfl
        obtain ⟨s5, c5, f5, p5⟩ := K42 (X := X) (d := 6) (x := i) (by omega) p4 (by simp only [List.length_append, List.length_nil]; omega)
        have g5 := g4.tr f5.fI
        obtain ⟨s6, c6, f6, p6⟩ := K41i (X := X) (d := 6) (w := 1002) (W := w1002) ⟨rfl, by decide, by decide⟩ (by unfold okC; decide) p5 (by simp only [List.length_append, List.length_nil]; omega)
        have g6 := g5.tr f6
        obtain ⟨s7, c7, f7, p7⟩ := K9 (X := X) (d := 5) (k := k) (by omega) p6 (by simp only [List.length_append, List.length_nil]; omega)
        have g7 := g6.tr f7.fI
        obtain ⟨s8, c8, f8, p8⟩ := K10 (X := X) (d := 5) (k := u) (by omega) p7 (by simp only [List.length_append, List.length_nil]; omega)
        have g8 := g7.tr f8.fI
        generalize hP : [] ++ w1021 ++ D10 i ++ w1002 ++ cIss k ++ cUsr u = P at p8
        have lP : P.length ≤ 77 := by
          rw [← hP]
          simp only [List.length_append, List.length_nil]
          omega
        have eO : ∀ v, P ++ oSig 111 i v ++ w1022 = tO i k u v := fun v => by
          rw [← hP]
          unfold tO
          simp only [List.append_assoc, List.nil_append]
        have eO0 : P ++ w1022 = tO i k u none := by
          rw [← eO none]
          show _ = P ++ [] ++ w1022
          rw [List.append_nil]
        have rd0 : okRd (P ++ w1022) 0 := by
          have hl : (tO i k u none).length ≤ 400 := by
            rw [← eO0, List.length_append]
            omega
          rw [eO0]
          exact tO_read i k u none hl
        obtain ⟨s9, s10, s11, s12, c9, c10, c11, c12, f12, p12⟩ := Csig (X := X) (d := 0) (w := 1022) (W := w1022) (x := 111) (i := i) (k := k) (e := 0) (N := N) (D := D) ⟨rfl, by decide, by decide⟩ (by unfold okC; decide) p8 (by omega) (by omega) rd0 hk (by omega) m2 (by omega) (by rw [g8.2 21 (by omega) (by omega) (by omega)]; exact m5) (by rw [g8.2 22 (by omega) (by omega) (by omega)]; exact m6) (by omega) (by omega) (by rw [g8.2 0 (by omega) (by omega) (by omega)]; exact i2)
        generalize hv : sgv (P ++ w1022) 0 N D = v at c10 c12 p12
        have hvN : v < N := by
          rw [← hv]
          exact sgv_lt (by omega)
        have g12 := g8.tr f12
        have dS := len_cSig 111 i v
        obtain ⟨s13, c13', f13, p13⟩ := K41i (X := X) (d := 6) (w := 1022) (W := w1022) ⟨rfl, by decide, by decide⟩ (by unfold okC; decide) p12 (by simp only [List.length_append]; omega)
        have g13 := g12.tr f13
        have eT : P ++ cSig 111 i v ++ w1022 = tO i k u (some v) := eO (some v)
        rw [eT] at p13
        have e013 : s13.1 0 13 = nI i := by rw [g13.2 0 (by omega) (by omega) (by omega)]; exact i2
        have e08 : s8.1 1 1 = nI P.length := p8.2.1
        let σc := u36 s13 0 13 (nI (i + 1))
        have cc : RR X 9 12 [.ref 0, .int (nI k), .int (nI u)] σ (some (.int 1), σc) := by
          refine mi_R.of rfl rfl ?_
          apply R12_0 (σ2 := σ) (σ3 := s3) (σ4 := s4) (σ5 := s5) (σ6 := s6) (σ7 := s7) (σ8 := s8) (σ9 := s9) (v3 := nI v) (σ10 := s10) (σ11 := s11) (σ12 := s12) (σ13 := s13) c95
          case k1 => exact fun w => absurd w n1
          case c2 => exact fun _ => c13
          case c3 => exact fun _ _ => c3
          case c4 => exact fun _ _ => c4
          case c5 =>
            intro _ _
            rw [show s4.1 0 13 = nI i from by rw [g4.2 0 (by omega) (by omega) (by omega)]; exact i2]
            exact c5
          case c6 => exact fun _ _ => c6
          case c7 => exact fun _ _ => c7
          case c8 => exact fun _ _ => c8
          case c9 => exact fun _ _ => c9
          case c10 => exact fun _ _ => c10
          case c11 =>
            intro _ _
            rw [e08]
            exact c11
          case c12 => exact fun _ _ => c12
          case c13 => exact fun _ _ => c13'
          case k2 =>
            intro _ _
            rw [e013, nI_1]
            rfl
          case k3 => exact fun _ w => absurd (show ¬ bI true = 0 by decide) w
        -- the reference
        have gc : ∀ c, c ≠ 0 → c ≠ 1 → c ≠ 2 → (c < 5 ∨ 17 < c) → σc.1 c = σ.1 c := fun c w1 w2 w3 w4 => (u36_c w1).trans (g13.2 c w2 w3 w4)
        have gc38 : σc.1 38 21 = nI i := by rw [gc 38 (by omega) (by omega) (by omega) (by omega)]; exact i3
        obtain ⟨r2, b2, h2, pm2⟩ := K195 (X := X) (d := 5) (i := i) (k := k) (u := u) (v := none) (σ := σc) (by omega) (by omega) (by omega) (fun z hz => by cases hz) gc38
        have j2 := h2.fJ
        obtain ⟨r3, b3, j3, pm3⟩ := K193 (X := X) (d := 2) (k := k) (e := 0) (N := N) (D := D) pm2 (by rw [← eO0]; exact rd0) hk (by omega) (by omega) m4 (by rw [(j2.1 43 (by omega) (by omega) (by omega)).1, gc 43 (by omega) (by omega) (by omega) (by omega)]; exact q1.trans m5) (by rw [(j2.1 44 (by omega) (by omega) (by omega)).1, gc 44 (by omega) (by omega) (by omega) (by omega)]; exact q2.trans m6)
        rw [← eO0, hv] at b3
        have j23 := j2.tr j3
        obtain ⟨r4, b4, h4, pm4⟩ := K195 (X := X) (d := 5) (i := i) (k := k) (u := u) (v := some v) (σ := r3) (by omega) (by omega) (by omega) (fun z hz => by injection hz with hz; omega) (by rw [j23.2 21 (by omega) (by omega) (by omega)]; exact gc38)
        have j4 := j23.tr h4.fJ
        have e21 : r4.1 38 21 = nI i := by rw [j4.2 21 (by omega) (by omega) (by omega)]; exact gc38
        have e43' : σc.1 43 (nI k).toNatClampNeg = σ.1 21 k := by rw [gc 43 (by omega) (by omega) (by omega) (by omega)]; exact e43
        refine ⟨1, σc, u36 r4 38 21 (nI (i + 1)), cc, mi_R.of rfl rfl ?_, fin_qI hn hI i2 i1 g13 p13 j4 pm4⟩
        have zu : ¬ nI u < 0 := nI_pos (by omega)
        have zu9 : nI u ≤ 99 := nI_le (b := 99) (by omega) (by omega)
        have k125' : RR X 8 125 [.int (nI k)] σc (some (.int 1), σc) := K125t ((is4 _).mp ha).1 ((is4 _).mp ha).2
        apply R196_0 (σ2 := r2) (v2 := nI v) (σ3 := r3) (σ4 := r4) k125'
        case k1 => exact fun w => absurd w n1
        case b1 => exact fun _ => hin
        case k2 => exact fun _ w => absurd (e43'.symm.trans w) z21
        case k3 => exact fun _ _ w => absurd w zu
        case c2 => exact fun _ _ _ _ => b2
        case c3 => exact fun _ _ _ _ => b3
        case c4 => exact fun _ _ _ _ => b4
        case k4 =>
          intro _ _ _ _
          rw [e21, nI_1]
          rfl
        case k5 => exact fun _ _ _ w => absurd zu9 w
  · refine refuse (mi_R.of rfl rfl ?_) (mi_R.of rfl rfl ?_)
    · have c95 : RR X 8 95 [.ref 18, .int a] σ (some (.int 0), σ) := mi_R.of rfl rfl (R95_0 (fun _ => rfl) (fun _ _ => rfl) (fun z y => absurd ⟨z, y⟩ ha) (fun _ _ _ => rfl) (fun z y => absurd ⟨z, y⟩ ha))
      apply R12_0 (v2 := 0) (σ2 := σ) (σ3 := σ) (σ4 := σ) (σ5 := σ) (σ6 := σ) (σ7 := σ) (σ8 := σ) (σ9 := σ) (v3 := 0) (σ10 := σ) (σ11 := σ) (σ12 := σ) (σ13 := σ) c95
      case k1 => exact fun _ => rfl
      all_goals exact fun w => absurd rfl w
    · have k125 : RR X 8 125 [.int a] σ (some (.int 0), σ) := K125f fun z => ha ((is4 _).mpr z)
      apply R196_0 (σ2 := σ) (v2 := 0) (σ3 := σ) (σ4 := σ) k125
      case k1 => exact fun _ => rfl
      all_goals exact fun w => absurd rfl w
