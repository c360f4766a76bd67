/-! Signatures: what is valid -/
def nmd (l : List Nat) : Option Nat := if l.length = 2 ∧ l.getD 0 0 = 112 ∧ 48 ≤ l.getD 1 0 ∧ l.getD 1 0 ≤ 51 then some (l.getD 1 0 - 48) else none
theorem nmd_is {l : List Nat} {k : Nat} (h : nmd l = some k) : l = [112, 48 + k] ∧ k < 4 := by
  unfold nmd at h
  split at h
  · rename_i hc
    injection h with h
    obtain ⟨h1, h2, h3, h4⟩ := hc
    match l, h1 with
    | [a, b], _ =>
      have h2 : a = 112 := h2
      have h3 : 48 ≤ b := h3
      have h4 : b ≤ 51 := h4
      have h : b - 48 = k := h
      subst h2
      refine ⟨?_, by omega⟩
      rw [show 48 + k = b by omega]
  · cases h
theorem nmd_mk {k : Nat} (h : k < 4) : nmd [112, 48 + k] = some k := by
  unfold nmd
  rw [if_pos ⟨rfl, rfl, show 48 ≤ 48 + k by omega, show 48 + k ≤ 51 by omega⟩]
  show some (48 + k - 48) = _
  rw [Nat.add_sub_cancel_left]
theorem pck_nm {k : Nat} (h : k < 4) : pck [112, 48 + k] = 28720 + k := by
  unfold pck
  rw [if_neg]
  · show (0 * 256 + 112) * 256 + (48 + k) = _
    omega
  · intro z
    rcases z with z | z
    · rcases List.mem_cons.mp z with z | z
      · exact absurd z (by decide)
      · have := List.mem_singleton.mp z
        omega
    · exact absurd z (by show ¬ 8 < 2; omega)
theorem nmd_pck {l : List Nat} (hl : okC l) {k : Nat} (hk : k < 4) : pck l = 28720 + k ↔ nmd l = some k := by
  constructor
  · intro h
    rw [← pck_nm hk] at h
    have hm : okC [112, 48 + k] := fun c hc => by
      rcases List.mem_cons.mp hc with z | z
      · omega
      · have := List.mem_singleton.mp z
        omega
    have hw : wrd [112, 48 + k] = true := by
      cases hh : wrd [112, 48 + k] with
      | true => rfl
      | false =>
        have := (pck_0 hm).mpr hh
        rw [pck_nm hk] at this
        omega
    rw [(pck_eq hl hm hw).mp h]
    exact nmd_mk hk
  · intro h
    rw [(nmd_is h).1]
    exact pck_nm hk
def trn (tk : Nat → Nat × Nat) (l : List Nat) : Option Nat := match nmd l with
  | none => none
  | some k => if (tk k).1 = 0 then none else some k
def vlV (T : List Nat) (n : Nat) (E : Nat → mEl) (tk : Nat → Nat × Nat) (e k : Nat) : Option Nat → Bool
  | none => false
  | some v => decide (v < (tk k).1) && decide (v ^ (tk k).2 % (tk k).1 = dgS T n E e)
theorem vlV_s (T : List Nat) (n : Nat) (E : Nat → mEl) (tk : Nat → Nat × Nat) (e k v : Nat) : vlV T n E tk e k (some v) = (decide (v < (tk k).1) && decide (v ^ (tk k).2 % (tk k).1 = dgS T n E e)) := rfl
def vldK (T : List Nat) (n : Nat) (E : Nat → mEl) (tk : Nat → Nat × Nat) (s : Option Nat) (e k : Nat) : Bool := same' T E (sxo T E s wRef) (sxo T E (some e) wID) && vlV T n E tk e k (num (vlo T E (sxo T E s wV)))
def vld (T : List Nat) (n : Nat) (E : Nat → mEl) (tk : Nat → Nat × Nat) (s : Option Nat) (e : Nat) (i : Option Nat) : Bool := match trn tk (bdy T E i) with
  | none => false
  | some k => vldK T n E tk s e k
def okTk (tk : Nat → Nat × Nat) : Prop := ∀ k, k < 4 → (tk k).1 = 0 ∨ (65521 ≤ (tk k).1 ∧ (tk k).1 ≤ 1000000 ∧ 1 ≤ (tk k).2 ∧ (tk k).2 ≤ 1000000)
def trC (tk : Nat → Nat × Nat) (a b : Nat → Int32) : Prop := okTk tk ∧ ∀ k, k < 4 → a k = nI (tk k).1 ∧ ((tk k).1 = 0 ∨ b k = nI (tk k).2)
theorem trn_lt {tk : Nat → Nat × Nat} {l : List Nat} {k : Nat} (h : trn tk l = some k) : k < 4 ∧ (tk k).1 ≠ 0 ∧ nmd l = some k := by
  unfold trn at h
  cases hn : nmd l with
  | none => rw [hn] at h; cases h
  | some j =>
    rw [hn] at h
    have h : (if (tk j).1 = 0 then none else some j) = some k := h
    split at h
    · cases h
    · rename_i hz
      injection h with h
      subst h
      exact ⟨(nmd_is hn).2, hz, rfl⟩
theorem trn_of {tk : Nat → Nat × Nat} {l : List Nat} {k : Nat} (h : nmd l = some k) (hz : (tk k).1 ≠ 0) : trn tk l = some k := by
  unfold trn
  rw [h]
  show (if (tk k).1 = 0 then none else some k) = some k
  rw [if_neg hz]
theorem trn_n {tk : Nat → Nat × Nat} {l : List Nat} (h : nmd l = none) : trn tk l = none := by
  unfold trn
  rw [h]
theorem trn_z {tk : Nat → Nat × Nat} {l : List Nat} {k : Nat} (h : nmd l = some k) (hz : (tk k).1 = 0) : trn tk l = none := by
  unfold trn
  rw [h]
  show (if (tk k).1 = 0 then none else some k) = none
  rw [if_pos hz]
section
variable {X : Nat × (Nat → Int32)} {d : Nat} {T : List Nat} {n : Nat} {E : Nat → mEl} {σ : mG} {tk : Nat → Nat × Nat}
theorem K94 (ht : trC tk (σ.1 19) (σ.1 20)) {k : Nat} (hk : k < 2 ^ 31) : RR X (d + 1) 94 [.ref 18, .int (nI k)] σ (some (.int (bI (decide (k < 4) && decide ((tk k).1 ≠ 0)))), σ) := by
  have e4 : (4 : Int32) ≤ nI k ↔ 4 ≤ k := nI_leI (a := 4) (by omega) hk
  by_cases h4 : k < 4
  · have hN := ht.1 k h4
    have e0 : σ.1 19 (nI k).toNatClampNeg = 0 ↔ (tk k).1 = 0 := by
      rw [nI_clamp hk, (ht.2 k h4).1]
      exact nI_eq (b := 0) (by omega) (by omega)
    refine mi_R.of rfl rfl (R94_0 (fun y => absurd y (nI_pos hk)) (fun _ y => absurd (e4.mp y) (by omega)) (fun _ _ => mi_in_nI h4 (by omega)) (fun _ _ y => ?_) (fun _ _ y => ?_))
    · rw [decide_eq_false (p := (tk k).1 ≠ 0) (fun z => z (e0.mp y)), Bool.and_false]
      rfl
    · rw [decide_eq_true h4, decide_eq_true (p := (tk k).1 ≠ 0) (fun z => y (e0.mpr z))]
      rfl
  · refine mi_R.of rfl rfl (R94_0 (fun y => absurd y (nI_pos hk)) (fun _ _ => ?_) (fun _ y => absurd (e4.mpr (by omega)) y) (fun _ y => absurd (e4.mpr (by omega)) y) (fun _ y => absurd (e4.mpr (by omega)) y))
    rw [decide_eq_false h4]
    rfl
theorem K94n {x : Int32} (h : x < 0) : RR X (d + 1) 94 [.ref 18, .int x] σ (some (.int 0), σ) := mi_R.of rfl rfl (R94_0 (fun _ => rfl) (fun y => absurd h y) (fun y => absurd h y) (fun y => absurd h y) (fun y => absurd h y))
theorem K35 (h : cC T n E σ) (ht : trC tk (σ.1 19) (σ.1 20)) {o : Option Nat} (ho : oE n o) : RR X (d + 3) 35 [.ref 0, .int (oI o)] σ (some (.int (oI (trn tk (bdy T E o)))), σ) := by
  have hl := h.1.1
  obtain ⟨b1, b2⟩ := body_le h.2.2.1 ho
  have hlen : (bdy T E o).length = pT' E o - pF E o := seg_len b2
  have e2 : nI (pT' E o) - nI (pF E o) = 2 ↔ pT' E o - pF E o = 2 := by
    rw [pk_sub b1]
    exact nI_eq (b := 2) (by omega) (by omega)
  by_cases h2 : pT' E o - pF E o = 2
  · have hb : bdy T E o = [tc T (pF E o), tc T (pF E o + 1)] := by
      unfold bdy
      rw [seg_cons (by omega) b2, seg_cons (by omega) b2, seg_nil (by omega)]
    have t1 := tc_ok h.1 (show pF E o < T.length by omega)
    have t2 := tc_ok h.1 (show pF E o + 1 < T.length by omega)
    have e112 : nI (tc T (pF E o)) = 112 ↔ tc T (pF E o) = 112 := nI_eq (b := 112) (by omega) (by omega)
    by_cases h112 : tc T (pF E o) = 112
    · by_cases h48 : 48 ≤ tc T (pF E o + 1)
      · have ek : nI (tc T (pF E o + 1)) - 48 = nI (tc T (pF E o + 1) - 48) := by rw [show (48 : Int32) = nI 48 from rfl, pk_sub h48]
        have k94 := K94 (X := X) (d := d + 1) ht (k := tc T (pF E o + 1) - 48) (by omega)
        have hnm : tc T (pF E o + 1) - 48 < 4 → nmd (bdy T E o) = some (tc T (pF E o + 1) - 48) := fun q => by
          rw [hb, h112]
          have := nmd_mk q
          rw [show 48 + (tc T (pF E o + 1) - 48) = tc T (pF E o + 1) by omega] at this
          exact this
        refine mi_R.of rfl rfl (R35_0 (v4 := nI (tc T (pF E o + 1))) (σ4 := σ) (v5 := bI (decide (tc T (pF E o + 1) - 48 < 4) && decide ((tk (tc T (pF E o + 1) - 48)).1 ≠ 0))) (σ5 := σ) (K60 (d := d) h ho) (K61 (d := d) h ho) (fun y => absurd (e2.mpr h2) y) (fun _ => K39c h.1 h.2.1 (by omega)) (fun _ _ => ?_) (fun _ _ => ?_) (fun _ _ y => ?_) (fun _ _ y => ?_) (fun _ y => absurd (e112.mpr h112) y))
        · rw [nI_1]
          exact K39c h.1 h.2.1 (by omega)
        · rw [ek]
          exact k94
        · have y := bI_0.mp y
          have : trn tk (bdy T E o) = none := by
            by_cases q : tc T (pF E o + 1) - 48 < 4
            · rw [decide_eq_true q, Bool.true_and] at y
              exact trn_z (hnm q) (Decidable.not_not.mp (of_decide_eq_false y))
            · refine trn_n ?_
              cases hh : nmd (bdy T E o) with
              | none => rfl
              | some j =>
                obtain ⟨j1, j2⟩ := nmd_is hh
                rw [hb] at j1
                have := (List.cons.inj (List.cons.inj j1).2).1
                omega
          rw [this]
          rfl
        · have y := bI_n0.mp y
          rw [Bool.and_eq_true] at y
          have q1 := of_decide_eq_true y.1
          rw [trn_of (hnm q1) (of_decide_eq_true y.2), ek]
          rfl
      · have ek : nI (tc T (pF E o + 1)) - 48 < 0 := pk_sneg (a := tc T (pF E o + 1)) (b := 48) (by omega) (by omega)
        have : trn tk (bdy T E o) = none := trn_n (by
          cases hh : nmd (bdy T E o) with
          | none => rfl
          | some j =>
            obtain ⟨j1, j2⟩ := nmd_is hh
            rw [hb] at j1
            have := (List.cons.inj (List.cons.inj j1).2).1
            omega)
        rw [this]
        refine mi_R.of rfl rfl (R35_0 (v4 := nI (tc T (pF E o + 1))) (σ4 := σ) (v5 := 0) (σ5 := σ) (K60 (d := d) h ho) (K61 (d := d) h ho) (fun y => absurd (e2.mpr h2) y) (fun _ => K39c h.1 h.2.1 (by omega)) (fun _ _ => ?_) (fun _ _ => K94n ek) (fun _ _ _ => rfl) (fun _ _ y => absurd rfl y) (fun _ _ => rfl))
        rw [nI_1]
        exact K39c h.1 h.2.1 (by omega)
    · have : trn tk (bdy T E o) = none := trn_n (by
        cases hh : nmd (bdy T E o) with
        | none => rfl
        | some j =>
          obtain ⟨j1, j2⟩ := nmd_is hh
          rw [hb] at j1
          exact absurd (List.cons.inj j1).1 h112)
      rw [this]
      exact mi_R.of rfl rfl (R35_0 (v4 := 0) (σ4 := σ) (v5 := 0) (σ5 := σ) (K60 (d := d) h ho) (K61 (d := d) h ho) (fun y => absurd (e2.mpr h2) y) (fun _ => K39c h.1 h.2.1 (by omega)) (fun _ y => absurd (e112.mp y) h112) (fun _ y => absurd (e112.mp y) h112) (fun _ y => absurd (e112.mp y) h112) (fun _ y => absurd (e112.mp y) h112) (fun _ _ => rfl))
  · have : trn tk (bdy T E o) = none := trn_n (by
      cases hh : nmd (bdy T E o) with
      | none => rfl
      | some j =>
        have := congrArg List.length (nmd_is hh).1
        rw [hlen] at this
        exact absurd this h2)
    rw [this]
    have nz : ¬ ¬ nI (pT' E o) - nI (pF E o) = 2 → False := fun y => h2 (e2.mp (Decidable.not_not.mp y))
    exact mi_R.of rfl rfl (R35_0 (v3 := 0) (σ3 := σ) (v4 := 0) (σ4 := σ) (v5 := 0) (σ5 := σ) (K60 (d := d) h ho) (K61 (d := d) h ho) (fun _ => rfl) (fun y => (nz y).elim) (fun y => (nz y).elim) (fun y => (nz y).elim) (fun y => (nz y).elim) (fun y => (nz y).elim) (fun y => (nz y).elim))
theorem K97 (ht : trC tk (σ.1 19) (σ.1 20)) {k : Nat} (hk : k < 4) (hz : (tk k).1 ≠ 0) {o : Option Nat} {e : Nat} (ho : ∀ v, o = some v → v < 2 ^ 31) : RR X (d + 2) 97 [.ref 18, .int (nI k), .int (oI o), .int (nI (dgS T n E e))] σ (some (.int (bI (vlV T n E tk e k o))), σ) := by
  have hdg := dgS_lt T n E e
  have hN := (ht.1 k hk).resolve_left hz
  have e19 : σ.1 19 (nI k).toNatClampNeg = nI (tk k).1 := by rw [nI_clamp (by omega), (ht.2 k hk).1]
  have e20 : σ.1 20 (nI k).toNatClampNeg = nI (tk k).2 := by rw [nI_clamp (by omega), (ht.2 k hk).2.resolve_left hz]
  have hin : mi_in (nI k) 4 = true := mi_in_nI hk (by omega)
  have k94 : RR X (d + 1) 94 [.ref 18, .int (nI k)] σ (some (.int 1), σ) := by
    have := K94 (X := X) (d := d) ht (k := k) (by omega)
    rw [decide_eq_true hk, decide_eq_true (p := (tk k).1 ≠ 0) hz] at this
    exact this
  have n1 : ¬ (1 : Int32) = 0 := by decide
  cases o with
  | none =>
    have zn : oI none < 0 := show (-1 : Int32) < 0 by decide
    exact mi_R.of rfl rfl (R97_0 (v2 := 0) (σ2 := σ) k94 (fun y => absurd y n1) (fun _ _ => rfl) (fun _ y => absurd zn y) (fun _ y => absurd zn y) (fun _ y => absurd zn y) (fun _ y => absurd zn y) (fun _ y => absurd zn y) (fun _ y => absurd zn y) (fun _ y => absurd zn y))
  | some v =>
    have hv := ho v rfl
    have zn : ¬ oI (some v) < 0 := nI_pos (n := v) hv
    have ele : σ.1 19 (nI k).toNatClampNeg ≤ oI (some v) ↔ (tk k).1 ≤ v := by
      rw [e19]
      exact nI_leI (by omega) hv
    have k98 : RR X (d + 1) 98 [.int (oI (some v)), .int (σ.1 20 (nI k).toNatClampNeg), .int (σ.1 19 (nI k).toNatClampNeg)] σ (some (.int (nI (v ^ (tk k).2 % (tk k).1))), σ) := by
      rw [e19, e20]
      exact K98 (by omega) (by omega) hv (by omega)
    have hm := Nat.mod_lt (v ^ (tk k).2) (show 0 < (tk k).1 by omega)
    have eeq : nI (v ^ (tk k).2 % (tk k).1) = nI (dgS T n E e) ↔ v ^ (tk k).2 % (tk k).1 = dgS T n E e := nI_eq (by omega) (by omega)
    refine mi_R.of rfl rfl (R97_0 (v2 := nI (v ^ (tk k).2 % (tk k).1)) (σ2 := σ) k94 (fun y => absurd y n1) (fun _ y => absurd y zn) (fun _ _ => hin) (fun _ _ y => ?_) (fun _ _ _ => hin) (fun _ _ _ => hin) (fun _ _ _ => k98) (fun _ _ y1 y2 => ?_) (fun _ _ y1 y2 => ?_))
    · rw [vlV_s, decide_eq_false (p := v < (tk k).1) (by have := ele.mp y; omega)]
      rfl
    · rw [vlV_s, decide_eq_false (p := v ^ (tk k).2 % (tk k).1 = dgS T n E e) (fun q => y2 (eeq.mpr q)), Bool.and_false]
      rfl
    · rw [vlV_s, decide_eq_true (p := v < (tk k).1) (Nat.not_le.mp fun q => y1 (ele.mpr q)), decide_eq_true (p := v ^ (tk k).2 % (tk k).1 = dgS T n E e) (eeq.mp (Decidable.not_not.mp y2))]
      rfl
theorem K34 (h : cC T n E σ) (ht : trC tk (σ.1 19) (σ.1 20)) {s i : Option Nat} {e : Nat} (hs : oE n s) (he : e < n) (hi : oE n i) : ∃ σ', RR X (d + 6) 34 [.ref 0, .int (oI s), .int (nI e), .int (oI i)] σ (some (.int (bI (vld T n E tk s e i))), σ') ∧ fG σ σ' := by
  have hoe := oE_some he
  have k35 := K35 (X := X) (d := d + 2) h ht hi
  have k65a : RR X (d + 5) 65 [.ref 5, .int (oI s), .ref 1043] σ (some (.int (oI (sxo T E s wRef))), σ) := K65 (d := d + 3) (W := wRef) h hs ⟨rfl, by decide, by decide⟩
  have k65b : RR X (d + 5) 65 [.ref 5, .int (nI e), .ref 1044] σ (some (.int (oI (sxo T E (some e) wID))), σ) := K65 (d := d + 3) (o := some e) (W := wID) h hoe ⟨rfl, by decide, by decide⟩
  have k70 := K70 (X := X) (d := d + 2) h (sxo_ok h.2.2.1 (W := wRef) hs).1 (sxo_ok h.2.2.1 (W := wID) hoe).1
  have k74 : RR X (d + 5) 74 [.ref 5, .int (oI s), .ref 1045] σ (some (.int (oI (num (vlo T E (sxo T E s wV))))), σ) := K74 (d := d + 2) (W := wV) h hs ⟨rfl, by decide, by decide⟩
  cases hk : trn tk (bdy T E i) with
  | none =>
    rw [hk] at k35
    refine ⟨σ, mi_R.of rfl rfl (R34_0 (v2 := 0) (σ2 := σ) (v3 := 0) (σ3 := σ) (v4 := 0) (σ4 := σ) (v5 := 0) (σ5 := σ) (v6 := 0) (σ6 := σ) (v7 := 0) (σ7 := σ) k35 (fun _ => ?_) (fun y => absurd rfl y) (fun y => absurd rfl y) (fun y => absurd rfl y) (fun y => absurd rfl y) (fun y => absurd rfl y) (fun y => absurd rfl y) (fun y => absurd rfl y) (fun y => absurd rfl y) (fun y => absurd rfl y)), fG.rfl'⟩
    unfold vld
    rw [hk]
    rfl
  | some k =>
    rw [hk] at k35
    obtain ⟨k1, k2, -⟩ := trn_lt hk
    have nm : ¬ oI (some k) = -1 := fun z => m1_ne (c := k) (by omega) z.symm
    have ev : vld T n E tk s e i = vldK T n E tk s e k := by
      unfold vld
      rw [hk]
    cases hsm : same' T E (sxo T E s wRef) (sxo T E (some e) wID) with
    | false =>
      rw [hsm] at k70
      refine ⟨σ, mi_R.of rfl rfl (R34_0 (v5 := 0) (σ5 := σ) (v6 := 0) (σ6 := σ) (v7 := 0) (σ7 := σ) k35 (fun y => absurd y nm) (fun _ => k65a) (fun _ => k65b) (fun _ => k70) (fun _ y => absurd rfl y) (fun _ y => absurd rfl y) (fun _ y => absurd rfl y) (fun _ y => absurd rfl y) (fun _ y => absurd rfl y) (fun _ _ => ?_)), fG.rfl'⟩
      rw [ev]
      unfold vldK
      rw [hsm]
      rfl
    | true =>
      rw [hsm] at k70
      obtain ⟨σ6, c1, c2⟩ := K86 (X := X) (d := d) h.1 h.2.2.1 he h.2.1 h.2.2.2
      have ht6 : trC tk (σ6.1 19) (σ6.1 20) := by
        rw [c2.2 19 (by omega), c2.2 20 (by omega)]
        exact ht
      have k97 := K97 (X := X) (d := d + 3) (T := T) (n := n) (E := E) (e := e) ht6 k1 k2 (o := num (vlo T E (sxo T E s wV))) num_31
      refine ⟨σ6, mi_R.of rfl rfl (R34_0 k35 (fun y => absurd y nm) (fun _ => k65a) (fun _ => k65b) (fun _ => k70) (fun _ _ => k74) (fun _ _ => c1) (fun _ _ => k97) (fun _ _ => ?_) (fun _ _ => bI_01 _) (fun _ y => absurd (show ¬ (1 : Int32) = 0 by decide) y)), c2⟩
      rw [ev]
      unfold vldK
      rw [hsm, Bool.true_and]
/-! the reference -/
theorem sub_neg64 {a b : Nat} (ha : a < 2 ^ 62) (hb : b < 2 ^ 62) (h : a < b) : lN a - lN b < 0 := by
  rw [Int64.lt_iff_toInt_lt, Int64.toInt_sub, pk_lT (by omega), pk_lT (by omega), Int64.toInt_zero, Int.bmod_eq_of_le (by omega) (by omega)]
  omega
theorem K176 (h : cM T n E σ) {e i : Nat} (he : e < n) (hi : one T n E (some e) wIss = some i) : RR X (d + 3) 176 [.ref 38, .int (nI e)] σ (some (.int (oI (nmd (bdy T E (some i))))), σ) := by
  obtain ⟨-, f1, li⟩ := one_some hi
  have c1 : RR X (d + 2) 170 [.ref 38, .int (nI e), .long 115944571535360] σ (some (.int (nI i)), σ) := by
    have := K170 (X := X) (d := d + 1) (W := wIss) h he ⟨by decide, by decide⟩
    rw [f1] at this
    exact this
  have c2 := K165 (X := X) (d := d) h li
  have hok : okC (bdy T E (some i)) := seg_okC h.1 _ _
  have hlt := pck_lt hok
  by_cases hp : pck (bdy T E (some i)) < 28720
  · have z : lg_cmp (lN (pck (bdy T E (some i))) - 28720) 0 < 0 := by
      rw [lg_cmp_lt, show (28720 : Int64) = lN 28720 from rfl]
      exact sub_neg64 (by omega) (by omega) hp
    refine mi_R.of rfl rfl (R176_0 c1 c2 (fun _ => ?_) (fun y => absurd z y) (fun y => absurd z y))
    have : nmd (bdy T E (some i)) = none := by
      cases hh : nmd (bdy T E (some i)) with
      | none => rfl
      | some k =>
        have := (nmd_pck hok (nmd_is hh).2).mpr hh
        omega
    rw [this]
    rfl
  · have es : lN (pck (bdy T E (some i))) - 28720 = lN (pck (bdy T E (some i)) - 28720) := by rw [show (28720 : Int64) = lN 28720 from rfl, lN_sub (by omega)]
    have z : ¬ lg_cmp (lN (pck (bdy T E (some i))) - 28720) 0 < 0 := by
      rw [es, lg_cmp_lt, show (0 : Int64) = lN 0 from rfl, pk_lLT (by omega) (by omega)]
      omega
    have z3 : lg_cmp (lN (pck (bdy T E (some i))) - 28720) 3 ≤ 0 ↔ pck (bdy T E (some i)) - 28720 ≤ 3 := by
      rw [es, lg_cmp_le, show (3 : Int64) = lN 3 from rfl, pk_lLE (by omega) (by omega)]
    refine mi_R.of rfl rfl (R176_0 c1 c2 (fun y => absurd y z) (fun _ y => ?_) (fun _ y => ?_))
    · have y := z3.mp y
      rw [(nmd_pck hok (k := pck (bdy T E (some i)) - 28720) (by omega)).mp (by omega), es, lN_i]
      rfl
    · have : nmd (bdy T E (some i)) = none := by
        cases hh : nmd (bdy T E (some i)) with
        | none => rfl
        | some k =>
          have h4 := (nmd_is hh).2
          have := (nmd_pck hok h4).mpr hh
          exact absurd (z3.mpr (by omega)) y
      rw [this]
      rfl
def snd' (T : List Nat) (n : Nat) (E : Nat → mEl) (tk : Nat → Nat × Nat) (s : Option Nat) (e : Nat) (i : Option Nat) : Bool := match s with
  | none => true
  | some s => vld T n E tk (some s) e i
theorem K177 (h : cM T n E σ) (ht : trC tk (σ.1 41) (σ.1 42)) {e i : Nat} (he : e < n) (hi : one T n E (some e) wIss = some i) (hid : hs T E (some e) wID = true) (hsg : ssg T n E (some e) = true) : RR X (d + 6) 177 [.ref 38, .int (nI e)] σ (some (.int (bI (snd' T n E tk (ccL T n E (some e) sigL) e (some i)))), σ) := by
  have hn := h.2.2.1.2.1
  have oS : okN 6 sigL := ⟨by decide, by decide⟩
  have oR : okN 6 wRef := ⟨by decide, by decide⟩
  have oV : okN 6 wV := ⟨by decide, by decide⟩
  have oD : okN 6 wID := ⟨by decide, by decide⟩
  have k170 : RR X (d + 5) 170 [.ref 38, .int (nI e), .long 126896536813568] σ (some (.int (oI (fs (ch T E e sigL) n))), σ) := K170 (d := d + 4) (W := sigL) h he oS
  cases hf : fs (ch T E e sigL) n with
  | none =>
    rw [hf] at k170
    have hL : ccL T n E (some e) sigL = none := (cnt0_ls n).mp ((cnt0_fs n).mpr hf)
    have zn : ¬ 0 ≤ oI none := show ¬ (0 : Int32) ≤ -1 by decide
    rw [hL]
    refine mi_R.of rfl rfl ?_
    apply R177_0 (v1 := oI none) (σ1 := σ) (v2 := 0) (σ2 := σ) (v3 := 0) (σ3 := σ) (v4 := 0) (σ4 := σ) (v5 := 0) (σ5 := σ) (v6 := 0) (σ6 := σ) (v7 := 0) (σ7 := σ) (v8 := 0) (σ8 := σ) k170
    case k7 => exact fun _ => rfl
    all_goals exact fun y => absurd y zn
  | some s =>
    rw [hf] at k170
    have hs' := (fs_ok hf).1
    have h0 : ¬ ccN T n E (some e) sigL = 0 := fun q => by
      rw [(cnt0_fs n).mp q] at hf
      cases hf
    have hu := hsg
    unfold ssg at hu
    rw [decide_eq_false h0, Bool.false_or, Bool.and_eq_true] at hu
    have h1 := of_decide_eq_true hu.1
    have hL : ccL T n E (some e) sigL = some s := (cnt1 n h1).symm.trans hf
    rw [hL] at hu ⊢
    rw [Bool.and_eq_true] at hu
    have k176 := K176 (X := X) (d := d + 2) h he hi
    have k167 : RR X (d + 5) 167 [.ref 38, .int (nI s), .long 129742372077568] σ (some (.int (oI (num (vlo T E (sxo T E (some s) wV))))), σ) := K167 (d := d + 3) (W := wV) h hs' oV
    cases hv : num (vlo T E (sxo T E (some s) wV)) with
    | none =>
      exfalso
      rw [hv] at hu
      exact absurd hu.2.2 (by decide)
    | some v =>
      rw [hv] at k167
      have hv31 := num_31 v hv
      have hvlt := num_lt hv
      rcases msl_sx h.2.2.1 hs' oR with ⟨r1, r2⟩ | ⟨m1, s1, r1, r2, r3, r4, r5⟩
      · exfalso
        rw [r2] at hu
        exact absurd hu.2.1 (by decide)
      · rcases msl_sx h.2.2.1 he oD with ⟨d1, d2⟩ | ⟨m2, s2, d1, d2, d3, d4, d5⟩
        · exfalso
          unfold hs at hid
          rw [d2] at hid
          cases hid
        · have kr : RR X (d + 5) 148 [.ref 38, .int (nI s), .long 125779828539392] σ (some (.int (nI m1)), σ) := by
            have := K148m (X := X) (d := d + 4) (W := wRef) h hs' oR
            rw [r1] at this
            exact this
          have kd : RR X (d + 5) 148 [.ref 38, .int (nI e), .long 115878217646080] σ (some (.int (nI m2)), σ) := by
            have := K148m (X := X) (d := d + 4) (W := wID) h he oD
            rw [d1] at this
            exact this
          have ks := K168 (X := X) (d := d + 4) h (m := m1) (m' := m2) (by omega) (by rw [r4]; exact r5) (by omega) (by rw [d4]; exact d5)
          have sd : same' T E (sxo T E (some s) wRef) (sxo T E (some e) wID) = decide (vl T (mv E m1) = vl T (mv E m2)) := by
            unfold same'
            rw [r2, d2, vlo_mv r3, vlo_mv d3]
            rfl
          rw [← sd] at ks
          have zs : 0 ≤ oI (some s) := nI_pos' (n := s) (by omega)
          show RR X (d + 6) 177 [.ref 38, .int (nI e)] σ (some (.int (bI (vld T n E tk (some s) e (some i)))), σ)
          cases hnm : nmd (bdy T E (some i)) with
          | none =>
            rw [hnm] at k176
            have zn : oI none < 0 := show (-1 : Int32) < 0 by decide
            have ev : vld T n E tk (some s) e (some i) = false := by
              unfold vld
              rw [trn_n hnm]
            rw [ev]
            refine mi_R.of rfl rfl ?_
            apply R177_0 (v1 := oI (some s)) (σ1 := σ) (v2 := oI none) (σ2 := σ) (v3 := oI (some v)) (σ3 := σ) (v4 := 0) (σ4 := σ) (v5 := 0) (σ5 := σ) (v6 := 0) (σ6 := σ) (v7 := 0) (σ7 := σ) (v8 := 0) (σ8 := σ) k170
            case c2 => exact fun _ => k176
            case c3 => exact fun _ => k167
            case k1 => exact fun _ _ => rfl
            case k7 => exact fun y => absurd zs y
            all_goals exact fun _ y => absurd zn y
          | some k =>
            rw [hnm] at k176
            have hk4 := (nmd_is hnm).2
            have zn : ¬ oI (some k) < 0 := nI_pos (n := k) (by omega)
            have hin : mi_in (oI (some k)) 4 = true := mi_in_nI (j := k) hk4 (by omega)
            have e41 : σ.1 41 (oI (some k)).toNatClampNeg = nI (tk k).1 := by
              show σ.1 41 (nI k).toNatClampNeg = _
              rw [nI_clamp (by omega), (ht.2 k hk4).1]
            have hNb := ht.1 k hk4
            by_cases hz : (tk k).1 = 0
            · have z41 : σ.1 41 (oI (some k)).toNatClampNeg = 0 := by rw [e41, hz]; rfl
              have ev : vld T n E tk (some s) e (some i) = false := by
                unfold vld
                rw [trn_z hnm hz]
              rw [ev]
              refine mi_R.of rfl rfl ?_
              apply R177_0 (v1 := oI (some s)) (σ1 := σ) (v2 := oI (some k)) (σ2 := σ) (v3 := oI (some v)) (σ3 := σ) (v4 := 0) (σ4 := σ) (v5 := 0) (σ5 := σ) (v6 := 0) (σ6 := σ) (v7 := 0) (σ7 := σ) (v8 := 0) (σ8 := σ) k170
              case c2 => exact fun _ => k176
              case c3 => exact fun _ => k167
              case k1 => exact fun _ _ => rfl
              case b1 => exact fun _ _ => hin
              case k2 => exact fun _ _ _ => rfl
              case k7 => exact fun y => absurd zs y
              all_goals exact fun _ _ y => absurd z41 y
            · have hN := hNb.resolve_left hz
              have n41 : ¬ σ.1 41 (oI (some k)).toNatClampNeg = 0 := by
                rw [e41]
                exact nI_ne0 (by omega) (by omega)
              have e42 : σ.1 42 (oI (some k)).toNatClampNeg = nI (tk k).2 := by
                show σ.1 42 (nI k).toNatClampNeg = _
                rw [nI_clamp (by omega), (ht.2 k hk4).2.resolve_left hz]
              have ele : σ.1 41 (oI (some k)).toNatClampNeg ≤ oI (some v) ↔ (tk k).1 ≤ v := by
                rw [e41]
                exact nI_leI (by omega) hv31
              have ev : vld T n E tk (some s) e (some i) = (same' T E (sxo T E (some s) wRef) (sxo T E (some e) wID) && (decide (v < (tk k).1) && decide (v ^ (tk k).2 % (tk k).1 = dgS T n E e))) := by
                unfold vld
                rw [trn_of hnm hz]
                show vldK T n E tk (some s) e k = _
                unfold vldK
                rw [hv]
                rfl
              have k133 : RR X (d + 5) 133 [.int (oI (some v)), .int (σ.1 42 (oI (some k)).toNatClampNeg), .int (σ.1 41 (oI (some k)).toNatClampNeg)] σ (some (.int (nI (v ^ (tk k).2 % (tk k).1))), σ) := by
                rw [e41, e42]
                exact K133 (by omega) (by omega) hv31 (by omega)
              have k161 := K161 (X := X) (d := d) h.1 h.2.1 h.2.2.1 h.2.2.2 he
              have hdg := dgS_lt T n E e
              have hm := Nat.mod_lt (v ^ (tk k).2) (show 0 < (tk k).1 by omega)
              have eeq : nI (v ^ (tk k).2 % (tk k).1) = nI (dgS T n E e) ↔ v ^ (tk k).2 % (tk k).1 = dgS T n E e := nI_eq (by omega) (by omega)
              rw [ev]
              refine mi_R.of rfl rfl ?_
              apply R177_0 (v1 := oI (some s)) (σ1 := σ) (v2 := oI (some k)) (σ2 := σ) (v3 := oI (some v)) (σ3 := σ) (v4 := nI m1) (σ4 := σ) (v5 := nI m2) (σ5 := σ) (v6 := bI (same' T E (sxo T E (some s) wRef) (sxo T E (some e) wID))) (σ6 := σ) (v7 := nI (v ^ (tk k).2 % (tk k).1)) (σ7 := σ) (v8 := nI (dgS T n E e)) (σ8 := σ) k170
              case c2 => exact fun _ => k176
              case c3 => exact fun _ => k167
              case k1 => exact fun _ y => absurd y zn
              case b1 => exact fun _ _ => hin
              case k2 => exact fun _ _ y => absurd y n41
              case b2 => exact fun _ _ _ => hin
              case k3 =>
                intro _ _ _ y
                rw [decide_eq_false (p := v < (tk k).1) (by have := ele.mp y; omega), Bool.false_and, Bool.and_false]
                rfl
              case c4 => exact fun _ _ _ _ => kr
              case c5 => exact fun _ _ _ _ => kd
              case c6 => exact fun _ _ _ _ => ks
              case b3 => exact fun _ _ _ _ _ => hin
              case b4 => exact fun _ _ _ _ _ => hin
              case c7 => exact fun _ _ _ _ _ => k133
              case c8 => exact fun _ _ _ _ _ => k161
              case k4 =>
                intro _ _ _ _ _ y
                rw [decide_eq_false (p := v ^ (tk k).2 % (tk k).1 = dgS T n E e) (fun q => y (eeq.mpr q)), Bool.and_false, Bool.and_false]
                rfl
              case k5 =>
                intro _ _ _ y1 y2 y3
                rw [bI_n0.mp y2, decide_eq_true (p := v < (tk k).1) (Nat.not_le.mp fun q => y1 (ele.mpr q)), decide_eq_true (p := v ^ (tk k).2 % (tk k).1 = dgS T n E e) (eeq.mp (Decidable.not_not.mp y3))]
                rfl
              case k6 =>
                intro _ _ _ _ y
                rw [bI_0.mp (Decidable.not_not.mp y)]
                rfl
              case k7 => exact fun y => absurd zs y
end
