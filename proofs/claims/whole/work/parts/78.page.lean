/-! The page's methods, and the reference's. -/
def nmS (T : List Nat) (p : Nat) : Option Nat := if 1 ≤ nL T p ∧ nL T p ≤ 6 then some (p + nL T p) else none
def cqS (T : List Nat) (p : Nat) : Option Nat := if tc T p = 61 ∧ tc T (p + 1) = 34 ∧ tc T (p + 2 + nV T (p + 2)) = 34 then some (p + 2 + nV T (p + 2)) else none
def cmS (T : List Nat) (p : Nat) : Option Nat := if tc T (p + 4 + nC T (p + 4) + 2) = 62 then some (p + 4 + nC T (p + 4) + 3) else none
def bI (b : Bool) : Int32 := cond b 1 0
theorem bI_0 {b : Bool} : bI b = 0 ↔ b = false := by
  cases b
  · exact ⟨fun _ => rfl, fun _ => rfl⟩
  · exact ⟨fun z => absurd z (by decide), fun z => absurd z (by decide)⟩
theorem nI_2 (a : Nat) : nI a + 2 = nI (a + 2) := nI_add a 2
theorem nI_3 (a : Nat) : nI a + 3 = nI (a + 3) := nI_add a 3
theorem nI_4 (a : Nat) : nI a + 4 = nI (a + 4) := nI_add a 4
section PG
variable {X : Nat × (Nat → Int32)} {d : Nat} {σ : mG} {T : List Nat}
theorem K39e (hT : okT T) (h : cT (σ.1 1 1) (σ.1 2) T) {x : Int32} {p : Nat} (e : x = nI p) : RR X (d + 1) 39 [.ref 1, .int x] σ (some (.int (cdA T (nI p))), σ) := by
  rw [e]
  exact K39 hT h _
theorem K141e (hT : okT T) (h : cT (σ.1 38 4) (σ.1 39) T) {x : Int32} {p : Nat} (e : x = nI p) : RR X (d + 1) 141 [.ref 38, .int x] σ (some (.int (cdA T (nI p))), σ) := by
  rw [e]
  exact K141 hT h _
theorem szC (h : cT (σ.1 1 1) (σ.1 2) T) (hT : okT T) {p : Nat} (hp : p < 2 ^ 31) : σ.1 1 1 ≤ nI p ↔ T.length ≤ p := by
  rw [h.1]
  exact nI_leI (by have := hT.1; omega) hp
theorem szM (h : cT (σ.1 38 4) (σ.1 39) T) (hT : okT T) {p : Nat} (hp : p < 2 ^ 31) : σ.1 38 4 ≤ nI p ↔ T.length ≤ p := by
  rw [h.1]
  exact nI_leI (by have := hT.1; omega) hp
theorem isL_I {c : Nat} (hc : c < 2 ^ 31) : isL c = true ↔ ¬ nI c < 97 ∧ ¬ 122 < nI c := by
  have e1 : nI c < 97 ↔ c < 97 := nI_ltI (b := 97) hc (by omega)
  have e2 : 122 < nI c ↔ 122 < c := nI_ltI (a := 122) (by omega) hc
  rw [isL_iff, e1, e2]
  omega
theorem isL_c (hT : okT T) {p : Nat} (hp : p < 2 ^ 31) : isL (tc T p) = true ↔ ¬ cdA T (nI p) < 97 ∧ ¬ 122 < cdA T (nI p) := by
  by_cases h : p < T.length
  · rw [cdA_in hT h]
    exact isL_I (by have := tc_hi hT p; omega)
  · rw [cdA_out (by omega) hp, tc_out (by omega)]
    decide
theorem L46 (hT : okT T) (h : cT (σ.1 1 1) (σ.1 2) T) {x : Int32} : ∀ p, p < 2 ^ 30 → TT X d tb46 (some .int) (2, [some (.ref 1), some (.int x), some (.int (nI p))], [], σ) (some (.int (nI (p + nL T p))), σ) := by
  have hl := hT.1
  refine rn_ind (P := fun p k => p < 2 ^ 30 → TT X d tb46 (some .int) (2, [some (.ref 1), some (.int x), some (.int (nI p))], [], σ) (some (.int (nI (p + k))), σ)) (fun p hn hp => ?_) (fun p k h1 h2 ih hp => ?_)
  · have z0 : ¬ nI p < 0 := nI_pos (by omega)
    have hsz := szC h hT (p := p) (by omega)
    have hx : ¬ σ.1 1 1 ≤ nI p → mi_in (nI p) 400 = true ∧ ¬ (¬ σ.1 2 (nI p).toNatClampNeg < 97 ∧ ¬ 122 < σ.1 2 (nI p).toNatClampNeg) := fun y => by
      have hlt : p < T.length := by
        rw [hsz] at y
        omega
      refine ⟨mi_in_nI (by omega) (by omega), ?_⟩
      rw [nI_clamp (by omega), h.2 p hlt, ← isL_I (c := T.getD p 0) (by have := tc_hi hT p; unfold tc at this; omega)]
      exact fun z => hn ⟨hlt, z⟩
    exact R46_2 (fun z => rfl) (fun _ _ => rfl) (fun _ y => (hx y).1) (fun _ _ _ => rfl) (fun _ y _ => (hx y).1) (fun _ _ _ _ => rfl) (fun _ y a b => absurd ⟨a, b⟩ (hx y).2)
  · have z0 : ¬ nI p < 0 := nI_pos (by omega)
    have z1 : ¬ σ.1 1 1 ≤ nI p := by rw [szC h hT (by omega)]; omega
    have hin : mi_in (nI p) 400 = true := mi_in_nI (by omega) (by omega)
    have z2 : ¬ σ.1 2 (nI p).toNatClampNeg < 97 ∧ ¬ 122 < σ.1 2 (nI p).toNatClampNeg := by
      rw [nI_clamp (by omega), h.2 p h1]
      exact (isL_I (c := T.getD p 0) (by have := tc_hi hT p; unfold tc at this; omega)).mp h2
    refine R46_2 (fun z => absurd z z0) (fun _ z => absurd z z1) (fun _ _ => hin) (fun _ _ z => absurd z z2.1) (fun _ _ _ => hin) (fun _ _ _ z => absurd z z2.2) (fun _ _ _ _ => ?_)
    rw [nI_1, show p + (k + 1) = p + 1 + k by omega]
    exact ih (by omega)
theorem K46 (hT : okT T) (h : cT (σ.1 1 1) (σ.1 2) T) {p : Nat} (hp : p < 2 ^ 30) : RR X (d + 1) 46 [.ref 1, .int (nI p)] σ (some (.int (nI (p + nL T p))), σ) := mi_R.of rfl rfl (R46_0 (L46 hT h p hp))
theorem L47 (hT : okT T) (h : cT (σ.1 1 1) (σ.1 2) T) {x : Int32} : ∀ p, p < 2 ^ 30 → TT X (d + 1) tb47 (some .int) (2, [some (.ref 1), some (.int x), some (.int (nI p))], [], σ) (some (.int (nI (p + nS T p))), σ) := by
  have hl := hT.1
  refine rn_ind (P := fun p k => p < 2 ^ 30 → TT X (d + 1) tb47 (some .int) (2, [some (.ref 1), some (.int x), some (.int (nI p))], [], σ) (some (.int (nI (p + k))), σ)) (fun p hn hp => ?_) (fun p k h1 h2 ih hp => ?_)
  · have hc := cdA_is hT (p := p) (c := 32) (by omega) (by omega) (by omega)
    have hx : ¬ cdA T (nI p) = 32 := fun z => hn ⟨tc_is (hc.mp z) (by omega), decide_eq_true (hc.mp z)⟩
    exact R47_2 (fun z => rfl) (fun _ => K39e hT h rfl) (fun _ _ => rfl) (fun _ z => absurd hx z)
  · have z1 : ¬ σ.1 1 1 ≤ nI p := by rw [szC h hT (by omega)]; omega
    have hc : cdA T (nI p) = 32 := (cdA_is hT (p := p) (c := 32) (by omega) (by omega) (by omega)).mpr (of_decide_eq_true h2)
    refine R47_2 (fun z => absurd z z1) (fun _ => K39e hT h rfl) (fun _ z => absurd hc z) (fun _ _ => ?_)
    rw [nI_1, show p + (k + 1) = p + 1 + k by omega]
    exact ih (by omega)
theorem K47 (hT : okT T) (h : cT (σ.1 1 1) (σ.1 2) T) {p : Nat} (hp : p < 2 ^ 30) : RR X (d + 2) 47 [.ref 1, .int (nI p)] σ (some (.int (nI (p + nS T p))), σ) := mi_R.of rfl rfl (R47_0 (L47 hT h p hp))
theorem L146 (hT : okT T) (h : cT (σ.1 38 4) (σ.1 39) T) {x : Int32} : ∀ p, p < 2 ^ 30 → TT X (d + 1) tb146 (some .int) (2, [some (.ref 38), some (.int x), some (.int (nI p))], [], σ) (some (.int (nI (p + nS T p))), σ) := by
  have hl := hT.1
  refine rn_ind (P := fun p k => p < 2 ^ 30 → TT X (d + 1) tb146 (some .int) (2, [some (.ref 38), some (.int x), some (.int (nI p))], [], σ) (some (.int (nI (p + k))), σ)) (fun p hn hp => ?_) (fun p k h1 h2 ih hp => ?_)
  · have hc := cdA_is hT (p := p) (c := 32) (by omega) (by omega) (by omega)
    have hx : ¬ cdA T (nI p) = 32 := fun z => hn ⟨tc_is (hc.mp z) (by omega), decide_eq_true (hc.mp z)⟩
    exact R146_2 (K141e hT h rfl) (fun _ => rfl) (fun z => absurd hx z)
  · have hc : cdA T (nI p) = 32 := (cdA_is hT (p := p) (c := 32) (by omega) (by omega) (by omega)).mpr (of_decide_eq_true h2)
    refine R146_2 (K141e hT h rfl) (fun z => absurd hc z) (fun _ => ?_)
    rw [nI_1, show p + (k + 1) = p + 1 + k by omega]
    exact ih (by omega)
theorem K146 (hT : okT T) (h : cT (σ.1 38 4) (σ.1 39) T) {p : Nat} (hp : p < 2 ^ 30) : RR X (d + 2) 146 [.ref 38, .int (nI p)] σ (some (.int (nI (p + nS T p))), σ) := mi_R.of rfl rfl (R146_0 (L146 hT h p hp))
theorem dsh_I (hT : okT T) {p : Nat} (hp : p < 2 ^ 30) : dsh T p = true ↔ cdA T (nI p) = 45 ∧ cdA T (nI (p + 1)) = 45 := by
  unfold dsh
  have e1 : cdA T (nI p) = 45 ↔ tc T p = 45 := cdA_is hT (c := 45) (by omega) (by omega) (by omega)
  have e2 : cdA T (nI (p + 1)) = 45 ↔ tc T (p + 1) = 45 := cdA_is hT (c := 45) (by omega) (by omega) (by omega)
  rw [Bool.and_eq_true, decide_eq_true_iff, decide_eq_true_iff, e1, e2]
theorem bI_r {b : Bool} {σ' : mG} (h : b = true) : ((some (Value.int (bI b)), σ') : mA mG) = (some (.int 1), σ') := by rw [h]; rfl
theorem bI_s {b : Bool} {σ' : mG} (h : ¬ b = true) : ((some (Value.int (bI b)), σ') : mA mG) = (some (.int 0), σ') := by rw [Bool.not_eq_true] at h; rw [h]; rfl
theorem K48 (hT : okT T) (h : cT (σ.1 1 1) (σ.1 2) T) {p : Nat} (hp : p < 2 ^ 30) : RR X (d + 2) 48 [.ref 1, .int (nI p)] σ (some (.int (bI (dsh T p))), σ) := by
  have hd := dsh_I hT hp
  exact mi_R.of rfl rfl (R48_0 (K39e hT h rfl) (fun z => bI_s (fun y => z (hd.mp y).1)) (fun _ => K39e hT h (nI_1 p)) (fun _ z => bI_s (fun y => z (hd.mp y).2)) (fun z1 z2 => bI_r (hd.mpr ⟨Classical.not_not.mp z1, Classical.not_not.mp z2⟩)))
theorem K142 (hT : okT T) (h : cT (σ.1 38 4) (σ.1 39) T) {p : Nat} (hp : p < 2 ^ 30) : RR X (d + 2) 142 [.ref 38, .int (nI p)] σ (some (.int (bI (dsh T p))), σ) := by
  have hd := dsh_I hT hp
  exact mi_R.of rfl rfl (R142_0 (K141e hT h rfl) (fun z => bI_s (fun y => z (hd.mp y).1)) (fun _ => K141e hT h (nI_1 p)) (fun _ z => bI_s (fun y => z (hd.mp y).2)) (fun z1 z2 => bI_r (hd.mpr ⟨Classical.not_not.mp z1, Classical.not_not.mp z2⟩)))
theorem K144 (hT : okT T) {p : Nat} (hp : p < 2 ^ 31) : RR X (d + 1) 144 [.int (cdA T (nI p))] σ (some (.int (bI (isL (tc T p)))), σ) := by
  have hd := isL_c hT hp
  exact mi_R.of rfl rfl (R144_0 (fun z => bI_s (fun y => (hd.mp y).1 z)) (fun _ z => bI_s (fun y => (hd.mp y).2 z)) (fun z1 z2 => bI_r (hd.mpr ⟨z1, z2⟩)))
theorem oI_if {c : Prop} [Decidable c] {p : Nat} {σ' : mG} (h : c) : ((some (Value.int (oI (if c then some p else none))), σ') : mA mG) = (some (.int (nI p)), σ') := by rw [if_pos h]; rfl
theorem oI_nif {c : Prop} [Decidable c] {p : Nat} {σ' : mG} (h : ¬ c) : ((some (Value.int (oI (if c then some p else none))), σ') : mA mG) = (some (.int (-1)), σ') := by rw [if_neg h]; rfl
theorem L49 (hT : okT T) (h : cT (σ.1 1 1) (σ.1 2) T) {x : Int32} : ∀ p, p < 2 ^ 29 → TT X (d + 2) tb49 (some .int) (4, [some (.ref 1), some (.int x), some (.int (nI p))], [], σ) (some (.int (oI (if tc T (p + nC T p + 2) = 62 then some (p + nC T p + 3) else none))), σ) := by
  have hl := hT.1
  refine rn_ind (P := fun p k => p < 2 ^ 29 → TT X (d + 2) tb49 (some .int) (4, [some (.ref 1), some (.int x), some (.int (nI p))], [], σ) (some (.int (oI (if tc T (p + k + 2) = 62 then some (p + k + 3) else none))), σ)) (fun p hn hp => ?_) (fun p k h1 h2 ih hp => ?_)
  · have hc : cdA T (nI (p + 2)) = 62 ↔ tc T (p + 2) = 62 := cdA_is hT (c := 62) (by omega) (by omega) (by omega)
    have hx : ¬ σ.1 1 1 ≤ nI p → dsh T p = true := fun y => by
      rw [szC h hT (by omega)] at y
      cases hdd : dsh T p
      · exact absurd ⟨by omega, by rw [hdd]; rfl⟩ hn
      · rfl
    refine R49_4 (fun _ => K39e hT h (nI_2 p)) (fun _ z => oI_nif (fun y => z (hc.mpr y))) (fun _ z => ?_) (fun _ => K48 hT h (by omega)) (fun _ _ => K39e hT h (nI_2 p)) (fun _ _ z => oI_nif (fun y => z (hc.mpr y))) (fun _ _ z => ?_) (fun y z => absurd (bI_0.mp (Classical.not_not.mp z)) (by rw [hx y]; decide))
    · rw [oI_if (hc.mp (Classical.not_not.mp z)), nI_3]
    · rw [oI_if (hc.mp (Classical.not_not.mp z)), nI_3]
  · have z1 : ¬ σ.1 1 1 ≤ nI p := by rw [szC h hT (by omega)]; omega
    have z2 : dsh T p = false := by
      cases hdd : dsh T p
      · rfl
      · rw [hdd] at h2
        cases h2
    refine R49_4 (v1 := 0) (σ1 := σ) (v3 := 0) (σ3 := σ) (fun z => absurd z z1) (fun z => absurd z z1) (fun z => absurd z z1) (fun _ => K48 hT h (by omega)) (fun _ z => absurd (bI_0.mpr z2) z) (fun _ z => absurd (bI_0.mpr z2) z) (fun _ z => absurd (bI_0.mpr z2) z) (fun _ _ => ?_)
    rw [nI_1, show p + (k + 1) + 2 = p + 1 + k + 2 by omega, show p + (k + 1) + 3 = p + 1 + k + 3 by omega]
    exact ih (by omega)
theorem K49 (hT : okT T) (h : cT (σ.1 1 1) (σ.1 2) T) {p : Nat} (hp : p < 2 ^ 28) : RR X (d + 3) 49 [.ref 1, .int (nI p)] σ (some (.int (oI (cmS T p))), σ) := by
  refine mi_R.of rfl rfl (R49_0 ?_)
  rw [nI_4]
  exact L49 hT h (p + 4) (by omega)
theorem L150 (hT : okT T) (h : cT (σ.1 38 4) (σ.1 39) T) {x : Int32} : ∀ p, p < 2 ^ 29 → TT X (d + 2) tb150 (some .int) (4, [some (.ref 38), some (.int x), some (.int (nI p))], [], σ) (some (.int (oI (if tc T (p + nC T p + 2) = 62 then some (p + nC T p + 3) else none))), σ) := by
  have hl := hT.1
  refine rn_ind (P := fun p k => p < 2 ^ 29 → TT X (d + 2) tb150 (some .int) (4, [some (.ref 38), some (.int x), some (.int (nI p))], [], σ) (some (.int (oI (if tc T (p + k + 2) = 62 then some (p + k + 3) else none))), σ)) (fun p hn hp => ?_) (fun p k h1 h2 ih hp => ?_)
  · have hc : cdA T (nI (p + 2)) = 62 ↔ tc T (p + 2) = 62 := cdA_is hT (c := 62) (by omega) (by omega) (by omega)
    have hx : ¬ σ.1 38 4 ≤ nI p → dsh T p = true := fun y => by
      rw [szM h hT (by omega)] at y
      cases hdd : dsh T p
      · exact absurd ⟨by omega, by rw [hdd]; rfl⟩ hn
      · rfl
    have hy : σ.1 38 4 ≤ nI p → ¬ tc T (p + 2) = 62 := fun y z => by
      rw [szM h hT (by omega)] at y
      have := tc_is z (by omega)
      omega
    refine R150_4 (fun _ => K141e hT h (nI_2 p)) (fun _ z => oI_nif (fun y => z (hc.mpr y))) (fun y z => absurd (hc.mp (Classical.not_not.mp z)) (hy y)) (fun y z => absurd (hc.mp (Classical.not_not.mp z)) (hy y)) (fun _ => K142 hT h (by omega)) (fun _ _ => K141e hT h (nI_2 p)) (fun _ _ z => oI_nif (fun y => z (hc.mpr y))) (fun y _ _ z => absurd z y) (fun _ _ z _ => ?_) (fun y z => absurd (bI_0.mp (Classical.not_not.mp z)) (by rw [hx y]; decide))
    rw [oI_if (hc.mp (Classical.not_not.mp z)), nI_3]
  · have z1 : ¬ σ.1 38 4 ≤ nI p := by rw [szM h hT (by omega)]; omega
    have z2 : dsh T p = false := by
      cases hdd : dsh T p
      · rfl
      · rw [hdd] at h2
        cases h2
    refine R150_4 (v1 := 0) (σ1 := σ) (v3 := 0) (σ3 := σ) (fun z => absurd z z1) (fun z => absurd z z1) (fun z => absurd z z1) (fun z => absurd z z1) (fun _ => K142 hT h (by omega)) (fun _ z => absurd (bI_0.mpr z2) z) (fun _ z => absurd (bI_0.mpr z2) z) (fun _ z => absurd (bI_0.mpr z2) z) (fun _ z => absurd (bI_0.mpr z2) z) (fun _ _ => ?_)
    rw [nI_1, show p + (k + 1) + 2 = p + 1 + k + 2 by omega, show p + (k + 1) + 3 = p + 1 + k + 3 by omega]
    exact ih (by omega)
theorem K150 (hT : okT T) (h : cT (σ.1 38 4) (σ.1 39) T) {p : Nat} (hp : p < 2 ^ 28) : RR X (d + 3) 150 [.ref 38, .int (nI p)] σ (some (.int (oI (cmS T p))), σ) := by
  refine mi_R.of rfl rfl (R150_0 ?_)
  rw [nI_4]
  exact L150 hT h (p + 4) (by omega)
theorem K80 (hT : okT T) (h : cT (σ.1 1 1) (σ.1 2) T) {p : Nat} (hp : p < 2 ^ 28) : RR X (d + 2) 80 [.ref 16, .int (nI p)] σ (some (.int (oI (nmS T p))), σ) := by
  have hl := hT.1
  have hb : nL T p ≤ 400 := by
    by_cases hz : p ≤ T.length
    · have := rn_le (f := fun q => isL (tc T q)) hz
      unfold nL
      omega
    · unfold nL
      rw [rn_f (by omega)]
      omega
  have e : nI (p + nL T p) - nI p = nI (nL T p) := by
    rw [pk_sub (by omega)]
    congr 1
    omega
  refine mi_R.of rfl rfl (R80_0 (K46 hT h (by omega)) (fun z => ?_) (fun z1 z2 => ?_) (fun z1 z2 => ?_))
  · rw [e] at z
    exact oI_nif (fun y => absurd z (nI_nlt (b := 1) y.1 (by omega)))
  · rw [e] at z2
    exact oI_nif (fun y => absurd z2 (nI_nlt (a := 6) y.2 (by omega)))
  · rw [e] at z1 z2
    refine (oI_if ⟨?_, ?_⟩)
    · exact Nat.not_lt.mp fun y => z1 (nI_lt (b := 1) y (by omega))
    · exact Nat.not_lt.mp fun y => z2 (nI_lt (a := 6) y (by omega))
theorem L83 (hT : okT T) (h : cT (σ.1 1 1) (σ.1 2) T) {x : Int32} : ∀ p, p < 2 ^ 29 → TT X (d + 1) tb83 (some .int) (34, [some (.ref 16), some (.int x), some (.int (nI p))], [], σ) (some (.int (oI (if tc T (p + nV T p) = 34 then some (p + nV T p) else none))), σ) := by
  have hl := hT.1
  refine rn_ind (P := fun p k => p < 2 ^ 29 → TT X (d + 1) tb83 (some .int) (34, [some (.ref 16), some (.int x), some (.int (nI p))], [], σ) (some (.int (oI (if tc T (p + k) = 34 then some (p + k) else none))), σ)) (fun p hn hp => ?_) (fun p k h1 h2 ih hp => ?_)
  · have hc : cdA T (nI p) = 34 ↔ tc T p = 34 := cdA_is hT (c := 34) (by omega) (by omega) (by omega)
    have hc2 : cdA T (nI p) = 60 ↔ tc T p = 60 := cdA_is hT (c := 60) (by omega) (by omega) (by omega)
    have k := K39e (X := X) (d := d) (σ := σ) hT h (x := nI p) rfl
    refine R83_34 (fun _ => k) (fun _ z => oI_nif (fun y => z (hc.mpr y))) (fun _ z => oI_if (hc.mp (Classical.not_not.mp z))) (fun _ => k) (fun _ _ => k) (fun _ _ z => oI_nif (fun y => z (hc.mpr y))) (fun _ _ z => oI_if (hc.mp (Classical.not_not.mp z))) (fun _ _ => k) (fun _ _ _ => k) (fun _ _ _ z => oI_nif (fun y => z (hc.mpr y))) (fun _ _ _ z => oI_if (hc.mp (Classical.not_not.mp z))) (fun y z1 z2 => ?_)
    rw [szC h hT (by omega)] at y
    exact absurd ⟨by omega, by rw [decide_eq_false (fun z => z1 (hc.mpr z)), decide_eq_false (fun z => z2 (hc2.mpr z))]; rfl⟩ hn
  · have hc : cdA T (nI p) = 34 ↔ tc T p = 34 := cdA_is hT (c := 34) (by omega) (by omega) (by omega)
    have hc2 : cdA T (nI p) = 60 ↔ tc T p = 60 := cdA_is hT (c := 60) (by omega) (by omega) (by omega)
    have k1 := K39e (X := X) (d := d) (σ := σ) hT h (x := nI p) rfl
    have z1 : ¬ σ.1 1 1 ≤ nI p := by rw [szC h hT (by omega)]; omega
    have z2 : ¬ cdA T (nI p) = 34 := fun z => by rw [decide_eq_true (hc.mp z)] at h2; cases h2
    have z3 : ¬ cdA T (nI p) = 60 := fun z => by rw [decide_eq_true (hc2.mp z), Bool.or_true] at h2; cases h2
    refine R83_34 (v1 := 0) (σ1 := σ) (v3 := 0) (σ3 := σ) (v5 := 0) (σ5 := σ) (fun z => absurd z z1) (fun z => absurd z z1) (fun z => absurd z z1) (fun _ => k1) (fun _ z => absurd z z2) (fun _ z => absurd z z2) (fun _ z => absurd z z2) (fun _ _ => k1) (fun _ _ z => absurd z z3) (fun _ _ z => absurd z z3) (fun _ _ z => absurd z z3) (fun _ _ _ => ?_)
    rw [nI_1, show p + (k + 1) = p + 1 + k by omega]
    exact ih (by omega)
theorem K83 (hT : okT T) (h : cT (σ.1 1 1) (σ.1 2) T) {p : Nat} (hp : p < 2 ^ 28) : RR X (d + 2) 83 [.ref 16, .int (nI p)] σ (some (.int (oI (cqS T p))), σ) := by
  have hc : cdA T (nI p) = 61 ↔ tc T p = 61 := cdA_is hT (c := 61) (by omega) (by omega) (by omega)
  have hc2 : cdA T (nI (p + 1)) = 34 ↔ tc T (p + 1) = 34 := cdA_is hT (c := 34) (by omega) (by omega) (by omega)
  refine mi_R.of rfl rfl (R83_0 (K39e hT h rfl) (fun z => oI_nif (fun y => z (hc.mpr y.1))) (fun _ => K39e hT h (nI_1 p)) (fun z1 z2 => ?_) (fun _ z => oI_nif (fun y => z (hc2.mpr y.2.1))))
  have h1 := L83 (X := X) (d := d) (σ := σ) hT h (x := nI p) (p + 2) (by omega)
  have e : cqS T p = if tc T (p + 2 + nV T (p + 2)) = 34 then some (p + 2 + nV T (p + 2)) else none := by
    unfold cqS
    have a1 := hc.mp (Classical.not_not.mp z1)
    have a2 := hc2.mp z2
    by_cases hz : tc T (p + 2 + nV T (p + 2)) = 34
    · rw [if_pos hz, if_pos ⟨a1, a2, hz⟩]
    · rw [if_neg hz, if_neg (fun y => hz y.2.2)]
  rw [e, nI_2]
  exact h1
theorem K83n (hT : okT T) (h : cT (σ.1 1 1) (σ.1 2) T) : RR X (d + 2) 83 [.ref 16, .int (-1)] σ (some (.int (-1)), σ) := by
  have k := K39 (X := X) (d := d) (σ := σ) hT h (-1)
  rw [cdA_m] at k
  exact mi_R.of rfl rfl (R83_0 (v2 := 0) (σ2 := σ) k (fun _ => rfl) (fun z => absurd (show ¬ (-1 : Int32) = 61 by decide) z) (fun z => absurd (show ¬ (-1 : Int32) = 61 by decide) z) (fun z => absurd (show ¬ (-1 : Int32) = 61 by decide) z))
end PG
