/-! The reference's names and attributes -/
def fW (σ σ' : mG) : Prop := (∀ c, c ≠ 38 → σ'.1 c = σ.1 c ∧ σ'.2 c = σ.2 c) ∧ ∀ k, k ≠ 35 → σ'.1 38 k = σ.1 38 k
theorem fW.rfl' {σ : mG} : fW σ σ := ⟨fun _ _ => ⟨rfl, rfl⟩, fun _ _ => rfl⟩
theorem fW.tr {σ σ1 σ2 : mG} (h : fW σ σ1) (g : fW σ1 σ2) : fW σ σ2 := ⟨fun c hc => ⟨(g.1 c hc).1.trans (h.1 c hc).1, (g.1 c hc).2.trans (h.1 c hc).2⟩, fun k hk => (g.2 k hk).trans (h.2 k hk)⟩
theorem fW.cT {σ σ' : mG} {T : List Nat} (h : fW σ σ') (g : cT (σ.1 38 4) (σ.1 39) T) : cT (σ'.1 38 4) (σ'.1 39) T := by
  rw [(h.1 39 (by omega)).1, h.2 4 (by omega)]
  exact g
/-- word and letters written -/
def wW (σ : mG) (x : Int32) (y : Int64) : mG := (mi_uc σ.1 38 (upd (σ.1 38) 35 x), mi_uc σ.2 38 (vp_updL (σ.2 38) 34 y))
theorem wW_fW {σ : mG} {x : Int32} {y : Int64} : fW σ (wW σ x y) := by
  refine ⟨fun c hc => ⟨?_, ?_⟩, fun k hk => ?_⟩
  · show mi_uc σ.1 38 _ c = _
    rw [mi_uc_ne _ _ hc]
  · show mi_uc σ.2 38 _ c = _
    rw [mi_uc_ne _ _ hc]
  · exact mi_upd_ne _ _ hk
def wL (σ : mG) (y : Int64) : mG := (σ.1, mi_uc σ.2 38 (vp_updL (σ.2 38) 34 y))
theorem wL_fW {σ : mG} {y : Int64} : fW σ (wL σ y) := by
  refine ⟨fun c hc => ⟨rfl, ?_⟩, fun k hk => rfl⟩
  show mi_uc σ.2 38 _ c = _
  rw [mi_uc_ne _ _ hc]
theorem pk8_acc : ∀ (l : List Nat) (r : Nat), l.foldl (fun r c => r * 256 + c) r = r * 256 ^ l.length + pk8 l := by
  intro l
  induction l with
  | nil => intro r; simp [pk8]
  | cons a l ih =>
    intro r
    show l.foldl (fun r c => r * 256 + c) (r * 256 + a) = r * 256 ^ (l.length + 1) + l.foldl (fun r c => r * 256 + c) (0 * 256 + a)
    rw [ih, ih, Nat.zero_mul, Nat.zero_add, Nat.add_mul, Nat.pow_succ, Nat.mul_assoc, Nat.mul_comm 256 (256 ^ l.length), Nat.add_assoc]
theorem pk8_cons (a : Nat) (l : List Nat) : pk8 (a :: l) = a * 256 ^ l.length + pk8 l := by
  show l.foldl (fun r c => r * 256 + c) (0 * 256 + a) = _
  rw [pk8_acc, Nat.zero_mul, Nat.zero_add]
theorem pkp_pk8 : ∀ (k : Nat) (l : List Nat), l.length ≤ k → pk8 l * 256 ^ (k - l.length) = pkp k l := by
  intro k
  induction k with
  | zero =>
    intro l hl
    rw [List.eq_nil_of_length_eq_zero (Nat.le_zero.mp hl)]
    rfl
  | succ k ih =>
    intro l hl
    cases l with
    | nil =>
      show pk8 [] * _ = 0
      have : pk8 [] = 0 := rfl
      rw [this, Nat.zero_mul]
    | cons a l =>
      have hl : l.length ≤ k := Nat.le_of_succ_le_succ hl
      show pk8 (a :: l) * 256 ^ (k + 1 - (l.length + 1)) = a * 256 ^ k + pkp k l
      rw [pk8_cons, Nat.add_sub_add_right, Nat.add_mul, ih l hl, Nat.mul_assoc, ← Nat.pow_add, show l.length + (k - l.length) = k by omega]
theorem pk8_48 {l : List Nat} (h : okC l) (hl : l.length ≤ 6) : pk8 l < 2 ^ 48 := by
  have h1 := pk8_lt l h
  have h2 : 256 ^ l.length ≤ 256 ^ 6 := Nat.pow_le_pow_right (by decide) hl
  have h3 : (256 : Nat) ^ 6 = 2 ^ 48 := by decide
  omega
theorem key_lt {T : List Nat} {p q : Nat} (h : gN T p q) : pkp 6 (seg T p q) < 2 ^ 48 := by
  have := h.ok.lt
  have h3 : (256 : Nat) ^ 6 = 2 ^ 48 := by decide
  omega
section MN
variable {X : Nat × (Nat → Int32)} {d : Nat} {T : List Nat}
theorem L145b {x1 x2 : Int32} : ∀ (i j : Nat) (σ : mG) (w : Nat), i + j = 6 → σ.2 38 34 = lN w → ∃ σ', TT X d tb145 (some .int) (97, [some (.ref 38), some (.int x1), some (.int x2), some (.int (nI j))], [], σ) (some (.int x2), σ') ∧ fW σ σ' ∧ σ'.2 38 34 = lN (w * 256 ^ i) := by
  intro i
  induction i with
  | zero =>
    intro j σ w hj hw
    have z : (6 : Int32) ≤ nI j := nI_le (a := 6) (by omega) (by omega)
    exact ⟨σ, R145_97 (fun _ => rfl) (fun y => absurd z y), fW.rfl', by rw [hw, Nat.pow_zero, Nat.mul_one]⟩
  | succ i ih =>
    intro j σ w hj hw
    have z : ¬ (6 : Int32) ≤ nI j := nI_ge (b := 6) (by omega) (by omega)
    obtain ⟨σ', t1, t2, t3⟩ := ih (j + 1) (wL σ (lN (w * 256))) (w * 256) (by omega) (show vp_updL (σ.2 38) 34 _ 34 = _ from mi_updL_same _ _ _)
    refine ⟨σ', R145_97 (fun y => absurd y z) (fun _ => ?_), wL_fW.tr t2, by rw [t3, Nat.pow_succ, Nat.mul_assoc, Nat.mul_comm 256]⟩
    rw [nI_1, hw, lb_shl (d := 8) (by decide) (by decide)]
    exact t1
theorem L145 (hT : okT T) {p0 : Nat} {x1 : Int32} : ∀ p, p < 2 ^ 29 → ∀ (j : Nat) (σ : mG), p = p0 + j → σ.1 38 35 = nI j → (j ≤ 6 → σ.2 38 34 = lN (pk8 (seg T p0 p))) → cT (σ.1 38 4) (σ.1 39) T → ∃ σ', TT X (d + 1) tb145 (some .int) (12, [some (.ref 38), some (.int x1), some (.int (nI p)), none], [], σ) (some (.int (oI (if 1 ≤ j + nL T p ∧ j + nL T p ≤ 6 then some (p + nL T p) else none))), σ') ∧ fW σ σ' ∧ (1 ≤ j + nL T p ∧ j + nL T p ≤ 6 → p + nL T p ≤ T.length → σ'.2 38 34 = lN (pkp 6 (seg T p0 (p + nL T p)))) := by
  have hl := hT.1
  refine rn_ind (P := fun p k => p < 2 ^ 29 → ∀ (j : Nat) (σ : mG), p = p0 + j → σ.1 38 35 = nI j → (j ≤ 6 → σ.2 38 34 = lN (pk8 (seg T p0 p))) → cT (σ.1 38 4) (σ.1 39) T → ∃ σ', TT X (d + 1) tb145 (some .int) (12, [some (.ref 38), some (.int x1), some (.int (nI p)), none], [], σ) (some (.int (oI (if 1 ≤ j + k ∧ j + k ≤ 6 then some (p + k) else none))), σ') ∧ fW σ σ' ∧ (1 ≤ j + k ∧ j + k ≤ 6 → p + k ≤ T.length → σ'.2 38 34 = lN (pkp 6 (seg T p0 (p + k))))) (fun p hn hp j σ hj h35 hw hc => ?_) (fun p k h1 h2 ih hp j σ hj h35 hw hc => ?_)
  · have k141 := K141e (X := X) (d := d) (σ := σ) hT hc (x := nI p) rfl
    have k144 := K144 (X := X) (d := d) (σ := σ) hT (p := p) (by omega)
    have hL : isL (tc T p) = false := by
      cases hb : isL (tc T p)
      · rfl
      · have := isL_iff.mp hb
        exact absurd ⟨tc_lt (by omega), hb⟩ hn
    rw [hL] at k144
    by_cases hj1 : 1 ≤ j
    · have z1 : ¬ σ.1 38 35 < 1 := by rw [h35]; exact nI_nlt (b := 1) hj1 (by omega)
      by_cases hj6 : j ≤ 6
      · have z6 : σ.1 38 35 ≤ 6 := by rw [h35]; exact nI_le (b := 6) hj6 (by omega)
        obtain ⟨σ', t1, t2, t3⟩ := L145b (X := X) (d := d + 1) (x1 := x1) (x2 := nI p) (6 - j) j σ (pk8 (seg T p0 p)) (by omega) (hw hj6)
        refine ⟨σ', R145_12 (v3 := 0) (σ3 := σ) k141 k144 (fun _ z => absurd z z1) (fun _ _ _ => ?_) (fun _ _ z => absurd z6 z) (fun z => absurd (show bI false = 0 from rfl) z) (fun z => absurd (show bI false = 0 from rfl) z) (fun z => absurd (show bI false = 0 from rfl) z), t2, fun _ hle => ?_⟩
        · rw [if_pos ⟨by omega, by omega⟩, h35]
          exact t1
        · rw [t3, Nat.add_zero, ← pkp_pk8 6 _ (by rw [seg_len (by omega)]; omega), seg_len (by omega), show p - p0 = j by omega]
      · have z6 : ¬ σ.1 38 35 ≤ 6 := by rw [h35]; exact nI_ge (a := 6) (by omega) (by omega)
        refine ⟨σ, R145_12 (v3 := 0) (σ3 := σ) k141 k144 (fun _ z => absurd z z1) (fun _ _ z => absurd z z6) (fun _ _ _ => ?_) (fun z => absurd (show bI false = 0 from rfl) z) (fun z => absurd (show bI false = 0 from rfl) z) (fun z => absurd (show bI false = 0 from rfl) z), fW.rfl', fun z => absurd z.2 (by omega)⟩
        rw [if_neg (fun z => absurd z.2 (by omega))]
        rfl
    · have z1 : σ.1 38 35 < 1 := by rw [h35]; exact nI_lt (b := 1) (by omega) (by omega)
      refine ⟨σ, R145_12 (v3 := 0) (σ3 := σ) k141 k144 (fun _ _ => ?_) (fun _ z => absurd z1 z) (fun _ z => absurd z1 z) (fun z => absurd (show bI false = 0 from rfl) z) (fun z => absurd (show bI false = 0 from rfl) z) (fun z => absurd (show bI false = 0 from rfl) z), fW.rfl', fun z => absurd z.1 (by omega)⟩
      rw [if_neg (fun z => absurd z.1 (by omega))]
      rfl
  · have k141 := K141e (X := X) (d := d) (σ := σ) hT hc (x := nI p) rfl
    have k144 := K144 (X := X) (d := d) (σ := σ) hT (p := p) (by omega)
    have h2 : isL (tc T p) = true := h2
    rw [h2] at k144
    have b1 : ¬ bI true = 0 := by decide
    have e1 : ∀ r : Nat, p + (k + 1) = p + 1 + k := fun _ => by omega
    rw [show j + (k + 1) = j + 1 + k by omega, show p + (k + 1) = p + 1 + k by omega]
    by_cases hj6 : 6 ≤ j
    · have z6 : (6 : Int32) ≤ σ.1 38 35 := by rw [h35]; exact nI_le (a := 6) hj6 (by omega)
      obtain ⟨σ', t1, t2, t3⟩ := ih (by omega) (j + 1) (wW σ (nI (j + 1)) (σ.2 38 34)) (by omega) (show upd (σ.1 38) 35 _ 35 = _ from mi_upd_same _ _ _) (fun z => by omega) (wW_fW.cT hc)
      refine ⟨σ', R145_12 (v3 := 0) (σ3 := σ) k141 k144 (fun z => absurd z b1) (fun z => absurd z b1) (fun z => absurd z b1) (fun _ _ => ?_) (fun _ z => absurd z6 z) (fun _ z => absurd z6 z), wW_fW.tr t2, t3⟩
      rw [h35, nI_1, nI_1]
      exact t1
    · have z6 : ¬ (6 : Int32) ≤ σ.1 38 35 := by rw [h35]; exact nI_ge (b := 6) (by omega) (by omega)
      have hb := tc_hi hT p
      have hwb := pk8_48 (seg_okC hT p0 p) (by rw [seg_len (by omega)]; omega)
      have ew : lN (pk8 (seg T p0 p)) <<< ((8 : Int32).toInt64 &&& 63) ||| (cdA T (nI p)).toInt64 = lN (pk8 (seg T p0 (p + 1))) := by
        rw [lb_shl (d := 8) (by decide) (by decide), cdA_in hT h1, nI_l (by omega), seg_snoc (by omega) h1, pk8_snoc]
        exact lb_or (by omega) (by omega)
      obtain ⟨σ', t1, t2, t3⟩ := ih (by omega) (j + 1) (wW σ (nI (j + 1)) (lN (pk8 (seg T p0 (p + 1))))) (by omega) (show upd (σ.1 38) 35 _ 35 = _ from mi_upd_same _ _ _) (fun z => show vp_updL (σ.2 38) 34 _ 34 = _ from mi_updL_same _ _ _) (wW_fW.cT hc)
      refine ⟨σ', R145_12 k141 k144 (fun z => absurd z b1) (fun z => absurd z b1) (fun z => absurd z b1) (fun _ z => absurd z z6) (fun _ _ => k141) (fun _ _ => ?_), wW_fW.tr t2, t3⟩
      rw [h35, nI_1, nI_1, hw (by omega), ew]
      exact t1
theorem K145 (hT : okT T) {σ : mG} (hc : cT (σ.1 38 4) (σ.1 39) T) {p : Nat} (hp : p < 2 ^ 28) : ∃ σ', RR X (d + 2) 145 [.ref 38, .int (nI p)] σ (some (.int (oI (nmS T p))), σ') ∧ fW σ σ' ∧ ∀ m, nmS T p = some m → σ'.2 38 34 = lN (pkp 6 (seg T p m)) := by
  obtain ⟨σ', t1, t2, t3⟩ := L145 (X := X) (d := d) hT (p0 := p) (x1 := nI p) p (by omega) 0 (wW σ 0 0) rfl (show upd (σ.1 38) 35 _ 35 = _ from mi_upd_same _ _ _) (fun _ => by
    show vp_updL (σ.2 38) 34 _ 34 = _
    rw [mi_updL_same, seg_nil (Nat.le_refl _)]
    rfl) (wW_fW.cT hc)
  rw [Nat.zero_add] at t1 t3
  refine ⟨σ', mi_R.of rfl rfl (R145_0 t1), wW_fW.tr t2, fun m hm => ?_⟩
  have gm := nmS_gN hm
  unfold nmS at hm
  split at hm
  · rename_i hcc
    injection hm with hm
    subst hm
    exact t3 hcc gm.2.2.1
  · cases hm
/-- element i's attributes in the reference's rows -/
def atM (T : List Nat) (σ : mG) (i : Nat) (as : List mAt) : Prop := σ.1 59 i = nI as.length ∧ ∀ j, j < as.length → σ.2 60 (4 * i + j) = lN (kA T (gtA as j)) ∧ σ.1 61 (4 * i + j) = nI ((gtA as j).2.1 + 2) ∧ σ.1 62 (4 * i + j) = nI (gtA as j).2.2
/-- the last of k attributes from j on with this key -/
def fdL (T : List Nat) (as : List mAt) (w : Nat) : Nat → Nat → Option Nat → Option Nat
  | 0, _, b => b
  | k + 1, j, b => fdL T as w k (j + 1) (if kA T (gtA as j) = w then some j else b)
def fdA (T : List Nat) (as : List mAt) (w : Nat) : Option Nat := fdL T as w as.length 0 none
theorem fdL_some {as : List mAt} {w : Nat} : ∀ (k j : Nat) (b : Option Nat), j + k = as.length → (∀ x, b = some x → x < as.length ∧ kA T (gtA as x) = w) → ∀ x, fdL T as w k j b = some x → x < as.length ∧ kA T (gtA as x) = w := by
  intro k
  induction k with
  | zero => intro j b _ hb; exact hb
  | succ k ih =>
    intro j b hj hb
    refine ih (j + 1) _ (by omega) (fun x hx => ?_)
    split at hx
    · rename_i hc
      injection hx with hx
      subst hx
      exact ⟨by omega, hc⟩
    · exact hb x hx
theorem fdL_none {as : List mAt} {w : Nat} : ∀ (k j : Nat) (b : Option Nat), j + k = as.length → fdL T as w k j b = none → b = none ∧ ∀ x, j ≤ x → x < as.length → kA T (gtA as x) ≠ w := by
  intro k
  induction k with
  | zero => intro j b hj hb; exact ⟨hb, fun x h1 h2 => by omega⟩
  | succ k ih =>
    intro j b hj hb
    obtain ⟨h1, h2⟩ := ih (j + 1) _ (by omega) hb
    split at h1
    · cases h1
    · rename_i hc
      refine ⟨h1, fun x g1 g2 => ?_⟩
      by_cases hz : x = j
      · subst hz
        exact hc
      · exact h2 x (by omega) g2
theorem fdA_some {as : List mAt} {w x : Nat} (h : fdA T as w = some x) : x < as.length ∧ kA T (gtA as x) = w := fdL_some as.length 0 none (by omega) (fun _ h => by cases h) x h
theorem fdA_none {as : List mAt} {w : Nat} (h : fdA T as w = none) : ∀ a ∈ as, kA T a ≠ w := fun a ha => by
  obtain ⟨j, hj, rfl⟩ := mem_gtA ha
  exact (fdL_none as.length 0 none (by omega) h).2 j (Nat.zero_le _) hj
def o4 (i : Nat) : Option Nat → Int32
  | none => -1
  | some j => nI (4 * i + j)
theorem L148 {σ : mG} {i : Nat} {as : List mAt} {w : Nat} (ha : atM T σ i as) (h4 : as.length ≤ 4) (hi : i < 20) (hg : ∀ a ∈ as, gA T a) (hw : w < 2 ^ 63) : ∀ (k j : Nat) (b : Option Nat), j + k = as.length → TT X d tb148 (some .int) (8, [some (.ref 38), some (.int (nI i)), some (.long (lN w)), none, some (.int (o4 i b)), some (.int (nI (4 * i + j)))], [], σ) (some (.int (o4 i (fdL T as w k j b))), σ) := by
  have cl : (nI i).toNatClampNeg = i := nI_clamp (by omega)
  have hin : mi_in (nI i) 20 = true := mi_in_nI hi (by omega)
  have e4 : (4 : Int32) * nI i + σ.1 59 (nI i).toNatClampNeg = nI (4 * i + as.length) := by
    rw [cl, ha.1, show (4 : Int32) = nI 4 from rfl, pk_mul, nI_add]
  intro k
  induction k with
  | zero =>
    intro j b hj
    have z : (4 : Int32) * nI i + σ.1 59 (nI i).toNatClampNeg ≤ nI (4 * i + j) := by rw [e4]; exact nI_le (by omega) (by omega)
    exact R148_8 hin (fun _ => rfl) (fun y => absurd z y) (fun y => absurd z y) (fun y => absurd z y)
  | succ k ih =>
    intro j b hj
    have z : ¬ (4 : Int32) * nI i + σ.1 59 (nI i).toNatClampNeg ≤ nI (4 * i + j) := by rw [e4]; exact nI_ge (by omega) (by omega)
    have hk : lg_cmp (σ.2 60 (nI (4 * i + j)).toNatClampNeg) (lN w) = 0 ↔ kA T (gtA as j) = w := by
      rw [nI_clamp (by omega), (ha.2 j (by omega)).1, lg_cmp_eq]
      have := key_lt (hg _ (gtA_mem (show j < as.length by omega))).1
      exact pk_lEQ (by unfold kA; omega) hw
    refine R148_8 hin (fun y => absurd y z) (fun _ => mi_in_nI (by omega) (by omega)) (fun _ y => ?_) (fun _ y => ?_)
    · have := ih (j + 1) b (by omega)
      show TT X d tb148 (some .int) _ (some (.int (o4 i (fdL T as w k (j + 1) (if kA T (gtA as j) = w then some j else b)))), σ)
      rw [if_neg (fun q => y (hk.mpr q)), nI_1]
      exact this
    · have := ih (j + 1) (some j) (by omega)
      show TT X d tb148 (some .int) _ (some (.int (o4 i (fdL T as w k (j + 1) (if kA T (gtA as j) = w then some j else b)))), σ)
      rw [if_pos (hk.mp (Classical.not_not.mp y)), nI_1]
      exact this
theorem K148 {σ : mG} {i : Nat} {as : List mAt} {w : Nat} (ha : atM T σ i as) (h4 : as.length ≤ 4) (hi : i < 20) (hg : ∀ a ∈ as, gA T a) (hw : w < 2 ^ 63) : RR X (d + 1) 148 [.ref 38, .int (nI i), .long (lN w)] σ (some (.int (o4 i (fdA T as w))), σ) := by
  refine mi_R.of rfl rfl (R148_0 ?_)
  rw [show (4 : Int32) = nI 4 from rfl, pk_mul]
  exact L148 ha h4 hi hg hw as.length 0 none (by omega)
def fB (i : Nat) (σ σ' : mG) : Prop := (∀ c, c ≠ 38 → c < 59 ∨ 62 < c → σ'.1 c = σ.1 c ∧ σ'.2 c = σ.2 c) ∧ (∀ k, k ≠ 35 → σ'.1 38 k = σ.1 38 k) ∧ (∀ k, k ≠ i → σ'.1 59 k = σ.1 59 k) ∧ ∀ k, k < 4 * i ∨ 4 * i + 4 ≤ k → σ'.2 60 k = σ.2 60 k ∧ σ'.1 61 k = σ.1 61 k ∧ σ'.1 62 k = σ.1 62 k
theorem fW.fB {i : Nat} {σ σ' : mG} (h : fW σ σ') : fB i σ σ' := by
  refine ⟨fun c hc _ => h.1 c hc, h.2, fun k _ => ?_, fun k _ => ⟨?_, ?_, ?_⟩⟩
  · rw [(h.1 59 (by omega)).1]
  · rw [(h.1 60 (by omega)).2]
  · rw [(h.1 61 (by omega)).1]
  · rw [(h.1 62 (by omega)).1]
theorem fB.tr {i : Nat} {σ σ1 σ2 : mG} (h : fB i σ σ1) (g : fB i σ1 σ2) : fB i σ σ2 :=
  ⟨fun c h1 h2 => ⟨(g.1 c h1 h2).1.trans (h.1 c h1 h2).1, (g.1 c h1 h2).2.trans (h.1 c h1 h2).2⟩, fun k hk => (g.2.1 k hk).trans (h.2.1 k hk), fun k hk => (g.2.2.1 k hk).trans (h.2.2.1 k hk), fun k hk => ⟨(g.2.2.2 k hk).1.trans (h.2.2.2 k hk).1, (g.2.2.2 k hk).2.1.trans (h.2.2.2 k hk).2.1, (g.2.2.2 k hk).2.2.trans (h.2.2.2 k hk).2.2⟩⟩
theorem fB.cT {i : Nat} {σ σ' : mG} (h : fB i σ σ') (g : cT (σ.1 38 4) (σ.1 39) T) : cT (σ'.1 38 4) (σ'.1 39) T := by
  rw [(h.1 39 (by omega) (by omega)).1, h.2.1 4 (by omega)]
  exact g
theorem fW.atM {σ σ' : mG} {i : Nat} {as : List mAt} (h : fW σ σ') (g : atM T σ i as) : atM T σ' i as := by
  refine ⟨by rw [(h.1 59 (by omega)).1]; exact g.1, fun j hj => ?_⟩
  rw [(h.1 60 (by omega)).2, (h.1 61 (by omega)).1, (h.1 62 (by omega)).1]
  exact g.2 j hj
def atrS (T : List Nat) (p : Nat) (as : List mAt) : Option mAt := if nS T p = 0 then none else match vlS T (p + nS T p) with
  | none => none
  | some a => if as.length < 4 ∧ ∀ b ∈ as, kA T b ≠ kA T a then some a else none
theorem L147 (hT : okT T) {σ : mG} {r : mA mG} (hc : cT (σ.1 38 4) (σ.1 39) T) {x1 x2 x3 x4 : Int32} : ∀ p, p < 2 ^ 29 → TT X d tb147 (some .int) (126, [some (.ref 38), some (.int x1), some (.int x2), some (.int x3), some (.int x4), some (.int (nI (p + nV T p)))], [], σ) r → TT X d tb147 (some .int) (87, [some (.ref 38), some (.int x1), some (.int x2), some (.int x3), some (.int x4), some (.int (nI p))], [], σ) r := by
  have hl := hT.1
  refine rn_ind (P := fun p k => p < 2 ^ 29 → TT X d tb147 (some .int) (126, [some (.ref 38), some (.int x1), some (.int x2), some (.int x3), some (.int x4), some (.int (nI (p + k)))], [], σ) r → TT X d tb147 (some .int) (87, [some (.ref 38), some (.int x1), some (.int x2), some (.int x3), some (.int x4), some (.int (nI p))], [], σ) r) (fun p hn hp kk => ?_) (fun p k h1 h2 ih hp kk => ?_)
  · have hsz := szM hc hT (p := p) (by omega)
    have hx : ¬ σ.1 38 4 ≤ nI p → p < T.length ∧ mi_in (nI p) 400 = true ∧ σ.1 39 (nI p).toNatClampNeg = nI (tc T p) := fun y => by
      rw [hsz] at y
      exact ⟨by omega, mi_in_nI (by omega) (by omega), by rw [nI_clamp (by omega)]; exact hc.2 p (by omega)⟩
    refine R147_87 (fun _ => kk) (fun y => (hx y).2.1) (fun _ _ => kk) (fun y _ => (hx y).2.1) (fun _ _ _ => kk) (fun y z1 z2 => ?_)
    obtain ⟨x1, x2, x3⟩ := hx y
    rw [x3] at z1 z2
    have hb := tc_hi hT p
    exact absurd ⟨x1, by rw [decide_eq_false (fun z => z1 (by rw [z]; rfl)), decide_eq_false (fun z => z2 (by rw [z]; rfl))]; rfl⟩ hn
  · have hsz := szM hc hT (p := p) (by omega)
    have y : ¬ σ.1 38 4 ≤ nI p := by rw [hsz]; omega
    have hin : mi_in (nI p) 400 = true := mi_in_nI (by omega) (by omega)
    have x3 : σ.1 39 (nI p).toNatClampNeg = nI (tc T p) := by rw [nI_clamp (by omega)]; exact hc.2 p h1
    have hb := tc_hi hT p
    have c34 : ¬ σ.1 39 (nI p).toNatClampNeg = 34 := fun z => by
      rw [x3] at z
      have := (nI_eq (b := 34) (by omega) (by omega)).mp z
      rw [decide_eq_true this] at h2
      cases h2
    have c60 : ¬ σ.1 39 (nI p).toNatClampNeg = 60 := fun z => by
      rw [x3] at z
      have := (nI_eq (b := 60) (by omega) (by omega)).mp z
      rw [decide_eq_true this, Bool.or_true] at h2
      cases h2
    refine R147_87 (fun z => absurd z y) (fun _ => hin) (fun _ z => absurd z c34) (fun _ _ => hin) (fun _ _ z => absurd z c60) (fun _ _ _ => ?_)
    rw [nI_1]
    refine ih (by omega) ?_
    rw [show p + 1 + k = p + (k + 1) by omega]
    exact kk
/-- one attribute more in the reference's rows -/
def kpM (σ : mG) (i k : Nat) (x y : Int32) : mG := (mi_uc (mi_uc (mi_uc σ.1 61 (upd (σ.1 61) k x)) 62 (upd (σ.1 62) k y)) 59 (upd (σ.1 59) i (σ.1 59 i + 1)), mi_uc σ.2 60 (vp_updL (σ.2 60) k (σ.2 38 34)))
theorem kpM_fB {i k : Nat} {σ : mG} {x y : Int32} (h : 4 * i ≤ k) (h2 : k < 4 * i + 4) : fB i σ (kpM σ i k x y) := by
  refine ⟨fun c hc h3 => ⟨?_, ?_⟩, fun _ _ => rfl, fun j hj => mi_upd_ne _ _ hj, fun j hj => ⟨mi_updL_ne _ _ (by omega), mi_upd_ne _ _ (by omega), mi_upd_ne _ _ (by omega)⟩⟩
  · show mi_uc (mi_uc (mi_uc σ.1 61 _) 62 _) 59 _ c = _
    rw [mi_uc_ne _ _ (by omega), mi_uc_ne _ _ (by omega), mi_uc_ne _ _ (by omega)]
  · show mi_uc σ.2 60 _ c = _
    rw [mi_uc_ne _ _ (by omega)]
theorem gtA_snoc {as : List mAt} {a : mAt} {j : Nat} (h : j < as.length) : gtA (as ++ [a]) j = gtA as j := by
  unfold gtA
  rw [List.getD_eq_getElem?_getD, List.getD_eq_getElem?_getD, List.getElem?_append_left h]
theorem gtA_last {as : List mAt} {a : mAt} : gtA (as ++ [a]) as.length = a := by
  unfold gtA
  rw [List.getD_eq_getElem?_getD, List.getElem?_append_right (Nat.le_refl _), Nat.sub_self]
  rfl
theorem kpM_at {σ : mG} {i : Nat} {as : List mAt} {a : mAt} (h : atM T σ i as) (hw : σ.2 38 34 = lN (kA T a)) : atM T (kpM σ i (4 * i + as.length) (nI (a.2.1 + 2)) (nI a.2.2)) i (as ++ [a]) := by
  refine ⟨?_, fun j hj => ?_⟩
  · show upd (σ.1 59) i (σ.1 59 i + 1) i = _
    rw [mi_upd_same, h.1, nI_1, List.length_append, List.length_singleton]
  · rw [List.length_append, List.length_singleton] at hj
    show vp_updL (σ.2 60) (4 * i + as.length) (σ.2 38 34) (4 * i + j) = _ ∧ upd (σ.1 61) (4 * i + as.length) (nI (a.2.1 + 2)) (4 * i + j) = _ ∧ upd (σ.1 62) (4 * i + as.length) (nI a.2.2) (4 * i + j) = _
    by_cases hz : j = as.length
    · subst hz
      rw [mi_updL_same, mi_upd_same, mi_upd_same, gtA_last, hw]
      exact ⟨rfl, rfl, rfl⟩
    · rw [mi_updL_ne _ _ (by omega), mi_upd_ne _ _ (by omega), mi_upd_ne _ _ (by omega), gtA_snoc (by omega)]
      exact h.2 j (by omega)
end MN
