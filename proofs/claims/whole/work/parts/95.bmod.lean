/-! The reference's methods on a message -/
def cM (T : List Nat) (n : Nat) (E : Nat → mEl) (σ : mG) : Prop := okT T ∧ cT (σ.1 38 4) (σ.1 39) T ∧ gM T n E ∧ rpM T σ n E
def pck (l : List Nat) : Nat := if 60 ∈ l ∨ 8 < l.length then 0 else pk8 l
def msl (T : List Nat) (E : Nat → mEl) (e : Nat) (W : List Nat) : Option Nat := (fdA T (eAs (E e)) (pkp 6 W)).map (fun j => 4 * e + j)
def mv (E : Nat → mEl) (m : Nat) : mAt := gtA (eAs (E (m / 4))) (m % 4)
def vl (T : List Nat) (a : mAt) : List Nat := seg T (a.2.1 + 2) a.2.2
theorem pck_lt {l : List Nat} (h : okC l) : pck l < 2 ^ 63 := by
  unfold pck
  split
  · omega
  · rename_i hc
    exact pk8_63 h (by omega)
theorem pck_0 {l : List Nat} (h : okC l) : pck l = 0 ↔ wrd l = false := by
  unfold pck wrd
  by_cases h1 : 60 ∈ l
  · rw [if_pos (Or.inl h1), decide_eq_false (p := 60 ∉ l) (fun z => z h1), Bool.and_false]
    exact ⟨fun _ => rfl, fun _ => rfl⟩
  · by_cases h2 : 8 < l.length
    · rw [if_pos (Or.inr h2), decide_eq_false (p := l.length ≤ 8) (by omega), Bool.and_false, Bool.false_and]
      exact ⟨fun _ => rfl, fun _ => rfl⟩
    · rw [if_neg (by intro z; rcases z with z | z <;> contradiction), decide_eq_true (p := l.length ≤ 8) (by omega), decide_eq_true h1, Bool.and_true, Bool.and_true]
      cases l with
      | nil => exact ⟨fun _ => rfl, fun _ => rfl⟩
      | cons a l =>
        have hp := pk8_pos h (by intro z; cases z)
        constructor
        · intro z
          omega
        · intro z
          exact absurd z (by rw [decide_eq_true (show 1 ≤ (a :: l).length from Nat.succ_pos _)]; decide)
theorem pck_eq {l m : List Nat} (hl : okC l) (hm : okC m) (h1 : wrd m = true) : pck l = pck m ↔ l = m := by
  constructor
  · intro h
    have m0 : pck m ≠ 0 := fun z => by
      rw [(pck_0 hm).mp z] at h1
      cases h1
    have hw : ∀ {x : List Nat}, pck x ≠ 0 → pck x = pk8 x := by
      intro x hx
      unfold pck at hx ⊢
      split
      · rename_i hc
        rw [if_pos hc] at hx
        exact absurd rfl hx
      · rfl
    have h2 : pk8 l = pk8 m := by
      rw [← hw m0, ← hw (show pck l ≠ 0 by rw [h]; exact m0)]
      exact h
    exact pk8_inj hl hm h2
  · intro h
    rw [h]
section
variable {X : Nat × (Nat → Int32)} {d : Nat} {T : List Nat} {n : Nat} {E : Nat → mEl} {σ : mG}
theorem msl_sx (g : gM T n E) {e : Nat} {W : List Nat} (he : e < n) (hW : okN 6 W) : (msl T E e W = none ∧ sxo T E (some e) W = none) ∨ ∃ m s, msl T E e W = some m ∧ sxo T E (some e) W = some s ∧ sv E s = mv E m ∧ m / 4 = e ∧ m % 4 < (eAs (E e)).length := by
  obtain ⟨-, gas, gsl, g4, -⟩ := g.2.2.1 e he
  cases hf : fdA T (eAs (E e)) (pkp 6 W) with
  | none =>
    left
    refine ⟨by unfold msl; rw [hf]; rfl, ?_⟩
    have hno := fdA_none hf
    cases hs : sxo T E (some e) W with
    | none => rfl
    | some s =>
      obtain ⟨q1, q2⟩ := sxo_ok g (W := W) (oE_some he)
      have q3 := q1 s hs
      obtain ⟨q4, q5⟩ := q2 s hs
      injection q5 with q5
      have hm := (sv_gA g q3).2.2
      rw [← q5] at hm
      exact absurd (by unfold kA; rw [q4]) (hno _ hm)
  | some j =>
    right
    obtain ⟨f1, f2⟩ := fdA_some hf
    have hj4 : j < 4 := by omega
    cases hs : sxo T E (some e) W with
    | none =>
      exfalso
      have hs : (ixF (fun a => decide (seg T a.1 a.2.1 = W)) (eL (E e))).map (fun j => 4 * e + j) = none := hs
      cases hi : ixF (fun a => decide (seg T a.1 a.2.1 = W)) (eL (E e)) with
      | some k => rw [hi] at hs; cases hs
      | none =>
        have := ixF_none hi _ ((gsl.2.1 _).mpr (gtA_mem f1))
        have hne := of_decide_eq_false this
        exact hne (pkp_inj 6 _ _ (gas _ (gtA_mem f1)).1.ok hW f2)
    | some s =>
      obtain ⟨q1, q2⟩ := sxo_ok g (W := W) (oE_some he)
      have q3 := q1 s hs
      obtain ⟨q4, q5⟩ := q2 s hs
      injection q5 with q5
      refine ⟨4 * e + j, s, by unfold msl; rw [hf]; rfl, rfl, ?_, by omega, by rw [show (4 * e + j) % 4 = j by omega]; exact f1⟩
      unfold mv
      rw [show (4 * e + j) / 4 = e by omega, show (4 * e + j) % 4 = j by omega]
      have hm := gtA_mem q3.2
      obtain ⟨k, k1, k2⟩ := mem_gtA ((gsl.2.1 _).mpr (gtA_mem f1))
      rw [← q5] at q3 hm
      have hsv : sv E s = gtA (eL (E e)) (s % 4) := by unfold sv; rw [← q5]
      have ek : kA T (gtA (eL (E e)) (s % 4)) = kA T (gtA (eL (E e)) k) := by
        rw [k2, f2, ← hsv]
        unfold kA
        rw [q4]
      rw [hsv, ← k2]
      rcases Nat.lt_trichotomy (s % 4) k with z | z | z
      · have := pw_gtA gsl.2.2 z k1
        omega
      · rw [z]
      · have := pw_gtA gsl.2.2 z q3.2
        omega
theorem K148m (h : cM T n E σ) {e : Nat} {W : List Nat} (he : e < n) (hW : okN 6 W) : RR X (d + 1) 148 [.ref 38, .int (nI e), .long (lN (pkp 6 W))] σ (some (.int (oI (msl T E e W))), σ) := by
  have hn := h.2.2.1.2.1
  obtain ⟨-, gas, gsl, g4, -⟩ := h.2.2.1.2.2.1 e he
  have := K148 (X := X) (d := d) (h.2.2.2.2 e he).2.2.2.2.2.2.2 g4 (by omega) gas (w := pkp 6 W) (Nat.lt_of_lt_of_le hW.lt (by decide))
  unfold msl
  cases hf : fdA T (eAs (E e)) (pkp 6 W) with
  | none => rw [hf] at this; exact this
  | some j => rw [hf] at this; exact this
theorem msl_31 (h : cM T n E σ) {e : Nat} {W : List Nat} (he : e < n) (hW : okN 6 W) : ∀ m, msl T E e W = some m → m < 2 ^ 31 := by
  intro m hm
  have hn := h.2.2.1.2.1
  rcases msl_sx h.2.2.1 he hW with ⟨z, -⟩ | ⟨m', s, z1, -, -, z2, z3⟩
  · rw [z] at hm
    cases hm
  · rw [z1] at hm
    injection hm with hm
    subst hm
    have := (h.2.2.1.2.2.1 e he).2.2.2.1
    omega
theorem msl_some (h : cM T n E σ) {e : Nat} {W : List Nat} (he : e < n) (hW : okN 6 W) : (msl T E e W).isSome = (sxo T E (some e) W).isSome := by
  rcases msl_sx h.2.2.1 he hW with ⟨z1, z2⟩ | ⟨m', s, z1, z2, -⟩
  · rw [z1, z2]
  · rw [z1, z2]
    rfl
theorem L164 (h : cM T n E σ) {p q : Nat} (hp : p ≤ q) (hq : q ≤ T.length) : ∀ (m k : Nat), k + m = q → p ≤ k → TT X d tb164 (some .long) (8, [some (.ref 38), some (.int (nI p)), some (.int (nI q)), some (.long (lN (pk8 ((seg T p k).take 8)))), none, some (.int (bI (decide (60 ∈ seg T p k)))), some (.int (nI k))], [], σ) (some (.long (lN (pck (seg T p q)))), σ) := by
  have hl := h.1.1
  intro m
  induction m with
  | zero =>
    intro k hk hpk
    have : k = q := by omega
    subst this
    have z : nI k ≤ nI k := nI_le (Nat.le_refl _) (by omega)
    have hlen : (seg T p k).length = k - p := seg_len hq
    have s8 := sub_le (c := 8) hpk (by omega) (by omega)
    apply R164_8
    case k1 =>
      intro _ y
      have := of_decide_eq_true (bI_n0.mp y)
      unfold pck
      rw [if_pos (Or.inl this)]
      rfl
    case k2 =>
      intro _ y1 y2
      have q1 := of_decide_eq_false (bI_0.mp (Decidable.not_not.mp y1))
      have q2 := s8.mp y2
      unfold pck
      rw [if_neg (by intro z; rcases z with z | z; exact q1 z; omega), List.take_of_length_le (by omega)]
    case k3 =>
      intro _ y1 y2
      have q2 : ¬ k - p ≤ 8 := fun q => y2 (s8.mpr q)
      unfold pck
      rw [if_pos (Or.inr (by omega))]
      rfl
    all_goals exact fun y => absurd z y
  | succ m ih =>
    intro k hk hpk
    have z : ¬ nI q ≤ nI k := nI_ge (by omega) (by omega)
    have ht := tc_ok h.1 (show k < T.length by omega)
    have hin : mi_in (nI k) 400 = true := mi_in_nI (by omega) (by omega)
    have ek : σ.1 39 (nI k).toNatClampNeg = nI (tc T k) := tx_M h.1 h.2.1 (by omega)
    have e60 : σ.1 39 (nI k).toNatClampNeg = 60 ↔ tc T k = 60 := by
      rw [ek]
      exact nI_eq (b := 60) (by omega) (by omega)
    have hsn := seg_snoc (T := T) hpk (show k < T.length by omega)
    have hlen : (seg T p k).length = k - p := seg_len (by omega)
    have t := ih (k + 1) (by omega) (by omega)
    rw [hsn] at t
    have e8 : nI p + 8 ≤ nI k ↔ p + 8 ≤ k := by
      rw [show (8 : Int32) = nI 8 from rfl, nI_add]
      exact nI_leI (by omega) (by omega)
    have hlong : p + 8 ≤ k → (seg T p k ++ [tc T k]).take 8 = (seg T p k).take 8 := fun q => List.take_append_of_le_length (by omega)
    have hshort : ¬ p + 8 ≤ k → lN (pk8 ((seg T p k).take 8)) <<< ((8 : Int32).toInt64 &&& 63) ||| (σ.1 39 (nI k).toNatClampNeg).toInt64 = lN (pk8 ((seg T p k ++ [tc T k]).take 8)) := fun q => by
      rw [List.take_of_length_le (by omega), List.take_of_length_le (by rw [List.length_append, hlen]; show _ + 1 ≤ 8; omega), ek, nI_l (by omega), lb_shl (d := 8) (by decide) (by omega), pk8_snoc]
      have hb := pk8_lt (seg T p k) (seg_okC h.1 p k)
      have hb2 : 256 ^ (seg T p k).length ≤ 256 ^ 7 := Nat.pow_le_pow_right (by omega) (by omega)
      exact lb_or (by omega) (by omega)
    have m60 : ∀ b : Bool, decide (60 ∈ seg T p k ++ [tc T k]) = b → bI (decide (60 ∈ seg T p k ++ [tc T k])) = bI b := fun b hb => by rw [hb]
    have dt : (60 ∈ seg T p k ∨ tc T k = 60) → decide (60 ∈ seg T p k ++ [tc T k]) = true := fun q => decide_eq_true (List.mem_append.mpr (q.imp id fun y => by rw [y]; exact List.mem_singleton.mpr rfl))
    have df : ¬ 60 ∈ seg T p k → ¬ tc T k = 60 → decide (60 ∈ seg T p k ++ [tc T k]) = false := fun q1 q2 => decide_eq_false fun y => by
      rcases List.mem_append.mp y with y | y
      · exact q1 y
      · exact q2 (List.mem_singleton.mp y).symm
    apply R164_8
    case k1 => exact fun y => absurd y z
    case k2 => exact fun y => absurd y z
    case k3 => exact fun y => absurd y z
    case b1 => exact fun _ _ _ => hin
    case b2 => exact fun _ _ => hin
    case b3 => exact fun _ _ _ _ => hin
    case b4 => exact fun _ _ _ _ => hin
    case k4 =>
      intro _ y1 y2
      rw [dt (Or.inl (of_decide_eq_true (bI_n0.mp y1))), hlong (e8.mp y2)] at t
      rw [nI_1]
      exact t
    case k5 =>
      intro _ y1 y2
      rw [dt (Or.inl (of_decide_eq_true (bI_n0.mp y1))), ← hshort (fun q => y2 (e8.mpr q))] at t
      rw [nI_1]
      exact t
    case k6 =>
      intro _ y1 y2 y3
      rw [df (of_decide_eq_false (bI_0.mp (Decidable.not_not.mp y1))) (fun q => y2 (e60.mpr q)), hlong (e8.mp y3)] at t
      rw [nI_1]
      exact t
    case k7 =>
      intro _ y1 y2 y3
      rw [df (of_decide_eq_false (bI_0.mp (Decidable.not_not.mp y1))) (fun q => y2 (e60.mpr q)), ← hshort (fun q => y3 (e8.mpr q))] at t
      rw [nI_1]
      exact t
    case k8 =>
      intro _ y1 y2 y3
      rw [dt (Or.inr (e60.mp (Decidable.not_not.mp y2))), hlong (e8.mp y3)] at t
      rw [nI_1]
      exact t
    case k9 =>
      intro _ y1 y2 y3
      rw [dt (Or.inr (e60.mp (Decidable.not_not.mp y2))), ← hshort (fun q => y3 (e8.mpr q))] at t
      rw [nI_1]
      exact t
theorem K164 (h : cM T n E σ) {p q : Nat} (hp : p ≤ q) (hq : q ≤ T.length) : RR X (d + 1) 164 [.ref 38, .int (nI p), .int (nI q)] σ (some (.long (lN (pck (seg T p q)))), σ) := by
  refine mi_R.of rfl rfl (R164_0 ?_)
  have := L164 (X := X) (d := d) h hp hq (q - p) p (by omega) (Nat.le_refl _)
  rw [seg_nil (Nat.le_refl p)] at this
  exact this
theorem K165 (h : cM T n E σ) {e : Nat} (he : e < n) : RR X (d + 2) 165 [.ref 38, .int (nI e)] σ (some (.long (lN (pck (bdy T E (some e))))), σ) := by
  have hn := h.2.2.1.2.1
  have hin : mi_in (nI e) 20 = true := mi_in_nI (by omega) (by omega)
  obtain ⟨b1, b2⟩ := body_le h.2.2.1 (oE_some he)
  obtain ⟨-, -, -, r55, r56, -⟩ := h.2.2.2.2 e he
  refine mi_R.of rfl rfl (R165_0 (v1 := lN (pck (bdy T E (some e)))) (σ1 := σ) hin hin ?_ rfl)
  rw [nI_clamp (by omega), r55, r56]
  exact K164 h b1 b2
theorem mat (h : cM T n E σ) {m : Nat} (h1 : m / 4 < n) (h2 : m % 4 < (eAs (E (m / 4))).length) : m < 80 ∧ σ.1 61 (nI m).toNatClampNeg = nI ((mv E m).2.1 + 2) ∧ σ.1 62 (nI m).toNatClampNeg = nI (mv E m).2.2 ∧ (mv E m).2.1 + 2 ≤ (mv E m).2.2 ∧ (mv E m).2.2 < T.length := by
  have hn := h.2.2.1.2.1
  obtain ⟨-, gas, gsl, g4, -⟩ := h.2.2.1.2.2.1 (m / 4) h1
  obtain ⟨-, e2, e3⟩ := (h.2.2.2.2 (m / 4) h1).2.2.2.2.2.2.2.2 (m % 4) h2
  rw [show 4 * (m / 4) + m % 4 = m by omega] at e2 e3
  have ga := gas _ (gtA_mem h2)
  rw [nI_clamp (by omega)]
  exact ⟨by omega, e2, e3, ga.2.1, ga.2.2⟩
theorem K166 (h : cM T n E σ) {e : Nat} {W : List Nat} (he : e < n) (hW : okN 6 W) : RR X (d + 2) 166 [.ref 38, .int (nI e), .long (lN (pkp 6 W))] σ (some (.long (lN (pck (vlo T E (sxo T E (some e) W))))), σ) := by
  have k := K148m (X := X) (d := d) h he hW
  rcases msl_sx h.2.2.1 he hW with ⟨z1, z2⟩ | ⟨m, s, z1, z2, z3, z4, z5⟩
  · rw [z1] at k
    refine mi_R.of rfl rfl (R166_0 (v2 := 0) (σ2 := σ) k (fun y => absurd y (show ¬ (0 : Int32) ≤ -1 by decide)) (fun y => absurd y (show ¬ (0 : Int32) ≤ -1 by decide)) (fun y => absurd y (show ¬ (0 : Int32) ≤ -1 by decide)) (fun y => absurd y (show ¬ (0 : Int32) ≤ -1 by decide)) (fun _ => ?_))
    rw [z2]
    have : vlo T E none = [] := seg_nil (Nat.le_refl _)
    rw [this]
    rfl
  · rw [z1] at k
    subst z4
    obtain ⟨m1, m2, m3, m4, m5⟩ := mat h he z5
    have hin : mi_in (nI m) 80 = true := mi_in_nI m1 (by omega)
    refine mi_R.of rfl rfl (R166_0 (v2 := lN (pck (vlo T E (sxo T E (some (m / 4)) W)))) (σ2 := σ) k (fun _ => hin) (fun _ => hin) (fun _ => ?_) (fun _ => rfl) (fun y => absurd (nI_pos' (n := m) (by omega)) y))
    show RR X (d + 1) 164 [.ref 38, .int (σ.1 61 (nI m).toNatClampNeg), .int (σ.1 62 (nI m).toNatClampNeg)] σ _
    rw [m2, m3, z2]
    have : vlo T E (some s) = seg T ((mv E m).2.1 + 2) (mv E m).2.2 := by
      show seg T ((sv E s).2.1 + 2) (sv E s).2.2 = _
      rw [z3]
    rw [this]
    exact K164 h m4 (by omega)
theorem L167 (h : cM T n E σ) {s q : Nat} (hs : s < 80) (e62 : σ.1 62 (nI s).toNatClampNeg = nI q) (hq : q ≤ T.length) {x1 : Int32} {y2 : Int64} : ∀ (m p v : Nat) (b : Bool), p + m = q → TT X d tb167 (some .int) (69, [some (.ref 38), some (.int x1), some (.long y2), none, some (.int (nI s)), some (.int (nI v)), some (.int (bI b)), some (.int (nI p))], [], σ) (some (.int (oI (if (b && (seg T p q).all dgt) = true then some (nv v (seg T p q)) else none))), σ) := by
  have hl := h.1.1
  have hin : mi_in (nI s) 80 = true := mi_in_nI hs (by omega)
  intro m
  induction m with
  | zero =>
    intro p v b hp
    have z : σ.1 62 (nI s).toNatClampNeg ≤ nI p := by
      rw [e62]
      exact nI_le (by omega) (by omega)
    apply R167_69
    case b1 => exact hin
    case k1 =>
      intro _ y
      rw [bI_0.mp y]
      rfl
    case k2 =>
      intro _ y
      rw [bI_n0.mp y, seg_nil (by omega)]
      rfl
    all_goals exact fun y => absurd z y
  | succ m ih =>
    intro p v b hp
    have z : ¬ σ.1 62 (nI s).toNatClampNeg ≤ nI p := by
      rw [e62]
      exact nI_ge (by omega) (by omega)
    have hip : mi_in (nI p) 400 = true := mi_in_nI (by omega) (by omega)
    have ep : σ.1 39 (nI p).toNatClampNeg = nI (tc T p) := tx_M h.1 h.2.1 (by omega)
    have ht := tc_hi h.1 p
    have hseg := seg_cons (T := T) (p := p) (q := q) (by omega) hq
    have l48 : σ.1 39 (nI p).toNatClampNeg < 48 ↔ tc T p < 48 := by
      rw [ep]
      exact nI_ltI (b := 48) (by omega) (by omega)
    have l57 : 57 < σ.1 39 (nI p).toNatClampNeg ↔ 57 < tc T p := by
      rw [ep]
      exact nI_ltI (a := 57) (by omega) (by omega)
    have t0 := ih (p + 1) v false (by omega)
    have hf : (b && (seg T p q).all dgt) = false → TT X d tb167 (some .int) (114, [some (.ref 38), some (.int x1), some (.long y2), none, some (.int (nI s)), some (.int (nI v)), some (.int (bI b)), some (.int (nI p))], [], σ) (some (.int (oI (if (b && (seg T p q).all dgt) = true then some (nv v (seg T p q)) else none))), σ) := by
      intro hb
      refine R167_114 (R167_115 (fun _ => R167_143 ?_) (fun y => absurd rfl y) (fun y => absurd rfl y))
      rw [nI_1, hb]
      exact t0
    apply R167_69
    case b1 => exact hin
    case k1 => exact fun y => absurd y z
    case k2 => exact fun y => absurd y z
    case k3 => exact fun _ y => hf (by rw [bI_0.mp y]; rfl)
    case b2 => exact fun _ _ => hip
    case k4 =>
      intro _ _ y
      refine hf ?_
      rw [hseg, List.all_cons, show dgt (tc T p) = false by unfold dgt; rw [decide_eq_false (by have := l48.mp y; omega)]; rfl, Bool.false_and, Bool.and_false]
    case b3 => exact fun _ _ _ => hip
    case k5 =>
      intro _ _ _ y
      refine hf ?_
      rw [hseg, List.all_cons, show dgt (tc T p) = false by unfold dgt; rw [decide_eq_false (p := tc T p ≤ 57) (by have := l57.mp y; omega), Bool.and_false], Bool.false_and, Bool.and_false]
    case k6 =>
      intro _ y0 y1 y2
      have g48 : 48 ≤ tc T p := Nat.not_lt.mp fun q => y1 (l48.mpr q)
      have g57 : tc T p ≤ 57 := Nat.not_lt.mp fun q => y2 (l57.mpr q)
      have t1 := ih (p + 1) (v * 10 + (tc T p - 48)) true (by omega)
      refine R167_115 (fun y => absurd y (by decide)) (fun _ => hip) (fun _ => R167_143 ?_)
      rw [ep, show (10 : Int32) = nI 10 from rfl, pk_mul, nI_add, show (48 : Int32) = nI 48 from rfl, pk_sub (by omega), nI_1, bI_n0.mp y0, hseg, List.all_cons, show dgt (tc T p) = true by unfold dgt; rw [decide_eq_true g48, decide_eq_true g57]; rfl, Bool.true_and, show v * 10 + tc T p - 48 = v * 10 + (tc T p - 48) by omega]
      exact t1
theorem K167 (h : cM T n E σ) {e : Nat} {W : List Nat} (he : e < n) (hW : okN 6 W) : RR X (d + 2) 167 [.ref 38, .int (nI e), .long (lN (pkp 6 W))] σ (some (.int (oI (num (vlo T E (sxo T E (some e) W))))), σ) := by
  have hl := h.1.1
  have k := K148m (X := X) (d := d) h he hW
  rcases msl_sx h.2.2.1 he hW with ⟨z1, z2⟩ | ⟨m, s, z1, z2, z3, z4, z5⟩
  · rw [z1] at k
    have zn : oI none < 0 := show (-1 : Int32) < 0 by decide
    refine mi_R.of rfl rfl (R167_0 k (fun _ => ?_) (fun y => absurd zn y) (fun y => absurd zn y) (fun y => absurd zn y) (fun y => absurd zn y) (fun y => absurd zn y) (fun y => absurd zn y) (fun y => absurd zn y) (fun y => absurd zn y))
    rw [z2]
    have : vlo T E none = [] := seg_nil (Nat.le_refl _)
    rw [this]
    rfl
  · rw [z1] at k
    subst z4
    obtain ⟨m1, m2, m3, m4, m5⟩ := mat h he z5
    have hin : mi_in (oI (some m)) 80 = true := mi_in_nI (j := m) m1 (by omega)
    have zn : ¬ oI (some m) < 0 := nI_pos (n := m) (by omega)
    have m2 : σ.1 61 (oI (some m)).toNatClampNeg = nI ((mv E m).2.1 + 2) := m2
    have m3 : σ.1 62 (oI (some m)).toNatClampNeg = nI (mv E m).2.2 := m3
    have s1 : σ.1 62 (oI (some m)).toNatClampNeg - σ.1 61 (oI (some m)).toNatClampNeg < 1 ↔ (mv E m).2.2 - ((mv E m).2.1 + 2) < 1 := by
      rw [m2, m3]
      exact sub_lt1 m4 (by omega)
    have s9 : σ.1 62 (oI (some m)).toNatClampNeg - σ.1 61 (oI (some m)).toNatClampNeg ≤ 9 ↔ (mv E m).2.2 - ((mv E m).2.1 + 2) ≤ 9 := by
      rw [m2, m3]
      exact sub_le (c := 9) m4 (by omega) (by omega)
    have hv : vlo T E (sxo T E (some (m / 4)) W) = seg T ((mv E m).2.1 + 2) (mv E m).2.2 := by
      rw [z2]
      show seg T ((sv E s).2.1 + 2) (sv E s).2.2 = _
      rw [z3]
    have hlen : (seg T ((mv E m).2.1 + 2) (mv E m).2.2).length = (mv E m).2.2 - ((mv E m).2.1 + 2) := seg_len (by omega)
    rw [hv]
    refine mi_R.of rfl rfl (R167_0 k (fun y => absurd y zn) (fun _ => hin) (fun _ => hin) (fun _ y => ?_) (fun _ _ => hin) (fun _ _ => hin) (fun _ _ _ => hin) (fun _ y1 y2 => ?_) (fun _ y1 y2 => ?_))
    · unfold num
      rw [if_neg fun q => by have := s1.mp y; omega]
      rfl
    · have t := L167 (X := X) (d := d + 1) h m1 m3 (by omega) (x1 := nI (m / 4)) (y2 := lN (pkp 6 W)) ((mv E m).2.2 - ((mv E m).2.1 + 2)) ((mv E m).2.1 + 2) 0 true (by omega)
      have e : num (seg T ((mv E m).2.1 + 2) (mv E m).2.2) = if (true && (seg T ((mv E m).2.1 + 2) (mv E m).2.2).all dgt) = true then some (nv 0 (seg T ((mv E m).2.1 + 2) (mv E m).2.2)) else none := by
        unfold num
        have q1 : ¬ (mv E m).2.2 - ((mv E m).2.1 + 2) < 1 := fun q => y1 (s1.mpr q)
        have q2 := s9.mp y2
        rw [Bool.true_and]
        by_cases hd : (seg T ((mv E m).2.1 + 2) (mv E m).2.2).all dgt = true
        · rw [if_pos ⟨by omega, by omega, hd⟩, if_pos hd]
        · rw [if_neg fun q => hd q.2.2, if_neg hd]
      rw [e, m2]
      exact t
    · unfold num
      rw [if_neg fun q => y2 (s9.mpr (by omega))]
      rfl
theorem seg_drop {p q i : Nat} : seg T (p + i) q = (seg T p q).drop i := by
  unfold seg
  rw [List.drop_take, List.drop_drop]
  congr 1
  omega
theorem L168 (h : cM T n E σ) {s s' p q p' : Nat} (hs : s < 80) (hs' : s' < 80) (e1 : σ.1 61 (nI s).toNatClampNeg = nI p) (e2 : σ.1 61 (nI s').toNatClampNeg = nI p') (hq : p + q ≤ T.length) (hq' : p' + q ≤ T.length) : ∀ (m i : Nat), i + m = q → TT X d tb168 (some .boolean) (41, [some (.ref 38), some (.int (nI s)), some (.int (nI s')), some (.int (nI q)), some (.int 1), some (.int (nI i))], [], σ) (some (.int (bI (decide (seg T (p + i) (p + q) = seg T (p' + i) (p' + q))))), σ) := by
  have hl := h.1.1
  have hin : mi_in (nI s) 80 = true := mi_in_nI hs (by omega)
  have hin' : mi_in (nI s') 80 = true := mi_in_nI hs' (by omega)
  have n1 : ¬ (1 : Int32) = 0 := by decide
  intro m
  induction m with
  | zero =>
    intro i hi
    have z : nI q ≤ nI i := nI_le (by omega) (by omega)
    apply R168_41
    case k1 =>
      intro _
      rw [seg_nil (by omega), seg_nil (by omega)]
      rfl
    case b1 => exact fun _ => Or.inr rfl
    all_goals exact fun y => absurd z y
  | succ m ih =>
    intro i hi
    have z : ¬ nI q ≤ nI i := nI_ge (by omega) (by omega)
    have a1 : σ.1 39 (σ.1 61 (nI s).toNatClampNeg + nI i).toNatClampNeg = nI (tc T (p + i)) := by
      rw [e1, nI_add]
      exact tx_M h.1 h.2.1 (by omega)
    have a2 : σ.1 39 (σ.1 61 (nI s').toNatClampNeg + nI i).toNatClampNeg = nI (tc T (p' + i)) := by
      rw [e2, nI_add]
      exact tx_M h.1 h.2.1 (by omega)
    have ht := tc_hi h.1 (p + i)
    have ht' := tc_hi h.1 (p' + i)
    have sg1 := seg_cons (T := T) (p := p + i) (q := p + q) (by omega) hq
    have sg2 := seg_cons (T := T) (p := p' + i) (q := p' + q) (by omega) hq'
    have eqc : nI (tc T (p + i)) = nI (tc T (p' + i)) ↔ tc T (p + i) = tc T (p' + i) := nI_eq (by omega) (by omega)
    apply R168_41
    case k1 => exact fun y => absurd y z
    case b1 => exact fun y => absurd y z
    case k2 => exact fun _ y => absurd y n1
    case b2 => exact fun _ y => absurd y n1
    case b3 => exact fun _ _ => hin
    case b4 =>
      intro _ _
      rw [e1, nI_add]
      exact mi_in_nI (by omega) (by omega)
    case b5 => exact fun _ _ => hin'
    case b6 =>
      intro _ _
      rw [e2, nI_add]
      exact mi_in_nI (by omega) (by omega)
    case k3 =>
      intro _ _ y
      rw [a1, a2] at y
      have hne : ¬ seg T (p + i) (p + q) = seg T (p' + i) (p' + q) := by
        rw [sg1, sg2]
        exact fun w => y (eqc.mpr (List.cons.inj w).1)
      rw [decide_eq_false hne]
      apply R168_41
      case k1 => exact fun _ => rfl
      case b1 => exact fun _ => Or.inl rfl
      case k2 => exact fun _ _ => rfl
      case b2 => exact fun _ _ => Or.inl rfl
      all_goals exact fun _ y => absurd rfl y
    case k4 =>
      intro _ _ y
      rw [a1, a2] at y
      have he := eqc.mp (Decidable.not_not.mp y)
      have t := ih (i + 1) (by omega)
      have : decide (seg T (p + i) (p + q) = seg T (p' + i) (p' + q)) = decide (seg T (p + (i + 1)) (p + q) = seg T (p' + (i + 1)) (p' + q)) := by
        rw [sg1, sg2, he]
        exact decide_eq_decide.mpr ⟨fun w => (List.cons.inj w).2, fun w => by rw [show p + i + 1 = p + (i + 1) by omega, show p' + i + 1 = p' + (i + 1) by omega, w]⟩
      rw [this, nI_1]
      exact t
theorem K168 (h : cM T n E σ) {m m' : Nat} (h1 : m / 4 < n) (h2 : m % 4 < (eAs (E (m / 4))).length) (h1' : m' / 4 < n) (h2' : m' % 4 < (eAs (E (m' / 4))).length) : RR X (d + 1) 168 [.ref 38, .int (nI m), .int (nI m')] σ (some (.int (bI (decide (vl T (mv E m) = vl T (mv E m'))))), σ) := by
  have hl := h.1.1
  obtain ⟨a1, a2, a3, a4, a5⟩ := mat h h1 h2
  obtain ⟨b1, b2, b3, b4, b5⟩ := mat h h1' h2'
  have hin : mi_in (nI m) 80 = true := mi_in_nI a1 (by omega)
  have hin' : mi_in (nI m') 80 = true := mi_in_nI b1 (by omega)
  have hlen : (vl T (mv E m)).length = (mv E m).2.2 - ((mv E m).2.1 + 2) := seg_len (by omega)
  have hlen' : (vl T (mv E m')).length = (mv E m').2.2 - ((mv E m').2.1 + 2) := seg_len (by omega)
  refine mi_R.of rfl rfl (R168_0 hin hin hin' hin' (fun y => ?_) (fun y => ?_))
  · rw [a2, a3, b2, b3, pk_sub a4, pk_sub b4, nI_eq (by omega) (by omega)] at y
    rw [decide_eq_false fun w => y (by rw [← hlen, ← hlen', w])]
    apply R168_41
    case k1 => exact fun _ => rfl
    case b1 => exact fun _ => Or.inl rfl
    case k2 => exact fun _ _ => rfl
    case b2 => exact fun _ _ => Or.inl rfl
    all_goals exact fun _ y => absurd rfl y
  · have y := Decidable.not_not.mp y
    rw [a2, a3, b2, b3, pk_sub a4, pk_sub b4, nI_eq (by omega) (by omega)] at y
    have t := L168 (X := X) (d := d) h (p := (mv E m).2.1 + 2) (p' := (mv E m').2.1 + 2) (q := (mv E m).2.2 - ((mv E m).2.1 + 2)) a1 b1 a2 b2 (by omega) (by omega) ((mv E m).2.2 - ((mv E m).2.1 + 2)) 0 (by omega)
    rw [show (mv E m).2.1 + 2 + ((mv E m).2.2 - ((mv E m).2.1 + 2)) = (mv E m).2.2 by omega, show (mv E m').2.1 + 2 + ((mv E m).2.2 - ((mv E m).2.1 + 2)) = (mv E m').2.2 by omega] at t
    rw [a2, a3, pk_sub a4]
    exact t
theorem nm_I (h : cM T n E σ) {c : Nat} {W : List Nat} (hc : c < n) (hW : okN 6 W) : lg_cmp (σ.2 52 (nI c).toNatClampNeg) (lN (pkp 6 W)) = 0 ↔ nmL T (E c) = W := by
  have hn := h.2.2.1.2.1
  have gn := (h.2.2.1.2.2.1 c hc).1.ok
  rw [nI_clamp (by omega), (h.2.2.2.2 c hc).1, lg_cmp_eq, pk_lEQ (Nat.lt_of_lt_of_le gn.lt (by decide)) (Nat.lt_of_lt_of_le hW.lt (by decide))]
  exact ⟨fun z => pkp_inj 6 _ _ gn hW z, fun z => by unfold nmL at z; rw [z]⟩
theorem pr_I (h : cM T n E σ) {e c : Nat} (he : e < n) (hc : c < n) : σ.1 53 (nI c).toNatClampNeg = nI e ↔ ePar (E c) = some e := by
  have hn := h.2.2.1.2.1
  rw [nI_clamp (by omega), (h.2.2.2.2 c hc).2.1]
  exact oI_eq (fun i hi => by have := (h.2.2.1.2.2.1 c hc).2.2.2.2.1 i hi; omega) (by omega)
theorem L169 (h : cM T n E σ) {e : Nat} {W : List Nat} (he : e < n) (hW : okN 6 W) : ∀ (m j : Nat), j + m = n → TT X d tb169 (some .int) (6, [some (.ref 38), some (.int (nI e)), some (.long (lN (pkp 6 W))), none, some (.int (nI (cnt (ch T E e W) j))), some (.int (nI j))], [], σ) (some (.int (nI (cnt (ch T E e W) n))), σ) := by
  have hn := h.2.2.1.2.1
  intro m
  induction m with
  | zero =>
    intro j hj
    have hj : j = n := by omega
    subst hj
    have z : σ.1 38 22 ≤ nI j := by
      rw [h.2.2.2.1]
      exact nI_le (Nat.le_refl _) (by omega)
    exact R169_6 (fun _ => rfl) (fun y => absurd z y) (fun y => absurd z y) (fun y => absurd z y) (fun y => absurd z y) (fun y => absurd z y)
  | succ m ih =>
    intro j hj
    have z : ¬ σ.1 38 22 ≤ nI j := by
      rw [h.2.2.2.1]
      exact nI_ge (by omega) (by omega)
    have hin : mi_in (nI j) 20 = true := mi_in_nI (by omega) (by omega)
    have hp := pr_I h he (show j < n by omega)
    have hm := nm_I h (show j < n by omega) hW
    have t := ih (j + 1) (by omega)
    have n0 : ∀ x : Nat, nI x + 0 = nI x := fun x => nI_add x 0
    refine R169_6 (fun y => absurd y z) (fun _ => hin) (fun _ y => ?_) (fun _ _ => hin) (fun _ y1 y2 => ?_) (fun _ y1 y2 => ?_)
    · rw [cnt_f (ch_f1 fun q => y (hp.mpr q))] at t
      rw [n0, nI_1]
      exact t
    · rw [cnt_f ((ch_2 (hp.mp (Decidable.not_not.mp y1))).trans (decide_eq_false fun q => y2 (hm.mpr q)))] at t
      rw [n0, nI_1]
      exact t
    · rw [cnt_t ((ch_2 (hp.mp (Decidable.not_not.mp y1))).trans (decide_eq_true (hm.mp (Decidable.not_not.mp y2))))] at t
      rw [nI_1, nI_1]
      exact t
theorem K169 (h : cM T n E σ) {e : Nat} {W : List Nat} (he : e < n) (hW : okN 6 W) : RR X (d + 1) 169 [.ref 38, .int (nI e), .long (lN (pkp 6 W))] σ (some (.int (nI (ccN T n E (some e) W))), σ) := mi_R.of rfl rfl (R169_0 (L169 h he hW n 0 (by omega)))
theorem fs_mono {f : Nat → Bool} {j c : Nat} (h : fs f j = some c) : ∀ m, fs f (j + m) = some c := by
  intro m
  induction m with
  | zero => exact h
  | succ m ih => exact fs_s ih
theorem L170 (h : cM T n E σ) {e : Nat} {W : List Nat} (he : e < n) (hW : okN 6 W) : ∀ (m j : Nat), j + m = n → fs (ch T E e W) j = none → TT X d tb170 (some .int) (3, [some (.ref 38), some (.int (nI e)), some (.long (lN (pkp 6 W))), none, some (.int (nI j))], [], σ) (some (.int (oI (fs (ch T E e W) n))), σ) := by
  have hn := h.2.2.1.2.1
  intro m
  induction m with
  | zero =>
    intro j hj hf
    have hj : j = n := by omega
    subst hj
    have z : σ.1 38 22 ≤ nI j := by
      rw [h.2.2.2.1]
      exact nI_le (Nat.le_refl _) (by omega)
    refine R170_3 (fun _ => ?_) (fun y => absurd z y) (fun y => absurd z y) (fun y => absurd z y) (fun y => absurd z y) (fun y => absurd z y)
    rw [hf]
    rfl
  | succ m ih =>
    intro j hj hf
    have z : ¬ σ.1 38 22 ≤ nI j := by
      rw [h.2.2.2.1]
      exact nI_ge (by omega) (by omega)
    have hin : mi_in (nI j) 20 = true := mi_in_nI (by omega) (by omega)
    have hp := pr_I h he (show j < n by omega)
    have hm := nm_I h (show j < n by omega) hW
    have go : ch T E e W j = false → TT X d tb170 (some .int) (3, [some (.ref 38), some (.int (nI e)), some (.long (lN (pkp 6 W))), none, some (.int (nI j + 1))], [], σ) (some (.int (oI (fs (ch T E e W) n))), σ) := fun q => by
      rw [nI_1]
      refine ih (j + 1) (by omega) ?_
      rw [fs_n hf, q]
      rfl
    refine R170_3 (fun y => absurd y z) (fun _ => hin) (fun _ y => ?_) (fun _ _ => hin) (fun _ y1 y2 => ?_) (fun _ y1 y2 => ?_)
    · exact go (ch_f1 fun q => y (hp.mpr q))
    · exact go ((ch_2 (hp.mp (Decidable.not_not.mp y1))).trans (decide_eq_false fun q => y2 (hm.mpr q)))
    · have q : ch T E e W j = true := (ch_2 (hp.mp (Decidable.not_not.mp y1))).trans (decide_eq_true (hm.mp (Decidable.not_not.mp y2)))
      have f1 : fs (ch T E e W) (j + 1) = some j := by
        rw [fs_n hf, q]
        rfl
      have := fs_mono f1 m
      rw [show j + 1 + m = n by omega] at this
      rw [this]
      rfl
theorem K170 (h : cM T n E σ) {e : Nat} {W : List Nat} (he : e < n) (hW : okN 6 W) : RR X (d + 1) 170 [.ref 38, .int (nI e), .long (lN (pkp 6 W))] σ (some (.int (oI (fs (ch T E e W) n))), σ) := mi_R.of rfl rfl (R170_0 (L170 h he hW n 0 (by omega) rfl))
theorem one_fs {e : Nat} {W : List Nat} (h1 : ccN T n E (some e) W = 1) : one T n E (some e) W = fs (ch T E e W) n := by
  unfold one
  rw [if_pos h1]
  exact (cnt1 n h1).symm
theorem one_some {e c : Nat} {W : List Nat} (h1 : one T n E (some e) W = some c) : ccN T n E (some e) W = 1 ∧ fs (ch T E e W) n = some c ∧ c < n := by
  unfold one at h1
  split at h1
  · rename_i hc
    have : ls (ch T E e W) n = some c := h1
    exact ⟨hc, (cnt1 n hc).trans this, (ls_ok this).1⟩
  · cases h1
theorem one_ex {e : Nat} {W : List Nat} (h1 : ccN T n E (some e) W = 1) : ∃ c, one T n E (some e) W = some c := by
  cases hh : one T n E (some e) W with
  | some c => exact ⟨c, rfl⟩
  | none =>
    rw [one_fs h1] at hh
    have := (cnt0_fs n).mpr hh
    have h1 : cnt (ch T E e W) n = 1 := h1
    omega
theorem one_none {o : Option Nat} {W : List Nat} (h1 : ¬ ccN T n E o W = 1) : one T n E o W = none := by
  unfold one
  rw [if_neg h1]
theorem ccN_31 (h : cM T n E σ) {o : Option Nat} {W : List Nat} : ccN T n E o W < 2 ^ 31 := by
  have hn := h.2.2.1.2.1
  cases o with
  | none => show 0 < _; omega
  | some e =>
    have := cnt_le (ch T E e W) n
    show cnt (ch T E e W) n < _
    omega
theorem w0 {l : List Nat} (h : okC l) : lg_cmp (lN (pck l)) 0 = 0 ↔ wrd l = false := by
  rw [lg_cmp_eq, show (0 : Int64) = lN 0 from rfl, pk_lEQ (pck_lt h) (by omega)]
  exact pck_0 h
theorem K171 (h : cM T n E σ) {e : Nat} {W : List Nat} (he : e < n) (hW : okN 6 W) : RR X (d + 3) 171 [.ref 38, .int (nI e), .long (lN (pkp 6 W))] σ (some (.int (bI (wrd (bdy T E (one T n E (some e) W))))), σ) := by
  have e1 : nI (ccN T n E (some e) W) = 1 ↔ ccN T n E (some e) W = 1 := nI_eq (b := 1) (ccN_31 h) (by omega)
  by_cases h1 : ccN T n E (some e) W = 1
  · obtain ⟨c, hc⟩ := one_ex h1
    obtain ⟨-, c2, c3⟩ := one_some hc
    have k := K170 (X := X) (d := d + 1) h he hW
    rw [c2] at k
    have hw := w0 (seg_okC h.1 (pF E (some c)) (pT' E (some c)))
    rw [hc]
    refine mi_R.of rfl rfl (R171_0 (v3 := lN (pck (bdy T E (some c)))) (σ3 := σ) (K169 h he hW) (fun y => absurd (e1.mpr h1) y) (fun _ => k) (fun _ => K165 h c3) (fun _ y => bI_s ?_) (fun _ y => bI_r ?_))
    · rw [show wrd (bdy T E (some c)) = false from hw.mp y]
      decide
    · cases hh : wrd (bdy T E (some c)) with
      | true => rfl
      | false => exact absurd (hw.mpr hh) y
  · refine mi_R.of rfl rfl (R171_0 (v2 := 0) (σ2 := σ) (v3 := 0) (σ3 := σ) (K169 h he hW) (fun _ => ?_) (fun y => absurd (fun q => h1 (e1.mp q)) y) (fun y => absurd (fun q => h1 (e1.mp q)) y) (fun y => absurd (fun q => h1 (e1.mp q)) y) (fun y => absurd (fun q => h1 (e1.mp q)) y))
    rw [one_none h1]
    have : bdy T E none = [] := seg_nil (Nat.le_refl _)
    rw [this]
    rfl
theorem K172 (h : cM T n E σ) {e : Nat} (he : e < n) : RR X (d + 3) 172 [.ref 38, .int (nI e)] σ (some (.int (bI (ssg T n E (some e)))), σ) := by
  have hn := h.2.2.1.2.1
  have oS : okN 6 sigL := ⟨by decide, by decide⟩
  have oR : okN 6 wRef := ⟨by decide, by decide⟩
  have oV : okN 6 wV := ⟨by decide, by decide⟩
  have k170 := K170 (X := X) (d := d + 1) h he oS
  have k169 := K169 (X := X) (d := d + 1) h he oS
  have e1 : nI (ccN T n E (some e) sigL) = 1 ↔ ccN T n E (some e) sigL = 1 := nI_eq (b := 1) (ccN_31 h) (by omega)
  cases hf : fs (ch T E e sigL) n with
  | none =>
    rw [hf] at k170
    have zn : oI none < 0 := show (-1 : Int32) < 0 by decide
    refine mi_R.of rfl rfl (R172_0 (v2 := 0) (σ2 := σ) (v3 := 0) (σ3 := σ) (v4 := 0) (σ4 := σ) k170 (fun _ => ?_) (fun y => absurd zn y) (fun y => absurd zn y) (fun y => absurd zn y) (fun y => absurd zn y) (fun y => absurd zn y) (fun y => absurd zn y) (fun y => absurd zn y))
    unfold ssg
    rw [decide_eq_true (show ccN T n E (some e) sigL = 0 from (cnt0_fs n).mpr hf)]
    rfl
  | some c =>
    rw [hf] at k170
    have hc := (fs_ok hf).1
    have zn : ¬ oI (some c) < 0 := nI_pos (n := c) (by omega)
    have h0 : ¬ ccN T n E (some e) sigL = 0 := fun q => by
      rw [(cnt0_fs n).mp q] at hf
      cases hf
    by_cases h1 : ccN T n E (some e) sigL = 1
    · have hL : ccL T n E (some e) sigL = some c := (cnt1 n h1).symm.trans hf
      have k148 := K148m (X := X) (d := d + 1) h hc oR
      have k167 := K167 (X := X) (d := d) h hc oV
      have eS : ssg T n E (some e) = ((sxo T E (some c) wRef).isSome && (num (vlo T E (sxo T E (some c) wV))).isSome) := by
        unfold ssg
        rw [decide_eq_false h0, decide_eq_true h1, hL]
        rfl
      have er := oI_neg (msl_31 h hc oR)
      have ev := oI_neg (num_31 (l := vlo T E (sxo T E (some c) wV)))
      have hms := msl_some h hc oR
      rw [eS]
      refine mi_R.of rfl rfl (R172_0 k170 (fun y => absurd y zn) (fun _ => k169) (fun _ y => absurd (e1.mpr h1) y) (fun _ _ => k148) (fun _ _ y => ?_) (fun _ _ _ => k167) (fun _ _ _ y => ?_) (fun _ _ y1 y2 => ?_))
      · rw [← hms, er.mp y]
        rfl
      · rw [ev.mp y, show (none : Option Nat).isSome = false from rfl, Bool.and_false]
        rfl
      · have q1 : (sxo T E (some c) wRef).isSome = true := by
          rw [← hms]
          cases hh : msl T E c wRef with
          | none => exact absurd (er.mpr hh) y1
          | some m => rfl
        have q2 : (num (vlo T E (sxo T E (some c) wV))).isSome = true := by
          cases hh : num (vlo T E (sxo T E (some c) wV)) with
          | none => exact absurd (ev.mpr hh) y2
          | some m => rfl
        rw [q1, q2]
        rfl
    · refine mi_R.of rfl rfl (R172_0 (v3 := 0) (σ3 := σ) (v4 := 0) (σ4 := σ) k170 (fun y => absurd y zn) (fun _ => k169) (fun _ _ => ?_) (fun _ y => absurd (fun q => h1 (e1.mp q)) y) (fun _ y => absurd (fun q => h1 (e1.mp q)) y) (fun _ y => absurd (fun q => h1 (e1.mp q)) y) (fun _ y => absurd (fun q => h1 (e1.mp q)) y) (fun _ y => absurd (fun q => h1 (e1.mp q)) y))
      unfold ssg
      rw [decide_eq_false h0, decide_eq_false h1]
      rfl
theorem vlo_mv {s m : Nat} (h : sv E s = mv E m) : vlo T E (some s) = vl T (mv E m) := by
  show seg T ((sv E s).2.1 + 2) (sv E s).2.2 = _
  rw [h]
  rfl
theorem L173 (h : cM T n E σ) : ∀ (m e : Nat) (u3 u4 u5 : Option Value), e + m = n → TT X (d + 2) tb173 (some .boolean) (4, [some (.ref 38), some (.int (bI (an (fun e => an (fun o => same' T E (sxo T E (some e) wID) (sxo T E (some o) wID)) e) e))), some (.int (nI e)), u3, u4, u5], [], σ) (some (.int (bI (rep T n E))), σ) := by
  have hn := h.2.2.1.2.1
  have oD : okN 6 wID := ⟨by decide, by decide⟩
  intro m
  induction m with
  | zero =>
    intro e u3 u4 u5 he
    have : e = n := by omega
    subst this
    have z : σ.1 38 22 ≤ nI e := by
      rw [h.2.2.2.1]
      exact nI_le (Nat.le_refl _) (by omega)
    exact R173_4 (fun _ => rfl) (fun _ => bI_01 _) (fun y => absurd z y)
  | succ m ih =>
    intro e u3 u4 u5 he
    have z : ¬ σ.1 38 22 ≤ nI e := by
      rw [h.2.2.2.1]
      exact nI_ge (by omega) (by omega)
    refine R173_4 (fun y => absurd y z) (fun y => absurd y z) (fun _ => ?_)
    have k1 := K148m (X := X) (d := d + 1) h (show e < n by omega) oD
    have inner : ∀ (k o : Nat) (u4 u5 : Option Value), o + k = e → TT X (d + 2) tb173 (some .boolean) (14, [some (.ref 38), some (.int (bI (an (fun e => an (fun o => same' T E (sxo T E (some e) wID) (sxo T E (some o) wID)) e) e || an (fun o => same' T E (sxo T E (some e) wID) (sxo T E (some o) wID)) o))), some (.int (nI e)), some (.int (nI o)), u4, u5], [], σ) (some (.int (bI (rep T n E))), σ) := by
      intro k
      induction k with
      | zero =>
        intro o u4 u5 ho
        have : o = e := by omega
        subst this
        have zz : nI o ≤ nI o := nI_le (Nat.le_refl _) (by omega)
        refine R173_14 (v1 := 0) (σ1 := σ) (v2 := 0) (σ2 := σ) (v3 := 0) (σ3 := σ) (fun _ => ?_) (fun y => absurd zz y) (fun y => absurd zz y) (fun y => absurd zz y) (fun y => absurd zz y) (fun y => absurd zz y) (fun y => absurd zz y) (fun y => absurd zz y) (fun y => absurd zz y)
        rw [nI_1]
        exact ih (o + 1) _ _ _ (by omega)
      | succ k ihk =>
        intro o u4 u5 ho
        have zz : ¬ nI e ≤ nI o := nI_ge (by omega) (by omega)
        have k2 := K148m (X := X) (d := d + 1) h (show o < n by omega) oD
        have er := oI_neg (msl_31 h (show e < n by omega) oD)
        have er' := oI_neg (msl_31 h (show o < n by omega) oD)
        have t := ihk (o + 1) (some (.int (oI (msl T E e wID)))) (some (.int (oI (msl T E o wID)))) (by omega)
        have step : ∀ b : Bool, (an (fun e => an (fun o => same' T E (sxo T E (some e) wID) (sxo T E (some o) wID)) e) e || an (fun o => same' T E (sxo T E (some e) wID) (sxo T E (some o) wID)) (o + 1)) = b → TT X (d + 2) tb173 (some .boolean) (14, [some (.ref 38), some (.int (bI b)), some (.int (nI e)), some (.int (nI o + 1)), some (.int (oI (msl T E e wID))), some (.int (oI (msl T E o wID)))], [], σ) (some (.int (bI (rep T n E))), σ) := fun b hb => by
          rw [← hb, nI_1]
          exact t
        have hs : an (fun o => same' T E (sxo T E (some e) wID) (sxo T E (some o) wID)) (o + 1) = (an (fun o => same' T E (sxo T E (some e) wID) (sxo T E (some o) wID)) o || same' T E (sxo T E (some e) wID) (sxo T E (some o) wID)) := rfl
        rcases msl_sx h.2.2.1 (show e < n by omega) oD with ⟨a1, a2⟩ | ⟨m1, s1, a1, a2, a3, a4, a5⟩
        · have sf : same' T E (sxo T E (some e) wID) (sxo T E (some o) wID) = false := by
            unfold same'
            rw [a2]
            rfl
          refine R173_14 (v3 := 0) (σ3 := σ) (fun y => absurd y zz) (fun _ => k1) (fun _ => k2) (fun _ y => step true ?_) (fun _ y _ => step false ?_) (fun _ _ y => absurd (er.mpr a1) y) (fun _ _ y => absurd (er.mpr a1) y) (fun _ _ y => absurd (er.mpr a1) y) (fun _ _ y => absurd (er.mpr a1) y)
          · rw [hs, ← Bool.or_assoc, bI_n0.mp y, Bool.true_or]
          · rw [hs, ← Bool.or_assoc, bI_0.mp (Decidable.not_not.mp y), sf]
            rfl
        · rcases msl_sx h.2.2.1 (show o < n by omega) oD with ⟨b1, b2⟩ | ⟨m2, s2, b1, b2, b3, b4, b5⟩
          · have sf : same' T E (sxo T E (some e) wID) (sxo T E (some o) wID) = false := by
              unfold same'
              rw [b2, show (none : Option Nat).isSome = false from rfl, Bool.false_and, Bool.and_false]
            refine R173_14 (v3 := 0) (σ3 := σ) (fun y => absurd y zz) (fun _ => k1) (fun _ => k2) (fun _ y => step true ?_) (fun _ y1 y2 => ?_) (fun _ y _ _ => step false ?_) (fun _ _ _ y => absurd (er'.mpr b1) y) (fun _ _ _ y => absurd (er'.mpr b1) y) (fun _ _ _ y => absurd (er'.mpr b1) y)
            · rw [hs, ← Bool.or_assoc, bI_n0.mp y, Bool.true_or]
            · rw [er.mp y2] at a1
              cases a1
            · rw [hs, ← Bool.or_assoc, bI_0.mp (Decidable.not_not.mp y), sf]
              rfl
          · have sd : same' T E (sxo T E (some e) wID) (sxo T E (some o) wID) = decide (vl T (mv E m1) = vl T (mv E m2)) := by
              unfold same'
              rw [a2, b2, vlo_mv a3, vlo_mv b3]
              rfl
            have k3 := K168 (X := X) (d := d + 1) h (m := m1) (m' := m2) (by omega) (by rw [a4]; exact a5) (by omega) (by rw [b4]; exact b5)
            rw [← sd] at k3
            refine R173_14 (v3 := bI (same' T E (sxo T E (some e) wID) (sxo T E (some o) wID))) (σ3 := σ) (fun y => absurd y zz) (fun _ => k1) (fun _ => k2) (fun _ y => step true ?_) (fun _ y1 y2 => ?_) (fun _ y1 _ y2 => ?_) (fun _ _ _ _ => ?_) (fun _ y1 _ _ y2 => step false ?_) (fun _ y1 _ _ y2 => step true ?_)
            · rw [hs, ← Bool.or_assoc, bI_n0.mp y, Bool.true_or]
            · rw [er.mp y2] at a1
              cases a1
            · rw [er'.mp y2] at b1
              cases b1
            · rw [a1, b1]
              exact k3
            · rw [hs, ← Bool.or_assoc, bI_0.mp (Decidable.not_not.mp y1), bI_0.mp y2]
              rfl
            · rw [hs, ← Bool.or_assoc, bI_n0.mp y2, Bool.or_true]
    have := inner e 0 u4 u5 (by omega)
    rw [show an (fun o => same' T E (sxo T E (some e) wID) (sxo T E (some o) wID)) 0 = false from rfl, Bool.or_false] at this
    exact this
theorem K173 (h : cM T n E σ) : RR X (d + 3) 173 [.ref 38] σ (some (.int (bI (rep T n E))), σ) := mi_R.of rfl rfl (R173_0 (L173 h n 0 none none none (by omega)))
end
