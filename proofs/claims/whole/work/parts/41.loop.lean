/-! The law's loop, its calls being given: printed by a program. -/
abbrev qPr (Inv : Nat → mG → Prop) (jx jm : Nat) (as : List Value) : Prop := ∀ (X : Nat × (Nat → Int32)) (n : Nat) (σ : mG), n < 512 → Inv n σ → ∃ (v : Int32) (σ1 σ2 : mG), RR X 9 jx (.ref 0 :: as) σ (some (.int v), σ1) ∧ RR X 9 jm (.ref 38 :: as) σ1 (some (.int v), σ2) ∧ Inv (n + 1) σ2
abbrev qPv (Inv : Nat → mG → Prop) (jx jm : Nat) (as : List Value) : Prop := ∀ (X : Nat × (Nat → Int32)) (n : Nat) (σ : mG), n < 512 → Inv n σ → ∃ (σ1 σ2 : mG), RR X 9 jx (.ref 0 :: as) σ (none, σ1) ∧ RR X 9 jm (.ref 38 :: as) σ1 (none, σ2) ∧ Inv (n + 1) σ2
/-- trust -/
def qO0 (Inv : Nat → mG → Prop) : Prop := ∀ a b c : Int32, qPr Inv 1 127 [.int a, .int b, .int c]
/-- key -/
def qO1 (Inv : Nat → mG → Prop) : Prop := ∀ a b c : Int32, qPr Inv 2 128 [.int a, .int b, .int c]
/-- pass -/
def qO2 (Inv : Nat → mG → Prop) : Prop := ∀ a : Int32, qPr Inv 4 129 [.int a]
/-- request -/
def qO3 (Inv : Nat → mG → Prop) : Prop := ∀ a : Int32, qPr Inv 5 130 [.int a]
/-- issue -/
def qO4 (Inv : Nat → mG → Prop) : Prop := ∀ a b c d e : Int32, qPr Inv 6 194 [.int a, .int b, .int c, .int d, .int e]
/-- leave -/
def qO5 (Inv : Nat → mG → Prop) : Prop := ∀ a b : Int32, qPr Inv 12 196 [.int a, .int b]
/-- write -/
def qO6 (Inv : Nat → mG → Prop) : Prop := ∀ a : Int32, qPr Inv 15 135 [.int (a.toUInt32 % 65536).toInt32]
/-- set -/
def qO7 (Inv : Nat → mG → Prop) : Prop := ∀ a b : Int32, qPr Inv 16 136 [.int a, .int (b.toUInt32 % 65536).toInt32]
/-- cut -/
def qO8 (Inv : Nat → mG → Prop) : Prop := ∀ a b : Int32, qPr Inv 17 137 [.int a, .int b]
/-- paste -/
def qO9 (Inv : Nat → mG → Prop) : Prop := ∀ a : Int32, qPr Inv 18 138 [.int a]
/-- clear -/
def qO10 (Inv : Nat → mG → Prop) : Prop := qPv Inv 19 139 []
/-- length -/
def qO11 (Inv : Nat → mG → Prop) : Prop := qPr Inv 20 140 []
/-- at -/
def qO12 (Inv : Nat → mG → Prop) : Prop := ∀ a : Int32, qPr Inv 21 141 [.int a]
/-- elements -/
def qO13 (Inv : Nat → mG → Prop) : Prop := qPr Inv 22 154 []
/-- digest -/
def qO14 (Inv : Nat → mG → Prop) : Prop := ∀ a : Int32, qPr Inv 23 162 [.int a]
/-- seal -/
def qO15 (Inv : Nat → mG → Prop) : Prop := ∀ a b : Int32, qPr Inv 24 163 [.int a, .int b]
/-- consume -/
def qO16 (Inv : Nat → mG → Prop) : Prop := qPr Inv 26 183 []
/-- session -/
def qO17 (Inv : Nat → mG → Prop) : Prop := ∀ a : Int32, qPr Inv 27 184 [.int a]
/-- name -/
def qO18 (Inv : Nat → mG → Prop) : Prop := ∀ a b : Int32, qPr Inv 28 185 [.int a, .int b]
/-- outstanding -/
def qO19 (Inv : Nat → mG → Prop) : Prop := qPr Inv 29 132 []
abbrev qOps (Inv : Nat → mG → Prop) : Prop := qO0 Inv ∧ qO1 Inv ∧ qO2 Inv ∧ qO3 Inv ∧ qO4 Inv ∧ qO5 Inv ∧ qO6 Inv ∧ qO7 Inv ∧ qO8 Inv ∧ qO9 Inv ∧ qO10 Inv ∧ qO11 Inv ∧ qO12 Inv ∧ qO13 Inv ∧ qO14 Inv ∧ qO15 Inv ∧ qO16 Inv ∧ qO17 Inv ∧ qO18 Inv ∧ qO19 Inv
def qTg : List Nat := [148, 191, 234, 257, 280, 343, 376, 401, 436, 469, 492, 503, 516, 539, 552, 575, 608, 621, 644, 677, 690, 690, 690, 690, 690, 690, 690, 690, 690, 690, 690, 690]
theorem qSw : ∀ j, j < 32 → (match mi_sw 637 0 19 #[95, 138, 181, 204, 227, 290, 323, 348, 383, 416, 439, 450, 463, 486, 499, 522, 555, 568, 591, 624] (nI j) with
  | some off => mi_tgt 53 off
  | none => none) = some (qTg.getD j 0) := by decide +kernel
theorem qSwT {X : Nat × (Nat → Int32)} {n j : Nat} {σ : mG} {r : mA mG} (hj : j < 32) (k : TT X 9 tbL (some .boolean) (qTg.getD j 0, [some (.ref 999), some (.ref 0), some (.ref 38), some (.int (nI (2 + 6 * n)))], [], σ) r) : TT X 9 tbL (some .boolean) (53, [some (.ref 999), some (.ref 0), some (.ref 38), some (.int (nI (2 + 6 * n)))], [.int (nI j)], σ) r := by
  refine mi_T.pl (i := .tableswitch 637 0 19 #[95, 138, 181, 204, 227, 290, 323, 348, 383, 416, 439, 450, 463, 486, 499, 522, 555, 568, 591, 624]) rfl rfl ?_ k
  have h := qSw j hj
  unfold mi_pl
  dsimp only
  split at h
  · rename_i off ho
    rw [ho]
    dsimp only
    rw [h]
  · cases h
set_option maxHeartbeats 4000000 in
theorem qLoop {Inv : Nat → mG → Prop} (hskip : ∀ n σ, Inv n σ → Inv (n + 1) σ) (hops : qOps Inv) {X : Nat × (Nat → Int32)} (hX : X.1 ≤ 3074) : ∀ (k n : Nat) (σ : mG), n + k = 512 → Inv n σ → ∃ σ', TT X 9 tbL (some .boolean) (38, [some (.ref 999), some (.ref 0), some (.ref 38), some (.int (nI (2 + 6 * n)))], [], σ) (some (.int 1), σ') := by
  obtain ⟨o0, o1, o2, o3, o4, o5, o6, o7, o8, o9, o10, o11, o12, o13, o14, o15, o16, o17, o18, o19⟩ := hops
  have hle : ∀ i : Nat, i < 4000 → ((Int32.ofNat X.1 - 6 < nI i) ↔ X.1 < i + 6) := by
    intro i hi
    rw [Int32.lt_iff_toInt_lt, nI_toInt (by omega)]
    have : (Int32.ofNat X.1 - 6).toInt = (X.1 : Int) - 6 := pk_sub_toInt (a := X.1) (b := 6) (by omega) (by omega)
    rw [this]
    omega
  intro k
  induction k with
  | zero =>
    intro n σ hn _
    exact ⟨σ, RL_38 (fun _ => rfl) (fun z => absurd ((hle _ (by omega)).mpr (by omega)) z) (fun z => absurd ((hle _ (by omega)).mpr (by omega)) z)⟩
  | succ k ih =>
    intro n σ hn hI
    by_cases hlt : X.1 < 2 + 6 * n + 6
    · exact ⟨σ, RL_38 (fun _ => rfl) (fun z => absurd ((hle _ (by omega)).mpr hlt) z) (fun z => absurd ((hle _ (by omega)).mpr hlt) z)⟩
    · have hb : ∀ j, j < 6 → mi_in (nI (2 + 6 * n + j)) X.1 = true := fun j hj => mi_in_nI (by omega) (by omega)
      have hb1 : mi_in (nI (2 + 6 * n) + 1) X.1 = true := by have := hb 1 (by omega); rw [← nI_add] at this; exact this
      have hb2 : mi_in (nI (2 + 6 * n) + 2) X.1 = true := by have := hb 2 (by omega); rw [← nI_add] at this; exact this
      have hb3 : mi_in (nI (2 + 6 * n) + 3) X.1 = true := by have := hb 3 (by omega); rw [← nI_add] at this; exact this
      have hb4 : mi_in (nI (2 + 6 * n) + 4) X.1 = true := by have := hb 4 (by omega); rw [← nI_add] at this; exact this
      have hb5 : mi_in (nI (2 + 6 * n) + 5) X.1 = true := by have := hb 5 (by omega); rw [← nI_add] at this; exact this
      have h6 : nI (2 + 6 * n) + 6 = nI (2 + 6 * (n + 1)) := by rw [show 2 + 6 * (n + 1) = 2 + 6 * n + 6 by omega]; exact nI_add (2 + 6 * n) 6
      have ih6 : ∀ σ2 : mG, Inv (n + 1) σ2 → ∃ σ', TT X 9 tbL (some .boolean) (38, [some (.ref 999), some (.ref 0), some (.ref 38), some (.int (nI (2 + 6 * n) + 6))], [], σ2) (some (.int 1), σ') := by
        intro σ2 h2
        rw [h6]
        exact ih (n + 1) σ2 (by omega) h2
      suffices hall : ∀ j, j < 32 → ∃ σ', TT X 9 tbL (some .boolean) (qTg.getD j 0, [some (.ref 999), some (.ref 0), some (.ref 38), some (.int (nI (2 + 6 * n)))], [], σ) (some (.int 1), σ') by
        obtain ⟨j, hj, ej⟩ := pk_andE (X.2 (nI (2 + 6 * n)).toNatClampNeg) (m := 31) 5 rfl
        obtain ⟨σ', h⟩ := hall j hj
        refine ⟨σ', RL_38 (fun z => absurd ((hle _ (by omega)).mp z) hlt) (fun _ => hb 0 (by omega)) (fun _ => ?_)⟩
        rw [ej]
        exact qSwT hj h
      intro j hj
      match j, hj with
      | 0, _ =>
        obtain ⟨v, σ1, σ2, h1, h2, h3⟩ := o0 (X.2 (nI (2 + 6 * n) + 1).toNatClampNeg) (X.2 (nI (2 + 6 * n) + 2).toNatClampNeg) (X.2 (nI (2 + 6 * n) + 3).toNatClampNeg) X n σ (by omega) hI
        obtain ⟨σ', hσ⟩ := ih6 σ2 h3
        exact ⟨σ', RL_148 hb1 hb2 hb3 h1 hb1 hb2 hb3 h2 (fun _ => hσ) (fun z => absurd rfl z)⟩
      | 1, _ =>
        obtain ⟨v, σ1, σ2, h1, h2, h3⟩ := o1 (X.2 (nI (2 + 6 * n) + 1).toNatClampNeg) (X.2 (nI (2 + 6 * n) + 2).toNatClampNeg) (X.2 (nI (2 + 6 * n) + 3).toNatClampNeg) X n σ (by omega) hI
        obtain ⟨σ', hσ⟩ := ih6 σ2 h3
        exact ⟨σ', RL_191 hb1 hb2 hb3 h1 hb1 hb2 hb3 h2 (fun _ => hσ) (fun z => absurd rfl z)⟩
      | 2, _ =>
        obtain ⟨v, σ1, σ2, h1, h2, h3⟩ := o2 (X.2 (nI (2 + 6 * n) + 1).toNatClampNeg) X n σ (by omega) hI
        obtain ⟨σ', hσ⟩ := ih6 σ2 h3
        exact ⟨σ', RL_234 hb1 h1 hb1 h2 (fun _ => hσ) (fun z => absurd rfl z)⟩
      | 3, _ =>
        obtain ⟨v, σ1, σ2, h1, h2, h3⟩ := o3 (X.2 (nI (2 + 6 * n) + 1).toNatClampNeg) X n σ (by omega) hI
        obtain ⟨σ', hσ⟩ := ih6 σ2 h3
        exact ⟨σ', RL_257 hb1 h1 hb1 h2 (fun _ => hσ) (fun z => absurd rfl z)⟩
      | 4, _ =>
        obtain ⟨v, σ1, σ2, h1, h2, h3⟩ := o4 (X.2 (nI (2 + 6 * n) + 1).toNatClampNeg) (X.2 (nI (2 + 6 * n) + 2).toNatClampNeg) (X.2 (nI (2 + 6 * n) + 3).toNatClampNeg) (X.2 (nI (2 + 6 * n) + 4).toNatClampNeg) (X.2 (nI (2 + 6 * n) + 5).toNatClampNeg) X n σ (by omega) hI
        obtain ⟨σ', hσ⟩ := ih6 σ2 h3
        exact ⟨σ', RL_280 hb1 hb2 hb3 hb4 hb5 h1 hb1 hb2 hb3 hb4 hb5 h2 (fun _ => hσ) (fun z => absurd rfl z)⟩
      | 5, _ =>
        obtain ⟨v, σ1, σ2, h1, h2, h3⟩ := o5 (X.2 (nI (2 + 6 * n) + 1).toNatClampNeg) (X.2 (nI (2 + 6 * n) + 2).toNatClampNeg) X n σ (by omega) hI
        obtain ⟨σ', hσ⟩ := ih6 σ2 h3
        exact ⟨σ', RL_343 hb1 hb2 h1 hb1 hb2 h2 (fun _ => hσ) (fun z => absurd rfl z)⟩
      | 6, _ =>
        obtain ⟨v, σ1, σ2, h1, h2, h3⟩ := o6 (X.2 (nI (2 + 6 * n) + 1).toNatClampNeg) X n σ (by omega) hI
        obtain ⟨σ', hσ⟩ := ih6 σ2 h3
        exact ⟨σ', RL_376 hb1 h1 hb1 h2 (fun _ => hσ) (fun z => absurd rfl z)⟩
      | 7, _ =>
        obtain ⟨v, σ1, σ2, h1, h2, h3⟩ := o7 (X.2 (nI (2 + 6 * n) + 1).toNatClampNeg) (X.2 (nI (2 + 6 * n) + 2).toNatClampNeg) X n σ (by omega) hI
        obtain ⟨σ', hσ⟩ := ih6 σ2 h3
        exact ⟨σ', RL_401 hb1 hb2 h1 hb1 hb2 h2 (fun _ => hσ) (fun z => absurd rfl z)⟩
      | 8, _ =>
        obtain ⟨v, σ1, σ2, h1, h2, h3⟩ := o8 (X.2 (nI (2 + 6 * n) + 1).toNatClampNeg) (X.2 (nI (2 + 6 * n) + 2).toNatClampNeg) X n σ (by omega) hI
        obtain ⟨σ', hσ⟩ := ih6 σ2 h3
        exact ⟨σ', RL_436 hb1 hb2 h1 hb1 hb2 h2 (fun _ => hσ) (fun z => absurd rfl z)⟩
      | 9, _ =>
        obtain ⟨v, σ1, σ2, h1, h2, h3⟩ := o9 (X.2 (nI (2 + 6 * n) + 1).toNatClampNeg) X n σ (by omega) hI
        obtain ⟨σ', hσ⟩ := ih6 σ2 h3
        exact ⟨σ', RL_469 hb1 h1 hb1 h2 (fun _ => hσ) (fun z => absurd rfl z)⟩
      | 10, _ =>
        obtain ⟨σ1, σ2, h1, h2, h3⟩ := o10  X n σ (by omega) hI
        obtain ⟨σ', hσ⟩ := ih6 σ2 h3
        exact ⟨σ', RL_492 h1 h2 hσ⟩
      | 11, _ =>
        obtain ⟨v, σ1, σ2, h1, h2, h3⟩ := o11  X n σ (by omega) hI
        obtain ⟨σ', hσ⟩ := ih6 σ2 h3
        exact ⟨σ', RL_503 h1 h2 (fun _ => hσ) (fun z => absurd rfl z)⟩
      | 12, _ =>
        obtain ⟨v, σ1, σ2, h1, h2, h3⟩ := o12 (X.2 (nI (2 + 6 * n) + 1).toNatClampNeg) X n σ (by omega) hI
        obtain ⟨σ', hσ⟩ := ih6 σ2 h3
        exact ⟨σ', RL_516 hb1 h1 hb1 h2 (fun _ => hσ) (fun z => absurd rfl z)⟩
      | 13, _ =>
        obtain ⟨v, σ1, σ2, h1, h2, h3⟩ := o13  X n σ (by omega) hI
        obtain ⟨σ', hσ⟩ := ih6 σ2 h3
        exact ⟨σ', RL_539 h1 h2 (fun _ => hσ) (fun z => absurd rfl z)⟩
      | 14, _ =>
        obtain ⟨v, σ1, σ2, h1, h2, h3⟩ := o14 (X.2 (nI (2 + 6 * n) + 1).toNatClampNeg) X n σ (by omega) hI
        obtain ⟨σ', hσ⟩ := ih6 σ2 h3
        exact ⟨σ', RL_552 hb1 h1 hb1 h2 (fun _ => hσ) (fun z => absurd rfl z)⟩
      | 15, _ =>
        obtain ⟨v, σ1, σ2, h1, h2, h3⟩ := o15 (X.2 (nI (2 + 6 * n) + 1).toNatClampNeg) (X.2 (nI (2 + 6 * n) + 2).toNatClampNeg) X n σ (by omega) hI
        obtain ⟨σ', hσ⟩ := ih6 σ2 h3
        exact ⟨σ', RL_575 hb1 hb2 h1 hb1 hb2 h2 (fun _ => hσ) (fun z => absurd rfl z)⟩
      | 16, _ =>
        obtain ⟨v, σ1, σ2, h1, h2, h3⟩ := o16  X n σ (by omega) hI
        obtain ⟨σ', hσ⟩ := ih6 σ2 h3
        exact ⟨σ', RL_608 h1 h2 (fun _ => hσ) (fun z => absurd rfl z)⟩
      | 17, _ =>
        obtain ⟨v, σ1, σ2, h1, h2, h3⟩ := o17 (X.2 (nI (2 + 6 * n) + 1).toNatClampNeg) X n σ (by omega) hI
        obtain ⟨σ', hσ⟩ := ih6 σ2 h3
        exact ⟨σ', RL_621 hb1 h1 hb1 h2 (fun _ => hσ) (fun z => absurd rfl z)⟩
      | 18, _ =>
        obtain ⟨v, σ1, σ2, h1, h2, h3⟩ := o18 (X.2 (nI (2 + 6 * n) + 1).toNatClampNeg) (X.2 (nI (2 + 6 * n) + 2).toNatClampNeg) X n σ (by omega) hI
        obtain ⟨σ', hσ⟩ := ih6 σ2 h3
        exact ⟨σ', RL_644 hb1 hb2 h1 hb1 hb2 h2 (fun _ => hσ) (fun z => absurd rfl z)⟩
      | 19, _ =>
        obtain ⟨v, σ1, σ2, h1, h2, h3⟩ := o19  X n σ (by omega) hI
        obtain ⟨σ', hσ⟩ := ih6 σ2 h3
        exact ⟨σ', RL_677 h1 h2 (fun _ => hσ) (fun z => absurd rfl z)⟩
      | 20, _ =>
        obtain ⟨σ', hσ⟩ := ih6 σ (hskip n σ hI)
        exact ⟨σ', RL_690 hσ⟩
      | 21, _ =>
        obtain ⟨σ', hσ⟩ := ih6 σ (hskip n σ hI)
        exact ⟨σ', RL_690 hσ⟩
      | 22, _ =>
        obtain ⟨σ', hσ⟩ := ih6 σ (hskip n σ hI)
        exact ⟨σ', RL_690 hσ⟩
      | 23, _ =>
        obtain ⟨σ', hσ⟩ := ih6 σ (hskip n σ hI)
        exact ⟨σ', RL_690 hσ⟩
      | 24, _ =>
        obtain ⟨σ', hσ⟩ := ih6 σ (hskip n σ hI)
        exact ⟨σ', RL_690 hσ⟩
      | 25, _ =>
        obtain ⟨σ', hσ⟩ := ih6 σ (hskip n σ hI)
        exact ⟨σ', RL_690 hσ⟩
      | 26, _ =>
        obtain ⟨σ', hσ⟩ := ih6 σ (hskip n σ hI)
        exact ⟨σ', RL_690 hσ⟩
      | 27, _ =>
        obtain ⟨σ', hσ⟩ := ih6 σ (hskip n σ hI)
        exact ⟨σ', RL_690 hσ⟩
      | 28, _ =>
        obtain ⟨σ', hσ⟩ := ih6 σ (hskip n σ hI)
        exact ⟨σ', RL_690 hσ⟩
      | 29, _ =>
        obtain ⟨σ', hσ⟩ := ih6 σ (hskip n σ hI)
        exact ⟨σ', RL_690 hσ⟩
      | 30, _ =>
        obtain ⟨σ', hσ⟩ := ih6 σ (hskip n σ hI)
        exact ⟨σ', RL_690 hσ⟩
      | 31, _ =>
        obtain ⟨σ', hσ⟩ := ih6 σ (hskip n σ hI)
        exact ⟨σ', RL_690 hσ⟩
      | j + 32, hj => exact absurd hj (by omega)
