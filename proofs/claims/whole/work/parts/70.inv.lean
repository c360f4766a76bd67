/-! What holds between two calls of the law: class and reference hold one state. -/
def okT (T : List Nat) : Prop := T.length ≤ 400 ∧ ∀ c ∈ T, 32 ≤ c ∧ c ≤ 126
def cT (a : Int32) (f : Nat → Int32) (T : List Nat) : Prop := a = nI T.length ∧ ∀ i, i < T.length → f i = nI (T.getD i 0)
def iT (a : Int32) (f : Nat → Int32) (b : Int32) (g : Nat → Int32) : Prop := ∃ T, okT T ∧ cT a f T ∧ cT b g T
def iNum (m : Nat) (a b : Int32) : Prop := ∃ c, c ≤ m ∧ a = nI c ∧ b = nI c
def iLife (a b : Int32) : Prop := ∃ c, 1 ≤ c ∧ c ≤ 1000 ∧ a = nI c ∧ b = nI c
/-- moduli and exponents: the class's, the reference's -/
def iKey (a b c d : Nat → Int32) : Prop := ∀ i, i < 4 → c i = a i ∧ d i = b i ∧ (a i = 0 ∨ ∃ N E, 65521 ≤ N ∧ N ≤ 1000000 ∧ 1 ≤ E ∧ E ≤ 1000000 ∧ a i = nI N ∧ b i = nI E)
def iReq (n : Nat) (q : Int32) (is mk an : Nat → Int32) (q' : Int32) (mk' gt an' : Nat → Int32) : Prop := ∃ m, m ≤ 30 ∧ q = nI m ∧ q' = nI m ∧ (∀ i, i < m → ∃ k c, k < 4 ∧ c ≤ 1000 * n ∧ is i = nI k ∧ gt i = nI k ∧ mk i = nI c ∧ mk' i = nI c) ∧ (∀ i, i < 30 → an' i = an i ∧ (an i = 0 ∨ an i = 1)) ∧ ∀ i, m ≤ i → i < 30 → an i = 0
def okL (l : List Nat) : Prop := 1 ≤ l.length ∧ l.length ≤ 8 ∧ ∀ c ∈ l, 32 ≤ c ∧ c ≤ 126
def pk8 (l : List Nat) : Nat := l.foldl (fun r c => r * 256 + c) 0
def iLab (i : Nat) (codes sizes : Nat → Int32) (l : List Nat) : Prop := sizes i = nI l.length ∧ ∀ j, j < l.length → codes (8 * i + j) = nI (l.getD j 0)
def iSes (cnt : Int32) (is op codes sizes : Nat → Int32) (cnt' : Int32) (own en : Nat → Int32) (usr : Nat → Int64) : Prop := ∃ m, m ≤ 20 ∧ cnt = nI m ∧ cnt' = nI m ∧ (∀ i, i < m → ∃ k l, k < 4 ∧ okL l ∧ is i = nI k ∧ own i = nI k ∧ iLab i codes sizes l ∧ usr i = lN (pk8 l) ∧ ((op i = 1 ∧ en i = 0) ∨ (op i = 0 ∧ en i = 1))) ∧ ∀ i, m ≤ i → i < 20 → en i = 0
def iSeen (cnt : Int32) (codes sizes : Nat → Int32) (cnt' : Int32) (sn : Nat → Int64) : Prop := ∃ m, m ≤ 40 ∧ cnt = nI m ∧ cnt' = nI m ∧ ∀ i, i < m → ∃ l, okL l ∧ iLab i codes sizes l ∧ sn i = lN (pk8 l)
def qI (n : Nat) (σ : mG) : Prop := iT (σ.1 1 1) (σ.1 2) (σ.1 38 4) (σ.1 39) ∧ iT (σ.1 3 1) (σ.1 4) (σ.1 38 6) (σ.1 40) ∧ iNum (1000 * n) (σ.1 0 12) (σ.1 38 2) ∧ iNum 100 (σ.1 0 11) (σ.1 38 0) ∧ iLife (σ.1 23 0) (σ.1 38 1) ∧ iNum n (σ.1 0 13) (σ.1 38 21) ∧ iKey (σ.1 19) (σ.1 20) (σ.1 41) (σ.1 42) ∧ iKey (σ.1 21) (σ.1 22) (σ.1 43) (σ.1 44) ∧ iReq n (σ.1 23 4) (σ.1 24) (σ.1 25) (σ.1 26) (σ.1 38 11) (σ.1 45) (σ.1 46) (σ.1 47) ∧ iSes (σ.1 30 3) (σ.1 28) (σ.1 29) (σ.1 31) (σ.1 32) (σ.1 38 15) (σ.1 48) (σ.1 50) (σ.2 49) ∧ iSeen (σ.1 33 3) (σ.1 34) (σ.1 35) (σ.1 38 19) (σ.2 51) ∧ σ.1 30 0 = 20 ∧ σ.1 33 0 = 40
theorem iNum.mono {m m' : Nat} {a b : Int32} (h : m ≤ m') (k : iNum m a b) : iNum m' a b := by
  obtain ⟨c, h1, h2⟩ := k
  exact ⟨c, by omega, h2⟩
theorem iReq.mono {n n' : Nat} {q : Int32} {is mk an : Nat → Int32} {q' : Int32} {mk' gt an' : Nat → Int32} (h : n ≤ n') (k : iReq n q is mk an q' mk' gt an') : iReq n' q is mk an q' mk' gt an' := by
  obtain ⟨m, h1, h2, h3, h4, h5⟩ := k
  refine ⟨m, h1, h2, h3, fun i hi => ?_, h5⟩
  obtain ⟨k, c, g1, g2, g3⟩ := h4 i hi
  exact ⟨k, c, g1, by omega, g3⟩
theorem qI_skip (n : Nat) (σ : mG) (h : qI n σ) : qI (n + 1) σ := by
  obtain ⟨h1, h2, h3, h4, h5, h6, h7, h8, h9, h10⟩ := h
  exact ⟨h1, h2, h3.mono (by omega), h4, h5, h6.mono (by omega), h7, h8, h9.mono (by omega), h10⟩
theorem qSk_num (x : Int32) : iNum 100 (qSk x) (qSk x) := by
  unfold qSk
  by_cases h1 : x < 0
  · rw [if_pos h1]
    exact ⟨0, by omega, rfl, rfl⟩
  · rw [if_neg h1]
    by_cases h2 : 100 < x
    · rw [if_pos h2]
      exact ⟨0, by omega, rfl, rfl⟩
    · rw [if_neg h2]
      obtain ⟨j, hj, e⟩ := nI_of2 (M := 100) (n := 100) rfl h1 (Int32.not_lt.mp h2)
      exact ⟨j, hj, e, e⟩
theorem qLf_num (x : Int32) : iLife (qLf x) (qLf x) := by
  unfold qLf
  by_cases h1 : x < 1
  · rw [if_pos h1]
    exact ⟨100, by omega, by omega, rfl, rfl⟩
  · rw [if_neg h1]
    by_cases h2 : 1000 < x
    · rw [if_pos h2]
      exact ⟨100, by omega, by omega, rfl, rfl⟩
    · rw [if_neg h2]
      have h0 : ¬ x < 0 := fun z => h1 (Int32.lt_trans z (by decide))
      obtain ⟨j, hj, e⟩ := nI_of2 (M := 1000) (n := 1000) rfl h0 (Int32.not_lt.mp h2)
      refine ⟨j, ?_, hj, e, e⟩
      rcases Nat.eq_zero_or_pos j with z | z
      · subst z
        exact absurd (by rw [e]; decide) h1
      · exact z
theorem qI0 (x1 x2 : Int32) : qI 0 (qG0 x1 x2) := by
  have e : ∀ (f : Nat → Int32), okT [] ∧ cT 0 f [] ∧ cT 0 f [] := fun f => ⟨⟨by decide, fun c h => by cases h⟩, ⟨rfl, fun i h => absurd h (Nat.not_lt_zero i)⟩, ⟨rfl, fun i h => absurd h (Nat.not_lt_zero i)⟩⟩
  refine ⟨⟨[], e _⟩, ⟨[], e _⟩, ⟨0, Nat.le_refl _, rfl, rfl⟩, qSk_num x1, qLf_num x2, ⟨0, Nat.le_refl _, rfl, rfl⟩, fun i _ => ⟨rfl, rfl, Or.inl rfl⟩, fun i _ => ⟨rfl, rfl, Or.inl rfl⟩, ⟨0, by omega, rfl, rfl, fun i h => absurd h (Nat.not_lt_zero i), fun i _ => ⟨rfl, Or.inl rfl⟩, fun i _ _ => rfl⟩, ⟨0, by omega, rfl, rfl, fun i h => absurd h (Nat.not_lt_zero i), fun i _ _ => rfl⟩, ⟨0, by omega, rfl, rfl, fun i h => absurd h (Nat.not_lt_zero i)⟩, rfl, rfl⟩
/-! pass -/
theorem qpass : qO2 qI := by
  intro a X n σ hn hI
  by_cases h0 : a < 0
  · exact ⟨0, σ, σ, mi_R.of rfl rfl (R4_0 (fun _ => rfl) (fun z => absurd h0 z) (fun z => absurd h0 z)), mi_R.of rfl rfl (R129_0 (fun _ => rfl) (fun z => absurd h0 z) (fun z => absurd h0 z)), qI_skip n σ hI⟩
  · by_cases h1 : a ≤ 1000
    · refine ⟨1, _, _, mi_R.of rfl rfl (R4_0 (fun z => absurd z h0) (fun _ _ => rfl) (fun _ z => absurd h1 z)), mi_R.of rfl rfl (R129_0 (fun z => absurd z h0) (fun _ _ => rfl) (fun _ z => absurd h1 z)), ?_⟩
      obtain ⟨k, hk, rfl⟩ := nI_of2 (M := 1000) (n := 1000) rfl h0 h1
      obtain ⟨g1, g2, ⟨c, hc, e1, e2⟩, g4, g5, g6, g7, g8, g9, g10⟩ := qI_skip n σ hI
      refine ⟨g1, g2, ⟨c + k, ?_, ?_, ?_⟩, g4, g5, g6, g7, g8, g9, g10⟩
      · obtain ⟨-, -, ⟨c', hc', e1', -⟩, -⟩ := hI
        have : c = c' := (nI_eq (by omega) (by omega)).mp (e1.symm.trans e1')
        omega
      · show σ.1 0 12 + nI k = nI (c + k)
        rw [e1, nI_add]
      · show σ.1 38 2 + nI k = nI (c + k)
        rw [e2, nI_add]
    · exact ⟨0, σ, σ, mi_R.of rfl rfl (R4_0 (fun z => absurd z h0) (fun _ z => absurd z h1) (fun _ _ => rfl)), mi_R.of rfl rfl (R129_0 (fun z => absurd z h0) (fun _ z => absurd z h1) (fun _ _ => rfl)), qI_skip n σ hI⟩
