/-! Powers, and seal -/
section
variable {X : Nat × (Nat → Int32)} {d : Nat} {σ : mG}
theorem mm {a c N : Nat} (ha : a < 2 ^ 31) (hc : c < 2 ^ 31) (h0 : 0 < N) (hN : N < 2 ^ 31) : (lN a * lN c) - (lN a * lN c) / (nI N).toInt64 * (nI N).toInt64 = lN (a * c % N) := by
  have h : a * c < 2 ^ 31 * 2 ^ 31 := Nat.mul_lt_mul'' ha hc
  rw [nI_l hN, lN_mul, pk_lRem (by omega) h0 (by omega)]
theorem N_ne {N : Nat} (h0 : 0 < N) (hN : N < 2 ^ 31) : ¬ (nI N).toInt64 = 0 := by
  rw [nI_l hN, show (0 : Int64) = lN 0 from rfl, pk_lEQ (by omega) (by omega)]
  omega
theorem pm_even {a b k N : Nat} : a * (b * b % N) ^ k % N = a * b ^ (2 * k) % N := by
  rw [Nat.mul_mod, ← Nat.pow_mod, ← Nat.mul_mod, ← Nat.pow_two, ← Nat.pow_mul]
theorem pm_odd {a b k N : Nat} : (a * b % N) * (b * b % N) ^ k % N = a * b ^ (2 * k + 1) % N := by
  rw [pm_even, Nat.mul_mod, Nat.mod_mod, ← Nat.mul_mod, Nat.pow_succ, Nat.mul_assoc, Nat.mul_comm b]
theorem L98 {N : Nat} (h0 : 0 < N) (hN : N < 2 ^ 31) {x0 x1 : Int32} : ∀ (f e a b : Nat), e ≤ f → e < 2 ^ 31 → a < N → b < N → TT X d tb98 (some .int) (20, [some (.int x0), some (.int x1), some (.int (nI N)), some (.long (lN b)), none, some (.long (lN a)), none, some (.int (nI e))], [], σ) (some (.int (nI (a * b ^ e % N))), σ) := by
  have hz := N_ne h0 hN
  intro f
  induction f with
  | zero =>
    intro e a b hf _ ha hb
    have : e = 0 := by omega
    subst this
    have z : nI 0 ≤ 0 := by decide
    refine R98_20 (fun _ => ?_) (fun y => absurd z y) (fun y => absurd z y) (fun y => absurd z y) (fun y => absurd z y) (fun y => absurd z y)
    rw [lN_i, Nat.pow_zero, Nat.mul_one, Nat.mod_eq_of_lt ha]
  | succ f ih =>
    intro e a b hf he ha hb
    by_cases e0 : e = 0
    · subst e0
      have z : nI 0 ≤ 0 := by decide
      refine R98_20 (fun _ => ?_) (fun y => absurd z y) (fun y => absurd z y) (fun y => absurd z y) (fun y => absurd z y) (fun y => absurd z y)
      rw [lN_i, Nat.pow_zero, Nat.mul_one, Nat.mod_eq_of_lt ha]
    · have z : ¬ nI e ≤ 0 := nI_nle (by omega) he
      have h1 : nI e &&& 1 = nI (e % 2) := pk_andN (by omega) (k := 1) rfl
      have h2 : nI e >>> (1 &&& 31) = nI (e / 2) := pk_shrN he _ 1 (by decide)
      have h3 : (nI e &&& 1 = 1) ↔ e % 2 = 1 := by
        rw [h1]
        exact nI_eq (b := 1) (by omega) (by omega)
      refine R98_20 (fun y => absurd y z) (fun _ _ => hz) (fun _ y => ?_) (fun _ _ => hz) (fun _ _ => hz) (fun _ y => ?_)
      · have h4 : e = 2 * (e / 2) := by
          have : ¬ e % 2 = 1 := fun q => y (h3.mpr q)
          omega
        have := ih (e / 2) a (b * b % N) (by omega) (by omega) ha (Nat.mod_lt _ h0)
        rw [mm (by omega) (by omega) h0 hN, h2]
        rw [pm_even, ← h4] at this
        exact this
      · have h4 : e = 2 * (e / 2) + 1 := by
          have := h3.mp (Decidable.not_not.mp y)
          omega
        have := ih (e / 2) (a * b % N) (b * b % N) (by omega) (by omega) (Nat.mod_lt _ h0) (Nat.mod_lt _ h0)
        rw [mm (by omega) (by omega) h0 hN, mm (by omega) (by omega) h0 hN, h2]
        rw [pm_odd, ← h4] at this
        exact this
theorem K98 {b e N : Nat} (h0 : 0 < N) (hN : N < 2 ^ 31) (hb : b < 2 ^ 31) (he : e < 2 ^ 31) : RR X (d + 1) 98 [.int (nI b), .int (nI e), .int (nI N)] σ (some (.int (nI (b ^ e % N))), σ) := by
  have z : 0 < nI N := nI_lt (a := 0) h0 hN
  have hz : ¬ nI N = 0 := nI_ne0 h0 hN
  refine mi_R.of rfl rfl (R98_0 (fun _ => hz) (fun _ => hz) (fun _ => ?_) (fun y => absurd z y))
  rw [pk_rem hb h0 hN, show (1 : Int32) = nI 1 from rfl, pk_rem (by omega) h0 hN]
  have l1 := Nat.mod_lt b h0
  have l2 := Nat.mod_lt 1 h0
  rw [nI_l (by omega), nI_l (by omega)]
  have := L98 (X := X) (d := d) (σ := σ) h0 hN (x0 := nI b) (x1 := nI e) e e (1 % N) (b % N) (Nat.le_refl _) he l2 l1
  rw [Nat.mul_mod, Nat.mod_mod, ← Nat.pow_mod, ← Nat.mul_mod, Nat.one_mul] at this
  exact this
/-! the reference's power: ten at a time -/
def uN : Nat → Nat
  | 0 => 0
  | j + 1 => 10 ^ j
theorem uN_div (j : Nat) : uN (j + 1) / 10 = uN j := by
  cases j with
  | zero => rfl
  | succ j =>
    show 10 ^ (j + 1) / 10 = 10 ^ j
    rw [Nat.pow_succ, Nat.mul_div_cancel _ (by omega)]
theorem L133i {b N : Nat} (h0 : 0 < N) (hN : N < 2 ^ 31) (hb : b < 2 ^ 31) {x1 x5 : Int32} {y6 y8 y10 : Int64} {r : mA mG} : ∀ (c a : Nat), c < 2 ^ 31 → a < N → (TT X d tb133 (some .int) (9, [some (.int (nI b)), some (.int x1), some (.int (nI N)), some (.long (lN (a * b ^ c % N))), none, some (.int (x5 / 10)), some (.long y6), none, some (.long y8), none, some (.long y10), none, some (.int 0)], [], σ) r) → TT X d tb133 (some .int) (60, [some (.int (nI b)), some (.int x1), some (.int (nI N)), some (.long (lN a)), none, some (.int x5), some (.long y6), none, some (.long y8), none, some (.long y10), none, some (.int (nI c))], [], σ) r := by
  intro c
  induction c with
  | zero =>
    intro a _ ha k
    have z : nI 0 ≤ 0 := by decide
    rw [Nat.pow_zero, Nat.mul_one, Nat.mod_eq_of_lt ha] at k
    exact R133_60 (fun _ => k) (fun y => absurd z y) (fun y => absurd z y)
  | succ c ih =>
    intro a hc ha k
    have z : ¬ nI (c + 1) ≤ 0 := nI_nle (by omega) hc
    refine R133_60 (fun y => absurd y z) (fun _ => N_ne h0 hN) (fun _ => ?_)
    rw [nI_l hb, mm (by omega) hb h0 hN, pk_m1]
    refine ih (a * b % N) (by omega) (Nat.mod_lt _ h0) ?_
    rw [Nat.mul_mod, Nat.mod_mod, ← Nat.mul_mod, Nat.mul_assoc, ← Nat.pow_succ']
    exact k
theorem p10 {a b q c N : Nat} (ha : a = b ^ q % N) : ((a * a % N) * (a * a % N) % N * ((a * a % N) * (a * a % N) % N) % N * (a * a % N) % N) * b ^ c % N = b ^ (10 * q + c) % N := by
  have f : ∀ x y z w : Nat, x % N = z % N → y % N = w % N → x * y % N = z * w % N := fun x y z w h1 h2 => by rw [Nat.mul_mod, h1, h2, ← Nat.mul_mod]
  have e4 : b ^ (10 * q + c) = (b ^ q * b ^ q) * (b ^ q * b ^ q) * ((b ^ q * b ^ q) * (b ^ q * b ^ q)) * (b ^ q * b ^ q) * b ^ c := by
    rw [Nat.pow_add, Nat.mul_comm 10 q, Nat.pow_mul]
    have : ∀ x : Nat, x ^ 10 = (x * x) * (x * x) * ((x * x) * (x * x)) * (x * x) := fun x => by
      rw [show (10 : Nat) = 2 + 2 + (2 + 2) + 2 from rfl, Nat.pow_add, Nat.pow_add, Nat.pow_add, Nat.pow_two]
    rw [this]
  have g1 : a % N = b ^ q % N := by rw [ha, Nat.mod_mod]
  have g2 : (a * a % N) % N = (b ^ q * b ^ q) % N := by rw [Nat.mod_mod]; exact f _ _ _ _ g1 g1
  have g4 : ((a * a % N) * (a * a % N) % N) % N = (b ^ q * b ^ q) * (b ^ q * b ^ q) % N := by rw [Nat.mod_mod]; exact f _ _ _ _ g2 g2
  have g8 : ((a * a % N) * (a * a % N) % N * ((a * a % N) * (a * a % N) % N) % N) % N = (b ^ q * b ^ q) * (b ^ q * b ^ q) * ((b ^ q * b ^ q) * (b ^ q * b ^ q)) % N := by rw [Nat.mod_mod]; exact f _ _ _ _ g4 g4
  have g10 : ((a * a % N) * (a * a % N) % N * ((a * a % N) * (a * a % N) % N) % N * (a * a % N) % N) % N = (b ^ q * b ^ q) * (b ^ q * b ^ q) * ((b ^ q * b ^ q) * (b ^ q * b ^ q)) * (b ^ q * b ^ q) % N := by rw [Nat.mod_mod]; exact f _ _ _ _ g8 g2
  rw [e4]
  exact f _ _ _ _ g10 rfl
theorem L133 {b e N : Nat} (h0 : 0 < N) (hN : N < 2 ^ 31) (hb : b < 2 ^ 31) (he : e < 2 ^ 31) : ∀ (j a : Nat) (u6 u8 u10 u12 : Option Value), j ≤ 7 → a = b ^ (e / 10 ^ j) % N → TT X d tb133 (some .int) (9, [some (.int (nI b)), some (.int (nI e)), some (.int (nI N)), some (.long (lN a)), none, some (.int (nI (uN j))), u6, none, u8, none, u10, none, u12], [], σ) (some (.int (nI (b ^ e % N))), σ) := by
  have hz := N_ne h0 hN
  intro j
  induction j with
  | zero =>
    intro a u6 u8 u10 u12 _ ha
    have z : nI (uN 0) ≤ 0 := by decide
    refine R133_9 (fun _ => ?_) (fun y => absurd z y) (fun y => absurd z y) (fun y => absurd z y) (fun y => absurd z y) (fun y => absurd z y) (fun y => absurd z y)
    rw [lN_i, ha, Nat.pow_zero, Nat.div_one]
  | succ j ih =>
    intro a u6 u8 u10 u12 hj ha
    have hu : 0 < uN (j + 1) := Nat.pow_pos (by omega)
    have hu2 : uN (j + 1) < 2 ^ 31 := Nat.lt_of_le_of_lt (Nat.pow_le_pow_right (n := 10) (by omega) (show j ≤ 6 by omega)) (by decide)
    have z : ¬ nI (uN (j + 1)) ≤ 0 := nI_nle hu hu2
    have haN : a < N := by
      rw [ha]
      exact Nat.mod_lt _ h0
    have m2 : a * a % N < N := Nat.mod_lt _ h0
    have m4 : (a * a % N) * (a * a % N) % N < N := Nat.mod_lt _ h0
    have m8 : (a * a % N) * (a * a % N) % N * ((a * a % N) * (a * a % N) % N) % N < N := Nat.mod_lt _ h0
    refine R133_9 (fun y => absurd y z) (fun _ => hz) (fun _ => hz) (fun _ => hz) (fun _ => hz) (fun _ => nI_ne0 hu hu2) (fun _ => ?_)
    rw [mm (a := a) (c := a) (by omega) (by omega) h0 hN, mm (a := a * a % N) (c := a * a % N) (by omega) (by omega) h0 hN, mm (a := (a * a % N) * (a * a % N) % N) (c := (a * a % N) * (a * a % N) % N) (by omega) (by omega) h0 hN, mm (a := (a * a % N) * (a * a % N) % N * ((a * a % N) * (a * a % N) % N) % N) (c := a * a % N) (by omega) (by omega) h0 hN]
    rw [pk_div he hu hu2, show (10 : Int32) = nI 10 from rfl, pk_rem (Nat.lt_of_le_of_lt (Nat.div_le_self _ _) he) (by omega) (by omega)]
    refine L133i h0 hN hb _ _ (by omega) (Nat.mod_lt _ h0) ?_
    rw [show (10 : Int32) = nI 10 from rfl, pk_div hu2 (by omega) (by omega), uN_div, p10 ha]
    refine ih _ _ _ _ _ (by omega) ?_
    have e1 : e / 10 ^ (j + 1) = e / 10 ^ j / 10 := by rw [Nat.pow_succ, Nat.div_div_eq_div_mul]
    have e2 : 10 * (e / 10 ^ (j + 1)) + e / uN (j + 1) % 10 = e / 10 ^ j := by
      rw [e1]
      exact Nat.div_add_mod (e / 10 ^ j) 10
    rw [e2]
theorem K133 {b e N : Nat} (h0 : 0 < N) (hN : N < 2 ^ 31) (hb : b < 2 ^ 31) (he : e ≤ 1000000) : RR X (d + 1) 133 [.int (nI b), .int (nI e), .int (nI N)] σ (some (.int (nI (b ^ e % N))), σ) := by
  refine mi_R.of rfl rfl (R133_0 (nI_ne0 h0 hN) ?_)
  rw [show (1 : Int32) = nI 1 from rfl, pk_rem (by omega) h0 hN]
  have l2 := Nat.mod_lt 1 h0
  rw [nI_l (by omega)]
  refine L133 h0 hN hb (by omega) 7 (1 % N) none none none none (Nat.le_refl _) ?_
  rw [Nat.div_eq_of_lt (by omega), Nat.pow_zero]
end
/-! frames of the class's reading and folding -/
def fC (σ σ' : mG) : Prop := σ'.2 = σ.2 ∧ ∀ c, c < 5 ∨ 17 < c → σ'.1 c = σ.1 c
theorem fC.rfl' {σ : mG} : fC σ σ := ⟨rfl, fun _ _ => rfl⟩
theorem fC.tr {σ σ1 σ2 : mG} (a : fC σ σ1) (b : fC σ1 σ2) : fC σ σ2 := ⟨b.1.trans a.1, fun c hc => (b.2 c hc).trans (a.2 c hc)⟩
theorem fR.fC {σ σ' : mG} (f : fR σ σ') : fC σ σ' := ⟨f.1, fun c hc => f.2 c (by omega)⟩
theorem fG.fC {σ σ' : mG} (f : fG σ σ') : fC σ σ' := ⟨f.1, fun c hc => f.2 c (by omega)⟩
theorem fC_qI {n : Nat} {σ σ' : mG} (f : fC σ σ') (h : qI n σ) : qI n σ' := by
  unfold qI at *
  rw [f.1, f.2 1 (by omega), f.2 2 (by omega), f.2 3 (by omega), f.2 4 (by omega), f.2 0 (by omega), f.2 38 (by omega), f.2 39 (by omega), f.2 40 (by omega), f.2 23 (by omega), f.2 19 (by omega), f.2 20 (by omega), f.2 21 (by omega), f.2 22 (by omega), f.2 41 (by omega), f.2 42 (by omega), f.2 43 (by omega), f.2 44 (by omega), f.2 24 (by omega), f.2 25 (by omega), f.2 26 (by omega), f.2 45 (by omega), f.2 46 (by omega), f.2 47 (by omega), f.2 30 (by omega), f.2 28 (by omega), f.2 29 (by omega), f.2 31 (by omega), f.2 32 (by omega), f.2 48 (by omega), f.2 50 (by omega), f.2 33 (by omega), f.2 34 (by omega), f.2 35 (by omega)]
  exact h
def okK (T : List Nat) (a : Int32) : Prop := ∃ (y : Nat × (Nat → mEl)) (k : Nat), bnS T = false ∧ rdS T = some y ∧ gM T y.1 y.2 ∧ k < y.1 ∧ a = nI k
theorem nok {T : List Nat} {a : Int32} (h : ¬ okK T a) (ha : ¬ a < 0) : rdI T ≤ a := by
  rcases rdI_cases T with hv | ⟨y, y1, y2, y3, y4⟩
  · obtain ⟨j, hj, rfl⟩ := nI_of ha
    rw [Int32.le_iff_toInt_le, nI_toInt hj]
    rcases hv with e | e
    · rw [e]
      have : ((-1 : Int32)).toInt = -1 := rfl
      omega
    · rw [e]
      have : ((-2 : Int32)).toInt = -2 := rfl
      omega
  · have hn20 := y4.2.1
    rcases pk_ix a (n := y.1) (by omega) with z | z | ⟨k, z1, z2⟩
    · exact absurd z ha
    · rw [y3]
      exact z
    · exact absurd ⟨y, k, y1, y2, y4, z1, z2⟩ h
theorem rdI_some {T : List Nat} {y : Nat × (Nat → mEl)} (h1 : bnS T = false) (h2 : rdS T = some y) : rdI T = nI y.1 := by
  unfold rdI
  rw [h1, h2]
  rfl
section
variable {X : Nat × (Nat → Int32)} {d : Nat} {T : List Nat}
theorem K162n {σ : mG} {a : Int32} (hT : okT T) (hc : cT (σ.1 38 4) (σ.1 39) T) (h : ¬ okK T a) : ∃ σ', RR X (d + 6) 162 [.ref 38, .int a] σ (some (.int (-1)), σ') ∧ fM σ σ' := by
  obtain ⟨σ2, b1, b2, -⟩ := K153 (X := X) (d := d) hT hc
  refine ⟨σ2, mi_R.of rfl rfl (R162_0 (v2 := 0) (σ2 := σ) b1 (fun _ => rfl) (fun z y => absurd y (Int32.not_lt.mpr (nok h z))) (fun z y => absurd y (Int32.not_lt.mpr (nok h z))) (fun _ _ => rfl)), b2⟩
theorem K162s {σ : mG} {y : Nat × (Nat → mEl)} {k : Nat} (hT : okT T) (hc : cT (σ.1 38 4) (σ.1 39) T) (h1 : bnS T = false) (h2 : rdS T = some y) (g : gM T y.1 y.2) (hk : k < y.1) : ∃ σ', RR X (d + 6) 162 [.ref 38, .int (nI k)] σ (some (.int (nI (dgS T y.1 y.2 k))), σ') ∧ fM σ σ' := by
  have hn := g.2.1
  obtain ⟨σ3, b1, b2, b3⟩ := K153 (X := X) (d := d) hT hc
  have z0 : ¬ nI k < 0 := nI_pos (by omega)
  have z1 : nI k < rdI T := by
    rw [rdI_some h1 h2]
    exact nI_lt hk (by omega)
  exact ⟨σ3, mi_R.of rfl rfl (R162_0 b1 (fun z => absurd z z0) (fun _ _ => K161 hT (b2.cT hc) g (b3 y h1 h2) hk) (fun _ _ => rfl) (fun _ z => absurd z1 z)), b2⟩
theorem K25n {σ : mG} {i a : Int32} (hT : okT T) (hc : cT (σ.1 1 1) (σ.1 2) T) (h : ¬ okK T a) : ∃ σ', RR X (d + 7) 25 [.ref 0, .int i, .int a] σ (some (.int (-1)), σ') ∧ fC σ σ' := by
  by_cases ha : a < 0
  · exact ⟨σ, mi_R.of rfl rfl (R25_0 (v1 := 0) (σ1 := σ) (v2 := 0) (σ2 := σ) (v3 := 0) (σ3 := σ) (fun _ => rfl) (fun z => absurd ha z) (fun z => absurd ha z) (fun z => absurd ha z) (fun z => absurd ha z) (fun z => absurd ha z)), fC.rfl'⟩
  · obtain ⟨σ1, a1, a2, -⟩ := K78 (X := X) (d := d) hT hc
    have z := Int32.not_lt.mpr (nok h ha)
    exact ⟨σ1, mi_R.of rfl rfl (R25_0 (v2 := 0) (σ2 := σ) (v3 := 0) (σ3 := σ) (fun y => absurd y ha) (fun _ => a1) (fun _ y => absurd y z) (fun _ y => absurd y z) (fun _ y => absurd y z) (fun _ _ => rfl)), a2.fC⟩
theorem K95t {σ : mG} {i : Nat} (hi : i < 4) (h : ¬ σ.1 21 i = 0) : RR X (d + 1) 95 [.ref 18, .int (nI i)] σ (some (.int 1), σ) := by
  have z0 : ¬ nI i < 0 := nI_pos (by omega)
  have z1 : ¬ (4 : Int32) ≤ nI i := nI_ge (b := 4) hi (by omega)
  refine mi_R.of rfl rfl (R95_0 (fun z => absurd z z0) (fun _ z => absurd z z1) (fun _ _ => mi_in_nI hi (by omega)) (fun _ _ z => absurd z ?_) (fun _ _ _ => rfl))
  rw [nI_clamp (by omega)]
  exact h
theorem K25s {σ : mG} {i k N D : Nat} {y : Nat × (Nat → mEl)} (hT : okT T) (hc : cT (σ.1 1 1) (σ.1 2) T) (h1 : bnS T = false) (h2 : rdS T = some y) (g : gM T y.1 y.2) (hk : k < y.1) (hi : i < 4) (h0 : 0 < N) (hN : N < 2 ^ 31) (hD : D < 2 ^ 31) (e1 : σ.1 21 i = nI N) (e2 : σ.1 22 i = nI D) : ∃ σ', RR X (d + 7) 25 [.ref 0, .int (nI i), .int (nI k)] σ (some (.int (nI (dgS T y.1 y.2 k ^ D % N))), σ') ∧ fC σ σ' := by
  have hn := g.2.1
  obtain ⟨σ1, a1, a2, a3⟩ := K78 (X := X) (d := d) hT hc
  have hc1 : cT (σ1.1 1 1) (σ1.1 2) T := by
    rw [a2.2 1 (by omega), a2.2 2 (by omega)]
    exact hc
  obtain ⟨σ2, c1, c2⟩ := K86 (X := X) (d := d + 1) hT g hk hc1 (a3 y h1 h2)
  have f := a2.fC.tr c2.fC
  have z0 : ¬ nI k < 0 := nI_pos (by omega)
  have z1 : nI k < rdI T := by
    rw [rdI_some h1 h2]
    exact nI_lt hk (by omega)
  have hin : mi_in (nI i) 4 = true := mi_in_nI hi (by omega)
  have f1 : σ2.1 21 i = nI N := by rw [f.2 21 (by omega)]; exact e1
  have f2 : σ2.1 22 i = nI D := by rw [f.2 22 (by omega)]; exact e2
  have hdg : dgS T y.1 y.2 k < 2 ^ 31 := by
    have : ∀ (f p h : Nat), h < 65521 → wk T y.1 y.2 k f p h < 65521 := by
      intro f
      induction f with
      | zero => exact fun _ _ h => h
      | succ f ih =>
        intro p h hh
        unfold wk
        split
        · exact hh
        · split
          · split
            · exact ih _ _ hh
            · split
              · exact ih _ _ (ftl_lt hh)
              · cases isS T k (y.2 (ixB y.1 y.2 p)) with
                | true => exact ih _ _ hh
                | false => exact ih _ _ (hst_lt hh)
          · exact ih _ _ (fd_lt _ _)
    have h3 : dgS T y.1 y.2 k < 65521 := ftl_lt (this _ _ _ (fhd_lt (by omega)))
    omega
  have k96 : RR X (d + 6) 96 [.ref 18, .int (nI i), .int (nI (dgS T y.1 y.2 k))] σ2 (some (.int (nI (dgS T y.1 y.2 k ^ D % N))), σ2) := by
    refine mi_R.of rfl rfl (R96_0 (K95t hi (by rw [f1]; exact nI_ne0 h0 hN)) (fun z => absurd z (by decide)) (fun _ => hin) (fun _ => hin) (v2 := nI (dgS T y.1 y.2 k ^ D % N)) (σ2 := σ2) (fun _ => ?_) (fun _ => rfl))
    rw [nI_clamp (by omega), f1, f2]
    exact K98 h0 hN hdg hD
  exact ⟨σ2, mi_R.of rfl rfl (R25_0 (fun z => absurd z z0) (fun _ => a1) (fun _ _ => c1) (fun _ _ => k96) (fun _ _ => rfl) (fun _ z => absurd z1 z)), f⟩
end
theorem dgS_lt (T : List Nat) (n : Nat) (E : Nat → mEl) (k : Nat) : dgS T n E k < 65521 := by
  have : ∀ (f p h : Nat), h < 65521 → wk T n E k f p h < 65521 := by
    intro f
    induction f with
    | zero => exact fun _ _ h => h
    | succ f ih =>
      intro p h hh
      unfold wk
      split
      · exact hh
      · split
        · split
          · exact ih _ _ hh
          · split
            · exact ih _ _ (ftl_lt hh)
            · cases isS T k (E (ixB n E p)) with
              | true => exact ih _ _ hh
              | false => exact ih _ _ (hst_lt hh)
        · exact ih _ _ (fd_lt _ _)
  exact ftl_lt (this _ _ _ (fhd_lt (by omega)))
theorem qseal : qO15 qI := by
  intro a b X n σ hn hI
  obtain ⟨⟨T, h1, h2, h3⟩, -, -, -, -, -, -, hK, -⟩ := id hI
  have hm : ∀ {σ1 : mG}, fC σ σ1 → cT (σ1.1 38 4) (σ1.1 39) T := fun q => by
    rw [q.2 38 (by omega), q.2 39 (by omega)]
    exact h3
  by_cases ha : ¬ a < 0 ∧ ¬ 4 ≤ a
  · obtain ⟨i, hi, rfl⟩ := is4_of ha.1 ha.2
    have hin : mi_in (nI i) 4 = true := mi_in_nI hi (by omega)
    have k125 : ∀ {σ : mG}, RR X 8 125 [.int (nI i)] σ (some (.int 1), σ) := K125t ((is4 _).mp ha).1 ((is4 _).mp ha).2
    obtain ⟨q1, q2, q3⟩ := hK i hi
    have hfm : ∀ {σ1 σ2 : mG}, fC σ σ1 → fM σ1 σ2 → σ2.1 43 (nI i).toNatClampNeg = σ.1 21 i ∧ σ2.1 44 (nI i).toNatClampNeg = σ.1 22 i := fun f1 f2 => by
      rw [nI_clamp (by omega), (f2.1 43 (by omega) (by omega)).1, (f2.1 44 (by omega) (by omega)).1, f1.2 43 (by omega), f1.2 44 (by omega)]
      exact ⟨q1, q2⟩
    by_cases z21 : σ.1 21 i = 0
    · have c95 : RR X 8 95 [.ref 18, .int (nI i)] σ (some (.int 0), σ) := mi_R.of rfl rfl (R95_0 (fun _ => rfl) (fun _ _ => rfl) (fun _ _ => hin) (fun _ _ _ => rfl) (fun _ _ z => absurd (by rw [nI_clamp (by omega)]; exact z21) z))
      have c24 : RR X 9 24 [.ref 0, .int (nI i), .int b] σ (some (.int (-1)), σ) := mi_R.of rfl rfl (R24_0 (v2 := 0) (σ2 := σ) c95 (fun _ => rfl) (fun z => absurd rfl z) (fun z => absurd rfl z))
      have : ∃ v σ2, RR X 8 162 [.ref 38, .int b] σ (some (.int v), σ2) ∧ fM σ σ2 := by
        by_cases hk : okK T b
        · obtain ⟨y, k, y1, y2, y3, y4, rfl⟩ := hk
          obtain ⟨σ2, b1, b2⟩ := K162s (X := X) (d := 2) h1 h3 y1 y2 y3 y4
          exact ⟨_, σ2, b1, b2⟩
        · obtain ⟨σ2, b1, b2⟩ := K162n (X := X) (d := 2) h1 h3 hk
          exact ⟨_, σ2, b1, b2⟩
      obtain ⟨v, σ2, b1, b2⟩ := this
      have z43 : σ2.1 43 (nI i).toNatClampNeg = 0 := (hfm fC.rfl' b2).1.trans z21
      exact ⟨-1, σ, σ2, c24, mi_R.of rfl rfl (R163_0 (v3 := 0) (σ3 := σ) b1 k125 (fun _ => rfl) (fun _ => hin) (fun _ _ => rfl) (fun _ z => absurd z43 z) (fun _ z => absurd z43 z) (fun _ z => absurd z43 z) (fun _ z => absurd z43 z) (fun _ z => absurd z43 z)), qI_skip n σ2 (fM_qI b2 hI)⟩
    · obtain ⟨N, D, n1, n2, n3, n4, n5, n6⟩ := q3.resolve_left z21
      have c95 : RR X 8 95 [.ref 18, .int (nI i)] σ (some (.int 1), σ) := K95t hi z21
      by_cases hk : okK T b
      · obtain ⟨y, k, y1, y2, y3, y4, rfl⟩ := hk
        obtain ⟨σ1, a1, a2⟩ := K25s (X := X) (d := 1) (i := i) h1 h2 y1 y2 y3 y4 hi (show 0 < N by omega) (by omega) (show D < 2 ^ 31 by omega) n5 n6
        obtain ⟨σ2, b1, b2⟩ := K162s (X := X) (d := 2) h1 (hm a2) y1 y2 y3 y4
        obtain ⟨e43, e44⟩ := hfm a2 b2
        have hdg := dgS_lt T y.1 y.2 k
        have z43 : ¬ σ2.1 43 (nI i).toNatClampNeg = 0 := by rw [e43]; exact z21
        refine ⟨_, σ1, σ2, mi_R.of rfl rfl (R24_0 c95 (fun z => absurd z (by decide)) (fun _ => a1) (fun _ => rfl)), mi_R.of rfl rfl (R163_0 (v3 := nI (dgS T y.1 y.2 k ^ D % N)) (σ3 := σ2) b1 k125 (fun z => absurd z (by decide)) (fun _ => hin) (fun _ z => absurd z z43) (fun _ _ _ => hin) (fun _ _ _ => hin) (fun _ _ _ => ?_) (fun _ _ _ => rfl) (fun _ _ z => absurd (nI_pos' (by omega)) z)), qI_skip n σ2 (fM_qI b2 (fC_qI a2 hI))⟩
        rw [e43, e44, n5, n6]
        exact K133 (by omega) (by omega) (by omega) n4
      · obtain ⟨σ1, a1, a2⟩ := K25n (X := X) (d := 1) (i := nI i) h1 h2 hk
        obtain ⟨σ2, b1, b2⟩ := K162n (X := X) (d := 2) h1 (hm a2) hk
        have nz : ¬ (0 : Int32) ≤ -1 := by decide
        exact ⟨-1, σ1, σ2, mi_R.of rfl rfl (R24_0 c95 (fun z => absurd z (by decide)) (fun _ => a1) (fun _ => rfl)), mi_R.of rfl rfl (R163_0 (v3 := 0) (σ3 := σ) b1 k125 (fun _ => rfl) (fun _ => hin) (fun _ _ => rfl) (fun _ _ z => absurd z nz) (fun _ _ z => absurd z nz) (fun _ _ z => absurd z nz) (fun _ _ z => absurd z nz) (fun _ _ _ => rfl)), qI_skip n σ2 (fM_qI b2 (fC_qI a2 hI))⟩
  · have c95 : RR X 8 95 [.ref 18, .int a] σ (some (.int 0), σ) := mi_R.of rfl rfl (R95_0 (fun _ => rfl) (fun _ _ => rfl) (fun z y => absurd ⟨z, y⟩ ha) (fun _ _ _ => rfl) (fun z y => absurd ⟨z, y⟩ ha))
    have c24 : RR X 9 24 [.ref 0, .int a, .int b] σ (some (.int (-1)), σ) := mi_R.of rfl rfl (R24_0 (v2 := 0) (σ2 := σ) c95 (fun _ => rfl) (fun z => absurd rfl z) (fun z => absurd rfl z))
    have : ∃ v σ2, RR X 8 162 [.ref 38, .int b] σ (some (.int v), σ2) ∧ fM σ σ2 := by
      by_cases hk : okK T b
      · obtain ⟨y, k, y1, y2, y3, y4, rfl⟩ := hk
        obtain ⟨σ2, b1, b2⟩ := K162s (X := X) (d := 2) h1 h3 y1 y2 y3 y4
        exact ⟨_, σ2, b1, b2⟩
      · obtain ⟨σ2, b1, b2⟩ := K162n (X := X) (d := 2) h1 h3 hk
        exact ⟨_, σ2, b1, b2⟩
    obtain ⟨v, σ2, b1, b2⟩ := this
    have k125 : ∀ {σ : mG}, RR X 8 125 [.int a] σ (some (.int 0), σ) := K125f fun z => ha ((is4 _).mpr z)
    exact ⟨-1, σ, σ2, c24, mi_R.of rfl rfl (R163_0 (v3 := 0) (σ3 := σ) b1 k125 (fun _ => rfl) (fun z => absurd rfl z) (fun z => absurd rfl z) (fun z => absurd rfl z) (fun z => absurd rfl z) (fun z => absurd rfl z) (fun z => absurd rfl z) (fun z => absurd rfl z)), qI_skip n σ2 (fM_qI b2 hI)⟩
