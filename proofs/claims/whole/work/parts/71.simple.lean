/-! trust, key, request, clear, length, at -/
def kOK (k n e : Int32) : Prop := ¬ k < 0 ∧ ¬ 4 ≤ k ∧ ¬ n < 65521 ∧ ¬ 1000000 < n ∧ ¬ e < 1 ∧ ¬ 1000000 < e
section K
variable {X : Nat × (Nat → Int32)} {d : Nat} {σ : mG} {k n e : Int32}
theorem K3t (h : kOK k n e) : RR X (d + 1) 3 [.int k, .int n, .int e] σ (some (.int 1), σ) := by
  obtain ⟨h1, h2, h3, h4, h5, h6⟩ := h
  exact mi_R.of rfl rfl (R3_0 (fun z => absurd z h1) (fun _ z => absurd z h2) (fun _ _ z => absurd z h3) (fun _ _ _ z => absurd z h4) (fun _ _ _ _ z => absurd z h5) (fun _ _ _ _ _ z => absurd z h6) (fun _ _ _ _ _ _ => rfl))
theorem K3f (h : ¬ kOK k n e) : RR X (d + 1) 3 [.int k, .int n, .int e] σ (some (.int 0), σ) :=
  mi_R.of rfl rfl (R3_0 (fun _ => rfl) (fun _ _ => rfl) (fun _ _ _ => rfl) (fun _ _ _ _ => rfl) (fun _ _ _ _ _ => rfl) (fun _ _ _ _ _ _ => rfl) (fun a b c d e f => absurd ⟨a, b, c, d, e, f⟩ h))
theorem K125t (h1 : ¬ k < 0) (h2 : ¬ 3 < k) : RR X (d + 1) 125 [.int k] σ (some (.int 1), σ) := mi_R.of rfl rfl (R125_0 (fun z => absurd z h1) (fun _ z => absurd z h2) (fun _ _ => rfl))
theorem K125f (h : ¬ (¬ k < 0 ∧ ¬ 3 < k)) : RR X (d + 1) 125 [.int k] σ (some (.int 0), σ) := mi_R.of rfl rfl (R125_0 (fun _ => rfl) (fun _ _ => rfl) (fun a b => absurd ⟨a, b⟩ h))
theorem K126t (h3 : ¬ n < 65521) (h4 : ¬ 1000000 < n) (h5 : ¬ e < 1) (h6 : ¬ 1000000 < e) : RR X (d + 1) 126 [.int n, .int e] σ (some (.int 1), σ) := mi_R.of rfl rfl (R126_0 (fun z => absurd z h3) (fun _ z => absurd z h4) (fun _ _ z => absurd z h5) (fun _ _ _ z => absurd z h6) (fun _ _ _ _ => rfl))
theorem K126f (h : ¬ (¬ n < 65521 ∧ ¬ 1000000 < n ∧ ¬ e < 1 ∧ ¬ 1000000 < e)) : RR X (d + 1) 126 [.int n, .int e] σ (some (.int 0), σ) := mi_R.of rfl rfl (R126_0 (fun _ => rfl) (fun _ _ => rfl) (fun _ _ _ => rfl) (fun _ _ _ _ => rfl) (fun a b c d => absurd ⟨a, b, c, d⟩ h))
end K
theorem is4 (k : Int32) : (¬ k < 0 ∧ ¬ 4 ≤ k) ↔ (¬ k < 0 ∧ ¬ 3 < k) := by
  simp only [Int32.lt_iff_toInt_lt, Int32.le_iff_toInt_le]
  have h3 : (3 : Int32).toInt = 3 := rfl
  have h4 : (4 : Int32).toInt = 4 := rfl
  have h0 : (0 : Int32).toInt = 0 := rfl
  rw [h3, h4, h0]
  omega
theorem is4_of {k : Int32} (h1 : ¬ k < 0) (h2 : ¬ 4 ≤ k) : ∃ j, j < 4 ∧ k = nI j := by
  rcases pk_ix k (n := 4) (by omega) with h | h | h
  · exact absurd h h1
  · exact absurd h h2
  · exact h
theorem iKey_set {a b c d : Nat → Int32} (h : iKey a b c d) {j N E : Nat} (h1 : 65521 ≤ N) (h2 : N ≤ 1000000) (h3 : 1 ≤ E) (h4 : E ≤ 1000000) : iKey (upd a j (nI N)) (upd b j (nI E)) (upd c j (nI N)) (upd d j (nI E)) := by
  intro i hi
  by_cases hij : i = j
  · subst hij
    rw [mi_upd_same, mi_upd_same, mi_upd_same, mi_upd_same]
    exact ⟨rfl, rfl, Or.inr ⟨N, E, h1, h2, h3, h4, rfl, rfl⟩⟩
  · rw [mi_upd_ne _ _ hij, mi_upd_ne _ _ hij, mi_upd_ne _ _ hij, mi_upd_ne _ _ hij]
    exact h i hi
theorem num_of {x : Int32} {a b : Nat} {A B : Int32} (hA : A.toInt = a) (hB : B.toInt = b) (h1 : ¬ x < A) (h2 : ¬ B < x) : ∃ N, a ≤ N ∧ N ≤ b ∧ x = nI N := by
  rw [Int32.lt_iff_toInt_lt, hA] at h1
  rw [Int32.lt_iff_toInt_lt, hB] at h2
  have h0 : ¬ x < 0 := by
    rw [Int32.lt_iff_toInt_lt]
    have : (0 : Int32).toInt = 0 := rfl
    omega
  obtain ⟨j, hj, e⟩ := nI_of h0
  rw [e, nI_toInt hj] at h1 h2
  exact ⟨j, by omega, by omega, e⟩
theorem kOK_of {k n e : Int32} (h : kOK k n e) : ∃ j N E, j < 4 ∧ 65521 ≤ N ∧ N ≤ 1000000 ∧ 1 ≤ E ∧ E ≤ 1000000 ∧ k = nI j ∧ n = nI N ∧ e = nI E := by
  obtain ⟨h1, h2, h3, h4, h5, h6⟩ := h
  obtain ⟨j, hj, e1⟩ := is4_of h1 h2
  obtain ⟨N, a1, a2, e2⟩ := num_of (a := 65521) (b := 1000000) rfl rfl h3 h4
  obtain ⟨E, b1, b2, e3⟩ := num_of (a := 1) (b := 1000000) rfl rfl h5 h6
  exact ⟨j, N, E, hj, a1, a2, b1, b2, e1, e2, e3⟩
theorem qtrust : qO0 qI := by
  intro a b c X n σ hn hI
  by_cases h : kOK a b c
  · have hk := h
    obtain ⟨h1, h2, h3, h4, h5, h6⟩ := h
    obtain ⟨-, i2⟩ := (is4 a).mp ⟨h1, h2⟩
    obtain ⟨j, N, E, hj, a1, a2, b1, b2, rfl, rfl, rfl⟩ := kOK_of hk
    have hin : mi_in (nI j) 4 = true := mi_in_nI hj (by omega)
    refine ⟨1, _, _, mi_R.of rfl rfl (R1_0 (K3t hk) (fun _ => hin) (fun _ => hin) (fun _ => rfl) (fun z => absurd (show ¬ (1 : Int32) = 0 by decide) z)), mi_R.of rfl rfl (R127_0 (K125t h1 i2) (fun z => absurd z (by decide)) (fun _ => K126t h3 h4 h5 h6) (fun _ _ => hin) (fun _ _ => hin) (fun _ _ => rfl) (fun _ z => absurd (show ¬ (1 : Int32) = 0 by decide) z)), ?_⟩
    obtain ⟨g1, g2, g3, g4, g5, g6, g7, g8⟩ := qI_skip n σ hI
    refine ⟨g1, g2, g3, g4, g5, g6, ?_, g8⟩
    show iKey (upd (σ.1 19) (nI j).toNatClampNeg (nI N)) (upd (σ.1 20) (nI j).toNatClampNeg (nI E)) (upd (σ.1 41) (nI j).toNatClampNeg (nI N)) (upd (σ.1 42) (nI j).toNatClampNeg (nI E))
    rw [nI_clamp (by omega)]
    exact iKey_set g7 a1 a2 b1 b2
  · refine ⟨0, σ, σ, mi_R.of rfl rfl (R1_0 (K3f h) (fun z => absurd rfl z) (fun z => absurd rfl z) (fun z => absurd rfl z) (fun _ => rfl)), ?_, qI_skip n σ hI⟩
    by_cases h1 : ¬ a < 0 ∧ ¬ 3 < a
    · have h2 : ¬ (¬ b < 65521 ∧ ¬ 1000000 < b ∧ ¬ c < 1 ∧ ¬ 1000000 < c) := fun z => h ⟨((is4 a).mpr h1).1, ((is4 a).mpr h1).2, z.1, z.2.1, z.2.2.1, z.2.2.2⟩
      exact mi_R.of rfl rfl (R127_0 (K125t h1.1 h1.2) (fun z => absurd z (by decide)) (fun _ => K126f h2) (fun _ z => absurd rfl z) (fun _ z => absurd rfl z) (fun _ z => absurd rfl z) (fun _ _ => rfl))
    · exact mi_R.of rfl rfl (R127_0 (v2 := 0) (σ2 := σ) (K125f h1) (fun _ => rfl) (fun z => absurd rfl z) (fun z => absurd rfl z) (fun z => absurd rfl z) (fun z => absurd rfl z) (fun z => absurd rfl z))
theorem qkey : qO1 qI := by
  intro a b c X n σ hn hI
  by_cases h : kOK a b c
  · have hk := h
    obtain ⟨h1, h2, h3, h4, h5, h6⟩ := h
    obtain ⟨-, i2⟩ := (is4 a).mp ⟨h1, h2⟩
    obtain ⟨j, N, E, hj, a1, a2, b1, b2, rfl, rfl, rfl⟩ := kOK_of hk
    have hin : mi_in (nI j) 4 = true := mi_in_nI hj (by omega)
    refine ⟨1, _, _, mi_R.of rfl rfl (R2_0 (K3t hk) (fun _ => hin) (fun _ => hin) (fun _ => rfl) (fun z => absurd (show ¬ (1 : Int32) = 0 by decide) z)), mi_R.of rfl rfl (R128_0 (K125t h1 i2) (fun z => absurd z (by decide)) (fun _ => K126t h3 h4 h5 h6) (fun _ _ => hin) (fun _ _ => hin) (fun _ _ => rfl) (fun _ z => absurd (show ¬ (1 : Int32) = 0 by decide) z)), ?_⟩
    obtain ⟨g1, g2, g3, g4, g5, g6, g7, g8, g9⟩ := qI_skip n σ hI
    refine ⟨g1, g2, g3, g4, g5, g6, g7, ?_, g9⟩
    show iKey (upd (σ.1 21) (nI j).toNatClampNeg (nI N)) (upd (σ.1 22) (nI j).toNatClampNeg (nI E)) (upd (σ.1 43) (nI j).toNatClampNeg (nI N)) (upd (σ.1 44) (nI j).toNatClampNeg (nI E))
    rw [nI_clamp (by omega)]
    exact iKey_set g8 a1 a2 b1 b2
  · refine ⟨0, σ, σ, mi_R.of rfl rfl (R2_0 (K3f h) (fun z => absurd rfl z) (fun z => absurd rfl z) (fun z => absurd rfl z) (fun _ => rfl)), ?_, qI_skip n σ hI⟩
    by_cases h1 : ¬ a < 0 ∧ ¬ 3 < a
    · have h2 : ¬ (¬ b < 65521 ∧ ¬ 1000000 < b ∧ ¬ c < 1 ∧ ¬ 1000000 < c) := fun z => h ⟨((is4 a).mpr h1).1, ((is4 a).mpr h1).2, z.1, z.2.1, z.2.2.1, z.2.2.2⟩
      exact mi_R.of rfl rfl (R128_0 (K125t h1.1 h1.2) (fun z => absurd z (by decide)) (fun _ => K126f h2) (fun _ z => absurd rfl z) (fun _ z => absurd rfl z) (fun _ z => absurd rfl z) (fun _ _ => rfl))
    · exact mi_R.of rfl rfl (R128_0 (v2 := 0) (σ2 := σ) (K125f h1) (fun _ => rfl) (fun z => absurd rfl z) (fun z => absurd rfl z) (fun z => absurd rfl z) (fun z => absurd rfl z) (fun z => absurd rfl z))
def sRq (σ : mG) (k : Int32) : mG := (mi_uc (mi_uc (mi_uc σ.1 24 (upd (σ.1 24) (σ.1 23 4).toNatClampNeg k)) 25 (upd (σ.1 25) (σ.1 23 4).toNatClampNeg (σ.1 0 12))) 23 (upd (σ.1 23) 4 (σ.1 23 4 + 1)), σ.2)
def sRm (σ : mG) (k : Int32) : mG := (mi_uc (mi_uc (mi_uc σ.1 45 (upd (σ.1 45) (σ.1 38 11).toNatClampNeg (σ.1 38 2))) 46 (upd (σ.1 46) (σ.1 38 11).toNatClampNeg k)) 38 (upd (σ.1 38) 11 (σ.1 38 11 + 1)), σ.2)
section RQ
variable {X : Nat × (Nat → Int32)} {d : Nat} {σ : mG} {a : Int32} {m : Nat}
theorem K5t (h1 : ¬ a < 0) (h2 : ¬ 4 ≤ a) (m2 : σ.1 23 4 = nI m) (hm : m < 30) : RR X (d + 2) 5 [.ref 0, .int a] σ (some (.int (nI m)), sRq σ a) := by
  have hlt : σ.1 23 4 < 30 := by rw [m2]; exact nI_lt (b := 30) hm (by omega)
  have hin : mi_in (σ.1 23 4) 30 = true := by rw [m2]; exact mi_in_nI hm (by omega)
  have k100 : RR X (d + 1) 100 [.ref 23, .int a, .int (σ.1 0 12)] σ (some (.int (σ.1 23 4 + 1 - 1)), sRq σ a) := mi_R.of rfl rfl (R100_0 (fun _ => hin) (fun _ => hin) (fun _ => rfl) (fun z => absurd hlt z))
  have k5 : RR X (d + 2) 5 [.ref 0, .int a] σ (some (.int (σ.1 23 4 + 1 - 1)), sRq σ a) := mi_R.of rfl rfl (R5_0 (fun z => absurd z h1) (fun _ z => absurd z h2) (fun _ _ => k100) (fun _ _ => rfl))
  rw [m2, nI_1, nI_pred] at k5
  exact k5
theorem K130t (h1 : ¬ a < 0) (h2 : ¬ 3 < a) (m3 : σ.1 38 11 = nI m) (hm : m < 30) : RR X (d + 2) 130 [.ref 38, .int a] σ (some (.int (nI m)), sRm σ a) := by
  have hlt : σ.1 38 11 < 30 := by rw [m3]; exact nI_lt (b := 30) hm (by omega)
  have hin : mi_in (σ.1 38 11) 30 = true := by rw [m3]; exact mi_in_nI hm (by omega)
  have k : RR X (d + 2) 130 [.ref 38, .int a] σ (some (.int (σ.1 38 11 + 1 - 1)), sRm σ a) := mi_R.of rfl rfl (R130_0 (K125t h1 h2) (fun z => absurd z (by decide)) (fun _ _ => hin) (fun _ _ => hin) (fun _ _ => rfl) (fun _ z => absurd hlt z))
  rw [m3, nI_1, nI_pred] at k
  exact k
end RQ
theorem qrequest : qO3 qI := by
  intro a X n σ hn hI
  by_cases h1 : ¬ a < 0 ∧ ¬ 4 ≤ a
  · obtain ⟨h1, h2⟩ := h1
    obtain ⟨-, i2⟩ := (is4 a).mp ⟨h1, h2⟩
    have hI' := qI_skip n σ hI
    obtain ⟨g1, g2, ⟨c, hc, e1, e2⟩, g4, g5, g6, g7, g8, ⟨m, m1, m2, m3, m4, m5, m6⟩, g10⟩ := hI'
    by_cases hm : m < 30
    · obtain ⟨j, hj, rfl⟩ := is4_of h1 h2
      refine ⟨nI m, _, _, K5t h1 h2 m2 hm, K130t (σ := sRq σ (nI j)) h1 i2 m3 hm, g1, g2, ⟨c, hc, e1, e2⟩, g4, g5, g6, g7, g8, ⟨m + 1, by omega, ?_, ?_, fun i hi => ?_, m5, fun i hi => m6 i (by omega)⟩, g10⟩
      · show σ.1 23 4 + 1 = nI (m + 1)
        rw [m2, nI_1]
      · show σ.1 38 11 + 1 = nI (m + 1)
        rw [m3, nI_1]
      · show ∃ k c, k < 4 ∧ c ≤ 1000 * (n + 1) ∧ upd (σ.1 24) (σ.1 23 4).toNatClampNeg (nI j) i = nI k ∧ upd (σ.1 46) (σ.1 38 11).toNatClampNeg (nI j) i = nI k ∧ upd (σ.1 25) (σ.1 23 4).toNatClampNeg (σ.1 0 12) i = nI c ∧ upd (σ.1 45) (σ.1 38 11).toNatClampNeg (σ.1 38 2) i = nI c
        rw [m2, m3, nI_clamp (by omega)]
        by_cases hi2 : i = m
        · subst hi2
          rw [mi_upd_same, mi_upd_same, mi_upd_same, mi_upd_same]
          exact ⟨j, c, hj, hc, rfl, rfl, e1, e2⟩
        · rw [mi_upd_ne _ _ hi2, mi_upd_ne _ _ hi2, mi_upd_ne _ _ hi2, mi_upd_ne _ _ hi2]
          exact m4 i (by omega)
    · have l1 : ¬ σ.1 23 4 < 30 := by rw [m2]; exact nI_nlt (b := 30) (by omega) (by omega)
      have l2 : ¬ σ.1 38 11 < 30 := by rw [m3]; exact nI_nlt (b := 30) (by omega) (by omega)
      have k100 : RR X 8 100 [.ref 23, .int a, .int (σ.1 0 12)] σ (some (.int (-1)), σ) := mi_R.of rfl rfl (R100_0 (fun z => absurd z l1) (fun z => absurd z l1) (fun z => absurd z l1) (fun _ => rfl))
      exact ⟨-1, σ, σ, mi_R.of rfl rfl (R5_0 (fun z => absurd z h1) (fun _ z => absurd z h2) (fun _ _ => k100) (fun _ _ => rfl)), mi_R.of rfl rfl (R130_0 (K125t h1 i2) (fun z => absurd z (by decide)) (fun _ z => absurd z l2) (fun _ z => absurd z l2) (fun _ z => absurd z l2) (fun _ _ => rfl)), qI_skip n σ hI⟩
  · have h2 : ¬ (¬ a < 0 ∧ ¬ 3 < a) := fun z => h1 ((is4 a).mpr z)
    exact ⟨-1, σ, σ, mi_R.of rfl rfl (R5_0 (v1 := 0) (σ1 := σ) (fun _ => rfl) (fun _ _ => rfl) (fun z1 z2 => absurd ⟨z1, z2⟩ h1) (fun z1 z2 => absurd ⟨z1, z2⟩ h1)), mi_R.of rfl rfl (R130_0 (K125f h2) (fun _ => rfl) (fun z => absurd rfl z) (fun z => absurd rfl z) (fun z => absurd rfl z) (fun z => absurd rfl z)), qI_skip n σ hI⟩
theorem qlength : qO11 qI := by
  intro X n σ hn hI
  obtain ⟨⟨T, h1, h2, h3⟩, -⟩ := id hI
  refine ⟨nI T.length, σ, σ, mi_R.of rfl rfl (R20_0 (by rw [h2.1])), mi_R.of rfl rfl (R140_0 (by rw [h3.1])), qI_skip n σ hI⟩
