/-! clear, at, write, set, session, outstanding -/
section T0
variable {X : Nat × (Nat → Int32)} {d : Nat} {σ : mG} {T : List Nat}
/-- the code at a place, or -1 -/
def cdA (T : List Nat) (x : Int32) : Int32 := if x < 0 then -1 else if nI T.length ≤ x then -1 else nI (T.getD x.toNatClampNeg 0)
theorem in_of {x : Int32} {n m : Nat} (h0 : ¬ x < 0) (h1 : ¬ nI n ≤ x) (hn : n ≤ m) (hm : m < 2 ^ 31) : mi_in x m = true ∧ x.toNatClampNeg < n := by
  rcases pk_ix x (n := n) (by omega) with h | h | ⟨j, hj, rfl⟩
  · exact absurd h h0
  · exact absurd h h1
  · exact ⟨mi_in_nI (by omega) hm, by rw [nI_clamp (by omega)]; exact hj⟩
theorem K39 (hT : okT T) (h : cT (σ.1 1 1) (σ.1 2) T) (x : Int32) : RR X (d + 1) 39 [.ref 1, .int x] σ (some (.int (cdA T x)), σ) := by
  obtain ⟨h1, h2⟩ := h
  refine mi_R.of rfl rfl (R39_0 (fun z => ?_) (fun z1 z2 => ?_) (fun z1 z2 => ?_) (fun z1 z2 => ?_))
  · rw [cdA, if_pos z]
  · rw [h1] at z2
    rw [cdA, if_neg z1, if_pos z2]
  · rw [h1] at z2
    exact (in_of z1 z2 hT.1 (by omega)).1
  · rw [h1] at z2
    rw [cdA, if_neg z1, if_neg z2, h2 _ (in_of z1 z2 hT.1 (by omega)).2]
theorem K141 (hT : okT T) (h : cT (σ.1 38 4) (σ.1 39) T) (x : Int32) : RR X (d + 1) 141 [.ref 38, .int x] σ (some (.int (cdA T x)), σ) := by
  obtain ⟨h1, h2⟩ := h
  refine mi_R.of rfl rfl (R141_0 (fun z => ?_) (fun z1 z2 => ?_) (fun z1 z2 => ?_) (fun z1 z2 => ?_))
  · rw [cdA, if_pos z]
  · rw [h1] at z2
    rw [cdA, if_neg z1, if_pos z2]
  · rw [h1] at z2
    exact (in_of z1 z2 hT.1 (by omega)).1
  · rw [h1] at z2
    rw [cdA, if_neg z1, if_neg z2, h2 _ (in_of z1 z2 hT.1 (by omega)).2]
end T0
theorem qat : qO12 qI := by
  intro a X n σ hn hI
  obtain ⟨⟨T, h1, h2, h3⟩, -⟩ := id hI
  exact ⟨cdA T a, σ, σ, mi_R.of rfl rfl (R21_0 (K39 h1 h2 a) rfl), K141 h1 h3 a, qI_skip n σ hI⟩
theorem okT_nil : okT [] := ⟨by decide, fun c h => by cases h⟩
theorem cT_nil (f : Nat → Int32) : cT 0 f [] := ⟨rfl, fun i h => absurd h (Nat.not_lt_zero i)⟩
theorem qclear : qO10 qI := by
  intro X n σ hn hI
  obtain ⟨⟨T, h1, h2, h3⟩, hr⟩ := qI_skip n σ hI
  have hz : ¬ σ.1 1 1 < 0 := by
    rw [h2.1]
    exact nI_pos (by have := h1.1; omega)
  exact ⟨_, _, mi_R.of rfl rfl (R19_0 (mi_R.of rfl rfl (R43_0 (fun z => absurd z (by decide)) (fun _ z => absurd z hz) (fun _ _ => rfl))) rfl), mi_R.of rfl rfl (R139_0 rfl), ⟨[], okT_nil, cT_nil _, cT_nil _⟩, hr⟩
theorem okT_snoc {T : List Nat} {c : Nat} (h : okT T) (hl : T.length < 400) (h1 : 32 ≤ c) (h2 : c ≤ 126) : okT (T ++ [c]) := by
  refine ⟨by simp; omega, fun x hx => ?_⟩
  rcases List.mem_append.mp hx with z | z
  · exact h.2 x z
  · rw [List.mem_singleton.mp z]
    exact ⟨h1, h2⟩
theorem cT_snoc {a : Int32} {f : Nat → Int32} {T : List Nat} {c : Nat} (h : cT a f T) (hl : T.length < 400) : cT (a + 1) (upd f a.toNatClampNeg (nI c)) (T ++ [c]) := by
  obtain ⟨h1, h2⟩ := h
  subst h1
  refine ⟨by rw [nI_1]; simp, fun i hi => ?_⟩
  rw [nI_clamp (by omega)]
  have hi : i < T.length + 1 := by simpa using hi
  by_cases hz : i = T.length
  · subst hz
    rw [mi_upd_same]
    simp
  · rw [mi_upd_ne _ _ hz, h2 i (by omega)]
    rw [List.getD_eq_getElem?_getD, List.getD_eq_getElem?_getD, List.getElem?_append_left (by omega)]
theorem nar1 {c : Nat} (h : c ≤ 126) : mi_nar 1 (nI c) = nI c := by
  have h1 : ∀ c, c < 127 → mi_nar 1 (nI c) = nI c := by decide +kernel
  exact h1 c (by omega)
theorem char_of {a : Int32} (h1 : ¬ a < 32) (h2 : ¬ 126 < a) : ∃ c, 32 ≤ c ∧ c ≤ 126 ∧ a = nI c := num_of (a := 32) (b := 126) rfl rfl h1 h2
section T1
variable {X : Nat × (Nat → Int32)} {d : Nat} {σ : mG} {a : Int32}
theorem K14t (h1 : ¬ a < 32) (h2 : ¬ 126 < a) : RR X (d + 1) 14 [.int a] σ (some (.int 1), σ) := mi_R.of rfl rfl (R14_0 (fun z => absurd z h1) (fun _ z => absurd z h2) (fun _ _ => rfl))
theorem K14f (h : ¬ (¬ a < 32 ∧ ¬ 126 < a)) : RR X (d + 1) 14 [.int a] σ (some (.int 0), σ) := mi_R.of rfl rfl (R14_0 (fun _ => rfl) (fun _ _ => rfl) (fun a b => absurd ⟨a, b⟩ h))
theorem K134t (h1 : ¬ a < 32) (h2 : ¬ 126 < a) : RR X (d + 1) 134 [.int a] σ (some (.int 1), σ) := mi_R.of rfl rfl (R134_0 (fun z => absurd z h1) (fun _ z => absurd z h2) (fun _ _ => rfl))
theorem K134f (h : ¬ (¬ a < 32 ∧ ¬ 126 < a)) : RR X (d + 1) 134 [.int a] σ (some (.int 0), σ) := mi_R.of rfl rfl (R134_0 (fun _ => rfl) (fun _ _ => rfl) (fun a b => absurd ⟨a, b⟩ h))
/-- a text with one code more -/
def pT (σ : mG) (x : Int32) : mG := (mi_uc (mi_uc σ.1 2 (upd (σ.1 2) (σ.1 1 1).toNatClampNeg x)) 1 (upd (σ.1 1) 1 (σ.1 1 1 + 1)), σ.2)
theorem K40t {T : List Nat} {c : Nat} (h : cT (σ.1 1 1) (σ.1 2) T) (hl : T.length < 400) (hc : c ≤ 126) : RR X (d + 1) 40 [.ref 1, .int (nI c)] σ (some (.int 1), pT σ (nI c)) := by
  have h1 : σ.1 1 1 < 400 := by rw [h.1]; exact nI_lt (b := 400) hl (by omega)
  refine mi_R.of rfl rfl (R40_0 (fun _ => by rw [h.1]; exact mi_in_nI hl (by omega)) (fun _ => ?_) (fun z => absurd h1 z))
  rw [nar1 hc]
  rfl
end T1
theorem qwrite : qO6 qI := by
  intro a0 X n σ hn hI
  generalize (a0.toUInt32 % 65536).toInt32 = a
  obtain ⟨⟨T, h1, h2, h3⟩, hr⟩ := qI_skip n σ hI
  by_cases h : ¬ a < 32 ∧ ¬ 126 < a
  · obtain ⟨c, c1, c2, rfl⟩ := char_of h.1 h.2
    by_cases hl : T.length < 400
    · have e3 : σ.1 38 4 < 400 := by rw [h3.1]; exact nI_lt (b := 400) hl (by omega)
      refine ⟨1, _, _, mi_R.of rfl rfl (R15_0 (K14t h.1 h.2) (fun z => absurd z (by decide)) (fun _ => K40t h2 hl c2) (fun _ z => absurd z (by decide)) (fun _ _ => rfl)), mi_R.of rfl rfl (R135_0 (K134t h.1 h.2) (fun z => absurd z (by decide)) (fun _ _ => ?_) (fun _ _ => rfl) (fun _ z => absurd e3 z)), ⟨T ++ [c], okT_snoc h1 hl c1 c2, ?_, ?_⟩, hr⟩
      · show mi_in (σ.1 38 4) 400 = true
        rw [h3.1]
        exact mi_in_nI hl (by omega)
      · exact cT_snoc h2 hl
      · exact cT_snoc h3 hl
    · have e2 : ¬ σ.1 1 1 < 400 := by rw [h2.1]; exact nI_nlt (b := 400) (by omega) (by have := h1.1; omega)
      have e3 : ¬ σ.1 38 4 < 400 := by rw [h3.1]; exact nI_nlt (b := 400) (by omega) (by have := h1.1; omega)
      exact ⟨0, σ, σ, mi_R.of rfl rfl (R15_0 (K14t h.1 h.2) (fun z => absurd z (by decide)) (fun _ => mi_R.of rfl rfl (R40_0 (fun z => absurd z e2) (fun z => absurd z e2) (fun _ => rfl))) (fun _ _ => rfl) (fun _ z => absurd rfl z)), mi_R.of rfl rfl (R135_0 (K134t h.1 h.2) (fun z => absurd z (by decide)) (fun _ z => absurd z e3) (fun _ z => absurd z e3) (fun _ _ => rfl)), qI_skip n σ hI⟩
  · exact ⟨0, σ, σ, mi_R.of rfl rfl (R15_0 (v2 := 0) (σ2 := σ) (K14f h) (fun _ => rfl) (fun z => absurd rfl z) (fun z => absurd rfl z) (fun z => absurd rfl z)), mi_R.of rfl rfl (R135_0 (K134f h) (fun _ => rfl) (fun z => absurd rfl z) (fun z => absurd rfl z) (fun z => absurd rfl z)), qI_skip n σ hI⟩
theorem okT_set {T : List Nat} {c : Nat} (h : okT T) (k : Nat) (h1 : 32 ≤ c) (h2 : c ≤ 126) : okT (T.set k c) := by
  refine ⟨by rw [List.length_set]; exact h.1, fun x hx => ?_⟩
  rcases List.mem_or_eq_of_mem_set hx with z | z
  · exact h.2 x z
  · rw [z]
    exact ⟨h1, h2⟩
theorem cT_set {a : Int32} {f : Nat → Int32} {T : List Nat} {c k : Nat} (h : cT a f T) : cT a (upd f k (nI c)) (T.set k c) := by
  obtain ⟨h1, h2⟩ := h
  refine ⟨by rw [List.length_set]; exact h1, fun i hi => ?_⟩
  rw [List.length_set] at hi
  by_cases hz : i = k
  · subst hz
    rw [mi_upd_same, List.getD_eq_getElem?_getD, List.getElem?_set_self hi]
    rfl
  · rw [mi_upd_ne _ _ hz, h2 i hi, List.getD_eq_getElem?_getD, List.getD_eq_getElem?_getD, List.getElem?_set_ne (Ne.symm hz)]
theorem qset : qO7 qI := by
  intro p b0 X n σ hn hI
  generalize (b0.toUInt32 % 65536).toInt32 = a
  obtain ⟨⟨T, h1, h2, h3⟩, hr⟩ := qI_skip n σ hI
  have e2 : ∀ x, σ.1 1 1 ≤ x ↔ nI T.length ≤ x := fun x => by rw [h2.1]
  have e3 : ∀ x, σ.1 38 4 ≤ x ↔ nI T.length ≤ x := fun x => by rw [h3.1]
  by_cases hp : ¬ p < 0 ∧ ¬ nI T.length ≤ p
  · obtain ⟨p0, p1⟩ := hp
    obtain ⟨i1, i2⟩ := in_of p0 p1 h1.1 (by omega : 400 < 2 ^ 31)
    have k13 : RR X 8 13 [.int p, .int (σ.1 1 1)] σ (some (.int 1), σ) := mi_R.of rfl rfl (R13_0 (fun z => absurd z p0) (fun _ z => absurd ((e2 p).mp z) p1) (fun _ _ => rfl))
    by_cases h : ¬ a < 32 ∧ ¬ 126 < a
    · obtain ⟨c, c1, c2, rfl⟩ := char_of h.1 h.2
      refine ⟨1, _, _, mi_R.of rfl rfl (R16_0 k13 (fun z => absurd z (by decide)) (fun _ => K14t h.1 h.2) (fun _ _ => i1) (fun _ _ => rfl) (fun _ z => absurd (show ¬ (1 : Int32) = 0 by decide) z)), mi_R.of rfl rfl (R136_0 (fun z => absurd z p0) (fun _ z => absurd ((e3 p).mp z) p1) (fun _ _ => K134t h.1 h.2) (fun _ _ _ => i1) (fun _ _ _ => rfl) (fun _ _ z => absurd (show ¬ (1 : Int32) = 0 by decide) z)), ⟨T.set p.toNatClampNeg c, okT_set h1 _ c1 c2, ?_, ?_⟩, hr⟩
      · show cT (σ.1 1 1) (upd (σ.1 2) p.toNatClampNeg (mi_nar 1 (nI c))) (T.set p.toNatClampNeg c)
        rw [nar1 c2]
        exact cT_set h2
      · exact cT_set h3
    · exact ⟨0, σ, σ, mi_R.of rfl rfl (R16_0 k13 (fun z => absurd z (by decide)) (fun _ => K14f h) (fun _ z => absurd rfl z) (fun _ z => absurd rfl z) (fun _ _ => rfl)), mi_R.of rfl rfl (R136_0 (fun z => absurd z p0) (fun _ z => absurd ((e3 p).mp z) p1) (fun _ _ => K134f h) (fun _ _ z => absurd rfl z) (fun _ _ z => absurd rfl z) (fun _ _ _ => rfl)), qI_skip n σ hI⟩
  · have k13 : RR X 8 13 [.int p, .int (σ.1 1 1)] σ (some (.int 0), σ) := mi_R.of rfl rfl (R13_0 (fun _ => rfl) (fun _ _ => rfl) (fun z1 z2 => absurd ⟨z1, fun z => z2 ((e2 p).mpr z)⟩ hp))
    exact ⟨0, σ, σ, mi_R.of rfl rfl (R16_0 (v2 := 0) (σ2 := σ) k13 (fun _ => rfl) (fun z => absurd rfl z) (fun z => absurd rfl z) (fun z => absurd rfl z) (fun z => absurd rfl z)), mi_R.of rfl rfl (R136_0 (v1 := 0) (σ1 := σ) (fun _ => rfl) (fun _ _ => rfl) (fun z1 z2 => absurd ⟨z1, fun z => z2 ((e3 p).mpr z)⟩ hp) (fun z1 z2 => absurd ⟨z1, fun z => z2 ((e3 p).mpr z)⟩ hp) (fun z1 z2 => absurd ⟨z1, fun z => z2 ((e3 p).mpr z)⟩ hp) (fun z1 z2 => absurd ⟨z1, fun z => z2 ((e3 p).mpr z)⟩ hp)), qI_skip n σ hI⟩
theorem qsession : qO17 qI := by
  intro a X n σ hn hI
  obtain ⟨-, -, -, -, -, -, -, -, -, ⟨m, m1, m2, m3, m4, m5⟩, -⟩ := id hI
  by_cases hp : ¬ a < 0 ∧ ¬ nI m ≤ a
  · obtain ⟨p0, p1⟩ := hp
    obtain ⟨i1, i2⟩ := in_of p0 p1 m1 (by omega : 20 < 2 ^ 31)
    obtain ⟨k, l, k1, k2, k3, k4, k5, k6, k7⟩ := m4 _ i2
    have ha : a < 20 := by
      obtain ⟨j, hj, rfl⟩ := nI_of p0
      rw [nI_clamp hj] at i2
      exact nI_lt (b := 20) (by omega) (by omega)
    have p1' : a < σ.1 38 15 := by rw [m3]; exact Int32.not_le.mp p1
    rcases k7 with ⟨o1, o2⟩ | ⟨o1, o2⟩
    · refine ⟨1 + nI k, σ, σ, mi_R.of rfl rfl (R27_0 (mi_R.of rfl rfl (R109_0 (fun z => absurd z p0) (fun _ z => absurd (by rw [m2] at z; exact z) p1) (fun _ _ _ => i1) (fun _ _ _ z => absurd (o1.symm.trans z) (by decide)) (fun _ _ _ _ => i1) (fun _ _ _ _ => by rw [k3]) (fun _ _ z => absurd ha z))) rfl), mi_R.of rfl rfl (R184_0 (fun z => absurd z p0) (fun _ _ => i1) (fun _ _ _ => i1) (fun _ _ _ => by rw [k4]) (fun _ _ z => absurd o2 z) (fun _ z => absurd p1' z)), qI_skip n σ hI⟩
    · refine ⟨0, σ, σ, mi_R.of rfl rfl (R27_0 (mi_R.of rfl rfl (R109_0 (fun z => absurd z p0) (fun _ z => absurd (by rw [m2] at z; exact z) p1) (fun _ _ _ => i1) (fun _ _ _ _ => rfl) (fun _ _ _ z => absurd o1 z) (fun _ _ _ z => absurd o1 z) (fun _ _ z => absurd ha z))) rfl), mi_R.of rfl rfl (R184_0 (fun z => absurd z p0) (fun _ _ => i1) (fun _ _ z => absurd (o2.symm.trans z) (by decide)) (fun _ _ z => absurd (o2.symm.trans z) (by decide)) (fun _ _ _ => rfl) (fun _ z => absurd p1' z)), qI_skip n σ hI⟩
  · have q1 : ¬ a < 0 → σ.1 30 3 ≤ a := fun z => by rw [m2]; exact Classical.byContradiction fun y => hp ⟨z, y⟩
    have q2 : ¬ a < 0 → ¬ a < σ.1 38 15 := fun z => by rw [m3]; exact Int32.not_lt.mpr (Classical.byContradiction fun y => hp ⟨z, y⟩)
    exact ⟨-1, σ, σ, mi_R.of rfl rfl (R27_0 (mi_R.of rfl rfl (R109_0 (fun _ => rfl) (fun _ _ => rfl) (fun z y => absurd (q1 z) y) (fun z y => absurd (q1 z) y) (fun z y => absurd (q1 z) y) (fun z y => absurd (q1 z) y) (fun z y => absurd (q1 z) y))) rfl), mi_R.of rfl rfl (R184_0 (fun _ => rfl) (fun z y => absurd y (q2 z)) (fun z y => absurd y (q2 z)) (fun z y => absurd y (q2 z)) (fun z y => absurd y (q2 z)) (fun _ _ => rfl)), qI_skip n σ hI⟩
