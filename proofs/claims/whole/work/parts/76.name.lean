/-! name: packed words -/
theorem lb_shl {a d : Nat} {D : Int64} (hD : (D.toBitVec.smod 64) = BitVec.ofNat 64 d) (hd : d < 64) : lN a <<< D = lN (a * 2 ^ d) := by
  apply Int64.toBitVec_inj.mp
  rw [Int64.toBitVec_shiftLeft, hD]
  show BitVec.ofNat 64 a <<< BitVec.ofNat 64 d = BitVec.ofNat 64 (a * 2 ^ d)
  apply BitVec.eq_of_toNat_eq
  rw [BitVec.shiftLeft_eq', BitVec.toNat_shiftLeft, BitVec.toNat_ofNat, BitVec.toNat_ofNat, BitVec.toNat_ofNat, Nat.mod_eq_of_lt (show d < 2 ^ 64 by omega), Nat.shiftLeft_eq, Nat.mul_mod, Nat.mod_mod, ← Nat.mul_mod]
theorem lb_shr {a d : Nat} {D : Int64} (hD : (D.toBitVec.smod 64).toNat = d) (h : a < 2 ^ 63) : lN a >>> D = lN (a / 2 ^ d) := by
  have hd : a / 2 ^ d ≤ a := Nat.div_le_self _ _
  apply Int64.toInt_inj.mp
  have e : (lN a >>> D).toInt = (lN a).toInt >>> d := by
    rw [← hD]
    exact BitVec.toInt_sshiftRight ..
  rw [e, Int.shiftRight_eq_div_pow, pk_lT (by omega), pk_lT (by omega)]
  rfl
theorem lb_and {a : Nat} (h : a < 2 ^ 64) : lN a &&& 255 = lN (a % 256) := by
  apply Int64.toBitVec_inj.mp
  apply BitVec.eq_of_toNat_eq
  show (BitVec.ofNat 64 a &&& BitVec.ofNat 64 255).toNat = (BitVec.ofNat 64 (a % 256)).toNat
  rw [BitVec.toNat_and, BitVec.toNat_ofNat, BitVec.toNat_ofNat, BitVec.toNat_ofNat, Nat.mod_eq_of_lt h, Nat.mod_eq_of_lt (show 255 < 2 ^ 64 by decide), Nat.mod_eq_of_lt (show a % 256 < 2 ^ 64 by omega)]
  exact Nat.and_two_pow_sub_one_eq_mod a 8
theorem lb_or {a c : Nat} (hc : c < 256) (h : a * 256 + c < 2 ^ 64) : lN (a * 256) ||| lN c = lN (a * 256 + c) := by
  apply Int64.toBitVec_inj.mp
  apply BitVec.eq_of_toNat_eq
  show (BitVec.ofNat 64 (a * 256) ||| BitVec.ofNat 64 c).toNat = (BitVec.ofNat 64 (a * 256 + c)).toNat
  have g1 : a * 256 % 2 ^ 64 = a * 256 := Nat.mod_eq_of_lt (Nat.lt_of_le_of_lt (Nat.le_add_right _ c) h)
  have g2 : c % 2 ^ 64 = c := Nat.mod_eq_of_lt (Nat.lt_of_le_of_lt (Nat.le_add_left _ _) h)
  have g3 : (a * 256 + c) % 2 ^ 64 = a * 256 + c := Nat.mod_eq_of_lt h
  rw [BitVec.toNat_or, BitVec.toNat_ofNat, BitVec.toNat_ofNat, BitVec.toNat_ofNat, g1, g2, g3]
  have h1 := Nat.shiftLeft_add_eq_or_of_lt (i := 8) (show c < 2 ^ 8 from hc) a
  rw [Nat.shiftLeft_eq] at h1
  exact h1.symm
theorem pk8_snoc (l : List Nat) (c : Nat) : pk8 (l ++ [c]) = pk8 l * 256 + c := by
  unfold pk8
  rw [List.foldl_append]
  rfl
theorem snoc_ind {P : List Nat → Prop} (h0 : P []) (h1 : ∀ l c, P l → P (l ++ [c])) : ∀ l, P l := by
  intro l
  have : ∀ n (l : List Nat), l.length = n → P l := by
    intro n
    induction n with
    | zero => intro l hl; rw [List.eq_nil_of_length_eq_zero hl]; exact h0
    | succ n ih =>
      intro l hl
      rcases List.eq_nil_or_concat l with rfl | ⟨l', c, rfl⟩
      · cases hl
      · rw [List.concat_eq_append] at hl ⊢
        exact h1 l' c (ih l' (by rw [List.length_append] at hl; simpa using hl))
  exact this l.length l rfl
/-- codes that a word may hold -/
def okC (l : List Nat) : Prop := ∀ c ∈ l, 32 ≤ c ∧ c ≤ 126
theorem okC_snoc {l : List Nat} {c : Nat} (h : okC (l ++ [c])) : okC l ∧ 32 ≤ c ∧ c ≤ 126 := ⟨fun x hx => h x (List.mem_append.mpr (Or.inl hx)), h c (List.mem_append.mpr (Or.inr (List.mem_singleton.mpr rfl)))⟩
theorem pk8_lt (l : List Nat) (h : okC l) : 2 * pk8 l < 256 ^ l.length := by
  revert h
  refine snoc_ind (P := fun l => okC l → 2 * pk8 l < 256 ^ l.length) (fun _ => by decide) (fun l c ih h => ?_) l
  obtain ⟨h1, h2, h3⟩ := okC_snoc h
  have := ih h1
  rw [pk8_snoc, List.length_append, List.length_singleton, Nat.pow_succ]
  omega
theorem pk8_63 {l : List Nat} (h : okC l) (hl : l.length ≤ 8) : pk8 l < 2 ^ 63 := by
  have h1 := pk8_lt l h
  have h2 : 256 ^ l.length ≤ 256 ^ 8 := Nat.pow_le_pow_right (by decide) hl
  have h3 : (256 : Nat) ^ 8 = 2 * 2 ^ 63 := by decide
  omega
theorem pk8_inj : ∀ {l m : List Nat}, okC l → okC m → pk8 l = pk8 m → l = m := by
  intro l
  refine snoc_ind (P := fun l => ∀ {m}, okC l → okC m → pk8 l = pk8 m → l = m) (fun {m} _ hm he => ?_) (fun l c ih {m} hl hm he => ?_) l
  · rcases List.eq_nil_or_concat m with rfl | ⟨m', c, rfl⟩
    · rfl
    · rw [List.concat_eq_append] at hm he
      obtain ⟨_, h2, h3⟩ := okC_snoc hm
      rw [pk8_snoc] at he
      have : pk8 [] = 0 := rfl
      omega
  · obtain ⟨h1, h2, h3⟩ := okC_snoc hl
    rcases List.eq_nil_or_concat m with rfl | ⟨m', c', rfl⟩
    · rw [pk8_snoc] at he
      have : pk8 [] = 0 := rfl
      omega
    · rw [List.concat_eq_append] at hm he ⊢
      obtain ⟨g1, g2, g3⟩ := okC_snoc hm
      rw [pk8_snoc, pk8_snoc] at he
      have e1 : c = c' := by omega
      subst e1
      rw [ih h1 g1 (by omega)]
theorem pk8_pos {l : List Nat} (h : okC l) (h1 : l ≠ []) : 0 < pk8 l := by
  rcases List.eq_nil_or_concat l with rfl | ⟨m', c, rfl⟩
  · exact absurd rfl h1
  · rw [List.concat_eq_append] at h ⊢
    have := okC_snoc h
    rw [pk8_snoc]
    omega
theorem pk8_get (l : List Nat) (h : okC l) : ∀ i, i < l.length → pk8 l / 256 ^ (l.length - 1 - i) % 256 = l.getD i 0 := by
  revert h
  refine snoc_ind (P := fun l => okC l → ∀ i, i < l.length → pk8 l / 256 ^ (l.length - 1 - i) % 256 = l.getD i 0) (fun _ i hi => absurd hi (Nat.not_lt_zero i)) (fun l c ih h i hi => ?_) l
  obtain ⟨h1, h2, h3⟩ := okC_snoc h
  rw [List.length_append, List.length_singleton] at hi
  rw [pk8_snoc, List.length_append, List.length_singleton]
  by_cases hz : i = l.length
  · subst hz
    rw [show l.length + 1 - 1 - l.length = 0 by omega, Nat.pow_zero, Nat.div_one, List.getD_eq_getElem?_getD, List.getElem?_append_right (by omega), Nat.sub_self]
    show (pk8 l * 256 + c) % 256 = c
    omega
  · rw [show l.length + 1 - 1 - i = (l.length - 1 - i) + 1 by omega, Nat.pow_succ, Nat.mul_comm (256 ^ _) 256, ← Nat.div_div_eq_div_mul, show (pk8 l * 256 + c) / 256 = pk8 l by omega, ih h1 i (by omega), List.getD_eq_getElem?_getD, List.getD_eq_getElem?_getD, List.getElem?_append_left (by omega)]
theorem okL.c {l : List Nat} (h : okL l) : okC l := h.2.2
section NM
variable {X : Nat × (Nat → Int32)} {d : Nat} {σ : mG} {r : mA mG} {s : Int32} {x : Int32}
theorem L185 : ∀ (l : List Nat), okC l → l.length ≤ 8 → ∀ (k : Nat), TT X d tb185 (some .int) (28, [some (.ref 38), some (.int s), some (.int x), some (.int (nI (k + l.length))), some (.long 0), none], [], σ) r → TT X d tb185 (some .int) (28, [some (.ref 38), some (.int s), some (.int x), some (.int (nI k)), some (.long (lN (pk8 l))), none], [], σ) r := by
  refine snoc_ind (fun _ _ k kk => kk) (fun l c ih h h8 k kk => ?_)
  obtain ⟨h1, h2, h3⟩ := okC_snoc h
  have hb := pk8_63 h h8
  rw [List.length_append, List.length_singleton] at h8 kk
  have hz : ¬ lg_cmp (lN (pk8 (l ++ [c]))) 0 = 0 := by
    rw [lg_cmp_eq, show (0 : Int64) = lN 0 from rfl, pk_lEQ hb (by decide), pk8_snoc]
    omega
  refine R185_28 (fun z => absurd z hz) (fun z => absurd z hz) (fun z => absurd z hz) (fun _ => ?_)
  rw [lb_shr (d := 8) (by decide) hb, pk8_snoc, show (pk8 l * 256 + c) / 2 ^ 8 = pk8 l by omega, nI_1]
  refine ih h1 (by omega) (k + 1) ?_
  rw [show k + 1 + l.length = k + (l.length + 1) by omega]
  exact kk
end NM
theorem shN (k : Nat) (h : k < 8) : (((8 : Int32) * nI k).toInt64 &&& 63).toBitVec.smod 64 = BitVec.ofNat 64 (8 * k) := by
  have : ∀ k, k < 8 → (((8 : Int32) * nI k).toInt64 &&& 63).toBitVec.smod 64 = BitVec.ofNat 64 (8 * k) := by decide +kernel
  exact this k h
theorem qname : qO18 qI := by
  intro a b X n σ hn hI
  obtain ⟨-, -, -, -, -, -, -, -, -, ⟨m, m1, m2, m3, m4, m5⟩, -⟩ := id hI
  have e2 : ∀ x, σ.1 30 3 ≤ x ↔ nI m ≤ x := fun x => by rw [m2]
  have e3 : ∀ x, σ.1 38 15 ≤ x ↔ nI m ≤ x := fun x => by rw [m3]
  by_cases hp : ¬ a < 0 ∧ ¬ nI m ≤ a ∧ ¬ b < 0
  · obtain ⟨p0, p1, b0⟩ := hp
    obtain ⟨i1, i2⟩ := in_of p0 p1 m1 (by omega : 20 < 2 ^ 31)
    obtain ⟨k, l, k1, ⟨k2, k2', k2''⟩, k3, k4, ⟨k5, k5'⟩, k6, k7⟩ := m4 _ i2
    have hb := pk8_63 k2'' k2'
    obtain ⟨s, hs, rfl⟩ := nI_of p0
    obtain ⟨j, hj, rfl⟩ := nI_of b0
    rw [nI_clamp hs] at i2 k5 k5' k6
    by_cases hjl : j < l.length
    · have z1 : ¬ σ.1 32 (nI s).toNatClampNeg ≤ nI j := by rw [nI_clamp hs, k5]; exact nI_ge hjl (by omega)
      have z2 : nI j < nI (0 + l.length) := nI_lt (by omega) (by omega)
      refine ⟨nI (l.getD j 0), σ, σ, mi_R.of rfl rfl (R28_0 (mi_R.of rfl rfl (R113a_0 (fun z => absurd z p0) (fun _ z => absurd ((e2 _).mp z) p1) (fun _ _ z => absurd z b0) (fun _ _ _ => i1) (fun _ _ _ z => absurd z z1) (fun _ _ _ _ => ?_) (fun _ _ _ _ => ?_))) rfl), mi_R.of rfl rfl (R185_0 (fun z => absurd z p0) (fun _ z => absurd ((e3 _).mp z) p1) (fun _ _ _ => i1) (fun _ _ _ => ?_) (fun _ _ z => absurd (Int32.not_lt.mp b0) z)), qI_skip n σ hI⟩
      · rw [show (8 : Int32) = nI 8 from rfl, pk_mul, nI_add]
        exact mi_in_nI (by omega) (by omega)
      · rw [show (8 : Int32) = nI 8 from rfl, pk_mul, nI_add, nI_clamp (by omega), Nat.mul_comm, k5' j hjl]
      · rw [nI_clamp hs, k6]
        refine L185 l k2'' k2' 0 (R185_28 (fun _ _ => i1) (fun _ _ => ?_) (fun _ z => absurd z2 z) (fun z => absurd rfl z))
        rw [nI_clamp hs, k6, Nat.zero_add, show (1 : Int32) = nI 1 from rfl, pk_sub (by omega), pk_sub (by omega), lb_shr (d := 8 * (l.length - 1 - j)) (by rw [shN _ (by omega)]; rw [BitVec.toNat_ofNat]; omega) hb, lb_and (by have := Nat.div_le_self (pk8 l) (2 ^ (8 * (l.length - 1 - j))); omega), lN_i, Nat.pow_mul]
        show (_ : mA mG) = (some (Value.int (nI (pk8 l / 256 ^ (l.length - 1 - j) % 256))), σ)
        rw [pk8_get l k2'' j hjl]
    · have z1 : σ.1 32 (nI s).toNatClampNeg ≤ nI j := by rw [nI_clamp hs, k5]; exact nI_le (by omega) (by omega)
      have z2 : ¬ nI j < nI (0 + l.length) := nI_nlt (by omega) (by omega)
      refine ⟨-1, σ, σ, mi_R.of rfl rfl (R28_0 (mi_R.of rfl rfl (R113a_0 (fun _ => rfl) (fun _ _ => rfl) (fun _ _ _ => rfl) (fun _ _ _ => i1) (fun _ _ _ _ => rfl) (fun _ _ _ z => absurd z1 z) (fun _ _ _ z => absurd z1 z))) rfl), mi_R.of rfl rfl (R185_0 (fun z => absurd z p0) (fun _ z => absurd ((e3 _).mp z) p1) (fun _ _ _ => i1) (fun _ _ _ => ?_) (fun _ _ z => absurd (Int32.not_lt.mp b0) z)), qI_skip n σ hI⟩
      rw [nI_clamp hs, k6]
      exact L185 l k2'' k2' 0 (R185_28 (fun _ z => absurd z z2) (fun _ z => absurd z z2) (fun _ _ => rfl) (fun z => absurd rfl z))
  · have n1 : ¬ a < 0 → ¬ nI m ≤ a → b < 0 := fun z1 z2 => Classical.byContradiction fun z3 => hp ⟨z1, z2, z3⟩
    have n2 : ¬ a < 0 → ¬ σ.1 30 3 ≤ a → b < 0 := fun z1 z2 => n1 z1 (fun y => z2 ((e2 a).mpr y))
    have n3 : ¬ a < 0 → ¬ σ.1 38 15 ≤ a → ¬ 0 ≤ b := fun z1 z2 z3 => absurd (n1 z1 (fun y => z2 ((e3 a).mpr y))) (Int32.not_lt.mpr z3)
    exact ⟨-1, σ, σ, mi_R.of rfl rfl (R28_0 (mi_R.of rfl rfl (R113a_0 (fun _ => rfl) (fun _ _ => rfl) (fun _ _ _ => rfl) (fun z1 z2 z3 => absurd (n2 z1 z2) z3) (fun _ _ _ _ => rfl) (fun z1 z2 z3 => absurd (n2 z1 z2) z3) (fun z1 z2 z3 => absurd (n2 z1 z2) z3))) rfl), mi_R.of rfl rfl (R185_0 (fun _ => rfl) (fun _ _ => rfl) (fun z1 z2 z3 => absurd z3 (n3 z1 z2)) (fun z1 z2 z3 => absurd z3 (n3 z1 z2)) (fun _ _ _ => rfl)), qI_skip n σ hI⟩
