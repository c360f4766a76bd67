/-! cut: the reference's loops, and the pair -/
/-- k elements of f from p on, written to the places from i on -/
def lpA (f : Nat → Int32) (p : Nat) : Nat → Nat → (Nat → Int32) → (Nat → Int32)
  | 0, _, g => g
  | k + 1, i, g => lpA f p k (i + 1) (upd g i (f (p + i)))
/-- k elements from i on, moved down by s -/
def lpB (s : Nat) : Nat → Nat → (Nat → Int32) → (Nat → Int32)
  | 0, _, g => g
  | k + 1, i, g => lpB s k (i + 1) (upd g (i - s) (g i))
theorem lpA_lo (f : Nat → Int32) (p : Nat) : ∀ (k i : Nat) (g : Nat → Int32) (j : Nat), j < i → lpA f p k i g j = g j := by
  intro k
  induction k with
  | zero => intro i g j _; rfl
  | succ k ih =>
    intro i g j hj
    show lpA f p k (i + 1) (upd g i (f (p + i))) j = g j
    rw [ih (i + 1) _ j (by omega), mi_upd_ne _ _ (by omega)]
theorem lpA_in (f : Nat → Int32) (p : Nat) : ∀ (k i : Nat) (g : Nat → Int32) (j : Nat), i ≤ j → j < i + k → lpA f p k i g j = f (p + j) := by
  intro k
  induction k with
  | zero => intro i g j h1 h2; omega
  | succ k ih =>
    intro i g j h1 h2
    show lpA f p k (i + 1) (upd g i (f (p + i))) j = f (p + j)
    by_cases hz : j = i
    · subst hz
      rw [lpA_lo f p k (j + 1) _ j (by omega), mi_upd_same]
    · exact ih (i + 1) _ j (by omega) (by omega)
theorem lpB_lo (s : Nat) : ∀ (k i : Nat) (g : Nat → Int32) (j : Nat), s ≤ i → j < i - s → lpB s k i g j = g j := by
  intro k
  induction k with
  | zero => intro i g j _ _; rfl
  | succ k ih =>
    intro i g j hs hj
    show lpB s k (i + 1) (upd g (i - s) (g i)) j = g j
    rw [ih (i + 1) _ j (by omega) (by omega), mi_upd_ne _ _ (by omega)]
theorem lpB_in (s : Nat) : ∀ (k i : Nat) (g : Nat → Int32) (j : Nat), s ≤ i → i - s ≤ j → j < i - s + k → lpB s k i g j = g (j + s) := by
  intro k
  induction k with
  | zero => intro i g j _ h1 h2; omega
  | succ k ih =>
    intro i g j hs h1 h2
    show lpB s k (i + 1) (upd g (i - s) (g i)) j = g (j + s)
    by_cases hz : j = i - s
    · subst hz
      rw [lpB_lo s k (i + 1) _ _ (by omega) (by omega), mi_upd_same, show i - s + s = i by omega]
    · rw [ih (i + 1) _ j (by omega) (by omega) (by omega)]
      by_cases h0 : j + s = i - s
      · omega
      · rw [mi_upd_ne _ _ h0]
section CU
variable {X : Nat × (Nat → Int32)} {d : Nat} {σ : mG} {r : mA mG}
theorem L137a {p q : Nat} (hs : σ.1 38 6 = nI (q - p)) (hpq : p ≤ q) (hq : q ≤ 400) : ∀ (k i : Nat) (g : Nat → Int32), i + k = q - p → TT X d tb137 (some .boolean) (58, [some (.ref 38), some (.int (nI p)), some (.int (nI q)), some (.int (nI q))], [], (mi_uc σ.1 40 (lpA (σ.1 39) p k i g), σ.2)) r → TT X d tb137 (some .boolean) (28, [some (.ref 38), some (.int (nI p)), some (.int (nI q)), some (.int (nI i))], [], (mi_uc σ.1 40 g, σ.2)) r := by
  intro k
  induction k with
  | zero =>
    intro i g hi kk
    have h1 : σ.1 38 6 ≤ nI i := by rw [hs]; exact nI_le (by omega) (by omega)
    exact R137_28 (fun _ => kk) (fun z => absurd h1 z) (fun z => absurd h1 z) (fun z => absurd h1 z)
  | succ k ih =>
    intro i g hi kk
    have h1 : ¬ σ.1 38 6 ≤ nI i := by rw [hs]; exact nI_ge (by omega) (by omega)
    refine R137_28 (fun z => absurd z h1) (fun _ => ?_) (fun _ => mi_in_nI (by omega) (by omega)) (fun _ => ?_)
    · rw [nI_add]
      exact mi_in_nI (by omega) (by omega)
    · have h2 := ih (i + 1) (upd g i (σ.1 39 (p + i))) (by omega) kk
      rw [nI_succ] at h2
      show TT X d tb137 (some .boolean) (28, _, [], (mi_uc (mi_uc σ.1 40 g) 40 (upd g (nI i).toNatClampNeg (σ.1 39 (nI p + nI i).toNatClampNeg)), σ.2)) r
      rw [mi_uc_uc, nI_add, nI_clamp (by omega), nI_clamp (by omega)]
      exact h2
theorem L137b {p q n : Nat} (hn : σ.1 38 4 = nI n) (hs : σ.1 38 6 = nI (q - p)) (hpq : p ≤ q) (h4 : n ≤ 400) : ∀ (k i : Nat) (g : Nat → Int32), i + k = n → q ≤ i → r = (some (.int 1), (mi_uc (mi_uc σ.1 39 (lpB (q - p) k i g)) 38 (upd (σ.1 38) 4 (nI (n - (q - p)))), σ.2)) → TT X d tb137 (some .boolean) (58, [some (.ref 38), some (.int (nI p)), some (.int (nI q)), some (.int (nI i))], [], (mi_uc σ.1 39 g, σ.2)) r := by
  intro k
  induction k with
  | zero =>
    intro i g hi hqi kk
    have h1 : σ.1 38 4 ≤ nI i := by rw [hn]; exact nI_le (by omega) (by omega)
    refine R137_58 (fun _ => ?_) (fun z => absurd h1 z) (fun z => absurd h1 z) (fun z => absurd h1 z)
    rw [kk]
    show (_ : mA mG) = (some (Value.int 1), (mi_uc (mi_uc σ.1 39 g) 38 (upd (σ.1 38) 4 (σ.1 38 4 - σ.1 38 6)), σ.2))
    rw [hn, hs, pk_sub (by omega)]
    rfl
  | succ k ih =>
    intro i g hi hqi kk
    have h1 : ¬ σ.1 38 4 ≤ nI i := by rw [hn]; exact nI_ge (by omega) (by omega)
    have e1 : nI i - σ.1 38 6 = nI (i - (q - p)) := by rw [hs]; exact pk_sub (by omega)
    refine R137_58 (fun z => absurd z h1) (fun _ => mi_in_nI (by omega) (by omega)) (fun _ => ?_) (fun _ => ?_)
    · show mi_in (nI i - σ.1 38 6) 400 = true
      rw [e1]
      exact mi_in_nI (by omega) (by omega)
    · have h2 := ih (i + 1) (upd g (i - (q - p)) (g i)) (by omega) (by omega) kk
      rw [nI_succ] at h2
      show TT X d tb137 (some .boolean) (58, _, [], (mi_uc (mi_uc σ.1 39 g) 39 (upd g (nI i - σ.1 38 6).toNatClampNeg (g (nI i).toNatClampNeg)), σ.2)) r
      rw [mi_uc_uc, e1, nI_clamp (by omega), nI_clamp (by omega)]
      exact h2
def sCutM (σ : mG) (p q n : Nat) : mG := (mi_uc (mi_uc (mi_uc (mi_uc σ.1 38 (upd (σ.1 38) 6 (nI (q - p)))) 40 (lpA (σ.1 39) p (q - p) 0 (σ.1 40))) 39 (lpB (q - p) (n - q) q (σ.1 39))) 38 (upd (upd (σ.1 38) 6 (nI (q - p))) 4 (nI (n - (q - p)))), σ.2)
theorem K137 {p q n : Nat} (hn : σ.1 38 4 = nI n) (hpq : p ≤ q) (hq : q ≤ n) (h4 : n ≤ 400) : RR X (d + 1) 137 [.ref 38, .int (nI p), .int (nI q)] σ (some (.int 1), sCutM σ p q n) := by
  have z1 : ¬ nI p < 0 := nI_pos (by omega)
  have z2 : ¬ nI q < nI p := nI_nlt hpq (by omega)
  have z3 : nI q ≤ σ.1 38 4 := by rw [hn]; exact nI_le hq (by omega)
  refine mi_R.of rfl rfl (R137_0 (fun z => absurd z z1) (fun _ z => absurd z z2) (fun _ _ _ => ?_) (fun _ _ z => absurd z3 z))
  rw [pk_sub hpq]
  have h1 := L137a (X := X) (d := d) (σ := (mi_uc σ.1 38 (upd (σ.1 38) 6 (nI (q - p))), σ.2)) (r := (some (.int 1), sCutM σ p q n)) (p := p) (q := q) rfl hpq (by omega) (q - p) 0 (σ.1 40) (by omega)
  have h2 := L137b (X := X) (d := d) (σ := (mi_uc (mi_uc σ.1 38 (upd (σ.1 38) 6 (nI (q - p)))) 40 (lpA (σ.1 39) p (q - p) 0 (σ.1 40)), σ.2)) (r := (some (.int 1), sCutM σ p q n)) (p := p) (q := q) (n := n) hn rfl hpq h4 (n - q) q (σ.1 39) (by omega) (by omega) rfl
  have e1 : mi_uc (mi_uc (mi_uc σ.1 38 (upd (σ.1 38) 6 (nI (q - p)))) 40 (lpA (σ.1 39) p (q - p) 0 (σ.1 40))) 39 (σ.1 39) = mi_uc (mi_uc σ.1 38 (upd (σ.1 38) 6 (nI (q - p)))) 40 (lpA (σ.1 39) p (q - p) 0 (σ.1 40)) := mi_uc_id (mi_uc (mi_uc σ.1 38 (upd (σ.1 38) 6 (nI (q - p)))) 40 (lpA (σ.1 39) p (q - p) 0 (σ.1 40))) 39
  have e2 : mi_uc (mi_uc σ.1 38 (upd (σ.1 38) 6 (nI (q - p)))) 40 (σ.1 40) = mi_uc σ.1 38 (upd (σ.1 38) 6 (nI (q - p))) := mi_uc_id (mi_uc σ.1 38 (upd (σ.1 38) 6 (nI (q - p)))) 40
  dsimp only at h1 h2
  rw [e1] at h2
  rw [e2] at h1
  exact h1 h2
end CU
theorem getD_take_drop {T : List Nat} {p q i : Nat} (hp : p ≤ q) (hq : q ≤ T.length) (hi : i < T.length - (q - p)) : (T.take p ++ T.drop q).getD i 0 = if i < p then T.getD i 0 else T.getD (i + (q - p)) 0 := by
  rw [List.getD_eq_getElem?_getD]
  by_cases h : i < p
  · rw [if_pos h, List.getElem?_append_left (by rw [List.length_take]; omega), List.getElem?_take, if_pos h, List.getD_eq_getElem?_getD]
  · rw [if_neg h, List.getElem?_append_right (by rw [List.length_take]; omega), List.length_take, List.getElem?_drop, List.getD_eq_getElem?_getD]
    congr 2
    omega
theorem getD_mid {T : List Nat} {p k i : Nat} (hi : i < k) : ((T.drop p).take k).getD i 0 = T.getD (p + i) 0 := by
  rw [List.getD_eq_getElem?_getD, List.getElem?_take, if_pos hi, List.getElem?_drop, List.getD_eq_getElem?_getD]
theorem okT_cut {T : List Nat} (h : okT T) (p q : Nat) (hp : p ≤ q) : okT (T.take p ++ T.drop q) := by
  refine ⟨by rw [List.length_append, List.length_take, List.length_drop]; have := h.1; omega, fun c hc => ?_⟩
  rcases List.mem_append.mp hc with z | z
  · exact h.2 c (List.mem_of_mem_take z)
  · exact h.2 c (List.mem_of_mem_drop z)
theorem okT_mid {T : List Nat} (h : okT T) (p k : Nat) : okT ((T.drop p).take k) := by
  refine ⟨by rw [List.length_take, List.length_drop]; have := h.1; omega, fun c hc => h.2 c (List.mem_of_mem_drop (List.mem_of_mem_take hc))⟩
theorem qcut : qO8 qI := by
  intro a b X n σ hn hI
  obtain ⟨⟨T, h1, h2, h3⟩, hS, hr⟩ := qI_skip n σ hI
  have hl := h1.1
  have e2 : ∀ x, x ≤ σ.1 1 1 ↔ x ≤ nI T.length := fun x => by rw [h2.1]
  have e3 : ∀ x, x ≤ σ.1 38 4 ↔ x ≤ nI T.length := fun x => by rw [h3.1]
  by_cases hc : ¬ a < 0 ∧ ¬ b < a ∧ b ≤ nI T.length
  · obtain ⟨c1, c2, c3⟩ := hc
    have c0 : ¬ b < 0 := fun z => c1 (Int32.lt_of_le_of_lt (Int32.not_lt.mp c2) z)
    obtain ⟨p, hp, rfl⟩ := nI_of c1
    obtain ⟨q, hq, rfl⟩ := nI_of c0
    have hpq : p ≤ q := Nat.not_lt.mp fun z => c2 (nI_lt z hp)
    have hqT : q ≤ T.length := (nI_leI hq (by omega)).mp c3
    have k17 : RR X 9 17 [.ref 0, .int (nI p), .int (nI q)] σ (some (.int 1), sCut σ p q T.length) := mi_R.of rfl rfl (R17_0 (fun z => absurd z c1) (fun _ z => absurd z c2) (fun _ _ _ => K44 h1 h2 hpq hqT) (fun _ _ _ => rfl) (fun _ _ z => absurd ((e2 _).mpr c3) z))
    have ll : (T.take p ++ T.drop q).length = T.length - (q - p) := by rw [List.length_append, List.length_take, List.length_drop]; omega
    have lm : ((T.drop p).take (q - p)).length = q - p := by rw [List.length_take, List.length_drop]; omega
    refine ⟨1, _, _, k17, K137 (σ := sCut σ p q T.length) h3.1 hpq hqT hl, ⟨T.take p ++ T.drop q, okT_cut h1 p q hpq, ⟨?_, fun i hi => ?_⟩, ⟨?_, fun i hi => ?_⟩⟩, ⟨(T.drop p).take (q - p), okT_mid h1 p (q - p), ⟨?_, fun i hi => ?_⟩, ⟨?_, fun i hi => ?_⟩⟩, hr⟩
    · rw [ll]
      rfl
    · rw [ll] at hi
      rw [getD_take_drop hpq hqT hi]
      show va_cpy (σ.1 2) (σ.1 2) q p (T.length - q) i = _
      by_cases hz : i < p
      · rw [if_pos hz, pk_cpy_out (Or.inl hz)]
        exact h2.2 i (by omega)
      · rw [if_neg hz, pk_cpy_in (by omega) (by omega), show q + (i - p) = i + (q - p) by omega]
        exact h2.2 _ (by omega)
    · rw [ll]
      rfl
    · rw [ll] at hi
      rw [getD_take_drop hpq hqT hi]
      show lpB (q - p) (T.length - q) q (σ.1 39) i = _
      by_cases hz : i < p
      · rw [if_pos hz, lpB_lo _ _ _ _ _ (by omega) (by omega)]
        exact h3.2 i (by omega)
      · rw [if_neg hz, lpB_in _ _ _ _ _ (by omega) (by omega) (by omega)]
        exact h3.2 _ (by omega)
    · rw [lm]
      rfl
    · rw [lm] at hi
      rw [getD_mid hi]
      show va_cpy (σ.1 2) (σ.1 4) p 0 (q - p) i = _
      rw [pk_cpy_in (by omega) (by omega), Nat.sub_zero]
      exact h2.2 _ (by omega)
    · rw [lm]
      rfl
    · rw [lm] at hi
      rw [getD_mid hi]
      show lpA (σ.1 39) p (q - p) 0 (σ.1 40) i = _
      rw [lpA_in _ _ _ _ _ _ (by omega) (by omega)]
      exact h3.2 _ (by omega)
  · have n1 : ¬ a < 0 → ¬ b < a → ¬ b ≤ nI T.length := fun z1 z2 z3 => hc ⟨z1, z2, z3⟩
    exact ⟨0, σ, σ, mi_R.of rfl rfl (R17_0 (σ1 := σ) (fun _ => rfl) (fun _ _ => rfl) (fun z1 z2 z3 => absurd ((e2 b).mp z3) (n1 z1 z2)) (fun z1 z2 z3 => absurd ((e2 b).mp z3) (n1 z1 z2)) (fun _ _ _ => rfl)), mi_R.of rfl rfl (R137_0 (fun _ => rfl) (fun _ _ => rfl) (fun z1 z2 z3 => absurd ((e3 b).mp z3) (n1 z1 z2)) (fun _ _ _ => rfl)), qI_skip n σ hI⟩
