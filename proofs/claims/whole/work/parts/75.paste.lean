/-! paste -/
/-- k elements from p on, moved up by s, the last one first -/
def lpC (s p : Nat) : Nat → (Nat → Int32) → (Nat → Int32)
  | 0, g => g
  | k + 1, g => lpC s p k (upd g (p + k + s) (g (p + k)))
/-- k elements of f from i on, written from p + i on -/
def lpD (f : Nat → Int32) (p : Nat) : Nat → Nat → (Nat → Int32) → (Nat → Int32)
  | 0, _, g => g
  | k + 1, i, g => lpD f p k (i + 1) (upd g (p + i) (f i))
theorem lpC_out (s p : Nat) : ∀ (k : Nat) (g : Nat → Int32) (j : Nat), j < p + s ∨ p + s + k ≤ j → lpC s p k g j = g j := by
  intro k
  induction k with
  | zero => intro g j _; rfl
  | succ k ih =>
    intro g j hj
    show lpC s p k (upd g (p + k + s) (g (p + k))) j = g j
    rw [ih _ j (by omega), mi_upd_ne _ _ (by omega)]
theorem lpC_in (s p : Nat) : ∀ (k : Nat) (g : Nat → Int32) (j : Nat), p + s ≤ j → j < p + s + k → lpC s p k g j = g (j - s) := by
  intro k
  induction k with
  | zero => intro g j h1 h2; omega
  | succ k ih =>
    intro g j h1 h2
    show lpC s p k (upd g (p + k + s) (g (p + k))) j = g (j - s)
    by_cases hz : j = p + k + s
    · subst hz
      rw [lpC_out s p k _ _ (by omega), mi_upd_same, show p + k + s - s = p + k by omega]
    · rw [ih _ j h1 (by omega), mi_upd_ne _ _ (by omega)]
theorem lpD_out (f : Nat → Int32) (p : Nat) : ∀ (k i : Nat) (g : Nat → Int32) (j : Nat), j < p + i ∨ p + i + k ≤ j → lpD f p k i g j = g j := by
  intro k
  induction k with
  | zero => intro i g j _; rfl
  | succ k ih =>
    intro i g j hj
    show lpD f p k (i + 1) (upd g (p + i) (f i)) j = g j
    rw [ih (i + 1) _ j (by omega), mi_upd_ne _ _ (by omega)]
theorem lpD_in (f : Nat → Int32) (p : Nat) : ∀ (k i : Nat) (g : Nat → Int32) (j : Nat), p + i ≤ j → j < p + i + k → lpD f p k i g j = f (j - p) := by
  intro k
  induction k with
  | zero => intro i g j h1 h2; omega
  | succ k ih =>
    intro i g j h1 h2
    show lpD f p k (i + 1) (upd g (p + i) (f i)) j = f (j - p)
    by_cases hz : j = p + i
    · subst hz
      rw [lpD_out f p k (i + 1) _ _ (by omega), mi_upd_same, show p + i - p = i by omega]
    · exact ih (i + 1) _ j (by omega) (by omega)
section PA
variable {X : Nat × (Nat → Int32)} {d : Nat} {σ : mG} {r : mA mG}
theorem L138a {p s : Nat} (hs : σ.1 38 6 = nI s) : ∀ (k : Nat) (g : Nat → Int32), p + k + s ≤ 400 → TT X d tb138 (some .boolean) (66, [some (.ref 38), some (.int (nI p)), some (.int 0)], [], (mi_uc σ.1 39 (lpC s p k g), σ.2)) r → TT X d tb138 (some .boolean) (36, [some (.ref 38), some (.int (nI p)), some (.int (nI (p + k) - 1))], [], (mi_uc σ.1 39 g, σ.2)) r := by
  intro k
  induction k with
  | zero =>
    intro g hi kk
    have h1 : nI (p + 0) - 1 < nI p := by
      rw [Int32.lt_iff_toInt_lt, show (1 : Int32) = nI 1 from rfl, pk_sub_toInt (by omega) (by omega), nI_toInt (by omega)]
      omega
    exact R138_36 (fun _ => kk) (fun z => absurd h1 z) (fun z => absurd h1 z) (fun z => absurd h1 z)
  | succ k ih =>
    intro g hi kk
    have e0 : nI (p + (k + 1)) - 1 = nI (p + k) := nI_pred (p + k)
    have h1 : ¬ nI (p + (k + 1)) - 1 < nI p := by rw [e0]; exact nI_nlt (by omega) (by omega)
    rw [e0] at h1 ⊢
    refine R138_36 (fun z => absurd z h1) (fun _ => mi_in_nI (by omega) (by omega)) (fun _ => ?_) (fun _ => ?_)
    · show mi_in (nI (p + k) + σ.1 38 6) 400 = true
      rw [hs, nI_add]
      exact mi_in_nI (by omega) (by omega)
    · have h2 := ih (upd g (p + k + s) (g (p + k))) (by omega) kk
      rw [Int32.sub_eq_add_neg] at h2
      show TT X d tb138 (some .boolean) (36, _, [], (mi_uc (mi_uc σ.1 39 g) 39 (upd g (nI (p + k) + σ.1 38 6).toNatClampNeg (g (nI (p + k)).toNatClampNeg)), σ.2)) r
      rw [mi_uc_uc, hs, nI_add, nI_clamp (by omega), nI_clamp (by omega)]
      exact h2
theorem L138b {p s n : Nat} (hn : σ.1 38 4 = nI n) (hs : σ.1 38 6 = nI s) (h4 : p + s ≤ 400) : ∀ (k i : Nat) (g : Nat → Int32), i + k = s → r = (some (.int 1), (mi_uc (mi_uc σ.1 39 (lpD (σ.1 40) p k i g)) 38 (upd (σ.1 38) 4 (nI (n + s))), σ.2)) → TT X d tb138 (some .boolean) (66, [some (.ref 38), some (.int (nI p)), some (.int (nI i))], [], (mi_uc σ.1 39 g, σ.2)) r := by
  intro k
  induction k with
  | zero =>
    intro i g hi kk
    have h1 : σ.1 38 6 ≤ nI i := by rw [hs]; exact nI_le (by omega) (by omega)
    refine R138_66 (fun _ => ?_) (fun z => absurd h1 z) (fun z => absurd h1 z) (fun z => absurd h1 z)
    rw [kk]
    show (_ : mA mG) = (some (Value.int 1), (mi_uc (mi_uc σ.1 39 g) 38 (upd (σ.1 38) 4 (σ.1 38 4 + σ.1 38 6)), σ.2))
    rw [hn, hs, nI_add]
    rfl
  | succ k ih =>
    intro i g hi kk
    have h1 : ¬ σ.1 38 6 ≤ nI i := by rw [hs]; exact nI_ge (by omega) (by omega)
    refine R138_66 (fun z => absurd z h1) (fun _ => mi_in_nI (by omega) (by omega)) (fun _ => ?_) (fun _ => ?_)
    · rw [nI_add]
      exact mi_in_nI (by omega) (by omega)
    · have h2 := ih (i + 1) (upd g (p + i) (σ.1 40 i)) (by omega) kk
      rw [nI_succ] at h2
      show TT X d tb138 (some .boolean) (66, _, [], (mi_uc (mi_uc σ.1 39 g) 39 (upd g (nI p + nI i).toNatClampNeg (σ.1 40 (nI i).toNatClampNeg)), σ.2)) r
      rw [mi_uc_uc, nI_add, nI_clamp (by omega), nI_clamp (by omega)]
      exact h2
def sPasM (σ : mG) (p n s : Nat) : mG := (mi_uc (mi_uc σ.1 39 (lpD (σ.1 40) p s 0 (lpC s p (n - p) (σ.1 39)))) 38 (upd (σ.1 38) 4 (nI (n + s))), σ.2)
theorem K138 {p n s : Nat} (hn : σ.1 38 4 = nI n) (hs : σ.1 38 6 = nI s) (hp : p ≤ n) (h4 : n + s ≤ 400) : RR X (d + 1) 138 [.ref 38, .int (nI p)] σ (some (.int 1), sPasM σ p n s) := by
  have z1 : ¬ nI p < 0 := nI_pos (by omega)
  have z2 : ¬ σ.1 38 4 < nI p := by rw [hn]; exact nI_nlt hp (by omega)
  have z3 : σ.1 38 4 + σ.1 38 6 ≤ 400 := by rw [hn, hs, nI_add]; exact nI_le (b := 400) h4 (by omega)
  refine mi_R.of rfl rfl (R138_0 (fun z => absurd z z1) (fun _ z => absurd z z2) (fun _ _ _ => ?_) (fun _ _ z => absurd z3 z))
  have h2 := L138b (X := X) (d := d) (σ := σ) (r := (some (.int 1), sPasM σ p n s)) (p := p) (s := s) (n := n) hn hs (by omega) s 0 (lpC s p (n - p) (σ.1 39)) (by omega) rfl
  have h1 := L138a (X := X) (d := d) (σ := σ) (r := (some (.int 1), sPasM σ p n s)) (p := p) (s := s) hs (n - p) (σ.1 39) (by omega) h2
  rw [mi_uc_id, show p + (n - p) = n by omega] at h1
  rw [hn]
  exact h1
def sPas (σ : mG) (p n s : Nat) : mG := (mi_uc (mi_uc σ.1 2 (va_cpy (σ.1 4) (va_cpy (σ.1 2) (σ.1 2) p (p + s) (n - p)) 0 p s)) 1 (upd (σ.1 1) 1 (nI (n + s))), σ.2)
theorem fits_of {T : List Nat} {a : Int32} {f : Nat → Int32} (hT : okT T) (h : cT a f T) : ∀ i, i < T.length → fits .char (.int (f i)) = true := by
  intro i hi
  rw [h.2 i hi]
  have : T.getD i 0 ∈ T := by
    rw [List.getD_eq_getElem?_getD, List.getElem?_eq_getElem hi]
    exact List.getElem_mem hi
  exact fitc (hT.2 _ this).2
theorem K45 {T S : List Nat} (hT : okT T) (h : cT (σ.1 1 1) (σ.1 2) T) (hS : okT S) (g : cT (σ.1 3 1) (σ.1 4) S) {p : Nat} (hp : p ≤ T.length) (h4 : T.length + S.length ≤ 400) : RR X (d + 1) 45 [.ref 1, .int (nI p), .ref 3] σ (none, sPas σ p T.length S.length) := by
  have z1 : ¬ nI p < 0 := nI_pos (by omega)
  have z2 : ¬ σ.1 1 1 < nI p := by rw [h.1]; exact nI_nlt hp (by omega)
  have z3 : σ.1 1 1 + σ.1 3 1 ≤ 400 := by rw [h.1, g.1, nI_add]; exact nI_le (b := 400) h4 (by omega)
  have c1 : qPR 1002 [.ref 2, .int (nI p), .ref 2, .int (nI p + σ.1 3 1), .int (σ.1 1 1 - nI p)] σ = some (none, (mi_uc σ.1 2 (va_cpy (σ.1 2) (σ.1 2) p (p + S.length) (T.length - p)), σ.2)) := by
    rw [h.1, g.1, nI_add, pk_sub hp]
    exact K1002 rfl rfl (by omega) (by omega) (fun i hi => fits_of hT h _ (by omega))
  have c2 : qPR 1002 [.ref 4, .int 0, .ref 2, .int (nI p), .int (σ.1 3 1)] (mi_uc σ.1 2 (va_cpy (σ.1 2) (σ.1 2) p (p + S.length) (T.length - p)), σ.2) = some (none, (mi_uc (mi_uc σ.1 2 (va_cpy (σ.1 2) (σ.1 2) p (p + S.length) (T.length - p))) 2 (va_cpy (σ.1 4) (va_cpy (σ.1 2) (σ.1 2) p (p + S.length) (T.length - p)) 0 p S.length), σ.2)) := by
    rw [g.1]
    exact K1002 (x := 0) rfl rfl (by omega) (by omega) (fun i hi => fits_of hS g _ (by omega))
  refine mi_R.of rfl rfl (R45_0 (fun z => absurd z z1) (fun _ z => absurd z z2) (fun _ _ _ => c1) (fun _ _ _ => c2) (fun _ _ _ => ?_) (fun _ _ z => absurd z3 z))
  show (_ : mA mG) = (none, (mi_uc (mi_uc (mi_uc σ.1 2 (va_cpy (σ.1 2) (σ.1 2) p (p + S.length) (T.length - p))) 2 (va_cpy (σ.1 4) (va_cpy (σ.1 2) (σ.1 2) p (p + S.length) (T.length - p)) 0 p S.length)) 1 (upd (σ.1 1) 1 (σ.1 1 1 + σ.1 3 1)), σ.2))
  rw [mi_uc_uc, h.1, g.1, nI_add]
  rfl
end PA
theorem getD_paste {T S : List Nat} {p i : Nat} (hp : p ≤ T.length) : (T.take p ++ (S ++ T.drop p)).getD i 0 = if i < p then T.getD i 0 else if i < p + S.length then S.getD (i - p) 0 else T.getD (i - S.length) 0 := by
  rw [List.getD_eq_getElem?_getD]
  have lt : (T.take p).length = p := by rw [List.length_take]; omega
  by_cases h : i < p
  · rw [if_pos h, List.getElem?_append_left (by omega), List.getElem?_take, if_pos h, List.getD_eq_getElem?_getD]
  · rw [if_neg h, List.getElem?_append_right (by omega), lt]
    by_cases h2 : i < p + S.length
    · rw [if_pos h2, List.getElem?_append_left (by omega), List.getD_eq_getElem?_getD]
    · rw [if_neg h2, List.getElem?_append_right (by omega), List.getElem?_drop, List.getD_eq_getElem?_getD]
      congr 2
      omega
theorem okT_paste {T S : List Nat} (h : okT T) (g : okT S) (p : Nat) (hl : T.length + S.length ≤ 400) : okT (T.take p ++ (S ++ T.drop p)) := by
  refine ⟨by rw [List.length_append, List.length_append, List.length_take, List.length_drop]; omega, fun c hc => ?_⟩
  rcases List.mem_append.mp hc with z | z
  · exact h.2 c (List.mem_of_mem_take z)
  · rcases List.mem_append.mp z with y | y
    · exact g.2 c y
    · exact h.2 c (List.mem_of_mem_drop y)
theorem qpaste : qO9 qI := by
  intro a X n σ hn hI
  obtain ⟨⟨T, h1, h2, h3⟩, ⟨S, s1, s2, s3⟩, hr⟩ := qI_skip n σ hI
  have hl := h1.1
  have sl := s1.1
  have e2 : ∀ x, σ.1 1 1 < x ↔ nI T.length < x := fun x => by rw [h2.1]
  have e3 : ∀ x, σ.1 38 4 < x ↔ nI T.length < x := fun x => by rw [h3.1]
  have f2 : σ.1 1 1 + σ.1 3 1 ≤ 400 ↔ T.length + S.length ≤ 400 := by rw [h2.1, s2.1, nI_add]; exact nI_leI (b := 400) (by omega) (by omega)
  have f3 : σ.1 38 4 + σ.1 38 6 ≤ 400 ↔ T.length + S.length ≤ 400 := by rw [h3.1, s3.1, nI_add]; exact nI_leI (b := 400) (by omega) (by omega)
  by_cases hc : ¬ a < 0 ∧ ¬ nI T.length < a ∧ T.length + S.length ≤ 400
  · obtain ⟨c1, c2, c3⟩ := hc
    obtain ⟨p, hp, rfl⟩ := nI_of c1
    have hpT : p ≤ T.length := Nat.not_lt.mp fun z => c2 (nI_lt z hp)
    have k18 : RR X 9 18 [.ref 0, .int (nI p)] σ (some (.int 1), sPas σ p T.length S.length) := mi_R.of rfl rfl (R18_0 (fun z => absurd z c1) (fun _ z => absurd ((e2 _).mp z) c2) (fun _ _ _ => K45 h1 h2 s1 s2 hpT c3) (fun _ _ _ => rfl) (fun _ _ z => absurd (f2.mpr c3) z))
    have ll : (T.take p ++ (S ++ T.drop p)).length = T.length + S.length := by rw [List.length_append, List.length_append, List.length_take, List.length_drop]; omega
    refine ⟨1, _, _, k18, K138 (σ := sPas σ p T.length S.length) h3.1 s3.1 hpT c3, ⟨T.take p ++ (S ++ T.drop p), okT_paste h1 s1 p c3, ⟨?_, fun i hi => ?_⟩, ⟨?_, fun i hi => ?_⟩⟩, ⟨S, s1, s2, s3⟩, hr⟩
    · rw [ll]
      rfl
    · rw [ll] at hi
      rw [getD_paste hpT]
      show va_cpy (σ.1 4) (va_cpy (σ.1 2) (σ.1 2) p (p + S.length) (T.length - p)) 0 p S.length i = _
      by_cases hz : i < p
      · rw [if_pos hz, pk_cpy_out (Or.inl hz), pk_cpy_out (by omega)]
        exact h2.2 i (by omega)
      · rw [if_neg hz]
        by_cases hy : i < p + S.length
        · rw [if_pos hy, pk_cpy_in (by omega) (by omega), Nat.zero_add]
          exact s2.2 _ (by omega)
        · rw [if_neg hy, pk_cpy_out (by omega), pk_cpy_in (by omega) (by omega), show p + (i - (p + S.length)) = i - S.length by omega]
          exact h2.2 _ (by omega)
    · rw [ll]
      rfl
    · rw [ll] at hi
      rw [getD_paste hpT]
      show lpD (σ.1 40) p S.length 0 (lpC S.length p (T.length - p) (σ.1 39)) i = _
      by_cases hz : i < p
      · rw [if_pos hz, lpD_out _ _ _ _ _ _ (by omega), lpC_out _ _ _ _ _ (by omega)]
        exact h3.2 i (by omega)
      · rw [if_neg hz]
        by_cases hy : i < p + S.length
        · rw [if_pos hy, lpD_in _ _ _ _ _ _ (by omega) (by omega)]
          exact s3.2 _ (by omega)
        · rw [if_neg hy, lpD_out _ _ _ _ _ _ (by omega), lpC_in _ _ _ _ _ (by omega) (by omega)]
          exact h3.2 _ (by omega)
  · have n1 : ¬ a < 0 → ¬ nI T.length < a → ¬ T.length + S.length ≤ 400 := fun z1 z2 z3 => hc ⟨z1, z2, z3⟩
    exact ⟨0, σ, σ, mi_R.of rfl rfl (R18_0 (σ1 := σ) (fun _ => rfl) (fun _ _ => rfl) (fun z1 z2 z3 => absurd (f2.mp z3) (n1 z1 (fun y => z2 ((e2 a).mpr y)))) (fun z1 z2 z3 => absurd (f2.mp z3) (n1 z1 (fun y => z2 ((e2 a).mpr y)))) (fun _ _ _ => rfl)), mi_R.of rfl rfl (R138_0 (fun _ => rfl) (fun _ _ => rfl) (fun z1 z2 z3 => absurd (f3.mp z3) (n1 z1 (fun y => z2 ((e3 a).mpr y)))) (fun _ _ _ => rfl)), qI_skip n σ hI⟩
