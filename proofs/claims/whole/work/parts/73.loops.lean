/-! outstanding, cut -/
theorem mi_uc_uc {β : Type} (I : Nat → Nat → β) (c : Nat) (g g' : Nat → β) : mi_uc (mi_uc I c g) c g' = mi_uc I c g' := by
  funext k
  by_cases h : k = c
  · subst h
    rw [mi_uc_same, mi_uc_same]
  · rw [mi_uc_ne _ _ h, mi_uc_ne _ _ h, mi_uc_ne _ _ h]
theorem mi_uc_id {β : Type} (I : Nat → Nat → β) (c : Nat) : mi_uc I c (I c) = I := by
  funext k
  by_cases h : k = c
  · subst h
    rw [mi_uc_same]
  · rw [mi_uc_ne _ _ h]
theorem mG_uc (σ : mG) (c : Nat) : (mi_uc σ.1 c (σ.1 c), σ.2) = σ := by rw [mi_uc_id]
/-- is request i outstanding? -/
def wt (an mk : Nat → Int32) (life clock : Int32) (i : Nat) : Int32 := if an i = 0 then (if mk i + life ≤ clock then 0 else 1) else 0
def swt (w : Nat → Int32) : Nat → Nat → Int32 → Int32
  | _, 0, acc => acc
  | i, k + 1, acc => swt w (i + 1) k (acc + w i)
section OU
variable {X : Nat × (Nat → Int32)} {d : Nat} {σ : mG} {m : Nat}
theorem K101 (hm : m ≤ 30) (hc : σ.1 23 4 = nI m) {i : Nat} (hi : i < m) (x : Int32) : RR X (d + 1) 101 [.ref 23, .int (nI i), .int x] σ (some (.int (wt (σ.1 26) (σ.1 25) (σ.1 23 0) x i)), σ) := by
  have h0 : ¬ nI i < 0 := nI_pos (by omega)
  have h1 : ¬ σ.1 23 4 ≤ nI i := by rw [hc]; exact nI_ge hi (by omega)
  have hin : mi_in (nI i) 30 = true := mi_in_nI (by omega) (by omega)
  have hcl : (nI i).toNatClampNeg = i := nI_clamp (by omega)
  refine mi_R.of rfl rfl (R101_0 (fun z => absurd z h0) (fun _ z => absurd z h1) (fun _ _ => hin) (fun _ _ z => ?_) (fun _ _ _ => hin) (fun _ _ z1 z2 => ?_) (fun _ _ z1 z2 => ?_))
  · rw [hcl] at z
    rw [wt, if_neg z]
  · rw [hcl] at z1 z2
    rw [wt, if_pos (Classical.not_not.mp z1), if_pos z2]
  · rw [hcl] at z1 z2
    rw [wt, if_pos (Classical.not_not.mp z1), if_neg z2]
theorem K131 (hm : m ≤ 30) (hc : σ.1 38 11 = nI m) {i : Nat} (hi : i < m) : RR X (d + 1) 131 [.ref 38, .int (nI i)] σ (some (.int (wt (σ.1 47) (σ.1 45) (σ.1 38 1) (σ.1 38 2) i)), σ) := by
  have h0 : ¬ nI i < 0 := nI_pos (by omega)
  have h1 : ¬ σ.1 38 11 ≤ nI i := by rw [hc]; exact nI_ge hi (by omega)
  have hin : mi_in (nI i) 30 = true := mi_in_nI (by omega) (by omega)
  have hcl : (nI i).toNatClampNeg = i := nI_clamp (by omega)
  refine mi_R.of rfl rfl (R131_0 (fun z => absurd z h0) (fun _ z => absurd z h1) (fun _ _ => hin) (fun _ _ z => ?_) (fun _ _ _ => hin) (fun _ _ z1 z2 => ?_) (fun _ _ z1 z2 => ?_))
  · rw [hcl] at z
    rw [wt, if_neg z]
  · rw [hcl] at z1 z2
    rw [wt, if_pos (Classical.not_not.mp z1), if_pos z2]
  · rw [hcl] at z1 z2
    rw [wt, if_pos (Classical.not_not.mp z1), if_neg z2]
theorem wt01 (an mk : Nat → Int32) (life clock : Int32) (i : Nat) : wt an mk life clock i = 0 ∨ wt an mk life clock i = 1 := by
  unfold wt
  split
  · split
    · exact Or.inl rfl
    · exact Or.inr rfl
  · exact Or.inl rfl
theorem L104 (hm : m ≤ 30) (hc : σ.1 23 4 = nI m) (x : Int32) : ∀ (k i : Nat) (acc : Int32), i + k = m → TT X (d + 1) tb104 (some .int) (4, [some (.ref 23), some (.int x), some (.int acc), some (.int (nI i))], [], σ) (some (.int (swt (wt (σ.1 26) (σ.1 25) (σ.1 23 0) x) i k acc)), σ) := by
  intro k
  induction k with
  | zero =>
    intro i acc hi
    have h1 : σ.1 23 4 ≤ nI i := by rw [hc]; exact nI_le (by omega) (by omega)
    exact R104_4 (v1 := 0) (σ1 := σ) (fun _ => rfl) (fun z => absurd h1 z) (fun z => absurd h1 z) (fun z => absurd h1 z)
  | succ k ih =>
    intro i acc hi
    have h1 : ¬ σ.1 23 4 ≤ nI i := by rw [hc]; exact nI_ge (by omega) (by omega)
    have h2 := ih (i + 1) (acc + wt (σ.1 26) (σ.1 25) (σ.1 23 0) x i) (by omega)
    rw [nI_succ] at h2
    refine R104_4 (fun z => absurd z h1) (fun _ => K101 hm hc (by omega) x) (fun _ z => ?_) (fun _ z => ?_)
    · rw [z, Int32.add_zero] at h2
      show TT X (d + 1) tb104 (some .int) _ (some (.int (swt _ (i + 1) k (acc + wt (σ.1 26) (σ.1 25) (σ.1 23 0) x i))), σ)
      rw [z, Int32.add_zero]
      exact h2
    · have z1 : wt (σ.1 26) (σ.1 25) (σ.1 23 0) x i = 1 := (wt01 _ _ _ _ _).resolve_left z
      rw [z1] at h2
      show TT X (d + 1) tb104 (some .int) _ (some (.int (swt _ (i + 1) k (acc + wt (σ.1 26) (σ.1 25) (σ.1 23 0) x i))), σ)
      rw [z1]
      exact h2
theorem L132 (hm : m ≤ 30) (hc : σ.1 38 11 = nI m) : ∀ (k i : Nat) (acc : Int32), i + k = m → TT X (d + 1) tb132 (some .int) (4, [some (.ref 38), some (.int acc), some (.int (nI i))], [], σ) (some (.int (swt (wt (σ.1 47) (σ.1 45) (σ.1 38 1) (σ.1 38 2)) i k acc)), σ) := by
  intro k
  induction k with
  | zero =>
    intro i acc hi
    have h1 : σ.1 38 11 ≤ nI i := by rw [hc]; exact nI_le (by omega) (by omega)
    exact R132_4 (v1 := 0) (σ1 := σ) (fun _ => rfl) (fun z => absurd h1 z) (fun z => absurd h1 z) (fun z => absurd h1 z)
  | succ k ih =>
    intro i acc hi
    have h1 : ¬ σ.1 38 11 ≤ nI i := by rw [hc]; exact nI_ge (by omega) (by omega)
    have h2 := ih (i + 1) (acc + wt (σ.1 47) (σ.1 45) (σ.1 38 1) (σ.1 38 2) i) (by omega)
    rw [nI_succ] at h2
    refine R132_4 (fun z => absurd z h1) (fun _ => K131 hm hc (by omega)) (fun _ z => ?_) (fun _ z => ?_)
    · rw [z] at h2
      show TT X (d + 1) tb132 (some .int) _ (some (.int (swt _ (i + 1) k (acc + wt (σ.1 47) (σ.1 45) (σ.1 38 1) (σ.1 38 2) i))), σ)
      rw [z]
      exact h2
    · have z1 : wt (σ.1 47) (σ.1 45) (σ.1 38 1) (σ.1 38 2) i = 1 := (wt01 _ _ _ _ _).resolve_left z
      rw [z1] at h2
      show TT X (d + 1) tb132 (some .int) _ (some (.int (swt _ (i + 1) k (acc + wt (σ.1 47) (σ.1 45) (σ.1 38 1) (σ.1 38 2) i))), σ)
      rw [z1]
      exact h2
end OU
theorem swt_congr {w w' : Nat → Int32} : ∀ (k i : Nat) (acc : Int32), (∀ j, i ≤ j → j < i + k → w j = w' j) → swt w i k acc = swt w' i k acc := by
  intro k
  induction k with
  | zero => intro i acc _; rfl
  | succ k ih =>
    intro i acc h
    show swt w (i + 1) k (acc + w i) = swt w' (i + 1) k (acc + w' i)
    rw [h i (by omega) (by omega)]
    exact ih (i + 1) _ (fun j h1 h2 => h j (by omega) (by omega))
theorem qoutstanding : qO19 qI := by
  intro X n σ hn hI
  obtain ⟨-, -, ⟨c, hc, e1, e2⟩, -, ⟨lf, f1, f2, f3, f4⟩, -, -, -, ⟨m, m1, m2, m3, m4, m5, m6⟩, -⟩ := id hI
  have e : swt (wt (σ.1 47) (σ.1 45) (σ.1 38 1) (σ.1 38 2)) 0 m 0 = swt (wt (σ.1 26) (σ.1 25) (σ.1 23 0) (σ.1 0 12)) 0 m 0 := by
    apply swt_congr
    intro j _ hj
    obtain ⟨k, c', k1, k2, k3, k4, k5, k6⟩ := m4 j (by omega)
    unfold wt
    rw [(m5 j (by omega)).1, k5, k6, f3, f4, e1, e2]
  refine ⟨swt (wt (σ.1 26) (σ.1 25) (σ.1 23 0) (σ.1 0 12)) 0 m 0, σ, σ, mi_R.of rfl rfl (R29_0 (mi_R.of rfl rfl (R104_0 (L104 m1 m2 _ m 0 0 (by omega)))) rfl), ?_, qI_skip n σ hI⟩
  rw [← e]
  exact mi_R.of rfl rfl (R132_0 (L132 m1 m3 m 0 0 (by omega)))
/-! cut -/
theorem fitc {c : Nat} (h : c ≤ 126) : fits .char (.int (nI c)) = true := by
  have h1 : ∀ c, c < 127 → fits .char (.int (nI c)) = true := by decide +kernel
  exact h1 c (by omega)
theorem K1002 {σ : mG} {a b x y k : Nat} (ha : qSh[a]? = some (.inl (1, 400, false))) (hb : qSh[b]? = some (.inl (1, 400, false))) (h1 : x + k ≤ 400) (h2 : y + k ≤ 400) (hf : ∀ i, i < k → fits .char (.int (σ.1 a (x + i))) = true) : qPR 1002 [.ref a, .int (nI x), .ref b, .int (nI y), .int (nI k)] σ = some (none, (mi_uc σ.1 b (va_cpy (σ.1 a) (σ.1 b) x y k), σ.2)) := by
  have cx : (nI x).toNatClampNeg = x := nI_clamp (by omega)
  have cy : (nI y).toNatClampNeg = y := nI_clamp (by omega)
  have ck : (nI k).toNatClampNeg = k := nI_clamp (by omega)
  have hq : mi_cq (nI x) (nI y) (nI k) 400 400 = true := by
    unfold mi_cq
    rw [decide_eq_false (nI_pos (by omega)), decide_eq_false (nI_pos (by omega)), decide_eq_false (nI_pos (by omega)), cx, cy, ck]
    simp only [Bool.not_false, Bool.true_and, Bool.and_eq_true, Nat.ble_eq]
    exact ⟨h1, h2⟩
  have hfc : mi_fc (σ.1 a) x k = true := List.all_eq_true.mpr (fun i hi => hf i (List.mem_range.mp hi))
  show mi_pr qL (mi_cp2 qSh) 1002 _ σ = _
  simp only [mi_pr, mi_nat_beq (show (1002 : Nat) ≠ 1000 by decide), mi_nat_beq (show (1002 : Nat) ≠ 1001 by decide), Nat.beq_refl, cond_true, cond_false, mi_cp2, ha, hb, hq, cx, cy, ck, hfc, Bool.and_self]
def sCut (σ : mG) (p q n : Nat) : mG := (mi_uc (mi_uc (mi_uc (mi_uc σ.1 4 (va_cpy (σ.1 2) (σ.1 4) p 0 (q - p))) 3 (upd (σ.1 3) 1 (nI (q - p)))) 2 (va_cpy (σ.1 2) (σ.1 2) q p (n - q))) 1 (upd (σ.1 1) 1 (nI (n - (q - p)))), σ.2)
theorem K44 {X : Nat × (Nat → Int32)} {d : Nat} {σ : mG} {T : List Nat} (hT : okT T) (h : cT (σ.1 1 1) (σ.1 2) T) {p q : Nat} (hp : p ≤ q) (hq : q ≤ T.length) : RR X (d + 1) 44 [.ref 1, .int (nI p), .int (nI q), .ref 3] σ (none, sCut σ p q T.length) := by
  obtain ⟨h1, h2⟩ := h
  have hl := hT.1
  have e1 : nI q - nI p = nI (q - p) := pk_sub hp
  have z1 : ¬ nI p < 0 := nI_pos (by omega)
  have z2 : ¬ nI q < nI p := nI_nlt hp (by omega)
  have z3 : nI q ≤ σ.1 1 1 := by rw [h1]; exact nI_le hq (by omega)
  have hf : ∀ i, i < T.length → fits .char (.int (σ.1 2 i)) = true := by
    intro i hi
    rw [h2 i hi]
    have : T.getD i 0 ∈ T := by
      rw [List.getD_eq_getElem?_getD, List.getElem?_eq_getElem hi]
      exact List.getElem_mem hi
    exact fitc (hT.2 _ this).2
  have c1 : qPR 1002 [.ref 2, .int (nI p), .ref 4, .int 0, .int (nI q - nI p)] σ = some (none, (mi_uc σ.1 4 (va_cpy (σ.1 2) (σ.1 4) p 0 (q - p)), σ.2)) := by
    rw [e1]
    exact K1002 (y := 0) rfl rfl (by omega) (by omega) (fun i hi => hf _ (by omega))
  have e2 : σ.1 1 1 - nI q = nI (T.length - q) := by rw [h1]; exact pk_sub hq
  have c2 : qPR 1002 [.ref 2, .int (nI q), .ref 2, .int (nI p), .int (σ.1 1 1 - nI q)] (mi_uc (mi_uc σ.1 4 (va_cpy (σ.1 2) (σ.1 4) p 0 (q - p))) 3 (upd (σ.1 3) 1 (nI q - nI p)), σ.2) = some (none, (mi_uc (mi_uc (mi_uc σ.1 4 (va_cpy (σ.1 2) (σ.1 4) p 0 (q - p))) 3 (upd (σ.1 3) 1 (nI q - nI p))) 2 (va_cpy (σ.1 2) (σ.1 2) q p (T.length - q)), σ.2)) := by
    rw [e2]
    exact K1002 rfl rfl (by omega) (by omega) (fun i hi => hf _ (by omega))
  refine mi_R.of rfl rfl (R44_0 (fun z => absurd z z1) (fun _ z => absurd z z2) (fun _ _ _ => c1) (fun _ _ _ => c2) (fun _ _ _ => ?_) (fun _ _ z => absurd z3 z))
  have e3 : σ.1 1 1 - (nI q - nI p) = nI (T.length - (q - p)) := by rw [h1, e1]; exact pk_sub (by omega)
  show (none, sCut σ p q T.length) = (none, (mi_uc (mi_uc (mi_uc (mi_uc σ.1 4 (va_cpy (σ.1 2) (σ.1 4) p 0 (q - p))) 3 (upd (σ.1 3) 1 (nI q - nI p))) 2 (va_cpy (σ.1 2) (σ.1 2) q p (T.length - q))) 1 (upd (σ.1 1) 1 (σ.1 1 1 - (nI q - nI p))), σ.2))
  rw [e3, e1]
  rfl
