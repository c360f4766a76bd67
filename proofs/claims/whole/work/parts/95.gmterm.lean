/-! The reference's terms -/
def fN (σ σ' : mG) : Prop := (∀ c, c ≠ 38 → c ≠ 47 → c ≠ 48 → c ≠ 50 → σ'.1 c = σ.1 c) ∧ (∀ c, c ≠ 49 → c ≠ 51 → σ'.2 c = σ.2 c) ∧ ∀ k, k ≠ 15 → k ≠ 19 → σ'.1 38 k = σ.1 38 k
theorem fN.rfl' {σ : mG} : fN σ σ := ⟨fun _ _ _ _ _ => rfl, fun _ _ _ => rfl, fun _ _ _ => rfl⟩
theorem fN.tr {σ σ1 σ2 : mG} (a : fN σ σ1) (b : fN σ1 σ2) : fN σ σ2 := ⟨fun c h1 h2 h3 h4 => (b.1 c h1 h2 h3 h4).trans (a.1 c h1 h2 h3 h4), fun c h1 h2 => (b.2.1 c h1 h2).trans (a.2.1 c h1 h2), fun k h1 h2 => (b.2.2 k h1 h2).trans (a.2.2 k h1 h2)⟩
theorem cM_of {T : List Nat} {n : Nat} {E : Nat → mEl} {σ σ' : mG} (h : cM T n E σ) (f : fN σ σ') : cM T n E σ' := by
  refine ⟨h.1, ?_, h.2.2.1, ?_, fun i hi => ?_⟩
  · rw [f.2.2 4 (by omega) (by omega), f.1 39 (by omega) (by omega) (by omega) (by omega)]
    exact h.2.1
  · rw [f.2.2 22 (by omega) (by omega)]
    exact h.2.2.2.1
  · have := h.2.2.2.2 i hi
    unfold elM atM at *
    rw [f.2.1 52 (by omega) (by omega), f.2.1 60 (by omega) (by omega), f.1 53 (by omega) (by omega) (by omega) (by omega), f.1 54 (by omega) (by omega) (by omega) (by omega), f.1 55 (by omega) (by omega) (by omega) (by omega), f.1 56 (by omega) (by omega) (by omega) (by omega), f.1 57 (by omega) (by omega) (by omega) (by omega), f.1 58 (by omega) (by omega) (by omega) (by omega), f.1 59 (by omega) (by omega) (by omega) (by omega), f.1 61 (by omega) (by omega) (by omega) (by omega), f.1 62 (by omega) (by omega) (by omega) (by omega)]
    exact this
theorem wc {l W : List Nat} (h1 : okC l) (h2 : okC W) (h3 : wrd W = true) : lg_cmp (lN (pck l)) (lN (pck W)) = 0 ↔ l = W := by
  rw [lg_cmp_eq, pk_lEQ (pck_lt h1) (pck_lt h2), pck_eq h1 h2 h3]
theorem pck_ok {l : List Nat} (h : wrd l = true) : pck l = pk8 l := by
  unfold wrd at h
  rw [Bool.and_eq_true, Bool.and_eq_true] at h
  unfold pck
  have h1 := of_decide_eq_true h.1.2
  have h2 := of_decide_eq_true h.2
  rw [if_neg]
  intro z
  rcases z with z | z
  · exact h2 z
  · omega
theorem okL_of {l : List Nat} (h : okC l) (hw : wrd l = true) : okL l := by
  unfold wrd at hw
  rw [Bool.and_eq_true, Bool.and_eq_true] at hw
  exact ⟨of_decide_eq_true hw.1.1, of_decide_eq_true hw.1.2, h⟩
theorem hsv {T : List Nat} {E : Nat → mEl} {o : Option Nat} {W : List Nat} (hW : W ≠ []) : (o.isSome && decide (vlo T E o = W)) = decide (vlo T E o = W) := by
  cases o with
  | some s => rfl
  | none =>
    have : vlo T E none = [] := seg_nil (Nat.le_refl _)
    rw [this, decide_eq_false fun z => hW z.symm]
    rfl
section
variable {X : Nat × (Nat → Int32)} {d : Nat} {T : List Nat} {n : Nat} {E : Nat → mEl} {σ : mG}
theorem lab_I {sl : List Nat} {L : List Nat} (h1 : okL sl) (hL : okC L) (hw : wrd L = true) : lg_cmp (lN (pk8 sl)) (lN (pck L)) = 0 ↔ sl = L := by
  have hl := okL_of hL hw
  rw [pck_ok hw, lg_cmp_eq, pk_lEQ (pk8_63 h1.c h1.2.1) (pk8_63 hL hl.2.1)]
  exact ⟨fun z => pk8_inj h1.c hL z, fun z => by rw [z]⟩
theorem L178 {m : Nat} {sl : Nat → List Nat} {L : List Nat} (hm : m ≤ 40) (hc : σ.1 38 19 = nI m) (hs : ∀ i, i < m → okL (sl i) ∧ σ.2 51 i = lN (pk8 (sl i))) (hL : okC L) (hw : wrd L = true) : ∀ (k j : Nat), j + k = m → TT X d tb178 (some .boolean) (5, [some (.ref 38), some (.long (lN (pck L))), none, some (.int (bI (an (fun i => decide (sl i = L)) j))), some (.int (nI j))], [], σ) (some (.int (bI (an (fun i => decide (sl i = L)) m))), σ) := by
  intro k
  induction k with
  | zero =>
    intro j hj
    have : j = m := by omega
    subst this
    have z : σ.1 38 19 ≤ nI j := by rw [hc]; exact nI_le (Nat.le_refl _) (by omega)
    exact R178_5 (fun _ => rfl) (fun _ => bI_01 _) (fun y => absurd z y) (fun y => absurd z y) (fun y => absurd z y) (fun y => absurd z y)
  | succ k ih =>
    intro j hj
    have z : ¬ σ.1 38 19 ≤ nI j := by rw [hc]; exact nI_ge (by omega) (by omega)
    have t := ih (j + 1) (by omega)
    have step : ∀ b : Bool, (an (fun i => decide (sl i = L)) j || decide (sl j = L)) = b → TT X d tb178 (some .boolean) (5, [some (.ref 38), some (.long (lN (pck L))), none, some (.int (bI b)), some (.int (nI j + 1))], [], σ) (some (.int (bI (an (fun i => decide (sl i = L)) m))), σ) := fun b hb => by
      rw [← hb, nI_1]
      exact t
    have e : lg_cmp (σ.2 51 (nI j).toNatClampNeg) (lN (pck L)) = 0 ↔ sl j = L := by
      rw [nI_clamp (by omega), (hs j (by omega)).2]
      exact lab_I (hs j (by omega)).1 hL hw
    refine R178_5 (fun y => absurd y z) (fun y => absurd y z) (fun _ y => step true ?_) (fun _ _ => mi_in_nI (by omega) (by omega)) (fun _ y1 y2 => step false ?_) (fun _ y1 y2 => step true ?_)
    · rw [bI_n0.mp y, Bool.true_or]
    · rw [bI_0.mp (Decidable.not_not.mp y1), decide_eq_false fun q => y2 (e.mpr q)]
      rfl
    · rw [decide_eq_true (e.mp (Decidable.not_not.mp y2)), Bool.or_true]
theorem K178 {m : Nat} {sl : Nat → List Nat} {L : List Nat} (hm : m ≤ 40) (hc : σ.1 38 19 = nI m) (hs : ∀ i, i < m → okL (sl i) ∧ σ.2 51 i = lN (pk8 (sl i))) (hL : okC L) (hw : wrd L = true) : RR X (d + 1) 178 [.ref 38, .long (lN (pck L))] σ (some (.int (bI (an (fun i => decide (sl i = L)) m))), σ) := mi_R.of rfl rfl (R178_0 (L178 hm hc hs hL hw m 0 (by omega)))
def sA (σ : mG) (m : Nat) (y : Int64) : mG := (mi_uc σ.1 38 (upd (σ.1 38) 19 (nI (m + 1))), mi_uc σ.2 51 (vp_updL (σ.2 51) m y))
theorem sA_fN {m : Nat} {y : Int64} : fN σ (sA σ m y) := ⟨fun c h1 _ _ _ => mi_uc_ne _ _ h1, fun c _ h2 => mi_uc_ne _ _ h2, fun k _ h2 => mi_upd_ne _ _ h2⟩
theorem K179 {m : Nat} (hm : m < 40) (hc : σ.1 38 19 = nI m) (y : Int64) : RR X (d + 1) 179 [.ref 38, .long y] σ (none, sA σ m y) := by
  refine mi_R.of rfl rfl (R179_0 (by rw [hc]; exact mi_in_nI hm (by omega)) ?_)
  rw [hc, nI_clamp (by omega), nI_1]
  rfl
def wB (an' mk : Nat → Int32) (life clock : Int32) (m : Nat) : Option Nat → Bool
  | none => false
  | some r => decide (r < m) && decide (wt an' mk life clock r = 1)
theorem wB_s (an' mk : Nat → Int32) (life clock : Int32) (m r : Nat) : wB an' mk life clock m (some r) = (decide (r < m) && decide (wt an' mk life clock r = 1)) := rfl
theorem K131o {m : Nat} (hm : m ≤ 30) (hc : σ.1 38 11 = nI m) {r : Option Nat} (hr : ∀ v, r = some v → v < 2 ^ 31) : RR X (d + 1) 131 [.ref 38, .int (oI r)] σ (some (.int (bI (wB (σ.1 47) (σ.1 45) (σ.1 38 1) (σ.1 38 2) m r))), σ) := by
  cases r with
  | none =>
    have zn : oI none < 0 := show (-1 : Int32) < 0 by decide
    exact mi_R.of rfl rfl (R131_0 (fun _ => rfl) (fun y => absurd zn y) (fun y => absurd zn y) (fun y => absurd zn y) (fun y => absurd zn y) (fun y => absurd zn y) (fun y => absurd zn y))
  | some r =>
    have hr := hr r rfl
    by_cases h : r < m
    · have k := K131 (X := X) (d := d) hm hc h
      rw [wB_s, decide_eq_true h, Bool.true_and]
      rcases wt_01 (σ.1 47) (σ.1 45) (σ.1 38 1) (σ.1 38 2) r with w | w
      · rw [w] at k
        rw [w, decide_eq_false (show ¬ (0 : Int32) = 1 by decide)]
        exact k
      · rw [w] at k
        rw [w, decide_eq_true (show (1 : Int32) = 1 from rfl)]
        exact k
    · have z1 : ¬ oI (some r) < 0 := nI_pos (n := r) hr
      have z2 : σ.1 38 11 ≤ oI (some r) := by rw [hc]; exact nI_le (b := r) (by omega) hr
      rw [wB_s, decide_eq_false h]
      exact mi_R.of rfl rfl (R131_0 (fun _ => rfl) (fun _ _ => rfl) (fun _ y => absurd z2 y) (fun _ y => absurd z2 y) (fun _ y => absurd z2 y) (fun _ y => absurd z2 y) (fun _ y => absurd z2 y))
theorem A180 {a6 a7 a8 a9 a12 a15 : Bool} {x1 v1 v2 v3 v4 v5 v8 v10 v11 v13 v14 v16 : Int32} {v6 v9 v12 : Int64}
    (c1 : RR X d 170 [.ref 38, .int x1, .long 109330244567040] σ (some (.int v1), σ))
    (c2 : RR X d 170 [.ref 38, .int x1, .long 126947999481856] σ (some (.int v2), σ))
    (c3 : RR X d 170 [.ref 38, .int v2, .long 109330244698112] σ (some (.int v3), σ))
    (c4 : RR X d 167 [.ref 38, .int 0, .long 115940293345280] σ (some (.int v4), σ))
    (c5 : RR X d 170 [.ref 38, .int 0, .long 126943688392704] σ (some (.int v5), σ))
    (c6 : RR X d 165 [.ref 38, .int v5] σ (some (.long v6), σ))
    (e6 : lg_cmp v6 28523 = 0 ↔ a6 = true)
    (c7 : RR X d 131 [.ref 38, .int v4] σ (some (.int (bI a7)), σ))
    (b1 : a7 = true → mi_in v4 30 = true)
    (c8 : RR X d 176 [.ref 38, .int 0] σ (some (.int v8), σ))
    (e8 : σ.1 46 v4.toNatClampNeg = v8 ↔ a8 = true)
    (c9 : RR X d 166 [.ref 38, .int v1, .long 107156816789504] σ (some (.long v9), σ))
    (e9 : lg_cmp v9 29552 = 0 ↔ a9 = true)
    (c10 : RR X d 167 [.ref 38, .int v1, .long 121367185850368] σ (some (.int v10), σ))
    (c11 : RR X d 167 [.ref 38, .int v1, .long 121424647815168] σ (some (.int v11), σ))
    (c12 : RR X d 166 [.ref 38, .int v3, .long 125771406376960] σ (some (.long v12), σ))
    (e12 : lg_cmp v12 6382451 = 0 ↔ a12 = true)
    (c13 : RR X d 148 [.ref 38, .int v3, .long 115940293345280] σ (some (.int v13), σ))
    (c14 : RR X d 148 [.ref 38, .int 0, .long 115940293345280] σ (some (.int v14), σ))
    (c15 : RR X d 168 [.ref 38, .int v13, .int v14] σ (some (.int (bI a15)), σ))
    (c16 : RR X d 167 [.ref 38, .int v3, .long 121424647815168] σ (some (.int v16), σ)) : RR X (d + 1) 180 [.ref 38, .int x1] σ (some (.int (fc false (!a6) (!(a7 && a8)) (!a9) (decide (σ.1 38 2 + σ.1 38 0 < v10) || !decide (σ.1 38 2 - σ.1 38 0 < v11)) (!a12 || (!a15 || !decide (σ.1 38 2 - σ.1 38 0 < v16))) false false)), σ) := by
  refine mi_R.of rfl rfl ?_
  apply R180_0 (v1 := v1) (σ1 := σ) (v2 := v2) (σ2 := σ) (v3 := v3) (σ3 := σ) (v4 := v4) (σ4 := σ) (v5 := v5) (σ5 := σ) (v6 := v6) (σ6 := σ) (v7 := bI a7) (σ7 := σ) (v8 := v8) (σ8 := σ) (v9 := v9) (σ9 := σ) (v10 := v10) (σ10 := σ) (v11 := v11) (σ11 := σ) (v12 := v12) (σ12 := σ) (v13 := v13) (σ13 := σ) (v14 := v14) (σ14 := σ) (v15 := bI a15) (σ15 := σ) (v16 := v16) (σ16 := σ) c1 c2 c3 c4 c5 c6
  case c7 => exact fun _ => c7
  case k1 =>
    intro y1 y2
    rw [e6.mp y1, bI_0.mp y2]
    rfl
  case b1 => exact fun _ y => b1 (bI_n0.mp y)
  case c8 => exact fun _ _ => c8
  case c9 => exact fun _ _ _ => c9
  case c10 => exact fun _ _ _ _ => c10
  case k2 =>
    intro y1 y2 y3 y4 y5
    rw [e6.mp y1, bI_n0.mp y2, e8.mp y3, e9.mp y4, decide_eq_true y5]
    rfl
  case c11 => exact fun _ _ _ _ _ => c11
  case c12 => exact fun _ _ _ _ _ _ => c12
  case k3 =>
    intro y1 y2 y3 y4 y5 y6 y7
    have a0 : a12 = false := by
      cases hh : a12 with
      | false => rfl
      | true => exact absurd (e12.mpr hh) y7
    rw [e6.mp y1, bI_n0.mp y2, e8.mp y3, e9.mp y4, decide_eq_false y5, decide_eq_true y6, a0]
    rfl
  case c13 => exact fun _ _ _ _ _ _ _ => c13
  case c14 => exact fun _ _ _ _ _ _ _ => c14
  case c15 => exact fun _ _ _ _ _ _ _ => c15
  case k4 =>
    intro y1 y2 y3 y4 y5 y6 y7 y8
    rw [e6.mp y1, bI_n0.mp y2, e8.mp y3, e9.mp y4, decide_eq_false y5, decide_eq_true y6, e12.mp (Decidable.not_not.mp y7), bI_0.mp y8]
    rfl
  case c16 => exact fun _ _ _ _ _ _ _ _ => c16
  case k5 =>
    intro y1 y2 y3 y4 y5 y6 y7 y8 y9
    rw [e6.mp y1, bI_n0.mp y2, e8.mp y3, e9.mp y4, decide_eq_false y5, decide_eq_true y6, e12.mp (Decidable.not_not.mp y7), bI_n0.mp y8, decide_eq_true y9]
    rfl
  case k6 =>
    intro y1 y2 y3 y4 y5 y6 y7 y8 y9
    rw [e6.mp y1, bI_n0.mp y2, e8.mp y3, e9.mp y4, decide_eq_false y5, decide_eq_true y6, e12.mp (Decidable.not_not.mp y7), bI_n0.mp y8, decide_eq_false y9]
    rfl
  case k7 =>
    intro y1 y2 y3 y4 y5 y6
    rw [e6.mp y1, bI_n0.mp y2, e8.mp y3, e9.mp y4, decide_eq_false y5, decide_eq_false y6]
    rfl
  case k8 =>
    intro y1 y2 y3 y4
    have a0 : a9 = false := by
      cases hh : a9 with
      | false => rfl
      | true => exact absurd (e9.mpr hh) y4
    rw [e6.mp y1, bI_n0.mp y2, e8.mp y3, a0]
    rfl
  case k9 =>
    intro y1 y2 y3
    have a0 : a8 = false := by
      cases hh : a8 with
      | false => rfl
      | true => exact absurd (e8.mpr hh) y3
    rw [e6.mp y1, bI_n0.mp y2, a0]
    rfl
  case k10 =>
    intro y1
    have a0 : a6 = false := by
      cases hh : a6 with
      | false => rfl
      | true => exact absurd (e6.mpr hh) y1
    rw [a0]
    rfl
end
