/-! The class's reader -/
def elC (σ : mG) (i : Nat) (e : mEl) : Prop := σ.1 6 i = oI (ePar e) ∧ σ.1 7 i = nI (eBg e) ∧ σ.1 8 i = nI (eNe e) ∧ σ.1 9 i = nI (eBs e) ∧ σ.1 10 i = nI (eBe e) ∧ σ.1 11 i = nI (eOv e) ∧ atC σ i (eL e)
def rpC (σ : mG) (n : Nat) (E : Nat → mEl) : Prop := σ.1 5 1 = nI n ∧ ∀ i, i < n → elC σ i (E i)
def stC (σ : mG) (s : mPS) : Prop := rpC σ s.1 s.2.1 ∧ σ.1 16 2 = oI s.2.2.1 ∧ σ.1 16 3 = nI s.2.2.2.1
/-- only the message and the reader differ -/
def fR (σ σ' : mG) : Prop := σ'.2 = σ.2 ∧ ∀ c, c < 5 ∨ 16 < c → σ'.1 c = σ.1 c
theorem fR.rfl' {σ : mG} : fR σ σ := ⟨rfl, fun _ _ => rfl⟩
theorem fR.tr {σ σ1 σ2 : mG} (h : fR σ σ1) (g : fR σ1 σ2) : fR σ σ2 := ⟨g.1.trans h.1, fun c hc => (g.2 c hc).trans (h.2 c hc)⟩
theorem fA.fR {i : Nat} {σ σ' : mG} (h : fA i σ σ') : fR σ σ' := ⟨h.1, fun c hc => h.2.1 c (by omega)⟩
theorem fR.cT {σ σ' : mG} {T : List Nat} (h : fR σ σ') (g : cT (σ.1 1 1) (σ.1 2) T) : cT (σ'.1 1 1) (σ'.1 2) T := by
  rw [h.2 1 (by omega), h.2 2 (by omega)]
  exact g
theorem elC_of {σ σ' : mG} {i : Nat} {e : mEl} (h : elC σ i e) (h4 : (eL e).length ≤ 4) (h6 : ∀ c, 6 ≤ c → c ≤ 12 → σ'.1 c i = σ.1 c i) (hs : ∀ c, 13 ≤ c → c ≤ 15 → ∀ j, j < 4 → σ'.1 c (4 * i + j) = σ.1 c (4 * i + j)) : elC σ' i e := by
  obtain ⟨a1, a2, a3, a4, a5, a6, a7, a8⟩ := h
  refine ⟨(h6 6 (by omega) (by omega)).trans a1, (h6 7 (by omega) (by omega)).trans a2, (h6 8 (by omega) (by omega)).trans a3, (h6 9 (by omega) (by omega)).trans a4, (h6 10 (by omega) (by omega)).trans a5, (h6 11 (by omega) (by omega)).trans a6, (h6 12 (by omega) (by omega)).trans a7, fun j hj => ?_⟩
  obtain ⟨b1, b2, b3⟩ := a8 j hj
  exact ⟨(hs 13 (by omega) (by omega) j (by omega)).trans b1, (hs 14 (by omega) (by omega) j (by omega)).trans b2, (hs 15 (by omega) (by omega) j (by omega)).trans b3⟩
section RD
variable {X : Nat × (Nat → Int32)} {d : Nat} {T : List Nat}
/-- the message with one element more -/
def adC (σ : mG) (n : Nat) (x y z : Int32) : mG := (mi_uc (mi_uc (mi_uc (mi_uc (mi_uc σ.1 5 (upd (σ.1 5) 1 (nI (n + 1)))) 6 (upd (σ.1 6) n x)) 7 (upd (σ.1 7) n y)) 8 (upd (σ.1 8) n z)) 12 (upd (σ.1 12) n 0), σ.2)
theorem K54 {σ : mG} {n : Nat} (h : σ.1 5 1 = nI n) (hn : n < 20) {x y z : Int32} : RR X (d + 1) 54 [.ref 5, .int x, .int y, .int z] σ (some (.int (nI n)), adC σ n x y z) := by
  have h1 : σ.1 5 1 < 20 := by rw [h]; exact nI_lt (b := 20) hn (by omega)
  have hin : mi_in (σ.1 5 1) 20 = true := by rw [h]; exact mi_in_nI hn (by omega)
  refine mi_R.of rfl rfl (R54_0 (fun _ => hin) (fun _ => hin) (fun _ => hin) (fun _ => hin) (fun _ => ?_) (fun y => absurd h1 y))
  rw [h, nI_clamp (by omega), nI_1]
  rfl
theorem K54n {σ : mG} {n : Nat} (h : σ.1 5 1 = nI n) (hn : ¬ n < 20) (h2 : n ≤ 20) {x y z : Int32} : RR X (d + 1) 54 [.ref 5, .int x, .int y, .int z] σ (some (.int (-1)), σ) := by
  have h1 : ¬ σ.1 5 1 < 20 := by rw [h]; exact nI_nlt (b := 20) (by omega) (by omega)
  exact mi_R.of rfl rfl (R54_0 (fun z => absurd z h1) (fun z => absurd z h1) (fun z => absurd z h1) (fun z => absurd z h1) (fun z => absurd z h1) (fun _ => rfl))
/-- the bodies of the new element -/
def bdC (σ : mG) (n : Nat) (x : Int32) : mG := (mi_uc (mi_uc (mi_uc σ.1 9 (upd (σ.1 9) n x)) 10 (upd (σ.1 10) n x)) 11 (upd (σ.1 11) n x), σ.2)
def opC (σ : mG) (n : Nat) : mG := (mi_uc σ.1 16 (upd (upd (σ.1 16) 2 (nI n)) 3 (σ.1 16 3 + 1)), σ.2)
theorem adC_fR {σ : mG} {n : Nat} {x y z : Int32} : fR σ (adC σ n x y z) := by
  refine ⟨rfl, fun c hc => ?_⟩
  show mi_uc (mi_uc (mi_uc (mi_uc (mi_uc σ.1 5 _) 6 _) 7 _) 8 _) 12 _ c = σ.1 c
  rw [mi_uc_ne _ _ (by omega), mi_uc_ne _ _ (by omega), mi_uc_ne _ _ (by omega), mi_uc_ne _ _ (by omega), mi_uc_ne _ _ (by omega)]
theorem bdC_fR {σ : mG} {n : Nat} {x : Int32} : fR σ (bdC σ n x) := by
  refine ⟨rfl, fun c hc => ?_⟩
  show mi_uc (mi_uc (mi_uc σ.1 9 _) 10 _) 11 _ c = σ.1 c
  rw [mi_uc_ne _ _ (by omega), mi_uc_ne _ _ (by omega), mi_uc_ne _ _ (by omega)]
theorem opC_fR {σ : mG} {n : Nat} : fR σ (opC σ n) := by
  refine ⟨rfl, fun c hc => ?_⟩
  show mi_uc σ.1 16 _ c = σ.1 c
  rw [mi_uc_ne _ _ (by omega)]
/-- an earlier element's rows are left -/
theorem el_keep {σ σ4 : mG} {n i : Nat} {e : mEl} {x y z w : Int32} (hi : i < n) (h4 : (eL e).length ≤ 4) (h : elC σ i e) (hf : fA n (adC σ n x y z) σ4) : elC (bdC σ4 n w) i e := by
  refine elC_of h h4 (fun c h1 h2 => ?_) (fun c h1 h2 j hj => ?_)
  · rcases (show c = 6 ∨ c = 7 ∨ c = 8 ∨ c = 9 ∨ c = 10 ∨ c = 11 ∨ c = 12 by omega) with rfl | rfl | rfl | rfl | rfl | rfl | rfl
    · show σ4.1 6 i = _
      rw [hf.2.1 6 (by omega)]
      exact mi_upd_ne _ _ (by omega)
    · show σ4.1 7 i = _
      rw [hf.2.1 7 (by omega)]
      exact mi_upd_ne _ _ (by omega)
    · show σ4.1 8 i = _
      rw [hf.2.1 8 (by omega)]
      exact mi_upd_ne _ _ (by omega)
    · show upd (σ4.1 9) n w i = _
      rw [mi_upd_ne _ _ (by omega), hf.2.1 9 (by omega)]
      rfl
    · show upd (σ4.1 10) n w i = _
      rw [mi_upd_ne _ _ (by omega), hf.2.1 10 (by omega)]
      rfl
    · show upd (σ4.1 11) n w i = _
      rw [mi_upd_ne _ _ (by omega), hf.2.1 11 (by omega)]
      rfl
    · show σ4.1 12 i = _
      rw [hf.2.2.1 i (by omega)]
      exact mi_upd_ne _ _ (by omega)
  · have := hf.2.2.2 (4 * i + j) (by omega)
    rcases (show c = 13 ∨ c = 14 ∨ c = 15 by omega) with rfl | rfl | rfl
    · exact this.1
    · exact this.2.1
    · exact this.2.2
theorem rp_new {σ σ4 : mG} {n : Nat} {E : Nat → mEl} {o : Option Nat} {dd p m q : Nat} {as L : List mAt} {sg : Bool} (hr : rpC σ n E) (hL : ∀ i, i < n → (eL (E i)).length ≤ 4) (hf : fA n (adC σ n (oI o) (nI p) (nI m)) σ4) (ha : atC σ4 n L) : rpC (bdC σ4 n (nI q)) (nwS n E o dd p (m, as, L, q, sg)).1 (nwS n E o dd p (m, as, L, q, sg)).2.1 := by
  refine ⟨?_, fun i hi => ?_⟩
  · show σ4.1 5 1 = nI (n + 1)
    rw [hf.2.1 5 (by omega)]
    show upd (σ.1 5) 1 (nI (n + 1)) 1 = _
    exact mi_upd_same _ _ _
  · show elC (bdC σ4 n (nI q)) i (fu E n (o, p, m, q, q, q, sg, as, L) i)
    by_cases hz : i = n
    · subst hz
      rw [fu_s]
      refine ⟨?_, ?_, ?_, mi_upd_same _ _ _, mi_upd_same _ _ _, mi_upd_same _ _ _, ha⟩
      · show σ4.1 6 i = _
        rw [hf.2.1 6 (by omega)]
        exact mi_upd_same _ _ _
      · show σ4.1 7 i = _
        rw [hf.2.1 7 (by omega)]
        exact mi_upd_same _ _ _
      · show σ4.1 8 i = _
        rw [hf.2.1 8 (by omega)]
        exact mi_upd_same _ _ _
    · have hi : i < n + 1 := hi
      rw [fu_n hz]
      exact el_keep (by omega) (hL i (by omega)) (hr.2 i (by omega)) hf
theorem rp_op {σ : mG} {n m : Nat} {E : Nat → mEl} (h : rpC σ n E) : rpC (opC σ m) n E := h
theorem oI_ne {p : Nat} (h : p < 2 ^ 31) : ¬ nI p = -1 := fun z => m1_ne h z.symm
theorem K81 (hT : okT T) {σ : mG} {n : Nat} {E : Nat → mEl} {o : Option Nat} {dd p : Nat} (hc : cT (σ.1 1 1) (σ.1 2) T) (hr : stC σ (n, E, o, dd, p)) (hn : n ≤ 20) (hd6 : dd ≤ 6) (hp : p ≤ T.length) (hL : ∀ i, i < n → (eL (E i)).length ≤ 4) : ∃ σ', RR X (d + 5) 81 [.ref 16, .int (nI p)] σ (some (.int (oI ((tnS T n E o dd p).map (fun s => s.2.2.2.2)))), σ') ∧ fR σ σ' ∧ ∀ s, tnS T n E o dd p = some s → stC σ' s := by
  have hl := hT.1
  obtain ⟨hr1, hr2, hr3⟩ := hr
  dsimp only at hr1 hr2 hr3
  have k80 : RR X (d + 4) 80 [.ref 16, .int (nI p + 1)] σ (some (.int (oI (nmS T (p + 1)))), σ) := by
    rw [nI_1]
    exact K80 hT hc (by omega)
  have k39 := K39e (X := X) (d := d + 3) (σ := σ) hT hc (x := nI p) rfl
  have c60 : cdA T (nI p) = 60 ↔ tc T p = 60 := cdA_is hT (c := 60) (by omega) (by omega) (by omega)
  by_cases h60 : tc T p = 60
  · have z60 : ¬ ¬ cdA T (nI p) = 60 := fun z => z (c60.mpr h60)
    cases hm : nmS T (p + 1) with
    | none =>
      rw [hm] at k80
      have e : tnS T n E o dd p = none := by
        unfold tnS tgS
        rw [if_pos h60, hm]
        split <;> rfl
      rw [e]
      refine ⟨σ, mi_R.of rfl rfl ?_, fR.rfl', fun s hs => by cases hs⟩
      have hm1 : oI none = -1 := rfl
      apply R81_0 (v1 := oI none) (σ1 := σ) (v2 := cdA T (nI p)) (σ2 := σ) (v3 := 0) (σ3 := σ) (v4 := 0) (σ4 := σ) (v5 := 0) (σ5 := σ) (v6 := 0) (σ6 := σ)
      case c1 => exact k80
      case c2 => exact k39
      case k2 => exact fun _ _ => rfl
      all_goals (intros; first | assumption | contradiction)
    | some m =>
      rw [hm] at k80
      have gn := nmS_gN hm
      have gm : m ≤ T.length := gn.2.2.1
      have hm1 : ¬ oI (some m) = -1 := oI_ne (show m < 2 ^ 31 by omega)
      by_cases hd : dd < 6
      · have zd : σ.1 16 3 < 6 := by rw [hr3]; exact nI_lt (b := 6) hd (by omega)
        by_cases hn20 : n < 20
        · have k54 := K54 (X := X) (d := d + 3) hr1.1 hn20 (x := σ.1 16 2) (y := nI p) (z := oI (some m))
          rw [hr2] at k54
          obtain ⟨σ4, t1, t2, t3⟩ := K82 (X := X) (d := d) hT (σ := adC σ n (oI o) (nI p) (oI (some m))) (n := n + 1) (i := n) (by omega) (by omega) gm (adC_fR.cT hc) (show upd (σ.1 5) 1 (nI (n + 1)) 1 = _ from mi_upd_same _ _ _) (show upd (σ.1 12) n 0 n = 0 from mi_upd_same _ _ _)
          have f4 : fR σ σ4 := adC_fR.tr t2.fR
          have hc4 := f4.cT hc
          have hnm : ¬ nI n = -1 := oI_ne (show n < 2 ^ 31 by omega)
          have e0 : tnS T n E o dd p = (tgS T p).map (nwS n E o dd p) := by
            unfold tnS
            rw [if_pos ⟨hn20, hd⟩]
          have e1 : tgS T p = match atS T 5 m [] [] with
            | none => none
            | some y => tgE T m y := by
            unfold tgS
            rw [if_pos h60, hm]
            rfl
          cases hy : atS T 5 m [] [] with
          | none =>
            rw [hy] at t1 e1
            rw [e0, e1]
            have k39' := K39 (X := X) (d := d + 3) (σ := σ4) hT hc4 (-1)
            rw [cdA_m] at k39'
            refine ⟨σ4, mi_R.of rfl rfl ?_, f4, fun s hs => by cases hs⟩
            have h47 : ¬ (-1 : Int32) = 47 := by decide
            apply R81_0 (v1 := oI (some m)) (σ1 := σ) (v2 := cdA T (nI p)) (σ2 := σ) (v3 := nI n) (σ3 := adC σ n (oI o) (nI p) (oI (some m))) (v4 := -1) (σ4 := σ4) (v5 := -1) (σ5 := σ4) (v6 := 0) (σ6 := σ4)
            case c1 => exact k80
            case c2 => exact k39
            case c3 => rw [hr2]; exact fun _ _ _ => k54
            case c4 => exact fun _ _ _ _ => t1
            case c5 => exact fun _ _ _ _ => k39'
            case k3 => exact fun _ _ _ _ _ => R81_100 (R81_101 (fun z => absurd (show (0 : Int32) = 0 from rfl) z) (fun _ => k39') (fun _ z => absurd z (by decide)) (fun _ _ => rfl))
            all_goals (intros; first | assumption | contradiction)
          | some y =>
            obtain ⟨as, L, q⟩ := y
            rw [hy] at t1 e1
            dsimp only at e1
            have ha : atC σ4 n L := t3 _ hy
            obtain ⟨-, r2, r3, r4, r5⟩ := atS_ok 5 m [] [] hy (fun a ha => by cases ha) (SL_nil T) (by decide) gm
            have kq := K39e (X := X) (d := d + 3) (σ := σ4) hT hc4 (x := nI q) rfl
            have kq1 := K39e (X := X) (d := d + 3) (σ := σ4) hT hc4 (nI_1 q)
            have c47 : cdA T (nI q) = 47 ↔ tc T q = 47 := cdA_is hT (c := 47) (by omega) (by omega) (by omega)
            have c62 : cdA T (nI q) = 62 ↔ tc T q = 62 := cdA_is hT (c := 62) (by omega) (by omega) (by omega)
            have c62' : cdA T (nI (q + 1)) = 62 ↔ tc T (q + 1) = 62 := cdA_is hT (c := 62) (by omega) (by omega) (by omega)
            have hin : mi_in (nI n) 20 = true := mi_in_nI hn20 (by omega)
            have cln : (nI n).toNatClampNeg = n := nI_clamp (by omega)
            by_cases h47 : tc T q = 47
            · have z47 : ¬ ¬ cdA T (nI q) = 47 := fun z => z (c47.mpr h47)
              by_cases h62 : tc T (q + 1) = 62
              · have z62 : ¬ ¬ cdA T (nI (q + 1)) = 62 := fun z => z (c62'.mpr h62)
                have e2 : tgE T m (as, L, q) = some (m, as, L, q + 2, true) := by
                  unfold tgE
                  rw [if_pos ⟨h47, h62⟩]
                rw [e0, e1, e2]
                refine ⟨bdC σ4 n (nI (q + 2)), mi_R.of rfl rfl ?_, f4.tr bdC_fR, fun s hs => ?_⟩
                · apply R81_0 (v1 := oI (some m)) (σ1 := σ) (v2 := cdA T (nI p)) (σ2 := σ) (v3 := nI n) (σ3 := adC σ n (oI o) (nI p) (oI (some m))) (v4 := nI q) (σ4 := σ4) (v5 := cdA T (nI q)) (σ5 := σ4) (v6 := cdA T (nI (q + 1))) (σ6 := σ4)
                  case c1 => exact k80
                  case c2 => exact k39
                  case c3 => rw [hr2]; exact fun _ _ _ => k54
                  case c4 => exact fun _ _ _ _ => t1
                  case c5 => exact fun _ _ _ _ => kq
                  case c6 => exact fun _ _ _ _ _ => kq1
                  case k5 =>
                    intro _ _ _ _ _ _
                    refine R81_101 (v1 := 0) (σ1 := σ4) (fun _ => ?_) (fun z => absurd (show ¬ (1 : Int32) = 0 by decide) z) (fun z => absurd (show ¬ (1 : Int32) = 0 by decide) z) (fun z => absurd (show ¬ (1 : Int32) = 0 by decide) z)
                    refine R81_124 (fun z => absurd z (by decide)) (fun _ => ?_)
                    refine R81_140 hin hin hin (fun _ => ?_) (fun z => absurd (show ¬ (1 : Int32) = 0 by decide) z)
                    rw [nI_2, cln]
                    exact R81_195 rfl
                  all_goals (intros; first | assumption | contradiction)
                · injection hs with hs
                  subst hs
                  refine ⟨rp_new hr1 hL t2 ha, ?_, ?_⟩
                  · show σ4.1 16 2 = oI o
                    rw [t2.2.1 16 (by omega)]
                    exact hr2
                  · show σ4.1 16 3 = nI dd
                    rw [t2.2.1 16 (by omega)]
                    exact hr3
              · have z62 : ¬ cdA T (nI (q + 1)) = 62 := fun z => h62 (c62'.mp z)
                have e2 : tgE T m (as, L, q) = none := by
                  unfold tgE
                  rw [if_neg (fun z => h62 z.2), if_neg (fun z => by dsimp only at z; omega)]
                rw [e0, e1, e2]
                refine ⟨σ4, mi_R.of rfl rfl ?_, f4, fun s hs => by cases hs⟩
                apply R81_0 (v1 := oI (some m)) (σ1 := σ) (v2 := cdA T (nI p)) (σ2 := σ) (v3 := nI n) (σ3 := adC σ n (oI o) (nI p) (oI (some m))) (v4 := nI q) (σ4 := σ4) (v5 := cdA T (nI q)) (σ5 := σ4) (v6 := cdA T (nI (q + 1))) (σ6 := σ4)
                case c1 => exact k80
                case c2 => exact k39
                case c3 => rw [hr2]; exact fun _ _ _ => k54
                case c4 => exact fun _ _ _ _ => t1
                case c5 => exact fun _ _ _ _ => kq
                case c6 => exact fun _ _ _ _ _ => kq1
                case k4 => exact fun _ _ _ _ _ _ => R81_100 (R81_101 (fun z => absurd (show (0 : Int32) = 0 from rfl) z) (fun _ => kq) (fun _ z => absurd (c62.mp z) (by omega)) (fun _ _ => rfl))
                all_goals (intros; first | assumption | contradiction)
            · have z47 : ¬ cdA T (nI q) = 47 := fun z => h47 (c47.mp z)
              by_cases h62 : tc T q = 62
              · have z62 : cdA T (nI q) = 62 := c62.mpr h62
                have e2 : tgE T m (as, L, q) = some (m, as, L, q + 1, false) := by
                  unfold tgE
                  rw [if_neg (fun z => h47 z.1), if_pos h62]
                rw [e0, e1, e2]
                refine ⟨opC (bdC σ4 n (nI (q + 1))) n, mi_R.of rfl rfl ?_, (f4.tr bdC_fR).tr opC_fR, fun s hs => ?_⟩
                · apply R81_0 (v1 := oI (some m)) (σ1 := σ) (v2 := cdA T (nI p)) (σ2 := σ) (v3 := nI n) (σ3 := adC σ n (oI o) (nI p) (oI (some m))) (v4 := nI q) (σ4 := σ4) (v5 := cdA T (nI q)) (σ5 := σ4) (v6 := cdA T (nI (q + 1))) (σ6 := σ4)
                  case c1 => exact k80
                  case c2 => exact k39
                  case c3 => rw [hr2]; exact fun _ _ _ => k54
                  case c4 => exact fun _ _ _ _ => t1
                  case c5 => exact fun _ _ _ _ => kq
                  case k3 =>
                    intro _ _ _ _ _
                    refine R81_100 (R81_101 (fun z => absurd (show (0 : Int32) = 0 from rfl) z) (fun _ => kq) (fun _ _ => ?_) (fun _ z => absurd z62 z))
                    refine R81_124 (fun _ => ?_) (fun z => absurd (show (0 : Int32) = 0 from rfl) z)
                    refine R81_140 hin hin hin (fun z => absurd (show (0 : Int32) = 0 from rfl) z) (fun _ => ?_)
                    rw [nI_1, cln, mi_uc_uc]
                    exact R81_195 rfl
                  all_goals (intros; first | assumption | contradiction)
                · injection hs with hs
                  subst hs
                  refine ⟨rp_op (rp_new hr1 hL t2 ha), ?_, ?_⟩
                  · show upd (upd (σ4.1 16) 2 (nI n)) 3 (σ4.1 16 3 + 1) 2 = nI n
                    rw [mi_upd_ne _ _ (by omega), mi_upd_same]
                  show upd (upd (σ4.1 16) 2 (nI n)) 3 (σ4.1 16 3 + 1) 3 = nI (dd + 1)
                  rw [mi_upd_same, t2.2.1 16 (by omega), ← nI_1, ← hr3]
                  rfl
              · have z62 : ¬ cdA T (nI q) = 62 := fun z => h62 (c62.mp z)
                have e2 : tgE T m (as, L, q) = none := by
                  unfold tgE
                  rw [if_neg (fun z => h47 z.1), if_neg h62]
                rw [e0, e1, e2]
                refine ⟨σ4, mi_R.of rfl rfl ?_, f4, fun s hs => by cases hs⟩
                apply R81_0 (v1 := oI (some m)) (σ1 := σ) (v2 := cdA T (nI p)) (σ2 := σ) (v3 := nI n) (σ3 := adC σ n (oI o) (nI p) (oI (some m))) (v4 := nI q) (σ4 := σ4) (v5 := cdA T (nI q)) (σ5 := σ4) (v6 := cdA T (nI (q + 1))) (σ6 := σ4)
                case c1 => exact k80
                case c2 => exact k39
                case c3 => rw [hr2]; exact fun _ _ _ => k54
                case c4 => exact fun _ _ _ _ => t1
                case c5 => exact fun _ _ _ _ => kq
                case k3 => exact fun _ _ _ _ _ => R81_100 (R81_101 (fun z => absurd (show (0 : Int32) = 0 from rfl) z) (fun _ => kq) (fun _ z => absurd z z62) (fun _ _ => rfl))
                all_goals (intros; first | assumption | contradiction)
        · have k54 := K54n (X := X) (d := d + 3) hr1.1 hn20 hn (x := σ.1 16 2) (y := nI p) (z := oI (some m))
          have e : tnS T n E o dd p = none := by
            unfold tnS
            rw [if_neg (fun z => hn20 z.1)]
          rw [e]
          refine ⟨σ, mi_R.of rfl rfl ?_, fR.rfl', fun s hs => by cases hs⟩
          have zz : ¬ ¬ (-1 : Int32) = -1 := fun z => z rfl
          apply R81_0 (v1 := oI (some m)) (σ1 := σ) (v2 := cdA T (nI p)) (σ2 := σ) (v3 := -1) (σ3 := σ) (v4 := 0) (σ4 := σ) (v5 := 0) (σ5 := σ) (v6 := 0) (σ6 := σ)
          case c1 => exact k80
          case c2 => exact k39
          case c3 => exact fun _ _ _ => k54
          case k6 => exact fun _ _ _ _ => rfl
          all_goals (intros; first | assumption | contradiction)
      · have zd : ¬ σ.1 16 3 < 6 := by rw [hr3]; exact nI_nlt (b := 6) (by omega) (by omega)
        have e : tnS T n E o dd p = none := by
          unfold tnS
          rw [if_neg (fun z => hd z.2)]
        rw [e]
        refine ⟨σ, mi_R.of rfl rfl ?_, fR.rfl', fun s hs => by cases hs⟩
        apply R81_0 (v1 := oI (some m)) (σ1 := σ) (v2 := cdA T (nI p)) (σ2 := σ) (v3 := 0) (σ3 := σ) (v4 := 0) (σ4 := σ) (v5 := 0) (σ5 := σ) (v6 := 0) (σ6 := σ)
        case c1 => exact k80
        case c2 => exact k39
        case k7 => exact fun _ _ _ => rfl
        all_goals (intros; first | assumption | contradiction)
  · have z60 : ¬ cdA T (nI p) = 60 := fun z => h60 (c60.mp z)
    have e : tnS T n E o dd p = none := by
      unfold tnS tgS
      rw [if_neg h60]
      split <;> rfl
    rw [e]
    refine ⟨σ, mi_R.of rfl rfl ?_, fR.rfl', fun s hs => by cases hs⟩
    apply R81_0 (v1 := oI (nmS T (p + 1))) (σ1 := σ) (v2 := cdA T (nI p)) (σ2 := σ) (v3 := 0) (σ3 := σ) (v4 := 0) (σ4 := σ) (v5 := 0) (σ5 := σ) (v6 := 0) (σ6 := σ)
    case c1 => exact k80
    case c2 => exact k39
    case k1 => exact fun _ => rfl
    all_goals (intros; first | assumption | contradiction)
end RD
