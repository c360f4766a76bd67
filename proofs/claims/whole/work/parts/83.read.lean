/-! The class's read -/
def bd (T : List Nat) (p : Nat) : Bool := decide (tc T p = 38) || (decide (tc T p = 60) && (decide (tc T (p + 1) = 63) || (decide (tc T (p + 1) = 33) && !dsh T (p + 2))))
def bnR (T : List Nat) : Nat → Nat → Bool
  | 0, _ => false
  | k + 1, p => bd T p || bnR T k (p + 1)
def bnS (T : List Nat) : Bool := bnR T T.length 0
def reS (T : List Nat) : Option mPS → Option (Nat × (Nat → mEl))
  | none => none
  | some s => if s.2.2.2.2 = T.length then some (s.1, s.2.1) else none
def rI : Option (Nat × (Nat → mEl)) → Int32
  | none => -2
  | some y => nI y.1
theorem rdS_eq {T : List Nat} {s : mPS} (h : tnS T 0 E0 none 0 0 = some s) : rdS T = reS T (runS T 400 s) := by
  unfold rdS
  rw [h]
  dsimp only
  cases runS T 400 s <;> rfl
theorem rdS_none {T : List Nat} (h : tnS T 0 E0 none 0 0 = none) : rdS T = none := by
  unfold rdS
  rw [h]
section RE
variable {X : Nat × (Nat → Int32)} {d : Nat} {T : List Nat}
def sCl (σ : mG) (k p q : Nat) : mG := (mi_uc (mi_uc (mi_uc σ.1 10 (upd (σ.1 10) k (nI p))) 11 (upd (σ.1 11) k (nI q))) 16 (upd (upd (σ.1 16) 2 (σ.1 6 k)) 3 (σ.1 16 3 - 1)), σ.2)
theorem sCl_fR {σ : mG} {k p q : Nat} : fR σ (sCl σ k p q) := by
  refine ⟨rfl, fun c hc => ?_⟩
  show mi_uc (mi_uc (mi_uc σ.1 10 _) 11 _) 16 _ c = σ.1 c
  rw [mi_uc_ne _ _ (by omega), mi_uc_ne _ _ (by omega), mi_uc_ne _ _ (by omega)]
theorem sCl_st {σ : mG} {n k dd p p0 q : Nat} {E : Nat → mEl} (h : stC σ (n, E, some k, dd + 1, p0)) (hk : k < n) (h4 : ∀ i, i < n → (eL (E i)).length ≤ 4) : stC (sCl σ k p q) (n, fu E k (clE (E k) p q), ePar (E k), dd, q) := by
  obtain ⟨⟨h1, h2⟩, h3, h5⟩ := h
  dsimp only at h1 h2 h3 h5
  refine ⟨⟨h1, fun i hi => ?_⟩, ?_, ?_⟩
  · show elC (sCl σ k p q) i (fu E k (clE (E k) p q) i)
    by_cases hz : i = k
    · subst hz
      rw [fu_s]
      obtain ⟨a1, a2, a3, a4, a5, a6, a7⟩ := h2 i hi
      exact ⟨a1, a2, a3, a4, mi_upd_same _ _ _, mi_upd_same _ _ _, a7⟩
    · rw [fu_n hz]
      refine elC_of (h2 i hi) (h4 i hi) (fun c c1 c2 => ?_) (fun c c1 c2 j hj => ?_)
      · rcases (show c = 6 ∨ c = 7 ∨ c = 8 ∨ c = 9 ∨ c = 10 ∨ c = 11 ∨ c = 12 by omega) with rfl | rfl | rfl | rfl | rfl | rfl | rfl
        · rfl
        · rfl
        · rfl
        · rfl
        · exact mi_upd_ne _ _ hz
        · exact mi_upd_ne _ _ hz
        · rfl
      · rcases (show c = 13 ∨ c = 14 ∨ c = 15 by omega) with rfl | rfl | rfl
        · rfl
        · rfl
        · rfl
  · show upd (upd (σ.1 16) 2 (σ.1 6 k)) 3 (σ.1 16 3 - 1) 2 = oI (ePar (E k))
    rw [mi_upd_ne _ _ (by omega), mi_upd_same]
    exact (h2 k hk).1
  · show upd (upd (σ.1 16) 2 (σ.1 6 k)) 3 (σ.1 16 3 - 1) 3 = nI dd
    rw [mi_upd_same, h5, nI_pred]
theorem gS_L {s : mPS} (g : gS T s) : ∀ i, i < s.1 → (eL (s.2.1 i)).length ≤ 4 := fun i hi => by
  have h := g.2.1 i hi
  rw [h.2.2.1.1]
  exact h.2.2.2.1
theorem K84 (hT : okT T) {σ : mG} {n k dd p : Nat} {E : Nat → mEl} (hc : cT (σ.1 1 1) (σ.1 2) T) (hr : stC σ (n, E, some k, dd, p)) (g : gS T (n, E, some k, dd, p)) : ∃ σ', RR X (d + 3) 84 [.ref 16, .int (nI p)] σ (some (.int (oI ((clS T n E k dd p).map (fun s => s.2.2.2.2)))), σ') ∧ fR σ σ' ∧ ∀ s, clS T n E k dd p = some s → stC σ' s := by
  have hl := hT.1
  have hL := gS_L g
  have hr0 := hr
  obtain ⟨⟨r1, r2⟩, r3, r4⟩ := hr
  obtain ⟨g1, g2, g3, g4, g5, g6, -⟩ := g
  dsimp only at r1 r2 r3 r4 g1 g2 g3 g4 g5 g6 hL
  have hk := (g3 k rfl).1
  have r3 : σ.1 16 2 = nI k := r3
  have gk := (g2 k hk).1
  have gk1 := gk.1
  have gk2 := gk.2.2.1
  obtain ⟨-, a2, a3, -⟩ := r2 k hk
  have k80 : RR X (d + 2) 80 [.ref 16, .int (nI p + 2)] σ (some (.int (oI (nmS T (p + 2)))), σ) := by
    rw [nI_2]
    exact K80 hT hc (by omega)
  have hin : mi_in (σ.1 16 2) 20 = true := by rw [r3]; exact mi_in_nI (by omega) (by omega)
  have k53 : RR X (d + 2) 53 [.ref 5, .int (σ.1 16 2)] σ (some (.int 1), σ) := by
    rw [r3]
    exact K53 r1 g1 hk
  have h10 : ¬ (1 : Int32) = 0 := by decide
  cases hm : nmS T (p + 2) with
  | none =>
    rw [hm] at k80
    have e : clS T n E k dd p = none := by
      unfold clS enS
      rw [hm]
    rw [e]
    refine ⟨σ, mi_R.of rfl rfl ?_, fR.rfl', fun s hs => by cases hs⟩
    have h1 : oI none = -1 := rfl
    apply R84_0 (v1 := oI none) (σ1 := σ) (v2 := 0) (σ2 := σ) (v3 := 0) (σ3 := σ) (v4 := 0) (σ4 := σ) (v5 := 0) (σ5 := σ)
    case c1 => exact k80
    case k1 => exact fun _ => rfl
    all_goals (intros; first | assumption | contradiction)
  | some m =>
    rw [hm] at k80
    have gm := nmS_gN hm
    have gm1 := gm.1
    have gm2 := gm.2.2.1
    have hmm : ¬ oI (some m) = -1 := oI_ne (show m < 2 ^ 31 by omega)
    have k51 := K51 (X := X) (d := d) (σ := σ) hT hc (p := p + 2) (q := m) (p' := eBg (E k) + 1) (q' := eNe (E k)) (by omega) gm2 (by omega) gk2
    have oe := ord_eq hT (p := p + 2) (q := m) (p' := eBg (E k) + 1) (q' := eNe (E k)) (by omega) gm2 (by omega) gk2
    have k51' : RR X (d + 2) 51 [.ref 1, .int (nI p + 2), .int (oI (some m)), .int (σ.1 7 (σ.1 16 2).toNatClampNeg + 1), .int (σ.1 8 (σ.1 16 2).toNatClampNeg)] σ (some (.int (ordL ((nI m - nI (p + 2)) - (nI (eNe (E k)) - nI (eBg (E k) + 1))) (seg T (p + 2) m) (seg T (eBg (E k) + 1) (eNe (E k))))), σ) := by
      rw [r3, nI_clamp (by omega), a2, a3, nI_2, nI_1]
      exact k51
    generalize ordL ((nI m - nI (p + 2)) - (nI (eNe (E k)) - nI (eBg (E k) + 1))) (seg T (p + 2) m) (seg T (eBg (E k) + 1) (eNe (E k))) = v at k51' oe
    by_cases hv : v = 0
    · have k47 := K47 (X := X) (d := d) (σ := σ) hT hc (p := m) (by omega)
      have hq := nS_le m gm2
      have k39 := K39e (X := X) (d := d + 1) (σ := σ) hT hc (x := nI (m + nS T m)) rfl
      have c62 : cdA T (nI (m + nS T m)) = 62 ↔ tc T (m + nS T m) = 62 := cdA_is hT (c := 62) (by omega) (by omega) (by omega)
      by_cases h62 : tc T (m + nS T m) = 62
      · have e : clS T n E k dd p = some (n, fu E k (clE (E k) p (m + nS T m + 1)), ePar (E k), dd - 1, m + nS T m + 1) := by
          unfold clS enS
          rw [hm]
          dsimp only
          rw [if_pos h62]
          dsimp only
          rw [if_pos (oe.mp hv)]
        rw [e]
        have z62 := c62.mpr h62
        cases dd with
        | zero => cases g4
        | succ dd =>
          refine ⟨sCl σ k p (m + nS T m + 1), mi_R.of rfl rfl ?_, sCl_fR, fun s hs => ?_⟩
          · apply R84_0 (v1 := oI (some m)) (σ1 := σ) (v2 := 1) (σ2 := σ) (v3 := v) (σ3 := σ) (v4 := nI (m + nS T m)) (σ4 := σ) (v5 := cdA T (nI (m + nS T m))) (σ5 := σ)
            case c1 => exact k80
            case c2 => exact fun _ => k53
            case c3 => exact fun _ _ => k51'
            case c4 => exact fun _ _ _ => k47
            case c5 => exact fun _ _ _ => k39
            case k2 =>
              intro _ _ _ _
              rw [mi_uc_uc, r3, nI_clamp (by omega), nI_1]
              rfl
            all_goals (intros; first | assumption | contradiction)
          · injection hs with hs
            subst hs
            exact sCl_st hr0 hk hL
      · have e : clS T n E k dd p = none := by
          unfold clS enS
          rw [hm]
          dsimp only
          rw [if_neg h62]
        rw [e]
        have z62 : ¬ cdA T (nI (m + nS T m)) = 62 := fun z => h62 (c62.mp z)
        refine ⟨σ, mi_R.of rfl rfl ?_, fR.rfl', fun s hs => by cases hs⟩
        apply R84_0 (v1 := oI (some m)) (σ1 := σ) (v2 := 1) (σ2 := σ) (v3 := v) (σ3 := σ) (v4 := nI (m + nS T m)) (σ4 := σ) (v5 := cdA T (nI (m + nS T m))) (σ5 := σ)
        case c1 => exact k80
        case c2 => exact fun _ => k53
        case c3 => exact fun _ _ => k51'
        case c4 => exact fun _ _ _ => k47
        case c5 => exact fun _ _ _ => k39
        case k3 => exact fun _ _ _ _ => rfl
        all_goals (intros; first | assumption | contradiction)
    · have e : clS T n E k dd p = none := by
        unfold clS enS
        rw [hm]
        dsimp only
        split
        · rfl
        · rename_i y hy
          split at hy
          · injection hy with hy
            subst hy
            rw [if_neg (fun z => hv (oe.mpr z))]
          · cases hy
      rw [e]
      refine ⟨σ, mi_R.of rfl rfl ?_, fR.rfl', fun s hs => by cases hs⟩
      apply R84_0 (v1 := oI (some m)) (σ1 := σ) (v2 := 1) (σ2 := σ) (v3 := v) (σ3 := σ) (v4 := 0) (σ4 := σ) (v5 := 0) (σ5 := σ)
      case c1 => exact k80
      case c2 => exact fun _ => k53
      case c3 => exact fun _ _ => k51'
      case k4 => exact fun _ _ _ => rfl
      all_goals (intros; first | assumption | contradiction)
theorem L79 {σ : mG} (hT : okT T) (h : cT (σ.1 1 1) (σ.1 2) T) : ∀ (k p : Nat) (u2 u3 : Option Value), p + k = T.length → TT X (d + 2) tb79 (some .boolean) (2, [some (.ref 16), some (.int (nI p)), u2, u3], [], σ) (some (.int (bI (bnR T k p))), σ) := by
  have hl := hT.1
  intro k
  induction k with
  | zero =>
    intro p u2 u3 hp
    have z : σ.1 1 1 ≤ nI p := by rw [szC h hT (by omega)]; omega
    exact R79_2 (v1 := 0) (σ1 := σ) (v2 := 0) (σ2 := σ) (v3 := 0) (σ3 := σ) (fun _ => rfl) (fun y => absurd z y) (fun y => absurd z y) (fun y => absurd z y) (fun y => absurd z y) (fun y => absurd z y) (fun y => absurd z y) (fun y => absurd z y) (fun y => absurd z y) (fun y => absurd z y)
  | succ k ih =>
    intro p u2 u3 hp
    have z : ¬ σ.1 1 1 ≤ nI p := by rw [szC h hT (by omega)]; omega
    have c38 : cdA T (nI p) = 38 ↔ tc T p = 38 := cdA_is hT (c := 38) (by omega) (by omega) (by omega)
    have c60 : cdA T (nI p) = 60 ↔ tc T p = 60 := cdA_is hT (c := 60) (by omega) (by omega) (by omega)
    have c63 : cdA T (nI (p + 1)) = 63 ↔ tc T (p + 1) = 63 := cdA_is hT (c := 63) (by omega) (by omega) (by omega)
    have c33 : cdA T (nI (p + 1)) = 33 ↔ tc T (p + 1) = 33 := cdA_is hT (c := 33) (by omega) (by omega) (by omega)
    have k48 : RR X (d + 2) 48 [.ref 1, .int (nI p + 2)] σ (some (.int (bI (dsh T (p + 2)))), σ) := by
      rw [nI_2]
      exact K48 hT h (by omega)
    have ih' : ∀ u2 u3, bd T p = false → TT X (d + 2) tb79 (some .boolean) (2, [some (.ref 16), some (.int (nI p + 1)), u2, u3], [], σ) (some (.int (bI (bnR T (k + 1) p))), σ) := by
      intro u2 u3 hb
      have := ih (p + 1) u2 u3 (by omega)
      rw [← nI_1] at this
      show TT X (d + 2) tb79 (some .boolean) _ (some (.int (bI (bd T p || bnR T k (p + 1)))), σ)
      rw [hb]
      exact this
    have yes : bd T p = true → (some (Value.int (bI (bnR T (k + 1) p))), σ) = (some (Value.int 1), σ) := by
      intro hb
      show (some (Value.int (bI (bd T p || bnR T k (p + 1)))), σ) = _
      rw [hb]
      rfl
    refine R79_2 (fun y => absurd y z) (fun _ => K39e hT h rfl) (fun _ y1 y2 => ih' _ _ ?_) (fun _ _ _ => K39e hT h (nI_1 p)) (fun _ _ y1 y2 => yes ?_) (fun _ y0 y1 y2 y3 => ih' _ _ ?_) (fun _ _ _ _ _ => k48) (fun _ y0 y1 y2 y3 y4 => ih' _ _ ?_) (fun _ _ y1 y2 y3 y4 => yes ?_) (fun _ y1 => yes ?_)
    · rw [c38] at y1
      rw [c60] at y2
      simp [bd, y1, y2]
    · rw [c60] at y1
      rw [c63] at y2
      simp [bd, Classical.not_not.mp y1, y2]
    · rw [c38] at y0
      rw [c60] at y1
      rw [c63] at y2
      rw [c33] at y3
      simp [bd, Classical.not_not.mp y1, y2, y3]
    · rw [c38] at y0
      rw [c60] at y1
      rw [c63] at y2
      rw [c33] at y3
      have : dsh T (p + 2) = true := by
        cases hd : dsh T (p + 2)
        · rw [hd] at y4
          exact absurd rfl y4
        · rfl
      simp [bd, Classical.not_not.mp y1, y2, Classical.not_not.mp y3, this]
    · rw [c60] at y1
      rw [c33] at y3
      have := bI_0.mp (Classical.not_not.mp y4)
      simp [bd, Classical.not_not.mp y1, Classical.not_not.mp y3, this]
    · rw [c38] at y1
      simp [bd, Classical.not_not.mp y1]
theorem K79 {σ : mG} (hT : okT T) (h : cT (σ.1 1 1) (σ.1 2) T) : RR X (d + 3) 79 [.ref 16] σ (some (.int (bI (bnS T))), σ) := mi_R.of rfl rfl (R79_0 (L79 hT h T.length 0 none none (by omega)))
def s50 (σ : mG) : mG := (mi_uc σ.1 5 (upd (σ.1 5) 1 0), σ.2)
theorem s50_fR {σ : mG} : fR σ (s50 σ) := by
  refine ⟨rfl, fun c hc => ?_⟩
  show mi_uc σ.1 5 _ c = σ.1 c
  rw [mi_uc_ne _ _ (by omega)]
theorem L78f {σ : mG} (hT : okT T) (h : cT (σ.1 1 1) (σ.1 2) T) (x2 : Int32) (u : Option Value) : TT X d tb78 (some .int) (35, [some (.ref 16), some (.int (-1)), some (.int x2), u], [], σ) (some (.int (-2)), s50 σ) := by
  have hz : ¬ (-1 : Int32) = σ.1 1 1 := by rw [h.1]; exact m1_ne (by have := hT.1; omega)
  have k : TT X d tb78 (some .int) (162, [some (.ref 16), some (.int (-1)), some (.int x2), u], [], σ) (some (.int (-2)), s50 σ) := R78_162 (fun _ => R78_181 rfl) (fun z => absurd hz z) (fun z => absurd hz z)
  have hm : (-1 : Int32) = -1 := rfl
  exact R78_35 (v1 := 0) (σ1 := σ) (v2 := 0) (σ2 := σ) (fun _ => k) (fun _ _ => k) (fun _ z => absurd hm z) (fun _ z => absurd hm z) (fun _ z => absurd hm z) (fun _ z => absurd hm z) (fun _ z => absurd hm z)
theorem L78 (hT : okT T) : ∀ (f : Nat) (s : mPS) (σ : mG) (i : Nat) (u : Option Value), i + f = 400 → i + 1 ≤ s.2.2.2.2 → gS T s → cT (σ.1 1 1) (σ.1 2) T → stC σ s → ∃ σ', TT X (d + 5) tb78 (some .int) (35, [some (.ref 16), some (.int (nI s.2.2.2.2)), some (.int (nI i)), u], [], σ) (some (.int (rI (reS T (runS T f s)))), σ') ∧ fR σ σ' ∧ ∀ y, reS T (runS T f s) = some y → rpC σ' y.1 y.2 := by
  have hl := hT.1
  intro f
  induction f with
  | zero =>
    intro s σ i u hi hp g hc hr
    have := g.2.2.2.2.2.1
    omega
  | succ f ih =>
    intro s σ i u hi hp g hc hr
    obtain ⟨n, E, o, dd, p⟩ := s
    dsimp only at hp ⊢
    have hr0 := hr
    obtain ⟨r1, r2, r3⟩ := hr
    dsimp only at r1 r2 r3
    have g6 : p ≤ T.length := g.2.2.2.2.2.1
    have z400 : ¬ (400 : Int32) ≤ nI i := nI_ge (b := 400) (by omega) (by omega)
    have zp : ¬ nI p = -1 := oI_ne (by omega)
    cases o with
    | none =>
      have zo : σ.1 16 2 = -1 := r2
      have e0 : runS T (f + 1) (n, E, none, dd, p) = some (n, E, none, dd, p) := rfl
      rw [e0]
      by_cases hpl : p = T.length
      · have e1 : reS T (some (n, E, none, dd, p)) = some (n, E) := by
          show (if p = T.length then some (n, E) else none) = _
          rw [if_pos hpl]
        have zl : ¬ ¬ nI p = σ.1 1 1 := fun z => z (by rw [hc.1, hpl])
        rw [e1]
        refine ⟨σ, ?_, fR.rfl', fun y hy => by injection hy with hy; subst hy; exact r1⟩
        apply R78_35 (v1 := 0) (σ1 := σ) (v2 := 0) (σ2 := σ)
        case k3 =>
          intro _ _ _
          refine R78_162 (fun z => absurd z zl) (fun _ _ => ?_) (fun _ z => absurd zo z)
          rw [r1.1]
          rfl
        all_goals (intros; first | assumption | contradiction)
      · have e1 : reS T (some (n, E, none, dd, p)) = none := by
          show (if p = T.length then some (n, E) else none) = _
          rw [if_neg hpl]
        have zl : ¬ nI p = σ.1 1 1 := by
          rw [hc.1]
          exact fun z => hpl ((nI_eq (by omega) (by omega)).mp z)
        rw [e1]
        refine ⟨s50 σ, ?_, s50_fR, fun y hy => by cases hy⟩
        apply R78_35 (v1 := 0) (σ1 := σ) (v2 := 0) (σ2 := σ)
        case k3 =>
          intro _ _ _
          exact R78_162 (fun _ => R78_181 rfl) (fun z => absurd zl z) (fun z => absurd zl z)
        all_goals (intros; first | assumption | contradiction)
    | some k =>
      have hk := (g.2.2.1 k rfl).1
      have hk20 : n ≤ 20 := g.1
      have hk : k < n := hk
      have zo : ¬ σ.1 16 2 = -1 := by
        rw [r2]
        exact oI_ne (by omega)
      have e0 : runS T (f + 1) (n, E, some k, dd, p) = (stp T n E k dd p).bind (runS T f) := rfl
      rw [e0]
      have k39 := K39e (X := X) (d := d + 4) (σ := σ) hT hc (x := nI p) rfl
      have k39' := K39e (X := X) (d := d + 4) (σ := σ) hT hc (nI_1 p)
      have c60 : cdA T (nI p) = 60 ↔ tc T p = 60 := cdA_is hT (c := 60) (by omega) (by omega) (by omega)
      have c33 : cdA T (nI (p + 1)) = 33 ↔ tc T (p + 1) = 33 := cdA_is hT (c := 33) (by omega) (by omega) (by omega)
      have c47 : cdA T (nI (p + 1)) = 47 ↔ tc T (p + 1) = 47 := cdA_is hT (c := 47) (by omega) (by omega) (by omega)
      -- what the rest of the loop does, the step's outcome and state being given
      have rest : ∀ (σ1 : mG) (u : Option Value) (R : Option mPS), stp T n E k dd p = R → fR σ σ1 → (∀ s, R = some s → stC σ1 s) → ∃ σ', TT X (d + 5) tb78 (some .int) (35, [some (.ref 16), some (.int (oI (R.map (fun s => s.2.2.2.2)))), some (.int (nI i + 1)), u], [], σ1) (some (.int (rI (reS T ((stp T n E k dd p).bind (runS T f))))), σ') ∧ fR σ σ' ∧ ∀ y, reS T ((stp T n E k dd p).bind (runS T f)) = some y → rpC σ' y.1 y.2 := by
        intro σ1 u R hR hf hst
        rw [hR]
        cases R with
        | none => exact ⟨s50 σ1, L78f hT (hf.cT hc) _ _, hf.tr s50_fR, fun y hy => by cases hy⟩
        | some s =>
          obtain ⟨gs, hlt⟩ := stp_gS hR g
          obtain ⟨σ', t1, t2, t3⟩ := ih s σ1 (i + 1) u (by omega) (by omega) gs (hf.cT hc) (hst s rfl)
          rw [← nI_1] at t1
          exact ⟨σ', t1, hf.tr t2, t3⟩
      by_cases h60 : tc T p = 60
      · have z60 : cdA T (nI p) = 60 := c60.mpr h60
        have z60' : ¬ ¬ cdA T (nI p) = 60 := fun z => z z60
        by_cases h33 : tc T (p + 1) = 33
        · have z33 : ¬ ¬ cdA T (nI (p + 1)) = 33 := fun z => z (c33.mpr h33)
          have k49 := K49 (X := X) (d := d + 2) (σ := σ) hT hc (p := p) (by omega)
          have e1 : stp T n E k dd p = (cmS T p).map (fun q => (n, E, some k, dd, q)) := by
            unfold stp
            rw [if_pos h60, if_pos h33]
          obtain ⟨σ', t1, t2, t3⟩ := rest σ (some (.int (cdA T (nI (p + 1))))) _ e1 fR.rfl' (fun s hs => by
            cases hq : cmS T p with
            | none => rw [hq] at hs; cases hs
            | some q =>
              rw [hq] at hs
              injection hs with hs
              subst hs
              exact ⟨r1, r2, r3⟩)
          refine ⟨σ', ?_, t2, t3⟩
          have e2 : oI (((cmS T p).map (fun q => ((n, E, some k, dd, q) : mPS))).map (fun s => s.2.2.2.2)) = oI (cmS T p) := by
            cases cmS T p <;> rfl
          rw [e2] at t1
          apply R78_35 (v1 := cdA T (nI p)) (σ1 := σ) (v2 := cdA T (nI (p + 1))) (σ2 := σ)
          case c1 => exact fun _ _ _ => k39
          case c2 => exact fun _ _ _ _ => k39'
          case k5 =>
            intro _ _ _ _
            apply R78_82 (v1 := cdA T (nI p)) (σ1 := σ) (v2 := 0) (σ2 := σ) (v3 := 0) (σ3 := σ) (v4 := oI (cmS T p)) (σ4 := σ)
            case c1 => exact k39
            case c4 => exact fun _ _ => k49
            case k3 => exact fun _ _ => R78_156 t1
            all_goals (intros; first | assumption | contradiction)
          all_goals (intros; first | assumption | contradiction)
        · have z33 : ¬ cdA T (nI (p + 1)) = 33 := fun z => h33 (c33.mp z)
          by_cases h47 : tc T (p + 1) = 47
          · have z47 : ¬ ¬ cdA T (nI (p + 1)) = 47 := fun z => z (c47.mpr h47)
            have e1 : stp T n E k dd p = clS T n E k dd p := by
              unfold stp
              rw [if_pos h60, if_neg h33, if_pos h47]
            obtain ⟨σ1, w1, w2, w3⟩ := K84 (X := X) (d := d + 2) hT hc hr0 g
            obtain ⟨σ', t1, t2, t3⟩ := rest σ1 (some (.int (cdA T (nI (p + 1))))) _ e1 w2 w3
            refine ⟨σ', ?_, t2, t3⟩
            apply R78_35 (v1 := cdA T (nI p)) (σ1 := σ) (v2 := cdA T (nI (p + 1))) (σ2 := σ)
            case c1 => exact fun _ _ _ => k39
            case c2 => exact fun _ _ _ _ => k39'
            case k5 =>
              intro _ _ _ _
              apply R78_82 (v1 := cdA T (nI p)) (σ1 := σ) (v2 := 0) (σ2 := σ) (v3 := oI ((clS T n E k dd p).map (fun s => s.2.2.2.2))) (σ3 := σ1) (v4 := 0) (σ4 := σ)
              case c1 => exact k39
              case c3 => exact fun _ _ _ => w1
              case k2 => exact fun _ _ _ => R78_155 (R78_156 t1)
              all_goals (intros; first | assumption | contradiction)
            all_goals (intros; first | assumption | contradiction)
          · have z47 : ¬ cdA T (nI (p + 1)) = 47 := fun z => h47 (c47.mp z)
            have e1 : stp T n E k dd p = tnS T n E (some k) dd p := by
              unfold stp
              rw [if_pos h60, if_neg h33, if_neg h47]
            obtain ⟨σ1, w1, w2, w3⟩ := K81 (X := X) (d := d) hT hc hr0 hk20 g.2.2.2.2.1 g6 (gS_L g)
            obtain ⟨σ', t1, t2, t3⟩ := rest σ1 (some (.int (cdA T (nI (p + 1))))) _ e1 w2 w3
            refine ⟨σ', ?_, t2, t3⟩
            apply R78_35 (v1 := cdA T (nI p)) (σ1 := σ) (v2 := cdA T (nI (p + 1))) (σ2 := σ)
            case c1 => exact fun _ _ _ => k39
            case c2 => exact fun _ _ _ _ => k39'
            case k5 =>
              intro _ _ _ _
              apply R78_82 (v1 := cdA T (nI p)) (σ1 := σ) (v2 := oI ((tnS T n E (some k) dd p).map (fun s => s.2.2.2.2))) (σ2 := σ1) (v3 := 0) (σ3 := σ) (v4 := 0) (σ4 := σ)
              case c1 => exact k39
              case c2 => exact fun _ _ _ => w1
              case k1 => exact fun _ _ _ => R78_155 (R78_156 t1)
              all_goals (intros; first | assumption | contradiction)
            all_goals (intros; first | assumption | contradiction)
      · have z60 : ¬ cdA T (nI p) = 60 := fun z => h60 (c60.mp z)
        have z60' : ¬ ¬ ¬ cdA T (nI p) = 60 := fun z => z z60
        have e1 : stp T n E k dd p = if p < T.length then some (n, E, some k, dd, p + 1) else none := by
          unfold stp
          rw [if_neg h60]
        have hsz := szC hc hT (p := p) (by omega)
        obtain ⟨σ', t1, t2, t3⟩ := rest σ (some (.int (-1))) _ e1 fR.rfl' (fun s hs => by
          split at hs
          · injection hs with hs
            subst hs
            exact ⟨r1, r2, r3⟩
          · cases hs)
        refine ⟨σ', ?_, t2, t3⟩
        apply R78_35 (v1 := cdA T (nI p)) (σ1 := σ) (v2 := 0) (σ2 := σ)
        case c1 => exact fun _ _ _ => k39
        case k4 =>
          intro _ _ _ _
          apply R78_82 (v1 := cdA T (nI p)) (σ1 := σ) (v2 := 0) (σ2 := σ) (v3 := 0) (σ3 := σ) (v4 := 0) (σ4 := σ)
          case c1 => exact k39
          case k4 =>
            intro _ z
            rw [if_neg (by have := hsz.mp z; omega)] at t1
            exact R78_114 (R78_156 t1)
          case k5 =>
            intro _ z
            rw [if_pos (by have := fun y => z (hsz.mpr y); exact Nat.not_le.mp this)] at t1
            refine R78_114 (R78_156 ?_)
            rw [nI_1]
            exact t1
          all_goals (intros; first | assumption | contradiction)
        all_goals (intros; first | assumption | contradiction)
def rdI (T : List Nat) : Int32 := bif bnS T then -1 else rI (rdS T)
theorem K78 (hT : okT T) {σ : mG} (hc : cT (σ.1 1 1) (σ.1 2) T) : ∃ σ', RR X (d + 6) 78 [.ref 16] σ (some (.int (rdI T)), σ') ∧ fR σ σ' ∧ ∀ y, bnS T = false → rdS T = some y → rpC σ' y.1 y.2 := by
  have f0 : fR σ (mi_uc (mi_uc (mi_uc σ.1 5 (upd (σ.1 5) 1 0)) 16 (upd (σ.1 16) 2 (-1))) 16 (upd (upd (σ.1 16) 2 (-1)) 3 0), σ.2) := by
    refine ⟨rfl, fun c hc => ?_⟩
    show mi_uc (mi_uc (mi_uc σ.1 5 _) 16 _) 16 _ c = σ.1 c
    rw [mi_uc_ne _ _ (by omega), mi_uc_ne _ _ (by omega), mi_uc_ne _ _ (by omega)]
  have hc0 := f0.cT hc
  have k79 := K79 (X := X) (d := d + 2) hT hc0
  unfold rdI
  cases hb : bnS T with
  | true =>
    rw [hb] at k79
    refine ⟨_, mi_R.of rfl rfl (R78_0 (v2 := 0) (σ2 := σ) k79 (fun z => absurd z (by decide)) (fun z => absurd z (by decide)) (fun _ => rfl)), f0, fun y hy => by cases hy⟩
  | false =>
    rw [hb] at k79
    have hst : stC (mi_uc (mi_uc (mi_uc σ.1 5 (upd (σ.1 5) 1 0)) 16 (upd (σ.1 16) 2 (-1))) 16 (upd (upd (σ.1 16) 2 (-1)) 3 0), σ.2) (0, E0, none, 0, 0) := by
      refine ⟨⟨show upd (σ.1 5) 1 0 1 = 0 from mi_upd_same _ _ _, fun i hi => absurd hi (Nat.not_lt_zero i)⟩, ?_, show upd (upd (σ.1 16) 2 (-1)) 3 0 3 = 0 from mi_upd_same _ _ _⟩
      show upd (upd (σ.1 16) 2 (-1)) 3 0 2 = -1
      rw [mi_upd_ne _ _ (by omega), mi_upd_same]
    obtain ⟨σ1, w1, w2, w3⟩ := K81 (X := X) (d := d) hT hc0 hst (by omega) (by omega) (Nat.zero_le _) (fun i hi => absurd hi (Nat.not_lt_zero i))
    cases hs : tnS T 0 E0 none 0 0 with
    | none =>
      rw [hs] at w1
      rw [rdS_none hs]
      refine ⟨s50 σ1, mi_R.of rfl rfl (R78_0 k79 (fun _ => w1) (fun _ => L78f hT (w2.cT hc0) _ _) (fun z => absurd (show bI false = 0 from rfl) z)), (f0.tr w2).tr s50_fR, fun y _ hy => by cases hy⟩
    | some s =>
      rw [hs] at w1
      rw [rdS_eq hs]
      obtain ⟨gs, hlt⟩ := tnS_gS hs (fun i hi => absurd hi (Nat.not_lt_zero i)) (fun k hk => by cases hk) rfl (fun k hk => absurd hk (Nat.not_lt_zero k))
      obtain ⟨σ', t1, t2, t3⟩ := L78 (X := X) (d := d) hT 400 s σ1 0 none rfl (by omega) gs (w2.cT hc0) (w3 s hs)
      refine ⟨σ', mi_R.of rfl rfl (R78_0 k79 (fun _ => w1) (fun _ => t1) (fun z => absurd (show bI false = 0 from rfl) z)), (f0.tr w2).tr t2, fun y _ hy => t3 y hy⟩
end RE
