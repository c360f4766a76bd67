/-! The reference's read; elements -/
def elM (T : List Nat) (σ : mG) (i : Nat) (e : mEl) : Prop := σ.2 52 i = lN (pkp 6 (seg T (eBg e + 1) (eNe e))) ∧ σ.1 53 i = oI (ePar e) ∧ σ.1 54 i = nI (eBg e) ∧ σ.1 55 i = nI (eBs e) ∧ σ.1 56 i = nI (eBe e) ∧ σ.1 57 i = nI (eOv e) ∧ σ.1 58 i = bI (eSg e) ∧ atM T σ i (eAs e)
def rpM (T : List Nat) (σ : mG) (n : Nat) (E : Nat → mEl) : Prop := σ.1 38 22 = nI n ∧ ∀ i, i < n → elM T σ i (E i)
/-- only the reading's rows differ -/
def fM (σ σ' : mG) : Prop := (∀ c, c ≠ 38 → c < 52 ∨ 62 < c → σ'.1 c = σ.1 c ∧ σ'.2 c = σ.2 c) ∧ ∀ k, k ≠ 22 → k ≠ 35 → σ'.1 38 k = σ.1 38 k
theorem fM.rfl' {σ : mG} : fM σ σ := ⟨fun _ _ _ => ⟨rfl, rfl⟩, fun _ _ _ => rfl⟩
theorem fM.tr {σ σ1 σ2 : mG} (h : fM σ σ1) (g : fM σ1 σ2) : fM σ σ2 := ⟨fun c h1 h2 => ⟨(g.1 c h1 h2).1.trans (h.1 c h1 h2).1, (g.1 c h1 h2).2.trans (h.1 c h1 h2).2⟩, fun k h1 h2 => (g.2 k h1 h2).trans (h.2 k h1 h2)⟩
theorem fW.fM {σ σ' : mG} (h : fW σ σ') : fM σ σ' := ⟨fun c h1 _ => h.1 c h1, fun k _ h2 => h.2 k h2⟩
theorem fD.fM {n : Nat} {σ σ' : mG} (h : fD n σ σ') : fM σ σ' := ⟨fun c h1 h2 => h.1 c h1 (by omega), fun k _ h2 => h.2.1 k h2⟩
theorem fM.cT {σ σ' : mG} {T : List Nat} (h : fM σ σ') (g : cT (σ.1 38 4) (σ.1 39) T) : cT (σ'.1 38 4) (σ'.1 39) T := by
  rw [(h.1 39 (by omega) (by omega)).1, h.2 4 (by omega) (by omega)]
  exact g
theorem elM_of {T : List Nat} {σ σ' : mG} {i : Nat} {e : mEl} (h : elM T σ i e) (h4 : (eAs e).length ≤ 4) (h0 : σ'.2 52 i = σ.2 52 i) (h6 : ∀ c, 53 ≤ c → c ≤ 59 → σ'.1 c i = σ.1 c i) (hs : ∀ j, j < 4 → σ'.2 60 (4 * i + j) = σ.2 60 (4 * i + j) ∧ σ'.1 61 (4 * i + j) = σ.1 61 (4 * i + j) ∧ σ'.1 62 (4 * i + j) = σ.1 62 (4 * i + j)) : elM T σ' i e := by
  obtain ⟨a0, a1, a2, a3, a4, a5, a6, a7, a8⟩ := h
  refine ⟨h0.trans a0, (h6 53 (by omega) (by omega)).trans a1, (h6 54 (by omega) (by omega)).trans a2, (h6 55 (by omega) (by omega)).trans a3, (h6 56 (by omega) (by omega)).trans a4, (h6 57 (by omega) (by omega)).trans a5, (h6 58 (by omega) (by omega)).trans a6, (h6 59 (by omega) (by omega)).trans a7, fun j hj => ?_⟩
  obtain ⟨b1, b2, b3⟩ := a8 j hj
  obtain ⟨c1, c2, c3⟩ := hs j (by omega)
  exact ⟨c1.trans b1, c2.trans b2, c3.trans b3⟩
theorem fW.elM {T : List Nat} {σ σ' : mG} {i : Nat} {e : mEl} (h : fW σ σ') (g : elM T σ i e) (h4 : (eAs e).length ≤ 4) : elM T σ' i e := by
  refine elM_of g h4 (by rw [(h.1 52 (by omega)).2]) (fun c h1 h2 => by rw [(h.1 c (by omega)).1]) (fun j _ => ⟨?_, ?_, ?_⟩)
  · rw [(h.1 60 (by omega)).2]
  · rw [(h.1 61 (by omega)).1]
  · rw [(h.1 62 (by omega)).1]
section MR
variable {X : Nat × (Nat → Int32)} {d : Nat} {T : List Nat}
def adM (σ : mG) (n : Nat) (x1 x2 : Int32) : mG := (mi_uc (mi_uc (mi_uc (mi_uc σ.1 38 (upd (σ.1 38) 22 (nI (n + 1)))) 53 (upd (σ.1 53) n x2)) 54 (upd (σ.1 54) n x1)) 59 (upd (σ.1 59) n 0), mi_uc σ.2 52 (vp_updL (σ.2 52) n (σ.2 38 34)))
theorem adM_fM {σ : mG} {n : Nat} {x1 x2 : Int32} : fM σ (adM σ n x1 x2) := by
  refine ⟨fun c h1 h2 => ⟨?_, ?_⟩, fun k h1 h2 => mi_upd_ne _ _ h1⟩
  · show mi_uc (mi_uc (mi_uc (mi_uc σ.1 38 _) 53 _) 54 _) 59 _ c = _
    rw [mi_uc_ne _ _ (by omega), mi_uc_ne _ _ (by omega), mi_uc_ne _ _ (by omega), mi_uc_ne _ _ (by omega)]
  · show mi_uc σ.2 52 _ c = _
    rw [mi_uc_ne _ _ (by omega)]
theorem el_keepM {σ σ4 : mG} {n i : Nat} {e : mEl} {x y : Int32} (hi : i < n) (h4 : (eAs e).length ≤ 4) (h : elM T σ i e) (hf : fD n (adM σ n x y) σ4) : elM T σ4 i e := by
  refine elM_of h h4 ?_ (fun c h1 h2 => ?_) (fun j hj => ?_)
  · rw [(hf.1 52 (by omega) (by omega)).2]
    exact mi_updL_ne _ _ (by omega)
  · rcases (show c = 53 ∨ c = 54 ∨ c = 59 ∨ (55 ≤ c ∧ c ≤ 58) by omega) with rfl | rfl | rfl | z
    · rw [(hf.1 53 (by omega) (by omega)).1]
      exact mi_upd_ne _ _ (by omega)
    · rw [(hf.1 54 (by omega) (by omega)).1]
      exact mi_upd_ne _ _ (by omega)
    · rw [hf.2.2.1 59 (by omega) (by omega) i (by omega)]
      exact mi_upd_ne _ _ (by omega)
    · rw [hf.2.2.1 c (by omega) (by omega) i (by omega)]
      show mi_uc (mi_uc (mi_uc (mi_uc σ.1 38 _) 53 _) 54 _) 59 _ c i = _
      rw [mi_uc_ne _ _ (by omega), mi_uc_ne _ _ (by omega), mi_uc_ne _ _ (by omega), mi_uc_ne _ _ (by omega)]
  · exact hf.2.2.2 (4 * i + j) (by omega)
def tgM (T : List Nat) (n p : Nat) : Option mTg := if n < 20 then tgS T p else none
def nwE (o : Option Nat) (p : Nat) (y : mTg) : mEl := (o, p, y.1, y.2.2.2.1, y.2.2.2.1, y.2.2.2.1, y.2.2.2.2, y.2.1, y.2.2.1)
theorem K149 (hT : okT T) {σ : mG} {n : Nat} {E : Nat → mEl} {o : Option Nat} {p : Nat} (hc : cT (σ.1 38 4) (σ.1 39) T) (hr : rpM T σ n E) (hn : n ≤ 20) (hp : p ≤ T.length) (h60 : tc T p = 60) (hA : ∀ i, i < n → (eAs (E i)).length ≤ 4) : ∃ σ', RR X (d + 4) 149 [.ref 38, .int (nI p), .int (oI o)] σ (some (.int (oI ((tgM T n p).map (fun t => t.2.2.2.1)))), σ') ∧ fM σ σ' ∧ (∀ i, i < n → elM T σ' i (E i)) ∧ (σ'.1 38 22 = nI n ∨ n < 20 ∧ σ'.1 38 22 = nI (n + 1) ∧ σ'.1 53 n = oI o) ∧ ∀ t, tgM T n p = some t → σ'.1 38 22 = nI (n + 1) ∧ elM T σ' n (nwE o p t) := by
  have hl := hT.1
  by_cases hn20 : n < 20
  · have z20 : ¬ (20 : Int32) ≤ σ.1 38 22 := by rw [hr.1]; exact nI_ge (b := 20) hn20 (by omega)
    obtain ⟨σ1, w1, w2, w3⟩ := K145 (X := X) (d := d + 1) (σ := σ) hT hc (p := p + 1) (by omega)
    have w1' : RR X (d + 3) 145 [.ref 38, .int (nI p + 1)] σ (some (.int (oI (nmS T (p + 1)))), σ1) := by
      rw [nI_1]
      exact w1
    have h1 : σ1.1 38 22 = nI n := (w2.2 22 (by omega)).trans hr.1
    have em : tgM T n p = tgS T p := by
      unfold tgM
      rw [if_pos hn20]
    cases hm : nmS T (p + 1) with
    | none =>
      rw [hm] at w1'
      have e : tgS T p = none := by
        unfold tgS
        rw [if_pos h60, hm]
      rw [em, e]
      refine ⟨σ1, mi_R.of rfl rfl (R149_0 (fun z => absurd z z20) (fun _ => w1') (fun _ => ?_)), w2.fM, fun i hi => w2.elM (hr.2 i hi) (hA i hi), Or.inl h1, fun t ht => by cases ht⟩
      have z : ¬ (0 : Int32) ≤ oI none := by decide
      exact R149_20 (v1 := 0) (σ1 := σ1) (fun y => absurd y z) (fun y => absurd y z) (fun y => absurd y z) (fun y => absurd y z) (fun y => absurd y z) (fun y => absurd y z) (fun _ => rfl)
    | some m =>
      rw [hm] at w1'
      have gm := nmS_gN hm
      have gm2 := gm.2.2.1
      have e : tgS T p = tgB T m (atS T 5 m [] []) := by
        unfold tgS
        rw [if_pos h60, hm]
        dsimp only
        cases atS T 5 m [] [] <;> rfl
      have hca : cT ((adM σ1 n (nI p) (oI o)).1 38 4) ((adM σ1 n (nI p) (oI o)).1 39) T := adM_fM.cT (w2.cT hc)
      obtain ⟨σ', t1, t2, t3⟩ := L149 (X := X) (d := d) hT (n := n) (m := m) hn20 (x1 := nI p) (x2 := oI o) 4 m [] [] (adM σ1 n (nI p) (oI o)) rfl gm2 (fun a h => by cases h) (SL_nil T) hca ⟨show upd (σ1.1 59) n 0 n = 0 from mi_upd_same _ _ _, fun j hj => absurd hj (Nat.not_lt_zero j)⟩
      have e22 : σ'.1 38 22 = nI (n + 1) := by
        rw [t2.2.1 22 (by omega)]
        show upd (σ1.1 38) 22 (nI (n + 1)) 22 = _
        exact mi_upd_same _ _ _
      have e53 : σ'.1 53 n = oI o := by
        rw [(t2.1 53 (by omega) (by omega)).1]
        exact mi_upd_same _ _ _
      refine ⟨σ', mi_R.of rfl rfl (R149_0 (fun z => absurd z z20) (fun _ => w1') (fun _ => ?_)), (w2.fM.tr adM_fM).tr t2.fM, fun i hi => el_keepM hi (hA i hi) (w2.elM (hr.2 i hi) (hA i hi)) t2, Or.inr ⟨hn20, e22, e53⟩, fun t ht => ⟨e22, ?_⟩⟩
      · have hin : mi_in (σ1.1 38 22) 20 = true := by rw [h1]; exact mi_in_nI hn20 (by omega)
        have z : (0 : Int32) ≤ oI (some m) := nI_pos' (show m < 2 ^ 31 by omega)
        refine R149_20 (v1 := nI (m + nS T m)) (σ1 := adM σ1 n (nI p) (oI o)) (fun _ => hin) (fun _ => hin) (fun _ => hin) (fun _ => hin) (fun _ => ?_) (fun _ => ?_) (fun y => absurd z y)
        · rw [h1, nI_clamp (by omega), nI_1]
          exact K146 (X := X) (d := d + 1) (σ := adM σ1 n (nI p) (oI o)) hT hca (p := m) (by omega)
        · rw [em, e, h1]
          exact t1
      · rw [em, e] at ht
        cases hy : atS T 5 m [] [] with
        | none => rw [hy] at ht; cases ht
        | some y =>
          rw [hy] at ht
          have ht : tgE T m y = some t := ht
          obtain ⟨q1, q2, q3, q4, q5⟩ := t3 y hy t ht
          have em1 : t.1 = m ∧ t.2.1 = y.1 := by
            unfold tgE at ht
            split at ht
            · injection ht with ht
              subst ht
              exact ⟨rfl, rfl⟩
            · split at ht
              · injection ht with ht
                subst ht
                exact ⟨rfl, rfl⟩
              · cases ht
          refine ⟨?_, e53, ?_, q2, q3, q4, q5, ?_⟩
          · rw [(t2.1 52 (by omega) (by omega)).2]
            show vp_updL (σ1.2 52) n (σ1.2 38 34) n = lN (pkp 6 (seg T (p + 1) t.1))
            rw [mi_updL_same, em1.1]
            exact w3 m hm
          · rw [(t2.1 54 (by omega) (by omega)).1]
            exact mi_upd_same _ _ _
          · show atM T σ' n t.2.1
            rw [em1.2]
            exact q1
  · have z20 : (20 : Int32) ≤ σ.1 38 22 := by rw [hr.1]; exact nI_le (a := 20) (by omega) (by omega)
    have em : tgM T n p = none := by
      unfold tgM
      rw [if_neg hn20]
    rw [em]
    refine ⟨σ, mi_R.of rfl rfl (R149_0 (v1 := 0) (σ1 := σ) (fun _ => ?_) (fun z => absurd z20 z) (fun z => absurd z20 z)), fM.rfl', hr.2, Or.inl hr.1, fun t ht => by cases ht⟩
    have z : ¬ (0 : Int32) ≤ -1 := by decide
    exact R149_20 (v1 := 0) (σ1 := σ) (fun y => absurd y z) (fun y => absurd y z) (fun y => absurd y z) (fun y => absurd y z) (fun y => absurd y z) (fun y => absurd y z) (fun _ => rfl)
theorem L152 {σ : mG} {n : Nat} {E : Nat → mEl} (hn : n ≤ 20) (hpar : ∀ i, i < n → σ.1 53 i = oI (ePar (E i))) (hlt : ∀ i, i < n → ∀ j, ePar (E i) = some j → j < i) {x1 : Int32} : ∀ (D : Nat) (o : Option Nat) (acc : Nat), (∀ k, o = some k → k < n) → dep E D o → TT X d tb152 (some .int) (4, [some (.ref 38), some (.int x1), some (.int (nI acc)), some (.int (oI o))], [], σ) (some (.int (nI (acc + D))), σ) := by
  intro D
  induction D with
  | zero =>
    intro o acc _ h
    have h : o = none := h
    subst h
    have z : oI none < 0 := by decide
    exact R152_4 (fun _ => rfl) (fun y => absurd z y) (fun y => absurd z y)
  | succ D ih =>
    intro o acc ho h
    obtain ⟨k, rfl, hk⟩ := h
    have hkn := ho k rfl
    have z : ¬ oI (some k) < 0 := nI_pos (show k < 2 ^ 31 by omega)
    have ck : (oI (some k)).toNatClampNeg = k := nI_clamp (show k < 2 ^ 31 by omega)
    refine R152_4 (fun y => absurd y z) (fun _ => mi_in_nI (show k < 20 by omega) (by omega)) (fun _ => ?_)
    rw [ck, hpar k hkn, nI_1, show acc + (D + 1) = acc + 1 + D by omega]
    exact ih _ _ (fun j hj => Nat.lt_trans (hlt k hkn j hj) hkn) hk
theorem K152 {σ : mG} {n D i : Nat} {E : Nat → mEl} (hn : n ≤ 20) (hpar : ∀ i, i < n → σ.1 53 i = oI (ePar (E i))) (hlt : ∀ i, i < n → ∀ j, ePar (E i) = some j → j < i) (hi : i < n) (hd : dep E D (some i)) : RR X (d + 1) 152 [.ref 38, .int (nI i)] σ (some (.int (nI D)), σ) := by
  have h := L152 (X := X) (d := d) hn hpar hlt (x1 := nI i) D (some i) 0 (fun k hk => by injection hk with hk; omega) hd
  rw [Nat.zero_add] at h
  exact mi_R.of rfl rfl (R152_0 h)
theorem dep_ex {n : Nat} {E : Nat → mEl} (hlt : ∀ i, i < n → ∀ j, ePar (E i) = some j → j < i) : ∀ i, i < n → ∃ D, dep E D (some i) := by
  intro i
  induction i using Nat.strongRecOn with
  | ind i ih =>
    intro hi
    cases hp : ePar (E i) with
    | none =>
      refine ⟨1, i, rfl, ?_⟩
      rw [hp]
      rfl
    | some j =>
      have hj := hlt i hi j hp
      obtain ⟨D, hD⟩ := ih j hj (by omega)
      refine ⟨D + 1, i, rfl, ?_⟩
      rw [hp]
      exact hD
/-- the reference's rows when an element is closed -/
def cdM (σ : mG) (k p q : Nat) : mG := (mi_uc (mi_uc σ.1 56 (upd (σ.1 56) k (nI p))) 57 (upd (σ.1 57) k (nI q)), σ.2)
theorem cdM_fM {σ : mG} {k p q : Nat} : fM σ (cdM σ k p q) := by
  refine ⟨fun c h1 h2 => ⟨?_, rfl⟩, fun _ _ _ => rfl⟩
  show mi_uc (mi_uc σ.1 56 _) 57 _ c = _
  rw [mi_uc_ne _ _ (by omega), mi_uc_ne _ _ (by omega)]
theorem cdM_rp {σ : mG} {n k p q : Nat} {E : Nat → mEl} (hA : ∀ i, i < n → (eAs (E i)).length ≤ 4) (h : rpM T σ n E) : rpM T (cdM σ k p q) n (fu E k (clE (E k) p q)) := by
  refine ⟨h.1, fun i hi => ?_⟩
  by_cases hz : i = k
  · subst hz
    rw [fu_s]
    obtain ⟨a0, a1, a2, a3, a4, a5, a6, a7⟩ := h.2 i hi
    exact ⟨a0, a1, a2, a3, mi_upd_same _ _ _, mi_upd_same _ _ _, a6, a7⟩
  · rw [fu_n hz]
    refine elM_of (h.2 i hi) (hA i hi) rfl (fun c h1 h2 => ?_) (fun _ _ => ⟨rfl, rfl, rfl⟩)
    rcases (show c = 56 ∨ c = 57 ∨ (c ≠ 56 ∧ c ≠ 57) by omega) with rfl | rfl | z
    · exact mi_upd_ne _ _ hz
    · exact mi_upd_ne _ _ hz
    · show mi_uc (mi_uc σ.1 56 _) 57 _ c i = _
      rw [mi_uc_ne _ _ z.2, mi_uc_ne _ _ z.1]
theorem fW.rpM {σ σ' : mG} {n : Nat} {E : Nat → mEl} (h : fW σ σ') (hA : ∀ i, i < n → (eAs (E i)).length ≤ 4) (g : rpM T σ n E) : rpM T σ' n E := ⟨(h.2 22 (by omega)).trans g.1, fun i hi => h.elM (g.2 i hi) (hA i hi)⟩
theorem K151 (hT : okT T) {σ : mG} {n k dd p : Nat} {E : Nat → mEl} (hc : cT (σ.1 38 4) (σ.1 39) T) (hr : rpM T σ n E) (hn : n ≤ 20) (hk : k < n) (hp : p ≤ T.length) (gk : gN T (eBg (E k) + 1) (eNe (E k))) (hA : ∀ i, i < n → (eAs (E i)).length ≤ 4) : ∃ σ', RR X (d + 3) 151 [.ref 38, .int (nI k), .int (nI p)] σ (some (.int (oI ((clS T n E k dd p).map (fun s => s.2.2.2.2)))), σ') ∧ fM σ σ' ∧ σ'.1 53 = σ.1 53 ∧ ∀ s, clS T n E k dd p = some s → rpM T σ' s.1 s.2.1 := by
  have hl := hT.1
  obtain ⟨σ1, w1, w2, w3⟩ := K145 (X := X) (d := d) (σ := σ) hT hc (p := p + 2) (by omega)
  have w1' : RR X (d + 2) 145 [.ref 38, .int (nI p + 2)] σ (some (.int (oI (nmS T (p + 2)))), σ1) := by
    rw [nI_2]
    exact w1
  have hin : mi_in (nI k) 20 = true := mi_in_nI (by omega) (by omega)
  have ck : (nI k).toNatClampNeg = k := nI_clamp (by omega)
  have f53 : σ1.1 53 = σ.1 53 := (w2.1 53 (by omega)).1
  have hr1 := w2.rpM hA hr
  cases hm : nmS T (p + 2) with
  | none =>
    rw [hm] at w1'
    have e : clS T n E k dd p = none := by
      unfold clS enS
      rw [hm]
    rw [e]
    refine ⟨σ1, mi_R.of rfl rfl ?_, w2.fM, f53, fun s hs => by cases hs⟩
    have z : oI none < 0 := by decide
    apply R151_0 (v1 := oI none) (σ1 := σ1) (v2 := 0) (σ2 := σ1) (v3 := 0) (σ3 := σ1)
    case c1 => exact w1'
    case k1 => exact fun _ => rfl
    all_goals (intros; first | assumption | contradiction)
  | some m =>
    rw [hm] at w1'
    have gm := nmS_gN hm
    have gm2 := gm.2.2.1
    have z0 : ¬ oI (some m) < 0 := nI_pos (show m < 2 ^ 31 by omega)
    have hw := w3 m hm
    have hkey : lg_cmp (σ1.2 38 34) (σ1.2 52 (nI k).toNatClampNeg) = 0 ↔ seg T (p + 2) m = seg T (eBg (E k) + 1) (eNe (E k)) := by
      rw [ck, hw, (hr1.2 k hk).1, lg_cmp_eq, pk_lEQ (by have := key_lt gm; omega) (by have := key_lt gk; omega)]
      exact ⟨fun z => pkp_inj 6 _ _ gm.ok gk.ok z, fun z => by rw [z]⟩
    by_cases hv : seg T (p + 2) m = seg T (eBg (E k) + 1) (eNe (E k))
    · have zk := hkey.mpr hv
      have k146 := K146 (X := X) (d := d) (σ := σ1) hT (w2.cT hc) (p := m) (by omega)
      have hq := nS_le m gm2
      have k141 := K141e (X := X) (d := d + 1) (σ := cdM σ1 k p (m + nS T m + 1)) hT (cdM_fM.cT (w2.cT hc)) (x := nI (m + nS T m)) rfl
      have c62 : cdA T (nI (m + nS T m)) = 62 ↔ tc T (m + nS T m) = 62 := cdA_is hT (c := 62) (by omega) (by omega) (by omega)
      have k3 : RR X (d + 2) 141 [.ref 38, .int (nI (m + nS T m))] (mi_uc (mi_uc σ1.1 56 (upd (σ1.1 56) (nI k).toNatClampNeg (nI p))) 57 (upd (σ1.1 57) (nI k).toNatClampNeg (nI (m + nS T m) + 1)), σ1.2) (some (.int (cdA T (nI (m + nS T m)))), cdM σ1 k p (m + nS T m + 1)) := by
        rw [ck, nI_1]
        exact k141
      refine ⟨cdM σ1 k p (m + nS T m + 1), mi_R.of rfl rfl ?_, w2.fM.tr cdM_fM, f53, fun s hs => ?_⟩
      · apply R151_0 (v1 := oI (some m)) (σ1 := σ1) (v2 := nI (m + nS T m)) (σ2 := σ1) (v3 := cdA T (nI (m + nS T m))) (σ3 := cdM σ1 k p (m + nS T m + 1))
        case c1 => exact w1'
        case c2 => exact fun _ _ => k146
        case c3 => exact fun _ _ => k3
        case k2 =>
          intro _ _ z
          unfold clS enS
          rw [hm]
          dsimp only
          rw [if_neg (fun y => z (c62.mpr y))]
          rfl
        case k3 =>
          intro _ _ z
          unfold clS enS
          rw [hm]
          dsimp only
          rw [if_pos (c62.mp (Classical.not_not.mp z))]
          dsimp only
          rw [if_pos hv, nI_1]
          rfl
        all_goals (intros; first | assumption | contradiction)
      · unfold clS enS at hs
        rw [hm] at hs
        dsimp only at hs
        split at hs
        · cases hs
        · rename_i y hy
          split at hy
          · injection hy with hy
            subst hy
            dsimp only at hs
            rw [if_pos hv] at hs
            injection hs with hs
            subst hs
            exact cdM_rp hA hr1
          · cases hy
    · have zk : ¬ lg_cmp (σ1.2 38 34) (σ1.2 52 (nI k).toNatClampNeg) = 0 := fun z => hv (hkey.mp z)
      have e : clS T n E k dd p = none := by
        unfold clS enS
        rw [hm]
        dsimp only
        split
        · rfl
        · rename_i y hy
          split at hy
          · injection hy with hy
            subst hy
            rw [if_neg hv]
          · cases hy
      rw [e]
      refine ⟨σ1, mi_R.of rfl rfl ?_, w2.fM, f53, fun s hs => by cases hs⟩
      apply R151_0 (v1 := oI (some m)) (σ1 := σ1) (v2 := 0) (σ2 := σ1) (v3 := 0) (σ3 := σ1)
      case c1 => exact w1'
      case k4 => exact fun _ _ => rfl
      all_goals (intros; first | assumption | contradiction)
theorem L143 {σ : mG} (hT : okT T) (h : cT (σ.1 38 4) (σ.1 39) T) : ∀ (k p : Nat) (b : Bool) (u : Option Value), p + k = T.length → TT X (d + 2) tb143 (some .boolean) (4, [some (.ref 38), some (.int (bI b)), some (.int (nI p)), u], [], σ) (some (.int (bI (b || bnR T k p))), σ) := by
  have hl := hT.1
  intro k
  induction k with
  | zero =>
    intro p b u hp
    have z : σ.1 38 4 ≤ nI p := by rw [szM h hT (by omega)]; omega
    refine R143_4 (v1 := 0) (σ1 := σ) (v2 := 0) (σ2 := σ) (v3 := 0) (σ3 := σ) (fun _ => ?_) (fun _ => ?_) (fun y => absurd z y) (fun y => absurd z y) (fun y => absurd z y) (fun y => absurd z y) (fun y => absurd z y) (fun y => absurd z y) (fun y => absurd z y) (fun y => absurd z y) (fun y => absurd z y)
    · show (some (Value.int (bI (b || false))), σ) = _
      rw [Bool.or_false]
    · cases b
      · exact Or.inl rfl
      · exact Or.inr rfl
  | succ k ih =>
    intro p b u hp
    have z : ¬ σ.1 38 4 ≤ nI p := by rw [szM h hT (by omega)]; omega
    have hin : mi_in (nI p) 400 = true := mi_in_nI (by omega) (by omega)
    have ev : σ.1 39 (nI p).toNatClampNeg = cdA T (nI p) := by
      rw [cdA_in hT (by omega), nI_clamp (by omega)]
      exact h.2 p (by omega)
    have c38 : cdA T (nI p) = 38 ↔ tc T p = 38 := cdA_is hT (c := 38) (by omega) (by omega) (by omega)
    have c60 : cdA T (nI p) = 60 ↔ tc T p = 60 := cdA_is hT (c := 60) (by omega) (by omega) (by omega)
    have c63 : cdA T (nI (p + 1)) = 63 ↔ tc T (p + 1) = 63 := cdA_is hT (c := 63) (by omega) (by omega) (by omega)
    have c33 : cdA T (nI (p + 1)) = 33 ↔ tc T (p + 1) = 33 := cdA_is hT (c := 33) (by omega) (by omega) (by omega)
    have k142 : RR X (d + 2) 142 [.ref 38, .int (nI p + 2)] σ (some (.int (bI (dsh T (p + 2)))), σ) := by
      rw [nI_2]
      exact K142 hT h (by omega)
    -- from the mark on
    have fin : ∀ (m : Bool) (u : Option Value), bd T p = (decide (tc T p = 38) || m) → TT X (d + 2) tb143 (some .boolean) (62, [some (.ref 38), some (.int (bI b)), some (.int (nI p)), u], [.int (bI m)], σ) (some (.int (bI (b || bnR T (k + 1) p))), σ) := by
      intro m u hm
      have e : (b || bnR T (k + 1) p) = ((b || decide (tc T p = 38) || m) || bnR T k (p + 1)) := by
        show (b || (bd T p || bnR T k (p + 1))) = _
        rw [hm]
        simp only [Bool.or_assoc]
      rw [e]
      have go : ∀ (b' : Bool), (b || decide (tc T p = 38) || m) = b' → TT X (d + 2) tb143 (some .boolean) (87, [some (.ref 38), some (.int (bI b)), some (.int (nI p)), some (.int (bI m))], [.int (bI b')], σ) (some (.int (bI ((b || decide (tc T p = 38) || m) || bnR T k (p + 1)))), σ) := by
        intro b' hb'
        rw [hb']
        refine R143_87 ?_
        rw [nI_1]
        exact ih (p + 1) b' _ (by omega)
      refine R143_62 (fun y => R143_82 (go true ?_)) (fun _ => hin) (fun y1 y2 => R143_82 (go true ?_)) (fun y1 y2 y3 => go false ?_) (fun y1 y2 y3 => R143_82 (go true ?_))
      · have : b = true := by
          cases b
          · exact absurd rfl y
          · rfl
        rw [this, Bool.true_or, Bool.true_or]
      · rw [ev, c38] at y2
        rw [decide_eq_true y2, Bool.or_true, Bool.true_or]
      · rw [ev, c38] at y2
        rw [bI_0.mp (Classical.not_not.mp y1), decide_eq_false y2, bI_0.mp y3]
        rfl
      · have : m = true := by
          cases m
          · exact absurd rfl y3
          · rfl
        rw [this, Bool.or_true]
    refine R143_4 (fun y => absurd y z) (fun y => absurd y z) (fun _ => hin) (fun _ y => R143_61 (fin false _ ?_)) (fun _ _ => K141e hT h (nI_1 p)) (fun _ y1 y2 => R143_57 (fin true _ ?_)) (fun _ _ _ => K141e hT h (nI_1 p)) (fun _ y1 y2 y3 => R143_61 (fin false _ ?_)) (fun _ _ _ _ => k142) (fun _ y1 y2 y3 y4 => R143_61 (fin false _ ?_)) (fun _ y1 y2 y3 y4 => R143_57 (fin true _ ?_))
    · rw [ev, c60] at y
      simp [bd, y]
    · rw [ev, c60] at y1
      rw [c63] at y2
      simp [bd, Classical.not_not.mp y1, y2]
    · rw [ev, c60] at y1
      rw [c63] at y2
      rw [c33] at y3
      simp [bd, Classical.not_not.mp y1, y2, y3]
    · rw [ev, c60] at y1
      rw [c63] at y2
      rw [c33] at y3
      have : dsh T (p + 2) = true := by
        cases hd : dsh T (p + 2)
        · rw [hd] at y4
          exact absurd rfl y4
        · rfl
      simp [bd, Classical.not_not.mp y1, Classical.not_not.mp y3, this]
    · rw [ev, c60] at y1
      rw [c33] at y3
      have := bI_0.mp (Classical.not_not.mp y4)
      simp [bd, Classical.not_not.mp y1, Classical.not_not.mp y3, this]
theorem K143 {σ : mG} (hT : okT T) (h : cT (σ.1 38 4) (σ.1 39) T) : RR X (d + 3) 143 [.ref 38] σ (some (.int (bI (bnS T))), σ) := mi_R.of rfl rfl (R143_0 (L143 hT h T.length 0 false none (by omega)))
theorem L153f {σ : mG} (hT : okT T) (h : cT (σ.1 38 4) (σ.1 39) T) (x1 x3 : Int32) (u4 u5 : Option Value) : TT X d tb153 (some .int) (69, [some (.ref 38), some (.int x1), some (.int (-1)), some (.int x3), u4, u5], [], σ) (some (.int (-2)), σ) := by
  have hz : ¬ (-1 : Int32) = σ.1 38 4 := by rw [h.1]; exact m1_ne (by have := hT.1; omega)
  have k : TT X d tb153 (some .int) (234, [some (.ref 38), some (.int x1), some (.int (-1)), some (.int x3), u4, u5], [], σ) (some (.int (-2)), σ) := R153_234 (fun _ => rfl) (fun z => absurd hz z) (fun z => absurd hz z)
  have hm : (-1 : Int32) ≤ 0 := by decide
  apply R153_69 (v1 := 0) (σ1 := σ) (v2 := 0) (σ2 := σ) (v3 := 0) (σ3 := σ) (v4 := 0) (σ4 := σ) (v5 := 0) (σ5 := σ) (v6 := 0) (σ6 := σ) (v7 := 0) (σ7 := σ)
  case k1 => exact fun _ => k
  case k2 => exact fun _ _ => k
  all_goals (intros; contradiction)
end MR
