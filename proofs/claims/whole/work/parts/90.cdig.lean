/-! The class's digester: folding characters, names, tags -/
def fG (σ σ' : mG) : Prop := σ'.2 = σ.2 ∧ ∀ c, c ≠ 17 → σ'.1 c = σ.1 c
theorem fG.rfl' {σ : mG} : fG σ σ := ⟨rfl, fun _ _ => rfl⟩
theorem fG.tr {σ σ1 σ2 : mG} (a : fG σ σ1) (b : fG σ1 σ2) : fG σ σ2 := ⟨b.1.trans a.1, fun c hc => (b.2 c hc).trans (a.2 c hc)⟩
theorem fG.cT {σ σ' : mG} {T : List Nat} (f : fG σ σ') (h : cT (σ.1 1 1) (σ.1 2) T) : cT (σ'.1 1 1) (σ'.1 2) T := by
  rw [f.2 1 (by omega), f.2 2 (by omega)]
  exact h
theorem elC_eq {σ σ' : mG} {i : Nat} {e : mEl} (h : ∀ c, 6 ≤ c → c ≤ 15 → σ'.1 c = σ.1 c) (g : elC σ i e) : elC σ' i e := by
  unfold elC atC sl3 at *
  rw [h 6 (by omega) (by omega), h 7 (by omega) (by omega), h 8 (by omega) (by omega), h 9 (by omega) (by omega), h 10 (by omega) (by omega), h 11 (by omega) (by omega), h 12 (by omega) (by omega), h 13 (by omega) (by omega), h 14 (by omega) (by omega), h 15 (by omega) (by omega)]
  exact g
theorem rpC_of {σ σ' : mG} {n : Nat} {E : Nat → mEl} (h : ∀ c, 5 ≤ c → c ≤ 15 → σ'.1 c = σ.1 c) (g : rpC σ n E) : rpC σ' n E := by
  refine ⟨?_, fun i hi => elC_eq (fun c h1 h2 => h c (by omega) h2) (g.2 i hi)⟩
  rw [h 5 (by omega) (by omega)]
  exact g.1
theorem fG.rpC {σ σ' : mG} {n : Nat} {E : Nat → mEl} (f : fG σ σ') (g : rpC σ n E) : rpC σ' n E := rpC_of (fun c _ _ => f.2 c (by omega)) g
def hG (σ σ' : mG) (h : Nat) : Prop := fG σ σ' ∧ (∀ k, k ≠ 2 → σ'.1 17 k = σ.1 17 k) ∧ σ'.1 17 2 = nI h
theorem hG.tr {σ σ1 σ2 : mG} {h h' : Nat} (a : hG σ σ1 h) (b : hG σ1 σ2 h') : hG σ σ2 h' := ⟨a.1.tr b.1, fun k hk => (b.2.1 k hk).trans (a.2.1 k hk), b.2.2⟩
section
variable {X : Nat × (Nat → Int32)} {d : Nat} {T : List Nat} {n : Nat} {E : Nat → mEl}
theorem K92 {σ : mG} {h c : Nat} (e : σ.1 17 2 = nI h) (hh : h < 65521) (hc : c < 256) : ∃ σ', RR X (d + 1) 92 [.ref 17, .int (nI c)] σ (none, σ') ∧ hG σ σ' (fd h c) := by
  refine ⟨_, mi_R.of rfl rfl (R92_0 rfl), ⟨rfl, fun c' hc' => mi_uc_ne _ _ hc'⟩, fun k hk => ?_, ?_⟩
  · show upd (σ.1 17) _ _ k = _
    exact mi_upd_ne _ _ hk
  · show upd (σ.1 17) 2 _ 2 = _
    rw [mi_upd_same, e, show (257 : Int32) = nI 257 from rfl, show (65521 : Int32) = nI 65521 from rfl, pk_mul, nI_add]
    exact pk_rem (by omega) (by omega) (by omega)
theorem L91 (hT : okT T) {q : Nat} (hq : q ≤ T.length) {x1 : Int32} : ∀ (k p h : Nat) (σ : mG), p + k = q → cT (σ.1 1 1) (σ.1 2) T → σ.1 17 2 = nI h → h < 65521 → ∃ σ', TT X (d + 1) tb91 none (2, [some (.ref 17), some (.int x1), some (.int (nI q)), some (.int (nI p))], [], σ) (none, σ') ∧ hG σ σ' (fl h (seg T p q)) := by
  have hl := hT.1
  intro k
  induction k with
  | zero =>
    intro p h σ hk hc e hh
    have hz : nI q ≤ nI p := nI_le (by omega) (by omega)
    refine ⟨σ, R91_2 (v1 := 0) (σ1 := σ) (σ2 := σ) (fun _ => rfl) (fun z => absurd hz z) (fun z => absurd hz z) (fun z => absurd hz z), fG.rfl', fun _ _ => rfl, ?_⟩
    rw [seg_nil (by omega), fl_nil]
    exact e
  | succ k ih =>
    intro p h σ hk hc e hh
    have hz : ¬ nI q ≤ nI p := nI_ge (by omega) (by omega)
    have hp : p < T.length := by omega
    have c1 : RR X (d + 1) 39 [.ref 1, .int (nI p)] σ (some (.int (nI (tc T p))), σ) := by
      have := K39e (X := X) (d := d) hT hc (x := nI p) rfl
      rw [cdA_in hT hp] at this
      exact this
    obtain ⟨σ1, a1, a2⟩ := K92 (X := X) (d := d) (c := tc T p) e hh (by have := tc_hi hT p; omega)
    obtain ⟨σ2, b1, b2⟩ := ih (p + 1) (fd h (tc T p)) σ1 (by omega) (a2.1.cT hc) a2.2.2 (fd_lt _ _)
    refine ⟨σ2, R91_2 (fun z => absurd z hz) (fun _ => c1) (fun _ => a1) (fun _ => ?_), ?_⟩
    · rw [nI_1]
      exact b1
    · rw [seg_cons (by omega) hq, fl_cons]
      exact a2.tr b2
theorem K91 (hT : okT T) {p q : Nat} (hp : p ≤ q) (hq : q ≤ T.length) {h : Nat} {σ : mG} (hc : cT (σ.1 1 1) (σ.1 2) T) (e : σ.1 17 2 = nI h) (hh : h < 65521) : ∃ σ', RR X (d + 2) 91 [.ref 17, .int (nI p), .int (nI q)] σ (none, σ') ∧ hG σ σ' (fl h (seg T p q)) := by
  obtain ⟨σ', a, b⟩ := L91 (X := X) (d := d) hT hq (x1 := nI p) (q - p) p h σ (by omega) hc e hh
  exact ⟨σ', mi_R.of rfl rfl (R91_0 a), b⟩
theorem K90 (hT : okT T) {p q : Nat} (hp : p ≤ q) (hq : q ≤ T.length) {h : Nat} {σ : mG} (hc : cT (σ.1 1 1) (σ.1 2) T) (e : σ.1 17 2 = nI h) (hh : h < 65521) : ∃ σ', RR X (d + 3) 90 [.ref 17, .int (nI p), .int (nI q)] σ (none, σ') ∧ hG σ σ' (fl h (60 :: 47 :: (seg T p q ++ [62]))) := by
  obtain ⟨σ1, a1, a2⟩ := K92 (X := X) (d := d + 1) (c := 60) e hh (by omega)
  obtain ⟨σ2, b1, b2⟩ := K92 (X := X) (d := d + 1) (c := 47) a2.2.2 (fd_lt _ _) (by omega)
  obtain ⟨σ3, c1, c2⟩ := K91 (X := X) (d := d) hT hp hq (b2.1.cT (a2.1.cT hc)) b2.2.2 (fd_lt _ _)
  obtain ⟨σ4, d1, d2⟩ := K92 (X := X) (d := d + 1) (c := 62) c2.2.2 (fl_lt _ _ (fd_lt _ _)) (by omega)
  refine ⟨σ4, mi_R.of rfl rfl (R90_0 a1 b1 c1 d1 rfl), ?_⟩
  have : fl h (60 :: 47 :: (seg T p q ++ [62])) = fd (fl (fd (fd h 60) 47) (seg T p q)) 62 := by
    rw [fl_cons, fl_cons, fl_app, fl_cons, fl_nil]
  rw [this]
  exact ((a2.tr b2).tr c2).tr d2
theorem K87 (hT : okT T) {p m q : Nat} (he : enS T p = some (m, q)) {h : Nat} {σ : mG} (hc : cT (σ.1 1 1) (σ.1 2) T) (e : σ.1 17 2 = nI h) (hh : h < 65521) : ∃ σ', RR X (d + 4) 87 [.ref 17, .int (nI p)] σ (some (.int (nI q)), σ') ∧ hG σ σ' (fl h (60 :: 47 :: (seg T (p + 2) m ++ [62]))) := by
  have hl := hT.1
  obtain ⟨g1, g2, g3, g4⟩ := enS_ok he
  have g1 : nmS T (p + 2) = some m := g1
  have g2 : q = m + nS T m + 1 := g2
  have g4 : q ≤ T.length := g4
  have e1 : m = p + 2 + nL T (p + 2) := by
    unfold nmS at g1
    split at g1
    · injection g1 with g1
      omega
    · cases g1
  obtain ⟨σ', a, b⟩ := K90 (X := X) (d := d) hT (p := p + 2) (q := m) (by omega) (by omega) hc e hh
  refine ⟨σ', mi_R.of rfl rfl (R87_0 (v1 := nI m) (σ1 := σ) (v2 := nI (m + nS T m)) (σ2 := σ') (σ3 := σ') ?_ ?_ (K47 hT (b.1.cT hc) (by omega)) ?_), b⟩
  · rw [nI_2, e1]
    exact K46 hT hc (by omega)
  · rw [nI_2]
    exact a
  · rw [nI_1, g2]
/-! words -/
def wd (w : Nat) (W : List Nat) : Prop := mi_lit qL w = some (W.map nI) ∧ W.length ≤ 400 ∧ ∀ c ∈ W, c < 256
theorem wd_len {w : Nat} {W : List Nat} (h : wd w W) (σ : mG) : qPR 1003 [.ref w] σ = some (some (.int (nI W.length)), σ) := by
  show (match mi_lit qL w with
    | some l => some (some (Value.int (Int32.ofNat l.length)), σ)
    | none => none) = _
  rw [h.1]
  show some (some (Value.int (Int32.ofNat (W.map nI).length)), σ) = _
  rw [List.length_map]
  rfl
theorem getD_nI (W : List Nat) (i : Nat) : (W.map nI).getD i 0 = nI (W.getD i 0) := by
  rw [List.getD_eq_getElem?_getD, List.getD_eq_getElem?_getD, List.getElem?_map]
  cases W[i]? with
  | none => rfl
  | some x => rfl
theorem wd_at {w : Nat} {W : List Nat} (h : wd w W) (σ : mG) {i : Nat} (hi : i < W.length) : qPR 1004 [.ref w, .int (nI i)] σ = some (some (.int (nI (W.getD i 0))), σ) := by
  have := h.2.1
  show (match mi_lit qL w with
    | some l => bif mi_in (nI i) l.length then some (some (Value.int (l.getD (nI i).toNatClampNeg 0)), σ) else none
    | none => none) = _
  rw [h.1]
  show (bif mi_in (nI i) (W.map nI).length then some (some (Value.int ((W.map nI).getD (nI i).toNatClampNeg 0)), σ) else none) = _
  rw [List.length_map, mi_in_nI hi (by omega), nI_clamp (by omega), getD_nI]
  rfl
theorem drop_getD {W : List Nat} {j : Nat} (h : j < W.length) : W.drop j = W.getD j 0 :: W.drop (j + 1) := by
  rw [List.drop_eq_getElem_cons h, List.getD_eq_getElem?_getD, List.getElem?_eq_getElem h]
  rfl
theorem L50 (hT : okT T) {σ : mG} (h : cT (σ.1 1 1) (σ.1 2) T) {p q w : Nat} {W : List Nat} (hw : wd w W) (hq : q ≤ T.length) (hpq : p + W.length = q) : ∀ (k j : Nat), j + k = W.length → TT X d tb50 (some .boolean) (27, [some (.ref 1), some (.int (nI p)), some (.int (nI q)), some (.ref w), some (.int (nI j))], [], σ) (some (.int (bI (decide (seg T (p + j) q = W.drop j)))), σ) := by
  have hl := hT.1
  have hw2 := hw.2.1
  intro k
  induction k with
  | zero =>
    intro j hj
    refine R50_27 (v2 := 0) (wd_len hw σ) (fun _ => ?_) (fun z => absurd (nI_le (by omega) (by omega)) z) (fun z => absurd (nI_le (by omega) (by omega)) z) (fun z => absurd (nI_le (by omega) (by omega)) z) (fun z => absurd (nI_le (by omega) (by omega)) z)
    rw [seg_nil (by omega), List.drop_eq_nil_of_le (by omega)]
    rfl
  | succ k ih =>
    intro j hj
    have hx : σ.1 2 (nI p + nI j).toNatClampNeg = nI (tc T (p + j)) := by
      rw [nI_add, nI_clamp (by omega), h.2 (p + j) (by omega)]
      rfl
    have ht := tc_hi hT (p + j)
    have hW : W.getD j 0 < 256 := by
      rw [List.getD_eq_getElem?_getD, List.getElem?_eq_getElem (show j < W.length by omega)]
      exact hw.2.2 _ (List.getElem_mem _)
    refine R50_27 (wd_len hw σ) (fun z => absurd z (nI_ge (by omega) (by omega))) (fun _ => ?_) (fun _ => wd_at hw σ (by omega)) (fun _ z => ?_) (fun _ z => ?_)
    · rw [nI_add]
      exact mi_in_nI (by omega) (by omega)
    · rw [hx, nI_eq (by omega) (by omega)] at z
      have hi := ih (j + 1) (by omega)
      rw [nI_1, seg_cons (by omega) hq, drop_getD (by omega), z]
      have : decide (W.getD j 0 :: seg T (p + j + 1) q = W.getD j 0 :: W.drop (j + 1)) = decide (seg T (p + (j + 1)) q = W.drop (j + 1)) := by
        rw [Nat.add_assoc]
        exact decide_eq_decide.mpr ⟨fun y => (List.cons.inj y).2, fun y => by rw [y]⟩
      rw [this]
      exact hi
    · rw [hx, nI_eq (by omega) (by omega)] at z
      rw [seg_cons (by omega) hq, drop_getD (by omega), decide_eq_false fun y => z (List.cons.inj y).1]
      rfl
theorem K50 (hT : okT T) {σ : mG} (h : cT (σ.1 1 1) (σ.1 2) T) {p q w : Nat} {W : List Nat} (hw : wd w W) (hp : p ≤ q) (hq : q ≤ T.length) : RR X (d + 1) 50 [.ref 1, .int (nI p), .int (nI q), .ref w] σ (some (.int (bI (decide (seg T p q = W)))), σ) := by
  have hl := hT.1
  have hw2 := hw.2.1
  have z0 : ¬ nI p < 0 := nI_pos (by omega)
  have z1 : ¬ σ.1 1 1 < nI q := by
    rw [h.1, nI_ltI (by omega) (by omega)]
    omega
  have e : (nI q - nI p = nI W.length) ↔ p + W.length = q := by
    rw [pk_sub hp, nI_eq (by omega) (by omega)]
    omega
  refine mi_R.of rfl rfl (R50_0 (fun z => absurd z z0) (fun _ z => absurd z z1) (fun _ _ => wd_len hw σ) (fun _ _ z => ?_) (fun _ _ z => ?_))
  · exact L50 hT h hw hq (e.mp z) W.length 0 (by omega)
  · rw [decide_eq_false fun y => z (e.mpr (by have := seg_len (p := p) hq; rw [y] at this; omega))]
    rfl
theorem K56 (hT : okT T) {σ : mG} (h : cT (σ.1 1 1) (σ.1 2) T) (g : gM T n E) (hr : rpC σ n E) {i w : Nat} {W : List Nat} (hi : i < n) (hw : wd w W) : RR X (d + 2) 56 [.ref 5, .int (nI i), .ref w] σ (some (.int (bI (decide (nmL T (E i) = W)))), σ) := by
  have hl := hT.1
  have hn := g.2.1
  have hin : mi_in (nI i) 20 = true := mi_in_nI (by omega) (by omega)
  obtain ⟨-, e7, e8, -⟩ := hr.2 i hi
  obtain ⟨⟨a1, a2, a3, -⟩, -⟩ := g.2.2.1 i hi
  refine mi_R.of rfl rfl (R56_0 (v2 := bI (decide (nmL T (E i) = W))) (σ2 := σ) (K53 hr.1 hn hi) (fun z => absurd z (by decide)) (fun _ => hin) (fun _ => hin) (fun _ => ?_) (fun _ z => bI_s fun y => ?_) (fun _ z => bI_r ?_))
  · rw [nI_clamp (by omega), e7, e8, nI_1]
    exact K50 hT h hw (by omega) a3
  · rw [bI_0] at z
    have : decide (nmL T (E i) = W) = false := z
    rw [this] at y
    cases y
  · cases hh : decide (nmL T (E i) = W) with
    | true => rfl
    | false => exact absurd (bI_0.mpr hh) z
/-! next -/
def nG (σ σ' : mG) (j : Nat) : Prop := fG σ σ' ∧ (∀ k, k ≠ 3 → σ'.1 17 k = σ.1 17 k) ∧ σ'.1 17 3 = nI j
theorem nG.tr {σ σ1 σ2 : mG} {h h' : Nat} (a : nG σ σ1 h) (b : nG σ1 σ2 h') : nG σ σ2 h' := ⟨a.1.tr b.1, fun k hk => (b.2.1 k hk).trans (a.2.1 k hk), b.2.2⟩
theorem nG_w {σ : mG} {x : Int32} {j : Nat} (e : x = nI j) : nG σ (mi_uc σ.1 17 (upd (σ.1 17) 3 x), σ.2) j := by
  refine ⟨⟨rfl, fun c' hc' => mi_uc_ne _ _ hc'⟩, fun k hk => ?_, ?_⟩
  · show upd (σ.1 17) _ _ k = _
    exact mi_upd_ne _ _ hk
  · exact (mi_upd_same (σ.1 17) 3 x).trans e
theorem L89 (g : gM T n E) (hl : T.length ≤ 400) {o : Nat} (ho : o ≤ 400) {x1 : Int32} : ∀ j, ∀ σ : mG, rpC σ n E → σ.1 17 3 = nI j → j ≤ n → ∃ σ', TT X d tb89 none (10, [some (.ref 17), some (.int x1), some (.int (nI o))], [], σ) (none, σ') ∧ nG σ σ' (j + rn (fun i => decide (eBg (E i) < o)) n j) := by
  have hn := g.2.1
  refine rn_ind (P := fun j k => ∀ σ : mG, rpC σ n E → σ.1 17 3 = nI j → j ≤ n → ∃ σ', TT X d tb89 none (10, [some (.ref 17), some (.int x1), some (.int (nI o))], [], σ) (none, σ') ∧ nG σ σ' (j + k)) (fun j hj σ hr e hjn => ?_) (fun j k h1 h2 ih σ hr e hjn => ?_)
  · refine ⟨σ, ?_, fG.rfl', fun _ _ => rfl, e⟩
    refine R89_10 (fun _ => rfl) (fun z => ?_) (fun _ _ => rfl) (fun z y => absurd ?_ hj)
    · rw [hr.1, e, nI_leI (by omega) (by omega)] at z
      rw [e]
      exact mi_in_nI (by omega) (by omega)
    · rw [hr.1, e, nI_leI (by omega) (by omega)] at z
      have hb := (hr.2 j (by omega)).2.1
      have hg := (g.2.2.1 j (by omega)).2.2.2.2.2
      rw [e, nI_clamp (by omega), hb, nI_leI (by omega) (by omega)] at y
      exact ⟨by omega, decide_eq_true (by omega)⟩
  · have z : ¬ σ.1 5 1 ≤ σ.1 17 3 := by
      rw [hr.1, e, nI_leI (by omega) (by omega)]
      omega
    have hb := (hr.2 j h1).2.1
    have hg := (g.2.2.1 j h1).2.2.2.2.2
    have y : ¬ nI o ≤ σ.1 7 ((σ.1 17 3).toNatClampNeg) := by
      rw [e, nI_clamp (by omega), hb, nI_leI (by omega) (by omega)]
      have := of_decide_eq_true h2
      omega
    have hw := nG_w (σ := σ) (x := σ.1 17 3 + 1) (j := j + 1) (by rw [e, nI_1])
    obtain ⟨σ', a, b⟩ := ih _ (hw.1.rpC hr) hw.2.2 (by omega)
    refine ⟨σ', R89_10 (fun x => absurd x z) (fun _ => ?_) (fun _ x => absurd x y) (fun _ _ => a), ?_⟩
    · rw [e]
      exact mi_in_nI (by omega) (by omega)
    · rw [show j + (k + 1) = j + 1 + k by omega]
      exact hw.tr b
theorem K89 (g : gM T n E) (hl : T.length ≤ 400) {σ : mG} (hr : rpC σ n E) {i j : Nat} (hi : i < n) (e : σ.1 17 3 = nI j) (hj : j ≤ n) : ∃ σ' j', RR X (d + 1) 89 [.ref 17, .int (nI i)] σ (none, σ') ∧ nG σ σ' j' ∧ j ≤ j' ∧ j' ≤ n ∧ (∀ i', j ≤ i' → i' < j' → eBg (E i') < eOv (E i)) ∧ (j' < n → eOv (E i) ≤ eBg (E j')) := by
  have hn := g.2.1
  have ho := (g.2.2.1 i hi).2.2.2.2.2.2.2.2
  obtain ⟨σ', a, b⟩ := L89 (X := X) (d := d) g hl (o := eOv (E i)) (by omega) (x1 := nI i) j σ hr e hj
  refine ⟨σ', _, mi_R.of rfl rfl (R89_0 (mi_in_nI (by omega) (by omega)) ?_), b, by omega, rn_le hj, fun i' h1 h2 => ?_, fun h => ?_⟩
  · rw [nI_clamp (by omega), (hr.2 i hi).2.2.2.2.2.1]
    exact a
  · exact of_decide_eq_true (rn_in (f := fun i' => decide (eBg (E i') < eOv (E i))) i' h1 h2)
  · have := @rn_stop (fun i' => decide (eBg (E i') < eOv (E i))) n j
    exact Nat.not_lt.mp fun z => this ⟨h, decide_eq_true z⟩
theorem oI_eq {o : Option Nat} {k : Nat} (ho : ∀ i, o = some i → i < 2 ^ 31) (hk : k < 2 ^ 31) : oI o = nI k ↔ o = some k := by
  cases o with
  | none => exact ⟨fun z => absurd z (m1_ne hk), fun z => by cases z⟩
  | some i =>
    show nI i = nI k ↔ _
    rw [nI_eq (ho i rfl) hk]
    exact ⟨fun z => by rw [z], fun z => by injection z⟩
/-! the start tag -/
theorem sg_eq (g : gM T n E) {i : Nat} (hi : i < n) : eBs (E i) = eOv (E i) ↔ eSg (E i) = true := by
  obtain ⟨a, b⟩ := g.2.2.2.2.1 i hi
  cases hs : eSg (E i) with
  | true => exact ⟨fun _ => rfl, fun _ => (b hs).2.symm⟩
  | false =>
    have := (a hs).2.2.2.2.2
    exact ⟨fun z => by omega, fun z => by cases z⟩
theorem drop_gtA {L : List mAt} {c : Nat} (h : c < L.length) : L.drop c = gtA L c :: L.drop (c + 1) := by
  unfold gtA
  rw [List.drop_eq_getElem_cons h, List.getD_eq_getElem?_getD, List.getElem?_eq_getElem h]
  rfl
theorem L88 (hT : okT T) (g : gM T n E) {j : Nat} (hj : j < n) {x1 : Int32} : ∀ (m c h : Nat) (σ : mG), c + m = (eL (E j)).length → cT (σ.1 1 1) (σ.1 2) T → rpC σ n E → σ.1 17 2 = nI h → h < 65521 → ∃ σ', TT X (d + 3) tb88 (some .int) (106, [some (.ref 17), some (.int x1), some (.int (nI j)), some (.int (nI (4 * j))), some (.int (nI (4 * j + c)))], [], σ) (some (.int (nI (eBs (E j)))), σ') ∧ hG σ σ' (bif eSg (E j) then ftl T (fl (fas T h ((eL (E j)).drop c)) [62]) (E j) else fl (fas T h ((eL (E j)).drop c)) [62]) := by
  have hl := hT.1
  have hn := g.2.1
  have hin : mi_in (nI j) 20 = true := mi_in_nI (by omega) (by omega)
  obtain ⟨⟨a1, a2, a3, -⟩, gas, gsl, g4, -, a4, a5, a6, a7⟩ := g.2.2.1 j hj
  have hL4 : (eL (E j)).length ≤ 4 := by rw [gsl.1]; exact g4
  have hs := sg_eq g hj
  intro m
  induction m with
  | zero =>
    intro c h σ hm hc hr e hh
    obtain ⟨e6, e7, e8, e9, e10, e11, e12, -⟩ := hr.2 j hj
    have hle : nI (4 * j) + σ.1 12 (nI j).toNatClampNeg ≤ nI (4 * j + c) := by
      rw [nI_clamp (by omega), e12, nI_add]
      exact nI_le (by omega) (by omega)
    obtain ⟨σ1, b1, b2⟩ := K92 (X := X) (d := d + 2) (c := 62) e hh (by omega)
    have hr1 := b2.1.rpC hr
    obtain ⟨f6, f7, f8, f9, f10, f11, -⟩ := hr1.2 j hj
    have hd0 : fl (fas T h ((eL (E j)).drop c)) [62] = fd h 62 := by
      rw [List.drop_eq_nil_of_le (by omega), fas_nil, fl_cons, fl_nil]
    rw [hd0]
    by_cases hsg : eSg (E j) = true
    · have q1 : ¬ ¬ σ1.1 9 (nI j).toNatClampNeg = σ1.1 11 (nI j).toNatClampNeg := by
        rw [nI_clamp (by omega), f9, f11, hs.mpr hsg]
        exact fun z => z rfl
      obtain ⟨σ2, d1, d2⟩ := K90 (X := X) (d := d) hT (p := eBg (E j) + 1) (q := eNe (E j)) (by omega) a3 (b2.1.cT hc) b2.2.2 (fd_lt _ _)
      have hr2 := d2.1.rpC hr1
      refine ⟨σ2, ?_, ?_⟩
      · apply R88_106 (σ1 := σ1) (σ2 := σ2) (σ3 := σ) (σ4 := σ)
        case c1 => exact fun _ => b1
        case k1 => exact fun _ z => absurd z q1
        case c2 =>
          intro _ _
          rw [nI_clamp (by omega), f7, f8, nI_1]
          exact d1
        case k2 =>
          intro _ _
          refine R88_211 hin ?_
          rw [nI_clamp (by omega), (hr2.2 j hj).2.2.2.1]
        all_goals (intros; first | exact hin | contradiction)
      · rw [hsg, cond_true]
        unfold ftl nmL
        exact b2.tr d2
    · have q1 : ¬ σ1.1 9 (nI j).toNatClampNeg = σ1.1 11 (nI j).toNatClampNeg := by
        rw [nI_clamp (by omega), f9, f11, nI_eq (by omega) (by omega)]
        exact fun z => hsg (hs.mp z)
      refine ⟨σ1, ?_, ?_⟩
      · apply R88_106 (σ1 := σ1) (σ2 := σ) (σ3 := σ) (σ4 := σ)
        case c1 => exact fun _ => b1
        case k1 =>
          intro _ _
          refine R88_211 hin ?_
          rw [nI_clamp (by omega), f9]
        all_goals (intros; first | exact hin | contradiction)
      · rw [Bool.not_eq_true] at hsg
        rw [hsg, cond_false]
        exact b2
  | succ m ih =>
    intro c h σ hm hc hr e hh
    obtain ⟨e6, e7, e8, e9, e10, e11, e12, esl⟩ := hr.2 j hj
    have hle : ¬ nI (4 * j) + σ.1 12 (nI j).toNatClampNeg ≤ nI (4 * j + c) := by
      rw [nI_clamp (by omega), e12, nI_add]
      exact nI_ge (by omega) (by omega)
    have hcl : c < (eL (E j)).length := by omega
    have ga : gA T (gtA (eL (E j)) c) := gas _ ((gsl.2.1 _).mp (gtA_mem hcl))
    obtain ⟨⟨ga1, ga2, ga3, -⟩, ga4, ga5⟩ := ga
    have hin2 : mi_in (nI (4 * j + c)) 80 = true := mi_in_nI (by omega) (by omega)
    obtain ⟨σ3, b1, b2⟩ := K92 (X := X) (d := d + 2) (c := 32) e hh (by omega)
    have hr3 := b2.1.rpC hr
    obtain ⟨s1, s2, s3⟩ := (hr3.2 j hj).2.2.2.2.2.2.2 c hcl
    obtain ⟨σ4, c1, c2⟩ := K91 (X := X) (d := d + 1) hT (p := (gtA (eL (E j)) c).1) (q := (gtA (eL (E j)) c).2.2 + 1) (by omega) (by omega) (b2.1.cT hc) b2.2.2 (fd_lt _ _)
    obtain ⟨σ', d1, d2⟩ := ih (c + 1) _ σ4 (by omega) (c2.1.cT (b2.1.cT hc)) (c2.1.rpC hr3) c2.2.2 (fl_lt _ _ (fd_lt _ _))
    refine ⟨σ', ?_, ?_⟩
    · apply R88_106 (σ1 := σ) (σ2 := σ) (σ3 := σ3) (σ4 := σ4)
      case c3 => exact fun _ => b1
      case c4 =>
        intro _
        rw [nI_clamp (by omega), s1, s3, nI_1]
        exact c1
      case k3 =>
        intro _
        rw [nI_1]
        exact d1
      all_goals (intros; first | exact hin | exact hin2 | contradiction)
    · rw [drop_gtA hcl, fas_cons]
      exact (b2.tr c2).tr d2
theorem K88h (hT : okT T) (g : gM T n E) {j k : Nat} (hj : j < n) (hk : k < n) (hS : isS T k (E j) = false) {σ : mG} {h : Nat} (hc : cT (σ.1 1 1) (σ.1 2) T) (hr : rpC σ n E) (e : σ.1 17 2 = nI h) (hh : h < 65521) (e3 : σ.1 17 3 = nI j) : ∃ σ', RR X (d + 4) 88 [.ref 17, .int (nI k)] σ (some (.int (nI (eBs (E j)))), σ') ∧ fG σ σ' ∧ σ'.1 17 2 = nI (hst T h (E j)) ∧ σ'.1 17 3 = nI (j + 1) := by
  have hl := hT.1
  have hn := g.2.1
  have hin : mi_in (nI j) 20 = true := mi_in_nI (by omega) (by omega)
  obtain ⟨⟨a1, a2, a3, -⟩, gas, gsl, g4, gpar, a4, a5, a6, a7⟩ := g.2.2.1 j hj
  have hw := nG_w (σ := σ) (x := σ.1 17 3 + 1) (j := j + 1) (by rw [e3, nI_1])
  have hr0 := hw.1.rpC hr
  have e0 : (mi_uc σ.1 17 (upd (σ.1 17) 3 (σ.1 17 3 + 1)), σ.2).1 17 2 = nI h := (hw.2.1 2 (by omega)).trans e
  obtain ⟨σ1, b1, b2⟩ := K92 (X := X) (d := d + 2) (c := 60) e0 hh (by omega)
  have hr1 := b2.1.rpC hr0
  obtain ⟨f6, f7, f8, -⟩ := hr1.2 j hj
  obtain ⟨σ2, c1, c2⟩ := K91 (X := X) (d := d + 1) hT (p := eBg (E j) + 1) (q := eNe (E j)) (by omega) a3 (b2.1.cT (hw.1.cT hc)) b2.2.2 (fd_lt _ _)
  obtain ⟨σ', d1, d2⟩ := L88 (X := X) (d := d) hT g hj (x1 := nI k) (eL (E j)).length 0 _ σ2 (by omega) (c2.1.cT (b2.1.cT (hw.1.cT hc))) (c2.1.rpC hr1) c2.2.2 (fl_lt _ _ (fd_lt _ _))
  have t59 : TT X (d + 3) tb88 (some .int) (59, [some (.ref 17), some (.int (nI k)), some (.int (nI j)), none, none], [], σ) (some (.int (nI (eBs (E j)))), σ') := by
    refine R88_59 b1 hin hin ?_ ?_ (σ2 := σ2)
    · rw [nI_clamp (by omega), f7, f8, nI_1]
      exact c1
    · rw [show nI j * 4 = nI (4 * j) by rw [show (4 : Int32) = nI 4 from rfl, pk_mul, Nat.mul_comm]]
      exact d1
  have hp : σ.1 6 ((σ.1 17 3).toNatClampNeg) = nI k ↔ ePar (E j) = some k := by
    rw [e3, nI_clamp (by omega), (hr.2 j hj).1]
    exact oI_eq (fun i hi => by have := gpar i hi; omega) (by omega)
  have k56 : RR X (d + 3) 56 [.ref 5, .int (nI j), .ref 1016] σ (some (.int (bI (decide (nmL T (E j) = sigL)))), σ) := K56 hT hc g hr hj ⟨rfl, by decide, by decide⟩
  have hS' : ePar (E j) = some k → decide (nmL T (E j) = sigL) = false := fun z => by
    unfold isS at hS
    rw [decide_eq_true z] at hS
    exact hS
  refine ⟨σ', ?_, hw.1.tr (b2.1.tr (c2.1.tr d2.1)), ?_, ?_⟩
  · refine mi_R.of rfl rfl ?_
    apply R88_0 (v1 := 1) (σ1 := σ) (v2 := bI (decide (nmL T (E j) = sigL))) (σ2 := σ) (σ3 := σ)
    case c1 =>
      rw [e3]
      exact K53 hr.1 hn hj
    case b1 =>
      intro _
      rw [e3]
      exact hin
    case k1 =>
      intro _ _
      rw [e3]
      exact t59
    case c2 =>
      intro _ _
      rw [e3]
      exact k56
    case k2 =>
      intro _ _ _
      rw [e3]
      exact t59
    case k4 => exact fun z => absurd (by decide) z
    case c3 => exact fun _ z y => absurd (bI_0.mpr (hS' (hp.mp (Decidable.not_not.mp z)))) y
    case b2 => exact fun _ z y => absurd (bI_0.mpr (hS' (hp.mp (Decidable.not_not.mp z)))) y
    case k3 => exact fun _ z y => absurd (bI_0.mpr (hS' (hp.mp (Decidable.not_not.mp z)))) y
  · have := d2.2.2
    rw [List.drop_zero] at this
    unfold hst fhd
    rw [show fl h (60 :: nmL T (E j)) = fl (fd h 60) (nmL T (E j)) from fl_cons _ _ _]
    exact this
  · rw [d2.2.1 3 (by omega), c2.2.1 3 (by omega), b2.2.1 3 (by omega)]
    exact hw.2.2
theorem K88s (hT : okT T) (g : gM T n E) {j k : Nat} (hj : j < n) (hk : k < n) (hS : isS T k (E j) = true) {σ : mG} {h : Nat} (hc : cT (σ.1 1 1) (σ.1 2) T) (hr : rpC σ n E) (e : σ.1 17 2 = nI h) (e3 : σ.1 17 3 = nI j) : ∃ σ' j', RR X (d + 4) 88 [.ref 17, .int (nI k)] σ (some (.int (nI (eOv (E j)))), σ') ∧ fG σ σ' ∧ σ'.1 17 2 = nI h ∧ σ'.1 17 3 = nI j' ∧ j ≤ j' ∧ j' ≤ n ∧ (∀ i', j ≤ i' → i' < j' → eBg (E i') < eOv (E j)) ∧ (j' < n → eOv (E j) ≤ eBg (E j')) := by
  have hl := hT.1
  have hn := g.2.1
  have hin : mi_in (nI j) 20 = true := mi_in_nI (by omega) (by omega)
  obtain ⟨⟨a1, a2, a3, -⟩, gas, gsl, g4, gpar, a4, a5, a6, a7⟩ := g.2.2.1 j hj
  have hp : σ.1 6 ((σ.1 17 3).toNatClampNeg) = nI k ↔ ePar (E j) = some k := by
    rw [e3, nI_clamp (by omega), (hr.2 j hj).1]
    exact oI_eq (fun i hi => by have := gpar i hi; omega) (by omega)
  have k56 : RR X (d + 3) 56 [.ref 5, .int (nI j), .ref 1016] σ (some (.int (bI (decide (nmL T (E j) = sigL)))), σ) := K56 hT hc g hr hj ⟨rfl, by decide, by decide⟩
  have hS' := isS_t hS
  obtain ⟨σ', j', b1, b2, b3⟩ := K89 (X := X) (d := d + 2) g hl hr hj e3 (by omega)
  refine ⟨σ', j', ?_, b2.1, (b2.2.1 2 (by omega)).trans e, b2.2.2, b3⟩
  refine mi_R.of rfl rfl ?_
  have hpp := hp.mpr hS'.1
  apply R88_0 (v1 := 1) (σ1 := σ) (v2 := bI (decide (nmL T (E j) = sigL))) (σ2 := σ) (σ3 := σ')
  case c1 =>
    rw [e3]
    exact K53 hr.1 hn hj
  case b1 =>
    intro _
    rw [e3]
    exact hin
  case k1 => exact fun _ z => absurd hpp z
  case c2 =>
    intro _ _
    rw [e3]
    exact k56
  case k2 =>
    intro _ _ z
    rw [decide_eq_true hS'.2] at z
    exact absurd z (by decide)
  case k4 => exact fun z => absurd (by decide) z
  case c3 =>
    intro _ _ _
    rw [e3]
    exact b1
  case b2 =>
    intro _ _ _
    rw [e3]
    exact hin
  case k3 =>
    intro _ _ _
    rw [e3, nI_clamp (by omega), ((b2.1.rpC hr).2 j hj).2.2.2.2.2.1]
end
