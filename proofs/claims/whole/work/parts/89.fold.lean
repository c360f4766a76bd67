/-! The canonical form's number, over a text that has been read -/
def gM (T : List Nat) (n : Nat) (E : Nat → mEl) : Prop := 1 ≤ n ∧ n ≤ 20 ∧ (∀ i, i < n → gE T i (E i)) ∧ (∀ i, i < n → vis T (eBg (E i)) ∧ tgO T (E i)) ∧ (∀ i, i < n → (eSg (E i) = false → cls T (E i)) ∧ (eSg (E i) = true → eBe (E i) = eBs (E i) ∧ eOv (E i) = eBs (E i))) ∧ (∀ i j, i < j → j < n → eBs (E i) ≤ eBg (E j)) ∧ (∀ q, vis T q → q < T.length → tc T q = 60 → tc T (q + 1) ≠ 33 → tc T (q + 1) ≠ 47 → ∃ i, i < n ∧ eBg (E i) = q) ∧ (∀ q, vis T q → q < T.length → tc T q = 60 → tc T (q + 1) = 47 → ∃ i, i < n ∧ eSg (E i) = false ∧ eBe (E i) = q) ∧ (∀ i j, i < n → j < n → ePar (E j) = some i → eSg (E i) = false ∧ eOv (E j) ≤ eBe (E i)) ∧ ∀ i j, i < n → j < n → eSg (E i) = false → eSg (E j) = false → eBe (E i) = eBe (E j) → i = j
theorem msg_gM {T : List Nat} {n : Nat} {E : Nat → mEl} (h : msg T n E) : gM T n E := by
  obtain ⟨h1, h2, h3, p, d, rfl, ⟨v1, v2, v3, v4, v5, v6, v7, v8⟩, hd⟩ := h
  have hd0 : d = 0 := by
    cases d with
    | zero => rfl
    | succ d =>
      obtain ⟨k, hk, -⟩ := hd
      cases hk
  subst hd0
  have hb : ∀ i, i < n → (eSg (E i) = false ↔ eBs (E i) < eOv (E i)) := by
    intro i hi
    obtain ⟨-, -, -, c4, -, c6⟩ := v2 i hi
    refine ⟨fun z => ?_, fun z => (c4 z).1⟩
    by_cases hh : eBs (E i) < eOv (E i)
    · exact hh
    · exact (c6 z hh).elim
  refine ⟨h1, h2, h3, fun i hi => ⟨(v2 i hi).1, (v2 i hi).2.1⟩, fun i hi => ⟨fun z => (v2 i hi).2.2.2.1 ((hb i hi).mp z), fun z => (v2 i hi).2.2.2.2.1 fun y => ?_⟩, v3, v4, ?_, ?_, ?_⟩
  · have := (hb i hi).mpr y
    rw [z] at this
    cases this
  · intro q a1 a2 a3 a4
    obtain ⟨i, b1, b2, b3⟩ := v5 q a1 a2 a3 a4
    exact ⟨i, b1, (hb i b1).mpr b2, b3⟩
  · intro i j a1 a2 a3
    obtain ⟨b1, b2⟩ := v7 i j a1 a2 a3
    exact ⟨b1, b2 ((hb i a1).mp b1)⟩
  · intro i j a1 a2 a3 a4 a5
    exact v8 i j a1 a2 ((hb i a1).mp a3) ((hb j a2).mp a4) a5
def fst (f : Nat → Bool) (n : Nat) : Nat := rn (fun i => !f i) n 0
theorem fst_is {f : Nat → Bool} {n i : Nat} (hi : i < n) (hf : f i = true) (hu : ∀ j, j < n → f j = true → j = i) : fst f n = i := by
  have h1 := @rn_stop (fun i => !f i) n 0
  have h2 := @rn_in (fun i => !f i) n 0
  have e : fst f n = rn (fun i => !f i) n 0 := rfl
  have h3 : fst f n ≤ i := Nat.not_lt.mp fun z => by
    have := h2 i (Nat.zero_le _) (by omega)
    rw [hf] at this
    cases this
  rw [← e, Nat.zero_add] at h1
  refine hu _ (by omega) ?_
  cases hh : f (fst f n) with
  | true => rfl
  | false => exact absurd ⟨by omega, by rw [hh]; rfl⟩ h1
def fd (h c : Nat) : Nat := (h * 257 + c) % 65521
def fl (h : Nat) (l : List Nat) : Nat := l.foldl fd h
theorem fd_lt (h c : Nat) : fd h c < 65521 := Nat.mod_lt _ (by omega)
theorem fl_lt : ∀ (l : List Nat) (h : Nat), h < 65521 → fl h l < 65521 := by
  intro l
  induction l with
  | nil => exact fun h hh => hh
  | cons a l ih => exact fun h _ => ih (fd h a) (fd_lt h a)
theorem fl_nil (h : Nat) : fl h [] = h := rfl
theorem fl_cons (h a : Nat) (l : List Nat) : fl h (a :: l) = fl (fd h a) l := List.foldl_cons ..
theorem fl_app (h : Nat) (l m : List Nat) : fl h (l ++ m) = fl (fl h l) m := List.foldl_append
def nmL (T : List Nat) (e : mEl) : List Nat := seg T (eBg e + 1) (eNe e)
def fas (T : List Nat) (h : Nat) (L : List mAt) : Nat := L.foldl (fun h a => fl h (32 :: seg T a.1 (a.2.2 + 1))) h
theorem fas_lt {T : List Nat} : ∀ (L : List mAt) (h : Nat), h < 65521 → fas T h L < 65521 := by
  intro L
  induction L with
  | nil => exact fun h hh => hh
  | cons a L ih => exact fun h hh => ih _ (fl_lt _ _ hh)
theorem fas_cons (T : List Nat) (h : Nat) (a : mAt) (L : List mAt) : fas T h (a :: L) = fas T (fl (fd h 32) (seg T a.1 (a.2.2 + 1))) L := by
  rw [← fl_cons]
  rfl
theorem fas_nil (T : List Nat) (h : Nat) : fas T h [] = h := rfl
def fhd (T : List Nat) (h : Nat) (e : mEl) : Nat := fl (fas T (fl h (60 :: nmL T e)) (eL e)) [62]
def ftl (T : List Nat) (h : Nat) (e : mEl) : Nat := fl h (60 :: 47 :: (nmL T e ++ [62]))
theorem fhd_lt {T : List Nat} {e : mEl} {h : Nat} (hh : h < 65521) : fhd T h e < 65521 := fl_lt _ _ (fas_lt _ _ (fl_lt _ _ hh))
theorem ftl_lt {T : List Nat} {e : mEl} {h : Nat} (hh : h < 65521) : ftl T h e < 65521 := fl_lt _ _ hh
def ixB (n : Nat) (E : Nat → mEl) (p : Nat) : Nat := fst (fun i => decide (eBg (E i) = p)) n
def ixE (n : Nat) (E : Nat → mEl) (p : Nat) : Nat := fst (fun i => decide (eBe (E i) = p) && !eSg (E i)) n
def sigL : List Nat := [115, 105, 103]
def isS (T : List Nat) (k : Nat) (e : mEl) : Bool := decide (ePar e = some k) && decide (nmL T e = sigL)
def hst (T : List Nat) (h : Nat) (e : mEl) : Nat := bif eSg e then ftl T (fhd T h e) e else fhd T h e
def wk (T : List Nat) (n : Nat) (E : Nat → mEl) (k : Nat) : Nat → Nat → Nat → Nat
  | 0, _, h => h
  | f + 1, p, h => if eBe (E k) ≤ p then h else if tc T p = 60 then (if tc T (p + 1) = 33 then wk T n E k f ((cmS T p).getD 0) h else if tc T (p + 1) = 47 then wk T n E k f (eOv (E (ixE n E p))) (ftl T h (E (ixE n E p))) else bif isS T k (E (ixB n E p)) then wk T n E k f (eOv (E (ixB n E p))) h else wk T n E k f (eBs (E (ixB n E p))) (hst T h (E (ixB n E p)))) else wk T n E k f (p + 1) (fd h (tc T p))
def dgS (T : List Nat) (n : Nat) (E : Nat → mEl) (k : Nat) : Nat := ftl T (wk T n E k 500 (eBs (E k)) (fhd T 0 (E k))) (E k)
section
variable {T : List Nat} {n : Nat} {E : Nat → mEl}
theorem bg_lt (g : gM T n E) {i j : Nat} (hij : i < j) (hj : j < n) : eBg (E i) < eBg (E j) := by
  have h1 := g.2.2.2.2.2.1 i j hij hj
  have h2 := (g.2.2.1 i (by omega)).2.2.2.2.2.1
  omega
theorem bg_inj (g : gM T n E) {i j : Nat} (hi : i < n) (hj : j < n) (e : eBg (E j) = eBg (E i)) : j = i := by
  rcases Nat.lt_trichotomy j i with z | z | z
  · have := bg_lt g z hi
    omega
  · exact z
  · have := bg_lt g z hj
    omega
theorem ixB_is (g : gM T n E) {i p : Nat} (hi : i < n) (e : eBg (E i) = p) : ixB n E p = i := fst_is hi (decide_eq_true e) fun j hj z => bg_inj g hi hj ((of_decide_eq_true z).trans e.symm)
theorem ixE_is (g : gM T n E) {i p : Nat} (hi : i < n) (hs : eSg (E i) = false) (e : eBe (E i) = p) : ixE n E p = i := fst_is hi (by rw [decide_eq_true e, hs]; rfl) fun j hj z => by
  rw [Bool.and_eq_true] at z
  exact g.2.2.2.2.2.2.2.2.2 j i hj hi (by cases hh : eSg (E j) with
    | false => rfl
    | true => rw [hh] at z; exact absurd z.2 (by decide)) hs ((of_decide_eq_true z.1).trans e.symm)
/-- what stands at a visited place short of the end: a character, a comment, an end tag, a start tag -/
theorem nx_ch {p : Nat} (h : tc T p ≠ 60) (hp : p < T.length) : nx T p = some (p + 1) := by
  unfold nx
  rw [if_neg h, if_pos hp]
theorem nx_cm {p : Nat} (h : tc T p = 60) (h2 : tc T (p + 1) = 33) : nx T p = cmS T p := by
  unfold nx
  rw [if_pos h, if_pos h2]
theorem nx_en {p m q : Nat} (h : tc T p = 60) (h2 : tc T (p + 1) = 47) (he : enS T p = some (m, q)) : nx T p = some q := by
  unfold nx
  rw [if_pos h, if_neg (by omega), if_pos h2, he]
  rfl
theorem nx_st {e : mEl} (h : tgO T e) : nx T (eBg e) = some (eBs e) := nx_tg h
theorem vis_ov (g : gM T n E) {i : Nat} (hi : i < n) : vis T (eOv (E i)) := by
  obtain ⟨a1, a2⟩ := g.2.2.2.1 i hi
  obtain ⟨b1, b2⟩ := g.2.2.2.2.1 i hi
  cases hs : eSg (E i) with
  | true =>
    rw [(b2 hs).2]
    exact vis_nx a1 (nx_st a2)
  | false =>
    obtain ⟨-, c1, c2, c3, ⟨m, c4, -⟩, -⟩ := b1 hs
    exact vis_nx c1 (nx_en c2 c3 c4)
theorem vis_bs (g : gM T n E) {i : Nat} (hi : i < n) : vis T (eBs (E i)) := vis_nx (g.2.2.2.1 i hi).1 (nx_st (g.2.2.2.1 i hi).2)
theorem vis_be (g : gM T n E) {i : Nat} (hi : i < n) : vis T (eBe (E i)) := by
  cases hs : eSg (E i) with
  | true =>
    rw [((g.2.2.2.2.1 i hi).2 hs).1]
    exact vis_bs g hi
  | false => exact ((g.2.2.2.2.1 i hi).1 hs).2.1
theorem vis_le {q p q' : Nat} (hq : vis T q) (hp : vis T p) (h : q < p) (hn : nx T q = some q') : q' ≤ p := by
  obtain ⟨x, h1, h2⟩ := vis_next hq hp h
  rw [hn] at h1
  injection h1 with h1
  omega
/-- the kinds of a step at p, short of be k -/
theorem stk (g : gM T n E) {k p : Nat} (hk : k < n) (hv : vis T p) (hp : p < eBe (E k)) : (tc T p ≠ 60 ∧ p < T.length ∧ nx T p = some (p + 1)) ∨ (tc T p = 60 ∧ tc T (p + 1) = 33 ∧ ∃ q, cmS T p = some q ∧ nx T p = some q) ∨ (tc T p = 60 ∧ tc T (p + 1) = 47 ∧ ∃ i, i < n ∧ eSg (E i) = false ∧ eBe (E i) = p ∧ ixE n E p = i ∧ nx T p = some (eOv (E i))) ∨ (tc T p = 60 ∧ tc T (p + 1) ≠ 33 ∧ tc T (p + 1) ≠ 47 ∧ ∃ i, i < n ∧ eBg (E i) = p ∧ ixB n E p = i ∧ nx T p = some (eBs (E i))) := by
  have hl : p < T.length := by
    have := (g.2.2.1 k hk).2.2.2.2.2.2.2
    omega
  obtain ⟨q, hn, hq⟩ := vis_next hv (vis_be g hk) hp
  by_cases h0 : tc T p = 60
  · by_cases h1 : tc T (p + 1) = 33
    · exact Or.inr (Or.inl ⟨h0, h1, q, (nx_cm h0 h1).symm.trans hn, hn⟩)
    · by_cases h2 : tc T (p + 1) = 47
      · obtain ⟨i, b1, b2, b3⟩ := g.2.2.2.2.2.2.2.1 p hv hl h0 h2
        refine Or.inr (Or.inr (Or.inl ⟨h0, h2, i, b1, b2, b3, ixE_is g b1 b2 b3, ?_⟩))
        obtain ⟨-, -, -, -, ⟨m, c4, -⟩, -⟩ := (g.2.2.2.2.1 i b1).1 b2
        rw [b3] at c4
        exact nx_en h0 h2 c4
      · obtain ⟨i, b1, b2⟩ := g.2.2.2.2.2.2.1 p hv hl h0 h1 h2
        refine Or.inr (Or.inr (Or.inr ⟨h0, h1, h2, i, b1, b2, ixB_is g b1 b2, ?_⟩))
        rw [← b2]
        exact nx_st (g.2.2.2.1 i b1).2
  · exact Or.inl ⟨h0, hl, nx_ch h0 hl⟩
theorem isS_t {k : Nat} {e : mEl} (h : isS T k e = true) : ePar e = some k ∧ nmL T e = sigL := by
  unfold isS at h
  rw [Bool.and_eq_true] at h
  exact ⟨of_decide_eq_true h.1, of_decide_eq_true h.2⟩
theorem wk_fuel (g : gM T n E) {k : Nat} (hk : k < n) : ∀ (f f' p h : Nat), vis T p → eBe (E k) ≤ p + f → eBe (E k) ≤ p + f' → wk T n E k f p h = wk T n E k f' p h := by
  intro f
  induction f with
  | zero =>
    intro f' p h hv h1 h2
    cases f' with
    | zero => rfl
    | succ f' =>
      show h = if eBe (E k) ≤ p then h else _
      rw [if_pos (by omega)]
  | succ f ih =>
    intro f' p h hv h1 h2
    cases f' with
    | zero =>
      show (if eBe (E k) ≤ p then h else _) = h
      rw [if_pos (by omega)]
    | succ f' =>
      unfold wk
      by_cases hb : eBe (E k) ≤ p
      · rw [if_pos hb, if_pos hb]
      · rw [if_neg hb, if_neg hb]
        rcases stk g hk hv (by omega) with ⟨c0, c1, c2⟩ | ⟨c0, c1, q, c2, c3⟩ | ⟨c0, c1, i, c2, c3, c4, c5, c6⟩ | ⟨c0, c1, c2, i, c3, c4, c5, c6⟩
        · rw [if_neg c0, if_neg c0]
          exact ih _ _ _ (vis_nx hv c2) (by omega) (by omega)
        · rw [if_pos c0, if_pos c0, if_pos c1, if_pos c1, c2]
          have := nx_lt c3
          exact ih _ _ _ (vis_nx hv c3) (by show _ ≤ q + f; omega) (by show _ ≤ q + f'; omega)
        · have c1' : tc T (p + 1) ≠ 33 := by omega
          rw [if_pos c0, if_pos c0, if_neg c1', if_neg c1', if_pos c1, if_pos c1, c5]
          have := nx_lt c6
          exact ih _ _ _ (vis_nx hv c6) (by omega) (by omega)
        · rw [if_pos c0, if_pos c0, if_neg c1, if_neg c1, if_neg c2, if_neg c2, c5]
          have := nx_lt c6
          cases hs : isS T k (E i) with
          | true =>
            have h3 := (g.2.2.1 i c3).2.2.2.2.2.2
            show wk T n E k f (eOv (E i)) h = wk T n E k f' (eOv (E i)) h
            exact ih _ _ _ (vis_ov g c3) (by omega) (by omega)
          | false => exact ih _ _ _ (vis_nx hv c6) (by omega) (by omega)
end
/-! Attributes: what stands around a value -/
def gQ (T : List Nat) (a : mAt) : Prop := tc T a.2.1 = 61 ∧ tc T (a.2.1 + 1) = 34 ∧ tc T a.2.2 = 34 ∧ ∀ i, a.2.1 + 2 ≤ i → i < a.2.2 → tc T i ≠ 60
theorem vlS_gQ {T : List Nat} {f : Nat} {a : mAt} (h : vlS T f = some a) : gQ T a := by
  unfold vlS at h
  split at h
  · rename_i hc
    injection h with h
    subst h
    refine ⟨hc.2.1, hc.2.2.1, hc.2.2.2, fun i h1 h2 z => ?_⟩
    have := rn_in (f := fun q => !(decide (tc T q = 34) || decide (tc T q = 60))) (n := T.length) (p := f + nL T f + 2) i h1 h2
    have : (!(decide (tc T i = 34) || decide (tc T i = 60))) = true := this
    rw [decide_eq_true z, Bool.or_true] at this
    cases this
  · cases h
theorem atS_gQ {T : List Nat} : ∀ (k p : Nat) (as L : List mAt) {y : List mAt × List mAt × Nat}, atS T k p as L = some y → (∀ a ∈ as, gQ T a) → ∀ a ∈ y.1, gQ T a := by
  intro k
  induction k with
  | zero =>
    intro p as L y h
    cases h
  | succ k ih =>
    intro p as L y h ha
    by_cases h0 : nS T p = 0 ∨ nL T (p + nS T p) = 0
    · rw [atS_end h0] at h
      injection h with h
      subst h
      exact ha
    · cases hv : vlS T (p + nS T p) with
      | none => rw [atS_none h0 hv] at h; cases h
      | some a =>
        rw [atS_some h0 hv] at h
        split at h
        · refine ih _ _ _ h fun b hb => ?_
          rcases List.mem_append.mp hb with z | z
          · exact ha b z
          · rw [List.mem_singleton.mp z]
            exact vlS_gQ hv
        · cases h
theorem tgO_gQ {T : List Nat} {e : mEl} (h : tgO T e) : ∀ a ∈ eAs e, gQ T a := by
  unfold tgO tgS at h
  split at h
  · cases hm : nmS T (eBg e + 1) with
    | none => rw [hm] at h; cases h
    | some m =>
      rw [hm] at h
      have h : (match atS T 5 m [] [] with
        | none => none
        | some y => tgE T m y) = some (eNe e, eAs e, eL e, eBs e, eSg e) := h
      cases hy : atS T 5 m [] [] with
      | none => rw [hy] at h; cases h
      | some y =>
        rw [hy] at h
        have h : tgE T m y = some (eNe e, eAs e, eL e, eBs e, eSg e) := h
        have hq := atS_gQ 5 m [] [] hy (fun a ha => by cases ha)
        have e1 : y.1 = eAs e := by
          unfold tgE at h
          split at h
          · injection h with h
            injection h with _ h
            injection h with h _
          · split at h
            · injection h with h
              injection h with _ h
              injection h with h _
            · cases h
        rw [← e1]
        exact hq
  · cases h
theorem seg_split {T : List Nat} : ∀ (k p q r : Nat), q - p = k → p ≤ q → q ≤ r → r ≤ T.length → seg T p r = seg T p q ++ seg T q r := by
  intro k
  induction k with
  | zero =>
    intro p q r hk h1 h2 h3
    have : p = q := by omega
    subst this
    rw [seg_nil (Nat.le_refl p)]
    rfl
  | succ k ih =>
    intro p q r hk h1 h2 h3
    rw [seg_cons (by omega) h3, seg_cons (q := q) (by omega) (by omega), ih (p + 1) q r (by omega) (by omega) h2 h3]
    rfl
theorem seg_attr {T : List Nat} {a : mAt} (g : gA T a) (q : gQ T a) : seg T a.1 (a.2.2 + 1) = seg T a.1 a.2.1 ++ 61 :: 34 :: (seg T (a.2.1 + 2) a.2.2 ++ [34]) := by
  obtain ⟨⟨g1, g2, g3, -⟩, g4, g5⟩ := g
  obtain ⟨q1, q2, q3, -⟩ := q
  rw [seg_split _ a.1 a.2.1 (a.2.2 + 1) rfl (by omega) (by omega) (by omega), seg_cons (p := a.2.1) (by omega) (by omega), seg_cons (p := a.2.1 + 1) (by omega) (by omega), seg_snoc (p := a.2.1 + 1 + 1) (by omega) g5, q1, q2, q3]
