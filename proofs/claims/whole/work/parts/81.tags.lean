/-! Tags, elements; the class's reader. -/
abbrev mEl : Type := Option Nat × Nat × Nat × Nat × Nat × Nat × Bool × List mAt × List mAt
def ePar (e : mEl) : Option Nat := e.1
def eBg (e : mEl) : Nat := e.2.1
def eNe (e : mEl) : Nat := e.2.2.1
def eBs (e : mEl) : Nat := e.2.2.2.1
def eBe (e : mEl) : Nat := e.2.2.2.2.1
def eOv (e : mEl) : Nat := e.2.2.2.2.2.1
def eSg (e : mEl) : Bool := e.2.2.2.2.2.2.1
def eAs (e : mEl) : List mAt := e.2.2.2.2.2.2.2.1
def eL (e : mEl) : List mAt := e.2.2.2.2.2.2.2.2
def fu {α : Type} (f : Nat → α) (k : Nat) (v : α) : Nat → α := fun j => if j = k then v else f j
theorem fu_s {α : Type} {f : Nat → α} {k : Nat} {v : α} : fu f k v k = v := by simp [fu]
theorem fu_n {α : Type} {f : Nat → α} {k j : Nat} {v : α} (h : j ≠ k) : fu f k v j = f j := by simp [fu, h]
abbrev mTg : Type := Nat × List mAt × List mAt × Nat × Bool
def tgE (T : List Nat) (m : Nat) (y : List mAt × List mAt × Nat) : Option mTg := if tc T y.2.2 = 47 ∧ tc T (y.2.2 + 1) = 62 then some (m, y.1, y.2.1, y.2.2 + 2, true) else if tc T y.2.2 = 62 then some (m, y.1, y.2.1, y.2.2 + 1, false) else none
def tgS (T : List Nat) (p : Nat) : Option mTg := if tc T p = 60 then match nmS T (p + 1) with
  | none => none
  | some m => match atS T 5 m [] [] with
    | none => none
    | some y => tgE T m y
  else none
def enS (T : List Nat) (p : Nat) : Option (Nat × Nat) := match nmS T (p + 2) with
  | none => none
  | some m => if tc T (m + nS T m) = 62 then some (m, m + nS T m + 1) else none
abbrev mPS : Type := Nat × (Nat → mEl) × Option Nat × Nat × Nat
def nwS (n : Nat) (E : Nat → mEl) (o : Option Nat) (d p : Nat) (y : mTg) : mPS := (n + 1, fu E n (o, p, y.1, y.2.2.2.1, y.2.2.2.1, y.2.2.2.1, y.2.2.2.2, y.2.1, y.2.2.1), bif y.2.2.2.2 then o else some n, bif y.2.2.2.2 then d else d + 1, y.2.2.2.1)
def tnS (T : List Nat) (n : Nat) (E : Nat → mEl) (o : Option Nat) (d p : Nat) : Option mPS := if n < 20 ∧ d < 6 then (tgS T p).map (nwS n E o d p) else none
def clE (e : mEl) (p q : Nat) : mEl := (e.1, e.2.1, e.2.2.1, e.2.2.2.1, p, q, e.2.2.2.2.2.2)
def clS (T : List Nat) (n : Nat) (E : Nat → mEl) (k d p : Nat) : Option mPS := match enS T p with
  | none => none
  | some y => if seg T (p + 2) y.1 = seg T (eBg (E k) + 1) (eNe (E k)) then some (n, fu E k (clE (E k) p y.2), ePar (E k), d - 1, y.2) else none
def stp (T : List Nat) (n : Nat) (E : Nat → mEl) (k d p : Nat) : Option mPS :=
  if tc T p = 60 then
    if tc T (p + 1) = 33 then (cmS T p).map (fun q => (n, E, some k, d, q))
    else if tc T (p + 1) = 47 then clS T n E k d p else tnS T n E (some k) d p
  else if p < T.length then some (n, E, some k, d, p + 1) else none
def runS (T : List Nat) : Nat → mPS → Option mPS
  | 0, _ => none
  | f + 1, s => match s.2.2.1 with
    | none => some s
    | some k => (stp T s.1 s.2.1 k s.2.2.2.1 s.2.2.2.2).bind (runS T f)
def E0 : Nat → mEl := fun _ => (none, 0, 0, 0, 0, 0, false, [], [])
def rdS (T : List Nat) : Option (Nat × (Nat → mEl)) := match tnS T 0 E0 none 0 0 with
  | none => none
  | some s => match runS T 400 s with
    | none => none
    | some s => if s.2.2.2.2 = T.length then some (s.1, s.2.1) else none
/-! what the states of the reading keep -/
def gE (T : List Nat) (i : Nat) (e : mEl) : Prop := gN T (eBg e + 1) (eNe e) ∧ (∀ a ∈ eAs e, gA T a) ∧ SL T (eAs e) (eL e) ∧ (eAs e).length ≤ 4 ∧ (∀ j, ePar e = some j → j < i) ∧ eBg e < eBs e ∧ eBs e ≤ eBe e ∧ eBe e ≤ eOv e ∧ eOv e ≤ T.length
def dep (E : Nat → mEl) : Nat → Option Nat → Prop
  | 0, o => o = none
  | d + 1, o => ∃ k, o = some k ∧ dep E d (ePar (E k))
def gS (T : List Nat) (s : mPS) : Prop := s.1 ≤ 20 ∧ (∀ i, i < s.1 → gE T i (s.2.1 i)) ∧ (∀ k, s.2.2.1 = some k → k < s.1 ∧ eBs (s.2.1 k) ≤ s.2.2.2.2) ∧ dep s.2.1 s.2.2.2.1 s.2.2.1 ∧ s.2.2.2.1 ≤ 6 ∧ s.2.2.2.2 ≤ T.length ∧ (∀ k, k < s.1 → eBs (s.2.1 k) ≤ s.2.2.2.2)
theorem dep_ext {T : List Nat} {n : Nat} {E E' : Nat → mEl} (hg : ∀ i, i < n → gE T i (E i)) (hp : ∀ i, i < n → ePar (E' i) = ePar (E i)) : ∀ (d : Nat) (o : Option Nat), (∀ k, o = some k → k < n) → dep E d o → dep E' d o := by
  intro d
  induction d with
  | zero => intro o _ h; exact h
  | succ d ih =>
    intro o ho h
    obtain ⟨k, rfl, hk⟩ := h
    have hkn := ho k rfl
    refine ⟨k, rfl, ?_⟩
    rw [hp k hkn]
    exact ih _ (fun j hj => Nat.lt_trans ((hg k hkn).2.2.2.2.1 j hj) hkn) hk
theorem nmS_gN {T : List Nat} {p m : Nat} (h : nmS T p = some m) : gN T p m := by
  unfold nmS at h
  split at h
  · rename_i hc
    injection h with h
    subst h
    exact nL_gN hc.1 hc.2
  · cases h
theorem tgS_ok {T : List Nat} {p : Nat} {y : mTg} (h : tgS T p = some y) : tc T p = 60 ∧ gN T (p + 1) y.1 ∧ (∀ a ∈ y.2.1, gA T a) ∧ SL T y.2.1 y.2.2.1 ∧ y.2.1.length ≤ 4 ∧ p + 2 < y.2.2.2.1 ∧ y.2.2.2.1 ≤ T.length ∧ nmS T (p + 1) = some y.1 := by
  unfold tgS at h
  split at h
  · rename_i hc
    cases hm : nmS T (p + 1) with
    | none => rw [hm] at h; cases h
    | some m =>
      rw [hm] at h
      have gn := nmS_gN hm
      dsimp only at h
      cases hy : atS T 5 m [] [] with
      | none => rw [hy] at h; cases h
      | some z =>
        rw [hy] at h
        dsimp only at h
        obtain ⟨r1, r2, r3, r4, r5⟩ := atS_ok 5 m [] [] (as' := z.1) (L' := z.2.1) (q := z.2.2) hy (fun a ha => by cases ha) (SL_nil T) (by decide) gn.2.2.1
        have g1 := gn.1
        unfold tgE at h
        split at h
        · rename_i hq
          injection h with h
          subst h
          have := tc_is hq.2 (by omega)
          exact ⟨hc, gn, r1, r2, r3, by show p + 2 < z.2.2 + 2; omega, by show z.2.2 + 2 ≤ _; omega, rfl⟩
        · split at h
          · rename_i hq
            injection h with h
            subst h
            have := tc_is hq (by omega)
            exact ⟨hc, gn, r1, r2, r3, by show p + 2 < z.2.2 + 1; omega, by show z.2.2 + 1 ≤ _; omega, rfl⟩
          · cases h
  · cases h
theorem enS_ok {T : List Nat} {p : Nat} {y : Nat × Nat} (h : enS T p = some y) : nmS T (p + 2) = some y.1 ∧ y.2 = y.1 + nS T y.1 + 1 ∧ p + 3 < y.2 ∧ y.2 ≤ T.length := by
  unfold enS at h
  cases hm : nmS T (p + 2) with
  | none => rw [hm] at h; cases h
  | some m =>
    rw [hm] at h
    dsimp only at h
    split at h
    · rename_i hc
      injection h with h
      subst h
      have := tc_is hc (by omega)
      have := (nmS_gN hm).1
      exact ⟨rfl, rfl, by show p + 3 < m + nS T m + 1; omega, by show m + nS T m + 1 ≤ _; omega⟩
    · cases h
theorem cmS_ok {T : List Nat} {p q : Nat} (h : cmS T p = some q) : p + 6 < q ∧ q ≤ T.length := by
  unfold cmS at h
  split at h
  · rename_i hc
    injection h with h
    have := tc_is hc (by omega)
    omega
  · cases h
theorem tnS_gS {T : List Nat} {n : Nat} {E : Nat → mEl} {o : Option Nat} {d p : Nat} {s : mPS} (h : tnS T n E o d p = some s) (g : ∀ i, i < n → gE T i (E i)) (ho : ∀ k, o = some k → k < n ∧ eBs (E k) ≤ p) (hd : dep E d o) (hb : ∀ k, k < n → eBs (E k) ≤ p) : gS T s ∧ p < s.2.2.2.2 := by
  unfold tnS at h
  split at h
  · rename_i hc
    cases hy : tgS T p with
    | none => rw [hy] at h; cases h
    | some y =>
      rw [hy] at h
      injection h with h
      obtain ⟨y1, y2, y3, y4, y5, y6, y7, y8⟩ := tgS_ok hy
      subst h
      have hg' : ∀ i, i < n + 1 → gE T i (fu E n (o, p, y.1, y.2.2.2.1, y.2.2.2.1, y.2.2.2.1, y.2.2.2.2, y.2.1, y.2.2.1) i) := by
        intro i hi
        by_cases hz : i = n
        · subst hz
          rw [fu_s]
          exact ⟨y2, y3, y4, y5, fun j hj => (ho j hj).1, by show p < y.2.2.2.1; omega, Nat.le_refl _, Nat.le_refl _, y7⟩
        · rw [fu_n hz]
          exact g i (by omega)
      have hd' : dep (fu E n (o, p, y.1, y.2.2.2.1, y.2.2.2.1, y.2.2.2.1, y.2.2.2.2, y.2.1, y.2.2.1)) d o := dep_ext g (fun i hi => by rw [fu_n (by omega)]) d o (fun k hk => (ho k hk).1) hd
      have hbs : ∀ k, k < n + 1 → eBs (fu E n (o, p, y.1, y.2.2.2.1, y.2.2.2.1, y.2.2.2.1, y.2.2.2.2, y.2.1, y.2.2.1) k) ≤ y.2.2.2.1 := by
        intro k hk
        by_cases hz : k = n
        · subst hz
          rw [fu_s]
          exact Nat.le_refl _
        · rw [fu_n hz]
          have := hb k (by omega)
          omega
      refine ⟨⟨by show n + 1 ≤ 20; omega, hg', ?_, ?_, ?_, y7, hbs⟩, by show p < y.2.2.2.1; omega⟩
      · intro k hk
        have hk : (bif y.2.2.2.2 then o else some n) = some k := hk
        have : k < n + 1 := by
          cases hsg : y.2.2.2.2 with
          | true =>
            rw [hsg] at hk
            have := (ho k hk).1
            omega
          | false =>
            rw [hsg] at hk
            injection hk with hk
            omega
        exact ⟨this, hbs k this⟩
      · show dep _ (bif y.2.2.2.2 then d else d + 1) (bif y.2.2.2.2 then o else some n)
        cases y.2.2.2.2 with
        | true => exact hd'
        | false =>
          refine ⟨n, rfl, ?_⟩
          have e : ePar (fu E n (o, p, y.1, y.2.2.2.1, y.2.2.2.1, y.2.2.2.1, y.2.2.2.2, y.2.1, y.2.2.1) n) = o := by
            rw [fu_s]
            rfl
          show dep (fu E n (o, p, y.1, y.2.2.2.1, y.2.2.2.1, y.2.2.2.1, y.2.2.2.2, y.2.1, y.2.2.1)) d (ePar (fu E n (o, p, y.1, y.2.2.2.1, y.2.2.2.1, y.2.2.2.1, y.2.2.2.2, y.2.1, y.2.2.1) n))
          rw [e]
          exact hd'
      · show (bif y.2.2.2.2 then d else d + 1) ≤ 6
        cases y.2.2.2.2 with
        | true => show d ≤ 6; omega
        | false => show d + 1 ≤ 6; omega
  · cases h
theorem clS_gS {T : List Nat} {n : Nat} {E : Nat → mEl} {k d p : Nat} {s : mPS} (h : clS T n E k d p = some s) (g : gS T (n, E, some k, d, p)) : gS T s ∧ p < s.2.2.2.2 := by
  obtain ⟨g1, g2, g3, g4, g5, g6, g7⟩ := g
  dsimp only at g1 g2 g3 g4 g5 g6 g7
  unfold clS at h
  cases hy : enS T p with
  | none => rw [hy] at h; cases h
  | some y =>
    rw [hy] at h
    dsimp only at h
    split at h
    · injection h with h
      subst h
      obtain ⟨y1, y2, y3, y4⟩ := enS_ok hy
      have hk := (g3 k rfl).1
      have hk2 := (g3 k rfl).2
      cases d with
      | zero => cases g4
      | succ d =>
        obtain ⟨k', e, hd⟩ := g4
        injection e with e
        subst e
        have hE : ∀ i, ePar (fu E k (clE (E k) p y.2) i) = ePar (E i) := fun i => by
          by_cases hz : i = k
          · subst hz
            rw [fu_s]
            rfl
          · rw [fu_n hz]
        have hB : ∀ i, eBs (fu E k (clE (E k) p y.2) i) = eBs (E i) := fun i => by
          by_cases hz : i = k
          · subst hz
            rw [fu_s]
            rfl
          · rw [fu_n hz]
        refine ⟨⟨g1, fun i hi => ?_, fun j hj => ?_, ?_, by show d ≤ 6; omega, y4, fun j hj => ?_⟩, by show p < y.2; omega⟩
        · show gE T i (fu E k (clE (E k) p y.2) i)
          by_cases hz : i = k
          · subst hz
            rw [fu_s]
            obtain ⟨q1, q2, q3, q4, q5, q6, q7, q8, q9⟩ := g2 i hi
            exact ⟨q1, q2, q3, q4, q5, q6, hk2, by show p ≤ y.2; omega, y4⟩
          · rw [fu_n hz]
            exact g2 i hi
        · have hj : ePar (E k) = some j := hj
          have := (g2 k hk).2.2.2.2.1 j hj
          have h7 := g7 j (by omega)
          refine ⟨by show j < n; omega, ?_⟩
          show eBs (fu E k (clE (E k) p y.2) j) ≤ y.2
          rw [hB]
          omega
        · show dep (fu E k (clE (E k) p y.2)) d (ePar (E k))
          exact dep_ext g2 (fun i _ => hE i) d _ (fun j hj => Nat.lt_trans ((g2 k hk).2.2.2.2.1 j hj) hk) hd
        · show eBs (fu E k (clE (E k) p y.2) j) ≤ y.2
          rw [hB]
          have := g7 j hj
          omega
    · cases h
theorem stp_gS {T : List Nat} {n : Nat} {E : Nat → mEl} {k d p : Nat} {s : mPS} (h : stp T n E k d p = some s) (g : gS T (n, E, some k, d, p)) : gS T s ∧ p < s.2.2.2.2 := by
  have g0 := g
  obtain ⟨g1, g2, g3, g4, g5, g6, g7⟩ := g
  dsimp only at g1 g2 g3 g4 g5 g6 g7
  unfold stp at h
  split at h
  · split at h
    · cases hq : cmS T p with
      | none => rw [hq] at h; cases h
      | some q =>
        rw [hq] at h
        injection h with h
        subst h
        have := cmS_ok hq
        exact ⟨⟨g1, g2, fun j hj => ⟨(g3 j hj).1, by have := (g3 j hj).2; show eBs (E j) ≤ q; omega⟩, g4, g5, this.2, fun j hj => by have := g7 j hj; show eBs (E j) ≤ q; omega⟩, by show p < q; omega⟩
    · split at h
      · exact clS_gS h g0
      · exact tnS_gS h g2 (fun j hj => g3 j hj) g4 g7
  · split at h
    · injection h with h
      subst h
      exact ⟨⟨g1, g2, fun j hj => ⟨(g3 j hj).1, by have := (g3 j hj).2; show eBs (E j) ≤ p + 1; omega⟩, g4, g5, by show p + 1 ≤ _; omega, fun j hj => by have := g7 j hj; show eBs (E j) ≤ p + 1; omega⟩, by show p < p + 1; omega⟩
    · cases h
