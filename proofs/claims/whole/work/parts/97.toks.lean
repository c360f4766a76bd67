/-! A text made of tags and characters is read -/
def atP (T : List Nat) (p : Nat) (s : List Nat) : Prop := p ≤ T.length ∧ T.drop p = s
theorem at_cons {T : List Nat} {p c : Nat} {s : List Nat} (h : atP T p (c :: s)) : tc T p = c ∧ p < T.length ∧ atP T (p + 1) s := by
  have hp : p < T.length := by
    rcases Nat.lt_or_ge p T.length with z | z
    · exact z
    · have := h.2
      rw [List.drop_eq_nil_of_le z] at this
      cases this
  have e := h.2
  rw [List.drop_eq_getElem_cons hp] at e
  injection e with e1 e2
  refine ⟨?_, hp, hp, e2⟩
  unfold tc
  rw [List.getD_eq_getElem?_getD, List.getElem?_eq_getElem hp]
  exact e1
theorem at_app {T : List Nat} : ∀ {w : List Nat} {p : Nat} {s : List Nat}, atP T p (w ++ s) → seg T p (p + w.length) = w ∧ atP T (p + w.length) s := by
  intro w
  induction w with
  | nil => exact fun {p s} h => ⟨seg_nil (Nat.le_refl _), h⟩
  | cons a w ih =>
    intro p s h
    obtain ⟨h1, h2, h3⟩ := at_cons (c := a) (s := w ++ s) h
    obtain ⟨i1, i2⟩ := ih h3
    have e : p + (a :: w).length = p + 1 + w.length := by
      show p + (w.length + 1) = _
      omega
    rw [e]
    refine ⟨?_, i2⟩
    rw [seg_cons (by omega) i2.1, h1, i1]
theorem rn_at {T : List Nat} {f : Nat → Bool} {g : Nat → Bool} (hf : ∀ q, f q = g (tc T q)) : ∀ {w : List Nat} {p c : Nat} {s : List Nat}, atP T p (w ++ c :: s) → (∀ x ∈ w, g x = true) → g c = false → rn f T.length p = w.length := by
  intro w
  induction w with
  | nil =>
    intro p c s h _ hc
    obtain ⟨h1, -⟩ := at_cons (c := c) (s := s) h
    exact rn_f fun z => by
      rw [hf, h1, hc] at z
      cases z.2
  | cons a w ih =>
    intro p c s h hw hc
    obtain ⟨h1, h2, h3⟩ := at_cons (c := a) (s := w ++ c :: s) h
    rw [rn_t h2 (by rw [hf, h1]; exact hw a (List.mem_cons_self ..)), ih h3 (fun x hx => hw x (List.mem_cons_of_mem _ hx)) hc]
    rfl
def okNm (l : List Nat) : Prop := 1 ≤ l.length ∧ l.length ≤ 6 ∧ ∀ c ∈ l, isL c = true
theorem nL_at {T : List Nat} {w : List Nat} {p c : Nat} {s : List Nat} (h : atP T p (w ++ c :: s)) (hw : ∀ x ∈ w, isL x = true) (hc : isL c = false) : nL T p = w.length := rn_at (g := isL) (fun _ => rfl) h hw hc
theorem nV_at {T : List Nat} {w : List Nat} {p : Nat} {s : List Nat} (h : atP T p (w ++ 34 :: s)) (hw : ∀ x ∈ w, x ≠ 34 ∧ x ≠ 60) : nV T p = w.length := rn_at (g := fun x => !(decide (x = 34) || decide (x = 60))) (fun _ => rfl) h (fun x hx => by
  rw [decide_eq_false (hw x hx).1, decide_eq_false (hw x hx).2]
  rfl) rfl
abbrev tok : Type := Nat × List Nat × List (List Nat × List Nat)
def tkA (a : List Nat × List Nat) : List Nat := 32 :: (a.1 ++ 61 :: 34 :: (a.2 ++ [34]))
def tkT (t : tok) : List Nat := match t.1 with
  | 0 => t.2.1
  | 1 => 60 :: (t.2.1 ++ (t.2.2.flatMap tkA ++ [62]))
  | 2 => 60 :: (t.2.1 ++ (t.2.2.flatMap tkA ++ [47, 62]))
  | _ => 60 :: 47 :: (t.2.1 ++ [62])
theorem tk_0 {t : tok} (h : t.1 = 0) : tkT t = t.2.1 := by
  obtain ⟨k, nm, A⟩ := t
  have h : k = 0 := h
  subst h
  rfl
theorem tk_1 {t : tok} (h : t.1 = 1) : tkT t = 60 :: (t.2.1 ++ (t.2.2.flatMap tkA ++ [62])) := by
  obtain ⟨k, nm, A⟩ := t
  have h : k = 1 := h
  subst h
  rfl
theorem tk_2 {t : tok} (h : t.1 = 2) : tkT t = 60 :: (t.2.1 ++ (t.2.2.flatMap tkA ++ [47, 62])) := by
  obtain ⟨k, nm, A⟩ := t
  have h : k = 2 := h
  subst h
  rfl
theorem tk_3 {t : tok} (h0 : ¬ t.1 = 0) (h1 : ¬ t.1 = 1) (h2 : ¬ t.1 = 2) : tkT t = 60 :: 47 :: (t.2.1 ++ [62]) := by
  obtain ⟨k, nm, A⟩ := t
  match k, h0, h1, h2 with
  | 0, h0, _, _ => exact absurd rfl h0
  | 1, _, h1, _ => exact absurd rfl h1
  | 2, _, _, h2 => exact absurd rfl h2
  | j + 3, _, _, _ => rfl
def okAt (a : List Nat × List Nat) : Prop := okNm a.1 ∧ ∀ c ∈ a.2, c ≠ 34 ∧ c ≠ 60 ∧ c ≠ 38
def okTok (t : tok) : Prop := (t.1 = 0 → ∀ c ∈ t.2.1, c ≠ 60 ∧ c ≠ 38) ∧ (t.1 ≠ 0 → okNm t.2.1) ∧ t.2.2.length ≤ 4 ∧ (∀ a ∈ t.2.2, okAt a) ∧ t.2.2.Pairwise (fun a b => pkp 6 a.1 ≠ pkp 6 b.1)
theorem isL_n {c : Nat} (h : c = 32 ∨ c = 61 ∨ c = 62 ∨ c = 47) : isL c = false := by
  rcases h with h | h | h | h <;> rw [h] <;> rfl
theorem nS_0 {T : List Nat} {p c : Nat} {s : List Nat} (h : atP T p (c :: s)) (hc : c ≠ 32) : nS T p = 0 := by
  rw [nS_32, (at_cons h).1]
  exact hc
theorem attr_at {T : List Nat} {p : Nat} {a : List Nat × List Nat} {s : List Nat} (h : atP T p (tkA a ++ s)) (ha : okAt a) : ¬ (nS T p = 0 ∨ nL T (p + nS T p) = 0) ∧ ∃ x : mAt, vlS T (p + nS T p) = some x ∧ kA T x = pkp 6 a.1 ∧ x.2.2 + 1 = p + (tkA a).length ∧ atP T (x.2.2 + 1) s := by
  have e0 : tkA a ++ s = 32 :: (a.1 ++ 61 :: 34 :: (a.2 ++ 34 :: s)) := by
    unfold tkA
    simp only [List.cons_append, List.append_assoc, List.nil_append]
  rw [e0] at h
  obtain ⟨h1, h2, h3⟩ := at_cons h
  obtain ⟨⟨n1, n2, n3⟩, hv⟩ := ha
  obtain ⟨c0, nm', enm⟩ : ∃ c0 nm', a.1 = c0 :: nm' := by
    cases hh : a.1 with
    | nil => rw [hh] at n1; exact absurd n1 (by decide)
    | cons c0 nm' => exact ⟨c0, nm', rfl⟩
  have hc0 : isL c0 = true := n3 c0 (by rw [enm]; exact List.mem_cons_self ..)
  have nS1 : nS T p = 1 := by
    have hs : atP T (p + 1) (c0 :: (nm' ++ 61 :: 34 :: (a.2 ++ 34 :: s))) := by
      rw [enm] at h3
      exact h3
    have : nS T (p + 1) = 0 := nS_0 hs fun z => by
      rw [z] at hc0
      cases hc0
    have e : nS T p = nS T (p + 1) + 1 := rn_t h2 (decide_eq_true h1)
    rw [e, this]
  have nL1 : nL T (p + 1) = a.1.length := nL_at h3 n3 (isL_n (by omega))
  obtain ⟨sg, h4⟩ := at_app h3
  obtain ⟨h5, -, h6⟩ := at_cons h4
  obtain ⟨h7, -, h8⟩ := at_cons h6
  have nV1 := nV_at h8 (fun x hx => ⟨(hv x hx).1, (hv x hx).2.1⟩)
  obtain ⟨-, h9⟩ := at_app h8
  obtain ⟨h10, -, h11⟩ := at_cons h9
  rw [nS1]
  refine ⟨fun z => ?_, (p + 1, p + 1 + a.1.length, p + 1 + a.1.length + 2 + a.2.length), ?_, ?_, ?_, ?_⟩
  · rcases z with z | z
    · cases z
    · rw [nL1] at z
      omega
  · unfold vlS
    have e2 : p + 1 + a.1.length + 1 + 1 = p + 1 + a.1.length + 2 := rfl
    rw [e2] at nV1 h10
    rw [nL1, nV1, if_pos ⟨n2, h5, h7, h10⟩]
  · show pkp 6 (seg T (p + 1) (p + 1 + a.1.length)) = _
    rw [sg]
  · show p + 1 + a.1.length + 2 + a.2.length + 1 = _
    unfold tkA
    simp only [List.length_cons, List.length_append, List.length_nil]
    omega
  · exact h11
theorem atS_at {T : List Nat} {c : Nat} {s : List Nat} (hc : c = 62 ∨ c = 47) : ∀ (A : List (List Nat × List Nat)) (p k : Nat) (as L : List mAt), atP T p (A.flatMap tkA ++ c :: s) → (∀ a ∈ A, okAt a) → A.Pairwise (fun a b => pkp 6 a.1 ≠ pkp 6 b.1) → (∀ b ∈ as, ∀ a ∈ A, kA T b ≠ pkp 6 a.1) → as.length + A.length ≤ 4 → A.length < k → ∃ as' L', atS T k p as L = some (as', L', p + (A.flatMap tkA).length) ∧ atP T (p + (A.flatMap tkA).length) (c :: s) := by
  intro A
  induction A with
  | nil =>
    intro p k as L h _ _ _ _ hk
    cases k with
    | zero => exact absurd hk (Nat.lt_irrefl _)
    | succ k =>
      have h : atP T p (c :: s) := h
      have n0 : nS T p = 0 := nS_0 h (by omega)
      refine ⟨as, L, ?_, h⟩
      rw [atS_end (Or.inl n0), n0]
      rfl
  | cons a A ih =>
    intro p k as L h hA hP hN hl hk
    cases k with
    | zero => exact absurd hk (Nat.not_lt_zero _)
    | succ k =>
      have h' : atP T p (tkA a ++ (A.flatMap tkA ++ c :: s)) := by
        rw [List.flatMap_cons, List.append_assoc] at h
        exact h
      obtain ⟨g1, x, g2, g3, g4, g5⟩ := attr_at h' (hA a (List.mem_cons_self ..))
      have hl' : as.length + (A.length + 1) ≤ 4 := hl
      have hk' : A.length + 1 < k + 1 := hk
      rw [List.pairwise_cons] at hP
      obtain ⟨as', L', r1, r2⟩ := ih (x.2.2 + 1) k (as ++ [x]) (insA T x L) g5 (fun b hb => hA b (List.mem_cons_of_mem _ hb)) hP.2 (fun b hb b' hb' => by
        rcases List.mem_append.mp hb with z | z
        · exact hN b z b' (List.mem_cons_of_mem _ hb')
        · rw [List.mem_singleton.mp z, g3]
          exact hP.1 b' hb') (by rw [List.length_append]; show as.length + 1 + A.length ≤ 4; omega) (by omega)
      have e : p + ((a :: A).flatMap tkA).length = x.2.2 + 1 + (A.flatMap tkA).length := by
        rw [List.flatMap_cons, List.length_append, g4]
        omega
      rw [e]
      refine ⟨as', L', ?_, r2⟩
      rw [atS_some g1 g2, if_pos ⟨by omega, fun b hb => by rw [g3]; exact hN b hb a (List.mem_cons_self ..)⟩]
      exact r1
theorem tag_at {T : List Nat} {p : Nat} {nm : List Nat} {A : List (List Nat × List Nat)} {s : List Nat} {sg : Bool} (h : atP T p (60 :: (nm ++ (A.flatMap tkA ++ ((bif sg then [47, 62] else [62]) ++ s))))) (hn : okNm nm) (hA : ∀ a ∈ A, okAt a) (hP : A.Pairwise (fun a b => pkp 6 a.1 ≠ pkp 6 b.1)) (h4 : A.length ≤ 4) : ∃ as L q, tgS T p = some (p + 1 + nm.length, as, L, q, sg) ∧ atP T q s ∧ q = p + 1 + nm.length + (A.flatMap tkA).length + (bif sg then 2 else 1) ∧ seg T (p + 1) (p + 1 + nm.length) = nm := by
  obtain ⟨h1, h2, h3⟩ := at_cons h
  obtain ⟨e1, e2⟩ := at_app h3
  -- the character behind the name
  obtain ⟨c, s', ec, hc⟩ : ∃ c s', A.flatMap tkA ++ ((bif sg then [47, 62] else [62]) ++ s) = c :: s' ∧ isL c = false := by
    cases A with
    | nil =>
      cases sg with
      | true => exact ⟨47, 62 :: s, rfl, rfl⟩
      | false => exact ⟨62, s, rfl, rfl⟩
    | cons a A =>
      refine ⟨32, (a.1 ++ 61 :: 34 :: (a.2 ++ [34])) ++ A.flatMap tkA ++ ((bif sg then [47, 62] else [62]) ++ s), ?_, rfl⟩
      rw [List.flatMap_cons]
      rfl
  have hnm : nmS T (p + 1) = some (p + 1 + nm.length) := by
    rw [ec] at h3
    have := nL_at h3 hn.2.2 hc
    unfold nmS
    rw [this, if_pos ⟨hn.1, hn.2.1⟩]
  have key : ∃ as L, atS T 5 (p + 1 + nm.length) [] [] = some (as, L, p + 1 + nm.length + (A.flatMap tkA).length) ∧ atP T (p + 1 + nm.length + (A.flatMap tkA).length) ((bif sg then [47, 62] else [62]) ++ s) := by
    cases sg with
    | true =>
      obtain ⟨as, L, r1, r2⟩ := atS_at (T := T) (c := 47) (s := 62 :: s) (Or.inr rfl) A (p + 1 + nm.length) 5 [] [] e2 hA hP (fun b hb => by cases hb) (by show 0 + A.length ≤ 4; omega) (by omega)
      exact ⟨as, L, r1, r2⟩
    | false =>
      obtain ⟨as, L, r1, r2⟩ := atS_at (T := T) (c := 62) (s := s) (Or.inl rfl) A (p + 1 + nm.length) 5 [] [] e2 hA hP (fun b hb => by cases hb) (by show 0 + A.length ≤ 4; omega) (by omega)
      exact ⟨as, L, r1, r2⟩
  obtain ⟨as, L, r1, r2⟩ := key
  have tg : tgS T p = tgE T (p + 1 + nm.length) (as, L, p + 1 + nm.length + (A.flatMap tkA).length) := by
    unfold tgS
    rw [if_pos h1, hnm]
    dsimp only
    rw [r1]
  cases sg with
  | true =>
    obtain ⟨g1, -, g2⟩ := at_cons (c := 47) (s := 62 :: s) r2
    obtain ⟨g3, -, g4⟩ := at_cons (c := 62) (s := s) g2
    refine ⟨as, L, _, ?_, g4, rfl, e1⟩
    rw [tg]
    unfold tgE
    rw [if_pos ⟨g1, g3⟩]
  | false =>
    obtain ⟨g1, -, g2⟩ := at_cons (c := 62) (s := s) r2
    refine ⟨as, L, _, ?_, g2, rfl, e1⟩
    rw [tg]
    unfold tgE
    have g1' : tc T (p + 1 + nm.length + (A.flatMap tkA).length) = 62 := g1
    rw [if_neg (by show ¬ (tc T (p + 1 + nm.length + (A.flatMap tkA).length) = 47 ∧ _); rw [g1']; intro z; exact absurd z.1 (by decide)), if_pos g1]
theorem end_at {T : List Nat} {p : Nat} {nm s : List Nat} (h : atP T p (60 :: 47 :: (nm ++ 62 :: s))) (hn : okNm nm) : tc T p = 60 ∧ tc T (p + 1) = 47 ∧ enS T p = some (p + 2 + nm.length, p + 2 + nm.length + 1) ∧ seg T (p + 2) (p + 2 + nm.length) = nm ∧ atP T (p + 2 + nm.length + 1) s := by
  obtain ⟨h1, -, h2⟩ := at_cons h
  obtain ⟨h3, -, h4⟩ := at_cons h2
  have h4 : atP T (p + 2) (nm ++ 62 :: s) := h4
  obtain ⟨h5, h6⟩ := at_app h4
  obtain ⟨h7, -, h8⟩ := at_cons h6
  have n1 := nL_at h4 hn.2.2 (isL_n (by omega))
  have n2 : nS T (p + 2 + nm.length) = 0 := nS_0 h6 (by omega)
  refine ⟨h1, h3, ?_, h5, h8⟩
  have hnm : nmS T (p + 2) = some (p + 2 + nm.length) := by
    unfold nmS
    rw [n1, if_pos ⟨hn.1, hn.2.1⟩]
  unfold enS
  rw [hnm]
  dsimp only
  rw [n2, Nat.add_zero, if_pos h7]
/-! the run -/
def rto (T : List Nat) (s s' : mPS) : Prop := ∀ f, T.length < f + s.2.2.2.2 → ∃ f', T.length < f' + s'.2.2.2.2 ∧ runS T f s = runS T f' s'
theorem rto.rfl' {T : List Nat} {s : mPS} : rto T s s := fun f h => ⟨f, h, rfl⟩
theorem rto.tr {T : List Nat} {s s1 s2 : mPS} (a : rto T s s1) (b : rto T s1 s2) : rto T s s2 := fun f h => by
  obtain ⟨f1, h1, e1⟩ := a f h
  obtain ⟨f2, h2, e2⟩ := b f1 h1
  exact ⟨f2, h2, e1.trans e2⟩
theorem rto_st {T : List Nat} {n k d p : Nat} {E : Nat → mEl} {s1 : mPS} (h : stp T n E k d p = some s1) (hp : p < T.length) (hq : p < s1.2.2.2.2) : rto T (n, E, some k, d, p) s1 := fun f hf => by
  cases f with
  | zero =>
    have hf : T.length < 0 + p := hf
    omega
  | succ f =>
    have hf : T.length < f + 1 + p := hf
    refine ⟨f, by omega, ?_⟩
    show (stp T n E k d p).bind (runS T f) = _
    rw [h]
    rfl
def stkP (T : List Nat) (n : Nat) (E : Nat → mEl) : Option Nat → List (List Nat) → Prop
  | o, [] => o = none
  | o, nm :: st => ∃ k, o = some k ∧ k < n ∧ seg T (eBg (E k) + 1) (eNe (E k)) = nm ∧ stkP T n E (ePar (E k)) st
theorem stkP_ext {T : List Nat} {n n' : Nat} {E E' : Nat → mEl} (hn : n ≤ n') (he : ∀ i, i < n → ePar (E' i) = ePar (E i) ∧ eBg (E' i) = eBg (E i) ∧ eNe (E' i) = eNe (E i)) : ∀ (st : List (List Nat)) (o : Option Nat), stkP T n E o st → stkP T n' E' o st := by
  intro st
  induction st with
  | nil => exact fun o h => h
  | cons nm st ih =>
    intro o h
    obtain ⟨k, h1, h2, h3, h4⟩ := h
    obtain ⟨e1, e2, e3⟩ := he k h2
    refine ⟨k, h1, by omega, ?_, ?_⟩
    · rw [e2, e3]
      exact h3
    · rw [e1]
      exact ih _ h4
def chk : List tok → Nat → List (List Nat) → Option Nat
  | [], n, st => if st = [] then some n else none
  | t :: ts, n, st => match st with
    | [] => none
    | nm :: st' => if t.1 = 0 then chk ts n (nm :: st') else if t.1 = 1 then (if n < 20 ∧ st'.length + 1 < 6 then chk ts (n + 1) (t.2.1 :: nm :: st') else none) else if t.1 = 2 then (if n < 20 ∧ st'.length + 1 < 6 then chk ts (n + 1) (nm :: st') else none) else if t.2.1 = nm then chk ts n st' else none
theorem chars_at {T : List Nat} {n k d : Nat} {E : Nat → mEl} : ∀ (w : List Nat) {p : Nat} {s : List Nat}, atP T p (w ++ s) → (∀ c ∈ w, c ≠ 60) → rto T (n, E, some k, d, p) (n, E, some k, d, p + w.length) := by
  intro w
  induction w with
  | nil => exact fun _ _ => rto.rfl'
  | cons a w ih =>
    intro p s h hw
    obtain ⟨h1, h2, h3⟩ := at_cons (c := a) (s := w ++ s) h
    have st : stp T n E k d p = some (n, E, some k, d, p + 1) := by
      unfold stp
      rw [if_neg (by rw [h1]; exact hw a (List.mem_cons_self ..)), if_pos h2]
    have := (rto_st st h2 (Nat.lt_succ_self p)).tr (ih h3 fun c hc => hw c (List.mem_cons_of_mem _ hc))
    rw [show p + (a :: w).length = p + 1 + w.length by show p + (w.length + 1) = _; omega]
    exact this
theorem run_at {T : List Nat} {N : Nat} : ∀ (ts : List tok) (n : Nat) (E : Nat → mEl) (o : Option Nat) (d p : Nat) (st : List (List Nat)), chk ts n st = some N → (∀ t ∈ ts, okTok t) → atP T p (ts.flatMap tkT) → stkP T n E o st → d = st.length → ∃ E', rto T (n, E, o, d, p) (N, E', none, 0, T.length) := by
  intro ts
  induction ts with
  | nil =>
    intro n E o d p st hc _ h hs hd
    have hc : (if st = [] then some n else none) = some N := hc
    split at hc
    · rename_i hz
      subst hz
      injection hc with hc
      subst hc
      have ho : o = none := hs
      have hp : p = T.length := by
        have h2 : T.drop p = [] := h.2
        have := congrArg List.length h2
        rw [List.length_drop] at this
        have := h.1
        have h3 : ([] : List Nat).length = 0 := rfl
        omega
      subst ho hp hd
      exact ⟨E, rto.rfl'⟩
    · cases hc
  | cons t ts ih =>
    intro n E o d p st hc hok h hs hd
    cases st with
    | nil => cases hc
    | cons nm st' =>
      obtain ⟨k, rfl, hk, hnm, hs'⟩ := hs
      have hc : (if t.1 = 0 then chk ts n (nm :: st') else if t.1 = 1 then (if n < 20 ∧ st'.length + 1 < 6 then chk ts (n + 1) (t.2.1 :: nm :: st') else none) else if t.1 = 2 then (if n < 20 ∧ st'.length + 1 < 6 then chk ts (n + 1) (nm :: st') else none) else if t.2.1 = nm then chk ts n st' else none) = some N := hc
      obtain ⟨t1, t2, t3, t4, t5⟩ := hok t (List.mem_cons_self ..)
      have hok' : ∀ t ∈ ts, okTok t := fun x hx => hok x (List.mem_cons_of_mem _ hx)
      have h' : atP T p (tkT t ++ ts.flatMap tkT) := by
        rw [List.flatMap_cons] at h
        exact h
      have hd' : d = st'.length + 1 := hd
      by_cases k0 : t.1 = 0
      · rw [if_pos k0] at hc
        have e := tk_0 k0
        rw [e] at h'
        obtain ⟨-, h2⟩ := at_app h'
        obtain ⟨E', r⟩ := ih n E (some k) d (p + t.2.1.length) (nm :: st') hc hok' h2 ⟨k, rfl, hk, hnm, hs'⟩ hd
        exact ⟨E', (chars_at t.2.1 h' fun c hc => (t1 k0 c hc).1).tr r⟩
      · rw [if_neg k0] at hc
        have hn := t2 k0
        by_cases k1 : t.1 = 1
        · rw [if_pos k1] at hc
          split at hc
          · rename_i hb
            have e := tk_1 k1
            have h'' : atP T p (60 :: (t.2.1 ++ (t.2.2.flatMap tkA ++ ((bif false then [47, 62] else [62]) ++ ts.flatMap tkT)))) := by
              rw [e] at h'
              simp only [List.cons_append, List.append_assoc] at h'
              exact h'
            obtain ⟨as, L, q, g1, g2, g3, g4⟩ := tag_at h'' hn t4 t5 t3
            obtain ⟨c1, c2, -⟩ := at_cons h''
            have tl := tg_letter g1
            have st1 : stp T n E k d p = some (nwS n E (some k) d p (p + 1 + t.2.1.length, as, L, q, false)) := by
              unfold stp
              rw [if_pos c1, if_neg tl.1, if_neg tl.2]
              unfold tnS
              rw [if_pos ⟨hb.1, by omega⟩, g1]
              rfl
            obtain ⟨E', r⟩ := ih (n + 1) (fu E n (some k, p, p + 1 + t.2.1.length, q, q, q, false, as, L)) (some n) (d + 1) q (t.2.1 :: nm :: st') hc hok' g2 ⟨n, rfl, by omega, by rw [fu_s]; exact g4, by
              rw [fu_s]
              exact stkP_ext (n := n) (by omega) (fun i hi => by rw [fu_n (by omega)]; exact ⟨rfl, rfl, rfl⟩) (nm :: st') (some k) ⟨k, rfl, hk, hnm, hs'⟩⟩ (by show d + 1 = st'.length + 1 + 1; omega)
            exact ⟨E', (rto_st st1 c2 (by show p < q; rw [g3, cond_false]; omega)).tr r⟩
          · cases hc
        · rw [if_neg k1] at hc
          by_cases k2 : t.1 = 2
          · rw [if_pos k2] at hc
            split at hc
            · rename_i hb
              have e := tk_2 k2
              have h'' : atP T p (60 :: (t.2.1 ++ (t.2.2.flatMap tkA ++ ((bif true then [47, 62] else [62]) ++ ts.flatMap tkT)))) := by
                rw [e] at h'
                simp only [List.cons_append, List.append_assoc] at h'
                exact h'
              obtain ⟨as, L, q, g1, g2, g3, g4⟩ := tag_at h'' hn t4 t5 t3
              obtain ⟨c1, c2, -⟩ := at_cons h''
              have tl := tg_letter g1
              have st1 : stp T n E k d p = some (nwS n E (some k) d p (p + 1 + t.2.1.length, as, L, q, true)) := by
                unfold stp
                rw [if_pos c1, if_neg tl.1, if_neg tl.2]
                unfold tnS
                rw [if_pos ⟨hb.1, by omega⟩, g1]
                rfl
              obtain ⟨E', r⟩ := ih (n + 1) (fu E n (some k, p, p + 1 + t.2.1.length, q, q, q, true, as, L)) (some k) d q (nm :: st') hc hok' g2 (stkP_ext (n := n) (by omega) (fun i hi => by rw [fu_n (by omega)]; exact ⟨rfl, rfl, rfl⟩) (nm :: st') (some k) ⟨k, rfl, hk, hnm, hs'⟩) hd
              exact ⟨E', (rto_st st1 c2 (by show p < q; rw [g3, cond_true]; omega)).tr r⟩
            · cases hc
          · rw [if_neg k2] at hc
            split at hc
            · rename_i hb
              have e := tk_3 k0 k1 k2
              have h'' : atP T p (60 :: 47 :: (t.2.1 ++ 62 :: ts.flatMap tkT)) := by
                rw [e] at h'
                simp only [List.cons_append, List.append_assoc, List.nil_append] at h'
                exact h'
              obtain ⟨g1, g2, g3, g4, g5⟩ := end_at h'' hn
              obtain ⟨-, c2, -⟩ := at_cons h''
              have st1 : stp T n E k d p = some (n, fu E k (clE (E k) p (p + 2 + t.2.1.length + 1)), ePar (E k), d - 1, p + 2 + t.2.1.length + 1) := by
                unfold stp
                rw [if_pos g1, if_neg (by rw [g2]; decide), if_pos g2]
                unfold clS
                rw [g3]
                dsimp only
                rw [g4, hnm, if_pos hb]
              obtain ⟨E', r⟩ := ih n (fu E k (clE (E k) p (p + 2 + t.2.1.length + 1))) (ePar (E k)) (d - 1) (p + 2 + t.2.1.length + 1) st' hc hok' g5 (stkP_ext (n := n) (Nat.le_refl _) (fun i hi => by
                by_cases z : i = k
                · rw [z, fu_s]
                  exact ⟨rfl, rfl, rfl⟩
                · rw [fu_n z]
                  exact ⟨rfl, rfl, rfl⟩) st' (ePar (E k)) hs') (by omega)
              exact ⟨E', (rto_st st1 c2 (by show p < p + 2 + t.2.1.length + 1; omega)).tr r⟩
            · cases hc
def chk0 (ts : List tok) : Option Nat := match ts with
  | [] => none
  | t :: ts => if t.1 = 1 then chk ts 1 [t.2.1] else none
theorem rd_at {ts : List tok} {N : Nat} {T : List Nat} (hT : T = ts.flatMap tkT) (hl : T.length ≤ 400) (hc : chk0 ts = some N) (hok : ∀ t ∈ ts, okTok t) : ∃ E, rdS T = some (N, E) := by
  cases ts with
  | nil => cases hc
  | cons t ts =>
    have hc : (if t.1 = 1 then chk ts 1 [t.2.1] else none) = some N := hc
    split at hc
    · rename_i k1
      obtain ⟨t1, t2, t3, t4, t5⟩ := hok t (List.mem_cons_self ..)
      have hn := t2 (by omega)
      have e := tk_1 k1
      have h'' : atP T 0 (60 :: (t.2.1 ++ (t.2.2.flatMap tkA ++ ((bif false then [47, 62] else [62]) ++ ts.flatMap tkT)))) := by
        refine ⟨Nat.zero_le _, ?_⟩
        rw [List.drop_zero, hT, List.flatMap_cons, e]
        simp only [List.cons_append, List.append_assoc]
        rfl
      obtain ⟨as, L, q, g1, g2, g3, g4⟩ := tag_at h'' hn t4 t5 t3
      have tn : tnS T 0 E0 none 0 0 = some (1, fu E0 0 (none, 0, 0 + 1 + t.2.1.length, q, q, q, false, as, L), some 0, 1, q) := by
        unfold tnS
        rw [if_pos ⟨by omega, by omega⟩, g1]
        rfl
      obtain ⟨E', r⟩ := run_at ts 1 (fu E0 0 (none, 0, 0 + 1 + t.2.1.length, q, q, q, false, as, L)) (some 0) 1 q [t.2.1] hc (fun x hx => hok x (List.mem_cons_of_mem _ hx)) g2 ⟨0, rfl, by omega, by rw [fu_s]; exact g4, by rw [fu_s]; rfl⟩ rfl
      obtain ⟨f', r1, r2⟩ := r 400 (by show T.length < 400 + q; rw [g3, cond_false]; omega)
      refine ⟨E', ?_⟩
      rw [rdS_eq tn, r2]
      cases f' with
      | zero =>
        have r1 : T.length < 0 + T.length := r1
        omega
      | succ f' =>
        show reS T (some (N, E', none, 0, T.length)) = _
        show (if T.length = T.length then some (N, E') else none) = _
        rw [if_pos rfl]
    · cases hc
/-! nothing banned -/
def nb : List Nat → Bool
  | [] => true
  | c :: s => !(decide (c = 38)) && (!(decide (c = 60) && (decide (s.getD 0 0 = 63) || decide (s.getD 0 0 = 33))) && nb s)
theorem nb_at {T : List Nat} : ∀ (k p : Nat) (s : List Nat), p + k = T.length → atP T p s → nb s = true → bnR T k p = false := by
  intro k
  induction k with
  | zero => exact fun _ _ _ _ _ => rfl
  | succ k ih =>
    intro p s hp h hb
    cases s with
    | nil =>
      have h2 : T.drop p = [] := h.2
      have := congrArg List.length h2
      rw [List.length_drop] at this
      have h3 : ([] : List Nat).length = 0 := rfl
      omega
    | cons c s =>
      obtain ⟨h1, h2, h3⟩ := at_cons h
      have hb : (!(decide (c = 38)) && (!(decide (c = 60) && (decide (s.getD 0 0 = 63) || decide (s.getD 0 0 = 33))) && nb s)) = true := hb
      rw [Bool.and_eq_true, Bool.and_eq_true] at hb
      obtain ⟨b1, b2, b3⟩ := hb
      have en : tc T (p + 1) = s.getD 0 0 := by
        cases s with
        | nil =>
          have : p + 1 = T.length := by
            have h4 : T.drop (p + 1) = [] := h3.2
            have := congrArg List.length h4
            rw [List.length_drop] at this
            have h5 : ([] : List Nat).length = 0 := rfl
            omega
          exact tc_out (by omega)
        | cons a s => exact (at_cons h3).1
      show (bd T p || bnR T k (p + 1)) = false
      rw [ih (p + 1) s (by omega) h3 b3, Bool.or_false]
      unfold bd
      rw [h1, en]
      have d1 : decide (c = 38) = false := by
        cases hh : decide (c = 38) with
        | false => rfl
        | true => rw [hh] at b1; cases b1
      rw [d1, Bool.false_or]
      cases h6 : decide (c = 60) with
      | false => rfl
      | true =>
        rw [h6, Bool.true_and] at b2
        cases h7 : decide (s.getD 0 0 = 63) with
        | true => rw [h7] at b2; cases b2
        | false =>
          cases h8 : decide (s.getD 0 0 = 33) with
          | true => rw [h7, h8] at b2; cases b2
          | false => rfl
theorem nb_app {s : List Nat} : ∀ (w : List Nat), (∀ c ∈ w, c ≠ 60 ∧ c ≠ 38) → nb s = true → nb (w ++ s) = true := by
  intro w
  induction w with
  | nil => exact fun _ h => h
  | cons a w ih =>
    intro hw h
    have ha := hw a (List.mem_cons_self ..)
    show (!(decide (a = 38)) && (!(decide (a = 60) && _) && nb (w ++ s))) = true
    rw [decide_eq_false ha.1, decide_eq_false ha.2, ih (fun c hc => hw c (List.mem_cons_of_mem _ hc)) h]
    rfl
theorem nb_60 {c : Nat} {s : List Nat} (hc : c ≠ 63 ∧ c ≠ 33) (h : nb (c :: s) = true) : nb (60 :: c :: s) = true := by
  show (!(decide (60 = 38)) && (!(decide (60 = 60) && (decide (c = 63) || decide (c = 33))) && nb (c :: s))) = true
  rw [decide_eq_false hc.1, decide_eq_false hc.2, h]
  rfl
theorem okNm_nb {l : List Nat} (h : okNm l) : ∀ c ∈ l, c ≠ 60 ∧ c ≠ 38 := fun c hc => by
  have := isL_iff.mp (h.2.2 c hc)
  omega
theorem nb_A {s : List Nat} : ∀ (A : List (List Nat × List Nat)), (∀ a ∈ A, okAt a) → nb s = true → nb (A.flatMap tkA ++ s) = true := by
  intro A
  induction A with
  | nil => exact fun _ h => h
  | cons a A ih =>
    intro hA h
    rw [List.flatMap_cons, List.append_assoc]
    obtain ⟨a1, a2⟩ := hA a (List.mem_cons_self ..)
    refine nb_app (tkA a) (fun c hc => ?_) (ih (fun b hb => hA b (List.mem_cons_of_mem _ hb)) h)
    unfold tkA at hc
    rcases List.mem_cons.mp hc with z | z
    · omega
    · rcases List.mem_append.mp z with z | z
      · exact okNm_nb a1 c z
      · rcases List.mem_cons.mp z with z | z
        · omega
        · rcases List.mem_cons.mp z with z | z
          · omega
          · rcases List.mem_append.mp z with z | z
            · exact ⟨(a2 c z).2.1, (a2 c z).2.2⟩
            · have := List.mem_singleton.mp z
              omega
theorem nb_nm {l s : List Nat} (h : okNm l) (hs : nb s = true) : nb (60 :: (l ++ s)) = true := by
  have h2 := nb_app l (okNm_nb h) hs
  cases l with
  | nil => exact absurd h.1 (by decide)
  | cons c l =>
    have hc := isL_iff.mp (h.2.2 c (List.mem_cons_self ..))
    exact nb_60 (by omega) h2
theorem nb_tk {t : tok} {s : List Nat} (h : okTok t) (hs : nb s = true) : nb (tkT t ++ s) = true := by
  obtain ⟨t1, t2, t3, t4, t5⟩ := h
  by_cases k0 : t.1 = 0
  · have e := tk_0 k0
    rw [e]
    exact nb_app _ (t1 k0) hs
  · have hn := t2 k0
    by_cases k1 : t.1 = 1
    · have e := tk_1 k1
      rw [e]
      simp only [List.cons_append, List.append_assoc, List.nil_append]
      exact nb_nm hn (nb_A _ t4 (nb_app [62] (by decide) hs))
    · by_cases k2 : t.1 = 2
      · have e := tk_2 k2
        rw [e]
        simp only [List.cons_append, List.append_assoc, List.nil_append]
        exact nb_nm hn (nb_A _ t4 (nb_app [47, 62] (by decide) hs))
      · have e := tk_3 k0 k1 k2
        rw [e]
        simp only [List.cons_append, List.append_assoc, List.nil_append]
        exact nb_60 (by decide) (nb_app (47 :: t.2.1) (fun c hc => by
          rcases List.mem_cons.mp hc with z | z
          · omega
          · exact okNm_nb hn c z) (nb_app [62] (by decide) hs))
theorem nb_ts : ∀ (ts : List tok), (∀ t ∈ ts, okTok t) → nb (ts.flatMap tkT) = true := by
  intro ts
  induction ts with
  | nil => exact fun _ => rfl
  | cons t ts ih =>
    intro h
    rw [List.flatMap_cons]
    exact nb_tk (h t (List.mem_cons_self ..)) (ih fun x hx => h x (List.mem_cons_of_mem _ hx))
theorem bn_at {ts : List tok} {T : List Nat} (hT : T = ts.flatMap tkT) (hok : ∀ t ∈ ts, okTok t) : bnS T = false := nb_at T.length 0 T (by omega) ⟨Nat.zero_le _, List.drop_zero ..⟩ (by rw [hT]; exact nb_ts ts hok)
