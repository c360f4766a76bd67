/-! What a text that has been read keeps: the places that the reader stood at -/
def nx (T : List Nat) (p : Nat) : Option Nat := if tc T p = 60 then (if tc T (p + 1) = 33 then cmS T p else if tc T (p + 1) = 47 then (enS T p).map (fun y => y.2) else (tgS T p).map (fun t => t.2.2.2.1)) else if p < T.length then some (p + 1) else none
theorem nx_lt {T : List Nat} {p q : Nat} (h : nx T p = some q) : p < q := by
  unfold nx at h
  split at h
  · split at h
    · have := cmS_ok h
      omega
    · split at h
      · cases he : enS T p with
        | none => rw [he] at h; cases h
        | some y =>
          rw [he] at h
          injection h with h
          have h : y.2 = q := h
          have := enS_ok he
          omega
      · cases he : tgS T p with
        | none => rw [he] at h; cases h
        | some y =>
          rw [he] at h
          injection h with h
          have h : y.2.2.2.1 = q := h
          have := (tgS_ok he).2.2.2.2.2.1
          omega
  · split at h
    · injection h with h
      omega
    · cases h
def itr (T : List Nat) : Nat → Option Nat
  | 0 => some 0
  | i + 1 => (itr T i).bind (nx T)
def vis (T : List Nat) (p : Nat) : Prop := ∃ i, itr T i = some p
theorem vis_0 (T : List Nat) : vis T 0 := ⟨0, rfl⟩
theorem vis_nx {T : List Nat} {p q : Nat} (h : vis T p) (hn : nx T p = some q) : vis T q := by
  obtain ⟨i, hi⟩ := h
  refine ⟨i + 1, ?_⟩
  show (itr T i).bind (nx T) = some q
  rw [hi]
  exact hn
theorem itr_le {T : List Nat} : ∀ (k i p q : Nat), itr T i = some p → itr T (i + k) = some q → p ≤ q := by
  intro k
  induction k with
  | zero =>
    intro i p q h1 h2
    rw [Nat.add_zero, h1] at h2
    injection h2 with h2
    omega
  | succ k ih =>
    intro i p q h1 h2
    have h2 : (itr T (i + k)).bind (nx T) = some q := h2
    cases hm : itr T (i + k) with
    | none => rw [hm] at h2; cases h2
    | some m =>
      rw [hm] at h2
      have h3 := ih i p m h1 hm
      have h4 := nx_lt (show nx T m = some q from h2)
      omega
theorem vis_next {T : List Nat} {q p : Nat} (hq : vis T q) (hp : vis T p) (h : q < p) : ∃ q', nx T q = some q' ∧ q' ≤ p := by
  obtain ⟨i, hi⟩ := hq
  obtain ⟨j, hj⟩ := hp
  rcases Nat.lt_or_ge i j with z | z
  · obtain ⟨k, rfl⟩ : ∃ k, j = i + 1 + k := ⟨j - (i + 1), by omega⟩
    cases hn : nx T q with
    | none =>
      have h1 : itr T (i + 1) = none := by
        show (itr T i).bind (nx T) = none
        rw [hi]
        exact hn
      have : ∀ k, itr T (i + 1 + k) = none := by
        intro k
        induction k with
        | zero => exact h1
        | succ k ih =>
          show (itr T (i + 1 + k)).bind (nx T) = none
          rw [ih]
          rfl
      rw [this k] at hj
      cases hj
    | some q' =>
      refine ⟨q', rfl, ?_⟩
      refine itr_le k (i + 1) q' p ?_ hj
      show (itr T i).bind (nx T) = some q'
      rw [hi]
      exact hn
  · obtain ⟨k, rfl⟩ : ∃ k, i = j + k := ⟨i - j, by omega⟩
    have := itr_le k j p q hj hi
    omega
/-- the open elements -/
def chn (E : Nat → mEl) : Nat → Option Nat → Nat → Prop
  | 0, _, _ => False
  | d + 1, o, i => ∃ k, o = some k ∧ (i = k ∨ chn E d (ePar (E k)) i)
theorem chn_par {E : Nat → mEl} : ∀ (d : Nat) (o : Option Nat) (i j : Nat), dep E d o → chn E d o j → ePar (E j) = some i → chn E d o i := by
  intro d
  induction d with
  | zero => intro o i j _ h; exact h.elim
  | succ d ih =>
    intro o i j hd hc hp
    obtain ⟨k, rfl, hk⟩ := hd
    obtain ⟨k', e, hj⟩ := hc
    injection e with e
    subst e
    refine ⟨k, rfl, Or.inr ?_⟩
    rcases hj with rfl | hj
    · rw [hp] at hk ⊢
      cases d with
      | zero => cases hk
      | succ d => exact ⟨i, rfl, Or.inl rfl⟩
    · exact ih _ i j hk hj hp
theorem chn_ext {T : List Nat} {n : Nat} {E E' : Nat → mEl} (hg : ∀ i, i < n → gE T i (E i)) (hp : ∀ i, i < n → ePar (E' i) = ePar (E i)) : ∀ (d : Nat) (o : Option Nat) (i : Nat), (∀ k, o = some k → k < n) → (chn E d o i ↔ chn E' d o i) := by
  intro d
  induction d with
  | zero => intro o i _; exact Iff.rfl
  | succ d ih =>
    intro o i ho
    constructor
    · rintro ⟨k, rfl, h⟩
      have hk := ho k rfl
      refine ⟨k, rfl, h.imp id (fun h => ?_)⟩
      rw [hp k hk]
      exact (ih _ i (fun j hj => Nat.lt_trans ((hg k hk).2.2.2.2.1 j hj) hk)).mp h
    · rintro ⟨k, rfl, h⟩
      have hk := ho k rfl
      refine ⟨k, rfl, h.imp id (fun h => ?_)⟩
      rw [hp k hk] at h
      exact (ih _ i (fun j hj => Nat.lt_trans ((hg k hk).2.2.2.2.1 j hj) hk)).mpr h
theorem chn_le {T : List Nat} {n : Nat} {E : Nat → mEl} (hg : ∀ i, i < n → gE T i (E i)) : ∀ (d : Nat) (o : Option Nat) (i : Nat), (∀ k, o = some k → k < n) → chn E d o i → ∃ k, o = some k ∧ i ≤ k := by
  intro d
  induction d with
  | zero => intro o i _ h; exact h.elim
  | succ d ih =>
    rintro o i ho ⟨k, rfl, h⟩
    have hk := ho k rfl
    refine ⟨k, rfl, ?_⟩
    rcases h with rfl | h
    · exact Nat.le_refl _
    · obtain ⟨k', e, h'⟩ := ih _ i (fun j hj => Nat.lt_trans ((hg k hk).2.2.2.2.1 j hj) hk) h
      have := (hg k hk).2.2.2.2.1 k' e
      omega
def tgO (T : List Nat) (e : mEl) : Prop := tgS T (eBg e) = some (eNe e, eAs e, eL e, eBs e, eSg e)
def cls (T : List Nat) (e : mEl) : Prop := eSg e = false ∧ vis T (eBe e) ∧ tc T (eBe e) = 60 ∧ tc T (eBe e + 1) = 47 ∧ (∃ m, enS T (eBe e) = some (m, eOv e) ∧ seg T (eBe e + 2) m = seg T (eBg e + 1) (eNe e)) ∧ eBs e ≤ eBe e ∧ eBe e < eOv e
def gVe (T : List Nat) (E : Nat → mEl) (o : Option Nat) (d p i : Nat) : Prop := vis T (eBg (E i)) ∧ tgO T (E i) ∧ eOv (E i) ≤ p ∧ (eBs (E i) < eOv (E i) → cls T (E i)) ∧ (¬ eBs (E i) < eOv (E i) → eBe (E i) = eBs (E i) ∧ eOv (E i) = eBs (E i)) ∧ (eSg (E i) = false → ¬ eBs (E i) < eOv (E i) → chn E d o i)
def gV (T : List Nat) (n : Nat) (E : Nat → mEl) (o : Option Nat) (d p : Nat) : Prop :=
  vis T p ∧ (∀ i, i < n → gVe T E o d p i) ∧ (∀ i j, i < j → j < n → eBs (E i) ≤ eBg (E j)) ∧ (∀ q, vis T q → q < p → tc T q = 60 → tc T (q + 1) ≠ 33 → tc T (q + 1) ≠ 47 → ∃ i, i < n ∧ eBg (E i) = q) ∧ (∀ q, vis T q → q < p → tc T q = 60 → tc T (q + 1) = 47 → ∃ i, i < n ∧ eBs (E i) < eOv (E i) ∧ eBe (E i) = q) ∧ (∀ i, chn E d o i → i < n ∧ ¬ eBs (E i) < eOv (E i) ∧ eSg (E i) = false) ∧ (∀ i j, i < n → j < n → ePar (E j) = some i → eSg (E i) = false ∧ (eBs (E i) < eOv (E i) → eOv (E j) ≤ eBe (E i))) ∧ ∀ i j, i < n → j < n → eBs (E i) < eOv (E i) → eBs (E j) < eOv (E j) → eBe (E i) = eBe (E j) → i = j
theorem tg_letter {T : List Nat} {p : Nat} {t : mTg} (h : tgS T p = some t) : tc T (p + 1) ≠ 33 ∧ tc T (p + 1) ≠ 47 := by
  have hg := (tgS_ok h).2.1
  have := isL_iff.mp (hg.2.2.2 (p + 1) (Nat.le_refl _) hg.1)
  omega
theorem nx_tg {T : List Nat} {p : Nat} {t : mTg} (h : tgS T p = some t) : nx T p = some t.2.2.2.1 := by
  have h1 := tg_letter h
  unfold nx
  rw [if_pos (tgS_ok h).1, if_neg h1.1, if_neg h1.2, h]
  rfl
/-- places before the next one -/
theorem vis_old {T : List Nat} {p p' q : Nat} (hp : vis T p) (hn : nx T p = some p') (hq : vis T q) (h : q < p') : q < p ∨ q = p := by
  rcases Nat.lt_trichotomy q p with z | z | z
  · exact Or.inl z
  · exact Or.inr z
  · obtain ⟨q', h1, h2⟩ := vis_next hp hq z
    rw [hn] at h1
    injection h1 with h1
    omega
theorem tn_gV {T : List Nat} {n : Nat} {E : Nat → mEl} {o : Option Nat} {d p : Nat} {s : mPS} (h : tnS T n E o d p = some s) (g : gS T (n, E, o, d, p)) (v : gV T n E o d p) : gV T s.1 s.2.1 s.2.2.1 s.2.2.2.1 s.2.2.2.2 := by
  unfold tnS at h
  split at h
  · cases hy : tgS T p with
    | none => rw [hy] at h; cases h
    | some y =>
      rw [hy] at h
      injection h with h
      subst h
      obtain ⟨g1, g2, g3, g4, g5, g6, g7⟩ := g
      dsimp only at g1 g2 g3 g4 g5 g6 g7
      obtain ⟨v1, v2, v3, v4, v5, v6, v7, v8⟩ := v
      obtain ⟨m, as, L, q, sg⟩ := y
      have hnx := nx_tg hy
      dsimp only at hnx
      obtain ⟨y1, y2, y3, y4, y5, y6, y7, y8⟩ := tgS_ok hy
      dsimp only at y6 y7
      have hlt := tg_letter hy
      show gV T (n + 1) (fu E n (o, p, m, q, q, q, sg, as, L)) (bif sg then o else some n) (bif sg then d else d + 1) q
      have hE : ∀ i, i < n → fu E n (o, p, m, q, q, q, sg, as, L) i = E i := fun i hi => fu_n (by omega)
      have hN : fu E n (o, p, m, q, q, q, sg, as, L) n = (o, p, m, q, q, q, sg, as, L) := fu_s
      generalize hE' : fu E n (o, p, m, q, q, q, sg, as, L) = E' at hE hN
      have hext : ∀ i, chn E d o i ↔ chn E' d o i := fun i => chn_ext g2 (fun i hi => by rw [hE i hi]) d o i (fun k hk => (g3 k hk).1)
      have hch : ∀ i, chn E' (bif sg then d else d + 1) (bif sg then o else some n) i → (i = n ∧ sg = false) ∨ chn E d o i := by
        intro i hi
        cases hsg : sg with
        | true =>
          rw [hsg] at hi
          exact Or.inr ((hext i).mpr hi)
        | false =>
          rw [hsg] at hi
          obtain ⟨k, e, hi⟩ := hi
          injection e with e
          subst e
          rcases hi with rfl | hi
          · exact Or.inl ⟨rfl, rfl⟩
          · rw [hN] at hi
            exact Or.inr ((hext i).mpr hi)
      have hch2 : ∀ i, chn E d o i → chn E' (bif sg then d else d + 1) (bif sg then o else some n) i := by
        intro i hi
        cases hsg : sg with
        | true => exact (hext i).mp hi
        | false =>
          refine ⟨n, rfl, Or.inr ?_⟩
          rw [hN]
          exact (hext i).mp hi
      refine ⟨vis_nx v1 hnx, fun i hi => ?_, fun i j hij hj => ?_, fun r hr hrq h60 h33 h47 => ?_, fun r hr hrq h60 h47 => ?_, fun i hi => ?_, fun i j hi hj hp => ?_, fun i j hi hj hci hcj he => ?_⟩
      · by_cases hz : i = n
        · subst hz
          unfold gVe
          rw [hN]
          refine ⟨v1, hy, Nat.le_refl q, fun z => absurd z (Nat.lt_irrefl q), fun _ => ⟨rfl, rfl⟩, fun z _ => ?_⟩
          have z : sg = false := z
          rw [z]
          exact ⟨i, rfl, Or.inl rfl⟩
        · obtain ⟨a1, a2, a3, a4, a5, a6⟩ := v2 i (by omega)
          unfold gVe
          rw [hE i (by omega)]
          exact ⟨a1, a2, by omega, a4, a5, fun z1 z2 => hch2 i (a6 z1 z2)⟩
      · rw [hE i (by omega)]
        by_cases hz : j = n
        · subst hz
          rw [hN]
          exact g7 i hij
        · rw [hE j (by omega)]
          exact v3 i j hij (by omega)
      · rcases vis_old v1 hnx hr hrq with z | z
        · obtain ⟨i, hi, he⟩ := v4 r hr z h60 h33 h47
          exact ⟨i, by omega, by rw [hE i hi]; exact he⟩
        · exact ⟨n, by omega, by rw [hN]; exact z.symm⟩
      · rcases vis_old v1 hnx hr hrq with z | z
        · obtain ⟨i, hi, he⟩ := v5 r hr z h60 h47
          exact ⟨i, by omega, by rw [hE i hi]; exact he⟩
        · rw [z] at h47
          exact absurd h47 hlt.2
      · rcases hch i hi with ⟨rfl, z⟩ | z
        · rw [hN]
          exact ⟨by omega, Nat.lt_irrefl q, z⟩
        · obtain ⟨a1, a2⟩ := v6 i z
          rw [hE i a1]
          exact ⟨by omega, a2⟩
      · by_cases hz : j = n
        · subst hz
          rw [hN] at hp
          have hp : o = some i := hp
          have hin := (g3 i hp).1
          have hci : chn E d o i := by
            subst hp
            cases d with
            | zero => cases g4
            | succ d => exact ⟨i, rfl, Or.inl rfl⟩
          obtain ⟨-, a2, a3⟩ := v6 i hci
          rw [hE i hin]
          exact ⟨a3, fun z => absurd z a2⟩
        · have hjn : j < n := by omega
          rw [hE j hjn] at hp ⊢
          have := (g2 j hjn).2.2.2.2.1 i hp
          rw [hE i (by omega)]
          exact v7 i j (by omega) hjn hp
      · by_cases hz : i = n
        · subst hz
          rw [hN] at hci
          exact absurd hci (Nat.lt_irrefl q)
        · by_cases hy : j = n
          · subst hy
            rw [hN] at hcj
            exact absurd hcj (Nat.lt_irrefl q)
          · rw [hE i (by omega)] at hci he
            rw [hE j (by omega)] at hcj he
            exact v8 i j (by omega) (by omega) hci hcj he
  · cases h
theorem cl_gV {T : List Nat} {n : Nat} {E : Nat → mEl} {k d p : Nat} {s : mPS} (h60 : tc T p = 60) (h47 : tc T (p + 1) = 47) (h : clS T n E k d p = some s) (g : gS T (n, E, some k, d, p)) (v : gV T n E (some k) d p) : gV T s.1 s.2.1 s.2.2.1 s.2.2.2.1 s.2.2.2.2 := by
  unfold clS at h
  cases hy : enS T p with
  | none => rw [hy] at h; cases h
  | some y =>
    rw [hy] at h
    dsimp only at h
    split at h
    · rename_i hseg
      injection h with h
      subst h
      obtain ⟨m, q⟩ := y
      obtain ⟨g1, g2, g3, g4, g5, g6, g7⟩ := g
      dsimp only at g1 g2 g3 g4 g5 g6 g7 hseg
      obtain ⟨v1, v2, v3, v4, v5, v6, v7, v8⟩ := v
      obtain ⟨y1, y2, y3, y4⟩ := enS_ok hy
      dsimp only at y3 y4
      have hk := (g3 k rfl).1
      have hk2 := (g3 k rfl).2
      have hnx : nx T p = some q := by
        unfold nx
        rw [if_pos h60, if_neg (by omega), if_pos h47, hy]
        rfl
      cases d with
      | zero => cases g4
      | succ d =>
        show gV T n (fu E k (clE (E k) p q)) (ePar (E k)) d q
        have hE : ∀ i, i ≠ k → fu E k (clE (E k) p q) i = E i := fun i hi => fu_n hi
        have hK : fu E k (clE (E k) p q) k = clE (E k) p q := fu_s
        generalize hE' : fu E k (clE (E k) p q) = E' at hE hK
        have hpar : ∀ i, ePar (E' i) = ePar (E i) := fun i => by
          by_cases hz : i = k
          · rw [hz, hK]
            rfl
          · rw [hE i hz]
        have hBs : ∀ i, eBs (E' i) = eBs (E i) := fun i => by
          by_cases hz : i = k
          · rw [hz, hK]
            rfl
          · rw [hE i hz]
        have hBg : ∀ i, eBg (E' i) = eBg (E i) := fun i => by
          by_cases hz : i = k
          · rw [hz, hK]
            rfl
          · rw [hE i hz]
        have hok : ∀ j, ePar (E k) = some j → j < n := fun j hj => Nat.lt_trans ((g2 k hk).2.2.2.2.1 j hj) hk
        have hext : ∀ i, chn E d (ePar (E k)) i ↔ chn E' d (ePar (E k)) i := fun i => chn_ext g2 (fun i _ => hpar i) d _ i hok
        have hkc : chn E (d + 1) (some k) k := ⟨k, rfl, Or.inl rfl⟩
        obtain ⟨-, k2, k3⟩ := v6 k hkc
        obtain ⟨e1, e2⟩ := (v2 k hk).2.2.2.2.1 k2
        have hlt : ∀ i, chn E d (ePar (E k)) i → i < k := fun i hi => by
          obtain ⟨k', e, h'⟩ := chn_le g2 d _ i hok hi
          have := (g2 k hk).2.2.2.2.1 k' e
          omega
        have hdk : dep E (d + 1) (some k) := g4
        have kcl : eBs (E' k) < eOv (E' k) := by
          rw [hK]
          show eBs (E k) < q
          omega
        refine ⟨vis_nx v1 hnx, fun i hi => ?_, fun i j hij hj => ?_, fun r hr hrq r60 r33 r47 => ?_, fun r hr hrq r60 r47 => ?_, fun i hi => ?_, fun i j hi hj hp => ?_, fun i j hi hj hci hcj he => ?_⟩
        · obtain ⟨a1, a2, a3, a4, a5, a6⟩ := v2 i hi
          by_cases hz : i = k
          · subst hz
            unfold gVe
            rw [hK]
            refine ⟨a1, a2, Nat.le_refl q, fun _ => ⟨k3, v1, h60, h47, ⟨m, hy, hseg⟩, hk2, ?_⟩, fun z => absurd ?_ z, fun _ z => absurd ?_ z⟩
            · show p < q
              omega
            · show eBs (E i) < q
              omega
            · show eBs (E i) < q
              omega
          · unfold gVe
            rw [hE i hz]
            refine ⟨a1, a2, by omega, a4, a5, fun z1 z2 => ?_⟩
            obtain ⟨k', e, hc⟩ := a6 z1 z2
            injection e with e
            subst e
            rcases hc with hc | hc
            · exact absurd hc hz
            · exact (hext i).mp hc
        · rw [hBs, hBg]
          exact v3 i j hij hj
        · rcases vis_old v1 hnx hr hrq with z | z
          · obtain ⟨i, hi, he⟩ := v4 r hr z r60 r33 r47
            exact ⟨i, hi, by rw [hBg]; exact he⟩
          · rw [z] at r47
            exact absurd h47 r47
        · rcases vis_old v1 hnx hr hrq with z | z
          · obtain ⟨i, hi, he1, he2⟩ := v5 r hr z r60 r47
            have hik : i ≠ k := fun z => by subst z; exact absurd he1 k2
            exact ⟨i, hi, by rw [hE i hik]; exact ⟨he1, he2⟩⟩
          · refine ⟨k, hk, kcl, ?_⟩
            rw [hK]
            exact z.symm
        · have hi' := (hext i).mpr hi
          have hik := hlt i hi'
          have := v6 i ⟨k, rfl, Or.inr hi'⟩
          rw [hE i (by omega)]
          exact this
        · rw [hpar] at hp
          have hij := (g2 j hj).2.2.2.2.1 i hp
          obtain ⟨b1, b2⟩ := v7 i j hi hj hp
          by_cases hz : i = k
          · subst hz
            rw [hE j (by omega), hK]
            refine ⟨k3, fun _ => ?_⟩
            exact (v2 j hj).2.2.1
          · rw [hE i hz]
            refine ⟨b1, fun hc => ?_⟩
            by_cases hy : j = k
            · subst hy
              have := chn_par (d + 1) (some j) i j hdk hkc hp
              exact absurd hc (v6 i this).2.1
            · rw [hE j hy]
              exact b2 hc
        · have hbe : ∀ i, i < n → i ≠ k → eBs (E' i) < eOv (E' i) → eBe (E' i) = p → False := fun i hi hz hc he => by
            rw [hE i hz] at hc he
            have := ((v2 i hi).2.2.2.1 hc).2.2.2.2.2.2
            have := (v2 i hi).2.2.1
            omega
          have hkb : eBe (E' k) = p := by
            rw [hK]
            rfl
          by_cases hz : i = k
          · by_cases hy : j = k
            · omega
            · exact (hbe j hj hy hcj (by rw [← he, hz]; exact hkb)).elim
          · by_cases hy : j = k
            · exact (hbe i hi hz hci (by rw [he, hy]; exact hkb)).elim
            · rw [hE i hz] at hci he
              rw [hE j hy] at hcj he
              exact v8 i j hi hj hci hcj he
    · cases h
theorem mv_gV {T : List Nat} {n : Nat} {E : Nat → mEl} {o : Option Nat} {d p q : Nat} (hn : nx T p = some q) (h : tc T p ≠ 60 ∨ tc T (p + 1) = 33) (v : gV T n E o d p) : gV T n E o d q := by
  obtain ⟨v1, v2, v3, v4, v5, v6, v7, v8⟩ := v
  have hlt := nx_lt hn
  refine ⟨vis_nx v1 hn, fun i hi => ?_, v3, fun r hr hrq r60 r33 r47 => ?_, fun r hr hrq r60 r47 => ?_, v6, v7, v8⟩
  · obtain ⟨a1, a2, a3, a4⟩ := v2 i hi
    exact ⟨a1, a2, by omega, a4⟩
  · rcases vis_old v1 hn hr hrq with z | z
    · exact v4 r hr z r60 r33 r47
    · subst z
      rcases h with h | h
      · exact absurd r60 h
      · exact absurd h r33
  · rcases vis_old v1 hn hr hrq with z | z
    · exact v5 r hr z r60 r47
    · subst z
      rcases h with h | h
      · exact absurd r60 h
      · omega
theorem stp_gV {T : List Nat} {n : Nat} {E : Nat → mEl} {k d p : Nat} {s : mPS} (h : stp T n E k d p = some s) (g : gS T (n, E, some k, d, p)) (v : gV T n E (some k) d p) : gV T s.1 s.2.1 s.2.2.1 s.2.2.2.1 s.2.2.2.2 := by
  unfold stp at h
  split at h
  · rename_i h60
    split at h
    · rename_i h33
      cases hq : cmS T p with
      | none => rw [hq] at h; cases h
      | some q =>
        rw [hq] at h
        injection h with h
        subst h
        refine mv_gV ?_ (Or.inr h33) v
        unfold nx
        rw [if_pos h60, if_pos h33]
        exact hq
    · split at h
      · rename_i h47
        exact cl_gV h60 h47 h g v
      · exact tn_gV h g v
  · rename_i h60
    split at h
    · rename_i hp
      injection h with h
      subst h
      refine mv_gV ?_ (Or.inl h60) v
      unfold nx
      rw [if_neg h60, if_pos hp]
    · cases h
theorem run_gV {T : List Nat} : ∀ (f : Nat) (s s' : mPS), runS T f s = some s' → gS T s → gV T s.1 s.2.1 s.2.2.1 s.2.2.2.1 s.2.2.2.2 → s'.2.2.1 = none ∧ gS T s' ∧ gV T s'.1 s'.2.1 s'.2.2.1 s'.2.2.2.1 s'.2.2.2.2 := by
  intro f
  induction f with
  | zero => intro s s' h; cases h
  | succ f ih =>
    intro s s' h g v
    obtain ⟨n, E, o, d, p⟩ := s
    cases o with
    | none =>
      have h : some (n, E, none, d, p) = some s' := h
      injection h with h
      subst h
      exact ⟨rfl, g, v⟩
    | some k =>
      have h : (stp T n E k d p).bind (runS T f) = some s' := h
      cases hs : stp T n E k d p with
      | none => rw [hs] at h; cases h
      | some t =>
        rw [hs] at h
        exact ih t s' h (stp_gS hs g).1 (stp_gV hs g v)
/-- what holds of a message that has been read -/
def msg (T : List Nat) (n : Nat) (E : Nat → mEl) : Prop := 1 ≤ n ∧ n ≤ 20 ∧ (∀ i, i < n → gE T i (E i)) ∧ ∃ p d, p = T.length ∧ gV T n E none d p ∧ dep E d none
theorem run_n {T : List Nat} : ∀ (f : Nat) (s s' : mPS), runS T f s = some s' → 1 ≤ s.1 → 1 ≤ s'.1 := by
  intro f
  induction f with
  | zero => intro s s' h; cases h
  | succ f ih =>
    intro s s' h hn
    obtain ⟨n, E, o, d, p⟩ := s
    cases o with
    | none =>
      have h : some (n, E, none, d, p) = some s' := h
      injection h with h
      subst h
      exact hn
    | some k =>
      have h : (stp T n E k d p).bind (runS T f) = some s' := h
      cases hs : stp T n E k d p with
      | none => rw [hs] at h; cases h
      | some t =>
        rw [hs] at h
        refine ih t s' h ?_
        have hn : 1 ≤ n := hn
        unfold stp at hs
        split at hs
        · split at hs
          · cases hq : cmS T p with
            | none => rw [hq] at hs; cases hs
            | some q =>
              rw [hq] at hs
              injection hs with hs
              subst hs
              exact hn
          · split at hs
            · unfold clS at hs
              split at hs
              · cases hs
              · split at hs
                · injection hs with hs
                  subst hs
                  exact hn
                · cases hs
            · unfold tnS at hs
              split at hs
              · cases hy : tgS T p with
                | none => rw [hy] at hs; cases hs
                | some y =>
                  rw [hy] at hs
                  injection hs with hs
                  subst hs
                  show 1 ≤ n + 1
                  omega
              · cases hs
        · split at hs
          · injection hs with hs
            subst hs
            exact hn
          · cases hs
theorem rd_msg {T : List Nat} {y : Nat × (Nat → mEl)} (h : rdS T = some y) : msg T y.1 y.2 := by
  cases hs : tnS T 0 E0 none 0 0 with
  | none => rw [rdS_none hs] at h; cases h
  | some s =>
    rw [rdS_eq hs] at h
    cases hr : runS T 400 s with
    | none => rw [hr] at h; cases h
    | some s' =>
      rw [hr] at h
      have g0 : gS T (0, E0, none, 0, 0) := ⟨Nat.zero_le _, fun i hi => absurd hi (Nat.not_lt_zero i), fun k (hk : none = some k) => (by cases hk), rfl, Nat.zero_le _, Nat.zero_le _, fun k hk => absurd hk (Nat.not_lt_zero k)⟩
      have v0 : gV T 0 E0 none 0 0 := ⟨vis_0 T, fun i hi => absurd hi (Nat.not_lt_zero i), fun i j _ hj => absurd hj (Nat.not_lt_zero j), fun q _ hq => absurd hq (Nat.not_lt_zero q), fun q _ hq => absurd hq (Nat.not_lt_zero q), fun i hi => hi.elim, fun i j hi => absurd hi (Nat.not_lt_zero i), fun i j hi => absurd hi (Nat.not_lt_zero i)⟩
      have gs := (tnS_gS hs (fun i hi => absurd hi (Nat.not_lt_zero i)) (fun k hk => by cases hk) rfl (fun k hk => absurd hk (Nat.not_lt_zero k))).1
      have n1 : 1 ≤ s.1 := by
        unfold tnS at hs
        rw [if_pos ⟨by omega, by omega⟩] at hs
        cases hy : tgS T 0 with
        | none => rw [hy] at hs; cases hs
        | some y =>
          rw [hy] at hs
          injection hs with hs
          subst hs
          exact Nat.le_refl _
      obtain ⟨r1, r2, r3⟩ := run_gV 400 s s' hr gs (tn_gV hs g0 v0)
      have hn := run_n 400 s s' hr n1
      have h : (if s'.2.2.2.2 = T.length then some (s'.1, s'.2.1) else none) = some y := h
      split at h
      · rename_i hp
        injection h with h
        subst h
        rw [r1] at r3
        refine ⟨hn, r2.1, r2.2.1, _, _, hp, r3, ?_⟩
        rw [← r1]
        exact r2.2.2.2.1
      · cases h
