/-! Children, words, values, numbers of a message: what is asked of them -/
def cnt (f : Nat → Bool) : Nat → Nat
  | 0 => 0
  | k + 1 => cnt f k + (bif f k then 1 else 0)
def ls (f : Nat → Bool) : Nat → Option Nat
  | 0 => none
  | k + 1 => bif f k then some k else ls f k
def fs (f : Nat → Bool) : Nat → Option Nat
  | 0 => none
  | k + 1 => match fs f k with
    | some c => some c
    | none => bif f k then some k else none
def an (f : Nat → Bool) : Nat → Bool
  | 0 => false
  | k + 1 => an f k || f k
theorem cnt_t {f : Nat → Bool} {k : Nat} (h : f k = true) : cnt f (k + 1) = cnt f k + 1 := by
  show cnt f k + _ = _
  rw [h]
  rfl
theorem cnt_f {f : Nat → Bool} {k : Nat} (h : f k = false) : cnt f (k + 1) = cnt f k := by
  show cnt f k + _ = _
  rw [h]
  rfl
theorem ls_t {f : Nat → Bool} {k : Nat} (h : f k = true) : ls f (k + 1) = some k := by
  show (bif f k then some k else ls f k) = _
  rw [h]
  rfl
theorem ls_f {f : Nat → Bool} {k : Nat} (h : f k = false) : ls f (k + 1) = ls f k := by
  show (bif f k then some k else ls f k) = _
  rw [h]
  rfl
theorem cnt_le (f : Nat → Bool) : ∀ k, cnt f k ≤ k := by
  intro k
  induction k with
  | zero => exact Nat.le_refl _
  | succ k ih =>
    cases h : f k with
    | true => rw [cnt_t h]; omega
    | false => rw [cnt_f h]; omega
theorem cnt0_ls {f : Nat → Bool} : ∀ n, cnt f n = 0 ↔ ls f n = none := by
  intro n
  induction n with
  | zero => exact ⟨fun _ => rfl, fun _ => rfl⟩
  | succ k ih =>
    cases h : f k with
    | true =>
      rw [cnt_t h, ls_t h]
      exact ⟨fun z => by omega, fun z => by cases z⟩
    | false =>
      rw [cnt_f h, ls_f h]
      exact ih
theorem fs_s {f : Nat → Bool} {k c : Nat} (h : fs f k = some c) : fs f (k + 1) = some c := by
  show (match fs f k with
    | some c => some c
    | none => bif f k then some k else none) = _
  rw [h]
theorem fs_n {f : Nat → Bool} {k : Nat} (h : fs f k = none) : fs f (k + 1) = bif f k then some k else none := by
  show (match fs f k with
    | some c => some c
    | none => bif f k then some k else none) = _
  rw [h]
theorem cnt0_fs {f : Nat → Bool} : ∀ n, cnt f n = 0 ↔ fs f n = none := by
  intro n
  induction n with
  | zero => exact ⟨fun _ => rfl, fun _ => rfl⟩
  | succ k ih =>
    cases hf : fs f k with
    | some c =>
      rw [fs_s hf]
      have : cnt f k ≠ 0 := fun z => by
        rw [ih.mp z] at hf
        cases hf
      constructor
      · intro z
        exfalso
        cases h : f k with
        | true => rw [cnt_t h] at z; omega
        | false => rw [cnt_f h] at z; omega
      · exact fun z => by cases z
    | none =>
      rw [fs_n hf]
      cases h : f k with
      | true =>
        rw [cnt_t h]
        exact ⟨fun z => by omega, fun z => by cases z⟩
      | false =>
        rw [cnt_f h]
        exact ⟨fun _ => rfl, fun _ => ih.mpr hf⟩
theorem cnt1 {f : Nat → Bool} : ∀ n, cnt f n = 1 → fs f n = ls f n := by
  intro n
  induction n with
  | zero => exact fun _ => rfl
  | succ k ih =>
    intro z
    cases h : f k with
    | true =>
      rw [cnt_t h] at z
      have z0 : fs f k = none := (cnt0_fs k).mp (by omega)
      rw [fs_n z0, ls_t h, h]
      rfl
    | false =>
      rw [cnt_f h] at z
      rw [ls_f h, ← ih z]
      cases hf : fs f k with
      | some c => exact fs_s hf
      | none => rw [fs_n hf, h]; rfl
theorem ls_ok {f : Nat → Bool} : ∀ {n c : Nat}, ls f n = some c → c < n ∧ f c = true := by
  intro n
  induction n with
  | zero => exact fun h => by cases h
  | succ k ih =>
    intro c h
    cases hk : f k with
    | true =>
      rw [ls_t hk] at h
      injection h with h
      subst h
      exact ⟨by omega, hk⟩
    | false =>
      rw [ls_f hk] at h
      have := ih h
      exact ⟨by omega, this.2⟩
theorem fs_ok {f : Nat → Bool} : ∀ {n c : Nat}, fs f n = some c → c < n ∧ f c = true := by
  intro n
  induction n with
  | zero => exact fun h => by cases h
  | succ k ih =>
    intro c h
    cases hf : fs f k with
    | some x =>
      rw [fs_s hf] at h
      injection h with h
      subst h
      have := ih hf
      exact ⟨by omega, this.2⟩
    | none =>
      rw [fs_n hf] at h
      cases hk : f k with
      | true =>
        rw [hk] at h
        injection h with h
        subst h
        exact ⟨by omega, hk⟩
      | false => rw [hk] at h; cases h
def ch (T : List Nat) (E : Nat → mEl) (e : Nat) (W : List Nat) (c : Nat) : Bool := decide (ePar (E c) = some e) && decide (nmL T (E c) = W)
def ccN (T : List Nat) (n : Nat) (E : Nat → mEl) (o : Option Nat) (W : List Nat) : Nat := match o with
  | none => 0
  | some e => cnt (ch T E e W) n
def ccL (T : List Nat) (n : Nat) (E : Nat → mEl) (o : Option Nat) (W : List Nat) : Option Nat := match o with
  | none => none
  | some e => ls (ch T E e W) n
def one (T : List Nat) (n : Nat) (E : Nat → mEl) (o : Option Nat) (W : List Nat) : Option Nat := if ccN T n E o W = 1 then ccL T n E o W else none
def oE (n : Nat) (o : Option Nat) : Prop := ∀ e, o = some e → e < n
theorem ccL_oE (T : List Nat) (n : Nat) (E : Nat → mEl) (o : Option Nat) (W : List Nat) : oE n (ccL T n E o W) := by
  intro e h
  cases o with
  | none => cases h
  | some k => exact (ls_ok h).1
theorem one_oE (T : List Nat) (n : Nat) (E : Nat → mEl) (o : Option Nat) (W : List Nat) : oE n (one T n E o W) := by
  intro e h
  unfold one at h
  split at h
  · exact ccL_oE T n E o W e h
  · cases h
theorem oE_some {n e : Nat} (h : e < n) : oE n (some e) := fun x hx => by
  injection hx with hx
  subst hx
  exact h
theorem oE_none (n : Nat) : oE n none := fun x hx => by cases hx
def pF (E : Nat → mEl) : Option Nat → Nat
  | none => 0
  | some e => eBs (E e)
def pT' (E : Nat → mEl) : Option Nat → Nat
  | none => 0
  | some e => eBe (E e)
def bdy (T : List Nat) (E : Nat → mEl) (o : Option Nat) : List Nat := seg T (pF E o) (pT' E o)
def wrd (l : List Nat) : Bool := decide (1 ≤ l.length) && decide (l.length ≤ 8) && decide (60 ∉ l)
def ixF (p : mAt → Bool) : List mAt → Option Nat
  | [] => none
  | a :: l => bif p a then some 0 else (ixF p l).map (fun j => j + 1)
def sxo (T : List Nat) (E : Nat → mEl) (o : Option Nat) (W : List Nat) : Option Nat := match o with
  | none => none
  | some e => (ixF (fun a => decide (seg T a.1 a.2.1 = W)) (eL (E e))).map (fun j => 4 * e + j)
def sv (E : Nat → mEl) (s : Nat) : mAt := gtA (eL (E (s / 4))) (s % 4)
def okS (n : Nat) (E : Nat → mEl) (o : Option Nat) : Prop := ∀ s, o = some s → s / 4 < n ∧ s % 4 < (eL (E (s / 4))).length
def vF (E : Nat → mEl) : Option Nat → Nat
  | none => 0
  | some s => (sv E s).2.1 + 2
def vT (E : Nat → mEl) : Option Nat → Nat
  | none => 0
  | some s => (sv E s).2.2
def vlo (T : List Nat) (E : Nat → mEl) (o : Option Nat) : List Nat := seg T (vF E o) (vT E o)
def nv (r : Nat) (l : List Nat) : Nat := l.foldl (fun r c => r * 10 + (c - 48)) r
def dgt (c : Nat) : Bool := decide (48 ≤ c) && decide (c ≤ 57)
def num (l : List Nat) : Option Nat := if 1 ≤ l.length ∧ l.length ≤ 9 ∧ l.all dgt = true then some (nv 0 l) else none
theorem nv_lt : ∀ (l : List Nat) (r k : Nat), r < 10 ^ k → l.all dgt = true → nv r l < 10 ^ (k + l.length) := by
  intro l
  induction l with
  | nil => exact fun r k h _ => h
  | cons a l ih =>
    intro r k h hd
    rw [List.all_cons, Bool.and_eq_true] at hd
    have ha : a ≤ 57 := by
      have := hd.1
      unfold dgt at this
      rw [Bool.and_eq_true] at this
      exact of_decide_eq_true this.2
    have := ih (r * 10 + (a - 48)) (k + 1) (by rw [Nat.pow_succ]; omega) hd.2
    rw [List.length_cons, show k + (l.length + 1) = k + 1 + l.length by omega]
    exact this
theorem num_lt {l : List Nat} {v : Nat} (h : num l = some v) : v < 1000000000 := by
  unfold num at h
  split at h
  · rename_i hc
    injection h with h
    subst h
    have := nv_lt l 0 0 (by decide) hc.2.2
    rw [Nat.zero_add] at this
    exact Nat.lt_of_lt_of_le this (Nat.pow_le_pow_right (n := 10) (by omega) hc.2.1)
  · cases h
theorem ixF_ok {p : mAt → Bool} : ∀ {L : List mAt} {j : Nat}, ixF p L = some j → j < L.length ∧ p (gtA L j) = true := by
  intro L
  induction L with
  | nil => exact fun h => by cases h
  | cons a l ih =>
    intro j h
    have h : (bif p a then some 0 else (ixF p l).map (fun j => j + 1)) = some j := h
    cases hp : p a with
    | true =>
      rw [hp] at h
      injection h with h
      subst h
      exact ⟨Nat.succ_pos _, hp⟩
    | false =>
      rw [hp] at h
      cases hi : ixF p l with
      | none => rw [hi] at h; cases h
      | some k =>
        rw [hi] at h
        injection h with h
        have := ih hi
        subst h
        exact ⟨Nat.succ_lt_succ this.1, this.2⟩
theorem ixF_none {p : mAt → Bool} : ∀ {L : List mAt}, ixF p L = none → ∀ a ∈ L, p a = false := by
  intro L
  induction L with
  | nil => exact fun _ a ha => by cases ha
  | cons a l ih =>
    intro h b hb
    have h : (bif p a then some 0 else (ixF p l).map (fun j => j + 1)) = none := h
    cases hp : p a with
    | true => rw [hp] at h; cases h
    | false =>
      rw [hp] at h
      cases hi : ixF p l with
      | some k => rw [hi] at h; cases h
      | none =>
        rcases List.mem_cons.mp hb with z | z
        · rw [z]
          exact hp
        · exact ih hi b z
theorem sxo_ok {T : List Nat} {n : Nat} {E : Nat → mEl} (g : gM T n E) {o : Option Nat} {W : List Nat} (ho : oE n o) : okS n E (sxo T E o W) ∧ ∀ s, sxo T E o W = some s → seg T (sv E s).1 (sv E s).2.1 = W ∧ o = some (s / 4) := by
  have key : ∀ s, sxo T E o W = some s → (s / 4 < n ∧ s % 4 < (eL (E (s / 4))).length) ∧ seg T (sv E s).1 (sv E s).2.1 = W ∧ o = some (s / 4) := by
    intro s h
    cases o with
    | none => cases h
    | some e =>
      have he := ho e rfl
      have h : (ixF (fun a => decide (seg T a.1 a.2.1 = W)) (eL (E e))).map (fun j => 4 * e + j) = some s := h
      cases hi : ixF (fun a => decide (seg T a.1 a.2.1 = W)) (eL (E e)) with
      | none => rw [hi] at h; cases h
      | some j =>
        rw [hi] at h
        injection h with h
        have h : 4 * e + j = s := h
        obtain ⟨j1, j2⟩ := ixF_ok hi
        have h4 : (eL (E e)).length ≤ 4 := by
          rw [(g.2.2.1 e he).2.2.1.1]
          exact (g.2.2.1 e he).2.2.2.1
        have e1 : s / 4 = e := by omega
        have e2 : s % 4 = j := by omega
        unfold sv
        rw [e1, e2]
        exact ⟨⟨he, j1⟩, of_decide_eq_true j2, rfl⟩
  exact ⟨fun s h => (key s h).1, fun s h => (key s h).2⟩
def same' (T : List Nat) (E : Nat → mEl) (s s' : Option Nat) : Bool := s.isSome && (s'.isSome && decide (vlo T E s = vlo T E s'))
abbrev wID : List Nat := [105, 100]
abbrev wRef : List Nat := [114, 101, 102]
abbrev wV : List Nat := [118]
def rep (T : List Nat) (n : Nat) (E : Nat → mEl) : Bool := an (fun e => an (fun o => same' T E (sxo T E (some e) wID) (sxo T E (some o) wID)) e) n
def ssg (T : List Nat) (n : Nat) (E : Nat → mEl) (o : Option Nat) : Bool := decide (ccN T n E o sigL = 0) || (decide (ccN T n E o sigL = 1) && ((sxo T E (ccL T n E o sigL) wRef).isSome && (num (vlo T E (sxo T E (ccL T n E o sigL) wV))).isSome))
/-! the class's methods on a message -/
def cC (T : List Nat) (n : Nat) (E : Nat → mEl) (σ : mG) : Prop := okT T ∧ cT (σ.1 1 1) (σ.1 2) T ∧ gM T n E ∧ rpC σ n E
section
variable {X : Nat × (Nat → Int32)} {d : Nat} {T : List Nat} {n : Nat} {E : Nat → mEl} {σ : mG}
theorem body_le (g : gM T n E) {o : Option Nat} (ho : oE n o) : pF E o ≤ pT' E o ∧ pT' E o ≤ T.length := by
  cases o with
  | none => exact ⟨Nat.le_refl _, Nat.zero_le _⟩
  | some e =>
    obtain ⟨-, -, -, -, -, g6, g7, g8, g9⟩ := g.2.2.1 e (ho e rfl)
    exact ⟨g7, by show eBe (E e) ≤ _; omega⟩
theorem sv_gA (g : gM T n E) {s : Nat} (hs : s / 4 < n ∧ s % 4 < (eL (E (s / 4))).length) : gA T (sv E s) ∧ gQ T (sv E s) ∧ sv E s ∈ eAs (E (s / 4)) := by
  obtain ⟨-, gas, gsl, -⟩ := g.2.2.1 (s / 4) hs.1
  have hm := (gsl.2.1 _).mp (gtA_mem hs.2)
  exact ⟨gas _ hm, tgO_gQ (g.2.2.2.1 (s / 4) hs.1).2 _ hm, hm⟩
theorem val_le (g : gM T n E) {o : Option Nat} (ho : okS n E o) : vF E o ≤ vT E o ∧ vT E o ≤ T.length := by
  cases o with
  | none => exact ⟨Nat.le_refl _, Nat.zero_le _⟩
  | some s =>
    obtain ⟨⟨-, g4, g5⟩, -⟩ := sv_gA g (ho s rfl)
    exact ⟨g4, Nat.le_of_lt g5⟩
theorem oI_neg {o : Option Nat} (h : ∀ e, o = some e → e < 2 ^ 31) : oI o < 0 ↔ o = none := by
  cases o with
  | none => exact ⟨fun _ => rfl, fun _ => show (-1 : Int32) < 0 by decide⟩
  | some e => exact ⟨fun z => absurd z (nI_pos (h e rfl)), fun z => by cases z⟩
theorem oI_m1 {o : Option Nat} (h : ∀ e, o = some e → e < 2 ^ 31) : oI o = -1 ↔ o = none := by
  cases o with
  | none => exact ⟨fun _ => rfl, fun _ => rfl⟩
  | some e => exact ⟨fun z => absurd (z.symm : (-1 : Int32) = nI e) (m1_ne (h e rfl)), fun z => by cases z⟩
theorem bI_one {b : Bool} (h : b = true) : bI b = 1 := by rw [h]; rfl
theorem bI_zero {b : Bool} (h : b = false) : bI b = 0 := by rw [h]; rfl
theorem bI_01 (b : Bool) : bI b = 0 ∨ bI b = 1 := by
  cases b with
  | true => exact Or.inr rfl
  | false => exact Or.inl rfl
theorem bI_n0 {b : Bool} : ¬ bI b = 0 ↔ b = true := by
  cases b with
  | true => exact ⟨fun _ => rfl, fun _ => by decide⟩
  | false => exact ⟨fun z => absurd rfl z, fun z => by cases z⟩
theorem oE_31 (h : cC T n E σ) {o : Option Nat} (ho : oE n o) : ∀ e, o = some e → e < 2 ^ 31 := fun e he => by
  have := ho e he
  have := h.2.2.1.2.1
  omega
theorem K53o (h : cC T n E σ) {o : Option Nat} (ho : oE n o) : RR X (d + 1) 53 [.ref 5, .int (oI o)] σ (some (.int (bI o.isSome)), σ) := by
  cases o with
  | none => exact mi_R.of rfl rfl (R53_0 (fun _ => rfl) (fun z => absurd (show (-1 : Int32) < 0 by decide) z) (fun z => absurd (show (-1 : Int32) < 0 by decide) z))
  | some e => exact K53 h.2.2.2.1 h.2.2.1.2.1 (ho e rfl)
theorem ch_I (h : cC T n E σ) {e c : Nat} (he : e < n) (hc : c < n) : σ.1 6 (nI c).toNatClampNeg = nI e ↔ ePar (E c) = some e := by
  have hn := h.2.2.1.2.1
  rw [nI_clamp (by omega), (h.2.2.2.2 c hc).1]
  exact oI_eq (fun i hi => by have := (h.2.2.1.2.2.1 c hc).2.2.2.2.1 i hi; omega) (by omega)
theorem ch_f1 {e c : Nat} {W : List Nat} (h : ¬ ePar (E c) = some e) : ch T E e W c = false := by
  unfold ch
  rw [decide_eq_false h]
  rfl
theorem ch_2 {e c : Nat} {W : List Nat} (h : ePar (E c) = some e) : ch T E e W c = decide (nmL T (E c) = W) := by
  unfold ch
  rw [decide_eq_true h]
  rfl
theorem L57 (h : cC T n E σ) {e w : Nat} {W : List Nat} (he : e < n) (hw : wd w W) : ∀ (m j : Nat), j + m = n → TT X (d + 2) tb57 (some .int) (5, [some (.ref 5), some (.int (nI e)), some (.ref w), some (.int (nI (cnt (ch T E e W) j))), some (.int (nI j))], [], σ) (some (.int (nI (cnt (ch T E e W) n))), σ) := by
  have hn := h.2.2.1.2.1
  have z1 : ¬ nI e < 0 := nI_pos (by omega)
  intro m
  induction m with
  | zero =>
    intro j hj
    have hj : j = n := by omega
    subst hj
    have z : σ.1 5 1 ≤ nI j := by
      rw [h.2.2.2.1]
      exact nI_le (Nat.le_refl _) (by omega)
    exact R57_5 (v1 := 0) (σ1 := σ) (fun _ => rfl) (fun y => absurd z y) (fun y => absurd z y) (fun y => absurd z y) (fun y => absurd z y) (fun y => absurd z y) (fun y => absurd z y)
  | succ m ih =>
    intro j hj
    have z : ¬ σ.1 5 1 ≤ nI j := by
      rw [h.2.2.2.1]
      exact nI_ge (by omega) (by omega)
    have hc := ch_I h he (show j < n by omega)
    have t := ih (j + 1) (by omega)
    refine R57_5 (v1 := bI (decide (nmL T (E j) = W))) (σ1 := σ) (fun y => absurd y z) (fun _ y => absurd y z1) (fun _ _ => mi_in_nI (by omega) (by omega)) (fun _ _ y => ?_) (fun _ _ _ => K56 h.1 h.2.1 h.2.2.1 h.2.2.2 (by omega) hw) (fun _ _ y1 y2 => ?_) (fun _ _ y1 y2 => ?_)
    · rw [cnt_f (ch_f1 fun q => y (hc.mpr q))] at t
      rw [nI_1]
      exact t
    · rw [cnt_f ((ch_2 (hc.mp (Decidable.not_not.mp y1))).trans (bI_0.mp y2))] at t
      rw [nI_1]
      exact t
    · rw [cnt_t ((ch_2 (hc.mp (Decidable.not_not.mp y1))).trans (bI_n0.mp y2))] at t
      rw [nI_1, nI_1]
      exact t
theorem K57 (h : cC T n E σ) {o : Option Nat} {w : Nat} {W : List Nat} (ho : oE n o) (hw : wd w W) : RR X (d + 3) 57 [.ref 5, .int (oI o), .ref w] σ (some (.int (nI (ccN T n E o W))), σ) := by
  cases o with
  | none =>
    refine mi_R.of rfl rfl (R57_0 ?_)
    have z : (-1 : Int32) < 0 := by decide
    exact R57_5 (v1 := 0) (σ1 := σ) (fun _ => rfl) (fun _ _ => rfl) (fun _ y => absurd z y) (fun _ y => absurd z y) (fun _ y => absurd z y) (fun _ y => absurd z y) (fun _ y => absurd z y)
  | some e => exact mi_R.of rfl rfl (R57_0 (L57 h (ho e rfl) hw n 0 (by omega)))
theorem ls_low (g : gM T n E) {e : Nat} {W : List Nat} : ∀ k, k ≤ e + 1 → k ≤ n → ls (ch T E e W) k = none := by
  intro k
  induction k with
  | zero => exact fun _ _ => rfl
  | succ k ih =>
    intro h1 h2
    rw [ls_f (ch_f1 fun z => by have := (g.2.2.1 k (by omega)).2.2.2.2.1 e z; omega)]
    exact ih (by omega) (by omega)
theorem L58 (h : cC T n E σ) {e w : Nat} {W : List Nat} (he : e < n) (hw : wd w W) : ∀ (k : Nat), k < n → TT X (d + 2) tb58 (some .int) (7, [some (.ref 5), some (.int (nI e)), some (.ref w), some (.int (nI k))], [], σ) (some (.int (oI (ls (ch T E e W) (k + 1)))), σ) := by
  have hn := h.2.2.1.2.1
  have z1 : ¬ nI e < 0 := nI_pos (by omega)
  intro k
  induction k with
  | zero =>
    intro hk
    have z : nI 0 ≤ nI e := nI_le (by omega) (by omega)
    refine R58_7 (v1 := 0) (σ1 := σ) (fun _ => ?_) (fun y => absurd z y) (fun y => absurd z y) (fun y => absurd z y) (fun y => absurd z y) (fun y => absurd z y) (fun y => absurd z y)
    rw [ls_low h.2.2.1 _ (by omega) (by omega)]
    rfl
  | succ k ih =>
    intro hk
    by_cases hke : k + 1 ≤ e
    · have z : nI (k + 1) ≤ nI e := nI_le hke (by omega)
      refine R58_7 (v1 := 0) (σ1 := σ) (fun _ => ?_) (fun y => absurd z y) (fun y => absurd z y) (fun y => absurd z y) (fun y => absurd z y) (fun y => absurd z y) (fun y => absurd z y)
      rw [ls_low h.2.2.1 _ (by omega) (by omega)]
      rfl
    · have z : ¬ nI (k + 1) ≤ nI e := nI_ge (by omega) (by omega)
      have hc := ch_I h he hk
      have t := ih (by omega)
      refine R58_7 (v1 := bI (decide (nmL T (E (k + 1)) = W))) (σ1 := σ) (fun y => absurd y z) (fun _ y => absurd y z1) (fun _ _ => mi_in_nI (by omega) (by omega)) (fun _ _ y => ?_) (fun _ _ _ => K56 h.1 h.2.1 h.2.2.1 h.2.2.2 hk hw) (fun _ _ y1 y2 => ?_) (fun _ _ y1 y2 => ?_)
      · rw [ls_f (ch_f1 fun q => y (hc.mpr q)), pk_m1]
        exact t
      · rw [ls_f ((ch_2 (hc.mp (Decidable.not_not.mp y1))).trans (bI_0.mp y2)), pk_m1]
        exact t
      · rw [ls_t ((ch_2 (hc.mp (Decidable.not_not.mp y1))).trans (bI_n0.mp y2))]
        rfl
theorem K58 (h : cC T n E σ) {o : Option Nat} {w : Nat} {W : List Nat} (ho : oE n o) (hw : wd w W) : RR X (d + 3) 58 [.ref 5, .int (oI o), .ref w] σ (some (.int (oI (ccL T n E o W))), σ) := by
  have hn := h.2.2.1.2.1
  have h1 := h.2.2.1.1
  refine mi_R.of rfl rfl (R58_0 ?_)
  have e1 : σ.1 5 1 - 1 = nI (n - 1) := by rw [h.2.2.2.1, show (1 : Int32) = nI 1 from rfl, pk_sub h1]
  rw [e1]
  cases o with
  | none =>
    have z : (-1 : Int32) < 0 := by decide
    exact R58_7 (v1 := 0) (σ1 := σ) (fun _ => rfl) (fun _ _ => rfl) (fun _ y => absurd z y) (fun _ y => absurd z y) (fun _ y => absurd z y) (fun _ y => absurd z y) (fun _ y => absurd z y)
  | some e =>
    have := L58 (X := X) (d := d) h (ho e rfl) hw (n - 1) (by omega)
    rw [show n - 1 + 1 = n by omega] at this
    exact this
theorem K59 (h : cC T n E σ) {o : Option Nat} {w : Nat} {W : List Nat} (ho : oE n o) (hw : wd w W) : RR X (d + 4) 59 [.ref 5, .int (oI o), .ref w] σ (some (.int (oI (one T n E o W))), σ) := by
  have hn := h.2.2.1.2.1
  have hle : ccN T n E o W ≤ n := by
    cases o with
    | none => exact Nat.zero_le _
    | some e => exact cnt_le _ _
  have e1 : nI (ccN T n E o W) = 1 ↔ ccN T n E o W = 1 := nI_eq (b := 1) (by omega) (by omega)
  refine mi_R.of rfl rfl (R59_0 (K57 h ho hw) (fun y => ?_) (fun _ => K58 h ho hw) (fun y => ?_))
  · unfold one
    rw [if_neg fun q => y (e1.mpr q)]
    rfl
  · unfold one
    rw [if_pos (e1.mp (Decidable.not_not.mp y))]
theorem K60 (h : cC T n E σ) {o : Option Nat} (ho : oE n o) : RR X (d + 2) 60 [.ref 5, .int (oI o)] σ (some (.int (nI (pF E o))), σ) := by
  have hn := h.2.2.1.2.1
  cases o with
  | none => exact mi_R.of rfl rfl (R60_0 (K53o h ho) (fun _ => rfl) (fun y => absurd rfl y) (fun y => absurd rfl y))
  | some e =>
    have he := ho e rfl
    refine mi_R.of rfl rfl (R60_0 (K53o h ho) (fun y => absurd y (show ¬ (1 : Int32) = 0 by decide)) (fun _ => mi_in_nI (j := e) (by omega) (by omega)) (fun _ => ?_))
    show (_ : mA mG) = (some (.int (σ.1 9 (nI e).toNatClampNeg)), σ)
    rw [nI_clamp (by omega), (h.2.2.2.2 e he).2.2.2.1]
    rfl
theorem K61 (h : cC T n E σ) {o : Option Nat} (ho : oE n o) : RR X (d + 2) 61 [.ref 5, .int (oI o)] σ (some (.int (nI (pT' E o))), σ) := by
  have hn := h.2.2.1.2.1
  cases o with
  | none => exact mi_R.of rfl rfl (R61_0 (K53o h ho) (fun _ => rfl) (fun y => absurd rfl y) (fun y => absurd rfl y))
  | some e =>
    have he := ho e rfl
    refine mi_R.of rfl rfl (R61_0 (K53o h ho) (fun y => absurd y (show ¬ (1 : Int32) = 0 by decide)) (fun _ => mi_in_nI (j := e) (by omega) (by omega)) (fun _ => ?_))
    show (_ : mA mG) = (some (.int (σ.1 10 (nI e).toNatClampNeg)), σ)
    rw [nI_clamp (by omega), (h.2.2.2.2 e he).2.2.2.2.1]
    rfl
theorem L62 (h : cC T n E σ) {q : Nat} (hq : q ≤ T.length) {x1 x2 : Int32} : ∀ (k p : Nat), p + k = q → TT X (d + 1) tb62 (some .boolean) (32, [some (.ref 5), some (.int x1), some (.int x2), some (.int (nI q)), some (.int (nI p))], [], σ) (some (.int (bI (decide (60 ∉ seg T p q)))), σ) := by
  have hl := h.1.1
  intro k
  induction k with
  | zero =>
    intro p hp
    have z : nI q ≤ nI p := nI_le (by omega) (by omega)
    refine R62_32 (v1 := 0) (σ1 := σ) (fun _ => ?_) (fun y => absurd z y) (fun y => absurd z y) (fun y => absurd z y)
    rw [seg_nil (by omega)]
    rfl
  | succ k ih =>
    intro p hp
    have z : ¬ nI q ≤ nI p := nI_ge (by omega) (by omega)
    have ht := tc_hi h.1 p
    have e60 : nI (tc T p) = 60 ↔ tc T p = 60 := nI_eq (b := 60) (by omega) (by omega)
    have t := ih (p + 1) (by omega)
    refine R62_32 (fun y => absurd y z) (fun _ => K39c h.1 h.2.1 (by omega)) (fun _ y => ?_) (fun _ y => ?_)
    · rw [nI_1, seg_cons (by omega) hq]
      have : decide (60 ∉ tc T p :: seg T (p + 1) q) = decide (60 ∉ seg T (p + 1) q) := by
        refine decide_eq_decide.mpr ⟨fun a b => a (List.mem_cons_of_mem _ b), fun a b => ?_⟩
        rcases List.mem_cons.mp b with c | c
        · exact y (e60.mpr c.symm)
        · exact a c
      rw [this]
      exact t
    · rw [seg_cons (by omega) hq, decide_eq_false fun a => a (by rw [e60.mp (Decidable.not_not.mp y)]; exact List.mem_cons_self ..)]
      rfl
theorem sub_lt1 {a b : Nat} (h : a ≤ b) (hb : b < 2 ^ 31) : nI b - nI a < 1 ↔ b - a < 1 := by
  rw [pk_sub h]
  exact nI_ltI (b := 1) (by omega) (by omega)
theorem sub_le {a b c : Nat} (h : a ≤ b) (hb : b < 2 ^ 31) (hc : c < 2 ^ 31) : nI b - nI a ≤ nI c ↔ b - a ≤ c := by
  rw [pk_sub h]
  exact nI_leI (by omega) hc
theorem K62 (h : cC T n E σ) {o : Option Nat} (ho : oE n o) : RR X (d + 3) 62 [.ref 5, .int (oI o)] σ (some (.int (bI (wrd (bdy T E o)))), σ) := by
  have hl := h.1.1
  obtain ⟨b1, b2⟩ := body_le h.2.2.1 ho
  have hlen : (bdy T E o).length = pT' E o - pF E o := seg_len b2
  have s1 := sub_lt1 b1 (by omega)
  have s8 := sub_le (c := 8) b1 (by omega) (by omega)
  refine mi_R.of rfl rfl (R62_0 (K60 h ho) (K61 h ho) (fun y => ?_) (fun y1 y2 => ?_) (fun y1 y2 => ?_))
  · unfold wrd
    rw [decide_eq_false (by rw [hlen]; have := s1.mp y; omega)]
    rfl
  · have := L62 (X := X) (d := d + 1) h b2 (x1 := oI o) (x2 := nI (pF E o)) (pT' E o - pF E o) (pF E o) (by omega)
    unfold wrd
    rw [decide_eq_true (show 1 ≤ (bdy T E o).length by rw [hlen]; have : ¬ _ := fun q => y1 (s1.mpr q); omega), decide_eq_true (show (bdy T E o).length ≤ 8 by rw [hlen]; exact s8.mp y2)]
    exact this
  · unfold wrd
    rw [decide_eq_false (p := (bdy T E o).length ≤ 8) (by rw [hlen]; exact fun q => y2 (s8.mpr q)), Bool.and_false, Bool.false_and]
    rfl
theorem K63 (h : cC T n E σ) {o : Option Nat} {w : Nat} {W : List Nat} (ho : oE n o) (hw : wd w W) : RR X (d + 3) 63 [.ref 5, .int (oI o), .ref w] σ (some (.int (bI (decide (bdy T E o = W)))), σ) := by
  obtain ⟨b1, b2⟩ := body_le h.2.2.1 ho
  exact mi_R.of rfl rfl (R63_0 (K60 h ho) (K61 h ho) (K50 h.1 h.2.1 hw b1 b2) rfl (bI_01 _))
theorem K64 (h : cC T n E σ) {o o' : Option Nat} (ho : oE n o) (ho' : oE n o') : RR X (d + 3) 64 [.ref 5, .int (oI o), .int (oI o')] σ (some (.int (bI (decide (bdy T E o = bdy T E o')))), σ) := by
  obtain ⟨b1, b2⟩ := body_le h.2.2.1 ho
  obtain ⟨c1, c2⟩ := body_le h.2.2.1 ho'
  have e := ord_eq h.1 b1 b2 c1 c2
  refine mi_R.of rfl rfl (R64_0 (K60 h ho) (K61 h ho) (K60 h ho') (K61 h ho') (K51 h.1 h.2.1 b1 b2 c1 c2) (fun y => ?_) (fun y => ?_))
  · rw [decide_eq_false (show ¬ bdy T E o = bdy T E o' from fun q => y (e.mpr q))]
    rfl
  · rw [decide_eq_true (show bdy T E o = bdy T E o' from e.mp (Decidable.not_not.mp y))]
    rfl
theorem L65 (h : cC T n E σ) {e w : Nat} {W : List Nat} (he : e < n) (hw : wd w W) : ∀ (m c : Nat), c + m = (eL (E e)).length → TT X (d + 1) tb65 (some .int) (17, [some (.ref 5), some (.int (nI e)), some (.ref w), some (.int (nI (4 * e))), some (.int (nI (4 * e + c)))], [], σ) (some (.int (oI ((ixF (fun a => decide (seg T a.1 a.2.1 = W)) ((eL (E e)).drop c)).map (fun j => 4 * e + (c + j))))), σ) := by
  have hn := h.2.2.1.2.1
  have hl := h.1.1
  have hin : mi_in (nI e) 20 = true := mi_in_nI (by omega) (by omega)
  obtain ⟨-, gas, gsl, g4, -⟩ := h.2.2.1.2.2.1 e he
  have h4 : (eL (E e)).length ≤ 4 := by rw [gsl.1]; exact g4
  obtain ⟨-, -, -, -, -, -, e12, esl⟩ := h.2.2.2.2 e he
  intro m
  induction m with
  | zero =>
    intro c hc
    have z : nI (4 * e) + σ.1 12 (nI e).toNatClampNeg ≤ nI (4 * e + c) := by
      rw [nI_clamp (by omega), e12, nI_add]
      exact nI_le (by omega) (by omega)
    refine R65_17 (v1 := 0) (σ1 := σ) hin (fun _ => ?_) (fun y => absurd z y) (fun y => absurd z y) (fun y => absurd z y) (fun y => absurd z y) (fun y => absurd z y)
    rw [List.drop_eq_nil_of_le (by omega)]
    rfl
  | succ m ih =>
    intro c hc
    have hcl : c < (eL (E e)).length := by omega
    have z : ¬ nI (4 * e) + σ.1 12 (nI e).toNatClampNeg ≤ nI (4 * e + c) := by
      rw [nI_clamp (by omega), e12, nI_add]
      exact nI_ge (by omega) (by omega)
    have hin8 : mi_in (nI (4 * e + c)) 80 = true := mi_in_nI (by omega) (by omega)
    obtain ⟨s1, s2, s3⟩ := esl c hcl
    obtain ⟨⟨a1, a2, a3, -⟩, a4, a5⟩ := gas _ ((gsl.2.1 _).mp (gtA_mem hcl))
    have t := ih (c + 1) (by omega)
    have hd : ixF (fun a => decide (seg T a.1 a.2.1 = W)) ((eL (E e)).drop c) = bif decide (seg T (gtA (eL (E e)) c).1 (gtA (eL (E e)) c).2.1 = W) then some 0 else (ixF (fun a => decide (seg T a.1 a.2.1 = W)) ((eL (E e)).drop (c + 1))).map (fun j => j + 1) := by
      rw [drop_gtA hcl]
      rfl
    refine R65_17 (v1 := bI (decide (seg T (gtA (eL (E e)) c).1 (gtA (eL (E e)) c).2.1 = W))) (σ1 := σ) hin (fun y => absurd y z) (fun _ => hin8) (fun _ => hin8) (fun _ => ?_) (fun _ y => ?_) (fun _ y => ?_)
    · rw [nI_clamp (by omega), s1, s2, show (2 : Int32) = nI 2 from rfl, pk_sub (by omega), Nat.add_sub_cancel]
      exact K50 h.1 h.2.1 hw (by omega) a3
    · rw [hd, bI_0.mp y, cond_false, nI_1, Option.map_map]
      have : ((fun j => 4 * e + (c + j)) ∘ fun j => j + 1) = fun j => 4 * e + (c + 1 + j) := by
        funext j
        show 4 * e + (c + (j + 1)) = _
        omega
      rw [this]
      exact t
    · rw [hd, bI_n0.mp y, cond_true]
      rfl
theorem K65 (h : cC T n E σ) {o : Option Nat} {w : Nat} {W : List Nat} (ho : oE n o) (hw : wd w W) : RR X (d + 2) 65 [.ref 5, .int (oI o), .ref w] σ (some (.int (oI (sxo T E o W))), σ) := by
  cases o with
  | none => exact mi_R.of rfl rfl (R65_0 (K53o h ho) (fun y => absurd rfl y) (fun _ => rfl))
  | some e =>
    refine mi_R.of rfl rfl (R65_0 (K53o h ho) (fun _ => ?_) (fun y => absurd (show ¬ (1 : Int32) = 0 by decide) y))
    have t := L65 (X := X) (d := d) h (ho e rfl) hw (eL (E e)).length 0 (by omega)
    rw [List.drop_zero] at t
    have e4 : oI (some e) * 4 = nI (4 * e) := by
      show nI e * 4 = _
      rw [show (4 : Int32) = nI 4 from rfl, pk_mul, Nat.mul_comm]
    rw [e4]
    have : (fun j => 4 * e + (0 + j)) = fun j => 4 * e + j := by
      funext j
      omega
    rw [this] at t
    exact t
theorem okS_31 (h : cC T n E σ) {o : Option Nat} (ho : okS n E o) : ∀ s, o = some s → s < 80 ∧ s < 2 ^ 31 := fun s hs => by
  obtain ⟨h1, h2⟩ := ho s hs
  have hn := h.2.2.1.2.1
  omega
theorem K66 (h : cC T n E σ) {o : Option Nat} {w : Nat} {W : List Nat} (ho : oE n o) (hw : wd w W) : RR X (d + 3) 66 [.ref 5, .int (oI o), .ref w] σ (some (.int (bI (sxo T E o W).isSome)), σ) := by
  have e := oI_m1 fun s hs => (okS_31 h (sxo_ok h.2.2.1 (W := W) ho).1 s hs).2
  refine mi_R.of rfl rfl (R66_0 (K65 h ho hw) (fun y => ?_) (fun y => ?_))
  · rw [e.mp y]
    rfl
  · cases hs : sxo T E o W with
    | none => exact absurd (e.mpr hs) y
    | some s => rfl
theorem K67 (h : cC T n E σ) {o : Option Nat} (ho : okS n E o) : RR X (d + 1) 67 [.ref 5, .int (oI o)] σ (some (.int (nI (vF E o))), σ) := by
  cases o with
  | none => exact mi_R.of rfl rfl (R67_0 (fun _ => rfl) (fun y => absurd (show (-1 : Int32) < 0 by decide) y) (fun y => absurd (show (-1 : Int32) < 0 by decide) y) (fun y => absurd (show (-1 : Int32) < 0 by decide) y))
  | some s =>
    obtain ⟨h1, h2⟩ := okS_31 h ho s rfl
    have hs := ho s rfl
    refine mi_R.of rfl rfl (R67_0 (fun y => absurd y (nI_pos h2)) (fun _ y => absurd y (nI_ge (b := 80) h1 (by omega))) (fun _ _ => mi_in_nI (j := s) h1 (by omega)) (fun _ _ => ?_))
    have e := ((h.2.2.2.2 (s / 4) hs.1).2.2.2.2.2.2.2 (s % 4) hs.2).2.1
    rw [show 4 * (s / 4) + s % 4 = s by omega] at e
    show (_ : mA mG) = (some (.int (σ.1 14 (nI s).toNatClampNeg)), σ)
    rw [nI_clamp h2, e]
    rfl
theorem K68 (h : cC T n E σ) {o : Option Nat} (ho : okS n E o) : RR X (d + 1) 68 [.ref 5, .int (oI o)] σ (some (.int (nI (vT E o))), σ) := by
  cases o with
  | none => exact mi_R.of rfl rfl (R68_0 (fun _ => rfl) (fun y => absurd (show (-1 : Int32) < 0 by decide) y) (fun y => absurd (show (-1 : Int32) < 0 by decide) y) (fun y => absurd (show (-1 : Int32) < 0 by decide) y))
  | some s =>
    obtain ⟨h1, h2⟩ := okS_31 h ho s rfl
    have hs := ho s rfl
    refine mi_R.of rfl rfl (R68_0 (fun y => absurd y (nI_pos h2)) (fun _ y => absurd y (nI_ge (b := 80) h1 (by omega))) (fun _ _ => mi_in_nI (j := s) h1 (by omega)) (fun _ _ => ?_))
    have e := ((h.2.2.2.2 (s / 4) hs.1).2.2.2.2.2.2.2 (s % 4) hs.2).2.2
    rw [show 4 * (s / 4) + s % 4 = s by omega] at e
    show (_ : mA mG) = (some (.int (σ.1 15 (nI s).toNatClampNeg)), σ)
    rw [nI_clamp h2, e]
    rfl
theorem K69 (h : cC T n E σ) {o : Option Nat} {w w' : Nat} {W V : List Nat} (ho : oE n o) (hw : wd w W) (hw' : wd w' V) : RR X (d + 3) 69 [.ref 5, .int (oI o), .ref w, .ref w'] σ (some (.int (bI ((sxo T E o W).isSome && decide (vlo T E (sxo T E o W) = V)))), σ) := by
  have hs := (sxo_ok h.2.2.1 (W := W) ho).1
  have e := oI_m1 fun s hs' => (okS_31 h hs s hs').2
  obtain ⟨b1, b2⟩ := val_le h.2.2.1 hs
  refine mi_R.of rfl rfl (R69_0 (K65 h ho hw) (fun y => ?_) (fun _ => K67 h hs) (fun _ => K68 h hs) (fun _ => K50 h.1 h.2.1 hw' b1 b2) (fun y1 y2 => ?_) (fun y1 y2 => ?_))
  · rw [e.mp y]
    rfl
  · have := bI_0.mp y2
    rw [show vlo T E (sxo T E o W) = seg T (vF E (sxo T E o W)) (vT E (sxo T E o W)) from rfl, this, Bool.and_false]
    rfl
  · have := bI_n0.mp y2
    rw [show vlo T E (sxo T E o W) = seg T (vF E (sxo T E o W)) (vT E (sxo T E o W)) from rfl, this, Bool.and_true]
    cases hh : sxo T E o W with
    | none => exact absurd (e.mpr hh) y1
    | some s => rfl
theorem K70 (h : cC T n E σ) {o o' : Option Nat} (ho : okS n E o) (ho' : okS n E o') : RR X (d + 3) 70 [.ref 5, .int (oI o), .int (oI o')] σ (some (.int (bI (same' T E o o'))), σ) := by
  have e := oI_m1 fun s hs => (okS_31 h ho s hs).2
  have e' := oI_m1 fun s hs => (okS_31 h ho' s hs).2
  obtain ⟨b1, b2⟩ := val_le h.2.2.1 ho
  obtain ⟨c1, c2⟩ := val_le h.2.2.1 ho'
  have eq := ord_eq h.1 b1 b2 c1 c2
  refine mi_R.of rfl rfl (R70_0 (fun y => ?_) (fun _ y => ?_) (fun _ _ => K67 h ho) (fun _ _ => K68 h ho) (fun _ _ => K67 h ho') (fun _ _ => K68 h ho') (fun _ _ => K51 h.1 h.2.1 b1 b2 c1 c2) (fun _ _ y => ?_) (fun y1 y2 y => ?_))
  · unfold same'
    rw [e.mp y]
    rfl
  · unfold same'
    rw [e'.mp y, show (none : Option Nat).isSome = false from rfl, Bool.false_and, Bool.and_false]
    rfl
  · unfold same'
    rw [decide_eq_false (show ¬ vlo T E o = vlo T E o' from fun q => y (eq.mpr q)), Bool.and_false, Bool.and_false]
    rfl
  · unfold same'
    rw [decide_eq_true (show vlo T E o = vlo T E o' from eq.mp (Decidable.not_not.mp y))]
    cases o with
    | none => exact absurd (e.mpr rfl) y1
    | some s =>
      cases o' with
      | none => exact absurd (e'.mpr rfl) y2
      | some s' => rfl
theorem K71 (h : cC T n E σ) {o o' : Option Nat} {w : Nat} {W : List Nat} (ho : oE n o) (ho' : oE n o') (hw : wd w W) : RR X (d + 4) 71 [.ref 5, .int (oI o), .int (oI o'), .ref w] σ (some (.int (bI (same' T E (sxo T E o W) (sxo T E o' W)))), σ) := mi_R.of rfl rfl (R71_0 (K65 h ho hw) (K65 h ho' hw) (K70 h (sxo_ok h.2.2.1 ho).1 (sxo_ok h.2.2.1 ho').1) rfl (bI_01 _))
def kyl (l : List Nat) : Bool := decide (1 ≤ l.length) && decide (l.length ≤ 8)
theorem K72 (h : cC T n E σ) {o : Option Nat} {w : Nat} {W : List Nat} (ho : oE n o) (hw : wd w W) : RR X (d + 3) 72 [.ref 5, .int (oI o), .ref w] σ (some (.int (bI (kyl (vlo T E (sxo T E o W))))), σ) := by
  have hl := h.1.1
  have hs := (sxo_ok h.2.2.1 (W := W) ho).1
  obtain ⟨b1, b2⟩ := val_le h.2.2.1 hs
  have hlen : (vlo T E (sxo T E o W)).length = vT E (sxo T E o W) - vF E (sxo T E o W) := seg_len b2
  have s1 := sub_lt1 b1 (by omega)
  have s8 : (8 : Int32) < nI (vT E (sxo T E o W)) - nI (vF E (sxo T E o W)) ↔ 8 < vT E (sxo T E o W) - vF E (sxo T E o W) := by
    rw [pk_sub b1]
    exact nI_ltI (a := 8) (by omega) (by omega)
  refine mi_R.of rfl rfl (R72_0 (K65 h ho hw) (K68 h hs) (K67 h hs) (fun y => ?_) (fun _ y => ?_) (fun y1 y2 => ?_))
  · unfold kyl
    rw [decide_eq_false (by rw [hlen]; have := s1.mp y; omega)]
    rfl
  · unfold kyl
    rw [decide_eq_false (p := (vlo T E (sxo T E o W)).length ≤ 8) (by rw [hlen]; have := s8.mp y; omega), Bool.and_false]
    rfl
  · unfold kyl
    rw [decide_eq_true (show 1 ≤ (vlo T E (sxo T E o W)).length by rw [hlen]; have : ¬ _ := fun q => y1 (s1.mpr q); omega), decide_eq_true (show (vlo T E (sxo T E o W)).length ≤ 8 by rw [hlen]; have : ¬ _ := fun q => y2 (s8.mpr q); omega)]
    rfl
theorem L74 (h : cC T n E σ) {q : Nat} (hq : q ≤ T.length) {w : Nat} {x1 x3 x4 : Int32} : ∀ (k p r : Nat) (u : Option Value), p + k = q → TT X (d + 1) tb74 (some .int) (49, [some (.ref 5), some (.int x1), some (.ref w), some (.int x3), some (.int x4), some (.int (nI q)), some (.int (nI r)), some (.int (nI p)), u], [], σ) (some (.int (oI (if (seg T p q).all dgt = true then some (nv r (seg T p q)) else none))), σ) := by
  have hl := h.1.1
  intro k
  induction k with
  | zero =>
    intro p r u hp
    have z : nI q ≤ nI p := nI_le (by omega) (by omega)
    refine R74_49 (v1 := 0) (σ1 := σ) (fun _ => ?_) (fun y => absurd z y) (fun y => absurd z y) (fun y => absurd z y) (fun y => absurd z y)
    rw [seg_nil (by omega)]
    rfl
  | succ k ih =>
    intro p r u hp
    have z : ¬ nI q ≤ nI p := nI_ge (by omega) (by omega)
    have ht := tc_hi h.1 p
    have hseg := seg_cons (T := T) (p := p) (q := q) (by omega) hq
    refine R74_49 (fun y => absurd y z) (fun _ => K39c h.1 h.2.1 (by omega)) (fun _ y => ?_) (fun _ y1 y2 => ?_) (fun _ y1 y2 => ?_)
    · have hlt : tc T p < 48 := by
        rcases Nat.lt_or_ge (tc T p) 48 with q | q
        · exact q
        · rw [show (48 : Int32) = nI 48 from rfl, pk_sub q] at y
          exact absurd y (nI_pos (by omega))
      rw [hseg, List.all_cons, show dgt (tc T p) = false by unfold dgt; rw [decide_eq_false (by omega)]; rfl, Bool.false_and]
      rfl
    · have hge : 48 ≤ tc T p := by
        rcases Nat.lt_or_ge (tc T p) 48 with q | q
        · exact absurd (pk_sneg (a := tc T p) (b := 48) (by omega) q) y1
        · exact q
      rw [show (48 : Int32) = nI 48 from rfl, pk_sub hge] at y2 ⊢
      have hle : tc T p - 48 ≤ 9 := (nI_leI (b := 9) (by omega) (by omega)).mp y2
      rw [show (10 : Int32) = nI 10 from rfl, pk_mul, nI_add, nI_1, hseg, List.all_cons, show dgt (tc T p) = true by unfold dgt; rw [decide_eq_true hge, decide_eq_true (show tc T p ≤ 57 by omega)]; rfl, Bool.true_and]
      exact ih (p + 1) (r * 10 + (tc T p - 48)) _ (by omega)
    · have hge : 48 ≤ tc T p := by
        rcases Nat.lt_or_ge (tc T p) 48 with q | q
        · exact absurd (pk_sneg (a := tc T p) (b := 48) (by omega) q) y1
        · exact q
      rw [show (48 : Int32) = nI 48 from rfl, pk_sub hge] at y2
      have hle : ¬ tc T p - 48 ≤ 9 := fun q => y2 ((nI_leI (b := 9) (by omega) (by omega)).mpr q)
      rw [hseg, List.all_cons, show dgt (tc T p) = false by unfold dgt; rw [decide_eq_false (p := tc T p ≤ 57) (by omega), Bool.and_false], Bool.false_and]
      rfl
theorem K74 (h : cC T n E σ) {o : Option Nat} {w : Nat} {W : List Nat} (ho : oE n o) (hw : wd w W) : RR X (d + 3) 74 [.ref 5, .int (oI o), .ref w] σ (some (.int (oI (num (vlo T E (sxo T E o W))))), σ) := by
  have hl := h.1.1
  have hs := (sxo_ok h.2.2.1 (W := W) ho).1
  obtain ⟨b1, b2⟩ := val_le h.2.2.1 hs
  have hlen : (vlo T E (sxo T E o W)).length = vT E (sxo T E o W) - vF E (sxo T E o W) := seg_len b2
  have s1 := sub_lt1 b1 (by omega)
  have s9 := sub_le (c := 9) b1 (by omega) (by omega)
  refine mi_R.of rfl rfl (R74_0 (K65 h ho hw) (K67 h hs) (K68 h hs) (fun y => ?_) (fun y1 y2 => ?_) (fun y1 y2 => ?_))
  · unfold num
    rw [if_neg fun q => by have := s1.mp y; omega]
    rfl
  · have := L74 (X := X) (d := d + 1) h b2 (w := w) (x1 := oI o) (x3 := oI (sxo T E o W)) (x4 := nI (vF E (sxo T E o W))) (vT E (sxo T E o W) - vF E (sxo T E o W)) (vF E (sxo T E o W)) 0 none (by omega)
    have e : num (vlo T E (sxo T E o W)) = if (vlo T E (sxo T E o W)).all dgt = true then some (nv 0 (vlo T E (sxo T E o W))) else none := by
      unfold num
      have q1 : ¬ vT E (sxo T E o W) - vF E (sxo T E o W) < 1 := fun q => y1 (s1.mpr q)
      have q2 := s9.mp y2
      by_cases hd : (vlo T E (sxo T E o W)).all dgt = true
      · rw [if_pos ⟨by omega, by omega, hd⟩, if_pos hd]
      · rw [if_neg fun q => hd q.2.2, if_neg hd]
    rw [e]
    exact this
  · unfold num
    rw [if_neg fun q => y2 (s9.mpr (by omega))]
    rfl
theorem num_31 {l : List Nat} : ∀ v, num l = some v → v < 2 ^ 31 := fun v h => Nat.lt_of_lt_of_le (num_lt h) (by decide)
theorem K73 (h : cC T n E σ) {o : Option Nat} {w : Nat} {W : List Nat} (ho : oE n o) (hw : wd w W) : RR X (d + 4) 73 [.ref 5, .int (oI o), .ref w] σ (some (.int (bI (num (vlo T E (sxo T E o W))).isSome)), σ) := by
  have e := oI_m1 (num_31 (l := vlo T E (sxo T E o W)))
  refine mi_R.of rfl rfl (R73_0 (K74 h ho hw) (fun y => ?_) (fun y => ?_))
  · rw [e.mp y]
    rfl
  · cases hs : num (vlo T E (sxo T E o W)) with
    | none => exact absurd (e.mpr hs) y
    | some s => rfl
theorem an_t {f : Nat → Bool} {j : Nat} (hf : f j = true) : ∀ n, j < n → an f n = true := by
  intro n
  induction n with
  | zero => exact fun h => absurd h (Nat.not_lt_zero _)
  | succ n ih =>
    intro h
    show (an f n || f n) = true
    by_cases e : j = n
    · rw [← e, hf, Bool.or_true]
    · rw [ih (by omega), Bool.true_or]
theorem L75 (h : cC T n E σ) : ∀ (m e : Nat) (u2 u3 : Option Value), e + m = n → an (fun e => an (fun o => same' T E (sxo T E (some e) wID) (sxo T E (some o) wID)) e) e = false → TT X (d + 3) tb75 (some .boolean) (2, [some (.ref 5), some (.int (nI e)), u2, u3], [], σ) (some (.int (bI (rep T n E))), σ) := by
  have hn := h.2.2.1.2.1
  intro m
  induction m with
  | zero =>
    intro e u2 u3 he hf
    have : e = n := by omega
    subst this
    have z : σ.1 5 1 ≤ nI e := by
      rw [h.2.2.2.1]
      exact nI_le (Nat.le_refl _) (by omega)
    refine R75_2 (v1 := 0) (σ1 := σ) (fun _ => ?_) (fun y => absurd z y) (fun y => absurd z y)
    unfold rep
    rw [hf]
    rfl
  | succ m ih =>
    intro e u2 u3 he hf
    have z : ¬ σ.1 5 1 ≤ nI e := by
      rw [h.2.2.2.1]
      exact nI_ge (by omega) (by omega)
    have hoe : oE n (some e) := oE_some (by omega)
    have hs := (sxo_ok h.2.2.1 (W := wID) hoe).1
    have em := oI_m1 fun s hs' => (okS_31 h hs s hs').2
    refine R75_2 (fun y => absurd y z) (fun _ => K65 (o := some e) h hoe (W := wID) ⟨rfl, by decide, by decide⟩) (fun _ => ?_)
    have fin : an (fun o => same' T E (sxo T E (some e) wID) (sxo T E (some o) wID)) e = false → ∀ (x3 : Int32), TT X (d + 3) tb75 (some .boolean) (2, [some (.ref 5), some (.int (nI e + 1)), some (.int (oI (sxo T E (some e) wID))), some (.int x3)], [], σ) (some (.int (bI (rep T n E))), σ) := by
      intro hi x3
      rw [nI_1]
      refine ih (e + 1) _ _ (by omega) ?_
      show (an _ e || an _ e) = false
      rw [hf, hi]
      rfl
    have inner : ∀ (k o : Nat), o + k = e → an (fun o => same' T E (sxo T E (some e) wID) (sxo T E (some o) wID)) o = false → TT X (d + 3) tb75 (some .boolean) (20, [some (.ref 5), some (.int (nI e)), some (.int (oI (sxo T E (some e) wID))), some (.int (nI o))], [], σ) (some (.int (bI (rep T n E))), σ) := by
      intro k
      induction k with
      | zero =>
        intro o ho hi
        have : o = e := by omega
        subst this
        have zz : nI o ≤ nI o := nI_le (Nat.le_refl _) (by omega)
        exact R75_20 (v1 := 0) (σ1 := σ) (v2 := 0) (σ2 := σ) (fun _ => fin hi _) (fun y => absurd zz y) (fun y => absurd zz y) (fun y => absurd zz y) (fun y => absurd zz y) (fun y => absurd zz y)
      | succ k ihk =>
        intro o ho hi
        have zz : ¬ nI e ≤ nI o := nI_ge (by omega) (by omega)
        have hoo : oE n (some o) := oE_some (by omega)
        refine R75_20 (v2 := bI (same' T E (sxo T E (some e) wID) (sxo T E (some o) wID))) (σ2 := σ) (fun y => absurd y zz) (fun _ y => ?_) (fun _ _ => K65 (o := some o) h hoo (W := wID) ⟨rfl, by decide, by decide⟩) (fun _ _ => K70 h hs (sxo_ok h.2.2.1 hoo).1) (fun _ _ y => ?_) (fun _ _ y => ?_)
        · have e0 := em.mp y
          have : ∀ k, an (fun o => same' T E (sxo T E (some e) wID) (sxo T E (some o) wID)) k = false := by
            intro k
            induction k with
            | zero => rfl
            | succ k ih =>
              show (an _ k || same' T E (sxo T E (some e) wID) (sxo T E (some k) wID)) = false
              rw [ih, e0]
              rfl
          exact fin (this e) _
        · rw [nI_1]
          refine ihk (o + 1) (by omega) ?_
          show (an _ o || same' T E (sxo T E (some e) wID) (sxo T E (some o) wID)) = false
          rw [hi, bI_0.mp y]
          rfl
        · unfold rep
          have q1 : an (fun o => same' T E (sxo T E (some e) wID) (sxo T E (some o) wID)) e = true := an_t (f := fun o => same' T E (sxo T E (some e) wID) (sxo T E (some o) wID)) (j := o) (bI_n0.mp y) e (by omega)
          have q2 := an_t (f := fun e => an (fun o => same' T E (sxo T E (some e) wID) (sxo T E (some o) wID)) e) (j := e) q1 n (by omega)
          rw [q2]
          rfl
    exact inner e 0 (by omega) rfl
theorem K75 (h : cC T n E σ) : RR X (d + 4) 75 [.ref 5] σ (some (.int (bI (rep T n E))), σ) := mi_R.of rfl rfl (R75_0 (L75 h n 0 none none (by omega) rfl))
theorem K76 (h : cC T n E σ) {o : Option Nat} (ho : oE n o) : RR X (d + 4) 76 [.ref 5, .int (oI o)] σ (some (.int (bI (ssg T n E o))), σ) := by
  have hn := h.2.2.1.2.1
  have hle : ccN T n E o sigL ≤ n := by
    cases o with
    | none => exact Nat.zero_le _
    | some e => exact cnt_le _ _
  have e0 : nI (ccN T n E o sigL) = 0 ↔ ccN T n E o sigL = 0 := nI_eq (b := 0) (by omega) (by omega)
  have e1 : nI (ccN T n E o sigL) = 1 ↔ ccN T n E o sigL = 1 := nI_eq (b := 1) (by omega) (by omega)
  have hL := ccL_oE T n E o sigL
  have em := oI_m1 (num_31 (l := vlo T E (sxo T E (ccL T n E o sigL) wV)))
  refine mi_R.of rfl rfl (R76_0 (K57 (W := sigL) h ho ⟨rfl, by decide, by decide⟩) (K58 (W := sigL) h ho ⟨rfl, by decide, by decide⟩) (fun y => ?_) (fun y1 y2 => ?_) (fun _ _ => K66 (W := wRef) h hL ⟨rfl, by decide, by decide⟩) (fun y1 y2 y3 => ?_) (fun _ _ _ => K74 (W := wV) h hL ⟨rfl, by decide, by decide⟩) (fun y1 y2 y3 y4 => ?_) (fun y1 y2 y3 y4 => ?_))
  · unfold ssg
    rw [decide_eq_true (e0.mp y)]
    rfl
  · unfold ssg
    rw [decide_eq_false fun q => y1 (e0.mpr q), decide_eq_false fun q => y2 (e1.mpr q)]
    rfl
  · unfold ssg
    rw [decide_eq_false fun q => y1 (e0.mpr q), bI_0.mp y3, Bool.false_and, Bool.and_false]
    rfl
  · unfold ssg
    rw [decide_eq_false fun q => y1 (e0.mpr q), em.mp y4, show (none : Option Nat).isSome = false from rfl, Bool.and_false, Bool.and_false]
    rfl
  · unfold ssg
    have : (num (vlo T E (sxo T E (ccL T n E o sigL) wV))).isSome = true := by
      cases hh : num (vlo T E (sxo T E (ccL T n E o sigL) wV)) with
      | none => exact absurd (em.mpr hh) y4
      | some v => rfl
    rw [decide_eq_true (e1.mp (Decidable.not_not.mp y2)), bI_n0.mp y3, this, Bool.and_true, Bool.and_true, Bool.or_true]
    rfl
end
