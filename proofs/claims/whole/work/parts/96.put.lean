/-! Writing texts, on both sides -/
def dg : Nat → Nat → List Nat
  | 0, _ => []
  | j + 1, x => (48 + x / 10 ^ j % 10) :: dg j x
def dl (x : Nat) : Nat → Nat → Nat
  | 0, j => j
  | f + 1, j => if x / 10 ^ j < 10 then j else dl x f (j + 1)
def D10 (x : Nat) : List Nat := dg (dl x 9 0 + 1) x
theorem dg_len : ∀ (j x : Nat), (dg j x).length = j := by
  intro j
  induction j with
  | zero => exact fun _ => rfl
  | succ j ih => exact fun x => by show (dg j x).length + 1 = _; rw [ih]
theorem dg_dig : ∀ (j x : Nat), ∀ c ∈ dg j x, 48 ≤ c ∧ c ≤ 57 := by
  intro j
  induction j with
  | zero => exact fun x c hc => by cases hc
  | succ j ih =>
    intro x c hc
    rcases List.mem_cons.mp hc with z | z
    · have := Nat.mod_lt (x / 10 ^ j) (show 0 < 10 by omega)
      omega
    · exact ih x c z
theorem D10_dig (x : Nat) : ∀ c ∈ D10 x, 48 ≤ c ∧ c ≤ 57 := dg_dig _ x
theorem dl_le (x : Nat) : ∀ (f j b : Nat), x < 10 ^ (b + 1) → j ≤ b → dl x f j ≤ b ∨ dl x f j = j + f ∧ j + f ≤ b := by
  intro f
  induction f with
  | zero => exact fun j b _ hj => Or.inl hj
  | succ f ih =>
    intro j b hx hj
    show (if x / 10 ^ j < 10 then j else dl x f (j + 1)) ≤ b ∨ _
    by_cases h : x / 10 ^ j < 10
    · left
      rw [if_pos h]
      exact hj
    · have hjb : j < b := by
        rcases Nat.lt_or_ge j b with z | z
        · exact z
        · exfalso
          have e : j = b := by omega
          subst e
          rw [Nat.pow_succ] at hx
          have := (Nat.div_lt_iff_lt_mul (Nat.pow_pos (n := j) (show 0 < 10 by omega))).mpr (by rw [Nat.mul_comm]; exact hx)
          exact h this
      left
      rw [if_neg h]
      rcases ih (j + 1) b hx (by omega) with z | z <;> omega
theorem D10_len {x b : Nat} (h : x < 10 ^ (b + 1)) : (D10 x).length ≤ b + 1 := by
  unfold D10
  rw [dg_len]
  rcases dl_le x 9 0 b h (by omega) with z | z <;> omega
theorem okC_app {l m : List Nat} (h1 : okC l) (h2 : okC m) : okC (l ++ m) := fun c hc => by
  rcases List.mem_append.mp hc with z | z
  · exact h1 c z
  · exact h2 c z
theorem okC_D (x : Nat) : okC (D10 x) := fun c hc => by have := D10_dig x c hc; omega
theorem okT_app {T W : List Nat} (h : okT T) (hW : okC W) (hl : T.length + W.length ≤ 400) : okT (T ++ W) := ⟨by rw [List.length_append]; exact hl, okC_app h.2 hW⟩
/-! the class's page -/
def pgC (σ : mG) (T : List Nat) : Prop := okT T ∧ cT (σ.1 1 1) (σ.1 2) T
def fP (σ σ' : mG) : Prop := σ'.2 = σ.2 ∧ ∀ c, c ≠ 1 → c ≠ 2 → σ'.1 c = σ.1 c
theorem fP.rfl' {σ : mG} : fP σ σ := ⟨rfl, fun _ _ _ => rfl⟩
theorem fP.tr {σ σ1 σ2 : mG} (a : fP σ σ1) (b : fP σ1 σ2) : fP σ σ2 := ⟨b.1.trans a.1, fun c h1 h2 => (b.2 c h1 h2).trans (a.2 c h1 h2)⟩
theorem cT_snoc2 {a : Int32} {f : Nat → Int32} {T : List Nat} {c : Nat} {a' : Int32} {f' : Nat → Int32} (h : cT a f T) (ha : a' = nI (T.length + 1)) (hf : f' = upd f T.length (nI c)) : cT a' f' (T ++ [c]) := by
  refine ⟨by rw [ha, List.length_append]; rfl, fun i hi => ?_⟩
  rw [List.length_append] at hi
  have hi : i < T.length + 1 := hi
  rw [hf]
  by_cases e : i = T.length
  · rw [e, mi_upd_same, List.getD_eq_getElem?_getD, List.getElem?_append_right (Nat.le_refl _), Nat.sub_self]
    rfl
  · rw [mi_upd_ne _ _ e, h.2 i (by omega), List.getD_eq_getElem?_getD, List.getD_eq_getElem?_getD, List.getElem?_append_left (by omega)]
section
variable {X : Nat × (Nat → Int32)} {d : Nat}
theorem K40p {σ : mG} {T : List Nat} {c : Nat} (h : pgC σ T) (hl : T.length < 400) (hc : 32 ≤ c ∧ c ≤ 126) : ∃ σ', RR X (d + 1) 40 [.ref 1, .int (nI c)] σ (some (.int 1), σ') ∧ fP σ σ' ∧ pgC σ' (T ++ [c]) := by
  have e : σ.1 1 1 < 400 := by
    rw [h.2.1]
    exact nI_lt (b := 400) hl (by omega)
  have hcl : (σ.1 1 1).toNatClampNeg = T.length := by
    rw [h.2.1]
    exact nI_clamp (by omega)
  refine ⟨_, mi_R.of rfl rfl (R40_0 (fun _ => by rw [h.2.1]; exact mi_in_nI hl (by omega)) (fun _ => rfl) (fun y => absurd e y)), ⟨rfl, fun c' h1 h2 => (mi_uc_ne _ _ h1).trans (mi_uc_ne _ _ h2)⟩, okT_app h.1 (fun x hx => by rw [List.mem_singleton.mp hx]; exact hc) (by show T.length + 1 ≤ 400; omega), cT_snoc2 h.2 ?_ ?_⟩
  · show upd (σ.1 1) 1 (σ.1 1 1 + 1) 1 = _
    rw [mi_upd_same, h.2.1, nI_1]
  · show upd (σ.1 2) _ _ = _
    rw [hcl, nar1 hc.2]
theorem L41 {w : Nat} {W : List Nat} (hw : wd w W) (hW : okC W) : ∀ (k j : Nat) (σ : mG) (T : List Nat), j + k = W.length → pgC σ T → T.length + k ≤ 400 → ∃ σ', TT X (d + 1) tb41 none (2, [some (.ref 1), some (.ref w), some (.int (nI j))], [], σ) (none, σ') ∧ fP σ σ' ∧ pgC σ' (T ++ W.drop j) := by
  have hl := hw.2.1
  intro k
  induction k with
  | zero =>
    intro j σ T hj h _
    refine ⟨σ, R41_2 (v2 := 0) (v3 := 0) (σ1 := σ) (wd_len hw σ) (fun _ => rfl) (fun y => absurd (nI_le (by omega) (by omega)) y) (fun y => absurd (nI_le (by omega) (by omega)) y) (fun y => absurd (nI_le (by omega) (by omega)) y), fP.rfl', ?_⟩
    rw [List.drop_eq_nil_of_le (by omega), List.append_nil]
    exact h
  | succ k ih =>
    intro j σ T hj h hlen
    have hjl : j < W.length := by omega
    have hc := hW (W.getD j 0) (by rw [List.getD_eq_getElem?_getD, List.getElem?_eq_getElem hjl]; exact List.getElem_mem _)
    obtain ⟨σ1, a1, a2, a3⟩ := K40p (X := X) (d := d) h (by omega) hc
    obtain ⟨σ2, b1, b2, b3⟩ := ih (j + 1) σ1 (T ++ [W.getD j 0]) (by omega) a3 (by rw [List.length_append]; show T.length + 1 + k ≤ 400; omega)
    refine ⟨σ2, R41_2 (wd_len hw σ) (fun y => absurd y (nI_ge (by omega) (by omega))) (fun _ => wd_at hw σ hjl) (fun _ => a1) (fun _ => by rw [nI_1]; exact b1), a2.tr b2, ?_⟩
    rw [drop_getD hjl, ← List.singleton_append, ← List.append_assoc]
    exact b3
theorem K41 {w : Nat} {W : List Nat} (hw : wd w W) (hW : okC W) {σ : mG} {T : List Nat} (h : pgC σ T) (hl : T.length + W.length ≤ 400) : ∃ σ', RR X (d + 2) 41 [.ref 1, .ref w] σ (none, σ') ∧ fP σ σ' ∧ pgC σ' (T ++ W) := by
  obtain ⟨σ', a, b, c⟩ := L41 (X := X) (d := d) hw hW W.length 0 σ T (by omega) h hl
  exact ⟨σ', mi_R.of rfl rfl (R41_0 a), b, c⟩
theorem L42a {σ : mG} {x : Nat} (hx : x < 1000000000) {r : mA mG} : ∀ (f j : Nat), j + f = 9 → (∀ x3, TT X d tb42 none (29, [some (.ref 1), some (.int (nI x)), some (.int (nI (10 ^ (dl x f j)))), some (.int x3)], [], σ) r) → TT X d tb42 none (4, [some (.ref 1), some (.int (nI x)), some (.int (nI (10 ^ j))), some (.int (nI j))], [], σ) r := by
  intro f
  induction f with
  | zero =>
    intro j hj k
    have z : (9 : Int32) ≤ nI j := nI_le (a := 9) (by omega) (by omega)
    exact R42_4 (fun _ => k _) (fun y => absurd z y) (fun y => absurd z y) (fun y => absurd z y)
  | succ f ih =>
    intro j hj k
    have z : ¬ (9 : Int32) ≤ nI j := nI_ge (b := 9) (by omega) (by omega)
    have hp : 0 < 10 ^ j := Nat.pow_pos (by omega)
    have hp2 : 10 ^ j ≤ 10 ^ 8 := Nat.pow_le_pow_right (by omega) (by omega)
    have ed : nI x / nI (10 ^ j) = nI (x / 10 ^ j) := pk_div (by omega) hp (by omega)
    have hd : x / 10 ^ j ≤ x := Nat.div_le_self _ _
    have el : nI x / nI (10 ^ j) < 10 ↔ x / 10 ^ j < 10 := by
      rw [ed]
      exact nI_ltI (b := 10) (by omega) (by omega)
    have ek : dl x (f + 1) j = if x / 10 ^ j < 10 then j else dl x f (j + 1) := rfl
    refine R42_4 (fun y => absurd y z) (fun _ => nI_ne0 hp (by omega)) (fun _ y => ?_) (fun _ y => ?_)
    · rw [ek, if_pos (el.mp y)] at k
      exact k _
    · rw [ek, if_neg fun q => y (el.mpr q)] at k
      rw [show (10 : Int32) = nI 10 from rfl, pk_mul, nI_1, ← Nat.pow_succ]
      exact ih (j + 1) (by omega) k
theorem dig_I {x j : Nat} (hx : x < 1000000000) (hj : j ≤ 9) : 48 + (nI x / nI (10 ^ j) - nI x / nI (10 ^ j) / 10 * 10) = nI (48 + x / 10 ^ j % 10) := by
  have hp : 0 < 10 ^ j := Nat.pow_pos (by omega)
  have hp2 : 10 ^ j ≤ 10 ^ 9 := Nat.pow_le_pow_right (by omega) hj
  have hd : x / 10 ^ j ≤ x := Nat.div_le_self _ _
  rw [pk_div (by omega) hp (by omega), show (10 : Int32) = nI 10 from rfl, pk_rem (by omega) (by omega) (by omega), show (48 : Int32) = nI 48 from rfl, nI_add]
theorem uN_10 (j : Nat) : nI (uN (j + 1)) / 10 = nI (uN j) ∨ 9 < j := by
  by_cases h : j ≤ 9
  · left
    have hp : 0 < uN (j + 1) := Nat.pow_pos (by omega)
    have hp2 : uN (j + 1) ≤ 10 ^ 9 := Nat.pow_le_pow_right (by omega) h
    rw [show (10 : Int32) = nI 10 from rfl, pk_div (by omega) (by omega) (by omega), uN_div]
  · right
    omega
theorem dl_9 (x : Nat) : ∀ (f j : Nat), dl x f j ≤ j + f := by
  intro f
  induction f with
  | zero => exact fun j => Nat.le_refl _
  | succ f ih =>
    intro j
    show (if x / 10 ^ j < 10 then j else dl x f (j + 1)) ≤ _
    split
    · omega
    · have := ih (j + 1)
      omega
theorem K42 {x : Nat} (hx : x < 1000000000) {σ : mG} {T : List Nat} (h : pgC σ T) (hl : T.length + 10 ≤ 400) : ∃ σ', RR X (d + 2) 42 [.ref 1, .int (nI x)] σ (none, σ') ∧ fP σ σ' ∧ pgC σ' (T ++ D10 x) := by
  have h9 := dl_9 x 9 0
  have key2 : ∃ σ', (∀ x3, TT X (d + 1) tb42 none (29, [some (.ref 1), some (.int (nI x)), some (.int (nI (uN (dl x 9 0 + 1)))), some (.int x3)], [], σ) (none, σ')) ∧ fP σ σ' ∧ pgC σ' (T ++ D10 x) := by
    have gen : ∀ (j : Nat) (σ : mG) (T : List Nat), j ≤ 10 → pgC σ T → T.length + j ≤ 400 → ∃ σ', (∀ x3, TT X (d + 1) tb42 none (29, [some (.ref 1), some (.int (nI x)), some (.int (nI (uN j))), some (.int x3)], [], σ) (none, σ')) ∧ fP σ σ' ∧ pgC σ' (T ++ dg j x) := by
      intro j
      induction j with
      | zero =>
        intro σ T _ h _
        have z : nI (uN 0) ≤ 0 := by decide
        refine ⟨σ, fun x3 => R42_29 (v1 := 0) (σ1 := σ) (fun _ => rfl) (fun y => absurd z y) (fun y => absurd z y) (fun y => absurd z y), fP.rfl', ?_⟩
        rw [show dg 0 x = [] from rfl, List.append_nil]
        exact h
      | succ j ih =>
        intro σ T hj h hl
        have hp : 0 < uN (j + 1) := Nat.pow_pos (by omega)
        have hp2 : uN (j + 1) ≤ 10 ^ 9 := Nat.pow_le_pow_right (by omega) (by omega)
        have z : ¬ nI (uN (j + 1)) ≤ 0 := nI_nle hp (by omega)
        have hm := Nat.mod_lt (x / 10 ^ j) (show 0 < 10 by omega)
        obtain ⟨σ1, a1, a2, a3⟩ := K40p (X := X) (d := d) (c := 48 + x / 10 ^ j % 10) h (by omega) (by omega)
        obtain ⟨σ2, b1, b2, b3⟩ := ih σ1 (T ++ [48 + x / 10 ^ j % 10]) (by omega) a3 (by rw [List.length_append]; show T.length + 1 + j ≤ 400; omega)
        refine ⟨σ2, fun x3 => R42_29 (v1 := 1) (σ1 := σ1) (fun y => absurd y z) (fun _ => nI_ne0 hp (by omega)) (fun _ => ?_) (fun _ => ?_), a2.tr b2, ?_⟩
        · have e := dig_I (j := j) hx (by omega)
          have e : 48 + (nI x / nI (uN (j + 1)) - nI x / nI (uN (j + 1)) / 10 * 10) = nI (48 + x / 10 ^ j % 10) := e
          rw [e, pk_char, pk_tn (by omega), Nat.mod_eq_of_lt (by omega)]
          exact a1
        · rw [(uN_10 j).resolve_right (by omega)]
          exact b1 x3
        · show pgC σ2 (T ++ (48 + x / 10 ^ j % 10) :: dg j x)
          rw [← List.singleton_append, ← List.append_assoc]
          exact b3
    exact gen (dl x 9 0 + 1) σ T (by omega) h (by omega)
  obtain ⟨σ', t, b, c⟩ := key2
  exact ⟨σ', mi_R.of rfl rfl (R42_0 (L42a hx 9 0 (by omega) t)), b, c⟩
theorem K43 {σ : mG} {T : List Nat} {k : Nat} (h : pgC σ T) (hk : k ≤ T.length) : ∃ σ', RR X (d + 1) 43 [.ref 1, .int (nI k)] σ (none, σ') ∧ fP σ σ' ∧ pgC σ' (T.take k) := by
  have hl := h.1.1
  have z1 : ¬ nI k < 0 := nI_pos (by omega)
  have z2 : ¬ σ.1 1 1 < nI k := by
    rw [h.2.1]
    exact nI_nlt hk (by omega)
  have hlen : (T.take k).length = k := by rw [List.length_take]; omega
  refine ⟨_, mi_R.of rfl rfl (R43_0 (fun y => absurd y z1) (fun _ y => absurd y z2) (fun _ _ => rfl)), ⟨rfl, fun c' h1 _ => mi_uc_ne _ _ h1⟩, ⟨by rw [hlen]; omega, fun c hc => h.1.2 c (List.mem_of_mem_take hc)⟩, ?_, fun i hi => ?_⟩
  · show upd (σ.1 1) 1 (nI k) 1 = _
    rw [mi_upd_same, hlen]
  · rw [hlen] at hi
    have := h.2.2 i (by omega)
    show σ.1 2 i = _
    rw [this, List.getD_eq_getElem?_getD, List.getD_eq_getElem?_getD, List.getElem?_take_of_lt hi]
/-! the reference's page -/
def pgM (σ : mG) (T : List Nat) : Prop := okT T ∧ cT (σ.1 38 4) (σ.1 39) T
def fQ (σ σ' : mG) : Prop := σ'.2 = σ.2 ∧ (∀ c, c ≠ 38 → c ≠ 39 → σ'.1 c = σ.1 c) ∧ ∀ k, k ≠ 4 → σ'.1 38 k = σ.1 38 k
theorem fQ.rfl' {σ : mG} : fQ σ σ := ⟨rfl, fun _ _ _ => rfl, fun _ _ => rfl⟩
theorem fQ.tr {σ σ1 σ2 : mG} (a : fQ σ σ1) (b : fQ σ1 σ2) : fQ σ σ2 := ⟨b.1.trans a.1, fun c h1 h2 => (b.2.1 c h1 h2).trans (a.2.1 c h1 h2), fun k h => (b.2.2 k h).trans (a.2.2 k h)⟩
def pM (σ : mG) (v : Int32) : mG := (mi_uc (mi_uc σ.1 39 (upd (σ.1 39) (σ.1 38 4).toNatClampNeg v)) 38 (upd (σ.1 38) 4 (σ.1 38 4 + 1)), σ.2)
theorem pM_ok {σ : mG} {T : List Nat} {c : Nat} (h : pgM σ T) (hl : T.length < 400) (hc : 32 ≤ c ∧ c ≤ 126) : mi_in (σ.1 38 4) 400 = true ∧ fQ σ (pM σ (nI c)) ∧ pgM (pM σ (nI c)) (T ++ [c]) := by
  have hcl : (σ.1 38 4).toNatClampNeg = T.length := by
    rw [h.2.1]
    exact nI_clamp (by omega)
  refine ⟨by rw [h.2.1]; exact mi_in_nI hl (by omega), ⟨rfl, fun c' h1 h2 => (mi_uc_ne _ _ h1).trans (mi_uc_ne _ _ h2), fun k hk => mi_upd_ne (σ.1 38) (σ.1 38 4 + 1) hk⟩, okT_app h.1 (fun x hx => by rw [List.mem_singleton.mp hx]; exact hc) (by show T.length + 1 ≤ 400; omega), cT_snoc2 h.2 ?_ ?_⟩
  · show upd (σ.1 38) 4 (σ.1 38 4 + 1) 4 = _
    rw [mi_upd_same, h.2.1, nI_1]
  · show upd (σ.1 39) _ _ = _
    rw [hcl]
theorem L186 {w : Nat} (hw : w < 2 ^ 63) : ∀ (k : Nat) (V : List Nat) (σ : mG) (T : List Nat) (u : Option Value), k ≤ 8 → V.length ≤ k → okC V → w % 256 ^ k = pk8 V → pgM σ T → T.length + V.length ≤ 400 → ∃ σ', TT X d tb186 none (3, [some (.ref 38), some (.long (lN w)), none, some (.int (s8 k)), u], [], σ) (none, σ') ∧ fQ σ σ' ∧ pgM σ' (T ++ V) := by
  intro k
  induction k with
  | zero =>
    intro V σ T u _ hV _ _ h _
    have : V = [] := List.length_eq_zero_iff.mp (Nat.le_zero.mp hV)
    subst this
    refine ⟨σ, R186_3 (fun _ => rfl) (fun y => absurd (by decide) y) (fun y => absurd (by decide) y) (fun y => absurd (by decide) y), fQ.rfl', ?_⟩
    rw [List.append_nil]
    exact h
  | succ k ih =>
    intro V σ T u hk hV hok he h hl
    have z0 : ¬ s8 (k + 1) < 0 := nI_pos (n := 8 * k) (by omega)
    have hb : ((lN w >>> ((s8 (k + 1)).toInt64 &&& 63)) &&& 255).toInt32 = nI (w / 256 ^ k % 256) := byt hw (by omega)
    have hpow : 0 < 256 ^ k := Nat.pow_pos (by omega)
    have e2 : w % (256 ^ k * 256) = pk8 V := by rw [← Nat.pow_succ]; exact he
    have eb : w / 256 ^ k % 256 = pk8 V / 256 ^ k := by rw [← Nat.mod_mul_right_div_self, e2]
    have em : w % 256 ^ k = pk8 V % 256 ^ k := by
      have : w % (256 ^ k * 256) % 256 ^ k = w % 256 ^ k := Nat.mod_mul_right_mod _ _ _
      rw [← this, e2]
    by_cases hVk : V.length ≤ k
    · have hlt : pk8 V < 256 ^ k := by
        have h1 := pk8_lt V hok
        have h2 : 256 ^ V.length ≤ 256 ^ k := Nat.pow_le_pow_right (by omega) hVk
        omega
      rw [eb, Nat.div_eq_of_lt hlt] at hb
      rw [Nat.mod_eq_of_lt hlt] at em
      obtain ⟨σ', a, b, c⟩ := ih V σ T (some (.int (((lN w >>> ((s8 (k + 1)).toInt64 &&& 63)) &&& 255).toInt32))) (by omega) hVk hok em h hl
      refine ⟨σ', R186_3 (fun y => absurd y z0) (fun _ _ => ?_) (fun _ y => absurd hb y) (fun _ y => absurd hb y), b, c⟩
      rw [show s8 (k + 1) + (-8) = s8 k from s8_step k]
      exact a
    · match V, hV, hVk, hok, eb, em, hl with
      | [], hV, hVk, _, _, _, _ => exact absurd (Nat.zero_le k) hVk
      | a :: V', hV, hVk, hok, eb, em, hl =>
        have hlen : V'.length = k := by
          have h1 : (a :: V').length = V'.length + 1 := rfl
          omega
        have hok' : okC V' := fun c hc => hok c (List.mem_cons_of_mem _ hc)
        have ha := hok a (List.mem_cons_self ..)
        have hlt : pk8 V' < 256 ^ k := by
          have h1 := pk8_lt V' hok'
          rw [hlen] at h1
          omega
        rw [pk8_cons, hlen] at eb em
        rw [Nat.mul_comm, Nat.mul_add_div hpow, Nat.div_eq_of_lt hlt, Nat.add_zero] at eb
        rw [Nat.mul_comm, Nat.mul_add_mod, Nat.mod_eq_of_lt hlt] at em
        rw [eb] at hb
        have nz : ¬ ((lN w >>> ((s8 (k + 1)).toInt64 &&& 63)) &&& 255).toInt32 = 0 := by
          rw [hb]
          exact nI_ne0 (by omega) (by omega)
        have hl' : T.length + (V'.length + 1) ≤ 400 := hl
        obtain ⟨p1, p2, p3⟩ := pM_ok h (c := a) (by omega) ha
        obtain ⟨σ', t1, t2, t3⟩ := ih V' (pM σ (nI a)) (T ++ [a]) (some (.int (((lN w >>> ((s8 (k + 1)).toInt64 &&& 63)) &&& 255).toInt32))) (by omega) (by omega) hok' em p3 (by rw [List.length_append]; show T.length + 1 + V'.length ≤ 400; omega)
        refine ⟨σ', R186_3 (fun y => absurd y z0) (fun _ y => absurd y nz) (fun _ _ => p1) (fun _ _ => ?_), p2.tr t2, ?_⟩
        · rw [show s8 (k + 1) + (-8) = s8 k from s8_step k]
          have e : (mi_uc (mi_uc σ.1 39 (upd (σ.1 39) (σ.1 38 4).toNatClampNeg (((lN w >>> ((s8 (k + 1)).toInt64 &&& 63)) &&& 255).toInt32))) 38 (upd (σ.1 38) 4 (σ.1 38 4 + 1)), σ.2) = pM σ (nI a) := by
            rw [hb]
            rfl
          rw [e]
          exact t1
        · rw [← List.singleton_append, ← List.append_assoc]
          exact t3
theorem K186 {W : List Nat} (hW : okC W) (h8 : W.length ≤ 8) {y : Int64} (hy : y = lN (pk8 W)) {σ : mG} {T : List Nat} (h : pgM σ T) (hl : T.length + W.length ≤ 400) : ∃ σ', RR X (d + 1) 186 [.ref 38, .long y] σ (none, σ') ∧ fQ σ σ' ∧ pgM σ' (T ++ W) := by
  have hlt := pk8_63 hW h8
  obtain ⟨σ', a, b⟩ := L186 (X := X) (d := d) hlt 8 W σ T none (Nat.le_refl _) h8 hW (Nat.mod_eq_of_lt (by omega)) h hl
  rw [hy]
  exact ⟨σ', mi_R.of rfl rfl (R186_0 a), b⟩
theorem L187a {σ : mG} {x : Nat} (hx : x < 1000000000) {r : mA mG} : ∀ (f j : Nat), j + f = 9 → TT X d tb187 none (18, [some (.ref 38), some (.int (nI x)), some (.int (nI (10 ^ (dl x f j))))], [], σ) r → TT X d tb187 none (2, [some (.ref 38), some (.int (nI x)), some (.int (nI (10 ^ j)))], [], σ) r := by
  intro f
  induction f with
  | zero =>
    intro j hj k
    have : j = 9 := by omega
    subst this
    have ed : nI x / nI (10 ^ 9) = nI (x / 10 ^ 9) := pk_div (by omega) (by decide) (by decide)
    have el : nI x / nI (10 ^ 9) < 10 := by
      rw [ed]
      exact nI_lt (b := 10) (by omega) (by omega)
    exact R187_2 (nI_ne0 (by decide) (by decide)) (fun _ => k) (fun y => absurd el y)
  | succ f ih =>
    intro j hj k
    have hp : 0 < 10 ^ j := Nat.pow_pos (by omega)
    have hp2 : 10 ^ j ≤ 10 ^ 8 := Nat.pow_le_pow_right (by omega) (by omega)
    have ed : nI x / nI (10 ^ j) = nI (x / 10 ^ j) := pk_div (by omega) hp (by omega)
    have hd : x / 10 ^ j ≤ x := Nat.div_le_self _ _
    have el : nI x / nI (10 ^ j) < 10 ↔ x / 10 ^ j < 10 := by
      rw [ed]
      exact nI_ltI (b := 10) (by omega) (by omega)
    have ek : dl x (f + 1) j = if x / 10 ^ j < 10 then j else dl x f (j + 1) := rfl
    refine R187_2 (nI_ne0 hp (by omega)) (fun y => ?_) (fun y => ?_)
    · rw [ek, if_pos (el.mp y)] at k
      exact k
    · rw [ek, if_neg fun q => y (el.mpr q)] at k
      rw [show (10 : Int32) = nI 10 from rfl, pk_mul, ← Nat.pow_succ]
      exact ih (j + 1) (by omega) k
theorem L187b {x : Nat} (hx : x < 1000000000) : ∀ (j : Nat) (σ : mG) (T : List Nat), j ≤ 10 → pgM σ T → T.length + j ≤ 400 → ∃ σ', TT X d tb187 none (18, [some (.ref 38), some (.int (nI x)), some (.int (nI (uN j)))], [], σ) (none, σ') ∧ fQ σ σ' ∧ pgM σ' (T ++ dg j x) := by
  intro j
  induction j with
  | zero =>
    intro σ T _ h _
    have z : nI (uN 0) ≤ 0 := by decide
    refine ⟨σ, R187_18 (fun _ => rfl) (fun y => absurd z y) (fun y => absurd z y) (fun y => absurd z y), fQ.rfl', ?_⟩
    rw [show dg 0 x = [] from rfl, List.append_nil]
    exact h
  | succ j ih =>
    intro σ T hj h hl
    have hp : 0 < uN (j + 1) := Nat.pow_pos (by omega)
    have hp2 : uN (j + 1) ≤ 10 ^ 9 := Nat.pow_le_pow_right (by omega) (by omega)
    have z : ¬ nI (uN (j + 1)) ≤ 0 := nI_nle hp (by omega)
    have hm := Nat.mod_lt (x / 10 ^ j) (show 0 < 10 by omega)
    obtain ⟨p1, p2, p3⟩ := pM_ok h (c := 48 + x / 10 ^ j % 10) (by omega) (by omega)
    obtain ⟨σ2, b1, b2, b3⟩ := ih (pM σ (nI (48 + x / 10 ^ j % 10))) (T ++ [48 + x / 10 ^ j % 10]) (by omega) p3 (by rw [List.length_append]; show T.length + 1 + j ≤ 400; omega)
    refine ⟨σ2, R187_18 (fun y => absurd y z) (fun _ => nI_ne0 hp (by omega)) (fun _ => p1) (fun _ => ?_), p2.tr b2, ?_⟩
    · have e := dig_I (j := j) hx (by omega)
      have e : 48 + (nI x / nI (uN (j + 1)) - nI x / nI (uN (j + 1)) / 10 * 10) = nI (48 + x / 10 ^ j % 10) := e
      rw [e, (uN_10 j).resolve_right (by omega)]
      exact b1
    · show pgM σ2 (T ++ (48 + x / 10 ^ j % 10) :: dg j x)
      rw [← List.singleton_append, ← List.append_assoc]
      exact b3
theorem K187 {x : Nat} (hx : x < 1000000000) {σ : mG} {T : List Nat} (h : pgM σ T) (hl : T.length + 10 ≤ 400) : ∃ σ', RR X (d + 1) 187 [.ref 38, .int (nI x)] σ (none, σ') ∧ fQ σ σ' ∧ pgM σ' (T ++ D10 x) := by
  have h9 := dl_9 x 9 0
  obtain ⟨σ', t, b⟩ := L187b (X := X) (d := d) hx (dl x 9 0 + 1) σ T (by omega) h (by omega)
  exact ⟨σ', mi_R.of rfl rfl (R187_0 (L187a hx 9 0 (by omega) t)), b⟩
end
