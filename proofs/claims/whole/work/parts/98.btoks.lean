/-! What an issuer writes is a message -/
def aT : List tok → Prop
  | [] => True
  | t :: ts => okTok t ∧ aT ts
theorem aT_mem : ∀ {ts : List tok}, aT ts → ∀ t ∈ ts, okTok t := by
  intro ts
  induction ts with
  | nil => exact fun _ t ht => by cases ht
  | cons x ts ih =>
    intro h t ht
    rcases List.mem_cons.mp ht with z | z
    · rw [z]
      exact h.1
    · exact ih h.2 t z
theorem aT_app : ∀ {ts ts' : List tok}, aT ts → aT ts' → aT (ts ++ ts') := by
  intro ts
  induction ts with
  | nil => exact fun _ h => h
  | cons x ts ih => exact fun h h' => ⟨h.1, ih h.2 h'⟩
theorem tokC {w : List Nat} (h : ∀ c ∈ w, c ≠ 60 ∧ c ≠ 38) : okTok (0, w, []) := ⟨fun _ => h, fun z => absurd rfl z, Nat.zero_le _, fun a ha => (by cases ha), List.Pairwise.nil⟩
theorem tokE {k : Nat} {nm : List Nat} (h : okNm nm) : okTok (k + 1, nm, []) := ⟨fun z => absurd z (Nat.succ_ne_zero k), fun _ => h, Nat.zero_le _, fun a ha => (by cases ha), List.Pairwise.nil⟩
theorem tok1 {k : Nat} {nm : List Nat} {a : List Nat × List Nat} (h : okNm nm) (ha : okAt a) : okTok (k + 1, nm, [a]) := ⟨fun z => absurd z (Nat.succ_ne_zero k), fun _ => h, (by show 1 ≤ 4; omega), fun x hx => (by rw [List.mem_singleton.mp hx]; exact ha), List.pairwise_singleton _ _⟩
theorem tok2 {k : Nat} {nm : List Nat} {a b : List Nat × List Nat} (h : okNm nm) (ha : okAt a) (hb : okAt b) (h1 : pkp 6 a.1 ≠ pkp 6 b.1) : okTok (k + 1, nm, [a, b]) := by
  refine ⟨fun z => absurd z (Nat.succ_ne_zero k), fun _ => h, by show 2 ≤ 4; omega, fun x hx => ?_, ?_⟩
  · rcases List.mem_cons.mp hx with z | z
    · rw [z]
      exact ha
    · rw [List.mem_singleton.mp z]
      exact hb
  · refine List.pairwise_cons.mpr ⟨fun x hx => ?_, List.pairwise_singleton _ _⟩
    rw [List.mem_singleton.mp hx]
    exact h1
theorem tok3 {k : Nat} {nm : List Nat} {a b c : List Nat × List Nat} (h : okNm nm) (ha : okAt a) (hb : okAt b) (hc : okAt c) (h1 : pkp 6 a.1 ≠ pkp 6 b.1) (h2 : pkp 6 a.1 ≠ pkp 6 c.1) (h3 : pkp 6 b.1 ≠ pkp 6 c.1) : okTok (k + 1, nm, [a, b, c]) := by
  refine ⟨fun z => absurd z (Nat.succ_ne_zero k), fun _ => h, by show 3 ≤ 4; omega, fun x hx => ?_, ?_⟩
  · rcases List.mem_cons.mp hx with z | z
    · rw [z]
      exact ha
    · rcases List.mem_cons.mp z with z | z
      · rw [z]
        exact hb
      · rw [List.mem_singleton.mp z]
        exact hc
  · refine List.pairwise_cons.mpr ⟨fun x hx => ?_, List.pairwise_cons.mpr ⟨fun x hx => ?_, List.pairwise_singleton _ _⟩⟩
    · rcases List.mem_cons.mp hx with z | z
      · rw [z]
        exact h1
      · rw [List.mem_singleton.mp z]
        exact h2
    · rw [List.mem_singleton.mp hx]
      exact h3
theorem o_wResp : okNm wResp := ⟨by decide, by decide, by decide⟩
theorem o_wID : okNm wID := ⟨by decide, by decide, by decide⟩
theorem o_wIrt : okNm wIrt := ⟨by decide, by decide, by decide⟩
theorem o_wTo : okNm wTo := ⟨by decide, by decide, by decide⟩
theorem o_wIss : okNm wIss := ⟨by decide, by decide, by decide⟩
theorem o_wStat : okNm wStat := ⟨by decide, by decide, by decide⟩
theorem o_wAssn : okNm wAssn := ⟨by decide, by decide, by decide⟩
theorem o_wSubj : okNm wSubj := ⟨by decide, by decide, by decide⟩
theorem o_wName : okNm wName := ⟨by decide, by decide, by decide⟩
theorem o_wConf : okNm wConf := ⟨by decide, by decide, by decide⟩
theorem o_wNoa : okNm wNoa := ⟨by decide, by decide, by decide⟩
theorem o_wRcp : okNm wRcp := ⟨by decide, by decide, by decide⟩
theorem o_wCond : okNm wCond := ⟨by decide, by decide, by decide⟩
theorem o_wAud : okNm wAud := ⟨by decide, by decide, by decide⟩
theorem o_wNb : okNm wNb := ⟨by decide, by decide, by decide⟩
theorem o_wOut : okNm wOut := ⟨by decide, by decide, by decide⟩
theorem o_wRef : okNm wRef := ⟨by decide, by decide, by decide⟩
theorem o_wV : okNm wV := ⟨by decide, by decide, by decide⟩
theorem o_sigL : okNm sigL := ⟨by decide, by decide, by decide⟩
theorem dgV (x : Nat) : ∀ c ∈ D10 x, c ≠ 34 ∧ c ≠ 60 ∧ c ≠ 38 := fun c hc => by
  have := D10_dig x c hc
  omega
theorem dgV1 {a : Nat} (ha : a ≠ 34 ∧ a ≠ 60 ∧ a ≠ 38) (x : Nat) : ∀ c ∈ a :: D10 x, c ≠ 34 ∧ c ≠ 60 ∧ c ≠ 38 := fun c hc => by
  rcases List.mem_cons.mp hc with z | z
  · rw [z]
    exact ha
  · exact dgV x c z
theorem dgC {a : Nat} (ha : a ≠ 60 ∧ a ≠ 38) (x : Nat) : ∀ c ∈ a :: D10 x, c ≠ 60 ∧ c ≠ 38 := fun c hc => by
  rcases List.mem_cons.mp hc with z | z
  · rw [z]
    exact ha
  · exact (dgV x c z).2
def sgT (x i : Nat) : Option Nat → List tok
  | none => []
  | some v => [(2, sigL, [(wRef, x :: D10 i), (wV, D10 v)])]
theorem sgT_ok {x i : Nat} {v : Option Nat} (hx : x ≠ 34 ∧ x ≠ 60 ∧ x ≠ 38) : aT (sgT x i v) := by
  cases v with
  | none => exact trivial
  | some v => exact ⟨tok2 o_sigL ⟨o_wRef, dgV1 hx i⟩ ⟨o_wV, dgV v⟩ (show pkp 6 wRef ≠ pkp 6 wV by decide), trivial⟩
theorem sgT_fl {x i : Nat} {v : Option Nat} : (sgT x i v).flatMap tkT = oSig x i v := by
  cases v with
  | none => rfl
  | some v =>
    show [((2, sigL, [(wRef, x :: D10 i), (wV, D10 v)]) : tok)].flatMap tkT = cSig x i v
    unfold cSig
    simp only [List.flatMap_cons, List.flatMap_nil, tkT, tkA, sigL, wRef, wV, w1017, w1018, w1014, List.append_assoc, List.cons_append, List.nil_append, List.append_nil]
def tkI (i r k u e c : Nat) (v w : Option Nat) : List tok := [(1, wResp, [(wID, 114 :: D10 i), (wIrt, D10 r), (wTo, wAcs)]), (1, wIss, []), (0, 112 :: D10 k, []), (3, wIss, []), (1, wStat, []), (0, wOk, []), (3, wStat, []), (1, wAssn, [(wID, 97 :: D10 i)]), (1, wIss, []), (0, 112 :: D10 k, []), (3, wIss, []), (1, wSubj, []), (1, wName, []), (0, 117 :: D10 u, []), (3, wName, []), (2, wConf, [(wIrt, D10 r), (wNoa, D10 e), (wRcp, wAcs)]), (3, wSubj, []), (2, wCond, [(wAud, wSp), (wNb, D10 c), (wNoa, D10 e)])] ++ (sgT 97 i v ++ ((3, wAssn, []) :: (sgT 114 i w ++ [(3, wResp, [])])))
def tkO (i k u : Nat) (v : Option Nat) : List tok := [(1, wOut, [(wID, 111 :: D10 i), (wTo, wAcs)]), (1, wIss, []), (0, 112 :: D10 k, []), (3, wIss, []), (1, wName, []), (0, 117 :: D10 u, []), (3, wName, [])] ++ (sgT 111 i v ++ [(3, wOut, [])])
theorem tI_fl (i r k u e c : Nat) (v w : Option Nat) : tI i r k u e c v w = (tkI i r k u e c v w).flatMap tkT := by
  unfold tI tkI cHead cAssn cIss cUsr
  simp only [List.flatMap_append, List.flatMap_cons, List.flatMap_nil, sgT_fl, tkT, tkA, wResp, wID, wIrt, wTo, wAcs, wIss, wStat, wOk, wAssn, wSubj, wName, wConf, wNoa, wRcp, wCond, wAud, wSp, wNb, w1000, w1001, w1002, w1003, w1004, w1005, w1006, w1007, w1008, w1009, w1010, w1011, w1012, w1013, w1014, w1019, w1020, List.append_assoc, List.cons_append, List.nil_append, List.append_nil]
theorem tO_fl (i k u : Nat) (v : Option Nat) : tO i k u v = (tkO i k u v).flatMap tkT := by
  unfold tO tkO cIss cUsr
  simp only [List.flatMap_append, List.flatMap_cons, List.flatMap_nil, sgT_fl, tkT, tkA, wOut, wID, wTo, wAcs, wIss, wName, w1002, w1003, w1004, w1009, w1010, w1021, w1022, List.append_assoc, List.cons_append, List.nil_append, List.append_nil]
theorem tkI_ok (i r k u e c : Nat) (v w : Option Nat) : ∀ t ∈ tkI i r k u e c v w, okTok t := by
  have ac : ∀ c ∈ wAcs, c ≠ 34 ∧ c ≠ 60 ∧ c ≠ 38 := by decide
  have sp : ∀ c ∈ wSp, c ≠ 34 ∧ c ≠ 60 ∧ c ≠ 38 := by decide
  exact aT_mem (aT_app ⟨tok3 o_wResp ⟨o_wID, dgV1 (by decide) i⟩ ⟨o_wIrt, dgV r⟩ ⟨o_wTo, ac⟩ (show pkp 6 wID ≠ pkp 6 wIrt by decide) (show pkp 6 wID ≠ pkp 6 wTo by decide) (show pkp 6 wIrt ≠ pkp 6 wTo by decide), tokE o_wIss, tokC (dgC (by decide) k), tokE o_wIss, tokE o_wStat, tokC (by decide), tokE o_wStat, tok1 o_wAssn ⟨o_wID, dgV1 (by decide) i⟩, tokE o_wIss, tokC (dgC (by decide) k), tokE o_wIss, tokE o_wSubj, tokE o_wName, tokC (dgC (by decide) u), tokE o_wName, tok3 o_wConf ⟨o_wIrt, dgV r⟩ ⟨o_wNoa, dgV e⟩ ⟨o_wRcp, ac⟩ (show pkp 6 wIrt ≠ pkp 6 wNoa by decide) (show pkp 6 wIrt ≠ pkp 6 wRcp by decide) (show pkp 6 wNoa ≠ pkp 6 wRcp by decide), tokE o_wSubj, tok3 o_wCond ⟨o_wAud, sp⟩ ⟨o_wNb, dgV c⟩ ⟨o_wNoa, dgV e⟩ (show pkp 6 wAud ≠ pkp 6 wNb by decide) (show pkp 6 wAud ≠ pkp 6 wNoa by decide) (show pkp 6 wNb ≠ pkp 6 wNoa by decide), trivial⟩ (aT_app (sgT_ok (by decide)) ⟨tokE o_wAssn, aT_app (sgT_ok (by decide)) ⟨tokE o_wResp, trivial⟩⟩))
theorem tkO_ok (i k u : Nat) (v : Option Nat) : ∀ t ∈ tkO i k u v, okTok t := by
  have ac : ∀ c ∈ wAcs, c ≠ 34 ∧ c ≠ 60 ∧ c ≠ 38 := by decide
  exact aT_mem (aT_app ⟨tok2 o_wOut ⟨o_wID, dgV1 (by decide) i⟩ ⟨o_wTo, ac⟩ (show pkp 6 wID ≠ pkp 6 wTo by decide), tokE o_wIss, tokC (dgC (by decide) k), tokE o_wIss, tokE o_wName, tokC (dgC (by decide) u), tokE o_wName, trivial⟩ (aT_app (sgT_ok (by decide)) ⟨tokE o_wOut, trivial⟩))
theorem tI_read (i r k u e c : Nat) (v w : Option Nat) (hl : (tI i r k u e c v w).length ≤ 400) : bnS (tI i r k u e c v w) = false ∧ ∃ y : Nat × (Nat → mEl), rdS (tI i r k u e c v w) = some y ∧ 3 < y.1 ∧ gM (tI i r k u e c v w) y.1 y.2 := by
  have h1 := tI_fl i r k u e c v w
  have h2 := tkI_ok i r k u e c v w
  refine ⟨bn_at h1 h2, ?_⟩
  have h3 : ∃ N, chk0 (tkI i r k u e c v w) = some N ∧ 3 < N := by
    cases v with
    | none =>
      cases w with
      | none => exact ⟨9, rfl, by omega⟩
      | some w => exact ⟨10, rfl, by omega⟩
    | some v =>
      cases w with
      | none => exact ⟨10, rfl, by omega⟩
      | some w => exact ⟨11, rfl, by omega⟩
  obtain ⟨N, h4, h5⟩ := h3
  obtain ⟨E, h6⟩ := rd_at h1 hl h4 h2
  exact ⟨(N, E), h6, h5, msg_gM (rd_msg h6)⟩
theorem tO_read (i k u : Nat) (v : Option Nat) (hl : (tO i k u v).length ≤ 400) : bnS (tO i k u v) = false ∧ ∃ y : Nat × (Nat → mEl), rdS (tO i k u v) = some y ∧ 0 < y.1 ∧ gM (tO i k u v) y.1 y.2 := by
  have h1 := tO_fl i k u v
  have h2 := tkO_ok i k u v
  refine ⟨bn_at h1 h2, ?_⟩
  have h3 : ∃ N, chk0 (tkO i k u v) = some N ∧ 0 < N := by
    cases v with
    | none => exact ⟨3, rfl, by omega⟩
    | some v => exact ⟨4, rfl, by omega⟩
  obtain ⟨N, h4, h5⟩ := h3
  obtain ⟨E, h6⟩ := rd_at h1 hl h4 h2
  exact ⟨(N, E), h6, h5, msg_gM (rd_msg h6)⟩
