/-! The shapes of a response and of a logout -/
abbrev wResp : List Nat := [114, 101, 115, 112]
abbrev wTo : List Nat := [116, 111]
abbrev wIrt : List Nat := [105, 114, 116]
abbrev wIss : List Nat := [105, 115, 115]
abbrev wStat : List Nat := [115, 116, 97, 116]
abbrev wAssn : List Nat := [97, 115, 115, 110]
abbrev wCond : List Nat := [99, 111, 110, 100]
abbrev wSubj : List Nat := [115, 117, 98, 106]
abbrev wName : List Nat := [110, 97, 109, 101]
abbrev wConf : List Nat := [99, 111, 110, 102]
abbrev wAud : List Nat := [97, 117, 100]
abbrev wNb : List Nat := [110, 98]
abbrev wNoa : List Nat := [110, 111, 97]
abbrev wRcp : List Nat := [114, 99, 112]
abbrev wOut : List Nat := [111, 117, 116]
abbrev wAcs : List Nat := [97, 99, 115]
abbrev wOk : List Nat := [111, 107]
abbrev wSp : List Nat := [115, 112]
theorem wd_of {w : Nat} {W : List Nat} (h1 : mi_lit qL w = some (W.map nI)) (h2 : W.length ≤ 400) (h3 : ∀ c ∈ W, c < 256) : wd w W := ⟨h1, h2, h3⟩
def hs (T : List Nat) (E : Nat → mEl) (o : Option Nat) (W : List Nat) : Bool := (sxo T E o W).isSome
def hk (T : List Nat) (E : Nat → mEl) (o : Option Nat) (W : List Nat) : Bool := kyl (vlo T E (sxo T E o W))
def hn (T : List Nat) (E : Nat → mEl) (o : Option Nat) (W : List Nat) : Bool := (num (vlo T E (sxo T E o W))).isSome
def hw (T : List Nat) (E : Nat → mEl) (o : Option Nat) : Bool := wrd (bdy T E o)
def pIss (T : List Nat) (n : Nat) (E : Nat → mEl) : Option Nat := one T n E (some 0) wIss
def pStat (T : List Nat) (n : Nat) (E : Nat → mEl) : Option Nat := one T n E (some 0) wStat
def pAssn (T : List Nat) (n : Nat) (E : Nat → mEl) : Option Nat := one T n E (some 0) wAssn
def pSig (T : List Nat) (n : Nat) (E : Nat → mEl) : Option Nat := ccL T n E (some 0) sigL
def pAIss (T : List Nat) (n : Nat) (E : Nat → mEl) : Option Nat := one T n E (pAssn T n E) wIss
def pCond (T : List Nat) (n : Nat) (E : Nat → mEl) : Option Nat := one T n E (pAssn T n E) wCond
def pSubj (T : List Nat) (n : Nat) (E : Nat → mEl) : Option Nat := one T n E (pAssn T n E) wSubj
def pASig (T : List Nat) (n : Nat) (E : Nat → mEl) : Option Nat := ccL T n E (pAssn T n E) sigL
def pName (T : List Nat) (n : Nat) (E : Nat → mEl) : Option Nat := one T n E (pSubj T n E) wName
def pConf (T : List Nat) (n : Nat) (E : Nat → mEl) : Option Nat := one T n E (pSubj T n E) wConf
def pLName (T : List Nat) (n : Nat) (E : Nat → mEl) : Option Nat := one T n E (some 0) wName
def shH (T : List Nat) (n : Nat) (E : Nat → mEl) : Bool := hk T E (some 0) wID && (hs T E (some 0) wTo && (hs T E (some 0) wIrt && (hw T E (pIss T n E) && (hw T E (pStat T n E) && ssg T n E (some 0)))))
def shA (T : List Nat) (n : Nat) (E : Nat → mEl) : Bool := hk T E (pAssn T n E) wID && (hw T E (pAIss T n E) && (ssg T n E (pAssn T n E) && (hs T E (pCond T n E) wAud && (hn T E (pCond T n E) wNb && hn T E (pCond T n E) wNoa))))
def shS (T : List Nat) (n : Nat) (E : Nat → mEl) : Bool := hw T E (pName T n E) && (hs T E (pConf T n E) wIrt && (hs T E (pConf T n E) wRcp && hn T E (pConf T n E) wNoa))
def isR (T : List Nat) (n : Nat) (E : Nat → mEl) : Bool := decide (nmL T (E 0) = wResp) && (shH T n E && (shA T n E && shS T n E))
def isLo (T : List Nat) (n : Nat) (E : Nat → mEl) : Bool := decide (nmL T (E 0) = wOut) && (hk T E (some 0) wID && (hs T E (some 0) wTo && (hw T E (pIss T n E) && (hw T E (pLName T n E) && ssg T n E (some 0)))))
def RS (T : List Nat) (n : Nat) (E : Nat → mEl) : Prop := nmL T (E 0) = wResp ∧ hk T E (some 0) wID = true ∧ hs T E (some 0) wTo = true ∧ hs T E (some 0) wIrt = true ∧ hw T E (pIss T n E) = true ∧ hw T E (pStat T n E) = true ∧ ssg T n E (some 0) = true ∧ hk T E (pAssn T n E) wID = true ∧ hw T E (pAIss T n E) = true ∧ ssg T n E (pAssn T n E) = true ∧ hs T E (pCond T n E) wAud = true ∧ hn T E (pCond T n E) wNb = true ∧ hn T E (pCond T n E) wNoa = true ∧ hw T E (pName T n E) = true ∧ hs T E (pConf T n E) wIrt = true ∧ hs T E (pConf T n E) wRcp = true ∧ hn T E (pConf T n E) wNoa = true
theorem isR_iff {T : List Nat} {n : Nat} {E : Nat → mEl} : isR T n E = true ↔ RS T n E := by
  unfold isR shH shA shS RS
  simp only [Bool.and_eq_true, decide_eq_true_iff, and_assoc]
def LoS (T : List Nat) (n : Nat) (E : Nat → mEl) : Prop := nmL T (E 0) = wOut ∧ hk T E (some 0) wID = true ∧ hs T E (some 0) wTo = true ∧ hw T E (pIss T n E) = true ∧ hw T E (pLName T n E) = true ∧ ssg T n E (some 0) = true
theorem isLo_iff {T : List Nat} {n : Nat} {E : Nat → mEl} : isLo T n E = true ↔ LoS T n E := by
  unfold isLo LoS
  simp only [Bool.and_eq_true, decide_eq_true_iff]
theorem cC_of {T : List Nat} {n : Nat} {E : Nat → mEl} {σ σ' : mG} (h : cC T n E σ) (f : ∀ c, c = 1 ∨ c = 2 ∨ (5 ≤ c ∧ c ≤ 15) → σ'.1 c = σ.1 c) : cC T n E σ' := by
  refine ⟨h.1, ?_, h.2.2.1, rpC_of (fun c h1 h2 => f c (by omega)) h.2.2.2⟩
  rw [f 1 (by omega), f 2 (by omega)]
  exact h.2.1
def u36 (σ : mG) (c k : Nat) (v : Int32) : mG := (mi_uc σ.1 c (upd (σ.1 c) k v), σ.2)
theorem u36_s {σ : mG} {c k : Nat} {v : Int32} : (u36 σ c k v).1 c k = v := by
  show mi_uc σ.1 c (upd (σ.1 c) k v) c k = v
  rw [mi_uc_same, mi_upd_same]
theorem u36_n {σ : mG} {c k j : Nat} {v : Int32} (h : j ≠ k) : (u36 σ c k v).1 c j = σ.1 c j := by
  show mi_uc σ.1 c (upd (σ.1 c) k v) c j = _
  rw [mi_uc_same, mi_upd_ne _ _ h]
theorem u36_c {σ : mG} {c k c' : Nat} {v : Int32} (h : c' ≠ c) : (u36 σ c k v).1 c' = σ.1 c' := mi_uc_ne _ _ h
theorem u36_cC {T : List Nat} {n : Nat} {E : Nat → mEl} {σ : mG} {c k : Nat} {v : Int32} (h : cC T n E σ) (hc : 15 < c) : cC T n E (u36 σ c k v) := cC_of h fun c' hc' => u36_c (by omega)
def r36 (T : List Nat) (n : Nat) (E : Nat → mEl) (σ : mG) : Prop := σ.1 36 1 = oI (pIss T n E) ∧ σ.1 36 2 = oI (pStat T n E) ∧ σ.1 36 3 = oI (pAssn T n E) ∧ σ.1 36 4 = oI (pSig T n E) ∧ σ.1 36 5 = oI (pAIss T n E) ∧ σ.1 36 6 = oI (pCond T n E) ∧ σ.1 36 7 = oI (pSubj T n E) ∧ σ.1 36 8 = oI (pASig T n E) ∧ σ.1 36 9 = oI (pName T n E) ∧ σ.1 36 10 = oI (pConf T n E)
section
variable {X : Nat × (Nat → Int32)} {d : Nat} {T : List Nat} {n : Nat} {E : Nat → mEl} {σ : mG}
theorem oE0 (h : cC T n E σ) : oE n (some 0) := oE_some h.2.2.1.1
theorem K118 (h : cC T n E σ) : ∃ σ', RR X (d + 5) 118 [.ref 36] σ (none, σ') ∧ (σ'.2 = σ.2 ∧ ∀ c, c ≠ 36 → σ'.1 c = σ.1 c) ∧ r36 T n E σ' := by
  let s1 : mG := u36 σ 36 1 (oI (pIss T n E))
  let s2 : mG := u36 s1 36 2 (oI (pStat T n E))
  let s3 : mG := u36 s2 36 3 (oI (pAssn T n E))
  let s4 : mG := u36 s3 36 4 (oI (pSig T n E))
  let s5 : mG := u36 s4 36 5 (oI (pAIss T n E))
  let s6 : mG := u36 s5 36 6 (oI (pCond T n E))
  let s7 : mG := u36 s6 36 7 (oI (pSubj T n E))
  let s8 : mG := u36 s7 36 8 (oI (pASig T n E))
  let s9 : mG := u36 s8 36 9 (oI (pName T n E))
  let s10 : mG := u36 s9 36 10 (oI (pConf T n E))
  have h1 : cC T n E s1 := u36_cC h (by omega)
  have h2 : cC T n E s2 := u36_cC h1 (by omega)
  have h3 : cC T n E s3 := u36_cC h2 (by omega)
  have h4 : cC T n E s4 := u36_cC h3 (by omega)
  have h5 : cC T n E s5 := u36_cC h4 (by omega)
  have h6 : cC T n E s6 := u36_cC h5 (by omega)
  have h7 : cC T n E s7 := u36_cC h6 (by omega)
  have h8 : cC T n E s8 := u36_cC h7 (by omega)
  have h9 : cC T n E s9 := u36_cC h8 (by omega)
  have h10 : cC T n E s10 := u36_cC h9 (by omega)
  have c1 : RR X (d + 4) 59 [.ref 5, .int (oI (some 0)), .ref 1024] σ (some (.int (oI (pIss T n E))), σ) := K59 (X := X) (d := d) (W := wIss) h (oE0 h) ⟨rfl, by decide, by decide⟩
  have c2 : RR X (d + 4) 59 [.ref 5, .int (oI (some 0)), .ref 1025] s1 (some (.int (oI (pStat T n E))), s1) := K59 (X := X) (d := d) (W := wStat) h1 (oE0 h) ⟨rfl, by decide, by decide⟩
  have c3 : RR X (d + 4) 59 [.ref 5, .int (oI (some 0)), .ref 1026] s2 (some (.int (oI (pAssn T n E))), s2) := K59 (X := X) (d := d) (W := wAssn) h2 (oE0 h) ⟨rfl, by decide, by decide⟩
  have c4 : RR X (d + 4) 58 [.ref 5, .int (oI (some 0)), .ref 1027] s3 (some (.int (oI (pSig T n E))), s3) := K58 (X := X) (d := d + 1) (W := sigL) h3 (oE0 h) ⟨rfl, by decide, by decide⟩
  have c5 : RR X (d + 4) 59 [.ref 5, .int (oI (pAssn T n E)), .ref 1024] s4 (some (.int (oI (pAIss T n E))), s4) := K59 (X := X) (d := d) (W := wIss) h4 (one_oE _ _ _ _ _) ⟨rfl, by decide, by decide⟩
  have c6 : RR X (d + 4) 59 [.ref 5, .int (oI (pAssn T n E)), .ref 1028] s5 (some (.int (oI (pCond T n E))), s5) := K59 (X := X) (d := d) (W := wCond) h5 (one_oE _ _ _ _ _) ⟨rfl, by decide, by decide⟩
  have c7 : RR X (d + 4) 59 [.ref 5, .int (oI (pAssn T n E)), .ref 1029] s6 (some (.int (oI (pSubj T n E))), s6) := K59 (X := X) (d := d) (W := wSubj) h6 (one_oE _ _ _ _ _) ⟨rfl, by decide, by decide⟩
  have c8 : RR X (d + 4) 58 [.ref 5, .int (oI (pAssn T n E)), .ref 1027] s7 (some (.int (oI (pASig T n E))), s7) := K58 (X := X) (d := d + 1) (W := sigL) h7 (one_oE _ _ _ _ _) ⟨rfl, by decide, by decide⟩
  have c9 : RR X (d + 4) 59 [.ref 5, .int (oI (pSubj T n E)), .ref 1030] s8 (some (.int (oI (pName T n E))), s8) := K59 (X := X) (d := d) (W := wName) h8 (one_oE _ _ _ _ _) ⟨rfl, by decide, by decide⟩
  have c10 : RR X (d + 4) 59 [.ref 5, .int (oI (pSubj T n E)), .ref 1031] s9 (some (.int (oI (pConf T n E))), s9) := K59 (X := X) (d := d) (W := wConf) h9 (one_oE _ _ _ _ _) ⟨rfl, by decide, by decide⟩
  have e5 : s3.1 36 3 = oI (pAssn T n E) := u36_s
  have e6 : s4.1 36 3 = oI (pAssn T n E) := (u36_n (by omega)).trans (u36_s)
  have e7 : s5.1 36 3 = oI (pAssn T n E) := (u36_n (by omega)).trans ((u36_n (by omega)).trans (u36_s))
  have e8 : s6.1 36 3 = oI (pAssn T n E) := (u36_n (by omega)).trans ((u36_n (by omega)).trans ((u36_n (by omega)).trans (u36_s)))
  have e9 : s7.1 36 7 = oI (pSubj T n E) := u36_s
  have e10 : s8.1 36 7 = oI (pSubj T n E) := (u36_n (by omega)).trans (u36_s)
  refine ⟨s10, mi_R.of rfl rfl (R118_0 (σ1 := σ) (σ2 := s1) (σ3 := s2) (σ4 := s3) (σ5 := s4) (σ6 := s5) (σ7 := s6) (σ8 := s7) (σ9 := s8) (σ10 := s9) (v5 := oI (pAIss T n E)) (v6 := oI (pCond T n E)) (v7 := oI (pSubj T n E)) (v8 := oI (pASig T n E)) (v9 := oI (pName T n E)) (v10 := oI (pConf T n E)) c1 c2 c3 c4 ?_ ?_ ?_ ?_ ?_ ?_ rfl), ⟨rfl, fun c hc => ?_⟩, ?_⟩
  · rw [e5]
    exact c5
  · rw [e6]
    exact c6
  · rw [e7]
    exact c7
  · rw [e8]
    exact c8
  · rw [e9]
    exact c9
  · rw [e10]
    exact c10
  · show s10.1 c = σ.1 c
    exact (u36_c hc).trans ((u36_c hc).trans ((u36_c hc).trans ((u36_c hc).trans ((u36_c hc).trans ((u36_c hc).trans ((u36_c hc).trans ((u36_c hc).trans ((u36_c hc).trans (u36_c hc)))))))))
  · exact ⟨(u36_n (by omega)).trans ((u36_n (by omega)).trans ((u36_n (by omega)).trans ((u36_n (by omega)).trans ((u36_n (by omega)).trans ((u36_n (by omega)).trans ((u36_n (by omega)).trans ((u36_n (by omega)).trans ((u36_n (by omega)).trans (u36_s))))))))), (u36_n (by omega)).trans ((u36_n (by omega)).trans ((u36_n (by omega)).trans ((u36_n (by omega)).trans ((u36_n (by omega)).trans ((u36_n (by omega)).trans ((u36_n (by omega)).trans ((u36_n (by omega)).trans (u36_s)))))))), (u36_n (by omega)).trans ((u36_n (by omega)).trans ((u36_n (by omega)).trans ((u36_n (by omega)).trans ((u36_n (by omega)).trans ((u36_n (by omega)).trans ((u36_n (by omega)).trans (u36_s))))))), (u36_n (by omega)).trans ((u36_n (by omega)).trans ((u36_n (by omega)).trans ((u36_n (by omega)).trans ((u36_n (by omega)).trans ((u36_n (by omega)).trans (u36_s)))))), (u36_n (by omega)).trans ((u36_n (by omega)).trans ((u36_n (by omega)).trans ((u36_n (by omega)).trans ((u36_n (by omega)).trans (u36_s))))), (u36_n (by omega)).trans ((u36_n (by omega)).trans ((u36_n (by omega)).trans ((u36_n (by omega)).trans (u36_s)))), (u36_n (by omega)).trans ((u36_n (by omega)).trans ((u36_n (by omega)).trans (u36_s))), (u36_n (by omega)).trans ((u36_n (by omega)).trans (u36_s)), (u36_n (by omega)).trans (u36_s), u36_s⟩
theorem K119 (h : cC T n E σ) (r : r36 T n E σ) : RR X (d + 5) 119 [.ref 36] σ (some (.int (bI (shH T n E))), σ) := by
  obtain ⟨r1, r2, r3, r4, r5, r6, r7, r8, r9, r10⟩ := r
  have a1 : RR X (d + 4) 72 [.ref 5, .int (oI (some 0)), .ref 1033] σ (some (.int (bI (hk T E (some 0) wID))), σ) := K72 (d := d + 1) (W := wID) h (oE0 h) ⟨rfl, by decide, by decide⟩
  have a2 : RR X (d + 4) 66 [.ref 5, .int (oI (some 0)), .ref 1034] σ (some (.int (bI (hs T E (some 0) wTo))), σ) := K66 (d := d + 1) (W := wTo) h (oE0 h) ⟨rfl, by decide, by decide⟩
  have a3 : RR X (d + 4) 66 [.ref 5, .int (oI (some 0)), .ref 1035] σ (some (.int (bI (hs T E (some 0) wIrt))), σ) := K66 (d := d + 1) (W := wIrt) h (oE0 h) ⟨rfl, by decide, by decide⟩
  have a4 : RR X (d + 4) 62 [.ref 5, .int (σ.1 36 1)] σ (some (.int (bI (hw T E (pIss T n E)))), σ) := by rw [r1]; exact K62 (d := d + 1) h (one_oE _ _ _ _ _)
  have a5 : RR X (d + 4) 62 [.ref 5, .int (σ.1 36 2)] σ (some (.int (bI (hw T E (pStat T n E)))), σ) := by rw [r2]; exact K62 (d := d + 1) h (one_oE _ _ _ _ _)
  have a6 : RR X (d + 4) 76 [.ref 5, .int (oI (some 0))] σ (some (.int (bI (ssg T n E (some 0)))), σ) := K76 h (oE0 h)
  unfold shH
  refine mi_R.of rfl rfl (R119_0 (a1) (fun y1 => ?_) (fun _ => a2) (fun y1 y2 => ?_) (fun _ _ => a3) (fun y1 y2 y3 => ?_) (fun _ _ _ => a4) (fun y1 y2 y3 y4 => ?_) (fun _ _ _ _ => a5) (fun y1 y2 y3 y4 y5 => ?_) (fun _ _ _ _ _ => a6) (fun y1 y2 y3 y4 y5 y6 => ?_) (fun y1 y2 y3 y4 y5 y6 => ?_))
  · rw [bI_0.mp y1]
    rfl
  · rw [bI_n0.mp y1, bI_0.mp y2]
    rfl
  · rw [bI_n0.mp y1, bI_n0.mp y2, bI_0.mp y3]
    rfl
  · rw [bI_n0.mp y1, bI_n0.mp y2, bI_n0.mp y3, bI_0.mp y4]
    rfl
  · rw [bI_n0.mp y1, bI_n0.mp y2, bI_n0.mp y3, bI_n0.mp y4, bI_0.mp y5]
    rfl
  · rw [bI_n0.mp y1, bI_n0.mp y2, bI_n0.mp y3, bI_n0.mp y4, bI_n0.mp y5, bI_0.mp y6]
    rfl
  · rw [bI_n0.mp y1, bI_n0.mp y2, bI_n0.mp y3, bI_n0.mp y4, bI_n0.mp y5, bI_n0.mp y6]
    rfl
theorem K120 (h : cC T n E σ) (r : r36 T n E σ) : RR X (d + 5) 120 [.ref 36] σ (some (.int (bI (shA T n E))), σ) := by
  obtain ⟨r1, r2, r3, r4, r5, r6, r7, r8, r9, r10⟩ := r
  have a1 : RR X (d + 4) 72 [.ref 5, .int (σ.1 36 3), .ref 1033] σ (some (.int (bI (hk T E (pAssn T n E) wID))), σ) := by rw [r3]; exact K72 (d := d + 1) (W := wID) h (one_oE _ _ _ _ _) ⟨rfl, by decide, by decide⟩
  have a2 : RR X (d + 4) 62 [.ref 5, .int (σ.1 36 5)] σ (some (.int (bI (hw T E (pAIss T n E)))), σ) := by rw [r5]; exact K62 (d := d + 1) h (one_oE _ _ _ _ _)
  have a3 : RR X (d + 4) 76 [.ref 5, .int (σ.1 36 3)] σ (some (.int (bI (ssg T n E (pAssn T n E)))), σ) := by rw [r3]; exact K76 h (one_oE _ _ _ _ _)
  have a4 : RR X (d + 4) 66 [.ref 5, .int (σ.1 36 6), .ref 1039] σ (some (.int (bI (hs T E (pCond T n E) wAud))), σ) := by rw [r6]; exact K66 (d := d + 1) (W := wAud) h (one_oE _ _ _ _ _) ⟨rfl, by decide, by decide⟩
  have a5 : RR X (d + 4) 73 [.ref 5, .int (σ.1 36 6), .ref 1040] σ (some (.int (bI (hn T E (pCond T n E) wNb))), σ) := by rw [r6]; exact K73 (W := wNb) h (one_oE _ _ _ _ _) ⟨rfl, by decide, by decide⟩
  have a6 : RR X (d + 4) 73 [.ref 5, .int (σ.1 36 6), .ref 1041] σ (some (.int (bI (hn T E (pCond T n E) wNoa))), σ) := by rw [r6]; exact K73 (W := wNoa) h (one_oE _ _ _ _ _) ⟨rfl, by decide, by decide⟩
  unfold shA
  refine mi_R.of rfl rfl (R120_0 (a1) (fun y1 => ?_) (fun _ => a2) (fun y1 y2 => ?_) (fun _ _ => a3) (fun y1 y2 y3 => ?_) (fun _ _ _ => a4) (fun y1 y2 y3 y4 => ?_) (fun _ _ _ _ => a5) (fun y1 y2 y3 y4 y5 => ?_) (fun _ _ _ _ _ => a6) (fun y1 y2 y3 y4 y5 y6 => ?_) (fun y1 y2 y3 y4 y5 y6 => ?_))
  · rw [bI_0.mp y1]
    rfl
  · rw [bI_n0.mp y1, bI_0.mp y2]
    rfl
  · rw [bI_n0.mp y1, bI_n0.mp y2, bI_0.mp y3]
    rfl
  · rw [bI_n0.mp y1, bI_n0.mp y2, bI_n0.mp y3, bI_0.mp y4]
    rfl
  · rw [bI_n0.mp y1, bI_n0.mp y2, bI_n0.mp y3, bI_n0.mp y4, bI_0.mp y5]
    rfl
  · rw [bI_n0.mp y1, bI_n0.mp y2, bI_n0.mp y3, bI_n0.mp y4, bI_n0.mp y5, bI_0.mp y6]
    rfl
  · rw [bI_n0.mp y1, bI_n0.mp y2, bI_n0.mp y3, bI_n0.mp y4, bI_n0.mp y5, bI_n0.mp y6]
    rfl
theorem K121 (h : cC T n E σ) (r : r36 T n E σ) : RR X (d + 5) 121 [.ref 36] σ (some (.int (bI (shS T n E))), σ) := by
  obtain ⟨r1, r2, r3, r4, r5, r6, r7, r8, r9, r10⟩ := r
  have a1 : RR X (d + 4) 62 [.ref 5, .int (σ.1 36 9)] σ (some (.int (bI (hw T E (pName T n E)))), σ) := by rw [r9]; exact K62 (d := d + 1) h (one_oE _ _ _ _ _)
  have a2 : RR X (d + 4) 66 [.ref 5, .int (σ.1 36 10), .ref 1035] σ (some (.int (bI (hs T E (pConf T n E) wIrt))), σ) := by rw [r10]; exact K66 (d := d + 1) (W := wIrt) h (one_oE _ _ _ _ _) ⟨rfl, by decide, by decide⟩
  have a3 : RR X (d + 4) 66 [.ref 5, .int (σ.1 36 10), .ref 1042] σ (some (.int (bI (hs T E (pConf T n E) wRcp))), σ) := by rw [r10]; exact K66 (d := d + 1) (W := wRcp) h (one_oE _ _ _ _ _) ⟨rfl, by decide, by decide⟩
  have a4 : RR X (d + 4) 73 [.ref 5, .int (σ.1 36 10), .ref 1041] σ (some (.int (bI (hn T E (pConf T n E) wNoa))), σ) := by rw [r10]; exact K73 (W := wNoa) h (one_oE _ _ _ _ _) ⟨rfl, by decide, by decide⟩
  unfold shS
  refine mi_R.of rfl rfl (R121_0 (a1) (fun y1 => ?_) (fun _ => a2) (fun y1 y2 => ?_) (fun _ _ => a3) (fun y1 y2 y3 => ?_) (fun _ _ _ => a4) (fun y1 y2 y3 y4 => ?_) (fun y1 y2 y3 y4 => ?_))
  · rw [bI_0.mp y1]
    rfl
  · rw [bI_n0.mp y1, bI_0.mp y2]
    rfl
  · rw [bI_n0.mp y1, bI_n0.mp y2, bI_0.mp y3]
    rfl
  · rw [bI_n0.mp y1, bI_n0.mp y2, bI_n0.mp y3, bI_0.mp y4]
    rfl
  · rw [bI_n0.mp y1, bI_n0.mp y2, bI_n0.mp y3, bI_n0.mp y4]
    rfl
theorem K117 (h : cC T n E σ) : ∃ σ', RR X (d + 6) 117 [.ref 36] σ (some (.int (bI (isR T n E))), σ') ∧ (σ'.2 = σ.2 ∧ ∀ c, c ≠ 36 → σ'.1 c = σ.1 c) ∧ r36 T n E σ' := by
  obtain ⟨σ', a0, f, r⟩ := K118 (X := X) (d := d) h
  have h' : cC T n E σ' := cC_of h fun c hc => f.2 c (by omega)
  have a1 : RR X (d + 5) 56 [.ref 5, .int (nI 0), .ref 1032] σ' (some (.int (bI (decide (nmL T (E 0) = wResp)))), σ') := K56 (d := d + 3) h'.1 h'.2.1 h'.2.2.1 h'.2.2.2 h'.2.2.1.1 ⟨rfl, by decide, by decide⟩
  refine ⟨σ', ?_, f, r⟩
  unfold isR
  refine mi_R.of rfl rfl (R117_0 a0 (a1) (fun y1 => ?_) (fun _ => K119 h' r) (fun y1 y2 => ?_) (fun _ _ => K120 h' r) (fun y1 y2 y3 => ?_) (fun _ _ _ => K121 h' r) (fun y1 y2 y3 y4 => ?_) (fun y1 y2 y3 y4 => ?_))
  · rw [bI_0.mp y1]
    rfl
  · rw [bI_n0.mp y1, bI_0.mp y2]
    rfl
  · rw [bI_n0.mp y1, bI_n0.mp y2, bI_0.mp y3]
    rfl
  · rw [bI_n0.mp y1, bI_n0.mp y2, bI_n0.mp y3, bI_0.mp y4]
    rfl
  · rw [bI_n0.mp y1, bI_n0.mp y2, bI_n0.mp y3, bI_n0.mp y4]
    rfl
def r37 (T : List Nat) (n : Nat) (E : Nat → mEl) (σ : mG) : Prop := σ.1 37 1 = oI (pIss T n E) ∧ σ.1 37 2 = oI (pLName T n E) ∧ σ.1 37 3 = oI (pSig T n E)
theorem K123 (h : cC T n E σ) : ∃ σ', RR X (d + 5) 123 [.ref 37] σ (some (.int (bI (isLo T n E))), σ') ∧ (σ'.2 = σ.2 ∧ ∀ c, c ≠ 37 → σ'.1 c = σ.1 c) ∧ r37 T n E σ' := by
  let s1 : mG := u36 σ 37 1 (oI (pIss T n E))
  let s2 : mG := u36 s1 37 2 (oI (pLName T n E))
  let s3 : mG := u36 s2 37 3 (oI (pSig T n E))
  have h1 : cC T n E s1 := u36_cC h (by omega)
  have h2 : cC T n E s2 := u36_cC h1 (by omega)
  have h3 : cC T n E s3 := u36_cC h2 (by omega)
  have c1 : RR X (d + 4) 59 [.ref 5, .int (oI (some 0)), .ref 1055] σ (some (.int (oI (pIss T n E))), σ) := K59 (W := wIss) h (oE0 h) ⟨rfl, by decide, by decide⟩
  have c2 : RR X (d + 4) 59 [.ref 5, .int (oI (some 0)), .ref 1056] s1 (some (.int (oI (pLName T n E))), s1) := K59 (W := wName) h1 (oE0 h) ⟨rfl, by decide, by decide⟩
  have c3 : RR X (d + 4) 58 [.ref 5, .int (oI (some 0)), .ref 1057] s2 (some (.int (oI (pSig T n E))), s2) := K58 (d := d + 1) (W := sigL) h2 (oE0 h) ⟨rfl, by decide, by decide⟩
  have e1 : s3.1 37 1 = oI (pIss T n E) := (u36_n (by omega)).trans ((u36_n (by omega)).trans u36_s)
  have e2 : s3.1 37 2 = oI (pLName T n E) := (u36_n (by omega)).trans u36_s
  have e3 : s3.1 37 3 = oI (pSig T n E) := u36_s
  have a1 : RR X (d + 4) 56 [.ref 5, .int (nI 0), .ref 1058] s3 (some (.int (bI (decide (nmL T (E 0) = wOut)))), s3) := K56 (d := d + 2) h3.1 h3.2.1 h3.2.2.1 h3.2.2.2 h3.2.2.1.1 ⟨rfl, by decide, by decide⟩
  have a2 : RR X (d + 4) 72 [.ref 5, .int (oI (some 0)), .ref 1059] s3 (some (.int (bI (hk T E (some 0) wID))), s3) := K72 (d := d + 1) (W := wID) h3 (oE0 h) ⟨rfl, by decide, by decide⟩
  have a3 : RR X (d + 4) 66 [.ref 5, .int (oI (some 0)), .ref 1060] s3 (some (.int (bI (hs T E (some 0) wTo))), s3) := K66 (d := d + 1) (W := wTo) h3 (oE0 h) ⟨rfl, by decide, by decide⟩
  have a4 : RR X (d + 4) 62 [.ref 5, .int (s3.1 37 1)] s3 (some (.int (bI (hw T E (pIss T n E)))), s3) := by rw [e1]; exact K62 (d := d + 1) h3 (one_oE _ _ _ _ _)
  have a5 : RR X (d + 4) 62 [.ref 5, .int (s3.1 37 2)] s3 (some (.int (bI (hw T E (pLName T n E)))), s3) := by rw [e2]; exact K62 (d := d + 1) h3 (one_oE _ _ _ _ _)
  have a6 : RR X (d + 4) 76 [.ref 5, .int (oI (some 0))] s3 (some (.int (bI (ssg T n E (some 0)))), s3) := K76 h3 (oE0 h)
  refine ⟨s3, ?_, ⟨rfl, fun c hc => (u36_c hc).trans ((u36_c hc).trans (u36_c hc))⟩, e1, e2, e3⟩
  unfold isLo
  refine mi_R.of rfl rfl (R123_0 (σ1 := σ) (σ2 := s1) (σ3 := s2) c1 c2 c3 (a1) (fun y1 => ?_) (fun _ => a2) (fun y1 y2 => ?_) (fun _ _ => a3) (fun y1 y2 y3 => ?_) (fun _ _ _ => a4) (fun y1 y2 y3 y4 => ?_) (fun _ _ _ _ => a5) (fun y1 y2 y3 y4 y5 => ?_) (fun _ _ _ _ _ => a6) (fun y1 y2 y3 y4 y5 y6 => ?_) (fun y1 y2 y3 y4 y5 y6 => ?_))
  · rw [bI_0.mp y1]
    rfl
  · rw [bI_n0.mp y1, bI_0.mp y2]
    rfl
  · rw [bI_n0.mp y1, bI_n0.mp y2, bI_0.mp y3]
    rfl
  · rw [bI_n0.mp y1, bI_n0.mp y2, bI_n0.mp y3, bI_0.mp y4]
    rfl
  · rw [bI_n0.mp y1, bI_n0.mp y2, bI_n0.mp y3, bI_n0.mp y4, bI_0.mp y5]
    rfl
  · rw [bI_n0.mp y1, bI_n0.mp y2, bI_n0.mp y3, bI_n0.mp y4, bI_n0.mp y5, bI_0.mp y6]
    rfl
  · rw [bI_n0.mp y1, bI_n0.mp y2, bI_n0.mp y3, bI_n0.mp y4, bI_n0.mp y5, bI_n0.mp y6]
    rfl
end
