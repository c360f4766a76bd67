/-! From the law's entry to its loop: printed by a program. -/
def qG0 (x1 x2 : Int32) : mG := (fun c => bif Nat.beq c 0 then (fun k => bif Nat.beq k 11 then (qSk x1) else 0) else bif Nat.beq c 16 then (fun k => bif Nat.beq k 2 then (-1) else 0) else bif Nat.beq c 23 then (fun k => bif Nat.beq k 0 then (qLf x2) else 0) else bif Nat.beq c 30 then (fun k => bif Nat.beq k 0 then 20 else 0) else bif Nat.beq c 33 then (fun k => bif Nat.beq k 0 then 40 else 0) else bif Nat.beq c 38 then (fun k => bif Nat.beq k 0 then (qSk x1) else bif Nat.beq k 1 then (qLf x2) else 0) else (fun _ => 0), fun _ _ => 0)
set_option maxRecDepth 100000 in
theorem qH0_eq (x1 x2 : Int32) : qH0 x1 x2 = mi_rn (qG0 x1 x2) 0 qSh := rfl
section S1
variable {F : List (List Nat)} {X : Nat × (Nat → Int32)} {PR : Nat → List Value → mH → Option (mA mH)} {M : List mM} {tb : mB} {ret : Option FieldType} {d : Nat} {r : mA mH} {pc nx a b c : Nat} {w : Value} {ls : mL} {st : List Value} {h : mH} {x : Int32}
theorem mi_T.scr1 (hl : mi_lk tb pc = some (.iaload, nx, a, b, c, w)) (hb : mi_in x X.1 = true) (k : mi_T (mi_O1 F X) PR M d tb ret (nx, ls, .int (X.2 x.toNatClampNeg) :: st, h) r) : mi_T (mi_O1 F X) PR M d tb ret (pc, ls, .int x :: .ref 999 :: st, h) r :=
  mi_T.hp hl rfl (by simp only [mi_hp, mi_al, mi_O1, mi_ld1, hb, Nat.beq_refl, Bool.and_self, cond_true]) k
end S1
def qCell (X : Nat × (Nat → Int32)) (k : Nat) : Int32 := if k < X.1 then X.2 k else 0
theorem qcell {d : Nat} {X : Nat × (Nat → Int32)} {h : mH} (hX : X.1 ≤ 3074) (k : Nat) (hk : k < 100) : mi_R (mi_O1 qF X) (mi_pr qL mi_cp1) qM (d + 1) 197 [.ref 999, .int (nI k)] h (some (.int (qCell X k)), h) := by
  refine mi_R.of rfl rfl ?_
  refine mi_T.go 3 (s1 := (3, [some (.ref 999), some (.int (nI k))], [.int (Int32.ofNat X.1), .int (nI k)], h)) rfl ?_
  refine mi_T.br (P := Int32.ofNat X.1 ≤ nI k) (fun _ => rfl) (fun hp => ?_) (fun hp => ?_)
  · have hp : X.1 ≤ k := (nI_leI (by omega) (by omega)).mp hp
    refine mi_T.go 1 (s1 := (13, [some (.ref 999), some (.int (nI k))], [.int 0], h)) rfl ?_
    refine mi_T.fin ?_ (fun _ => rfl)
    rw [qCell, if_neg (by omega)]
  · have hp : k < X.1 := Nat.lt_of_not_le (fun z => hp ((nI_leI (by omega) (by omega)).mpr z))
    refine mi_T.go 2 (s1 := (8, [some (.ref 999), some (.int (nI k))], [.int (nI k), .ref 999], h)) rfl ?_
    refine mi_T.scr1 rfl (mi_in_nI hp (by omega)) ?_
    refine mi_T.go 1 (s1 := (13, [some (.ref 999), some (.int (nI k))], [.int (X.2 (nI k).toNatClampNeg)], h)) rfl ?_
    refine mi_T.fin ?_ (fun _ => rfl)
    rw [qCell, if_pos hp, nI_clamp (by omega)]
set_option maxRecDepth 100000 in
set_option maxHeartbeats 4000000 in
theorem qEntry {X : Nat × (Nat → Int32)} {r : mA mH} (hX : X.1 ≤ 3074) (k : mi_T (mi_O1 qF X) (mi_pr qL mi_cp1) qM 9 tbL (some .boolean) (38, [some (.ref 999), some (.ref 0), some (.ref 38), some (.int 2)], [], qH0 (qCell X 0) (qCell X 1)) r) : mi_T (mi_O1 qF X) (mi_pr qL mi_cp1) qM 9 tbL (some .boolean) (0, mi_ent 4 [.ref 999], [], []) r := by
  refine mi_T.go 4 (s1 := (6, [some (.ref 999), none, none, none], [.int 0, .ref 999, .ref 0, .ref 0], ([.inr (0, [.null, .null, .null, .null, .null, .null, .null, .null, .null, .null, .null, .int 0, .int 0, .int 0])] : mH))) rfl ?_
  refine mi_T.call (as := [.ref 999, .int 0]) (rest := [.ref 0, .ref 0]) (v := some (.int (qCell X 0))) rfl rfl rfl rfl rfl (qcell hX 0 (by omega)) ?_
  refine mi_T.go 2 (s1 := (11, [some (.ref 999), none, none, none], [.int 1, .ref 999, .int (qCell X 0), .ref 0, .ref 0], ([.inr (0, [.null, .null, .null, .null, .null, .null, .null, .null, .null, .null, .null, .int 0, .int 0, .int 0])] : mH))) rfl ?_
  refine mi_T.call (as := [.ref 999, .int 1]) (rest := [.int (qCell X 0), .ref 0, .ref 0]) (v := some (.int (qCell X 1))) rfl rfl rfl rfl rfl (qcell hX 1 (by omega)) ?_
  refine mi_T.call (as := [.ref 0, .int (qCell X 0), .int (qCell X 1)]) (rest := [.ref 0]) (v := none) rfl rfl rfl rfl rfl (qc15 (x1 := qCell X 0) (x2 := qCell X 1)) ?_
  refine mi_T.go 5 (s1 := (24, [some (.ref 999), some (.ref 0), none, none], [.int 0, .ref 999, .ref 38, .ref 38], ([.inr (0, [.ref 1, .ref 3, .ref 5, .ref 16, .ref 17, .ref 18, .ref 23, .ref 27, .ref 33, .ref 36, .ref 37, .int (qSk (qCell X 0)), .int 0, .int 0]), .inr (1, [.ref 2, .int 0]), .inl (1, 400, .inl (fun _ => 0)), .inr (1, [.ref 4, .int 0]), .inl (1, 400, .inl (fun _ => 0)), .inr (2, [.ref 1, .int 0, .ref 6, .ref 7, .ref 8, .ref 9, .ref 10, .ref 11, .ref 12, .ref 13, .ref 14, .ref 15]), .inl (0, 20, .inl (fun _ => 0)), .inl (0, 20, .inl (fun _ => 0)), .inl (0, 20, .inl (fun _ => 0)), .inl (0, 20, .inl (fun _ => 0)), .inl (0, 20, .inl (fun _ => 0)), .inl (0, 20, .inl (fun _ => 0)), .inl (0, 20, .inl (fun _ => 0)), .inl (0, 80, .inl (fun _ => 0)), .inl (0, 80, .inl (fun _ => 0)), .inl (0, 80, .inl (fun _ => 0)), .inr (3, [.ref 1, .ref 5, .int (-1), .int 0]), .inr (4, [.ref 1, .ref 5, .int 0, .int 0]), .inr (5, [.ref 19, .ref 20, .ref 21, .ref 22]), .inl (0, 4, .inl (fun _ => 0)), .inl (0, 4, .inl (fun _ => 0)), .inl (0, 4, .inl (fun _ => 0)), .inl (0, 4, .inl (fun _ => 0)), .inr (6, [.int (qLf (qCell X 1)), .ref 24, .ref 25, .ref 26, .int 0]), .inl (0, 30, .inl (fun _ => 0)), .inl (0, 30, .inl (fun _ => 0)), .inl (2, 30, .inl (fun _ => 0)), .inr (7, [.ref 28, .ref 29, .ref 30]), .inl (0, 20, .inl (fun _ => 0)), .inl (2, 20, .inl (fun _ => 0)), .inr (8, [.int 20, .ref 31, .ref 32, .int 0]), .inl (1, 160, .inl (fun _ => 0)), .inl (0, 20, .inl (fun _ => 0)), .inr (8, [.int 40, .ref 34, .ref 35, .int 0]), .inl (1, 320, .inl (fun _ => 0)), .inl (0, 40, .inl (fun _ => 0)), .inr (9, [.ref 5, .int 0, .int 0, .int 0, .int 0, .int 0, .int 0, .int 0, .int 0, .int 0, .int 0]), .inr (10, [.ref 5, .int 0, .int 0, .int 0]), .inr (11, [.int 0, .int 0, .int 0, .null, .int 0, .null, .int 0, .null, .null, .null, .null, .int 0, .null, .null, .null, .int 0, .null, .null, .null, .int 0, .null, .int 0, .int 0, .null, .null, .null, .null, .null, .null, .null, .null, .null, .null, .null, .long 0, .int 0])] : mH))) rfl ?_
  refine mi_T.call (as := [.ref 999, .int 0]) (rest := [.ref 38, .ref 38]) (v := some (.int (qCell X 0))) rfl rfl rfl rfl rfl (qcell hX 0 (by omega)) ?_
  refine mi_T.go 2 (s1 := (29, [some (.ref 999), some (.ref 0), none, none], [.int 1, .ref 999, .int (qCell X 0), .ref 38, .ref 38], ([.inr (0, [.ref 1, .ref 3, .ref 5, .ref 16, .ref 17, .ref 18, .ref 23, .ref 27, .ref 33, .ref 36, .ref 37, .int (qSk (qCell X 0)), .int 0, .int 0]), .inr (1, [.ref 2, .int 0]), .inl (1, 400, .inl (fun _ => 0)), .inr (1, [.ref 4, .int 0]), .inl (1, 400, .inl (fun _ => 0)), .inr (2, [.ref 1, .int 0, .ref 6, .ref 7, .ref 8, .ref 9, .ref 10, .ref 11, .ref 12, .ref 13, .ref 14, .ref 15]), .inl (0, 20, .inl (fun _ => 0)), .inl (0, 20, .inl (fun _ => 0)), .inl (0, 20, .inl (fun _ => 0)), .inl (0, 20, .inl (fun _ => 0)), .inl (0, 20, .inl (fun _ => 0)), .inl (0, 20, .inl (fun _ => 0)), .inl (0, 20, .inl (fun _ => 0)), .inl (0, 80, .inl (fun _ => 0)), .inl (0, 80, .inl (fun _ => 0)), .inl (0, 80, .inl (fun _ => 0)), .inr (3, [.ref 1, .ref 5, .int (-1), .int 0]), .inr (4, [.ref 1, .ref 5, .int 0, .int 0]), .inr (5, [.ref 19, .ref 20, .ref 21, .ref 22]), .inl (0, 4, .inl (fun _ => 0)), .inl (0, 4, .inl (fun _ => 0)), .inl (0, 4, .inl (fun _ => 0)), .inl (0, 4, .inl (fun _ => 0)), .inr (6, [.int (qLf (qCell X 1)), .ref 24, .ref 25, .ref 26, .int 0]), .inl (0, 30, .inl (fun _ => 0)), .inl (0, 30, .inl (fun _ => 0)), .inl (2, 30, .inl (fun _ => 0)), .inr (7, [.ref 28, .ref 29, .ref 30]), .inl (0, 20, .inl (fun _ => 0)), .inl (2, 20, .inl (fun _ => 0)), .inr (8, [.int 20, .ref 31, .ref 32, .int 0]), .inl (1, 160, .inl (fun _ => 0)), .inl (0, 20, .inl (fun _ => 0)), .inr (8, [.int 40, .ref 34, .ref 35, .int 0]), .inl (1, 320, .inl (fun _ => 0)), .inl (0, 40, .inl (fun _ => 0)), .inr (9, [.ref 5, .int 0, .int 0, .int 0, .int 0, .int 0, .int 0, .int 0, .int 0, .int 0, .int 0]), .inr (10, [.ref 5, .int 0, .int 0, .int 0]), .inr (11, [.int 0, .int 0, .int 0, .null, .int 0, .null, .int 0, .null, .null, .null, .null, .int 0, .null, .null, .null, .int 0, .null, .null, .null, .int 0, .null, .int 0, .int 0, .null, .null, .null, .null, .null, .null, .null, .null, .null, .null, .null, .long 0, .int 0])] : mH))) rfl ?_
  refine mi_T.call (as := [.ref 999, .int 1]) (rest := [.int (qCell X 0), .ref 38, .ref 38]) (v := some (.int (qCell X 1))) rfl rfl rfl rfl rfl (qcell hX 1 (by omega)) ?_
  refine mi_T.call (as := [.ref 38, .int (qCell X 0), .int (qCell X 1)]) (rest := [.ref 38]) (v := none) rfl rfl rfl rfl rfl (qc18 (x1 := qCell X 0) (x2 := qCell X 1)) ?_
  exact mi_T.go 3 (s1 := (38, [some (.ref 999), some (.ref 0), some (.ref 38), some (.int 2)], [], qH0 (qCell X 0) (qCell X 1))) rfl k
def mi_ks (k : mK) : Nat := match k with
  | .inl q => q.2.1
  | .inr q => q.2.length
theorem mi_sl_rn (σ : mG) : ∀ (sh : List mK) (c : Nat), mi_sl (mi_rn σ c sh) = (sh.map mi_ks).sum ∧ (mi_rn σ c sh).length = sh.length := by
  intro sh
  induction sh with
  | nil => intro c; exact ⟨rfl, rfl⟩
  | cons k ks ih =>
    intro c
    obtain ⟨h1, h2⟩ := ih (c + 1)
    refine ⟨?_, by simp [mi_rn, h2]⟩
    simp only [mi_rn, mi_sl, List.map_cons, List.sum_cons, h1]
    congr 1
    rcases k with ⟨t, n, b⟩ | ⟨ci, fs⟩
    · cases b <;> rfl
    · simp [mi_ce, mi_sz, mi_ks, mi_fvs_len]
theorem qSl (σ : mG) : mi_sl (mi_rn σ 0 qSh) ≤ 7302250 ∧ (mi_rn σ 0 qSh).length ≤ 600000 := by
  obtain ⟨h1, h2⟩ := mi_sl_rn σ qSh 0
  rw [h1, h2]
  exact ⟨by decide +kernel, by decide +kernel⟩
theorem qWhole {Inv : Nat → mG → Prop} (hskip : ∀ n σ, Inv n σ → Inv (n + 1) σ) (hops : qOps Inv) (h0 : ∀ x1 x2 : Int32, Inv 0 (qG0 x1 x2)) {X : Nat × (Nat → Int32)} (hX : X.1 ≤ 3074) : ∃ h' : mH, mi_T (mi_O1 qF X) (mi_pr qL mi_cp1) qM 9 tbL (some .boolean) (0, mi_ent 4 [.ref 999], [], []) (some (.int 1), h') ∧ h'.length ≤ 600000 ∧ mi_sl h' ≤ 7302250 := by
  obtain ⟨σ', h⟩ := qLoop hskip hops hX 512 0 (qG0 (qCell X 0) (qCell X 1)) rfl (h0 _ _)
  refine ⟨mi_rn σ' 0 qSh, qEntry hX ?_, (qSl σ').2, (qSl σ').1⟩
  rw [qH0_eq]
  exact mi_T.rf (mi_rf21 qF X qSh) (mi_pr_rf (fun a x b y n h h1 e => mi_rf_cp a x b y n h h1 e)) h
