/-! Rules of the law, printed by a program. -/
section LS
variable {F : List (List Nat)} {X : Nat × (Nat → Int32)} {sh : List mK} {PR : Nat → List Value → mG → Option (mA mG)} {M : List mM} {tb : mB} {ret : Option FieldType} {d : Nat} {r : mA mG} {pc nx a b c : Nat} {w : Value} {ls : mL} {st : List Value} {σ : mG} {x : Int32}
/-- a load from the script -/
theorem mi_T.scr (hl : mi_lk tb pc = some (.iaload, nx, a, b, c, w)) (hb : mi_in x X.1 = true) (k : mi_T (mi_O2 F X sh) PR M d tb ret (nx, ls, .int (X.2 x.toNatClampNeg) :: st, σ) r) : mi_T (mi_O2 F X sh) PR M d tb ret (pc, ls, .int x :: .ref 999 :: st, σ) r :=
  mi_T.hp hl rfl (by simp only [mi_hp, mi_al, mi_O2, mi_ld2, hb, Nat.beq_refl, Bool.and_self, cond_true]) k
end LS
set_option maxRecDepth 100000 in
theorem RL_38 {X : Nat × (Nat → Int32)} {d : Nat} {r : mA mG} {σ : mG} {x3 : Int32}
    (k1 : ((Int32.ofNat X.1) - 6) < x3 → r = (some (.int 1), σ))
    (b1 : ¬ (((Int32.ofNat X.1) - 6) < x3) → mi_in x3 X.1 = true)
    (k2 : ¬ (((Int32.ofNat X.1) - 6) < x3) → TT X d tbL (some .boolean) (53, [some (.ref 999), some (.ref 0), some (.ref 38), some (.int x3)], [.int ((X.2 x3.toNatClampNeg) &&& 31)], σ) r)
    : TT X d tbL (some .boolean) (38, [some (.ref 999), some (.ref 0), some (.ref 38), some (.int x3)], [], σ) r := mi_T.go 5 (s1 := (44, [some (.ref 999), some (.ref 0), some (.ref 38), some (.int x3)], [.int ((Int32.ofNat X.1) - 6), .int x3], σ)) rfl <|
      mi_T.br (P := ((Int32.ofNat X.1) - 6) < x3) (fun _ => rfl)
      (fun h1 => mi_T.go 1 (s1 := (697, [some (.ref 999), some (.ref 0), some (.ref 38), some (.int x3)], [.int 1], σ)) rfl <|
      mi_T.fin (k1 h1) (fun _ => rfl))
      (fun h1 => mi_T.go 2 (s1 := (49, [some (.ref 999), some (.ref 0), some (.ref 38), some (.int x3)], [.int x3, .ref 999], σ)) rfl <|
      mi_T.scr rfl (b1 h1) <|
      mi_T.go 2 (s1 := (53, [some (.ref 999), some (.ref 0), some (.ref 38), some (.int x3)], [.int ((X.2 x3.toNatClampNeg) &&& 31)], σ)) rfl <|
      (k2 h1))

set_option maxRecDepth 100000 in
theorem RL_148 {X : Nat × (Nat → Int32)} {d : Nat} {r : mA mG} {σ : mG} {x3 : Int32} {v1 : Int32} {σ1 : mG} {v2 : Int32} {σ2 : mG}
    (b1 : mi_in (x3 + 1) X.1 = true)
    (b2 : mi_in (x3 + 2) X.1 = true)
    (b3 : mi_in (x3 + 3) X.1 = true)
    (c1 : RR X d 1 [.ref 0, .int (X.2 (x3 + 1).toNatClampNeg), .int (X.2 (x3 + 2).toNatClampNeg), .int (X.2 (x3 + 3).toNatClampNeg)] σ (some (.int v1), σ1))
    (b4 : mi_in (x3 + 1) X.1 = true)
    (b5 : mi_in (x3 + 2) X.1 = true)
    (b6 : mi_in (x3 + 3) X.1 = true)
    (c2 : RR X d 127 [.ref 38, .int (X.2 (x3 + 1).toNatClampNeg), .int (X.2 (x3 + 2).toNatClampNeg), .int (X.2 (x3 + 3).toNatClampNeg)] σ1 (some (.int v2), σ2))
    (k1 : v1 = v2 → TT X d tbL (some .boolean) (38, [some (.ref 999), some (.ref 0), some (.ref 38), some (.int (x3 + 6))], [], σ2) r)
    (k2 : ¬ (v1 = v2) → r = (some (.int 0), σ2))
    : TT X d tbL (some .boolean) (148, [some (.ref 999), some (.ref 0), some (.ref 38), some (.int x3)], [], σ) r := mi_T.go 5 (s1 := (153, [some (.ref 999), some (.ref 0), some (.ref 38), some (.int x3)], [.int (x3 + 1), .ref 999, .ref 0], σ)) rfl <|
      mi_T.scr rfl (b1) <|
      mi_T.go 4 (s1 := (158, [some (.ref 999), some (.ref 0), some (.ref 38), some (.int x3)], [.int (x3 + 2), .ref 999, .int (X.2 (x3 + 1).toNatClampNeg), .ref 0], σ)) rfl <|
      mi_T.scr rfl (b2) <|
      mi_T.go 4 (s1 := (163, [some (.ref 999), some (.ref 0), some (.ref 38), some (.int x3)], [.int (x3 + 3), .ref 999, .int (X.2 (x3 + 2).toNatClampNeg), .int (X.2 (x3 + 1).toNatClampNeg), .ref 0], σ)) rfl <|
      mi_T.scr rfl (b3) <|
      mi_T.call (as := [.ref 0, .int (X.2 (x3 + 1).toNatClampNeg), .int (X.2 (x3 + 2).toNatClampNeg), .int (X.2 (x3 + 3).toNatClampNeg)]) (rest := []) (v := some (.int v1)) rfl rfl rfl rfl rfl (c1) <|
      mi_T.go 5 (s1 := (172, [some (.ref 999), some (.ref 0), some (.ref 38), some (.int x3)], [.int (x3 + 1), .ref 999, .ref 38, .int v1], σ1)) rfl <|
      mi_T.scr rfl (b4) <|
      mi_T.go 4 (s1 := (177, [some (.ref 999), some (.ref 0), some (.ref 38), some (.int x3)], [.int (x3 + 2), .ref 999, .int (X.2 (x3 + 1).toNatClampNeg), .ref 38, .int v1], σ1)) rfl <|
      mi_T.scr rfl (b5) <|
      mi_T.go 4 (s1 := (182, [some (.ref 999), some (.ref 0), some (.ref 38), some (.int x3)], [.int (x3 + 3), .ref 999, .int (X.2 (x3 + 2).toNatClampNeg), .int (X.2 (x3 + 1).toNatClampNeg), .ref 38, .int v1], σ1)) rfl <|
      mi_T.scr rfl (b6) <|
      mi_T.call (as := [.ref 38, .int (X.2 (x3 + 1).toNatClampNeg), .int (X.2 (x3 + 2).toNatClampNeg), .int (X.2 (x3 + 3).toNatClampNeg)]) (rest := [.int v1]) (v := some (.int v2)) rfl rfl rfl rfl rfl (c2) <|
      mi_T.br (P := v1 = v2) (fun _ => rfl)
      (fun h1 => mi_T.go 2 (s1 := (38, [some (.ref 999), some (.ref 0), some (.ref 38), some (.int (x3 + 6))], [], σ2)) rfl <|
      (k1 h1))
      (fun h1 => mi_T.go 1 (s1 := (190, [some (.ref 999), some (.ref 0), some (.ref 38), some (.int x3)], [.int 0], σ2)) rfl <|
      mi_T.fin (k2 h1) (fun _ => rfl))

set_option maxRecDepth 100000 in
theorem RL_191 {X : Nat × (Nat → Int32)} {d : Nat} {r : mA mG} {σ : mG} {x3 : Int32} {v1 : Int32} {σ1 : mG} {v2 : Int32} {σ2 : mG}
    (b1 : mi_in (x3 + 1) X.1 = true)
    (b2 : mi_in (x3 + 2) X.1 = true)
    (b3 : mi_in (x3 + 3) X.1 = true)
    (c1 : RR X d 2 [.ref 0, .int (X.2 (x3 + 1).toNatClampNeg), .int (X.2 (x3 + 2).toNatClampNeg), .int (X.2 (x3 + 3).toNatClampNeg)] σ (some (.int v1), σ1))
    (b4 : mi_in (x3 + 1) X.1 = true)
    (b5 : mi_in (x3 + 2) X.1 = true)
    (b6 : mi_in (x3 + 3) X.1 = true)
    (c2 : RR X d 128 [.ref 38, .int (X.2 (x3 + 1).toNatClampNeg), .int (X.2 (x3 + 2).toNatClampNeg), .int (X.2 (x3 + 3).toNatClampNeg)] σ1 (some (.int v2), σ2))
    (k1 : v1 = v2 → TT X d tbL (some .boolean) (38, [some (.ref 999), some (.ref 0), some (.ref 38), some (.int (x3 + 6))], [], σ2) r)
    (k2 : ¬ (v1 = v2) → r = (some (.int 0), σ2))
    : TT X d tbL (some .boolean) (191, [some (.ref 999), some (.ref 0), some (.ref 38), some (.int x3)], [], σ) r := mi_T.go 5 (s1 := (196, [some (.ref 999), some (.ref 0), some (.ref 38), some (.int x3)], [.int (x3 + 1), .ref 999, .ref 0], σ)) rfl <|
      mi_T.scr rfl (b1) <|
      mi_T.go 4 (s1 := (201, [some (.ref 999), some (.ref 0), some (.ref 38), some (.int x3)], [.int (x3 + 2), .ref 999, .int (X.2 (x3 + 1).toNatClampNeg), .ref 0], σ)) rfl <|
      mi_T.scr rfl (b2) <|
      mi_T.go 4 (s1 := (206, [some (.ref 999), some (.ref 0), some (.ref 38), some (.int x3)], [.int (x3 + 3), .ref 999, .int (X.2 (x3 + 2).toNatClampNeg), .int (X.2 (x3 + 1).toNatClampNeg), .ref 0], σ)) rfl <|
      mi_T.scr rfl (b3) <|
      mi_T.call (as := [.ref 0, .int (X.2 (x3 + 1).toNatClampNeg), .int (X.2 (x3 + 2).toNatClampNeg), .int (X.2 (x3 + 3).toNatClampNeg)]) (rest := []) (v := some (.int v1)) rfl rfl rfl rfl rfl (c1) <|
      mi_T.go 5 (s1 := (215, [some (.ref 999), some (.ref 0), some (.ref 38), some (.int x3)], [.int (x3 + 1), .ref 999, .ref 38, .int v1], σ1)) rfl <|
      mi_T.scr rfl (b4) <|
      mi_T.go 4 (s1 := (220, [some (.ref 999), some (.ref 0), some (.ref 38), some (.int x3)], [.int (x3 + 2), .ref 999, .int (X.2 (x3 + 1).toNatClampNeg), .ref 38, .int v1], σ1)) rfl <|
      mi_T.scr rfl (b5) <|
      mi_T.go 4 (s1 := (225, [some (.ref 999), some (.ref 0), some (.ref 38), some (.int x3)], [.int (x3 + 3), .ref 999, .int (X.2 (x3 + 2).toNatClampNeg), .int (X.2 (x3 + 1).toNatClampNeg), .ref 38, .int v1], σ1)) rfl <|
      mi_T.scr rfl (b6) <|
      mi_T.call (as := [.ref 38, .int (X.2 (x3 + 1).toNatClampNeg), .int (X.2 (x3 + 2).toNatClampNeg), .int (X.2 (x3 + 3).toNatClampNeg)]) (rest := [.int v1]) (v := some (.int v2)) rfl rfl rfl rfl rfl (c2) <|
      mi_T.br (P := v1 = v2) (fun _ => rfl)
      (fun h1 => mi_T.go 2 (s1 := (38, [some (.ref 999), some (.ref 0), some (.ref 38), some (.int (x3 + 6))], [], σ2)) rfl <|
      (k1 h1))
      (fun h1 => mi_T.go 1 (s1 := (233, [some (.ref 999), some (.ref 0), some (.ref 38), some (.int x3)], [.int 0], σ2)) rfl <|
      mi_T.fin (k2 h1) (fun _ => rfl))

set_option maxRecDepth 100000 in
theorem RL_234 {X : Nat × (Nat → Int32)} {d : Nat} {r : mA mG} {σ : mG} {x3 : Int32} {v1 : Int32} {σ1 : mG} {v2 : Int32} {σ2 : mG}
    (b1 : mi_in (x3 + 1) X.1 = true)
    (c1 : RR X d 4 [.ref 0, .int (X.2 (x3 + 1).toNatClampNeg)] σ (some (.int v1), σ1))
    (b2 : mi_in (x3 + 1) X.1 = true)
    (c2 : RR X d 129 [.ref 38, .int (X.2 (x3 + 1).toNatClampNeg)] σ1 (some (.int v2), σ2))
    (k1 : v1 = v2 → TT X d tbL (some .boolean) (38, [some (.ref 999), some (.ref 0), some (.ref 38), some (.int (x3 + 6))], [], σ2) r)
    (k2 : ¬ (v1 = v2) → r = (some (.int 0), σ2))
    : TT X d tbL (some .boolean) (234, [some (.ref 999), some (.ref 0), some (.ref 38), some (.int x3)], [], σ) r := mi_T.go 5 (s1 := (239, [some (.ref 999), some (.ref 0), some (.ref 38), some (.int x3)], [.int (x3 + 1), .ref 999, .ref 0], σ)) rfl <|
      mi_T.scr rfl (b1) <|
      mi_T.call (as := [.ref 0, .int (X.2 (x3 + 1).toNatClampNeg)]) (rest := []) (v := some (.int v1)) rfl rfl rfl rfl rfl (c1) <|
      mi_T.go 5 (s1 := (248, [some (.ref 999), some (.ref 0), some (.ref 38), some (.int x3)], [.int (x3 + 1), .ref 999, .ref 38, .int v1], σ1)) rfl <|
      mi_T.scr rfl (b2) <|
      mi_T.call (as := [.ref 38, .int (X.2 (x3 + 1).toNatClampNeg)]) (rest := [.int v1]) (v := some (.int v2)) rfl rfl rfl rfl rfl (c2) <|
      mi_T.br (P := v1 = v2) (fun _ => rfl)
      (fun h1 => mi_T.go 2 (s1 := (38, [some (.ref 999), some (.ref 0), some (.ref 38), some (.int (x3 + 6))], [], σ2)) rfl <|
      (k1 h1))
      (fun h1 => mi_T.go 1 (s1 := (256, [some (.ref 999), some (.ref 0), some (.ref 38), some (.int x3)], [.int 0], σ2)) rfl <|
      mi_T.fin (k2 h1) (fun _ => rfl))

set_option maxRecDepth 100000 in
theorem RL_257 {X : Nat × (Nat → Int32)} {d : Nat} {r : mA mG} {σ : mG} {x3 : Int32} {v1 : Int32} {σ1 : mG} {v2 : Int32} {σ2 : mG}
    (b1 : mi_in (x3 + 1) X.1 = true)
    (c1 : RR X d 5 [.ref 0, .int (X.2 (x3 + 1).toNatClampNeg)] σ (some (.int v1), σ1))
    (b2 : mi_in (x3 + 1) X.1 = true)
    (c2 : RR X d 130 [.ref 38, .int (X.2 (x3 + 1).toNatClampNeg)] σ1 (some (.int v2), σ2))
    (k1 : v1 = v2 → TT X d tbL (some .boolean) (38, [some (.ref 999), some (.ref 0), some (.ref 38), some (.int (x3 + 6))], [], σ2) r)
    (k2 : ¬ (v1 = v2) → r = (some (.int 0), σ2))
    : TT X d tbL (some .boolean) (257, [some (.ref 999), some (.ref 0), some (.ref 38), some (.int x3)], [], σ) r := mi_T.go 5 (s1 := (262, [some (.ref 999), some (.ref 0), some (.ref 38), some (.int x3)], [.int (x3 + 1), .ref 999, .ref 0], σ)) rfl <|
      mi_T.scr rfl (b1) <|
      mi_T.call (as := [.ref 0, .int (X.2 (x3 + 1).toNatClampNeg)]) (rest := []) (v := some (.int v1)) rfl rfl rfl rfl rfl (c1) <|
      mi_T.go 5 (s1 := (271, [some (.ref 999), some (.ref 0), some (.ref 38), some (.int x3)], [.int (x3 + 1), .ref 999, .ref 38, .int v1], σ1)) rfl <|
      mi_T.scr rfl (b2) <|
      mi_T.call (as := [.ref 38, .int (X.2 (x3 + 1).toNatClampNeg)]) (rest := [.int v1]) (v := some (.int v2)) rfl rfl rfl rfl rfl (c2) <|
      mi_T.br (P := v1 = v2) (fun _ => rfl)
      (fun h1 => mi_T.go 2 (s1 := (38, [some (.ref 999), some (.ref 0), some (.ref 38), some (.int (x3 + 6))], [], σ2)) rfl <|
      (k1 h1))
      (fun h1 => mi_T.go 1 (s1 := (279, [some (.ref 999), some (.ref 0), some (.ref 38), some (.int x3)], [.int 0], σ2)) rfl <|
      mi_T.fin (k2 h1) (fun _ => rfl))

set_option maxRecDepth 100000 in
theorem RL_280 {X : Nat × (Nat → Int32)} {d : Nat} {r : mA mG} {σ : mG} {x3 : Int32} {v1 : Int32} {σ1 : mG} {v2 : Int32} {σ2 : mG}
    (b1 : mi_in (x3 + 1) X.1 = true)
    (b2 : mi_in (x3 + 2) X.1 = true)
    (b3 : mi_in (x3 + 3) X.1 = true)
    (b4 : mi_in (x3 + 4) X.1 = true)
    (b5 : mi_in (x3 + 5) X.1 = true)
    (c1 : RR X d 6 [.ref 0, .int (X.2 (x3 + 1).toNatClampNeg), .int (X.2 (x3 + 2).toNatClampNeg), .int (X.2 (x3 + 3).toNatClampNeg), .int (X.2 (x3 + 4).toNatClampNeg), .int (X.2 (x3 + 5).toNatClampNeg)] σ (some (.int v1), σ1))
    (b6 : mi_in (x3 + 1) X.1 = true)
    (b7 : mi_in (x3 + 2) X.1 = true)
    (b8 : mi_in (x3 + 3) X.1 = true)
    (b9 : mi_in (x3 + 4) X.1 = true)
    (b10 : mi_in (x3 + 5) X.1 = true)
    (c2 : RR X d 194 [.ref 38, .int (X.2 (x3 + 1).toNatClampNeg), .int (X.2 (x3 + 2).toNatClampNeg), .int (X.2 (x3 + 3).toNatClampNeg), .int (X.2 (x3 + 4).toNatClampNeg), .int (X.2 (x3 + 5).toNatClampNeg)] σ1 (some (.int v2), σ2))
    (k1 : v1 = v2 → TT X d tbL (some .boolean) (38, [some (.ref 999), some (.ref 0), some (.ref 38), some (.int (x3 + 6))], [], σ2) r)
    (k2 : ¬ (v1 = v2) → r = (some (.int 0), σ2))
    : TT X d tbL (some .boolean) (280, [some (.ref 999), some (.ref 0), some (.ref 38), some (.int x3)], [], σ) r := mi_T.go 5 (s1 := (285, [some (.ref 999), some (.ref 0), some (.ref 38), some (.int x3)], [.int (x3 + 1), .ref 999, .ref 0], σ)) rfl <|
      mi_T.scr rfl (b1) <|
      mi_T.go 4 (s1 := (290, [some (.ref 999), some (.ref 0), some (.ref 38), some (.int x3)], [.int (x3 + 2), .ref 999, .int (X.2 (x3 + 1).toNatClampNeg), .ref 0], σ)) rfl <|
      mi_T.scr rfl (b2) <|
      mi_T.go 4 (s1 := (295, [some (.ref 999), some (.ref 0), some (.ref 38), some (.int x3)], [.int (x3 + 3), .ref 999, .int (X.2 (x3 + 2).toNatClampNeg), .int (X.2 (x3 + 1).toNatClampNeg), .ref 0], σ)) rfl <|
      mi_T.scr rfl (b3) <|
      mi_T.go 4 (s1 := (300, [some (.ref 999), some (.ref 0), some (.ref 38), some (.int x3)], [.int (x3 + 4), .ref 999, .int (X.2 (x3 + 3).toNatClampNeg), .int (X.2 (x3 + 2).toNatClampNeg), .int (X.2 (x3 + 1).toNatClampNeg), .ref 0], σ)) rfl <|
      mi_T.scr rfl (b4) <|
      mi_T.go 4 (s1 := (305, [some (.ref 999), some (.ref 0), some (.ref 38), some (.int x3)], [.int (x3 + 5), .ref 999, .int (X.2 (x3 + 4).toNatClampNeg), .int (X.2 (x3 + 3).toNatClampNeg), .int (X.2 (x3 + 2).toNatClampNeg), .int (X.2 (x3 + 1).toNatClampNeg), .ref 0], σ)) rfl <|
      mi_T.scr rfl (b5) <|
      mi_T.call (as := [.ref 0, .int (X.2 (x3 + 1).toNatClampNeg), .int (X.2 (x3 + 2).toNatClampNeg), .int (X.2 (x3 + 3).toNatClampNeg), .int (X.2 (x3 + 4).toNatClampNeg), .int (X.2 (x3 + 5).toNatClampNeg)]) (rest := []) (v := some (.int v1)) rfl rfl rfl rfl rfl (c1) <|
      mi_T.go 5 (s1 := (314, [some (.ref 999), some (.ref 0), some (.ref 38), some (.int x3)], [.int (x3 + 1), .ref 999, .ref 38, .int v1], σ1)) rfl <|
      mi_T.scr rfl (b6) <|
      mi_T.go 4 (s1 := (319, [some (.ref 999), some (.ref 0), some (.ref 38), some (.int x3)], [.int (x3 + 2), .ref 999, .int (X.2 (x3 + 1).toNatClampNeg), .ref 38, .int v1], σ1)) rfl <|
      mi_T.scr rfl (b7) <|
      mi_T.go 4 (s1 := (324, [some (.ref 999), some (.ref 0), some (.ref 38), some (.int x3)], [.int (x3 + 3), .ref 999, .int (X.2 (x3 + 2).toNatClampNeg), .int (X.2 (x3 + 1).toNatClampNeg), .ref 38, .int v1], σ1)) rfl <|
      mi_T.scr rfl (b8) <|
      mi_T.go 4 (s1 := (329, [some (.ref 999), some (.ref 0), some (.ref 38), some (.int x3)], [.int (x3 + 4), .ref 999, .int (X.2 (x3 + 3).toNatClampNeg), .int (X.2 (x3 + 2).toNatClampNeg), .int (X.2 (x3 + 1).toNatClampNeg), .ref 38, .int v1], σ1)) rfl <|
      mi_T.scr rfl (b9) <|
      mi_T.go 4 (s1 := (334, [some (.ref 999), some (.ref 0), some (.ref 38), some (.int x3)], [.int (x3 + 5), .ref 999, .int (X.2 (x3 + 4).toNatClampNeg), .int (X.2 (x3 + 3).toNatClampNeg), .int (X.2 (x3 + 2).toNatClampNeg), .int (X.2 (x3 + 1).toNatClampNeg), .ref 38, .int v1], σ1)) rfl <|
      mi_T.scr rfl (b10) <|
      mi_T.call (as := [.ref 38, .int (X.2 (x3 + 1).toNatClampNeg), .int (X.2 (x3 + 2).toNatClampNeg), .int (X.2 (x3 + 3).toNatClampNeg), .int (X.2 (x3 + 4).toNatClampNeg), .int (X.2 (x3 + 5).toNatClampNeg)]) (rest := [.int v1]) (v := some (.int v2)) rfl rfl rfl rfl rfl (c2) <|
      mi_T.br (P := v1 = v2) (fun _ => rfl)
      (fun h1 => mi_T.go 2 (s1 := (38, [some (.ref 999), some (.ref 0), some (.ref 38), some (.int (x3 + 6))], [], σ2)) rfl <|
      (k1 h1))
      (fun h1 => mi_T.go 1 (s1 := (342, [some (.ref 999), some (.ref 0), some (.ref 38), some (.int x3)], [.int 0], σ2)) rfl <|
      mi_T.fin (k2 h1) (fun _ => rfl))

set_option maxRecDepth 100000 in
theorem RL_343 {X : Nat × (Nat → Int32)} {d : Nat} {r : mA mG} {σ : mG} {x3 : Int32} {v1 : Int32} {σ1 : mG} {v2 : Int32} {σ2 : mG}
    (b1 : mi_in (x3 + 1) X.1 = true)
    (b2 : mi_in (x3 + 2) X.1 = true)
    (c1 : RR X d 12 [.ref 0, .int (X.2 (x3 + 1).toNatClampNeg), .int (X.2 (x3 + 2).toNatClampNeg)] σ (some (.int v1), σ1))
    (b3 : mi_in (x3 + 1) X.1 = true)
    (b4 : mi_in (x3 + 2) X.1 = true)
    (c2 : RR X d 196 [.ref 38, .int (X.2 (x3 + 1).toNatClampNeg), .int (X.2 (x3 + 2).toNatClampNeg)] σ1 (some (.int v2), σ2))
    (k1 : v1 = v2 → TT X d tbL (some .boolean) (38, [some (.ref 999), some (.ref 0), some (.ref 38), some (.int (x3 + 6))], [], σ2) r)
    (k2 : ¬ (v1 = v2) → r = (some (.int 0), σ2))
    : TT X d tbL (some .boolean) (343, [some (.ref 999), some (.ref 0), some (.ref 38), some (.int x3)], [], σ) r := mi_T.go 5 (s1 := (348, [some (.ref 999), some (.ref 0), some (.ref 38), some (.int x3)], [.int (x3 + 1), .ref 999, .ref 0], σ)) rfl <|
      mi_T.scr rfl (b1) <|
      mi_T.go 4 (s1 := (353, [some (.ref 999), some (.ref 0), some (.ref 38), some (.int x3)], [.int (x3 + 2), .ref 999, .int (X.2 (x3 + 1).toNatClampNeg), .ref 0], σ)) rfl <|
      mi_T.scr rfl (b2) <|
      mi_T.call (as := [.ref 0, .int (X.2 (x3 + 1).toNatClampNeg), .int (X.2 (x3 + 2).toNatClampNeg)]) (rest := []) (v := some (.int v1)) rfl rfl rfl rfl rfl (c1) <|
      mi_T.go 5 (s1 := (362, [some (.ref 999), some (.ref 0), some (.ref 38), some (.int x3)], [.int (x3 + 1), .ref 999, .ref 38, .int v1], σ1)) rfl <|
      mi_T.scr rfl (b3) <|
      mi_T.go 4 (s1 := (367, [some (.ref 999), some (.ref 0), some (.ref 38), some (.int x3)], [.int (x3 + 2), .ref 999, .int (X.2 (x3 + 1).toNatClampNeg), .ref 38, .int v1], σ1)) rfl <|
      mi_T.scr rfl (b4) <|
      mi_T.call (as := [.ref 38, .int (X.2 (x3 + 1).toNatClampNeg), .int (X.2 (x3 + 2).toNatClampNeg)]) (rest := [.int v1]) (v := some (.int v2)) rfl rfl rfl rfl rfl (c2) <|
      mi_T.br (P := v1 = v2) (fun _ => rfl)
      (fun h1 => mi_T.go 2 (s1 := (38, [some (.ref 999), some (.ref 0), some (.ref 38), some (.int (x3 + 6))], [], σ2)) rfl <|
      (k1 h1))
      (fun h1 => mi_T.go 1 (s1 := (375, [some (.ref 999), some (.ref 0), some (.ref 38), some (.int x3)], [.int 0], σ2)) rfl <|
      mi_T.fin (k2 h1) (fun _ => rfl))

set_option maxRecDepth 100000 in
theorem RL_376 {X : Nat × (Nat → Int32)} {d : Nat} {r : mA mG} {σ : mG} {x3 : Int32} {v1 : Int32} {σ1 : mG} {v2 : Int32} {σ2 : mG}
    (b1 : mi_in (x3 + 1) X.1 = true)
    (c1 : RR X d 15 [.ref 0, .int (((X.2 (x3 + 1).toNatClampNeg).toUInt32 % 65536).toInt32)] σ (some (.int v1), σ1))
    (b2 : mi_in (x3 + 1) X.1 = true)
    (c2 : RR X d 135 [.ref 38, .int (((X.2 (x3 + 1).toNatClampNeg).toUInt32 % 65536).toInt32)] σ1 (some (.int v2), σ2))
    (k1 : v1 = v2 → TT X d tbL (some .boolean) (38, [some (.ref 999), some (.ref 0), some (.ref 38), some (.int (x3 + 6))], [], σ2) r)
    (k2 : ¬ (v1 = v2) → r = (some (.int 0), σ2))
    : TT X d tbL (some .boolean) (376, [some (.ref 999), some (.ref 0), some (.ref 38), some (.int x3)], [], σ) r := mi_T.go 5 (s1 := (381, [some (.ref 999), some (.ref 0), some (.ref 38), some (.int x3)], [.int (x3 + 1), .ref 999, .ref 0], σ)) rfl <|
      mi_T.scr rfl (b1) <|
      mi_T.go 1 (s1 := (383, [some (.ref 999), some (.ref 0), some (.ref 38), some (.int x3)], [.int (((X.2 (x3 + 1).toNatClampNeg).toUInt32 % 65536).toInt32), .ref 0], σ)) rfl <|
      mi_T.call (as := [.ref 0, .int (((X.2 (x3 + 1).toNatClampNeg).toUInt32 % 65536).toInt32)]) (rest := []) (v := some (.int v1)) rfl rfl rfl rfl rfl (c1) <|
      mi_T.go 5 (s1 := (391, [some (.ref 999), some (.ref 0), some (.ref 38), some (.int x3)], [.int (x3 + 1), .ref 999, .ref 38, .int v1], σ1)) rfl <|
      mi_T.scr rfl (b2) <|
      mi_T.go 1 (s1 := (393, [some (.ref 999), some (.ref 0), some (.ref 38), some (.int x3)], [.int (((X.2 (x3 + 1).toNatClampNeg).toUInt32 % 65536).toInt32), .ref 38, .int v1], σ1)) rfl <|
      mi_T.call (as := [.ref 38, .int (((X.2 (x3 + 1).toNatClampNeg).toUInt32 % 65536).toInt32)]) (rest := [.int v1]) (v := some (.int v2)) rfl rfl rfl rfl rfl (c2) <|
      mi_T.br (P := v1 = v2) (fun _ => rfl)
      (fun h1 => mi_T.go 2 (s1 := (38, [some (.ref 999), some (.ref 0), some (.ref 38), some (.int (x3 + 6))], [], σ2)) rfl <|
      (k1 h1))
      (fun h1 => mi_T.go 1 (s1 := (400, [some (.ref 999), some (.ref 0), some (.ref 38), some (.int x3)], [.int 0], σ2)) rfl <|
      mi_T.fin (k2 h1) (fun _ => rfl))

set_option maxRecDepth 100000 in
theorem RL_401 {X : Nat × (Nat → Int32)} {d : Nat} {r : mA mG} {σ : mG} {x3 : Int32} {v1 : Int32} {σ1 : mG} {v2 : Int32} {σ2 : mG}
    (b1 : mi_in (x3 + 1) X.1 = true)
    (b2 : mi_in (x3 + 2) X.1 = true)
    (c1 : RR X d 16 [.ref 0, .int (X.2 (x3 + 1).toNatClampNeg), .int (((X.2 (x3 + 2).toNatClampNeg).toUInt32 % 65536).toInt32)] σ (some (.int v1), σ1))
    (b3 : mi_in (x3 + 1) X.1 = true)
    (b4 : mi_in (x3 + 2) X.1 = true)
    (c2 : RR X d 136 [.ref 38, .int (X.2 (x3 + 1).toNatClampNeg), .int (((X.2 (x3 + 2).toNatClampNeg).toUInt32 % 65536).toInt32)] σ1 (some (.int v2), σ2))
    (k1 : v1 = v2 → TT X d tbL (some .boolean) (38, [some (.ref 999), some (.ref 0), some (.ref 38), some (.int (x3 + 6))], [], σ2) r)
    (k2 : ¬ (v1 = v2) → r = (some (.int 0), σ2))
    : TT X d tbL (some .boolean) (401, [some (.ref 999), some (.ref 0), some (.ref 38), some (.int x3)], [], σ) r := mi_T.go 5 (s1 := (406, [some (.ref 999), some (.ref 0), some (.ref 38), some (.int x3)], [.int (x3 + 1), .ref 999, .ref 0], σ)) rfl <|
      mi_T.scr rfl (b1) <|
      mi_T.go 4 (s1 := (411, [some (.ref 999), some (.ref 0), some (.ref 38), some (.int x3)], [.int (x3 + 2), .ref 999, .int (X.2 (x3 + 1).toNatClampNeg), .ref 0], σ)) rfl <|
      mi_T.scr rfl (b2) <|
      mi_T.go 1 (s1 := (413, [some (.ref 999), some (.ref 0), some (.ref 38), some (.int x3)], [.int (((X.2 (x3 + 2).toNatClampNeg).toUInt32 % 65536).toInt32), .int (X.2 (x3 + 1).toNatClampNeg), .ref 0], σ)) rfl <|
      mi_T.call (as := [.ref 0, .int (X.2 (x3 + 1).toNatClampNeg), .int (((X.2 (x3 + 2).toNatClampNeg).toUInt32 % 65536).toInt32)]) (rest := []) (v := some (.int v1)) rfl rfl rfl rfl rfl (c1) <|
      mi_T.go 5 (s1 := (421, [some (.ref 999), some (.ref 0), some (.ref 38), some (.int x3)], [.int (x3 + 1), .ref 999, .ref 38, .int v1], σ1)) rfl <|
      mi_T.scr rfl (b3) <|
      mi_T.go 4 (s1 := (426, [some (.ref 999), some (.ref 0), some (.ref 38), some (.int x3)], [.int (x3 + 2), .ref 999, .int (X.2 (x3 + 1).toNatClampNeg), .ref 38, .int v1], σ1)) rfl <|
      mi_T.scr rfl (b4) <|
      mi_T.go 1 (s1 := (428, [some (.ref 999), some (.ref 0), some (.ref 38), some (.int x3)], [.int (((X.2 (x3 + 2).toNatClampNeg).toUInt32 % 65536).toInt32), .int (X.2 (x3 + 1).toNatClampNeg), .ref 38, .int v1], σ1)) rfl <|
      mi_T.call (as := [.ref 38, .int (X.2 (x3 + 1).toNatClampNeg), .int (((X.2 (x3 + 2).toNatClampNeg).toUInt32 % 65536).toInt32)]) (rest := [.int v1]) (v := some (.int v2)) rfl rfl rfl rfl rfl (c2) <|
      mi_T.br (P := v1 = v2) (fun _ => rfl)
      (fun h1 => mi_T.go 2 (s1 := (38, [some (.ref 999), some (.ref 0), some (.ref 38), some (.int (x3 + 6))], [], σ2)) rfl <|
      (k1 h1))
      (fun h1 => mi_T.go 1 (s1 := (435, [some (.ref 999), some (.ref 0), some (.ref 38), some (.int x3)], [.int 0], σ2)) rfl <|
      mi_T.fin (k2 h1) (fun _ => rfl))

set_option maxRecDepth 100000 in
theorem RL_436 {X : Nat × (Nat → Int32)} {d : Nat} {r : mA mG} {σ : mG} {x3 : Int32} {v1 : Int32} {σ1 : mG} {v2 : Int32} {σ2 : mG}
    (b1 : mi_in (x3 + 1) X.1 = true)
    (b2 : mi_in (x3 + 2) X.1 = true)
    (c1 : RR X d 17 [.ref 0, .int (X.2 (x3 + 1).toNatClampNeg), .int (X.2 (x3 + 2).toNatClampNeg)] σ (some (.int v1), σ1))
    (b3 : mi_in (x3 + 1) X.1 = true)
    (b4 : mi_in (x3 + 2) X.1 = true)
    (c2 : RR X d 137 [.ref 38, .int (X.2 (x3 + 1).toNatClampNeg), .int (X.2 (x3 + 2).toNatClampNeg)] σ1 (some (.int v2), σ2))
    (k1 : v1 = v2 → TT X d tbL (some .boolean) (38, [some (.ref 999), some (.ref 0), some (.ref 38), some (.int (x3 + 6))], [], σ2) r)
    (k2 : ¬ (v1 = v2) → r = (some (.int 0), σ2))
    : TT X d tbL (some .boolean) (436, [some (.ref 999), some (.ref 0), some (.ref 38), some (.int x3)], [], σ) r := mi_T.go 5 (s1 := (441, [some (.ref 999), some (.ref 0), some (.ref 38), some (.int x3)], [.int (x3 + 1), .ref 999, .ref 0], σ)) rfl <|
      mi_T.scr rfl (b1) <|
      mi_T.go 4 (s1 := (446, [some (.ref 999), some (.ref 0), some (.ref 38), some (.int x3)], [.int (x3 + 2), .ref 999, .int (X.2 (x3 + 1).toNatClampNeg), .ref 0], σ)) rfl <|
      mi_T.scr rfl (b2) <|
      mi_T.call (as := [.ref 0, .int (X.2 (x3 + 1).toNatClampNeg), .int (X.2 (x3 + 2).toNatClampNeg)]) (rest := []) (v := some (.int v1)) rfl rfl rfl rfl rfl (c1) <|
      mi_T.go 5 (s1 := (455, [some (.ref 999), some (.ref 0), some (.ref 38), some (.int x3)], [.int (x3 + 1), .ref 999, .ref 38, .int v1], σ1)) rfl <|
      mi_T.scr rfl (b3) <|
      mi_T.go 4 (s1 := (460, [some (.ref 999), some (.ref 0), some (.ref 38), some (.int x3)], [.int (x3 + 2), .ref 999, .int (X.2 (x3 + 1).toNatClampNeg), .ref 38, .int v1], σ1)) rfl <|
      mi_T.scr rfl (b4) <|
      mi_T.call (as := [.ref 38, .int (X.2 (x3 + 1).toNatClampNeg), .int (X.2 (x3 + 2).toNatClampNeg)]) (rest := [.int v1]) (v := some (.int v2)) rfl rfl rfl rfl rfl (c2) <|
      mi_T.br (P := v1 = v2) (fun _ => rfl)
      (fun h1 => mi_T.go 2 (s1 := (38, [some (.ref 999), some (.ref 0), some (.ref 38), some (.int (x3 + 6))], [], σ2)) rfl <|
      (k1 h1))
      (fun h1 => mi_T.go 1 (s1 := (468, [some (.ref 999), some (.ref 0), some (.ref 38), some (.int x3)], [.int 0], σ2)) rfl <|
      mi_T.fin (k2 h1) (fun _ => rfl))

set_option maxRecDepth 100000 in
theorem RL_469 {X : Nat × (Nat → Int32)} {d : Nat} {r : mA mG} {σ : mG} {x3 : Int32} {v1 : Int32} {σ1 : mG} {v2 : Int32} {σ2 : mG}
    (b1 : mi_in (x3 + 1) X.1 = true)
    (c1 : RR X d 18 [.ref 0, .int (X.2 (x3 + 1).toNatClampNeg)] σ (some (.int v1), σ1))
    (b2 : mi_in (x3 + 1) X.1 = true)
    (c2 : RR X d 138 [.ref 38, .int (X.2 (x3 + 1).toNatClampNeg)] σ1 (some (.int v2), σ2))
    (k1 : v1 = v2 → TT X d tbL (some .boolean) (38, [some (.ref 999), some (.ref 0), some (.ref 38), some (.int (x3 + 6))], [], σ2) r)
    (k2 : ¬ (v1 = v2) → r = (some (.int 0), σ2))
    : TT X d tbL (some .boolean) (469, [some (.ref 999), some (.ref 0), some (.ref 38), some (.int x3)], [], σ) r := mi_T.go 5 (s1 := (474, [some (.ref 999), some (.ref 0), some (.ref 38), some (.int x3)], [.int (x3 + 1), .ref 999, .ref 0], σ)) rfl <|
      mi_T.scr rfl (b1) <|
      mi_T.call (as := [.ref 0, .int (X.2 (x3 + 1).toNatClampNeg)]) (rest := []) (v := some (.int v1)) rfl rfl rfl rfl rfl (c1) <|
      mi_T.go 5 (s1 := (483, [some (.ref 999), some (.ref 0), some (.ref 38), some (.int x3)], [.int (x3 + 1), .ref 999, .ref 38, .int v1], σ1)) rfl <|
      mi_T.scr rfl (b2) <|
      mi_T.call (as := [.ref 38, .int (X.2 (x3 + 1).toNatClampNeg)]) (rest := [.int v1]) (v := some (.int v2)) rfl rfl rfl rfl rfl (c2) <|
      mi_T.br (P := v1 = v2) (fun _ => rfl)
      (fun h1 => mi_T.go 2 (s1 := (38, [some (.ref 999), some (.ref 0), some (.ref 38), some (.int (x3 + 6))], [], σ2)) rfl <|
      (k1 h1))
      (fun h1 => mi_T.go 1 (s1 := (491, [some (.ref 999), some (.ref 0), some (.ref 38), some (.int x3)], [.int 0], σ2)) rfl <|
      mi_T.fin (k2 h1) (fun _ => rfl))

set_option maxRecDepth 100000 in
theorem RL_492 {X : Nat × (Nat → Int32)} {d : Nat} {r : mA mG} {σ : mG} {x3 : Int32} {σ1 : mG} {σ2 : mG}
    (c1 : RR X d 19 [.ref 0] σ (none, σ1))
    (c2 : RR X d 139 [.ref 38] σ1 (none, σ2))
    (k1 : TT X d tbL (some .boolean) (38, [some (.ref 999), some (.ref 0), some (.ref 38), some (.int (x3 + 6))], [], σ2) r)
    : TT X d tbL (some .boolean) (492, [some (.ref 999), some (.ref 0), some (.ref 38), some (.int x3)], [], σ) r := mi_T.go 1 (s1 := (493, [some (.ref 999), some (.ref 0), some (.ref 38), some (.int x3)], [.ref 0], σ)) rfl <|
      mi_T.call (as := [.ref 0]) (rest := []) (v := none) rfl rfl rfl rfl rfl (c1) <|
      mi_T.go 1 (s1 := (497, [some (.ref 999), some (.ref 0), some (.ref 38), some (.int x3)], [.ref 38], σ1)) rfl <|
      mi_T.call (as := [.ref 38]) (rest := []) (v := none) rfl rfl rfl rfl rfl (c2) <|
      mi_T.go 3 (s1 := (38, [some (.ref 999), some (.ref 0), some (.ref 38), some (.int (x3 + 6))], [], σ2)) rfl <|
      k1

set_option maxRecDepth 100000 in
theorem RL_503 {X : Nat × (Nat → Int32)} {d : Nat} {r : mA mG} {σ : mG} {x3 : Int32} {v1 : Int32} {σ1 : mG} {v2 : Int32} {σ2 : mG}
    (c1 : RR X d 20 [.ref 0] σ (some (.int v1), σ1))
    (c2 : RR X d 140 [.ref 38] σ1 (some (.int v2), σ2))
    (k1 : v1 = v2 → TT X d tbL (some .boolean) (38, [some (.ref 999), some (.ref 0), some (.ref 38), some (.int (x3 + 6))], [], σ2) r)
    (k2 : ¬ (v1 = v2) → r = (some (.int 0), σ2))
    : TT X d tbL (some .boolean) (503, [some (.ref 999), some (.ref 0), some (.ref 38), some (.int x3)], [], σ) r := mi_T.go 1 (s1 := (504, [some (.ref 999), some (.ref 0), some (.ref 38), some (.int x3)], [.ref 0], σ)) rfl <|
      mi_T.call (as := [.ref 0]) (rest := []) (v := some (.int v1)) rfl rfl rfl rfl rfl (c1) <|
      mi_T.go 1 (s1 := (508, [some (.ref 999), some (.ref 0), some (.ref 38), some (.int x3)], [.ref 38, .int v1], σ1)) rfl <|
      mi_T.call (as := [.ref 38]) (rest := [.int v1]) (v := some (.int v2)) rfl rfl rfl rfl rfl (c2) <|
      mi_T.br (P := v1 = v2) (fun _ => rfl)
      (fun h1 => mi_T.go 2 (s1 := (38, [some (.ref 999), some (.ref 0), some (.ref 38), some (.int (x3 + 6))], [], σ2)) rfl <|
      (k1 h1))
      (fun h1 => mi_T.go 1 (s1 := (515, [some (.ref 999), some (.ref 0), some (.ref 38), some (.int x3)], [.int 0], σ2)) rfl <|
      mi_T.fin (k2 h1) (fun _ => rfl))

set_option maxRecDepth 100000 in
theorem RL_516 {X : Nat × (Nat → Int32)} {d : Nat} {r : mA mG} {σ : mG} {x3 : Int32} {v1 : Int32} {σ1 : mG} {v2 : Int32} {σ2 : mG}
    (b1 : mi_in (x3 + 1) X.1 = true)
    (c1 : RR X d 21 [.ref 0, .int (X.2 (x3 + 1).toNatClampNeg)] σ (some (.int v1), σ1))
    (b2 : mi_in (x3 + 1) X.1 = true)
    (c2 : RR X d 141 [.ref 38, .int (X.2 (x3 + 1).toNatClampNeg)] σ1 (some (.int v2), σ2))
    (k1 : v1 = v2 → TT X d tbL (some .boolean) (38, [some (.ref 999), some (.ref 0), some (.ref 38), some (.int (x3 + 6))], [], σ2) r)
    (k2 : ¬ (v1 = v2) → r = (some (.int 0), σ2))
    : TT X d tbL (some .boolean) (516, [some (.ref 999), some (.ref 0), some (.ref 38), some (.int x3)], [], σ) r := mi_T.go 5 (s1 := (521, [some (.ref 999), some (.ref 0), some (.ref 38), some (.int x3)], [.int (x3 + 1), .ref 999, .ref 0], σ)) rfl <|
      mi_T.scr rfl (b1) <|
      mi_T.call (as := [.ref 0, .int (X.2 (x3 + 1).toNatClampNeg)]) (rest := []) (v := some (.int v1)) rfl rfl rfl rfl rfl (c1) <|
      mi_T.go 5 (s1 := (530, [some (.ref 999), some (.ref 0), some (.ref 38), some (.int x3)], [.int (x3 + 1), .ref 999, .ref 38, .int v1], σ1)) rfl <|
      mi_T.scr rfl (b2) <|
      mi_T.call (as := [.ref 38, .int (X.2 (x3 + 1).toNatClampNeg)]) (rest := [.int v1]) (v := some (.int v2)) rfl rfl rfl rfl rfl (c2) <|
      mi_T.br (P := v1 = v2) (fun _ => rfl)
      (fun h1 => mi_T.go 2 (s1 := (38, [some (.ref 999), some (.ref 0), some (.ref 38), some (.int (x3 + 6))], [], σ2)) rfl <|
      (k1 h1))
      (fun h1 => mi_T.go 1 (s1 := (538, [some (.ref 999), some (.ref 0), some (.ref 38), some (.int x3)], [.int 0], σ2)) rfl <|
      mi_T.fin (k2 h1) (fun _ => rfl))

set_option maxRecDepth 100000 in
theorem RL_539 {X : Nat × (Nat → Int32)} {d : Nat} {r : mA mG} {σ : mG} {x3 : Int32} {v1 : Int32} {σ1 : mG} {v2 : Int32} {σ2 : mG}
    (c1 : RR X d 22 [.ref 0] σ (some (.int v1), σ1))
    (c2 : RR X d 154 [.ref 38] σ1 (some (.int v2), σ2))
    (k1 : v1 = v2 → TT X d tbL (some .boolean) (38, [some (.ref 999), some (.ref 0), some (.ref 38), some (.int (x3 + 6))], [], σ2) r)
    (k2 : ¬ (v1 = v2) → r = (some (.int 0), σ2))
    : TT X d tbL (some .boolean) (539, [some (.ref 999), some (.ref 0), some (.ref 38), some (.int x3)], [], σ) r := mi_T.go 1 (s1 := (540, [some (.ref 999), some (.ref 0), some (.ref 38), some (.int x3)], [.ref 0], σ)) rfl <|
      mi_T.call (as := [.ref 0]) (rest := []) (v := some (.int v1)) rfl rfl rfl rfl rfl (c1) <|
      mi_T.go 1 (s1 := (544, [some (.ref 999), some (.ref 0), some (.ref 38), some (.int x3)], [.ref 38, .int v1], σ1)) rfl <|
      mi_T.call (as := [.ref 38]) (rest := [.int v1]) (v := some (.int v2)) rfl rfl rfl rfl rfl (c2) <|
      mi_T.br (P := v1 = v2) (fun _ => rfl)
      (fun h1 => mi_T.go 2 (s1 := (38, [some (.ref 999), some (.ref 0), some (.ref 38), some (.int (x3 + 6))], [], σ2)) rfl <|
      (k1 h1))
      (fun h1 => mi_T.go 1 (s1 := (551, [some (.ref 999), some (.ref 0), some (.ref 38), some (.int x3)], [.int 0], σ2)) rfl <|
      mi_T.fin (k2 h1) (fun _ => rfl))

set_option maxRecDepth 100000 in
theorem RL_552 {X : Nat × (Nat → Int32)} {d : Nat} {r : mA mG} {σ : mG} {x3 : Int32} {v1 : Int32} {σ1 : mG} {v2 : Int32} {σ2 : mG}
    (b1 : mi_in (x3 + 1) X.1 = true)
    (c1 : RR X d 23 [.ref 0, .int (X.2 (x3 + 1).toNatClampNeg)] σ (some (.int v1), σ1))
    (b2 : mi_in (x3 + 1) X.1 = true)
    (c2 : RR X d 162 [.ref 38, .int (X.2 (x3 + 1).toNatClampNeg)] σ1 (some (.int v2), σ2))
    (k1 : v1 = v2 → TT X d tbL (some .boolean) (38, [some (.ref 999), some (.ref 0), some (.ref 38), some (.int (x3 + 6))], [], σ2) r)
    (k2 : ¬ (v1 = v2) → r = (some (.int 0), σ2))
    : TT X d tbL (some .boolean) (552, [some (.ref 999), some (.ref 0), some (.ref 38), some (.int x3)], [], σ) r := mi_T.go 5 (s1 := (557, [some (.ref 999), some (.ref 0), some (.ref 38), some (.int x3)], [.int (x3 + 1), .ref 999, .ref 0], σ)) rfl <|
      mi_T.scr rfl (b1) <|
      mi_T.call (as := [.ref 0, .int (X.2 (x3 + 1).toNatClampNeg)]) (rest := []) (v := some (.int v1)) rfl rfl rfl rfl rfl (c1) <|
      mi_T.go 5 (s1 := (566, [some (.ref 999), some (.ref 0), some (.ref 38), some (.int x3)], [.int (x3 + 1), .ref 999, .ref 38, .int v1], σ1)) rfl <|
      mi_T.scr rfl (b2) <|
      mi_T.call (as := [.ref 38, .int (X.2 (x3 + 1).toNatClampNeg)]) (rest := [.int v1]) (v := some (.int v2)) rfl rfl rfl rfl rfl (c2) <|
      mi_T.br (P := v1 = v2) (fun _ => rfl)
      (fun h1 => mi_T.go 2 (s1 := (38, [some (.ref 999), some (.ref 0), some (.ref 38), some (.int (x3 + 6))], [], σ2)) rfl <|
      (k1 h1))
      (fun h1 => mi_T.go 1 (s1 := (574, [some (.ref 999), some (.ref 0), some (.ref 38), some (.int x3)], [.int 0], σ2)) rfl <|
      mi_T.fin (k2 h1) (fun _ => rfl))

set_option maxRecDepth 100000 in
theorem RL_575 {X : Nat × (Nat → Int32)} {d : Nat} {r : mA mG} {σ : mG} {x3 : Int32} {v1 : Int32} {σ1 : mG} {v2 : Int32} {σ2 : mG}
    (b1 : mi_in (x3 + 1) X.1 = true)
    (b2 : mi_in (x3 + 2) X.1 = true)
    (c1 : RR X d 24 [.ref 0, .int (X.2 (x3 + 1).toNatClampNeg), .int (X.2 (x3 + 2).toNatClampNeg)] σ (some (.int v1), σ1))
    (b3 : mi_in (x3 + 1) X.1 = true)
    (b4 : mi_in (x3 + 2) X.1 = true)
    (c2 : RR X d 163 [.ref 38, .int (X.2 (x3 + 1).toNatClampNeg), .int (X.2 (x3 + 2).toNatClampNeg)] σ1 (some (.int v2), σ2))
    (k1 : v1 = v2 → TT X d tbL (some .boolean) (38, [some (.ref 999), some (.ref 0), some (.ref 38), some (.int (x3 + 6))], [], σ2) r)
    (k2 : ¬ (v1 = v2) → r = (some (.int 0), σ2))
    : TT X d tbL (some .boolean) (575, [some (.ref 999), some (.ref 0), some (.ref 38), some (.int x3)], [], σ) r := mi_T.go 5 (s1 := (580, [some (.ref 999), some (.ref 0), some (.ref 38), some (.int x3)], [.int (x3 + 1), .ref 999, .ref 0], σ)) rfl <|
      mi_T.scr rfl (b1) <|
      mi_T.go 4 (s1 := (585, [some (.ref 999), some (.ref 0), some (.ref 38), some (.int x3)], [.int (x3 + 2), .ref 999, .int (X.2 (x3 + 1).toNatClampNeg), .ref 0], σ)) rfl <|
      mi_T.scr rfl (b2) <|
      mi_T.call (as := [.ref 0, .int (X.2 (x3 + 1).toNatClampNeg), .int (X.2 (x3 + 2).toNatClampNeg)]) (rest := []) (v := some (.int v1)) rfl rfl rfl rfl rfl (c1) <|
      mi_T.go 5 (s1 := (594, [some (.ref 999), some (.ref 0), some (.ref 38), some (.int x3)], [.int (x3 + 1), .ref 999, .ref 38, .int v1], σ1)) rfl <|
      mi_T.scr rfl (b3) <|
      mi_T.go 4 (s1 := (599, [some (.ref 999), some (.ref 0), some (.ref 38), some (.int x3)], [.int (x3 + 2), .ref 999, .int (X.2 (x3 + 1).toNatClampNeg), .ref 38, .int v1], σ1)) rfl <|
      mi_T.scr rfl (b4) <|
      mi_T.call (as := [.ref 38, .int (X.2 (x3 + 1).toNatClampNeg), .int (X.2 (x3 + 2).toNatClampNeg)]) (rest := [.int v1]) (v := some (.int v2)) rfl rfl rfl rfl rfl (c2) <|
      mi_T.br (P := v1 = v2) (fun _ => rfl)
      (fun h1 => mi_T.go 2 (s1 := (38, [some (.ref 999), some (.ref 0), some (.ref 38), some (.int (x3 + 6))], [], σ2)) rfl <|
      (k1 h1))
      (fun h1 => mi_T.go 1 (s1 := (607, [some (.ref 999), some (.ref 0), some (.ref 38), some (.int x3)], [.int 0], σ2)) rfl <|
      mi_T.fin (k2 h1) (fun _ => rfl))

set_option maxRecDepth 100000 in
theorem RL_608 {X : Nat × (Nat → Int32)} {d : Nat} {r : mA mG} {σ : mG} {x3 : Int32} {v1 : Int32} {σ1 : mG} {v2 : Int32} {σ2 : mG}
    (c1 : RR X d 26 [.ref 0] σ (some (.int v1), σ1))
    (c2 : RR X d 183 [.ref 38] σ1 (some (.int v2), σ2))
    (k1 : v1 = v2 → TT X d tbL (some .boolean) (38, [some (.ref 999), some (.ref 0), some (.ref 38), some (.int (x3 + 6))], [], σ2) r)
    (k2 : ¬ (v1 = v2) → r = (some (.int 0), σ2))
    : TT X d tbL (some .boolean) (608, [some (.ref 999), some (.ref 0), some (.ref 38), some (.int x3)], [], σ) r := mi_T.go 1 (s1 := (609, [some (.ref 999), some (.ref 0), some (.ref 38), some (.int x3)], [.ref 0], σ)) rfl <|
      mi_T.call (as := [.ref 0]) (rest := []) (v := some (.int v1)) rfl rfl rfl rfl rfl (c1) <|
      mi_T.go 1 (s1 := (613, [some (.ref 999), some (.ref 0), some (.ref 38), some (.int x3)], [.ref 38, .int v1], σ1)) rfl <|
      mi_T.call (as := [.ref 38]) (rest := [.int v1]) (v := some (.int v2)) rfl rfl rfl rfl rfl (c2) <|
      mi_T.br (P := v1 = v2) (fun _ => rfl)
      (fun h1 => mi_T.go 2 (s1 := (38, [some (.ref 999), some (.ref 0), some (.ref 38), some (.int (x3 + 6))], [], σ2)) rfl <|
      (k1 h1))
      (fun h1 => mi_T.go 1 (s1 := (620, [some (.ref 999), some (.ref 0), some (.ref 38), some (.int x3)], [.int 0], σ2)) rfl <|
      mi_T.fin (k2 h1) (fun _ => rfl))

set_option maxRecDepth 100000 in
theorem RL_621 {X : Nat × (Nat → Int32)} {d : Nat} {r : mA mG} {σ : mG} {x3 : Int32} {v1 : Int32} {σ1 : mG} {v2 : Int32} {σ2 : mG}
    (b1 : mi_in (x3 + 1) X.1 = true)
    (c1 : RR X d 27 [.ref 0, .int (X.2 (x3 + 1).toNatClampNeg)] σ (some (.int v1), σ1))
    (b2 : mi_in (x3 + 1) X.1 = true)
    (c2 : RR X d 184 [.ref 38, .int (X.2 (x3 + 1).toNatClampNeg)] σ1 (some (.int v2), σ2))
    (k1 : v1 = v2 → TT X d tbL (some .boolean) (38, [some (.ref 999), some (.ref 0), some (.ref 38), some (.int (x3 + 6))], [], σ2) r)
    (k2 : ¬ (v1 = v2) → r = (some (.int 0), σ2))
    : TT X d tbL (some .boolean) (621, [some (.ref 999), some (.ref 0), some (.ref 38), some (.int x3)], [], σ) r := mi_T.go 5 (s1 := (626, [some (.ref 999), some (.ref 0), some (.ref 38), some (.int x3)], [.int (x3 + 1), .ref 999, .ref 0], σ)) rfl <|
      mi_T.scr rfl (b1) <|
      mi_T.call (as := [.ref 0, .int (X.2 (x3 + 1).toNatClampNeg)]) (rest := []) (v := some (.int v1)) rfl rfl rfl rfl rfl (c1) <|
      mi_T.go 5 (s1 := (635, [some (.ref 999), some (.ref 0), some (.ref 38), some (.int x3)], [.int (x3 + 1), .ref 999, .ref 38, .int v1], σ1)) rfl <|
      mi_T.scr rfl (b2) <|
      mi_T.call (as := [.ref 38, .int (X.2 (x3 + 1).toNatClampNeg)]) (rest := [.int v1]) (v := some (.int v2)) rfl rfl rfl rfl rfl (c2) <|
      mi_T.br (P := v1 = v2) (fun _ => rfl)
      (fun h1 => mi_T.go 2 (s1 := (38, [some (.ref 999), some (.ref 0), some (.ref 38), some (.int (x3 + 6))], [], σ2)) rfl <|
      (k1 h1))
      (fun h1 => mi_T.go 1 (s1 := (643, [some (.ref 999), some (.ref 0), some (.ref 38), some (.int x3)], [.int 0], σ2)) rfl <|
      mi_T.fin (k2 h1) (fun _ => rfl))

set_option maxRecDepth 100000 in
theorem RL_644 {X : Nat × (Nat → Int32)} {d : Nat} {r : mA mG} {σ : mG} {x3 : Int32} {v1 : Int32} {σ1 : mG} {v2 : Int32} {σ2 : mG}
    (b1 : mi_in (x3 + 1) X.1 = true)
    (b2 : mi_in (x3 + 2) X.1 = true)
    (c1 : RR X d 28 [.ref 0, .int (X.2 (x3 + 1).toNatClampNeg), .int (X.2 (x3 + 2).toNatClampNeg)] σ (some (.int v1), σ1))
    (b3 : mi_in (x3 + 1) X.1 = true)
    (b4 : mi_in (x3 + 2) X.1 = true)
    (c2 : RR X d 185 [.ref 38, .int (X.2 (x3 + 1).toNatClampNeg), .int (X.2 (x3 + 2).toNatClampNeg)] σ1 (some (.int v2), σ2))
    (k1 : v1 = v2 → TT X d tbL (some .boolean) (38, [some (.ref 999), some (.ref 0), some (.ref 38), some (.int (x3 + 6))], [], σ2) r)
    (k2 : ¬ (v1 = v2) → r = (some (.int 0), σ2))
    : TT X d tbL (some .boolean) (644, [some (.ref 999), some (.ref 0), some (.ref 38), some (.int x3)], [], σ) r := mi_T.go 5 (s1 := (649, [some (.ref 999), some (.ref 0), some (.ref 38), some (.int x3)], [.int (x3 + 1), .ref 999, .ref 0], σ)) rfl <|
      mi_T.scr rfl (b1) <|
      mi_T.go 4 (s1 := (654, [some (.ref 999), some (.ref 0), some (.ref 38), some (.int x3)], [.int (x3 + 2), .ref 999, .int (X.2 (x3 + 1).toNatClampNeg), .ref 0], σ)) rfl <|
      mi_T.scr rfl (b2) <|
      mi_T.call (as := [.ref 0, .int (X.2 (x3 + 1).toNatClampNeg), .int (X.2 (x3 + 2).toNatClampNeg)]) (rest := []) (v := some (.int v1)) rfl rfl rfl rfl rfl (c1) <|
      mi_T.go 5 (s1 := (663, [some (.ref 999), some (.ref 0), some (.ref 38), some (.int x3)], [.int (x3 + 1), .ref 999, .ref 38, .int v1], σ1)) rfl <|
      mi_T.scr rfl (b3) <|
      mi_T.go 4 (s1 := (668, [some (.ref 999), some (.ref 0), some (.ref 38), some (.int x3)], [.int (x3 + 2), .ref 999, .int (X.2 (x3 + 1).toNatClampNeg), .ref 38, .int v1], σ1)) rfl <|
      mi_T.scr rfl (b4) <|
      mi_T.call (as := [.ref 38, .int (X.2 (x3 + 1).toNatClampNeg), .int (X.2 (x3 + 2).toNatClampNeg)]) (rest := [.int v1]) (v := some (.int v2)) rfl rfl rfl rfl rfl (c2) <|
      mi_T.br (P := v1 = v2) (fun _ => rfl)
      (fun h1 => mi_T.go 2 (s1 := (38, [some (.ref 999), some (.ref 0), some (.ref 38), some (.int (x3 + 6))], [], σ2)) rfl <|
      (k1 h1))
      (fun h1 => mi_T.go 1 (s1 := (676, [some (.ref 999), some (.ref 0), some (.ref 38), some (.int x3)], [.int 0], σ2)) rfl <|
      mi_T.fin (k2 h1) (fun _ => rfl))

set_option maxRecDepth 100000 in
theorem RL_677 {X : Nat × (Nat → Int32)} {d : Nat} {r : mA mG} {σ : mG} {x3 : Int32} {v1 : Int32} {σ1 : mG} {v2 : Int32} {σ2 : mG}
    (c1 : RR X d 29 [.ref 0] σ (some (.int v1), σ1))
    (c2 : RR X d 132 [.ref 38] σ1 (some (.int v2), σ2))
    (k1 : v1 = v2 → TT X d tbL (some .boolean) (38, [some (.ref 999), some (.ref 0), some (.ref 38), some (.int (x3 + 6))], [], σ2) r)
    (k2 : ¬ (v1 = v2) → r = (some (.int 0), σ2))
    : TT X d tbL (some .boolean) (677, [some (.ref 999), some (.ref 0), some (.ref 38), some (.int x3)], [], σ) r := mi_T.go 1 (s1 := (678, [some (.ref 999), some (.ref 0), some (.ref 38), some (.int x3)], [.ref 0], σ)) rfl <|
      mi_T.call (as := [.ref 0]) (rest := []) (v := some (.int v1)) rfl rfl rfl rfl rfl (c1) <|
      mi_T.go 1 (s1 := (682, [some (.ref 999), some (.ref 0), some (.ref 38), some (.int x3)], [.ref 38, .int v1], σ1)) rfl <|
      mi_T.call (as := [.ref 38]) (rest := [.int v1]) (v := some (.int v2)) rfl rfl rfl rfl rfl (c2) <|
      mi_T.br (P := v1 = v2) (fun _ => rfl)
      (fun h1 => mi_T.go 2 (s1 := (38, [some (.ref 999), some (.ref 0), some (.ref 38), some (.int (x3 + 6))], [], σ2)) rfl <|
      (k1 h1))
      (fun h1 => mi_T.go 1 (s1 := (689, [some (.ref 999), some (.ref 0), some (.ref 38), some (.int x3)], [.int 0], σ2)) rfl <|
      mi_T.fin (k2 h1) (fun _ => rfl))

set_option maxRecDepth 100000 in
theorem RL_690 {X : Nat × (Nat → Int32)} {d : Nat} {r : mA mG} {σ : mG} {x3 : Int32}
    (k1 : TT X d tbL (some .boolean) (38, [some (.ref 999), some (.ref 0), some (.ref 38), some (.int (x3 + 6))], [], σ) r)
    : TT X d tbL (some .boolean) (690, [some (.ref 999), some (.ref 0), some (.ref 38), some (.int x3)], [], σ) r := mi_T.go 2 (s1 := (38, [some (.ref 999), some (.ref 0), some (.ref 38), some (.int (x3 + 6))], [], σ)) rfl <|
      k1

