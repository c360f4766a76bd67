/-! Rules of AssertionGate.Message, printed by a program: what each stretch of its code does. -/
-- AssertionGate$Message.holds(I)Z
theorem R53_0 {X : Nat × (Nat → Int32)} {d : Nat} {r : mA mG} {σ : mG} {x1 : Int32}
    (k1 : x1 < 0 → r = (some (.int 0), σ))
    (k2 : ¬ (x1 < 0) → (σ.1 5 1) ≤ x1 → r = (some (.int 0), σ))
    (k3 : ¬ (x1 < 0) → ¬ ((σ.1 5 1) ≤ x1) → r = (some (.int 1), σ))
    : TT X d tb53 (some .boolean) (0, [some (.ref 5), some (.int x1)], [], σ) r := mi_T.go 1 (s1 := (1, [some (.ref 5), some (.int x1)], [.int x1], σ)) rfl <|
      mi_T.br (P := x1 < 0) (fun _ => rfl)
      (fun h1 => mi_T.go 1 (s1 := (17, [some (.ref 5), some (.int x1)], [.int 0], σ)) rfl <|
      mi_T.fin (k1 h1) (fun _ => rfl))
      (fun h1 => mi_T.go 3 (s1 := (9, [some (.ref 5), some (.int x1)], [.int (σ.1 5 1), .int x1], σ)) rfl <|
      mi_T.br (P := (σ.1 5 1) ≤ x1) (fun _ => rfl)
      (fun h2 => mi_T.go 1 (s1 := (17, [some (.ref 5), some (.int x1)], [.int 0], σ)) rfl <|
      mi_T.fin (k2 h1 h2) (fun _ => rfl))
      (fun h2 => mi_T.go 2 (s1 := (17, [some (.ref 5), some (.int x1)], [.int 1], σ)) rfl <|
      mi_T.fin (k3 h1 h2) (fun _ => rfl)))

-- AssertionGate$Message.add(III)I
theorem R54_0 {X : Nat × (Nat → Int32)} {d : Nat} {r : mA mG} {σ : mG} {x1 : Int32} {x2 : Int32} {x3 : Int32}
    (b1 : (σ.1 5 1) < 20 → mi_in (σ.1 5 1) 20 = true)
    (b2 : (σ.1 5 1) < 20 → mi_in (σ.1 5 1) 20 = true)
    (b3 : (σ.1 5 1) < 20 → mi_in (σ.1 5 1) 20 = true)
    (b4 : (σ.1 5 1) < 20 → mi_in (σ.1 5 1) 20 = true)
    (k1 : (σ.1 5 1) < 20 → r = (some (.int (σ.1 5 1)), (mi_uc (mi_uc (mi_uc (mi_uc (mi_uc σ.1 5 (upd (σ.1 5) 1 ((σ.1 5 1) + 1))) 6 (upd (σ.1 6) ((σ.1 5 1).toNatClampNeg) x1)) 7 (upd (σ.1 7) ((σ.1 5 1).toNatClampNeg) x2)) 8 (upd (σ.1 8) ((σ.1 5 1).toNatClampNeg) x3)) 12 (upd (σ.1 12) ((σ.1 5 1).toNatClampNeg) 0), σ.2)))
    (k2 : ¬ ((σ.1 5 1) < 20) → r = (some (.int (-1)), σ))
    : TT X d tb54 (some .int) (0, [some (.ref 5), some (.int x1), some (.int x2), some (.int x3), none], [], σ) r := mi_T.go 3 (s1 := (6, [some (.ref 5), some (.int x1), some (.int x2), some (.int x3), none], [.int 20, .int (σ.1 5 1)], σ)) rfl <|
      mi_T.br (P := (σ.1 5 1) < 20) (fun _ => rfl)
      (fun h1 => mi_T.go 13 (s1 := (34, [some (.ref 5), some (.int x1), some (.int x2), some (.int x3), some (.int (σ.1 5 1))], [.int x1, .int (σ.1 5 1), .ref 6], (mi_uc σ.1 5 (upd (σ.1 5) 1 ((σ.1 5 1) + 1)), σ.2))) rfl <|
      mi_T.si rfl rfl (b1 h1) <|
      mi_T.go 4 (s1 := (42, [some (.ref 5), some (.int x1), some (.int x2), some (.int x3), some (.int (σ.1 5 1))], [.int x2, .int (σ.1 5 1), .ref 7], (mi_uc (mi_uc σ.1 5 (upd (σ.1 5) 1 ((σ.1 5 1) + 1))) 6 (upd (σ.1 6) ((σ.1 5 1).toNatClampNeg) x1), σ.2))) rfl <|
      mi_T.si rfl rfl (b2 h1) <|
      mi_T.go 4 (s1 := (50, [some (.ref 5), some (.int x1), some (.int x2), some (.int x3), some (.int (σ.1 5 1))], [.int x3, .int (σ.1 5 1), .ref 8], (mi_uc (mi_uc (mi_uc σ.1 5 (upd (σ.1 5) 1 ((σ.1 5 1) + 1))) 6 (upd (σ.1 6) ((σ.1 5 1).toNatClampNeg) x1)) 7 (upd (σ.1 7) ((σ.1 5 1).toNatClampNeg) x2), σ.2))) rfl <|
      mi_T.si rfl rfl (b3 h1) <|
      mi_T.go 4 (s1 := (58, [some (.ref 5), some (.int x1), some (.int x2), some (.int x3), some (.int (σ.1 5 1))], [.int 0, .int (σ.1 5 1), .ref 12], (mi_uc (mi_uc (mi_uc (mi_uc σ.1 5 (upd (σ.1 5) 1 ((σ.1 5 1) + 1))) 6 (upd (σ.1 6) ((σ.1 5 1).toNatClampNeg) x1)) 7 (upd (σ.1 7) ((σ.1 5 1).toNatClampNeg) x2)) 8 (upd (σ.1 8) ((σ.1 5 1).toNatClampNeg) x3), σ.2))) rfl <|
      mi_T.si rfl rfl (b4 h1) <|
      mi_T.go 1 (s1 := (61, [some (.ref 5), some (.int x1), some (.int x2), some (.int x3), some (.int (σ.1 5 1))], [.int (σ.1 5 1)], (mi_uc (mi_uc (mi_uc (mi_uc (mi_uc σ.1 5 (upd (σ.1 5) 1 ((σ.1 5 1) + 1))) 6 (upd (σ.1 6) ((σ.1 5 1).toNatClampNeg) x1)) 7 (upd (σ.1 7) ((σ.1 5 1).toNatClampNeg) x2)) 8 (upd (σ.1 8) ((σ.1 5 1).toNatClampNeg) x3)) 12 (upd (σ.1 12) ((σ.1 5 1).toNatClampNeg) 0), σ.2))) rfl <|
      mi_T.fin (k1 h1) (fun _ => rfl))
      (fun h1 => mi_T.go 1 (s1 := (10, [some (.ref 5), some (.int x1), some (.int x2), some (.int x3), none], [.int (-1)], σ)) rfl <|
      mi_T.fin (k2 h1) (fun _ => rfl))

-- AssertionGate$Message.keepAttribute(IIII)Z
set_option maxRecDepth 100000 in
theorem R55_0 {X : Nat × (Nat → Int32)} {d : Nat} {r : mA mG} {σ : mG} {x1 : Int32} {x2 : Int32} {x3 : Int32} {x4 : Int32} {v1 : Int32} {σ1 : mG}
    (c1 : RR X d 53 [.ref 5, .int x1] σ (some (.int v1), σ1))
    (k1 : v1 = 0 → r = (some (.int 0), σ1))
    (b1 : ¬ (v1 = 0) → mi_in x1 20 = true)
    (b2 : ¬ (v1 = 0) → (σ1.1 12 x1.toNatClampNeg) < 4 → mi_in x1 20 = true)
    (k2 : ¬ (v1 = 0) → (σ1.1 12 x1.toNatClampNeg) < 4 → TT X d tb55 (some .boolean) (36, [some (.ref 5), some (.int x1), some (.int x2), some (.int x3), some (.int x4), some (.int (x1 * 4)), some (.int ((x1 * 4) + (σ1.1 12 x1.toNatClampNeg))), none], [], σ1) r)
    (k3 : ¬ (v1 = 0) → ¬ ((σ1.1 12 x1.toNatClampNeg) < 4) → r = (some (.int 0), σ1))
    : TT X d tb55 (some .boolean) (0, [some (.ref 5), some (.int x1), some (.int x2), some (.int x3), some (.int x4), none, none, none], [], σ) r := mi_T.go 2 (s1 := (2, [some (.ref 5), some (.int x1), some (.int x2), some (.int x3), some (.int x4), none, none, none], [.int x1, .ref 5], σ)) rfl <|
      mi_T.call (as := [.ref 5, .int x1]) (rest := []) (v := some (.int v1)) rfl rfl rfl rfl rfl (c1) <|
      mi_T.br (P := v1 = 0) (fun _ => rfl)
      (fun h1 => mi_T.go 1 (s1 := (19, [some (.ref 5), some (.int x1), some (.int x2), some (.int x3), some (.int x4), none, none, none], [.int 0], σ1)) rfl <|
      mi_T.fin (k1 h1) (fun _ => rfl))
      (fun h1 => mi_T.go 3 (s1 := (13, [some (.ref 5), some (.int x1), some (.int x2), some (.int x3), some (.int x4), none, none, none], [.int x1, .ref 12], σ1)) rfl <|
      mi_T.li rfl rfl (b1 h1) <|
      mi_T.go 1 (s1 := (15, [some (.ref 5), some (.int x1), some (.int x2), some (.int x3), some (.int x4), none, none, none], [.int 4, .int (σ1.1 12 x1.toNatClampNeg)], σ1)) rfl <|
      mi_T.br (P := (σ1.1 12 x1.toNatClampNeg) < 4) (fun _ => rfl)
      (fun h2 => mi_T.go 8 (s1 := (32, [some (.ref 5), some (.int x1), some (.int x2), some (.int x3), some (.int x4), some (.int (x1 * 4)), none, none], [.int x1, .ref 12, .int (x1 * 4)], σ1)) rfl <|
      mi_T.li rfl rfl (b2 h1 h2) <|
      mi_T.go 2 (s1 := (36, [some (.ref 5), some (.int x1), some (.int x2), some (.int x3), some (.int x4), some (.int (x1 * 4)), some (.int ((x1 * 4) + (σ1.1 12 x1.toNatClampNeg))), none], [], σ1)) rfl <|
      (k2 h1 h2))
      (fun h2 => mi_T.go 1 (s1 := (19, [some (.ref 5), some (.int x1), some (.int x2), some (.int x3), some (.int x4), none, none, none], [.int 0], σ1)) rfl <|
      mi_T.fin (k3 h1 h2) (fun _ => rfl)))

set_option maxRecDepth 100000 in
theorem R55_36 {X : Nat × (Nat → Int32)} {d : Nat} {r : mA mG} {σ : mG} {x1 : Int32} {x2 : Int32} {x3 : Int32} {x4 : Int32} {x5 : Int32} {x6 : Int32} {u7 : Option Value} {v1 : Int32} {σ1 : mG}
    (b1 : x6 ≤ x5 → mi_in x6 80 = true)
    (b2 : x6 ≤ x5 → mi_in x6 80 = true)
    (b3 : x6 ≤ x5 → mi_in x6 80 = true)
    (b4 : x6 ≤ x5 → mi_in x1 20 = true)
    (b5 : x6 ≤ x5 → mi_in x1 20 = true)
    (k1 : x6 ≤ x5 → r = (some (.int 1), (mi_uc (mi_uc (mi_uc (mi_uc σ.1 13 (upd (σ.1 13) x6.toNatClampNeg x2)) 14 (upd (σ.1 14) x6.toNatClampNeg (x3 + 2))) 15 (upd (σ.1 15) x6.toNatClampNeg x4)) 12 (upd (σ.1 12) x1.toNatClampNeg ((σ.1 12 x1.toNatClampNeg) + 1)), σ.2)))
    (b6 : ¬ (x6 ≤ x5) → mi_in (x6 - 1) 80 = true)
    (b7 : ¬ (x6 ≤ x5) → mi_in (x6 - 1) 80 = true)
    (c1 : ¬ (x6 ≤ x5) → RR X d 51 [.ref 1, .int x2, .int x3, .int (σ.1 13 ((x6 - 1).toNatClampNeg)), .int ((σ.1 14 ((x6 - 1).toNatClampNeg)) - 2)] σ (some (.int v1), σ1))
    (b8 : ¬ (x6 ≤ x5) → ¬ v1 = 0 → v1 ≤ 0 → mi_in (x6 - 1) 80 = true)
    (b9 : ¬ (x6 ≤ x5) → ¬ v1 = 0 → v1 ≤ 0 → mi_in x6 80 = true)
    (b10 : ¬ (x6 ≤ x5) → ¬ v1 = 0 → v1 ≤ 0 → mi_in (x6 - 1) 80 = true)
    (b11 : ¬ (x6 ≤ x5) → ¬ v1 = 0 → v1 ≤ 0 → mi_in x6 80 = true)
    (b12 : ¬ (x6 ≤ x5) → ¬ v1 = 0 → v1 ≤ 0 → mi_in (x6 - 1) 80 = true)
    (b13 : ¬ (x6 ≤ x5) → ¬ v1 = 0 → v1 ≤ 0 → mi_in x6 80 = true)
    (k2 : ¬ (x6 ≤ x5) → ¬ v1 = 0 → v1 ≤ 0 → TT X d tb55 (some .boolean) (36, [some (.ref 5), some (.int x1), some (.int x2), some (.int x3), some (.int x4), some (.int x5), some (.int (x6 + (-1))), some (.int v1)], [], (mi_uc (mi_uc (mi_uc σ1.1 13 (upd (σ1.1 13) x6.toNatClampNeg (σ1.1 13 ((x6 - 1).toNatClampNeg)))) 14 (upd (σ1.1 14) x6.toNatClampNeg (σ1.1 14 ((x6 - 1).toNatClampNeg)))) 15 (upd (σ1.1 15) x6.toNatClampNeg (σ1.1 15 ((x6 - 1).toNatClampNeg))), σ1.2)) r)
    (b14 : ¬ (x6 ≤ x5) → ¬ v1 = 0 → ¬ (v1 ≤ 0) → mi_in x6 80 = true)
    (b15 : ¬ (x6 ≤ x5) → ¬ v1 = 0 → ¬ (v1 ≤ 0) → mi_in x6 80 = true)
    (b16 : ¬ (x6 ≤ x5) → ¬ v1 = 0 → ¬ (v1 ≤ 0) → mi_in x6 80 = true)
    (b17 : ¬ (x6 ≤ x5) → ¬ v1 = 0 → ¬ (v1 ≤ 0) → mi_in x1 20 = true)
    (b18 : ¬ (x6 ≤ x5) → ¬ v1 = 0 → ¬ (v1 ≤ 0) → mi_in x1 20 = true)
    (k3 : ¬ (x6 ≤ x5) → ¬ v1 = 0 → ¬ (v1 ≤ 0) → r = (some (.int 1), (mi_uc (mi_uc (mi_uc (mi_uc σ1.1 13 (upd (σ1.1 13) x6.toNatClampNeg x2)) 14 (upd (σ1.1 14) x6.toNatClampNeg (x3 + 2))) 15 (upd (σ1.1 15) x6.toNatClampNeg x4)) 12 (upd (σ1.1 12) x1.toNatClampNeg ((σ1.1 12 x1.toNatClampNeg) + 1)), σ1.2)))
    (k4 : ¬ (x6 ≤ x5) → ¬ (¬ v1 = 0) → r = (some (.int 0), σ1))
    : TT X d tb55 (some .boolean) (36, [some (.ref 5), some (.int x1), some (.int x2), some (.int x3), some (.int x4), some (.int x5), some (.int x6), u7], [], σ) r := mi_T.go 2 (s1 := (40, [some (.ref 5), some (.int x1), some (.int x2), some (.int x3), some (.int x4), some (.int x5), some (.int x6), u7], [.int x5, .int x6], σ)) rfl <|
      mi_T.br (P := x6 ≤ x5) (fun _ => rfl)
      (fun h1 => mi_T.go 4 (s1 := (150, [some (.ref 5), some (.int x1), some (.int x2), some (.int x3), some (.int x4), some (.int x5), some (.int x6), u7], [.int x2, .int x6, .ref 13], σ)) rfl <|
      mi_T.si rfl rfl (b1 h1) <|
      mi_T.go 6 (s1 := (160, [some (.ref 5), some (.int x1), some (.int x2), some (.int x3), some (.int x4), some (.int x5), some (.int x6), u7], [.int (x3 + 2), .int x6, .ref 14], (mi_uc σ.1 13 (upd (σ.1 13) x6.toNatClampNeg x2), σ.2))) rfl <|
      mi_T.si rfl rfl (b2 h1) <|
      mi_T.go 4 (s1 := (169, [some (.ref 5), some (.int x1), some (.int x2), some (.int x3), some (.int x4), some (.int x5), some (.int x6), u7], [.int x4, .int x6, .ref 15], (mi_uc (mi_uc σ.1 13 (upd (σ.1 13) x6.toNatClampNeg x2)) 14 (upd (σ.1 14) x6.toNatClampNeg (x3 + 2)), σ.2))) rfl <|
      mi_T.si rfl rfl (b3 h1) <|
      mi_T.go 4 (s1 := (176, [some (.ref 5), some (.int x1), some (.int x2), some (.int x3), some (.int x4), some (.int x5), some (.int x6), u7], [.int x1, .ref 12, .int x1, .ref 12], (mi_uc (mi_uc (mi_uc σ.1 13 (upd (σ.1 13) x6.toNatClampNeg x2)) 14 (upd (σ.1 14) x6.toNatClampNeg (x3 + 2))) 15 (upd (σ.1 15) x6.toNatClampNeg x4), σ.2))) rfl <|
      mi_T.li rfl rfl (b4 h1) <|
      mi_T.go 2 (s1 := (179, [some (.ref 5), some (.int x1), some (.int x2), some (.int x3), some (.int x4), some (.int x5), some (.int x6), u7], [.int ((σ.1 12 x1.toNatClampNeg) + 1), .int x1, .ref 12], (mi_uc (mi_uc (mi_uc σ.1 13 (upd (σ.1 13) x6.toNatClampNeg x2)) 14 (upd (σ.1 14) x6.toNatClampNeg (x3 + 2))) 15 (upd (σ.1 15) x6.toNatClampNeg x4), σ.2))) rfl <|
      mi_T.si rfl rfl (b5 h1) <|
      mi_T.go 1 (s1 := (181, [some (.ref 5), some (.int x1), some (.int x2), some (.int x3), some (.int x4), some (.int x5), some (.int x6), u7], [.int 1], (mi_uc (mi_uc (mi_uc (mi_uc σ.1 13 (upd (σ.1 13) x6.toNatClampNeg x2)) 14 (upd (σ.1 14) x6.toNatClampNeg (x3 + 2))) 15 (upd (σ.1 15) x6.toNatClampNeg x4)) 12 (upd (σ.1 12) x1.toNatClampNeg ((σ.1 12 x1.toNatClampNeg) + 1)), σ.2))) rfl <|
      mi_T.fin (k1 h1) (fun _ => rfl))
      (fun h1 => mi_T.go 9 (s1 := (57, [some (.ref 5), some (.int x1), some (.int x2), some (.int x3), some (.int x4), some (.int x5), some (.int x6), u7], [.int (x6 - 1), .ref 13, .int x3, .int x2, .ref 1], σ)) rfl <|
      mi_T.li rfl rfl (b6 h1) <|
      mi_T.go 5 (s1 := (66, [some (.ref 5), some (.int x1), some (.int x2), some (.int x3), some (.int x4), some (.int x5), some (.int x6), u7], [.int (x6 - 1), .ref 14, .int (σ.1 13 ((x6 - 1).toNatClampNeg)), .int x3, .int x2, .ref 1], σ)) rfl <|
      mi_T.li rfl rfl (b7 h1) <|
      mi_T.go 2 (s1 := (69, [some (.ref 5), some (.int x1), some (.int x2), some (.int x3), some (.int x4), some (.int x5), some (.int x6), u7], [.int ((σ.1 14 ((x6 - 1).toNatClampNeg)) - 2), .int (σ.1 13 ((x6 - 1).toNatClampNeg)), .int x3, .int x2, .ref 1], σ)) rfl <|
      mi_T.call (as := [.ref 1, .int x2, .int x3, .int (σ.1 13 ((x6 - 1).toNatClampNeg)), .int ((σ.1 14 ((x6 - 1).toNatClampNeg)) - 2)]) (rest := []) (v := some (.int v1)) rfl rfl rfl rfl rfl (c1 h1) <|
      mi_T.go 2 (s1 := (76, [some (.ref 5), some (.int x1), some (.int x2), some (.int x3), some (.int x4), some (.int x5), some (.int x6), some (.int v1)], [.int v1], σ1)) rfl <|
      mi_T.br (P := ¬ v1 = 0) (fun _ => rfl)
      (fun h2 => mi_T.go 1 (s1 := (83, [some (.ref 5), some (.int x1), some (.int x2), some (.int x3), some (.int x4), some (.int x5), some (.int x6), some (.int v1)], [.int v1], σ1)) rfl <|
      mi_T.br (P := v1 ≤ 0) (fun _ => rfl)
      (fun h3 => mi_T.go 8 (s1 := (103, [some (.ref 5), some (.int x1), some (.int x2), some (.int x3), some (.int x4), some (.int x5), some (.int x6), some (.int v1)], [.int (x6 - 1), .ref 13, .int x6, .ref 13], σ1)) rfl <|
      mi_T.li rfl rfl (b8 h1 h2 h3) <|
      mi_T.si rfl rfl (b9 h1 h2 h3) <|
      mi_T.go 8 (s1 := (119, [some (.ref 5), some (.int x1), some (.int x2), some (.int x3), some (.int x4), some (.int x5), some (.int x6), some (.int v1)], [.int (x6 - 1), .ref 14, .int x6, .ref 14], (mi_uc σ1.1 13 (upd (σ1.1 13) x6.toNatClampNeg (σ1.1 13 ((x6 - 1).toNatClampNeg))), σ1.2))) rfl <|
      mi_T.li rfl rfl (b10 h1 h2 h3) <|
      mi_T.si rfl rfl (b11 h1 h2 h3) <|
      mi_T.go 8 (s1 := (135, [some (.ref 5), some (.int x1), some (.int x2), some (.int x3), some (.int x4), some (.int x5), some (.int x6), some (.int v1)], [.int (x6 - 1), .ref 15, .int x6, .ref 15], (mi_uc (mi_uc σ1.1 13 (upd (σ1.1 13) x6.toNatClampNeg (σ1.1 13 ((x6 - 1).toNatClampNeg)))) 14 (upd (σ1.1 14) x6.toNatClampNeg (σ1.1 14 ((x6 - 1).toNatClampNeg))), σ1.2))) rfl <|
      mi_T.li rfl rfl (b12 h1 h2 h3) <|
      mi_T.si rfl rfl (b13 h1 h2 h3) <|
      mi_T.go 2 (s1 := (36, [some (.ref 5), some (.int x1), some (.int x2), some (.int x3), some (.int x4), some (.int x5), some (.int (x6 + (-1))), some (.int v1)], [], (mi_uc (mi_uc (mi_uc σ1.1 13 (upd (σ1.1 13) x6.toNatClampNeg (σ1.1 13 ((x6 - 1).toNatClampNeg)))) 14 (upd (σ1.1 14) x6.toNatClampNeg (σ1.1 14 ((x6 - 1).toNatClampNeg)))) 15 (upd (σ1.1 15) x6.toNatClampNeg (σ1.1 15 ((x6 - 1).toNatClampNeg))), σ1.2))) rfl <|
      (k2 h1 h2 h3))
      (fun h3 => mi_T.go 5 (s1 := (150, [some (.ref 5), some (.int x1), some (.int x2), some (.int x3), some (.int x4), some (.int x5), some (.int x6), some (.int v1)], [.int x2, .int x6, .ref 13], σ1)) rfl <|
      mi_T.si rfl rfl (b14 h1 h2 h3) <|
      mi_T.go 6 (s1 := (160, [some (.ref 5), some (.int x1), some (.int x2), some (.int x3), some (.int x4), some (.int x5), some (.int x6), some (.int v1)], [.int (x3 + 2), .int x6, .ref 14], (mi_uc σ1.1 13 (upd (σ1.1 13) x6.toNatClampNeg x2), σ1.2))) rfl <|
      mi_T.si rfl rfl (b15 h1 h2 h3) <|
      mi_T.go 4 (s1 := (169, [some (.ref 5), some (.int x1), some (.int x2), some (.int x3), some (.int x4), some (.int x5), some (.int x6), some (.int v1)], [.int x4, .int x6, .ref 15], (mi_uc (mi_uc σ1.1 13 (upd (σ1.1 13) x6.toNatClampNeg x2)) 14 (upd (σ1.1 14) x6.toNatClampNeg (x3 + 2)), σ1.2))) rfl <|
      mi_T.si rfl rfl (b16 h1 h2 h3) <|
      mi_T.go 4 (s1 := (176, [some (.ref 5), some (.int x1), some (.int x2), some (.int x3), some (.int x4), some (.int x5), some (.int x6), some (.int v1)], [.int x1, .ref 12, .int x1, .ref 12], (mi_uc (mi_uc (mi_uc σ1.1 13 (upd (σ1.1 13) x6.toNatClampNeg x2)) 14 (upd (σ1.1 14) x6.toNatClampNeg (x3 + 2))) 15 (upd (σ1.1 15) x6.toNatClampNeg x4), σ1.2))) rfl <|
      mi_T.li rfl rfl (b17 h1 h2 h3) <|
      mi_T.go 2 (s1 := (179, [some (.ref 5), some (.int x1), some (.int x2), some (.int x3), some (.int x4), some (.int x5), some (.int x6), some (.int v1)], [.int ((σ1.1 12 x1.toNatClampNeg) + 1), .int x1, .ref 12], (mi_uc (mi_uc (mi_uc σ1.1 13 (upd (σ1.1 13) x6.toNatClampNeg x2)) 14 (upd (σ1.1 14) x6.toNatClampNeg (x3 + 2))) 15 (upd (σ1.1 15) x6.toNatClampNeg x4), σ1.2))) rfl <|
      mi_T.si rfl rfl (b18 h1 h2 h3) <|
      mi_T.go 1 (s1 := (181, [some (.ref 5), some (.int x1), some (.int x2), some (.int x3), some (.int x4), some (.int x5), some (.int x6), some (.int v1)], [.int 1], (mi_uc (mi_uc (mi_uc (mi_uc σ1.1 13 (upd (σ1.1 13) x6.toNatClampNeg x2)) 14 (upd (σ1.1 14) x6.toNatClampNeg (x3 + 2))) 15 (upd (σ1.1 15) x6.toNatClampNeg x4)) 12 (upd (σ1.1 12) x1.toNatClampNeg ((σ1.1 12 x1.toNatClampNeg) + 1)), σ1.2))) rfl <|
      mi_T.fin (k3 h1 h2 h3) (fun _ => rfl)))
      (fun h2 => mi_T.go 1 (s1 := (80, [some (.ref 5), some (.int x1), some (.int x2), some (.int x3), some (.int x4), some (.int x5), some (.int x6), some (.int v1)], [.int 0], σ1)) rfl <|
      mi_T.fin (k4 h1 h2) (fun _ => rfl)))

-- AssertionGate$Message.isNamed(ILjava/lang/String;)Z
theorem R56_0 {X : Nat × (Nat → Int32)} {d : Nat} {r : mA mG} {σ : mG} {x1 : Int32} {w2 : Nat} {v1 : Int32} {σ1 : mG} {v2 : Int32} {σ2 : mG}
    (c1 : RR X d 53 [.ref 5, .int x1] σ (some (.int v1), σ1))
    (k1 : v1 = 0 → r = (some (.int 0), σ1))
    (b1 : ¬ (v1 = 0) → mi_in x1 20 = true)
    (b2 : ¬ (v1 = 0) → mi_in x1 20 = true)
    (c2 : ¬ (v1 = 0) → RR X d 50 [.ref 1, .int ((σ1.1 7 x1.toNatClampNeg) + 1), .int (σ1.1 8 x1.toNatClampNeg), .ref w2] σ1 (some (.int v2), σ2))
    (k2 : ¬ (v1 = 0) → v2 = 0 → r = (some (.int 0), σ2))
    (k3 : ¬ (v1 = 0) → ¬ (v2 = 0) → r = (some (.int 1), σ2))
    : TT X d tb56 (some .boolean) (0, [some (.ref 5), some (.int x1), some (.ref w2)], [], σ) r := mi_T.go 2 (s1 := (2, [some (.ref 5), some (.int x1), some (.ref w2)], [.int x1, .ref 5], σ)) rfl <|
      mi_T.call (as := [.ref 5, .int x1]) (rest := []) (v := some (.int v1)) rfl rfl rfl rfl rfl (c1) <|
      mi_T.br (P := v1 = 0) (fun _ => rfl)
      (fun h1 => mi_T.go 1 (s1 := (38, [some (.ref 5), some (.int x1), some (.ref w2)], [.int 0], σ1)) rfl <|
      mi_T.fin (k1 h1) (fun _ => rfl))
      (fun h1 => mi_T.go 5 (s1 := (17, [some (.ref 5), some (.int x1), some (.ref w2)], [.int x1, .ref 7, .ref 1], σ1)) rfl <|
      mi_T.li rfl rfl (b1 h1) <|
      mi_T.go 5 (s1 := (25, [some (.ref 5), some (.int x1), some (.ref w2)], [.int x1, .ref 8, .int ((σ1.1 7 x1.toNatClampNeg) + 1), .ref 1], σ1)) rfl <|
      mi_T.li rfl rfl (b2 h1) <|
      mi_T.go 1 (s1 := (27, [some (.ref 5), some (.int x1), some (.ref w2)], [.ref w2, .int (σ1.1 8 x1.toNatClampNeg), .int ((σ1.1 7 x1.toNatClampNeg) + 1), .ref 1], σ1)) rfl <|
      mi_T.call (as := [.ref 1, .int ((σ1.1 7 x1.toNatClampNeg) + 1), .int (σ1.1 8 x1.toNatClampNeg), .ref w2]) (rest := []) (v := some (.int v2)) rfl rfl rfl rfl rfl (c2 h1) <|
      mi_T.br (P := v2 = 0) (fun _ => rfl)
      (fun h2 => mi_T.go 1 (s1 := (38, [some (.ref 5), some (.int x1), some (.ref w2)], [.int 0], σ2)) rfl <|
      mi_T.fin (k2 h1 h2) (fun _ => rfl))
      (fun h2 => mi_T.go 2 (s1 := (38, [some (.ref 5), some (.int x1), some (.ref w2)], [.int 1], σ2)) rfl <|
      mi_T.fin (k3 h1 h2) (fun _ => rfl)))

-- AssertionGate$Message.childCount(ILjava/lang/String;)I
theorem R57_0 {X : Nat × (Nat → Int32)} {d : Nat} {r : mA mG} {σ : mG} {x1 : Int32} {w2 : Nat}
    (k1 : TT X d tb57 (some .int) (5, [some (.ref 5), some (.int x1), some (.ref w2), some (.int 0), some (.int 0)], [], σ) r)
    : TT X d tb57 (some .int) (0, [some (.ref 5), some (.int x1), some (.ref w2), none, none], [], σ) r := mi_T.go 4 (s1 := (5, [some (.ref 5), some (.int x1), some (.ref w2), some (.int 0), some (.int 0)], [], σ)) rfl <|
      k1

theorem R57_5 {X : Nat × (Nat → Int32)} {d : Nat} {r : mA mG} {σ : mG} {x1 : Int32} {w2 : Nat} {x3 : Int32} {x4 : Int32} {v1 : Int32} {σ1 : mG}
    (k1 : (σ.1 5 1) ≤ x4 → r = (some (.int x3), σ))
    (k2 : ¬ ((σ.1 5 1) ≤ x4) → x1 < 0 → r = (some (.int x3), σ))
    (b1 : ¬ ((σ.1 5 1) ≤ x4) → ¬ (x1 < 0) → mi_in x4 20 = true)
    (k3 : ¬ ((σ.1 5 1) ≤ x4) → ¬ (x1 < 0) → ¬ (σ.1 6 x4.toNatClampNeg) = x1 → TT X d tb57 (some .int) (5, [some (.ref 5), some (.int x1), some (.ref w2), some (.int x3), some (.int (x4 + 1))], [], σ) r)
    (c1 : ¬ ((σ.1 5 1) ≤ x4) → ¬ (x1 < 0) → ¬ (¬ (σ.1 6 x4.toNatClampNeg) = x1) → RR X d 56 [.ref 5, .int x4, .ref w2] σ (some (.int v1), σ1))
    (k4 : ¬ ((σ.1 5 1) ≤ x4) → ¬ (x1 < 0) → ¬ (¬ (σ.1 6 x4.toNatClampNeg) = x1) → v1 = 0 → TT X d tb57 (some .int) (5, [some (.ref 5), some (.int x1), some (.ref w2), some (.int x3), some (.int (x4 + 1))], [], σ1) r)
    (k5 : ¬ ((σ.1 5 1) ≤ x4) → ¬ (x1 < 0) → ¬ (¬ (σ.1 6 x4.toNatClampNeg) = x1) → ¬ (v1 = 0) → TT X d tb57 (some .int) (5, [some (.ref 5), some (.int x1), some (.ref w2), some (.int (x3 + 1)), some (.int (x4 + 1))], [], σ1) r)
    : TT X d tb57 (some .int) (5, [some (.ref 5), some (.int x1), some (.ref w2), some (.int x3), some (.int x4)], [], σ) r := mi_T.go 3 (s1 := (11, [some (.ref 5), some (.int x1), some (.ref w2), some (.int x3), some (.int x4)], [.int (σ.1 5 1), .int x4], σ)) rfl <|
      mi_T.br (P := (σ.1 5 1) ≤ x4) (fun _ => rfl)
      (fun h1 => mi_T.go 1 (s1 := (49, [some (.ref 5), some (.int x1), some (.ref w2), some (.int x3), some (.int x4)], [.int x3], σ)) rfl <|
      mi_T.fin (k1 h1) (fun _ => rfl))
      (fun h1 => mi_T.go 1 (s1 := (15, [some (.ref 5), some (.int x1), some (.ref w2), some (.int x3), some (.int x4)], [.int x1], σ)) rfl <|
      mi_T.br (P := x1 < 0) (fun _ => rfl)
      (fun h2 => mi_T.go 1 (s1 := (49, [some (.ref 5), some (.int x1), some (.ref w2), some (.int x3), some (.int x4)], [.int x3], σ)) rfl <|
      mi_T.fin (k2 h1 h2) (fun _ => rfl))
      (fun h2 => mi_T.go 3 (s1 := (24, [some (.ref 5), some (.int x1), some (.ref w2), some (.int x3), some (.int x4)], [.int x4, .ref 6], σ)) rfl <|
      mi_T.li rfl rfl (b1 h1 h2) <|
      mi_T.go 1 (s1 := (26, [some (.ref 5), some (.int x1), some (.ref w2), some (.int x3), some (.int x4)], [.int x1, .int (σ.1 6 x4.toNatClampNeg)], σ)) rfl <|
      mi_T.br (P := ¬ (σ.1 6 x4.toNatClampNeg) = x1) (fun _ => rfl)
      (fun h3 => mi_T.go 2 (s1 := (5, [some (.ref 5), some (.int x1), some (.ref w2), some (.int x3), some (.int (x4 + 1))], [], σ)) rfl <|
      (k3 h1 h2 h3))
      (fun h3 => mi_T.go 3 (s1 := (33, [some (.ref 5), some (.int x1), some (.ref w2), some (.int x3), some (.int x4)], [.ref w2, .int x4, .ref 5], σ)) rfl <|
      mi_T.call (as := [.ref 5, .int x4, .ref w2]) (rest := []) (v := some (.int v1)) rfl rfl rfl rfl rfl (c1 h1 h2 h3) <|
      mi_T.br (P := v1 = 0) (fun _ => rfl)
      (fun h4 => mi_T.go 2 (s1 := (5, [some (.ref 5), some (.int x1), some (.ref w2), some (.int x3), some (.int (x4 + 1))], [], σ1)) rfl <|
      (k4 h1 h2 h3 h4))
      (fun h4 => mi_T.go 3 (s1 := (5, [some (.ref 5), some (.int x1), some (.ref w2), some (.int (x3 + 1)), some (.int (x4 + 1))], [], σ1)) rfl <|
      (k5 h1 h2 h3 h4)))))

-- AssertionGate$Message.lastChild(ILjava/lang/String;)I
theorem R58_0 {X : Nat × (Nat → Int32)} {d : Nat} {r : mA mG} {σ : mG} {x1 : Int32} {w2 : Nat}
    (k1 : TT X d tb58 (some .int) (7, [some (.ref 5), some (.int x1), some (.ref w2), some (.int ((σ.1 5 1) - 1))], [], σ) r)
    : TT X d tb58 (some .int) (0, [some (.ref 5), some (.int x1), some (.ref w2), none], [], σ) r := mi_T.go 5 (s1 := (7, [some (.ref 5), some (.int x1), some (.ref w2), some (.int ((σ.1 5 1) - 1))], [], σ)) rfl <|
      k1

theorem R58_7 {X : Nat × (Nat → Int32)} {d : Nat} {r : mA mG} {σ : mG} {x1 : Int32} {w2 : Nat} {x3 : Int32} {v1 : Int32} {σ1 : mG}
    (k1 : x3 ≤ x1 → r = (some (.int (-1)), σ))
    (k2 : ¬ (x3 ≤ x1) → x1 < 0 → r = (some (.int (-1)), σ))
    (b1 : ¬ (x3 ≤ x1) → ¬ (x1 < 0) → mi_in x3 20 = true)
    (k3 : ¬ (x3 ≤ x1) → ¬ (x1 < 0) → ¬ (σ.1 6 x3.toNatClampNeg) = x1 → TT X d tb58 (some .int) (7, [some (.ref 5), some (.int x1), some (.ref w2), some (.int (x3 + (-1)))], [], σ) r)
    (c1 : ¬ (x3 ≤ x1) → ¬ (x1 < 0) → ¬ (¬ (σ.1 6 x3.toNatClampNeg) = x1) → RR X d 56 [.ref 5, .int x3, .ref w2] σ (some (.int v1), σ1))
    (k4 : ¬ (x3 ≤ x1) → ¬ (x1 < 0) → ¬ (¬ (σ.1 6 x3.toNatClampNeg) = x1) → v1 = 0 → TT X d tb58 (some .int) (7, [some (.ref 5), some (.int x1), some (.ref w2), some (.int (x3 + (-1)))], [], σ1) r)
    (k5 : ¬ (x3 ≤ x1) → ¬ (x1 < 0) → ¬ (¬ (σ.1 6 x3.toNatClampNeg) = x1) → ¬ (v1 = 0) → r = (some (.int x3), σ1))
    : TT X d tb58 (some .int) (7, [some (.ref 5), some (.int x1), some (.ref w2), some (.int x3)], [], σ) r := mi_T.go 2 (s1 := (9, [some (.ref 5), some (.int x1), some (.ref w2), some (.int x3)], [.int x1, .int x3], σ)) rfl <|
      mi_T.br (P := x3 ≤ x1) (fun _ => rfl)
      (fun h1 => mi_T.go 1 (s1 := (44, [some (.ref 5), some (.int x1), some (.ref w2), some (.int x3)], [.int (-1)], σ)) rfl <|
      mi_T.fin (k1 h1) (fun _ => rfl))
      (fun h1 => mi_T.go 1 (s1 := (13, [some (.ref 5), some (.int x1), some (.ref w2), some (.int x3)], [.int x1], σ)) rfl <|
      mi_T.br (P := x1 < 0) (fun _ => rfl)
      (fun h2 => mi_T.go 1 (s1 := (44, [some (.ref 5), some (.int x1), some (.ref w2), some (.int x3)], [.int (-1)], σ)) rfl <|
      mi_T.fin (k2 h1 h2) (fun _ => rfl))
      (fun h2 => mi_T.go 3 (s1 := (21, [some (.ref 5), some (.int x1), some (.ref w2), some (.int x3)], [.int x3, .ref 6], σ)) rfl <|
      mi_T.li rfl rfl (b1 h1 h2) <|
      mi_T.go 1 (s1 := (23, [some (.ref 5), some (.int x1), some (.ref w2), some (.int x3)], [.int x1, .int (σ.1 6 x3.toNatClampNeg)], σ)) rfl <|
      mi_T.br (P := ¬ (σ.1 6 x3.toNatClampNeg) = x1) (fun _ => rfl)
      (fun h3 => mi_T.go 2 (s1 := (7, [some (.ref 5), some (.int x1), some (.ref w2), some (.int (x3 + (-1)))], [], σ)) rfl <|
      (k3 h1 h2 h3))
      (fun h3 => mi_T.go 3 (s1 := (29, [some (.ref 5), some (.int x1), some (.ref w2), some (.int x3)], [.ref w2, .int x3, .ref 5], σ)) rfl <|
      mi_T.call (as := [.ref 5, .int x3, .ref w2]) (rest := []) (v := some (.int v1)) rfl rfl rfl rfl rfl (c1 h1 h2 h3) <|
      mi_T.br (P := v1 = 0) (fun _ => rfl)
      (fun h4 => mi_T.go 2 (s1 := (7, [some (.ref 5), some (.int x1), some (.ref w2), some (.int (x3 + (-1)))], [], σ1)) rfl <|
      (k4 h1 h2 h3 h4))
      (fun h4 => mi_T.go 1 (s1 := (36, [some (.ref 5), some (.int x1), some (.ref w2), some (.int x3)], [.int x3], σ1)) rfl <|
      mi_T.fin (k5 h1 h2 h3 h4) (fun _ => rfl)))))

-- AssertionGate$Message.onlyChild(ILjava/lang/String;)I
theorem R59_0 {X : Nat × (Nat → Int32)} {d : Nat} {r : mA mG} {σ : mG} {x1 : Int32} {w2 : Nat} {v1 : Int32} {σ1 : mG} {v2 : Int32} {σ2 : mG}
    (c1 : RR X d 57 [.ref 5, .int x1, .ref w2] σ (some (.int v1), σ1))
    (k1 : ¬ v1 = 1 → r = (some (.int (-1)), σ1))
    (c2 : ¬ (¬ v1 = 1) → RR X d 58 [.ref 5, .int x1, .ref w2] σ1 (some (.int v2), σ2))
    (k2 : ¬ (¬ v1 = 1) → r = (some (.int v2), σ2))
    : TT X d tb59 (some .int) (0, [some (.ref 5), some (.int x1), some (.ref w2)], [], σ) r := mi_T.go 3 (s1 := (3, [some (.ref 5), some (.int x1), some (.ref w2)], [.ref w2, .int x1, .ref 5], σ)) rfl <|
      mi_T.call (as := [.ref 5, .int x1, .ref w2]) (rest := []) (v := some (.int v1)) rfl rfl rfl rfl rfl (c1) <|
      mi_T.go 1 (s1 := (7, [some (.ref 5), some (.int x1), some (.ref w2)], [.int 1, .int v1], σ1)) rfl <|
      mi_T.br (P := ¬ v1 = 1) (fun _ => rfl)
      (fun h1 => mi_T.go 1 (s1 := (20, [some (.ref 5), some (.int x1), some (.ref w2)], [.int (-1)], σ1)) rfl <|
      mi_T.fin (k1 h1) (fun _ => rfl))
      (fun h1 => mi_T.go 3 (s1 := (13, [some (.ref 5), some (.int x1), some (.ref w2)], [.ref w2, .int x1, .ref 5], σ1)) rfl <|
      mi_T.call (as := [.ref 5, .int x1, .ref w2]) (rest := []) (v := some (.int v2)) rfl rfl rfl rfl rfl (c2 h1) <|
      mi_T.go 1 (s1 := (20, [some (.ref 5), some (.int x1), some (.ref w2)], [.int v2], σ2)) rfl <|
      mi_T.fin (k2 h1) (fun _ => rfl))

-- AssertionGate$Message.bodyFrom(I)I
theorem R60_0 {X : Nat × (Nat → Int32)} {d : Nat} {r : mA mG} {σ : mG} {x1 : Int32} {v1 : Int32} {σ1 : mG}
    (c1 : RR X d 53 [.ref 5, .int x1] σ (some (.int v1), σ1))
    (k1 : v1 = 0 → r = (some (.int 0), σ1))
    (b1 : ¬ (v1 = 0) → mi_in x1 20 = true)
    (k2 : ¬ (v1 = 0) → r = (some (.int (σ1.1 9 x1.toNatClampNeg)), σ1))
    : TT X d tb60 (some .int) (0, [some (.ref 5), some (.int x1)], [], σ) r := mi_T.go 2 (s1 := (2, [some (.ref 5), some (.int x1)], [.int x1, .ref 5], σ)) rfl <|
      mi_T.call (as := [.ref 5, .int x1]) (rest := []) (v := some (.int v1)) rfl rfl rfl rfl rfl (c1) <|
      mi_T.br (P := v1 = 0) (fun _ => rfl)
      (fun h1 => mi_T.go 1 (s1 := (18, [some (.ref 5), some (.int x1)], [.int 0], σ1)) rfl <|
      mi_T.fin (k1 h1) (fun _ => rfl))
      (fun h1 => mi_T.go 3 (s1 := (13, [some (.ref 5), some (.int x1)], [.int x1, .ref 9], σ1)) rfl <|
      mi_T.li rfl rfl (b1 h1) <|
      mi_T.go 1 (s1 := (18, [some (.ref 5), some (.int x1)], [.int (σ1.1 9 x1.toNatClampNeg)], σ1)) rfl <|
      mi_T.fin (k2 h1) (fun _ => rfl))

-- AssertionGate$Message.bodyTo(I)I
theorem R61_0 {X : Nat × (Nat → Int32)} {d : Nat} {r : mA mG} {σ : mG} {x1 : Int32} {v1 : Int32} {σ1 : mG}
    (c1 : RR X d 53 [.ref 5, .int x1] σ (some (.int v1), σ1))
    (k1 : v1 = 0 → r = (some (.int 0), σ1))
    (b1 : ¬ (v1 = 0) → mi_in x1 20 = true)
    (k2 : ¬ (v1 = 0) → r = (some (.int (σ1.1 10 x1.toNatClampNeg)), σ1))
    : TT X d tb61 (some .int) (0, [some (.ref 5), some (.int x1)], [], σ) r := mi_T.go 2 (s1 := (2, [some (.ref 5), some (.int x1)], [.int x1, .ref 5], σ)) rfl <|
      mi_T.call (as := [.ref 5, .int x1]) (rest := []) (v := some (.int v1)) rfl rfl rfl rfl rfl (c1) <|
      mi_T.br (P := v1 = 0) (fun _ => rfl)
      (fun h1 => mi_T.go 1 (s1 := (18, [some (.ref 5), some (.int x1)], [.int 0], σ1)) rfl <|
      mi_T.fin (k1 h1) (fun _ => rfl))
      (fun h1 => mi_T.go 3 (s1 := (13, [some (.ref 5), some (.int x1)], [.int x1, .ref 10], σ1)) rfl <|
      mi_T.li rfl rfl (b1 h1) <|
      mi_T.go 1 (s1 := (18, [some (.ref 5), some (.int x1)], [.int (σ1.1 10 x1.toNatClampNeg)], σ1)) rfl <|
      mi_T.fin (k2 h1) (fun _ => rfl))

-- AssertionGate$Message.hasWord(I)Z
theorem R62_0 {X : Nat × (Nat → Int32)} {d : Nat} {r : mA mG} {σ : mG} {x1 : Int32} {v1 : Int32} {σ1 : mG} {v2 : Int32} {σ2 : mG}
    (c1 : RR X d 60 [.ref 5, .int x1] σ (some (.int v1), σ1))
    (c2 : RR X d 61 [.ref 5, .int x1] σ1 (some (.int v2), σ2))
    (k1 : (v2 - v1) < 1 → r = (some (.int 0), σ2))
    (k2 : ¬ ((v2 - v1) < 1) → (v2 - v1) ≤ 8 → TT X d tb62 (some .boolean) (32, [some (.ref 5), some (.int x1), some (.int v1), some (.int v2), some (.int v1)], [], σ2) r)
    (k3 : ¬ ((v2 - v1) < 1) → ¬ ((v2 - v1) ≤ 8) → r = (some (.int 0), σ2))
    : TT X d tb62 (some .boolean) (0, [some (.ref 5), some (.int x1), none, none, none], [], σ) r := mi_T.go 2 (s1 := (2, [some (.ref 5), some (.int x1), none, none, none], [.int x1, .ref 5], σ)) rfl <|
      mi_T.call (as := [.ref 5, .int x1]) (rest := []) (v := some (.int v1)) rfl rfl rfl rfl rfl (c1) <|
      mi_T.go 3 (s1 := (8, [some (.ref 5), some (.int x1), some (.int v1), none, none], [.int x1, .ref 5], σ1)) rfl <|
      mi_T.call (as := [.ref 5, .int x1]) (rest := []) (v := some (.int v2)) rfl rfl rfl rfl rfl (c2) <|
      mi_T.go 5 (s1 := (16, [some (.ref 5), some (.int x1), some (.int v1), some (.int v2), none], [.int 1, .int (v2 - v1)], σ2)) rfl <|
      mi_T.br (P := (v2 - v1) < 1) (fun _ => rfl)
      (fun h1 => mi_T.go 1 (s1 := (28, [some (.ref 5), some (.int x1), some (.int v1), some (.int v2), none], [.int 0], σ2)) rfl <|
      mi_T.fin (k1 h1) (fun _ => rfl))
      (fun h1 => mi_T.go 4 (s1 := (24, [some (.ref 5), some (.int x1), some (.int v1), some (.int v2), none], [.int 8, .int (v2 - v1)], σ2)) rfl <|
      mi_T.br (P := (v2 - v1) ≤ 8) (fun _ => rfl)
      (fun h2 => mi_T.go 2 (s1 := (32, [some (.ref 5), some (.int x1), some (.int v1), some (.int v2), some (.int v1)], [], σ2)) rfl <|
      (k2 h1 h2))
      (fun h2 => mi_T.go 1 (s1 := (28, [some (.ref 5), some (.int x1), some (.int v1), some (.int v2), none], [.int 0], σ2)) rfl <|
      mi_T.fin (k3 h1 h2) (fun _ => rfl)))

theorem R62_32 {X : Nat × (Nat → Int32)} {d : Nat} {r : mA mG} {σ : mG} {x1 : Int32} {x2 : Int32} {x3 : Int32} {x4 : Int32} {v1 : Int32} {σ1 : mG}
    (k1 : x3 ≤ x4 → r = (some (.int 1), σ))
    (c1 : ¬ (x3 ≤ x4) → RR X d 39 [.ref 1, .int x4] σ (some (.int v1), σ1))
    (k2 : ¬ (x3 ≤ x4) → ¬ v1 = 60 → TT X d tb62 (some .boolean) (32, [some (.ref 5), some (.int x1), some (.int x2), some (.int x3), some (.int (x4 + 1))], [], σ1) r)
    (k3 : ¬ (x3 ≤ x4) → ¬ (¬ v1 = 60) → r = (some (.int 0), σ1))
    : TT X d tb62 (some .boolean) (32, [some (.ref 5), some (.int x1), some (.int x2), some (.int x3), some (.int x4)], [], σ) r := mi_T.go 2 (s1 := (35, [some (.ref 5), some (.int x1), some (.int x2), some (.int x3), some (.int x4)], [.int x3, .int x4], σ)) rfl <|
      mi_T.br (P := x3 ≤ x4) (fun _ => rfl)
      (fun h1 => mi_T.go 1 (s1 := (61, [some (.ref 5), some (.int x1), some (.int x2), some (.int x3), some (.int x4)], [.int 1], σ)) rfl <|
      mi_T.fin (k1 h1) (fun _ => rfl))
      (fun h1 => mi_T.go 3 (s1 := (44, [some (.ref 5), some (.int x1), some (.int x2), some (.int x3), some (.int x4)], [.int x4, .ref 1], σ)) rfl <|
      mi_T.call (as := [.ref 1, .int x4]) (rest := []) (v := some (.int v1)) rfl rfl rfl rfl rfl (c1 h1) <|
      mi_T.go 1 (s1 := (49, [some (.ref 5), some (.int x1), some (.int x2), some (.int x3), some (.int x4)], [.int 60, .int v1], σ1)) rfl <|
      mi_T.br (P := ¬ v1 = 60) (fun _ => rfl)
      (fun h2 => mi_T.go 2 (s1 := (32, [some (.ref 5), some (.int x1), some (.int x2), some (.int x3), some (.int (x4 + 1))], [], σ1)) rfl <|
      (k2 h1 h2))
      (fun h2 => mi_T.go 1 (s1 := (53, [some (.ref 5), some (.int x1), some (.int x2), some (.int x3), some (.int x4)], [.int 0], σ1)) rfl <|
      mi_T.fin (k3 h1 h2) (fun _ => rfl)))

-- AssertionGate$Message.wordIs(ILjava/lang/String;)Z
theorem R63_0 {X : Nat × (Nat → Int32)} {d : Nat} {r : mA mG} {σ : mG} {x1 : Int32} {w2 : Nat} {v1 : Int32} {σ1 : mG} {v2 : Int32} {σ2 : mG} {v3 : Int32} {σ3 : mG}
    (c1 : RR X d 60 [.ref 5, .int x1] σ (some (.int v1), σ1))
    (c2 : RR X d 61 [.ref 5, .int x1] σ1 (some (.int v2), σ2))
    (c3 : RR X d 50 [.ref 1, .int v1, .int v2, .ref w2] σ2 (some (.int v3), σ3))
    (k1 : r = (some (.int v3), σ3))
    (b1 : v3 = 0 ∨ v3 = 1)
    : TT X d tb63 (some .boolean) (0, [some (.ref 5), some (.int x1), some (.ref w2)], [], σ) r := mi_T.go 4 (s1 := (6, [some (.ref 5), some (.int x1), some (.ref w2)], [.int x1, .ref 5, .ref 1], σ)) rfl <|
      mi_T.call (as := [.ref 5, .int x1]) (rest := [.ref 1]) (v := some (.int v1)) rfl rfl rfl rfl rfl (c1) <|
      mi_T.go 2 (s1 := (11, [some (.ref 5), some (.int x1), some (.ref w2)], [.int x1, .ref 5, .int v1, .ref 1], σ1)) rfl <|
      mi_T.call (as := [.ref 5, .int x1]) (rest := [.int v1, .ref 1]) (v := some (.int v2)) rfl rfl rfl rfl rfl (c2) <|
      mi_T.go 1 (s1 := (15, [some (.ref 5), some (.int x1), some (.ref w2)], [.ref w2, .int v2, .int v1, .ref 1], σ2)) rfl <|
      mi_T.call (as := [.ref 1, .int v1, .int v2, .ref w2]) (rest := []) (v := some (.int v3)) rfl rfl rfl rfl rfl (c3) <|
      mi_T.finz rfl (b1) (k1)

-- AssertionGate$Message.sameWord(II)Z
theorem R64_0 {X : Nat × (Nat → Int32)} {d : Nat} {r : mA mG} {σ : mG} {x1 : Int32} {x2 : Int32} {v1 : Int32} {σ1 : mG} {v2 : Int32} {σ2 : mG} {v3 : Int32} {σ3 : mG} {v4 : Int32} {σ4 : mG} {v5 : Int32} {σ5 : mG}
    (c1 : RR X d 60 [.ref 5, .int x1] σ (some (.int v1), σ1))
    (c2 : RR X d 61 [.ref 5, .int x1] σ1 (some (.int v2), σ2))
    (c3 : RR X d 60 [.ref 5, .int x2] σ2 (some (.int v3), σ3))
    (c4 : RR X d 61 [.ref 5, .int x2] σ3 (some (.int v4), σ4))
    (c5 : RR X d 51 [.ref 1, .int v1, .int v2, .int v3, .int v4] σ4 (some (.int v5), σ5))
    (k1 : ¬ v5 = 0 → r = (some (.int 0), σ5))
    (k2 : ¬ (¬ v5 = 0) → r = (some (.int 1), σ5))
    : TT X d tb64 (some .boolean) (0, [some (.ref 5), some (.int x1), some (.int x2)], [], σ) r := mi_T.go 4 (s1 := (6, [some (.ref 5), some (.int x1), some (.int x2)], [.int x1, .ref 5, .ref 1], σ)) rfl <|
      mi_T.call (as := [.ref 5, .int x1]) (rest := [.ref 1]) (v := some (.int v1)) rfl rfl rfl rfl rfl (c1) <|
      mi_T.go 2 (s1 := (11, [some (.ref 5), some (.int x1), some (.int x2)], [.int x1, .ref 5, .int v1, .ref 1], σ1)) rfl <|
      mi_T.call (as := [.ref 5, .int x1]) (rest := [.int v1, .ref 1]) (v := some (.int v2)) rfl rfl rfl rfl rfl (c2) <|
      mi_T.go 2 (s1 := (16, [some (.ref 5), some (.int x1), some (.int x2)], [.int x2, .ref 5, .int v2, .int v1, .ref 1], σ2)) rfl <|
      mi_T.call (as := [.ref 5, .int x2]) (rest := [.int v2, .int v1, .ref 1]) (v := some (.int v3)) rfl rfl rfl rfl rfl (c3) <|
      mi_T.go 2 (s1 := (21, [some (.ref 5), some (.int x1), some (.int x2)], [.int x2, .ref 5, .int v3, .int v2, .int v1, .ref 1], σ3)) rfl <|
      mi_T.call (as := [.ref 5, .int x2]) (rest := [.int v3, .int v2, .int v1, .ref 1]) (v := some (.int v4)) rfl rfl rfl rfl rfl (c4) <|
      mi_T.call (as := [.ref 1, .int v1, .int v2, .int v3, .int v4]) (rest := []) (v := some (.int v5)) rfl rfl rfl rfl rfl (c5) <|
      mi_T.br (P := ¬ v5 = 0) (fun _ => rfl)
      (fun h1 => mi_T.go 1 (s1 := (35, [some (.ref 5), some (.int x1), some (.int x2)], [.int 0], σ5)) rfl <|
      mi_T.fin (k1 h1) (fun _ => rfl))
      (fun h1 => mi_T.go 2 (s1 := (35, [some (.ref 5), some (.int x1), some (.int x2)], [.int 1], σ5)) rfl <|
      mi_T.fin (k2 h1) (fun _ => rfl))

-- AssertionGate$Message.slotOf(ILjava/lang/String;)I
theorem R65_0 {X : Nat × (Nat → Int32)} {d : Nat} {r : mA mG} {σ : mG} {x1 : Int32} {w2 : Nat} {v1 : Int32} {σ1 : mG}
    (c1 : RR X d 53 [.ref 5, .int x1] σ (some (.int v1), σ1))
    (k1 : ¬ v1 = 0 → TT X d tb65 (some .int) (17, [some (.ref 5), some (.int x1), some (.ref w2), some (.int (x1 * 4)), some (.int (x1 * 4))], [], σ1) r)
    (k2 : ¬ (¬ v1 = 0) → r = (some (.int (-1)), σ1))
    : TT X d tb65 (some .int) (0, [some (.ref 5), some (.int x1), some (.ref w2), none, none], [], σ) r := mi_T.go 2 (s1 := (2, [some (.ref 5), some (.int x1), some (.ref w2), none, none], [.int x1, .ref 5], σ)) rfl <|
      mi_T.call (as := [.ref 5, .int x1]) (rest := []) (v := some (.int v1)) rfl rfl rfl rfl rfl (c1) <|
      mi_T.br (P := ¬ v1 = 0) (fun _ => rfl)
      (fun h1 => mi_T.go 6 (s1 := (17, [some (.ref 5), some (.int x1), some (.ref w2), some (.int (x1 * 4)), some (.int (x1 * 4))], [], σ1)) rfl <|
      (k1 h1))
      (fun h1 => mi_T.go 1 (s1 := (9, [some (.ref 5), some (.int x1), some (.ref w2), none, none], [.int (-1)], σ1)) rfl <|
      mi_T.fin (k2 h1) (fun _ => rfl))

theorem R65_17 {X : Nat × (Nat → Int32)} {d : Nat} {r : mA mG} {σ : mG} {x1 : Int32} {w2 : Nat} {x3 : Int32} {x4 : Int32} {v1 : Int32} {σ1 : mG}
    (b1 : mi_in x1 20 = true)
    (k1 : (x3 + (σ.1 12 x1.toNatClampNeg)) ≤ x4 → r = (some (.int (-1)), σ))
    (b2 : ¬ ((x3 + (σ.1 12 x1.toNatClampNeg)) ≤ x4) → mi_in x4 80 = true)
    (b3 : ¬ ((x3 + (σ.1 12 x1.toNatClampNeg)) ≤ x4) → mi_in x4 80 = true)
    (c1 : ¬ ((x3 + (σ.1 12 x1.toNatClampNeg)) ≤ x4) → RR X d 50 [.ref 1, .int (σ.1 13 x4.toNatClampNeg), .int ((σ.1 14 x4.toNatClampNeg) - 2), .ref w2] σ (some (.int v1), σ1))
    (k2 : ¬ ((x3 + (σ.1 12 x1.toNatClampNeg)) ≤ x4) → v1 = 0 → TT X d tb65 (some .int) (17, [some (.ref 5), some (.int x1), some (.ref w2), some (.int x3), some (.int (x4 + 1))], [], σ1) r)
    (k3 : ¬ ((x3 + (σ.1 12 x1.toNatClampNeg)) ≤ x4) → ¬ (v1 = 0) → r = (some (.int x4), σ1))
    : TT X d tb65 (some .int) (17, [some (.ref 5), some (.int x1), some (.ref w2), some (.int x3), some (.int x4)], [], σ) r := mi_T.go 5 (s1 := (25, [some (.ref 5), some (.int x1), some (.ref w2), some (.int x3), some (.int x4)], [.int x1, .ref 12, .int x3, .int x4], σ)) rfl <|
      mi_T.li rfl rfl (b1) <|
      mi_T.go 1 (s1 := (27, [some (.ref 5), some (.int x1), some (.ref w2), some (.int x3), some (.int x4)], [.int (x3 + (σ.1 12 x1.toNatClampNeg)), .int x4], σ)) rfl <|
      mi_T.br (P := (x3 + (σ.1 12 x1.toNatClampNeg)) ≤ x4) (fun _ => rfl)
      (fun h1 => mi_T.go 1 (s1 := (67, [some (.ref 5), some (.int x1), some (.ref w2), some (.int x3), some (.int x4)], [.int (-1)], σ)) rfl <|
      mi_T.fin (k1 h1) (fun _ => rfl))
      (fun h1 => mi_T.go 5 (s1 := (40, [some (.ref 5), some (.int x1), some (.ref w2), some (.int x3), some (.int x4)], [.int x4, .ref 13, .ref 1], σ)) rfl <|
      mi_T.li rfl rfl (b2 h1) <|
      mi_T.go 3 (s1 := (47, [some (.ref 5), some (.int x1), some (.ref w2), some (.int x3), some (.int x4)], [.int x4, .ref 14, .int (σ.1 13 x4.toNatClampNeg), .ref 1], σ)) rfl <|
      mi_T.li rfl rfl (b3 h1) <|
      mi_T.go 3 (s1 := (51, [some (.ref 5), some (.int x1), some (.ref w2), some (.int x3), some (.int x4)], [.ref w2, .int ((σ.1 14 x4.toNatClampNeg) - 2), .int (σ.1 13 x4.toNatClampNeg), .ref 1], σ)) rfl <|
      mi_T.call (as := [.ref 1, .int (σ.1 13 x4.toNatClampNeg), .int ((σ.1 14 x4.toNatClampNeg) - 2), .ref w2]) (rest := []) (v := some (.int v1)) rfl rfl rfl rfl rfl (c1 h1) <|
      mi_T.br (P := v1 = 0) (fun _ => rfl)
      (fun h2 => mi_T.go 2 (s1 := (17, [some (.ref 5), some (.int x1), some (.ref w2), some (.int x3), some (.int (x4 + 1))], [], σ1)) rfl <|
      (k2 h1 h2))
      (fun h2 => mi_T.go 1 (s1 := (59, [some (.ref 5), some (.int x1), some (.ref w2), some (.int x3), some (.int x4)], [.int x4], σ1)) rfl <|
      mi_T.fin (k3 h1 h2) (fun _ => rfl)))

-- AssertionGate$Message.has(ILjava/lang/String;)Z
theorem R66_0 {X : Nat × (Nat → Int32)} {d : Nat} {r : mA mG} {σ : mG} {x1 : Int32} {w2 : Nat} {v1 : Int32} {σ1 : mG}
    (c1 : RR X d 65 [.ref 5, .int x1, .ref w2] σ (some (.int v1), σ1))
    (k1 : v1 = (-1) → r = (some (.int 0), σ1))
    (k2 : ¬ (v1 = (-1)) → r = (some (.int 1), σ1))
    : TT X d tb66 (some .boolean) (0, [some (.ref 5), some (.int x1), some (.ref w2)], [], σ) r := mi_T.go 3 (s1 := (3, [some (.ref 5), some (.int x1), some (.ref w2)], [.ref w2, .int x1, .ref 5], σ)) rfl <|
      mi_T.call (as := [.ref 5, .int x1, .ref w2]) (rest := []) (v := some (.int v1)) rfl rfl rfl rfl rfl (c1) <|
      mi_T.go 1 (s1 := (7, [some (.ref 5), some (.int x1), some (.ref w2)], [.int (-1), .int v1], σ1)) rfl <|
      mi_T.br (P := v1 = (-1)) (fun _ => rfl)
      (fun h1 => mi_T.go 1 (s1 := (15, [some (.ref 5), some (.int x1), some (.ref w2)], [.int 0], σ1)) rfl <|
      mi_T.fin (k1 h1) (fun _ => rfl))
      (fun h1 => mi_T.go 2 (s1 := (15, [some (.ref 5), some (.int x1), some (.ref w2)], [.int 1], σ1)) rfl <|
      mi_T.fin (k2 h1) (fun _ => rfl))

-- AssertionGate$Message.valueFrom(I)I
theorem R67_0 {X : Nat × (Nat → Int32)} {d : Nat} {r : mA mG} {σ : mG} {x1 : Int32}
    (k1 : x1 < 0 → r = (some (.int 0), σ))
    (k2 : ¬ (x1 < 0) → (Int32.ofNat 80) ≤ x1 → r = (some (.int 0), σ))
    (b1 : ¬ (x1 < 0) → ¬ ((Int32.ofNat 80) ≤ x1) → mi_in x1 80 = true)
    (k3 : ¬ (x1 < 0) → ¬ ((Int32.ofNat 80) ≤ x1) → r = (some (.int (σ.1 14 x1.toNatClampNeg)), σ))
    : TT X d tb67 (some .int) (0, [some (.ref 5), some (.int x1)], [], σ) r := mi_T.go 1 (s1 := (1, [some (.ref 5), some (.int x1)], [.int x1], σ)) rfl <|
      mi_T.br (P := x1 < 0) (fun _ => rfl)
      (fun h1 => mi_T.go 1 (s1 := (23, [some (.ref 5), some (.int x1)], [.int 0], σ)) rfl <|
      mi_T.fin (k1 h1) (fun _ => rfl))
      (fun h1 => mi_T.go 4 (s1 := (10, [some (.ref 5), some (.int x1)], [.int (Int32.ofNat 80), .int x1], σ)) rfl <|
      mi_T.br (P := (Int32.ofNat 80) ≤ x1) (fun _ => rfl)
      (fun h2 => mi_T.go 1 (s1 := (23, [some (.ref 5), some (.int x1)], [.int 0], σ)) rfl <|
      mi_T.fin (k2 h1 h2) (fun _ => rfl))
      (fun h2 => mi_T.go 3 (s1 := (18, [some (.ref 5), some (.int x1)], [.int x1, .ref 14], σ)) rfl <|
      mi_T.li rfl rfl (b1 h1 h2) <|
      mi_T.go 1 (s1 := (23, [some (.ref 5), some (.int x1)], [.int (σ.1 14 x1.toNatClampNeg)], σ)) rfl <|
      mi_T.fin (k3 h1 h2) (fun _ => rfl)))

-- AssertionGate$Message.valueTo(I)I
theorem R68_0 {X : Nat × (Nat → Int32)} {d : Nat} {r : mA mG} {σ : mG} {x1 : Int32}
    (k1 : x1 < 0 → r = (some (.int 0), σ))
    (k2 : ¬ (x1 < 0) → (Int32.ofNat 80) ≤ x1 → r = (some (.int 0), σ))
    (b1 : ¬ (x1 < 0) → ¬ ((Int32.ofNat 80) ≤ x1) → mi_in x1 80 = true)
    (k3 : ¬ (x1 < 0) → ¬ ((Int32.ofNat 80) ≤ x1) → r = (some (.int (σ.1 15 x1.toNatClampNeg)), σ))
    : TT X d tb68 (some .int) (0, [some (.ref 5), some (.int x1)], [], σ) r := mi_T.go 1 (s1 := (1, [some (.ref 5), some (.int x1)], [.int x1], σ)) rfl <|
      mi_T.br (P := x1 < 0) (fun _ => rfl)
      (fun h1 => mi_T.go 1 (s1 := (23, [some (.ref 5), some (.int x1)], [.int 0], σ)) rfl <|
      mi_T.fin (k1 h1) (fun _ => rfl))
      (fun h1 => mi_T.go 4 (s1 := (10, [some (.ref 5), some (.int x1)], [.int (Int32.ofNat 80), .int x1], σ)) rfl <|
      mi_T.br (P := (Int32.ofNat 80) ≤ x1) (fun _ => rfl)
      (fun h2 => mi_T.go 1 (s1 := (23, [some (.ref 5), some (.int x1)], [.int 0], σ)) rfl <|
      mi_T.fin (k2 h1 h2) (fun _ => rfl))
      (fun h2 => mi_T.go 3 (s1 := (18, [some (.ref 5), some (.int x1)], [.int x1, .ref 15], σ)) rfl <|
      mi_T.li rfl rfl (b1 h1 h2) <|
      mi_T.go 1 (s1 := (23, [some (.ref 5), some (.int x1)], [.int (σ.1 15 x1.toNatClampNeg)], σ)) rfl <|
      mi_T.fin (k3 h1 h2) (fun _ => rfl)))

-- AssertionGate$Message.valueIs(ILjava/lang/String;Ljava/lang/String;)Z
theorem R69_0 {X : Nat × (Nat → Int32)} {d : Nat} {r : mA mG} {σ : mG} {x1 : Int32} {w2 : Nat} {w3 : Nat} {v1 : Int32} {σ1 : mG} {v2 : Int32} {σ2 : mG} {v3 : Int32} {σ3 : mG} {v4 : Int32} {σ4 : mG}
    (c1 : RR X d 65 [.ref 5, .int x1, .ref w2] σ (some (.int v1), σ1))
    (k1 : v1 = (-1) → r = (some (.int 0), σ1))
    (c2 : ¬ (v1 = (-1)) → RR X d 67 [.ref 5, .int v1] σ1 (some (.int v2), σ2))
    (c3 : ¬ (v1 = (-1)) → RR X d 68 [.ref 5, .int v1] σ2 (some (.int v3), σ3))
    (c4 : ¬ (v1 = (-1)) → RR X d 50 [.ref 1, .int v2, .int v3, .ref w3] σ3 (some (.int v4), σ4))
    (k2 : ¬ (v1 = (-1)) → v4 = 0 → r = (some (.int 0), σ4))
    (k3 : ¬ (v1 = (-1)) → ¬ (v4 = 0) → r = (some (.int 1), σ4))
    : TT X d tb69 (some .boolean) (0, [some (.ref 5), some (.int x1), some (.ref w2), some (.ref w3), none], [], σ) r := mi_T.go 3 (s1 := (3, [some (.ref 5), some (.int x1), some (.ref w2), some (.ref w3), none], [.ref w2, .int x1, .ref 5], σ)) rfl <|
      mi_T.call (as := [.ref 5, .int x1, .ref w2]) (rest := []) (v := some (.int v1)) rfl rfl rfl rfl rfl (c1) <|
      mi_T.go 3 (s1 := (11, [some (.ref 5), some (.int x1), some (.ref w2), some (.ref w3), some (.int v1)], [.int (-1), .int v1], σ1)) rfl <|
      mi_T.br (P := v1 = (-1)) (fun _ => rfl)
      (fun h1 => mi_T.go 1 (s1 := (42, [some (.ref 5), some (.int x1), some (.ref w2), some (.ref w3), some (.int v1)], [.int 0], σ1)) rfl <|
      mi_T.fin (k1 h1) (fun _ => rfl))
      (fun h1 => mi_T.go 4 (s1 := (21, [some (.ref 5), some (.int x1), some (.ref w2), some (.ref w3), some (.int v1)], [.int v1, .ref 5, .ref 1], σ1)) rfl <|
      mi_T.call (as := [.ref 5, .int v1]) (rest := [.ref 1]) (v := some (.int v2)) rfl rfl rfl rfl rfl (c2 h1) <|
      mi_T.go 2 (s1 := (27, [some (.ref 5), some (.int x1), some (.ref w2), some (.ref w3), some (.int v1)], [.int v1, .ref 5, .int v2, .ref 1], σ2)) rfl <|
      mi_T.call (as := [.ref 5, .int v1]) (rest := [.int v2, .ref 1]) (v := some (.int v3)) rfl rfl rfl rfl rfl (c3 h1) <|
      mi_T.go 1 (s1 := (31, [some (.ref 5), some (.int x1), some (.ref w2), some (.ref w3), some (.int v1)], [.ref w3, .int v3, .int v2, .ref 1], σ3)) rfl <|
      mi_T.call (as := [.ref 1, .int v2, .int v3, .ref w3]) (rest := []) (v := some (.int v4)) rfl rfl rfl rfl rfl (c4 h1) <|
      mi_T.br (P := v4 = 0) (fun _ => rfl)
      (fun h2 => mi_T.go 1 (s1 := (42, [some (.ref 5), some (.int x1), some (.ref w2), some (.ref w3), some (.int v1)], [.int 0], σ4)) rfl <|
      mi_T.fin (k2 h1 h2) (fun _ => rfl))
      (fun h2 => mi_T.go 2 (s1 := (42, [some (.ref 5), some (.int x1), some (.ref w2), some (.ref w3), some (.int v1)], [.int 1], σ4)) rfl <|
      mi_T.fin (k3 h1 h2) (fun _ => rfl)))

-- AssertionGate$Message.sameText(II)Z
theorem R70_0 {X : Nat × (Nat → Int32)} {d : Nat} {r : mA mG} {σ : mG} {x1 : Int32} {x2 : Int32} {v1 : Int32} {σ1 : mG} {v2 : Int32} {σ2 : mG} {v3 : Int32} {σ3 : mG} {v4 : Int32} {σ4 : mG} {v5 : Int32} {σ5 : mG}
    (k1 : x1 = (-1) → r = (some (.int 0), σ))
    (k2 : ¬ (x1 = (-1)) → x2 = (-1) → r = (some (.int 0), σ))
    (c1 : ¬ (x1 = (-1)) → ¬ (x2 = (-1)) → RR X d 67 [.ref 5, .int x1] σ (some (.int v1), σ1))
    (c2 : ¬ (x1 = (-1)) → ¬ (x2 = (-1)) → RR X d 68 [.ref 5, .int x1] σ1 (some (.int v2), σ2))
    (c3 : ¬ (x1 = (-1)) → ¬ (x2 = (-1)) → RR X d 67 [.ref 5, .int x2] σ2 (some (.int v3), σ3))
    (c4 : ¬ (x1 = (-1)) → ¬ (x2 = (-1)) → RR X d 68 [.ref 5, .int x2] σ3 (some (.int v4), σ4))
    (c5 : ¬ (x1 = (-1)) → ¬ (x2 = (-1)) → RR X d 51 [.ref 1, .int v1, .int v2, .int v3, .int v4] σ4 (some (.int v5), σ5))
    (k3 : ¬ (x1 = (-1)) → ¬ (x2 = (-1)) → ¬ v5 = 0 → r = (some (.int 0), σ5))
    (k4 : ¬ (x1 = (-1)) → ¬ (x2 = (-1)) → ¬ (¬ v5 = 0) → r = (some (.int 1), σ5))
    : TT X d tb70 (some .boolean) (0, [some (.ref 5), some (.int x1), some (.int x2)], [], σ) r := mi_T.go 2 (s1 := (2, [some (.ref 5), some (.int x1), some (.int x2)], [.int (-1), .int x1], σ)) rfl <|
      mi_T.br (P := x1 = (-1)) (fun _ => rfl)
      (fun h1 => mi_T.go 1 (s1 := (45, [some (.ref 5), some (.int x1), some (.int x2)], [.int 0], σ)) rfl <|
      mi_T.fin (k1 h1) (fun _ => rfl))
      (fun h1 => mi_T.go 2 (s1 := (7, [some (.ref 5), some (.int x1), some (.int x2)], [.int (-1), .int x2], σ)) rfl <|
      mi_T.br (P := x2 = (-1)) (fun _ => rfl)
      (fun h2 => mi_T.go 1 (s1 := (45, [some (.ref 5), some (.int x1), some (.int x2)], [.int 0], σ)) rfl <|
      mi_T.fin (k2 h1 h2) (fun _ => rfl))
      (fun h2 => mi_T.go 4 (s1 := (16, [some (.ref 5), some (.int x1), some (.int x2)], [.int x1, .ref 5, .ref 1], σ)) rfl <|
      mi_T.call (as := [.ref 5, .int x1]) (rest := [.ref 1]) (v := some (.int v1)) rfl rfl rfl rfl rfl (c1 h1 h2) <|
      mi_T.go 2 (s1 := (21, [some (.ref 5), some (.int x1), some (.int x2)], [.int x1, .ref 5, .int v1, .ref 1], σ1)) rfl <|
      mi_T.call (as := [.ref 5, .int x1]) (rest := [.int v1, .ref 1]) (v := some (.int v2)) rfl rfl rfl rfl rfl (c2 h1 h2) <|
      mi_T.go 2 (s1 := (26, [some (.ref 5), some (.int x1), some (.int x2)], [.int x2, .ref 5, .int v2, .int v1, .ref 1], σ2)) rfl <|
      mi_T.call (as := [.ref 5, .int x2]) (rest := [.int v2, .int v1, .ref 1]) (v := some (.int v3)) rfl rfl rfl rfl rfl (c3 h1 h2) <|
      mi_T.go 2 (s1 := (31, [some (.ref 5), some (.int x1), some (.int x2)], [.int x2, .ref 5, .int v3, .int v2, .int v1, .ref 1], σ3)) rfl <|
      mi_T.call (as := [.ref 5, .int x2]) (rest := [.int v3, .int v2, .int v1, .ref 1]) (v := some (.int v4)) rfl rfl rfl rfl rfl (c4 h1 h2) <|
      mi_T.call (as := [.ref 1, .int v1, .int v2, .int v3, .int v4]) (rest := []) (v := some (.int v5)) rfl rfl rfl rfl rfl (c5 h1 h2) <|
      mi_T.br (P := ¬ v5 = 0) (fun _ => rfl)
      (fun h3 => mi_T.go 1 (s1 := (45, [some (.ref 5), some (.int x1), some (.int x2)], [.int 0], σ5)) rfl <|
      mi_T.fin (k3 h1 h2 h3) (fun _ => rfl))
      (fun h3 => mi_T.go 2 (s1 := (45, [some (.ref 5), some (.int x1), some (.int x2)], [.int 1], σ5)) rfl <|
      mi_T.fin (k4 h1 h2 h3) (fun _ => rfl))))

-- AssertionGate$Message.sameValue(IILjava/lang/String;)Z
theorem R71_0 {X : Nat × (Nat → Int32)} {d : Nat} {r : mA mG} {σ : mG} {x1 : Int32} {x2 : Int32} {w3 : Nat} {v1 : Int32} {σ1 : mG} {v2 : Int32} {σ2 : mG} {v3 : Int32} {σ3 : mG}
    (c1 : RR X d 65 [.ref 5, .int x1, .ref w3] σ (some (.int v1), σ1))
    (c2 : RR X d 65 [.ref 5, .int x2, .ref w3] σ1 (some (.int v2), σ2))
    (c3 : RR X d 70 [.ref 5, .int v1, .int v2] σ2 (some (.int v3), σ3))
    (k1 : r = (some (.int v3), σ3))
    (b1 : v3 = 0 ∨ v3 = 1)
    : TT X d tb71 (some .boolean) (0, [some (.ref 5), some (.int x1), some (.int x2), some (.ref w3)], [], σ) r := mi_T.go 4 (s1 := (4, [some (.ref 5), some (.int x1), some (.int x2), some (.ref w3)], [.ref w3, .int x1, .ref 5, .ref 5], σ)) rfl <|
      mi_T.call (as := [.ref 5, .int x1, .ref w3]) (rest := [.ref 5]) (v := some (.int v1)) rfl rfl rfl rfl rfl (c1) <|
      mi_T.go 3 (s1 := (10, [some (.ref 5), some (.int x1), some (.int x2), some (.ref w3)], [.ref w3, .int x2, .ref 5, .int v1, .ref 5], σ1)) rfl <|
      mi_T.call (as := [.ref 5, .int x2, .ref w3]) (rest := [.int v1, .ref 5]) (v := some (.int v2)) rfl rfl rfl rfl rfl (c2) <|
      mi_T.call (as := [.ref 5, .int v1, .int v2]) (rest := []) (v := some (.int v3)) rfl rfl rfl rfl rfl (c3) <|
      mi_T.finz rfl (b1) (k1)

-- AssertionGate$Message.hasKey(ILjava/lang/String;)Z
theorem R72_0 {X : Nat × (Nat → Int32)} {d : Nat} {r : mA mG} {σ : mG} {x1 : Int32} {w2 : Nat} {v1 : Int32} {σ1 : mG} {v2 : Int32} {σ2 : mG} {v3 : Int32} {σ3 : mG}
    (c1 : RR X d 65 [.ref 5, .int x1, .ref w2] σ (some (.int v1), σ1))
    (c2 : RR X d 68 [.ref 5, .int v1] σ1 (some (.int v2), σ2))
    (c3 : RR X d 67 [.ref 5, .int v1] σ2 (some (.int v3), σ3))
    (k1 : (v2 - v3) < 1 → r = (some (.int 0), σ3))
    (k2 : ¬ ((v2 - v3) < 1) → 8 < (v2 - v3) → r = (some (.int 0), σ3))
    (k3 : ¬ ((v2 - v3) < 1) → ¬ (8 < (v2 - v3)) → r = (some (.int 1), σ3))
    : TT X d tb72 (some .boolean) (0, [some (.ref 5), some (.int x1), some (.ref w2), none, none], [], σ) r := mi_T.go 3 (s1 := (3, [some (.ref 5), some (.int x1), some (.ref w2), none, none], [.ref w2, .int x1, .ref 5], σ)) rfl <|
      mi_T.call (as := [.ref 5, .int x1, .ref w2]) (rest := []) (v := some (.int v1)) rfl rfl rfl rfl rfl (c1) <|
      mi_T.go 3 (s1 := (9, [some (.ref 5), some (.int x1), some (.ref w2), some (.int v1), none], [.int v1, .ref 5], σ1)) rfl <|
      mi_T.call (as := [.ref 5, .int v1]) (rest := []) (v := some (.int v2)) rfl rfl rfl rfl rfl (c2) <|
      mi_T.go 2 (s1 := (14, [some (.ref 5), some (.int x1), some (.ref w2), some (.int v1), none], [.int v1, .ref 5, .int v2], σ2)) rfl <|
      mi_T.call (as := [.ref 5, .int v1]) (rest := [.int v2]) (v := some (.int v3)) rfl rfl rfl rfl rfl (c3) <|
      mi_T.go 4 (s1 := (23, [some (.ref 5), some (.int x1), some (.ref w2), some (.int v1), some (.int (v2 - v3))], [.int 1, .int (v2 - v3)], σ3)) rfl <|
      mi_T.br (P := (v2 - v3) < 1) (fun _ => rfl)
      (fun h1 => mi_T.go 1 (s1 := (38, [some (.ref 5), some (.int x1), some (.ref w2), some (.int v1), some (.int (v2 - v3))], [.int 0], σ3)) rfl <|
      mi_T.fin (k1 h1) (fun _ => rfl))
      (fun h1 => mi_T.go 2 (s1 := (30, [some (.ref 5), some (.int x1), some (.ref w2), some (.int v1), some (.int (v2 - v3))], [.int 8, .int (v2 - v3)], σ3)) rfl <|
      mi_T.br (P := 8 < (v2 - v3)) (fun _ => rfl)
      (fun h2 => mi_T.go 1 (s1 := (38, [some (.ref 5), some (.int x1), some (.ref w2), some (.int v1), some (.int (v2 - v3))], [.int 0], σ3)) rfl <|
      mi_T.fin (k2 h1 h2) (fun _ => rfl))
      (fun h2 => mi_T.go 2 (s1 := (38, [some (.ref 5), some (.int x1), some (.ref w2), some (.int v1), some (.int (v2 - v3))], [.int 1], σ3)) rfl <|
      mi_T.fin (k3 h1 h2) (fun _ => rfl)))

-- AssertionGate$Message.hasNumber(ILjava/lang/String;)Z
theorem R73_0 {X : Nat × (Nat → Int32)} {d : Nat} {r : mA mG} {σ : mG} {x1 : Int32} {w2 : Nat} {v1 : Int32} {σ1 : mG}
    (c1 : RR X d 74 [.ref 5, .int x1, .ref w2] σ (some (.int v1), σ1))
    (k1 : v1 = (-1) → r = (some (.int 0), σ1))
    (k2 : ¬ (v1 = (-1)) → r = (some (.int 1), σ1))
    : TT X d tb73 (some .boolean) (0, [some (.ref 5), some (.int x1), some (.ref w2)], [], σ) r := mi_T.go 3 (s1 := (3, [some (.ref 5), some (.int x1), some (.ref w2)], [.ref w2, .int x1, .ref 5], σ)) rfl <|
      mi_T.call (as := [.ref 5, .int x1, .ref w2]) (rest := []) (v := some (.int v1)) rfl rfl rfl rfl rfl (c1) <|
      mi_T.go 1 (s1 := (7, [some (.ref 5), some (.int x1), some (.ref w2)], [.int (-1), .int v1], σ1)) rfl <|
      mi_T.br (P := v1 = (-1)) (fun _ => rfl)
      (fun h1 => mi_T.go 1 (s1 := (15, [some (.ref 5), some (.int x1), some (.ref w2)], [.int 0], σ1)) rfl <|
      mi_T.fin (k1 h1) (fun _ => rfl))
      (fun h1 => mi_T.go 2 (s1 := (15, [some (.ref 5), some (.int x1), some (.ref w2)], [.int 1], σ1)) rfl <|
      mi_T.fin (k2 h1) (fun _ => rfl))

-- AssertionGate$Message.number(ILjava/lang/String;)I
theorem R74_0 {X : Nat × (Nat → Int32)} {d : Nat} {r : mA mG} {σ : mG} {x1 : Int32} {w2 : Nat} {v1 : Int32} {σ1 : mG} {v2 : Int32} {σ2 : mG} {v3 : Int32} {σ3 : mG}
    (c1 : RR X d 65 [.ref 5, .int x1, .ref w2] σ (some (.int v1), σ1))
    (c2 : RR X d 67 [.ref 5, .int v1] σ1 (some (.int v2), σ2))
    (c3 : RR X d 68 [.ref 5, .int v1] σ2 (some (.int v3), σ3))
    (k1 : (v3 - v2) < 1 → r = (some (.int (-1)), σ3))
    (k2 : ¬ ((v3 - v2) < 1) → (v3 - v2) ≤ 9 → TT X d tb74 (some .int) (49, [some (.ref 5), some (.int x1), some (.ref w2), some (.int v1), some (.int v2), some (.int v3), some (.int 0), some (.int v2), none], [], σ3) r)
    (k3 : ¬ ((v3 - v2) < 1) → ¬ ((v3 - v2) ≤ 9) → r = (some (.int (-1)), σ3))
    : TT X d tb74 (some .int) (0, [some (.ref 5), some (.int x1), some (.ref w2), none, none, none, none, none, none], [], σ) r := mi_T.go 3 (s1 := (3, [some (.ref 5), some (.int x1), some (.ref w2), none, none, none, none, none, none], [.ref w2, .int x1, .ref 5], σ)) rfl <|
      mi_T.call (as := [.ref 5, .int x1, .ref w2]) (rest := []) (v := some (.int v1)) rfl rfl rfl rfl rfl (c1) <|
      mi_T.go 3 (s1 := (9, [some (.ref 5), some (.int x1), some (.ref w2), some (.int v1), none, none, none, none, none], [.int v1, .ref 5], σ1)) rfl <|
      mi_T.call (as := [.ref 5, .int v1]) (rest := []) (v := some (.int v2)) rfl rfl rfl rfl rfl (c2) <|
      mi_T.go 3 (s1 := (16, [some (.ref 5), some (.int x1), some (.ref w2), some (.int v1), some (.int v2), none, none, none, none], [.int v1, .ref 5], σ2)) rfl <|
      mi_T.call (as := [.ref 5, .int v1]) (rest := []) (v := some (.int v3)) rfl rfl rfl rfl rfl (c3) <|
      mi_T.go 5 (s1 := (27, [some (.ref 5), some (.int x1), some (.ref w2), some (.int v1), some (.int v2), some (.int v3), none, none, none], [.int 1, .int (v3 - v2)], σ3)) rfl <|
      mi_T.br (P := (v3 - v2) < 1) (fun _ => rfl)
      (fun h1 => mi_T.go 1 (s1 := (41, [some (.ref 5), some (.int x1), some (.ref w2), some (.int v1), some (.int v2), some (.int v3), none, none, none], [.int (-1)], σ3)) rfl <|
      mi_T.fin (k1 h1) (fun _ => rfl))
      (fun h1 => mi_T.go 4 (s1 := (37, [some (.ref 5), some (.int x1), some (.ref w2), some (.int v1), some (.int v2), some (.int v3), none, none, none], [.int 9, .int (v3 - v2)], σ3)) rfl <|
      mi_T.br (P := (v3 - v2) ≤ 9) (fun _ => rfl)
      (fun h2 => mi_T.go 4 (s1 := (49, [some (.ref 5), some (.int x1), some (.ref w2), some (.int v1), some (.int v2), some (.int v3), some (.int 0), some (.int v2), none], [], σ3)) rfl <|
      (k2 h1 h2))
      (fun h2 => mi_T.go 1 (s1 := (41, [some (.ref 5), some (.int x1), some (.ref w2), some (.int v1), some (.int v2), some (.int v3), none, none, none], [.int (-1)], σ3)) rfl <|
      mi_T.fin (k3 h1 h2) (fun _ => rfl)))

theorem R74_49 {X : Nat × (Nat → Int32)} {d : Nat} {r : mA mG} {σ : mG} {x1 : Int32} {w2 : Nat} {x3 : Int32} {x4 : Int32} {x5 : Int32} {x6 : Int32} {x7 : Int32} {u8 : Option Value} {v1 : Int32} {σ1 : mG}
    (k1 : x5 ≤ x7 → r = (some (.int x6), σ))
    (c1 : ¬ (x5 ≤ x7) → RR X d 39 [.ref 1, .int x7] σ (some (.int v1), σ1))
    (k2 : ¬ (x5 ≤ x7) → (v1 - 48) < 0 → r = (some (.int (-1)), σ1))
    (k3 : ¬ (x5 ≤ x7) → ¬ ((v1 - 48) < 0) → (v1 - 48) ≤ 9 → TT X d tb74 (some .int) (49, [some (.ref 5), some (.int x1), some (.ref w2), some (.int x3), some (.int x4), some (.int x5), some (.int ((x6 * 10) + (v1 - 48))), some (.int (x7 + 1)), some (.int (v1 - 48))], [], σ1) r)
    (k4 : ¬ (x5 ≤ x7) → ¬ ((v1 - 48) < 0) → ¬ ((v1 - 48) ≤ 9) → r = (some (.int (-1)), σ1))
    : TT X d tb74 (some .int) (49, [some (.ref 5), some (.int x1), some (.ref w2), some (.int x3), some (.int x4), some (.int x5), some (.int x6), some (.int x7), u8], [], σ) r := mi_T.go 2 (s1 := (53, [some (.ref 5), some (.int x1), some (.ref w2), some (.int x3), some (.int x4), some (.int x5), some (.int x6), some (.int x7), u8], [.int x5, .int x7], σ)) rfl <|
      mi_T.br (P := x5 ≤ x7) (fun _ => rfl)
      (fun h1 => mi_T.go 1 (s1 := (102, [some (.ref 5), some (.int x1), some (.ref w2), some (.int x3), some (.int x4), some (.int x5), some (.int x6), some (.int x7), u8], [.int x6], σ)) rfl <|
      mi_T.fin (k1 h1) (fun _ => rfl))
      (fun h1 => mi_T.go 3 (s1 := (62, [some (.ref 5), some (.int x1), some (.ref w2), some (.int x3), some (.int x4), some (.int x5), some (.int x6), some (.int x7), u8], [.int x7, .ref 1], σ)) rfl <|
      mi_T.call (as := [.ref 1, .int x7]) (rest := []) (v := some (.int v1)) rfl rfl rfl rfl rfl (c1 h1) <|
      mi_T.go 4 (s1 := (72, [some (.ref 5), some (.int x1), some (.ref w2), some (.int x3), some (.int x4), some (.int x5), some (.int x6), some (.int x7), some (.int (v1 - 48))], [.int (v1 - 48)], σ1)) rfl <|
      mi_T.br (P := (v1 - 48) < 0) (fun _ => rfl)
      (fun h2 => mi_T.go 1 (s1 := (83, [some (.ref 5), some (.int x1), some (.ref w2), some (.int x3), some (.int x4), some (.int x5), some (.int x6), some (.int x7), some (.int (v1 - 48))], [.int (-1)], σ1)) rfl <|
      mi_T.fin (k2 h1 h2) (fun _ => rfl))
      (fun h2 => mi_T.go 2 (s1 := (79, [some (.ref 5), some (.int x1), some (.ref w2), some (.int x3), some (.int x4), some (.int x5), some (.int x6), some (.int x7), some (.int (v1 - 48))], [.int 9, .int (v1 - 48)], σ1)) rfl <|
      mi_T.br (P := (v1 - 48) ≤ 9) (fun _ => rfl)
      (fun h3 => mi_T.go 8 (s1 := (49, [some (.ref 5), some (.int x1), some (.ref w2), some (.int x3), some (.int x4), some (.int x5), some (.int ((x6 * 10) + (v1 - 48))), some (.int (x7 + 1)), some (.int (v1 - 48))], [], σ1)) rfl <|
      (k3 h1 h2 h3))
      (fun h3 => mi_T.go 1 (s1 := (83, [some (.ref 5), some (.int x1), some (.ref w2), some (.int x3), some (.int x4), some (.int x5), some (.int x6), some (.int x7), some (.int (v1 - 48))], [.int (-1)], σ1)) rfl <|
      mi_T.fin (k4 h1 h2 h3) (fun _ => rfl))))

-- AssertionGate$Message.repeatsAnId()Z
theorem R75_0 {X : Nat × (Nat → Int32)} {d : Nat} {r : mA mG} {σ : mG} 
    (k1 : TT X d tb75 (some .boolean) (2, [some (.ref 5), some (.int 0), none, none], [], σ) r)
    : TT X d tb75 (some .boolean) (0, [some (.ref 5), none, none, none], [], σ) r := mi_T.go 2 (s1 := (2, [some (.ref 5), some (.int 0), none, none], [], σ)) rfl <|
      k1

theorem R75_2 {X : Nat × (Nat → Int32)} {d : Nat} {r : mA mG} {σ : mG} {x1 : Int32} {u2 : Option Value} {u3 : Option Value} {v1 : Int32} {σ1 : mG}
    (k1 : (σ.1 5 1) ≤ x1 → r = (some (.int 0), σ))
    (c1 : ¬ ((σ.1 5 1) ≤ x1) → RR X d 65 [.ref 5, .int x1, .ref 1023] σ (some (.int v1), σ1))
    (k2 : ¬ ((σ.1 5 1) ≤ x1) → TT X d tb75 (some .boolean) (20, [some (.ref 5), some (.int x1), some (.int v1), some (.int 0)], [], σ1) r)
    : TT X d tb75 (some .boolean) (2, [some (.ref 5), some (.int x1), u2, u3], [], σ) r := mi_T.go 3 (s1 := (7, [some (.ref 5), some (.int x1), u2, u3], [.int (σ.1 5 1), .int x1], σ)) rfl <|
      mi_T.br (P := (σ.1 5 1) ≤ x1) (fun _ => rfl)
      (fun h1 => mi_T.go 1 (s1 := (60, [some (.ref 5), some (.int x1), u2, u3], [.int 0], σ)) rfl <|
      mi_T.fin (k1 h1) (fun _ => rfl))
      (fun h1 => mi_T.go 3 (s1 := (14, [some (.ref 5), some (.int x1), u2, u3], [.ref 1023, .int x1, .ref 5], σ)) rfl <|
      mi_T.call (as := [.ref 5, .int x1, .ref 1023]) (rest := []) (v := some (.int v1)) rfl rfl rfl rfl rfl (c1 h1) <|
      mi_T.go 3 (s1 := (20, [some (.ref 5), some (.int x1), some (.int v1), some (.int 0)], [], σ1)) rfl <|
      (k2 h1))

theorem R75_20 {X : Nat × (Nat → Int32)} {d : Nat} {r : mA mG} {σ : mG} {x1 : Int32} {x2 : Int32} {x3 : Int32} {v1 : Int32} {σ1 : mG} {v2 : Int32} {σ2 : mG}
    (k1 : x1 ≤ x3 → TT X d tb75 (some .boolean) (2, [some (.ref 5), some (.int (x1 + 1)), some (.int x2), some (.int x3)], [], σ) r)
    (k2 : ¬ (x1 ≤ x3) → x2 = (-1) → TT X d tb75 (some .boolean) (2, [some (.ref 5), some (.int (x1 + 1)), some (.int x2), some (.int x3)], [], σ) r)
    (c1 : ¬ (x1 ≤ x3) → ¬ (x2 = (-1)) → RR X d 65 [.ref 5, .int x3, .ref 1023] σ (some (.int v1), σ1))
    (c2 : ¬ (x1 ≤ x3) → ¬ (x2 = (-1)) → RR X d 70 [.ref 5, .int x2, .int v1] σ1 (some (.int v2), σ2))
    (k3 : ¬ (x1 ≤ x3) → ¬ (x2 = (-1)) → v2 = 0 → TT X d tb75 (some .boolean) (20, [some (.ref 5), some (.int x1), some (.int x2), some (.int (x3 + 1))], [], σ2) r)
    (k4 : ¬ (x1 ≤ x3) → ¬ (x2 = (-1)) → ¬ (v2 = 0) → r = (some (.int 1), σ2))
    : TT X d tb75 (some .boolean) (20, [some (.ref 5), some (.int x1), some (.int x2), some (.int x3)], [], σ) r := mi_T.go 2 (s1 := (22, [some (.ref 5), some (.int x1), some (.int x2), some (.int x3)], [.int x1, .int x3], σ)) rfl <|
      mi_T.br (P := x1 ≤ x3) (fun _ => rfl)
      (fun h1 => mi_T.go 2 (s1 := (2, [some (.ref 5), some (.int (x1 + 1)), some (.int x2), some (.int x3)], [], σ)) rfl <|
      (k1 h1))
      (fun h1 => mi_T.go 2 (s1 := (27, [some (.ref 5), some (.int x1), some (.int x2), some (.int x3)], [.int (-1), .int x2], σ)) rfl <|
      mi_T.br (P := x2 = (-1)) (fun _ => rfl)
      (fun h2 => mi_T.go 2 (s1 := (2, [some (.ref 5), some (.int (x1 + 1)), some (.int x2), some (.int x3)], [], σ)) rfl <|
      (k2 h1 h2))
      (fun h2 => mi_T.go 5 (s1 := (36, [some (.ref 5), some (.int x1), some (.int x2), some (.int x3)], [.ref 1023, .int x3, .ref 5, .int x2, .ref 5], σ)) rfl <|
      mi_T.call (as := [.ref 5, .int x3, .ref 1023]) (rest := [.int x2, .ref 5]) (v := some (.int v1)) rfl rfl rfl rfl rfl (c1 h1 h2) <|
      mi_T.call (as := [.ref 5, .int x2, .int v1]) (rest := []) (v := some (.int v2)) rfl rfl rfl rfl rfl (c2 h1 h2) <|
      mi_T.br (P := v2 = 0) (fun _ => rfl)
      (fun h3 => mi_T.go 2 (s1 := (20, [some (.ref 5), some (.int x1), some (.int x2), some (.int (x3 + 1))], [], σ2)) rfl <|
      (k3 h1 h2 h3))
      (fun h3 => mi_T.go 1 (s1 := (46, [some (.ref 5), some (.int x1), some (.int x2), some (.int x3)], [.int 1], σ2)) rfl <|
      mi_T.fin (k4 h1 h2 h3) (fun _ => rfl))))

-- AssertionGate$Message.hasSoundSigs(I)Z
theorem R76_0 {X : Nat × (Nat → Int32)} {d : Nat} {r : mA mG} {σ : mG} {x1 : Int32} {v1 : Int32} {σ1 : mG} {v2 : Int32} {σ2 : mG} {v3 : Int32} {σ3 : mG} {v4 : Int32} {σ4 : mG}
    (c1 : RR X d 57 [.ref 5, .int x1, .ref 1036] σ (some (.int v1), σ1))
    (c2 : RR X d 58 [.ref 5, .int x1, .ref 1036] σ1 (some (.int v2), σ2))
    (k1 : v1 = 0 → r = (some (.int 1), σ2))
    (k2 : ¬ (v1 = 0) → ¬ v1 = 1 → r = (some (.int 0), σ2))
    (c3 : ¬ (v1 = 0) → ¬ (¬ v1 = 1) → RR X d 66 [.ref 5, .int v2, .ref 1037] σ2 (some (.int v3), σ3))
    (k3 : ¬ (v1 = 0) → ¬ (¬ v1 = 1) → v3 = 0 → r = (some (.int 0), σ3))
    (c4 : ¬ (v1 = 0) → ¬ (¬ v1 = 1) → ¬ (v3 = 0) → RR X d 74 [.ref 5, .int v2, .ref 1038] σ3 (some (.int v4), σ4))
    (k4 : ¬ (v1 = 0) → ¬ (¬ v1 = 1) → ¬ (v3 = 0) → v4 = (-1) → r = (some (.int 0), σ4))
    (k5 : ¬ (v1 = 0) → ¬ (¬ v1 = 1) → ¬ (v3 = 0) → ¬ (v4 = (-1)) → r = (some (.int 1), σ4))
    : TT X d tb76 (some .boolean) (0, [some (.ref 5), some (.int x1), none, none], [], σ) r := mi_T.go 3 (s1 := (4, [some (.ref 5), some (.int x1), none, none], [.ref 1036, .int x1, .ref 5], σ)) rfl <|
      mi_T.call (as := [.ref 5, .int x1, .ref 1036]) (rest := []) (v := some (.int v1)) rfl rfl rfl rfl rfl (c1) <|
      mi_T.go 4 (s1 := (12, [some (.ref 5), some (.int x1), some (.int v1), none], [.ref 1036, .int x1, .ref 5], σ1)) rfl <|
      mi_T.call (as := [.ref 5, .int x1, .ref 1036]) (rest := []) (v := some (.int v2)) rfl rfl rfl rfl rfl (c2) <|
      mi_T.go 2 (s1 := (17, [some (.ref 5), some (.int x1), some (.int v1), some (.int v2)], [.int v1], σ2)) rfl <|
      mi_T.br (P := v1 = 0) (fun _ => rfl)
      (fun h1 => mi_T.go 2 (s1 := (51, [some (.ref 5), some (.int x1), some (.int v1), some (.int v2)], [.int 1], σ2)) rfl <|
      mi_T.fin (k1 h1) (fun _ => rfl))
      (fun h1 => mi_T.go 2 (s1 := (22, [some (.ref 5), some (.int x1), some (.int v1), some (.int v2)], [.int 1, .int v1], σ2)) rfl <|
      mi_T.br (P := ¬ v1 = 1) (fun _ => rfl)
      (fun h2 => mi_T.go 1 (s1 := (51, [some (.ref 5), some (.int x1), some (.int v1), some (.int v2)], [.int 0], σ2)) rfl <|
      mi_T.fin (k2 h1 h2) (fun _ => rfl))
      (fun h2 => mi_T.go 3 (s1 := (29, [some (.ref 5), some (.int x1), some (.int v1), some (.int v2)], [.ref 1037, .int v2, .ref 5], σ2)) rfl <|
      mi_T.call (as := [.ref 5, .int v2, .ref 1037]) (rest := []) (v := some (.int v3)) rfl rfl rfl rfl rfl (c3 h1 h2) <|
      mi_T.br (P := v3 = 0) (fun _ => rfl)
      (fun h3 => mi_T.go 1 (s1 := (51, [some (.ref 5), some (.int x1), some (.int v1), some (.int v2)], [.int 0], σ3)) rfl <|
      mi_T.fin (k3 h1 h2 h3) (fun _ => rfl))
      (fun h3 => mi_T.go 3 (s1 := (39, [some (.ref 5), some (.int x1), some (.int v1), some (.int v2)], [.ref 1038, .int v2, .ref 5], σ3)) rfl <|
      mi_T.call (as := [.ref 5, .int v2, .ref 1038]) (rest := []) (v := some (.int v4)) rfl rfl rfl rfl rfl (c4 h1 h2 h3) <|
      mi_T.go 1 (s1 := (43, [some (.ref 5), some (.int x1), some (.int v1), some (.int v2)], [.int (-1), .int v4], σ4)) rfl <|
      mi_T.br (P := v4 = (-1)) (fun _ => rfl)
      (fun h4 => mi_T.go 1 (s1 := (51, [some (.ref 5), some (.int x1), some (.int v1), some (.int v2)], [.int 0], σ4)) rfl <|
      mi_T.fin (k4 h1 h2 h3 h4) (fun _ => rfl))
      (fun h4 => mi_T.go 2 (s1 := (51, [some (.ref 5), some (.int x1), some (.int v1), some (.int v2)], [.int 1], σ4)) rfl <|
      mi_T.fin (k5 h1 h2 h3 h4) (fun _ => rfl)))))

