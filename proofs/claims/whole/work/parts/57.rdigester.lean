/-! Rules of AssertionGate.Digester, printed by a program: what each stretch of its code does. -/
-- AssertionGate$Digester.digestOf(I)I
theorem R86_0 {X : Nat × (Nat → Int32)} {d : Nat} {r : mA mG} {σ : mG} {x1 : Int32} {v1 : Int32} {σ1 : mG}
    (c1 : RR X d 53 [.ref 5, .int x1] (mi_uc (mi_uc σ.1 17 (upd (σ.1 17) 2 0)) 17 (upd (upd (σ.1 17) 2 0) 3 x1), σ.2) (some (.int v1), σ1))
    (b1 : ¬ v1 = 0 → mi_in x1 20 = true)
    (k1 : ¬ v1 = 0 → TT X d tb86 (some .int) (38, [some (.ref 17), some (.int x1), some (.int (σ1.1 7 x1.toNatClampNeg)), some (.int 0), none], [], σ1) r)
    (k2 : ¬ (¬ v1 = 0) → r = (some (.int (σ1.1 17 2)), σ1))
    : TT X d tb86 (some .int) (0, [some (.ref 17), some (.int x1), none, none, none], [], σ) r := mi_T.go 9 (s1 := (15, [some (.ref 17), some (.int x1), none, none, none], [.int x1, .ref 5], (mi_uc (mi_uc σ.1 17 (upd (σ.1 17) 2 0)) 17 (upd (upd (σ.1 17) 2 0) 3 x1), σ.2))) rfl <|
      mi_T.call (as := [.ref 5, .int x1]) (rest := []) (v := some (.int v1)) rfl rfl rfl rfl rfl (c1) <|
      mi_T.br (P := ¬ v1 = 0) (fun _ => rfl)
      (fun h1 => mi_T.go 4 (s1 := (34, [some (.ref 17), some (.int x1), none, none, none], [.int x1, .ref 7], σ1)) rfl <|
      mi_T.li rfl rfl (b1 h1) <|
      mi_T.go 3 (s1 := (38, [some (.ref 17), some (.int x1), some (.int (σ1.1 7 x1.toNatClampNeg)), some (.int 0), none], [], σ1)) rfl <|
      (k1 h1))
      (fun h1 => mi_T.go 2 (s1 := (25, [some (.ref 17), some (.int x1), none, none, none], [.int (σ1.1 17 2)], σ1)) rfl <|
      mi_T.fin (k2 h1) (fun _ => rfl))

theorem R86_38 {X : Nat × (Nat → Int32)} {d : Nat} {r : mA mG} {σ : mG} {x1 : Int32} {x2 : Int32} {x3 : Int32} {u4 : Option Value} {v1 : Int32} {σ1 : mG} {v2 : Int32} {σ2 : mG}
    (k1 : 400 ≤ x3 → TT X d tb86 (some .int) (169, [some (.ref 17), some (.int x1), some (.int x2), some (.int x3), u4], [], σ) r)
    (k2 : ¬ (400 ≤ x3) → x2 = (-1) → TT X d tb86 (some .int) (169, [some (.ref 17), some (.int x1), some (.int x2), some (.int x3), u4], [], σ) r)
    (b1 : ¬ (400 ≤ x3) → ¬ (x2 = (-1)) → mi_in x1 20 = true)
    (k3 : ¬ (400 ≤ x3) → ¬ (x2 = (-1)) → (σ.1 11 x1.toNatClampNeg) ≤ x2 → TT X d tb86 (some .int) (169, [some (.ref 17), some (.int x1), some (.int x2), some (.int x3), u4], [], σ) r)
    (c1 : ¬ (400 ≤ x3) → ¬ (x2 = (-1)) → ¬ ((σ.1 11 x1.toNatClampNeg) ≤ x2) → RR X d 39 [.ref 1, .int x2] σ (some (.int v1), σ1))
    (k4 : ¬ (400 ≤ x3) → ¬ (x2 = (-1)) → ¬ ((σ.1 11 x1.toNatClampNeg) ≤ x2) → ¬ v1 = 60 → TT X d tb86 (some .int) (90, [some (.ref 17), some (.int x1), some (.int x2), some (.int x3), u4], [.int (-1)], σ1) r)
    (c2 : ¬ (400 ≤ x3) → ¬ (x2 = (-1)) → ¬ ((σ.1 11 x1.toNatClampNeg) ≤ x2) → ¬ (¬ v1 = 60) → RR X d 39 [.ref 1, .int (x2 + 1)] σ1 (some (.int v2), σ2))
    (k5 : ¬ (400 ≤ x3) → ¬ (x2 = (-1)) → ¬ ((σ.1 11 x1.toNatClampNeg) ≤ x2) → ¬ (¬ v1 = 60) → TT X d tb86 (some .int) (90, [some (.ref 17), some (.int x1), some (.int x2), some (.int x3), u4], [.int v2], σ2) r)
    : TT X d tb86 (some .int) (38, [some (.ref 17), some (.int x1), some (.int x2), some (.int x3), u4], [], σ) r := mi_T.go 2 (s1 := (42, [some (.ref 17), some (.int x1), some (.int x2), some (.int x3), u4], [.int 400, .int x3], σ)) rfl <|
      mi_T.br (P := 400 ≤ x3) (fun _ => rfl)
      (fun h1 => (k1 h1))
      (fun h1 => mi_T.go 2 (s1 := (47, [some (.ref 17), some (.int x1), some (.int x2), some (.int x3), u4], [.int (-1), .int x2], σ)) rfl <|
      mi_T.br (P := x2 = (-1)) (fun _ => rfl)
      (fun h2 => (k2 h1 h2))
      (fun h2 => mi_T.go 5 (s1 := (59, [some (.ref 17), some (.int x1), some (.int x2), some (.int x3), u4], [.int x1, .ref 11, .int x2], σ)) rfl <|
      mi_T.li rfl rfl (b1 h1 h2) <|
      mi_T.br (P := (σ.1 11 x1.toNatClampNeg) ≤ x2) (fun _ => rfl)
      (fun h3 => (k3 h1 h2 h3))
      (fun h3 => mi_T.go 3 (s1 := (68, [some (.ref 17), some (.int x1), some (.int x2), some (.int x3), u4], [.int x2, .ref 1], σ)) rfl <|
      mi_T.call (as := [.ref 1, .int x2]) (rest := []) (v := some (.int v1)) rfl rfl rfl rfl rfl (c1 h1 h2 h3) <|
      mi_T.go 1 (s1 := (73, [some (.ref 17), some (.int x1), some (.int x2), some (.int x3), u4], [.int 60, .int v1], σ1)) rfl <|
      mi_T.br (P := ¬ v1 = 60) (fun _ => rfl)
      (fun h4 => mi_T.go 1 (s1 := (90, [some (.ref 17), some (.int x1), some (.int x2), some (.int x3), u4], [.int (-1)], σ1)) rfl <|
      (k4 h1 h2 h3 h4))
      (fun h4 => mi_T.go 5 (s1 := (83, [some (.ref 17), some (.int x1), some (.int x2), some (.int x3), u4], [.int (x2 + 1), .ref 1], σ1)) rfl <|
      mi_T.call (as := [.ref 1, .int (x2 + 1)]) (rest := []) (v := some (.int v2)) rfl rfl rfl rfl rfl (c2 h1 h2 h3 h4) <|
      mi_T.go 1 (s1 := (90, [some (.ref 17), some (.int x1), some (.int x2), some (.int x3), u4], [.int v2], σ2)) rfl <|
      (k5 h1 h2 h3 h4)))))

theorem R86_90 {X : Nat × (Nat → Int32)} {d : Nat} {r : mA mG} {σ : mG} {x1 : Int32} {x2 : Int32} {x3 : Int32} {u4 : Option Value} {xs0 : Int32} {v1 : Int32} {σ1 : mG} {v2 : Int32} {σ2 : mG} {v3 : Int32} {σ3 : mG} {v4 : Int32} {σ4 : mG} {v5 : Int32} {σ5 : mG} {σ6 : mG}
    (c1 : RR X d 39 [.ref 1, .int x2] σ (some (.int v1), σ1))
    (c2 : v1 = 60 → ¬ xs0 = 33 → ¬ xs0 = 47 → RR X d 88 [.ref 17, .int x1] σ1 (some (.int v2), σ2))
    (k1 : v1 = 60 → ¬ xs0 = 33 → ¬ xs0 = 47 → TT X d tb86 (some .int) (162, [some (.ref 17), some (.int x1), some (.int x2), some (.int x3), some (.int xs0)], [.int v2], σ2) r)
    (c3 : v1 = 60 → ¬ xs0 = 33 → ¬ (¬ xs0 = 47) → RR X d 87 [.ref 17, .int x2] σ1 (some (.int v3), σ3))
    (k2 : v1 = 60 → ¬ xs0 = 33 → ¬ (¬ xs0 = 47) → TT X d tb86 (some .int) (162, [some (.ref 17), some (.int x1), some (.int x2), some (.int x3), some (.int xs0)], [.int v3], σ3) r)
    (c4 : v1 = 60 → ¬ (¬ xs0 = 33) → RR X d 49 [.ref 1, .int x2] σ1 (some (.int v4), σ4))
    (k3 : v1 = 60 → ¬ (¬ xs0 = 33) → TT X d tb86 (some .int) (163, [some (.ref 17), some (.int x1), some (.int v4), some (.int x3), some (.int xs0)], [], σ4) r)
    (c5 : ¬ (v1 = 60) → RR X d 39 [.ref 1, .int x2] σ1 (some (.int v5), σ5))
    (c6 : ¬ (v1 = 60) → RR X d 92 [.ref 17, .int v5] σ5 (none, σ6))
    (k4 : ¬ (v1 = 60) → TT X d tb86 (some .int) (163, [some (.ref 17), some (.int x1), some (.int (x2 + 1)), some (.int x3), some (.int xs0)], [], σ6) r)
    : TT X d tb86 (some .int) (90, [some (.ref 17), some (.int x1), some (.int x2), some (.int x3), u4], [.int xs0], σ) r := mi_T.go 4 (s1 := (97, [some (.ref 17), some (.int x1), some (.int x2), some (.int x3), some (.int xs0)], [.int x2, .ref 1], σ)) rfl <|
      mi_T.call (as := [.ref 1, .int x2]) (rest := []) (v := some (.int v1)) rfl rfl rfl rfl rfl (c1) <|
      mi_T.go 1 (s1 := (102, [some (.ref 17), some (.int x1), some (.int x2), some (.int x3), some (.int xs0)], [.int 60, .int v1], σ1)) rfl <|
      mi_T.br (P := v1 = 60) (fun _ => rfl)
      (fun h1 => mi_T.go 2 (s1 := (127, [some (.ref 17), some (.int x1), some (.int x2), some (.int x3), some (.int xs0)], [.int 33, .int xs0], σ1)) rfl <|
      mi_T.br (P := ¬ xs0 = 33) (fun _ => rfl)
      (fun h2 => mi_T.go 2 (s1 := (146, [some (.ref 17), some (.int x1), some (.int x2), some (.int x3), some (.int xs0)], [.int 47, .int xs0], σ1)) rfl <|
      mi_T.br (P := ¬ xs0 = 47) (fun _ => rfl)
      (fun h3 => mi_T.go 2 (s1 := (159, [some (.ref 17), some (.int x1), some (.int x2), some (.int x3), some (.int xs0)], [.int x1, .ref 17], σ1)) rfl <|
      mi_T.call (as := [.ref 17, .int x1]) (rest := []) (v := some (.int v2)) rfl rfl rfl rfl rfl (c2 h1 h2 h3) <|
      (k1 h1 h2 h3))
      (fun h3 => mi_T.go 2 (s1 := (151, [some (.ref 17), some (.int x1), some (.int x2), some (.int x3), some (.int xs0)], [.int x2, .ref 17], σ1)) rfl <|
      mi_T.call (as := [.ref 17, .int x2]) (rest := []) (v := some (.int v3)) rfl rfl rfl rfl rfl (c3 h1 h2 h3) <|
      mi_T.go 1 (s1 := (162, [some (.ref 17), some (.int x1), some (.int x2), some (.int x3), some (.int xs0)], [.int v3], σ3)) rfl <|
      (k2 h1 h2 h3)))
      (fun h2 => mi_T.go 3 (s1 := (135, [some (.ref 17), some (.int x1), some (.int x2), some (.int x3), some (.int xs0)], [.int x2, .ref 1], σ1)) rfl <|
      mi_T.call (as := [.ref 1, .int x2]) (rest := []) (v := some (.int v4)) rfl rfl rfl rfl rfl (c4 h1 h2) <|
      mi_T.go 2 (s1 := (163, [some (.ref 17), some (.int x1), some (.int v4), some (.int x3), some (.int xs0)], [], σ4)) rfl <|
      (k3 h1 h2)))
      (fun h1 => mi_T.go 4 (s1 := (111, [some (.ref 17), some (.int x1), some (.int x2), some (.int x3), some (.int xs0)], [.int x2, .ref 1, .ref 17], σ1)) rfl <|
      mi_T.call (as := [.ref 1, .int x2]) (rest := [.ref 17]) (v := some (.int v5)) rfl rfl rfl rfl rfl (c5 h1) <|
      mi_T.call (as := [.ref 17, .int v5]) (rest := []) (v := none) rfl rfl rfl rfl rfl (c6 h1) <|
      mi_T.go 2 (s1 := (163, [some (.ref 17), some (.int x1), some (.int (x2 + 1)), some (.int x3), some (.int xs0)], [], σ6)) rfl <|
      (k4 h1))

theorem R86_162 {X : Nat × (Nat → Int32)} {d : Nat} {r : mA mG} {σ : mG} {x1 : Int32} {x2 : Int32} {x3 : Int32} {x4 : Int32} {xs0 : Int32}
    (k1 : TT X d tb86 (some .int) (163, [some (.ref 17), some (.int x1), some (.int xs0), some (.int x3), some (.int x4)], [], σ) r)
    : TT X d tb86 (some .int) (162, [some (.ref 17), some (.int x1), some (.int x2), some (.int x3), some (.int x4)], [.int xs0], σ) r := mi_T.go 1 (s1 := (163, [some (.ref 17), some (.int x1), some (.int xs0), some (.int x3), some (.int x4)], [], σ)) rfl <|
      k1

theorem R86_163 {X : Nat × (Nat → Int32)} {d : Nat} {r : mA mG} {σ : mG} {x1 : Int32} {x2 : Int32} {x3 : Int32} {x4 : Int32}
    (k1 : TT X d tb86 (some .int) (38, [some (.ref 17), some (.int x1), some (.int x2), some (.int (x3 + 1)), some (.int x4)], [], σ) r)
    : TT X d tb86 (some .int) (163, [some (.ref 17), some (.int x1), some (.int x2), some (.int x3), some (.int x4)], [], σ) r := mi_T.go 2 (s1 := (38, [some (.ref 17), some (.int x1), some (.int x2), some (.int (x3 + 1)), some (.int x4)], [], σ)) rfl <|
      k1

theorem R86_169 {X : Nat × (Nat → Int32)} {d : Nat} {r : mA mG} {σ : mG} {x1 : Int32} {x2 : Int32} {x3 : Int32} {u4 : Option Value}
    (k1 : r = (some (.int (σ.1 17 2)), σ))
    : TT X d tb86 (some .int) (169, [some (.ref 17), some (.int x1), some (.int x2), some (.int x3), u4], [], σ) r := mi_T.go 2 (s1 := (173, [some (.ref 17), some (.int x1), some (.int x2), some (.int x3), u4], [.int (σ.1 17 2)], σ)) rfl <|
      mi_T.fin (k1) (fun _ => rfl)

-- AssertionGate$Digester.foldEndTag(I)I
theorem R87_0 {X : Nat × (Nat → Int32)} {d : Nat} {r : mA mG} {σ : mG} {x1 : Int32} {v1 : Int32} {σ1 : mG} {σ2 : mG} {v2 : Int32} {σ3 : mG}
    (c1 : RR X d 46 [.ref 1, .int (x1 + 2)] σ (some (.int v1), σ1))
    (c2 : RR X d 90 [.ref 17, .int (x1 + 2), .int v1] σ1 (none, σ2))
    (c3 : RR X d 47 [.ref 1, .int v1] σ2 (some (.int v2), σ3))
    (k1 : r = (some (.int (v2 + 1)), σ3))
    : TT X d tb87 (some .int) (0, [some (.ref 17), some (.int x1), none], [], σ) r := mi_T.go 5 (s1 := (7, [some (.ref 17), some (.int x1), none], [.int (x1 + 2), .ref 1], σ)) rfl <|
      mi_T.call (as := [.ref 1, .int (x1 + 2)]) (rest := []) (v := some (.int v1)) rfl rfl rfl rfl rfl (c1) <|
      mi_T.go 6 (s1 := (16, [some (.ref 17), some (.int x1), some (.int v1)], [.int v1, .int (x1 + 2), .ref 17], σ1)) rfl <|
      mi_T.call (as := [.ref 17, .int (x1 + 2), .int v1]) (rest := []) (v := none) rfl rfl rfl rfl rfl (c2) <|
      mi_T.go 3 (s1 := (24, [some (.ref 17), some (.int x1), some (.int v1)], [.int v1, .ref 1], σ2)) rfl <|
      mi_T.call (as := [.ref 1, .int v1]) (rest := []) (v := some (.int v2)) rfl rfl rfl rfl rfl (c3) <|
      mi_T.go 2 (s1 := (29, [some (.ref 17), some (.int x1), some (.int v1)], [.int (v2 + 1)], σ3)) rfl <|
      mi_T.fin (k1) (fun _ => rfl)

-- AssertionGate$Digester.foldStartTag(I)I
set_option maxRecDepth 100000 in
theorem R88_0 {X : Nat × (Nat → Int32)} {d : Nat} {r : mA mG} {σ : mG} {x1 : Int32} {v1 : Int32} {σ1 : mG} {v2 : Int32} {σ2 : mG} {σ3 : mG}
    (c1 : RR X d 53 [.ref 5, .int (σ.1 17 3)] σ (some (.int v1), σ1))
    (b1 : ¬ v1 = 0 → mi_in (σ.1 17 3) 20 = true)
    (k1 : ¬ v1 = 0 → ¬ (σ1.1 6 ((σ.1 17 3).toNatClampNeg)) = x1 → TT X d tb88 (some .int) (59, [some (.ref 17), some (.int x1), some (.int (σ.1 17 3)), none, none], [], σ1) r)
    (c2 : ¬ v1 = 0 → ¬ (¬ (σ1.1 6 ((σ.1 17 3).toNatClampNeg)) = x1) → RR X d 56 [.ref 5, .int (σ.1 17 3), .ref 1016] σ1 (some (.int v2), σ2))
    (k2 : ¬ v1 = 0 → ¬ (¬ (σ1.1 6 ((σ.1 17 3).toNatClampNeg)) = x1) → v2 = 0 → TT X d tb88 (some .int) (59, [some (.ref 17), some (.int x1), some (.int (σ.1 17 3)), none, none], [], σ2) r)
    (c3 : ¬ v1 = 0 → ¬ (¬ (σ1.1 6 ((σ.1 17 3).toNatClampNeg)) = x1) → ¬ (v2 = 0) → RR X d 89 [.ref 17, .int (σ.1 17 3)] σ2 (none, σ3))
    (b2 : ¬ v1 = 0 → ¬ (¬ (σ1.1 6 ((σ.1 17 3).toNatClampNeg)) = x1) → ¬ (v2 = 0) → mi_in (σ.1 17 3) 20 = true)
    (k3 : ¬ v1 = 0 → ¬ (¬ (σ1.1 6 ((σ.1 17 3).toNatClampNeg)) = x1) → ¬ (v2 = 0) → r = (some (.int (σ3.1 11 ((σ.1 17 3).toNatClampNeg))), σ3))
    (k4 : ¬ (¬ v1 = 0) → r = (some (.int (-1)), σ1))
    : TT X d tb88 (some .int) (0, [some (.ref 17), some (.int x1), none, none, none], [], σ) r := mi_T.go 6 (s1 := (10, [some (.ref 17), some (.int x1), some (.int (σ.1 17 3)), none, none], [.int (σ.1 17 3), .ref 5], σ)) rfl <|
      mi_T.call (as := [.ref 5, .int (σ.1 17 3)]) (rest := []) (v := some (.int v1)) rfl rfl rfl rfl rfl (c1) <|
      mi_T.br (P := ¬ v1 = 0) (fun _ => rfl)
      (fun h1 => mi_T.go 4 (s1 := (26, [some (.ref 17), some (.int x1), some (.int (σ.1 17 3)), none, none], [.int (σ.1 17 3), .ref 6], σ1)) rfl <|
      mi_T.li rfl rfl (b1 h1) <|
      mi_T.go 1 (s1 := (28, [some (.ref 17), some (.int x1), some (.int (σ.1 17 3)), none, none], [.int x1, .int (σ1.1 6 ((σ.1 17 3).toNatClampNeg))], σ1)) rfl <|
      mi_T.br (P := ¬ (σ1.1 6 ((σ.1 17 3).toNatClampNeg)) = x1) (fun _ => rfl)
      (fun h2 => (k1 h1 h2))
      (fun h2 => mi_T.go 4 (s1 := (38, [some (.ref 17), some (.int x1), some (.int (σ.1 17 3)), none, none], [.ref 1016, .int (σ.1 17 3), .ref 5], σ1)) rfl <|
      mi_T.call (as := [.ref 5, .int (σ.1 17 3), .ref 1016]) (rest := []) (v := some (.int v2)) rfl rfl rfl rfl rfl (c2 h1 h2) <|
      mi_T.br (P := v2 = 0) (fun _ => rfl)
      (fun h3 => (k2 h1 h2 h3))
      (fun h3 => mi_T.go 2 (s1 := (46, [some (.ref 17), some (.int x1), some (.int (σ.1 17 3)), none, none], [.int (σ.1 17 3), .ref 17], σ2)) rfl <|
      mi_T.call (as := [.ref 17, .int (σ.1 17 3)]) (rest := []) (v := none) rfl rfl rfl rfl rfl (c3 h1 h2 h3) <|
      mi_T.go 4 (s1 := (57, [some (.ref 17), some (.int x1), some (.int (σ.1 17 3)), none, none], [.int (σ.1 17 3), .ref 11], σ3)) rfl <|
      mi_T.li rfl rfl (b2 h1 h2 h3) <|
      mi_T.fin (k3 h1 h2 h3) (fun _ => rfl))))
      (fun h1 => mi_T.go 1 (s1 := (17, [some (.ref 17), some (.int x1), some (.int (σ.1 17 3)), none, none], [.int (-1)], σ1)) rfl <|
      mi_T.fin (k4 h1) (fun _ => rfl))

set_option maxRecDepth 100000 in
theorem R88_59 {X : Nat × (Nat → Int32)} {d : Nat} {r : mA mG} {σ : mG} {x1 : Int32} {x2 : Int32} {σ1 : mG} {σ2 : mG}
    (c1 : RR X d 92 [.ref 17, .int 60] (mi_uc σ.1 17 (upd (σ.1 17) 3 ((σ.1 17 3) + 1)), σ.2) (none, σ1))
    (b1 : mi_in x2 20 = true)
    (b2 : mi_in x2 20 = true)
    (c2 : RR X d 91 [.ref 17, .int ((σ1.1 7 x2.toNatClampNeg) + 1), .int (σ1.1 8 x2.toNatClampNeg)] σ1 (none, σ2))
    (k1 : TT X d tb88 (some .int) (106, [some (.ref 17), some (.int x1), some (.int x2), some (.int (x2 * 4)), some (.int (x2 * 4))], [], σ2) r)
    : TT X d tb88 (some .int) (59, [some (.ref 17), some (.int x1), some (.int x2), none, none], [], σ) r := mi_T.go 8 (s1 := (72, [some (.ref 17), some (.int x1), some (.int x2), none, none], [.int 60, .ref 17], (mi_uc σ.1 17 (upd (σ.1 17) 3 ((σ.1 17 3) + 1)), σ.2))) rfl <|
      mi_T.call (as := [.ref 17, .int 60]) (rest := []) (v := none) rfl rfl rfl rfl rfl (c1) <|
      mi_T.go 5 (s1 := (84, [some (.ref 17), some (.int x1), some (.int x2), none, none], [.int x2, .ref 7, .ref 17], σ1)) rfl <|
      mi_T.li rfl rfl (b1) <|
      mi_T.go 6 (s1 := (95, [some (.ref 17), some (.int x1), some (.int x2), none, none], [.int x2, .ref 8, .int ((σ1.1 7 x2.toNatClampNeg) + 1), .ref 17], σ1)) rfl <|
      mi_T.li rfl rfl (b2) <|
      mi_T.call (as := [.ref 17, .int ((σ1.1 7 x2.toNatClampNeg) + 1), .int (σ1.1 8 x2.toNatClampNeg)]) (rest := []) (v := none) rfl rfl rfl rfl rfl (c2) <|
      mi_T.go 6 (s1 := (106, [some (.ref 17), some (.int x1), some (.int x2), some (.int (x2 * 4)), some (.int (x2 * 4))], [], σ2)) rfl <|
      k1

set_option maxRecDepth 100000 in
theorem R88_106 {X : Nat × (Nat → Int32)} {d : Nat} {r : mA mG} {σ : mG} {x1 : Int32} {x2 : Int32} {x3 : Int32} {x4 : Int32} {σ1 : mG} {σ2 : mG} {σ3 : mG} {σ4 : mG}
    (b1 : mi_in x2 20 = true)
    (c1 : (x3 + (σ.1 12 x2.toNatClampNeg)) ≤ x4 → RR X d 92 [.ref 17, .int 62] σ (none, σ1))
    (b2 : (x3 + (σ.1 12 x2.toNatClampNeg)) ≤ x4 → mi_in x2 20 = true)
    (b3 : (x3 + (σ.1 12 x2.toNatClampNeg)) ≤ x4 → mi_in x2 20 = true)
    (k1 : (x3 + (σ.1 12 x2.toNatClampNeg)) ≤ x4 → ¬ (σ1.1 9 x2.toNatClampNeg) = (σ1.1 11 x2.toNatClampNeg) → TT X d tb88 (some .int) (211, [some (.ref 17), some (.int x1), some (.int x2), some (.int x3), some (.int x4)], [], σ1) r)
    (b4 : (x3 + (σ.1 12 x2.toNatClampNeg)) ≤ x4 → ¬ (¬ (σ1.1 9 x2.toNatClampNeg) = (σ1.1 11 x2.toNatClampNeg)) → mi_in x2 20 = true)
    (b5 : (x3 + (σ.1 12 x2.toNatClampNeg)) ≤ x4 → ¬ (¬ (σ1.1 9 x2.toNatClampNeg) = (σ1.1 11 x2.toNatClampNeg)) → mi_in x2 20 = true)
    (c2 : (x3 + (σ.1 12 x2.toNatClampNeg)) ≤ x4 → ¬ (¬ (σ1.1 9 x2.toNatClampNeg) = (σ1.1 11 x2.toNatClampNeg)) → RR X d 90 [.ref 17, .int ((σ1.1 7 x2.toNatClampNeg) + 1), .int (σ1.1 8 x2.toNatClampNeg)] σ1 (none, σ2))
    (k2 : (x3 + (σ.1 12 x2.toNatClampNeg)) ≤ x4 → ¬ (¬ (σ1.1 9 x2.toNatClampNeg) = (σ1.1 11 x2.toNatClampNeg)) → TT X d tb88 (some .int) (211, [some (.ref 17), some (.int x1), some (.int x2), some (.int x3), some (.int x4)], [], σ2) r)
    (c3 : ¬ ((x3 + (σ.1 12 x2.toNatClampNeg)) ≤ x4) → RR X d 92 [.ref 17, .int 32] σ (none, σ3))
    (b6 : ¬ ((x3 + (σ.1 12 x2.toNatClampNeg)) ≤ x4) → mi_in x4 80 = true)
    (b7 : ¬ ((x3 + (σ.1 12 x2.toNatClampNeg)) ≤ x4) → mi_in x4 80 = true)
    (c4 : ¬ ((x3 + (σ.1 12 x2.toNatClampNeg)) ≤ x4) → RR X d 91 [.ref 17, .int (σ3.1 13 x4.toNatClampNeg), .int ((σ3.1 15 x4.toNatClampNeg) + 1)] σ3 (none, σ4))
    (k3 : ¬ ((x3 + (σ.1 12 x2.toNatClampNeg)) ≤ x4) → TT X d tb88 (some .int) (106, [some (.ref 17), some (.int x1), some (.int x2), some (.int x3), some (.int (x4 + 1))], [], σ4) r)
    : TT X d tb88 (some .int) (106, [some (.ref 17), some (.int x1), some (.int x2), some (.int x3), some (.int x4)], [], σ) r := mi_T.go 6 (s1 := (117, [some (.ref 17), some (.int x1), some (.int x2), some (.int x3), some (.int x4)], [.int x2, .ref 12, .int x3, .int x4], σ)) rfl <|
      mi_T.li rfl rfl (b1) <|
      mi_T.go 1 (s1 := (119, [some (.ref 17), some (.int x1), some (.int x2), some (.int x3), some (.int x4)], [.int (x3 + (σ.1 12 x2.toNatClampNeg)), .int x4], σ)) rfl <|
      mi_T.br (P := (x3 + (σ.1 12 x2.toNatClampNeg)) ≤ x4) (fun _ => rfl)
      (fun h1 => mi_T.go 2 (s1 := (163, [some (.ref 17), some (.int x1), some (.int x2), some (.int x3), some (.int x4)], [.int 62, .ref 17], σ)) rfl <|
      mi_T.call (as := [.ref 17, .int 62]) (rest := []) (v := none) rfl rfl rfl rfl rfl (c1 h1) <|
      mi_T.go 4 (s1 := (174, [some (.ref 17), some (.int x1), some (.int x2), some (.int x3), some (.int x4)], [.int x2, .ref 9], σ1)) rfl <|
      mi_T.li rfl rfl (b2 h1) <|
      mi_T.go 4 (s1 := (183, [some (.ref 17), some (.int x1), some (.int x2), some (.int x3), some (.int x4)], [.int x2, .ref 11, .int (σ1.1 9 x2.toNatClampNeg)], σ1)) rfl <|
      mi_T.li rfl rfl (b3 h1) <|
      mi_T.br (P := ¬ (σ1.1 9 x2.toNatClampNeg) = (σ1.1 11 x2.toNatClampNeg)) (fun _ => rfl)
      (fun h2 => (k1 h1 h2))
      (fun h2 => mi_T.go 5 (s1 := (196, [some (.ref 17), some (.int x1), some (.int x2), some (.int x3), some (.int x4)], [.int x2, .ref 7, .ref 17], σ1)) rfl <|
      mi_T.li rfl rfl (b4 h1 h2) <|
      mi_T.go 6 (s1 := (207, [some (.ref 17), some (.int x1), some (.int x2), some (.int x3), some (.int x4)], [.int x2, .ref 8, .int ((σ1.1 7 x2.toNatClampNeg) + 1), .ref 17], σ1)) rfl <|
      mi_T.li rfl rfl (b5 h1 h2) <|
      mi_T.call (as := [.ref 17, .int ((σ1.1 7 x2.toNatClampNeg) + 1), .int (σ1.1 8 x2.toNatClampNeg)]) (rest := []) (v := none) rfl rfl rfl rfl rfl (c2 h1 h2) <|
      (k2 h1 h2)))
      (fun h1 => mi_T.go 2 (s1 := (125, [some (.ref 17), some (.int x1), some (.int x2), some (.int x3), some (.int x4)], [.int 32, .ref 17], σ)) rfl <|
      mi_T.call (as := [.ref 17, .int 32]) (rest := []) (v := none) rfl rfl rfl rfl rfl (c3 h1) <|
      mi_T.go 5 (s1 := (138, [some (.ref 17), some (.int x1), some (.int x2), some (.int x3), some (.int x4)], [.int x4, .ref 13, .ref 17], σ3)) rfl <|
      mi_T.li rfl rfl (b6 h1) <|
      mi_T.go 4 (s1 := (148, [some (.ref 17), some (.int x1), some (.int x2), some (.int x3), some (.int x4)], [.int x4, .ref 15, .int (σ3.1 13 x4.toNatClampNeg), .ref 17], σ3)) rfl <|
      mi_T.li rfl rfl (b7 h1) <|
      mi_T.go 2 (s1 := (151, [some (.ref 17), some (.int x1), some (.int x2), some (.int x3), some (.int x4)], [.int ((σ3.1 15 x4.toNatClampNeg) + 1), .int (σ3.1 13 x4.toNatClampNeg), .ref 17], σ3)) rfl <|
      mi_T.call (as := [.ref 17, .int (σ3.1 13 x4.toNatClampNeg), .int ((σ3.1 15 x4.toNatClampNeg) + 1)]) (rest := []) (v := none) rfl rfl rfl rfl rfl (c4 h1) <|
      mi_T.go 2 (s1 := (106, [some (.ref 17), some (.int x1), some (.int x2), some (.int x3), some (.int (x4 + 1))], [], σ4)) rfl <|
      (k3 h1))

set_option maxRecDepth 100000 in
theorem R88_211 {X : Nat × (Nat → Int32)} {d : Nat} {r : mA mG} {σ : mG} {x1 : Int32} {x2 : Int32} {x3 : Int32} {x4 : Int32}
    (b1 : mi_in x2 20 = true)
    (k1 : r = (some (.int (σ.1 9 x2.toNatClampNeg)), σ))
    : TT X d tb88 (some .int) (211, [some (.ref 17), some (.int x1), some (.int x2), some (.int x3), some (.int x4)], [], σ) r := mi_T.go 4 (s1 := (219, [some (.ref 17), some (.int x1), some (.int x2), some (.int x3), some (.int x4)], [.int x2, .ref 9], σ)) rfl <|
      mi_T.li rfl rfl (b1) <|
      mi_T.fin (k1) (fun _ => rfl)

-- AssertionGate$Digester.passOver(I)V
theorem R89_0 {X : Nat × (Nat → Int32)} {d : Nat} {r : mA mG} {σ : mG} {x1 : Int32}
    (b1 : mi_in x1 20 = true)
    (k1 : TT X d tb89 none (10, [some (.ref 17), some (.int x1), some (.int (σ.1 11 x1.toNatClampNeg))], [], σ) r)
    : TT X d tb89 none (0, [some (.ref 17), some (.int x1), none], [], σ) r := mi_T.go 4 (s1 := (8, [some (.ref 17), some (.int x1), none], [.int x1, .ref 11], σ)) rfl <|
      mi_T.li rfl rfl (b1) <|
      mi_T.go 1 (s1 := (10, [some (.ref 17), some (.int x1), some (.int (σ.1 11 x1.toNatClampNeg))], [], σ)) rfl <|
      k1

theorem R89_10 {X : Nat × (Nat → Int32)} {d : Nat} {r : mA mG} {σ : mG} {x1 : Int32} {x2 : Int32}
    (k1 : (σ.1 5 1) ≤ (σ.1 17 3) → r = (none, σ))
    (b1 : ¬ ((σ.1 5 1) ≤ (σ.1 17 3)) → mi_in (σ.1 17 3) 20 = true)
    (k2 : ¬ ((σ.1 5 1) ≤ (σ.1 17 3)) → x2 ≤ (σ.1 7 ((σ.1 17 3).toNatClampNeg)) → r = (none, σ))
    (k3 : ¬ ((σ.1 5 1) ≤ (σ.1 17 3)) → ¬ (x2 ≤ (σ.1 7 ((σ.1 17 3).toNatClampNeg))) → TT X d tb89 none (10, [some (.ref 17), some (.int x1), some (.int x2)], [], (mi_uc σ.1 17 (upd (σ.1 17) 3 ((σ.1 17 3) + 1)), σ.2)) r)
    : TT X d tb89 none (10, [some (.ref 17), some (.int x1), some (.int x2)], [], σ) r := mi_T.go 5 (s1 := (21, [some (.ref 17), some (.int x1), some (.int x2)], [.int (σ.1 5 1), .int (σ.1 17 3)], σ)) rfl <|
      mi_T.br (P := (σ.1 5 1) ≤ (σ.1 17 3)) (fun _ => rfl)
      (fun h1 => mi_T.fin (k1 h1) (fun _ => rfl))
      (fun h1 => mi_T.go 5 (s1 := (35, [some (.ref 17), some (.int x1), some (.int x2)], [.int (σ.1 17 3), .ref 7], σ)) rfl <|
      mi_T.li rfl rfl (b1 h1) <|
      mi_T.go 1 (s1 := (37, [some (.ref 17), some (.int x1), some (.int x2)], [.int x2, .int (σ.1 7 ((σ.1 17 3).toNatClampNeg))], σ)) rfl <|
      mi_T.br (P := x2 ≤ (σ.1 7 ((σ.1 17 3).toNatClampNeg))) (fun _ => rfl)
      (fun h2 => mi_T.fin (k2 h1 h2) (fun _ => rfl))
      (fun h2 => mi_T.go 7 (s1 := (10, [some (.ref 17), some (.int x1), some (.int x2)], [], (mi_uc σ.1 17 (upd (σ.1 17) 3 ((σ.1 17 3) + 1)), σ.2))) rfl <|
      (k3 h1 h2)))

-- AssertionGate$Digester.foldEnd(II)V
theorem R90_0 {X : Nat × (Nat → Int32)} {d : Nat} {r : mA mG} {σ : mG} {x1 : Int32} {x2 : Int32} {σ1 : mG} {σ2 : mG} {σ3 : mG} {σ4 : mG}
    (c1 : RR X d 92 [.ref 17, .int 60] σ (none, σ1))
    (c2 : RR X d 92 [.ref 17, .int 47] σ1 (none, σ2))
    (c3 : RR X d 91 [.ref 17, .int x1, .int x2] σ2 (none, σ3))
    (c4 : RR X d 92 [.ref 17, .int 62] σ3 (none, σ4))
    (k1 : r = (none, σ4))
    : TT X d tb90 none (0, [some (.ref 17), some (.int x1), some (.int x2)], [], σ) r := mi_T.go 2 (s1 := (3, [some (.ref 17), some (.int x1), some (.int x2)], [.int 60, .ref 17], σ)) rfl <|
      mi_T.call (as := [.ref 17, .int 60]) (rest := []) (v := none) rfl rfl rfl rfl rfl (c1) <|
      mi_T.go 2 (s1 := (9, [some (.ref 17), some (.int x1), some (.int x2)], [.int 47, .ref 17], σ1)) rfl <|
      mi_T.call (as := [.ref 17, .int 47]) (rest := []) (v := none) rfl rfl rfl rfl rfl (c2) <|
      mi_T.go 3 (s1 := (15, [some (.ref 17), some (.int x1), some (.int x2)], [.int x2, .int x1, .ref 17], σ2)) rfl <|
      mi_T.call (as := [.ref 17, .int x1, .int x2]) (rest := []) (v := none) rfl rfl rfl rfl rfl (c3) <|
      mi_T.go 2 (s1 := (21, [some (.ref 17), some (.int x1), some (.int x2)], [.int 62, .ref 17], σ3)) rfl <|
      mi_T.call (as := [.ref 17, .int 62]) (rest := []) (v := none) rfl rfl rfl rfl rfl (c4) <|
      mi_T.fin (k1) (fun _ => rfl)

-- AssertionGate$Digester.foldSpan(II)V
theorem R91_0 {X : Nat × (Nat → Int32)} {d : Nat} {r : mA mG} {σ : mG} {x1 : Int32} {x2 : Int32}
    (k1 : TT X d tb91 none (2, [some (.ref 17), some (.int x1), some (.int x2), some (.int x1)], [], σ) r)
    : TT X d tb91 none (0, [some (.ref 17), some (.int x1), some (.int x2), none], [], σ) r := mi_T.go 2 (s1 := (2, [some (.ref 17), some (.int x1), some (.int x2), some (.int x1)], [], σ)) rfl <|
      k1

theorem R91_2 {X : Nat × (Nat → Int32)} {d : Nat} {r : mA mG} {σ : mG} {x1 : Int32} {x2 : Int32} {x3 : Int32} {v1 : Int32} {σ1 : mG} {σ2 : mG}
    (k1 : x2 ≤ x3 → r = (none, σ))
    (c1 : ¬ (x2 ≤ x3) → RR X d 39 [.ref 1, .int x3] σ (some (.int v1), σ1))
    (c2 : ¬ (x2 ≤ x3) → RR X d 92 [.ref 17, .int v1] σ1 (none, σ2))
    (k2 : ¬ (x2 ≤ x3) → TT X d tb91 none (2, [some (.ref 17), some (.int x1), some (.int x2), some (.int (x3 + 1))], [], σ2) r)
    : TT X d tb91 none (2, [some (.ref 17), some (.int x1), some (.int x2), some (.int x3)], [], σ) r := mi_T.go 2 (s1 := (4, [some (.ref 17), some (.int x1), some (.int x2), some (.int x3)], [.int x2, .int x3], σ)) rfl <|
      mi_T.br (P := x2 ≤ x3) (fun _ => rfl)
      (fun h1 => mi_T.fin (k1 h1) (fun _ => rfl))
      (fun h1 => mi_T.go 4 (s1 := (13, [some (.ref 17), some (.int x1), some (.int x2), some (.int x3)], [.int x3, .ref 1, .ref 17], σ)) rfl <|
      mi_T.call (as := [.ref 1, .int x3]) (rest := [.ref 17]) (v := some (.int v1)) rfl rfl rfl rfl rfl (c1 h1) <|
      mi_T.call (as := [.ref 17, .int v1]) (rest := []) (v := none) rfl rfl rfl rfl rfl (c2 h1) <|
      mi_T.go 2 (s1 := (2, [some (.ref 17), some (.int x1), some (.int x2), some (.int (x3 + 1))], [], σ2)) rfl <|
      (k2 h1))

-- AssertionGate$Digester.fold(I)V
theorem R92_0 {X : Nat × (Nat → Int32)} {d : Nat} {r : mA mG} {σ : mG} {x1 : Int32}
    (k1 : r = (none, (mi_uc σ.1 17 (upd (σ.1 17) 2 ((((σ.1 17 2) * 257) + x1) - (((σ.1 17 2) * 257) + x1) / 65521 * 65521)), σ.2)))
    : TT X d tb92 none (0, [some (.ref 17), some (.int x1)], [], σ) r := mi_T.go 8 (s1 := (13, [some (.ref 17), some (.int x1)], [.int 65521, .int (((σ.1 17 2) * 257) + x1), .ref 17], σ)) rfl <|
      mi_T.irem rfl (by decide) <|
      mi_T.go 1 (s1 := (17, [some (.ref 17), some (.int x1)], [], (mi_uc σ.1 17 (upd (σ.1 17) 2 ((((σ.1 17 2) * 257) + x1) - (((σ.1 17 2) * 257) + x1) / 65521 * 65521)), σ.2))) rfl <|
      mi_T.fin (k1) (fun _ => rfl)

