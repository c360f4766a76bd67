/-! Rules of AssertionGateModel, printed by a program: what each stretch of its code does. -/
-- AssertionGateModel.issuer(I)Z
theorem R125_0 {X : Nat × (Nat → Int32)} {d : Nat} {r : mA mG} {σ : mG} {x0 : Int32}
    (k1 : x0 < 0 → r = (some (.int 0), σ))
    (k2 : ¬ (x0 < 0) → 3 < x0 → r = (some (.int 0), σ))
    (k3 : ¬ (x0 < 0) → ¬ (3 < x0) → r = (some (.int 1), σ))
    : TT X d tb125 (some .boolean) (0, [some (.int x0)], [], σ) r := mi_T.go 1 (s1 := (1, [some (.int x0)], [.int x0], σ)) rfl <|
      mi_T.br (P := x0 < 0) (fun _ => rfl)
      (fun h1 => mi_T.go 1 (s1 := (14, [some (.int x0)], [.int 0], σ)) rfl <|
      mi_T.fin (k1 h1) (fun _ => rfl))
      (fun h1 => mi_T.go 2 (s1 := (6, [some (.int x0)], [.int 3, .int x0], σ)) rfl <|
      mi_T.br (P := 3 < x0) (fun _ => rfl)
      (fun h2 => mi_T.go 1 (s1 := (14, [some (.int x0)], [.int 0], σ)) rfl <|
      mi_T.fin (k2 h1 h2) (fun _ => rfl))
      (fun h2 => mi_T.go 2 (s1 := (14, [some (.int x0)], [.int 1], σ)) rfl <|
      mi_T.fin (k3 h1 h2) (fun _ => rfl)))

-- AssertionGateModel.numbers(II)Z
theorem R126_0 {X : Nat × (Nat → Int32)} {d : Nat} {r : mA mG} {σ : mG} {x0 : Int32} {x1 : Int32}
    (k1 : x0 < 65521 → r = (some (.int 0), σ))
    (k2 : ¬ (x0 < 65521) → 1000000 < x0 → r = (some (.int 0), σ))
    (k3 : ¬ (x0 < 65521) → ¬ (1000000 < x0) → x1 < 1 → r = (some (.int 0), σ))
    (k4 : ¬ (x0 < 65521) → ¬ (1000000 < x0) → ¬ (x1 < 1) → 1000000 < x1 → r = (some (.int 0), σ))
    (k5 : ¬ (x0 < 65521) → ¬ (1000000 < x0) → ¬ (x1 < 1) → ¬ (1000000 < x1) → r = (some (.int 1), σ))
    : TT X d tb126 (some .boolean) (0, [some (.int x0), some (.int x1)], [], σ) r := mi_T.go 2 (s1 := (3, [some (.int x0), some (.int x1)], [.int 65521, .int x0], σ)) rfl <|
      mi_T.br (P := x0 < 65521) (fun _ => rfl)
      (fun h1 => mi_T.go 1 (s1 := (28, [some (.int x0), some (.int x1)], [.int 0], σ)) rfl <|
      mi_T.fin (k1 h1) (fun _ => rfl))
      (fun h1 => mi_T.go 2 (s1 := (9, [some (.int x0), some (.int x1)], [.int 1000000, .int x0], σ)) rfl <|
      mi_T.br (P := 1000000 < x0) (fun _ => rfl)
      (fun h2 => mi_T.go 1 (s1 := (28, [some (.int x0), some (.int x1)], [.int 0], σ)) rfl <|
      mi_T.fin (k2 h1 h2) (fun _ => rfl))
      (fun h2 => mi_T.go 2 (s1 := (14, [some (.int x0), some (.int x1)], [.int 1, .int x1], σ)) rfl <|
      mi_T.br (P := x1 < 1) (fun _ => rfl)
      (fun h3 => mi_T.go 1 (s1 := (28, [some (.int x0), some (.int x1)], [.int 0], σ)) rfl <|
      mi_T.fin (k3 h1 h2 h3) (fun _ => rfl))
      (fun h3 => mi_T.go 2 (s1 := (20, [some (.int x0), some (.int x1)], [.int 1000000, .int x1], σ)) rfl <|
      mi_T.br (P := 1000000 < x1) (fun _ => rfl)
      (fun h4 => mi_T.go 1 (s1 := (28, [some (.int x0), some (.int x1)], [.int 0], σ)) rfl <|
      mi_T.fin (k4 h1 h2 h3 h4) (fun _ => rfl))
      (fun h4 => mi_T.go 2 (s1 := (28, [some (.int x0), some (.int x1)], [.int 1], σ)) rfl <|
      mi_T.fin (k5 h1 h2 h3 h4) (fun _ => rfl)))))

-- AssertionGateModel.trust(III)Z
theorem R127_0 {X : Nat × (Nat → Int32)} {d : Nat} {r : mA mG} {σ : mG} {x1 : Int32} {x2 : Int32} {x3 : Int32} {v1 : Int32} {σ1 : mG} {v2 : Int32} {σ2 : mG}
    (c1 : RR X d 125 [.int x1] σ (some (.int v1), σ1))
    (k1 : v1 = 0 → r = (some (.int 0), σ1))
    (c2 : ¬ (v1 = 0) → RR X d 126 [.int x2, .int x3] σ1 (some (.int v2), σ2))
    (b1 : ¬ (v1 = 0) → ¬ v2 = 0 → mi_in x1 4 = true)
    (b2 : ¬ (v1 = 0) → ¬ v2 = 0 → mi_in x1 4 = true)
    (k2 : ¬ (v1 = 0) → ¬ v2 = 0 → r = (some (.int 1), (mi_uc (mi_uc σ2.1 41 (upd (σ2.1 41) x1.toNatClampNeg x2)) 42 (upd (σ2.1 42) x1.toNatClampNeg x3), σ2.2)))
    (k3 : ¬ (v1 = 0) → ¬ (¬ v2 = 0) → r = (some (.int 0), σ2))
    : TT X d tb127 (some .boolean) (0, [some (.ref 38), some (.int x1), some (.int x2), some (.int x3)], [], σ) r := mi_T.go 1 (s1 := (1, [some (.ref 38), some (.int x1), some (.int x2), some (.int x3)], [.int x1], σ)) rfl <|
      mi_T.call (as := [.int x1]) (rest := []) (v := some (.int v1)) rfl rfl rfl rfl rfl (c1) <|
      mi_T.br (P := v1 = 0) (fun _ => rfl)
      (fun h1 => mi_T.go 1 (s1 := (16, [some (.ref 38), some (.int x1), some (.int x2), some (.int x3)], [.int 0], σ1)) rfl <|
      mi_T.fin (k1 h1) (fun _ => rfl))
      (fun h1 => mi_T.go 2 (s1 := (9, [some (.ref 38), some (.int x1), some (.int x2), some (.int x3)], [.int x3, .int x2], σ1)) rfl <|
      mi_T.call (as := [.int x2, .int x3]) (rest := []) (v := some (.int v2)) rfl rfl rfl rfl rfl (c2 h1) <|
      mi_T.br (P := ¬ v2 = 0) (fun _ => rfl)
      (fun h2 => mi_T.go 4 (s1 := (23, [some (.ref 38), some (.int x1), some (.int x2), some (.int x3)], [.int x2, .int x1, .ref 41], σ2)) rfl <|
      mi_T.si rfl rfl (b1 h1 h2) <|
      mi_T.go 4 (s1 := (30, [some (.ref 38), some (.int x1), some (.int x2), some (.int x3)], [.int x3, .int x1, .ref 42], (mi_uc σ2.1 41 (upd (σ2.1 41) x1.toNatClampNeg x2), σ2.2))) rfl <|
      mi_T.si rfl rfl (b2 h1 h2) <|
      mi_T.go 1 (s1 := (32, [some (.ref 38), some (.int x1), some (.int x2), some (.int x3)], [.int 1], (mi_uc (mi_uc σ2.1 41 (upd (σ2.1 41) x1.toNatClampNeg x2)) 42 (upd (σ2.1 42) x1.toNatClampNeg x3), σ2.2))) rfl <|
      mi_T.fin (k2 h1 h2) (fun _ => rfl))
      (fun h2 => mi_T.go 1 (s1 := (16, [some (.ref 38), some (.int x1), some (.int x2), some (.int x3)], [.int 0], σ2)) rfl <|
      mi_T.fin (k3 h1 h2) (fun _ => rfl)))

-- AssertionGateModel.key(III)Z
theorem R128_0 {X : Nat × (Nat → Int32)} {d : Nat} {r : mA mG} {σ : mG} {x1 : Int32} {x2 : Int32} {x3 : Int32} {v1 : Int32} {σ1 : mG} {v2 : Int32} {σ2 : mG}
    (c1 : RR X d 125 [.int x1] σ (some (.int v1), σ1))
    (k1 : v1 = 0 → r = (some (.int 0), σ1))
    (c2 : ¬ (v1 = 0) → RR X d 126 [.int x2, .int x3] σ1 (some (.int v2), σ2))
    (b1 : ¬ (v1 = 0) → ¬ v2 = 0 → mi_in x1 4 = true)
    (b2 : ¬ (v1 = 0) → ¬ v2 = 0 → mi_in x1 4 = true)
    (k2 : ¬ (v1 = 0) → ¬ v2 = 0 → r = (some (.int 1), (mi_uc (mi_uc σ2.1 43 (upd (σ2.1 43) x1.toNatClampNeg x2)) 44 (upd (σ2.1 44) x1.toNatClampNeg x3), σ2.2)))
    (k3 : ¬ (v1 = 0) → ¬ (¬ v2 = 0) → r = (some (.int 0), σ2))
    : TT X d tb128 (some .boolean) (0, [some (.ref 38), some (.int x1), some (.int x2), some (.int x3)], [], σ) r := mi_T.go 1 (s1 := (1, [some (.ref 38), some (.int x1), some (.int x2), some (.int x3)], [.int x1], σ)) rfl <|
      mi_T.call (as := [.int x1]) (rest := []) (v := some (.int v1)) rfl rfl rfl rfl rfl (c1) <|
      mi_T.br (P := v1 = 0) (fun _ => rfl)
      (fun h1 => mi_T.go 1 (s1 := (16, [some (.ref 38), some (.int x1), some (.int x2), some (.int x3)], [.int 0], σ1)) rfl <|
      mi_T.fin (k1 h1) (fun _ => rfl))
      (fun h1 => mi_T.go 2 (s1 := (9, [some (.ref 38), some (.int x1), some (.int x2), some (.int x3)], [.int x3, .int x2], σ1)) rfl <|
      mi_T.call (as := [.int x2, .int x3]) (rest := []) (v := some (.int v2)) rfl rfl rfl rfl rfl (c2 h1) <|
      mi_T.br (P := ¬ v2 = 0) (fun _ => rfl)
      (fun h2 => mi_T.go 4 (s1 := (23, [some (.ref 38), some (.int x1), some (.int x2), some (.int x3)], [.int x2, .int x1, .ref 43], σ2)) rfl <|
      mi_T.si rfl rfl (b1 h1 h2) <|
      mi_T.go 4 (s1 := (30, [some (.ref 38), some (.int x1), some (.int x2), some (.int x3)], [.int x3, .int x1, .ref 44], (mi_uc σ2.1 43 (upd (σ2.1 43) x1.toNatClampNeg x2), σ2.2))) rfl <|
      mi_T.si rfl rfl (b2 h1 h2) <|
      mi_T.go 1 (s1 := (32, [some (.ref 38), some (.int x1), some (.int x2), some (.int x3)], [.int 1], (mi_uc (mi_uc σ2.1 43 (upd (σ2.1 43) x1.toNatClampNeg x2)) 44 (upd (σ2.1 44) x1.toNatClampNeg x3), σ2.2))) rfl <|
      mi_T.fin (k2 h1 h2) (fun _ => rfl))
      (fun h2 => mi_T.go 1 (s1 := (16, [some (.ref 38), some (.int x1), some (.int x2), some (.int x3)], [.int 0], σ2)) rfl <|
      mi_T.fin (k3 h1 h2) (fun _ => rfl)))

-- AssertionGateModel.pass(I)Z
theorem R129_0 {X : Nat × (Nat → Int32)} {d : Nat} {r : mA mG} {σ : mG} {x1 : Int32}
    (k1 : x1 < 0 → r = (some (.int 0), σ))
    (k2 : ¬ (x1 < 0) → x1 ≤ 1000 → r = (some (.int 1), (mi_uc σ.1 38 (upd (σ.1 38) 2 ((σ.1 38 2) + x1)), σ.2)))
    (k3 : ¬ (x1 < 0) → ¬ (x1 ≤ 1000) → r = (some (.int 0), σ))
    : TT X d tb129 (some .boolean) (0, [some (.ref 38), some (.int x1)], [], σ) r := mi_T.go 1 (s1 := (1, [some (.ref 38), some (.int x1)], [.int x1], σ)) rfl <|
      mi_T.br (P := x1 < 0) (fun _ => rfl)
      (fun h1 => mi_T.go 1 (s1 := (12, [some (.ref 38), some (.int x1)], [.int 0], σ)) rfl <|
      mi_T.fin (k1 h1) (fun _ => rfl))
      (fun h1 => mi_T.go 2 (s1 := (8, [some (.ref 38), some (.int x1)], [.int 1000, .int x1], σ)) rfl <|
      mi_T.br (P := x1 ≤ 1000) (fun _ => rfl)
      (fun h2 => mi_T.go 7 (s1 := (24, [some (.ref 38), some (.int x1)], [.int 1], (mi_uc σ.1 38 (upd (σ.1 38) 2 ((σ.1 38 2) + x1)), σ.2))) rfl <|
      mi_T.fin (k2 h1 h2) (fun _ => rfl))
      (fun h2 => mi_T.go 1 (s1 := (12, [some (.ref 38), some (.int x1)], [.int 0], σ)) rfl <|
      mi_T.fin (k3 h1 h2) (fun _ => rfl)))

-- AssertionGateModel.request(I)I
theorem R130_0 {X : Nat × (Nat → Int32)} {d : Nat} {r : mA mG} {σ : mG} {x1 : Int32} {v1 : Int32} {σ1 : mG}
    (c1 : RR X d 125 [.int x1] σ (some (.int v1), σ1))
    (k1 : v1 = 0 → r = (some (.int (-1)), σ1))
    (b1 : ¬ (v1 = 0) → (σ1.1 38 11) < 30 → mi_in (σ1.1 38 11) 30 = true)
    (b2 : ¬ (v1 = 0) → (σ1.1 38 11) < 30 → mi_in (σ1.1 38 11) 30 = true)
    (k2 : ¬ (v1 = 0) → (σ1.1 38 11) < 30 → r = (some (.int (((σ1.1 38 11) + 1) - 1)), (mi_uc (mi_uc (mi_uc σ1.1 45 (upd (σ1.1 45) ((σ1.1 38 11).toNatClampNeg) (σ1.1 38 2))) 46 (upd (σ1.1 46) ((σ1.1 38 11).toNatClampNeg) x1)) 38 (upd (σ1.1 38) 11 ((σ1.1 38 11) + 1)), σ1.2)))
    (k3 : ¬ (v1 = 0) → ¬ ((σ1.1 38 11) < 30) → r = (some (.int (-1)), σ1))
    : TT X d tb130 (some .int) (0, [some (.ref 38), some (.int x1)], [], σ) r := mi_T.go 1 (s1 := (1, [some (.ref 38), some (.int x1)], [.int x1], σ)) rfl <|
      mi_T.call (as := [.int x1]) (rest := []) (v := some (.int v1)) rfl rfl rfl rfl rfl (c1) <|
      mi_T.br (P := v1 = 0) (fun _ => rfl)
      (fun h1 => mi_T.go 1 (s1 := (17, [some (.ref 38), some (.int x1)], [.int (-1)], σ1)) rfl <|
      mi_T.fin (k1 h1) (fun _ => rfl))
      (fun h1 => mi_T.go 3 (s1 := (13, [some (.ref 38), some (.int x1)], [.int 30, .int (σ1.1 38 11)], σ1)) rfl <|
      mi_T.br (P := (σ1.1 38 11) < 30) (fun _ => rfl)
      (fun h2 => mi_T.go 6 (s1 := (30, [some (.ref 38), some (.int x1)], [.int (σ1.1 38 2), .int (σ1.1 38 11), .ref 45], σ1)) rfl <|
      mi_T.si rfl rfl (b1 h1 h2) <|
      mi_T.go 5 (s1 := (40, [some (.ref 38), some (.int x1)], [.int x1, .int (σ1.1 38 11), .ref 46], (mi_uc σ1.1 45 (upd (σ1.1 45) ((σ1.1 38 11).toNatClampNeg) (σ1.1 38 2)), σ1.2))) rfl <|
      mi_T.si rfl rfl (b2 h1 h2) <|
      mi_T.go 10 (s1 := (57, [some (.ref 38), some (.int x1)], [.int (((σ1.1 38 11) + 1) - 1)], (mi_uc (mi_uc (mi_uc σ1.1 45 (upd (σ1.1 45) ((σ1.1 38 11).toNatClampNeg) (σ1.1 38 2))) 46 (upd (σ1.1 46) ((σ1.1 38 11).toNatClampNeg) x1)) 38 (upd (σ1.1 38) 11 ((σ1.1 38 11) + 1)), σ1.2))) rfl <|
      mi_T.fin (k2 h1 h2) (fun _ => rfl))
      (fun h2 => mi_T.go 1 (s1 := (17, [some (.ref 38), some (.int x1)], [.int (-1)], σ1)) rfl <|
      mi_T.fin (k3 h1 h2) (fun _ => rfl)))

-- AssertionGateModel.waits(I)Z
theorem R131_0 {X : Nat × (Nat → Int32)} {d : Nat} {r : mA mG} {σ : mG} {x1 : Int32}
    (k1 : x1 < 0 → r = (some (.int 0), σ))
    (k2 : ¬ (x1 < 0) → (σ.1 38 11) ≤ x1 → r = (some (.int 0), σ))
    (b1 : ¬ (x1 < 0) → ¬ ((σ.1 38 11) ≤ x1) → mi_in x1 30 = true)
    (k3 : ¬ (x1 < 0) → ¬ ((σ.1 38 11) ≤ x1) → ¬ (σ.1 47 x1.toNatClampNeg) = 0 → r = (some (.int 0), σ))
    (b2 : ¬ (x1 < 0) → ¬ ((σ.1 38 11) ≤ x1) → ¬ (¬ (σ.1 47 x1.toNatClampNeg) = 0) → mi_in x1 30 = true)
    (k4 : ¬ (x1 < 0) → ¬ ((σ.1 38 11) ≤ x1) → ¬ (¬ (σ.1 47 x1.toNatClampNeg) = 0) → ((σ.1 45 x1.toNatClampNeg) + (σ.1 38 1)) ≤ (σ.1 38 2) → r = (some (.int 0), σ))
    (k5 : ¬ (x1 < 0) → ¬ ((σ.1 38 11) ≤ x1) → ¬ (¬ (σ.1 47 x1.toNatClampNeg) = 0) → ¬ (((σ.1 45 x1.toNatClampNeg) + (σ.1 38 1)) ≤ (σ.1 38 2)) → r = (some (.int 1), σ))
    : TT X d tb131 (some .boolean) (0, [some (.ref 38), some (.int x1)], [], σ) r := mi_T.go 1 (s1 := (1, [some (.ref 38), some (.int x1)], [.int x1], σ)) rfl <|
      mi_T.br (P := x1 < 0) (fun _ => rfl)
      (fun h1 => mi_T.go 1 (s1 := (44, [some (.ref 38), some (.int x1)], [.int 0], σ)) rfl <|
      mi_T.fin (k1 h1) (fun _ => rfl))
      (fun h1 => mi_T.go 3 (s1 := (9, [some (.ref 38), some (.int x1)], [.int (σ.1 38 11), .int x1], σ)) rfl <|
      mi_T.br (P := (σ.1 38 11) ≤ x1) (fun _ => rfl)
      (fun h2 => mi_T.go 1 (s1 := (44, [some (.ref 38), some (.int x1)], [.int 0], σ)) rfl <|
      mi_T.fin (k2 h1 h2) (fun _ => rfl))
      (fun h2 => mi_T.go 3 (s1 := (17, [some (.ref 38), some (.int x1)], [.int x1, .ref 47], σ)) rfl <|
      mi_T.lz rfl rfl (b1 h1 h2) <|
      mi_T.br (P := ¬ (σ.1 47 x1.toNatClampNeg) = 0) (fun _ => rfl)
      (fun h3 => mi_T.go 1 (s1 := (44, [some (.ref 38), some (.int x1)], [.int 0], σ)) rfl <|
      mi_T.fin (k3 h1 h2 h3) (fun _ => rfl))
      (fun h3 => mi_T.go 5 (s1 := (30, [some (.ref 38), some (.int x1)], [.int x1, .ref 45, .int (σ.1 38 2)], σ)) rfl <|
      mi_T.li rfl rfl (b2 h1 h2 h3) <|
      mi_T.go 3 (s1 := (36, [some (.ref 38), some (.int x1)], [.int ((σ.1 45 x1.toNatClampNeg) + (σ.1 38 1)), .int (σ.1 38 2)], σ)) rfl <|
      mi_T.br (P := ((σ.1 45 x1.toNatClampNeg) + (σ.1 38 1)) ≤ (σ.1 38 2)) (fun _ => rfl)
      (fun h4 => mi_T.go 1 (s1 := (44, [some (.ref 38), some (.int x1)], [.int 0], σ)) rfl <|
      mi_T.fin (k4 h1 h2 h3 h4) (fun _ => rfl))
      (fun h4 => mi_T.go 2 (s1 := (44, [some (.ref 38), some (.int x1)], [.int 1], σ)) rfl <|
      mi_T.fin (k5 h1 h2 h3 h4) (fun _ => rfl)))))

-- AssertionGateModel.outstanding()I
theorem R132_0 {X : Nat × (Nat → Int32)} {d : Nat} {r : mA mG} {σ : mG} 
    (k1 : TT X d tb132 (some .int) (4, [some (.ref 38), some (.int 0), some (.int 0)], [], σ) r)
    : TT X d tb132 (some .int) (0, [some (.ref 38), none, none], [], σ) r := mi_T.go 4 (s1 := (4, [some (.ref 38), some (.int 0), some (.int 0)], [], σ)) rfl <|
      k1

theorem R132_4 {X : Nat × (Nat → Int32)} {d : Nat} {r : mA mG} {σ : mG} {x1 : Int32} {x2 : Int32} {v1 : Int32} {σ1 : mG}
    (k1 : (σ.1 38 11) ≤ x2 → r = (some (.int x1), σ))
    (c1 : ¬ ((σ.1 38 11) ≤ x2) → RR X d 131 [.ref 38, .int x2] σ (some (.int v1), σ1))
    (k2 : ¬ ((σ.1 38 11) ≤ x2) → v1 = 0 → TT X d tb132 (some .int) (4, [some (.ref 38), some (.int (x1 + 0)), some (.int (x2 + 1))], [], σ1) r)
    (k3 : ¬ ((σ.1 38 11) ≤ x2) → ¬ (v1 = 0) → TT X d tb132 (some .int) (4, [some (.ref 38), some (.int (x1 + 1)), some (.int (x2 + 1))], [], σ1) r)
    : TT X d tb132 (some .int) (4, [some (.ref 38), some (.int x1), some (.int x2)], [], σ) r := mi_T.go 3 (s1 := (9, [some (.ref 38), some (.int x1), some (.int x2)], [.int (σ.1 38 11), .int x2], σ)) rfl <|
      mi_T.br (P := (σ.1 38 11) ≤ x2) (fun _ => rfl)
      (fun h1 => mi_T.go 1 (s1 := (35, [some (.ref 38), some (.int x1), some (.int x2)], [.int x1], σ)) rfl <|
      mi_T.fin (k1 h1) (fun _ => rfl))
      (fun h1 => mi_T.go 3 (s1 := (15, [some (.ref 38), some (.int x1), some (.int x2)], [.int x2, .ref 38, .int x1], σ)) rfl <|
      mi_T.call (as := [.ref 38, .int x2]) (rest := [.int x1]) (v := some (.int v1)) rfl rfl rfl rfl rfl (c1 h1) <|
      mi_T.br (P := v1 = 0) (fun _ => rfl)
      (fun h2 => mi_T.go 5 (s1 := (4, [some (.ref 38), some (.int (x1 + 0)), some (.int (x2 + 1))], [], σ1)) rfl <|
      (k2 h1 h2))
      (fun h2 => mi_T.go 6 (s1 := (4, [some (.ref 38), some (.int (x1 + 1)), some (.int (x2 + 1))], [], σ1)) rfl <|
      (k3 h1 h2)))

-- AssertionGateModel.power(III)I
theorem R133_0 {X : Nat × (Nat → Int32)} {d : Nat} {r : mA mG} {σ : mG} {x0 : Int32} {x1 : Int32} {x2 : Int32}
    (b1 : ¬ x2 = 0)
    (k1 : TT X d tb133 (some .int) (9, [some (.int x0), some (.int x1), some (.int x2), some (.long ((1 - 1 / x2 * x2).toInt64)), none, some (.int 1000000), none, none, none, none, none, none, none], [], σ) r)
    : TT X d tb133 (some .int) (0, [some (.int x0), some (.int x1), some (.int x2), none, none, none, none, none, none, none, none, none, none], [], σ) r := mi_T.go 2 (s1 := (2, [some (.int x0), some (.int x1), some (.int x2), none, none, none, none, none, none, none, none, none, none], [.int x2, .int 1], σ)) rfl <|
      mi_T.irem rfl (b1) <|
      mi_T.go 4 (s1 := (9, [some (.int x0), some (.int x1), some (.int x2), some (.long ((1 - 1 / x2 * x2).toInt64)), none, some (.int 1000000), none, none, none, none, none, none, none], [], σ)) rfl <|
      k1

theorem R133_9 {X : Nat × (Nat → Int32)} {d : Nat} {r : mA mG} {σ : mG} {x0 : Int32} {x1 : Int32} {x2 : Int32} {y3 : Int64} {x5 : Int32} {u6 : Option Value} {u8 : Option Value} {u10 : Option Value} {u12 : Option Value}
    (k1 : x5 ≤ 0 → r = (some (.int y3.toInt32), σ))
    (b1 : ¬ (x5 ≤ 0) → ¬ x2.toInt64 = 0)
    (b2 : ¬ (x5 ≤ 0) → ¬ x2.toInt64 = 0)
    (b3 : ¬ (x5 ≤ 0) → ¬ x2.toInt64 = 0)
    (b4 : ¬ (x5 ≤ 0) → ¬ x2.toInt64 = 0)
    (b5 : ¬ (x5 ≤ 0) → ¬ x5 = 0)
    (k2 : ¬ (x5 ≤ 0) → TT X d tb133 (some .int) (60, [some (.int x0), some (.int x1), some (.int x2), some (.long ((((((((y3 * y3) - (y3 * y3) / x2.toInt64 * x2.toInt64) * ((y3 * y3) - (y3 * y3) / x2.toInt64 * x2.toInt64)) - (((y3 * y3) - (y3 * y3) / x2.toInt64 * x2.toInt64) * ((y3 * y3) - (y3 * y3) / x2.toInt64 * x2.toInt64)) / x2.toInt64 * x2.toInt64) * ((((y3 * y3) - (y3 * y3) / x2.toInt64 * x2.toInt64) * ((y3 * y3) - (y3 * y3) / x2.toInt64 * x2.toInt64)) - (((y3 * y3) - (y3 * y3) / x2.toInt64 * x2.toInt64) * ((y3 * y3) - (y3 * y3) / x2.toInt64 * x2.toInt64)) / x2.toInt64 * x2.toInt64)) - (((((y3 * y3) - (y3 * y3) / x2.toInt64 * x2.toInt64) * ((y3 * y3) - (y3 * y3) / x2.toInt64 * x2.toInt64)) - (((y3 * y3) - (y3 * y3) / x2.toInt64 * x2.toInt64) * ((y3 * y3) - (y3 * y3) / x2.toInt64 * x2.toInt64)) / x2.toInt64 * x2.toInt64) * ((((y3 * y3) - (y3 * y3) / x2.toInt64 * x2.toInt64) * ((y3 * y3) - (y3 * y3) / x2.toInt64 * x2.toInt64)) - (((y3 * y3) - (y3 * y3) / x2.toInt64 * x2.toInt64) * ((y3 * y3) - (y3 * y3) / x2.toInt64 * x2.toInt64)) / x2.toInt64 * x2.toInt64)) / x2.toInt64 * x2.toInt64) * ((y3 * y3) - (y3 * y3) / x2.toInt64 * x2.toInt64)) - (((((((y3 * y3) - (y3 * y3) / x2.toInt64 * x2.toInt64) * ((y3 * y3) - (y3 * y3) / x2.toInt64 * x2.toInt64)) - (((y3 * y3) - (y3 * y3) / x2.toInt64 * x2.toInt64) * ((y3 * y3) - (y3 * y3) / x2.toInt64 * x2.toInt64)) / x2.toInt64 * x2.toInt64) * ((((y3 * y3) - (y3 * y3) / x2.toInt64 * x2.toInt64) * ((y3 * y3) - (y3 * y3) / x2.toInt64 * x2.toInt64)) - (((y3 * y3) - (y3 * y3) / x2.toInt64 * x2.toInt64) * ((y3 * y3) - (y3 * y3) / x2.toInt64 * x2.toInt64)) / x2.toInt64 * x2.toInt64)) - (((((y3 * y3) - (y3 * y3) / x2.toInt64 * x2.toInt64) * ((y3 * y3) - (y3 * y3) / x2.toInt64 * x2.toInt64)) - (((y3 * y3) - (y3 * y3) / x2.toInt64 * x2.toInt64) * ((y3 * y3) - (y3 * y3) / x2.toInt64 * x2.toInt64)) / x2.toInt64 * x2.toInt64) * ((((y3 * y3) - (y3 * y3) / x2.toInt64 * x2.toInt64) * ((y3 * y3) - (y3 * y3) / x2.toInt64 * x2.toInt64)) - (((y3 * y3) - (y3 * y3) / x2.toInt64 * x2.toInt64) * ((y3 * y3) - (y3 * y3) / x2.toInt64 * x2.toInt64)) / x2.toInt64 * x2.toInt64)) / x2.toInt64 * x2.toInt64) * ((y3 * y3) - (y3 * y3) / x2.toInt64 * x2.toInt64)) / x2.toInt64 * x2.toInt64)), none, some (.int x5), some (.long ((y3 * y3) - (y3 * y3) / x2.toInt64 * x2.toInt64)), none, some (.long ((((y3 * y3) - (y3 * y3) / x2.toInt64 * x2.toInt64) * ((y3 * y3) - (y3 * y3) / x2.toInt64 * x2.toInt64)) - (((y3 * y3) - (y3 * y3) / x2.toInt64 * x2.toInt64) * ((y3 * y3) - (y3 * y3) / x2.toInt64 * x2.toInt64)) / x2.toInt64 * x2.toInt64)), none, some (.long ((((((y3 * y3) - (y3 * y3) / x2.toInt64 * x2.toInt64) * ((y3 * y3) - (y3 * y3) / x2.toInt64 * x2.toInt64)) - (((y3 * y3) - (y3 * y3) / x2.toInt64 * x2.toInt64) * ((y3 * y3) - (y3 * y3) / x2.toInt64 * x2.toInt64)) / x2.toInt64 * x2.toInt64) * ((((y3 * y3) - (y3 * y3) / x2.toInt64 * x2.toInt64) * ((y3 * y3) - (y3 * y3) / x2.toInt64 * x2.toInt64)) - (((y3 * y3) - (y3 * y3) / x2.toInt64 * x2.toInt64) * ((y3 * y3) - (y3 * y3) / x2.toInt64 * x2.toInt64)) / x2.toInt64 * x2.toInt64)) - (((((y3 * y3) - (y3 * y3) / x2.toInt64 * x2.toInt64) * ((y3 * y3) - (y3 * y3) / x2.toInt64 * x2.toInt64)) - (((y3 * y3) - (y3 * y3) / x2.toInt64 * x2.toInt64) * ((y3 * y3) - (y3 * y3) / x2.toInt64 * x2.toInt64)) / x2.toInt64 * x2.toInt64) * ((((y3 * y3) - (y3 * y3) / x2.toInt64 * x2.toInt64) * ((y3 * y3) - (y3 * y3) / x2.toInt64 * x2.toInt64)) - (((y3 * y3) - (y3 * y3) / x2.toInt64 * x2.toInt64) * ((y3 * y3) - (y3 * y3) / x2.toInt64 * x2.toInt64)) / x2.toInt64 * x2.toInt64)) / x2.toInt64 * x2.toInt64)), none, some (.int ((x1 / x5) - (x1 / x5) / 10 * 10))], [], σ) r)
    : TT X d tb133 (some .int) (9, [some (.int x0), some (.int x1), some (.int x2), some (.long y3), none, some (.int x5), u6, none, u8, none, u10, none, u12], [], σ) r := mi_T.go 1 (s1 := (11, [some (.int x0), some (.int x1), some (.int x2), some (.long y3), none, some (.int x5), u6, none, u8, none, u10, none, u12], [.int x5], σ)) rfl <|
      mi_T.br (P := x5 ≤ 0) (fun _ => rfl)
      (fun h1 => mi_T.go 2 (s1 := (91, [some (.int x0), some (.int x1), some (.int x2), some (.long y3), none, some (.int x5), u6, none, u8, none, u10, none, u12], [.int y3.toInt32], σ)) rfl <|
      mi_T.fin (k1 h1) (fun _ => rfl))
      (fun h1 => mi_T.go 5 (s1 := (19, [some (.int x0), some (.int x1), some (.int x2), some (.long y3), none, some (.int x5), u6, none, u8, none, u10, none, u12], [.long x2.toInt64, .long (y3 * y3)], σ)) rfl <|
      mi_T.lrem rfl (b1 h1) <|
      mi_T.go 6 (s1 := (29, [some (.int x0), some (.int x1), some (.int x2), some (.long y3), none, some (.int x5), some (.long ((y3 * y3) - (y3 * y3) / x2.toInt64 * x2.toInt64)), none, u8, none, u10, none, u12], [.long x2.toInt64, .long (((y3 * y3) - (y3 * y3) / x2.toInt64 * x2.toInt64) * ((y3 * y3) - (y3 * y3) / x2.toInt64 * x2.toInt64))], σ)) rfl <|
      mi_T.lrem rfl (b2 h1) <|
      mi_T.go 6 (s1 := (39, [some (.int x0), some (.int x1), some (.int x2), some (.long y3), none, some (.int x5), some (.long ((y3 * y3) - (y3 * y3) / x2.toInt64 * x2.toInt64)), none, some (.long ((((y3 * y3) - (y3 * y3) / x2.toInt64 * x2.toInt64) * ((y3 * y3) - (y3 * y3) / x2.toInt64 * x2.toInt64)) - (((y3 * y3) - (y3 * y3) / x2.toInt64 * x2.toInt64) * ((y3 * y3) - (y3 * y3) / x2.toInt64 * x2.toInt64)) / x2.toInt64 * x2.toInt64)), none, u10, none, u12], [.long x2.toInt64, .long (((((y3 * y3) - (y3 * y3) / x2.toInt64 * x2.toInt64) * ((y3 * y3) - (y3 * y3) / x2.toInt64 * x2.toInt64)) - (((y3 * y3) - (y3 * y3) / x2.toInt64 * x2.toInt64) * ((y3 * y3) - (y3 * y3) / x2.toInt64 * x2.toInt64)) / x2.toInt64 * x2.toInt64) * ((((y3 * y3) - (y3 * y3) / x2.toInt64 * x2.toInt64) * ((y3 * y3) - (y3 * y3) / x2.toInt64 * x2.toInt64)) - (((y3 * y3) - (y3 * y3) / x2.toInt64 * x2.toInt64) * ((y3 * y3) - (y3 * y3) / x2.toInt64 * x2.toInt64)) / x2.toInt64 * x2.toInt64))], σ)) rfl <|
      mi_T.lrem rfl (b3 h1) <|
      mi_T.go 6 (s1 := (49, [some (.int x0), some (.int x1), some (.int x2), some (.long y3), none, some (.int x5), some (.long ((y3 * y3) - (y3 * y3) / x2.toInt64 * x2.toInt64)), none, some (.long ((((y3 * y3) - (y3 * y3) / x2.toInt64 * x2.toInt64) * ((y3 * y3) - (y3 * y3) / x2.toInt64 * x2.toInt64)) - (((y3 * y3) - (y3 * y3) / x2.toInt64 * x2.toInt64) * ((y3 * y3) - (y3 * y3) / x2.toInt64 * x2.toInt64)) / x2.toInt64 * x2.toInt64)), none, some (.long ((((((y3 * y3) - (y3 * y3) / x2.toInt64 * x2.toInt64) * ((y3 * y3) - (y3 * y3) / x2.toInt64 * x2.toInt64)) - (((y3 * y3) - (y3 * y3) / x2.toInt64 * x2.toInt64) * ((y3 * y3) - (y3 * y3) / x2.toInt64 * x2.toInt64)) / x2.toInt64 * x2.toInt64) * ((((y3 * y3) - (y3 * y3) / x2.toInt64 * x2.toInt64) * ((y3 * y3) - (y3 * y3) / x2.toInt64 * x2.toInt64)) - (((y3 * y3) - (y3 * y3) / x2.toInt64 * x2.toInt64) * ((y3 * y3) - (y3 * y3) / x2.toInt64 * x2.toInt64)) / x2.toInt64 * x2.toInt64)) - (((((y3 * y3) - (y3 * y3) / x2.toInt64 * x2.toInt64) * ((y3 * y3) - (y3 * y3) / x2.toInt64 * x2.toInt64)) - (((y3 * y3) - (y3 * y3) / x2.toInt64 * x2.toInt64) * ((y3 * y3) - (y3 * y3) / x2.toInt64 * x2.toInt64)) / x2.toInt64 * x2.toInt64) * ((((y3 * y3) - (y3 * y3) / x2.toInt64 * x2.toInt64) * ((y3 * y3) - (y3 * y3) / x2.toInt64 * x2.toInt64)) - (((y3 * y3) - (y3 * y3) / x2.toInt64 * x2.toInt64) * ((y3 * y3) - (y3 * y3) / x2.toInt64 * x2.toInt64)) / x2.toInt64 * x2.toInt64)) / x2.toInt64 * x2.toInt64)), none, u12], [.long x2.toInt64, .long (((((((y3 * y3) - (y3 * y3) / x2.toInt64 * x2.toInt64) * ((y3 * y3) - (y3 * y3) / x2.toInt64 * x2.toInt64)) - (((y3 * y3) - (y3 * y3) / x2.toInt64 * x2.toInt64) * ((y3 * y3) - (y3 * y3) / x2.toInt64 * x2.toInt64)) / x2.toInt64 * x2.toInt64) * ((((y3 * y3) - (y3 * y3) / x2.toInt64 * x2.toInt64) * ((y3 * y3) - (y3 * y3) / x2.toInt64 * x2.toInt64)) - (((y3 * y3) - (y3 * y3) / x2.toInt64 * x2.toInt64) * ((y3 * y3) - (y3 * y3) / x2.toInt64 * x2.toInt64)) / x2.toInt64 * x2.toInt64)) - (((((y3 * y3) - (y3 * y3) / x2.toInt64 * x2.toInt64) * ((y3 * y3) - (y3 * y3) / x2.toInt64 * x2.toInt64)) - (((y3 * y3) - (y3 * y3) / x2.toInt64 * x2.toInt64) * ((y3 * y3) - (y3 * y3) / x2.toInt64 * x2.toInt64)) / x2.toInt64 * x2.toInt64) * ((((y3 * y3) - (y3 * y3) / x2.toInt64 * x2.toInt64) * ((y3 * y3) - (y3 * y3) / x2.toInt64 * x2.toInt64)) - (((y3 * y3) - (y3 * y3) / x2.toInt64 * x2.toInt64) * ((y3 * y3) - (y3 * y3) / x2.toInt64 * x2.toInt64)) / x2.toInt64 * x2.toInt64)) / x2.toInt64 * x2.toInt64) * ((y3 * y3) - (y3 * y3) / x2.toInt64 * x2.toInt64))], σ)) rfl <|
      mi_T.lrem rfl (b4 h1) <|
      mi_T.go 3 (s1 := (54, [some (.int x0), some (.int x1), some (.int x2), some (.long ((((((((y3 * y3) - (y3 * y3) / x2.toInt64 * x2.toInt64) * ((y3 * y3) - (y3 * y3) / x2.toInt64 * x2.toInt64)) - (((y3 * y3) - (y3 * y3) / x2.toInt64 * x2.toInt64) * ((y3 * y3) - (y3 * y3) / x2.toInt64 * x2.toInt64)) / x2.toInt64 * x2.toInt64) * ((((y3 * y3) - (y3 * y3) / x2.toInt64 * x2.toInt64) * ((y3 * y3) - (y3 * y3) / x2.toInt64 * x2.toInt64)) - (((y3 * y3) - (y3 * y3) / x2.toInt64 * x2.toInt64) * ((y3 * y3) - (y3 * y3) / x2.toInt64 * x2.toInt64)) / x2.toInt64 * x2.toInt64)) - (((((y3 * y3) - (y3 * y3) / x2.toInt64 * x2.toInt64) * ((y3 * y3) - (y3 * y3) / x2.toInt64 * x2.toInt64)) - (((y3 * y3) - (y3 * y3) / x2.toInt64 * x2.toInt64) * ((y3 * y3) - (y3 * y3) / x2.toInt64 * x2.toInt64)) / x2.toInt64 * x2.toInt64) * ((((y3 * y3) - (y3 * y3) / x2.toInt64 * x2.toInt64) * ((y3 * y3) - (y3 * y3) / x2.toInt64 * x2.toInt64)) - (((y3 * y3) - (y3 * y3) / x2.toInt64 * x2.toInt64) * ((y3 * y3) - (y3 * y3) / x2.toInt64 * x2.toInt64)) / x2.toInt64 * x2.toInt64)) / x2.toInt64 * x2.toInt64) * ((y3 * y3) - (y3 * y3) / x2.toInt64 * x2.toInt64)) - (((((((y3 * y3) - (y3 * y3) / x2.toInt64 * x2.toInt64) * ((y3 * y3) - (y3 * y3) / x2.toInt64 * x2.toInt64)) - (((y3 * y3) - (y3 * y3) / x2.toInt64 * x2.toInt64) * ((y3 * y3) - (y3 * y3) / x2.toInt64 * x2.toInt64)) / x2.toInt64 * x2.toInt64) * ((((y3 * y3) - (y3 * y3) / x2.toInt64 * x2.toInt64) * ((y3 * y3) - (y3 * y3) / x2.toInt64 * x2.toInt64)) - (((y3 * y3) - (y3 * y3) / x2.toInt64 * x2.toInt64) * ((y3 * y3) - (y3 * y3) / x2.toInt64 * x2.toInt64)) / x2.toInt64 * x2.toInt64)) - (((((y3 * y3) - (y3 * y3) / x2.toInt64 * x2.toInt64) * ((y3 * y3) - (y3 * y3) / x2.toInt64 * x2.toInt64)) - (((y3 * y3) - (y3 * y3) / x2.toInt64 * x2.toInt64) * ((y3 * y3) - (y3 * y3) / x2.toInt64 * x2.toInt64)) / x2.toInt64 * x2.toInt64) * ((((y3 * y3) - (y3 * y3) / x2.toInt64 * x2.toInt64) * ((y3 * y3) - (y3 * y3) / x2.toInt64 * x2.toInt64)) - (((y3 * y3) - (y3 * y3) / x2.toInt64 * x2.toInt64) * ((y3 * y3) - (y3 * y3) / x2.toInt64 * x2.toInt64)) / x2.toInt64 * x2.toInt64)) / x2.toInt64 * x2.toInt64) * ((y3 * y3) - (y3 * y3) / x2.toInt64 * x2.toInt64)) / x2.toInt64 * x2.toInt64)), none, some (.int x5), some (.long ((y3 * y3) - (y3 * y3) / x2.toInt64 * x2.toInt64)), none, some (.long ((((y3 * y3) - (y3 * y3) / x2.toInt64 * x2.toInt64) * ((y3 * y3) - (y3 * y3) / x2.toInt64 * x2.toInt64)) - (((y3 * y3) - (y3 * y3) / x2.toInt64 * x2.toInt64) * ((y3 * y3) - (y3 * y3) / x2.toInt64 * x2.toInt64)) / x2.toInt64 * x2.toInt64)), none, some (.long ((((((y3 * y3) - (y3 * y3) / x2.toInt64 * x2.toInt64) * ((y3 * y3) - (y3 * y3) / x2.toInt64 * x2.toInt64)) - (((y3 * y3) - (y3 * y3) / x2.toInt64 * x2.toInt64) * ((y3 * y3) - (y3 * y3) / x2.toInt64 * x2.toInt64)) / x2.toInt64 * x2.toInt64) * ((((y3 * y3) - (y3 * y3) / x2.toInt64 * x2.toInt64) * ((y3 * y3) - (y3 * y3) / x2.toInt64 * x2.toInt64)) - (((y3 * y3) - (y3 * y3) / x2.toInt64 * x2.toInt64) * ((y3 * y3) - (y3 * y3) / x2.toInt64 * x2.toInt64)) / x2.toInt64 * x2.toInt64)) - (((((y3 * y3) - (y3 * y3) / x2.toInt64 * x2.toInt64) * ((y3 * y3) - (y3 * y3) / x2.toInt64 * x2.toInt64)) - (((y3 * y3) - (y3 * y3) / x2.toInt64 * x2.toInt64) * ((y3 * y3) - (y3 * y3) / x2.toInt64 * x2.toInt64)) / x2.toInt64 * x2.toInt64) * ((((y3 * y3) - (y3 * y3) / x2.toInt64 * x2.toInt64) * ((y3 * y3) - (y3 * y3) / x2.toInt64 * x2.toInt64)) - (((y3 * y3) - (y3 * y3) / x2.toInt64 * x2.toInt64) * ((y3 * y3) - (y3 * y3) / x2.toInt64 * x2.toInt64)) / x2.toInt64 * x2.toInt64)) / x2.toInt64 * x2.toInt64)), none, u12], [.int x5, .int x1], σ)) rfl <|
      mi_T.idiv rfl (b5 h1) <|
      mi_T.go 1 (s1 := (57, [some (.int x0), some (.int x1), some (.int x2), some (.long ((((((((y3 * y3) - (y3 * y3) / x2.toInt64 * x2.toInt64) * ((y3 * y3) - (y3 * y3) / x2.toInt64 * x2.toInt64)) - (((y3 * y3) - (y3 * y3) / x2.toInt64 * x2.toInt64) * ((y3 * y3) - (y3 * y3) / x2.toInt64 * x2.toInt64)) / x2.toInt64 * x2.toInt64) * ((((y3 * y3) - (y3 * y3) / x2.toInt64 * x2.toInt64) * ((y3 * y3) - (y3 * y3) / x2.toInt64 * x2.toInt64)) - (((y3 * y3) - (y3 * y3) / x2.toInt64 * x2.toInt64) * ((y3 * y3) - (y3 * y3) / x2.toInt64 * x2.toInt64)) / x2.toInt64 * x2.toInt64)) - (((((y3 * y3) - (y3 * y3) / x2.toInt64 * x2.toInt64) * ((y3 * y3) - (y3 * y3) / x2.toInt64 * x2.toInt64)) - (((y3 * y3) - (y3 * y3) / x2.toInt64 * x2.toInt64) * ((y3 * y3) - (y3 * y3) / x2.toInt64 * x2.toInt64)) / x2.toInt64 * x2.toInt64) * ((((y3 * y3) - (y3 * y3) / x2.toInt64 * x2.toInt64) * ((y3 * y3) - (y3 * y3) / x2.toInt64 * x2.toInt64)) - (((y3 * y3) - (y3 * y3) / x2.toInt64 * x2.toInt64) * ((y3 * y3) - (y3 * y3) / x2.toInt64 * x2.toInt64)) / x2.toInt64 * x2.toInt64)) / x2.toInt64 * x2.toInt64) * ((y3 * y3) - (y3 * y3) / x2.toInt64 * x2.toInt64)) - (((((((y3 * y3) - (y3 * y3) / x2.toInt64 * x2.toInt64) * ((y3 * y3) - (y3 * y3) / x2.toInt64 * x2.toInt64)) - (((y3 * y3) - (y3 * y3) / x2.toInt64 * x2.toInt64) * ((y3 * y3) - (y3 * y3) / x2.toInt64 * x2.toInt64)) / x2.toInt64 * x2.toInt64) * ((((y3 * y3) - (y3 * y3) / x2.toInt64 * x2.toInt64) * ((y3 * y3) - (y3 * y3) / x2.toInt64 * x2.toInt64)) - (((y3 * y3) - (y3 * y3) / x2.toInt64 * x2.toInt64) * ((y3 * y3) - (y3 * y3) / x2.toInt64 * x2.toInt64)) / x2.toInt64 * x2.toInt64)) - (((((y3 * y3) - (y3 * y3) / x2.toInt64 * x2.toInt64) * ((y3 * y3) - (y3 * y3) / x2.toInt64 * x2.toInt64)) - (((y3 * y3) - (y3 * y3) / x2.toInt64 * x2.toInt64) * ((y3 * y3) - (y3 * y3) / x2.toInt64 * x2.toInt64)) / x2.toInt64 * x2.toInt64) * ((((y3 * y3) - (y3 * y3) / x2.toInt64 * x2.toInt64) * ((y3 * y3) - (y3 * y3) / x2.toInt64 * x2.toInt64)) - (((y3 * y3) - (y3 * y3) / x2.toInt64 * x2.toInt64) * ((y3 * y3) - (y3 * y3) / x2.toInt64 * x2.toInt64)) / x2.toInt64 * x2.toInt64)) / x2.toInt64 * x2.toInt64) * ((y3 * y3) - (y3 * y3) / x2.toInt64 * x2.toInt64)) / x2.toInt64 * x2.toInt64)), none, some (.int x5), some (.long ((y3 * y3) - (y3 * y3) / x2.toInt64 * x2.toInt64)), none, some (.long ((((y3 * y3) - (y3 * y3) / x2.toInt64 * x2.toInt64) * ((y3 * y3) - (y3 * y3) / x2.toInt64 * x2.toInt64)) - (((y3 * y3) - (y3 * y3) / x2.toInt64 * x2.toInt64) * ((y3 * y3) - (y3 * y3) / x2.toInt64 * x2.toInt64)) / x2.toInt64 * x2.toInt64)), none, some (.long ((((((y3 * y3) - (y3 * y3) / x2.toInt64 * x2.toInt64) * ((y3 * y3) - (y3 * y3) / x2.toInt64 * x2.toInt64)) - (((y3 * y3) - (y3 * y3) / x2.toInt64 * x2.toInt64) * ((y3 * y3) - (y3 * y3) / x2.toInt64 * x2.toInt64)) / x2.toInt64 * x2.toInt64) * ((((y3 * y3) - (y3 * y3) / x2.toInt64 * x2.toInt64) * ((y3 * y3) - (y3 * y3) / x2.toInt64 * x2.toInt64)) - (((y3 * y3) - (y3 * y3) / x2.toInt64 * x2.toInt64) * ((y3 * y3) - (y3 * y3) / x2.toInt64 * x2.toInt64)) / x2.toInt64 * x2.toInt64)) - (((((y3 * y3) - (y3 * y3) / x2.toInt64 * x2.toInt64) * ((y3 * y3) - (y3 * y3) / x2.toInt64 * x2.toInt64)) - (((y3 * y3) - (y3 * y3) / x2.toInt64 * x2.toInt64) * ((y3 * y3) - (y3 * y3) / x2.toInt64 * x2.toInt64)) / x2.toInt64 * x2.toInt64) * ((((y3 * y3) - (y3 * y3) / x2.toInt64 * x2.toInt64) * ((y3 * y3) - (y3 * y3) / x2.toInt64 * x2.toInt64)) - (((y3 * y3) - (y3 * y3) / x2.toInt64 * x2.toInt64) * ((y3 * y3) - (y3 * y3) / x2.toInt64 * x2.toInt64)) / x2.toInt64 * x2.toInt64)) / x2.toInt64 * x2.toInt64)), none, u12], [.int 10, .int (x1 / x5)], σ)) rfl <|
      mi_T.irem rfl (by decide) <|
      mi_T.go 1 (s1 := (60, [some (.int x0), some (.int x1), some (.int x2), some (.long ((((((((y3 * y3) - (y3 * y3) / x2.toInt64 * x2.toInt64) * ((y3 * y3) - (y3 * y3) / x2.toInt64 * x2.toInt64)) - (((y3 * y3) - (y3 * y3) / x2.toInt64 * x2.toInt64) * ((y3 * y3) - (y3 * y3) / x2.toInt64 * x2.toInt64)) / x2.toInt64 * x2.toInt64) * ((((y3 * y3) - (y3 * y3) / x2.toInt64 * x2.toInt64) * ((y3 * y3) - (y3 * y3) / x2.toInt64 * x2.toInt64)) - (((y3 * y3) - (y3 * y3) / x2.toInt64 * x2.toInt64) * ((y3 * y3) - (y3 * y3) / x2.toInt64 * x2.toInt64)) / x2.toInt64 * x2.toInt64)) - (((((y3 * y3) - (y3 * y3) / x2.toInt64 * x2.toInt64) * ((y3 * y3) - (y3 * y3) / x2.toInt64 * x2.toInt64)) - (((y3 * y3) - (y3 * y3) / x2.toInt64 * x2.toInt64) * ((y3 * y3) - (y3 * y3) / x2.toInt64 * x2.toInt64)) / x2.toInt64 * x2.toInt64) * ((((y3 * y3) - (y3 * y3) / x2.toInt64 * x2.toInt64) * ((y3 * y3) - (y3 * y3) / x2.toInt64 * x2.toInt64)) - (((y3 * y3) - (y3 * y3) / x2.toInt64 * x2.toInt64) * ((y3 * y3) - (y3 * y3) / x2.toInt64 * x2.toInt64)) / x2.toInt64 * x2.toInt64)) / x2.toInt64 * x2.toInt64) * ((y3 * y3) - (y3 * y3) / x2.toInt64 * x2.toInt64)) - (((((((y3 * y3) - (y3 * y3) / x2.toInt64 * x2.toInt64) * ((y3 * y3) - (y3 * y3) / x2.toInt64 * x2.toInt64)) - (((y3 * y3) - (y3 * y3) / x2.toInt64 * x2.toInt64) * ((y3 * y3) - (y3 * y3) / x2.toInt64 * x2.toInt64)) / x2.toInt64 * x2.toInt64) * ((((y3 * y3) - (y3 * y3) / x2.toInt64 * x2.toInt64) * ((y3 * y3) - (y3 * y3) / x2.toInt64 * x2.toInt64)) - (((y3 * y3) - (y3 * y3) / x2.toInt64 * x2.toInt64) * ((y3 * y3) - (y3 * y3) / x2.toInt64 * x2.toInt64)) / x2.toInt64 * x2.toInt64)) - (((((y3 * y3) - (y3 * y3) / x2.toInt64 * x2.toInt64) * ((y3 * y3) - (y3 * y3) / x2.toInt64 * x2.toInt64)) - (((y3 * y3) - (y3 * y3) / x2.toInt64 * x2.toInt64) * ((y3 * y3) - (y3 * y3) / x2.toInt64 * x2.toInt64)) / x2.toInt64 * x2.toInt64) * ((((y3 * y3) - (y3 * y3) / x2.toInt64 * x2.toInt64) * ((y3 * y3) - (y3 * y3) / x2.toInt64 * x2.toInt64)) - (((y3 * y3) - (y3 * y3) / x2.toInt64 * x2.toInt64) * ((y3 * y3) - (y3 * y3) / x2.toInt64 * x2.toInt64)) / x2.toInt64 * x2.toInt64)) / x2.toInt64 * x2.toInt64) * ((y3 * y3) - (y3 * y3) / x2.toInt64 * x2.toInt64)) / x2.toInt64 * x2.toInt64)), none, some (.int x5), some (.long ((y3 * y3) - (y3 * y3) / x2.toInt64 * x2.toInt64)), none, some (.long ((((y3 * y3) - (y3 * y3) / x2.toInt64 * x2.toInt64) * ((y3 * y3) - (y3 * y3) / x2.toInt64 * x2.toInt64)) - (((y3 * y3) - (y3 * y3) / x2.toInt64 * x2.toInt64) * ((y3 * y3) - (y3 * y3) / x2.toInt64 * x2.toInt64)) / x2.toInt64 * x2.toInt64)), none, some (.long ((((((y3 * y3) - (y3 * y3) / x2.toInt64 * x2.toInt64) * ((y3 * y3) - (y3 * y3) / x2.toInt64 * x2.toInt64)) - (((y3 * y3) - (y3 * y3) / x2.toInt64 * x2.toInt64) * ((y3 * y3) - (y3 * y3) / x2.toInt64 * x2.toInt64)) / x2.toInt64 * x2.toInt64) * ((((y3 * y3) - (y3 * y3) / x2.toInt64 * x2.toInt64) * ((y3 * y3) - (y3 * y3) / x2.toInt64 * x2.toInt64)) - (((y3 * y3) - (y3 * y3) / x2.toInt64 * x2.toInt64) * ((y3 * y3) - (y3 * y3) / x2.toInt64 * x2.toInt64)) / x2.toInt64 * x2.toInt64)) - (((((y3 * y3) - (y3 * y3) / x2.toInt64 * x2.toInt64) * ((y3 * y3) - (y3 * y3) / x2.toInt64 * x2.toInt64)) - (((y3 * y3) - (y3 * y3) / x2.toInt64 * x2.toInt64) * ((y3 * y3) - (y3 * y3) / x2.toInt64 * x2.toInt64)) / x2.toInt64 * x2.toInt64) * ((((y3 * y3) - (y3 * y3) / x2.toInt64 * x2.toInt64) * ((y3 * y3) - (y3 * y3) / x2.toInt64 * x2.toInt64)) - (((y3 * y3) - (y3 * y3) / x2.toInt64 * x2.toInt64) * ((y3 * y3) - (y3 * y3) / x2.toInt64 * x2.toInt64)) / x2.toInt64 * x2.toInt64)) / x2.toInt64 * x2.toInt64)), none, some (.int ((x1 / x5) - (x1 / x5) / 10 * 10))], [], σ)) rfl <|
      (k2 h1))

theorem R133_60 {X : Nat × (Nat → Int32)} {d : Nat} {r : mA mG} {σ : mG} {x0 : Int32} {x1 : Int32} {x2 : Int32} {y3 : Int64} {x5 : Int32} {y6 : Int64} {y8 : Int64} {y10 : Int64} {x12 : Int32}
    (k1 : x12 ≤ 0 → TT X d tb133 (some .int) (9, [some (.int x0), some (.int x1), some (.int x2), some (.long y3), none, some (.int (x5 / 10)), some (.long y6), none, some (.long y8), none, some (.long y10), none, some (.int x12)], [], σ) r)
    (b1 : ¬ (x12 ≤ 0) → ¬ x2.toInt64 = 0)
    (k2 : ¬ (x12 ≤ 0) → TT X d tb133 (some .int) (60, [some (.int x0), some (.int x1), some (.int x2), some (.long ((y3 * x0.toInt64) - (y3 * x0.toInt64) / x2.toInt64 * x2.toInt64)), none, some (.int x5), some (.long y6), none, some (.long y8), none, some (.long y10), none, some (.int (x12 + (-1)))], [], σ) r)
    : TT X d tb133 (some .int) (60, [some (.int x0), some (.int x1), some (.int x2), some (.long y3), none, some (.int x5), some (.long y6), none, some (.long y8), none, some (.long y10), none, some (.int x12)], [], σ) r := mi_T.go 1 (s1 := (62, [some (.int x0), some (.int x1), some (.int x2), some (.long y3), none, some (.int x5), some (.long y6), none, some (.long y8), none, some (.long y10), none, some (.int x12)], [.int x12], σ)) rfl <|
      mi_T.br (P := x12 ≤ 0) (fun _ => rfl)
      (fun h1 => mi_T.go 2 (s1 := (83, [some (.int x0), some (.int x1), some (.int x2), some (.long y3), none, some (.int x5), some (.long y6), none, some (.long y8), none, some (.long y10), none, some (.int x12)], [.int 10, .int x5], σ)) rfl <|
      mi_T.idiv rfl (by decide) <|
      mi_T.go 2 (s1 := (9, [some (.int x0), some (.int x1), some (.int x2), some (.long y3), none, some (.int (x5 / 10)), some (.long y6), none, some (.long y8), none, some (.long y10), none, some (.int x12)], [], σ)) rfl <|
      (k1 h1))
      (fun h1 => mi_T.go 6 (s1 := (71, [some (.int x0), some (.int x1), some (.int x2), some (.long y3), none, some (.int x5), some (.long y6), none, some (.long y8), none, some (.long y10), none, some (.int x12)], [.long x2.toInt64, .long (y3 * x0.toInt64)], σ)) rfl <|
      mi_T.lrem rfl (b1 h1) <|
      mi_T.go 3 (s1 := (60, [some (.int x0), some (.int x1), some (.int x2), some (.long ((y3 * x0.toInt64) - (y3 * x0.toInt64) / x2.toInt64 * x2.toInt64)), none, some (.int x5), some (.long y6), none, some (.long y8), none, some (.long y10), none, some (.int (x12 + (-1)))], [], σ)) rfl <|
      (k2 h1))

-- AssertionGateModel.printable(I)Z
theorem R134_0 {X : Nat × (Nat → Int32)} {d : Nat} {r : mA mG} {σ : mG} {x0 : Int32}
    (k1 : x0 < 32 → r = (some (.int 0), σ))
    (k2 : ¬ (x0 < 32) → 126 < x0 → r = (some (.int 0), σ))
    (k3 : ¬ (x0 < 32) → ¬ (126 < x0) → r = (some (.int 1), σ))
    : TT X d tb134 (some .boolean) (0, [some (.int x0)], [], σ) r := mi_T.go 2 (s1 := (3, [some (.int x0)], [.int 32, .int x0], σ)) rfl <|
      mi_T.br (P := x0 < 32) (fun _ => rfl)
      (fun h1 => mi_T.go 1 (s1 := (17, [some (.int x0)], [.int 0], σ)) rfl <|
      mi_T.fin (k1 h1) (fun _ => rfl))
      (fun h1 => mi_T.go 2 (s1 := (9, [some (.int x0)], [.int 126, .int x0], σ)) rfl <|
      mi_T.br (P := 126 < x0) (fun _ => rfl)
      (fun h2 => mi_T.go 1 (s1 := (17, [some (.int x0)], [.int 0], σ)) rfl <|
      mi_T.fin (k2 h1 h2) (fun _ => rfl))
      (fun h2 => mi_T.go 2 (s1 := (17, [some (.int x0)], [.int 1], σ)) rfl <|
      mi_T.fin (k3 h1 h2) (fun _ => rfl)))

-- AssertionGateModel.write(C)Z
theorem R135_0 {X : Nat × (Nat → Int32)} {d : Nat} {r : mA mG} {σ : mG} {x1 : Int32} {v1 : Int32} {σ1 : mG}
    (c1 : RR X d 134 [.int x1] σ (some (.int v1), σ1))
    (k1 : v1 = 0 → r = (some (.int 0), σ1))
    (b1 : ¬ (v1 = 0) → (σ1.1 38 4) < 400 → mi_in (σ1.1 38 4) 400 = true)
    (k2 : ¬ (v1 = 0) → (σ1.1 38 4) < 400 → r = (some (.int 1), (mi_uc (mi_uc σ1.1 39 (upd (σ1.1 39) ((σ1.1 38 4).toNatClampNeg) x1)) 38 (upd (σ1.1 38) 4 ((σ1.1 38 4) + 1)), σ1.2)))
    (k3 : ¬ (v1 = 0) → ¬ ((σ1.1 38 4) < 400) → r = (some (.int 0), σ1))
    : TT X d tb135 (some .boolean) (0, [some (.ref 38), some (.int x1)], [], σ) r := mi_T.go 1 (s1 := (1, [some (.ref 38), some (.int x1)], [.int x1], σ)) rfl <|
      mi_T.call (as := [.int x1]) (rest := []) (v := some (.int v1)) rfl rfl rfl rfl rfl (c1) <|
      mi_T.br (P := v1 = 0) (fun _ => rfl)
      (fun h1 => mi_T.go 1 (s1 := (18, [some (.ref 38), some (.int x1)], [.int 0], σ1)) rfl <|
      mi_T.fin (k1 h1) (fun _ => rfl))
      (fun h1 => mi_T.go 3 (s1 := (14, [some (.ref 38), some (.int x1)], [.int 400, .int (σ1.1 38 4)], σ1)) rfl <|
      mi_T.br (P := (σ1.1 38 4) < 400) (fun _ => rfl)
      (fun h2 => mi_T.go 5 (s1 := (28, [some (.ref 38), some (.int x1)], [.int x1, .int (σ1.1 38 4), .ref 39], σ1)) rfl <|
      mi_T.si rfl rfl (b1 h1 h2) <|
      mi_T.go 7 (s1 := (40, [some (.ref 38), some (.int x1)], [.int 1], (mi_uc (mi_uc σ1.1 39 (upd (σ1.1 39) ((σ1.1 38 4).toNatClampNeg) x1)) 38 (upd (σ1.1 38) 4 ((σ1.1 38 4) + 1)), σ1.2))) rfl <|
      mi_T.fin (k2 h1 h2) (fun _ => rfl))
      (fun h2 => mi_T.go 1 (s1 := (18, [some (.ref 38), some (.int x1)], [.int 0], σ1)) rfl <|
      mi_T.fin (k3 h1 h2) (fun _ => rfl)))

-- AssertionGateModel.set(IC)Z
theorem R136_0 {X : Nat × (Nat → Int32)} {d : Nat} {r : mA mG} {σ : mG} {x1 : Int32} {x2 : Int32} {v1 : Int32} {σ1 : mG}
    (k1 : x1 < 0 → r = (some (.int 0), σ))
    (k2 : ¬ (x1 < 0) → (σ.1 38 4) ≤ x1 → r = (some (.int 0), σ))
    (c1 : ¬ (x1 < 0) → ¬ ((σ.1 38 4) ≤ x1) → RR X d 134 [.int x2] σ (some (.int v1), σ1))
    (b1 : ¬ (x1 < 0) → ¬ ((σ.1 38 4) ≤ x1) → ¬ v1 = 0 → mi_in x1 400 = true)
    (k3 : ¬ (x1 < 0) → ¬ ((σ.1 38 4) ≤ x1) → ¬ v1 = 0 → r = (some (.int 1), (mi_uc σ1.1 39 (upd (σ1.1 39) x1.toNatClampNeg x2), σ1.2)))
    (k4 : ¬ (x1 < 0) → ¬ ((σ.1 38 4) ≤ x1) → ¬ (¬ v1 = 0) → r = (some (.int 0), σ1))
    : TT X d tb136 (some .boolean) (0, [some (.ref 38), some (.int x1), some (.int x2)], [], σ) r := mi_T.go 1 (s1 := (1, [some (.ref 38), some (.int x1), some (.int x2)], [.int x1], σ)) rfl <|
      mi_T.br (P := x1 < 0) (fun _ => rfl)
      (fun h1 => mi_T.go 1 (s1 := (20, [some (.ref 38), some (.int x1), some (.int x2)], [.int 0], σ)) rfl <|
      mi_T.fin (k1 h1) (fun _ => rfl))
      (fun h1 => mi_T.go 3 (s1 := (9, [some (.ref 38), some (.int x1), some (.int x2)], [.int (σ.1 38 4), .int x1], σ)) rfl <|
      mi_T.br (P := (σ.1 38 4) ≤ x1) (fun _ => rfl)
      (fun h2 => mi_T.go 1 (s1 := (20, [some (.ref 38), some (.int x1), some (.int x2)], [.int 0], σ)) rfl <|
      mi_T.fin (k2 h1 h2) (fun _ => rfl))
      (fun h2 => mi_T.go 1 (s1 := (13, [some (.ref 38), some (.int x1), some (.int x2)], [.int x2], σ)) rfl <|
      mi_T.call (as := [.int x2]) (rest := []) (v := some (.int v1)) rfl rfl rfl rfl rfl (c1 h1 h2) <|
      mi_T.br (P := ¬ v1 = 0) (fun _ => rfl)
      (fun h3 => mi_T.go 4 (s1 := (27, [some (.ref 38), some (.int x1), some (.int x2)], [.int x2, .int x1, .ref 39], σ1)) rfl <|
      mi_T.si rfl rfl (b1 h1 h2 h3) <|
      mi_T.go 1 (s1 := (29, [some (.ref 38), some (.int x1), some (.int x2)], [.int 1], (mi_uc σ1.1 39 (upd (σ1.1 39) x1.toNatClampNeg x2), σ1.2))) rfl <|
      mi_T.fin (k3 h1 h2 h3) (fun _ => rfl))
      (fun h3 => mi_T.go 1 (s1 := (20, [some (.ref 38), some (.int x1), some (.int x2)], [.int 0], σ1)) rfl <|
      mi_T.fin (k4 h1 h2 h3) (fun _ => rfl))))

-- AssertionGateModel.cut(II)Z
theorem R137_0 {X : Nat × (Nat → Int32)} {d : Nat} {r : mA mG} {σ : mG} {x1 : Int32} {x2 : Int32}
    (k1 : x1 < 0 → r = (some (.int 0), σ))
    (k2 : ¬ (x1 < 0) → x2 < x1 → r = (some (.int 0), σ))
    (k3 : ¬ (x1 < 0) → ¬ (x2 < x1) → x2 ≤ (σ.1 38 4) → TT X d tb137 (some .boolean) (28, [some (.ref 38), some (.int x1), some (.int x2), some (.int 0)], [], (mi_uc σ.1 38 (upd (σ.1 38) 6 (x2 - x1)), σ.2)) r)
    (k4 : ¬ (x1 < 0) → ¬ (x2 < x1) → ¬ (x2 ≤ (σ.1 38 4)) → r = (some (.int 0), σ))
    : TT X d tb137 (some .boolean) (0, [some (.ref 38), some (.int x1), some (.int x2), none], [], σ) r := mi_T.go 1 (s1 := (1, [some (.ref 38), some (.int x1), some (.int x2), none], [.int x1], σ)) rfl <|
      mi_T.br (P := x1 < 0) (fun _ => rfl)
      (fun h1 => mi_T.go 1 (s1 := (18, [some (.ref 38), some (.int x1), some (.int x2), none], [.int 0], σ)) rfl <|
      mi_T.fin (k1 h1) (fun _ => rfl))
      (fun h1 => mi_T.go 2 (s1 := (6, [some (.ref 38), some (.int x1), some (.int x2), none], [.int x2, .int x1], σ)) rfl <|
      mi_T.br (P := x2 < x1) (fun _ => rfl)
      (fun h2 => mi_T.go 1 (s1 := (18, [some (.ref 38), some (.int x1), some (.int x2), none], [.int 0], σ)) rfl <|
      mi_T.fin (k2 h1 h2) (fun _ => rfl))
      (fun h2 => mi_T.go 3 (s1 := (14, [some (.ref 38), some (.int x1), some (.int x2), none], [.int (σ.1 38 4), .int x2], σ)) rfl <|
      mi_T.br (P := x2 ≤ (σ.1 38 4)) (fun _ => rfl)
      (fun h3 => mi_T.go 7 (s1 := (28, [some (.ref 38), some (.int x1), some (.int x2), some (.int 0)], [], (mi_uc σ.1 38 (upd (σ.1 38) 6 (x2 - x1)), σ.2))) rfl <|
      (k3 h1 h2 h3))
      (fun h3 => mi_T.go 1 (s1 := (18, [some (.ref 38), some (.int x1), some (.int x2), none], [.int 0], σ)) rfl <|
      mi_T.fin (k4 h1 h2 h3) (fun _ => rfl))))

theorem R137_28 {X : Nat × (Nat → Int32)} {d : Nat} {r : mA mG} {σ : mG} {x1 : Int32} {x2 : Int32} {x3 : Int32}
    (k1 : (σ.1 38 6) ≤ x3 → TT X d tb137 (some .boolean) (58, [some (.ref 38), some (.int x1), some (.int x2), some (.int x2)], [], σ) r)
    (b1 : ¬ ((σ.1 38 6) ≤ x3) → mi_in (x1 + x3) 400 = true)
    (b2 : ¬ ((σ.1 38 6) ≤ x3) → mi_in x3 400 = true)
    (k2 : ¬ ((σ.1 38 6) ≤ x3) → TT X d tb137 (some .boolean) (28, [some (.ref 38), some (.int x1), some (.int x2), some (.int (x3 + 1))], [], (mi_uc σ.1 40 (upd (σ.1 40) x3.toNatClampNeg (σ.1 39 ((x1 + x3).toNatClampNeg))), σ.2)) r)
    : TT X d tb137 (some .boolean) (28, [some (.ref 38), some (.int x1), some (.int x2), some (.int x3)], [], σ) r := mi_T.go 3 (s1 := (33, [some (.ref 38), some (.int x1), some (.int x2), some (.int x3)], [.int (σ.1 38 6), .int x3], σ)) rfl <|
      mi_T.br (P := (σ.1 38 6) ≤ x3) (fun _ => rfl)
      (fun h1 => mi_T.go 2 (s1 := (58, [some (.ref 38), some (.int x1), some (.int x2), some (.int x2)], [], σ)) rfl <|
      (k1 h1))
      (fun h1 => mi_T.go 8 (s1 := (48, [some (.ref 38), some (.int x1), some (.int x2), some (.int x3)], [.int (x1 + x3), .ref 39, .int x3, .ref 40], σ)) rfl <|
      mi_T.li rfl rfl (b1 h1) <|
      mi_T.si rfl rfl (b2 h1) <|
      mi_T.go 2 (s1 := (28, [some (.ref 38), some (.int x1), some (.int x2), some (.int (x3 + 1))], [], (mi_uc σ.1 40 (upd (σ.1 40) x3.toNatClampNeg (σ.1 39 ((x1 + x3).toNatClampNeg))), σ.2))) rfl <|
      (k2 h1))

theorem R137_58 {X : Nat × (Nat → Int32)} {d : Nat} {r : mA mG} {σ : mG} {x1 : Int32} {x2 : Int32} {x3 : Int32}
    (k1 : (σ.1 38 4) ≤ x3 → r = (some (.int 1), (mi_uc σ.1 38 (upd (σ.1 38) 4 ((σ.1 38 4) - (σ.1 38 6))), σ.2)))
    (b1 : ¬ ((σ.1 38 4) ≤ x3) → mi_in x3 400 = true)
    (b2 : ¬ ((σ.1 38 4) ≤ x3) → mi_in (x3 - (σ.1 38 6)) 400 = true)
    (k2 : ¬ ((σ.1 38 4) ≤ x3) → TT X d tb137 (some .boolean) (58, [some (.ref 38), some (.int x1), some (.int x2), some (.int (x3 + 1))], [], (mi_uc σ.1 39 (upd (σ.1 39) ((x3 - (σ.1 38 6)).toNatClampNeg) (σ.1 39 x3.toNatClampNeg)), σ.2)) r)
    : TT X d tb137 (some .boolean) (58, [some (.ref 38), some (.int x1), some (.int x2), some (.int x3)], [], σ) r := mi_T.go 3 (s1 := (63, [some (.ref 38), some (.int x1), some (.int x2), some (.int x3)], [.int (σ.1 38 4), .int x3], σ)) rfl <|
      mi_T.br (P := (σ.1 38 4) ≤ x3) (fun _ => rfl)
      (fun h1 => mi_T.go 8 (s1 := (103, [some (.ref 38), some (.int x1), some (.int x2), some (.int x3)], [.int 1], (mi_uc σ.1 38 (upd (σ.1 38) 4 ((σ.1 38 4) - (σ.1 38 6))), σ.2))) rfl <|
      mi_T.fin (k1 h1) (fun _ => rfl))
      (fun h1 => mi_T.go 9 (s1 := (81, [some (.ref 38), some (.int x1), some (.int x2), some (.int x3)], [.int x3, .ref 39, .int (x3 - (σ.1 38 6)), .ref 39], σ)) rfl <|
      mi_T.li rfl rfl (b1 h1) <|
      mi_T.si rfl rfl (b2 h1) <|
      mi_T.go 2 (s1 := (58, [some (.ref 38), some (.int x1), some (.int x2), some (.int (x3 + 1))], [], (mi_uc σ.1 39 (upd (σ.1 39) ((x3 - (σ.1 38 6)).toNatClampNeg) (σ.1 39 x3.toNatClampNeg)), σ.2))) rfl <|
      (k2 h1))

-- AssertionGateModel.paste(I)Z
theorem R138_0 {X : Nat × (Nat → Int32)} {d : Nat} {r : mA mG} {σ : mG} {x1 : Int32}
    (k1 : x1 < 0 → r = (some (.int 0), σ))
    (k2 : ¬ (x1 < 0) → (σ.1 38 4) < x1 → r = (some (.int 0), σ))
    (k3 : ¬ (x1 < 0) → ¬ ((σ.1 38 4) < x1) → ((σ.1 38 4) + (σ.1 38 6)) ≤ 400 → TT X d tb138 (some .boolean) (36, [some (.ref 38), some (.int x1), some (.int ((σ.1 38 4) - 1))], [], σ) r)
    (k4 : ¬ (x1 < 0) → ¬ ((σ.1 38 4) < x1) → ¬ (((σ.1 38 4) + (σ.1 38 6)) ≤ 400) → r = (some (.int 0), σ))
    : TT X d tb138 (some .boolean) (0, [some (.ref 38), some (.int x1), none], [], σ) r := mi_T.go 1 (s1 := (1, [some (.ref 38), some (.int x1), none], [.int x1], σ)) rfl <|
      mi_T.br (P := x1 < 0) (fun _ => rfl)
      (fun h1 => mi_T.go 1 (s1 := (28, [some (.ref 38), some (.int x1), none], [.int 0], σ)) rfl <|
      mi_T.fin (k1 h1) (fun _ => rfl))
      (fun h1 => mi_T.go 3 (s1 := (9, [some (.ref 38), some (.int x1), none], [.int (σ.1 38 4), .int x1], σ)) rfl <|
      mi_T.br (P := (σ.1 38 4) < x1) (fun _ => rfl)
      (fun h2 => mi_T.go 1 (s1 := (28, [some (.ref 38), some (.int x1), none], [.int 0], σ)) rfl <|
      mi_T.fin (k2 h1 h2) (fun _ => rfl))
      (fun h2 => mi_T.go 6 (s1 := (24, [some (.ref 38), some (.int x1), none], [.int 400, .int ((σ.1 38 4) + (σ.1 38 6))], σ)) rfl <|
      mi_T.br (P := ((σ.1 38 4) + (σ.1 38 6)) ≤ 400) (fun _ => rfl)
      (fun h3 => mi_T.go 5 (s1 := (36, [some (.ref 38), some (.int x1), some (.int ((σ.1 38 4) - 1))], [], σ)) rfl <|
      (k3 h1 h2 h3))
      (fun h3 => mi_T.go 1 (s1 := (28, [some (.ref 38), some (.int x1), none], [.int 0], σ)) rfl <|
      mi_T.fin (k4 h1 h2 h3) (fun _ => rfl))))

theorem R138_36 {X : Nat × (Nat → Int32)} {d : Nat} {r : mA mG} {σ : mG} {x1 : Int32} {x2 : Int32}
    (k1 : x2 < x1 → TT X d tb138 (some .boolean) (66, [some (.ref 38), some (.int x1), some (.int 0)], [], σ) r)
    (b1 : ¬ (x2 < x1) → mi_in x2 400 = true)
    (b2 : ¬ (x2 < x1) → mi_in (x2 + (σ.1 38 6)) 400 = true)
    (k2 : ¬ (x2 < x1) → TT X d tb138 (some .boolean) (36, [some (.ref 38), some (.int x1), some (.int (x2 + (-1)))], [], (mi_uc σ.1 39 (upd (σ.1 39) ((x2 + (σ.1 38 6)).toNatClampNeg) (σ.1 39 x2.toNatClampNeg)), σ.2)) r)
    : TT X d tb138 (some .boolean) (36, [some (.ref 38), some (.int x1), some (.int x2)], [], σ) r := mi_T.go 2 (s1 := (38, [some (.ref 38), some (.int x1), some (.int x2)], [.int x1, .int x2], σ)) rfl <|
      mi_T.br (P := x2 < x1) (fun _ => rfl)
      (fun h1 => mi_T.go 2 (s1 := (66, [some (.ref 38), some (.int x1), some (.int 0)], [], σ)) rfl <|
      (k1 h1))
      (fun h1 => mi_T.go 9 (s1 := (56, [some (.ref 38), some (.int x1), some (.int x2)], [.int x2, .ref 39, .int (x2 + (σ.1 38 6)), .ref 39], σ)) rfl <|
      mi_T.li rfl rfl (b1 h1) <|
      mi_T.si rfl rfl (b2 h1) <|
      mi_T.go 2 (s1 := (36, [some (.ref 38), some (.int x1), some (.int (x2 + (-1)))], [], (mi_uc σ.1 39 (upd (σ.1 39) ((x2 + (σ.1 38 6)).toNatClampNeg) (σ.1 39 x2.toNatClampNeg)), σ.2))) rfl <|
      (k2 h1))

theorem R138_66 {X : Nat × (Nat → Int32)} {d : Nat} {r : mA mG} {σ : mG} {x1 : Int32} {x2 : Int32}
    (k1 : (σ.1 38 6) ≤ x2 → r = (some (.int 1), (mi_uc σ.1 38 (upd (σ.1 38) 4 ((σ.1 38 4) + (σ.1 38 6))), σ.2)))
    (b1 : ¬ ((σ.1 38 6) ≤ x2) → mi_in x2 400 = true)
    (b2 : ¬ ((σ.1 38 6) ≤ x2) → mi_in (x1 + x2) 400 = true)
    (k2 : ¬ ((σ.1 38 6) ≤ x2) → TT X d tb138 (some .boolean) (66, [some (.ref 38), some (.int x1), some (.int (x2 + 1))], [], (mi_uc σ.1 39 (upd (σ.1 39) ((x1 + x2).toNatClampNeg) (σ.1 40 x2.toNatClampNeg)), σ.2)) r)
    : TT X d tb138 (some .boolean) (66, [some (.ref 38), some (.int x1), some (.int x2)], [], σ) r := mi_T.go 3 (s1 := (71, [some (.ref 38), some (.int x1), some (.int x2)], [.int (σ.1 38 6), .int x2], σ)) rfl <|
      mi_T.br (P := (σ.1 38 6) ≤ x2) (fun _ => rfl)
      (fun h1 => mi_T.go 8 (s1 := (108, [some (.ref 38), some (.int x1), some (.int x2)], [.int 1], (mi_uc σ.1 38 (upd (σ.1 38) 4 ((σ.1 38 4) + (σ.1 38 6))), σ.2))) rfl <|
      mi_T.fin (k1 h1) (fun _ => rfl))
      (fun h1 => mi_T.go 8 (s1 := (86, [some (.ref 38), some (.int x1), some (.int x2)], [.int x2, .ref 40, .int (x1 + x2), .ref 39], σ)) rfl <|
      mi_T.li rfl rfl (b1 h1) <|
      mi_T.si rfl rfl (b2 h1) <|
      mi_T.go 2 (s1 := (66, [some (.ref 38), some (.int x1), some (.int (x2 + 1))], [], (mi_uc σ.1 39 (upd (σ.1 39) ((x1 + x2).toNatClampNeg) (σ.1 40 x2.toNatClampNeg)), σ.2))) rfl <|
      (k2 h1))

-- AssertionGateModel.clear()V
theorem R139_0 {X : Nat × (Nat → Int32)} {d : Nat} {r : mA mG} {σ : mG} 
    (k1 : r = (none, (mi_uc σ.1 38 (upd (σ.1 38) 4 0), σ.2)))
    : TT X d tb139 none (0, [some (.ref 38)], [], σ) r := mi_T.go 3 (s1 := (5, [some (.ref 38)], [], (mi_uc σ.1 38 (upd (σ.1 38) 4 0), σ.2))) rfl <|
      mi_T.fin (k1) (fun _ => rfl)

-- AssertionGateModel.length()I
theorem R140_0 {X : Nat × (Nat → Int32)} {d : Nat} {r : mA mG} {σ : mG} 
    (k1 : r = (some (.int (σ.1 38 4)), σ))
    : TT X d tb140 (some .int) (0, [some (.ref 38)], [], σ) r := mi_T.go 2 (s1 := (4, [some (.ref 38)], [.int (σ.1 38 4)], σ)) rfl <|
      mi_T.fin (k1) (fun _ => rfl)

-- AssertionGateModel.at(I)I
theorem R141_0 {X : Nat × (Nat → Int32)} {d : Nat} {r : mA mG} {σ : mG} {x1 : Int32}
    (k1 : x1 < 0 → r = (some (.int (-1)), σ))
    (k2 : ¬ (x1 < 0) → (σ.1 38 4) ≤ x1 → r = (some (.int (-1)), σ))
    (b1 : ¬ (x1 < 0) → ¬ ((σ.1 38 4) ≤ x1) → mi_in x1 400 = true)
    (k3 : ¬ (x1 < 0) → ¬ ((σ.1 38 4) ≤ x1) → r = (some (.int (σ.1 39 x1.toNatClampNeg)), σ))
    : TT X d tb141 (some .int) (0, [some (.ref 38), some (.int x1)], [], σ) r := mi_T.go 1 (s1 := (1, [some (.ref 38), some (.int x1)], [.int x1], σ)) rfl <|
      mi_T.br (P := x1 < 0) (fun _ => rfl)
      (fun h1 => mi_T.go 1 (s1 := (22, [some (.ref 38), some (.int x1)], [.int (-1)], σ)) rfl <|
      mi_T.fin (k1 h1) (fun _ => rfl))
      (fun h1 => mi_T.go 3 (s1 := (9, [some (.ref 38), some (.int x1)], [.int (σ.1 38 4), .int x1], σ)) rfl <|
      mi_T.br (P := (σ.1 38 4) ≤ x1) (fun _ => rfl)
      (fun h2 => mi_T.go 1 (s1 := (22, [some (.ref 38), some (.int x1)], [.int (-1)], σ)) rfl <|
      mi_T.fin (k2 h1 h2) (fun _ => rfl))
      (fun h2 => mi_T.go 3 (s1 := (17, [some (.ref 38), some (.int x1)], [.int x1, .ref 39], σ)) rfl <|
      mi_T.li rfl rfl (b1 h1 h2) <|
      mi_T.go 1 (s1 := (22, [some (.ref 38), some (.int x1)], [.int (σ.1 39 x1.toNatClampNeg)], σ)) rfl <|
      mi_T.fin (k3 h1 h2) (fun _ => rfl)))

-- AssertionGateModel.dashes(I)Z
theorem R142_0 {X : Nat × (Nat → Int32)} {d : Nat} {r : mA mG} {σ : mG} {x1 : Int32} {v1 : Int32} {σ1 : mG} {v2 : Int32} {σ2 : mG}
    (c1 : RR X d 141 [.ref 38, .int x1] σ (some (.int v1), σ1))
    (k1 : ¬ v1 = 45 → r = (some (.int 0), σ1))
    (c2 : ¬ (¬ v1 = 45) → RR X d 141 [.ref 38, .int (x1 + 1)] σ1 (some (.int v2), σ2))
    (k2 : ¬ (¬ v1 = 45) → ¬ v2 = 45 → r = (some (.int 0), σ2))
    (k3 : ¬ (¬ v1 = 45) → ¬ (¬ v2 = 45) → r = (some (.int 1), σ2))
    : TT X d tb142 (some .boolean) (0, [some (.ref 38), some (.int x1)], [], σ) r := mi_T.go 2 (s1 := (2, [some (.ref 38), some (.int x1)], [.int x1, .ref 38], σ)) rfl <|
      mi_T.call (as := [.ref 38, .int x1]) (rest := []) (v := some (.int v1)) rfl rfl rfl rfl rfl (c1) <|
      mi_T.go 1 (s1 := (7, [some (.ref 38), some (.int x1)], [.int 45, .int v1], σ1)) rfl <|
      mi_T.br (P := ¬ v1 = 45) (fun _ => rfl)
      (fun h1 => mi_T.go 1 (s1 := (27, [some (.ref 38), some (.int x1)], [.int 0], σ1)) rfl <|
      mi_T.fin (k1 h1) (fun _ => rfl))
      (fun h1 => mi_T.go 4 (s1 := (14, [some (.ref 38), some (.int x1)], [.int (x1 + 1), .ref 38], σ1)) rfl <|
      mi_T.call (as := [.ref 38, .int (x1 + 1)]) (rest := []) (v := some (.int v2)) rfl rfl rfl rfl rfl (c2 h1) <|
      mi_T.go 1 (s1 := (19, [some (.ref 38), some (.int x1)], [.int 45, .int v2], σ2)) rfl <|
      mi_T.br (P := ¬ v2 = 45) (fun _ => rfl)
      (fun h2 => mi_T.go 1 (s1 := (27, [some (.ref 38), some (.int x1)], [.int 0], σ2)) rfl <|
      mi_T.fin (k2 h1 h2) (fun _ => rfl))
      (fun h2 => mi_T.go 2 (s1 := (27, [some (.ref 38), some (.int x1)], [.int 1], σ2)) rfl <|
      mi_T.fin (k3 h1 h2) (fun _ => rfl)))

-- AssertionGateModel.banned()Z
theorem R143_0 {X : Nat × (Nat → Int32)} {d : Nat} {r : mA mG} {σ : mG} 
    (k1 : TT X d tb143 (some .boolean) (4, [some (.ref 38), some (.int 0), some (.int 0), none], [], σ) r)
    : TT X d tb143 (some .boolean) (0, [some (.ref 38), none, none, none], [], σ) r := mi_T.go 4 (s1 := (4, [some (.ref 38), some (.int 0), some (.int 0), none], [], σ)) rfl <|
      k1

theorem R143_4 {X : Nat × (Nat → Int32)} {d : Nat} {r : mA mG} {σ : mG} {x1 : Int32} {x2 : Int32} {u3 : Option Value} {v1 : Int32} {σ1 : mG} {v2 : Int32} {σ2 : mG} {v3 : Int32} {σ3 : mG}
    (k1 : (σ.1 38 4) ≤ x2 → r = (some (.int x1), σ))
    (b1 : (σ.1 38 4) ≤ x2 → x1 = 0 ∨ x1 = 1)
    (b2 : ¬ ((σ.1 38 4) ≤ x2) → mi_in x2 400 = true)
    (k2 : ¬ ((σ.1 38 4) ≤ x2) → ¬ (σ.1 39 x2.toNatClampNeg) = 60 → TT X d tb143 (some .boolean) (61, [some (.ref 38), some (.int x1), some (.int x2), u3], [], σ) r)
    (c1 : ¬ ((σ.1 38 4) ≤ x2) → ¬ (¬ (σ.1 39 x2.toNatClampNeg) = 60) → RR X d 141 [.ref 38, .int (x2 + 1)] σ (some (.int v1), σ1))
    (k3 : ¬ ((σ.1 38 4) ≤ x2) → ¬ (¬ (σ.1 39 x2.toNatClampNeg) = 60) → v1 = 63 → TT X d tb143 (some .boolean) (57, [some (.ref 38), some (.int x1), some (.int x2), u3], [], σ1) r)
    (c2 : ¬ ((σ.1 38 4) ≤ x2) → ¬ (¬ (σ.1 39 x2.toNatClampNeg) = 60) → ¬ (v1 = 63) → RR X d 141 [.ref 38, .int (x2 + 1)] σ1 (some (.int v2), σ2))
    (k4 : ¬ ((σ.1 38 4) ≤ x2) → ¬ (¬ (σ.1 39 x2.toNatClampNeg) = 60) → ¬ (v1 = 63) → ¬ v2 = 33 → TT X d tb143 (some .boolean) (61, [some (.ref 38), some (.int x1), some (.int x2), u3], [], σ2) r)
    (c3 : ¬ ((σ.1 38 4) ≤ x2) → ¬ (¬ (σ.1 39 x2.toNatClampNeg) = 60) → ¬ (v1 = 63) → ¬ (¬ v2 = 33) → RR X d 142 [.ref 38, .int (x2 + 2)] σ2 (some (.int v3), σ3))
    (k5 : ¬ ((σ.1 38 4) ≤ x2) → ¬ (¬ (σ.1 39 x2.toNatClampNeg) = 60) → ¬ (v1 = 63) → ¬ (¬ v2 = 33) → ¬ v3 = 0 → TT X d tb143 (some .boolean) (61, [some (.ref 38), some (.int x1), some (.int x2), u3], [], σ3) r)
    (k6 : ¬ ((σ.1 38 4) ≤ x2) → ¬ (¬ (σ.1 39 x2.toNatClampNeg) = 60) → ¬ (v1 = 63) → ¬ (¬ v2 = 33) → ¬ (¬ v3 = 0) → TT X d tb143 (some .boolean) (57, [some (.ref 38), some (.int x1), some (.int x2), u3], [], σ3) r)
    : TT X d tb143 (some .boolean) (4, [some (.ref 38), some (.int x1), some (.int x2), u3], [], σ) r := mi_T.go 3 (s1 := (9, [some (.ref 38), some (.int x1), some (.int x2), u3], [.int (σ.1 38 4), .int x2], σ)) rfl <|
      mi_T.br (P := (σ.1 38 4) ≤ x2) (fun _ => rfl)
      (fun h1 => mi_T.go 1 (s1 := (95, [some (.ref 38), some (.int x1), some (.int x2), u3], [.int x1], σ)) rfl <|
      mi_T.finz rfl (b1 h1) (k1 h1))
      (fun h1 => mi_T.go 3 (s1 := (17, [some (.ref 38), some (.int x1), some (.int x2), u3], [.int x2, .ref 39], σ)) rfl <|
      mi_T.li rfl rfl (b2 h1) <|
      mi_T.go 1 (s1 := (20, [some (.ref 38), some (.int x1), some (.int x2), u3], [.int 60, .int (σ.1 39 x2.toNatClampNeg)], σ)) rfl <|
      mi_T.br (P := ¬ (σ.1 39 x2.toNatClampNeg) = 60) (fun _ => rfl)
      (fun h2 => (k2 h1 h2))
      (fun h2 => mi_T.go 4 (s1 := (27, [some (.ref 38), some (.int x1), some (.int x2), u3], [.int (x2 + 1), .ref 38], σ)) rfl <|
      mi_T.call (as := [.ref 38, .int (x2 + 1)]) (rest := []) (v := some (.int v1)) rfl rfl rfl rfl rfl (c1 h1 h2) <|
      mi_T.go 1 (s1 := (32, [some (.ref 38), some (.int x1), some (.int x2), u3], [.int 63, .int v1], σ1)) rfl <|
      mi_T.br (P := v1 = 63) (fun _ => rfl)
      (fun h3 => (k3 h1 h2 h3))
      (fun h3 => mi_T.go 4 (s1 := (39, [some (.ref 38), some (.int x1), some (.int x2), u3], [.int (x2 + 1), .ref 38], σ1)) rfl <|
      mi_T.call (as := [.ref 38, .int (x2 + 1)]) (rest := []) (v := some (.int v2)) rfl rfl rfl rfl rfl (c2 h1 h2 h3) <|
      mi_T.go 1 (s1 := (44, [some (.ref 38), some (.int x1), some (.int x2), u3], [.int 33, .int v2], σ2)) rfl <|
      mi_T.br (P := ¬ v2 = 33) (fun _ => rfl)
      (fun h4 => (k4 h1 h2 h3 h4))
      (fun h4 => mi_T.go 4 (s1 := (51, [some (.ref 38), some (.int x1), some (.int x2), u3], [.int (x2 + 2), .ref 38], σ2)) rfl <|
      mi_T.call (as := [.ref 38, .int (x2 + 2)]) (rest := []) (v := some (.int v3)) rfl rfl rfl rfl rfl (c3 h1 h2 h3 h4) <|
      mi_T.br (P := ¬ v3 = 0) (fun _ => rfl)
      (fun h5 => (k5 h1 h2 h3 h4 h5))
      (fun h5 => (k6 h1 h2 h3 h4 h5))))))

theorem R143_57 {X : Nat × (Nat → Int32)} {d : Nat} {r : mA mG} {σ : mG} {x1 : Int32} {x2 : Int32} {u3 : Option Value}
    (k1 : TT X d tb143 (some .boolean) (62, [some (.ref 38), some (.int x1), some (.int x2), u3], [.int 1], σ) r)
    : TT X d tb143 (some .boolean) (57, [some (.ref 38), some (.int x1), some (.int x2), u3], [], σ) r := mi_T.go 2 (s1 := (62, [some (.ref 38), some (.int x1), some (.int x2), u3], [.int 1], σ)) rfl <|
      k1

theorem R143_61 {X : Nat × (Nat → Int32)} {d : Nat} {r : mA mG} {σ : mG} {x1 : Int32} {x2 : Int32} {u3 : Option Value}
    (k1 : TT X d tb143 (some .boolean) (62, [some (.ref 38), some (.int x1), some (.int x2), u3], [.int 0], σ) r)
    : TT X d tb143 (some .boolean) (61, [some (.ref 38), some (.int x1), some (.int x2), u3], [], σ) r := mi_T.go 1 (s1 := (62, [some (.ref 38), some (.int x1), some (.int x2), u3], [.int 0], σ)) rfl <|
      k1

theorem R143_62 {X : Nat × (Nat → Int32)} {d : Nat} {r : mA mG} {σ : mG} {x1 : Int32} {x2 : Int32} {u3 : Option Value} {xs0 : Int32}
    (k1 : ¬ x1 = 0 → TT X d tb143 (some .boolean) (82, [some (.ref 38), some (.int x1), some (.int x2), some (.int xs0)], [], σ) r)
    (b1 : ¬ (¬ x1 = 0) → mi_in x2 400 = true)
    (k2 : ¬ (¬ x1 = 0) → (σ.1 39 x2.toNatClampNeg) = 38 → TT X d tb143 (some .boolean) (82, [some (.ref 38), some (.int x1), some (.int x2), some (.int xs0)], [], σ) r)
    (k3 : ¬ (¬ x1 = 0) → ¬ ((σ.1 39 x2.toNatClampNeg) = 38) → xs0 = 0 → TT X d tb143 (some .boolean) (87, [some (.ref 38), some (.int x1), some (.int x2), some (.int xs0)], [.int 0], σ) r)
    (k4 : ¬ (¬ x1 = 0) → ¬ ((σ.1 39 x2.toNatClampNeg) = 38) → ¬ (xs0 = 0) → TT X d tb143 (some .boolean) (82, [some (.ref 38), some (.int x1), some (.int x2), some (.int xs0)], [], σ) r)
    : TT X d tb143 (some .boolean) (62, [some (.ref 38), some (.int x1), some (.int x2), u3], [.int xs0], σ) r := mi_T.go 2 (s1 := (64, [some (.ref 38), some (.int x1), some (.int x2), some (.int xs0)], [.int x1], σ)) rfl <|
      mi_T.br (P := ¬ x1 = 0) (fun _ => rfl)
      (fun h1 => (k1 h1))
      (fun h1 => mi_T.go 3 (s1 := (72, [some (.ref 38), some (.int x1), some (.int x2), some (.int xs0)], [.int x2, .ref 39], σ)) rfl <|
      mi_T.li rfl rfl (b1 h1) <|
      mi_T.go 1 (s1 := (75, [some (.ref 38), some (.int x1), some (.int x2), some (.int xs0)], [.int 38, .int (σ.1 39 x2.toNatClampNeg)], σ)) rfl <|
      mi_T.br (P := (σ.1 39 x2.toNatClampNeg) = 38) (fun _ => rfl)
      (fun h2 => (k2 h1 h2))
      (fun h2 => mi_T.go 1 (s1 := (79, [some (.ref 38), some (.int x1), some (.int x2), some (.int xs0)], [.int xs0], σ)) rfl <|
      mi_T.br (P := xs0 = 0) (fun _ => rfl)
      (fun h3 => mi_T.go 1 (s1 := (87, [some (.ref 38), some (.int x1), some (.int x2), some (.int xs0)], [.int 0], σ)) rfl <|
      (k3 h1 h2 h3))
      (fun h3 => (k4 h1 h2 h3))))

theorem R143_82 {X : Nat × (Nat → Int32)} {d : Nat} {r : mA mG} {σ : mG} {x1 : Int32} {x2 : Int32} {x3 : Int32}
    (k1 : TT X d tb143 (some .boolean) (87, [some (.ref 38), some (.int x1), some (.int x2), some (.int x3)], [.int 1], σ) r)
    : TT X d tb143 (some .boolean) (82, [some (.ref 38), some (.int x1), some (.int x2), some (.int x3)], [], σ) r := mi_T.go 2 (s1 := (87, [some (.ref 38), some (.int x1), some (.int x2), some (.int x3)], [.int 1], σ)) rfl <|
      k1

theorem R143_87 {X : Nat × (Nat → Int32)} {d : Nat} {r : mA mG} {σ : mG} {x1 : Int32} {x2 : Int32} {x3 : Int32} {xs0 : Int32}
    (k1 : TT X d tb143 (some .boolean) (4, [some (.ref 38), some (.int xs0), some (.int (x2 + 1)), some (.int x3)], [], σ) r)
    : TT X d tb143 (some .boolean) (87, [some (.ref 38), some (.int x1), some (.int x2), some (.int x3)], [.int xs0], σ) r := mi_T.go 3 (s1 := (4, [some (.ref 38), some (.int xs0), some (.int (x2 + 1)), some (.int x3)], [], σ)) rfl <|
      k1

-- AssertionGateModel.letter(I)Z
theorem R144_0 {X : Nat × (Nat → Int32)} {d : Nat} {r : mA mG} {σ : mG} {x0 : Int32}
    (k1 : x0 < 97 → r = (some (.int 0), σ))
    (k2 : ¬ (x0 < 97) → 122 < x0 → r = (some (.int 0), σ))
    (k3 : ¬ (x0 < 97) → ¬ (122 < x0) → r = (some (.int 1), σ))
    : TT X d tb144 (some .boolean) (0, [some (.int x0)], [], σ) r := mi_T.go 2 (s1 := (3, [some (.int x0)], [.int 97, .int x0], σ)) rfl <|
      mi_T.br (P := x0 < 97) (fun _ => rfl)
      (fun h1 => mi_T.go 1 (s1 := (17, [some (.int x0)], [.int 0], σ)) rfl <|
      mi_T.fin (k1 h1) (fun _ => rfl))
      (fun h1 => mi_T.go 2 (s1 := (9, [some (.int x0)], [.int 122, .int x0], σ)) rfl <|
      mi_T.br (P := 122 < x0) (fun _ => rfl)
      (fun h2 => mi_T.go 1 (s1 := (17, [some (.int x0)], [.int 0], σ)) rfl <|
      mi_T.fin (k2 h1 h2) (fun _ => rfl))
      (fun h2 => mi_T.go 2 (s1 := (17, [some (.int x0)], [.int 1], σ)) rfl <|
      mi_T.fin (k3 h1 h2) (fun _ => rfl)))

-- AssertionGateModel.nameAt(I)I
theorem R145_0 {X : Nat × (Nat → Int32)} {d : Nat} {r : mA mG} {σ : mG} {x1 : Int32}
    (k1 : TT X d tb145 (some .int) (12, [some (.ref 38), some (.int x1), some (.int x1), none], [], (mi_uc σ.1 38 (upd (σ.1 38) 35 0), mi_uc σ.2 38 (vp_updL (σ.2 38) 34 0))) r)
    : TT X d tb145 (some .int) (0, [some (.ref 38), some (.int x1), none, none], [], σ) r := mi_T.go 8 (s1 := (12, [some (.ref 38), some (.int x1), some (.int x1), none], [], (mi_uc σ.1 38 (upd (σ.1 38) 35 0), mi_uc σ.2 38 (vp_updL (σ.2 38) 34 0)))) rfl <|
      k1

theorem R145_12 {X : Nat × (Nat → Int32)} {d : Nat} {r : mA mG} {σ : mG} {x1 : Int32} {x2 : Int32} {v1 : Int32} {σ1 : mG} {v2 : Int32} {σ2 : mG} {v3 : Int32} {σ3 : mG}
    (c1 : RR X d 141 [.ref 38, .int x2] σ (some (.int v1), σ1))
    (c2 : RR X d 144 [.int v1] σ1 (some (.int v2), σ2))
    (k1 : v2 = 0 → (σ2.1 38 35) < 1 → r = (some (.int (-1)), σ2))
    (k2 : v2 = 0 → ¬ ((σ2.1 38 35) < 1) → (σ2.1 38 35) ≤ 6 → TT X d tb145 (some .int) (97, [some (.ref 38), some (.int x1), some (.int x2), some (.int (σ2.1 38 35))], [], σ2) r)
    (k3 : v2 = 0 → ¬ ((σ2.1 38 35) < 1) → ¬ ((σ2.1 38 35) ≤ 6) → r = (some (.int (-1)), σ2))
    (k4 : ¬ (v2 = 0) → 6 ≤ (σ2.1 38 35) → TT X d tb145 (some .int) (12, [some (.ref 38), some (.int x1), some (.int (x2 + 1)), none], [], (mi_uc σ2.1 38 (upd (σ2.1 38) 35 ((σ2.1 38 35) + 1)), mi_uc σ2.2 38 (vp_updL (σ2.2 38) 34 (σ2.2 38 34)))) r)
    (c3 : ¬ (v2 = 0) → ¬ (6 ≤ (σ2.1 38 35)) → RR X d 141 [.ref 38, .int x2] σ2 (some (.int v3), σ3))
    (k5 : ¬ (v2 = 0) → ¬ (6 ≤ (σ2.1 38 35)) → TT X d tb145 (some .int) (12, [some (.ref 38), some (.int x1), some (.int (x2 + 1)), none], [], (mi_uc σ3.1 38 (upd (σ3.1 38) 35 ((σ3.1 38 35) + 1)), mi_uc σ3.2 38 (vp_updL (σ3.2 38) 34 (((σ2.2 38 34) <<< ((8 : Int32).toInt64 &&& 63)) ||| v3.toInt64)))) r)
    : TT X d tb145 (some .int) (12, [some (.ref 38), some (.int x1), some (.int x2), none], [], σ) r := mi_T.go 2 (s1 := (14, [some (.ref 38), some (.int x1), some (.int x2), none], [.int x2, .ref 38], σ)) rfl <|
      mi_T.call (as := [.ref 38, .int x2]) (rest := []) (v := some (.int v1)) rfl rfl rfl rfl rfl (c1) <|
      mi_T.call (as := [.int v1]) (rest := []) (v := some (.int v2)) rfl rfl rfl rfl rfl (c2) <|
      mi_T.br (P := v2 = 0) (fun _ => rfl)
      (fun h1 => mi_T.go 3 (s1 := (78, [some (.ref 38), some (.int x1), some (.int x2), none], [.int 1, .int (σ2.1 38 35)], σ2)) rfl <|
      mi_T.br (P := (σ2.1 38 35) < 1) (fun _ => rfl)
      (fun h2 => mi_T.go 1 (s1 := (91, [some (.ref 38), some (.int x1), some (.int x2), none], [.int (-1)], σ2)) rfl <|
      mi_T.fin (k1 h1 h2) (fun _ => rfl))
      (fun h2 => mi_T.go 3 (s1 := (87, [some (.ref 38), some (.int x1), some (.int x2), none], [.int 6, .int (σ2.1 38 35)], σ2)) rfl <|
      mi_T.br (P := (σ2.1 38 35) ≤ 6) (fun _ => rfl)
      (fun h3 => mi_T.go 3 (s1 := (97, [some (.ref 38), some (.int x1), some (.int x2), some (.int (σ2.1 38 35))], [], σ2)) rfl <|
      (k2 h1 h2 h3))
      (fun h3 => mi_T.go 1 (s1 := (91, [some (.ref 38), some (.int x1), some (.int x2), none], [.int (-1)], σ2)) rfl <|
      mi_T.fin (k3 h1 h2 h3) (fun _ => rfl))))
      (fun h1 => mi_T.go 4 (s1 := (30, [some (.ref 38), some (.int x1), some (.int x2), none], [.int 6, .int (σ2.1 38 35), .ref 38], σ2)) rfl <|
      mi_T.br (P := 6 ≤ (σ2.1 38 35)) (fun _ => rfl)
      (fun h2 => mi_T.go 11 (s1 := (12, [some (.ref 38), some (.int x1), some (.int (x2 + 1)), none], [], (mi_uc σ2.1 38 (upd (σ2.1 38) 35 ((σ2.1 38 35) + 1)), mi_uc σ2.2 38 (vp_updL (σ2.2 38) 34 (σ2.2 38 34))))) rfl <|
      (k4 h1 h2))
      (fun h2 => mi_T.go 6 (s1 := (42, [some (.ref 38), some (.int x1), some (.int x2), none], [.int x2, .ref 38, .long ((σ2.2 38 34) <<< ((8 : Int32).toInt64 &&& 63)), .ref 38], σ2)) rfl <|
      mi_T.call (as := [.ref 38, .int x2]) (rest := [.long ((σ2.2 38 34) <<< ((8 : Int32).toInt64 &&& 63)), .ref 38]) (v := some (.int v3)) rfl rfl rfl rfl rfl (c3 h1 h2) <|
      mi_T.go 12 (s1 := (12, [some (.ref 38), some (.int x1), some (.int (x2 + 1)), none], [], (mi_uc σ3.1 38 (upd (σ3.1 38) 35 ((σ3.1 38 35) + 1)), mi_uc σ3.2 38 (vp_updL (σ3.2 38) 34 (((σ2.2 38 34) <<< ((8 : Int32).toInt64 &&& 63)) ||| v3.toInt64))))) rfl <|
      (k5 h1 h2)))

theorem R145_97 {X : Nat × (Nat → Int32)} {d : Nat} {r : mA mG} {σ : mG} {x1 : Int32} {x2 : Int32} {x3 : Int32}
    (k1 : 6 ≤ x3 → r = (some (.int x2), σ))
    (k2 : ¬ (6 ≤ x3) → TT X d tb145 (some .int) (97, [some (.ref 38), some (.int x1), some (.int x2), some (.int (x3 + 1))], [], (σ.1, mi_uc σ.2 38 (vp_updL (σ.2 38) 34 ((σ.2 38 34) <<< ((8 : Int32).toInt64 &&& 63))))) r)
    : TT X d tb145 (some .int) (97, [some (.ref 38), some (.int x1), some (.int x2), some (.int x3)], [], σ) r := mi_T.go 2 (s1 := (100, [some (.ref 38), some (.int x1), some (.int x2), some (.int x3)], [.int 6, .int x3], σ)) rfl <|
      mi_T.br (P := 6 ≤ x3) (fun _ => rfl)
      (fun h1 => mi_T.go 1 (s1 := (121, [some (.ref 38), some (.int x1), some (.int x2), some (.int x3)], [.int x2], σ)) rfl <|
      mi_T.fin (k1 h1) (fun _ => rfl))
      (fun h1 => mi_T.go 8 (s1 := (97, [some (.ref 38), some (.int x1), some (.int x2), some (.int (x3 + 1))], [], (σ.1, mi_uc σ.2 38 (vp_updL (σ.2 38) 34 ((σ.2 38 34) <<< ((8 : Int32).toInt64 &&& 63)))))) rfl <|
      (k2 h1))

-- AssertionGateModel.spaces(I)I
theorem R146_0 {X : Nat × (Nat → Int32)} {d : Nat} {r : mA mG} {σ : mG} {x1 : Int32}
    (k1 : TT X d tb146 (some .int) (2, [some (.ref 38), some (.int x1), some (.int x1)], [], σ) r)
    : TT X d tb146 (some .int) (0, [some (.ref 38), some (.int x1), none], [], σ) r := mi_T.go 2 (s1 := (2, [some (.ref 38), some (.int x1), some (.int x1)], [], σ)) rfl <|
      k1

theorem R146_2 {X : Nat × (Nat → Int32)} {d : Nat} {r : mA mG} {σ : mG} {x1 : Int32} {x2 : Int32} {v1 : Int32} {σ1 : mG}
    (c1 : RR X d 141 [.ref 38, .int x2] σ (some (.int v1), σ1))
    (k1 : ¬ v1 = 32 → r = (some (.int x2), σ1))
    (k2 : ¬ (¬ v1 = 32) → TT X d tb146 (some .int) (2, [some (.ref 38), some (.int x1), some (.int (x2 + 1))], [], σ1) r)
    : TT X d tb146 (some .int) (2, [some (.ref 38), some (.int x1), some (.int x2)], [], σ) r := mi_T.go 2 (s1 := (4, [some (.ref 38), some (.int x1), some (.int x2)], [.int x2, .ref 38], σ)) rfl <|
      mi_T.call (as := [.ref 38, .int x2]) (rest := []) (v := some (.int v1)) rfl rfl rfl rfl rfl (c1) <|
      mi_T.go 1 (s1 := (9, [some (.ref 38), some (.int x1), some (.int x2)], [.int 32, .int v1], σ1)) rfl <|
      mi_T.br (P := ¬ v1 = 32) (fun _ => rfl)
      (fun h1 => mi_T.go 1 (s1 := (19, [some (.ref 38), some (.int x1), some (.int x2)], [.int x2], σ1)) rfl <|
      mi_T.fin (k1 h1) (fun _ => rfl))
      (fun h1 => mi_T.go 2 (s1 := (2, [some (.ref 38), some (.int x1), some (.int (x2 + 1))], [], σ1)) rfl <|
      (k2 h1))

-- AssertionGateModel.attribute(II)I
set_option maxRecDepth 100000 in
theorem R147_0 {X : Nat × (Nat → Int32)} {d : Nat} {r : mA mG} {σ : mG} {x1 : Int32} {x2 : Int32} {v1 : Int32} {σ1 : mG} {v2 : Int32} {σ2 : mG} {v3 : Int32} {σ3 : mG} {v4 : Int32} {σ4 : mG} {v5 : Int32} {σ5 : mG} {v6 : Int32} {σ6 : mG}
    (c1 : RR X d 146 [.ref 38, .int x2] σ (some (.int v1), σ1))
    (c2 : RR X d 145 [.ref 38, .int v1] σ1 (some (.int v2), σ2))
    (k1 : v2 < 0 → r = (some (.int (-1)), σ2))
    (c3 : ¬ (v2 < 0) → RR X d 141 [.ref 38, .int x2] σ2 (some (.int v3), σ3))
    (k2 : ¬ (v2 < 0) → ¬ v3 = 32 → r = (some (.int (-1)), σ3))
    (c4 : ¬ (v2 < 0) → ¬ (¬ v3 = 32) → RR X d 141 [.ref 38, .int v2] σ3 (some (.int v4), σ4))
    (k3 : ¬ (v2 < 0) → ¬ (¬ v3 = 32) → ¬ v4 = 61 → r = (some (.int (-1)), σ4))
    (c5 : ¬ (v2 < 0) → ¬ (¬ v3 = 32) → ¬ (¬ v4 = 61) → RR X d 141 [.ref 38, .int (v2 + 1)] σ4 (some (.int v5), σ5))
    (k4 : ¬ (v2 < 0) → ¬ (¬ v3 = 32) → ¬ (¬ v4 = 61) → ¬ v5 = 34 → r = (some (.int (-1)), σ5))
    (b1 : ¬ (v2 < 0) → ¬ (¬ v3 = 32) → ¬ (¬ v4 = 61) → ¬ (¬ v5 = 34) → mi_in x1 20 = true)
    (k5 : ¬ (v2 < 0) → ¬ (¬ v3 = 32) → ¬ (¬ v4 = 61) → ¬ (¬ v5 = 34) → 4 ≤ (σ5.1 59 x1.toNatClampNeg) → r = (some (.int (-1)), σ5))
    (c6 : ¬ (v2 < 0) → ¬ (¬ v3 = 32) → ¬ (¬ v4 = 61) → ¬ (¬ v5 = 34) → ¬ (4 ≤ (σ5.1 59 x1.toNatClampNeg)) → RR X d 148 [.ref 38, .int x1, .long (σ5.2 38 34)] σ5 (some (.int v6), σ6))
    (b2 : ¬ (v2 < 0) → ¬ (¬ v3 = 32) → ¬ (¬ v4 = 61) → ¬ (¬ v5 = 34) → ¬ (4 ≤ (σ5.1 59 x1.toNatClampNeg)) → v6 < 0 → mi_in x1 20 = true)
    (k6 : ¬ (v2 < 0) → ¬ (¬ v3 = 32) → ¬ (¬ v4 = 61) → ¬ (¬ v5 = 34) → ¬ (4 ≤ (σ5.1 59 x1.toNatClampNeg)) → v6 < 0 → TT X d tb147 (some .int) (87, [some (.ref 38), some (.int x1), some (.int x2), some (.int v2), some (.int ((4 * x1) + (σ6.1 59 x1.toNatClampNeg))), some (.int (v2 + 2))], [], σ6) r)
    (k7 : ¬ (v2 < 0) → ¬ (¬ v3 = 32) → ¬ (¬ v4 = 61) → ¬ (¬ v5 = 34) → ¬ (4 ≤ (σ5.1 59 x1.toNatClampNeg)) → ¬ (v6 < 0) → r = (some (.int (-1)), σ6))
    : TT X d tb147 (some .int) (0, [some (.ref 38), some (.int x1), some (.int x2), none, none, none], [], σ) r := mi_T.go 3 (s1 := (3, [some (.ref 38), some (.int x1), some (.int x2), none, none, none], [.int x2, .ref 38, .ref 38], σ)) rfl <|
      mi_T.call (as := [.ref 38, .int x2]) (rest := [.ref 38]) (v := some (.int v1)) rfl rfl rfl rfl rfl (c1) <|
      mi_T.call (as := [.ref 38, .int v1]) (rest := []) (v := some (.int v2)) rfl rfl rfl rfl rfl (c2) <|
      mi_T.go 2 (s1 := (11, [some (.ref 38), some (.int x1), some (.int x2), some (.int v2), none, none], [.int v2], σ2)) rfl <|
      mi_T.br (P := v2 < 0) (fun _ => rfl)
      (fun h1 => mi_T.go 1 (s1 := (69, [some (.ref 38), some (.int x1), some (.int x2), some (.int v2), none, none], [.int (-1)], σ2)) rfl <|
      mi_T.fin (k1 h1) (fun _ => rfl))
      (fun h1 => mi_T.go 2 (s1 := (16, [some (.ref 38), some (.int x1), some (.int x2), some (.int v2), none, none], [.int x2, .ref 38], σ2)) rfl <|
      mi_T.call (as := [.ref 38, .int x2]) (rest := []) (v := some (.int v3)) rfl rfl rfl rfl rfl (c3 h1) <|
      mi_T.go 1 (s1 := (21, [some (.ref 38), some (.int x1), some (.int x2), some (.int v2), none, none], [.int 32, .int v3], σ3)) rfl <|
      mi_T.br (P := ¬ v3 = 32) (fun _ => rfl)
      (fun h2 => mi_T.go 1 (s1 := (69, [some (.ref 38), some (.int x1), some (.int x2), some (.int v2), none, none], [.int (-1)], σ3)) rfl <|
      mi_T.fin (k2 h1 h2) (fun _ => rfl))
      (fun h2 => mi_T.go 2 (s1 := (26, [some (.ref 38), some (.int x1), some (.int x2), some (.int v2), none, none], [.int v2, .ref 38], σ3)) rfl <|
      mi_T.call (as := [.ref 38, .int v2]) (rest := []) (v := some (.int v4)) rfl rfl rfl rfl rfl (c4 h1 h2) <|
      mi_T.go 1 (s1 := (31, [some (.ref 38), some (.int x1), some (.int x2), some (.int v2), none, none], [.int 61, .int v4], σ4)) rfl <|
      mi_T.br (P := ¬ v4 = 61) (fun _ => rfl)
      (fun h3 => mi_T.go 1 (s1 := (69, [some (.ref 38), some (.int x1), some (.int x2), some (.int v2), none, none], [.int (-1)], σ4)) rfl <|
      mi_T.fin (k3 h1 h2 h3) (fun _ => rfl))
      (fun h3 => mi_T.go 4 (s1 := (38, [some (.ref 38), some (.int x1), some (.int x2), some (.int v2), none, none], [.int (v2 + 1), .ref 38], σ4)) rfl <|
      mi_T.call (as := [.ref 38, .int (v2 + 1)]) (rest := []) (v := some (.int v5)) rfl rfl rfl rfl rfl (c5 h1 h2 h3) <|
      mi_T.go 1 (s1 := (43, [some (.ref 38), some (.int x1), some (.int x2), some (.int v2), none, none], [.int 34, .int v5], σ5)) rfl <|
      mi_T.br (P := ¬ v5 = 34) (fun _ => rfl)
      (fun h4 => mi_T.go 1 (s1 := (69, [some (.ref 38), some (.int x1), some (.int x2), some (.int v2), none, none], [.int (-1)], σ5)) rfl <|
      mi_T.fin (k4 h1 h2 h3 h4) (fun _ => rfl))
      (fun h4 => mi_T.go 3 (s1 := (51, [some (.ref 38), some (.int x1), some (.int x2), some (.int v2), none, none], [.int x1, .ref 59], σ5)) rfl <|
      mi_T.li rfl rfl (b1 h1 h2 h3 h4) <|
      mi_T.go 1 (s1 := (53, [some (.ref 38), some (.int x1), some (.int x2), some (.int v2), none, none], [.int 4, .int (σ5.1 59 x1.toNatClampNeg)], σ5)) rfl <|
      mi_T.br (P := 4 ≤ (σ5.1 59 x1.toNatClampNeg)) (fun _ => rfl)
      (fun h5 => mi_T.go 1 (s1 := (69, [some (.ref 38), some (.int x1), some (.int x2), some (.int v2), none, none], [.int (-1)], σ5)) rfl <|
      mi_T.fin (k5 h1 h2 h3 h4 h5) (fun _ => rfl))
      (fun h5 => mi_T.go 4 (s1 := (62, [some (.ref 38), some (.int x1), some (.int x2), some (.int v2), none, none], [.long (σ5.2 38 34), .int x1, .ref 38], σ5)) rfl <|
      mi_T.call (as := [.ref 38, .int x1, .long (σ5.2 38 34)]) (rest := []) (v := some (.int v6)) rfl rfl rfl rfl rfl (c6 h1 h2 h3 h4 h5) <|
      mi_T.br (P := v6 < 0) (fun _ => rfl)
      (fun h6 => mi_T.go 6 (s1 := (78, [some (.ref 38), some (.int x1), some (.int x2), some (.int v2), none, none], [.int x1, .ref 59, .int (4 * x1)], σ6)) rfl <|
      mi_T.li rfl rfl (b2 h1 h2 h3 h4 h5 h6) <|
      mi_T.go 6 (s1 := (87, [some (.ref 38), some (.int x1), some (.int x2), some (.int v2), some (.int ((4 * x1) + (σ6.1 59 x1.toNatClampNeg))), some (.int (v2 + 2))], [], σ6)) rfl <|
      (k6 h1 h2 h3 h4 h5 h6))
      (fun h6 => mi_T.go 1 (s1 := (69, [some (.ref 38), some (.int x1), some (.int x2), some (.int v2), none, none], [.int (-1)], σ6)) rfl <|
      mi_T.fin (k7 h1 h2 h3 h4 h5 h6) (fun _ => rfl)))))))

set_option maxRecDepth 100000 in
theorem R147_87 {X : Nat × (Nat → Int32)} {d : Nat} {r : mA mG} {σ : mG} {x1 : Int32} {x2 : Int32} {x3 : Int32} {x4 : Int32} {x5 : Int32}
    (k1 : (σ.1 38 4) ≤ x5 → TT X d tb147 (some .int) (126, [some (.ref 38), some (.int x1), some (.int x2), some (.int x3), some (.int x4), some (.int x5)], [], σ) r)
    (b1 : ¬ ((σ.1 38 4) ≤ x5) → mi_in x5 400 = true)
    (k2 : ¬ ((σ.1 38 4) ≤ x5) → (σ.1 39 x5.toNatClampNeg) = 34 → TT X d tb147 (some .int) (126, [some (.ref 38), some (.int x1), some (.int x2), some (.int x3), some (.int x4), some (.int x5)], [], σ) r)
    (b2 : ¬ ((σ.1 38 4) ≤ x5) → ¬ ((σ.1 39 x5.toNatClampNeg) = 34) → mi_in x5 400 = true)
    (k3 : ¬ ((σ.1 38 4) ≤ x5) → ¬ ((σ.1 39 x5.toNatClampNeg) = 34) → (σ.1 39 x5.toNatClampNeg) = 60 → TT X d tb147 (some .int) (126, [some (.ref 38), some (.int x1), some (.int x2), some (.int x3), some (.int x4), some (.int x5)], [], σ) r)
    (k4 : ¬ ((σ.1 38 4) ≤ x5) → ¬ ((σ.1 39 x5.toNatClampNeg) = 34) → ¬ ((σ.1 39 x5.toNatClampNeg) = 60) → TT X d tb147 (some .int) (87, [some (.ref 38), some (.int x1), some (.int x2), some (.int x3), some (.int x4), some (.int (x5 + 1))], [], σ) r)
    : TT X d tb147 (some .int) (87, [some (.ref 38), some (.int x1), some (.int x2), some (.int x3), some (.int x4), some (.int x5)], [], σ) r := mi_T.go 3 (s1 := (93, [some (.ref 38), some (.int x1), some (.int x2), some (.int x3), some (.int x4), some (.int x5)], [.int (σ.1 38 4), .int x5], σ)) rfl <|
      mi_T.br (P := (σ.1 38 4) ≤ x5) (fun _ => rfl)
      (fun h1 => (k1 h1))
      (fun h1 => mi_T.go 3 (s1 := (102, [some (.ref 38), some (.int x1), some (.int x2), some (.int x3), some (.int x4), some (.int x5)], [.int x5, .ref 39], σ)) rfl <|
      mi_T.li rfl rfl (b1 h1) <|
      mi_T.go 1 (s1 := (105, [some (.ref 38), some (.int x1), some (.int x2), some (.int x3), some (.int x4), some (.int x5)], [.int 34, .int (σ.1 39 x5.toNatClampNeg)], σ)) rfl <|
      mi_T.br (P := (σ.1 39 x5.toNatClampNeg) = 34) (fun _ => rfl)
      (fun h2 => (k2 h1 h2))
      (fun h2 => mi_T.go 3 (s1 := (114, [some (.ref 38), some (.int x1), some (.int x2), some (.int x3), some (.int x4), some (.int x5)], [.int x5, .ref 39], σ)) rfl <|
      mi_T.li rfl rfl (b2 h1 h2) <|
      mi_T.go 1 (s1 := (117, [some (.ref 38), some (.int x1), some (.int x2), some (.int x3), some (.int x4), some (.int x5)], [.int 60, .int (σ.1 39 x5.toNatClampNeg)], σ)) rfl <|
      mi_T.br (P := (σ.1 39 x5.toNatClampNeg) = 60) (fun _ => rfl)
      (fun h3 => (k3 h1 h2 h3))
      (fun h3 => mi_T.go 2 (s1 := (87, [some (.ref 38), some (.int x1), some (.int x2), some (.int x3), some (.int x4), some (.int (x5 + 1))], [], σ)) rfl <|
      (k4 h1 h2 h3))))

set_option maxRecDepth 100000 in
theorem R147_126 {X : Nat × (Nat → Int32)} {d : Nat} {r : mA mG} {σ : mG} {x1 : Int32} {x2 : Int32} {x3 : Int32} {x4 : Int32} {x5 : Int32} {v1 : Int32} {σ1 : mG}
    (c1 : RR X d 141 [.ref 38, .int x5] σ (some (.int v1), σ1))
    (b1 : v1 = 34 → mi_in x4 80 = true)
    (b2 : v1 = 34 → mi_in x4 80 = true)
    (b3 : v1 = 34 → mi_in x4 80 = true)
    (b4 : v1 = 34 → mi_in x1 20 = true)
    (b5 : v1 = 34 → mi_in x1 20 = true)
    (k1 : v1 = 34 → r = (some (.int (x5 + 1)), (mi_uc (mi_uc (mi_uc σ1.1 61 (upd (σ1.1 61) x4.toNatClampNeg (x3 + 2))) 62 (upd (σ1.1 62) x4.toNatClampNeg x5)) 59 (upd (σ1.1 59) x1.toNatClampNeg ((σ1.1 59 x1.toNatClampNeg) + 1)), mi_uc σ1.2 60 (vp_updL (σ1.2 60) x4.toNatClampNeg (σ1.2 38 34)))))
    (k2 : ¬ (v1 = 34) → r = (some (.int (-1)), σ1))
    : TT X d tb147 (some .int) (126, [some (.ref 38), some (.int x1), some (.int x2), some (.int x3), some (.int x4), some (.int x5)], [], σ) r := mi_T.go 2 (s1 := (129, [some (.ref 38), some (.int x1), some (.int x2), some (.int x3), some (.int x4), some (.int x5)], [.int x5, .ref 38], σ)) rfl <|
      mi_T.call (as := [.ref 38, .int x5]) (rest := []) (v := some (.int v1)) rfl rfl rfl rfl rfl (c1) <|
      mi_T.go 1 (s1 := (134, [some (.ref 38), some (.int x1), some (.int x2), some (.int x3), some (.int x4), some (.int x5)], [.int 34, .int v1], σ1)) rfl <|
      mi_T.br (P := v1 = 34) (fun _ => rfl)
      (fun h1 => mi_T.go 5 (s1 := (149, [some (.ref 38), some (.int x1), some (.int x2), some (.int x3), some (.int x4), some (.int x5)], [.long (σ1.2 38 34), .int x4, .ref 60], σ1)) rfl <|
      mi_T.sj rfl rfl (b1 h1) <|
      mi_T.go 6 (s1 := (159, [some (.ref 38), some (.int x1), some (.int x2), some (.int x3), some (.int x4), some (.int x5)], [.int (x3 + 2), .int x4, .ref 61], (σ1.1, mi_uc σ1.2 60 (vp_updL (σ1.2 60) x4.toNatClampNeg (σ1.2 38 34))))) rfl <|
      mi_T.si rfl rfl (b2 h1) <|
      mi_T.go 4 (s1 := (168, [some (.ref 38), some (.int x1), some (.int x2), some (.int x3), some (.int x4), some (.int x5)], [.int x5, .int x4, .ref 62], (mi_uc σ1.1 61 (upd (σ1.1 61) x4.toNatClampNeg (x3 + 2)), mi_uc σ1.2 60 (vp_updL (σ1.2 60) x4.toNatClampNeg (σ1.2 38 34))))) rfl <|
      mi_T.si rfl rfl (b3 h1) <|
      mi_T.go 4 (s1 := (175, [some (.ref 38), some (.int x1), some (.int x2), some (.int x3), some (.int x4), some (.int x5)], [.int x1, .ref 59, .int x1, .ref 59], (mi_uc (mi_uc σ1.1 61 (upd (σ1.1 61) x4.toNatClampNeg (x3 + 2))) 62 (upd (σ1.1 62) x4.toNatClampNeg x5), mi_uc σ1.2 60 (vp_updL (σ1.2 60) x4.toNatClampNeg (σ1.2 38 34))))) rfl <|
      mi_T.li rfl rfl (b4 h1) <|
      mi_T.go 2 (s1 := (178, [some (.ref 38), some (.int x1), some (.int x2), some (.int x3), some (.int x4), some (.int x5)], [.int ((σ1.1 59 x1.toNatClampNeg) + 1), .int x1, .ref 59], (mi_uc (mi_uc σ1.1 61 (upd (σ1.1 61) x4.toNatClampNeg (x3 + 2))) 62 (upd (σ1.1 62) x4.toNatClampNeg x5), mi_uc σ1.2 60 (vp_updL (σ1.2 60) x4.toNatClampNeg (σ1.2 38 34))))) rfl <|
      mi_T.si rfl rfl (b5 h1) <|
      mi_T.go 3 (s1 := (183, [some (.ref 38), some (.int x1), some (.int x2), some (.int x3), some (.int x4), some (.int x5)], [.int (x5 + 1)], (mi_uc (mi_uc (mi_uc σ1.1 61 (upd (σ1.1 61) x4.toNatClampNeg (x3 + 2))) 62 (upd (σ1.1 62) x4.toNatClampNeg x5)) 59 (upd (σ1.1 59) x1.toNatClampNeg ((σ1.1 59 x1.toNatClampNeg) + 1)), mi_uc σ1.2 60 (vp_updL (σ1.2 60) x4.toNatClampNeg (σ1.2 38 34))))) rfl <|
      mi_T.fin (k1 h1) (fun _ => rfl))
      (fun h1 => mi_T.go 1 (s1 := (138, [some (.ref 38), some (.int x1), some (.int x2), some (.int x3), some (.int x4), some (.int x5)], [.int (-1)], σ1)) rfl <|
      mi_T.fin (k2 h1) (fun _ => rfl))

-- AssertionGateModel.find(IJ)I
theorem R148_0 {X : Nat × (Nat → Int32)} {d : Nat} {r : mA mG} {σ : mG} {x1 : Int32} {y2 : Int64}
    (k1 : TT X d tb148 (some .int) (8, [some (.ref 38), some (.int x1), some (.long y2), none, some (.int (-1)), some (.int (4 * x1))], [], σ) r)
    : TT X d tb148 (some .int) (0, [some (.ref 38), some (.int x1), some (.long y2), none, none, none], [], σ) r := mi_T.go 6 (s1 := (8, [some (.ref 38), some (.int x1), some (.long y2), none, some (.int (-1)), some (.int (4 * x1))], [], σ)) rfl <|
      k1

theorem R148_8 {X : Nat × (Nat → Int32)} {d : Nat} {r : mA mG} {σ : mG} {x1 : Int32} {y2 : Int64} {x4 : Int32} {x5 : Int32}
    (b1 : mi_in x1 20 = true)
    (k1 : ((4 * x1) + (σ.1 59 x1.toNatClampNeg)) ≤ x5 → r = (some (.int x4), σ))
    (b2 : ¬ (((4 * x1) + (σ.1 59 x1.toNatClampNeg)) ≤ x5) → mi_in x5 80 = true)
    (k2 : ¬ (((4 * x1) + (σ.1 59 x1.toNatClampNeg)) ≤ x5) → ¬ (lg_cmp (σ.2 60 x5.toNatClampNeg) y2) = 0 → TT X d tb148 (some .int) (8, [some (.ref 38), some (.int x1), some (.long y2), none, some (.int x4), some (.int (x5 + 1))], [], σ) r)
    (k3 : ¬ (((4 * x1) + (σ.1 59 x1.toNatClampNeg)) ≤ x5) → ¬ (¬ (lg_cmp (σ.2 60 x5.toNatClampNeg) y2) = 0) → TT X d tb148 (some .int) (8, [some (.ref 38), some (.int x1), some (.long y2), none, some (.int x5), some (.int (x5 + 1))], [], σ) r)
    : TT X d tb148 (some .int) (8, [some (.ref 38), some (.int x1), some (.long y2), none, some (.int x4), some (.int x5)], [], σ) r := mi_T.go 7 (s1 := (18, [some (.ref 38), some (.int x1), some (.long y2), none, some (.int x4), some (.int x5)], [.int x1, .ref 59, .int (4 * x1), .int x5], σ)) rfl <|
      mi_T.li rfl rfl (b1) <|
      mi_T.go 1 (s1 := (20, [some (.ref 38), some (.int x1), some (.long y2), none, some (.int x4), some (.int x5)], [.int ((4 * x1) + (σ.1 59 x1.toNatClampNeg)), .int x5], σ)) rfl <|
      mi_T.br (P := ((4 * x1) + (σ.1 59 x1.toNatClampNeg)) ≤ x5) (fun _ => rfl)
      (fun h1 => mi_T.go 1 (s1 := (52, [some (.ref 38), some (.int x1), some (.long y2), none, some (.int x4), some (.int x5)], [.int x4], σ)) rfl <|
      mi_T.fin (k1 h1) (fun _ => rfl))
      (fun h1 => mi_T.go 3 (s1 := (29, [some (.ref 38), some (.int x1), some (.long y2), none, some (.int x4), some (.int x5)], [.int x5, .ref 60], σ)) rfl <|
      mi_T.lj rfl rfl (b2 h1) <|
      mi_T.go 2 (s1 := (32, [some (.ref 38), some (.int x1), some (.long y2), none, some (.int x4), some (.int x5)], [.int (lg_cmp (σ.2 60 x5.toNatClampNeg) y2)], σ)) rfl <|
      mi_T.br (P := ¬ (lg_cmp (σ.2 60 x5.toNatClampNeg) y2) = 0) (fun _ => rfl)
      (fun h2 => mi_T.go 4 (s1 := (8, [some (.ref 38), some (.int x1), some (.long y2), none, some (.int x4), some (.int (x5 + 1))], [], σ)) rfl <|
      (k2 h1 h2))
      (fun h2 => mi_T.go 5 (s1 := (8, [some (.ref 38), some (.int x1), some (.long y2), none, some (.int x5), some (.int (x5 + 1))], [], σ)) rfl <|
      (k3 h1 h2)))

