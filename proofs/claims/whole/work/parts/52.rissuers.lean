/-! Rules of AssertionGate.Issuers, printed by a program: what each stretch of its code does. -/
-- AssertionGate$Issuers.isTrusted(I)Z
theorem R94_0 {X : Nat × (Nat → Int32)} {d : Nat} {r : mA mG} {σ : mG} {x1 : Int32}
    (k1 : x1 < 0 → r = (some (.int 0), σ))
    (k2 : ¬ (x1 < 0) → 4 ≤ x1 → r = (some (.int 0), σ))
    (b1 : ¬ (x1 < 0) → ¬ (4 ≤ x1) → mi_in x1 4 = true)
    (k3 : ¬ (x1 < 0) → ¬ (4 ≤ x1) → (σ.1 19 x1.toNatClampNeg) = 0 → r = (some (.int 0), σ))
    (k4 : ¬ (x1 < 0) → ¬ (4 ≤ x1) → ¬ ((σ.1 19 x1.toNatClampNeg) = 0) → r = (some (.int 1), σ))
    : TT X d tb94 (some .boolean) (0, [some (.ref 18), some (.int x1)], [], σ) r := mi_T.go 1 (s1 := (1, [some (.ref 18), some (.int x1)], [.int x1], σ)) rfl <|
      mi_T.br (P := x1 < 0) (fun _ => rfl)
      (fun h1 => mi_T.go 1 (s1 := (23, [some (.ref 18), some (.int x1)], [.int 0], σ)) rfl <|
      mi_T.fin (k1 h1) (fun _ => rfl))
      (fun h1 => mi_T.go 2 (s1 := (6, [some (.ref 18), some (.int x1)], [.int 4, .int x1], σ)) rfl <|
      mi_T.br (P := 4 ≤ x1) (fun _ => rfl)
      (fun h2 => mi_T.go 1 (s1 := (23, [some (.ref 18), some (.int x1)], [.int 0], σ)) rfl <|
      mi_T.fin (k2 h1 h2) (fun _ => rfl))
      (fun h2 => mi_T.go 3 (s1 := (14, [some (.ref 18), some (.int x1)], [.int x1, .ref 19], σ)) rfl <|
      mi_T.li rfl rfl (b1 h1 h2) <|
      mi_T.br (P := (σ.1 19 x1.toNatClampNeg) = 0) (fun _ => rfl)
      (fun h3 => mi_T.go 1 (s1 := (23, [some (.ref 18), some (.int x1)], [.int 0], σ)) rfl <|
      mi_T.fin (k3 h1 h2 h3) (fun _ => rfl))
      (fun h3 => mi_T.go 2 (s1 := (23, [some (.ref 18), some (.int x1)], [.int 1], σ)) rfl <|
      mi_T.fin (k4 h1 h2 h3) (fun _ => rfl))))

-- AssertionGate$Issuers.canSeal(I)Z
theorem R95_0 {X : Nat × (Nat → Int32)} {d : Nat} {r : mA mG} {σ : mG} {x1 : Int32}
    (k1 : x1 < 0 → r = (some (.int 0), σ))
    (k2 : ¬ (x1 < 0) → 4 ≤ x1 → r = (some (.int 0), σ))
    (b1 : ¬ (x1 < 0) → ¬ (4 ≤ x1) → mi_in x1 4 = true)
    (k3 : ¬ (x1 < 0) → ¬ (4 ≤ x1) → (σ.1 21 x1.toNatClampNeg) = 0 → r = (some (.int 0), σ))
    (k4 : ¬ (x1 < 0) → ¬ (4 ≤ x1) → ¬ ((σ.1 21 x1.toNatClampNeg) = 0) → r = (some (.int 1), σ))
    : TT X d tb95 (some .boolean) (0, [some (.ref 18), some (.int x1)], [], σ) r := mi_T.go 1 (s1 := (1, [some (.ref 18), some (.int x1)], [.int x1], σ)) rfl <|
      mi_T.br (P := x1 < 0) (fun _ => rfl)
      (fun h1 => mi_T.go 1 (s1 := (23, [some (.ref 18), some (.int x1)], [.int 0], σ)) rfl <|
      mi_T.fin (k1 h1) (fun _ => rfl))
      (fun h1 => mi_T.go 2 (s1 := (6, [some (.ref 18), some (.int x1)], [.int 4, .int x1], σ)) rfl <|
      mi_T.br (P := 4 ≤ x1) (fun _ => rfl)
      (fun h2 => mi_T.go 1 (s1 := (23, [some (.ref 18), some (.int x1)], [.int 0], σ)) rfl <|
      mi_T.fin (k2 h1 h2) (fun _ => rfl))
      (fun h2 => mi_T.go 3 (s1 := (14, [some (.ref 18), some (.int x1)], [.int x1, .ref 21], σ)) rfl <|
      mi_T.li rfl rfl (b1 h1 h2) <|
      mi_T.br (P := (σ.1 21 x1.toNatClampNeg) = 0) (fun _ => rfl)
      (fun h3 => mi_T.go 1 (s1 := (23, [some (.ref 18), some (.int x1)], [.int 0], σ)) rfl <|
      mi_T.fin (k3 h1 h2 h3) (fun _ => rfl))
      (fun h3 => mi_T.go 2 (s1 := (23, [some (.ref 18), some (.int x1)], [.int 1], σ)) rfl <|
      mi_T.fin (k4 h1 h2 h3) (fun _ => rfl))))

-- AssertionGate$Issuers.sealOf(II)I
theorem R96_0 {X : Nat × (Nat → Int32)} {d : Nat} {r : mA mG} {σ : mG} {x1 : Int32} {x2 : Int32} {v1 : Int32} {σ1 : mG} {v2 : Int32} {σ2 : mG}
    (c1 : RR X d 95 [.ref 18, .int x1] σ (some (.int v1), σ1))
    (k1 : v1 = 0 → r = (some (.int (-1)), σ1))
    (b1 : ¬ (v1 = 0) → mi_in x1 4 = true)
    (b2 : ¬ (v1 = 0) → mi_in x1 4 = true)
    (c2 : ¬ (v1 = 0) → RR X d 98 [.int x2, .int (σ1.1 22 x1.toNatClampNeg), .int (σ1.1 21 x1.toNatClampNeg)] σ1 (some (.int v2), σ2))
    (k2 : ¬ (v1 = 0) → r = (some (.int v2), σ2))
    : TT X d tb96 (some .int) (0, [some (.ref 18), some (.int x1), some (.int x2)], [], σ) r := mi_T.go 2 (s1 := (2, [some (.ref 18), some (.int x1), some (.int x2)], [.int x1, .ref 18], σ)) rfl <|
      mi_T.call (as := [.ref 18, .int x1]) (rest := []) (v := some (.int v1)) rfl rfl rfl rfl rfl (c1) <|
      mi_T.br (P := v1 = 0) (fun _ => rfl)
      (fun h1 => mi_T.go 1 (s1 := (28, [some (.ref 18), some (.int x1), some (.int x2)], [.int (-1)], σ1)) rfl <|
      mi_T.fin (k1 h1) (fun _ => rfl))
      (fun h1 => mi_T.go 4 (s1 := (14, [some (.ref 18), some (.int x1), some (.int x2)], [.int x1, .ref 22, .int x2], σ1)) rfl <|
      mi_T.li rfl rfl (b1 h1) <|
      mi_T.go 3 (s1 := (20, [some (.ref 18), some (.int x1), some (.int x2)], [.int x1, .ref 21, .int (σ1.1 22 x1.toNatClampNeg), .int x2], σ1)) rfl <|
      mi_T.li rfl rfl (b2 h1) <|
      mi_T.call (as := [.int x2, .int (σ1.1 22 x1.toNatClampNeg), .int (σ1.1 21 x1.toNatClampNeg)]) (rest := []) (v := some (.int v2)) rfl rfl rfl rfl rfl (c2 h1) <|
      mi_T.go 1 (s1 := (28, [some (.ref 18), some (.int x1), some (.int x2)], [.int v2], σ2)) rfl <|
      mi_T.fin (k2 h1) (fun _ => rfl))

-- AssertionGate$Issuers.verifies(III)Z
theorem R97_0 {X : Nat × (Nat → Int32)} {d : Nat} {r : mA mG} {σ : mG} {x1 : Int32} {x2 : Int32} {x3 : Int32} {v1 : Int32} {σ1 : mG} {v2 : Int32} {σ2 : mG}
    (c1 : RR X d 94 [.ref 18, .int x1] σ (some (.int v1), σ1))
    (k1 : v1 = 0 → r = (some (.int 0), σ1))
    (k2 : ¬ (v1 = 0) → x2 < 0 → r = (some (.int 0), σ1))
    (b1 : ¬ (v1 = 0) → ¬ (x2 < 0) → mi_in x1 4 = true)
    (k3 : ¬ (v1 = 0) → ¬ (x2 < 0) → (σ1.1 19 x1.toNatClampNeg) ≤ x2 → r = (some (.int 0), σ1))
    (b2 : ¬ (v1 = 0) → ¬ (x2 < 0) → ¬ ((σ1.1 19 x1.toNatClampNeg) ≤ x2) → mi_in x1 4 = true)
    (b3 : ¬ (v1 = 0) → ¬ (x2 < 0) → ¬ ((σ1.1 19 x1.toNatClampNeg) ≤ x2) → mi_in x1 4 = true)
    (c2 : ¬ (v1 = 0) → ¬ (x2 < 0) → ¬ ((σ1.1 19 x1.toNatClampNeg) ≤ x2) → RR X d 98 [.int x2, .int (σ1.1 20 x1.toNatClampNeg), .int (σ1.1 19 x1.toNatClampNeg)] σ1 (some (.int v2), σ2))
    (k4 : ¬ (v1 = 0) → ¬ (x2 < 0) → ¬ ((σ1.1 19 x1.toNatClampNeg) ≤ x2) → ¬ v2 = x3 → r = (some (.int 0), σ2))
    (k5 : ¬ (v1 = 0) → ¬ (x2 < 0) → ¬ ((σ1.1 19 x1.toNatClampNeg) ≤ x2) → ¬ (¬ v2 = x3) → r = (some (.int 1), σ2))
    : TT X d tb97 (some .boolean) (0, [some (.ref 18), some (.int x1), some (.int x2), some (.int x3)], [], σ) r := mi_T.go 2 (s1 := (2, [some (.ref 18), some (.int x1), some (.int x2), some (.int x3)], [.int x1, .ref 18], σ)) rfl <|
      mi_T.call (as := [.ref 18, .int x1]) (rest := []) (v := some (.int v1)) rfl rfl rfl rfl rfl (c1) <|
      mi_T.br (P := v1 = 0) (fun _ => rfl)
      (fun h1 => mi_T.go 1 (s1 := (47, [some (.ref 18), some (.int x1), some (.int x2), some (.int x3)], [.int 0], σ1)) rfl <|
      mi_T.fin (k1 h1) (fun _ => rfl))
      (fun h1 => mi_T.go 1 (s1 := (9, [some (.ref 18), some (.int x1), some (.int x2), some (.int x3)], [.int x2], σ1)) rfl <|
      mi_T.br (P := x2 < 0) (fun _ => rfl)
      (fun h2 => mi_T.go 1 (s1 := (47, [some (.ref 18), some (.int x1), some (.int x2), some (.int x3)], [.int 0], σ1)) rfl <|
      mi_T.fin (k2 h1 h2) (fun _ => rfl))
      (fun h2 => mi_T.go 4 (s1 := (18, [some (.ref 18), some (.int x1), some (.int x2), some (.int x3)], [.int x1, .ref 19, .int x2], σ1)) rfl <|
      mi_T.li rfl rfl (b1 h1 h2) <|
      mi_T.br (P := (σ1.1 19 x1.toNatClampNeg) ≤ x2) (fun _ => rfl)
      (fun h3 => mi_T.go 1 (s1 := (47, [some (.ref 18), some (.int x1), some (.int x2), some (.int x3)], [.int 0], σ1)) rfl <|
      mi_T.fin (k3 h1 h2 h3) (fun _ => rfl))
      (fun h3 => mi_T.go 4 (s1 := (28, [some (.ref 18), some (.int x1), some (.int x2), some (.int x3)], [.int x1, .ref 20, .int x2], σ1)) rfl <|
      mi_T.li rfl rfl (b2 h1 h2 h3) <|
      mi_T.go 3 (s1 := (34, [some (.ref 18), some (.int x1), some (.int x2), some (.int x3)], [.int x1, .ref 19, .int (σ1.1 20 x1.toNatClampNeg), .int x2], σ1)) rfl <|
      mi_T.li rfl rfl (b3 h1 h2 h3) <|
      mi_T.call (as := [.int x2, .int (σ1.1 20 x1.toNatClampNeg), .int (σ1.1 19 x1.toNatClampNeg)]) (rest := []) (v := some (.int v2)) rfl rfl rfl rfl rfl (c2 h1 h2 h3) <|
      mi_T.go 1 (s1 := (39, [some (.ref 18), some (.int x1), some (.int x2), some (.int x3)], [.int x3, .int v2], σ2)) rfl <|
      mi_T.br (P := ¬ v2 = x3) (fun _ => rfl)
      (fun h4 => mi_T.go 1 (s1 := (47, [some (.ref 18), some (.int x1), some (.int x2), some (.int x3)], [.int 0], σ2)) rfl <|
      mi_T.fin (k4 h1 h2 h3 h4) (fun _ => rfl))
      (fun h4 => mi_T.go 2 (s1 := (47, [some (.ref 18), some (.int x1), some (.int x2), some (.int x3)], [.int 1], σ2)) rfl <|
      mi_T.fin (k5 h1 h2 h3 h4) (fun _ => rfl)))))

-- AssertionGate$Issuers.power(III)I
theorem R98_0 {X : Nat × (Nat → Int32)} {d : Nat} {r : mA mG} {σ : mG} {x0 : Int32} {x1 : Int32} {x2 : Int32}
    (b1 : 0 < x2 → ¬ x2 = 0)
    (b2 : 0 < x2 → ¬ x2 = 0)
    (k1 : 0 < x2 → TT X d tb98 (some .int) (20, [some (.int x0), some (.int x1), some (.int x2), some (.long ((x0 - x0 / x2 * x2).toInt64)), none, some (.long ((1 - 1 / x2 * x2).toInt64)), none, some (.int x1)], [], σ) r)
    (k2 : ¬ (0 < x2) → r = (some (.int (-1)), σ))
    : TT X d tb98 (some .int) (0, [some (.int x0), some (.int x1), some (.int x2), none, none, none, none, none], [], σ) r := mi_T.go 1 (s1 := (1, [some (.int x0), some (.int x1), some (.int x2), none, none, none, none, none], [.int x2], σ)) rfl <|
      mi_T.br (P := 0 < x2) (fun _ => rfl)
      (fun h1 => mi_T.go 2 (s1 := (8, [some (.int x0), some (.int x1), some (.int x2), none, none, none, none, none], [.int x2, .int x0], σ)) rfl <|
      mi_T.irem rfl (b1 h1) <|
      mi_T.go 4 (s1 := (13, [some (.int x0), some (.int x1), some (.int x2), some (.long ((x0 - x0 / x2 * x2).toInt64)), none, none, none, none], [.int x2, .int 1], σ)) rfl <|
      mi_T.irem rfl (b2 h1) <|
      mi_T.go 4 (s1 := (20, [some (.int x0), some (.int x1), some (.int x2), some (.long ((x0 - x0 / x2 * x2).toInt64)), none, some (.long ((1 - 1 / x2 * x2).toInt64)), none, some (.int x1)], [], σ)) rfl <|
      (k1 h1))
      (fun h1 => mi_T.go 1 (s1 := (5, [some (.int x0), some (.int x1), some (.int x2), none, none, none, none, none], [.int (-1)], σ)) rfl <|
      mi_T.fin (k2 h1) (fun _ => rfl))

theorem R98_20 {X : Nat × (Nat → Int32)} {d : Nat} {r : mA mG} {σ : mG} {x0 : Int32} {x1 : Int32} {x2 : Int32} {y3 : Int64} {y5 : Int64} {x7 : Int32}
    (k1 : x7 ≤ 0 → r = (some (.int y5.toInt32), σ))
    (b1 : ¬ (x7 ≤ 0) → ¬ (x7 &&& 1) = 1 → ¬ x2.toInt64 = 0)
    (k2 : ¬ (x7 ≤ 0) → ¬ (x7 &&& 1) = 1 → TT X d tb98 (some .int) (20, [some (.int x0), some (.int x1), some (.int x2), some (.long ((y3 * y3) - (y3 * y3) / x2.toInt64 * x2.toInt64)), none, some (.long y5), none, some (.int (x7 >>> (1 &&& 31)))], [], σ) r)
    (b2 : ¬ (x7 ≤ 0) → ¬ (¬ (x7 &&& 1) = 1) → ¬ x2.toInt64 = 0)
    (b3 : ¬ (x7 ≤ 0) → ¬ (¬ (x7 &&& 1) = 1) → ¬ x2.toInt64 = 0)
    (k3 : ¬ (x7 ≤ 0) → ¬ (¬ (x7 &&& 1) = 1) → TT X d tb98 (some .int) (20, [some (.int x0), some (.int x1), some (.int x2), some (.long ((y3 * y3) - (y3 * y3) / x2.toInt64 * x2.toInt64)), none, some (.long ((y5 * y3) - (y5 * y3) / x2.toInt64 * x2.toInt64)), none, some (.int (x7 >>> (1 &&& 31)))], [], σ) r)
    : TT X d tb98 (some .int) (20, [some (.int x0), some (.int x1), some (.int x2), some (.long y3), none, some (.long y5), none, some (.int x7)], [], σ) r := mi_T.go 1 (s1 := (22, [some (.int x0), some (.int x1), some (.int x2), some (.long y3), none, some (.long y5), none, some (.int x7)], [.int x7], σ)) rfl <|
      mi_T.br (P := x7 ≤ 0) (fun _ => rfl)
      (fun h1 => mi_T.go 2 (s1 := (61, [some (.int x0), some (.int x1), some (.int x2), some (.long y3), none, some (.long y5), none, some (.int x7)], [.int y5.toInt32], σ)) rfl <|
      mi_T.fin (k1 h1) (fun _ => rfl))
      (fun h1 => mi_T.go 4 (s1 := (30, [some (.int x0), some (.int x1), some (.int x2), some (.long y3), none, some (.long y5), none, some (.int x7)], [.int 1, .int (x7 &&& 1)], σ)) rfl <|
      mi_T.br (P := ¬ (x7 &&& 1) = 1) (fun _ => rfl)
      (fun h2 => mi_T.go 5 (s1 := (47, [some (.int x0), some (.int x1), some (.int x2), some (.long y3), none, some (.long y5), none, some (.int x7)], [.long x2.toInt64, .long (y3 * y3)], σ)) rfl <|
      mi_T.lrem rfl (b1 h1 h2) <|
      mi_T.go 6 (s1 := (20, [some (.int x0), some (.int x1), some (.int x2), some (.long ((y3 * y3) - (y3 * y3) / x2.toInt64 * x2.toInt64)), none, some (.long y5), none, some (.int (x7 >>> (1 &&& 31)))], [], σ)) rfl <|
      (k2 h1 h2))
      (fun h2 => mi_T.go 5 (s1 := (39, [some (.int x0), some (.int x1), some (.int x2), some (.long y3), none, some (.long y5), none, some (.int x7)], [.long x2.toInt64, .long (y5 * y3)], σ)) rfl <|
      mi_T.lrem rfl (b2 h1 h2) <|
      mi_T.go 6 (s1 := (47, [some (.int x0), some (.int x1), some (.int x2), some (.long y3), none, some (.long ((y5 * y3) - (y5 * y3) / x2.toInt64 * x2.toInt64)), none, some (.int x7)], [.long x2.toInt64, .long (y3 * y3)], σ)) rfl <|
      mi_T.lrem rfl (b3 h1 h2) <|
      mi_T.go 6 (s1 := (20, [some (.int x0), some (.int x1), some (.int x2), some (.long ((y3 * y3) - (y3 * y3) / x2.toInt64 * x2.toInt64)), none, some (.long ((y5 * y3) - (y5 * y3) / x2.toInt64 * x2.toInt64)), none, some (.int (x7 >>> (1 &&& 31)))], [], σ)) rfl <|
      (k3 h1 h2)))

