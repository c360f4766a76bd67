/-! Rules of AssertionGate.Sessions, printed by a program: what each stretch of its code does. -/
-- AssertionGate$Sessions.isFull()Z
theorem R106_0 {X : Nat × (Nat → Int32)} {d : Nat} {r : mA mG} {σ : mG} {v1 : Int32} {σ1 : mG}
    (c1 : RR X d 111 [.ref 30] σ (some (.int v1), σ1))
    (k1 : r = (some (.int v1), σ1))
    (b1 : v1 = 0 ∨ v1 = 1)
    : TT X d tb106 (some .boolean) (0, [some (.ref 27)], [], σ) r := mi_T.go 2 (s1 := (4, [some (.ref 27)], [.ref 30], σ)) rfl <|
      mi_T.call (as := [.ref 30]) (rest := []) (v := some (.int v1)) rfl rfl rfl rfl rfl (c1) <|
      mi_T.finz rfl (b1) (k1)

-- AssertionGate$Sessions.open(ILAssertionGate$Page;II)I
theorem R107_0 {X : Nat × (Nat → Int32)} {d : Nat} {r : mA mG} {σ : mG} {x1 : Int32} {x3 : Int32} {x4 : Int32} {v1 : Int32} {σ1 : mG} {σ2 : mG}
    (c1 : RR X d 106 [.ref 27] σ (some (.int v1), σ1))
    (c2 : v1 = 0 → RR X d 112 [.ref 30, .ref 1, .int x3, .int x4] σ1 (none, σ2))
    (b1 : v1 = 0 → mi_in (σ1.1 30 3) 20 = true)
    (b2 : v1 = 0 → mi_in (σ1.1 30 3) 20 = true)
    (k1 : v1 = 0 → r = (some (.int (σ1.1 30 3)), (mi_uc (mi_uc σ2.1 28 (upd (σ2.1 28) ((σ1.1 30 3).toNatClampNeg) x1)) 29 (upd (σ2.1 29) ((σ1.1 30 3).toNatClampNeg) (mi_nar 2 1)), σ2.2)))
    (k2 : ¬ (v1 = 0) → r = (some (.int (-1)), σ1))
    : TT X d tb107 (some .int) (0, [some (.ref 27), some (.int x1), some (.ref 1), some (.int x3), some (.int x4), none], [], σ) r := mi_T.go 1 (s1 := (1, [some (.ref 27), some (.int x1), some (.ref 1), some (.int x3), some (.int x4), none], [.ref 27], σ)) rfl <|
      mi_T.call (as := [.ref 27]) (rest := []) (v := some (.int v1)) rfl rfl rfl rfl rfl (c1) <|
      mi_T.br (P := v1 = 0) (fun _ => rfl)
      (fun h1 => mi_T.go 9 (s1 := (26, [some (.ref 27), some (.int x1), some (.ref 1), some (.int x3), some (.int x4), some (.int (σ1.1 30 3))], [.int x4, .int x3, .ref 1, .ref 30], σ1)) rfl <|
      mi_T.call (as := [.ref 30, .ref 1, .int x3, .int x4]) (rest := []) (v := none) rfl rfl rfl rfl rfl (c2 h1) <|
      mi_T.go 4 (s1 := (36, [some (.ref 27), some (.int x1), some (.ref 1), some (.int x3), some (.int x4), some (.int (σ1.1 30 3))], [.int x1, .int (σ1.1 30 3), .ref 28], σ2)) rfl <|
      mi_T.si rfl rfl (b1 h1) <|
      mi_T.go 4 (s1 := (44, [some (.ref 27), some (.int x1), some (.ref 1), some (.int x3), some (.int x4), some (.int (σ1.1 30 3))], [.int 1, .int (σ1.1 30 3), .ref 29], (mi_uc σ2.1 28 (upd (σ2.1 28) ((σ1.1 30 3).toNatClampNeg) x1), σ2.2))) rfl <|
      mi_T.sz rfl rfl (b2 h1) <|
      mi_T.go 1 (s1 := (47, [some (.ref 27), some (.int x1), some (.ref 1), some (.int x3), some (.int x4), some (.int (σ1.1 30 3))], [.int (σ1.1 30 3)], (mi_uc (mi_uc σ2.1 28 (upd (σ2.1 28) ((σ1.1 30 3).toNatClampNeg) x1)) 29 (upd (σ2.1 29) ((σ1.1 30 3).toNatClampNeg) (mi_nar 2 1)), σ2.2))) rfl <|
      mi_T.fin (k1 h1) (fun _ => rfl))
      (fun h1 => mi_T.go 1 (s1 := (8, [some (.ref 27), some (.int x1), some (.ref 1), some (.int x3), some (.int x4), none], [.int (-1)], σ1)) rfl <|
      mi_T.fin (k2 h1) (fun _ => rfl))

-- AssertionGate$Sessions.end(ILAssertionGate$Page;II)I
theorem R108_0 {X : Nat × (Nat → Int32)} {d : Nat} {r : mA mG} {σ : mG} {x1 : Int32} {x3 : Int32} {x4 : Int32}
    (k1 : TT X d tb108 (some .int) (6, [some (.ref 27), some (.int x1), some (.ref 1), some (.int x3), some (.int x4), some (.int 0), some (.int 0)], [], σ) r)
    : TT X d tb108 (some .int) (0, [some (.ref 27), some (.int x1), some (.ref 1), some (.int x3), some (.int x4), none, none], [], σ) r := mi_T.go 4 (s1 := (6, [some (.ref 27), some (.int x1), some (.ref 1), some (.int x3), some (.int x4), some (.int 0), some (.int 0)], [], σ)) rfl <|
      k1

theorem R108_6 {X : Nat × (Nat → Int32)} {d : Nat} {r : mA mG} {σ : mG} {x1 : Int32} {x3 : Int32} {x4 : Int32} {x5 : Int32} {x6 : Int32} {v1 : Int32} {σ1 : mG}
    (k1 : (σ.1 30 3) ≤ x6 → r = (some (.int x5), σ))
    (k2 : ¬ ((σ.1 30 3) ≤ x6) → 20 ≤ x6 → r = (some (.int x5), σ))
    (b1 : ¬ ((σ.1 30 3) ≤ x6) → ¬ (20 ≤ x6) → mi_in x6 20 = true)
    (k3 : ¬ ((σ.1 30 3) ≤ x6) → ¬ (20 ≤ x6) → (σ.1 29 x6.toNatClampNeg) = 0 → TT X d tb108 (some .int) (6, [some (.ref 27), some (.int x1), some (.ref 1), some (.int x3), some (.int x4), some (.int x5), some (.int (x6 + 1))], [], σ) r)
    (b2 : ¬ ((σ.1 30 3) ≤ x6) → ¬ (20 ≤ x6) → ¬ ((σ.1 29 x6.toNatClampNeg) = 0) → mi_in x6 20 = true)
    (k4 : ¬ ((σ.1 30 3) ≤ x6) → ¬ (20 ≤ x6) → ¬ ((σ.1 29 x6.toNatClampNeg) = 0) → ¬ (σ.1 28 x6.toNatClampNeg) = x1 → TT X d tb108 (some .int) (6, [some (.ref 27), some (.int x1), some (.ref 1), some (.int x3), some (.int x4), some (.int x5), some (.int (x6 + 1))], [], σ) r)
    (c1 : ¬ ((σ.1 30 3) ≤ x6) → ¬ (20 ≤ x6) → ¬ ((σ.1 29 x6.toNatClampNeg) = 0) → ¬ (¬ (σ.1 28 x6.toNatClampNeg) = x1) → RR X d 114 [.ref 30, .int x6, .ref 1, .int x3, .int x4] σ (some (.int v1), σ1))
    (k5 : ¬ ((σ.1 30 3) ≤ x6) → ¬ (20 ≤ x6) → ¬ ((σ.1 29 x6.toNatClampNeg) = 0) → ¬ (¬ (σ.1 28 x6.toNatClampNeg) = x1) → v1 = 0 → TT X d tb108 (some .int) (6, [some (.ref 27), some (.int x1), some (.ref 1), some (.int x3), some (.int x4), some (.int x5), some (.int (x6 + 1))], [], σ1) r)
    (b3 : ¬ ((σ.1 30 3) ≤ x6) → ¬ (20 ≤ x6) → ¬ ((σ.1 29 x6.toNatClampNeg) = 0) → ¬ (¬ (σ.1 28 x6.toNatClampNeg) = x1) → ¬ (v1 = 0) → mi_in x6 20 = true)
    (k6 : ¬ ((σ.1 30 3) ≤ x6) → ¬ (20 ≤ x6) → ¬ ((σ.1 29 x6.toNatClampNeg) = 0) → ¬ (¬ (σ.1 28 x6.toNatClampNeg) = x1) → ¬ (v1 = 0) → TT X d tb108 (some .int) (6, [some (.ref 27), some (.int x1), some (.ref 1), some (.int x3), some (.int x4), some (.int (x5 + 1)), some (.int (x6 + 1))], [], (mi_uc σ1.1 29 (upd (σ1.1 29) x6.toNatClampNeg (mi_nar 2 0)), σ1.2)) r)
    : TT X d tb108 (some .int) (6, [some (.ref 27), some (.int x1), some (.ref 1), some (.int x3), some (.int x4), some (.int x5), some (.int x6)], [], σ) r := mi_T.go 4 (s1 := (15, [some (.ref 27), some (.int x1), some (.ref 1), some (.int x3), some (.int x4), some (.int x5), some (.int x6)], [.int (σ.1 30 3), .int x6], σ)) rfl <|
      mi_T.br (P := (σ.1 30 3) ≤ x6) (fun _ => rfl)
      (fun h1 => mi_T.go 1 (s1 := (81, [some (.ref 27), some (.int x1), some (.ref 1), some (.int x3), some (.int x4), some (.int x5), some (.int x6)], [.int x5], σ)) rfl <|
      mi_T.fin (k1 h1) (fun _ => rfl))
      (fun h1 => mi_T.go 2 (s1 := (22, [some (.ref 27), some (.int x1), some (.ref 1), some (.int x3), some (.int x4), some (.int x5), some (.int x6)], [.int 20, .int x6], σ)) rfl <|
      mi_T.br (P := 20 ≤ x6) (fun _ => rfl)
      (fun h2 => mi_T.go 1 (s1 := (81, [some (.ref 27), some (.int x1), some (.ref 1), some (.int x3), some (.int x4), some (.int x5), some (.int x6)], [.int x5], σ)) rfl <|
      mi_T.fin (k2 h1 h2) (fun _ => rfl))
      (fun h2 => mi_T.go 3 (s1 := (31, [some (.ref 27), some (.int x1), some (.ref 1), some (.int x3), some (.int x4), some (.int x5), some (.int x6)], [.int x6, .ref 29], σ)) rfl <|
      mi_T.lz rfl rfl (b1 h1 h2) <|
      mi_T.br (P := (σ.1 29 x6.toNatClampNeg) = 0) (fun _ => rfl)
      (fun h3 => mi_T.go 2 (s1 := (6, [some (.ref 27), some (.int x1), some (.ref 1), some (.int x3), some (.int x4), some (.int x5), some (.int (x6 + 1))], [], σ)) rfl <|
      (k3 h1 h2 h3))
      (fun h3 => mi_T.go 3 (s1 := (41, [some (.ref 27), some (.int x1), some (.ref 1), some (.int x3), some (.int x4), some (.int x5), some (.int x6)], [.int x6, .ref 28], σ)) rfl <|
      mi_T.li rfl rfl (b2 h1 h2 h3) <|
      mi_T.go 1 (s1 := (43, [some (.ref 27), some (.int x1), some (.ref 1), some (.int x3), some (.int x4), some (.int x5), some (.int x6)], [.int x1, .int (σ.1 28 x6.toNatClampNeg)], σ)) rfl <|
      mi_T.br (P := ¬ (σ.1 28 x6.toNatClampNeg) = x1) (fun _ => rfl)
      (fun h4 => mi_T.go 2 (s1 := (6, [some (.ref 27), some (.int x1), some (.ref 1), some (.int x3), some (.int x4), some (.int x5), some (.int (x6 + 1))], [], σ)) rfl <|
      (k4 h1 h2 h3 h4))
      (fun h4 => mi_T.go 6 (s1 := (56, [some (.ref 27), some (.int x1), some (.ref 1), some (.int x3), some (.int x4), some (.int x5), some (.int x6)], [.int x4, .int x3, .ref 1, .int x6, .ref 30], σ)) rfl <|
      mi_T.call (as := [.ref 30, .int x6, .ref 1, .int x3, .int x4]) (rest := []) (v := some (.int v1)) rfl rfl rfl rfl rfl (c1 h1 h2 h3 h4) <|
      mi_T.br (P := v1 = 0) (fun _ => rfl)
      (fun h5 => mi_T.go 2 (s1 := (6, [some (.ref 27), some (.int x1), some (.ref 1), some (.int x3), some (.int x4), some (.int x5), some (.int (x6 + 1))], [], σ1)) rfl <|
      (k5 h1 h2 h3 h4 h5))
      (fun h5 => mi_T.go 4 (s1 := (69, [some (.ref 27), some (.int x1), some (.ref 1), some (.int x3), some (.int x4), some (.int x5), some (.int x6)], [.int 0, .int x6, .ref 29], σ1)) rfl <|
      mi_T.sz rfl rfl (b3 h1 h2 h3 h4 h5) <|
      mi_T.go 3 (s1 := (6, [some (.ref 27), some (.int x1), some (.ref 1), some (.int x3), some (.int x4), some (.int (x5 + 1)), some (.int (x6 + 1))], [], (mi_uc σ1.1 29 (upd (σ1.1 29) x6.toNatClampNeg (mi_nar 2 0)), σ1.2))) rfl <|
      (k6 h1 h2 h3 h4 h5))))))

-- AssertionGate$Sessions.stateOf(I)I
theorem R109_0 {X : Nat × (Nat → Int32)} {d : Nat} {r : mA mG} {σ : mG} {x1 : Int32}
    (k1 : x1 < 0 → r = (some (.int (-1)), σ))
    (k2 : ¬ (x1 < 0) → (σ.1 30 3) ≤ x1 → r = (some (.int (-1)), σ))
    (b1 : ¬ (x1 < 0) → ¬ ((σ.1 30 3) ≤ x1) → x1 < 20 → mi_in x1 20 = true)
    (k3 : ¬ (x1 < 0) → ¬ ((σ.1 30 3) ≤ x1) → x1 < 20 → (σ.1 29 x1.toNatClampNeg) = 0 → r = (some (.int 0), σ))
    (b2 : ¬ (x1 < 0) → ¬ ((σ.1 30 3) ≤ x1) → x1 < 20 → ¬ ((σ.1 29 x1.toNatClampNeg) = 0) → mi_in x1 20 = true)
    (k4 : ¬ (x1 < 0) → ¬ ((σ.1 30 3) ≤ x1) → x1 < 20 → ¬ ((σ.1 29 x1.toNatClampNeg) = 0) → r = (some (.int (1 + (σ.1 28 x1.toNatClampNeg))), σ))
    (k5 : ¬ (x1 < 0) → ¬ ((σ.1 30 3) ≤ x1) → ¬ (x1 < 20) → r = (some (.int (-1)), σ))
    : TT X d tb109 (some .int) (0, [some (.ref 27), some (.int x1)], [], σ) r := mi_T.go 1 (s1 := (1, [some (.ref 27), some (.int x1)], [.int x1], σ)) rfl <|
      mi_T.br (P := x1 < 0) (fun _ => rfl)
      (fun h1 => mi_T.go 1 (s1 := (22, [some (.ref 27), some (.int x1)], [.int (-1)], σ)) rfl <|
      mi_T.fin (k1 h1) (fun _ => rfl))
      (fun h1 => mi_T.go 4 (s1 := (12, [some (.ref 27), some (.int x1)], [.int (σ.1 30 3), .int x1], σ)) rfl <|
      mi_T.br (P := (σ.1 30 3) ≤ x1) (fun _ => rfl)
      (fun h2 => mi_T.go 1 (s1 := (22, [some (.ref 27), some (.int x1)], [.int (-1)], σ)) rfl <|
      mi_T.fin (k2 h1 h2) (fun _ => rfl))
      (fun h2 => mi_T.go 2 (s1 := (18, [some (.ref 27), some (.int x1)], [.int 20, .int x1], σ)) rfl <|
      mi_T.br (P := x1 < 20) (fun _ => rfl)
      (fun h3 => mi_T.go 3 (s1 := (28, [some (.ref 27), some (.int x1)], [.int x1, .ref 29], σ)) rfl <|
      mi_T.lz rfl rfl (b1 h1 h2 h3) <|
      mi_T.br (P := (σ.1 29 x1.toNatClampNeg) = 0) (fun _ => rfl)
      (fun h4 => mi_T.go 1 (s1 := (44, [some (.ref 27), some (.int x1)], [.int 0], σ)) rfl <|
      mi_T.fin (k3 h1 h2 h3 h4) (fun _ => rfl))
      (fun h4 => mi_T.go 4 (s1 := (38, [some (.ref 27), some (.int x1)], [.int x1, .ref 28, .int 1], σ)) rfl <|
      mi_T.li rfl rfl (b2 h1 h2 h3 h4) <|
      mi_T.go 2 (s1 := (44, [some (.ref 27), some (.int x1)], [.int (1 + (σ.1 28 x1.toNatClampNeg))], σ)) rfl <|
      mi_T.fin (k4 h1 h2 h3 h4) (fun _ => rfl)))
      (fun h3 => mi_T.go 1 (s1 := (22, [some (.ref 27), some (.int x1)], [.int (-1)], σ)) rfl <|
      mi_T.fin (k5 h1 h2 h3) (fun _ => rfl))))

