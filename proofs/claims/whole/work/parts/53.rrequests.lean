/-! Rules of AssertionGate.Requests, printed by a program: what each stretch of its code does. -/
-- AssertionGate$Requests.open(II)I
theorem R100_0 {X : Nat × (Nat → Int32)} {d : Nat} {r : mA mG} {σ : mG} {x1 : Int32} {x2 : Int32}
    (b1 : (σ.1 23 4) < 30 → mi_in (σ.1 23 4) 30 = true)
    (b2 : (σ.1 23 4) < 30 → mi_in (σ.1 23 4) 30 = true)
    (k1 : (σ.1 23 4) < 30 → r = (some (.int (((σ.1 23 4) + 1) - 1)), (mi_uc (mi_uc (mi_uc σ.1 24 (upd (σ.1 24) ((σ.1 23 4).toNatClampNeg) x1)) 25 (upd (σ.1 25) ((σ.1 23 4).toNatClampNeg) x2)) 23 (upd (σ.1 23) 4 ((σ.1 23 4) + 1)), σ.2)))
    (k2 : ¬ ((σ.1 23 4) < 30) → r = (some (.int (-1)), σ))
    : TT X d tb100 (some .int) (0, [some (.ref 23), some (.int x1), some (.int x2)], [], σ) r := mi_T.go 3 (s1 := (6, [some (.ref 23), some (.int x1), some (.int x2)], [.int 30, .int (σ.1 23 4)], σ)) rfl <|
      mi_T.br (P := (σ.1 23 4) < 30) (fun _ => rfl)
      (fun h1 => mi_T.go 5 (s1 := (20, [some (.ref 23), some (.int x1), some (.int x2)], [.int x1, .int (σ.1 23 4), .ref 24], σ)) rfl <|
      mi_T.si rfl rfl (b1 h1) <|
      mi_T.go 5 (s1 := (30, [some (.ref 23), some (.int x1), some (.int x2)], [.int x2, .int (σ.1 23 4), .ref 25], (mi_uc σ.1 24 (upd (σ.1 24) ((σ.1 23 4).toNatClampNeg) x1), σ.2))) rfl <|
      mi_T.si rfl rfl (b2 h1) <|
      mi_T.go 10 (s1 := (47, [some (.ref 23), some (.int x1), some (.int x2)], [.int (((σ.1 23 4) + 1) - 1)], (mi_uc (mi_uc (mi_uc σ.1 24 (upd (σ.1 24) ((σ.1 23 4).toNatClampNeg) x1)) 25 (upd (σ.1 25) ((σ.1 23 4).toNatClampNeg) x2)) 23 (upd (σ.1 23) 4 ((σ.1 23 4) + 1)), σ.2))) rfl <|
      mi_T.fin (k1 h1) (fun _ => rfl))
      (fun h1 => mi_T.go 1 (s1 := (10, [some (.ref 23), some (.int x1), some (.int x2)], [.int (-1)], σ)) rfl <|
      mi_T.fin (k2 h1) (fun _ => rfl))

-- AssertionGate$Requests.isOpen(II)Z
theorem R101_0 {X : Nat × (Nat → Int32)} {d : Nat} {r : mA mG} {σ : mG} {x1 : Int32} {x2 : Int32}
    (k1 : x1 < 0 → r = (some (.int 0), σ))
    (k2 : ¬ (x1 < 0) → (σ.1 23 4) ≤ x1 → r = (some (.int 0), σ))
    (b1 : ¬ (x1 < 0) → ¬ ((σ.1 23 4) ≤ x1) → mi_in x1 30 = true)
    (k3 : ¬ (x1 < 0) → ¬ ((σ.1 23 4) ≤ x1) → ¬ (σ.1 26 x1.toNatClampNeg) = 0 → r = (some (.int 0), σ))
    (b2 : ¬ (x1 < 0) → ¬ ((σ.1 23 4) ≤ x1) → ¬ (¬ (σ.1 26 x1.toNatClampNeg) = 0) → mi_in x1 30 = true)
    (k4 : ¬ (x1 < 0) → ¬ ((σ.1 23 4) ≤ x1) → ¬ (¬ (σ.1 26 x1.toNatClampNeg) = 0) → ((σ.1 25 x1.toNatClampNeg) + (σ.1 23 0)) ≤ x2 → r = (some (.int 0), σ))
    (k5 : ¬ (x1 < 0) → ¬ ((σ.1 23 4) ≤ x1) → ¬ (¬ (σ.1 26 x1.toNatClampNeg) = 0) → ¬ (((σ.1 25 x1.toNatClampNeg) + (σ.1 23 0)) ≤ x2) → r = (some (.int 1), σ))
    : TT X d tb101 (some .boolean) (0, [some (.ref 23), some (.int x1), some (.int x2)], [], σ) r := mi_T.go 1 (s1 := (1, [some (.ref 23), some (.int x1), some (.int x2)], [.int x1], σ)) rfl <|
      mi_T.br (P := x1 < 0) (fun _ => rfl)
      (fun h1 => mi_T.go 1 (s1 := (41, [some (.ref 23), some (.int x1), some (.int x2)], [.int 0], σ)) rfl <|
      mi_T.fin (k1 h1) (fun _ => rfl))
      (fun h1 => mi_T.go 3 (s1 := (9, [some (.ref 23), some (.int x1), some (.int x2)], [.int (σ.1 23 4), .int x1], σ)) rfl <|
      mi_T.br (P := (σ.1 23 4) ≤ x1) (fun _ => rfl)
      (fun h2 => mi_T.go 1 (s1 := (41, [some (.ref 23), some (.int x1), some (.int x2)], [.int 0], σ)) rfl <|
      mi_T.fin (k2 h1 h2) (fun _ => rfl))
      (fun h2 => mi_T.go 3 (s1 := (17, [some (.ref 23), some (.int x1), some (.int x2)], [.int x1, .ref 26], σ)) rfl <|
      mi_T.lz rfl rfl (b1 h1 h2) <|
      mi_T.br (P := ¬ (σ.1 26 x1.toNatClampNeg) = 0) (fun _ => rfl)
      (fun h3 => mi_T.go 1 (s1 := (41, [some (.ref 23), some (.int x1), some (.int x2)], [.int 0], σ)) rfl <|
      mi_T.fin (k3 h1 h2 h3) (fun _ => rfl))
      (fun h3 => mi_T.go 4 (s1 := (27, [some (.ref 23), some (.int x1), some (.int x2)], [.int x1, .ref 25, .int x2], σ)) rfl <|
      mi_T.li rfl rfl (b2 h1 h2 h3) <|
      mi_T.go 3 (s1 := (33, [some (.ref 23), some (.int x1), some (.int x2)], [.int ((σ.1 25 x1.toNatClampNeg) + (σ.1 23 0)), .int x2], σ)) rfl <|
      mi_T.br (P := ((σ.1 25 x1.toNatClampNeg) + (σ.1 23 0)) ≤ x2) (fun _ => rfl)
      (fun h4 => mi_T.go 1 (s1 := (41, [some (.ref 23), some (.int x1), some (.int x2)], [.int 0], σ)) rfl <|
      mi_T.fin (k4 h1 h2 h3 h4) (fun _ => rfl))
      (fun h4 => mi_T.go 2 (s1 := (41, [some (.ref 23), some (.int x1), some (.int x2)], [.int 1], σ)) rfl <|
      mi_T.fin (k5 h1 h2 h3 h4) (fun _ => rfl)))))

-- AssertionGate$Requests.awaits(III)Z
theorem R102_0 {X : Nat × (Nat → Int32)} {d : Nat} {r : mA mG} {σ : mG} {x1 : Int32} {x2 : Int32} {x3 : Int32} {v1 : Int32} {σ1 : mG}
    (c1 : RR X d 101 [.ref 23, .int x1, .int x3] σ (some (.int v1), σ1))
    (k1 : v1 = 0 → r = (some (.int 0), σ1))
    (b1 : ¬ (v1 = 0) → mi_in x1 30 = true)
    (k2 : ¬ (v1 = 0) → ¬ (σ1.1 24 x1.toNatClampNeg) = x2 → r = (some (.int 0), σ1))
    (k3 : ¬ (v1 = 0) → ¬ (¬ (σ1.1 24 x1.toNatClampNeg) = x2) → r = (some (.int 1), σ1))
    : TT X d tb102 (some .boolean) (0, [some (.ref 23), some (.int x1), some (.int x2), some (.int x3)], [], σ) r := mi_T.go 3 (s1 := (3, [some (.ref 23), some (.int x1), some (.int x2), some (.int x3)], [.int x3, .int x1, .ref 23], σ)) rfl <|
      mi_T.call (as := [.ref 23, .int x1, .int x3]) (rest := []) (v := some (.int v1)) rfl rfl rfl rfl rfl (c1) <|
      mi_T.br (P := v1 = 0) (fun _ => rfl)
      (fun h1 => mi_T.go 1 (s1 := (24, [some (.ref 23), some (.int x1), some (.int x2), some (.int x3)], [.int 0], σ1)) rfl <|
      mi_T.fin (k1 h1) (fun _ => rfl))
      (fun h1 => mi_T.go 3 (s1 := (14, [some (.ref 23), some (.int x1), some (.int x2), some (.int x3)], [.int x1, .ref 24], σ1)) rfl <|
      mi_T.li rfl rfl (b1 h1) <|
      mi_T.go 1 (s1 := (16, [some (.ref 23), some (.int x1), some (.int x2), some (.int x3)], [.int x2, .int (σ1.1 24 x1.toNatClampNeg)], σ1)) rfl <|
      mi_T.br (P := ¬ (σ1.1 24 x1.toNatClampNeg) = x2) (fun _ => rfl)
      (fun h2 => mi_T.go 1 (s1 := (24, [some (.ref 23), some (.int x1), some (.int x2), some (.int x3)], [.int 0], σ1)) rfl <|
      mi_T.fin (k2 h1 h2) (fun _ => rfl))
      (fun h2 => mi_T.go 2 (s1 := (24, [some (.ref 23), some (.int x1), some (.int x2), some (.int x3)], [.int 1], σ1)) rfl <|
      mi_T.fin (k3 h1 h2) (fun _ => rfl)))

-- AssertionGate$Requests.answer(I)V
theorem R103_0 {X : Nat × (Nat → Int32)} {d : Nat} {r : mA mG} {σ : mG} {x1 : Int32}
    (k1 : x1 < 0 → r = (none, σ))
    (k2 : ¬ (x1 < 0) → (σ.1 23 4) ≤ x1 → r = (none, σ))
    (b1 : ¬ (x1 < 0) → ¬ ((σ.1 23 4) ≤ x1) → mi_in x1 30 = true)
    (k3 : ¬ (x1 < 0) → ¬ ((σ.1 23 4) ≤ x1) → r = (none, (mi_uc σ.1 26 (upd (σ.1 26) x1.toNatClampNeg (mi_nar 2 1)), σ.2)))
    : TT X d tb103 none (0, [some (.ref 23), some (.int x1)], [], σ) r := mi_T.go 1 (s1 := (1, [some (.ref 23), some (.int x1)], [.int x1], σ)) rfl <|
      mi_T.br (P := x1 < 0) (fun _ => rfl)
      (fun h1 => mi_T.fin (k1 h1) (fun _ => rfl))
      (fun h1 => mi_T.go 3 (s1 := (9, [some (.ref 23), some (.int x1)], [.int (σ.1 23 4), .int x1], σ)) rfl <|
      mi_T.br (P := (σ.1 23 4) ≤ x1) (fun _ => rfl)
      (fun h2 => mi_T.fin (k2 h1 h2) (fun _ => rfl))
      (fun h2 => mi_T.go 4 (s1 := (18, [some (.ref 23), some (.int x1)], [.int 1, .int x1, .ref 26], σ)) rfl <|
      mi_T.sz rfl rfl (b1 h1 h2) <|
      mi_T.fin (k3 h1 h2) (fun _ => rfl)))

-- AssertionGate$Requests.openCount(I)I
theorem R104_0 {X : Nat × (Nat → Int32)} {d : Nat} {r : mA mG} {σ : mG} {x1 : Int32}
    (k1 : TT X d tb104 (some .int) (4, [some (.ref 23), some (.int x1), some (.int 0), some (.int 0)], [], σ) r)
    : TT X d tb104 (some .int) (0, [some (.ref 23), some (.int x1), none, none], [], σ) r := mi_T.go 4 (s1 := (4, [some (.ref 23), some (.int x1), some (.int 0), some (.int 0)], [], σ)) rfl <|
      k1

theorem R104_4 {X : Nat × (Nat → Int32)} {d : Nat} {r : mA mG} {σ : mG} {x1 : Int32} {x2 : Int32} {x3 : Int32} {v1 : Int32} {σ1 : mG}
    (k1 : (σ.1 23 4) ≤ x3 → r = (some (.int x2), σ))
    (c1 : ¬ ((σ.1 23 4) ≤ x3) → RR X d 101 [.ref 23, .int x3, .int x1] σ (some (.int v1), σ1))
    (k2 : ¬ ((σ.1 23 4) ≤ x3) → v1 = 0 → TT X d tb104 (some .int) (4, [some (.ref 23), some (.int x1), some (.int x2), some (.int (x3 + 1))], [], σ1) r)
    (k3 : ¬ ((σ.1 23 4) ≤ x3) → ¬ (v1 = 0) → TT X d tb104 (some .int) (4, [some (.ref 23), some (.int x1), some (.int (x2 + 1)), some (.int (x3 + 1))], [], σ1) r)
    : TT X d tb104 (some .int) (4, [some (.ref 23), some (.int x1), some (.int x2), some (.int x3)], [], σ) r := mi_T.go 3 (s1 := (9, [some (.ref 23), some (.int x1), some (.int x2), some (.int x3)], [.int (σ.1 23 4), .int x3], σ)) rfl <|
      mi_T.br (P := (σ.1 23 4) ≤ x3) (fun _ => rfl)
      (fun h1 => mi_T.go 1 (s1 := (31, [some (.ref 23), some (.int x1), some (.int x2), some (.int x3)], [.int x2], σ)) rfl <|
      mi_T.fin (k1 h1) (fun _ => rfl))
      (fun h1 => mi_T.go 3 (s1 := (15, [some (.ref 23), some (.int x1), some (.int x2), some (.int x3)], [.int x1, .int x3, .ref 23], σ)) rfl <|
      mi_T.call (as := [.ref 23, .int x3, .int x1]) (rest := []) (v := some (.int v1)) rfl rfl rfl rfl rfl (c1 h1) <|
      mi_T.br (P := v1 = 0) (fun _ => rfl)
      (fun h2 => mi_T.go 2 (s1 := (4, [some (.ref 23), some (.int x1), some (.int x2), some (.int (x3 + 1))], [], σ1)) rfl <|
      (k2 h1 h2))
      (fun h2 => mi_T.go 3 (s1 := (4, [some (.ref 23), some (.int x1), some (.int (x2 + 1)), some (.int (x3 + 1))], [], σ1)) rfl <|
      (k3 h1 h2)))

