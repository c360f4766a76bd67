/-! Rules of AssertionGate.Page, printed by a program: what each stretch of its code does. -/
-- AssertionGate$Page.codeAt(I)I
theorem R39_0 {X : Nat × (Nat → Int32)} {d : Nat} {r : mA mG} {σ : mG} {x1 : Int32}
    (k1 : x1 < 0 → r = (some (.int (-1)), σ))
    (k2 : ¬ (x1 < 0) → (σ.1 1 1) ≤ x1 → r = (some (.int (-1)), σ))
    (b1 : ¬ (x1 < 0) → ¬ ((σ.1 1 1) ≤ x1) → mi_in x1 400 = true)
    (k3 : ¬ (x1 < 0) → ¬ ((σ.1 1 1) ≤ x1) → r = (some (.int (σ.1 2 x1.toNatClampNeg)), σ))
    : TT X d tb39 (some .int) (0, [some (.ref 1), some (.int x1)], [], σ) r := mi_T.go 1 (s1 := (1, [some (.ref 1), some (.int x1)], [.int x1], σ)) rfl <|
      mi_T.br (P := x1 < 0) (fun _ => rfl)
      (fun h1 => mi_T.go 1 (s1 := (22, [some (.ref 1), some (.int x1)], [.int (-1)], σ)) rfl <|
      mi_T.fin (k1 h1) (fun _ => rfl))
      (fun h1 => mi_T.go 3 (s1 := (9, [some (.ref 1), some (.int x1)], [.int (σ.1 1 1), .int x1], σ)) rfl <|
      mi_T.br (P := (σ.1 1 1) ≤ x1) (fun _ => rfl)
      (fun h2 => mi_T.go 1 (s1 := (22, [some (.ref 1), some (.int x1)], [.int (-1)], σ)) rfl <|
      mi_T.fin (k2 h1 h2) (fun _ => rfl))
      (fun h2 => mi_T.go 3 (s1 := (17, [some (.ref 1), some (.int x1)], [.int x1, .ref 2], σ)) rfl <|
      mi_T.lc rfl rfl (b1 h1 h2) <|
      mi_T.go 1 (s1 := (22, [some (.ref 1), some (.int x1)], [.int (σ.1 2 x1.toNatClampNeg)], σ)) rfl <|
      mi_T.fin (k3 h1 h2) (fun _ => rfl)))

-- AssertionGate$Page.put(C)Z
theorem R40_0 {X : Nat × (Nat → Int32)} {d : Nat} {r : mA mG} {σ : mG} {x1 : Int32}
    (b1 : (σ.1 1 1) < 400 → mi_in (σ.1 1 1) 400 = true)
    (k1 : (σ.1 1 1) < 400 → r = (some (.int 1), (mi_uc (mi_uc σ.1 2 (upd (σ.1 2) ((σ.1 1 1).toNatClampNeg) (mi_nar 1 x1))) 1 (upd (σ.1 1) 1 ((σ.1 1 1) + 1)), σ.2)))
    (k2 : ¬ ((σ.1 1 1) < 400) → r = (some (.int 0), σ))
    : TT X d tb40 (some .boolean) (0, [some (.ref 1), some (.int x1)], [], σ) r := mi_T.go 3 (s1 := (7, [some (.ref 1), some (.int x1)], [.int 400, .int (σ.1 1 1)], σ)) rfl <|
      mi_T.br (P := (σ.1 1 1) < 400) (fun _ => rfl)
      (fun h1 => mi_T.go 5 (s1 := (21, [some (.ref 1), some (.int x1)], [.int x1, .int (σ.1 1 1), .ref 2], σ)) rfl <|
      mi_T.sc rfl rfl (b1 h1) <|
      mi_T.go 7 (s1 := (33, [some (.ref 1), some (.int x1)], [.int 1], (mi_uc (mi_uc σ.1 2 (upd (σ.1 2) ((σ.1 1 1).toNatClampNeg) (mi_nar 1 x1))) 1 (upd (σ.1 1) 1 ((σ.1 1 1) + 1)), σ.2))) rfl <|
      mi_T.fin (k1 h1) (fun _ => rfl))
      (fun h1 => mi_T.go 1 (s1 := (11, [some (.ref 1), some (.int x1)], [.int 0], σ)) rfl <|
      mi_T.fin (k2 h1) (fun _ => rfl))

-- AssertionGate$Page.putWord(Ljava/lang/String;)V
theorem R41_0 {X : Nat × (Nat → Int32)} {d : Nat} {r : mA mG} {σ : mG} {w1 : Nat}
    (k1 : TT X d tb41 none (2, [some (.ref 1), some (.ref w1), some (.int 0)], [], σ) r)
    : TT X d tb41 none (0, [some (.ref 1), some (.ref w1), none], [], σ) r := mi_T.go 2 (s1 := (2, [some (.ref 1), some (.ref w1), some (.int 0)], [], σ)) rfl <|
      k1

theorem R41_2 {X : Nat × (Nat → Int32)} {d : Nat} {r : mA mG} {σ : mG} {w1 : Nat} {x2 : Int32} {v1 : Int32} {v2 : Int32} {v3 : Int32} {σ1 : mG}
    (c1 : qPR 1003 [.ref w1] σ = some (some (.int v1), σ))
    (k1 : v1 ≤ x2 → r = (none, σ))
    (c2 : ¬ (v1 ≤ x2) → qPR 1004 [.ref w1, .int x2] σ = some (some (.int v2), σ))
    (c3 : ¬ (v1 ≤ x2) → RR X d 40 [.ref 1, .int v2] σ (some (.int v3), σ1))
    (k2 : ¬ (v1 ≤ x2) → TT X d tb41 none (2, [some (.ref 1), some (.ref w1), some (.int (x2 + 1))], [], σ1) r)
    : TT X d tb41 none (2, [some (.ref 1), some (.ref w1), some (.int x2)], [], σ) r := mi_T.go 2 (s1 := (4, [some (.ref 1), some (.ref w1), some (.int x2)], [.ref w1, .int x2], σ)) rfl <|
      mi_T.prim (as := [.ref w1]) (rest := [.int x2]) (v := some (.int v1)) rfl rfl rfl rfl rfl (c1) <|
      mi_T.br (P := v1 ≤ x2) (fun _ => rfl)
      (fun h1 => mi_T.fin (k1 h1) (fun _ => rfl))
      (fun h1 => mi_T.go 3 (s1 := (13, [some (.ref 1), some (.ref w1), some (.int x2)], [.int x2, .ref w1, .ref 1], σ)) rfl <|
      mi_T.prim (as := [.ref w1, .int x2]) (rest := [.ref 1]) (v := some (.int v2)) rfl rfl rfl rfl rfl (c2 h1) <|
      mi_T.call (as := [.ref 1, .int v2]) (rest := []) (v := some (.int v3)) rfl rfl rfl rfl rfl (c3 h1) <|
      mi_T.go 3 (s1 := (2, [some (.ref 1), some (.ref w1), some (.int (x2 + 1))], [], σ1)) rfl <|
      (k2 h1))

-- AssertionGate$Page.putNumber(I)V
theorem R42_0 {X : Nat × (Nat → Int32)} {d : Nat} {r : mA mG} {σ : mG} {x1 : Int32}
    (k1 : TT X d tb42 none (4, [some (.ref 1), some (.int x1), some (.int 1), some (.int 0)], [], σ) r)
    : TT X d tb42 none (0, [some (.ref 1), some (.int x1), none, none], [], σ) r := mi_T.go 4 (s1 := (4, [some (.ref 1), some (.int x1), some (.int 1), some (.int 0)], [], σ)) rfl <|
      k1

theorem R42_4 {X : Nat × (Nat → Int32)} {d : Nat} {r : mA mG} {σ : mG} {x1 : Int32} {x2 : Int32} {x3 : Int32}
    (k1 : 9 ≤ x3 → TT X d tb42 none (29, [some (.ref 1), some (.int x1), some (.int x2), some (.int x3)], [], σ) r)
    (b1 : ¬ (9 ≤ x3) → ¬ x2 = 0)
    (k2 : ¬ (9 ≤ x3) → (x1 / x2) < 10 → TT X d tb42 none (29, [some (.ref 1), some (.int x1), some (.int x2), some (.int x3)], [], σ) r)
    (k3 : ¬ (9 ≤ x3) → ¬ ((x1 / x2) < 10) → TT X d tb42 none (4, [some (.ref 1), some (.int x1), some (.int (x2 * 10)), some (.int (x3 + 1))], [], σ) r)
    : TT X d tb42 none (4, [some (.ref 1), some (.int x1), some (.int x2), some (.int x3)], [], σ) r := mi_T.go 2 (s1 := (7, [some (.ref 1), some (.int x1), some (.int x2), some (.int x3)], [.int 9, .int x3], σ)) rfl <|
      mi_T.br (P := 9 ≤ x3) (fun _ => rfl)
      (fun h1 => (k1 h1))
      (fun h1 => mi_T.go 2 (s1 := (12, [some (.ref 1), some (.int x1), some (.int x2), some (.int x3)], [.int x2, .int x1], σ)) rfl <|
      mi_T.idiv rfl (b1 h1) <|
      mi_T.go 1 (s1 := (15, [some (.ref 1), some (.int x1), some (.int x2), some (.int x3)], [.int 10, .int (x1 / x2)], σ)) rfl <|
      mi_T.br (P := (x1 / x2) < 10) (fun _ => rfl)
      (fun h2 => (k2 h1 h2))
      (fun h2 => mi_T.go 6 (s1 := (4, [some (.ref 1), some (.int x1), some (.int (x2 * 10)), some (.int (x3 + 1))], [], σ)) rfl <|
      (k3 h1 h2)))

theorem R42_29 {X : Nat × (Nat → Int32)} {d : Nat} {r : mA mG} {σ : mG} {x1 : Int32} {x2 : Int32} {x3 : Int32} {v1 : Int32} {σ1 : mG}
    (k1 : x2 ≤ 0 → r = (none, σ))
    (b1 : ¬ (x2 ≤ 0) → ¬ x2 = 0)
    (c1 : ¬ (x2 ≤ 0) → RR X d 40 [.ref 1, .int (((48 + ((x1 / x2) - (x1 / x2) / 10 * 10)).toUInt32 % 65536).toInt32)] σ (some (.int v1), σ1))
    (k2 : ¬ (x2 ≤ 0) → TT X d tb42 none (29, [some (.ref 1), some (.int x1), some (.int (x2 / 10)), some (.int x3)], [], σ1) r)
    : TT X d tb42 none (29, [some (.ref 1), some (.int x1), some (.int x2), some (.int x3)], [], σ) r := mi_T.go 1 (s1 := (30, [some (.ref 1), some (.int x1), some (.int x2), some (.int x3)], [.int x2], σ)) rfl <|
      mi_T.br (P := x2 ≤ 0) (fun _ => rfl)
      (fun h1 => mi_T.fin (k1 h1) (fun _ => rfl))
      (fun h1 => mi_T.go 4 (s1 := (38, [some (.ref 1), some (.int x1), some (.int x2), some (.int x3)], [.int x2, .int x1, .int 48, .ref 1], σ)) rfl <|
      mi_T.idiv rfl (b1 h1) <|
      mi_T.go 1 (s1 := (41, [some (.ref 1), some (.int x1), some (.int x2), some (.int x3)], [.int 10, .int (x1 / x2), .int 48, .ref 1], σ)) rfl <|
      mi_T.irem rfl (by decide) <|
      mi_T.go 2 (s1 := (44, [some (.ref 1), some (.int x1), some (.int x2), some (.int x3)], [.int (((48 + ((x1 / x2) - (x1 / x2) / 10 * 10)).toUInt32 % 65536).toInt32), .ref 1], σ)) rfl <|
      mi_T.call (as := [.ref 1, .int (((48 + ((x1 / x2) - (x1 / x2) / 10 * 10)).toUInt32 % 65536).toInt32)]) (rest := []) (v := some (.int v1)) rfl rfl rfl rfl rfl (c1 h1) <|
      mi_T.go 3 (s1 := (51, [some (.ref 1), some (.int x1), some (.int x2), some (.int x3)], [.int 10, .int x2], σ1)) rfl <|
      mi_T.idiv rfl (by decide) <|
      mi_T.go 2 (s1 := (29, [some (.ref 1), some (.int x1), some (.int (x2 / 10)), some (.int x3)], [], σ1)) rfl <|
      (k2 h1))

-- AssertionGate$Page.shorten(I)V
theorem R43_0 {X : Nat × (Nat → Int32)} {d : Nat} {r : mA mG} {σ : mG} {x1 : Int32}
    (k1 : x1 < 0 → r = (none, σ))
    (k2 : ¬ (x1 < 0) → (σ.1 1 1) < x1 → r = (none, σ))
    (k3 : ¬ (x1 < 0) → ¬ ((σ.1 1 1) < x1) → r = (none, (mi_uc σ.1 1 (upd (σ.1 1) 1 x1), σ.2)))
    : TT X d tb43 none (0, [some (.ref 1), some (.int x1)], [], σ) r := mi_T.go 1 (s1 := (1, [some (.ref 1), some (.int x1)], [.int x1], σ)) rfl <|
      mi_T.br (P := x1 < 0) (fun _ => rfl)
      (fun h1 => mi_T.fin (k1 h1) (fun _ => rfl))
      (fun h1 => mi_T.go 3 (s1 := (9, [some (.ref 1), some (.int x1)], [.int (σ.1 1 1), .int x1], σ)) rfl <|
      mi_T.br (P := (σ.1 1 1) < x1) (fun _ => rfl)
      (fun h2 => mi_T.fin (k2 h1 h2) (fun _ => rfl))
      (fun h2 => mi_T.go 3 (s1 := (17, [some (.ref 1), some (.int x1)], [], (mi_uc σ.1 1 (upd (σ.1 1) 1 x1), σ.2))) rfl <|
      mi_T.fin (k3 h1 h2) (fun _ => rfl)))

-- AssertionGate$Page.moveOut(IILAssertionGate$Page;)V
theorem R44_0 {X : Nat × (Nat → Int32)} {d : Nat} {r : mA mG} {σ : mG} {x1 : Int32} {x2 : Int32} {σ1 : mG} {σ2 : mG}
    (k1 : x1 < 0 → r = (none, σ))
    (k2 : ¬ (x1 < 0) → x2 < x1 → r = (none, σ))
    (c1 : ¬ (x1 < 0) → ¬ (x2 < x1) → x2 ≤ (σ.1 1 1) → qPR 1002 [.ref 2, .int x1, .ref 4, .int 0, .int (x2 - x1)] σ = some (none, σ1))
    (c2 : ¬ (x1 < 0) → ¬ (x2 < x1) → x2 ≤ (σ.1 1 1) → qPR 1002 [.ref 2, .int x2, .ref 2, .int x1, .int ((σ1.1 1 1) - x2)] (mi_uc σ1.1 3 (upd (σ1.1 3) 1 (x2 - x1)), σ1.2) = some (none, σ2))
    (k3 : ¬ (x1 < 0) → ¬ (x2 < x1) → x2 ≤ (σ.1 1 1) → r = (none, (mi_uc σ2.1 1 (upd (σ2.1 1) 1 ((σ2.1 1 1) - (x2 - x1))), σ2.2)))
    (k4 : ¬ (x1 < 0) → ¬ (x2 < x1) → ¬ (x2 ≤ (σ.1 1 1)) → r = (none, σ))
    : TT X d tb44 none (0, [some (.ref 1), some (.int x1), some (.int x2), some (.ref 3)], [], σ) r := mi_T.go 1 (s1 := (1, [some (.ref 1), some (.int x1), some (.int x2), some (.ref 3)], [.int x1], σ)) rfl <|
      mi_T.br (P := x1 < 0) (fun _ => rfl)
      (fun h1 => mi_T.fin (k1 h1) (fun _ => rfl))
      (fun h1 => mi_T.go 2 (s1 := (6, [some (.ref 1), some (.int x1), some (.int x2), some (.ref 3)], [.int x2, .int x1], σ)) rfl <|
      mi_T.br (P := x2 < x1) (fun _ => rfl)
      (fun h2 => mi_T.fin (k2 h1 h2) (fun _ => rfl))
      (fun h2 => mi_T.go 3 (s1 := (14, [some (.ref 1), some (.int x1), some (.int x2), some (.ref 3)], [.int (σ.1 1 1), .int x2], σ)) rfl <|
      mi_T.br (P := x2 ≤ (σ.1 1 1)) (fun _ => rfl)
      (fun h3 => mi_T.go 9 (s1 := (31, [some (.ref 1), some (.int x1), some (.int x2), some (.ref 3)], [.int (x2 - x1), .int 0, .ref 4, .int x1, .ref 2], σ)) rfl <|
      mi_T.prim (as := [.ref 2, .int x1, .ref 4, .int 0, .int (x2 - x1)]) (rest := []) (v := none) rfl rfl rfl rfl rfl (c1 h1 h2 h3) <|
      mi_T.go 15 (s1 := (57, [some (.ref 1), some (.int x1), some (.int x2), some (.ref 3)], [.int ((σ1.1 1 1) - x2), .int x1, .ref 2, .int x2, .ref 2], (mi_uc σ1.1 3 (upd (σ1.1 3) 1 (x2 - x1)), σ1.2))) rfl <|
      mi_T.prim (as := [.ref 2, .int x2, .ref 2, .int x1, .int ((σ1.1 1 1) - x2)]) (rest := []) (v := none) rfl rfl rfl rfl rfl (c2 h1 h2 h3) <|
      mi_T.go 8 (s1 := (72, [some (.ref 1), some (.int x1), some (.int x2), some (.ref 3)], [], (mi_uc σ2.1 1 (upd (σ2.1 1) 1 ((σ2.1 1 1) - (x2 - x1))), σ2.2))) rfl <|
      mi_T.fin (k3 h1 h2 h3) (fun _ => rfl))
      (fun h3 => mi_T.fin (k4 h1 h2 h3) (fun _ => rfl))))

-- AssertionGate$Page.copyIn(ILAssertionGate$Page;)V
theorem R45_0 {X : Nat × (Nat → Int32)} {d : Nat} {r : mA mG} {σ : mG} {x1 : Int32} {σ1 : mG} {σ2 : mG}
    (k1 : x1 < 0 → r = (none, σ))
    (k2 : ¬ (x1 < 0) → (σ.1 1 1) < x1 → r = (none, σ))
    (c1 : ¬ (x1 < 0) → ¬ ((σ.1 1 1) < x1) → ((σ.1 1 1) + (σ.1 3 1)) ≤ 400 → qPR 1002 [.ref 2, .int x1, .ref 2, .int (x1 + (σ.1 3 1)), .int ((σ.1 1 1) - x1)] σ = some (none, σ1))
    (c2 : ¬ (x1 < 0) → ¬ ((σ.1 1 1) < x1) → ((σ.1 1 1) + (σ.1 3 1)) ≤ 400 → qPR 1002 [.ref 4, .int 0, .ref 2, .int x1, .int (σ1.1 3 1)] σ1 = some (none, σ2))
    (k3 : ¬ (x1 < 0) → ¬ ((σ.1 1 1) < x1) → ((σ.1 1 1) + (σ.1 3 1)) ≤ 400 → r = (none, (mi_uc σ2.1 1 (upd (σ2.1 1) 1 ((σ2.1 1 1) + (σ2.1 3 1))), σ2.2)))
    (k4 : ¬ (x1 < 0) → ¬ ((σ.1 1 1) < x1) → ¬ (((σ.1 1 1) + (σ.1 3 1)) ≤ 400) → r = (none, σ))
    : TT X d tb45 none (0, [some (.ref 1), some (.int x1), some (.ref 3)], [], σ) r := mi_T.go 1 (s1 := (1, [some (.ref 1), some (.int x1), some (.ref 3)], [.int x1], σ)) rfl <|
      mi_T.br (P := x1 < 0) (fun _ => rfl)
      (fun h1 => mi_T.fin (k1 h1) (fun _ => rfl))
      (fun h1 => mi_T.go 3 (s1 := (9, [some (.ref 1), some (.int x1), some (.ref 3)], [.int (σ.1 1 1), .int x1], σ)) rfl <|
      mi_T.br (P := (σ.1 1 1) < x1) (fun _ => rfl)
      (fun h2 => mi_T.fin (k2 h1 h2) (fun _ => rfl))
      (fun h2 => mi_T.go 6 (s1 := (24, [some (.ref 1), some (.int x1), some (.ref 3)], [.int 400, .int ((σ.1 1 1) + (σ.1 3 1))], σ)) rfl <|
      mi_T.br (P := ((σ.1 1 1) + (σ.1 3 1)) ≤ 400) (fun _ => rfl)
      (fun h3 => mi_T.go 13 (s1 := (49, [some (.ref 1), some (.int x1), some (.ref 3)], [.int ((σ.1 1 1) - x1), .int (x1 + (σ.1 3 1)), .ref 2, .int x1, .ref 2], σ)) rfl <|
      mi_T.prim (as := [.ref 2, .int x1, .ref 2, .int (x1 + (σ.1 3 1)), .int ((σ.1 1 1) - x1)]) (rest := []) (v := none) rfl rfl rfl rfl rfl (c1 h1 h2 h3) <|
      mi_T.go 8 (s1 := (66, [some (.ref 1), some (.int x1), some (.ref 3)], [.int (σ1.1 3 1), .int x1, .ref 2, .int 0, .ref 4], σ1)) rfl <|
      mi_T.prim (as := [.ref 4, .int 0, .ref 2, .int x1, .int (σ1.1 3 1)]) (rest := []) (v := none) rfl rfl rfl rfl rfl (c2 h1 h2 h3) <|
      mi_T.go 7 (s1 := (82, [some (.ref 1), some (.int x1), some (.ref 3)], [], (mi_uc σ2.1 1 (upd (σ2.1 1) 1 ((σ2.1 1 1) + (σ2.1 3 1))), σ2.2))) rfl <|
      mi_T.fin (k3 h1 h2 h3) (fun _ => rfl))
      (fun h3 => mi_T.fin (k4 h1 h2 h3) (fun _ => rfl))))

-- AssertionGate$Page.afterLetters(I)I
theorem R46_0 {X : Nat × (Nat → Int32)} {d : Nat} {r : mA mG} {σ : mG} {x1 : Int32}
    (k1 : TT X d tb46 (some .int) (2, [some (.ref 1), some (.int x1), some (.int x1)], [], σ) r)
    : TT X d tb46 (some .int) (0, [some (.ref 1), some (.int x1), none], [], σ) r := mi_T.go 2 (s1 := (2, [some (.ref 1), some (.int x1), some (.int x1)], [], σ)) rfl <|
      k1

theorem R46_2 {X : Nat × (Nat → Int32)} {d : Nat} {r : mA mG} {σ : mG} {x1 : Int32} {x2 : Int32}
    (k1 : x2 < 0 → r = (some (.int x2), σ))
    (k2 : ¬ (x2 < 0) → (σ.1 1 1) ≤ x2 → r = (some (.int x2), σ))
    (b1 : ¬ (x2 < 0) → ¬ ((σ.1 1 1) ≤ x2) → mi_in x2 400 = true)
    (k3 : ¬ (x2 < 0) → ¬ ((σ.1 1 1) ≤ x2) → (σ.1 2 x2.toNatClampNeg) < 97 → r = (some (.int x2), σ))
    (b2 : ¬ (x2 < 0) → ¬ ((σ.1 1 1) ≤ x2) → ¬ ((σ.1 2 x2.toNatClampNeg) < 97) → mi_in x2 400 = true)
    (k4 : ¬ (x2 < 0) → ¬ ((σ.1 1 1) ≤ x2) → ¬ ((σ.1 2 x2.toNatClampNeg) < 97) → 122 < (σ.1 2 x2.toNatClampNeg) → r = (some (.int x2), σ))
    (k5 : ¬ (x2 < 0) → ¬ ((σ.1 1 1) ≤ x2) → ¬ ((σ.1 2 x2.toNatClampNeg) < 97) → ¬ (122 < (σ.1 2 x2.toNatClampNeg)) → TT X d tb46 (some .int) (2, [some (.ref 1), some (.int x1), some (.int (x2 + 1))], [], σ) r)
    : TT X d tb46 (some .int) (2, [some (.ref 1), some (.int x1), some (.int x2)], [], σ) r := mi_T.go 1 (s1 := (3, [some (.ref 1), some (.int x1), some (.int x2)], [.int x2], σ)) rfl <|
      mi_T.br (P := x2 < 0) (fun _ => rfl)
      (fun h1 => mi_T.go 1 (s1 := (43, [some (.ref 1), some (.int x1), some (.int x2)], [.int x2], σ)) rfl <|
      mi_T.fin (k1 h1) (fun _ => rfl))
      (fun h1 => mi_T.go 3 (s1 := (11, [some (.ref 1), some (.int x1), some (.int x2)], [.int (σ.1 1 1), .int x2], σ)) rfl <|
      mi_T.br (P := (σ.1 1 1) ≤ x2) (fun _ => rfl)
      (fun h2 => mi_T.go 1 (s1 := (43, [some (.ref 1), some (.int x1), some (.int x2)], [.int x2], σ)) rfl <|
      mi_T.fin (k2 h1 h2) (fun _ => rfl))
      (fun h2 => mi_T.go 3 (s1 := (19, [some (.ref 1), some (.int x1), some (.int x2)], [.int x2, .ref 2], σ)) rfl <|
      mi_T.lc rfl rfl (b1 h1 h2) <|
      mi_T.go 1 (s1 := (22, [some (.ref 1), some (.int x1), some (.int x2)], [.int 97, .int (σ.1 2 x2.toNatClampNeg)], σ)) rfl <|
      mi_T.br (P := (σ.1 2 x2.toNatClampNeg) < 97) (fun _ => rfl)
      (fun h3 => mi_T.go 1 (s1 := (43, [some (.ref 1), some (.int x1), some (.int x2)], [.int x2], σ)) rfl <|
      mi_T.fin (k3 h1 h2 h3) (fun _ => rfl))
      (fun h3 => mi_T.go 3 (s1 := (30, [some (.ref 1), some (.int x1), some (.int x2)], [.int x2, .ref 2], σ)) rfl <|
      mi_T.lc rfl rfl (b2 h1 h2 h3) <|
      mi_T.go 1 (s1 := (33, [some (.ref 1), some (.int x1), some (.int x2)], [.int 122, .int (σ.1 2 x2.toNatClampNeg)], σ)) rfl <|
      mi_T.br (P := 122 < (σ.1 2 x2.toNatClampNeg)) (fun _ => rfl)
      (fun h4 => mi_T.go 1 (s1 := (43, [some (.ref 1), some (.int x1), some (.int x2)], [.int x2], σ)) rfl <|
      mi_T.fin (k4 h1 h2 h3 h4) (fun _ => rfl))
      (fun h4 => mi_T.go 2 (s1 := (2, [some (.ref 1), some (.int x1), some (.int (x2 + 1))], [], σ)) rfl <|
      (k5 h1 h2 h3 h4)))))

-- AssertionGate$Page.afterSpaces(I)I
theorem R47_0 {X : Nat × (Nat → Int32)} {d : Nat} {r : mA mG} {σ : mG} {x1 : Int32}
    (k1 : TT X d tb47 (some .int) (2, [some (.ref 1), some (.int x1), some (.int x1)], [], σ) r)
    : TT X d tb47 (some .int) (0, [some (.ref 1), some (.int x1), none], [], σ) r := mi_T.go 2 (s1 := (2, [some (.ref 1), some (.int x1), some (.int x1)], [], σ)) rfl <|
      k1

theorem R47_2 {X : Nat × (Nat → Int32)} {d : Nat} {r : mA mG} {σ : mG} {x1 : Int32} {x2 : Int32} {v1 : Int32} {σ1 : mG}
    (k1 : (σ.1 1 1) ≤ x2 → r = (some (.int x2), σ))
    (c1 : ¬ ((σ.1 1 1) ≤ x2) → RR X d 39 [.ref 1, .int x2] σ (some (.int v1), σ1))
    (k2 : ¬ ((σ.1 1 1) ≤ x2) → ¬ v1 = 32 → r = (some (.int x2), σ1))
    (k3 : ¬ ((σ.1 1 1) ≤ x2) → ¬ (¬ v1 = 32) → TT X d tb47 (some .int) (2, [some (.ref 1), some (.int x1), some (.int (x2 + 1))], [], σ1) r)
    : TT X d tb47 (some .int) (2, [some (.ref 1), some (.int x1), some (.int x2)], [], σ) r := mi_T.go 3 (s1 := (7, [some (.ref 1), some (.int x1), some (.int x2)], [.int (σ.1 1 1), .int x2], σ)) rfl <|
      mi_T.br (P := (σ.1 1 1) ≤ x2) (fun _ => rfl)
      (fun h1 => mi_T.go 1 (s1 := (27, [some (.ref 1), some (.int x1), some (.int x2)], [.int x2], σ)) rfl <|
      mi_T.fin (k1 h1) (fun _ => rfl))
      (fun h1 => mi_T.go 2 (s1 := (12, [some (.ref 1), some (.int x1), some (.int x2)], [.int x2, .ref 1], σ)) rfl <|
      mi_T.call (as := [.ref 1, .int x2]) (rest := []) (v := some (.int v1)) rfl rfl rfl rfl rfl (c1 h1) <|
      mi_T.go 1 (s1 := (17, [some (.ref 1), some (.int x1), some (.int x2)], [.int 32, .int v1], σ1)) rfl <|
      mi_T.br (P := ¬ v1 = 32) (fun _ => rfl)
      (fun h2 => mi_T.go 1 (s1 := (27, [some (.ref 1), some (.int x1), some (.int x2)], [.int x2], σ1)) rfl <|
      mi_T.fin (k2 h1 h2) (fun _ => rfl))
      (fun h2 => mi_T.go 2 (s1 := (2, [some (.ref 1), some (.int x1), some (.int (x2 + 1))], [], σ1)) rfl <|
      (k3 h1 h2)))

-- AssertionGate$Page.hasDashes(I)Z
theorem R48_0 {X : Nat × (Nat → Int32)} {d : Nat} {r : mA mG} {σ : mG} {x1 : Int32} {v1 : Int32} {σ1 : mG} {v2 : Int32} {σ2 : mG}
    (c1 : RR X d 39 [.ref 1, .int x1] σ (some (.int v1), σ1))
    (k1 : ¬ v1 = 45 → r = (some (.int 0), σ1))
    (c2 : ¬ (¬ v1 = 45) → RR X d 39 [.ref 1, .int (x1 + 1)] σ1 (some (.int v2), σ2))
    (k2 : ¬ (¬ v1 = 45) → ¬ v2 = 45 → r = (some (.int 0), σ2))
    (k3 : ¬ (¬ v1 = 45) → ¬ (¬ v2 = 45) → r = (some (.int 1), σ2))
    : TT X d tb48 (some .boolean) (0, [some (.ref 1), some (.int x1)], [], σ) r := mi_T.go 2 (s1 := (2, [some (.ref 1), some (.int x1)], [.int x1, .ref 1], σ)) rfl <|
      mi_T.call (as := [.ref 1, .int x1]) (rest := []) (v := some (.int v1)) rfl rfl rfl rfl rfl (c1) <|
      mi_T.go 1 (s1 := (7, [some (.ref 1), some (.int x1)], [.int 45, .int v1], σ1)) rfl <|
      mi_T.br (P := ¬ v1 = 45) (fun _ => rfl)
      (fun h1 => mi_T.go 1 (s1 := (27, [some (.ref 1), some (.int x1)], [.int 0], σ1)) rfl <|
      mi_T.fin (k1 h1) (fun _ => rfl))
      (fun h1 => mi_T.go 4 (s1 := (14, [some (.ref 1), some (.int x1)], [.int (x1 + 1), .ref 1], σ1)) rfl <|
      mi_T.call (as := [.ref 1, .int (x1 + 1)]) (rest := []) (v := some (.int v2)) rfl rfl rfl rfl rfl (c2 h1) <|
      mi_T.go 1 (s1 := (19, [some (.ref 1), some (.int x1)], [.int 45, .int v2], σ2)) rfl <|
      mi_T.br (P := ¬ v2 = 45) (fun _ => rfl)
      (fun h2 => mi_T.go 1 (s1 := (27, [some (.ref 1), some (.int x1)], [.int 0], σ2)) rfl <|
      mi_T.fin (k2 h1 h2) (fun _ => rfl))
      (fun h2 => mi_T.go 2 (s1 := (27, [some (.ref 1), some (.int x1)], [.int 1], σ2)) rfl <|
      mi_T.fin (k3 h1 h2) (fun _ => rfl)))

-- AssertionGate$Page.afterComment(I)I
theorem R49_0 {X : Nat × (Nat → Int32)} {d : Nat} {r : mA mG} {σ : mG} {x1 : Int32}
    (k1 : TT X d tb49 (some .int) (4, [some (.ref 1), some (.int x1), some (.int (x1 + 4))], [], σ) r)
    : TT X d tb49 (some .int) (0, [some (.ref 1), some (.int x1), none], [], σ) r := mi_T.go 4 (s1 := (4, [some (.ref 1), some (.int x1), some (.int (x1 + 4))], [], σ)) rfl <|
      k1

theorem R49_4 {X : Nat × (Nat → Int32)} {d : Nat} {r : mA mG} {σ : mG} {x1 : Int32} {x2 : Int32} {v1 : Int32} {σ1 : mG} {v2 : Int32} {σ2 : mG} {v3 : Int32} {σ3 : mG}
    (c1 : (σ.1 1 1) ≤ x2 → RR X d 39 [.ref 1, .int (x2 + 2)] σ (some (.int v1), σ1))
    (k1 : (σ.1 1 1) ≤ x2 → ¬ v1 = 62 → r = (some (.int (-1)), σ1))
    (k2 : (σ.1 1 1) ≤ x2 → ¬ (¬ v1 = 62) → r = (some (.int (x2 + 3)), σ1))
    (c2 : ¬ ((σ.1 1 1) ≤ x2) → RR X d 48 [.ref 1, .int x2] σ (some (.int v2), σ2))
    (c3 : ¬ ((σ.1 1 1) ≤ x2) → ¬ v2 = 0 → RR X d 39 [.ref 1, .int (x2 + 2)] σ2 (some (.int v3), σ3))
    (k3 : ¬ ((σ.1 1 1) ≤ x2) → ¬ v2 = 0 → ¬ v3 = 62 → r = (some (.int (-1)), σ3))
    (k4 : ¬ ((σ.1 1 1) ≤ x2) → ¬ v2 = 0 → ¬ (¬ v3 = 62) → r = (some (.int (x2 + 3)), σ3))
    (k5 : ¬ ((σ.1 1 1) ≤ x2) → ¬ (¬ v2 = 0) → TT X d tb49 (some .int) (4, [some (.ref 1), some (.int x1), some (.int (x2 + 1))], [], σ2) r)
    : TT X d tb49 (some .int) (4, [some (.ref 1), some (.int x1), some (.int x2)], [], σ) r := mi_T.go 3 (s1 := (9, [some (.ref 1), some (.int x1), some (.int x2)], [.int (σ.1 1 1), .int x2], σ)) rfl <|
      mi_T.br (P := (σ.1 1 1) ≤ x2) (fun _ => rfl)
      (fun h1 => mi_T.go 4 (s1 := (30, [some (.ref 1), some (.int x1), some (.int x2)], [.int (x2 + 2), .ref 1], σ)) rfl <|
      mi_T.call (as := [.ref 1, .int (x2 + 2)]) (rest := []) (v := some (.int v1)) rfl rfl rfl rfl rfl (c1 h1) <|
      mi_T.go 1 (s1 := (35, [some (.ref 1), some (.int x1), some (.int x2)], [.int 62, .int v1], σ1)) rfl <|
      mi_T.br (P := ¬ v1 = 62) (fun _ => rfl)
      (fun h2 => mi_T.go 1 (s1 := (45, [some (.ref 1), some (.int x1), some (.int x2)], [.int (-1)], σ1)) rfl <|
      mi_T.fin (k1 h1 h2) (fun _ => rfl))
      (fun h2 => mi_T.go 4 (s1 := (45, [some (.ref 1), some (.int x1), some (.int x2)], [.int (x2 + 3)], σ1)) rfl <|
      mi_T.fin (k2 h1 h2) (fun _ => rfl)))
      (fun h1 => mi_T.go 2 (s1 := (14, [some (.ref 1), some (.int x1), some (.int x2)], [.int x2, .ref 1], σ)) rfl <|
      mi_T.call (as := [.ref 1, .int x2]) (rest := []) (v := some (.int v2)) rfl rfl rfl rfl rfl (c2 h1) <|
      mi_T.br (P := ¬ v2 = 0) (fun _ => rfl)
      (fun h2 => mi_T.go 4 (s1 := (30, [some (.ref 1), some (.int x1), some (.int x2)], [.int (x2 + 2), .ref 1], σ2)) rfl <|
      mi_T.call (as := [.ref 1, .int (x2 + 2)]) (rest := []) (v := some (.int v3)) rfl rfl rfl rfl rfl (c3 h1 h2) <|
      mi_T.go 1 (s1 := (35, [some (.ref 1), some (.int x1), some (.int x2)], [.int 62, .int v3], σ3)) rfl <|
      mi_T.br (P := ¬ v3 = 62) (fun _ => rfl)
      (fun h3 => mi_T.go 1 (s1 := (45, [some (.ref 1), some (.int x1), some (.int x2)], [.int (-1)], σ3)) rfl <|
      mi_T.fin (k3 h1 h2 h3) (fun _ => rfl))
      (fun h3 => mi_T.go 4 (s1 := (45, [some (.ref 1), some (.int x1), some (.int x2)], [.int (x2 + 3)], σ3)) rfl <|
      mi_T.fin (k4 h1 h2 h3) (fun _ => rfl)))
      (fun h2 => mi_T.go 2 (s1 := (4, [some (.ref 1), some (.int x1), some (.int (x2 + 1))], [], σ2)) rfl <|
      (k5 h1 h2)))

-- AssertionGate$Page.isWord(IILjava/lang/String;)Z
theorem R50_0 {X : Nat × (Nat → Int32)} {d : Nat} {r : mA mG} {σ : mG} {x1 : Int32} {x2 : Int32} {w3 : Nat} {v1 : Int32}
    (k1 : x1 < 0 → r = (some (.int 0), σ))
    (k2 : ¬ (x1 < 0) → (σ.1 1 1) < x2 → r = (some (.int 0), σ))
    (c1 : ¬ (x1 < 0) → ¬ ((σ.1 1 1) < x2) → qPR 1003 [.ref w3] σ = some (some (.int v1), σ))
    (k3 : ¬ (x1 < 0) → ¬ ((σ.1 1 1) < x2) → (x2 - x1) = v1 → TT X d tb50 (some .boolean) (27, [some (.ref 1), some (.int x1), some (.int x2), some (.ref w3), some (.int 0)], [], σ) r)
    (k4 : ¬ (x1 < 0) → ¬ ((σ.1 1 1) < x2) → ¬ ((x2 - x1) = v1) → r = (some (.int 0), σ))
    : TT X d tb50 (some .boolean) (0, [some (.ref 1), some (.int x1), some (.int x2), some (.ref w3), none], [], σ) r := mi_T.go 1 (s1 := (1, [some (.ref 1), some (.int x1), some (.int x2), some (.ref w3), none], [.int x1], σ)) rfl <|
      mi_T.br (P := x1 < 0) (fun _ => rfl)
      (fun h1 => mi_T.go 1 (s1 := (23, [some (.ref 1), some (.int x1), some (.int x2), some (.ref w3), none], [.int 0], σ)) rfl <|
      mi_T.fin (k1 h1) (fun _ => rfl))
      (fun h1 => mi_T.go 3 (s1 := (9, [some (.ref 1), some (.int x1), some (.int x2), some (.ref w3), none], [.int (σ.1 1 1), .int x2], σ)) rfl <|
      mi_T.br (P := (σ.1 1 1) < x2) (fun _ => rfl)
      (fun h2 => mi_T.go 1 (s1 := (23, [some (.ref 1), some (.int x1), some (.int x2), some (.ref w3), none], [.int 0], σ)) rfl <|
      mi_T.fin (k2 h1 h2) (fun _ => rfl))
      (fun h2 => mi_T.go 4 (s1 := (16, [some (.ref 1), some (.int x1), some (.int x2), some (.ref w3), none], [.ref w3, .int (x2 - x1)], σ)) rfl <|
      mi_T.prim (as := [.ref w3]) (rest := [.int (x2 - x1)]) (v := some (.int v1)) rfl rfl rfl rfl rfl (c1 h1 h2) <|
      mi_T.br (P := (x2 - x1) = v1) (fun _ => rfl)
      (fun h3 => mi_T.go 2 (s1 := (27, [some (.ref 1), some (.int x1), some (.int x2), some (.ref w3), some (.int 0)], [], σ)) rfl <|
      (k3 h1 h2 h3))
      (fun h3 => mi_T.go 1 (s1 := (23, [some (.ref 1), some (.int x1), some (.int x2), some (.ref w3), none], [.int 0], σ)) rfl <|
      mi_T.fin (k4 h1 h2 h3) (fun _ => rfl))))

theorem R50_27 {X : Nat × (Nat → Int32)} {d : Nat} {r : mA mG} {σ : mG} {x1 : Int32} {x2 : Int32} {w3 : Nat} {x4 : Int32} {v1 : Int32} {v2 : Int32}
    (c1 : qPR 1003 [.ref w3] σ = some (some (.int v1), σ))
    (k1 : v1 ≤ x4 → r = (some (.int 1), σ))
    (b1 : ¬ (v1 ≤ x4) → mi_in (x1 + x4) 400 = true)
    (c2 : ¬ (v1 ≤ x4) → qPR 1004 [.ref w3, .int x4] σ = some (some (.int v2), σ))
    (k2 : ¬ (v1 ≤ x4) → (σ.1 2 ((x1 + x4).toNatClampNeg)) = v2 → TT X d tb50 (some .boolean) (27, [some (.ref 1), some (.int x1), some (.int x2), some (.ref w3), some (.int (x4 + 1))], [], σ) r)
    (k3 : ¬ (v1 ≤ x4) → ¬ ((σ.1 2 ((x1 + x4).toNatClampNeg)) = v2) → r = (some (.int 0), σ))
    : TT X d tb50 (some .boolean) (27, [some (.ref 1), some (.int x1), some (.int x2), some (.ref w3), some (.int x4)], [], σ) r := mi_T.go 2 (s1 := (30, [some (.ref 1), some (.int x1), some (.int x2), some (.ref w3), some (.int x4)], [.ref w3, .int x4], σ)) rfl <|
      mi_T.prim (as := [.ref w3]) (rest := [.int x4]) (v := some (.int v1)) rfl rfl rfl rfl rfl (c1) <|
      mi_T.br (P := v1 ≤ x4) (fun _ => rfl)
      (fun h1 => mi_T.go 1 (s1 := (63, [some (.ref 1), some (.int x1), some (.int x2), some (.ref w3), some (.int x4)], [.int 1], σ)) rfl <|
      mi_T.fin (k1 h1) (fun _ => rfl))
      (fun h1 => mi_T.go 5 (s1 := (44, [some (.ref 1), some (.int x1), some (.int x2), some (.ref w3), some (.int x4)], [.int (x1 + x4), .ref 2], σ)) rfl <|
      mi_T.lc rfl rfl (b1 h1) <|
      mi_T.go 2 (s1 := (48, [some (.ref 1), some (.int x1), some (.int x2), some (.ref w3), some (.int x4)], [.int x4, .ref w3, .int (σ.1 2 ((x1 + x4).toNatClampNeg))], σ)) rfl <|
      mi_T.prim (as := [.ref w3, .int x4]) (rest := [.int (σ.1 2 ((x1 + x4).toNatClampNeg))]) (v := some (.int v2)) rfl rfl rfl rfl rfl (c2 h1) <|
      mi_T.br (P := (σ.1 2 ((x1 + x4).toNatClampNeg)) = v2) (fun _ => rfl)
      (fun h2 => mi_T.go 2 (s1 := (27, [some (.ref 1), some (.int x1), some (.int x2), some (.ref w3), some (.int (x4 + 1))], [], σ)) rfl <|
      (k2 h1 h2))
      (fun h2 => mi_T.go 1 (s1 := (55, [some (.ref 1), some (.int x1), some (.int x2), some (.ref w3), some (.int x4)], [.int 0], σ)) rfl <|
      mi_T.fin (k3 h1 h2) (fun _ => rfl)))

-- AssertionGate$Page.order(IIII)I
theorem R51_0 {X : Nat × (Nat → Int32)} {d : Nat} {r : mA mG} {σ : mG} {x1 : Int32} {x2 : Int32} {x3 : Int32} {x4 : Int32}
    (k1 : TT X d tb51 (some .int) (15, [some (.ref 1), some (.int x1), some (.int x2), some (.int x3), some (.int x4), some (.int (mi_min (x2 - x1) (x4 - x3))), some (.int 0), none], [], σ) r)
    : TT X d tb51 (some .int) (0, [some (.ref 1), some (.int x1), some (.int x2), some (.int x3), some (.int x4), none, none, none], [], σ) r := mi_T.go 6 (s1 := (7, [some (.ref 1), some (.int x1), some (.int x2), some (.int x3), some (.int x4), none, none, none], [.int (x4 - x3), .int (x2 - x1)], σ)) rfl <|
      mi_T.prim (as := [.int (x2 - x1), .int (x4 - x3)]) (rest := []) (v := some (.int (mi_min (x2 - x1) (x4 - x3)))) rfl rfl rfl rfl rfl rfl <|
      mi_T.go 3 (s1 := (15, [some (.ref 1), some (.int x1), some (.int x2), some (.int x3), some (.int x4), some (.int (mi_min (x2 - x1) (x4 - x3))), some (.int 0), none], [], σ)) rfl <|
      k1

theorem R51_15 {X : Nat × (Nat → Int32)} {d : Nat} {r : mA mG} {σ : mG} {x1 : Int32} {x2 : Int32} {x3 : Int32} {x4 : Int32} {x5 : Int32} {x6 : Int32} {u7 : Option Value} {v1 : Int32} {σ1 : mG} {v2 : Int32} {σ2 : mG}
    (k1 : x5 ≤ x6 → r = (some (.int ((x2 - x1) - (x4 - x3))), σ))
    (c1 : ¬ (x5 ≤ x6) → RR X d 39 [.ref 1, .int (x1 + x6)] σ (some (.int v1), σ1))
    (c2 : ¬ (x5 ≤ x6) → RR X d 39 [.ref 1, .int (x3 + x6)] σ1 (some (.int v2), σ2))
    (k2 : ¬ (x5 ≤ x6) → (v1 - v2) = 0 → TT X d tb51 (some .int) (15, [some (.ref 1), some (.int x1), some (.int x2), some (.int x3), some (.int x4), some (.int x5), some (.int (x6 + 1)), some (.int (v1 - v2))], [], σ2) r)
    (k3 : ¬ (x5 ≤ x6) → ¬ ((v1 - v2) = 0) → r = (some (.int (v1 - v2)), σ2))
    : TT X d tb51 (some .int) (15, [some (.ref 1), some (.int x1), some (.int x2), some (.int x3), some (.int x4), some (.int x5), some (.int x6), u7], [], σ) r := mi_T.go 2 (s1 := (19, [some (.ref 1), some (.int x1), some (.int x2), some (.int x3), some (.int x4), some (.int x5), some (.int x6), u7], [.int x5, .int x6], σ)) rfl <|
      mi_T.br (P := x5 ≤ x6) (fun _ => rfl)
      (fun h1 => mi_T.go 7 (s1 := (63, [some (.ref 1), some (.int x1), some (.int x2), some (.int x3), some (.int x4), some (.int x5), some (.int x6), u7], [.int ((x2 - x1) - (x4 - x3))], σ)) rfl <|
      mi_T.fin (k1 h1) (fun _ => rfl))
      (fun h1 => mi_T.go 4 (s1 := (27, [some (.ref 1), some (.int x1), some (.int x2), some (.int x3), some (.int x4), some (.int x5), some (.int x6), u7], [.int (x1 + x6), .ref 1], σ)) rfl <|
      mi_T.call (as := [.ref 1, .int (x1 + x6)]) (rest := []) (v := some (.int v1)) rfl rfl rfl rfl rfl (c1 h1) <|
      mi_T.go 4 (s1 := (35, [some (.ref 1), some (.int x1), some (.int x2), some (.int x3), some (.int x4), some (.int x5), some (.int x6), u7], [.int (x3 + x6), .ref 1, .int v1], σ1)) rfl <|
      mi_T.call (as := [.ref 1, .int (x3 + x6)]) (rest := [.int v1]) (v := some (.int v2)) rfl rfl rfl rfl rfl (c2 h1) <|
      mi_T.go 3 (s1 := (43, [some (.ref 1), some (.int x1), some (.int x2), some (.int x3), some (.int x4), some (.int x5), some (.int x6), some (.int (v1 - v2))], [.int (v1 - v2)], σ2)) rfl <|
      mi_T.br (P := (v1 - v2) = 0) (fun _ => rfl)
      (fun h2 => mi_T.go 2 (s1 := (15, [some (.ref 1), some (.int x1), some (.int x2), some (.int x3), some (.int x4), some (.int x5), some (.int (x6 + 1)), some (.int (v1 - v2))], [], σ2)) rfl <|
      (k2 h1 h2))
      (fun h2 => mi_T.go 1 (s1 := (48, [some (.ref 1), some (.int x1), some (.int x2), some (.int x3), some (.int x4), some (.int x5), some (.int x6), some (.int (v1 - v2))], [.int (v1 - v2)], σ2)) rfl <|
      mi_T.fin (k3 h1 h2) (fun _ => rfl)))

