/-! Rules of AssertionGate.Labels, printed by a program: what each stretch of its code does. -/
-- AssertionGate$Labels.isFull()Z
theorem R111a_0 {X : Nat × (Nat → Int32)} {d : Nat} {r : mA mG} {σ : mG} 
    (k1 : (σ.1 30 3) < (σ.1 30 0) → r = (some (.int 0), σ))
    (k2 : ¬ ((σ.1 30 3) < (σ.1 30 0)) → r = (some (.int 1), σ))
    : TT X d tb111 (some .boolean) (0, [some (.ref 30)], [], σ) r := mi_T.go 4 (s1 := (8, [some (.ref 30)], [.int (σ.1 30 0), .int (σ.1 30 3)], σ)) rfl <|
      mi_T.br (P := (σ.1 30 3) < (σ.1 30 0)) (fun _ => rfl)
      (fun h1 => mi_T.go 1 (s1 := (16, [some (.ref 30)], [.int 0], σ)) rfl <|
      mi_T.fin (k1 h1) (fun _ => rfl))
      (fun h1 => mi_T.go 2 (s1 := (16, [some (.ref 30)], [.int 1], σ)) rfl <|
      mi_T.fin (k2 h1) (fun _ => rfl))

-- AssertionGate$Labels.isFull()Z
theorem R111b_0 {X : Nat × (Nat → Int32)} {d : Nat} {r : mA mG} {σ : mG} 
    (k1 : (σ.1 33 3) < (σ.1 33 0) → r = (some (.int 0), σ))
    (k2 : ¬ ((σ.1 33 3) < (σ.1 33 0)) → r = (some (.int 1), σ))
    : TT X d tb111 (some .boolean) (0, [some (.ref 33)], [], σ) r := mi_T.go 4 (s1 := (8, [some (.ref 33)], [.int (σ.1 33 0), .int (σ.1 33 3)], σ)) rfl <|
      mi_T.br (P := (σ.1 33 3) < (σ.1 33 0)) (fun _ => rfl)
      (fun h1 => mi_T.go 1 (s1 := (16, [some (.ref 33)], [.int 0], σ)) rfl <|
      mi_T.fin (k1 h1) (fun _ => rfl))
      (fun h1 => mi_T.go 2 (s1 := (16, [some (.ref 33)], [.int 1], σ)) rfl <|
      mi_T.fin (k2 h1) (fun _ => rfl))

-- AssertionGate$Labels.keep(LAssertionGate$Page;II)V
theorem R112a_0 {X : Nat × (Nat → Int32)} {d : Nat} {r : mA mG} {σ : mG} {x2 : Int32} {x3 : Int32} {v1 : Int32} {σ1 : mG}
    (c1 : RR X d 111 [.ref 30] σ (some (.int v1), σ1))
    (k1 : ¬ v1 = 0 → r = (none, σ1))
    (k2 : ¬ (¬ v1 = 0) → (x3 - x2) ≤ 8 → TT X d tb112 none (19, [some (.ref 30), some (.ref 1), some (.int x2), some (.int x3), some (.int x2)], [], σ1) r)
    (k3 : ¬ (¬ v1 = 0) → ¬ ((x3 - x2) ≤ 8) → r = (none, σ1))
    : TT X d tb112 none (0, [some (.ref 30), some (.ref 1), some (.int x2), some (.int x3), none], [], σ) r := mi_T.go 1 (s1 := (1, [some (.ref 30), some (.ref 1), some (.int x2), some (.int x3), none], [.ref 30], σ)) rfl <|
      mi_T.call (as := [.ref 30]) (rest := []) (v := some (.int v1)) rfl rfl rfl rfl rfl (c1) <|
      mi_T.br (P := ¬ v1 = 0) (fun _ => rfl)
      (fun h1 => mi_T.fin (k1 h1) (fun _ => rfl))
      (fun h1 => mi_T.go 4 (s1 := (12, [some (.ref 30), some (.ref 1), some (.int x2), some (.int x3), none], [.int 8, .int (x3 - x2)], σ1)) rfl <|
      mi_T.br (P := (x3 - x2) ≤ 8) (fun _ => rfl)
      (fun h2 => mi_T.go 2 (s1 := (19, [some (.ref 30), some (.ref 1), some (.int x2), some (.int x3), some (.int x2)], [], σ1)) rfl <|
      (k2 h1 h2))
      (fun h2 => mi_T.fin (k3 h1 h2) (fun _ => rfl)))

theorem R112a_19 {X : Nat × (Nat → Int32)} {d : Nat} {r : mA mG} {σ : mG} {x2 : Int32} {x3 : Int32} {x4 : Int32} {v1 : Int32} {σ1 : mG}
    (b1 : x3 ≤ x4 → mi_in (σ.1 30 3) 20 = true)
    (k1 : x3 ≤ x4 → r = (none, (mi_uc (mi_uc σ.1 32 (upd (σ.1 32) ((σ.1 30 3).toNatClampNeg) (x3 - x2))) 30 (upd (σ.1 30) 3 ((σ.1 30 3) + 1)), σ.2)))
    (c1 : ¬ (x3 ≤ x4) → RR X d 39 [.ref 1, .int x4] σ (some (.int v1), σ1))
    (b2 : ¬ (x3 ≤ x4) → mi_in ((((σ.1 30 3) * 8) + x4) - x2) 160 = true)
    (k2 : ¬ (x3 ≤ x4) → TT X d tb112 none (19, [some (.ref 30), some (.ref 1), some (.int x2), some (.int x3), some (.int (x4 + 1))], [], (mi_uc σ1.1 31 (upd (σ1.1 31) (((((σ.1 30 3) * 8) + x4) - x2).toNatClampNeg) (mi_nar 1 ((v1.toUInt32 % 65536).toInt32))), σ1.2)) r)
    : TT X d tb112 none (19, [some (.ref 30), some (.ref 1), some (.int x2), some (.int x3), some (.int x4)], [], σ) r := mi_T.go 2 (s1 := (22, [some (.ref 30), some (.ref 1), some (.int x2), some (.int x3), some (.int x4)], [.int x3, .int x4], σ)) rfl <|
      mi_T.br (P := x3 ≤ x4) (fun _ => rfl)
      (fun h1 => mi_T.go 7 (s1 := (66, [some (.ref 30), some (.ref 1), some (.int x2), some (.int x3), some (.int x4)], [.int (x3 - x2), .int (σ.1 30 3), .ref 32], σ)) rfl <|
      mi_T.si rfl rfl (b1 h1) <|
      mi_T.go 6 (s1 := (77, [some (.ref 30), some (.ref 1), some (.int x2), some (.int x3), some (.int x4)], [], (mi_uc (mi_uc σ.1 32 (upd (σ.1 32) ((σ.1 30 3).toNatClampNeg) (x3 - x2))) 30 (upd (σ.1 30) 3 ((σ.1 30 3) + 1)), σ.2))) rfl <|
      mi_T.fin (k1 h1) (fun _ => rfl))
      (fun h1 => mi_T.go 12 (s1 := (44, [some (.ref 30), some (.ref 1), some (.int x2), some (.int x3), some (.int x4)], [.int x4, .ref 1, .int ((((σ.1 30 3) * 8) + x4) - x2), .ref 31], σ)) rfl <|
      mi_T.call (as := [.ref 1, .int x4]) (rest := [.int ((((σ.1 30 3) * 8) + x4) - x2), .ref 31]) (v := some (.int v1)) rfl rfl rfl rfl rfl (c1 h1) <|
      mi_T.go 1 (s1 := (48, [some (.ref 30), some (.ref 1), some (.int x2), some (.int x3), some (.int x4)], [.int ((v1.toUInt32 % 65536).toInt32), .int ((((σ.1 30 3) * 8) + x4) - x2), .ref 31], σ1)) rfl <|
      mi_T.sc rfl rfl (b2 h1) <|
      mi_T.go 2 (s1 := (19, [some (.ref 30), some (.ref 1), some (.int x2), some (.int x3), some (.int (x4 + 1))], [], (mi_uc σ1.1 31 (upd (σ1.1 31) (((((σ.1 30 3) * 8) + x4) - x2).toNatClampNeg) (mi_nar 1 ((v1.toUInt32 % 65536).toInt32))), σ1.2))) rfl <|
      (k2 h1))

-- AssertionGate$Labels.keep(LAssertionGate$Page;II)V
theorem R112b_0 {X : Nat × (Nat → Int32)} {d : Nat} {r : mA mG} {σ : mG} {x2 : Int32} {x3 : Int32} {v1 : Int32} {σ1 : mG}
    (c1 : RR X d 111 [.ref 33] σ (some (.int v1), σ1))
    (k1 : ¬ v1 = 0 → r = (none, σ1))
    (k2 : ¬ (¬ v1 = 0) → (x3 - x2) ≤ 8 → TT X d tb112 none (19, [some (.ref 33), some (.ref 1), some (.int x2), some (.int x3), some (.int x2)], [], σ1) r)
    (k3 : ¬ (¬ v1 = 0) → ¬ ((x3 - x2) ≤ 8) → r = (none, σ1))
    : TT X d tb112 none (0, [some (.ref 33), some (.ref 1), some (.int x2), some (.int x3), none], [], σ) r := mi_T.go 1 (s1 := (1, [some (.ref 33), some (.ref 1), some (.int x2), some (.int x3), none], [.ref 33], σ)) rfl <|
      mi_T.call (as := [.ref 33]) (rest := []) (v := some (.int v1)) rfl rfl rfl rfl rfl (c1) <|
      mi_T.br (P := ¬ v1 = 0) (fun _ => rfl)
      (fun h1 => mi_T.fin (k1 h1) (fun _ => rfl))
      (fun h1 => mi_T.go 4 (s1 := (12, [some (.ref 33), some (.ref 1), some (.int x2), some (.int x3), none], [.int 8, .int (x3 - x2)], σ1)) rfl <|
      mi_T.br (P := (x3 - x2) ≤ 8) (fun _ => rfl)
      (fun h2 => mi_T.go 2 (s1 := (19, [some (.ref 33), some (.ref 1), some (.int x2), some (.int x3), some (.int x2)], [], σ1)) rfl <|
      (k2 h1 h2))
      (fun h2 => mi_T.fin (k3 h1 h2) (fun _ => rfl)))

theorem R112b_19 {X : Nat × (Nat → Int32)} {d : Nat} {r : mA mG} {σ : mG} {x2 : Int32} {x3 : Int32} {x4 : Int32} {v1 : Int32} {σ1 : mG}
    (b1 : x3 ≤ x4 → mi_in (σ.1 33 3) 40 = true)
    (k1 : x3 ≤ x4 → r = (none, (mi_uc (mi_uc σ.1 35 (upd (σ.1 35) ((σ.1 33 3).toNatClampNeg) (x3 - x2))) 33 (upd (σ.1 33) 3 ((σ.1 33 3) + 1)), σ.2)))
    (c1 : ¬ (x3 ≤ x4) → RR X d 39 [.ref 1, .int x4] σ (some (.int v1), σ1))
    (b2 : ¬ (x3 ≤ x4) → mi_in ((((σ.1 33 3) * 8) + x4) - x2) 320 = true)
    (k2 : ¬ (x3 ≤ x4) → TT X d tb112 none (19, [some (.ref 33), some (.ref 1), some (.int x2), some (.int x3), some (.int (x4 + 1))], [], (mi_uc σ1.1 34 (upd (σ1.1 34) (((((σ.1 33 3) * 8) + x4) - x2).toNatClampNeg) (mi_nar 1 ((v1.toUInt32 % 65536).toInt32))), σ1.2)) r)
    : TT X d tb112 none (19, [some (.ref 33), some (.ref 1), some (.int x2), some (.int x3), some (.int x4)], [], σ) r := mi_T.go 2 (s1 := (22, [some (.ref 33), some (.ref 1), some (.int x2), some (.int x3), some (.int x4)], [.int x3, .int x4], σ)) rfl <|
      mi_T.br (P := x3 ≤ x4) (fun _ => rfl)
      (fun h1 => mi_T.go 7 (s1 := (66, [some (.ref 33), some (.ref 1), some (.int x2), some (.int x3), some (.int x4)], [.int (x3 - x2), .int (σ.1 33 3), .ref 35], σ)) rfl <|
      mi_T.si rfl rfl (b1 h1) <|
      mi_T.go 6 (s1 := (77, [some (.ref 33), some (.ref 1), some (.int x2), some (.int x3), some (.int x4)], [], (mi_uc (mi_uc σ.1 35 (upd (σ.1 35) ((σ.1 33 3).toNatClampNeg) (x3 - x2))) 33 (upd (σ.1 33) 3 ((σ.1 33 3) + 1)), σ.2))) rfl <|
      mi_T.fin (k1 h1) (fun _ => rfl))
      (fun h1 => mi_T.go 12 (s1 := (44, [some (.ref 33), some (.ref 1), some (.int x2), some (.int x3), some (.int x4)], [.int x4, .ref 1, .int ((((σ.1 33 3) * 8) + x4) - x2), .ref 34], σ)) rfl <|
      mi_T.call (as := [.ref 1, .int x4]) (rest := [.int ((((σ.1 33 3) * 8) + x4) - x2), .ref 34]) (v := some (.int v1)) rfl rfl rfl rfl rfl (c1 h1) <|
      mi_T.go 1 (s1 := (48, [some (.ref 33), some (.ref 1), some (.int x2), some (.int x3), some (.int x4)], [.int ((v1.toUInt32 % 65536).toInt32), .int ((((σ.1 33 3) * 8) + x4) - x2), .ref 34], σ1)) rfl <|
      mi_T.sc rfl rfl (b2 h1) <|
      mi_T.go 2 (s1 := (19, [some (.ref 33), some (.ref 1), some (.int x2), some (.int x3), some (.int (x4 + 1))], [], (mi_uc σ1.1 34 (upd (σ1.1 34) (((((σ.1 33 3) * 8) + x4) - x2).toNatClampNeg) (mi_nar 1 ((v1.toUInt32 % 65536).toInt32))), σ1.2))) rfl <|
      (k2 h1))

-- AssertionGate$Labels.codeAt(II)I
theorem R113a_0 {X : Nat × (Nat → Int32)} {d : Nat} {r : mA mG} {σ : mG} {x1 : Int32} {x2 : Int32}
    (k1 : x1 < 0 → r = (some (.int (-1)), σ))
    (k2 : ¬ (x1 < 0) → (σ.1 30 3) ≤ x1 → r = (some (.int (-1)), σ))
    (k3 : ¬ (x1 < 0) → ¬ ((σ.1 30 3) ≤ x1) → x2 < 0 → r = (some (.int (-1)), σ))
    (b1 : ¬ (x1 < 0) → ¬ ((σ.1 30 3) ≤ x1) → ¬ (x2 < 0) → mi_in x1 20 = true)
    (k4 : ¬ (x1 < 0) → ¬ ((σ.1 30 3) ≤ x1) → ¬ (x2 < 0) → (σ.1 32 x1.toNatClampNeg) ≤ x2 → r = (some (.int (-1)), σ))
    (b2 : ¬ (x1 < 0) → ¬ ((σ.1 30 3) ≤ x1) → ¬ (x2 < 0) → ¬ ((σ.1 32 x1.toNatClampNeg) ≤ x2) → mi_in ((x1 * 8) + x2) 160 = true)
    (k5 : ¬ (x1 < 0) → ¬ ((σ.1 30 3) ≤ x1) → ¬ (x2 < 0) → ¬ ((σ.1 32 x1.toNatClampNeg) ≤ x2) → r = (some (.int (σ.1 31 (((x1 * 8) + x2).toNatClampNeg))), σ))
    : TT X d tb113 (some .int) (0, [some (.ref 30), some (.int x1), some (.int x2), none], [], σ) r := mi_T.go 1 (s1 := (1, [some (.ref 30), some (.int x1), some (.int x2), none], [.int x1], σ)) rfl <|
      mi_T.br (P := x1 < 0) (fun _ => rfl)
      (fun h1 => mi_T.go 5 (s1 := (51, [some (.ref 30), some (.int x1), some (.int x2), some (.int 0)], [.int (-1)], σ)) rfl <|
      mi_T.fin (k1 h1) (fun _ => rfl))
      (fun h1 => mi_T.go 3 (s1 := (9, [some (.ref 30), some (.int x1), some (.int x2), none], [.int (σ.1 30 3), .int x1], σ)) rfl <|
      mi_T.br (P := (σ.1 30 3) ≤ x1) (fun _ => rfl)
      (fun h2 => mi_T.go 5 (s1 := (51, [some (.ref 30), some (.int x1), some (.int x2), some (.int 0)], [.int (-1)], σ)) rfl <|
      mi_T.fin (k2 h1 h2) (fun _ => rfl))
      (fun h2 => mi_T.go 1 (s1 := (13, [some (.ref 30), some (.int x1), some (.int x2), none], [.int x2], σ)) rfl <|
      mi_T.br (P := x2 < 0) (fun _ => rfl)
      (fun h3 => mi_T.go 5 (s1 := (51, [some (.ref 30), some (.int x1), some (.int x2), some (.int 0)], [.int (-1)], σ)) rfl <|
      mi_T.fin (k3 h1 h2 h3) (fun _ => rfl))
      (fun h3 => mi_T.go 4 (s1 := (22, [some (.ref 30), some (.int x1), some (.int x2), none], [.int x1, .ref 32, .int x2], σ)) rfl <|
      mi_T.li rfl rfl (b1 h1 h2 h3) <|
      mi_T.br (P := (σ.1 32 x1.toNatClampNeg) ≤ x2) (fun _ => rfl)
      (fun h4 => mi_T.go 5 (s1 := (51, [some (.ref 30), some (.int x1), some (.int x2), some (.int 0)], [.int (-1)], σ)) rfl <|
      mi_T.fin (k4 h1 h2 h3 h4) (fun _ => rfl))
      (fun h4 => mi_T.go 12 (s1 := (46, [some (.ref 30), some (.int x1), some (.int x2), some (.int 1)], [.int ((x1 * 8) + x2), .ref 31], σ)) rfl <|
      mi_T.lc rfl rfl (b2 h1 h2 h3 h4) <|
      mi_T.go 1 (s1 := (51, [some (.ref 30), some (.int x1), some (.int x2), some (.int 1)], [.int (σ.1 31 (((x1 * 8) + x2).toNatClampNeg))], σ)) rfl <|
      mi_T.fin (k5 h1 h2 h3 h4) (fun _ => rfl)))))

-- AssertionGate$Labels.codeAt(II)I
theorem R113b_0 {X : Nat × (Nat → Int32)} {d : Nat} {r : mA mG} {σ : mG} {x1 : Int32} {x2 : Int32}
    (k1 : x1 < 0 → r = (some (.int (-1)), σ))
    (k2 : ¬ (x1 < 0) → (σ.1 33 3) ≤ x1 → r = (some (.int (-1)), σ))
    (k3 : ¬ (x1 < 0) → ¬ ((σ.1 33 3) ≤ x1) → x2 < 0 → r = (some (.int (-1)), σ))
    (b1 : ¬ (x1 < 0) → ¬ ((σ.1 33 3) ≤ x1) → ¬ (x2 < 0) → mi_in x1 40 = true)
    (k4 : ¬ (x1 < 0) → ¬ ((σ.1 33 3) ≤ x1) → ¬ (x2 < 0) → (σ.1 35 x1.toNatClampNeg) ≤ x2 → r = (some (.int (-1)), σ))
    (b2 : ¬ (x1 < 0) → ¬ ((σ.1 33 3) ≤ x1) → ¬ (x2 < 0) → ¬ ((σ.1 35 x1.toNatClampNeg) ≤ x2) → mi_in ((x1 * 8) + x2) 320 = true)
    (k5 : ¬ (x1 < 0) → ¬ ((σ.1 33 3) ≤ x1) → ¬ (x2 < 0) → ¬ ((σ.1 35 x1.toNatClampNeg) ≤ x2) → r = (some (.int (σ.1 34 (((x1 * 8) + x2).toNatClampNeg))), σ))
    : TT X d tb113 (some .int) (0, [some (.ref 33), some (.int x1), some (.int x2), none], [], σ) r := mi_T.go 1 (s1 := (1, [some (.ref 33), some (.int x1), some (.int x2), none], [.int x1], σ)) rfl <|
      mi_T.br (P := x1 < 0) (fun _ => rfl)
      (fun h1 => mi_T.go 5 (s1 := (51, [some (.ref 33), some (.int x1), some (.int x2), some (.int 0)], [.int (-1)], σ)) rfl <|
      mi_T.fin (k1 h1) (fun _ => rfl))
      (fun h1 => mi_T.go 3 (s1 := (9, [some (.ref 33), some (.int x1), some (.int x2), none], [.int (σ.1 33 3), .int x1], σ)) rfl <|
      mi_T.br (P := (σ.1 33 3) ≤ x1) (fun _ => rfl)
      (fun h2 => mi_T.go 5 (s1 := (51, [some (.ref 33), some (.int x1), some (.int x2), some (.int 0)], [.int (-1)], σ)) rfl <|
      mi_T.fin (k2 h1 h2) (fun _ => rfl))
      (fun h2 => mi_T.go 1 (s1 := (13, [some (.ref 33), some (.int x1), some (.int x2), none], [.int x2], σ)) rfl <|
      mi_T.br (P := x2 < 0) (fun _ => rfl)
      (fun h3 => mi_T.go 5 (s1 := (51, [some (.ref 33), some (.int x1), some (.int x2), some (.int 0)], [.int (-1)], σ)) rfl <|
      mi_T.fin (k3 h1 h2 h3) (fun _ => rfl))
      (fun h3 => mi_T.go 4 (s1 := (22, [some (.ref 33), some (.int x1), some (.int x2), none], [.int x1, .ref 35, .int x2], σ)) rfl <|
      mi_T.li rfl rfl (b1 h1 h2 h3) <|
      mi_T.br (P := (σ.1 35 x1.toNatClampNeg) ≤ x2) (fun _ => rfl)
      (fun h4 => mi_T.go 5 (s1 := (51, [some (.ref 33), some (.int x1), some (.int x2), some (.int 0)], [.int (-1)], σ)) rfl <|
      mi_T.fin (k4 h1 h2 h3 h4) (fun _ => rfl))
      (fun h4 => mi_T.go 12 (s1 := (46, [some (.ref 33), some (.int x1), some (.int x2), some (.int 1)], [.int ((x1 * 8) + x2), .ref 34], σ)) rfl <|
      mi_T.lc rfl rfl (b2 h1 h2 h3 h4) <|
      mi_T.go 1 (s1 := (51, [some (.ref 33), some (.int x1), some (.int x2), some (.int 1)], [.int (σ.1 34 (((x1 * 8) + x2).toNatClampNeg))], σ)) rfl <|
      mi_T.fin (k5 h1 h2 h3 h4) (fun _ => rfl)))))

-- AssertionGate$Labels.isLabel(ILAssertionGate$Page;II)Z
theorem R114a_0 {X : Nat × (Nat → Int32)} {d : Nat} {r : mA mG} {σ : mG} {x1 : Int32} {x3 : Int32} {x4 : Int32}
    (k1 : x1 < 0 → r = (some (.int 0), σ))
    (k2 : ¬ (x1 < 0) → (σ.1 30 3) ≤ x1 → r = (some (.int 0), σ))
    (b1 : ¬ (x1 < 0) → ¬ ((σ.1 30 3) ≤ x1) → mi_in x1 20 = true)
    (k3 : ¬ (x1 < 0) → ¬ ((σ.1 30 3) ≤ x1) → (σ.1 32 x1.toNatClampNeg) = (x4 - x3) → TT X d tb114 (some .boolean) (30, [some (.ref 30), some (.int x1), some (.ref 1), some (.int x3), some (.int x4), some (.int x3)], [], σ) r)
    (k4 : ¬ (x1 < 0) → ¬ ((σ.1 30 3) ≤ x1) → ¬ ((σ.1 32 x1.toNatClampNeg) = (x4 - x3)) → r = (some (.int 0), σ))
    : TT X d tb114 (some .boolean) (0, [some (.ref 30), some (.int x1), some (.ref 1), some (.int x3), some (.int x4), none], [], σ) r := mi_T.go 1 (s1 := (1, [some (.ref 30), some (.int x1), some (.ref 1), some (.int x3), some (.int x4), none], [.int x1], σ)) rfl <|
      mi_T.br (P := x1 < 0) (fun _ => rfl)
      (fun h1 => mi_T.go 1 (s1 := (26, [some (.ref 30), some (.int x1), some (.ref 1), some (.int x3), some (.int x4), none], [.int 0], σ)) rfl <|
      mi_T.fin (k1 h1) (fun _ => rfl))
      (fun h1 => mi_T.go 3 (s1 := (9, [some (.ref 30), some (.int x1), some (.ref 1), some (.int x3), some (.int x4), none], [.int (σ.1 30 3), .int x1], σ)) rfl <|
      mi_T.br (P := (σ.1 30 3) ≤ x1) (fun _ => rfl)
      (fun h2 => mi_T.go 1 (s1 := (26, [some (.ref 30), some (.int x1), some (.ref 1), some (.int x3), some (.int x4), none], [.int 0], σ)) rfl <|
      mi_T.fin (k2 h1 h2) (fun _ => rfl))
      (fun h2 => mi_T.go 3 (s1 := (17, [some (.ref 30), some (.int x1), some (.ref 1), some (.int x3), some (.int x4), none], [.int x1, .ref 32], σ)) rfl <|
      mi_T.li rfl rfl (b1 h1 h2) <|
      mi_T.go 3 (s1 := (22, [some (.ref 30), some (.int x1), some (.ref 1), some (.int x3), some (.int x4), none], [.int (x4 - x3), .int (σ.1 32 x1.toNatClampNeg)], σ)) rfl <|
      mi_T.br (P := (σ.1 32 x1.toNatClampNeg) = (x4 - x3)) (fun _ => rfl)
      (fun h3 => mi_T.go 2 (s1 := (30, [some (.ref 30), some (.int x1), some (.ref 1), some (.int x3), some (.int x4), some (.int x3)], [], σ)) rfl <|
      (k3 h1 h2 h3))
      (fun h3 => mi_T.go 1 (s1 := (26, [some (.ref 30), some (.int x1), some (.ref 1), some (.int x3), some (.int x4), none], [.int 0], σ)) rfl <|
      mi_T.fin (k4 h1 h2 h3) (fun _ => rfl))))

theorem R114a_30 {X : Nat × (Nat → Int32)} {d : Nat} {r : mA mG} {σ : mG} {x1 : Int32} {x3 : Int32} {x4 : Int32} {x5 : Int32} {v1 : Int32} {σ1 : mG} {v2 : Int32} {σ2 : mG}
    (k1 : x4 ≤ x5 → r = (some (.int 1), σ))
    (c1 : ¬ (x4 ≤ x5) → RR X d 113 [.ref 30, .int x1, .int (x5 - x3)] σ (some (.int v1), σ1))
    (c2 : ¬ (x4 ≤ x5) → RR X d 39 [.ref 1, .int x5] σ1 (some (.int v2), σ2))
    (k2 : ¬ (x4 ≤ x5) → v1 = v2 → TT X d tb114 (some .boolean) (30, [some (.ref 30), some (.int x1), some (.ref 1), some (.int x3), some (.int x4), some (.int (x5 + 1))], [], σ2) r)
    (k3 : ¬ (x4 ≤ x5) → ¬ (v1 = v2) → r = (some (.int 0), σ2))
    : TT X d tb114 (some .boolean) (30, [some (.ref 30), some (.int x1), some (.ref 1), some (.int x3), some (.int x4), some (.int x5)], [], σ) r := mi_T.go 2 (s1 := (34, [some (.ref 30), some (.int x1), some (.ref 1), some (.int x3), some (.int x4), some (.int x5)], [.int x4, .int x5], σ)) rfl <|
      mi_T.br (P := x4 ≤ x5) (fun _ => rfl)
      (fun h1 => mi_T.go 1 (s1 := (64, [some (.ref 30), some (.int x1), some (.ref 1), some (.int x3), some (.int x4), some (.int x5)], [.int 1], σ)) rfl <|
      mi_T.fin (k1 h1) (fun _ => rfl))
      (fun h1 => mi_T.go 5 (s1 := (43, [some (.ref 30), some (.int x1), some (.ref 1), some (.int x3), some (.int x4), some (.int x5)], [.int (x5 - x3), .int x1, .ref 30], σ)) rfl <|
      mi_T.call (as := [.ref 30, .int x1, .int (x5 - x3)]) (rest := []) (v := some (.int v1)) rfl rfl rfl rfl rfl (c1 h1) <|
      mi_T.go 2 (s1 := (49, [some (.ref 30), some (.int x1), some (.ref 1), some (.int x3), some (.int x4), some (.int x5)], [.int x5, .ref 1, .int v1], σ1)) rfl <|
      mi_T.call (as := [.ref 1, .int x5]) (rest := [.int v1]) (v := some (.int v2)) rfl rfl rfl rfl rfl (c2 h1) <|
      mi_T.br (P := v1 = v2) (fun _ => rfl)
      (fun h2 => mi_T.go 2 (s1 := (30, [some (.ref 30), some (.int x1), some (.ref 1), some (.int x3), some (.int x4), some (.int (x5 + 1))], [], σ2)) rfl <|
      (k2 h1 h2))
      (fun h2 => mi_T.go 1 (s1 := (56, [some (.ref 30), some (.int x1), some (.ref 1), some (.int x3), some (.int x4), some (.int x5)], [.int 0], σ2)) rfl <|
      mi_T.fin (k3 h1 h2) (fun _ => rfl)))

-- AssertionGate$Labels.isLabel(ILAssertionGate$Page;II)Z
theorem R114b_0 {X : Nat × (Nat → Int32)} {d : Nat} {r : mA mG} {σ : mG} {x1 : Int32} {x3 : Int32} {x4 : Int32}
    (k1 : x1 < 0 → r = (some (.int 0), σ))
    (k2 : ¬ (x1 < 0) → (σ.1 33 3) ≤ x1 → r = (some (.int 0), σ))
    (b1 : ¬ (x1 < 0) → ¬ ((σ.1 33 3) ≤ x1) → mi_in x1 40 = true)
    (k3 : ¬ (x1 < 0) → ¬ ((σ.1 33 3) ≤ x1) → (σ.1 35 x1.toNatClampNeg) = (x4 - x3) → TT X d tb114 (some .boolean) (30, [some (.ref 33), some (.int x1), some (.ref 1), some (.int x3), some (.int x4), some (.int x3)], [], σ) r)
    (k4 : ¬ (x1 < 0) → ¬ ((σ.1 33 3) ≤ x1) → ¬ ((σ.1 35 x1.toNatClampNeg) = (x4 - x3)) → r = (some (.int 0), σ))
    : TT X d tb114 (some .boolean) (0, [some (.ref 33), some (.int x1), some (.ref 1), some (.int x3), some (.int x4), none], [], σ) r := mi_T.go 1 (s1 := (1, [some (.ref 33), some (.int x1), some (.ref 1), some (.int x3), some (.int x4), none], [.int x1], σ)) rfl <|
      mi_T.br (P := x1 < 0) (fun _ => rfl)
      (fun h1 => mi_T.go 1 (s1 := (26, [some (.ref 33), some (.int x1), some (.ref 1), some (.int x3), some (.int x4), none], [.int 0], σ)) rfl <|
      mi_T.fin (k1 h1) (fun _ => rfl))
      (fun h1 => mi_T.go 3 (s1 := (9, [some (.ref 33), some (.int x1), some (.ref 1), some (.int x3), some (.int x4), none], [.int (σ.1 33 3), .int x1], σ)) rfl <|
      mi_T.br (P := (σ.1 33 3) ≤ x1) (fun _ => rfl)
      (fun h2 => mi_T.go 1 (s1 := (26, [some (.ref 33), some (.int x1), some (.ref 1), some (.int x3), some (.int x4), none], [.int 0], σ)) rfl <|
      mi_T.fin (k2 h1 h2) (fun _ => rfl))
      (fun h2 => mi_T.go 3 (s1 := (17, [some (.ref 33), some (.int x1), some (.ref 1), some (.int x3), some (.int x4), none], [.int x1, .ref 35], σ)) rfl <|
      mi_T.li rfl rfl (b1 h1 h2) <|
      mi_T.go 3 (s1 := (22, [some (.ref 33), some (.int x1), some (.ref 1), some (.int x3), some (.int x4), none], [.int (x4 - x3), .int (σ.1 35 x1.toNatClampNeg)], σ)) rfl <|
      mi_T.br (P := (σ.1 35 x1.toNatClampNeg) = (x4 - x3)) (fun _ => rfl)
      (fun h3 => mi_T.go 2 (s1 := (30, [some (.ref 33), some (.int x1), some (.ref 1), some (.int x3), some (.int x4), some (.int x3)], [], σ)) rfl <|
      (k3 h1 h2 h3))
      (fun h3 => mi_T.go 1 (s1 := (26, [some (.ref 33), some (.int x1), some (.ref 1), some (.int x3), some (.int x4), none], [.int 0], σ)) rfl <|
      mi_T.fin (k4 h1 h2 h3) (fun _ => rfl))))

theorem R114b_30 {X : Nat × (Nat → Int32)} {d : Nat} {r : mA mG} {σ : mG} {x1 : Int32} {x3 : Int32} {x4 : Int32} {x5 : Int32} {v1 : Int32} {σ1 : mG} {v2 : Int32} {σ2 : mG}
    (k1 : x4 ≤ x5 → r = (some (.int 1), σ))
    (c1 : ¬ (x4 ≤ x5) → RR X d 113 [.ref 33, .int x1, .int (x5 - x3)] σ (some (.int v1), σ1))
    (c2 : ¬ (x4 ≤ x5) → RR X d 39 [.ref 1, .int x5] σ1 (some (.int v2), σ2))
    (k2 : ¬ (x4 ≤ x5) → v1 = v2 → TT X d tb114 (some .boolean) (30, [some (.ref 33), some (.int x1), some (.ref 1), some (.int x3), some (.int x4), some (.int (x5 + 1))], [], σ2) r)
    (k3 : ¬ (x4 ≤ x5) → ¬ (v1 = v2) → r = (some (.int 0), σ2))
    : TT X d tb114 (some .boolean) (30, [some (.ref 33), some (.int x1), some (.ref 1), some (.int x3), some (.int x4), some (.int x5)], [], σ) r := mi_T.go 2 (s1 := (34, [some (.ref 33), some (.int x1), some (.ref 1), some (.int x3), some (.int x4), some (.int x5)], [.int x4, .int x5], σ)) rfl <|
      mi_T.br (P := x4 ≤ x5) (fun _ => rfl)
      (fun h1 => mi_T.go 1 (s1 := (64, [some (.ref 33), some (.int x1), some (.ref 1), some (.int x3), some (.int x4), some (.int x5)], [.int 1], σ)) rfl <|
      mi_T.fin (k1 h1) (fun _ => rfl))
      (fun h1 => mi_T.go 5 (s1 := (43, [some (.ref 33), some (.int x1), some (.ref 1), some (.int x3), some (.int x4), some (.int x5)], [.int (x5 - x3), .int x1, .ref 33], σ)) rfl <|
      mi_T.call (as := [.ref 33, .int x1, .int (x5 - x3)]) (rest := []) (v := some (.int v1)) rfl rfl rfl rfl rfl (c1 h1) <|
      mi_T.go 2 (s1 := (49, [some (.ref 33), some (.int x1), some (.ref 1), some (.int x3), some (.int x4), some (.int x5)], [.int x5, .ref 1, .int v1], σ1)) rfl <|
      mi_T.call (as := [.ref 1, .int x5]) (rest := [.int v1]) (v := some (.int v2)) rfl rfl rfl rfl rfl (c2 h1) <|
      mi_T.br (P := v1 = v2) (fun _ => rfl)
      (fun h2 => mi_T.go 2 (s1 := (30, [some (.ref 33), some (.int x1), some (.ref 1), some (.int x3), some (.int x4), some (.int (x5 + 1))], [], σ2)) rfl <|
      (k2 h1 h2))
      (fun h2 => mi_T.go 1 (s1 := (56, [some (.ref 33), some (.int x1), some (.ref 1), some (.int x3), some (.int x4), some (.int x5)], [.int 0], σ2)) rfl <|
      mi_T.fin (k3 h1 h2) (fun _ => rfl)))

-- AssertionGate$Labels.find(LAssertionGate$Page;II)I
theorem R115a_0 {X : Nat × (Nat → Int32)} {d : Nat} {r : mA mG} {σ : mG} {x2 : Int32} {x3 : Int32}
    (k1 : TT X d tb115 (some .int) (3, [some (.ref 30), some (.ref 1), some (.int x2), some (.int x3), some (.int 0)], [], σ) r)
    : TT X d tb115 (some .int) (0, [some (.ref 30), some (.ref 1), some (.int x2), some (.int x3), none], [], σ) r := mi_T.go 2 (s1 := (3, [some (.ref 30), some (.ref 1), some (.int x2), some (.int x3), some (.int 0)], [], σ)) rfl <|
      k1

theorem R115a_3 {X : Nat × (Nat → Int32)} {d : Nat} {r : mA mG} {σ : mG} {x2 : Int32} {x3 : Int32} {x4 : Int32} {v1 : Int32} {σ1 : mG}
    (k1 : (σ.1 30 3) ≤ x4 → r = (some (.int (-1)), σ))
    (c1 : ¬ ((σ.1 30 3) ≤ x4) → RR X d 114 [.ref 30, .int x4, .ref 1, .int x2, .int x3] σ (some (.int v1), σ1))
    (k2 : ¬ ((σ.1 30 3) ≤ x4) → v1 = 0 → TT X d tb115 (some .int) (3, [some (.ref 30), some (.ref 1), some (.int x2), some (.int x3), some (.int (x4 + 1))], [], σ1) r)
    (k3 : ¬ ((σ.1 30 3) ≤ x4) → ¬ (v1 = 0) → r = (some (.int x4), σ1))
    : TT X d tb115 (some .int) (3, [some (.ref 30), some (.ref 1), some (.int x2), some (.int x3), some (.int x4)], [], σ) r := mi_T.go 3 (s1 := (9, [some (.ref 30), some (.ref 1), some (.int x2), some (.int x3), some (.int x4)], [.int (σ.1 30 3), .int x4], σ)) rfl <|
      mi_T.br (P := (σ.1 30 3) ≤ x4) (fun _ => rfl)
      (fun h1 => mi_T.go 1 (s1 := (34, [some (.ref 30), some (.ref 1), some (.int x2), some (.int x3), some (.int x4)], [.int (-1)], σ)) rfl <|
      mi_T.fin (k1 h1) (fun _ => rfl))
      (fun h1 => mi_T.go 5 (s1 := (18, [some (.ref 30), some (.ref 1), some (.int x2), some (.int x3), some (.int x4)], [.int x3, .int x2, .ref 1, .int x4, .ref 30], σ)) rfl <|
      mi_T.call (as := [.ref 30, .int x4, .ref 1, .int x2, .int x3]) (rest := []) (v := some (.int v1)) rfl rfl rfl rfl rfl (c1 h1) <|
      mi_T.br (P := v1 = 0) (fun _ => rfl)
      (fun h2 => mi_T.go 2 (s1 := (3, [some (.ref 30), some (.ref 1), some (.int x2), some (.int x3), some (.int (x4 + 1))], [], σ1)) rfl <|
      (k2 h1 h2))
      (fun h2 => mi_T.go 1 (s1 := (26, [some (.ref 30), some (.ref 1), some (.int x2), some (.int x3), some (.int x4)], [.int x4], σ1)) rfl <|
      mi_T.fin (k3 h1 h2) (fun _ => rfl)))

-- AssertionGate$Labels.find(LAssertionGate$Page;II)I
theorem R115b_0 {X : Nat × (Nat → Int32)} {d : Nat} {r : mA mG} {σ : mG} {x2 : Int32} {x3 : Int32}
    (k1 : TT X d tb115 (some .int) (3, [some (.ref 33), some (.ref 1), some (.int x2), some (.int x3), some (.int 0)], [], σ) r)
    : TT X d tb115 (some .int) (0, [some (.ref 33), some (.ref 1), some (.int x2), some (.int x3), none], [], σ) r := mi_T.go 2 (s1 := (3, [some (.ref 33), some (.ref 1), some (.int x2), some (.int x3), some (.int 0)], [], σ)) rfl <|
      k1

theorem R115b_3 {X : Nat × (Nat → Int32)} {d : Nat} {r : mA mG} {σ : mG} {x2 : Int32} {x3 : Int32} {x4 : Int32} {v1 : Int32} {σ1 : mG}
    (k1 : (σ.1 33 3) ≤ x4 → r = (some (.int (-1)), σ))
    (c1 : ¬ ((σ.1 33 3) ≤ x4) → RR X d 114 [.ref 33, .int x4, .ref 1, .int x2, .int x3] σ (some (.int v1), σ1))
    (k2 : ¬ ((σ.1 33 3) ≤ x4) → v1 = 0 → TT X d tb115 (some .int) (3, [some (.ref 33), some (.ref 1), some (.int x2), some (.int x3), some (.int (x4 + 1))], [], σ1) r)
    (k3 : ¬ ((σ.1 33 3) ≤ x4) → ¬ (v1 = 0) → r = (some (.int x4), σ1))
    : TT X d tb115 (some .int) (3, [some (.ref 33), some (.ref 1), some (.int x2), some (.int x3), some (.int x4)], [], σ) r := mi_T.go 3 (s1 := (9, [some (.ref 33), some (.ref 1), some (.int x2), some (.int x3), some (.int x4)], [.int (σ.1 33 3), .int x4], σ)) rfl <|
      mi_T.br (P := (σ.1 33 3) ≤ x4) (fun _ => rfl)
      (fun h1 => mi_T.go 1 (s1 := (34, [some (.ref 33), some (.ref 1), some (.int x2), some (.int x3), some (.int x4)], [.int (-1)], σ)) rfl <|
      mi_T.fin (k1 h1) (fun _ => rfl))
      (fun h1 => mi_T.go 5 (s1 := (18, [some (.ref 33), some (.ref 1), some (.int x2), some (.int x3), some (.int x4)], [.int x3, .int x2, .ref 1, .int x4, .ref 33], σ)) rfl <|
      mi_T.call (as := [.ref 33, .int x4, .ref 1, .int x2, .int x3]) (rest := []) (v := some (.int v1)) rfl rfl rfl rfl rfl (c1 h1) <|
      mi_T.br (P := v1 = 0) (fun _ => rfl)
      (fun h2 => mi_T.go 2 (s1 := (3, [some (.ref 33), some (.ref 1), some (.int x2), some (.int x3), some (.int (x4 + 1))], [], σ1)) rfl <|
      (k2 h1 h2))
      (fun h2 => mi_T.go 1 (s1 := (26, [some (.ref 33), some (.ref 1), some (.int x2), some (.int x3), some (.int x4)], [.int x4], σ1)) rfl <|
      mi_T.fin (k3 h1 h2) (fun _ => rfl)))

