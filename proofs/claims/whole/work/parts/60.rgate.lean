/-! Rules of AssertionGate, printed by a program: what each stretch of its code does. -/
-- AssertionGate.trust(III)Z
theorem R1_0 {X : Nat × (Nat → Int32)} {d : Nat} {r : mA mG} {σ : mG} {x1 : Int32} {x2 : Int32} {x3 : Int32} {v1 : Int32} {σ1 : mG}
    (c1 : RR X d 3 [.int x1, .int x2, .int x3] σ (some (.int v1), σ1))
    (b1 : ¬ v1 = 0 → mi_in x1 4 = true)
    (b2 : ¬ v1 = 0 → mi_in x1 4 = true)
    (k1 : ¬ v1 = 0 → r = (some (.int 1), (mi_uc (mi_uc σ1.1 19 (upd (σ1.1 19) x1.toNatClampNeg x2)) 20 (upd (σ1.1 20) x1.toNatClampNeg x3), σ1.2)))
    (k2 : ¬ (¬ v1 = 0) → r = (some (.int 0), σ1))
    : TT X d tb1 (some .boolean) (0, [some (.ref 0), some (.int x1), some (.int x2), some (.int x3)], [], σ) r := mi_T.go 3 (s1 := (3, [some (.ref 0), some (.int x1), some (.int x2), some (.int x3)], [.int x3, .int x2, .int x1], σ)) rfl <|
      mi_T.call (as := [.int x1, .int x2, .int x3]) (rest := []) (v := some (.int v1)) rfl rfl rfl rfl rfl (c1) <|
      mi_T.br (P := ¬ v1 = 0) (fun _ => rfl)
      (fun h1 => mi_T.go 5 (s1 := (20, [some (.ref 0), some (.int x1), some (.int x2), some (.int x3)], [.int x2, .int x1, .ref 19], σ1)) rfl <|
      mi_T.si rfl rfl (b1 h1) <|
      mi_T.go 5 (s1 := (30, [some (.ref 0), some (.int x1), some (.int x2), some (.int x3)], [.int x3, .int x1, .ref 20], (mi_uc σ1.1 19 (upd (σ1.1 19) x1.toNatClampNeg x2), σ1.2))) rfl <|
      mi_T.si rfl rfl (b2 h1) <|
      mi_T.go 1 (s1 := (32, [some (.ref 0), some (.int x1), some (.int x2), some (.int x3)], [.int 1], (mi_uc (mi_uc σ1.1 19 (upd (σ1.1 19) x1.toNatClampNeg x2)) 20 (upd (σ1.1 20) x1.toNatClampNeg x3), σ1.2))) rfl <|
      mi_T.fin (k1 h1) (fun _ => rfl))
      (fun h1 => mi_T.go 1 (s1 := (10, [some (.ref 0), some (.int x1), some (.int x2), some (.int x3)], [.int 0], σ1)) rfl <|
      mi_T.fin (k2 h1) (fun _ => rfl))

-- AssertionGate.key(III)Z
theorem R2_0 {X : Nat × (Nat → Int32)} {d : Nat} {r : mA mG} {σ : mG} {x1 : Int32} {x2 : Int32} {x3 : Int32} {v1 : Int32} {σ1 : mG}
    (c1 : RR X d 3 [.int x1, .int x2, .int x3] σ (some (.int v1), σ1))
    (b1 : ¬ v1 = 0 → mi_in x1 4 = true)
    (b2 : ¬ v1 = 0 → mi_in x1 4 = true)
    (k1 : ¬ v1 = 0 → r = (some (.int 1), (mi_uc (mi_uc σ1.1 21 (upd (σ1.1 21) x1.toNatClampNeg x2)) 22 (upd (σ1.1 22) x1.toNatClampNeg x3), σ1.2)))
    (k2 : ¬ (¬ v1 = 0) → r = (some (.int 0), σ1))
    : TT X d tb2 (some .boolean) (0, [some (.ref 0), some (.int x1), some (.int x2), some (.int x3)], [], σ) r := mi_T.go 3 (s1 := (3, [some (.ref 0), some (.int x1), some (.int x2), some (.int x3)], [.int x3, .int x2, .int x1], σ)) rfl <|
      mi_T.call (as := [.int x1, .int x2, .int x3]) (rest := []) (v := some (.int v1)) rfl rfl rfl rfl rfl (c1) <|
      mi_T.br (P := ¬ v1 = 0) (fun _ => rfl)
      (fun h1 => mi_T.go 5 (s1 := (20, [some (.ref 0), some (.int x1), some (.int x2), some (.int x3)], [.int x2, .int x1, .ref 21], σ1)) rfl <|
      mi_T.si rfl rfl (b1 h1) <|
      mi_T.go 5 (s1 := (30, [some (.ref 0), some (.int x1), some (.int x2), some (.int x3)], [.int x3, .int x1, .ref 22], (mi_uc σ1.1 21 (upd (σ1.1 21) x1.toNatClampNeg x2), σ1.2))) rfl <|
      mi_T.si rfl rfl (b2 h1) <|
      mi_T.go 1 (s1 := (32, [some (.ref 0), some (.int x1), some (.int x2), some (.int x3)], [.int 1], (mi_uc (mi_uc σ1.1 21 (upd (σ1.1 21) x1.toNatClampNeg x2)) 22 (upd (σ1.1 22) x1.toNatClampNeg x3), σ1.2))) rfl <|
      mi_T.fin (k1 h1) (fun _ => rfl))
      (fun h1 => mi_T.go 1 (s1 := (10, [some (.ref 0), some (.int x1), some (.int x2), some (.int x3)], [.int 0], σ1)) rfl <|
      mi_T.fin (k2 h1) (fun _ => rfl))

-- AssertionGate.isKeyPart(III)Z
theorem R3_0 {X : Nat × (Nat → Int32)} {d : Nat} {r : mA mG} {σ : mG} {x0 : Int32} {x1 : Int32} {x2 : Int32}
    (k1 : x0 < 0 → r = (some (.int 0), σ))
    (k2 : ¬ (x0 < 0) → 4 ≤ x0 → r = (some (.int 0), σ))
    (k3 : ¬ (x0 < 0) → ¬ (4 ≤ x0) → x1 < 65521 → r = (some (.int 0), σ))
    (k4 : ¬ (x0 < 0) → ¬ (4 ≤ x0) → ¬ (x1 < 65521) → 1000000 < x1 → r = (some (.int 0), σ))
    (k5 : ¬ (x0 < 0) → ¬ (4 ≤ x0) → ¬ (x1 < 65521) → ¬ (1000000 < x1) → x2 < 1 → r = (some (.int 0), σ))
    (k6 : ¬ (x0 < 0) → ¬ (4 ≤ x0) → ¬ (x1 < 65521) → ¬ (1000000 < x1) → ¬ (x2 < 1) → 1000000 < x2 → r = (some (.int 0), σ))
    (k7 : ¬ (x0 < 0) → ¬ (4 ≤ x0) → ¬ (x1 < 65521) → ¬ (1000000 < x1) → ¬ (x2 < 1) → ¬ (1000000 < x2) → r = (some (.int 1), σ))
    : TT X d tb3 (some .boolean) (0, [some (.int x0), some (.int x1), some (.int x2)], [], σ) r := mi_T.go 1 (s1 := (1, [some (.int x0), some (.int x1), some (.int x2)], [.int x0], σ)) rfl <|
      mi_T.br (P := x0 < 0) (fun _ => rfl)
      (fun h1 => mi_T.go 1 (s1 := (37, [some (.int x0), some (.int x1), some (.int x2)], [.int 0], σ)) rfl <|
      mi_T.fin (k1 h1) (fun _ => rfl))
      (fun h1 => mi_T.go 2 (s1 := (6, [some (.int x0), some (.int x1), some (.int x2)], [.int 4, .int x0], σ)) rfl <|
      mi_T.br (P := 4 ≤ x0) (fun _ => rfl)
      (fun h2 => mi_T.go 1 (s1 := (37, [some (.int x0), some (.int x1), some (.int x2)], [.int 0], σ)) rfl <|
      mi_T.fin (k2 h1 h2) (fun _ => rfl))
      (fun h2 => mi_T.go 2 (s1 := (12, [some (.int x0), some (.int x1), some (.int x2)], [.int 65521, .int x1], σ)) rfl <|
      mi_T.br (P := x1 < 65521) (fun _ => rfl)
      (fun h3 => mi_T.go 1 (s1 := (37, [some (.int x0), some (.int x1), some (.int x2)], [.int 0], σ)) rfl <|
      mi_T.fin (k3 h1 h2 h3) (fun _ => rfl))
      (fun h3 => mi_T.go 2 (s1 := (18, [some (.int x0), some (.int x1), some (.int x2)], [.int 1000000, .int x1], σ)) rfl <|
      mi_T.br (P := 1000000 < x1) (fun _ => rfl)
      (fun h4 => mi_T.go 1 (s1 := (37, [some (.int x0), some (.int x1), some (.int x2)], [.int 0], σ)) rfl <|
      mi_T.fin (k4 h1 h2 h3 h4) (fun _ => rfl))
      (fun h4 => mi_T.go 2 (s1 := (23, [some (.int x0), some (.int x1), some (.int x2)], [.int 1, .int x2], σ)) rfl <|
      mi_T.br (P := x2 < 1) (fun _ => rfl)
      (fun h5 => mi_T.go 1 (s1 := (37, [some (.int x0), some (.int x1), some (.int x2)], [.int 0], σ)) rfl <|
      mi_T.fin (k5 h1 h2 h3 h4 h5) (fun _ => rfl))
      (fun h5 => mi_T.go 2 (s1 := (29, [some (.int x0), some (.int x1), some (.int x2)], [.int 1000000, .int x2], σ)) rfl <|
      mi_T.br (P := 1000000 < x2) (fun _ => rfl)
      (fun h6 => mi_T.go 1 (s1 := (37, [some (.int x0), some (.int x1), some (.int x2)], [.int 0], σ)) rfl <|
      mi_T.fin (k6 h1 h2 h3 h4 h5 h6) (fun _ => rfl))
      (fun h6 => mi_T.go 2 (s1 := (37, [some (.int x0), some (.int x1), some (.int x2)], [.int 1], σ)) rfl <|
      mi_T.fin (k7 h1 h2 h3 h4 h5 h6) (fun _ => rfl)))))))

-- AssertionGate.pass(I)Z
theorem R4_0 {X : Nat × (Nat → Int32)} {d : Nat} {r : mA mG} {σ : mG} {x1 : Int32}
    (k1 : x1 < 0 → r = (some (.int 0), σ))
    (k2 : ¬ (x1 < 0) → x1 ≤ 1000 → r = (some (.int 1), (mi_uc σ.1 0 (upd (σ.1 0) 12 ((σ.1 0 12) + x1)), σ.2)))
    (k3 : ¬ (x1 < 0) → ¬ (x1 ≤ 1000) → r = (some (.int 0), σ))
    : TT X d tb4 (some .boolean) (0, [some (.ref 0), some (.int x1)], [], σ) r := mi_T.go 1 (s1 := (1, [some (.ref 0), some (.int x1)], [.int x1], σ)) rfl <|
      mi_T.br (P := x1 < 0) (fun _ => rfl)
      (fun h1 => mi_T.go 1 (s1 := (12, [some (.ref 0), some (.int x1)], [.int 0], σ)) rfl <|
      mi_T.fin (k1 h1) (fun _ => rfl))
      (fun h1 => mi_T.go 2 (s1 := (8, [some (.ref 0), some (.int x1)], [.int 1000, .int x1], σ)) rfl <|
      mi_T.br (P := x1 ≤ 1000) (fun _ => rfl)
      (fun h2 => mi_T.go 7 (s1 := (24, [some (.ref 0), some (.int x1)], [.int 1], (mi_uc σ.1 0 (upd (σ.1 0) 12 ((σ.1 0 12) + x1)), σ.2))) rfl <|
      mi_T.fin (k2 h1 h2) (fun _ => rfl))
      (fun h2 => mi_T.go 1 (s1 := (12, [some (.ref 0), some (.int x1)], [.int 0], σ)) rfl <|
      mi_T.fin (k3 h1 h2) (fun _ => rfl)))

-- AssertionGate.request(I)I
theorem R5_0 {X : Nat × (Nat → Int32)} {d : Nat} {r : mA mG} {σ : mG} {x1 : Int32} {v1 : Int32} {σ1 : mG}
    (k1 : x1 < 0 → r = (some (.int (-1)), σ))
    (k2 : ¬ (x1 < 0) → 4 ≤ x1 → r = (some (.int (-1)), σ))
    (c1 : ¬ (x1 < 0) → ¬ (4 ≤ x1) → RR X d 100 [.ref 23, .int x1, .int (σ.1 0 12)] σ (some (.int v1), σ1))
    (k3 : ¬ (x1 < 0) → ¬ (4 ≤ x1) → r = (some (.int v1), σ1))
    : TT X d tb5 (some .int) (0, [some (.ref 0), some (.int x1)], [], σ) r := mi_T.go 1 (s1 := (1, [some (.ref 0), some (.int x1)], [.int x1], σ)) rfl <|
      mi_T.br (P := x1 < 0) (fun _ => rfl)
      (fun h1 => mi_T.go 1 (s1 := (25, [some (.ref 0), some (.int x1)], [.int (-1)], σ)) rfl <|
      mi_T.fin (k1 h1) (fun _ => rfl))
      (fun h1 => mi_T.go 2 (s1 := (6, [some (.ref 0), some (.int x1)], [.int 4, .int x1], σ)) rfl <|
      mi_T.br (P := 4 ≤ x1) (fun _ => rfl)
      (fun h2 => mi_T.go 1 (s1 := (25, [some (.ref 0), some (.int x1)], [.int (-1)], σ)) rfl <|
      mi_T.fin (k2 h1 h2) (fun _ => rfl))
      (fun h2 => mi_T.go 5 (s1 := (18, [some (.ref 0), some (.int x1)], [.int (σ.1 0 12), .int x1, .ref 23], σ)) rfl <|
      mi_T.call (as := [.ref 23, .int x1, .int (σ.1 0 12)]) (rest := []) (v := some (.int v1)) rfl rfl rfl rfl rfl (c1 h1 h2) <|
      mi_T.go 1 (s1 := (25, [some (.ref 0), some (.int x1)], [.int v1], σ1)) rfl <|
      mi_T.fin (k3 h1 h2) (fun _ => rfl)))

-- AssertionGate.issue(IIIII)Z
set_option maxRecDepth 100000 in
theorem R6_0 {X : Nat × (Nat → Int32)} {d : Nat} {r : mA mG} {σ : mG} {x1 : Int32} {x2 : Int32} {x3 : Int32} {x4 : Int32} {x5 : Int32} {v1 : Int32} {σ1 : mG} {v2 : Int32} {σ2 : mG} {v3 : Int32} {σ3 : mG} {v4 : Int32} {σ4 : mG} {v5 : Int32} {σ5 : mG} {σ6 : mG} {σ7 : mG} {σ8 : mG}
    (c1 : RR X d 95 [.ref 18, .int x1] σ (some (.int v1), σ1))
    (k1 : v1 = 0 → r = (some (.int 0), σ1))
    (c2 : ¬ (v1 = 0) → RR X d 13 [.int x2, .int 100] σ1 (some (.int v2), σ2))
    (k2 : ¬ (v1 = 0) → v2 = 0 → r = (some (.int 0), σ2))
    (c3 : ¬ (v1 = 0) → ¬ (v2 = 0) → RR X d 13 [.int x3, .int 100] σ2 (some (.int v3), σ3))
    (k3 : ¬ (v1 = 0) → ¬ (v2 = 0) → v3 = 0 → r = (some (.int 0), σ3))
    (c4 : ¬ (v1 = 0) → ¬ (v2 = 0) → ¬ (v3 = 0) → RR X d 13 [.int x4, .int 1000] σ3 (some (.int v4), σ4))
    (k4 : ¬ (v1 = 0) → ¬ (v2 = 0) → ¬ (v3 = 0) → v4 = 0 → r = (some (.int 0), σ4))
    (c5 : ¬ (v1 = 0) → ¬ (v2 = 0) → ¬ (v3 = 0) → ¬ (v4 = 0) → RR X d 13 [.int x5, .int 4] σ4 (some (.int v5), σ5))
    (c6 : ¬ (v1 = 0) → ¬ (v2 = 0) → ¬ (v3 = 0) → ¬ (v4 = 0) → ¬ v5 = 0 → RR X d 43 [.ref 1, .int 0] σ5 (none, σ6))
    (c7 : ¬ (v1 = 0) → ¬ (v2 = 0) → ¬ (v3 = 0) → ¬ (v4 = 0) → ¬ v5 = 0 → RR X d 7 [.ref 0, .int x1, .int x2] σ6 (none, σ7))
    (c8 : ¬ (v1 = 0) → ¬ (v2 = 0) → ¬ (v3 = 0) → ¬ (v4 = 0) → ¬ v5 = 0 → RR X d 8 [.ref 0, .int x1, .int x2, .int x3, .int ((σ7.1 0 12) + x4)] σ7 (none, σ8))
    (k5 : ¬ (v1 = 0) → ¬ (v2 = 0) → ¬ (v3 = 0) → ¬ (v4 = 0) → ¬ v5 = 0 → x5 = 1 → TT X d tb6 (some .boolean) (100, [some (.ref 0), some (.int x1), some (.int x2), some (.int x3), some (.int x4), some (.int x5), some (.int (σ8.1 1 1)), none, none], [], σ8) r)
    (k6 : ¬ (v1 = 0) → ¬ (v2 = 0) → ¬ (v3 = 0) → ¬ (v4 = 0) → ¬ v5 = 0 → ¬ (x5 = 1) → ¬ x5 = 3 → TT X d tb6 (some .boolean) (134, [some (.ref 0), some (.int x1), some (.int x2), some (.int x3), some (.int x4), some (.int x5), some (.int (σ8.1 1 1)), none, none], [], σ8) r)
    (k7 : ¬ (v1 = 0) → ¬ (v2 = 0) → ¬ (v3 = 0) → ¬ (v4 = 0) → ¬ v5 = 0 → ¬ (x5 = 1) → ¬ (¬ x5 = 3) → TT X d tb6 (some .boolean) (100, [some (.ref 0), some (.int x1), some (.int x2), some (.int x3), some (.int x4), some (.int x5), some (.int (σ8.1 1 1)), none, none], [], σ8) r)
    (k8 : ¬ (v1 = 0) → ¬ (v2 = 0) → ¬ (v3 = 0) → ¬ (v4 = 0) → ¬ (¬ v5 = 0) → r = (some (.int 0), σ5))
    : TT X d tb6 (some .boolean) (0, [some (.ref 0), some (.int x1), some (.int x2), some (.int x3), some (.int x4), some (.int x5), none, none, none], [], σ) r := mi_T.go 3 (s1 := (5, [some (.ref 0), some (.int x1), some (.int x2), some (.int x3), some (.int x4), some (.int x5), none, none, none], [.int x1, .ref 18], σ)) rfl <|
      mi_T.call (as := [.ref 18, .int x1]) (rest := []) (v := some (.int v1)) rfl rfl rfl rfl rfl (c1) <|
      mi_T.br (P := v1 = 0) (fun _ => rfl)
      (fun h1 => mi_T.go 1 (s1 := (50, [some (.ref 0), some (.int x1), some (.int x2), some (.int x3), some (.int x4), some (.int x5), none, none, none], [.int 0], σ1)) rfl <|
      mi_T.fin (k1 h1) (fun _ => rfl))
      (fun h1 => mi_T.go 2 (s1 := (14, [some (.ref 0), some (.int x1), some (.int x2), some (.int x3), some (.int x4), some (.int x5), none, none, none], [.int 100, .int x2], σ1)) rfl <|
      mi_T.call (as := [.int x2, .int 100]) (rest := []) (v := some (.int v2)) rfl rfl rfl rfl rfl (c2 h1) <|
      mi_T.br (P := v2 = 0) (fun _ => rfl)
      (fun h2 => mi_T.go 1 (s1 := (50, [some (.ref 0), some (.int x1), some (.int x2), some (.int x3), some (.int x4), some (.int x5), none, none, none], [.int 0], σ2)) rfl <|
      mi_T.fin (k2 h1 h2) (fun _ => rfl))
      (fun h2 => mi_T.go 2 (s1 := (23, [some (.ref 0), some (.int x1), some (.int x2), some (.int x3), some (.int x4), some (.int x5), none, none, none], [.int 100, .int x3], σ2)) rfl <|
      mi_T.call (as := [.int x3, .int 100]) (rest := []) (v := some (.int v3)) rfl rfl rfl rfl rfl (c3 h1 h2) <|
      mi_T.br (P := v3 = 0) (fun _ => rfl)
      (fun h3 => mi_T.go 1 (s1 := (50, [some (.ref 0), some (.int x1), some (.int x2), some (.int x3), some (.int x4), some (.int x5), none, none, none], [.int 0], σ3)) rfl <|
      mi_T.fin (k3 h1 h2 h3) (fun _ => rfl))
      (fun h3 => mi_T.go 2 (s1 := (34, [some (.ref 0), some (.int x1), some (.int x2), some (.int x3), some (.int x4), some (.int x5), none, none, none], [.int 1000, .int x4], σ3)) rfl <|
      mi_T.call (as := [.int x4, .int 1000]) (rest := []) (v := some (.int v4)) rfl rfl rfl rfl rfl (c4 h1 h2 h3) <|
      mi_T.br (P := v4 = 0) (fun _ => rfl)
      (fun h4 => mi_T.go 1 (s1 := (50, [some (.ref 0), some (.int x1), some (.int x2), some (.int x3), some (.int x4), some (.int x5), none, none, none], [.int 0], σ4)) rfl <|
      mi_T.fin (k4 h1 h2 h3 h4) (fun _ => rfl))
      (fun h4 => mi_T.go 2 (s1 := (43, [some (.ref 0), some (.int x1), some (.int x2), some (.int x3), some (.int x4), some (.int x5), none, none, none], [.int 4, .int x5], σ4)) rfl <|
      mi_T.call (as := [.int x5, .int 4]) (rest := []) (v := some (.int v5)) rfl rfl rfl rfl rfl (c5 h1 h2 h3 h4) <|
      mi_T.br (P := ¬ v5 = 0) (fun _ => rfl)
      (fun h5 => mi_T.go 3 (s1 := (56, [some (.ref 0), some (.int x1), some (.int x2), some (.int x3), some (.int x4), some (.int x5), none, none, none], [.int 0, .ref 1], σ5)) rfl <|
      mi_T.call (as := [.ref 1, .int 0]) (rest := []) (v := none) rfl rfl rfl rfl rfl (c6 h1 h2 h3 h4 h5) <|
      mi_T.go 3 (s1 := (62, [some (.ref 0), some (.int x1), some (.int x2), some (.int x3), some (.int x4), some (.int x5), none, none, none], [.int x2, .int x1, .ref 0], σ6)) rfl <|
      mi_T.call (as := [.ref 0, .int x1, .int x2]) (rest := []) (v := none) rfl rfl rfl rfl rfl (c7 h1 h2 h3 h4 h5) <|
      mi_T.go 8 (s1 := (76, [some (.ref 0), some (.int x1), some (.int x2), some (.int x3), some (.int x4), some (.int x5), none, none, none], [.int ((σ7.1 0 12) + x4), .int x3, .int x2, .int x1, .ref 0], σ7)) rfl <|
      mi_T.call (as := [.ref 0, .int x1, .int x2, .int x3, .int ((σ7.1 0 12) + x4)]) (rest := []) (v := none) rfl rfl rfl rfl rfl (c8 h1 h2 h3 h4 h5) <|
      mi_T.go 6 (s1 := (91, [some (.ref 0), some (.int x1), some (.int x2), some (.int x3), some (.int x4), some (.int x5), some (.int (σ8.1 1 1)), none, none], [.int 1, .int x5], σ8)) rfl <|
      mi_T.br (P := x5 = 1) (fun _ => rfl)
      (fun h6 => (k5 h1 h2 h3 h4 h5 h6))
      (fun h6 => mi_T.go 2 (s1 := (97, [some (.ref 0), some (.int x1), some (.int x2), some (.int x3), some (.int x4), some (.int x5), some (.int (σ8.1 1 1)), none, none], [.int 3, .int x5], σ8)) rfl <|
      mi_T.br (P := ¬ x5 = 3) (fun _ => rfl)
      (fun h7 => (k6 h1 h2 h3 h4 h5 h6 h7))
      (fun h7 => (k7 h1 h2 h3 h4 h5 h6 h7))))
      (fun h5 => mi_T.go 1 (s1 := (50, [some (.ref 0), some (.int x1), some (.int x2), some (.int x3), some (.int x4), some (.int x5), none, none, none], [.int 0], σ5)) rfl <|
      mi_T.fin (k8 h1 h2 h3 h4 h5) (fun _ => rfl))))))

set_option maxRecDepth 100000 in
theorem R6_100 {X : Nat × (Nat → Int32)} {d : Nat} {r : mA mG} {σ : mG} {x1 : Int32} {x2 : Int32} {x3 : Int32} {x4 : Int32} {x5 : Int32} {x6 : Int32} {σ1 : mG} {v1 : Int32} {σ2 : mG} {σ3 : mG} {σ4 : mG}
    (c1 : RR X d 41 [.ref 1, .ref 1015] σ (none, σ1))
    (c2 : RR X d 25 [.ref 0, .int x1, .int 3] σ1 (some (.int v1), σ2))
    (c3 : RR X d 43 [.ref 1, .int x6] σ2 (none, σ3))
    (c4 : RR X d 11 [.ref 0, .int 97, .int v1] σ3 (none, σ4))
    (k1 : TT X d tb6 (some .boolean) (134, [some (.ref 0), some (.int x1), some (.int x2), some (.int x3), some (.int x4), some (.int x5), some (.int x6), some (.int v1), none], [], σ4) r)
    : TT X d tb6 (some .boolean) (100, [some (.ref 0), some (.int x1), some (.int x2), some (.int x3), some (.int x4), some (.int x5), some (.int x6), none, none], [], σ) r := mi_T.go 3 (s1 := (106, [some (.ref 0), some (.int x1), some (.int x2), some (.int x3), some (.int x4), some (.int x5), some (.int x6), none, none], [.ref 1015, .ref 1], σ)) rfl <|
      mi_T.call (as := [.ref 1, .ref 1015]) (rest := []) (v := none) rfl rfl rfl rfl rfl (c1) <|
      mi_T.go 3 (s1 := (112, [some (.ref 0), some (.int x1), some (.int x2), some (.int x3), some (.int x4), some (.int x5), some (.int x6), none, none], [.int 3, .int x1, .ref 0], σ1)) rfl <|
      mi_T.call (as := [.ref 0, .int x1, .int 3]) (rest := []) (v := some (.int v1)) rfl rfl rfl rfl rfl (c2) <|
      mi_T.go 4 (s1 := (123, [some (.ref 0), some (.int x1), some (.int x2), some (.int x3), some (.int x4), some (.int x5), some (.int x6), some (.int v1), none], [.int x6, .ref 1], σ2)) rfl <|
      mi_T.call (as := [.ref 1, .int x6]) (rest := []) (v := none) rfl rfl rfl rfl rfl (c3) <|
      mi_T.go 3 (s1 := (131, [some (.ref 0), some (.int x1), some (.int x2), some (.int x3), some (.int x4), some (.int x5), some (.int x6), some (.int v1), none], [.int v1, .int 97, .ref 0], σ3)) rfl <|
      mi_T.call (as := [.ref 0, .int 97, .int v1]) (rest := []) (v := none) rfl rfl rfl rfl rfl (c4) <|
      k1

set_option maxRecDepth 100000 in
theorem R6_134 {X : Nat × (Nat → Int32)} {d : Nat} {r : mA mG} {σ : mG} {x1 : Int32} {x2 : Int32} {x3 : Int32} {x4 : Int32} {x5 : Int32} {x6 : Int32} {u7 : Option Value} {σ1 : mG}
    (c1 : RR X d 41 [.ref 1, .ref 1019] σ (none, σ1))
    (k1 : x5 = 2 → TT X d tb6 (some .boolean) (164, [some (.ref 0), some (.int x1), some (.int x2), some (.int x3), some (.int x4), some (.int x5), some (.int x6), some (.int (σ1.1 1 1)), none], [], σ1) r)
    (k2 : ¬ (x5 = 2) → ¬ x5 = 3 → TT X d tb6 (some .boolean) (198, [some (.ref 0), some (.int x1), some (.int x2), some (.int x3), some (.int x4), some (.int x5), some (.int x6), some (.int (σ1.1 1 1)), none], [], σ1) r)
    (k3 : ¬ (x5 = 2) → ¬ (¬ x5 = 3) → TT X d tb6 (some .boolean) (164, [some (.ref 0), some (.int x1), some (.int x2), some (.int x3), some (.int x4), some (.int x5), some (.int x6), some (.int (σ1.1 1 1)), none], [], σ1) r)
    : TT X d tb6 (some .boolean) (134, [some (.ref 0), some (.int x1), some (.int x2), some (.int x3), some (.int x4), some (.int x5), some (.int x6), u7, none], [], σ) r := mi_T.go 3 (s1 := (140, [some (.ref 0), some (.int x1), some (.int x2), some (.int x3), some (.int x4), some (.int x5), some (.int x6), u7, none], [.ref 1019, .ref 1], σ)) rfl <|
      mi_T.call (as := [.ref 1, .ref 1019]) (rest := []) (v := none) rfl rfl rfl rfl rfl (c1) <|
      mi_T.go 6 (s1 := (155, [some (.ref 0), some (.int x1), some (.int x2), some (.int x3), some (.int x4), some (.int x5), some (.int x6), some (.int (σ1.1 1 1)), none], [.int 2, .int x5], σ1)) rfl <|
      mi_T.br (P := x5 = 2) (fun _ => rfl)
      (fun h1 => (k1 h1))
      (fun h1 => mi_T.go 2 (s1 := (161, [some (.ref 0), some (.int x1), some (.int x2), some (.int x3), some (.int x4), some (.int x5), some (.int x6), some (.int (σ1.1 1 1)), none], [.int 3, .int x5], σ1)) rfl <|
      mi_T.br (P := ¬ x5 = 3) (fun _ => rfl)
      (fun h2 => (k2 h1 h2))
      (fun h2 => (k3 h1 h2)))

set_option maxRecDepth 100000 in
theorem R6_164 {X : Nat × (Nat → Int32)} {d : Nat} {r : mA mG} {σ : mG} {x1 : Int32} {x2 : Int32} {x3 : Int32} {x4 : Int32} {x5 : Int32} {x6 : Int32} {x7 : Int32} {σ1 : mG} {v1 : Int32} {σ2 : mG} {σ3 : mG} {σ4 : mG}
    (c1 : RR X d 41 [.ref 1, .ref 1020] σ (none, σ1))
    (c2 : RR X d 25 [.ref 0, .int x1, .int 0] σ1 (some (.int v1), σ2))
    (c3 : RR X d 43 [.ref 1, .int x7] σ2 (none, σ3))
    (c4 : RR X d 11 [.ref 0, .int 114, .int v1] σ3 (none, σ4))
    (k1 : TT X d tb6 (some .boolean) (198, [some (.ref 0), some (.int x1), some (.int x2), some (.int x3), some (.int x4), some (.int x5), some (.int x6), some (.int x7), some (.int v1)], [], σ4) r)
    : TT X d tb6 (some .boolean) (164, [some (.ref 0), some (.int x1), some (.int x2), some (.int x3), some (.int x4), some (.int x5), some (.int x6), some (.int x7), none], [], σ) r := mi_T.go 3 (s1 := (170, [some (.ref 0), some (.int x1), some (.int x2), some (.int x3), some (.int x4), some (.int x5), some (.int x6), some (.int x7), none], [.ref 1020, .ref 1], σ)) rfl <|
      mi_T.call (as := [.ref 1, .ref 1020]) (rest := []) (v := none) rfl rfl rfl rfl rfl (c1) <|
      mi_T.go 3 (s1 := (176, [some (.ref 0), some (.int x1), some (.int x2), some (.int x3), some (.int x4), some (.int x5), some (.int x6), some (.int x7), none], [.int 0, .int x1, .ref 0], σ1)) rfl <|
      mi_T.call (as := [.ref 0, .int x1, .int 0]) (rest := []) (v := some (.int v1)) rfl rfl rfl rfl rfl (c2) <|
      mi_T.go 4 (s1 := (187, [some (.ref 0), some (.int x1), some (.int x2), some (.int x3), some (.int x4), some (.int x5), some (.int x6), some (.int x7), some (.int v1)], [.int x7, .ref 1], σ2)) rfl <|
      mi_T.call (as := [.ref 1, .int x7]) (rest := []) (v := none) rfl rfl rfl rfl rfl (c3) <|
      mi_T.go 3 (s1 := (195, [some (.ref 0), some (.int x1), some (.int x2), some (.int x3), some (.int x4), some (.int x5), some (.int x6), some (.int x7), some (.int v1)], [.int v1, .int 114, .ref 0], σ3)) rfl <|
      mi_T.call (as := [.ref 0, .int 114, .int v1]) (rest := []) (v := none) rfl rfl rfl rfl rfl (c4) <|
      k1

set_option maxRecDepth 100000 in
theorem R6_198 {X : Nat × (Nat → Int32)} {d : Nat} {r : mA mG} {σ : mG} {x1 : Int32} {x2 : Int32} {x3 : Int32} {x4 : Int32} {x5 : Int32} {x6 : Int32} {x7 : Int32} {u8 : Option Value} {σ1 : mG}
    (c1 : RR X d 41 [.ref 1, .ref 1020] σ (none, σ1))
    (k1 : r = (some (.int 1), (mi_uc σ1.1 0 (upd (σ1.1 0) 13 ((σ1.1 0 13) + 1)), σ1.2)))
    : TT X d tb6 (some .boolean) (198, [some (.ref 0), some (.int x1), some (.int x2), some (.int x3), some (.int x4), some (.int x5), some (.int x6), some (.int x7), u8], [], σ) r := mi_T.go 3 (s1 := (204, [some (.ref 0), some (.int x1), some (.int x2), some (.int x3), some (.int x4), some (.int x5), some (.int x6), some (.int x7), u8], [.ref 1020, .ref 1], σ)) rfl <|
      mi_T.call (as := [.ref 1, .ref 1020]) (rest := []) (v := none) rfl rfl rfl rfl rfl (c1) <|
      mi_T.go 7 (s1 := (218, [some (.ref 0), some (.int x1), some (.int x2), some (.int x3), some (.int x4), some (.int x5), some (.int x6), some (.int x7), u8], [.int 1], (mi_uc σ1.1 0 (upd (σ1.1 0) 13 ((σ1.1 0 13) + 1)), σ1.2))) rfl <|
      mi_T.fin (k1) (fun _ => rfl)

-- AssertionGate.putHead(II)V
theorem R7_0 {X : Nat × (Nat → Int32)} {d : Nat} {r : mA mG} {σ : mG} {x1 : Int32} {x2 : Int32} {σ1 : mG} {σ2 : mG} {σ3 : mG} {σ4 : mG} {σ5 : mG} {σ6 : mG} {σ7 : mG}
    (c1 : RR X d 41 [.ref 1, .ref 1000] σ (none, σ1))
    (c2 : RR X d 42 [.ref 1, .int (σ1.1 0 13)] σ1 (none, σ2))
    (c3 : RR X d 41 [.ref 1, .ref 1001] σ2 (none, σ3))
    (c4 : RR X d 42 [.ref 1, .int x2] σ3 (none, σ4))
    (c5 : RR X d 41 [.ref 1, .ref 1002] σ4 (none, σ5))
    (c6 : RR X d 9 [.ref 0, .int x1] σ5 (none, σ6))
    (c7 : RR X d 41 [.ref 1, .ref 1005] σ6 (none, σ7))
    (k1 : r = (none, σ7))
    : TT X d tb7 none (0, [some (.ref 0), some (.int x1), some (.int x2)], [], σ) r := mi_T.go 3 (s1 := (6, [some (.ref 0), some (.int x1), some (.int x2)], [.ref 1000, .ref 1], σ)) rfl <|
      mi_T.call (as := [.ref 1, .ref 1000]) (rest := []) (v := none) rfl rfl rfl rfl rfl (c1) <|
      mi_T.go 4 (s1 := (17, [some (.ref 0), some (.int x1), some (.int x2)], [.int (σ1.1 0 13), .ref 1], σ1)) rfl <|
      mi_T.call (as := [.ref 1, .int (σ1.1 0 13)]) (rest := []) (v := none) rfl rfl rfl rfl rfl (c2) <|
      mi_T.go 3 (s1 := (26, [some (.ref 0), some (.int x1), some (.int x2)], [.ref 1001, .ref 1], σ2)) rfl <|
      mi_T.call (as := [.ref 1, .ref 1001]) (rest := []) (v := none) rfl rfl rfl rfl rfl (c3) <|
      mi_T.go 3 (s1 := (34, [some (.ref 0), some (.int x1), some (.int x2)], [.int x2, .ref 1], σ3)) rfl <|
      mi_T.call (as := [.ref 1, .int x2]) (rest := []) (v := none) rfl rfl rfl rfl rfl (c4) <|
      mi_T.go 3 (s1 := (43, [some (.ref 0), some (.int x1), some (.int x2)], [.ref 1002, .ref 1], σ4)) rfl <|
      mi_T.call (as := [.ref 1, .ref 1002]) (rest := []) (v := none) rfl rfl rfl rfl rfl (c5) <|
      mi_T.go 2 (s1 := (48, [some (.ref 0), some (.int x1), some (.int x2)], [.int x1, .ref 0], σ5)) rfl <|
      mi_T.call (as := [.ref 0, .int x1]) (rest := []) (v := none) rfl rfl rfl rfl rfl (c6) <|
      mi_T.go 3 (s1 := (57, [some (.ref 0), some (.int x1), some (.int x2)], [.ref 1005, .ref 1], σ6)) rfl <|
      mi_T.call (as := [.ref 1, .ref 1005]) (rest := []) (v := none) rfl rfl rfl rfl rfl (c7) <|
      mi_T.fin (k1) (fun _ => rfl)

-- AssertionGate.putAssertion(IIII)V
theorem R8_0 {X : Nat × (Nat → Int32)} {d : Nat} {r : mA mG} {σ : mG} {x1 : Int32} {x2 : Int32} {x3 : Int32} {x4 : Int32} {σ1 : mG} {σ2 : mG} {σ3 : mG} {σ4 : mG} {σ5 : mG} {σ6 : mG} {σ7 : mG} {σ8 : mG} {σ9 : mG} {σ10 : mG} {σ11 : mG} {σ12 : mG} {σ13 : mG} {σ14 : mG} {σ15 : mG}
    (c1 : RR X d 41 [.ref 1, .ref 1006] σ (none, σ1))
    (c2 : RR X d 42 [.ref 1, .int (σ1.1 0 13)] σ1 (none, σ2))
    (c3 : RR X d 41 [.ref 1, .ref 1007] σ2 (none, σ3))
    (c4 : RR X d 9 [.ref 0, .int x1] σ3 (none, σ4))
    (c5 : RR X d 41 [.ref 1, .ref 1008] σ4 (none, σ5))
    (c6 : RR X d 10 [.ref 0, .int x3] σ5 (none, σ6))
    (c7 : RR X d 41 [.ref 1, .ref 1011] σ6 (none, σ7))
    (c8 : RR X d 42 [.ref 1, .int x2] σ7 (none, σ8))
    (c9 : RR X d 41 [.ref 1, .ref 1012] σ8 (none, σ9))
    (c10 : RR X d 42 [.ref 1, .int x4] σ9 (none, σ10))
    (c11 : RR X d 41 [.ref 1, .ref 1013] σ10 (none, σ11))
    (c12 : RR X d 42 [.ref 1, .int (σ11.1 0 12)] σ11 (none, σ12))
    (c13 : RR X d 41 [.ref 1, .ref 1012] σ12 (none, σ13))
    (c14 : RR X d 42 [.ref 1, .int x4] σ13 (none, σ14))
    (c15 : RR X d 41 [.ref 1, .ref 1014] σ14 (none, σ15))
    (k1 : r = (none, σ15))
    : TT X d tb8 none (0, [some (.ref 0), some (.int x1), some (.int x2), some (.int x3), some (.int x4)], [], σ) r := mi_T.go 3 (s1 := (6, [some (.ref 0), some (.int x1), some (.int x2), some (.int x3), some (.int x4)], [.ref 1006, .ref 1], σ)) rfl <|
      mi_T.call (as := [.ref 1, .ref 1006]) (rest := []) (v := none) rfl rfl rfl rfl rfl (c1) <|
      mi_T.go 4 (s1 := (17, [some (.ref 0), some (.int x1), some (.int x2), some (.int x3), some (.int x4)], [.int (σ1.1 0 13), .ref 1], σ1)) rfl <|
      mi_T.call (as := [.ref 1, .int (σ1.1 0 13)]) (rest := []) (v := none) rfl rfl rfl rfl rfl (c2) <|
      mi_T.go 3 (s1 := (26, [some (.ref 0), some (.int x1), some (.int x2), some (.int x3), some (.int x4)], [.ref 1007, .ref 1], σ2)) rfl <|
      mi_T.call (as := [.ref 1, .ref 1007]) (rest := []) (v := none) rfl rfl rfl rfl rfl (c3) <|
      mi_T.go 2 (s1 := (31, [some (.ref 0), some (.int x1), some (.int x2), some (.int x3), some (.int x4)], [.int x1, .ref 0], σ3)) rfl <|
      mi_T.call (as := [.ref 0, .int x1]) (rest := []) (v := none) rfl rfl rfl rfl rfl (c4) <|
      mi_T.go 3 (s1 := (40, [some (.ref 0), some (.int x1), some (.int x2), some (.int x3), some (.int x4)], [.ref 1008, .ref 1], σ4)) rfl <|
      mi_T.call (as := [.ref 1, .ref 1008]) (rest := []) (v := none) rfl rfl rfl rfl rfl (c5) <|
      mi_T.go 2 (s1 := (45, [some (.ref 0), some (.int x1), some (.int x2), some (.int x3), some (.int x4)], [.int x3, .ref 0], σ5)) rfl <|
      mi_T.call (as := [.ref 0, .int x3]) (rest := []) (v := none) rfl rfl rfl rfl rfl (c6) <|
      mi_T.go 3 (s1 := (54, [some (.ref 0), some (.int x1), some (.int x2), some (.int x3), some (.int x4)], [.ref 1011, .ref 1], σ6)) rfl <|
      mi_T.call (as := [.ref 1, .ref 1011]) (rest := []) (v := none) rfl rfl rfl rfl rfl (c7) <|
      mi_T.go 3 (s1 := (62, [some (.ref 0), some (.int x1), some (.int x2), some (.int x3), some (.int x4)], [.int x2, .ref 1], σ7)) rfl <|
      mi_T.call (as := [.ref 1, .int x2]) (rest := []) (v := none) rfl rfl rfl rfl rfl (c8) <|
      mi_T.go 3 (s1 := (71, [some (.ref 0), some (.int x1), some (.int x2), some (.int x3), some (.int x4)], [.ref 1012, .ref 1], σ8)) rfl <|
      mi_T.call (as := [.ref 1, .ref 1012]) (rest := []) (v := none) rfl rfl rfl rfl rfl (c9) <|
      mi_T.go 3 (s1 := (80, [some (.ref 0), some (.int x1), some (.int x2), some (.int x3), some (.int x4)], [.int x4, .ref 1], σ9)) rfl <|
      mi_T.call (as := [.ref 1, .int x4]) (rest := []) (v := none) rfl rfl rfl rfl rfl (c10) <|
      mi_T.go 3 (s1 := (89, [some (.ref 0), some (.int x1), some (.int x2), some (.int x3), some (.int x4)], [.ref 1013, .ref 1], σ10)) rfl <|
      mi_T.call (as := [.ref 1, .ref 1013]) (rest := []) (v := none) rfl rfl rfl rfl rfl (c11) <|
      mi_T.go 4 (s1 := (100, [some (.ref 0), some (.int x1), some (.int x2), some (.int x3), some (.int x4)], [.int (σ11.1 0 12), .ref 1], σ11)) rfl <|
      mi_T.call (as := [.ref 1, .int (σ11.1 0 12)]) (rest := []) (v := none) rfl rfl rfl rfl rfl (c12) <|
      mi_T.go 3 (s1 := (109, [some (.ref 0), some (.int x1), some (.int x2), some (.int x3), some (.int x4)], [.ref 1012, .ref 1], σ12)) rfl <|
      mi_T.call (as := [.ref 1, .ref 1012]) (rest := []) (v := none) rfl rfl rfl rfl rfl (c13) <|
      mi_T.go 3 (s1 := (118, [some (.ref 0), some (.int x1), some (.int x2), some (.int x3), some (.int x4)], [.int x4, .ref 1], σ13)) rfl <|
      mi_T.call (as := [.ref 1, .int x4]) (rest := []) (v := none) rfl rfl rfl rfl rfl (c14) <|
      mi_T.go 3 (s1 := (127, [some (.ref 0), some (.int x1), some (.int x2), some (.int x3), some (.int x4)], [.ref 1014, .ref 1], σ14)) rfl <|
      mi_T.call (as := [.ref 1, .ref 1014]) (rest := []) (v := none) rfl rfl rfl rfl rfl (c15) <|
      mi_T.fin (k1) (fun _ => rfl)

-- AssertionGate.putIssuer(I)V
theorem R9_0 {X : Nat × (Nat → Int32)} {d : Nat} {r : mA mG} {σ : mG} {x1 : Int32} {σ1 : mG} {σ2 : mG} {σ3 : mG}
    (c1 : RR X d 41 [.ref 1, .ref 1003] σ (none, σ1))
    (c2 : RR X d 42 [.ref 1, .int x1] σ1 (none, σ2))
    (c3 : RR X d 41 [.ref 1, .ref 1004] σ2 (none, σ3))
    (k1 : r = (none, σ3))
    : TT X d tb9 none (0, [some (.ref 0), some (.int x1)], [], σ) r := mi_T.go 3 (s1 := (6, [some (.ref 0), some (.int x1)], [.ref 1003, .ref 1], σ)) rfl <|
      mi_T.call (as := [.ref 1, .ref 1003]) (rest := []) (v := none) rfl rfl rfl rfl rfl (c1) <|
      mi_T.go 3 (s1 := (14, [some (.ref 0), some (.int x1)], [.int x1, .ref 1], σ1)) rfl <|
      mi_T.call (as := [.ref 1, .int x1]) (rest := []) (v := none) rfl rfl rfl rfl rfl (c2) <|
      mi_T.go 3 (s1 := (23, [some (.ref 0), some (.int x1)], [.ref 1004, .ref 1], σ2)) rfl <|
      mi_T.call (as := [.ref 1, .ref 1004]) (rest := []) (v := none) rfl rfl rfl rfl rfl (c3) <|
      mi_T.fin (k1) (fun _ => rfl)

-- AssertionGate.putUser(I)V
theorem R10_0 {X : Nat × (Nat → Int32)} {d : Nat} {r : mA mG} {σ : mG} {x1 : Int32} {σ1 : mG} {σ2 : mG} {σ3 : mG}
    (c1 : RR X d 41 [.ref 1, .ref 1009] σ (none, σ1))
    (c2 : RR X d 42 [.ref 1, .int x1] σ1 (none, σ2))
    (c3 : RR X d 41 [.ref 1, .ref 1010] σ2 (none, σ3))
    (k1 : r = (none, σ3))
    : TT X d tb10 none (0, [some (.ref 0), some (.int x1)], [], σ) r := mi_T.go 3 (s1 := (6, [some (.ref 0), some (.int x1)], [.ref 1009, .ref 1], σ)) rfl <|
      mi_T.call (as := [.ref 1, .ref 1009]) (rest := []) (v := none) rfl rfl rfl rfl rfl (c1) <|
      mi_T.go 3 (s1 := (14, [some (.ref 0), some (.int x1)], [.int x1, .ref 1], σ1)) rfl <|
      mi_T.call (as := [.ref 1, .int x1]) (rest := []) (v := none) rfl rfl rfl rfl rfl (c2) <|
      mi_T.go 3 (s1 := (23, [some (.ref 0), some (.int x1)], [.ref 1010, .ref 1], σ2)) rfl <|
      mi_T.call (as := [.ref 1, .ref 1010]) (rest := []) (v := none) rfl rfl rfl rfl rfl (c3) <|
      mi_T.fin (k1) (fun _ => rfl)

-- AssertionGate.putSig(CI)V
theorem R11_0 {X : Nat × (Nat → Int32)} {d : Nat} {r : mA mG} {σ : mG} {x1 : Int32} {x2 : Int32} {σ1 : mG} {v1 : Int32} {σ2 : mG} {σ3 : mG} {σ4 : mG} {σ5 : mG} {σ6 : mG}
    (c1 : RR X d 41 [.ref 1, .ref 1017] σ (none, σ1))
    (c2 : RR X d 40 [.ref 1, .int x1] σ1 (some (.int v1), σ2))
    (c3 : RR X d 42 [.ref 1, .int (σ2.1 0 13)] σ2 (none, σ3))
    (c4 : RR X d 41 [.ref 1, .ref 1018] σ3 (none, σ4))
    (c5 : RR X d 42 [.ref 1, .int x2] σ4 (none, σ5))
    (c6 : RR X d 41 [.ref 1, .ref 1014] σ5 (none, σ6))
    (k1 : r = (none, σ6))
    : TT X d tb11 none (0, [some (.ref 0), some (.int x1), some (.int x2)], [], σ) r := mi_T.go 3 (s1 := (6, [some (.ref 0), some (.int x1), some (.int x2)], [.ref 1017, .ref 1], σ)) rfl <|
      mi_T.call (as := [.ref 1, .ref 1017]) (rest := []) (v := none) rfl rfl rfl rfl rfl (c1) <|
      mi_T.go 3 (s1 := (14, [some (.ref 0), some (.int x1), some (.int x2)], [.int x1, .ref 1], σ1)) rfl <|
      mi_T.call (as := [.ref 1, .int x1]) (rest := []) (v := some (.int v1)) rfl rfl rfl rfl rfl (c2) <|
      mi_T.go 5 (s1 := (26, [some (.ref 0), some (.int x1), some (.int x2)], [.int (σ2.1 0 13), .ref 1], σ2)) rfl <|
      mi_T.call (as := [.ref 1, .int (σ2.1 0 13)]) (rest := []) (v := none) rfl rfl rfl rfl rfl (c3) <|
      mi_T.go 3 (s1 := (35, [some (.ref 0), some (.int x1), some (.int x2)], [.ref 1018, .ref 1], σ3)) rfl <|
      mi_T.call (as := [.ref 1, .ref 1018]) (rest := []) (v := none) rfl rfl rfl rfl rfl (c4) <|
      mi_T.go 3 (s1 := (43, [some (.ref 0), some (.int x1), some (.int x2)], [.int x2, .ref 1], σ4)) rfl <|
      mi_T.call (as := [.ref 1, .int x2]) (rest := []) (v := none) rfl rfl rfl rfl rfl (c5) <|
      mi_T.go 3 (s1 := (52, [some (.ref 0), some (.int x1), some (.int x2)], [.ref 1014, .ref 1], σ5)) rfl <|
      mi_T.call (as := [.ref 1, .ref 1014]) (rest := []) (v := none) rfl rfl rfl rfl rfl (c6) <|
      mi_T.fin (k1) (fun _ => rfl)

-- AssertionGate.leave(II)Z
theorem R12_0 {X : Nat × (Nat → Int32)} {d : Nat} {r : mA mG} {σ : mG} {x1 : Int32} {x2 : Int32} {v1 : Int32} {σ1 : mG} {v2 : Int32} {σ2 : mG} {σ3 : mG} {σ4 : mG} {σ5 : mG} {σ6 : mG} {σ7 : mG} {σ8 : mG} {σ9 : mG} {v3 : Int32} {σ10 : mG} {σ11 : mG} {σ12 : mG} {σ13 : mG}
    (c1 : RR X d 95 [.ref 18, .int x1] σ (some (.int v1), σ1))
    (k1 : v1 = 0 → r = (some (.int 0), σ1))
    (c2 : ¬ (v1 = 0) → RR X d 13 [.int x2, .int 100] σ1 (some (.int v2), σ2))
    (c3 : ¬ (v1 = 0) → ¬ v2 = 0 → RR X d 43 [.ref 1, .int 0] σ2 (none, σ3))
    (c4 : ¬ (v1 = 0) → ¬ v2 = 0 → RR X d 41 [.ref 1, .ref 1021] σ3 (none, σ4))
    (c5 : ¬ (v1 = 0) → ¬ v2 = 0 → RR X d 42 [.ref 1, .int (σ4.1 0 13)] σ4 (none, σ5))
    (c6 : ¬ (v1 = 0) → ¬ v2 = 0 → RR X d 41 [.ref 1, .ref 1002] σ5 (none, σ6))
    (c7 : ¬ (v1 = 0) → ¬ v2 = 0 → RR X d 9 [.ref 0, .int x1] σ6 (none, σ7))
    (c8 : ¬ (v1 = 0) → ¬ v2 = 0 → RR X d 10 [.ref 0, .int x2] σ7 (none, σ8))
    (c9 : ¬ (v1 = 0) → ¬ v2 = 0 → RR X d 41 [.ref 1, .ref 1022] σ8 (none, σ9))
    (c10 : ¬ (v1 = 0) → ¬ v2 = 0 → RR X d 25 [.ref 0, .int x1, .int 0] σ9 (some (.int v3), σ10))
    (c11 : ¬ (v1 = 0) → ¬ v2 = 0 → RR X d 43 [.ref 1, .int (σ8.1 1 1)] σ10 (none, σ11))
    (c12 : ¬ (v1 = 0) → ¬ v2 = 0 → RR X d 11 [.ref 0, .int 111, .int v3] σ11 (none, σ12))
    (c13 : ¬ (v1 = 0) → ¬ v2 = 0 → RR X d 41 [.ref 1, .ref 1022] σ12 (none, σ13))
    (k2 : ¬ (v1 = 0) → ¬ v2 = 0 → r = (some (.int 1), (mi_uc σ13.1 0 (upd (σ13.1 0) 13 ((σ13.1 0 13) + 1)), σ13.2)))
    (k3 : ¬ (v1 = 0) → ¬ (¬ v2 = 0) → r = (some (.int 0), σ2))
    : TT X d tb12 (some .boolean) (0, [some (.ref 0), some (.int x1), some (.int x2), none, none], [], σ) r := mi_T.go 3 (s1 := (5, [some (.ref 0), some (.int x1), some (.int x2), none, none], [.int x1, .ref 18], σ)) rfl <|
      mi_T.call (as := [.ref 18, .int x1]) (rest := []) (v := some (.int v1)) rfl rfl rfl rfl rfl (c1) <|
      mi_T.br (P := v1 = 0) (fun _ => rfl)
      (fun h1 => mi_T.go 1 (s1 := (21, [some (.ref 0), some (.int x1), some (.int x2), none, none], [.int 0], σ1)) rfl <|
      mi_T.fin (k1 h1) (fun _ => rfl))
      (fun h1 => mi_T.go 2 (s1 := (14, [some (.ref 0), some (.int x1), some (.int x2), none, none], [.int 100, .int x2], σ1)) rfl <|
      mi_T.call (as := [.int x2, .int 100]) (rest := []) (v := some (.int v2)) rfl rfl rfl rfl rfl (c2 h1) <|
      mi_T.br (P := ¬ v2 = 0) (fun _ => rfl)
      (fun h2 => mi_T.go 3 (s1 := (27, [some (.ref 0), some (.int x1), some (.int x2), none, none], [.int 0, .ref 1], σ2)) rfl <|
      mi_T.call (as := [.ref 1, .int 0]) (rest := []) (v := none) rfl rfl rfl rfl rfl (c3 h1 h2) <|
      mi_T.go 3 (s1 := (36, [some (.ref 0), some (.int x1), some (.int x2), none, none], [.ref 1021, .ref 1], σ3)) rfl <|
      mi_T.call (as := [.ref 1, .ref 1021]) (rest := []) (v := none) rfl rfl rfl rfl rfl (c4 h1 h2) <|
      mi_T.go 4 (s1 := (47, [some (.ref 0), some (.int x1), some (.int x2), none, none], [.int (σ4.1 0 13), .ref 1], σ4)) rfl <|
      mi_T.call (as := [.ref 1, .int (σ4.1 0 13)]) (rest := []) (v := none) rfl rfl rfl rfl rfl (c5 h1 h2) <|
      mi_T.go 3 (s1 := (56, [some (.ref 0), some (.int x1), some (.int x2), none, none], [.ref 1002, .ref 1], σ5)) rfl <|
      mi_T.call (as := [.ref 1, .ref 1002]) (rest := []) (v := none) rfl rfl rfl rfl rfl (c6 h1 h2) <|
      mi_T.go 2 (s1 := (61, [some (.ref 0), some (.int x1), some (.int x2), none, none], [.int x1, .ref 0], σ6)) rfl <|
      mi_T.call (as := [.ref 0, .int x1]) (rest := []) (v := none) rfl rfl rfl rfl rfl (c7 h1 h2) <|
      mi_T.go 2 (s1 := (66, [some (.ref 0), some (.int x1), some (.int x2), none, none], [.int x2, .ref 0], σ7)) rfl <|
      mi_T.call (as := [.ref 0, .int x2]) (rest := []) (v := none) rfl rfl rfl rfl rfl (c8 h1 h2) <|
      mi_T.go 7 (s1 := (83, [some (.ref 0), some (.int x1), some (.int x2), some (.int (σ8.1 1 1)), none], [.ref 1022, .ref 1], σ8)) rfl <|
      mi_T.call (as := [.ref 1, .ref 1022]) (rest := []) (v := none) rfl rfl rfl rfl rfl (c9 h1 h2) <|
      mi_T.go 3 (s1 := (89, [some (.ref 0), some (.int x1), some (.int x2), some (.int (σ8.1 1 1)), none], [.int 0, .int x1, .ref 0], σ9)) rfl <|
      mi_T.call (as := [.ref 0, .int x1, .int 0]) (rest := []) (v := some (.int v3)) rfl rfl rfl rfl rfl (c10 h1 h2) <|
      mi_T.go 4 (s1 := (99, [some (.ref 0), some (.int x1), some (.int x2), some (.int (σ8.1 1 1)), some (.int v3)], [.int (σ8.1 1 1), .ref 1], σ10)) rfl <|
      mi_T.call (as := [.ref 1, .int (σ8.1 1 1)]) (rest := []) (v := none) rfl rfl rfl rfl rfl (c11 h1 h2) <|
      mi_T.go 3 (s1 := (107, [some (.ref 0), some (.int x1), some (.int x2), some (.int (σ8.1 1 1)), some (.int v3)], [.int v3, .int 111, .ref 0], σ11)) rfl <|
      mi_T.call (as := [.ref 0, .int 111, .int v3]) (rest := []) (v := none) rfl rfl rfl rfl rfl (c12 h1 h2) <|
      mi_T.go 3 (s1 := (116, [some (.ref 0), some (.int x1), some (.int x2), some (.int (σ8.1 1 1)), some (.int v3)], [.ref 1022, .ref 1], σ12)) rfl <|
      mi_T.call (as := [.ref 1, .ref 1022]) (rest := []) (v := none) rfl rfl rfl rfl rfl (c13 h1 h2) <|
      mi_T.go 7 (s1 := (130, [some (.ref 0), some (.int x1), some (.int x2), some (.int (σ8.1 1 1)), some (.int v3)], [.int 1], (mi_uc σ13.1 0 (upd (σ13.1 0) 13 ((σ13.1 0 13) + 1)), σ13.2))) rfl <|
      mi_T.fin (k2 h1 h2) (fun _ => rfl))
      (fun h2 => mi_T.go 1 (s1 := (21, [some (.ref 0), some (.int x1), some (.int x2), none, none], [.int 0], σ2)) rfl <|
      mi_T.fin (k3 h1 h2) (fun _ => rfl)))

-- AssertionGate.isBelow(II)Z
theorem R13_0 {X : Nat × (Nat → Int32)} {d : Nat} {r : mA mG} {σ : mG} {x0 : Int32} {x1 : Int32}
    (k1 : x0 < 0 → r = (some (.int 0), σ))
    (k2 : ¬ (x0 < 0) → x1 ≤ x0 → r = (some (.int 0), σ))
    (k3 : ¬ (x0 < 0) → ¬ (x1 ≤ x0) → r = (some (.int 1), σ))
    : TT X d tb13 (some .boolean) (0, [some (.int x0), some (.int x1)], [], σ) r := mi_T.go 1 (s1 := (1, [some (.int x0), some (.int x1)], [.int x0], σ)) rfl <|
      mi_T.br (P := x0 < 0) (fun _ => rfl)
      (fun h1 => mi_T.go 1 (s1 := (14, [some (.int x0), some (.int x1)], [.int 0], σ)) rfl <|
      mi_T.fin (k1 h1) (fun _ => rfl))
      (fun h1 => mi_T.go 2 (s1 := (6, [some (.int x0), some (.int x1)], [.int x1, .int x0], σ)) rfl <|
      mi_T.br (P := x1 ≤ x0) (fun _ => rfl)
      (fun h2 => mi_T.go 1 (s1 := (14, [some (.int x0), some (.int x1)], [.int 0], σ)) rfl <|
      mi_T.fin (k2 h1 h2) (fun _ => rfl))
      (fun h2 => mi_T.go 2 (s1 := (14, [some (.int x0), some (.int x1)], [.int 1], σ)) rfl <|
      mi_T.fin (k3 h1 h2) (fun _ => rfl)))

-- AssertionGate.isPrintable(C)Z
theorem R14_0 {X : Nat × (Nat → Int32)} {d : Nat} {r : mA mG} {σ : mG} {x0 : Int32}
    (k1 : x0 < 32 → r = (some (.int 0), σ))
    (k2 : ¬ (x0 < 32) → 126 < x0 → r = (some (.int 0), σ))
    (k3 : ¬ (x0 < 32) → ¬ (126 < x0) → r = (some (.int 1), σ))
    : TT X d tb14 (some .boolean) (0, [some (.int x0)], [], σ) r := mi_T.go 2 (s1 := (3, [some (.int x0)], [.int 32, .int x0], σ)) rfl <|
      mi_T.br (P := x0 < 32) (fun _ => rfl)
      (fun h1 => mi_T.go 1 (s1 := (17, [some (.int x0)], [.int 0], σ)) rfl <|
      mi_T.fin (k1 h1) (fun _ => rfl))
      (fun h1 => mi_T.go 2 (s1 := (9, [some (.int x0)], [.int 126, .int x0], σ)) rfl <|
      mi_T.br (P := 126 < x0) (fun _ => rfl)
      (fun h2 => mi_T.go 1 (s1 := (17, [some (.int x0)], [.int 0], σ)) rfl <|
      mi_T.fin (k2 h1 h2) (fun _ => rfl))
      (fun h2 => mi_T.go 2 (s1 := (17, [some (.int x0)], [.int 1], σ)) rfl <|
      mi_T.fin (k3 h1 h2) (fun _ => rfl)))

-- AssertionGate.write(C)Z
theorem R15_0 {X : Nat × (Nat → Int32)} {d : Nat} {r : mA mG} {σ : mG} {x1 : Int32} {v1 : Int32} {σ1 : mG} {v2 : Int32} {σ2 : mG}
    (c1 : RR X d 14 [.int x1] σ (some (.int v1), σ1))
    (k1 : v1 = 0 → r = (some (.int 0), σ1))
    (c2 : ¬ (v1 = 0) → RR X d 40 [.ref 1, .int x1] σ1 (some (.int v2), σ2))
    (k2 : ¬ (v1 = 0) → v2 = 0 → r = (some (.int 0), σ2))
    (k3 : ¬ (v1 = 0) → ¬ (v2 = 0) → r = (some (.int 1), σ2))
    : TT X d tb15 (some .boolean) (0, [some (.ref 0), some (.int x1)], [], σ) r := mi_T.go 1 (s1 := (1, [some (.ref 0), some (.int x1)], [.int x1], σ)) rfl <|
      mi_T.call (as := [.int x1]) (rest := []) (v := some (.int v1)) rfl rfl rfl rfl rfl (c1) <|
      mi_T.br (P := v1 = 0) (fun _ => rfl)
      (fun h1 => mi_T.go 1 (s1 := (23, [some (.ref 0), some (.int x1)], [.int 0], σ1)) rfl <|
      mi_T.fin (k1 h1) (fun _ => rfl))
      (fun h1 => mi_T.go 3 (s1 := (12, [some (.ref 0), some (.int x1)], [.int x1, .ref 1], σ1)) rfl <|
      mi_T.call (as := [.ref 1, .int x1]) (rest := []) (v := some (.int v2)) rfl rfl rfl rfl rfl (c2 h1) <|
      mi_T.br (P := v2 = 0) (fun _ => rfl)
      (fun h2 => mi_T.go 1 (s1 := (23, [some (.ref 0), some (.int x1)], [.int 0], σ2)) rfl <|
      mi_T.fin (k2 h1 h2) (fun _ => rfl))
      (fun h2 => mi_T.go 2 (s1 := (23, [some (.ref 0), some (.int x1)], [.int 1], σ2)) rfl <|
      mi_T.fin (k3 h1 h2) (fun _ => rfl)))

-- AssertionGate.set(IC)Z
theorem R16_0 {X : Nat × (Nat → Int32)} {d : Nat} {r : mA mG} {σ : mG} {x1 : Int32} {x2 : Int32} {v1 : Int32} {σ1 : mG} {v2 : Int32} {σ2 : mG}
    (c1 : RR X d 13 [.int x1, .int (σ.1 1 1)] σ (some (.int v1), σ1))
    (k1 : v1 = 0 → r = (some (.int 0), σ1))
    (c2 : ¬ (v1 = 0) → RR X d 14 [.int x2] σ1 (some (.int v2), σ2))
    (b1 : ¬ (v1 = 0) → ¬ v2 = 0 → mi_in x1 400 = true)
    (k2 : ¬ (v1 = 0) → ¬ v2 = 0 → r = (some (.int 1), (mi_uc σ2.1 2 (upd (σ2.1 2) x1.toNatClampNeg (mi_nar 1 x2)), σ2.2)))
    (k3 : ¬ (v1 = 0) → ¬ (¬ v2 = 0) → r = (some (.int 0), σ2))
    : TT X d tb16 (some .boolean) (0, [some (.ref 0), some (.int x1), some (.int x2)], [], σ) r := mi_T.go 4 (s1 := (8, [some (.ref 0), some (.int x1), some (.int x2)], [.int (σ.1 1 1), .int x1], σ)) rfl <|
      mi_T.call (as := [.int x1, .int (σ.1 1 1)]) (rest := []) (v := some (.int v1)) rfl rfl rfl rfl rfl (c1) <|
      mi_T.br (P := v1 = 0) (fun _ => rfl)
      (fun h1 => mi_T.go 1 (s1 := (22, [some (.ref 0), some (.int x1), some (.int x2)], [.int 0], σ1)) rfl <|
      mi_T.fin (k1 h1) (fun _ => rfl))
      (fun h1 => mi_T.go 1 (s1 := (15, [some (.ref 0), some (.int x1), some (.int x2)], [.int x2], σ1)) rfl <|
      mi_T.call (as := [.int x2]) (rest := []) (v := some (.int v2)) rfl rfl rfl rfl rfl (c2 h1) <|
      mi_T.br (P := ¬ v2 = 0) (fun _ => rfl)
      (fun h2 => mi_T.go 5 (s1 := (32, [some (.ref 0), some (.int x1), some (.int x2)], [.int x2, .int x1, .ref 2], σ2)) rfl <|
      mi_T.sc rfl rfl (b1 h1 h2) <|
      mi_T.go 1 (s1 := (34, [some (.ref 0), some (.int x1), some (.int x2)], [.int 1], (mi_uc σ2.1 2 (upd (σ2.1 2) x1.toNatClampNeg (mi_nar 1 x2)), σ2.2))) rfl <|
      mi_T.fin (k2 h1 h2) (fun _ => rfl))
      (fun h2 => mi_T.go 1 (s1 := (22, [some (.ref 0), some (.int x1), some (.int x2)], [.int 0], σ2)) rfl <|
      mi_T.fin (k3 h1 h2) (fun _ => rfl)))

-- AssertionGate.cut(II)Z
theorem R17_0 {X : Nat × (Nat → Int32)} {d : Nat} {r : mA mG} {σ : mG} {x1 : Int32} {x2 : Int32} {σ1 : mG}
    (k1 : x1 < 0 → r = (some (.int 0), σ))
    (k2 : ¬ (x1 < 0) → x2 < x1 → r = (some (.int 0), σ))
    (c1 : ¬ (x1 < 0) → ¬ (x2 < x1) → x2 ≤ (σ.1 1 1) → RR X d 44 [.ref 1, .int x1, .int x2, .ref 3] σ (none, σ1))
    (k3 : ¬ (x1 < 0) → ¬ (x2 < x1) → x2 ≤ (σ.1 1 1) → r = (some (.int 1), σ1))
    (k4 : ¬ (x1 < 0) → ¬ (x2 < x1) → ¬ (x2 ≤ (σ.1 1 1)) → r = (some (.int 0), σ))
    : TT X d tb17 (some .boolean) (0, [some (.ref 0), some (.int x1), some (.int x2)], [], σ) r := mi_T.go 1 (s1 := (1, [some (.ref 0), some (.int x1), some (.int x2)], [.int x1], σ)) rfl <|
      mi_T.br (P := x1 < 0) (fun _ => rfl)
      (fun h1 => mi_T.go 1 (s1 := (21, [some (.ref 0), some (.int x1), some (.int x2)], [.int 0], σ)) rfl <|
      mi_T.fin (k1 h1) (fun _ => rfl))
      (fun h1 => mi_T.go 2 (s1 := (6, [some (.ref 0), some (.int x1), some (.int x2)], [.int x2, .int x1], σ)) rfl <|
      mi_T.br (P := x2 < x1) (fun _ => rfl)
      (fun h2 => mi_T.go 1 (s1 := (21, [some (.ref 0), some (.int x1), some (.int x2)], [.int 0], σ)) rfl <|
      mi_T.fin (k2 h1 h2) (fun _ => rfl))
      (fun h2 => mi_T.go 4 (s1 := (17, [some (.ref 0), some (.int x1), some (.int x2)], [.int (σ.1 1 1), .int x2], σ)) rfl <|
      mi_T.br (P := x2 ≤ (σ.1 1 1)) (fun _ => rfl)
      (fun h3 => mi_T.go 6 (s1 := (32, [some (.ref 0), some (.int x1), some (.int x2)], [.ref 3, .int x2, .int x1, .ref 1], σ)) rfl <|
      mi_T.call (as := [.ref 1, .int x1, .int x2, .ref 3]) (rest := []) (v := none) rfl rfl rfl rfl rfl (c1 h1 h2 h3) <|
      mi_T.go 1 (s1 := (36, [some (.ref 0), some (.int x1), some (.int x2)], [.int 1], σ1)) rfl <|
      mi_T.fin (k3 h1 h2 h3) (fun _ => rfl))
      (fun h3 => mi_T.go 1 (s1 := (21, [some (.ref 0), some (.int x1), some (.int x2)], [.int 0], σ)) rfl <|
      mi_T.fin (k4 h1 h2 h3) (fun _ => rfl))))

-- AssertionGate.paste(I)Z
theorem R18_0 {X : Nat × (Nat → Int32)} {d : Nat} {r : mA mG} {σ : mG} {x1 : Int32} {σ1 : mG}
    (k1 : x1 < 0 → r = (some (.int 0), σ))
    (k2 : ¬ (x1 < 0) → (σ.1 1 1) < x1 → r = (some (.int 0), σ))
    (c1 : ¬ (x1 < 0) → ¬ ((σ.1 1 1) < x1) → ((σ.1 1 1) + (σ.1 3 1)) ≤ 400 → RR X d 45 [.ref 1, .int x1, .ref 3] σ (none, σ1))
    (k3 : ¬ (x1 < 0) → ¬ ((σ.1 1 1) < x1) → ((σ.1 1 1) + (σ.1 3 1)) ≤ 400 → r = (some (.int 1), σ1))
    (k4 : ¬ (x1 < 0) → ¬ ((σ.1 1 1) < x1) → ¬ (((σ.1 1 1) + (σ.1 3 1)) ≤ 400) → r = (some (.int 0), σ))
    : TT X d tb18 (some .boolean) (0, [some (.ref 0), some (.int x1)], [], σ) r := mi_T.go 1 (s1 := (1, [some (.ref 0), some (.int x1)], [.int x1], σ)) rfl <|
      mi_T.br (P := x1 < 0) (fun _ => rfl)
      (fun h1 => mi_T.go 1 (s1 := (37, [some (.ref 0), some (.int x1)], [.int 0], σ)) rfl <|
      mi_T.fin (k1 h1) (fun _ => rfl))
      (fun h1 => mi_T.go 4 (s1 := (12, [some (.ref 0), some (.int x1)], [.int (σ.1 1 1), .int x1], σ)) rfl <|
      mi_T.br (P := (σ.1 1 1) < x1) (fun _ => rfl)
      (fun h2 => mi_T.go 1 (s1 := (37, [some (.ref 0), some (.int x1)], [.int 0], σ)) rfl <|
      mi_T.fin (k2 h1 h2) (fun _ => rfl))
      (fun h2 => mi_T.go 8 (s1 := (33, [some (.ref 0), some (.int x1)], [.int 400, .int ((σ.1 1 1) + (σ.1 3 1))], σ)) rfl <|
      mi_T.br (P := ((σ.1 1 1) + (σ.1 3 1)) ≤ 400) (fun _ => rfl)
      (fun h3 => mi_T.go 5 (s1 := (47, [some (.ref 0), some (.int x1)], [.ref 3, .int x1, .ref 1], σ)) rfl <|
      mi_T.call (as := [.ref 1, .int x1, .ref 3]) (rest := []) (v := none) rfl rfl rfl rfl rfl (c1 h1 h2 h3) <|
      mi_T.go 1 (s1 := (51, [some (.ref 0), some (.int x1)], [.int 1], σ1)) rfl <|
      mi_T.fin (k3 h1 h2 h3) (fun _ => rfl))
      (fun h3 => mi_T.go 1 (s1 := (37, [some (.ref 0), some (.int x1)], [.int 0], σ)) rfl <|
      mi_T.fin (k4 h1 h2 h3) (fun _ => rfl))))

-- AssertionGate.clear()V
theorem R19_0 {X : Nat × (Nat → Int32)} {d : Nat} {r : mA mG} {σ : mG} {σ1 : mG}
    (c1 : RR X d 43 [.ref 1, .int 0] σ (none, σ1))
    (k1 : r = (none, σ1))
    : TT X d tb19 none (0, [some (.ref 0)], [], σ) r := mi_T.go 3 (s1 := (5, [some (.ref 0)], [.int 0, .ref 1], σ)) rfl <|
      mi_T.call (as := [.ref 1, .int 0]) (rest := []) (v := none) rfl rfl rfl rfl rfl (c1) <|
      mi_T.fin (k1) (fun _ => rfl)

-- AssertionGate.length()I
theorem R20_0 {X : Nat × (Nat → Int32)} {d : Nat} {r : mA mG} {σ : mG} 
    (k1 : r = (some (.int (σ.1 1 1)), σ))
    : TT X d tb20 (some .int) (0, [some (.ref 0)], [], σ) r := mi_T.go 3 (s1 := (7, [some (.ref 0)], [.int (σ.1 1 1)], σ)) rfl <|
      mi_T.fin (k1) (fun _ => rfl)

-- AssertionGate.at(I)I
theorem R21_0 {X : Nat × (Nat → Int32)} {d : Nat} {r : mA mG} {σ : mG} {x1 : Int32} {v1 : Int32} {σ1 : mG}
    (c1 : RR X d 39 [.ref 1, .int x1] σ (some (.int v1), σ1))
    (k1 : r = (some (.int v1), σ1))
    : TT X d tb21 (some .int) (0, [some (.ref 0), some (.int x1)], [], σ) r := mi_T.go 3 (s1 := (5, [some (.ref 0), some (.int x1)], [.int x1, .ref 1], σ)) rfl <|
      mi_T.call (as := [.ref 1, .int x1]) (rest := []) (v := some (.int v1)) rfl rfl rfl rfl rfl (c1) <|
      mi_T.fin (k1) (fun _ => rfl)

-- AssertionGate.elements()I
theorem R22_0 {X : Nat × (Nat → Int32)} {d : Nat} {r : mA mG} {σ : mG} {v1 : Int32} {σ1 : mG}
    (c1 : RR X d 78 [.ref 16] σ (some (.int v1), σ1))
    (k1 : r = (some (.int v1), σ1))
    : TT X d tb22 (some .int) (0, [some (.ref 0)], [], σ) r := mi_T.go 2 (s1 := (4, [some (.ref 0)], [.ref 16], σ)) rfl <|
      mi_T.call (as := [.ref 16]) (rest := []) (v := some (.int v1)) rfl rfl rfl rfl rfl (c1) <|
      mi_T.fin (k1) (fun _ => rfl)

-- AssertionGate.digest(I)I
theorem R23_0 {X : Nat × (Nat → Int32)} {d : Nat} {r : mA mG} {σ : mG} {x1 : Int32} {v1 : Int32} {σ1 : mG} {v2 : Int32} {σ2 : mG}
    (k1 : x1 < 0 → r = (some (.int (-1)), σ))
    (c1 : ¬ (x1 < 0) → RR X d 78 [.ref 16] σ (some (.int v1), σ1))
    (k2 : ¬ (x1 < 0) → v1 ≤ x1 → r = (some (.int (-1)), σ1))
    (c2 : ¬ (x1 < 0) → ¬ (v1 ≤ x1) → RR X d 86 [.ref 17, .int x1] σ1 (some (.int v2), σ2))
    (k3 : ¬ (x1 < 0) → ¬ (v1 ≤ x1) → r = (some (.int v2), σ2))
    : TT X d tb23 (some .int) (0, [some (.ref 0), some (.int x1)], [], σ) r := mi_T.go 1 (s1 := (1, [some (.ref 0), some (.int x1)], [.int x1], σ)) rfl <|
      mi_T.br (P := x1 < 0) (fun _ => rfl)
      (fun h1 => mi_T.go 1 (s1 := (27, [some (.ref 0), some (.int x1)], [.int (-1)], σ)) rfl <|
      mi_T.fin (k1 h1) (fun _ => rfl))
      (fun h1 => mi_T.go 3 (s1 := (9, [some (.ref 0), some (.int x1)], [.ref 16, .int x1], σ)) rfl <|
      mi_T.call (as := [.ref 16]) (rest := [.int x1]) (v := some (.int v1)) rfl rfl rfl rfl rfl (c1 h1) <|
      mi_T.br (P := v1 ≤ x1) (fun _ => rfl)
      (fun h2 => mi_T.go 1 (s1 := (27, [some (.ref 0), some (.int x1)], [.int (-1)], σ1)) rfl <|
      mi_T.fin (k2 h1 h2) (fun _ => rfl))
      (fun h2 => mi_T.go 3 (s1 := (20, [some (.ref 0), some (.int x1)], [.int x1, .ref 17], σ1)) rfl <|
      mi_T.call (as := [.ref 17, .int x1]) (rest := []) (v := some (.int v2)) rfl rfl rfl rfl rfl (c2 h1 h2) <|
      mi_T.go 1 (s1 := (27, [some (.ref 0), some (.int x1)], [.int v2], σ2)) rfl <|
      mi_T.fin (k3 h1 h2) (fun _ => rfl)))

-- AssertionGate.seal(II)I
theorem R24_0 {X : Nat × (Nat → Int32)} {d : Nat} {r : mA mG} {σ : mG} {x1 : Int32} {x2 : Int32} {v1 : Int32} {σ1 : mG} {v2 : Int32} {σ2 : mG}
    (c1 : RR X d 95 [.ref 18, .int x1] σ (some (.int v1), σ1))
    (k1 : v1 = 0 → r = (some (.int (-1)), σ1))
    (c2 : ¬ (v1 = 0) → RR X d 25 [.ref 0, .int x1, .int x2] σ1 (some (.int v2), σ2))
    (k2 : ¬ (v1 = 0) → r = (some (.int v2), σ2))
    : TT X d tb24 (some .int) (0, [some (.ref 0), some (.int x1), some (.int x2)], [], σ) r := mi_T.go 3 (s1 := (5, [some (.ref 0), some (.int x1), some (.int x2)], [.int x1, .ref 18], σ)) rfl <|
      mi_T.call (as := [.ref 18, .int x1]) (rest := []) (v := some (.int v1)) rfl rfl rfl rfl rfl (c1) <|
      mi_T.br (P := v1 = 0) (fun _ => rfl)
      (fun h1 => mi_T.go 1 (s1 := (21, [some (.ref 0), some (.int x1), some (.int x2)], [.int (-1)], σ1)) rfl <|
      mi_T.fin (k1 h1) (fun _ => rfl))
      (fun h1 => mi_T.go 3 (s1 := (14, [some (.ref 0), some (.int x1), some (.int x2)], [.int x2, .int x1, .ref 0], σ1)) rfl <|
      mi_T.call (as := [.ref 0, .int x1, .int x2]) (rest := []) (v := some (.int v2)) rfl rfl rfl rfl rfl (c2 h1) <|
      mi_T.go 1 (s1 := (21, [some (.ref 0), some (.int x1), some (.int x2)], [.int v2], σ2)) rfl <|
      mi_T.fin (k2 h1) (fun _ => rfl))

-- AssertionGate.sealOfRead(II)I
theorem R25_0 {X : Nat × (Nat → Int32)} {d : Nat} {r : mA mG} {σ : mG} {x1 : Int32} {x2 : Int32} {v1 : Int32} {σ1 : mG} {v2 : Int32} {σ2 : mG} {v3 : Int32} {σ3 : mG}
    (k1 : x2 < 0 → r = (some (.int (-1)), σ))
    (c1 : ¬ (x2 < 0) → RR X d 78 [.ref 16] σ (some (.int v1), σ1))
    (c2 : ¬ (x2 < 0) → x2 < v1 → RR X d 86 [.ref 17, .int x2] σ1 (some (.int v2), σ2))
    (c3 : ¬ (x2 < 0) → x2 < v1 → RR X d 96 [.ref 18, .int x1, .int v2] σ2 (some (.int v3), σ3))
    (k2 : ¬ (x2 < 0) → x2 < v1 → r = (some (.int v3), σ3))
    (k3 : ¬ (x2 < 0) → ¬ (x2 < v1) → r = (some (.int (-1)), σ1))
    : TT X d tb25 (some .int) (0, [some (.ref 0), some (.int x1), some (.int x2)], [], σ) r := mi_T.go 1 (s1 := (1, [some (.ref 0), some (.int x1), some (.int x2)], [.int x2], σ)) rfl <|
      mi_T.br (P := x2 < 0) (fun _ => rfl)
      (fun h1 => mi_T.go 1 (s1 := (16, [some (.ref 0), some (.int x1), some (.int x2)], [.int (-1)], σ)) rfl <|
      mi_T.fin (k1 h1) (fun _ => rfl))
      (fun h1 => mi_T.go 3 (s1 := (9, [some (.ref 0), some (.int x1), some (.int x2)], [.ref 16, .int x2], σ)) rfl <|
      mi_T.call (as := [.ref 16]) (rest := [.int x2]) (v := some (.int v1)) rfl rfl rfl rfl rfl (c1 h1) <|
      mi_T.br (P := x2 < v1) (fun _ => rfl)
      (fun h2 => mi_T.go 6 (s1 := (27, [some (.ref 0), some (.int x1), some (.int x2)], [.int x2, .ref 17, .int x1, .ref 18], σ1)) rfl <|
      mi_T.call (as := [.ref 17, .int x2]) (rest := [.int x1, .ref 18]) (v := some (.int v2)) rfl rfl rfl rfl rfl (c2 h1 h2) <|
      mi_T.call (as := [.ref 18, .int x1, .int v2]) (rest := []) (v := some (.int v3)) rfl rfl rfl rfl rfl (c3 h1 h2) <|
      mi_T.fin (k2 h1 h2) (fun _ => rfl))
      (fun h2 => mi_T.go 1 (s1 := (16, [some (.ref 0), some (.int x1), some (.int x2)], [.int (-1)], σ1)) rfl <|
      mi_T.fin (k3 h1 h2) (fun _ => rfl)))

-- AssertionGate.consume()I
theorem R26_0 {X : Nat × (Nat → Int32)} {d : Nat} {r : mA mG} {σ : mG} {v1 : Int32} {σ1 : mG} {v2 : Int32} {σ2 : mG} {v3 : Int32} {σ3 : mG} {v4 : Int32} {σ4 : mG} {v5 : Int32} {σ5 : mG} {v6 : Int32} {σ6 : mG}
    (c1 : RR X d 78 [.ref 16] σ (some (.int v1), σ1))
    (c2 : 0 ≤ v1 → RR X d 75 [.ref 5] σ1 (some (.int v2), σ2))
    (c3 : 0 ≤ v1 → v2 = 0 → RR X d 117 [.ref 36] σ2 (some (.int v3), σ3))
    (c4 : 0 ≤ v1 → v2 = 0 → v3 = 0 → RR X d 123 [.ref 37] σ3 (some (.int v4), σ4))
    (k1 : 0 ≤ v1 → v2 = 0 → v3 = 0 → v4 = 0 → r = (some (.int (-4)), σ4))
    (c5 : 0 ≤ v1 → v2 = 0 → v3 = 0 → ¬ (v4 = 0) → RR X d 33 [.ref 0] σ4 (some (.int v5), σ5))
    (k2 : 0 ≤ v1 → v2 = 0 → v3 = 0 → ¬ (v4 = 0) → r = (some (.int v5), σ5))
    (c6 : 0 ≤ v1 → v2 = 0 → ¬ (v3 = 0) → RR X d 30 [.ref 0] σ3 (some (.int v6), σ6))
    (k3 : 0 ≤ v1 → v2 = 0 → ¬ (v3 = 0) → r = (some (.int v6), σ6))
    (k4 : 0 ≤ v1 → ¬ (v2 = 0) → r = (some (.int (-3)), σ2))
    (k5 : ¬ (0 ≤ v1) → r = (some (.int v1), σ1))
    : TT X d tb26 (some .int) (0, [some (.ref 0), none], [], σ) r := mi_T.go 2 (s1 := (4, [some (.ref 0), none], [.ref 16], σ)) rfl <|
      mi_T.call (as := [.ref 16]) (rest := []) (v := some (.int v1)) rfl rfl rfl rfl rfl (c1) <|
      mi_T.go 2 (s1 := (9, [some (.ref 0), some (.int v1)], [.int v1], σ1)) rfl <|
      mi_T.br (P := 0 ≤ v1) (fun _ => rfl)
      (fun h1 => mi_T.go 2 (s1 := (18, [some (.ref 0), some (.int v1)], [.ref 5], σ1)) rfl <|
      mi_T.call (as := [.ref 5]) (rest := []) (v := some (.int v2)) rfl rfl rfl rfl rfl (c2 h1) <|
      mi_T.br (P := v2 = 0) (fun _ => rfl)
      (fun h2 => mi_T.go 2 (s1 := (31, [some (.ref 0), some (.int v1)], [.ref 36], σ2)) rfl <|
      mi_T.call (as := [.ref 36]) (rest := []) (v := some (.int v3)) rfl rfl rfl rfl rfl (c3 h1 h2) <|
      mi_T.br (P := v3 = 0) (fun _ => rfl)
      (fun h3 => mi_T.go 2 (s1 := (46, [some (.ref 0), some (.int v1)], [.ref 37], σ3)) rfl <|
      mi_T.call (as := [.ref 37]) (rest := []) (v := some (.int v4)) rfl rfl rfl rfl rfl (c4 h1 h2 h3) <|
      mi_T.br (P := v4 = 0) (fun _ => rfl)
      (fun h4 => mi_T.go 1 (s1 := (61, [some (.ref 0), some (.int v1)], [.int (-4)], σ4)) rfl <|
      mi_T.fin (k1 h1 h2 h3 h4) (fun _ => rfl))
      (fun h4 => mi_T.go 1 (s1 := (53, [some (.ref 0), some (.int v1)], [.ref 0], σ4)) rfl <|
      mi_T.call (as := [.ref 0]) (rest := []) (v := some (.int v5)) rfl rfl rfl rfl rfl (c5 h1 h2 h3 h4) <|
      mi_T.go 1 (s1 := (61, [some (.ref 0), some (.int v1)], [.int v5], σ5)) rfl <|
      mi_T.fin (k2 h1 h2 h3 h4) (fun _ => rfl)))
      (fun h3 => mi_T.go 1 (s1 := (38, [some (.ref 0), some (.int v1)], [.ref 0], σ3)) rfl <|
      mi_T.call (as := [.ref 0]) (rest := []) (v := some (.int v6)) rfl rfl rfl rfl rfl (c6 h1 h2 h3) <|
      mi_T.fin (k3 h1 h2 h3) (fun _ => rfl)))
      (fun h2 => mi_T.go 1 (s1 := (26, [some (.ref 0), some (.int v1)], [.int (-3)], σ2)) rfl <|
      mi_T.fin (k4 h1 h2) (fun _ => rfl)))
      (fun h1 => mi_T.go 1 (s1 := (13, [some (.ref 0), some (.int v1)], [.int v1], σ1)) rfl <|
      mi_T.fin (k5 h1) (fun _ => rfl))

-- AssertionGate.session(I)I
theorem R27_0 {X : Nat × (Nat → Int32)} {d : Nat} {r : mA mG} {σ : mG} {x1 : Int32} {v1 : Int32} {σ1 : mG}
    (c1 : RR X d 109 [.ref 27, .int x1] σ (some (.int v1), σ1))
    (k1 : r = (some (.int v1), σ1))
    : TT X d tb27 (some .int) (0, [some (.ref 0), some (.int x1)], [], σ) r := mi_T.go 3 (s1 := (5, [some (.ref 0), some (.int x1)], [.int x1, .ref 27], σ)) rfl <|
      mi_T.call (as := [.ref 27, .int x1]) (rest := []) (v := some (.int v1)) rfl rfl rfl rfl rfl (c1) <|
      mi_T.fin (k1) (fun _ => rfl)

-- AssertionGate.name(II)I
theorem R28_0 {X : Nat × (Nat → Int32)} {d : Nat} {r : mA mG} {σ : mG} {x1 : Int32} {x2 : Int32} {v1 : Int32} {σ1 : mG}
    (c1 : RR X d 113 [.ref 30, .int x1, .int x2] σ (some (.int v1), σ1))
    (k1 : r = (some (.int v1), σ1))
    : TT X d tb28 (some .int) (0, [some (.ref 0), some (.int x1), some (.int x2)], [], σ) r := mi_T.go 5 (s1 := (9, [some (.ref 0), some (.int x1), some (.int x2)], [.int x2, .int x1, .ref 30], σ)) rfl <|
      mi_T.call (as := [.ref 30, .int x1, .int x2]) (rest := []) (v := some (.int v1)) rfl rfl rfl rfl rfl (c1) <|
      mi_T.fin (k1) (fun _ => rfl)

-- AssertionGate.outstanding()I
theorem R29_0 {X : Nat × (Nat → Int32)} {d : Nat} {r : mA mG} {σ : mG} {v1 : Int32} {σ1 : mG}
    (c1 : RR X d 104 [.ref 23, .int (σ.1 0 12)] σ (some (.int v1), σ1))
    (k1 : r = (some (.int v1), σ1))
    : TT X d tb29 (some .int) (0, [some (.ref 0)], [], σ) r := mi_T.go 4 (s1 := (8, [some (.ref 0)], [.int (σ.1 0 12), .ref 23], σ)) rfl <|
      mi_T.call (as := [.ref 23, .int (σ.1 0 12)]) (rest := []) (v := some (.int v1)) rfl rfl rfl rfl rfl (c1) <|
      mi_T.fin (k1) (fun _ => rfl)

-- AssertionGate.takeResponse()I
set_option maxRecDepth 100000 in
theorem R30_0 {X : Nat × (Nat → Int32)} {d : Nat} {r : mA mG} {σ : mG} 
    (k1 : ¬ (σ.1 36 4) = (-1) → TT X d tb30 (some .int) (25, [some (.ref 0), none, none], [], σ) r)
    (k2 : ¬ (¬ (σ.1 36 4) = (-1)) → ¬ (σ.1 36 8) = (-1) → TT X d tb30 (some .int) (25, [some (.ref 0), none, none], [], σ) r)
    (k3 : ¬ (¬ (σ.1 36 4) = (-1)) → ¬ (¬ (σ.1 36 8) = (-1)) → r = (some (.int (-5)), σ))
    : TT X d tb30 (some .int) (0, [some (.ref 0), none, none], [], σ) r := mi_T.go 4 (s1 := (8, [some (.ref 0), none, none], [.int (-1), .int (σ.1 36 4)], σ)) rfl <|
      mi_T.br (P := ¬ (σ.1 36 4) = (-1)) (fun _ => rfl)
      (fun h1 => (k1 h1))
      (fun h1 => mi_T.go 4 (s1 := (19, [some (.ref 0), none, none], [.int (-1), .int (σ.1 36 8)], σ)) rfl <|
      mi_T.br (P := ¬ (σ.1 36 8) = (-1)) (fun _ => rfl)
      (fun h2 => (k2 h1 h2))
      (fun h2 => mi_T.go 1 (s1 := (24, [some (.ref 0), none, none], [.int (-5)], σ)) rfl <|
      mi_T.fin (k3 h1 h2) (fun _ => rfl)))

set_option maxRecDepth 100000 in
theorem R30_25 {X : Nat × (Nat → Int32)} {d : Nat} {r : mA mG} {σ : mG} {v1 : Int32} {σ1 : mG}
    (k1 : (σ.1 36 4) = (-1) → TT X d tb30 (some .int) (61, [some (.ref 0), none, none], [], σ) r)
    (c1 : ¬ ((σ.1 36 4) = (-1)) → RR X d 34 [.ref 0, .int (σ.1 36 4), .int 0, .int (σ.1 36 1)] σ (some (.int v1), σ1))
    (k2 : ¬ ((σ.1 36 4) = (-1)) → ¬ v1 = 0 → TT X d tb30 (some .int) (61, [some (.ref 0), none, none], [], σ1) r)
    (k3 : ¬ ((σ.1 36 4) = (-1)) → ¬ (¬ v1 = 0) → r = (some (.int (-6)), σ1))
    : TT X d tb30 (some .int) (25, [some (.ref 0), none, none], [], σ) r := mi_T.go 4 (s1 := (33, [some (.ref 0), none, none], [.int (-1), .int (σ.1 36 4)], σ)) rfl <|
      mi_T.br (P := (σ.1 36 4) = (-1)) (fun _ => rfl)
      (fun h1 => (k1 h1))
      (fun h1 => mi_T.go 8 (s1 := (52, [some (.ref 0), none, none], [.int (σ.1 36 1), .int 0, .int (σ.1 36 4), .ref 0], σ)) rfl <|
      mi_T.call (as := [.ref 0, .int (σ.1 36 4), .int 0, .int (σ.1 36 1)]) (rest := []) (v := some (.int v1)) rfl rfl rfl rfl rfl (c1 h1) <|
      mi_T.br (P := ¬ v1 = 0) (fun _ => rfl)
      (fun h2 => (k2 h1 h2))
      (fun h2 => mi_T.go 1 (s1 := (60, [some (.ref 0), none, none], [.int (-6)], σ1)) rfl <|
      mi_T.fin (k3 h1 h2) (fun _ => rfl)))

set_option maxRecDepth 100000 in
theorem R30_61 {X : Nat × (Nat → Int32)} {d : Nat} {r : mA mG} {σ : mG} {v1 : Int32} {σ1 : mG}
    (k1 : (σ.1 36 8) = (-1) → TT X d tb30 (some .int) (103, [some (.ref 0), none, none], [], σ) r)
    (c1 : ¬ ((σ.1 36 8) = (-1)) → RR X d 34 [.ref 0, .int (σ.1 36 8), .int (σ.1 36 3), .int (σ.1 36 5)] σ (some (.int v1), σ1))
    (k2 : ¬ ((σ.1 36 8) = (-1)) → ¬ v1 = 0 → TT X d tb30 (some .int) (103, [some (.ref 0), none, none], [], σ1) r)
    (k3 : ¬ ((σ.1 36 8) = (-1)) → ¬ (¬ v1 = 0) → r = (some (.int (-6)), σ1))
    : TT X d tb30 (some .int) (61, [some (.ref 0), none, none], [], σ) r := mi_T.go 4 (s1 := (69, [some (.ref 0), none, none], [.int (-1), .int (σ.1 36 8)], σ)) rfl <|
      mi_T.br (P := (σ.1 36 8) = (-1)) (fun _ => rfl)
      (fun h1 => (k1 h1))
      (fun h1 => mi_T.go 10 (s1 := (94, [some (.ref 0), none, none], [.int (σ.1 36 5), .int (σ.1 36 3), .int (σ.1 36 8), .ref 0], σ)) rfl <|
      mi_T.call (as := [.ref 0, .int (σ.1 36 8), .int (σ.1 36 3), .int (σ.1 36 5)]) (rest := []) (v := some (.int v1)) rfl rfl rfl rfl rfl (c1 h1) <|
      mi_T.br (P := ¬ v1 = 0) (fun _ => rfl)
      (fun h2 => (k2 h1 h2))
      (fun h2 => mi_T.go 1 (s1 := (102, [some (.ref 0), none, none], [.int (-6)], σ1)) rfl <|
      mi_T.fin (k3 h1 h2) (fun _ => rfl)))

set_option maxRecDepth 100000 in
theorem R30_103 {X : Nat × (Nat → Int32)} {d : Nat} {r : mA mG} {σ : mG} {v1 : Int32} {σ1 : mG} {v2 : Int32} {σ2 : mG} {v3 : Int32} {σ3 : mG} {σ4 : mG} {v4 : Int32} {σ5 : mG} {σ6 : mG} {v5 : Int32} {σ7 : mG} {v6 : Int32} {σ8 : mG} {v7 : Int32} {σ9 : mG}
    (c1 : RR X d 64 [.ref 5, .int (σ.1 36 1), .int (σ.1 36 5)] σ (some (.int v1), σ1))
    (c2 : ¬ v1 = 0 → RR X d 35 [.ref 0, .int (σ1.1 36 1)] σ1 (some (.int v2), σ2))
    (c3 : ¬ v1 = 0 → RR X d 31 [.ref 0, .int v2] σ2 (some (.int v3), σ3))
    (c4 : ¬ v1 = 0 → v3 = 0 → RR X d 37 [.ref 0, .int (σ3.1 36 3)] σ3 (none, σ4))
    (c5 : ¬ v1 = 0 → v3 = 0 → RR X d 74 [.ref 5, .int 0, .ref 1049] σ4 (some (.int v4), σ5))
    (c6 : ¬ v1 = 0 → v3 = 0 → RR X d 103 [.ref 23, .int v4] σ5 (none, σ6))
    (c7 : ¬ v1 = 0 → v3 = 0 → RR X d 60 [.ref 5, .int (σ6.1 36 9)] σ6 (some (.int v5), σ7))
    (c8 : ¬ v1 = 0 → v3 = 0 → RR X d 61 [.ref 5, .int (σ7.1 36 9)] σ7 (some (.int v6), σ8))
    (c9 : ¬ v1 = 0 → v3 = 0 → RR X d 107 [.ref 27, .int v2, .ref 1, .int v5, .int v6] σ8 (some (.int v7), σ9))
    (k1 : ¬ v1 = 0 → v3 = 0 → r = (some (.int v7), σ9))
    (k2 : ¬ v1 = 0 → ¬ (v3 = 0) → r = (some (.int v3), σ3))
    (k3 : ¬ (¬ v1 = 0) → r = (some (.int (-7)), σ1))
    : TT X d tb30 (some .int) (103, [some (.ref 0), none, none], [], σ) r := mi_T.go 8 (s1 := (121, [some (.ref 0), none, none], [.int (σ.1 36 5), .int (σ.1 36 1), .ref 5], σ)) rfl <|
      mi_T.call (as := [.ref 5, .int (σ.1 36 1), .int (σ.1 36 5)]) (rest := []) (v := some (.int v1)) rfl rfl rfl rfl rfl (c1) <|
      mi_T.br (P := ¬ v1 = 0) (fun _ => rfl)
      (fun h1 => mi_T.go 4 (s1 := (138, [some (.ref 0), none, none], [.int (σ1.1 36 1), .ref 0], σ1)) rfl <|
      mi_T.call (as := [.ref 0, .int (σ1.1 36 1)]) (rest := []) (v := some (.int v2)) rfl rfl rfl rfl rfl (c2 h1) <|
      mi_T.go 3 (s1 := (144, [some (.ref 0), some (.int v2), none], [.int v2, .ref 0], σ2)) rfl <|
      mi_T.call (as := [.ref 0, .int v2]) (rest := []) (v := some (.int v3)) rfl rfl rfl rfl rfl (c3 h1) <|
      mi_T.go 2 (s1 := (149, [some (.ref 0), some (.int v2), some (.int v3)], [.int v3], σ3)) rfl <|
      mi_T.br (P := v3 = 0) (fun _ => rfl)
      (fun h2 => mi_T.go 4 (s1 := (162, [some (.ref 0), some (.int v2), some (.int v3)], [.int (σ3.1 36 3), .ref 0], σ3)) rfl <|
      mi_T.call (as := [.ref 0, .int (σ3.1 36 3)]) (rest := []) (v := none) rfl rfl rfl rfl rfl (c4 h1 h2) <|
      mi_T.go 6 (s1 := (177, [some (.ref 0), some (.int v2), some (.int v3)], [.ref 1049, .int 0, .ref 5, .ref 23], σ4)) rfl <|
      mi_T.call (as := [.ref 5, .int 0, .ref 1049]) (rest := [.ref 23]) (v := some (.int v4)) rfl rfl rfl rfl rfl (c5 h1 h2) <|
      mi_T.call (as := [.ref 23, .int v4]) (rest := []) (v := none) rfl rfl rfl rfl rfl (c6 h1 h2) <|
      mi_T.go 10 (s1 := (203, [some (.ref 0), some (.int v2), some (.int v3)], [.int (σ6.1 36 9), .ref 5, .ref 1, .int v2, .ref 27], σ6)) rfl <|
      mi_T.call (as := [.ref 5, .int (σ6.1 36 9)]) (rest := [.ref 1, .int v2, .ref 27]) (v := some (.int v5)) rfl rfl rfl rfl rfl (c7 h1 h2) <|
      mi_T.go 5 (s1 := (217, [some (.ref 0), some (.int v2), some (.int v3)], [.int (σ7.1 36 9), .ref 5, .int v5, .ref 1, .int v2, .ref 27], σ7)) rfl <|
      mi_T.call (as := [.ref 5, .int (σ7.1 36 9)]) (rest := [.int v5, .ref 1, .int v2, .ref 27]) (v := some (.int v6)) rfl rfl rfl rfl rfl (c8 h1 h2) <|
      mi_T.call (as := [.ref 27, .int v2, .ref 1, .int v5, .int v6]) (rest := []) (v := some (.int v7)) rfl rfl rfl rfl rfl (c9 h1 h2) <|
      mi_T.fin (k1 h1 h2) (fun _ => rfl))
      (fun h2 => mi_T.go 1 (s1 := (153, [some (.ref 0), some (.int v2), some (.int v3)], [.int v3], σ3)) rfl <|
      mi_T.fin (k2 h1 h2) (fun _ => rfl)))
      (fun h1 => mi_T.go 1 (s1 := (129, [some (.ref 0), none, none], [.int (-7)], σ1)) rfl <|
      mi_T.fin (k3 h1) (fun _ => rfl))

-- AssertionGate.faultOfTerms(I)I
set_option maxRecDepth 100000 in
theorem R31_0 {X : Nat × (Nat → Int32)} {d : Nat} {r : mA mG} {σ : mG} {x1 : Int32} {v1 : Int32} {σ1 : mG} {v2 : Int32} {σ2 : mG} {v3 : Int32} {σ3 : mG} {v4 : Int32} {σ4 : mG} {v5 : Int32} {σ5 : mG} {v6 : Int32} {σ6 : mG} {v7 : Int32} {σ7 : mG} {v8 : Int32} {σ8 : mG} {v9 : Int32} {σ9 : mG} {v10 : Int32} {σ10 : mG} {v11 : Int32} {σ11 : mG} {v12 : Int32} {σ12 : mG} {v13 : Int32} {σ13 : mG}
    (c1 : RR X d 69 [.ref 5, .int 0, .ref 1046, .ref 1047] σ (some (.int v1), σ1))
    (c2 : ¬ v1 = 0 → RR X d 63 [.ref 5, .int (σ1.1 36 2), .ref 1048] σ1 (some (.int v2), σ2))
    (c3 : ¬ v1 = 0 → ¬ v2 = 0 → RR X d 74 [.ref 5, .int 0, .ref 1049] σ2 (some (.int v3), σ3))
    (c4 : ¬ v1 = 0 → ¬ v2 = 0 → RR X d 102 [.ref 23, .int v3, .int x1, .int (σ3.1 0 12)] σ3 (some (.int v4), σ4))
    (c5 : ¬ v1 = 0 → ¬ v2 = 0 → ¬ v4 = 0 → RR X d 69 [.ref 5, .int (σ4.1 36 6), .ref 1050, .ref 1051] σ4 (some (.int v5), σ5))
    (c6 : ¬ v1 = 0 → ¬ v2 = 0 → ¬ v4 = 0 → ¬ v5 = 0 → RR X d 74 [.ref 5, .int (σ5.1 36 6), .ref 1052] σ5 (some (.int v6), σ6))
    (k1 : ¬ v1 = 0 → ¬ v2 = 0 → ¬ v4 = 0 → ¬ v5 = 0 → ((σ6.1 0 12) + (σ6.1 0 11)) < v6 → r = (some (.int (-12)), σ6))
    (c7 : ¬ v1 = 0 → ¬ v2 = 0 → ¬ v4 = 0 → ¬ v5 = 0 → ¬ (((σ6.1 0 12) + (σ6.1 0 11)) < v6) → RR X d 32 [.ref 0, .int (σ6.1 36 6)] σ6 (some (.int v7), σ7))
    (c8 : ¬ v1 = 0 → ¬ v2 = 0 → ¬ v4 = 0 → ¬ v5 = 0 → ¬ (((σ6.1 0 12) + (σ6.1 0 11)) < v6) → v7 = 0 → RR X d 69 [.ref 5, .int (σ7.1 36 10), .ref 1054, .ref 1047] σ7 (some (.int v8), σ8))
    (k2 : ¬ v1 = 0 → ¬ v2 = 0 → ¬ v4 = 0 → ¬ v5 = 0 → ¬ (((σ6.1 0 12) + (σ6.1 0 11)) < v6) → v7 = 0 → v8 = 0 → r = (some (.int (-13)), σ8))
    (c9 : ¬ v1 = 0 → ¬ v2 = 0 → ¬ v4 = 0 → ¬ v5 = 0 → ¬ (((σ6.1 0 12) + (σ6.1 0 11)) < v6) → v7 = 0 → ¬ (v8 = 0) → RR X d 71 [.ref 5, .int (σ8.1 36 10), .int 0, .ref 1049] σ8 (some (.int v9), σ9))
    (k3 : ¬ v1 = 0 → ¬ v2 = 0 → ¬ v4 = 0 → ¬ v5 = 0 → ¬ (((σ6.1 0 12) + (σ6.1 0 11)) < v6) → v7 = 0 → ¬ (v8 = 0) → v9 = 0 → r = (some (.int (-13)), σ9))
    (c10 : ¬ v1 = 0 → ¬ v2 = 0 → ¬ v4 = 0 → ¬ v5 = 0 → ¬ (((σ6.1 0 12) + (σ6.1 0 11)) < v6) → v7 = 0 → ¬ (v8 = 0) → ¬ (v9 = 0) → RR X d 32 [.ref 0, .int (σ9.1 36 10)] σ9 (some (.int v10), σ10))
    (c11 : ¬ v1 = 0 → ¬ v2 = 0 → ¬ v4 = 0 → ¬ v5 = 0 → ¬ (((σ6.1 0 12) + (σ6.1 0 11)) < v6) → v7 = 0 → ¬ (v8 = 0) → ¬ (v9 = 0) → v10 = 0 → RR X d 36 [.ref 0, .int (σ10.1 36 3)] σ10 (some (.int v11), σ11))
    (c12 : ¬ v1 = 0 → ¬ v2 = 0 → ¬ v4 = 0 → ¬ v5 = 0 → ¬ (((σ6.1 0 12) + (σ6.1 0 11)) < v6) → v7 = 0 → ¬ (v8 = 0) → ¬ (v9 = 0) → v10 = 0 → v11 = 0 → RR X d 106 [.ref 27] σ11 (some (.int v12), σ12))
    (k4 : ¬ v1 = 0 → ¬ v2 = 0 → ¬ v4 = 0 → ¬ v5 = 0 → ¬ (((σ6.1 0 12) + (σ6.1 0 11)) < v6) → v7 = 0 → ¬ (v8 = 0) → ¬ (v9 = 0) → v10 = 0 → v11 = 0 → ¬ v12 = 0 → r = (some (.int (-15)), σ12))
    (c13 : ¬ v1 = 0 → ¬ v2 = 0 → ¬ v4 = 0 → ¬ v5 = 0 → ¬ (((σ6.1 0 12) + (σ6.1 0 11)) < v6) → v7 = 0 → ¬ (v8 = 0) → ¬ (v9 = 0) → v10 = 0 → v11 = 0 → ¬ (¬ v12 = 0) → RR X d 111 [.ref 33] σ12 (some (.int v13), σ13))
    (k5 : ¬ v1 = 0 → ¬ v2 = 0 → ¬ v4 = 0 → ¬ v5 = 0 → ¬ (((σ6.1 0 12) + (σ6.1 0 11)) < v6) → v7 = 0 → ¬ (v8 = 0) → ¬ (v9 = 0) → v10 = 0 → v11 = 0 → ¬ (¬ v12 = 0) → v13 = 0 → r = (some (.int 0), σ13))
    (k6 : ¬ v1 = 0 → ¬ v2 = 0 → ¬ v4 = 0 → ¬ v5 = 0 → ¬ (((σ6.1 0 12) + (σ6.1 0 11)) < v6) → v7 = 0 → ¬ (v8 = 0) → ¬ (v9 = 0) → v10 = 0 → v11 = 0 → ¬ (¬ v12 = 0) → ¬ (v13 = 0) → r = (some (.int (-15)), σ13))
    (k7 : ¬ v1 = 0 → ¬ v2 = 0 → ¬ v4 = 0 → ¬ v5 = 0 → ¬ (((σ6.1 0 12) + (σ6.1 0 11)) < v6) → v7 = 0 → ¬ (v8 = 0) → ¬ (v9 = 0) → v10 = 0 → ¬ (v11 = 0) → r = (some (.int (-14)), σ11))
    (k8 : ¬ v1 = 0 → ¬ v2 = 0 → ¬ v4 = 0 → ¬ v5 = 0 → ¬ (((σ6.1 0 12) + (σ6.1 0 11)) < v6) → v7 = 0 → ¬ (v8 = 0) → ¬ (v9 = 0) → ¬ (v10 = 0) → r = (some (.int (-13)), σ10))
    (k9 : ¬ v1 = 0 → ¬ v2 = 0 → ¬ v4 = 0 → ¬ v5 = 0 → ¬ (((σ6.1 0 12) + (σ6.1 0 11)) < v6) → ¬ (v7 = 0) → r = (some (.int (-12)), σ7))
    (k10 : ¬ v1 = 0 → ¬ v2 = 0 → ¬ v4 = 0 → ¬ (¬ v5 = 0) → r = (some (.int (-11)), σ5))
    (k11 : ¬ v1 = 0 → ¬ v2 = 0 → ¬ (¬ v4 = 0) → r = (some (.int (-10)), σ4))
    (k12 : ¬ v1 = 0 → ¬ (¬ v2 = 0) → r = (some (.int (-9)), σ2))
    (k13 : ¬ (¬ v1 = 0) → r = (some (.int (-8)), σ1))
    : TT X d tb31 (some .int) (0, [some (.ref 0), some (.int x1)], [], σ) r := mi_T.go 5 (s1 := (11, [some (.ref 0), some (.int x1)], [.ref 1047, .ref 1046, .int 0, .ref 5], σ)) rfl <|
      mi_T.call (as := [.ref 5, .int 0, .ref 1046, .ref 1047]) (rest := []) (v := some (.int v1)) rfl rfl rfl rfl rfl (c1) <|
      mi_T.br (P := ¬ v1 = 0) (fun _ => rfl)
      (fun h1 => mi_T.go 6 (s1 := (34, [some (.ref 0), some (.int x1)], [.ref 1048, .int (σ1.1 36 2), .ref 5], σ1)) rfl <|
      mi_T.call (as := [.ref 5, .int (σ1.1 36 2), .ref 1048]) (rest := []) (v := some (.int v2)) rfl rfl rfl rfl rfl (c2 h1) <|
      mi_T.br (P := ¬ v2 = 0) (fun _ => rfl)
      (fun h2 => mi_T.go 6 (s1 := (55, [some (.ref 0), some (.int x1)], [.ref 1049, .int 0, .ref 5, .ref 23], σ2)) rfl <|
      mi_T.call (as := [.ref 5, .int 0, .ref 1049]) (rest := [.ref 23]) (v := some (.int v3)) rfl rfl rfl rfl rfl (c3 h1 h2) <|
      mi_T.go 3 (s1 := (63, [some (.ref 0), some (.int x1)], [.int (σ3.1 0 12), .int x1, .int v3, .ref 23], σ3)) rfl <|
      mi_T.call (as := [.ref 23, .int v3, .int x1, .int (σ3.1 0 12)]) (rest := []) (v := some (.int v4)) rfl rfl rfl rfl rfl (c4 h1 h2) <|
      mi_T.br (P := ¬ v4 = 0) (fun _ => rfl)
      (fun h3 => mi_T.go 7 (s1 := (89, [some (.ref 0), some (.int x1)], [.ref 1051, .ref 1050, .int (σ4.1 36 6), .ref 5], σ4)) rfl <|
      mi_T.call (as := [.ref 5, .int (σ4.1 36 6), .ref 1050, .ref 1051]) (rest := []) (v := some (.int v5)) rfl rfl rfl rfl rfl (c5 h1 h2 h3) <|
      mi_T.br (P := ¬ v5 = 0) (fun _ => rfl)
      (fun h4 => mi_T.go 6 (s1 := (112, [some (.ref 0), some (.int x1)], [.ref 1052, .int (σ5.1 36 6), .ref 5], σ5)) rfl <|
      mi_T.call (as := [.ref 5, .int (σ5.1 36 6), .ref 1052]) (rest := []) (v := some (.int v6)) rfl rfl rfl rfl rfl (c6 h1 h2 h3 h4) <|
      mi_T.go 5 (s1 := (124, [some (.ref 0), some (.int x1)], [.int ((σ6.1 0 12) + (σ6.1 0 11)), .int v6], σ6)) rfl <|
      mi_T.br (P := ((σ6.1 0 12) + (σ6.1 0 11)) < v6) (fun _ => rfl)
      (fun h5 => mi_T.go 1 (s1 := (143, [some (.ref 0), some (.int x1)], [.int (-12)], σ6)) rfl <|
      mi_T.fin (k1 h1 h2 h3 h4 h5) (fun _ => rfl))
      (fun h5 => mi_T.go 4 (s1 := (135, [some (.ref 0), some (.int x1)], [.int (σ6.1 36 6), .ref 0], σ6)) rfl <|
      mi_T.call (as := [.ref 0, .int (σ6.1 36 6)]) (rest := []) (v := some (.int v7)) rfl rfl rfl rfl rfl (c7 h1 h2 h3 h4 h5) <|
      mi_T.br (P := v7 = 0) (fun _ => rfl)
      (fun h6 => mi_T.go 7 (s1 := (161, [some (.ref 0), some (.int x1)], [.ref 1047, .ref 1054, .int (σ7.1 36 10), .ref 5], σ7)) rfl <|
      mi_T.call (as := [.ref 5, .int (σ7.1 36 10), .ref 1054, .ref 1047]) (rest := []) (v := some (.int v8)) rfl rfl rfl rfl rfl (c8 h1 h2 h3 h4 h5 h6) <|
      mi_T.br (P := v8 = 0) (fun _ => rfl)
      (fun h7 => mi_T.go 1 (s1 := (204, [some (.ref 0), some (.int x1)], [.int (-13)], σ8)) rfl <|
      mi_T.fin (k2 h1 h2 h3 h4 h5 h6 h7) (fun _ => rfl))
      (fun h7 => mi_T.go 7 (s1 := (182, [some (.ref 0), some (.int x1)], [.ref 1049, .int 0, .int (σ8.1 36 10), .ref 5], σ8)) rfl <|
      mi_T.call (as := [.ref 5, .int (σ8.1 36 10), .int 0, .ref 1049]) (rest := []) (v := some (.int v9)) rfl rfl rfl rfl rfl (c9 h1 h2 h3 h4 h5 h6 h7) <|
      mi_T.br (P := v9 = 0) (fun _ => rfl)
      (fun h8 => mi_T.go 1 (s1 := (204, [some (.ref 0), some (.int x1)], [.int (-13)], σ9)) rfl <|
      mi_T.fin (k3 h1 h2 h3 h4 h5 h6 h7 h8) (fun _ => rfl))
      (fun h8 => mi_T.go 4 (s1 := (196, [some (.ref 0), some (.int x1)], [.int (σ9.1 36 10), .ref 0], σ9)) rfl <|
      mi_T.call (as := [.ref 0, .int (σ9.1 36 10)]) (rest := []) (v := some (.int v10)) rfl rfl rfl rfl rfl (c10 h1 h2 h3 h4 h5 h6 h7 h8) <|
      mi_T.br (P := v10 = 0) (fun _ => rfl)
      (fun h9 => mi_T.go 4 (s1 := (213, [some (.ref 0), some (.int x1)], [.int (σ10.1 36 3), .ref 0], σ10)) rfl <|
      mi_T.call (as := [.ref 0, .int (σ10.1 36 3)]) (rest := []) (v := some (.int v11)) rfl rfl rfl rfl rfl (c11 h1 h2 h3 h4 h5 h6 h7 h8 h9) <|
      mi_T.br (P := v11 = 0) (fun _ => rfl)
      (fun h10 => mi_T.go 2 (s1 := (226, [some (.ref 0), some (.int x1)], [.ref 27], σ11)) rfl <|
      mi_T.call (as := [.ref 27]) (rest := []) (v := some (.int v12)) rfl rfl rfl rfl rfl (c12 h1 h2 h3 h4 h5 h6 h7 h8 h9 h10) <|
      mi_T.br (P := ¬ v12 = 0) (fun _ => rfl)
      (fun h11 => mi_T.go 2 (s1 := (248, [some (.ref 0), some (.int x1)], [.int (-15)], σ12)) rfl <|
      mi_T.fin (k4 h1 h2 h3 h4 h5 h6 h7 h8 h9 h10 h11) (fun _ => rfl))
      (fun h11 => mi_T.go 2 (s1 := (236, [some (.ref 0), some (.int x1)], [.ref 33], σ12)) rfl <|
      mi_T.call (as := [.ref 33]) (rest := []) (v := some (.int v13)) rfl rfl rfl rfl rfl (c13 h1 h2 h3 h4 h5 h6 h7 h8 h9 h10 h11) <|
      mi_T.br (P := v13 = 0) (fun _ => rfl)
      (fun h12 => mi_T.go 1 (s1 := (248, [some (.ref 0), some (.int x1)], [.int 0], σ13)) rfl <|
      mi_T.fin (k5 h1 h2 h3 h4 h5 h6 h7 h8 h9 h10 h11 h12) (fun _ => rfl))
      (fun h12 => mi_T.go 2 (s1 := (248, [some (.ref 0), some (.int x1)], [.int (-15)], σ13)) rfl <|
      mi_T.fin (k6 h1 h2 h3 h4 h5 h6 h7 h8 h9 h10 h11 h12) (fun _ => rfl))))
      (fun h10 => mi_T.go 1 (s1 := (221, [some (.ref 0), some (.int x1)], [.int (-14)], σ11)) rfl <|
      mi_T.fin (k7 h1 h2 h3 h4 h5 h6 h7 h8 h9 h10) (fun _ => rfl)))
      (fun h9 => mi_T.go 1 (s1 := (204, [some (.ref 0), some (.int x1)], [.int (-13)], σ10)) rfl <|
      mi_T.fin (k8 h1 h2 h3 h4 h5 h6 h7 h8 h9) (fun _ => rfl)))))
      (fun h6 => mi_T.go 1 (s1 := (143, [some (.ref 0), some (.int x1)], [.int (-12)], σ7)) rfl <|
      mi_T.fin (k9 h1 h2 h3 h4 h5 h6) (fun _ => rfl))))
      (fun h4 => mi_T.go 1 (s1 := (97, [some (.ref 0), some (.int x1)], [.int (-11)], σ5)) rfl <|
      mi_T.fin (k10 h1 h2 h3 h4) (fun _ => rfl)))
      (fun h3 => mi_T.go 1 (s1 := (71, [some (.ref 0), some (.int x1)], [.int (-10)], σ4)) rfl <|
      mi_T.fin (k11 h1 h2 h3) (fun _ => rfl)))
      (fun h2 => mi_T.go 1 (s1 := (42, [some (.ref 0), some (.int x1)], [.int (-9)], σ2)) rfl <|
      mi_T.fin (k12 h1 h2) (fun _ => rfl)))
      (fun h1 => mi_T.go 1 (s1 := (19, [some (.ref 0), some (.int x1)], [.int (-8)], σ1)) rfl <|
      mi_T.fin (k13 h1) (fun _ => rfl))

-- AssertionGate.hasRunOut(I)Z
theorem R32_0 {X : Nat × (Nat → Int32)} {d : Nat} {r : mA mG} {σ : mG} {x1 : Int32} {v1 : Int32} {σ1 : mG}
    (c1 : RR X d 74 [.ref 5, .int x1, .ref 1053] σ (some (.int v1), σ1))
    (k1 : ((σ1.1 0 12) - (σ1.1 0 11)) < v1 → r = (some (.int 0), σ1))
    (k2 : ¬ (((σ1.1 0 12) - (σ1.1 0 11)) < v1) → r = (some (.int 1), σ1))
    : TT X d tb32 (some .boolean) (0, [some (.ref 0), some (.int x1)], [], σ) r := mi_T.go 4 (s1 := (8, [some (.ref 0), some (.int x1)], [.ref 1053, .int x1, .ref 5], σ)) rfl <|
      mi_T.call (as := [.ref 5, .int x1, .ref 1053]) (rest := []) (v := some (.int v1)) rfl rfl rfl rfl rfl (c1) <|
      mi_T.go 5 (s1 := (20, [some (.ref 0), some (.int x1)], [.int ((σ1.1 0 12) - (σ1.1 0 11)), .int v1], σ1)) rfl <|
      mi_T.br (P := ((σ1.1 0 12) - (σ1.1 0 11)) < v1) (fun _ => rfl)
      (fun h1 => mi_T.go 1 (s1 := (28, [some (.ref 0), some (.int x1)], [.int 0], σ1)) rfl <|
      mi_T.fin (k1 h1) (fun _ => rfl))
      (fun h1 => mi_T.go 2 (s1 := (28, [some (.ref 0), some (.int x1)], [.int 1], σ1)) rfl <|
      mi_T.fin (k2 h1) (fun _ => rfl))

-- AssertionGate.takeLogout()I
theorem R33_0 {X : Nat × (Nat → Int32)} {d : Nat} {r : mA mG} {σ : mG} {v1 : Int32} {σ1 : mG} {v2 : Int32} {σ2 : mG} {v3 : Int32} {σ3 : mG} {v4 : Int32} {σ4 : mG} {σ5 : mG} {v5 : Int32} {σ6 : mG} {v6 : Int32} {σ7 : mG} {v7 : Int32} {σ8 : mG} {v8 : Int32} {σ9 : mG}
    (c1 : ¬ (σ.1 37 3) = (-1) → RR X d 34 [.ref 0, .int (σ.1 37 3), .int 0, .int (σ.1 37 1)] σ (some (.int v1), σ1))
    (c2 : ¬ (σ.1 37 3) = (-1) → ¬ v1 = 0 → RR X d 69 [.ref 5, .int 0, .ref 1046, .ref 1047] σ1 (some (.int v2), σ2))
    (c3 : ¬ (σ.1 37 3) = (-1) → ¬ v1 = 0 → ¬ v2 = 0 → RR X d 36 [.ref 0, .int 0] σ2 (some (.int v3), σ3))
    (c4 : ¬ (σ.1 37 3) = (-1) → ¬ v1 = 0 → ¬ v2 = 0 → v3 = 0 → RR X d 111 [.ref 33] σ3 (some (.int v4), σ4))
    (c5 : ¬ (σ.1 37 3) = (-1) → ¬ v1 = 0 → ¬ v2 = 0 → v3 = 0 → v4 = 0 → RR X d 37 [.ref 0, .int 0] σ4 (none, σ5))
    (c6 : ¬ (σ.1 37 3) = (-1) → ¬ v1 = 0 → ¬ v2 = 0 → v3 = 0 → v4 = 0 → RR X d 35 [.ref 0, .int (σ5.1 37 1)] σ5 (some (.int v5), σ6))
    (c7 : ¬ (σ.1 37 3) = (-1) → ¬ v1 = 0 → ¬ v2 = 0 → v3 = 0 → v4 = 0 → RR X d 60 [.ref 5, .int (σ6.1 37 2)] σ6 (some (.int v6), σ7))
    (c8 : ¬ (σ.1 37 3) = (-1) → ¬ v1 = 0 → ¬ v2 = 0 → v3 = 0 → v4 = 0 → RR X d 61 [.ref 5, .int (σ7.1 37 2)] σ7 (some (.int v7), σ8))
    (c9 : ¬ (σ.1 37 3) = (-1) → ¬ v1 = 0 → ¬ v2 = 0 → v3 = 0 → v4 = 0 → RR X d 108 [.ref 27, .int v5, .ref 1, .int v6, .int v7] σ8 (some (.int v8), σ9))
    (k1 : ¬ (σ.1 37 3) = (-1) → ¬ v1 = 0 → ¬ v2 = 0 → v3 = 0 → v4 = 0 → r = (some (.int (100 + v8)), σ9))
    (k2 : ¬ (σ.1 37 3) = (-1) → ¬ v1 = 0 → ¬ v2 = 0 → v3 = 0 → ¬ (v4 = 0) → r = (some (.int (-15)), σ4))
    (k3 : ¬ (σ.1 37 3) = (-1) → ¬ v1 = 0 → ¬ v2 = 0 → ¬ (v3 = 0) → r = (some (.int (-14)), σ3))
    (k4 : ¬ (σ.1 37 3) = (-1) → ¬ v1 = 0 → ¬ (¬ v2 = 0) → r = (some (.int (-8)), σ2))
    (k5 : ¬ (σ.1 37 3) = (-1) → ¬ (¬ v1 = 0) → r = (some (.int (-6)), σ1))
    (k6 : ¬ (¬ (σ.1 37 3) = (-1)) → r = (some (.int (-5)), σ))
    : TT X d tb33 (some .int) (0, [some (.ref 0), none, none], [], σ) r := mi_T.go 4 (s1 := (8, [some (.ref 0), none, none], [.int (-1), .int (σ.1 37 3)], σ)) rfl <|
      mi_T.br (P := ¬ (σ.1 37 3) = (-1)) (fun _ => rfl)
      (fun h1 => mi_T.go 8 (s1 := (30, [some (.ref 0), none, none], [.int (σ.1 37 1), .int 0, .int (σ.1 37 3), .ref 0], σ)) rfl <|
      mi_T.call (as := [.ref 0, .int (σ.1 37 3), .int 0, .int (σ.1 37 1)]) (rest := []) (v := some (.int v1)) rfl rfl rfl rfl rfl (c1 h1) <|
      mi_T.br (P := ¬ v1 = 0) (fun _ => rfl)
      (fun h2 => mi_T.go 5 (s1 := (50, [some (.ref 0), none, none], [.ref 1047, .ref 1046, .int 0, .ref 5], σ1)) rfl <|
      mi_T.call (as := [.ref 5, .int 0, .ref 1046, .ref 1047]) (rest := []) (v := some (.int v2)) rfl rfl rfl rfl rfl (c2 h1 h2) <|
      mi_T.br (P := ¬ v2 = 0) (fun _ => rfl)
      (fun h3 => mi_T.go 2 (s1 := (61, [some (.ref 0), none, none], [.int 0, .ref 0], σ2)) rfl <|
      mi_T.call (as := [.ref 0, .int 0]) (rest := []) (v := some (.int v3)) rfl rfl rfl rfl rfl (c3 h1 h2 h3) <|
      mi_T.br (P := v3 = 0) (fun _ => rfl)
      (fun h4 => mi_T.go 2 (s1 := (74, [some (.ref 0), none, none], [.ref 33], σ3)) rfl <|
      mi_T.call (as := [.ref 33]) (rest := []) (v := some (.int v4)) rfl rfl rfl rfl rfl (c4 h1 h2 h3 h4) <|
      mi_T.br (P := v4 = 0) (fun _ => rfl)
      (fun h5 => mi_T.go 2 (s1 := (85, [some (.ref 0), none, none], [.int 0, .ref 0], σ4)) rfl <|
      mi_T.call (as := [.ref 0, .int 0]) (rest := []) (v := none) rfl rfl rfl rfl rfl (c5 h1 h2 h3 h4 h5) <|
      mi_T.go 4 (s1 := (96, [some (.ref 0), none, none], [.int (σ5.1 37 1), .ref 0], σ5)) rfl <|
      mi_T.call (as := [.ref 0, .int (σ5.1 37 1)]) (rest := []) (v := some (.int v5)) rfl rfl rfl rfl rfl (c6 h1 h2 h3 h4 h5) <|
      mi_T.go 6 (s1 := (111, [some (.ref 0), some (.int v5), none], [.int (σ6.1 37 2), .ref 5], σ6)) rfl <|
      mi_T.call (as := [.ref 5, .int (σ6.1 37 2)]) (rest := []) (v := some (.int v6)) rfl rfl rfl rfl rfl (c7 h1 h2 h3 h4 h5) <|
      mi_T.go 13 (s1 := (138, [some (.ref 0), some (.int v5), some (.int v6)], [.int (σ7.1 37 2), .ref 5, .int v6, .ref 1, .int v5, .ref 27, .int 100], σ7)) rfl <|
      mi_T.call (as := [.ref 5, .int (σ7.1 37 2)]) (rest := [.int v6, .ref 1, .int v5, .ref 27, .int 100]) (v := some (.int v7)) rfl rfl rfl rfl rfl (c8 h1 h2 h3 h4 h5) <|
      mi_T.call (as := [.ref 27, .int v5, .ref 1, .int v6, .int v7]) (rest := [.int 100]) (v := some (.int v8)) rfl rfl rfl rfl rfl (c9 h1 h2 h3 h4 h5) <|
      mi_T.go 1 (s1 := (145, [some (.ref 0), some (.int v5), some (.int v6)], [.int (100 + v8)], σ9)) rfl <|
      mi_T.fin (k1 h1 h2 h3 h4 h5) (fun _ => rfl))
      (fun h5 => mi_T.go 1 (s1 := (82, [some (.ref 0), none, none], [.int (-15)], σ4)) rfl <|
      mi_T.fin (k2 h1 h2 h3 h4 h5) (fun _ => rfl)))
      (fun h4 => mi_T.go 1 (s1 := (69, [some (.ref 0), none, none], [.int (-14)], σ3)) rfl <|
      mi_T.fin (k3 h1 h2 h3 h4) (fun _ => rfl)))
      (fun h3 => mi_T.go 1 (s1 := (58, [some (.ref 0), none, none], [.int (-8)], σ2)) rfl <|
      mi_T.fin (k4 h1 h2 h3) (fun _ => rfl)))
      (fun h2 => mi_T.go 1 (s1 := (38, [some (.ref 0), none, none], [.int (-6)], σ1)) rfl <|
      mi_T.fin (k5 h1 h2) (fun _ => rfl)))
      (fun h1 => mi_T.go 1 (s1 := (13, [some (.ref 0), none, none], [.int (-5)], σ)) rfl <|
      mi_T.fin (k6 h1) (fun _ => rfl))

-- AssertionGate.isValid(III)Z
theorem R34_0 {X : Nat × (Nat → Int32)} {d : Nat} {r : mA mG} {σ : mG} {x1 : Int32} {x2 : Int32} {x3 : Int32} {v1 : Int32} {σ1 : mG} {v2 : Int32} {σ2 : mG} {v3 : Int32} {σ3 : mG} {v4 : Int32} {σ4 : mG} {v5 : Int32} {σ5 : mG} {v6 : Int32} {σ6 : mG} {v7 : Int32} {σ7 : mG}
    (c1 : RR X d 35 [.ref 0, .int x3] σ (some (.int v1), σ1))
    (k1 : v1 = (-1) → r = (some (.int 0), σ1))
    (c2 : ¬ (v1 = (-1)) → RR X d 65 [.ref 5, .int x1, .ref 1043] σ1 (some (.int v2), σ2))
    (c3 : ¬ (v1 = (-1)) → RR X d 65 [.ref 5, .int x2, .ref 1044] σ2 (some (.int v3), σ3))
    (c4 : ¬ (v1 = (-1)) → RR X d 70 [.ref 5, .int v2, .int v3] σ3 (some (.int v4), σ4))
    (c5 : ¬ (v1 = (-1)) → ¬ v4 = 0 → RR X d 74 [.ref 5, .int x1, .ref 1045] σ4 (some (.int v5), σ5))
    (c6 : ¬ (v1 = (-1)) → ¬ v4 = 0 → RR X d 86 [.ref 17, .int x2] σ5 (some (.int v6), σ6))
    (c7 : ¬ (v1 = (-1)) → ¬ v4 = 0 → RR X d 97 [.ref 18, .int v1, .int v5, .int v6] σ6 (some (.int v7), σ7))
    (k2 : ¬ (v1 = (-1)) → ¬ v4 = 0 → r = (some (.int v7), σ7))
    (b1 : ¬ (v1 = (-1)) → ¬ v4 = 0 → v7 = 0 ∨ v7 = 1)
    (k3 : ¬ (v1 = (-1)) → ¬ (¬ v4 = 0) → r = (some (.int 0), σ4))
    : TT X d tb34 (some .boolean) (0, [some (.ref 0), some (.int x1), some (.int x2), some (.int x3), none], [], σ) r := mi_T.go 2 (s1 := (2, [some (.ref 0), some (.int x1), some (.int x2), some (.int x3), none], [.int x3, .ref 0], σ)) rfl <|
      mi_T.call (as := [.ref 0, .int x3]) (rest := []) (v := some (.int v1)) rfl rfl rfl rfl rfl (c1) <|
      mi_T.go 3 (s1 := (10, [some (.ref 0), some (.int x1), some (.int x2), some (.int x3), some (.int v1)], [.int (-1), .int v1], σ1)) rfl <|
      mi_T.br (P := v1 = (-1)) (fun _ => rfl)
      (fun h1 => mi_T.go 1 (s1 := (46, [some (.ref 0), some (.int x1), some (.int x2), some (.int x3), some (.int v1)], [.int 0], σ1)) rfl <|
      mi_T.fin (k1 h1) (fun _ => rfl))
      (fun h1 => mi_T.go 6 (s1 := (25, [some (.ref 0), some (.int x1), some (.int x2), some (.int x3), some (.int v1)], [.ref 1043, .int x1, .ref 5, .ref 5], σ1)) rfl <|
      mi_T.call (as := [.ref 5, .int x1, .ref 1043]) (rest := [.ref 5]) (v := some (.int v2)) rfl rfl rfl rfl rfl (c2 h1) <|
      mi_T.go 4 (s1 := (36, [some (.ref 0), some (.int x1), some (.int x2), some (.int x3), some (.int v1)], [.ref 1044, .int x2, .ref 5, .int v2, .ref 5], σ2)) rfl <|
      mi_T.call (as := [.ref 5, .int x2, .ref 1044]) (rest := [.int v2, .ref 5]) (v := some (.int v3)) rfl rfl rfl rfl rfl (c3 h1) <|
      mi_T.call (as := [.ref 5, .int v2, .int v3]) (rest := []) (v := some (.int v4)) rfl rfl rfl rfl rfl (c4 h1) <|
      mi_T.br (P := ¬ v4 = 0) (fun _ => rfl)
      (fun h2 => mi_T.go 7 (s1 := (61, [some (.ref 0), some (.int x1), some (.int x2), some (.int x3), some (.int v1)], [.ref 1045, .int x1, .ref 5, .int v1, .ref 18], σ4)) rfl <|
      mi_T.call (as := [.ref 5, .int x1, .ref 1045]) (rest := [.int v1, .ref 18]) (v := some (.int v5)) rfl rfl rfl rfl rfl (c5 h1 h2) <|
      mi_T.go 3 (s1 := (69, [some (.ref 0), some (.int x1), some (.int x2), some (.int x3), some (.int v1)], [.int x2, .ref 17, .int v5, .int v1, .ref 18], σ5)) rfl <|
      mi_T.call (as := [.ref 17, .int x2]) (rest := [.int v5, .int v1, .ref 18]) (v := some (.int v6)) rfl rfl rfl rfl rfl (c6 h1 h2) <|
      mi_T.call (as := [.ref 18, .int v1, .int v5, .int v6]) (rest := []) (v := some (.int v7)) rfl rfl rfl rfl rfl (c7 h1 h2) <|
      mi_T.finz rfl (b1 h1 h2) (k2 h1 h2))
      (fun h2 => mi_T.go 1 (s1 := (46, [some (.ref 0), some (.int x1), some (.int x2), some (.int x3), some (.int v1)], [.int 0], σ4)) rfl <|
      mi_T.fin (k3 h1 h2) (fun _ => rfl)))

-- AssertionGate.trustedNamed(I)I
theorem R35_0 {X : Nat × (Nat → Int32)} {d : Nat} {r : mA mG} {σ : mG} {x1 : Int32} {v1 : Int32} {σ1 : mG} {v2 : Int32} {σ2 : mG} {v3 : Int32} {σ3 : mG} {v4 : Int32} {σ4 : mG} {v5 : Int32} {σ5 : mG}
    (c1 : RR X d 60 [.ref 5, .int x1] σ (some (.int v1), σ1))
    (c2 : RR X d 61 [.ref 5, .int x1] σ1 (some (.int v2), σ2))
    (k1 : ¬ (v2 - v1) = 2 → r = (some (.int (-1)), σ2))
    (c3 : ¬ (¬ (v2 - v1) = 2) → RR X d 39 [.ref 1, .int v1] σ2 (some (.int v3), σ3))
    (c4 : ¬ (¬ (v2 - v1) = 2) → v3 = 112 → RR X d 39 [.ref 1, .int (v1 + 1)] σ3 (some (.int v4), σ4))
    (c5 : ¬ (¬ (v2 - v1) = 2) → v3 = 112 → RR X d 94 [.ref 18, .int (v4 - 48)] σ4 (some (.int v5), σ5))
    (k2 : ¬ (¬ (v2 - v1) = 2) → v3 = 112 → v5 = 0 → r = (some (.int (-1)), σ5))
    (k3 : ¬ (¬ (v2 - v1) = 2) → v3 = 112 → ¬ (v5 = 0) → r = (some (.int (v4 - 48)), σ5))
    (k4 : ¬ (¬ (v2 - v1) = 2) → ¬ (v3 = 112) → r = (some (.int (-1)), σ3))
    : TT X d tb35 (some .int) (0, [some (.ref 0), some (.int x1), none, none], [], σ) r := mi_T.go 3 (s1 := (5, [some (.ref 0), some (.int x1), none, none], [.int x1, .ref 5], σ)) rfl <|
      mi_T.call (as := [.ref 5, .int x1]) (rest := []) (v := some (.int v1)) rfl rfl rfl rfl rfl (c1) <|
      mi_T.go 4 (s1 := (14, [some (.ref 0), some (.int x1), some (.int v1), none], [.int x1, .ref 5], σ1)) rfl <|
      mi_T.call (as := [.ref 5, .int x1]) (rest := []) (v := some (.int v2)) rfl rfl rfl rfl rfl (c2) <|
      mi_T.go 3 (s1 := (20, [some (.ref 0), some (.int x1), some (.int v1), none], [.int 2, .int (v2 - v1)], σ2)) rfl <|
      mi_T.br (P := ¬ (v2 - v1) = 2) (fun _ => rfl)
      (fun h1 => mi_T.go 1 (s1 := (37, [some (.ref 0), some (.int x1), some (.int v1), none], [.int (-1)], σ2)) rfl <|
      mi_T.fin (k1 h1) (fun _ => rfl))
      (fun h1 => mi_T.go 3 (s1 := (28, [some (.ref 0), some (.int x1), some (.int v1), none], [.int v1, .ref 1], σ2)) rfl <|
      mi_T.call (as := [.ref 1, .int v1]) (rest := []) (v := some (.int v3)) rfl rfl rfl rfl rfl (c3 h1) <|
      mi_T.go 1 (s1 := (33, [some (.ref 0), some (.int x1), some (.int v1), none], [.int 112, .int v3], σ3)) rfl <|
      mi_T.br (P := v3 = 112) (fun _ => rfl)
      (fun h2 => mi_T.go 5 (s1 := (45, [some (.ref 0), some (.int x1), some (.int v1), none], [.int (v1 + 1), .ref 1], σ3)) rfl <|
      mi_T.call (as := [.ref 1, .int (v1 + 1)]) (rest := []) (v := some (.int v4)) rfl rfl rfl rfl rfl (c4 h1 h2) <|
      mi_T.go 6 (s1 := (57, [some (.ref 0), some (.int x1), some (.int v1), some (.int (v4 - 48))], [.int (v4 - 48), .ref 18], σ4)) rfl <|
      mi_T.call (as := [.ref 18, .int (v4 - 48)]) (rest := []) (v := some (.int v5)) rfl rfl rfl rfl rfl (c5 h1 h2) <|
      mi_T.br (P := v5 = 0) (fun _ => rfl)
      (fun h3 => mi_T.go 1 (s1 := (68, [some (.ref 0), some (.int x1), some (.int v1), some (.int (v4 - 48))], [.int (-1)], σ5)) rfl <|
      mi_T.fin (k2 h1 h2 h3) (fun _ => rfl))
      (fun h3 => mi_T.go 2 (s1 := (68, [some (.ref 0), some (.int x1), some (.int v1), some (.int (v4 - 48))], [.int (v4 - 48)], σ5)) rfl <|
      mi_T.fin (k3 h1 h2 h3) (fun _ => rfl)))
      (fun h2 => mi_T.go 1 (s1 := (37, [some (.ref 0), some (.int x1), some (.int v1), none], [.int (-1)], σ3)) rfl <|
      mi_T.fin (k4 h1 h2) (fun _ => rfl)))

-- AssertionGate.isSeen(I)Z
theorem R36_0 {X : Nat × (Nat → Int32)} {d : Nat} {r : mA mG} {σ : mG} {x1 : Int32} {v1 : Int32} {σ1 : mG} {v2 : Int32} {σ2 : mG} {v3 : Int32} {σ3 : mG} {v4 : Int32} {σ4 : mG}
    (c1 : RR X d 65 [.ref 5, .int x1, .ref 1044] σ (some (.int v1), σ1))
    (c2 : RR X d 67 [.ref 5, .int v1] σ1 (some (.int v2), σ2))
    (c3 : RR X d 68 [.ref 5, .int v1] σ2 (some (.int v3), σ3))
    (c4 : RR X d 115 [.ref 33, .ref 1, .int v2, .int v3] σ3 (some (.int v4), σ4))
    (k1 : v4 = (-1) → r = (some (.int 0), σ4))
    (k2 : ¬ (v4 = (-1)) → r = (some (.int 1), σ4))
    : TT X d tb36 (some .boolean) (0, [some (.ref 0), some (.int x1), none], [], σ) r := mi_T.go 4 (s1 := (8, [some (.ref 0), some (.int x1), none], [.ref 1044, .int x1, .ref 5], σ)) rfl <|
      mi_T.call (as := [.ref 5, .int x1, .ref 1044]) (rest := []) (v := some (.int v1)) rfl rfl rfl rfl rfl (c1) <|
      mi_T.go 8 (s1 := (25, [some (.ref 0), some (.int x1), some (.int v1)], [.int v1, .ref 5, .ref 1, .ref 33], σ1)) rfl <|
      mi_T.call (as := [.ref 5, .int v1]) (rest := [.ref 1, .ref 33]) (v := some (.int v2)) rfl rfl rfl rfl rfl (c2) <|
      mi_T.go 3 (s1 := (33, [some (.ref 0), some (.int x1), some (.int v1)], [.int v1, .ref 5, .int v2, .ref 1, .ref 33], σ2)) rfl <|
      mi_T.call (as := [.ref 5, .int v1]) (rest := [.int v2, .ref 1, .ref 33]) (v := some (.int v3)) rfl rfl rfl rfl rfl (c3) <|
      mi_T.call (as := [.ref 33, .ref 1, .int v2, .int v3]) (rest := []) (v := some (.int v4)) rfl rfl rfl rfl rfl (c4) <|
      mi_T.go 1 (s1 := (40, [some (.ref 0), some (.int x1), some (.int v1)], [.int (-1), .int v4], σ4)) rfl <|
      mi_T.br (P := v4 = (-1)) (fun _ => rfl)
      (fun h1 => mi_T.go 1 (s1 := (48, [some (.ref 0), some (.int x1), some (.int v1)], [.int 0], σ4)) rfl <|
      mi_T.fin (k1 h1) (fun _ => rfl))
      (fun h1 => mi_T.go 2 (s1 := (48, [some (.ref 0), some (.int x1), some (.int v1)], [.int 1], σ4)) rfl <|
      mi_T.fin (k2 h1) (fun _ => rfl))

-- AssertionGate.markSeen(I)V
theorem R37_0 {X : Nat × (Nat → Int32)} {d : Nat} {r : mA mG} {σ : mG} {x1 : Int32} {v1 : Int32} {σ1 : mG} {v2 : Int32} {σ2 : mG} {v3 : Int32} {σ3 : mG} {σ4 : mG}
    (c1 : RR X d 65 [.ref 5, .int x1, .ref 1044] σ (some (.int v1), σ1))
    (c2 : RR X d 67 [.ref 5, .int v1] σ1 (some (.int v2), σ2))
    (c3 : RR X d 68 [.ref 5, .int v1] σ2 (some (.int v3), σ3))
    (c4 : RR X d 112 [.ref 33, .ref 1, .int v2, .int v3] σ3 (none, σ4))
    (k1 : r = (none, σ4))
    : TT X d tb37 none (0, [some (.ref 0), some (.int x1), none], [], σ) r := mi_T.go 4 (s1 := (8, [some (.ref 0), some (.int x1), none], [.ref 1044, .int x1, .ref 5], σ)) rfl <|
      mi_T.call (as := [.ref 5, .int x1, .ref 1044]) (rest := []) (v := some (.int v1)) rfl rfl rfl rfl rfl (c1) <|
      mi_T.go 8 (s1 := (25, [some (.ref 0), some (.int x1), some (.int v1)], [.int v1, .ref 5, .ref 1, .ref 33], σ1)) rfl <|
      mi_T.call (as := [.ref 5, .int v1]) (rest := [.ref 1, .ref 33]) (v := some (.int v2)) rfl rfl rfl rfl rfl (c2) <|
      mi_T.go 3 (s1 := (33, [some (.ref 0), some (.int x1), some (.int v1)], [.int v1, .ref 5, .int v2, .ref 1, .ref 33], σ2)) rfl <|
      mi_T.call (as := [.ref 5, .int v1]) (rest := [.int v2, .ref 1, .ref 33]) (v := some (.int v3)) rfl rfl rfl rfl rfl (c3) <|
      mi_T.call (as := [.ref 33, .ref 1, .int v2, .int v3]) (rest := []) (v := none) rfl rfl rfl rfl rfl (c4) <|
      mi_T.fin (k1) (fun _ => rfl)

