/-! Rules of AssertionGate.Response, printed by a program: what each stretch of its code does. -/
-- AssertionGate$Response.isFound()Z
theorem R117_0 {X : Nat × (Nat → Int32)} {d : Nat} {r : mA mG} {σ : mG} {σ1 : mG} {v1 : Int32} {σ2 : mG} {v2 : Int32} {σ3 : mG} {v3 : Int32} {σ4 : mG} {v4 : Int32} {σ5 : mG}
    (c1 : RR X d 118 [.ref 36] σ (none, σ1))
    (c2 : RR X d 56 [.ref 5, .int 0, .ref 1032] σ1 (some (.int v1), σ2))
    (k1 : v1 = 0 → r = (some (.int 0), σ2))
    (c3 : ¬ (v1 = 0) → RR X d 119 [.ref 36] σ2 (some (.int v2), σ3))
    (k2 : ¬ (v1 = 0) → v2 = 0 → r = (some (.int 0), σ3))
    (c4 : ¬ (v1 = 0) → ¬ (v2 = 0) → RR X d 120 [.ref 36] σ3 (some (.int v3), σ4))
    (k3 : ¬ (v1 = 0) → ¬ (v2 = 0) → v3 = 0 → r = (some (.int 0), σ4))
    (c5 : ¬ (v1 = 0) → ¬ (v2 = 0) → ¬ (v3 = 0) → RR X d 121 [.ref 36] σ4 (some (.int v4), σ5))
    (k4 : ¬ (v1 = 0) → ¬ (v2 = 0) → ¬ (v3 = 0) → v4 = 0 → r = (some (.int 0), σ5))
    (k5 : ¬ (v1 = 0) → ¬ (v2 = 0) → ¬ (v3 = 0) → ¬ (v4 = 0) → r = (some (.int 1), σ5))
    : TT X d tb117 (some .boolean) (0, [some (.ref 36)], [], σ) r := mi_T.go 1 (s1 := (1, [some (.ref 36)], [.ref 36], σ)) rfl <|
      mi_T.call (as := [.ref 36]) (rest := []) (v := none) rfl rfl rfl rfl rfl (c1) <|
      mi_T.go 4 (s1 := (11, [some (.ref 36)], [.ref 1032, .int 0, .ref 5], σ1)) rfl <|
      mi_T.call (as := [.ref 5, .int 0, .ref 1032]) (rest := []) (v := some (.int v1)) rfl rfl rfl rfl rfl (c2) <|
      mi_T.br (P := v1 = 0) (fun _ => rfl)
      (fun h1 => mi_T.go 1 (s1 := (43, [some (.ref 36)], [.int 0], σ2)) rfl <|
      mi_T.fin (k1 h1) (fun _ => rfl))
      (fun h1 => mi_T.go 1 (s1 := (18, [some (.ref 36)], [.ref 36], σ2)) rfl <|
      mi_T.call (as := [.ref 36]) (rest := []) (v := some (.int v2)) rfl rfl rfl rfl rfl (c3 h1) <|
      mi_T.br (P := v2 = 0) (fun _ => rfl)
      (fun h2 => mi_T.go 1 (s1 := (43, [some (.ref 36)], [.int 0], σ3)) rfl <|
      mi_T.fin (k2 h1 h2) (fun _ => rfl))
      (fun h2 => mi_T.go 1 (s1 := (25, [some (.ref 36)], [.ref 36], σ3)) rfl <|
      mi_T.call (as := [.ref 36]) (rest := []) (v := some (.int v3)) rfl rfl rfl rfl rfl (c4 h1 h2) <|
      mi_T.br (P := v3 = 0) (fun _ => rfl)
      (fun h3 => mi_T.go 1 (s1 := (43, [some (.ref 36)], [.int 0], σ4)) rfl <|
      mi_T.fin (k3 h1 h2 h3) (fun _ => rfl))
      (fun h3 => mi_T.go 1 (s1 := (32, [some (.ref 36)], [.ref 36], σ4)) rfl <|
      mi_T.call (as := [.ref 36]) (rest := []) (v := some (.int v4)) rfl rfl rfl rfl rfl (c5 h1 h2 h3) <|
      mi_T.br (P := v4 = 0) (fun _ => rfl)
      (fun h4 => mi_T.go 1 (s1 := (43, [some (.ref 36)], [.int 0], σ5)) rfl <|
      mi_T.fin (k4 h1 h2 h3 h4) (fun _ => rfl))
      (fun h4 => mi_T.go 2 (s1 := (43, [some (.ref 36)], [.int 1], σ5)) rfl <|
      mi_T.fin (k5 h1 h2 h3 h4) (fun _ => rfl)))))

-- AssertionGate$Response.findParts()V
theorem R118_0 {X : Nat × (Nat → Int32)} {d : Nat} {r : mA mG} {σ : mG} {v1 : Int32} {σ1 : mG} {v2 : Int32} {σ2 : mG} {v3 : Int32} {σ3 : mG} {v4 : Int32} {σ4 : mG} {v5 : Int32} {σ5 : mG} {v6 : Int32} {σ6 : mG} {v7 : Int32} {σ7 : mG} {v8 : Int32} {σ8 : mG} {v9 : Int32} {σ9 : mG} {v10 : Int32} {σ10 : mG}
    (c1 : RR X d 59 [.ref 5, .int 0, .ref 1024] σ (some (.int v1), σ1))
    (c2 : RR X d 59 [.ref 5, .int 0, .ref 1025] (mi_uc σ1.1 36 (upd (σ1.1 36) 1 v1), σ1.2) (some (.int v2), σ2))
    (c3 : RR X d 59 [.ref 5, .int 0, .ref 1026] (mi_uc σ2.1 36 (upd (σ2.1 36) 2 v2), σ2.2) (some (.int v3), σ3))
    (c4 : RR X d 58 [.ref 5, .int 0, .ref 1027] (mi_uc σ3.1 36 (upd (σ3.1 36) 3 v3), σ3.2) (some (.int v4), σ4))
    (c5 : RR X d 59 [.ref 5, .int (σ4.1 36 3), .ref 1024] (mi_uc σ4.1 36 (upd (σ4.1 36) 4 v4), σ4.2) (some (.int v5), σ5))
    (c6 : RR X d 59 [.ref 5, .int (σ5.1 36 3), .ref 1028] (mi_uc σ5.1 36 (upd (σ5.1 36) 5 v5), σ5.2) (some (.int v6), σ6))
    (c7 : RR X d 59 [.ref 5, .int (σ6.1 36 3), .ref 1029] (mi_uc σ6.1 36 (upd (σ6.1 36) 6 v6), σ6.2) (some (.int v7), σ7))
    (c8 : RR X d 58 [.ref 5, .int (σ7.1 36 3), .ref 1027] (mi_uc σ7.1 36 (upd (σ7.1 36) 7 v7), σ7.2) (some (.int v8), σ8))
    (c9 : RR X d 59 [.ref 5, .int (σ8.1 36 7), .ref 1030] (mi_uc σ8.1 36 (upd (σ8.1 36) 8 v8), σ8.2) (some (.int v9), σ9))
    (c10 : RR X d 59 [.ref 5, .int (σ9.1 36 7), .ref 1031] (mi_uc σ9.1 36 (upd (σ9.1 36) 9 v9), σ9.2) (some (.int v10), σ10))
    (k1 : r = (none, (mi_uc σ10.1 36 (upd (σ10.1 36) 10 v10), σ10.2)))
    : TT X d tb118 none (0, [some (.ref 36)], [], σ) r := mi_T.go 5 (s1 := (8, [some (.ref 36)], [.ref 1024, .int 0, .ref 5, .ref 36], σ)) rfl <|
      mi_T.call (as := [.ref 5, .int 0, .ref 1024]) (rest := [.ref 36]) (v := some (.int v1)) rfl rfl rfl rfl rfl (c1) <|
      mi_T.go 6 (s1 := (22, [some (.ref 36)], [.ref 1025, .int 0, .ref 5, .ref 36], (mi_uc σ1.1 36 (upd (σ1.1 36) 1 v1), σ1.2))) rfl <|
      mi_T.call (as := [.ref 5, .int 0, .ref 1025]) (rest := [.ref 36]) (v := some (.int v2)) rfl rfl rfl rfl rfl (c2) <|
      mi_T.go 6 (s1 := (36, [some (.ref 36)], [.ref 1026, .int 0, .ref 5, .ref 36], (mi_uc σ2.1 36 (upd (σ2.1 36) 2 v2), σ2.2))) rfl <|
      mi_T.call (as := [.ref 5, .int 0, .ref 1026]) (rest := [.ref 36]) (v := some (.int v3)) rfl rfl rfl rfl rfl (c3) <|
      mi_T.go 6 (s1 := (50, [some (.ref 36)], [.ref 1027, .int 0, .ref 5, .ref 36], (mi_uc σ3.1 36 (upd (σ3.1 36) 3 v3), σ3.2))) rfl <|
      mi_T.call (as := [.ref 5, .int 0, .ref 1027]) (rest := [.ref 36]) (v := some (.int v4)) rfl rfl rfl rfl rfl (c4) <|
      mi_T.go 7 (s1 := (67, [some (.ref 36)], [.ref 1024, .int (σ4.1 36 3), .ref 5, .ref 36], (mi_uc σ4.1 36 (upd (σ4.1 36) 4 v4), σ4.2))) rfl <|
      mi_T.call (as := [.ref 5, .int (σ4.1 36 3), .ref 1024]) (rest := [.ref 36]) (v := some (.int v5)) rfl rfl rfl rfl rfl (c5) <|
      mi_T.go 7 (s1 := (84, [some (.ref 36)], [.ref 1028, .int (σ5.1 36 3), .ref 5, .ref 36], (mi_uc σ5.1 36 (upd (σ5.1 36) 5 v5), σ5.2))) rfl <|
      mi_T.call (as := [.ref 5, .int (σ5.1 36 3), .ref 1028]) (rest := [.ref 36]) (v := some (.int v6)) rfl rfl rfl rfl rfl (c6) <|
      mi_T.go 7 (s1 := (101, [some (.ref 36)], [.ref 1029, .int (σ6.1 36 3), .ref 5, .ref 36], (mi_uc σ6.1 36 (upd (σ6.1 36) 6 v6), σ6.2))) rfl <|
      mi_T.call (as := [.ref 5, .int (σ6.1 36 3), .ref 1029]) (rest := [.ref 36]) (v := some (.int v7)) rfl rfl rfl rfl rfl (c7) <|
      mi_T.go 7 (s1 := (118, [some (.ref 36)], [.ref 1027, .int (σ7.1 36 3), .ref 5, .ref 36], (mi_uc σ7.1 36 (upd (σ7.1 36) 7 v7), σ7.2))) rfl <|
      mi_T.call (as := [.ref 5, .int (σ7.1 36 3), .ref 1027]) (rest := [.ref 36]) (v := some (.int v8)) rfl rfl rfl rfl rfl (c8) <|
      mi_T.go 7 (s1 := (135, [some (.ref 36)], [.ref 1030, .int (σ8.1 36 7), .ref 5, .ref 36], (mi_uc σ8.1 36 (upd (σ8.1 36) 8 v8), σ8.2))) rfl <|
      mi_T.call (as := [.ref 5, .int (σ8.1 36 7), .ref 1030]) (rest := [.ref 36]) (v := some (.int v9)) rfl rfl rfl rfl rfl (c9) <|
      mi_T.go 7 (s1 := (152, [some (.ref 36)], [.ref 1031, .int (σ9.1 36 7), .ref 5, .ref 36], (mi_uc σ9.1 36 (upd (σ9.1 36) 9 v9), σ9.2))) rfl <|
      mi_T.call (as := [.ref 5, .int (σ9.1 36 7), .ref 1031]) (rest := [.ref 36]) (v := some (.int v10)) rfl rfl rfl rfl rfl (c10) <|
      mi_T.go 1 (s1 := (158, [some (.ref 36)], [], (mi_uc σ10.1 36 (upd (σ10.1 36) 10 v10), σ10.2))) rfl <|
      mi_T.fin (k1) (fun _ => rfl)

-- AssertionGate$Response.isHeadSound()Z
theorem R119_0 {X : Nat × (Nat → Int32)} {d : Nat} {r : mA mG} {σ : mG} {v1 : Int32} {σ1 : mG} {v2 : Int32} {σ2 : mG} {v3 : Int32} {σ3 : mG} {v4 : Int32} {σ4 : mG} {v5 : Int32} {σ5 : mG} {v6 : Int32} {σ6 : mG}
    (c1 : RR X d 72 [.ref 5, .int 0, .ref 1033] σ (some (.int v1), σ1))
    (k1 : v1 = 0 → r = (some (.int 0), σ1))
    (c2 : ¬ (v1 = 0) → RR X d 66 [.ref 5, .int 0, .ref 1034] σ1 (some (.int v2), σ2))
    (k2 : ¬ (v1 = 0) → v2 = 0 → r = (some (.int 0), σ2))
    (c3 : ¬ (v1 = 0) → ¬ (v2 = 0) → RR X d 66 [.ref 5, .int 0, .ref 1035] σ2 (some (.int v3), σ3))
    (k3 : ¬ (v1 = 0) → ¬ (v2 = 0) → v3 = 0 → r = (some (.int 0), σ3))
    (c4 : ¬ (v1 = 0) → ¬ (v2 = 0) → ¬ (v3 = 0) → RR X d 62 [.ref 5, .int (σ3.1 36 1)] σ3 (some (.int v4), σ4))
    (k4 : ¬ (v1 = 0) → ¬ (v2 = 0) → ¬ (v3 = 0) → v4 = 0 → r = (some (.int 0), σ4))
    (c5 : ¬ (v1 = 0) → ¬ (v2 = 0) → ¬ (v3 = 0) → ¬ (v4 = 0) → RR X d 62 [.ref 5, .int (σ4.1 36 2)] σ4 (some (.int v5), σ5))
    (k5 : ¬ (v1 = 0) → ¬ (v2 = 0) → ¬ (v3 = 0) → ¬ (v4 = 0) → v5 = 0 → r = (some (.int 0), σ5))
    (c6 : ¬ (v1 = 0) → ¬ (v2 = 0) → ¬ (v3 = 0) → ¬ (v4 = 0) → ¬ (v5 = 0) → RR X d 76 [.ref 5, .int 0] σ5 (some (.int v6), σ6))
    (k6 : ¬ (v1 = 0) → ¬ (v2 = 0) → ¬ (v3 = 0) → ¬ (v4 = 0) → ¬ (v5 = 0) → v6 = 0 → r = (some (.int 0), σ6))
    (k7 : ¬ (v1 = 0) → ¬ (v2 = 0) → ¬ (v3 = 0) → ¬ (v4 = 0) → ¬ (v5 = 0) → ¬ (v6 = 0) → r = (some (.int 1), σ6))
    : TT X d tb119 (some .boolean) (0, [some (.ref 36)], [], σ) r := mi_T.go 4 (s1 := (7, [some (.ref 36)], [.ref 1033, .int 0, .ref 5], σ)) rfl <|
      mi_T.call (as := [.ref 5, .int 0, .ref 1033]) (rest := []) (v := some (.int v1)) rfl rfl rfl rfl rfl (c1) <|
      mi_T.br (P := v1 = 0) (fun _ => rfl)
      (fun h1 => mi_T.go 1 (s1 := (83, [some (.ref 36)], [.int 0], σ1)) rfl <|
      mi_T.fin (k1 h1) (fun _ => rfl))
      (fun h1 => mi_T.go 4 (s1 := (20, [some (.ref 36)], [.ref 1034, .int 0, .ref 5], σ1)) rfl <|
      mi_T.call (as := [.ref 5, .int 0, .ref 1034]) (rest := []) (v := some (.int v2)) rfl rfl rfl rfl rfl (c2 h1) <|
      mi_T.br (P := v2 = 0) (fun _ => rfl)
      (fun h2 => mi_T.go 1 (s1 := (83, [some (.ref 36)], [.int 0], σ2)) rfl <|
      mi_T.fin (k2 h1 h2) (fun _ => rfl))
      (fun h2 => mi_T.go 4 (s1 := (33, [some (.ref 36)], [.ref 1035, .int 0, .ref 5], σ2)) rfl <|
      mi_T.call (as := [.ref 5, .int 0, .ref 1035]) (rest := []) (v := some (.int v3)) rfl rfl rfl rfl rfl (c3 h1 h2) <|
      mi_T.br (P := v3 = 0) (fun _ => rfl)
      (fun h3 => mi_T.go 1 (s1 := (83, [some (.ref 36)], [.int 0], σ3)) rfl <|
      mi_T.fin (k3 h1 h2 h3) (fun _ => rfl))
      (fun h3 => mi_T.go 4 (s1 := (47, [some (.ref 36)], [.int (σ3.1 36 1), .ref 5], σ3)) rfl <|
      mi_T.call (as := [.ref 5, .int (σ3.1 36 1)]) (rest := []) (v := some (.int v4)) rfl rfl rfl rfl rfl (c4 h1 h2 h3) <|
      mi_T.br (P := v4 = 0) (fun _ => rfl)
      (fun h4 => mi_T.go 1 (s1 := (83, [some (.ref 36)], [.int 0], σ4)) rfl <|
      mi_T.fin (k4 h1 h2 h3 h4) (fun _ => rfl))
      (fun h4 => mi_T.go 4 (s1 := (61, [some (.ref 36)], [.int (σ4.1 36 2), .ref 5], σ4)) rfl <|
      mi_T.call (as := [.ref 5, .int (σ4.1 36 2)]) (rest := []) (v := some (.int v5)) rfl rfl rfl rfl rfl (c5 h1 h2 h3 h4) <|
      mi_T.br (P := v5 = 0) (fun _ => rfl)
      (fun h5 => mi_T.go 1 (s1 := (83, [some (.ref 36)], [.int 0], σ5)) rfl <|
      mi_T.fin (k5 h1 h2 h3 h4 h5) (fun _ => rfl))
      (fun h5 => mi_T.go 3 (s1 := (72, [some (.ref 36)], [.int 0, .ref 5], σ5)) rfl <|
      mi_T.call (as := [.ref 5, .int 0]) (rest := []) (v := some (.int v6)) rfl rfl rfl rfl rfl (c6 h1 h2 h3 h4 h5) <|
      mi_T.br (P := v6 = 0) (fun _ => rfl)
      (fun h6 => mi_T.go 1 (s1 := (83, [some (.ref 36)], [.int 0], σ6)) rfl <|
      mi_T.fin (k6 h1 h2 h3 h4 h5 h6) (fun _ => rfl))
      (fun h6 => mi_T.go 2 (s1 := (83, [some (.ref 36)], [.int 1], σ6)) rfl <|
      mi_T.fin (k7 h1 h2 h3 h4 h5 h6) (fun _ => rfl)))))))

-- AssertionGate$Response.isAssnSound()Z
theorem R120_0 {X : Nat × (Nat → Int32)} {d : Nat} {r : mA mG} {σ : mG} {v1 : Int32} {σ1 : mG} {v2 : Int32} {σ2 : mG} {v3 : Int32} {σ3 : mG} {v4 : Int32} {σ4 : mG} {v5 : Int32} {σ5 : mG} {v6 : Int32} {σ6 : mG}
    (c1 : RR X d 72 [.ref 5, .int (σ.1 36 3), .ref 1033] σ (some (.int v1), σ1))
    (k1 : v1 = 0 → r = (some (.int 0), σ1))
    (c2 : ¬ (v1 = 0) → RR X d 62 [.ref 5, .int (σ1.1 36 5)] σ1 (some (.int v2), σ2))
    (k2 : ¬ (v1 = 0) → v2 = 0 → r = (some (.int 0), σ2))
    (c3 : ¬ (v1 = 0) → ¬ (v2 = 0) → RR X d 76 [.ref 5, .int (σ2.1 36 3)] σ2 (some (.int v3), σ3))
    (k3 : ¬ (v1 = 0) → ¬ (v2 = 0) → v3 = 0 → r = (some (.int 0), σ3))
    (c4 : ¬ (v1 = 0) → ¬ (v2 = 0) → ¬ (v3 = 0) → RR X d 66 [.ref 5, .int (σ3.1 36 6), .ref 1039] σ3 (some (.int v4), σ4))
    (k4 : ¬ (v1 = 0) → ¬ (v2 = 0) → ¬ (v3 = 0) → v4 = 0 → r = (some (.int 0), σ4))
    (c5 : ¬ (v1 = 0) → ¬ (v2 = 0) → ¬ (v3 = 0) → ¬ (v4 = 0) → RR X d 73 [.ref 5, .int (σ4.1 36 6), .ref 1040] σ4 (some (.int v5), σ5))
    (k5 : ¬ (v1 = 0) → ¬ (v2 = 0) → ¬ (v3 = 0) → ¬ (v4 = 0) → v5 = 0 → r = (some (.int 0), σ5))
    (c6 : ¬ (v1 = 0) → ¬ (v2 = 0) → ¬ (v3 = 0) → ¬ (v4 = 0) → ¬ (v5 = 0) → RR X d 73 [.ref 5, .int (σ5.1 36 6), .ref 1041] σ5 (some (.int v6), σ6))
    (k6 : ¬ (v1 = 0) → ¬ (v2 = 0) → ¬ (v3 = 0) → ¬ (v4 = 0) → ¬ (v5 = 0) → v6 = 0 → r = (some (.int 0), σ6))
    (k7 : ¬ (v1 = 0) → ¬ (v2 = 0) → ¬ (v3 = 0) → ¬ (v4 = 0) → ¬ (v5 = 0) → ¬ (v6 = 0) → r = (some (.int 1), σ6))
    : TT X d tb120 (some .boolean) (0, [some (.ref 36)], [], σ) r := mi_T.go 5 (s1 := (10, [some (.ref 36)], [.ref 1033, .int (σ.1 36 3), .ref 5], σ)) rfl <|
      mi_T.call (as := [.ref 5, .int (σ.1 36 3), .ref 1033]) (rest := []) (v := some (.int v1)) rfl rfl rfl rfl rfl (c1) <|
      mi_T.br (P := v1 = 0) (fun _ => rfl)
      (fun h1 => mi_T.go 1 (s1 := (97, [some (.ref 36)], [.int 0], σ1)) rfl <|
      mi_T.fin (k1 h1) (fun _ => rfl))
      (fun h1 => mi_T.go 4 (s1 := (24, [some (.ref 36)], [.int (σ1.1 36 5), .ref 5], σ1)) rfl <|
      mi_T.call (as := [.ref 5, .int (σ1.1 36 5)]) (rest := []) (v := some (.int v2)) rfl rfl rfl rfl rfl (c2 h1) <|
      mi_T.br (P := v2 = 0) (fun _ => rfl)
      (fun h2 => mi_T.go 1 (s1 := (97, [some (.ref 36)], [.int 0], σ2)) rfl <|
      mi_T.fin (k2 h1 h2) (fun _ => rfl))
      (fun h2 => mi_T.go 4 (s1 := (38, [some (.ref 36)], [.int (σ2.1 36 3), .ref 5], σ2)) rfl <|
      mi_T.call (as := [.ref 5, .int (σ2.1 36 3)]) (rest := []) (v := some (.int v3)) rfl rfl rfl rfl rfl (c3 h1 h2) <|
      mi_T.br (P := v3 = 0) (fun _ => rfl)
      (fun h3 => mi_T.go 1 (s1 := (97, [some (.ref 36)], [.int 0], σ3)) rfl <|
      mi_T.fin (k3 h1 h2 h3) (fun _ => rfl))
      (fun h3 => mi_T.go 5 (s1 := (54, [some (.ref 36)], [.ref 1039, .int (σ3.1 36 6), .ref 5], σ3)) rfl <|
      mi_T.call (as := [.ref 5, .int (σ3.1 36 6), .ref 1039]) (rest := []) (v := some (.int v4)) rfl rfl rfl rfl rfl (c4 h1 h2 h3) <|
      mi_T.br (P := v4 = 0) (fun _ => rfl)
      (fun h4 => mi_T.go 1 (s1 := (97, [some (.ref 36)], [.int 0], σ4)) rfl <|
      mi_T.fin (k4 h1 h2 h3 h4) (fun _ => rfl))
      (fun h4 => mi_T.go 5 (s1 := (70, [some (.ref 36)], [.ref 1040, .int (σ4.1 36 6), .ref 5], σ4)) rfl <|
      mi_T.call (as := [.ref 5, .int (σ4.1 36 6), .ref 1040]) (rest := []) (v := some (.int v5)) rfl rfl rfl rfl rfl (c5 h1 h2 h3 h4) <|
      mi_T.br (P := v5 = 0) (fun _ => rfl)
      (fun h5 => mi_T.go 1 (s1 := (97, [some (.ref 36)], [.int 0], σ5)) rfl <|
      mi_T.fin (k5 h1 h2 h3 h4 h5) (fun _ => rfl))
      (fun h5 => mi_T.go 5 (s1 := (86, [some (.ref 36)], [.ref 1041, .int (σ5.1 36 6), .ref 5], σ5)) rfl <|
      mi_T.call (as := [.ref 5, .int (σ5.1 36 6), .ref 1041]) (rest := []) (v := some (.int v6)) rfl rfl rfl rfl rfl (c6 h1 h2 h3 h4 h5) <|
      mi_T.br (P := v6 = 0) (fun _ => rfl)
      (fun h6 => mi_T.go 1 (s1 := (97, [some (.ref 36)], [.int 0], σ6)) rfl <|
      mi_T.fin (k6 h1 h2 h3 h4 h5 h6) (fun _ => rfl))
      (fun h6 => mi_T.go 2 (s1 := (97, [some (.ref 36)], [.int 1], σ6)) rfl <|
      mi_T.fin (k7 h1 h2 h3 h4 h5 h6) (fun _ => rfl)))))))

-- AssertionGate$Response.isSubjSound()Z
theorem R121_0 {X : Nat × (Nat → Int32)} {d : Nat} {r : mA mG} {σ : mG} {v1 : Int32} {σ1 : mG} {v2 : Int32} {σ2 : mG} {v3 : Int32} {σ3 : mG} {v4 : Int32} {σ4 : mG}
    (c1 : RR X d 62 [.ref 5, .int (σ.1 36 9)] σ (some (.int v1), σ1))
    (k1 : v1 = 0 → r = (some (.int 0), σ1))
    (c2 : ¬ (v1 = 0) → RR X d 66 [.ref 5, .int (σ1.1 36 10), .ref 1035] σ1 (some (.int v2), σ2))
    (k2 : ¬ (v1 = 0) → v2 = 0 → r = (some (.int 0), σ2))
    (c3 : ¬ (v1 = 0) → ¬ (v2 = 0) → RR X d 66 [.ref 5, .int (σ2.1 36 10), .ref 1042] σ2 (some (.int v3), σ3))
    (k3 : ¬ (v1 = 0) → ¬ (v2 = 0) → v3 = 0 → r = (some (.int 0), σ3))
    (c4 : ¬ (v1 = 0) → ¬ (v2 = 0) → ¬ (v3 = 0) → RR X d 73 [.ref 5, .int (σ3.1 36 10), .ref 1041] σ3 (some (.int v4), σ4))
    (k4 : ¬ (v1 = 0) → ¬ (v2 = 0) → ¬ (v3 = 0) → v4 = 0 → r = (some (.int 0), σ4))
    (k5 : ¬ (v1 = 0) → ¬ (v2 = 0) → ¬ (v3 = 0) → ¬ (v4 = 0) → r = (some (.int 1), σ4))
    : TT X d tb121 (some .boolean) (0, [some (.ref 36)], [], σ) r := mi_T.go 4 (s1 := (8, [some (.ref 36)], [.int (σ.1 36 9), .ref 5], σ)) rfl <|
      mi_T.call (as := [.ref 5, .int (σ.1 36 9)]) (rest := []) (v := some (.int v1)) rfl rfl rfl rfl rfl (c1) <|
      mi_T.br (P := v1 = 0) (fun _ => rfl)
      (fun h1 => mi_T.go 1 (s1 := (67, [some (.ref 36)], [.int 0], σ1)) rfl <|
      mi_T.fin (k1 h1) (fun _ => rfl))
      (fun h1 => mi_T.go 5 (s1 := (24, [some (.ref 36)], [.ref 1035, .int (σ1.1 36 10), .ref 5], σ1)) rfl <|
      mi_T.call (as := [.ref 5, .int (σ1.1 36 10), .ref 1035]) (rest := []) (v := some (.int v2)) rfl rfl rfl rfl rfl (c2 h1) <|
      mi_T.br (P := v2 = 0) (fun _ => rfl)
      (fun h2 => mi_T.go 1 (s1 := (67, [some (.ref 36)], [.int 0], σ2)) rfl <|
      mi_T.fin (k2 h1 h2) (fun _ => rfl))
      (fun h2 => mi_T.go 5 (s1 := (40, [some (.ref 36)], [.ref 1042, .int (σ2.1 36 10), .ref 5], σ2)) rfl <|
      mi_T.call (as := [.ref 5, .int (σ2.1 36 10), .ref 1042]) (rest := []) (v := some (.int v3)) rfl rfl rfl rfl rfl (c3 h1 h2) <|
      mi_T.br (P := v3 = 0) (fun _ => rfl)
      (fun h3 => mi_T.go 1 (s1 := (67, [some (.ref 36)], [.int 0], σ3)) rfl <|
      mi_T.fin (k3 h1 h2 h3) (fun _ => rfl))
      (fun h3 => mi_T.go 5 (s1 := (56, [some (.ref 36)], [.ref 1041, .int (σ3.1 36 10), .ref 5], σ3)) rfl <|
      mi_T.call (as := [.ref 5, .int (σ3.1 36 10), .ref 1041]) (rest := []) (v := some (.int v4)) rfl rfl rfl rfl rfl (c4 h1 h2 h3) <|
      mi_T.br (P := v4 = 0) (fun _ => rfl)
      (fun h4 => mi_T.go 1 (s1 := (67, [some (.ref 36)], [.int 0], σ4)) rfl <|
      mi_T.fin (k4 h1 h2 h3 h4) (fun _ => rfl))
      (fun h4 => mi_T.go 2 (s1 := (67, [some (.ref 36)], [.int 1], σ4)) rfl <|
      mi_T.fin (k5 h1 h2 h3 h4) (fun _ => rfl)))))

