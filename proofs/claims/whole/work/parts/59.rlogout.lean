/-! Rules of AssertionGate.Logout, printed by a program: what each stretch of its code does. -/
-- AssertionGate$Logout.isFound()Z
theorem R123_0 {X : Nat × (Nat → Int32)} {d : Nat} {r : mA mG} {σ : mG} {v1 : Int32} {σ1 : mG} {v2 : Int32} {σ2 : mG} {v3 : Int32} {σ3 : mG} {v4 : Int32} {σ4 : mG} {v5 : Int32} {σ5 : mG} {v6 : Int32} {σ6 : mG} {v7 : Int32} {σ7 : mG} {v8 : Int32} {σ8 : mG} {v9 : Int32} {σ9 : mG}
    (c1 : RR X d 59 [.ref 5, .int 0, .ref 1055] σ (some (.int v1), σ1))
    (c2 : RR X d 59 [.ref 5, .int 0, .ref 1056] (mi_uc σ1.1 37 (upd (σ1.1 37) 1 v1), σ1.2) (some (.int v2), σ2))
    (c3 : RR X d 58 [.ref 5, .int 0, .ref 1057] (mi_uc σ2.1 37 (upd (σ2.1 37) 2 v2), σ2.2) (some (.int v3), σ3))
    (c4 : RR X d 56 [.ref 5, .int 0, .ref 1058] (mi_uc σ3.1 37 (upd (σ3.1 37) 3 v3), σ3.2) (some (.int v4), σ4))
    (k1 : v4 = 0 → r = (some (.int 0), σ4))
    (c5 : ¬ (v4 = 0) → RR X d 72 [.ref 5, .int 0, .ref 1059] σ4 (some (.int v5), σ5))
    (k2 : ¬ (v4 = 0) → v5 = 0 → r = (some (.int 0), σ5))
    (c6 : ¬ (v4 = 0) → ¬ (v5 = 0) → RR X d 66 [.ref 5, .int 0, .ref 1060] σ5 (some (.int v6), σ6))
    (k3 : ¬ (v4 = 0) → ¬ (v5 = 0) → v6 = 0 → r = (some (.int 0), σ6))
    (c7 : ¬ (v4 = 0) → ¬ (v5 = 0) → ¬ (v6 = 0) → RR X d 62 [.ref 5, .int (σ6.1 37 1)] σ6 (some (.int v7), σ7))
    (k4 : ¬ (v4 = 0) → ¬ (v5 = 0) → ¬ (v6 = 0) → v7 = 0 → r = (some (.int 0), σ7))
    (c8 : ¬ (v4 = 0) → ¬ (v5 = 0) → ¬ (v6 = 0) → ¬ (v7 = 0) → RR X d 62 [.ref 5, .int (σ7.1 37 2)] σ7 (some (.int v8), σ8))
    (k5 : ¬ (v4 = 0) → ¬ (v5 = 0) → ¬ (v6 = 0) → ¬ (v7 = 0) → v8 = 0 → r = (some (.int 0), σ8))
    (c9 : ¬ (v4 = 0) → ¬ (v5 = 0) → ¬ (v6 = 0) → ¬ (v7 = 0) → ¬ (v8 = 0) → RR X d 76 [.ref 5, .int 0] σ8 (some (.int v9), σ9))
    (k6 : ¬ (v4 = 0) → ¬ (v5 = 0) → ¬ (v6 = 0) → ¬ (v7 = 0) → ¬ (v8 = 0) → v9 = 0 → r = (some (.int 0), σ9))
    (k7 : ¬ (v4 = 0) → ¬ (v5 = 0) → ¬ (v6 = 0) → ¬ (v7 = 0) → ¬ (v8 = 0) → ¬ (v9 = 0) → r = (some (.int 1), σ9))
    : TT X d tb123 (some .boolean) (0, [some (.ref 37)], [], σ) r := mi_T.go 5 (s1 := (8, [some (.ref 37)], [.ref 1055, .int 0, .ref 5, .ref 37], σ)) rfl <|
      mi_T.call (as := [.ref 5, .int 0, .ref 1055]) (rest := [.ref 37]) (v := some (.int v1)) rfl rfl rfl rfl rfl (c1) <|
      mi_T.go 6 (s1 := (22, [some (.ref 37)], [.ref 1056, .int 0, .ref 5, .ref 37], (mi_uc σ1.1 37 (upd (σ1.1 37) 1 v1), σ1.2))) rfl <|
      mi_T.call (as := [.ref 5, .int 0, .ref 1056]) (rest := [.ref 37]) (v := some (.int v2)) rfl rfl rfl rfl rfl (c2) <|
      mi_T.go 6 (s1 := (36, [some (.ref 37)], [.ref 1057, .int 0, .ref 5, .ref 37], (mi_uc σ2.1 37 (upd (σ2.1 37) 2 v2), σ2.2))) rfl <|
      mi_T.call (as := [.ref 5, .int 0, .ref 1057]) (rest := [.ref 37]) (v := some (.int v3)) rfl rfl rfl rfl rfl (c3) <|
      mi_T.go 5 (s1 := (49, [some (.ref 37)], [.ref 1058, .int 0, .ref 5], (mi_uc σ3.1 37 (upd (σ3.1 37) 3 v3), σ3.2))) rfl <|
      mi_T.call (as := [.ref 5, .int 0, .ref 1058]) (rest := []) (v := some (.int v4)) rfl rfl rfl rfl rfl (c4) <|
      mi_T.br (P := v4 = 0) (fun _ => rfl)
      (fun h1 => mi_T.go 1 (s1 := (125, [some (.ref 37)], [.int 0], σ4)) rfl <|
      mi_T.fin (k1 h1) (fun _ => rfl))
      (fun h1 => mi_T.go 4 (s1 := (62, [some (.ref 37)], [.ref 1059, .int 0, .ref 5], σ4)) rfl <|
      mi_T.call (as := [.ref 5, .int 0, .ref 1059]) (rest := []) (v := some (.int v5)) rfl rfl rfl rfl rfl (c5 h1) <|
      mi_T.br (P := v5 = 0) (fun _ => rfl)
      (fun h2 => mi_T.go 1 (s1 := (125, [some (.ref 37)], [.int 0], σ5)) rfl <|
      mi_T.fin (k2 h1 h2) (fun _ => rfl))
      (fun h2 => mi_T.go 4 (s1 := (75, [some (.ref 37)], [.ref 1060, .int 0, .ref 5], σ5)) rfl <|
      mi_T.call (as := [.ref 5, .int 0, .ref 1060]) (rest := []) (v := some (.int v6)) rfl rfl rfl rfl rfl (c6 h1 h2) <|
      mi_T.br (P := v6 = 0) (fun _ => rfl)
      (fun h3 => mi_T.go 1 (s1 := (125, [some (.ref 37)], [.int 0], σ6)) rfl <|
      mi_T.fin (k3 h1 h2 h3) (fun _ => rfl))
      (fun h3 => mi_T.go 4 (s1 := (89, [some (.ref 37)], [.int (σ6.1 37 1), .ref 5], σ6)) rfl <|
      mi_T.call (as := [.ref 5, .int (σ6.1 37 1)]) (rest := []) (v := some (.int v7)) rfl rfl rfl rfl rfl (c7 h1 h2 h3) <|
      mi_T.br (P := v7 = 0) (fun _ => rfl)
      (fun h4 => mi_T.go 1 (s1 := (125, [some (.ref 37)], [.int 0], σ7)) rfl <|
      mi_T.fin (k4 h1 h2 h3 h4) (fun _ => rfl))
      (fun h4 => mi_T.go 4 (s1 := (103, [some (.ref 37)], [.int (σ7.1 37 2), .ref 5], σ7)) rfl <|
      mi_T.call (as := [.ref 5, .int (σ7.1 37 2)]) (rest := []) (v := some (.int v8)) rfl rfl rfl rfl rfl (c8 h1 h2 h3 h4) <|
      mi_T.br (P := v8 = 0) (fun _ => rfl)
      (fun h5 => mi_T.go 1 (s1 := (125, [some (.ref 37)], [.int 0], σ8)) rfl <|
      mi_T.fin (k5 h1 h2 h3 h4 h5) (fun _ => rfl))
      (fun h5 => mi_T.go 3 (s1 := (114, [some (.ref 37)], [.int 0, .ref 5], σ8)) rfl <|
      mi_T.call (as := [.ref 5, .int 0]) (rest := []) (v := some (.int v9)) rfl rfl rfl rfl rfl (c9 h1 h2 h3 h4 h5) <|
      mi_T.br (P := v9 = 0) (fun _ => rfl)
      (fun h6 => mi_T.go 1 (s1 := (125, [some (.ref 37)], [.int 0], σ9)) rfl <|
      mi_T.fin (k6 h1 h2 h3 h4 h5 h6) (fun _ => rfl))
      (fun h6 => mi_T.go 2 (s1 := (125, [some (.ref 37)], [.int 1], σ9)) rfl <|
      mi_T.fin (k7 h1 h2 h3 h4 h5 h6) (fun _ => rfl)))))))

