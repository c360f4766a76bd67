/-! Rules of AssertionGate.Reader, printed by a program: what each stretch of its code does. -/
-- AssertionGate$Reader.read()I
set_option maxRecDepth 100000 in
theorem R78_0 {X : Nat × (Nat → Int32)} {d : Nat} {r : mA mG} {σ : mG} {v1 : Int32} {σ1 : mG} {v2 : Int32} {σ2 : mG}
    (c1 : RR X d 79 [.ref 16] (mi_uc (mi_uc (mi_uc σ.1 5 (upd (σ.1 5) 1 0)) 16 (upd (σ.1 16) 2 (-1))) 16 (upd (upd (σ.1 16) 2 (-1)) 3 0), σ.2) (some (.int v1), σ1))
    (c2 : v1 = 0 → RR X d 81 [.ref 16, .int 0] σ1 (some (.int v2), σ2))
    (k1 : v1 = 0 → TT X d tb78 (some .int) (35, [some (.ref 16), some (.int v2), some (.int 0), none], [], σ2) r)
    (k2 : ¬ (v1 = 0) → r = (some (.int (-1)), σ1))
    : TT X d tb78 (some .int) (0, [some (.ref 16), none, none, none], [], σ) r := mi_T.go 11 (s1 := (19, [some (.ref 16), none, none, none], [.ref 16], (mi_uc (mi_uc (mi_uc σ.1 5 (upd (σ.1 5) 1 0)) 16 (upd (σ.1 16) 2 (-1))) 16 (upd (upd (σ.1 16) 2 (-1)) 3 0), σ.2))) rfl <|
      mi_T.call (as := [.ref 16]) (rest := []) (v := some (.int v1)) rfl rfl rfl rfl rfl (c1) <|
      mi_T.br (P := v1 = 0) (fun _ => rfl)
      (fun h1 => mi_T.go 2 (s1 := (29, [some (.ref 16), none, none, none], [.int 0, .ref 16], σ1)) rfl <|
      mi_T.call (as := [.ref 16, .int 0]) (rest := []) (v := some (.int v2)) rfl rfl rfl rfl rfl (c2 h1) <|
      mi_T.go 3 (s1 := (35, [some (.ref 16), some (.int v2), some (.int 0), none], [], σ2)) rfl <|
      (k1 h1))
      (fun h1 => mi_T.go 1 (s1 := (26, [some (.ref 16), none, none, none], [.int (-1)], σ1)) rfl <|
      mi_T.fin (k2 h1) (fun _ => rfl))

set_option maxRecDepth 100000 in
theorem R78_35 {X : Nat × (Nat → Int32)} {d : Nat} {r : mA mG} {σ : mG} {x1 : Int32} {x2 : Int32} {u3 : Option Value} {v1 : Int32} {σ1 : mG} {v2 : Int32} {σ2 : mG}
    (k1 : 400 ≤ x2 → TT X d tb78 (some .int) (162, [some (.ref 16), some (.int x1), some (.int x2), u3], [], σ) r)
    (k2 : ¬ (400 ≤ x2) → x1 = (-1) → TT X d tb78 (some .int) (162, [some (.ref 16), some (.int x1), some (.int x2), u3], [], σ) r)
    (k3 : ¬ (400 ≤ x2) → ¬ (x1 = (-1)) → (σ.1 16 2) = (-1) → TT X d tb78 (some .int) (162, [some (.ref 16), some (.int x1), some (.int x2), u3], [], σ) r)
    (c1 : ¬ (400 ≤ x2) → ¬ (x1 = (-1)) → ¬ ((σ.1 16 2) = (-1)) → RR X d 39 [.ref 1, .int x1] σ (some (.int v1), σ1))
    (k4 : ¬ (400 ≤ x2) → ¬ (x1 = (-1)) → ¬ ((σ.1 16 2) = (-1)) → ¬ v1 = 60 → TT X d tb78 (some .int) (82, [some (.ref 16), some (.int x1), some (.int x2), u3], [.int (-1)], σ1) r)
    (c2 : ¬ (400 ≤ x2) → ¬ (x1 = (-1)) → ¬ ((σ.1 16 2) = (-1)) → ¬ (¬ v1 = 60) → RR X d 39 [.ref 1, .int (x1 + 1)] σ1 (some (.int v2), σ2))
    (k5 : ¬ (400 ≤ x2) → ¬ (x1 = (-1)) → ¬ ((σ.1 16 2) = (-1)) → ¬ (¬ v1 = 60) → TT X d tb78 (some .int) (82, [some (.ref 16), some (.int x1), some (.int x2), u3], [.int v2], σ2) r)
    : TT X d tb78 (some .int) (35, [some (.ref 16), some (.int x1), some (.int x2), u3], [], σ) r := mi_T.go 2 (s1 := (39, [some (.ref 16), some (.int x1), some (.int x2), u3], [.int 400, .int x2], σ)) rfl <|
      mi_T.br (P := 400 ≤ x2) (fun _ => rfl)
      (fun h1 => (k1 h1))
      (fun h1 => mi_T.go 2 (s1 := (44, [some (.ref 16), some (.int x1), some (.int x2), u3], [.int (-1), .int x1], σ)) rfl <|
      mi_T.br (P := x1 = (-1)) (fun _ => rfl)
      (fun h2 => (k2 h1 h2))
      (fun h2 => mi_T.go 3 (s1 := (52, [some (.ref 16), some (.int x1), some (.int x2), u3], [.int (-1), .int (σ.1 16 2)], σ)) rfl <|
      mi_T.br (P := (σ.1 16 2) = (-1)) (fun _ => rfl)
      (fun h3 => (k3 h1 h2 h3))
      (fun h3 => mi_T.go 3 (s1 := (60, [some (.ref 16), some (.int x1), some (.int x2), u3], [.int x1, .ref 1], σ)) rfl <|
      mi_T.call (as := [.ref 1, .int x1]) (rest := []) (v := some (.int v1)) rfl rfl rfl rfl rfl (c1 h1 h2 h3) <|
      mi_T.go 1 (s1 := (65, [some (.ref 16), some (.int x1), some (.int x2), u3], [.int 60, .int v1], σ1)) rfl <|
      mi_T.br (P := ¬ v1 = 60) (fun _ => rfl)
      (fun h4 => mi_T.go 1 (s1 := (82, [some (.ref 16), some (.int x1), some (.int x2), u3], [.int (-1)], σ1)) rfl <|
      (k4 h1 h2 h3 h4))
      (fun h4 => mi_T.go 5 (s1 := (75, [some (.ref 16), some (.int x1), some (.int x2), u3], [.int (x1 + 1), .ref 1], σ1)) rfl <|
      mi_T.call (as := [.ref 1, .int (x1 + 1)]) (rest := []) (v := some (.int v2)) rfl rfl rfl rfl rfl (c2 h1 h2 h3 h4) <|
      mi_T.go 1 (s1 := (82, [some (.ref 16), some (.int x1), some (.int x2), u3], [.int v2], σ2)) rfl <|
      (k5 h1 h2 h3 h4)))))

set_option maxRecDepth 100000 in
theorem R78_82 {X : Nat × (Nat → Int32)} {d : Nat} {r : mA mG} {σ : mG} {x1 : Int32} {x2 : Int32} {u3 : Option Value} {xs0 : Int32} {v1 : Int32} {σ1 : mG} {v2 : Int32} {σ2 : mG} {v3 : Int32} {σ3 : mG} {v4 : Int32} {σ4 : mG}
    (c1 : RR X d 39 [.ref 1, .int x1] σ (some (.int v1), σ1))
    (c2 : v1 = 60 → ¬ xs0 = 33 → ¬ xs0 = 47 → RR X d 81 [.ref 16, .int x1] σ1 (some (.int v2), σ2))
    (k1 : v1 = 60 → ¬ xs0 = 33 → ¬ xs0 = 47 → TT X d tb78 (some .int) (155, [some (.ref 16), some (.int x1), some (.int x2), some (.int xs0)], [.int v2], σ2) r)
    (c3 : v1 = 60 → ¬ xs0 = 33 → ¬ (¬ xs0 = 47) → RR X d 84 [.ref 16, .int x1] σ1 (some (.int v3), σ3))
    (k2 : v1 = 60 → ¬ xs0 = 33 → ¬ (¬ xs0 = 47) → TT X d tb78 (some .int) (155, [some (.ref 16), some (.int x1), some (.int x2), some (.int xs0)], [.int v3], σ3) r)
    (c4 : v1 = 60 → ¬ (¬ xs0 = 33) → RR X d 49 [.ref 1, .int x1] σ1 (some (.int v4), σ4))
    (k3 : v1 = 60 → ¬ (¬ xs0 = 33) → TT X d tb78 (some .int) (156, [some (.ref 16), some (.int v4), some (.int x2), some (.int xs0)], [], σ4) r)
    (k4 : ¬ (v1 = 60) → (σ1.1 1 1) ≤ x1 → TT X d tb78 (some .int) (114, [some (.ref 16), some (.int x1), some (.int x2), some (.int xs0)], [.int (-1)], σ1) r)
    (k5 : ¬ (v1 = 60) → ¬ ((σ1.1 1 1) ≤ x1) → TT X d tb78 (some .int) (114, [some (.ref 16), some (.int x1), some (.int x2), some (.int xs0)], [.int (x1 + 1)], σ1) r)
    : TT X d tb78 (some .int) (82, [some (.ref 16), some (.int x1), some (.int x2), u3], [.int xs0], σ) r := mi_T.go 4 (s1 := (88, [some (.ref 16), some (.int x1), some (.int x2), some (.int xs0)], [.int x1, .ref 1], σ)) rfl <|
      mi_T.call (as := [.ref 1, .int x1]) (rest := []) (v := some (.int v1)) rfl rfl rfl rfl rfl (c1) <|
      mi_T.go 1 (s1 := (93, [some (.ref 16), some (.int x1), some (.int x2), some (.int xs0)], [.int 60, .int v1], σ1)) rfl <|
      mi_T.br (P := v1 = 60) (fun _ => rfl)
      (fun h1 => mi_T.go 2 (s1 := (121, [some (.ref 16), some (.int x1), some (.int x2), some (.int xs0)], [.int 33, .int xs0], σ1)) rfl <|
      mi_T.br (P := ¬ xs0 = 33) (fun _ => rfl)
      (fun h2 => mi_T.go 2 (s1 := (139, [some (.ref 16), some (.int x1), some (.int x2), some (.int xs0)], [.int 47, .int xs0], σ1)) rfl <|
      mi_T.br (P := ¬ xs0 = 47) (fun _ => rfl)
      (fun h3 => mi_T.go 2 (s1 := (152, [some (.ref 16), some (.int x1), some (.int x2), some (.int xs0)], [.int x1, .ref 16], σ1)) rfl <|
      mi_T.call (as := [.ref 16, .int x1]) (rest := []) (v := some (.int v2)) rfl rfl rfl rfl rfl (c2 h1 h2 h3) <|
      (k1 h1 h2 h3))
      (fun h3 => mi_T.go 2 (s1 := (144, [some (.ref 16), some (.int x1), some (.int x2), some (.int xs0)], [.int x1, .ref 16], σ1)) rfl <|
      mi_T.call (as := [.ref 16, .int x1]) (rest := []) (v := some (.int v3)) rfl rfl rfl rfl rfl (c3 h1 h2 h3) <|
      mi_T.go 1 (s1 := (155, [some (.ref 16), some (.int x1), some (.int x2), some (.int xs0)], [.int v3], σ3)) rfl <|
      (k2 h1 h2 h3)))
      (fun h2 => mi_T.go 3 (s1 := (129, [some (.ref 16), some (.int x1), some (.int x2), some (.int xs0)], [.int x1, .ref 1], σ1)) rfl <|
      mi_T.call (as := [.ref 1, .int x1]) (rest := []) (v := some (.int v4)) rfl rfl rfl rfl rfl (c4 h1 h2) <|
      mi_T.go 2 (s1 := (156, [some (.ref 16), some (.int v4), some (.int x2), some (.int xs0)], [], σ4)) rfl <|
      (k3 h1 h2)))
      (fun h1 => mi_T.go 4 (s1 := (104, [some (.ref 16), some (.int x1), some (.int x2), some (.int xs0)], [.int (σ1.1 1 1), .int x1], σ1)) rfl <|
      mi_T.br (P := (σ1.1 1 1) ≤ x1) (fun _ => rfl)
      (fun h2 => mi_T.go 1 (s1 := (114, [some (.ref 16), some (.int x1), some (.int x2), some (.int xs0)], [.int (-1)], σ1)) rfl <|
      (k4 h1 h2))
      (fun h2 => mi_T.go 4 (s1 := (114, [some (.ref 16), some (.int x1), some (.int x2), some (.int xs0)], [.int (x1 + 1)], σ1)) rfl <|
      (k5 h1 h2)))

set_option maxRecDepth 100000 in
theorem R78_114 {X : Nat × (Nat → Int32)} {d : Nat} {r : mA mG} {σ : mG} {x1 : Int32} {x2 : Int32} {x3 : Int32} {xs0 : Int32}
    (k1 : TT X d tb78 (some .int) (156, [some (.ref 16), some (.int xs0), some (.int x2), some (.int x3)], [], σ) r)
    : TT X d tb78 (some .int) (114, [some (.ref 16), some (.int x1), some (.int x2), some (.int x3)], [.int xs0], σ) r := mi_T.go 2 (s1 := (156, [some (.ref 16), some (.int xs0), some (.int x2), some (.int x3)], [], σ)) rfl <|
      k1

set_option maxRecDepth 100000 in
theorem R78_155 {X : Nat × (Nat → Int32)} {d : Nat} {r : mA mG} {σ : mG} {x1 : Int32} {x2 : Int32} {x3 : Int32} {xs0 : Int32}
    (k1 : TT X d tb78 (some .int) (156, [some (.ref 16), some (.int xs0), some (.int x2), some (.int x3)], [], σ) r)
    : TT X d tb78 (some .int) (155, [some (.ref 16), some (.int x1), some (.int x2), some (.int x3)], [.int xs0], σ) r := mi_T.go 1 (s1 := (156, [some (.ref 16), some (.int xs0), some (.int x2), some (.int x3)], [], σ)) rfl <|
      k1

set_option maxRecDepth 100000 in
theorem R78_156 {X : Nat × (Nat → Int32)} {d : Nat} {r : mA mG} {σ : mG} {x1 : Int32} {x2 : Int32} {x3 : Int32}
    (k1 : TT X d tb78 (some .int) (35, [some (.ref 16), some (.int x1), some (.int (x2 + 1)), some (.int x3)], [], σ) r)
    : TT X d tb78 (some .int) (156, [some (.ref 16), some (.int x1), some (.int x2), some (.int x3)], [], σ) r := mi_T.go 2 (s1 := (35, [some (.ref 16), some (.int x1), some (.int (x2 + 1)), some (.int x3)], [], σ)) rfl <|
      k1

set_option maxRecDepth 100000 in
theorem R78_162 {X : Nat × (Nat → Int32)} {d : Nat} {r : mA mG} {σ : mG} {x1 : Int32} {x2 : Int32} {u3 : Option Value}
    (k1 : ¬ x1 = (σ.1 1 1) → TT X d tb78 (some .int) (181, [some (.ref 16), some (.int x1), some (.int x2), u3], [], σ) r)
    (k2 : ¬ (¬ x1 = (σ.1 1 1)) → (σ.1 16 2) = (-1) → r = (some (.int (σ.1 5 1)), σ))
    (k3 : ¬ (¬ x1 = (σ.1 1 1)) → ¬ ((σ.1 16 2) = (-1)) → TT X d tb78 (some .int) (181, [some (.ref 16), some (.int x1), some (.int x2), u3], [], σ) r)
    : TT X d tb78 (some .int) (162, [some (.ref 16), some (.int x1), some (.int x2), u3], [], σ) r := mi_T.go 4 (s1 := (170, [some (.ref 16), some (.int x1), some (.int x2), u3], [.int (σ.1 1 1), .int x1], σ)) rfl <|
      mi_T.br (P := ¬ x1 = (σ.1 1 1)) (fun _ => rfl)
      (fun h1 => (k1 h1))
      (fun h1 => mi_T.go 3 (s1 := (178, [some (.ref 16), some (.int x1), some (.int x2), u3], [.int (-1), .int (σ.1 16 2)], σ)) rfl <|
      mi_T.br (P := (σ.1 16 2) = (-1)) (fun _ => rfl)
      (fun h2 => mi_T.go 3 (s1 := (199, [some (.ref 16), some (.int x1), some (.int x2), u3], [.int (σ.1 5 1)], σ)) rfl <|
      mi_T.fin (k2 h1 h2) (fun _ => rfl))
      (fun h2 => (k3 h1 h2)))

set_option maxRecDepth 100000 in
theorem R78_181 {X : Nat × (Nat → Int32)} {d : Nat} {r : mA mG} {σ : mG} {x1 : Int32} {x2 : Int32} {u3 : Option Value}
    (k1 : r = (some (.int (-2)), (mi_uc σ.1 5 (upd (σ.1 5) 1 0), σ.2)))
    : TT X d tb78 (some .int) (181, [some (.ref 16), some (.int x1), some (.int x2), u3], [], σ) r := mi_T.go 5 (s1 := (191, [some (.ref 16), some (.int x1), some (.int x2), u3], [.int (-2)], (mi_uc σ.1 5 (upd (σ.1 5) 1 0), σ.2))) rfl <|
      mi_T.fin (k1) (fun _ => rfl)

-- AssertionGate$Reader.isBanned()Z
theorem R79_0 {X : Nat × (Nat → Int32)} {d : Nat} {r : mA mG} {σ : mG} 
    (k1 : TT X d tb79 (some .boolean) (2, [some (.ref 16), some (.int 0), none, none], [], σ) r)
    : TT X d tb79 (some .boolean) (0, [some (.ref 16), none, none, none], [], σ) r := mi_T.go 2 (s1 := (2, [some (.ref 16), some (.int 0), none, none], [], σ)) rfl <|
      k1

theorem R79_2 {X : Nat × (Nat → Int32)} {d : Nat} {r : mA mG} {σ : mG} {x1 : Int32} {u2 : Option Value} {u3 : Option Value} {v1 : Int32} {σ1 : mG} {v2 : Int32} {σ2 : mG} {v3 : Int32} {σ3 : mG}
    (k1 : (σ.1 1 1) ≤ x1 → r = (some (.int 0), σ))
    (c1 : ¬ ((σ.1 1 1) ≤ x1) → RR X d 39 [.ref 1, .int x1] σ (some (.int v1), σ1))
    (k2 : ¬ ((σ.1 1 1) ≤ x1) → ¬ v1 = 38 → ¬ v1 = 60 → TT X d tb79 (some .boolean) (2, [some (.ref 16), some (.int (x1 + 1)), some (.int v1), some (.int (-1))], [], σ1) r)
    (c2 : ¬ ((σ.1 1 1) ≤ x1) → ¬ v1 = 38 → ¬ (¬ v1 = 60) → RR X d 39 [.ref 1, .int (x1 + 1)] σ1 (some (.int v2), σ2))
    (k3 : ¬ ((σ.1 1 1) ≤ x1) → ¬ v1 = 38 → ¬ (¬ v1 = 60) → v2 = 63 → r = (some (.int 1), σ2))
    (k4 : ¬ ((σ.1 1 1) ≤ x1) → ¬ v1 = 38 → ¬ (¬ v1 = 60) → ¬ (v2 = 63) → ¬ v2 = 33 → TT X d tb79 (some .boolean) (2, [some (.ref 16), some (.int (x1 + 1)), some (.int v1), some (.int v2)], [], σ2) r)
    (c3 : ¬ ((σ.1 1 1) ≤ x1) → ¬ v1 = 38 → ¬ (¬ v1 = 60) → ¬ (v2 = 63) → ¬ (¬ v2 = 33) → RR X d 48 [.ref 1, .int (x1 + 2)] σ2 (some (.int v3), σ3))
    (k5 : ¬ ((σ.1 1 1) ≤ x1) → ¬ v1 = 38 → ¬ (¬ v1 = 60) → ¬ (v2 = 63) → ¬ (¬ v2 = 33) → ¬ v3 = 0 → TT X d tb79 (some .boolean) (2, [some (.ref 16), some (.int (x1 + 1)), some (.int v1), some (.int v2)], [], σ3) r)
    (k6 : ¬ ((σ.1 1 1) ≤ x1) → ¬ v1 = 38 → ¬ (¬ v1 = 60) → ¬ (v2 = 63) → ¬ (¬ v2 = 33) → ¬ (¬ v3 = 0) → r = (some (.int 1), σ3))
    (k7 : ¬ ((σ.1 1 1) ≤ x1) → ¬ (¬ v1 = 38) → r = (some (.int 1), σ1))
    : TT X d tb79 (some .boolean) (2, [some (.ref 16), some (.int x1), u2, u3], [], σ) r := mi_T.go 4 (s1 := (10, [some (.ref 16), some (.int x1), u2, u3], [.int (σ.1 1 1), .int x1], σ)) rfl <|
      mi_T.br (P := (σ.1 1 1) ≤ x1) (fun _ => rfl)
      (fun h1 => mi_T.go 1 (s1 := (85, [some (.ref 16), some (.int x1), u2, u3], [.int 0], σ)) rfl <|
      mi_T.fin (k1 h1) (fun _ => rfl))
      (fun h1 => mi_T.go 3 (s1 := (18, [some (.ref 16), some (.int x1), u2, u3], [.int x1, .ref 1], σ)) rfl <|
      mi_T.call (as := [.ref 1, .int x1]) (rest := []) (v := some (.int v1)) rfl rfl rfl rfl rfl (c1 h1) <|
      mi_T.go 3 (s1 := (25, [some (.ref 16), some (.int x1), some (.int v1), u3], [.int 38, .int v1], σ1)) rfl <|
      mi_T.br (P := ¬ v1 = 38) (fun _ => rfl)
      (fun h2 => mi_T.go 2 (s1 := (33, [some (.ref 16), some (.int x1), some (.int v1), u3], [.int 60, .int v1], σ1)) rfl <|
      mi_T.br (P := ¬ v1 = 60) (fun _ => rfl)
      (fun h3 => mi_T.go 10 (s1 := (2, [some (.ref 16), some (.int (x1 + 1)), some (.int v1), some (.int (-1))], [], σ1)) rfl <|
      (k2 h1 h2 h3))
      (fun h3 => mi_T.go 5 (s1 := (43, [some (.ref 16), some (.int x1), some (.int v1), u3], [.int (x1 + 1), .ref 1], σ1)) rfl <|
      mi_T.call (as := [.ref 1, .int (x1 + 1)]) (rest := []) (v := some (.int v2)) rfl rfl rfl rfl rfl (c2 h1 h2 h3) <|
      mi_T.go 4 (s1 := (54, [some (.ref 16), some (.int x1), some (.int v1), some (.int v2)], [.int 63, .int v2], σ2)) rfl <|
      mi_T.br (P := v2 = 63) (fun _ => rfl)
      (fun h4 => mi_T.go 1 (s1 := (77, [some (.ref 16), some (.int x1), some (.int v1), some (.int v2)], [.int 1], σ2)) rfl <|
      mi_T.fin (k3 h1 h2 h3 h4) (fun _ => rfl))
      (fun h4 => mi_T.go 2 (s1 := (60, [some (.ref 16), some (.int x1), some (.int v1), some (.int v2)], [.int 33, .int v2], σ2)) rfl <|
      mi_T.br (P := ¬ v2 = 33) (fun _ => rfl)
      (fun h5 => mi_T.go 2 (s1 := (2, [some (.ref 16), some (.int (x1 + 1)), some (.int v1), some (.int v2)], [], σ2)) rfl <|
      (k4 h1 h2 h3 h4 h5))
      (fun h5 => mi_T.go 5 (s1 := (70, [some (.ref 16), some (.int x1), some (.int v1), some (.int v2)], [.int (x1 + 2), .ref 1], σ2)) rfl <|
      mi_T.call (as := [.ref 1, .int (x1 + 2)]) (rest := []) (v := some (.int v3)) rfl rfl rfl rfl rfl (c3 h1 h2 h3 h4 h5) <|
      mi_T.br (P := ¬ v3 = 0) (fun _ => rfl)
      (fun h6 => mi_T.go 2 (s1 := (2, [some (.ref 16), some (.int (x1 + 1)), some (.int v1), some (.int v2)], [], σ3)) rfl <|
      (k5 h1 h2 h3 h4 h5 h6))
      (fun h6 => mi_T.go 1 (s1 := (77, [some (.ref 16), some (.int x1), some (.int v1), some (.int v2)], [.int 1], σ3)) rfl <|
      mi_T.fin (k6 h1 h2 h3 h4 h5 h6) (fun _ => rfl))))))
      (fun h2 => mi_T.go 1 (s1 := (29, [some (.ref 16), some (.int x1), some (.int v1), u3], [.int 1], σ1)) rfl <|
      mi_T.fin (k7 h1 h2) (fun _ => rfl)))

-- AssertionGate$Reader.afterName(I)I
theorem R80_0 {X : Nat × (Nat → Int32)} {d : Nat} {r : mA mG} {σ : mG} {x1 : Int32} {v1 : Int32} {σ1 : mG}
    (c1 : RR X d 46 [.ref 1, .int x1] σ (some (.int v1), σ1))
    (k1 : (v1 - x1) < 1 → r = (some (.int (-1)), σ1))
    (k2 : ¬ ((v1 - x1) < 1) → 6 < (v1 - x1) → r = (some (.int (-1)), σ1))
    (k3 : ¬ ((v1 - x1) < 1) → ¬ (6 < (v1 - x1)) → r = (some (.int v1), σ1))
    : TT X d tb80 (some .int) (0, [some (.ref 16), some (.int x1), none], [], σ) r := mi_T.go 3 (s1 := (5, [some (.ref 16), some (.int x1), none], [.int x1, .ref 1], σ)) rfl <|
      mi_T.call (as := [.ref 1, .int x1]) (rest := []) (v := some (.int v1)) rfl rfl rfl rfl rfl (c1) <|
      mi_T.go 5 (s1 := (13, [some (.ref 16), some (.int x1), some (.int v1)], [.int 1, .int (v1 - x1)], σ1)) rfl <|
      mi_T.br (P := (v1 - x1) < 1) (fun _ => rfl)
      (fun h1 => mi_T.go 1 (s1 := (29, [some (.ref 16), some (.int x1), some (.int v1)], [.int (-1)], σ1)) rfl <|
      mi_T.fin (k1 h1) (fun _ => rfl))
      (fun h1 => mi_T.go 4 (s1 := (21, [some (.ref 16), some (.int x1), some (.int v1)], [.int 6, .int (v1 - x1)], σ1)) rfl <|
      mi_T.br (P := 6 < (v1 - x1)) (fun _ => rfl)
      (fun h2 => mi_T.go 1 (s1 := (29, [some (.ref 16), some (.int x1), some (.int v1)], [.int (-1)], σ1)) rfl <|
      mi_T.fin (k2 h1 h2) (fun _ => rfl))
      (fun h2 => mi_T.go 2 (s1 := (29, [some (.ref 16), some (.int x1), some (.int v1)], [.int v1], σ1)) rfl <|
      mi_T.fin (k3 h1 h2) (fun _ => rfl)))

-- AssertionGate$Reader.afterStartTag(I)I
set_option maxRecDepth 100000 in
theorem R81_0 {X : Nat × (Nat → Int32)} {d : Nat} {r : mA mG} {σ : mG} {x1 : Int32} {v1 : Int32} {σ1 : mG} {v2 : Int32} {σ2 : mG} {v3 : Int32} {σ3 : mG} {v4 : Int32} {σ4 : mG} {v5 : Int32} {σ5 : mG} {v6 : Int32} {σ6 : mG}
    (c1 : RR X d 80 [.ref 16, .int (x1 + 1)] σ (some (.int v1), σ1))
    (c2 : RR X d 39 [.ref 1, .int x1] σ1 (some (.int v2), σ2))
    (k1 : ¬ v2 = 60 → r = (some (.int (-1)), σ2))
    (k2 : ¬ (¬ v2 = 60) → v1 = (-1) → r = (some (.int (-1)), σ2))
    (c3 : ¬ (¬ v2 = 60) → ¬ (v1 = (-1)) → (σ2.1 16 3) < 6 → RR X d 54 [.ref 5, .int (σ2.1 16 2), .int x1, .int v1] σ2 (some (.int v3), σ3))
    (c4 : ¬ (¬ v2 = 60) → ¬ (v1 = (-1)) → (σ2.1 16 3) < 6 → ¬ v3 = (-1) → RR X d 82 [.ref 16, .int v3, .int v1] σ3 (some (.int v4), σ4))
    (c5 : ¬ (¬ v2 = 60) → ¬ (v1 = (-1)) → (σ2.1 16 3) < 6 → ¬ v3 = (-1) → RR X d 39 [.ref 1, .int v4] σ4 (some (.int v5), σ5))
    (k3 : ¬ (¬ v2 = 60) → ¬ (v1 = (-1)) → (σ2.1 16 3) < 6 → ¬ v3 = (-1) → ¬ v5 = 47 → TT X d tb81 (some .int) (100, [some (.ref 16), some (.int x1), some (.int v1), some (.int v3), some (.int v4), none, none], [], σ5) r)
    (c6 : ¬ (¬ v2 = 60) → ¬ (v1 = (-1)) → (σ2.1 16 3) < 6 → ¬ v3 = (-1) → ¬ (¬ v5 = 47) → RR X d 39 [.ref 1, .int (v4 + 1)] σ5 (some (.int v6), σ6))
    (k4 : ¬ (¬ v2 = 60) → ¬ (v1 = (-1)) → (σ2.1 16 3) < 6 → ¬ v3 = (-1) → ¬ (¬ v5 = 47) → ¬ v6 = 62 → TT X d tb81 (some .int) (100, [some (.ref 16), some (.int x1), some (.int v1), some (.int v3), some (.int v4), none, none], [], σ6) r)
    (k5 : ¬ (¬ v2 = 60) → ¬ (v1 = (-1)) → (σ2.1 16 3) < 6 → ¬ v3 = (-1) → ¬ (¬ v5 = 47) → ¬ (¬ v6 = 62) → TT X d tb81 (some .int) (101, [some (.ref 16), some (.int x1), some (.int v1), some (.int v3), some (.int v4), none, none], [.int 1], σ6) r)
    (k6 : ¬ (¬ v2 = 60) → ¬ (v1 = (-1)) → (σ2.1 16 3) < 6 → ¬ (¬ v3 = (-1)) → r = (some (.int (-1)), σ3))
    (k7 : ¬ (¬ v2 = 60) → ¬ (v1 = (-1)) → ¬ ((σ2.1 16 3) < 6) → r = (some (.int (-1)), σ2))
    : TT X d tb81 (some .int) (0, [some (.ref 16), some (.int x1), none, none, none, none, none], [], σ) r := mi_T.go 4 (s1 := (4, [some (.ref 16), some (.int x1), none, none, none, none, none], [.int (x1 + 1), .ref 16], σ)) rfl <|
      mi_T.call (as := [.ref 16, .int (x1 + 1)]) (rest := []) (v := some (.int v1)) rfl rfl rfl rfl rfl (c1) <|
      mi_T.go 4 (s1 := (13, [some (.ref 16), some (.int x1), some (.int v1), none, none, none, none], [.int x1, .ref 1], σ1)) rfl <|
      mi_T.call (as := [.ref 1, .int x1]) (rest := []) (v := some (.int v2)) rfl rfl rfl rfl rfl (c2) <|
      mi_T.go 1 (s1 := (18, [some (.ref 16), some (.int x1), some (.int v1), none, none, none, none], [.int 60, .int v2], σ2)) rfl <|
      mi_T.br (P := ¬ v2 = 60) (fun _ => rfl)
      (fun h1 => mi_T.go 1 (s1 := (36, [some (.ref 16), some (.int x1), some (.int v1), none, none, none, none], [.int (-1)], σ2)) rfl <|
      mi_T.fin (k1 h1) (fun _ => rfl))
      (fun h1 => mi_T.go 2 (s1 := (23, [some (.ref 16), some (.int x1), some (.int v1), none, none, none, none], [.int (-1), .int v1], σ2)) rfl <|
      mi_T.br (P := v1 = (-1)) (fun _ => rfl)
      (fun h2 => mi_T.go 1 (s1 := (36, [some (.ref 16), some (.int x1), some (.int v1), none, none, none, none], [.int (-1)], σ2)) rfl <|
      mi_T.fin (k2 h1 h2) (fun _ => rfl))
      (fun h2 => mi_T.go 3 (s1 := (32, [some (.ref 16), some (.int x1), some (.int v1), none, none, none, none], [.int 6, .int (σ2.1 16 3)], σ2)) rfl <|
      mi_T.br (P := (σ2.1 16 3) < 6) (fun _ => rfl)
      (fun h3 => mi_T.go 6 (s1 := (47, [some (.ref 16), some (.int x1), some (.int v1), none, none, none, none], [.int v1, .int x1, .int (σ2.1 16 2), .ref 5], σ2)) rfl <|
      mi_T.call (as := [.ref 5, .int (σ2.1 16 2), .int x1, .int v1]) (rest := []) (v := some (.int v3)) rfl rfl rfl rfl rfl (c3 h1 h2 h3) <|
      mi_T.go 3 (s1 := (53, [some (.ref 16), some (.int x1), some (.int v1), some (.int v3), none, none, none], [.int (-1), .int v3], σ3)) rfl <|
      mi_T.br (P := ¬ v3 = (-1)) (fun _ => rfl)
      (fun h4 => mi_T.go 3 (s1 := (61, [some (.ref 16), some (.int x1), some (.int v1), some (.int v3), none, none, none], [.int v1, .int v3, .ref 16], σ3)) rfl <|
      mi_T.call (as := [.ref 16, .int v3, .int v1]) (rest := []) (v := some (.int v4)) rfl rfl rfl rfl rfl (c4 h1 h2 h3 h4) <|
      mi_T.go 4 (s1 := (72, [some (.ref 16), some (.int x1), some (.int v1), some (.int v3), some (.int v4), none, none], [.int v4, .ref 1], σ4)) rfl <|
      mi_T.call (as := [.ref 1, .int v4]) (rest := []) (v := some (.int v5)) rfl rfl rfl rfl rfl (c5 h1 h2 h3 h4) <|
      mi_T.go 1 (s1 := (77, [some (.ref 16), some (.int x1), some (.int v1), some (.int v3), some (.int v4), none, none], [.int 47, .int v5], σ5)) rfl <|
      mi_T.br (P := ¬ v5 = 47) (fun _ => rfl)
      (fun h5 => (k3 h1 h2 h3 h4 h5))
      (fun h5 => mi_T.go 5 (s1 := (88, [some (.ref 16), some (.int x1), some (.int v1), some (.int v3), some (.int v4), none, none], [.int (v4 + 1), .ref 1], σ5)) rfl <|
      mi_T.call (as := [.ref 1, .int (v4 + 1)]) (rest := []) (v := some (.int v6)) rfl rfl rfl rfl rfl (c6 h1 h2 h3 h4 h5) <|
      mi_T.go 1 (s1 := (93, [some (.ref 16), some (.int x1), some (.int v1), some (.int v3), some (.int v4), none, none], [.int 62, .int v6], σ6)) rfl <|
      mi_T.br (P := ¬ v6 = 62) (fun _ => rfl)
      (fun h6 => (k4 h1 h2 h3 h4 h5 h6))
      (fun h6 => mi_T.go 2 (s1 := (101, [some (.ref 16), some (.int x1), some (.int v1), some (.int v3), some (.int v4), none, none], [.int 1], σ6)) rfl <|
      (k5 h1 h2 h3 h4 h5 h6))))
      (fun h4 => mi_T.go 1 (s1 := (57, [some (.ref 16), some (.int x1), some (.int v1), some (.int v3), none, none, none], [.int (-1)], σ3)) rfl <|
      mi_T.fin (k6 h1 h2 h3 h4) (fun _ => rfl)))
      (fun h3 => mi_T.go 1 (s1 := (36, [some (.ref 16), some (.int x1), some (.int v1), none, none, none, none], [.int (-1)], σ2)) rfl <|
      mi_T.fin (k7 h1 h2 h3) (fun _ => rfl))))

set_option maxRecDepth 100000 in
theorem R81_100 {X : Nat × (Nat → Int32)} {d : Nat} {r : mA mG} {σ : mG} {x1 : Int32} {x2 : Int32} {x3 : Int32} {x4 : Int32}
    (k1 : TT X d tb81 (some .int) (101, [some (.ref 16), some (.int x1), some (.int x2), some (.int x3), some (.int x4), none, none], [.int 0], σ) r)
    : TT X d tb81 (some .int) (100, [some (.ref 16), some (.int x1), some (.int x2), some (.int x3), some (.int x4), none, none], [], σ) r := mi_T.go 1 (s1 := (101, [some (.ref 16), some (.int x1), some (.int x2), some (.int x3), some (.int x4), none, none], [.int 0], σ)) rfl <|
      k1

set_option maxRecDepth 100000 in
theorem R81_101 {X : Nat × (Nat → Int32)} {d : Nat} {r : mA mG} {σ : mG} {x1 : Int32} {x2 : Int32} {x3 : Int32} {x4 : Int32} {xs0 : Int32} {v1 : Int32} {σ1 : mG}
    (k1 : ¬ xs0 = 0 → TT X d tb81 (some .int) (124, [some (.ref 16), some (.int x1), some (.int x2), some (.int x3), some (.int x4), some (.int xs0), none], [], σ) r)
    (c1 : ¬ (¬ xs0 = 0) → RR X d 39 [.ref 1, .int x4] σ (some (.int v1), σ1))
    (k2 : ¬ (¬ xs0 = 0) → v1 = 62 → TT X d tb81 (some .int) (124, [some (.ref 16), some (.int x1), some (.int x2), some (.int x3), some (.int x4), some (.int xs0), none], [], σ1) r)
    (k3 : ¬ (¬ xs0 = 0) → ¬ (v1 = 62) → r = (some (.int (-1)), σ1))
    : TT X d tb81 (some .int) (101, [some (.ref 16), some (.int x1), some (.int x2), some (.int x3), some (.int x4), none, none], [.int xs0], σ) r := mi_T.go 2 (s1 := (105, [some (.ref 16), some (.int x1), some (.int x2), some (.int x3), some (.int x4), some (.int xs0), none], [.int xs0], σ)) rfl <|
      mi_T.br (P := ¬ xs0 = 0) (fun _ => rfl)
      (fun h1 => (k1 h1))
      (fun h1 => mi_T.go 3 (s1 := (114, [some (.ref 16), some (.int x1), some (.int x2), some (.int x3), some (.int x4), some (.int xs0), none], [.int x4, .ref 1], σ)) rfl <|
      mi_T.call (as := [.ref 1, .int x4]) (rest := []) (v := some (.int v1)) rfl rfl rfl rfl rfl (c1 h1) <|
      mi_T.go 1 (s1 := (119, [some (.ref 16), some (.int x1), some (.int x2), some (.int x3), some (.int x4), some (.int xs0), none], [.int 62, .int v1], σ1)) rfl <|
      mi_T.br (P := v1 = 62) (fun _ => rfl)
      (fun h2 => (k2 h1 h2))
      (fun h2 => mi_T.go 1 (s1 := (123, [some (.ref 16), some (.int x1), some (.int x2), some (.int x3), some (.int x4), some (.int xs0), none], [.int (-1)], σ1)) rfl <|
      mi_T.fin (k3 h1 h2) (fun _ => rfl)))

set_option maxRecDepth 100000 in
theorem R81_124 {X : Nat × (Nat → Int32)} {d : Nat} {r : mA mG} {σ : mG} {x1 : Int32} {x2 : Int32} {x3 : Int32} {x4 : Int32} {x5 : Int32}
    (k1 : x5 = 0 → TT X d tb81 (some .int) (140, [some (.ref 16), some (.int x1), some (.int x2), some (.int x3), some (.int x4), some (.int x5), none], [.int (x4 + 1)], σ) r)
    (k2 : ¬ (x5 = 0) → TT X d tb81 (some .int) (140, [some (.ref 16), some (.int x1), some (.int x2), some (.int x3), some (.int x4), some (.int x5), none], [.int (x4 + 2)], σ) r)
    : TT X d tb81 (some .int) (124, [some (.ref 16), some (.int x1), some (.int x2), some (.int x3), some (.int x4), some (.int x5), none], [], σ) r := mi_T.go 1 (s1 := (126, [some (.ref 16), some (.int x1), some (.int x2), some (.int x3), some (.int x4), some (.int x5), none], [.int x5], σ)) rfl <|
      mi_T.br (P := x5 = 0) (fun _ => rfl)
      (fun h1 => mi_T.go 3 (s1 := (140, [some (.ref 16), some (.int x1), some (.int x2), some (.int x3), some (.int x4), some (.int x5), none], [.int (x4 + 1)], σ)) rfl <|
      (k1 h1))
      (fun h1 => mi_T.go 4 (s1 := (140, [some (.ref 16), some (.int x1), some (.int x2), some (.int x3), some (.int x4), some (.int x5), none], [.int (x4 + 2)], σ)) rfl <|
      (k2 h1))

set_option maxRecDepth 100000 in
theorem R81_140 {X : Nat × (Nat → Int32)} {d : Nat} {r : mA mG} {σ : mG} {x1 : Int32} {x2 : Int32} {x3 : Int32} {x4 : Int32} {x5 : Int32} {xs0 : Int32}
    (b1 : mi_in x3 20 = true)
    (b2 : mi_in x3 20 = true)
    (b3 : mi_in x3 20 = true)
    (k1 : ¬ x5 = 0 → TT X d tb81 (some .int) (195, [some (.ref 16), some (.int x1), some (.int x2), some (.int x3), some (.int x4), some (.int x5), some (.int xs0)], [], (mi_uc (mi_uc (mi_uc σ.1 9 (upd (σ.1 9) x3.toNatClampNeg xs0)) 10 (upd (σ.1 10) x3.toNatClampNeg xs0)) 11 (upd (σ.1 11) x3.toNatClampNeg xs0), σ.2)) r)
    (k2 : ¬ (¬ x5 = 0) → TT X d tb81 (some .int) (195, [some (.ref 16), some (.int x1), some (.int x2), some (.int x3), some (.int x4), some (.int x5), some (.int xs0)], [], (mi_uc (mi_uc (mi_uc (mi_uc (mi_uc σ.1 9 (upd (σ.1 9) x3.toNatClampNeg xs0)) 10 (upd (σ.1 10) x3.toNatClampNeg xs0)) 11 (upd (σ.1 11) x3.toNatClampNeg xs0)) 16 (upd (σ.1 16) 2 x3)) 16 (upd (upd (σ.1 16) 2 x3) 3 ((σ.1 16 3) + 1)), σ.2)) r)
    : TT X d tb81 (some .int) (140, [some (.ref 16), some (.int x1), some (.int x2), some (.int x3), some (.int x4), some (.int x5), none], [.int xs0], σ) r := mi_T.go 6 (s1 := (152, [some (.ref 16), some (.int x1), some (.int x2), some (.int x3), some (.int x4), some (.int x5), some (.int xs0)], [.int xs0, .int x3, .ref 9], σ)) rfl <|
      mi_T.si rfl rfl (b1) <|
      mi_T.go 5 (s1 := (163, [some (.ref 16), some (.int x1), some (.int x2), some (.int x3), some (.int x4), some (.int x5), some (.int xs0)], [.int xs0, .int x3, .ref 10], (mi_uc σ.1 9 (upd (σ.1 9) x3.toNatClampNeg xs0), σ.2))) rfl <|
      mi_T.si rfl rfl (b2) <|
      mi_T.go 5 (s1 := (174, [some (.ref 16), some (.int x1), some (.int x2), some (.int x3), some (.int x4), some (.int x5), some (.int xs0)], [.int xs0, .int x3, .ref 11], (mi_uc (mi_uc σ.1 9 (upd (σ.1 9) x3.toNatClampNeg xs0)) 10 (upd (σ.1 10) x3.toNatClampNeg xs0), σ.2))) rfl <|
      mi_T.si rfl rfl (b3) <|
      mi_T.go 1 (s1 := (177, [some (.ref 16), some (.int x1), some (.int x2), some (.int x3), some (.int x4), some (.int x5), some (.int xs0)], [.int x5], (mi_uc (mi_uc (mi_uc σ.1 9 (upd (σ.1 9) x3.toNatClampNeg xs0)) 10 (upd (σ.1 10) x3.toNatClampNeg xs0)) 11 (upd (σ.1 11) x3.toNatClampNeg xs0), σ.2))) rfl <|
      mi_T.br (P := ¬ x5 = 0) (fun _ => rfl)
      (fun h1 => (k1 h1))
      (fun h1 => mi_T.go 9 (s1 := (195, [some (.ref 16), some (.int x1), some (.int x2), some (.int x3), some (.int x4), some (.int x5), some (.int xs0)], [], (mi_uc (mi_uc (mi_uc (mi_uc (mi_uc σ.1 9 (upd (σ.1 9) x3.toNatClampNeg xs0)) 10 (upd (σ.1 10) x3.toNatClampNeg xs0)) 11 (upd (σ.1 11) x3.toNatClampNeg xs0)) 16 (upd (σ.1 16) 2 x3)) 16 (upd (upd (σ.1 16) 2 x3) 3 ((σ.1 16 3) + 1)), σ.2))) rfl <|
      (k2 h1))

set_option maxRecDepth 100000 in
theorem R81_195 {X : Nat × (Nat → Int32)} {d : Nat} {r : mA mG} {σ : mG} {x1 : Int32} {x2 : Int32} {x3 : Int32} {x4 : Int32} {x5 : Int32} {x6 : Int32}
    (k1 : r = (some (.int x6), σ))
    : TT X d tb81 (some .int) (195, [some (.ref 16), some (.int x1), some (.int x2), some (.int x3), some (.int x4), some (.int x5), some (.int x6)], [], σ) r := mi_T.go 1 (s1 := (197, [some (.ref 16), some (.int x1), some (.int x2), some (.int x3), some (.int x4), some (.int x5), some (.int x6)], [.int x6], σ)) rfl <|
      mi_T.fin (k1) (fun _ => rfl)

-- AssertionGate$Reader.afterAttributes(II)I
theorem R82_0 {X : Nat × (Nat → Int32)} {d : Nat} {r : mA mG} {σ : mG} {x1 : Int32} {x2 : Int32}
    (k1 : TT X d tb82 (some .int) (5, [some (.ref 16), some (.int x1), some (.int x2), some (.int x2), some (.int 0), none, none, none], [], σ) r)
    : TT X d tb82 (some .int) (0, [some (.ref 16), some (.int x1), some (.int x2), none, none, none, none, none], [], σ) r := mi_T.go 4 (s1 := (5, [some (.ref 16), some (.int x1), some (.int x2), some (.int x2), some (.int 0), none, none, none], [], σ)) rfl <|
      k1

theorem R82_5 {X : Nat × (Nat → Int32)} {d : Nat} {r : mA mG} {σ : mG} {x1 : Int32} {x2 : Int32} {x3 : Int32} {x4 : Int32} {u5 : Option Value} {u6 : Option Value} {u7 : Option Value} {v1 : Int32} {σ1 : mG} {v2 : Int32} {σ2 : mG} {v3 : Int32} {σ3 : mG} {v4 : Int32} {σ4 : mG} {v5 : Int32} {σ5 : mG}
    (k1 : 4 < x4 → r = (some (.int (-1)), σ))
    (c1 : ¬ (4 < x4) → RR X d 47 [.ref 1, .int x3] σ (some (.int v1), σ1))
    (k2 : ¬ (4 < x4) → v1 = x3 → r = (some (.int v1), σ1))
    (c2 : ¬ (4 < x4) → ¬ (v1 = x3) → RR X d 46 [.ref 1, .int v1] σ1 (some (.int v2), σ2))
    (c3 : ¬ (4 < x4) → ¬ (v1 = x3) → ¬ v2 = v1 → RR X d 80 [.ref 16, .int v1] σ2 (some (.int v3), σ3))
    (c4 : ¬ (4 < x4) → ¬ (v1 = x3) → ¬ v2 = v1 → RR X d 83 [.ref 16, .int v3] σ3 (some (.int v4), σ4))
    (k3 : ¬ (4 < x4) → ¬ (v1 = x3) → ¬ v2 = v1 → v4 = (-1) → r = (some (.int (-1)), σ4))
    (c5 : ¬ (4 < x4) → ¬ (v1 = x3) → ¬ v2 = v1 → ¬ (v4 = (-1)) → RR X d 55 [.ref 5, .int x1, .int v1, .int v3, .int v4] σ4 (some (.int v5), σ5))
    (k4 : ¬ (4 < x4) → ¬ (v1 = x3) → ¬ v2 = v1 → ¬ (v4 = (-1)) → ¬ v5 = 0 → TT X d tb82 (some .int) (5, [some (.ref 16), some (.int x1), some (.int x2), some (.int (v4 + 1)), some (.int (x4 + 1)), some (.int v1), some (.int v3), some (.int v4)], [], σ5) r)
    (k5 : ¬ (4 < x4) → ¬ (v1 = x3) → ¬ v2 = v1 → ¬ (v4 = (-1)) → ¬ (¬ v5 = 0) → r = (some (.int (-1)), σ5))
    (k6 : ¬ (4 < x4) → ¬ (v1 = x3) → ¬ (¬ v2 = v1) → r = (some (.int v1), σ2))
    : TT X d tb82 (some .int) (5, [some (.ref 16), some (.int x1), some (.int x2), some (.int x3), some (.int x4), u5, u6, u7], [], σ) r := mi_T.go 2 (s1 := (8, [some (.ref 16), some (.int x1), some (.int x2), some (.int x3), some (.int x4), u5, u6, u7], [.int 4, .int x4], σ)) rfl <|
      mi_T.br (P := 4 < x4) (fun _ => rfl)
      (fun h1 => mi_T.go 1 (s1 := (97, [some (.ref 16), some (.int x1), some (.int x2), some (.int x3), some (.int x4), u5, u6, u7], [.int (-1)], σ)) rfl <|
      mi_T.fin (k1 h1) (fun _ => rfl))
      (fun h1 => mi_T.go 3 (s1 := (16, [some (.ref 16), some (.int x1), some (.int x2), some (.int x3), some (.int x4), u5, u6, u7], [.int x3, .ref 1], σ)) rfl <|
      mi_T.call (as := [.ref 1, .int x3]) (rest := []) (v := some (.int v1)) rfl rfl rfl rfl rfl (c1 h1) <|
      mi_T.go 3 (s1 := (24, [some (.ref 16), some (.int x1), some (.int x2), some (.int x3), some (.int x4), some (.int v1), u6, u7], [.int x3, .int v1], σ1)) rfl <|
      mi_T.br (P := v1 = x3) (fun _ => rfl)
      (fun h2 => mi_T.go 1 (s1 := (43, [some (.ref 16), some (.int x1), some (.int x2), some (.int x3), some (.int x4), some (.int v1), u6, u7], [.int v1], σ1)) rfl <|
      mi_T.fin (k2 h1 h2) (fun _ => rfl))
      (fun h2 => mi_T.go 3 (s1 := (33, [some (.ref 16), some (.int x1), some (.int x2), some (.int x3), some (.int x4), some (.int v1), u6, u7], [.int v1, .ref 1], σ1)) rfl <|
      mi_T.call (as := [.ref 1, .int v1]) (rest := []) (v := some (.int v2)) rfl rfl rfl rfl rfl (c2 h1 h2) <|
      mi_T.go 1 (s1 := (38, [some (.ref 16), some (.int x1), some (.int x2), some (.int x3), some (.int x4), some (.int v1), u6, u7], [.int v1, .int v2], σ2)) rfl <|
      mi_T.br (P := ¬ v2 = v1) (fun _ => rfl)
      (fun h3 => mi_T.go 2 (s1 := (47, [some (.ref 16), some (.int x1), some (.int x2), some (.int x3), some (.int x4), some (.int v1), u6, u7], [.int v1, .ref 16], σ2)) rfl <|
      mi_T.call (as := [.ref 16, .int v1]) (rest := []) (v := some (.int v3)) rfl rfl rfl rfl rfl (c3 h1 h2 h3) <|
      mi_T.go 3 (s1 := (55, [some (.ref 16), some (.int x1), some (.int x2), some (.int x3), some (.int x4), some (.int v1), some (.int v3), u7], [.int v3, .ref 16], σ3)) rfl <|
      mi_T.call (as := [.ref 16, .int v3]) (rest := []) (v := some (.int v4)) rfl rfl rfl rfl rfl (c4 h1 h2 h3) <|
      mi_T.go 3 (s1 := (63, [some (.ref 16), some (.int x1), some (.int x2), some (.int x3), some (.int x4), some (.int v1), some (.int v3), some (.int v4)], [.int (-1), .int v4], σ4)) rfl <|
      mi_T.br (P := v4 = (-1)) (fun _ => rfl)
      (fun h4 => mi_T.go 1 (s1 := (84, [some (.ref 16), some (.int x1), some (.int x2), some (.int x3), some (.int x4), some (.int v1), some (.int v3), some (.int v4)], [.int (-1)], σ4)) rfl <|
      mi_T.fin (k3 h1 h2 h3 h4) (fun _ => rfl))
      (fun h4 => mi_T.go 6 (s1 := (77, [some (.ref 16), some (.int x1), some (.int x2), some (.int x3), some (.int x4), some (.int v1), some (.int v3), some (.int v4)], [.int v4, .int v3, .int v1, .int x1, .ref 5], σ4)) rfl <|
      mi_T.call (as := [.ref 5, .int x1, .int v1, .int v3, .int v4]) (rest := []) (v := some (.int v5)) rfl rfl rfl rfl rfl (c5 h1 h2 h3 h4) <|
      mi_T.br (P := ¬ v5 = 0) (fun _ => rfl)
      (fun h5 => mi_T.go 6 (s1 := (5, [some (.ref 16), some (.int x1), some (.int x2), some (.int (v4 + 1)), some (.int (x4 + 1)), some (.int v1), some (.int v3), some (.int v4)], [], σ5)) rfl <|
      (k4 h1 h2 h3 h4 h5))
      (fun h5 => mi_T.go 1 (s1 := (84, [some (.ref 16), some (.int x1), some (.int x2), some (.int x3), some (.int x4), some (.int v1), some (.int v3), some (.int v4)], [.int (-1)], σ5)) rfl <|
      mi_T.fin (k5 h1 h2 h3 h4 h5) (fun _ => rfl))))
      (fun h3 => mi_T.go 1 (s1 := (43, [some (.ref 16), some (.int x1), some (.int x2), some (.int x3), some (.int x4), some (.int v1), u6, u7], [.int v1], σ2)) rfl <|
      mi_T.fin (k6 h1 h2 h3) (fun _ => rfl))))

-- AssertionGate$Reader.closingQuote(I)I
theorem R83_0 {X : Nat × (Nat → Int32)} {d : Nat} {r : mA mG} {σ : mG} {x1 : Int32} {v1 : Int32} {σ1 : mG} {v2 : Int32} {σ2 : mG}
    (c1 : RR X d 39 [.ref 1, .int x1] σ (some (.int v1), σ1))
    (k1 : ¬ v1 = 61 → r = (some (.int (-1)), σ1))
    (c2 : ¬ (¬ v1 = 61) → RR X d 39 [.ref 1, .int (x1 + 1)] σ1 (some (.int v2), σ2))
    (k2 : ¬ (¬ v1 = 61) → v2 = 34 → TT X d tb83 (some .int) (34, [some (.ref 16), some (.int x1), some (.int (x1 + 2))], [], σ2) r)
    (k3 : ¬ (¬ v1 = 61) → ¬ (v2 = 34) → r = (some (.int (-1)), σ2))
    : TT X d tb83 (some .int) (0, [some (.ref 16), some (.int x1), none], [], σ) r := mi_T.go 3 (s1 := (5, [some (.ref 16), some (.int x1), none], [.int x1, .ref 1], σ)) rfl <|
      mi_T.call (as := [.ref 1, .int x1]) (rest := []) (v := some (.int v1)) rfl rfl rfl rfl rfl (c1) <|
      mi_T.go 1 (s1 := (10, [some (.ref 16), some (.int x1), none], [.int 61, .int v1], σ1)) rfl <|
      mi_T.br (P := ¬ v1 = 61) (fun _ => rfl)
      (fun h1 => mi_T.go 1 (s1 := (29, [some (.ref 16), some (.int x1), none], [.int (-1)], σ1)) rfl <|
      mi_T.fin (k1 h1) (fun _ => rfl))
      (fun h1 => mi_T.go 5 (s1 := (20, [some (.ref 16), some (.int x1), none], [.int (x1 + 1), .ref 1], σ1)) rfl <|
      mi_T.call (as := [.ref 1, .int (x1 + 1)]) (rest := []) (v := some (.int v2)) rfl rfl rfl rfl rfl (c2 h1) <|
      mi_T.go 1 (s1 := (25, [some (.ref 16), some (.int x1), none], [.int 34, .int v2], σ2)) rfl <|
      mi_T.br (P := v2 = 34) (fun _ => rfl)
      (fun h2 => mi_T.go 4 (s1 := (34, [some (.ref 16), some (.int x1), some (.int (x1 + 2))], [], σ2)) rfl <|
      (k2 h1 h2))
      (fun h2 => mi_T.go 1 (s1 := (29, [some (.ref 16), some (.int x1), none], [.int (-1)], σ2)) rfl <|
      mi_T.fin (k3 h1 h2) (fun _ => rfl)))

theorem R83_34 {X : Nat × (Nat → Int32)} {d : Nat} {r : mA mG} {σ : mG} {x1 : Int32} {x2 : Int32} {v1 : Int32} {σ1 : mG} {v2 : Int32} {σ2 : mG} {v3 : Int32} {σ3 : mG} {v4 : Int32} {σ4 : mG} {v5 : Int32} {σ5 : mG}
    (c1 : (σ.1 1 1) ≤ x2 → RR X d 39 [.ref 1, .int x2] σ (some (.int v1), σ1))
    (k1 : (σ.1 1 1) ≤ x2 → ¬ v1 = 34 → r = (some (.int (-1)), σ1))
    (k2 : (σ.1 1 1) ≤ x2 → ¬ (¬ v1 = 34) → r = (some (.int x2), σ1))
    (c2 : ¬ ((σ.1 1 1) ≤ x2) → RR X d 39 [.ref 1, .int x2] σ (some (.int v2), σ2))
    (c3 : ¬ ((σ.1 1 1) ≤ x2) → v2 = 34 → RR X d 39 [.ref 1, .int x2] σ2 (some (.int v3), σ3))
    (k3 : ¬ ((σ.1 1 1) ≤ x2) → v2 = 34 → ¬ v3 = 34 → r = (some (.int (-1)), σ3))
    (k4 : ¬ ((σ.1 1 1) ≤ x2) → v2 = 34 → ¬ (¬ v3 = 34) → r = (some (.int x2), σ3))
    (c4 : ¬ ((σ.1 1 1) ≤ x2) → ¬ (v2 = 34) → RR X d 39 [.ref 1, .int x2] σ2 (some (.int v4), σ4))
    (c5 : ¬ ((σ.1 1 1) ≤ x2) → ¬ (v2 = 34) → v4 = 60 → RR X d 39 [.ref 1, .int x2] σ4 (some (.int v5), σ5))
    (k5 : ¬ ((σ.1 1 1) ≤ x2) → ¬ (v2 = 34) → v4 = 60 → ¬ v5 = 34 → r = (some (.int (-1)), σ5))
    (k6 : ¬ ((σ.1 1 1) ≤ x2) → ¬ (v2 = 34) → v4 = 60 → ¬ (¬ v5 = 34) → r = (some (.int x2), σ5))
    (k7 : ¬ ((σ.1 1 1) ≤ x2) → ¬ (v2 = 34) → ¬ (v4 = 60) → TT X d tb83 (some .int) (34, [some (.ref 16), some (.int x1), some (.int (x2 + 1))], [], σ4) r)
    : TT X d tb83 (some .int) (34, [some (.ref 16), some (.int x1), some (.int x2)], [], σ) r := mi_T.go 4 (s1 := (42, [some (.ref 16), some (.int x1), some (.int x2)], [.int (σ.1 1 1), .int x2], σ)) rfl <|
      mi_T.br (P := (σ.1 1 1) ≤ x2) (fun _ => rfl)
      (fun h1 => mi_T.go 3 (s1 := (82, [some (.ref 16), some (.int x1), some (.int x2)], [.int x2, .ref 1], σ)) rfl <|
      mi_T.call (as := [.ref 1, .int x2]) (rest := []) (v := some (.int v1)) rfl rfl rfl rfl rfl (c1 h1) <|
      mi_T.go 1 (s1 := (87, [some (.ref 16), some (.int x1), some (.int x2)], [.int 34, .int v1], σ1)) rfl <|
      mi_T.br (P := ¬ v1 = 34) (fun _ => rfl)
      (fun h2 => mi_T.go 1 (s1 := (95, [some (.ref 16), some (.int x1), some (.int x2)], [.int (-1)], σ1)) rfl <|
      mi_T.fin (k1 h1 h2) (fun _ => rfl))
      (fun h2 => mi_T.go 2 (s1 := (95, [some (.ref 16), some (.int x1), some (.int x2)], [.int x2], σ1)) rfl <|
      mi_T.fin (k2 h1 h2) (fun _ => rfl)))
      (fun h1 => mi_T.go 3 (s1 := (50, [some (.ref 16), some (.int x1), some (.int x2)], [.int x2, .ref 1], σ)) rfl <|
      mi_T.call (as := [.ref 1, .int x2]) (rest := []) (v := some (.int v2)) rfl rfl rfl rfl rfl (c2 h1) <|
      mi_T.go 1 (s1 := (55, [some (.ref 16), some (.int x1), some (.int x2)], [.int 34, .int v2], σ2)) rfl <|
      mi_T.br (P := v2 = 34) (fun _ => rfl)
      (fun h2 => mi_T.go 3 (s1 := (82, [some (.ref 16), some (.int x1), some (.int x2)], [.int x2, .ref 1], σ2)) rfl <|
      mi_T.call (as := [.ref 1, .int x2]) (rest := []) (v := some (.int v3)) rfl rfl rfl rfl rfl (c3 h1 h2) <|
      mi_T.go 1 (s1 := (87, [some (.ref 16), some (.int x1), some (.int x2)], [.int 34, .int v3], σ3)) rfl <|
      mi_T.br (P := ¬ v3 = 34) (fun _ => rfl)
      (fun h3 => mi_T.go 1 (s1 := (95, [some (.ref 16), some (.int x1), some (.int x2)], [.int (-1)], σ3)) rfl <|
      mi_T.fin (k3 h1 h2 h3) (fun _ => rfl))
      (fun h3 => mi_T.go 2 (s1 := (95, [some (.ref 16), some (.int x1), some (.int x2)], [.int x2], σ3)) rfl <|
      mi_T.fin (k4 h1 h2 h3) (fun _ => rfl)))
      (fun h2 => mi_T.go 3 (s1 := (63, [some (.ref 16), some (.int x1), some (.int x2)], [.int x2, .ref 1], σ2)) rfl <|
      mi_T.call (as := [.ref 1, .int x2]) (rest := []) (v := some (.int v4)) rfl rfl rfl rfl rfl (c4 h1 h2) <|
      mi_T.go 1 (s1 := (68, [some (.ref 16), some (.int x1), some (.int x2)], [.int 60, .int v4], σ4)) rfl <|
      mi_T.br (P := v4 = 60) (fun _ => rfl)
      (fun h3 => mi_T.go 3 (s1 := (82, [some (.ref 16), some (.int x1), some (.int x2)], [.int x2, .ref 1], σ4)) rfl <|
      mi_T.call (as := [.ref 1, .int x2]) (rest := []) (v := some (.int v5)) rfl rfl rfl rfl rfl (c5 h1 h2 h3) <|
      mi_T.go 1 (s1 := (87, [some (.ref 16), some (.int x1), some (.int x2)], [.int 34, .int v5], σ5)) rfl <|
      mi_T.br (P := ¬ v5 = 34) (fun _ => rfl)
      (fun h4 => mi_T.go 1 (s1 := (95, [some (.ref 16), some (.int x1), some (.int x2)], [.int (-1)], σ5)) rfl <|
      mi_T.fin (k5 h1 h2 h3 h4) (fun _ => rfl))
      (fun h4 => mi_T.go 2 (s1 := (95, [some (.ref 16), some (.int x1), some (.int x2)], [.int x2], σ5)) rfl <|
      mi_T.fin (k6 h1 h2 h3 h4) (fun _ => rfl)))
      (fun h3 => mi_T.go 2 (s1 := (34, [some (.ref 16), some (.int x1), some (.int (x2 + 1))], [], σ4)) rfl <|
      (k7 h1 h2 h3))))

-- AssertionGate$Reader.afterEndTag(I)I
theorem R84_0 {X : Nat × (Nat → Int32)} {d : Nat} {r : mA mG} {σ : mG} {x1 : Int32} {v1 : Int32} {σ1 : mG} {v2 : Int32} {σ2 : mG} {v3 : Int32} {σ3 : mG} {v4 : Int32} {σ4 : mG} {v5 : Int32} {σ5 : mG}
    (c1 : RR X d 80 [.ref 16, .int (x1 + 2)] σ (some (.int v1), σ1))
    (k1 : v1 = (-1) → r = (some (.int (-1)), σ1))
    (c2 : ¬ (v1 = (-1)) → RR X d 53 [.ref 5, .int (σ1.1 16 2)] σ1 (some (.int v2), σ2))
    (b1 : ¬ (v1 = (-1)) → ¬ v2 = 0 → mi_in (σ2.1 16 2) 20 = true)
    (b2 : ¬ (v1 = (-1)) → ¬ v2 = 0 → mi_in (σ2.1 16 2) 20 = true)
    (c3 : ¬ (v1 = (-1)) → ¬ v2 = 0 → RR X d 51 [.ref 1, .int (x1 + 2), .int v1, .int ((σ2.1 7 ((σ2.1 16 2).toNatClampNeg)) + 1), .int (σ2.1 8 ((σ2.1 16 2).toNatClampNeg))] σ2 (some (.int v3), σ3))
    (c4 : ¬ (v1 = (-1)) → ¬ v2 = 0 → v3 = 0 → RR X d 47 [.ref 1, .int v1] σ3 (some (.int v4), σ4))
    (c5 : ¬ (v1 = (-1)) → ¬ v2 = 0 → v3 = 0 → RR X d 39 [.ref 1, .int v4] σ4 (some (.int v5), σ5))
    (b3 : ¬ (v1 = (-1)) → ¬ v2 = 0 → v3 = 0 → v5 = 62 → mi_in (σ5.1 16 2) 20 = true)
    (b4 : ¬ (v1 = (-1)) → ¬ v2 = 0 → v3 = 0 → v5 = 62 → mi_in (σ5.1 16 2) 20 = true)
    (b5 : ¬ (v1 = (-1)) → ¬ v2 = 0 → v3 = 0 → v5 = 62 → mi_in (σ5.1 16 2) 20 = true)
    (k2 : ¬ (v1 = (-1)) → ¬ v2 = 0 → v3 = 0 → v5 = 62 → r = (some (.int (v4 + 1)), (mi_uc (mi_uc (mi_uc (mi_uc σ5.1 10 (upd (σ5.1 10) ((σ5.1 16 2).toNatClampNeg) x1)) 11 (upd (σ5.1 11) ((σ5.1 16 2).toNatClampNeg) (v4 + 1))) 16 (upd (σ5.1 16) 2 (σ5.1 6 ((σ5.1 16 2).toNatClampNeg)))) 16 (upd (upd (σ5.1 16) 2 (σ5.1 6 ((σ5.1 16 2).toNatClampNeg))) 3 ((σ5.1 16 3) - 1)), σ5.2)))
    (k3 : ¬ (v1 = (-1)) → ¬ v2 = 0 → v3 = 0 → ¬ (v5 = 62) → r = (some (.int (-1)), σ5))
    (k4 : ¬ (v1 = (-1)) → ¬ v2 = 0 → ¬ (v3 = 0) → r = (some (.int (-1)), σ3))
    (k5 : ¬ (v1 = (-1)) → ¬ (¬ v2 = 0) → r = (some (.int (-1)), σ2))
    : TT X d tb84 (some .int) (0, [some (.ref 16), some (.int x1), none, none], [], σ) r := mi_T.go 4 (s1 := (4, [some (.ref 16), some (.int x1), none, none], [.int (x1 + 2), .ref 16], σ)) rfl <|
      mi_T.call (as := [.ref 16, .int (x1 + 2)]) (rest := []) (v := some (.int v1)) rfl rfl rfl rfl rfl (c1) <|
      mi_T.go 3 (s1 := (10, [some (.ref 16), some (.int x1), some (.int v1), none], [.int (-1), .int v1], σ1)) rfl <|
      mi_T.br (P := v1 = (-1)) (fun _ => rfl)
      (fun h1 => mi_T.go 1 (s1 := (28, [some (.ref 16), some (.int x1), some (.int v1), none], [.int (-1)], σ1)) rfl <|
      mi_T.fin (k1 h1) (fun _ => rfl))
      (fun h1 => mi_T.go 4 (s1 := (21, [some (.ref 16), some (.int x1), some (.int v1), none], [.int (σ1.1 16 2), .ref 5], σ1)) rfl <|
      mi_T.call (as := [.ref 5, .int (σ1.1 16 2)]) (rest := []) (v := some (.int v2)) rfl rfl rfl rfl rfl (c2 h1) <|
      mi_T.br (P := ¬ v2 = 0) (fun _ => rfl)
      (fun h2 => mi_T.go 11 (s1 := (48, [some (.ref 16), some (.int x1), some (.int v1), none], [.int (σ2.1 16 2), .ref 7, .int v1, .int (x1 + 2), .ref 1], σ2)) rfl <|
      mi_T.li rfl rfl (b1 h1 h2) <|
      mi_T.go 7 (s1 := (62, [some (.ref 16), some (.int x1), some (.int v1), none], [.int (σ2.1 16 2), .ref 8, .int ((σ2.1 7 ((σ2.1 16 2).toNatClampNeg)) + 1), .int v1, .int (x1 + 2), .ref 1], σ2)) rfl <|
      mi_T.li rfl rfl (b2 h1 h2) <|
      mi_T.call (as := [.ref 1, .int (x1 + 2), .int v1, .int ((σ2.1 7 ((σ2.1 16 2).toNatClampNeg)) + 1), .int (σ2.1 8 ((σ2.1 16 2).toNatClampNeg))]) (rest := []) (v := some (.int v3)) rfl rfl rfl rfl rfl (c3 h1 h2) <|
      mi_T.br (P := v3 = 0) (fun _ => rfl)
      (fun h3 => mi_T.go 3 (s1 := (76, [some (.ref 16), some (.int x1), some (.int v1), none], [.int v1, .ref 1], σ3)) rfl <|
      mi_T.call (as := [.ref 1, .int v1]) (rest := []) (v := some (.int v4)) rfl rfl rfl rfl rfl (c4 h1 h2 h3) <|
      mi_T.go 4 (s1 := (85, [some (.ref 16), some (.int x1), some (.int v1), some (.int v4)], [.int v4, .ref 1], σ4)) rfl <|
      mi_T.call (as := [.ref 1, .int v4]) (rest := []) (v := some (.int v5)) rfl rfl rfl rfl rfl (c5 h1 h2 h3) <|
      mi_T.go 1 (s1 := (90, [some (.ref 16), some (.int x1), some (.int v1), some (.int v4)], [.int 62, .int v5], σ5)) rfl <|
      mi_T.br (P := v5 = 62) (fun _ => rfl)
      (fun h4 => mi_T.go 6 (s1 := (107, [some (.ref 16), some (.int x1), some (.int v1), some (.int v4)], [.int x1, .int (σ5.1 16 2), .ref 10], σ5)) rfl <|
      mi_T.si rfl rfl (b3 h1 h2 h3 h4) <|
      mi_T.go 8 (s1 := (122, [some (.ref 16), some (.int x1), some (.int v1), some (.int v4)], [.int (v4 + 1), .int (σ5.1 16 2), .ref 11], (mi_uc σ5.1 10 (upd (σ5.1 10) ((σ5.1 16 2).toNatClampNeg) x1), σ5.2))) rfl <|
      mi_T.si rfl rfl (b4 h1 h2 h3 h4) <|
      mi_T.go 6 (s1 := (135, [some (.ref 16), some (.int x1), some (.int v1), some (.int v4)], [.int (σ5.1 16 2), .ref 6, .ref 16], (mi_uc (mi_uc σ5.1 10 (upd (σ5.1 10) ((σ5.1 16 2).toNatClampNeg) x1)) 11 (upd (σ5.1 11) ((σ5.1 16 2).toNatClampNeg) (v4 + 1)), σ5.2))) rfl <|
      mi_T.li rfl rfl (b5 h1 h2 h3 h4) <|
      mi_T.go 10 (s1 := (152, [some (.ref 16), some (.int x1), some (.int v1), some (.int v4)], [.int (v4 + 1)], (mi_uc (mi_uc (mi_uc (mi_uc σ5.1 10 (upd (σ5.1 10) ((σ5.1 16 2).toNatClampNeg) x1)) 11 (upd (σ5.1 11) ((σ5.1 16 2).toNatClampNeg) (v4 + 1))) 16 (upd (σ5.1 16) 2 (σ5.1 6 ((σ5.1 16 2).toNatClampNeg)))) 16 (upd (upd (σ5.1 16) 2 (σ5.1 6 ((σ5.1 16 2).toNatClampNeg))) 3 ((σ5.1 16 3) - 1)), σ5.2))) rfl <|
      mi_T.fin (k2 h1 h2 h3 h4) (fun _ => rfl))
      (fun h4 => mi_T.go 1 (s1 := (94, [some (.ref 16), some (.int x1), some (.int v1), some (.int v4)], [.int (-1)], σ5)) rfl <|
      mi_T.fin (k3 h1 h2 h3 h4) (fun _ => rfl)))
      (fun h3 => mi_T.go 1 (s1 := (70, [some (.ref 16), some (.int x1), some (.int v1), none], [.int (-1)], σ3)) rfl <|
      mi_T.fin (k4 h1 h2 h3) (fun _ => rfl)))
      (fun h2 => mi_T.go 1 (s1 := (28, [some (.ref 16), some (.int x1), some (.int v1), none], [.int (-1)], σ2)) rfl <|
      mi_T.fin (k5 h1 h2) (fun _ => rfl)))

