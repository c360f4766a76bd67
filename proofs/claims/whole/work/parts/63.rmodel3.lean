/-! Rules of AssertionGateModel, printed by a program: what each stretch of its code does. -/
-- AssertionGateModel.twice()Z
theorem R173_0 {X : Nat × (Nat → Int32)} {d : Nat} {r : mA mG} {σ : mG} 
    (k1 : TT X d tb173 (some .boolean) (4, [some (.ref 38), some (.int 0), some (.int 0), none, none, none], [], σ) r)
    : TT X d tb173 (some .boolean) (0, [some (.ref 38), none, none, none, none, none], [], σ) r := mi_T.go 4 (s1 := (4, [some (.ref 38), some (.int 0), some (.int 0), none, none, none], [], σ)) rfl <|
      k1

theorem R173_4 {X : Nat × (Nat → Int32)} {d : Nat} {r : mA mG} {σ : mG} {x1 : Int32} {x2 : Int32} {u3 : Option Value} {u4 : Option Value} {u5 : Option Value}
    (k1 : (σ.1 38 22) ≤ x2 → r = (some (.int x1), σ))
    (b1 : (σ.1 38 22) ≤ x2 → x1 = 0 ∨ x1 = 1)
    (k2 : ¬ ((σ.1 38 22) ≤ x2) → TT X d tb173 (some .boolean) (14, [some (.ref 38), some (.int x1), some (.int x2), some (.int 0), u4, u5], [], σ) r)
    : TT X d tb173 (some .boolean) (4, [some (.ref 38), some (.int x1), some (.int x2), u3, u4, u5], [], σ) r := mi_T.go 3 (s1 := (9, [some (.ref 38), some (.int x1), some (.int x2), u3, u4, u5], [.int (σ.1 38 22), .int x2], σ)) rfl <|
      mi_T.br (P := (σ.1 38 22) ≤ x2) (fun _ => rfl)
      (fun h1 => mi_T.go 1 (s1 := (83, [some (.ref 38), some (.int x1), some (.int x2), u3, u4, u5], [.int x1], σ)) rfl <|
      mi_T.finz rfl (b1 h1) (k1 h1))
      (fun h1 => mi_T.go 2 (s1 := (14, [some (.ref 38), some (.int x1), some (.int x2), some (.int 0), u4, u5], [], σ)) rfl <|
      (k2 h1))

theorem R173_14 {X : Nat × (Nat → Int32)} {d : Nat} {r : mA mG} {σ : mG} {x1 : Int32} {x2 : Int32} {x3 : Int32} {u4 : Option Value} {u5 : Option Value} {v1 : Int32} {σ1 : mG} {v2 : Int32} {σ2 : mG} {v3 : Int32} {σ3 : mG}
    (k1 : x2 ≤ x3 → TT X d tb173 (some .boolean) (4, [some (.ref 38), some (.int x1), some (.int (x2 + 1)), some (.int x3), u4, u5], [], σ) r)
    (c1 : ¬ (x2 ≤ x3) → RR X d 148 [.ref 38, .int x2, .long 115878217646080] σ (some (.int v1), σ1))
    (c2 : ¬ (x2 ≤ x3) → RR X d 148 [.ref 38, .int x3, .long 115878217646080] σ1 (some (.int v2), σ2))
    (k2 : ¬ (x2 ≤ x3) → ¬ x1 = 0 → TT X d tb173 (some .boolean) (14, [some (.ref 38), some (.int 1), some (.int x2), some (.int (x3 + 1)), some (.int v1), some (.int v2)], [], σ2) r)
    (k3 : ¬ (x2 ≤ x3) → ¬ (¬ x1 = 0) → v1 < 0 → TT X d tb173 (some .boolean) (14, [some (.ref 38), some (.int 0), some (.int x2), some (.int (x3 + 1)), some (.int v1), some (.int v2)], [], σ2) r)
    (k4 : ¬ (x2 ≤ x3) → ¬ (¬ x1 = 0) → ¬ (v1 < 0) → v2 < 0 → TT X d tb173 (some .boolean) (14, [some (.ref 38), some (.int 0), some (.int x2), some (.int (x3 + 1)), some (.int v1), some (.int v2)], [], σ2) r)
    (c3 : ¬ (x2 ≤ x3) → ¬ (¬ x1 = 0) → ¬ (v1 < 0) → ¬ (v2 < 0) → RR X d 168 [.ref 38, .int v1, .int v2] σ2 (some (.int v3), σ3))
    (k5 : ¬ (x2 ≤ x3) → ¬ (¬ x1 = 0) → ¬ (v1 < 0) → ¬ (v2 < 0) → v3 = 0 → TT X d tb173 (some .boolean) (14, [some (.ref 38), some (.int 0), some (.int x2), some (.int (x3 + 1)), some (.int v1), some (.int v2)], [], σ3) r)
    (k6 : ¬ (x2 ≤ x3) → ¬ (¬ x1 = 0) → ¬ (v1 < 0) → ¬ (v2 < 0) → ¬ (v3 = 0) → TT X d tb173 (some .boolean) (14, [some (.ref 38), some (.int 1), some (.int x2), some (.int (x3 + 1)), some (.int v1), some (.int v2)], [], σ3) r)
    : TT X d tb173 (some .boolean) (14, [some (.ref 38), some (.int x1), some (.int x2), some (.int x3), u4, u5], [], σ) r := mi_T.go 2 (s1 := (16, [some (.ref 38), some (.int x1), some (.int x2), some (.int x3), u4, u5], [.int x2, .int x3], σ)) rfl <|
      mi_T.br (P := x2 ≤ x3) (fun _ => rfl)
      (fun h1 => mi_T.go 2 (s1 := (4, [some (.ref 38), some (.int x1), some (.int (x2 + 1)), some (.int x3), u4, u5], [], σ)) rfl <|
      (k1 h1))
      (fun h1 => mi_T.go 3 (s1 := (24, [some (.ref 38), some (.int x1), some (.int x2), some (.int x3), u4, u5], [.long 115878217646080, .int x2, .ref 38], σ)) rfl <|
      mi_T.call (as := [.ref 38, .int x2, .long 115878217646080]) (rest := []) (v := some (.int v1)) rfl rfl rfl rfl rfl (c1 h1) <|
      mi_T.go 4 (s1 := (34, [some (.ref 38), some (.int x1), some (.int x2), some (.int x3), some (.int v1), u5], [.long 115878217646080, .int x3, .ref 38], σ1)) rfl <|
      mi_T.call (as := [.ref 38, .int x3, .long 115878217646080]) (rest := []) (v := some (.int v2)) rfl rfl rfl rfl rfl (c2 h1) <|
      mi_T.go 2 (s1 := (40, [some (.ref 38), some (.int x1), some (.int x2), some (.int x3), some (.int v1), some (.int v2)], [.int x1], σ2)) rfl <|
      mi_T.br (P := ¬ x1 = 0) (fun _ => rfl)
      (fun h2 => mi_T.go 5 (s1 := (14, [some (.ref 38), some (.int 1), some (.int x2), some (.int (x3 + 1)), some (.int v1), some (.int v2)], [], σ2)) rfl <|
      (k2 h1 h2))
      (fun h2 => mi_T.go 1 (s1 := (45, [some (.ref 38), some (.int x1), some (.int x2), some (.int x3), some (.int v1), some (.int v2)], [.int v1], σ2)) rfl <|
      mi_T.br (P := v1 < 0) (fun _ => rfl)
      (fun h3 => mi_T.go 4 (s1 := (14, [some (.ref 38), some (.int 0), some (.int x2), some (.int (x3 + 1)), some (.int v1), some (.int v2)], [], σ2)) rfl <|
      (k3 h1 h2 h3))
      (fun h3 => mi_T.go 1 (s1 := (50, [some (.ref 38), some (.int x1), some (.int x2), some (.int x3), some (.int v1), some (.int v2)], [.int v2], σ2)) rfl <|
      mi_T.br (P := v2 < 0) (fun _ => rfl)
      (fun h4 => mi_T.go 4 (s1 := (14, [some (.ref 38), some (.int 0), some (.int x2), some (.int (x3 + 1)), some (.int v1), some (.int v2)], [], σ2)) rfl <|
      (k4 h1 h2 h3 h4))
      (fun h4 => mi_T.go 3 (s1 := (58, [some (.ref 38), some (.int x1), some (.int x2), some (.int x3), some (.int v1), some (.int v2)], [.int v2, .int v1, .ref 38], σ2)) rfl <|
      mi_T.call (as := [.ref 38, .int v1, .int v2]) (rest := []) (v := some (.int v3)) rfl rfl rfl rfl rfl (c3 h1 h2 h3 h4) <|
      mi_T.br (P := v3 = 0) (fun _ => rfl)
      (fun h5 => mi_T.go 4 (s1 := (14, [some (.ref 38), some (.int 0), some (.int x2), some (.int (x3 + 1)), some (.int v1), some (.int v2)], [], σ3)) rfl <|
      (k5 h1 h2 h3 h4 h5))
      (fun h5 => mi_T.go 5 (s1 := (14, [some (.ref 38), some (.int 1), some (.int x2), some (.int (x3 + 1)), some (.int v1), some (.int v2)], [], σ3)) rfl <|
      (k6 h1 h2 h3 h4 h5))))))

-- AssertionGateModel.isResponse()Z
set_option maxRecDepth 100000 in
theorem R174_0 {X : Nat × (Nat → Int32)} {d : Nat} {r : mA mG} {σ : mG} {v1 : Int64} {σ1 : mG} {v2 : Int32} {σ2 : mG} {v3 : Int32} {σ3 : mG} {v4 : Int32} {σ4 : mG}
    (b1 : mi_in 0 20 = true)
    (k1 : ¬ (lg_cmp (σ.2 52 ((0 : Int32).toNatClampNeg)) 125780053983232) = 0 → TT X d tb174 (some .boolean) (60, [some (.ref 38), none, none, none, none, none, none], [], σ) r)
    (c1 : ¬ (¬ (lg_cmp (σ.2 52 ((0 : Int32).toNatClampNeg)) 125780053983232) = 0) → RR X d 166 [.ref 38, .int 0, .long 115878217646080] σ (some (.long v1), σ1))
    (k2 : ¬ (¬ (lg_cmp (σ.2 52 ((0 : Int32).toNatClampNeg)) 125780053983232) = 0) → (lg_cmp v1 0) = 0 → TT X d tb174 (some .boolean) (60, [some (.ref 38), none, none, none, none, none, none], [], σ1) r)
    (c2 : ¬ (¬ (lg_cmp (σ.2 52 ((0 : Int32).toNatClampNeg)) 125780053983232) = 0) → ¬ ((lg_cmp v1 0) = 0) → RR X d 148 [.ref 38, .int 0, .long 128020090191872] σ1 (some (.int v2), σ2))
    (k3 : ¬ (¬ (lg_cmp (σ.2 52 ((0 : Int32).toNatClampNeg)) 125780053983232) = 0) → ¬ ((lg_cmp v1 0) = 0) → v2 < 0 → TT X d tb174 (some .boolean) (60, [some (.ref 38), none, none, none, none, none, none], [], σ2) r)
    (c3 : ¬ (¬ (lg_cmp (σ.2 52 ((0 : Int32).toNatClampNeg)) 125780053983232) = 0) → ¬ ((lg_cmp v1 0) = 0) → ¬ (v2 < 0) → RR X d 148 [.ref 38, .int 0, .long 115940293345280] σ2 (some (.int v3), σ3))
    (k4 : ¬ (¬ (lg_cmp (σ.2 52 ((0 : Int32).toNatClampNeg)) 125780053983232) = 0) → ¬ ((lg_cmp v1 0) = 0) → ¬ (v2 < 0) → v3 < 0 → TT X d tb174 (some .boolean) (60, [some (.ref 38), none, none, none, none, none, none], [], σ3) r)
    (c4 : ¬ (¬ (lg_cmp (σ.2 52 ((0 : Int32).toNatClampNeg)) 125780053983232) = 0) → ¬ ((lg_cmp v1 0) = 0) → ¬ (v2 < 0) → ¬ (v3 < 0) → RR X d 172 [.ref 38, .int 0] σ3 (some (.int v4), σ4))
    (k5 : ¬ (¬ (lg_cmp (σ.2 52 ((0 : Int32).toNatClampNeg)) 125780053983232) = 0) → ¬ ((lg_cmp v1 0) = 0) → ¬ (v2 < 0) → ¬ (v3 < 0) → v4 = 0 → TT X d tb174 (some .boolean) (60, [some (.ref 38), none, none, none, none, none, none], [], σ4) r)
    (k6 : ¬ (¬ (lg_cmp (σ.2 52 ((0 : Int32).toNatClampNeg)) 125780053983232) = 0) → ¬ ((lg_cmp v1 0) = 0) → ¬ (v2 < 0) → ¬ (v3 < 0) → ¬ (v4 = 0) → TT X d tb174 (some .boolean) (61, [some (.ref 38), none, none, none, none, none, none], [.int 1], σ4) r)
    : TT X d tb174 (some .boolean) (0, [some (.ref 38), none, none, none, none, none, none], [], σ) r := mi_T.go 3 (s1 := (5, [some (.ref 38), none, none, none, none, none, none], [.int 0, .ref 52], σ)) rfl <|
      mi_T.lj rfl rfl (b1) <|
      mi_T.go 2 (s1 := (10, [some (.ref 38), none, none, none, none, none, none], [.int (lg_cmp (σ.2 52 ((0 : Int32).toNatClampNeg)) 125780053983232)], σ)) rfl <|
      mi_T.br (P := ¬ (lg_cmp (σ.2 52 ((0 : Int32).toNatClampNeg)) 125780053983232) = 0) (fun _ => rfl)
      (fun h1 => (k1 h1))
      (fun h1 => mi_T.go 3 (s1 := (18, [some (.ref 38), none, none, none, none, none, none], [.long 115878217646080, .int 0, .ref 38], σ)) rfl <|
      mi_T.call (as := [.ref 38, .int 0, .long 115878217646080]) (rest := []) (v := some (.long v1)) rfl rfl rfl rfl rfl (c1 h1) <|
      mi_T.go 2 (s1 := (23, [some (.ref 38), none, none, none, none, none, none], [.int (lg_cmp v1 0)], σ1)) rfl <|
      mi_T.br (P := (lg_cmp v1 0) = 0) (fun _ => rfl)
      (fun h2 => (k2 h1 h2))
      (fun h2 => mi_T.go 3 (s1 := (31, [some (.ref 38), none, none, none, none, none, none], [.long 128020090191872, .int 0, .ref 38], σ1)) rfl <|
      mi_T.call (as := [.ref 38, .int 0, .long 128020090191872]) (rest := []) (v := some (.int v2)) rfl rfl rfl rfl rfl (c2 h1 h2) <|
      mi_T.br (P := v2 < 0) (fun _ => rfl)
      (fun h3 => (k3 h1 h2 h3))
      (fun h3 => mi_T.go 3 (s1 := (42, [some (.ref 38), none, none, none, none, none, none], [.long 115940293345280, .int 0, .ref 38], σ2)) rfl <|
      mi_T.call (as := [.ref 38, .int 0, .long 115940293345280]) (rest := []) (v := some (.int v3)) rfl rfl rfl rfl rfl (c3 h1 h2 h3) <|
      mi_T.br (P := v3 < 0) (fun _ => rfl)
      (fun h4 => (k4 h1 h2 h3 h4))
      (fun h4 => mi_T.go 2 (s1 := (50, [some (.ref 38), none, none, none, none, none, none], [.int 0, .ref 38], σ3)) rfl <|
      mi_T.call (as := [.ref 38, .int 0]) (rest := []) (v := some (.int v4)) rfl rfl rfl rfl rfl (c4 h1 h2 h3 h4) <|
      mi_T.br (P := v4 = 0) (fun _ => rfl)
      (fun h5 => (k5 h1 h2 h3 h4 h5))
      (fun h5 => mi_T.go 2 (s1 := (61, [some (.ref 38), none, none, none, none, none, none], [.int 1], σ4)) rfl <|
      (k6 h1 h2 h3 h4 h5))))))

set_option maxRecDepth 100000 in
theorem R174_60 {X : Nat × (Nat → Int32)} {d : Nat} {r : mA mG} {σ : mG} 
    (k1 : TT X d tb174 (some .boolean) (61, [some (.ref 38), none, none, none, none, none, none], [.int 0], σ) r)
    : TT X d tb174 (some .boolean) (60, [some (.ref 38), none, none, none, none, none, none], [], σ) r := mi_T.go 1 (s1 := (61, [some (.ref 38), none, none, none, none, none, none], [.int 0], σ)) rfl <|
      k1

set_option maxRecDepth 100000 in
theorem R174_61 {X : Nat × (Nat → Int32)} {d : Nat} {r : mA mG} {σ : mG} {xs0 : Int32} {v1 : Int32} {σ1 : mG} {v2 : Int32} {σ2 : mG} {v3 : Int32} {σ3 : mG} {v4 : Int32} {σ4 : mG} {v5 : Int64} {σ5 : mG} {v6 : Int32} {σ6 : mG} {v7 : Int32} {σ7 : mG} {v8 : Int32} {σ8 : mG} {v9 : Int32} {σ9 : mG} {v10 : Int32} {σ10 : mG} {v11 : Int32} {σ11 : mG} {v12 : Int32} {σ12 : mG} {v13 : Int32} {σ13 : mG} {v14 : Int32} {σ14 : mG}
    (k1 : xs0 = 0 → r = (some (.int 0), σ))
    (c1 : ¬ (xs0 = 0) → RR X d 171 [.ref 38, .int 0, .long 115944571535360] σ (some (.int v1), σ1))
    (k2 : ¬ (xs0 = 0) → v1 = 0 → r = (some (.int 0), σ1))
    (c2 : ¬ (xs0 = 0) → ¬ (v1 = 0) → RR X d 171 [.ref 38, .int 0, .long 126943688392704] σ1 (some (.int v2), σ2))
    (k3 : ¬ (xs0 = 0) → ¬ (v1 = 0) → v2 = 0 → r = (some (.int 0), σ2))
    (c3 : ¬ (xs0 = 0) → ¬ (v1 = 0) → ¬ (v2 = 0) → RR X d 169 [.ref 38, .int 0, .long 107148485722112] σ2 (some (.int v3), σ3))
    (c4 : ¬ (xs0 = 0) → ¬ (v1 = 0) → ¬ (v2 = 0) → v3 = 1 → RR X d 170 [.ref 38, .int 0, .long 107148485722112] σ3 (some (.int v4), σ4))
    (c5 : ¬ (xs0 = 0) → ¬ (v1 = 0) → ¬ (v2 = 0) → v3 = 1 → RR X d 166 [.ref 38, .int v4, .long 115878217646080] σ4 (some (.long v5), σ5))
    (k4 : ¬ (xs0 = 0) → ¬ (v1 = 0) → ¬ (v2 = 0) → v3 = 1 → (lg_cmp v5 0) = 0 → r = (some (.int 0), σ5))
    (c6 : ¬ (xs0 = 0) → ¬ (v1 = 0) → ¬ (v2 = 0) → v3 = 1 → ¬ ((lg_cmp v5 0) = 0) → RR X d 172 [.ref 38, .int v4] σ5 (some (.int v6), σ6))
    (k5 : ¬ (xs0 = 0) → ¬ (v1 = 0) → ¬ (v2 = 0) → v3 = 1 → ¬ ((lg_cmp v5 0) = 0) → v6 = 0 → r = (some (.int 0), σ6))
    (c7 : ¬ (xs0 = 0) → ¬ (v1 = 0) → ¬ (v2 = 0) → v3 = 1 → ¬ ((lg_cmp v5 0) = 0) → ¬ (v6 = 0) → RR X d 171 [.ref 38, .int v4, .long 115944571535360] σ6 (some (.int v7), σ7))
    (k6 : ¬ (xs0 = 0) → ¬ (v1 = 0) → ¬ (v2 = 0) → v3 = 1 → ¬ ((lg_cmp v5 0) = 0) → ¬ (v6 = 0) → v7 = 0 → r = (some (.int 0), σ7))
    (c8 : ¬ (xs0 = 0) → ¬ (v1 = 0) → ¬ (v2 = 0) → v3 = 1 → ¬ ((lg_cmp v5 0) = 0) → ¬ (v6 = 0) → ¬ (v7 = 0) → RR X d 169 [.ref 38, .int v4, .long 109330244567040] σ7 (some (.int v8), σ8))
    (k7 : ¬ (xs0 = 0) → ¬ (v1 = 0) → ¬ (v2 = 0) → v3 = 1 → ¬ ((lg_cmp v5 0) = 0) → ¬ (v6 = 0) → ¬ (v7 = 0) → ¬ v8 = 1 → r = (some (.int 0), σ8))
    (c9 : ¬ (xs0 = 0) → ¬ (v1 = 0) → ¬ (v2 = 0) → v3 = 1 → ¬ ((lg_cmp v5 0) = 0) → ¬ (v6 = 0) → ¬ (v7 = 0) → ¬ (¬ v8 = 1) → RR X d 169 [.ref 38, .int v4, .long 126947999481856] σ8 (some (.int v9), σ9))
    (c10 : ¬ (xs0 = 0) → ¬ (v1 = 0) → ¬ (v2 = 0) → v3 = 1 → ¬ ((lg_cmp v5 0) = 0) → ¬ (v6 = 0) → ¬ (v7 = 0) → ¬ (¬ v8 = 1) → v9 = 1 → RR X d 170 [.ref 38, .int v4, .long 109330244567040] σ9 (some (.int v10), σ10))
    (c11 : ¬ (xs0 = 0) → ¬ (v1 = 0) → ¬ (v2 = 0) → v3 = 1 → ¬ ((lg_cmp v5 0) = 0) → ¬ (v6 = 0) → ¬ (v7 = 0) → ¬ (¬ v8 = 1) → v9 = 1 → RR X d 170 [.ref 38, .int v4, .long 126947999481856] σ10 (some (.int v11), σ11))
    (c12 : ¬ (xs0 = 0) → ¬ (v1 = 0) → ¬ (v2 = 0) → v3 = 1 → ¬ ((lg_cmp v5 0) = 0) → ¬ (v6 = 0) → ¬ (v7 = 0) → ¬ (¬ v8 = 1) → v9 = 1 → RR X d 148 [.ref 38, .int v10, .long 107156816789504] σ11 (some (.int v12), σ12))
    (k8 : ¬ (xs0 = 0) → ¬ (v1 = 0) → ¬ (v2 = 0) → v3 = 1 → ¬ ((lg_cmp v5 0) = 0) → ¬ (v6 = 0) → ¬ (v7 = 0) → ¬ (¬ v8 = 1) → v9 = 1 → v12 < 0 → TT X d tb174 (some .boolean) (225, [some (.ref 38), some (.int xs0), some (.int v4), some (.int v10), some (.int v11), none, none], [], σ12) r)
    (c13 : ¬ (xs0 = 0) → ¬ (v1 = 0) → ¬ (v2 = 0) → v3 = 1 → ¬ ((lg_cmp v5 0) = 0) → ¬ (v6 = 0) → ¬ (v7 = 0) → ¬ (¬ v8 = 1) → v9 = 1 → ¬ (v12 < 0) → RR X d 167 [.ref 38, .int v10, .long 121367185850368] σ12 (some (.int v13), σ13))
    (k9 : ¬ (xs0 = 0) → ¬ (v1 = 0) → ¬ (v2 = 0) → v3 = 1 → ¬ ((lg_cmp v5 0) = 0) → ¬ (v6 = 0) → ¬ (v7 = 0) → ¬ (¬ v8 = 1) → v9 = 1 → ¬ (v12 < 0) → v13 < 0 → TT X d tb174 (some .boolean) (225, [some (.ref 38), some (.int xs0), some (.int v4), some (.int v10), some (.int v11), none, none], [], σ13) r)
    (c14 : ¬ (xs0 = 0) → ¬ (v1 = 0) → ¬ (v2 = 0) → v3 = 1 → ¬ ((lg_cmp v5 0) = 0) → ¬ (v6 = 0) → ¬ (v7 = 0) → ¬ (¬ v8 = 1) → v9 = 1 → ¬ (v12 < 0) → ¬ (v13 < 0) → RR X d 167 [.ref 38, .int v10, .long 121424647815168] σ13 (some (.int v14), σ14))
    (k10 : ¬ (xs0 = 0) → ¬ (v1 = 0) → ¬ (v2 = 0) → v3 = 1 → ¬ ((lg_cmp v5 0) = 0) → ¬ (v6 = 0) → ¬ (v7 = 0) → ¬ (¬ v8 = 1) → v9 = 1 → ¬ (v12 < 0) → ¬ (v13 < 0) → v14 < 0 → TT X d tb174 (some .boolean) (225, [some (.ref 38), some (.int xs0), some (.int v4), some (.int v10), some (.int v11), none, none], [], σ14) r)
    (k11 : ¬ (xs0 = 0) → ¬ (v1 = 0) → ¬ (v2 = 0) → v3 = 1 → ¬ ((lg_cmp v5 0) = 0) → ¬ (v6 = 0) → ¬ (v7 = 0) → ¬ (¬ v8 = 1) → v9 = 1 → ¬ (v12 < 0) → ¬ (v13 < 0) → ¬ (v14 < 0) → TT X d tb174 (some .boolean) (226, [some (.ref 38), some (.int xs0), some (.int v4), some (.int v10), some (.int v11), none, none], [.int 1], σ14) r)
    (k12 : ¬ (xs0 = 0) → ¬ (v1 = 0) → ¬ (v2 = 0) → v3 = 1 → ¬ ((lg_cmp v5 0) = 0) → ¬ (v6 = 0) → ¬ (v7 = 0) → ¬ (¬ v8 = 1) → ¬ (v9 = 1) → r = (some (.int 0), σ9))
    (k13 : ¬ (xs0 = 0) → ¬ (v1 = 0) → ¬ (v2 = 0) → ¬ (v3 = 1) → r = (some (.int 0), σ3))
    : TT X d tb174 (some .boolean) (61, [some (.ref 38), none, none, none, none, none, none], [.int xs0], σ) r := mi_T.go 2 (s1 := (63, [some (.ref 38), some (.int xs0), none, none, none, none, none], [.int xs0], σ)) rfl <|
      mi_T.br (P := xs0 = 0) (fun _ => rfl)
      (fun h1 => mi_T.go 1 (s1 := (101, [some (.ref 38), some (.int xs0), none, none, none, none, none], [.int 0], σ)) rfl <|
      mi_T.fin (k1 h1) (fun _ => rfl))
      (fun h1 => mi_T.go 3 (s1 := (71, [some (.ref 38), some (.int xs0), none, none, none, none, none], [.long 115944571535360, .int 0, .ref 38], σ)) rfl <|
      mi_T.call (as := [.ref 38, .int 0, .long 115944571535360]) (rest := []) (v := some (.int v1)) rfl rfl rfl rfl rfl (c1 h1) <|
      mi_T.br (P := v1 = 0) (fun _ => rfl)
      (fun h2 => mi_T.go 1 (s1 := (101, [some (.ref 38), some (.int xs0), none, none, none, none, none], [.int 0], σ1)) rfl <|
      mi_T.fin (k2 h1 h2) (fun _ => rfl))
      (fun h2 => mi_T.go 3 (s1 := (82, [some (.ref 38), some (.int xs0), none, none, none, none, none], [.long 126943688392704, .int 0, .ref 38], σ1)) rfl <|
      mi_T.call (as := [.ref 38, .int 0, .long 126943688392704]) (rest := []) (v := some (.int v2)) rfl rfl rfl rfl rfl (c2 h1 h2) <|
      mi_T.br (P := v2 = 0) (fun _ => rfl)
      (fun h3 => mi_T.go 1 (s1 := (101, [some (.ref 38), some (.int xs0), none, none, none, none, none], [.int 0], σ2)) rfl <|
      mi_T.fin (k3 h1 h2 h3) (fun _ => rfl))
      (fun h3 => mi_T.go 3 (s1 := (93, [some (.ref 38), some (.int xs0), none, none, none, none, none], [.long 107148485722112, .int 0, .ref 38], σ2)) rfl <|
      mi_T.call (as := [.ref 38, .int 0, .long 107148485722112]) (rest := []) (v := some (.int v3)) rfl rfl rfl rfl rfl (c3 h1 h2 h3) <|
      mi_T.go 1 (s1 := (97, [some (.ref 38), some (.int xs0), none, none, none, none, none], [.int 1, .int v3], σ3)) rfl <|
      mi_T.br (P := v3 = 1) (fun _ => rfl)
      (fun h4 => mi_T.go 3 (s1 := (107, [some (.ref 38), some (.int xs0), none, none, none, none, none], [.long 107148485722112, .int 0, .ref 38], σ3)) rfl <|
      mi_T.call (as := [.ref 38, .int 0, .long 107148485722112]) (rest := []) (v := some (.int v4)) rfl rfl rfl rfl rfl (c4 h1 h2 h3 h4) <|
      mi_T.go 4 (s1 := (116, [some (.ref 38), some (.int xs0), some (.int v4), none, none, none, none], [.long 115878217646080, .int v4, .ref 38], σ4)) rfl <|
      mi_T.call (as := [.ref 38, .int v4, .long 115878217646080]) (rest := []) (v := some (.long v5)) rfl rfl rfl rfl rfl (c5 h1 h2 h3 h4) <|
      mi_T.go 2 (s1 := (121, [some (.ref 38), some (.int xs0), some (.int v4), none, none, none, none], [.int (lg_cmp v5 0)], σ5)) rfl <|
      mi_T.br (P := (lg_cmp v5 0) = 0) (fun _ => rfl)
      (fun h5 => mi_T.go 1 (s1 := (168, [some (.ref 38), some (.int xs0), some (.int v4), none, none, none, none], [.int 0], σ5)) rfl <|
      mi_T.fin (k4 h1 h2 h3 h4 h5) (fun _ => rfl))
      (fun h5 => mi_T.go 2 (s1 := (126, [some (.ref 38), some (.int xs0), some (.int v4), none, none, none, none], [.int v4, .ref 38], σ5)) rfl <|
      mi_T.call (as := [.ref 38, .int v4]) (rest := []) (v := some (.int v6)) rfl rfl rfl rfl rfl (c6 h1 h2 h3 h4 h5) <|
      mi_T.br (P := v6 = 0) (fun _ => rfl)
      (fun h6 => mi_T.go 1 (s1 := (168, [some (.ref 38), some (.int xs0), some (.int v4), none, none, none, none], [.int 0], σ6)) rfl <|
      mi_T.fin (k5 h1 h2 h3 h4 h5 h6) (fun _ => rfl))
      (fun h6 => mi_T.go 3 (s1 := (137, [some (.ref 38), some (.int xs0), some (.int v4), none, none, none, none], [.long 115944571535360, .int v4, .ref 38], σ6)) rfl <|
      mi_T.call (as := [.ref 38, .int v4, .long 115944571535360]) (rest := []) (v := some (.int v7)) rfl rfl rfl rfl rfl (c7 h1 h2 h3 h4 h5 h6) <|
      mi_T.br (P := v7 = 0) (fun _ => rfl)
      (fun h7 => mi_T.go 1 (s1 := (168, [some (.ref 38), some (.int xs0), some (.int v4), none, none, none, none], [.int 0], σ7)) rfl <|
      mi_T.fin (k6 h1 h2 h3 h4 h5 h6 h7) (fun _ => rfl))
      (fun h7 => mi_T.go 3 (s1 := (148, [some (.ref 38), some (.int xs0), some (.int v4), none, none, none, none], [.long 109330244567040, .int v4, .ref 38], σ7)) rfl <|
      mi_T.call (as := [.ref 38, .int v4, .long 109330244567040]) (rest := []) (v := some (.int v8)) rfl rfl rfl rfl rfl (c8 h1 h2 h3 h4 h5 h6 h7) <|
      mi_T.go 1 (s1 := (152, [some (.ref 38), some (.int xs0), some (.int v4), none, none, none, none], [.int 1, .int v8], σ8)) rfl <|
      mi_T.br (P := ¬ v8 = 1) (fun _ => rfl)
      (fun h8 => mi_T.go 1 (s1 := (168, [some (.ref 38), some (.int xs0), some (.int v4), none, none, none, none], [.int 0], σ8)) rfl <|
      mi_T.fin (k7 h1 h2 h3 h4 h5 h6 h7 h8) (fun _ => rfl))
      (fun h8 => mi_T.go 3 (s1 := (160, [some (.ref 38), some (.int xs0), some (.int v4), none, none, none, none], [.long 126947999481856, .int v4, .ref 38], σ8)) rfl <|
      mi_T.call (as := [.ref 38, .int v4, .long 126947999481856]) (rest := []) (v := some (.int v9)) rfl rfl rfl rfl rfl (c9 h1 h2 h3 h4 h5 h6 h7 h8) <|
      mi_T.go 1 (s1 := (164, [some (.ref 38), some (.int xs0), some (.int v4), none, none, none, none], [.int 1, .int v9], σ9)) rfl <|
      mi_T.br (P := v9 = 1) (fun _ => rfl)
      (fun h9 => mi_T.go 3 (s1 := (174, [some (.ref 38), some (.int xs0), some (.int v4), none, none, none, none], [.long 109330244567040, .int v4, .ref 38], σ9)) rfl <|
      mi_T.call (as := [.ref 38, .int v4, .long 109330244567040]) (rest := []) (v := some (.int v10)) rfl rfl rfl rfl rfl (c10 h1 h2 h3 h4 h5 h6 h7 h8 h9) <|
      mi_T.go 4 (s1 := (183, [some (.ref 38), some (.int xs0), some (.int v4), some (.int v10), none, none, none], [.long 126947999481856, .int v4, .ref 38], σ10)) rfl <|
      mi_T.call (as := [.ref 38, .int v4, .long 126947999481856]) (rest := []) (v := some (.int v11)) rfl rfl rfl rfl rfl (c11 h1 h2 h3 h4 h5 h6 h7 h8 h9) <|
      mi_T.go 4 (s1 := (193, [some (.ref 38), some (.int xs0), some (.int v4), some (.int v10), some (.int v11), none, none], [.long 107156816789504, .int v10, .ref 38], σ11)) rfl <|
      mi_T.call (as := [.ref 38, .int v10, .long 107156816789504]) (rest := []) (v := some (.int v12)) rfl rfl rfl rfl rfl (c12 h1 h2 h3 h4 h5 h6 h7 h8 h9) <|
      mi_T.br (P := v12 < 0) (fun _ => rfl)
      (fun h10 => (k8 h1 h2 h3 h4 h5 h6 h7 h8 h9 h10))
      (fun h10 => mi_T.go 3 (s1 := (204, [some (.ref 38), some (.int xs0), some (.int v4), some (.int v10), some (.int v11), none, none], [.long 121367185850368, .int v10, .ref 38], σ12)) rfl <|
      mi_T.call (as := [.ref 38, .int v10, .long 121367185850368]) (rest := []) (v := some (.int v13)) rfl rfl rfl rfl rfl (c13 h1 h2 h3 h4 h5 h6 h7 h8 h9 h10) <|
      mi_T.br (P := v13 < 0) (fun _ => rfl)
      (fun h11 => (k9 h1 h2 h3 h4 h5 h6 h7 h8 h9 h10 h11))
      (fun h11 => mi_T.go 3 (s1 := (215, [some (.ref 38), some (.int xs0), some (.int v4), some (.int v10), some (.int v11), none, none], [.long 121424647815168, .int v10, .ref 38], σ13)) rfl <|
      mi_T.call (as := [.ref 38, .int v10, .long 121424647815168]) (rest := []) (v := some (.int v14)) rfl rfl rfl rfl rfl (c14 h1 h2 h3 h4 h5 h6 h7 h8 h9 h10 h11) <|
      mi_T.br (P := v14 < 0) (fun _ => rfl)
      (fun h12 => (k10 h1 h2 h3 h4 h5 h6 h7 h8 h9 h10 h11 h12))
      (fun h12 => mi_T.go 2 (s1 := (226, [some (.ref 38), some (.int xs0), some (.int v4), some (.int v10), some (.int v11), none, none], [.int 1], σ14)) rfl <|
      (k11 h1 h2 h3 h4 h5 h6 h7 h8 h9 h10 h11 h12)))))
      (fun h9 => mi_T.go 1 (s1 := (168, [some (.ref 38), some (.int xs0), some (.int v4), none, none, none, none], [.int 0], σ9)) rfl <|
      mi_T.fin (k12 h1 h2 h3 h4 h5 h6 h7 h8 h9) (fun _ => rfl)))))))
      (fun h4 => mi_T.go 1 (s1 := (101, [some (.ref 38), some (.int xs0), none, none, none, none, none], [.int 0], σ3)) rfl <|
      mi_T.fin (k13 h1 h2 h3 h4) (fun _ => rfl)))))

set_option maxRecDepth 100000 in
theorem R174_225 {X : Nat × (Nat → Int32)} {d : Nat} {r : mA mG} {σ : mG} {x1 : Int32} {x2 : Int32} {x3 : Int32} {x4 : Int32}
    (k1 : TT X d tb174 (some .boolean) (226, [some (.ref 38), some (.int x1), some (.int x2), some (.int x3), some (.int x4), none, none], [.int 0], σ) r)
    : TT X d tb174 (some .boolean) (225, [some (.ref 38), some (.int x1), some (.int x2), some (.int x3), some (.int x4), none, none], [], σ) r := mi_T.go 1 (s1 := (226, [some (.ref 38), some (.int x1), some (.int x2), some (.int x3), some (.int x4), none, none], [.int 0], σ)) rfl <|
      k1

set_option maxRecDepth 100000 in
theorem R174_226 {X : Nat × (Nat → Int32)} {d : Nat} {r : mA mG} {σ : mG} {x1 : Int32} {x2 : Int32} {x3 : Int32} {x4 : Int32} {xs0 : Int32} {v1 : Int32} {σ1 : mG} {v2 : Int32} {σ2 : mG} {v3 : Int32} {σ3 : mG} {v4 : Int32} {σ4 : mG} {v5 : Int32} {σ5 : mG} {v6 : Int32} {σ6 : mG}
    (k1 : xs0 = 0 → r = (some (.int 0), σ))
    (c1 : ¬ (xs0 = 0) → RR X d 171 [.ref 38, .int x4, .long 121364726218752] σ (some (.int v1), σ1))
    (k2 : ¬ (xs0 = 0) → v1 = 0 → r = (some (.int 0), σ1))
    (c2 : ¬ (xs0 = 0) → ¬ (v1 = 0) → RR X d 169 [.ref 38, .int x4, .long 109330244698112] σ1 (some (.int v2), σ2))
    (c3 : ¬ (xs0 = 0) → ¬ (v1 = 0) → v2 = 1 → RR X d 170 [.ref 38, .int x4, .long 109330244698112] σ2 (some (.int v3), σ3))
    (c4 : ¬ (xs0 = 0) → ¬ (v1 = 0) → v2 = 1 → RR X d 148 [.ref 38, .int v3, .long 115940293345280] σ3 (some (.int v4), σ4))
    (k3 : ¬ (xs0 = 0) → ¬ (v1 = 0) → v2 = 1 → v4 < 0 → r = (some (.int 0), σ4))
    (c5 : ¬ (xs0 = 0) → ¬ (v1 = 0) → v2 = 1 → ¬ (v4 < 0) → RR X d 148 [.ref 38, .int v3, .long 125771406376960] σ4 (some (.int v5), σ5))
    (k4 : ¬ (xs0 = 0) → ¬ (v1 = 0) → v2 = 1 → ¬ (v4 < 0) → v5 < 0 → r = (some (.int 0), σ5))
    (c6 : ¬ (xs0 = 0) → ¬ (v1 = 0) → v2 = 1 → ¬ (v4 < 0) → ¬ (v5 < 0) → RR X d 167 [.ref 38, .int v3, .long 121424647815168] σ5 (some (.int v6), σ6))
    (k5 : ¬ (xs0 = 0) → ¬ (v1 = 0) → v2 = 1 → ¬ (v4 < 0) → ¬ (v5 < 0) → v6 < 0 → r = (some (.int 0), σ6))
    (k6 : ¬ (xs0 = 0) → ¬ (v1 = 0) → v2 = 1 → ¬ (v4 < 0) → ¬ (v5 < 0) → ¬ (v6 < 0) → r = (some (.int 1), σ6))
    (k7 : ¬ (xs0 = 0) → ¬ (v1 = 0) → ¬ (v2 = 1) → r = (some (.int 0), σ2))
    : TT X d tb174 (some .boolean) (226, [some (.ref 38), some (.int x1), some (.int x2), some (.int x3), some (.int x4), none, none], [.int xs0], σ) r := mi_T.go 2 (s1 := (230, [some (.ref 38), some (.int x1), some (.int x2), some (.int x3), some (.int x4), some (.int xs0), none], [.int xs0], σ)) rfl <|
      mi_T.br (P := xs0 = 0) (fun _ => rfl)
      (fun h1 => mi_T.go 1 (s1 := (259, [some (.ref 38), some (.int x1), some (.int x2), some (.int x3), some (.int x4), some (.int xs0), none], [.int 0], σ)) rfl <|
      mi_T.fin (k1 h1) (fun _ => rfl))
      (fun h1 => mi_T.go 3 (s1 := (239, [some (.ref 38), some (.int x1), some (.int x2), some (.int x3), some (.int x4), some (.int xs0), none], [.long 121364726218752, .int x4, .ref 38], σ)) rfl <|
      mi_T.call (as := [.ref 38, .int x4, .long 121364726218752]) (rest := []) (v := some (.int v1)) rfl rfl rfl rfl rfl (c1 h1) <|
      mi_T.br (P := v1 = 0) (fun _ => rfl)
      (fun h2 => mi_T.go 1 (s1 := (259, [some (.ref 38), some (.int x1), some (.int x2), some (.int x3), some (.int x4), some (.int xs0), none], [.int 0], σ1)) rfl <|
      mi_T.fin (k2 h1 h2) (fun _ => rfl))
      (fun h2 => mi_T.go 3 (s1 := (251, [some (.ref 38), some (.int x1), some (.int x2), some (.int x3), some (.int x4), some (.int xs0), none], [.long 109330244698112, .int x4, .ref 38], σ1)) rfl <|
      mi_T.call (as := [.ref 38, .int x4, .long 109330244698112]) (rest := []) (v := some (.int v2)) rfl rfl rfl rfl rfl (c2 h1 h2) <|
      mi_T.go 1 (s1 := (255, [some (.ref 38), some (.int x1), some (.int x2), some (.int x3), some (.int x4), some (.int xs0), none], [.int 1, .int v2], σ2)) rfl <|
      mi_T.br (P := v2 = 1) (fun _ => rfl)
      (fun h3 => mi_T.go 3 (s1 := (266, [some (.ref 38), some (.int x1), some (.int x2), some (.int x3), some (.int x4), some (.int xs0), none], [.long 109330244698112, .int x4, .ref 38], σ2)) rfl <|
      mi_T.call (as := [.ref 38, .int x4, .long 109330244698112]) (rest := []) (v := some (.int v3)) rfl rfl rfl rfl rfl (c3 h1 h2 h3) <|
      mi_T.go 4 (s1 := (277, [some (.ref 38), some (.int x1), some (.int x2), some (.int x3), some (.int x4), some (.int xs0), some (.int v3)], [.long 115940293345280, .int v3, .ref 38], σ3)) rfl <|
      mi_T.call (as := [.ref 38, .int v3, .long 115940293345280]) (rest := []) (v := some (.int v4)) rfl rfl rfl rfl rfl (c4 h1 h2 h3) <|
      mi_T.br (P := v4 < 0) (fun _ => rfl)
      (fun h4 => mi_T.go 1 (s1 := (312, [some (.ref 38), some (.int x1), some (.int x2), some (.int x3), some (.int x4), some (.int xs0), some (.int v3)], [.int 0], σ4)) rfl <|
      mi_T.fin (k3 h1 h2 h3 h4) (fun _ => rfl))
      (fun h4 => mi_T.go 3 (s1 := (289, [some (.ref 38), some (.int x1), some (.int x2), some (.int x3), some (.int x4), some (.int xs0), some (.int v3)], [.long 125771406376960, .int v3, .ref 38], σ4)) rfl <|
      mi_T.call (as := [.ref 38, .int v3, .long 125771406376960]) (rest := []) (v := some (.int v5)) rfl rfl rfl rfl rfl (c5 h1 h2 h3 h4) <|
      mi_T.br (P := v5 < 0) (fun _ => rfl)
      (fun h5 => mi_T.go 1 (s1 := (312, [some (.ref 38), some (.int x1), some (.int x2), some (.int x3), some (.int x4), some (.int xs0), some (.int v3)], [.int 0], σ5)) rfl <|
      mi_T.fin (k4 h1 h2 h3 h4 h5) (fun _ => rfl))
      (fun h5 => mi_T.go 3 (s1 := (301, [some (.ref 38), some (.int x1), some (.int x2), some (.int x3), some (.int x4), some (.int xs0), some (.int v3)], [.long 121424647815168, .int v3, .ref 38], σ5)) rfl <|
      mi_T.call (as := [.ref 38, .int v3, .long 121424647815168]) (rest := []) (v := some (.int v6)) rfl rfl rfl rfl rfl (c6 h1 h2 h3 h4 h5) <|
      mi_T.br (P := v6 < 0) (fun _ => rfl)
      (fun h6 => mi_T.go 1 (s1 := (312, [some (.ref 38), some (.int x1), some (.int x2), some (.int x3), some (.int x4), some (.int xs0), some (.int v3)], [.int 0], σ6)) rfl <|
      mi_T.fin (k5 h1 h2 h3 h4 h5 h6) (fun _ => rfl))
      (fun h6 => mi_T.go 2 (s1 := (312, [some (.ref 38), some (.int x1), some (.int x2), some (.int x3), some (.int x4), some (.int xs0), some (.int v3)], [.int 1], σ6)) rfl <|
      mi_T.fin (k6 h1 h2 h3 h4 h5 h6) (fun _ => rfl)))))
      (fun h3 => mi_T.go 1 (s1 := (259, [some (.ref 38), some (.int x1), some (.int x2), some (.int x3), some (.int x4), some (.int xs0), none], [.int 0], σ2)) rfl <|
      mi_T.fin (k7 h1 h2 h3) (fun _ => rfl))))

-- AssertionGateModel.isLogout()Z
theorem R175_0 {X : Nat × (Nat → Int32)} {d : Nat} {r : mA mG} {σ : mG} {v1 : Int64} {σ1 : mG} {v2 : Int32} {σ2 : mG} {v3 : Int32} {σ3 : mG} {v4 : Int32} {σ4 : mG} {v5 : Int32} {σ5 : mG}
    (b1 : mi_in 0 20 = true)
    (k1 : ¬ (lg_cmp (σ.2 52 ((0 : Int32).toNatClampNeg)) 122550248013824) = 0 → r = (some (.int 0), σ))
    (c1 : ¬ (¬ (lg_cmp (σ.2 52 ((0 : Int32).toNatClampNeg)) 122550248013824) = 0) → RR X d 166 [.ref 38, .int 0, .long 115878217646080] σ (some (.long v1), σ1))
    (k2 : ¬ (¬ (lg_cmp (σ.2 52 ((0 : Int32).toNatClampNeg)) 122550248013824) = 0) → (lg_cmp v1 0) = 0 → r = (some (.int 0), σ1))
    (c2 : ¬ (¬ (lg_cmp (σ.2 52 ((0 : Int32).toNatClampNeg)) 122550248013824) = 0) → ¬ ((lg_cmp v1 0) = 0) → RR X d 148 [.ref 38, .int 0, .long 128020090191872] σ1 (some (.int v2), σ2))
    (k3 : ¬ (¬ (lg_cmp (σ.2 52 ((0 : Int32).toNatClampNeg)) 122550248013824) = 0) → ¬ ((lg_cmp v1 0) = 0) → v2 < 0 → r = (some (.int 0), σ2))
    (c3 : ¬ (¬ (lg_cmp (σ.2 52 ((0 : Int32).toNatClampNeg)) 122550248013824) = 0) → ¬ ((lg_cmp v1 0) = 0) → ¬ (v2 < 0) → RR X d 171 [.ref 38, .int 0, .long 115944571535360] σ2 (some (.int v3), σ3))
    (k4 : ¬ (¬ (lg_cmp (σ.2 52 ((0 : Int32).toNatClampNeg)) 122550248013824) = 0) → ¬ ((lg_cmp v1 0) = 0) → ¬ (v2 < 0) → v3 = 0 → r = (some (.int 0), σ3))
    (c4 : ¬ (¬ (lg_cmp (σ.2 52 ((0 : Int32).toNatClampNeg)) 122550248013824) = 0) → ¬ ((lg_cmp v1 0) = 0) → ¬ (v2 < 0) → ¬ (v3 = 0) → RR X d 171 [.ref 38, .int 0, .long 121364726218752] σ3 (some (.int v4), σ4))
    (k5 : ¬ (¬ (lg_cmp (σ.2 52 ((0 : Int32).toNatClampNeg)) 122550248013824) = 0) → ¬ ((lg_cmp v1 0) = 0) → ¬ (v2 < 0) → ¬ (v3 = 0) → v4 = 0 → r = (some (.int 0), σ4))
    (c5 : ¬ (¬ (lg_cmp (σ.2 52 ((0 : Int32).toNatClampNeg)) 122550248013824) = 0) → ¬ ((lg_cmp v1 0) = 0) → ¬ (v2 < 0) → ¬ (v3 = 0) → ¬ (v4 = 0) → RR X d 172 [.ref 38, .int 0] σ4 (some (.int v5), σ5))
    (k6 : ¬ (¬ (lg_cmp (σ.2 52 ((0 : Int32).toNatClampNeg)) 122550248013824) = 0) → ¬ ((lg_cmp v1 0) = 0) → ¬ (v2 < 0) → ¬ (v3 = 0) → ¬ (v4 = 0) → v5 = 0 → r = (some (.int 0), σ5))
    (k7 : ¬ (¬ (lg_cmp (σ.2 52 ((0 : Int32).toNatClampNeg)) 122550248013824) = 0) → ¬ ((lg_cmp v1 0) = 0) → ¬ (v2 < 0) → ¬ (v3 = 0) → ¬ (v4 = 0) → ¬ (v5 = 0) → r = (some (.int 1), σ5))
    : TT X d tb175 (some .boolean) (0, [some (.ref 38)], [], σ) r := mi_T.go 3 (s1 := (5, [some (.ref 38)], [.int 0, .ref 52], σ)) rfl <|
      mi_T.lj rfl rfl (b1) <|
      mi_T.go 2 (s1 := (10, [some (.ref 38)], [.int (lg_cmp (σ.2 52 ((0 : Int32).toNatClampNeg)) 122550248013824)], σ)) rfl <|
      mi_T.br (P := ¬ (lg_cmp (σ.2 52 ((0 : Int32).toNatClampNeg)) 122550248013824) = 0) (fun _ => rfl)
      (fun h1 => mi_T.go 1 (s1 := (72, [some (.ref 38)], [.int 0], σ)) rfl <|
      mi_T.fin (k1 h1) (fun _ => rfl))
      (fun h1 => mi_T.go 3 (s1 := (18, [some (.ref 38)], [.long 115878217646080, .int 0, .ref 38], σ)) rfl <|
      mi_T.call (as := [.ref 38, .int 0, .long 115878217646080]) (rest := []) (v := some (.long v1)) rfl rfl rfl rfl rfl (c1 h1) <|
      mi_T.go 2 (s1 := (23, [some (.ref 38)], [.int (lg_cmp v1 0)], σ1)) rfl <|
      mi_T.br (P := (lg_cmp v1 0) = 0) (fun _ => rfl)
      (fun h2 => mi_T.go 1 (s1 := (72, [some (.ref 38)], [.int 0], σ1)) rfl <|
      mi_T.fin (k2 h1 h2) (fun _ => rfl))
      (fun h2 => mi_T.go 3 (s1 := (31, [some (.ref 38)], [.long 128020090191872, .int 0, .ref 38], σ1)) rfl <|
      mi_T.call (as := [.ref 38, .int 0, .long 128020090191872]) (rest := []) (v := some (.int v2)) rfl rfl rfl rfl rfl (c2 h1 h2) <|
      mi_T.br (P := v2 < 0) (fun _ => rfl)
      (fun h3 => mi_T.go 1 (s1 := (72, [some (.ref 38)], [.int 0], σ2)) rfl <|
      mi_T.fin (k3 h1 h2 h3) (fun _ => rfl))
      (fun h3 => mi_T.go 3 (s1 := (42, [some (.ref 38)], [.long 115944571535360, .int 0, .ref 38], σ2)) rfl <|
      mi_T.call (as := [.ref 38, .int 0, .long 115944571535360]) (rest := []) (v := some (.int v3)) rfl rfl rfl rfl rfl (c3 h1 h2 h3) <|
      mi_T.br (P := v3 = 0) (fun _ => rfl)
      (fun h4 => mi_T.go 1 (s1 := (72, [some (.ref 38)], [.int 0], σ3)) rfl <|
      mi_T.fin (k4 h1 h2 h3 h4) (fun _ => rfl))
      (fun h4 => mi_T.go 3 (s1 := (53, [some (.ref 38)], [.long 121364726218752, .int 0, .ref 38], σ3)) rfl <|
      mi_T.call (as := [.ref 38, .int 0, .long 121364726218752]) (rest := []) (v := some (.int v4)) rfl rfl rfl rfl rfl (c4 h1 h2 h3 h4) <|
      mi_T.br (P := v4 = 0) (fun _ => rfl)
      (fun h5 => mi_T.go 1 (s1 := (72, [some (.ref 38)], [.int 0], σ4)) rfl <|
      mi_T.fin (k5 h1 h2 h3 h4 h5) (fun _ => rfl))
      (fun h5 => mi_T.go 2 (s1 := (61, [some (.ref 38)], [.int 0, .ref 38], σ4)) rfl <|
      mi_T.call (as := [.ref 38, .int 0]) (rest := []) (v := some (.int v5)) rfl rfl rfl rfl rfl (c5 h1 h2 h3 h4 h5) <|
      mi_T.br (P := v5 = 0) (fun _ => rfl)
      (fun h6 => mi_T.go 1 (s1 := (72, [some (.ref 38)], [.int 0], σ5)) rfl <|
      mi_T.fin (k6 h1 h2 h3 h4 h5 h6) (fun _ => rfl))
      (fun h6 => mi_T.go 2 (s1 := (72, [some (.ref 38)], [.int 1], σ5)) rfl <|
      mi_T.fin (k7 h1 h2 h3 h4 h5 h6) (fun _ => rfl)))))))

-- AssertionGateModel.named(I)I
theorem R176_0 {X : Nat × (Nat → Int32)} {d : Nat} {r : mA mG} {σ : mG} {x1 : Int32} {v1 : Int32} {σ1 : mG} {v2 : Int64} {σ2 : mG}
    (c1 : RR X d 170 [.ref 38, .int x1, .long 115944571535360] σ (some (.int v1), σ1))
    (c2 : RR X d 165 [.ref 38, .int v1] σ1 (some (.long v2), σ2))
    (k1 : (lg_cmp (v2 - 28720) 0) < 0 → r = (some (.int (-1)), σ2))
    (k2 : ¬ ((lg_cmp (v2 - 28720) 0) < 0) → (lg_cmp (v2 - 28720) 3) ≤ 0 → r = (some (.int ((v2 - 28720).toInt32)), σ2))
    (k3 : ¬ ((lg_cmp (v2 - 28720) 0) < 0) → ¬ ((lg_cmp (v2 - 28720) 3) ≤ 0) → r = (some (.int (-1)), σ2))
    : TT X d tb176 (some .int) (0, [some (.ref 38), some (.int x1), none, none], [], σ) r := mi_T.go 4 (s1 := (6, [some (.ref 38), some (.int x1), none, none], [.long 115944571535360, .int x1, .ref 38, .ref 38], σ)) rfl <|
      mi_T.call (as := [.ref 38, .int x1, .long 115944571535360]) (rest := [.ref 38]) (v := some (.int v1)) rfl rfl rfl rfl rfl (c1) <|
      mi_T.call (as := [.ref 38, .int v1]) (rest := []) (v := some (.long v2)) rfl rfl rfl rfl rfl (c2) <|
      mi_T.go 6 (s1 := (20, [some (.ref 38), some (.int x1), some (.long (v2 - 28720)), none], [.int (lg_cmp (v2 - 28720) 0)], σ2)) rfl <|
      mi_T.br (P := (lg_cmp (v2 - 28720) 0) < 0) (fun _ => rfl)
      (fun h1 => mi_T.go 2 (s1 := (37, [some (.ref 38), some (.int x1), some (.long (v2 - 28720)), none], [.int (-1)], σ2)) rfl <|
      mi_T.fin (k1 h1) (fun _ => rfl))
      (fun h1 => mi_T.go 3 (s1 := (28, [some (.ref 38), some (.int x1), some (.long (v2 - 28720)), none], [.int (lg_cmp (v2 - 28720) 3)], σ2)) rfl <|
      mi_T.br (P := (lg_cmp (v2 - 28720) 3) ≤ 0) (fun _ => rfl)
      (fun h2 => mi_T.go 2 (s1 := (37, [some (.ref 38), some (.int x1), some (.long (v2 - 28720)), none], [.int ((v2 - 28720).toInt32)], σ2)) rfl <|
      mi_T.fin (k2 h1 h2) (fun _ => rfl))
      (fun h2 => mi_T.go 2 (s1 := (37, [some (.ref 38), some (.int x1), some (.long (v2 - 28720)), none], [.int (-1)], σ2)) rfl <|
      mi_T.fin (k3 h1 h2) (fun _ => rfl)))

-- AssertionGateModel.sound(I)Z
theorem R177_0 {X : Nat × (Nat → Int32)} {d : Nat} {r : mA mG} {σ : mG} {x1 : Int32} {v1 : Int32} {σ1 : mG} {v2 : Int32} {σ2 : mG} {v3 : Int32} {σ3 : mG} {v4 : Int32} {σ4 : mG} {v5 : Int32} {σ5 : mG} {v6 : Int32} {σ6 : mG} {v7 : Int32} {σ7 : mG} {v8 : Int32} {σ8 : mG}
    (c1 : RR X d 170 [.ref 38, .int x1, .long 126896536813568] σ (some (.int v1), σ1))
    (c2 : 0 ≤ v1 → RR X d 176 [.ref 38, .int x1] σ1 (some (.int v2), σ2))
    (c3 : 0 ≤ v1 → RR X d 167 [.ref 38, .int v1, .long 129742372077568] σ2 (some (.int v3), σ3))
    (k1 : 0 ≤ v1 → v2 < 0 → r = (some (.int 0), σ3))
    (b1 : 0 ≤ v1 → ¬ (v2 < 0) → mi_in v2 4 = true)
    (k2 : 0 ≤ v1 → ¬ (v2 < 0) → (σ3.1 41 v2.toNatClampNeg) = 0 → r = (some (.int 0), σ3))
    (b2 : 0 ≤ v1 → ¬ (v2 < 0) → ¬ ((σ3.1 41 v2.toNatClampNeg) = 0) → mi_in v2 4 = true)
    (k3 : 0 ≤ v1 → ¬ (v2 < 0) → ¬ ((σ3.1 41 v2.toNatClampNeg) = 0) → (σ3.1 41 v2.toNatClampNeg) ≤ v3 → r = (some (.int 0), σ3))
    (c4 : 0 ≤ v1 → ¬ (v2 < 0) → ¬ ((σ3.1 41 v2.toNatClampNeg) = 0) → ¬ ((σ3.1 41 v2.toNatClampNeg) ≤ v3) → RR X d 148 [.ref 38, .int v1, .long 125779828539392] σ3 (some (.int v4), σ4))
    (c5 : 0 ≤ v1 → ¬ (v2 < 0) → ¬ ((σ3.1 41 v2.toNatClampNeg) = 0) → ¬ ((σ3.1 41 v2.toNatClampNeg) ≤ v3) → RR X d 148 [.ref 38, .int x1, .long 115878217646080] σ4 (some (.int v5), σ5))
    (c6 : 0 ≤ v1 → ¬ (v2 < 0) → ¬ ((σ3.1 41 v2.toNatClampNeg) = 0) → ¬ ((σ3.1 41 v2.toNatClampNeg) ≤ v3) → RR X d 168 [.ref 38, .int v4, .int v5] σ5 (some (.int v6), σ6))
    (b3 : 0 ≤ v1 → ¬ (v2 < 0) → ¬ ((σ3.1 41 v2.toNatClampNeg) = 0) → ¬ ((σ3.1 41 v2.toNatClampNeg) ≤ v3) → ¬ v6 = 0 → mi_in v2 4 = true)
    (b4 : 0 ≤ v1 → ¬ (v2 < 0) → ¬ ((σ3.1 41 v2.toNatClampNeg) = 0) → ¬ ((σ3.1 41 v2.toNatClampNeg) ≤ v3) → ¬ v6 = 0 → mi_in v2 4 = true)
    (c7 : 0 ≤ v1 → ¬ (v2 < 0) → ¬ ((σ3.1 41 v2.toNatClampNeg) = 0) → ¬ ((σ3.1 41 v2.toNatClampNeg) ≤ v3) → ¬ v6 = 0 → RR X d 133 [.int v3, .int (σ6.1 42 v2.toNatClampNeg), .int (σ6.1 41 v2.toNatClampNeg)] σ6 (some (.int v7), σ7))
    (c8 : 0 ≤ v1 → ¬ (v2 < 0) → ¬ ((σ3.1 41 v2.toNatClampNeg) = 0) → ¬ ((σ3.1 41 v2.toNatClampNeg) ≤ v3) → ¬ v6 = 0 → RR X d 161 [.ref 38, .int x1] σ7 (some (.int v8), σ8))
    (k4 : 0 ≤ v1 → ¬ (v2 < 0) → ¬ ((σ3.1 41 v2.toNatClampNeg) = 0) → ¬ ((σ3.1 41 v2.toNatClampNeg) ≤ v3) → ¬ v6 = 0 → ¬ v7 = v8 → r = (some (.int 0), σ8))
    (k5 : 0 ≤ v1 → ¬ (v2 < 0) → ¬ ((σ3.1 41 v2.toNatClampNeg) = 0) → ¬ ((σ3.1 41 v2.toNatClampNeg) ≤ v3) → ¬ v6 = 0 → ¬ (¬ v7 = v8) → r = (some (.int 1), σ8))
    (k6 : 0 ≤ v1 → ¬ (v2 < 0) → ¬ ((σ3.1 41 v2.toNatClampNeg) = 0) → ¬ ((σ3.1 41 v2.toNatClampNeg) ≤ v3) → ¬ (¬ v6 = 0) → r = (some (.int 0), σ6))
    (k7 : ¬ (0 ≤ v1) → r = (some (.int 1), σ1))
    : TT X d tb177 (some .boolean) (0, [some (.ref 38), some (.int x1), none, none, none], [], σ) r := mi_T.go 3 (s1 := (5, [some (.ref 38), some (.int x1), none, none, none], [.long 126896536813568, .int x1, .ref 38], σ)) rfl <|
      mi_T.call (as := [.ref 38, .int x1, .long 126896536813568]) (rest := []) (v := some (.int v1)) rfl rfl rfl rfl rfl (c1) <|
      mi_T.go 2 (s1 := (10, [some (.ref 38), some (.int x1), some (.int v1), none, none], [.int v1], σ1)) rfl <|
      mi_T.br (P := 0 ≤ v1) (fun _ => rfl)
      (fun h1 => mi_T.go 2 (s1 := (17, [some (.ref 38), some (.int x1), some (.int v1), none, none], [.int x1, .ref 38], σ1)) rfl <|
      mi_T.call (as := [.ref 38, .int x1]) (rest := []) (v := some (.int v2)) rfl rfl rfl rfl rfl (c2 h1) <|
      mi_T.go 4 (s1 := (26, [some (.ref 38), some (.int x1), some (.int v1), some (.int v2), none], [.long 129742372077568, .int v1, .ref 38], σ2)) rfl <|
      mi_T.call (as := [.ref 38, .int v1, .long 129742372077568]) (rest := []) (v := some (.int v3)) rfl rfl rfl rfl rfl (c3 h1) <|
      mi_T.go 2 (s1 := (32, [some (.ref 38), some (.int x1), some (.int v1), some (.int v2), some (.int v3)], [.int v2], σ3)) rfl <|
      mi_T.br (P := v2 < 0) (fun _ => rfl)
      (fun h2 => mi_T.go 1 (s1 := (79, [some (.ref 38), some (.int x1), some (.int v1), some (.int v2), some (.int v3)], [.int 0], σ3)) rfl <|
      mi_T.fin (k1 h1 h2) (fun _ => rfl))
      (fun h2 => mi_T.go 3 (s1 := (40, [some (.ref 38), some (.int x1), some (.int v1), some (.int v2), some (.int v3)], [.int v2, .ref 41], σ3)) rfl <|
      mi_T.li rfl rfl (b1 h1 h2) <|
      mi_T.br (P := (σ3.1 41 v2.toNatClampNeg) = 0) (fun _ => rfl)
      (fun h3 => mi_T.go 1 (s1 := (79, [some (.ref 38), some (.int x1), some (.int v1), some (.int v2), some (.int v3)], [.int 0], σ3)) rfl <|
      mi_T.fin (k2 h1 h2 h3) (fun _ => rfl))
      (fun h3 => mi_T.go 4 (s1 := (51, [some (.ref 38), some (.int x1), some (.int v1), some (.int v2), some (.int v3)], [.int v2, .ref 41, .int v3], σ3)) rfl <|
      mi_T.li rfl rfl (b2 h1 h2 h3) <|
      mi_T.br (P := (σ3.1 41 v2.toNatClampNeg) ≤ v3) (fun _ => rfl)
      (fun h4 => mi_T.go 1 (s1 := (79, [some (.ref 38), some (.int x1), some (.int v1), some (.int v2), some (.int v3)], [.int 0], σ3)) rfl <|
      mi_T.fin (k3 h1 h2 h3 h4) (fun _ => rfl))
      (fun h4 => mi_T.go 4 (s1 := (61, [some (.ref 38), some (.int x1), some (.int v1), some (.int v2), some (.int v3)], [.long 125779828539392, .int v1, .ref 38, .ref 38], σ3)) rfl <|
      mi_T.call (as := [.ref 38, .int v1, .long 125779828539392]) (rest := [.ref 38]) (v := some (.int v4)) rfl rfl rfl rfl rfl (c4 h1 h2 h3 h4) <|
      mi_T.go 3 (s1 := (69, [some (.ref 38), some (.int x1), some (.int v1), some (.int v2), some (.int v3)], [.long 115878217646080, .int x1, .ref 38, .int v4, .ref 38], σ4)) rfl <|
      mi_T.call (as := [.ref 38, .int x1, .long 115878217646080]) (rest := [.int v4, .ref 38]) (v := some (.int v5)) rfl rfl rfl rfl rfl (c5 h1 h2 h3 h4) <|
      mi_T.call (as := [.ref 38, .int v4, .int v5]) (rest := []) (v := some (.int v6)) rfl rfl rfl rfl rfl (c6 h1 h2 h3 h4) <|
      mi_T.br (P := ¬ v6 = 0) (fun _ => rfl)
      (fun h5 => mi_T.go 4 (s1 := (87, [some (.ref 38), some (.int x1), some (.int v1), some (.int v2), some (.int v3)], [.int v2, .ref 42, .int v3], σ6)) rfl <|
      mi_T.li rfl rfl (b3 h1 h2 h3 h4 h5) <|
      mi_T.go 3 (s1 := (93, [some (.ref 38), some (.int x1), some (.int v1), some (.int v2), some (.int v3)], [.int v2, .ref 41, .int (σ6.1 42 v2.toNatClampNeg), .int v3], σ6)) rfl <|
      mi_T.li rfl rfl (b4 h1 h2 h3 h4 h5) <|
      mi_T.call (as := [.int v3, .int (σ6.1 42 v2.toNatClampNeg), .int (σ6.1 41 v2.toNatClampNeg)]) (rest := []) (v := some (.int v7)) rfl rfl rfl rfl rfl (c7 h1 h2 h3 h4 h5) <|
      mi_T.go 2 (s1 := (99, [some (.ref 38), some (.int x1), some (.int v1), some (.int v2), some (.int v3)], [.int x1, .ref 38, .int v7], σ7)) rfl <|
      mi_T.call (as := [.ref 38, .int x1]) (rest := [.int v7]) (v := some (.int v8)) rfl rfl rfl rfl rfl (c8 h1 h2 h3 h4 h5) <|
      mi_T.br (P := ¬ v7 = v8) (fun _ => rfl)
      (fun h6 => mi_T.go 1 (s1 := (110, [some (.ref 38), some (.int x1), some (.int v1), some (.int v2), some (.int v3)], [.int 0], σ8)) rfl <|
      mi_T.fin (k4 h1 h2 h3 h4 h5 h6) (fun _ => rfl))
      (fun h6 => mi_T.go 2 (s1 := (110, [some (.ref 38), some (.int x1), some (.int v1), some (.int v2), some (.int v3)], [.int 1], σ8)) rfl <|
      mi_T.fin (k5 h1 h2 h3 h4 h5 h6) (fun _ => rfl)))
      (fun h5 => mi_T.go 1 (s1 := (79, [some (.ref 38), some (.int x1), some (.int v1), some (.int v2), some (.int v3)], [.int 0], σ6)) rfl <|
      mi_T.fin (k6 h1 h2 h3 h4 h5) (fun _ => rfl))))))
      (fun h1 => mi_T.go 1 (s1 := (14, [some (.ref 38), some (.int x1), some (.int v1), none, none], [.int 1], σ1)) rfl <|
      mi_T.fin (k7 h1) (fun _ => rfl))

-- AssertionGateModel.isSeen(J)Z
theorem R178_0 {X : Nat × (Nat → Int32)} {d : Nat} {r : mA mG} {σ : mG} {y1 : Int64}
    (k1 : TT X d tb178 (some .boolean) (5, [some (.ref 38), some (.long y1), none, some (.int 0), some (.int 0)], [], σ) r)
    : TT X d tb178 (some .boolean) (0, [some (.ref 38), some (.long y1), none, none, none], [], σ) r := mi_T.go 4 (s1 := (5, [some (.ref 38), some (.long y1), none, some (.int 0), some (.int 0)], [], σ)) rfl <|
      k1

theorem R178_5 {X : Nat × (Nat → Int32)} {d : Nat} {r : mA mG} {σ : mG} {y1 : Int64} {x3 : Int32} {x4 : Int32}
    (k1 : (σ.1 38 19) ≤ x4 → r = (some (.int x3), σ))
    (b1 : (σ.1 38 19) ≤ x4 → x3 = 0 ∨ x3 = 1)
    (k2 : ¬ ((σ.1 38 19) ≤ x4) → ¬ x3 = 0 → TT X d tb178 (some .boolean) (5, [some (.ref 38), some (.long y1), none, some (.int 1), some (.int (x4 + 1))], [], σ) r)
    (b2 : ¬ ((σ.1 38 19) ≤ x4) → ¬ (¬ x3 = 0) → mi_in x4 40 = true)
    (k3 : ¬ ((σ.1 38 19) ≤ x4) → ¬ (¬ x3 = 0) → ¬ (lg_cmp (σ.2 51 x4.toNatClampNeg) y1) = 0 → TT X d tb178 (some .boolean) (5, [some (.ref 38), some (.long y1), none, some (.int 0), some (.int (x4 + 1))], [], σ) r)
    (k4 : ¬ ((σ.1 38 19) ≤ x4) → ¬ (¬ x3 = 0) → ¬ (¬ (lg_cmp (σ.2 51 x4.toNatClampNeg) y1) = 0) → TT X d tb178 (some .boolean) (5, [some (.ref 38), some (.long y1), none, some (.int 1), some (.int (x4 + 1))], [], σ) r)
    : TT X d tb178 (some .boolean) (5, [some (.ref 38), some (.long y1), none, some (.int x3), some (.int x4)], [], σ) r := mi_T.go 3 (s1 := (11, [some (.ref 38), some (.long y1), none, some (.int x3), some (.int x4)], [.int (σ.1 38 19), .int x4], σ)) rfl <|
      mi_T.br (P := (σ.1 38 19) ≤ x4) (fun _ => rfl)
      (fun h1 => mi_T.go 1 (s1 := (43, [some (.ref 38), some (.long y1), none, some (.int x3), some (.int x4)], [.int x3], σ)) rfl <|
      mi_T.finz rfl (b1 h1) (k1 h1))
      (fun h1 => mi_T.go 1 (s1 := (15, [some (.ref 38), some (.long y1), none, some (.int x3), some (.int x4)], [.int x3], σ)) rfl <|
      mi_T.br (P := ¬ x3 = 0) (fun _ => rfl)
      (fun h2 => mi_T.go 5 (s1 := (5, [some (.ref 38), some (.long y1), none, some (.int 1), some (.int (x4 + 1))], [], σ)) rfl <|
      (k2 h1 h2))
      (fun h2 => mi_T.go 3 (s1 := (24, [some (.ref 38), some (.long y1), none, some (.int x3), some (.int x4)], [.int x4, .ref 51], σ)) rfl <|
      mi_T.lj rfl rfl (b2 h1 h2) <|
      mi_T.go 2 (s1 := (27, [some (.ref 38), some (.long y1), none, some (.int x3), some (.int x4)], [.int (lg_cmp (σ.2 51 x4.toNatClampNeg) y1)], σ)) rfl <|
      mi_T.br (P := ¬ (lg_cmp (σ.2 51 x4.toNatClampNeg) y1) = 0) (fun _ => rfl)
      (fun h3 => mi_T.go 4 (s1 := (5, [some (.ref 38), some (.long y1), none, some (.int 0), some (.int (x4 + 1))], [], σ)) rfl <|
      (k3 h1 h2 h3))
      (fun h3 => mi_T.go 5 (s1 := (5, [some (.ref 38), some (.long y1), none, some (.int 1), some (.int (x4 + 1))], [], σ)) rfl <|
      (k4 h1 h2 h3))))

-- AssertionGateModel.see(J)V
theorem R179_0 {X : Nat × (Nat → Int32)} {d : Nat} {r : mA mG} {σ : mG} {y1 : Int64}
    (b1 : mi_in (σ.1 38 19) 40 = true)
    (k1 : r = (none, (mi_uc σ.1 38 (upd (σ.1 38) 19 ((σ.1 38 19) + 1)), mi_uc σ.2 51 (vp_updL (σ.2 51) ((σ.1 38 19).toNatClampNeg) y1))))
    : TT X d tb179 none (0, [some (.ref 38), some (.long y1), none], [], σ) r := mi_T.go 5 (s1 := (9, [some (.ref 38), some (.long y1), none], [.long y1, .int (σ.1 38 19), .ref 51], σ)) rfl <|
      mi_T.sj rfl rfl (b1) <|
      mi_T.go 6 (s1 := (20, [some (.ref 38), some (.long y1), none], [], (mi_uc σ.1 38 (upd (σ.1 38) 19 ((σ.1 38 19) + 1)), mi_uc σ.2 51 (vp_updL (σ.2 51) ((σ.1 38 19).toNatClampNeg) y1)))) rfl <|
      mi_T.fin (k1) (fun _ => rfl)

-- AssertionGateModel.faults(I)I
set_option maxRecDepth 100000 in
theorem R180_0 {X : Nat × (Nat → Int32)} {d : Nat} {r : mA mG} {σ : mG} {x1 : Int32} {v1 : Int32} {σ1 : mG} {v2 : Int32} {σ2 : mG} {v3 : Int32} {σ3 : mG} {v4 : Int32} {σ4 : mG} {v5 : Int32} {σ5 : mG} {v6 : Int64} {σ6 : mG} {v7 : Int32} {σ7 : mG} {v8 : Int32} {σ8 : mG} {v9 : Int64} {σ9 : mG} {v10 : Int32} {σ10 : mG} {v11 : Int32} {σ11 : mG} {v12 : Int64} {σ12 : mG} {v13 : Int32} {σ13 : mG} {v14 : Int32} {σ14 : mG} {v15 : Int32} {σ15 : mG} {v16 : Int32} {σ16 : mG}
    (c1 : RR X d 170 [.ref 38, .int x1, .long 109330244567040] σ (some (.int v1), σ1))
    (c2 : RR X d 170 [.ref 38, .int x1, .long 126947999481856] σ1 (some (.int v2), σ2))
    (c3 : RR X d 170 [.ref 38, .int v2, .long 109330244698112] σ2 (some (.int v3), σ3))
    (c4 : RR X d 167 [.ref 38, .int 0, .long 115940293345280] σ3 (some (.int v4), σ4))
    (c5 : RR X d 170 [.ref 38, .int 0, .long 126943688392704] σ4 (some (.int v5), σ5))
    (c6 : RR X d 165 [.ref 38, .int v5] σ5 (some (.long v6), σ6))
    (c7 : (lg_cmp v6 28523) = 0 → RR X d 131 [.ref 38, .int v4] σ6 (some (.int v7), σ7))
    (k1 : (lg_cmp v6 28523) = 0 → v7 = 0 → r = (some (.int (-10)), σ7))
    (b1 : (lg_cmp v6 28523) = 0 → ¬ (v7 = 0) → mi_in v4 30 = true)
    (c8 : (lg_cmp v6 28523) = 0 → ¬ (v7 = 0) → RR X d 176 [.ref 38, .int 0] σ7 (some (.int v8), σ8))
    (c9 : (lg_cmp v6 28523) = 0 → ¬ (v7 = 0) → (σ7.1 46 v4.toNatClampNeg) = v8 → RR X d 166 [.ref 38, .int v1, .long 107156816789504] σ8 (some (.long v9), σ9))
    (c10 : (lg_cmp v6 28523) = 0 → ¬ (v7 = 0) → (σ7.1 46 v4.toNatClampNeg) = v8 → (lg_cmp v9 29552) = 0 → RR X d 167 [.ref 38, .int v1, .long 121367185850368] σ9 (some (.int v10), σ10))
    (k2 : (lg_cmp v6 28523) = 0 → ¬ (v7 = 0) → (σ7.1 46 v4.toNatClampNeg) = v8 → (lg_cmp v9 29552) = 0 → ((σ10.1 38 2) + (σ10.1 38 0)) < v10 → r = (some (.int (-12)), σ10))
    (c11 : (lg_cmp v6 28523) = 0 → ¬ (v7 = 0) → (σ7.1 46 v4.toNatClampNeg) = v8 → (lg_cmp v9 29552) = 0 → ¬ (((σ10.1 38 2) + (σ10.1 38 0)) < v10) → RR X d 167 [.ref 38, .int v1, .long 121424647815168] σ10 (some (.int v11), σ11))
    (c12 : (lg_cmp v6 28523) = 0 → ¬ (v7 = 0) → (σ7.1 46 v4.toNatClampNeg) = v8 → (lg_cmp v9 29552) = 0 → ¬ (((σ10.1 38 2) + (σ10.1 38 0)) < v10) → ((σ11.1 38 2) - (σ11.1 38 0)) < v11 → RR X d 166 [.ref 38, .int v3, .long 125771406376960] σ11 (some (.long v12), σ12))
    (k3 : (lg_cmp v6 28523) = 0 → ¬ (v7 = 0) → (σ7.1 46 v4.toNatClampNeg) = v8 → (lg_cmp v9 29552) = 0 → ¬ (((σ10.1 38 2) + (σ10.1 38 0)) < v10) → ((σ11.1 38 2) - (σ11.1 38 0)) < v11 → ¬ (lg_cmp v12 6382451) = 0 → r = (some (.int (-13)), σ12))
    (c13 : (lg_cmp v6 28523) = 0 → ¬ (v7 = 0) → (σ7.1 46 v4.toNatClampNeg) = v8 → (lg_cmp v9 29552) = 0 → ¬ (((σ10.1 38 2) + (σ10.1 38 0)) < v10) → ((σ11.1 38 2) - (σ11.1 38 0)) < v11 → ¬ (¬ (lg_cmp v12 6382451) = 0) → RR X d 148 [.ref 38, .int v3, .long 115940293345280] σ12 (some (.int v13), σ13))
    (c14 : (lg_cmp v6 28523) = 0 → ¬ (v7 = 0) → (σ7.1 46 v4.toNatClampNeg) = v8 → (lg_cmp v9 29552) = 0 → ¬ (((σ10.1 38 2) + (σ10.1 38 0)) < v10) → ((σ11.1 38 2) - (σ11.1 38 0)) < v11 → ¬ (¬ (lg_cmp v12 6382451) = 0) → RR X d 148 [.ref 38, .int 0, .long 115940293345280] σ13 (some (.int v14), σ14))
    (c15 : (lg_cmp v6 28523) = 0 → ¬ (v7 = 0) → (σ7.1 46 v4.toNatClampNeg) = v8 → (lg_cmp v9 29552) = 0 → ¬ (((σ10.1 38 2) + (σ10.1 38 0)) < v10) → ((σ11.1 38 2) - (σ11.1 38 0)) < v11 → ¬ (¬ (lg_cmp v12 6382451) = 0) → RR X d 168 [.ref 38, .int v13, .int v14] σ14 (some (.int v15), σ15))
    (k4 : (lg_cmp v6 28523) = 0 → ¬ (v7 = 0) → (σ7.1 46 v4.toNatClampNeg) = v8 → (lg_cmp v9 29552) = 0 → ¬ (((σ10.1 38 2) + (σ10.1 38 0)) < v10) → ((σ11.1 38 2) - (σ11.1 38 0)) < v11 → ¬ (¬ (lg_cmp v12 6382451) = 0) → v15 = 0 → r = (some (.int (-13)), σ15))
    (c16 : (lg_cmp v6 28523) = 0 → ¬ (v7 = 0) → (σ7.1 46 v4.toNatClampNeg) = v8 → (lg_cmp v9 29552) = 0 → ¬ (((σ10.1 38 2) + (σ10.1 38 0)) < v10) → ((σ11.1 38 2) - (σ11.1 38 0)) < v11 → ¬ (¬ (lg_cmp v12 6382451) = 0) → ¬ (v15 = 0) → RR X d 167 [.ref 38, .int v3, .long 121424647815168] σ15 (some (.int v16), σ16))
    (k5 : (lg_cmp v6 28523) = 0 → ¬ (v7 = 0) → (σ7.1 46 v4.toNatClampNeg) = v8 → (lg_cmp v9 29552) = 0 → ¬ (((σ10.1 38 2) + (σ10.1 38 0)) < v10) → ((σ11.1 38 2) - (σ11.1 38 0)) < v11 → ¬ (¬ (lg_cmp v12 6382451) = 0) → ¬ (v15 = 0) → ((σ16.1 38 2) - (σ16.1 38 0)) < v16 → r = (some (.int 0), σ16))
    (k6 : (lg_cmp v6 28523) = 0 → ¬ (v7 = 0) → (σ7.1 46 v4.toNatClampNeg) = v8 → (lg_cmp v9 29552) = 0 → ¬ (((σ10.1 38 2) + (σ10.1 38 0)) < v10) → ((σ11.1 38 2) - (σ11.1 38 0)) < v11 → ¬ (¬ (lg_cmp v12 6382451) = 0) → ¬ (v15 = 0) → ¬ (((σ16.1 38 2) - (σ16.1 38 0)) < v16) → r = (some (.int (-13)), σ16))
    (k7 : (lg_cmp v6 28523) = 0 → ¬ (v7 = 0) → (σ7.1 46 v4.toNatClampNeg) = v8 → (lg_cmp v9 29552) = 0 → ¬ (((σ10.1 38 2) + (σ10.1 38 0)) < v10) → ¬ (((σ11.1 38 2) - (σ11.1 38 0)) < v11) → r = (some (.int (-12)), σ11))
    (k8 : (lg_cmp v6 28523) = 0 → ¬ (v7 = 0) → (σ7.1 46 v4.toNatClampNeg) = v8 → ¬ ((lg_cmp v9 29552) = 0) → r = (some (.int (-11)), σ9))
    (k9 : (lg_cmp v6 28523) = 0 → ¬ (v7 = 0) → ¬ ((σ7.1 46 v4.toNatClampNeg) = v8) → r = (some (.int (-10)), σ8))
    (k10 : ¬ ((lg_cmp v6 28523) = 0) → r = (some (.int (-9)), σ6))
    : TT X d tb180 (some .int) (0, [some (.ref 38), some (.int x1), none, none, none, none], [], σ) r := mi_T.go 3 (s1 := (5, [some (.ref 38), some (.int x1), none, none, none, none], [.long 109330244567040, .int x1, .ref 38], σ)) rfl <|
      mi_T.call (as := [.ref 38, .int x1, .long 109330244567040]) (rest := []) (v := some (.int v1)) rfl rfl rfl rfl rfl (c1) <|
      mi_T.go 4 (s1 := (14, [some (.ref 38), some (.int x1), some (.int v1), none, none, none], [.long 126947999481856, .int x1, .ref 38], σ1)) rfl <|
      mi_T.call (as := [.ref 38, .int x1, .long 126947999481856]) (rest := []) (v := some (.int v2)) rfl rfl rfl rfl rfl (c2) <|
      mi_T.go 4 (s1 := (23, [some (.ref 38), some (.int x1), some (.int v1), some (.int v2), none, none], [.long 109330244698112, .int v2, .ref 38], σ2)) rfl <|
      mi_T.call (as := [.ref 38, .int v2, .long 109330244698112]) (rest := []) (v := some (.int v3)) rfl rfl rfl rfl rfl (c3) <|
      mi_T.go 4 (s1 := (33, [some (.ref 38), some (.int x1), some (.int v1), some (.int v2), some (.int v3), none], [.long 115940293345280, .int 0, .ref 38], σ3)) rfl <|
      mi_T.call (as := [.ref 38, .int 0, .long 115940293345280]) (rest := []) (v := some (.int v4)) rfl rfl rfl rfl rfl (c4) <|
      mi_T.go 5 (s1 := (44, [some (.ref 38), some (.int x1), some (.int v1), some (.int v2), some (.int v3), some (.int v4)], [.long 126943688392704, .int 0, .ref 38, .ref 38], σ4)) rfl <|
      mi_T.call (as := [.ref 38, .int 0, .long 126943688392704]) (rest := [.ref 38]) (v := some (.int v5)) rfl rfl rfl rfl rfl (c5) <|
      mi_T.call (as := [.ref 38, .int v5]) (rest := []) (v := some (.long v6)) rfl rfl rfl rfl rfl (c6) <|
      mi_T.go 2 (s1 := (54, [some (.ref 38), some (.int x1), some (.int v1), some (.int v2), some (.int v3), some (.int v4)], [.int (lg_cmp v6 28523)], σ6)) rfl <|
      mi_T.br (P := (lg_cmp v6 28523) = 0) (fun _ => rfl)
      (fun h1 => mi_T.go 2 (s1 := (63, [some (.ref 38), some (.int x1), some (.int v1), some (.int v2), some (.int v3), some (.int v4)], [.int v4, .ref 38], σ6)) rfl <|
      mi_T.call (as := [.ref 38, .int v4]) (rest := []) (v := some (.int v7)) rfl rfl rfl rfl rfl (c7 h1) <|
      mi_T.br (P := v7 = 0) (fun _ => rfl)
      (fun h2 => mi_T.go 1 (s1 := (86, [some (.ref 38), some (.int x1), some (.int v1), some (.int v2), some (.int v3), some (.int v4)], [.int (-10)], σ7)) rfl <|
      mi_T.fin (k1 h1 h2) (fun _ => rfl))
      (fun h2 => mi_T.go 3 (s1 := (75, [some (.ref 38), some (.int x1), some (.int v1), some (.int v2), some (.int v3), some (.int v4)], [.int v4, .ref 46], σ7)) rfl <|
      mi_T.li rfl rfl (b1 h1 h2) <|
      mi_T.go 2 (s1 := (78, [some (.ref 38), some (.int x1), some (.int v1), some (.int v2), some (.int v3), some (.int v4)], [.int 0, .ref 38, .int (σ7.1 46 v4.toNatClampNeg)], σ7)) rfl <|
      mi_T.call (as := [.ref 38, .int 0]) (rest := [.int (σ7.1 46 v4.toNatClampNeg)]) (v := some (.int v8)) rfl rfl rfl rfl rfl (c8 h1 h2) <|
      mi_T.br (P := (σ7.1 46 v4.toNatClampNeg) = v8) (fun _ => rfl)
      (fun h3 => mi_T.go 3 (s1 := (92, [some (.ref 38), some (.int x1), some (.int v1), some (.int v2), some (.int v3), some (.int v4)], [.long 107156816789504, .int v1, .ref 38], σ8)) rfl <|
      mi_T.call (as := [.ref 38, .int v1, .long 107156816789504]) (rest := []) (v := some (.long v9)) rfl rfl rfl rfl rfl (c9 h1 h2 h3) <|
      mi_T.go 2 (s1 := (99, [some (.ref 38), some (.int x1), some (.int v1), some (.int v2), some (.int v3), some (.int v4)], [.int (lg_cmp v9 29552)], σ9)) rfl <|
      mi_T.br (P := (lg_cmp v9 29552) = 0) (fun _ => rfl)
      (fun h4 => mi_T.go 3 (s1 := (110, [some (.ref 38), some (.int x1), some (.int v1), some (.int v2), some (.int v3), some (.int v4)], [.long 121367185850368, .int v1, .ref 38], σ9)) rfl <|
      mi_T.call (as := [.ref 38, .int v1, .long 121367185850368]) (rest := []) (v := some (.int v10)) rfl rfl rfl rfl rfl (c10 h1 h2 h3 h4) <|
      mi_T.go 5 (s1 := (122, [some (.ref 38), some (.int x1), some (.int v1), some (.int v2), some (.int v3), some (.int v4)], [.int ((σ10.1 38 2) + (σ10.1 38 0)), .int v10], σ10)) rfl <|
      mi_T.br (P := ((σ10.1 38 2) + (σ10.1 38 0)) < v10) (fun _ => rfl)
      (fun h5 => mi_T.go 1 (s1 := (147, [some (.ref 38), some (.int x1), some (.int v1), some (.int v2), some (.int v3), some (.int v4)], [.int (-12)], σ10)) rfl <|
      mi_T.fin (k2 h1 h2 h3 h4 h5) (fun _ => rfl))
      (fun h5 => mi_T.go 3 (s1 := (130, [some (.ref 38), some (.int x1), some (.int v1), some (.int v2), some (.int v3), some (.int v4)], [.long 121424647815168, .int v1, .ref 38], σ10)) rfl <|
      mi_T.call (as := [.ref 38, .int v1, .long 121424647815168]) (rest := []) (v := some (.int v11)) rfl rfl rfl rfl rfl (c11 h1 h2 h3 h4 h5) <|
      mi_T.go 5 (s1 := (142, [some (.ref 38), some (.int x1), some (.int v1), some (.int v2), some (.int v3), some (.int v4)], [.int ((σ11.1 38 2) - (σ11.1 38 0)), .int v11], σ11)) rfl <|
      mi_T.br (P := ((σ11.1 38 2) - (σ11.1 38 0)) < v11) (fun _ => rfl)
      (fun h6 => mi_T.go 3 (s1 := (154, [some (.ref 38), some (.int x1), some (.int v1), some (.int v2), some (.int v3), some (.int v4)], [.long 125771406376960, .int v3, .ref 38], σ11)) rfl <|
      mi_T.call (as := [.ref 38, .int v3, .long 125771406376960]) (rest := []) (v := some (.long v12)) rfl rfl rfl rfl rfl (c12 h1 h2 h3 h4 h5 h6) <|
      mi_T.go 2 (s1 := (161, [some (.ref 38), some (.int x1), some (.int v1), some (.int v2), some (.int v3), some (.int v4)], [.int (lg_cmp v12 6382451)], σ12)) rfl <|
      mi_T.br (P := ¬ (lg_cmp v12 6382451) = 0) (fun _ => rfl)
      (fun h7 => mi_T.go 1 (s1 := (211, [some (.ref 38), some (.int x1), some (.int v1), some (.int v2), some (.int v3), some (.int v4)], [.int (-13)], σ12)) rfl <|
      mi_T.fin (k3 h1 h2 h3 h4 h5 h6 h7) (fun _ => rfl))
      (fun h7 => mi_T.go 4 (s1 := (171, [some (.ref 38), some (.int x1), some (.int v1), some (.int v2), some (.int v3), some (.int v4)], [.long 115940293345280, .int v3, .ref 38, .ref 38], σ12)) rfl <|
      mi_T.call (as := [.ref 38, .int v3, .long 115940293345280]) (rest := [.ref 38]) (v := some (.int v13)) rfl rfl rfl rfl rfl (c13 h1 h2 h3 h4 h5 h6 h7) <|
      mi_T.go 3 (s1 := (179, [some (.ref 38), some (.int x1), some (.int v1), some (.int v2), some (.int v3), some (.int v4)], [.long 115940293345280, .int 0, .ref 38, .int v13, .ref 38], σ13)) rfl <|
      mi_T.call (as := [.ref 38, .int 0, .long 115940293345280]) (rest := [.int v13, .ref 38]) (v := some (.int v14)) rfl rfl rfl rfl rfl (c14 h1 h2 h3 h4 h5 h6 h7) <|
      mi_T.call (as := [.ref 38, .int v13, .int v14]) (rest := []) (v := some (.int v15)) rfl rfl rfl rfl rfl (c15 h1 h2 h3 h4 h5 h6 h7) <|
      mi_T.br (P := v15 = 0) (fun _ => rfl)
      (fun h8 => mi_T.go 1 (s1 := (211, [some (.ref 38), some (.int x1), some (.int v1), some (.int v2), some (.int v3), some (.int v4)], [.int (-13)], σ15)) rfl <|
      mi_T.fin (k4 h1 h2 h3 h4 h5 h6 h7 h8) (fun _ => rfl))
      (fun h8 => mi_T.go 3 (s1 := (194, [some (.ref 38), some (.int x1), some (.int v1), some (.int v2), some (.int v3), some (.int v4)], [.long 121424647815168, .int v3, .ref 38], σ15)) rfl <|
      mi_T.call (as := [.ref 38, .int v3, .long 121424647815168]) (rest := []) (v := some (.int v16)) rfl rfl rfl rfl rfl (c16 h1 h2 h3 h4 h5 h6 h7 h8) <|
      mi_T.go 5 (s1 := (206, [some (.ref 38), some (.int x1), some (.int v1), some (.int v2), some (.int v3), some (.int v4)], [.int ((σ16.1 38 2) - (σ16.1 38 0)), .int v16], σ16)) rfl <|
      mi_T.br (P := ((σ16.1 38 2) - (σ16.1 38 0)) < v16) (fun _ => rfl)
      (fun h9 => mi_T.go 1 (s1 := (213, [some (.ref 38), some (.int x1), some (.int v1), some (.int v2), some (.int v3), some (.int v4)], [.int 0], σ16)) rfl <|
      mi_T.fin (k5 h1 h2 h3 h4 h5 h6 h7 h8 h9) (fun _ => rfl))
      (fun h9 => mi_T.go 1 (s1 := (211, [some (.ref 38), some (.int x1), some (.int v1), some (.int v2), some (.int v3), some (.int v4)], [.int (-13)], σ16)) rfl <|
      mi_T.fin (k6 h1 h2 h3 h4 h5 h6 h7 h8 h9) (fun _ => rfl)))))
      (fun h6 => mi_T.go 1 (s1 := (147, [some (.ref 38), some (.int x1), some (.int v1), some (.int v2), some (.int v3), some (.int v4)], [.int (-12)], σ11)) rfl <|
      mi_T.fin (k7 h1 h2 h3 h4 h5 h6) (fun _ => rfl))))
      (fun h4 => mi_T.go 1 (s1 := (104, [some (.ref 38), some (.int x1), some (.int v1), some (.int v2), some (.int v3), some (.int v4)], [.int (-11)], σ9)) rfl <|
      mi_T.fin (k8 h1 h2 h3 h4) (fun _ => rfl)))
      (fun h3 => mi_T.go 1 (s1 := (86, [some (.ref 38), some (.int x1), some (.int v1), some (.int v2), some (.int v3), some (.int v4)], [.int (-10)], σ8)) rfl <|
      mi_T.fin (k9 h1 h2 h3) (fun _ => rfl))))
      (fun h1 => mi_T.go 1 (s1 := (59, [some (.ref 38), some (.int x1), some (.int v1), some (.int v2), some (.int v3), some (.int v4)], [.int (-9)], σ6)) rfl <|
      mi_T.fin (k10 h1) (fun _ => rfl))

-- AssertionGateModel.accept(I)I
theorem R181_0 {X : Nat × (Nat → Int32)} {d : Nat} {r : mA mG} {σ : mG} {x1 : Int32} {v1 : Int64} {σ1 : mG} {v2 : Int32} {σ2 : mG} {v3 : Int32} {σ3 : mG} {σ4 : mG} {v4 : Int32} {σ5 : mG} {v5 : Int32} {σ6 : mG} {v6 : Int32} {σ7 : mG} {v7 : Int32} {σ8 : mG} {v8 : Int64} {σ9 : mG}
    (c1 : RR X d 166 [.ref 38, .int x1, .long 115878217646080] σ (some (.long v1), σ1))
    (c2 : RR X d 180 [.ref 38, .int x1] σ1 (some (.int v2), σ2))
    (c3 : v2 = 0 → RR X d 178 [.ref 38, .long v1] σ2 (some (.int v3), σ3))
    (k1 : v2 = 0 → v3 = 0 → 20 ≤ (σ3.1 38 15) → r = (some (.int (-15)), σ3))
    (c4 : v2 = 0 → v3 = 0 → ¬ (20 ≤ (σ3.1 38 15)) → (σ3.1 38 19) < 40 → RR X d 179 [.ref 38, .long v1] σ3 (none, σ4))
    (c5 : v2 = 0 → v3 = 0 → ¬ (20 ≤ (σ3.1 38 15)) → (σ3.1 38 19) < 40 → RR X d 167 [.ref 38, .int 0, .long 115940293345280] σ4 (some (.int v4), σ5))
    (b1 : v2 = 0 → v3 = 0 → ¬ (20 ≤ (σ3.1 38 15)) → (σ3.1 38 19) < 40 → mi_in v4 30 = true)
    (c6 : v2 = 0 → v3 = 0 → ¬ (20 ≤ (σ3.1 38 15)) → (σ3.1 38 19) < 40 → RR X d 176 [.ref 38, .int 0] (mi_uc σ5.1 47 (upd (σ5.1 47) v4.toNatClampNeg (mi_nar 2 1)), σ5.2) (some (.int v5), σ6))
    (b2 : v2 = 0 → v3 = 0 → ¬ (20 ≤ (σ3.1 38 15)) → (σ3.1 38 19) < 40 → mi_in (σ5.1 38 15) 20 = true)
    (c7 : v2 = 0 → v3 = 0 → ¬ (20 ≤ (σ3.1 38 15)) → (σ3.1 38 19) < 40 → RR X d 170 [.ref 38, .int x1, .long 126947999481856] (mi_uc σ6.1 48 (upd (σ6.1 48) ((σ5.1 38 15).toNatClampNeg) v5), σ6.2) (some (.int v6), σ7))
    (c8 : v2 = 0 → v3 = 0 → ¬ (20 ≤ (σ3.1 38 15)) → (σ3.1 38 19) < 40 → RR X d 170 [.ref 38, .int v6, .long 121364726218752] σ7 (some (.int v7), σ8))
    (c9 : v2 = 0 → v3 = 0 → ¬ (20 ≤ (σ3.1 38 15)) → (σ3.1 38 19) < 40 → RR X d 165 [.ref 38, .int v7] σ8 (some (.long v8), σ9))
    (b3 : v2 = 0 → v3 = 0 → ¬ (20 ≤ (σ3.1 38 15)) → (σ3.1 38 19) < 40 → mi_in (σ7.1 38 15) 20 = true)
    (k2 : v2 = 0 → v3 = 0 → ¬ (20 ≤ (σ3.1 38 15)) → (σ3.1 38 19) < 40 → r = (some (.int (((σ9.1 38 15) + 1) - 1)), (mi_uc σ9.1 38 (upd (σ9.1 38) 15 ((σ9.1 38 15) + 1)), mi_uc σ9.2 49 (vp_updL (σ9.2 49) ((σ7.1 38 15).toNatClampNeg) v8))))
    (k3 : v2 = 0 → v3 = 0 → ¬ (20 ≤ (σ3.1 38 15)) → ¬ ((σ3.1 38 19) < 40) → r = (some (.int (-15)), σ3))
    (k4 : v2 = 0 → ¬ (v3 = 0) → r = (some (.int (-14)), σ3))
    (k5 : ¬ (v2 = 0) → r = (some (.int v2), σ2))
    : TT X d tb181 (some .int) (0, [some (.ref 38), some (.int x1), none, none, none, none], [], σ) r := mi_T.go 3 (s1 := (5, [some (.ref 38), some (.int x1), none, none, none, none], [.long 115878217646080, .int x1, .ref 38], σ)) rfl <|
      mi_T.call (as := [.ref 38, .int x1, .long 115878217646080]) (rest := []) (v := some (.long v1)) rfl rfl rfl rfl rfl (c1) <|
      mi_T.go 3 (s1 := (11, [some (.ref 38), some (.int x1), some (.long v1), none, none, none], [.int x1, .ref 38], σ1)) rfl <|
      mi_T.call (as := [.ref 38, .int x1]) (rest := []) (v := some (.int v2)) rfl rfl rfl rfl rfl (c2) <|
      mi_T.go 2 (s1 := (18, [some (.ref 38), some (.int x1), some (.long v1), none, some (.int v2), none], [.int v2], σ2)) rfl <|
      mi_T.br (P := v2 = 0) (fun _ => rfl)
      (fun h1 => mi_T.go 2 (s1 := (26, [some (.ref 38), some (.int x1), some (.long v1), none, some (.int v2), none], [.long v1, .ref 38], σ2)) rfl <|
      mi_T.call (as := [.ref 38, .long v1]) (rest := []) (v := some (.int v3)) rfl rfl rfl rfl rfl (c3 h1) <|
      mi_T.br (P := v3 = 0) (fun _ => rfl)
      (fun h2 => mi_T.go 3 (s1 := (41, [some (.ref 38), some (.int x1), some (.long v1), none, some (.int v2), none], [.int 20, .int (σ3.1 38 15)], σ3)) rfl <|
      mi_T.br (P := 20 ≤ (σ3.1 38 15)) (fun _ => rfl)
      (fun h3 => mi_T.go 1 (s1 := (55, [some (.ref 38), some (.int x1), some (.long v1), none, some (.int v2), none], [.int (-15)], σ3)) rfl <|
      mi_T.fin (k1 h1 h2 h3) (fun _ => rfl))
      (fun h3 => mi_T.go 3 (s1 := (50, [some (.ref 38), some (.int x1), some (.long v1), none, some (.int v2), none], [.int 40, .int (σ3.1 38 19)], σ3)) rfl <|
      mi_T.br (P := (σ3.1 38 19) < 40) (fun _ => rfl)
      (fun h4 => mi_T.go 2 (s1 := (58, [some (.ref 38), some (.int x1), some (.long v1), none, some (.int v2), none], [.long v1, .ref 38], σ3)) rfl <|
      mi_T.call (as := [.ref 38, .long v1]) (rest := []) (v := none) rfl rfl rfl rfl rfl (c4 h1 h2 h3 h4) <|
      mi_T.go 5 (s1 := (70, [some (.ref 38), some (.int x1), some (.long v1), none, some (.int v2), none], [.long 115940293345280, .int 0, .ref 38, .ref 47], σ4)) rfl <|
      mi_T.call (as := [.ref 38, .int 0, .long 115940293345280]) (rest := [.ref 47]) (v := some (.int v4)) rfl rfl rfl rfl rfl (c5 h1 h2 h3 h4) <|
      mi_T.go 1 (s1 := (74, [some (.ref 38), some (.int x1), some (.long v1), none, some (.int v2), none], [.int 1, .int v4, .ref 47], σ5)) rfl <|
      mi_T.sz rfl rfl (b1 h1 h2 h3 h4) <|
      mi_T.go 6 (s1 := (85, [some (.ref 38), some (.int x1), some (.long v1), none, some (.int v2), none], [.int 0, .ref 38, .int (σ5.1 38 15), .ref 48], (mi_uc σ5.1 47 (upd (σ5.1 47) v4.toNatClampNeg (mi_nar 2 1)), σ5.2))) rfl <|
      mi_T.call (as := [.ref 38, .int 0]) (rest := [.int (σ5.1 38 15), .ref 48]) (v := some (.int v5)) rfl rfl rfl rfl rfl (c6 h1 h2 h3 h4) <|
      mi_T.si rfl rfl (b2 h1 h2 h3 h4) <|
      mi_T.go 3 (s1 := (94, [some (.ref 38), some (.int x1), some (.long v1), none, some (.int v2), none], [.long 126947999481856, .int x1, .ref 38], (mi_uc σ6.1 48 (upd (σ6.1 48) ((σ5.1 38 15).toNatClampNeg) v5), σ6.2))) rfl <|
      mi_T.call (as := [.ref 38, .int x1, .long 126947999481856]) (rest := []) (v := some (.int v6)) rfl rfl rfl rfl rfl (c7 h1 h2 h3 h4) <|
      mi_T.go 9 (s1 := (114, [some (.ref 38), some (.int x1), some (.long v1), none, some (.int v2), some (.int v6)], [.long 121364726218752, .int v6, .ref 38, .ref 38, .int (σ7.1 38 15), .ref 49], σ7)) rfl <|
      mi_T.call (as := [.ref 38, .int v6, .long 121364726218752]) (rest := [.ref 38, .int (σ7.1 38 15), .ref 49]) (v := some (.int v7)) rfl rfl rfl rfl rfl (c8 h1 h2 h3 h4) <|
      mi_T.call (as := [.ref 38, .int v7]) (rest := [.int (σ7.1 38 15), .ref 49]) (v := some (.long v8)) rfl rfl rfl rfl rfl (c9 h1 h2 h3 h4) <|
      mi_T.sj rfl rfl (b3 h1 h2 h3 h4) <|
      mi_T.go 10 (s1 := (137, [some (.ref 38), some (.int x1), some (.long v1), none, some (.int v2), some (.int v6)], [.int (((σ9.1 38 15) + 1) - 1)], (mi_uc σ9.1 38 (upd (σ9.1 38) 15 ((σ9.1 38 15) + 1)), mi_uc σ9.2 49 (vp_updL (σ9.2 49) ((σ7.1 38 15).toNatClampNeg) v8)))) rfl <|
      mi_T.fin (k2 h1 h2 h3 h4) (fun _ => rfl))
      (fun h4 => mi_T.go 1 (s1 := (55, [some (.ref 38), some (.int x1), some (.long v1), none, some (.int v2), none], [.int (-15)], σ3)) rfl <|
      mi_T.fin (k3 h1 h2 h3 h4) (fun _ => rfl))))
      (fun h2 => mi_T.go 1 (s1 := (34, [some (.ref 38), some (.int x1), some (.long v1), none, some (.int v2), none], [.int (-14)], σ3)) rfl <|
      mi_T.fin (k4 h1 h2) (fun _ => rfl)))
      (fun h1 => mi_T.go 1 (s1 := (23, [some (.ref 38), some (.int x1), some (.long v1), none, some (.int v2), none], [.int v2], σ2)) rfl <|
      mi_T.fin (k5 h1) (fun _ => rfl))

-- AssertionGateModel.logout()I
theorem R182_0 {X : Nat × (Nat → Int32)} {d : Nat} {r : mA mG} {σ : mG} {v1 : Int64} {σ1 : mG} {v2 : Int32} {σ2 : mG} {σ3 : mG}
    (c1 : RR X d 166 [.ref 38, .int 0, .long 115878217646080] σ (some (.long v1), σ1))
    (c2 : RR X d 178 [.ref 38, .long v1] σ1 (some (.int v2), σ2))
    (c3 : v2 = 0 → (σ2.1 38 19) < 40 → RR X d 179 [.ref 38, .long v1] σ2 (none, σ3))
    (k1 : v2 = 0 → (σ2.1 38 19) < 40 → TT X d tb182 (some .int) (42, [some (.ref 38), some (.long v1), none, some (.int 0), some (.int 0)], [], σ3) r)
    (k2 : v2 = 0 → ¬ ((σ2.1 38 19) < 40) → r = (some (.int (-15)), σ2))
    (k3 : ¬ (v2 = 0) → r = (some (.int (-14)), σ2))
    : TT X d tb182 (some .int) (0, [some (.ref 38), none, none, none, none], [], σ) r := mi_T.go 3 (s1 := (5, [some (.ref 38), none, none, none, none], [.long 115878217646080, .int 0, .ref 38], σ)) rfl <|
      mi_T.call (as := [.ref 38, .int 0, .long 115878217646080]) (rest := []) (v := some (.long v1)) rfl rfl rfl rfl rfl (c1) <|
      mi_T.go 3 (s1 := (11, [some (.ref 38), some (.long v1), none, none, none], [.long v1, .ref 38], σ1)) rfl <|
      mi_T.call (as := [.ref 38, .long v1]) (rest := []) (v := some (.int v2)) rfl rfl rfl rfl rfl (c2) <|
      mi_T.br (P := v2 = 0) (fun _ => rfl)
      (fun h1 => mi_T.go 3 (s1 := (26, [some (.ref 38), some (.long v1), none, none, none], [.int 40, .int (σ2.1 38 19)], σ2)) rfl <|
      mi_T.br (P := (σ2.1 38 19) < 40) (fun _ => rfl)
      (fun h2 => mi_T.go 2 (s1 := (34, [some (.ref 38), some (.long v1), none, none, none], [.long v1, .ref 38], σ2)) rfl <|
      mi_T.call (as := [.ref 38, .long v1]) (rest := []) (v := none) rfl rfl rfl rfl rfl (c3 h1 h2) <|
      mi_T.go 4 (s1 := (42, [some (.ref 38), some (.long v1), none, some (.int 0), some (.int 0)], [], σ3)) rfl <|
      (k1 h1 h2))
      (fun h2 => mi_T.go 1 (s1 := (31, [some (.ref 38), some (.long v1), none, none, none], [.int (-15)], σ2)) rfl <|
      mi_T.fin (k2 h1 h2) (fun _ => rfl)))
      (fun h1 => mi_T.go 1 (s1 := (19, [some (.ref 38), some (.long v1), none, none, none], [.int (-14)], σ2)) rfl <|
      mi_T.fin (k3 h1) (fun _ => rfl))

theorem R182_42 {X : Nat × (Nat → Int32)} {d : Nat} {r : mA mG} {σ : mG} {y1 : Int64} {x3 : Int32} {x4 : Int32} {v1 : Int32} {σ1 : mG} {v2 : Int32} {σ2 : mG} {v3 : Int64} {σ3 : mG}
    (k1 : (σ.1 38 15) ≤ x4 → r = (some (.int (100 + x3)), σ))
    (b1 : ¬ ((σ.1 38 15) ≤ x4) → mi_in x4 20 = true)
    (k2 : ¬ ((σ.1 38 15) ≤ x4) → ¬ (σ.1 50 x4.toNatClampNeg) = 0 → TT X d tb182 (some .int) (42, [some (.ref 38), some (.long y1), none, some (.int x3), some (.int (x4 + 1))], [], σ) r)
    (b2 : ¬ ((σ.1 38 15) ≤ x4) → ¬ (¬ (σ.1 50 x4.toNatClampNeg) = 0) → mi_in x4 20 = true)
    (c1 : ¬ ((σ.1 38 15) ≤ x4) → ¬ (¬ (σ.1 50 x4.toNatClampNeg) = 0) → RR X d 176 [.ref 38, .int 0] σ (some (.int v1), σ1))
    (k3 : ¬ ((σ.1 38 15) ≤ x4) → ¬ (¬ (σ.1 50 x4.toNatClampNeg) = 0) → ¬ (σ.1 48 x4.toNatClampNeg) = v1 → TT X d tb182 (some .int) (42, [some (.ref 38), some (.long y1), none, some (.int x3), some (.int (x4 + 1))], [], σ1) r)
    (b3 : ¬ ((σ.1 38 15) ≤ x4) → ¬ (¬ (σ.1 50 x4.toNatClampNeg) = 0) → ¬ (¬ (σ.1 48 x4.toNatClampNeg) = v1) → mi_in x4 20 = true)
    (c2 : ¬ ((σ.1 38 15) ≤ x4) → ¬ (¬ (σ.1 50 x4.toNatClampNeg) = 0) → ¬ (¬ (σ.1 48 x4.toNatClampNeg) = v1) → RR X d 170 [.ref 38, .int 0, .long 121364726218752] σ1 (some (.int v2), σ2))
    (c3 : ¬ ((σ.1 38 15) ≤ x4) → ¬ (¬ (σ.1 50 x4.toNatClampNeg) = 0) → ¬ (¬ (σ.1 48 x4.toNatClampNeg) = v1) → RR X d 165 [.ref 38, .int v2] σ2 (some (.long v3), σ3))
    (k4 : ¬ ((σ.1 38 15) ≤ x4) → ¬ (¬ (σ.1 50 x4.toNatClampNeg) = 0) → ¬ (¬ (σ.1 48 x4.toNatClampNeg) = v1) → ¬ (lg_cmp (σ1.2 49 x4.toNatClampNeg) v3) = 0 → TT X d tb182 (some .int) (42, [some (.ref 38), some (.long y1), none, some (.int x3), some (.int (x4 + 1))], [], σ3) r)
    (b4 : ¬ ((σ.1 38 15) ≤ x4) → ¬ (¬ (σ.1 50 x4.toNatClampNeg) = 0) → ¬ (¬ (σ.1 48 x4.toNatClampNeg) = v1) → ¬ (¬ (lg_cmp (σ1.2 49 x4.toNatClampNeg) v3) = 0) → mi_in x4 20 = true)
    (k5 : ¬ ((σ.1 38 15) ≤ x4) → ¬ (¬ (σ.1 50 x4.toNatClampNeg) = 0) → ¬ (¬ (σ.1 48 x4.toNatClampNeg) = v1) → ¬ (¬ (lg_cmp (σ1.2 49 x4.toNatClampNeg) v3) = 0) → TT X d tb182 (some .int) (42, [some (.ref 38), some (.long y1), none, some (.int (x3 + 1)), some (.int (x4 + 1))], [], (mi_uc σ3.1 50 (upd (σ3.1 50) x4.toNatClampNeg (mi_nar 2 1)), σ3.2)) r)
    : TT X d tb182 (some .int) (42, [some (.ref 38), some (.long y1), none, some (.int x3), some (.int x4)], [], σ) r := mi_T.go 3 (s1 := (48, [some (.ref 38), some (.long y1), none, some (.int x3), some (.int x4)], [.int (σ.1 38 15), .int x4], σ)) rfl <|
      mi_T.br (P := (σ.1 38 15) ≤ x4) (fun _ => rfl)
      (fun h1 => mi_T.go 3 (s1 := (120, [some (.ref 38), some (.long y1), none, some (.int x3), some (.int x4)], [.int (100 + x3)], σ)) rfl <|
      mi_T.fin (k1 h1) (fun _ => rfl))
      (fun h1 => mi_T.go 3 (s1 := (57, [some (.ref 38), some (.long y1), none, some (.int x3), some (.int x4)], [.int x4, .ref 50], σ)) rfl <|
      mi_T.lz rfl rfl (b1 h1) <|
      mi_T.br (P := ¬ (σ.1 50 x4.toNatClampNeg) = 0) (fun _ => rfl)
      (fun h2 => mi_T.go 2 (s1 := (42, [some (.ref 38), some (.long y1), none, some (.int x3), some (.int (x4 + 1))], [], σ)) rfl <|
      (k2 h1 h2))
      (fun h2 => mi_T.go 3 (s1 := (67, [some (.ref 38), some (.long y1), none, some (.int x3), some (.int x4)], [.int x4, .ref 48], σ)) rfl <|
      mi_T.li rfl rfl (b2 h1 h2) <|
      mi_T.go 2 (s1 := (70, [some (.ref 38), some (.long y1), none, some (.int x3), some (.int x4)], [.int 0, .ref 38, .int (σ.1 48 x4.toNatClampNeg)], σ)) rfl <|
      mi_T.call (as := [.ref 38, .int 0]) (rest := [.int (σ.1 48 x4.toNatClampNeg)]) (v := some (.int v1)) rfl rfl rfl rfl rfl (c1 h1 h2) <|
      mi_T.br (P := ¬ (σ.1 48 x4.toNatClampNeg) = v1) (fun _ => rfl)
      (fun h3 => mi_T.go 2 (s1 := (42, [some (.ref 38), some (.long y1), none, some (.int x3), some (.int (x4 + 1))], [], σ1)) rfl <|
      (k3 h1 h2 h3))
      (fun h3 => mi_T.go 3 (s1 := (82, [some (.ref 38), some (.long y1), none, some (.int x3), some (.int x4)], [.int x4, .ref 49], σ1)) rfl <|
      mi_T.lj rfl rfl (b3 h1 h2 h3) <|
      mi_T.go 4 (s1 := (89, [some (.ref 38), some (.long y1), none, some (.int x3), some (.int x4)], [.long 121364726218752, .int 0, .ref 38, .ref 38, .long (σ1.2 49 x4.toNatClampNeg)], σ1)) rfl <|
      mi_T.call (as := [.ref 38, .int 0, .long 121364726218752]) (rest := [.ref 38, .long (σ1.2 49 x4.toNatClampNeg)]) (v := some (.int v2)) rfl rfl rfl rfl rfl (c2 h1 h2 h3) <|
      mi_T.call (as := [.ref 38, .int v2]) (rest := [.long (σ1.2 49 x4.toNatClampNeg)]) (v := some (.long v3)) rfl rfl rfl rfl rfl (c3 h1 h2 h3) <|
      mi_T.go 1 (s1 := (96, [some (.ref 38), some (.long y1), none, some (.int x3), some (.int x4)], [.int (lg_cmp (σ1.2 49 x4.toNatClampNeg) v3)], σ3)) rfl <|
      mi_T.br (P := ¬ (lg_cmp (σ1.2 49 x4.toNatClampNeg) v3) = 0) (fun _ => rfl)
      (fun h4 => mi_T.go 2 (s1 := (42, [some (.ref 38), some (.long y1), none, some (.int x3), some (.int (x4 + 1))], [], σ3)) rfl <|
      (k4 h1 h2 h3 h4))
      (fun h4 => mi_T.go 4 (s1 := (106, [some (.ref 38), some (.long y1), none, some (.int x3), some (.int x4)], [.int 1, .int x4, .ref 50], σ3)) rfl <|
      mi_T.sz rfl rfl (b4 h1 h2 h3 h4) <|
      mi_T.go 3 (s1 := (42, [some (.ref 38), some (.long y1), none, some (.int (x3 + 1)), some (.int (x4 + 1))], [], (mi_uc σ3.1 50 (upd (σ3.1 50) x4.toNatClampNeg (mi_nar 2 1)), σ3.2))) rfl <|
      (k5 h1 h2 h3 h4)))))

-- AssertionGateModel.consume()I
theorem R183_0 {X : Nat × (Nat → Int32)} {d : Nat} {r : mA mG} {σ : mG} {v1 : Int32} {σ1 : mG} {v2 : Int32} {σ2 : mG} {v3 : Int32} {σ3 : mG} {v4 : Int32} {σ4 : mG}
    (c1 : RR X d 153 [.ref 38] σ (some (.int v1), σ1))
    (c2 : 0 ≤ v1 → RR X d 173 [.ref 38] σ1 (some (.int v2), σ2))
    (c3 : 0 ≤ v1 → v2 = 0 → RR X d 174 [.ref 38] σ2 (some (.int v3), σ3))
    (k1 : 0 ≤ v1 → v2 = 0 → ¬ v3 = 0 → TT X d tb183 (some .int) (40, [some (.ref 38), some (.int v1), some (.int v3), none], [], σ3) r)
    (c4 : 0 ≤ v1 → v2 = 0 → ¬ (¬ v3 = 0) → RR X d 175 [.ref 38] σ3 (some (.int v4), σ4))
    (k2 : 0 ≤ v1 → v2 = 0 → ¬ (¬ v3 = 0) → ¬ v4 = 0 → TT X d tb183 (some .int) (40, [some (.ref 38), some (.int v1), some (.int v3), none], [], σ4) r)
    (k3 : 0 ≤ v1 → v2 = 0 → ¬ (¬ v3 = 0) → ¬ (¬ v4 = 0) → r = (some (.int (-4)), σ4))
    (k4 : 0 ≤ v1 → ¬ (v2 = 0) → r = (some (.int (-3)), σ2))
    (k5 : ¬ (0 ≤ v1) → r = (some (.int v1), σ1))
    : TT X d tb183 (some .int) (0, [some (.ref 38), none, none, none], [], σ) r := mi_T.go 1 (s1 := (1, [some (.ref 38), none, none, none], [.ref 38], σ)) rfl <|
      mi_T.call (as := [.ref 38]) (rest := []) (v := some (.int v1)) rfl rfl rfl rfl rfl (c1) <|
      mi_T.go 2 (s1 := (6, [some (.ref 38), some (.int v1), none, none], [.int v1], σ1)) rfl <|
      mi_T.br (P := 0 ≤ v1) (fun _ => rfl)
      (fun h1 => mi_T.go 1 (s1 := (12, [some (.ref 38), some (.int v1), none, none], [.ref 38], σ1)) rfl <|
      mi_T.call (as := [.ref 38]) (rest := []) (v := some (.int v2)) rfl rfl rfl rfl rfl (c2 h1) <|
      mi_T.br (P := v2 = 0) (fun _ => rfl)
      (fun h2 => mi_T.go 1 (s1 := (22, [some (.ref 38), some (.int v1), none, none], [.ref 38], σ2)) rfl <|
      mi_T.call (as := [.ref 38]) (rest := []) (v := some (.int v3)) rfl rfl rfl rfl rfl (c3 h1 h2) <|
      mi_T.go 2 (s1 := (27, [some (.ref 38), some (.int v1), some (.int v3), none], [.int v3], σ3)) rfl <|
      mi_T.br (P := ¬ v3 = 0) (fun _ => rfl)
      (fun h3 => (k1 h1 h2 h3))
      (fun h3 => mi_T.go 1 (s1 := (31, [some (.ref 38), some (.int v1), some (.int v3), none], [.ref 38], σ3)) rfl <|
      mi_T.call (as := [.ref 38]) (rest := []) (v := some (.int v4)) rfl rfl rfl rfl rfl (c4 h1 h2 h3) <|
      mi_T.br (P := ¬ v4 = 0) (fun _ => rfl)
      (fun h4 => (k2 h1 h2 h3 h4))
      (fun h4 => mi_T.go 1 (s1 := (39, [some (.ref 38), some (.int v1), some (.int v3), none], [.int (-4)], σ4)) rfl <|
      mi_T.fin (k3 h1 h2 h3 h4) (fun _ => rfl))))
      (fun h2 => mi_T.go 1 (s1 := (20, [some (.ref 38), some (.int v1), none, none], [.int (-3)], σ2)) rfl <|
      mi_T.fin (k4 h1 h2) (fun _ => rfl)))
      (fun h1 => mi_T.go 1 (s1 := (10, [some (.ref 38), some (.int v1), none, none], [.int v1], σ1)) rfl <|
      mi_T.fin (k5 h1) (fun _ => rfl))

theorem R183_40 {X : Nat × (Nat → Int32)} {d : Nat} {r : mA mG} {σ : mG} {x1 : Int32} {x2 : Int32} {v1 : Int32} {σ1 : mG}
    (k1 : x2 = 0 → TT X d tb183 (some .int) (56, [some (.ref 38), some (.int x1), some (.int x2), none], [.int 0], σ) r)
    (c1 : ¬ (x2 = 0) → RR X d 170 [.ref 38, .int 0, .long 107148485722112] σ (some (.int v1), σ1))
    (k2 : ¬ (x2 = 0) → TT X d tb183 (some .int) (56, [some (.ref 38), some (.int x1), some (.int x2), none], [.int v1], σ1) r)
    : TT X d tb183 (some .int) (40, [some (.ref 38), some (.int x1), some (.int x2), none], [], σ) r := mi_T.go 1 (s1 := (41, [some (.ref 38), some (.int x1), some (.int x2), none], [.int x2], σ)) rfl <|
      mi_T.br (P := x2 = 0) (fun _ => rfl)
      (fun h1 => mi_T.go 1 (s1 := (56, [some (.ref 38), some (.int x1), some (.int x2), none], [.int 0], σ)) rfl <|
      (k1 h1))
      (fun h1 => mi_T.go 3 (s1 := (49, [some (.ref 38), some (.int x1), some (.int x2), none], [.long 107148485722112, .int 0, .ref 38], σ)) rfl <|
      mi_T.call (as := [.ref 38, .int 0, .long 107148485722112]) (rest := []) (v := some (.int v1)) rfl rfl rfl rfl rfl (c1 h1) <|
      mi_T.go 1 (s1 := (56, [some (.ref 38), some (.int x1), some (.int x2), none], [.int v1], σ1)) rfl <|
      (k2 h1))

theorem R183_56 {X : Nat × (Nat → Int32)} {d : Nat} {r : mA mG} {σ : mG} {x1 : Int32} {x2 : Int32} {xs0 : Int32} {v1 : Int32} {σ1 : mG} {v2 : Int32} {σ2 : mG}
    (c1 : RR X d 170 [.ref 38, .int 0, .long 126896536813568] σ (some (.int v1), σ1))
    (k1 : 0 ≤ v1 → TT X d tb183 (some .int) (82, [some (.ref 38), some (.int x1), some (.int x2), some (.int xs0)], [], σ1) r)
    (c2 : ¬ (0 ≤ v1) → RR X d 170 [.ref 38, .int xs0, .long 126896536813568] σ1 (some (.int v2), σ2))
    (k2 : ¬ (0 ≤ v1) → 0 ≤ v2 → TT X d tb183 (some .int) (82, [some (.ref 38), some (.int x1), some (.int x2), some (.int xs0)], [], σ2) r)
    (k3 : ¬ (0 ≤ v1) → ¬ (0 ≤ v2) → r = (some (.int (-5)), σ2))
    : TT X d tb183 (some .int) (56, [some (.ref 38), some (.int x1), some (.int x2), none], [.int xs0], σ) r := mi_T.go 4 (s1 := (62, [some (.ref 38), some (.int x1), some (.int x2), some (.int xs0)], [.long 126896536813568, .int 0, .ref 38], σ)) rfl <|
      mi_T.call (as := [.ref 38, .int 0, .long 126896536813568]) (rest := []) (v := some (.int v1)) rfl rfl rfl rfl rfl (c1) <|
      mi_T.br (P := 0 ≤ v1) (fun _ => rfl)
      (fun h1 => (k1 h1))
      (fun h1 => mi_T.go 3 (s1 := (73, [some (.ref 38), some (.int x1), some (.int x2), some (.int xs0)], [.long 126896536813568, .int xs0, .ref 38], σ1)) rfl <|
      mi_T.call (as := [.ref 38, .int xs0, .long 126896536813568]) (rest := []) (v := some (.int v2)) rfl rfl rfl rfl rfl (c2 h1) <|
      mi_T.br (P := 0 ≤ v2) (fun _ => rfl)
      (fun h2 => (k2 h1 h2))
      (fun h2 => mi_T.go 1 (s1 := (81, [some (.ref 38), some (.int x1), some (.int x2), some (.int xs0)], [.int (-5)], σ2)) rfl <|
      mi_T.fin (k3 h1 h2) (fun _ => rfl)))

theorem R183_82 {X : Nat × (Nat → Int32)} {d : Nat} {r : mA mG} {σ : mG} {x1 : Int32} {x2 : Int32} {x3 : Int32} {v1 : Int32} {σ1 : mG} {v2 : Int32} {σ2 : mG} {v3 : Int32} {σ3 : mG} {v4 : Int64} {σ4 : mG} {v5 : Int32} {σ5 : mG} {v6 : Int64} {σ6 : mG} {v7 : Int64} {σ7 : mG} {v8 : Int32} {σ8 : mG} {v9 : Int32} {σ9 : mG}
    (c1 : RR X d 177 [.ref 38, .int 0] σ (some (.int v1), σ1))
    (k1 : v1 = 0 → r = (some (.int (-6)), σ1))
    (c2 : ¬ (v1 = 0) → RR X d 177 [.ref 38, .int x3] σ1 (some (.int v2), σ2))
    (c3 : ¬ (v1 = 0) → ¬ v2 = 0 → RR X d 170 [.ref 38, .int 0, .long 115944571535360] σ2 (some (.int v3), σ3))
    (c4 : ¬ (v1 = 0) → ¬ v2 = 0 → RR X d 165 [.ref 38, .int v3] σ3 (some (.long v4), σ4))
    (c5 : ¬ (v1 = 0) → ¬ v2 = 0 → RR X d 170 [.ref 38, .int x3, .long 115944571535360] σ4 (some (.int v5), σ5))
    (c6 : ¬ (v1 = 0) → ¬ v2 = 0 → RR X d 165 [.ref 38, .int v5] σ5 (some (.long v6), σ6))
    (c7 : ¬ (v1 = 0) → ¬ v2 = 0 → (lg_cmp v4 v6) = 0 → RR X d 166 [.ref 38, .int 0, .long 128020090191872] σ6 (some (.long v7), σ7))
    (c8 : ¬ (v1 = 0) → ¬ v2 = 0 → (lg_cmp v4 v6) = 0 → (lg_cmp v7 6382451) = 0 → x2 = 0 → RR X d 182 [.ref 38] σ7 (some (.int v8), σ8))
    (k2 : ¬ (v1 = 0) → ¬ v2 = 0 → (lg_cmp v4 v6) = 0 → (lg_cmp v7 6382451) = 0 → x2 = 0 → r = (some (.int v8), σ8))
    (c9 : ¬ (v1 = 0) → ¬ v2 = 0 → (lg_cmp v4 v6) = 0 → (lg_cmp v7 6382451) = 0 → ¬ (x2 = 0) → RR X d 181 [.ref 38, .int x3] σ7 (some (.int v9), σ9))
    (k3 : ¬ (v1 = 0) → ¬ v2 = 0 → (lg_cmp v4 v6) = 0 → (lg_cmp v7 6382451) = 0 → ¬ (x2 = 0) → r = (some (.int v9), σ9))
    (k4 : ¬ (v1 = 0) → ¬ v2 = 0 → (lg_cmp v4 v6) = 0 → ¬ ((lg_cmp v7 6382451) = 0) → r = (some (.int (-8)), σ7))
    (k5 : ¬ (v1 = 0) → ¬ v2 = 0 → ¬ ((lg_cmp v4 v6) = 0) → r = (some (.int (-7)), σ6))
    (k6 : ¬ (v1 = 0) → ¬ (¬ v2 = 0) → r = (some (.int (-6)), σ2))
    : TT X d tb183 (some .int) (82, [some (.ref 38), some (.int x1), some (.int x2), some (.int x3)], [], σ) r := mi_T.go 2 (s1 := (84, [some (.ref 38), some (.int x1), some (.int x2), some (.int x3)], [.int 0, .ref 38], σ)) rfl <|
      mi_T.call (as := [.ref 38, .int 0]) (rest := []) (v := some (.int v1)) rfl rfl rfl rfl rfl (c1) <|
      mi_T.br (P := v1 = 0) (fun _ => rfl)
      (fun h1 => mi_T.go 1 (s1 := (100, [some (.ref 38), some (.int x1), some (.int x2), some (.int x3)], [.int (-6)], σ1)) rfl <|
      mi_T.fin (k1 h1) (fun _ => rfl))
      (fun h1 => mi_T.go 2 (s1 := (92, [some (.ref 38), some (.int x1), some (.int x2), some (.int x3)], [.int x3, .ref 38], σ1)) rfl <|
      mi_T.call (as := [.ref 38, .int x3]) (rest := []) (v := some (.int v2)) rfl rfl rfl rfl rfl (c2 h1) <|
      mi_T.br (P := ¬ v2 = 0) (fun _ => rfl)
      (fun h2 => mi_T.go 4 (s1 := (107, [some (.ref 38), some (.int x1), some (.int x2), some (.int x3)], [.long 115944571535360, .int 0, .ref 38, .ref 38], σ2)) rfl <|
      mi_T.call (as := [.ref 38, .int 0, .long 115944571535360]) (rest := [.ref 38]) (v := some (.int v3)) rfl rfl rfl rfl rfl (c3 h1 h2) <|
      mi_T.call (as := [.ref 38, .int v3]) (rest := []) (v := some (.long v4)) rfl rfl rfl rfl rfl (c4 h1 h2) <|
      mi_T.go 4 (s1 := (119, [some (.ref 38), some (.int x1), some (.int x2), some (.int x3)], [.long 115944571535360, .int x3, .ref 38, .ref 38, .long v4], σ4)) rfl <|
      mi_T.call (as := [.ref 38, .int x3, .long 115944571535360]) (rest := [.ref 38, .long v4]) (v := some (.int v5)) rfl rfl rfl rfl rfl (c5 h1 h2) <|
      mi_T.call (as := [.ref 38, .int v5]) (rest := [.long v4]) (v := some (.long v6)) rfl rfl rfl rfl rfl (c6 h1 h2) <|
      mi_T.go 1 (s1 := (126, [some (.ref 38), some (.int x1), some (.int x2), some (.int x3)], [.int (lg_cmp v4 v6)], σ6)) rfl <|
      mi_T.br (P := (lg_cmp v4 v6) = 0) (fun _ => rfl)
      (fun h3 => mi_T.go 3 (s1 := (137, [some (.ref 38), some (.int x1), some (.int x2), some (.int x3)], [.long 128020090191872, .int 0, .ref 38], σ6)) rfl <|
      mi_T.call (as := [.ref 38, .int 0, .long 128020090191872]) (rest := []) (v := some (.long v7)) rfl rfl rfl rfl rfl (c7 h1 h2 h3) <|
      mi_T.go 2 (s1 := (144, [some (.ref 38), some (.int x1), some (.int x2), some (.int x3)], [.int (lg_cmp v7 6382451)], σ7)) rfl <|
      mi_T.br (P := (lg_cmp v7 6382451) = 0) (fun _ => rfl)
      (fun h4 => mi_T.go 1 (s1 := (151, [some (.ref 38), some (.int x1), some (.int x2), some (.int x3)], [.int x2], σ7)) rfl <|
      mi_T.br (P := x2 = 0) (fun _ => rfl)
      (fun h5 => mi_T.go 1 (s1 := (163, [some (.ref 38), some (.int x1), some (.int x2), some (.int x3)], [.ref 38], σ7)) rfl <|
      mi_T.call (as := [.ref 38]) (rest := []) (v := some (.int v8)) rfl rfl rfl rfl rfl (c8 h1 h2 h3 h4 h5) <|
      mi_T.fin (k2 h1 h2 h3 h4 h5) (fun _ => rfl))
      (fun h5 => mi_T.go 2 (s1 := (156, [some (.ref 38), some (.int x1), some (.int x2), some (.int x3)], [.int x3, .ref 38], σ7)) rfl <|
      mi_T.call (as := [.ref 38, .int x3]) (rest := []) (v := some (.int v9)) rfl rfl rfl rfl rfl (c9 h1 h2 h3 h4 h5) <|
      mi_T.go 1 (s1 := (166, [some (.ref 38), some (.int x1), some (.int x2), some (.int x3)], [.int v9], σ9)) rfl <|
      mi_T.fin (k3 h1 h2 h3 h4 h5) (fun _ => rfl)))
      (fun h4 => mi_T.go 1 (s1 := (149, [some (.ref 38), some (.int x1), some (.int x2), some (.int x3)], [.int (-8)], σ7)) rfl <|
      mi_T.fin (k4 h1 h2 h3 h4) (fun _ => rfl)))
      (fun h3 => mi_T.go 1 (s1 := (131, [some (.ref 38), some (.int x1), some (.int x2), some (.int x3)], [.int (-7)], σ6)) rfl <|
      mi_T.fin (k5 h1 h2 h3) (fun _ => rfl)))
      (fun h2 => mi_T.go 1 (s1 := (100, [some (.ref 38), some (.int x1), some (.int x2), some (.int x3)], [.int (-6)], σ2)) rfl <|
      mi_T.fin (k6 h1 h2) (fun _ => rfl)))

-- AssertionGateModel.session(I)I
theorem R184_0 {X : Nat × (Nat → Int32)} {d : Nat} {r : mA mG} {σ : mG} {x1 : Int32}
    (k1 : x1 < 0 → r = (some (.int (-1)), σ))
    (b1 : ¬ (x1 < 0) → x1 < (σ.1 38 15) → mi_in x1 20 = true)
    (b2 : ¬ (x1 < 0) → x1 < (σ.1 38 15) → (σ.1 50 x1.toNatClampNeg) = 0 → mi_in x1 20 = true)
    (k2 : ¬ (x1 < 0) → x1 < (σ.1 38 15) → (σ.1 50 x1.toNatClampNeg) = 0 → r = (some (.int (1 + (σ.1 48 x1.toNatClampNeg))), σ))
    (k3 : ¬ (x1 < 0) → x1 < (σ.1 38 15) → ¬ ((σ.1 50 x1.toNatClampNeg) = 0) → r = (some (.int 0), σ))
    (k4 : ¬ (x1 < 0) → ¬ (x1 < (σ.1 38 15)) → r = (some (.int (-1)), σ))
    : TT X d tb184 (some .int) (0, [some (.ref 38), some (.int x1)], [], σ) r := mi_T.go 1 (s1 := (1, [some (.ref 38), some (.int x1)], [.int x1], σ)) rfl <|
      mi_T.br (P := x1 < 0) (fun _ => rfl)
      (fun h1 => mi_T.go 2 (s1 := (37, [some (.ref 38), some (.int x1)], [.int (-1)], σ)) rfl <|
      mi_T.fin (k1 h1) (fun _ => rfl))
      (fun h1 => mi_T.go 3 (s1 := (9, [some (.ref 38), some (.int x1)], [.int (σ.1 38 15), .int x1], σ)) rfl <|
      mi_T.br (P := x1 < (σ.1 38 15)) (fun _ => rfl)
      (fun h2 => mi_T.go 3 (s1 := (21, [some (.ref 38), some (.int x1)], [.int x1, .ref 50], σ)) rfl <|
      mi_T.lz rfl rfl (b1 h1 h2) <|
      mi_T.br (P := (σ.1 50 x1.toNatClampNeg) = 0) (fun _ => rfl)
      (fun h3 => mi_T.go 4 (s1 := (35, [some (.ref 38), some (.int x1)], [.int x1, .ref 48, .int 1], σ)) rfl <|
      mi_T.li rfl rfl (b2 h1 h2 h3) <|
      mi_T.go 1 (s1 := (37, [some (.ref 38), some (.int x1)], [.int (1 + (σ.1 48 x1.toNatClampNeg))], σ)) rfl <|
      mi_T.fin (k2 h1 h2 h3) (fun _ => rfl))
      (fun h3 => mi_T.go 2 (s1 := (37, [some (.ref 38), some (.int x1)], [.int 0], σ)) rfl <|
      mi_T.fin (k3 h1 h2 h3) (fun _ => rfl)))
      (fun h2 => mi_T.go 2 (s1 := (37, [some (.ref 38), some (.int x1)], [.int (-1)], σ)) rfl <|
      mi_T.fin (k4 h1 h2) (fun _ => rfl)))

-- AssertionGateModel.name(II)I
theorem R185_0 {X : Nat × (Nat → Int32)} {d : Nat} {r : mA mG} {σ : mG} {x1 : Int32} {x2 : Int32}
    (k1 : x1 < 0 → r = (some (.int (-1)), σ))
    (k2 : ¬ (x1 < 0) → (σ.1 38 15) ≤ x1 → r = (some (.int (-1)), σ))
    (b1 : ¬ (x1 < 0) → ¬ ((σ.1 38 15) ≤ x1) → 0 ≤ x2 → mi_in x1 20 = true)
    (k3 : ¬ (x1 < 0) → ¬ ((σ.1 38 15) ≤ x1) → 0 ≤ x2 → TT X d tb185 (some .int) (28, [some (.ref 38), some (.int x1), some (.int x2), some (.int 0), some (.long (σ.2 49 x1.toNatClampNeg)), none], [], σ) r)
    (k4 : ¬ (x1 < 0) → ¬ ((σ.1 38 15) ≤ x1) → ¬ (0 ≤ x2) → r = (some (.int (-1)), σ))
    : TT X d tb185 (some .int) (0, [some (.ref 38), some (.int x1), some (.int x2), none, none, none], [], σ) r := mi_T.go 1 (s1 := (1, [some (.ref 38), some (.int x1), some (.int x2), none, none, none], [.int x1], σ)) rfl <|
      mi_T.br (P := x1 < 0) (fun _ => rfl)
      (fun h1 => mi_T.go 1 (s1 := (17, [some (.ref 38), some (.int x1), some (.int x2), none, none, none], [.int (-1)], σ)) rfl <|
      mi_T.fin (k1 h1) (fun _ => rfl))
      (fun h1 => mi_T.go 3 (s1 := (9, [some (.ref 38), some (.int x1), some (.int x2), none, none, none], [.int (σ.1 38 15), .int x1], σ)) rfl <|
      mi_T.br (P := (σ.1 38 15) ≤ x1) (fun _ => rfl)
      (fun h2 => mi_T.go 1 (s1 := (17, [some (.ref 38), some (.int x1), some (.int x2), none, none, none], [.int (-1)], σ)) rfl <|
      mi_T.fin (k2 h1 h2) (fun _ => rfl))
      (fun h2 => mi_T.go 1 (s1 := (13, [some (.ref 38), some (.int x1), some (.int x2), none, none, none], [.int x2], σ)) rfl <|
      mi_T.br (P := 0 ≤ x2) (fun _ => rfl)
      (fun h3 => mi_T.go 5 (s1 := (25, [some (.ref 38), some (.int x1), some (.int x2), some (.int 0), none, none], [.int x1, .ref 49], σ)) rfl <|
      mi_T.lj rfl rfl (b1 h1 h2 h3) <|
      mi_T.go 1 (s1 := (28, [some (.ref 38), some (.int x1), some (.int x2), some (.int 0), some (.long (σ.2 49 x1.toNatClampNeg)), none], [], σ)) rfl <|
      (k3 h1 h2 h3))
      (fun h3 => mi_T.go 1 (s1 := (17, [some (.ref 38), some (.int x1), some (.int x2), none, none, none], [.int (-1)], σ)) rfl <|
      mi_T.fin (k4 h1 h2 h3) (fun _ => rfl))))

theorem R185_28 {X : Nat × (Nat → Int32)} {d : Nat} {r : mA mG} {σ : mG} {x1 : Int32} {x2 : Int32} {x3 : Int32} {y4 : Int64}
    (b1 : (lg_cmp y4 0) = 0 → x2 < x3 → mi_in x1 20 = true)
    (k1 : (lg_cmp y4 0) = 0 → x2 < x3 → r = (some (.int ((((σ.2 49 x1.toNatClampNeg) >>> ((8 * ((x3 - 1) - x2)).toInt64 &&& 63)) &&& 255).toInt32)), σ))
    (k2 : (lg_cmp y4 0) = 0 → ¬ (x2 < x3) → r = (some (.int (-1)), σ))
    (k3 : ¬ ((lg_cmp y4 0) = 0) → TT X d tb185 (some .int) (28, [some (.ref 38), some (.int x1), some (.int x2), some (.int (x3 + 1)), some (.long (y4 >>> ((8 : Int32).toInt64 &&& 63))), none], [], σ) r)
    : TT X d tb185 (some .int) (28, [some (.ref 38), some (.int x1), some (.int x2), some (.int x3), some (.long y4), none], [], σ) r := mi_T.go 3 (s1 := (32, [some (.ref 38), some (.int x1), some (.int x2), some (.int x3), some (.long y4), none], [.int (lg_cmp y4 0)], σ)) rfl <|
      mi_T.br (P := (lg_cmp y4 0) = 0) (fun _ => rfl)
      (fun h1 => mi_T.go 2 (s1 := (50, [some (.ref 38), some (.int x1), some (.int x2), some (.int x3), some (.long y4), none], [.int x3, .int x2], σ)) rfl <|
      mi_T.br (P := x2 < x3) (fun _ => rfl)
      (fun h2 => mi_T.go 3 (s1 := (62, [some (.ref 38), some (.int x1), some (.int x2), some (.int x3), some (.long y4), none], [.int x1, .ref 49], σ)) rfl <|
      mi_T.lj rfl rfl (b1 h1 h2) <|
      mi_T.go 11 (s1 := (77, [some (.ref 38), some (.int x1), some (.int x2), some (.int x3), some (.long y4), none], [.int ((((σ.2 49 x1.toNatClampNeg) >>> ((8 * ((x3 - 1) - x2)).toInt64 &&& 63)) &&& 255).toInt32)], σ)) rfl <|
      mi_T.fin (k1 h1 h2) (fun _ => rfl))
      (fun h2 => mi_T.go 2 (s1 := (77, [some (.ref 38), some (.int x1), some (.int x2), some (.int x3), some (.long y4), none], [.int (-1)], σ)) rfl <|
      mi_T.fin (k2 h1 h2) (fun _ => rfl)))
      (fun h1 => mi_T.go 6 (s1 := (28, [some (.ref 38), some (.int x1), some (.int x2), some (.int (x3 + 1)), some (.long (y4 >>> ((8 : Int32).toInt64 &&& 63))), none], [], σ)) rfl <|
      (k3 h1))

-- AssertionGateModel.put(J)V
theorem R186_0 {X : Nat × (Nat → Int32)} {d : Nat} {r : mA mG} {σ : mG} {y1 : Int64}
    (k1 : TT X d tb186 none (3, [some (.ref 38), some (.long y1), none, some (.int 56), none], [], σ) r)
    : TT X d tb186 none (0, [some (.ref 38), some (.long y1), none, none, none], [], σ) r := mi_T.go 2 (s1 := (3, [some (.ref 38), some (.long y1), none, some (.int 56), none], [], σ)) rfl <|
      k1

theorem R186_3 {X : Nat × (Nat → Int32)} {d : Nat} {r : mA mG} {σ : mG} {y1 : Int64} {x3 : Int32} {u4 : Option Value}
    (k1 : x3 < 0 → r = (none, σ))
    (k2 : ¬ (x3 < 0) → (((y1 >>> (x3.toInt64 &&& 63)) &&& 255).toInt32) = 0 → TT X d tb186 none (3, [some (.ref 38), some (.long y1), none, some (.int (x3 + (-8))), some (.int (((y1 >>> (x3.toInt64 &&& 63)) &&& 255).toInt32))], [], σ) r)
    (b1 : ¬ (x3 < 0) → ¬ ((((y1 >>> (x3.toInt64 &&& 63)) &&& 255).toInt32) = 0) → mi_in (σ.1 38 4) 400 = true)
    (k3 : ¬ (x3 < 0) → ¬ ((((y1 >>> (x3.toInt64 &&& 63)) &&& 255).toInt32) = 0) → TT X d tb186 none (3, [some (.ref 38), some (.long y1), none, some (.int (x3 + (-8))), some (.int (((y1 >>> (x3.toInt64 &&& 63)) &&& 255).toInt32))], [], (mi_uc (mi_uc σ.1 39 (upd (σ.1 39) ((σ.1 38 4).toNatClampNeg) (((y1 >>> (x3.toInt64 &&& 63)) &&& 255).toInt32))) 38 (upd (σ.1 38) 4 ((σ.1 38 4) + 1)), σ.2)) r)
    : TT X d tb186 none (3, [some (.ref 38), some (.long y1), none, some (.int x3), u4], [], σ) r := mi_T.go 1 (s1 := (4, [some (.ref 38), some (.long y1), none, some (.int x3), u4], [.int x3], σ)) rfl <|
      mi_T.br (P := x3 < 0) (fun _ => rfl)
      (fun h1 => mi_T.fin (k1 h1) (fun _ => rfl))
      (fun h1 => mi_T.go 8 (s1 := (19, [some (.ref 38), some (.long y1), none, some (.int x3), some (.int (((y1 >>> (x3.toInt64 &&& 63)) &&& 255).toInt32))], [.int (((y1 >>> (x3.toInt64 &&& 63)) &&& 255).toInt32)], σ)) rfl <|
      mi_T.br (P := (((y1 >>> (x3.toInt64 &&& 63)) &&& 255).toInt32) = 0) (fun _ => rfl)
      (fun h2 => mi_T.go 2 (s1 := (3, [some (.ref 38), some (.long y1), none, some (.int (x3 + (-8))), some (.int (((y1 >>> (x3.toInt64 &&& 63)) &&& 255).toInt32))], [], σ)) rfl <|
      (k2 h1 h2))
      (fun h2 => mi_T.go 5 (s1 := (32, [some (.ref 38), some (.long y1), none, some (.int x3), some (.int (((y1 >>> (x3.toInt64 &&& 63)) &&& 255).toInt32))], [.int (((y1 >>> (x3.toInt64 &&& 63)) &&& 255).toInt32), .int (σ.1 38 4), .ref 39], σ)) rfl <|
      mi_T.si rfl rfl (b1 h1 h2) <|
      mi_T.go 8 (s1 := (3, [some (.ref 38), some (.long y1), none, some (.int (x3 + (-8))), some (.int (((y1 >>> (x3.toInt64 &&& 63)) &&& 255).toInt32))], [], (mi_uc (mi_uc σ.1 39 (upd (σ.1 39) ((σ.1 38 4).toNatClampNeg) (((y1 >>> (x3.toInt64 &&& 63)) &&& 255).toInt32))) 38 (upd (σ.1 38) 4 ((σ.1 38 4) + 1)), σ.2))) rfl <|
      (k3 h1 h2)))

-- AssertionGateModel.putNumber(I)V
theorem R187_0 {X : Nat × (Nat → Int32)} {d : Nat} {r : mA mG} {σ : mG} {x1 : Int32}
    (k1 : TT X d tb187 none (2, [some (.ref 38), some (.int x1), some (.int 1)], [], σ) r)
    : TT X d tb187 none (0, [some (.ref 38), some (.int x1), none], [], σ) r := mi_T.go 2 (s1 := (2, [some (.ref 38), some (.int x1), some (.int 1)], [], σ)) rfl <|
      k1

theorem R187_2 {X : Nat × (Nat → Int32)} {d : Nat} {r : mA mG} {σ : mG} {x1 : Int32} {x2 : Int32}
    (b1 : ¬ x2 = 0)
    (k1 : (x1 / x2) < 10 → TT X d tb187 none (18, [some (.ref 38), some (.int x1), some (.int x2)], [], σ) r)
    (k2 : ¬ ((x1 / x2) < 10) → TT X d tb187 none (2, [some (.ref 38), some (.int x1), some (.int (x2 * 10))], [], σ) r)
    : TT X d tb187 none (2, [some (.ref 38), some (.int x1), some (.int x2)], [], σ) r := mi_T.go 2 (s1 := (4, [some (.ref 38), some (.int x1), some (.int x2)], [.int x2, .int x1], σ)) rfl <|
      mi_T.idiv rfl (b1) <|
      mi_T.go 1 (s1 := (7, [some (.ref 38), some (.int x1), some (.int x2)], [.int 10, .int (x1 / x2)], σ)) rfl <|
      mi_T.br (P := (x1 / x2) < 10) (fun _ => rfl)
      (fun h1 => (k1 h1))
      (fun h1 => mi_T.go 5 (s1 := (2, [some (.ref 38), some (.int x1), some (.int (x2 * 10))], [], σ)) rfl <|
      (k2 h1))

theorem R187_18 {X : Nat × (Nat → Int32)} {d : Nat} {r : mA mG} {σ : mG} {x1 : Int32} {x2 : Int32}
    (k1 : x2 ≤ 0 → r = (none, σ))
    (b1 : ¬ (x2 ≤ 0) → ¬ x2 = 0)
    (b2 : ¬ (x2 ≤ 0) → mi_in (σ.1 38 4) 400 = true)
    (k2 : ¬ (x2 ≤ 0) → TT X d tb187 none (18, [some (.ref 38), some (.int x1), some (.int (x2 / 10))], [], (mi_uc (mi_uc σ.1 39 (upd (σ.1 39) ((σ.1 38 4).toNatClampNeg) (48 + ((x1 / x2) - (x1 / x2) / 10 * 10)))) 38 (upd (σ.1 38) 4 ((σ.1 38 4) + 1)), σ.2)) r)
    : TT X d tb187 none (18, [some (.ref 38), some (.int x1), some (.int x2)], [], σ) r := mi_T.go 1 (s1 := (19, [some (.ref 38), some (.int x1), some (.int x2)], [.int x2], σ)) rfl <|
      mi_T.br (P := x2 ≤ 0) (fun _ => rfl)
      (fun h1 => mi_T.fin (k1 h1) (fun _ => rfl))
      (fun h1 => mi_T.go 7 (s1 := (34, [some (.ref 38), some (.int x1), some (.int x2)], [.int x2, .int x1, .int 48, .int (σ.1 38 4), .ref 39], σ)) rfl <|
      mi_T.idiv rfl (b1 h1) <|
      mi_T.go 1 (s1 := (37, [some (.ref 38), some (.int x1), some (.int x2)], [.int 10, .int (x1 / x2), .int 48, .int (σ.1 38 4), .ref 39], σ)) rfl <|
      mi_T.irem rfl (by decide) <|
      mi_T.go 1 (s1 := (39, [some (.ref 38), some (.int x1), some (.int x2)], [.int (48 + ((x1 / x2) - (x1 / x2) / 10 * 10)), .int (σ.1 38 4), .ref 39], σ)) rfl <|
      mi_T.si rfl rfl (b2 h1) <|
      mi_T.go 8 (s1 := (53, [some (.ref 38), some (.int x1), some (.int x2)], [.int 10, .int x2], (mi_uc (mi_uc σ.1 39 (upd (σ.1 39) ((σ.1 38 4).toNatClampNeg) (48 + ((x1 / x2) - (x1 / x2) / 10 * 10)))) 38 (upd (σ.1 38) 4 ((σ.1 38 4) + 1)), σ.2))) rfl <|
      mi_T.idiv rfl (by decide) <|
      mi_T.go 2 (s1 := (18, [some (.ref 38), some (.int x1), some (.int (x2 / 10))], [], (mi_uc (mi_uc σ.1 39 (upd (σ.1 39) ((σ.1 38 4).toNatClampNeg) (48 + ((x1 / x2) - (x1 / x2) / 10 * 10)))) 38 (upd (σ.1 38) 4 ((σ.1 38 4) + 1)), σ.2))) rfl <|
      (k2 h1))

-- AssertionGateModel.putSig(II)V
theorem R188_0 {X : Nat × (Nat → Int32)} {d : Nat} {r : mA mG} {σ : mG} {x1 : Int32} {x2 : Int32} {σ1 : mG} {σ2 : mG} {σ3 : mG} {σ4 : mG} {σ5 : mG} {σ6 : mG} {σ7 : mG}
    (c1 : 0 ≤ x2 → RR X d 186 [.ref 38, .long 4355941156244317542] σ (none, σ1))
    (c2 : 0 ≤ x2 → RR X d 186 [.ref 38, .long 15650] σ1 (none, σ2))
    (c3 : 0 ≤ x2 → RR X d 186 [.ref 38, .long x1.toInt64] σ2 (none, σ3))
    (c4 : 0 ≤ x2 → RR X d 187 [.ref 38, .int (σ3.1 38 21)] σ3 (none, σ4))
    (c5 : 0 ≤ x2 → RR X d 186 [.ref 38, .long 146573507874] σ4 (none, σ5))
    (c6 : 0 ≤ x2 → RR X d 187 [.ref 38, .int x2] σ5 (none, σ6))
    (c7 : 0 ≤ x2 → RR X d 186 [.ref 38, .long 2240318] σ6 (none, σ7))
    (k1 : 0 ≤ x2 → r = (none, σ7))
    (k2 : ¬ (0 ≤ x2) → r = (none, σ))
    : TT X d tb188 none (0, [some (.ref 38), some (.int x1), some (.int x2)], [], σ) r := mi_T.go 1 (s1 := (1, [some (.ref 38), some (.int x1), some (.int x2)], [.int x2], σ)) rfl <|
      mi_T.br (P := 0 ≤ x2) (fun _ => rfl)
      (fun h1 => mi_T.go 2 (s1 := (9, [some (.ref 38), some (.int x1), some (.int x2)], [.long 4355941156244317542, .ref 38], σ)) rfl <|
      mi_T.call (as := [.ref 38, .long 4355941156244317542]) (rest := []) (v := none) rfl rfl rfl rfl rfl (c1 h1) <|
      mi_T.go 2 (s1 := (16, [some (.ref 38), some (.int x1), some (.int x2)], [.long 15650, .ref 38], σ1)) rfl <|
      mi_T.call (as := [.ref 38, .long 15650]) (rest := []) (v := none) rfl rfl rfl rfl rfl (c2 h1) <|
      mi_T.go 3 (s1 := (22, [some (.ref 38), some (.int x1), some (.int x2)], [.long x1.toInt64, .ref 38], σ2)) rfl <|
      mi_T.call (as := [.ref 38, .long x1.toInt64]) (rest := []) (v := none) rfl rfl rfl rfl rfl (c3 h1) <|
      mi_T.go 3 (s1 := (30, [some (.ref 38), some (.int x1), some (.int x2)], [.int (σ3.1 38 21), .ref 38], σ3)) rfl <|
      mi_T.call (as := [.ref 38, .int (σ3.1 38 21)]) (rest := []) (v := none) rfl rfl rfl rfl rfl (c4 h1) <|
      mi_T.go 2 (s1 := (37, [some (.ref 38), some (.int x1), some (.int x2)], [.long 146573507874, .ref 38], σ4)) rfl <|
      mi_T.call (as := [.ref 38, .long 146573507874]) (rest := []) (v := none) rfl rfl rfl rfl rfl (c5 h1) <|
      mi_T.go 2 (s1 := (42, [some (.ref 38), some (.int x1), some (.int x2)], [.int x2, .ref 38], σ5)) rfl <|
      mi_T.call (as := [.ref 38, .int x2]) (rest := []) (v := none) rfl rfl rfl rfl rfl (c6 h1) <|
      mi_T.go 2 (s1 := (49, [some (.ref 38), some (.int x1), some (.int x2)], [.long 2240318, .ref 38], σ6)) rfl <|
      mi_T.call (as := [.ref 38, .long 2240318]) (rest := []) (v := none) rfl rfl rfl rfl rfl (c7 h1) <|
      mi_T.fin (k1 h1) (fun _ => rfl))
      (fun h1 => mi_T.fin (k2 h1) (fun _ => rfl))

-- AssertionGateModel.putIssuer(I)V
theorem R189_0 {X : Nat × (Nat → Int32)} {d : Nat} {r : mA mG} {σ : mG} {x1 : Int32} {σ1 : mG} {σ2 : mG} {σ3 : mG}
    (c1 : RR X d 186 [.ref 38, .long 66423606165104] σ (none, σ1))
    (c2 : RR X d 187 [.ref 38, .int x1] σ1 (none, σ2))
    (c3 : RR X d 186 [.ref 38, .long 66174330303294] σ2 (none, σ3))
    (k1 : r = (none, σ3))
    : TT X d tb189 none (0, [some (.ref 38), some (.int x1)], [], σ) r := mi_T.go 2 (s1 := (4, [some (.ref 38), some (.int x1)], [.long 66423606165104, .ref 38], σ)) rfl <|
      mi_T.call (as := [.ref 38, .long 66423606165104]) (rest := []) (v := none) rfl rfl rfl rfl rfl (c1) <|
      mi_T.go 2 (s1 := (9, [some (.ref 38), some (.int x1)], [.int x1, .ref 38], σ1)) rfl <|
      mi_T.call (as := [.ref 38, .int x1]) (rest := []) (v := none) rfl rfl rfl rfl rfl (c2) <|
      mi_T.go 2 (s1 := (16, [some (.ref 38), some (.int x1)], [.long 66174330303294, .ref 38], σ2)) rfl <|
      mi_T.call (as := [.ref 38, .long 66174330303294]) (rest := []) (v := none) rfl rfl rfl rfl rfl (c3) <|
      mi_T.fin (k1) (fun _ => rfl)

-- AssertionGateModel.putUser(I)V
theorem R190_0 {X : Nat × (Nat → Int32)} {d : Nat} {r : mA mG} {σ : mG} {x1 : Int32} {σ1 : mG} {σ2 : mG} {σ3 : mG}
    (c1 : RR X d 186 [.ref 38, .long 17009863328874101] σ (none, σ1))
    (c2 : RR X d 187 [.ref 38, .int x1] σ1 (none, σ2))
    (c3 : RR X d 186 [.ref 38, .long 16940649730106686] σ2 (none, σ3))
    (k1 : r = (none, σ3))
    : TT X d tb190 none (0, [some (.ref 38), some (.int x1)], [], σ) r := mi_T.go 2 (s1 := (4, [some (.ref 38), some (.int x1)], [.long 17009863328874101, .ref 38], σ)) rfl <|
      mi_T.call (as := [.ref 38, .long 17009863328874101]) (rest := []) (v := none) rfl rfl rfl rfl rfl (c1) <|
      mi_T.go 2 (s1 := (9, [some (.ref 38), some (.int x1)], [.int x1, .ref 38], σ1)) rfl <|
      mi_T.call (as := [.ref 38, .int x1]) (rest := []) (v := none) rfl rfl rfl rfl rfl (c2) <|
      mi_T.go 2 (s1 := (16, [some (.ref 38), some (.int x1)], [.long 16940649730106686, .ref 38], σ2)) rfl <|
      mi_T.call (as := [.ref 38, .long 16940649730106686]) (rest := []) (v := none) rfl rfl rfl rfl rfl (c3) <|
      mi_T.fin (k1) (fun _ => rfl)

-- AssertionGateModel.putSubject(III)V
theorem R191_0 {X : Nat × (Nat → Int32)} {d : Nat} {r : mA mG} {σ : mG} {x1 : Int32} {x2 : Int32} {x3 : Int32} {σ1 : mG} {σ2 : mG} {σ3 : mG} {σ4 : mG} {σ5 : mG} {σ6 : mG} {σ7 : mG} {σ8 : mG} {σ9 : mG} {σ10 : mG}
    (c1 : RR X d 186 [.ref 38, .long 66466588289598] σ (none, σ1))
    (c2 : RR X d 190 [.ref 38, .int x2] σ1 (none, σ2))
    (c3 : RR X d 186 [.ref 38, .long 4351444184920516978] σ2 (none, σ3))
    (c4 : RR X d 186 [.ref 38, .long 7617826] σ3 (none, σ4))
    (c5 : RR X d 187 [.ref 38, .int x1] σ4 (none, σ5))
    (c6 : RR X d 186 [.ref 38, .long 9605807895297314] σ5 (none, σ6))
    (c7 : RR X d 187 [.ref 38, .int x3] σ6 (none, σ7))
    (c8 : RR X d 186 [.ref 38, .long 2459091167954674273] σ7 (none, σ8))
    (c9 : RR X d 186 [.ref 38, .long 7166109018379530099] σ8 (none, σ9))
    (c10 : RR X d 186 [.ref 38, .long 1969383998] σ9 (none, σ10))
    (k1 : r = (none, σ10))
    : TT X d tb191 none (0, [some (.ref 38), some (.int x1), some (.int x2), some (.int x3)], [], σ) r := mi_T.go 2 (s1 := (4, [some (.ref 38), some (.int x1), some (.int x2), some (.int x3)], [.long 66466588289598, .ref 38], σ)) rfl <|
      mi_T.call (as := [.ref 38, .long 66466588289598]) (rest := []) (v := none) rfl rfl rfl rfl rfl (c1) <|
      mi_T.go 2 (s1 := (9, [some (.ref 38), some (.int x1), some (.int x2), some (.int x3)], [.int x2, .ref 38], σ1)) rfl <|
      mi_T.call (as := [.ref 38, .int x2]) (rest := []) (v := none) rfl rfl rfl rfl rfl (c2) <|
      mi_T.go 2 (s1 := (16, [some (.ref 38), some (.int x1), some (.int x2), some (.int x3)], [.long 4351444184920516978, .ref 38], σ2)) rfl <|
      mi_T.call (as := [.ref 38, .long 4351444184920516978]) (rest := []) (v := none) rfl rfl rfl rfl rfl (c3) <|
      mi_T.go 2 (s1 := (23, [some (.ref 38), some (.int x1), some (.int x2), some (.int x3)], [.long 7617826, .ref 38], σ3)) rfl <|
      mi_T.call (as := [.ref 38, .long 7617826]) (rest := []) (v := none) rfl rfl rfl rfl rfl (c4) <|
      mi_T.go 2 (s1 := (28, [some (.ref 38), some (.int x1), some (.int x2), some (.int x3)], [.int x1, .ref 38], σ4)) rfl <|
      mi_T.call (as := [.ref 38, .int x1]) (rest := []) (v := none) rfl rfl rfl rfl rfl (c5) <|
      mi_T.go 2 (s1 := (35, [some (.ref 38), some (.int x1), some (.int x2), some (.int x3)], [.long 9605807895297314, .ref 38], σ5)) rfl <|
      mi_T.call (as := [.ref 38, .long 9605807895297314]) (rest := []) (v := none) rfl rfl rfl rfl rfl (c6) <|
      mi_T.go 2 (s1 := (40, [some (.ref 38), some (.int x1), some (.int x2), some (.int x3)], [.int x3, .ref 38], σ6)) rfl <|
      mi_T.call (as := [.ref 38, .int x3]) (rest := []) (v := none) rfl rfl rfl rfl rfl (c7) <|
      mi_T.go 2 (s1 := (47, [some (.ref 38), some (.int x1), some (.int x2), some (.int x3)], [.long 2459091167954674273, .ref 38], σ7)) rfl <|
      mi_T.call (as := [.ref 38, .long 2459091167954674273]) (rest := []) (v := none) rfl rfl rfl rfl rfl (c8) <|
      mi_T.go 2 (s1 := (54, [some (.ref 38), some (.int x1), some (.int x2), some (.int x3)], [.long 7166109018379530099, .ref 38], σ8)) rfl <|
      mi_T.call (as := [.ref 38, .long 7166109018379530099]) (rest := []) (v := none) rfl rfl rfl rfl rfl (c9) <|
      mi_T.go 2 (s1 := (61, [some (.ref 38), some (.int x1), some (.int x2), some (.int x3)], [.long 1969383998, .ref 38], σ9)) rfl <|
      mi_T.call (as := [.ref 38, .long 1969383998]) (rest := []) (v := none) rfl rfl rfl rfl rfl (c10) <|
      mi_T.fin (k1) (fun _ => rfl)

-- AssertionGateModel.fill(IIIIII)V
theorem R192_0 {X : Nat × (Nat → Int32)} {d : Nat} {r : mA mG} {σ : mG} {x1 : Int32} {x2 : Int32} {x3 : Int32} {x4 : Int32} {x5 : Int32} {x6 : Int32} {σ1 : mG} {σ2 : mG} {σ3 : mG} {σ4 : mG} {σ5 : mG} {σ6 : mG} {σ7 : mG} {σ8 : mG} {σ9 : mG} {σ10 : mG} {σ11 : mG} {σ12 : mG} {σ13 : mG} {σ14 : mG} {σ15 : mG} {σ16 : mG} {σ17 : mG} {σ18 : mG} {σ19 : mG} {σ20 : mG} {σ21 : mG} {σ22 : mG} {σ23 : mG} {σ24 : mG} {σ25 : mG} {σ26 : mG} {σ27 : mG}
    (c1 : RR X d 186 [.ref 38, .long 4355655336097507684] (mi_uc σ.1 38 (upd (σ.1 38) 4 0), σ.2) (none, σ1))
    (c2 : RR X d 186 [.ref 38, .long 4006514] σ1 (none, σ2))
    (c3 : RR X d 187 [.ref 38, .int (σ2.1 38 21)] σ2 (none, σ3))
    (c4 : RR X d 186 [.ref 38, .long 9605786472037666] σ3 (none, σ4))
    (c5 : RR X d 187 [.ref 38, .int x2] σ4 (none, σ5))
    (c6 : RR X d 186 [.ref 38, .long 2459093417660146019] σ5 (none, σ6))
    (c7 : RR X d 186 [.ref 38, .long 7545406] σ6 (none, σ7))
    (c8 : RR X d 189 [.ref 38, .int x1] σ7 (none, σ8))
    (c9 : RR X d 186 [.ref 38, .long 4355953226508300139] σ8 (none, σ9))
    (c10 : RR X d 186 [.ref 38, .long 4336811909869485628] σ9 (none, σ10))
    (c11 : RR X d 186 [.ref 38, .long 7022083160828109885] σ10 (none, σ11))
    (c12 : RR X d 186 [.ref 38, .long 8801] σ11 (none, σ12))
    (c13 : RR X d 187 [.ref 38, .int (σ12.1 38 21)] σ12 (none, σ13))
    (c14 : RR X d 186 [.ref 38, .long 8766] σ13 (none, σ14))
    (c15 : RR X d 189 [.ref 38, .int x1] σ14 (none, σ15))
    (c16 : RR X d 191 [.ref 38, .int x2, .int x3, .int ((σ15.1 38 2) + x4)] σ15 (none, σ16))
    (c17 : RR X d 186 [.ref 38, .long 4351444184886960501] σ16 (none, σ17))
    (c18 : RR X d 186 [.ref 38, .long 7222967256570011758] σ17 (none, σ18))
    (c19 : RR X d 186 [.ref 38, .long 6438178] σ18 (none, σ19))
    (c20 : RR X d 187 [.ref 38, .int (σ19.1 38 2)] σ19 (none, σ20))
    (c21 : RR X d 186 [.ref 38, .long 9605807895297314] σ20 (none, σ21))
    (c22 : RR X d 187 [.ref 38, .int ((σ21.1 38 2) + x4)] σ21 (none, σ22))
    (c23 : RR X d 186 [.ref 38, .long 2240318] σ22 (none, σ23))
    (c24 : RR X d 188 [.ref 38, .int 97, .int x5] σ23 (none, σ24))
    (c25 : RR X d 186 [.ref 38, .long 16940594197917246] σ24 (none, σ25))
    (c26 : RR X d 188 [.ref 38, .int 114, .int x6] σ25 (none, σ26))
    (c27 : RR X d 186 [.ref 38, .long 16940666977480766] σ26 (none, σ27))
    (k1 : r = (none, σ27))
    : TT X d tb192 none (0, [some (.ref 38), some (.int x1), some (.int x2), some (.int x3), some (.int x4), some (.int x5), some (.int x6)], [], σ) r := mi_T.go 5 (s1 := (9, [some (.ref 38), some (.int x1), some (.int x2), some (.int x3), some (.int x4), some (.int x5), some (.int x6)], [.long 4355655336097507684, .ref 38], (mi_uc σ.1 38 (upd (σ.1 38) 4 0), σ.2))) rfl <|
      mi_T.call (as := [.ref 38, .long 4355655336097507684]) (rest := []) (v := none) rfl rfl rfl rfl rfl (c1) <|
      mi_T.go 2 (s1 := (16, [some (.ref 38), some (.int x1), some (.int x2), some (.int x3), some (.int x4), some (.int x5), some (.int x6)], [.long 4006514, .ref 38], σ1)) rfl <|
      mi_T.call (as := [.ref 38, .long 4006514]) (rest := []) (v := none) rfl rfl rfl rfl rfl (c2) <|
      mi_T.go 3 (s1 := (24, [some (.ref 38), some (.int x1), some (.int x2), some (.int x3), some (.int x4), some (.int x5), some (.int x6)], [.int (σ2.1 38 21), .ref 38], σ2)) rfl <|
      mi_T.call (as := [.ref 38, .int (σ2.1 38 21)]) (rest := []) (v := none) rfl rfl rfl rfl rfl (c3) <|
      mi_T.go 2 (s1 := (31, [some (.ref 38), some (.int x1), some (.int x2), some (.int x3), some (.int x4), some (.int x5), some (.int x6)], [.long 9605786472037666, .ref 38], σ3)) rfl <|
      mi_T.call (as := [.ref 38, .long 9605786472037666]) (rest := []) (v := none) rfl rfl rfl rfl rfl (c4) <|
      mi_T.go 2 (s1 := (36, [some (.ref 38), some (.int x1), some (.int x2), some (.int x3), some (.int x4), some (.int x5), some (.int x6)], [.int x2, .ref 38], σ4)) rfl <|
      mi_T.call (as := [.ref 38, .int x2]) (rest := []) (v := none) rfl rfl rfl rfl rfl (c5) <|
      mi_T.go 2 (s1 := (43, [some (.ref 38), some (.int x1), some (.int x2), some (.int x3), some (.int x4), some (.int x5), some (.int x6)], [.long 2459093417660146019, .ref 38], σ5)) rfl <|
      mi_T.call (as := [.ref 38, .long 2459093417660146019]) (rest := []) (v := none) rfl rfl rfl rfl rfl (c6) <|
      mi_T.go 2 (s1 := (50, [some (.ref 38), some (.int x1), some (.int x2), some (.int x3), some (.int x4), some (.int x5), some (.int x6)], [.long 7545406, .ref 38], σ6)) rfl <|
      mi_T.call (as := [.ref 38, .long 7545406]) (rest := []) (v := none) rfl rfl rfl rfl rfl (c7) <|
      mi_T.go 2 (s1 := (55, [some (.ref 38), some (.int x1), some (.int x2), some (.int x3), some (.int x4), some (.int x5), some (.int x6)], [.int x1, .ref 38], σ7)) rfl <|
      mi_T.call (as := [.ref 38, .int x1]) (rest := []) (v := none) rfl rfl rfl rfl rfl (c8) <|
      mi_T.go 2 (s1 := (62, [some (.ref 38), some (.int x1), some (.int x2), some (.int x3), some (.int x4), some (.int x5), some (.int x6)], [.long 4355953226508300139, .ref 38], σ8)) rfl <|
      mi_T.call (as := [.ref 38, .long 4355953226508300139]) (rest := []) (v := none) rfl rfl rfl rfl rfl (c9) <|
      mi_T.go 2 (s1 := (69, [some (.ref 38), some (.int x1), some (.int x2), some (.int x3), some (.int x4), some (.int x5), some (.int x6)], [.long 4336811909869485628, .ref 38], σ9)) rfl <|
      mi_T.call (as := [.ref 38, .long 4336811909869485628]) (rest := []) (v := none) rfl rfl rfl rfl rfl (c10) <|
      mi_T.go 2 (s1 := (76, [some (.ref 38), some (.int x1), some (.int x2), some (.int x3), some (.int x4), some (.int x5), some (.int x6)], [.long 7022083160828109885, .ref 38], σ10)) rfl <|
      mi_T.call (as := [.ref 38, .long 7022083160828109885]) (rest := []) (v := none) rfl rfl rfl rfl rfl (c11) <|
      mi_T.go 2 (s1 := (83, [some (.ref 38), some (.int x1), some (.int x2), some (.int x3), some (.int x4), some (.int x5), some (.int x6)], [.long 8801, .ref 38], σ11)) rfl <|
      mi_T.call (as := [.ref 38, .long 8801]) (rest := []) (v := none) rfl rfl rfl rfl rfl (c12) <|
      mi_T.go 3 (s1 := (91, [some (.ref 38), some (.int x1), some (.int x2), some (.int x3), some (.int x4), some (.int x5), some (.int x6)], [.int (σ12.1 38 21), .ref 38], σ12)) rfl <|
      mi_T.call (as := [.ref 38, .int (σ12.1 38 21)]) (rest := []) (v := none) rfl rfl rfl rfl rfl (c13) <|
      mi_T.go 2 (s1 := (98, [some (.ref 38), some (.int x1), some (.int x2), some (.int x3), some (.int x4), some (.int x5), some (.int x6)], [.long 8766, .ref 38], σ13)) rfl <|
      mi_T.call (as := [.ref 38, .long 8766]) (rest := []) (v := none) rfl rfl rfl rfl rfl (c14) <|
      mi_T.go 2 (s1 := (103, [some (.ref 38), some (.int x1), some (.int x2), some (.int x3), some (.int x4), some (.int x5), some (.int x6)], [.int x1, .ref 38], σ14)) rfl <|
      mi_T.call (as := [.ref 38, .int x1]) (rest := []) (v := none) rfl rfl rfl rfl rfl (c15) <|
      mi_T.go 7 (s1 := (116, [some (.ref 38), some (.int x1), some (.int x2), some (.int x3), some (.int x4), some (.int x5), some (.int x6)], [.int ((σ15.1 38 2) + x4), .int x3, .int x2, .ref 38], σ15)) rfl <|
      mi_T.call (as := [.ref 38, .int x2, .int x3, .int ((σ15.1 38 2) + x4)]) (rest := []) (v := none) rfl rfl rfl rfl rfl (c16) <|
      mi_T.go 2 (s1 := (123, [some (.ref 38), some (.int x1), some (.int x2), some (.int x3), some (.int x4), some (.int x5), some (.int x6)], [.long 4351444184886960501, .ref 38], σ16)) rfl <|
      mi_T.call (as := [.ref 38, .long 4351444184886960501]) (rest := []) (v := none) rfl rfl rfl rfl rfl (c17) <|
      mi_T.go 2 (s1 := (130, [some (.ref 38), some (.int x1), some (.int x2), some (.int x3), some (.int x4), some (.int x5), some (.int x6)], [.long 7222967256570011758, .ref 38], σ17)) rfl <|
      mi_T.call (as := [.ref 38, .long 7222967256570011758]) (rest := []) (v := none) rfl rfl rfl rfl rfl (c18) <|
      mi_T.go 2 (s1 := (137, [some (.ref 38), some (.int x1), some (.int x2), some (.int x3), some (.int x4), some (.int x5), some (.int x6)], [.long 6438178, .ref 38], σ18)) rfl <|
      mi_T.call (as := [.ref 38, .long 6438178]) (rest := []) (v := none) rfl rfl rfl rfl rfl (c19) <|
      mi_T.go 3 (s1 := (145, [some (.ref 38), some (.int x1), some (.int x2), some (.int x3), some (.int x4), some (.int x5), some (.int x6)], [.int (σ19.1 38 2), .ref 38], σ19)) rfl <|
      mi_T.call (as := [.ref 38, .int (σ19.1 38 2)]) (rest := []) (v := none) rfl rfl rfl rfl rfl (c20) <|
      mi_T.go 2 (s1 := (152, [some (.ref 38), some (.int x1), some (.int x2), some (.int x3), some (.int x4), some (.int x5), some (.int x6)], [.long 9605807895297314, .ref 38], σ20)) rfl <|
      mi_T.call (as := [.ref 38, .long 9605807895297314]) (rest := []) (v := none) rfl rfl rfl rfl rfl (c21) <|
      mi_T.go 5 (s1 := (163, [some (.ref 38), some (.int x1), some (.int x2), some (.int x3), some (.int x4), some (.int x5), some (.int x6)], [.int ((σ21.1 38 2) + x4), .ref 38], σ21)) rfl <|
      mi_T.call (as := [.ref 38, .int ((σ21.1 38 2) + x4)]) (rest := []) (v := none) rfl rfl rfl rfl rfl (c22) <|
      mi_T.go 2 (s1 := (170, [some (.ref 38), some (.int x1), some (.int x2), some (.int x3), some (.int x4), some (.int x5), some (.int x6)], [.long 2240318, .ref 38], σ22)) rfl <|
      mi_T.call (as := [.ref 38, .long 2240318]) (rest := []) (v := none) rfl rfl rfl rfl rfl (c23) <|
      mi_T.go 3 (s1 := (178, [some (.ref 38), some (.int x1), some (.int x2), some (.int x3), some (.int x4), some (.int x5), some (.int x6)], [.int x5, .int 97, .ref 38], σ23)) rfl <|
      mi_T.call (as := [.ref 38, .int 97, .int x5]) (rest := []) (v := none) rfl rfl rfl rfl rfl (c24) <|
      mi_T.go 2 (s1 := (185, [some (.ref 38), some (.int x1), some (.int x2), some (.int x3), some (.int x4), some (.int x5), some (.int x6)], [.long 16940594197917246, .ref 38], σ24)) rfl <|
      mi_T.call (as := [.ref 38, .long 16940594197917246]) (rest := []) (v := none) rfl rfl rfl rfl rfl (c25) <|
      mi_T.go 3 (s1 := (193, [some (.ref 38), some (.int x1), some (.int x2), some (.int x3), some (.int x4), some (.int x5), some (.int x6)], [.int x6, .int 114, .ref 38], σ25)) rfl <|
      mi_T.call (as := [.ref 38, .int 114, .int x6]) (rest := []) (v := none) rfl rfl rfl rfl rfl (c26) <|
      mi_T.go 2 (s1 := (200, [some (.ref 38), some (.int x1), some (.int x2), some (.int x3), some (.int x4), some (.int x5), some (.int x6)], [.long 16940666977480766, .ref 38], σ26)) rfl <|
      mi_T.call (as := [.ref 38, .long 16940666977480766]) (rest := []) (v := none) rfl rfl rfl rfl rfl (c27) <|
      mi_T.fin (k1) (fun _ => rfl)

-- AssertionGateModel.signature(II)I
theorem R193_0 {X : Nat × (Nat → Int32)} {d : Nat} {r : mA mG} {σ : mG} {x1 : Int32} {x2 : Int32} {v1 : Int32} {σ1 : mG} {v2 : Int32} {σ2 : mG} {v3 : Int32} {σ3 : mG} {v4 : Int32} {σ4 : mG} {v5 : Int32} {σ5 : mG}
    (c1 : RR X d 153 [.ref 38] σ (some (.int v1), σ1))
    (c2 : v1 ≤ x2 → RR X d 161 [.ref 38, .int 0] σ1 (some (.int v2), σ2))
    (b1 : v1 ≤ x2 → mi_in x1 4 = true)
    (b2 : v1 ≤ x2 → mi_in x1 4 = true)
    (c3 : v1 ≤ x2 → RR X d 133 [.int v2, .int (σ2.1 44 x1.toNatClampNeg), .int (σ2.1 43 x1.toNatClampNeg)] σ2 (some (.int v3), σ3))
    (k1 : v1 ≤ x2 → r = (some (.int v3), σ3))
    (c4 : ¬ (v1 ≤ x2) → RR X d 161 [.ref 38, .int x2] σ1 (some (.int v4), σ4))
    (b3 : ¬ (v1 ≤ x2) → mi_in x1 4 = true)
    (b4 : ¬ (v1 ≤ x2) → mi_in x1 4 = true)
    (c5 : ¬ (v1 ≤ x2) → RR X d 133 [.int v4, .int (σ4.1 44 x1.toNatClampNeg), .int (σ4.1 43 x1.toNatClampNeg)] σ4 (some (.int v5), σ5))
    (k2 : ¬ (v1 ≤ x2) → r = (some (.int v5), σ5))
    : TT X d tb193 (some .int) (0, [some (.ref 38), some (.int x1), some (.int x2), none], [], σ) r := mi_T.go 1 (s1 := (1, [some (.ref 38), some (.int x1), some (.int x2), none], [.ref 38], σ)) rfl <|
      mi_T.call (as := [.ref 38]) (rest := []) (v := some (.int v1)) rfl rfl rfl rfl rfl (c1) <|
      mi_T.go 4 (s1 := (8, [some (.ref 38), some (.int x1), some (.int x2), some (.int v1)], [.int v1, .int x2, .ref 38], σ1)) rfl <|
      mi_T.br (P := v1 ≤ x2) (fun _ => rfl)
      (fun h1 => mi_T.go 1 (s1 := (16, [some (.ref 38), some (.int x1), some (.int x2), some (.int v1)], [.int 0, .ref 38], σ1)) rfl <|
      mi_T.call (as := [.ref 38, .int 0]) (rest := []) (v := some (.int v2)) rfl rfl rfl rfl rfl (c2 h1) <|
      mi_T.go 3 (s1 := (24, [some (.ref 38), some (.int x1), some (.int x2), some (.int v1)], [.int x1, .ref 44, .int v2], σ2)) rfl <|
      mi_T.li rfl rfl (b1 h1) <|
      mi_T.go 3 (s1 := (30, [some (.ref 38), some (.int x1), some (.int x2), some (.int v1)], [.int x1, .ref 43, .int (σ2.1 44 x1.toNatClampNeg), .int v2], σ2)) rfl <|
      mi_T.li rfl rfl (b2 h1) <|
      mi_T.call (as := [.int v2, .int (σ2.1 44 x1.toNatClampNeg), .int (σ2.1 43 x1.toNatClampNeg)]) (rest := []) (v := some (.int v3)) rfl rfl rfl rfl rfl (c3 h1) <|
      mi_T.fin (k1 h1) (fun _ => rfl))
      (fun h1 => mi_T.go 2 (s1 := (16, [some (.ref 38), some (.int x1), some (.int x2), some (.int v1)], [.int x2, .ref 38], σ1)) rfl <|
      mi_T.call (as := [.ref 38, .int x2]) (rest := []) (v := some (.int v4)) rfl rfl rfl rfl rfl (c4 h1) <|
      mi_T.go 3 (s1 := (24, [some (.ref 38), some (.int x1), some (.int x2), some (.int v1)], [.int x1, .ref 44, .int v4], σ4)) rfl <|
      mi_T.li rfl rfl (b3 h1) <|
      mi_T.go 3 (s1 := (30, [some (.ref 38), some (.int x1), some (.int x2), some (.int v1)], [.int x1, .ref 43, .int (σ4.1 44 x1.toNatClampNeg), .int v4], σ4)) rfl <|
      mi_T.li rfl rfl (b4 h1) <|
      mi_T.call (as := [.int v4, .int (σ4.1 44 x1.toNatClampNeg), .int (σ4.1 43 x1.toNatClampNeg)]) (rest := []) (v := some (.int v5)) rfl rfl rfl rfl rfl (c5 h1) <|
      mi_T.fin (k2 h1) (fun _ => rfl))

-- AssertionGateModel.issue(IIIII)Z
theorem R194_0 {X : Nat × (Nat → Int32)} {d : Nat} {r : mA mG} {σ : mG} {x1 : Int32} {x2 : Int32} {x3 : Int32} {x4 : Int32} {x5 : Int32} {v1 : Int32} {σ1 : mG} {σ2 : mG} {v2 : Int32} {σ3 : mG}
    (c1 : RR X d 125 [.int x1] σ (some (.int v1), σ1))
    (k1 : v1 = 0 → r = (some (.int 0), σ1))
    (b1 : ¬ (v1 = 0) → mi_in x1 4 = true)
    (k2 : ¬ (v1 = 0) → (σ1.1 43 x1.toNatClampNeg) = 0 → r = (some (.int 0), σ1))
    (k3 : ¬ (v1 = 0) → ¬ ((σ1.1 43 x1.toNatClampNeg) = 0) → x2 < 0 → r = (some (.int 0), σ1))
    (k4 : ¬ (v1 = 0) → ¬ ((σ1.1 43 x1.toNatClampNeg) = 0) → ¬ (x2 < 0) → 99 < x2 → r = (some (.int 0), σ1))
    (k5 : ¬ (v1 = 0) → ¬ ((σ1.1 43 x1.toNatClampNeg) = 0) → ¬ (x2 < 0) → ¬ (99 < x2) → x3 < 0 → r = (some (.int 0), σ1))
    (k6 : ¬ (v1 = 0) → ¬ ((σ1.1 43 x1.toNatClampNeg) = 0) → ¬ (x2 < 0) → ¬ (99 < x2) → ¬ (x3 < 0) → 99 < x3 → r = (some (.int 0), σ1))
    (k7 : ¬ (v1 = 0) → ¬ ((σ1.1 43 x1.toNatClampNeg) = 0) → ¬ (x2 < 0) → ¬ (99 < x2) → ¬ (x3 < 0) → ¬ (99 < x3) → x4 < 0 → r = (some (.int 0), σ1))
    (k8 : ¬ (v1 = 0) → ¬ ((σ1.1 43 x1.toNatClampNeg) = 0) → ¬ (x2 < 0) → ¬ (99 < x2) → ¬ (x3 < 0) → ¬ (99 < x3) → ¬ (x4 < 0) → 999 < x4 → r = (some (.int 0), σ1))
    (k9 : ¬ (v1 = 0) → ¬ ((σ1.1 43 x1.toNatClampNeg) = 0) → ¬ (x2 < 0) → ¬ (99 < x2) → ¬ (x3 < 0) → ¬ (99 < x3) → ¬ (x4 < 0) → ¬ (999 < x4) → x5 < 0 → r = (some (.int 0), σ1))
    (c2 : ¬ (v1 = 0) → ¬ ((σ1.1 43 x1.toNatClampNeg) = 0) → ¬ (x2 < 0) → ¬ (99 < x2) → ¬ (x3 < 0) → ¬ (99 < x3) → ¬ (x4 < 0) → ¬ (999 < x4) → ¬ (x5 < 0) → x5 ≤ 3 → RR X d 192 [.ref 38, .int x1, .int x2, .int x3, .int x4, .int (-1), .int (-1)] σ1 (none, σ2))
    (k10 : ¬ (v1 = 0) → ¬ ((σ1.1 43 x1.toNatClampNeg) = 0) → ¬ (x2 < 0) → ¬ (99 < x2) → ¬ (x3 < 0) → ¬ (99 < x3) → ¬ (x4 < 0) → ¬ (999 < x4) → ¬ (x5 < 0) → x5 ≤ 3 → ¬ (x5 &&& 1) = 1 → TT X d tb194 (some .boolean) (91, [some (.ref 38), some (.int x1), some (.int x2), some (.int x3), some (.int x4), some (.int x5), none, none], [.int (-1)], σ2) r)
    (c3 : ¬ (v1 = 0) → ¬ ((σ1.1 43 x1.toNatClampNeg) = 0) → ¬ (x2 < 0) → ¬ (99 < x2) → ¬ (x3 < 0) → ¬ (99 < x3) → ¬ (x4 < 0) → ¬ (999 < x4) → ¬ (x5 < 0) → x5 ≤ 3 → ¬ (¬ (x5 &&& 1) = 1) → RR X d 193 [.ref 38, .int x1, .int 3] σ2 (some (.int v2), σ3))
    (k11 : ¬ (v1 = 0) → ¬ ((σ1.1 43 x1.toNatClampNeg) = 0) → ¬ (x2 < 0) → ¬ (99 < x2) → ¬ (x3 < 0) → ¬ (99 < x3) → ¬ (x4 < 0) → ¬ (999 < x4) → ¬ (x5 < 0) → x5 ≤ 3 → ¬ (¬ (x5 &&& 1) = 1) → TT X d tb194 (some .boolean) (91, [some (.ref 38), some (.int x1), some (.int x2), some (.int x3), some (.int x4), some (.int x5), none, none], [.int v2], σ3) r)
    (k12 : ¬ (v1 = 0) → ¬ ((σ1.1 43 x1.toNatClampNeg) = 0) → ¬ (x2 < 0) → ¬ (99 < x2) → ¬ (x3 < 0) → ¬ (99 < x3) → ¬ (x4 < 0) → ¬ (999 < x4) → ¬ (x5 < 0) → ¬ (x5 ≤ 3) → r = (some (.int 0), σ1))
    : TT X d tb194 (some .boolean) (0, [some (.ref 38), some (.int x1), some (.int x2), some (.int x3), some (.int x4), some (.int x5), none, none], [], σ) r := mi_T.go 1 (s1 := (1, [some (.ref 38), some (.int x1), some (.int x2), some (.int x3), some (.int x4), some (.int x5), none, none], [.int x1], σ)) rfl <|
      mi_T.call (as := [.int x1]) (rest := []) (v := some (.int v1)) rfl rfl rfl rfl rfl (c1) <|
      mi_T.br (P := v1 = 0) (fun _ => rfl)
      (fun h1 => mi_T.go 1 (s1 := (61, [some (.ref 38), some (.int x1), some (.int x2), some (.int x3), some (.int x4), some (.int x5), none, none], [.int 0], σ1)) rfl <|
      mi_T.fin (k1 h1) (fun _ => rfl))
      (fun h1 => mi_T.go 3 (s1 := (12, [some (.ref 38), some (.int x1), some (.int x2), some (.int x3), some (.int x4), some (.int x5), none, none], [.int x1, .ref 43], σ1)) rfl <|
      mi_T.li rfl rfl (b1 h1) <|
      mi_T.br (P := (σ1.1 43 x1.toNatClampNeg) = 0) (fun _ => rfl)
      (fun h2 => mi_T.go 1 (s1 := (61, [some (.ref 38), some (.int x1), some (.int x2), some (.int x3), some (.int x4), some (.int x5), none, none], [.int 0], σ1)) rfl <|
      mi_T.fin (k2 h1 h2) (fun _ => rfl))
      (fun h2 => mi_T.go 1 (s1 := (17, [some (.ref 38), some (.int x1), some (.int x2), some (.int x3), some (.int x4), some (.int x5), none, none], [.int x2], σ1)) rfl <|
      mi_T.br (P := x2 < 0) (fun _ => rfl)
      (fun h3 => mi_T.go 1 (s1 := (61, [some (.ref 38), some (.int x1), some (.int x2), some (.int x3), some (.int x4), some (.int x5), none, none], [.int 0], σ1)) rfl <|
      mi_T.fin (k3 h1 h2 h3) (fun _ => rfl))
      (fun h3 => mi_T.go 2 (s1 := (23, [some (.ref 38), some (.int x1), some (.int x2), some (.int x3), some (.int x4), some (.int x5), none, none], [.int 99, .int x2], σ1)) rfl <|
      mi_T.br (P := 99 < x2) (fun _ => rfl)
      (fun h4 => mi_T.go 1 (s1 := (61, [some (.ref 38), some (.int x1), some (.int x2), some (.int x3), some (.int x4), some (.int x5), none, none], [.int 0], σ1)) rfl <|
      mi_T.fin (k4 h1 h2 h3 h4) (fun _ => rfl))
      (fun h4 => mi_T.go 1 (s1 := (27, [some (.ref 38), some (.int x1), some (.int x2), some (.int x3), some (.int x4), some (.int x5), none, none], [.int x3], σ1)) rfl <|
      mi_T.br (P := x3 < 0) (fun _ => rfl)
      (fun h5 => mi_T.go 1 (s1 := (61, [some (.ref 38), some (.int x1), some (.int x2), some (.int x3), some (.int x4), some (.int x5), none, none], [.int 0], σ1)) rfl <|
      mi_T.fin (k5 h1 h2 h3 h4 h5) (fun _ => rfl))
      (fun h5 => mi_T.go 2 (s1 := (33, [some (.ref 38), some (.int x1), some (.int x2), some (.int x3), some (.int x4), some (.int x5), none, none], [.int 99, .int x3], σ1)) rfl <|
      mi_T.br (P := 99 < x3) (fun _ => rfl)
      (fun h6 => mi_T.go 1 (s1 := (61, [some (.ref 38), some (.int x1), some (.int x2), some (.int x3), some (.int x4), some (.int x5), none, none], [.int 0], σ1)) rfl <|
      mi_T.fin (k6 h1 h2 h3 h4 h5 h6) (fun _ => rfl))
      (fun h6 => mi_T.go 1 (s1 := (38, [some (.ref 38), some (.int x1), some (.int x2), some (.int x3), some (.int x4), some (.int x5), none, none], [.int x4], σ1)) rfl <|
      mi_T.br (P := x4 < 0) (fun _ => rfl)
      (fun h7 => mi_T.go 1 (s1 := (61, [some (.ref 38), some (.int x1), some (.int x2), some (.int x3), some (.int x4), some (.int x5), none, none], [.int 0], σ1)) rfl <|
      mi_T.fin (k7 h1 h2 h3 h4 h5 h6 h7) (fun _ => rfl))
      (fun h7 => mi_T.go 2 (s1 := (46, [some (.ref 38), some (.int x1), some (.int x2), some (.int x3), some (.int x4), some (.int x5), none, none], [.int 999, .int x4], σ1)) rfl <|
      mi_T.br (P := 999 < x4) (fun _ => rfl)
      (fun h8 => mi_T.go 1 (s1 := (61, [some (.ref 38), some (.int x1), some (.int x2), some (.int x3), some (.int x4), some (.int x5), none, none], [.int 0], σ1)) rfl <|
      mi_T.fin (k8 h1 h2 h3 h4 h5 h6 h7 h8) (fun _ => rfl))
      (fun h8 => mi_T.go 1 (s1 := (51, [some (.ref 38), some (.int x1), some (.int x2), some (.int x3), some (.int x4), some (.int x5), none, none], [.int x5], σ1)) rfl <|
      mi_T.br (P := x5 < 0) (fun _ => rfl)
      (fun h9 => mi_T.go 1 (s1 := (61, [some (.ref 38), some (.int x1), some (.int x2), some (.int x3), some (.int x4), some (.int x5), none, none], [.int 0], σ1)) rfl <|
      mi_T.fin (k9 h1 h2 h3 h4 h5 h6 h7 h8 h9) (fun _ => rfl))
      (fun h9 => mi_T.go 2 (s1 := (57, [some (.ref 38), some (.int x1), some (.int x2), some (.int x3), some (.int x4), some (.int x5), none, none], [.int 3, .int x5], σ1)) rfl <|
      mi_T.br (P := x5 ≤ 3) (fun _ => rfl)
      (fun h10 => mi_T.go 7 (s1 := (70, [some (.ref 38), some (.int x1), some (.int x2), some (.int x3), some (.int x4), some (.int x5), none, none], [.int (-1), .int (-1), .int x4, .int x3, .int x2, .int x1, .ref 38], σ1)) rfl <|
      mi_T.call (as := [.ref 38, .int x1, .int x2, .int x3, .int x4, .int (-1), .int (-1)]) (rest := []) (v := none) rfl rfl rfl rfl rfl (c2 h1 h2 h3 h4 h5 h6 h7 h8 h9 h10) <|
      mi_T.go 4 (s1 := (78, [some (.ref 38), some (.int x1), some (.int x2), some (.int x3), some (.int x4), some (.int x5), none, none], [.int 1, .int (x5 &&& 1)], σ2)) rfl <|
      mi_T.br (P := ¬ (x5 &&& 1) = 1) (fun _ => rfl)
      (fun h11 => mi_T.go 1 (s1 := (91, [some (.ref 38), some (.int x1), some (.int x2), some (.int x3), some (.int x4), some (.int x5), none, none], [.int (-1)], σ2)) rfl <|
      (k10 h1 h2 h3 h4 h5 h6 h7 h8 h9 h10 h11))
      (fun h11 => mi_T.go 3 (s1 := (84, [some (.ref 38), some (.int x1), some (.int x2), some (.int x3), some (.int x4), some (.int x5), none, none], [.int 3, .int x1, .ref 38], σ2)) rfl <|
      mi_T.call (as := [.ref 38, .int x1, .int 3]) (rest := []) (v := some (.int v2)) rfl rfl rfl rfl rfl (c3 h1 h2 h3 h4 h5 h6 h7 h8 h9 h10 h11) <|
      mi_T.go 1 (s1 := (91, [some (.ref 38), some (.int x1), some (.int x2), some (.int x3), some (.int x4), some (.int x5), none, none], [.int v2], σ3)) rfl <|
      (k11 h1 h2 h3 h4 h5 h6 h7 h8 h9 h10 h11)))
      (fun h10 => mi_T.go 1 (s1 := (61, [some (.ref 38), some (.int x1), some (.int x2), some (.int x3), some (.int x4), some (.int x5), none, none], [.int 0], σ1)) rfl <|
      mi_T.fin (k12 h1 h2 h3 h4 h5 h6 h7 h8 h9 h10) (fun _ => rfl)))))))))))

theorem R194_91 {X : Nat × (Nat → Int32)} {d : Nat} {r : mA mG} {σ : mG} {x1 : Int32} {x2 : Int32} {x3 : Int32} {x4 : Int32} {x5 : Int32} {xs0 : Int32} {σ1 : mG} {v1 : Int32} {σ2 : mG}
    (c1 : RR X d 192 [.ref 38, .int x1, .int x2, .int x3, .int x4, .int xs0, .int (-1)] σ (none, σ1))
    (k1 : x5 < 2 → TT X d tb194 (some .boolean) (121, [some (.ref 38), some (.int x1), some (.int x2), some (.int x3), some (.int x4), some (.int x5), some (.int xs0), none], [.int (-1)], σ1) r)
    (c2 : ¬ (x5 < 2) → RR X d 193 [.ref 38, .int x1, .int 0] σ1 (some (.int v1), σ2))
    (k2 : ¬ (x5 < 2) → TT X d tb194 (some .boolean) (121, [some (.ref 38), some (.int x1), some (.int x2), some (.int x3), some (.int x4), some (.int x5), some (.int xs0), none], [.int v1], σ2) r)
    : TT X d tb194 (some .boolean) (91, [some (.ref 38), some (.int x1), some (.int x2), some (.int x3), some (.int x4), some (.int x5), none, none], [.int xs0], σ) r := mi_T.go 8 (s1 := (102, [some (.ref 38), some (.int x1), some (.int x2), some (.int x3), some (.int x4), some (.int x5), some (.int xs0), none], [.int (-1), .int xs0, .int x4, .int x3, .int x2, .int x1, .ref 38], σ)) rfl <|
      mi_T.call (as := [.ref 38, .int x1, .int x2, .int x3, .int x4, .int xs0, .int (-1)]) (rest := []) (v := none) rfl rfl rfl rfl rfl (c1) <|
      mi_T.go 2 (s1 := (108, [some (.ref 38), some (.int x1), some (.int x2), some (.int x3), some (.int x4), some (.int x5), some (.int xs0), none], [.int 2, .int x5], σ1)) rfl <|
      mi_T.br (P := x5 < 2) (fun _ => rfl)
      (fun h1 => mi_T.go 1 (s1 := (121, [some (.ref 38), some (.int x1), some (.int x2), some (.int x3), some (.int x4), some (.int x5), some (.int xs0), none], [.int (-1)], σ1)) rfl <|
      (k1 h1))
      (fun h1 => mi_T.go 3 (s1 := (114, [some (.ref 38), some (.int x1), some (.int x2), some (.int x3), some (.int x4), some (.int x5), some (.int xs0), none], [.int 0, .int x1, .ref 38], σ1)) rfl <|
      mi_T.call (as := [.ref 38, .int x1, .int 0]) (rest := []) (v := some (.int v1)) rfl rfl rfl rfl rfl (c2 h1) <|
      mi_T.go 1 (s1 := (121, [some (.ref 38), some (.int x1), some (.int x2), some (.int x3), some (.int x4), some (.int x5), some (.int xs0), none], [.int v1], σ2)) rfl <|
      (k2 h1))

theorem R194_121 {X : Nat × (Nat → Int32)} {d : Nat} {r : mA mG} {σ : mG} {x1 : Int32} {x2 : Int32} {x3 : Int32} {x4 : Int32} {x5 : Int32} {x6 : Int32} {xs0 : Int32} {σ1 : mG}
    (c1 : RR X d 192 [.ref 38, .int x1, .int x2, .int x3, .int x4, .int x6, .int xs0] σ (none, σ1))
    (k1 : r = (some (.int 1), (mi_uc σ1.1 38 (upd (σ1.1 38) 21 ((σ1.1 38 21) + 1)), σ1.2)))
    : TT X d tb194 (some .boolean) (121, [some (.ref 38), some (.int x1), some (.int x2), some (.int x3), some (.int x4), some (.int x5), some (.int x6), none], [.int xs0], σ) r := mi_T.go 8 (s1 := (133, [some (.ref 38), some (.int x1), some (.int x2), some (.int x3), some (.int x4), some (.int x5), some (.int x6), some (.int xs0)], [.int xs0, .int x6, .int x4, .int x3, .int x2, .int x1, .ref 38], σ)) rfl <|
      mi_T.call (as := [.ref 38, .int x1, .int x2, .int x3, .int x4, .int x6, .int xs0]) (rest := []) (v := none) rfl rfl rfl rfl rfl (c1) <|
      mi_T.go 7 (s1 := (147, [some (.ref 38), some (.int x1), some (.int x2), some (.int x3), some (.int x4), some (.int x5), some (.int x6), some (.int xs0)], [.int 1], (mi_uc σ1.1 38 (upd (σ1.1 38) 21 ((σ1.1 38 21) + 1)), σ1.2))) rfl <|
      mi_T.fin (k1) (fun _ => rfl)

-- AssertionGateModel.fillOut(III)V
theorem R195_0 {X : Nat × (Nat → Int32)} {d : Nat} {r : mA mG} {σ : mG} {x1 : Int32} {x2 : Int32} {x3 : Int32} {σ1 : mG} {σ2 : mG} {σ3 : mG} {σ4 : mG} {σ5 : mG} {σ6 : mG} {σ7 : mG} {σ8 : mG} {σ9 : mG}
    (c1 : RR X d 186 [.ref 38, .long 4354828506310992957] (mi_uc σ.1 38 (upd (σ.1 38) 4 0), σ.2) (none, σ1))
    (c2 : RR X d 186 [.ref 38, .long 8815] σ1 (none, σ2))
    (c3 : RR X d 187 [.ref 38, .int (σ2.1 38 21)] σ2 (none, σ3))
    (c4 : RR X d 186 [.ref 38, .long 2459093417660146019] σ3 (none, σ4))
    (c5 : RR X d 186 [.ref 38, .long 7545406] σ4 (none, σ5))
    (c6 : RR X d 189 [.ref 38, .int x1] σ5 (none, σ6))
    (c7 : RR X d 190 [.ref 38, .int x2] σ6 (none, σ7))
    (c8 : RR X d 188 [.ref 38, .int 111, .int x3] σ7 (none, σ8))
    (c9 : RR X d 186 [.ref 38, .long 66174431097918] σ8 (none, σ9))
    (k1 : r = (none, σ9))
    : TT X d tb195 none (0, [some (.ref 38), some (.int x1), some (.int x2), some (.int x3)], [], σ) r := mi_T.go 5 (s1 := (9, [some (.ref 38), some (.int x1), some (.int x2), some (.int x3)], [.long 4354828506310992957, .ref 38], (mi_uc σ.1 38 (upd (σ.1 38) 4 0), σ.2))) rfl <|
      mi_T.call (as := [.ref 38, .long 4354828506310992957]) (rest := []) (v := none) rfl rfl rfl rfl rfl (c1) <|
      mi_T.go 2 (s1 := (16, [some (.ref 38), some (.int x1), some (.int x2), some (.int x3)], [.long 8815, .ref 38], σ1)) rfl <|
      mi_T.call (as := [.ref 38, .long 8815]) (rest := []) (v := none) rfl rfl rfl rfl rfl (c2) <|
      mi_T.go 3 (s1 := (24, [some (.ref 38), some (.int x1), some (.int x2), some (.int x3)], [.int (σ2.1 38 21), .ref 38], σ2)) rfl <|
      mi_T.call (as := [.ref 38, .int (σ2.1 38 21)]) (rest := []) (v := none) rfl rfl rfl rfl rfl (c3) <|
      mi_T.go 2 (s1 := (31, [some (.ref 38), some (.int x1), some (.int x2), some (.int x3)], [.long 2459093417660146019, .ref 38], σ3)) rfl <|
      mi_T.call (as := [.ref 38, .long 2459093417660146019]) (rest := []) (v := none) rfl rfl rfl rfl rfl (c4) <|
      mi_T.go 2 (s1 := (38, [some (.ref 38), some (.int x1), some (.int x2), some (.int x3)], [.long 7545406, .ref 38], σ4)) rfl <|
      mi_T.call (as := [.ref 38, .long 7545406]) (rest := []) (v := none) rfl rfl rfl rfl rfl (c5) <|
      mi_T.go 2 (s1 := (43, [some (.ref 38), some (.int x1), some (.int x2), some (.int x3)], [.int x1, .ref 38], σ5)) rfl <|
      mi_T.call (as := [.ref 38, .int x1]) (rest := []) (v := none) rfl rfl rfl rfl rfl (c6) <|
      mi_T.go 2 (s1 := (48, [some (.ref 38), some (.int x1), some (.int x2), some (.int x3)], [.int x2, .ref 38], σ6)) rfl <|
      mi_T.call (as := [.ref 38, .int x2]) (rest := []) (v := none) rfl rfl rfl rfl rfl (c7) <|
      mi_T.go 3 (s1 := (55, [some (.ref 38), some (.int x1), some (.int x2), some (.int x3)], [.int x3, .int 111, .ref 38], σ7)) rfl <|
      mi_T.call (as := [.ref 38, .int 111, .int x3]) (rest := []) (v := none) rfl rfl rfl rfl rfl (c8) <|
      mi_T.go 2 (s1 := (62, [some (.ref 38), some (.int x1), some (.int x2), some (.int x3)], [.long 66174431097918, .ref 38], σ8)) rfl <|
      mi_T.call (as := [.ref 38, .long 66174431097918]) (rest := []) (v := none) rfl rfl rfl rfl rfl (c9) <|
      mi_T.fin (k1) (fun _ => rfl)

-- AssertionGateModel.leave(II)Z
theorem R196_0 {X : Nat × (Nat → Int32)} {d : Nat} {r : mA mG} {σ : mG} {x1 : Int32} {x2 : Int32} {v1 : Int32} {σ1 : mG} {σ2 : mG} {v2 : Int32} {σ3 : mG} {σ4 : mG}
    (c1 : RR X d 125 [.int x1] σ (some (.int v1), σ1))
    (k1 : v1 = 0 → r = (some (.int 0), σ1))
    (b1 : ¬ (v1 = 0) → mi_in x1 4 = true)
    (k2 : ¬ (v1 = 0) → (σ1.1 43 x1.toNatClampNeg) = 0 → r = (some (.int 0), σ1))
    (k3 : ¬ (v1 = 0) → ¬ ((σ1.1 43 x1.toNatClampNeg) = 0) → x2 < 0 → r = (some (.int 0), σ1))
    (c2 : ¬ (v1 = 0) → ¬ ((σ1.1 43 x1.toNatClampNeg) = 0) → ¬ (x2 < 0) → x2 ≤ 99 → RR X d 195 [.ref 38, .int x1, .int x2, .int (-1)] σ1 (none, σ2))
    (c3 : ¬ (v1 = 0) → ¬ ((σ1.1 43 x1.toNatClampNeg) = 0) → ¬ (x2 < 0) → x2 ≤ 99 → RR X d 193 [.ref 38, .int x1, .int 0] σ2 (some (.int v2), σ3))
    (c4 : ¬ (v1 = 0) → ¬ ((σ1.1 43 x1.toNatClampNeg) = 0) → ¬ (x2 < 0) → x2 ≤ 99 → RR X d 195 [.ref 38, .int x1, .int x2, .int v2] σ3 (none, σ4))
    (k4 : ¬ (v1 = 0) → ¬ ((σ1.1 43 x1.toNatClampNeg) = 0) → ¬ (x2 < 0) → x2 ≤ 99 → r = (some (.int 1), (mi_uc σ4.1 38 (upd (σ4.1 38) 21 ((σ4.1 38 21) + 1)), σ4.2)))
    (k5 : ¬ (v1 = 0) → ¬ ((σ1.1 43 x1.toNatClampNeg) = 0) → ¬ (x2 < 0) → ¬ (x2 ≤ 99) → r = (some (.int 0), σ1))
    : TT X d tb196 (some .boolean) (0, [some (.ref 38), some (.int x1), some (.int x2), none], [], σ) r := mi_T.go 1 (s1 := (1, [some (.ref 38), some (.int x1), some (.int x2), none], [.int x1], σ)) rfl <|
      mi_T.call (as := [.int x1]) (rest := []) (v := some (.int v1)) rfl rfl rfl rfl rfl (c1) <|
      mi_T.br (P := v1 = 0) (fun _ => rfl)
      (fun h1 => mi_T.go 1 (s1 := (27, [some (.ref 38), some (.int x1), some (.int x2), none], [.int 0], σ1)) rfl <|
      mi_T.fin (k1 h1) (fun _ => rfl))
      (fun h1 => mi_T.go 3 (s1 := (12, [some (.ref 38), some (.int x1), some (.int x2), none], [.int x1, .ref 43], σ1)) rfl <|
      mi_T.li rfl rfl (b1 h1) <|
      mi_T.br (P := (σ1.1 43 x1.toNatClampNeg) = 0) (fun _ => rfl)
      (fun h2 => mi_T.go 1 (s1 := (27, [some (.ref 38), some (.int x1), some (.int x2), none], [.int 0], σ1)) rfl <|
      mi_T.fin (k2 h1 h2) (fun _ => rfl))
      (fun h2 => mi_T.go 1 (s1 := (17, [some (.ref 38), some (.int x1), some (.int x2), none], [.int x2], σ1)) rfl <|
      mi_T.br (P := x2 < 0) (fun _ => rfl)
      (fun h3 => mi_T.go 1 (s1 := (27, [some (.ref 38), some (.int x1), some (.int x2), none], [.int 0], σ1)) rfl <|
      mi_T.fin (k3 h1 h2 h3) (fun _ => rfl))
      (fun h3 => mi_T.go 2 (s1 := (23, [some (.ref 38), some (.int x1), some (.int x2), none], [.int 99, .int x2], σ1)) rfl <|
      mi_T.br (P := x2 ≤ 99) (fun _ => rfl)
      (fun h4 => mi_T.go 4 (s1 := (32, [some (.ref 38), some (.int x1), some (.int x2), none], [.int (-1), .int x2, .int x1, .ref 38], σ1)) rfl <|
      mi_T.call (as := [.ref 38, .int x1, .int x2, .int (-1)]) (rest := []) (v := none) rfl rfl rfl rfl rfl (c2 h1 h2 h3 h4) <|
      mi_T.go 3 (s1 := (38, [some (.ref 38), some (.int x1), some (.int x2), none], [.int 0, .int x1, .ref 38], σ2)) rfl <|
      mi_T.call (as := [.ref 38, .int x1, .int 0]) (rest := []) (v := some (.int v2)) rfl rfl rfl rfl rfl (c3 h1 h2 h3 h4) <|
      mi_T.go 5 (s1 := (46, [some (.ref 38), some (.int x1), some (.int x2), some (.int v2)], [.int v2, .int x2, .int x1, .ref 38], σ3)) rfl <|
      mi_T.call (as := [.ref 38, .int x1, .int x2, .int v2]) (rest := []) (v := none) rfl rfl rfl rfl rfl (c4 h1 h2 h3 h4) <|
      mi_T.go 7 (s1 := (60, [some (.ref 38), some (.int x1), some (.int x2), some (.int v2)], [.int 1], (mi_uc σ4.1 38 (upd (σ4.1 38) 21 ((σ4.1 38 21) + 1)), σ4.2))) rfl <|
      mi_T.fin (k4 h1 h2 h3 h4) (fun _ => rfl))
      (fun h4 => mi_T.go 1 (s1 := (27, [some (.ref 38), some (.int x1), some (.int x2), none], [.int 0], σ1)) rfl <|
      mi_T.fin (k5 h1 h2 h3 h4) (fun _ => rfl)))))

