/-! Rules of AssertionGateModel, printed by a program: what each stretch of its code does. -/
-- AssertionGateModel.tag(II)I
set_option maxRecDepth 100000 in
theorem R149_0 {X : Nat × (Nat → Int32)} {d : Nat} {r : mA mG} {σ : mG} {x1 : Int32} {x2 : Int32} {v1 : Int32} {σ1 : mG}
    (k1 : 20 ≤ (σ.1 38 22) → TT X d tb149 (some .int) (20, [some (.ref 38), some (.int x1), some (.int x2), none, none, none], [.int (-1)], σ) r)
    (c1 : ¬ (20 ≤ (σ.1 38 22)) → RR X d 145 [.ref 38, .int (x1 + 1)] σ (some (.int v1), σ1))
    (k2 : ¬ (20 ≤ (σ.1 38 22)) → TT X d tb149 (some .int) (20, [some (.ref 38), some (.int x1), some (.int x2), none, none, none], [.int v1], σ1) r)
    : TT X d tb149 (some .int) (0, [some (.ref 38), some (.int x1), some (.int x2), none, none, none], [], σ) r := mi_T.go 3 (s1 := (6, [some (.ref 38), some (.int x1), some (.int x2), none, none, none], [.int 20, .int (σ.1 38 22)], σ)) rfl <|
      mi_T.br (P := 20 ≤ (σ.1 38 22)) (fun _ => rfl)
      (fun h1 => mi_T.go 1 (s1 := (20, [some (.ref 38), some (.int x1), some (.int x2), none, none, none], [.int (-1)], σ)) rfl <|
      (k1 h1))
      (fun h1 => mi_T.go 4 (s1 := (13, [some (.ref 38), some (.int x1), some (.int x2), none, none, none], [.int (x1 + 1), .ref 38], σ)) rfl <|
      mi_T.call (as := [.ref 38, .int (x1 + 1)]) (rest := []) (v := some (.int v1)) rfl rfl rfl rfl rfl (c1 h1) <|
      mi_T.go 1 (s1 := (20, [some (.ref 38), some (.int x1), some (.int x2), none, none, none], [.int v1], σ1)) rfl <|
      (k2 h1))

set_option maxRecDepth 100000 in
theorem R149_20 {X : Nat × (Nat → Int32)} {d : Nat} {r : mA mG} {σ : mG} {x1 : Int32} {x2 : Int32} {xs0 : Int32} {v1 : Int32} {σ1 : mG}
    (b1 : 0 ≤ xs0 → mi_in (σ.1 38 22) 20 = true)
    (b2 : 0 ≤ xs0 → mi_in (σ.1 38 22) 20 = true)
    (b3 : 0 ≤ xs0 → mi_in (σ.1 38 22) 20 = true)
    (b4 : 0 ≤ xs0 → mi_in (σ.1 38 22) 20 = true)
    (c1 : 0 ≤ xs0 → RR X d 146 [.ref 38, .int xs0] (mi_uc (mi_uc (mi_uc (mi_uc σ.1 38 (upd (σ.1 38) 22 ((σ.1 38 22) + 1))) 53 (upd (σ.1 53) ((σ.1 38 22).toNatClampNeg) x2)) 54 (upd (σ.1 54) ((σ.1 38 22).toNatClampNeg) x1)) 59 (upd (σ.1 59) ((σ.1 38 22).toNatClampNeg) 0), mi_uc σ.2 52 (vp_updL (σ.2 52) ((σ.1 38 22).toNatClampNeg) (σ.2 38 34))) (some (.int v1), σ1))
    (k1 : 0 ≤ xs0 → TT X d tb149 (some .int) (85, [some (.ref 38), some (.int x1), some (.int x2), some (.int xs0), some (.int (σ.1 38 22)), some (.int v1)], [], σ1) r)
    (k2 : ¬ (0 ≤ xs0) → r = (some (.int (-1)), σ))
    : TT X d tb149 (some .int) (20, [some (.ref 38), some (.int x1), some (.int x2), none, none, none], [.int xs0], σ) r := mi_T.go 2 (s1 := (22, [some (.ref 38), some (.int x1), some (.int x2), some (.int xs0), none, none], [.int xs0], σ)) rfl <|
      mi_T.br (P := 0 ≤ xs0) (fun _ => rfl)
      (fun h1 => mi_T.go 14 (s1 := (53, [some (.ref 38), some (.int x1), some (.int x2), some (.int xs0), some (.int (σ.1 38 22)), none], [.long (σ.2 38 34), .int (σ.1 38 22), .ref 52], (mi_uc σ.1 38 (upd (σ.1 38) 22 ((σ.1 38 22) + 1)), σ.2))) rfl <|
      mi_T.sj rfl rfl (b1 h1) <|
      mi_T.go 4 (s1 := (61, [some (.ref 38), some (.int x1), some (.int x2), some (.int xs0), some (.int (σ.1 38 22)), none], [.int x2, .int (σ.1 38 22), .ref 53], (mi_uc σ.1 38 (upd (σ.1 38) 22 ((σ.1 38 22) + 1)), mi_uc σ.2 52 (vp_updL (σ.2 52) ((σ.1 38 22).toNatClampNeg) (σ.2 38 34))))) rfl <|
      mi_T.si rfl rfl (b2 h1) <|
      mi_T.go 4 (s1 := (69, [some (.ref 38), some (.int x1), some (.int x2), some (.int xs0), some (.int (σ.1 38 22)), none], [.int x1, .int (σ.1 38 22), .ref 54], (mi_uc (mi_uc σ.1 38 (upd (σ.1 38) 22 ((σ.1 38 22) + 1))) 53 (upd (σ.1 53) ((σ.1 38 22).toNatClampNeg) x2), mi_uc σ.2 52 (vp_updL (σ.2 52) ((σ.1 38 22).toNatClampNeg) (σ.2 38 34))))) rfl <|
      mi_T.si rfl rfl (b3 h1) <|
      mi_T.go 4 (s1 := (77, [some (.ref 38), some (.int x1), some (.int x2), some (.int xs0), some (.int (σ.1 38 22)), none], [.int 0, .int (σ.1 38 22), .ref 59], (mi_uc (mi_uc (mi_uc σ.1 38 (upd (σ.1 38) 22 ((σ.1 38 22) + 1))) 53 (upd (σ.1 53) ((σ.1 38 22).toNatClampNeg) x2)) 54 (upd (σ.1 54) ((σ.1 38 22).toNatClampNeg) x1), mi_uc σ.2 52 (vp_updL (σ.2 52) ((σ.1 38 22).toNatClampNeg) (σ.2 38 34))))) rfl <|
      mi_T.si rfl rfl (b4 h1) <|
      mi_T.go 2 (s1 := (80, [some (.ref 38), some (.int x1), some (.int x2), some (.int xs0), some (.int (σ.1 38 22)), none], [.int xs0, .ref 38], (mi_uc (mi_uc (mi_uc (mi_uc σ.1 38 (upd (σ.1 38) 22 ((σ.1 38 22) + 1))) 53 (upd (σ.1 53) ((σ.1 38 22).toNatClampNeg) x2)) 54 (upd (σ.1 54) ((σ.1 38 22).toNatClampNeg) x1)) 59 (upd (σ.1 59) ((σ.1 38 22).toNatClampNeg) 0), mi_uc σ.2 52 (vp_updL (σ.2 52) ((σ.1 38 22).toNatClampNeg) (σ.2 38 34))))) rfl <|
      mi_T.call (as := [.ref 38, .int xs0]) (rest := []) (v := some (.int v1)) rfl rfl rfl rfl rfl (c1 h1) <|
      mi_T.go 1 (s1 := (85, [some (.ref 38), some (.int x1), some (.int x2), some (.int xs0), some (.int (σ.1 38 22)), some (.int v1)], [], σ1)) rfl <|
      (k1 h1))
      (fun h1 => mi_T.go 1 (s1 := (26, [some (.ref 38), some (.int x1), some (.int x2), some (.int xs0), none, none], [.int (-1)], σ)) rfl <|
      mi_T.fin (k2 h1) (fun _ => rfl))

set_option maxRecDepth 100000 in
theorem R149_85 {X : Nat × (Nat → Int32)} {d : Nat} {r : mA mG} {σ : mG} {x1 : Int32} {x2 : Int32} {x3 : Int32} {x4 : Int32} {x5 : Int32} {v1 : Int32} {σ1 : mG} {v2 : Int32} {σ2 : mG} {v3 : Int32} {σ3 : mG} {v4 : Int32} {σ4 : mG} {v5 : Int32} {σ5 : mG}
    (c1 : RR X d 141 [.ref 38, .int x5] σ (some (.int v1), σ1))
    (c2 : RR X d 144 [.int v1] σ1 (some (.int v2), σ2))
    (c3 : v2 = 0 → RR X d 141 [.ref 38, .int x5] σ2 (some (.int v3), σ3))
    (k1 : v2 = 0 → ¬ v3 = 47 → TT X d tb149 (some .int) (145, [some (.ref 38), some (.int x1), some (.int x2), some (.int x5), some (.int x4), some (.int x5)], [.int 0, .int x4, .ref 58], σ3) r)
    (k2 : v2 = 0 → ¬ (¬ v3 = 47) → TT X d tb149 (some .int) (145, [some (.ref 38), some (.int x1), some (.int x2), some (.int x5), some (.int x4), some (.int x5)], [.int 1, .int x4, .ref 58], σ3) r)
    (c4 : ¬ (v2 = 0) → RR X d 147 [.ref 38, .int x4, .int x3] σ2 (some (.int v4), σ4))
    (c5 : ¬ (v2 = 0) → 0 ≤ v4 → RR X d 146 [.ref 38, .int v4] σ4 (some (.int v5), σ5))
    (k3 : ¬ (v2 = 0) → 0 ≤ v4 → TT X d tb149 (some .int) (85, [some (.ref 38), some (.int x1), some (.int x2), some (.int v4), some (.int x4), some (.int v5)], [], σ5) r)
    (k4 : ¬ (v2 = 0) → ¬ (0 ≤ v4) → r = (some (.int (-1)), σ4))
    : TT X d tb149 (some .int) (85, [some (.ref 38), some (.int x1), some (.int x2), some (.int x3), some (.int x4), some (.int x5)], [], σ) r := mi_T.go 2 (s1 := (88, [some (.ref 38), some (.int x1), some (.int x2), some (.int x3), some (.int x4), some (.int x5)], [.int x5, .ref 38], σ)) rfl <|
      mi_T.call (as := [.ref 38, .int x5]) (rest := []) (v := some (.int v1)) rfl rfl rfl rfl rfl (c1) <|
      mi_T.call (as := [.int v1]) (rest := []) (v := some (.int v2)) rfl rfl rfl rfl rfl (c2) <|
      mi_T.br (P := v2 = 0) (fun _ => rfl)
      (fun h1 => mi_T.go 7 (s1 := (132, [some (.ref 38), some (.int x1), some (.int x2), some (.int x5), some (.int x4), some (.int x5)], [.int x5, .ref 38, .int x4, .ref 58], σ2)) rfl <|
      mi_T.call (as := [.ref 38, .int x5]) (rest := [.int x4, .ref 58]) (v := some (.int v3)) rfl rfl rfl rfl rfl (c3 h1) <|
      mi_T.go 1 (s1 := (137, [some (.ref 38), some (.int x1), some (.int x2), some (.int x5), some (.int x4), some (.int x5)], [.int 47, .int v3, .int x4, .ref 58], σ3)) rfl <|
      mi_T.br (P := ¬ v3 = 47) (fun _ => rfl)
      (fun h2 => mi_T.go 1 (s1 := (145, [some (.ref 38), some (.int x1), some (.int x2), some (.int x5), some (.int x4), some (.int x5)], [.int 0, .int x4, .ref 58], σ3)) rfl <|
      (k1 h1 h2))
      (fun h2 => mi_T.go 2 (s1 := (145, [some (.ref 38), some (.int x1), some (.int x2), some (.int x5), some (.int x4), some (.int x5)], [.int 1, .int x4, .ref 58], σ3)) rfl <|
      (k2 h1 h2)))
      (fun h1 => mi_T.go 3 (s1 := (101, [some (.ref 38), some (.int x1), some (.int x2), some (.int x3), some (.int x4), some (.int x5)], [.int x3, .int x4, .ref 38], σ2)) rfl <|
      mi_T.call (as := [.ref 38, .int x4, .int x3]) (rest := []) (v := some (.int v4)) rfl rfl rfl rfl rfl (c4 h1) <|
      mi_T.go 2 (s1 := (106, [some (.ref 38), some (.int x1), some (.int x2), some (.int v4), some (.int x4), some (.int x5)], [.int v4], σ4)) rfl <|
      mi_T.br (P := 0 ≤ v4) (fun _ => rfl)
      (fun h2 => mi_T.go 2 (s1 := (113, [some (.ref 38), some (.int x1), some (.int x2), some (.int v4), some (.int x4), some (.int x5)], [.int v4, .ref 38], σ4)) rfl <|
      mi_T.call (as := [.ref 38, .int v4]) (rest := []) (v := some (.int v5)) rfl rfl rfl rfl rfl (c5 h1 h2) <|
      mi_T.go 2 (s1 := (85, [some (.ref 38), some (.int x1), some (.int x2), some (.int v4), some (.int x4), some (.int v5)], [], σ5)) rfl <|
      (k3 h1 h2))
      (fun h2 => mi_T.go 1 (s1 := (110, [some (.ref 38), some (.int x1), some (.int x2), some (.int v4), some (.int x4), some (.int x5)], [.int (-1)], σ4)) rfl <|
      mi_T.fin (k4 h1 h2) (fun _ => rfl)))

set_option maxRecDepth 100000 in
theorem R149_145 {X : Nat × (Nat → Int32)} {d : Nat} {r : mA mG} {σ : mG} {x1 : Int32} {x2 : Int32} {x3 : Int32} {x4 : Int32} {x5 : Int32} {xs0 : Int32} {xs1 : Int32}
    (b1 : mi_in xs1 20 = true)
    (b2 : mi_in x4 20 = true)
    (k1 : ((upd (σ.1 58) xs1.toNatClampNeg (mi_nar 2 xs0)) x4.toNatClampNeg) = 0 → TT X d tb149 (some .int) (163, [some (.ref 38), some (.int x1), some (.int x2), some (.int x3), some (.int x4), some (.int x5)], [.int x3], (mi_uc σ.1 58 (upd (σ.1 58) xs1.toNatClampNeg (mi_nar 2 xs0)), σ.2)) r)
    (k2 : ¬ (((upd (σ.1 58) xs1.toNatClampNeg (mi_nar 2 xs0)) x4.toNatClampNeg) = 0) → TT X d tb149 (some .int) (163, [some (.ref 38), some (.int x1), some (.int x2), some (.int x3), some (.int x4), some (.int x5)], [.int (x3 + 1)], (mi_uc σ.1 58 (upd (σ.1 58) xs1.toNatClampNeg (mi_nar 2 xs0)), σ.2)) r)
    : TT X d tb149 (some .int) (145, [some (.ref 38), some (.int x1), some (.int x2), some (.int x3), some (.int x4), some (.int x5)], [.int xs0, .int xs1, .ref 58], σ) r := mi_T.sz rfl rfl (b1) <|
      mi_T.go 3 (s1 := (152, [some (.ref 38), some (.int x1), some (.int x2), some (.int x3), some (.int x4), some (.int x5)], [.int x4, .ref 58], (mi_uc σ.1 58 (upd (σ.1 58) xs1.toNatClampNeg (mi_nar 2 xs0)), σ.2))) rfl <|
      mi_T.lz rfl rfl (b2) <|
      mi_T.br (P := ((upd (σ.1 58) xs1.toNatClampNeg (mi_nar 2 xs0)) x4.toNatClampNeg) = 0) (fun _ => rfl)
      (fun h1 => mi_T.go 1 (s1 := (163, [some (.ref 38), some (.int x1), some (.int x2), some (.int x3), some (.int x4), some (.int x5)], [.int x3], (mi_uc σ.1 58 (upd (σ.1 58) xs1.toNatClampNeg (mi_nar 2 xs0)), σ.2))) rfl <|
      (k1 h1))
      (fun h1 => mi_T.go 4 (s1 := (163, [some (.ref 38), some (.int x1), some (.int x2), some (.int x3), some (.int x4), some (.int x5)], [.int (x3 + 1)], (mi_uc σ.1 58 (upd (σ.1 58) xs1.toNatClampNeg (mi_nar 2 xs0)), σ.2))) rfl <|
      (k2 h1))

set_option maxRecDepth 100000 in
theorem R149_163 {X : Nat × (Nat → Int32)} {d : Nat} {r : mA mG} {σ : mG} {x1 : Int32} {x2 : Int32} {x3 : Int32} {x4 : Int32} {x5 : Int32} {xs0 : Int32} {v1 : Int32} {σ1 : mG}
    (b1 : mi_in x4 20 = true)
    (b2 : mi_in x4 20 = true)
    (b3 : mi_in x4 20 = true)
    (c1 : RR X d 141 [.ref 38, .int xs0] (mi_uc (mi_uc (mi_uc σ.1 55 (upd (σ.1 55) x4.toNatClampNeg (xs0 + 1))) 56 (upd (σ.1 56) x4.toNatClampNeg (xs0 + 1))) 57 (upd (σ.1 57) x4.toNatClampNeg (xs0 + 1)), σ.2) (some (.int v1), σ1))
    (k1 : ¬ v1 = 62 → r = (some (.int (-1)), σ1))
    (k2 : ¬ (¬ v1 = 62) → r = (some (.int (xs0 + 1)), σ1))
    : TT X d tb149 (some .int) (163, [some (.ref 38), some (.int x1), some (.int x2), some (.int x3), some (.int x4), some (.int x5)], [.int xs0], σ) r := mi_T.go 7 (s1 := (173, [some (.ref 38), some (.int x1), some (.int x2), some (.int xs0), some (.int x4), some (.int x5)], [.int (xs0 + 1), .int x4, .ref 55], σ)) rfl <|
      mi_T.si rfl rfl (b1) <|
      mi_T.go 6 (s1 := (183, [some (.ref 38), some (.int x1), some (.int x2), some (.int xs0), some (.int x4), some (.int x5)], [.int (xs0 + 1), .int x4, .ref 56], (mi_uc σ.1 55 (upd (σ.1 55) x4.toNatClampNeg (xs0 + 1)), σ.2))) rfl <|
      mi_T.si rfl rfl (b2) <|
      mi_T.go 6 (s1 := (193, [some (.ref 38), some (.int x1), some (.int x2), some (.int xs0), some (.int x4), some (.int x5)], [.int (xs0 + 1), .int x4, .ref 57], (mi_uc (mi_uc σ.1 55 (upd (σ.1 55) x4.toNatClampNeg (xs0 + 1))) 56 (upd (σ.1 56) x4.toNatClampNeg (xs0 + 1)), σ.2))) rfl <|
      mi_T.si rfl rfl (b3) <|
      mi_T.go 2 (s1 := (196, [some (.ref 38), some (.int x1), some (.int x2), some (.int xs0), some (.int x4), some (.int x5)], [.int xs0, .ref 38], (mi_uc (mi_uc (mi_uc σ.1 55 (upd (σ.1 55) x4.toNatClampNeg (xs0 + 1))) 56 (upd (σ.1 56) x4.toNatClampNeg (xs0 + 1))) 57 (upd (σ.1 57) x4.toNatClampNeg (xs0 + 1)), σ.2))) rfl <|
      mi_T.call (as := [.ref 38, .int xs0]) (rest := []) (v := some (.int v1)) rfl rfl rfl rfl rfl (c1) <|
      mi_T.go 1 (s1 := (201, [some (.ref 38), some (.int x1), some (.int x2), some (.int xs0), some (.int x4), some (.int x5)], [.int 62, .int v1], σ1)) rfl <|
      mi_T.br (P := ¬ v1 = 62) (fun _ => rfl)
      (fun h1 => mi_T.go 1 (s1 := (211, [some (.ref 38), some (.int x1), some (.int x2), some (.int xs0), some (.int x4), some (.int x5)], [.int (-1)], σ1)) rfl <|
      mi_T.fin (k1 h1) (fun _ => rfl))
      (fun h1 => mi_T.go 4 (s1 := (211, [some (.ref 38), some (.int x1), some (.int x2), some (.int xs0), some (.int x4), some (.int x5)], [.int (xs0 + 1)], σ1)) rfl <|
      mi_T.fin (k2 h1) (fun _ => rfl))

-- AssertionGateModel.comment(I)I
theorem R150_0 {X : Nat × (Nat → Int32)} {d : Nat} {r : mA mG} {σ : mG} {x1 : Int32}
    (k1 : TT X d tb150 (some .int) (4, [some (.ref 38), some (.int x1), some (.int (x1 + 4))], [], σ) r)
    : TT X d tb150 (some .int) (0, [some (.ref 38), some (.int x1), none], [], σ) r := mi_T.go 4 (s1 := (4, [some (.ref 38), some (.int x1), some (.int (x1 + 4))], [], σ)) rfl <|
      k1

theorem R150_4 {X : Nat × (Nat → Int32)} {d : Nat} {r : mA mG} {σ : mG} {x1 : Int32} {x2 : Int32} {v1 : Int32} {σ1 : mG} {v2 : Int32} {σ2 : mG} {v3 : Int32} {σ3 : mG}
    (c1 : (σ.1 38 4) ≤ x2 → RR X d 141 [.ref 38, .int (x2 + 2)] σ (some (.int v1), σ1))
    (k1 : (σ.1 38 4) ≤ x2 → ¬ v1 = 62 → r = (some (.int (-1)), σ1))
    (k2 : (σ.1 38 4) ≤ x2 → ¬ (¬ v1 = 62) → (σ1.1 38 4) ≤ x2 → r = (some (.int (-1)), σ1))
    (k3 : (σ.1 38 4) ≤ x2 → ¬ (¬ v1 = 62) → ¬ ((σ1.1 38 4) ≤ x2) → r = (some (.int (x2 + 3)), σ1))
    (c2 : ¬ ((σ.1 38 4) ≤ x2) → RR X d 142 [.ref 38, .int x2] σ (some (.int v2), σ2))
    (c3 : ¬ ((σ.1 38 4) ≤ x2) → ¬ v2 = 0 → RR X d 141 [.ref 38, .int (x2 + 2)] σ2 (some (.int v3), σ3))
    (k4 : ¬ ((σ.1 38 4) ≤ x2) → ¬ v2 = 0 → ¬ v3 = 62 → r = (some (.int (-1)), σ3))
    (k5 : ¬ ((σ.1 38 4) ≤ x2) → ¬ v2 = 0 → ¬ (¬ v3 = 62) → (σ3.1 38 4) ≤ x2 → r = (some (.int (-1)), σ3))
    (k6 : ¬ ((σ.1 38 4) ≤ x2) → ¬ v2 = 0 → ¬ (¬ v3 = 62) → ¬ ((σ3.1 38 4) ≤ x2) → r = (some (.int (x2 + 3)), σ3))
    (k7 : ¬ ((σ.1 38 4) ≤ x2) → ¬ (¬ v2 = 0) → TT X d tb150 (some .int) (4, [some (.ref 38), some (.int x1), some (.int (x2 + 1))], [], σ2) r)
    : TT X d tb150 (some .int) (4, [some (.ref 38), some (.int x1), some (.int x2)], [], σ) r := mi_T.go 3 (s1 := (9, [some (.ref 38), some (.int x1), some (.int x2)], [.int (σ.1 38 4), .int x2], σ)) rfl <|
      mi_T.br (P := (σ.1 38 4) ≤ x2) (fun _ => rfl)
      (fun h1 => mi_T.go 4 (s1 := (30, [some (.ref 38), some (.int x1), some (.int x2)], [.int (x2 + 2), .ref 38], σ)) rfl <|
      mi_T.call (as := [.ref 38, .int (x2 + 2)]) (rest := []) (v := some (.int v1)) rfl rfl rfl rfl rfl (c1 h1) <|
      mi_T.go 1 (s1 := (35, [some (.ref 38), some (.int x1), some (.int x2)], [.int 62, .int v1], σ1)) rfl <|
      mi_T.br (P := ¬ v1 = 62) (fun _ => rfl)
      (fun h2 => mi_T.go 1 (s1 := (53, [some (.ref 38), some (.int x1), some (.int x2)], [.int (-1)], σ1)) rfl <|
      mi_T.fin (k1 h1 h2) (fun _ => rfl))
      (fun h2 => mi_T.go 3 (s1 := (43, [some (.ref 38), some (.int x1), some (.int x2)], [.int (σ1.1 38 4), .int x2], σ1)) rfl <|
      mi_T.br (P := (σ1.1 38 4) ≤ x2) (fun _ => rfl)
      (fun h3 => mi_T.go 1 (s1 := (53, [some (.ref 38), some (.int x1), some (.int x2)], [.int (-1)], σ1)) rfl <|
      mi_T.fin (k2 h1 h2 h3) (fun _ => rfl))
      (fun h3 => mi_T.go 4 (s1 := (53, [some (.ref 38), some (.int x1), some (.int x2)], [.int (x2 + 3)], σ1)) rfl <|
      mi_T.fin (k3 h1 h2 h3) (fun _ => rfl))))
      (fun h1 => mi_T.go 2 (s1 := (14, [some (.ref 38), some (.int x1), some (.int x2)], [.int x2, .ref 38], σ)) rfl <|
      mi_T.call (as := [.ref 38, .int x2]) (rest := []) (v := some (.int v2)) rfl rfl rfl rfl rfl (c2 h1) <|
      mi_T.br (P := ¬ v2 = 0) (fun _ => rfl)
      (fun h2 => mi_T.go 4 (s1 := (30, [some (.ref 38), some (.int x1), some (.int x2)], [.int (x2 + 2), .ref 38], σ2)) rfl <|
      mi_T.call (as := [.ref 38, .int (x2 + 2)]) (rest := []) (v := some (.int v3)) rfl rfl rfl rfl rfl (c3 h1 h2) <|
      mi_T.go 1 (s1 := (35, [some (.ref 38), some (.int x1), some (.int x2)], [.int 62, .int v3], σ3)) rfl <|
      mi_T.br (P := ¬ v3 = 62) (fun _ => rfl)
      (fun h3 => mi_T.go 1 (s1 := (53, [some (.ref 38), some (.int x1), some (.int x2)], [.int (-1)], σ3)) rfl <|
      mi_T.fin (k4 h1 h2 h3) (fun _ => rfl))
      (fun h3 => mi_T.go 3 (s1 := (43, [some (.ref 38), some (.int x1), some (.int x2)], [.int (σ3.1 38 4), .int x2], σ3)) rfl <|
      mi_T.br (P := (σ3.1 38 4) ≤ x2) (fun _ => rfl)
      (fun h4 => mi_T.go 1 (s1 := (53, [some (.ref 38), some (.int x1), some (.int x2)], [.int (-1)], σ3)) rfl <|
      mi_T.fin (k5 h1 h2 h3 h4) (fun _ => rfl))
      (fun h4 => mi_T.go 4 (s1 := (53, [some (.ref 38), some (.int x1), some (.int x2)], [.int (x2 + 3)], σ3)) rfl <|
      mi_T.fin (k6 h1 h2 h3 h4) (fun _ => rfl))))
      (fun h2 => mi_T.go 2 (s1 := (4, [some (.ref 38), some (.int x1), some (.int (x2 + 1))], [], σ2)) rfl <|
      (k7 h1 h2)))

-- AssertionGateModel.close(II)I
theorem R151_0 {X : Nat × (Nat → Int32)} {d : Nat} {r : mA mG} {σ : mG} {x1 : Int32} {x2 : Int32} {v1 : Int32} {σ1 : mG} {v2 : Int32} {σ2 : mG} {v3 : Int32} {σ3 : mG}
    (c1 : RR X d 145 [.ref 38, .int (x2 + 2)] σ (some (.int v1), σ1))
    (k1 : v1 < 0 → r = (some (.int (-1)), σ1))
    (b1 : ¬ (v1 < 0) → mi_in x1 20 = true)
    (c2 : ¬ (v1 < 0) → (lg_cmp (σ1.2 38 34) (σ1.2 52 x1.toNatClampNeg)) = 0 → RR X d 146 [.ref 38, .int v1] σ1 (some (.int v2), σ2))
    (b2 : ¬ (v1 < 0) → (lg_cmp (σ1.2 38 34) (σ1.2 52 x1.toNatClampNeg)) = 0 → mi_in x1 20 = true)
    (b3 : ¬ (v1 < 0) → (lg_cmp (σ1.2 38 34) (σ1.2 52 x1.toNatClampNeg)) = 0 → mi_in x1 20 = true)
    (c3 : ¬ (v1 < 0) → (lg_cmp (σ1.2 38 34) (σ1.2 52 x1.toNatClampNeg)) = 0 → RR X d 141 [.ref 38, .int v2] (mi_uc (mi_uc σ2.1 56 (upd (σ2.1 56) x1.toNatClampNeg x2)) 57 (upd (σ2.1 57) x1.toNatClampNeg (v2 + 1)), σ2.2) (some (.int v3), σ3))
    (k2 : ¬ (v1 < 0) → (lg_cmp (σ1.2 38 34) (σ1.2 52 x1.toNatClampNeg)) = 0 → ¬ v3 = 62 → r = (some (.int (-1)), σ3))
    (k3 : ¬ (v1 < 0) → (lg_cmp (σ1.2 38 34) (σ1.2 52 x1.toNatClampNeg)) = 0 → ¬ (¬ v3 = 62) → r = (some (.int (v2 + 1)), σ3))
    (k4 : ¬ (v1 < 0) → ¬ ((lg_cmp (σ1.2 38 34) (σ1.2 52 x1.toNatClampNeg)) = 0) → r = (some (.int (-1)), σ1))
    : TT X d tb151 (some .int) (0, [some (.ref 38), some (.int x1), some (.int x2), none], [], σ) r := mi_T.go 4 (s1 := (4, [some (.ref 38), some (.int x1), some (.int x2), none], [.int (x2 + 2), .ref 38], σ)) rfl <|
      mi_T.call (as := [.ref 38, .int (x2 + 2)]) (rest := []) (v := some (.int v1)) rfl rfl rfl rfl rfl (c1) <|
      mi_T.go 2 (s1 := (9, [some (.ref 38), some (.int x1), some (.int x2), some (.int v1)], [.int v1], σ1)) rfl <|
      mi_T.br (P := v1 < 0) (fun _ => rfl)
      (fun h1 => mi_T.go 1 (s1 := (27, [some (.ref 38), some (.int x1), some (.int x2), some (.int v1)], [.int (-1)], σ1)) rfl <|
      mi_T.fin (k1 h1) (fun _ => rfl))
      (fun h1 => mi_T.go 5 (s1 := (21, [some (.ref 38), some (.int x1), some (.int x2), some (.int v1)], [.int x1, .ref 52, .long (σ1.2 38 34)], σ1)) rfl <|
      mi_T.lj rfl rfl (b1 h1) <|
      mi_T.go 1 (s1 := (23, [some (.ref 38), some (.int x1), some (.int x2), some (.int v1)], [.int (lg_cmp (σ1.2 38 34) (σ1.2 52 x1.toNatClampNeg))], σ1)) rfl <|
      mi_T.br (P := (lg_cmp (σ1.2 38 34) (σ1.2 52 x1.toNatClampNeg)) = 0) (fun _ => rfl)
      (fun h2 => mi_T.go 2 (s1 := (30, [some (.ref 38), some (.int x1), some (.int x2), some (.int v1)], [.int v1, .ref 38], σ1)) rfl <|
      mi_T.call (as := [.ref 38, .int v1]) (rest := []) (v := some (.int v2)) rfl rfl rfl rfl rfl (c2 h1 h2) <|
      mi_T.go 5 (s1 := (40, [some (.ref 38), some (.int x1), some (.int x2), some (.int v2)], [.int x2, .int x1, .ref 56], σ2)) rfl <|
      mi_T.si rfl rfl (b2 h1 h2) <|
      mi_T.go 6 (s1 := (49, [some (.ref 38), some (.int x1), some (.int x2), some (.int v2)], [.int (v2 + 1), .int x1, .ref 57], (mi_uc σ2.1 56 (upd (σ2.1 56) x1.toNatClampNeg x2), σ2.2))) rfl <|
      mi_T.si rfl rfl (b3 h1 h2) <|
      mi_T.go 2 (s1 := (52, [some (.ref 38), some (.int x1), some (.int x2), some (.int v2)], [.int v2, .ref 38], (mi_uc (mi_uc σ2.1 56 (upd (σ2.1 56) x1.toNatClampNeg x2)) 57 (upd (σ2.1 57) x1.toNatClampNeg (v2 + 1)), σ2.2))) rfl <|
      mi_T.call (as := [.ref 38, .int v2]) (rest := []) (v := some (.int v3)) rfl rfl rfl rfl rfl (c3 h1 h2) <|
      mi_T.go 1 (s1 := (57, [some (.ref 38), some (.int x1), some (.int x2), some (.int v2)], [.int 62, .int v3], σ3)) rfl <|
      mi_T.br (P := ¬ v3 = 62) (fun _ => rfl)
      (fun h3 => mi_T.go 1 (s1 := (67, [some (.ref 38), some (.int x1), some (.int x2), some (.int v2)], [.int (-1)], σ3)) rfl <|
      mi_T.fin (k2 h1 h2 h3) (fun _ => rfl))
      (fun h3 => mi_T.go 4 (s1 := (67, [some (.ref 38), some (.int x1), some (.int x2), some (.int v2)], [.int (v2 + 1)], σ3)) rfl <|
      mi_T.fin (k3 h1 h2 h3) (fun _ => rfl)))
      (fun h2 => mi_T.go 1 (s1 := (27, [some (.ref 38), some (.int x1), some (.int x2), some (.int v1)], [.int (-1)], σ1)) rfl <|
      mi_T.fin (k4 h1 h2) (fun _ => rfl)))

-- AssertionGateModel.depth(I)I
theorem R152_0 {X : Nat × (Nat → Int32)} {d : Nat} {r : mA mG} {σ : mG} {x1 : Int32}
    (k1 : TT X d tb152 (some .int) (4, [some (.ref 38), some (.int x1), some (.int 0), some (.int x1)], [], σ) r)
    : TT X d tb152 (some .int) (0, [some (.ref 38), some (.int x1), none, none], [], σ) r := mi_T.go 4 (s1 := (4, [some (.ref 38), some (.int x1), some (.int 0), some (.int x1)], [], σ)) rfl <|
      k1

theorem R152_4 {X : Nat × (Nat → Int32)} {d : Nat} {r : mA mG} {σ : mG} {x1 : Int32} {x2 : Int32} {x3 : Int32}
    (k1 : x3 < 0 → r = (some (.int x2), σ))
    (b1 : ¬ (x3 < 0) → mi_in x3 20 = true)
    (k2 : ¬ (x3 < 0) → TT X d tb152 (some .int) (4, [some (.ref 38), some (.int x1), some (.int (x2 + 1)), some (.int (σ.1 53 x3.toNatClampNeg))], [], σ) r)
    : TT X d tb152 (some .int) (4, [some (.ref 38), some (.int x1), some (.int x2), some (.int x3)], [], σ) r := mi_T.go 1 (s1 := (5, [some (.ref 38), some (.int x1), some (.int x2), some (.int x3)], [.int x3], σ)) rfl <|
      mi_T.br (P := x3 < 0) (fun _ => rfl)
      (fun h1 => mi_T.go 1 (s1 := (22, [some (.ref 38), some (.int x1), some (.int x2), some (.int x3)], [.int x2], σ)) rfl <|
      mi_T.fin (k1 h1) (fun _ => rfl))
      (fun h1 => mi_T.go 4 (s1 := (16, [some (.ref 38), some (.int x1), some (.int (x2 + 1)), some (.int x3)], [.int x3, .ref 53], σ)) rfl <|
      mi_T.li rfl rfl (b1 h1) <|
      mi_T.go 2 (s1 := (4, [some (.ref 38), some (.int x1), some (.int (x2 + 1)), some (.int (σ.1 53 x3.toNatClampNeg))], [], σ)) rfl <|
      (k2 h1))

-- AssertionGateModel.read()I
set_option maxRecDepth 100000 in
theorem R153_0 {X : Nat × (Nat → Int32)} {d : Nat} {r : mA mG} {σ : mG} {v1 : Int32} {σ1 : mG} {v2 : Int32} {σ2 : mG} {v3 : Int32} {σ3 : mG} {v4 : Int32} {σ4 : mG} {v5 : Int32} {σ5 : mG}
    (c1 : RR X d 143 [.ref 38] (mi_uc σ.1 38 (upd (σ.1 38) 22 0), σ.2) (some (.int v1), σ1))
    (c2 : v1 = 0 → RR X d 141 [.ref 38, .int 0] σ1 (some (.int v2), σ2))
    (k1 : v1 = 0 → ¬ v2 = 60 → TT X d tb153 (some .int) (46, [some (.ref 38), some (.int (-1)), none, none, none, none], [], σ2) r)
    (c3 : v1 = 0 → ¬ (¬ v2 = 60) → RR X d 141 [.ref 38, .int 1] σ2 (some (.int v3), σ3))
    (c4 : v1 = 0 → ¬ (¬ v2 = 60) → RR X d 144 [.int v3] σ3 (some (.int v4), σ4))
    (k2 : v1 = 0 → ¬ (¬ v2 = 60) → v4 = 0 → TT X d tb153 (some .int) (46, [some (.ref 38), some (.int (-1)), none, none, none, none], [], σ4) r)
    (c5 : v1 = 0 → ¬ (¬ v2 = 60) → ¬ (v4 = 0) → RR X d 149 [.ref 38, .int 0, .int (-1)] σ4 (some (.int v5), σ5))
    (k3 : v1 = 0 → ¬ (¬ v2 = 60) → ¬ (v4 = 0) → TT X d tb153 (some .int) (47, [some (.ref 38), some (.int (-1)), none, none, none, none], [.int v5], σ5) r)
    (k4 : ¬ (v1 = 0) → r = (some (.int (-1)), σ1))
    : TT X d tb153 (some .int) (0, [some (.ref 38), none, none, none, none, none], [], σ) r := mi_T.go 4 (s1 := (6, [some (.ref 38), none, none, none, none, none], [.ref 38], (mi_uc σ.1 38 (upd (σ.1 38) 22 0), σ.2))) rfl <|
      mi_T.call (as := [.ref 38]) (rest := []) (v := some (.int v1)) rfl rfl rfl rfl rfl (c1) <|
      mi_T.br (P := v1 = 0) (fun _ => rfl)
      (fun h1 => mi_T.go 4 (s1 := (18, [some (.ref 38), some (.int (-1)), none, none, none, none], [.int 0, .ref 38], σ1)) rfl <|
      mi_T.call (as := [.ref 38, .int 0]) (rest := []) (v := some (.int v2)) rfl rfl rfl rfl rfl (c2 h1) <|
      mi_T.go 1 (s1 := (23, [some (.ref 38), some (.int (-1)), none, none, none, none], [.int 60, .int v2], σ2)) rfl <|
      mi_T.br (P := ¬ v2 = 60) (fun _ => rfl)
      (fun h2 => (k1 h1 h2))
      (fun h2 => mi_T.go 2 (s1 := (28, [some (.ref 38), some (.int (-1)), none, none, none, none], [.int 1, .ref 38], σ2)) rfl <|
      mi_T.call (as := [.ref 38, .int 1]) (rest := []) (v := some (.int v3)) rfl rfl rfl rfl rfl (c3 h1 h2) <|
      mi_T.call (as := [.int v3]) (rest := []) (v := some (.int v4)) rfl rfl rfl rfl rfl (c4 h1 h2) <|
      mi_T.br (P := v4 = 0) (fun _ => rfl)
      (fun h3 => (k2 h1 h2 h3))
      (fun h3 => mi_T.go 3 (s1 := (40, [some (.ref 38), some (.int (-1)), none, none, none, none], [.int (-1), .int 0, .ref 38], σ4)) rfl <|
      mi_T.call (as := [.ref 38, .int 0, .int (-1)]) (rest := []) (v := some (.int v5)) rfl rfl rfl rfl rfl (c5 h1 h2 h3) <|
      mi_T.go 1 (s1 := (47, [some (.ref 38), some (.int (-1)), none, none, none, none], [.int v5], σ5)) rfl <|
      (k3 h1 h2 h3))))
      (fun h1 => mi_T.go 1 (s1 := (13, [some (.ref 38), none, none, none, none, none], [.int (-1)], σ1)) rfl <|
      mi_T.fin (k4 h1) (fun _ => rfl))

set_option maxRecDepth 100000 in
theorem R153_46 {X : Nat × (Nat → Int32)} {d : Nat} {r : mA mG} {σ : mG} {x1 : Int32}
    (k1 : TT X d tb153 (some .int) (47, [some (.ref 38), some (.int x1), none, none, none, none], [.int (-1)], σ) r)
    : TT X d tb153 (some .int) (46, [some (.ref 38), some (.int x1), none, none, none, none], [], σ) r := mi_T.go 1 (s1 := (47, [some (.ref 38), some (.int x1), none, none, none, none], [.int (-1)], σ)) rfl <|
      k1

set_option maxRecDepth 100000 in
theorem R153_47 {X : Nat × (Nat → Int32)} {d : Nat} {r : mA mG} {σ : mG} {x1 : Int32} {xs0 : Int32}
    (k1 : xs0 ≤ 0 → TT X d tb153 (some .int) (65, [some (.ref 38), some (.int x1), some (.int xs0), none, none, none], [], σ) r)
    (b1 : ¬ (xs0 ≤ 0) → mi_in 0 20 = true)
    (k2 : ¬ (xs0 ≤ 0) → ¬ (σ.1 58 ((0 : Int32).toNatClampNeg)) = 0 → TT X d tb153 (some .int) (65, [some (.ref 38), some (.int x1), some (.int xs0), none, none, none], [], σ) r)
    (k3 : ¬ (xs0 ≤ 0) → ¬ (¬ (σ.1 58 ((0 : Int32).toNatClampNeg)) = 0) → TT X d tb153 (some .int) (66, [some (.ref 38), some (.int x1), some (.int xs0), none, none, none], [.int 0], σ) r)
    : TT X d tb153 (some .int) (47, [some (.ref 38), some (.int x1), none, none, none, none], [.int xs0], σ) r := mi_T.go 2 (s1 := (49, [some (.ref 38), some (.int x1), some (.int xs0), none, none, none], [.int xs0], σ)) rfl <|
      mi_T.br (P := xs0 ≤ 0) (fun _ => rfl)
      (fun h1 => (k1 h1))
      (fun h1 => mi_T.go 3 (s1 := (57, [some (.ref 38), some (.int x1), some (.int xs0), none, none, none], [.int 0, .ref 58], σ)) rfl <|
      mi_T.lz rfl rfl (b1 h1) <|
      mi_T.br (P := ¬ (σ.1 58 ((0 : Int32).toNatClampNeg)) = 0) (fun _ => rfl)
      (fun h2 => (k2 h1 h2))
      (fun h2 => mi_T.go 2 (s1 := (66, [some (.ref 38), some (.int x1), some (.int xs0), none, none, none], [.int 0], σ)) rfl <|
      (k3 h1 h2)))

set_option maxRecDepth 100000 in
theorem R153_65 {X : Nat × (Nat → Int32)} {d : Nat} {r : mA mG} {σ : mG} {x1 : Int32} {x2 : Int32}
    (k1 : TT X d tb153 (some .int) (66, [some (.ref 38), some (.int x1), some (.int x2), none, none, none], [.int (-1)], σ) r)
    : TT X d tb153 (some .int) (65, [some (.ref 38), some (.int x1), some (.int x2), none, none, none], [], σ) r := mi_T.go 1 (s1 := (66, [some (.ref 38), some (.int x1), some (.int x2), none, none, none], [.int (-1)], σ)) rfl <|
      k1

set_option maxRecDepth 100000 in
theorem R153_66 {X : Nat × (Nat → Int32)} {d : Nat} {r : mA mG} {σ : mG} {x1 : Int32} {x2 : Int32} {xs0 : Int32}
    (k1 : TT X d tb153 (some .int) (69, [some (.ref 38), some (.int xs0), some (.int x2), some (.int 0), none, none], [], σ) r)
    : TT X d tb153 (some .int) (66, [some (.ref 38), some (.int x1), some (.int x2), none, none, none], [.int xs0], σ) r := mi_T.go 3 (s1 := (69, [some (.ref 38), some (.int xs0), some (.int x2), some (.int 0), none, none], [], σ)) rfl <|
      k1

set_option maxRecDepth 100000 in
theorem R153_69 {X : Nat × (Nat → Int32)} {d : Nat} {r : mA mG} {σ : mG} {x1 : Int32} {x2 : Int32} {x3 : Int32} {u4 : Option Value} {u5 : Option Value} {v1 : Int32} {σ1 : mG} {v2 : Int32} {σ2 : mG} {v3 : Int32} {σ3 : mG} {v4 : Int32} {σ4 : mG} {v5 : Int32} {σ5 : mG} {v6 : Int32} {σ6 : mG} {v7 : Int32} {σ7 : mG}
    (k1 : 500 ≤ x3 → TT X d tb153 (some .int) (234, [some (.ref 38), some (.int x1), some (.int x2), some (.int x3), u4, u5], [], σ) r)
    (k2 : ¬ (500 ≤ x3) → x2 ≤ 0 → TT X d tb153 (some .int) (234, [some (.ref 38), some (.int x1), some (.int x2), some (.int x3), u4, u5], [], σ) r)
    (k3 : ¬ (500 ≤ x3) → ¬ (x2 ≤ 0) → x1 < 0 → TT X d tb153 (some .int) (234, [some (.ref 38), some (.int x1), some (.int x2), some (.int x3), u4, u5], [], σ) r)
    (c1 : ¬ (500 ≤ x3) → ¬ (x2 ≤ 0) → ¬ (x1 < 0) → RR X d 141 [.ref 38, .int x2] σ (some (.int v1), σ1))
    (c2 : ¬ (500 ≤ x3) → ¬ (x2 ≤ 0) → ¬ (x1 < 0) → v1 = 60 → RR X d 141 [.ref 38, .int (x2 + 1)] σ1 (some (.int v2), σ2))
    (c3 : ¬ (500 ≤ x3) → ¬ (x2 ≤ 0) → ¬ (x1 < 0) → v1 = 60 → ¬ v2 = 33 → RR X d 141 [.ref 38, .int (x2 + 1)] σ2 (some (.int v3), σ3))
    (c4 : ¬ (500 ≤ x3) → ¬ (x2 ≤ 0) → ¬ (x1 < 0) → v1 = 60 → ¬ v2 = 33 → ¬ v3 = 47 → RR X d 149 [.ref 38, .int x2, .int x1] σ3 (some (.int v4), σ4))
    (c5 : ¬ (500 ≤ x3) → ¬ (x2 ≤ 0) → ¬ (x1 < 0) → v1 = 60 → ¬ v2 = 33 → ¬ v3 = 47 → RR X d 152 [.ref 38, .int ((σ4.1 38 22) - 1)] σ4 (some (.int v5), σ5))
    (k4 : ¬ (500 ≤ x3) → ¬ (x2 ≤ 0) → ¬ (x1 < 0) → v1 = 60 → ¬ v2 = 33 → ¬ v3 = 47 → v5 ≤ 6 → TT X d tb153 (some .int) (194, [some (.ref 38), some (.int x1), some (.int v4), some (.int x3), some (.int ((σ4.1 38 22) - 1)), u5], [.int 0], σ5) r)
    (k5 : ¬ (500 ≤ x3) → ¬ (x2 ≤ 0) → ¬ (x1 < 0) → v1 = 60 → ¬ v2 = 33 → ¬ v3 = 47 → ¬ (v5 ≤ 6) → TT X d tb153 (some .int) (194, [some (.ref 38), some (.int x1), some (.int v4), some (.int x3), some (.int ((σ4.1 38 22) - 1)), u5], [.int 1], σ5) r)
    (c6 : ¬ (500 ≤ x3) → ¬ (x2 ≤ 0) → ¬ (x1 < 0) → v1 = 60 → ¬ v2 = 33 → ¬ (¬ v3 = 47) → RR X d 151 [.ref 38, .int x1, .int x2] σ3 (some (.int v6), σ6))
    (b1 : ¬ (500 ≤ x3) → ¬ (x2 ≤ 0) → ¬ (x1 < 0) → v1 = 60 → ¬ v2 = 33 → ¬ (¬ v3 = 47) → mi_in x1 20 = true)
    (k6 : ¬ (500 ≤ x3) → ¬ (x2 ≤ 0) → ¬ (x1 < 0) → v1 = 60 → ¬ v2 = 33 → ¬ (¬ v3 = 47) → TT X d tb153 (some .int) (228, [some (.ref 38), some (.int (σ6.1 53 x1.toNatClampNeg)), some (.int v6), some (.int x3), u4, u5], [], σ6) r)
    (c7 : ¬ (500 ≤ x3) → ¬ (x2 ≤ 0) → ¬ (x1 < 0) → v1 = 60 → ¬ (¬ v2 = 33) → RR X d 150 [.ref 38, .int x2] σ2 (some (.int v7), σ7))
    (k7 : ¬ (500 ≤ x3) → ¬ (x2 ≤ 0) → ¬ (x1 < 0) → v1 = 60 → ¬ (¬ v2 = 33) → TT X d tb153 (some .int) (228, [some (.ref 38), some (.int x1), some (.int v7), some (.int x3), u4, u5], [], σ7) r)
    (k8 : ¬ (500 ≤ x3) → ¬ (x2 ≤ 0) → ¬ (x1 < 0) → ¬ (v1 = 60) → (σ1.1 38 4) ≤ x2 → TT X d tb153 (some .int) (109, [some (.ref 38), some (.int x1), some (.int x2), some (.int x3), u4, u5], [.int (-1)], σ1) r)
    (k9 : ¬ (500 ≤ x3) → ¬ (x2 ≤ 0) → ¬ (x1 < 0) → ¬ (v1 = 60) → ¬ ((σ1.1 38 4) ≤ x2) → TT X d tb153 (some .int) (109, [some (.ref 38), some (.int x1), some (.int x2), some (.int x3), u4, u5], [.int (x2 + 1)], σ1) r)
    : TT X d tb153 (some .int) (69, [some (.ref 38), some (.int x1), some (.int x2), some (.int x3), u4, u5], [], σ) r := mi_T.go 2 (s1 := (73, [some (.ref 38), some (.int x1), some (.int x2), some (.int x3), u4, u5], [.int 500, .int x3], σ)) rfl <|
      mi_T.br (P := 500 ≤ x3) (fun _ => rfl)
      (fun h1 => (k1 h1))
      (fun h1 => mi_T.go 1 (s1 := (77, [some (.ref 38), some (.int x1), some (.int x2), some (.int x3), u4, u5], [.int x2], σ)) rfl <|
      mi_T.br (P := x2 ≤ 0) (fun _ => rfl)
      (fun h2 => (k2 h1 h2))
      (fun h2 => mi_T.go 1 (s1 := (81, [some (.ref 38), some (.int x1), some (.int x2), some (.int x3), u4, u5], [.int x1], σ)) rfl <|
      mi_T.br (P := x1 < 0) (fun _ => rfl)
      (fun h3 => (k3 h1 h2 h3))
      (fun h3 => mi_T.go 2 (s1 := (86, [some (.ref 38), some (.int x1), some (.int x2), some (.int x3), u4, u5], [.int x2, .ref 38], σ)) rfl <|
      mi_T.call (as := [.ref 38, .int x2]) (rest := []) (v := some (.int v1)) rfl rfl rfl rfl rfl (c1 h1 h2 h3) <|
      mi_T.go 1 (s1 := (91, [some (.ref 38), some (.int x1), some (.int x2), some (.int x3), u4, u5], [.int 60, .int v1], σ1)) rfl <|
      mi_T.br (P := v1 = 60) (fun _ => rfl)
      (fun h4 => mi_T.go 4 (s1 := (117, [some (.ref 38), some (.int x1), some (.int x2), some (.int x3), u4, u5], [.int (x2 + 1), .ref 38], σ1)) rfl <|
      mi_T.call (as := [.ref 38, .int (x2 + 1)]) (rest := []) (v := some (.int v2)) rfl rfl rfl rfl rfl (c2 h1 h2 h3 h4) <|
      mi_T.go 1 (s1 := (122, [some (.ref 38), some (.int x1), some (.int x2), some (.int x3), u4, u5], [.int 33, .int v2], σ2)) rfl <|
      mi_T.br (P := ¬ v2 = 33) (fun _ => rfl)
      (fun h5 => mi_T.go 4 (s1 := (138, [some (.ref 38), some (.int x1), some (.int x2), some (.int x3), u4, u5], [.int (x2 + 1), .ref 38], σ2)) rfl <|
      mi_T.call (as := [.ref 38, .int (x2 + 1)]) (rest := []) (v := some (.int v3)) rfl rfl rfl rfl rfl (c3 h1 h2 h3 h4 h5) <|
      mi_T.go 1 (s1 := (143, [some (.ref 38), some (.int x1), some (.int x2), some (.int x3), u4, u5], [.int 47, .int v3], σ3)) rfl <|
      mi_T.br (P := ¬ v3 = 47) (fun _ => rfl)
      (fun h6 => mi_T.go 3 (s1 := (166, [some (.ref 38), some (.int x1), some (.int x2), some (.int x3), u4, u5], [.int x1, .int x2, .ref 38], σ3)) rfl <|
      mi_T.call (as := [.ref 38, .int x2, .int x1]) (rest := []) (v := some (.int v4)) rfl rfl rfl rfl rfl (c4 h1 h2 h3 h4 h5 h6) <|
      mi_T.go 8 (s1 := (181, [some (.ref 38), some (.int x1), some (.int v4), some (.int x3), some (.int ((σ4.1 38 22) - 1)), u5], [.int ((σ4.1 38 22) - 1), .ref 38], σ4)) rfl <|
      mi_T.call (as := [.ref 38, .int ((σ4.1 38 22) - 1)]) (rest := []) (v := some (.int v5)) rfl rfl rfl rfl rfl (c5 h1 h2 h3 h4 h5 h6) <|
      mi_T.go 1 (s1 := (186, [some (.ref 38), some (.int x1), some (.int v4), some (.int x3), some (.int ((σ4.1 38 22) - 1)), u5], [.int 6, .int v5], σ5)) rfl <|
      mi_T.br (P := v5 ≤ 6) (fun _ => rfl)
      (fun h7 => mi_T.go 1 (s1 := (194, [some (.ref 38), some (.int x1), some (.int v4), some (.int x3), some (.int ((σ4.1 38 22) - 1)), u5], [.int 0], σ5)) rfl <|
      (k4 h1 h2 h3 h4 h5 h6 h7))
      (fun h7 => mi_T.go 2 (s1 := (194, [some (.ref 38), some (.int x1), some (.int v4), some (.int x3), some (.int ((σ4.1 38 22) - 1)), u5], [.int 1], σ5)) rfl <|
      (k5 h1 h2 h3 h4 h5 h6 h7)))
      (fun h6 => mi_T.go 3 (s1 := (149, [some (.ref 38), some (.int x1), some (.int x2), some (.int x3), u4, u5], [.int x2, .int x1, .ref 38], σ3)) rfl <|
      mi_T.call (as := [.ref 38, .int x1, .int x2]) (rest := []) (v := some (.int v6)) rfl rfl rfl rfl rfl (c6 h1 h2 h3 h4 h5 h6) <|
      mi_T.go 4 (s1 := (158, [some (.ref 38), some (.int x1), some (.int v6), some (.int x3), u4, u5], [.int x1, .ref 53], σ6)) rfl <|
      mi_T.li rfl rfl (b1 h1 h2 h3 h4 h5 h6) <|
      mi_T.go 2 (s1 := (228, [some (.ref 38), some (.int (σ6.1 53 x1.toNatClampNeg)), some (.int v6), some (.int x3), u4, u5], [], σ6)) rfl <|
      (k6 h1 h2 h3 h4 h5 h6)))
      (fun h5 => mi_T.go 2 (s1 := (127, [some (.ref 38), some (.int x1), some (.int x2), some (.int x3), u4, u5], [.int x2, .ref 38], σ2)) rfl <|
      mi_T.call (as := [.ref 38, .int x2]) (rest := []) (v := some (.int v7)) rfl rfl rfl rfl rfl (c7 h1 h2 h3 h4 h5) <|
      mi_T.go 2 (s1 := (228, [some (.ref 38), some (.int x1), some (.int v7), some (.int x3), u4, u5], [], σ7)) rfl <|
      (k7 h1 h2 h3 h4 h5)))
      (fun h4 => mi_T.go 3 (s1 := (99, [some (.ref 38), some (.int x1), some (.int x2), some (.int x3), u4, u5], [.int (σ1.1 38 4), .int x2], σ1)) rfl <|
      mi_T.br (P := (σ1.1 38 4) ≤ x2) (fun _ => rfl)
      (fun h5 => mi_T.go 1 (s1 := (109, [some (.ref 38), some (.int x1), some (.int x2), some (.int x3), u4, u5], [.int (-1)], σ1)) rfl <|
      (k8 h1 h2 h3 h4 h5))
      (fun h5 => mi_T.go 4 (s1 := (109, [some (.ref 38), some (.int x1), some (.int x2), some (.int x3), u4, u5], [.int (x2 + 1)], σ1)) rfl <|
      (k9 h1 h2 h3 h4 h5))))))

set_option maxRecDepth 100000 in
theorem R153_109 {X : Nat × (Nat → Int32)} {d : Nat} {r : mA mG} {σ : mG} {x1 : Int32} {x2 : Int32} {x3 : Int32} {u4 : Option Value} {u5 : Option Value} {xs0 : Int32}
    (k1 : TT X d tb153 (some .int) (228, [some (.ref 38), some (.int x1), some (.int xs0), some (.int x3), u4, u5], [], σ) r)
    : TT X d tb153 (some .int) (109, [some (.ref 38), some (.int x1), some (.int x2), some (.int x3), u4, u5], [.int xs0], σ) r := mi_T.go 2 (s1 := (228, [some (.ref 38), some (.int x1), some (.int xs0), some (.int x3), u4, u5], [], σ)) rfl <|
      k1

set_option maxRecDepth 100000 in
theorem R153_194 {X : Nat × (Nat → Int32)} {d : Nat} {r : mA mG} {σ : mG} {x1 : Int32} {x2 : Int32} {x3 : Int32} {x4 : Int32} {u5 : Option Value} {xs0 : Int32}
    (k1 : x2 ≤ 0 → TT X d tb153 (some .int) (215, [some (.ref 38), some (.int x1), some (.int x2), some (.int x3), some (.int x4), some (.int xs0)], [], σ) r)
    (b1 : ¬ (x2 ≤ 0) → mi_in x4 20 = true)
    (k2 : ¬ (x2 ≤ 0) → ¬ (σ.1 58 x4.toNatClampNeg) = 0 → TT X d tb153 (some .int) (215, [some (.ref 38), some (.int x1), some (.int x2), some (.int x3), some (.int x4), some (.int xs0)], [], σ) r)
    (k3 : ¬ (x2 ≤ 0) → ¬ (¬ (σ.1 58 x4.toNatClampNeg) = 0) → TT X d tb153 (some .int) (216, [some (.ref 38), some (.int x1), some (.int x2), some (.int x3), some (.int x4), some (.int xs0)], [.int x4], σ) r)
    : TT X d tb153 (some .int) (194, [some (.ref 38), some (.int x1), some (.int x2), some (.int x3), some (.int x4), u5], [.int xs0], σ) r := mi_T.go 2 (s1 := (197, [some (.ref 38), some (.int x1), some (.int x2), some (.int x3), some (.int x4), some (.int xs0)], [.int x2], σ)) rfl <|
      mi_T.br (P := x2 ≤ 0) (fun _ => rfl)
      (fun h1 => (k1 h1))
      (fun h1 => mi_T.go 3 (s1 := (206, [some (.ref 38), some (.int x1), some (.int x2), some (.int x3), some (.int x4), some (.int xs0)], [.int x4, .ref 58], σ)) rfl <|
      mi_T.lz rfl rfl (b1 h1) <|
      mi_T.br (P := ¬ (σ.1 58 x4.toNatClampNeg) = 0) (fun _ => rfl)
      (fun h2 => (k2 h1 h2))
      (fun h2 => mi_T.go 2 (s1 := (216, [some (.ref 38), some (.int x1), some (.int x2), some (.int x3), some (.int x4), some (.int xs0)], [.int x4], σ)) rfl <|
      (k3 h1 h2)))

set_option maxRecDepth 100000 in
theorem R153_215 {X : Nat × (Nat → Int32)} {d : Nat} {r : mA mG} {σ : mG} {x1 : Int32} {x2 : Int32} {x3 : Int32} {x4 : Int32} {x5 : Int32}
    (k1 : TT X d tb153 (some .int) (216, [some (.ref 38), some (.int x1), some (.int x2), some (.int x3), some (.int x4), some (.int x5)], [.int x1], σ) r)
    : TT X d tb153 (some .int) (215, [some (.ref 38), some (.int x1), some (.int x2), some (.int x3), some (.int x4), some (.int x5)], [], σ) r := mi_T.go 1 (s1 := (216, [some (.ref 38), some (.int x1), some (.int x2), some (.int x3), some (.int x4), some (.int x5)], [.int x1], σ)) rfl <|
      k1

set_option maxRecDepth 100000 in
theorem R153_216 {X : Nat × (Nat → Int32)} {d : Nat} {r : mA mG} {σ : mG} {x1 : Int32} {x2 : Int32} {x3 : Int32} {x4 : Int32} {x5 : Int32} {xs0 : Int32}
    (k1 : x5 = 0 → TT X d tb153 (some .int) (227, [some (.ref 38), some (.int xs0), some (.int x2), some (.int x3), some (.int x4), some (.int x5)], [.int x2], σ) r)
    (k2 : ¬ (x5 = 0) → TT X d tb153 (some .int) (227, [some (.ref 38), some (.int xs0), some (.int x2), some (.int x3), some (.int x4), some (.int x5)], [.int (-1)], σ) r)
    : TT X d tb153 (some .int) (216, [some (.ref 38), some (.int x1), some (.int x2), some (.int x3), some (.int x4), some (.int x5)], [.int xs0], σ) r := mi_T.go 2 (s1 := (219, [some (.ref 38), some (.int xs0), some (.int x2), some (.int x3), some (.int x4), some (.int x5)], [.int x5], σ)) rfl <|
      mi_T.br (P := x5 = 0) (fun _ => rfl)
      (fun h1 => mi_T.go 1 (s1 := (227, [some (.ref 38), some (.int xs0), some (.int x2), some (.int x3), some (.int x4), some (.int x5)], [.int x2], σ)) rfl <|
      (k1 h1))
      (fun h1 => mi_T.go 2 (s1 := (227, [some (.ref 38), some (.int xs0), some (.int x2), some (.int x3), some (.int x4), some (.int x5)], [.int (-1)], σ)) rfl <|
      (k2 h1))

set_option maxRecDepth 100000 in
theorem R153_227 {X : Nat × (Nat → Int32)} {d : Nat} {r : mA mG} {σ : mG} {x1 : Int32} {x2 : Int32} {x3 : Int32} {x4 : Int32} {x5 : Int32} {xs0 : Int32}
    (k1 : TT X d tb153 (some .int) (228, [some (.ref 38), some (.int x1), some (.int xs0), some (.int x3), some (.int x4), some (.int x5)], [], σ) r)
    : TT X d tb153 (some .int) (227, [some (.ref 38), some (.int x1), some (.int x2), some (.int x3), some (.int x4), some (.int x5)], [.int xs0], σ) r := mi_T.go 1 (s1 := (228, [some (.ref 38), some (.int x1), some (.int xs0), some (.int x3), some (.int x4), some (.int x5)], [], σ)) rfl <|
      k1

set_option maxRecDepth 100000 in
theorem R153_228 {X : Nat × (Nat → Int32)} {d : Nat} {r : mA mG} {σ : mG} {x1 : Int32} {x2 : Int32} {x3 : Int32} {u4 : Option Value} {u5 : Option Value}
    (k1 : TT X d tb153 (some .int) (69, [some (.ref 38), some (.int x1), some (.int x2), some (.int (x3 + 1)), u4, u5], [], σ) r)
    : TT X d tb153 (some .int) (228, [some (.ref 38), some (.int x1), some (.int x2), some (.int x3), u4, u5], [], σ) r := mi_T.go 2 (s1 := (69, [some (.ref 38), some (.int x1), some (.int x2), some (.int (x3 + 1)), u4, u5], [], σ)) rfl <|
      k1

set_option maxRecDepth 100000 in
theorem R153_234 {X : Nat × (Nat → Int32)} {d : Nat} {r : mA mG} {σ : mG} {x1 : Int32} {x2 : Int32} {x3 : Int32} {u4 : Option Value} {u5 : Option Value}
    (k1 : ¬ x2 = (σ.1 38 4) → r = (some (.int (-2)), σ))
    (k2 : ¬ (¬ x2 = (σ.1 38 4)) → x2 ≤ 0 → r = (some (.int (-2)), σ))
    (k3 : ¬ (¬ x2 = (σ.1 38 4)) → ¬ (x2 ≤ 0) → r = (some (.int (σ.1 38 22)), σ))
    : TT X d tb153 (some .int) (234, [some (.ref 38), some (.int x1), some (.int x2), some (.int x3), u4, u5], [], σ) r := mi_T.go 3 (s1 := (239, [some (.ref 38), some (.int x1), some (.int x2), some (.int x3), u4, u5], [.int (σ.1 38 4), .int x2], σ)) rfl <|
      mi_T.br (P := ¬ x2 = (σ.1 38 4)) (fun _ => rfl)
      (fun h1 => mi_T.go 1 (s1 := (255, [some (.ref 38), some (.int x1), some (.int x2), some (.int x3), u4, u5], [.int (-2)], σ)) rfl <|
      mi_T.fin (k1 h1) (fun _ => rfl))
      (fun h1 => mi_T.go 1 (s1 := (243, [some (.ref 38), some (.int x1), some (.int x2), some (.int x3), u4, u5], [.int x2], σ)) rfl <|
      mi_T.br (P := x2 ≤ 0) (fun _ => rfl)
      (fun h2 => mi_T.go 1 (s1 := (255, [some (.ref 38), some (.int x1), some (.int x2), some (.int x3), u4, u5], [.int (-2)], σ)) rfl <|
      mi_T.fin (k2 h1 h2) (fun _ => rfl))
      (fun h2 => mi_T.go 3 (s1 := (255, [some (.ref 38), some (.int x1), some (.int x2), some (.int x3), u4, u5], [.int (σ.1 38 22)], σ)) rfl <|
      mi_T.fin (k3 h1 h2) (fun _ => rfl)))

-- AssertionGateModel.elements()I
theorem R154_0 {X : Nat × (Nat → Int32)} {d : Nat} {r : mA mG} {σ : mG} {v1 : Int32} {σ1 : mG}
    (c1 : RR X d 153 [.ref 38] σ (some (.int v1), σ1))
    (k1 : r = (some (.int v1), σ1))
    : TT X d tb154 (some .int) (0, [some (.ref 38)], [], σ) r := mi_T.go 1 (s1 := (1, [some (.ref 38)], [.ref 38], σ)) rfl <|
      mi_T.call (as := [.ref 38]) (rest := []) (v := some (.int v1)) rfl rfl rfl rfl rfl (c1) <|
      mi_T.fin (k1) (fun _ => rfl)

-- AssertionGateModel.fold(II)I
theorem R155_0 {X : Nat × (Nat → Int32)} {d : Nat} {r : mA mG} {σ : mG} {x0 : Int32} {x1 : Int32}
    (k1 : r = (some (.int (((x0 * 257) + x1) - ((x0 * 257) + x1) / 65521 * 65521)), σ))
    : TT X d tb155 (some .int) (0, [some (.int x0), some (.int x1)], [], σ) r := mi_T.go 6 (s1 := (9, [some (.int x0), some (.int x1)], [.int 65521, .int ((x0 * 257) + x1)], σ)) rfl <|
      mi_T.irem rfl (by decide) <|
      mi_T.fin (k1) (fun _ => rfl)

-- AssertionGateModel.foldName(IJ)I
theorem R156_0 {X : Nat × (Nat → Int32)} {d : Nat} {r : mA mG} {σ : mG} {x0 : Int32} {y1 : Int64}
    (k1 : TT X d tb156 (some .int) (6, [some (.int x0), some (.long y1), none, some (.int x0), some (.int 40), none], [], σ) r)
    : TT X d tb156 (some .int) (0, [some (.int x0), some (.long y1), none, none, none, none], [], σ) r := mi_T.go 4 (s1 := (6, [some (.int x0), some (.long y1), none, some (.int x0), some (.int 40), none], [], σ)) rfl <|
      k1

theorem R156_6 {X : Nat × (Nat → Int32)} {d : Nat} {r : mA mG} {σ : mG} {x0 : Int32} {y1 : Int64} {x3 : Int32} {x4 : Int32} {u5 : Option Value} {v1 : Int32} {σ1 : mG}
    (k1 : x4 < 0 → r = (some (.int x3), σ))
    (c1 : ¬ (x4 < 0) → ¬ (((y1 >>> (x4.toInt64 &&& 63)) &&& 255).toInt32) = 0 → RR X d 155 [.int x3, .int (((y1 >>> (x4.toInt64 &&& 63)) &&& 255).toInt32)] σ (some (.int v1), σ1))
    (k2 : ¬ (x4 < 0) → ¬ (((y1 >>> (x4.toInt64 &&& 63)) &&& 255).toInt32) = 0 → TT X d tb156 (some .int) (6, [some (.int x0), some (.long y1), none, some (.int v1), some (.int (x4 + (-8))), some (.int (((y1 >>> (x4.toInt64 &&& 63)) &&& 255).toInt32))], [], σ1) r)
    (k3 : ¬ (x4 < 0) → ¬ (¬ (((y1 >>> (x4.toInt64 &&& 63)) &&& 255).toInt32) = 0) → TT X d tb156 (some .int) (6, [some (.int x0), some (.long y1), none, some (.int x3), some (.int (x4 + (-8))), some (.int (((y1 >>> (x4.toInt64 &&& 63)) &&& 255).toInt32))], [], σ) r)
    : TT X d tb156 (some .int) (6, [some (.int x0), some (.long y1), none, some (.int x3), some (.int x4), u5], [], σ) r := mi_T.go 1 (s1 := (8, [some (.int x0), some (.long y1), none, some (.int x3), some (.int x4), u5], [.int x4], σ)) rfl <|
      mi_T.br (P := x4 < 0) (fun _ => rfl)
      (fun h1 => mi_T.go 1 (s1 := (45, [some (.int x0), some (.long y1), none, some (.int x3), some (.int x4), u5], [.int x3], σ)) rfl <|
      mi_T.fin (k1 h1) (fun _ => rfl))
      (fun h1 => mi_T.go 8 (s1 := (24, [some (.int x0), some (.long y1), none, some (.int x3), some (.int x4), some (.int (((y1 >>> (x4.toInt64 &&& 63)) &&& 255).toInt32))], [.int (((y1 >>> (x4.toInt64 &&& 63)) &&& 255).toInt32)], σ)) rfl <|
      mi_T.br (P := ¬ (((y1 >>> (x4.toInt64 &&& 63)) &&& 255).toInt32) = 0) (fun _ => rfl)
      (fun h2 => mi_T.go 2 (s1 := (34, [some (.int x0), some (.long y1), none, some (.int x3), some (.int x4), some (.int (((y1 >>> (x4.toInt64 &&& 63)) &&& 255).toInt32))], [.int (((y1 >>> (x4.toInt64 &&& 63)) &&& 255).toInt32), .int x3], σ)) rfl <|
      mi_T.call (as := [.int x3, .int (((y1 >>> (x4.toInt64 &&& 63)) &&& 255).toInt32)]) (rest := []) (v := some (.int v1)) rfl rfl rfl rfl rfl (c1 h1 h2) <|
      mi_T.go 3 (s1 := (6, [some (.int x0), some (.long y1), none, some (.int v1), some (.int (x4 + (-8))), some (.int (((y1 >>> (x4.toInt64 &&& 63)) &&& 255).toInt32))], [], σ1)) rfl <|
      (k2 h1 h2))
      (fun h2 => mi_T.go 5 (s1 := (6, [some (.int x0), some (.long y1), none, some (.int x3), some (.int (x4 + (-8))), some (.int (((y1 >>> (x4.toInt64 &&& 63)) &&& 255).toInt32))], [], σ)) rfl <|
      (k3 h1 h2)))

-- AssertionGateModel.foldAttribute(II)I
theorem R157_0 {X : Nat × (Nat → Int32)} {d : Nat} {r : mA mG} {σ : mG} {x1 : Int32} {x2 : Int32} {v1 : Int32} {σ1 : mG} {v2 : Int32} {σ2 : mG} {v3 : Int32} {σ3 : mG} {v4 : Int32} {σ4 : mG}
    (c1 : RR X d 155 [.int x1, .int 32] σ (some (.int v1), σ1))
    (b1 : mi_in x2 80 = true)
    (c2 : RR X d 156 [.int v1, .long (σ1.2 60 x2.toNatClampNeg)] σ1 (some (.int v2), σ2))
    (c3 : RR X d 155 [.int v2, .int 61] σ2 (some (.int v3), σ3))
    (c4 : RR X d 155 [.int v3, .int 34] σ3 (some (.int v4), σ4))
    (b2 : mi_in x2 80 = true)
    (k1 : TT X d tb157 (some .int) (36, [some (.ref 38), some (.int x1), some (.int x2), some (.int v4), some (.int (σ4.1 61 x2.toNatClampNeg))], [], σ4) r)
    : TT X d tb157 (some .int) (0, [some (.ref 38), some (.int x1), some (.int x2), none, none], [], σ) r := mi_T.go 2 (s1 := (3, [some (.ref 38), some (.int x1), some (.int x2), none, none], [.int 32, .int x1], σ)) rfl <|
      mi_T.call (as := [.int x1, .int 32]) (rest := []) (v := some (.int v1)) rfl rfl rfl rfl rfl (c1) <|
      mi_T.go 3 (s1 := (11, [some (.ref 38), some (.int x1), some (.int x2), none, none], [.int x2, .ref 60, .int v1], σ1)) rfl <|
      mi_T.lj rfl rfl (b1) <|
      mi_T.call (as := [.int v1, .long (σ1.2 60 x2.toNatClampNeg)]) (rest := []) (v := some (.int v2)) rfl rfl rfl rfl rfl (c2) <|
      mi_T.go 3 (s1 := (19, [some (.ref 38), some (.int x1), some (.int x2), some (.int v2), none], [.int 61, .int v2], σ2)) rfl <|
      mi_T.call (as := [.int v2, .int 61]) (rest := []) (v := some (.int v3)) rfl rfl rfl rfl rfl (c3) <|
      mi_T.go 1 (s1 := (24, [some (.ref 38), some (.int x1), some (.int x2), some (.int v2), none], [.int 34, .int v3], σ3)) rfl <|
      mi_T.call (as := [.int v3, .int 34]) (rest := []) (v := some (.int v4)) rfl rfl rfl rfl rfl (c4) <|
      mi_T.go 4 (s1 := (33, [some (.ref 38), some (.int x1), some (.int x2), some (.int v4), none], [.int x2, .ref 61], σ4)) rfl <|
      mi_T.li rfl rfl (b2) <|
      mi_T.go 1 (s1 := (36, [some (.ref 38), some (.int x1), some (.int x2), some (.int v4), some (.int (σ4.1 61 x2.toNatClampNeg))], [], σ4)) rfl <|
      k1

theorem R157_36 {X : Nat × (Nat → Int32)} {d : Nat} {r : mA mG} {σ : mG} {x1 : Int32} {x2 : Int32} {x3 : Int32} {x4 : Int32} {v1 : Int32} {σ1 : mG} {v2 : Int32} {σ2 : mG}
    (b1 : mi_in x2 80 = true)
    (c1 : (σ.1 62 x2.toNatClampNeg) ≤ x4 → RR X d 155 [.int x3, .int 34] σ (some (.int v1), σ1))
    (k1 : (σ.1 62 x2.toNatClampNeg) ≤ x4 → r = (some (.int v1), σ1))
    (b2 : ¬ ((σ.1 62 x2.toNatClampNeg) ≤ x4) → mi_in x4 400 = true)
    (c2 : ¬ ((σ.1 62 x2.toNatClampNeg) ≤ x4) → RR X d 155 [.int x3, .int (σ.1 39 x4.toNatClampNeg)] σ (some (.int v2), σ2))
    (k2 : ¬ ((σ.1 62 x2.toNatClampNeg) ≤ x4) → TT X d tb157 (some .int) (36, [some (.ref 38), some (.int x1), some (.int x2), some (.int v2), some (.int (x4 + 1))], [], σ2) r)
    : TT X d tb157 (some .int) (36, [some (.ref 38), some (.int x1), some (.int x2), some (.int x3), some (.int x4)], [], σ) r := mi_T.go 4 (s1 := (43, [some (.ref 38), some (.int x1), some (.int x2), some (.int x3), some (.int x4)], [.int x2, .ref 62, .int x4], σ)) rfl <|
      mi_T.li rfl rfl (b1) <|
      mi_T.br (P := (σ.1 62 x2.toNatClampNeg) ≤ x4) (fun _ => rfl)
      (fun h1 => mi_T.go 2 (s1 := (68, [some (.ref 38), some (.int x1), some (.int x2), some (.int x3), some (.int x4)], [.int 34, .int x3], σ)) rfl <|
      mi_T.call (as := [.int x3, .int 34]) (rest := []) (v := some (.int v1)) rfl rfl rfl rfl rfl (c1 h1) <|
      mi_T.fin (k1 h1) (fun _ => rfl))
      (fun h1 => mi_T.go 4 (s1 := (54, [some (.ref 38), some (.int x1), some (.int x2), some (.int x3), some (.int x4)], [.int x4, .ref 39, .int x3], σ)) rfl <|
      mi_T.li rfl rfl (b2 h1) <|
      mi_T.call (as := [.int x3, .int (σ.1 39 x4.toNatClampNeg)]) (rest := []) (v := some (.int v2)) rfl rfl rfl rfl rfl (c2 h1) <|
      mi_T.go 3 (s1 := (36, [some (.ref 38), some (.int x1), some (.int x2), some (.int v2), some (.int (x4 + 1))], [], σ2)) rfl <|
      (k2 h1))

-- AssertionGateModel.foldHead(II)I
theorem R158_0 {X : Nat × (Nat → Int32)} {d : Nat} {r : mA mG} {σ : mG} {x1 : Int32} {x2 : Int32} {v1 : Int32} {σ1 : mG} {v2 : Int32} {σ2 : mG}
    (c1 : RR X d 155 [.int x1, .int 60] σ (some (.int v1), σ1))
    (b1 : mi_in x2 20 = true)
    (c2 : RR X d 156 [.int v1, .long (σ1.2 52 x2.toNatClampNeg)] σ1 (some (.int v2), σ2))
    (k1 : TT X d tb158 (some .int) (22, [some (.ref 38), some (.int x1), some (.int x2), some (.int v2), some (.long 0), none, some (.int 0), none, none], [], σ2) r)
    : TT X d tb158 (some .int) (0, [some (.ref 38), some (.int x1), some (.int x2), none, none, none, none, none, none], [], σ) r := mi_T.go 2 (s1 := (3, [some (.ref 38), some (.int x1), some (.int x2), none, none, none, none, none, none], [.int 60, .int x1], σ)) rfl <|
      mi_T.call (as := [.int x1, .int 60]) (rest := []) (v := some (.int v1)) rfl rfl rfl rfl rfl (c1) <|
      mi_T.go 3 (s1 := (11, [some (.ref 38), some (.int x1), some (.int x2), none, none, none, none, none, none], [.int x2, .ref 52, .int v1], σ1)) rfl <|
      mi_T.lj rfl rfl (b1) <|
      mi_T.call (as := [.int v1, .long (σ1.2 52 x2.toNatClampNeg)]) (rest := []) (v := some (.int v2)) rfl rfl rfl rfl rfl (c2) <|
      mi_T.go 5 (s1 := (22, [some (.ref 38), some (.int x1), some (.int x2), some (.int v2), some (.long 0), none, some (.int 0), none, none], [], σ2)) rfl <|
      k1

theorem R158_22 {X : Nat × (Nat → Int32)} {d : Nat} {r : mA mG} {σ : mG} {x1 : Int32} {x2 : Int32} {x3 : Int32} {y4 : Int64} {x6 : Int32} {u7 : Option Value} {u8 : Option Value} {v1 : Int32} {σ1 : mG}
    (b1 : mi_in x2 20 = true)
    (c1 : (σ.1 59 x2.toNatClampNeg) ≤ x6 → RR X d 155 [.int x3, .int 62] σ (some (.int v1), σ1))
    (k1 : (σ.1 59 x2.toNatClampNeg) ≤ x6 → r = (some (.int v1), σ1))
    (k2 : ¬ ((σ.1 59 x2.toNatClampNeg) ≤ x6) → TT X d tb158 (some .int) (41, [some (.ref 38), some (.int x1), some (.int x2), some (.int x3), some (.long y4), none, some (.int x6), some (.int (-1)), some (.int (4 * x2))], [], σ) r)
    : TT X d tb158 (some .int) (22, [some (.ref 38), some (.int x1), some (.int x2), some (.int x3), some (.long y4), none, some (.int x6), u7, u8], [], σ) r := mi_T.go 4 (s1 := (29, [some (.ref 38), some (.int x1), some (.int x2), some (.int x3), some (.long y4), none, some (.int x6), u7, u8], [.int x2, .ref 59, .int x6], σ)) rfl <|
      mi_T.li rfl rfl (b1) <|
      mi_T.br (P := (σ.1 59 x2.toNatClampNeg) ≤ x6) (fun _ => rfl)
      (fun h1 => mi_T.go 2 (s1 := (138, [some (.ref 38), some (.int x1), some (.int x2), some (.int x3), some (.long y4), none, some (.int x6), u7, u8], [.int 62, .int x3], σ)) rfl <|
      mi_T.call (as := [.int x3, .int 62]) (rest := []) (v := some (.int v1)) rfl rfl rfl rfl rfl (c1 h1) <|
      mi_T.fin (k1 h1) (fun _ => rfl))
      (fun h1 => mi_T.go 6 (s1 := (41, [some (.ref 38), some (.int x1), some (.int x2), some (.int x3), some (.long y4), none, some (.int x6), some (.int (-1)), some (.int (4 * x2))], [], σ)) rfl <|
      (k2 h1))

theorem R158_41 {X : Nat × (Nat → Int32)} {d : Nat} {r : mA mG} {σ : mG} {x1 : Int32} {x2 : Int32} {x3 : Int32} {y4 : Int64} {x6 : Int32} {x7 : Int32} {x8 : Int32} {v1 : Int32} {σ1 : mG}
    (b1 : mi_in x2 20 = true)
    (k1 : ((4 * x2) + (σ.1 59 x2.toNatClampNeg)) ≤ x8 → x7 < 0 → TT X d tb158 (some .int) (22, [some (.ref 38), some (.int x1), some (.int x2), some (.int x3), some (.long y4), none, some (.int (x6 + 1)), some (.int x7), some (.int x8)], [], σ) r)
    (c1 : ((4 * x2) + (σ.1 59 x2.toNatClampNeg)) ≤ x8 → ¬ (x7 < 0) → RR X d 157 [.ref 38, .int x3, .int x7] σ (some (.int v1), σ1))
    (b2 : ((4 * x2) + (σ.1 59 x2.toNatClampNeg)) ≤ x8 → ¬ (x7 < 0) → mi_in x7 80 = true)
    (k2 : ((4 * x2) + (σ.1 59 x2.toNatClampNeg)) ≤ x8 → ¬ (x7 < 0) → TT X d tb158 (some .int) (22, [some (.ref 38), some (.int x1), some (.int x2), some (.int v1), some (.long (σ1.2 60 x7.toNatClampNeg)), none, some (.int (x6 + 1)), some (.int x7), some (.int x8)], [], σ1) r)
    (b3 : ¬ (((4 * x2) + (σ.1 59 x2.toNatClampNeg)) ≤ x8) → mi_in x8 80 = true)
    (k3 : ¬ (((4 * x2) + (σ.1 59 x2.toNatClampNeg)) ≤ x8) → (lg_cmp (σ.2 60 x8.toNatClampNeg) y4) ≤ 0 → TT X d tb158 (some .int) (41, [some (.ref 38), some (.int x1), some (.int x2), some (.int x3), some (.long y4), none, some (.int x6), some (.int x7), some (.int (x8 + 1))], [], σ) r)
    (k4 : ¬ (((4 * x2) + (σ.1 59 x2.toNatClampNeg)) ≤ x8) → ¬ ((lg_cmp (σ.2 60 x8.toNatClampNeg) y4) ≤ 0) → x7 < 0 → TT X d tb158 (some .int) (41, [some (.ref 38), some (.int x1), some (.int x2), some (.int x3), some (.long y4), none, some (.int x6), some (.int x8), some (.int (x8 + 1))], [], σ) r)
    (b4 : ¬ (((4 * x2) + (σ.1 59 x2.toNatClampNeg)) ≤ x8) → ¬ ((lg_cmp (σ.2 60 x8.toNatClampNeg) y4) ≤ 0) → ¬ (x7 < 0) → mi_in x8 80 = true)
    (b5 : ¬ (((4 * x2) + (σ.1 59 x2.toNatClampNeg)) ≤ x8) → ¬ ((lg_cmp (σ.2 60 x8.toNatClampNeg) y4) ≤ 0) → ¬ (x7 < 0) → mi_in x7 80 = true)
    (k5 : ¬ (((4 * x2) + (σ.1 59 x2.toNatClampNeg)) ≤ x8) → ¬ ((lg_cmp (σ.2 60 x8.toNatClampNeg) y4) ≤ 0) → ¬ (x7 < 0) → 0 ≤ (lg_cmp (σ.2 60 x8.toNatClampNeg) (σ.2 60 x7.toNatClampNeg)) → TT X d tb158 (some .int) (41, [some (.ref 38), some (.int x1), some (.int x2), some (.int x3), some (.long y4), none, some (.int x6), some (.int x7), some (.int (x8 + 1))], [], σ) r)
    (k6 : ¬ (((4 * x2) + (σ.1 59 x2.toNatClampNeg)) ≤ x8) → ¬ ((lg_cmp (σ.2 60 x8.toNatClampNeg) y4) ≤ 0) → ¬ (x7 < 0) → ¬ (0 ≤ (lg_cmp (σ.2 60 x8.toNatClampNeg) (σ.2 60 x7.toNatClampNeg))) → TT X d tb158 (some .int) (41, [some (.ref 38), some (.int x1), some (.int x2), some (.int x3), some (.long y4), none, some (.int x6), some (.int x8), some (.int (x8 + 1))], [], σ) r)
    : TT X d tb158 (some .int) (41, [some (.ref 38), some (.int x1), some (.int x2), some (.int x3), some (.long y4), none, some (.int x6), some (.int x7), some (.int x8)], [], σ) r := mi_T.go 7 (s1 := (51, [some (.ref 38), some (.int x1), some (.int x2), some (.int x3), some (.long y4), none, some (.int x6), some (.int x7), some (.int x8)], [.int x2, .ref 59, .int (4 * x2), .int x8], σ)) rfl <|
      mi_T.li rfl rfl (b1) <|
      mi_T.go 1 (s1 := (53, [some (.ref 38), some (.int x1), some (.int x2), some (.int x3), some (.long y4), none, some (.int x6), some (.int x7), some (.int x8)], [.int ((4 * x2) + (σ.1 59 x2.toNatClampNeg)), .int x8], σ)) rfl <|
      mi_T.br (P := ((4 * x2) + (σ.1 59 x2.toNatClampNeg)) ≤ x8) (fun _ => rfl)
      (fun h1 => mi_T.go 1 (s1 := (109, [some (.ref 38), some (.int x1), some (.int x2), some (.int x3), some (.long y4), none, some (.int x6), some (.int x7), some (.int x8)], [.int x7], σ)) rfl <|
      mi_T.br (P := x7 < 0) (fun _ => rfl)
      (fun h2 => mi_T.go 2 (s1 := (22, [some (.ref 38), some (.int x1), some (.int x2), some (.int x3), some (.long y4), none, some (.int (x6 + 1)), some (.int x7), some (.int x8)], [], σ)) rfl <|
      (k1 h1 h2))
      (fun h2 => mi_T.go 3 (s1 := (116, [some (.ref 38), some (.int x1), some (.int x2), some (.int x3), some (.long y4), none, some (.int x6), some (.int x7), some (.int x8)], [.int x7, .int x3, .ref 38], σ)) rfl <|
      mi_T.call (as := [.ref 38, .int x3, .int x7]) (rest := []) (v := some (.int v1)) rfl rfl rfl rfl rfl (c1 h1 h2) <|
      mi_T.go 4 (s1 := (126, [some (.ref 38), some (.int x1), some (.int x2), some (.int v1), some (.long y4), none, some (.int x6), some (.int x7), some (.int x8)], [.int x7, .ref 60], σ1)) rfl <|
      mi_T.lj rfl rfl (b2 h1 h2) <|
      mi_T.go 3 (s1 := (22, [some (.ref 38), some (.int x1), some (.int x2), some (.int v1), some (.long (σ1.2 60 x7.toNatClampNeg)), none, some (.int (x6 + 1)), some (.int x7), some (.int x8)], [], σ1)) rfl <|
      (k2 h1 h2)))
      (fun h1 => mi_T.go 3 (s1 := (62, [some (.ref 38), some (.int x1), some (.int x2), some (.int x3), some (.long y4), none, some (.int x6), some (.int x7), some (.int x8)], [.int x8, .ref 60], σ)) rfl <|
      mi_T.lj rfl rfl (b3 h1) <|
      mi_T.go 2 (s1 := (66, [some (.ref 38), some (.int x1), some (.int x2), some (.int x3), some (.long y4), none, some (.int x6), some (.int x7), some (.int x8)], [.int (lg_cmp (σ.2 60 x8.toNatClampNeg) y4)], σ)) rfl <|
      mi_T.br (P := (lg_cmp (σ.2 60 x8.toNatClampNeg) y4) ≤ 0) (fun _ => rfl)
      (fun h2 => mi_T.go 4 (s1 := (41, [some (.ref 38), some (.int x1), some (.int x2), some (.int x3), some (.long y4), none, some (.int x6), some (.int x7), some (.int (x8 + 1))], [], σ)) rfl <|
      (k3 h1 h2))
      (fun h2 => mi_T.go 1 (s1 := (71, [some (.ref 38), some (.int x1), some (.int x2), some (.int x3), some (.long y4), none, some (.int x6), some (.int x7), some (.int x8)], [.int x7], σ)) rfl <|
      mi_T.br (P := x7 < 0) (fun _ => rfl)
      (fun h3 => mi_T.go 5 (s1 := (41, [some (.ref 38), some (.int x1), some (.int x2), some (.int x3), some (.long y4), none, some (.int x6), some (.int x8), some (.int (x8 + 1))], [], σ)) rfl <|
      (k4 h1 h2 h3))
      (fun h3 => mi_T.go 3 (s1 := (80, [some (.ref 38), some (.int x1), some (.int x2), some (.int x3), some (.long y4), none, some (.int x6), some (.int x7), some (.int x8)], [.int x8, .ref 60], σ)) rfl <|
      mi_T.lj rfl rfl (b4 h1 h2 h3) <|
      mi_T.go 3 (s1 := (87, [some (.ref 38), some (.int x1), some (.int x2), some (.int x3), some (.long y4), none, some (.int x6), some (.int x7), some (.int x8)], [.int x7, .ref 60, .long (σ.2 60 x8.toNatClampNeg)], σ)) rfl <|
      mi_T.lj rfl rfl (b5 h1 h2 h3) <|
      mi_T.go 1 (s1 := (89, [some (.ref 38), some (.int x1), some (.int x2), some (.int x3), some (.long y4), none, some (.int x6), some (.int x7), some (.int x8)], [.int (lg_cmp (σ.2 60 x8.toNatClampNeg) (σ.2 60 x7.toNatClampNeg))], σ)) rfl <|
      mi_T.br (P := 0 ≤ (lg_cmp (σ.2 60 x8.toNatClampNeg) (σ.2 60 x7.toNatClampNeg))) (fun _ => rfl)
      (fun h4 => mi_T.go 4 (s1 := (41, [some (.ref 38), some (.int x1), some (.int x2), some (.int x3), some (.long y4), none, some (.int x6), some (.int x7), some (.int (x8 + 1))], [], σ)) rfl <|
      (k5 h1 h2 h3 h4))
      (fun h4 => mi_T.go 5 (s1 := (41, [some (.ref 38), some (.int x1), some (.int x2), some (.int x3), some (.long y4), none, some (.int x6), some (.int x8), some (.int (x8 + 1))], [], σ)) rfl <|
      (k6 h1 h2 h3 h4)))))

-- AssertionGateModel.foldTail(II)I
theorem R159_0 {X : Nat × (Nat → Int32)} {d : Nat} {r : mA mG} {σ : mG} {x1 : Int32} {x2 : Int32} {v1 : Int32} {σ1 : mG} {v2 : Int32} {σ2 : mG} {v3 : Int32} {σ3 : mG} {v4 : Int32} {σ4 : mG}
    (c1 : RR X d 155 [.int x1, .int 60] σ (some (.int v1), σ1))
    (c2 : RR X d 155 [.int v1, .int 47] σ1 (some (.int v2), σ2))
    (b1 : mi_in x2 20 = true)
    (c3 : RR X d 156 [.int v2, .long (σ2.2 52 x2.toNatClampNeg)] σ2 (some (.int v3), σ3))
    (c4 : RR X d 155 [.int v3, .int 62] σ3 (some (.int v4), σ4))
    (k1 : r = (some (.int v4), σ4))
    : TT X d tb159 (some .int) (0, [some (.ref 38), some (.int x1), some (.int x2), none], [], σ) r := mi_T.go 2 (s1 := (3, [some (.ref 38), some (.int x1), some (.int x2), none], [.int 60, .int x1], σ)) rfl <|
      mi_T.call (as := [.int x1, .int 60]) (rest := []) (v := some (.int v1)) rfl rfl rfl rfl rfl (c1) <|
      mi_T.go 1 (s1 := (8, [some (.ref 38), some (.int x1), some (.int x2), none], [.int 47, .int v1], σ1)) rfl <|
      mi_T.call (as := [.int v1, .int 47]) (rest := []) (v := some (.int v2)) rfl rfl rfl rfl rfl (c2) <|
      mi_T.go 5 (s1 := (18, [some (.ref 38), some (.int x1), some (.int x2), some (.int v2)], [.int x2, .ref 52, .int v2], σ2)) rfl <|
      mi_T.lj rfl rfl (b1) <|
      mi_T.call (as := [.int v2, .long (σ2.2 52 x2.toNatClampNeg)]) (rest := []) (v := some (.int v3)) rfl rfl rfl rfl rfl (c3) <|
      mi_T.go 1 (s1 := (24, [some (.ref 38), some (.int x1), some (.int x2), some (.int v2)], [.int 62, .int v3], σ3)) rfl <|
      mi_T.call (as := [.int v3, .int 62]) (rest := []) (v := some (.int v4)) rfl rfl rfl rfl rfl (c4) <|
      mi_T.fin (k1) (fun _ => rfl)

-- AssertionGateModel.elementAt(IZ)I
theorem R160_0 {X : Nat × (Nat → Int32)} {d : Nat} {r : mA mG} {σ : mG} {x1 : Int32} {x2 : Int32}
    (k1 : TT X d tb160 (some .int) (5, [some (.ref 38), some (.int x1), some (.int x2), some (.int (-1)), some (.int 0)], [], σ) r)
    : TT X d tb160 (some .int) (0, [some (.ref 38), some (.int x1), some (.int x2), none, none], [], σ) r := mi_T.go 4 (s1 := (5, [some (.ref 38), some (.int x1), some (.int x2), some (.int (-1)), some (.int 0)], [], σ)) rfl <|
      k1

theorem R160_5 {X : Nat × (Nat → Int32)} {d : Nat} {r : mA mG} {σ : mG} {x1 : Int32} {x2 : Int32} {x3 : Int32} {x4 : Int32}
    (k1 : (σ.1 38 22) ≤ x4 → r = (some (.int x3), σ))
    (b1 : ¬ ((σ.1 38 22) ≤ x4) → x2 = 0 → mi_in x4 20 = true)
    (k2 : ¬ ((σ.1 38 22) ≤ x4) → x2 = 0 → ¬ (σ.1 54 x4.toNatClampNeg) = x1 → TT X d tb160 (some .int) (5, [some (.ref 38), some (.int x1), some (.int x2), some (.int x3), some (.int (x4 + 1))], [], σ) r)
    (k3 : ¬ ((σ.1 38 22) ≤ x4) → x2 = 0 → ¬ (¬ (σ.1 54 x4.toNatClampNeg) = x1) → TT X d tb160 (some .int) (5, [some (.ref 38), some (.int x1), some (.int x2), some (.int x4), some (.int (x4 + 1))], [], σ) r)
    (b2 : ¬ ((σ.1 38 22) ≤ x4) → ¬ (x2 = 0) → mi_in x4 20 = true)
    (k4 : ¬ ((σ.1 38 22) ≤ x4) → ¬ (x2 = 0) → ¬ (σ.1 56 x4.toNatClampNeg) = x1 → TT X d tb160 (some .int) (5, [some (.ref 38), some (.int x1), some (.int x2), some (.int x3), some (.int (x4 + 1))], [], σ) r)
    (b3 : ¬ ((σ.1 38 22) ≤ x4) → ¬ (x2 = 0) → ¬ (¬ (σ.1 56 x4.toNatClampNeg) = x1) → mi_in x4 20 = true)
    (k5 : ¬ ((σ.1 38 22) ≤ x4) → ¬ (x2 = 0) → ¬ (¬ (σ.1 56 x4.toNatClampNeg) = x1) → ¬ (σ.1 58 x4.toNatClampNeg) = 0 → TT X d tb160 (some .int) (5, [some (.ref 38), some (.int x1), some (.int x2), some (.int x3), some (.int (x4 + 1))], [], σ) r)
    (k6 : ¬ ((σ.1 38 22) ≤ x4) → ¬ (x2 = 0) → ¬ (¬ (σ.1 56 x4.toNatClampNeg) = x1) → ¬ (¬ (σ.1 58 x4.toNatClampNeg) = 0) → TT X d tb160 (some .int) (5, [some (.ref 38), some (.int x1), some (.int x2), some (.int x4), some (.int (x4 + 1))], [], σ) r)
    : TT X d tb160 (some .int) (5, [some (.ref 38), some (.int x1), some (.int x2), some (.int x3), some (.int x4)], [], σ) r := mi_T.go 3 (s1 := (11, [some (.ref 38), some (.int x1), some (.int x2), some (.int x3), some (.int x4)], [.int (σ.1 38 22), .int x4], σ)) rfl <|
      mi_T.br (P := (σ.1 38 22) ≤ x4) (fun _ => rfl)
      (fun h1 => mi_T.go 1 (s1 := (73, [some (.ref 38), some (.int x1), some (.int x2), some (.int x3), some (.int x4)], [.int x3], σ)) rfl <|
      mi_T.fin (k1 h1) (fun _ => rfl))
      (fun h1 => mi_T.go 1 (s1 := (15, [some (.ref 38), some (.int x1), some (.int x2), some (.int x3), some (.int x4)], [.int x2], σ)) rfl <|
      mi_T.br (P := x2 = 0) (fun _ => rfl)
      (fun h2 => mi_T.go 3 (s1 := (54, [some (.ref 38), some (.int x1), some (.int x2), some (.int x3), some (.int x4)], [.int x4, .ref 54], σ)) rfl <|
      mi_T.li rfl rfl (b1 h1 h2) <|
      mi_T.go 1 (s1 := (56, [some (.ref 38), some (.int x1), some (.int x2), some (.int x3), some (.int x4)], [.int x1, .int (σ.1 54 x4.toNatClampNeg)], σ)) rfl <|
      mi_T.br (P := ¬ (σ.1 54 x4.toNatClampNeg) = x1) (fun _ => rfl)
      (fun h3 => mi_T.go 4 (s1 := (5, [some (.ref 38), some (.int x1), some (.int x2), some (.int x3), some (.int (x4 + 1))], [], σ)) rfl <|
      (k2 h1 h2 h3))
      (fun h3 => mi_T.go 5 (s1 := (5, [some (.ref 38), some (.int x1), some (.int x2), some (.int x4), some (.int (x4 + 1))], [], σ)) rfl <|
      (k3 h1 h2 h3)))
      (fun h2 => mi_T.go 3 (s1 := (24, [some (.ref 38), some (.int x1), some (.int x2), some (.int x3), some (.int x4)], [.int x4, .ref 56], σ)) rfl <|
      mi_T.li rfl rfl (b2 h1 h2) <|
      mi_T.go 1 (s1 := (26, [some (.ref 38), some (.int x1), some (.int x2), some (.int x3), some (.int x4)], [.int x1, .int (σ.1 56 x4.toNatClampNeg)], σ)) rfl <|
      mi_T.br (P := ¬ (σ.1 56 x4.toNatClampNeg) = x1) (fun _ => rfl)
      (fun h3 => mi_T.go 5 (s1 := (5, [some (.ref 38), some (.int x1), some (.int x2), some (.int x3), some (.int (x4 + 1))], [], σ)) rfl <|
      (k4 h1 h2 h3))
      (fun h3 => mi_T.go 3 (s1 := (35, [some (.ref 38), some (.int x1), some (.int x2), some (.int x3), some (.int x4)], [.int x4, .ref 58], σ)) rfl <|
      mi_T.lz rfl rfl (b3 h1 h2 h3) <|
      mi_T.br (P := ¬ (σ.1 58 x4.toNatClampNeg) = 0) (fun _ => rfl)
      (fun h4 => mi_T.go 5 (s1 := (5, [some (.ref 38), some (.int x1), some (.int x2), some (.int x3), some (.int (x4 + 1))], [], σ)) rfl <|
      (k5 h1 h2 h3 h4))
      (fun h4 => mi_T.go 5 (s1 := (5, [some (.ref 38), some (.int x1), some (.int x2), some (.int x4), some (.int (x4 + 1))], [], σ)) rfl <|
      (k6 h1 h2 h3 h4)))))

-- AssertionGateModel.digestOf(I)I
set_option maxRecDepth 100000 in
theorem R161_0 {X : Nat × (Nat → Int32)} {d : Nat} {r : mA mG} {σ : mG} {x1 : Int32} {v1 : Int32} {σ1 : mG}
    (c1 : RR X d 158 [.ref 38, .int 0, .int x1] σ (some (.int v1), σ1))
    (b1 : mi_in x1 20 = true)
    (k1 : TT X d tb161 (some .int) (17, [some (.ref 38), some (.int x1), some (.int v1), some (.int (σ1.1 55 x1.toNatClampNeg)), some (.int 0), none, none], [], σ1) r)
    : TT X d tb161 (some .int) (0, [some (.ref 38), some (.int x1), none, none, none, none, none], [], σ) r := mi_T.go 3 (s1 := (3, [some (.ref 38), some (.int x1), none, none, none, none, none], [.int x1, .int 0, .ref 38], σ)) rfl <|
      mi_T.call (as := [.ref 38, .int 0, .int x1]) (rest := []) (v := some (.int v1)) rfl rfl rfl rfl rfl (c1) <|
      mi_T.go 4 (s1 := (12, [some (.ref 38), some (.int x1), some (.int v1), none, none, none, none], [.int x1, .ref 55], σ1)) rfl <|
      mi_T.li rfl rfl (b1) <|
      mi_T.go 3 (s1 := (17, [some (.ref 38), some (.int x1), some (.int v1), some (.int (σ1.1 55 x1.toNatClampNeg)), some (.int 0), none, none], [], σ1)) rfl <|
      k1

set_option maxRecDepth 100000 in
theorem R161_17 {X : Nat × (Nat → Int32)} {d : Nat} {r : mA mG} {σ : mG} {x1 : Int32} {x2 : Int32} {x3 : Int32} {x4 : Int32} {u5 : Option Value} {u6 : Option Value} {v1 : Int32} {σ1 : mG} {v2 : Int32} {σ2 : mG} {v3 : Int32} {σ3 : mG} {v4 : Int32} {σ4 : mG} {v5 : Int32} {σ5 : mG}
    (k1 : 500 ≤ x4 → TT X d tb161 (some .int) (238, [some (.ref 38), some (.int x1), some (.int x2), some (.int x3), some (.int x4), u5, u6], [], σ) r)
    (b1 : ¬ (500 ≤ x4) → mi_in x1 20 = true)
    (k2 : ¬ (500 ≤ x4) → (σ.1 56 x1.toNatClampNeg) ≤ x3 → TT X d tb161 (some .int) (238, [some (.ref 38), some (.int x1), some (.int x2), some (.int x3), some (.int x4), u5, u6], [], σ) r)
    (b2 : ¬ (500 ≤ x4) → ¬ ((σ.1 56 x1.toNatClampNeg) ≤ x3) → mi_in x3 400 = true)
    (b3 : ¬ (500 ≤ x4) → ¬ ((σ.1 56 x1.toNatClampNeg) ≤ x3) → (σ.1 39 x3.toNatClampNeg) = 60 → mi_in (x3 + 1) 400 = true)
    (b4 : ¬ (500 ≤ x4) → ¬ ((σ.1 56 x1.toNatClampNeg) ≤ x3) → (σ.1 39 x3.toNatClampNeg) = 60 → ¬ (σ.1 39 ((x3 + 1).toNatClampNeg)) = 33 → mi_in (x3 + 1) 400 = true)
    (c1 : ¬ (500 ≤ x4) → ¬ ((σ.1 56 x1.toNatClampNeg) ≤ x3) → (σ.1 39 x3.toNatClampNeg) = 60 → ¬ (σ.1 39 ((x3 + 1).toNatClampNeg)) = 33 → ¬ (σ.1 39 ((x3 + 1).toNatClampNeg)) = 47 → RR X d 160 [.ref 38, .int x3, .int 0] σ (some (.int v1), σ1))
    (b5 : ¬ (500 ≤ x4) → ¬ ((σ.1 56 x1.toNatClampNeg) ≤ x3) → (σ.1 39 x3.toNatClampNeg) = 60 → ¬ (σ.1 39 ((x3 + 1).toNatClampNeg)) = 33 → ¬ (σ.1 39 ((x3 + 1).toNatClampNeg)) = 47 → mi_in v1 20 = true)
    (k3 : ¬ (500 ≤ x4) → ¬ ((σ.1 56 x1.toNatClampNeg) ≤ x3) → (σ.1 39 x3.toNatClampNeg) = 60 → ¬ (σ.1 39 ((x3 + 1).toNatClampNeg)) = 33 → ¬ (σ.1 39 ((x3 + 1).toNatClampNeg)) = 47 → ¬ (σ1.1 53 v1.toNatClampNeg) = x1 → TT X d tb161 (some .int) (162, [some (.ref 38), some (.int x1), some (.int x2), some (.int x3), some (.int x4), some (.int v1), u6], [], σ1) r)
    (b6 : ¬ (500 ≤ x4) → ¬ ((σ.1 56 x1.toNatClampNeg) ≤ x3) → (σ.1 39 x3.toNatClampNeg) = 60 → ¬ (σ.1 39 ((x3 + 1).toNatClampNeg)) = 33 → ¬ (σ.1 39 ((x3 + 1).toNatClampNeg)) = 47 → ¬ (¬ (σ1.1 53 v1.toNatClampNeg) = x1) → mi_in v1 20 = true)
    (k4 : ¬ (500 ≤ x4) → ¬ ((σ.1 56 x1.toNatClampNeg) ≤ x3) → (σ.1 39 x3.toNatClampNeg) = 60 → ¬ (σ.1 39 ((x3 + 1).toNatClampNeg)) = 33 → ¬ (σ.1 39 ((x3 + 1).toNatClampNeg)) = 47 → ¬ (¬ (σ1.1 53 v1.toNatClampNeg) = x1) → ¬ (lg_cmp (σ1.2 52 v1.toNatClampNeg) 126896536813568) = 0 → TT X d tb161 (some .int) (162, [some (.ref 38), some (.int x1), some (.int x2), some (.int x3), some (.int x4), some (.int v1), u6], [], σ1) r)
    (k5 : ¬ (500 ≤ x4) → ¬ ((σ.1 56 x1.toNatClampNeg) ≤ x3) → (σ.1 39 x3.toNatClampNeg) = 60 → ¬ (σ.1 39 ((x3 + 1).toNatClampNeg)) = 33 → ¬ (σ.1 39 ((x3 + 1).toNatClampNeg)) = 47 → ¬ (¬ (σ1.1 53 v1.toNatClampNeg) = x1) → ¬ (¬ (lg_cmp (σ1.2 52 v1.toNatClampNeg) 126896536813568) = 0) → TT X d tb161 (some .int) (163, [some (.ref 38), some (.int x1), some (.int x2), some (.int x3), some (.int x4), some (.int v1), u6], [.int 1], σ1) r)
    (c2 : ¬ (500 ≤ x4) → ¬ ((σ.1 56 x1.toNatClampNeg) ≤ x3) → (σ.1 39 x3.toNatClampNeg) = 60 → ¬ (σ.1 39 ((x3 + 1).toNatClampNeg)) = 33 → ¬ (¬ (σ.1 39 ((x3 + 1).toNatClampNeg)) = 47) → RR X d 160 [.ref 38, .int x3, .int 1] σ (some (.int v2), σ2))
    (c3 : ¬ (500 ≤ x4) → ¬ ((σ.1 56 x1.toNatClampNeg) ≤ x3) → (σ.1 39 x3.toNatClampNeg) = 60 → ¬ (σ.1 39 ((x3 + 1).toNatClampNeg)) = 33 → ¬ (¬ (σ.1 39 ((x3 + 1).toNatClampNeg)) = 47) → RR X d 159 [.ref 38, .int x2, .int v2] σ2 (some (.int v3), σ3))
    (b7 : ¬ (500 ≤ x4) → ¬ ((σ.1 56 x1.toNatClampNeg) ≤ x3) → (σ.1 39 x3.toNatClampNeg) = 60 → ¬ (σ.1 39 ((x3 + 1).toNatClampNeg)) = 33 → ¬ (¬ (σ.1 39 ((x3 + 1).toNatClampNeg)) = 47) → mi_in v2 20 = true)
    (k6 : ¬ (500 ≤ x4) → ¬ ((σ.1 56 x1.toNatClampNeg) ≤ x3) → (σ.1 39 x3.toNatClampNeg) = 60 → ¬ (σ.1 39 ((x3 + 1).toNatClampNeg)) = 33 → ¬ (¬ (σ.1 39 ((x3 + 1).toNatClampNeg)) = 47) → TT X d tb161 (some .int) (232, [some (.ref 38), some (.int x1), some (.int v3), some (.int (σ3.1 57 v2.toNatClampNeg)), some (.int x4), some (.int v2), u6], [], σ3) r)
    (c4 : ¬ (500 ≤ x4) → ¬ ((σ.1 56 x1.toNatClampNeg) ≤ x3) → (σ.1 39 x3.toNatClampNeg) = 60 → ¬ (¬ (σ.1 39 ((x3 + 1).toNatClampNeg)) = 33) → RR X d 150 [.ref 38, .int x3] σ (some (.int v4), σ4))
    (k7 : ¬ (500 ≤ x4) → ¬ ((σ.1 56 x1.toNatClampNeg) ≤ x3) → (σ.1 39 x3.toNatClampNeg) = 60 → ¬ (¬ (σ.1 39 ((x3 + 1).toNatClampNeg)) = 33) → TT X d tb161 (some .int) (232, [some (.ref 38), some (.int x1), some (.int x2), some (.int v4), some (.int x4), u5, u6], [], σ4) r)
    (b8 : ¬ (500 ≤ x4) → ¬ ((σ.1 56 x1.toNatClampNeg) ≤ x3) → ¬ ((σ.1 39 x3.toNatClampNeg) = 60) → mi_in x3 400 = true)
    (c5 : ¬ (500 ≤ x4) → ¬ ((σ.1 56 x1.toNatClampNeg) ≤ x3) → ¬ ((σ.1 39 x3.toNatClampNeg) = 60) → RR X d 155 [.int x2, .int (σ.1 39 x3.toNatClampNeg)] σ (some (.int v5), σ5))
    (k8 : ¬ (500 ≤ x4) → ¬ ((σ.1 56 x1.toNatClampNeg) ≤ x3) → ¬ ((σ.1 39 x3.toNatClampNeg) = 60) → TT X d tb161 (some .int) (232, [some (.ref 38), some (.int x1), some (.int v5), some (.int (x3 + 1)), some (.int x4), u5, u6], [], σ5) r)
    : TT X d tb161 (some .int) (17, [some (.ref 38), some (.int x1), some (.int x2), some (.int x3), some (.int x4), u5, u6], [], σ) r := mi_T.go 2 (s1 := (22, [some (.ref 38), some (.int x1), some (.int x2), some (.int x3), some (.int x4), u5, u6], [.int 500, .int x4], σ)) rfl <|
      mi_T.br (P := 500 ≤ x4) (fun _ => rfl)
      (fun h1 => (k1 h1))
      (fun h1 => mi_T.go 4 (s1 := (31, [some (.ref 38), some (.int x1), some (.int x2), some (.int x3), some (.int x4), u5, u6], [.int x1, .ref 56, .int x3], σ)) rfl <|
      mi_T.li rfl rfl (b1 h1) <|
      mi_T.br (P := (σ.1 56 x1.toNatClampNeg) ≤ x3) (fun _ => rfl)
      (fun h2 => (k2 h1 h2))
      (fun h2 => mi_T.go 3 (s1 := (40, [some (.ref 38), some (.int x1), some (.int x2), some (.int x3), some (.int x4), u5, u6], [.int x3, .ref 39], σ)) rfl <|
      mi_T.li rfl rfl (b2 h1 h2) <|
      mi_T.go 1 (s1 := (43, [some (.ref 38), some (.int x1), some (.int x2), some (.int x3), some (.int x4), u5, u6], [.int 60, .int (σ.1 39 x3.toNatClampNeg)], σ)) rfl <|
      mi_T.br (P := (σ.1 39 x3.toNatClampNeg) = 60) (fun _ => rfl)
      (fun h3 => mi_T.go 5 (s1 := (70, [some (.ref 38), some (.int x1), some (.int x2), some (.int x3), some (.int x4), u5, u6], [.int (x3 + 1), .ref 39], σ)) rfl <|
      mi_T.li rfl rfl (b3 h1 h2 h3) <|
      mi_T.go 1 (s1 := (73, [some (.ref 38), some (.int x1), some (.int x2), some (.int x3), some (.int x4), u5, u6], [.int 33, .int (σ.1 39 ((x3 + 1).toNatClampNeg))], σ)) rfl <|
      mi_T.br (P := ¬ (σ.1 39 ((x3 + 1).toNatClampNeg)) = 33) (fun _ => rfl)
      (fun h4 => mi_T.go 5 (s1 := (92, [some (.ref 38), some (.int x1), some (.int x2), some (.int x3), some (.int x4), u5, u6], [.int (x3 + 1), .ref 39], σ)) rfl <|
      mi_T.li rfl rfl (b4 h1 h2 h3 h4) <|
      mi_T.go 1 (s1 := (95, [some (.ref 38), some (.int x1), some (.int x2), some (.int x3), some (.int x4), u5, u6], [.int 47, .int (σ.1 39 ((x3 + 1).toNatClampNeg))], σ)) rfl <|
      mi_T.br (P := ¬ (σ.1 39 ((x3 + 1).toNatClampNeg)) = 47) (fun _ => rfl)
      (fun h5 => mi_T.go 3 (s1 := (128, [some (.ref 38), some (.int x1), some (.int x2), some (.int x3), some (.int x4), u5, u6], [.int 0, .int x3, .ref 38], σ)) rfl <|
      mi_T.call (as := [.ref 38, .int x3, .int 0]) (rest := []) (v := some (.int v1)) rfl rfl rfl rfl rfl (c1 h1 h2 h3 h4 h5) <|
      mi_T.go 4 (s1 := (139, [some (.ref 38), some (.int x1), some (.int x2), some (.int x3), some (.int x4), some (.int v1), u6], [.int v1, .ref 53], σ1)) rfl <|
      mi_T.li rfl rfl (b5 h1 h2 h3 h4 h5) <|
      mi_T.go 1 (s1 := (141, [some (.ref 38), some (.int x1), some (.int x2), some (.int x3), some (.int x4), some (.int v1), u6], [.int x1, .int (σ1.1 53 v1.toNatClampNeg)], σ1)) rfl <|
      mi_T.br (P := ¬ (σ1.1 53 v1.toNatClampNeg) = x1) (fun _ => rfl)
      (fun h6 => (k3 h1 h2 h3 h4 h5 h6))
      (fun h6 => mi_T.go 3 (s1 := (150, [some (.ref 38), some (.int x1), some (.int x2), some (.int x3), some (.int x4), some (.int v1), u6], [.int v1, .ref 52], σ1)) rfl <|
      mi_T.lj rfl rfl (b6 h1 h2 h3 h4 h5 h6) <|
      mi_T.go 2 (s1 := (155, [some (.ref 38), some (.int x1), some (.int x2), some (.int x3), some (.int x4), some (.int v1), u6], [.int (lg_cmp (σ1.2 52 v1.toNatClampNeg) 126896536813568)], σ1)) rfl <|
      mi_T.br (P := ¬ (lg_cmp (σ1.2 52 v1.toNatClampNeg) 126896536813568) = 0) (fun _ => rfl)
      (fun h7 => (k4 h1 h2 h3 h4 h5 h6 h7))
      (fun h7 => mi_T.go 2 (s1 := (163, [some (.ref 38), some (.int x1), some (.int x2), some (.int x3), some (.int x4), some (.int v1), u6], [.int 1], σ1)) rfl <|
      (k5 h1 h2 h3 h4 h5 h6 h7))))
      (fun h5 => mi_T.go 3 (s1 := (101, [some (.ref 38), some (.int x1), some (.int x2), some (.int x3), some (.int x4), u5, u6], [.int 1, .int x3, .ref 38], σ)) rfl <|
      mi_T.call (as := [.ref 38, .int x3, .int 1]) (rest := []) (v := some (.int v2)) rfl rfl rfl rfl rfl (c2 h1 h2 h3 h4 h5) <|
      mi_T.go 4 (s1 := (110, [some (.ref 38), some (.int x1), some (.int x2), some (.int x3), some (.int x4), some (.int v2), u6], [.int v2, .int x2, .ref 38], σ2)) rfl <|
      mi_T.call (as := [.ref 38, .int x2, .int v2]) (rest := []) (v := some (.int v3)) rfl rfl rfl rfl rfl (c3 h1 h2 h3 h4 h5) <|
      mi_T.go 4 (s1 := (120, [some (.ref 38), some (.int x1), some (.int v3), some (.int x3), some (.int x4), some (.int v2), u6], [.int v2, .ref 57], σ3)) rfl <|
      mi_T.li rfl rfl (b7 h1 h2 h3 h4 h5) <|
      mi_T.go 2 (s1 := (232, [some (.ref 38), some (.int x1), some (.int v3), some (.int (σ3.1 57 v2.toNatClampNeg)), some (.int x4), some (.int v2), u6], [], σ3)) rfl <|
      (k6 h1 h2 h3 h4 h5)))
      (fun h4 => mi_T.go 2 (s1 := (78, [some (.ref 38), some (.int x1), some (.int x2), some (.int x3), some (.int x4), u5, u6], [.int x3, .ref 38], σ)) rfl <|
      mi_T.call (as := [.ref 38, .int x3]) (rest := []) (v := some (.int v4)) rfl rfl rfl rfl rfl (c4 h1 h2 h3 h4) <|
      mi_T.go 2 (s1 := (232, [some (.ref 38), some (.int x1), some (.int x2), some (.int v4), some (.int x4), u5, u6], [], σ4)) rfl <|
      (k7 h1 h2 h3 h4)))
      (fun h3 => mi_T.go 4 (s1 := (52, [some (.ref 38), some (.int x1), some (.int x2), some (.int x3), some (.int x4), u5, u6], [.int x3, .ref 39, .int x2], σ)) rfl <|
      mi_T.li rfl rfl (b8 h1 h2 h3) <|
      mi_T.call (as := [.int x2, .int (σ.1 39 x3.toNatClampNeg)]) (rest := []) (v := some (.int v5)) rfl rfl rfl rfl rfl (c5 h1 h2 h3) <|
      mi_T.go 3 (s1 := (232, [some (.ref 38), some (.int x1), some (.int v5), some (.int (x3 + 1)), some (.int x4), u5, u6], [], σ5)) rfl <|
      (k8 h1 h2 h3))))

set_option maxRecDepth 100000 in
theorem R161_162 {X : Nat × (Nat → Int32)} {d : Nat} {r : mA mG} {σ : mG} {x1 : Int32} {x2 : Int32} {x3 : Int32} {x4 : Int32} {x5 : Int32} {u6 : Option Value}
    (k1 : TT X d tb161 (some .int) (163, [some (.ref 38), some (.int x1), some (.int x2), some (.int x3), some (.int x4), some (.int x5), u6], [.int 0], σ) r)
    : TT X d tb161 (some .int) (162, [some (.ref 38), some (.int x1), some (.int x2), some (.int x3), some (.int x4), some (.int x5), u6], [], σ) r := mi_T.go 1 (s1 := (163, [some (.ref 38), some (.int x1), some (.int x2), some (.int x3), some (.int x4), some (.int x5), u6], [.int 0], σ)) rfl <|
      k1

set_option maxRecDepth 100000 in
theorem R161_163 {X : Nat × (Nat → Int32)} {d : Nat} {r : mA mG} {σ : mG} {x1 : Int32} {x2 : Int32} {x3 : Int32} {x4 : Int32} {x5 : Int32} {u6 : Option Value} {xs0 : Int32} {v1 : Int32} {σ1 : mG}
    (c1 : xs0 = 0 → RR X d 158 [.ref 38, .int x2, .int x5] σ (some (.int v1), σ1))
    (k1 : xs0 = 0 → TT X d tb161 (some .int) (181, [some (.ref 38), some (.int x1), some (.int x2), some (.int x3), some (.int x4), some (.int x5), some (.int xs0)], [.int v1], σ1) r)
    (k2 : ¬ (xs0 = 0) → TT X d tb161 (some .int) (181, [some (.ref 38), some (.int x1), some (.int x2), some (.int x3), some (.int x4), some (.int x5), some (.int xs0)], [.int x2], σ) r)
    : TT X d tb161 (some .int) (163, [some (.ref 38), some (.int x1), some (.int x2), some (.int x3), some (.int x4), some (.int x5), u6], [.int xs0], σ) r := mi_T.go 2 (s1 := (167, [some (.ref 38), some (.int x1), some (.int x2), some (.int x3), some (.int x4), some (.int x5), some (.int xs0)], [.int xs0], σ)) rfl <|
      mi_T.br (P := xs0 = 0) (fun _ => rfl)
      (fun h1 => mi_T.go 3 (s1 := (178, [some (.ref 38), some (.int x1), some (.int x2), some (.int x3), some (.int x4), some (.int x5), some (.int xs0)], [.int x5, .int x2, .ref 38], σ)) rfl <|
      mi_T.call (as := [.ref 38, .int x2, .int x5]) (rest := []) (v := some (.int v1)) rfl rfl rfl rfl rfl (c1 h1) <|
      (k1 h1))
      (fun h1 => mi_T.go 2 (s1 := (181, [some (.ref 38), some (.int x1), some (.int x2), some (.int x3), some (.int x4), some (.int x5), some (.int xs0)], [.int x2], σ)) rfl <|
      (k2 h1))

set_option maxRecDepth 100000 in
theorem R161_181 {X : Nat × (Nat → Int32)} {d : Nat} {r : mA mG} {σ : mG} {x1 : Int32} {x2 : Int32} {x3 : Int32} {x4 : Int32} {x5 : Int32} {x6 : Int32} {xs0 : Int32} {v1 : Int32} {σ1 : mG}
    (k1 : ¬ x6 = 0 → TT X d tb161 (some .int) (197, [some (.ref 38), some (.int x1), some (.int xs0), some (.int x3), some (.int x4), some (.int x5), some (.int x6)], [], σ) r)
    (b1 : ¬ (¬ x6 = 0) → mi_in x5 20 = true)
    (c1 : ¬ (¬ x6 = 0) → ¬ (σ.1 58 x5.toNatClampNeg) = 0 → RR X d 159 [.ref 38, .int xs0, .int x5] σ (some (.int v1), σ1))
    (k2 : ¬ (¬ x6 = 0) → ¬ (σ.1 58 x5.toNatClampNeg) = 0 → TT X d tb161 (some .int) (208, [some (.ref 38), some (.int x1), some (.int xs0), some (.int x3), some (.int x4), some (.int x5), some (.int x6)], [.int v1], σ1) r)
    (k3 : ¬ (¬ x6 = 0) → ¬ (¬ (σ.1 58 x5.toNatClampNeg) = 0) → TT X d tb161 (some .int) (197, [some (.ref 38), some (.int x1), some (.int xs0), some (.int x3), some (.int x4), some (.int x5), some (.int x6)], [], σ) r)
    : TT X d tb161 (some .int) (181, [some (.ref 38), some (.int x1), some (.int x2), some (.int x3), some (.int x4), some (.int x5), some (.int x6)], [.int xs0], σ) r := mi_T.go 2 (s1 := (184, [some (.ref 38), some (.int x1), some (.int xs0), some (.int x3), some (.int x4), some (.int x5), some (.int x6)], [.int x6], σ)) rfl <|
      mi_T.br (P := ¬ x6 = 0) (fun _ => rfl)
      (fun h1 => (k1 h1))
      (fun h1 => mi_T.go 3 (s1 := (193, [some (.ref 38), some (.int x1), some (.int xs0), some (.int x3), some (.int x4), some (.int x5), some (.int x6)], [.int x5, .ref 58], σ)) rfl <|
      mi_T.lz rfl rfl (b1 h1) <|
      mi_T.br (P := ¬ (σ.1 58 x5.toNatClampNeg) = 0) (fun _ => rfl)
      (fun h2 => mi_T.go 3 (s1 := (205, [some (.ref 38), some (.int x1), some (.int xs0), some (.int x3), some (.int x4), some (.int x5), some (.int x6)], [.int x5, .int xs0, .ref 38], σ)) rfl <|
      mi_T.call (as := [.ref 38, .int xs0, .int x5]) (rest := []) (v := some (.int v1)) rfl rfl rfl rfl rfl (c1 h1 h2) <|
      (k2 h1 h2))
      (fun h2 => (k3 h1 h2)))

set_option maxRecDepth 100000 in
theorem R161_197 {X : Nat × (Nat → Int32)} {d : Nat} {r : mA mG} {σ : mG} {x1 : Int32} {x2 : Int32} {x3 : Int32} {x4 : Int32} {x5 : Int32} {x6 : Int32}
    (k1 : TT X d tb161 (some .int) (208, [some (.ref 38), some (.int x1), some (.int x2), some (.int x3), some (.int x4), some (.int x5), some (.int x6)], [.int x2], σ) r)
    : TT X d tb161 (some .int) (197, [some (.ref 38), some (.int x1), some (.int x2), some (.int x3), some (.int x4), some (.int x5), some (.int x6)], [], σ) r := mi_T.go 2 (s1 := (208, [some (.ref 38), some (.int x1), some (.int x2), some (.int x3), some (.int x4), some (.int x5), some (.int x6)], [.int x2], σ)) rfl <|
      k1

set_option maxRecDepth 100000 in
theorem R161_208 {X : Nat × (Nat → Int32)} {d : Nat} {r : mA mG} {σ : mG} {x1 : Int32} {x2 : Int32} {x3 : Int32} {x4 : Int32} {x5 : Int32} {x6 : Int32} {xs0 : Int32}
    (b1 : x6 = 0 → mi_in x5 20 = true)
    (k1 : x6 = 0 → TT X d tb161 (some .int) (231, [some (.ref 38), some (.int x1), some (.int xs0), some (.int x3), some (.int x4), some (.int x5), some (.int x6)], [.int (σ.1 55 x5.toNatClampNeg)], σ) r)
    (b2 : ¬ (x6 = 0) → mi_in x5 20 = true)
    (k2 : ¬ (x6 = 0) → TT X d tb161 (some .int) (231, [some (.ref 38), some (.int x1), some (.int xs0), some (.int x3), some (.int x4), some (.int x5), some (.int x6)], [.int (σ.1 57 x5.toNatClampNeg)], σ) r)
    : TT X d tb161 (some .int) (208, [some (.ref 38), some (.int x1), some (.int x2), some (.int x3), some (.int x4), some (.int x5), some (.int x6)], [.int xs0], σ) r := mi_T.go 2 (s1 := (211, [some (.ref 38), some (.int x1), some (.int xs0), some (.int x3), some (.int x4), some (.int x5), some (.int x6)], [.int x6], σ)) rfl <|
      mi_T.br (P := x6 = 0) (fun _ => rfl)
      (fun h1 => mi_T.go 3 (s1 := (230, [some (.ref 38), some (.int x1), some (.int xs0), some (.int x3), some (.int x4), some (.int x5), some (.int x6)], [.int x5, .ref 55], σ)) rfl <|
      mi_T.li rfl rfl (b1 h1) <|
      (k1 h1))
      (fun h1 => mi_T.go 3 (s1 := (220, [some (.ref 38), some (.int x1), some (.int xs0), some (.int x3), some (.int x4), some (.int x5), some (.int x6)], [.int x5, .ref 57], σ)) rfl <|
      mi_T.li rfl rfl (b2 h1) <|
      mi_T.go 1 (s1 := (231, [some (.ref 38), some (.int x1), some (.int xs0), some (.int x3), some (.int x4), some (.int x5), some (.int x6)], [.int (σ.1 57 x5.toNatClampNeg)], σ)) rfl <|
      (k2 h1))

set_option maxRecDepth 100000 in
theorem R161_231 {X : Nat × (Nat → Int32)} {d : Nat} {r : mA mG} {σ : mG} {x1 : Int32} {x2 : Int32} {x3 : Int32} {x4 : Int32} {x5 : Int32} {x6 : Int32} {xs0 : Int32}
    (k1 : TT X d tb161 (some .int) (232, [some (.ref 38), some (.int x1), some (.int x2), some (.int xs0), some (.int x4), some (.int x5), some (.int x6)], [], σ) r)
    : TT X d tb161 (some .int) (231, [some (.ref 38), some (.int x1), some (.int x2), some (.int x3), some (.int x4), some (.int x5), some (.int x6)], [.int xs0], σ) r := mi_T.go 1 (s1 := (232, [some (.ref 38), some (.int x1), some (.int x2), some (.int xs0), some (.int x4), some (.int x5), some (.int x6)], [], σ)) rfl <|
      k1

set_option maxRecDepth 100000 in
theorem R161_232 {X : Nat × (Nat → Int32)} {d : Nat} {r : mA mG} {σ : mG} {x1 : Int32} {x2 : Int32} {x3 : Int32} {x4 : Int32} {u5 : Option Value} {u6 : Option Value}
    (k1 : TT X d tb161 (some .int) (17, [some (.ref 38), some (.int x1), some (.int x2), some (.int x3), some (.int (x4 + 1)), u5, u6], [], σ) r)
    : TT X d tb161 (some .int) (232, [some (.ref 38), some (.int x1), some (.int x2), some (.int x3), some (.int x4), u5, u6], [], σ) r := mi_T.go 2 (s1 := (17, [some (.ref 38), some (.int x1), some (.int x2), some (.int x3), some (.int (x4 + 1)), u5, u6], [], σ)) rfl <|
      k1

set_option maxRecDepth 100000 in
theorem R161_238 {X : Nat × (Nat → Int32)} {d : Nat} {r : mA mG} {σ : mG} {x1 : Int32} {x2 : Int32} {x3 : Int32} {x4 : Int32} {u5 : Option Value} {u6 : Option Value} {v1 : Int32} {σ1 : mG}
    (c1 : RR X d 159 [.ref 38, .int x2, .int x1] σ (some (.int v1), σ1))
    (k1 : r = (some (.int v1), σ1))
    : TT X d tb161 (some .int) (238, [some (.ref 38), some (.int x1), some (.int x2), some (.int x3), some (.int x4), u5, u6], [], σ) r := mi_T.go 3 (s1 := (241, [some (.ref 38), some (.int x1), some (.int x2), some (.int x3), some (.int x4), u5, u6], [.int x1, .int x2, .ref 38], σ)) rfl <|
      mi_T.call (as := [.ref 38, .int x2, .int x1]) (rest := []) (v := some (.int v1)) rfl rfl rfl rfl rfl (c1) <|
      mi_T.fin (k1) (fun _ => rfl)

-- AssertionGateModel.digest(I)I
theorem R162_0 {X : Nat × (Nat → Int32)} {d : Nat} {r : mA mG} {σ : mG} {x1 : Int32} {v1 : Int32} {σ1 : mG} {v2 : Int32} {σ2 : mG}
    (c1 : RR X d 153 [.ref 38] σ (some (.int v1), σ1))
    (k1 : x1 < 0 → r = (some (.int (-1)), σ1))
    (c2 : ¬ (x1 < 0) → x1 < v1 → RR X d 161 [.ref 38, .int x1] σ1 (some (.int v2), σ2))
    (k2 : ¬ (x1 < 0) → x1 < v1 → r = (some (.int v2), σ2))
    (k3 : ¬ (x1 < 0) → ¬ (x1 < v1) → r = (some (.int (-1)), σ1))
    : TT X d tb162 (some .int) (0, [some (.ref 38), some (.int x1), none], [], σ) r := mi_T.go 1 (s1 := (1, [some (.ref 38), some (.int x1), none], [.ref 38], σ)) rfl <|
      mi_T.call (as := [.ref 38]) (rest := []) (v := some (.int v1)) rfl rfl rfl rfl rfl (c1) <|
      mi_T.go 2 (s1 := (6, [some (.ref 38), some (.int x1), some (.int v1)], [.int x1], σ1)) rfl <|
      mi_T.br (P := x1 < 0) (fun _ => rfl)
      (fun h1 => mi_T.go 2 (s1 := (23, [some (.ref 38), some (.int x1), some (.int v1)], [.int (-1)], σ1)) rfl <|
      mi_T.fin (k1 h1) (fun _ => rfl))
      (fun h1 => mi_T.go 2 (s1 := (11, [some (.ref 38), some (.int x1), some (.int v1)], [.int v1, .int x1], σ1)) rfl <|
      mi_T.br (P := x1 < v1) (fun _ => rfl)
      (fun h2 => mi_T.go 2 (s1 := (20, [some (.ref 38), some (.int x1), some (.int v1)], [.int x1, .ref 38], σ1)) rfl <|
      mi_T.call (as := [.ref 38, .int x1]) (rest := []) (v := some (.int v2)) rfl rfl rfl rfl rfl (c2 h1 h2) <|
      mi_T.fin (k2 h1 h2) (fun _ => rfl))
      (fun h2 => mi_T.go 2 (s1 := (23, [some (.ref 38), some (.int x1), some (.int v1)], [.int (-1)], σ1)) rfl <|
      mi_T.fin (k3 h1 h2) (fun _ => rfl)))

-- AssertionGateModel.seal(II)I
theorem R163_0 {X : Nat × (Nat → Int32)} {d : Nat} {r : mA mG} {σ : mG} {x1 : Int32} {x2 : Int32} {v1 : Int32} {σ1 : mG} {v2 : Int32} {σ2 : mG} {v3 : Int32} {σ3 : mG}
    (c1 : RR X d 162 [.ref 38, .int x2] σ (some (.int v1), σ1))
    (c2 : RR X d 125 [.int x1] σ1 (some (.int v2), σ2))
    (k1 : v2 = 0 → r = (some (.int (-1)), σ2))
    (b1 : ¬ (v2 = 0) → mi_in x1 4 = true)
    (k2 : ¬ (v2 = 0) → (σ2.1 43 x1.toNatClampNeg) = 0 → r = (some (.int (-1)), σ2))
    (b2 : ¬ (v2 = 0) → ¬ ((σ2.1 43 x1.toNatClampNeg) = 0) → 0 ≤ v1 → mi_in x1 4 = true)
    (b3 : ¬ (v2 = 0) → ¬ ((σ2.1 43 x1.toNatClampNeg) = 0) → 0 ≤ v1 → mi_in x1 4 = true)
    (c3 : ¬ (v2 = 0) → ¬ ((σ2.1 43 x1.toNatClampNeg) = 0) → 0 ≤ v1 → RR X d 133 [.int v1, .int (σ2.1 44 x1.toNatClampNeg), .int (σ2.1 43 x1.toNatClampNeg)] σ2 (some (.int v3), σ3))
    (k3 : ¬ (v2 = 0) → ¬ ((σ2.1 43 x1.toNatClampNeg) = 0) → 0 ≤ v1 → r = (some (.int v3), σ3))
    (k4 : ¬ (v2 = 0) → ¬ ((σ2.1 43 x1.toNatClampNeg) = 0) → ¬ (0 ≤ v1) → r = (some (.int (-1)), σ2))
    : TT X d tb163 (some .int) (0, [some (.ref 38), some (.int x1), some (.int x2), none], [], σ) r := mi_T.go 2 (s1 := (2, [some (.ref 38), some (.int x1), some (.int x2), none], [.int x2, .ref 38], σ)) rfl <|
      mi_T.call (as := [.ref 38, .int x2]) (rest := []) (v := some (.int v1)) rfl rfl rfl rfl rfl (c1) <|
      mi_T.go 2 (s1 := (7, [some (.ref 38), some (.int x1), some (.int x2), some (.int v1)], [.int x1], σ1)) rfl <|
      mi_T.call (as := [.int x1]) (rest := []) (v := some (.int v2)) rfl rfl rfl rfl rfl (c2) <|
      mi_T.br (P := v2 = 0) (fun _ => rfl)
      (fun h1 => mi_T.go 2 (s1 := (46, [some (.ref 38), some (.int x1), some (.int x2), some (.int v1)], [.int (-1)], σ2)) rfl <|
      mi_T.fin (k1 h1) (fun _ => rfl))
      (fun h1 => mi_T.go 3 (s1 := (18, [some (.ref 38), some (.int x1), some (.int x2), some (.int v1)], [.int x1, .ref 43], σ2)) rfl <|
      mi_T.li rfl rfl (b1 h1) <|
      mi_T.br (P := (σ2.1 43 x1.toNatClampNeg) = 0) (fun _ => rfl)
      (fun h2 => mi_T.go 2 (s1 := (46, [some (.ref 38), some (.int x1), some (.int x2), some (.int v1)], [.int (-1)], σ2)) rfl <|
      mi_T.fin (k2 h1 h2) (fun _ => rfl))
      (fun h2 => mi_T.go 1 (s1 := (23, [some (.ref 38), some (.int x1), some (.int x2), some (.int v1)], [.int v1], σ2)) rfl <|
      mi_T.br (P := 0 ≤ v1) (fun _ => rfl)
      (fun h3 => mi_T.go 4 (s1 := (36, [some (.ref 38), some (.int x1), some (.int x2), some (.int v1)], [.int x1, .ref 44, .int v1], σ2)) rfl <|
      mi_T.li rfl rfl (b2 h1 h2 h3) <|
      mi_T.go 3 (s1 := (42, [some (.ref 38), some (.int x1), some (.int x2), some (.int v1)], [.int x1, .ref 43, .int (σ2.1 44 x1.toNatClampNeg), .int v1], σ2)) rfl <|
      mi_T.li rfl rfl (b3 h1 h2 h3) <|
      mi_T.call (as := [.int v1, .int (σ2.1 44 x1.toNatClampNeg), .int (σ2.1 43 x1.toNatClampNeg)]) (rest := []) (v := some (.int v3)) rfl rfl rfl rfl rfl (c3 h1 h2 h3) <|
      mi_T.fin (k3 h1 h2 h3) (fun _ => rfl))
      (fun h3 => mi_T.go 2 (s1 := (46, [some (.ref 38), some (.int x1), some (.int x2), some (.int v1)], [.int (-1)], σ2)) rfl <|
      mi_T.fin (k4 h1 h2 h3) (fun _ => rfl))))

-- AssertionGateModel.pack(II)J
theorem R164_0 {X : Nat × (Nat → Int32)} {d : Nat} {r : mA mG} {σ : mG} {x1 : Int32} {x2 : Int32}
    (k1 : TT X d tb164 (some .long) (8, [some (.ref 38), some (.int x1), some (.int x2), some (.long 0), none, some (.int 0), some (.int x1)], [], σ) r)
    : TT X d tb164 (some .long) (0, [some (.ref 38), some (.int x1), some (.int x2), none, none, none, none], [], σ) r := mi_T.go 6 (s1 := (8, [some (.ref 38), some (.int x1), some (.int x2), some (.long 0), none, some (.int 0), some (.int x1)], [], σ)) rfl <|
      k1

theorem R164_8 {X : Nat × (Nat → Int32)} {d : Nat} {r : mA mG} {σ : mG} {x1 : Int32} {x2 : Int32} {y3 : Int64} {x5 : Int32} {x6 : Int32}
    (k1 : x2 ≤ x6 → ¬ x5 = 0 → r = (some (.long 0), σ))
    (k2 : x2 ≤ x6 → ¬ (¬ x5 = 0) → (x2 - x1) ≤ 8 → r = (some (.long y3), σ))
    (k3 : x2 ≤ x6 → ¬ (¬ x5 = 0) → ¬ ((x2 - x1) ≤ 8) → r = (some (.long 0), σ))
    (k4 : ¬ (x2 ≤ x6) → ¬ x5 = 0 → (x1 + 8) ≤ x6 → TT X d tb164 (some .long) (8, [some (.ref 38), some (.int x1), some (.int x2), some (.long y3), none, some (.int 1), some (.int (x6 + 1))], [], σ) r)
    (b1 : ¬ (x2 ≤ x6) → ¬ x5 = 0 → ¬ ((x1 + 8) ≤ x6) → mi_in x6 400 = true)
    (k5 : ¬ (x2 ≤ x6) → ¬ x5 = 0 → ¬ ((x1 + 8) ≤ x6) → TT X d tb164 (some .long) (8, [some (.ref 38), some (.int x1), some (.int x2), some (.long ((y3 <<< ((8 : Int32).toInt64 &&& 63)) ||| ((σ.1 39 x6.toNatClampNeg).toInt64))), none, some (.int 1), some (.int (x6 + 1))], [], σ) r)
    (b2 : ¬ (x2 ≤ x6) → ¬ (¬ x5 = 0) → mi_in x6 400 = true)
    (k6 : ¬ (x2 ≤ x6) → ¬ (¬ x5 = 0) → ¬ (σ.1 39 x6.toNatClampNeg) = 60 → (x1 + 8) ≤ x6 → TT X d tb164 (some .long) (8, [some (.ref 38), some (.int x1), some (.int x2), some (.long y3), none, some (.int 0), some (.int (x6 + 1))], [], σ) r)
    (b3 : ¬ (x2 ≤ x6) → ¬ (¬ x5 = 0) → ¬ (σ.1 39 x6.toNatClampNeg) = 60 → ¬ ((x1 + 8) ≤ x6) → mi_in x6 400 = true)
    (k7 : ¬ (x2 ≤ x6) → ¬ (¬ x5 = 0) → ¬ (σ.1 39 x6.toNatClampNeg) = 60 → ¬ ((x1 + 8) ≤ x6) → TT X d tb164 (some .long) (8, [some (.ref 38), some (.int x1), some (.int x2), some (.long ((y3 <<< ((8 : Int32).toInt64 &&& 63)) ||| ((σ.1 39 x6.toNatClampNeg).toInt64))), none, some (.int 0), some (.int (x6 + 1))], [], σ) r)
    (k8 : ¬ (x2 ≤ x6) → ¬ (¬ x5 = 0) → ¬ (¬ (σ.1 39 x6.toNatClampNeg) = 60) → (x1 + 8) ≤ x6 → TT X d tb164 (some .long) (8, [some (.ref 38), some (.int x1), some (.int x2), some (.long y3), none, some (.int 1), some (.int (x6 + 1))], [], σ) r)
    (b4 : ¬ (x2 ≤ x6) → ¬ (¬ x5 = 0) → ¬ (¬ (σ.1 39 x6.toNatClampNeg) = 60) → ¬ ((x1 + 8) ≤ x6) → mi_in x6 400 = true)
    (k9 : ¬ (x2 ≤ x6) → ¬ (¬ x5 = 0) → ¬ (¬ (σ.1 39 x6.toNatClampNeg) = 60) → ¬ ((x1 + 8) ≤ x6) → TT X d tb164 (some .long) (8, [some (.ref 38), some (.int x1), some (.int x2), some (.long ((y3 <<< ((8 : Int32).toInt64 &&& 63)) ||| ((σ.1 39 x6.toNatClampNeg).toInt64))), none, some (.int 1), some (.int (x6 + 1))], [], σ) r)
    : TT X d tb164 (some .long) (8, [some (.ref 38), some (.int x1), some (.int x2), some (.long y3), none, some (.int x5), some (.int x6)], [], σ) r := mi_T.go 2 (s1 := (11, [some (.ref 38), some (.int x1), some (.int x2), some (.long y3), none, some (.int x5), some (.int x6)], [.int x2, .int x6], σ)) rfl <|
      mi_T.br (P := x2 ≤ x6) (fun _ => rfl)
      (fun h1 => mi_T.go 1 (s1 := (73, [some (.ref 38), some (.int x1), some (.int x2), some (.long y3), none, some (.int x5), some (.int x6)], [.int x5], σ)) rfl <|
      mi_T.br (P := ¬ x5 = 0) (fun _ => rfl)
      (fun h2 => mi_T.go 2 (s1 := (89, [some (.ref 38), some (.int x1), some (.int x2), some (.long y3), none, some (.int x5), some (.int x6)], [.long 0], σ)) rfl <|
      mi_T.fin (k1 h1 h2) (fun _ => rfl))
      (fun h2 => mi_T.go 4 (s1 := (81, [some (.ref 38), some (.int x1), some (.int x2), some (.long y3), none, some (.int x5), some (.int x6)], [.int 8, .int (x2 - x1)], σ)) rfl <|
      mi_T.br (P := (x2 - x1) ≤ 8) (fun _ => rfl)
      (fun h3 => mi_T.go 1 (s1 := (89, [some (.ref 38), some (.int x1), some (.int x2), some (.long y3), none, some (.int x5), some (.int x6)], [.long y3], σ)) rfl <|
      mi_T.fin (k2 h1 h2 h3) (fun _ => rfl))
      (fun h3 => mi_T.go 2 (s1 := (89, [some (.ref 38), some (.int x1), some (.int x2), some (.long y3), none, some (.int x5), some (.int x6)], [.long 0], σ)) rfl <|
      mi_T.fin (k3 h1 h2 h3) (fun _ => rfl))))
      (fun h1 => mi_T.go 1 (s1 := (16, [some (.ref 38), some (.int x1), some (.int x2), some (.long y3), none, some (.int x5), some (.int x6)], [.int x5], σ)) rfl <|
      mi_T.br (P := ¬ x5 = 0) (fun _ => rfl)
      (fun h2 => mi_T.go 7 (s1 := (44, [some (.ref 38), some (.int x1), some (.int x2), some (.long y3), none, some (.int 1), some (.int x6)], [.int (x1 + 8), .int x6], σ)) rfl <|
      mi_T.br (P := (x1 + 8) ≤ x6) (fun _ => rfl)
      (fun h3 => mi_T.go 4 (s1 := (8, [some (.ref 38), some (.int x1), some (.int x2), some (.long y3), none, some (.int 1), some (.int (x6 + 1))], [], σ)) rfl <|
      (k4 h1 h2 h3))
      (fun h3 => mi_T.go 6 (s1 := (57, [some (.ref 38), some (.int x1), some (.int x2), some (.long y3), none, some (.int 1), some (.int x6)], [.int x6, .ref 39, .long (y3 <<< ((8 : Int32).toInt64 &&& 63))], σ)) rfl <|
      mi_T.li rfl rfl (b1 h1 h2 h3) <|
      mi_T.go 6 (s1 := (8, [some (.ref 38), some (.int x1), some (.int x2), some (.long ((y3 <<< ((8 : Int32).toInt64 &&& 63)) ||| ((σ.1 39 x6.toNatClampNeg).toInt64))), none, some (.int 1), some (.int (x6 + 1))], [], σ)) rfl <|
      (k5 h1 h2 h3)))
      (fun h2 => mi_T.go 3 (s1 := (25, [some (.ref 38), some (.int x1), some (.int x2), some (.long y3), none, some (.int x5), some (.int x6)], [.int x6, .ref 39], σ)) rfl <|
      mi_T.li rfl rfl (b2 h1 h2) <|
      mi_T.go 1 (s1 := (28, [some (.ref 38), some (.int x1), some (.int x2), some (.long y3), none, some (.int x5), some (.int x6)], [.int 60, .int (σ.1 39 x6.toNatClampNeg)], σ)) rfl <|
      mi_T.br (P := ¬ (σ.1 39 x6.toNatClampNeg) = 60) (fun _ => rfl)
      (fun h3 => mi_T.go 6 (s1 := (44, [some (.ref 38), some (.int x1), some (.int x2), some (.long y3), none, some (.int 0), some (.int x6)], [.int (x1 + 8), .int x6], σ)) rfl <|
      mi_T.br (P := (x1 + 8) ≤ x6) (fun _ => rfl)
      (fun h4 => mi_T.go 4 (s1 := (8, [some (.ref 38), some (.int x1), some (.int x2), some (.long y3), none, some (.int 0), some (.int (x6 + 1))], [], σ)) rfl <|
      (k6 h1 h2 h3 h4))
      (fun h4 => mi_T.go 6 (s1 := (57, [some (.ref 38), some (.int x1), some (.int x2), some (.long y3), none, some (.int 0), some (.int x6)], [.int x6, .ref 39, .long (y3 <<< ((8 : Int32).toInt64 &&& 63))], σ)) rfl <|
      mi_T.li rfl rfl (b3 h1 h2 h3 h4) <|
      mi_T.go 6 (s1 := (8, [some (.ref 38), some (.int x1), some (.int x2), some (.long ((y3 <<< ((8 : Int32).toInt64 &&& 63)) ||| ((σ.1 39 x6.toNatClampNeg).toInt64))), none, some (.int 0), some (.int (x6 + 1))], [], σ)) rfl <|
      (k7 h1 h2 h3 h4)))
      (fun h3 => mi_T.go 7 (s1 := (44, [some (.ref 38), some (.int x1), some (.int x2), some (.long y3), none, some (.int 1), some (.int x6)], [.int (x1 + 8), .int x6], σ)) rfl <|
      mi_T.br (P := (x1 + 8) ≤ x6) (fun _ => rfl)
      (fun h4 => mi_T.go 4 (s1 := (8, [some (.ref 38), some (.int x1), some (.int x2), some (.long y3), none, some (.int 1), some (.int (x6 + 1))], [], σ)) rfl <|
      (k8 h1 h2 h3 h4))
      (fun h4 => mi_T.go 6 (s1 := (57, [some (.ref 38), some (.int x1), some (.int x2), some (.long y3), none, some (.int 1), some (.int x6)], [.int x6, .ref 39, .long (y3 <<< ((8 : Int32).toInt64 &&& 63))], σ)) rfl <|
      mi_T.li rfl rfl (b4 h1 h2 h3 h4) <|
      mi_T.go 6 (s1 := (8, [some (.ref 38), some (.int x1), some (.int x2), some (.long ((y3 <<< ((8 : Int32).toInt64 &&& 63)) ||| ((σ.1 39 x6.toNatClampNeg).toInt64))), none, some (.int 1), some (.int (x6 + 1))], [], σ)) rfl <|
      (k9 h1 h2 h3 h4)))))

-- AssertionGateModel.wordOf(I)J
theorem R165_0 {X : Nat × (Nat → Int32)} {d : Nat} {r : mA mG} {σ : mG} {x1 : Int32} {v1 : Int64} {σ1 : mG}
    (b1 : mi_in x1 20 = true)
    (b2 : mi_in x1 20 = true)
    (c1 : RR X d 164 [.ref 38, .int (σ.1 55 x1.toNatClampNeg), .int (σ.1 56 x1.toNatClampNeg)] σ (some (.long v1), σ1))
    (k1 : r = (some (.long v1), σ1))
    : TT X d tb165 (some .long) (0, [some (.ref 38), some (.int x1)], [], σ) r := mi_T.go 4 (s1 := (6, [some (.ref 38), some (.int x1)], [.int x1, .ref 55, .ref 38], σ)) rfl <|
      mi_T.li rfl rfl (b1) <|
      mi_T.go 3 (s1 := (12, [some (.ref 38), some (.int x1)], [.int x1, .ref 56, .int (σ.1 55 x1.toNatClampNeg), .ref 38], σ)) rfl <|
      mi_T.li rfl rfl (b2) <|
      mi_T.call (as := [.ref 38, .int (σ.1 55 x1.toNatClampNeg), .int (σ.1 56 x1.toNatClampNeg)]) (rest := []) (v := some (.long v1)) rfl rfl rfl rfl rfl (c1) <|
      mi_T.fin (k1) (fun _ => rfl)

-- AssertionGateModel.keyOf(IJ)J
theorem R166_0 {X : Nat × (Nat → Int32)} {d : Nat} {r : mA mG} {σ : mG} {x1 : Int32} {y2 : Int64} {v1 : Int32} {σ1 : mG} {v2 : Int64} {σ2 : mG}
    (c1 : RR X d 148 [.ref 38, .int x1, .long y2] σ (some (.int v1), σ1))
    (b1 : 0 ≤ v1 → mi_in v1 80 = true)
    (b2 : 0 ≤ v1 → mi_in v1 80 = true)
    (c2 : 0 ≤ v1 → RR X d 164 [.ref 38, .int (σ1.1 61 v1.toNatClampNeg), .int (σ1.1 62 v1.toNatClampNeg)] σ1 (some (.long v2), σ2))
    (k1 : 0 ≤ v1 → r = (some (.long v2), σ2))
    (k2 : ¬ (0 ≤ v1) → r = (some (.long 0), σ1))
    : TT X d tb166 (some .long) (0, [some (.ref 38), some (.int x1), some (.long y2), none, none], [], σ) r := mi_T.go 3 (s1 := (3, [some (.ref 38), some (.int x1), some (.long y2), none, none], [.long y2, .int x1, .ref 38], σ)) rfl <|
      mi_T.call (as := [.ref 38, .int x1, .long y2]) (rest := []) (v := some (.int v1)) rfl rfl rfl rfl rfl (c1) <|
      mi_T.go 2 (s1 := (10, [some (.ref 38), some (.int x1), some (.long y2), none, some (.int v1)], [.int v1], σ1)) rfl <|
      mi_T.br (P := 0 ≤ v1) (fun _ => rfl)
      (fun h1 => mi_T.go 4 (s1 := (24, [some (.ref 38), some (.int x1), some (.long y2), none, some (.int v1)], [.int v1, .ref 61, .ref 38], σ1)) rfl <|
      mi_T.li rfl rfl (b1 h1) <|
      mi_T.go 3 (s1 := (31, [some (.ref 38), some (.int x1), some (.long y2), none, some (.int v1)], [.int v1, .ref 62, .int (σ1.1 61 v1.toNatClampNeg), .ref 38], σ1)) rfl <|
      mi_T.li rfl rfl (b2 h1) <|
      mi_T.call (as := [.ref 38, .int (σ1.1 61 v1.toNatClampNeg), .int (σ1.1 62 v1.toNatClampNeg)]) (rest := []) (v := some (.long v2)) rfl rfl rfl rfl rfl (c2 h1) <|
      mi_T.fin (k1 h1) (fun _ => rfl))
      (fun h1 => mi_T.go 2 (s1 := (35, [some (.ref 38), some (.int x1), some (.long y2), none, some (.int v1)], [.long 0], σ1)) rfl <|
      mi_T.fin (k2 h1) (fun _ => rfl))

-- AssertionGateModel.numberOf(IJ)I
theorem R167_0 {X : Nat × (Nat → Int32)} {d : Nat} {r : mA mG} {σ : mG} {x1 : Int32} {y2 : Int64} {v1 : Int32} {σ1 : mG}
    (c1 : RR X d 148 [.ref 38, .int x1, .long y2] σ (some (.int v1), σ1))
    (k1 : v1 < 0 → r = (some (.int (-1)), σ1))
    (b1 : ¬ (v1 < 0) → mi_in v1 80 = true)
    (b2 : ¬ (v1 < 0) → mi_in v1 80 = true)
    (k2 : ¬ (v1 < 0) → ((σ1.1 62 v1.toNatClampNeg) - (σ1.1 61 v1.toNatClampNeg)) < 1 → r = (some (.int (-1)), σ1))
    (b3 : ¬ (v1 < 0) → ¬ (((σ1.1 62 v1.toNatClampNeg) - (σ1.1 61 v1.toNatClampNeg)) < 1) → mi_in v1 80 = true)
    (b4 : ¬ (v1 < 0) → ¬ (((σ1.1 62 v1.toNatClampNeg) - (σ1.1 61 v1.toNatClampNeg)) < 1) → mi_in v1 80 = true)
    (b5 : ¬ (v1 < 0) → ¬ (((σ1.1 62 v1.toNatClampNeg) - (σ1.1 61 v1.toNatClampNeg)) < 1) → ((σ1.1 62 v1.toNatClampNeg) - (σ1.1 61 v1.toNatClampNeg)) ≤ 9 → mi_in v1 80 = true)
    (k3 : ¬ (v1 < 0) → ¬ (((σ1.1 62 v1.toNatClampNeg) - (σ1.1 61 v1.toNatClampNeg)) < 1) → ((σ1.1 62 v1.toNatClampNeg) - (σ1.1 61 v1.toNatClampNeg)) ≤ 9 → TT X d tb167 (some .int) (69, [some (.ref 38), some (.int x1), some (.long y2), none, some (.int v1), some (.int 0), some (.int 1), some (.int (σ1.1 61 v1.toNatClampNeg))], [], σ1) r)
    (k4 : ¬ (v1 < 0) → ¬ (((σ1.1 62 v1.toNatClampNeg) - (σ1.1 61 v1.toNatClampNeg)) < 1) → ¬ (((σ1.1 62 v1.toNatClampNeg) - (σ1.1 61 v1.toNatClampNeg)) ≤ 9) → r = (some (.int (-1)), σ1))
    : TT X d tb167 (some .int) (0, [some (.ref 38), some (.int x1), some (.long y2), none, none, none, none, none], [], σ) r := mi_T.go 3 (s1 := (3, [some (.ref 38), some (.int x1), some (.long y2), none, none, none, none, none], [.long y2, .int x1, .ref 38], σ)) rfl <|
      mi_T.call (as := [.ref 38, .int x1, .long y2]) (rest := []) (v := some (.int v1)) rfl rfl rfl rfl rfl (c1) <|
      mi_T.go 2 (s1 := (10, [some (.ref 38), some (.int x1), some (.long y2), none, some (.int v1), none, none, none], [.int v1], σ1)) rfl <|
      mi_T.br (P := v1 < 0) (fun _ => rfl)
      (fun h1 => mi_T.go 1 (s1 := (53, [some (.ref 38), some (.int x1), some (.long y2), none, some (.int v1), none, none, none], [.int (-1)], σ1)) rfl <|
      mi_T.fin (k1 h1) (fun _ => rfl))
      (fun h1 => mi_T.go 3 (s1 := (19, [some (.ref 38), some (.int x1), some (.long y2), none, some (.int v1), none, none, none], [.int v1, .ref 62], σ1)) rfl <|
      mi_T.li rfl rfl (b1 h1) <|
      mi_T.go 3 (s1 := (26, [some (.ref 38), some (.int x1), some (.long y2), none, some (.int v1), none, none, none], [.int v1, .ref 61, .int (σ1.1 62 v1.toNatClampNeg)], σ1)) rfl <|
      mi_T.li rfl rfl (b2 h1) <|
      mi_T.go 2 (s1 := (29, [some (.ref 38), some (.int x1), some (.long y2), none, some (.int v1), none, none, none], [.int 1, .int ((σ1.1 62 v1.toNatClampNeg) - (σ1.1 61 v1.toNatClampNeg))], σ1)) rfl <|
      mi_T.br (P := ((σ1.1 62 v1.toNatClampNeg) - (σ1.1 61 v1.toNatClampNeg)) < 1) (fun _ => rfl)
      (fun h2 => mi_T.go 1 (s1 := (53, [some (.ref 38), some (.int x1), some (.long y2), none, some (.int v1), none, none, none], [.int (-1)], σ1)) rfl <|
      mi_T.fin (k2 h1 h2) (fun _ => rfl))
      (fun h2 => mi_T.go 3 (s1 := (38, [some (.ref 38), some (.int x1), some (.long y2), none, some (.int v1), none, none, none], [.int v1, .ref 62], σ1)) rfl <|
      mi_T.li rfl rfl (b3 h1 h2) <|
      mi_T.go 3 (s1 := (45, [some (.ref 38), some (.int x1), some (.long y2), none, some (.int v1), none, none, none], [.int v1, .ref 61, .int (σ1.1 62 v1.toNatClampNeg)], σ1)) rfl <|
      mi_T.li rfl rfl (b4 h1 h2) <|
      mi_T.go 2 (s1 := (49, [some (.ref 38), some (.int x1), some (.long y2), none, some (.int v1), none, none, none], [.int 9, .int ((σ1.1 62 v1.toNatClampNeg) - (σ1.1 61 v1.toNatClampNeg))], σ1)) rfl <|
      mi_T.br (P := ((σ1.1 62 v1.toNatClampNeg) - (σ1.1 61 v1.toNatClampNeg)) ≤ 9) (fun _ => rfl)
      (fun h3 => mi_T.go 7 (s1 := (66, [some (.ref 38), some (.int x1), some (.long y2), none, some (.int v1), some (.int 0), some (.int 1), none], [.int v1, .ref 61], σ1)) rfl <|
      mi_T.li rfl rfl (b5 h1 h2 h3) <|
      mi_T.go 1 (s1 := (69, [some (.ref 38), some (.int x1), some (.long y2), none, some (.int v1), some (.int 0), some (.int 1), some (.int (σ1.1 61 v1.toNatClampNeg))], [], σ1)) rfl <|
      (k3 h1 h2 h3))
      (fun h3 => mi_T.go 1 (s1 := (53, [some (.ref 38), some (.int x1), some (.long y2), none, some (.int v1), none, none, none], [.int (-1)], σ1)) rfl <|
      mi_T.fin (k4 h1 h2 h3) (fun _ => rfl))))

theorem R167_69 {X : Nat × (Nat → Int32)} {d : Nat} {r : mA mG} {σ : mG} {x1 : Int32} {y2 : Int64} {x4 : Int32} {x5 : Int32} {x6 : Int32} {x7 : Int32}
    (b1 : mi_in x4 80 = true)
    (k1 : (σ.1 62 x4.toNatClampNeg) ≤ x7 → x6 = 0 → r = (some (.int (-1)), σ))
    (k2 : (σ.1 62 x4.toNatClampNeg) ≤ x7 → ¬ (x6 = 0) → r = (some (.int x5), σ))
    (k3 : ¬ ((σ.1 62 x4.toNatClampNeg) ≤ x7) → x6 = 0 → TT X d tb167 (some .int) (114, [some (.ref 38), some (.int x1), some (.long y2), none, some (.int x4), some (.int x5), some (.int x6), some (.int x7)], [], σ) r)
    (b2 : ¬ ((σ.1 62 x4.toNatClampNeg) ≤ x7) → ¬ (x6 = 0) → mi_in x7 400 = true)
    (k4 : ¬ ((σ.1 62 x4.toNatClampNeg) ≤ x7) → ¬ (x6 = 0) → (σ.1 39 x7.toNatClampNeg) < 48 → TT X d tb167 (some .int) (114, [some (.ref 38), some (.int x1), some (.long y2), none, some (.int x4), some (.int x5), some (.int x6), some (.int x7)], [], σ) r)
    (b3 : ¬ ((σ.1 62 x4.toNatClampNeg) ≤ x7) → ¬ (x6 = 0) → ¬ ((σ.1 39 x7.toNatClampNeg) < 48) → mi_in x7 400 = true)
    (k5 : ¬ ((σ.1 62 x4.toNatClampNeg) ≤ x7) → ¬ (x6 = 0) → ¬ ((σ.1 39 x7.toNatClampNeg) < 48) → 57 < (σ.1 39 x7.toNatClampNeg) → TT X d tb167 (some .int) (114, [some (.ref 38), some (.int x1), some (.long y2), none, some (.int x4), some (.int x5), some (.int x6), some (.int x7)], [], σ) r)
    (k6 : ¬ ((σ.1 62 x4.toNatClampNeg) ≤ x7) → ¬ (x6 = 0) → ¬ ((σ.1 39 x7.toNatClampNeg) < 48) → ¬ (57 < (σ.1 39 x7.toNatClampNeg)) → TT X d tb167 (some .int) (115, [some (.ref 38), some (.int x1), some (.long y2), none, some (.int x4), some (.int x5), some (.int x6), some (.int x7)], [.int 1], σ) r)
    : TT X d tb167 (some .int) (69, [some (.ref 38), some (.int x1), some (.long y2), none, some (.int x4), some (.int x5), some (.int x6), some (.int x7)], [], σ) r := mi_T.go 4 (s1 := (77, [some (.ref 38), some (.int x1), some (.long y2), none, some (.int x4), some (.int x5), some (.int x6), some (.int x7)], [.int x4, .ref 62, .int x7], σ)) rfl <|
      mi_T.li rfl rfl (b1) <|
      mi_T.br (P := (σ.1 62 x4.toNatClampNeg) ≤ x7) (fun _ => rfl)
      (fun h1 => mi_T.go 1 (s1 := (153, [some (.ref 38), some (.int x1), some (.long y2), none, some (.int x4), some (.int x5), some (.int x6), some (.int x7)], [.int x6], σ)) rfl <|
      mi_T.br (P := x6 = 0) (fun _ => rfl)
      (fun h2 => mi_T.go 1 (s1 := (162, [some (.ref 38), some (.int x1), some (.long y2), none, some (.int x4), some (.int x5), some (.int x6), some (.int x7)], [.int (-1)], σ)) rfl <|
      mi_T.fin (k1 h1 h2) (fun _ => rfl))
      (fun h2 => mi_T.go 2 (s1 := (162, [some (.ref 38), some (.int x1), some (.long y2), none, some (.int x4), some (.int x5), some (.int x6), some (.int x7)], [.int x5], σ)) rfl <|
      mi_T.fin (k2 h1 h2) (fun _ => rfl)))
      (fun h1 => mi_T.go 1 (s1 := (83, [some (.ref 38), some (.int x1), some (.long y2), none, some (.int x4), some (.int x5), some (.int x6), some (.int x7)], [.int x6], σ)) rfl <|
      mi_T.br (P := x6 = 0) (fun _ => rfl)
      (fun h2 => (k3 h1 h2))
      (fun h2 => mi_T.go 3 (s1 := (92, [some (.ref 38), some (.int x1), some (.long y2), none, some (.int x4), some (.int x5), some (.int x6), some (.int x7)], [.int x7, .ref 39], σ)) rfl <|
      mi_T.li rfl rfl (b2 h1 h2) <|
      mi_T.go 1 (s1 := (95, [some (.ref 38), some (.int x1), some (.long y2), none, some (.int x4), some (.int x5), some (.int x6), some (.int x7)], [.int 48, .int (σ.1 39 x7.toNatClampNeg)], σ)) rfl <|
      mi_T.br (P := (σ.1 39 x7.toNatClampNeg) < 48) (fun _ => rfl)
      (fun h3 => (k4 h1 h2 h3))
      (fun h3 => mi_T.go 3 (s1 := (104, [some (.ref 38), some (.int x1), some (.long y2), none, some (.int x4), some (.int x5), some (.int x6), some (.int x7)], [.int x7, .ref 39], σ)) rfl <|
      mi_T.li rfl rfl (b3 h1 h2 h3) <|
      mi_T.go 1 (s1 := (107, [some (.ref 38), some (.int x1), some (.long y2), none, some (.int x4), some (.int x5), some (.int x6), some (.int x7)], [.int 57, .int (σ.1 39 x7.toNatClampNeg)], σ)) rfl <|
      mi_T.br (P := 57 < (σ.1 39 x7.toNatClampNeg)) (fun _ => rfl)
      (fun h4 => (k5 h1 h2 h3 h4))
      (fun h4 => mi_T.go 2 (s1 := (115, [some (.ref 38), some (.int x1), some (.long y2), none, some (.int x4), some (.int x5), some (.int x6), some (.int x7)], [.int 1], σ)) rfl <|
      (k6 h1 h2 h3 h4)))))

theorem R167_114 {X : Nat × (Nat → Int32)} {d : Nat} {r : mA mG} {σ : mG} {x1 : Int32} {y2 : Int64} {x4 : Int32} {x5 : Int32} {x6 : Int32} {x7 : Int32}
    (k1 : TT X d tb167 (some .int) (115, [some (.ref 38), some (.int x1), some (.long y2), none, some (.int x4), some (.int x5), some (.int x6), some (.int x7)], [.int 0], σ) r)
    : TT X d tb167 (some .int) (114, [some (.ref 38), some (.int x1), some (.long y2), none, some (.int x4), some (.int x5), some (.int x6), some (.int x7)], [], σ) r := mi_T.go 1 (s1 := (115, [some (.ref 38), some (.int x1), some (.long y2), none, some (.int x4), some (.int x5), some (.int x6), some (.int x7)], [.int 0], σ)) rfl <|
      k1

theorem R167_115 {X : Nat × (Nat → Int32)} {d : Nat} {r : mA mG} {σ : mG} {x1 : Int32} {y2 : Int64} {x4 : Int32} {x5 : Int32} {x6 : Int32} {x7 : Int32} {xs0 : Int32}
    (k1 : xs0 = 0 → TT X d tb167 (some .int) (143, [some (.ref 38), some (.int x1), some (.long y2), none, some (.int x4), some (.int x5), some (.int xs0), some (.int x7)], [.int x5], σ) r)
    (b1 : ¬ (xs0 = 0) → mi_in x7 400 = true)
    (k2 : ¬ (xs0 = 0) → TT X d tb167 (some .int) (143, [some (.ref 38), some (.int x1), some (.long y2), none, some (.int x4), some (.int x5), some (.int xs0), some (.int x7)], [.int (((x5 * 10) + (σ.1 39 x7.toNatClampNeg)) - 48)], σ) r)
    : TT X d tb167 (some .int) (115, [some (.ref 38), some (.int x1), some (.long y2), none, some (.int x4), some (.int x5), some (.int x6), some (.int x7)], [.int xs0], σ) r := mi_T.go 2 (s1 := (119, [some (.ref 38), some (.int x1), some (.long y2), none, some (.int x4), some (.int x5), some (.int xs0), some (.int x7)], [.int xs0], σ)) rfl <|
      mi_T.br (P := xs0 = 0) (fun _ => rfl)
      (fun h1 => mi_T.go 1 (s1 := (143, [some (.ref 38), some (.int x1), some (.long y2), none, some (.int x4), some (.int x5), some (.int xs0), some (.int x7)], [.int x5], σ)) rfl <|
      (k1 h1))
      (fun h1 => mi_T.go 6 (s1 := (133, [some (.ref 38), some (.int x1), some (.long y2), none, some (.int x4), some (.int x5), some (.int xs0), some (.int x7)], [.int x7, .ref 39, .int (x5 * 10)], σ)) rfl <|
      mi_T.li rfl rfl (b1 h1) <|
      mi_T.go 4 (s1 := (143, [some (.ref 38), some (.int x1), some (.long y2), none, some (.int x4), some (.int x5), some (.int xs0), some (.int x7)], [.int (((x5 * 10) + (σ.1 39 x7.toNatClampNeg)) - 48)], σ)) rfl <|
      (k2 h1))

theorem R167_143 {X : Nat × (Nat → Int32)} {d : Nat} {r : mA mG} {σ : mG} {x1 : Int32} {y2 : Int64} {x4 : Int32} {x5 : Int32} {x6 : Int32} {x7 : Int32} {xs0 : Int32}
    (k1 : TT X d tb167 (some .int) (69, [some (.ref 38), some (.int x1), some (.long y2), none, some (.int x4), some (.int xs0), some (.int x6), some (.int (x7 + 1))], [], σ) r)
    : TT X d tb167 (some .int) (143, [some (.ref 38), some (.int x1), some (.long y2), none, some (.int x4), some (.int x5), some (.int x6), some (.int x7)], [.int xs0], σ) r := mi_T.go 3 (s1 := (69, [some (.ref 38), some (.int x1), some (.long y2), none, some (.int x4), some (.int xs0), some (.int x6), some (.int (x7 + 1))], [], σ)) rfl <|
      k1

-- AssertionGateModel.same(II)Z
theorem R168_0 {X : Nat × (Nat → Int32)} {d : Nat} {r : mA mG} {σ : mG} {x1 : Int32} {x2 : Int32}
    (b1 : mi_in x1 80 = true)
    (b2 : mi_in x1 80 = true)
    (b3 : mi_in x2 80 = true)
    (b4 : mi_in x2 80 = true)
    (k1 : ¬ ((σ.1 62 x1.toNatClampNeg) - (σ.1 61 x1.toNatClampNeg)) = ((σ.1 62 x2.toNatClampNeg) - (σ.1 61 x2.toNatClampNeg)) → TT X d tb168 (some .boolean) (41, [some (.ref 38), some (.int x1), some (.int x2), some (.int ((σ.1 62 x1.toNatClampNeg) - (σ.1 61 x1.toNatClampNeg))), some (.int 0), some (.int 0)], [], σ) r)
    (k2 : ¬ (¬ ((σ.1 62 x1.toNatClampNeg) - (σ.1 61 x1.toNatClampNeg)) = ((σ.1 62 x2.toNatClampNeg) - (σ.1 61 x2.toNatClampNeg))) → TT X d tb168 (some .boolean) (41, [some (.ref 38), some (.int x1), some (.int x2), some (.int ((σ.1 62 x1.toNatClampNeg) - (σ.1 61 x1.toNatClampNeg))), some (.int 1), some (.int 0)], [], σ) r)
    : TT X d tb168 (some .boolean) (0, [some (.ref 38), some (.int x1), some (.int x2), none, none, none], [], σ) r := mi_T.go 3 (s1 := (5, [some (.ref 38), some (.int x1), some (.int x2), none, none, none], [.int x1, .ref 62], σ)) rfl <|
      mi_T.li rfl rfl (b1) <|
      mi_T.go 3 (s1 := (11, [some (.ref 38), some (.int x1), some (.int x2), none, none, none], [.int x1, .ref 61, .int (σ.1 62 x1.toNatClampNeg)], σ)) rfl <|
      mi_T.li rfl rfl (b2) <|
      mi_T.go 6 (s1 := (20, [some (.ref 38), some (.int x1), some (.int x2), some (.int ((σ.1 62 x1.toNatClampNeg) - (σ.1 61 x1.toNatClampNeg))), none, none], [.int x2, .ref 62, .int ((σ.1 62 x1.toNatClampNeg) - (σ.1 61 x1.toNatClampNeg))], σ)) rfl <|
      mi_T.li rfl rfl (b3) <|
      mi_T.go 3 (s1 := (26, [some (.ref 38), some (.int x1), some (.int x2), some (.int ((σ.1 62 x1.toNatClampNeg) - (σ.1 61 x1.toNatClampNeg))), none, none], [.int x2, .ref 61, .int (σ.1 62 x2.toNatClampNeg), .int ((σ.1 62 x1.toNatClampNeg) - (σ.1 61 x1.toNatClampNeg))], σ)) rfl <|
      mi_T.li rfl rfl (b4) <|
      mi_T.go 1 (s1 := (28, [some (.ref 38), some (.int x1), some (.int x2), some (.int ((σ.1 62 x1.toNatClampNeg) - (σ.1 61 x1.toNatClampNeg))), none, none], [.int ((σ.1 62 x2.toNatClampNeg) - (σ.1 61 x2.toNatClampNeg)), .int ((σ.1 62 x1.toNatClampNeg) - (σ.1 61 x1.toNatClampNeg))], σ)) rfl <|
      mi_T.br (P := ¬ ((σ.1 62 x1.toNatClampNeg) - (σ.1 61 x1.toNatClampNeg)) = ((σ.1 62 x2.toNatClampNeg) - (σ.1 61 x2.toNatClampNeg))) (fun _ => rfl)
      (fun h1 => mi_T.go 4 (s1 := (41, [some (.ref 38), some (.int x1), some (.int x2), some (.int ((σ.1 62 x1.toNatClampNeg) - (σ.1 61 x1.toNatClampNeg))), some (.int 0), some (.int 0)], [], σ)) rfl <|
      (k1 h1))
      (fun h1 => mi_T.go 5 (s1 := (41, [some (.ref 38), some (.int x1), some (.int x2), some (.int ((σ.1 62 x1.toNatClampNeg) - (σ.1 61 x1.toNatClampNeg))), some (.int 1), some (.int 0)], [], σ)) rfl <|
      (k2 h1))

theorem R168_41 {X : Nat × (Nat → Int32)} {d : Nat} {r : mA mG} {σ : mG} {x1 : Int32} {x2 : Int32} {x3 : Int32} {x4 : Int32} {x5 : Int32}
    (k1 : x3 ≤ x5 → r = (some (.int x4), σ))
    (b1 : x3 ≤ x5 → x4 = 0 ∨ x4 = 1)
    (k2 : ¬ (x3 ≤ x5) → x4 = 0 → r = (some (.int x4), σ))
    (b2 : ¬ (x3 ≤ x5) → x4 = 0 → x4 = 0 ∨ x4 = 1)
    (b3 : ¬ (x3 ≤ x5) → ¬ (x4 = 0) → mi_in x1 80 = true)
    (b4 : ¬ (x3 ≤ x5) → ¬ (x4 = 0) → mi_in ((σ.1 61 x1.toNatClampNeg) + x5) 400 = true)
    (b5 : ¬ (x3 ≤ x5) → ¬ (x4 = 0) → mi_in x2 80 = true)
    (b6 : ¬ (x3 ≤ x5) → ¬ (x4 = 0) → mi_in ((σ.1 61 x2.toNatClampNeg) + x5) 400 = true)
    (k3 : ¬ (x3 ≤ x5) → ¬ (x4 = 0) → ¬ (σ.1 39 (((σ.1 61 x1.toNatClampNeg) + x5).toNatClampNeg)) = (σ.1 39 (((σ.1 61 x2.toNatClampNeg) + x5).toNatClampNeg)) → TT X d tb168 (some .boolean) (41, [some (.ref 38), some (.int x1), some (.int x2), some (.int x3), some (.int 0), some (.int (x5 + 1))], [], σ) r)
    (k4 : ¬ (x3 ≤ x5) → ¬ (x4 = 0) → ¬ (¬ (σ.1 39 (((σ.1 61 x1.toNatClampNeg) + x5).toNatClampNeg)) = (σ.1 39 (((σ.1 61 x2.toNatClampNeg) + x5).toNatClampNeg))) → TT X d tb168 (some .boolean) (41, [some (.ref 38), some (.int x1), some (.int x2), some (.int x3), some (.int 1), some (.int (x5 + 1))], [], σ) r)
    : TT X d tb168 (some .boolean) (41, [some (.ref 38), some (.int x1), some (.int x2), some (.int x3), some (.int x4), some (.int x5)], [], σ) r := mi_T.go 2 (s1 := (44, [some (.ref 38), some (.int x1), some (.int x2), some (.int x3), some (.int x4), some (.int x5)], [.int x3, .int x5], σ)) rfl <|
      mi_T.br (P := x3 ≤ x5) (fun _ => rfl)
      (fun h1 => mi_T.go 1 (s1 := (98, [some (.ref 38), some (.int x1), some (.int x2), some (.int x3), some (.int x4), some (.int x5)], [.int x4], σ)) rfl <|
      mi_T.finz rfl (b1 h1) (k1 h1))
      (fun h1 => mi_T.go 1 (s1 := (49, [some (.ref 38), some (.int x1), some (.int x2), some (.int x3), some (.int x4), some (.int x5)], [.int x4], σ)) rfl <|
      mi_T.br (P := x4 = 0) (fun _ => rfl)
      (fun h2 => mi_T.go 1 (s1 := (98, [some (.ref 38), some (.int x1), some (.int x2), some (.int x3), some (.int x4), some (.int x5)], [.int x4], σ)) rfl <|
      mi_T.finz rfl (b2 h1 h2) (k2 h1 h2))
      (fun h2 => mi_T.go 5 (s1 := (61, [some (.ref 38), some (.int x1), some (.int x2), some (.int x3), some (.int x4), some (.int x5)], [.int x1, .ref 61, .ref 39], σ)) rfl <|
      mi_T.li rfl rfl (b3 h1 h2) <|
      mi_T.go 2 (s1 := (65, [some (.ref 38), some (.int x1), some (.int x2), some (.int x3), some (.int x4), some (.int x5)], [.int ((σ.1 61 x1.toNatClampNeg) + x5), .ref 39], σ)) rfl <|
      mi_T.li rfl rfl (b4 h1 h2) <|
      mi_T.go 5 (s1 := (75, [some (.ref 38), some (.int x1), some (.int x2), some (.int x3), some (.int x4), some (.int x5)], [.int x2, .ref 61, .ref 39, .int (σ.1 39 (((σ.1 61 x1.toNatClampNeg) + x5).toNatClampNeg))], σ)) rfl <|
      mi_T.li rfl rfl (b5 h1 h2) <|
      mi_T.go 2 (s1 := (79, [some (.ref 38), some (.int x1), some (.int x2), some (.int x3), some (.int x4), some (.int x5)], [.int ((σ.1 61 x2.toNatClampNeg) + x5), .ref 39, .int (σ.1 39 (((σ.1 61 x1.toNatClampNeg) + x5).toNatClampNeg))], σ)) rfl <|
      mi_T.li rfl rfl (b6 h1 h2) <|
      mi_T.br (P := ¬ (σ.1 39 (((σ.1 61 x1.toNatClampNeg) + x5).toNatClampNeg)) = (σ.1 39 (((σ.1 61 x2.toNatClampNeg) + x5).toNatClampNeg))) (fun _ => rfl)
      (fun h3 => mi_T.go 4 (s1 := (41, [some (.ref 38), some (.int x1), some (.int x2), some (.int x3), some (.int 0), some (.int (x5 + 1))], [], σ)) rfl <|
      (k3 h1 h2 h3))
      (fun h3 => mi_T.go 5 (s1 := (41, [some (.ref 38), some (.int x1), some (.int x2), some (.int x3), some (.int 1), some (.int (x5 + 1))], [], σ)) rfl <|
      (k4 h1 h2 h3))))

-- AssertionGateModel.children(IJ)I
theorem R169_0 {X : Nat × (Nat → Int32)} {d : Nat} {r : mA mG} {σ : mG} {x1 : Int32} {y2 : Int64}
    (k1 : TT X d tb169 (some .int) (6, [some (.ref 38), some (.int x1), some (.long y2), none, some (.int 0), some (.int 0)], [], σ) r)
    : TT X d tb169 (some .int) (0, [some (.ref 38), some (.int x1), some (.long y2), none, none, none], [], σ) r := mi_T.go 4 (s1 := (6, [some (.ref 38), some (.int x1), some (.long y2), none, some (.int 0), some (.int 0)], [], σ)) rfl <|
      k1

theorem R169_6 {X : Nat × (Nat → Int32)} {d : Nat} {r : mA mG} {σ : mG} {x1 : Int32} {y2 : Int64} {x4 : Int32} {x5 : Int32}
    (k1 : (σ.1 38 22) ≤ x5 → r = (some (.int x4), σ))
    (b1 : ¬ ((σ.1 38 22) ≤ x5) → mi_in x5 20 = true)
    (k2 : ¬ ((σ.1 38 22) ≤ x5) → ¬ (σ.1 53 x5.toNatClampNeg) = x1 → TT X d tb169 (some .int) (6, [some (.ref 38), some (.int x1), some (.long y2), none, some (.int (x4 + 0)), some (.int (x5 + 1))], [], σ) r)
    (b2 : ¬ ((σ.1 38 22) ≤ x5) → ¬ (¬ (σ.1 53 x5.toNatClampNeg) = x1) → mi_in x5 20 = true)
    (k3 : ¬ ((σ.1 38 22) ≤ x5) → ¬ (¬ (σ.1 53 x5.toNatClampNeg) = x1) → ¬ (lg_cmp (σ.2 52 x5.toNatClampNeg) y2) = 0 → TT X d tb169 (some .int) (6, [some (.ref 38), some (.int x1), some (.long y2), none, some (.int (x4 + 0)), some (.int (x5 + 1))], [], σ) r)
    (k4 : ¬ ((σ.1 38 22) ≤ x5) → ¬ (¬ (σ.1 53 x5.toNatClampNeg) = x1) → ¬ (¬ (lg_cmp (σ.2 52 x5.toNatClampNeg) y2) = 0) → TT X d tb169 (some .int) (6, [some (.ref 38), some (.int x1), some (.long y2), none, some (.int (x4 + 1)), some (.int (x5 + 1))], [], σ) r)
    : TT X d tb169 (some .int) (6, [some (.ref 38), some (.int x1), some (.long y2), none, some (.int x4), some (.int x5)], [], σ) r := mi_T.go 3 (s1 := (12, [some (.ref 38), some (.int x1), some (.long y2), none, some (.int x4), some (.int x5)], [.int (σ.1 38 22), .int x5], σ)) rfl <|
      mi_T.br (P := (σ.1 38 22) ≤ x5) (fun _ => rfl)
      (fun h1 => mi_T.go 1 (s1 := (56, [some (.ref 38), some (.int x1), some (.long y2), none, some (.int x4), some (.int x5)], [.int x4], σ)) rfl <|
      mi_T.fin (k1 h1) (fun _ => rfl))
      (fun h1 => mi_T.go 4 (s1 := (23, [some (.ref 38), some (.int x1), some (.long y2), none, some (.int x4), some (.int x5)], [.int x5, .ref 53, .int x4], σ)) rfl <|
      mi_T.li rfl rfl (b1 h1) <|
      mi_T.go 1 (s1 := (25, [some (.ref 38), some (.int x1), some (.long y2), none, some (.int x4), some (.int x5)], [.int x1, .int (σ.1 53 x5.toNatClampNeg), .int x4], σ)) rfl <|
      mi_T.br (P := ¬ (σ.1 53 x5.toNatClampNeg) = x1) (fun _ => rfl)
      (fun h2 => mi_T.go 5 (s1 := (6, [some (.ref 38), some (.int x1), some (.long y2), none, some (.int (x4 + 0)), some (.int (x5 + 1))], [], σ)) rfl <|
      (k2 h1 h2))
      (fun h2 => mi_T.go 3 (s1 := (34, [some (.ref 38), some (.int x1), some (.long y2), none, some (.int x4), some (.int x5)], [.int x5, .ref 52, .int x4], σ)) rfl <|
      mi_T.lj rfl rfl (b2 h1 h2) <|
      mi_T.go 2 (s1 := (37, [some (.ref 38), some (.int x1), some (.long y2), none, some (.int x4), some (.int x5)], [.int (lg_cmp (σ.2 52 x5.toNatClampNeg) y2), .int x4], σ)) rfl <|
      mi_T.br (P := ¬ (lg_cmp (σ.2 52 x5.toNatClampNeg) y2) = 0) (fun _ => rfl)
      (fun h3 => mi_T.go 5 (s1 := (6, [some (.ref 38), some (.int x1), some (.long y2), none, some (.int (x4 + 0)), some (.int (x5 + 1))], [], σ)) rfl <|
      (k3 h1 h2 h3))
      (fun h3 => mi_T.go 6 (s1 := (6, [some (.ref 38), some (.int x1), some (.long y2), none, some (.int (x4 + 1)), some (.int (x5 + 1))], [], σ)) rfl <|
      (k4 h1 h2 h3))))

-- AssertionGateModel.child(IJ)I
theorem R170_0 {X : Nat × (Nat → Int32)} {d : Nat} {r : mA mG} {σ : mG} {x1 : Int32} {y2 : Int64}
    (k1 : TT X d tb170 (some .int) (3, [some (.ref 38), some (.int x1), some (.long y2), none, some (.int 0)], [], σ) r)
    : TT X d tb170 (some .int) (0, [some (.ref 38), some (.int x1), some (.long y2), none, none], [], σ) r := mi_T.go 2 (s1 := (3, [some (.ref 38), some (.int x1), some (.long y2), none, some (.int 0)], [], σ)) rfl <|
      k1

theorem R170_3 {X : Nat × (Nat → Int32)} {d : Nat} {r : mA mG} {σ : mG} {x1 : Int32} {y2 : Int64} {x4 : Int32}
    (k1 : (σ.1 38 22) ≤ x4 → r = (some (.int (-1)), σ))
    (b1 : ¬ ((σ.1 38 22) ≤ x4) → mi_in x4 20 = true)
    (k2 : ¬ ((σ.1 38 22) ≤ x4) → ¬ (σ.1 53 x4.toNatClampNeg) = x1 → TT X d tb170 (some .int) (3, [some (.ref 38), some (.int x1), some (.long y2), none, some (.int (x4 + 1))], [], σ) r)
    (b2 : ¬ ((σ.1 38 22) ≤ x4) → ¬ (¬ (σ.1 53 x4.toNatClampNeg) = x1) → mi_in x4 20 = true)
    (k3 : ¬ ((σ.1 38 22) ≤ x4) → ¬ (¬ (σ.1 53 x4.toNatClampNeg) = x1) → ¬ (lg_cmp (σ.2 52 x4.toNatClampNeg) y2) = 0 → TT X d tb170 (some .int) (3, [some (.ref 38), some (.int x1), some (.long y2), none, some (.int (x4 + 1))], [], σ) r)
    (k4 : ¬ ((σ.1 38 22) ≤ x4) → ¬ (¬ (σ.1 53 x4.toNatClampNeg) = x1) → ¬ (¬ (lg_cmp (σ.2 52 x4.toNatClampNeg) y2) = 0) → r = (some (.int x4), σ))
    : TT X d tb170 (some .int) (3, [some (.ref 38), some (.int x1), some (.long y2), none, some (.int x4)], [], σ) r := mi_T.go 3 (s1 := (9, [some (.ref 38), some (.int x1), some (.long y2), none, some (.int x4)], [.int (σ.1 38 22), .int x4], σ)) rfl <|
      mi_T.br (P := (σ.1 38 22) ≤ x4) (fun _ => rfl)
      (fun h1 => mi_T.go 1 (s1 := (45, [some (.ref 38), some (.int x1), some (.long y2), none, some (.int x4)], [.int (-1)], σ)) rfl <|
      mi_T.fin (k1 h1) (fun _ => rfl))
      (fun h1 => mi_T.go 3 (s1 := (18, [some (.ref 38), some (.int x1), some (.long y2), none, some (.int x4)], [.int x4, .ref 53], σ)) rfl <|
      mi_T.li rfl rfl (b1 h1) <|
      mi_T.go 1 (s1 := (20, [some (.ref 38), some (.int x1), some (.long y2), none, some (.int x4)], [.int x1, .int (σ.1 53 x4.toNatClampNeg)], σ)) rfl <|
      mi_T.br (P := ¬ (σ.1 53 x4.toNatClampNeg) = x1) (fun _ => rfl)
      (fun h2 => mi_T.go 2 (s1 := (3, [some (.ref 38), some (.int x1), some (.long y2), none, some (.int (x4 + 1))], [], σ)) rfl <|
      (k2 h1 h2))
      (fun h2 => mi_T.go 3 (s1 := (29, [some (.ref 38), some (.int x1), some (.long y2), none, some (.int x4)], [.int x4, .ref 52], σ)) rfl <|
      mi_T.lj rfl rfl (b2 h1 h2) <|
      mi_T.go 2 (s1 := (32, [some (.ref 38), some (.int x1), some (.long y2), none, some (.int x4)], [.int (lg_cmp (σ.2 52 x4.toNatClampNeg) y2)], σ)) rfl <|
      mi_T.br (P := ¬ (lg_cmp (σ.2 52 x4.toNatClampNeg) y2) = 0) (fun _ => rfl)
      (fun h3 => mi_T.go 2 (s1 := (3, [some (.ref 38), some (.int x1), some (.long y2), none, some (.int (x4 + 1))], [], σ)) rfl <|
      (k3 h1 h2 h3))
      (fun h3 => mi_T.go 1 (s1 := (37, [some (.ref 38), some (.int x1), some (.long y2), none, some (.int x4)], [.int x4], σ)) rfl <|
      mi_T.fin (k4 h1 h2 h3) (fun _ => rfl))))

-- AssertionGateModel.oneWord(IJ)Z
theorem R171_0 {X : Nat × (Nat → Int32)} {d : Nat} {r : mA mG} {σ : mG} {x1 : Int32} {y2 : Int64} {v1 : Int32} {σ1 : mG} {v2 : Int32} {σ2 : mG} {v3 : Int64} {σ3 : mG}
    (c1 : RR X d 169 [.ref 38, .int x1, .long y2] σ (some (.int v1), σ1))
    (k1 : ¬ v1 = 1 → r = (some (.int 0), σ1))
    (c2 : ¬ (¬ v1 = 1) → RR X d 170 [.ref 38, .int x1, .long y2] σ1 (some (.int v2), σ2))
    (c3 : ¬ (¬ v1 = 1) → RR X d 165 [.ref 38, .int v2] σ2 (some (.long v3), σ3))
    (k2 : ¬ (¬ v1 = 1) → (lg_cmp v3 0) = 0 → r = (some (.int 0), σ3))
    (k3 : ¬ (¬ v1 = 1) → ¬ ((lg_cmp v3 0) = 0) → r = (some (.int 1), σ3))
    : TT X d tb171 (some .boolean) (0, [some (.ref 38), some (.int x1), some (.long y2), none], [], σ) r := mi_T.go 3 (s1 := (3, [some (.ref 38), some (.int x1), some (.long y2), none], [.long y2, .int x1, .ref 38], σ)) rfl <|
      mi_T.call (as := [.ref 38, .int x1, .long y2]) (rest := []) (v := some (.int v1)) rfl rfl rfl rfl rfl (c1) <|
      mi_T.go 1 (s1 := (7, [some (.ref 38), some (.int x1), some (.long y2), none], [.int 1, .int v1], σ1)) rfl <|
      mi_T.br (P := ¬ v1 = 1) (fun _ => rfl)
      (fun h1 => mi_T.go 1 (s1 := (30, [some (.ref 38), some (.int x1), some (.long y2), none], [.int 0], σ1)) rfl <|
      mi_T.fin (k1 h1) (fun _ => rfl))
      (fun h1 => mi_T.go 4 (s1 := (14, [some (.ref 38), some (.int x1), some (.long y2), none], [.long y2, .int x1, .ref 38, .ref 38], σ1)) rfl <|
      mi_T.call (as := [.ref 38, .int x1, .long y2]) (rest := [.ref 38]) (v := some (.int v2)) rfl rfl rfl rfl rfl (c2 h1) <|
      mi_T.call (as := [.ref 38, .int v2]) (rest := []) (v := some (.long v3)) rfl rfl rfl rfl rfl (c3 h1) <|
      mi_T.go 2 (s1 := (22, [some (.ref 38), some (.int x1), some (.long y2), none], [.int (lg_cmp v3 0)], σ3)) rfl <|
      mi_T.br (P := (lg_cmp v3 0) = 0) (fun _ => rfl)
      (fun h2 => mi_T.go 1 (s1 := (30, [some (.ref 38), some (.int x1), some (.long y2), none], [.int 0], σ3)) rfl <|
      mi_T.fin (k2 h1 h2) (fun _ => rfl))
      (fun h2 => mi_T.go 2 (s1 := (30, [some (.ref 38), some (.int x1), some (.long y2), none], [.int 1], σ3)) rfl <|
      mi_T.fin (k3 h1 h2) (fun _ => rfl)))

-- AssertionGateModel.sigs(I)Z
theorem R172_0 {X : Nat × (Nat → Int32)} {d : Nat} {r : mA mG} {σ : mG} {x1 : Int32} {v1 : Int32} {σ1 : mG} {v2 : Int32} {σ2 : mG} {v3 : Int32} {σ3 : mG} {v4 : Int32} {σ4 : mG}
    (c1 : RR X d 170 [.ref 38, .int x1, .long 126896536813568] σ (some (.int v1), σ1))
    (k1 : v1 < 0 → r = (some (.int 1), σ1))
    (c2 : ¬ (v1 < 0) → RR X d 169 [.ref 38, .int x1, .long 126896536813568] σ1 (some (.int v2), σ2))
    (k2 : ¬ (v1 < 0) → ¬ v2 = 1 → r = (some (.int 0), σ2))
    (c3 : ¬ (v1 < 0) → ¬ (¬ v2 = 1) → RR X d 148 [.ref 38, .int v1, .long 125779828539392] σ2 (some (.int v3), σ3))
    (k3 : ¬ (v1 < 0) → ¬ (¬ v2 = 1) → v3 < 0 → r = (some (.int 0), σ3))
    (c4 : ¬ (v1 < 0) → ¬ (¬ v2 = 1) → ¬ (v3 < 0) → RR X d 167 [.ref 38, .int v1, .long 129742372077568] σ3 (some (.int v4), σ4))
    (k4 : ¬ (v1 < 0) → ¬ (¬ v2 = 1) → ¬ (v3 < 0) → v4 < 0 → r = (some (.int 0), σ4))
    (k5 : ¬ (v1 < 0) → ¬ (¬ v2 = 1) → ¬ (v3 < 0) → ¬ (v4 < 0) → r = (some (.int 1), σ4))
    : TT X d tb172 (some .boolean) (0, [some (.ref 38), some (.int x1), none], [], σ) r := mi_T.go 3 (s1 := (5, [some (.ref 38), some (.int x1), none], [.long 126896536813568, .int x1, .ref 38], σ)) rfl <|
      mi_T.call (as := [.ref 38, .int x1, .long 126896536813568]) (rest := []) (v := some (.int v1)) rfl rfl rfl rfl rfl (c1) <|
      mi_T.go 2 (s1 := (10, [some (.ref 38), some (.int x1), some (.int v1)], [.int v1], σ1)) rfl <|
      mi_T.br (P := v1 < 0) (fun _ => rfl)
      (fun h1 => mi_T.go 2 (s1 := (52, [some (.ref 38), some (.int x1), some (.int v1)], [.int 1], σ1)) rfl <|
      mi_T.fin (k1 h1) (fun _ => rfl))
      (fun h1 => mi_T.go 3 (s1 := (18, [some (.ref 38), some (.int x1), some (.int v1)], [.long 126896536813568, .int x1, .ref 38], σ1)) rfl <|
      mi_T.call (as := [.ref 38, .int x1, .long 126896536813568]) (rest := []) (v := some (.int v2)) rfl rfl rfl rfl rfl (c2 h1) <|
      mi_T.go 1 (s1 := (22, [some (.ref 38), some (.int x1), some (.int v1)], [.int 1, .int v2], σ2)) rfl <|
      mi_T.br (P := ¬ v2 = 1) (fun _ => rfl)
      (fun h2 => mi_T.go 1 (s1 := (52, [some (.ref 38), some (.int x1), some (.int v1)], [.int 0], σ2)) rfl <|
      mi_T.fin (k2 h1 h2) (fun _ => rfl))
      (fun h2 => mi_T.go 3 (s1 := (30, [some (.ref 38), some (.int x1), some (.int v1)], [.long 125779828539392, .int v1, .ref 38], σ2)) rfl <|
      mi_T.call (as := [.ref 38, .int v1, .long 125779828539392]) (rest := []) (v := some (.int v3)) rfl rfl rfl rfl rfl (c3 h1 h2) <|
      mi_T.br (P := v3 < 0) (fun _ => rfl)
      (fun h3 => mi_T.go 1 (s1 := (52, [some (.ref 38), some (.int x1), some (.int v1)], [.int 0], σ3)) rfl <|
      mi_T.fin (k3 h1 h2 h3) (fun _ => rfl))
      (fun h3 => mi_T.go 3 (s1 := (41, [some (.ref 38), some (.int x1), some (.int v1)], [.long 129742372077568, .int v1, .ref 38], σ3)) rfl <|
      mi_T.call (as := [.ref 38, .int v1, .long 129742372077568]) (rest := []) (v := some (.int v4)) rfl rfl rfl rfl rfl (c4 h1 h2 h3) <|
      mi_T.br (P := v4 < 0) (fun _ => rfl)
      (fun h4 => mi_T.go 1 (s1 := (52, [some (.ref 38), some (.int x1), some (.int v1)], [.int 0], σ4)) rfl <|
      mi_T.fin (k4 h1 h2 h3 h4) (fun _ => rfl))
      (fun h4 => mi_T.go 2 (s1 := (52, [some (.ref 38), some (.int x1), some (.int v1)], [.int 1], σ4)) rfl <|
      mi_T.fin (k5 h1 h2 h3 h4) (fun _ => rfl)))))

