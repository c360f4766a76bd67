/-! What an issuer writes -/
abbrev w1000 : List Nat := [60, 114, 101, 115, 112, 32, 105, 100, 61, 34, 114]
abbrev w1001 : List Nat := [34, 32, 105, 114, 116, 61, 34]
abbrev w1002 : List Nat := [34, 32, 116, 111, 61, 34, 97, 99, 115, 34, 62]
abbrev w1003 : List Nat := [60, 105, 115, 115, 62, 112]
abbrev w1004 : List Nat := [60, 47, 105, 115, 115, 62]
abbrev w1005 : List Nat := [60, 115, 116, 97, 116, 62, 111, 107, 60, 47, 115, 116, 97, 116, 62]
abbrev w1006 : List Nat := [60, 97, 115, 115, 110, 32, 105, 100, 61, 34, 97]
abbrev w1007 : List Nat := [34, 62]
abbrev w1008 : List Nat := [60, 115, 117, 98, 106, 62]
abbrev w1009 : List Nat := [60, 110, 97, 109, 101, 62, 117]
abbrev w1010 : List Nat := [60, 47, 110, 97, 109, 101, 62]
abbrev w1011 : List Nat := [60, 99, 111, 110, 102, 32, 105, 114, 116, 61, 34]
abbrev w1012 : List Nat := [34, 32, 110, 111, 97, 61, 34]
abbrev w1013 : List Nat := [34, 32, 114, 99, 112, 61, 34, 97, 99, 115, 34, 47, 62, 60, 47, 115, 117, 98, 106, 62, 60, 99, 111, 110, 100, 32, 97, 117, 100, 61, 34, 115, 112, 34, 32, 110, 98, 61, 34]
abbrev w1014 : List Nat := [34, 47, 62]
abbrev w1015 : List Nat := [60, 47, 97, 115, 115, 110, 62, 60, 47, 114, 101, 115, 112, 62]
abbrev w1017 : List Nat := [60, 115, 105, 103, 32, 114, 101, 102, 61, 34]
abbrev w1018 : List Nat := [34, 32, 118, 61, 34]
abbrev w1019 : List Nat := [60, 47, 97, 115, 115, 110, 62]
abbrev w1020 : List Nat := [60, 47, 114, 101, 115, 112, 62]
abbrev w1021 : List Nat := [60, 111, 117, 116, 32, 105, 100, 61, 34, 111]
abbrev w1022 : List Nat := [60, 47, 111, 117, 116, 62]
theorem D10_10 (x : Nat) : (D10 x).length ≤ 10 := by
  have := dl_9 x 9 0
  unfold D10
  rw [dg_len]
  omega
def cIss (k : Nat) : List Nat := w1003 ++ (D10 k ++ w1004)
def cUsr (u : Nat) : List Nat := w1009 ++ (D10 u ++ w1010)
def cHead (i r k : Nat) : List Nat := w1000 ++ (D10 i ++ (w1001 ++ (D10 r ++ (w1002 ++ (cIss k ++ w1005)))))
def cAssn (i k r u e c : Nat) : List Nat := w1006 ++ (D10 i ++ (w1007 ++ (cIss k ++ (w1008 ++ (cUsr u ++ (w1011 ++ (D10 r ++ (w1012 ++ (D10 e ++ (w1013 ++ (D10 c ++ (w1012 ++ (D10 e ++ w1014)))))))))))))
def cSig (x i v : Nat) : List Nat := w1017 ++ ([x] ++ (D10 i ++ (w1018 ++ (D10 v ++ w1014))))
def oSig (x i : Nat) : Option Nat → List Nat
  | none => []
  | some v => cSig x i v
theorem len_cIss (k : Nat) : (cIss k).length ≤ 22 := by
  have := D10_10 k
  have l3 : w1003.length = 6 := rfl
  have l4 : w1004.length = 6 := rfl
  unfold cIss
  simp only [List.length_append]
  omega
theorem len_cUsr (k : Nat) : (cUsr k).length ≤ 24 := by
  have := D10_10 k
  have l3 : w1009.length = 7 := rfl
  have l4 : w1010.length = 7 := rfl
  unfold cUsr
  simp only [List.length_append]
  omega
section
variable {X : Nat × (Nat → Int32)} {d : Nat}
theorem K9 {k : Nat} (hk : k < 1000000000) {σ : mG} {T : List Nat} (h : pgC σ T) (hl : T.length + 22 ≤ 400) : ∃ σ', RR X (d + 3) 9 [.ref 0, .int (nI k)] σ (none, σ') ∧ fP σ σ' ∧ pgC σ' (T ++ cIss k) := by
  have dd0 := D10_10 k
  have lw1003 : w1003.length = 6 := rfl
  have lw1004 : w1004.length = 6 := rfl
  obtain ⟨s1, a1, f1, p1⟩ := K41 (X := X) (d := d) (w := 1003) (W := w1003) ⟨rfl, by decide, by decide⟩ (by unfold okC; decide) h (by simp only [List.length_append, List.length_cons, List.length_nil]; omega)
  have g1 := f1
  obtain ⟨s2, a2, f2, p2⟩ := K42 (X := X) (d := d) hk p1 (by simp only [List.length_append, List.length_cons, List.length_nil]; omega)
  have g2 := g1.tr f2
  obtain ⟨s3, a3, f3, p3⟩ := K41 (X := X) (d := d) (w := 1004) (W := w1004) ⟨rfl, by decide, by decide⟩ (by unfold okC; decide) p2 (by simp only [List.length_append, List.length_cons, List.length_nil]; omega)
  have g3 := g2.tr f3
  refine ⟨s3, mi_R.of rfl rfl (R9_0 a1 a2 a3 rfl), g3, ?_⟩
  unfold cIss
  simp only [List.append_assoc] at p3 ⊢
  exact p3
theorem K10 {k : Nat} (hk : k < 1000000000) {σ : mG} {T : List Nat} (h : pgC σ T) (hl : T.length + 24 ≤ 400) : ∃ σ', RR X (d + 3) 10 [.ref 0, .int (nI k)] σ (none, σ') ∧ fP σ σ' ∧ pgC σ' (T ++ cUsr k) := by
  have dd0 := D10_10 k
  have lw1009 : w1009.length = 7 := rfl
  have lw1010 : w1010.length = 7 := rfl
  obtain ⟨s1, a1, f1, p1⟩ := K41 (X := X) (d := d) (w := 1009) (W := w1009) ⟨rfl, by decide, by decide⟩ (by unfold okC; decide) h (by simp only [List.length_append, List.length_cons, List.length_nil]; omega)
  have g1 := f1
  obtain ⟨s2, a2, f2, p2⟩ := K42 (X := X) (d := d) hk p1 (by simp only [List.length_append, List.length_cons, List.length_nil]; omega)
  have g2 := g1.tr f2
  obtain ⟨s3, a3, f3, p3⟩ := K41 (X := X) (d := d) (w := 1010) (W := w1010) ⟨rfl, by decide, by decide⟩ (by unfold okC; decide) p2 (by simp only [List.length_append, List.length_cons, List.length_nil]; omega)
  have g3 := g2.tr f3
  refine ⟨s3, mi_R.of rfl rfl (R10_0 a1 a2 a3 rfl), g3, ?_⟩
  unfold cUsr
  simp only [List.append_assoc] at p3 ⊢
  exact p3
theorem K7 {i r k : Nat} (hi : i < 1000000000) (hr : r < 1000000000) (hk : k < 1000000000) {σ : mG} {T : List Nat} (h : pgC σ T) (hii : σ.1 0 13 = nI i) (hl : T.length + 86 ≤ 400) : ∃ σ', RR X (d + 4) 7 [.ref 0, .int (nI k), .int (nI r)] σ (none, σ') ∧ fP σ σ' ∧ pgC σ' (T ++ cHead i r k) := by
  have dd0 := D10_10 i
  have dd1 := D10_10 r
  have dd2 := len_cIss k
  have lw1000 : w1000.length = 11 := rfl
  have lw1001 : w1001.length = 7 := rfl
  have lw1002 : w1002.length = 11 := rfl
  have lw1005 : w1005.length = 15 := rfl
  obtain ⟨s1, a1, f1, p1⟩ := K41 (X := X) (d := d + 1) (w := 1000) (W := w1000) ⟨rfl, by decide, by decide⟩ (by unfold okC; decide) h (by simp only [List.length_append, List.length_cons, List.length_nil]; omega)
  have g1 := f1
  obtain ⟨s2, a2, f2, p2⟩ := K42 (X := X) (d := d + 1) hi p1 (by simp only [List.length_append, List.length_cons, List.length_nil]; omega)
  have g2 := g1.tr f2
  obtain ⟨s3, a3, f3, p3⟩ := K41 (X := X) (d := d + 1) (w := 1001) (W := w1001) ⟨rfl, by decide, by decide⟩ (by unfold okC; decide) p2 (by simp only [List.length_append, List.length_cons, List.length_nil]; omega)
  have g3 := g2.tr f3
  obtain ⟨s4, a4, f4, p4⟩ := K42 (X := X) (d := d + 1) hr p3 (by simp only [List.length_append, List.length_cons, List.length_nil]; omega)
  have g4 := g3.tr f4
  obtain ⟨s5, a5, f5, p5⟩ := K41 (X := X) (d := d + 1) (w := 1002) (W := w1002) ⟨rfl, by decide, by decide⟩ (by unfold okC; decide) p4 (by simp only [List.length_append, List.length_cons, List.length_nil]; omega)
  have g5 := g4.tr f5
  obtain ⟨s6, a6, f6, p6⟩ := K9 (X := X) (d := d) hk p5 (by simp only [List.length_append, List.length_cons, List.length_nil]; omega)
  have g6 := g5.tr f6
  obtain ⟨s7, a7, f7, p7⟩ := K41 (X := X) (d := d + 1) (w := 1005) (W := w1005) ⟨rfl, by decide, by decide⟩ (by unfold okC; decide) p6 (by simp only [List.length_append, List.length_cons, List.length_nil]; omega)
  have g7 := g6.tr f7
  refine ⟨s7, mi_R.of rfl rfl (R7_0 a1 (by rw [show s1.1 0 13 = nI i from by rw [g1.2 0 (by omega) (by omega)]; exact hii]; exact a2) a3 a4 a5 a6 a7 rfl), g7, ?_⟩
  unfold cHead
  simp only [List.append_assoc] at p7 ⊢
  exact p7
theorem K8 {i k r u e c : Nat} (hi : i < 1000000000) (hk : k < 1000000000) (hr : r < 1000000000) (hu : u < 1000000000) (he : e < 1000000000) (hc : c < 1000000000) {σ : mG} {T : List Nat} (h : pgC σ T) (hii : σ.1 0 13 = nI i) (hcc : σ.1 0 12 = nI c) (hl : T.length + 183 ≤ 400) : ∃ σ', RR X (d + 4) 8 [.ref 0, .int (nI k), .int (nI r), .int (nI u), .int (nI e)] σ (none, σ') ∧ fP σ σ' ∧ pgC σ' (T ++ cAssn i k r u e c) := by
  have dd0 := D10_10 i
  have dd1 := D10_10 r
  have dd2 := D10_10 e
  have dd3 := D10_10 c
  have dd4 := len_cIss k
  have dd5 := len_cUsr u
  have lw1006 : w1006.length = 11 := rfl
  have lw1007 : w1007.length = 2 := rfl
  have lw1008 : w1008.length = 6 := rfl
  have lw1011 : w1011.length = 11 := rfl
  have lw1012 : w1012.length = 7 := rfl
  have lw1013 : w1013.length = 39 := rfl
  have lw1014 : w1014.length = 3 := rfl
  obtain ⟨s1, a1, f1, p1⟩ := K41 (X := X) (d := d + 1) (w := 1006) (W := w1006) ⟨rfl, by decide, by decide⟩ (by unfold okC; decide) h (by simp only [List.length_append, List.length_cons, List.length_nil]; omega)
  have g1 := f1
  obtain ⟨s2, a2, f2, p2⟩ := K42 (X := X) (d := d + 1) hi p1 (by simp only [List.length_append, List.length_cons, List.length_nil]; omega)
  have g2 := g1.tr f2
  obtain ⟨s3, a3, f3, p3⟩ := K41 (X := X) (d := d + 1) (w := 1007) (W := w1007) ⟨rfl, by decide, by decide⟩ (by unfold okC; decide) p2 (by simp only [List.length_append, List.length_cons, List.length_nil]; omega)
  have g3 := g2.tr f3
  obtain ⟨s4, a4, f4, p4⟩ := K9 (X := X) (d := d) hk p3 (by simp only [List.length_append, List.length_cons, List.length_nil]; omega)
  have g4 := g3.tr f4
  obtain ⟨s5, a5, f5, p5⟩ := K41 (X := X) (d := d + 1) (w := 1008) (W := w1008) ⟨rfl, by decide, by decide⟩ (by unfold okC; decide) p4 (by simp only [List.length_append, List.length_cons, List.length_nil]; omega)
  have g5 := g4.tr f5
  obtain ⟨s6, a6, f6, p6⟩ := K10 (X := X) (d := d) hu p5 (by simp only [List.length_append, List.length_cons, List.length_nil]; omega)
  have g6 := g5.tr f6
  obtain ⟨s7, a7, f7, p7⟩ := K41 (X := X) (d := d + 1) (w := 1011) (W := w1011) ⟨rfl, by decide, by decide⟩ (by unfold okC; decide) p6 (by simp only [List.length_append, List.length_cons, List.length_nil]; omega)
  have g7 := g6.tr f7
  obtain ⟨s8, a8, f8, p8⟩ := K42 (X := X) (d := d + 1) hr p7 (by simp only [List.length_append, List.length_cons, List.length_nil]; omega)
  have g8 := g7.tr f8
  obtain ⟨s9, a9, f9, p9⟩ := K41 (X := X) (d := d + 1) (w := 1012) (W := w1012) ⟨rfl, by decide, by decide⟩ (by unfold okC; decide) p8 (by simp only [List.length_append, List.length_cons, List.length_nil]; omega)
  have g9 := g8.tr f9
  obtain ⟨s10, a10, f10, p10⟩ := K42 (X := X) (d := d + 1) he p9 (by simp only [List.length_append, List.length_cons, List.length_nil]; omega)
  have g10 := g9.tr f10
  obtain ⟨s11, a11, f11, p11⟩ := K41 (X := X) (d := d + 1) (w := 1013) (W := w1013) ⟨rfl, by decide, by decide⟩ (by unfold okC; decide) p10 (by simp only [List.length_append, List.length_cons, List.length_nil]; omega)
  have g11 := g10.tr f11
  obtain ⟨s12, a12, f12, p12⟩ := K42 (X := X) (d := d + 1) hc p11 (by simp only [List.length_append, List.length_cons, List.length_nil]; omega)
  have g12 := g11.tr f12
  obtain ⟨s13, a13, f13, p13⟩ := K41 (X := X) (d := d + 1) (w := 1012) (W := w1012) ⟨rfl, by decide, by decide⟩ (by unfold okC; decide) p12 (by simp only [List.length_append, List.length_cons, List.length_nil]; omega)
  have g13 := g12.tr f13
  obtain ⟨s14, a14, f14, p14⟩ := K42 (X := X) (d := d + 1) he p13 (by simp only [List.length_append, List.length_cons, List.length_nil]; omega)
  have g14 := g13.tr f14
  obtain ⟨s15, a15, f15, p15⟩ := K41 (X := X) (d := d + 1) (w := 1014) (W := w1014) ⟨rfl, by decide, by decide⟩ (by unfold okC; decide) p14 (by simp only [List.length_append, List.length_cons, List.length_nil]; omega)
  have g15 := g14.tr f15
  refine ⟨s15, mi_R.of rfl rfl (R8_0 a1 (by rw [show s1.1 0 13 = nI i from by rw [g1.2 0 (by omega) (by omega)]; exact hii]; exact a2) a3 a4 a5 a6 a7 a8 a9 a10 a11 (by rw [show s11.1 0 12 = nI c from by rw [g11.2 0 (by omega) (by omega)]; exact hcc]; exact a12) a13 a14 a15 rfl), g15, ?_⟩
  unfold cAssn
  simp only [List.append_assoc] at p15 ⊢
  exact p15
theorem K11 {x i v : Nat} (hx : 32 ≤ x ∧ x ≤ 126) (hi : i < 1000000000) (hv : v < 1000000000) {σ : mG} {T : List Nat} (h : pgC σ T) (hii : σ.1 0 13 = nI i) (hl : T.length + 39 ≤ 400) : ∃ σ', RR X (d + 3) 11 [.ref 0, .int (nI x), .int (nI v)] σ (none, σ') ∧ fP σ σ' ∧ pgC σ' (T ++ cSig x i v) := by
  have dd0 := D10_10 i
  have dd1 := D10_10 v
  have lw1017 : w1017.length = 10 := rfl
  have lw1018 : w1018.length = 5 := rfl
  have lw1014 : w1014.length = 3 := rfl
  obtain ⟨s1, a1, f1, p1⟩ := K41 (X := X) (d := d) (w := 1017) (W := w1017) ⟨rfl, by decide, by decide⟩ (by unfold okC; decide) h (by simp only [List.length_append, List.length_cons, List.length_nil]; omega)
  have g1 := f1
  obtain ⟨s2, a2, f2, p2⟩ := K40p (X := X) (d := d + 1) (c := x) p1 (by simp only [List.length_append, List.length_cons, List.length_nil]; omega) hx
  have g2 := g1.tr f2
  obtain ⟨s3, a3, f3, p3⟩ := K42 (X := X) (d := d) hi p2 (by simp only [List.length_append, List.length_cons, List.length_nil]; omega)
  have g3 := g2.tr f3
  obtain ⟨s4, a4, f4, p4⟩ := K41 (X := X) (d := d) (w := 1018) (W := w1018) ⟨rfl, by decide, by decide⟩ (by unfold okC; decide) p3 (by simp only [List.length_append, List.length_cons, List.length_nil]; omega)
  have g4 := g3.tr f4
  obtain ⟨s5, a5, f5, p5⟩ := K42 (X := X) (d := d) hv p4 (by simp only [List.length_append, List.length_cons, List.length_nil]; omega)
  have g5 := g4.tr f5
  obtain ⟨s6, a6, f6, p6⟩ := K41 (X := X) (d := d) (w := 1014) (W := w1014) ⟨rfl, by decide, by decide⟩ (by unfold okC; decide) p5 (by simp only [List.length_append, List.length_cons, List.length_nil]; omega)
  have g6 := g5.tr f6
  refine ⟨s6, mi_R.of rfl rfl (R11_0 a1 a2 (by rw [show s2.1 0 13 = nI i from by rw [g2.2 0 (by omega) (by omega)]; exact hii]; exact a3) a4 a5 a6 rfl), g6, ?_⟩
  unfold cSig
  simp only [List.append_assoc] at p6 ⊢
  exact p6
theorem K189 {k : Nat} (hk : k < 1000000000) {σ : mG} {T : List Nat} (h : pgM σ T) (hl : T.length + 22 ≤ 400) : ∃ σ', RR X (d + 2) 189 [.ref 38, .int (nI k)] σ (none, σ') ∧ fQ σ σ' ∧ pgM σ' (T ++ cIss k) := by
  have dd0 := D10_10 k
  obtain ⟨s1, a1, f1, p1⟩ := K186 (X := X) (d := d) (W := [60, 105, 115, 115, 62, 112]) (y := 66423606165104) (by unfold okC; decide) (by decide) rfl h (by simp only [List.length_append, List.length_cons, List.length_nil]; omega)
  have g1 := f1
  obtain ⟨s2, a2, f2, p2⟩ := K187 (X := X) (d := d) hk p1 (by simp only [List.length_append, List.length_cons, List.length_nil]; omega)
  have g2 := g1.tr f2
  obtain ⟨s3, a3, f3, p3⟩ := K186 (X := X) (d := d) (W := [60, 47, 105, 115, 115, 62]) (y := 66174330303294) (by unfold okC; decide) (by decide) rfl p2 (by simp only [List.length_append, List.length_cons, List.length_nil]; omega)
  have g3 := g2.tr f3
  refine ⟨s3, mi_R.of rfl rfl (R189_0 a1 a2 a3 rfl), g3, ?_⟩
  unfold cIss
  simp only [List.append_assoc] at p3 ⊢
  exact p3
theorem K190 {k : Nat} (hk : k < 1000000000) {σ : mG} {T : List Nat} (h : pgM σ T) (hl : T.length + 24 ≤ 400) : ∃ σ', RR X (d + 2) 190 [.ref 38, .int (nI k)] σ (none, σ') ∧ fQ σ σ' ∧ pgM σ' (T ++ cUsr k) := by
  have dd0 := D10_10 k
  obtain ⟨s1, a1, f1, p1⟩ := K186 (X := X) (d := d) (W := [60, 110, 97, 109, 101, 62, 117]) (y := 17009863328874101) (by unfold okC; decide) (by decide) rfl h (by simp only [List.length_append, List.length_cons, List.length_nil]; omega)
  have g1 := f1
  obtain ⟨s2, a2, f2, p2⟩ := K187 (X := X) (d := d) hk p1 (by simp only [List.length_append, List.length_cons, List.length_nil]; omega)
  have g2 := g1.tr f2
  obtain ⟨s3, a3, f3, p3⟩ := K186 (X := X) (d := d) (W := [60, 47, 110, 97, 109, 101, 62]) (y := 16940649730106686) (by unfold okC; decide) (by decide) rfl p2 (by simp only [List.length_append, List.length_cons, List.length_nil]; omega)
  have g3 := g2.tr f3
  refine ⟨s3, mi_R.of rfl rfl (R190_0 a1 a2 a3 rfl), g3, ?_⟩
  unfold cUsr
  simp only [List.append_assoc] at p3 ⊢
  exact p3
def cSubj (r u e : Nat) : List Nat := w1008 ++ (cUsr u ++ (w1011 ++ (D10 r ++ (w1012 ++ (D10 e ++ [34, 32, 114, 99, 112, 61, 34, 97, 99, 115, 34, 47, 62, 60, 47, 115, 117, 98, 106, 62])))))
theorem len_cSubj (r u e : Nat) : (cSubj r u e).length ≤ 88 := by
  have d1 := D10_10 r
  have d2 := D10_10 e
  have d3 := len_cUsr u
  have l1 : w1008.length = 6 := rfl
  have l2 : w1011.length = 11 := rfl
  have l3 : w1012.length = 7 := rfl
  unfold cSubj
  simp only [List.length_append, List.length_cons, List.length_nil]
  omega
theorem K191 {r u e : Nat} (hr : r < 1000000000) (hu : u < 1000000000) (he : e < 1000000000) {σ : mG} {T : List Nat} (h : pgM σ T) (hl : T.length + 88 ≤ 400) : ∃ σ', RR X (d + 3) 191 [.ref 38, .int (nI r), .int (nI u), .int (nI e)] σ (none, σ') ∧ fQ σ σ' ∧ pgM σ' (T ++ cSubj r u e) := by
  have dd0 := D10_10 r
  have dd1 := D10_10 e
  have dd2 := len_cUsr u
  obtain ⟨s1, a1, f1, p1⟩ := K186 (X := X) (d := d + 1) (W := [60, 115, 117, 98, 106, 62]) (y := 66466588289598) (by unfold okC; decide) (by decide) rfl h (by simp only [List.length_append, List.length_cons, List.length_nil]; omega)
  have g1 := f1
  obtain ⟨s2, a2, f2, p2⟩ := K190 (X := X) (d := d) hu p1 (by simp only [List.length_append, List.length_cons, List.length_nil]; omega)
  have g2 := g1.tr f2
  obtain ⟨s3, a3, f3, p3⟩ := K186 (X := X) (d := d + 1) (W := [60, 99, 111, 110, 102, 32, 105, 114]) (y := 4351444184920516978) (by unfold okC; decide) (by decide) rfl p2 (by simp only [List.length_append, List.length_cons, List.length_nil]; omega)
  have g3 := g2.tr f3
  obtain ⟨s4, a4, f4, p4⟩ := K186 (X := X) (d := d + 1) (W := [116, 61, 34]) (y := 7617826) (by unfold okC; decide) (by decide) rfl p3 (by simp only [List.length_append, List.length_cons, List.length_nil]; omega)
  have g4 := g3.tr f4
  obtain ⟨s5, a5, f5, p5⟩ := K187 (X := X) (d := d + 1) hr p4 (by simp only [List.length_append, List.length_cons, List.length_nil]; omega)
  have g5 := g4.tr f5
  obtain ⟨s6, a6, f6, p6⟩ := K186 (X := X) (d := d + 1) (W := [34, 32, 110, 111, 97, 61, 34]) (y := 9605807895297314) (by unfold okC; decide) (by decide) rfl p5 (by simp only [List.length_append, List.length_cons, List.length_nil]; omega)
  have g6 := g5.tr f6
  obtain ⟨s7, a7, f7, p7⟩ := K187 (X := X) (d := d + 1) he p6 (by simp only [List.length_append, List.length_cons, List.length_nil]; omega)
  have g7 := g6.tr f7
  obtain ⟨s8, a8, f8, p8⟩ := K186 (X := X) (d := d + 1) (W := [34, 32, 114, 99, 112, 61, 34, 97]) (y := 2459091167954674273) (by unfold okC; decide) (by decide) rfl p7 (by simp only [List.length_append, List.length_cons, List.length_nil]; omega)
  have g8 := g7.tr f8
  obtain ⟨s9, a9, f9, p9⟩ := K186 (X := X) (d := d + 1) (W := [99, 115, 34, 47, 62, 60, 47, 115]) (y := 7166109018379530099) (by unfold okC; decide) (by decide) rfl p8 (by simp only [List.length_append, List.length_cons, List.length_nil]; omega)
  have g9 := g8.tr f9
  obtain ⟨s10, a10, f10, p10⟩ := K186 (X := X) (d := d + 1) (W := [117, 98, 106, 62]) (y := 1969383998) (by unfold okC; decide) (by decide) rfl p9 (by simp only [List.length_append, List.length_cons, List.length_nil]; omega)
  have g10 := g9.tr f10
  refine ⟨s10, mi_R.of rfl rfl (R191_0 a1 a2 a3 a4 a5 a6 a7 a8 a9 a10 rfl), g10, ?_⟩
  unfold cSubj
  simp only [List.append_assoc] at p10 ⊢
  exact p10
theorem K188s {x i v : Nat} {y : Int64} (hx : 32 ≤ x ∧ x ≤ 126) (hy : y = lN (pk8 [x])) (hi : i < 1000000000) (hv : v < 1000000000) {σ : mG} {T : List Nat} (h : pgM σ T) (hii : σ.1 38 21 = nI i) (hl : T.length + 39 ≤ 400) (hxy : (nI x).toInt64 = y) : ∃ σ', RR X (d + 2) 188 [.ref 38, .int (nI x), .int (nI v)] σ (none, σ') ∧ fQ σ σ' ∧ pgM σ' (T ++ cSig x i v) := by
  have dd0 := D10_10 i
  have dd1 := D10_10 v
  obtain ⟨s1, a1, f1, p1⟩ := K186 (X := X) (d := d) (W := [60, 115, 105, 103, 32, 114, 101, 102]) (y := 4355941156244317542) (by unfold okC; decide) (by decide) rfl h (by simp only [List.length_append, List.length_cons, List.length_nil]; omega)
  have g1 := f1
  obtain ⟨s2, a2, f2, p2⟩ := K186 (X := X) (d := d) (W := [61, 34]) (y := 15650) (by unfold okC; decide) (by decide) rfl p1 (by simp only [List.length_append, List.length_cons, List.length_nil]; omega)
  have g2 := g1.tr f2
  obtain ⟨s3, a3, f3, p3⟩ := K186 (X := X) (d := d) (W := [x]) (y := (nI x).toInt64) (fun c hc => by rw [List.mem_singleton.mp hc]; exact hx) (by show 1 ≤ 8; omega) (hxy.trans hy) p2 (by simp only [List.length_append, List.length_cons, List.length_nil]; omega)
  have g3 := g2.tr f3
  obtain ⟨s4, a4, f4, p4⟩ := K187 (X := X) (d := d) hi p3 (by simp only [List.length_append, List.length_cons, List.length_nil]; omega)
  have g4 := g3.tr f4
  obtain ⟨s5, a5, f5, p5⟩ := K186 (X := X) (d := d) (W := [34, 32, 118, 61, 34]) (y := 146573507874) (by unfold okC; decide) (by decide) rfl p4 (by simp only [List.length_append, List.length_cons, List.length_nil]; omega)
  have g5 := g4.tr f5
  obtain ⟨s6, a6, f6, p6⟩ := K187 (X := X) (d := d) hv p5 (by simp only [List.length_append, List.length_cons, List.length_nil]; omega)
  have g6 := g5.tr f6
  obtain ⟨s7, a7, f7, p7⟩ := K186 (X := X) (d := d) (W := [34, 47, 62]) (y := 2240318) (by unfold okC; decide) (by decide) rfl p6 (by simp only [List.length_append, List.length_cons, List.length_nil]; omega)
  have g7 := g6.tr f7
  have zv : 0 ≤ nI v := nI_pos' (by omega)
  refine ⟨s7, mi_R.of rfl rfl (R188_0 (fun _ => a1) (fun _ => a2) (fun _ => a3) (fun _ => (by rw [show s3.1 38 21 = nI i from by rw [g3.2.2 21 (by omega)]; exact hii]; exact a4)) (fun _ => a5) (fun _ => a6) (fun _ => a7) (fun _ => rfl) (fun y => absurd zv y)), g7, ?_⟩
  unfold cSig
  simp only [List.append_assoc] at p7 ⊢
  exact p7
theorem K188 {x i : Nat} {v : Option Nat} (hx : 32 ≤ x ∧ x ≤ 126) (hxy : (nI x).toInt64 = lN (pk8 [x])) (hi : i < 1000000000) (hv : ∀ z, v = some z → z < 1000000000) {σ : mG} {T : List Nat} (h : pgM σ T) (hii : σ.1 38 21 = nI i) (hl : T.length + 39 ≤ 400) : ∃ σ', RR X (d + 2) 188 [.ref 38, .int (nI x), .int (oI v)] σ (none, σ') ∧ fQ σ σ' ∧ pgM σ' (T ++ oSig x i v) := by
  cases v with
  | none =>
    have zn : ¬ 0 ≤ oI none := show ¬ (0 : Int32) ≤ -1 by decide
    refine ⟨σ, mi_R.of rfl rfl (R188_0 (σ1 := σ) (σ2 := σ) (σ3 := σ) (σ4 := σ) (σ5 := σ) (σ6 := σ) (σ7 := σ) (fun y => absurd y zn) (fun y => absurd y zn) (fun y => absurd y zn) (fun y => absurd y zn) (fun y => absurd y zn) (fun y => absurd y zn) (fun y => absurd y zn) (fun y => absurd y zn) (fun _ => rfl)), fQ.rfl', ?_⟩
    show pgM σ (T ++ [])
    rw [List.append_nil]
    exact h
  | some v => exact K188s (y := lN (pk8 [x])) hx rfl hi (hv v rfl) h hii hl hxy
theorem len_cSig (x i v : Nat) : (cSig x i v).length ≤ 39 := by
  have d1 := D10_10 i
  have d2 := D10_10 v
  have l1 : w1017.length = 10 := rfl
  have l2 : w1018.length = 5 := rfl
  have l3 : w1014.length = 3 := rfl
  unfold cSig
  simp only [List.length_append, List.length_cons, List.length_nil]
  omega
theorem len_oSig (x i : Nat) (v : Option Nat) : (oSig x i v).length ≤ 39 := by
  cases v with
  | none => exact Nat.zero_le _
  | some v => exact len_cSig x i v
def tI (i r k u e c : Nat) (v w : Option Nat) : List Nat := cHead i r k ++ (cAssn i k r u e c ++ (oSig 97 i v ++ (w1019 ++ (oSig 114 i w ++ w1020))))
def tO (i k u : Nat) (v : Option Nat) : List Nat := w1021 ++ (D10 i ++ (w1002 ++ (cIss k ++ (cUsr u ++ (oSig 111 i v ++ w1022)))))
theorem K192 {i r k u t c : Nat} {v w : Option Nat} (hi : i < 1000000000) (hr : r < 1000000000) (hk : k < 1000000000) (hu : u < 1000000000) (hc : c < 1000000000) (het : c + t < 1000000000) (hv : ∀ z, v = some z → z < 1000000000) (hw : ∀ z, w = some z → z < 1000000000) {σ : mG} (hii : σ.1 38 21 = nI i) (hcc : σ.1 38 2 = nI c) : ∃ σ', RR X (d + 4) 192 [.ref 38, .int (nI k), .int (nI r), .int (nI u), .int (nI t), .int (oI v), .int (oI w)] σ (none, σ') ∧ fQ σ σ' ∧ pgM σ' (tI i r k u (c + t) c v w) := by
  have dd0 := D10_10 i
  have dd1 := D10_10 r
  have dd2 := D10_10 c
  have dd3 := D10_10 (c + t)
  have dd4 := len_cIss k
  have dd5 := len_cSubj r u (c + t)
  have dd6 := len_oSig 97 i v
  have dd7 := len_oSig 114 i w
  have h0 : pgM (u36 σ 38 4 0) [] := ⟨⟨by decide, fun c hc => by cases hc⟩, u36_s, fun i hi => absurd hi (Nat.not_lt_zero i)⟩
  have f0 : fQ σ (u36 σ 38 4 0) := ⟨rfl, fun c h1 _ => u36_c h1, fun k hk => u36_n hk⟩
  obtain ⟨s1, a1, f1, p1⟩ := K186 (X := X) (d := d + 2) (W := [60, 114, 101, 115, 112, 32, 105, 100]) (y := 4355655336097507684) (by unfold okC; decide) (by decide) rfl h0 (by simp only [List.length_append, List.length_cons, List.length_nil]; omega)
  have g1 := f0.tr f1
  obtain ⟨s2, a2, f2, p2⟩ := K186 (X := X) (d := d + 2) (W := [61, 34, 114]) (y := 4006514) (by unfold okC; decide) (by decide) rfl p1 (by simp only [List.length_append, List.length_cons, List.length_nil]; omega)
  have g2 := g1.tr f2
  obtain ⟨s3, a3, f3, p3⟩ := K187 (X := X) (d := d + 2) hi p2 (by simp only [List.length_append, List.length_cons, List.length_nil]; omega)
  have g3 := g2.tr f3
  obtain ⟨s4, a4, f4, p4⟩ := K186 (X := X) (d := d + 2) (W := [34, 32, 105, 114, 116, 61, 34]) (y := 9605786472037666) (by unfold okC; decide) (by decide) rfl p3 (by simp only [List.length_append, List.length_cons, List.length_nil]; omega)
  have g4 := g3.tr f4
  obtain ⟨s5, a5, f5, p5⟩ := K187 (X := X) (d := d + 2) hr p4 (by simp only [List.length_append, List.length_cons, List.length_nil]; omega)
  have g5 := g4.tr f5
  obtain ⟨s6, a6, f6, p6⟩ := K186 (X := X) (d := d + 2) (W := [34, 32, 116, 111, 61, 34, 97, 99]) (y := 2459093417660146019) (by unfold okC; decide) (by decide) rfl p5 (by simp only [List.length_append, List.length_cons, List.length_nil]; omega)
  have g6 := g5.tr f6
  obtain ⟨s7, a7, f7, p7⟩ := K186 (X := X) (d := d + 2) (W := [115, 34, 62]) (y := 7545406) (by unfold okC; decide) (by decide) rfl p6 (by simp only [List.length_append, List.length_cons, List.length_nil]; omega)
  have g7 := g6.tr f7
  obtain ⟨s8, a8, f8, p8⟩ := K189 (X := X) (d := d + 1) hk p7 (by simp only [List.length_append, List.length_cons, List.length_nil]; omega)
  have g8 := g7.tr f8
  obtain ⟨s9, a9, f9, p9⟩ := K186 (X := X) (d := d + 2) (W := [60, 115, 116, 97, 116, 62, 111, 107]) (y := 4355953226508300139) (by unfold okC; decide) (by decide) rfl p8 (by simp only [List.length_append, List.length_cons, List.length_nil]; omega)
  have g9 := g8.tr f9
  obtain ⟨s10, a10, f10, p10⟩ := K186 (X := X) (d := d + 2) (W := [60, 47, 115, 116, 97, 116, 62, 60]) (y := 4336811909869485628) (by unfold okC; decide) (by decide) rfl p9 (by simp only [List.length_append, List.length_cons, List.length_nil]; omega)
  have g10 := g9.tr f10
  obtain ⟨s11, a11, f11, p11⟩ := K186 (X := X) (d := d + 2) (W := [97, 115, 115, 110, 32, 105, 100, 61]) (y := 7022083160828109885) (by unfold okC; decide) (by decide) rfl p10 (by simp only [List.length_append, List.length_cons, List.length_nil]; omega)
  have g11 := g10.tr f11
  obtain ⟨s12, a12, f12, p12⟩ := K186 (X := X) (d := d + 2) (W := [34, 97]) (y := 8801) (by unfold okC; decide) (by decide) rfl p11 (by simp only [List.length_append, List.length_cons, List.length_nil]; omega)
  have g12 := g11.tr f12
  obtain ⟨s13, a13, f13, p13⟩ := K187 (X := X) (d := d + 2) hi p12 (by simp only [List.length_append, List.length_cons, List.length_nil]; omega)
  have g13 := g12.tr f13
  obtain ⟨s14, a14, f14, p14⟩ := K186 (X := X) (d := d + 2) (W := [34, 62]) (y := 8766) (by unfold okC; decide) (by decide) rfl p13 (by simp only [List.length_append, List.length_cons, List.length_nil]; omega)
  have g14 := g13.tr f14
  obtain ⟨s15, a15, f15, p15⟩ := K189 (X := X) (d := d + 1) hk p14 (by simp only [List.length_append, List.length_cons, List.length_nil]; omega)
  have g15 := g14.tr f15
  obtain ⟨s16, a16, f16, p16⟩ := K191 (X := X) (d := d) hr hu het p15 (by simp only [List.length_append, List.length_cons, List.length_nil]; omega)
  have g16 := g15.tr f16
  obtain ⟨s17, a17, f17, p17⟩ := K186 (X := X) (d := d + 2) (W := [60, 99, 111, 110, 100, 32, 97, 117]) (y := 4351444184886960501) (by unfold okC; decide) (by decide) rfl p16 (by simp only [List.length_append, List.length_cons, List.length_nil]; omega)
  have g17 := g16.tr f17
  obtain ⟨s18, a18, f18, p18⟩ := K186 (X := X) (d := d + 2) (W := [100, 61, 34, 115, 112, 34, 32, 110]) (y := 7222967256570011758) (by unfold okC; decide) (by decide) rfl p17 (by simp only [List.length_append, List.length_cons, List.length_nil]; omega)
  have g18 := g17.tr f18
  obtain ⟨s19, a19, f19, p19⟩ := K186 (X := X) (d := d + 2) (W := [98, 61, 34]) (y := 6438178) (by unfold okC; decide) (by decide) rfl p18 (by simp only [List.length_append, List.length_cons, List.length_nil]; omega)
  have g19 := g18.tr f19
  obtain ⟨s20, a20, f20, p20⟩ := K187 (X := X) (d := d + 2) hc p19 (by simp only [List.length_append, List.length_cons, List.length_nil]; omega)
  have g20 := g19.tr f20
  obtain ⟨s21, a21, f21, p21⟩ := K186 (X := X) (d := d + 2) (W := [34, 32, 110, 111, 97, 61, 34]) (y := 9605807895297314) (by unfold okC; decide) (by decide) rfl p20 (by simp only [List.length_append, List.length_cons, List.length_nil]; omega)
  have g21 := g20.tr f21
  obtain ⟨s22, a22, f22, p22⟩ := K187 (X := X) (d := d + 2) het p21 (by simp only [List.length_append, List.length_cons, List.length_nil]; omega)
  have g22 := g21.tr f22
  obtain ⟨s23, a23, f23, p23⟩ := K186 (X := X) (d := d + 2) (W := [34, 47, 62]) (y := 2240318) (by unfold okC; decide) (by decide) rfl p22 (by simp only [List.length_append, List.length_cons, List.length_nil]; omega)
  have g23 := g22.tr f23
  obtain ⟨s24, a24, f24, p24⟩ := K188 (X := X) (d := d + 1) (x := 97) (by omega) rfl hi hv p23 (by rw [g23.2.2 21 (by omega)]; exact hii) (by simp only [List.length_append, List.length_cons, List.length_nil]; omega)
  have g24 := g23.tr f24
  obtain ⟨s25, a25, f25, p25⟩ := K186 (X := X) (d := d + 2) (W := [60, 47, 97, 115, 115, 110, 62]) (y := 16940594197917246) (by unfold okC; decide) (by decide) rfl p24 (by simp only [List.length_append, List.length_cons, List.length_nil]; omega)
  have g25 := g24.tr f25
  obtain ⟨s26, a26, f26, p26⟩ := K188 (X := X) (d := d + 1) (x := 114) (by omega) rfl hi hw p25 (by rw [g25.2.2 21 (by omega)]; exact hii) (by simp only [List.length_append, List.length_cons, List.length_nil]; omega)
  have g26 := g25.tr f26
  obtain ⟨s27, a27, f27, p27⟩ := K186 (X := X) (d := d + 2) (W := [60, 47, 114, 101, 115, 112, 62]) (y := 16940666977480766) (by unfold okC; decide) (by decide) rfl p26 (by simp only [List.length_append, List.length_cons, List.length_nil]; omega)
  have g27 := g26.tr f27
  refine ⟨s27, mi_R.of rfl rfl (R192_0 a1 a2 (by rw [show s2.1 38 21 = nI i from by rw [g2.2.2 21 (by omega)]; exact hii]; exact a3) a4 a5 a6 a7 a8 a9 a10 a11 a12 (by rw [show s12.1 38 21 = nI i from by rw [g12.2.2 21 (by omega)]; exact hii]; exact a13) a14 a15 (by rw [show s15.1 38 2 + nI t = nI (c + t) from by rw [g15.2.2 2 (by omega), hcc, nI_add]]; exact a16) a17 a18 a19 (by rw [show s19.1 38 2 = nI c from by rw [g19.2.2 2 (by omega)]; exact hcc]; exact a20) a21 (by rw [show s21.1 38 2 + nI t = nI (c + t) from by rw [g21.2.2 2 (by omega), hcc, nI_add]]; exact a22) a23 a24 a25 a26 a27 rfl), g27, ?_⟩
  unfold tI cHead cAssn
  unfold cSubj at p27
  simp only [List.append_assoc, List.nil_append] at p27 ⊢
  exact p27
theorem K195 {i k u : Nat} {v : Option Nat} (hi : i < 1000000000) (hk : k < 1000000000) (hu : u < 1000000000) (hv : ∀ z, v = some z → z < 1000000000) {σ : mG} (hii : σ.1 38 21 = nI i) : ∃ σ', RR X (d + 3) 195 [.ref 38, .int (nI k), .int (nI u), .int (oI v)] σ (none, σ') ∧ fQ σ σ' ∧ pgM σ' (tO i k u v) := by
  have dd0 := D10_10 i
  have dd1 := len_cIss k
  have dd2 := len_cUsr u
  have dd3 := len_oSig 111 i v
  have h0 : pgM (u36 σ 38 4 0) [] := ⟨⟨by decide, fun c hc => by cases hc⟩, u36_s, fun i hi => absurd hi (Nat.not_lt_zero i)⟩
  have f0 : fQ σ (u36 σ 38 4 0) := ⟨rfl, fun c h1 _ => u36_c h1, fun k hk => u36_n hk⟩
  obtain ⟨s1, a1, f1, p1⟩ := K186 (X := X) (d := d + 1) (W := [60, 111, 117, 116, 32, 105, 100, 61]) (y := 4354828506310992957) (by unfold okC; decide) (by decide) rfl h0 (by simp only [List.length_append, List.length_cons, List.length_nil]; omega)
  have g1 := f0.tr f1
  obtain ⟨s2, a2, f2, p2⟩ := K186 (X := X) (d := d + 1) (W := [34, 111]) (y := 8815) (by unfold okC; decide) (by decide) rfl p1 (by simp only [List.length_append, List.length_cons, List.length_nil]; omega)
  have g2 := g1.tr f2
  obtain ⟨s3, a3, f3, p3⟩ := K187 (X := X) (d := d + 1) hi p2 (by simp only [List.length_append, List.length_cons, List.length_nil]; omega)
  have g3 := g2.tr f3
  obtain ⟨s4, a4, f4, p4⟩ := K186 (X := X) (d := d + 1) (W := [34, 32, 116, 111, 61, 34, 97, 99]) (y := 2459093417660146019) (by unfold okC; decide) (by decide) rfl p3 (by simp only [List.length_append, List.length_cons, List.length_nil]; omega)
  have g4 := g3.tr f4
  obtain ⟨s5, a5, f5, p5⟩ := K186 (X := X) (d := d + 1) (W := [115, 34, 62]) (y := 7545406) (by unfold okC; decide) (by decide) rfl p4 (by simp only [List.length_append, List.length_cons, List.length_nil]; omega)
  have g5 := g4.tr f5
  obtain ⟨s6, a6, f6, p6⟩ := K189 (X := X) (d := d) hk p5 (by simp only [List.length_append, List.length_cons, List.length_nil]; omega)
  have g6 := g5.tr f6
  obtain ⟨s7, a7, f7, p7⟩ := K190 (X := X) (d := d) hu p6 (by simp only [List.length_append, List.length_cons, List.length_nil]; omega)
  have g7 := g6.tr f7
  obtain ⟨s8, a8, f8, p8⟩ := K188 (X := X) (d := d) (x := 111) (by omega) rfl hi hv p7 (by rw [g7.2.2 21 (by omega)]; exact hii) (by simp only [List.length_append, List.length_cons, List.length_nil]; omega)
  have g8 := g7.tr f8
  obtain ⟨s9, a9, f9, p9⟩ := K186 (X := X) (d := d + 1) (W := [60, 47, 111, 117, 116, 62]) (y := 66174431097918) (by unfold okC; decide) (by decide) rfl p8 (by simp only [List.length_append, List.length_cons, List.length_nil]; omega)
  have g9 := g8.tr f9
  refine ⟨s9, mi_R.of rfl rfl (R195_0 a1 a2 (by rw [show s2.1 38 21 = nI i from by rw [g2.2.2 21 (by omega)]; exact hii]; exact a3) a4 a5 a6 a7 a8 a9 rfl), g9, ?_⟩
  unfold tO
  simp only [List.append_assoc, List.nil_append] at p9 ⊢
  exact p9
end
