/-! What is fixed of the classes: printed by a program. -/
def mi_isR (ty : FieldType) : Bool := match ty with
  | .object _ => true
  | .array _ => true
  | _ => false
def mi_kt (k : Nat) (ty : FieldType) : Bool := bif Nat.beq k 0 then decide (ty = .int) else bif Nat.beq k 1 then decide (ty = .long) else bif Nat.beq k 2 then mi_isR ty else true
theorem mi_kt_ok {k : Nat} {ty : FieldType} (h : mi_kt k ty = true) : (k = 0 → ty = .int) ∧ (k = 1 → ty = .long) ∧ (k = 2 → (∃ x, ty = .object x) ∨ ∃ x, ty = .array x) := by
  unfold mi_kt at h
  refine ⟨fun e => ?_, fun e => ?_, fun e => ?_⟩
  · subst e
    exact of_decide_eq_true h
  · subst e
    exact of_decide_eq_true h
  · subst e
    have h : mi_isR ty = true := h
    unfold mi_isR at h
    split at h
    · exact Or.inl ⟨_, rfl⟩
    · exact Or.inr ⟨_, rfl⟩
    · cases h
def qty (T : u_T) (k : Nat) : FieldType := (parseFieldDescriptor (T k).2.2.1).getD .int
theorem mi_uws {C : String} {T : u_T} {N : Nat} {Ts : List Cond} (h : ∀ k, k < N → u_lay C T k ∈ Ts) : ∀ w ∈ u_ws C T N, w ∈ Ts := by
  intro w hw
  obtain ⟨k, hk, rfl⟩ := List.mem_map.mp hw
  exact h k (List.mem_range.mp hk)
abbrev qSP (a : Nat) (C : String) (T : u_T) (N : Nat) : Prop := (∃ ty0 : Nat → FieldType, (∀ k, k < N → parseFieldDescriptor (T k).2.2.1 = some (ty0 k)) ∧ (∀ k, k < N → ((qF.getD a []).getD k 9 = 0 → ty0 k = .int) ∧ ((qF.getD a []).getD k 9 = 1 → ty0 k = .long) ∧ ((qF.getD a []).getD k 9 = 2 → (∃ x, ty0 k = .object x) ∨ ∃ x, ty0 k = .array x)) ∧ ∀ j, j < N → defaultValue (ty0 j) = vp_V ((qF.getD a []).map mi_dv) j) ∧ (∀ x, x < N → ∀ y, y < N → x ≠ y → (T x).2.1 ≠ (T y).2.1) ∧ (qF.getD a []).length = N ∧ (∀ k, k < N → (T k).1 = C) ∧ ∀ w ∈ u_ws C T N, w ∈ qTs
theorem qU0 : ∀ k, k < 14 → u_lay qR0 qT0 k ∈ qTs := fun k hk => match k, hk with
  | 0, _ => qw312
  | 1, _ => qw314
  | 2, _ => qw316
  | 3, _ => qw318
  | 4, _ => qw320
  | 5, _ => qw322
  | 6, _ => qw324
  | 7, _ => qw326
  | 8, _ => qw328
  | 9, _ => qw330
  | 10, _ => qw332
  | 11, _ => qw334
  | 12, _ => qw336
  | 13, _ => qw338
  | k + 14, hk => absurd hk (by omega)
theorem qS0 : qSP 0 qR0 qT0 14 := ⟨⟨qty qT0, by decide +kernel, fun k hk => mi_kt_ok ((show ∀ k, k < 14 → mi_kt ((qF.getD 0 []).getD k 9) (qty qT0 k) = true by decide +kernel) k hk), by decide +kernel⟩, by decide +kernel, by decide +kernel, by decide +kernel, mi_uws qU0⟩
theorem qU1 : ∀ k, k < 2 → u_lay qR1 qT1 k ∈ qTs := fun k hk => match k, hk with
  | 0, _ => qw38
  | 1, _ => qw40
  | k + 2, hk => absurd hk (by omega)
theorem qS1 : qSP 1 qR1 qT1 2 := ⟨⟨qty qT1, by decide +kernel, fun k hk => mi_kt_ok ((show ∀ k, k < 2 → mi_kt ((qF.getD 1 []).getD k 9) (qty qT1 k) = true by decide +kernel) k hk), by decide +kernel⟩, by decide +kernel, by decide +kernel, by decide +kernel, mi_uws qU1⟩
theorem qU2 : ∀ k, k < 12 → u_lay qR2 qT2 k ∈ qTs := fun k hk => match k, hk with
  | 0, _ => qw78
  | 1, _ => qw80
  | 2, _ => qw82
  | 3, _ => qw84
  | 4, _ => qw86
  | 5, _ => qw88
  | 6, _ => qw90
  | 7, _ => qw92
  | 8, _ => qw94
  | 9, _ => qw96
  | 10, _ => qw98
  | 11, _ => qw100
  | k + 12, hk => absurd hk (by omega)
theorem qS2 : qSP 2 qR2 qT2 12 := ⟨⟨qty qT2, by decide +kernel, fun k hk => mi_kt_ok ((show ∀ k, k < 12 → mi_kt ((qF.getD 2 []).getD k 9) (qty qT2 k) = true by decide +kernel) k hk), by decide +kernel⟩, by decide +kernel, by decide +kernel, by decide +kernel, mi_uws qU2⟩
theorem qU3 : ∀ k, k < 4 → u_lay qR3 qT3 k ∈ qTs := fun k hk => match k, hk with
  | 0, _ => qw114
  | 1, _ => qw116
  | 2, _ => qw118
  | 3, _ => qw120
  | k + 4, hk => absurd hk (by omega)
theorem qS3 : qSP 3 qR3 qT3 4 := ⟨⟨qty qT3, by decide +kernel, fun k hk => mi_kt_ok ((show ∀ k, k < 4 → mi_kt ((qF.getD 3 []).getD k 9) (qty qT3 k) = true by decide +kernel) k hk), by decide +kernel⟩, by decide +kernel, by decide +kernel, by decide +kernel, mi_uws qU3⟩
theorem qU4 : ∀ k, k < 4 → u_lay qR4 qT4 k ∈ qTs := fun k hk => match k, hk with
  | 0, _ => qw133
  | 1, _ => qw135
  | 2, _ => qw137
  | 3, _ => qw139
  | k + 4, hk => absurd hk (by omega)
theorem qS4 : qSP 4 qR4 qT4 4 := ⟨⟨qty qT4, by decide +kernel, fun k hk => mi_kt_ok ((show ∀ k, k < 4 → mi_kt ((qF.getD 4 []).getD k 9) (qty qT4 k) = true by decide +kernel) k hk), by decide +kernel⟩, by decide +kernel, by decide +kernel, by decide +kernel, mi_uws qU4⟩
theorem qU5 : ∀ k, k < 4 → u_lay qR5 qT5 k ∈ qTs := fun k hk => match k, hk with
  | 0, _ => qw156
  | 1, _ => qw158
  | 2, _ => qw160
  | 3, _ => qw162
  | k + 4, hk => absurd hk (by omega)
theorem qS5 : qSP 5 qR5 qT5 4 := ⟨⟨qty qT5, by decide +kernel, fun k hk => mi_kt_ok ((show ∀ k, k < 4 → mi_kt ((qF.getD 5 []).getD k 9) (qty qT5 k) = true by decide +kernel) k hk), by decide +kernel⟩, by decide +kernel, by decide +kernel, by decide +kernel, mi_uws qU5⟩
theorem qU6 : ∀ k, k < 5 → u_lay qR6 qT6 k ∈ qTs := fun k hk => match k, hk with
  | 0, _ => qw176
  | 1, _ => qw178
  | 2, _ => qw180
  | 3, _ => qw182
  | 4, _ => qw184
  | k + 5, hk => absurd hk (by omega)
theorem qS6 : qSP 6 qR6 qT6 5 := ⟨⟨qty qT6, by decide +kernel, fun k hk => mi_kt_ok ((show ∀ k, k < 5 → mi_kt ((qF.getD 6 []).getD k 9) (qty qT6 k) = true by decide +kernel) k hk), by decide +kernel⟩, by decide +kernel, by decide +kernel, by decide +kernel, mi_uws qU6⟩
theorem qU7 : ∀ k, k < 3 → u_lay qR7 qT7 k ∈ qTs := fun k hk => match k, hk with
  | 0, _ => qw218
  | 1, _ => qw220
  | 2, _ => qw222
  | k + 3, hk => absurd hk (by omega)
theorem qS7 : qSP 7 qR7 qT7 3 := ⟨⟨qty qT7, by decide +kernel, fun k hk => mi_kt_ok ((show ∀ k, k < 3 → mi_kt ((qF.getD 7 []).getD k 9) (qty qT7 k) = true by decide +kernel) k hk), by decide +kernel⟩, by decide +kernel, by decide +kernel, by decide +kernel, mi_uws qU7⟩
theorem qU8 : ∀ k, k < 4 → u_lay qR8 qT8 k ∈ qTs := fun k hk => match k, hk with
  | 0, _ => qw205
  | 1, _ => qw207
  | 2, _ => qw209
  | 3, _ => qw211
  | k + 4, hk => absurd hk (by omega)
theorem qS8 : qSP 8 qR8 qT8 4 := ⟨⟨qty qT8, by decide +kernel, fun k hk => mi_kt_ok ((show ∀ k, k < 4 → mi_kt ((qF.getD 8 []).getD k 9) (qty qT8 k) = true by decide +kernel) k hk), by decide +kernel⟩, by decide +kernel, by decide +kernel, by decide +kernel, mi_uws qU8⟩
theorem qU9 : ∀ k, k < 11 → u_lay qR9 qT9 k ∈ qTs := fun k hk => match k, hk with
  | 0, _ => qw253
  | 1, _ => qw255
  | 2, _ => qw257
  | 3, _ => qw259
  | 4, _ => qw261
  | 5, _ => qw263
  | 6, _ => qw265
  | 7, _ => qw267
  | 8, _ => qw269
  | 9, _ => qw271
  | 10, _ => qw273
  | k + 11, hk => absurd hk (by omega)
theorem qS9 : qSP 9 qR9 qT9 11 := ⟨⟨qty qT9, by decide +kernel, fun k hk => mi_kt_ok ((show ∀ k, k < 11 → mi_kt ((qF.getD 9 []).getD k 9) (qty qT9 k) = true by decide +kernel) k hk), by decide +kernel⟩, by decide +kernel, by decide +kernel, by decide +kernel, mi_uws qU9⟩
theorem qU10 : ∀ k, k < 4 → u_lay qR10 qT10 k ∈ qTs := fun k hk => match k, hk with
  | 0, _ => qw289
  | 1, _ => qw291
  | 2, _ => qw293
  | 3, _ => qw295
  | k + 4, hk => absurd hk (by omega)
theorem qS10 : qSP 10 qR10 qT10 4 := ⟨⟨qty qT10, by decide +kernel, fun k hk => mi_kt_ok ((show ∀ k, k < 4 → mi_kt ((qF.getD 10 []).getD k 9) (qty qT10 k) = true by decide +kernel) k hk), by decide +kernel⟩, by decide +kernel, by decide +kernel, by decide +kernel, mi_uws qU10⟩
theorem qU11 : ∀ k, k < 36 → u_lay qR11 qT11 k ∈ qTs := fun k hk => match k, hk with
  | 0, _ => qw992
  | 1, _ => qw994
  | 2, _ => qw996
  | 3, _ => qw998
  | 4, _ => qw1000
  | 5, _ => qw1002
  | 6, _ => qw1004
  | 7, _ => qw1006
  | 8, _ => qw1008
  | 9, _ => qw1010
  | 10, _ => qw1012
  | 11, _ => qw1014
  | 12, _ => qw1016
  | 13, _ => qw1018
  | 14, _ => qw1020
  | 15, _ => qw1022
  | 16, _ => qw1024
  | 17, _ => qw1026
  | 18, _ => qw1028
  | 19, _ => qw1030
  | 20, _ => qw1032
  | 21, _ => qw1034
  | 22, _ => qw1036
  | 23, _ => qw1038
  | 24, _ => qw1040
  | 25, _ => qw1042
  | 26, _ => qw1044
  | 27, _ => qw1046
  | 28, _ => qw1048
  | 29, _ => qw1050
  | 30, _ => qw1052
  | 31, _ => qw1054
  | 32, _ => qw1056
  | 33, _ => qw1058
  | 34, _ => qw1060
  | 35, _ => qw1062
  | k + 36, hk => absurd hk (by omega)
theorem qS11 : qSP 11 qR11 qT11 36 := ⟨⟨qty qT11, by decide +kernel, fun k hk => mi_kt_ok ((show ∀ k, k < 36 → mi_kt ((qF.getD 11 []).getD k 9) (qty qT11 k) = true by decide +kernel) k hk), by decide +kernel⟩, by decide +kernel, by decide +kernel, by decide +kernel, mi_uws qU11⟩
theorem qSt : mi_St qCl qF qTs := by
  intro a C T N h
  match a, h with
  | 0, h =>
    have e : ((qR0, qT0, 14) : vw_C) = (C, T, N) := Option.some.inj h
    cases e
    exact qS0
  | 1, h =>
    have e : ((qR1, qT1, 2) : vw_C) = (C, T, N) := Option.some.inj h
    cases e
    exact qS1
  | 2, h =>
    have e : ((qR2, qT2, 12) : vw_C) = (C, T, N) := Option.some.inj h
    cases e
    exact qS2
  | 3, h =>
    have e : ((qR3, qT3, 4) : vw_C) = (C, T, N) := Option.some.inj h
    cases e
    exact qS3
  | 4, h =>
    have e : ((qR4, qT4, 4) : vw_C) = (C, T, N) := Option.some.inj h
    cases e
    exact qS4
  | 5, h =>
    have e : ((qR5, qT5, 4) : vw_C) = (C, T, N) := Option.some.inj h
    cases e
    exact qS5
  | 6, h =>
    have e : ((qR6, qT6, 5) : vw_C) = (C, T, N) := Option.some.inj h
    cases e
    exact qS6
  | 7, h =>
    have e : ((qR7, qT7, 3) : vw_C) = (C, T, N) := Option.some.inj h
    cases e
    exact qS7
  | 8, h =>
    have e : ((qR8, qT8, 4) : vw_C) = (C, T, N) := Option.some.inj h
    cases e
    exact qS8
  | 9, h =>
    have e : ((qR9, qT9, 11) : vw_C) = (C, T, N) := Option.some.inj h
    cases e
    exact qS9
  | 10, h =>
    have e : ((qR10, qT10, 4) : vw_C) = (C, T, N) := Option.some.inj h
    cases e
    exact qS10
  | 11, h =>
    have e : ((qR11, qT11, 36) : vw_C) = (C, T, N) := Option.some.inj h
    cases e
    exact qS11
  | a + 12, h => cases h
