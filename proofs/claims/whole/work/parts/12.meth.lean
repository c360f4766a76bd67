/-! What the words say of each method and of each entry of its code: printed by a program. -/
def mi_V1b (i : Instr) (pc a : Nat) (w : Value) : Bool := match i with
  | .iconst n => (match w with
    | .int v => decide (v = Int32.ofInt n)
    | _ => false)
  | .bipush n => (match w with
    | .int v => decide (v = (Int8.ofInt n).toInt32)
    | _ => false)
  | .sipush n => (match w with
    | .int v => decide (v = (Int16.ofInt n).toInt32)
    | _ => false)
  | .lconst n => (match w with
    | .long v => decide (v = Int64.ofNat n.val)
    | _ => false)
  | .iinc _ n => (match w with
    | .int v => decide (v = Int32.ofInt n)
    | _ => false)
  | .goto off => decide ((pc : Int) + off = (a : Int))
  | .ifCond _ off => decide ((pc : Int) + off = (a : Int))
  | .if_icmp _ off => decide ((pc : Int) + off = (a : Int))
  | _ => true
theorem mi_V1b_ok {i : Instr} {pc a : Nat} {w : Value} (h : mi_V1b i pc a w = true) : mi_V1 i pc a w := by
  unfold mi_V1b at h
  split at h
  · split at h
    · simp only [decide_eq_true_eq] at h; subst h; rfl
    · cases h
  · split at h
    · simp only [decide_eq_true_eq] at h; subst h; rfl
    · cases h
  · split at h
    · simp only [decide_eq_true_eq] at h; subst h; rfl
    · cases h
  · split at h
    · simp only [decide_eq_true_eq] at h; subst h; rfl
    · cases h
  · split at h
    · simp only [decide_eq_true_eq] at h; subst h; rfl
    · cases h
  · have h2 := of_decide_eq_true h; exact h2
  · have h2 := of_decide_eq_true h; exact h2
  · have h2 := of_decide_eq_true h; exact h2
  · rename_i h1 h2 h3 h4 h5 h6 h7 h8
    unfold mi_V1
    split
    · exact absurd rfl (h1 _)
    · exact absurd rfl (h2 _)
    · exact absurd rfl (h3 _)
    · exact absurd rfl (h4 _)
    · exact absurd rfl (h5 _ _)
    · exact absurd rfl (h6 _)
    · exact absurd rfl (h7 _ _)
    · exact absurd rfl (h8 _ _)
    · trivial
def mi_A (cc : ByteArray) (z : Nat × mI) : Bool := decide (decode cc z.1 = .ok (z.2.1, mi_len z.2.1)) && (Nat.beq z.2.2.1 (z.1 + mi_len z.2.1) && mi_V1b z.2.1 z.1 z.2.2.2.1 z.2.2.2.2.2.2)
def mi_nd : Instr → Bool
  | .getfield _ => true
  | .putfield _ => true
  | .new _ => true
  | .newarray _ => true
  | _ => false
def mi_ni : Instr → Bool
  | .invokevirtual _ => true
  | .invokestatic _ => true
  | .invokespecial _ => true
  | _ => false
def mi_fa (P : Nat × mI → Prop) : mB → Prop
  | [] => True
  | z :: r => P z ∧ mi_fa P r
theorem mi_fc0 {P : Nat × mI → Prop} : mi_fa P [] := trivial
theorem mi_fc1 {P : Nat × mI → Prop} {z : Nat × mI} {r : mB} (h : P z) (k : mi_fa P r) : mi_fa P (z :: r) := ⟨h, k⟩
theorem mi_fa_mem {P : Nat × mI → Prop} : ∀ (tb : mB), mi_fa P tb → ∀ z ∈ tb, P z := by
  intro tb
  induction tb with
  | nil => intro _ z hz; cases hz
  | cons y r ih =>
    intro h z hz
    rcases List.mem_cons.mp hz with rfl | hz
    · exact h.1
    · exact ih h.2 z hz
theorem mi_lk_mem : ∀ (tb : mB) (pc : Nat) (x : mI), mi_lk tb pc = some x → (pc, x) ∈ tb := by
  intro tb
  induction tb with
  | nil => intro pc x h; cases h
  | cons y r ih =>
    intro pc x h
    unfold mi_lk at h
    cases hb : Nat.beq y.1 pc with
    | true =>
      rw [hb] at h
      cases h
      have := Nat.eq_of_beq_eq_true hb
      subst this
      exact List.mem_cons_self
    | false =>
      rw [hb] at h
      exact List.mem_cons_of_mem _ (ih pc x h)
theorem mi_VE_of {cc : ByteArray} {own : String} {cl : List vw_C} {s : State} {args : Array Value} {ini : Bool} {tb : mB} (hA : tb.all (mi_A cc) = true) (hB : mi_fa (fun z => mi_V2 own cl s args ini z.2.1 z.2.2.2.1 z.2.2.2.2.1) (tb.filter (fun z => mi_nd z.2.1))) : mi_VE cc own cl s args ini tb := by
  intro pc x hl
  have hm := mi_lk_mem tb pc x hl
  have h1 := List.all_eq_true.mp hA _ hm
  unfold mi_A at h1
  rw [Bool.and_eq_true, Bool.and_eq_true, decide_eq_true_eq] at h1
  refine ⟨Or.inl h1.1, Or.inl (Nat.eq_of_beq_eq_true h1.2.1), mi_V1b_ok h1.2.2, ?_⟩
  cases hn : mi_nd x.1 with
  | true => exact mi_fa_mem _ hB (pc, x) (List.mem_filter.mpr ⟨hm, hn⟩)
  | false =>
    unfold mi_V2
    split
    · rename_i hx; rw [hx] at hn; cases hn
    · rename_i hx; rw [hx] at hn; cases hn
    · rename_i hx; rw [hx] at hn; cases hn
    · rename_i hx; rw [hx] at hn; cases hn
    · trivial
theorem mi_VC_of {Ts : List Cond} {own : String} {Y : List mY} {cl : List vw_C} {tb : mB} (hC : mi_fa (fun z => z.2.2.2.1 < 1000 → mi_VC Ts own Y cl z.2) (tb.filter (fun z => mi_ni z.2.1))) : ∀ (pc : Nat) (x : mI), mi_lk tb pc = some x → mi_kd x.1 = (true, false) → x.2.2.1 < 1000 → mi_VC Ts own Y cl x := by
  intro pc x hl hk hlt
  have hm := mi_lk_mem tb pc x hl
  cases hn : mi_ni x.1 with
  | true => exact mi_fa_mem _ hC (pc, x) (List.mem_filter.mpr ⟨hm, hn⟩) hlt
  | false =>
    unfold mi_VC
    split
    · rename_i hx; rw [hx] at hn; cases hn
    · rename_i hx; rw [hx] at hn; cases hn
    · rename_i hx; rw [hx] at hn; cases hn
    · trivial
def qY0 : mY := (({ cls := "AssertionGate", name := "<init>", desc := "(II)V" } : Jvm.MethodName), prog_1_method_1_code, 2, 2)
def qY1 : mY := (({ cls := "AssertionGate", name := "trust", desc := "(III)Z" } : Jvm.MethodName), prog_1_method_2_code, 3, 1)
def qY2 : mY := (({ cls := "AssertionGate", name := "key", desc := "(III)Z" } : Jvm.MethodName), prog_1_method_3_code, 3, 1)
def qY3 : mY := (({ cls := "AssertionGate", name := "isKeyPart", desc := "(III)Z" } : Jvm.MethodName), prog_1_method_4_code, 3, 0)
def qY4 : mY := (({ cls := "AssertionGate", name := "pass", desc := "(I)Z" } : Jvm.MethodName), prog_1_method_5_code, 1, 1)
def qY5 : mY := (({ cls := "AssertionGate", name := "request", desc := "(I)I" } : Jvm.MethodName), prog_1_method_6_code, 1, 1)
def qY6 : mY := (({ cls := "AssertionGate", name := "issue", desc := "(IIIII)Z" } : Jvm.MethodName), prog_1_method_7_code, 5, 1)
def qY7 : mY := (({ cls := "AssertionGate", name := "putHead", desc := "(II)V" } : Jvm.MethodName), prog_1_method_8_code, 2, 1)
def qY8 : mY := (({ cls := "AssertionGate", name := "putAssertion", desc := "(IIII)V" } : Jvm.MethodName), prog_1_method_9_code, 4, 1)
def qY9 : mY := (({ cls := "AssertionGate", name := "putIssuer", desc := "(I)V" } : Jvm.MethodName), prog_1_method_10_code, 1, 1)
def qY10 : mY := (({ cls := "AssertionGate", name := "putUser", desc := "(I)V" } : Jvm.MethodName), prog_1_method_11_code, 1, 1)
def qY11 : mY := (({ cls := "AssertionGate", name := "putSig", desc := "(CI)V" } : Jvm.MethodName), prog_1_method_12_code, 2, 1)
def qY12 : mY := (({ cls := "AssertionGate", name := "leave", desc := "(II)Z" } : Jvm.MethodName), prog_1_method_13_code, 2, 1)
def qY13 : mY := (({ cls := "AssertionGate", name := "isBelow", desc := "(II)Z" } : Jvm.MethodName), prog_1_method_14_code, 2, 0)
def qY14 : mY := (({ cls := "AssertionGate", name := "isPrintable", desc := "(C)Z" } : Jvm.MethodName), prog_1_method_15_code, 1, 0)
def qY15 : mY := (({ cls := "AssertionGate", name := "write", desc := "(C)Z" } : Jvm.MethodName), prog_1_method_16_code, 1, 1)
def qY16 : mY := (({ cls := "AssertionGate", name := "set", desc := "(IC)Z" } : Jvm.MethodName), prog_1_method_17_code, 2, 1)
def qY17 : mY := (({ cls := "AssertionGate", name := "cut", desc := "(II)Z" } : Jvm.MethodName), prog_1_method_18_code, 2, 1)
def qY18 : mY := (({ cls := "AssertionGate", name := "paste", desc := "(I)Z" } : Jvm.MethodName), prog_1_method_19_code, 1, 1)
def qY19 : mY := (({ cls := "AssertionGate", name := "clear", desc := "()V" } : Jvm.MethodName), prog_1_method_20_code, 0, 1)
def qY20 : mY := (({ cls := "AssertionGate", name := "length", desc := "()I" } : Jvm.MethodName), prog_1_method_21_code, 0, 1)
def qY21 : mY := (({ cls := "AssertionGate", name := "at", desc := "(I)I" } : Jvm.MethodName), prog_1_method_22_code, 1, 1)
def qY22 : mY := (({ cls := "AssertionGate", name := "elements", desc := "()I" } : Jvm.MethodName), prog_1_method_23_code, 0, 1)
def qY23 : mY := (({ cls := "AssertionGate", name := "digest", desc := "(I)I" } : Jvm.MethodName), prog_1_method_24_code, 1, 1)
def qY24 : mY := (({ cls := "AssertionGate", name := "seal", desc := "(II)I" } : Jvm.MethodName), prog_1_method_25_code, 2, 1)
def qY25 : mY := (({ cls := "AssertionGate", name := "sealOfRead", desc := "(II)I" } : Jvm.MethodName), prog_1_method_26_code, 2, 1)
def qY26 : mY := (({ cls := "AssertionGate", name := "consume", desc := "()I" } : Jvm.MethodName), prog_1_method_27_code, 0, 1)
def qY27 : mY := (({ cls := "AssertionGate", name := "session", desc := "(I)I" } : Jvm.MethodName), prog_1_method_28_code, 1, 1)
def qY28 : mY := (({ cls := "AssertionGate", name := "name", desc := "(II)I" } : Jvm.MethodName), prog_1_method_29_code, 2, 1)
def qY29 : mY := (({ cls := "AssertionGate", name := "outstanding", desc := "()I" } : Jvm.MethodName), prog_1_method_30_code, 0, 1)
def qY30 : mY := (({ cls := "AssertionGate", name := "takeResponse", desc := "()I" } : Jvm.MethodName), prog_1_method_31_code, 0, 1)
def qY31 : mY := (({ cls := "AssertionGate", name := "faultOfTerms", desc := "(I)I" } : Jvm.MethodName), prog_1_method_32_code, 1, 1)
def qY32 : mY := (({ cls := "AssertionGate", name := "hasRunOut", desc := "(I)Z" } : Jvm.MethodName), prog_1_method_33_code, 1, 1)
def qY33 : mY := (({ cls := "AssertionGate", name := "takeLogout", desc := "()I" } : Jvm.MethodName), prog_1_method_34_code, 0, 1)
def qY34 : mY := (({ cls := "AssertionGate", name := "isValid", desc := "(III)Z" } : Jvm.MethodName), prog_1_method_35_code, 3, 1)
def qY35 : mY := (({ cls := "AssertionGate", name := "trustedNamed", desc := "(I)I" } : Jvm.MethodName), prog_1_method_36_code, 1, 1)
def qY36 : mY := (({ cls := "AssertionGate", name := "isSeen", desc := "(I)Z" } : Jvm.MethodName), prog_1_method_37_code, 1, 1)
def qY37 : mY := (({ cls := "AssertionGate", name := "markSeen", desc := "(I)V" } : Jvm.MethodName), prog_1_method_38_code, 1, 1)
def qY38 : mY := (({ cls := "AssertionGate$Page", name := "<init>", desc := "()V" } : Jvm.MethodName), prog_7_method_1_code, 0, 2)
def qY39 : mY := (({ cls := "AssertionGate$Page", name := "codeAt", desc := "(I)I" } : Jvm.MethodName), prog_7_method_2_code, 1, 1)
def qY40 : mY := (({ cls := "AssertionGate$Page", name := "put", desc := "(C)Z" } : Jvm.MethodName), prog_7_method_3_code, 1, 1)
def qY41 : mY := (({ cls := "AssertionGate$Page", name := "putWord", desc := "(Ljava/lang/String;)V" } : Jvm.MethodName), prog_7_method_4_code, 1, 1)
def qY42 : mY := (({ cls := "AssertionGate$Page", name := "putNumber", desc := "(I)V" } : Jvm.MethodName), prog_7_method_5_code, 1, 1)
def qY43 : mY := (({ cls := "AssertionGate$Page", name := "shorten", desc := "(I)V" } : Jvm.MethodName), prog_7_method_6_code, 1, 1)
def qY44 : mY := (({ cls := "AssertionGate$Page", name := "moveOut", desc := "(IILAssertionGate$Page;)V" } : Jvm.MethodName), prog_7_method_7_code, 3, 1)
def qY45 : mY := (({ cls := "AssertionGate$Page", name := "copyIn", desc := "(ILAssertionGate$Page;)V" } : Jvm.MethodName), prog_7_method_8_code, 2, 1)
def qY46 : mY := (({ cls := "AssertionGate$Page", name := "afterLetters", desc := "(I)I" } : Jvm.MethodName), prog_7_method_9_code, 1, 1)
def qY47 : mY := (({ cls := "AssertionGate$Page", name := "afterSpaces", desc := "(I)I" } : Jvm.MethodName), prog_7_method_10_code, 1, 1)
def qY48 : mY := (({ cls := "AssertionGate$Page", name := "hasDashes", desc := "(I)Z" } : Jvm.MethodName), prog_7_method_11_code, 1, 1)
def qY49 : mY := (({ cls := "AssertionGate$Page", name := "afterComment", desc := "(I)I" } : Jvm.MethodName), prog_7_method_12_code, 1, 1)
def qY50 : mY := (({ cls := "AssertionGate$Page", name := "isWord", desc := "(IILjava/lang/String;)Z" } : Jvm.MethodName), prog_7_method_13_code, 3, 1)
def qY51 : mY := (({ cls := "AssertionGate$Page", name := "order", desc := "(IIII)I" } : Jvm.MethodName), prog_7_method_14_code, 4, 1)
def qY52 : mY := (({ cls := "AssertionGate$Message", name := "<init>", desc := "(LAssertionGate$Page;)V" } : Jvm.MethodName), prog_6_method_1_code, 1, 2)
def qY53 : mY := (({ cls := "AssertionGate$Message", name := "holds", desc := "(I)Z" } : Jvm.MethodName), prog_6_method_2_code, 1, 1)
def qY54 : mY := (({ cls := "AssertionGate$Message", name := "add", desc := "(III)I" } : Jvm.MethodName), prog_6_method_3_code, 3, 1)
def qY55 : mY := (({ cls := "AssertionGate$Message", name := "keepAttribute", desc := "(IIII)Z" } : Jvm.MethodName), prog_6_method_4_code, 4, 1)
def qY56 : mY := (({ cls := "AssertionGate$Message", name := "isNamed", desc := "(ILjava/lang/String;)Z" } : Jvm.MethodName), prog_6_method_5_code, 2, 1)
def qY57 : mY := (({ cls := "AssertionGate$Message", name := "childCount", desc := "(ILjava/lang/String;)I" } : Jvm.MethodName), prog_6_method_6_code, 2, 1)
def qY58 : mY := (({ cls := "AssertionGate$Message", name := "lastChild", desc := "(ILjava/lang/String;)I" } : Jvm.MethodName), prog_6_method_7_code, 2, 1)
def qY59 : mY := (({ cls := "AssertionGate$Message", name := "onlyChild", desc := "(ILjava/lang/String;)I" } : Jvm.MethodName), prog_6_method_8_code, 2, 1)
def qY60 : mY := (({ cls := "AssertionGate$Message", name := "bodyFrom", desc := "(I)I" } : Jvm.MethodName), prog_6_method_9_code, 1, 1)
def qY61 : mY := (({ cls := "AssertionGate$Message", name := "bodyTo", desc := "(I)I" } : Jvm.MethodName), prog_6_method_10_code, 1, 1)
def qY62 : mY := (({ cls := "AssertionGate$Message", name := "hasWord", desc := "(I)Z" } : Jvm.MethodName), prog_6_method_11_code, 1, 1)
def qY63 : mY := (({ cls := "AssertionGate$Message", name := "wordIs", desc := "(ILjava/lang/String;)Z" } : Jvm.MethodName), prog_6_method_12_code, 2, 1)
def qY64 : mY := (({ cls := "AssertionGate$Message", name := "sameWord", desc := "(II)Z" } : Jvm.MethodName), prog_6_method_13_code, 2, 1)
def qY65 : mY := (({ cls := "AssertionGate$Message", name := "slotOf", desc := "(ILjava/lang/String;)I" } : Jvm.MethodName), prog_6_method_14_code, 2, 1)
def qY66 : mY := (({ cls := "AssertionGate$Message", name := "has", desc := "(ILjava/lang/String;)Z" } : Jvm.MethodName), prog_6_method_15_code, 2, 1)
def qY67 : mY := (({ cls := "AssertionGate$Message", name := "valueFrom", desc := "(I)I" } : Jvm.MethodName), prog_6_method_16_code, 1, 1)
def qY68 : mY := (({ cls := "AssertionGate$Message", name := "valueTo", desc := "(I)I" } : Jvm.MethodName), prog_6_method_17_code, 1, 1)
def qY69 : mY := (({ cls := "AssertionGate$Message", name := "valueIs", desc := "(ILjava/lang/String;Ljava/lang/String;)Z" } : Jvm.MethodName), prog_6_method_18_code, 3, 1)
def qY70 : mY := (({ cls := "AssertionGate$Message", name := "sameText", desc := "(II)Z" } : Jvm.MethodName), prog_6_method_19_code, 2, 1)
def qY71 : mY := (({ cls := "AssertionGate$Message", name := "sameValue", desc := "(IILjava/lang/String;)Z" } : Jvm.MethodName), prog_6_method_20_code, 3, 1)
def qY72 : mY := (({ cls := "AssertionGate$Message", name := "hasKey", desc := "(ILjava/lang/String;)Z" } : Jvm.MethodName), prog_6_method_21_code, 2, 1)
def qY73 : mY := (({ cls := "AssertionGate$Message", name := "hasNumber", desc := "(ILjava/lang/String;)Z" } : Jvm.MethodName), prog_6_method_22_code, 2, 1)
def qY74 : mY := (({ cls := "AssertionGate$Message", name := "number", desc := "(ILjava/lang/String;)I" } : Jvm.MethodName), prog_6_method_23_code, 2, 1)
def qY75 : mY := (({ cls := "AssertionGate$Message", name := "repeatsAnId", desc := "()Z" } : Jvm.MethodName), prog_6_method_24_code, 0, 1)
def qY76 : mY := (({ cls := "AssertionGate$Message", name := "hasSoundSigs", desc := "(I)Z" } : Jvm.MethodName), prog_6_method_25_code, 1, 1)
def qY77 : mY := (({ cls := "AssertionGate$Reader", name := "<init>", desc := "(LAssertionGate$Page;LAssertionGate$Message;)V" } : Jvm.MethodName), prog_8_method_1_code, 2, 2)
def qY78 : mY := (({ cls := "AssertionGate$Reader", name := "read", desc := "()I" } : Jvm.MethodName), prog_8_method_2_code, 0, 1)
def qY79 : mY := (({ cls := "AssertionGate$Reader", name := "isBanned", desc := "()Z" } : Jvm.MethodName), prog_8_method_3_code, 0, 1)
def qY80 : mY := (({ cls := "AssertionGate$Reader", name := "afterName", desc := "(I)I" } : Jvm.MethodName), prog_8_method_4_code, 1, 1)
def qY81 : mY := (({ cls := "AssertionGate$Reader", name := "afterStartTag", desc := "(I)I" } : Jvm.MethodName), prog_8_method_5_code, 1, 1)
def qY82 : mY := (({ cls := "AssertionGate$Reader", name := "afterAttributes", desc := "(II)I" } : Jvm.MethodName), prog_8_method_6_code, 2, 1)
def qY83 : mY := (({ cls := "AssertionGate$Reader", name := "closingQuote", desc := "(I)I" } : Jvm.MethodName), prog_8_method_7_code, 1, 1)
def qY84 : mY := (({ cls := "AssertionGate$Reader", name := "afterEndTag", desc := "(I)I" } : Jvm.MethodName), prog_8_method_8_code, 1, 1)
def qY85 : mY := (({ cls := "AssertionGate$Digester", name := "<init>", desc := "(LAssertionGate$Page;LAssertionGate$Message;)V" } : Jvm.MethodName), prog_2_method_1_code, 2, 2)
def qY86 : mY := (({ cls := "AssertionGate$Digester", name := "digestOf", desc := "(I)I" } : Jvm.MethodName), prog_2_method_2_code, 1, 1)
def qY87 : mY := (({ cls := "AssertionGate$Digester", name := "foldEndTag", desc := "(I)I" } : Jvm.MethodName), prog_2_method_3_code, 1, 1)
def qY88 : mY := (({ cls := "AssertionGate$Digester", name := "foldStartTag", desc := "(I)I" } : Jvm.MethodName), prog_2_method_4_code, 1, 1)
def qY89 : mY := (({ cls := "AssertionGate$Digester", name := "passOver", desc := "(I)V" } : Jvm.MethodName), prog_2_method_5_code, 1, 1)
def qY90 : mY := (({ cls := "AssertionGate$Digester", name := "foldEnd", desc := "(II)V" } : Jvm.MethodName), prog_2_method_6_code, 2, 1)
def qY91 : mY := (({ cls := "AssertionGate$Digester", name := "foldSpan", desc := "(II)V" } : Jvm.MethodName), prog_2_method_7_code, 2, 1)
def qY92 : mY := (({ cls := "AssertionGate$Digester", name := "fold", desc := "(I)V" } : Jvm.MethodName), prog_2_method_8_code, 1, 1)
def qY93 : mY := (({ cls := "AssertionGate$Issuers", name := "<init>", desc := "()V" } : Jvm.MethodName), prog_3_method_1_code, 0, 2)
def qY94 : mY := (({ cls := "AssertionGate$Issuers", name := "isTrusted", desc := "(I)Z" } : Jvm.MethodName), prog_3_method_2_code, 1, 1)
def qY95 : mY := (({ cls := "AssertionGate$Issuers", name := "canSeal", desc := "(I)Z" } : Jvm.MethodName), prog_3_method_3_code, 1, 1)
def qY96 : mY := (({ cls := "AssertionGate$Issuers", name := "sealOf", desc := "(II)I" } : Jvm.MethodName), prog_3_method_4_code, 2, 1)
def qY97 : mY := (({ cls := "AssertionGate$Issuers", name := "verifies", desc := "(III)Z" } : Jvm.MethodName), prog_3_method_5_code, 3, 1)
def qY98 : mY := (({ cls := "AssertionGate$Issuers", name := "power", desc := "(III)I" } : Jvm.MethodName), prog_3_method_6_code, 3, 0)
def qY99 : mY := (({ cls := "AssertionGate$Requests", name := "<init>", desc := "(I)V" } : Jvm.MethodName), prog_9_method_1_code, 1, 2)
def qY100 : mY := (({ cls := "AssertionGate$Requests", name := "open", desc := "(II)I" } : Jvm.MethodName), prog_9_method_2_code, 2, 1)
def qY101 : mY := (({ cls := "AssertionGate$Requests", name := "isOpen", desc := "(II)Z" } : Jvm.MethodName), prog_9_method_3_code, 2, 1)
def qY102 : mY := (({ cls := "AssertionGate$Requests", name := "awaits", desc := "(III)Z" } : Jvm.MethodName), prog_9_method_4_code, 3, 1)
def qY103 : mY := (({ cls := "AssertionGate$Requests", name := "answer", desc := "(I)V" } : Jvm.MethodName), prog_9_method_5_code, 1, 1)
def qY104 : mY := (({ cls := "AssertionGate$Requests", name := "openCount", desc := "(I)I" } : Jvm.MethodName), prog_9_method_6_code, 1, 1)
def qY105 : mY := (({ cls := "AssertionGate$Sessions", name := "<init>", desc := "()V" } : Jvm.MethodName), prog_11_method_1_code, 0, 2)
def qY106 : mY := (({ cls := "AssertionGate$Sessions", name := "isFull", desc := "()Z" } : Jvm.MethodName), prog_11_method_2_code, 0, 1)
def qY107 : mY := (({ cls := "AssertionGate$Sessions", name := "open", desc := "(ILAssertionGate$Page;II)I" } : Jvm.MethodName), prog_11_method_3_code, 4, 1)
def qY108 : mY := (({ cls := "AssertionGate$Sessions", name := "end", desc := "(ILAssertionGate$Page;II)I" } : Jvm.MethodName), prog_11_method_4_code, 4, 1)
def qY109 : mY := (({ cls := "AssertionGate$Sessions", name := "stateOf", desc := "(I)I" } : Jvm.MethodName), prog_11_method_5_code, 1, 1)
def qY110 : mY := (({ cls := "AssertionGate$Labels", name := "<init>", desc := "(I)V" } : Jvm.MethodName), prog_4_method_1_code, 1, 2)
def qY111 : mY := (({ cls := "AssertionGate$Labels", name := "isFull", desc := "()Z" } : Jvm.MethodName), prog_4_method_2_code, 0, 1)
def qY112 : mY := (({ cls := "AssertionGate$Labels", name := "keep", desc := "(LAssertionGate$Page;II)V" } : Jvm.MethodName), prog_4_method_3_code, 3, 1)
def qY113 : mY := (({ cls := "AssertionGate$Labels", name := "codeAt", desc := "(II)I" } : Jvm.MethodName), prog_4_method_4_code, 2, 1)
def qY114 : mY := (({ cls := "AssertionGate$Labels", name := "isLabel", desc := "(ILAssertionGate$Page;II)Z" } : Jvm.MethodName), prog_4_method_5_code, 4, 1)
def qY115 : mY := (({ cls := "AssertionGate$Labels", name := "find", desc := "(LAssertionGate$Page;II)I" } : Jvm.MethodName), prog_4_method_6_code, 3, 1)
def qY116 : mY := (({ cls := "AssertionGate$Response", name := "<init>", desc := "(LAssertionGate$Message;)V" } : Jvm.MethodName), prog_10_method_1_code, 1, 2)
def qY117 : mY := (({ cls := "AssertionGate$Response", name := "isFound", desc := "()Z" } : Jvm.MethodName), prog_10_method_2_code, 0, 1)
def qY118 : mY := (({ cls := "AssertionGate$Response", name := "findParts", desc := "()V" } : Jvm.MethodName), prog_10_method_3_code, 0, 1)
def qY119 : mY := (({ cls := "AssertionGate$Response", name := "isHeadSound", desc := "()Z" } : Jvm.MethodName), prog_10_method_4_code, 0, 1)
def qY120 : mY := (({ cls := "AssertionGate$Response", name := "isAssnSound", desc := "()Z" } : Jvm.MethodName), prog_10_method_5_code, 0, 1)
def qY121 : mY := (({ cls := "AssertionGate$Response", name := "isSubjSound", desc := "()Z" } : Jvm.MethodName), prog_10_method_6_code, 0, 1)
def qY122 : mY := (({ cls := "AssertionGate$Logout", name := "<init>", desc := "(LAssertionGate$Message;)V" } : Jvm.MethodName), prog_5_method_1_code, 1, 2)
def qY123 : mY := (({ cls := "AssertionGate$Logout", name := "isFound", desc := "()Z" } : Jvm.MethodName), prog_5_method_2_code, 0, 1)
def qY124 : mY := (({ cls := "AssertionGateModel", name := "<init>", desc := "(II)V" } : Jvm.MethodName), prog_13_method_1_code, 2, 2)
def qY125 : mY := (({ cls := "AssertionGateModel", name := "issuer", desc := "(I)Z" } : Jvm.MethodName), prog_13_method_2_code, 1, 0)
def qY126 : mY := (({ cls := "AssertionGateModel", name := "numbers", desc := "(II)Z" } : Jvm.MethodName), prog_13_method_3_code, 2, 0)
def qY127 : mY := (({ cls := "AssertionGateModel", name := "trust", desc := "(III)Z" } : Jvm.MethodName), prog_13_method_4_code, 3, 1)
def qY128 : mY := (({ cls := "AssertionGateModel", name := "key", desc := "(III)Z" } : Jvm.MethodName), prog_13_method_5_code, 3, 1)
def qY129 : mY := (({ cls := "AssertionGateModel", name := "pass", desc := "(I)Z" } : Jvm.MethodName), prog_13_method_6_code, 1, 1)
def qY130 : mY := (({ cls := "AssertionGateModel", name := "request", desc := "(I)I" } : Jvm.MethodName), prog_13_method_7_code, 1, 1)
def qY131 : mY := (({ cls := "AssertionGateModel", name := "waits", desc := "(I)Z" } : Jvm.MethodName), prog_13_method_8_code, 1, 1)
def qY132 : mY := (({ cls := "AssertionGateModel", name := "outstanding", desc := "()I" } : Jvm.MethodName), prog_13_method_9_code, 0, 1)
def qY133 : mY := (({ cls := "AssertionGateModel", name := "power", desc := "(III)I" } : Jvm.MethodName), prog_13_method_10_code, 3, 0)
def qY134 : mY := (({ cls := "AssertionGateModel", name := "printable", desc := "(I)Z" } : Jvm.MethodName), prog_13_method_11_code, 1, 0)
def qY135 : mY := (({ cls := "AssertionGateModel", name := "write", desc := "(C)Z" } : Jvm.MethodName), prog_13_method_12_code, 1, 1)
def qY136 : mY := (({ cls := "AssertionGateModel", name := "set", desc := "(IC)Z" } : Jvm.MethodName), prog_13_method_13_code, 2, 1)
def qY137 : mY := (({ cls := "AssertionGateModel", name := "cut", desc := "(II)Z" } : Jvm.MethodName), prog_13_method_14_code, 2, 1)
def qY138 : mY := (({ cls := "AssertionGateModel", name := "paste", desc := "(I)Z" } : Jvm.MethodName), prog_13_method_15_code, 1, 1)
def qY139 : mY := (({ cls := "AssertionGateModel", name := "clear", desc := "()V" } : Jvm.MethodName), prog_13_method_16_code, 0, 1)
def qY140 : mY := (({ cls := "AssertionGateModel", name := "length", desc := "()I" } : Jvm.MethodName), prog_13_method_17_code, 0, 1)
def qY141 : mY := (({ cls := "AssertionGateModel", name := "at", desc := "(I)I" } : Jvm.MethodName), prog_13_method_18_code, 1, 1)
def qY142 : mY := (({ cls := "AssertionGateModel", name := "dashes", desc := "(I)Z" } : Jvm.MethodName), prog_13_method_19_code, 1, 1)
def qY143 : mY := (({ cls := "AssertionGateModel", name := "banned", desc := "()Z" } : Jvm.MethodName), prog_13_method_20_code, 0, 1)
def qY144 : mY := (({ cls := "AssertionGateModel", name := "letter", desc := "(I)Z" } : Jvm.MethodName), prog_13_method_21_code, 1, 0)
def qY145 : mY := (({ cls := "AssertionGateModel", name := "nameAt", desc := "(I)I" } : Jvm.MethodName), prog_13_method_22_code, 1, 1)
def qY146 : mY := (({ cls := "AssertionGateModel", name := "spaces", desc := "(I)I" } : Jvm.MethodName), prog_13_method_23_code, 1, 1)
def qY147 : mY := (({ cls := "AssertionGateModel", name := "attribute", desc := "(II)I" } : Jvm.MethodName), prog_13_method_24_code, 2, 1)
def qY148 : mY := (({ cls := "AssertionGateModel", name := "find", desc := "(IJ)I" } : Jvm.MethodName), prog_13_method_25_code, 2, 1)
def qY149 : mY := (({ cls := "AssertionGateModel", name := "tag", desc := "(II)I" } : Jvm.MethodName), prog_13_method_26_code, 2, 1)
def qY150 : mY := (({ cls := "AssertionGateModel", name := "comment", desc := "(I)I" } : Jvm.MethodName), prog_13_method_27_code, 1, 1)
def qY151 : mY := (({ cls := "AssertionGateModel", name := "close", desc := "(II)I" } : Jvm.MethodName), prog_13_method_28_code, 2, 1)
def qY152 : mY := (({ cls := "AssertionGateModel", name := "depth", desc := "(I)I" } : Jvm.MethodName), prog_13_method_29_code, 1, 1)
def qY153 : mY := (({ cls := "AssertionGateModel", name := "read", desc := "()I" } : Jvm.MethodName), prog_13_method_30_code, 0, 1)
def qY154 : mY := (({ cls := "AssertionGateModel", name := "elements", desc := "()I" } : Jvm.MethodName), prog_13_method_31_code, 0, 1)
def qY155 : mY := (({ cls := "AssertionGateModel", name := "fold", desc := "(II)I" } : Jvm.MethodName), prog_13_method_32_code, 2, 0)
def qY156 : mY := (({ cls := "AssertionGateModel", name := "foldName", desc := "(IJ)I" } : Jvm.MethodName), prog_13_method_33_code, 2, 0)
def qY157 : mY := (({ cls := "AssertionGateModel", name := "foldAttribute", desc := "(II)I" } : Jvm.MethodName), prog_13_method_34_code, 2, 1)
def qY158 : mY := (({ cls := "AssertionGateModel", name := "foldHead", desc := "(II)I" } : Jvm.MethodName), prog_13_method_35_code, 2, 1)
def qY159 : mY := (({ cls := "AssertionGateModel", name := "foldTail", desc := "(II)I" } : Jvm.MethodName), prog_13_method_36_code, 2, 1)
def qY160 : mY := (({ cls := "AssertionGateModel", name := "elementAt", desc := "(IZ)I" } : Jvm.MethodName), prog_13_method_37_code, 2, 1)
def qY161 : mY := (({ cls := "AssertionGateModel", name := "digestOf", desc := "(I)I" } : Jvm.MethodName), prog_13_method_38_code, 1, 1)
def qY162 : mY := (({ cls := "AssertionGateModel", name := "digest", desc := "(I)I" } : Jvm.MethodName), prog_13_method_39_code, 1, 1)
def qY163 : mY := (({ cls := "AssertionGateModel", name := "seal", desc := "(II)I" } : Jvm.MethodName), prog_13_method_40_code, 2, 1)
def qY164 : mY := (({ cls := "AssertionGateModel", name := "pack", desc := "(II)J" } : Jvm.MethodName), prog_13_method_41_code, 2, 1)
def qY165 : mY := (({ cls := "AssertionGateModel", name := "wordOf", desc := "(I)J" } : Jvm.MethodName), prog_13_method_42_code, 1, 1)
def qY166 : mY := (({ cls := "AssertionGateModel", name := "keyOf", desc := "(IJ)J" } : Jvm.MethodName), prog_13_method_43_code, 2, 1)
def qY167 : mY := (({ cls := "AssertionGateModel", name := "numberOf", desc := "(IJ)I" } : Jvm.MethodName), prog_13_method_44_code, 2, 1)
def qY168 : mY := (({ cls := "AssertionGateModel", name := "same", desc := "(II)Z" } : Jvm.MethodName), prog_13_method_45_code, 2, 1)
def qY169 : mY := (({ cls := "AssertionGateModel", name := "children", desc := "(IJ)I" } : Jvm.MethodName), prog_13_method_46_code, 2, 1)
def qY170 : mY := (({ cls := "AssertionGateModel", name := "child", desc := "(IJ)I" } : Jvm.MethodName), prog_13_method_47_code, 2, 1)
def qY171 : mY := (({ cls := "AssertionGateModel", name := "oneWord", desc := "(IJ)Z" } : Jvm.MethodName), prog_13_method_48_code, 2, 1)
def qY172 : mY := (({ cls := "AssertionGateModel", name := "sigs", desc := "(I)Z" } : Jvm.MethodName), prog_13_method_49_code, 1, 1)
def qY173 : mY := (({ cls := "AssertionGateModel", name := "twice", desc := "()Z" } : Jvm.MethodName), prog_13_method_50_code, 0, 1)
def qY174 : mY := (({ cls := "AssertionGateModel", name := "isResponse", desc := "()Z" } : Jvm.MethodName), prog_13_method_51_code, 0, 1)
def qY175 : mY := (({ cls := "AssertionGateModel", name := "isLogout", desc := "()Z" } : Jvm.MethodName), prog_13_method_52_code, 0, 1)
def qY176 : mY := (({ cls := "AssertionGateModel", name := "named", desc := "(I)I" } : Jvm.MethodName), prog_13_method_53_code, 1, 1)
def qY177 : mY := (({ cls := "AssertionGateModel", name := "sound", desc := "(I)Z" } : Jvm.MethodName), prog_13_method_54_code, 1, 1)
def qY178 : mY := (({ cls := "AssertionGateModel", name := "isSeen", desc := "(J)Z" } : Jvm.MethodName), prog_13_method_55_code, 1, 1)
def qY179 : mY := (({ cls := "AssertionGateModel", name := "see", desc := "(J)V" } : Jvm.MethodName), prog_13_method_56_code, 1, 1)
def qY180 : mY := (({ cls := "AssertionGateModel", name := "faults", desc := "(I)I" } : Jvm.MethodName), prog_13_method_57_code, 1, 1)
def qY181 : mY := (({ cls := "AssertionGateModel", name := "accept", desc := "(I)I" } : Jvm.MethodName), prog_13_method_58_code, 1, 1)
def qY182 : mY := (({ cls := "AssertionGateModel", name := "logout", desc := "()I" } : Jvm.MethodName), prog_13_method_59_code, 0, 1)
def qY183 : mY := (({ cls := "AssertionGateModel", name := "consume", desc := "()I" } : Jvm.MethodName), prog_13_method_60_code, 0, 1)
def qY184 : mY := (({ cls := "AssertionGateModel", name := "session", desc := "(I)I" } : Jvm.MethodName), prog_13_method_61_code, 1, 1)
def qY185 : mY := (({ cls := "AssertionGateModel", name := "name", desc := "(II)I" } : Jvm.MethodName), prog_13_method_62_code, 2, 1)
def qY186 : mY := (({ cls := "AssertionGateModel", name := "put", desc := "(J)V" } : Jvm.MethodName), prog_13_method_63_code, 1, 1)
def qY187 : mY := (({ cls := "AssertionGateModel", name := "putNumber", desc := "(I)V" } : Jvm.MethodName), prog_13_method_64_code, 1, 1)
def qY188 : mY := (({ cls := "AssertionGateModel", name := "putSig", desc := "(II)V" } : Jvm.MethodName), prog_13_method_65_code, 2, 1)
def qY189 : mY := (({ cls := "AssertionGateModel", name := "putIssuer", desc := "(I)V" } : Jvm.MethodName), prog_13_method_66_code, 1, 1)
def qY190 : mY := (({ cls := "AssertionGateModel", name := "putUser", desc := "(I)V" } : Jvm.MethodName), prog_13_method_67_code, 1, 1)
def qY191 : mY := (({ cls := "AssertionGateModel", name := "putSubject", desc := "(III)V" } : Jvm.MethodName), prog_13_method_68_code, 3, 1)
def qY192 : mY := (({ cls := "AssertionGateModel", name := "fill", desc := "(IIIIII)V" } : Jvm.MethodName), prog_13_method_69_code, 6, 1)
def qY193 : mY := (({ cls := "AssertionGateModel", name := "signature", desc := "(II)I" } : Jvm.MethodName), prog_13_method_70_code, 2, 1)
def qY194 : mY := (({ cls := "AssertionGateModel", name := "issue", desc := "(IIIII)Z" } : Jvm.MethodName), prog_13_method_71_code, 5, 1)
def qY195 : mY := (({ cls := "AssertionGateModel", name := "fillOut", desc := "(III)V" } : Jvm.MethodName), prog_13_method_72_code, 3, 1)
def qY196 : mY := (({ cls := "AssertionGateModel", name := "leave", desc := "(II)Z" } : Jvm.MethodName), prog_13_method_73_code, 2, 1)
def qY197 : mY := (({ cls := "AssertionGateLaw", name := "cell", desc := "([II)I" } : Jvm.MethodName), method_2_code, 2, 0)
def qY : List mY := [qY0, qY1, qY2, qY3, qY4, qY5, qY6, qY7, qY8, qY9, qY10, qY11, qY12, qY13, qY14, qY15, qY16, qY17, qY18, qY19, qY20, qY21, qY22, qY23, qY24, qY25, qY26, qY27, qY28, qY29, qY30, qY31, qY32, qY33, qY34, qY35, qY36, qY37, qY38, qY39, qY40, qY41, qY42, qY43, qY44, qY45, qY46, qY47, qY48, qY49, qY50, qY51, qY52, qY53, qY54, qY55, qY56, qY57, qY58, qY59, qY60, qY61, qY62, qY63, qY64, qY65, qY66, qY67, qY68, qY69, qY70, qY71, qY72, qY73, qY74, qY75, qY76, qY77, qY78, qY79, qY80, qY81, qY82, qY83, qY84, qY85, qY86, qY87, qY88, qY89, qY90, qY91, qY92, qY93, qY94, qY95, qY96, qY97, qY98, qY99, qY100, qY101, qY102, qY103, qY104, qY105, qY106, qY107, qY108, qY109, qY110, qY111, qY112, qY113, qY114, qY115, qY116, qY117, qY118, qY119, qY120, qY121, qY122, qY123, qY124, qY125, qY126, qY127, qY128, qY129, qY130, qY131, qY132, qY133, qY134, qY135, qY136, qY137, qY138, qY139, qY140, qY141, qY142, qY143, qY144, qY145, qY146, qY147, qY148, qY149, qY150, qY151, qY152, qY153, qY154, qY155, qY156, qY157, qY158, qY159, qY160, qY161, qY162, qY163, qY164, qY165, qY166, qY167, qY168, qY169, qY170, qY171, qY172, qY173, qY174, qY175, qY176, qY177, qY178, qY179, qY180, qY181, qY182, qY183, qY184, qY185, qY186, qY187, qY188, qY189, qY190, qY191, qY192, qY193, qY194, qY195, qY196, qY197]
theorem qF0 : mi_YF qTs (tb0, 3, none) qY0 := ⟨by decide, qw23, qw1, ⟨by decide, by decide, by decide +kernel⟩, (fun z => absurd z (by decide)), (fun z => absurd z (by decide)), (fun _ => ⟨qw22, rfl, rfl⟩), Nat.le_of_ble_eq_true rfl⟩
theorem qF1 : mi_YF qTs (tb1, 4, (some .boolean)) qY1 := ⟨by decide, qw344, qw1, ⟨by decide, by decide, by decide +kernel⟩, (fun z => absurd z (by decide)), (fun _ => ⟨qw342, qw343⟩), (fun z => absurd z (by decide)), Nat.le_of_ble_eq_true rfl⟩
theorem qF2 : mi_YF qTs (tb2, 4, (some .boolean)) qY2 := ⟨by decide, qw353, qw1, ⟨by decide, by decide, by decide +kernel⟩, (fun z => absurd z (by decide)), (fun _ => ⟨qw351, qw352⟩), (fun z => absurd z (by decide)), Nat.le_of_ble_eq_true rfl⟩
theorem qF3 : mi_YF qTs (tb3, 3, (some .boolean)) qY3 := ⟨by decide, qw347, qw1, ⟨by decide, by decide, by decide +kernel⟩, (fun _ => qw346), (fun z => absurd z (by decide)), (fun z => absurd z (by decide)), Nat.le_of_ble_eq_true rfl⟩
theorem qF4 : mi_YF qTs (tb4, 2, (some .boolean)) qY4 := ⟨by decide, qw357, qw1, ⟨by decide, by decide, by decide +kernel⟩, (fun z => absurd z (by decide)), (fun _ => ⟨qw355, qw356⟩), (fun z => absurd z (by decide)), Nat.le_of_ble_eq_true rfl⟩
theorem qF5 : mi_YF qTs (tb5, 2, (some .int)) qY5 := ⟨by decide, qw361, qw1, ⟨by decide, by decide, by decide +kernel⟩, (fun z => absurd z (by decide)), (fun _ => ⟨qw359, qw360⟩), (fun z => absurd z (by decide)), Nat.le_of_ble_eq_true rfl⟩
theorem qF6 : mi_YF qTs (tb6, 9, (some .boolean)) qY6 := ⟨by decide, qw369, qw1, ⟨by decide, by decide, by decide +kernel⟩, (fun z => absurd z (by decide)), (fun _ => ⟨qw367, qw368⟩), (fun z => absurd z (by decide)), Nat.le_of_ble_eq_true rfl⟩
theorem qF7 : mi_YF qTs (tb7, 3, none) qY7 := ⟨by decide, qw384, qw1, ⟨by decide, by decide, by decide +kernel⟩, (fun z => absurd z (by decide)), (fun _ => ⟨qw383, qs0⟩), (fun z => absurd z (by decide)), Nat.le_of_ble_eq_true rfl⟩
theorem qF8 : mi_YF qTs (tb8, 5, none) qY8 := ⟨by decide, qw458, qw1, ⟨by decide, by decide, by decide +kernel⟩, (fun z => absurd z (by decide)), (fun _ => ⟨qw457, qs2⟩), (fun z => absurd z (by decide)), Nat.le_of_ble_eq_true rfl⟩
theorem qF9 : mi_YF qTs (tb9, 2, none) qY9 := ⟨by decide, qw451, qw1, ⟨by decide, by decide, by decide +kernel⟩, (fun z => absurd z (by decide)), (fun _ => ⟨qw450, qs1⟩), (fun z => absurd z (by decide)), Nat.le_of_ble_eq_true rfl⟩
theorem qF10 : mi_YF qTs (tb10, 2, none) qY10 := ⟨by decide, qw465, qw1, ⟨by decide, by decide, by decide +kernel⟩, (fun z => absurd z (by decide)), (fun _ => ⟨qw464, qs3⟩), (fun z => absurd z (by decide)), Nat.le_of_ble_eq_true rfl⟩
theorem qF11 : mi_YF qTs (tb11, 3, none) qY11 := ⟨by decide, qw602, qw1, ⟨by decide, by decide, by decide +kernel⟩, (fun z => absurd z (by decide)), (fun _ => ⟨qw601, qs17⟩), (fun z => absurd z (by decide)), Nat.le_of_ble_eq_true rfl⟩
theorem qF12 : mi_YF qTs (tb12, 5, (some .boolean)) qY12 := ⟨by decide, qw612, qw1, ⟨by decide, by decide, by decide +kernel⟩, (fun z => absurd z (by decide)), (fun _ => ⟨qw610, qw611⟩), (fun z => absurd z (by decide)), Nat.le_of_ble_eq_true rfl⟩
theorem qF13 : mi_YF qTs (tb13, 2, (some .boolean)) qY13 := ⟨by decide, qw376, qw1, ⟨by decide, by decide, by decide +kernel⟩, (fun _ => qw375), (fun z => absurd z (by decide)), (fun z => absurd z (by decide)), Nat.le_of_ble_eq_true rfl⟩
theorem qF14 : mi_YF qTs (tb14, 1, (some .boolean)) qY14 := ⟨by decide, qw621, qw1, ⟨by decide, by decide, by decide +kernel⟩, (fun _ => qw620), (fun z => absurd z (by decide)), (fun z => absurd z (by decide)), Nat.le_of_ble_eq_true rfl⟩
theorem qF15 : mi_YF qTs (tb15, 2, (some .boolean)) qY15 := ⟨by decide, qw618, qw1, ⟨by decide, by decide, by decide +kernel⟩, (fun z => absurd z (by decide)), (fun _ => ⟨qw616, qw617⟩), (fun z => absurd z (by decide)), Nat.le_of_ble_eq_true rfl⟩
theorem qF16 : mi_YF qTs (tb16, 3, (some .boolean)) qY16 := ⟨by decide, qw625, qw1, ⟨by decide, by decide, by decide +kernel⟩, (fun z => absurd z (by decide)), (fun _ => ⟨qw623, qw624⟩), (fun z => absurd z (by decide)), Nat.le_of_ble_eq_true rfl⟩
theorem qF17 : mi_YF qTs (tb17, 3, (some .boolean)) qY17 := ⟨by decide, qw629, qw1, ⟨by decide, by decide, by decide +kernel⟩, (fun z => absurd z (by decide)), (fun _ => ⟨qw627, qw628⟩), (fun z => absurd z (by decide)), Nat.le_of_ble_eq_true rfl⟩
theorem qF18 : mi_YF qTs (tb18, 2, (some .boolean)) qY18 := ⟨by decide, qw640, qw1, ⟨by decide, by decide, by decide +kernel⟩, (fun z => absurd z (by decide)), (fun _ => ⟨qw638, qw639⟩), (fun z => absurd z (by decide)), Nat.le_of_ble_eq_true rfl⟩
theorem qF19 : mi_YF qTs (tb19, 1, none) qY19 := ⟨by decide, qw648, qw1, ⟨by decide, by decide, by decide +kernel⟩, (fun z => absurd z (by decide)), (fun _ => ⟨qw646, qw647⟩), (fun z => absurd z (by decide)), Nat.le_of_ble_eq_true rfl⟩
theorem qF20 : mi_YF qTs (tb20, 1, (some .int)) qY20 := ⟨by decide, qw652, qw1, ⟨by decide, by decide, by decide +kernel⟩, (fun z => absurd z (by decide)), (fun _ => ⟨qw650, qw651⟩), (fun z => absurd z (by decide)), Nat.le_of_ble_eq_true rfl⟩
theorem qF21 : mi_YF qTs (tb21, 2, (some .int)) qY21 := ⟨by decide, qw656, qw1, ⟨by decide, by decide, by decide +kernel⟩, (fun z => absurd z (by decide)), (fun _ => ⟨qw654, qw655⟩), (fun z => absurd z (by decide)), Nat.le_of_ble_eq_true rfl⟩
theorem qF22 : mi_YF qTs (tb22, 1, (some .int)) qY22 := ⟨by decide, qw661, qw1, ⟨by decide, by decide, by decide +kernel⟩, (fun z => absurd z (by decide)), (fun _ => ⟨qw659, qw660⟩), (fun z => absurd z (by decide)), Nat.le_of_ble_eq_true rfl⟩
theorem qF23 : mi_YF qTs (tb23, 2, (some .int)) qY23 := ⟨by decide, qw665, qw1, ⟨by decide, by decide, by decide +kernel⟩, (fun z => absurd z (by decide)), (fun _ => ⟨qw663, qw664⟩), (fun z => absurd z (by decide)), Nat.le_of_ble_eq_true rfl⟩
theorem qF24 : mi_YF qTs (tb24, 3, (some .int)) qY24 := ⟨by decide, qw669, qw1, ⟨by decide, by decide, by decide +kernel⟩, (fun z => absurd z (by decide)), (fun _ => ⟨qw667, qw668⟩), (fun z => absurd z (by decide)), Nat.le_of_ble_eq_true rfl⟩
theorem qF25 : mi_YF qTs (tb25, 3, (some .int)) qY25 := ⟨by decide, qw476, qw1, ⟨by decide, by decide, by decide +kernel⟩, (fun z => absurd z (by decide)), (fun _ => ⟨qw475, qs4⟩), (fun z => absurd z (by decide)), Nat.le_of_ble_eq_true rfl⟩
theorem qF26 : mi_YF qTs (tb26, 2, (some .int)) qY26 := ⟨by decide, qw673, qw1, ⟨by decide, by decide, by decide +kernel⟩, (fun z => absurd z (by decide)), (fun _ => ⟨qw671, qw672⟩), (fun z => absurd z (by decide)), Nat.le_of_ble_eq_true rfl⟩
theorem qF27 : mi_YF qTs (tb27, 2, (some .int)) qY27 := ⟨by decide, qw929, qw1, ⟨by decide, by decide, by decide +kernel⟩, (fun z => absurd z (by decide)), (fun _ => ⟨qw927, qw928⟩), (fun z => absurd z (by decide)), Nat.le_of_ble_eq_true rfl⟩
theorem qF28 : mi_YF qTs (tb28, 3, (some .int)) qY28 := ⟨by decide, qw937, qw1, ⟨by decide, by decide, by decide +kernel⟩, (fun z => absurd z (by decide)), (fun _ => ⟨qw935, qw936⟩), (fun z => absurd z (by decide)), Nat.le_of_ble_eq_true rfl⟩
theorem qF29 : mi_YF qTs (tb29, 1, (some .int)) qY29 := ⟨by decide, qw942, qw1, ⟨by decide, by decide, by decide +kernel⟩, (fun z => absurd z (by decide)), (fun _ => ⟨qw940, qw941⟩), (fun z => absurd z (by decide)), Nat.le_of_ble_eq_true rfl⟩
theorem qF30 : mi_YF qTs (tb30, 3, (some .int)) qY30 := ⟨by decide, qw786, qw1, ⟨by decide, by decide, by decide +kernel⟩, (fun z => absurd z (by decide)), (fun _ => ⟨qw785, qs22⟩), (fun z => absurd z (by decide)), Nat.le_of_ble_eq_true rfl⟩
theorem qF31 : mi_YF qTs (tb31, 2, (some .int)) qY31 := ⟨by decide, qw819, qw1, ⟨by decide, by decide, by decide +kernel⟩, (fun z => absurd z (by decide)), (fun _ => ⟨qw818, qs25⟩), (fun z => absurd z (by decide)), Nat.le_of_ble_eq_true rfl⟩
theorem qF32 : mi_YF qTs (tb32, 2, (some .boolean)) qY32 := ⟨by decide, qw846, qw1, ⟨by decide, by decide, by decide +kernel⟩, (fun z => absurd z (by decide)), (fun _ => ⟨qw845, qs26⟩), (fun z => absurd z (by decide)), Nat.le_of_ble_eq_true rfl⟩
theorem qF33 : mi_YF qTs (tb33, 3, (some .int)) qY33 := ⟨by decide, qw920, qw1, ⟨by decide, by decide, by decide +kernel⟩, (fun z => absurd z (by decide)), (fun _ => ⟨qw919, qs29⟩), (fun z => absurd z (by decide)), Nat.le_of_ble_eq_true rfl⟩
theorem qF34 : mi_YF qTs (tb34, 5, (some .boolean)) qY34 := ⟨by decide, qw790, qw1, ⟨by decide, by decide, by decide +kernel⟩, (fun z => absurd z (by decide)), (fun _ => ⟨qw789, qs23⟩), (fun z => absurd z (by decide)), Nat.le_of_ble_eq_true rfl⟩
theorem qF35 : mi_YF qTs (tb35, 4, (some .int)) qY35 := ⟨by decide, qw794, qw1, ⟨by decide, by decide, by decide +kernel⟩, (fun z => absurd z (by decide)), (fun _ => ⟨qw793, qs24⟩), (fun z => absurd z (by decide)), Nat.le_of_ble_eq_true rfl⟩
theorem qF36 : mi_YF qTs (tb36, 3, (some .boolean)) qY36 := ⟨by decide, qw856, qw1, ⟨by decide, by decide, by decide +kernel⟩, (fun z => absurd z (by decide)), (fun _ => ⟨qw855, qs27⟩), (fun z => absurd z (by decide)), Nat.le_of_ble_eq_true rfl⟩
theorem qF37 : mi_YF qTs (tb37, 3, none) qY37 := ⟨by decide, qw884, qw1, ⟨by decide, by decide, by decide +kernel⟩, (fun z => absurd z (by decide)), (fun _ => ⟨qw883, qs28⟩), (fun z => absurd z (by decide)), Nat.le_of_ble_eq_true rfl⟩
theorem qF38 : mi_YF qTs (tb38, 1, none) qY38 := ⟨by decide, qw31, qw2, ⟨by decide, by decide, by decide +kernel⟩, (fun z => absurd z (by decide)), (fun z => absurd z (by decide)), (fun _ => ⟨qw30, rfl, rfl⟩), Nat.le_of_ble_eq_true rfl⟩
theorem qF39 : mi_YF qTs (tb39, 2, (some .int)) qY39 := ⟨by decide, qw488, qw2, ⟨by decide, by decide, by decide +kernel⟩, (fun z => absurd z (by decide)), (fun _ => ⟨qw486, qw487⟩), (fun z => absurd z (by decide)), Nat.le_of_ble_eq_true rfl⟩
theorem qF40 : mi_YF qTs (tb40, 2, (some .boolean)) qY40 := ⟨by decide, qw441, qw2, ⟨by decide, by decide, by decide +kernel⟩, (fun z => absurd z (by decide)), (fun _ => ⟨qw439, qw440⟩), (fun z => absurd z (by decide)), Nat.le_of_ble_eq_true rfl⟩
theorem qF41 : mi_YF qTs (tb41, 3, none) qY41 := ⟨by decide, qw389, qw2, ⟨by decide, by decide, by decide +kernel⟩, (fun z => absurd z (by decide)), (fun _ => ⟨qw387, qw388⟩), (fun z => absurd z (by decide)), Nat.le_of_ble_eq_true rfl⟩
theorem qF42 : mi_YF qTs (tb42, 4, none) qY42 := ⟨by decide, qw445, qw2, ⟨by decide, by decide, by decide +kernel⟩, (fun z => absurd z (by decide)), (fun _ => ⟨qw443, qw444⟩), (fun z => absurd z (by decide)), Nat.le_of_ble_eq_true rfl⟩
theorem qF43 : mi_YF qTs (tb43, 2, none) qY43 := ⟨by decide, qw380, qw2, ⟨by decide, by decide, by decide +kernel⟩, (fun z => absurd z (by decide)), (fun _ => ⟨qw378, qw379⟩), (fun z => absurd z (by decide)), Nat.le_of_ble_eq_true rfl⟩
theorem qF44 : mi_YF qTs (tb44, 4, none) qY44 := ⟨by decide, qw633, qw2, ⟨by decide, by decide, by decide +kernel⟩, (fun z => absurd z (by decide)), (fun _ => ⟨qw631, qw632⟩), (fun z => absurd z (by decide)), Nat.le_of_ble_eq_true rfl⟩
theorem qF45 : mi_YF qTs (tb45, 3, none) qY45 := ⟨by decide, qw644, qw2, ⟨by decide, by decide, by decide +kernel⟩, (fun z => absurd z (by decide)), (fun _ => ⟨qw642, qw643⟩), (fun z => absurd z (by decide)), Nat.le_of_ble_eq_true rfl⟩
theorem qF46 : mi_YF qTs (tb46, 3, (some .int)) qY46 := ⟨by decide, qw505, qw2, ⟨by decide, by decide, by decide +kernel⟩, (fun z => absurd z (by decide)), (fun _ => ⟨qw503, qw504⟩), (fun z => absurd z (by decide)), Nat.le_of_ble_eq_true rfl⟩
theorem qF47 : mi_YF qTs (tb47, 3, (some .int)) qY47 := ⟨by decide, qw517, qw2, ⟨by decide, by decide, by decide +kernel⟩, (fun z => absurd z (by decide)), (fun _ => ⟨qw515, qw516⟩), (fun z => absurd z (by decide)), Nat.le_of_ble_eq_true rfl⟩
theorem qF48 : mi_YF qTs (tb48, 2, (some .boolean)) qY48 := ⟨by decide, qw492, qw2, ⟨by decide, by decide, by decide +kernel⟩, (fun z => absurd z (by decide)), (fun _ => ⟨qw490, qw491⟩), (fun z => absurd z (by decide)), Nat.le_of_ble_eq_true rfl⟩
theorem qF49 : mi_YF qTs (tb49, 3, (some .int)) qY49 := ⟨by decide, qw540, qw2, ⟨by decide, by decide, by decide +kernel⟩, (fun z => absurd z (by decide)), (fun _ => ⟨qw538, qw539⟩), (fun z => absurd z (by decide)), Nat.le_of_ble_eq_true rfl⟩
theorem qF50 : mi_YF qTs (tb50, 5, (some .boolean)) qY50 := ⟨by decide, qw586, qw2, ⟨by decide, by decide, by decide +kernel⟩, (fun z => absurd z (by decide)), (fun _ => ⟨qw584, qw585⟩), (fun z => absurd z (by decide)), Nat.le_of_ble_eq_true rfl⟩
theorem qF51 : mi_YF qTs (tb51, 8, (some .int)) qY51 := ⟨by decide, qw533, qw2, ⟨by decide, by decide, by decide +kernel⟩, (fun z => absurd z (by decide)), (fun _ => ⟨qw531, qw532⟩), (fun z => absurd z (by decide)), Nat.le_of_ble_eq_true rfl⟩
theorem qF52 : mi_YF qTs (tb52, 2, none) qY52 := ⟨by decide, qw48, qw3, ⟨by decide, by decide, by decide +kernel⟩, (fun z => absurd z (by decide)), (fun z => absurd z (by decide)), (fun _ => ⟨qw47, rfl, rfl⟩), Nat.le_of_ble_eq_true rfl⟩
theorem qF53 : mi_YF qTs (tb53, 2, (some .boolean)) qY53 := ⟨by decide, qw529, qw3, ⟨by decide, by decide, by decide +kernel⟩, (fun z => absurd z (by decide)), (fun _ => ⟨qw527, qw528⟩), (fun z => absurd z (by decide)), Nat.le_of_ble_eq_true rfl⟩
theorem qF54 : mi_YF qTs (tb54, 5, (some .int)) qY54 := ⟨by decide, qw509, qw3, ⟨by decide, by decide, by decide +kernel⟩, (fun z => absurd z (by decide)), (fun _ => ⟨qw507, qw508⟩), (fun z => absurd z (by decide)), Nat.le_of_ble_eq_true rfl⟩
theorem qF55 : mi_YF qTs (tb55, 8, (some .boolean)) qY55 := ⟨by decide, qw525, qw3, ⟨by decide, by decide, by decide +kernel⟩, (fun z => absurd z (by decide)), (fun _ => ⟨qw523, qw524⟩), (fun z => absurd z (by decide)), Nat.le_of_ble_eq_true rfl⟩
theorem qF56 : mi_YF qTs (tb56, 3, (some .boolean)) qY56 := ⟨by decide, qw582, qw3, ⟨by decide, by decide, by decide +kernel⟩, (fun z => absurd z (by decide)), (fun _ => ⟨qw580, qw581⟩), (fun z => absurd z (by decide)), Nat.le_of_ble_eq_true rfl⟩
theorem qF57 : mi_YF qTs (tb57, 5, (some .int)) qY57 := ⟨by decide, qw711, qw3, ⟨by decide, by decide, by decide +kernel⟩, (fun z => absurd z (by decide)), (fun _ => ⟨qw709, qw710⟩), (fun z => absurd z (by decide)), Nat.le_of_ble_eq_true rfl⟩
theorem qF58 : mi_YF qTs (tb58, 4, (some .int)) qY58 := ⟨by decide, qw716, qw3, ⟨by decide, by decide, by decide +kernel⟩, (fun z => absurd z (by decide)), (fun _ => ⟨qw714, qw715⟩), (fun z => absurd z (by decide)), Nat.le_of_ble_eq_true rfl⟩
theorem qF59 : mi_YF qTs (tb59, 3, (some .int)) qY59 := ⟨by decide, qw707, qw3, ⟨by decide, by decide, by decide +kernel⟩, (fun z => absurd z (by decide)), (fun _ => ⟨qw705, qw706⟩), (fun z => absurd z (by decide)), Nat.le_of_ble_eq_true rfl⟩
theorem qF60 : mi_YF qTs (tb60, 2, (some .int)) qY60 := ⟨by decide, qw749, qw3, ⟨by decide, by decide, by decide +kernel⟩, (fun z => absurd z (by decide)), (fun _ => ⟨qw747, qw748⟩), (fun z => absurd z (by decide)), Nat.le_of_ble_eq_true rfl⟩
theorem qF61 : mi_YF qTs (tb61, 2, (some .int)) qY61 := ⟨by decide, qw753, qw3, ⟨by decide, by decide, by decide +kernel⟩, (fun z => absurd z (by decide)), (fun _ => ⟨qw751, qw752⟩), (fun z => absurd z (by decide)), Nat.le_of_ble_eq_true rfl⟩
theorem qF62 : mi_YF qTs (tb62, 5, (some .boolean)) qY62 := ⟨by decide, qw745, qw3, ⟨by decide, by decide, by decide +kernel⟩, (fun z => absurd z (by decide)), (fun _ => ⟨qw743, qw744⟩), (fun z => absurd z (by decide)), Nat.le_of_ble_eq_true rfl⟩
theorem qF63 : mi_YF qTs (tb63, 3, (some .boolean)) qY63 := ⟨by decide, qw830, qw3, ⟨by decide, by decide, by decide +kernel⟩, (fun z => absurd z (by decide)), (fun _ => ⟨qw828, qw829⟩), (fun z => absurd z (by decide)), Nat.le_of_ble_eq_true rfl⟩
theorem qF64 : mi_YF qTs (tb64, 3, (some .boolean)) qY64 := ⟨by decide, qw815, qw3, ⟨by decide, by decide, by decide +kernel⟩, (fun z => absurd z (by decide)), (fun _ => ⟨qw813, qw814⟩), (fun z => absurd z (by decide)), Nat.le_of_ble_eq_true rfl⟩
theorem qF65 : mi_YF qTs (tb65, 5, (some .int)) qY65 := ⟨by decide, qw682, qw3, ⟨by decide, by decide, by decide +kernel⟩, (fun z => absurd z (by decide)), (fun _ => ⟨qw680, qw681⟩), (fun z => absurd z (by decide)), Nat.le_of_ble_eq_true rfl⟩
theorem qF66 : mi_YF qTs (tb66, 3, (some .boolean)) qY66 := ⟨by decide, qw740, qw3, ⟨by decide, by decide, by decide +kernel⟩, (fun z => absurd z (by decide)), (fun _ => ⟨qw738, qw739⟩), (fun z => absurd z (by decide)), Nat.le_of_ble_eq_true rfl⟩
theorem qF67 : mi_YF qTs (tb67, 2, (some .int)) qY67 := ⟨by decide, qw690, qw3, ⟨by decide, by decide, by decide +kernel⟩, (fun z => absurd z (by decide)), (fun _ => ⟨qw688, qw689⟩), (fun z => absurd z (by decide)), Nat.le_of_ble_eq_true rfl⟩
theorem qF68 : mi_YF qTs (tb68, 2, (some .int)) qY68 := ⟨by decide, qw694, qw3, ⟨by decide, by decide, by decide +kernel⟩, (fun z => absurd z (by decide)), (fun _ => ⟨qw692, qw693⟩), (fun z => absurd z (by decide)), Nat.le_of_ble_eq_true rfl⟩
theorem qF69 : mi_YF qTs (tb69, 5, (some .boolean)) qY69 := ⟨by decide, qw825, qw3, ⟨by decide, by decide, by decide +kernel⟩, (fun z => absurd z (by decide)), (fun _ => ⟨qw823, qw824⟩), (fun z => absurd z (by decide)), Nat.le_of_ble_eq_true rfl⟩
theorem qF70 : mi_YF qTs (tb70, 3, (some .boolean)) qY70 := ⟨by decide, qw686, qw3, ⟨by decide, by decide, by decide +kernel⟩, (fun z => absurd z (by decide)), (fun _ => ⟨qw684, qw685⟩), (fun z => absurd z (by decide)), Nat.le_of_ble_eq_true rfl⟩
theorem qF71 : mi_YF qTs (tb71, 4, (some .boolean)) qY71 := ⟨by decide, qw852, qw3, ⟨by decide, by decide, by decide +kernel⟩, (fun z => absurd z (by decide)), (fun _ => ⟨qw850, qw851⟩), (fun z => absurd z (by decide)), Nat.le_of_ble_eq_true rfl⟩
theorem qF72 : mi_YF qTs (tb72, 5, (some .boolean)) qY72 := ⟨by decide, qw735, qw3, ⟨by decide, by decide, by decide +kernel⟩, (fun z => absurd z (by decide)), (fun _ => ⟨qw733, qw734⟩), (fun z => absurd z (by decide)), Nat.le_of_ble_eq_true rfl⟩
theorem qF73 : mi_YF qTs (tb73, 3, (some .boolean)) qY73 := ⟨by decide, qw776, qw3, ⟨by decide, by decide, by decide +kernel⟩, (fun z => absurd z (by decide)), (fun _ => ⟨qw774, qw775⟩), (fun z => absurd z (by decide)), Nat.le_of_ble_eq_true rfl⟩
theorem qF74 : mi_YF qTs (tb74, 9, (some .int)) qY74 := ⟨by decide, qw766, qw3, ⟨by decide, by decide, by decide +kernel⟩, (fun z => absurd z (by decide)), (fun _ => ⟨qw764, qw765⟩), (fun z => absurd z (by decide)), Nat.le_of_ble_eq_true rfl⟩
theorem qF75 : mi_YF qTs (tb75, 4, (some .boolean)) qY75 := ⟨by decide, qw677, qw3, ⟨by decide, by decide, by decide +kernel⟩, (fun z => absurd z (by decide)), (fun _ => ⟨qw675, qw676⟩), (fun z => absurd z (by decide)), Nat.le_of_ble_eq_true rfl⟩
theorem qF76 : mi_YF qTs (tb76, 4, (some .boolean)) qY76 := ⟨by decide, qw758, qw3, ⟨by decide, by decide, by decide +kernel⟩, (fun z => absurd z (by decide)), (fun _ => ⟨qw756, qw757⟩), (fun z => absurd z (by decide)), Nat.le_of_ble_eq_true rfl⟩
theorem qF77 : mi_YF qTs (tb77, 3, none) qY77 := ⟨by decide, qw108, qw4, ⟨by decide, by decide, by decide +kernel⟩, (fun z => absurd z (by decide)), (fun z => absurd z (by decide)), (fun _ => ⟨qw107, rfl, rfl⟩), Nat.le_of_ble_eq_true rfl⟩
theorem qF78 : mi_YF qTs (tb78, 4, (some .int)) qY78 := ⟨by decide, qw480, qw4, ⟨by decide, by decide, by decide +kernel⟩, (fun z => absurd z (by decide)), (fun _ => ⟨qw478, qw479⟩), (fun z => absurd z (by decide)), Nat.le_of_ble_eq_true rfl⟩
theorem qF79 : mi_YF qTs (tb79, 4, (some .boolean)) qY79 := ⟨by decide, qw484, qw4, ⟨by decide, by decide, by decide +kernel⟩, (fun z => absurd z (by decide)), (fun _ => ⟨qw483, qs5⟩), (fun z => absurd z (by decide)), Nat.le_of_ble_eq_true rfl⟩
theorem qF80 : mi_YF qTs (tb80, 3, (some .int)) qY80 := ⟨by decide, qw501, qw4, ⟨by decide, by decide, by decide +kernel⟩, (fun z => absurd z (by decide)), (fun _ => ⟨qw500, qs7⟩), (fun z => absurd z (by decide)), Nat.le_of_ble_eq_true rfl⟩
theorem qF81 : mi_YF qTs (tb81, 7, (some .int)) qY81 := ⟨by decide, qw497, qw4, ⟨by decide, by decide, by decide +kernel⟩, (fun z => absurd z (by decide)), (fun _ => ⟨qw496, qs6⟩), (fun z => absurd z (by decide)), Nat.le_of_ble_eq_true rfl⟩
theorem qF82 : mi_YF qTs (tb82, 8, (some .int)) qY82 := ⟨by decide, qw513, qw4, ⟨by decide, by decide, by decide +kernel⟩, (fun z => absurd z (by decide)), (fun _ => ⟨qw512, qs8⟩), (fun z => absurd z (by decide)), Nat.le_of_ble_eq_true rfl⟩
theorem qF83 : mi_YF qTs (tb83, 3, (some .int)) qY83 := ⟨by decide, qw521, qw4, ⟨by decide, by decide, by decide +kernel⟩, (fun z => absurd z (by decide)), (fun _ => ⟨qw520, qs9⟩), (fun z => absurd z (by decide)), Nat.le_of_ble_eq_true rfl⟩
theorem qF84 : mi_YF qTs (tb84, 4, (some .int)) qY84 := ⟨by decide, qw545, qw4, ⟨by decide, by decide, by decide +kernel⟩, (fun z => absurd z (by decide)), (fun _ => ⟨qw544, qs10⟩), (fun z => absurd z (by decide)), Nat.le_of_ble_eq_true rfl⟩
theorem qF85 : mi_YF qTs (tb85, 3, none) qY85 := ⟨by decide, qw127, qw5, ⟨by decide, by decide, by decide +kernel⟩, (fun z => absurd z (by decide)), (fun z => absurd z (by decide)), (fun _ => ⟨qw126, rfl, rfl⟩), Nat.le_of_ble_eq_true rfl⟩
theorem qF86 : mi_YF qTs (tb86, 5, (some .int)) qY86 := ⟨by decide, qw551, qw5, ⟨by decide, by decide, by decide +kernel⟩, (fun z => absurd z (by decide)), (fun _ => ⟨qw549, qw550⟩), (fun z => absurd z (by decide)), Nat.le_of_ble_eq_true rfl⟩
theorem qF87 : mi_YF qTs (tb87, 3, (some .int)) qY87 := ⟨by decide, qw563, qw5, ⟨by decide, by decide, by decide +kernel⟩, (fun z => absurd z (by decide)), (fun _ => ⟨qw562, qs12⟩), (fun z => absurd z (by decide)), Nat.le_of_ble_eq_true rfl⟩
theorem qF88 : mi_YF qTs (tb88, 5, (some .int)) qY88 := ⟨by decide, qw577, qw5, ⟨by decide, by decide, by decide +kernel⟩, (fun z => absurd z (by decide)), (fun _ => ⟨qw576, qs15⟩), (fun z => absurd z (by decide)), Nat.le_of_ble_eq_true rfl⟩
theorem qF89 : mi_YF qTs (tb89, 3, none) qY89 := ⟨by decide, qw590, qw5, ⟨by decide, by decide, by decide +kernel⟩, (fun z => absurd z (by decide)), (fun _ => ⟨qw589, qs16⟩), (fun z => absurd z (by decide)), Nat.le_of_ble_eq_true rfl⟩
theorem qF90 : mi_YF qTs (tb90, 3, none) qY90 := ⟨by decide, qw568, qw5, ⟨by decide, by decide, by decide +kernel⟩, (fun z => absurd z (by decide)), (fun _ => ⟨qw567, qs13⟩), (fun z => absurd z (by decide)), Nat.le_of_ble_eq_true rfl⟩
theorem qF91 : mi_YF qTs (tb91, 4, none) qY91 := ⟨by decide, qw572, qw5, ⟨by decide, by decide, by decide +kernel⟩, (fun z => absurd z (by decide)), (fun _ => ⟨qw571, qs14⟩), (fun z => absurd z (by decide)), Nat.le_of_ble_eq_true rfl⟩
theorem qF92 : mi_YF qTs (tb92, 2, none) qY92 := ⟨by decide, qw557, qw5, ⟨by decide, by decide, by decide +kernel⟩, (fun z => absurd z (by decide)), (fun _ => ⟨qw556, qs11⟩), (fun z => absurd z (by decide)), Nat.le_of_ble_eq_true rfl⟩
theorem qF93 : mi_YF qTs (tb93, 1, none) qY93 := ⟨by decide, qw146, qw6, ⟨by decide, by decide, by decide +kernel⟩, (fun z => absurd z (by decide)), (fun z => absurd z (by decide)), (fun _ => ⟨qw145, rfl, rfl⟩), Nat.le_of_ble_eq_true rfl⟩
theorem qF94 : mi_YF qTs (tb94, 2, (some .boolean)) qY94 := ⟨by decide, qw800, qw6, ⟨by decide, by decide, by decide +kernel⟩, (fun z => absurd z (by decide)), (fun _ => ⟨qw798, qw799⟩), (fun z => absurd z (by decide)), Nat.le_of_ble_eq_true rfl⟩
theorem qF95 : mi_YF qTs (tb95, 2, (some .boolean)) qY95 := ⟨by decide, qw373, qw6, ⟨by decide, by decide, by decide +kernel⟩, (fun z => absurd z (by decide)), (fun _ => ⟨qw371, qw372⟩), (fun z => absurd z (by decide)), Nat.le_of_ble_eq_true rfl⟩
theorem qF96 : mi_YF qTs (tb96, 3, (some .int)) qY96 := ⟨by decide, qw594, qw6, ⟨by decide, by decide, by decide +kernel⟩, (fun z => absurd z (by decide)), (fun _ => ⟨qw592, qw593⟩), (fun z => absurd z (by decide)), Nat.le_of_ble_eq_true rfl⟩
theorem qF97 : mi_YF qTs (tb97, 4, (some .boolean)) qY97 := ⟨by decide, qw810, qw6, ⟨by decide, by decide, by decide +kernel⟩, (fun z => absurd z (by decide)), (fun _ => ⟨qw808, qw809⟩), (fun z => absurd z (by decide)), Nat.le_of_ble_eq_true rfl⟩
theorem qF98 : mi_YF qTs (tb98, 8, (some .int)) qY98 := ⟨by decide, qw598, qw6, ⟨by decide, by decide, by decide +kernel⟩, (fun _ => qw597), (fun z => absurd z (by decide)), (fun z => absurd z (by decide)), Nat.le_of_ble_eq_true rfl⟩
theorem qF99 : mi_YF qTs (tb99, 2, none) qY99 := ⟨by decide, qw169, qw7, ⟨by decide, by decide, by decide +kernel⟩, (fun z => absurd z (by decide)), (fun z => absurd z (by decide)), (fun _ => ⟨qw168, rfl, rfl⟩), Nat.le_of_ble_eq_true rfl⟩
theorem qF100 : mi_YF qTs (tb100, 3, (some .int)) qY100 := ⟨by decide, qw365, qw7, ⟨by decide, by decide, by decide +kernel⟩, (fun z => absurd z (by decide)), (fun _ => ⟨qw363, qw364⟩), (fun z => absurd z (by decide)), Nat.le_of_ble_eq_true rfl⟩
theorem qF101 : mi_YF qTs (tb101, 3, (some .boolean)) qY101 := ⟨by decide, qw839, qw7, ⟨by decide, by decide, by decide +kernel⟩, (fun z => absurd z (by decide)), (fun _ => ⟨qw837, qw838⟩), (fun z => absurd z (by decide)), Nat.le_of_ble_eq_true rfl⟩
theorem qF102 : mi_YF qTs (tb102, 4, (some .boolean)) qY102 := ⟨by decide, qw835, qw7, ⟨by decide, by decide, by decide +kernel⟩, (fun z => absurd z (by decide)), (fun _ => ⟨qw833, qw834⟩), (fun z => absurd z (by decide)), Nat.le_of_ble_eq_true rfl⟩
theorem qF103 : mi_YF qTs (tb103, 2, none) qY103 := ⟨by decide, qw893, qw7, ⟨by decide, by decide, by decide +kernel⟩, (fun z => absurd z (by decide)), (fun _ => ⟨qw891, qw892⟩), (fun z => absurd z (by decide)), Nat.le_of_ble_eq_true rfl⟩
theorem qF104 : mi_YF qTs (tb104, 4, (some .int)) qY104 := ⟨by decide, qw946, qw7, ⟨by decide, by decide, by decide +kernel⟩, (fun z => absurd z (by decide)), (fun _ => ⟨qw944, qw945⟩), (fun z => absurd z (by decide)), Nat.le_of_ble_eq_true rfl⟩
theorem qF105 : mi_YF qTs (tb105, 1, none) qY105 := ⟨by decide, qw192, qw8, ⟨by decide, by decide, by decide +kernel⟩, (fun z => absurd z (by decide)), (fun z => absurd z (by decide)), (fun _ => ⟨qw191, rfl, rfl⟩), Nat.le_of_ble_eq_true rfl⟩
theorem qF106 : mi_YF qTs (tb106, 1, (some .boolean)) qY106 := ⟨by decide, qw875, qw8, ⟨by decide, by decide, by decide +kernel⟩, (fun z => absurd z (by decide)), (fun _ => ⟨qw873, qw874⟩), (fun z => absurd z (by decide)), Nat.le_of_ble_eq_true rfl⟩
theorem qF107 : mi_YF qTs (tb107, 6, (some .int)) qY107 := ⟨by decide, qw897, qw8, ⟨by decide, by decide, by decide +kernel⟩, (fun z => absurd z (by decide)), (fun _ => ⟨qw895, qw896⟩), (fun z => absurd z (by decide)), Nat.le_of_ble_eq_true rfl⟩
theorem qF108 : mi_YF qTs (tb108, 7, (some .int)) qY108 := ⟨by decide, qw924, qw8, ⟨by decide, by decide, by decide +kernel⟩, (fun z => absurd z (by decide)), (fun _ => ⟨qw922, qw923⟩), (fun z => absurd z (by decide)), Nat.le_of_ble_eq_true rfl⟩
theorem qF109 : mi_YF qTs (tb109, 2, (some .int)) qY109 := ⟨by decide, qw933, qw8, ⟨by decide, by decide, by decide +kernel⟩, (fun z => absurd z (by decide)), (fun _ => ⟨qw931, qw932⟩), (fun z => absurd z (by decide)), Nat.le_of_ble_eq_true rfl⟩
theorem qF110 : mi_YF qTs (tb110, 2, none) qY110 := ⟨by decide, qw198, qw9, ⟨by decide, by decide, by decide +kernel⟩, (fun z => absurd z (by decide)), (fun z => absurd z (by decide)), (fun _ => ⟨qw197, rfl, rfl⟩), Nat.le_of_ble_eq_true rfl⟩
theorem qF111 : mi_YF qTs (tb111, 1, (some .boolean)) qY111 := ⟨by decide, qw879, qw9, ⟨by decide, by decide, by decide +kernel⟩, (fun z => absurd z (by decide)), (fun _ => ⟨qw877, qw878⟩), (fun z => absurd z (by decide)), Nat.le_of_ble_eq_true rfl⟩
theorem qF112 : mi_YF qTs (tb112, 5, none) qY112 := ⟨by decide, qw888, qw9, ⟨by decide, by decide, by decide +kernel⟩, (fun z => absurd z (by decide)), (fun _ => ⟨qw886, qw887⟩), (fun z => absurd z (by decide)), Nat.le_of_ble_eq_true rfl⟩
theorem qF113 : mi_YF qTs (tb113, 4, (some .int)) qY113 := ⟨by decide, qw870, qw9, ⟨by decide, by decide, by decide +kernel⟩, (fun z => absurd z (by decide)), (fun _ => ⟨qw868, qw869⟩), (fun z => absurd z (by decide)), Nat.le_of_ble_eq_true rfl⟩
theorem qF114 : mi_YF qTs (tb114, 6, (some .boolean)) qY114 := ⟨by decide, qw866, qw9, ⟨by decide, by decide, by decide +kernel⟩, (fun z => absurd z (by decide)), (fun _ => ⟨qw864, qw865⟩), (fun z => absurd z (by decide)), Nat.le_of_ble_eq_true rfl⟩
theorem qF115 : mi_YF qTs (tb115, 5, (some .int)) qY115 := ⟨by decide, qw862, qw9, ⟨by decide, by decide, by decide +kernel⟩, (fun z => absurd z (by decide)), (fun _ => ⟨qw860, qw861⟩), (fun z => absurd z (by decide)), Nat.le_of_ble_eq_true rfl⟩
theorem qF116 : mi_YF qTs (tb116, 2, none) qY116 := ⟨by decide, qw231, qw10, ⟨by decide, by decide, by decide +kernel⟩, (fun z => absurd z (by decide)), (fun z => absurd z (by decide)), (fun _ => ⟨qw230, rfl, rfl⟩), Nat.le_of_ble_eq_true rfl⟩
theorem qF117 : mi_YF qTs (tb117, 1, (some .boolean)) qY117 := ⟨by decide, qw698, qw10, ⟨by decide, by decide, by decide +kernel⟩, (fun z => absurd z (by decide)), (fun _ => ⟨qw696, qw697⟩), (fun z => absurd z (by decide)), Nat.le_of_ble_eq_true rfl⟩
theorem qF118 : mi_YF qTs (tb118, 1, none) qY118 := ⟨by decide, qw702, qw10, ⟨by decide, by decide, by decide +kernel⟩, (fun z => absurd z (by decide)), (fun _ => ⟨qw701, qs18⟩), (fun z => absurd z (by decide)), Nat.le_of_ble_eq_true rfl⟩
theorem qF119 : mi_YF qTs (tb119, 1, (some .boolean)) qY119 := ⟨by decide, qw730, qw10, ⟨by decide, by decide, by decide +kernel⟩, (fun z => absurd z (by decide)), (fun _ => ⟨qw729, qs19⟩), (fun z => absurd z (by decide)), Nat.le_of_ble_eq_true rfl⟩
theorem qF120 : mi_YF qTs (tb120, 1, (some .boolean)) qY120 := ⟨by decide, qw770, qw10, ⟨by decide, by decide, by decide +kernel⟩, (fun z => absurd z (by decide)), (fun _ => ⟨qw769, qs20⟩), (fun z => absurd z (by decide)), Nat.le_of_ble_eq_true rfl⟩
theorem qF121 : mi_YF qTs (tb121, 1, (some .boolean)) qY121 := ⟨by decide, qw781, qw10, ⟨by decide, by decide, by decide +kernel⟩, (fun z => absurd z (by decide)), (fun _ => ⟨qw780, qs21⟩), (fun z => absurd z (by decide)), Nat.le_of_ble_eq_true rfl⟩
theorem qF122 : mi_YF qTs (tb122, 2, none) qY122 := ⟨by decide, qw280, qw11, ⟨by decide, by decide, by decide +kernel⟩, (fun z => absurd z (by decide)), (fun z => absurd z (by decide)), (fun _ => ⟨qw279, rfl, rfl⟩), Nat.le_of_ble_eq_true rfl⟩
theorem qF123 : mi_YF qTs (tb123, 1, (some .boolean)) qY123 := ⟨by decide, qw903, qw11, ⟨by decide, by decide, by decide +kernel⟩, (fun z => absurd z (by decide)), (fun _ => ⟨qw901, qw902⟩), (fun z => absurd z (by decide)), Nat.le_of_ble_eq_true rfl⟩
theorem qF124 : mi_YF qTs (tb124, 3, none) qY124 := ⟨by decide, qw954, qw12, ⟨by decide, by decide, by decide +kernel⟩, (fun z => absurd z (by decide)), (fun z => absurd z (by decide)), (fun _ => ⟨qw953, rfl, rfl⟩), Nat.le_of_ble_eq_true rfl⟩
theorem qF125 : mi_YF qTs (tb125, 1, (some .boolean)) qY125 := ⟨by decide, qw1072, qw12, ⟨by decide, by decide, by decide +kernel⟩, (fun _ => qw1071), (fun z => absurd z (by decide)), (fun z => absurd z (by decide)), Nat.le_of_ble_eq_true rfl⟩
theorem qF126 : mi_YF qTs (tb126, 2, (some .boolean)) qY126 := ⟨by decide, qw1075, qw12, ⟨by decide, by decide, by decide +kernel⟩, (fun _ => qw1074), (fun z => absurd z (by decide)), (fun z => absurd z (by decide)), Nat.le_of_ble_eq_true rfl⟩
theorem qF127 : mi_YF qTs (tb127, 4, (some .boolean)) qY127 := ⟨by decide, qw1069, qw12, ⟨by decide, by decide, by decide +kernel⟩, (fun z => absurd z (by decide)), (fun _ => ⟨qw1067, qw1068⟩), (fun z => absurd z (by decide)), Nat.le_of_ble_eq_true rfl⟩
theorem qF128 : mi_YF qTs (tb128, 4, (some .boolean)) qY128 := ⟨by decide, qw1081, qw12, ⟨by decide, by decide, by decide +kernel⟩, (fun z => absurd z (by decide)), (fun _ => ⟨qw1079, qw1080⟩), (fun z => absurd z (by decide)), Nat.le_of_ble_eq_true rfl⟩
theorem qF129 : mi_YF qTs (tb129, 2, (some .boolean)) qY129 := ⟨by decide, qw1085, qw12, ⟨by decide, by decide, by decide +kernel⟩, (fun z => absurd z (by decide)), (fun _ => ⟨qw1083, qw1084⟩), (fun z => absurd z (by decide)), Nat.le_of_ble_eq_true rfl⟩
theorem qF130 : mi_YF qTs (tb130, 2, (some .int)) qY130 := ⟨by decide, qw1089, qw12, ⟨by decide, by decide, by decide +kernel⟩, (fun z => absurd z (by decide)), (fun _ => ⟨qw1087, qw1088⟩), (fun z => absurd z (by decide)), Nat.le_of_ble_eq_true rfl⟩
theorem qF131 : mi_YF qTs (tb131, 2, (some .boolean)) qY131 := ⟨by decide, qw1097, qw12, ⟨by decide, by decide, by decide +kernel⟩, (fun z => absurd z (by decide)), (fun _ => ⟨qw1096, qs30⟩), (fun z => absurd z (by decide)), Nat.le_of_ble_eq_true rfl⟩
theorem qF132 : mi_YF qTs (tb132, 3, (some .int)) qY132 := ⟨by decide, qw1093, qw12, ⟨by decide, by decide, by decide +kernel⟩, (fun z => absurd z (by decide)), (fun _ => ⟨qw1091, qw1092⟩), (fun z => absurd z (by decide)), Nat.le_of_ble_eq_true rfl⟩
theorem qF133 : mi_YF qTs (tb133, 13, (some .int)) qY133 := ⟨by decide, qw1220, qw12, ⟨by decide, by decide, by decide +kernel⟩, (fun _ => qw1219), (fun z => absurd z (by decide)), (fun z => absurd z (by decide)), Nat.le_of_ble_eq_true rfl⟩
theorem qF134 : mi_YF qTs (tb134, 1, (some .boolean)) qY134 := ⟨by decide, qw1104, qw12, ⟨by decide, by decide, by decide +kernel⟩, (fun _ => qw1103), (fun z => absurd z (by decide)), (fun z => absurd z (by decide)), Nat.le_of_ble_eq_true rfl⟩
theorem qF135 : mi_YF qTs (tb135, 2, (some .boolean)) qY135 := ⟨by decide, qw1101, qw12, ⟨by decide, by decide, by decide +kernel⟩, (fun z => absurd z (by decide)), (fun _ => ⟨qw1099, qw1100⟩), (fun z => absurd z (by decide)), Nat.le_of_ble_eq_true rfl⟩
theorem qF136 : mi_YF qTs (tb136, 3, (some .boolean)) qY136 := ⟨by decide, qw1108, qw12, ⟨by decide, by decide, by decide +kernel⟩, (fun z => absurd z (by decide)), (fun _ => ⟨qw1106, qw1107⟩), (fun z => absurd z (by decide)), Nat.le_of_ble_eq_true rfl⟩
theorem qF137 : mi_YF qTs (tb137, 4, (some .boolean)) qY137 := ⟨by decide, qw1112, qw12, ⟨by decide, by decide, by decide +kernel⟩, (fun z => absurd z (by decide)), (fun _ => ⟨qw1110, qw1111⟩), (fun z => absurd z (by decide)), Nat.le_of_ble_eq_true rfl⟩
theorem qF138 : mi_YF qTs (tb138, 3, (some .boolean)) qY138 := ⟨by decide, qw1116, qw12, ⟨by decide, by decide, by decide +kernel⟩, (fun z => absurd z (by decide)), (fun _ => ⟨qw1114, qw1115⟩), (fun z => absurd z (by decide)), Nat.le_of_ble_eq_true rfl⟩
theorem qF139 : mi_YF qTs (tb139, 1, none) qY139 := ⟨by decide, qw1120, qw12, ⟨by decide, by decide, by decide +kernel⟩, (fun z => absurd z (by decide)), (fun _ => ⟨qw1118, qw1119⟩), (fun z => absurd z (by decide)), Nat.le_of_ble_eq_true rfl⟩
theorem qF140 : mi_YF qTs (tb140, 1, (some .int)) qY140 := ⟨by decide, qw1124, qw12, ⟨by decide, by decide, by decide +kernel⟩, (fun z => absurd z (by decide)), (fun _ => ⟨qw1122, qw1123⟩), (fun z => absurd z (by decide)), Nat.le_of_ble_eq_true rfl⟩
theorem qF141 : mi_YF qTs (tb141, 2, (some .int)) qY141 := ⟨by decide, qw1128, qw12, ⟨by decide, by decide, by decide +kernel⟩, (fun z => absurd z (by decide)), (fun _ => ⟨qw1126, qw1127⟩), (fun z => absurd z (by decide)), Nat.le_of_ble_eq_true rfl⟩
theorem qF142 : mi_YF qTs (tb142, 2, (some .boolean)) qY142 := ⟨by decide, qw1145, qw12, ⟨by decide, by decide, by decide +kernel⟩, (fun z => absurd z (by decide)), (fun _ => ⟨qw1144, qs33⟩), (fun z => absurd z (by decide)), Nat.le_of_ble_eq_true rfl⟩
theorem qF143 : mi_YF qTs (tb143, 4, (some .boolean)) qY143 := ⟨by decide, qw1140, qw12, ⟨by decide, by decide, by decide +kernel⟩, (fun z => absurd z (by decide)), (fun _ => ⟨qw1139, qs32⟩), (fun z => absurd z (by decide)), Nat.le_of_ble_eq_true rfl⟩
theorem qF144 : mi_YF qTs (tb144, 1, (some .boolean)) qY144 := ⟨by decide, qw1148, qw12, ⟨by decide, by decide, by decide +kernel⟩, (fun _ => qw1147), (fun z => absurd z (by decide)), (fun z => absurd z (by decide)), Nat.le_of_ble_eq_true rfl⟩
theorem qF145 : mi_YF qTs (tb145, 4, (some .int)) qY145 := ⟨by decide, qw1156, qw12, ⟨by decide, by decide, by decide +kernel⟩, (fun z => absurd z (by decide)), (fun _ => ⟨qw1155, qs35⟩), (fun z => absurd z (by decide)), Nat.le_of_ble_eq_true rfl⟩
theorem qF146 : mi_YF qTs (tb146, 3, (some .int)) qY146 := ⟨by decide, qw1160, qw12, ⟨by decide, by decide, by decide +kernel⟩, (fun z => absurd z (by decide)), (fun _ => ⟨qw1159, qs36⟩), (fun z => absurd z (by decide)), Nat.le_of_ble_eq_true rfl⟩
theorem qF147 : mi_YF qTs (tb147, 6, (some .int)) qY147 := ⟨by decide, qw1164, qw12, ⟨by decide, by decide, by decide +kernel⟩, (fun z => absurd z (by decide)), (fun _ => ⟨qw1163, qs37⟩), (fun z => absurd z (by decide)), Nat.le_of_ble_eq_true rfl⟩
theorem qF148 : mi_YF qTs (tb148, 6, (some .int)) qY148 := ⟨by decide, qw1168, qw12, ⟨by decide, by decide, by decide +kernel⟩, (fun z => absurd z (by decide)), (fun _ => ⟨qw1167, qs38⟩), (fun z => absurd z (by decide)), Nat.le_of_ble_eq_true rfl⟩
theorem qF149 : mi_YF qTs (tb149, 6, (some .int)) qY149 := ⟨by decide, qw1152, qw12, ⟨by decide, by decide, by decide +kernel⟩, (fun z => absurd z (by decide)), (fun _ => ⟨qw1151, qs34⟩), (fun z => absurd z (by decide)), Nat.le_of_ble_eq_true rfl⟩
theorem qF150 : mi_YF qTs (tb150, 3, (some .int)) qY150 := ⟨by decide, qw1172, qw12, ⟨by decide, by decide, by decide +kernel⟩, (fun z => absurd z (by decide)), (fun _ => ⟨qw1171, qs39⟩), (fun z => absurd z (by decide)), Nat.le_of_ble_eq_true rfl⟩
theorem qF151 : mi_YF qTs (tb151, 4, (some .int)) qY151 := ⟨by decide, qw1176, qw12, ⟨by decide, by decide, by decide +kernel⟩, (fun z => absurd z (by decide)), (fun _ => ⟨qw1175, qs40⟩), (fun z => absurd z (by decide)), Nat.le_of_ble_eq_true rfl⟩
theorem qF152 : mi_YF qTs (tb152, 4, (some .int)) qY152 := ⟨by decide, qw1180, qw12, ⟨by decide, by decide, by decide +kernel⟩, (fun z => absurd z (by decide)), (fun _ => ⟨qw1179, qs41⟩), (fun z => absurd z (by decide)), Nat.le_of_ble_eq_true rfl⟩
theorem qF153 : mi_YF qTs (tb153, 6, (some .int)) qY153 := ⟨by decide, qw1136, qw12, ⟨by decide, by decide, by decide +kernel⟩, (fun z => absurd z (by decide)), (fun _ => ⟨qw1135, qs31⟩), (fun z => absurd z (by decide)), Nat.le_of_ble_eq_true rfl⟩
theorem qF154 : mi_YF qTs (tb154, 1, (some .int)) qY154 := ⟨by decide, qw1132, qw12, ⟨by decide, by decide, by decide +kernel⟩, (fun z => absurd z (by decide)), (fun _ => ⟨qw1130, qw1131⟩), (fun z => absurd z (by decide)), Nat.le_of_ble_eq_true rfl⟩
theorem qF155 : mi_YF qTs (tb155, 2, (some .int)) qY155 := ⟨by decide, qw1195, qw12, ⟨by decide, by decide, by decide +kernel⟩, (fun _ => qw1194), (fun z => absurd z (by decide)), (fun z => absurd z (by decide)), Nat.le_of_ble_eq_true rfl⟩
theorem qF156 : mi_YF qTs (tb156, 6, (some .int)) qY156 := ⟨by decide, qw1198, qw12, ⟨by decide, by decide, by decide +kernel⟩, (fun _ => qw1197), (fun z => absurd z (by decide)), (fun z => absurd z (by decide)), Nat.le_of_ble_eq_true rfl⟩
theorem qF157 : mi_YF qTs (tb157, 5, (some .int)) qY157 := ⟨by decide, qw1203, qw12, ⟨by decide, by decide, by decide +kernel⟩, (fun z => absurd z (by decide)), (fun _ => ⟨qw1202, qs44⟩), (fun z => absurd z (by decide)), Nat.le_of_ble_eq_true rfl⟩
theorem qF158 : mi_YF qTs (tb158, 9, (some .int)) qY158 := ⟨by decide, qw1192, qw12, ⟨by decide, by decide, by decide +kernel⟩, (fun z => absurd z (by decide)), (fun _ => ⟨qw1191, qs43⟩), (fun z => absurd z (by decide)), Nat.le_of_ble_eq_true rfl⟩
theorem qF159 : mi_YF qTs (tb159, 4, (some .int)) qY159 := ⟨by decide, qw1211, qw12, ⟨by decide, by decide, by decide +kernel⟩, (fun z => absurd z (by decide)), (fun _ => ⟨qw1210, qs46⟩), (fun z => absurd z (by decide)), Nat.le_of_ble_eq_true rfl⟩
theorem qF160 : mi_YF qTs (tb160, 5, (some .int)) qY160 := ⟨by decide, qw1207, qw12, ⟨by decide, by decide, by decide +kernel⟩, (fun z => absurd z (by decide)), (fun _ => ⟨qw1206, qs45⟩), (fun z => absurd z (by decide)), Nat.le_of_ble_eq_true rfl⟩
theorem qF161 : mi_YF qTs (tb161, 7, (some .int)) qY161 := ⟨by decide, qw1188, qw12, ⟨by decide, by decide, by decide +kernel⟩, (fun z => absurd z (by decide)), (fun _ => ⟨qw1187, qs42⟩), (fun z => absurd z (by decide)), Nat.le_of_ble_eq_true rfl⟩
theorem qF162 : mi_YF qTs (tb162, 3, (some .int)) qY162 := ⟨by decide, qw1184, qw12, ⟨by decide, by decide, by decide +kernel⟩, (fun z => absurd z (by decide)), (fun _ => ⟨qw1182, qw1183⟩), (fun z => absurd z (by decide)), Nat.le_of_ble_eq_true rfl⟩
theorem qF163 : mi_YF qTs (tb163, 4, (some .int)) qY163 := ⟨by decide, qw1216, qw12, ⟨by decide, by decide, by decide +kernel⟩, (fun z => absurd z (by decide)), (fun _ => ⟨qw1214, qw1215⟩), (fun z => absurd z (by decide)), Nat.le_of_ble_eq_true rfl⟩
theorem qF164 : mi_YF qTs (tb164, 7, (some .long)) qY164 := ⟨by decide, qw1246, qw12, ⟨by decide, by decide, by decide +kernel⟩, (fun z => absurd z (by decide)), (fun _ => ⟨qw1245, qs51⟩), (fun z => absurd z (by decide)), Nat.le_of_ble_eq_true rfl⟩
theorem qF165 : mi_YF qTs (tb165, 2, (some .long)) qY165 := ⟨by decide, qw1275, qw12, ⟨by decide, by decide, by decide +kernel⟩, (fun z => absurd z (by decide)), (fun _ => ⟨qw1274, qs57⟩), (fun z => absurd z (by decide)), Nat.le_of_ble_eq_true rfl⟩
theorem qF166 : mi_YF qTs (tb166, 5, (some .long)) qY166 := ⟨by decide, qw1242, qw12, ⟨by decide, by decide, by decide +kernel⟩, (fun z => absurd z (by decide)), (fun _ => ⟨qw1241, qs50⟩), (fun z => absurd z (by decide)), Nat.le_of_ble_eq_true rfl⟩
theorem qF167 : mi_YF qTs (tb167, 8, (some .int)) qY167 := ⟨by decide, qw1266, qw12, ⟨by decide, by decide, by decide +kernel⟩, (fun z => absurd z (by decide)), (fun _ => ⟨qw1265, qs55⟩), (fun z => absurd z (by decide)), Nat.le_of_ble_eq_true rfl⟩
theorem qF168 : mi_YF qTs (tb168, 6, (some .boolean)) qY168 := ⟨by decide, qw1233, qw12, ⟨by decide, by decide, by decide +kernel⟩, (fun z => absurd z (by decide)), (fun _ => ⟨qw1232, qs48⟩), (fun z => absurd z (by decide)), Nat.le_of_ble_eq_true rfl⟩
theorem qF169 : mi_YF qTs (tb169, 6, (some .int)) qY169 := ⟨by decide, qw1260, qw12, ⟨by decide, by decide, by decide +kernel⟩, (fun z => absurd z (by decide)), (fun _ => ⟨qw1259, qs54⟩), (fun z => absurd z (by decide)), Nat.le_of_ble_eq_true rfl⟩
theorem qF170 : mi_YF qTs (tb170, 5, (some .int)) qY170 := ⟨by decide, qw1256, qw12, ⟨by decide, by decide, by decide +kernel⟩, (fun z => absurd z (by decide)), (fun _ => ⟨qw1255, qs53⟩), (fun z => absurd z (by decide)), Nat.le_of_ble_eq_true rfl⟩
theorem qF171 : mi_YF qTs (tb171, 4, (some .boolean)) qY171 := ⟨by decide, qw1271, qw12, ⟨by decide, by decide, by decide +kernel⟩, (fun z => absurd z (by decide)), (fun _ => ⟨qw1270, qs56⟩), (fun z => absurd z (by decide)), Nat.le_of_ble_eq_true rfl⟩
theorem qF172 : mi_YF qTs (tb172, 3, (some .boolean)) qY172 := ⟨by decide, qw1252, qw12, ⟨by decide, by decide, by decide +kernel⟩, (fun z => absurd z (by decide)), (fun _ => ⟨qw1251, qs52⟩), (fun z => absurd z (by decide)), Nat.le_of_ble_eq_true rfl⟩
theorem qF173 : mi_YF qTs (tb173, 6, (some .boolean)) qY173 := ⟨by decide, qw1228, qw12, ⟨by decide, by decide, by decide +kernel⟩, (fun z => absurd z (by decide)), (fun _ => ⟨qw1227, qs47⟩), (fun z => absurd z (by decide)), Nat.le_of_ble_eq_true rfl⟩
theorem qF174 : mi_YF qTs (tb174, 7, (some .boolean)) qY174 := ⟨by decide, qw1237, qw12, ⟨by decide, by decide, by decide +kernel⟩, (fun z => absurd z (by decide)), (fun _ => ⟨qw1236, qs49⟩), (fun z => absurd z (by decide)), Nat.le_of_ble_eq_true rfl⟩
theorem qF175 : mi_YF qTs (tb175, 1, (some .boolean)) qY175 := ⟨by decide, qw1289, qw12, ⟨by decide, by decide, by decide +kernel⟩, (fun z => absurd z (by decide)), (fun _ => ⟨qw1288, qs58⟩), (fun z => absurd z (by decide)), Nat.le_of_ble_eq_true rfl⟩
theorem qF176 : mi_YF qTs (tb176, 4, (some .int)) qY176 := ⟨by decide, qw1298, qw12, ⟨by decide, by decide, by decide +kernel⟩, (fun z => absurd z (by decide)), (fun _ => ⟨qw1297, qs60⟩), (fun z => absurd z (by decide)), Nat.le_of_ble_eq_true rfl⟩
theorem qF177 : mi_YF qTs (tb177, 5, (some .boolean)) qY177 := ⟨by decide, qw1294, qw12, ⟨by decide, by decide, by decide +kernel⟩, (fun z => absurd z (by decide)), (fun _ => ⟨qw1293, qs59⟩), (fun z => absurd z (by decide)), Nat.le_of_ble_eq_true rfl⟩
theorem qF178 : mi_YF qTs (tb178, 5, (some .boolean)) qY178 := ⟨by decide, qw1315, qw12, ⟨by decide, by decide, by decide +kernel⟩, (fun z => absurd z (by decide)), (fun _ => ⟨qw1314, qs63⟩), (fun z => absurd z (by decide)), Nat.le_of_ble_eq_true rfl⟩
theorem qF179 : mi_YF qTs (tb179, 3, none) qY179 := ⟨by decide, qw1319, qw12, ⟨by decide, by decide, by decide +kernel⟩, (fun z => absurd z (by decide)), (fun _ => ⟨qw1318, qs64⟩), (fun z => absurd z (by decide)), Nat.le_of_ble_eq_true rfl⟩
theorem qF180 : mi_YF qTs (tb180, 6, (some .int)) qY180 := ⟨by decide, qw1309, qw12, ⟨by decide, by decide, by decide +kernel⟩, (fun z => absurd z (by decide)), (fun _ => ⟨qw1308, qs62⟩), (fun z => absurd z (by decide)), Nat.le_of_ble_eq_true rfl⟩
theorem qF181 : mi_YF qTs (tb181, 6, (some .int)) qY181 := ⟨by decide, qw1305, qw12, ⟨by decide, by decide, by decide +kernel⟩, (fun z => absurd z (by decide)), (fun _ => ⟨qw1304, qs61⟩), (fun z => absurd z (by decide)), Nat.le_of_ble_eq_true rfl⟩
theorem qF182 : mi_YF qTs (tb182, 5, (some .int)) qY182 := ⟨by decide, qw1323, qw12, ⟨by decide, by decide, by decide +kernel⟩, (fun z => absurd z (by decide)), (fun _ => ⟨qw1322, qs65⟩), (fun z => absurd z (by decide)), Nat.le_of_ble_eq_true rfl⟩
theorem qF183 : mi_YF qTs (tb183, 4, (some .int)) qY183 := ⟨by decide, qw1224, qw12, ⟨by decide, by decide, by decide +kernel⟩, (fun z => absurd z (by decide)), (fun _ => ⟨qw1222, qw1223⟩), (fun z => absurd z (by decide)), Nat.le_of_ble_eq_true rfl⟩
theorem qF184 : mi_YF qTs (tb184, 2, (some .int)) qY184 := ⟨by decide, qw1327, qw12, ⟨by decide, by decide, by decide +kernel⟩, (fun z => absurd z (by decide)), (fun _ => ⟨qw1325, qw1326⟩), (fun z => absurd z (by decide)), Nat.le_of_ble_eq_true rfl⟩
theorem qF185 : mi_YF qTs (tb185, 6, (some .int)) qY185 := ⟨by decide, qw1331, qw12, ⟨by decide, by decide, by decide +kernel⟩, (fun z => absurd z (by decide)), (fun _ => ⟨qw1329, qw1330⟩), (fun z => absurd z (by decide)), Nat.le_of_ble_eq_true rfl⟩
theorem qF186 : mi_YF qTs (tb186, 5, none) qY186 := ⟨by decide, qw1344, qw12, ⟨by decide, by decide, by decide +kernel⟩, (fun z => absurd z (by decide)), (fun _ => ⟨qw1343, qs67⟩), (fun z => absurd z (by decide)), Nat.le_of_ble_eq_true rfl⟩
theorem qF187 : mi_YF qTs (tb187, 3, none) qY187 := ⟨by decide, qw1349, qw12, ⟨by decide, by decide, by decide +kernel⟩, (fun z => absurd z (by decide)), (fun _ => ⟨qw1348, qs68⟩), (fun z => absurd z (by decide)), Nat.le_of_ble_eq_true rfl⟩
theorem qF188 : mi_YF qTs (tb188, 3, none) qY188 := ⟨by decide, qw1388, qw12, ⟨by decide, by decide, by decide +kernel⟩, (fun z => absurd z (by decide)), (fun _ => ⟨qw1387, qs72⟩), (fun z => absurd z (by decide)), Nat.le_of_ble_eq_true rfl⟩
theorem qF189 : mi_YF qTs (tb189, 2, none) qY189 := ⟨by decide, qw1356, qw12, ⟨by decide, by decide, by decide +kernel⟩, (fun z => absurd z (by decide)), (fun _ => ⟨qw1355, qs69⟩), (fun z => absurd z (by decide)), Nat.le_of_ble_eq_true rfl⟩
theorem qF190 : mi_YF qTs (tb190, 2, none) qY190 := ⟨by decide, qw1372, qw12, ⟨by decide, by decide, by decide +kernel⟩, (fun z => absurd z (by decide)), (fun _ => ⟨qw1371, qs71⟩), (fun z => absurd z (by decide)), Nat.le_of_ble_eq_true rfl⟩
theorem qF191 : mi_YF qTs (tb191, 4, none) qY191 := ⟨by decide, qw1367, qw12, ⟨by decide, by decide, by decide +kernel⟩, (fun z => absurd z (by decide)), (fun _ => ⟨qw1366, qs70⟩), (fun z => absurd z (by decide)), Nat.le_of_ble_eq_true rfl⟩
theorem qF192 : mi_YF qTs (tb192, 7, none) qY192 := ⟨by decide, qw1339, qw12, ⟨by decide, by decide, by decide +kernel⟩, (fun z => absurd z (by decide)), (fun _ => ⟨qw1338, qs66⟩), (fun z => absurd z (by decide)), Nat.le_of_ble_eq_true rfl⟩
theorem qF193 : mi_YF qTs (tb193, 4, (some .int)) qY193 := ⟨by decide, qw1397, qw12, ⟨by decide, by decide, by decide +kernel⟩, (fun z => absurd z (by decide)), (fun _ => ⟨qw1396, qs73⟩), (fun z => absurd z (by decide)), Nat.le_of_ble_eq_true rfl⟩
theorem qF194 : mi_YF qTs (tb194, 8, (some .boolean)) qY194 := ⟨by decide, qw1335, qw12, ⟨by decide, by decide, by decide +kernel⟩, (fun z => absurd z (by decide)), (fun _ => ⟨qw1333, qw1334⟩), (fun z => absurd z (by decide)), Nat.le_of_ble_eq_true rfl⟩
theorem qF195 : mi_YF qTs (tb195, 4, none) qY195 := ⟨by decide, qw1405, qw12, ⟨by decide, by decide, by decide +kernel⟩, (fun z => absurd z (by decide)), (fun _ => ⟨qw1404, qs74⟩), (fun z => absurd z (by decide)), Nat.le_of_ble_eq_true rfl⟩
theorem qF196 : mi_YF qTs (tb196, 4, (some .boolean)) qY196 := ⟨by decide, qw1401, qw12, ⟨by decide, by decide, by decide +kernel⟩, (fun z => absurd z (by decide)), (fun _ => ⟨qw1399, qw1400⟩), (fun z => absurd z (by decide)), Nat.le_of_ble_eq_true rfl⟩
theorem qF197 : mi_YF qTs (tb197, 2, (some .int)) qY197 := ⟨by decide, qw949, qw0, ⟨by decide, by decide, by decide +kernel⟩, (fun _ => qw948), (fun z => absurd z (by decide)), (fun z => absurd z (by decide)), Nat.le_of_ble_eq_true rfl⟩
