/-! String constants: what holds of them, and the JDK's own methods that are called on them. -/
def mi_Sx (A : Nat → Prop) (x : mX) (a v : Nat) (U : State) : Prop := vk_R x.1 x.2.1 x.2.2.1 a U ∧ va_O "java/lang/String" a A U U.heap ∧ va_OF "java/lang/String" "coder" "B" (.int 0) a A U U.heap ∧ va_OF "java/lang/String" "value" "[B" (.ref v) a A U U.heap ∧ va_T .byte v x.2.2.2.length (fun j => .int (x.2.2.2.getD j 0)) A U U.heap
def mi_J (SR : List mX) (base : Nat) (lit adV : Nat → Nat) (U : State) : Prop := (∀ (i : Nat) (x : mX), SR[i]? = some x → mi_Sx (fun q => base ≤ q) x (lit i) (adV i) U) ∧ va_Z "java/lang/String" "COMPACT_STRINGS" "Z" (.int 1) (fun q => base ≤ q) U U.heap ∧ va_Zq "jdk/internal/util/Preconditions" "SIOOBE_FORMATTER" "Ljava/util/function/BiFunction;" (fun q => base ≤ q) U U.heap
theorem mi_J_K {SR : List mX} {base : Nat} {lit adV : Nat → Nat} : mi_JK base (mi_J SR base lit adV) := by
  refine ⟨fun U g mk a h => ?_, fun s U h hW hz hk => ?_⟩
  · refine ⟨fun i x hx => ?_, va_Z.moved (u := U) (U := U.calling g mk a) (Vm.Alike.refl U.vm) h.2.1, va_Zq.moved (u := U) (U := U.calling g mk a) (Vm.Alike.refl U.vm) h.2.2⟩
    obtain ⟨h1, h2, h3, h4, h5⟩ := h.1 i x hx
    exact ⟨vk_R.same (u := U) rfl h1, va_O.moved (u := U) (Vm.Alike.refl U.vm) h2, va_OF.moved (u := U) (Vm.Alike.refl U.vm) h3, va_OF.moved (u := U) (Vm.Alike.refl U.vm) h4, va_T.moved (u := U) (Vm.Alike.refl U.vm) h5⟩
  · refine ⟨fun i x hx => ?_, (va_Z.moved hW.alike h.2.1).kept hk, (va_Zq.moved hW.alike h.2.2).kept hk⟩
    obtain ⟨h1, h2, h3, h4, h5⟩ := h.1 i x hx
    exact ⟨vk_R.warm hW h1, (va_O.moved hW.alike h2).kept hk, (va_OF.moved hW.alike h3).kept hk, (va_OF.moved hW.alike h4).kept hk, (va_T.moved hW.alike h5).kept hk⟩
def yS_length : MethodName := { cls := "java/lang/String", name := "length", desc := "()I" }
def yS_coder : MethodName := { cls := "java/lang/String", name := "coder", desc := "()B" }
def yS_charAt : MethodName := { cls := "java/lang/String", name := "charAt", desc := "(I)C" }
def yS_isLatin1 : MethodName := { cls := "java/lang/String", name := "isLatin1", desc := "()Z" }
def yS_latin : MethodName := { cls := "java/lang/StringLatin1", name := "charAt", desc := "([BI)C" }
def yS_check : MethodName := { cls := "java/lang/String", name := "checkIndex", desc := "(II)V" }
def yS_pre : MethodName := { cls := "jdk/internal/util/Preconditions", name := "checkIndex", desc := "(IILjava/util/function/BiFunction;)I" }
section JDK
variable {l : Launch} {SR : List mX} {base : Nat} {lit adV : Nat → Nat}
theorem mi_goodC {y : MethodName} {b : ByteArray} {n : Nat} {r : Option FieldType} (h : Jvm.Cond.code y b n r ∈ qTs) : GoodIn qTs (Jvm.Cond.code y b n r :: qTs) := by
  intro w hw
  rcases List.mem_cons.mp hw with rfl | hw
  · exact qGood _ h
  · exact qGood w hw
/-- Preconditions.checkIndex, the index being inside -/
theorem qj_pre {i n : Int32} {w : Value} (h0 : ¬ i < 0) (h1 : i < n) (hw : (∃ t, w = .ref t) ∨ w = .null) : Met l yS_pre (Jvm.Cond.code yS_pre prog_19_method_11_code 3 (some .int) :: qTs) { frames := 0, cells := 0, slots := 0, locals := 0 } (va_Pc [.int i, .int n, w] (fun _ => True)) (QcRead i) 0 0 (fun _ => False) := by
  refine Met.ofW (cc := prog_19_method_11_code) (maxL := 3) (ret := some .int) (by decide) rfl ?_
  intro p e s m args below meth c s₁ B hml hv
  obtain ⟨rfl, -⟩ := hv
  have hx := B.exec
  have hb := B.bytes
  have hr := B.returns
  have hlocks := B.notSynchronized
  have hl : lv_has ((lg_sl ([.int i, .int n, w] : List Value) ++ List.replicate (3 - (lg_sl ([.int i, .int n, w] : List Value)).length) Slot.unset).toArray) 3 [(0, .int i), (1, .int n)] := by
    rcases hw with ⟨t, rfl⟩ | rfl
    · exact lv_sub (lv_entry [.int i, .int n, .ref t] (n := 3) (Nat.le_of_ble_eq_true rfl)) [0, 1] rfl
    · exact lv_sub (lv_entry [.int i, .int n, .null] (n := 3) (Nat.le_of_ble_eq_true rfl)) [0, 1] rfl
  rw [lg_entry_eq]
  generalize (lg_sl ([.int i, .int n, w] : List Value) ++ List.replicate (3 - (lg_sl ([.int i, .int n, w] : List Value)).length) Slot.unset).toArray = ls at hl ⊢
  refine lv_iload_n hx hb (show decode prog_19_method_11_code 0 = .ok (.iload_n 0, 1) by decide +kernel) rfl (lv_at hl 0 rfl) ?_
  refine lv_if_lt hx hb (show decode prog_19_method_11_code 1 = .ok (.ifCond .lt 8, 3) by decide +kernel) (tgt := 9) rfl (fun h => absurd h h0) (fun _ => ?_)
  refine lv_iload_n hx hb (show decode prog_19_method_11_code 4 = .ok (.iload_n 0, 1) by decide +kernel) rfl (lv_at hl 0 rfl) ?_
  refine lv_iload_n hx hb (show decode prog_19_method_11_code 5 = .ok (.iload_n 1, 1) by decide +kernel) rfl (lv_at hl 1 rfl) ?_
  refine lv_icmp_lt hx hb (show decode prog_19_method_11_code 6 = .ok (.if_icmp .lt 10, 3) by decide +kernel) (tgt := 16) rfl (fun _ => ?_) (fun h => absurd h1 h)
  refine lv_iload_n hx hb (show decode prog_19_method_11_code 16 = .ok (.iload_n 0, 1) by decide +kernel) rfl (lv_at hl 0 rfl) ?_
  exact W.iret hx hb hr (fun t ht _ => ⟨rfl, ht⟩) (fun _ h => by cases h) (show decode prog_19_method_11_code 17 = .ok (.ireturn, 1) by decide +kernel)
def QcNone : Array Value → State → Outcome → State → Prop := fun _ st o t => o = .returned none ∧ t.heap = st.heap
theorem qj_callN {p : Program} {e : Env} {R : Room} {s : State} {m : MethodId} {args : Array Value} {below : List Frame} {meth : Method} {c : Code} {H : Heap} {locs : List Loc} {cells slots : Nat} {Q : State → Prop} {g : JFrame} {rest : List Value} {a : Array Value} (hr : CallRun p l e R s m args below meth c H locs cells slots 0 0 g rest (QcNone a) (fun _ => False)) (kk : W p l e R s m args below meth c H locs cells slots Q { g with pc := g.pc + 3, stack := rest }) : W p l e R s m args below meth c H locs cells slots Q g := by
  intro T hT X
  obtain ⟨v, st₀, t, T', L, h0, X', hL, e1, ⟨hv, hh⟩, st⟩ := hr T hT X
  cases hv
  obtain ⟨t2, a1, b1⟩ := kk T' (by rw [e1, hh, h0]) (Stand.forget X' (fun q h => (hL q h).elim))
  exact ⟨t2, st t2 a1, b1⟩
theorem mi_J_blind {av : List Value} : FrameBlind (va_Pc av (mi_J SR base lit adV)) := fun a U g mk q => ⟨q.1, mi_J_K.1 U g mk a q.2⟩
theorem mi_J_pre {s : State} {av : List Value} (hJ : mi_J SR base lit adV s) : ∀ U : State, U.heap = s.heap → s.WarmedH U.vm → va_Pc av (mi_J SR base lit adV) av.toArray U := fun U hU hW => ⟨rfl, mi_J_K.2 s U hJ hW (by rw [hU]; exact Nat.le_refl _) (fun q _ _ => by rw [hU])⟩
/-- String.checkIndex, the index being inside -/
theorem qj_check {i n : Int32} (h0 : ¬ i < 0) (h1 : i < n) : Met l yS_check (Jvm.Cond.code yS_check prog_15_method_155_code 2 none :: qTs) { frames := 1, cells := 0, slots := 0, locals := 22 } (va_Pc [.int i, .int n] (mi_J SR base lit adV)) QcNone 0 0 (fun _ => False) := by
  refine Met.ofW (cc := prog_15_method_155_code) (maxL := 2) (ret := none) (by decide) rfl ?_
  intro p e s m args below meth c s₁ B hml hv
  obtain ⟨rfl, hJ⟩ := hv
  have hx := B.exec
  have hb := B.bytes
  have hr := B.returns
  have hlocks := B.notSynchronized
  have hts0 := atoms_spec (ws := Jvm.Cond.code yS_check prog_15_method_155_code 2 none :: qTs) B.pre
  have hts : ∀ w ∈ qTs, w.before ([.int i, .int n] : List Value).toArray s = true := fun w hw => hts0 w (List.mem_cons_of_mem _ hw)
  have hown : s.vm.findClass "java/lang/String" = some m.cls := findClass_of_methodNamed B.named
  have hS : va_S (fun q => base ≤ q) s.heap s.heap [] := va_S.rf
  have hl := lv_entry ([.int i, .int n] : List Value) (n := 2) (Nat.le_of_ble_eq_true rfl)
  rw [lg_entry_eq]
  generalize (lg_sl ([.int i, .int n] : List Value) ++ List.replicate (2 - (lg_sl ([.int i, .int n] : List Value)).length) Slot.unset).toArray = ls at hl ⊢
  have hl : lv_has ls 2 [(0, .int i), (1, .int n)] := hl
  refine lv_iload_n hx hb (show decode prog_15_method_155_code 0 = .ok (.iload_n 0, 1) by decide +kernel) rfl (lv_at hl 0 rfl) ?_
  refine lv_iload_n hx hb (show decode prog_15_method_155_code 1 = .ok (.iload_n 1, 1) by decide +kernel) rfl (lv_at hl 1 rfl) ?_
  have key : ∀ w : Value, ((∃ t, w = .ref t) ∨ w = .null) → va_Z "jdk/internal/util/Preconditions" "SIOOBE_FORMATTER" "Ljava/util/function/BiFunction;" w (fun q => base ≤ q) s s.heap → W p l e (headSpec (Jvm.Cond.code yS_check prog_15_method_155_code 2 none :: qTs) { frames := 1, cells := 0, slots := 0, locals := 22 }).room s m ([.int i, .int n] : List Value).toArray below meth c s.heap [] 0 0 (MQ below QcNone ([.int i, .int n] : List Value).toArray s 0 0 (fun _ => False)) (F0 m 2 ls [.int n, .int i]) := by
    intro w hw hZ
    refine va_gets (v := w) hx hb hZ hS hown (hts _ qw414) (fun _ h => h) (show decode prog_15_method_155_code 2 = .ok (.getstatic 1053, 3) by decide +kernel) ?_
    refine W.callR (W.runS (As := [.int i, .int n, w]) (rest := []) ⟨hx, hb, hml, hown, hts⟩ (qj_pre h0 h1 hw) ⟨callB_of 3 hts (mi_goodC qw418) rfl rfl rfl (hts _ qw15) (hts _ qw416) (by decide +kernel) ⟨Nat.le_of_ble_eq_true rfl, Nat.le_of_ble_eq_true rfl⟩, hts _ qw417⟩ ⟨fun _ _ _ _ q => ⟨q.1, trivial⟩, fun _ _ _ => ⟨rfl, trivial⟩⟩ rfl rfl hl.1 rfl (lv_room (Nat.le_of_ble_eq_true rfl)) (show decode prog_15_method_155_code 5 = .ok (.invokestatic 1059, 3) by decide +kernel) ⟨Nat.le_of_ble_eq_true rfl, Nat.le_of_ble_eq_true rfl⟩) ?_
    refine lv_pop hx hb (show decode prog_15_method_155_code 8 = .ok (.pop, 1) by decide +kernel) rfl ?_
    exact W.vret hx hb hr (fun t ht _ => ⟨rfl, ht⟩) (fun _ h => by cases h) (show decode prog_15_method_155_code 9 = .ok (.return_, 1) by decide +kernel)
  rcases hJ.2.2 with hZ | ⟨t, hZ⟩
  · exact key _ (Or.inr rfl) hZ
  · exact key _ (Or.inl ⟨t, rfl⟩) hZ
/-- String.coder -/
theorem qj_coder {i : Nat} {x : mX} (hi : SR[i]? = some x) : Met l yS_coder (Jvm.Cond.code yS_coder prog_15_method_152_code 1 (some .byte) :: qTs) { frames := 0, cells := 0, slots := 0, locals := 0 } (va_Pc [.ref (lit i)] (mi_J SR base lit adV)) (QcRead 0) 0 0 (fun _ => False) := by
  refine Met.ofW (cc := prog_15_method_152_code) (maxL := 1) (ret := some .byte) (by decide) rfl ?_
  intro p e s m args below meth c s₁ B hml hv
  obtain ⟨rfl, hJ⟩ := hv
  have hx := B.exec
  have hb := B.bytes
  have hr := B.returns
  have hlocks := B.notSynchronized
  have hts0 := atoms_spec (ws := Jvm.Cond.code yS_coder prog_15_method_152_code 1 (some .byte) :: qTs) B.pre
  have hts : ∀ w ∈ qTs, w.before ([.ref (lit i)] : List Value).toArray s = true := fun w hw => hts0 w (List.mem_cons_of_mem _ hw)
  have hown : s.vm.findClass "java/lang/String" = some m.cls := findClass_of_methodNamed B.named
  have hS : va_S (fun q => base ≤ q) s.heap s.heap [] := va_S.rf
  have hl := lv_entry ([.ref (lit i)] : List Value) (n := 1) (Nat.le_of_ble_eq_true rfl)
  rw [lg_entry_eq]
  generalize (lg_sl ([.ref (lit i)] : List Value) ++ List.replicate (1 - (lg_sl ([.ref (lit i)] : List Value)).length) Slot.unset).toArray = ls at hl ⊢
  have hl : lv_has ls 1 [(0, .ref (lit i))] := hl
  obtain ⟨-, -, h3, -, -⟩ := hJ.1 i x hi
  refine va_gets (v := .int 1) hx hb hJ.2.1 hS hown (hts _ qw398) (fun _ h => h) (show decode prog_15_method_152_code 0 = .ok (.getstatic 38, 3) by decide +kernel) ?_
  refine lv_if_eq hx hb (show decode prog_15_method_152_code 3 = .ok (.ifCond .eq 10, 3) by decide +kernel) (tgt := 13) rfl (fun h => absurd h (by decide)) (fun _ => ?_)
  refine lv_aload_n hx hb (show decode prog_15_method_152_code 6 = .ok (.aload_n 0, 1) by decide +kernel) rfl (lv_at hl 0 rfl) ?_
  refine vk_getf hx hb h3 hS hown (hts _ qw1410) (fun _ h => h) (show decode prog_15_method_152_code 7 = .ok (.getfield 15, 3) by decide +kernel) ?_
  refine lv_goto hx hb (show decode prog_15_method_152_code 10 = .ok (.goto 4, 3) by decide +kernel) (tgt := 14) rfl ?_
  exact W.zret hx hb hr rfl (fun t ht _ => ⟨rfl, ht⟩) (fun _ h => by cases h) (show decode prog_15_method_152_code 14 = .ok (.ireturn, 1) by decide +kernel)
/-- String.isLatin1 -/
theorem qj_latin1 {i : Nat} {x : mX} (hi : SR[i]? = some x) : Met l yS_isLatin1 (Jvm.Cond.code yS_isLatin1 prog_15_method_154_code 1 (some .boolean) :: qTs) { frames := 0, cells := 0, slots := 0, locals := 0 } (va_Pc [.ref (lit i)] (mi_J SR base lit adV)) (QcRead 1) 0 0 (fun _ => False) := by
  refine Met.ofW (cc := prog_15_method_154_code) (maxL := 1) (ret := some .boolean) (by decide) rfl ?_
  intro p e s m args below meth c s₁ B hml hv
  obtain ⟨rfl, hJ⟩ := hv
  have hx := B.exec
  have hb := B.bytes
  have hr := B.returns
  have hlocks := B.notSynchronized
  have hts0 := atoms_spec (ws := Jvm.Cond.code yS_isLatin1 prog_15_method_154_code 1 (some .boolean) :: qTs) B.pre
  have hts : ∀ w ∈ qTs, w.before ([.ref (lit i)] : List Value).toArray s = true := fun w hw => hts0 w (List.mem_cons_of_mem _ hw)
  have hown : s.vm.findClass "java/lang/String" = some m.cls := findClass_of_methodNamed B.named
  have hS : va_S (fun q => base ≤ q) s.heap s.heap [] := va_S.rf
  have hl := lv_entry ([.ref (lit i)] : List Value) (n := 1) (Nat.le_of_ble_eq_true rfl)
  rw [lg_entry_eq]
  generalize (lg_sl ([.ref (lit i)] : List Value) ++ List.replicate (1 - (lg_sl ([.ref (lit i)] : List Value)).length) Slot.unset).toArray = ls at hl ⊢
  have hl : lv_has ls 1 [(0, .ref (lit i))] := hl
  obtain ⟨-, -, h3, -, -⟩ := hJ.1 i x hi
  refine va_gets (v := .int 1) hx hb hJ.2.1 hS hown (hts _ qw398) (fun _ h => h) (show decode prog_15_method_154_code 0 = .ok (.getstatic 38, 3) by decide +kernel) ?_
  refine lv_if_eq hx hb (show decode prog_15_method_154_code 3 = .ok (.ifCond .eq 14, 3) by decide +kernel) (tgt := 17) rfl (fun h => absurd h (by decide)) (fun _ => ?_)
  refine lv_aload_n hx hb (show decode prog_15_method_154_code 6 = .ok (.aload_n 0, 1) by decide +kernel) rfl (lv_at hl 0 rfl) ?_
  refine vk_getf hx hb h3 hS hown (hts _ qw1410) (fun _ h => h) (show decode prog_15_method_154_code 7 = .ok (.getfield 15, 3) by decide +kernel) ?_
  refine lv_if_ne hx hb (show decode prog_15_method_154_code 10 = .ok (.ifCond .ne 7, 3) by decide +kernel) (tgt := 17) rfl (fun h => absurd rfl h) (fun _ => ?_)
  refine lv_iconst (v := 1) hx hb (show decode prog_15_method_154_code 13 = .ok (.iconst 1, 1) by decide +kernel) (by decide) ?_
  refine lv_goto hx hb (show decode prog_15_method_154_code 14 = .ok (.goto 4, 3) by decide +kernel) (tgt := 18) rfl ?_
  exact W.zret hx hb hr rfl (fun t ht _ => ⟨rfl, ht⟩) (fun _ h => by cases h) (show decode prog_15_method_154_code 18 = .ok (.ireturn, 1) by decide +kernel)
theorem mi_in_of {k : Int32} {N : Nat} (h : mi_in k N = true) : ¬ k < 0 ∧ k.toNatClampNeg < N := by
  unfold mi_in at h
  rw [Bool.and_eq_true, Nat.blt_eq] at h
  refine ⟨fun z => ?_, h.2⟩
  have := h.1
  rw [decide_eq_true z] at this
  cases this
theorem mi_in_lt {k : Int32} {N : Nat} (h : mi_in k N = true) (hN : N < 2 ^ 31) : k < Int32.ofNat N := by
  obtain ⟨h0, h1⟩ := mi_in_of h
  obtain ⟨j, hj, rfl⟩ := nI_of h0
  rw [nI_clamp hj] at h1
  exact nI_lt h1 hN
theorem qj_shr (x : Int32) : x >>> ((0 : Int32) &&& 31) = x := by
  have h : ((0 : Int32) &&& 31) = 0 := by decide
  rw [h]
  simp
/-- StringLatin1.charAt, the index being inside -/
theorem qj_latin {i : Nat} {x : mX} {k : Int32} (hi : SR[i]? = some x) (hk : mi_in k x.2.2.2.length = true) (hN : x.2.2.2.length < 2 ^ 31) (hch : ∀ c ∈ x.2.2.2, ((c &&& 255).toUInt32 % 65536).toInt32 = c ∧ narrow .char (.int c) = .int c) : Met l yS_latin (Jvm.Cond.code yS_latin prog_16_method_2_code 2 (some .char) :: qTs) { frames := 2, cells := 0, slots := 0, locals := 43 } (va_Pc [.ref (adV i), .int k] (mi_J SR base lit adV)) (QcRead (x.2.2.2.getD k.toNatClampNeg 0)) 0 0 (fun _ => False) := by
  refine Met.ofW (cc := prog_16_method_2_code) (maxL := 2) (ret := some .char) (by decide) rfl ?_
  intro p e s m args below meth c s₁ B hml hv
  obtain ⟨rfl, hJ⟩ := hv
  have hx := B.exec
  have hb := B.bytes
  have hr := B.returns
  have hlocks := B.notSynchronized
  have hts0 := atoms_spec (ws := Jvm.Cond.code yS_latin prog_16_method_2_code 2 (some .char) :: qTs) B.pre
  have hts : ∀ w ∈ qTs, w.before ([.ref (adV i), .int k] : List Value).toArray s = true := fun w hw => hts0 w (List.mem_cons_of_mem _ hw)
  have hown : s.vm.findClass "java/lang/StringLatin1" = some m.cls := findClass_of_methodNamed B.named
  have hS : va_S (fun q => base ≤ q) s.heap s.heap [] := va_S.rf
  have hl := lv_entry ([.ref (adV i), .int k] : List Value) (n := 2) (Nat.le_of_ble_eq_true rfl)
  rw [lg_entry_eq]
  generalize (lg_sl ([.ref (adV i), .int k] : List Value) ++ List.replicate (2 - (lg_sl ([.ref (adV i), .int k] : List Value)).length) Slot.unset).toArray = ls at hl ⊢
  have hl : lv_has ls 2 [(0, .ref (adV i)), (1, .int k)] := hl
  obtain ⟨-, h2, h3, h4, h5⟩ := hJ.1 i x hi
  obtain ⟨hk0, hk1⟩ := mi_in_of hk
  have hg : x.2.2.2.getD k.toNatClampNeg 0 ∈ x.2.2.2 := by
    rw [List.getD_eq_getElem?_getD, List.getElem?_eq_getElem hk1]
    exact List.getElem_mem hk1
  obtain ⟨hc1, hc2⟩ := hch _ hg
  refine lv_iload_n hx hb (show decode prog_16_method_2_code 0 = .ok (.iload_n 1, 1) by decide +kernel) rfl (lv_at hl 1 rfl) ?_
  refine lv_aload_n hx hb (show decode prog_16_method_2_code 1 = .ok (.aload_n 0, 1) by decide +kernel) rfl (lv_at hl 0 rfl) ?_
  refine va_tlen hx hb h5 hS rfl (show decode prog_16_method_2_code 2 = .ok (.arraylength, 1) by decide +kernel) ?_
  refine qj_callN (W.runS (As := [.int k, .int (Int32.ofNat x.2.2.2.length)]) (rest := []) ⟨hx, hb, hml, hown, hts⟩ (qj_check hk0 (mi_in_lt hk hN)) ⟨callB_of 2 hts (mi_goodC qw413) rfl rfl rfl (hts _ qw13) (hts _ qw411) (by decide +kernel) ⟨Nat.le_of_ble_eq_true rfl, Nat.le_of_ble_eq_true rfl⟩, hts _ qw412⟩ ⟨mi_J_blind, mi_J_pre hJ⟩ rfl rfl hl.1 rfl (lv_room (Nat.le_of_ble_eq_true rfl)) (show decode prog_16_method_2_code 3 = .ok (.invokestatic 9, 3) by decide +kernel) ⟨Nat.le_of_ble_eq_true rfl, Nat.le_of_ble_eq_true rfl⟩) ?_
  refine lv_aload_n hx hb (show decode prog_16_method_2_code 6 = .ok (.aload_n 0, 1) by decide +kernel) rfl (lv_at hl 0 rfl) ?_
  refine lv_iload_n hx hb (show decode prog_16_method_2_code 7 = .ok (.iload_n 1, 1) by decide +kernel) rfl (lv_at hl 1 rfl) ?_
  refine va_tb (v := .int (x.2.2.2.getD k.toNatClampNeg 0)) hx hb h5 hS (mi_vp_in hk) rfl (show decode prog_16_method_2_code 8 = .ok (.baload, 1) by decide +kernel) ?_
  refine lv_sipush (v := 255) hx hb (show decode prog_16_method_2_code 9 = .ok (.sipush 255, 3) by decide +kernel) (by decide) ?_
  refine lv_iand hx hb (show decode prog_16_method_2_code 12 = .ok (.iand, 1) by decide +kernel) ?_
  refine lv_i2c (v := x.2.2.2.getD k.toNatClampNeg 0) hx hb (show decode prog_16_method_2_code 13 = .ok (.i2c, 1) by decide +kernel) hc1 ?_
  exact W.zret hx hb hr hc2 (fun t ht _ => ⟨rfl, ht⟩) (fun _ h => by cases h) (show decode prog_16_method_2_code 14 = .ok (.ireturn, 1) by decide +kernel)
/-- String.charAt, the index being inside -/
theorem qj_charAt {i : Nat} {x : mX} {k : Int32} (hi : SR[i]? = some x) (hk : mi_in k x.2.2.2.length = true) (hN : x.2.2.2.length < 2 ^ 31) (hch : ∀ c ∈ x.2.2.2, ((c &&& 255).toUInt32 % 65536).toInt32 = c ∧ narrow .char (.int c) = .int c) : Met l yS_charAt (Jvm.Cond.code yS_charAt prog_15_method_56_code 2 (some .char) :: qTs) { frames := 3, cells := 0, slots := 0, locals := 64 } (va_Pc [.ref (lit i), .int k] (mi_J SR base lit adV)) (QcRead (x.2.2.2.getD k.toNatClampNeg 0)) 0 0 (fun _ => False) := by
  refine Met.ofW (cc := prog_15_method_56_code) (maxL := 2) (ret := some .char) (by decide) rfl ?_
  intro p e s m args below meth c s₁ B hml hv
  obtain ⟨rfl, hJ⟩ := hv
  have hx := B.exec
  have hb := B.bytes
  have hr := B.returns
  have hlocks := B.notSynchronized
  have hts0 := atoms_spec (ws := Jvm.Cond.code yS_charAt prog_15_method_56_code 2 (some .char) :: qTs) B.pre
  have hts : ∀ w ∈ qTs, w.before ([.ref (lit i), .int k] : List Value).toArray s = true := fun w hw => hts0 w (List.mem_cons_of_mem _ hw)
  have hown : s.vm.findClass "java/lang/String" = some m.cls := findClass_of_methodNamed B.named
  have hS : va_S (fun q => base ≤ q) s.heap s.heap [] := va_S.rf
  have hl := lv_entry ([.ref (lit i), .int k] : List Value) (n := 2) (Nat.le_of_ble_eq_true rfl)
  rw [lg_entry_eq]
  generalize (lg_sl ([.ref (lit i), .int k] : List Value) ++ List.replicate (2 - (lg_sl ([.ref (lit i), .int k] : List Value)).length) Slot.unset).toArray = ls at hl ⊢
  have hl : lv_has ls 2 [(0, .ref (lit i)), (1, .int k)] := hl
  obtain ⟨-, h2, h3, h4, h5⟩ := hJ.1 i x hi
  obtain ⟨hk0, hk1⟩ := mi_in_of hk
  have hg : x.2.2.2.getD k.toNatClampNeg 0 ∈ x.2.2.2 := by
    rw [List.getD_eq_getElem?_getD, List.getElem?_eq_getElem hk1]
    exact List.getElem_mem hk1
  obtain ⟨hc1, hc2⟩ := hch _ hg
  obtain ⟨cell, g1, g2, g3, -⟩ := h2
  refine lv_aload_n hx hb (show decode prog_15_method_56_code 0 = .ok (.aload_n 0, 1) by decide +kernel) rfl (lv_at hl 0 rfl) ?_
  refine W.callR (W.runV (C := "java/lang/String") (b := lit i) (As := []) (rest := []) ⟨hx, hb, hml, hown, hts⟩ (qj_latin1 hi) ⟨callB_of 0 hts (mi_goodC qw407) rfl rfl rfl (hts _ qw13) (hts _ qw404) (by decide +kernel) ⟨Nat.le_of_ble_eq_true rfl, Nat.le_of_ble_eq_true rfl⟩, hts _ qw405, hts _ qw406⟩ ⟨mi_J_blind, ⟨cell, g1, g2, g3⟩, mi_J_pre hJ⟩ rfl rfl hl.1 rfl (lv_room (Nat.le_of_ble_eq_true rfl)) (show decode prog_15_method_56_code 1 = .ok (.invokevirtual 492, 3) by decide +kernel) ⟨Nat.le_of_ble_eq_true rfl, Nat.le_of_ble_eq_true rfl⟩) ?_
  refine lv_if_eq hx hb (show decode prog_15_method_56_code 4 = .ok (.ifCond .eq 12, 3) by decide +kernel) (tgt := 16) rfl (fun h => absurd h (by decide)) (fun _ => ?_)
  refine lv_aload_n hx hb (show decode prog_15_method_56_code 7 = .ok (.aload_n 0, 1) by decide +kernel) rfl (lv_at hl 0 rfl) ?_
  refine vk_getf hx hb h4 hS hown (hts _ qw1409) (fun _ h => h) (show decode prog_15_method_56_code 8 = .ok (.getfield 9, 3) by decide +kernel) ?_
  refine lv_iload_n hx hb (show decode prog_15_method_56_code 11 = .ok (.iload_n 1, 1) by decide +kernel) rfl (lv_at hl 1 rfl) ?_
  refine W.callR (W.runS (As := [.ref (adV i), .int k]) (rest := []) ⟨hx, hb, hml, hown, hts⟩ (qj_latin hi hk hN hch) ⟨callB_of 2 hts (mi_goodC qw410) rfl rfl rfl (hts _ qw14) (hts _ qw408) (by decide +kernel) ⟨Nat.le_of_ble_eq_true rfl, Nat.le_of_ble_eq_true rfl⟩, hts _ qw409⟩ ⟨mi_J_blind, mi_J_pre hJ⟩ rfl rfl hl.1 rfl (lv_room (Nat.le_of_ble_eq_true rfl)) (show decode prog_15_method_56_code 12 = .ok (.invokestatic 495, 3) by decide +kernel) ⟨Nat.le_of_ble_eq_true rfl, Nat.le_of_ble_eq_true rfl⟩) ?_
  exact W.zret hx hb hr hc2 (fun t ht _ => ⟨rfl, ht⟩) (fun _ h => by cases h) (show decode prog_15_method_56_code 15 = .ok (.ireturn, 1) by decide +kernel)
/-- String.length -/
theorem qj_length {i : Nat} {x : mX} (hi : SR[i]? = some x) : Met l yS_length (Jvm.Cond.code yS_length prog_15_method_54_code 1 (some .int) :: qTs) { frames := 1, cells := 0, slots := 0, locals := 20 } (va_Pc [.ref (lit i)] (mi_J SR base lit adV)) (QcRead (Int32.ofNat x.2.2.2.length)) 0 0 (fun _ => False) := by
  refine Met.ofW (cc := prog_15_method_54_code) (maxL := 1) (ret := some .int) (by decide) rfl ?_
  intro p e s m args below meth c s₁ B hml hv
  obtain ⟨rfl, hJ⟩ := hv
  have hx := B.exec
  have hb := B.bytes
  have hr := B.returns
  have hlocks := B.notSynchronized
  have hts0 := atoms_spec (ws := Jvm.Cond.code yS_length prog_15_method_54_code 1 (some .int) :: qTs) B.pre
  have hts : ∀ w ∈ qTs, w.before ([.ref (lit i)] : List Value).toArray s = true := fun w hw => hts0 w (List.mem_cons_of_mem _ hw)
  have hown : s.vm.findClass "java/lang/String" = some m.cls := findClass_of_methodNamed B.named
  have hS : va_S (fun q => base ≤ q) s.heap s.heap [] := va_S.rf
  have hl := lv_entry ([.ref (lit i)] : List Value) (n := 1) (Nat.le_of_ble_eq_true rfl)
  rw [lg_entry_eq]
  generalize (lg_sl ([.ref (lit i)] : List Value) ++ List.replicate (1 - (lg_sl ([.ref (lit i)] : List Value)).length) Slot.unset).toArray = ls at hl ⊢
  have hl : lv_has ls 1 [(0, .ref (lit i))] := hl
  obtain ⟨-, h2, h3, h4, h5⟩ := hJ.1 i x hi
  obtain ⟨cell, g1, g2, g3, -⟩ := h2
  refine lv_aload_n hx hb (show decode prog_15_method_54_code 0 = .ok (.aload_n 0, 1) by decide +kernel) rfl (lv_at hl 0 rfl) ?_
  refine vk_getf hx hb h4 hS hown (hts _ qw1409) (fun _ h => h) (show decode prog_15_method_54_code 1 = .ok (.getfield 9, 3) by decide +kernel) ?_
  refine va_tlen hx hb h5 hS rfl (show decode prog_15_method_54_code 4 = .ok (.arraylength, 1) by decide +kernel) ?_
  refine lv_aload_n hx hb (show decode prog_15_method_54_code 5 = .ok (.aload_n 0, 1) by decide +kernel) rfl (lv_at hl 0 rfl) ?_
  refine W.callR (W.runV (C := "java/lang/String") (b := lit i) (As := []) (rest := [.int (Int32.ofNat x.2.2.2.length)]) ⟨hx, hb, hml, hown, hts⟩ (qj_coder hi) ⟨callB_of 0 hts (mi_goodC qw397) rfl rfl rfl (hts _ qw13) (hts _ qw394) (by decide +kernel) ⟨Nat.le_of_ble_eq_true rfl, Nat.le_of_ble_eq_true rfl⟩, hts _ qw395, hts _ qw396⟩ ⟨mi_J_blind, ⟨cell, g1, g2, g3⟩, mi_J_pre hJ⟩ rfl rfl hl.1 rfl (lv_room (Nat.le_of_ble_eq_true rfl)) (show decode prog_15_method_54_code 6 = .ok (.invokevirtual 335, 3) by decide +kernel) ⟨Nat.le_of_ble_eq_true rfl, Nat.le_of_ble_eq_true rfl⟩) ?_
  refine lv_ishr hx hb (show decode prog_15_method_54_code 9 = .ok (.ishr, 1) by decide +kernel) ?_
  rw [qj_shr]
  exact W.iret hx hb hr (fun t ht _ => ⟨rfl, ht⟩) (fun _ h => by cases h) (show decode prog_15_method_54_code 10 = .ok (.ireturn, 1) by decide +kernel)
end JDK
