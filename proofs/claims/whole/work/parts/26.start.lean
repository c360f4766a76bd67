/-! THE CLAIM OUT OF ONE WALK OF THE LAW'S BODY. Your part is whole_start (and what it stands on); all else here is the same for every law, but numbers. -/
def R_law : String := "AssertionGateLaw"
def lw_P (b : Addr) (xs : List Int32) (args : Array Value) (s : State) : Prop := args = #[.ref b] ∧ s.IntsAt b xs ∧ xs.length ≤ 3074 ∧ (Jvm.Cond.and given_1 narrow_1).before args s = true
def lw_Q (_ : Array Value) (s : State) (o : Outcome) (t : State) : Prop := o = .returned (some (.int 1)) ∧ Framed s o t [] 600000 7302250
def lw_Z (below : List Frame) (a : Array Value) (s : State) : State → Prop := fun t => ∃ o, t.status = .running ∧ Ended t below o ∧ lw_Q a s o t
/-- the law's own end, with 1 on the stack, nothing written that was there before, its room as the claim has it -/
theorem lw_ret {p : Program} {l : Launch} {e : Env} {s : State} {m : MethodId} {below : List Frame} {meth : Method} {c : Code} {b : Nat} (hx : p.tables.exec = Jvm.exec) (hb : c.code = code) (hr : meth.sig.returnType = ret) (hlocks : meth.locks = false) {pc : Nat} {H : Heap} {ls : Array Slot} (hdg : decode code pc = .ok (.ireturn, 1)) : W p l e room_1 s m #[Value.ref b] below meth c H [] 600000 7302250 (lw_Z below #[Value.ref b] s) (F0 m pc ls [.int 1]) := by
  intro T hT X
  obtain ⟨fs, hret, hrun, hended, hW, hframe⟩ := X.leave (v := some (.int 1)) (hlocks := hlocks) (fun h => by rw [hr] at h; cases h)
  have hmeth' : T.vm.method? m = some meth := X.method'
  refine ⟨T.setFrames fs, ?_, .returned (some (.int 1)), hrun, hended, rfl, ⟨_, rfl⟩, hW, hframe⟩
  jvm_step X.here [X.here.top, hx, hb, hdg, hmeth', hr, ret, narrow_b1]
  (try refine ⟨rfl, ?_⟩); (try refine ⟨rfl, ?_⟩)
  first | (intro acts; rw [hret _ acts rfl rfl rfl]) | rw [hret _ _ rfl rfl rfl]
  exact Steps.refl _
/-- what holds at the law's entry: the machine, the code, the tables' words (any of lw_tbl by 'hts w (by decide +kernel)'), the script of L ints xs at the cell b, what the Statement gives of the start (any of its parts by flat_of_before) -/
def lw_At (p : Program) (s : State) (m : MethodId) (meth : Method) (c : Code) (b L : Nat) (xs : Nat → Int32) : Prop :=
  p.tables.exec = Jvm.exec ∧ c.code = code ∧ meth.sig.returnType = ret ∧ c.maxLocals = 4 ∧ s.vm.findClass R_law = some m.cls ∧ (∀ w ∈ lw_tbl, w.before #[Value.ref b] s = true) ∧ va_X b L xs s s.heap ∧ b < s.heap.size ∧ meth.locks = false ∧ (Jvm.Cond.and given_1 narrow_1).before #[Value.ref b] s = true
/-! The law's own entries. -/
def mi_sww : Instr → Bool
  | .tableswitch _ _ _ _ => true
  | _ => false
theorem qAL : (tbL.filter (fun z => !(mi_sww z.2.1))).all (mi_A code) = true := by decide +kernel
theorem qAS : (tbL.filter (fun z => mi_sww z.2.1)).all (fun z => decide (decode code z.1 = .ok (z.2.1, 95))) = true := by decide +kernel
set_option maxRecDepth 100000 in
theorem qBL {args : Array Value} {s : State} (hts : ∀ w ∈ qTs, w.before args s = true) : mi_fa (fun z => mi_V2 "AssertionGateLaw" qCl s args false z.2.1 z.2.2.2.1 z.2.2.2.2.1) (tbL.filter (fun z => mi_nd z.2.1)) := mi_fc1 (⟨_, _, _, rfl, hts _ qw19, hts _ qw20, hts _ qw1⟩) <| mi_fc1 (⟨_, _, _, rfl, hts _ qw950, hts _ qw951, hts _ qw12⟩) <| mi_fc0
set_option maxRecDepth 100000 in
theorem qCL : mi_fa (fun z => z.2.2.2.1 < 1000 → mi_VC qTs "AssertionGateLaw" qY qCl z.2) (tbL.filter (fun z => mi_ni z.2.1)) := mi_fc1 (fun _ => ⟨qY197, rfl, rfl, rfl, qw947⟩) <| mi_fc1 (fun _ => ⟨qY197, rfl, rfl, rfl, qw947⟩) <| mi_fc1 (fun _ => ⟨qY0, rfl, rfl, rfl, qw21, rfl⟩) <| mi_fc1 (fun _ => ⟨qY197, rfl, rfl, rfl, qw947⟩) <| mi_fc1 (fun _ => ⟨qY197, rfl, rfl, rfl, qw947⟩) <| mi_fc1 (fun _ => ⟨qY124, rfl, rfl, rfl, qw952, rfl⟩) <| mi_fc1 (fun _ => ⟨qY1, _, _, rfl, rfl, rfl, qw341, rfl, rfl, rfl⟩) <| mi_fc1 (fun _ => ⟨qY127, _, _, rfl, rfl, rfl, qw1066, rfl, rfl, rfl⟩) <| mi_fc1 (fun _ => ⟨qY2, _, _, rfl, rfl, rfl, qw350, rfl, rfl, rfl⟩) <| mi_fc1 (fun _ => ⟨qY128, _, _, rfl, rfl, rfl, qw1078, rfl, rfl, rfl⟩) <| mi_fc1 (fun _ => ⟨qY4, _, _, rfl, rfl, rfl, qw354, rfl, rfl, rfl⟩) <| mi_fc1 (fun _ => ⟨qY129, _, _, rfl, rfl, rfl, qw1082, rfl, rfl, rfl⟩) <| mi_fc1 (fun _ => ⟨qY5, _, _, rfl, rfl, rfl, qw358, rfl, rfl, rfl⟩) <| mi_fc1 (fun _ => ⟨qY130, _, _, rfl, rfl, rfl, qw1086, rfl, rfl, rfl⟩) <| mi_fc1 (fun _ => ⟨qY6, _, _, rfl, rfl, rfl, qw366, rfl, rfl, rfl⟩) <| mi_fc1 (fun _ => ⟨qY194, _, _, rfl, rfl, rfl, qw1332, rfl, rfl, rfl⟩) <| mi_fc1 (fun _ => ⟨qY12, _, _, rfl, rfl, rfl, qw609, rfl, rfl, rfl⟩) <| mi_fc1 (fun _ => ⟨qY196, _, _, rfl, rfl, rfl, qw1398, rfl, rfl, rfl⟩) <| mi_fc1 (fun _ => ⟨qY15, _, _, rfl, rfl, rfl, qw615, rfl, rfl, rfl⟩) <| mi_fc1 (fun _ => ⟨qY135, _, _, rfl, rfl, rfl, qw1098, rfl, rfl, rfl⟩) <| mi_fc1 (fun _ => ⟨qY16, _, _, rfl, rfl, rfl, qw622, rfl, rfl, rfl⟩) <| mi_fc1 (fun _ => ⟨qY136, _, _, rfl, rfl, rfl, qw1105, rfl, rfl, rfl⟩) <| mi_fc1 (fun _ => ⟨qY17, _, _, rfl, rfl, rfl, qw626, rfl, rfl, rfl⟩) <| mi_fc1 (fun _ => ⟨qY137, _, _, rfl, rfl, rfl, qw1109, rfl, rfl, rfl⟩) <| mi_fc1 (fun _ => ⟨qY18, _, _, rfl, rfl, rfl, qw637, rfl, rfl, rfl⟩) <| mi_fc1 (fun _ => ⟨qY138, _, _, rfl, rfl, rfl, qw1113, rfl, rfl, rfl⟩) <| mi_fc1 (fun _ => ⟨qY19, _, _, rfl, rfl, rfl, qw645, rfl, rfl, rfl⟩) <| mi_fc1 (fun _ => ⟨qY139, _, _, rfl, rfl, rfl, qw1117, rfl, rfl, rfl⟩) <| mi_fc1 (fun _ => ⟨qY20, _, _, rfl, rfl, rfl, qw649, rfl, rfl, rfl⟩) <| mi_fc1 (fun _ => ⟨qY140, _, _, rfl, rfl, rfl, qw1121, rfl, rfl, rfl⟩) <| mi_fc1 (fun _ => ⟨qY21, _, _, rfl, rfl, rfl, qw653, rfl, rfl, rfl⟩) <| mi_fc1 (fun _ => ⟨qY141, _, _, rfl, rfl, rfl, qw1125, rfl, rfl, rfl⟩) <| mi_fc1 (fun _ => ⟨qY22, _, _, rfl, rfl, rfl, qw658, rfl, rfl, rfl⟩) <| mi_fc1 (fun _ => ⟨qY154, _, _, rfl, rfl, rfl, qw1129, rfl, rfl, rfl⟩) <| mi_fc1 (fun _ => ⟨qY23, _, _, rfl, rfl, rfl, qw662, rfl, rfl, rfl⟩) <| mi_fc1 (fun _ => ⟨qY162, _, _, rfl, rfl, rfl, qw1181, rfl, rfl, rfl⟩) <| mi_fc1 (fun _ => ⟨qY24, _, _, rfl, rfl, rfl, qw666, rfl, rfl, rfl⟩) <| mi_fc1 (fun _ => ⟨qY163, _, _, rfl, rfl, rfl, qw1213, rfl, rfl, rfl⟩) <| mi_fc1 (fun _ => ⟨qY26, _, _, rfl, rfl, rfl, qw670, rfl, rfl, rfl⟩) <| mi_fc1 (fun _ => ⟨qY183, _, _, rfl, rfl, rfl, qw1221, rfl, rfl, rfl⟩) <| mi_fc1 (fun _ => ⟨qY27, _, _, rfl, rfl, rfl, qw926, rfl, rfl, rfl⟩) <| mi_fc1 (fun _ => ⟨qY184, _, _, rfl, rfl, rfl, qw1324, rfl, rfl, rfl⟩) <| mi_fc1 (fun _ => ⟨qY28, _, _, rfl, rfl, rfl, qw934, rfl, rfl, rfl⟩) <| mi_fc1 (fun _ => ⟨qY185, _, _, rfl, rfl, rfl, qw1328, rfl, rfl, rfl⟩) <| mi_fc1 (fun _ => ⟨qY29, _, _, rfl, rfl, rfl, qw939, rfl, rfl, rfl⟩) <| mi_fc1 (fun _ => ⟨qY132, _, _, rfl, rfl, rfl, qw1090, rfl, rfl, rfl⟩) <| mi_fc0
set_option maxRecDepth 100000 in
theorem qDL : mi_fa (mi_VL qTs qSR "AssertionGateLaw") (tbL.filter (fun z => mi_nl3 z.2.1)) := mi_fc0
set_option maxRecDepth 100000 in
theorem qEL : mi_fa (fun z => ¬ z.2.2.2.1 < 1000 → mi_VP qTs "AssertionGateLaw" z) (tbL.filter (fun z => mi_ni z.2.1)) := mi_fc1 (fun z => absurd (Nat.lt_of_lt_of_le (Nat.lt_succ_self _) (Nat.le_of_ble_eq_true rfl)) z) <| mi_fc1 (fun z => absurd (Nat.lt_of_lt_of_le (Nat.lt_succ_self _) (Nat.le_of_ble_eq_true rfl)) z) <| mi_fc1 (fun z => absurd (Nat.lt_of_lt_of_le (Nat.lt_succ_self _) (Nat.le_of_ble_eq_true rfl)) z) <| mi_fc1 (fun z => absurd (Nat.lt_of_lt_of_le (Nat.lt_succ_self _) (Nat.le_of_ble_eq_true rfl)) z) <| mi_fc1 (fun z => absurd (Nat.lt_of_lt_of_le (Nat.lt_succ_self _) (Nat.le_of_ble_eq_true rfl)) z) <| mi_fc1 (fun z => absurd (Nat.lt_of_lt_of_le (Nat.lt_succ_self _) (Nat.le_of_ble_eq_true rfl)) z) <| mi_fc1 (fun z => absurd (Nat.lt_of_lt_of_le (Nat.lt_succ_self _) (Nat.le_of_ble_eq_true rfl)) z) <| mi_fc1 (fun z => absurd (Nat.lt_of_lt_of_le (Nat.lt_succ_self _) (Nat.le_of_ble_eq_true rfl)) z) <| mi_fc1 (fun z => absurd (Nat.lt_of_lt_of_le (Nat.lt_succ_self _) (Nat.le_of_ble_eq_true rfl)) z) <| mi_fc1 (fun z => absurd (Nat.lt_of_lt_of_le (Nat.lt_succ_self _) (Nat.le_of_ble_eq_true rfl)) z) <| mi_fc1 (fun z => absurd (Nat.lt_of_lt_of_le (Nat.lt_succ_self _) (Nat.le_of_ble_eq_true rfl)) z) <| mi_fc1 (fun z => absurd (Nat.lt_of_lt_of_le (Nat.lt_succ_self _) (Nat.le_of_ble_eq_true rfl)) z) <| mi_fc1 (fun z => absurd (Nat.lt_of_lt_of_le (Nat.lt_succ_self _) (Nat.le_of_ble_eq_true rfl)) z) <| mi_fc1 (fun z => absurd (Nat.lt_of_lt_of_le (Nat.lt_succ_self _) (Nat.le_of_ble_eq_true rfl)) z) <| mi_fc1 (fun z => absurd (Nat.lt_of_lt_of_le (Nat.lt_succ_self _) (Nat.le_of_ble_eq_true rfl)) z) <| mi_fc1 (fun z => absurd (Nat.lt_of_lt_of_le (Nat.lt_succ_self _) (Nat.le_of_ble_eq_true rfl)) z) <| mi_fc1 (fun z => absurd (Nat.lt_of_lt_of_le (Nat.lt_succ_self _) (Nat.le_of_ble_eq_true rfl)) z) <| mi_fc1 (fun z => absurd (Nat.lt_of_lt_of_le (Nat.lt_succ_self _) (Nat.le_of_ble_eq_true rfl)) z) <| mi_fc1 (fun z => absurd (Nat.lt_of_lt_of_le (Nat.lt_succ_self _) (Nat.le_of_ble_eq_true rfl)) z) <| mi_fc1 (fun z => absurd (Nat.lt_of_lt_of_le (Nat.lt_succ_self _) (Nat.le_of_ble_eq_true rfl)) z) <| mi_fc1 (fun z => absurd (Nat.lt_of_lt_of_le (Nat.lt_succ_self _) (Nat.le_of_ble_eq_true rfl)) z) <| mi_fc1 (fun z => absurd (Nat.lt_of_lt_of_le (Nat.lt_succ_self _) (Nat.le_of_ble_eq_true rfl)) z) <| mi_fc1 (fun z => absurd (Nat.lt_of_lt_of_le (Nat.lt_succ_self _) (Nat.le_of_ble_eq_true rfl)) z) <| mi_fc1 (fun z => absurd (Nat.lt_of_lt_of_le (Nat.lt_succ_self _) (Nat.le_of_ble_eq_true rfl)) z) <| mi_fc1 (fun z => absurd (Nat.lt_of_lt_of_le (Nat.lt_succ_self _) (Nat.le_of_ble_eq_true rfl)) z) <| mi_fc1 (fun z => absurd (Nat.lt_of_lt_of_le (Nat.lt_succ_self _) (Nat.le_of_ble_eq_true rfl)) z) <| mi_fc1 (fun z => absurd (Nat.lt_of_lt_of_le (Nat.lt_succ_self _) (Nat.le_of_ble_eq_true rfl)) z) <| mi_fc1 (fun z => absurd (Nat.lt_of_lt_of_le (Nat.lt_succ_self _) (Nat.le_of_ble_eq_true rfl)) z) <| mi_fc1 (fun z => absurd (Nat.lt_of_lt_of_le (Nat.lt_succ_self _) (Nat.le_of_ble_eq_true rfl)) z) <| mi_fc1 (fun z => absurd (Nat.lt_of_lt_of_le (Nat.lt_succ_self _) (Nat.le_of_ble_eq_true rfl)) z) <| mi_fc1 (fun z => absurd (Nat.lt_of_lt_of_le (Nat.lt_succ_self _) (Nat.le_of_ble_eq_true rfl)) z) <| mi_fc1 (fun z => absurd (Nat.lt_of_lt_of_le (Nat.lt_succ_self _) (Nat.le_of_ble_eq_true rfl)) z) <| mi_fc1 (fun z => absurd (Nat.lt_of_lt_of_le (Nat.lt_succ_self _) (Nat.le_of_ble_eq_true rfl)) z) <| mi_fc1 (fun z => absurd (Nat.lt_of_lt_of_le (Nat.lt_succ_self _) (Nat.le_of_ble_eq_true rfl)) z) <| mi_fc1 (fun z => absurd (Nat.lt_of_lt_of_le (Nat.lt_succ_self _) (Nat.le_of_ble_eq_true rfl)) z) <| mi_fc1 (fun z => absurd (Nat.lt_of_lt_of_le (Nat.lt_succ_self _) (Nat.le_of_ble_eq_true rfl)) z) <| mi_fc1 (fun z => absurd (Nat.lt_of_lt_of_le (Nat.lt_succ_self _) (Nat.le_of_ble_eq_true rfl)) z) <| mi_fc1 (fun z => absurd (Nat.lt_of_lt_of_le (Nat.lt_succ_self _) (Nat.le_of_ble_eq_true rfl)) z) <| mi_fc1 (fun z => absurd (Nat.lt_of_lt_of_le (Nat.lt_succ_self _) (Nat.le_of_ble_eq_true rfl)) z) <| mi_fc1 (fun z => absurd (Nat.lt_of_lt_of_le (Nat.lt_succ_self _) (Nat.le_of_ble_eq_true rfl)) z) <| mi_fc1 (fun z => absurd (Nat.lt_of_lt_of_le (Nat.lt_succ_self _) (Nat.le_of_ble_eq_true rfl)) z) <| mi_fc1 (fun z => absurd (Nat.lt_of_lt_of_le (Nat.lt_succ_self _) (Nat.le_of_ble_eq_true rfl)) z) <| mi_fc1 (fun z => absurd (Nat.lt_of_lt_of_le (Nat.lt_succ_self _) (Nat.le_of_ble_eq_true rfl)) z) <| mi_fc1 (fun z => absurd (Nat.lt_of_lt_of_le (Nat.lt_succ_self _) (Nat.le_of_ble_eq_true rfl)) z) <| mi_fc1 (fun z => absurd (Nat.lt_of_lt_of_le (Nat.lt_succ_self _) (Nat.le_of_ble_eq_true rfl)) z) <| mi_fc1 (fun z => absurd (Nat.lt_of_lt_of_le (Nat.lt_succ_self _) (Nat.le_of_ble_eq_true rfl)) z) <| mi_fc0
theorem mi_sww_of {i : Instr} (h : mi_sww i = true) : ∃ d lo hi offs, i = .tableswitch d lo hi offs := by
  unfold mi_sww at h
  split at h
  · exact ⟨_, _, _, _, rfl⟩
  · cases h
theorem qVEL {args : Array Value} {s : State} (hts : ∀ w ∈ qTs, w.before args s = true) : mi_VE code "AssertionGateLaw" qCl s args false tbL := by
  intro pc x hl
  have hm := mi_lk_mem tbL pc x hl
  have hV2 : mi_V2 "AssertionGateLaw" qCl s args false x.1 x.2.2.1 x.2.2.2.1 := by
    cases hn : mi_nd x.1 with
    | true => exact mi_fa_mem _ (qBL hts) (pc, x) (List.mem_filter.mpr ⟨hm, hn⟩)
    | false =>
      unfold mi_V2
      split
      · rename_i hx; rw [hx] at hn; cases hn
      · rename_i hx; rw [hx] at hn; cases hn
      · rename_i hx; rw [hx] at hn; cases hn
      · rename_i hx; rw [hx] at hn; cases hn
      · trivial
  cases hs : mi_sww x.1 with
  | true =>
    obtain ⟨d, lo, hi, offs, he⟩ := mi_sww_of hs
    have h1 := List.all_eq_true.mp qAS _ (List.mem_filter.mpr ⟨hm, hs⟩)
    have h1 := of_decide_eq_true h1
    refine ⟨Or.inr ⟨d, lo, hi, offs, he, 95, h1⟩, Or.inr ⟨d, lo, hi, offs, he⟩, ?_, hV2⟩
    rw [he]
    trivial
  | false =>
    have h1 := List.all_eq_true.mp qAL _ (List.mem_filter.mpr ⟨hm, by rw [hs]; rfl⟩)
    unfold mi_A at h1
    rw [Bool.and_eq_true, Bool.and_eq_true, decide_eq_true_eq] at h1
    exact ⟨Or.inl h1.1, Or.inl (Nat.eq_of_beq_eq_true h1.2.1), mi_V1b_ok h1.2.2, hV2⟩
theorem qLPL (l : Launch) (D : va_G) (ct : Nat → ClassId) (base scr : Nat) (lit adV : Nat → Nat) (X : Nat × (Nat → Int32)) : mi_LP l qTs qCl D ct base scr lit X (mi_J qSR base lit adV) (mi_pr qL mi_cp1) "AssertionGateLaw" code tbL := by
  refine qLP_of (fun z hz hk => ?_) qDL qEL
  have hs : mi_sww z.2.1 = false := by
    cases hs : mi_sww z.2.1 with
    | false => rfl
    | true =>
      obtain ⟨d, lo, hi, offs, he⟩ := mi_sww_of hs
      rw [he] at hk
      rcases hk with hk | hk <;> cases hk
  have h1 := List.all_eq_true.mp qAL _ (List.mem_filter.mpr ⟨hz, by rw [hs]; rfl⟩)
  unfold mi_A at h1
  rw [Bool.and_eq_true, Bool.and_eq_true, decide_eq_true_eq] at h1
  exact ⟨h1.1, Nat.eq_of_beq_eq_true h1.2.1⟩
/-! What holds at the start. -/
def qNd (x : mX) : List Cond := [Jvm.Cond.exactly (.string x.1 x.2.1) "java/lang/String", .eq (.field (.string x.1 x.2.1) "java/lang/String" "coder" "B") (.int 0), .arrayOf (.field (.string x.1 x.2.1) "java/lang/String" "value" "[B") .byte, .eq (.length (.field (.string x.1 x.2.1) "java/lang/String" "value" "[B")) (.int (Int32.ofNat x.2.2.2.length))] ++ (List.range x.2.2.2.length).map (fun j => .eq (.elem (.field (.string x.1 x.2.1) "java/lang/String" "value" "[B") (.int (Int32.ofNat j))) (.int (x.2.2.2.getD j 0)))
def qFl : List Cond := flatC (Jvm.Cond.and given_1 narrow_1)
def qSs : List Nat := [9, 24, 35, 50, 60, 70, 89, 104, 110, 120, 131, 142, 157, 168, 211, 218, 236, 243, 257, 266, 277, 288, 302, 312, 318, 325, 333, 341, 349, 357, 365, 373, 381, 389, 396, 402, 409, 418, 425, 430, 437, 443, 450, 457, 465, 473, 479, 486, 493, 499, 507, 515, 521, 528, 536, 544, 552, 561, 571, 578, 587]
theorem qNs : ∀ q ∈ qSR.zip qSs, (qFl.drop q.2).take (qNd q.1).length = qNd q.1 := by decide +kernel
theorem qNin {i : Nat} {x : mX} (hx : qSR[i]? = some x) : ∀ c ∈ qNd x, c ∈ qFl := by
  have hlen : qSR.length = qSs.length := by decide
  have hi : i < qSR.length := (List.getElem?_eq_some_iff.mp hx).1
  have hz : (x, qSs[i]'(by omega)) ∈ qSR.zip qSs := by
    apply List.mem_of_getElem? (i := i)
    rw [List.getElem?_zip_eq_some]
    exact ⟨hx, List.getElem?_eq_getElem (by omega)⟩
  have h1 := qNs _ hz
  intro c hc
  rw [← h1] at hc
  exact List.mem_of_mem_drop (List.mem_of_mem_take hc)
theorem mi_Sof {args : Array Value} {s : State} {A : Nat → Prop} {x : mX} (hN : x.2.2.2.length < 2 ^ 31) (h : ∀ c ∈ qNd x, c.before args s = true) (hR : (Jvm.Cond.stringRef x.1 x.2.1 x.2.2.1).before args s = true) (hA : ∀ a : Nat, a < s.heap.size → ¬ A a) : ∃ a v, mi_Sx A x a v s := by
  have m0 := h (Jvm.Cond.exactly (.string x.1 x.2.1) "java/lang/String") (by simp [qNd])
  have m1 := h (.eq (.field (.string x.1 x.2.1) "java/lang/String" "coder" "B") (.int 0)) (by simp [qNd])
  have m2 := h (.arrayOf (.field (.string x.1 x.2.1) "java/lang/String" "value" "[B") .byte) (by simp [qNd])
  have m3 := h (.eq (.length (.field (.string x.1 x.2.1) "java/lang/String" "value" "[B")) (.int (Int32.ofNat x.2.2.2.length))) (by simp [qNd])
  have m4 : ∀ j, j < x.2.2.2.length → (Jvm.Cond.eq (.elem (.field (.string x.1 x.2.1) "java/lang/String" "value" "[B") (.int (Int32.ofNat j))) (.int (x.2.2.2.getD j 0))).before args s = true := fun j hj => h _ (List.mem_append_right _ (List.mem_map.mpr ⟨j, List.mem_range.mpr hj, rfl⟩))
  obtain ⟨a, c, cA, kA, q1, q2, q3, q4, q5, q6, -⟩ := Cond.exactly_spec (args := args) (first := s) (o := none) (s := s) (idx := []) (t := .string x.1 x.2.1) (cls := "java/lang/String") m0
  obtain ⟨t, ht, hT⟩ := va_Tof (f := fun j => .int (x.2.2.2.getD j 0)) (A := A) hN m2 (va_eqt m3) (fun j hj => va_eqt (m4 j hj)) hA
  exact ⟨a, t, vk_R.of hR q1, ⟨cA, q3, q5, by rw [q6]; exact q2, hA a (Array.getElem?_eq_some_iff.mp q3).1⟩, vk_OFof q1 (va_eqt m1) hA, vk_OFof q1 ht hA, hT⟩
theorem qSRin : ∀ x ∈ qSR, Jvm.Cond.stringRef x.1 x.2.1 x.2.2.1 ∈ lw_tbl := by decide +kernel
theorem qJ0 {args : Array Value} {s : State} (hts : ∀ w ∈ lw_tbl, w.before args s = true) (hg : (Jvm.Cond.and given_1 narrow_1).before args s = true) : ∃ lit adV, mi_J qSR s.heap.size lit adV s := by
  have hA : ∀ a : Nat, a < s.heap.size → ¬ (fun q => s.heap.size ≤ q) a := fun a h z => by
    have z : s.heap.size ≤ a := z
    omega
  have hf := flat_of_before _ hg
  have h0 : ∀ i : Nat, ∃ q : Nat × Nat, ∀ x, qSR[i]? = some x → mi_Sx (fun q => s.heap.size ≤ q) x q.1 q.2 s := by
    intro i
    cases hx : qSR[i]? with
    | none => exact ⟨(0, 0), fun x h => by cases h⟩
    | some x =>
      have hm := List.mem_of_getElem? hx
      obtain ⟨a, v, h⟩ := mi_Sof (A := fun q => s.heap.size ≤ q) (qLch x hm).1 (fun c hc => hf c (qNin hx c hc)) (hts _ (qSRin x hm)) hA
      exact ⟨(a, v), fun y hy => by cases hy; exact h⟩
  obtain ⟨f, hfc⟩ := Classical.axiomOfChoice h0
  refine ⟨fun i => (f i).1, fun i => (f i).2, fun i x hx => hfc i x hx, ?_, ?_⟩
  · exact va_Zof (hts _ (by decide +kernel)) (hts _ (by decide +kernel)) (va_eqt (hf _ (by decide +kernel))) hA
  · exact va_Zqof (hts _ (by decide +kernel)) (hts _ (by decide +kernel)) (hf _ (by decide +kernel)) hA
theorem qIn : ∀ (a : Nat) (C : String) (T : u_T) (N : Nat), qCl[a]? = some (C, T, N) → Jvm.Cond.instantiable C N ∈ qTs := by
  intro a C T N h
  match a, h with
  | 0, h =>
    have e : ((qR0, qT0, 14) : vw_C) = (C, T, N) := Option.some.inj h
    cases e
    exact qw20
  | 1, h =>
    have e : ((qR1, qT1, 2) : vw_C) = (C, T, N) := Option.some.inj h
    cases e
    exact qw28
  | 2, h =>
    have e : ((qR2, qT2, 12) : vw_C) = (C, T, N) := Option.some.inj h
    cases e
    exact qw45
  | 3, h =>
    have e : ((qR3, qT3, 4) : vw_C) = (C, T, N) := Option.some.inj h
    cases e
    exact qw105
  | 4, h =>
    have e : ((qR4, qT4, 4) : vw_C) = (C, T, N) := Option.some.inj h
    cases e
    exact qw124
  | 5, h =>
    have e : ((qR5, qT5, 4) : vw_C) = (C, T, N) := Option.some.inj h
    cases e
    exact qw143
  | 6, h =>
    have e : ((qR6, qT6, 5) : vw_C) = (C, T, N) := Option.some.inj h
    cases e
    exact qw166
  | 7, h =>
    have e : ((qR7, qT7, 3) : vw_C) = (C, T, N) := Option.some.inj h
    cases e
    exact qw189
  | 8, h =>
    have e : ((qR8, qT8, 4) : vw_C) = (C, T, N) := Option.some.inj h
    cases e
    exact qw195
  | 9, h =>
    have e : ((qR9, qT9, 11) : vw_C) = (C, T, N) := Option.some.inj h
    cases e
    exact qw228
  | 10, h =>
    have e : ((qR10, qT10, 4) : vw_C) = (C, T, N) := Option.some.inj h
    cases e
    exact qw277
  | 11, h =>
    have e : ((qR11, qT11, 36) : vw_C) = (C, T, N) := Option.some.inj h
    cases e
    exact qw951
  | a + 12, h => cases h
theorem qArr {args : Array Value} {s : State} {ty : FieldType} (h : (Jvm.Cond.arrayClass ty).before args s = true) (ho : ∀ C, ty ≠ .object C) : ∃ cA : ClassId, ArrOfT s cA ty ∧ va_RA s cA ty := by
  obtain ⟨cA, kA, comp, h1, h2, h3⟩ := Cond.arrayClass_spec h
  refine ⟨cA, fun n z => ⟨fun k h => (by cases h), kA, h2, comp, h3⟩, ?_⟩
  cases ty with
  | object C => exact absurd rfl (ho C)
  | _ => exact h1
theorem qK0 {args : Array Value} {s : State} (hts : ∀ w ∈ qTs, w.before args s = true) : ∃ (D : va_G) (ct : Nat → ClassId), va_K D qCl (mi_tys ct) s := by
  have h : ∀ a : Nat, ∃ q : ClassId × (Nat → Nat), ∀ r : vw_C, qCl[a]? = some r → u_Kn s r.1 r.2.1 r.2.2 q.1 q.2 := by
    intro a
    cases hr : qCl[a]? with
    | none => exact ⟨(0, fun _ => 0), fun r h => by cases h⟩
    | some r =>
      obtain ⟨C, T, N⟩ := r
      obtain ⟨-, -, -, -, hin⟩ := qSt a C T N hr
      obtain ⟨cC, iS, hk⟩ := u_known hts hin (hts _ (qIn a C T N hr))
      exact ⟨(cC, iS), fun r hr => by cases hr; exact hk⟩
  obtain ⟨f, hf⟩ := Classical.axiomOfChoice h
  obtain ⟨c0, a0, b0⟩ := qArr (hts _ qw103) (fun C h => by cases h)
  obtain ⟨c1, a1, b1⟩ := qArr (hts _ qw43) (fun C h => by cases h)
  obtain ⟨c2, a2, b2⟩ := qArr (hts _ qw187) (fun C h => by cases h)
  obtain ⟨c3, a3, b3⟩ := qArr (hts _ qw1065) (fun C h => by cases h)
  refine ⟨(fun a => (f a).1, fun a => (f a).2), fun t => match t with
    | 0 => c0
    | 1 => c1
    | 2 => c2
    | _ => c3, fun a r hr => hf a r hr, fun k q hk => ?_⟩
  match k, hk with
  | 0, hk => cases hk; exact ⟨a0, b0⟩
  | 1, hk => cases hk; exact ⟨a1, b1⟩
  | 2, hk => cases hk; exact ⟨a2, b2⟩
  | 3, hk => cases hk; exact ⟨a3, b3⟩
  | k + 4, hk => cases hk
set_option maxHeartbeats 4000000 in
/-- the law's walk out of the mini's -/
theorem qStart {p : Program} {e : Env} {s : State} {m : MethodId} {below : List Frame} {meth : Method} {c : Code} (l : Launch) {b L : Nat} {xs : Nat → Int32} (C0 : lw_At p s m meth c b L xs) {h' : mH} (hT : mi_T (mi_O1 qF (L, xs)) (mi_pr qL mi_cp1) qM 9 tbL (some .boolean) (0, mi_ent 4 [.ref 999], [], []) (some (.int 1), h')) (h1 : h'.length ≤ 600000) (h2 : mi_sl h' ≤ 7302250) : W p l e room_1 s m #[Value.ref b] below meth c s.heap [] 0 0 (lw_Z below #[Value.ref b] s) (entryFrame m ([Value.ref b] : List Value).toArray 4) := by
  obtain ⟨hx, hb, hr, hml, hown, hts0, hX, hbl, hlk, hg⟩ := C0
  have hts : ∀ w ∈ qTs, w.before #[Value.ref b] s = true := fun w hw => hts0 w (List.mem_filter.mp hw).1
  obtain ⟨lit, adV, hJ⟩ := qJ0 hts0 hg
  obtain ⟨D, ct, hK⟩ := qK0 hts
  obtain ⟨n, hT⟩ := hT
  have hM := mi_met (l := l) (D := D) (ct := ct) (scr := b) (X := (L, xs)) qGood qSt (mi_J_K (SR := qSR) (base := s.heap.size) (lit := lit) (adV := adV)) hbl qYA mi_pr_le (qLP_all l D ct s.heap.size b lit adV (L, xs)) 9
  obtain ⟨hldc, hprim⟩ := qLPL l D ct s.heap.size b lit adV (L, xs) p e room_1 s m #[Value.ref b] below meth c 4 [] hx hb hml hown hts hK hJ (Nat.le_refl _) (by decide) (by decide)
  have key := mi_body (p := p) (l := l) (ev := e) (R := room_1) (below := below) (nL := 4) (h0 := []) hx hb hown hts qSt hK hX hbl (show s.heap.size = s.heap.size + 0 from rfl) (ini := false) (fun z => by cases z) hr hlk (qVEL hts) mi_pr_le (mi_run_le mi_pr_le 9 n) hldc (mi_hcall qGood mi_J_K hbl qYA hM hx hb hml hown hts hK hX (Nat.le_refl _) hJ (by decide) (by decide) (fun pc x hl hk => by
      rcases (qVEL hts pc x hl).1 with h | ⟨d, lo, hi, offs, h, -⟩
      · exact h
      · rw [h] at hk; cases hk) (mi_VC_of qCL)) hprim (v := some (.int 1)) (h' := h') (show h'.length - 0 ≤ 600000 by omega) (show mi_sl h' - 0 ≤ 7302250 by omega) n _ hT mi_le.rf s.heap [] ⟨fun k q hk => (by cases hk), Nat.zero_le _⟩ va_S.rf _ (mi_ent_ok _ (Nat.le_of_ble_eq_true rfl))
  rw [lg_entry_eq]
  intro T hTh St
  obtain ⟨t, st, o, q1, q2, ⟨q3, q4, q5⟩, Lc, ⟨q6, q7, q8⟩, q9⟩ := key T hTh St
  refine ⟨t, st, o, q1, q2, q3, q6, q7, ?_⟩
  have q10 : s.sameButNew ({ t with vm := s.vm } : State) ([] ++ Lc) _ _ := q8
  exact (State.sameButNew.drop_fresh q10 q9).mono (by show h'.length - 0 ≤ 600000; omega) (by show mi_sl h' - 0 ≤ 7302250; omega)
