/-! Constants on the stack, and calls of the JDK's own methods: what the mini says of them, the machine does. -/
theorem mi_ad_lit {base scr : Nat} {lit : Nat → Nat} {i : Nat} : mi_ad base scr lit (1000 + i) = lit i := by
  have h1 : Nat.blt (1000 + i) 900 = false := by
    cases h : Nat.blt (1000 + i) 900 with
    | false => rfl
    | true => rw [Nat.blt_eq] at h; omega
  have h2 : Nat.beq (1000 + i) 999 = false := by
    cases h : Nat.beq (1000 + i) 999 with
    | false => rfl
    | true => have := Nat.eq_of_beq_eq_true h; omega
  unfold mi_ad
  rw [h1, h2]
  show lit (1000 + i - 1000) = lit i
  rw [Nat.add_sub_cancel_left]
section LDC
variable {p : Program} {l : Launch} {e : Env} {R : Room} {s : State} {m : MethodId} {args : Array Value} {below : List Frame} {meth : Method} {c : Code} {H : Heap} {locs : List Loc} {cells slots : Nat} {Q : State → Prop}
variable {cc : ByteArray} {pc : Nat} {ls : Array Slot} {rest : List Value}
theorem mi_ldcwS (hexec : p.tables.exec = Jvm.exec) (hb : c.code = cc) {own tx : String} {index q : Nat} (hown : s.vm.findClass own = some m.cls) (hZ : vk_R own index tx q s) (hdg : decode cc pc = .ok (.ldc_w index, 3))
    (k : W p l e R s m args below meth c H locs cells slots Q (F0 m (pc + 3) ls (.ref q :: rest))) : W p l e R s m args below meth c H locs cells slots Q (F0 m pc ls rest) := by
  intro T hT X
  obtain ⟨t, a1, b1⟩ := k T hT X
  refine ⟨t, ?_, b1⟩
  obtain ⟨k0, cf, i, a', hk, hcf, hcp, -, hr, hev'⟩ := Cond.stringRef_spec (args := #[]) hown hZ.1
  cases hZ.2.symm.trans hev'
  obtain ⟨k', hk', he⟩ := X.warmed.alike.2.2 _ _ hk
  have hr' : k'.resolved[index]? = some (some (.string q)) := by
    rcases X.warmed.entry hk hk' index with h | ⟨h, -⟩
    · rw [h]; exact hr
    · rw [hr] at h; cases h
  subst hb
  jvm_step X.here [hexec, hdg, ldc_w.wp_string (e := e) (s := T) (f := F0 m pc ls rest) X.here.top hk' (by rw [he]; exact hcf) hcp hr']
  exact a1
end LDC
def mi_VL (Ts : List Cond) (SR : List mX) (own : String) (z : Nat × mI) : Prop := match z.2.1 with
  | .ldc k => (∃ v, z.2.2.2.2.2.2 = .int v ∧ Jvm.Cond.constant own k v ∈ Ts) ∨ ∃ (i : Nat) (x : mX), SR[i]? = some x ∧ x.1 = own ∧ x.2.1 = k ∧ z.2.2.2.2.2.2 = .ref (1000 + i)
  | .ldc_w k => (∃ v, z.2.2.2.2.2.2 = .int v ∧ Jvm.Cond.constant own k v ∈ Ts) ∨ ∃ (i : Nat) (x : mX), SR[i]? = some x ∧ x.1 = own ∧ x.2.1 = k ∧ z.2.2.2.2.2.2 = .ref (1000 + i)
  | .ldc2_w k => ∃ v, z.2.2.2.2.2.2 = .long v ∧ Jvm.Cond.constantLong own k v ∈ Ts
  | _ => True
def mi_VP (Ts : List Cond) (own : String) (z : Nat × mI) : Prop := match z.2.1 with
  | .invokespecial k => z.2.2.2.1 = 1000 ∧ Jvm.Cond.methodLink own k Lib.objectInit ∈ Ts
  | .invokestatic k => (z.2.2.2.1 = 1001 ∧ Jvm.Cond.methodLink own k Lib.Math.min.name ∈ Ts) ∨ (z.2.2.2.1 = 1002 ∧ Jvm.Cond.methodLink own k arraycopyName ∈ Ts)
  | .invokevirtual k => (z.2.2.2.1 = 1003 ∧ Jvm.Cond.methodLink own k yS_length ∈ Ts) ∨ (z.2.2.2.1 = 1004 ∧ Jvm.Cond.methodLink own k yS_charAt ∈ Ts)
  | _ => True
def mi_nl3 : Instr → Bool
  | .ldc _ => true
  | .ldc_w _ => true
  | .ldc2_w _ => true
  | _ => false
theorem mi_cat_sum (ad : Nat → Nat) (r : List Value) (h : mi_cats r ≤ 8) : ((r.map (mi_v ad)).map fun v => v.category).sum ≤ 8 := by rw [mi_cats_eq]; exact h
theorem qLch : ∀ x ∈ qSR, x.2.2.2.length < 2 ^ 31 ∧ ∀ c ∈ x.2.2.2, ((c &&& 255).toUInt32 % 65536).toInt32 = c ∧ narrow .char (.int c) = .int c := by decide +kernel
theorem qL_eq : qL = qSR.map (fun x => x.2.2.2) := by decide +kernel
theorem qL_at {a : Nat} {t : List Int32} (h : mi_lit qL a = some t) : ∃ (i : Nat) (x : mX), qSR[i]? = some x ∧ a = 1000 + i ∧ t = x.2.2.2 := by
  unfold mi_lit at h
  cases hb : Nat.ble 1000 a with
  | false => rw [hb] at h; cases h
  | true =>
    rw [hb] at h
    rw [Nat.ble_eq] at hb
    dsimp only [cond_true] at h
    rw [qL_eq, List.getElem?_map] at h
    cases hx : qSR[a - 1000]? with
    | none => rw [hx] at h; cases h
    | some x => rw [hx] at h; cases h; exact ⟨a - 1000, x, hx, by omega, rfl⟩
theorem mi_nat_beq {a b : Nat} (h : a ≠ b) : Nat.beq a b = false := by
  cases hb : Nat.beq a b with
  | false => rfl
  | true => exact absurd (Nat.eq_of_beq_eq_true hb) h
section LP
variable {l : Launch} {D : va_G} {ct : Nat → ClassId} {base scr : Nat} {lit adV : Nat → Nat} {X : Nat × (Nat → Int32)}
set_option maxHeartbeats 4000000 in
theorem qLP_of {own : String} {cc : ByteArray} {tb : mB} (hA : ∀ z ∈ tb, mi_kd z.2.1 = (true, false) ∨ mi_nl3 z.2.1 = true → decode cc z.1 = .ok (z.2.1, mi_len z.2.1) ∧ z.2.2.1 = z.1 + mi_len z.2.1) (hVL : mi_fa (mi_VL qTs qSR own) (tb.filter (fun z => mi_nl3 z.2.1))) (hVP : mi_fa (fun z => ¬ z.2.2.2.1 < 1000 → mi_VP qTs own z) (tb.filter (fun z => mi_ni z.2.1))) : mi_LP l qTs qCl D ct base scr lit X (mi_J qSR base lit adV) (mi_pr qL mi_cp1) own cc tb := by
  intro p ev R s m args below meth c nL h0 hexec hb hml hown hts hK hJ hbs hRf hRl
  refine ⟨?_, ?_⟩
  · intro pc q hl hq H locs cells slots Q lr rest k
    have hm := mi_lk_mem tb pc q hl
    obtain ⟨qi, qn, qa, qb, qc, qw⟩ := q
    dsimp only at hq k
    have hn3 : mi_nl3 qi = true := by
      obtain ⟨k, rfl | rfl | rfl⟩ := hq <;> rfl
    obtain ⟨V, hnx⟩ := hA _ hm (Or.inr hn3)
    dsimp only at V hnx
    subst hnx
    have hv := mi_fa_mem _ hVL _ (List.mem_filter.mpr ⟨hm, hn3⟩)
    unfold mi_VL at hv
    dsimp only at hv
    obtain ⟨kk, rfl | rfl | rfl⟩ := hq
    · dsimp only at hv
      rcases hv with ⟨v, rfl, hw⟩ | ⟨i, x, hx, h1, h2, rfl⟩
      · exact lv_ldc hexec hb hown (hts _ hw) V k
      · subst h1; subst h2
        rw [show mi_v (mi_ad base scr lit) (.ref (1000 + i)) = .ref (lit i) from congrArg Value.ref mi_ad_lit] at k
        exact va_ldcS hexec hb hown (hJ.1 i x hx).1 V k
    · dsimp only at hv
      rcases hv with ⟨v, rfl, hw⟩ | ⟨i, x, hx, h1, h2, rfl⟩
      · exact lv_ldcw hexec hb hown (hts _ hw) V k
      · subst h1; subst h2
        rw [show mi_v (mi_ad base scr lit) (.ref (1000 + i)) = .ref (lit i) from congrArg Value.ref mi_ad_lit] at k
        exact mi_ldcwS hexec hb hown (hJ.1 i x hx).1 V k
    · dsimp only at hv
      obtain ⟨v, rfl, hw⟩ := hv
      exact lv_ldc2 hexec hb hown (hts _ hw) V k
  · intro pc q hl hk hge Q ls as rest h v h1 hpr hal hcats hRc hRs k
    have hm := mi_lk_mem tb pc q hl
    obtain ⟨qi, qn, qa, qb, qc, qw⟩ := q
    dsimp only at hk hge hpr hal k
    obtain ⟨V, hnx⟩ := hA _ hm (Or.inl hk)
    dsimp only at V hnx
    have hni : mi_ni qi = true := by
      unfold mi_kd at hk
      split at hk <;> first | rfl | cases hk
    have hv := mi_fa_mem _ hVP _ (List.mem_filter.mpr ⟨hm, hni⟩) hge
    unfold mi_VP at hv
    dsimp only at hv
    have hb1 : ∀ lr : Array Slot, mi_lh (mi_ad base scr lit) lr nL ls → c.maxLocals = lr.size := fun lr hlr => hml.trans hlr.1.symm
    subst hnx
    cases qi with
    | invokespecial kk =>
      dsimp only at hv
      obtain ⟨rfl, hw⟩ := hv
      simp only [mi_pr, Nat.beq_refl, cond_true] at hpr
      split at hpr
      · cases hpr
        intro H locs hwd hS lr hlr
        exact W.objInit (rest := rest.map (mi_v (mi_ad base scr lit))) hexec hb hown (hts _ hw) (hts _ qw25) (hts _ qw26) rfl (hb1 lr hlr).symm rfl V (by omega) (by show 2 * 0 + _ + 12 ≤ _; have := mi_cat_sum (mi_ad base scr lit) rest hcats; omega) (k H locs hwd hS lr hlr)
      · cases hpr
    | invokestatic kk =>
      dsimp only at hv
      rcases hv with ⟨rfl, hw⟩ | ⟨rfl, hw⟩
      · simp only [mi_pr, mi_nat_beq (show (1001 : Nat) ≠ 1000 by decide), Nat.beq_refl, cond_true, cond_false] at hpr
        split at hpr
        · cases hpr
          intro H locs hwd hS lr hlr
          exact va_mmin (rest := rest.map (mi_v (mi_ad base scr lit))) hexec hb (hb1 lr hlr) hown (hts _ hw) (hts _ qw535) (hts _ qw17) (hts _ qw536) (by omega) (by have := mi_cat_sum (mi_ad base scr lit) rest hcats; omega) hRc hRs V (k H locs hwd hS lr hlr)
        · cases hpr
      · simp only [mi_pr, mi_nat_beq (show (1002 : Nat) ≠ 1000 by decide), mi_nat_beq (show (1002 : Nat) ≠ 1001 by decide), Nat.beq_refl, cond_true, cond_false] at hpr
        split at hpr
        · rename_i a0 sp b0 dp n
          split at hpr
          · rename_i h2 hcp
            cases hpr
            obtain ⟨n0, f, n1, g, ha0, ha1, hq, hf, rfl⟩ := mi_cp_inv hcp
            unfold mi_cq at hq
            simp only [Bool.and_eq_true, Nat.ble_eq, Bool.not_eq_true', decide_eq_false_iff_not] at hq
            obtain ⟨q1, q2, q3, q4, q5⟩ := hq
            have hfit : ∀ i, i < n.toNatClampNeg → fits .char (.int (f (sp.toNatClampNeg + i))) = true := fun i hi => List.all_eq_true.mp hf i (List.mem_range.mpr hi)
            intro H locs hwd hS lr hlr
            refine va_copyi (rest := rest.map (mi_v (mi_ad base scr lit))) hexec hb (hb1 lr hlr) hown (hts _ hw) (hts _ qw636) (hts _ qw635) (hts _ qw18) hK hwd.1 (mi_D hwd.2) hS a0 b0 1 1 (mi_ws_get ha0) (mi_ws_get ha1) rfl rfl rfl q1 q2 q3 q4 q5 hfit (by omega) (by have := mi_cat_sum (mi_ad base scr lit) rest hcats; have h9 : nativeFrameWords "java/lang/System" "arraycopy" 5 + 11 ≤ 100 := (by decide); omega) V (fun H1 locs1 hP1 _ hS1 => ?_)
            have := k H1 locs1 (mi_Wd.set (x := .inl (1, n1, .inl (va_cpy f g sp.toNatClampNeg dp.toNatClampNeg n.toNatClampNeg))) (by exact hP1) hwd.2) hS1 lr hlr
            dsimp only at this
            rw [List.length_set, mi_sl_set h b0 (.inl (1, n1, .inl (va_cpy f g sp.toNatClampNeg dp.toNatClampNeg n.toNatClampNeg))) _ ha1 rfl] at this
            exact this
          · cases hpr
        · cases hpr
    | invokevirtual kk =>
      dsimp only at hv
      have hJU : ∀ {H : Heap} {locs : List Loc} {av : List Value}, va_S (fun q => base ≤ q) s.heap H locs → ∀ U : State, U.heap = H → s.WarmedH U.vm → va_Pc av (mi_J qSR base lit adV) av.toArray U := fun hS U hU hW => ⟨rfl, mi_J_K.2 s U hJ hW (by rw [hU]; exact hS.1) (fun q q1 q2 => by rw [hU]; exact hS.2.1 q q1 q2)⟩
      rcases hv with ⟨rfl, hw⟩ | ⟨rfl, hw⟩
      · simp only [mi_pr, mi_nat_beq (show (1003 : Nat) ≠ 1000 by decide), mi_nat_beq (show (1003 : Nat) ≠ 1001 by decide), mi_nat_beq (show (1003 : Nat) ≠ 1002 by decide), Nat.beq_refl, cond_true, cond_false] at hpr
        split at hpr
        · split at hpr
          · rename_i t ht
            cases hpr
            obtain ⟨i, x, hx, rfl, rfl⟩ := qL_at ht
            intro H locs hwd hS lr hlr
            obtain ⟨cell, g1, g2, g3, -⟩ := (hJ.1 i x hx).2.1.kept hS.2.1
            have had : mi_v (mi_ad base scr lit) (.ref (1000 + i)) = .ref (lit i) := congrArg Value.ref mi_ad_lit
            show W p l ev R s m args below meth c H locs _ _ Q (F0 m pc lr (mi_v (mi_ad base scr lit) (.ref (1000 + i)) :: rest.map (mi_v (mi_ad base scr lit))))
            rw [had]
            exact W.callR (W.runV (C := "java/lang/String") (b := lit i) (As := []) (rest := rest.map (mi_v (mi_ad base scr lit))) ⟨hexec, hb, hml, hown, hts⟩ (qj_length hx) ⟨callB_of 0 hts (mi_goodC qw393) rfl rfl rfl (hts _ qw13) (hts _ hw) (by decide +kernel) ⟨by show 1 + 1 ≤ _; omega, by show 8 + (1 + 11) + 20 ≤ _; omega⟩, hts _ qw391, hts _ qw392⟩ ⟨mi_J_blind, ⟨cell, g1, g2, g3⟩, hJU hS⟩ rfl rfl hlr.1 rfl (by show 2 * 0 + _ ≤ 8; have := mi_cat_sum (mi_ad base scr lit) rest hcats; omega) V ⟨hRc, hRs⟩) (k H locs hwd hS lr hlr)
          · cases hpr
        · cases hpr
      · simp only [mi_pr, mi_nat_beq (show (1004 : Nat) ≠ 1000 by decide), mi_nat_beq (show (1004 : Nat) ≠ 1001 by decide), mi_nat_beq (show (1004 : Nat) ≠ 1002 by decide), mi_nat_beq (show (1004 : Nat) ≠ 1003 by decide), Nat.beq_refl, cond_true, cond_false] at hpr
        split at hpr
        · split at hpr
          · rename_i kx _ t ht
            cases hin : mi_in kx t.length with
            | false => rw [hin] at hpr; cases hpr
            | true =>
              rw [hin] at hpr
              cases hpr
              obtain ⟨i, x, hx, rfl, rfl⟩ := qL_at ht
              intro H locs hwd hS lr hlr
              obtain ⟨cell, g1, g2, g3, -⟩ := (hJ.1 i x hx).2.1.kept hS.2.1
              have had : mi_v (mi_ad base scr lit) (.ref (1000 + i)) = .ref (lit i) := congrArg Value.ref mi_ad_lit
              obtain ⟨hN, hch⟩ := qLch x (List.mem_of_getElem? hx)
              show W p l ev R s m args below meth c H locs _ _ Q (F0 m pc lr (.int kx :: mi_v (mi_ad base scr lit) (.ref (1000 + i)) :: rest.map (mi_v (mi_ad base scr lit))))
              rw [had]
              exact W.callR (W.runV (C := "java/lang/String") (b := lit i) (As := [.int kx]) (rest := rest.map (mi_v (mi_ad base scr lit))) ⟨hexec, hb, hml, hown, hts⟩ (qj_charAt hx hin hN hch) ⟨callB_of 1 hts (mi_goodC qw403) rfl rfl rfl (hts _ qw13) (hts _ hw) (by decide +kernel) ⟨by show 3 + 1 ≤ _; omega, by show 8 + (2 + 11) + 64 ≤ _; omega⟩, hts _ qw401, hts _ qw402⟩ ⟨mi_J_blind, ⟨cell, g1, g2, g3⟩, hJU hS⟩ rfl rfl hlr.1 rfl (by show 2 * 0 + _ ≤ 8; have := mi_cat_sum (mi_ad base scr lit) rest hcats; omega) V ⟨hRc, hRs⟩) (k H locs hwd hS lr hlr)
          · cases hpr
        · cases hpr
    | _ => cases hk
end LP
