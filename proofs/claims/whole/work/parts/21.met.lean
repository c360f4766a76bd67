/-! A method's contract out of the mini's run, for every method of the table. -/
def mi_rm (d mc ms : Nat) : Room := { frames := d + 4, cells := mc, slots := ms, locals := 40 * d + 136 }
def mi_Pc (D : va_G) (cl : List vw_C) (ct : Nat → ClassId) (base scr : Nat) (lit : Nat → Nat) (X : Nat × (Nat → Int32)) (J : State → Prop) (as : List Value) (h : mH) : Array Value → State → Prop := va_Pc (as.map (mi_v (mi_ad base scr lit))) (fun U => mi_Wd D cl ct (mi_ad base scr lit) h U.heap ∧ U.heap.size = base + h.length ∧ va_K D cl (mi_tys ct) U ∧ va_X scr X.1 X.2 U U.heap ∧ J U)
theorem mi_fl_at (ad : Nat → Nat) : ∀ (as : List Value) (i : Nat) (v : Value), (mi_fl as)[i]? = some (some v) → (lg_sl (as.map (mi_v ad)))[i]? = some (Slot.val (mi_v ad v)) := by
  intro as
  induction as with
  | nil => intro i v e; simp [mi_fl] at e
  | cons u r ih =>
    intro i v e
    unfold mi_fl at e
    cases hb : Nat.beq u.category 2 with
    | true =>
      rw [hb] at e
      have hc : (mi_v ad u).category = 2 := by rw [mi_cat]; exact Nat.eq_of_beq_eq_true hb
      have hs : lg_sl ((u :: r).map (mi_v ad)) = Slot.val (mi_v ad u) :: Slot.second :: lg_sl (r.map (mi_v ad)) := by simp [lg_sl, hc]
      rw [hs]
      match i with
      | 0 => simp at e; rw [← e]; rfl
      | 1 => simp at e
      | i + 2 => simp only [cond_true, List.getElem?_cons_succ] at e ⊢; exact ih i v e
    | false =>
      rw [hb] at e
      have hc : ¬ (mi_v ad u).category = 2 := by
        rw [mi_cat]
        intro z
        rw [z] at hb
        cases hb
      have hs : lg_sl ((u :: r).map (mi_v ad)) = Slot.val (mi_v ad u) :: lg_sl (r.map (mi_v ad)) := by simp [lg_sl, hc]
      rw [hs]
      match i with
      | 0 => simp at e; rw [← e]; rfl
      | i + 1 => simp only [cond_false, List.getElem?_cons_succ] at e ⊢; exact ih i v e
theorem mi_fl_len (ad : Nat → Nat) : ∀ as : List Value, (lg_sl (as.map (mi_v ad))).length = (mi_fl as).length := by
  intro as
  induction as with
  | nil => rfl
  | cons u r ih =>
    unfold mi_fl
    cases hb : Nat.beq u.category 2 with
    | true =>
      have hc : (mi_v ad u).category = 2 := by rw [mi_cat]; exact Nat.eq_of_beq_eq_true hb
      have hs : lg_sl ((u :: r).map (mi_v ad)) = Slot.val (mi_v ad u) :: Slot.second :: lg_sl (r.map (mi_v ad)) := by simp [lg_sl, hc]
      rw [hs]
      simp [ih]
    | false =>
      have hc : ¬ (mi_v ad u).category = 2 := by
        rw [mi_cat]
        intro z
        rw [z] at hb
        cases hb
      have hs : lg_sl ((u :: r).map (mi_v ad)) = Slot.val (mi_v ad u) :: lg_sl (r.map (mi_v ad)) := by simp [lg_sl, hc]
      rw [hs]
      simp [ih]
theorem mi_ent_ok (ad : Nat → Nat) {nL : Nat} {as : List Value} (hn : (mi_fl as).length ≤ nL) : mi_lh ad ((lg_sl (as.map (mi_v ad)) ++ List.replicate (nL - (lg_sl (as.map (mi_v ad))).length) Slot.unset).toArray) nL (mi_ent nL as) := by
  have h0 := lv_entry (as.map (mi_v ad)) (n := nL) (by rw [mi_fl_len]; exact hn)
  refine ⟨h0.1, h0.2.1, ?_, fun i v e => ?_⟩
  · unfold mi_ent
    rw [List.length_append, List.length_replicate]
    omega
  · unfold mi_ent at e
    by_cases hi : i < (mi_fl as).length
    · rw [List.getElem?_append_left hi] at e
      have h1 := mi_fl_at ad as i v e
      simp only [List.getElem?_toArray]
      rw [List.getElem?_append_left (by rw [mi_fl_len]; exact hi)]
      exact h1
    · rw [List.getElem?_append_right (by omega)] at e
      have := List.eq_of_mem_replicate (List.mem_of_getElem? e)
      cases this
section MET
variable {l : Launch} {Ts : List Cond} {Y : List mY} {M : List mM} {cl : List vw_C} {F : List (List Nat)} {X : Nat × (Nat → Int32)} {PR : Nat → List Value → mH → Option (mA mH)} {D : va_G} {ct : Nat → ClassId} {base scr : Nat} {lit : Nat → Nat} {J : State → Prop}
/-- what J must keep -/
def mi_JK (base : Nat) (J : State → Prop) : Prop := (∀ (U : State) (g : JFrame) (mk : MethodId) (a : Array Value), J U → J (U.calling g mk a)) ∧ ∀ s U : State, J s → s.WarmedH U.vm → s.heap.size ≤ U.heap.size → (∀ q, q < s.heap.size → ¬ base ≤ q → U.heap[q]? = s.heap[q]?) → J U
/-- a body's methods: words, entries, calls -/
def mi_YA (Ts : List Cond) (Y : List mY) (M : List mM) (cl : List vw_C) : Prop := ∀ (j : Nat) (q : mM), M[j]? = some q → ∃ y : mY, Y[j]? = some y ∧ mi_YF Ts q y ∧ (∀ (args : Array Value) (s : State), (∀ w ∈ Ts, w.before args s = true) → mi_VE y.2.1 y.1.cls cl s args (Nat.beq y.2.2.2 2) q.1) ∧ ∀ (pc : Nat) (x : mI), mi_lk q.1 pc = some x → mi_kd x.1 = (true, false) → x.2.2.1 < 1000 → mi_VC Ts y.1.cls Y cl x
/-- constants, and what the JDK's own methods do -/
def mi_LP (l : Launch) (Ts : List Cond) (cl : List vw_C) (D : va_G) (ct : Nat → ClassId) (base scr : Nat) (lit : Nat → Nat) (X : Nat × (Nat → Int32)) (J : State → Prop) (PR : Nat → List Value → mH → Option (mA mH)) (own : String) (cc : ByteArray) (tb : mB) : Prop :=
  ∀ (p : Program) (ev : Env) (R : Room) (s : State) (m : MethodId) (args : Array Value) (below : List Frame) (meth : Method) (c : Code) (nL : Nat) (h0 : mH), p.tables.exec = Jvm.exec → c.code = cc → c.maxLocals = nL → s.vm.findClass own = some m.cls → (∀ w ∈ Ts, w.before args s = true) → va_K D cl (mi_tys ct) s → J s → base ≤ s.heap.size → 4 ≤ R.frames → 136 ≤ R.locals →
  (∀ (pc : Nat) (q : mI), mi_lk tb pc = some q → (∃ k, q.1 = .ldc k ∨ q.1 = .ldc_w k ∨ q.1 = .ldc2_w k) → ∀ (H : Heap) (locs : List Loc) (cells slots : Nat) (Q : State → Prop) (lr : Array Slot) (rest : List Value), W p l ev R s m args below meth c H locs cells slots Q (F0 m q.2.1 lr (mi_v (mi_ad base scr lit) q.2.2.2.2.2 :: rest)) → W p l ev R s m args below meth c H locs cells slots Q (F0 m pc lr rest)) ∧
  (∀ (pc : Nat) (q : mI), mi_lk tb pc = some q → mi_kd q.1 = (true, false) → ¬ q.2.2.1 < 1000 → ∀ (Q : State → Prop) (ls : mL) (as rest : List Value) (h : mH) (v : Option Value) (h1 : mH), PR q.2.2.1 as h = some (v, h1) → as.length = q.2.2.2.1 → mi_cats rest ≤ 8 → h.length - h0.length ≤ R.cells → mi_sl h - mi_sl h0 ≤ R.slots → mi_Wm p l ev R s m args below meth c Q nL D cl ct base scr lit h0 (q.2.1, ls, v.toList ++ rest, h1) → mi_Wm p l ev R s m args below meth c Q nL D cl ct base scr lit h0 (pc, ls, as.reverse ++ rest, h))
theorem mi_blind {as : List Value} {h : mH} (hJ : mi_JK base J) : FrameBlind (mi_Pc D cl ct base scr lit X J as h) := by
  intro a U g mk q
  obtain ⟨q0, q1, q2, q3, q4, q5⟩ := q
  exact ⟨q0, q1, q2, va_K.moved (u := U) (U := U.calling g mk a) (Vm.Alike.refl U.vm) q3, va_X.moved (u := U) (U := U.calling g mk a) (Vm.Alike.refl U.vm) q4, hJ.1 U g mk a q5⟩
/-- contracts of all methods at a depth -/
def mi_MD (l : Launch) (Ts : List Cond) (Y : List mY) (M : List mM) (cl : List vw_C) (F : List (List Nat)) (X : Nat × (Nat → Int32)) (PR : Nat → List Value → mH → Option (mA mH)) (D : va_G) (ct : Nat → ClassId) (base scr : Nat) (lit : Nat → Nat) (J : State → Prop) (d : Nat) : Prop := ∀ (n j : Nat) (as : List Value) (h : mH) (v : Option Value) (h1 : mH), mi_run (mi_O1 F X) PR M d n j as h = some (v, h1) → ∀ (q : mM) (y : mY), M[j]? = some q → Y[j]? = some y → Met l y.1 (Jvm.Cond.code y.1 y.2.1 q.2.1 q.2.2 :: Ts) (mi_rm d (h1.length - h.length) (mi_sl h1 - mi_sl h)) (mi_Pc D cl ct base scr lit X J as h) (mi_Qc D cl ct (mi_ad base scr lit) base v h1) (h1.length - h.length) (mi_sl h1 - mi_sl h) (fun q => base ≤ q)
set_option maxHeartbeats 4000000 in
/-- a call: the callee's contract at its place -/
theorem mi_hcall (hG : GoodIn Ts Ts) (hJ : mi_JK base J) (hsc : scr < base) (hYA : mi_YA Ts Y M cl) {d n : Nat} (ih : mi_MD l Ts Y M cl F X PR D ct base scr lit J d) {p : Program} {ev : Env} {R : Room} {s : State} {m : MethodId} {args : Array Value} {below : List Frame} {meth : Method} {c : Code} {nL : Nat} {own : String} {cc : ByteArray} {tb : mB} (hx : p.tables.exec = Jvm.exec) (hb : c.code = cc) (hml : c.maxLocals = nL) (hown : s.vm.findClass own = some m.cls) (hts : ∀ w ∈ Ts, w.before args s = true) (hK : va_K D cl (mi_tys ct) s) (hX : va_X scr X.1 X.2 s s.heap) (hbs : base ≤ s.heap.size) (hJs : J s) (hRf : d + 5 ≤ R.frames) (hRl : 40 * d + 175 ≤ R.locals)
    (hV : ∀ (pc : Nat) (x : mI), mi_lk tb pc = some x → mi_kd x.1 = (true, false) → decode cc pc = .ok (x.1, mi_len x.1)) (hVC : ∀ (pc : Nat) (x : mI), mi_lk tb pc = some x → mi_kd x.1 = (true, false) → x.2.2.1 < 1000 → mi_VC Ts own Y cl x) :
    ∀ (pc : Nat) (q : mI), mi_lk tb pc = some q → mi_kd q.1 = (true, false) → q.2.2.1 < 1000 → ∀ (as rest : List Value) (h : mH) (v : Option Value) (h1 : mH), mi_run (mi_O1 F X) PR M d n q.2.2.1 as h = some (v, h1) → mi_rc (mi_O1 F X) q.2.2.2.2.1 as h = true → as.length = q.2.2.2.1 → mi_cats rest ≤ 8 → ∀ (lr : Array Slot) (H : Heap) (locs : List Loc) (cells slots : Nat), lr.size = nL → mi_Wd D cl ct (mi_ad base scr lit) h H → H.size = base + h.length → va_S (fun q => base ≤ q) s.heap H locs → cells + (h1.length - h.length) ≤ R.cells → slots + (mi_sl h1 - mi_sl h) ≤ R.slots →
      va_Run p l ev R s m args below meth c H locs cells slots (h1.length - h.length) (mi_sl h1 - mi_sl h) (F0 m pc lr ((as.reverse ++ rest).map (mi_v (mi_ad base scr lit)))) (rest.map (mi_v (mi_ad base scr lit))) (mi_Qc D cl ct (mi_ad base scr lit) base v h1 #[]) (fun q => base ≤ q) := by
  intro pc x hl hk hlt As rest g v1 g1 hc hrc hal hcats lr H locs cells slots hlr hwg hszg hS hc1 hc2
  have hcall := hVC pc x hl hk hlt
  have hq2 : ∃ q2, M[x.2.2.1]? = some q2 := by
    cases d with
    | zero => cases hc
    | succ d =>
      unfold mi_run at hc
      cases hq2 : M[x.2.2.1]? with
      | none => rw [hq2] at hc; cases hc
      | some q2 => exact ⟨q2, rfl⟩
  obtain ⟨q2, hq2⟩ := hq2
  obtain ⟨y2, hy2, hYF2, -, -⟩ := hYA _ q2 hq2
  have hM2 := ih n _ As g v1 g1 hc q2 y2 hq2 hy2
  have hwW : 2 * (F0 m pc lr ((As.reverse ++ rest).map (mi_v (mi_ad base scr lit)))).monitorRoom + ((rest.map (mi_v (mi_ad base scr lit))).map fun v => v.category).sum ≤ 8 := by
    rw [mi_cats_eq]
    show 2 * 0 + mi_cats rest ≤ 8
    omega
  have hG2 : GoodIn Ts (Jvm.Cond.code y2.1 y2.2.1 q2.2.1 q2.2.2 :: Ts) := by
    intro w hw
    rcases List.mem_cons.mp hw with rfl | hw
    · exact hG _ hYF2.2.1
    · exact hG w hw
  have hCB : ∀ k, Jvm.Cond.methodLink own k y2.1 ∈ Ts → CallB R s args own k y2.1 y2.2.1 q2.2.1 q2.2.2 (Jvm.Cond.code y2.1 y2.2.1 q2.2.1 q2.2.2 :: Ts) (mi_rm d (g1.length - g.length) (mi_sl g1 - mi_sl g)) (g1.length - g.length) (mi_sl g1 - mi_sl g) y2.2.2.1 := by
    intro k hlk
    have h20 := hYF2.2.2.2.2.2.2.2
    exact callB_of y2.2.2.1 hts hG2 rfl rfl rfl (hts _ hYF2.2.2.1) (hts _ hlk) hYF2.2.2.2.1 ⟨by show d + 4 + 1 ≤ R.frames; omega, by show 8 + (q2.2.1 + 11) + (40 * d + 136) ≤ R.locals; omega⟩
  have hPre : ∀ U : State, U.heap = H → s.WarmedH U.vm → mi_Pc D cl ct base scr lit X J As g (As.map (mi_v (mi_ad base scr lit))).toArray U := by
    intro U hU hW
    refine ⟨rfl, by rw [hU]; exact hwg, by rw [hU]; exact hszg, va_K.moved hW.alike hK, ?_, hJ.2 s U hJs hW (by rw [hU]; exact hS.1) (fun z z1 z2 => by rw [hU]; exact hS.2.1 z z1 z2)⟩
    have := va_X.moved hW.alike hX
    exact this.kept (by rw [hU]; exact hS.2.1 scr (by omega) (by show ¬ base ≤ scr; omega))
  have V' := hV pc x hl hk
  obtain ⟨xi, xn, xa, xb, xc, xw⟩ := x
  dsimp only at hk hlt hc hrc hal hcall hq2 hy2 V' ⊢
  unfold mi_VC at hcall
  dsimp only at hcall
  cases xi with
  | invokevirtual k =>
    obtain ⟨y3, T, N, h3, h4, h5, h6, h7, h8, h9⟩ := hcall
    have : y3 = y2 := Option.some.inj (h3.symm.trans hy2)
    subst this
    unfold mi_rc at hrc
    rw [h8] at hrc
    dsimp only [cond_false] at hrc
    split at hrc
    · rename_i q0 As0
      have hq0 : ∃ fs, g[q0]? = some (.inr (xc, fs)) := by
        rw [h9] at hrc
        have hrc : mi_is1' xc q0 g = true := hrc
        unfold mi_is1' at hrc
        split at hrc
        · rename_i ci fs hq0
          have := Nat.eq_of_beq_eq_true hrc
          subst this
          exact ⟨fs, hq0⟩
        · cases hrc
      obtain ⟨fs, hq0⟩ := hq0
      exact va_runV (As := As0.map (mi_v (mi_ad base scr lit))) ⟨hx, hb, hml, hown, hts⟩ hM2 ⟨hCB k h6, hts _ (hYF2.2.2.2.2.2.1 h4).1, hts _ (hYF2.2.2.2.2.2.1 h4).2⟩ ⟨mi_blind hJ, va_recv hK hwg.1 h7 (mi_ws_get hq0), hPre⟩ rfl (by rw [List.length_map]; simp only [List.length_cons] at hal; omega) hlr (by simp [mi_v]) hwW V' ⟨hc1, hc2⟩
    · cases hrc
  | invokestatic k =>
    obtain ⟨y3, h3, h4, h5, h6⟩ := hcall
    have : y3 = y2 := Option.some.inj (h3.symm.trans hy2)
    subst this
    exact va_runS (As := As.map (mi_v (mi_ad base scr lit))) ⟨hx, hb, hml, hown, hts⟩ hM2 ⟨hCB k h6, hts _ (hYF2.2.2.2.2.1 h4)⟩ ⟨mi_blind hJ, hPre⟩ rfl (by rw [List.length_map]; omega) hlr (by simp) hwW V' ⟨hc1, hc2⟩
  | invokespecial k =>
    obtain ⟨y3, h3, h4, h5, h6, h8⟩ := hcall
    have : y3 = y2 := Option.some.inj (h3.symm.trans hy2)
    subst this
    obtain ⟨i1, i2, i3⟩ := hYF2.2.2.2.2.2.2.1 h4
    unfold mi_rc at hrc
    rw [h8] at hrc
    dsimp only [cond_false] at hrc
    split at hrc
    · rename_i q0 As0
      have hCB2 := hCB k h6
      rw [i3] at hCB2 hM2
      exact va_runI (As := As0.map (mi_v (mi_ad base scr lit))) ⟨hx, hb, hml, hown, hts⟩ hM2 ⟨hCB2, i2, hts _ i1⟩ ⟨mi_blind hJ, hPre⟩ rfl (by rw [List.length_map]; simp only [List.length_cons] at hal; omega) hlr (by simp [mi_v]) hwW V' ⟨hc1, hc2⟩
    · cases hrc
  | _ => cases hk
set_option maxHeartbeats 4000000 in
theorem mi_met (hG : GoodIn Ts Ts) (hSt : mi_St cl F Ts) (hJ : mi_JK base J) (hsc : scr < base) (hYA : mi_YA Ts Y M cl) (hpl : mi_cle PR) (hLP : ∀ (j : Nat) (q : mM) (y : mY), M[j]? = some q → Y[j]? = some y → mi_LP l Ts cl D ct base scr lit X J PR y.1.cls y.2.1 q.1) : ∀ d : Nat, mi_MD l Ts Y M cl F X PR D ct base scr lit J d := by
  intro d
  induction d with
  | zero => intro n j as h v h1 e; cases e
  | succ d ih =>
    intro n j as h v h1 e q y hq hy
    unfold mi_run at e
    rw [hq] at e
    dsimp only at e
    cases hbl : Nat.ble (mi_fl as).length q.2.1 with
    | false => rw [hbl] at e; cases e
    | true =>
      rw [hbl] at e
      dsimp only [cond_true] at e
      rw [Nat.ble_eq] at hbl
      obtain ⟨y', hy', hYF, hVE, hVC⟩ := hYA j q hq
      have : y' = y := Option.some.inj (hy'.symm.trans hy)
      subst this
      refine Met.ofW (cc := y'.2.1) (maxL := q.2.1) (ret := q.2.2) hYF.1 rfl ?_
      intro p ev s m args below meth c s₁ B hml hv
      obtain ⟨hargs, hw, hsz, hK, hX, hJs⟩ := hv
      subst hargs
      have hx := B.exec
      have hb := B.bytes
      have hr := B.returns
      have hts0 := atoms_spec (ws := Jvm.Cond.code y'.1 y'.2.1 q.2.1 q.2.2 :: Ts) B.pre
      have hts : ∀ w ∈ Ts, w.before (as.map (mi_v (mi_ad base scr lit))).toArray s = true := fun w hw => hts0 w (List.mem_cons_of_mem _ hw)
      have hown : s.vm.findClass y'.1.cls = some m.cls := findClass_of_methodNamed B.named
      have hlocks := B.notSynchronized
      have hini : Nat.beq y'.2.2.2 2 = true → meth.name = "<init>" := by
        intro z
        rw [← (hYF.2.2.2.2.2.2.1 (Nat.eq_of_beq_eq_true z)).2.1]
        exact (name_of_methodNamed B.named B.method).1
      obtain ⟨hldc, hprim⟩ := hLP j q y' hq hy' p ev (headSpec (Jvm.Cond.code y'.1 y'.2.1 q.2.1 q.2.2 :: Ts) (mi_rm (d + 1) (h1.length - h.length) (mi_sl h1 - mi_sl h))).room s m _ below meth c q.2.1 h hx hb hml hown hts hK hJs (by omega) (by show 4 ≤ d + 1 + 4; omega) (by show 136 ≤ 40 * (d + 1) + 136; omega)
      rw [lg_entry_eq]
      refine W.cs (cells' := h.length - h.length) (slots' := mi_sl h - mi_sl h) (by omega) (by omega) ?_
      refine mi_body (nL := q.2.1) (h0 := h) hx hb hown hts hSt hK hX hsc hsz hini hr hlocks (hVE _ s hts) hpl (mi_run_le hpl d n) hldc ?_ hprim (Nat.le_refl _) (Nat.le_refl _) n (0, mi_ent q.2.1 as, [], h) e mi_le.rf s.heap [] hw va_S.rf _ (mi_ent_ok _ hbl)
      exact mi_hcall hG hJ hsc hYA ih hx hb hml hown hts hK hX (by omega) hJs (by show d + 5 ≤ d + 1 + 4; omega) (by show 40 * d + 175 ≤ 40 * (d + 1) + 136; omega) (fun pc x hl hk => by
        rcases (hVE _ s hts pc x hl).1 with h | ⟨d, lo, hi, offs, h, -⟩
        · exact h
        · rw [h] at hk; cases hk) hVC
end MET
