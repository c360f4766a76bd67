/-! The machine does what the mini does: the instructions that look at cells, calls, returns; a whole body. -/
def mi_tys (ct : Nat → ClassId) : List (ClassId × FieldType) := [(ct 0, .int), (ct 1, .char), (ct 2, .boolean), (ct 3, .long)]
def mi_Wd (D : va_G) (cl : List vw_C) (ct : Nat → ClassId) (ad : Nat → Nat) (h : mH) (H : Heap) : Prop := va_P D cl (mi_ws ct ad 0 h) H ∧ h.length ≤ 900
/-- what is fixed of the classes -/
def mi_St (cl : List vw_C) (F : List (List Nat)) (Ts : List Cond) : Prop := ∀ (a : Nat) (C : String) (T : u_T) (N : Nat), cl[a]? = some (C, T, N) → (∃ ty0 : Nat → FieldType, (∀ k, k < N → parseFieldDescriptor (T k).2.2.1 = some (ty0 k)) ∧ (∀ k, k < N → ((F.getD a []).getD k 9 = 0 → ty0 k = .int) ∧ ((F.getD a []).getD k 9 = 1 → ty0 k = .long) ∧ ((F.getD a []).getD k 9 = 2 → (∃ x, ty0 k = .object x) ∨ ∃ x, ty0 k = .array x)) ∧ ∀ j, j < N → defaultValue (ty0 j) = vp_V ((F.getD a []).map mi_dv) j) ∧ (∀ x, x < N → ∀ y, y < N → x ≠ y → (T x).2.1 ≠ (T y).2.1) ∧ (F.getD a []).length = N ∧ (∀ k, k < N → (T k).1 = C) ∧ ∀ w ∈ u_ws C T N, w ∈ Ts
def mi_ty (a : Nat) : Option FieldType := [FieldType.int, .char, .boolean, .long][a]?
/-- what the tables say of an entry -/
def mi_V2 (own : String) (cl : List vw_C) (s : State) (args : Array Value) (ini : Bool) (i : Instr) (a b : Nat) : Prop := match i with
  | .getfield k => ∃ C T N, cl[a]? = some (C, T, N) ∧ b < N ∧ (Jvm.Cond.fieldLink own k C (T b).2.1 (T b).2.2.1).before args s = true
  | .putfield k => ∃ C T N, cl[a]? = some (C, T, N) ∧ b < N ∧ (Jvm.Cond.fieldLink own k C (T b).2.1 (T b).2.2.1).before args s = true ∧ ((T b).2.2.2 = false ∨ ((T b).2.2.2 = true ∧ C = own ∧ ini = true))
  | .new k => ∃ C T N, cl[a]? = some (C, T, N) ∧ (Jvm.Cond.classLink own k C).before args s = true ∧ (Jvm.Cond.instantiable C N).before args s = true ∧ (Jvm.Cond.initialized C).before args s = true
  | .newarray t => mi_ty a = some (newarray.typeOf t) ∧ (Jvm.Cond.arrayClass (newarray.typeOf t)).before args s = true
  | _ => True
theorem mi_vp_in {i : Int32} {n : Nat} (h : mi_in i n = true) : vp_in i n := by
  unfold mi_in at h
  rw [Bool.and_eq_true, Nat.blt_eq] at h
  rintro (h1 | h1)
  · have := h.1
    rw [decide_eq_true h1] at this
    cases this
  · omega
theorem mi_fit {k : Nat} {v : Value} {ty : FieldType} {ad : Nat → Nat} (h : mi_fits k v = true) (g : (k = 0 → ty = .int) ∧ (k = 1 → ty = .long) ∧ (k = 2 → (∃ x, ty = .object x) ∨ ∃ x, ty = .array x)) : narrow ty (mi_v ad v) = mi_v ad v ∧ fits ty (mi_v ad v) = true := by
  cases v with
  | int x =>
    have := g.1 (Nat.eq_of_beq_eq_true h)
    subst this
    exact ⟨rfl, rfl⟩
  | long x =>
    have := g.2.1 (Nat.eq_of_beq_eq_true h)
    subst this
    exact ⟨rfl, rfl⟩
  | ref x =>
    rcases g.2.2 (Nat.eq_of_beq_eq_true h) with ⟨y, rfl⟩ | ⟨y, rfl⟩ <;> exact ⟨rfl, rfl⟩
  | _ => simp [mi_fits] at h
theorem mi_dv_v (ad : Nat → Nat) (k : Nat) : mi_v ad (mi_dv k) = mi_dv k := by
  unfold mi_dv
  cases Nat.beq k 0 <;> cases Nat.beq k 1 <;> rfl
section CELLS
variable {p : Program} {l : Launch} {ev : Env} {R : Room} {s : State} {m : MethodId} {args : Array Value} {below : List Frame} {meth : Method} {c : Code} {Q : State → Prop}
variable {cc : ByteArray} {nL : Nat} {D : va_G} {cl : List vw_C} {ct : Nat → ClassId} {base scr : Nat} {lit : Nat → Nat} {h0 : mH} {F : List (List Nat)} {X : Nat × (Nat → Int32)} {Ts : List Cond} {own : String}
def mi_Wm (p : Program) (l : Launch) (ev : Env) (R : Room) (s : State) (m : MethodId) (args : Array Value) (below : List Frame) (meth : Method) (c : Code) (Q : State → Prop) (nL : Nat) (D : va_G) (cl : List vw_C) (ct : Nat → ClassId) (base scr : Nat) (lit : Nat → Nat) (h0 : mH) (x : mS mH) : Prop :=
  ∀ (H : Heap) (locs : List Loc), mi_Wd D cl ct (mi_ad base scr lit) x.2.2.2 H → va_S (fun q => base ≤ q) s.heap H locs → mi_Wp p l ev R s m args below meth c H locs (x.2.2.2.length - h0.length) (mi_sl x.2.2.2 - mi_sl h0) Q nL (mi_ad base scr lit) (x.1, x.2.1, x.2.2.1)
theorem mi_size {H : Heap} {h : mH} {T : State} {locs : List Loc} {slots : Nat} (hw : mi_Wd D cl ct (mi_ad base scr lit) h H) (hs0 : s.heap.size = base + h0.length) (hge : h0.length ≤ h.length) (hT : T.heap = H) (St : Stand p l ev R s m args below meth c T locs (h.length - h0.length) slots) : H.size = base + h.length := by
  have h1 : T.heap.size ≤ s.heap.size + (h.length - h0.length) := St.same.2.2.1
  have h2 : s.heap.size ≤ T.heap.size := St.same.2.1
  rw [hT] at h1 h2
  have h3 : base + h.length ≤ H.size := by
    cases hn : h.length with
    | zero => omega
    | succ n =>
      have hx : h[n]? = some h[n] := List.getElem?_eq_getElem (by omega)
      have := (hw.1 n _ (mi_ws_get hx)).lt
      have hl := hw.2
      rw [show ((mi_ad base scr lit n, mi_e ct (mi_ad base scr lit) h[n]) : Nat × va_E).1 = base + n from mi_ad_lt (by omega)] at this
      omega
  omega
variable {pc nx a b : Nat} {i : Instr} {ls : mL} {st st1 : List Value} {h h1 : mH}
theorem mi_Wd.set {H1 : Heap} {q : Nat} {x : mE} {ad : Nat → Nat} (hP : va_P D cl ((mi_ws ct ad 0 h).set q (ad q, mi_e ct ad x)) H1) (hl : h.length ≤ 900) : mi_Wd D cl ct ad (h.set q x) H1 := ⟨by rw [mi_ws_set]; exact hP, by rw [List.length_set]; exact hl⟩
set_option maxHeartbeats 1000000 in
theorem mi_hp_ok (hexec : p.tables.exec = Jvm.exec) (hb : c.code = cc) (hown : s.vm.findClass own = some m.cls) (hts : ∀ w ∈ Ts, w.before args s = true) (hSt : mi_St cl F Ts) (hK : va_K D cl (mi_tys ct) s) (hX : va_X scr X.1 X.2 s s.heap) (hsc : scr < base) (hs0 : s.heap.size = base + h0.length) {ini : Bool} (hini : ini = true → meth.name = "<init>")
    (V : decode cc pc = .ok (i, mi_len i)) (hnx : nx = pc + mi_len i) (hV2 : mi_V2 own cl s args ini i a b) (hge : mi_le h0 h) (hR : h1.length - h0.length ≤ R.cells ∧ mi_sl h1 - mi_sl h0 ≤ R.slots)
    (e : mi_hp (mi_O1 F X) i a b st h = some (st1, h1)) (k : mi_Wm p l ev R s m args below meth c Q nL D cl ct base scr lit h0 (nx, ls, st1, h1)) : mi_Wm p l ev R s m args below meth c Q nL D cl ct base scr lit h0 (pc, ls, st, h) := by
  subst hnx
  have hA : ∀ q, s.heap.size ≤ q → (fun q => base ≤ q) q := fun q hq => by show base ≤ q; omega
  unfold mi_hp at e
  split at e
  -- getfield
  · split at e
    · rename_i q r
      split at e
      · rename_i v hv
        cases e
        obtain ⟨fs, hq, hf⟩ := mi_gf_inv hv
        obtain ⟨C, T, N, hc, hbN, hlink⟩ := hV2
        obtain ⟨-, g4, g5, g6, g7⟩ := hSt a C T N hc
        intro H locs hw hS lr hl
        exact va_get hexec hb hts g7 hown hK hw.1 q (mi_ws_get hq) hc b hbN hlink (by rw [g6 b hbN]; exact fun x hx => hx) (by rw [List.getElem?_map, hf]; rfl) V (k H locs hw hS lr hl)
      · cases e
    · cases e
  -- putfield
  · split at e
    · rename_i v q r
      split at e
      · rename_i h2 hv
        cases e
        obtain ⟨fs, hq, hlt, hfit, rfl⟩ := mi_pf_inv hv
        obtain ⟨C, T, N, hc, hbN, hlink, hfin⟩ := hV2
        obtain ⟨⟨ty0, g1, g2, g3⟩, g4, g5, g6, g7⟩ := hSt a C T N hc
        obtain ⟨f1, f2⟩ := mi_fit (ad := mi_ad base scr lit) hfit (g2 b hbN)
        have hsl := mi_sl_set h q (.inr (a, fs.set b v)) _ hq (by simp [mi_sz])
        intro H locs hw hS lr hl
        have kk : ∀ (H1 : Heap) (locs1 : List Loc), va_P D cl ((mi_ws ct (mi_ad base scr lit) 0 h).set q (mi_ad base scr lit q, .inr (a, (fs.map (mi_v (mi_ad base scr lit))).set b (mi_v (mi_ad base scr lit) v)))) H1 → va_D (fun q => base ≤ q) ((mi_ws ct (mi_ad base scr lit) 0 h).set q (mi_ad base scr lit q, .inr (a, (fs.map (mi_v (mi_ad base scr lit))).set b (mi_v (mi_ad base scr lit) v)))) → va_S (fun q => base ≤ q) s.heap H1 locs1 → W p l ev R s m args below meth c H1 locs1 (h.length - h0.length) (mi_sl h - mi_sl h0) Q (F0 m (pc + 3) lr (st1.map (mi_v (mi_ad base scr lit)))) := by
          intro H1 locs1 hP1 _ hS1
          have := k H1 locs1 (mi_Wd.set (x := .inr (a, fs.set b v)) (by simp only [mi_e, List.map_set]; exact hP1) hw.2) hS1 lr hl
          dsimp only at this
          rw [List.length_set, hsl] at this
          exact this
        rcases hfin with hfin | ⟨hfin, rfl, hi⟩
        · exact va_put hexec hb hts g7 ty0 g1 g4 hown hK hw.1 (mi_D hw.2) hS q (mi_ws_get hq) hc b hbN hlink (by rw [g6 b hbN]; exact fun x hx => hx) hfin (g1 b hbN) f1 f2 (by rw [List.length_map]; exact hlt) V kk
        · exact va_putF hexec hb hts g7 ty0 g1 g4 hown hK hw.1 (mi_D hw.2) hS q (mi_ws_get hq) hc b hbN hlink (by rw [g6 b hbN]; exact fun x hx => hx) hfin (hini hi) (g6 b hbN) (g1 b hbN) f1 f2 (by rw [List.length_map]; exact hlt) V kk
      · cases e
    · cases e
  -- iaload
  · unfold mi_al at e
    split at e
    · rename_i j q r
      split at e
      · rename_i v hv
        cases e
        intro H locs hw hS lr hl
        rcases mi_ld_inv1 hv with ⟨rfl, -, hin, rfl⟩ | ⟨n, f, hq, -, hin, rfl⟩ | ⟨n, f, hq, ht, hin, rfl⟩
        · exact va_sld (b := scr) hexec hb hX (by omega) (by show ¬ base ≤ scr; omega) hS (mi_vp_in hin) V (k H locs hw hS lr hl)
        · exact va_iald hexec hb hK hw.1 q 0 (mi_ws_get hq) rfl (mi_vp_in hin) V (k H locs hw hS lr hl)
        · cases ht
      · cases e
    · cases e
  -- caload
  · unfold mi_al at e
    split at e
    · rename_i j q r
      split at e
      · rename_i v hv
        cases e
        intro H locs hw hS lr hl
        rcases mi_ld_inv1 hv with ⟨-, ht, -, -⟩ | ⟨n, f, hq, -, hin, rfl⟩ | ⟨n, f, hq, ht, hin, rfl⟩
        · cases ht
        · exact va_cald hexec hb hK hw.1 q 1 (mi_ws_get hq) rfl (mi_vp_in hin) V (k H locs hw hS lr hl)
        · cases ht
      · cases e
    · cases e
  -- baload
  · unfold mi_al at e
    split at e
    · rename_i j q r
      split at e
      · rename_i v hv
        cases e
        intro H locs hw hS lr hl
        rcases mi_ld_inv1 hv with ⟨-, ht, -, -⟩ | ⟨n, f, hq, -, hin, rfl⟩ | ⟨n, f, hq, ht, hin, rfl⟩
        · cases ht
        · exact va_zald hexec hb hK hw.1 q 2 (mi_ws_get hq) rfl (mi_vp_in hin) V (k H locs hw hS lr hl)
        · cases ht
      · cases e
    · cases e
  -- laload
  · unfold mi_al at e
    split at e
    · rename_i j q r
      split at e
      · rename_i v hv
        cases e
        intro H locs hw hS lr hl
        rcases mi_ld_inv1 hv with ⟨-, ht, -, -⟩ | ⟨n, f, hq, ht, hin, rfl⟩ | ⟨n, f, hq, ht, hin, rfl⟩
        · cases ht
        · omega
        · exact va_lald hexec hb hK hw.1 q 3 (mi_ws_get hq) rfl (mi_vp_in hin) V (k H locs hw hS lr hl)
      · cases e
    · cases e
  -- iastore
  · unfold mi_as at e
    split at e
    · rename_i v j q r
      split at e
      · rename_i h2 hv
        cases e
        intro H locs hw hS lr hl
        rcases mi_sa_inv hv with ⟨n, f, y, hq, -, hin, rfl, rfl⟩ | ⟨n, f, y, hq, ht, hin, rfl, rfl⟩
        · refine va_iast hexec hb hK hw.1 (mi_D hw.2) hS q 0 (mi_ws_get hq) rfl (mi_vp_in hin) V (fun H1 locs1 hP1 _ hS1 => ?_)
          have := k H1 locs1 (mi_Wd.set (by exact hP1) hw.2) hS1 lr hl
          dsimp only at this
          rw [List.length_set, mi_sl_set h q (.inl (0, n, .inl (upd f j.toNatClampNeg (mi_nar 0 y)))) _ hq rfl] at this
          exact this
        · cases ht
      · cases e
    · cases e
  -- castore
  · unfold mi_as at e
    split at e
    · rename_i v j q r
      split at e
      · rename_i h2 hv
        cases e
        intro H locs hw hS lr hl
        rcases mi_sa_inv hv with ⟨n, f, y, hq, -, hin, rfl, rfl⟩ | ⟨n, f, y, hq, ht, hin, rfl, rfl⟩
        · refine va_cast hexec hb hK hw.1 (mi_D hw.2) hS q 1 (mi_ws_get hq) rfl (mi_vp_in hin) V (fun H1 locs1 hP1 _ hS1 => ?_)
          have := k H1 locs1 (mi_Wd.set (by exact hP1) hw.2) hS1 lr hl
          dsimp only at this
          rw [List.length_set, mi_sl_set h q (.inl (1, n, .inl (upd f j.toNatClampNeg (mi_nar 1 y)))) _ hq rfl] at this
          exact this
        · cases ht
      · cases e
    · cases e
  -- bastore
  · unfold mi_as at e
    split at e
    · rename_i v j q r
      split at e
      · rename_i h2 hv
        cases e
        intro H locs hw hS lr hl
        rcases mi_sa_inv hv with ⟨n, f, y, hq, -, hin, rfl, rfl⟩ | ⟨n, f, y, hq, ht, hin, rfl, rfl⟩
        · refine va_zast hexec hb hK hw.1 (mi_D hw.2) hS q 2 (mi_ws_get hq) rfl (mi_vp_in hin) V (fun H1 locs1 hP1 _ hS1 => ?_)
          have := k H1 locs1 (mi_Wd.set (by exact hP1) hw.2) hS1 lr hl
          dsimp only at this
          rw [List.length_set, mi_sl_set h q (.inl (2, n, .inl (upd f j.toNatClampNeg (mi_nar 2 y)))) _ hq rfl] at this
          exact this
        · cases ht
      · cases e
    · cases e
  -- lastore
  · unfold mi_as at e
    split at e
    · rename_i v j q r
      split at e
      · rename_i h2 hv
        cases e
        intro H locs hw hS lr hl
        rcases mi_sa_inv hv with ⟨n, f, y, hq, ht, hin, rfl, rfl⟩ | ⟨n, f, y, hq, ht, hin, rfl, rfl⟩
        · omega
        · refine va_last hexec hb hK hw.1 (mi_D hw.2) hS q 3 (mi_ws_get hq) rfl (mi_vp_in hin) V (fun H1 locs1 hP1 _ hS1 => ?_)
          have := k H1 locs1 (mi_Wd.set (by exact hP1) hw.2) hS1 lr hl
          dsimp only at this
          rw [List.length_set, mi_sl_set h q (.inl (3, n, .inr (.inl (vp_updL f j.toNatClampNeg y)))) _ hq rfl] at this
          exact this
      · cases e
    · cases e
  -- arraylength
  · split at e
    · rename_i q r
      split at e
      · rename_i n hv
        cases e
        intro H locs hw hS lr hl
        have hv : mi_ln1 X q h = some n := hv
        unfold mi_ln1 at hv
        cases h9 : Nat.beq q 999 with
        | true =>
          rw [h9] at hv
          have := Nat.eq_of_beq_eq_true h9
          subst this
          cases hv
          exact va_slen (b := scr) hexec hb hX (by omega) (by show ¬ base ≤ scr; omega) hS V (k H locs hw hS lr hl)
        | false =>
          rw [h9] at hv
          dsimp only [cond_false] at hv
          split at hv
          · rename_i u n1 f hq
            cases hu : Nat.blt u 4 with
            | false => rw [hu] at hv; cases hv
            | true =>
              rw [hu] at hv
              cases hv
              rw [Nat.blt_eq] at hu
              have ht : ∃ ty, (mi_tys ct)[u]? = some (ct u, ty) := by
                rcases (by omega : u = 0 ∨ u = 1 ∨ u = 2 ∨ u = 3) with rfl | rfl | rfl | rfl <;> exact ⟨_, rfl⟩
              obtain ⟨ty, ht⟩ := ht
              exact va_alen hexec hb hK hw.1 q u (mi_ws_get hq) ht rfl V (k H locs hw hS lr hl)
          · cases hv
      · cases e
    · cases e
  -- new
  · split at e
    · rename_i q h2 hv
      cases e
      obtain ⟨ks, hks, hlen, rfl, rfl⟩ := mi_nw_inv hv
      obtain ⟨C, T, N, hc, hcl, hinst, hinit⟩ := hV2
      obtain ⟨⟨ty0, g1, g2, g3⟩, g4, g5, g6, g7⟩ := hSt a C T N hc
      have hgd : F.getD a [] = ks := by rw [List.getD_eq_getElem?_getD, hks]; rfl
      rw [hgd] at g3 g5
      intro H locs hw hS lr hl T' hT' Sd
      have hsz := mi_size hw hs0 hge.1 hT' Sd
      have hKn := hK.1 a _ hc
      have had : mi_ad base scr lit h.length = base + h.length := mi_ad_lt hlen
      have hN : (ks.map mi_dv).length = N := by rw [List.length_map]; exact g5
      have e1 : (h ++ [Sum.inr (a, ks.map mi_dv)] : mH).length - h0.length = h.length - h0.length + 1 := by
        have := hge.1
        simp only [List.length_append, List.length_singleton]
        omega
      have e2 : mi_sl (h ++ [Sum.inr (a, ks.map mi_dv)]) - mi_sl h0 = mi_sl h - mi_sl h0 + N := by
        have := hge.2
        rw [mi_sl_app]
        simp only [mi_sz, hN]
        omega
      rw [e1, e2] at hR
      suffices key : W p l ev R s m args below meth c H locs (h.length - h0.length) (mi_sl h - mi_sl h0) Q (F0 m pc lr (st.map (mi_v (mi_ad base scr lit)))) from key T' hT' Sd
      refine W.newcK hexec hb hown hcl hinst hinit rfl V hR.1 hR.2 hKn.2.1 hsz (fun H1 kC hkC f1 z1 o1 => ?_)
      have hk : ∀ (j : Nat) (x : Nat × va_E), (mi_ws ct (mi_ad base scr lit) 0 h)[j]? = some x → H1[x.1]? = H[x.1]? := fun j x hx => o1 x.1 (by rw [← hsz]; exact (hw.1 j x hx).lt)
      have hfs : (ks.map mi_dv).map (mi_v (mi_ad base scr lit)) = ks.map mi_dv := by
        rw [List.map_map]
        apply List.map_congr_left
        intro y _
        exact mi_dv_v _ y
      have hw1 : mi_Wd D cl ct (mi_ad base scr lit) (h ++ [Sum.inr (a, ks.map mi_dv)]) H1 := by
        refine ⟨?_, by simp only [List.length_append, List.length_singleton]; omega⟩
        rw [mi_ws_app]
        refine (hw.1.kept hk).app (fun j x hx => ?_)
        have hz : j < 1 := (List.getElem?_eq_some_iff.mp hx).1
        rw [show j = 0 by omega] at hx
        cases hx
        rw [Nat.zero_add, had]
        show va_at D cl (base + h.length, .inr (a, (ks.map mi_dv).map _)) H1
        rw [hfs]
        exact ⟨_, hc, (u_born ty0 hts g7 hKn hkC f1 g1).to g3⟩
      have hS1 : va_S (fun q => base ≤ q) s.heap H1 locs := ⟨Nat.le_trans hS.1 (by omega), fun x x1 x2 => (o1 x (by have := hS.1; omega)).trans (hS.2.1 x x1 x2), hS.2.2⟩
      have := k H1 locs hw1 hS1 lr hl
      dsimp only at this
      rw [e1, e2] at this
      rw [← had]
      exact this
    · cases e
  -- newarray
  · rename_i aty
    split at e
    · rename_i n r
      split at e
      · rename_i q h2 hv
        cases e
        obtain ⟨ht4, hn0, hn1, hlen, rfl, rfl⟩ := mi_na_inv hv
        obtain ⟨hty, harr⟩ := hV2
        intro H locs hw hS lr hl T' hT' Sd
        have hsz := mi_size hw hs0 hge.1 hT' Sd
        have had : mi_ad base scr lit h.length = base + h.length := mi_ad_lt hlen
        have e1 : ∀ x : mE, (h ++ [x] : mH).length - h0.length = h.length - h0.length + 1 := by
          intro x
          have := hge.1
          simp only [List.length_append, List.length_singleton]
          omega
        have e2 : ∀ x : vp_A, x.1 = n.toNatClampNeg → mi_sl (h ++ [Sum.inl (a, x)]) - mi_sl h0 = mi_sl h - mi_sl h0 + n.toNatClampNeg := by
          intro x hx
          have := hge.2
          rw [mi_sl_app]
          simp only [mi_sz, hx]
          omega
        rw [e1, e2 _ rfl] at hR
        have hbytes : n.toNatClampNeg * componentBytes (newarray.typeOf aty) ≤ 536870912 := by
          have : componentBytes (newarray.typeOf aty) ≤ 8 := by cases aty <;> decide
          calc n.toNatClampNeg * componentBytes (newarray.typeOf aty) ≤ 1000 * 8 := Nat.mul_le_mul hn1 this
            _ ≤ 536870912 := by decide
        suffices key : W p l ev R s m args below meth c H locs (h.length - h0.length) (mi_sl h - mi_sl h0) Q (F0 m pc lr (.int n :: r.map (mi_v (mi_ad base scr lit)))) from key T' hT' Sd
        refine va_newaK hexec hb harr rfl V rfl hn0 rfl hbytes hR.1 hR.2 hsz (fun H1 cA f1 z1 o1 hAr hNm => ?_)
        have hk : ∀ (j : Nat) (x : Nat × va_E), (mi_ws ct (mi_ad base scr lit) 0 h)[j]? = some x → H1[x.1]? = H[x.1]? := fun j x hx => o1 x.1 (by rw [← hsz]; exact (hw.1 j x hx).lt)
        have hS1 : va_S (fun q => base ≤ q) s.heap H1 locs := ⟨Nat.le_trans hS.1 (by omega), fun x x1 x2 => (o1 x (by have := hS.1; omega)).trans (hS.2.1 x x1 x2), hS.2.2⟩
        have fin : ∀ x : vp_A, x.1 = n.toNatClampNeg → (bif Nat.beq a 3 then (Sum.inr (Sum.inl (fun _ => 0)) : (Nat → Int32) ⊕ (Nat → Int64) ⊕ (Nat → UInt32) ⊕ (Nat → UInt64) ⊕ (Nat → Option Nat)) else Sum.inl (fun _ => 0)) = x.2 → cA = ct a → vp_cell (ct a) x = arrV (ct a) n.toNatClampNeg (fun _ => defaultValue (newarray.typeOf aty)) → W p l ev R s m args below meth c H1 locs (h.length - h0.length + 1) (mi_sl h - mi_sl h0 + n.toNatClampNeg) Q (F0 m (pc + 2) lr (.ref (base + h.length) :: r.map (mi_v (mi_ad base scr lit)))) := by
          rintro ⟨x1, x2⟩ hx1 hx2 rfl hx3
          dsimp only at hx1 hx2
          subst hx1
          have hw1 : mi_Wd D cl ct (mi_ad base scr lit) (h ++ [Sum.inl (a, n.toNatClampNeg, x2)]) H1 := by
            refine ⟨?_, by simp only [List.length_append, List.length_singleton]; omega⟩
            rw [mi_ws_app]
            refine (hw.1.kept hk).app (fun j x hx => ?_)
            have hz : j < 1 := (List.getElem?_eq_some_iff.mp hx).1
            rw [show j = 0 by omega] at hx
            cases hx
            rw [Nat.zero_add, had]
            show H1[base + h.length]? = some (vp_cell (ct a) (n.toNatClampNeg, x2))
            rw [hx3]
            exact f1
          have := k H1 locs (by rw [hx2]; exact hw1) hS1 lr hl
          dsimp only at this
          rw [e1, e2 _ rfl] at this
          rw [← had]
          exact this
        have hcA : ∀ (ty : FieldType) (u : Nat), (mi_tys ct)[u]? = some (ct u, ty) → newarray.typeOf aty = ty → (∀ C, ty ≠ .object C) → cA = ct u := by
          intro ty u hu hty hno
          have h1 := (hK.2 u _ hu).2
          rw [hty] at hNm
          cases ty with
          | object C => exact absurd rfl (hno C)
          | _ => exact Option.some.inj (hNm.symm.trans h1)
        rcases (by omega : a = 0 ∨ a = 1 ∨ a = 2 ∨ a = 3) with rfl | rfl | rfl | rfl
        · have hty : newarray.typeOf aty = .int := (Option.some.inj hty).symm
          exact fin (n.toNatClampNeg, .inl (fun _ => 0)) rfl rfl (hcA .int 0 rfl hty (by intro C h; cases h)) (by rw [hty]; rfl)
        · have hty : newarray.typeOf aty = .char := (Option.some.inj hty).symm
          exact fin (n.toNatClampNeg, .inl (fun _ => 0)) rfl rfl (hcA .char 1 rfl hty (by intro C h; cases h)) (by rw [hty]; rfl)
        · have hty : newarray.typeOf aty = .boolean := (Option.some.inj hty).symm
          exact fin (n.toNatClampNeg, .inl (fun _ => 0)) rfl rfl (hcA .boolean 2 rfl hty (by intro C h; cases h)) (by rw [hty]; rfl)
        · have hty : newarray.typeOf aty = .long := (Option.some.inj hty).symm
          exact fin (n.toNatClampNeg, .inr (.inl (fun _ => 0))) rfl rfl (hcA .long 3 rfl hty (by intro C h; cases h)) (by rw [hty]; rfl)
      · cases e
    · cases e
  · cases e
end CELLS
