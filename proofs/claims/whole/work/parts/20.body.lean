/-! A whole body: the machine does what the mini does. -/
def mi_Qc (D : va_G) (cl : List vw_C) (ct : Nat → ClassId) (ad : Nat → Nat) (base : Nat) (v : Option Value) (h1 : mH) : Array Value → State → Outcome → State → Prop := fun _ st oc t => oc = .returned (v.map (mi_v ad)) ∧ mi_Wd D cl ct ad h1 t.heap ∧ va_F (fun q => base ≤ q) st t
theorem mi_take_ok : ∀ (n : Nat) (acc st as r : List Value), mi_take n acc st = some (as, r) → ∃ xs, st = xs ++ r ∧ as = xs.reverse ++ acc ∧ xs.length = n := by
  intro n
  induction n with
  | zero => intro acc st as r e; cases e; exact ⟨[], rfl, rfl, rfl⟩
  | succ n ih =>
    intro acc st as r e
    cases st with
    | nil => cases e
    | cons v st =>
      obtain ⟨xs, h1, h2, h3⟩ := ih (v :: acc) st as r e
      exact ⟨v :: xs, by rw [h1]; rfl, by rw [h2]; simp, by simp [h3]⟩
theorem mi_cats_eq (ad : Nat → Nat) : ∀ r : List Value, ((r.map (mi_v ad)).map fun v => v.category).sum = mi_cats r := by
  intro r
  induction r with
  | nil => rfl
  | cons v r ih => simp only [List.map_cons, List.sum_cons, mi_cats, ih, mi_cat]
section BODY
variable {p : Program} {l : Launch} {ev : Env} {R : Room} {s : State} {m : MethodId} {args : Array Value} {below : List Frame} {meth : Method} {c : Code}
variable {cc : ByteArray} {nL : Nat} {D : va_G} {cl : List vw_C} {ct : Nat → ClassId} {base scr : Nat} {lit : Nat → Nat} {h0 : mH} {F : List (List Nat)} {X : Nat × (Nat → Int32)} {Ts : List Cond} {own : String}
theorem mi_after {Q : State → Prop} {H : Heap} {locs : List Loc} {cells slots mc ms pc : Nat} {lr : Array Slot} {st0 rest : List Value} {ad : Nat → Nat} {v : Option Value} {h1 : mH} {a : Array Value} (hr : va_Run p l ev R s m args below meth c H locs cells slots mc ms (F0 m pc lr st0) rest (mi_Qc D cl ct ad base v h1 a) (fun q => base ≤ q)) (hS : va_S (fun q => base ≤ q) s.heap H locs)
    (k : ∀ (H1 : Heap) (locs1 : List Loc), mi_Wd D cl ct ad h1 H1 → va_S (fun q => base ≤ q) s.heap H1 locs1 → W p l ev R s m args below meth c H1 locs1 (cells + mc) (slots + ms) Q (F0 m (pc + 3) lr ((v.map (mi_v ad)).toList ++ rest))) : W p l ev R s m args below meth c H locs cells slots Q (F0 m pc lr st0) := by
  intro T hT Sd
  obtain ⟨v1, st₀, t, T', L, g0, Sd', hL, e1, e2, ⟨hv, hw, hz, hk⟩, st⟩ := hr T hT Sd
  cases hv
  rw [g0] at hz hk
  obtain ⟨t2, a1, b1⟩ := k T'.heap (locs ++ L) (by rw [e1]; exact hw)
    ⟨Nat.le_trans hS.1 (by rw [e1]; exact hz), fun q q1 q2 => by rw [e1, hk q (Nat.lt_of_lt_of_le q1 hS.1) q2]; exact hS.2.1 q q1 q2, fun q hq => by
      rcases List.mem_append.mp hq with h | h
      · exact hS.2.2 q h
      · exact hL q h⟩ T' rfl Sd'
  exact ⟨t2, st t2 a1, b1⟩
theorem mi_nr_ok {ty : FieldType} {v : Int32} (h : mi_nr ty v = true) : narrow ty (.int v) = .int v := by
  unfold mi_nr at h
  split at h
  · rfl
  · rw [Bool.or_eq_true, decide_eq_true_eq, decide_eq_true_eq] at h
    rcases h with rfl | rfl <;> rfl
  · cases h
theorem mi_kd_sw {d lo hi : Int} {offs : Array Int} : mi_kd (.tableswitch d lo hi offs) = (false, false) := rfl
set_option maxHeartbeats 4000000 in
theorem mi_body (hexec : p.tables.exec = Jvm.exec) (hb : c.code = cc) (hown : s.vm.findClass own = some m.cls) (hts : ∀ w ∈ Ts, w.before args s = true) (hSt : mi_St cl F Ts) (hK : va_K D cl (mi_tys ct) s) (hX : va_X scr X.1 X.2 s s.heap) (hsc : scr < base) (hs0 : s.heap.size = base + h0.length) {ini : Bool} (hini : ini = true → meth.name = "<init>") {ret : Option FieldType} (hret : meth.sig.returnType = ret) (hlk : meth.locks = false) {tb : mB} {PR cal : Nat → List Value → mH → Option (mA mH)} (hVE : mi_VE cc own cl s args ini tb) (hpl : mi_cle PR) (hcl : mi_cle cal)
    (hldc : ∀ (pc : Nat) (q : mI), mi_lk tb pc = some q → (∃ k, q.1 = .ldc k ∨ q.1 = .ldc_w k ∨ q.1 = .ldc2_w k) → ∀ (H : Heap) (locs : List Loc) (cells slots : Nat) (Q : State → Prop) (lr : Array Slot) (rest : List Value), W p l ev R s m args below meth c H locs cells slots Q (F0 m q.2.1 lr (mi_v (mi_ad base scr lit) q.2.2.2.2.2 :: rest)) → W p l ev R s m args below meth c H locs cells slots Q (F0 m pc lr rest))
    (hcall : ∀ (pc : Nat) (q : mI), mi_lk tb pc = some q → mi_kd q.1 = (true, false) → q.2.2.1 < 1000 → ∀ (as rest : List Value) (h : mH) (v : Option Value) (h1 : mH), cal q.2.2.1 as h = some (v, h1) → mi_rc (mi_O1 F X) q.2.2.2.2.1 as h = true → as.length = q.2.2.2.1 → mi_cats rest ≤ 8 → ∀ (lr : Array Slot) (H : Heap) (locs : List Loc) (cells slots : Nat), lr.size = nL → mi_Wd D cl ct (mi_ad base scr lit) h H → H.size = base + h.length → va_S (fun q => base ≤ q) s.heap H locs → cells + (h1.length - h.length) ≤ R.cells → slots + (mi_sl h1 - mi_sl h) ≤ R.slots →
      va_Run p l ev R s m args below meth c H locs cells slots (h1.length - h.length) (mi_sl h1 - mi_sl h) (F0 m pc lr ((as.reverse ++ rest).map (mi_v (mi_ad base scr lit)))) (rest.map (mi_v (mi_ad base scr lit))) (mi_Qc D cl ct (mi_ad base scr lit) base v h1 #[]) (fun q => base ≤ q))
    (hprim : ∀ (pc : Nat) (q : mI), mi_lk tb pc = some q → mi_kd q.1 = (true, false) → ¬ q.2.2.1 < 1000 → ∀ (Q : State → Prop) (ls : mL) (as rest : List Value) (h : mH) (v : Option Value) (h1 : mH), PR q.2.2.1 as h = some (v, h1) → as.length = q.2.2.2.1 → mi_cats rest ≤ 8 → h.length - h0.length ≤ R.cells → mi_sl h - mi_sl h0 ≤ R.slots → mi_Wm p l ev R s m args below meth c Q nL D cl ct base scr lit h0 (q.2.1, ls, v.toList ++ rest, h1) → mi_Wm p l ev R s m args below meth c Q nL D cl ct base scr lit h0 (pc, ls, as.reverse ++ rest, h))
    {v : Option Value} {h' : mH} (hRc : h'.length - h0.length ≤ R.cells) (hRs : mi_sl h' - mi_sl h0 ≤ R.slots) :
    ∀ (n : Nat) (x : mS mH), mi_ex (mi_O1 F X) PR cal tb ret n x = some (v, h') → mi_le h0 x.2.2.2 → mi_Wm p l ev R s m args below meth c (MQ below (mi_Qc D cl ct (mi_ad base scr lit) base v h') args s (h'.length - h0.length) (mi_sl h' - mi_sl h0) (fun q => base ≤ q)) nL D cl ct base scr lit h0 x := by
  intro n
  induction n with
  | zero => intro x e; cases e
  | succ n ih =>
    intro x e hge
    obtain ⟨pc, ls, st, h⟩ := x
    unfold mi_ex at e
    split at e
    · rename_i x1 h1
      have hge1 : mi_le h0 x1.2.2.2 := hge.tr (mi_one_le hpl hcl h1)
      have hle1 : mi_le x1.2.2.2 h' := mi_ex_le hpl hcl n x1 _ e
      have k := ih x1 e hge1
      have hR : x1.2.2.2.length - h0.length ≤ R.cells ∧ mi_sl x1.2.2.2 - mi_sl h0 ≤ R.slots := ⟨by have := hle1.1; omega, by have := hle1.2; omega⟩
      unfold mi_one at h1
      split at h1
      · cases h1
      · rename_i q hl
        obtain ⟨V, hnx, hV1, hV2⟩ := hVE pc q hl
        split at h1
        · split at h1
          · rename_i y hy
            cases h1
            intro H locs hw hS
            exact mi_pl_ok hexec hb V hnx hV1 (fun hq lr rest => hldc pc q hl hq H locs _ _ _ lr rest) hy (k H locs hw hS)
          · cases h1
        · rename_i hk
          split at h1
          · rename_i y hy
            obtain ⟨y1, y2⟩ := y
            cases h1
            have V' : decode cc pc = .ok (q.1, mi_len q.1) := by
              rcases V with h | ⟨d, lo, hi, offs, h, -⟩
              · exact h
              · rw [h] at hk; cases hk
            have hnx' : q.2.1 = pc + mi_len q.1 := by
              rcases hnx with h | ⟨d, lo, hi, offs, h⟩
              · exact h
              · rw [h] at hk; cases hk
            exact mi_hp_ok hexec hb hown hts hSt hK hX hsc hs0 hini V' hnx' hV2 hge hR hy k
          · cases h1
        · rename_i hk
          split at h1
          · rename_i y hy
            cases h1
            unfold mi_cl at hy
            split at hy
            · rename_i as r ht
              cases hbb : (Nat.ble (mi_cats r) 8 && mi_rc (mi_O1 F X) q.2.2.2.2.1 as h) with
              | false => rw [hbb] at hy; cases hy
              | true =>
                rw [hbb] at hy
                dsimp only [cond_true] at hy
                rw [Bool.and_eq_true, Nat.ble_eq] at hbb
                obtain ⟨xs, t1, t2, t3⟩ := mi_take_ok _ _ _ _ _ ht
                rw [List.append_nil] at t2
                have hst : st = as.reverse ++ r := by rw [t2, List.reverse_reverse]; exact t1
                have hal : as.length = q.2.2.2.1 := by rw [t2, List.length_reverse]; exact t3
                have hnx' : q.2.1 = pc + 3 := by
                  rcases hnx with h | ⟨d, lo, hi, offs, h⟩
                  · rw [h]
                    congr 1
                    revert hk
                    generalize q.1 = i
                    intro hk
                    unfold mi_kd at hk
                    split at hk <;> first | rfl | cases hk
                  · rw [h] at hk; cases hk
                subst hst
                split at hy
                · rename_i v1 h1 hv
                  cases hy
                  cases hk1 : Nat.blt q.2.2.1 1000 with
                  | true =>
                    rw [hk1] at hv
                    dsimp only [cond_true] at hv
                    rw [Nat.blt_eq] at hk1
                    have hle2 := hcl _ _ _ _ _ hv
                    intro H locs hw hS lr hlr T hT Sd
                    have hsz := mi_size hw hs0 hge.1 hT Sd
                    have c1 : h.length - h0.length + (h1.length - h.length) = h1.length - h0.length := by
                      have g1 : h0.length ≤ h.length := hge.1
                      have g2 : h.length ≤ h1.length := hle2.1
                      omega
                    have c2 : mi_sl h - mi_sl h0 + (mi_sl h1 - mi_sl h) = mi_sl h1 - mi_sl h0 := by
                      have g1 : mi_sl h0 ≤ mi_sl h := hge.2
                      have g2 : mi_sl h ≤ mi_sl h1 := hle2.2
                      omega
                    refine mi_after (hcall pc q hl hk hk1 as r h v1 h1 hv hbb.2 hal hbb.1 lr H locs _ _ hlr.1 hw hsz hS (by rw [c1]; exact hR.1) (by rw [c2]; exact hR.2)) hS (fun H1 locs1 hw1 hS1 => ?_) T hT Sd
                    rw [c1, c2]
                    have := k H1 locs1 hw1 hS1 lr hlr
                    dsimp only at this
                    rw [hnx', List.map_append] at this
                    cases v1 with
                    | none => exact this
                    | some z => exact this
                  | false =>
                    rw [hk1] at hv
                    dsimp only [cond_false] at hv
                    exact hprim pc q hl hk (by intro z; rw [← Nat.blt_eq, hk1] at z; cases z) _ ls as r h v1 h1 hv hal hbb.1 (by have g2 : h.length ≤ h1.length := (hpl _ _ _ _ _ hv).1; have g3 : h1.length - h0.length ≤ R.cells := hR.1; omega) (by have g2 : mi_sl h ≤ mi_sl h1 := (hpl _ _ _ _ _ hv).2; have g3 : mi_sl h1 - mi_sl h0 ≤ R.slots := hR.2; omega) k
                · cases hy
            · cases hy
          · cases h1
        · split at h1
          · cases h1
          · cases h1
    · rename_i y h1
      cases e
      unfold mi_one at h1
      split at h1
      · cases h1
      · rename_i q hl
        obtain ⟨V, hnx, hV1, hV2⟩ := hVE pc q hl
        split at h1
        · split at h1 <;> cases h1
        · split at h1 <;> cases h1
        · split at h1 <;> cases h1
        · rename_i hk
          split at h1
          · rename_i y hy
            cases h1
            have V' : decode cc pc = .ok (q.1, mi_len q.1) := by
              rcases V with h | ⟨d, lo, hi, offs, h, -⟩
              · exact h
              · rw [h] at hk; cases hk
            have hh := mi_re_eq hy
            dsimp only at hh
            subst hh
            intro H locs hw hS lr hlr
            dsimp only at hy
            revert V'
            generalize q.1 = i at hy
            intro V'
            unfold mi_re at hy
            split at hy
            · split at hy
              · rename_i z ty
                cases hn : mi_nr ty z with
                | false => rw [hn] at hy; cases hy
                | true =>
                  rw [hn] at hy
                  cases hy
                  exact W.zret hexec hb hret (mi_nr_ok hn) (fun t ht _ => ⟨rfl, by rw [ht]; exact hw, hS.F ht⟩) hS.2.2 V' hlk
              · cases hy
            · split at hy
              · cases hy
                exact W.lret hexec hb hret (fun t ht _ => ⟨rfl, by rw [ht]; exact hw, hS.F ht⟩) hS.2.2 V' hlk
              · cases hy
            · split at hy
              · cases hy
                exact W.vret hexec hb hret (fun t ht _ => ⟨rfl, by rw [ht]; exact hw, hS.F ht⟩) hS.2.2 V' hlk
              · cases hy
            · cases hy
          · cases h1
    · cases e
end BODY
