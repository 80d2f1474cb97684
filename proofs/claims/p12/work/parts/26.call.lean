/-! CALLS: a judgement at a method's entry is a contract; a contract is used at a call. -/
/-- the locals with which a method begins -/
def zx_sl (as : List Value) : List (Option Value) := as.flatMap fun v => if v.category = 2 then [some v, none] else [some v]
def zx_entry (k : Nat) (as : List Value) : List (Option Value) := zx_sl as ++ List.replicate (zm_L k - (zx_sl as).length) none
theorem zx_sl_lg (ad : Nat → Nat) (as : List Value) : (lg_sl (as.map (zx_v ad))).length = (zx_sl as).length ∧ ∀ (i : Nat) (v : Value), (zx_sl as)[i]? = some (some v) → (lg_sl (as.map (zx_v ad)))[i]? = some (Slot.val (zx_v ad v)) := by
  induction as with
  | nil => exact ⟨rfl, fun i v h => by simp [zx_sl] at h⟩
  | cons a t ih =>
    have e1 : lg_sl ((a :: t).map (zx_v ad)) = (if a.category = 2 then [Slot.val (zx_v ad a), .second] else [Slot.val (zx_v ad a)]) ++ lg_sl (t.map (zx_v ad)) := by
      simp [lg_sl, zx_v_cat]
    have e2 : zx_sl (a :: t) = (if a.category = 2 then [some a, none] else [some a]) ++ zx_sl t := by
      simp [zx_sl]
    rw [e1, e2]
    by_cases hc : a.category = 2
    · rw [if_pos hc, if_pos hc]
      refine ⟨by simp [ih.1], fun i v h => ?_⟩
      match i, h with
      | 0, h => simp at h; subst h; rfl
      | 1, h => simp at h
      | i + 2, h => simpa using ih.2 i v (by simpa using h)
    · rw [if_neg hc, if_neg hc]
      refine ⟨by simp [ih.1], fun i v h => ?_⟩
      match i, h with
      | 0, h => simp at h; subst h; rfl
      | i + 1, h => simpa using ih.2 i v (by simpa using h)
theorem zx_entry_L (k : Nat) (ad : Nat → Nat) (as : List Value) (h : (zx_sl as).length ≤ zm_L k) : zx_L ad ((lg_sl (as.map (zx_v ad)) ++ List.replicate (zm_L k - (lg_sl (as.map (zx_v ad))).length) Slot.unset).toArray) (zm_L k) (zx_entry k as) := by
  obtain ⟨h1, h2⟩ := zx_sl_lg ad as
  have h3 := lv_entry (as.map (zx_v ad)) (n := zm_L k) (by rw [h1]; exact h)
  refine ⟨h3.1, h3.2.1, fun i v hi => ?_, by simp [zx_entry]; omega⟩
  by_cases hl : i < (zx_sl as).length
  · unfold zx_entry at hi
    rw [List.getElem?_append_left hl] at hi
    have := h2 i v hi
    simp only [List.getElem?_toArray]
    rw [List.getElem?_append_left (by rw [h1]; exact hl)]
    exact this
  · unfold zx_entry at hi
    rw [List.getElem?_append_right (by omega)] at hi
    have := List.eq_of_mem_replicate (List.mem_of_getElem? hi)
    cases this
/-- a method's start and end -/
def zx_Pc (l : Launch) (sz0 : Nat) (D : va_G) (tc : FieldType → ClassId) (ad : Nat → Nat) (as : List Value) (w : zx_W) : Array Value → State → Prop := fun a U =>
  a = (as.map (zx_v ad)).toArray ∧ zx_R U D tc ad 2 w U.heap ∧ va_K D vwCl (zx_tys tc) U ∧ (∀ x ∈ zm_nest, va_Nw x U) ∧ zx_Z l sz0 ad U
def zx_Qc (sz0 : Nat) (D : va_G) (tc : FieldType → ClassId) (ad : Nat → Nat) (v : Option Value) (w1 : zx_W) : Array Value → State → Outcome → State → Prop := fun _ st o t =>
  o = .returned (v.map (zx_v ad)) ∧ zx_R t D tc ad 2 w1 t.heap ∧ va_F (fun q => sz0 ≤ q) st t
theorem zx_blind {l : Launch} {sz0 : Nat} {D : va_G} {tc : FieldType → ClassId} {ad : Nat → Nat} {as : List Value} {w : zx_W} : FrameBlind (zx_Pc l sz0 D tc ad as w) := by
  intro a U g mk h
  obtain ⟨h1, h2, h3, h4, h5⟩ := h
  exact ⟨h1, zx_R.moved (s := U) (U := U.calling g mk a) (Vm.Alike.refl U.vm) h2, va_K.moved (u := U) (U := U.calling g mk a) (Vm.Alike.refl U.vm) h3, zm_nest_same (s := U) (U := U.calling g mk a) rfl h4, zx_Z.same (s := U) (U := U.calling g mk a) rfl rfl h5⟩
abbrev zx_room (d : Nat) (w w1 : zx_W) : Room := { frames := d, cells := w1.1.2.1 - w.1.2.1, slots := w1.1.2.2 - w.1.2.2, locals := d * 64 + 40 }
def zx_cw (k : Nat) : List Cond := Cond.code (zm_y k) (zm_cc k) (zm_L k) (zm_r k) :: zm_ws
theorem zx_met (l : Launch) {d k sz0 : Nat} {D : va_G} {tc : FieldType → ClassId} {ad : Nat → Nat} {as : List Value} {w w1 : zx_W} {v : Option Value} (hk : k < 264) (hG : zx_G ad 2 sz0) (ha : (zx_sl as).length ≤ zm_L k) (hE : zx_E d k 0 (zx_entry k as) [] w v w1) :
    Met l (zm_y k) (zx_cw k) (zx_room d w w1) (zx_Pc l sz0 D tc ad as w) (zx_Qc sz0 D tc ad v w1) (w1.1.2.1 - w.1.2.1) (w1.1.2.2 - w.1.2.2) (fun q => sz0 ≤ q) := by
  obtain ⟨o1, o2, o3, o4, o5, o6, o7, o8, o9⟩ := zm_all k hk
  refine Met.ofW (cc := zm_cc k) (maxL := zm_L k) (ret := zm_r k) o3 rfl ?_
  intro p e s m args below meth c s₁ B hml hP
  obtain ⟨rfl, hR, hK, hN, hZ⟩ := hP
  have hts := atoms_spec (ws := zx_cw k) B.pre
  rw [lg_entry_eq]
  have X : zx_X k d p (headSpec (zx_cw k) (zx_room d w w1)).room s m (as.map (zx_v ad)).toArray meth c D tc := by
    refine ⟨B.exec, B.bytes, hml, B.returns, B.notSynchronized, ?_, (name_of_methodNamed B.named B.method).1, fun x hx => hts x (List.mem_cons_of_mem _ hx), hN, hK, Nat.le_refl _, Nat.le_refl _⟩
    have h1 : s.vm.findClass (zm_y k).cls = some m.cls := findClass_of_methodNamed B.named
    have h2 : (zm_y k).cls = zm_own k := o2
    rw [← h2]
    exact h1
  refine hE.2 p l e _ s m _ below meth c s.heap [] 0 0 (w1.1.2.1 - w.1.2.1) (w1.1.2.2 - w.1.2.2) _ D tc ad sz0 _ X hG hZ hR va_S.rf (zx_entry_L k ad as ha) (by omega) (by omega) (Nat.le_refl _) (Nat.le_refl _) ?_
  intro H1 locs1 pc1 lsr1 hrt hR1 hS1
  have hq : ∀ t : State, t.heap = H1 → s.WarmedH t.vm → zx_Qc sz0 D tc ad v w1 (as.map (zx_v ad)).toArray s (.returned (v.map (zx_v ad))) t := fun t ht hW => ⟨rfl, by rw [ht]; exact hR1.moved hW.alike, hS1.F ht⟩
  have hf : ∀ q ∈ locs1, (fun q => sz0 ≤ q) q.base := hS1.2.2
  cases v with
  | none => exact W.vret B.exec B.bytes (B.returns.trans hrt.2) hq hf hrt.1 B.notSynchronized
  | some x =>
    cases x with
    | int x =>
      obtain ⟨h1, ty, h2, h3⟩ := hrt
      exact W.zret B.exec B.bytes (B.returns.trans h2) h3 hq hf h1 B.notSynchronized
    | long x => exact W.lret B.exec B.bytes (B.returns.trans hrt.2) hq hf hrt.1 B.notSynchronized
    | ref x =>
      obtain ⟨h1, rt, h2, h3⟩ := hrt
      exact W.aret B.exec B.bytes (B.returns.trans h2) h3 (Or.inr ⟨_, rfl⟩) hq hf h1 B.notSynchronized
    | null =>
      obtain ⟨h1, rt, h2, h3⟩ := hrt
      exact W.aret B.exec B.bytes (B.returns.trans h2) h3 (Or.inl rfl) hq hf h1 B.notSynchronized
    | _ => exact hrt.elim
/-- behind a call -/
theorem zx_after {p : Program} {l : Launch} {e : Env} {R : Room} {s : State} {m : MethodId} {args : Array Value} {below : List Frame} {meth : Method} {c : Code} {H : Heap} {locs : List Loc} {cells slots mc ms : Nat} {Q : State → Prop} {g : JFrame} {rest : List Value} {a : Array Value} {sz0 : Nat} {D : va_G} {tc : FieldType → ClassId} {ad : Nat → Nat} {v : Option Value} {w1 : zx_W}
    (hr : va_Run p l e R s m args below meth c H locs cells slots mc ms g rest (zx_Qc sz0 D tc ad v w1 a) (fun q => sz0 ≤ q)) (hS : va_S (fun q => sz0 ≤ q) s.heap H locs)
    (kk : ∀ (H1 : Heap) (locs1 : List Loc), zx_R s D tc ad 2 w1 H1 → va_S (fun q => sz0 ≤ q) s.heap H1 locs1 → W p l e R s m args below meth c H1 locs1 (cells + mc) (slots + ms) Q { g with pc := g.pc + 3, stack := (v.map (zx_v ad)).toList ++ rest }) : W p l e R s m args below meth c H locs cells slots Q g := by
  intro T hT X
  obtain ⟨v', st₀, t, T', L, h0, X', hL, e1, e2, ⟨hv, hR, hz, hk⟩, st⟩ := hr T hT X
  cases hv
  rw [h0] at hz hk
  have hal : t.vm.Alike s.vm := by rw [← e2]; exact X'.warmed.alike.symm
  obtain ⟨t2, a1, b1⟩ := kk T'.heap (locs ++ L) (by rw [e1]; exact hR.moved hal)
    ⟨Nat.le_trans hS.1 (by rw [e1]; exact hz), fun q h1 h2 => by rw [e1, hk q (Nat.lt_of_lt_of_le h1 hS.1) h2]; exact hS.2.1 q h1 h2, fun q hq => by
      rcases List.mem_append.mp hq with h | h
      · exact hS.2.2 q h
      · exact hL q h⟩ T' rfl X'
  exact ⟨t2, st t2 a1, b1⟩
/-- what a callee finds -/
theorem zx_pre {l : Launch} {s : State} {H : Heap} {locs : List Loc} {sz0 : Nat} {D : va_G} {tc : FieldType → ClassId} {ad : Nat → Nat} {as : List Value} {w : zx_W} (hR : zx_R s D tc ad 2 w H) (hK : va_K D vwCl (zx_tys tc) s) (hN : ∀ x ∈ zm_nest, va_Nw x s) (hZ : zx_Z l sz0 ad s) (hS : va_S (fun q => sz0 ≤ q) s.heap H locs) (U : State) (hU : U.heap = H) (hW : s.WarmedH U.vm) : zx_Pc l sz0 D tc ad as w (as.map (zx_v ad)).toArray U := by
  refine ⟨rfl, by rw [hU]; exact hR.moved hW.alike, hK.moved hW.alike, zm_nest_warm hW hN, ?_⟩
  exact zx_Z.warm hW (fun a ha hA => by rw [hU]; exact hS.2.1 a ha hA) hZ
theorem zx_toList (ad : Nat → Nat) (v : Option Value) (rest : List Value) : (v.map (zx_v ad)).toList ++ rest.map (zx_v ad) = (v.toList ++ rest).map (zx_v ad) := by
  cases v <;> simp
theorem zx_tg_ok {o n k : Nat} (h : zx_tg o n = some k) : (o = 7 ∧ n = 11 ∧ zm_y k = yX3_init ∧ k < 264 ∧ zm_kd k = 1) ∨ (Cond.methodLink (zc_nm o) n (zm_tgt k) ∈ zm_ws ∧ (k < 264 ∨ 1000 ≤ k)) := by
  unfold zx_tg at h
  split at h
  · rename_i g
    cases h
    exact Or.inl ⟨g.1, g.2, by decide +kernel, by decide +kernel, by decide +kernel⟩
  · exact Or.inr (zl_M_ok _ (zl_find_mem h))
theorem zm_tgt_lt {k : Nat} (h : k < 264) : zm_tgt k = zm_y k := by
  unfold zm_tgt
  rw [if_neg (by omega), if_neg (by omega), if_neg (by omega), if_neg (by omega), if_neg (by omega)]
theorem zx_cw_good {k : Nat} (hk : k < 264) : GoodIn zm_ws (zx_cw k) := by
  intro x hx
  rcases List.mem_cons.mp hx with h | h
  · subst h
    exact zm_self _ (zm_all k hk).1
  · exact zm_self x h
theorem zx_call {d j pc k n : Nat} {ls : List (Option Value)} {as rest : List Value} {w w2 w1 : zx_W} {u v : Option Value} (hk : k < 264) (hd : decode (zm_cc j) pc = .ok (zx_iv (zx_ck k) n, 3)) (ht : zx_tg (zm_o j) n = some k) (hl : as.length = zx_na k) (hc : (rest.map fun v => v.category).sum ≤ 8) (hr : zx_rcb (zx_ck k) k as w = true) (ha : (zx_sl as).length ≤ zm_L k)
    (hE : zx_E d k 0 (zx_entry k as) [] w u w2) (hF : zx_E (d + 1) j (pc + 3) ls (u.toList ++ rest) w2 v w1) : zx_E (d + 1) j pc ls (as.reverse ++ rest) w v w1 := by
  obtain ⟨o1, o2, o3, o4, o5, o6, o7, o8, o9⟩ := zm_all k hk
  have m1 := hE.1
  have m2 := hF.1
  refine ⟨⟨Nat.le_trans m1.1 m2.1, Nat.le_trans m1.2 m2.2⟩, ?_⟩
  intro p l e R s m args below meth c H locs cells slots mc ms Q D tc ad sz0 lsr X hG hZ hR hS hL h1 h2 h3 h4 hend
  have hM := zx_met l (D := D) (tc := tc) hk hG ha hE
  have hfr := X.fr
  have hlo := X.lo
  have hroom : (zx_room d w w2).frames + 1 ≤ R.frames ∧ 8 + (zm_L k + 11) + (zx_room d w w2).locals ≤ R.locals := by
    have : zm_L k ≤ 10 := o4
    exact ⟨hfr, by show 8 + (zm_L k + 11) + (d * 64 + 40) ≤ R.locals; omega⟩
  have hcells : cells + (w2.1.2.1 - w.1.2.1) ≤ R.cells ∧ slots + (w2.1.2.2 - w.1.2.2) ≤ R.slots := ⟨by omega, by omega⟩
  have hck : zx_ck k = zm_kd k := by unfold zx_ck; rw [if_pos hk]
  have hna : zx_na k = if zm_kd k = 2 then zm_n k else zm_n k + 1 := by unfold zx_na; rw [if_pos hk]
  have hS0 : CallFix p m c (zm_cc j) (zm_L j) s args zm_ws (zm_own j) := ⟨X.1, X.2.1, X.ml, X.ow, X.ts⟩
  have hcat : 2 * (F0 m pc lsr ((as.reverse ++ rest).map (zx_v ad))).monitorRoom + ((rest.map (zx_v ad)).map fun v => v.category).sum ≤ 8 := by
    rw [zx_v_cats]
    exact lv_room hc
  have go : ∀ a, va_Run p l e R s m args below meth c H locs cells slots (w2.1.2.1 - w.1.2.1) (w2.1.2.2 - w.1.2.2) (F0 m pc lsr ((as.reverse ++ rest).map (zx_v ad))) (rest.map (zx_v ad)) (zx_Qc sz0 D tc ad u w2 a) (fun q => sz0 ≤ q) → W p l e R s m args below meth c H locs cells slots Q (F0 m pc lsr ((as.reverse ++ rest).map (zx_v ad))) := by
    intro a hrun
    refine zx_after hrun hS (fun H1 locs1 hR1 hS1 => ?_)
    show W p l e R s m args below meth c H1 locs1 _ _ Q (F0 m (pc + 3) lsr ((u.map (zx_v ad)).toList ++ rest.map (zx_v ad)))
    rw [zx_toList]
    exact hF.2 p l e R s m args below meth c H1 locs1 _ _ mc ms Q D tc ad sz0 lsr X hG hZ hR1 hS1 hL (by omega) (by omega) h3 h4 hend
  have hpre := zx_pre (as := as) hR X.K X.ne hZ hS
  have hd3 := hd
  rw [hck] at hd3 hr
  have hini : (Cond.initialized (zm_y k).cls).before args s = true := X.ts _ o6
  have hgood := zx_cw_good hk
  have hkd : zm_kd k = 0 ∨ zm_kd k = 1 ∨ zm_kd k = 2 := zm_kd3 k hk
  rcases hkd with h0 | h0 | h0
  · -- an instance's method
    rw [h0] at hd3 hr hna
    match as, hr, hl, hpre, hM, go with
    | .ref b :: As, hr, hl, hpre, hM, go =>
      have hb : w.2.1 b = .inl (zm_o k) ∧ b < w.1.1 := by
        simpa [zx_rcb] using hr
      have hoc : zm_o k < 13 := zm_o13 k hk h0
      obtain ⟨-, cell, q1, q2, q3, -⟩ := zx_ob hR hb.1 hb.2 hoc
      obtain ⟨-, hfc, -⟩ := X.K.1 _ _ (zt_cl (zm_o k) hoc)
      have hlink : (Cond.methodLink (zm_own j) n (zm_y k)).before args s = true := by
        rcases zx_tg_ok ht with g | g
        · rw [h0] at g
          exact absurd g.2.2.2.2 (by decide)
        · have := g.1
          rw [zm_tgt_lt hk] at this
          exact X.ts _ this
      have hcB := callB_of (own := zm_own j) (index := n) (y := zm_y k) (bytes := zm_cc k) (maxL := zm_L k) (ret := zm_r k) (rm := zx_room d w w2) (mc := w2.1.2.1 - w.1.2.1) (ms := w2.1.2.2 - w.1.2.2) (zm_n k) X.ts hgood rfl rfl rfl hini hlink o5 hroom
      refine go _ (va_runV (C := (zm_y k).cls) (b := ad b) (As := As.map (zx_v ad)) hS0 hM ⟨hcB, X.ts _ (o7 h0).1, X.ts _ (o7 h0).2⟩ ⟨zx_blind, ⟨cell, q1, by rw [q3]; rfl, ?_⟩, hpre⟩ rfl ?_ hL.1 ?_ hcat hd3 hcells)
      · rw [q2]
        have : (zm_y k).cls = zc_nm (zm_o k) := o2
        rw [this]
        exact hfc
      · have : (Value.ref b :: As).length = zm_n k + 1 := by rw [hl, hna]; rfl
        simpa using this
      · show ((Value.ref b :: As).reverse ++ rest).map (zx_v ad) = _
        simp [zx_v]
    | [], hr, hl, _, _, _ => simp [zx_rcb] at hr
    | .int _ :: _, hr, _, _, _, _ => simp [zx_rcb] at hr
    | .long _ :: _, hr, _, _, _, _ => simp [zx_rcb] at hr
    | .float _ :: _, hr, _, _, _, _ => simp [zx_rcb] at hr
    | .double _ :: _, hr, _, _, _, _ => simp [zx_rcb] at hr
    | .null :: _, hr, _, _, _, _ => simp [zx_rcb] at hr
    | .retAddr _ :: _, hr, _, _, _, _ => simp [zx_rcb] at hr
  · -- a constructor
    rw [h0] at hd3 hr hna
    have hret : zm_r k = none := (o8 h0).2.2
    match as, hr, hl, hpre, hM, go with
    | .ref b :: As, hr, hl, hpre, hM, go =>
      have hlen : (As.map (zx_v ad)).length = zm_n k := by
        have : (Value.ref b :: As).length = zm_n k + 1 := by rw [hl, hna]; rfl
        simpa using this
      have hst : ((Value.ref b :: As).reverse ++ rest).map (zx_v ad) = (As.map (zx_v ad)).reverse ++ .ref (ad b) :: rest.map (zx_v ad) := by
        simp [zx_v]
      have hw : zx_cw k = Cond.code (zm_y k) (zm_cc k) (zm_L k) none :: zm_ws := by unfold zx_cw; rw [hret]
      rcases zx_tg_ok ht with ⟨g1, g2, g3, g4, g5⟩ | g
      · have hl0 : va_Nw (.methodLinkNest (zm_own j) n (zm_y k) "RaceLocks") s := by
          have := X.ne (.methodLinkNest "RaceLocks$Reader" 11 yX3_init "RaceLocks") List.mem_cons_self
          rw [g3, g2]
          unfold zm_own
          rw [g1]
          exact this
        have hcN := va_cnB (own := zm_own j) (host := "RaceLocks") (index := n) (y := zm_y k) (bytes := zm_cc k) (maxL := zm_L k) (ret := none) (rm := zx_room d w w2) (mc := w2.1.2.1 - w.1.2.1) (ms := w2.1.2.2 - w.1.2.2) (zm_n k) X.ts hgood hw rfl rfl hl0 hini o5 hroom
        exact go _ (va_runIN (b := ad b) (As := As.map (zx_v ad)) hS0 hM ⟨hcN, (o8 h0).2.1, X.ts _ (o8 h0).1⟩ ⟨zx_blind, hpre⟩ rfl hlen hL.1 hst hcat hd3 hcells)
      · have hlink : (Cond.methodLink (zm_own j) n (zm_y k)).before args s = true := by
          have := g.1
          rw [zm_tgt_lt hk] at this
          exact X.ts _ this
        have hcB := callB_of (own := zm_own j) (index := n) (y := zm_y k) (bytes := zm_cc k) (maxL := zm_L k) (ret := none) (rm := zx_room d w w2) (mc := w2.1.2.1 - w.1.2.1) (ms := w2.1.2.2 - w.1.2.2) (zm_n k) X.ts hgood hw rfl rfl hini hlink o5 hroom
        exact go _ (va_runI (b := ad b) (As := As.map (zx_v ad)) hS0 hM ⟨hcB, (o8 h0).2.1, X.ts _ (o8 h0).1⟩ ⟨zx_blind, hpre⟩ rfl hlen hL.1 hst hcat hd3 hcells)
    | [], hr, hl, _, _, _ => simp [zx_rcb] at hr
    | .int _ :: _, hr, _, _, _, _ => simp [zx_rcb] at hr
    | .long _ :: _, hr, _, _, _, _ => simp [zx_rcb] at hr
    | .float _ :: _, hr, _, _, _, _ => simp [zx_rcb] at hr
    | .double _ :: _, hr, _, _, _, _ => simp [zx_rcb] at hr
    | .null :: _, hr, _, _, _, _ => simp [zx_rcb] at hr
    | .retAddr _ :: _, hr, _, _, _, _ => simp [zx_rcb] at hr
  · -- a static method
    rw [h0] at hd3 hr hna
    have hlink : (Cond.methodLink (zm_own j) n (zm_y k)).before args s = true := by
      rcases zx_tg_ok ht with g | g
      · rw [h0] at g
        exact absurd g.2.2.2.2 (by decide)
      · have := g.1
        rw [zm_tgt_lt hk] at this
        exact X.ts _ this
    have hcB := callB_of (own := zm_own j) (index := n) (y := zm_y k) (bytes := zm_cc k) (maxL := zm_L k) (ret := zm_r k) (rm := zx_room d w w2) (mc := w2.1.2.1 - w.1.2.1) (ms := w2.1.2.2 - w.1.2.2) (zm_n k) X.ts hgood rfl rfl rfl hini hlink o5 hroom
    refine go _ (va_runS (As := as.map (zx_v ad)) hS0 hM ⟨hcB, X.ts _ (o9 h0)⟩ ⟨zx_blind, hpre⟩ rfl ?_ hL.1 ?_ hcat hd3 hcells)
    · rw [List.length_map, hl, hna]
      rfl
    · show (as.reverse ++ rest).map (zx_v ad) = _
      simp
