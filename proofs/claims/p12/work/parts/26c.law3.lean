/-! THE LAW'S OWN feed AND end: called by the law; they return 0, or 1 where the class threw. -/
def zx_hh (k : Nat) : List (Nat × Nat × Nat × Nat) := if k = 265 then zh_F else zh_E
def zx_cwW (k : Nat) : List Cond := Cond.codeWith (zm_y k) (zm_cc k) (zm_L k) (zm_r k) (zx_hh k) :: zm_ws
theorem zx_cwW_in {k : Nat} (hk : k = 265 ∨ k = 266) : Cond.codeWith (zm_y k) (zm_cc k) (zm_L k) (zm_r k) (zx_hh k) ∈ zm_ws := by
  rcases hk with h | h <;> subst h
  · exact zt_F8
  · exact zt_E8
theorem zx_cwW_good {k : Nat} (hk : k = 265 ∨ k = 266) : GoodIn zm_ws (zx_cwW k) := by
  intro x hx
  rcases List.mem_cons.mp hx with h | h
  · subst h
    exact zm_self _ (zx_cwW_in hk)
  · exact zm_self x h
theorem zx_kW {k : Nat} (hk : k = 265 ∨ k = 266) : plainName (zm_y k).cls = true ∧ (zm_y k).cls = zm_own k ∧ zm_L k ≤ 10 ∧ (zm_y k).cls = "RaceLocksLaw" ∧ ((zm_y k).cls ≠ "java/lang/invoke/MethodHandle" ∧ (zm_y k).cls ≠ "java/lang/invoke/VarHandle" ∧ (parseMethodDescriptor (zm_y k).desc).map (fun d => d.parameters.length) = some (zm_n k)) ∧ Cond.static (zm_y k) ∈ zm_ws ∧ zm_kd k = 2 := by
  rcases hk with h | h <;> subst h
  · exact ⟨by decide +kernel, rfl, by decide +kernel, rfl, ⟨by decide +kernel, by decide +kernel, by decide +kernel⟩, zt_F9, by decide +kernel⟩
  · exact ⟨by decide +kernel, rfl, by decide +kernel, rfl, ⟨by decide +kernel, by decide +kernel, by decide +kernel⟩, zt_E9, by decide +kernel⟩
/-- the road without a throw -/
theorem zx_metW (l : Launch) {d k sz0 : Nat} {D : va_G} {tc : FieldType → ClassId} {ad : Nat → Nat} {as : List Value} {w w1 : zx_W} {v : Option Value} (hk : k = 265 ∨ k = 266) (hG : zx_G ad 2 sz0) (ha : (zx_sl as).length ≤ zm_L k) (hE : zx_E d k 0 (zx_entry k as) [] w v w1) :
    Met l (zm_y k) (zx_cwW k) (zx_room d w w1) (zx_Pc l sz0 D tc ad as w) (zx_Qc sz0 D tc ad v w1) (w1.1.2.1 - w.1.2.1) (w1.1.2.2 - w.1.2.2) (fun q => sz0 ≤ q) := by
  obtain ⟨o3, o2, -, -, -, -, -⟩ := zx_kW hk
  refine va_MetW (cc := zm_cc k) (maxL := zm_L k) (ret := zm_r k) (hh := zx_hh k) o3 rfl ?_
  intro p e s m args below meth c s₁ B hml hP
  obtain ⟨rfl, hR, hK, hN, hZ⟩ := hP
  have hts := atoms_spec (ws := zx_cwW k) B.pre
  rw [lg_entry_eq]
  have X : zx_X k d p (headSpec (zx_cwW k) (zx_room d w w1)).room s m (as.map (zx_v ad)).toArray meth c D tc := by
    refine ⟨B.exec, B.bytes, hml, B.returns, B.notSynchronized, ?_, (name_of_methodNamed B.named B.method).1, fun x hx => hts x (List.mem_cons_of_mem _ hx), hN, hK, Nat.le_refl _, Nat.le_refl _⟩
    have h1 : s.vm.findClass (zm_y k).cls = some m.cls := findClass_of_methodNamed B.named
    rw [← o2]
    exact h1
  refine hE.2 p l e _ s m _ below meth c s.heap [] 0 0 (w1.1.2.1 - w.1.2.1) (w1.1.2.2 - w.1.2.2) _ D tc ad sz0 _ X hG hZ hR va_S.rf (zx_entry_L k ad as ha) (by omega) (by omega) (Nat.le_refl _) (Nat.le_refl _) ?_
  intro H1 locs1 pc1 lsr1 hrt hR1 hS1
  have hq : ∀ t : State, t.heap = H1 → s.WarmedH t.vm → zx_Qc sz0 D tc ad v w1 (as.map (zx_v ad)).toArray s (.returned (v.map (zx_v ad))) t := fun t ht hW => ⟨rfl, by rw [ht]; exact hR1.moved hW.alike, hS1.F ht⟩
  have hf : ∀ q ∈ locs1, (fun q => sz0 ≤ q) q.base := hS1.2.2
  cases v with
  | none => exact W.vret B.exec B.bytes (B.returns.trans hrt.2) hq hf hrt.1 B.notSynchronized
  | some x =>
    cases x with
    | int x =>
      obtain ⟨h1, ty, h2, h3⟩ := hrt
      exact W.zret B.exec B.bytes (B.returns.trans h2) h3 hq hf h1 B.notSynchronized
    | long x => exact W.lret B.exec B.bytes (B.returns.trans hrt.2) hq hf hrt.1 B.notSynchronized
    | ref x =>
      obtain ⟨h1, rt, h2, h3⟩ := hrt
      exact W.aret B.exec B.bytes (B.returns.trans h2) h3 (Or.inr ⟨_, rfl⟩) hq hf h1 B.notSynchronized
    | null =>
      obtain ⟨h1, rt, h2, h3⟩ := hrt
      exact W.aret B.exec B.bytes (B.returns.trans h2) h3 (Or.inl rfl) hq hf h1 B.notSynchronized
    | _ => exact hrt.elim
set_option maxHeartbeats 1000000 in
/-- the road with a throw -/
theorem zv_LF {l : Launch} {sz0 x : Nat} {o : Nat} {p0 p1 p2 p3 p4 : Int32} {D : va_G} {tc : FieldType → ClassId} {ad : Nat → Nat} {w : zx_W} (hG : zx_G ad 2 sz0) (hx : w.2.1 x = .inl 11) (hxn : x < w.1.1) (h9 : ¬ w.1.1 < 119) (ht : w.2.2.1 x 11 < 0 ∨ 1500 < w.2.2.1 x 11 + 20) :
    Met l (zm_y 265) (zx_cwW 265) { frames := 8, cells := 1, slots := 6, locals := 200 } (zx_Pc l sz0 D tc ad [.ref x, .int p0, .int p1, .int p2, .int p3, .int p4, .ref o] w) (zx_Qc sz0 D tc ad (some (.int 1)) (zx_bump w)) 1 6 (fun q => sz0 ≤ q) := by
  obtain ⟨o1, o2, o3, o4, o5, o6, o7, o8, o9⟩ := zm_all 13 (by decide)
  obtain ⟨q3, q2, -, -, -, -, -⟩ := zx_kW (k := 265) (by decide)
  refine va_MetW (cc := zm_cc 265) (maxL := zm_L 265) (ret := zm_r 265) (hh := zx_hh 265) q3 rfl ?_
  intro p e s m args below meth c s₁ B hml hP
  obtain ⟨rfl, hR, hK, hN, hZ⟩ := hP
  have hts := atoms_spec (ws := zx_cwW 265) B.pre
  have htab : c.exceptionTable.toList = _ := vx_table (x := zm_y 265) (hh := zx_hh 265) B (hts _ List.mem_cons_self)
  have hL := zx_entry_L 265 ad [.ref x, .int p0, .int p1, .int p2, .int p3, .int p4, .ref o] (Nat.le_of_ble_eq_true rfl)
  rw [lg_entry_eq]
  revert hL
  generalize (lg_sl (([.ref x, .int p0, .int p1, .int p2, .int p3, .int p4, .ref o] : List Value).map (zx_v ad)) ++ List.replicate (zm_L 265 - (lg_sl (([.ref x, .int p0, .int p1, .int p2, .int p3, .int p4, .ref o] : List Value).map (zx_v ad))).length) Slot.unset).toArray = lsr
  intro hL
  have X : zx_X 265 0 p (headSpec (zx_cwW 265) { frames := 8, cells := 1, slots := 6, locals := 200 }).room s m (([.ref x, .int p0, .int p1, .int p2, .int p3, .int p4, .ref o] : List Value).map (zx_v ad)).toArray meth c D tc := by
    refine ⟨B.exec, B.bytes, hml, B.returns, B.notSynchronized, ?_, (name_of_methodNamed B.named B.method).1, fun x hx => hts x (List.mem_cons_of_mem _ hx), hN, hK, Nat.zero_le _, Nat.le_of_ble_eq_true rfl⟩
    have h1 : s.vm.findClass (zm_y 265).cls = some m.cls := findClass_of_methodNamed B.named
    rw [← q2]
    exact h1
  refine lv_aload B.exec B.bytes ze_265_0 (hL.2.2.1 6 (.ref o) rfl) ?_
  refine lv_iconst (v := 0) B.exec B.bytes ze_265_2 (by decide) ?_
  refine lv_aload_n B.exec B.bytes ze_265_3 rfl (hL.2.2.1 0 (.ref x) rfl) ?_
  refine lv_iload_n B.exec B.bytes ze_265_4 rfl (hL.2.2.1 1 (.int p0) rfl) ?_
  refine lv_iload_n B.exec B.bytes ze_265_5 rfl (hL.2.2.1 2 (.int p1) rfl) ?_
  refine lv_iload_n B.exec B.bytes ze_265_6 rfl (hL.2.2.1 3 (.int p2) rfl) ?_
  refine lv_iload B.exec B.bytes ze_265_7 (hL.2.2.1 4 (.int p3) rfl) ?_
  refine lv_iload B.exec B.bytes ze_265_9 (hL.2.2.1 5 (.int p4) rfl) ?_
  have hM := zv_F (l := l) (D := D) (tc := tc) (p0 := p0) (p1 := p1) (p2 := p2) (p3 := p3) (p4 := p4) hG hx hxn h9 ht
  have hpre := zx_pre (l := l) (as := .ref x :: [.int p0, .int p1, .int p2, .int p3, .int p4]) hR hK hN hZ va_S.rf
  obtain ⟨-, cell, c1, c2, c3, -⟩ := zx_ob hR hx hxn (by decide)
  obtain ⟨-, hfc, -⟩ := hK.1 _ _ (zt_cl 11 (by decide))
  have hcB := callB_of (own := "RaceLocksLaw") (index := 7) (y := zm_y 13) (bytes := zm_cc 13) (maxL := zm_L 13) (ret := zm_r 13) (R := (headSpec (zx_cwW 265) { frames := 8, cells := 1, slots := 6, locals := 200 }).room) (rm := { frames := 6, cells := 1, slots := 6, locals := 120 }) (mc := 1) (ms := 6) (zm_n 13) X.ts (zx_cw_good (k := 13) (by decide)) rfl rfl rfl (X.ts _ o6) (X.ts _ zt_F10) o5 ⟨by decide, by decide +kernel⟩
  have hrun := vx_runV (p := p) (l := l) (e := e) (below := below) (meth := meth) (H := s.heap) (locs := []) (cells := 0) (slots := 0) (C := (zm_y 13).cls) (b := ad x) (As := ([.int p0, .int p1, .int p2, .int p3, .int p4] : List Value).map (zx_v ad)) (rest := [.int 0, .ref (ad o)]) (g := F0 m 11 lsr (((([.int p0, .int p1, .int p2, .int p3, .int p4] : List Value).map (zx_v ad)).reverse) ++ .ref (ad x) :: [.int 0, .ref (ad o)])) (nL := zm_L 265) (cc := zm_cc 265) ⟨B.exec, B.bytes, hml, X.ow, X.ts⟩ hM ⟨hcB, X.ts _ (o7 (by decide +kernel)).1, X.ts _ (o7 (by decide +kernel)).2⟩ ⟨zx_blind, ⟨cell, c1, by rw [c3]; rfl, by rw [c2]; exact hfc⟩, hpre⟩ rfl rfl hL.1 rfl (Nat.le_of_ble_eq_true rfl) ze_265_11 ⟨by decide, by decide⟩
  intro T hT XS
  rcases hrun T hT XS with ⟨v, st₀, t, T', L, h0, X', hL', e1, e2, hfalse, st⟩ | ⟨q, st₀, t, T', L, E, ce, h0, X', hL', e1, e2, ⟨rfl, hR', hF⟩, hce, hcv, hcl, st⟩
  · exact hfalse.elim
  · have hal : t.vm.Alike s.vm := by rw [← e2]; exact X'.warmed.alike.symm
    have hk : W p l e (headSpec (zx_cwW 265) { frames := 8, cells := 1, slots := 6, locals := 200 }).room s m (([.ref x, .int p0, .int p1, .int p2, .int p3, .int p4, .ref o] : List Value).map (zx_v ad)).toArray below meth c T'.heap ([] ++ L) (0 + 1) (0 + 6) (MQ below (zx_Qc sz0 D tc ad (some (.int 1)) (zx_bump w)) (([.ref x, .int p0, .int p1, .int p2, .int p3, .int p4, .ref o] : List Value).map (zx_v ad)).toArray s 1 6 (fun q => sz0 ≤ q)) (F0 m 19 lsr [.ref q]) := by
      refine lv_astore (i := 7) (x := q) B.exec B.bytes ze_265_19 hL.has (by decide) rfl ?_
      intro ls' hl'
      refine lv_iconst (v := 1) B.exec B.bytes ze_265_21 (by decide) ?_
      refine W.zret (ty := .int) B.exec B.bytes B.returns rfl ?_ ?_ ze_265_22 B.notSynchronized
      · intro u hu hW
        refine ⟨rfl, ?_, ?_⟩
        · rw [hu, e1]
          exact hR'.moved (hal.trans hW.alike)
        · have hF1 : st₀.heap.size ≤ t.heap.size := hF.1
          have hF2 := hF.2
          rw [h0] at hF1 hF2
          exact ⟨by rw [hu, e1]; exact hF1, fun z hz hzA => by rw [hu, e1]; exact hF2 z hz hzA⟩
      · intro z hz
        rcases List.mem_append.mp hz with h | h
        · cases h
        · exact hL' z h
    obtain ⟨t2, a1, b1⟩ := zv_catch (own := "RaceLocksLaw") (name := "java/lang/IllegalStateException") (E := "java/lang/IllegalStateException") (ls := lsr) (rest := [.int 0, .ref (ad o)]) (pc := 11) X.ow htab (by decide) (by decide) (X.ts _ zt_F7) (va_Nw.use rfl (hN (.castable "java/lang/IllegalStateException" "java/lang/IllegalStateException") (by simp [zm_nest]))) (by rw [e1]; exact hce) hcv hcl (H := T'.heap) hk T' rfl X'
    exact ⟨t2, st.trans a1, b1⟩
set_option maxHeartbeats 1000000 in
/-- the road with a throw -/
theorem zv_LE {l : Launch} {sz0 x : Nat} {n : Int32} {D : va_G} {tc : FieldType → ClassId} {ad : Nat → Nat} {w : zx_W} (hG : zx_G ad 2 sz0) (hx : w.2.1 x = .inl 11) (hxn : x < w.1.1) (h9 : ¬ w.1.1 < 119) (ht : n < 0 ∨ w.2.2.1 x 11 < n) :
    Met l (zm_y 266) (zx_cwW 266) { frames := 8, cells := 1, slots := 6, locals := 200 } (zx_Pc l sz0 D tc ad [.ref x, .int n] w) (zx_Qc sz0 D tc ad (some (.int 1)) (zx_bump w)) 1 6 (fun q => sz0 ≤ q) := by
  obtain ⟨o1, o2, o3, o4, o5, o6, o7, o8, o9⟩ := zm_all 16 (by decide)
  obtain ⟨q3, q2, -, -, -, -, -⟩ := zx_kW (k := 266) (by decide)
  refine va_MetW (cc := zm_cc 266) (maxL := zm_L 266) (ret := zm_r 266) (hh := zx_hh 266) q3 rfl ?_
  intro p e s m args below meth c s₁ B hml hP
  obtain ⟨rfl, hR, hK, hN, hZ⟩ := hP
  have hts := atoms_spec (ws := zx_cwW 266) B.pre
  have htab : c.exceptionTable.toList = _ := vx_table (x := zm_y 266) (hh := zx_hh 266) B (hts _ List.mem_cons_self)
  have hL := zx_entry_L 266 ad [.ref x, .int n] (Nat.le_of_ble_eq_true rfl)
  rw [lg_entry_eq]
  revert hL
  generalize (lg_sl (([.ref x, .int n] : List Value).map (zx_v ad)) ++ List.replicate (zm_L 266 - (lg_sl (([.ref x, .int n] : List Value).map (zx_v ad))).length) Slot.unset).toArray = lsr
  intro hL
  have X : zx_X 266 0 p (headSpec (zx_cwW 266) { frames := 8, cells := 1, slots := 6, locals := 200 }).room s m (([.ref x, .int n] : List Value).map (zx_v ad)).toArray meth c D tc := by
    refine ⟨B.exec, B.bytes, hml, B.returns, B.notSynchronized, ?_, (name_of_methodNamed B.named B.method).1, fun x hx => hts x (List.mem_cons_of_mem _ hx), hN, hK, Nat.zero_le _, Nat.le_of_ble_eq_true rfl⟩
    have h1 : s.vm.findClass (zm_y 266).cls = some m.cls := findClass_of_methodNamed B.named
    rw [← q2]
    exact h1
  refine lv_aload_n B.exec B.bytes ze_266_0 rfl (hL.2.2.1 0 (.ref x) rfl) ?_
  refine lv_iload_n B.exec B.bytes ze_266_1 rfl (hL.2.2.1 1 (.int n) rfl) ?_
  have hM := zv_E (l := l) (D := D) (tc := tc) (n := n) hG hx hxn h9 ht
  have hpre := zx_pre (l := l) (as := .ref x :: [.int n]) hR hK hN hZ va_S.rf
  obtain ⟨-, cell, c1, c2, c3, -⟩ := zx_ob hR hx hxn (by decide)
  obtain ⟨-, hfc, -⟩ := hK.1 _ _ (zt_cl 11 (by decide))
  have hcB := callB_of (own := "RaceLocksLaw") (index := 15) (y := zm_y 16) (bytes := zm_cc 16) (maxL := zm_L 16) (ret := zm_r 16) (R := (headSpec (zx_cwW 266) { frames := 8, cells := 1, slots := 6, locals := 200 }).room) (rm := { frames := 6, cells := 1, slots := 6, locals := 120 }) (mc := 1) (ms := 6) (zm_n 16) X.ts (zx_cw_good (k := 16) (by decide)) rfl rfl rfl (X.ts _ o6) (X.ts _ zt_E10) o5 ⟨by decide, by decide +kernel⟩
  have hrun := vx_runV (p := p) (l := l) (e := e) (below := below) (meth := meth) (H := s.heap) (locs := []) (cells := 0) (slots := 0) (C := (zm_y 16).cls) (b := ad x) (As := ([.int n] : List Value).map (zx_v ad)) (rest := []) (g := F0 m 2 lsr (((([.int n] : List Value).map (zx_v ad)).reverse) ++ .ref (ad x) :: [])) (nL := zm_L 266) (cc := zm_cc 266) ⟨B.exec, B.bytes, hml, X.ow, X.ts⟩ hM ⟨hcB, X.ts _ (o7 (by decide +kernel)).1, X.ts _ (o7 (by decide +kernel)).2⟩ ⟨zx_blind, ⟨cell, c1, by rw [c3]; rfl, by rw [c2]; exact hfc⟩, hpre⟩ rfl rfl hL.1 rfl (Nat.le_of_ble_eq_true rfl) ze_266_2 ⟨by decide, by decide⟩
  intro T hT XS
  rcases hrun T hT XS with ⟨v, st₀, t, T', L, h0, X', hL', e1, e2, hfalse, st⟩ | ⟨q, st₀, t, T', L, E, ce, h0, X', hL', e1, e2, ⟨rfl, hR', hF⟩, hce, hcv, hcl, st⟩
  · exact hfalse.elim
  · have hal : t.vm.Alike s.vm := by rw [← e2]; exact X'.warmed.alike.symm
    have hk : W p l e (headSpec (zx_cwW 266) { frames := 8, cells := 1, slots := 6, locals := 200 }).room s m (([.ref x, .int n] : List Value).map (zx_v ad)).toArray below meth c T'.heap ([] ++ L) (0 + 1) (0 + 6) (MQ below (zx_Qc sz0 D tc ad (some (.int 1)) (zx_bump w)) (([.ref x, .int n] : List Value).map (zx_v ad)).toArray s 1 6 (fun q => sz0 ≤ q)) (F0 m 8 lsr [.ref q]) := by
      refine lv_astore_n (i := 2) (x := q) B.exec B.bytes ze_266_8 rfl hL.has (by decide) rfl ?_
      intro ls' hl'
      refine lv_iconst (v := 1) B.exec B.bytes ze_266_9 (by decide) ?_
      refine W.zret (ty := .int) B.exec B.bytes B.returns rfl ?_ ?_ ze_266_10 B.notSynchronized
      · intro u hu hW
        refine ⟨rfl, ?_, ?_⟩
        · rw [hu, e1]
          exact hR'.moved (hal.trans hW.alike)
        · have hF1 : st₀.heap.size ≤ t.heap.size := hF.1
          have hF2 := hF.2
          rw [h0] at hF1 hF2
          exact ⟨by rw [hu, e1]; exact hF1, fun z hz hzA => by rw [hu, e1]; exact hF2 z hz hzA⟩
      · intro z hz
        rcases List.mem_append.mp hz with h | h
        · cases h
        · exact hL' z h
    obtain ⟨t2, a1, b1⟩ := zv_catch (own := "RaceLocksLaw") (name := "java/lang/IllegalArgumentException") (E := "java/lang/IllegalArgumentException") (ls := lsr) (rest := []) (pc := 2) X.ow htab (by decide) (by decide) (X.ts _ zt_E7) (va_Nw.use rfl (hN (.castable "java/lang/IllegalArgumentException" "java/lang/IllegalArgumentException") (by simp [zm_nest]))) (by rw [e1]; exact hce) hcv hcl (H := T'.heap) hk T' rfl X'
    exact ⟨t2, st.trans a1, b1⟩
theorem zx_tg_nat {o n k : Nat} (h : zx_tg o n = some k) (hk : 1000 ≤ k) : Cond.methodLink (zc_nm o) n (zm_tgt k) ∈ zm_ws := by
  rcases zx_tg_ok h with g | g
  · have := g.2.2.2.1
    omega
  · exact g.1
/-- what the law's helper does, where the class throws -/
def zx_thr (k : Nat) (as : List Value) (w : zx_W) : Prop := match as with
  | [.ref x, .int _, .int _, .int _, .int _, .int _, .ref _] => k = 1003 ∧ (w.2.1 x = .inl 11 ∧ x < w.1.1) ∧ ¬ w.1.1 < 119 ∧ (w.2.2.1 x 11 < 0 ∨ 1500 < w.2.2.1 x 11 + 20)
  | [.ref x, .int n] => k = 1004 ∧ (w.2.1 x = .inl 11 ∧ x < w.1.1) ∧ ¬ w.1.1 < 119 ∧ (n < 0 ∨ w.2.2.1 x 11 < n)
  | _ => False
theorem zx_thr_met (l : Launch) {sz0 k : Nat} {as : List Value} {D : va_G} {tc : FieldType → ClassId} {ad : Nat → Nat} {w : zx_W} (hk : k = 265 ∨ k = 266) (hG : zx_G ad 2 sz0) (h : zx_thr (k + 738) as w) : Met l (zm_y k) (zx_cwW k) { frames := 8, cells := 1, slots := 6, locals := 200 } (zx_Pc l sz0 D tc ad as w) (zx_Qc sz0 D tc ad (some (.int 1)) (zx_bump w)) 1 6 (fun q => sz0 ≤ q) := by
  unfold zx_thr at h
  split at h
  · obtain ⟨h1, h2, h3, h4⟩ := h
    have : k = 265 := by omega
    subst this
    exact zv_LF hG h2.1 h2.2 h3 h4
  · obtain ⟨h1, h2, h3, h4⟩ := h
    have : k = 266 := by omega
    subst this
    exact zv_LE hG h2.1 h2.2 h3 h4
  · exact h.elim
theorem zx_call3 {d j pc k n : Nat} {ls : List (Option Value)} {as rest : List Value} {w w2 w1 : zx_W} {u v : Option Value} {rm : Room} (hk : k = 265 ∨ k = 266) (hd : decode (zm_cc j) pc = .ok (.invokestatic n, 3)) (ht : zx_tg (zm_o j) n = some (k + 738)) (hl : as.length = zm_n k) (hc : (rest.map fun v => v.category).sum ≤ 8) (hm : w.1.2.1 ≤ w2.1.2.1 ∧ w.1.2.2 ≤ w2.1.2.2)
    (hr1 : rm.cells = w2.1.2.1 - w.1.2.1) (hr2 : rm.slots = w2.1.2.2 - w.1.2.2) (hr3 : rm.frames ≤ d) (hr4 : rm.locals ≤ d * 64 + 40) (hM : ∀ (l : Launch) (D : va_G) (tc : FieldType → ClassId) (ad : Nat → Nat) (sz0 : Nat), zx_G ad 2 sz0 → Met l (zm_y k) (zx_cwW k) rm (zx_Pc l sz0 D tc ad as w) (zx_Qc sz0 D tc ad u w2) (w2.1.2.1 - w.1.2.1) (w2.1.2.2 - w.1.2.2) (fun q => sz0 ≤ q))
    (hF : zx_E (d + 1) j (pc + 3) ls (u.toList ++ rest) w2 v w1) : zx_E (d + 1) j pc ls (as.reverse ++ rest) w v w1 := by
  obtain ⟨o3, o2, o4, o5, o6, o7, o8⟩ := zx_kW hk
  have m2 := hF.1
  refine ⟨⟨Nat.le_trans hm.1 m2.1, Nat.le_trans hm.2 m2.2⟩, ?_⟩
  intro p l e R s m args below meth c H locs cells slots mc ms Q D tc ad sz0 lsr X hG hZ hR hS hL h1 h2 h3 h4 hend
  have hfr := X.fr
  have hlo := X.lo
  have hcells : cells + (w2.1.2.1 - w.1.2.1) ≤ R.cells ∧ slots + (w2.1.2.2 - w.1.2.2) ≤ R.slots := ⟨by omega, by omega⟩
  have hcat : 2 * (F0 m pc lsr ((as.reverse ++ rest).map (zx_v ad))).monitorRoom + ((rest.map (zx_v ad)).map fun v => v.category).sum ≤ 8 := by
    rw [zx_v_cats]
    exact lv_room hc
  have hlink := zx_tg_nat ht (by omega)
  have htgt : zm_tgt (k + 738) = zm_y k := by
    rcases hk with h | h <;> subst h <;> rfl
  rw [htgt] at hlink
  have hini : (Cond.initialized (zm_y k).cls).before args s = true := by rw [o5]; exact X.ts _ zt_L0
  have cw : vx_CSW R s args (zm_own j) n (zm_y k) (zm_cc k) (zm_L k) (zm_r k) (zx_hh k) (zx_cwW k) rm (w2.1.2.1 - w.1.2.1) (w2.1.2.2 - w.1.2.2) (zm_n k) := by
    refine ⟨⟨hr1, hr2, by omega, by omega, pay_in X.ts (zx_cwW_good hk), List.mem_cons_self⟩, X.ts _ (zx_cwW_in hk), hini, ⟨o6.1, o6.2.1⟩, fun sig h => ?_, X.ts _ hlink, X.ts _ o7⟩
    have h2 := o6.2.2
    rw [h] at h2
    exact (Option.some.inj h2).symm
  refine zx_after (vx_runSW (As := as.map (zx_v ad)) ⟨X.1, X.2.1, X.ml, X.ow, X.ts⟩ (hM l D tc ad sz0 hG) cw ⟨zx_blind, zx_pre hR X.K X.ne hZ hS⟩ rfl (by rw [List.length_map]; exact hl) hL.1 (by simp) hcat hd hcells) hS (fun H1 locs1 hR1 hS1 => ?_)
  show W p l e R s m args below meth c H1 locs1 _ _ Q (F0 m (pc + 3) lsr ((u.map (zx_v ad)).toList ++ rest.map (zx_v ad)))
  rw [zx_toList]
  exact hF.2 p l e R s m args below meth c H1 locs1 _ _ mc ms Q D tc ad sz0 lsr X hG hZ hR1 hS1 hL (by omega) (by omega) h3 h4 hend
