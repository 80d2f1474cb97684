/-! THROWS: feed and end refuse by an exception; the law's own helpers catch it. -/
theorem ze_13_0 : decode (zm_cc 13) 0 = .ok (.aload_n 0, 1) := by decide +kernel
theorem ze_13_1 : decode (zm_cc 13) 1 = .ok (.getfield 84, 3) := by decide +kernel
theorem ze_13_4 : decode (zm_cc 13) 4 = .ok (.ifCond .lt 16, 3) := by decide +kernel
theorem ze_13_7 : decode (zm_cc 13) 7 = .ok (.aload_n 0, 1) := by decide +kernel
theorem ze_13_8 : decode (zm_cc 13) 8 = .ok (.getfield 84, 3) := by decide +kernel
theorem ze_13_11 : decode (zm_cc 13) 11 = .ok (.bipush 20, 2) := by decide +kernel
theorem ze_13_13 : decode (zm_cc 13) 13 = .ok (.iadd, 1) := by decide +kernel
theorem ze_13_14 : decode (zm_cc 13) 14 = .ok (.sipush 1500, 3) := by decide +kernel
theorem ze_13_17 : decode (zm_cc 13) 17 = .ok (.if_icmp .le 13, 3) := by decide +kernel
theorem ze_13_20 : decode (zm_cc 13) 20 = .ok (.new 87, 3) := by decide +kernel
theorem ze_13_23 : decode (zm_cc 13) 23 = .ok (.dup, 1) := by decide +kernel
theorem ze_13_24 : decode (zm_cc 13) 24 = .ok (.ldc 89, 2) := by decide +kernel
theorem ze_13_26 : decode (zm_cc 13) 26 = .ok (.invokespecial 91, 3) := by decide +kernel
theorem ze_13_29 : decode (zm_cc 13) 29 = .ok (.athrow, 1) := by decide +kernel
theorem ze_13_30 : decode (zm_cc 13) 30 = .ok (.aload_n 0, 1) := by decide +kernel
theorem ze_13_31 : decode (zm_cc 13) 31 = .ok (.iload_n 1, 1) := by decide +kernel
theorem ze_13_32 : decode (zm_cc 13) 32 = .ok (.invokevirtual 94, 3) := by decide +kernel
theorem ze_13_35 : decode (zm_cc 13) 35 = .ok (.aload_n 0, 1) := by decide +kernel
theorem ze_13_36 : decode (zm_cc 13) 36 = .ok (.iload_n 2, 1) := by decide +kernel
theorem ze_13_37 : decode (zm_cc 13) 37 = .ok (.invokevirtual 94, 3) := by decide +kernel
theorem ze_13_40 : decode (zm_cc 13) 40 = .ok (.aload_n 0, 1) := by decide +kernel
theorem ze_13_41 : decode (zm_cc 13) 41 = .ok (.iload_n 3, 1) := by decide +kernel
theorem ze_13_42 : decode (zm_cc 13) 42 = .ok (.invokevirtual 94, 3) := by decide +kernel
theorem ze_13_45 : decode (zm_cc 13) 45 = .ok (.aload_n 0, 1) := by decide +kernel
theorem ze_13_46 : decode (zm_cc 13) 46 = .ok (.iload 4, 2) := by decide +kernel
theorem ze_13_48 : decode (zm_cc 13) 48 = .ok (.invokevirtual 94, 3) := by decide +kernel
theorem ze_13_51 : decode (zm_cc 13) 51 = .ok (.aload_n 0, 1) := by decide +kernel
theorem ze_13_52 : decode (zm_cc 13) 52 = .ok (.iload 5, 2) := by decide +kernel
theorem ze_13_54 : decode (zm_cc 13) 54 = .ok (.invokevirtual 94, 3) := by decide +kernel
theorem ze_13_57 : decode (zm_cc 13) 57 = .ok (.aload_n 0, 1) := by decide +kernel
theorem ze_13_58 : decode (zm_cc 13) 58 = .ok (.getfield 84, 3) := by decide +kernel
theorem ze_13_61 : decode (zm_cc 13) 61 = .ok (.ireturn, 1) := by decide +kernel
theorem ze_16_0 : decode (zm_cc 16) 0 = .ok (.iload_n 1, 1) := by decide +kernel
theorem ze_16_1 : decode (zm_cc 16) 1 = .ok (.ifCond .lt 11, 3) := by decide +kernel
theorem ze_16_4 : decode (zm_cc 16) 4 = .ok (.iload_n 1, 1) := by decide +kernel
theorem ze_16_5 : decode (zm_cc 16) 5 = .ok (.aload_n 0, 1) := by decide +kernel
theorem ze_16_6 : decode (zm_cc 16) 6 = .ok (.getfield 84, 3) := by decide +kernel
theorem ze_16_9 : decode (zm_cc 16) 9 = .ok (.if_icmp .le 13, 3) := by decide +kernel
theorem ze_16_12 : decode (zm_cc 16) 12 = .ok (.new 98, 3) := by decide +kernel
theorem ze_16_15 : decode (zm_cc 16) 15 = .ok (.dup, 1) := by decide +kernel
theorem ze_16_16 : decode (zm_cc 16) 16 = .ok (.ldc 100, 2) := by decide +kernel
theorem ze_16_18 : decode (zm_cc 16) 18 = .ok (.invokespecial 102, 3) := by decide +kernel
theorem ze_16_21 : decode (zm_cc 16) 21 = .ok (.athrow, 1) := by decide +kernel
theorem ze_16_22 : decode (zm_cc 16) 22 = .ok (.aload_n 0, 1) := by decide +kernel
theorem ze_16_23 : decode (zm_cc 16) 23 = .ok (.iload_n 1, 1) := by decide +kernel
theorem ze_16_24 : decode (zm_cc 16) 24 = .ok (.putfield 84, 3) := by decide +kernel
theorem ze_16_27 : decode (zm_cc 16) 27 = .ok (.return_, 1) := by decide +kernel
theorem ze_265_0 : decode (zm_cc 265) 0 = .ok (.aload 6, 2) := by decide +kernel
theorem ze_265_2 : decode (zm_cc 265) 2 = .ok (.iconst 0, 1) := by decide +kernel
theorem ze_265_3 : decode (zm_cc 265) 3 = .ok (.aload_n 0, 1) := by decide +kernel
theorem ze_265_4 : decode (zm_cc 265) 4 = .ok (.iload_n 1, 1) := by decide +kernel
theorem ze_265_5 : decode (zm_cc 265) 5 = .ok (.iload_n 2, 1) := by decide +kernel
theorem ze_265_6 : decode (zm_cc 265) 6 = .ok (.iload_n 3, 1) := by decide +kernel
theorem ze_265_7 : decode (zm_cc 265) 7 = .ok (.iload 4, 2) := by decide +kernel
theorem ze_265_9 : decode (zm_cc 265) 9 = .ok (.iload 5, 2) := by decide +kernel
theorem ze_265_11 : decode (zm_cc 265) 11 = .ok (.invokevirtual 7, 3) := by decide +kernel
theorem ze_265_14 : decode (zm_cc 265) 14 = .ok (.i2l, 1) := by decide +kernel
theorem ze_265_15 : decode (zm_cc 265) 15 = .ok (.lastore, 1) := by decide +kernel
theorem ze_265_16 : decode (zm_cc 265) 16 = .ok (.goto 7, 3) := by decide +kernel
theorem ze_265_19 : decode (zm_cc 265) 19 = .ok (.astore 7, 2) := by decide +kernel
theorem ze_265_21 : decode (zm_cc 265) 21 = .ok (.iconst 1, 1) := by decide +kernel
theorem ze_265_22 : decode (zm_cc 265) 22 = .ok (.ireturn, 1) := by decide +kernel
theorem ze_265_23 : decode (zm_cc 265) 23 = .ok (.iconst 0, 1) := by decide +kernel
theorem ze_265_24 : decode (zm_cc 265) 24 = .ok (.ireturn, 1) := by decide +kernel
theorem ze_266_0 : decode (zm_cc 266) 0 = .ok (.aload_n 0, 1) := by decide +kernel
theorem ze_266_1 : decode (zm_cc 266) 1 = .ok (.iload_n 1, 1) := by decide +kernel
theorem ze_266_2 : decode (zm_cc 266) 2 = .ok (.invokevirtual 15, 3) := by decide +kernel
theorem ze_266_5 : decode (zm_cc 266) 5 = .ok (.goto 6, 3) := by decide +kernel
theorem ze_266_8 : decode (zm_cc 266) 8 = .ok (.astore_n 2, 1) := by decide +kernel
theorem ze_266_9 : decode (zm_cc 266) 9 = .ok (.iconst 1, 1) := by decide +kernel
theorem ze_266_10 : decode (zm_cc 266) 10 = .ok (.ireturn, 1) := by decide +kernel
theorem ze_266_11 : decode (zm_cc 266) 11 = .ok (.iconst 0, 1) := by decide +kernel
theorem ze_266_12 : decode (zm_cc 266) 12 = .ok (.ireturn, 1) := by decide +kernel
theorem zm_nest_on : ∀ w ∈ zm_nest, w.onTables = true := by
  intro w hw
  simp only [zm_nest, List.mem_cons, List.not_mem_nil, or_false] at hw
  rcases hw with rfl | rfl | rfl | rfl | rfl | rfl | rfl <;> rfl
theorem zt_F1 : ∀ w ∈ (vx_atS "RaceLocks" 91 "java/lang/IllegalStateException" ["java/lang/RuntimeException", "java/lang/Exception"]).filter goodWord, w ∈ lw_tbl := by decide +kernel
theorem zt_F2 : ∀ w ∈ (vx_atS "RaceLocks" 91 "java/lang/IllegalStateException" ["java/lang/RuntimeException", "java/lang/Exception"]).filter (fun w => !goodWord w), w ∈ zm_nest := by decide +kernel
theorem zt_F3 : ∀ w ∈ Cond.classLink "RaceLocks" 87 "java/lang/IllegalStateException" :: Cond.initialized "java/lang/IllegalStateException" :: vx_atS "RaceLocks" 91 "java/lang/IllegalStateException" ["java/lang/RuntimeException", "java/lang/Exception"], vx_ot w = true := by decide +kernel
theorem zt_F4 {args : Array Value} {s : State} (h1 : ∀ w ∈ zm_ws, w.before args s = true) (h2 : ∀ w ∈ zm_nest, va_Nw w s) : ∀ w ∈ vx_atS "RaceLocks" 91 "java/lang/IllegalStateException" ["java/lang/RuntimeException", "java/lang/Exception"], w.before args s = true :=
  vx_hat (B := zm_nest) (fun w hw => h1 w (List.mem_filter.mpr ⟨zt_F1 w hw, (List.mem_filter.mp hw).2⟩)) zt_F2 (fun w hw => va_Nw.use (zm_nest_on w hw) (h2 w hw))
theorem zt_E1 : ∀ w ∈ (vx_atS "RaceLocks" 102 "java/lang/IllegalArgumentException" ["java/lang/RuntimeException", "java/lang/Exception"]).filter goodWord, w ∈ lw_tbl := by decide +kernel
theorem zt_E2 : ∀ w ∈ (vx_atS "RaceLocks" 102 "java/lang/IllegalArgumentException" ["java/lang/RuntimeException", "java/lang/Exception"]).filter (fun w => !goodWord w), w ∈ zm_nest := by decide +kernel
theorem zt_E3 : ∀ w ∈ Cond.classLink "RaceLocks" 98 "java/lang/IllegalArgumentException" :: Cond.initialized "java/lang/IllegalArgumentException" :: vx_atS "RaceLocks" 102 "java/lang/IllegalArgumentException" ["java/lang/RuntimeException", "java/lang/Exception"], vx_ot w = true := by decide +kernel
theorem zt_E4 {args : Array Value} {s : State} (h1 : ∀ w ∈ zm_ws, w.before args s = true) (h2 : ∀ w ∈ zm_nest, va_Nw w s) : ∀ w ∈ vx_atS "RaceLocks" 102 "java/lang/IllegalArgumentException" ["java/lang/RuntimeException", "java/lang/Exception"], w.before args s = true :=
  vx_hat (B := zm_nest) (fun w hw => h1 w (List.mem_filter.mpr ⟨zt_E1 w hw, (List.mem_filter.mp hw).2⟩)) zt_E2 (fun w hw => va_Nw.use (zm_nest_on w hw) (h2 w hw))
theorem zt_F5 : Cond.classLink "RaceLocks" 87 "java/lang/IllegalStateException" ∈ zm_ws := zr_5 208 rfl rfl
theorem zt_F6 : Cond.initialized "java/lang/IllegalStateException" ∈ zm_ws := zr_1 18 rfl rfl
theorem zt_F7 : Cond.classLink "RaceLocksLaw" 13 "java/lang/IllegalStateException" ∈ zm_ws := zr_5 203 rfl rfl
theorem zt_E5 : Cond.classLink "RaceLocks" 98 "java/lang/IllegalArgumentException" ∈ zm_ws := zr_6 46 rfl rfl
theorem zt_E6 : Cond.initialized "java/lang/IllegalArgumentException" ∈ zm_ws := zr_1 19 rfl rfl
theorem zt_E7 : Cond.classLink "RaceLocksLaw" 19 "java/lang/IllegalArgumentException" ∈ zm_ws := zr_6 41 rfl rfl
def zh_F : List (Nat × Nat × Nat × Nat) := [(0, 16, 19, 13)]
def zh_E : List (Nat × Nat × Nat × Nat) := [(0, 5, 8, 19)]
theorem zt_F8 : Cond.codeWith yL_feed cL_feed 8 (some .int) zh_F ∈ zm_ws := zr_5 202 rfl rfl
theorem zt_E8 : Cond.codeWith yL_end cL_end 3 (some .int) zh_E ∈ zm_ws := zr_6 40 rfl rfl
theorem zt_F9 : Cond.static yL_feed ∈ zm_ws := zr_5 201 rfl rfl
theorem zt_E9 : Cond.static yL_end ∈ zm_ws := zr_6 39 rfl rfl
theorem zt_L0 : Cond.initialized "RaceLocksLaw" ∈ zm_ws := zr_1 0 rfl rfl
theorem zt_F10 : Cond.methodLink "RaceLocksLaw" 7 (zm_y 13) ∈ zm_ws := zr_5 204 rfl rfl
theorem zt_E10 : Cond.methodLink "RaceLocksLaw" 15 (zm_y 16) ∈ zm_ws := zr_6 42 rfl rfl
/-- an exception was made: one cell, six slots -/
def zx_bump (w : zx_W) : zx_W := ((w.1.1, w.1.2.1 + 1, w.1.2.2 + 6), w.2)
theorem zx_R.grown {s U : State} {D : va_G} {tc : FieldType → ClassId} {ad : Nat → Nat} {sz0 : Nat} {H H1 : Heap} {w w' : zx_W} (hG : zx_G ad 2 sz0) (h9 : ¬ w.1.1 < 119) (hvm : s.vm.Alike U.vm) (hz : H.size ≤ H1.size) (hq : ∀ q : Nat, q < H.size → H1[q]? = H[q]?) (e1 : w'.1.1 = w.1.1) (e2 : w'.2 = w.2) (h : zx_R s D tc ad 2 w H) : zx_R U D tc ad 2 w' H1 := by
  refine ⟨⟨by rw [e1]; exact Nat.le_trans h.1.1 hz, fun h8 => absurd (by rw [← e1]; exact h8) h9⟩, by rw [e1]; exact h.2.1, fun p hp => ?_⟩
  rw [e1] at hp
  refine zx_at.to (w := w) hvm (by rw [e2]) (fun ty j => ?_) (hq _ (Nat.lt_of_lt_of_le (hG.lt h.2.1 hp) h.1.1)) (h.2.2 p hp)
  cases ty <;> simp [zx_val, e2]
/-- getfield, in the machine's own words -/
theorem zx_wget {p : Program} {l : Launch} {e : Env} {R : Room} {s : State} {m : MethodId} {args : Array Value} {below : List Frame} {meth : Method} {cd : Code} {H : Heap} {locs : List Loc} {cells slots : Nat} {Q : State → Prop} {D : va_G} {tc : FieldType → ClassId} {ad : Nat → Nat} {lsr : Array Slot} {rest : List Value} {d j pc n c q k : Nat} {w : zx_W} (X : zx_X j d p R s m args meth cd D tc) (hR : zx_R s D tc ad 2 w H) (hl : zl_f (zm_o j) n = some (c, k)) (hk : w.2.1 q = .inl c) (hq : q < w.1.1) (hd : decode (zm_cc j) pc = .ok (.getfield n, 3))
    (kk : W p l e R s m args below meth cd H locs cells slots Q (F0 m (pc + 3) lsr (zx_v ad (zx_val w (zt_ty c k) q k) :: rest))) : W p l e R s m args below meth cd H locs cells slots Q (F0 m pc lsr (.ref (ad q) :: rest)) := by
  obtain ⟨hw, hc, hn⟩ := zl_F_ok _ (zl_find_mem hl)
  obtain ⟨-, cell, q1, q2, q3, q4⟩ := zx_ob hR hk hq hc
  obtain ⟨hS', hfc, kC, hkC, hkind⟩ := X.K.1 c _ (zt_cl c hc)
  obtain ⟨cf, kf, fi, f, hi, hsl⟩ := hS' k hn
  have hst := (u_facts hfc hkC (u_lays X.ts (zt_ok c hc).2.2 hn) hi).1
  have e := zt_dc c hc k hn
  have hi' : _ = _ := hi
  rw [e] at hi'
  refine W.getf X.1 X.2.1 X.ow (X.ts _ hw) hi' hst q1 (by rw [q3]; exact fun h => by cases h) (v := zx_v _ (zx_val w (zt_ty c k) q k)) ?_ rfl rfl hd kk
  rw [hsl]
  exact q4 k hn
def zx_XC (sz0 : Nat) (D : va_G) (tc : FieldType → ClassId) (ad : Nat → Nat) (E0 : String) (w1 : zx_W) : String → State → State → Prop := fun E st t => E = E0 ∧ zx_R t D tc ad 2 w1 t.heap ∧ va_F (fun q => sz0 ≤ q) st t
set_option maxHeartbeats 1000000 in
theorem zv_F {l : Launch} {sz0 x : Nat} {p0 p1 p2 p3 p4 : Int32} {D : va_G} {tc : FieldType → ClassId} {ad : Nat → Nat} {w : zx_W} (hG : zx_G ad 2 sz0) (hx : w.2.1 x = .inl 11) (hxn : x < w.1.1) (h9 : ¬ w.1.1 < 119) (ht : w.2.2.1 x 11 < 0 ∨ 1500 < w.2.2.1 x 11 + 20) :
    vx_Met l (zm_y 13) (zx_cw 13) { frames := 6, cells := 1, slots := 6, locals := 120 } (zx_Pc l sz0 D tc ad [.ref x, .int p0, .int p1, .int p2, .int p3, .int p4] w) (fun _ _ _ _ => False) (zx_XC sz0 D tc ad "java/lang/IllegalStateException" (zx_bump w)) 1 6 (fun q => sz0 ≤ q) := by
  obtain ⟨o1, o2, o3, o4, o5, o6, o7, o8, o9⟩ := zm_all 13 (by decide)
  refine vx_ofW (cc := zm_cc 13) (maxL := zm_L 13) (ret := zm_r 13) o3 rfl ?_
  intro p e s m args below meth c s₁ B hml hno hP
  obtain ⟨rfl, hR, hK, hN, hZ⟩ := hP
  have hts := atoms_spec (ws := zx_cw 13) B.pre
  have hL := zx_entry_L 13 ad [.ref x, .int p0, .int p1, .int p2, .int p3, .int p4] (Nat.le_of_ble_eq_true rfl)
  rw [lg_entry_eq]
  revert hL
  generalize (lg_sl (([.ref x, .int p0, .int p1, .int p2, .int p3, .int p4] : List Value).map (zx_v ad)) ++ List.replicate (zm_L 13 - (lg_sl (([.ref x, .int p0, .int p1, .int p2, .int p3, .int p4] : List Value).map (zx_v ad))).length) Slot.unset).toArray = lsr
  intro hL
  have X : zx_X 13 0 p (headSpec (zx_cw 13) { frames := 6, cells := 1, slots := 6, locals := 120 }).room s m (([.ref x, .int p0, .int p1, .int p2, .int p3, .int p4] : List Value).map (zx_v ad)).toArray meth c D tc := by
    refine ⟨B.exec, B.bytes, hml, B.returns, B.notSynchronized, ?_, (name_of_methodNamed B.named B.method).1, fun x hx => hts x (List.mem_cons_of_mem _ hx), hN, hK, Nat.zero_le _, Nat.le_of_ble_eq_true rfl⟩
    have h1 : s.vm.findClass (zm_y 13).cls = some m.cls := findClass_of_methodNamed B.named
    have h2 : (zm_y 13).cls = zm_own 13 := o2
    rw [← h2]
    exact h1
  obtain ⟨hz1, hz2, hz3, ⟨sa, hz4⟩, ⟨sb, hz5⟩, hz6⟩ := hZ
  have go : W p l e (headSpec (zx_cw 13) { frames := 6, cells := 1, slots := 6, locals := 120 }).room s m (([.ref x, .int p0, .int p1, .int p2, .int p3, .int p4] : List Value).map (zx_v ad)).toArray below meth c s.heap [] 0 0 (vx_MQ below (fun _ _ _ _ => False) (zx_XC sz0 D tc ad "java/lang/IllegalStateException" (zx_bump w)) (([.ref x, .int p0, .int p1, .int p2, .int p3, .int p4] : List Value).map (zx_v ad)).toArray s 1 6 (fun q => sz0 ≤ q)) (F0 m 20 lsr []) := by
    refine vx_throwS (own := "RaceLocks") (cls := "java/lang/IllegalStateException") (text := "the tape would have more than 1500 bytes") (names := ["java/lang/RuntimeException", "java/lang/Exception"]) (ik := 87) (is := 89) (ic := 91) (A := fun q => sz0 ≤ q) B.exec B.bytes hz6 X.ow (by decide +kernel) (by decide +kernel) (X.ts _ zt_F5) (X.ts _ zt_F6) hz4 (zt_F4 X.ts X.ne) zt_F3 hz2 hz3 va_S.rf (hL.1.trans hml.symm) ze_13_20 ze_13_23 ze_13_24 ze_13_26 ze_13_29 (fun x hx => (hno x hx).elim) (by decide) (by decide) (by decide) (by decide) B.notSynchronized ?_ (fun z hz => nomatch hz) (by decide) (by decide)
    intro t hal hsz hold
    exact ⟨rfl, hR.grown hG h9 hal hsz hold rfl rfl, hsz, fun q hq _ => hold q hq⟩
  refine lv_aload_n B.exec B.bytes ze_13_0 rfl (hL.2.2.1 0 (.ref x) rfl) ?_
  refine zx_wget X hR (c := 11) (k := 11) rfl hx hxn ze_13_1 ?_
  refine lv_if_lt B.exec B.bytes ze_13_4 (tgt := 20) rfl (fun _ => go) (fun hn => ?_)
  refine lv_aload_n B.exec B.bytes ze_13_7 rfl (hL.2.2.1 0 (.ref x) rfl) ?_
  refine zx_wget X hR (c := 11) (k := 11) rfl hx hxn ze_13_8 ?_
  refine lv_bipush (v := 20) B.exec B.bytes ze_13_11 (by decide) ?_
  refine lv_iadd B.exec B.bytes ze_13_13 ?_
  refine lv_sipush (v := 1500) B.exec B.bytes ze_13_14 (by decide) ?_
  refine lv_icmp_le B.exec B.bytes ze_13_17 (tgt := 30) rfl (fun hle => ?_) (fun _ => go)
  exfalso
  rcases ht with ht | ht
  · exact hn ht
  · exact Int32.not_lt.mpr hle ht
set_option maxHeartbeats 1000000 in
theorem zv_E {l : Launch} {sz0 x : Nat} {n : Int32} {D : va_G} {tc : FieldType → ClassId} {ad : Nat → Nat} {w : zx_W} (hG : zx_G ad 2 sz0) (hx : w.2.1 x = .inl 11) (hxn : x < w.1.1) (h9 : ¬ w.1.1 < 119) (ht : n < 0 ∨ w.2.2.1 x 11 < n) :
    vx_Met l (zm_y 16) (zx_cw 16) { frames := 6, cells := 1, slots := 6, locals := 120 } (zx_Pc l sz0 D tc ad [.ref x, .int n] w) (fun _ _ _ _ => False) (zx_XC sz0 D tc ad "java/lang/IllegalArgumentException" (zx_bump w)) 1 6 (fun q => sz0 ≤ q) := by
  obtain ⟨o1, o2, o3, o4, o5, o6, o7, o8, o9⟩ := zm_all 16 (by decide)
  refine vx_ofW (cc := zm_cc 16) (maxL := zm_L 16) (ret := zm_r 16) o3 rfl ?_
  intro p e s m args below meth c s₁ B hml hno hP
  obtain ⟨rfl, hR, hK, hN, hZ⟩ := hP
  have hts := atoms_spec (ws := zx_cw 16) B.pre
  have hL := zx_entry_L 16 ad [.ref x, .int n] (Nat.le_of_ble_eq_true rfl)
  rw [lg_entry_eq]
  revert hL
  generalize (lg_sl (([.ref x, .int n] : List Value).map (zx_v ad)) ++ List.replicate (zm_L 16 - (lg_sl (([.ref x, .int n] : List Value).map (zx_v ad))).length) Slot.unset).toArray = lsr
  intro hL
  have X : zx_X 16 0 p (headSpec (zx_cw 16) { frames := 6, cells := 1, slots := 6, locals := 120 }).room s m (([.ref x, .int n] : List Value).map (zx_v ad)).toArray meth c D tc := by
    refine ⟨B.exec, B.bytes, hml, B.returns, B.notSynchronized, ?_, (name_of_methodNamed B.named B.method).1, fun x hx => hts x (List.mem_cons_of_mem _ hx), hN, hK, Nat.zero_le _, Nat.le_of_ble_eq_true rfl⟩
    have h1 : s.vm.findClass (zm_y 16).cls = some m.cls := findClass_of_methodNamed B.named
    have h2 : (zm_y 16).cls = zm_own 16 := o2
    rw [← h2]
    exact h1
  obtain ⟨hz1, hz2, hz3, ⟨sa, hz4⟩, ⟨sb, hz5⟩, hz6⟩ := hZ
  have go : W p l e (headSpec (zx_cw 16) { frames := 6, cells := 1, slots := 6, locals := 120 }).room s m (([.ref x, .int n] : List Value).map (zx_v ad)).toArray below meth c s.heap [] 0 0 (vx_MQ below (fun _ _ _ _ => False) (zx_XC sz0 D tc ad "java/lang/IllegalArgumentException" (zx_bump w)) (([.ref x, .int n] : List Value).map (zx_v ad)).toArray s 1 6 (fun q => sz0 ≤ q)) (F0 m 12 lsr []) := by
    refine vx_throwS (own := "RaceLocks") (cls := "java/lang/IllegalArgumentException") (text := "the tape has no such length") (names := ["java/lang/RuntimeException", "java/lang/Exception"]) (ik := 98) (is := 100) (ic := 102) (A := fun q => sz0 ≤ q) B.exec B.bytes hz6 X.ow (by decide +kernel) (by decide +kernel) (X.ts _ zt_E5) (X.ts _ zt_E6) hz5 (zt_E4 X.ts X.ne) zt_E3 hz2 hz3 va_S.rf (hL.1.trans hml.symm) ze_16_12 ze_16_15 ze_16_16 ze_16_18 ze_16_21 (fun x hx => (hno x hx).elim) (by decide) (by decide) (by decide) (by decide) B.notSynchronized ?_ (fun z hz => nomatch hz) (by decide) (by decide)
    intro t hal hsz hold
    exact ⟨rfl, hR.grown hG h9 hal hsz hold rfl rfl, hsz, fun q hq _ => hold q hq⟩
  refine lv_iload_n B.exec B.bytes ze_16_0 rfl (hL.2.2.1 1 (.int n) rfl) ?_
  refine lv_if_lt B.exec B.bytes ze_16_1 (tgt := 12) rfl (fun _ => go) (fun hn => ?_)
  refine lv_iload_n B.exec B.bytes ze_16_4 rfl (hL.2.2.1 1 (.int n) rfl) ?_
  refine lv_aload_n B.exec B.bytes ze_16_5 rfl (hL.2.2.1 0 (.ref x) rfl) ?_
  refine zx_wget X hR (c := 11) (k := 11) rfl hx hxn ze_16_6 ?_
  refine lv_icmp_le B.exec B.bytes ze_16_9 (tgt := 22) rfl (fun hle => ?_) (fun _ => go)
  exfalso
  rcases ht with ht | ht
  · exact hn ht
  · exact Int32.not_lt.mpr hle ht
