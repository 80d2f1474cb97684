/-! THE LAW'S ENTRY AS A WORLD: place 0 the script, place 1 RESERVED. -/
theorem zt_inst : ∀ c, c < 13 → Cond.instantiable (zc_nm c) (zt_n c) ∈ zm_ws
  | 0, _ => zr_2 107 rfl rfl
  | 1, _ => zr_2 189 rfl rfl
  | 2, _ => zr_2 49 rfl rfl
  | 3, _ => zr_1 148 rfl rfl
  | 4, _ => zr_2 113 rfl rfl
  | 5, _ => zr_2 131 rfl rfl
  | 6, _ => zr_1 31 rfl rfl
  | 7, _ => zr_1 142 rfl rfl
  | 8, _ => zr_2 75 rfl rfl
  | 9, _ => zr_1 174 rfl rfl
  | 10, _ => zr_1 214 rfl rfl
  | 11, _ => zr_1 23 rfl rfl
  | 12, _ => zr_6 63 rfl rfl
  | n + 13, h => absurd h (by omega)
def zw_res (i : Nat) : Int64 := ([439854918756, 1869636974, 1819239275, 127991944667492, 26982, 1701606245, 512852847717, 2002872692, 2002873189, 6384748, 495873782388, 1785686382, 426953237355, 1937010544, 1936744814] : List Int64).getD i 0
def zw_0 (L : Nat) (xs : Nat → Int32) : zx_W := ((2, 0, 0), zx_pk (zK L) 2, (fun q i => if q = 0 then xs i else 0), (fun q i => if q = 1 then zw_res i else 0), (fun _ _ => none))
theorem zw_0_fr (xs : Nat → Int32) : zx_fr 2 (fun q i => if q = 0 then xs i else 0) (fun q i => if q = 1 then zw_res i else 0) (fun _ _ => none) := by
  intro q i hq
  exact ⟨if_neg (by omega), if_neg (by omega), rfl⟩
/-- addresses: the script at b, RESERVED at t, what is made behind the heap -/
def zw_ad (b t sz0 : Nat) (k : Nat) : Nat := if k = 0 then b else if k = 1 then t else sz0 + (k - 2)
theorem zw_G {b t sz0 : Nat} (hb : b < sz0) (ht : t < sz0) : zx_G (zw_ad b t sz0) 2 sz0 := by
  refine ⟨fun k hk => ?_, fun k hk => ?_⟩
  · unfold zw_ad
    rw [if_neg (by omega), if_neg (by omega)]
  · unfold zw_ad
    by_cases h : k = 0
    · rw [if_pos h]
      exact hb
    · rw [if_neg h, if_pos (by omega)]
      exact ht
theorem zw_nest : ∀ w ∈ zm_nest, w ∈ lw_tbl := List.forall_mem_cons.mpr ⟨(List.mem_append_right _ (List.mem_append_left _ (List.mem_of_getElem? (i := 149) rfl))), List.forall_mem_cons.mpr ⟨(List.mem_append_right _ (List.mem_append_right _ (List.mem_append_right _ (List.mem_append_left _ (List.mem_of_getElem? (i := 78) rfl))))), List.forall_mem_cons.mpr ⟨(List.mem_append_right _ (List.mem_append_right _ (List.mem_append_right _ (List.mem_append_right _ (List.mem_append_right _ (List.mem_append_left _ (List.mem_of_getElem? (i := 212) rfl))))))), List.forall_mem_cons.mpr ⟨(List.mem_append_right _ (List.mem_append_right _ (List.mem_append_right _ (List.mem_append_right _ (List.mem_append_right _ (List.mem_append_left _ (List.mem_of_getElem? (i := 214) rfl))))))), List.forall_mem_cons.mpr ⟨(List.mem_append_right _ (List.mem_append_right _ (List.mem_append_right _ (List.mem_append_right _ (List.mem_append_right _ (List.mem_append_left _ (List.mem_of_getElem? (i := 216) rfl))))))), List.forall_mem_cons.mpr ⟨(List.mem_append_right _ (List.mem_append_right _ (List.mem_append_right _ (List.mem_append_right _ (List.mem_append_right _ (List.mem_append_left _ (List.mem_of_getElem? (i := 210) rfl))))))), List.forall_mem_cons.mpr ⟨(List.mem_append_right _ (List.mem_append_right _ (List.mem_append_right _ (List.mem_append_right _ (List.mem_append_right _ (List.mem_append_right _ (List.mem_append_left _ (List.mem_of_getElem? (i := 48) rfl)))))))), fun _ h => absurd h List.not_mem_nil⟩⟩⟩⟩⟩⟩⟩
theorem zw_classes {s : State} {args : Array Value} (hts : ∀ w ∈ zm_ws, w.before args s = true) : ∃ (D : va_G) (tc : FieldType → ClassId), va_K D vwCl (zx_tys tc) s := by
  have hcl : ∀ c, c < 13 → ∃ (cC : ClassId) (iS : Nat → Nat), u_Kn s (zc_nm c) (zc_T c) (zt_n c) cC iS := fun c hc => u_known hts (zt_ok c hc).2.2 (hts _ (zt_inst c hc))
  have har : ∀ ty, zx_ty ty = true → ∃ cA : ClassId, ArrOfT s cA ty ∧ va_RA s cA ty := by
    intro ty hty
    obtain ⟨cA, kA, comp, h1, h2, h3⟩ := Cond.arrayClass_spec (hts _ (zx_arrW ty hty))
    refine ⟨cA, fun n z => ⟨fun k h => (by cases h), kA, h2, comp, h3⟩, ?_⟩
    cases ty with
    | int => exact h1
    | long => exact h1
    | byte => exact h1
    | boolean => exact h1
    | _ => simp [zx_ty] at hty
  refine ⟨(fun c => if h : c < 13 then (hcl c h).choose else 0, fun c => if h : c < 13 then (hcl c h).choose_spec.choose else fun _ => 0), fun ty => if h : zx_ty ty = true then (har ty h).choose else 0, fun c q hq => ?_, fun k q hq => ?_⟩
  · have hc := zt_lt hq
    have e := (zt_cl c hc).symm.trans hq
    cases e
    dsimp only
    rw [dif_pos hc, dif_pos hc]
    exact (hcl c hc).choose_spec.choose_spec
  · have hh : ∀ ty, zx_ty ty = true → ArrOfT s (if h : zx_ty ty = true then (har ty h).choose else 0) ty ∧ va_RA s (if h : zx_ty ty = true then (har ty h).choose else 0) ty := by
      intro ty hty
      rw [dif_pos hty]
      exact (har ty hty).choose_spec
    match k, hq with
    | 0, hq => cases hq; exact hh .int rfl
    | 1, hq => cases hq; exact hh .long rfl
    | 2, hq => cases hq; exact hh .byte rfl
    | 3, hq => cases hq; exact hh .boolean rfl
    | n + 4, hq => cases hq
theorem zw_reserved {s : State} {args : Array Value} (hg : (Jvm.Cond.and given_1 narrow_1).before args s = true) : ∃ t : Nat, (Term.static "RaceLocks" "RESERVED" "[J").eval args s none [] s = some (.ref t) ∧ va_T .long t 15 (fun j => .long (zw_res j)) (fun q => s.heap.size ≤ q) s s.heap := by
  have hv := flat_of_before _ hg
  refine va_Tof (by decide) (hv _ (by decide +kernel)) (va_eqt (hv _ (by decide +kernel))) ?_ (fun a ha => by omega)
  intro j hj
  match j, hj with
    | 0, _ => exact va_eqtl (hv _ (by decide +kernel))
    | 1, _ => exact va_eqtl (hv _ (by decide +kernel))
    | 2, _ => exact va_eqtl (hv _ (by decide +kernel))
    | 3, _ => exact va_eqtl (hv _ (by decide +kernel))
    | 4, _ => exact va_eqtl (hv _ (by decide +kernel))
    | 5, _ => exact va_eqtl (hv _ (by decide +kernel))
    | 6, _ => exact va_eqtl (hv _ (by decide +kernel))
    | 7, _ => exact va_eqtl (hv _ (by decide +kernel))
    | 8, _ => exact va_eqtl (hv _ (by decide +kernel))
    | 9, _ => exact va_eqtl (hv _ (by decide +kernel))
    | 10, _ => exact va_eqtl (hv _ (by decide +kernel))
    | 11, _ => exact va_eqtl (hv _ (by decide +kernel))
    | 12, _ => exact va_eqtl (hv _ (by decide +kernel))
    | 13, _ => exact va_eqtl (hv _ (by decide +kernel))
    | 14, _ => exact va_eqtl (hv _ (by decide +kernel))
    | n + 15, h => exact absurd h (by omega)
set_option maxHeartbeats 1000000 in
theorem zx_law {p : Program} {l : Launch} {e : Env} {s : State} {m : MethodId} {below : List Frame} {meth : Method} {c : Code} {b L : Nat} {xs : Nat → Int32} (hst : l.stackTraces = false) (hnm : meth.name = "law") (C0 : lw_At p s m meth c b L xs) {d : Nat} {w1 : zx_W} (hd1 : d ≤ 2048) (hd2 : d * 64 + 40 ≤ 84000)
    (hgo : zx_go d 264 0 [some (.ref 0), none, none, none, none, none, none] [] (zw_0 L xs) = some (some (.int 1), w1)) (hc : w1.1.2.1 ≤ 600128) (hs : w1.1.2.2 ≤ 7301098) : W p l e room_1 s m #[Value.ref b] below meth c s.heap [] 0 0 (lw_Z below #[Value.ref b] s) (entryFrame m ([Value.ref b] : List Value).toArray 7) := by
  obtain ⟨hx, hb, hr, hml, hown, htl, hX, hbl, hlk, hgv⟩ := C0
  have hts : ∀ w ∈ zm_ws, w.before #[Value.ref b] s = true := fun w hw => htl w (zm_good w hw).1
  obtain ⟨D, tc, hK⟩ := zw_classes hts
  obtain ⟨t, ht1, ht2⟩ := zw_reserved hgv
  have hv := flat_of_before _ hgv
  have hA : ∀ a : Nat, a < s.heap.size → ¬ s.heap.size ≤ a := fun a ha => by omega
  have htl2 : t < s.heap.size := by
    obtain ⟨cell, h1, -⟩ := ht2
    exact (Array.getElem?_eq_some_iff.mp h1).1
  have hG := zw_G hbl htl2
  obtain ⟨sa, _, _, _, hsa, -⟩ := Cond.exactly_spec (hv (.exactly (.string "RaceLocks" 89) "java/lang/String") (by decide +kernel))
  obtain ⟨sb, _, _, _, hsb, -⟩ := Cond.exactly_spec (hv (.exactly (.string "RaceLocks" 100) "java/lang/String") (by decide +kernel))
  have hZ : zx_Z l s.heap.size (zw_ad b t s.heap.size) s := by
    refine ⟨va_Zof (htl _ (List.mem_append_right _ (List.mem_append_right _ (List.mem_append_right _ (List.mem_append_left _ (List.mem_of_getElem? (i := 79) rfl)))))) (htl _ (List.mem_append_right _ (List.mem_append_left _ (List.mem_of_getElem? (i := 1) rfl)))) ht1 hA, ?_, ?_, ⟨sa, vk_R.of (htl _ (List.mem_append_right _ (List.mem_append_right _ (List.mem_append_right _ (List.mem_append_right _ (List.mem_append_right _ (List.mem_append_right _ (List.mem_append_left _ (List.mem_of_getElem? (i := 8) rfl))))))))) hsa⟩, ⟨sb, vk_R.of (htl _ (List.mem_append_right _ (List.mem_append_right _ (List.mem_append_right _ (List.mem_append_right _ (List.mem_append_right _ (List.mem_append_right _ (List.mem_append_left _ (List.mem_of_getElem? (i := 55) rfl))))))))) hsb⟩, hst⟩
    · exact vx_Zqof (htl _ (List.mem_append_right _ (List.mem_append_right _ (List.mem_append_right _ (List.mem_append_right _ (List.mem_append_right _ (List.mem_append_left _ (List.mem_of_getElem? (i := 235) rfl)))))))) (htl _ (List.mem_append_right _ (List.mem_append_left _ (List.mem_of_getElem? (i := 15) rfl)))) (hv _ (by decide +kernel)) hA
    · exact vx_Zqof (htl _ (List.mem_append_right _ (List.mem_append_right _ (List.mem_append_right _ (List.mem_append_right _ (List.mem_append_right _ (List.mem_append_left _ (List.mem_of_getElem? (i := 237) rfl)))))))) (htl _ (List.mem_append_right _ (List.mem_append_left _ (List.mem_of_getElem? (i := 15) rfl)))) (hv _ (by decide +kernel)) hA
  have hR : zx_R s D tc (zw_ad b t s.heap.size) 2 (zw_0 L xs) s.heap := by
    refine ⟨⟨Nat.le_refl _, fun _ => rfl⟩, Nat.le_refl _, fun q hq => ?_⟩
    have hq2 : q < 2 := hq
    match q, hq2 with
    | 0, _ =>
      obtain ⟨scr, h1, h2, h3, h4, h5⟩ := hX
      exact Or.inl ⟨by omega, scr, h1, h2, h3, ⟨Nat.le_of_eq h4.symm, by rw [h4] <;> rfl⟩, fun j hj => h5 j hj⟩
    | 1, _ =>
      obtain ⟨cell, h1, h2, h3, h4, h5, h6, -⟩ := ht2
      exact Or.inl ⟨by omega, cell, h1, h2, h3, ⟨h4, h5⟩, fun j hj => h6 j hj⟩
  have X : zx_X 264 d p room_1 s m #[Value.ref b] meth c D tc := ⟨hx, hb, hml, hr, hlk, hown, hnm, hts, fun w hw => va_Nw.of (zm_nest_on w hw) (htl w (zw_nest w hw)), hK, hd1, hd2⟩
  have hE := zx_go_sound hgo
  rw [lg_entry_eq]
  have hL := zx_entry_L 264 (zw_ad b t s.heap.size) [.ref 0] (Nat.le_of_ble_eq_true rfl)
  refine hE.2 p l e room_1 s m #[Value.ref b] below meth c s.heap [] 0 0 600128 7301098 _ D tc (zw_ad b t s.heap.size) s.heap.size _ X hG hZ hR va_S.rf hL ?_ ?_ (Nat.le_refl _) (Nat.le_refl _) ?_
  · show 0 + (w1.1.2.1 - 0) ≤ 600128
    omega
  · show 0 + (w1.1.2.2 - 0) ≤ 7301098
    omega
  · intro H1 locs1 pc1 lsr1 hrt hR1 hS1
    exact va_forget hS1.2.2 (lw_ret hx hb hr hlk hrt.1)
