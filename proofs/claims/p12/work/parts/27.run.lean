/-! THE JDK's OWN: Object's constructor, Math.max, System.arraycopy -/
theorem zn_ac1 : Cond.native arraycopyName ∈ zm_ws := zr_4 106 rfl rfl
theorem zn_ac2 : Cond.static arraycopyName ∈ zm_ws := zr_4 105 rfl rfl
theorem zn_ac3 : Cond.initialized "java/lang/System" ∈ zm_ws := zr_1 21 rfl rfl
theorem zn_oi1 : Cond.instanceMethod Lib.objectInit ∈ zm_ws := zr_1 28 rfl rfl
theorem zn_oi2 : Cond.code Lib.objectInit ⟨#[0xb1]⟩ 1 none ∈ zm_ws := zr_1 29 rfl rfl
theorem zn_mx1 : Cond.static Lib.Math.max.name ∈ zm_ws := zr_2 119 rfl rfl
theorem zn_mx2 : Cond.initialized "java/lang/Math" ∈ zm_ws := zr_1 11 rfl rfl
theorem zn_mx3 : Cond.code Lib.Math.max.name Lib.Math.max.code 2 (some .int) ∈ zm_ws := zr_2 120 rfl rfl
def zx_copy (w : zx_W) (a b sp dp m : Nat) : zx_W := (w.1, w.2.1, (fun q i => if q = b then va_cpy (w.2.2.1 a) (w.2.2.1 b) sp dp m i else w.2.2.1 q i), w.2.2.2.1, w.2.2.2.2)
theorem zx_copy_ne {w : zx_W} {a b sp dp m : Nat} {ty : FieldType} {q j : Nat} (h : q ≠ b) : zx_val (zx_copy w a b sp dp m) ty q j = zx_val w ty q j := by
  cases ty <;> simp [zx_val, zx_copy, h]
section NAT
variable {d j pc : Nat} {ls : List (Option Value)} {r : List Value} {w : zx_W} {v : Option Value} {w1 : zx_W}
theorem zx_n_obj {n q : Nat} (ht : zx_tg (zm_o j) n = some 1001) (hc : (r.map fun v => v.category).sum ≤ 8) (hd : decode (zm_cc j) pc = .ok (.invokespecial n, 3)) (h : zx_E (d + 1) j (pc + 3) ls r w v w1) : zx_E (d + 1) j pc ls (.ref q :: r) w v w1 := by
  have hl := zx_tg_nat ht (by decide)
  refine zx_pure (fun X hZ hR hL hS _ _ kk => ?_) h
  have h1 := X.fr
  have h2 := X.lo
  refine W.objInit X.1 X.2.1 X.ow (X.ts _ hl) (X.ts _ zn_oi1) (X.ts _ zn_oi2) rfl (by rw [X.ml]; exact hL.1) rfl hd (by omega) ?_ kk
  have h3 := lv_room (m := ‹MethodId›) (pc := pc) (ls := ‹Array Slot›) (rest := r.map (zx_v ‹Nat → Nat›)) (st := r.map (zx_v ‹Nat → Nat›)) (by rw [zx_v_cats]; exact hc)
  show 2 * 0 + _ + 12 ≤ _
  have h4 : 2 * 0 + ((r.map (zx_v ‹Nat → Nat›)).map fun v => v.category).sum ≤ 8 := h3
  omega
theorem zx_n_max {n : Nat} {x y : Int32} (ht : zx_tg (zm_o j) n = some 1002) (hc : (r.map fun v => v.category).sum ≤ 8) (hd : decode (zm_cc j) pc = .ok (.invokestatic n, 3)) (h : zx_E (d + 1) j (pc + 3) ls (.int (if x < y then y else x) :: r) w v w1) : zx_E (d + 1) j pc ls (.int y :: .int x :: r) w v w1 := by
  have hl := zx_tg_nat ht (by decide)
  refine zx_pure (fun X hZ hR hL hS hcc hss kk => ?_) h
  have h1 := X.fr
  have h2 := X.lo
  refine va_mmax X.1 X.2.1 (by rw [X.ml]; exact hL.1.symm) X.ow (X.ts _ hl) (X.ts _ zn_mx1) (X.ts _ zn_mx2) (X.ts _ zn_mx3) (by omega) ?_ hcc hss hd kk
  show ((r.map (zx_v _)).map fun v => v.category).sum + 13 ≤ _
  rw [zx_v_cats]
  omega
theorem zx_n_copy {n a b n0 n1 : Nat} {sp dp m : Int32} (ht : zx_tg (zm_o j) n = some 1000) (hc : (r.map fun v => v.category).sum ≤ 8) (hka : w.2.1 a = .inr (.int, n0)) (hqa : 2 ≤ a ∧ a < w.1.1) (hkb : w.2.1 b = .inr (.int, n1)) (hqb : 2 ≤ b ∧ b < w.1.1) (h1 : ¬ sp < 0) (h2 : ¬ dp < 0) (h3 : ¬ m < 0) (h4 : sp.toNatClampNeg + m.toNatClampNeg ≤ n0) (h5 : dp.toNatClampNeg + m.toNatClampNeg ≤ n1)
    (hd : decode (zm_cc j) pc = .ok (.invokestatic n, 3)) (h : zx_E (d + 1) j (pc + 3) ls r (zx_copy w a b sp.toNatClampNeg dp.toNatClampNeg m.toNatClampNeg) v w1) : zx_E (d + 1) j pc ls (.int m :: .int dp :: .ref b :: .int sp :: .ref a :: r) w v w1 := by
  have hl := zx_tg_nat ht (by decide)
  refine ⟨h.1, ?_⟩
  intro p l e R s mt args below meth c H locs cells slots mc ms Q D tc ad sz0 lsr X hG hZ hR hS hL g1 g2 g3 g4 hend
  have hfr := X.fr
  have hlo := X.lo
  have nn : ∀ z : Int32, ¬ z < 0 → z.toInt = (z.toNatClampNeg : Int) := by
    intro z hz
    have hz0 : (0 : Int) ≤ z.toInt := by
      have := Int32.not_lt.mp hz
      simpa using Int32.le_iff_toInt_le.mp this
    show z.toInt = ((z.toInt.toNat : Nat) : Int)
    omega
  obtain ⟨hta, hca0⟩ := zx_ar hR hka hqa
  obtain ⟨htb, hcb0⟩ := zx_ar hR hkb hqb
  have hca : H[ad a]? = some (arrV (tc .int) n0 (fun i => .int (w.2.2.1 a i))) := hca0
  have hcb : H[ad b]? = some (arrV (tc .int) n1 (fun i => .int (w.2.2.1 b i))) := hcb0
  intro T hT XS
  obtain ⟨-, k0, hk0, cm0, hkk0⟩ := (zx_ty_in X.K hta).1 n0 (fun i => .int (w.2.2.1 a i))
  obtain ⟨-, k1, hk1, cm1, hkk1⟩ := (zx_ty_in X.K htb).1 n1 (fun i => .int (w.2.2.1 b i))
  obtain ⟨vm', X', step⟩ := XS.arraycopy X.1 X.ow (X.ts _ hl) (X.ts _ zn_ac1) (X.ts _ zn_ac2) (X.ts _ zn_ac3) (src := ad a) (dst := ad b) (cs := arrV (tc .int) n0 (fun i => .int (w.2.2.1 a i))) (cd := arrV (tc .int) n1 (fun i => .int (w.2.2.1 b i))) (srcPos := sp) (destPos := dp) (n := m) (by rw [hT]; exact hca) (by rw [hT]; exact hcb)
    (fun _ h => by cases h) (fun _ h => by cases h) (fun h => by cases h) (fun h => by cases h) hk0 hk1 hkk0 hkk1 (by simp [refKind]) h1 h2 h3
    (by rw [nn sp h1, nn m h3, arrV_size]; omega)
    (by rw [nn dp h2, nn m h3, arrV_size]; omega)
    (fun vm₁ _ i hi => by
      have e : (arrV (tc .int) n0 (fun i => Value.int (w.2.2.1 a i))).slots.getD (sp.toNatClampNeg + i) .null = .int (w.2.2.1 a (sp.toNatClampNeg + i)) := by
        rw [Array.getD_eq_getD_getElem?, arrV_read _ _ (by omega)]
        rfl
      refine ⟨?_, ?_⟩
      · rw [e]
        rfl
      · rw [e]
        exact trivial)
    (g := F0 mt pc lsr (.int m :: .int dp :: .ref (ad b) :: .int sp :: .ref (ad a) :: r.map (zx_v ad))) rfl (by rw [X.ml]; exact hL.1) (rest := r.map (zx_v ad)) rfl (by rw [X.2.1]; exact hd) (by omega) (by
      show 2 * 0 + ((r.map (zx_v ad)).map fun v => v.category).sum + (nativeFrameWords "java/lang/System" "arraycopy" 5 + 11) ≤ R.locals
      rw [zx_v_cats]
      have : nativeFrameWords "java/lang/System" "arraycopy" 5 = 7 := by decide
      omega)
  have e1 : copied (arrV (tc .int) n0 (fun i => Value.int (w.2.2.1 a i))) (arrV (tc .int) n1 (fun i => .int (w.2.2.1 b i))) sp dp m = arrV (tc .int) n1 (fun i => .int (va_cpy (w.2.2.1 a) (w.2.2.1 b) sp.toNatClampNeg dp.toNatClampNeg m.toNatClampNeg i)) := va_copied (fun z => .int z) (tc .int) (tc .int) (w.2.2.1 a) (w.2.2.1 b) h4
  rw [e1] at X' step
  have hlt : ad b < H.size := (Array.getElem?_eq_some_iff.mp hcb).1
  have hheap : ((T.setVm vm').setCell (ad b) (arrV (tc .int) n1 (fun i => .int (va_cpy (w.2.2.1 a) (w.2.2.1 b) sp.toNatClampNeg dp.toNatClampNeg m.toNatClampNeg i)))).heap = H.setIfInBounds (ad b) (arrV (tc .int) n1 (fun i => .int (va_cpy (w.2.2.1 a) (w.2.2.1 b) sp.toNatClampNeg dp.toNatClampNeg m.toNatClampNeg i))) := by rw [← hT]; rfl
  have oq : ∀ q : Nat, q ≠ ad b → (H.setIfInBounds (ad b) (arrV (tc .int) n1 (fun i => .int (va_cpy (w.2.2.1 a) (w.2.2.1 b) sp.toNatClampNeg dp.toNatClampNeg m.toNatClampNeg i))))[q]? = H[q]? := fun q hq => by simp [Array.getElem?_setIfInBounds, Ne.symm hq]
  have hR1 : zx_R s D tc ad 2 (zx_copy w a b sp.toNatClampNeg dp.toNatClampNeg m.toNatClampNeg) (H.setIfInBounds (ad b) (arrV (tc .int) n1 (fun i => .int (va_cpy (w.2.2.1 a) (w.2.2.1 b) sp.toNatClampNeg dp.toNatClampNeg m.toNatClampNeg i)))) := by
    refine ⟨by simp only [Array.size_setIfInBounds]; exact hR.1, hR.2.1, fun q hq => ?_⟩
    by_cases hqe : q = b
    · subst hqe
      unfold zx_at
      rw [show (zx_copy w a q sp.toNatClampNeg dp.toNatClampNeg m.toNatClampNeg).2.1 q = .inr (.int, n1) from hkb]
      refine Or.inr ⟨hqb.1, htb, ?_⟩
      rw [Array.getElem?_setIfInBounds, if_pos rfl, if_pos hlt]
      congr 2
      funext i
      simp [zx_v, zx_val, zx_copy]
    · exact zx_at.to (w := w) (Vm.Alike.refl s.vm) rfl (fun ty i => zx_copy_ne hqe) (oq _ (hG.ne hqb.1 hqe)) (hR.2.2 q hq)
  obtain ⟨t, a1, b1⟩ := h.2 p l e R s mt args below meth c _ _ cells slots mc ms Q D tc ad sz0 lsr X hG hZ hR1 ⟨by simp; exact hS.1, fun q z1 z2 => by
      rw [oq q (fun e => z2 (by rw [e]; exact hG.ge hqb.1))]
      exact hS.2.1 q z1 z2, fun q hq => by
      rcases List.mem_append.mp hq with h | h
      · exact hS.2.2 q h
      · obtain ⟨z, -, hz⟩ := List.mem_map.mp h
        rw [← hz]
        exact hG.ge hqb.1⟩ hL g1 g2 g3 g4 hend _ hheap X'
  exact ⟨t, step t a1, b1⟩
end NAT
/-- what they do -/
def zx_nat (k : Nat) (as : List Value) (w : zx_W) : Option (Option Value × zx_W) :=
  if k = 1001 then (match as with
    | [.ref _] => some (none, w)
    | _ => none)
  else if k = 1002 then (match as with
    | [.int x, .int y] => some (some (.int (if x < y then y else x)), w)
    | _ => none)
  else if k = 1000 then (match as with
    | [.ref a, .int sp, .ref b, .int dp, .int m] => (match w.2.1 a, w.2.1 b with
      | .inr (.int, n0), .inr (.int, n1) => if ((2 ≤ a ∧ a < w.1.1) ∧ (2 ≤ b ∧ b < w.1.1)) ∧ ((¬ sp < 0 ∧ ¬ dp < 0 ∧ ¬ m < 0) ∧ sp.toNatClampNeg + m.toNatClampNeg ≤ n0 ∧ dp.toNatClampNeg + m.toNatClampNeg ≤ n1) then some (none, zx_copy w a b sp.toNatClampNeg dp.toNatClampNeg m.toNatClampNeg) else none
      | _, _ => none)
    | _ => none)
  else none
theorem zx_nat_ok {d j pc k n : Nat} {ls : List (Option Value)} {as rest : List Value} {w w2 w1 : zx_W} {u v : Option Value} (hk : 1000 ≤ k) (hd : decode (zm_cc j) pc = .ok (zx_iv (zx_ck k) n, 3)) (ht : zx_tg (zm_o j) n = some k) (hc : (rest.map fun v => v.category).sum ≤ 8) (hn : zx_nat k as w = some (u, w2)) (hF : zx_E (d + 1) j (pc + 3) ls (u.toList ++ rest) w2 v w1) : zx_E (d + 1) j pc ls (as.reverse ++ rest) w v w1 := by
  unfold zx_nat at hn
  split at hn
  · rename_i h
    subst h
    split at hn
    · cases hn
      exact zx_n_obj ht hc hd hF
    · cases hn
  · split at hn
    · rename_i h
      subst h
      split at hn
      · cases hn
        exact zx_n_max ht hc hd hF
      · cases hn
    · split at hn
      · rename_i h
        subst h
        split at hn
        · split at hn
          · rename_i hka hkb
            split at hn
            · rename_i g
              cases hn
              exact zx_n_copy ht hc hka g.1.1 hkb g.1.2 g.2.1.1 g.2.1.2.1 g.2.1.2.2 g.2.2.1 g.2.2.2 hd hF
            · cases hn
          · cases hn
        · cases hn
      · cases hn
def zx_thrb (k : Nat) (as : List Value) (w : zx_W) : Bool := match as with
  | [.ref x, .int _, .int _, .int _, .int _, .int _, .ref _] => decide (k = 1003 ∧ (w.2.1 x = .inl 11 ∧ x < w.1.1) ∧ ¬ w.1.1 < 119 ∧ (w.2.2.1 x 11 < 0 ∨ 1500 < w.2.2.1 x 11 + 20))
  | [.ref x, .int n] => decide (k = 1004 ∧ (w.2.1 x = .inl 11 ∧ x < w.1.1) ∧ ¬ w.1.1 < 119 ∧ (n < 0 ∨ w.2.2.1 x 11 < n))
  | _ => false
theorem zx_thrb_ok {k : Nat} {as : List Value} {w : zx_W} (h : zx_thrb k as w = true) : zx_thr k as w := by
  unfold zx_thrb at h
  unfold zx_thr
  split at h
  · exact of_decide_eq_true h
  · exact of_decide_eq_true h
  · cases h
/-! THE RUN: n steps at most, d frames at most upon this one -/
def zx_run : Nat → Nat → Nat → Nat → List (Option Value) → List Value → zx_W → Option (Option Value × zx_W)
  | 0, _, _, _, _, _, _ => none
  | n + 1, d, j, pc, ls, st, w => match zx_step j pc ls st w with
    | none => none
    | some (.inl (pc', ls', st', w')) => zx_run n d j pc' ls' st' w'
    | some (.inr (.inl v)) => some (v, w)
    | some (.inr (.inr (k, as, rest, pc'))) => match d with
      | 0 => none
      | d' + 1 => match (if k < 264 then (if (zx_sl as).length ≤ zm_L k then zx_run n d' k 0 (zx_entry k as) [] w else none) else if k = 1003 ∨ k = 1004 then (if zx_thrb k as w = true then (if 8 ≤ d' then some (some (.int 1), zx_bump w) else none) else (if (zx_sl as).length ≤ zm_L (k - 738) then zx_run n d' (k - 738) 0 (zx_entry (k - 738) as) [] w else none)) else zx_nat k as w) with
        | none => none
        | some (u, w2) => zx_run n (d' + 1) j pc' ls (u.toList ++ rest) w2
theorem zx_sound : ∀ (n d j pc : Nat) (ls : List (Option Value)) (st : List Value) (w : zx_W) (v : Option Value) (w1 : zx_W), zx_run n d j pc ls st w = some (v, w1) → zx_E d j pc ls st w v w1 := by
  intro n
  induction n with
  | zero =>
    intro d j pc ls st w v w1 h
    cases h
  | succ n ih =>
    intro d j pc ls st w v w1 h
    unfold zx_run at h
    split at h
    · cases h
    · rename_i hs
      exact zx_step_go hs (ih _ _ _ _ _ _ _ _ h)
    · rename_i hs
      cases h
      exact zx_step_ret hs
    · rename_i k as rest pc' hs
      obtain ⟨m, h1, h2, h3, h4, h5, h6, h7⟩ := zx_step_call hs
      subst h3
      subst h7
      split at h
      · cases h
      · rename_i d'
        split at h
        · cases h
        · rename_i u w2 hu
          have hF := ih _ _ _ _ _ _ _ _ h
          split at hu
          · rename_i hk
            split at hu
            · rename_i ha
              exact zx_call hk h1 h2 h4 h5 h6 ha (ih _ _ _ _ _ _ _ _ hu) hF
            · cases hu
          · rename_i hk
            have hk' : 1000 ≤ k := by
              rcases zx_tg_ok h2 with g | g
              · have := g.2.2.2.1
                omega
              · have := g.2
                omega
            split at hu
            · rename_i h3
              have hkk : k - 738 = 265 ∨ k - 738 = 266 := by omega
              have hke : k = k - 738 + 738 := by omega
              have hd3 : decode (zm_cc j) pc = .ok (.invokestatic m, 3) := by
                rcases h3 with h | h <;> subst h <;> exact h1
              have hln : as.length = zm_n (k - 738) := by
                rw [h4]
                rcases h3 with h | h <;> subst h <;> decide +kernel
              split at hu
              · rename_i h6
                split at hu
                · rename_i h8
                  cases hu
                  refine zx_call3 (k := k - 738) (rm := { frames := 8, cells := 1, slots := 6, locals := 200 }) hkk hd3 (by rw [← hke]; exact h2) hln h5 ⟨Nat.le_succ _, Nat.le_add_right _ _⟩ ?_ ?_ h8 (by show 200 ≤ _; omega) ?_ hF
                  · show 1 = w.1.2.1 + 1 - w.1.2.1
                    omega
                  · show 6 = w.1.2.2 + 6 - w.1.2.2
                    omega
                  · intro l D tc ad sz0 hG
                    have e1 : (zx_bump w).1.2.1 - w.1.2.1 = 1 := by show w.1.2.1 + 1 - w.1.2.1 = 1; omega
                    have e2 : (zx_bump w).1.2.2 - w.1.2.2 = 6 := by show w.1.2.2 + 6 - w.1.2.2 = 6; omega
                    rw [e1, e2]
                    exact zx_thr_met l hkk hG (by rw [← hke]; exact zx_thrb_ok h6)
                · cases hu
              · split at hu
                · rename_i ha
                  have hEE := ih _ _ _ _ _ _ _ _ hu
                  exact zx_call3 (k := k - 738) (rm := zx_room d' w w2) hkk hd3 (by rw [← hke]; exact h2) hln h5 hEE.1 rfl rfl (Nat.le_refl _) (Nat.le_refl _) (fun l D tc ad sz0 hG => zx_metW l hkk hG ha hEE) hF
                · cases hu
            · exact zx_nat_ok hk' h1 h2 h5 hu hF
