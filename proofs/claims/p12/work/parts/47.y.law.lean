-- both answer alike
set_option maxRecDepth 2000
theorem z_at6 {v : Int32} {L : Nat} (hL : L ≤ 384) (h0 : 0 ≤ v) (h : ¬ (Int32.ofNat L - 6) < v) : v.toNatClampNeg + 6 ≤ L := by
  have a : (Int32.ofNat L).toInt = (L : Int) := Int32.toInt_ofNat_of_lt (by omega)
  have k6 : (6 : Int32).toInt = 6 := rfl
  have b : (Int32.ofNat L - 6).toInt = (L : Int) - 6 := by rw [Int32.toInt_sub, a, k6, Int.bmod_def]; omega
  have c := Int32.le_iff_toInt_le.mp (Int32.not_lt.mp h)
  have d := z_nat h0
  omega
theorem z_atk {v : Int32} {L : Nat} (hL : L ≤ 384) (h0 : 0 ≤ v) (h : v.toNatClampNeg + 6 ≤ L) (k : Int32) (hk : 0 ≤ k ∧ k ≤ 6) : (v + k).toInt = v.toInt + k.toInt ∧ 0 ≤ v + k ∧ (v + k).toNatClampNeg = v.toNatClampNeg + k.toNatClampNeg := by
  have d := z_nat h0
  have k0 : 0 ≤ k.toInt := Int32.le_iff_toInt_le.mp hk.1
  have k6 : k.toInt ≤ 6 := Int32.le_iff_toInt_le.mp hk.2
  have e := z_ti_add (a := v) (b := k) (by omega) (by omega)
  have p : 0 ≤ v + k := Int32.le_iff_toInt_le.mpr (by rw [e]; show (0 : Int) ≤ _; omega)
  have x := z_nat p
  have y := z_nat hk.1
  exact ⟨e, p, by omega⟩
theorem z_insk {v : Int32} {L : Nat} (hL : L ≤ 384) (h0 : 0 ≤ v) (h : v.toNatClampNeg + 6 ≤ L) (k : Int32) (hk : 0 ≤ k ∧ k ≤ 5) : zx_ins (v + k) L = true := by
  have w := z_atk hL h0 h k ⟨hk.1, Int32.le_trans hk.2 (by decide)⟩
  have y := z_nat hk.1
  have k5 : k.toInt ≤ 5 := Int32.le_iff_toInt_le.mp hk.2
  unfold zx_ins
  rw [Bool.and_eq_true]
  refine ⟨?_, decide_eq_true (by omega)⟩
  rw [Bool.not_eq_true', decide_eq_false_iff_not]
  exact Int32.not_lt.mpr w.2.1
theorem feedpart {L N n : Nat} (hN : zBig ≤ N) {a b : Nat} {σ : zS} {τ : zT} {v4 : Int32} {Q : Int32 × Nat × Nat × zS × zT → Prop} (li : LI σ) (ev : EQT σ τ) (ins : ∀ k : Int32, (0 ≤ k ∧ k ≤ 5) → zx_ins (v4 + k) L = true) (next : ∀ a' b' σ' τ', LI σ' → EQT σ' τ' → a' ≤ a + 1 → b' ≤ b + 6 → zq (zb_Law_817 L (zb_Law_23 L N n) N a' b' σ' τ' v4) Q) : zq (if zx_ins (v4 + 1) L = true then if zx_ins (v4 + 2) L = true then if zx_ins (v4 + 3) L = true then if zx_ins (v4 + 4) L = true then if zx_ins (v4 + 5) L = true then if (σ 2 11) < 0 ∨ 1500 < (σ 2 11) + 20 then if zx_ins (v4 + 1) L = true then if zx_ins (v4 + 2) L = true then if zx_ins (v4 + 3) L = true then if zx_ins (v4 + 4) L = true then if zx_ins (v4 + 5) L = true then (zf_M_feed N σ (σ 0 (v4 + 1).toNatClampNeg) (σ 0 (v4 + 2).toNatClampNeg) (σ 0 (v4 + 3).toNatClampNeg) (σ 0 (v4 + 4).toNatClampNeg) (σ 0 (v4 + 5).toNatClampNeg)).bind fun r137 => zb_Law_817 L (zb_Law_23 L N n) N (a + 1) (b + 6) r137.2 τ v4 else none else none else none else none else none else (zf_Law_feed N σ τ (σ 0 (v4 + 1).toNatClampNeg) (σ 0 (v4 + 2).toNatClampNeg) (σ 0 (v4 + 3).toNatClampNeg) (σ 0 (v4 + 4).toNatClampNeg) (σ 0 (v4 + 5).toNatClampNeg)).bind fun r131 => if zx_ins (v4 + 1) L = true then if zx_ins (v4 + 2) L = true then if zx_ins (v4 + 3) L = true then if zx_ins (v4 + 4) L = true then if zx_ins (v4 + 5) L = true then (zf_M_feed N r131.2.1 (r131.2.1 0 (v4 + 1).toNatClampNeg) (r131.2.1 0 (v4 + 2).toNatClampNeg) (r131.2.1 0 (v4 + 3).toNatClampNeg) (r131.2.1 0 (v4 + 4).toNatClampNeg) (r131.2.1 0 (v4 + 5).toNatClampNeg)).bind fun r143 => zb_Law_817 L (zb_Law_23 L N n) N a b r143.2 r131.2.2 v4 else none else none else none else none else none else none else none else none else none else none) Q := by
  have tp := li.gm.tp
  have eq := li.eq
  have t0 : 0 ≤ (σ 82 2).toInt := Int32.le_iff_toInt_le.mp tp.1
  have t1 : (σ 82 2).toInt ≤ 1500 := Int32.le_iff_toInt_le.mp tp.2
  have tn : σ 82 2 = Int32.ofNat (σ 82 2).toNatClampNeg := (zo_mk tp.1).symm
  have tz := z_nat tp.1
  have k20 : (20 : Int32).toInt = 20 := rfl
  have e20 := z_ti_add (a := σ 82 2) (b := 20) (by omega) (by omega)
  have k15 : (1500 : Int32).toInt = 1500 := rfl
  refine zq_chk (ins 1 (by decide)) fun _ => zq_chk (ins 2 (by decide)) fun _ => zq_chk (ins 3 (by decide)) fun _ => zq_chk (ins 4 (by decide)) fun _ => zq_chk (ins 5 (by decide)) fun _ => ?_
  refine zq_ite (fun c => ?_) fun c => ?_
  ·
    refine zq_chk (ins 1 (by decide)) fun _ => zq_chk (ins 2 (by decide)) fun _ => zq_chk (ins 3 (by decide)) fun _ => zq_chk (ins 4 (by decide)) fun _ => zq_chk (ins 5 (by decide)) fun _ => ?_
    have full : ¬ σ 82 2 + 20 ≤ 1500 := by
      rw [eq] at c
      rcases c with c | c
      · have := Int32.lt_iff_toInt_lt.mp c
        rw [show (0 : Int32).toInt = 0 from rfl] at this
        omega
      · exact Int32.not_le.mpr c
    have fulln : ¬ (σ 82 2).toNatClampNeg + 20 ≤ 1500 := fun q => full (Int32.le_iff_toInt_le.mpr (by rw [e20, k20, k15]; omega))
    refine zq_bind (zq_both (p_M_feed tn (by omega)) (m_feed hN li.gm fun r g lo w pm => ?_))
    have w := w.resolve_left (fun q => full q.1)
    have pm3 := pm.2.2.resolve_left (fun q => fulln q.1)
    exact next _ _ _ _ ⟨by rw [lo 37 (by decide)]; exact li.sl, by rw [lo 78 (by decide)]; exact li.rr, g, by rw [lo 2 (by decide), w.2.2]; exact eq⟩ (ev.full ⟨pm.1, pm.2.1, pm3.2⟩) (Nat.le_refl _) (Nat.le_refl _)
  · have room : σ 82 2 + 20 ≤ 1500 := by
      rw [eq] at c
      exact Int32.not_lt.mp (fun q => c (Or.inr q))
    have room' : (σ 82 2).toInt + 20 ≤ 1500 := by
      have := Int32.le_iff_toInt_le.mp room
      omega
    unfold zf_Law_feed
    refine zq_bind (zq_bind (zq_both (p_X_feed (t := (σ 82 2).toNatClampNeg) (by rw [eq]; exact tn) (by omega)) (x_feed hN (by rw [eq]; exact t0) (by rw [eq]; exact room') fun r1 xf e1 v1 px => ?_)))
    show zq (if zx_ins (v4 + 1) L = true then _ else none) Q
    refine zq_chk (ins 1 (by decide)) fun _ => zq_chk (ins 2 (by decide)) fun _ => zq_chk (ins 3 (by decide)) fun _ => zq_chk (ins 4 (by decide)) fun _ => zq_chk (ins 5 (by decide)) fun _ => ?_
    have gx : GM r1.2 := li.gm.hi xf.hi
    have e82 : r1.2 82 = σ 82 := xf.hi 82 (by decide)
    have e0 : r1.2 0 = σ 0 := px.1 0 (by decide) (by decide)
    refine zq_bind (zq_both (p_M_feed (σ := r1.2) (t := (σ 82 2).toNatClampNeg) (by rw [e82]; exact tn) (by omega)) (m_feed hN gx fun r g lo w pm => ?_))
    have lo : ∀ q, q < 82 → r.2 q = r1.2 q := lo
    have w : ((r1.2 82 2 + 20 ≤ 1500 ∧ r.2 82 0 = 0 ∧ r.2 82 2 = r1.2 82 2 + 20 ∧ r.1 = r1.2 82 2 + 20) ∨ (¬ r1.2 82 2 + 20 ≤ 1500 ∧ r.2 82 0 = 1 ∧ r.2 82 2 = r1.2 82 2)) := w
    have w := w.resolve_right (fun q => q.1 (by rw [e82]; exact room))
    have tt : r1.2 2 11 = σ 82 2 + 20 := Int32.toInt_inj.mp (by rw [e1, eq, e20, k20])
    have pm3 := pm.2.2.resolve_right (fun q => q.1 (by omega))
    have ln : LI r.2 := ⟨by rw [lo 37 (by decide), xf.sl]; exact li.sl, by rw [lo 78 (by decide), xf.rr]; exact li.rr, g, by rw [lo 2 (by decide), w.2.2.1, e82]; exact tt⟩
    have pmt := pm3.2
    dsimp only at pmt
    rw [e0] at pmt
    exact next _ _ _ _ ln (ev.feed (t := (σ 82 2).toNatClampNeg) (n := 20) (show (zx_up τ 118 0 (r1.1 : Int32).toInt64) 1 = τ 1 from zt_other (by decide)) px ⟨pm.1, pm.2.1, pmt⟩ (fun i => fed_rng i)) (Nat.le_succ _) (Nat.le_add_right _ _)
theorem endpart {L N n : Nat} {a b : Nat} {σ : zS} {τ : zT} {v4 : Int32} {Q : Int32 × Nat × Nat × zS × zT → Prop} (li : LI σ) (ev : EQT σ τ) (ins : ∀ k : Int32, (0 ≤ k ∧ k ≤ 5) → zx_ins (v4 + k) L = true) (next : ∀ a' b' σ' τ', LI σ' → EQT σ' τ' → a' ≤ a + 1 → b' ≤ b + 6 → zq (zb_Law_817 L (zb_Law_23 L N n) N a' b' σ' τ' v4) Q) : zq (if zx_ins (v4 + 1) L = true then if (σ 0 (v4 + 1).toNatClampNeg) < 0 ∨ (σ 2 11) < (σ 0 (v4 + 1).toNatClampNeg) then if zx_ins (v4 + 1) L = true then (zf_M_end σ (σ 0 (v4 + 1).toNatClampNeg)).bind fun r122 => zb_Law_817 L (zb_Law_23 L N n) N (a + 1) (b + 6) r122 τ v4 else none else (zf_Law_end σ (σ 0 (v4 + 1).toNatClampNeg)).bind fun r120 => if zx_ins (v4 + 1) L = true then (zf_M_end r120.2 (r120.2 0 (v4 + 1).toNatClampNeg)).bind fun r124 => zb_Law_817 L (zb_Law_23 L N n) N a b r124 τ v4 else none else none) Q := by
  have tp := li.gm.tp
  have eq := li.eq
  refine zq_chk (ins 1 (by decide)) fun _ => ?_
  refine zq_ite (fun c => ?_) fun c => ?_
  · refine zq_chk (ins 1 (by decide)) fun _ => ?_
    have bad : ¬ (0 ≤ σ 0 (v4 + 1).toNatClampNeg ∧ σ 0 (v4 + 1).toNatClampNeg ≤ σ 82 2) := by
      rw [eq] at c
      rintro ⟨x, y⟩
      rcases c with c | c
      · exact Int32.not_lt.mpr x c
      · exact Int32.not_lt.mpr y c
    refine zq_bind (zq_both p_M_end (m_end li.gm fun r g lo w pm => ?_))
    have w := w.resolve_left (fun q => bad q.1)
    have ln : LI r := ⟨by rw [lo 37 (by decide)]; exact li.sl, by rw [lo 78 (by decide)]; exact li.rr, g, by rw [lo 2 (by decide), w.2.2]; exact eq⟩
    exact next _ _ _ _ ln (ev.ended (x := 0) (Or.inr rfl) pm) (Nat.le_refl _) (Nat.le_refl _)
  · have good : 0 ≤ σ 0 (v4 + 1).toNatClampNeg ∧ σ 0 (v4 + 1).toNatClampNeg ≤ σ 82 2 := by
      rw [eq] at c
      exact ⟨Int32.not_lt.mp (fun q => c (Or.inl q)), Int32.not_lt.mp (fun q => c (Or.inr q))⟩
    have ex : zf_Law_end σ (σ 0 (v4 + 1).toNatClampNeg) = some (0, zx_up σ 2 11 (σ 0 (v4 + 1).toNatClampNeg)) := by
      unfold zf_Law_end zf_X_end
      rw [if_neg (Int32.not_lt.mpr good.1), if_pos (by rw [eq]; exact good.2)]
      rfl
    rw [ex]
    show zq (if zx_ins (v4 + 1) L = true then _ else none) Q
    refine zq_chk (ins 1 (by decide)) fun _ => ?_
    have e0 : (zx_up σ 2 11 (σ 0 (v4 + 1).toNatClampNeg)) 0 = σ 0 := zu_other (by decide)
    have e82 : (zx_up σ 2 11 (σ 0 (v4 + 1).toNatClampNeg)) 82 = σ 82 := zu_other (by decide)
    have gx : GM (zx_up σ 2 11 (σ 0 (v4 + 1).toNatClampNeg)) := li.gm.hi (fun q hq => zu_other (by omega))
    refine zq_bind (zq_both p_M_end (m_end gx fun r g lo w pm => ?_))
    have lo : ∀ q, q < 82 → r q = (zx_up σ 2 11 (σ 0 (v4 + 1).toNatClampNeg)) q := lo
    have w : (((0 ≤ (zx_up σ 2 11 (σ 0 (v4 + 1).toNatClampNeg)) 0 (v4 + 1).toNatClampNeg ∧ (zx_up σ 2 11 (σ 0 (v4 + 1).toNatClampNeg)) 0 (v4 + 1).toNatClampNeg ≤ (zx_up σ 2 11 (σ 0 (v4 + 1).toNatClampNeg)) 82 2) ∧ r 82 0 = 0 ∧ r 82 2 = (zx_up σ 2 11 (σ 0 (v4 + 1).toNatClampNeg)) 0 (v4 + 1).toNatClampNeg) ∨ (¬ (0 ≤ (zx_up σ 2 11 (σ 0 (v4 + 1).toNatClampNeg)) 0 (v4 + 1).toNatClampNeg ∧ (zx_up σ 2 11 (σ 0 (v4 + 1).toNatClampNeg)) 0 (v4 + 1).toNatClampNeg ≤ (zx_up σ 2 11 (σ 0 (v4 + 1).toNatClampNeg)) 82 2) ∧ r 82 0 = 1 ∧ r 82 2 = (zx_up σ 2 11 (σ 0 (v4 + 1).toNatClampNeg)) 82 2)) := w
    have w := w.resolve_right (fun q => q.1 (by rw [e0, e82]; exact good))
    have ln : LI r := ⟨by rw [lo 37 (by decide), zu_other (by decide)]; exact li.sl, by rw [lo 78 (by decide), zu_other (by decide)]; exact li.rr, g, by rw [lo 2 (by decide), w.2.2, e0, zx_up_same, zu_eq]⟩
    exact next _ _ _ _ ln (ev.ended (Or.inl rfl) pm) (Nat.le_succ _) (Nat.le_add_right _ _)
theorem q_law {L N : Nat} (hL : L ≤ 384) (hN : zBig ≤ N) : ∀ (n a b : Nat) (σ : zS) (τ : zT) (v4 : Int32), LI σ → EQT σ τ → 0 ≤ v4 → a + (L - v4.toNatClampNeg) ≤ 117 + L → b + (L - v4.toNatClampNeg) ≤ 522905 + L → zmu v4 < n → zq (zb_Law_23 L N n a b σ τ v4) (fun r => r.1 = 1 ∧ r.2.1 ≤ 501 ∧ r.2.2.1 ≤ 523289) := by
  intro n
  induction n with
  | zero => intro _ _ _ _ _ _ _ _ _ _ hn; exact absurd hn (Nat.not_lt_zero _)
  | succ n ih =>
    intro a b σ τ v4 li ev h0 ha hb hn
    rw [zb_Law_23]
    refine zq_ite (fun c => ⟨rfl, by show a ≤ 501; omega, by show b ≤ 523289; omega⟩) fun c => ?_
    have h6 := z_at6 hL h0 c
    have ins := fun (k : Int32) hk => z_insk hL h0 h6 k hk
    have ins0 : zx_ins v4 L = true := by have := ins 0 (by decide); rw [Int32.add_zero] at this; exact this
    have w6 := z_atk hL h0 h6 6 (by decide)
    have next : ∀ a' b' σ' τ', LI σ' → EQT σ' τ' → a' ≤ a + 1 → b' ≤ b + 6 → zq (zb_Law_817 L (zb_Law_23 L N n) N a' b' σ' τ' v4) (fun r => r.1 = 1 ∧ r.2.1 ≤ 501 ∧ r.2.2.1 ≤ 523289) := by
      intro a' b' σ' τ' l e x y
      unfold zb_Law_817
      have e6 : (6 : Int32).toNatClampNeg = 6 := rfl
      refine ih a' b' σ' τ' (v4 + 6) l e w6.2.1 (by rw [w6.2.2, e6]; omega) (by rw [w6.2.2, e6]; omega) ?_
      have k6 : (6 : Int32).toInt = 6 := rfl
      have q := w6.1
      unfold zmu at hn ⊢
      have d := z_nat h0
      omega
    refine zq_chk ins0 fun _ => ?_
    refine zq_ite (fun _ => ?_) fun _ => ?_
    ·
      exact feedpart hN li ev ins next
    ·
      refine zq_ite (fun _ => ?_) fun _ => ?_
      ·
        exact endpart li ev ins next
      ·
        refine zq_ite (fun _ => ?_) fun _ => ?_
        ·
          refine zq_bind (zq_both (zp_and (zp_and (zp_and (p_read (ev).1.1.1.1.1 (li).gm.tp (li).eq (ev).1.1.1.1.2.1 (ev).1.1.1.1.2.2.1) (zp_and (p_readK (ev).1.1.1.1.1 (li).gm.tp (li).eq (ev).1.1.1.1.2.1 (ev).1.1.1.1.2.2.1) (zp_and (p_readV (ev).1.1.1.1.1 (li).gm.tp (li).eq (ev).1.1.1.1.2.1 (ev).1.1.1.1.2.2.1) (p_readN (ev).1.1.1.1.1 (li).gm.tp (li).eq (ev).1.1.1.1.2.1 (ev).1.1.1.1.2.2.1)))) (p_readF (ev).1.1.1.1.1 (li).gm.tp (li).eq (ev).1.1.1.1.2.1 (ev).1.1.1.1.2.2.1)) (zp_and (wr_f_X_read ⟨rfl, rfl⟩ rfl) (zp_and (wz_f_X_read (ev).1.1.1.2) st_readT))) (q_f_X_read hN (li).jx fun r116 jr116 pr116 => ?_))
          have hir116 : ∀ q, 82 ≤ q → r116.2.1 q = σ q := fun q hq => (jr116.fr q hq).trans (zu_other (by omega))
          refine zq_bind (zq_both (zp_and (zp_and (pr116.1.1.1 _ hir116) (zp_and (zp_and (pr116.1.1.2.1 _ hir116) (zp_and (pr116.1.1.2.2.1 _ hir116) (pr116.1.1.2.2.2 _ hir116))) (zp_and (zp_and m_read53 m_read62) (pr116.1.2 _ hir116)))) (wn_f_M_read rfl)) (q_f_M_read hN (li.gm.hi hir116) fun r117 gr117 lor117 tpr117 pr117 => ?_))
          have tr117 : r116.2.1 2 11 = 0 := jr116.tp.trans (by rw [zx_up_same, zu_eq])
          exact next _ _ _ _ ⟨by rw [lor117 37 (by decide)]; exact jr116.sl, by rw [lor117 78 (by decide)]; exact jr116.rr, gr117, by rw [lor117 2 (by decide), tpr117]; exact tr117⟩ (ev.read pr116.2.1 hir116 lor117 pr117.2 pr117.1.1.2 pr116.2.2 pr117.1.2) (Nat.le_succ _) (Nat.le_add_right _ _)
        ·
          refine zq_ite (fun _ => ?_) fun _ => ?_
          ·
            refine zq_bind (q_f_X_fault (li).jx fun r114 => ?_)
            refine zq_bind (zq_both (zp_and (zp_and (wm_f_M_fault FM.rfl') (xh_f_M_fault FH.rfl')) (xu_f_M_fault FU.rfl')) (q_f_M_fault (li).gm.ge fun r115 mr115 pr115 => ?_))
            exact next _ _ _ _ ((li).m (mr115.mo (li).gm)) ((ev).m pr115) (Nat.le_succ _) (Nat.le_add_right _ _)
          ·
            refine zq_ite (fun _ => ?_) fun _ => ?_
            ·
              refine zq_chk (ins 1 (by decide)) fun _ => ?_
              refine zq_bind (q_f_X_count (li).jx fun r111 => ?_)
              refine zq_chk (ins 1 (by decide)) fun _ => ?_
              refine zq_bind (zq_both (zp_and (zp_and (wm_f_M_count FM.rfl') (xh_f_M_count FH.rfl')) (xu_f_M_count FU.rfl')) (q_f_M_count hN (li).gm.ge fun r113 mr113 pr113 => ?_))
              exact next _ _ _ _ ((li).m (mr113.mo (li).gm)) ((ev).m pr113) (Nat.le_succ _) (Nat.le_add_right _ _)
            ·
              refine zq_ite (fun _ => ?_) fun _ => ?_
              ·
                refine zq_chk (ins 1 (by decide)) fun _ => ?_
                refine zq_chk (ins 2 (by decide)) fun _ => ?_
                refine zq_chk (ins 3 (by decide)) fun _ => ?_
                refine zq_bind (q_f_X_step (li).jx fun r105 => ?_)
                refine zq_chk (ins 1 (by decide)) fun _ => ?_
                refine zq_chk (ins 2 (by decide)) fun _ => ?_
                refine zq_chk (ins 3 (by decide)) fun _ => ?_
                refine zq_bind (zq_both (zp_and (zp_and (wm_f_M_step FM.rfl') (xh_f_M_step FH.rfl')) (xu_f_M_step FU.rfl')) (q_f_M_step (li).gm.ge fun r109 mr109 pr109 => ?_))
                exact next _ _ _ _ ((li).m (mr109.mo (li).gm)) ((ev).m pr109) (Nat.le_succ _) (Nat.le_add_right _ _)
              ·
                refine zq_ite (fun _ => ?_) fun _ => ?_
                ·
                  refine zq_bind (zq_both (zp_and (wx_f_X_run FX.rfl') (p_runT li ev)) (q_f_X_run hN (li).jx fun r100 jr100 pr100 => ?_))
                  refine zq_bind (zq_both (zp_and (wm_f_M_run FM.rfl') pr100.2.2) (m_run hN (((li).x jr100)).gm fun r101 mr101 pr101 => ?_))
                  exact next _ _ _ _ ((((li).x jr100)).m mr101) (EQT.run ((ev).1.1.j ⟨pr100.1, pr100.2.1⟩ jr100.fr) pr101.1 pr101.2) (Nat.le_succ _) (Nat.le_add_right _ _)
                ·
                  refine zq_ite (fun _ => ?_) fun _ => ?_
                  ·
                    refine zq_chk (ins 1 (by decide)) fun _ => ?_
                    refine zq_bind (q_f_X_found (li).jx fun r97 => ?_)
                    refine zq_chk (ins 1 (by decide)) fun _ => ?_
                    refine zq_bind (zq_both (zp_and (zp_and (wm_f_M_found FM.rfl') (xh_f_M_found FH.rfl')) (xu_f_M_found FU.rfl')) (q_f_M_found hN (li).gm.ge fun r99 mr99 pr99 => ?_))
                    exact next _ _ _ _ ((li).m (mr99.mo (li).gm)) ((ev).m pr99) (Nat.le_succ _) (Nat.le_add_right _ _)
                  ·
                    refine zq_ite (fun _ => ?_) fun _ => ?_
                    ·
                      refine zq_chk (ins 1 (by decide)) fun _ => ?_
                      refine zq_chk (ins 2 (by decide)) fun _ => ?_
                      refine zq_bind (zq_both (zp_and (zp_and (wx_f_X_show FX.rfl') (xe_f_X_show FE.rfl')) (p_show10 ev)) (q_f_X_show hN (li).jx fun r92 jr92 pr92 => ?_))
                      have cr92 := pr92.2
                      try rw [← (pr92.1.1).1 0 (by decide) (by decide)] at cr92
                      refine zq_chk (ins 1 (by decide)) fun _ => ?_
                      refine zq_chk (ins 2 (by decide)) fun _ => ?_
                      refine zq_bind (zq_both (zp_and (zp_and (wm_f_M_show FM.rfl') (xh_f_M_show FH.rfl')) cr92) (m_show hN (((li).x jr92)).gm fun r95 mr95 pr95 => ?_))
                      exact next _ _ _ _ ((((li).x jr92)).m mr95) (EQT.told ((ev).1.x pr92.1 jr92.fr) pr95.1 pr95.2.2) (Nat.le_succ _) (Nat.le_add_right _ _)
                    ·
                      refine zq_ite (fun _ => ?_) fun _ => ?_
                      ·
                        refine zq_bind (q_f_X_length (li).jx fun r88 => ?_)
                        refine zq_bind (zq_both (zp_and (zp_and (wm_f_M_length FM.rfl') (xh_f_M_length FH.rfl')) (xu_f_M_length FU.rfl')) (q_f_M_length (li).gm.ge fun r89 mr89 pr89 => ?_))
                        exact next _ _ _ _ ((li).m (mr89.mo (li).gm)) ((ev).m pr89) (Nat.le_succ _) (Nat.le_add_right _ _)
                      ·
                        refine zq_ite (fun _ => ?_) fun _ => ?_
                        ·
                          refine zq_chk (ins 1 (by decide)) fun _ => ?_
                          refine zq_bind (zq_both (p_who12 ev) (q_f_X_who (li).jx fun r84 pr84 => ?_))
                          refine zq_chk (ins 1 (by decide)) fun _ => ?_
                          refine zq_bind (zq_both (zp_and (zp_and (zp_and (wm_f_M_who FM.rfl') (xh_f_M_who FH.rfl')) (xu_f_M_who FU.rfl')) pr84) (q_f_M_who (li).gm.ge fun r86 mr86 pr86 => ?_))
                          refine zq_ite (fun _ => ?_) fun q => absurd pr86.2 q
                          exact next _ _ _ _ ((li).m (mr86.mo (li).gm)) ((ev).m pr86.1) (Nat.le_succ _) (Nat.le_add_right _ _)
                        ·
                          refine zq_ite (fun _ => ?_) fun _ => ?_
                          ·
                            refine zq_chk (ins 1 (by decide)) fun _ => ?_
                            refine zq_chk (ins 2 (by decide)) fun _ => ?_
                            refine zq_bind (q_f_X_race (li).jx fun r79 => ?_)
                            refine zq_chk (ins 1 (by decide)) fun _ => ?_
                            refine zq_chk (ins 2 (by decide)) fun _ => ?_
                            refine zq_bind (zq_both (zp_and (zp_and (wm_f_M_race FM.rfl') (xh_f_M_race FH.rfl')) (xu_f_M_race FU.rfl')) (q_f_M_race hN (li).gm.ge fun r82 mr82 pr82 => ?_))
                            exact next _ _ _ _ ((li).m (mr82.mo (li).gm)) ((ev).m pr82) (Nat.le_succ _) (Nat.le_add_right _ _)
                          ·
                            refine zq_ite (fun _ => ?_) fun _ => ?_
                            ·
                              refine zq_chk (ins 1 (by decide)) fun _ => ?_
                              refine zq_chk (ins 2 (by decide)) fun _ => ?_
                              refine zq_chk (ins 3 (by decide)) fun _ => ?_
                              refine zq_bind (zq_both (zp_and (zp_and (wx_f_X_thread FX.rfl') (xe_f_X_thread FE.rfl')) (xt_f_X_thread FTT.rfl')) (q_f_X_thread hN (li).jx fun r72 jr72 pr72 => ?_))
                              refine zq_chk (ins 1 (by decide)) fun _ => ?_
                              refine zq_chk (ins 2 (by decide)) fun _ => ?_
                              refine zq_chk (ins 3 (by decide)) fun _ => ?_
                              refine zq_bind (zq_both (zp_and (zp_and (wm_f_M_thread FM.rfl') (xh_f_M_thread FH.rfl')) (xu_f_M_thread FU.rfl')) (q_f_M_thread hN (((li).x jr72)).gm.ge fun r76 mr76 pr76 => ?_))
                              exact next _ _ _ _ ((((li).x jr72)).m (mr76.mo (((li).x jr72)).gm)) ((((ev).x pr72 jr72.fr)).m pr76) (Nat.le_succ _) (Nat.le_add_right _ _)
                            ·
                              refine zq_ite (fun _ => ?_) fun _ => ?_
                              ·
                                refine zq_chk (ins 1 (by decide)) fun _ => ?_
                                refine zq_chk (ins 2 (by decide)) fun _ => ?_
                                refine zq_bind (zq_both (zp_and (zp_and (wx_f_X_field FX.rfl') (xe_f_X_field FE.rfl')) (xt_f_X_field FTT.rfl')) (q_f_X_field hN (li).jx fun r65 jr65 pr65 => ?_))
                                refine zq_chk (ins 1 (by decide)) fun _ => ?_
                                refine zq_chk (ins 2 (by decide)) fun _ => ?_
                                refine zq_bind (zq_both (zp_and (zp_and (wm_f_M_field FM.rfl') (xh_f_M_field FH.rfl')) (xu_f_M_field FU.rfl')) (q_f_M_field (((li).x jr65)).gm.ge fun r68 mr68 pr68 => ?_))
                                exact next _ _ _ _ ((((li).x jr65)).m (mr68.mo (((li).x jr65)).gm)) ((((ev).x pr65 jr65.fr)).m pr68) (Nat.le_succ _) (Nat.le_add_right _ _)
                              ·
                                refine zq_ite (fun _ => ?_) fun _ => ?_
                                ·
                                  refine zq_chk (ins 1 (by decide)) fun _ => ?_
                                  refine zq_chk (ins 2 (by decide)) fun _ => ?_
                                  refine zq_bind (zq_both (zp_and (zp_and (wx_f_X_owner FX.rfl') (xe_f_X_owner FE.rfl')) (xt_f_X_owner FTT.rfl')) (q_f_X_owner hN (li).jx fun r59 jr59 pr59 => ?_))
                                  refine zq_chk (ins 1 (by decide)) fun _ => ?_
                                  refine zq_chk (ins 2 (by decide)) fun _ => ?_
                                  refine zq_bind (zq_both (zp_and (zp_and (wm_f_M_owner FM.rfl') (xh_f_M_owner FH.rfl')) (xu_f_M_owner FU.rfl')) (q_f_M_owner (((li).x jr59)).gm.ge fun r62 mr62 pr62 => ?_))
                                  exact next _ _ _ _ ((((li).x jr59)).m (mr62.mo (((li).x jr59)).gm)) ((((ev).x pr59 jr59.fr)).m pr62) (Nat.le_succ _) (Nat.le_add_right _ _)
                                ·
                                  refine zq_ite (fun _ => ?_) fun _ => ?_
                                  ·
                                    refine zq_chk (ins 1 (by decide)) fun _ => ?_
                                    refine zq_bind (zq_both (zp_and (zp_and (wx_f_X_stuck FX.rfl') (xe_f_X_stuck FE.rfl')) (xt_f_X_stuck FTT.rfl')) (q_f_X_stuck hN (li).jx fun r54 jr54 pr54 => ?_))
                                    refine zq_chk (ins 1 (by decide)) fun _ => ?_
                                    refine zq_bind (zq_both (zp_and (zp_and (wm_f_M_stuck FM.rfl') (xh_f_M_stuck FH.rfl')) (xu_f_M_stuck FU.rfl')) (q_f_M_stuck hN (((li).x jr54)).gm.ge fun r56 mr56 pr56 => ?_))
                                    exact next _ _ _ _ ((((li).x jr54)).m (mr56.mo (((li).x jr54)).gm)) ((((ev).x pr54 jr54.fr)).m pr56) (Nat.le_succ _) (Nat.le_add_right _ _)
                                  ·
                                    refine zq_ite (fun _ => ?_) fun _ => ?_
                                    ·
                                      refine zq_chk (ins 1 (by decide)) fun _ => ?_
                                      refine zq_bind (zq_both (zp_and (zp_and (wx_f_X_whole FX.rfl') (xe_f_X_whole FE.rfl')) (xt_f_X_whole FTT.rfl')) (q_f_X_whole hN (li).jx fun r50 jr50 pr50 => ?_))
                                      refine zq_chk (ins 1 (by decide)) fun _ => ?_
                                      refine zq_bind (zq_both (zp_and (zp_and (wm_f_M_whole FM.rfl') xh_f_M_whole) (xu_f_M_whole FU.rfl')) (m_whole hN (((li).x jr50)).gm fun r52 mr52 pr52 => ?_))
                                      exact next _ _ _ _ ((((li).x jr50)).m mr52) ((((ev).x pr50 jr50.fr)).m pr52) (Nat.le_succ _) (Nat.le_add_right _ _)
                                    ·
                                      refine zq_ite (fun _ => ?_) fun _ => ?_
                                      ·
                                        refine zq_bind (zq_both (zp_and (zp_and (wx_f_X_doubts FX.rfl') (xe_f_X_doubts FE.rfl')) (xt_f_X_doubts FTT.rfl')) (q_f_X_doubts hN (li).jx fun r47 jr47 pr47 => ?_))
                                        refine zq_bind (zq_both (zp_and (zp_and (wm_f_M_doubts FM.rfl') (xh_f_M_doubts FH.rfl')) (xu_f_M_doubts FU.rfl')) (q_f_M_doubts hN (((li).x jr47)).gm.ge fun r48 mr48 pr48 => ?_))
                                        exact next _ _ _ _ ((((li).x jr47)).m (mr48.mo (((li).x jr47)).gm)) ((((ev).x pr47 jr47.fr)).m pr48) (Nat.le_succ _) (Nat.le_add_right _ _)
                                      ·
                                        refine zq_ite (fun _ => ?_) fun _ => ?_
                                        ·
                                          refine zq_chk (ins 1 (by decide)) fun _ => ?_
                                          refine zq_chk (ins 2 (by decide)) fun _ => ?_
                                          refine zq_bind (zq_both (zp_and (zp_and (wx_f_X_doubt FX.rfl') (xe_f_X_doubt FE.rfl')) (xt_f_X_doubt FTT.rfl')) (q_f_X_doubt hN (li).jx fun r43 jr43 pr43 => ?_))
                                          refine zq_chk (ins 1 (by decide)) fun _ => ?_
                                          refine zq_chk (ins 2 (by decide)) fun _ => ?_
                                          refine zq_bind (zq_both (zp_and (zp_and (wm_f_M_doubt FM.rfl') (xh_f_M_doubt FH.rfl')) (xu_f_M_doubt FU.rfl')) (q_f_M_doubt hN (((li).x jr43)).gm.ge fun r46 mr46 pr46 => ?_))
                                          exact next _ _ _ _ ((((li).x jr43)).m (mr46.mo (((li).x jr43)).gm)) ((((ev).x pr43 jr43.fr)).m pr46) (Nat.le_succ _) (Nat.le_add_right _ _)
                                        ·
                                          refine zq_ite (fun _ => ?_) fun _ => ?_
                                          ·
                                            refine zq_chk (ins 1 (by decide)) fun _ => ?_
                                            refine zq_chk (ins 2 (by decide)) fun _ => ?_
                                            refine zq_chk (ins 3 (by decide)) fun _ => ?_
                                            refine zq_chk (ins 4 (by decide)) fun _ => ?_
                                            refine zq_bind (zq_both (zp_and (zp_and (wx_f_X_meet FX.rfl') (xe_f_X_meet FE.rfl')) (xt_f_X_meet FTT.rfl')) (q_f_X_meet hN (li).jx fun r35 jr35 pr35 => ?_))
                                            refine zq_chk (ins 1 (by decide)) fun _ => ?_
                                            refine zq_chk (ins 2 (by decide)) fun _ => ?_
                                            refine zq_chk (ins 3 (by decide)) fun _ => ?_
                                            refine zq_chk (ins 4 (by decide)) fun _ => ?_
                                            refine zq_bind (zq_both (zp_and (zp_and (wm_f_M_meet FM.rfl') (xh_f_M_meet FH.rfl')) (xu_f_M_meet FU.rfl')) (q_f_M_meet hN (((li).x jr35)).gm.ge fun r40 mr40 pr40 => ?_))
                                            exact next _ _ _ _ ((((li).x jr35)).m (mr40.mo (((li).x jr35)).gm)) ((((ev).x pr35 jr35.fr)).m pr40) (Nat.le_succ _) (Nat.le_add_right _ _)
                                          ·
                                            refine zq_ite (fun _ => ?_) fun _ => ?_
                                            ·
                                              refine zq_chk (ins 1 (by decide)) fun _ => ?_
                                              refine zq_bind (q_f_X_guards hN (li).jx fun r28 => ?_)
                                              refine zq_chk (ins 1 (by decide)) fun _ => ?_
                                              refine zq_bind (zq_both (zp_and (zp_and (wm_f_M_guards FM.rfl') (xh_f_M_guards FH.rfl')) (xu_f_M_guards FU.rfl')) (q_f_M_guards hN (li).gm.ge fun r30 mr30 pr30 => ?_))
                                              exact next _ _ _ _ ((li).m (mr30.mo (li).gm)) ((ev).m pr30) (Nat.le_succ _) (Nat.le_add_right _ _)
                                            ·
                                              refine zq_ite (fun _ => ?_) fun _ => ?_
                                              ·
                                                refine zq_bind (zq_both (zp_and (zp_and (wx_f_X_rings FX.rfl') (xe_f_X_rings FE.rfl')) (xt_f_X_rings FTT.rfl')) (q_f_X_rings hN (li).jx fun r25 jr25 pr25 => ?_))
                                                refine zq_bind (zq_both (zp_and (zp_and (wm_f_M_rings FM.rfl') (xh_f_M_rings FH.rfl')) (xu_f_M_rings FU.rfl')) (q_f_M_rings hN (((li).x jr25)).gm.ge fun r26 mr26 pr26 => ?_))
                                                exact next _ _ _ _ ((((li).x jr25)).m (mr26.mo (((li).x jr25)).gm)) ((((ev).x pr25 jr25.fr)).m pr26) (Nat.le_succ _) (Nat.le_add_right _ _)
                                              ·
                                                exact next _ _ _ _ li ev (Nat.le_succ _) (Nat.le_add_right _ _)
theorem li0_z (xs : Nat → Int32) : (∀ i, zy_s xs 37 i = 0) ∧ (∀ i, zy_s xs 78 i = 0) ∧ (∀ i, zy_s xs 90 i = 0) ∧ (∀ i, zy_s xs 86 i = 0) := ⟨fun _ => rfl, fun _ => rfl, fun _ => rfl, fun _ => rfl⟩
theorem li0 (xs : Nat → Int32) : LI (zy_s xs) := by
  obtain ⟨a, b, c, d⟩ := li0_z xs
  have e2 : zy_s xs 82 2 = 0 := rfl
  have e21 : zy_s xs 82 21 = 0 := rfl
  have e53 : zy_s xs 82 53 = 0 := rfl
  have e62 : zy_s xs 82 62 = -1 := rfl
  have e39 : zy_s xs 82 39 = 0 := rfl
  have e46 : zy_s xs 82 46 = 0 := rfl
  have e18 : zy_s xs 82 18 = 0 := rfl
  refine ⟨fun i => by rw [a]; decide, fun i => by rw [b]; decide, ⟨by rw [e2]; decide, fun h => absurd e21 h, fun h => absurd e53 h, fun h => absurd e53 h, by rw [e62]; decide, fun i => by rw [c]; decide, by rw [e39]; decide, by rw [e46]; decide, by rw [e18]; decide, fun i => by rw [d]; decide⟩, rfl⟩
theorem ev0_z (xs : Nat → Int32) : (∀ i, zy_s xs 3 i = 0) ∧ (∀ i, zy_s xs 83 i = 0) := ⟨fun _ => rfl, fun _ => rfl⟩
theorem ev0 (xs : Nat → Int32) : EQV (zy_s xs) zy_t := by
  obtain ⟨a, b⟩ := ev0_z xs
  refine ⟨⟨rfl, rfl, rfl, rfl, rfl, rfl, rfl, rfl, rfl, rfl, rfl, rfl, rfl, rfl, rfl⟩, ?_, fun i => ?_, Or.inl ⟨rfl, rfl⟩⟩
  · funext i
    rw [a i, b i]
  · rw [b i]; decide
theorem whole_go (xs : Nat → Int32) (L : Nat) (hL : L ≤ 384) : ∃ a1 b1 σ1 τ1, zb_Law_23 L zBig zBig (0 + 117) (0 + 522905) (zy_s xs) zy_t 0 = some (1, a1, b1, σ1, τ1) ∧ a1 ≤ 501 ∧ b1 ≤ 523289 := by
  obtain ⟨r, e, h1, h2, h3⟩ := zq_get (q_law hL (N := zBig) (Nat.le_refl _) zBig (0 + 117) (0 + 522905) (zy_s xs) zy_t 0 (li0 xs) ⟨⟨⟨⟨ev0 xs, rfl, rfl, rfl, rfl, rfl, rfl⟩, fun w => absurd (show (0 : Int32) = 1 from w) (by decide)⟩, fun w => absurd (show (0 : Int32) = 1 from w) (by decide), Or.inl ⟨rfl, rfl⟩⟩, Or.inl ⟨rfl, rfl⟩⟩ (by decide) (by show 0 + 117 + (L - 0) ≤ 117 + L; omega) (by show 0 + 522905 + (L - 0) ≤ 522905 + L; omega) (by decide))
  obtain ⟨r1, r2, r3, r4, r5⟩ := r
  simp only at h1 h2 h3
  subst h1
  exact ⟨_, _, _, _, e, h2, h3⟩
