-- both answer alike
set_option maxRecDepth 2000
theorem p_rings69 {N : Nat} {kr : zS → Int32 → Int32 → Option (Int32 × zS)} {σ : zS} {c2 d : Nat} {len ch : Nat → Nat} {used : Int32} {F : Nat → Int32} (pj : PJ σ c2 len) (e4 : σ 4 2 = Int32.ofNat c2) (hF : ∀ v, v / 24 < c2 → ¬ v % 24 < len (v / 24) → F v = 0) (hw : ∀ t r, t < c2 → CHN σ c2 len d ch used r → zp (zf_Judge_countRingsWith kr N r (Int32.ofNat d) used (σ 8 (ch (d - 1))) (Int32.ofNat t)) (fun p => p.1 = sm F (24 * t) (len t) ∧ KP d r p.2)) : ∀ (n t : Nat) (acc : Int32) (r : zS), CHN σ c2 len d ch used r → t ≤ 4 → zp (zb_Judge_countRingsFrom_69 kr N n r (Int32.ofNat d) used (σ 8 (ch (d - 1))) acc (Int32.ofNat t)) (fun p => p.1 = acc + sm F (24 * t) (24 * (c2 - t)) ∧ KP d r p.2) := by
  have hc := pj.1
  intro n
  induction n with
  | zero => intro _ _ _ _ _; exact zp_none
  | succ n ih =>
    intro t acc r cn t4
    rw [zb_Judge_countRingsFrom_69, cn.1 4 (by decide), e4]
    refine zp_ite (fun z => zp_some ⟨?_, fun _ _ => rfl, fun _ _ => rfl⟩) fun z => ?_
    · have := (zo_le (k := c2) (j := t) (by omega) (by omega)).mp z
      rw [show 24 * (c2 - t) = 0 by omega, sm, Int32.add_zero]
    · have tc : t < c2 := by
        have : ¬ c2 ≤ t := fun w => z ((zo_le (by omega) (by omega)).mpr w)
        omega
      have l24 := (pj.2.2.1 t tc).1
      refine zp_bind (zp_mono (hw t r tc cn) fun r7 h7 => ?_)
      rw [zo_1 (by omega)]
      refine zp_mono (ih (t + 1) (acc + r7.1) r7.2 (cn.kp h7.2) (by omega)) fun p hp => ⟨?_, h7.2.tr hp.2⟩
      have rest : sm F (24 * t + len t) (24 - len t) = 0 := sm_zero _ _ fun v h1 h2 => hF v (by omega) (by
        rw [show v / 24 = t by omega]
        omega)
      have one : sm F (24 * t) 24 = sm F (24 * t) (len t) := by
        have k := sm_add (f := F) (len t) (24 * t) (24 - len t)
        rw [show len t + (24 - len t) = 24 by omega, rest, Int32.add_zero] at k
        exact k
      rw [hp.1, h7.1, show 24 * (c2 - t) = 24 + 24 * (c2 - (t + 1)) by omega, sm_add, one, show 24 * t + 24 = 24 * (t + 1) by omega, Int32.add_assoc]
theorem bit_val {v : Int32} {s : Nat} : (zJ_ushr v (Int32.ofNat s)) &&& 1 = gt (bit v s) 1 := by
  by_cases c : bit v s
  · rw [gt_y c]
    exact bit_getz.mpr c
  · rw [gt_n c]
    exact Classical.not_not.mp c
theorem p_with4 {kr : zS → Int32 → Int32 → Option (Int32 × zS)} {N : Nat} {σ : zS} {v2 v3 v4 : Int32} : ∀ n, zp (zb_Judge_countRingsWith_6 kr N n σ (Int32.ofNat 4) v2 v3 v4 0 0) (fun p => p = (0, σ)) := by
  intro n
  cases n with
  | zero => exact zp_none
  | succ n =>
    rw [zb_Judge_countRingsWith_6]
    exact zp_bind fun r1 _ => zp_ite (fun _ => zp_some rfl) fun _ => zp_ite (fun _ => zp_some rfl) fun w => absurd (by decide) w
theorem p_ringsFrom {N : Nat} {σ : zS} {c2 : Nat} {len : Nat → Nat} (pj : PJ σ c2 len) (e4 : σ 4 2 = Int32.ofNat c2) (lk : LKS σ c2 len) (nr : ∀ a b, a < c2 → b < 4 → ∀ s, s < 24 → (bit (σ 77 (4 * a + b)) s ↔ NEA σ len a b s)) : ∀ (m d k : Nat) (ch : Nat → Nat) (used : Int32) (r : zS), d + k = 4 → 1 ≤ d → CHN σ c2 len d ch used r → zp (zf_Judge_countRingsFrom N m r (Int32.ofNat d) used) (fun p => p.1 = CR σ c2 len k d ch ∧ KP d r p.2) := by
  have hc := pj.1
  intro m
  induction m with
  | zero => intro _ _ _ _ _ _ _ _; exact zp_none
  | succ m ih =>
    intro d k ch used r dk d1 cn
    rw [zf_Judge_countRingsFrom]
    unfold zf_Judge_countRingsFromB
    have d4 : d ≤ 4 := by omega
    obtain ⟨tl, el⟩ := cn.2.1 (d - 1) (by omega)
    obtain ⟨t0, e0⟩ := cn.2.1 0 (by omega)
    obtain ⟨ln, le⟩ := lk.nat tl
    have bl := (tak_lt pj tl).2
    have b0 := (tak_lt pj t0).2
    rw [zo_pred (by omega) (by omega), zo_n (m := d - 1) (by omega), el, e0, zo_n (m := ch (d - 1)) (by omega), zo_n (m := ch 0) (by omega), cn.1 8 (by decide), cn.1 11 (by decide)]
    have dm := z_dm96 ⟨ch 0, b0⟩
    dsimp only at dm
    have go : ∀ acc : Int32, zp (zb_Judge_countRingsFrom_59 (zf_Judge_countRingsFrom N m) N r (Int32.ofNat d) used (Int32.ofNat (ch 0)) (σ 8 (ch (d - 1))) acc) (fun p => p.1 = acc + TLS σ c2 len k d ch ∧ KP d r p.2) := by
      intro acc
      unfold zb_Judge_countRingsFrom_59
      rw [dm.1, zo_1 (by omega)]
      cases k with
      | zero =>
        have d4' : d = 4 := by omega
        refine zp_mono (p_rings69 (F := fun _ => 0) pj e4 (fun _ _ _ => rfl) (fun t r' tc cn' => ?_) N _ acc r cn (by have := t0.1; omega)) fun p hp => ⟨?_, hp.2⟩
        · unfold zf_Judge_countRingsWith
          rw [d4']
          refine zp_mono (p_with4 N) fun p hp => ?_
          rw [hp]
          exact ⟨(sm_zero _ _ fun _ _ _ => rfl).symm, fun _ _ => rfl, fun _ _ => rfl⟩
        · rw [hp.1, sm_zero _ _ fun _ _ _ => rfl, TLS]
      | succ k =>
        refine zp_mono (p_rings69 (F := fun v => gt (TAK σ c2 len v ∧ HLD σ (ch (d - 1)) v ∧ (∀ i, i < d → DIS σ (ch i) v) ∧ (∀ i, i < d → FIT σ len (ch i) v)) (CR σ c2 len k (d + 1) (fun j => if j = d then v else ch j))) pj e4 (fun v _ n => gt_n fun w => n w.1.2.1) (fun t r' tc cn' => ?_) N _ acc r cn (by have := t0.1; omega)) fun p hp => by rw [TLS]; exact hp
        unfold zf_Judge_countRingsWith
        refine zp_mono (p_ringsWith (k := k) pj lk nr d1 (by omega) tc (fun v u r'' cn'' => ih (d + 1) k _ u r'' (by omega) (by omega) cn'') N 0 0 r' (Nat.zero_le _) cn') fun p hp => ⟨?_, hp.2⟩
        rw [hp.1, Int32.zero_add, Nat.sub_zero]
        rfl
    have cr : ∀ x : Int32, x = gt (1 < d ∧ HLD σ (ch (d - 1)) (ch 0)) 1 → x + TLS σ c2 len k d ch = CR σ c2 len k d ch := fun x hx => by rw [hx, CR_tls]
    refine zp_ite (fun w => ?_) fun _ => zp_ite (fun _ => zp_chk fun _ => zp_chk fun _ => zp_ite (fun one => zp_mono (go 0) fun p hp => ⟨hp.1.trans (cr 0 ?_), hp.2⟩) fun more => zp_chk fun _ => zp_mono (go _) fun p hp => ⟨hp.1.trans (cr _ ?_), hp.2⟩) fun w => absurd ((zo_le (k := d) (j := 4) (by omega) (by omega)).mpr d4) w
    · have := (zo_le (k := d) (j := 0) (by omega) (by omega)).mp w
      omega
    · have := (zo_le (k := d) (j := 1) (by omega) (by omega)).mp one
      rw [gt_n fun w => by omega]
    · have : ¬ d ≤ 1 := fun w => more ((zo_le (k := d) (j := 1) (by omega) (by omega)).mpr w)
      have e : (zJ_ushr (σ 11 (ch 0)) (σ 8 (ch (d - 1)))) &&& 1 = gt (HLD σ (ch (d - 1)) (ch 0)) 1 := by
        have b := bit_val (v := σ 11 (ch 0)) (s := (σ 8 (ch (d - 1))).toNatClampNeg)
        rw [le] at b
        exact b
      rw [e]
      exact gt_same (fun _ _ => rfl) (fun a b => absurd ⟨by omega, a⟩ b) fun a b => absurd a.2 b
theorem p_countRings {N : Nat} {σ : zS} {c2 : Nat} {len : Nat → Nat} (pj : PJ σ c2 len) (e4 : σ 4 2 = Int32.ofNat c2) (lk : LKS σ c2 len) (nr : ∀ a b, a < c2 → b < 4 → ∀ s, s < 24 → (bit (σ 77 (4 * a + b)) s ↔ NEA σ len a b s)) : zp (zf_Judge_countRings N σ) (fun p => p.1 = sm (fun v => gt (TAK σ c2 len v) (CR σ c2 len 3 1 (fun _ => v))) 0 96 ∧ ∀ q, q ≠ 78 → p.2 q = σ q) := by
  have hc := pj.1
  unfold zf_Judge_countRings
  have go : ∀ (n v : Nat) (acc : Int32) (r : zS), v ≤ 96 → (∀ q, q ≠ 78 → r q = σ q) → zp (zb_Judge_countRings_4 N n r acc (Int32.ofNat v)) (fun p => p.1 = acc + sm (fun v => gt (TAK σ c2 len v) (CR σ c2 len 3 1 (fun _ => v))) v (96 - v) ∧ ∀ q, q ≠ 78 → p.2 q = σ q) := by
    intro n
    induction n with
    | zero => intro _ _ _ _ _; exact zp_none
    | succ n ih =>
      intro v acc r hv fr
      rw [zb_Judge_countRings_4]
      refine zp_ite (fun z => zp_some ⟨?_, fr⟩) fun z => ?_
      · have := (zo_le (k := 96) (j := v) (by omega) (by omega)).mp z
        rw [show 96 - v = 0 by omega, sm, Int32.add_zero]
      · have v96 : v < 96 := by
          have : ¬ 96 ≤ v := fun w => z ((zo_le (k := 96) (j := v) (by omega) (by omega)).mpr w)
          omega
        have dm := z_dm96 ⟨v, v96⟩
        dsimp only at dm
        have ev : 24 * (v / 24) + v % 24 = v := by omega
        rw [dm.1, dm.2, show 96 - v = (96 - (v + 1)) + 1 by omega, sm]
        unfold zb_Judge_countRings_63
        rw [zo_1 (by omega)]
        have skip : ¬ TAK σ c2 len v → zp (zb_Judge_countRings_4 N n r acc (Int32.ofNat (v + 1))) (fun p => p.1 = acc + (gt (TAK σ c2 len v) (CR σ c2 len 3 1 (fun _ => v)) + sm (fun v => gt (TAK σ c2 len v) (CR σ c2 len 3 1 (fun _ => v))) (v + 1) (96 - (v + 1))) ∧ ∀ q, q ≠ 78 → p.2 q = σ q) := fun no => by
          rw [gt_n no, Int32.zero_add]
          exact ih (v + 1) acc r (by omega) fr
        refine zp_bind (zp_mono (p_X_slotOf2 (by omega) (by omega)) fun r2 h2 => ?_)
        rw [fr 5 (by decide)] at h2
        rcases h2 with ⟨lt, e2⟩ | ⟨nl, e2⟩
        · rw [ev] at e2
          subst e2
          rw [zo_n (m := v) (by omega), fr 7 (by decide), fr 11 (by decide)]
          have tc : v / 24 < c2 ∧ v % 24 < len (v / 24) := by
            by_cases x : v / 24 < c2
            · have l := (pj.2.2.1 _ x).1
              rw [(pj.2.2.1 _ x).2.1] at lt
              exact ⟨x, (zo_lt (by omega) (by omega)).mp lt⟩
            · rw [pj.2.2.2.1 (v / 24) (by omega) (by omega)] at lt
              have := (zo_lt (k := v % 24) (j := 0) (by omega) (by omega)).mp lt
              omega
          refine zp_chk fun _ => zp_ite (fun n3 => skip fun w => n3 w.2.2) fun y3 => zp_chk fun _ => ?_
          have tk : TAK σ c2 len v := ⟨tc.1, tc.2, Classical.not_not.mp y3⟩
          have cn : CHN σ c2 len 1 (fun _ => v) (σ 11 v) (zx_up r 78 0 (Int32.ofNat v)) := by
            refine ⟨fun q hq => by rw [zu_other hq]; exact fr q hq, fun i hi => ⟨tk, ?_⟩, fun x => ⟨fun h i _ => h, fun h => h 0 (by decide)⟩⟩
            rw [show i = 0 by omega, zx_up_same, zu_eq]
          rw [gt_y tk]
          refine zp_bind (zp_mono (p_ringsFrom pj e4 lk nr 5 1 3 (fun _ => v) (σ 11 v) _ rfl (Nat.le_refl _) cn) fun r6 h6 => ?_)
          refine zp_mono (ih (v + 1) (acc + r6.1) r6.2 (by omega) fun q hq => by rw [h6.2.1 q hq, zu_other hq]; exact fr q hq) fun p hp => ⟨?_, hp.2⟩
          rw [hp.1, h6.1, Int32.add_assoc]
        · subst e2
          rw [show (96 : Int32).toNatClampNeg = 96 from rfl, fr 7 (by decide), pj.2.2.2.2.2.1.1]
          refine zp_chk fun _ => zp_ite (fun _ => skip fun w => nl ?_) fun w => absurd (by decide) w
          have l := (pj.2.2.1 _ w.1).1
          rw [(pj.2.2.1 _ w.1).2.1]
          exact (zo_lt (by omega) (by omega)).mpr w.2.1
  refine zp_mono (go N 0 0 σ (by omega) fun _ _ => rfl) fun p hp => ⟨?_, hp.2⟩
  rw [hp.1, Int32.zero_add, Nat.sub_zero]
