-- both answer alike
set_option maxRecDepth 2000
theorem zo_le_pred {x : Int32} {n : Nat} (hn : n ≤ 100000) : x ≤ Int32.ofNat n - 1 ↔ x < Int32.ofNat n := by
  have k : (1 : Int32).toInt = 1 := rfl
  have e : (Int32.ofNat n - 1).toInt = (n : Int) - 1 := by
    rw [Int32.toInt_sub, zo_ti hn, k, Int.bmod_def]
    omega
  rw [Int32.le_iff_toInt_le, Int32.lt_iff_toInt_lt, e, zo_ti hn]
  omega
theorem p_guards {N : Nat} {σ : zS} {x1 : Int32} (lo : LO σ σ) (nw : σ 7 96 = -1) : zp (zf_X_guards N σ x1) (fun r => zp (zf_M_guards N σ x1) (fun s => r = s.1)) := by
  unfold zf_X_guards zf_M_guards
  rcases lo with ⟨a, b⟩ | ⟨a, b, c, len, h1, h2, h3, h4, h5, h6, h7, h8, _⟩
  · exact zp_ite (fun q => absurd a q) fun _ => zp_some (zp_ite (fun q => absurd b q) fun _ => zp_some rfl)
  have a' : ¬ σ 2 13 = 0 := by rw [a]; decide
  have b' : ¬ σ 82 21 = 0 := by rw [b]; decide
  have c06 := h8 0 (by decide)
  have e40 : σ 4 0 = Int32.ofNat (c 0) := (h2 0 (by decide)).1
  have e15 : σ 82 15 = Int32.ofNat (c 0) := (h2 0 (by decide)).2
  have e41 : σ 4 1 = σ 82 16 := (h2 1 (by decide)).1.trans (h2 1 (by decide)).2.symm
  have e17 : (zx_up σ 82 0 0) 82 17 = Int32.ofNat (c 2) := by rw [zx_up_same, zu_ne (by decide)]; exact (h2 2 (by decide)).2
  have u : ∀ p, p ≠ 82 → (zx_up σ 82 0 0) p = σ p := fun p hp => zu_other hp
  have e24 : 24 * Int32.ofNat (c 2) = Int32.ofNat (24 * c 2) := by
    apply Int32.toInt_inj.mp
    have k : (24 : Int32).toInt = 24 := rfl
    rw [Int32.toInt_mul, zo_ti (by omega), zo_ti (by omega), k, Int.bmod_def]
    omega
  have go : ∀ (n q : Nat) (v2 : Int32), q ≤ 96 → zp (zb_Judge_guardsOf_14 N n σ x1 v2 (Int32.ofNat q)) (fun r => ∀ m, zp (zb_M_guards_43 N m (zx_up σ 82 0 0) x1 v2 (Int32.ofNat q)) (fun s => r = s.1)) := by
    intro n
    induction n with
    | zero => intro _ _ _; exact zp_none
    | succ n ih =>
      intro q v2 hq
      rw [zb_Judge_guardsOf_14]
      refine zp_ite (fun z => zp_some fun m => ?_) fun z => ?_
      · cases m with
        | zero => exact zp_none
        | succ m =>
          rw [zb_M_guards_43, e17, e24]
          refine zp_ite (fun _ => zp_some rfl) fun y => absurd ((zo_le (by omega) (by omega)).mpr ?_) y
          have : 96 ≤ q := (zo_le (k := 96) (j := q) (by omega) (by omega)).mp z
          omega
      · have q96 : q < 96 := by
          have : ¬ 96 ≤ q := fun x => z ((zo_le (k := 96) (j := q) (by omega) (by omega)).mpr x)
          omega
        have dm := z_dm96 ⟨q, q96⟩
        dsimp only at dm
        rw [dm.1, dm.2]
        refine zp_bind (zp_mono (p_X_slotOf2 (by omega) (by omega)) fun r1 hr1 => ?_)
        unfold zb_Judge_guardsOf_64 zb_Judge_guardsOf_69 zb_Judge_guardsOf_103
        rcases hr1 with ⟨lt, e1⟩ | ⟨nl, e1⟩
        · have eq : 24 * (q / 24) + q % 24 = q := by omega
          rw [eq] at e1
          subst e1
          rw [zo_n (by omega), zo_1 (by omega)]
          have tc : q / 24 < c 2 ∧ q % 24 < len (q / 24) := by
            by_cases x : q / 24 < c 2
            · obtain ⟨b1, b2, _⟩ := h3 (q / 24) x
              rw [b2] at lt
              exact ⟨x, (zo_lt (by omega) (by omega)).mp lt⟩
            · rw [h4 (q / 24) (by omega) (by omega)] at lt
              have := (zo_lt (k := q % 24) (j := 0) (by omega) (by omega)).mp lt
              omega
          have l24 := (h3 _ tc.1).1
          have row := h7 (q / 24) (q % 24) tc.1 tc.2
          rw [eq] at row
          obtain ⟨k1, k2, k3, k4, k5, k6, k7, k8⟩ := row
          have ref : ∀ (v2' : Int32), (((σ 92 q = 0 ∨ σ 92 q = 1) ∧ σ 93 q = x1) → v2' = v2 &&& σ 96 q) → (¬ ((σ 92 q = 0 ∨ σ 92 q = 1) ∧ σ 93 q = x1) → v2' = v2) → zp (zb_Judge_guardsOf_14 N n σ x1 v2' (Int32.ofNat (q + 1))) (fun r => ∀ m, zp (zb_M_guards_43 N m (zx_up σ 82 0 0) x1 v2 (Int32.ofNat q)) (fun s => r = s.1)) := by
            intro v2' y1 y2
            refine zp_mono (ih (q + 1) v2' (by omega)) fun r hr m => ?_
            cases m with
            | zero => exact zp_none
            | succ m =>
              rw [zb_M_guards_43, e17, e24]
              refine zp_ite (fun y => ?_) fun _ => ?_
              · have := (zo_le (k := 24 * c 2) (j := q) (by omega) (by omega)).mp y
                omega
              · rw [dm.1, dm.2, zo_n (m := q / 24) (by omega), u 90 (by decide), (h3 _ tc.1).2.2]
                refine zp_chk fun _ => zp_ite (fun w => ?_) fun _ => ?_
                · have := (zo_le (k := len (q / 24)) (j := q % 24) (by omega) (by omega)).mp w
                  omega
                · unfold zf_M_touches zb_M_touches_19 zb_M_guards_97
                  rw [u 92 (by decide), u 93 (by decide), u 96 (by decide), zo_n (m := q) (by omega), zo_1 (by omega)]
                  have no : ¬ ((σ 92 q = 0 ∨ σ 92 q = 1) ∧ σ 93 q = x1) → zp (zb_M_guards_43 N m (zx_up σ 82 0 0) x1 v2 (Int32.ofNat (q + 1))) (fun s => r = s.1) := fun h => by
                    have := hr m
                    rw [y2 h] at this
                    exact this
                  have hit : (σ 92 q = 0 ∨ σ 92 q = 1) → σ 93 q = x1 → zp (zb_M_guards_43 N m (zx_up σ 82 0 0) x1 (v2 &&& σ 96 q) (Int32.ofNat (q + 1))) (fun s => r = s.1) := fun h e => by
                    have := hr m
                    rw [y1 ⟨h, e⟩] at this
                    exact this
                  refine zp_bind (zp_chk fun _ => zp_ite (fun k => zp_some (zp_ite (fun w => absurd w (by decide)) fun _ => zp_chk fun _ => zp_ite (fun ne => no fun h => ne h.2) fun e => zp_chk fun _ => hit (Or.inl k) (Classical.not_not.mp e))) fun k0 => zp_chk fun _ => zp_ite (fun kn => zp_some (zp_ite (fun _ => no fun h => h.1.elim k0 kn) fun w => absurd rfl w)) fun k1 => zp_some (zp_ite (fun w => absurd w (by decide)) fun _ => zp_chk fun _ => zp_ite (fun ne => no fun h => ne h.2) fun e => zp_chk fun _ => hit (Or.inr (Classical.not_not.mp k1)) (Classical.not_not.mp e)))
          have sb : (σ 92 q = 0 ∨ σ 92 q = 1) → σ 8 q = σ 93 q := fun h => k2 (by unfold named; rcases h with h | h; exact Or.inl h; exact Or.inr (Or.inl h))
          rw [k1, k7]
          have go1 : (σ 92 q = 0 ∨ σ 92 q = 1) → zp (if (1 : Int32) = 0 then zb_Judge_guardsOf_14 N n σ x1 v2 (Int32.ofNat (q + 1)) else if 0 ≤ Int32.ofNat q ∧ Int32.ofNat q < 97 then if ¬ (σ 8 q) = x1 then zb_Judge_guardsOf_14 N n σ x1 v2 (Int32.ofNat (q + 1)) else if 0 ≤ Int32.ofNat q ∧ Int32.ofNat q < 97 then zb_Judge_guardsOf_14 N n σ x1 (v2 &&& σ 96 q) (Int32.ofNat (q + 1)) else none else none) (fun r => ∀ m, zp (zb_M_guards_43 N m (zx_up σ 82 0 0) x1 v2 (Int32.ofNat q)) (fun s => r = s.1)) := by
            intro hk
            rw [sb hk]
            exact zp_ite (fun w => absurd w (by decide)) fun _ => zp_chk fun _ => zp_ite (fun ne => ref v2 (fun h => absurd h.2 ne) (fun _ => rfl)) fun e => zp_chk fun _ => ref _ (fun _ => rfl) (fun h => absurd ⟨hk, Classical.not_not.mp e⟩ h)
          refine zp_chk fun _ => zp_ite (fun k => go1 (Or.inl k)) fun k0 => zp_chk fun _ => zp_ite (fun kn => zp_ite (fun _ => ref v2 (fun h => absurd h.1 (fun w => w.elim k0 kn)) (fun _ => rfl)) fun w => absurd rfl w) fun k1 => go1 (Or.inr (Classical.not_not.mp k1))
        · subst e1
          rw [show (96 : Int32).toNatClampNeg = 96 from rfl, nw, zo_1 (by omega)]
          have le5 : σ 5 (q / 24) ≤ Int32.ofNat (q % 24) := Int32.not_lt.mp nl
          refine zp_chk fun _ => zp_ite (fun w => absurd w (by decide)) fun _ => zp_chk fun _ => zp_ite (fun _ => zp_ite (fun _ => ?_) fun w => absurd rfl w) fun w => absurd (by decide) w
          refine zp_mono (ih (q + 1) v2 (by omega)) fun r hr m => ?_
          cases m with
          | zero => exact zp_none
          | succ m =>
            rw [zb_M_guards_43, e17, e24]
            refine zp_ite (fun y => zp_some ?_) fun y => ?_
            · have le : 24 * c 2 ≤ q := (zo_le (k := 24 * c 2) (j := q) (by omega) (by omega)).mp y
              have t := hr 1
              rw [zb_M_guards_43, e17, e24, if_pos ((zo_le (k := 24 * c 2) (j := q + 1) (by omega) (by omega)).mpr (by omega))] at t
              exact t _ rfl
            · have ql : q < 24 * c 2 := by
                have : ¬ 24 * c 2 ≤ q := fun x => y ((zo_le (by omega) (by omega)).mpr x)
                omega
              have tc : q / 24 < c 2 := by omega
              rw [dm.1, dm.2, zo_n (m := q / 24) (by omega), u 90 (by decide), (h3 _ tc).2.2]
              rw [(h3 _ tc).2.1] at le5
              refine zp_chk fun _ => zp_ite (fun _ => ?_) fun w => absurd le5 w
              unfold zb_M_guards_97
              rw [zo_1 (by omega)]
              exact hr m
  have min : ∀ {Q : Int32 × zS → Prop}, ((0 ≤ x1 ∧ x1 < Int32.ofNat (c 0)) → zp (zb_M_guards_43 N N (zx_up σ 82 0 0) x1 ((zJ_shl 1 (σ 82 16)) - 1) 0) Q) → (¬ (0 ≤ x1 ∧ x1 < Int32.ofNat (c 0)) → Q (-102, zx_up σ 82 0 0)) → zp (if ¬ (σ 82 21) = 0 then (zf_M_in (zx_up σ 82 0 0) x1 0 ((σ 82 15) - 1)).bind fun r2 => if ¬ r2 = 0 then zb_M_guards_43 N N (zx_up σ 82 0 0) x1 ((zJ_shl 1 (σ 82 16)) - 1) 0 else some ((-102), (zx_up σ 82 0 0)) else some ((-101), (zx_up σ 82 0 0))) Q := by
    intro Q y n
    rw [e15]
    refine zp_ite (fun _ => zp_bind (zp_mono p_M_in2 fun r2 hr2 => zp_ite (fun w => ?_) fun w => ?_)) fun q => absurd b' q
    · rcases hr2 with ⟨_, z0, z1⟩ | ⟨z, _⟩
      · exact y ⟨z0, (zo_le_pred (by omega)).mp z1⟩
      · exact absurd z w
    · rcases hr2 with ⟨z, _⟩ | ⟨_, z⟩
      · exact absurd (by rw [z]; decide) w
      · exact zp_some (n fun h => z ⟨h.1, (zo_le_pred (by omega)).mpr h.2⟩)
  rw [e40]
  refine zp_ite (fun _ => zp_ite (fun x0 => zp_some (min (fun h => absurd x0 (Int32.not_lt.mpr h.1)) fun _ => rfl)) fun x0 => zp_ite (fun x1' => ?_) fun x1' => zp_some (min (fun h => absurd h.2 x1') fun _ => rfl)) fun q => absurd a' q
  unfold zf_Judge_guardsOf
  rw [e41]
  refine zp_bind (zp_mono (go N 0 _ (by omega)) fun r hr => zp_some (min (fun _ => hr N) fun h => absurd ⟨Int32.not_lt.mp x0, x1'⟩ h))
