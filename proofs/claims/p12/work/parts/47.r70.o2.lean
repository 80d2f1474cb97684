-- both answer alike
set_option maxRecDepth 2000
theorem p_would {σ : zS} {c2 : Nat} {len : Nat → Nat} {v w : Nat} (pj : PJ σ c2 len) (fd : FLD σ) (sv : SLV c2 len v) (sw : SLV c2 len w) : zp (zf_M_wouldRace σ (Int32.ofNat v) (Int32.ofNat w)) (fun r => AN2 (CLS σ v w) r) := by
  obtain ⟨rv, bv⟩ := slv_rows pj sv
  obtain ⟨rww, bw⟩ := slv_rows pj sw
  unfold zf_M_wouldRace zb_M_wouldRace_65
  refine zp_bind (zp_mono (p_touches bv) fun r1 h1 => zp_ite (fun z => zp_some (AN2.z fun c => h1.n z (by rw [← rv.1]; exact c.1))) fun y1 => zp_bind (zp_mono (p_touches bw) fun r3 h3 => zp_ite (fun z => zp_some (AN2.z fun c => h3.n z (by rw [← rww.1]; exact c.2.1))) fun y3 => ?_))
  have kv : σ 7 v = 0 ∨ σ 7 v = 1 := by rw [rv.1]; exact h1.y y1
  have kw : σ 7 w = 0 ∨ σ 7 w = 1 := by rw [rww.1]; exact h3.y y3
  obtain ⟨_, f6, fe, flt, f93⟩ := slv_fld pj fd sv kv
  obtain ⟨_, _, _, _, g93⟩ := slv_fld pj fd sw kw
  rw [zo_n (m := v) (by omega), zo_n (m := w) (by omega), f93, g93, ← rv.1, ← rww.1]
  have B : ¬ σ 88 (σ 8 v).toNatClampNeg = 0 ↔ bit (σ 4 6) (σ 8 v).toNatClampNeg := (fd.2.1.1 _ f6 (by rw [fe]; exact flt)).symm
  refine zp_chk fun _ => zp_chk fun _ => zp_ite (fun ne => zp_some (AN2.z fun c => ne c.2.2.2.1)) fun eq => zp_chk fun _ => zp_chk fun _ => zp_ite (fun b => zp_some (AN2.z fun c => c.2.2.2.2 (B.mp b))) fun nb => ?_
  have eq := Classical.not_not.mp eq
  have nb' : ¬ bit (σ 4 6) (σ 8 v).toNatClampNeg := fun k => nb (B.mpr k)
  exact zp_chk fun _ => zp_ite (fun k => zp_some (AN2.o ⟨kv, kw, Or.inl k, eq, nb'⟩)) fun nv => zp_chk fun _ => zp_ite (fun nw => zp_some (AN2.z fun c => c.2.2.1.elim nv nw)) fun k => zp_some (AN2.o ⟨kv, kw, Or.inr (Classical.not_not.mp k), eq, nb'⟩)
theorem m_look {N m s : Nat} {len : Nat → Nat} {nc : Nat → Nat → Nat} {ρ μ : zS} {w x : Nat → Int32} (pc : PC m len nc ρ μ) (st : ST m len nc ρ w x) (ex : ∀ i, i < 40 → μ 107 i = x i) (pj : PJ μ m len) (fd : FLD μ) (s4 : s ≤ 4000) : zp (zf_M_lookForRaces N μ (Int32.ofNat s)) (fun r => (∀ q, q ≠ 114 → r q = μ q) ∧ UPD (μ 114) (r 114) 0 (Int32.ofNat (s + 1)) (RPA m μ x)) := by
  have m4 := pc.1.1
  have l24 : ∀ t, t < m → len t ≤ 24 := fun t ht => (pc.2.1 t ht).1
  have e17 : μ 82 17 = Int32.ofNat m := pc.1.2.2
  have out : ∀ (n A : Nat) (ν : zS), A ≤ m → (∀ q, q ≠ 114 → ν q = μ q) → UPD (μ 114) (ν 114) 0 (Int32.ofNat (s + 1)) (RPq m μ x A (A + 1)) → zp (zb_M_lookForRaces_2 N n ν (Int32.ofNat s) (Int32.ofNat A)) (fun r => (∀ q, q ≠ 114 → r q = μ q) ∧ UPD (μ 114) (r 114) 0 (Int32.ofNat (s + 1)) (RPA m μ x)) := by
    intro n
    induction n with
    | zero => intro _ _ _ _ _; exact zp_none
    | succ n ih =>
      intro A ν hA fr u
      rw [zb_M_lookForRaces_2, fr 82 (by decide), e17]
      refine zp_ite (fun q => zp_some ⟨fr, u.same fun p => (RPq_all ?_).symm⟩) fun q => ?_
      · exact (zo_le (k := m) (j := A) (by omega) (by omega)).mp q
      · have lt : A < m := by
          by_cases c : A < m
          · exact c
          · exact absurd ((zo_le (k := m) (j := A) (by omega) (by omega)).mpr (by omega)) q
        have inn : ∀ (i B : Nat) (ν : zS), A < B → B ≤ m → (∀ q, q ≠ 114 → ν q = μ q) → UPD (μ 114) (ν 114) 0 (Int32.ofNat (s + 1)) (RPq m μ x A B) → zp (zb_M_lookForRaces_14 (zb_M_lookForRaces_2 N n) N i ν (Int32.ofNat s) (Int32.ofNat A) (Int32.ofNat B)) (fun r => (∀ q, q ≠ 114 → r q = μ q) ∧ UPD (μ 114) (r 114) 0 (Int32.ofNat (s + 1)) (RPA m μ x)) := by
          intro i
          induction i with
          | zero => intro _ _ _ _ _ _; exact zp_none
          | succ i ihi =>
            intro B ν hAB hB fr u
            rw [zb_M_lookForRaces_14, fr 82 (by decide), e17]
            unfold zb_M_lookForRaces_115
            rw [zo_1 (m := A) (by omega), zo_1 (m := B) (by omega), zo_1 (m := s) (by omega)]
            refine zp_ite (fun q => ih (A + 1) ν (by omega) fr (u.same fun p => ?_)) fun q => ?_
            · have : m ≤ B := (zo_le (k := m) (j := B) (by omega) (by omega)).mp q
              rw [show B = m by omega]
              exact RPq_next
            · have lB : B < m := by
                by_cases c : B < m
                · exact c
                · exact absurd ((zo_le (k := m) (j := B) (by omega) (by omega)).mpr (by omega)) q
              have skip : ¬ (x (15 + 6 * A) = 1 ∧ x (15 + 6 * B) = 1) → ∀ p, RPq m μ x A (B + 1) p ↔ RPq m μ x A B p := fun k p => by
                rw [RPq_suc]
                refine ⟨fun h => h.resolve_right fun o => ?_, Or.inl⟩
                obtain ⟨_, _, _, _, r, _⟩ := o
                exact k r
              refine zp_bind (zp_mono (m_stateOf (by omega)) fun r3 e3 => ?_)
              rw [fr 107 (by decide), ex _ (by omega)] at e3
              subst e3
              refine zp_ite (fun n1 => ihi (B + 1) ν (by omega) (by omega) fr (u.same (skip fun k => n1 k.1))) fun y1 => zp_bind (zp_mono (m_stateOf (by omega)) fun r5 e5 => ?_)
              rw [fr 107 (by decide), ex _ (by omega)] at e5
              subst e5
              refine zp_ite (fun n2 => ihi (B + 1) ν (by omega) (by omega) fr (u.same (skip fun k => n2 k.2))) fun y2 => ?_
              have rA := Classical.not_not.mp y1
              have rB := Classical.not_not.mp y2
              obtain ⟨za, zAl, esA⟩ := st.running lt rA
              obtain ⟨zb, zBl, esB⟩ := st.running lB rB
              have la := l24 A lt
              have lb := l24 B lB
              unfold zf_M_at
              rw [zo_at (t := A) (by omega), zo_at (t := B) (by omega)]
              refine zp_bind (zp_some ?_)
              rw [zo_n (m := 14 + 6 * A) (by omega), fr 107 (by decide), ex (14 + 6 * A) (by omega), esA, (z24 (t := A) (by omega) (show za ≤ 24 by omega)).2.2.2]
              refine zp_chk fun _ => zp_bind (zp_some ?_)
              rw [zo_n (m := 14 + 6 * B) (by omega), ex (14 + 6 * B) (by omega), esB, (z24 (t := B) (by omega) (show zb ≤ 24 by omega)).2.2.2, zo_pair (v := 24 * A + za) (w := 24 * B + zb) (by omega) (by omega), zo_n (m := 96 * (24 * A + za) + (24 * B + zb)) (by omega)]
              have pj' : PJ ν m len := pj.of (fun q hq => fr q (by omega)) (by rw [fr 82 (by decide)])
              have fd' : FLD ν := ⟨fd.1.of (by rw [fr 4 (by decide)]) (fr 5 (by decide)) (fr 7 (by decide)) (fr 8 (by decide)), fd.2.1.of (by rw [fr 4 (by decide)]) (by rw [fr 4 (by decide)]) (fr 88 (by decide)), by rw [fr 4 (by decide)]; exact fd.2.2⟩
              have sv : SLV m len (24 * A + za) := ⟨by omega, by rw [show (24 * A + za) / 24 = A by omega]; omega⟩
              have sw : SLV m len (24 * B + zb) := ⟨by omega, by rw [show (24 * B + zb) / 24 = B by omega]; omega⟩
              have P0 : 96 * (24 * A + za) + (24 * B + zb) < 9216 := by omega
              refine zp_chk fun _ => zp_bind (zp_mono (p_would pj' fd' sv sw) fun r11 h11 => zp_ite (fun z => ihi (B + 1) ν (by omega) (by omega) fr (u.same fun p => ?_)) fun nz => zp_chk fun _ => ?_)
              · rw [RPq_suc]
                refine ⟨fun k => k.resolve_right fun o => ?_, Or.inl⟩
                obtain ⟨za', zb', _, _, _, ⟨e1, e2⟩, cl, _⟩ := o
                have ea : za' = za := zo_inj (by omega) (by omega) (e1.symm.trans esA)
                have eb : zb' = zb := zo_inj (by omega) (by omega) (e2.symm.trans esB)
                rw [ea, eb] at cl
                exact h11.n z (cl.of fun q hq => fr q (by omega))
              · have cl : CLS μ (24 * A + za) (24 * B + zb) := (h11.y nz).of fun q hq => (fr q (by omega)).symm
                have o : RPo m μ x A B (96 * (24 * A + za) + (24 * B + zb)) := ⟨za, zb, ⟨hAB, lB⟩, ⟨by omega, by omega⟩, ⟨rA, rB⟩, ⟨esA, esB⟩, cl, rfl⟩
                have nR : ¬ RPq m μ x A B (96 * (24 * A + za) + (24 * B + zb)) := fun ⟨a', b', k, o'⟩ => by
                  have := RPo_inj m4 o o'
                  omega
                have e : ∀ p, RPq m μ x A (B + 1) p ↔ (RPq m μ x A B p ∨ p = 96 * (24 * A + za) + (24 * B + zb)) := fun p => by
                  rw [RPq_suc]
                  constructor
                  · rintro (k | o')
                    · exact Or.inl k
                    · obtain ⟨za', zb', _, _, _, ⟨e1, e2⟩, _, e3⟩ := o'
                      have ea : za' = za := zo_inj (by omega) (by omega) (e1.symm.trans esA)
                      have eb : zb' = zb := zo_inj (by omega) (by omega) (e2.symm.trans esB)
                      rw [ea, eb] at e3
                      exact Or.inr e3
                  · rintro (k | k)
                    · exact Or.inl k
                    · rw [k]; exact Or.inr o
                refine zp_ite (fun ne => ihi (B + 1) ν (by omega) (by omega) fr (u.no P0 nR e ne)) fun eq => zp_chk fun _ => ihi (B + 1) _ (by omega) (by omega) (fun q hq => by rw [zu_other hq]; exact fr q hq) ?_
                rw [zx_up_same]
                exact u.yes P0 nR e (Classical.not_not.mp eq)
        rw [zo_1 (m := A) (by omega)]
        exact inn N (A + 1) ν (by omega) (by omega) fr u
  unfold zf_M_lookForRaces
  exact out N 0 μ (by omega) (fun _ _ => rfl) fun p hp => ⟨fun k => absurd k RPq_init, fun _ => rfl⟩
