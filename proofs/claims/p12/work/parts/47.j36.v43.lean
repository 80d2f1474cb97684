-- both answer alike
set_option maxRecDepth 2000
theorem zp_unbind {α β : Type} {o : Option α} {f : α → Option β} {Q : β → Prop} (h : zp (o.bind f) Q) : zp o (fun a => zp (f a) Q) := by
  intro a e b e'
  refine h b ?_
  rw [e]
  exact e'
theorem p_M_178 {N : Nat} {μ : zS} : ∀ (n : Nat) (ν : zS) (v : Int32), WY μ ν → zp (zb_M_readThread_178 N n ν v) (fun s => WY μ s) := by
  intro n
  induction n with
  | zero => intro _ _ _; exact zp_none
  | succ n ih =>
    intro ν v h
    have A : ∀ s0 s1, zp (zb_M_readThread_235 (zb_M_readThread_178 N n) N ν v s0 s1) (fun s => WY μ s) := fun s0 s1 => by
      unfold zb_M_readThread_235
      exact zp_chk fun _ => ih _ _ ⟨fun q a b c d => by rw [zu_other b]; exact h.1 q a b c d, fun i hi => by rw [zu_other (by decide)]; exact h.2 i hi⟩
    rw [zb_M_readThread_178]
    exact zp_chk fun _ => zp_ite (fun _ => zp_some h) fun _ => zp_chk fun _ => zp_ite (fun _ => zp_chk fun _ => A _ _) fun _ => zp_chk fun _ => A _ _
theorem p_M_155 {N : Nat} {μ : zS} (h9 : μ 82 9 = 0) : zp (zb_M_readThread_155 N μ) (fun s => WY μ s) := by
  unfold zb_M_readThread_155
  exact zp_ite (fun _ => zp_chk fun _ => zp_bind (zp_mono p_M_lead0 fun r hr => p_M_178 N r 0 hr.wy)) fun q => absurd h9 q
theorem RLX.rt {T : TS} {a : Nat} {c : Nat → Nat} {ws : Nat → Nat → Int64} {nv : Nat} {wv : Nat → Int64} {len : Nat → Nat} {ρ : zS} {τ : zT} {μ ν : zS} (h : RLX T a c ws nv wv len 0 ρ τ μ) (w : WY μ ν) (wl : WRT (c 2 - 1) (len (c 2 - 1)) ρ ν) (w9 : ∀ j, j < 24 * (c 2 - 1) → ν 94 j = μ 94 j ∧ ν 95 j = μ 95 j) : RT T a c ws len ρ τ ν := by
  obtain ⟨sx, sm, ns, nm, pk, la, vx⟩ := h
  have n : ∀ q, q = 85 ∨ q = 86 ∨ q = 87 ∨ q = 90 ∨ q = 92 ∨ q = 93 ∨ q = 96 ∨ q = 97 → ν q = μ q := fun q hq => w.1 q (by omega) (by omega) (by omega) (by omega)
  refine ⟨sx, sm.wy w, ns.1.n3, (show NM3 c ws μ from nm.1).of (fun i hi => w.2 i (by omega)) (fun p _ => by rw [n 86 (by decide)]) (fun p _ => by rw [n 85 (by decide)]), pk.congr rfl (fun _ _ => rfl) ⟨rfl, rfl⟩ rfl (fun q hq => n q (by omega)) (w.2 25 (by decide)), la.of rfl rfl (w.2 19 (by decide)) (n 87 (by decide)) (n 92 (by decide)) (n 93 (by decide)) (fun p _ => by rw [n 86 (by decide)]) (fun p _ => by rw [n 85 (by decide)]), fun t ht => ?_⟩
  by_cases e : t = c 2 - 1
  · rw [e]; exact wl
  · have l24 := (pk.1 t ht).1
    exact (vx.1.1 t (by omega)).low (lim := 24 * (c 2 - 1)) (by omega) (fun _ _ => rfl) (fun q hq => n q (by omega)) (fun j hj => ⟨rfl, rfl, w9 j hj⟩)
theorem p_loop {T : TS} {N N' : Nat} : ∀ (n : Nat) (ρ : zS) (τ : zT) (tv a : Nat), tv ≤ a →
    (∀ c ws len μ m, c 2 = 0 → RT T a c ws len ρ τ μ → zp (zb_Reader_readText_42 N n ρ τ (Int32.ofNat tv)) (fun r => zp (zb_M_read_105 N' m μ) (fun s => FIN r s))) ∧
    (∀ c ws len μ m, 0 < c 2 → RT T a c ws len ρ τ μ → zp (zb_Reader_readText_42 N n ρ τ (Int32.ofNat tv)) (fun r => zp (zb_M_read_204 N' m μ) (fun s => FIN r s))) ∧
    (∀ c ws nv wv len d μ m j, 0 < d → RLX T a c ws nv wv len d ρ τ μ → zp (zb_Reader_readText_42 N n ρ τ (Int32.ofNat tv)) (fun r => zp ((zb_M_readThread_118 N' m μ).bind fun r16 => zb_M_read_204 N' j r16) (fun s => FIN r s))) := by
  intro n
  induction n with
  | zero => intro _ _ _ _ _; exact ⟨fun _ _ _ _ _ _ _ => zp_none, fun _ _ _ _ _ _ _ => zp_none, fun _ _ _ _ _ _ _ _ _ _ _ => zp_none⟩
  | succ n ih =>
    intro ρ τ tv a hv
    have FA : ∀ {r : zS × zT} {μ : zS} {p : Int32} {m : Nat}, XFl r.1 p → MFl μ p → zp (zb_M_read_105 N' m μ) (fun s => FIN r s) := fun x f => zp_mono (p_F_105 f) fun s hs => Or.inl ⟨_, x, hs⟩
    have FB : ∀ {r : zS × zT} {μ : zS} {p : Int32} {m : Nat}, XFl r.1 p → MFl μ p → zp (zb_M_read_204 N' m μ) (fun s => FIN r s) := fun x f => zp_mono (p_F_204 f) fun s hs => Or.inl ⟨_, x, hs⟩
    have THR : ∀ c ws len μ m, RT T a c ws len ρ τ μ → T.1 a = 303 → zp (zf_Reader_tellThread N ρ τ) (fun r => zp (zb_Reader_readText_42 N n r.1 r.2 (Int32.ofNat tv + 1)) (fun r' => zp (zb_M_read_204 N' m μ) (fun s => FIN r' s))) := by
      intro c ws len μ m rt hk
      have sm := rt.2.1
      refine zp_mono (t_thread (N' := N') rt hk) fun r hr => fun r' e' => ?_
      cases m with
      | zero => exact zp_none
      | succ m =>
        rw [zb_M_read_204]
        refine zp_ite (fun q => absurd sm.2.2.2 q) fun _ => zp_bind (zp_mono (p_M_isWord sm.d (c := 4) (by decide)) fun u hu => zp_ite (fun q => ?_) fun _ => zp_bind (hr (fun s p x f => ?_) fun s a' c' ws' len' lt rl => ?_))
        · rcases hu with hu | hu
          · exact absurd hk hu.2
          · rw [hu.1] at q; exact absurd q (by decide)
        · exact FB (p_XF_42 x r' e') f
        · have tm : tv ≤ 1500 := by
            have := rt.1.1.2.2.2.2.2.2.2.2
            have := sm.1.2.2.2.2.1
            omega
          rw [zo_1 (by omega)] at e'
          exact zp_unbind ((ih r.1 r.2 (tv + 1) a' (by omega)).2.2 c' ws' 0 _ len' 1 s N' m (by decide) rl r' e')
    have BAD : ∀ {μ : zS}, SX T a ρ τ → SM T a μ → ∀ {Q : zS × zT → Prop}, (∀ r', XFl r'.1 (T.2.1 a) → Q r') → zp ((zf_Reader_failHere ρ 2).bind fun r5 => some (r5.2, τ)) (fun r => zp (zb_Reader_readText_42 N n r.1 r.2 (Int32.ofNat tv + 1)) Q) := by
      intro μ sx sm Q h
      refine zp_bind (zp_mono (p_X_fail (by decide)) fun r hr => zp_some ?_)
      rw [sx.p] at hr
      exact zp_mono (p_XF_42 hr.2) fun r' h' => h r' h'
    have m226 : ∀ {μ : zS}, SM T a μ → ¬ T.1 a = 0 → ∀ {r : zS × zT}, XFl r.1 (T.2.1 a) → zp (zb_M_read_226 N' μ) (fun s => FIN r s) := by
      intro μ sm hk r x
      unfold zb_M_read_226
      refine zp_ite (fun q => absurd sm.2.2.2 q) fun _ => zp_ite (fun q => absurd (sm.d.fin.mp q) hk) fun _ => zp_bind (zp_mono (p_M_cannot sm.2.2.2) fun s hs => ?_)
      rw [sm.p] at hs
      exact zp_mono (p_F_244 hs) fun s hs => Or.inl ⟨_, x, hs⟩
    have W : ∀ {μ : zS}, SM T a μ → ∀ (x k : Int32), k = x + 299 → 1 ≤ x ∧ x ≤ 15 → zp (zf_M_isWord μ x) (fun r => (r = 0 ∧ T.1 a ≠ k) ∨ (r = 1 ∧ T.1 a = k)) := fun sm x k e hx => by rw [e]; exact p_M_isWord sm.d hx
    have lim : ∀ {μ : zS}, SX T a ρ τ → SM T a μ → ¬ (1500 : Int32) < Int32.ofNat tv := by
      intro μ sx sm q
      have h1 := sx.1.2.2.2.2.2.2.2.2
      have h2 := sm.1.2.2.2.2.1
      have := (zo_lt (k := 1500) (j := tv) (by omega) (by omega)).mp q
      omega
    refine ⟨fun c ws len μ m c0 rt => ?_, fun c ws len μ m c1 rt => ?_, fun c ws nv wv len d μ m j hd rl => ?_⟩
    ·
      have sx := rt.1
      have sm := rt.2.1
      have tm : tv ≤ 1500 := by
        have := sx.1.2.2.2.2.2.2.2.2
        have := sm.1.2.2.2.2.1
        omega
      have d0 : ρ 29 6 = 0 := rt.2.2.2.2.1.2.2.2.2.1.2
      have e42 : ρ 4 2 = 0 := by rw [(rt.2.2.1.1 2 (by decide)).2, c0]; rfl
      rw [zb_Reader_readText_42]
      refine zp_ite (fun q => absurd q (lim sx sm)) fun _ => zp_ite (fun q => absurd sx.2 q) fun _ => zp_ite (fun _ => ?_) fun q => absurd (by rw [d0]; decide) q
      rw [sx.k]
      have ex204 : ∀ {r : zS × zT}, (¬ T.1 a = 300 ∧ ¬ T.1 a = 301 ∧ ¬ T.1 a = 302) → (∀ m', zp (zb_M_read_204 N' m' μ) (fun s => FIN r s)) → zp (zb_M_read_105 N' m μ) (fun s => FIN r s) := by
        intro r hk h
        cases m with
        | zero => exact zp_none
        | succ m =>
          rw [zb_M_read_105]
          refine zp_ite (fun q => absurd sm.2.2.2 q) fun _ => zp_bind (zp_mono (W sm 1 300 rfl (by decide)) fun u hu => zp_ite (fun q => ?_) fun _ => zp_bind (zp_mono (W sm 2 301 rfl (by decide)) fun u hu => zp_ite (fun q => ?_) fun _ => zp_bind (zp_mono (W sm 3 302 rfl (by decide)) fun u hu => zp_ite (fun _ => h N') fun q => ?_)))
          · rcases hu with hu | hu
            · exact absurd hu.1 q
            · exact absurd hu.2 hk.1
          · rcases hu with hu | hu
            · exact absurd hu.1 q
            · exact absurd hu.2 hk.2.1
          · rcases hu with hu | hu
            · exact absurd hu.1 q
            · exact absurd hu.2 hk.2.2
      have ex226 : ∀ {r : zS × zT}, (¬ T.1 a = 303) → zp (zb_M_read_226 N' μ) (fun s => FIN r s) → ∀ m', zp (zb_M_read_204 N' m' μ) (fun s => FIN r s) := by
        intro r hk h m'
        cases m' with
        | zero => exact zp_none
        | succ m' =>
          rw [zb_M_read_204]
          refine zp_ite (fun q => absurd sm.2.2.2 q) fun _ => zp_bind (zp_mono (W sm 4 303 rfl (by decide)) fun u hu => zp_ite (fun _ => h) fun q => ?_)
          rcases hu with hu | hu
          · exact absurd hu.1 q
          · exact absurd hu.2 hk
      refine zp_ite (fun k0 => ?_) fun k0 => ?_
      · refine zp_mono (p_end (N' := N') rt) fun r hr => ex204 (by rw [k0]; decide) (ex226 (by rw [k0]; decide) ?_)
        unfold zb_M_read_226
        exact zp_ite (fun q => absurd sm.2.2.2 q) fun _ => zp_ite (fun _ => hr) fun q => absurd (sm.d.fin.mpr k0) q
      · refine zp_bind ?_
        unfold zb_Reader_readText_87 zf_Reader_readTelling
        rw [sx.k]
        refine zp_ite (fun q => absurd e42 q) fun _ => ?_
        unfold zb_Reader_readTelling_23
        have nxt : ∀ {r : zS × zT} (m' : Nat) (s : zS), OUTT T a r.1 r.2 s → zp (zb_Reader_readText_42 N n r.1 r.2 (Int32.ofNat tv + 1)) (fun r' => zp (zb_M_read_105 N' m' s) (fun s => FIN r' s)) := by
          intro r m' s o
          rcases o with ⟨p, x, f⟩ | ⟨a', c', ws', len', lt, c0', rt'⟩
          · exact zp_mono (p_XF_42 x) fun r' h' => FA h' f
          · rw [zo_1 (by omega)]
            exact (ih r.1 r.2 (tv + 1) a' (by omega)).1 c' ws' len' s m' c0' rt'
        have fld : ∀ o, (T.1 a = 300 ∨ T.1 a = 301) → zp (zb_Reader_readTelling_55 N ρ τ o) (fun r => zp (zb_Reader_readText_42 N n r.1 r.2 (Int32.ofNat tv + 1)) (fun r' => zp (zb_M_read_105 N' m μ) (fun s => FIN r' s))) := by
          intro o hk
          have kk : ¬ T.1 a = 0 ∧ ¬ T.1 a = 1 := by rcases hk with h | h <;> rw [h] <;> decide
          unfold zb_Reader_readTelling_55
          refine zp_bind (fun r er => zp_some fun r' e' => ?_)
          have go136 : ∀ m', zp (zb_M_read_136 (zb_M_read_105 N' m') N' μ) (fun s => FIN r' s) := by
            intro m'
            unfold zb_M_read_136
            refine zp_bind (zp_mono (W sm 3 302 rfl (by decide)) fun u hu => zp_ite (fun _ => zp_bind fun r21 _ => zp_bind (zp_mono (t_field (N' := N') (x := r21) rt c0 kk r er) fun s hs => nxt m' s hs r' e')) fun q => ?_)
            rcases hu with hu | hu
            · exact absurd hu.1 q
            · rcases hk with h | h <;> rw [hu.2] at h <;> exact absurd h (by decide)
          cases m with
          | zero => exact zp_none
          | succ m =>
            rw [zb_M_read_105]
            refine zp_ite (fun q => absurd sm.2.2.2 q) fun _ => zp_bind (zp_mono (W sm 1 300 rfl (by decide)) fun u hu => zp_ite (fun _ => go136 m) fun q => zp_bind (zp_mono (W sm 2 301 rfl (by decide)) fun w hw => zp_ite (fun _ => go136 m) fun q2 => ?_))
            exfalso
            rcases hu with hu | hu
            · rcases hw with hw | hw
              · exact hk.elim hu.2 hw.2
              · exact q2 (by rw [hw.1]; decide)
            · exact q (by rw [hu.1]; decide)
        have f42 : (T.1 a = 300 ∨ T.1 a = 301) → zp (zb_Reader_readTelling_42 N ρ τ (T.1 a)) (fun r => zp (zb_Reader_readText_42 N n r.1 r.2 (Int32.ofNat tv + 1)) (fun r' => zp (zb_M_read_105 N' m μ) (fun s => FIN r' s))) := by
          intro hk
          unfold zb_Reader_readTelling_42
          exact zp_ite (fun _ => fld 0 hk) fun _ => fld 1 hk
        refine zp_ite (fun q => absurd q (by decide)) fun _ => zp_ite (fun k => f42 (Or.inl k)) fun n0 => zp_ite (fun n1 => ?_) fun n1 => f42 (Or.inr (Classical.not_not.mp n1))
        unfold zb_Reader_readTelling_61 zb_Reader_readTelling_79
        refine zp_ite (fun q => absurd q (by decide)) fun _ => zp_ite (fun n2 => zp_ite (fun n3 => ?_) fun n3 => ?_) fun n2 => ?_
        · exact BAD sx sm fun r' h' => ex204 ⟨n0, n1, n2⟩ (ex226 n3 (m226 sm k0 h'))
        · refine zp_bind (zp_mono (fun r er => er) fun r er => zp_some ?_)
          refine fun r' e' => ex204 ⟨n0, n1, n2⟩ fun m' => THR c ws len μ m' rt (Classical.not_not.mp n3) r er r' e'
        · have k2 : T.1 a = 302 := Classical.not_not.mp n2
          refine zp_bind (zp_mono (t_lock (N' := N') rt c0 k2) fun r hr => zp_some fun r' e' => ?_)
          cases m with
          | zero => exact zp_none
          | succ m =>
            have go := hr (Q := fun s => FIN r' s) (zb_M_read_105 N' m) fun s hs => nxt m s hs r' e'
            rw [zb_M_read_105]
            refine zp_ite (fun q => absurd sm.2.2.2 q) fun _ => zp_bind (zp_mono (W sm 1 300 rfl (by decide)) fun u hu => zp_ite (fun _ => go) fun q => zp_bind (zp_mono (W sm 2 301 rfl (by decide)) fun w hw => zp_ite (fun _ => go) fun q2 => zp_bind (zp_mono (W sm 3 302 rfl (by decide)) fun w hw => zp_ite (fun q3 => ?_) fun _ => go)))
            rcases hw with hw | hw
            · exact absurd k2 hw.2
            · rw [hw.1] at q3; exact absurd q3 (by decide)
    ·
      have sx := rt.1
      have sm := rt.2.1
      have d0 : ρ 29 6 = 0 := rt.2.2.2.2.1.2.2.2.2.1.2
      have e42 : ¬ ρ 4 2 = 0 := by
        rw [(rt.2.2.1.1 2 (by decide)).2]
        have := (rt.2.2.1.1 2 (by decide)).1
        have := cap_le 2
        intro q
        have := zo_inj (k := c 2) (j := 0) (by omega) (by omega) q
        omega
      rw [zb_Reader_readText_42]
      refine zp_ite (fun q => absurd q (lim sx sm)) fun _ => zp_ite (fun q => absurd sx.2 q) fun _ => zp_ite (fun _ => ?_) fun q => absurd (by rw [d0]; decide) q
      rw [sx.k]
      have ex226 : ∀ {r : zS × zT}, (¬ T.1 a = 303) → zp (zb_M_read_226 N' μ) (fun s => FIN r s) → zp (zb_M_read_204 N' m μ) (fun s => FIN r s) := by
        intro r hk h
        cases m with
        | zero => exact zp_none
        | succ m' =>
          rw [zb_M_read_204]
          refine zp_ite (fun q => absurd sm.2.2.2 q) fun _ => zp_bind (zp_mono (W sm 4 303 rfl (by decide)) fun u hu => zp_ite (fun _ => h) fun q => ?_)
          rcases hu with hu | hu
          · exact absurd hu.1 q
          · exact absurd hu.2 hk
      refine zp_ite (fun k0 => ?_) fun k0 => ?_
      · refine zp_mono (p_end (N' := N') rt) fun r hr => ex226 (by rw [k0]; decide) ?_
        unfold zb_M_read_226
        exact zp_ite (fun q => absurd sm.2.2.2 q) fun _ => zp_ite (fun _ => hr) fun q => absurd (sm.d.fin.mpr k0) q
      · refine zp_bind ?_
        unfold zb_Reader_readText_87 zf_Reader_readTelling zb_Reader_readTelling_23 zb_Reader_readTelling_61 zb_Reader_readTelling_79
        rw [sx.k]
        refine zp_ite (fun _ => zp_ite (fun _ => zp_ite (fun _ => zp_ite (fun n3 => ?_) fun n3 => ?_) fun q => absurd rfl q) fun q => absurd rfl q) fun q => absurd e42 q
        · exact BAD sx sm fun r' h' => ex226 n3 (m226 sm k0 h')
        · exact zp_bind (zp_mono (THR c ws len μ m rt (Classical.not_not.mp n3)) fun r hr => zp_some hr)
    ·
      have sx := rl.1
      have sm := rl.2.1
      have pk := rl.2.2.2.2.1
      have h6 := pk.2.2.2.2.1
      have h46 := (pk.2.2.2.2.2.1 hd).2.2.2.2.1
      have c1 := (pk.2.2.2.2.2.1 hd).1
      have tm : tv ≤ 1500 := by
        have := sx.1.2.2.2.2.2.2.2.2
        have := sm.1.2.2.2.2.1
        omega
      have dpos : ∀ x : Int32, x = Int32.ofNat d → ¬ x ≤ 0 := fun x e q => by
        rw [e] at q
        have := (zo_le (k := d) (j := 0) (by omega) (by omega)).mp q
        omega
      rw [zb_Reader_readText_42]
      refine zp_ite (fun q => absurd q (lim sx sm)) fun _ => zp_ite (fun q => absurd sx.2 q) fun _ => zp_ite (fun q => absurd q (dpos _ h6.2)) fun _ => zp_bind (zp_mono (s_stmt (N' := N') rl hd) fun r hr => ?_)
      unfold zb_Reader_readText_87
      have nxt : ∀ (m' : Nat) (s : zS), OUT T a c ws r.1 r.2 s → zp (zb_Reader_readText_42 N n r.1 r.2 (Int32.ofNat tv + 1)) (fun r' => zp ((zb_M_readThread_118 N' m' s).bind fun r16 => zb_M_read_204 N' j r16) (fun s => FIN r' s)) := by
        intro m' s o
        rcases o with ⟨p, x, f⟩ | ⟨a', nv', wv', len', d', lt, z46, rl'⟩
        · exact zp_mono (p_XF_42 x) fun r' h' => zp_bind (p_F_118 f (FB h' f))
        · rw [zo_1 (by omega)]
          by_cases e : d' = 0
          · subst e
            obtain ⟨z0, wvp, ⟨lo, hc⟩, h39⟩ := z46 rfl
            have c4' : c 2 ≤ 4 := rl'.2.2.1.1.c2
            have hl' := rl'.2.2.2.2.1.1 (c 2 - 1) (by omega)
            cases m' with
            | zero => exact fun _ _ => zp_bind zp_none
            | succ m' =>
              intro r' e'
              refine zp_bind ?_
              rw [zb_M_readThread_118]
              have s9 := rl'.2.1.2.2.2
              refine zp_ite (fun q => absurd s9 q) fun _ => zp_ite (fun _ => zp_mono (zp_and (p_M_155 s9) (p_M_155W s9 h39 (by omega) hl'.2.2 hl'.1 hc)) fun r16 w => ?_) fun q => absurd (by rw [z0]; decide) q
              exact (ih r.1 r.2 (tv + 1) a' (by omega)).2.1 c ws len' r16 j c1 (rl'.rt w.1 (wvp.fin hc w.2.1 w.2.2.1 w.2.2.2.2) (fun q hq => ⟨w.2.2.2.1 q hq, by rw [w.2.1 q, if_neg (fun x => by omega)]⟩)) r' e'
          · exact (ih r.1 r.2 (tv + 1) a' (by omega)).2.2 c ws nv' wv' len' d' s m' j (by omega) rl'
      intro r' e'
      cases m with
      | zero => exact zp_bind zp_none
      | succ m =>
        refine zp_bind ?_
        rw [zb_M_readThread_118]
        refine zp_ite (fun q => absurd sm.2.2.2 q) fun _ => zp_ite (fun q => absurd q (dpos _ h46)) fun _ => zp_bind (zp_mono (p_M_isSign sm.d (c := 125) (by decide)) fun u hu => zp_ite (fun z => ?_) fun z => ?_)
        · rcases hr with ⟨k, _⟩ | ⟨_, h⟩
          · rcases hu with hu | hu
            · exact absurd k hu.2
            · rw [hu.1] at z; exact absurd z (by decide)
          · exact zp_bind (zp_mono h fun s hs => zp_unbind (nxt m s hs r' e'))
        · rcases hr with ⟨_, h⟩ | ⟨k, _⟩
          · exact zp_bind (zp_mono h fun s hs => zp_unbind (nxt m s hs r' e'))
          · rcases hu with hu | hu
            · exact absurd hu.1 z
            · exact absurd hu.2 k
