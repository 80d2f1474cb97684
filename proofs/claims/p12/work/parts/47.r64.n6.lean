-- both answer alike
set_option maxRecDepth 2000
def SUX (m : Nat) (len : Nat → Nat) (nc : Nat → Nat → Nat) (ρ : zS) (W : Nat → Nat → Int32) (M : Nat → Nat → Nat) (V : Nat → Nat → Int32) (P Q : Nat → Nat) (s t : Nat) : Prop := (CANV m len nc ρ (W s) t 0 ∧ M s (t + 1) = M s t ∧ V s (t + 1) = V s t) ∨ ((∃ a, ¬ a = 0 ∧ CANV m len nc ρ (W s) t a) ∧ V s (t + 1) = 0 ∧ ∃ j, MOVV m len nc ρ (W s) t (W j) ∧ ((j < M s t ∧ M s (t + 1) = M s t) ∨ (j = M s t ∧ M s (t + 1) = M s t + 1 ∧ P j = s ∧ Q j = t)))
def WAYS (m : Nat) (P Q : Nat → Nat) (w43 : Nat → Int32) (n : Nat) : Prop := ∀ j, 0 < j → j < n → w43 j = Int32.ofNat (4 * P j + Q j) ∧ P j < j ∧ Q j < m
def TXP (m : Nat) (len : Nat → Nat) (nc : Nat → Nat → Nat) (ρ : zS) (W : Nat → Nat → Int32) (w43 w44 : Nat → Int32) (v : Int32) (S T n : Nat) : Prop := ∃ (M : Nat → Nat → Nat) (V : Nat → Nat → Int32) (P Q : Nat → Nat), (M 0 0 = 1 ∧ M S T = n ∧ (∀ s, s < S → M (s + 1) 0 = M s m) ∧ (∀ s, s ≤ S → s < M s 0)) ∧ ((∀ s, s ≤ S → V s 0 = 1) ∧ V S T = v ∧ (∀ s, s < S → w44 s = V s m)) ∧ WAYS m P Q w43 n ∧ ∀ s t, ((s < S ∧ t < m) ∨ (s = S ∧ t < T)) → s < n ∧ M s (t + 1) ≤ n ∧ SUX m len nc ρ W M V P Q s t
def TXQ (m : Nat) (len : Nat → Nat) (nc : Nat → Nat → Nat) (ρ : zS) (W : Nat → Nat → Int32) (w43 w44 : Nat → Int32) (S n : Nat) : Prop := ∃ (M : Nat → Nat → Nat) (V : Nat → Nat → Int32) (P Q : Nat → Nat), (M 0 0 = 1 ∧ M S 0 = n ∧ (∀ s, s < S → M (s + 1) 0 = M s m) ∧ (∀ s, s < S → s < M s 0)) ∧ ((∀ s, s < S → V s 0 = 1) ∧ (∀ s, s < S → w44 s = V s m)) ∧ WAYS m P Q w43 n ∧ ∀ s t, s < S → t < m → s < n ∧ M s (t + 1) ≤ n ∧ SUX m len nc ρ W M V P Q s t
theorem TXQ.go {m S n : Nat} {len : Nat → Nat} {nc : Nat → Nat → Nat} {ρ : zS} {W : Nat → Nat → Int32} {w43 w44 : Nat → Int32} (h : TXQ m len nc ρ W w43 w44 S n) (lt : S < n) : TXP m len nc ρ W w43 w44 1 S 0 n := by
  obtain ⟨M, V, P, Q, ⟨m0, mT, mS, mB⟩, ⟨v0, v4⟩, wy, ms⟩ := h
  have z : ∀ s t, ¬ (s = S ∧ t = 0) → (fun s t => if s = S ∧ t = 0 then 1 else V s t) s t = V s t := fun s t k => if_neg k
  have zT : (fun s t => if s = S ∧ t = 0 then 1 else V s t) S 0 = 1 := if_pos ⟨rfl, rfl⟩
  generalize (fun s t => if s = S ∧ t = 0 then 1 else V s t) = V' at z zT
  refine ⟨M, V', P, Q, ⟨m0, mT, mS, fun s hs => ?_⟩, ⟨fun s hs => ?_, zT, fun s hs => ?_⟩, wy, fun s t k => ?_⟩
  · by_cases c : s = S
    · rw [c, mT]; exact lt
    · exact mB s (by omega)
  · by_cases c : s = S
    · rw [c]; exact zT
    · rw [z s 0 (by omega)]; exact v0 s (by omega)
  · rw [z s m (by omega)]; exact v4 s hs
  · obtain ⟨k1, k2, k3⟩ := ms s t (by omega) (by omega)
    unfold SUX at k3 ⊢
    rw [z s t (by omega), z s (t + 1) (by omega)]
    exact ⟨k1, k2, k3⟩
theorem TXP.step {m S T n n' : Nat} {len : Nat → Nat} {nc : Nat → Nat → Nat} {ρ : zS} {W W' : Nat → Nat → Int32} {w43 w43' w44 : Nat → Int32} {v v' : Int32} (h : TXP m len nc ρ W w43 w44 v S T n) (hS : S < n) (hT : T < m) (hn : n ≤ n') (hW : ∀ j, j < n → W' j = W j) (h43 : ∀ j, j < n → w43' j = w43 j) (new : (CANV m len nc ρ (W S) T 0 ∧ n' = n ∧ v' = v) ∨ ((∃ a, ¬ a = 0 ∧ CANV m len nc ρ (W S) T a) ∧ v' = 0 ∧ ∃ j, MOVV m len nc ρ (W S) T (W' j) ∧ ((j < n ∧ n' = n) ∨ (j = n ∧ n' = n + 1 ∧ w43' n = Int32.ofNat (4 * S + T))))) : TXP m len nc ρ W' w43' w44 v' S (T + 1) n' := by
  obtain ⟨M, V, P, Q, ⟨m0, mT, mS, mB⟩, ⟨v0, vT, v4⟩, wy, ms⟩ := h
  have z : ∀ s t, ¬ (s = S ∧ t = T + 1) → (fun s t => if s = S ∧ t = T + 1 then n' else M s t) s t = M s t := fun s t k => if_neg k
  have zT : (fun s t => if s = S ∧ t = T + 1 then n' else M s t) S (T + 1) = n' := if_pos ⟨rfl, rfl⟩
  generalize (fun s t => if s = S ∧ t = T + 1 then n' else M s t) = M' at z zT
  have y : ∀ s t, ¬ (s = S ∧ t = T + 1) → (fun s t => if s = S ∧ t = T + 1 then v' else V s t) s t = V s t := fun s t k => if_neg k
  have yT : (fun s t => if s = S ∧ t = T + 1 then v' else V s t) S (T + 1) = v' := if_pos ⟨rfl, rfl⟩
  generalize (fun s t => if s = S ∧ t = T + 1 then v' else V s t) = V' at y yT
  have p : ∀ j, j ≠ n → (fun j => if j = n then S else P j) j = P j := fun j k => if_neg k
  have pn : (fun j => if j = n then S else P j) n = S := if_pos rfl
  generalize (fun j => if j = n then S else P j) = P' at p pn
  have u : ∀ j, j ≠ n → (fun j => if j = n then T else Q j) j = Q j := fun j k => if_neg k
  have un : (fun j => if j = n then T else Q j) n = T := if_pos rfl
  generalize (fun j => if j = n then T else Q j) = Q' at u un
  have n1 : n' = n ∨ (n' = n + 1 ∧ w43' n = Int32.ofNat (4 * S + T)) := by
    rcases new with ⟨_, e, _⟩ | ⟨_, _, j, _, ⟨_, e⟩ | ⟨_, e, f⟩⟩
    · exact Or.inl e
    · exact Or.inl e
    · exact Or.inr ⟨e, f⟩
  refine ⟨M', V', P', Q', ⟨by rw [z 0 0 (by omega)]; exact m0, zT, fun s hs => by rw [z (s + 1) 0 (by omega), z s m (by omega)]; exact mS s hs, fun s hs => by rw [z s 0 (by omega)]; exact mB s hs⟩, ⟨fun s hs => by rw [y s 0 (by omega)]; exact v0 s hs, yT, fun s hs => by rw [y s m (by omega)]; exact v4 s hs⟩, fun j j0 jn => ?_, fun s t k => ?_⟩
  · by_cases c : j = n
    · rw [c, pn, un]
      rcases n1 with e | ⟨_, e⟩
      · omega
      · exact ⟨e, hS, hT⟩
    · have jn' : j < n := by
        rcases n1 with e | ⟨e, _⟩
        · omega
        · omega
      rw [h43 j jn', p j c, u j c]
      exact wy j j0 jn'
  · by_cases c : s = S ∧ t = T
    · obtain ⟨c1, c2⟩ := c
      subst c1 c2
      refine ⟨by omega, by rw [zT]; exact Nat.le_refl _, ?_⟩
      unfold SUX
      rw [zT, yT, z s t (by omega), y s t (by omega), mT, vT, hW s hS]
      rcases new with e | ⟨a, b, j, mv, ⟨e1, e2⟩ | ⟨e1, e2, _⟩⟩
      · exact Or.inl e
      · exact Or.inr ⟨a, b, j, mv, Or.inl ⟨e1, e2⟩⟩
      · exact Or.inr ⟨a, b, j, mv, Or.inr ⟨e1, e2, by rw [e1]; exact pn, by rw [e1]; exact un⟩⟩
    · have k' : (s < S ∧ t < m) ∨ (s = S ∧ t < T) := by omega
      obtain ⟨k1, k2, k3⟩ := ms s t k'
      unfold SUX at k3 ⊢
      rw [z s t (by omega), z s (t + 1) (by omega), y s t (by omega), y s (t + 1) (by omega), hW s k1]
      refine ⟨by omega, by omega, ?_⟩
      rcases k3 with k3 | ⟨a, b, j, mv, k3⟩
      · exact Or.inl k3
      · have jn : j < n := by
          rcases k3 with ⟨e, f⟩ | ⟨e, f, _⟩
          · omega
          · omega
        refine Or.inr ⟨a, b, j, ?_, ?_⟩
        · rw [hW j jn]
          exact mv
        · rw [p j (by omega), u j (by omega)]
          exact k3
theorem TXP.next {m S n : Nat} {len : Nat → Nat} {nc : Nat → Nat → Nat} {ρ : zS} {W : Nat → Nat → Int32} {w43 w44 w44' : Nat → Int32} {v : Int32} (h : TXP m len nc ρ W w43 w44 v S m n) (eS : w44' S = v) (eo : ∀ s, s < S → w44' s = w44 s) : TXQ m len nc ρ W w43 w44' (S + 1) n := by
  obtain ⟨M, V, P, Q, ⟨m0, mT, mS, mB⟩, ⟨v0, vT, v4⟩, wy, ms⟩ := h
  have z : ∀ s t, ¬ (s = S + 1 ∧ t = 0) → (fun s t => if s = S + 1 ∧ t = 0 then n else M s t) s t = M s t := fun s t k => if_neg k
  have zT : (fun s t => if s = S + 1 ∧ t = 0 then n else M s t) (S + 1) 0 = n := if_pos ⟨rfl, rfl⟩
  generalize (fun s t => if s = S + 1 ∧ t = 0 then n else M s t) = M' at z zT
  refine ⟨M', V, P, Q, ⟨by rw [z 0 0 (by omega)]; exact m0, zT, fun s hs => ?_, fun s hs => by rw [z s 0 (by omega)]; exact mB s (by omega)⟩, ⟨fun s hs => v0 s (by omega), fun s hs => ?_⟩, wy, fun s t k1 k2 => ?_⟩
  · by_cases c : s = S
    · rw [c, zT, z S m (by omega)]; exact mT.symm
    · rw [z (s + 1) 0 (by omega), z s m (by omega)]; exact mS s (by omega)
  · by_cases c : s = S
    · rw [c, eS]; exact vT.symm
    · rw [eo s (by omega)]; exact v4 s (by omega)
  · obtain ⟨k1, k2, k3⟩ := ms s t (by omega)
    unfold SUX at k3 ⊢
    rw [z s t (by omega), z s (t + 1) (by omega)]
    exact ⟨k1, k2, k3⟩
def MNX (m : Nat) (len : Nat → Nat) (nc : Nat → Nat → Nat) (ρ : zS) (W : Nat → Nat → Int32) : Prop := ∃ S T w43 w44 v, S < 4000 ∧ T < m ∧ TXP m len nc ρ W w43 w44 v S T 4000 ∧ (∃ a, ¬ a = 0 ∧ CANV m len nc ρ (W S) T a) ∧ ∃ w', MOVV m len nc ρ (W S) T w' ∧ ∀ j, j < 4000 → ¬ SAME5 (W j) w'
theorem c_noteX {N n : Nat} {way : Int32} {ρ σ : zS} {W : Nat → Nat → Int32} (h : GST ρ n W σ) : zp (zf_Space_note N σ way) (fun r => (r = (1, σ) ∧ ∃ j, j < n ∧ SAME5 (W j) (σ 40)) ∨ ((∀ j, j < n → ¬ SAME5 (W j) (σ 40)) ∧ ((n < 4000 ∧ r.1 = 1 ∧ GST ρ (n + 1) (fun j => if j = n then σ 40 else W j) r.2 ∧ r.2 43 = zu (σ 43) n way ∧ (∀ q, q ≠ 41 → q ≠ 42 → q ≠ 43 → q ≠ 45 → r.2 q = σ q) ∧ (∀ i, i ≠ 6 → r.2 41 i = σ 41 i)) ∨ (n = 4000 ∧ r = (0, σ))))) := by
  obtain ⟨h1, h2, h3, h4⟩ := h
  refine zp_mono (c_note h2) fun r hr => ?_
  rcases hr with ⟨e, j, hj, s⟩ | ⟨no, hr⟩
  · exact Or.inl ⟨e, j, hj, (h3 j hj).sy.tr s⟩
  · have no' : ∀ j, j < n → ¬ SAME5 (W j) (σ 40) := fun j hj s => no j hj ((h3 j hj).tr s)
    refine Or.inr ⟨no', ?_⟩
    rcases hr with ⟨n4, e, cb, en, eo, e43, fr, f41⟩ | hr
    · refine Or.inl ⟨n4, e, ⟨fun q a b => (fr q (by omega) (by omega) (by omega) (by omega)).trans (h1 q a b), cb, fun j hj => ?_, fun i j ij hj => ?_⟩, e43, fr, f41⟩
      · dsimp only
        by_cases c : j = n
        · rw [c, if_pos rfl]; exact en
        · rw [if_neg c]; exact (eo j (by omega)).tr (h3 j (by omega))
      · dsimp only
        rw [if_neg (show ¬ i = n by omega)]
        by_cases c : j = n
        · rw [if_pos c]; exact no' i (by omega)
        · rw [if_neg c]; exact h4 i j ij (by omega)
    · exact Or.inr hr
theorem zo_way {S T : Nat} (hS : S ≤ 4000) (hT : T ≤ 4) : Int32.ofNat S * 4 + Int32.ofNat T = Int32.ofNat (4 * S + T) := by
  show Int32.ofNat S * Int32.ofNat 4 + Int32.ofNat T = _
  rw [← Int32.ofNat_mul, ← Int32.ofNat_add, Nat.mul_comm]
theorem c_threadsX {N m S : Nat} {len : Nat → Nat} {nc : Nat → Nat → Nat} {ρ : zS} (m4 : m ≤ 4) (e42 : ρ 4 2 = Int32.ofNat m) (S4 : S < 4000) : ∀ (k T : Nat) (σ : zS) (n : Nat) (W : Nat → Nat → Int32) (v4 : Int32), (v4 = 0 ∨ v4 = 1) → T ≤ m → S < n → GST ρ n W σ → LOD m len nc ρ (W S) σ → TXP m len nc ρ W (σ 43) (σ 44) v4 S T n → zp (zb_Space_exploreFrom_20 N k σ (Int32.ofNat S) (-1) (-1) v4 (Int32.ofNat T)) (fun r => ((r.1 = 1 ∧ ∃ n' W', S < n' ∧ W' 0 = W 0 ∧ GST ρ n' W' r.2 ∧ TXQ m len nc ρ W' (r.2 43) (r.2 44) (S + 1) n') ∨ (r.1 = 0 ∧ ∃ W', W' 0 = W 0 ∧ GST ρ 4000 W' r.2 ∧ MNX m len nc ρ W')) ∧ (∀ q, (q < 36 ∨ 45 < q) → r.2 q = σ q)) := by
  intro k
  induction k with
  | zero => intro _ _ _ _ _ _ _ _ _ _ _; exact zp_none
  | succ k ih =>
    intro T σ n W v4 hv hT hS gs lo tr
    rw [zb_Space_exploreFrom_20]
    unfold zb_Space_exploreFrom_43 zb_Space_exploreFrom_48 zb_Space_exploreFrom_95
    have e4 : σ 4 2 = Int32.ofNat m := by rw [gs.1 4 (by decide) (by decide)]; exact e42
    have n4 := gs.2.1.1
    rw [e4]
    refine zp_ite (fun q => ?_) fun q => zp_ite (fun _ => zp_ite (fun z => absurd z (by decide)) fun _ => ?_) fun q' => absurd rfl q'
    · have tm : T = m := by
        have := (zo_le (k := m) (j := T) (by omega) (by omega)).mp q
        omega
      subst tm
      refine zp_bind (zp_mono (c_has gs.2.1.2.1 n4 hS) fun r4 h4 => zp_ite (fun z => absurd (h4.symm.trans z) (by decide)) fun _ => zp_chk fun _ => zp_some ⟨Or.inl ⟨rfl, n, W, hS, rfl, gs.of fun q _ _ _ _ _ b => zu_other b, ?_⟩, fun q hq => zu_other (by omega)⟩)
      dsimp only
      rw [zo_n (m := S) (by omega), zu_other (by decide), zx_up_same]
      exact tr.next (by rw [zu_eq]; rcases hv with e | e <;> rw [e] <;> decide) fun s hs => zu_ne (by omega)
    · have lt : T < m := by
        by_cases c : T < m
        · exact c
        · exact absurd ((zo_le (k := m) (j := T) (by omega) (by omega)).mpr (by omega)) q
      rw [zo_1 (m := T) (by omega)]
      refine zp_bind fun r9 e9 => zp_ite (fun z => ?_) fun nz => zp_bind fun r11 e11 => ?_
      · rw [z] at e9
        exact ih (T + 1) σ n W v4 hv (by omega) hS gs lo (tr.step hS lt (Nat.le_refl _) (fun _ _ => rfl) (fun _ _ => rfl) (Or.inl ⟨⟨σ, lo, e9⟩, rfl, rfl⟩))
      · have can : ∃ a, ¬ a = 0 ∧ CANV m len nc ρ (W S) T a := ⟨r9, nz, σ, lo, e9⟩
        have f11 : ∀ p, p ≠ 40 → r11 p = σ p := c_moveF r11 e11
        have gs1 : GST ρ n W r11 := gs.of fun q _ _ _ _ b _ => f11 q b
        have lo1 : LOD m len nc ρ (W S) r11 := lo.of fun q hq => f11 q (by omega)
        have e43 : r11 43 = σ 43 := f11 43 (by decide)
        have e44 : r11 44 = σ 44 := f11 44 (by decide)
        refine zp_bind (zp_mono (c_noteX gs1) fun r12 h12 => ?_)
        rcases h12 with ⟨e, j, hj, s⟩ | ⟨no, ⟨n4', e, gs2, f43, fr, f41⟩ | ⟨e4', e⟩⟩
        · rw [e]
          refine zp_ite (fun _ => ?_) fun z => absurd (show ¬ (1 : Int32) = 0 by decide) z
          refine zp_mono (ih (T + 1) r11 n W 0 (Or.inl rfl) (by omega) hS gs1 lo1 (by rw [e43, e44]; exact tr.step hS lt (Nat.le_refl _) (fun _ _ => rfl) (fun _ _ => rfl) (Or.inr ⟨can, rfl, j, ⟨N, σ, r11, lo, e11, s.sy⟩, Or.inl ⟨hj, rfl⟩⟩))) fun r hr => ⟨hr.1, fun q hq => (hr.2 q hq).trans (f11 q (by omega))⟩
        · refine zp_ite (fun _ => ?_) fun z => absurd (by rw [e]; decide) z
          have WS : (fun j => if j = n then r11 40 else W j) S = W S := if_neg (by omega)
          have W0 : (fun j => if j = n then r11 40 else W j) 0 = W 0 := if_neg (by omega)
          have Wn : (fun j => if j = n then r11 40 else W j) n = r11 40 := if_pos rfl
          have Wo : ∀ j, j < n → (fun j => if j = n then r11 40 else W j) j = W j := fun j hj => if_neg (by omega)
          generalize (fun j => if j = n then r11 40 else W j) = W' at *
          rw [zo_way (by omega) (by omega), e43] at f43
          have tr' : TXP m len nc ρ W' (r12.2 43) (r12.2 44) 0 S (T + 1) (n + 1) := by
            rw [f43, fr 44 (by decide) (by decide) (by decide) (by decide), e44]
            exact tr.step hS lt (by omega) Wo (fun j hj => zu_ne (by omega)) (Or.inr ⟨can, rfl, n, ⟨N, σ, r11, lo, e11, by rw [Wn]; exact SAME5.rfl'⟩, Or.inr ⟨rfl, rfl, zu_eq ..⟩⟩)
          refine zp_mono (ih (T + 1) r12.2 (n + 1) W' 0 (Or.inl rfl) (by omega) (by omega) gs2 (by rw [WS]; exact lo1.of fun q hq => fr q (by omega) (by omega) (by omega) (by omega)) tr') fun r hr => ⟨?_, fun q hq => (hr.2 q hq).trans ((fr q (by omega) (by omega) (by omega) (by omega)).trans (f11 q (by omega)))⟩
          rcases hr.1 with ⟨a, n', W'', b1, b2, b3⟩ | ⟨a, W'', b2, b3⟩
          · exact Or.inl ⟨a, n', W'', b1, b2.trans W0, b3⟩
          · exact Or.inr ⟨a, W'', b2.trans W0, b3⟩
        · rw [e]
          subst e4'
          refine zp_ite (fun z => absurd rfl z) fun _ => zp_some ⟨Or.inr ⟨rfl, W, rfl, gs1, S, T, σ 43, σ 44, v4, S4, lt, tr, can, r11 40, ⟨N, σ, r11, lo, e11, SAME5.rfl'⟩, no⟩, fun q hq => f11 q (by omega)⟩
theorem c_loopX {N m : Nat} {len : Nat → Nat} {nc : Nat → Nat → Nat} {ρ μ : zS} (pc : PC m len nc ρ μ) : ∀ (k S : Nat) (σ : zS) (n : Nat) (W : Nat → Nat → Int32), S ≤ n → GST ρ n W σ → TXQ m len nc ρ W (σ 43) (σ 44) S n → zp (zb_Space_explore_28 N k σ (-1) 1 (Int32.ofNat S)) (fun r => ((r.1 = 1 ∧ ∃ n' W', W' 0 = W 0 ∧ GST ρ n' W' r.2 ∧ TXQ m len nc ρ W' (r.2 43) (r.2 44) n' n') ∨ (r.1 = 0 ∧ ∃ W', W' 0 = W 0 ∧ GST ρ 4000 W' r.2 ∧ MNX m len nc ρ W')) ∧ (∀ q, (q < 36 ∨ 45 < q) → r.2 q = σ q)) := by
  have pc' := pc
  obtain ⟨⟨m4, e42, _⟩, _⟩ := pc
  intro k
  induction k with
  | zero => intro _ _ _ _ _ _ _; exact zp_none
  | succ k ih =>
    intro S σ n W hS gs tr
    rw [zb_Space_explore_28]
    have n4 := gs.2.1.1
    have e6 := gs.2.1.2.1
    rw [e6]
    have done : S = n → ((((1 : Int32), σ).1 = 1 ∧ ∃ n' W', W' 0 = W 0 ∧ GST ρ n' W' σ ∧ TXQ m len nc ρ W' (σ 43) (σ 44) n' n') ∨ (((1 : Int32), σ).1 = 0 ∧ ∃ W', W' 0 = W 0 ∧ GST ρ 4000 W' σ ∧ MNX m len nc ρ W')) ∧ (∀ q, (q < 36 ∨ 45 < q) → ((1 : Int32), σ).2 q = σ q) := fun e => ⟨Or.inl ⟨rfl, n, W, rfl, gs, by rw [e] at tr; exact tr⟩, fun _ _ => rfl⟩
    refine zp_ite (fun q => zp_chk fun _ => zp_some (done ?_)) fun q => zp_ite (fun q' => zp_chk fun _ => zp_some (done ?_)) fun _ => zp_ite (fun z => absurd z (by decide)) fun _ => zp_bind ?_
    · have := (zo_le (k := n) (j := S) (by omega) (by omega)).mp q
      omega
    · have := (zo_le (k := 4000) (j := S) (by omega) (by omega)).mp q'
      omega
    · have lt : S < n := by
        by_cases c : S < n
        · exact c
        · exact absurd ((zo_le (k := n) (j := S) (by omega) (by omega)).mpr (by omega)) q
      unfold zf_Space_exploreFrom
      refine zp_bind fun r1 e1 => zp_bind (zp_mono c_alone fun r2 e2 => ?_)
      subst e2
      have row : SAME5 (row5 σ S) (W S) := gs.2.2.1 S lt
      have fr : ∀ q, q ≠ 36 → q ≠ 37 → q ≠ 38 → q ≠ 39 → r1 q = σ q := c_loadF r1 e1
      have gs1 : GST ρ n W r1 := gs.of fun q a b c d _ _ => fr q a b c d
      have lo : LOD m len nc ρ (W S) r1 := fun x st => by
        have st' := st.congr m4 row (fun _ _ => rfl)
        obtain ⟨l1, l2, l3, l4⟩ := (c_load pc' e6 n4 lt gs.1 st' r1 e1).1
        exact ⟨l1, l2.tr row, l3, l4⟩
      refine zp_mono (c_threadsX m4 e42 (by omega) N 0 r1 n W 1 (Or.inr rfl) (by omega) lt gs1 lo (by rw [fr 43 (by decide) (by decide) (by decide) (by decide), fr 44 (by decide) (by decide) (by decide) (by decide)]; exact tr.go lt)) fun r10 h10 => ?_
      obtain ⟨h10, f10⟩ := h10
      have ff : ∀ q, (q < 36 ∨ 45 < q) → r10.2 q = σ q := fun q hq => (f10 q hq).trans (fr q (by omega) (by omega) (by omega) (by omega))
      rcases h10 with ⟨e, n', W', b1, b2, b3, b4⟩ | ⟨e, W', b2, b3, b4⟩
      · rw [e, zo_1 (m := S) (by omega)]
        refine zp_mono (ih (S + 1) r10.2 n' W' (by omega) b3 b4) fun r hr => ⟨?_, fun q hq => (hr.2 q hq).trans (ff q hq)⟩
        rcases hr.1 with ⟨a, n'', W'', c1, c2⟩ | ⟨a, W'', c1, c2⟩
        · exact Or.inl ⟨a, n'', W'', c1.trans b2, c2⟩
        · exact Or.inr ⟨a, W'', c1.trans b2, c2⟩
      · rw [e]
        cases k with
        | zero => exact zp_none
        | succ k =>
          rw [zb_Space_explore_28]
          have fin : ((((0 : Int32), r10.2).1 = 1 ∧ ∃ n' W', W' 0 = W 0 ∧ GST ρ n' W' r10.2 ∧ TXQ m len nc ρ W' (r10.2 43) (r10.2 44) n' n') ∨ (((0 : Int32), r10.2).1 = 0 ∧ ∃ W', W' 0 = W 0 ∧ GST ρ 4000 W' r10.2 ∧ MNX m len nc ρ W')) ∧ (∀ q, (q < 36 ∨ 45 < q) → ((0 : Int32), r10.2).2 q = σ q) := ⟨Or.inr ⟨rfl, W', b2, b3, b4⟩, ff⟩
          exact zp_ite (fun _ => zp_chk fun _ => zp_some fin) fun _ => zp_ite (fun _ => zp_chk fun _ => zp_some fin) fun _ => zp_ite (fun _ => zp_chk fun _ => zp_some fin) fun z => absurd rfl z
