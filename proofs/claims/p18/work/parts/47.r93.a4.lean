-- both answer alike
set_option maxRecDepth 2000
def LOF (o m : Nat) (len : Nat → Nat) (nc : Nat → Nat → Nat) (ρ : zS) (w : Nat → Int32) (σ : zS) : Prop := ∀ x, STF o m len nc ρ w x → LDD m ρ w x σ
theorem LOF.of {o m : Nat} {len : Nat → Nat} {nc : Nat → Nat → Nat} {ρ σ r : zS} {w : Nat → Int32} (h : LOF o m len nc ρ w σ) (e : ∀ q, (4 ≤ q ∧ q ≤ 16) ∨ (36 ≤ q ∧ q ≤ 39) → r q = σ q) : LOF o m len nc ρ w r := fun x st => by
  obtain ⟨l1, l2, l3, l4⟩ := h x st
  exact ⟨fun q a b => (e q (Or.inl ⟨a, b⟩)).trans (l1 q a b), by rw [e 39 (by decide)]; exact l2, by rw [e 36 (by decide), e 37 (by decide)]; exact l3, by rw [e 38 (by decide)]; exact l4⟩
def CANF (o m : Nat) (len : Nat → Nat) (nc : Nat → Nat → Nat) (ρ : zS) (w : Nat → Int32) (t : Nat) (a : Int32) : Prop := ∃ σ, LOF o m len nc ρ w σ ∧ zf_Machine_canMove σ (Int32.ofNat t) = some a
def MOVF (o : Nat) (sp : Int32) (m : Nat) (len : Nat → Nat) (nc : Nat → Nat → Nat) (ρ : zS) (w : Nat → Int32) (t : Nat) (w' : Nat → Int32) : Prop := ∃ N σ r, LOF o m len nc ρ w σ ∧ zf_Machine_move N σ (Int32.ofNat t) sp = some r ∧ SAME5 (r 40) w'
def ALF (o : Nat) (sp : Int32) (m : Nat) (len : Nat → Nat) (nc : Nat → Nat → Nat) (ρ : zS) (w : Nat → Int32) (a : Int32) : Prop := ∃ N σ, LOF o m len nc ρ w σ ∧ zf_Machine_aloneIn N σ sp = some a
def MAY (a : Int32) (t : Nat) : Prop := a = -1 ∨ a = Int32.ofNat t
def SUF (o : Nat) (sp : Int32) (m : Nat) (len : Nat → Nat) (nc : Nat → Nat → Nat) (ρ : zS) (W : Nat → Nat → Int32) (A : Nat → Int32) (M : Nat → Nat → Nat) (V : Nat → Nat → Int32) (s t : Nat) : Prop := (¬ MAY (A s) t ∧ M s (t + 1) = M s t ∧ V s (t + 1) = V s t) ∨ (MAY (A s) t ∧ CANF o m len nc ρ (W s) t 0 ∧ M s (t + 1) = M s t ∧ V s (t + 1) = V s t) ∨ (MAY (A s) t ∧ (∃ a, ¬ a = 0 ∧ CANF o m len nc ρ (W s) t a) ∧ V s (t + 1) = 0 ∧ ∃ j, MOVF o sp m len nc ρ (W s) t (W j) ∧ ((j < M s t ∧ M s (t + 1) = M s t) ∨ (j = M s t ∧ M s (t + 1) = M s t + 1)))
def TFP (o : Nat) (sp : Int32) (m : Nat) (len : Nat → Nat) (nc : Nat → Nat → Nat) (ρ : zS) (W : Nat → Nat → Int32) (w67 : Nat → Int32) (a v : Int32) (S T n : Nat) : Prop := ∃ (A : Nat → Int32) (M : Nat → Nat → Nat) (V : Nat → Nat → Int32), (M 0 0 = 1 ∧ M S T = n ∧ (∀ s, s < S → M (s + 1) 0 = M s m) ∧ (∀ s, s ≤ S → s < M s 0)) ∧ ((∀ s, s ≤ S → V s 0 = 1) ∧ V S T = v ∧ (∀ s, s < S → w67 s = V s m)) ∧ ((∀ s, s ≤ S → ALF o sp m len nc ρ (W s) (A s)) ∧ A S = a) ∧ ∀ s t, ((s < S ∧ t < m) ∨ (s = S ∧ t < T)) → s < n ∧ M s (t + 1) ≤ n ∧ SUF o sp m len nc ρ W A M V s t
def TFQ (o : Nat) (sp : Int32) (m : Nat) (len : Nat → Nat) (nc : Nat → Nat → Nat) (ρ : zS) (W : Nat → Nat → Int32) (w67 : Nat → Int32) (S n : Nat) : Prop := ∃ (A : Nat → Int32) (M : Nat → Nat → Nat) (V : Nat → Nat → Int32), (M 0 0 = 1 ∧ M S 0 = n ∧ (∀ s, s < S → M (s + 1) 0 = M s m) ∧ (∀ s, s < S → s < M s 0)) ∧ ((∀ s, s < S → V s 0 = 1) ∧ (∀ s, s < S → w67 s = V s m)) ∧ (∀ s, s < S → ALF o sp m len nc ρ (W s) (A s)) ∧ ∀ s t, s < S → t < m → s < n ∧ M s (t + 1) ≤ n ∧ SUF o sp m len nc ρ W A M V s t
theorem TFQ.go {S n : Nat} {o m : Nat} {sp : Int32} {len : Nat → Nat} {nc : Nat → Nat → Nat} {ρ : zS} {W : Nat → Nat → Int32} {w67 : Nat → Int32} {a : Int32} (h : TFQ o sp m len nc ρ W w67 S n) (lt : S < n) (al : ALF o sp m len nc ρ (W S) a) : TFP o sp m len nc ρ W w67 a 1 S 0 n := by
  obtain ⟨A, M, V, ⟨m0, mT, mS, mB⟩, ⟨v0, v4⟩, ha, ms⟩ := h
  have z : ∀ s t, ¬ (s = S ∧ t = 0) → (fun s t => if s = S ∧ t = 0 then 1 else V s t) s t = V s t := fun s t k => if_neg k
  have zT : (fun s t => if s = S ∧ t = 0 then 1 else V s t) S 0 = 1 := if_pos ⟨rfl, rfl⟩
  generalize (fun s t => if s = S ∧ t = 0 then 1 else V s t) = V' at z zT
  have y : ∀ s, s ≠ S → (fun s => if s = S then a else A s) s = A s := fun s k => if_neg k
  have yS : (fun s => if s = S then a else A s) S = a := if_pos rfl
  generalize (fun s => if s = S then a else A s) = A' at y yS
  refine ⟨A', M, V', ⟨m0, mT, mS, fun s hs => ?_⟩, ⟨fun s hs => ?_, zT, fun s hs => ?_⟩, ⟨fun s hs => ?_, yS⟩, fun s t k => ?_⟩
  · by_cases c : s = S
    · rw [c, mT]; exact lt
    · exact mB s (by omega)
  · by_cases c : s = S
    · rw [c]; exact zT
    · rw [z s 0 (by omega)]; exact v0 s (by omega)
  · rw [z s m (by omega)]; exact v4 s hs
  · by_cases c : s = S
    · rw [c, yS]; exact al
    · rw [y s c]; exact ha s (by omega)
  · obtain ⟨k1, k2, k3⟩ := ms s t (by omega) (by omega)
    unfold SUF at k3 ⊢
    rw [z s t (by omega), z s (t + 1) (by omega), y s (by omega)]
    exact ⟨k1, k2, k3⟩
theorem TFP.step {S T n n' : Nat} {o m : Nat} {sp : Int32} {len : Nat → Nat} {nc : Nat → Nat → Nat} {ρ : zS} {W W' : Nat → Nat → Int32} {w67 : Nat → Int32} {a v v' : Int32} (h : TFP o sp m len nc ρ W w67 a v S T n) (hS : S < n) (hT : T < m) (hn : n ≤ n') (hW : ∀ j, j < n → W' j = W j) (new : (¬ MAY a T ∧ n' = n ∧ v' = v) ∨ (MAY a T ∧ CANF o m len nc ρ (W S) T 0 ∧ n' = n ∧ v' = v) ∨ (MAY a T ∧ (∃ a, ¬ a = 0 ∧ CANF o m len nc ρ (W S) T a) ∧ v' = 0 ∧ ∃ j, MOVF o sp m len nc ρ (W S) T (W' j) ∧ ((j < n ∧ n' = n) ∨ (j = n ∧ n' = n + 1)))) : TFP o sp m len nc ρ W' w67 a v' S (T + 1) n' := by
  obtain ⟨A, M, V, ⟨m0, mT, mS, mB⟩, ⟨v0, vT, v4⟩, ⟨ha, aS⟩, ms⟩ := h
  have z : ∀ s t, ¬ (s = S ∧ t = T + 1) → (fun s t => if s = S ∧ t = T + 1 then n' else M s t) s t = M s t := fun s t k => if_neg k
  have zT : (fun s t => if s = S ∧ t = T + 1 then n' else M s t) S (T + 1) = n' := if_pos ⟨rfl, rfl⟩
  generalize (fun s t => if s = S ∧ t = T + 1 then n' else M s t) = M' at z zT
  have y : ∀ s t, ¬ (s = S ∧ t = T + 1) → (fun s t => if s = S ∧ t = T + 1 then v' else V s t) s t = V s t := fun s t k => if_neg k
  have yT : (fun s t => if s = S ∧ t = T + 1 then v' else V s t) S (T + 1) = v' := if_pos ⟨rfl, rfl⟩
  generalize (fun s t => if s = S ∧ t = T + 1 then v' else V s t) = V' at y yT
  refine ⟨A, M', V', ⟨by rw [z 0 0 (by omega)]; exact m0, zT, fun s hs => by rw [z (s + 1) 0 (by omega), z s m (by omega)]; exact mS s hs, fun s hs => by rw [z s 0 (by omega)]; exact mB s hs⟩, ⟨fun s hs => by rw [y s 0 (by omega)]; exact v0 s hs, yT, fun s hs => by rw [y s m (by omega)]; exact v4 s hs⟩, ⟨fun s hs => by rw [hW s (by omega)]; exact ha s hs, aS⟩, fun s t k => ?_⟩
  by_cases c : s = S ∧ t = T
  · obtain ⟨c1, c2⟩ := c
    subst c1 c2
    refine ⟨by omega, by rw [zT]; exact Nat.le_refl _, ?_⟩
    unfold SUF
    rw [zT, yT, z s t (by omega), y s t (by omega), mT, vT, hW s hS, aS]
    exact new
  · have k' : (s < S ∧ t < m) ∨ (s = S ∧ t < T) := by omega
    obtain ⟨k1, k2, k3⟩ := ms s t k'
    unfold SUF at k3 ⊢
    rw [z s t (by omega), z s (t + 1) (by omega), y s t (by omega), y s (t + 1) (by omega), hW s k1]
    refine ⟨by omega, by omega, ?_⟩
    rcases k3 with k3 | k3 | ⟨q, a', b, j, mv, k3⟩
    · exact Or.inl k3
    · exact Or.inr (Or.inl k3)
    · refine Or.inr (Or.inr ⟨q, a', b, j, ?_, k3⟩)
      rw [hW j (by omega)]
      exact mv
theorem TFP.next {S n : Nat} {o m : Nat} {sp : Int32} {len : Nat → Nat} {nc : Nat → Nat → Nat} {ρ : zS} {W : Nat → Nat → Int32} {w67 w67' : Nat → Int32} {a v : Int32} (h : TFP o sp m len nc ρ W w67 a v S m n) (eS : w67' S = v) (eo : ∀ s, s < S → w67' s = w67 s) : TFQ o sp m len nc ρ W w67' (S + 1) n := by
  obtain ⟨A, M, V, ⟨m0, mT, mS, mB⟩, ⟨v0, vT, v4⟩, ⟨ha, aS⟩, ms⟩ := h
  have z : ∀ s t, ¬ (s = S + 1 ∧ t = 0) → (fun s t => if s = S + 1 ∧ t = 0 then n else M s t) s t = M s t := fun s t k => if_neg k
  have zT : (fun s t => if s = S + 1 ∧ t = 0 then n else M s t) (S + 1) 0 = n := if_pos ⟨rfl, rfl⟩
  generalize (fun s t => if s = S + 1 ∧ t = 0 then n else M s t) = M' at z zT
  refine ⟨A, M', V, ⟨by rw [z 0 0 (by omega)]; exact m0, zT, fun s hs => ?_, fun s hs => by rw [z s 0 (by omega)]; exact mB s (by omega)⟩, ⟨fun s hs => v0 s (by omega), fun s hs => ?_⟩, fun s hs => ha s (by omega), fun s t k1 k2 => ?_⟩
  · by_cases c : s = S
    · rw [c, zT, z S m (by omega)]; exact mT.symm
    · rw [z (s + 1) 0 (by omega), z s m (by omega)]; exact mS s (by omega)
  · by_cases c : s = S
    · rw [c, eS]; exact vT.symm
    · rw [eo s (by omega)]; exact v4 s (by omega)
  · obtain ⟨k1, k2, k3⟩ := ms s t (by omega)
    unfold SUF at k3 ⊢
    rw [z s t (by omega), z s (t + 1) (by omega)]
    exact ⟨k1, k2, k3⟩
def MNF (o : Nat) (sp : Int32) (m : Nat) (len : Nat → Nat) (nc : Nat → Nat → Nat) (ρ : zS) (W : Nat → Nat → Int32) : Prop := ∃ S T w67 a v, S < 4000 ∧ T < m ∧ TFP o sp m len nc ρ W w67 a v S T 4000 ∧ MAY a T ∧ (∃ a, ¬ a = 0 ∧ CANF o m len nc ρ (W S) T a) ∧ ∃ w', MOVF o sp m len nc ρ (W S) T w' ∧ ∀ j, j < 4000 → ¬ SAME5 (W j) w'
def KP6 (q : Nat) : Prop := q < 36 ∨ (40 < q ∧ q < 64) ∨ 68 < q
theorem c_threadsF {N S : Nat} {o m : Nat} {sp : Int32} {len : Nat → Nat} {nc : Nat → Nat → Nat} {ρ : zS} (m4 : m ≤ 4) (e42 : ρ 4 2 = Int32.ofNat m) (S4 : S < 4000) {a : Int32} : ∀ (k T : Nat) (σ : zS) (n : Nat) (W : Nat → Nat → Int32) (v4 : Int32), (v4 = 0 ∨ v4 = 1) → T ≤ m → S < n → GSTW ρ n W σ → LOF o m len nc ρ (W S) σ → TFP o sp m len nc ρ W (σ 67) a v4 S T n → zp (zb_Space_exploreFrom_c1_20 N k σ (Int32.ofNat S) sp a v4 (Int32.ofNat T)) (fun r => ((r.1 = 1 ∧ ∃ n' W', S < n' ∧ W' 0 = W 0 ∧ GSTW ρ n' W' r.2 ∧ TFQ o sp m len nc ρ W' (r.2 67) (S + 1) n') ∨ (r.1 = 0 ∧ ∃ W', W' 0 = W 0 ∧ GSTW ρ 4000 W' r.2 ∧ MNF o sp m len nc ρ W')) ∧ (∀ q, KP6 q → r.2 q = σ q)) := by
  intro k
  induction k with
  | zero => intro _ _ _ _ _ _ _ _ _ _ _; exact zp_none
  | succ k ih =>
    intro T σ n W v4 hv hT hS gs lo tr
    rw [zb_Space_exploreFrom_c1_20]
    unfold zb_Space_exploreFrom_c1_43 zb_Space_exploreFrom_c1_48 zb_Space_exploreFrom_c1_95
    have e4 : σ 4 2 = Int32.ofNat m := by rw [gs.1 4 (by decide) (by decide)]; exact e42
    have n4 := gs.2.1.1
    rw [e4]
    refine zp_ite (fun q => ?_) fun q => ?_
    · have tm : T = m := by
        have := (zo_le (k := m) (j := T) (by omega) (by omega)).mp q
        omega
      subst tm
      refine zp_bind (zp_mono (c_hasW gs.2.1.2.1 n4 hS) fun r4 h4 => zp_ite (fun z => absurd (h4.symm.trans z) (by decide)) fun _ => zp_chk fun _ => zp_some ⟨Or.inl ⟨rfl, n, W, hS, rfl, gs.of fun q _ _ _ _ _ b => zu_other b, ?_⟩, fun q hq => zu_other (by unfold KP6 at hq; omega)⟩)
      dsimp only
      rw [zo_n (m := S) (by omega), zx_up_same]
      exact tr.next (by rw [zu_eq]; rcases hv with e | e <;> rw [e] <;> decide) fun s hs => zu_ne (by omega)
    have lt : T < m := by
      by_cases c : T < m
      · exact c
      · exact absurd ((zo_le (k := m) (j := T) (by omega) (by omega)).mpr (by omega)) q
    rw [zo_1 (m := T) (by omega)]
    have doit : MAY a T → zp ((zf_Machine_canMove σ (Int32.ofNat T)).bind fun r9 => if r9 = 0 then zb_Space_exploreFrom_c1_20 N k σ (Int32.ofNat S) sp a v4 (Int32.ofNat (T + 1)) else (zf_Machine_move N σ (Int32.ofNat T) sp).bind fun r11 => (zf_Space_note_c1 N r11 ((Int32.ofNat S * 4) + Int32.ofNat T)).bind fun r12 => if ¬ r12.1 = 0 then zb_Space_exploreFrom_c1_20 N k r12.2 (Int32.ofNat S) sp a 0 (Int32.ofNat (T + 1)) else some (0, r12.2)) (fun r => ((r.1 = 1 ∧ ∃ n' W', S < n' ∧ W' 0 = W 0 ∧ GSTW ρ n' W' r.2 ∧ TFQ o sp m len nc ρ W' (r.2 67) (S + 1) n') ∨ (r.1 = 0 ∧ ∃ W', W' 0 = W 0 ∧ GSTW ρ 4000 W' r.2 ∧ MNF o sp m len nc ρ W')) ∧ (∀ q, KP6 q → r.2 q = σ q)) := fun may => by
      refine zp_bind fun r9 e9 => zp_ite (fun z => ?_) fun nz => zp_bind fun r11 e11 => ?_
      · rw [z] at e9
        exact ih (T + 1) σ n W v4 hv (by omega) hS gs lo (tr.step hS lt (Nat.le_refl _) (fun _ _ => rfl) (Or.inr (Or.inl ⟨may, ⟨σ, lo, e9⟩, rfl, rfl⟩)))
      · have can : ∃ a, ¬ a = 0 ∧ CANF o m len nc ρ (W S) T a := ⟨r9, nz, σ, lo, e9⟩
        have f11 : ∀ p, p ≠ 40 → r11 p = σ p := c_moveF r11 e11
        have gs1 : GSTW ρ n W r11 := gs.of fun q _ _ _ _ b _ => f11 q b
        have lo1 : LOF o m len nc ρ (W S) r11 := lo.of fun q hq => f11 q (by omega)
        have e67 : r11 67 = σ 67 := f11 67 (by decide)
        refine zp_bind (zp_mono (c_noteGW gs1) fun r12 h12 => ?_)
        rcases h12 with ⟨e, j, hj, s⟩ | ⟨no, ⟨n4', e, gs2, fr, f64⟩ | ⟨e4', e⟩⟩
        · rw [e]
          refine zp_ite (fun _ => ?_) fun z => absurd (show ¬ (1 : Int32) = 0 by decide) z
          refine zp_mono (ih (T + 1) r11 n W 0 (Or.inl rfl) (by omega) hS gs1 lo1 (by rw [e67]; exact tr.step hS lt (Nat.le_refl _) (fun _ _ => rfl) (Or.inr (Or.inr ⟨may, can, rfl, j, ⟨N, σ, r11, lo, e11, s.sy⟩, Or.inl ⟨hj, rfl⟩⟩)))) fun r hr => ⟨hr.1, fun q hq => (hr.2 q hq).trans (f11 q (by unfold KP6 at hq; omega))⟩
        · refine zp_ite (fun _ => ?_) fun z => absurd (by rw [e]; decide) z
          have WS : (fun j => if j = n then r11 40 else W j) S = W S := if_neg (by omega)
          have W0 : (fun j => if j = n then r11 40 else W j) 0 = W 0 := if_neg (by omega)
          have Wn : (fun j => if j = n then r11 40 else W j) n = r11 40 := if_pos rfl
          have Wo : ∀ j, j < n → (fun j => if j = n then r11 40 else W j) j = W j := fun j hj => if_neg (by omega)
          generalize (fun j => if j = n then r11 40 else W j) = W' at *
          have tr' : TFP o sp m len nc ρ W' (r12.2 67) a 0 S (T + 1) (n + 1) := by
            rw [fr 67 (by decide) (by decide) (by decide) (by decide), e67]
            exact tr.step hS lt (by omega) Wo (Or.inr (Or.inr ⟨may, can, rfl, n, ⟨N, σ, r11, lo, e11, by rw [Wn]; exact SAME5.rfl'⟩, Or.inr ⟨rfl, rfl⟩⟩))
          refine zp_mono (ih (T + 1) r12.2 (n + 1) W' 0 (Or.inl rfl) (by omega) (by omega) gs2 (by rw [WS]; exact lo1.of fun q hq => fr q (by omega) (by omega) (by omega) (by omega)) tr') fun r hr => ⟨?_, fun q hq => (hr.2 q hq).trans ((fr q (by unfold KP6 at hq; omega) (by unfold KP6 at hq; omega) (by unfold KP6 at hq; omega) (by unfold KP6 at hq; omega)).trans (f11 q (by unfold KP6 at hq; omega)))⟩
          rcases hr.1 with ⟨a, n', W'', b1, b2, b3⟩ | ⟨a, W'', b2, b3⟩
          · exact Or.inl ⟨a, n', W'', b1, b2.trans W0, b3⟩
          · exact Or.inr ⟨a, W'', b2.trans W0, b3⟩
        · rw [e]
          subst e4'
          refine zp_ite (fun z => absurd rfl z) fun _ => zp_some ⟨Or.inr ⟨rfl, W, rfl, gs1, S, T, σ 67, a, v4, S4, lt, tr, may, can, r11 40, ⟨N, σ, r11, lo, e11, SAME5.rfl'⟩, no⟩, fun q hq => f11 q (by unfold KP6 at hq; omega)⟩
    refine zp_ite (fun ea => zp_ite (fun z => absurd z (by decide)) fun _ => doit (Or.inl ea)) fun na => zp_ite (fun ne => zp_ite (fun _ => ?_) fun z => absurd rfl z) fun ea => zp_ite (fun z => absurd z (by decide)) fun _ => doit (Or.inr (Classical.not_not.mp ea))
    exact ih (T + 1) σ n W v4 hv (by omega) hS gs lo (tr.step hS lt (Nat.le_refl _) (fun _ _ => rfl) (Or.inl ⟨fun y => y.elim na ne, rfl, rfl⟩))
theorem c_loopF {N : Nat} {o m : Nat} {sp : Int32} {len : Nat → Nat} {nc : Nat → Nat → Nat} {ρ : zS} {μ : zS} (pc : PC m len nc ρ μ) : ∀ (k S : Nat) (σ : zS) (n : Nat) (W : Nat → Nat → Int32), S ≤ n → GSTW ρ n W σ → TFQ o sp m len nc ρ W (σ 67) S n → zp (zb_Space_explore_c1_28 N k σ sp 1 (Int32.ofNat S)) (fun r => ((r.1 = 1 ∧ ∃ n' W', W' 0 = W 0 ∧ GSTW ρ n' W' r.2 ∧ TFQ o sp m len nc ρ W' (r.2 67) n' n') ∨ (r.1 = 0 ∧ ∃ W', W' 0 = W 0 ∧ GSTW ρ 4000 W' r.2 ∧ MNF o sp m len nc ρ W')) ∧ (∀ q, KP6 q → r.2 q = σ q)) := by
  have pc' := pc
  obtain ⟨⟨m4, e42, _⟩, _⟩ := pc
  intro k
  induction k with
  | zero => intro _ _ _ _ _ _ _; exact zp_none
  | succ k ih =>
    intro S σ n W hS gs tr
    rw [zb_Space_explore_c1_28]
    have n4 := gs.2.1.1
    have e6 := gs.2.1.2.1
    rw [e6]
    have done : S = n → ((((1 : Int32), σ).1 = 1 ∧ ∃ n' W', W' 0 = W 0 ∧ GSTW ρ n' W' σ ∧ TFQ o sp m len nc ρ W' (σ 67) n' n') ∨ (((1 : Int32), σ).1 = 0 ∧ ∃ W', W' 0 = W 0 ∧ GSTW ρ 4000 W' σ ∧ MNF o sp m len nc ρ W')) ∧ (∀ q, KP6 q → ((1 : Int32), σ).2 q = σ q) := fun e => ⟨Or.inl ⟨rfl, n, W, rfl, gs, by rw [e] at tr; exact tr⟩, fun _ _ => rfl⟩
    refine zp_ite (fun q => zp_chk fun _ => zp_some (done ?_)) fun q => zp_ite (fun q' => zp_chk fun _ => zp_some (done ?_)) fun _ => zp_ite (fun z => absurd z (by decide)) fun _ => zp_bind ?_
    · have := (zo_le (k := n) (j := S) (by omega) (by omega)).mp q
      omega
    · have := (zo_le (k := 4000) (j := S) (by omega) (by omega)).mp q'
      omega
    · have lt : S < n := by
        by_cases c : S < n
        · exact c
        · exact absurd ((zo_le (k := n) (j := S) (by omega) (by omega)).mpr (by omega)) q
      unfold zf_Space_exploreFrom_c1
      refine zp_bind fun r1 e1 => zp_bind fun r2 e2 => ?_
      have row : SAME5 (row5W σ S) (W S) := gs.2.2.1 S lt
      have fr : ∀ q, q ≠ 36 → q ≠ 37 → q ≠ 38 → q ≠ 39 → r1 q = σ q := c_loadFW r1 e1
      have gs1 : GSTW ρ n W r1 := gs.of fun q a b c d _ _ => fr q a b c d
      have lo : LOF o m len nc ρ (W S) r1 := fun x st => by
        obtain ⟨f, f1, s0, _⟩ := st
        have st' := s0.congr m4 row.wm (fun _ _ => rfl)
        obtain ⟨l1, l2, l3, l4⟩ := (c_loadW (pc'.nmk (f := f)) e6 n4 lt gs.1 st' r1 e1).1
        exact ⟨l1, l2.tr row, l3, l4⟩
      refine zp_mono (c_threadsF (a := r2) m4 e42 (by omega) N 0 r1 n W 1 (Or.inr rfl) (by omega) lt gs1 lo (by rw [fr 67 (by decide) (by decide) (by decide) (by decide)]; exact tr.go lt ⟨N, r1, lo, e2⟩)) fun r10 h10 => ?_
      obtain ⟨h10, f10⟩ := h10
      have ff : ∀ q, KP6 q → r10.2 q = σ q := fun q hq => (f10 q hq).trans (fr q (by unfold KP6 at hq; omega) (by unfold KP6 at hq; omega) (by unfold KP6 at hq; omega) (by unfold KP6 at hq; omega))
      rcases h10 with ⟨e, n', W', b1, b2, b3, b4⟩ | ⟨e, W', b2, b3, b4⟩
      · rw [e, zo_1 (m := S) (by omega)]
        refine zp_mono (ih (S + 1) r10.2 n' W' (by omega) b3 b4) fun r hr => ⟨?_, fun q hq => (hr.2 q hq).trans (ff q hq)⟩
        rcases hr.1 with ⟨a, n'', W'', c1, c2⟩ | ⟨a, W'', c1, c2⟩
        · exact Or.inl ⟨a, n'', W'', c1.trans b2, c2⟩
        · exact Or.inr ⟨a, W'', c1.trans b2, c2⟩
      · rw [e]
        cases k with
        | zero => exact zp_none
        | succ k =>
          rw [zb_Space_explore_c1_28]
          have fin : ((((0 : Int32), r10.2).1 = 1 ∧ ∃ n' W', W' 0 = W 0 ∧ GSTW ρ n' W' r10.2 ∧ TFQ o sp m len nc ρ W' (r10.2 67) n' n') ∨ (((0 : Int32), r10.2).1 = 0 ∧ ∃ W', W' 0 = W 0 ∧ GSTW ρ 4000 W' r10.2 ∧ MNF o sp m len nc ρ W')) ∧ (∀ q, KP6 q → ((0 : Int32), r10.2).2 q = σ q) := ⟨Or.inr ⟨rfl, W', b2, b3, b4⟩, ff⟩
          exact zp_ite (fun _ => zp_chk fun _ => zp_some fin) fun _ => zp_ite (fun _ => zp_chk fun _ => zp_some fin) fun _ => zp_ite (fun _ => zp_chk fun _ => zp_some fin) fun z => absurd rfl z
def FNF (o : Nat) (sp : Int32) (m : Nat) (len : Nat → Nat) (nc : Nat → Nat → Nat) (ρ : zS) (ok : Prop) (sz : Int32) (R : Nat → Nat → Int32) (w67 : Nat → Int32) : Prop := (ok ∧ ∃ n W, (∀ j, j < n → SAME5 (R j) (W j)) ∧ n ≤ 4000 ∧ 0 < n ∧ sz = Int32.ofNat n ∧ FSTW ρ (W 0) ∧ (∀ i j, i < j → j < n → ¬ SAME5 (W i) (W j)) ∧ TFQ o sp m len nc ρ W w67 n n) ∨ (¬ ok ∧ ∃ W, FSTW ρ (W 0) ∧ (∀ i j, i < j → j < 4000 → ¬ SAME5 (W i) (W j)) ∧ MNF o sp m len nc ρ W)
theorem c_exploreF {N : Nat} {o m : Nat} {sp : Int32} {len : Nat → Nat} {nc : Nat → Nat → Nat} {ρ : zS} {μ σ : zS} (pc : PC m len nc ρ μ) (e : ∀ q, 4 ≤ q → q ≤ 16 → σ q = ρ q) : zp (zf_Space_explore_c1 N σ sp) (fun r => (r.1 = 0 ∨ r.1 = 1) ∧ FNF o sp m len nc ρ (r.1 = 1) (r.2 64 6) (row5W r.2) (r.2 67) ∧ (∀ q, KP6 q → r.2 q = σ q)) := by
  unfold zf_Space_explore_c1
  refine zp_bind (zp_mono c_fill45W fun r1 h1 => zp_bind (zp_mono c_setFirst fun r2 h2 => ?_))
  obtain ⟨f1, z1⟩ := h1
  obtain ⟨f2, fs⟩ := h2
  have p2 : ∀ q, 4 ≤ q → q ≤ 16 → r2 q = ρ q := fun q a b => by rw [f2 q (by omega), f1 q (by omega), zu_other (by omega)]; exact e q a b
  have z68 : ∀ p, p < 8192 → r2 68 p = 0 := fun p hp => by rw [f2 68 (by decide)]; exact z1 p hp
  have ff : ∀ q, KP6 q → r2 q = σ q := fun q hq => by rw [f2 q (by unfold KP6 at hq; omega), f1 q (by unfold KP6 at hq; omega), zu_other (by unfold KP6 at hq; omega)]
  have fs' : FSTW ρ (r2 40) := by
    unfold FSTW hw0 at *
    have g : ∀ q, 4 ≤ q → q ≤ 16 → r1 q = ρ q := fun q a b => by rw [f1 q (by omega), zu_other (by omega)]; exact e q a b
    rw [g 4 (by decide) (by decide), g 5 (by decide) (by decide), g 6 (by decide) (by decide)] at fs
    exact fs
  have gs : GSTW ρ 0 (fun _ _ => 0) r2 := ⟨p2, ⟨by omega, by rw [f2 64 (by decide), f1 64 (by decide), zx_up_same, zu_eq]; rfl, fun p hp => Or.inl (z68 p hp), fun s hs => absurd hs (Nat.not_lt_zero _), fun p q hp _ np => absurd (z68 p hp) np⟩, fun j hj => absurd hj (Nat.not_lt_zero _), fun i j _ hj => absurd hj (Nat.not_lt_zero _)⟩
  refine zp_bind (zp_mono (c_noteGW gs) fun r3 h3 => ?_)
  rcases h3 with ⟨_, j, hj, _⟩ | ⟨_, ⟨_, e1, gs1, fr, _⟩ | ⟨n4, _⟩⟩
  · exact absurd hj (Nat.not_lt_zero _)
  · rw [e1]
    have W0 : (fun j => if j = 0 then r2 40 else (fun _ _ => (0 : Int32)) j) 0 = r2 40 := if_pos rfl
    generalize (fun j => if j = 0 then r2 40 else (fun _ _ => (0 : Int32)) j) = W at *
    have tq : TFQ o sp m len nc ρ W (r3.2 67) 0 1 := ⟨fun _ => 0, fun _ _ => 1, fun _ _ => 1, ⟨rfl, rfl, fun s hs => absurd hs (Nat.not_lt_zero _), fun s hs => absurd hs (Nat.not_lt_zero _)⟩, ⟨fun s hs => absurd hs (Nat.not_lt_zero _), fun s hs => absurd hs (Nat.not_lt_zero _)⟩, fun s hs => absurd hs (Nat.not_lt_zero _), fun s t hs => absurd hs (Nat.not_lt_zero _)⟩
    refine zp_mono (c_loopF (N := N) pc N 0 r3.2 1 W (by omega) gs1 tq) fun r hr => ?_
    have fin : ∀ q, KP6 q → r.2 q = σ q := fun q hq => (hr.2 q hq).trans ((fr q (by unfold KP6 at hq; omega) (by unfold KP6 at hq; omega) (by unfold KP6 at hq; omega) (by unfold KP6 at hq; omega)).trans (ff q hq))
    rcases hr.1 with ⟨e, n, W', w0, gs', tr⟩ | ⟨e, W', w0, gs', mn⟩
    · have pos : 0 < n := by
        obtain ⟨_, M, _, ⟨m0, mT, _⟩, _⟩ := tr
        by_cases c : n = 0
        · subst c; omega
        · omega
      refine ⟨Or.inr e, Or.inl ⟨e, n, W', gs'.2.2.1, gs'.2.1.1, pos, gs'.2.1.2.1, by rw [w0, W0]; exact fs', gs'.2.2.2, tr⟩, fin⟩
    · exact ⟨Or.inl e, Or.inr ⟨by rw [e]; decide, W', by rw [w0, W0]; exact fs', gs'.2.2.2, mn⟩, fin⟩
  · omega
