-- both answer alike
set_option maxRecDepth 2000
def OUTN (k x : Int32) (n : Nat → Nat) (l : Nat) : Nat := if k = 3 ∧ x = Int32.ofNat l then n l + 1 else if k = 4 ∧ x = Int32.ofNat l then n l - 1 else n l
def INS (k x : Int32) (n : Nat → Nat) (l : Nat) : Nat := if k = 1 ∧ x = Int32.ofNat l then n l + 1 else n l
def EQ4 (a b : Nat → Nat) : Prop := ∀ l, l < 4 → a l = b l
theorem EQ4.tr {a b c : Nat → Nat} (h : EQ4 a b) (g : EQ4 b c) : EQ4 a c := fun l hl => (h l hl).trans (g l hl)
theorem EQ4.sy {a b : Nat → Nat} (h : EQ4 a b) : EQ4 b a := fun l hl => (h l hl).symm
theorem OUTN.id {k x : Int32} {n : Nat → Nat} (h : ¬ k = 3 ∧ ¬ k = 4) : EQ4 (OUTN k x n) n := fun l _ => by
  unfold OUTN
  rw [if_neg fun w => h.1 w.1, if_neg fun w => h.2 w.1]
theorem INS.id {k x : Int32} {n : Nat → Nat} (h : ¬ k = 1) : EQ4 (INS k x n) n := fun l _ => by
  unfold INS
  rw [if_neg fun w => h w.1]
theorem OUTN.eq {k x : Int32} {a b : Nat → Nat} (h : EQ4 a b) : EQ4 (OUTN k x a) (OUTN k x b) := fun l hl => by
  unfold OUTN
  rw [h l hl]
theorem INS.eq {k x : Int32} {a b : Nat → Nat} (h : EQ4 a b) : EQ4 (INS k x a) (INS k x b) := fun l hl => by
  unfold INS
  rw [h l hl]
def NSR (t n : Nat) (ρ : zS) (nc : Nat → Nat → Nat) : Prop := (∀ s, s < n → ∀ l, l < 4 → (bit (ρ 11 (24 * t + s)) l ↔ 0 < nc (24 * t + s) l) ∧ nc (24 * t + s) l ≤ 8 ∧ (ρ 7 (24 * t + s) = 4 → ρ 8 (24 * t + s) = Int32.ofNat l → 0 < nc (24 * t + s) l)) ∧ (0 < n → ∀ l, l < 4 → nc (24 * t) l = 0) ∧ (∀ s s', s < n → s' < n → ρ 7 (24 * t + s) ≠ 13 → ρ 9 (24 * t + s) = Int32.ofNat s' → EQ4 (nc (24 * t + s')) (OUTN (ρ 7 (24 * t + s)) (ρ 8 (24 * t + s)) (nc (24 * t + s)))) ∧ (∀ s s', s < n → s' < n → ρ 10 (24 * t + s) = Int32.ofNat s' → EQ4 (nc (24 * t + s')) (nc (24 * t + s)))
def WYS (t n : Nat) (ρ : zS) (nc : Nat → Nat → Nat) (b9 b10 : Int32) (m : Nat → Nat) : Prop := (∀ s, s < 24 → bit b9 s → s < n ∧ (ρ 7 (24 * t + s) ≠ 13 → EQ4 (OUTN (ρ 7 (24 * t + s)) (ρ 8 (24 * t + s)) (nc (24 * t + s))) m)) ∧ (∀ s, s < 24 → bit b10 s → s < n ∧ EQ4 (nc (24 * t + s)) m)
def BLK (t n : Nat) (ρ : zS) (nc : Nat → Nat → Nat) (i : Nat) (m : Nat → Nat) : Prop := (ρ 30 i = 1 → ∀ l, l < 4 → (bit (ρ 34 i) l ↔ 0 < m l)) ∧ ((ρ 30 i = 3 ∨ (¬ ρ 30 i = 0 ∧ ¬ ρ 30 i = 1 ∧ ¬ ρ 30 i = 2 ∧ ¬ ρ 30 i = 3 ∧ ¬ ρ 30 i = 4)) → (ρ 31 i = -1 ∨ ∃ s, s < n ∧ s < 24 ∧ ρ 31 i = Int32.ofNat s ∧ EQ4 (nc (24 * t + s)) m)) ∧ (ρ 30 i = 4 → WYS t n ρ nc (ρ 32 i) (ρ 33 i) m) ∧ (ρ 30 i = 0 ↔ i = 0)
def NSB (t n d : Nat) (ρ : zS) (nc nb : Nat → Nat → Nat) : Prop := (∀ l, l < 4 → nb 0 l = 0) ∧ (∀ i, i < d → EQ4 (nb (i + 1)) (INS (ρ 30 i) (ρ 31 i) (nb i))) ∧ (∀ l, l < 4 → (bit (ρ 29 11) l ↔ 0 < nb d l)) ∧ WYS t n ρ nc (ρ 29 9) (ρ 29 10) (nb d) ∧ (∀ i, i < d → BLK t n ρ nc i (nb i)) ∧ (n = 0 → ∀ l, l < 4 → nb d l = 0) ∧ (∀ s s', s < n → s' < 24 → (ρ 9 (24 * t + s) = Int32.ofNat s' ∨ ρ 10 (24 * t + s) = Int32.ofNat s') → s' < n)
theorem WYS.ext {t n n' : Nat} {ρ r : zS} {nc nc' : Nat → Nat → Nat} {b9 b10 : Int32} {m m' : Nat → Nat} (h : WYS t n ρ nc b9 b10 m) (hn : n ≤ n') (e : ∀ s, s < n → r 7 (24 * t + s) = ρ 7 (24 * t + s) ∧ r 8 (24 * t + s) = ρ 8 (24 * t + s) ∧ nc' (24 * t + s) = nc (24 * t + s)) (em : EQ4 m m') : WYS t n' r nc' b9 b10 m' := by
  refine ⟨fun s hs b => ?_, fun s hs b => ?_⟩
  · obtain ⟨h1, h2⟩ := h.1 s hs b
    obtain ⟨e1, e2, e3⟩ := e s h1
    rw [e1, e2, e3]
    exact ⟨by omega, fun k => (h2 k).tr em⟩
  · obtain ⟨h1, h2⟩ := h.2 s hs b
    rw [(e s h1).2.2]
    exact ⟨by omega, h2.tr em⟩
theorem BLK.ext {t n n' i : Nat} {ρ r : zS} {nc nc' : Nat → Nat → Nat} {m m' : Nat → Nat} (h : BLK t n ρ nc i m) (hn : n ≤ n') (e : ∀ s, s < n → r 7 (24 * t + s) = ρ 7 (24 * t + s) ∧ r 8 (24 * t + s) = ρ 8 (24 * t + s) ∧ nc' (24 * t + s) = nc (24 * t + s)) (f : r 30 i = ρ 30 i ∧ r 31 i = ρ 31 i ∧ r 32 i = ρ 32 i ∧ r 33 i = ρ 33 i ∧ r 34 i = ρ 34 i) (em : EQ4 m m') : BLK t n' r nc' i m' := by
  obtain ⟨f0, f1, f2, f3, f4⟩ := f
  unfold BLK at *
  rw [f0, f1, f2, f3, f4]
  refine ⟨fun k l hl => by rw [h.1 k l hl, em l hl], fun k => ?_, fun k => (h.2.2.1 k).ext hn e em, h.2.2.2⟩
  rcases h.2.1 k with q | ⟨s, s1, s2, s3, s4⟩
  · exact Or.inl q
  · exact Or.inr ⟨s, by omega, s2, s3, by rw [(e s s1).2.2]; exact s4.tr em⟩
def NCU (nc : Nat → Nat → Nat) (q : Nat) (m : Nat → Nat) : Nat → Nat → Nat := fun j => if j = q then m else nc j
theorem NCU.at {nc : Nat → Nat → Nat} {q : Nat} {m : Nat → Nat} : NCU nc q m q = m := by unfold NCU; rw [if_pos rfl]
theorem NCU.ne {nc : Nat → Nat → Nat} {q j : Nat} {m : Nat → Nat} (h : j ≠ q) : NCU nc q m j = nc j := by unfold NCU; rw [if_neg h]
theorem NSR.of {t n : Nat} {ρ r : zS} {nc nc' : Nat → Nat → Nat} (h : NSR t n ρ nc) (e : ∀ s, s < n → r 7 (24 * t + s) = ρ 7 (24 * t + s) ∧ r 8 (24 * t + s) = ρ 8 (24 * t + s) ∧ r 9 (24 * t + s) = ρ 9 (24 * t + s) ∧ r 10 (24 * t + s) = ρ 10 (24 * t + s) ∧ r 11 (24 * t + s) = ρ 11 (24 * t + s) ∧ nc' (24 * t + s) = nc (24 * t + s)) : NSR t n r nc' := by
  obtain ⟨h1, h2, h3, h4⟩ := h
  refine ⟨fun s hs l hl => ?_, fun n0 l hl => ?_, fun s s' hs hs' k w => ?_, fun s s' hs hs' w => ?_⟩
  · obtain ⟨e1, e2, _, _, e5, e6⟩ := e s hs
    rw [e1, e2, e5, e6]; exact h1 s hs l hl
  · have := (e 0 n0).2.2.2.2.2
    rw [Nat.add_zero] at this
    rw [this]; exact h2 n0 l hl
  · obtain ⟨e1, e2, e3, _, _, e6⟩ := e s hs
    rw [e1] at k
    rw [e3] at w
    rw [e1, e2, e6, (e s' hs').2.2.2.2.2]
    exact h3 s s' hs hs' k w
  · obtain ⟨_, _, _, e4, _, e6⟩ := e s hs
    rw [e4] at w
    rw [e6, (e s' hs').2.2.2.2.2]
    exact h4 s s' hs hs' w
theorem nb_le {d : Nat} {ρ : zS} {nb : Nat → Nat → Nat} (b1 : ∀ l, l < 4 → nb 0 l = 0) (b2 : ∀ i, i < d → EQ4 (nb (i + 1)) (INS (ρ 30 i) (ρ 31 i) (nb i))) : ∀ i, i ≤ d → ∀ l, l < 4 → nb i l ≤ i := by
  intro i
  induction i with
  | zero => intro _ l hl; rw [b1 l hl]; exact Nat.le_refl _
  | succ i ih =>
    intro hi l hl
    have := ih (by omega) l hl
    rw [b2 i (by omega) l hl]
    unfold INS
    by_cases c : ρ 30 i = 1 ∧ ρ 31 i = Int32.ofNat l
    · rw [if_pos c]; omega
    · rw [if_neg c]; omega
theorem NSR.put {t L d : Nat} {k x : Int32} {ρ r : zS} {nc nb : Nat → Nat → Nat} (h : NSR t L ρ nc) (b : NSB t L d ρ nc nb) (d8 : d ≤ 8) (hk4 : k = 4 → ∀ l, l < 4 → x = Int32.ofNat l → 0 < nb d l) (hL : L < 24) (em : EM t L k x ρ r) : NSR t (L + 1) r (NCU nc (24 * t + L) (nb d)) := by
  obtain ⟨h1, h2, h3, h4⟩ := h
  obtain ⟨b1, b2, b3, b4, _, b6, b7⟩ := b
  obtain ⟨_, _, _, _, _, ⟨k7, k8, k11, _⟩, o, _, _, ⟨w9, v9⟩, ⟨w10, v10⟩, _⟩ := em
  have ne : ∀ s, s < L → 24 * t + s ≠ 24 * t + L := fun s hs => by omega
  refine ⟨fun s hs l hl => ?_, fun _ l hl => ?_, fun s s' hs hs' kk w => ?_, fun s s' hs hs' w => ?_⟩
  · by_cases c : s = L
    · rw [c, k7, k8, k11, NCU.at]; exact ⟨b3 l hl, Nat.le_trans (nb_le b1 b2 d (Nat.le_refl _) l hl) d8, fun a b => hk4 a l hl b⟩
    · rw [(o _ (ne s (by omega))).1, (o _ (ne s (by omega))).2.1, (o _ (ne s (by omega))).2.2.1, NCU.ne (ne s (by omega))]
      exact h1 s (by omega) l hl
  · by_cases c : L = 0
    · subst c
      rw [Nat.add_zero, NCU.at]
      exact b6 rfl l hl
    · rw [NCU.ne (by omega)]
      exact h2 (by omega) l hl
  · by_cases c : s = L
    · rw [c, w9] at w
      exact absurd w.symm (zo_ne (by omega))
    · have sL : s < L := by omega
      obtain ⟨o7, o8, _, _⟩ := o _ (ne s sL)
      rw [o7] at kk
      rw [o7, o8, NCU.ne (ne s sL)]
      by_cases bt : bit (ρ 29 9) s
      · have e := (v9 _ (ne s sL)).1 ⟨by omega, by omega, by rw [show 24 * t + s - 24 * t = s by omega]; exact bt⟩
        have es : L = s' := zo_inj (by omega) (by omega) (e.symm.trans w)
        rw [← es, NCU.at]
        exact ((b4.1 s (by omega) bt).2 kk).sy
      · have e := (v9 _ (ne s sL)).2 fun z => bt (by rw [show 24 * t + s - 24 * t = s by omega] at z; exact z.2.2)
        rw [e] at w
        have lt := b7 s s' sL (by omega) (Or.inl w)
        rw [NCU.ne (ne s' lt)]
        exact h3 s s' sL lt kk w
  · by_cases c : s = L
    · rw [c, w10] at w
      exact absurd w.symm (zo_ne (by omega))
    · have sL : s < L := by omega
      rw [NCU.ne (ne s sL)]
      by_cases bt : bit (ρ 29 10) s
      · have e := (v10 _ (ne s sL)).1 ⟨by omega, by omega, by rw [show 24 * t + s - 24 * t = s by omega]; exact bt⟩
        have es : L = s' := zo_inj (by omega) (by omega) (e.symm.trans w)
        rw [← es, NCU.at]
        exact (b4.2 s (by omega) bt).2.sy
      · have e := (v10 _ (ne s sL)).2 fun z => bt (by rw [show 24 * t + s - 24 * t = s by omega] at z; exact z.2.2)
        rw [e] at w
        have lt := b7 s s' sL (by omega) (Or.inr w)
        rw [NCU.ne (ne s' lt)]
        exact h4 s s' sL lt w
theorem NSB.put {t L d : Nat} {k x : Int32} {ρ r : zS} {nc nb : Nat → Nat → Nat} (b : NSB t L d ρ nc nb) (hL : L < 24) (em : EM t L k x ρ r) : (∀ i, i < d → BLK t (L + 1) r (NCU nc (24 * t + L) (nb d)) i (nb i)) ∧ WYS t (L + 1) r (NCU nc (24 * t + L) (nb d)) (r 29 9) (r 29 10) (OUTN k x (nb d)) ∧ (∀ s s', s < L + 1 → s' < 24 → (r 9 (24 * t + s) = Int32.ofNat s' ∨ r 10 (24 * t + s) = Int32.ofNat s') → s' < L + 1) := by
  obtain ⟨_, _, b3, b4, b5, b6, b7⟩ := b
  obtain ⟨fr, _, _, _, _, ⟨k7, k8, k11, _⟩, o, _, _, ⟨w9, v9⟩, ⟨w10, v10⟩, n9, n10⟩ := em
  have ne : ∀ s, s < L → 24 * t + s ≠ 24 * t + L := fun s hs => by omega
  have g : ∀ q, q = 30 ∨ q = 31 ∨ q = 32 ∨ q = 33 ∨ q = 34 → r q = ρ q := fun q hq => fr q (by omega) (by omega) (by omega) (by omega) (by omega) (by omega) (by omega) (by omega) (by omega)
  refine ⟨fun i hi => (b5 i hi).ext (Nat.le_succ _) (fun s hs => ⟨(o _ (ne s hs)).1, (o _ (ne s hs)).2.1, NCU.ne (ne s hs)⟩) ⟨by rw [g 30 (by decide)], by rw [g 31 (by decide)], by rw [g 32 (by decide)], by rw [g 33 (by decide)], by rw [g 34 (by decide)]⟩ fun _ _ => rfl, ⟨fun s hs bt => ?_, fun s hs bt => ?_⟩, fun s s' hs hs' w => ?_⟩
  · rw [n9, bit_shl (by omega) hs] at bt
    rw [bt, k7, k8, NCU.at]
    exact ⟨by omega, fun _ _ _ => rfl⟩
  · rw [n10] at bt
    exact absurd bt (bit_zero hs)
  · by_cases c : s = L
    · rw [c, w9, w10] at w
      exact absurd w (fun z => z.elim (fun e => zo_ne (by omega) e.symm) fun e => zo_ne (by omega) e.symm)
    · have sL : s < L := by omega
      rcases w with w | w
      · by_cases bt : bit (ρ 29 9) s
        · have e := (v9 _ (ne s sL)).1 ⟨by omega, by omega, by rw [show 24 * t + s - 24 * t = s by omega]; exact bt⟩
          have es : L = s' := zo_inj (by omega) (by omega) (e.symm.trans w)
          omega
        · have e := (v9 _ (ne s sL)).2 fun z => bt (by rw [show 24 * t + s - 24 * t = s by omega] at z; exact z.2.2)
          rw [e] at w
          have := b7 s s' sL hs' (Or.inl w)
          omega
      · by_cases bt : bit (ρ 29 10) s
        · have e := (v10 _ (ne s sL)).1 ⟨by omega, by omega, by rw [show 24 * t + s - 24 * t = s by omega]; exact bt⟩
          have es : L = s' := zo_inj (by omega) (by omega) (e.symm.trans w)
          omega
        · have e := (v10 _ (ne s sL)).2 fun z => bt (by rw [show 24 * t + s - 24 * t = s by omega] at z; exact z.2.2)
          rw [e] at w
          have := b7 s s' sL hs' (Or.inr w)
          omega
