-- both answer alike
set_option maxRecDepth 2000
def NBU (nb : Nat → Nat → Nat) (d : Nat) (m : Nat → Nat) : Nat → Nat → Nat := fun i => if i = d then m else nb i
theorem NBU.at {nb : Nat → Nat → Nat} {d : Nat} {m : Nat → Nat} : NBU nb d m d = m := by unfold NBU; rw [if_pos rfl]
theorem NBU.ne {nb : Nat → Nat → Nat} {d i : Nat} {m : Nat → Nat} (h : i ≠ d) : NBU nb d m i = nb i := by unfold NBU; rw [if_neg h]
theorem NSQ.enter {t L d : Nat} {s m : Int32} {ρ r : zS} {nc nb : Nat → Nat → Nat} {w : Nat → Nat} (h1 : t < 4 ∧ L ≤ 24 ∧ d ≤ 8) (h2 : ρ 29 8 = Int32.ofNat t ∧ ρ 5 t = Int32.ofNat L ∧ ρ 29 6 = Int32.ofNat d) (h3 : ρ 4 2 = Int32.ofNat (t + 1) ∧ ∀ t', t < t' → t' < 4 → ρ 5 t' = 0) (h4 : NSR t L ρ nc) (b1 : ∀ l, l < 4 → nb 0 l = 0) (b2 : ∀ i, i < d → EQ4 (nb (i + 1)) (INS (ρ 30 i) (ρ 31 i) (nb i))) (b3 : ∀ l, l < 4 → (bit (ρ 29 11) l ↔ 0 < nb d l)) (b4 : WYS t L ρ nc (ρ 29 9) (ρ 29 10) w) (b5 : ∀ i, i < d → BLK t L ρ nc i (nb i)) (b6 : L = 0 → ∀ l, l < 4 → INS s m (nb d) l = 0) (b7 : ∀ s s', s < L → s' < 24 → (ρ 9 (24 * t + s) = Int32.ofNat s' ∨ ρ 10 (24 * t + s) = Int32.ofNat s') → s' < L) (oth : OTN t ρ nc) (lst : LST t L ρ) (ew : EQ4 w (INS s m (nb d))) (d8 : d < 8) (en : ENT s m d ρ r) (s0 : s = 0 ↔ d = 0) (hm : (s = 3 ∨ (¬ s = 0 ∧ ¬ s = 1 ∧ ¬ s = 2 ∧ ¬ s = 3 ∧ ¬ s = 4)) → (m = -1 ∨ ∃ z, z < L ∧ z < 24 ∧ m = Int32.ofNat z ∧ EQ4 (nc (24 * t + z)) (nb d))) (hb : ∀ l, l < 4 → (bit (r 29 11) l ↔ 0 < INS s m (nb d) l)) : NSP t L (d + 1) r nc (NBU nb (d + 1) (INS s m (nb d))) := by
  obtain ⟨fr, ⟨k30, k31, k32, k33, k34⟩, o, k6, f29, f4, _⟩ := en
  have g : ∀ q, q ≠ 4 → (q < 29 ∨ 34 < q) → r q = ρ q := fun q a b => fr q a (by omega) (by omega) (by omega) (by omega) (by omega) (by omega)
  have nbd : NBU nb (d + 1) (INS s m (nb d)) d = nb d := NBU.ne (by omega)
  refine ⟨⟨h1.1, h1.2.1, by omega⟩, ⟨by rw [f29 8 (by decide) (by decide) (by decide)]; exact h2.1, by rw [g 5 (by decide) (by decide)]; exact h2.2.1, k6⟩, ⟨by rw [f4 2 (by decide)]; exact h3.1, by rw [g 5 (by decide) (by decide)]; exact h3.2⟩, h4.of fun s hs => ⟨by rw [g 7 (by decide) (by decide)], by rw [g 8 (by decide) (by decide)], by rw [g 9 (by decide) (by decide)], by rw [g 10 (by decide) (by decide)], by rw [g 11 (by decide) (by decide)], rfl⟩, ⟨fun l hl => by rw [NBU.ne (by omega)]; exact b1 l hl, fun i hi => ?_, fun l hl => by rw [NBU.at]; exact hb l hl, ?_, fun i hi => ?_, fun z l hl => by rw [NBU.at]; exact b6 z l hl, by rw [g 9 (by decide) (by decide), g 10 (by decide) (by decide)]; exact b7⟩, oth.of (fun j _ => by rw [g 5 (by decide) (by decide)]) (fun j _ => ⟨by rw [g 7 (by decide) (by decide)], by rw [g 8 (by decide) (by decide)], by rw [g 9 (by decide) (by decide)], by rw [g 10 (by decide) (by decide)], by rw [g 11 (by decide) (by decide)], rfl⟩), by unfold LST; rw [f29 7 (by decide) (by decide) (by decide)]; exact lst⟩
  · by_cases c : i = d
    · rw [c, NBU.at, nbd, k30, k31]
      exact fun _ _ => rfl
    · rw [NBU.ne (by omega), NBU.ne (by omega), (o i c).1, (o i c).2.1]
      exact b2 i (by omega)
  · rw [NBU.at, f29 9 (by decide) (by decide) (by decide), f29 10 (by decide) (by decide) (by decide)]
    exact b4.ext (Nat.le_refl _) (fun s hs => ⟨by rw [g 7 (by decide) (by decide)], by rw [g 8 (by decide) (by decide)], rfl⟩) ew
  · by_cases c : i = d
    · rw [c, nbd]
      unfold BLK
      rw [k30, k31, k32, k33, k34]
      refine ⟨fun _ => b3, hm, fun _ => ⟨fun s hs b => absurd b (bit_zero hs), fun s hs b => absurd b (bit_zero hs)⟩, s0⟩
    · rw [NBU.ne (by omega)]
      exact (b5 i (by omega)).ext (Nat.le_refl _) (fun s hs => ⟨by rw [g 7 (by decide) (by decide)], by rw [g 8 (by decide) (by decide)], rfl⟩) (o i c) fun _ _ => rfl
theorem NSP.enter {t L d : Nat} {s m : Int32} {ρ r : zS} {nc nb : Nat → Nat → Nat} (h : NSP t L d ρ nc nb) (d8 : d < 8) (en : ENT s m d ρ r) (s1 : ¬ s = 1) (s0 : s = 0 ↔ d = 0) (hm : (s = 3 ∨ (¬ s = 0 ∧ ¬ s = 1 ∧ ¬ s = 2 ∧ ¬ s = 3 ∧ ¬ s = 4)) → (m = -1 ∨ ∃ z, z < L ∧ z < 24 ∧ m = Int32.ofNat z ∧ EQ4 (nc (24 * t + z)) (nb d))) : NSP t L (d + 1) r nc (NBU nb (d + 1) (INS s m (nb d))) := by
  obtain ⟨h1, h2, h3, h4, ⟨b1, b2, b3, b4, b5, b6, b7⟩, oth, lst⟩ := h
  have i := INS.id (x := m) (n := nb d) s1
  refine NSQ.enter h1 h2 h3 h4 b1 b2 b3 b4 b5 (fun z l hl => by rw [i l hl]; exact b6 z l hl) b7 oth lst i.sy d8 en s0 hm fun l hl => ?_
  rw [i l hl, ← b3 l hl]
  rcases en.2.2.2.2.2.2 with e | ⟨_, _, _, e | e⟩
  · rw [e.2.2.2]
  · exact absurd e.1 s1
  · rw [e.2]
theorem NSQ.lock {t L d lx : Nat} {ρ r : zS} {nc nb : Nat → Nat → Nat} (h : NSQ t L d ρ nc nb (OUTN 3 (Int32.ofNat lx) (nb d))) (lx4 : lx < 4) (dp : 0 < d) (d8 : d < 8) (en : ENT 1 (Int32.ofNat lx) d ρ r) : NSP t L (d + 1) r nc (NBU nb (d + 1) (INS 1 (Int32.ofNat lx) (nb d))) := by
  obtain ⟨h1, h2, h3, h4, ⟨b1, b2, b3, b4, b5, b6, b7⟩, oth, lst⟩ := h
  have io : EQ4 (OUTN 3 (Int32.ofNat lx) (nb d)) (INS 1 (Int32.ofNat lx) (nb d)) := fun l hl => by
    unfold OUTN INS
    by_cases c : Int32.ofNat lx = Int32.ofNat l
    · rw [if_pos ⟨rfl, c⟩, if_pos ⟨rfl, c⟩]
    · rw [if_neg fun w => c w.2, if_neg fun w => c w.2, if_neg fun w => c w.2]
  refine NSQ.enter h1 h2 h3 h4 b1 b2 b3 b4 b5 (fun z => by omega) b7 oth lst io d8 en ⟨fun w => absurd w (by decide), fun w => absurd dp (by omega)⟩ (fun w => absurd w (by decide)) fun l hl => ?_
  have e11 : r 29 11 = ρ 29 11 ||| zJ_shl 1 (Int32.ofNat lx) := by
    rcases en.2.2.2.2.2.2 with e | ⟨_, _, _, e | e⟩
    · exact absurd e.1 (by decide)
    · exact e.2
    · exact absurd rfl e.1
  rw [e11, bit_or (by omega), bit_shl (by omega) (by omega), b3 l hl]
  unfold INS
  by_cases c : l = lx
  · rw [c, if_pos ⟨rfl, rfl⟩]
    exact ⟨fun _ => by omega, fun _ => Or.inr rfl⟩
  · rw [if_neg fun w => c (zo_inj (by omega) (by omega) w.2).symm]
    exact ⟨fun w => w.resolve_right c, Or.inl⟩
