-- both answer alike
set_option maxRecDepth 2000
theorem bit_getz {x : Int32} : x &&& 1 = 1 ↔ ¬ x &&& 1 = 0 := by
  constructor
  · intro h; rw [h]; decide
  · intro h
    rw [bit_and1, Bool.not_eq_false] at h
    apply Int32.toBitVec_inj.mp
    rw [Int32.toBitVec_and]
    apply BitVec.eq_of_getLsbD_eq
    intro i hi
    rw [BitVec.getLsbD_and]
    show (x.toBitVec.getLsbD i && (1#32).getLsbD i) = (1#32).getLsbD i
    by_cases e : i = 0
    · rw [e, h, Bool.true_and]
    · have e' : ¬ 0 = i := fun h => e h.symm
      rw [BitVec.getLsbD_one]
      simp [e, e']
theorem bit_shr {v : Int32} {s : Nat} (hs : s < 24) : ((zJ_shr v (Int32.ofNat s)) &&& 1 = 0 ↔ ¬ bit v s) ∧ ((zJ_shr v (Int32.ofNat s)) &&& 1 = 1 ↔ bit v s) := by
  have S : (zJ_shr v (Int32.ofNat s)).toBitVec.getLsbD 0 = v.toBitVec.getLsbD s := by
    unfold zJ_shr
    rw [Int32.toBitVec_shiftRight]
    have b : ∀ k : Fin 24, ((Int32.ofNat k.val &&& 31).toBitVec.smod 32).toNat = k.val := by decide +kernel
    have b' := b ⟨s, hs⟩
    dsimp only at b'
    rw [BitVec.sshiftRight_eq', b', BitVec.getLsbD_sshiftRight]
    have a : ¬ 32 ≤ 0 := by omega
    have c : s + 0 < 32 := by omega
    simp [c]
    intro h
    omega
  have A : (zJ_shr v (Int32.ofNat s)) &&& 1 = 0 ↔ ¬ bit v s := by
    rw [bit_and1, S, bit_iff hs, Bool.not_eq_true]
  refine ⟨A, ?_⟩
  rw [bit_getz, A, Classical.not_not]
theorem bit_and {a b : Int32} {s : Nat} (hs : s < 24) : bit (a &&& b) s ↔ (bit a s ∧ bit b s) := by
  rw [bit_iff hs, bit_iff hs, bit_iff hs, Int32.toBitVec_and, BitVec.getLsbD_and, Bool.and_eq_true]
theorem bit_not {v : Int32} {s : Nat} (hs : s < 24) : bit (v ^^^ (-1)) s ↔ ¬ bit v s := by
  rw [bit_iff hs, bit_iff hs, Int32.toBitVec_xor, BitVec.getLsbD_xor]
  have o : (-1 : Int32).toBitVec.getLsbD s = true := by
    show (BitVec.allOnes 32).getLsbD s = true
    rw [BitVec.getLsbD_allOnes]
    exact decide_eq_true (by omega)
  rw [o]
  cases v.toBitVec.getLsbD s <;> simp
theorem bit_test {a : Int32} {k : Nat} (hk : k < 24) : a &&& zJ_shl 1 (Int32.ofNat k) = 0 ↔ ¬ bit a k := by
  have P : ∀ k : Fin 24, ∀ i : Fin 32, (zJ_shl 1 (Int32.ofNat k.val)).toBitVec.getLsbD i.val = decide (i.val = k.val) := by decide +kernel
  rw [bit_iff hk, Bool.not_eq_true]
  constructor
  · intro h
    have e : (a &&& zJ_shl 1 (Int32.ofNat k)).toBitVec.getLsbD k = false := by
      rw [h]
      show (0#32).getLsbD k = false
      exact BitVec.getLsbD_zero
    have p := P ⟨k, hk⟩ ⟨k, by omega⟩
    dsimp only at p
    rw [Int32.toBitVec_and, BitVec.getLsbD_and, p, decide_eq_true rfl, Bool.and_true] at e
    exact e
  · intro h
    apply Int32.toBitVec_inj.mp
    apply BitVec.eq_of_getLsbD_eq
    intro i hi
    have p := P ⟨k, hk⟩ ⟨i, hi⟩
    dsimp only at p
    rw [Int32.toBitVec_and, BitVec.getLsbD_and, p]
    show _ = (0#32).getLsbD i
    rw [BitVec.getLsbD_zero]
    by_cases e : i = k
    · have h' : a.toBitVec.getLsbD i = false := by subst e; exact h
      rw [h', Bool.false_and]
    · rw [decide_eq_false e, Bool.and_false]
theorem bit_mask0 : ∀ L : Fin 25, ∀ s : Fin 24, bit ((zJ_shl 1 (Int32.ofNat L.val)) - 1) s.val ↔ s.val < L.val := by decide +kernel
theorem bit_mask {L s : Nat} (hL : L ≤ 24) (hs : s < 24) : bit ((zJ_shl 1 (Int32.ofNat L)) - 1) s ↔ s < L := bit_mask0 ⟨L, by omega⟩ ⟨s, hs⟩
theorem bit_s0 : ∀ s : Fin 24, bit 1 s.val ↔ s.val = 0 := by decide +kernel
