/-! locals -/
def zx_L (ad : Nat → Nat) (lsr : Array Slot) (n : Nat) (ls : List (Option Value)) : Prop := lsr.size = n ∧ lv_wf lsr ∧ (∀ (i : Nat) (v : Value), ls[i]? = some (some v) → lsr[i]? = some (Slot.val (zx_v ad v))) ∧ ls.length ≤ n
def zx_get (ls : List (Option Value)) (k : Nat) : Option Value := match ls[k]? with
  | some (some v) => some v
  | _ => none
theorem zx_get_at {ls : List (Option Value)} {k : Nat} {v : Value} (h : zx_get ls k = some v) : ls[k]? = some (some v) := by
  unfold zx_get at h
  split at h
  · rename_i w hw
    rw [hw, Option.some.inj h]
  · cases h
/-- a long whose second half is overwritten is known no more -/
def zx_cl (ls : List (Option Value)) (i : Nat) : List (Option Value) := match i with
  | 0 => ls
  | k + 1 => match zx_get ls k with
    | some (.long _) => ls.set k none
    | some (.double _) => ls.set k none
    | _ => ls
def zx_s1 (ls : List (Option Value)) (i : Nat) (v : Value) : List (Option Value) := (zx_cl ls i).set i (some v)
def zx_s2 (ls : List (Option Value)) (i : Nat) (v : Value) : List (Option Value) := ((zx_cl ls i).set i (some v)).set (i + 1) none
theorem zx_cl_len (ls : List (Option Value)) (i : Nat) : (zx_cl ls i).length = ls.length := by
  cases i with
  | zero => rfl
  | succ k =>
    unfold zx_cl
    dsimp only
    split <;> simp
theorem zx_cl_at {ls : List (Option Value)} {i k : Nat} {w : Value} (h : (zx_cl ls i)[k]? = some (some w)) : ls[k]? = some (some w) ∧ ¬ (k + 1 = i ∧ w.category = 2) := by
  cases i with
  | zero => exact ⟨h, fun q => by omega⟩
  | succ n =>
    unfold zx_cl at h
    have key : ∀ (b : ∀ x, ls[n]? = some (some x) → x.category = 2 → False), ls[k]? = some (some w) → ls[k]? = some (some w) ∧ ¬ (k + 1 = n + 1 ∧ w.category = 2) := by
      intro b h1
      refine ⟨h1, fun q => ?_⟩
      have e : k = n := by omega
      subst e
      exact b w h1 q.2
    have gone : (ls.set n none)[k]? = some (some w) → ls[k]? = some (some w) ∧ ¬ (k + 1 = n + 1 ∧ w.category = 2) := by
      intro h1
      by_cases e : k = n
      · subst e
        rw [List.getElem?_set] at h1
        simp at h1
      · rw [List.getElem?_set_ne (fun q => e q.symm)] at h1
        exact ⟨h1, fun q => e (by omega)⟩
    dsimp only at h
    split at h
    · exact gone h
    · exact gone h
    · rename_i n1 n2
      refine key (fun x hx hc => ?_) h
      have hg : zx_get ls n = some x := by unfold zx_get; rw [hx]
      cases x with
      | long y => exact n1 y hg
      | double y => exact n2 y hg
      | _ => simp [Value.category] at hc
/-- the pairs that are known, for the rows of the kit -/
def zx_ps (ad : Nat → Nat) (ls : List (Option Value)) : List (Nat × Value) := (List.range ls.length).filterMap (fun i => (zx_get ls i).map (fun v => (i, zx_v ad v)))
theorem zx_ps_in {ad : Nat → Nat} {ls : List (Option Value)} {q : Nat × Value} : q ∈ zx_ps ad ls ↔ ∃ v, ls[q.1]? = some (some v) ∧ q.2 = zx_v ad v := by
  constructor
  · intro h
    obtain ⟨i, -, hi⟩ := List.mem_filterMap.mp h
    cases hg : zx_get ls i with
    | none => rw [hg] at hi; cases hi
    | some v =>
      rw [hg] at hi
      have e := Option.some.inj hi
      subst e
      exact ⟨v, zx_get_at hg, rfl⟩
  · rintro ⟨v, h1, h2⟩
    refine List.mem_filterMap.mpr ⟨q.1, List.mem_range.mpr (List.getElem?_eq_some_iff.mp h1).1, ?_⟩
    have : zx_get ls q.1 = some v := by unfold zx_get; rw [h1]
    rw [this]
    show some (q.1, zx_v ad v) = some q
    rw [← h2]
theorem zx_L.has {ad : Nat → Nat} {lsr : Array Slot} {n : Nat} {ls : List (Option Value)} (h : zx_L ad lsr n ls) : lv_has lsr n (zx_ps ad ls) := ⟨h.1, h.2.1, fun q hq => by
  obtain ⟨v, h1, h2⟩ := zx_ps_in.mp hq
  rw [h.2.2.1 q.1 v h1, h2]⟩
theorem zx_L.st1 {ad : Nat → Nat} {lsr' : Array Slot} {n i : Nat} {ls : List (Option Value)} {v : Value} (h' : lv_has lsr' n ((i, zx_v ad v) :: (zx_ps ad ls).filter (fun q => !(q.1 == i) && !(q.1 + 1 == i && q.2.category == 2)))) (hn : ls.length ≤ n) : zx_L ad lsr' n (zx_s1 ls i v) := by
  refine ⟨h'.1, h'.2.1, fun k w hk => ?_, by rw [zx_s1, List.length_set, zx_cl_len]; exact hn⟩
  by_cases e : k = i
  · subst e
    unfold zx_s1 at hk
    rw [List.getElem?_set] at hk
    simp at hk
    obtain ⟨-, hk⟩ := hk
    subst hk
    exact h'.2.2 (k, zx_v ad v) List.mem_cons_self
  · unfold zx_s1 at hk
    rw [List.getElem?_set_ne (fun q => e q.symm)] at hk
    obtain ⟨h1, h2⟩ := zx_cl_at hk
    refine h'.2.2 (k, zx_v ad w) (List.mem_cons_of_mem _ (List.mem_filter.mpr ⟨zx_ps_in.mpr ⟨w, h1, rfl⟩, ?_⟩))
    simp only [zx_v_cat]
    simp [e]
    exact Decidable.not_and_iff_not_or_not.mp h2
theorem zx_L.st2 {ad : Nat → Nat} {lsr' : Array Slot} {n i : Nat} {ls : List (Option Value)} {v : Value} (h' : lv_has lsr' n ((i, zx_v ad v) :: (zx_ps ad ls).filter (fun q => !(q.1 == i) && (!(q.1 == i + 1) && !(q.1 + 1 == i && q.2.category == 2))))) (hn : ls.length ≤ n) : zx_L ad lsr' n (zx_s2 ls i v) := by
  refine ⟨h'.1, h'.2.1, fun k w hk => ?_, by rw [zx_s2, List.length_set, List.length_set, zx_cl_len]; exact hn⟩
  unfold zx_s2 at hk
  by_cases e1 : k = i + 1
  · subst e1
    rw [List.getElem?_set] at hk
    simp at hk
  rw [List.getElem?_set_ne (fun q => e1 q.symm)] at hk
  by_cases e : k = i
  · subst e
    rw [List.getElem?_set] at hk
    simp at hk
    obtain ⟨-, hk⟩ := hk
    subst hk
    exact h'.2.2 (k, zx_v ad v) List.mem_cons_self
  · rw [List.getElem?_set_ne (fun q => e q.symm)] at hk
    obtain ⟨h1, h2⟩ := zx_cl_at hk
    refine h'.2.2 (k, zx_v ad w) (List.mem_cons_of_mem _ (List.mem_filter.mpr ⟨zx_ps_in.mpr ⟨w, h1, rfl⟩, ?_⟩))
    simp only [zx_v_cat]
    simp [e, e1]
    exact Decidable.not_and_iff_not_or_not.mp h2
