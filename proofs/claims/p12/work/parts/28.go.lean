/-! THE RUN WITHOUT A COUNT OF STEPS: zx_go, and its equation -/
theorem zx_mono : ∀ (n d j pc : Nat) (ls : List (Option Value)) (st : List Value) (w : zx_W) (r : Option Value × zx_W), zx_run n d j pc ls st w = some r → zx_run (n + 1) d j pc ls st w = some r := by
  intro n
  induction n with
  | zero =>
    intro d j pc ls st w r h
    cases h
  | succ n ih =>
    intro d j pc ls st w r h
    unfold zx_run at h
    unfold zx_run
    split at h
    · cases h
    · rename_i hs
      try rw [hs]
      exact ih _ _ _ _ _ _ _ h
    · rename_i hs
      try rw [hs]
      exact h
    · rename_i k as rest pc' hs
      try rw [hs]
      split at h
      · cases h
      · rename_i d'
        split at h
        · cases h
        · rename_i u w2 hu
          have hu' : (if k < 264 then (if (zx_sl as).length ≤ zm_L k then zx_run (n + 1) d' k 0 (zx_entry k as) [] w else none) else if k = 1003 ∨ k = 1004 then (if zx_thrb k as w = true then (if 8 ≤ d' then some (some (.int 1), zx_bump w) else none) else (if (zx_sl as).length ≤ zm_L (k - 738) then zx_run (n + 1) d' (k - 738) 0 (zx_entry (k - 738) as) [] w else none)) else zx_nat k as w) = some (u, w2) := by
            split at hu
            · rename_i hk
              rw [if_pos hk]
              split at hu
              · rename_i ha
                rw [if_pos ha]
                exact ih _ _ _ _ _ _ _ hu
              · cases hu
            · rename_i hk
              rw [if_neg hk]
              split at hu
              · rename_i h3
                rw [if_pos h3]
                split at hu
                · rename_i h6
                  rw [if_pos h6]
                  split at hu
                  · rename_i h8
                    rw [if_pos (by omega)]
                    exact hu
                  · cases hu
                · rename_i h6
                  rw [if_neg h6]
                  split at hu
                  · rename_i ha
                    rw [if_pos ha]
                    exact ih _ _ _ _ _ _ _ hu
                  · cases hu
              · rename_i h3
                rw [if_neg h3]
                exact hu
          show (match (if k < 264 then (if (zx_sl as).length ≤ zm_L k then zx_run (n + 1) d' k 0 (zx_entry k as) [] w else none) else if k = 1003 ∨ k = 1004 then (if zx_thrb k as w = true then (if 8 ≤ d' then some (some (.int 1), zx_bump w) else none) else (if (zx_sl as).length ≤ zm_L (k - 738) then zx_run (n + 1) d' (k - 738) 0 (zx_entry (k - 738) as) [] w else none)) else zx_nat k as w) with
            | none => none
            | some (u, w2) => zx_run (n + 1) (d' + 1) j pc' ls (u.toList ++ rest) w2) = some r
          rw [hu']
          exact ih _ _ _ _ _ _ _ h
theorem zx_mono_le {n m d j pc : Nat} {ls : List (Option Value)} {st : List Value} {w : zx_W} {r : Option Value × zx_W} (hm : n ≤ m) (h : zx_run n d j pc ls st w = some r) : zx_run m d j pc ls st w = some r := by
  induction hm with
  | refl => exact h
  | step _ ih => exact zx_mono _ _ _ _ _ _ _ _ ih
/-- more frames do no harm -/
theorem zx_deep : ∀ (n d j pc : Nat) (ls : List (Option Value)) (st : List Value) (w : zx_W) (r : Option Value × zx_W), zx_run n d j pc ls st w = some r → zx_run n (d + 1) j pc ls st w = some r := by
  intro n
  induction n with
  | zero =>
    intro d j pc ls st w r h
    cases h
  | succ n ih =>
    intro d j pc ls st w r h
    unfold zx_run at h
    unfold zx_run
    split at h
    · cases h
    · rename_i hs
      try rw [hs]
      exact ih _ _ _ _ _ _ _ h
    · rename_i hs
      try rw [hs]
      exact h
    · rename_i k as rest pc' hs
      try rw [hs]
      split at h
      · cases h
      · rename_i d'
        split at h
        · cases h
        · rename_i u w2 hu
          have hu' : (if k < 264 then (if (zx_sl as).length ≤ zm_L k then zx_run n (d' + 1) k 0 (zx_entry k as) [] w else none) else if k = 1003 ∨ k = 1004 then (if zx_thrb k as w = true then (if 8 ≤ d' + 1 then some (some (.int 1), zx_bump w) else none) else (if (zx_sl as).length ≤ zm_L (k - 738) then zx_run n (d' + 1) (k - 738) 0 (zx_entry (k - 738) as) [] w else none)) else zx_nat k as w) = some (u, w2) := by
            split at hu
            · rename_i hk
              rw [if_pos hk]
              split at hu
              · rename_i ha
                rw [if_pos ha]
                exact ih _ _ _ _ _ _ _ hu
              · cases hu
            · rename_i hk
              rw [if_neg hk]
              split at hu
              · rename_i h3
                rw [if_pos h3]
                split at hu
                · rename_i h6
                  rw [if_pos h6]
                  split at hu
                  · rename_i h8
                    rw [if_pos (by omega)]
                    exact hu
                  · cases hu
                · rename_i h6
                  rw [if_neg h6]
                  split at hu
                  · rename_i ha
                    rw [if_pos ha]
                    exact ih _ _ _ _ _ _ _ hu
                  · cases hu
              · rename_i h3
                rw [if_neg h3]
                exact hu
          show (match (if k < 264 then (if (zx_sl as).length ≤ zm_L k then zx_run n (d' + 1) k 0 (zx_entry k as) [] w else none) else if k = 1003 ∨ k = 1004 then (if zx_thrb k as w = true then (if 8 ≤ d' + 1 then some (some (.int 1), zx_bump w) else none) else (if (zx_sl as).length ≤ zm_L (k - 738) then zx_run n (d' + 1) (k - 738) 0 (zx_entry (k - 738) as) [] w else none)) else zx_nat k as w) with
            | none => none
            | some (u, w2) => zx_run n (d' + 1 + 1) j pc' ls (u.toList ++ rest) w2) = some r
          rw [hu']
          exact ih _ _ _ _ _ _ _ h
theorem zx_deep_le {n d e j pc : Nat} {ls : List (Option Value)} {st : List Value} {w : zx_W} {r : Option Value × zx_W} (hm : d ≤ e) (h : zx_run n d j pc ls st w = some r) : zx_run n e j pc ls st w = some r := by
  induction hm with
  | refl => exact h
  | step _ ih => exact zx_deep _ _ _ _ _ _ _ _ ih
noncomputable def zx_go (d j pc : Nat) (ls : List (Option Value)) (st : List Value) (w : zx_W) : Option (Option Value × zx_W) :=
  haveI := Classical.propDecidable (∃ r n, zx_run n d j pc ls st w = some r)
  if h : ∃ r n, zx_run n d j pc ls st w = some r then some (Classical.choose h) else none
theorem zx_go_iff {d j pc : Nat} {ls : List (Option Value)} {st : List Value} {w : zx_W} {r : Option Value × zx_W} : zx_go d j pc ls st w = some r ↔ ∃ n, zx_run n d j pc ls st w = some r := by
  unfold zx_go
  constructor
  · intro h
    split at h
    · rename_i hx
      obtain ⟨n, hn⟩ := Classical.choose_spec hx
      cases h
      exact ⟨n, hn⟩
    · cases h
  · rintro ⟨n, hn⟩
    have hx : ∃ r n, zx_run n d j pc ls st w = some r := ⟨r, n, hn⟩
    rw [dif_pos hx]
    obtain ⟨m, hm⟩ := Classical.choose_spec hx
    have h1 := zx_mono_le (Nat.le_max_left n m) hn
    have h2 := zx_mono_le (Nat.le_max_right n m) hm
    rw [h1] at h2
    rw [← Option.some.inj h2]
theorem zx_go_ext {d j pc d' j' pc' : Nat} {ls ls' : List (Option Value)} {st st' : List Value} {w w' : zx_W} (h : ∀ r, (∃ n, zx_run n d j pc ls st w = some r) ↔ ∃ n, zx_run n d' j' pc' ls' st' w' = some r) : zx_go d j pc ls st w = zx_go d' j' pc' ls' st' w' := by
  apply Option.ext
  intro r
  exact zx_go_iff.trans ((h r).trans zx_go_iff.symm)
/-- a step that goes on -/
theorem zx_go_step {d j pc pc' : Nat} {ls ls' : List (Option Value)} {st st' : List Value} {w w' : zx_W} (hs : zx_step j pc ls st w = some (.inl (pc', ls', st', w'))) : zx_go d j pc ls st w = zx_go d j pc' ls' st' w' := by
  refine zx_go_ext (fun r => ⟨?_, ?_⟩)
  · rintro ⟨n, hn⟩
    cases n with
    | zero => cases hn
    | succ n =>
      unfold zx_run at hn
      rw [hs] at hn
      exact ⟨n, hn⟩
  · rintro ⟨n, hn⟩
    refine ⟨n + 1, ?_⟩
    unfold zx_run
    rw [hs]
    exact hn
theorem zx_go_ret {d j pc : Nat} {ls : List (Option Value)} {st : List Value} {w : zx_W} {v : Option Value} (hs : zx_step j pc ls st w = some (.inr (.inl v))) : zx_go d j pc ls st w = some (v, w) := by
  refine zx_go_iff.mpr ⟨1, ?_⟩
  unfold zx_run
  rw [hs]
/-- a call of a method that is known to come back -/
theorem zx_go_call {d e j pc k pc' : Nat} {ls : List (Option Value)} {st as rest : List Value} {w w2 : zx_W} {u : Option Value} (hs : zx_step j pc ls st w = some (.inr (.inr (k, as, rest, pc')))) (hk : k < 264) (ha : (zx_sl as).length ≤ zm_L k) (he : e ≤ d) (hu : zx_go e k 0 (zx_entry k as) [] w = some (u, w2)) : zx_go (d + 1) j pc ls st w = zx_go (d + 1) j pc' ls (u.toList ++ rest) w2 := by
  obtain ⟨m, hm⟩ := zx_go_iff.mp hu
  have hm := zx_deep_le he hm
  refine zx_go_ext (fun r => ⟨?_, ?_⟩)
  · rintro ⟨n, hn⟩
    have hn := zx_mono_le (Nat.le_max_left n (m + 1)) hn
    generalize hN : max n (m + 1) = N at hn
    cases N with
    | zero => cases hn
    | succ N =>
      have hm' := zx_mono_le (show m ≤ N by omega) hm
      unfold zx_run at hn
      rw [hs] at hn
      dsimp only at hn
      rw [if_pos hk, if_pos ha, hm'] at hn
      exact ⟨N, hn⟩
  · rintro ⟨n, hn⟩
    refine ⟨max n m + 1, ?_⟩
    unfold zx_run
    rw [hs]
    dsimp only
    rw [if_pos hk, if_pos ha, zx_mono_le (Nat.le_max_right n m) hm]
    exact zx_mono_le (Nat.le_max_left n m) hn
theorem zx_go_nat {d j pc k pc' : Nat} {ls : List (Option Value)} {st as rest : List Value} {w w2 : zx_W} {u : Option Value} (hs : zx_step j pc ls st w = some (.inr (.inr (k, as, rest, pc')))) (hk : ¬ k < 264) (h3 : ¬ (k = 1003 ∨ k = 1004)) (hu : zx_nat k as w = some (u, w2)) : zx_go (d + 1) j pc ls st w = zx_go (d + 1) j pc' ls (u.toList ++ rest) w2 := by
  refine zx_go_ext (fun r => ⟨?_, ?_⟩)
  · rintro ⟨n, hn⟩
    cases n with
    | zero => cases hn
    | succ n =>
      unfold zx_run at hn
      rw [hs] at hn
      dsimp only at hn
      rw [if_neg hk, if_neg h3, hu] at hn
      exact ⟨n, hn⟩
  · rintro ⟨n, hn⟩
    refine ⟨n + 1, ?_⟩
    unfold zx_run
    rw [hs]
    dsimp only
    rw [if_neg hk, if_neg h3, hu]
    exact hn
/-- a call of the law's own feed or end: without a throw, and with one -/
theorem zx_go_law {d e j pc k pc' : Nat} {ls : List (Option Value)} {st as rest : List Value} {w w2 : zx_W} {u : Option Value} (hs : zx_step j pc ls st w = some (.inr (.inr (k, as, rest, pc')))) (h3 : k = 1003 ∨ k = 1004) (ht : ¬ zx_thrb k as w = true) (ha : (zx_sl as).length ≤ zm_L (k - 738)) (he : e ≤ d) (hu : zx_go e (k - 738) 0 (zx_entry (k - 738) as) [] w = some (u, w2)) : zx_go (d + 1) j pc ls st w = zx_go (d + 1) j pc' ls (u.toList ++ rest) w2 := by
  obtain ⟨m, hm⟩ := zx_go_iff.mp hu
  have hm := zx_deep_le he hm
  have hk : ¬ k < 264 := by omega
  refine zx_go_ext (fun r => ⟨?_, ?_⟩)
  · rintro ⟨n, hn⟩
    have hn := zx_mono_le (Nat.le_max_left n (m + 1)) hn
    generalize hN : max n (m + 1) = N at hn
    cases N with
    | zero => cases hn
    | succ N =>
      have hm' := zx_mono_le (show m ≤ N by omega) hm
      unfold zx_run at hn
      rw [hs] at hn
      dsimp only at hn
      rw [if_neg hk, if_pos h3, if_neg ht, if_pos ha, hm'] at hn
      exact ⟨N, hn⟩
  · rintro ⟨n, hn⟩
    refine ⟨max n m + 1, ?_⟩
    unfold zx_run
    rw [hs]
    dsimp only
    rw [if_neg hk, if_pos h3, if_neg ht, if_pos ha, zx_mono_le (Nat.le_max_right n m) hm]
    exact zx_mono_le (Nat.le_max_left n m) hn
theorem zx_go_thr {d j pc k pc' : Nat} {ls : List (Option Value)} {st as rest : List Value} {w : zx_W} (hs : zx_step j pc ls st w = some (.inr (.inr (k, as, rest, pc')))) (h3 : k = 1003 ∨ k = 1004) (ht : zx_thrb k as w = true) (h8 : 8 ≤ d) : zx_go (d + 1) j pc ls st w = zx_go (d + 1) j pc' ls (.int 1 :: rest) (zx_bump w) := by
  have hk : ¬ k < 264 := by omega
  refine zx_go_ext (fun r => ⟨?_, ?_⟩)
  · rintro ⟨n, hn⟩
    cases n with
    | zero => cases hn
    | succ n =>
      unfold zx_run at hn
      rw [hs] at hn
      dsimp only at hn
      rw [if_neg hk, if_pos h3, if_pos ht, if_pos h8] at hn
      exact ⟨n, hn⟩
  · rintro ⟨n, hn⟩
    refine ⟨n + 1, ?_⟩
    unfold zx_run
    rw [hs]
    dsimp only
    rw [if_neg hk, if_pos h3, if_pos ht, if_pos h8]
    exact hn
theorem zx_go_deep {d e j pc : Nat} {ls : List (Option Value)} {st : List Value} {w : zx_W} {r : Option Value × zx_W} (he : d ≤ e) (h : zx_go d j pc ls st w = some r) : zx_go e j pc ls st w = some r := by
  obtain ⟨n, hn⟩ := zx_go_iff.mp h
  exact zx_go_iff.mpr ⟨n, zx_deep_le he hn⟩
theorem zx_go_sound {d j pc : Nat} {ls : List (Option Value)} {st : List Value} {w w1 : zx_W} {v : Option Value} (h : zx_go d j pc ls st w = some (v, w1)) : zx_E d j pc ls st w v w1 := by
  obtain ⟨n, hn⟩ := zx_go_iff.mp h
  exact zx_sound n d j pc ls st w v w1 hn
