def zx_step (j pc : Nat) (ls : List (Option Value)) (st : List Value) (w : zx_W) : Option zx_Ev := match decode (zm_cc j) pc with
  | .ok (i, n) => if zx_len i n = true then zx_i j i pc ls st w else none
  | .error _ => none
theorem zx_step_at {j pc : Nat} {ls : List (Option Value)} {st : List Value} {w : zx_W} {e : zx_Ev} (h : zx_step j pc ls st w = some e) : ∃ i n, decode (zm_cc j) pc = .ok (i, n) ∧ zx_len i n = true ∧ zx_i j i pc ls st w = some e := by
  unfold zx_step at h
  split at h
  · rename_i i n hd
    split at h
    · rename_i hn
      exact ⟨i, n, hd, hn, h⟩
    · cases h
  · cases h
theorem zx_br_go {d j pc pc' : Nat} {ls ls' : List (Option Value)} {st st' : List Value} {w w' : zx_W} {off : Int} {c : Bool} (h : zx_br pc off c ls st w = some (.inl (pc', ls', st', w'))) : ∃ t, zx_to pc off = some t ∧ pc' = (if c = true then t else pc + 3) ∧ ls' = ls ∧ st' = st ∧ w' = w := by
  unfold zx_br at h
  split at h
  · rename_i t ht
    cases h
    exact ⟨t, ht, rfl, rfl, rfl, rfl⟩
  · cases h
theorem zx_br_no {pc : Nat} {ls : List (Option Value)} {st : List Value} {w : zx_W} {off : Int} {c : Bool} {e : Option Value ⊕ (Nat × List Value × List Value × Nat)} (h : zx_br pc off c ls st w = some (.inr e)) : False := by
  unfold zx_br at h
  split at h <;> cases h
theorem zx_inv_no {j kd n pc : Nat} {st : List Value} {w : zx_W} {x : Nat × List (Option Value) × List Value × zx_W} (h : zx_inv j kd n pc st w = some (.inl x)) : False := by
  unfold zx_inv at h
  split at h
  · split at h <;> cases h
  · cases h
theorem zx_inv_nr {j kd n pc : Nat} {st : List Value} {w : zx_W} {x : Option Value} (h : zx_inv j kd n pc st w = some (.inr (.inl x))) : False := by
  unfold zx_inv at h
  split at h
  · split at h <;> cases h
  · cases h
set_option maxHeartbeats 4000000 in
/-- a step that goes on -/
theorem zx_step_go {d j pc pc' : Nat} {ls ls' : List (Option Value)} {st st' : List Value} {w w' : zx_W} {v : Option Value} {w1 : zx_W} (h : zx_step j pc ls st w = some (.inl (pc', ls', st', w'))) (hE : zx_E d j pc' ls' st' w' v w1) : zx_E d j pc ls st w v w1 := by
  have h0 := zx_step_at h
  clear h
  obtain ⟨i, n, hd, hn, h⟩ := h0
  cases i with
  | iadd =>
    have hn := eq_of_beq hn
    subst hn
    unfold zx_i at h
    dsimp only at h
    split at h
    · cases h
      exact zx_o_iadd hd hE
    · cases h
  | isub =>
    have hn := eq_of_beq hn
    subst hn
    unfold zx_i at h
    dsimp only at h
    split at h
    · cases h
      exact zx_o_isub hd hE
    · cases h
  | imul =>
    have hn := eq_of_beq hn
    subst hn
    unfold zx_i at h
    dsimp only at h
    split at h
    · cases h
      exact zx_o_imul hd hE
    · cases h
  | iand =>
    have hn := eq_of_beq hn
    subst hn
    unfold zx_i at h
    dsimp only at h
    split at h
    · cases h
      exact zx_o_iand hd hE
    · cases h
  | ior =>
    have hn := eq_of_beq hn
    subst hn
    unfold zx_i at h
    dsimp only at h
    split at h
    · cases h
      exact zx_o_ior hd hE
    · cases h
  | ixor =>
    have hn := eq_of_beq hn
    subst hn
    unfold zx_i at h
    dsimp only at h
    split at h
    · cases h
      exact zx_o_ixor hd hE
    · cases h
  | idiv =>
    have hn := eq_of_beq hn
    subst hn
    unfold zx_i at h
    dsimp only at h
    split at h
    · split at h
      · cases h
      · rename_i hg
        cases h
        exact zx_o_idiv hg hd hE
    · cases h
  | irem =>
    have hn := eq_of_beq hn
    subst hn
    unfold zx_i at h
    dsimp only at h
    split at h
    · split at h
      · cases h
      · rename_i hg
        cases h
        exact zx_o_irem hg hd hE
    · cases h
  | ishl =>
    have hn := eq_of_beq hn
    subst hn
    unfold zx_i at h
    dsimp only at h
    split at h
    · cases h
      exact zx_o_ishl hd hE
    · cases h
  | ishr =>
    have hn := eq_of_beq hn
    subst hn
    unfold zx_i at h
    dsimp only at h
    split at h
    · cases h
      exact zx_o_ishr hd hE
    · cases h
  | iushr =>
    have hn := eq_of_beq hn
    subst hn
    unfold zx_i at h
    dsimp only at h
    split at h
    · cases h
      exact zx_o_iushr hd hE
    · cases h
  | ineg =>
    have hn := eq_of_beq hn
    subst hn
    unfold zx_i at h
    dsimp only at h
    split at h
    · cases h
      exact zx_o_ineg hd hE
    · cases h
  | ladd =>
    have hn := eq_of_beq hn
    subst hn
    unfold zx_i at h
    dsimp only at h
    split at h
    · cases h
      exact zx_o_ladd hd hE
    · cases h
  | lsub =>
    have hn := eq_of_beq hn
    subst hn
    unfold zx_i at h
    dsimp only at h
    split at h
    · cases h
      exact zx_o_lsub hd hE
    · cases h
  | lmul =>
    have hn := eq_of_beq hn
    subst hn
    unfold zx_i at h
    dsimp only at h
    split at h
    · cases h
      exact zx_o_lmul hd hE
    · cases h
  | land =>
    have hn := eq_of_beq hn
    subst hn
    unfold zx_i at h
    dsimp only at h
    split at h
    · cases h
      exact zx_o_land hd hE
    · cases h
  | lor =>
    have hn := eq_of_beq hn
    subst hn
    unfold zx_i at h
    dsimp only at h
    split at h
    · cases h
      exact zx_o_lor hd hE
    · cases h
  | lxor =>
    have hn := eq_of_beq hn
    subst hn
    unfold zx_i at h
    dsimp only at h
    split at h
    · cases h
      exact zx_o_lxor hd hE
    · cases h
  | ldiv =>
    have hn := eq_of_beq hn
    subst hn
    unfold zx_i at h
    dsimp only at h
    split at h
    · split at h
      · cases h
      · rename_i hg
        cases h
        exact zx_o_ldiv hg hd hE
    · cases h
  | lrem =>
    have hn := eq_of_beq hn
    subst hn
    unfold zx_i at h
    dsimp only at h
    split at h
    · split at h
      · cases h
      · rename_i hg
        cases h
        exact zx_o_lrem hg hd hE
    · cases h
  | lneg =>
    have hn := eq_of_beq hn
    subst hn
    unfold zx_i at h
    dsimp only at h
    split at h
    · cases h
      exact zx_o_lneg hd hE
    · cases h
  | lshl =>
    have hn := eq_of_beq hn
    subst hn
    unfold zx_i at h
    dsimp only at h
    split at h
    · cases h
      exact zx_o_lshl hd hE
    · cases h
  | lshr =>
    have hn := eq_of_beq hn
    subst hn
    unfold zx_i at h
    dsimp only at h
    split at h
    · cases h
      exact zx_o_lshr hd hE
    · cases h
  | lushr =>
    have hn := eq_of_beq hn
    subst hn
    unfold zx_i at h
    dsimp only at h
    split at h
    · cases h
      exact zx_o_lushr hd hE
    · cases h
  | lcmp =>
    have hn := eq_of_beq hn
    subst hn
    unfold zx_i at h
    dsimp only at h
    split at h
    · cases h
      exact zx_o_lcmp hd hE
    · cases h
  | i2l =>
    have hn := eq_of_beq hn
    subst hn
    unfold zx_i at h
    dsimp only at h
    split at h
    · cases h
      exact zx_o_i2l hd hE
    · cases h
  | l2i =>
    have hn := eq_of_beq hn
    subst hn
    unfold zx_i at h
    dsimp only at h
    split at h
    · cases h
      exact zx_o_l2i hd hE
    · cases h
  | i2b =>
    have hn := eq_of_beq hn
    subst hn
    unfold zx_i at h
    dsimp only at h
    split at h
    · cases h
      exact zx_o_i2b hd hE
    · cases h
  | i2s =>
    have hn := eq_of_beq hn
    subst hn
    unfold zx_i at h
    dsimp only at h
    split at h
    · cases h
      exact zx_o_i2s hd hE
    · cases h
  | i2c =>
    have hn := eq_of_beq hn
    subst hn
    unfold zx_i at h
    dsimp only at h
    split at h
    · cases h
      exact zx_o_i2c hd hE
    · cases h
  | dup =>
    have hn := eq_of_beq hn
    subst hn
    unfold zx_i at h
    dsimp only at h
    split at h
    · split at h
      · rename_i hg
        cases h
        exact zx_o_dup hg hd hE
      · cases h
    · cases h
  | pop =>
    have hn := eq_of_beq hn
    subst hn
    unfold zx_i at h
    dsimp only at h
    split at h
    · split at h
      · rename_i hg
        cases h
        exact zx_o_pop hg hd hE
      · cases h
    · cases h
  | dup_x1 =>
    have hn := eq_of_beq hn
    subst hn
    unfold zx_i at h
    dsimp only at h
    split at h
    · split at h
      · rename_i hg
        cases h
        exact zx_o_dup_x1 hg hd hE
      · cases h
    · cases h
  | dup_x2 =>
    have hn := eq_of_beq hn
    subst hn
    unfold zx_i at h
    dsimp only at h
    split at h
    · split at h
      · rename_i hg
        cases h
        exact zx_o_dup_x2 hg hd hE
      · cases h
    · cases h
  | dup2 =>
    have hn := eq_of_beq hn
    subst hn
    unfold zx_i at h
    dsimp only at h
    split at h
    · split at h
      · rename_i hg
        cases h
        exact zx_o_dup2 hg hd hE
      · cases h
    · cases h
  | iconst a =>
    have hn := eq_of_beq hn
    subst hn
    unfold zx_i at h
    dsimp only at h
    cases h
    exact zx_o_iconst hd hE
  | bipush a =>
    have hn := eq_of_beq hn
    subst hn
    unfold zx_i at h
    dsimp only at h
    cases h
    exact zx_o_bipush hd hE
  | sipush a =>
    have hn := eq_of_beq hn
    subst hn
    unfold zx_i at h
    dsimp only at h
    cases h
    exact zx_o_sipush hd hE
  | lconst a =>
    have hn := eq_of_beq hn
    subst hn
    unfold zx_i at h
    dsimp only at h
    cases h
    exact zx_o_lconst hd hE
  | aconst_null =>
    have hn := eq_of_beq hn
    subst hn
    unfold zx_i at h
    dsimp only at h
    cases h
    exact zx_o_aconst_null hd hE
  | iload_n k =>
    have hn := eq_of_beq hn
    subst hn
    unfold zx_i at h
    dsimp only at h
    split at h
    · rename_i hg
      cases h
      exact zx_o_iload_n hg hd hE
    · cases h
  | iload k =>
    have hn := eq_of_beq hn
    subst hn
    unfold zx_i at h
    dsimp only at h
    split at h
    · rename_i hg
      cases h
      exact zx_o_iload hg hd hE
    · cases h
  | lload_n k =>
    have hn := eq_of_beq hn
    subst hn
    unfold zx_i at h
    dsimp only at h
    split at h
    · rename_i hg
      cases h
      exact zx_o_lload_n hg hd hE
    · cases h
  | lload k =>
    have hn := eq_of_beq hn
    subst hn
    unfold zx_i at h
    dsimp only at h
    split at h
    · rename_i hg
      cases h
      exact zx_o_lload hg hd hE
    · cases h
  | aload_n k =>
    have hn := eq_of_beq hn
    subst hn
    unfold zx_i at h
    dsimp only at h
    split at h
    · rename_i hg
      cases h
      exact zx_o_aload_n hg hd hE
    · rename_i hg
      cases h
      exact zx_o_aload_nN hg hd hE
    · cases h
  | istore_n k =>
    have hn := eq_of_beq hn
    subst hn
    unfold zx_i at h
    dsimp only at h
    split at h
    · split at h
      · rename_i hg
        cases h
        exact zx_o_istore_n hg hd hE
      · cases h
    · cases h
  | lstore_n k =>
    have hn := eq_of_beq hn
    subst hn
    unfold zx_i at h
    dsimp only at h
    split at h
    · split at h
      · rename_i hg
        cases h
        exact zx_o_lstore_n hg hd hE
      · cases h
    · cases h
  | astore_n k =>
    have hn := eq_of_beq hn
    subst hn
    unfold zx_i at h
    dsimp only at h
    split at h
    · split at h
      · rename_i hg
        cases h
        exact zx_o_astore_n hg hd hE
      · cases h
    · split at h
      · rename_i hg
        cases h
        exact zx_o_astore_nN hg hd hE
      · cases h
    · cases h
  | aload k =>
    have hn := eq_of_beq hn
    subst hn
    unfold zx_i at h
    dsimp only at h
    split at h
    · rename_i hg
      cases h
      exact zx_o_aload hg hd hE
    · rename_i hg
      cases h
      exact zx_o_aloadN hg hd hE
    · cases h
  | istore k =>
    have hn := eq_of_beq hn
    subst hn
    unfold zx_i at h
    dsimp only at h
    split at h
    · split at h
      · rename_i hg
        cases h
        exact zx_o_istore hg hd hE
      · cases h
    · cases h
  | lstore k =>
    have hn := eq_of_beq hn
    subst hn
    unfold zx_i at h
    dsimp only at h
    split at h
    · split at h
      · rename_i hg
        cases h
        exact zx_o_lstore hg hd hE
      · cases h
    · cases h
  | astore k =>
    have hn := eq_of_beq hn
    subst hn
    unfold zx_i at h
    dsimp only at h
    split at h
    · split at h
      · rename_i hg
        cases h
        exact zx_o_astore hg hd hE
      · cases h
    · split at h
      · rename_i hg
        cases h
        exact zx_o_astoreN hg hd hE
      · cases h
    · cases h
  | iinc k a =>
    have hn := eq_of_beq hn
    subst hn
    unfold zx_i at h
    dsimp only at h
    split at h
    · rename_i hg
      cases h
      exact zx_o_iinc hg hd hE
    · cases h
  | ifCond c off =>
    have hn := eq_of_beq hn
    subst hn
    unfold zx_i at h
    dsimp only at h
    split at h
    · obtain ⟨t, ht, rfl, rfl, rfl, rfl⟩ := zx_br_go (d := d) (j := j) h
      exact zx_o_if ht hd hE
    · cases h
  | if_icmp c off =>
    have hn := eq_of_beq hn
    subst hn
    unfold zx_i at h
    dsimp only at h
    split at h
    · obtain ⟨t, ht, rfl, rfl, rfl, rfl⟩ := zx_br_go (d := d) (j := j) h
      exact zx_o_icmp ht hd hE
    · cases h
  | goto off =>
    have hn := eq_of_beq hn
    subst hn
    unfold zx_i at h
    dsimp only at h
    split at h
    · rename_i t ht
      cases h
      exact zx_o_goto ht hd hE
    · cases h
  | ifnull off =>
    have hn := eq_of_beq hn
    subst hn
    unfold zx_i at h
    dsimp only at h
    split at h
    · obtain ⟨t, ht, rfl, rfl, rfl, rfl⟩ := zx_br_go (d := d) (j := j) h
      exact zx_o_ifnull ht hd hE
    · obtain ⟨t, ht, rfl, rfl, rfl, rfl⟩ := zx_br_go (d := d) (j := j) h
      exact zx_o_ifnull2 hd hE
    · cases h
  | ifnonnull off =>
    have hn := eq_of_beq hn
    subst hn
    unfold zx_i at h
    dsimp only at h
    split at h
    · obtain ⟨t, ht, rfl, rfl, rfl, rfl⟩ := zx_br_go (d := d) (j := j) h
      exact zx_o_ifnonnull2 hd hE
    · obtain ⟨t, ht, rfl, rfl, rfl, rfl⟩ := zx_br_go (d := d) (j := j) h
      exact zx_o_ifnonnull ht hd hE
    · cases h
  | tableswitch dflt lo hi offs =>
    unfold zx_i at h
    dsimp only at h
    split at h
    · split at h
      · rename_i t ht
        cases h
        exact zx_o_table ht hd hE
      · cases h
    · cases h
  | lookupswitch dflt ps =>
    unfold zx_i at h
    dsimp only at h
    split at h
    · split at h
      · rename_i hp
        split at h
        · rename_i t ht
          cases h
          exact zx_o_lookup hp ht hd hE
        · cases h
      · cases h
    · cases h
  | ldc a =>
    have hn := eq_of_beq hn
    subst hn
    unfold zx_i at h
    dsimp only at h
    split at h
    · rename_i hl
      cases h
      exact zx_o_ldc hl hd hE
    · cases h
  | ldc_w a =>
    have hn := eq_of_beq hn
    subst hn
    unfold zx_i at h
    dsimp only at h
    split at h
    · rename_i hl
      cases h
      exact zx_o_ldcw hl hd hE
    · cases h
  | ldc2_w a =>
    have hn := eq_of_beq hn
    subst hn
    unfold zx_i at h
    dsimp only at h
    split at h
    · rename_i hl
      cases h
      exact zx_o_ldc2 hl hd hE
    · cases h
  | getfield a =>
    have hn := eq_of_beq hn
    subst hn
    unfold zx_i at h
    dsimp only at h
    split at h
    · rename_i hl
      split at h
      · rename_i hg
        cases h
        exact zx_o_getfield hl hg.1 hg.2 hd hE
      · cases h
    · cases h
  | putfield a =>
    have hn := eq_of_beq hn
    subst hn
    unfold zx_i at h
    dsimp only at h
    split at h
    · rename_i hl
      split at h
      · rename_i hg
        cases h
        exact zx_o_putfield hl hg.1.1 hg.1.2 hg.2.1 hg.2.2 hd hE
      · cases h
    · cases h
  | getstatic a =>
    have hn := eq_of_beq hn
    subst hn
    unfold zx_i at h
    dsimp only at h
    split at h
    · rename_i hl
      cases h
      exact zx_o_getstatic hl hd hE
    · cases h
  | arraylength =>
    have hn := eq_of_beq hn
    subst hn
    unfold zx_i at h
    dsimp only at h
    split at h
    · split at h
      · rename_i hk
        split at h
        · rename_i hq
          cases h
          exact zx_o_arraylength hk hq hd hE
        · cases h
      · cases h
    · cases h
  | iaload =>
    have hn := eq_of_beq hn
    subst hn
    unfold zx_i at h
    dsimp only at h
    split at h
    · split at h
      · rename_i hk
        split at h
        · rename_i hq
          cases h
          exact zx_o_iaload hk hq.1 hq.2 hd hE
        · cases h
      · cases h
    · cases h
  | laload =>
    have hn := eq_of_beq hn
    subst hn
    unfold zx_i at h
    dsimp only at h
    split at h
    · split at h
      · rename_i hk
        split at h
        · rename_i hq
          cases h
          exact zx_o_laload hk hq.1 hq.2 hd hE
        · cases h
      · cases h
    · cases h
  | baload =>
    have hn := eq_of_beq hn
    subst hn
    unfold zx_i at h
    dsimp only at h
    split at h
    · split at h
      · rename_i hk
        split at h
        · rename_i hq
          cases h
          exact zx_o_baload hk hq.1 hq.2 hd hE
        · cases h
      · rename_i hk
        split at h
        · rename_i hq
          cases h
          exact zx_o_zaload hk hq.1 hq.2 hd hE
        · cases h
      · cases h
    · cases h
  | iastore =>
    have hn := eq_of_beq hn
    subst hn
    unfold zx_i at h
    dsimp only at h
    split at h
    · split at h
      · rename_i hk
        split at h
        · rename_i hq
          cases h
          exact zx_o_iastore hk hq.1 hq.2 hd hE
        · cases h
      · cases h
    · cases h
  | lastore =>
    have hn := eq_of_beq hn
    subst hn
    unfold zx_i at h
    dsimp only at h
    split at h
    · split at h
      · rename_i hk
        split at h
        · rename_i hq
          cases h
          exact zx_o_lastore hk hq.1 hq.2 hd hE
        · cases h
      · cases h
    · cases h
  | bastore =>
    have hn := eq_of_beq hn
    subst hn
    unfold zx_i at h
    dsimp only at h
    split at h
    · split at h
      · rename_i hk
        split at h
        · rename_i hq
          cases h
          exact zx_o_bastore hk hq.1 hq.2 hd hE
        · cases h
      · rename_i hk
        split at h
        · rename_i hq
          cases h
          exact zx_o_zastore hk hq.1 hq.2 hd hE
        · cases h
      · cases h
    · cases h
  | new a =>
    have hn := eq_of_beq hn
    subst hn
    unfold zx_i at h
    dsimp only at h
    split at h
    · rename_i hl
      split at h
      · rename_i h9
        cases h
        exact zx_o_new h9 hl hd hE
      · cases h
    · cases h
  | newarray t =>
    have hn := eq_of_beq hn
    subst hn
    unfold zx_i at h
    dsimp only at h
    split at h
    · split at h
      · rename_i hg
        cases h
        exact zx_o_newarray hg.1.1 hg.1.2 hg.2 hd hE
      · cases h
    · cases h
  | ireturn =>
    have hn := eq_of_beq hn
    subst hn
    unfold zx_i at h
    dsimp only at h
    split at h
    · split at h <;> cases h
    · cases h
  | lreturn =>
    have hn := eq_of_beq hn
    subst hn
    unfold zx_i at h
    dsimp only at h
    split at h
    · split at h <;> cases h
    · cases h
  | return_ =>
    have hn := eq_of_beq hn
    subst hn
    unfold zx_i at h
    dsimp only at h
    split at h
    · split at h <;> cases h
    · cases h
  | areturn =>
    have hn := eq_of_beq hn
    subst hn
    unfold zx_i at h
    dsimp only at h
    split at h
    · split at h <;> cases h
    · split at h <;> cases h
    · cases h
  | invokevirtual a =>
    have hn := eq_of_beq hn
    subst hn
    unfold zx_i at h
    dsimp only at h
    exact (zx_inv_no h).elim
  | invokespecial a =>
    have hn := eq_of_beq hn
    subst hn
    unfold zx_i at h
    dsimp only at h
    exact (zx_inv_no h).elim
  | invokestatic a =>
    have hn := eq_of_beq hn
    subst hn
    unfold zx_i at h
    dsimp only at h
    exact (zx_inv_no h).elim
  | _ => exact absurd hn (by simp [zx_len])
theorem zx_ri_ok {r : Option FieldType} {x : Int32} (h : zx_ri r x = true) : ∃ ty, r = some ty ∧ narrow ty (.int x) = .int x := by
  unfold zx_ri at h
  split at h
  · exact ⟨_, rfl, rfl⟩
  · refine ⟨_, rfl, ?_⟩
    simp only [Bool.or_eq_true, beq_iff_eq] at h
    rcases h with h | h <;> subst h <;> decide
  · cases h
theorem zx_rr_ok {r : Option FieldType} (h : zx_rr r = true) : ∃ rt, r = some rt ∧ ((∃ n, rt = .object n) ∨ ∃ t, rt = .array t) := by
  unfold zx_rr at h
  split at h
  · exact ⟨_, rfl, Or.inl ⟨_, rfl⟩⟩
  · exact ⟨_, rfl, Or.inr ⟨_, rfl⟩⟩
  · cases h
set_option maxHeartbeats 4000000 in
/-- the return -/
theorem zx_step_ret {d j pc : Nat} {ls : List (Option Value)} {st : List Value} {w : zx_W} {v : Option Value} (h : zx_step j pc ls st w = some (.inr (.inl v))) : zx_E d j pc ls st w v w := by
  have h0 := zx_step_at h
  clear h
  obtain ⟨i, n, hd, hn, h⟩ := h0
  cases i with
  | ireturn =>
    have hn := eq_of_beq hn
    subst hn
    unfold zx_i at h
    dsimp only at h
    split at h
    · split at h
      · rename_i hg
        cases h
        exact zx_ret (v := some (.int _)) ⟨hd, zx_ri_ok hg⟩
      · cases h
    · cases h
  | lreturn =>
    have hn := eq_of_beq hn
    subst hn
    unfold zx_i at h
    dsimp only at h
    split at h
    · split at h
      · rename_i hg
        cases h
        exact zx_ret (v := some (.long _)) ⟨hd, hg⟩
      · cases h
    · cases h
  | areturn =>
    have hn := eq_of_beq hn
    subst hn
    unfold zx_i at h
    dsimp only at h
    split at h
    · split at h
      · rename_i hg
        cases h
        exact zx_ret (v := some (.ref _)) ⟨hd, zx_rr_ok hg⟩
      · cases h
    · split at h
      · rename_i hg
        cases h
        exact zx_ret (v := some .null) ⟨hd, zx_rr_ok hg⟩
      · cases h
    · cases h
  | return_ =>
    have hn := eq_of_beq hn
    subst hn
    unfold zx_i at h
    dsimp only at h
    split at h
    · split at h
      · rename_i hg
        cases h
        exact zx_ret (v := none) ⟨hd, hg⟩
      · cases h
    · cases h
  | invokevirtual a =>
    have hn := eq_of_beq hn
    subst hn
    unfold zx_i at h
    dsimp only at h
    exact (zx_inv_nr h).elim
  | invokespecial a =>
    have hn := eq_of_beq hn
    subst hn
    unfold zx_i at h
    dsimp only at h
    exact (zx_inv_nr h).elim
  | invokestatic a =>
    have hn := eq_of_beq hn
    subst hn
    unfold zx_i at h
    dsimp only at h
    exact (zx_inv_nr h).elim
  | _ =>
    exfalso
    revert h
    unfold zx_i
    dsimp only
    repeat' (first | (intro h; exact zx_br_no h) | (intro h; cases h; done) | split)
/-- a call -/
def zx_iv (kd n : Nat) : Instr := if kd = 0 then .invokevirtual n else if kd = 1 then .invokespecial n else .invokestatic n
theorem zx_inv_at {j kd n pc k pc' : Nat} {st as rest : List Value} {w : zx_W} (h : zx_inv j kd n pc st w = some (.inr (.inr (k, as, rest, pc')))) : zx_tg (zm_o j) n = some k ∧ zx_ck k = kd ∧ st = as.reverse ++ rest ∧ as.length = zx_na k ∧ (rest.map fun v => v.category).sum ≤ 8 ∧ zx_rcb kd k as w = true ∧ pc' = pc + 3 := by
  unfold zx_inv at h
  split at h
  · rename_i k' hk
    split at h
    · rename_i hg
      cases h
      refine ⟨hk, hg.1.1, ?_, ?_, hg.2.1, hg.2.2, rfl⟩
      · rw [List.reverse_reverse, List.take_append_drop]
      · rw [List.length_reverse, List.length_take]
        have := hg.1.2
        omega
    · cases h
  · cases h
set_option maxHeartbeats 4000000 in
theorem zx_step_call {j pc k pc' : Nat} {ls : List (Option Value)} {st as rest : List Value} {w : zx_W} (h : zx_step j pc ls st w = some (.inr (.inr (k, as, rest, pc')))) : ∃ n, decode (zm_cc j) pc = .ok (zx_iv (zx_ck k) n, 3) ∧ zx_tg (zm_o j) n = some k ∧ st = as.reverse ++ rest ∧ as.length = zx_na k ∧ (rest.map fun v => v.category).sum ≤ 8 ∧ zx_rcb (zx_ck k) k as w = true ∧ pc' = pc + 3 := by
  have h0 := zx_step_at h
  clear h
  obtain ⟨i, n, hd, hn, h⟩ := h0
  cases i with
  | invokevirtual a =>
    have hn := eq_of_beq hn
    subst hn
    unfold zx_i at h
    dsimp only at h
    obtain ⟨h1, h2, h3, h4, h5, h6, h7⟩ := zx_inv_at h
    exact ⟨a, by rw [h2]; exact hd, h1, h3, h4, h5, by rw [h2]; exact h6, h7⟩
  | invokespecial a =>
    have hn := eq_of_beq hn
    subst hn
    unfold zx_i at h
    dsimp only at h
    obtain ⟨h1, h2, h3, h4, h5, h6, h7⟩ := zx_inv_at h
    exact ⟨a, by rw [h2]; exact hd, h1, h3, h4, h5, by rw [h2]; exact h6, h7⟩
  | invokestatic a =>
    have hn := eq_of_beq hn
    subst hn
    unfold zx_i at h
    dsimp only at h
    obtain ⟨h1, h2, h3, h4, h5, h6, h7⟩ := zx_inv_at h
    exact ⟨a, by rw [h2]; exact hd, h1, h3, h4, h5, by rw [h2]; exact h6, h7⟩
  | _ =>
    exfalso
    revert h
    unfold zx_i
    dsimp only
    repeat' (first | (intro h; exact zx_br_no h) | (intro h; cases h; done) | split)
