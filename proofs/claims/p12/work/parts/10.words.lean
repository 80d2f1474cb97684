/-! TABLES: classes, methods, links; by program out of the printed names -/
def zc_nm : Nat → String := fun c => match c with
  | 0 => RX0
  | 1 => RX1
  | 2 => RX2
  | 3 => RX3
  | 4 => RX4
  | 5 => RX5
  | 6 => RX6
  | 7 => RX7
  | 8 => RX8
  | 9 => RX9
  | 10 => RX10
  | 11 => RX11
  | 12 => RX12
  | 13 => RJ7
  | 14 => RJ9
  | _ => RL
def zc_T : Nat → u_T := fun c => match c with
  | 0 => TX0
  | 1 => TX1
  | 2 => TX2
  | 3 => TX3
  | 4 => TX4
  | 5 => TX5
  | 6 => TX6
  | 7 => TX7
  | 8 => TX8
  | 9 => TX9
  | 10 => TX10
  | 11 => TX11
  | _ => TX12
def zt_n : Nat → Nat := fun c => match c with
  | 0 => 9
  | 1 => 6
  | 2 => 6
  | 3 => 6
  | 4 => 2
  | 5 => 4
  | 6 => 19
  | 7 => 8
  | 8 => 7
  | 9 => 10
  | 10 => 13
  | 11 => 17
  | _ => 64
def zt_ty : Nat → Nat → FieldType := fun c => match c with
  | 0 => tyX0
  | 1 => tyX1
  | 2 => tyX2
  | 3 => tyX3
  | 4 => tyX4
  | 5 => tyX5
  | 6 => tyX6
  | 7 => tyX7
  | 8 => tyX8
  | 9 => tyX9
  | 10 => tyX10
  | 11 => tyX11
  | _ => tyX12
def zm_ws : List Cond := lw_tbl.filter goodWord
theorem zm_good : GoodIn lw_tbl zm_ws := fun w h => ⟨(List.mem_filter.mp h).1, good_of_word (List.mem_filter.mp h).2⟩
theorem zm_self : GoodIn zm_ws zm_ws := fun w h => ⟨h, (zm_good w h).2⟩
theorem zr_1 {w : Cond} (i : Nat) (hi : tables_1_1[i]? = some w) (hg : goodWord w = true) : w ∈ zm_ws := by
  have h := List.mem_of_getElem? hi
  exact List.mem_filter.mpr ⟨(List.mem_append_right _ (List.mem_append_left _ h)), hg⟩
theorem zr_2 {w : Cond} (i : Nat) (hi : tables_1_2[i]? = some w) (hg : goodWord w = true) : w ∈ zm_ws := by
  have h := List.mem_of_getElem? hi
  exact List.mem_filter.mpr ⟨(List.mem_append_right _ (List.mem_append_right _ (List.mem_append_left _ h))), hg⟩
theorem zr_3 {w : Cond} (i : Nat) (hi : tables_1_3[i]? = some w) (hg : goodWord w = true) : w ∈ zm_ws := by
  have h := List.mem_of_getElem? hi
  exact List.mem_filter.mpr ⟨(List.mem_append_right _ (List.mem_append_right _ (List.mem_append_right _ (List.mem_append_left _ h)))), hg⟩
theorem zr_4 {w : Cond} (i : Nat) (hi : tables_1_4[i]? = some w) (hg : goodWord w = true) : w ∈ zm_ws := by
  have h := List.mem_of_getElem? hi
  exact List.mem_filter.mpr ⟨(List.mem_append_right _ (List.mem_append_right _ (List.mem_append_right _ (List.mem_append_right _ (List.mem_append_left _ h))))), hg⟩
theorem zr_5 {w : Cond} (i : Nat) (hi : tables_1_5[i]? = some w) (hg : goodWord w = true) : w ∈ zm_ws := by
  have h := List.mem_of_getElem? hi
  exact List.mem_filter.mpr ⟨(List.mem_append_right _ (List.mem_append_right _ (List.mem_append_right _ (List.mem_append_right _ (List.mem_append_right _ (List.mem_append_left _ h)))))), hg⟩
theorem zr_6 {w : Cond} (i : Nat) (hi : tables_1_6[i]? = some w) (hg : goodWord w = true) : w ∈ zm_ws := by
  have h := List.mem_of_getElem? hi
  exact List.mem_filter.mpr ⟨(List.mem_append_right _ (List.mem_append_right _ (List.mem_append_right _ (List.mem_append_right _ (List.mem_append_right _ (List.mem_append_right _ (List.mem_append_left _ h))))))), hg⟩
theorem zr_7 {w : Cond} (i : Nat) (hi : tables_1_7[i]? = some w) (hg : goodWord w = true) : w ∈ zm_ws := by
  have h := List.mem_of_getElem? hi
  exact List.mem_filter.mpr ⟨(List.mem_append_right _ (List.mem_append_right _ (List.mem_append_right _ (List.mem_append_right _ (List.mem_append_right _ (List.mem_append_right _ (List.mem_append_right _ (List.mem_append_left _ h)))))))), hg⟩
theorem zr_8 {w : Cond} (i : Nat) (hi : tables_1_8[i]? = some w) (hg : goodWord w = true) : w ∈ zm_ws := by
  have h := List.mem_of_getElem? hi
  exact List.mem_filter.mpr ⟨(List.mem_append_right _ (List.mem_append_right _ (List.mem_append_right _ (List.mem_append_right _ (List.mem_append_right _ (List.mem_append_right _ (List.mem_append_right _ (List.mem_append_right _ h)))))))), hg⟩
theorem zq_1 {q : MethodName × Nat} (i : Nat) (hi : lw_privs_1[i]? = some q) : Cond.selects q.1.cls q.1 q.1 ∈ zm_ws := by
  have h := List.mem_of_getElem? hi
  have h2 : q ∈ lw_privs := (List.mem_append_left _ h)
  exact List.mem_filter.mpr ⟨List.mem_append_left _ (List.mem_map.mpr ⟨q, h2, rfl⟩), rfl⟩
theorem zq_2 {q : MethodName × Nat} (i : Nat) (hi : lw_privs_2[i]? = some q) : Cond.selects q.1.cls q.1 q.1 ∈ zm_ws := by
  have h := List.mem_of_getElem? hi
  have h2 : q ∈ lw_privs := (List.mem_append_right _ (List.mem_append_left _ h))
  exact List.mem_filter.mpr ⟨List.mem_append_left _ (List.mem_map.mpr ⟨q, h2, rfl⟩), rfl⟩
theorem zq_3 {q : MethodName × Nat} (i : Nat) (hi : lw_privs_3[i]? = some q) : Cond.selects q.1.cls q.1 q.1 ∈ zm_ws := by
  have h := List.mem_of_getElem? hi
  have h2 : q ∈ lw_privs := (List.mem_append_right _ (List.mem_append_right _ (List.mem_append_left _ h)))
  exact List.mem_filter.mpr ⟨List.mem_append_left _ (List.mem_map.mpr ⟨q, h2, rfl⟩), rfl⟩
theorem zq_4 {q : MethodName × Nat} (i : Nat) (hi : lw_privs_4[i]? = some q) : Cond.selects q.1.cls q.1 q.1 ∈ zm_ws := by
  have h := List.mem_of_getElem? hi
  have h2 : q ∈ lw_privs := (List.mem_append_right _ (List.mem_append_right _ (List.mem_append_right _ (List.mem_append_left _ h))))
  exact List.mem_filter.mpr ⟨List.mem_append_left _ (List.mem_map.mpr ⟨q, h2, rfl⟩), rfl⟩
theorem zq_5 {q : MethodName × Nat} (i : Nat) (hi : lw_privs_5[i]? = some q) : Cond.selects q.1.cls q.1 q.1 ∈ zm_ws := by
  have h := List.mem_of_getElem? hi
  have h2 : q ∈ lw_privs := (List.mem_append_right _ (List.mem_append_right _ (List.mem_append_right _ (List.mem_append_right _ (List.mem_append_left _ h)))))
  exact List.mem_filter.mpr ⟨List.mem_append_left _ (List.mem_map.mpr ⟨q, h2, rfl⟩), rfl⟩
theorem zq_6 {q : MethodName × Nat} (i : Nat) (hi : lw_privs_6[i]? = some q) : Cond.selects q.1.cls q.1 q.1 ∈ zm_ws := by
  have h := List.mem_of_getElem? hi
  have h2 : q ∈ lw_privs := (List.mem_append_right _ (List.mem_append_right _ (List.mem_append_right _ (List.mem_append_right _ (List.mem_append_right _ (List.mem_append_left _ h))))))
  exact List.mem_filter.mpr ⟨List.mem_append_left _ (List.mem_map.mpr ⟨q, h2, rfl⟩), rfl⟩
theorem zq_7 {q : MethodName × Nat} (i : Nat) (hi : lw_privs_7[i]? = some q) : Cond.selects q.1.cls q.1 q.1 ∈ zm_ws := by
  have h := List.mem_of_getElem? hi
  have h2 : q ∈ lw_privs := (List.mem_append_right _ (List.mem_append_right _ (List.mem_append_right _ (List.mem_append_right _ (List.mem_append_right _ (List.mem_append_right _ (List.mem_append_left _ h)))))))
  exact List.mem_filter.mpr ⟨List.mem_append_left _ (List.mem_map.mpr ⟨q, h2, rfl⟩), rfl⟩
theorem zq_8 {q : MethodName × Nat} (i : Nat) (hi : lw_privs_8[i]? = some q) : Cond.selects q.1.cls q.1 q.1 ∈ zm_ws := by
  have h := List.mem_of_getElem? hi
  have h2 : q ∈ lw_privs := (List.mem_append_right _ (List.mem_append_right _ (List.mem_append_right _ (List.mem_append_right _ (List.mem_append_right _ (List.mem_append_right _ (List.mem_append_right _ (List.mem_append_left _ h))))))))
  exact List.mem_filter.mpr ⟨List.mem_append_left _ (List.mem_map.mpr ⟨q, h2, rfl⟩), rfl⟩
theorem zq_9 {q : MethodName × Nat} (i : Nat) (hi : lw_privs_9[i]? = some q) : Cond.selects q.1.cls q.1 q.1 ∈ zm_ws := by
  have h := List.mem_of_getElem? hi
  have h2 : q ∈ lw_privs := (List.mem_append_right _ (List.mem_append_right _ (List.mem_append_right _ (List.mem_append_right _ (List.mem_append_right _ (List.mem_append_right _ (List.mem_append_right _ (List.mem_append_right _ h))))))))
  exact List.mem_filter.mpr ⟨List.mem_append_left _ (List.mem_map.mpr ⟨q, h2, rfl⟩), rfl⟩
theorem zr_X0 : ∀ w ∈ wsX00, w ∈ zm_ws := List.forall_mem_cons.mpr ⟨(zr_2 167 rfl rfl), List.forall_mem_cons.mpr ⟨(zr_2 169 rfl rfl), List.forall_mem_cons.mpr ⟨(zr_2 171 rfl rfl), List.forall_mem_cons.mpr ⟨(zr_2 173 rfl rfl), List.forall_mem_cons.mpr ⟨(zr_2 175 rfl rfl), List.forall_mem_cons.mpr ⟨(zr_2 177 rfl rfl), List.forall_mem_cons.mpr ⟨(zr_2 179 rfl rfl), List.forall_mem_cons.mpr ⟨(zr_2 181 rfl rfl), List.forall_mem_cons.mpr ⟨(zr_2 183 rfl rfl), fun _ h => absurd h List.not_mem_nil⟩⟩⟩⟩⟩⟩⟩⟩⟩
theorem zr_X1 : ∀ w ∈ wsX10, w ∈ zm_ws := List.forall_mem_cons.mpr ⟨(zr_2 204 rfl rfl), List.forall_mem_cons.mpr ⟨(zr_2 206 rfl rfl), List.forall_mem_cons.mpr ⟨(zr_2 208 rfl rfl), List.forall_mem_cons.mpr ⟨(zr_2 210 rfl rfl), List.forall_mem_cons.mpr ⟨(zr_2 212 rfl rfl), List.forall_mem_cons.mpr ⟨(zr_2 214 rfl rfl), fun _ h => absurd h List.not_mem_nil⟩⟩⟩⟩⟩⟩
theorem zr_X2 : ∀ w ∈ wsX20, w ∈ zm_ws := List.forall_mem_cons.mpr ⟨(zr_2 61 rfl rfl), List.forall_mem_cons.mpr ⟨(zr_2 63 rfl rfl), List.forall_mem_cons.mpr ⟨(zr_2 65 rfl rfl), List.forall_mem_cons.mpr ⟨(zr_2 67 rfl rfl), List.forall_mem_cons.mpr ⟨(zr_2 69 rfl rfl), List.forall_mem_cons.mpr ⟨(zr_2 71 rfl rfl), fun _ h => absurd h List.not_mem_nil⟩⟩⟩⟩⟩⟩
theorem zr_X3 : ∀ w ∈ wsX30, w ∈ zm_ws := List.forall_mem_cons.mpr ⟨(zr_1 159 rfl rfl), List.forall_mem_cons.mpr ⟨(zr_1 161 rfl rfl), List.forall_mem_cons.mpr ⟨(zr_1 163 rfl rfl), List.forall_mem_cons.mpr ⟨(zr_1 165 rfl rfl), List.forall_mem_cons.mpr ⟨(zr_1 167 rfl rfl), List.forall_mem_cons.mpr ⟨(zr_1 169 rfl rfl), fun _ h => absurd h List.not_mem_nil⟩⟩⟩⟩⟩⟩
theorem zr_X4 : ∀ w ∈ wsX40, w ∈ zm_ws := List.forall_mem_cons.mpr ⟨(zr_2 125 rfl rfl), List.forall_mem_cons.mpr ⟨(zr_2 127 rfl rfl), fun _ h => absurd h List.not_mem_nil⟩⟩
theorem zr_X5 : ∀ w ∈ wsX50, w ∈ zm_ws := List.forall_mem_cons.mpr ⟨(zr_2 143 rfl rfl), List.forall_mem_cons.mpr ⟨(zr_2 145 rfl rfl), List.forall_mem_cons.mpr ⟨(zr_2 147 rfl rfl), List.forall_mem_cons.mpr ⟨(zr_2 149 rfl rfl), fun _ h => absurd h List.not_mem_nil⟩⟩⟩⟩
theorem zr_X6 : ∀ w ∈ wsX60, w ∈ zm_ws := List.forall_mem_cons.mpr ⟨(zr_1 100 rfl rfl), List.forall_mem_cons.mpr ⟨(zr_1 102 rfl rfl), List.forall_mem_cons.mpr ⟨(zr_1 104 rfl rfl), List.forall_mem_cons.mpr ⟨(zr_1 106 rfl rfl), List.forall_mem_cons.mpr ⟨(zr_1 108 rfl rfl), List.forall_mem_cons.mpr ⟨(zr_1 110 rfl rfl), List.forall_mem_cons.mpr ⟨(zr_1 112 rfl rfl), List.forall_mem_cons.mpr ⟨(zr_1 114 rfl rfl), List.forall_mem_cons.mpr ⟨(zr_1 116 rfl rfl), List.forall_mem_cons.mpr ⟨(zr_1 118 rfl rfl), List.forall_mem_cons.mpr ⟨(zr_1 120 rfl rfl), List.forall_mem_cons.mpr ⟨(zr_1 122 rfl rfl), List.forall_mem_cons.mpr ⟨(zr_1 124 rfl rfl), List.forall_mem_cons.mpr ⟨(zr_1 126 rfl rfl), List.forall_mem_cons.mpr ⟨(zr_1 128 rfl rfl), List.forall_mem_cons.mpr ⟨(zr_1 130 rfl rfl), List.forall_mem_cons.mpr ⟨(zr_1 132 rfl rfl), List.forall_mem_cons.mpr ⟨(zr_1 134 rfl rfl), List.forall_mem_cons.mpr ⟨(zr_1 136 rfl rfl), fun _ h => absurd h List.not_mem_nil⟩⟩⟩⟩⟩⟩⟩⟩⟩⟩⟩⟩⟩⟩⟩⟩⟩⟩⟩
theorem zr_X7 : ∀ w ∈ wsX70, w ∈ zm_ws := List.forall_mem_cons.mpr ⟨(zr_2 31 rfl rfl), List.forall_mem_cons.mpr ⟨(zr_2 33 rfl rfl), List.forall_mem_cons.mpr ⟨(zr_2 35 rfl rfl), List.forall_mem_cons.mpr ⟨(zr_2 37 rfl rfl), List.forall_mem_cons.mpr ⟨(zr_2 39 rfl rfl), List.forall_mem_cons.mpr ⟨(zr_2 41 rfl rfl), List.forall_mem_cons.mpr ⟨(zr_2 43 rfl rfl), List.forall_mem_cons.mpr ⟨(zr_2 45 rfl rfl), fun _ h => absurd h List.not_mem_nil⟩⟩⟩⟩⟩⟩⟩⟩
theorem zr_X8 : ∀ w ∈ wsX80, w ∈ zm_ws := List.forall_mem_cons.mpr ⟨(zr_2 90 rfl rfl), List.forall_mem_cons.mpr ⟨(zr_2 92 rfl rfl), List.forall_mem_cons.mpr ⟨(zr_2 94 rfl rfl), List.forall_mem_cons.mpr ⟨(zr_2 96 rfl rfl), List.forall_mem_cons.mpr ⟨(zr_2 98 rfl rfl), List.forall_mem_cons.mpr ⟨(zr_2 100 rfl rfl), List.forall_mem_cons.mpr ⟨(zr_2 102 rfl rfl), fun _ h => absurd h List.not_mem_nil⟩⟩⟩⟩⟩⟩⟩
theorem zr_X9 : ∀ w ∈ wsX90, w ∈ zm_ws := List.forall_mem_cons.mpr ⟨(zr_1 192 rfl rfl), List.forall_mem_cons.mpr ⟨(zr_1 194 rfl rfl), List.forall_mem_cons.mpr ⟨(zr_1 196 rfl rfl), List.forall_mem_cons.mpr ⟨(zr_1 198 rfl rfl), List.forall_mem_cons.mpr ⟨(zr_1 200 rfl rfl), List.forall_mem_cons.mpr ⟨(zr_1 202 rfl rfl), List.forall_mem_cons.mpr ⟨(zr_1 204 rfl rfl), List.forall_mem_cons.mpr ⟨(zr_1 206 rfl rfl), List.forall_mem_cons.mpr ⟨(zr_1 208 rfl rfl), List.forall_mem_cons.mpr ⟨(zr_1 210 rfl rfl), fun _ h => absurd h List.not_mem_nil⟩⟩⟩⟩⟩⟩⟩⟩⟩⟩
theorem zr_X10 : ∀ w ∈ wsX100, w ∈ zm_ws := List.forall_mem_cons.mpr ⟨(zr_1 234 rfl rfl), List.forall_mem_cons.mpr ⟨(zr_1 236 rfl rfl), List.forall_mem_cons.mpr ⟨(zr_1 238 rfl rfl), List.forall_mem_cons.mpr ⟨(zr_2 0 rfl rfl), List.forall_mem_cons.mpr ⟨(zr_2 2 rfl rfl), List.forall_mem_cons.mpr ⟨(zr_2 4 rfl rfl), List.forall_mem_cons.mpr ⟨(zr_2 6 rfl rfl), List.forall_mem_cons.mpr ⟨(zr_2 8 rfl rfl), List.forall_mem_cons.mpr ⟨(zr_2 10 rfl rfl), List.forall_mem_cons.mpr ⟨(zr_2 12 rfl rfl), List.forall_mem_cons.mpr ⟨(zr_2 14 rfl rfl), List.forall_mem_cons.mpr ⟨(zr_2 16 rfl rfl), List.forall_mem_cons.mpr ⟨(zr_2 18 rfl rfl), fun _ h => absurd h List.not_mem_nil⟩⟩⟩⟩⟩⟩⟩⟩⟩⟩⟩⟩⟩
theorem zr_X11 : ∀ w ∈ wsX110, w ∈ zm_ws := List.forall_mem_cons.mpr ⟨(zr_2 234 rfl rfl), List.forall_mem_cons.mpr ⟨(zr_2 236 rfl rfl), List.forall_mem_cons.mpr ⟨(zr_2 238 rfl rfl), List.forall_mem_cons.mpr ⟨(zr_3 0 rfl rfl), List.forall_mem_cons.mpr ⟨(zr_3 2 rfl rfl), List.forall_mem_cons.mpr ⟨(zr_3 4 rfl rfl), List.forall_mem_cons.mpr ⟨(zr_3 6 rfl rfl), List.forall_mem_cons.mpr ⟨(zr_3 8 rfl rfl), List.forall_mem_cons.mpr ⟨(zr_3 10 rfl rfl), List.forall_mem_cons.mpr ⟨(zr_3 12 rfl rfl), List.forall_mem_cons.mpr ⟨(zr_3 14 rfl rfl), List.forall_mem_cons.mpr ⟨(zr_3 16 rfl rfl), List.forall_mem_cons.mpr ⟨(zr_3 18 rfl rfl), List.forall_mem_cons.mpr ⟨(zr_3 20 rfl rfl), List.forall_mem_cons.mpr ⟨(zr_3 22 rfl rfl), List.forall_mem_cons.mpr ⟨(zr_3 24 rfl rfl), List.forall_mem_cons.mpr ⟨(zr_3 26 rfl rfl), fun _ h => absurd h List.not_mem_nil⟩⟩⟩⟩⟩⟩⟩⟩⟩⟩⟩⟩⟩⟩⟩⟩⟩
theorem zr_X12 : ∀ w ∈ wsX120, w ∈ zm_ws := List.forall_mem_cons.mpr ⟨(zr_6 133 rfl rfl), List.forall_mem_cons.mpr ⟨(zr_6 135 rfl rfl), List.forall_mem_cons.mpr ⟨(zr_6 137 rfl rfl), List.forall_mem_cons.mpr ⟨(zr_6 139 rfl rfl), List.forall_mem_cons.mpr ⟨(zr_6 141 rfl rfl), List.forall_mem_cons.mpr ⟨(zr_6 143 rfl rfl), List.forall_mem_cons.mpr ⟨(zr_6 145 rfl rfl), List.forall_mem_cons.mpr ⟨(zr_6 147 rfl rfl), List.forall_mem_cons.mpr ⟨(zr_6 149 rfl rfl), List.forall_mem_cons.mpr ⟨(zr_6 151 rfl rfl), List.forall_mem_cons.mpr ⟨(zr_6 153 rfl rfl), List.forall_mem_cons.mpr ⟨(zr_6 155 rfl rfl), List.forall_mem_cons.mpr ⟨(zr_6 157 rfl rfl), List.forall_mem_cons.mpr ⟨(zr_6 159 rfl rfl), List.forall_mem_cons.mpr ⟨(zr_6 161 rfl rfl), List.forall_mem_cons.mpr ⟨(zr_6 163 rfl rfl), List.forall_mem_cons.mpr ⟨(zr_6 165 rfl rfl), List.forall_mem_cons.mpr ⟨(zr_6 167 rfl rfl), List.forall_mem_cons.mpr ⟨(zr_6 169 rfl rfl), List.forall_mem_cons.mpr ⟨(zr_6 171 rfl rfl), List.forall_mem_cons.mpr ⟨(zr_6 173 rfl rfl), List.forall_mem_cons.mpr ⟨(zr_6 175 rfl rfl), List.forall_mem_cons.mpr ⟨(zr_6 177 rfl rfl), List.forall_mem_cons.mpr ⟨(zr_6 179 rfl rfl), List.forall_mem_cons.mpr ⟨(zr_6 181 rfl rfl), List.forall_mem_cons.mpr ⟨(zr_6 183 rfl rfl), List.forall_mem_cons.mpr ⟨(zr_6 185 rfl rfl), List.forall_mem_cons.mpr ⟨(zr_6 187 rfl rfl), List.forall_mem_cons.mpr ⟨(zr_6 189 rfl rfl), List.forall_mem_cons.mpr ⟨(zr_6 191 rfl rfl), List.forall_mem_cons.mpr ⟨(zr_6 193 rfl rfl), List.forall_mem_cons.mpr ⟨(zr_6 195 rfl rfl), List.forall_mem_cons.mpr ⟨(zr_6 197 rfl rfl), List.forall_mem_cons.mpr ⟨(zr_6 199 rfl rfl), List.forall_mem_cons.mpr ⟨(zr_6 201 rfl rfl), List.forall_mem_cons.mpr ⟨(zr_6 203 rfl rfl), List.forall_mem_cons.mpr ⟨(zr_6 205 rfl rfl), List.forall_mem_cons.mpr ⟨(zr_6 207 rfl rfl), List.forall_mem_cons.mpr ⟨(zr_6 209 rfl rfl), List.forall_mem_cons.mpr ⟨(zr_6 211 rfl rfl), List.forall_mem_cons.mpr ⟨(zr_6 213 rfl rfl), List.forall_mem_cons.mpr ⟨(zr_6 215 rfl rfl), List.forall_mem_cons.mpr ⟨(zr_6 217 rfl rfl), List.forall_mem_cons.mpr ⟨(zr_6 219 rfl rfl), List.forall_mem_cons.mpr ⟨(zr_6 221 rfl rfl), List.forall_mem_cons.mpr ⟨(zr_6 223 rfl rfl), List.forall_mem_cons.mpr ⟨(zr_6 225 rfl rfl), List.forall_mem_cons.mpr ⟨(zr_6 227 rfl rfl), List.forall_mem_cons.mpr ⟨(zr_6 229 rfl rfl), List.forall_mem_cons.mpr ⟨(zr_6 231 rfl rfl), List.forall_mem_cons.mpr ⟨(zr_6 233 rfl rfl), List.forall_mem_cons.mpr ⟨(zr_6 235 rfl rfl), List.forall_mem_cons.mpr ⟨(zr_6 237 rfl rfl), List.forall_mem_cons.mpr ⟨(zr_6 239 rfl rfl), List.forall_mem_cons.mpr ⟨(zr_7 1 rfl rfl), List.forall_mem_cons.mpr ⟨(zr_7 3 rfl rfl), List.forall_mem_cons.mpr ⟨(zr_7 5 rfl rfl), List.forall_mem_cons.mpr ⟨(zr_7 7 rfl rfl), List.forall_mem_cons.mpr ⟨(zr_7 9 rfl rfl), List.forall_mem_cons.mpr ⟨(zr_7 11 rfl rfl), List.forall_mem_cons.mpr ⟨(zr_7 13 rfl rfl), List.forall_mem_cons.mpr ⟨(zr_7 15 rfl rfl), List.forall_mem_cons.mpr ⟨(zr_7 17 rfl rfl), List.forall_mem_cons.mpr ⟨(zr_7 19 rfl rfl), fun _ h => absurd h List.not_mem_nil⟩⟩⟩⟩⟩⟩⟩⟩⟩⟩⟩⟩⟩⟩⟩⟩⟩⟩⟩⟩⟩⟩⟩⟩⟩⟩⟩⟩⟩⟩⟩⟩⟩⟩⟩⟩⟩⟩⟩⟩⟩⟩⟩⟩⟩⟩⟩⟩⟩⟩⟩⟩⟩⟩⟩⟩⟩⟩⟩⟩⟩⟩⟩⟩
theorem zt_cl : ∀ c, c < 13 → vwCl[c]? = some (zc_nm c, zc_T c, zt_n c)
  | 0, _ => rfl
  | 1, _ => rfl
  | 2, _ => rfl
  | 3, _ => rfl
  | 4, _ => rfl
  | 5, _ => rfl
  | 6, _ => rfl
  | 7, _ => rfl
  | 8, _ => rfl
  | 9, _ => rfl
  | 10, _ => rfl
  | 11, _ => rfl
  | 12, _ => rfl
  | n + 13, h => absurd h (by omega)
theorem zt_ok : ∀ c, c < 13 → (∀ k, k < zt_n c → parseFieldDescriptor (zc_T c k).2.2.1 = some (zt_ty c k)) ∧ (∀ a, a < zt_n c → ∀ b, b < zt_n c → a ≠ b → (zc_T c a).2.1 ≠ (zc_T c b).2.1) ∧ (∀ w ∈ u_ws (zc_nm c) (zc_T c) (zt_n c), w ∈ zm_ws)
  | 0, _ => ⟨tyX0_ok, nmX0, zr_X0⟩
  | 1, _ => ⟨tyX1_ok, nmX1, zr_X1⟩
  | 2, _ => ⟨tyX2_ok, nmX2, zr_X2⟩
  | 3, _ => ⟨tyX3_ok, nmX3, zr_X3⟩
  | 4, _ => ⟨tyX4_ok, nmX4, zr_X4⟩
  | 5, _ => ⟨tyX5_ok, nmX5, zr_X5⟩
  | 6, _ => ⟨tyX6_ok, nmX6, zr_X6⟩
  | 7, _ => ⟨tyX7_ok, nmX7, zr_X7⟩
  | 8, _ => ⟨tyX8_ok, nmX8, zr_X8⟩
  | 9, _ => ⟨tyX9_ok, nmX9, zr_X9⟩
  | 10, _ => ⟨tyX10_ok, nmX10, zr_X10⟩
  | 11, _ => ⟨tyX11_ok, nmX11, zr_X11⟩
  | 12, _ => ⟨tyX12_ok, nmX12, zr_X12⟩
  | n + 13, h => absurd h (by omega)
theorem zt_lt {c : Nat} {r : vw_C} (h : vwCl[c]? = some r) : c < 13 := (List.getElem?_eq_some_iff.mp h).1
theorem zt_dc : ∀ c, c < 13 → ∀ k, k < zt_n c → (zc_T c k).1 = zc_nm c := by decide +kernel

