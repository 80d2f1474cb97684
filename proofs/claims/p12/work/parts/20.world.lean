/-! THE MACHINE OVER PLACES: worlds. A world is: how many cells it speaks of, how many cells and slots were made in all; what each cell is (an object of a class, an array of a type and a length); the ints, the longs, the references in them. A reference is a PLACE (the number of a cell), not an address. -/
abbrev zx_K : Type := Nat ⊕ (FieldType × Nat)
abbrev zx_W : Type := (Nat × Nat × Nat) × (Nat → zx_K) × (Nat → Nat → Int32) × (Nat → Nat → Int64) × (Nat → Nat → Option Nat)
def zx_up {α : Type} (f : Nat → Nat → α) (p i : Nat) (x : α) : Nat → Nat → α := fun q j => if q = p then (if j = i then x else f q j) else f q j
theorem zx_up_ne {α : Type} {f : Nat → Nat → α} {p i : Nat} {x : α} {q j : Nat} (h : q ≠ p) : zx_up f p i x q j = f q j := by
  unfold zx_up
  rw [if_neg h]
theorem zx_up_nj {α : Type} {f : Nat → Nat → α} {p i : Nat} {x : α} {q j : Nat} (h : j ≠ i) : zx_up f p i x q j = f q j := by
  unfold zx_up
  by_cases e : q = p
  · rw [if_pos e, if_neg h]
  · rw [if_neg e]
theorem zx_up_at {α : Type} {f : Nat → Nat → α} {p i : Nat} {x : α} : zx_up f p i x p i = x := by
  unfold zx_up
  rw [if_pos rfl, if_pos rfl]
theorem zx_up_row {α : Type} {f : Nat → Nat → α} {p i : Nat} {x : α} {j : Nat} : zx_up f p i x p j = if j = i then x else f p j := by
  unfold zx_up
  rw [if_pos rfl]
/-- places to addresses -/
def zx_v (ad : Nat → Nat) (v : Value) : Value := match v with
  | .ref k => .ref (ad k)
  | .int x => .int x
  | .long x => .long x
  | .float x => .float x
  | .double x => .double x
  | .null => .null
  | .retAddr x => .retAddr x
theorem zx_v_cat (ad : Nat → Nat) (v : Value) : (zx_v ad v).category = v.category := by cases v <;> rfl
theorem zx_v_cats (ad : Nat → Nat) (l : List Value) : ((l.map (zx_v ad)).map fun v => v.category) = l.map fun v => v.category := by
  rw [List.map_map]
  exact List.map_congr_left (fun v _ => zx_v_cat ad v)
/-- what stands at a place, by its type -/
def zx_val (w : zx_W) (ty : FieldType) (p i : Nat) : Value := match ty with
  | .int => .int (w.2.2.1 p i)
  | .byte => .int (w.2.2.1 p i)
  | .boolean => .int (w.2.2.1 p i)
  | .short => .int (w.2.2.1 p i)
  | .char => .int (w.2.2.1 p i)
  | .long => .long (w.2.2.2.1 p i)
  | .object _ => va_rf (w.2.2.2.2 p i)
  | .array _ => va_rf (w.2.2.2.2 p i)
  | .float => .float 0
  | .double => .double 0
def zx_set (w : zx_W) (p i : Nat) (v : Value) : zx_W := match v with
  | .int x => (w.1, w.2.1, zx_up w.2.2.1 p i x, w.2.2.2.1, w.2.2.2.2)
  | .long x => (w.1, w.2.1, w.2.2.1, zx_up w.2.2.2.1 p i x, w.2.2.2.2)
  | .ref q => (w.1, w.2.1, w.2.2.1, w.2.2.2.1, zx_up w.2.2.2.2 p i (some q))
  | .null => (w.1, w.2.1, w.2.2.1, w.2.2.2.1, zx_up w.2.2.2.2 p i none)
  | _ => w
theorem zx_set_1 (w : zx_W) (p i : Nat) (v : Value) : (zx_set w p i v).1 = w.1 := by cases v <;> rfl
theorem zx_set_k (w : zx_W) (p i : Nat) (v : Value) : (zx_set w p i v).2.1 = w.2.1 := by cases v <;> rfl
/-- may a field or element of this type take this value as it stands -/
def zx_fit (ty : FieldType) (v : Value) : Bool := match ty, v with
  | .int, .int _ => true
  | .long, .long _ => true
  | .boolean, .int x => x == 0 || x == 1
  | .object _, .ref _ => true
  | .array _, .ref _ => true
  | .object _, .null => true
  | .array _, .null => true
  | _, _ => false
/-- do they speak of one kind of number -/
def zx_kin (ty : FieldType) (v : Value) : Prop := match ty, v with
  | .int, .int _ => True
  | .byte, .int _ => True
  | .boolean, .int _ => True
  | .short, .int _ => True
  | .char, .int _ => True
  | .long, .long _ => True
  | .object _, .ref _ => True
  | .array _, .ref _ => True
  | .object _, .null => True
  | .array _, .null => True
  | _, _ => False
theorem zx_fit_kin {ty : FieldType} {v : Value} (h : zx_fit ty v = true) : zx_kin ty v := by
  cases ty <;> cases v <;> first | exact trivial | (simp [zx_fit] at h)
theorem zx_fit_narrow {ty : FieldType} {v : Value} (ad : Nat → Nat) (h : zx_fit ty v = true) : narrow ty (zx_v ad v) = zx_v ad v ∧ fits ty (zx_v ad v) = true := by
  cases ty <;> cases v <;> first | exact ⟨rfl, rfl⟩ | (simp [zx_fit] at h; done) | skip
  rename_i x
  simp only [zx_fit, Bool.or_eq_true, beq_iff_eq] at h
  rcases h with h | h <;> subst h
  · exact ⟨show narrow .boolean (.int 0) = .int 0 by decide, show fits .boolean (.int 0) = true by decide⟩
  · exact ⟨show narrow .boolean (.int 1) = .int 1 by decide, show fits .boolean (.int 1) = true by decide⟩
theorem zx_val_set {w : zx_W} {p i : Nat} {v : Value} {ty : FieldType} (h : zx_kin ty v) : zx_val (zx_set w p i v) ty p i = v := by
  cases ty <;> cases v <;> first | exact h.elim | (simp [zx_val, zx_set, zx_up_at, va_rf])
theorem zx_val_ne {w : zx_W} {p i : Nat} {v : Value} {ty : FieldType} {q j : Nat} (h : q ≠ p ∨ j ≠ i) : zx_val (zx_set w p i v) ty q j = zx_val w ty q j := by
  have k1 : ∀ (x : Int32), zx_up w.2.2.1 p i x q j = w.2.2.1 q j := fun x => by
    rcases h with h | h
    · exact zx_up_ne h
    · exact zx_up_nj h
  have k2 : ∀ (x : Int64), zx_up w.2.2.2.1 p i x q j = w.2.2.2.1 q j := fun x => by
    rcases h with h | h
    · exact zx_up_ne h
    · exact zx_up_nj h
  have k3 : ∀ (x : Option Nat), zx_up w.2.2.2.2 p i x q j = w.2.2.2.2 q j := fun x => by
    rcases h with h | h
    · exact zx_up_ne h
    · exact zx_up_nj h
  cases ty <;> cases v <;> simp [zx_val, zx_set, k1, k2, k3]
/-- a new cell -/
def zx_new (w : zx_W) (k : zx_K) (n : Nat) : zx_W := ((w.1.1 + 1, w.1.2.1 + 1, w.1.2.2 + n), (fun q => if q = w.1.1 then k else w.2.1 q), (fun q j => if q = w.1.1 then 0 else w.2.2.1 q j), (fun q j => if q = w.1.1 then 0 else w.2.2.2.1 q j), (fun q j => if q = w.1.1 then none else w.2.2.2.2 q j))
theorem zx_new_k {w : zx_W} {k : zx_K} {n q : Nat} (h : q ≠ w.1.1) : (zx_new w k n).2.1 q = w.2.1 q := by
  simp [zx_new, h]
theorem zx_new_kk {w : zx_W} {k : zx_K} {n : Nat} : (zx_new w k n).2.1 w.1.1 = k := by
  simp [zx_new]
theorem zx_new_val {w : zx_W} {k : zx_K} {n q j : Nat} {ty : FieldType} (h : q ≠ w.1.1) : zx_val (zx_new w k n) ty q j = zx_val w ty q j := by
  cases ty <;> simp [zx_val, zx_new, h]
theorem zx_new_def {w : zx_W} {k : zx_K} {n j : Nat} {ty : FieldType} : zx_val (zx_new w k n) ty w.1.1 j = defaultValue ty := by
  cases ty <;> simp [zx_val, zx_new, va_rf, defaultValue]
abbrev zx_tys (tc : FieldType → ClassId) : List (ClassId × FieldType) := [(tc .int, .int), (tc .long, .long), (tc .byte, .byte), (tc .boolean, .boolean)]
def zx_ty (ty : FieldType) : Bool := match ty with
  | .int => true
  | .long => true
  | .byte => true
  | .boolean => true
  | _ => false
theorem zx_ty_in {D : va_G} {tc : FieldType → ClassId} {s : State} {ty : FieldType} (hK : va_K D vwCl (zx_tys tc) s) (h : zx_ty ty = true) : ArrOfT s (tc ty) ty ∧ va_RA s (tc ty) ty := by
  cases ty with
  | int => exact hK.2 0 _ rfl
  | long => exact hK.2 1 _ rfl
  | byte => exact hK.2 2 _ rfl
  | boolean => exact hK.2 3 _ rfl
  | _ => simp [zx_ty] at h
/-- the cell at a place, as the heap has it (below n0: arrays that were there before, and are only read; a class number from 13 on: a cell of which nothing is said) -/
def zx_at (s : State) (D : va_G) (tc : FieldType → ClassId) (ad : Nat → Nat) (n0 : Nat) (w : zx_W) (H : Heap) (p : Nat) : Prop := match w.2.1 p with
  | .inl c => c < 13 → n0 ≤ p ∧ t_OB (ad p) (D.1 c) (zt_n c) (D.2 c) H (fun k => zx_v ad (zx_val w (zt_ty c k) p k))
  | .inr (ty, n) => (p < n0 ∧ ∃ cell : Cell, H[ad p]? = some cell ∧ s.isArrayOf cell ty ∧ cell.vm ≠ .unknown ∧ (n ≤ cell.slots.size ∧ cell.slots.size.toInt32 = Int32.ofNat n) ∧ ∀ j, j < n → cell.slots[j]? = some (zx_v ad (zx_val w ty p j))) ∨ (n0 ≤ p ∧ zx_ty ty = true ∧ H[ad p]? = some (arrV (tc ty) n (fun j => zx_v ad (zx_val w ty p j))))
def zx_R (s : State) (D : va_G) (tc : FieldType → ClassId) (ad : Nat → Nat) (n0 : Nat) (w : zx_W) (H : Heap) : Prop :=
  (ad w.1.1 ≤ H.size ∧ (w.1.1 < 119 → H.size = ad w.1.1)) ∧ n0 ≤ w.1.1 ∧ ∀ p, p < w.1.1 → zx_at s D tc ad n0 w H p
def zx_G (ad : Nat → Nat) (n0 sz0 : Nat) : Prop := (∀ k, n0 ≤ k → ad k = sz0 + (k - n0)) ∧ ∀ k, k < n0 → ad k < sz0
theorem zx_G.ne {ad : Nat → Nat} {n0 sz0 i k : Nat} (h : zx_G ad n0 sz0) (hk : n0 ≤ k) (hn : i ≠ k) : ad i ≠ ad k := by
  intro e
  rw [h.1 k hk] at e
  by_cases hi : i < n0
  · have := h.2 i hi
    omega
  · rw [h.1 i (by omega)] at e
    omega
theorem zx_G.ge {ad : Nat → Nat} {n0 sz0 k : Nat} (h : zx_G ad n0 sz0) (hk : n0 ≤ k) : sz0 ≤ ad k := by rw [h.1 k hk]; omega
theorem zx_G.lt {ad : Nat → Nat} {n0 sz0 i k : Nat} (h : zx_G ad n0 sz0) (hk : n0 ≤ k) (hi : i < k) : ad i < ad k := by
  rw [h.1 k hk]
  by_cases hn : i < n0
  · have := h.2 i hn
    omega
  · rw [h.1 i (by omega)]
    omega
theorem zx_at.to {s U : State} {D : va_G} {tc : FieldType → ClassId} {ad : Nat → Nat} {n0 p : Nat} {w w' : zx_W} {H H1 : Heap} (hvm : s.vm.Alike U.vm) (hk : w'.2.1 p = w.2.1 p) (hv : ∀ ty j, zx_val w' ty p j = zx_val w ty p j) (hq : H1[ad p]? = H[ad p]?) (h : zx_at s D tc ad n0 w H p) : zx_at U D tc ad n0 w' H1 p := by
  unfold zx_at at h ⊢
  rw [hk]
  cases e : w.2.1 p with
  | inl c =>
    rw [e] at h
    intro hc
    obtain ⟨h1, h3⟩ := h hc
    refine ⟨h1, (h3.kept hq).to (fun k _ => ?_)⟩
    rw [hv]
  | inr a =>
    obtain ⟨ty, n⟩ := a
    rw [e] at h
    rcases h with ⟨h1, cell, h2, h3, h4, h5, h6⟩ | ⟨h1, h2, h3⟩
    · refine Or.inl ⟨h1, cell, hq.trans h2, State.isArrayOf_alike hvm h3, h4, h5, fun j hj => ?_⟩
      rw [hv]
      exact h6 j hj
    · refine Or.inr ⟨h1, h2, hq.trans (h3.trans ?_)⟩
      congr 2
      funext j
      rw [hv]
theorem zx_R.moved {s U : State} {D : va_G} {tc : FieldType → ClassId} {ad : Nat → Nat} {n0 : Nat} {H : Heap} {w : zx_W} (hvm : s.vm.Alike U.vm) (h : zx_R s D tc ad n0 w H) : zx_R U D tc ad n0 w H :=
  ⟨h.1, h.2.1, fun p hp => (h.2.2 p hp).to hvm rfl (fun _ _ => rfl) rfl⟩
/-- an array can be read wherever it lies -/
theorem zx_at.arr {s : State} {D : va_G} {tc : FieldType → ClassId} {ad : Nat → Nat} {n0 p : Nat} {w : zx_W} {H : Heap} {ty : FieldType} {n : Nat} (hK : va_K D vwCl (zx_tys tc) s) (h : zx_at s D tc ad n0 w H p) (e : w.2.1 p = .inr (ty, n)) :
    ∃ cell : Cell, H[ad p]? = some cell ∧ s.isArrayOf cell ty ∧ cell.vm ≠ .unknown ∧ (n ≤ cell.slots.size ∧ cell.slots.size.toInt32 = Int32.ofNat n) ∧ ∀ j, j < n → cell.slots[j]? = some (zx_v ad (zx_val w ty p j)) := by
  unfold zx_at at h
  rw [e] at h
  rcases h with ⟨-, h⟩ | ⟨-, ht, h⟩
  · exact h
  · refine ⟨_, h, (zx_ty_in hK ht).1 _ _, (fun q => by cases q), ⟨Nat.le_of_eq (arrV_size _ _ _).symm, by rw [arrV_size] <;> rfl⟩, fun j hj => arrV_read _ _ hj⟩
/-- one number in a cell is written -/
theorem zx_R.set {s : State} {D : va_G} {tc : FieldType → ClassId} {ad : Nat → Nat} {n0 sz0 p i : Nat} {v : Value} {H H1 : Heap} {w : zx_W} (hG : zx_G ad n0 sz0) (h : zx_R s D tc ad n0 w H) (hp : n0 ≤ p) (hz : H1.size = H.size) (ho : ∀ q, q ≠ ad p → H1[q]? = H[q]?) (hn : zx_at s D tc ad n0 (zx_set w p i v) H1 p) : zx_R s D tc ad n0 (zx_set w p i v) H1 := by
  refine ⟨by rw [zx_set_1, hz]; exact h.1, by rw [zx_set_1]; exact h.2.1, fun q hq => ?_⟩
  rw [zx_set_1] at hq
  by_cases e : q = p
  · subst e
    exact hn
  · exact (h.2.2 q hq).to (Vm.Alike.refl s.vm) (by rw [zx_set_k]) (fun ty j => zx_val_ne (Or.inl e)) (ho _ (hG.ne hp e))
/-- one cell is made -/
theorem zx_R.push {s : State} {D : va_G} {tc : FieldType → ClassId} {ad : Nat → Nat} {n0 sz0 n : Nat} {k : zx_K} {H H1 : Heap} {w : zx_W} (hG : zx_G ad n0 sz0) (h : zx_R s D tc ad n0 w H) (hn1 : w.1.1 < 119) (hz : H1.size = H.size + 1) (ho : ∀ q, q < H.size → H1[q]? = H[q]?) (hn : zx_at s D tc ad n0 (zx_new w k n) H1 w.1.1) : zx_R s D tc ad n0 (zx_new w k n) H1 := by
  have hx := h.1.2 hn1
  have hy : H1.size = ad (w.1.1 + 1) := by
    rw [hz, hx, hG.1 _ h.2.1, hG.1 _ (Nat.le_trans h.2.1 (Nat.le_succ _))]
    have := h.2.1
    omega
  refine ⟨⟨Nat.le_of_eq hy.symm, fun _ => hy⟩, Nat.le_trans h.2.1 (Nat.le_succ _), fun q hq => ?_⟩
  have hq' : q < w.1.1 + 1 := hq
  by_cases e : q = w.1.1
  · subst e
    exact hn
  · exact (h.2.2 q (by omega)).to (Vm.Alike.refl s.vm) (zx_new_k e) (fun ty j => zx_new_val e) (ho _ (by rw [hx]; exact hG.lt h.2.1 (by omega)))
