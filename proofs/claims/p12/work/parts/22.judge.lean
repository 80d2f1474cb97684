/-! THE JUDGEMENT zx_E d j pc ls st w v w1: method j, at pc, with locals ls, stack st and world w, comes to its return with v and world w1, in any context; d frames at most are laid upon it. -/
/-- words of the tables that want a rule of their own: links to private members of nest mates; of the throws -/
def zm_nest : List Cond := [.methodLinkNest "RaceLocks$Reader" 11 yX3_init "RaceLocks", .fieldLinkNest "RaceLocks$Tokens" 73 "RaceLocks" "RESERVED" "[J" "RaceLocks", .declares ⟨"java/lang/RuntimeException", "<init>", "(Ljava/lang/String;)V"⟩, .declares ⟨"java/lang/Exception", "<init>", "(Ljava/lang/String;)V"⟩, .declares ⟨"java/lang/Throwable", "<init>", "(Ljava/lang/String;)V"⟩, .castable "java/lang/IllegalStateException" "java/lang/IllegalStateException", .castable "java/lang/IllegalArgumentException" "java/lang/IllegalArgumentException"]
theorem zm_nest_warm {s U : State} (hW : s.WarmedH U.vm) (h : ∀ w ∈ zm_nest, va_Nw w s) : ∀ w ∈ zm_nest, va_Nw w U := by
  intro w hw
  have h1 := h w hw
  simp only [zm_nest, List.mem_cons, List.not_mem_nil, or_false] at hw
  rcases hw with rfl | rfl | rfl | rfl | rfl | rfl | rfl
  · exact va_Nw.warmM hW h1
  · exact va_Nw.warmF hW h1
  · exact va_Nw.warmD hW h1
  · exact va_Nw.warmD hW h1
  · exact va_Nw.warmD hW h1
  · exact va_Nw.warmC hW h1
  · exact va_Nw.warmC hW h1
theorem zm_nest_same {s U : State} (hvm : s.vm = U.vm) (h : ∀ w ∈ zm_nest, va_Nw w s) : ∀ w ∈ zm_nest, va_Nw w U := by
  intro w hw
  have h1 := h w hw
  simp only [zm_nest, List.mem_cons, List.not_mem_nil, or_false] at hw
  rcases hw with rfl | rfl | rfl | rfl | rfl | rfl | rfl <;> exact va_Nw.same rfl hvm h1
/-- the launch's flag, the static array RESERVED (place 1), and what a throw reads -/
def zx_Z (l : Launch) (sz0 : Nat) (ad : Nat → Nat) (s : State) : Prop := va_Z "RaceLocks" "RESERVED" "[J" (.ref (ad 1)) (fun q => sz0 ≤ q) s s.heap ∧ vx_Zq Bundle.tN "UNASSIGNED_STACK" Bundle.steD (fun q => sz0 ≤ q) s s.heap ∧ vx_Zq Bundle.tN "SUPPRESSED_SENTINEL" Bundle.listD (fun q => sz0 ≤ q) s s.heap ∧ (∃ sa, vk_R "RaceLocks" 89 "the tape would have more than 1500 bytes" sa s) ∧ (∃ sa, vk_R "RaceLocks" 100 "the tape has no such length" sa s) ∧ l.stackTraces = false
theorem zx_Z.warm {l : Launch} {sz0 : Nat} {ad : Nat → Nat} {s U : State} (hW : s.WarmedH U.vm) (hq : ∀ a : Nat, a < s.heap.size → ¬ sz0 ≤ a → U.heap[a]? = s.heap[a]?) (h : zx_Z l sz0 ad s) : zx_Z l sz0 ad U := by
  obtain ⟨h1, h2, h3, ⟨a, h4⟩, ⟨b, h5⟩, h6⟩ := h
  exact ⟨va_Z.kept (va_Z.moved hW.alike h1) hq, vx_Zq.kept (vx_Zq.moved hW.alike h2) hq, vx_Zq.kept (vx_Zq.moved hW.alike h3) hq, ⟨a, vk_R.warm hW h4⟩, ⟨b, vk_R.warm hW h5⟩, h6⟩
theorem zx_Z.same {l : Launch} {sz0 : Nat} {ad : Nat → Nat} {s U : State} (hvm : s.vm = U.vm) (hh : s.heap = U.heap) (h : zx_Z l sz0 ad s) : zx_Z l sz0 ad U := by
  have hal : s.vm.Alike U.vm := by rw [hvm]; exact Vm.Alike.refl _
  obtain ⟨h1, h2, h3, ⟨a, h4⟩, ⟨b, h5⟩, h6⟩ := h
  exact ⟨hh ▸ va_Z.moved hal h1, hh ▸ vx_Zq.moved hal h2, hh ▸ vx_Zq.moved hal h3, ⟨a, vk_R.same hvm.symm h4⟩, ⟨b, vk_R.same hvm.symm h5⟩, h6⟩
/-- what is fixed while a method runs -/
def zx_X (j d : Nat) (p : Program) (R : Room) (s : State) (m : MethodId) (args : Array Value) (meth : Method) (c : Code) (D : va_G) (tc : FieldType → ClassId) : Prop :=
  p.tables.exec = Jvm.exec ∧ c.code = zm_cc j ∧ c.maxLocals = zm_L j ∧ meth.sig.returnType = zm_r j ∧ meth.locks = false ∧ s.vm.findClass (zm_own j) = some m.cls ∧ meth.name = (zm_y j).name ∧
  (∀ w ∈ zm_ws, w.before args s = true) ∧ (∀ w ∈ zm_nest, va_Nw w s) ∧ va_K D vwCl (zx_tys tc) s ∧ d ≤ R.frames ∧ d * 64 + 40 ≤ R.locals
/-- the return instruction with its value -/
def zx_rt (j pc : Nat) (v : Option Value) : Prop := match v with
  | none => decode (zm_cc j) pc = .ok (.return_, 1) ∧ zm_r j = none
  | some (.int x) => decode (zm_cc j) pc = .ok (.ireturn, 1) ∧ ∃ ty, zm_r j = some ty ∧ narrow ty (.int x) = .int x
  | some (.long _) => decode (zm_cc j) pc = .ok (.lreturn, 1) ∧ zm_r j = some .long
  | some (.ref _) => decode (zm_cc j) pc = .ok (.areturn, 1) ∧ ∃ rt, zm_r j = some rt ∧ ((∃ n, rt = .object n) ∨ ∃ t, rt = .array t)
  | some .null => decode (zm_cc j) pc = .ok (.areturn, 1) ∧ ∃ rt, zm_r j = some rt ∧ ((∃ n, rt = .object n) ∨ ∃ t, rt = .array t)
  | _ => False
def zx_E (d j pc : Nat) (ls : List (Option Value)) (st : List Value) (w : zx_W) (v : Option Value) (w1 : zx_W) : Prop :=
  (w.1.2.1 ≤ w1.1.2.1 ∧ w.1.2.2 ≤ w1.1.2.2) ∧
  ∀ (p : Program) (l : Launch) (e : Env) (R : Room) (s : State) (m : MethodId) (args : Array Value) (below : List Frame) (meth : Method) (c : Code) (H : Heap) (locs : List Loc) (cells slots mc ms : Nat) (Q : State → Prop) (D : va_G) (tc : FieldType → ClassId) (ad : Nat → Nat) (sz0 : Nat) (lsr : Array Slot),
    zx_X j d p R s m args meth c D tc → zx_G ad 2 sz0 → zx_Z l sz0 ad s → zx_R s D tc ad 2 w H → va_S (fun q => sz0 ≤ q) s.heap H locs → zx_L ad lsr (zm_L j) ls →
    cells + (w1.1.2.1 - w.1.2.1) ≤ mc → slots + (w1.1.2.2 - w.1.2.2) ≤ ms → mc ≤ R.cells → ms ≤ R.slots →
    (∀ (H1 : Heap) (locs1 : List Loc) (pc1 : Nat) (lsr1 : Array Slot), zx_rt j pc1 v → zx_R s D tc ad 2 w1 H1 → va_S (fun q => sz0 ≤ q) s.heap H1 locs1 → W p l e R s m args below meth c H1 locs1 mc ms Q (F0 m pc1 lsr1 (v.toList.map (zx_v ad)))) →
    W p l e R s m args below meth c H locs cells slots Q (F0 m pc lsr (st.map (zx_v ad)))
section STEPS
variable {d j pc : Nat} {ls : List (Option Value)} {st : List Value} {w : zx_W} {v : Option Value} {w1 : zx_W}
/-- a step that touches neither locals nor cells -/
theorem zx_pure {pc' : Nat} {st' : List Value}
    (step : ∀ {p : Program} {l : Launch} {e : Env} {R : Room} {s : State} {m : MethodId} {args : Array Value} {below : List Frame} {meth : Method} {c : Code} {H : Heap} {locs : List Loc} {cells slots : Nat} {Q : State → Prop} {D : va_G} {tc : FieldType → ClassId} {ad : Nat → Nat} {sz0 : Nat} {lsr : Array Slot},
      zx_X j d p R s m args meth c D tc → zx_Z l sz0 ad s → zx_R s D tc ad 2 w H → zx_L ad lsr (zm_L j) ls → va_S (fun q => sz0 ≤ q) s.heap H locs → cells ≤ R.cells → slots ≤ R.slots → W p l e R s m args below meth c H locs cells slots Q (F0 m pc' lsr (st'.map (zx_v ad))) → W p l e R s m args below meth c H locs cells slots Q (F0 m pc lsr (st.map (zx_v ad))))
    (h : zx_E d j pc' ls st' w v w1) : zx_E d j pc ls st w v w1 := by
  refine ⟨h.1, ?_⟩
  intro p l e R s m args below meth c H locs cells slots mc ms Q D tc ad sz0 lsr X hG hZ hR hS hL h1 h2 h3 h4 hend
  exact step X hZ hR hL hS (by omega) (by omega) (h.2 p l e R s m args below meth c H locs cells slots mc ms Q D tc ad sz0 lsr X hG hZ hR hS hL h1 h2 h3 h4 hend)
/-- a step that writes a local -/
theorem zx_loc {pc' : Nat} {ls' : List (Option Value)} {st' : List Value}
    (step : ∀ {p : Program} {l : Launch} {e : Env} {R : Room} {s : State} {m : MethodId} {args : Array Value} {below : List Frame} {meth : Method} {c : Code} {H : Heap} {locs : List Loc} {cells slots : Nat} {Q : State → Prop} {D : va_G} {tc : FieldType → ClassId} {ad : Nat → Nat} {lsr : Array Slot},
      zx_X j d p R s m args meth c D tc → zx_L ad lsr (zm_L j) ls → (∀ lsr', zx_L ad lsr' (zm_L j) ls' → W p l e R s m args below meth c H locs cells slots Q (F0 m pc' lsr' (st'.map (zx_v ad)))) → W p l e R s m args below meth c H locs cells slots Q (F0 m pc lsr (st.map (zx_v ad))))
    (h : zx_E d j pc' ls' st' w v w1) : zx_E d j pc ls st w v w1 := by
  refine ⟨h.1, ?_⟩
  intro p l e R s m args below meth c H locs cells slots mc ms Q D tc ad sz0 lsr X hG hZ hR hS hL h1 h2 h3 h4 hend
  exact step X hL (fun lsr' hL' => h.2 p l e R s m args below meth c H locs cells slots mc ms Q D tc ad sz0 lsr' X hG hZ hR hS hL' h1 h2 h3 h4 hend)
/-- a step that writes a number in a cell -/
theorem zx_put {pc' q i : Nat} {x : Value} {st' : List Value}
    (step : ∀ {p : Program} {l : Launch} {e : Env} {R : Room} {s : State} {m : MethodId} {args : Array Value} {below : List Frame} {meth : Method} {c : Code} {H : Heap} {locs : List Loc} {cells slots : Nat} {Q : State → Prop} {D : va_G} {tc : FieldType → ClassId} {ad : Nat → Nat} {lsr : Array Slot},
      zx_X j d p R s m args meth c D tc → zx_R s D tc ad 2 w H → zx_L ad lsr (zm_L j) ls → 2 ≤ q → (∀ (H1 : Heap) (i1 : Nat), H1.size = H.size → (∀ a, a ≠ ad q → H1[a]? = H[a]?) → zx_at s D tc ad 2 (zx_set w q i x) H1 q → W p l e R s m args below meth c H1 (locs ++ [⟨ad q, i1⟩]) cells slots Q (F0 m pc' lsr (st'.map (zx_v ad)))) → W p l e R s m args below meth c H locs cells slots Q (F0 m pc lsr (st.map (zx_v ad))))
    (hw : ∀ {s : State} {D : va_G} {tc : FieldType → ClassId} {ad : Nat → Nat} {H : Heap}, zx_R s D tc ad 2 w H → 2 ≤ q)
    (h : zx_E d j pc' ls st' (zx_set w q i x) v w1) : zx_E d j pc ls st w v w1 := by
  have hs : (zx_set w q i x).1 = w.1 := zx_set_1 w q i x
  refine ⟨by rw [← hs]; exact h.1, ?_⟩
  intro p l e R s m args below meth c H locs cells slots mc ms Q D tc ad sz0 lsr X hG hZ hR hS hL h1 h2 h3 h4 hend
  have hk := hw hR
  refine step X hR hL hk (fun H1 i1 hz ho hat => ?_)
  refine h.2 p l e R s m args below meth c H1 (locs ++ [⟨ad q, i1⟩]) cells slots mc ms Q D tc ad sz0 lsr X hG hZ (hR.set hG hk hz ho hat) ?_ hL (by rw [hs]; exact h1) (by rw [hs]; exact h2) h3 h4 hend
  exact hS.put hz ho (hG.ge hk)
/-- a step that makes a cell -/
theorem zx_make {pc' n : Nat} {k : zx_K} {st' : List Value} (hn1 : w.1.1 < 119)
    (step : ∀ {p : Program} {l : Launch} {e : Env} {R : Room} {s : State} {m : MethodId} {args : Array Value} {below : List Frame} {meth : Method} {c : Code} {H : Heap} {locs : List Loc} {cells slots : Nat} {Q : State → Prop} {D : va_G} {tc : FieldType → ClassId} {ad : Nat → Nat} {lsr : Array Slot},
      zx_X j d p R s m args meth c D tc → H.size = ad w.1.1 → 2 ≤ w.1.1 → cells + 1 ≤ R.cells → slots + n ≤ R.slots →
      (∀ (H1 : Heap), H1.size = H.size + 1 → (∀ a, a < H.size → H1[a]? = H[a]?) → zx_at s D tc ad 2 (zx_new w k n) H1 w.1.1 → W p l e R s m args below meth c H1 locs (cells + 1) (slots + n) Q (F0 m pc' lsr (st'.map (zx_v ad)))) → W p l e R s m args below meth c H locs cells slots Q (F0 m pc lsr (st.map (zx_v ad))))
    (h : zx_E d j pc' ls st' (zx_new w k n) v w1) : zx_E d j pc ls st w v w1 := by
  have e1 : w.1.2.1 + 1 ≤ w1.1.2.1 := h.1.1
  have e2 : w.1.2.2 + n ≤ w1.1.2.2 := h.1.2
  refine ⟨⟨by omega, by omega⟩, ?_⟩
  intro p l e R s m args below meth c H locs cells slots mc ms Q D tc ad sz0 lsr X hG hZ hR hS hL h1 h2 h3 h4 hend
  refine step X (hR.1.2 hn1) hR.2.1 (by omega) (by omega) (fun H1 hz ho hat => ?_)
  refine h.2 p l e R s m args below meth c H1 locs (cells + 1) (slots + n) mc ms Q D tc ad sz0 lsr X hG hZ (hR.push hG hn1 hz ho hat) ?_ hL ?_ ?_ h3 h4 hend
  · exact ⟨Nat.le_trans hS.1 (by omega), fun a ha hA => (ho a (Nat.lt_of_lt_of_le ha hS.1)).trans (hS.2.1 a ha hA), hS.2.2⟩
  · show cells + 1 + (w1.1.2.1 - (w.1.2.1 + 1)) ≤ mc
    omega
  · show slots + n + (w1.1.2.2 - (w.1.2.2 + n)) ≤ ms
    omega
/-- the return -/
theorem zx_ret (hr : zx_rt j pc v) : zx_E d j pc ls v.toList w v w := by
  refine ⟨⟨Nat.le_refl _, Nat.le_refl _⟩, ?_⟩
  intro p l e R s m args below meth c H locs cells slots mc ms Q D tc ad sz0 lsr X hG hZ hR hS hL h1 h2 h3 h4 hend
  refine W.widen (k := mc) (n := ms) (by omega) (by omega) ?_
  exact hend H locs pc lsr hr hR hS
end STEPS
