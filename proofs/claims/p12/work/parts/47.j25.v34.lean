-- both answer alike
set_option maxRecDepth 2000
theorem p_M_other {T : TS} {a N : Nat} {μ : zS} (sm : SM T a μ) (h : ∀ k : Int32, (k = 3 ∨ k = 302 ∨ k = 304 ∨ k = 306 ∨ k = 307 ∨ k = 308 ∨ k = 310 ∨ k = 311 ∨ k = 312 ∨ k = 313 ∨ k = 314) → T.1 a ≠ k) : zp (zf_M_statement N μ) (fun s => MFl s (T.2.1 a)) := by
  have can : zp ((zf_M_cannot μ).bind fun r => some r) (fun s => MFl s (T.2.1 a)) := by
    refine zp_bind (zp_mono (p_M_cannot sm.2.2.2) fun s hs => zp_some ?_)
    rw [sm.p] at hs
    exact hs
  have no : ∀ x : Int32, 1 ≤ x → x ≤ 15 → μ 82 7 = 5 → μ 82 8 = x → T.1 a = x + 299 := fun x h1 h2 e7 e8 => (sm.d.word ⟨h1, h2⟩).mp ⟨e7, e8⟩
  unfold zf_M_statement
  refine zp_ite (fun _ => zp_ite (fun e7 => ?_) fun _ => can) fun q => absurd (sm.d.name.mp (Classical.not_not.mp q)) (h 3 (by decide))
  refine zp_ite (fun e => absurd (no 3 (by decide) (by decide) e7 e) (h 302 (by decide))) fun _ => zp_ite (fun _ => can) fun _ => zp_ite (fun e => absurd (no 5 (by decide) (by decide) e7 e) (h 304 (by decide))) fun _ => zp_ite (fun _ => can) fun _ => zp_ite (fun e => absurd (no 7 (by decide) (by decide) e7 e) (h 306 (by decide))) fun _ => zp_ite (fun e => absurd (no 8 (by decide) (by decide) e7 e) (h 307 (by decide))) fun _ => zp_ite (fun e => absurd (no 9 (by decide) (by decide) e7 e) (h 308 (by decide))) fun _ => zp_ite (fun _ => can) fun _ => zp_ite (fun e => absurd (no 11 (by decide) (by decide) e7 e) (h 310 (by decide))) fun _ => zp_ite (fun e => absurd (no 12 (by decide) (by decide) e7 e) (h 311 (by decide))) fun _ => zp_ite (fun e => absurd (no 13 (by decide) (by decide) e7 e) (h 312 (by decide))) fun _ => zp_ite (fun e => absurd (no 14 (by decide) (by decide) e7 e) (h 313 (by decide))) fun _ => zp_ite (fun e => absurd (no 15 (by decide) (by decide) e7 e) (h 314 (by decide))) fun _ => can
theorem p_wrap {α β : Type} {o : Option (α × β)} {Q : α × β → Prop} (h : zp o Q) : zp (o.bind fun r => some (r.1, r.2)) Q := zp_bind (zp_mono h fun _ hr => zp_some hr)
theorem s_stmt {T : TS} {a N N' : Nat} {c : Nat → Nat} {ws : Nat → Nat → Int64} {nv : Nat} {wv : Nat → Int64} {len : Nat → Nat} {d : Nat} {ρ : zS} {τ : zT} {μ : zS} (rl : RLX T a c ws nv wv len d ρ τ μ) (hd : 0 < d) : zp (zf_Reader_readStatement N ρ τ) (fun r => (T.1 a = 125 ∧ zp (zf_M_closeBlock N' μ) (fun s => OUT T a c ws r.1 r.2 s)) ∨ (T.1 a ≠ 125 ∧ zp (zf_M_statement N' μ) (fun s => OUT T a c ws r.1 r.2 s))) := by
  have sx := rl.1
  have sm := rl.2.1
  unfold zf_Reader_readStatement
  rw [sx.k]
  have go : ∀ {o : Option (zS × zT)} {k : Int32}, T.1 a = k → k ≠ 125 → zp o (fun r => zp (zf_M_statement N' μ) (fun s => OUT T a c ws r.1 r.2 s)) → zp (o.bind fun r => some (r.1, r.2)) (fun r => (T.1 a = 125 ∧ zp (zf_M_closeBlock N' μ) (fun s => OUT T a c ws r.1 r.2 s)) ∨ (T.1 a ≠ 125 ∧ zp (zf_M_statement N' μ) (fun s => OUT T a c ws r.1 r.2 s))) := by
    intro o k e hk h
    exact p_wrap (zp_mono h fun r hr => Or.inr ⟨by rw [e]; exact hk, hr⟩)
  refine zp_ite (fun e => go e (by decide) (s_set rl hd e)) fun n3 => zp_ite (fun e => p_wrap (zp_mono (s_close rl hd e) fun r hr => Or.inl ⟨e, hr⟩)) fun n125 => zp_ite (fun e => go e (by decide) (s_lock rl hd e)) fun n302 => zp_ite (fun e => go e (by decide) ?_) fun n304 => zp_ite (fun e => go e (by decide) ?_) fun n306 => zp_ite (fun e => go e (by decide) (s_wait rl hd e)) fun n307 => zp_ite (fun e => go e (by decide) (s_wake rl hd e)) fun n308 => zp_ite (fun e => go e (by decide) ?_) fun n310 => zp_ite (fun e => go e (by decide) ?_) fun n311 => zp_ite (fun e => go e (by decide) (s_check rl hd e)) fun n312 => zp_ite (fun e => go e (by decide) (s_stop rl hd e)) fun n313 => zp_ite (fun e => go e (by decide) (s_span rl hd e)) fun n314 => ?_
  · rw [p_M_if (sm.k (x := 5) (by decide) e)]
    exact s_branch rl hd (by rw [e]; decide) (by decide) (by decide) (by decide) (by decide)
  · rw [p_M_while (sm.k (x := 7) (by decide) e)]
    exact s_branch rl hd (by rw [e]; decide) (by decide) (by decide) (by decide) (by decide)
  · rw [p_M_start (sm.k (x := 11) (by decide) e)]
    exact s_thread rl hd (by rw [e]; decide) (Or.inl rfl)
  · rw [p_M_join (sm.k (x := 12) (by decide) e)]
    exact s_thread rl hd (by rw [e]; decide) (Or.inr rfl)
  · refine zp_bind (zp_mono (p_X_fail (by decide)) fun r hr => zp_some (Or.inr ⟨n125, ?_⟩))
    rw [sx.p] at hr
    refine zp_mono (p_M_other sm ?_) fun s hs => Or.inl ⟨_, hr.2, hs⟩
    rintro k (h | h | h | h | h | h | h | h | h | h | h) <;> subst h <;> assumption
