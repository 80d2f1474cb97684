-- both answer alike
set_option maxRecDepth 2000
noncomputable def hit (p : Prop) (x : Nat) : List Nat := @ite (List Nat) p (Classical.propDecidable p) [x] []
theorem hit_y {p : Prop} {x : Nat} (h : p) : hit p x = [x] := by unfold hit; rw [if_pos h]
theorem hit_n {p : Prop} {x : Nat} (h : ¬ p) : hit p x = [] := by unfold hit; rw [if_neg h]
noncomputable def rwl (P : Nat → Nat → Prop) (v : Nat) : Nat → Nat → List Nat
  | _, 0 => []
  | w, n + 1 => hit (P v w) (96 * v + w) ++ rwl P v (w + 1) n
noncomputable def all (P : Nat → Nat → Prop) : Nat → Nat → List Nat
  | _, 0 => []
  | v, n + 1 => rwl P v (24 * (v / 24 + 1)) (96 - 24 * (v / 24 + 1)) ++ all P (v + 1) n
theorem rwl_len {P : Nat → Nat → Prop} {v : Nat} : ∀ (n w : Nat), (rwl P v w n).length ≤ n := by
  intro n
  induction n with
  | zero => intro w; rw [rwl]; exact Nat.le_refl _
  | succ n ih =>
    intro w
    rw [rwl, List.length_append]
    have := ih (w + 1)
    by_cases c : P v w
    · rw [hit_y c]; show 1 + _ ≤ _; omega
    · rw [hit_n c]; show 0 + _ ≤ _; omega
def bnd : Nat → Nat → Nat
  | _, 0 => 0
  | v, n + 1 => (96 - 24 * (v / 24 + 1)) + bnd (v + 1) n
theorem all_len {P : Nat → Nat → Prop} : ∀ (n v : Nat), (all P v n).length ≤ bnd v n := by
  intro n
  induction n with
  | zero => intro v; rw [all, bnd]; exact Nat.le_refl _
  | succ n ih =>
    intro v
    rw [all, bnd, List.length_append]
    have := ih (v + 1)
    have := rwl_len (P := P) (v := v) (96 - 24 * (v / 24 + 1)) (24 * (v / 24 + 1))
    omega
theorem bnd_all : bnd 0 96 = 3456 := by decide +kernel
theorem rwl_no {P : Nat → Nat → Prop} {v : Nat} : ∀ (n w : Nat), (∀ x, w ≤ x → ¬ P v x) → rwl P v w n = [] := by
  intro n
  induction n with
  | zero => intro w _; rw [rwl]
  | succ n ih =>
    intro w h
    rw [rwl, hit_n (h w (Nat.le_refl _)), ih (w + 1) fun x hx => h x (by omega)]
    rfl
theorem all_no {P : Nat → Nat → Prop} : ∀ (n v : Nat), (∀ x, v ≤ x → ∀ w, ¬ P x w) → all P v n = [] := by
  intro n
  induction n with
  | zero => intro v _; rw [all]
  | succ n ih =>
    intro v h
    rw [all, rwl_no _ _ (fun x _ => h v (Nat.le_refl _) x), ih (v + 1) fun x hx => h x (by omega)]
    rfl
def STO (σ : zS) (L : List Nat) : Prop := σ 79 1 = Int32.ofNat L.length ∧ ∀ (i y : Nat), L[i]? = some y → σ 80 i = Int32.ofNat y
theorem STO.snoc {σ : zS} {L : List Nat} {y : Nat} (h : STO σ L) (hl : L.length < 3456) : STO (zx_up (zx_up σ 80 L.length (Int32.ofNat y)) 79 1 (Int32.ofNat (L.length + 1))) (L ++ [y]) := by
  refine ⟨?_, fun i x e => ?_⟩
  · rw [zx_up_same, zu_eq, List.length_append]
    rfl
  · rw [zu_other (by decide), zx_up_same]
    by_cases c : i < L.length
    · rw [List.getElem?_append_left c] at e
      rw [zu_ne (by omega)]
      exact h.2 i x e
    · rw [List.getElem?_append_right (by omega)] at e
      have z : i - L.length = 0 := by
        by_cases k : i - L.length = 0
        · exact k
        · rw [List.getElem?_eq_none (by show 1 ≤ i - L.length; omega)] at e
          cases e
      rw [z] at e
      have ey : y = x := by
        have : some y = some x := e
        injection this
      rw [show i = L.length by omega, zu_eq, ey]
theorem p_listDoubts {N : Nat} {σ : zS} {c2 : Nat} {len : Nat → Nat} (pj : PJ σ c2 len) (fd : FLD σ) (nr : ∀ a b, a < c2 → b < 4 → ∀ s, s < 24 → (bit (σ 77 (4 * a + b)) s ↔ NEA σ len a b s)) : zp (zf_Judge_listDoubts N σ) (fun r => STO r (all (DBT σ c2 len) 0 96) ∧ ∀ q, q ≠ 79 ∧ q ≠ 80 → r q = σ q) := by
  have hc := pj.1
  have top : (all (DBT σ c2 len) 0 96).length ≤ 3456 := by
    have := all_len (P := DBT σ c2 len) 96 0
    rw [bnd_all] at this
    exact this
  have dbt : ∀ (r : zS) (v w : Nat), (∀ q, q ≠ 79 ∧ q ≠ 80 → r q = σ q) → v < 96 → w < 96 → zp (zf_Judge_isDoubtful r (Int32.ofNat (v / 24)) (Int32.ofNat (v % 24)) (Int32.ofNat (w / 24)) (Int32.ofNat (w % 24))) (fun x => AN2 (DBT σ c2 len v w) x) := fun r v w f hv hw => by
    have pr : PJ r c2 len := pj.of (fun q hq => f q (by omega)) (by rw [f 82 (by decide)])
    have fr : FLD r := ⟨fd.1.of (by rw [f 4 (by decide)]) (f 5 (by decide)) (f 7 (by decide)) (f 8 (by decide)), fd.2.1.of (by rw [f 4 (by decide)]) (by rw [f 4 (by decide)]) (f 88 (by decide)), by rw [f 4 (by decide)]; exact fd.2.2⟩
    have ne : ∀ {a b s : Nat}, NEA r len a b s ↔ NEA σ len a b s := fun {a b s} => NEA.of fun q hq => f q (by omega)
    refine zp_mono (p_isDoubtful pr fr (fun a b ha hb s hs => by rw [f 77 (by decide), ne]; exact nr a b ha hb s hs) hv hw) fun x hx => ?_
    have e : DBT r c2 len v w ↔ DBT σ c2 len v w := by
      unfold DBT CLS
      rw [f 4 (by decide), f 7 (by decide), f 8 (by decide), f 11 (by decide), ne, ne]
    exact ⟨hx.1, hx.2.trans e⟩
  have in27 : ∀ (k9 : zS → Int32 → Option zS) (v : Nat) (Q : zS → Prop), v < 96 → (∀ r L, STO r L → (∀ q, q ≠ 79 ∧ q ≠ 80 → r q = σ q) → L ++ all (DBT σ c2 len) (v + 1) (96 - (v + 1)) = all (DBT σ c2 len) 0 96 → zp (k9 r (Int32.ofNat (v + 1))) Q) → ∀ (n w : Nat) (r : zS) (L : List Nat), w ≤ 96 → STO r L → (∀ q, q ≠ 79 ∧ q ≠ 80 → r q = σ q) → L ++ (rwl (DBT σ c2 len) v w (96 - w) ++ all (DBT σ c2 len) (v + 1) (96 - (v + 1))) = all (DBT σ c2 len) 0 96 → zp (zb_Judge_listDoubts_27 k9 N n r (Int32.ofNat v) (Int32.ofNat (v / 24)) (Int32.ofNat w)) Q := by
    intro k9 v Q hv hk n
    induction n with
    | zero => intro _ _ _ _ _ _ _; exact zp_none
    | succ n ih =>
      intro w r L hw st f e
      rw [zb_Judge_listDoubts_27]
      unfold zb_Judge_listDoubts_66
      refine zp_ite (fun z => ?_) fun z => ?_
      · have w96 : 96 ≤ w := (zo_le (k := 96) (j := w) (by omega) (by omega)).mp z
        rw [show 96 - w = 0 by omega, rwl, List.nil_append] at e
        rw [zo_1 (by omega)]
        exact hk r L st f e
      · have w96 : w < 96 := by
          have : ¬ 96 ≤ w := fun k => z ((zo_le (k := 96) (j := w) (by omega) (by omega)).mpr k)
          omega
        have dv := z_dm96 ⟨v, hv⟩
        have dw := z_dm96 ⟨w, w96⟩
        dsimp only at dv dw
        rw [dv.2, dw.1, dw.2, zo_1 (m := w) (by omega)]
        rw [show 96 - w = (96 - (w + 1)) + 1 by omega, rwl] at e
        refine zp_bind (zp_mono (dbt r v w f hv w96) fun r4 h4 => zp_ite (fun z4 => ih (w + 1) r L (by omega) st f ?_) fun y4 => ?_)
        · rw [hit_n (h4.n z4), List.nil_append] at e
          exact e
        · rw [hit_y (h4.y y4)] at e
          have hl : L.length < 3456 := by
            have k := congrArg List.length e
            rw [List.length_append, List.length_append, List.length_append] at k
            have : ([96 * v + w] : List Nat).length = 1 := rfl
            omega
          have code : Int32.ofNat v * 96 + Int32.ofNat w = Int32.ofNat (96 * v + w) := by
            apply Int32.toInt_inj.mp
            have k : (96 : Int32).toInt = 96 := rfl
            have m := z_ti_mul (a := Int32.ofNat v) (b := 96) (by rw [zo_ti (by omega), k]; omega) (by rw [zo_ti (by omega), k]; omega)
            rw [zo_ti (by omega), k] at m
            rw [z_ti_add (a := Int32.ofNat v * 96) (b := Int32.ofNat w) (by rw [m, zo_ti (by omega)]; omega) (by rw [m, zo_ti (by omega)]; omega), m, zo_ti (by omega), zo_ti (by omega)]
            omega
          rw [code]
          have ad : zp (zf_Numbers_add_c9 r (Int32.ofNat (96 * v + w))) (fun r6 => r6 = zx_up (zx_up r 80 L.length (Int32.ofNat (96 * v + w))) 79 1 (Int32.ofNat (L.length + 1))) := by
            unfold zf_Numbers_add_c9
            rw [st.1, zo_n (by omega), zo_1 (by omega)]
            refine zp_ite (fun k => ?_) fun _ => zp_ite (fun k => ?_) fun _ => zp_chk fun _ => zp_some rfl
            · have := (zo_lt (k := L.length) (j := 0) (by omega) (by omega)).mp k
              omega
            · have := (zo_le (k := 3456) (j := L.length) (by omega) (by omega)).mp k
              omega
          refine zp_bind (zp_mono ad fun r6 h6 => ?_)
          rw [h6]
          refine ih (w + 1) _ (L ++ [96 * v + w]) (by omega) (st.snoc hl) (fun q hq => by rw [zu_other hq.1, zu_other hq.2]; exact f q hq) ?_
          rw [List.append_assoc, ← e, List.append_assoc]
  have go9 : ∀ (n v : Nat) (r : zS) (L : List Nat), v ≤ 96 → STO r L → (∀ q, q ≠ 79 ∧ q ≠ 80 → r q = σ q) → L ++ all (DBT σ c2 len) v (96 - v) = all (DBT σ c2 len) 0 96 → zp (zb_Judge_listDoubts_9 N n r (Int32.ofNat v)) (fun r => STO r (all (DBT σ c2 len) 0 96) ∧ ∀ q, q ≠ 79 ∧ q ≠ 80 → r q = σ q) := by
    intro n
    induction n with
    | zero => intro _ _ _ _ _ _ _; exact zp_none
    | succ n ih =>
      intro v r L hv st f e
      rw [zb_Judge_listDoubts_9]
      refine zp_ite (fun z => zp_some ⟨?_, f⟩) fun z => ?_
      · have v96 : 96 ≤ v := (zo_le (k := 96) (j := v) (by omega) (by omega)).mp z
        rw [show 96 - v = 0 by omega, all, List.append_nil] at e
        rw [← e]
        exact st
      · have v96 : v < 96 := by
          have : ¬ 96 ≤ v := fun k => z ((zo_le (k := 96) (j := v) (by omega) (by omega)).mpr k)
          omega
        have dv := z_dm96 ⟨v, v96⟩
        dsimp only at dv
        have nx : (Int32.ofNat (v / 24) + 1) * 24 = Int32.ofNat (24 * (v / 24 + 1)) := by
          rw [zo_1 (by omega), Int32.mul_comm, zo_24 (by omega)]
        rw [dv.1, nx]
        rw [show 96 - v = (96 - (v + 1)) + 1 by omega, all] at e
        exact in27 _ v _ v96 (fun r' L' st' f' e' => ih (v + 1) r' L' (by omega) st' f' e') N _ r L (by omega) st f e
  unfold zf_Judge_listDoubts zf_Numbers_clear_c9
  refine zp_bind (zp_some (go9 N 0 _ [] (by omega) ⟨?_, fun i y e => ?_⟩ (fun q hq => zu_other hq.1) rfl))
  · rw [zx_up_same, zu_eq]
    rfl
  · simp at e
def FND (R : List Nat) (m : Nat) (x r : Int32) : Prop := (∀ (i y : Nat), R[i]? = some y → x = Int32.ofNat (m + i) → r = Int32.ofNat y) ∧ ((∀ i, i < R.length → x ≠ Int32.ofNat (m + i)) → r = -1)
theorem FND.cons {R : List Nat} {m z : Nat} {x r : Int32} (h : FND R (m + 1) x r) (ne : x ≠ Int32.ofNat m) : FND (z :: R) m x r := by
  refine ⟨fun i y e k => ?_, fun no => h.2 fun i hi k => no (i + 1) (by rw [List.length_cons]; omega) (by rw [k, show m + 1 + i = m + (i + 1) by omega])⟩
  cases i with
  | zero => exact absurd k ne
  | succ i =>
    rw [List.getElem?_cons_succ] at e
    exact h.1 i y e (by rw [k, show m + (i + 1) = m + 1 + i by omega])
theorem FND.hit {R : List Nat} {m z : Nat} {x : Int32} (hm : m + R.length < 90000) (e : x = Int32.ofNat m) : FND (z :: R) m x (Int32.ofNat z) := by
  refine ⟨fun i y g k => ?_, fun no => absurd e (no 0 (by rw [List.length_cons]; omega))⟩
  cases i with
  | zero =>
    rw [List.getElem?_cons_zero] at g
    injection g with g
    rw [g]
  | succ i =>
    rw [List.getElem?_cons_succ] at g
    have hi : i < R.length := by
      by_cases c : i < R.length
      · exact c
      · rw [List.getElem?_eq_none (by omega)] at g
        cases g
    have := zo_inj (k := m) (j := m + (i + 1)) (by omega) (by omega) (e.symm.trans k)
    omega
theorem p_doubtAt {N : Nat} {σ : zS} {c2 : Nat} {len : Nat → Nat} (pj : PJ σ c2 len) (fd : FLD σ) {x1 x2 : Int32} {Q : List Nat → Nat → Int32 → Prop} (q0 : ∀ m, Q [] m (if x2 = 0 then -1 else Int32.ofNat m)) (q1 : ∀ R m z r, (x2 = 0 → ¬ Int32.ofNat m = x1) → Q R (m + 1) r → Q (z :: R) m r) (q2 : ∀ R m z, x2 = 0 → Int32.ofNat m = x1 → m + R.length < 90000 → Q (z :: R) m (Int32.ofNat z)) : zp (zf_M_doubtAt N σ x1 x2) (fun r => Q (all (DBT σ c2 len) 0 96) 0 r) := by
  have hc := pj.1
  have h17 := pj.2.1
  have top : ∀ n v, n ≤ 96 → (all (DBT σ c2 len) v n).length ≤ 9216 := fun n v hn => by
    have a := all_len (P := DBT σ c2 len) n v
    have b : ∀ n v, bnd v n ≤ 96 * n := by
      intro n
      induction n with
      | zero => intro v; rw [bnd]; omega
      | succ n ih => intro v; rw [bnd]; have := ih (v + 1); omega
    have := b n v
    omega
  have in29 : ∀ (k5 : zS → Int32 → Int32 → Int32 → Int32 → Option Int32) (v : Nat) (A : List Nat), v < 24 * c2 → A.length ≤ 9216 → (∀ m, m ≤ 96 * (v + 1) → zp (k5 σ x1 x2 (Int32.ofNat m) (Int32.ofNat (v + 1))) (fun r => Q A m r)) → ∀ (n w m : Nat), w ≤ 96 → 24 * (v / 24 + 1) ≤ w → m ≤ 96 * v + w → zp (zb_M_doubtAt_29 k5 N n σ x1 x2 (Int32.ofNat m) (Int32.ofNat v) (Int32.ofNat w)) (fun r => Q (rwl (DBT σ c2 len) v w (96 - w) ++ A) m r) := by
    intro k5 v A hv hA hk n
    induction n with
    | zero => intro _ _ _ _ _; exact zp_none
    | succ n ih =>
      intro w m hw hvw hm
      have tv : v / 24 < c2 := by omega
      obtain ⟨l24, _, e90⟩ := pj.2.2.1 _ tv
      have dv := z_dm96 ⟨v, by omega⟩
      dsimp only at dv
      rw [zb_M_doubtAt_29, h17, zo_24 hc]
      unfold zb_M_doubtAt_115 zb_M_doubtAt_109 zb_M_doubtAt_106 zb_M_doubtAt_109
      rw [zo_1 (m := v) (by omega), zo_1 (m := w) (by omega), zo_1 (m := m) (by omega), dv.1, dv.2, zo_n (m := v / 24) (by omega), e90]
      have out : (∀ x, w ≤ x → ¬ DBT σ c2 len v x) → zp (k5 σ x1 x2 (Int32.ofNat m) (Int32.ofNat (v + 1))) (fun r => Q (rwl (DBT σ c2 len) v w (96 - w) ++ A) m r) := fun no => by
        rw [rwl_no _ _ no]
        exact hk m (by omega)
      refine zp_ite (fun z => out fun x hx d => ?_) fun z => zp_chk fun _ => zp_ite (fun k => out fun x hx d => ?_) fun k => ?_
      · have := (zo_le (k := 24 * c2) (j := w) (by omega) (by omega)).mp z
        have := d.2.1.1
        omega
      · have := (zo_le (k := len (v / 24)) (j := v % 24) (by omega) (by omega)).mp k
        have := d.1.2
        omega
      · have wl : w < 24 * c2 := by
          have : ¬ 24 * c2 ≤ w := fun k => z ((zo_le (by omega) (by omega)).mpr k)
          omega
        have sv : SLV c2 len v := ⟨tv, by
          have : ¬ len (v / 24) ≤ v % 24 := fun j => k ((zo_le (by omega) (by omega)).mpr j)
          omega⟩
        have tw : w / 24 < c2 := by omega
        obtain ⟨k24, _, f90⟩ := pj.2.2.1 _ tw
        have dw := z_dm96 ⟨w, by omega⟩
        dsimp only at dw
        rw [dw.1, dw.2, zo_n (m := w / 24) (by omega), f90, show 96 - w = (96 - (w + 1)) + 1 by omega, rwl]
        have skip : ¬ DBT σ c2 len v w → zp (zb_M_doubtAt_29 k5 N n σ x1 x2 (Int32.ofNat m) (Int32.ofNat v) (Int32.ofNat (w + 1))) (fun r => Q (hit (DBT σ c2 len v w) (96 * v + w) ++ rwl (DBT σ c2 len) v (w + 1) (96 - (w + 1)) ++ A) m r) := fun no => by
          rw [hit_n no, List.nil_append]
          exact ih (w + 1) m (by omega) (by omega) (by omega)
        refine zp_chk fun _ => zp_ite (fun j => skip fun d => ?_) fun j => ?_
        · have := (zo_le (k := len (w / 24)) (j := w % 24) (by omega) (by omega)).mp j
          have := d.2.1.2
          omega
        · have sw : SLV c2 len w := ⟨tw, by
            have : ¬ len (w / 24) ≤ w % 24 := fun i => j ((zo_le (by omega) (by omega)).mpr i)
            omega⟩
          refine zp_bind (zp_mono (p_isDoubt pj fd sv sw (by omega)) fun r8 h8 => zp_ite (fun z8 => skip (h8.n z8)) fun y8 => ?_)
          rw [hit_y (h8.y y8)]
          show zp _ (fun r => Q ((96 * v + w) :: (rwl (DBT σ c2 len) v (w + 1) (96 - (w + 1)) ++ A)) m r)
          have nxt : (x2 = 0 → ¬ Int32.ofNat m = x1) → zp (zb_M_doubtAt_29 k5 N n σ x1 x2 (Int32.ofNat (m + 1)) (Int32.ofNat v) (Int32.ofNat (w + 1))) (fun r => Q ((96 * v + w) :: (rwl (DBT σ c2 len) v (w + 1) (96 - (w + 1)) ++ A)) m r) := fun h => zp_mono (ih (w + 1) (m + 1) (by omega) (by omega) (by omega)) fun r hr => q1 _ _ _ _ h hr
          refine zp_ite (fun n2 => nxt fun e => absurd e n2) fun z2 => zp_ite (fun n1 => nxt fun _ => n1) fun z1 => zp_some ?_
          have code : 96 * Int32.ofNat v + Int32.ofNat w = Int32.ofNat (96 * v + w) := by
            apply Int32.toInt_inj.mp
            have k : (96 : Int32).toInt = 96 := rfl
            have mm := z_ti_mul (a := 96) (b := Int32.ofNat v) (by rw [zo_ti (by omega), k]; omega) (by rw [zo_ti (by omega), k]; omega)
            rw [zo_ti (by omega), k] at mm
            rw [z_ti_add (a := 96 * Int32.ofNat v) (b := Int32.ofNat w) (by rw [mm, zo_ti (by omega)]; omega) (by rw [mm, zo_ti (by omega)]; omega), mm, zo_ti (by omega), zo_ti (by omega)]
            omega
          rw [code]
          refine q2 _ _ _ (Classical.not_not.mp z2) (Classical.not_not.mp z1) ?_
          have := rwl_len (P := DBT σ c2 len) (v := v) (96 - (w + 1)) (w + 1)
          rw [List.length_append]
          omega
  unfold zf_M_doubtAt
  have go5 : ∀ (n v m : Nat), v ≤ 96 → m ≤ 96 * v → zp (zb_M_doubtAt_5 N n σ x1 x2 (Int32.ofNat m) (Int32.ofNat v)) (fun r => Q (all (DBT σ c2 len) v (96 - v)) m r) := by
    intro n
    induction n with
    | zero => intro _ _ _ _; exact zp_none
    | succ n ih =>
      intro v m hv hm
      rw [zb_M_doubtAt_5, h17, zo_24 hc]
      refine zp_ite (fun z => ?_) fun z => ?_
      · have := (zo_le (k := 24 * c2) (j := v) (by omega) (by omega)).mp z
        rw [all_no _ _ fun x hx w d => by have := d.1.1; omega]
        have k := q0 m
        refine zp_ite (fun e => zp_some ?_) fun e => zp_some ?_
        · rw [if_pos e] at k; exact k
        · rw [if_neg e] at k; exact k
      · have vl : v < 24 * c2 := by
          have : ¬ 24 * c2 ≤ v := fun k => z ((zo_le (by omega) (by omega)).mpr k)
          omega
        have dv := z_dm96 ⟨v, by omega⟩
        dsimp only at dv
        rw [dv.1, zo_1 (m := v / 24) (by omega), zo_24 (by omega), show 96 - v = (96 - (v + 1)) + 1 by omega, all]
        exact in29 _ v _ vl (top _ _ (by omega)) (fun m' hm' => ih (v + 1) m' (by omega) hm') N _ m (by omega) (Nat.le_refl _) (by omega)
  exact go5 N 0 0 (by omega) (by omega)
