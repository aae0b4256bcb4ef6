/-! The component fills its rows: MAY and SURE of a NODE, those below being there. -/
theorem zp_p1 {a : Nat} (h : 0 < a) : nI a + (-1) = nI (a - 1) := by rw [← zp_n1 h, Int32.sub_eq_add_neg]
theorem zp_m1_t {E : zp_E} {o k : Nat} {t t' : Nat → Bool × Bool} (hw : zp_wf1 E.1 k) (h : ∀ p, p < k → t p = t' p) : zp_m1 E o t k = zp_m1 E o t' k := by
  obtain ⟨w0, w1, w2, -, -, -, -, w4, w5, w6, -⟩ := hw
  have hb : ∀ (a a' b b' : Nat → Bool), (∀ p, p < k → a p = a' p) → (∀ p, p < k → b p = b' p) → zp_bs E.1 k a b = zp_bs E.1 k a' b' := by
    intro a a' b b' ha hb
    have hc : ∀ m, m ≤ zp_mn E.1 k → zp_cnt E.1 k a m = zp_cnt E.1 k a' m := by
      intro m
      induction m with
      | zero => intro _; rfl
      | succ m ih =>
        intro hm
        show zp_cnt E.1 k a m + _ = zp_cnt E.1 k a' m + _
        rw [ih (by omega), ha _ (w2 m (by omega)).1]
    unfold zp_bs
    rw [hc _ (Nat.le_refl _)]
    congr 1
    refine zp_all_congr (fun i hi => ?_)
    rw [ha _ (w2 i hi).1, hb _ (w2 i hi).1]
  have hf : zp_kd E.1 k = 4 ∨ zp_kd E.1 k = 5 ∨ zp_kd E.1 k = 6 → zp_fs E.1 k < k := by
    rintro (e | e | e)
    · have := w4 e; rw [← this.2.2.1]; exact (w2 0 (by omega)).1
    · have := w5 e; rw [← this.2.2.2.1]; exact (w2 0 (by omega)).1
    · have := w6 e; rw [← this.2.2.1]; exact (w2 0 (by omega)).1
  unfold zp_m1
  rcases (show zp_kd E.1 k = 0 ∨ zp_kd E.1 k = 1 ∨ zp_kd E.1 k = 2 ∨ zp_kd E.1 k = 3 ∨ zp_kd E.1 k = 4 ∨ zp_kd E.1 k = 5 ∨ zp_kd E.1 k = 6 ∨ zp_kd E.1 k = 7 by omega) with e | e | e | e | e | e | e | e
  · rw [e]; rfl
  · rw [e]; rfl
  · rw [e]
    show (_, _) = (_, _)
    rw [hb (fun p => (t p).1) (fun p => (t' p).1) (fun p => (t p).2) (fun p => (t' p).2) (fun p hp => by rw [h p hp]) (fun p hp => by rw [h p hp]), hb (fun p => (t p).2) (fun p => (t' p).2) (fun p => (t p).1) (fun p => (t' p).1) (fun p hp => by rw [h p hp]) (fun p hp => by rw [h p hp])]
  · rw [e]
    show (_, _) = (_, _)
    rw [zp_any_congr (f := fun i => (t (zp_pt E.1 k i)).1) (g := fun i => (t' (zp_pt E.1 k i)).1) (fun i hi => by rw [h _ (w2 i hi).1]), zp_any_congr (f := fun i => (t (zp_pt E.1 k i)).2) (g := fun i => (t' (zp_pt E.1 k i)).2) (fun i hi => by rw [h _ (w2 i hi).1])]
  · rw [e]; exact h _ (hf (by omega))
  · rw [e]
    show ((t (zp_fs E.1 k)).1, false) = ((t' (zp_fs E.1 k)).1, false)
    rw [h _ (hf (by omega))]
  · rw [e]
    show (match E.2.2.2 k with | some q => (q.2 o, q.2 o) | none => t (zp_fs E.1 k)) = (match E.2.2.2 k with | some q => (q.2 o, q.2 o) | none => t' (zp_fs E.1 k))
    rw [h _ (hf (by omega))]
  · rw [e]; rfl
theorem zp_ms {E : zp_E} {k : Nat} (hw : zp_wf1 E.1 k) (o : Nat) : (zp_may E o k, zp_sure E o k) = zp_m1 E o (fun p => (zp_may E o p, zp_sure E o p)) k := by
  rw [← zp_mt_at E o (Nat.lt_succ_self k)]
  show (if k = k then _ else _) = _
  rw [if_pos rfl]
  exact zp_m1_t hw (fun p hp => zp_mt_at E o hp)
theorem zp_ms' {E : zp_E} {k : Nat} (hw : zp_wf1 E.1 k) {o : Nat} {a b : Bool} (h : zp_m1 E o (fun p => (zp_may E o p, zp_sure E o p)) k = (a, b)) : zp_may E o k = a ∧ zp_sure E o k = b := by
  rw [← zp_ms hw] at h
  exact ⟨congrArg Prod.fst h, congrArg Prod.snd h⟩
theorem zp_ms0 {E : zp_E} {k : Nat} (hw : zp_wf1 E.1 k) (e : zp_kd E.1 k = 0) (o : Nat) : zp_may E o k = (E.2.1 (zp_fs E.1 k) o).isSome ∧ zp_sure E o k = (E.2.1 (zp_fs E.1 k) o).isSome := zp_ms' hw (by unfold zp_m1; rw [e]; rfl)
theorem zp_ms1 {E : zp_E} {k : Nat} (hw : zp_wf1 E.1 k) (e : zp_kd E.1 k = 1) (o : Nat) : zp_may E o k = decide (zp_fs E.1 k ≤ o ∧ o ≤ zp_sc E.1 k) ∧ zp_sure E o k = decide (zp_fs E.1 k ≤ o ∧ o ≤ zp_sc E.1 k) := zp_ms' hw (by unfold zp_m1; rw [e]; rfl)
theorem zp_ms2 {E : zp_E} {k : Nat} (hw : zp_wf1 E.1 k) (e : zp_kd E.1 k = 2) (o : Nat) : zp_may E o k = zp_bs E.1 k (zp_may E o) (zp_sure E o) ∧ zp_sure E o k = zp_bs E.1 k (zp_sure E o) (zp_may E o) := zp_ms' hw (by unfold zp_m1; rw [e]; rfl)
theorem zp_ms3 {E : zp_E} {k : Nat} (hw : zp_wf1 E.1 k) (e : zp_kd E.1 k = 3) (o : Nat) : zp_may E o k = (List.range (zp_mn E.1 k)).any (fun i => zp_may E o (zp_pt E.1 k i)) ∧ zp_sure E o k = (List.range (zp_mn E.1 k)).any (fun i => zp_sure E o (zp_pt E.1 k i)) := zp_ms' hw (by unfold zp_m1; rw [e]; rfl)
theorem zp_ms4 {E : zp_E} {k : Nat} (hw : zp_wf1 E.1 k) (e : zp_kd E.1 k = 4) (o : Nat) : zp_may E o k = zp_may E o (zp_fs E.1 k) ∧ zp_sure E o k = zp_sure E o (zp_fs E.1 k) := zp_ms' hw (by unfold zp_m1; rw [e]; rfl)
theorem zp_ms5 {E : zp_E} {k : Nat} (hw : zp_wf1 E.1 k) (e : zp_kd E.1 k = 5) (o : Nat) : zp_may E o k = zp_may E o (zp_fs E.1 k) ∧ zp_sure E o k = false := zp_ms' hw (by unfold zp_m1; rw [e]; rfl)
theorem zp_ms6s {E : zp_E} {k : Nat} (hw : zp_wf1 E.1 k) (e : zp_kd E.1 k = 6) {q : Nat × (Nat → Bool)} (hq : E.2.2.2 k = some q) (o : Nat) : zp_may E o k = q.2 o ∧ zp_sure E o k = q.2 o := zp_ms' hw (by unfold zp_m1; rw [e]; show (match E.2.2.2 k with | some q => (q.2 o, q.2 o) | none => _) = _; rw [hq])
theorem zp_ms6n {E : zp_E} {k : Nat} (hw : zp_wf1 E.1 k) (e : zp_kd E.1 k = 6) (hq : E.2.2.2 k = none) (o : Nat) : zp_may E o k = zp_may E o (zp_fs E.1 k) ∧ zp_sure E o k = zp_sure E o (zp_fs E.1 k) := zp_ms' hw (by unfold zp_m1; rw [e]; show (match E.2.2.2 k with | some q => (q.2 o, q.2 o) | none => _) = _; rw [hq])
theorem zp_ms7 {E : zp_E} {k : Nat} (hw : zp_wf1 E.1 k) (e : zp_kd E.1 k = 7) (o : Nat) : zp_may E o k = false ∧ zp_sure E o k = false := zp_ms' hw (by unfold zp_m1; rw [e]; rfl)
theorem zp_wf1.one {S : zp_S} {k : Nat} (h : zp_wf1 S k) (e : zp_kd S k = 4 ∨ zp_kd S k = 5 ∨ zp_kd S k = 6) : zp_mn S k = 1 ∧ zp_pt S k 0 = zp_fs S k ∧ zp_ro S k 0 = 0 ∧ zp_fs S k < k := by
  obtain ⟨w0, w1, w2, -, -, -, -, w4, w5, w6, -⟩ := h
  rcases e with e | e | e
  · obtain ⟨-, a, b, c⟩ := w4 e; exact ⟨a, b, c, by rw [← b]; exact (w2 0 (by omega)).1⟩
  · obtain ⟨-, -, a, b, c⟩ := w5 e; exact ⟨a, b, c, by rw [← b]; exact (w2 0 (by omega)).1⟩
  · obtain ⟨-, a, b, c⟩ := w6 e; exact ⟨a, b, c, by rw [← b]; exact (w2 0 (by omega)).1⟩
/-- what the component's bounds rest on: of n NODES, there may be more -/
def zp_NCb (σ : zv_St) (n : Nat) (S : zp_S) : Prop := ∀ k, k < n → σ.1 6 k = nI (zp_kd S k) ∧ σ.1 7 k = nI (zp_fs S k) ∧ σ.1 8 k = nI (zp_sc S k) ∧ σ.1 10 k = nI (zp_mn S k) ∧ ∀ i, i < zp_mn S k → σ.1 11 (k * 8 + i) = nI (zp_ro S k i) ∧ σ.1 12 (k * 8 + i) = nI (zp_pt S k i)
def zp_KCb (σ : zv_St) (n : Nat) (K : Nat → Option (Nat × (Nat → Bool))) : Prop := ∀ k, k < n → match K k with
  | none => σ.1 16 k = 0
  | some q => σ.1 16 k = 1 ∧ σ.1 17 k = nI q.1 ∧ ∀ o, o < 512 → zp_bit (σ.2 15) k o = q.2 o
theorem zp_NCb.ch {zs : List Nat} {σ σ' : zv_St} {n : Nat} {S : zp_S} (h : zp_NCb σ n S) (hc : zp_ch zs σ σ') (hd : ([6, 7, 8, 10, 11, 12] : List Nat).all (fun c => !zs.contains c) = true) : zp_NCb σ' n S := by
  have e := hc.of hd
  unfold zp_NCb
  rw [(e 6 (by decide)).1, (e 7 (by decide)).1, (e 8 (by decide)).1, (e 10 (by decide)).1, (e 11 (by decide)).1, (e 12 (by decide)).1]
  exact h
theorem zp_KCb.ch {zs : List Nat} {σ σ' : zv_St} {n : Nat} {K : Nat → Option (Nat × (Nat → Bool))} (h : zp_KCb σ n K) (hc : zp_ch zs σ σ') (hd : ([15, 16, 17] : List Nat).all (fun c => !zs.contains c) = true) : zp_KCb σ' n K := by
  have e := hc.of hd
  unfold zp_KCb
  rw [(e 15 (by decide)).2, (e 16 (by decide)).1, (e 17 (by decide)).1]
  exact h
def zp_CS (σ : zv_St) (n : Nat) (E : zp_E) : Prop := zp_wf n E.1 ∧ (True ∧ zp_NCb σ n E.1) ∧ zp_LC σ E.2.1 E.2.2.1 ∧ zp_LW E.2.1 E.2.2.1 ∧ (zp_KCb σ n E.2.2.2 ∧ True) ∧ zp_KW n E.1 E.2.2.2
theorem zp_CS.ch {zs : List Nat} {σ σ' : zv_St} {n : Nat} {E : zp_E} (h : zp_CS σ n E) (hc : zp_ch zs σ σ') (hd : ([5, 6, 7, 8, 10, 11, 12, 2, 3, 4, 15, 16, 17] : List Nat).all (fun c => !zs.contains c) = true) : zp_CS σ' n E := by
  obtain ⟨a, b, c, d, e, f⟩ := h
  simp only [List.all_cons, List.all_nil, Bool.and_true, Bool.and_eq_true] at hd
  obtain ⟨h5, h6, h7, h8, h10, h11, h12, h2, h3, h4, h15, h16, h17⟩ := hd
  exact ⟨a, ⟨trivial, b.2.ch hc (by simp only [List.all_cons, List.all_nil, Bool.and_true, Bool.and_eq_true]; exact ⟨h6, h7, h8, h10, h11, h12⟩)⟩, c.ch hc (by simp only [List.all_cons, List.all_nil, Bool.and_true, Bool.and_eq_true]; exact ⟨h2, h3, h4⟩), d, ⟨e.1.ch hc (by simp only [List.all_cons, List.all_nil, Bool.and_true, Bool.and_eq_true]; exact ⟨h15, h16, h17⟩), trivial⟩, f⟩
theorem zp_CS.le {σ : zv_St} {n m : Nat} {E : zp_E} (h : zp_CS σ n E) (hm : m ≤ n) : zp_CS σ m E := by
  obtain ⟨a, b, c, d, e, f⟩ := h
  exact ⟨⟨by have := a.1; omega, fun k hk => a.2 k (by omega)⟩, ⟨trivial, fun k hk => b.2 k (by omega)⟩, c, d, ⟨fun k hk => e.1 k (by omega), trivial⟩, fun k hk => f k (by omega)⟩
/-- both rows of k -/
def zp_r2 (k : Nat) (f g : Nat → Bool) (σ σ' : zv_St) : Prop := zp_ch [21, 23, 26] σ σ' ∧ (∀ j, j / 8 ≠ k → σ'.2 21 j = σ.2 21 j ∧ σ'.2 23 j = σ.2 23 j) ∧ ∀ o, o < 512 → zp_bit (σ'.2 21) k o = f o ∧ zp_bit (σ'.2 23) k o = g o
theorem zp_r2.tr {k : Nat} {f g f' g' : Nat → Bool} {σ σ1 σ2 : zv_St} (h1 : zp_r2 k f g σ σ1) (h2 : zp_r2 k f' g' σ1 σ2) : zp_r2 k f' g' σ σ2 := ⟨h1.1.tr h2.1, fun j hj => ⟨(h2.2.1 j hj).1.trans (h1.2.1 j hj).1, (h2.2.1 j hj).2.trans (h1.2.1 j hj).2⟩, h2.2.2⟩
theorem zp_r2.cg {k : Nat} {f g f' g' : Nat → Bool} {σ σ1 : zv_St} (h1 : zp_r2 k f g σ σ1) (h2 : ∀ o, o < 512 → f o = f' o ∧ g o = g' o) : zp_r2 k f' g' σ σ1 := ⟨h1.1, h1.2.1, fun o ho => ⟨((h1.2.2 o ho).1).trans (h2 o ho).1, ((h1.2.2 o ho).2).trans (h2 o ho).2⟩⟩
theorem zp_r2.bit {k : Nat} {f g : Nat → Bool} {σ σ' : zv_St} (h : zp_r2 k f g σ σ') {j : Nat} (hj : j ≠ k) {o : Nat} (ho : o < 512) : zp_bit (σ'.2 21) j o = zp_bit (σ.2 21) j o ∧ zp_bit (σ'.2 23) j o = zp_bit (σ.2 23) j o := by
  rw [zp_bit_bt, zp_bit_bt, zp_bit_bt, zp_bit_bt, (h.2.1 _ (by omega)).1, (h.2.1 _ (by omega)).2]
  exact ⟨rfl, rfl⟩
theorem zp_r2.of {k : Nat} {f g : Nat → Bool} {σ σ1 σ2 : zv_St} (h1 : zp_rw 21 k f σ σ1) (h2 : zp_rw 23 k g σ1 σ2) : zp_r2 k f g σ σ2 := by
  have a23 := (h1.1 23 (by decide)).2
  have a21 := (h2.1 21 (by decide)).2
  refine ⟨(h1.1.mono (by decide)).tr (h2.1.mono (by decide)), fun j hj => ⟨?_, ?_⟩, fun o ho => ⟨?_, h2.2.2 o ho⟩⟩
  · rw [a21]; exact h1.2.1 j hj
  · rw [h2.2.1 j hj, a23]
  · rw [a21]; exact h1.2.2 o ho
section FILL
variable {σ : zv_St} {Q : zv_St → Prop} {k o n : Nat} {E : zp_E}
theorem zp_addToBoth (hk : k < 80) (ho : o < 512) (q : ∀ σ', zp_r2 k (fun o' => zp_bit (σ.2 21) k o' || decide (o' = o)) (fun o' => zp_bit (σ.2 23) k o' || decide (o' = o)) σ σ' → Q σ') : B_X0_addToBoth Q (nI k) (nI o) σ := by
  refine zp_add_20 hk ho (fun σ1 h1 => zp_add_22 hk ho (fun σ2 h2 => q σ2 ?_))
  rw [(h1.1 23 (by decide)).2] at h2
  exact zp_r2.of h1 h2
theorem zp_all_succ (f : Nat → Bool) (i : Nat) : (List.range (i + 1)).all f = ((List.range i).all f && f i) := by
  rw [List.range_succ, List.all_append]; simp
theorem zp_fillByList (hS : zp_CS σ n E) (hk : k < n) (e : zp_kd E.1 k = 0) (h0 : ∀ o, o < 512 → zp_bit (σ.2 21) k o = false ∧ zp_bit (σ.2 23) k o = false) (q : ∀ σ', zp_r2 k (fun o => zp_may E o k) (fun o => zp_sure E o k) σ σ' → Q σ') : B_X0_fillByList Q (nI k) σ := by
  have hn := hS.1.1
  have hw := hS.1.2 k hk
  obtain ⟨hf, -, -⟩ := hw.2.2.2.1 e
  refine zp_a_first (by omega) (hS.2.1.2 k hk).2.1 ?_
  obtain ⟨l1, l2, l3, l4⟩ := hS.2.2.1 (zp_fs E.1 k) hf
  have lz := (hS.2.2.2.1 (zp_fs E.1 k) hf).1
  have hm := zp_ms0 hw e
  generalize zp_fs E.1 k = l at hf l1 l2 l3 l4 lz hm ⊢
  refine zp_for (L := fun u i σ' => L_X0_fillByList_11 Q u (nI k) (nI l) (nI i) σ') (E.2.2.1 l) (fun i σ' => zp_r2 k (fun o => (List.range i).any (fun j => decide (σ.1 2 (l * 60 + j) = nI o))) (fun o => (List.range i).any (fun j => decide (σ.1 2 (l * 60 + j) = nI o))) σ σ') (fun u σ' h => ?_) (fun u i σ' hi h ih => ?_) 0 σ ⟨zp_ch.rf, fun _ _ => ⟨rfl, rfl⟩, h0⟩ (Nat.zero_le _)
  · have e4 := congrFun (h.1 4 (by decide)).1 l
    unfold L_X0_fillByList_11
    refine zp_a_lsize hf (e4.trans l1) ?_
    refine zp_t (nI_le (Nat.le_refl _) (by omega)) (q σ' (h.cg (fun o ho => ?_)))
    rw [(hm o).1, (hm o).2]
    have : (List.range (E.2.2.1 l)).any (fun j => decide (σ.1 2 (l * 60 + j) = nI o)) = (E.2.1 l o).isSome := by
      rw [Bool.eq_iff_iff, List.any_eq_true]
      constructor
      · rintro ⟨j, hj, hx⟩
        obtain ⟨o', v, ho', b1, b2, b3⟩ := l2 j (List.mem_range.mp hj)
        have hx := of_decide_eq_true hx
        rw [b1] at hx
        rw [← zp_ninj (by omega) (by omega) hx, b3]; rfl
      · intro hx
        obtain ⟨v, hv⟩ := Option.isSome_iff_exists.mp hx
        obtain ⟨j, hj, b1⟩ := l4 o v ho hv
        exact ⟨j, List.mem_range.mpr hj, decide_eq_true b1⟩
    exact ⟨this, this⟩
  · have e4 := congrFun (h.1 4 (by decide)).1 l
    have e2 := congrFun (h.1 2 (by decide)).1 (l * 60 + i)
    obtain ⟨o, v, ho, b1, -, -⟩ := l2 i hi
    unfold L_X0_fillByList_11
    refine zp_a_lsize hf (e4.trans l1) ?_
    refine zp_f (nI_ge hi (by omega)) ?_
    unfold B_X3_objectAt
    rw [zp_m60, nI_add]
    refine ⟨vp_in_nI (by omega) (by decide), ?_⟩
    rw [nI_clamp (by omega), e2, b1]
    refine zp_addToBoth (by omega) ho (fun σ1 h1 => ?_)
    rw [nI_1]
    refine ih σ1 ((h.tr h1).cg (fun o' ho' => ?_))
    rw [zp_any_succ, (h.2.2 o' ho').1, (h.2.2 o' ho').2, b1]
    have : decide (o' = o) = decide (nI o = nI o') := decide_eq_decide.mpr ⟨fun q => by rw [q], fun q => (zp_ninj (by omega) (by omega) q).symm⟩
    rw [this]
    exact ⟨rfl, rfl⟩
theorem zp_fillByRange (hS : zp_CS σ n E) (hk : k < n) (e : zp_kd E.1 k = 1) (h0 : ∀ o, o < 512 → zp_bit (σ.2 21) k o = false ∧ zp_bit (σ.2 23) k o = false) (q : ∀ σ', zp_r2 k (fun o => zp_may E o k) (fun o => zp_sure E o k) σ σ' → Q σ') : B_X0_fillByRange Q (nI k) σ := by
  have hn := hS.1.1
  have hw := hS.1.2 k hk
  obtain ⟨hf, hs, -⟩ := hw.2.2.2.2.1 e
  have hm := zp_ms1 hw e
  have l2 := (hS.2.1.2 k hk).2.2.1
  refine zp_a_first (by omega) (hS.2.1.2 k hk).2.1 ?_
  refine zp_for (L := fun u i σ' => L_X0_fillByRange_9 Q u (nI k) (nI i) σ') (zp_sc E.1 k + 1) (fun i σ' => zp_fs E.1 k ≤ i ∧ zp_r2 k (fun o => decide (zp_fs E.1 k ≤ o ∧ o < i)) (fun o => decide (zp_fs E.1 k ≤ o ∧ o < i)) σ σ') (fun u σ' h => ?_) (fun u i σ' hi h ih => ?_) (zp_fs E.1 k) σ ⟨Nat.le_refl _, zp_ch.rf, fun _ _ => ⟨rfl, rfl⟩, fun o ho => ?_⟩ (by omega)
  · have e8 := congrFun (h.2.1 8 (by decide)).1 k
    unfold L_X0_fillByRange_9
    refine zp_a_second (by omega) (e8.trans l2) ?_
    refine zp_t (nI_lt (by omega) (by omega)) (q σ' (h.2.cg (fun o ho => ?_)))
    rw [(hm o).1, (hm o).2, decide_eq_decide]
    omega
  · have e8 := congrFun (h.2.1 8 (by decide)).1 k
    unfold L_X0_fillByRange_9
    refine zp_a_second (by omega) (e8.trans l2) ?_
    refine zp_f (nI_nlt (by omega) (by omega)) ?_
    refine zp_addToBoth (by omega) (by omega) (fun σ1 h1 => ?_)
    rw [nI_1]
    refine ih σ1 ⟨by omega, (h.2.tr h1).cg (fun o' ho' => ?_)⟩
    rw [(h.2.2.2 o' ho').1, (h.2.2.2 o' ho').2, ← Bool.decide_or, decide_eq_decide]
    omega
  · rw [(h0 o ho).1, (h0 o ho).2, eq_comm, decide_eq_false_iff_not]
    omega
/-- what is there of the rows below -/
def zp_RD (σ : zv_St) (E : zp_E) (r : Nat) : Prop := ∀ k, k < r → ∀ o, o < 512 → zp_bit (σ.2 21) k o = zp_may E o k ∧ zp_bit (σ.2 23) k o = zp_sure E o k
theorem zp_joinParts (hS : zp_CS σ n E) (hk : k < n) (hR : zp_RD σ E k) (h0 : ∀ o, o < 512 → zp_bit (σ.2 21) k o = false ∧ zp_bit (σ.2 23) k o = false) (q : ∀ σ', zp_r2 k (fun o => (List.range (zp_mn E.1 k)).any (fun i => zp_may E o (zp_pt E.1 k i))) (fun o => (List.range (zp_mn E.1 k)).any (fun i => zp_sure E o (zp_pt E.1 k i))) σ σ' → Q σ') : B_X0_joinParts Q (nI k) σ := by
  have hn := hS.1.1
  have hw := hS.1.2 k hk
  obtain ⟨w0, w1, w2, -⟩ := hw
  obtain ⟨-, -, -, l4, l5⟩ := hS.2.1.2 k hk
  refine zp_for (L := fun u i σ' => L_X0_joinParts_2 Q u (nI k) (nI i) σ') (zp_mn E.1 k) (fun i σ' => zp_r2 k (fun o => (List.range i).any (fun i => zp_may E o (zp_pt E.1 k i))) (fun o => (List.range i).any (fun i => zp_sure E o (zp_pt E.1 k i))) σ σ') (fun u σ' h => ?_) (fun u i σ' hi h ih => ?_) 0 σ ⟨zp_ch.rf, fun _ _ => ⟨rfl, rfl⟩, h0⟩ (Nat.zero_le _)
  · have e10 := congrFun (h.1 10 (by decide)).1 k
    unfold L_X0_joinParts_2
    refine zp_a_size (by omega) (e10.trans l4) ?_
    exact zp_t (nI_le (Nat.le_refl _) (by omega)) (q σ' h)
  · have e10 := congrFun (h.1 10 (by decide)).1 k
    have e12 := congrFun (h.1 12 (by decide)).1 (k * 8 + i)
    obtain ⟨v1, v2⟩ := w2 i hi
    unfold L_X0_joinParts_2
    refine zp_a_size (by omega) (e10.trans l4) ?_
    refine zp_f (nI_ge hi (by omega)) ?_
    refine zp_a_partAt (by omega) (by omega) (e12.trans (l5 i hi).2) ?_
    refine zp_join_20_20 (by omega) (by omega) (by omega) (fun σ1 h1 => ?_)
    refine zp_a_partAt (by omega) (by omega) ((congrFun (h1.1 12 (by decide)).1 (k * 8 + i)).trans (e12.trans (l5 i hi).2)) ?_
    refine zp_join_22_22 (by omega) (by omega) (by omega) (fun σ2 h2 => ?_)
    rw [nI_1]
    rw [(h1.1 23 (by decide)).2] at h2
    refine ih σ2 ((h.tr (zp_r2.of h1 h2)).cg (fun o' ho' => ?_))
    have b1 := h.bit (show zp_pt E.1 k i ≠ k by omega) ho'
    have b2 := hR _ v1 o' ho'
    rw [zp_any_succ, zp_any_succ, (h.2.2 o' ho').1, (h.2.2 o' ho').2, b1.1, b1.2, b2.1, b2.2]
    exact ⟨rfl, rfl⟩
theorem zp_fillByKept (hS : zp_CS σ n E) (hk : k < n) (e : zp_kd E.1 k = 6) (hR : zp_RD σ E k) (h0 : ∀ o, o < 512 → zp_bit (σ.2 21) k o = false ∧ zp_bit (σ.2 23) k o = false) (q : ∀ σ', zp_r2 k (fun o => zp_may E o k) (fun o => zp_sure E o k) σ σ' → Q σ') : B_X0_fillByKept Q (nI k) σ := by
  have hn := hS.1.1
  have hw := hS.1.2 k hk
  have hK := hS.2.2.2.2.1.1 k hk
  cases hq : E.2.2.2 k with
  | none =>
    rw [hq] at hK
    obtain ⟨o1, o2, -, -⟩ := hw.one (by omega)
    refine zp_a_isThere (b := false) (by omega) hK (zp_t rfl (zp_joinParts hS hk hR h0 (fun σ' h => q σ' (h.cg (fun o ho => ?_)))))
    rw [(zp_ms6n hw e hq o).1, (zp_ms6n hw e hq o).2, o1, zp_any_succ, zp_any_succ, o2]
    exact ⟨rfl, rfl⟩
  | some p =>
    rw [hq] at hK
    refine zp_a_isThere (b := true) (by omega) hK.1 (zp_f (by decide) ?_)
    refine zp_join_20_14 (by omega) (by omega) (fun σ1 h1 => ?_)
    refine zp_join_22_14 (by omega) (by omega) (fun σ2 h2 => ?_)
    rw [(h1.1 23 (by decide)).2, (h1.1 15 (by decide)).2] at h2
    refine q σ2 ((zp_r2.of h1 h2).cg (fun o ho => ?_))
    rw [(h0 o ho).1, (h0 o ho).2, hK.2.2 o ho, (zp_ms6s hw e hq o).1, (zp_ms6s hw e hq o).2]
    exact ⟨rfl, rfl⟩
theorem zp_countIn {x : Int64} {m : Nat} (hm : m ≤ 8) (q : ∀ σ', zp_ch [26] σ σ' → σ'.2 26 0 = σ.2 26 0 → (∀ j, 0 < j → j ≤ m → σ'.2 26 j = (σ.2 26 j ||| (σ.2 26 (j - 1) &&& x))) → Q σ') : B_X0_countIn Q x (nI m) σ := by
  refine ⟨m + 1, zp_iter (L := fun u (a : Nat × zv_St) => L_X0_countIn_3 Q u x (nI a.1) a.2) (fun i a => a.1 = i ∧ i ≤ m ∧ zp_ch [26] σ a.2 ∧ (∀ j, j ≤ i → a.2.2 26 j = σ.2 26 j) ∧ ∀ j, i < j → j ≤ m → a.2.2 26 j = (σ.2 26 j ||| (σ.2 26 (j - 1) &&& x))) ?_ m (m, σ) ⟨rfl, Nat.le_refl _, zp_ch.rf, fun _ _ => rfl, fun j h1 h2 => by omega⟩⟩
  rintro i u ⟨i', σ'⟩ ⟨hi, him, h1, h2, h3⟩ ih
  simp only at hi h1 h2 h3
  subst hi
  by_cases e : i' = 0
  · subst e
    exact zp_t (show nI 0 ≤ (0 : Int32) by decide) (q σ' h1 (h2 0 (Nat.le_refl _)) (fun j hj hjm => h3 j hj hjm))
  · refine zp_f (nI_nle (by omega) (by omega)) ?_
    rw [zp_n1 (by omega), zp_p1 (by omega)]
    refine ⟨vp_in_nI (by omega) (by decide), vp_in_nI (by omega) (by decide), vp_in_nI (by omega) (by decide), ?_⟩
    rw [nI_clamp (n := i') (by omega), nI_clamp (n := i' - 1) (by omega)]
    rintro σ1 rfl
    refine ih (i' - 1, zv_wl σ' 26 i' (σ'.2 26 i' ||| (σ'.2 26 (i' - 1) &&& x))) (by omega) ⟨rfl, by omega, h1.tr (zp_ch.wl (List.mem_cons_self ..)), fun j hj => ?_, fun j hj hjm => ?_⟩
    · show (zv_wl σ' 26 i' _).2 26 j = _
      rw [zp_rl, if_neg (by omega)]; exact h2 j (by omega)
    · show (zv_wl σ' 26 i' _).2 26 j = _
      rw [zp_rl]
      by_cases ej : j = i'
      · subst ej
        rw [if_pos ⟨rfl, rfl⟩, h2 _ (Nat.le_refl _), h2 _ (by omega)]
      · rw [if_neg (by omega)]; exact h3 j (by omega) hjm
theorem zp_fill26 (q : ∀ σ', zp_ch [26] σ σ' → (∀ j, j < 9 → σ'.2 26 j = 0) → Q σ') : B_J7_fill_d0a16 Q 0 σ := by
  refine zp_for (L := fun u i σ' => L_J7_fill_d0a16_6 Q u 0 (nI i) 9 σ') 9 (fun i σ' => zp_ch [26] σ σ' ∧ ∀ j, j < i → σ'.2 26 j = 0) (fun u σ' h => zp_t (by decide) (q σ' h.1 h.2)) (fun u i σ' hi h ih => ?_) 0 σ ⟨zp_ch.rf, fun j hj => by omega⟩ (by decide)
  refine zp_f (nI_ge (b := 9) hi (by decide)) ⟨vp_in_nI (by omega) (by decide), ?_⟩
  rw [nI_clamp (by omega), nI_1]
  rintro σ1 rfl
  refine ih _ ⟨h.1.tr (zp_ch.wl (List.mem_cons_self ..)), fun j hj => ?_⟩
  rw [zp_rl]
  by_cases ej : j = i
  · rw [if_pos ⟨rfl, ej⟩]
  · rw [if_neg (by omega)]; exact h.2 j (by omega)
end FILL
theorem zp_lst_le {S : zp_S} {k : Nat} (h : zp_fs S k ≤ 8) : zp_lst S k ≤ 8 := by
  unfold zp_lst
  split <;> omega
theorem zp_en {j c : Nat} (hj : 0 < j) (x : Bool) : (decide (j ≤ c) || (decide (j - 1 ≤ c) && x)) = decide (j ≤ c + (if x = true then 1 else 0)) := by
  cases x
  · simp
  · simp only [Bool.and_true, if_pos, ← Bool.decide_or]
    exact decide_eq_decide.mpr (by omega)
def zp_bc (S : zp_S) (k : Nat) (a b : Nat → Bool) (i : Nat) : Bool := if zp_ro S k i = 3 then true else if zp_ro S k i = 2 then !(b (zp_pt S k i)) else a (zp_pt S k i)
theorem zp_boolWord_19_20_22 {σ : zv_St} {Q : Int64 → zv_St → Prop} {k n w : Nat} {E : zp_E} (hS : zp_CS σ n E) (hk : k < n) (e : zp_kd E.1 k = 2) (hw : w < 8) (q : ∀ r σ', zp_ch [26] σ σ' → (∀ b, b < 64 → zp_bt r b = zp_bs E.1 k (fun p => zp_bt (σ.2 21 (p * 8 + w)) b) (fun p => zp_bt (σ.2 23 (p * 8 + w)) b)) → Q r σ') : B_X0_boolWord_19_20_22 Q (nI k) (nI w) (nI (zp_lst E.1 k)) σ := by
  have hn := hS.1.1
  have hwf := hS.1.2 k hk
  obtain ⟨w0, w1, w2, -, -, w5, -⟩ := hwf
  obtain ⟨f8, -⟩ := w5 e
  have hl := zp_lst_le f8
  obtain ⟨-, -, -, l4, l5⟩ := hS.2.1.2 k hk
  refine zp_fill26 (fun σ1 h1 hz => ⟨vp_in_nI (n := 0) (N := 9) (by decide) (by decide), ?_⟩)
  rintro σ2 rfl
  have hc0 : ((0 : Int32).toNatClampNeg) = 0 := rfl
  rw [hc0]
  refine zp_for (L := fun u i (a : Int64 × zv_St) => L_X0_boolWord_19_20_22_25 Q u (nI k) (nI w) (nI (zp_lst E.1 k)) a.1 (nI i) a.2) (zp_mn E.1 k) (fun i a => zp_ch [26] σ a.2 ∧ (∀ b, b < 64 → zp_bt a.1 b = (List.range i).all (zp_bc E.1 k (fun p => zp_bt (σ.2 21 (p * 8 + w)) b) (fun p => zp_bt (σ.2 23 (p * 8 + w)) b))) ∧ ∀ j, j ≤ zp_lst E.1 k → ∀ b, b < 64 → zp_bt (a.2.2 26 j) b = decide (j ≤ zp_cnt E.1 k (fun p => zp_bt (σ.2 21 (p * 8 + w)) b) i)) ?_ ?_ 0 (-1, zv_wl σ1 26 0 (-1)) ⟨h1.tr (zp_ch.wl (List.mem_cons_self ..)), fun b hb => zp_bt_m1 b hb, fun j hj b hb => ?_⟩ (Nat.zero_le _)
  · rintro u ⟨x, σ'⟩ ⟨g1, g2, g3⟩
    simp only at g1 g2 g3
    have e10 := congrFun (g1 10 (by decide)).1 k
    unfold L_X0_boolWord_19_20_22_25
    refine zp_a_size (by omega) (e10.trans l4) ?_
    refine zp_t (nI_le (Nat.le_refl _) (by omega)) ⟨vp_in_nI (by omega) (by decide), ?_⟩
    rw [nI_clamp (by omega)]
    refine q _ σ' g1 (fun b hb => ?_)
    rw [zp_bt_and, g2 b hb, g3 _ (Nat.le_refl _) b hb]
    rfl
  · rintro u i ⟨x, σ'⟩ hi ⟨g1, g2, g3⟩ ih
    simp only at g1 g2 g3
    have e10 := congrFun (g1 10 (by decide)).1 k
    have e11 := congrFun (g1 11 (by decide)).1 (k * 8 + i)
    have e12 := congrFun (g1 12 (by decide)).1 (k * 8 + i)
    have ec := congrFun (g1 21 (by decide)).2 (zp_pt E.1 k i * 8 + w)
    have ed := congrFun (g1 23 (by decide)).2 (zp_pt E.1 k i * 8 + w)
    obtain ⟨v1, v2⟩ := w2 i hi
    unfold L_X0_boolWord_19_20_22_25
    refine zp_a_size (by omega) (e10.trans l4) ?_
    refine zp_f (nI_ge hi (by omega)) ?_
    refine zp_a_partAt (by omega) (by omega) (e12.trans (l5 i hi).2) ?_
    refine zp_a_roleAt (by omega) (by omega) (e11.trans (l5 i hi).1) ?_
    by_cases r2 : zp_ro E.1 k i = 2
    · refine zp_nf (by rw [r2]; rfl) ?_
      refine zp_word_22 (by omega) hw ?_
      rw [ed]
      unfold B_X0_boolWord_19_20_22_123
      rw [nI_1]
      refine ih (_, σ') ⟨g1, fun b hb => ?_, fun j hj b hb => ?_⟩
      · show zp_bt (x &&& _) b = _
        rw [zp_bt_and, zp_bt_not _ hb, g2 b hb, zp_all_succ]
        congr 1
        unfold zp_bc
        rw [if_neg (by omega), if_pos r2]
      · show zp_bt (σ'.2 26 j) b = _
        rw [g3 j hj b hb]
        show _ = decide (j ≤ zp_cnt _ _ _ i + _)
        rw [if_neg (fun z => absurd z.1 (by omega)), Nat.add_zero]
    · refine zp_nt (fun z => r2 (zp_ninj (by omega) (by decide) z)) ?_
      by_cases r3 : zp_ro E.1 k i = 3
      · refine zp_nf (by rw [r3]; rfl) ?_
        refine zp_word_20 (by omega) hw ?_
        rw [ec]
        refine zp_countIn hl (fun σ3 c1 c2 c3 => ?_)
        unfold B_X0_boolWord_19_20_22_123
        rw [nI_1]
        refine ih (_, σ3) ⟨g1.tr c1, fun b hb => ?_, fun j hj b hb => ?_⟩
        · show zp_bt x b = _
          rw [g2 b hb, zp_all_succ]
          unfold zp_bc
          rw [if_pos r3, Bool.and_true]
        · show zp_bt (σ3.2 26 j) b = _
          by_cases j0 : j = 0
          · subst j0
            rw [c2, g3 0 hj b hb, decide_eq_true (Nat.zero_le _), decide_eq_true (Nat.zero_le _)]
          · rw [c3 j (by omega) hj, zp_bt_or, zp_bt_and, g3 j hj b hb, g3 (j - 1) (by omega) b hb, zp_en (by omega)]
            show _ = decide (j ≤ zp_cnt _ _ _ i + _)
            congr 3
            exact ite_congr (propext ⟨fun z => ⟨r3, z⟩, fun z => z.2⟩) (fun _ => rfl) (fun _ => rfl)
      · refine zp_nt (fun z => r3 (zp_ninj (by omega) (by decide) z)) ?_
        refine zp_word_20 (by omega) hw ?_
        rw [ec]
        unfold B_X0_boolWord_19_20_22_123
        rw [nI_1]
        refine ih (_, σ') ⟨g1, fun b hb => ?_, fun j hj b hb => ?_⟩
        · show zp_bt (x &&& _) b = _
          rw [zp_bt_and, g2 b hb, zp_all_succ]
          congr 1
          unfold zp_bc
          rw [if_neg r3, if_neg r2]
        · show zp_bt (σ'.2 26 j) b = _
          rw [g3 j hj b hb]
          show _ = decide (j ≤ zp_cnt _ _ _ i + _)
          rw [if_neg (fun z => absurd z.1 r3), Nat.add_zero]
  · show zp_bt ((zv_wl σ1 26 0 (-1)).2 26 j) b = decide (j ≤ 0)
    rw [zp_rl]
    by_cases j0 : j = 0
    · rw [if_pos ⟨rfl, j0⟩, zp_bt_m1 b hb, decide_eq_true (by omega)]
    · rw [if_neg (by omega), hz j (by omega), zp_bt_0, decide_eq_false (by omega)]
theorem zp_boolWord_19_22_20 {σ : zv_St} {Q : Int64 → zv_St → Prop} {k n w : Nat} {E : zp_E} (hS : zp_CS σ n E) (hk : k < n) (e : zp_kd E.1 k = 2) (hw : w < 8) (q : ∀ r σ', zp_ch [26] σ σ' → (∀ b, b < 64 → zp_bt r b = zp_bs E.1 k (fun p => zp_bt (σ.2 23 (p * 8 + w)) b) (fun p => zp_bt (σ.2 21 (p * 8 + w)) b)) → Q r σ') : B_X0_boolWord_19_22_20 Q (nI k) (nI w) (nI (zp_lst E.1 k)) σ := by
  have hn := hS.1.1
  have hwf := hS.1.2 k hk
  obtain ⟨w0, w1, w2, -, -, w5, -⟩ := hwf
  obtain ⟨f8, -⟩ := w5 e
  have hl := zp_lst_le f8
  obtain ⟨-, -, -, l4, l5⟩ := hS.2.1.2 k hk
  refine zp_fill26 (fun σ1 h1 hz => ⟨vp_in_nI (n := 0) (N := 9) (by decide) (by decide), ?_⟩)
  rintro σ2 rfl
  have hc0 : ((0 : Int32).toNatClampNeg) = 0 := rfl
  rw [hc0]
  refine zp_for (L := fun u i (a : Int64 × zv_St) => L_X0_boolWord_19_22_20_25 Q u (nI k) (nI w) (nI (zp_lst E.1 k)) a.1 (nI i) a.2) (zp_mn E.1 k) (fun i a => zp_ch [26] σ a.2 ∧ (∀ b, b < 64 → zp_bt a.1 b = (List.range i).all (zp_bc E.1 k (fun p => zp_bt (σ.2 23 (p * 8 + w)) b) (fun p => zp_bt (σ.2 21 (p * 8 + w)) b))) ∧ ∀ j, j ≤ zp_lst E.1 k → ∀ b, b < 64 → zp_bt (a.2.2 26 j) b = decide (j ≤ zp_cnt E.1 k (fun p => zp_bt (σ.2 23 (p * 8 + w)) b) i)) ?_ ?_ 0 (-1, zv_wl σ1 26 0 (-1)) ⟨h1.tr (zp_ch.wl (List.mem_cons_self ..)), fun b hb => zp_bt_m1 b hb, fun j hj b hb => ?_⟩ (Nat.zero_le _)
  · rintro u ⟨x, σ'⟩ ⟨g1, g2, g3⟩
    simp only at g1 g2 g3
    have e10 := congrFun (g1 10 (by decide)).1 k
    unfold L_X0_boolWord_19_22_20_25
    refine zp_a_size (by omega) (e10.trans l4) ?_
    refine zp_t (nI_le (Nat.le_refl _) (by omega)) ⟨vp_in_nI (by omega) (by decide), ?_⟩
    rw [nI_clamp (by omega)]
    refine q _ σ' g1 (fun b hb => ?_)
    rw [zp_bt_and, g2 b hb, g3 _ (Nat.le_refl _) b hb]
    rfl
  · rintro u i ⟨x, σ'⟩ hi ⟨g1, g2, g3⟩ ih
    simp only at g1 g2 g3
    have e10 := congrFun (g1 10 (by decide)).1 k
    have e11 := congrFun (g1 11 (by decide)).1 (k * 8 + i)
    have e12 := congrFun (g1 12 (by decide)).1 (k * 8 + i)
    have ec := congrFun (g1 23 (by decide)).2 (zp_pt E.1 k i * 8 + w)
    have ed := congrFun (g1 21 (by decide)).2 (zp_pt E.1 k i * 8 + w)
    obtain ⟨v1, v2⟩ := w2 i hi
    unfold L_X0_boolWord_19_22_20_25
    refine zp_a_size (by omega) (e10.trans l4) ?_
    refine zp_f (nI_ge hi (by omega)) ?_
    refine zp_a_partAt (by omega) (by omega) (e12.trans (l5 i hi).2) ?_
    refine zp_a_roleAt (by omega) (by omega) (e11.trans (l5 i hi).1) ?_
    by_cases r2 : zp_ro E.1 k i = 2
    · refine zp_nf (by rw [r2]; rfl) ?_
      refine zp_word_20 (by omega) hw ?_
      rw [ed]
      unfold B_X0_boolWord_19_22_20_123
      rw [nI_1]
      refine ih (_, σ') ⟨g1, fun b hb => ?_, fun j hj b hb => ?_⟩
      · show zp_bt (x &&& _) b = _
        rw [zp_bt_and, zp_bt_not _ hb, g2 b hb, zp_all_succ]
        congr 1
        unfold zp_bc
        rw [if_neg (by omega), if_pos r2]
      · show zp_bt (σ'.2 26 j) b = _
        rw [g3 j hj b hb]
        show _ = decide (j ≤ zp_cnt _ _ _ i + _)
        rw [if_neg (fun z => absurd z.1 (by omega)), Nat.add_zero]
    · refine zp_nt (fun z => r2 (zp_ninj (by omega) (by decide) z)) ?_
      by_cases r3 : zp_ro E.1 k i = 3
      · refine zp_nf (by rw [r3]; rfl) ?_
        refine zp_word_22 (by omega) hw ?_
        rw [ec]
        refine zp_countIn hl (fun σ3 c1 c2 c3 => ?_)
        unfold B_X0_boolWord_19_22_20_123
        rw [nI_1]
        refine ih (_, σ3) ⟨g1.tr c1, fun b hb => ?_, fun j hj b hb => ?_⟩
        · show zp_bt x b = _
          rw [g2 b hb, zp_all_succ]
          unfold zp_bc
          rw [if_pos r3, Bool.and_true]
        · show zp_bt (σ3.2 26 j) b = _
          by_cases j0 : j = 0
          · subst j0
            rw [c2, g3 0 hj b hb, decide_eq_true (Nat.zero_le _), decide_eq_true (Nat.zero_le _)]
          · rw [c3 j (by omega) hj, zp_bt_or, zp_bt_and, g3 j hj b hb, g3 (j - 1) (by omega) b hb, zp_en (by omega)]
            show _ = decide (j ≤ zp_cnt _ _ _ i + _)
            congr 3
            exact ite_congr (propext ⟨fun z => ⟨r3, z⟩, fun z => z.2⟩) (fun _ => rfl) (fun _ => rfl)
      · refine zp_nt (fun z => r3 (zp_ninj (by omega) (by decide) z)) ?_
        refine zp_word_22 (by omega) hw ?_
        rw [ec]
        unfold B_X0_boolWord_19_22_20_123
        rw [nI_1]
        refine ih (_, σ') ⟨g1, fun b hb => ?_, fun j hj b hb => ?_⟩
        · show zp_bt (x &&& _) b = _
          rw [zp_bt_and, g2 b hb, zp_all_succ]
          congr 1
          unfold zp_bc
          rw [if_neg r3, if_neg r2]
        · show zp_bt (σ'.2 26 j) b = _
          rw [g3 j hj b hb]
          show _ = decide (j ≤ zp_cnt _ _ _ i + _)
          rw [if_neg (fun z => absurd z.1 r3), Nat.add_zero]
  · show zp_bt ((zv_wl σ1 26 0 (-1)).2 26 j) b = decide (j ≤ 0)
    rw [zp_rl]
    by_cases j0 : j = 0
    · rw [if_pos ⟨rfl, j0⟩, zp_bt_m1 b hb, decide_eq_true (by omega)]
    · rw [if_neg (by omega), hz j (by omega), zp_bt_0, decide_eq_false (by omega)]
