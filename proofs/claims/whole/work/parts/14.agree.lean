/-! The tables hang on the NODES below alone. -/
def zp_sameN (S S' : zp_S) (k : Nat) : Prop := S' 0 k = S 0 k ∧ S' 1 k = S 1 k ∧ S' 2 k = S 2 k ∧ S' 3 k = S 3 k ∧ ∀ i, i < S 3 k → S' 4 (k * 8 + i) = S 4 (k * 8 + i) ∧ S' 5 (k * 8 + i) = S 5 (k * 8 + i)
def zp_sameE (n : Nat) (E E' : zp_E) : Prop := (∀ k, k < n → zp_sameN E.1 E'.1 k ∧ E'.2.2.2 k = E.2.2.2 k) ∧ (∀ l o, E'.2.1 l o = E.2.1 l o) ∧ ∀ l, E'.2.2.1 l = E.2.2.1 l
theorem zp_all_congr {f g : Nat → Bool} : ∀ {m : Nat}, (∀ i, i < m → f i = g i) → (List.range m).all f = (List.range m).all g := by
  intro m h
  rw [Bool.eq_iff_iff, List.all_eq_true, List.all_eq_true]
  constructor
  · intro q x hx; rw [← h x (List.mem_range.mp hx)]; exact q x hx
  · intro q x hx; rw [h x (List.mem_range.mp hx)]; exact q x hx
theorem zp_any_congr {f g : Nat → Bool} : ∀ {m : Nat}, (∀ i, i < m → f i = g i) → (List.range m).any f = (List.range m).any g := by
  intro m h
  rw [Bool.eq_iff_iff, List.any_eq_true, List.any_eq_true]
  constructor
  · rintro ⟨x, hx, q⟩; exact ⟨x, hx, by rw [← h x (List.mem_range.mp hx)]; exact q⟩
  · rintro ⟨x, hx, q⟩; exact ⟨x, hx, by rw [h x (List.mem_range.mp hx)]; exact q⟩
section ZA
variable {S S' : zp_S} {k : Nat}
theorem zp_cnt_congr (h : zp_sameN S S' k) {a b : Nat → Bool} (hab : ∀ p, a p = b p) : ∀ m, m ≤ S 3 k → zp_cnt S' k a m = zp_cnt S k b m := by
  intro m
  induction m with
  | zero => intro _; rfl
  | succ m ih =>
    intro hm
    obtain ⟨e1, e2⟩ := h.2.2.2.2 m (by omega)
    show zp_cnt S' k a m + _ = zp_cnt S k b m + _
    rw [ih (by omega)]
    show _ + (if S' 4 (k * 8 + m) = 3 ∧ a (S' 5 (k * 8 + m)) = true then 1 else 0) = _
    rw [e1, e2, hab]
theorem zp_lst_congr (h : zp_sameN S S' k) : zp_lst S' k = zp_lst S k := by
  unfold zp_lst
  show (if (List.range (S' 3 k)).any _ = true then S' 1 k else max (S' 1 k) 1) = _
  rw [h.2.1, h.2.2.2.1, zp_any_congr (f := fun i => decide (S' 4 (k * 8 + i) < 2)) (g := fun i => decide (S 4 (k * 8 + i) < 2)) (fun i hi => by rw [(h.2.2.2.2 i hi).1])]
theorem zp_bs_congr (h : zp_sameN S S' k) {a a' b b' : Nat → Bool} (ha : ∀ p, a' p = a p) (hb : ∀ p, b' p = b p) : zp_bs S' k a' b' = zp_bs S k a b := by
  unfold zp_bs
  rw [zp_lst_congr h]
  show ((List.range (S' 3 k)).all _ && decide (_ ≤ zp_cnt S' k a' (S' 3 k))) = _
  rw [h.2.2.2.1, zp_cnt_congr h ha _ (Nat.le_refl _)]
  congr 1
  refine zp_all_congr (fun i hi => ?_)
  obtain ⟨e1, e2⟩ := h.2.2.2.2 i hi
  show (if S' 4 (k * 8 + i) = 3 then true else if S' 4 (k * 8 + i) = 2 then !(b' (S' 5 (k * 8 + i))) else a' (S' 5 (k * 8 + i))) = _
  rw [e1, e2, ha, hb]
theorem zp_csum_congr (h : zp_sameN S S' k) (t : Nat → Nat) : ∀ m, m ≤ S 3 k → zp_csum S' k t m = zp_csum S k t m := by
  intro m
  induction m with
  | zero => intro _; rfl
  | succ m ih =>
    intro hm
    obtain ⟨e1, e2⟩ := h.2.2.2.2 m (by omega)
    show zp_csum S' k t m + (if S' 4 (k * 8 + m) = 3 then t (S' 5 (k * 8 + m)) else 0) = _
    rw [ih (by omega), e1, e2]
    rfl
theorem zp_cmin_congr (h : zp_sameN S S' k) (t : Nat → Nat) : ∀ m, m ≤ S 3 k → zp_cmin S' k t m = zp_cmin S k t m := by
  intro m
  induction m with
  | zero => intro _; rfl
  | succ m ih =>
    intro hm
    obtain ⟨e1, e2⟩ := h.2.2.2.2 m (by omega)
    show (if S' 4 (k * 8 + m) < 2 then (match zp_cmin S' k t m with | none => some (t (S' 5 (k * 8 + m))) | some q => some (min q (t (S' 5 (k * 8 + m))))) else zp_cmin S' k t m) = _
    rw [ih (by omega), e1, e2]
    rfl
end ZA
section ZB
variable {E E' : zp_E} {n : Nat}
theorem zp_m1_congr {k : Nat} (h : zp_sameN E.1 E'.1 k) (hK : E'.2.2.2 k = E.2.2.2 k) (hW : ∀ l o, E'.2.1 l o = E.2.1 l o) (o : Nat) (t : Nat → Bool × Bool) : zp_m1 E' o t k = zp_m1 E o t k := by
  unfold zp_m1
  show (match E'.1 0 k with
  | 0 => ((E'.2.1 (E'.1 1 k) o).isSome, (E'.2.1 (E'.1 1 k) o).isSome)
  | 1 => (decide (E'.1 1 k ≤ o ∧ o ≤ E'.1 2 k), decide (E'.1 1 k ≤ o ∧ o ≤ E'.1 2 k))
  | 2 => (zp_bs E'.1 k (fun p => (t p).1) (fun p => (t p).2), zp_bs E'.1 k (fun p => (t p).2) (fun p => (t p).1))
  | 3 => ((List.range (E'.1 3 k)).any (fun i => (t (E'.1 5 (k * 8 + i))).1), (List.range (E'.1 3 k)).any (fun i => (t (E'.1 5 (k * 8 + i))).2))
  | 4 => t (E'.1 1 k)
  | 5 => ((t (E'.1 1 k)).1, false)
  | 6 => match E'.2.2.2 k with
    | some q => (q.2 o, q.2 o)
    | none => t (E'.1 1 k)
  | _ => (false, false)) = _
  rw [h.1, h.2.1, h.2.2.1, h.2.2.2.1, hK, hW, zp_bs_congr h (fun _ => rfl) (fun _ => rfl), zp_bs_congr h (fun _ => rfl) (fun _ => rfl), zp_any_congr (f := fun i => (t (E'.1 5 (k * 8 + i))).1) (g := fun i => (t (E.1 5 (k * 8 + i))).1) (fun i hi => by rw [(h.2.2.2.2 i hi).2]), zp_any_congr (f := fun i => (t (E'.1 5 (k * 8 + i))).2) (g := fun i => (t (E.1 5 (k * 8 + i))).2) (fun i hi => by rw [(h.2.2.2.2 i hi).2])]
  rfl
theorem zp_c1_congr {k : Nat} (h : zp_sameN E.1 E'.1 k) (hK : E'.2.2.2 k = E.2.2.2 k) (hZ : ∀ l, E'.2.2.1 l = E.2.2.1 l) (t : Nat → Nat) : zp_c1 E' t k = zp_c1 E t k := by
  unfold zp_c1
  show (match E'.1 0 k with
  | 0 => E'.2.2.1 (E'.1 1 k)
  | 1 => E'.1 2 k - E'.1 1 k + 1
  | 2 => match zp_cmin E'.1 k t (E'.1 3 k) with
    | some m => m
    | none => min (zp_csum E'.1 k t (E'.1 3 k)) 512
  | 3 => min (zp_csum E'.1 k t (E'.1 3 k)) 512
  | 4 => t (E'.1 1 k)
  | 5 => t (E'.1 1 k)
  | 6 => match E'.2.2.2 k with
    | some q => q.1
    | none => t (E'.1 1 k)
  | _ => 0) = _
  rw [h.1, h.2.1, h.2.2.1, h.2.2.2.1, hK, hZ, zp_cmin_congr h t _ (Nat.le_refl _), zp_csum_congr h t _ (Nat.le_refl _)]
  rfl
theorem zp_mt_congr (h : zp_sameE n E E') (o : Nat) : ∀ m, m ≤ n → zp_mt E' o m = zp_mt E o m := by
  intro m
  induction m with
  | zero => intro _; rfl
  | succ m ih =>
    intro hm
    funext j
    show (if j = m then zp_m1 E' o (zp_mt E' o m) m else zp_mt E' o m j) = _
    rw [ih (by omega), zp_m1_congr (h.1 m (by omega)).1 (h.1 m (by omega)).2 h.2.1]
    rfl
theorem zp_ct_congr (h : zp_sameE n E E') : ∀ m, m ≤ n → zp_ct E' m = zp_ct E m := by
  intro m
  induction m with
  | zero => intro _; rfl
  | succ m ih =>
    intro hm
    funext j
    show (if j = m then zp_c1 E' (zp_ct E' m) m else zp_ct E' m j) = _
    rw [ih (by omega), zp_c1_congr (h.1 m (by omega)).1 (h.1 m (by omega)).2 h.2.2]
    rfl
theorem zp_may_congr (h : zp_sameE n E E') (o : Nat) {k : Nat} (hk : k < n) : zp_may E' o k = zp_may E o k := by
  unfold zp_may
  rw [zp_mt_congr h o (k + 1) (by omega)]
theorem zp_sure_congr (h : zp_sameE n E E') (o : Nat) {k : Nat} (hk : k < n) : zp_sure E' o k = zp_sure E o k := by
  unfold zp_sure
  rw [zp_mt_congr h o (k + 1) (by omega)]
theorem zp_cost_congr (h : zp_sameE n E E') {k : Nat} (hk : k < n) : zp_cost E' k = zp_cost E k := by
  unfold zp_cost
  rw [zp_ct_congr h (k + 1) (by omega)]
theorem zp_put_congr {r r' : Nat → Nat} {x : Nat} : ∀ {l : List Nat}, r x = r' x → (∀ y ∈ l, r y = r' y) → zp_put r x l = zp_put r' x l := by
  intro l
  induction l with
  | nil => intro _ _; rfl
  | cons y l ih =>
    intro hx h
    show (if r x < r y then _ else y :: zp_put r x l) = (if r' x < r' y then _ else y :: zp_put r' x l)
    rw [hx, h y List.mem_cons_self, ih hx (fun z hz => h z (List.mem_cons_of_mem _ hz))]
theorem zp_put_mem {r : Nat → Nat} {x y : Nat} : ∀ {l : List Nat}, y ∈ zp_put r x l ↔ y = x ∨ y ∈ l := by
  intro l
  induction l with
  | nil => simp [zp_put]
  | cons z l ih =>
    unfold zp_put
    split
    · simp
    · simp only [List.mem_cons, ih]
      constructor
      · rintro (h | h | h)
        · exact Or.inr (Or.inl h)
        · exact Or.inl h
        · exact Or.inr (Or.inr h)
      · rintro (h | h | h)
        · exact Or.inr (Or.inl h)
        · exact Or.inl h
        · exact Or.inr (Or.inr h)
theorem zp_ord_mem {r : Nat → Nat} {y : Nat} : ∀ {m : Nat}, y ∈ zp_ord r m ↔ y < m := by
  intro m
  induction m with
  | zero => simp [zp_ord]
  | succ m ih =>
    show y ∈ zp_put r m (zp_ord r m) ↔ _
    rw [zp_put_mem, ih]
    omega
theorem zp_ord_congr {r r' : Nat → Nat} : ∀ {m : Nat}, (∀ i, i < m → r i = r' i) → zp_ord r m = zp_ord r' m := by
  intro m
  induction m with
  | zero => intro _; rfl
  | succ m ih =>
    intro h
    show zp_put r m (zp_ord r m) = zp_put r' m (zp_ord r' m)
    rw [ih (fun i hi => h i (by omega))]
    exact zp_put_congr (h m (by omega)) (fun y hy => h y (by have := zp_ord_mem.mp hy; omega))
theorem zp_put_len {r : Nat → Nat} {x : Nat} : ∀ {l : List Nat}, (zp_put r x l).length = l.length + 1 := by
  intro l
  induction l with
  | nil => rfl
  | cons y l ih =>
    unfold zp_put
    split
    · rfl
    · simp only [List.length_cons, ih]
theorem zp_ord_len {r : Nat → Nat} : ∀ {m : Nat}, (zp_ord r m).length = m := by
  intro m
  induction m with
  | zero => rfl
  | succ m ih =>
    show (zp_put r m (zp_ord r m)).length = _
    rw [zp_put_len, ih]
/-- the bounds that stand stay right where the NODES below are the same -/
theorem zp_BC.same {σ : zv_St} {n' : Nat} (hw : ∀ k, k < n → zp_wf1 E.1 k) (h : zp_BC σ n E) (hs : zp_sameE n E E') (hn : n ≤ n') : zp_BC σ n' E' := by
  obtain ⟨r, hr, e, hk⟩ := h
  refine ⟨r, by omega, e, fun k hkr => ?_⟩
  obtain ⟨a1, a2, a3⟩ := hk k hkr
  have hN := (hs.1 k (by omega)).1
  refine ⟨by rw [zp_cost_congr hs (by omega)]; exact a1, fun o ho => ?_, fun hkd i hi => ?_⟩
  · rw [zp_may_congr hs o (by omega), zp_sure_congr hs o (by omega)]
    exact a2 o ho
  · have h0 : E'.1 0 k = E.1 0 k := hN.1
    have h3 : E'.1 3 k = E.1 3 k := hN.2.2.2.1
    have hi' : i < E.1 3 k := by rw [← h3]; exact hi
    rw [a3 (h0.symm.trans hkd) i hi']
    show nI _ = nI ((zp_ord (zp_rank E' k) (E'.1 3 k)).getD i 0)
    rw [h3, zp_ord_congr (r := zp_rank E' k) (r' := zp_rank E k) (fun j hj => ?_)]
    obtain ⟨e1, e2⟩ := hN.2.2.2.2 j hj
    have hp : E.1 5 (k * 8 + j) < k := ((hw k (by omega)).2.2.1 j hj).1
    show (if E'.1 4 (k * 8 + j) < 2 then zp_cost E' (E'.1 5 (k * 8 + j)) else 512 + E'.1 4 (k * 8 + j)) = _
    rw [e1, e2, zp_cost_congr hs (by omega)]
    rfl
end ZB
