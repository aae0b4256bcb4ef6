/-! The reference's order of a BOOL's parts is the component's. -/
theorem zp_put_l {r : Nat → Nat} {x : Nat} : ∀ {A B : List Nat}, (∀ y ∈ B, r x < r y) → zp_put r x (A ++ B) = zp_put r x A ++ B := by
  intro A
  induction A with
  | nil =>
    intro B h
    cases B with
    | nil => rfl
    | cons y B =>
      show (if r x < r y then x :: y :: B else y :: zp_put r x B) = _
      rw [if_pos (h y (List.mem_cons_self ..))]; rfl
  | cons a A ih =>
    intro B h
    show (if r x < r a then x :: a :: (A ++ B) else a :: zp_put r x (A ++ B)) = (if r x < r a then x :: a :: A else a :: zp_put r x A) ++ B
    by_cases c : r x < r a
    · rw [if_pos c, if_pos c]; rfl
    · rw [if_neg c, if_neg c, ih h]; rfl
theorem zp_put_r {r : Nat → Nat} {x : Nat} : ∀ {A B : List Nat}, (∀ y ∈ A, ¬ r x < r y) → zp_put r x (A ++ B) = A ++ zp_put r x B := by
  intro A
  induction A with
  | nil => intro B h; rfl
  | cons a A ih =>
    intro B h
    show (if r x < r a then x :: a :: (A ++ B) else a :: zp_put r x (A ++ B)) = _
    rw [if_neg (h a (List.mem_cons_self ..)), ih (fun y hy => h y (List.mem_cons_of_mem _ hy))]; rfl
theorem zp_put_e {r : Nat → Nat} {x : Nat} {A : List Nat} (h : ∀ y ∈ A, ¬ r x < r y) : zp_put r x A = A ++ [x] := by
  have := zp_put_r (B := []) h
  rw [List.append_nil] at this
  exact this
def zp_nd (E : zp_E) (k : Nat) : Nat → List Nat
  | 0 => []
  | i + 1 => if zp_ro E.1 k i < 2 then zp_put (zp_rank E k) i (zp_nd E k i) else zp_nd E k i
def zp_rf (E : zp_E) (k r : Nat) : Nat → List Nat
  | 0 => []
  | i + 1 => if zp_ro E.1 k i = r then zp_rf E k r i ++ [i] else zp_rf E k r i
theorem zp_nd_mem {E : zp_E} {k y : Nat} : ∀ {m}, y ∈ zp_nd E k m → y < m ∧ zp_ro E.1 k y < 2 := by
  intro m
  induction m with
  | zero => intro h; cases h
  | succ m ih =>
    intro h
    have h : y ∈ (if zp_ro E.1 k m < 2 then zp_put (zp_rank E k) m (zp_nd E k m) else zp_nd E k m) := h
    by_cases c : zp_ro E.1 k m < 2
    · rw [if_pos c] at h
      rcases zp_put_mem.mp h with e | e
      · subst e; exact ⟨by omega, c⟩
      · have := ih e; exact ⟨by omega, this.2⟩
    · rw [if_neg c] at h
      have := ih h; exact ⟨by omega, this.2⟩
theorem zp_rf_mem {E : zp_E} {k r y : Nat} : ∀ {m}, y ∈ zp_rf E k r m → y < m ∧ zp_ro E.1 k y = r := by
  intro m
  induction m with
  | zero => intro h; cases h
  | succ m ih =>
    intro h
    have h : y ∈ (if zp_ro E.1 k m = r then zp_rf E k r m ++ [m] else zp_rf E k r m) := h
    by_cases c : zp_ro E.1 k m = r
    · rw [if_pos c] at h
      rcases List.mem_append.mp h with e | e
      · have := ih e; exact ⟨by omega, this.2⟩
      · rw [List.mem_singleton.mp e]; exact ⟨by omega, c⟩
    · rw [if_neg c] at h
      have := ih h; exact ⟨by omega, this.2⟩
theorem zp_rf_len {E : zp_E} {k r : Nat} : ∀ {m i}, i ≤ m → (zp_rf E k r i).length ≤ (zp_rf E k r m).length := by
  intro m
  induction m with
  | zero => intro i hi; rw [show i = 0 by omega]; exact Nat.le_refl _
  | succ m ih =>
    intro i hi
    by_cases c : i = m + 1
    · subst c; exact Nat.le_refl _
    · have h1 := ih (show i ≤ m by omega)
      show _ ≤ (if zp_ro E.1 k m = r then zp_rf E k r m ++ [m] else zp_rf E k r m).length
      split
      · rw [List.length_append]; omega
      · exact h1
theorem zp_nd_pw {E : zp_E} {k : Nat} : ∀ m, (zp_nd E k m).Pairwise (fun a b => zp_rank E k a ≤ zp_rank E k b) := by
  intro m
  induction m with
  | zero => exact List.Pairwise.nil
  | succ m ih =>
    show (if zp_ro E.1 k m < 2 then zp_put (zp_rank E k) m (zp_nd E k m) else zp_nd E k m).Pairwise _
    split
    · exact zp_put_pw ih
    · exact ih
theorem zp_nd_len {E : zp_E} {k : Nat} : ∀ m, (zp_nd E k m).length ≤ m := by
  intro m
  induction m with
  | zero => exact Nat.le_refl _
  | succ m ih =>
    show (if zp_ro E.1 k m < 2 then zp_put (zp_rank E k) m (zp_nd E k m) else zp_nd E k m).length ≤ _
    split
    · rw [zp_put_len]; omega
    · omega
theorem zp_ord3 {E : zp_E} {k : Nat} (hb : ∀ i, i < zp_mn E.1 k → zp_cost E (zp_pt E.1 k i) ≤ 512) (h3 : ∀ i, i < zp_mn E.1 k → zp_ro E.1 k i ≤ 3) : ∀ m, m ≤ zp_mn E.1 k → zp_ord (zp_rank E k) m = zp_nd E k m ++ (zp_rf E k 2 m ++ zp_rf E k 3 m) := by
  have r2 : ∀ y, y < zp_mn E.1 k → zp_ro E.1 k y < 2 → zp_rank E k y ≤ 512 := fun y hy h => by unfold zp_rank; rw [if_pos h]; exact hb y hy
  have rr : ∀ y r, zp_ro E.1 k y = r → 2 ≤ r → zp_rank E k y = 512 + r := fun y r h h2 => by unfold zp_rank; rw [if_neg (by omega), h]
  intro m
  induction m with
  | zero => intro _; rfl
  | succ m ih =>
    intro hm
    show zp_put (zp_rank E k) m (zp_ord (zp_rank E k) m) = (if zp_ro E.1 k m < 2 then zp_put (zp_rank E k) m (zp_nd E k m) else zp_nd E k m) ++ ((if zp_ro E.1 k m = 2 then zp_rf E k 2 m ++ [m] else zp_rf E k 2 m) ++ (if zp_ro E.1 k m = 3 then zp_rf E k 3 m ++ [m] else zp_rf E k 3 m))
    rw [ih (by omega)]
    have hm3 := h3 m (by omega)
    by_cases c : zp_ro E.1 k m < 2
    · rw [if_pos c, if_neg (by omega), if_neg (by omega)]
      refine zp_put_l (fun y hy => ?_)
      have := r2 m (by omega) c
      rcases List.mem_append.mp hy with e | e
      · rw [rr y 2 (zp_rf_mem e).2 (by omega)]; omega
      · rw [rr y 3 (zp_rf_mem e).2 (by omega)]; omega
    · rw [if_neg c]
      have hA : ∀ y ∈ zp_nd E k m, ¬ zp_rank E k m < zp_rank E k y := fun y hy => by
        have := zp_nd_mem hy
        have := r2 y (by omega) this.2
        rw [rr m _ rfl (by omega)]; omega
      rw [zp_put_r hA]
      congr 1
      by_cases c2 : zp_ro E.1 k m = 2
      · rw [if_pos c2, if_neg (by omega), zp_put_l (fun y hy => ?_), zp_put_e (fun y hy => ?_)]
        · rw [rr y 2 (zp_rf_mem hy).2 (by omega), rr m 2 c2 (by omega)]; omega
        · rw [rr y 3 (zp_rf_mem hy).2 (by omega), rr m 2 c2 (by omega)]; omega
      · have c3 : zp_ro E.1 k m = 3 := by omega
        rw [if_neg c2, if_pos c3, zp_put_r (fun y hy => ?_), zp_put_e (fun y hy => ?_)]
        · rw [rr y 3 (zp_rf_mem hy).2 (by omega), rr m 3 c3 (by omega)]; omega
        · rw [rr y 2 (zp_rf_mem hy).2 (by omega), rr m 3 c3 (by omega)]; omega
/-- a list lies in row k of cell 67 -/
def zp_l67 (σ : zv_St) (k : Nat) (l : List Nat) : Prop := ∀ j, j < l.length → σ.1 67 (k * 8 + j) = nI (l.getD j 0)
theorem zp_getD_l {l : List Nat} {x j : Nat} (h : j < l.length) : (l ++ [x]).getD j 0 = l.getD j 0 := by
  rw [List.getD_eq_getElem?_getD, List.getD_eq_getElem?_getD, List.getElem?_append_left h]
theorem zp_getD_e {l : List Nat} {x : Nat} : (l ++ [x]).getD l.length 0 = x := by
  rw [List.getD_eq_getElem?_getD, List.getElem?_append_right (Nat.le_refl _), Nat.sub_self]; rfl
theorem zp_getD_mem {l : List Nat} {j : Nat} (h : j < l.length) : l.getD j 0 ∈ l := by
  rw [List.getD_eq_getElem?_getD, List.getElem?_eq_getElem h, Option.getD_some]
  exact List.getElem_mem _
section SORTR
variable {σ : zv_St} {k n : Nat} {E : zp_E}
theorem zp_sortApp {Q : zv_St → Prop} {kk : Int32 → Int32 → Int32 → zv_St → Prop} {P : List Nat} {r : Nat} (hS : zp_RS σ n E) (hk : k < n) (hr : r ≤ 3) (hlen : P.length + (zp_rf E k r (zp_mn E.1 k)).length ≤ 8) (h67 : zp_l67 σ k P) (q : ∀ σ', zp_ch [67] σ σ' → (∀ j, j / 8 ≠ k → σ'.1 67 j = σ.1 67 j) → zp_l67 σ' k (P ++ zp_rf E k r (zp_mn E.1 k)) → kk (nI k) (nI (P ++ zp_rf E k r (zp_mn E.1 k)).length) (nI (r + 1)) σ') : ∃ u, L_X11_sort_153 Q kk u (nI k) (nI P.length) (nI r) 0 σ := by
  have hn := hS.1.1
  obtain ⟨w0, w1, w2, -⟩ := hS.1.2 k hk
  have hin : vp_in (nI k) 80 := vp_in_nI (by omega) (by decide)
  refine zp_for (L := fun u i (a : Int32 × zv_St) => L_X11_sort_153 Q kk u (nI k) a.1 (nI r) (nI i) a.2) (zp_mn E.1 k) (fun i a => zp_ch [67] σ a.2 ∧ (∀ j, j / 8 ≠ k → a.2.1 67 j = σ.1 67 j) ∧ a.1 = nI (P ++ zp_rf E k r i).length ∧ zp_l67 a.2 k (P ++ zp_rf E k r i)) ?_ ?_ 0 (nI P.length, σ) ⟨zp_ch.rf, fun _ _ => rfl, by show nI P.length = nI (P ++ []).length; rw [List.append_nil], by show zp_l67 σ k (P ++ []); rw [List.append_nil]; exact h67⟩ (Nat.zero_le _)
  · rintro u ⟨x, σ'⟩ ⟨g1, g2, g3, g4⟩
    simp only at g1 g2 g3 g4
    subst g3
    have hS' := hS.ch g1 (by decide) (congrFun (g1 45 (by decide)).1 2)
    refine ⟨hin, ?_⟩
    rw [nI_clamp (by omega), (hS'.2.1.2 k hk).2.2.2.1]
    refine zp_t (nI_le (Nat.le_refl _) (by omega)) ?_
    rw [nI_1]
    exact q σ' g1 g2 g4
  · rintro u i ⟨x, σ'⟩ hi ⟨g1, g2, g3, g4⟩ ih
    simp only at g1 g2 g3 g4
    subst g3
    have hS' := hS.ch g1 (by decide) (congrFun (g1 45 (by decide)).1 2)
    obtain ⟨-, -, -, l4, l5⟩ := hS'.2.1.2 k hk
    have h1 := zp_rf_len (E := E) (k := k) (r := r) (show i + 1 ≤ zp_mn E.1 k by omega)
    have hrf : zp_rf E k r (i + 1) = if zp_ro E.1 k i = r then zp_rf E k r i ++ [i] else zp_rf E k r i := rfl
    refine ⟨hin, ?_⟩
    rw [nI_clamp (n := k) (by omega), l4]
    refine zp_f (nI_ge hi (by omega)) ?_
    rw [zp_8m, nI_add]
    refine ⟨vp_in_nI (by omega) (by decide), ?_⟩
    rw [nI_clamp (by omega), (l5 i hi).1]
    unfold B_X11_sort_196
    rw [nI_1]
    have v2 := (w2 i hi).2
    by_cases c : zp_ro E.1 k i = r
    · rw [if_pos c] at hrf
      rw [hrf, List.length_append] at h1
      have hl1 : (P ++ zp_rf E k r i).length + 1 ≤ 8 := by
        rw [List.length_append]
        have : [i].length = 1 := rfl
        omega
      refine zp_nf (by rw [c]) ?_
      show vp_in (nI (k * 8) + nI (P ++ zp_rf E k r i).length) 640 ∧ _
      rw [nI_add]
      refine ⟨vp_in_nI (by omega) (by decide), ?_⟩
      rw [nI_clamp (by omega), nI_1]
      rintro σ2 rfl
      refine ih (nI ((P ++ zp_rf E k r i).length + 1), _) ⟨g1.tr (zp_ch.wi (List.mem_cons_self ..)), fun j hj => ?_, ?_, ?_⟩
      · show (zv_wi σ' 67 _ _).1 67 j = _
        rw [zp_rj _ _ (by omega)]; exact g2 j hj
      · rw [hrf, ← List.append_assoc, List.length_append (as := P ++ zp_rf E k r i)]; rfl
      · rw [hrf, ← List.append_assoc]
        intro j hj
        rw [List.length_append (as := P ++ zp_rf E k r i)] at hj
        have : [i].length = 1 := rfl
        show (zv_wi σ' 67 _ _).1 67 _ = _
        by_cases cj : j = (P ++ zp_rf E k r i).length
        · rw [cj, zp_rs, zp_getD_e]
        · rw [zp_rj _ _ (by omega), zp_getD_l (by omega)]
          exact g4 j (by omega)
    · rw [if_neg c] at hrf
      refine zp_nt (fun z => c (zp_ninj (by omega) (by omega) z)) (ih (_, σ') ⟨g1, g2, by rw [hrf], by rw [hrf]; exact g4⟩)
theorem zp_sort {Q : zv_St → Prop} (hS : zp_RS σ n E) (hk : k < n) (hC : ∀ p, p < n → σ.1 62 p = nI (zp_cost E p)) (q : ∀ σ', zp_ch [67] σ σ' → (∀ j, j / 8 ≠ k → σ'.1 67 j = σ.1 67 j) → (∀ i, i < zp_mn E.1 k → σ'.1 67 (k * 8 + i) = nI (zp_oi E k i)) → Q σ') : B_X11_sort Q (nI k) σ := by
  have hn := hS.1.1
  have hcl := hS.cl
  obtain ⟨w0, w1, w2, -⟩ := hS.1.2 k hk
  have hin : vp_in (nI k) 80 := vp_in_nI (by omega) (by decide)
  have hb : ∀ i, i < zp_mn E.1 k → zp_cost E (zp_pt E.1 k i) ≤ 512 := fun i hi => hcl _ (by have := (w2 i hi).1; omega)
  have h3 := zp_ord3 hb (fun i hi => (w2 i hi).2) _ (Nat.le_refl _)
  have hlen : (zp_nd E k (zp_mn E.1 k)).length + ((zp_rf E k 2 (zp_mn E.1 k)).length + (zp_rf E k 3 (zp_mn E.1 k)).length) = zp_mn E.1 k := by
    rw [← List.length_append, ← List.length_append, ← h3, zp_ord_len]
  refine zp_for (L := fun u i (a : Int32 × zv_St) => L_X11_sort_4 Q u (nI k) a.1 (nI i) a.2) (zp_mn E.1 k) (fun i a => zp_ch [67] σ a.2 ∧ (∀ j, j / 8 ≠ k → a.2.1 67 j = σ.1 67 j) ∧ a.1 = nI (zp_nd E k i).length ∧ zp_l67 a.2 k (zp_nd E k i)) ?_ ?_ 0 (0, σ) ⟨zp_ch.rf, fun _ _ => rfl, rfl, fun j hj => absurd hj (Nat.not_lt_zero _)⟩ (Nat.zero_le _)
  · rintro u ⟨x, σ'⟩ ⟨g1, g2, g3, g4⟩
    simp only at g1 g2 g3 g4
    subst g3
    have hS' := hS.ch g1 (by decide) (congrFun (g1 45 (by decide)).1 2)
    refine ⟨hin, ?_⟩
    rw [nI_clamp (by omega), (hS'.2.1.2 k hk).2.2.2.1]
    refine zp_t (nI_le (Nat.le_refl _) (by omega)) ⟨3, ?_⟩
    refine zp_f (by decide) ?_
    refine zp_sortApp (P := zp_nd E k (zp_mn E.1 k)) (r := 2) hS' hk (by decide) (by omega) g4 (fun σ2 c2 f2 k2 => ?_)
    have hS2 := hS'.ch c2 (by decide) (congrFun (c2 45 (by decide)).1 2)
    refine zp_f (by decide) ?_
    refine zp_sortApp (P := zp_nd E k (zp_mn E.1 k) ++ zp_rf E k 2 (zp_mn E.1 k)) (r := 3) hS2 hk (by decide) (by rw [List.length_append]; omega) k2 (fun σ3 c3 f3 k3 => ?_)
    refine zp_t (by decide) (q σ3 (g1.tr (c2.tr c3)) (fun j hj => (f3 j hj).trans ((f2 j hj).trans (g2 j hj))) (fun i hi => ?_))
    rw [List.append_assoc, ← h3] at k3
    exact k3 i (by rw [zp_ord_len]; exact hi)
  · rintro u i ⟨x, σ'⟩ hi ⟨g1, g2, g3, g4⟩ ih
    simp only at g1 g2 g3 g4
    subst g3
    have hfr : ∀ τ, zp_ch [67] σ τ → (∀ j, j < zp_mn E.1 k → τ.1 52 (k * 8 + j) = nI (zp_ro E.1 k j) ∧ τ.1 53 (k * 8 + j) = nI (zp_pt E.1 k j)) ∧ ∀ p, p < n → τ.1 62 p = nI (zp_cost E p) := by
      intro τ hτ
      rw [(hτ 62 (by decide)).1]
      exact ⟨((hS.ch hτ (by decide) (congrFun (hτ 45 (by decide)).1 2)).2.1.2 k hk).2.2.2.2, hC⟩
    have hS' := hS.ch g1 (by decide) (congrFun (g1 45 (by decide)).1 2)
    have hnd : zp_nd E k (i + 1) = if zp_ro E.1 k i < 2 then zp_put (zp_rank E k) i (zp_nd E k i) else zp_nd E k i := rfl
    have hndl := zp_nd_len (E := E) (k := k) i
    obtain ⟨v1, v2⟩ := w2 i hi
    refine ⟨hin, ?_⟩
    rw [nI_clamp (n := k) (by omega), (hS'.2.1.2 k hk).2.2.2.1]
    refine zp_f (nI_ge hi (by omega)) ?_
    rw [zp_8m, nI_add]
    refine ⟨vp_in_nI (by omega) (by decide), ?_⟩
    rw [nI_clamp (n := k * 8 + i) (by omega), ((hfr σ' g1).1 i hi).1, ((hfr σ' g1).1 i hi).2]
    by_cases c : zp_ro E.1 k i < 2
    · rw [if_pos c] at hnd
      refine zp_f (nI_ge (b := 2) c (by decide)) ⟨vp_in_nI (by omega) (by decide), vp_in_nI (by omega) (by decide), ?_⟩
      rw [nI_clamp (by omega), (hfr σ' g1).2 _ (by omega)]
      rintro v rfl
      have hri : zp_rank E k i = zp_cost E (zp_pt E.1 k i) := by unfold zp_rank; rw [if_pos c]
      obtain ⟨p, p1, p2, p3, p4⟩ := zp_put_at (x := i) (zp_nd_pw (E := E) (k := k) i)
      have hpl := zp_put_len (r := zp_rank E k) (x := i) (l := zp_nd E k i)
      have hmem : ∀ j, j < (zp_nd E k i).length → (zp_nd E k i).getD j 0 < i ∧ zp_rank E k ((zp_nd E k i).getD j 0) = zp_cost E (zp_pt E.1 k ((zp_nd E k i).getD j 0)) := by
        intro j hj
        have := zp_nd_mem (zp_getD_mem hj)
        exact ⟨this.1, by unfold zp_rank; rw [if_pos this.2]⟩
      generalize hl : zp_nd E k i = l at g4 p1 p2 p3 p4 hmem hndl hnd hpl ih
      have hput : ∀ τ, zp_ch [67] σ τ → (∀ j, j / 8 ≠ k → τ.1 67 j = σ.1 67 j) → (∀ j, j ≤ l.length → j ≠ p → τ.1 67 (k * 8 + j) = nI (if j < p then l.getD j 0 else l.getD (j - 1) 0)) → B_X11_sort_121 Q (L_X11_sort_4 Q u) (nI k) (nI l.length) (nI i) (nI p) τ := by
        intro τ t1 t2 t3
        unfold B_X11_sort_121 B_X11_sort_137
        rw [zp_8m, nI_add]
        refine ⟨vp_in_nI (by omega) (by decide), ?_⟩
        rw [nI_clamp (by omega), nI_1, nI_1]
        rintro τ1 rfl
        refine ih (nI (l.length + 1), _) ⟨t1.tr (zp_ch.wi (List.mem_cons_self ..)), fun j hj => ?_, ?_, ?_⟩
        · show (zv_wi τ 67 _ _).1 67 j = _
          rw [zp_rj _ _ (by omega)]; exact t2 j hj
        · rw [hnd, hpl]
        · rw [hnd]
          intro j hj
          rw [hpl] at hj
          rw [p4 j]
          show (zv_wi τ 67 _ _).1 67 _ = _
          by_cases e : j = p
          · subst e
            rw [zp_rs, if_neg (by omega), if_pos rfl]
          · rw [zp_rj _ _ (by omega), t3 j (by omega) e]
            by_cases e2 : j < p
            · rw [if_pos e2, if_pos e2]
            · rw [if_neg e2, if_neg e2, if_neg e]
      refine ⟨l.length - p + 1, ?_⟩
      have key := zp_iter (L := fun u' (a : Nat × zv_St) => L_X11_sort_50 Q (L_X11_sort_4 Q u) u' (nI k) (nI l.length) (nI i) (nI (zp_cost E (zp_pt E.1 k i))) (nI a.1) a.2) (fun m a => a.1 = p + m ∧ a.1 ≤ l.length ∧ zp_ch [67] σ a.2 ∧ (∀ j, j / 8 ≠ k → a.2.1 67 j = σ.1 67 j) ∧ (∀ j, j < a.1 → a.2.1 67 (k * 8 + j) = nI (l.getD j 0)) ∧ ∀ j, a.1 < j → j ≤ l.length → a.2.1 67 (k * 8 + j) = nI (l.getD (j - 1) 0)) ?_ (l.length - p) (l.length, σ') ⟨show l.length = p + (l.length - p) by omega, Nat.le_refl _, g1, g2, g4, fun j h1 h2 => by omega⟩
      · exact key
      rintro m u' ⟨a, τ⟩ ⟨h1, h2, h3, h4, h5, h6⟩ ih2
      simp only at h1 h2 h3 h4 h5 h6
      show L_X11_sort_50 Q (L_X11_sort_4 Q u) (u' + 1) (nI k) (nI l.length) (nI i) (nI (zp_cost E (zp_pt E.1 k i))) (nI a) τ
      have hfin : m = 0 → B_X11_sort_121 Q (L_X11_sort_4 Q u) (nI k) (nI l.length) (nI i) (nI a) τ := by
        intro hm
        have : a = p := by omega
        subst this
        refine hput τ h3 h4 (fun j hj hjp => ?_)
        by_cases c : j < a
        · rw [if_pos c]; exact h5 j c
        · rw [if_neg c]; exact h6 j (by omega) hj
      by_cases a0 : a = 0
      · subst a0
        exact zp_t (by decide) (hfin (by omega))
      · refine zp_f (nI_nle (by omega) (by omega)) ?_
        have hla := hmem (a - 1) (by omega)
        have w2a := w2 (l.getD (a - 1) 0) (by omega)
        have hba := hb (l.getD (a - 1) 0) (by omega)
        have hbi := hb i hi
        rw [zp_8m, nI_add, zp_n1 (by omega), show k * 8 + a - 1 = k * 8 + (a - 1) by omega]
        refine ⟨vp_in_nI (by omega) (by decide), ?_⟩
        rw [nI_clamp (n := k * 8 + (a - 1)) (by omega), h5 (a - 1) (by omega), nI_add]
        refine ⟨vp_in_nI (by omega) (by decide), ?_⟩
        rw [nI_clamp (n := k * 8 + l.getD (a - 1) 0) (by omega), ((hfr τ h3).1 _ (by omega)).2]
        refine ⟨vp_in_nI (by omega) (by decide), ?_⟩
        rw [nI_clamp (n := zp_pt E.1 k (l.getD (a - 1) 0)) (by omega), (hfr τ h3).2 _ (by omega)]
        by_cases m0 : m = 0
        · have := p2 (a - 1) (by omega)
          rw [hla.2, hri] at this
          exact zp_t (nI_le this (by omega)) (hfin m0)
        · have := p3 (a - 1) (by omega) (by omega)
          rw [hla.2, hri] at this
          refine zp_f (nI_ge this (by omega)) ⟨vp_in_nI (by omega) (by decide), vp_in_nI (by omega) (by decide), ?_⟩
          rw [nI_clamp (n := k * 8 + a) (by omega), zp_p1 (by omega)]
          rintro τ1 rfl
          refine ih2 (a - 1, zv_wi τ 67 (k * 8 + a) (nI (l.getD (a - 1) 0))) (by omega) ⟨show a - 1 = p + (m - 1) by omega, show a - 1 ≤ l.length by omega, h3.tr (zp_ch.wi (List.mem_cons_self ..)), fun j hj => ?_, fun j hj => ?_, fun j hj hji => ?_⟩
          · show (zv_wi τ 67 _ _).1 67 j = _
            rw [zp_rj _ _ (by omega)]; exact h4 j hj
          · simp only at hj
            show (zv_wi τ 67 _ _).1 67 _ = _
            rw [zp_rj _ _ (by omega)]; exact h5 j (by omega)
          · simp only at hj
            show (zv_wi τ 67 _ _).1 67 _ = _
            by_cases c : j = a
            · subst c; rw [zp_rs]
            · rw [zp_rj _ _ (by omega)]; exact h6 j (by omega) hji
    · rw [if_neg c] at hnd
      refine zp_t (nI_le (a := 2) (by omega) (by omega)) ?_
      unfold B_X11_sort_137
      rw [nI_1]
      exact ih (_, σ') ⟨g1, g2, by rw [hnd], by rw [hnd]; exact g4⟩
end SORTR
