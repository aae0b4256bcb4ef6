/-! arrange, prepare. -/
theorem zp_put_at {r : Nat → Nat} {x : Nat} : ∀ {l : List Nat}, l.Pairwise (fun a b => r a ≤ r b) → ∃ p, p ≤ l.length ∧ (∀ j, j < p → r (l.getD j 0) ≤ r x) ∧ (∀ j, p ≤ j → j < l.length → r x < r (l.getD j 0)) ∧ ∀ j, (zp_put r x l).getD j 0 = if j < p then l.getD j 0 else if j = p then x else l.getD (j - 1) 0 := by
  intro l
  induction l with
  | nil =>
    intro _
    refine ⟨0, Nat.le_refl _, fun j hj => by omega, fun j _ hj => absurd hj (Nat.not_lt_zero _), fun j => ?_⟩
    rw [if_neg (by omega)]
    cases j with
    | zero => rfl
    | succ j => rw [if_neg (by omega)]; rfl
  | cons y l ih =>
    intro h
    obtain ⟨h1, h2⟩ := List.pairwise_cons.mp h
    by_cases c : r x < r y
    · refine ⟨0, Nat.zero_le _, fun j hj => by omega, fun j _ hj => ?_, fun j => ?_⟩
      · cases j with
        | zero => exact c
        | succ j =>
          have hj' : j < l.length := Nat.lt_of_succ_lt_succ hj
          have := h1 (l.getD j 0) (by
            rw [List.getD_eq_getElem?_getD, List.getElem?_eq_getElem hj', Option.getD_some]
            exact List.getElem_mem _)
          show r x < r (l.getD j 0)
          omega
      · show (if r x < r y then x :: y :: l else y :: zp_put r x l).getD j 0 = _
        rw [if_pos c, if_neg (by omega)]
        cases j with
        | zero => rfl
        | succ j => rw [if_neg (by omega)]; rfl
    · obtain ⟨p, p1, p2, p3, p4⟩ := ih h2
      refine ⟨p + 1, Nat.succ_le_succ p1, fun j hj => ?_, fun j hj hl => ?_, fun j => ?_⟩
      · cases j with
        | zero => show r y ≤ r x; omega
        | succ j => exact p2 j (by omega)
      · cases j with
        | zero => omega
        | succ j => exact p3 j (by omega) (Nat.lt_of_succ_lt_succ hl)
      · show (if r x < r y then x :: y :: l else y :: zp_put r x l).getD j 0 = _
        rw [if_neg c]
        cases j with
        | zero => rw [if_pos (by omega)]; rfl
        | succ j =>
          show (zp_put r x l).getD j 0 = _
          rw [p4 j]
          by_cases a : j < p
          · rw [if_pos a, if_pos (by omega)]; rfl
          · rw [if_neg a, if_neg (c := j + 1 < p + 1) (by omega)]
            by_cases b : j = p
            · rw [if_pos b, if_pos (by omega)]
            · rw [if_neg b, if_neg (by omega)]
              obtain ⟨j', rfl⟩ : ∃ j', j = j' + 1 := ⟨j - 1, by omega⟩
              rfl
theorem zp_put_pw {r : Nat → Nat} {x : Nat} : ∀ {l : List Nat}, l.Pairwise (fun a b => r a ≤ r b) → (zp_put r x l).Pairwise (fun a b => r a ≤ r b) := by
  intro l
  induction l with
  | nil => intro _; exact List.pairwise_singleton _ _
  | cons y l ih =>
    intro h
    obtain ⟨h1, h2⟩ := List.pairwise_cons.mp h
    show (if r x < r y then x :: y :: l else y :: zp_put r x l).Pairwise _
    by_cases c : r x < r y
    · rw [if_pos c]
      refine List.pairwise_cons.mpr ⟨fun z hz => ?_, h⟩
      rcases List.mem_cons.mp hz with e | e
      · subst e; omega
      · have := h1 z e; omega
    · rw [if_neg c]
      refine List.pairwise_cons.mpr ⟨fun z hz => ?_, ih h2⟩
      rcases zp_put_mem.mp hz with e | e
      · subst e; omega
      · exact h1 z e
theorem zp_ord_pw {r : Nat → Nat} : ∀ m, (zp_ord r m).Pairwise (fun a b => r a ≤ r b) := by
  intro m
  induction m with
  | zero => exact List.Pairwise.nil
  | succ m ih => exact zp_put_pw ih
theorem zp_ord_lt {r : Nat → Nat} {m j : Nat} (h : j < m) : (zp_ord r m).getD j 0 < m := by
  have hl : j < (zp_ord r m).length := by rw [zp_ord_len]; exact h
  refine (zp_ord_mem (r := r)).mp ?_
  rw [List.getD_eq_getElem?_getD, List.getElem?_eq_getElem hl, Option.getD_some]
  exact List.getElem_mem _
section ARR
variable {σ : zv_St} {k n : Nat} {E : zp_E}
theorem zp_rank_le (hb : ∀ p, p < k → zp_cost E p ≤ 512) (w2 : ∀ i, i < zp_mn E.1 k → zp_pt E.1 k i < k ∧ zp_ro E.1 k i ≤ 3) {i : Nat} (hi : i < zp_mn E.1 k) : zp_rank E k i ≤ 515 := by
  unfold zp_rank
  have := w2 i hi
  have := hb _ (w2 i hi).1
  split <;> omega
theorem zp_rankOf {Q : Int32 → zv_St → Prop} {i : Nat} (hk : k < 80) (h8 : zp_mn E.1 k ≤ 8) (hi : i < zp_mn E.1 k) (w2 : ∀ i, i < zp_mn E.1 k → zp_pt E.1 k i < k ∧ zp_ro E.1 k i ≤ 3) (l5 : ∀ i, i < zp_mn E.1 k → σ.1 11 (k * 8 + i) = nI (zp_ro E.1 k i) ∧ σ.1 12 (k * 8 + i) = nI (zp_pt E.1 k i)) (hC : ∀ p, p < k → σ.1 24 p = nI (zp_cost E p)) (q : Q (nI (zp_rank E k i)) σ) : B_X0_rankOf Q (nI k) (nI i) σ := by
  obtain ⟨v1, v2⟩ := w2 i hi
  refine zp_a_roleAt hk (by omega) (l5 i hi).1 ?_
  refine zp_a_needed v2 ?_
  unfold zp_rank at q
  by_cases e : zp_ro E.1 k i < 2
  · rw [decide_eq_true e]
    rw [if_pos e] at q
    refine zp_f (by decide) ?_
    refine zp_a_partAt hk (by omega) (l5 i hi).2 ⟨vp_in_nI (by omega) (by decide), ?_⟩
    rw [nI_clamp (by omega), hC _ v1]
    exact q
  · rw [decide_eq_false e]
    rw [if_neg e] at q
    refine zp_t rfl ?_
    rw [show (512 : Int32) + nI (zp_ro E.1 k i) = nI (512 + zp_ro E.1 k i) from nI_add 512 _]
    exact q
theorem zp_arrange {Q : zv_St → Prop} (hS : zp_CS σ n E) (hk : k < n) (hb : ∀ p, p < k → zp_cost E p ≤ 512) (hC : ∀ p, p < k → σ.1 24 p = nI (zp_cost E p)) (q : ∀ σ', zp_ch [25] σ σ' → (∀ j, j / 8 ≠ k → σ'.1 25 j = σ.1 25 j) → (∀ i, i < zp_mn E.1 k → σ'.1 25 (k * 8 + i) = nI ((zp_ord (zp_rank E k) (zp_mn E.1 k)).getD i 0)) → Q σ') : B_X0_arrange Q (nI k) σ := by
  have hn := hS.1.1
  obtain ⟨w0, w1, w2, -⟩ := hS.1.2 k hk
  obtain ⟨-, -, -, l4, l5⟩ := hS.2.1.2 k hk
  unfold B_X0_arrange
  rw [zp_m8]
  refine zp_for (L := fun u i σ' => L_X0_arrange_7 Q u (nI k) (nI (k * 8)) (nI i) σ') (zp_mn E.1 k) (fun i σ' => zp_ch [25] σ σ' ∧ (∀ j, j / 8 ≠ k → σ'.1 25 j = σ.1 25 j) ∧ ∀ j, j < i → σ'.1 25 (k * 8 + j) = nI ((zp_ord (zp_rank E k) i).getD j 0)) (fun u σ' h => ?_) (fun u i σ' hi h ih => ?_) 0 σ ⟨zp_ch.rf, fun _ _ => rfl, fun j hj => by omega⟩ (Nat.zero_le _)
  · have e10 := congrFun (h.1 10 (by decide)).1 k
    unfold L_X0_arrange_7
    refine zp_a_size (by omega) (e10.trans l4) ?_
    exact zp_t (nI_le (Nat.le_refl _) (by omega)) (q σ' h.1 h.2.1 h.2.2)
  · obtain ⟨g1, g2, g3⟩ := h
    have e10 := congrFun (g1 10 (by decide)).1 k
    have fr : ∀ τ, zp_ch [25] σ τ → (∀ i, i < zp_mn E.1 k → τ.1 11 (k * 8 + i) = nI (zp_ro E.1 k i) ∧ τ.1 12 (k * 8 + i) = nI (zp_pt E.1 k i)) ∧ ∀ p, p < k → τ.1 24 p = nI (zp_cost E p) := by
      intro τ hτ
      rw [(hτ 11 (by decide)).1, (hτ 12 (by decide)).1, (hτ 24 (by decide)).1]
      exact ⟨l5, hC⟩
    unfold L_X0_arrange_7
    refine zp_a_size (by omega) (e10.trans l4) ?_
    refine zp_f (nI_ge hi (by omega)) ?_
    refine zp_rankOf (by omega) w1 hi w2 (fr σ' g1).1 (fr σ' g1).2 ?_
    obtain ⟨p, p1, p2, p3, p4⟩ := zp_put_at (x := i) (zp_ord_pw (r := zp_rank E k) i)
    rw [zp_ord_len] at p1 p3
    have hlt : ∀ {j}, j < i → (zp_ord (zp_rank E k) i).getD j 0 < i := fun h => zp_ord_lt h
    have hrk : ∀ {j}, j < zp_mn E.1 k → zp_rank E k j ≤ 515 := fun h => zp_rank_le hb w2 h
    generalize hl : zp_ord (zp_rank E k) i = l at g3 p2 p3 p4 hlt
    have hput : ∀ τ, zp_ch [25] σ τ → (∀ j, j / 8 ≠ k → τ.1 25 j = σ.1 25 j) → (∀ j, j ≤ i → j ≠ p → τ.1 25 (k * 8 + j) = nI (if j < p then l.getD j 0 else l.getD (j - 1) 0)) → B_X0_arrange_79 Q (L_X0_arrange_7 Q u) (nI k) (nI (k * 8)) (nI i) (nI (k * 8 + p)) τ := by
      intro τ t1 t2 t3
      refine ⟨vp_in_nI (by omega) (by decide), ?_⟩
      rw [nI_clamp (by omega), nI_1]
      rintro τ1 rfl
      refine ih _ ⟨t1.tr (zp_ch.wi (List.mem_cons_self ..)), fun j hj => ?_, fun j hj => ?_⟩
      · rw [zp_rj _ _ (by omega)]; exact t2 j hj
      · show _ = nI ((zp_put (zp_rank E k) i (zp_ord (zp_rank E k) i)).getD j 0)
        rw [hl, p4 j]
        by_cases e : j = p
        · subst e
          rw [zp_rs, if_neg (by omega), if_pos rfl]
        · rw [zp_rj _ _ (by omega), t3 j (by omega) e]
          by_cases e2 : j < p
          · rw [if_pos e2, if_pos e2]
          · rw [if_neg e2, if_neg e2, if_neg e]
    rw [nI_add]
    refine ⟨i - p + 1, ?_⟩
    have key := zp_iter (L := fun u' (a : Nat × zv_St) => L_X0_arrange_32 Q (L_X0_arrange_7 Q u) u' (nI k) (nI (k * 8)) (nI i) (nI (zp_rank E k i)) (nI (k * 8 + a.1)) a.2) (fun m a => a.1 = p + m ∧ a.1 ≤ i ∧ zp_ch [25] σ a.2 ∧ (∀ j, j / 8 ≠ k → a.2.1 25 j = σ.1 25 j) ∧ (∀ j, j < a.1 → a.2.1 25 (k * 8 + j) = nI (l.getD j 0)) ∧ ∀ j, a.1 < j → j ≤ i → a.2.1 25 (k * 8 + j) = nI (l.getD (j - 1) 0)) ?_ (i - p) (i, σ') ⟨show i = p + (i - p) by omega, Nat.le_refl _, g1, g2, g3, fun j h1 h2 => by omega⟩
    · exact key
    rintro m u' ⟨a, τ⟩ ⟨h1, h2, h3, h4, h5, h6⟩ ih2
    simp only at h1 h2 h3 h4 h5 h6
    show L_X0_arrange_32 Q (L_X0_arrange_7 Q u) (u' + 1) (nI k) (nI (k * 8)) (nI i) (nI (zp_rank E k i)) (nI (k * 8 + a)) τ
    have hfin : m = 0 → B_X0_arrange_79 Q (L_X0_arrange_7 Q u) (nI k) (nI (k * 8)) (nI i) (nI (k * 8 + a)) τ := by
      intro hm
      have : a = p := by omega
      subst this
      refine hput τ h3 h4 (fun j hj hjp => ?_)
      by_cases c : j < a
      · rw [if_pos c]; exact h5 j c
      · rw [if_neg c]; exact h6 j (by omega) hj
    by_cases a0 : a = 0
    · refine zp_t (nI_le (by omega) (by omega)) (hfin (by omega))
    · refine zp_f (nI_ge (by omega) (by omega)) ?_
      rw [zp_n1 (by omega), show k * 8 + a - 1 = k * 8 + (a - 1) by omega]
      refine ⟨vp_in_nI (by omega) (by decide), ?_⟩
      rw [nI_clamp (n := k * 8 + (a - 1)) (by omega), h5 (a - 1) (by omega)]
      have hla := hlt (show a - 1 < i by omega)
      refine zp_rankOf (by omega) w1 (by omega) w2 (fr τ h3).1 (fr τ h3).2 ?_
      have hr1 := hrk (show l.getD (a - 1) 0 < zp_mn E.1 k by omega)
      have hr2 := hrk hi
      by_cases m0 : m = 0
      · have := p2 (a - 1) (by omega)
        exact zp_t (nI_le this (by omega)) (hfin m0)
      · have := p3 (a - 1) (by omega) (by omega)
        refine zp_f (nI_ge this (by omega)) ⟨vp_in_nI (by omega) (by decide), vp_in_nI (by omega) (by decide), ?_⟩
        rw [nI_clamp (n := k * 8 + a) (by omega), h5 (a - 1) (by omega), zp_p1 (by omega), show k * 8 + a - 1 = k * 8 + (a - 1) by omega]
        rintro τ1 rfl
        refine ih2 (a - 1, zv_wi τ 25 (k * 8 + a) (nI (l.getD (a - 1) 0))) (by omega) ⟨show a - 1 = p + (m - 1) by omega, show a - 1 ≤ i by omega, h3.tr (zp_ch.wi (List.mem_cons_self ..)), fun j hj => ?_, fun j hj => ?_, fun j hj hji => ?_⟩
        · show (zv_wi τ 25 _ _).1 25 j = _
          rw [zp_rj _ _ (by omega)]; exact h4 j hj
        · simp only at hj
          show (zv_wi τ 25 _ _).1 25 _ = _
          rw [zp_rj _ _ (by omega)]; exact h5 j (by omega)
        · simp only at hj
          show (zv_wi τ 25 _ _).1 25 _ = _
          by_cases c : j = a
          · subst c; rw [zp_rs]
          · rw [zp_rj _ _ (by omega)]; exact h6 j (by omega) hji
end ARR
/-- all that is found of k -/
def zp_BD (σ : zv_St) (E : zp_E) (k : Nat) : Prop := σ.1 24 k = nI (zp_cost E k) ∧ (∀ o, o < 512 → zp_bit (σ.2 21) k o = zp_may E o k ∧ zp_bit (σ.2 23) k o = zp_sure E o k) ∧ (zp_kd E.1 k = 2 → ∀ i, i < zp_mn E.1 k → σ.1 25 (k * 8 + i) = nI ((zp_ord (zp_rank E k) (zp_mn E.1 k)).getD i 0))
theorem zp_prepare {σ : zv_St} {n l : Nat} {E : zp_E} {Q : zv_St → Prop} (hS : zp_CS σ n E) (hB : zp_BC σ n E) (hb : ∀ p, p < n → zp_cost E p ≤ 512) (hl : l < n) (q : ∀ σ', zp_ch [19, 21, 23, 24, 25, 26] σ σ' → zp_BC σ' n E → (∀ k, k ≤ l → zp_BD σ' E k) → Q σ') : B_X0_prepare Q (nI l) σ := by
  have hn := hS.1.1
  obtain ⟨r, r1, r2, r3⟩ := hB
  unfold B_X0_prepare
  rw [r2]
  refine zp_for (L := fun u i σ' => L_X0_prepare_5 Q u (nI l) (nI i) σ') (max r (l + 1)) (fun i σ' => r ≤ i ∧ zp_ch [21, 23, 24, 25, 26] σ σ' ∧ ∀ k, k < i → zp_BD σ' E k) (fun u σ' h => ?_) (fun u i σ' hi h ih => ?_) r σ ⟨Nat.le_refl _, zp_ch.rf, r3⟩ (by omega)
  · obtain ⟨g0, g1, g2⟩ := h
    refine zp_t (nI_lt (by omega) (by omega)) ?_
    rw [congrFun (g1 19 (by decide)).1 8, r2, nI_1]
    have fin : ∀ σ2, σ2 = zv_wi σ' 19 8 (nI (max r (l + 1))) → Q σ2 := by
      rintro σ2 rfl
      have c2 : zp_ch [19] σ' (zv_wi σ' 19 8 (nI (max r (l + 1)))) := zp_ch.wi (List.mem_cons_self ..)
      have g3 : ∀ k, k < max r (l + 1) → zp_BD (zv_wi σ' 19 8 (nI (max r (l + 1)))) E k := by
        intro k hk
        have := g2 k hk
        unfold zp_BD at this ⊢
        rw [(c2 24 (by decide)).1, (c2 25 (by decide)).1, (c2 21 (by decide)).2, (c2 23 (by decide)).2]
        exact this
      exact q _ ((g1.mono (by decide)).tr (c2.mono (by decide))) ⟨max r (l + 1), by omega, by rw [zp_rs], g3⟩ (fun k hk => g3 k (by omega))
    by_cases c : r < l + 1
    · rw [show max r (l + 1) = l + 1 by omega] at fin
      exact zp_t (nI_lt c (by omega)) fin
    · rw [show max r (l + 1) = r by omega] at fin
      exact zp_f (nI_nlt (by omega) (by omega)) fin
  · obtain ⟨g0, g1, g2⟩ := h
    have hiN : i ≤ l := by omega
    refine zp_f (nI_nlt (by omega) (by omega)) ?_
    refine zp_clear_20 (by omega) (fun σ1 c1 => ?_)
    refine zp_clear_22 (by omega) (fun σ2 c2 => ?_)
    have c12 := zp_r2.of c1 c2
    have hS2 := hS.ch (g1.tr (c12.1.mono (by decide))) (by decide)
    have hR2 : zp_RD σ2 E i := fun p hp o ho => by
      rw [(c12.bit (show p ≠ i by omega) ho).1, (c12.bit (show p ≠ i by omega) ho).2]
      exact (g2 p hp).2.1 o ho
    refine zp_fillRows hS2 (by omega) hR2 c12.2.2 (fun σ3 c3 => ?_)
    have c13 := c12.tr c3
    have hS3 := hS.ch (g1.tr (c13.1.mono (by decide))) (by decide)
    have hC3 : ∀ p, p < i → σ3.1 24 p = nI (zp_cost E p) := fun p hp => (congrFun (c13.1 24 (by decide)).1 p).trans (g2 p hp).1
    refine zp_costOf hS3 (by omega) (fun p hp => hb p (by omega)) hC3 ⟨vp_in_nI (by omega) (by decide), ?_⟩
    rw [nI_clamp (by omega)]
    rintro σ4 rfl
    have c4 : zp_ch [24] σ3 (zv_wi σ3 24 i (nI (zp_cost E i))) := zp_ch.wi (List.mem_cons_self ..)
    have d4 : ∀ p, p ≤ i → (zv_wi σ3 24 i (nI (zp_cost E i))).1 24 p = nI (zp_cost E p) := by
      intro p hp
      by_cases e : p = i
      · subst e; rw [zp_rs]
      · rw [zp_rj _ _ e]; exact hC3 p (by omega)
    generalize zv_wi σ3 24 i (nI (zp_cost E i)) = σ4 at c4 d4 ⊢
    have c14 : zp_ch [21, 23, 24, 26] σ' σ4 := (c13.1.mono (by decide)).tr (c4.mono (by decide))
    have hS4 := hS.ch (g1.tr (c14.mono (by decide))) (by decide)
    unfold B_X0_prepare_59
    have b4 : ∀ p, p ≤ i → ∀ o, o < 512 → zp_bit (σ4.2 21) p o = zp_may E o p ∧ zp_bit (σ4.2 23) p o = zp_sure E o p := by
      intro p hp o ho
      rw [(c4 21 (by decide)).2, (c4 23 (by decide)).2]
      by_cases e : p = i
      · subst e; exact c13.2.2 o ho
      · rw [(c13.bit e ho).1, (c13.bit e ho).2]
        exact (g2 p (by omega)).2.1 o ho
    refine zp_a_kind (by omega) (hS4.2.1.2 i (by omega)).1 ?_
    rw [nI_1]
    by_cases e : zp_kd E.1 i = 2
    · refine zp_nf (by rw [e]; rfl) ?_
      refine zp_arrange hS4 (by omega) (fun p hp => hb p (by omega)) (fun p hp => d4 p (by omega)) (fun σ5 c5 f5 o5 => ?_)
      refine ih σ5 ⟨by omega, g1.tr ((c14.mono (by decide)).tr (c5.mono (by decide))), fun k hk => ⟨?_, ?_, ?_⟩⟩
      · rw [(c5 24 (by decide)).1]; exact d4 k (by omega)
      · rw [(c5 21 (by decide)).2, (c5 23 (by decide)).2]; exact b4 k (by omega)
      · by_cases ek : k = i
        · subst ek; exact fun _ => o5
        · intro e2 j hj
          have hm := (hS.1.2 k (by omega)).2.1
          rw [f5 _ (by omega), congrFun (c14 25 (by decide)).1 _]
          exact (g2 k (by omega)).2.2 e2 j hj
    · refine zp_nt (fun z => e (zp_ninj (by have := (hS.1.2 i (by omega)).1; omega) (by decide) z)) ?_
      refine ih σ4 ⟨by omega, g1.tr (c14.mono (by decide)), fun k hk => ⟨d4 k (by omega), b4 k (by omega), ?_⟩⟩
      by_cases ek : k = i
      · subst ek; exact fun e2 => absurd e2 e
      · rw [(c14 25 (by decide)).1]
        exact (g2 k (by omega)).2.2
