/-! fillByBool, fillRows. -/
def zp_num (S : zp_S) (k r : Nat) : Nat → Nat
  | 0 => 0
  | i + 1 => zp_num S k r i + (if zp_ro S k i = r then 1 else 0)
theorem zp_num_le {S : zp_S} {k r : Nat} : ∀ m, zp_num S k r m ≤ m := by
  intro m
  induction m with
  | zero => exact Nat.le_refl _
  | succ m ih =>
    show zp_num S k r m + _ ≤ _
    split <;> omega
theorem zp_num0 {S : zp_S} {k r : Nat} : ∀ m, zp_num S k r m = 0 ↔ ∀ i, i < m → ¬ zp_ro S k i = r := by
  intro m
  induction m with
  | zero => exact ⟨fun _ i hi => by omega, fun _ => rfl⟩
  | succ m ih =>
    show zp_num S k r m + _ = 0 ↔ _
    constructor
    · intro h i hi e
      by_cases him : i = m
      · subst him; rw [if_pos e] at h; omega
      · exact ih.mp (by omega) i (by omega) e
    · intro h
      rw [if_neg (h m (by omega)), ih.mpr (fun i hi => h i (by omega))]
section NUM
variable {σ : zv_St} {Q : Int32 → zv_St → Prop} {k n r : Nat} {S : zp_S}
theorem zp_countOf (hk : k < 80) (hr : r ≤ 3) (h8 : zp_mn S k ≤ 8) (l4 : σ.1 10 k = nI (zp_mn S k)) (l5 : ∀ i, i < zp_mn S k → σ.1 11 (k * 8 + i) = nI (zp_ro S k i) ∧ zp_ro S k i ≤ 3) (q : Q (nI (zp_num S k r (zp_mn S k))) σ) : B_X5_countOf Q (nI k) (nI r) σ := by
  refine zp_for (L := fun u i (a : Int32 × zv_St) => L_X5_countOf_5 Q u (nI k) (nI r) a.1 (nI i) a.2) (zp_mn S k) (fun i a => a = (nI (zp_num S k r i), σ)) (fun u a h => ?_) (fun u i a hi h ih => ?_) 0 (0, σ) rfl (Nat.zero_le _)
  · subst h
    refine ⟨vp_in_nI hk (by decide), ?_⟩
    rw [nI_clamp (by omega), l4]
    exact zp_t (nI_le (Nat.le_refl _) (by omega)) q
  · subst h
    refine ⟨vp_in_nI hk (by decide), ?_⟩
    rw [nI_clamp (by omega), l4]
    refine zp_f (nI_ge hi (by omega)) ?_
    obtain ⟨b1, b2⟩ := l5 i hi
    refine zp_a_roleAt hk (by omega) b1 ?_
    unfold B_X5_countOf_30
    rw [nI_1, nI_1]
    by_cases e : zp_ro S k i = r
    · refine zp_nf (by rw [e]) (ih (nI (zp_num S k r i + 1), σ) ?_)
      show (_, _) = (nI (zp_num S k r i + _), _)
      rw [if_pos e]
    · refine zp_nt (fun z => e (zp_ninj (by omega) (by omega) z)) (ih (nI (zp_num S k r i), σ) ?_)
      show (_, _) = (nI (zp_num S k r i + _), _)
      rw [if_neg e]; rfl
theorem zp_leastOf (hk : k < 80) (h8 : zp_mn S k ≤ 8) (hf : zp_fs S k ≤ 8) (l1 : σ.1 7 k = nI (zp_fs S k)) (l4 : σ.1 10 k = nI (zp_mn S k)) (l5 : ∀ i, i < zp_mn S k → σ.1 11 (k * 8 + i) = nI (zp_ro S k i) ∧ zp_ro S k i ≤ 3) (q : Q (nI (zp_lst S k)) σ) : B_X5_leastOf Q (nI k) σ := by
  have b0 := zp_num_le (S := S) (k := k) (r := 0) (zp_mn S k)
  have b1 := zp_num_le (S := S) (k := k) (r := 1) (zp_mn S k)
  have kA : (zp_num S k 0 (zp_mn S k) ≠ 0 ∨ zp_num S k 1 (zp_mn S k) ≠ 0) → B_X5_leastOf_22 Q (nI k) σ := by
    intro h
    refine zp_t rfl ⟨vp_in_nI hk (by decide), ?_⟩
    rw [nI_clamp (by omega), l1]
    have e : zp_lst S k = zp_fs S k := by
      unfold zp_lst
      rw [if_pos]
      rw [List.any_eq_true]
      have : ∃ i, i < zp_mn S k ∧ zp_ro S k i < 2 := by
        refine Classical.byContradiction (fun hn => ?_)
        have hz : ∀ i, i < zp_mn S k → ¬ zp_ro S k i < 2 := fun i hi hl => hn ⟨i, hi, hl⟩
        rcases h with h | h
        · exact h ((zp_num0 _).mpr (fun i hi e => hz i hi (by omega)))
        · exact h ((zp_num0 _).mpr (fun i hi e => hz i hi (by omega)))
      obtain ⟨i, hi, hl⟩ := this
      exact ⟨i, List.mem_range.mpr hi, decide_eq_true hl⟩
    rw [e] at q
    exact q
  refine zp_countOf (r := 0) hk (by decide) h8 l4 l5 ?_
  by_cases c0 : zp_num S k 0 (zp_mn S k) = 0
  · refine zp_nf (by rw [c0]; rfl) ?_
    refine zp_countOf (r := 1) hk (by decide) h8 l4 l5 ?_
    by_cases c1 : zp_num S k 1 (zp_mn S k) = 0
    · refine zp_nf (by rw [c1]; rfl) (zp_f (by decide) ⟨vp_in_nI hk (by decide), ?_⟩)
      rw [nI_clamp (by omega), l1]
      have e : zp_lst S k = max (zp_fs S k) 1 := by
        unfold zp_lst
        rw [if_neg]
        rw [List.any_eq_true]
        rintro ⟨i, hi, hl⟩
        have hl := of_decide_eq_true hl
        have hi := List.mem_range.mp hi
        have := (zp_num0 _).mp c0 i hi
        have := (zp_num0 _).mp c1 i hi
        omega
      rw [e] at q
      by_cases f : zp_fs S k < 1
      · refine zp_t (nI_lt (b := 1) f (by decide)) ?_
        rw [show max (zp_fs S k) 1 = 1 by omega] at q
        exact q
      · refine zp_f (nI_nlt (b := 1) (by omega) (by omega)) ?_
        rw [show max (zp_fs S k) 1 = zp_fs S k by omega] at q
        exact q
    · exact zp_nt (nI_ne0 (by omega) (by omega)) (kA (Or.inr c1))
  · exact zp_nt (nI_ne0 (by omega) (by omega)) (kA (Or.inl c0))
end NUM
section FILL2
variable {σ : zv_St} {Q : zv_St → Prop} {k o n : Nat} {E : zp_E}
theorem zp_fillByBool (hS : zp_CS σ n E) (hk : k < n) (e : zp_kd E.1 k = 2) (hR : zp_RD σ E k) (q : ∀ σ', zp_r2 k (fun o => zp_may E o k) (fun o => zp_sure E o k) σ σ' → Q σ') : B_X0_fillByBool Q (nI k) σ := by
  have hn := hS.1.1
  have hw := hS.1.2 k hk
  obtain ⟨w0, w1, w2, -, -, w5, -⟩ := hS.1.2 k hk
  obtain ⟨-, l1, -, l4, l5⟩ := hS.2.1.2 k hk
  have hms := zp_ms2 hw e
  have hbs : ∀ (a a' b b' : Nat → Bool), (∀ p, p < k → a p = a' p) → (∀ p, p < k → b p = b' p) → zp_bs E.1 k a b = zp_bs E.1 k a' b' := by
    intro a a' b b' ha hb
    have hc : ∀ m, m ≤ zp_mn E.1 k → zp_cnt E.1 k a m = zp_cnt E.1 k a' m := by
      intro m
      induction m with
      | zero => intro _; rfl
      | succ m ih =>
        intro hm
        show zp_cnt E.1 k a m + _ = zp_cnt E.1 k a' m + _
        rw [ih (by omega), ha _ (w2 m (by omega)).1]
    unfold zp_bs
    rw [hc _ (Nat.le_refl _)]
    congr 1
    refine zp_all_congr (fun i hi => ?_)
    rw [ha _ (w2 i hi).1, hb _ (w2 i hi).1]
  refine zp_leastOf (by omega) w1 (w5 e).1 l1 l4 (fun i hi => ⟨(l5 i hi).1, (w2 i hi).2⟩) ?_
  refine zp_for (L := fun u w σ' => L_X0_fillByBool_11 Q u (nI k) (nI (zp_lst E.1 k)) (nI w) σ') 8 (fun w σ' => zp_ch [21, 23, 26] σ σ' ∧ (∀ j, j / 8 ≠ k → σ'.2 21 j = σ.2 21 j ∧ σ'.2 23 j = σ.2 23 j) ∧ ∀ o, o < 512 → o / 64 < w → zp_bit (σ'.2 21) k o = zp_may E o k ∧ zp_bit (σ'.2 23) k o = zp_sure E o k) (fun u σ' h => zp_t (by decide) (q σ' ⟨h.1, h.2.1, fun o ho => h.2.2 o ho (by omega)⟩)) (fun u w σ' hw8 h ih => ?_) 0 σ ⟨zp_ch.rf, fun _ _ => ⟨rfl, rfl⟩, fun o ho hh => by omega⟩ (by decide)
  obtain ⟨g1, g2, g3⟩ := h
  have hS' := hS.ch g1 (by decide)
  refine zp_f (nI_ge (b := 8) hw8 (by decide)) ?_
  refine zp_boolWord_19_20_22 hS' hk e hw8 (fun r1 σ1 c1 d1 => ?_)
  refine zp_setWord_20 (by omega) hw8 ?_
  obtain ⟨u1, u2, u3⟩ := zp_rw_word (σ := σ1) (c := 21) (k := k) (w := w) (x := r1) hw8
  generalize zv_wl σ1 21 (k * 8 + w) r1 = σ2 at u1 u2 u3 ⊢
  have c2 : zp_ch [21, 23, 26] σ σ2 := (g1.tr (c1.mono (by decide))).tr (u1.mono (by decide))
  refine zp_boolWord_19_22_20 (hS.ch c2 (by decide)) hk e hw8 (fun r2 σ3 c3 d3 => ?_)
  refine zp_setWord_22 (by omega) hw8 ?_
  obtain ⟨v1, v2, v3⟩ := zp_rw_word (σ := σ3) (c := 23) (k := k) (w := w) (x := r2) hw8
  generalize zv_wl σ3 23 (k * 8 + w) r2 = σ4 at v1 v2 v3 ⊢
  rw [nI_1]
  have a21 : σ4.2 21 = σ2.2 21 := ((v1 21 (by decide)).2).trans (c3 21 (by decide)).2
  have a23 : σ3.2 23 = σ'.2 23 := ((c3 23 (by decide)).2).trans (((u1 23 (by decide)).2).trans (c1 23 (by decide)).2)
  have b21 : σ1.2 21 = σ'.2 21 := (c1 21 (by decide)).2
  have b23 : σ2.2 23 = σ'.2 23 := ((u1 23 (by decide)).2).trans (c1 23 (by decide)).2
  rw [a21.symm] at u2 u3
  rw [b21] at u2 u3
  rw [a23] at v2 v3
  refine ih σ4 ⟨(c2.tr (c3.mono (by decide))).tr (v1.mono (by decide)), fun j hj => ⟨(u2 j hj).trans (g2 j hj).1, (v2 j hj).trans (g2 j hj).2⟩, fun o ho how => ?_⟩
  rw [u3 o ho, v3 o ho]
  by_cases ew : o / 64 = w
  · subst ew
    rw [if_pos rfl, if_pos rfl, d1 _ (by omega), d3 _ (by omega), (hms o).1, (hms o).2]
    have R : ∀ p, p < k → zp_bt (σ'.2 21 (p * 8 + o / 64)) (o % 64) = zp_may E o p ∧ zp_bt (σ'.2 23 (p * 8 + o / 64)) (o % 64) = zp_sure E o p := by
      intro p hp
      rw [(g2 (p * 8 + o / 64) (by omega)).1, (g2 (p * 8 + o / 64) (by omega)).2]
      exact hR p hp o ho
    have R2 : ∀ p, p < k → zp_bt (σ2.2 21 (p * 8 + o / 64)) (o % 64) = zp_may E o p ∧ zp_bt (σ2.2 23 (p * 8 + o / 64)) (o % 64) = zp_sure E o p := by
      intro p hp
      rw [← a21, u2 (p * 8 + o / 64) (by omega), b23]
      exact R p hp
    exact ⟨hbs _ _ _ _ (fun p hp => (R p hp).1) (fun p hp => (R p hp).2), hbs _ _ _ _ (fun p hp => (R2 p hp).2) (fun p hp => (R2 p hp).1)⟩
  · rw [if_neg ew, if_neg ew]
    exact g3 o ho (by omega)
theorem zp_fillRows (hS : zp_CS σ n E) (hk : k < n) (hR : zp_RD σ E k) (h0 : ∀ o, o < 512 → zp_bit (σ.2 21) k o = false ∧ zp_bit (σ.2 23) k o = false) (q : ∀ σ', zp_r2 k (fun o => zp_may E o k) (fun o => zp_sure E o k) σ σ' → Q σ') : B_X0_fillRows Q (nI k) σ := by
  have hn := hS.1.1
  have hw := hS.1.2 k hk
  obtain ⟨l0, -, -, l4, l5⟩ := hS.2.1.2 k hk
  have h7 := hw.1
  refine zp_a_kind (by omega) l0 ?_
  have nk : ∀ {a b : Nat}, zp_kd E.1 k = a → a ≠ b → a < 8 → b < 8 → ¬ nI (zp_kd E.1 k) = nI b := fun e1 e2 e3 e4 z => e2 (by rw [← e1]; exact zp_ninj (by omega) (by omega) z)
  have njp : zp_kd E.1 k = 3 ∨ zp_kd E.1 k = 4 → B_X0_fillRows_108 Q (nI k) σ := by
    intro e
    refine zp_joinParts hS hk hR h0 (fun σ' h => q σ' (h.cg (fun o ho => ?_)))
    rcases e with e | e
    · rw [(zp_ms3 hw e o).1, (zp_ms3 hw e o).2]
      exact ⟨rfl, rfl⟩
    · obtain ⟨o1, o2, -, -⟩ := hw.one (by omega)
      rw [(zp_ms4 hw e o).1, (zp_ms4 hw e o).2, o1, zp_any_succ, zp_any_succ, o2]
      exact ⟨rfl, rfl⟩
  refine ⟨fun z => ?_, fun z => ?_, fun z => ?_, fun z => ?_, fun z => ?_, fun z => ?_, fun z => ?_, fun z => ?_⟩
  · exact zp_fillByList hS hk (zp_ninj (by omega) (by decide) z) h0 q
  · exact zp_fillByRange hS hk (zp_ninj (b := 1) (by omega) (by decide) z) h0 q
  · exact zp_fillByBool hS hk (zp_ninj (b := 2) (by omega) (by decide) z) hR q
  · exact njp (Or.inl (zp_ninj (b := 3) (by omega) (by decide) z))
  · exact njp (Or.inr (zp_ninj (b := 4) (by omega) (by decide) z))
  · have e := zp_ninj (b := 5) (by omega) (by decide) z
    obtain ⟨o1, o2, -, o4⟩ := hw.one (by omega)
    refine zp_a_partAt (i := 0) (by omega) (by decide) (l5 0 (by omega)).2 ?_
    rw [o2]
    refine zp_join_20_20 (by omega) (by omega) (by omega) (fun σ1 h1 => q σ1 ?_)
    refine ⟨h1.1.mono (by decide), fun j hj => ⟨h1.2.1 j hj, congrFun (h1.1 23 (by decide)).2 j⟩, fun o ho => ?_⟩
    show zp_bit (σ1.2 21) k o = zp_may E o k ∧ zp_bit (σ1.2 23) k o = zp_sure E o k
    rw [(show zp_bit (σ1.2 21) k o = (zp_bit (σ.2 21) k o || zp_bit (σ.2 21) (zp_fs E.1 k) o) from h1.2.2 o ho), (h1.1 23 (by decide)).2, (h0 o ho).1, (h0 o ho).2, (zp_ms5 hw e o).1, (zp_ms5 hw e o).2, (hR _ o4 o ho).1]
    exact ⟨rfl, rfl⟩
  · exact zp_fillByKept hS hk (zp_ninj (b := 6) (by omega) (by decide) z) hR h0 q
  · have e : zp_kd E.1 k = 7 := by
      rw [nI_toInt (by omega)] at z
      omega
    refine q σ ⟨zp_ch.rf, fun _ _ => ⟨rfl, rfl⟩, fun o ho => ?_⟩
    show zp_bit (σ.2 21) k o = zp_may E o k ∧ zp_bit (σ.2 23) k o = zp_sure E o k
    rw [(h0 o ho).1, (h0 o ho).2, (zp_ms7 hw e o).1, (zp_ms7 hw e o).2]
    exact ⟨rfl, rfl⟩
end FILL2
