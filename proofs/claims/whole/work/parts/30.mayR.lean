/-! The reference's MAY and SURE. -/
theorem zp_nb0 (b : Bool) : zp_bi b = 0 ↔ b = false := by cases b <;> decide
theorem zp_narb (b : Bool) : vp_nar .boolean (zp_bi b) = zp_bi b := by cases b <;> rfl
theorem zp_bin (b : Bool) : narrow .boolean (.int (zp_bi b)) = .int (zp_bi b) := by cases b <;> rfl
theorem zp_r23 {r : Nat} (h : r ≤ 3) : (nI r = 2 ↔ r = 2) ∧ (nI r = 3 ↔ r = 3) := by
  rcases (show r = 0 ∨ r = 1 ∨ r = 2 ∨ r = 3 by omega) with rfl | rfl | rfl | rfl <;> decide
section FITSR
variable {σ : zv_St} {k n : Nat} {E : zp_E}
theorem zp_fits137 {Q : Int32 → zv_St → Prop} {kk : Int32 → Int32 → Int32 → Int32 → Int32 → Int32 → zv_St → Prop} {x1 x2 x3 x6 y : Int32} {c r : Nat} {b : Bool} (hr : r ≤ 3) (q : kk x1 x2 x3 y (nI (c + (if r = 3 ∧ b = true then 1 else 0))) (x6 + 1) σ) : B_X11_fits_137 Q kk x1 x2 x3 (nI c) x6 (nI r) (zp_bi b) y σ := by
  unfold B_X11_fits_137 B_X11_fits_156 B_X11_fits_157
  rw [(zp_r23 hr).2]
  by_cases e : r = 3
  · refine zp_nf e ?_
    cases b
    · refine zp_t rfl ?_
      rw [if_neg (fun z => absurd z.2 (by decide))] at q
      rw [show (0 : Int32) = nI 0 from rfl, nI_add]; exact q
    · refine zp_f (by decide) ?_
      rw [if_pos ⟨e, rfl⟩] at q
      rw [show (1 : Int32) = nI 1 from rfl, nI_add]; exact q
  · refine zp_nt e ?_
    rw [if_neg (fun z => e z.1)] at q
    rw [show (0 : Int32) = nI 0 from rfl, nI_add]; exact q
theorem zp_fits115 {Q : Int32 → zv_St → Prop} {kk : Int32 → Int32 → Int32 → Int32 → Int32 → Int32 → zv_St → Prop} {x1 x2 x5 x6 y : Int32} {r : Nat} {b a : Bool} (hr : r ≤ 3) (q : B_X11_fits_137 Q kk x1 x2 y x5 x6 (nI r) (zp_bi b) (zp_bi (a || (decide (r ≠ 2) && b))) σ) : B_X11_fits_115 Q kk x1 x2 (zp_bi a) x5 x6 (nI r) (zp_bi b) y σ := by
  unfold B_X11_fits_115 B_X11_fits_132 B_X11_fits_136
  rw [(zp_r23 hr).1]
  cases a
  · refine zp_nf rfl ?_
    by_cases e : r = 2
    · refine zp_t e ?_
      rw [decide_eq_false (fun z => z e)] at q
      exact q
    · refine zp_f e ?_
      rw [decide_eq_true e] at q
      cases b
      · exact zp_t rfl q
      · exact zp_f (by decide) q
  · exact zp_nt (by decide) q
theorem zp_fits82 {Q : Int32 → zv_St → Prop} {kk : Int32 → Int32 → Int32 → Int32 → Int32 → Int32 → zv_St → Prop} {x1 x2 x4 x5 x6 : Int32} {r : Nat} {b a : Bool} (hr : r ≤ 3) (q : B_X11_fits_115 Q kk x1 x2 x4 x5 x6 (nI r) (zp_bi b) (zp_bi (a && (if r = 3 then true else if r = 2 then !b else b))) σ) : B_X11_fits_82 Q kk x1 x2 (zp_bi a) x4 x5 x6 (nI r) (zp_bi b) σ := by
  unfold B_X11_fits_82 B_X11_fits_107 B_X11_fits_114 B_X11_fits_110
  rw [(zp_r23 hr).1, (zp_r23 hr).2]
  cases a
  · exact zp_t rfl q
  · refine zp_f (by decide) ?_
    by_cases e3 : r = 3
    · rw [if_pos e3] at q
      exact zp_t e3 q
    · rw [if_neg e3] at q
      refine zp_f e3 ?_
      by_cases e2 : r = 2
      · rw [if_pos e2] at q
        refine zp_t e2 ?_
        cases b
        · exact zp_nf rfl q
        · exact zp_nt (by decide) q
      · rw [if_neg e2] at q
        refine zp_f e2 ?_
        cases b
        · exact zp_nt (by decide) q
        · exact zp_nf rfl q
/-- both ways to say what a BOOL asks for -/
theorem zp_bs_any {S : zp_S} {k : Nat} {a b : Nat → Bool} (h3 : ∀ i, i < zp_mn S k → zp_ro S k i ≤ 3) : ((List.range (zp_mn S k)).all (zp_bc S k a b) && ((List.range (zp_mn S k)).any (fun i => decide (zp_ro S k i ≠ 2) && a (zp_pt S k i)) && decide (zp_fs S k ≤ zp_cnt S k a (zp_mn S k)))) = zp_bs S k a b := by
  have hc : ∀ m, 0 < zp_cnt S k a m ↔ ∃ i, i < m ∧ zp_ro S k i = 3 ∧ a (zp_pt S k i) = true := by
    intro m
    induction m with
    | zero => exact ⟨fun h => absurd h (Nat.lt_irrefl _), fun ⟨i, hi, _⟩ => absurd hi (Nat.not_lt_zero _)⟩
    | succ m ih =>
      show 0 < zp_cnt S k a m + _ ↔ _
      by_cases e : zp_ro S k m = 3 ∧ a (zp_pt S k m) = true
      · rw [if_pos e]
        exact ⟨fun _ => ⟨m, by omega, e⟩, fun _ => by omega⟩
      · rw [if_neg e, Nat.add_zero, ih]
        constructor
        · rintro ⟨i, hi, z⟩; exact ⟨i, by omega, z⟩
        · rintro ⟨i, hi, z⟩
          by_cases c : i = m
          · subst c; exact absurd z e
          · exact ⟨i, by omega, z⟩
  unfold zp_bs
  show ((List.range (zp_mn S k)).all (zp_bc S k a b) && _) = ((List.range (zp_mn S k)).all (zp_bc S k a b) && _)
  cases hall : (List.range (zp_mn S k)).all (zp_bc S k a b)
  · rfl
  · rw [Bool.true_and, Bool.true_and, Bool.eq_iff_iff, Bool.and_eq_true, List.any_eq_true, decide_eq_true_iff, decide_eq_true_iff]
    rw [List.all_eq_true] at hall
    unfold zp_lst
    by_cases c : (List.range (zp_mn S k)).any (fun i => decide (zp_ro S k i < 2)) = true
    · rw [if_pos c]
      constructor
      · exact fun z => z.2
      · intro z
        refine ⟨?_, z⟩
        rw [List.any_eq_true] at c
        obtain ⟨i, hi, hl⟩ := c
        have hl := of_decide_eq_true hl
        refine ⟨i, hi, ?_⟩
        have := hall i hi
        unfold zp_bc at this
        rw [if_neg (by omega), if_neg (by omega)] at this
        rw [this, decide_eq_true (by omega)]; rfl
    · rw [if_neg c]
      have hno : ∀ i, i < zp_mn S k → ¬ zp_ro S k i < 2 := by
        intro i hi hl
        exact c (List.any_eq_true.mpr ⟨i, List.mem_range.mpr hi, decide_eq_true hl⟩)
      constructor
      · rintro ⟨⟨i, hi, z⟩, z2⟩
        have hi := List.mem_range.mp hi
        rw [Bool.and_eq_true] at z
        have z1 := of_decide_eq_true z.1
        have := hno i hi
        have := h3 i hi
        have := (hc (zp_mn S k)).mpr ⟨i, hi, by omega, z.2⟩
        omega
      · intro z
        refine ⟨?_, by omega⟩
        obtain ⟨i, hi, z1, z2⟩ := (hc (zp_mn S k)).mp (by omega)
        exact ⟨i, List.mem_range.mpr hi, by rw [z2, decide_eq_true (by omega)]; rfl⟩
theorem zp_fits {Q : Int32 → zv_St → Prop} (hS : zp_RS σ n E) (hk : k < n) (hf : zp_fs E.1 k ≤ 8) {m s : Nat → Bool} (hm : ∀ p, p < k → σ.1 63 p = zp_bi (m p) ∧ σ.1 64 p = zp_bi (s p)) (su : Bool) (q : Q (zp_bi (zp_bs E.1 k (if su = true then s else m) (if su = true then m else s))) σ) : B_X11_fits Q (nI k) (zp_bi su) σ := by
  have hn := hS.1.1
  obtain ⟨w0, w1, w2, -⟩ := hS.1.2 k hk
  obtain ⟨-, l1, -, l4, l5⟩ := hS.2.1.2 k hk
  have hin : vp_in (nI k) 80 := vp_in_nI (by omega) (by decide)
  have hle : ∀ (a : Nat → Bool) i, zp_cnt E.1 k a i ≤ i := by
    intro a i
    induction i with
    | zero => exact Nat.le_refl _
    | succ i ih =>
      show zp_cnt E.1 k a i + _ ≤ _
      split <;> omega
  have hab : ∀ p, p < k → (if su = true then s else m) p = (if su = true then s p else m p) ∧ (if su = true then m else s) p = (if su = true then m p else s p) := by
    intro p hp
    cases su <;> exact ⟨rfl, rfl⟩
  generalize ha : (if su = true then s else m) = a at q hab
  generalize hb : (if su = true then m else s) = b at q hab
  refine zp_for (L := fun u i (t : Int32 × Int32 × Int32) => L_X11_fits_11 Q u (nI k) (zp_bi su) t.1 t.2.1 t.2.2 (nI i) σ) (zp_mn E.1 k) (fun i t => t = (zp_bi ((List.range i).all (zp_bc E.1 k a b)), zp_bi ((List.range i).any (fun i => decide (zp_ro E.1 k i ≠ 2) && a (zp_pt E.1 k i))), nI (zp_cnt E.1 k a i))) (fun u t h => ?_) (fun u i t hi h ih => ?_) 0 (1, 0, 0) rfl (Nat.zero_le _)
  · subst h
    refine ⟨hin, ?_⟩
    rw [nI_clamp (by omega), l4]
    refine zp_t (nI_le (Nat.le_refl _) (by omega)) ?_
    rw [← zp_bs_any (fun i hi => (w2 i hi).2)] at q
    have hcl := hle a (zp_mn E.1 k)
    unfold B_X11_fits_190 B_X11_fits_191
    show (zp_bi ((List.range (zp_mn E.1 k)).all (zp_bc E.1 k a b)) = 0 → _) ∧ (¬ zp_bi ((List.range (zp_mn E.1 k)).all (zp_bc E.1 k a b)) = 0 → (zp_bi ((List.range (zp_mn E.1 k)).any (fun i => decide (zp_ro E.1 k i ≠ 2) && a (zp_pt E.1 k i))) = 0 → _) ∧ (¬ zp_bi ((List.range (zp_mn E.1 k)).any (fun i => decide (zp_ro E.1 k i ≠ 2) && a (zp_pt E.1 k i))) = 0 → _))
    rw [zp_nb0, zp_nb0]
    cases hA : (List.range (zp_mn E.1 k)).all (zp_bc E.1 k a b)
    · rw [hA] at q
      exact zp_t rfl ⟨rfl, q⟩
    · rw [hA] at q
      refine zp_f (by decide) ?_
      cases hB : (List.range (zp_mn E.1 k)).any (fun i => decide (zp_ro E.1 k i ≠ 2) && a (zp_pt E.1 k i))
      · rw [hB] at q
        exact zp_t rfl ⟨rfl, q⟩
      · rw [hB] at q
        refine zp_f (by decide) ⟨hin, ?_⟩
        rw [l1]
        by_cases c : zp_cnt E.1 k a (zp_mn E.1 k) < zp_fs E.1 k
        · refine zp_t (nI_lt c (by omega)) ⟨rfl, ?_⟩
          rw [decide_eq_false (by omega)] at q
          exact q
        · refine zp_f (nI_nlt (by omega) (by omega)) ⟨rfl, ?_⟩
          rw [decide_eq_true (by omega)] at q
          exact q
  · subst h
    obtain ⟨v1, v2⟩ := w2 i hi
    obtain ⟨b1, b2⟩ := l5 i hi
    obtain ⟨m1, m2⟩ := hm _ v1
    obtain ⟨a1, a2⟩ := hab _ v1
    have hinp : vp_in (nI (zp_pt E.1 k i)) 80 := vp_in_nI (by omega) (by decide)
    refine ⟨hin, ?_⟩
    rw [nI_clamp (n := k) (by omega), l4]
    refine zp_f (nI_ge hi (by omega)) ?_
    rw [zp_8m, nI_add]
    refine ⟨vp_in_nI (by omega) (by decide), ?_⟩
    rw [nI_clamp (n := k * 8 + i) (by omega), b1, b2]
    rintro x rfl
    refine ⟨vp_in_nI (by omega) (by decide), ?_⟩
    rintro y rfl
    unfold B_X11_fits_62
    rw [nI_clamp (n := zp_pt E.1 k i) (by omega), m1, m2, (zp_r23 v2).1]
    have key : ∀ v, v = (if zp_ro E.1 k i = 2 then b (zp_pt E.1 k i) else a (zp_pt E.1 k i)) → B_X11_fits_82 Q (L_X11_fits_11 Q u) (nI k) (zp_bi su) (zp_bi ((List.range i).all (zp_bc E.1 k a b))) (zp_bi ((List.range i).any (fun i => decide (zp_ro E.1 k i ≠ 2) && a (zp_pt E.1 k i)))) (nI (zp_cnt E.1 k a i)) (nI i) (nI (zp_ro E.1 k i)) (zp_bi v) σ := by
      intro v hv
      refine zp_fits82 v2 (zp_fits115 v2 (zp_fits137 v2 ?_))
      have f1 : ((List.range i).all (zp_bc E.1 k a b) && (if zp_ro E.1 k i = 3 then true else if zp_ro E.1 k i = 2 then !v else v)) = (List.range (i + 1)).all (zp_bc E.1 k a b) := by
        rw [zp_all_succ]
        congr 1
        unfold zp_bc
        by_cases e3 : zp_ro E.1 k i = 3
        · rw [if_pos e3, if_pos e3]
        · rw [if_neg e3, if_neg e3]
          by_cases e2 : zp_ro E.1 k i = 2
          · rw [if_pos e2] at hv; rw [if_pos e2, if_pos e2, hv]
          · rw [if_neg e2] at hv; rw [if_neg e2, if_neg e2, hv]
      have f2 : ((List.range i).any (fun i => decide (zp_ro E.1 k i ≠ 2) && a (zp_pt E.1 k i)) || (decide (zp_ro E.1 k i ≠ 2) && v)) = (List.range (i + 1)).any (fun i => decide (zp_ro E.1 k i ≠ 2) && a (zp_pt E.1 k i)) := by
        rw [zp_any_succ]
        congr 1
        by_cases e2 : zp_ro E.1 k i = 2
        · rw [decide_eq_false (fun z => z e2)]; rfl
        · rw [if_neg e2] at hv; rw [hv]
      have f3 : zp_cnt E.1 k a i + (if zp_ro E.1 k i = 3 ∧ v = true then 1 else 0) = zp_cnt E.1 k a (i + 1) := by
        show _ = zp_cnt E.1 k a i + (if zp_ro E.1 k i = 3 ∧ a (zp_pt E.1 k i) = true then 1 else 0)
        congr 1
        by_cases e3 : zp_ro E.1 k i = 3
        · rw [if_neg (by omega)] at hv; rw [hv]
        · rw [if_neg (fun z => e3 z.1), if_neg (fun z => e3 z.1)]
      rw [nI_1, f1, f2, f3]
      exact ih (zp_bi ((List.range (i + 1)).all (zp_bc E.1 k a b)), zp_bi ((List.range (i + 1)).any (fun i => decide (zp_ro E.1 k i ≠ 2) && a (zp_pt E.1 k i))), nI (zp_cnt E.1 k a (i + 1))) rfl
    by_cases e2 : zp_ro E.1 k i = 2
    · refine zp_t e2 ?_
      cases su
      · refine zp_nf rfl ⟨hinp, key _ ?_⟩
        rw [if_pos e2, a2]; rfl
      · refine zp_nt (by decide) ⟨hinp, key _ ?_⟩
        rw [if_pos e2, a2]; rfl
    · refine zp_f e2 ?_
      cases su
      · refine zp_nt (by decide) ⟨hinp, key _ ?_⟩
        rw [if_neg e2, a1]; rfl
      · refine zp_nf rfl ⟨hinp, key _ ?_⟩
        rw [if_neg e2, a1]; rfl
end FITSR
section MAYR
variable {σ : zv_St} {n o l : Nat} {E : zp_E}
theorem zp_mayAllR {Q : zv_St → Prop} (hS : zp_RS σ n E) (ho : o < 512) (hl : l < n) (q : ∀ σ', zp_ch [63, 64] σ σ' → (∀ p, p ≤ l → σ'.1 63 p = zp_bi (zp_may E o p) ∧ σ'.1 64 p = zp_bi (zp_sure E o p)) → Q σ') : B_X11_mayAll Q (nI o) (nI l) σ := by
  have hn := hS.1.1
  refine zp_for (L := fun u i σ' => L_X11_mayAll_2 Q u (nI o) (nI l) (nI i) σ') (l + 1) (fun i σ' => zp_ch [63, 64] σ σ' ∧ ∀ p, p < i → σ'.1 63 p = zp_bi (zp_may E o p) ∧ σ'.1 64 p = zp_bi (zp_sure E o p)) (fun u σ' h => zp_t (nI_lt (by omega) (by omega)) (q σ' h.1 (fun p hp => h.2 p (by omega)))) (fun u i σ' hi h ih => ?_) 0 σ ⟨zp_ch.rf, fun p hp => by omega⟩ (Nat.zero_le _)
  obtain ⟨g1, g2⟩ := h
  have hiN : i < n := by omega
  have hw := hS.1.2 i hiN
  have h7 := hw.1
  have h8 := hw.2.1
  have hin : vp_in (nI i) 80 := vp_in_nI (by omega) (by decide)
  have hRS : ∀ τ, zp_ch [63, 64] σ' τ → zp_RS τ n E := fun τ hτ => hS.ch (g1.tr hτ) (by decide) (congrFun ((g1.tr hτ) 45 (by decide)).1 2)
  have fin : ∀ τ, zp_ch [63, 64] σ' τ → (∀ j, j < i → τ.1 63 j = σ'.1 63 j ∧ τ.1 64 j = σ'.1 64 j) → τ.1 63 i = zp_bi (zp_may E o i) → τ.1 64 i = zp_bi (zp_sure E o i) → B_X11_mayAll_364 Q (L_X11_mayAll_2 Q u) (nI o) (nI l) (nI i) τ := by
    intro τ t1 t2 t3 t4
    unfold B_X11_mayAll_364
    rw [nI_1]
    refine ih τ ⟨g1.tr t1, fun p hp => ?_⟩
    by_cases e : p = i
    · subst e; exact ⟨t3, t4⟩
    · rw [(t2 p (by omega)).1, (t2 p (by omega)).2]; exact g2 p (by omega)
  obtain ⟨l0, l1, l2, l4, l5⟩ := (hRS σ' zp_ch.rf).2.1.2 i hiN
  have hK := (hRS σ' zp_ch.rf).2.2.2.2.1 i hiN
  have h116 : ∀ b, (zp_kd E.1 i ≤ 1 ∨ zp_kd E.1 i = 7 ∨ zp_kd E.1 i = 6 ∧ E.2.2.2 i ≠ none → b = zp_may E o i ∧ b = zp_sure E o i) → (zp_kd E.1 i = 3 → b = false) → B_X11_mayAll_116 Q (L_X11_mayAll_2 Q u) (nI o) (nI l) (nI i) (zp_bi b) σ' := by
    intro b hb hb3
    refine ⟨hin, ?_⟩
    rw [nI_clamp (by omega), zp_narb]
    rintro τ1 rfl
    refine ⟨hin, ?_⟩
    rintro τ2 rfl
    have c2 : zp_ch [63, 64] σ' (zv_wi (zv_wi σ' 63 i (zp_bi b)) 64 i (zp_bi b)) := (zp_ch.wi (by decide)).tr (zp_ch.wi (by decide))
    have d2 : ∀ j, j < i → (zv_wi (zv_wi σ' 63 i (zp_bi b)) 64 i (zp_bi b)).1 63 j = σ'.1 63 j ∧ (zv_wi (zv_wi σ' 63 i (zp_bi b)) 64 i (zp_bi b)).1 64 j = σ'.1 64 j := by
      intro j hj
      rw [zp_rn _ _ _ _ (by decide), zp_rj _ _ (by omega), zp_rj _ _ (by omega), zp_rn _ _ _ _ (by decide)]
      exact ⟨rfl, rfl⟩
    have f63 : (zv_wi (zv_wi σ' 63 i (zp_bi b)) 64 i (zp_bi b)).1 63 i = zp_bi b := by rw [zp_rn _ _ _ _ (by decide), zp_rs]
    have f64 : (zv_wi (zv_wi σ' 63 i (zp_bi b)) 64 i (zp_bi b)).1 64 i = zp_bi b := by rw [zp_rs]
    generalize zv_wi (zv_wi σ' 63 i (zp_bi b)) 64 i (zp_bi b) = τ at c2 d2 f63 f64 ⊢
    obtain ⟨l0, l1, l2, l4, l5⟩ := (hRS τ c2).2.1.2 i hiN
    have hK := (hRS τ c2).2.2.2.2.1 i hiN
    refine ⟨hin, ?_⟩
    rw [l0]
    by_cases e2 : zp_kd E.1 i = 2
    · refine zp_nf (by rw [e2]; rfl) ?_
      have hf8 := (hw.2.2.2.2.2.1 e2).1
      have hm2 := zp_ms2 hw e2 o
      have tb : ∀ p, p < i → τ.1 63 p = zp_bi (zp_may E o p) ∧ τ.1 64 p = zp_bi (zp_sure E o p) := fun p hp => by
        rw [(d2 p hp).1, (d2 p hp).2]; exact g2 p hp
      refine zp_fits (hRS τ c2) hiN hf8 tb false ⟨hin, ?_⟩
      rw [zp_narb]
      rintro τ3 rfl
      have c3 : zp_ch [63, 64] τ (zv_wi τ 63 i (zp_bi (zp_bs E.1 i (zp_may E o) (zp_sure E o)))) := zp_ch.wi (by decide)
      have tb3 : ∀ p, p < i → (zv_wi τ 63 i (zp_bi (zp_bs E.1 i (zp_may E o) (zp_sure E o)))).1 63 p = zp_bi (zp_may E o p) ∧ (zv_wi τ 63 i (zp_bi (zp_bs E.1 i (zp_may E o) (zp_sure E o)))).1 64 p = zp_bi (zp_sure E o p) := fun p hp => by
        rw [zp_rj _ _ (by omega), zp_rn _ _ _ _ (by decide)]; exact tb p hp
      refine zp_fits (hRS _ (c2.tr c3)) hiN hf8 tb3 true ⟨hin, ?_⟩
      rw [zp_narb]
      rintro τ4 rfl
      refine fin _ (c2.tr (c3.tr (zp_ch.wi (by decide)))) (fun j hj => ?_) ?_ ?_
      · rw [zp_rn _ _ _ _ (by decide), zp_rj _ _ (by omega), zp_rj _ _ (by omega), zp_rn _ _ _ _ (by decide)]
        exact d2 j hj
      · rw [zp_rn _ _ _ _ (by decide)]
        show (zv_wi τ 63 i _).1 63 i = _
        rw [zp_rs, hm2.1]
      · rw [zp_rs, hm2.2]; rfl
    · refine zp_nt (fun z => e2 (zp_ninj (by omega) (by decide) z)) ⟨hin, ?_⟩
      by_cases e3 : zp_kd E.1 i = 3
      · refine zp_nf (by rw [e3]; rfl) ?_
        rw [hb3 e3] at f63 f64
        have hm3 := zp_ms3 hw e3 o
        refine zp_for (L := fun v j τ' => L_X11_mayAll_182 Q (L_X11_mayAll_2 Q u) v (nI o) (nI l) (nI i) (nI j) τ') (zp_mn E.1 i) (fun j τ' => zp_ch [63, 64] σ' τ' ∧ (∀ p, p < i → τ'.1 63 p = σ'.1 63 p ∧ τ'.1 64 p = σ'.1 64 p) ∧ τ'.1 63 i = zp_bi ((List.range j).any (fun j => zp_may E o (zp_pt E.1 i j))) ∧ τ'.1 64 i = zp_bi ((List.range j).any (fun j => zp_sure E o (zp_pt E.1 i j)))) (fun v τ' h => ?_) (fun v j τ' hj h ih3 => ?_) 0 τ ⟨c2, d2, f63, f64⟩ (Nat.zero_le _)
        · obtain ⟨t1, t2, t3, t4⟩ := h
          refine ⟨hin, ?_⟩
          rw [nI_clamp (by omega), ((hRS τ' t1).2.1.2 i hiN).2.2.2.1]
          refine zp_t (nI_le (Nat.le_refl _) (by omega)) (fin τ' t1 t2 ?_ ?_)
          · rw [t3, hm3.1]
          · rw [t4, hm3.2]
        · obtain ⟨t1, t2, t3, t4⟩ := h
          obtain ⟨v1, v2⟩ := hw.2.2.1 j hj
          have k53 := (((hRS τ' t1).2.1.2 i hiN).2.2.2.2 j hj).2
          have hinp : vp_in (nI (zp_pt E.1 i j)) 80 := vp_in_nI (by omega) (by decide)
          refine ⟨hin, ?_⟩
          rw [nI_clamp (by omega), ((hRS τ' t1).2.1.2 i hiN).2.2.2.1]
          refine zp_f (nI_ge hj (by omega)) ⟨hin, ?_⟩
          have st2 : ∀ a, a = (List.range (j + 1)).any (fun j => zp_may E o (zp_pt E.1 i j)) → B_X11_mayAll_232 Q (L_X11_mayAll_2 Q u) (L_X11_mayAll_182 Q (L_X11_mayAll_2 Q u) v) (nI o) (nI l) (nI i) (nI j) (nI i) (zp_bi a) τ' := by
            intro a ha
            refine ⟨hin, ?_⟩
            rw [nI_clamp (by omega), zp_narb]
            rintro ρ rfl
            have c5 : zp_ch [63, 64] τ' (zv_wi τ' 63 i (zp_bi a)) := zp_ch.wi (by decide)
            have k53' := (((hRS _ (t1.tr c5)).2.1.2 i hiN).2.2.2.2 j hj).2
            have q64 : (zv_wi τ' 63 i (zp_bi a)).1 64 = τ'.1 64 := zv_wi_n _ _ _ (by decide)
            have st3 : ∀ b', b' = (List.range (j + 1)).any (fun j => zp_sure E o (zp_pt E.1 i j)) → B_X11_mayAll_272 Q (L_X11_mayAll_2 Q u) (L_X11_mayAll_182 Q (L_X11_mayAll_2 Q u) v) (nI o) (nI l) (nI i) (nI j) (nI i) (zp_bi b') (zv_wi τ' 63 i (zp_bi a)) := by
              intro b' hb'
              refine ⟨hin, ?_⟩
              rw [nI_clamp (by omega), zp_narb, nI_1]
              rintro ρ2 rfl
              refine ih3 _ ⟨t1.tr (c5.tr (zp_ch.wi (by decide))), fun p hp => ?_, ?_, ?_⟩
              · rw [zp_rn _ _ _ _ (by decide), zp_rj _ _ (by omega), zp_rj _ _ (by omega), zp_rn _ _ _ _ (by decide)]
                exact t2 p hp
              · rw [zp_rn _ _ _ _ (by decide), zp_rs, ha]
              · rw [zp_rs, hb']
            refine ⟨hin, ?_⟩
            rw [q64, t4, zp_nb0]
            rw [zp_any_succ] at st3
            cases hc : (List.range j).any (fun j => zp_sure E o (zp_pt E.1 i j))
            · rw [hc] at st3
              refine zp_nf rfl ?_
              rw [zp_8m, nI_add]
              refine ⟨vp_in_nI (by omega) (by decide), ?_⟩
              rw [nI_clamp (n := i * 8 + j) (by omega), k53']
              refine ⟨hinp, ?_⟩
              rw [nI_clamp (n := zp_pt E.1 i j) (by omega), (t2 _ v1).2, (g2 _ v1).2, zp_nb0]
              cases hd : zp_sure E o (zp_pt E.1 i j)
              · exact zp_t rfl (st3 false (by rw [hd]; rfl))
              · exact zp_f (by decide) (st3 true (by rw [hd]; rfl))
            · rw [hc] at st3
              exact zp_nt (by decide) (st3 true rfl)
          rw [t3, zp_nb0]
          rw [zp_any_succ] at st2
          cases hc : (List.range j).any (fun j => zp_may E o (zp_pt E.1 i j))
          · rw [hc] at st2
            refine zp_nf rfl ?_
            rw [zp_8m, nI_add]
            refine ⟨vp_in_nI (by omega) (by decide), ?_⟩
            rw [nI_clamp (n := i * 8 + j) (by omega), k53]
            refine ⟨hinp, ?_⟩
            rw [nI_clamp (n := zp_pt E.1 i j) (by omega), (t2 _ v1).1, (g2 _ v1).1, zp_nb0]
            cases hd : zp_may E o (zp_pt E.1 i j)
            · exact zp_t rfl (st2 false (by rw [hd]; rfl))
            · exact zp_f (by decide) (st2 true (by rw [hd]; rfl))
          · rw [hc] at st2
            exact zp_nt (by decide) (st2 true rfl)
      · refine zp_nt (fun z => e3 (zp_ninj (by omega) (by decide) z)) ⟨hin, ?_⟩
        rw [l4]
        by_cases e0 : zp_mn E.1 i = 0
        · have o1 : ¬ (zp_kd E.1 i = 4 ∨ zp_kd E.1 i = 5 ∨ zp_kd E.1 i = 6) := fun z => by have := (hw.one z).1; omega
          obtain ⟨b1, b2⟩ := hb (by omega)
          refine zp_t (by rw [e0]; decide) (fin τ c2 d2 ?_ ?_)
          · rw [f63, b1]
          · rw [f64, b2]
        · refine zp_f (nI_nle (by omega) (by omega)) ⟨hin, ?_⟩
          have ek : zp_kd E.1 i = 4 ∨ zp_kd E.1 i = 5 ∨ zp_kd E.1 i = 6 := by
            have z0 : zp_kd E.1 i ≠ 0 := fun z => by have := (hw.2.2.2.1 z).2.2; omega
            have z1 : zp_kd E.1 i ≠ 1 := fun z => by have := (hw.2.2.2.2.1 z).2.2; omega
            have z7 : zp_kd E.1 i ≠ 7 := fun z => by have := hw.2.2.2.2.2.2.2.2.2.2 z; omega
            omega
          obtain ⟨o1, o2, o3, o4⟩ := hw.one ek
          have hinf : vp_in (nI (zp_fs E.1 i)) 80 := vp_in_nI (by omega) (by decide)
          have h312 : (zp_kd E.1 i = 6 → E.2.2.2 i = none) → B_X11_mayAll_312 Q (L_X11_mayAll_2 Q u) (nI o) (nI l) (nI i) τ := by
            intro h6
            refine ⟨hin, ?_⟩
            rw [nI_clamp (n := i) (by omega), l1]
            refine ⟨hinf, hin, ?_⟩
            rw [nI_clamp (by omega), (d2 _ o4).1, (g2 _ o4).1, zp_narb]
            rintro τ3 rfl
            have c3 : zp_ch [63, 64] τ (zv_wi τ 63 i (zp_bi (zp_may E o (zp_fs E.1 i)))) := zp_ch.wi (by decide)
            obtain ⟨m0, m1, -⟩ := (hRS _ (c2.tr c3)).2.1.2 i hiN
            have hmay : zp_may E o i = zp_may E o (zp_fs E.1 i) := by
              rcases ek with e | e | e
              · exact (zp_ms4 hw e o).1
              · exact (zp_ms5 hw e o).1
              · exact (zp_ms6n hw e (h6 e) o).1
            have q64 : (zv_wi τ 63 i (zp_bi (zp_may E o (zp_fs E.1 i)))).1 64 = τ.1 64 := zv_wi_n _ _ _ (by decide)
            have st : ∀ b', b' = zp_sure E o i → B_X11_mayAll_363 Q (L_X11_mayAll_2 Q u) (nI o) (nI l) (nI i) (nI i) (zp_bi b') (zv_wi τ 63 i (zp_bi (zp_may E o (zp_fs E.1 i)))) := by
              intro b' hb'
              refine ⟨hin, ?_⟩
              rw [nI_clamp (by omega), zp_narb]
              rintro τ4 rfl
              refine fin _ (c2.tr (c3.tr (zp_ch.wi (by decide)))) (fun j hj => ?_) ?_ ?_
              · rw [zp_rn _ _ _ _ (by decide), zp_rj _ _ (by omega), zp_rj _ _ (by omega), zp_rn _ _ _ _ (by decide)]
                exact d2 j hj
              · rw [zp_rn _ _ _ _ (by decide), zp_rs, hmay]
              · rw [zp_rs, hb']
            refine ⟨hin, ?_⟩
            rw [m0, m1, q64]
            by_cases e5 : zp_kd E.1 i = 5
            · exact zp_t (by rw [e5]; rfl) (st false (zp_ms5 hw e5 o).2.symm)
            · have hsu : zp_sure E o i = zp_sure E o (zp_fs E.1 i) := by
                rcases ek with e | e | e
                · exact (zp_ms4 hw e o).2
                · exact absurd e e5
                · exact (zp_ms6n hw e (h6 e) o).2
              refine zp_f (fun z => e5 (zp_ninj (by omega) (by decide) z)) ⟨hin, hinf, ?_⟩
              rw [nI_clamp (by omega), (d2 _ o4).2, (g2 _ o4).2, zp_nb0]
              cases hd : zp_sure E o (zp_fs E.1 i)
              · exact zp_t rfl (st false (by rw [hsu, hd]))
              · exact zp_f (by decide) (st true (by rw [hsu, hd]))
          by_cases e6 : zp_kd E.1 i = 6
          · refine zp_nf (by rw [e6]; rfl) ⟨hin, ?_⟩
            cases hq : E.2.2.2 i with
            | none =>
              rw [hq] at hK
              exact zp_nf hK (h312 (fun _ => hq))
            | some p =>
              rw [hq] at hK
              obtain ⟨b1, b2⟩ := hb (Or.inr (Or.inr ⟨e6, by rw [hq]; exact fun z => by cases z⟩))
              refine zp_nt (fun z => zp_neg1 (o := p.1) (by have := hK.2.1; omega) (hK.1.symm.trans z)) (fin τ c2 d2 ?_ ?_)
              · rw [f63, b1]
              · rw [f64, b2]
          · exact zp_nt (fun z => e6 (zp_ninj (by omega) (by decide) z)) (h312 (fun z => absurd z e6))
  have h79 : ∀ b, (zp_kd E.1 i ≤ 1 ∨ zp_kd E.1 i = 7 → b = zp_may E o i ∧ b = zp_sure E o i) → (zp_kd E.1 i = 3 → b = false) → B_X11_mayAll_79 Q (L_X11_mayAll_2 Q u) (nI o) (nI l) (nI i) (zp_bi b) σ' := by
    intro b hb hb3
    refine ⟨hin, ?_⟩
    rw [nI_clamp (n := i) (by omega), l0]
    by_cases e6 : zp_kd E.1 i = 6
    · refine zp_nf (by rw [e6]; rfl) ⟨hin, ?_⟩
      cases hq : E.2.2.2 i with
      | none =>
        rw [hq] at hK
        exact zp_t hK (h116 b (fun z => hb (by rcases z with z | z | z; exact Or.inl z; exact Or.inr z; exact absurd hq z.2)) hb3)
      | some p =>
        rw [hq] at hK
        refine zp_f (fun z => zp_neg1 (o := p.1) (by have := hK.2.1; omega) (hK.1.symm.trans z)) ?_
        rw [zp_512m, nI_add]
        refine ⟨vp_in_nI (by omega) (by decide), ?_⟩
        rw [nI_clamp (by omega), hK.2.2 o ho]
        rintro v rfl
        have := zp_ms6s hw e6 hq o
        exact h116 (p.2 o) (fun _ => ⟨this.1.symm, this.2.symm⟩) (fun z => by omega)
    · exact zp_nt (fun z => e6 (zp_ninj (by omega) (by decide) z)) (h116 b (fun z => hb (by omega)) hb3)
  refine zp_f (nI_nlt (by omega) (by omega)) ⟨hin, ?_⟩
  rw [nI_clamp (n := i) (by omega), l0]
  by_cases e0 : zp_kd E.1 i = 0
  · have hf := (hw.2.2.2.1 e0).1
    refine zp_nf (by rw [e0]; rfl) ⟨hin, ?_⟩
    rw [l1, zp_512m, nI_add]
    refine ⟨vp_in_nI (by omega) (by decide), ?_⟩
    rw [nI_clamp (by omega), ((hRS σ' zp_ch.rf).2.2.1 _ hf).2 o ho]
    have hm := zp_ms0 hw e0 o
    cases hq : E.2.1 (zp_fs E.1 i) o with
    | none =>
      rw [hq] at hm
      exact zp_t rfl (h79 false (fun _ => ⟨hm.1.symm, hm.2.symm⟩) (fun _ => rfl))
    | some v =>
      rw [hq] at hm
      have := (hS.2.2.2.1 _ hf).2 o v hq
      exact zp_f (zp_neg1 (o := v) (by omega)) (h79 true (fun _ => ⟨hm.1.symm, hm.2.symm⟩) (fun z => by omega))
  · refine zp_nt (fun z => e0 (zp_ninj (by omega) (by decide) z)) ⟨hin, ?_⟩
    by_cases e1 : zp_kd E.1 i = 1
    · have hf := hw.2.2.2.2.1 e1
      have hm := zp_ms1 hw e1 o
      refine zp_nf (by rw [e1]; rfl) ⟨hin, hin, ?_⟩
      rw [l1, l2]
      by_cases c1 : o < zp_fs E.1 i
      · rw [decide_eq_false (by omega)] at hm
        exact zp_t (nI_lt c1 (by omega)) ⟨rfl, zp_t rfl (h79 false (fun _ => ⟨hm.1.symm, hm.2.symm⟩) (fun _ => rfl))⟩
      · refine zp_f (nI_nlt (by omega) (by omega)) ?_
        by_cases c2 : zp_sc E.1 i < o
        · rw [decide_eq_false (by omega)] at hm
          exact zp_t (nI_lt c2 (by omega)) ⟨rfl, zp_t rfl (h79 false (fun _ => ⟨hm.1.symm, hm.2.symm⟩) (fun _ => rfl))⟩
        · rw [decide_eq_true (by omega)] at hm
          exact zp_f (nI_nlt (by omega) (by omega)) ⟨rfl, zp_f (by decide) (h79 true (fun _ => ⟨hm.1.symm, hm.2.symm⟩) (fun z => by omega))⟩
    · refine zp_nt (fun z => e1 (zp_ninj (by omega) (by decide) z)) (h79 false (fun z => ?_) (fun _ => rfl))
      have := zp_ms7 hw (by omega) o
      exact ⟨this.1.symm, this.2.symm⟩
end MAYR
