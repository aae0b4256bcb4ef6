/-! The component's row. -/
theorem zp_g_map {l : zp_Row} {f : Nat × Nat → Nat × Nat} {i : Nat} (h : i < l.length) : zp_g (l.map f) i = f (zp_g l i) := by
  unfold zp_g
  rw [List.getD_eq_getElem?_getD, List.getD_eq_getElem?_getD, List.getElem?_map, List.getElem?_eq_getElem h]; rfl
theorem zp_cn_le {l : zp_Row} {r : Nat} : ∀ i, zp_cn l r i ≤ i := by
  intro i
  induction i with
  | zero => exact Nat.le_refl _
  | succ i ih =>
    show zp_cn l r i + _ ≤ _
    split <;> omega
/-- it stands among the first of a row -/
def zp_in (l : zp_Row) (e : Nat × Nat) : Bool := (List.range l.length).any (fun j => decide (zp_g l j = e))
theorem zp_in_iff {l : zp_Row} {e : Nat × Nat} : zp_in l e = true ↔ e ∈ l := by
  unfold zp_in
  rw [List.any_eq_true]
  constructor
  · rintro ⟨j, hj, h⟩
    rw [← of_decide_eq_true h]
    exact zp_g_mem (List.mem_range.mp hj)
  · intro h
    obtain ⟨j, hj, e1⟩ := zp_mem_g h
    exact ⟨j, List.mem_range.mpr hj, decide_eq_true e1⟩
theorem zp_gone_1 {l : zp_Row} {i : Nat} (hi : i < l.length) (h : (zp_g l i).1 = 1) : zp_gone l i = true ↔ (zp_in (zp_thin l i) (1, (zp_g l i).2) = true ∨ zp_in (zp_thin l i) (0, (zp_g l i).2) = true ∨ ∃ q, i < q ∧ q < l.length ∧ zp_g l q = (0, (zp_g l i).2)) := by
  have hm := (zp_thin_ok (l := l) i (by omega)).2
  rw [zp_in_iff, zp_in_iff, hm, hm]
  have h0 : ∀ q, (zp_g l q).1 = 0 → zp_gone l q = false := fun q z => by unfold zp_gone; rw [z]; rfl
  have hz : ∀ q, q < l.length → zp_g l q = (0, (zp_g l i).2) → ((∃ q, q < i ∧ zp_g l q = (0, (zp_g l i).2) ∧ zp_gone l q = false) ∨ ∃ q, i < q ∧ q < l.length ∧ zp_g l q = (0, (zp_g l i).2)) := by
    intro q hq e
    have : q ≠ i := fun z => by subst z; rw [e] at h; cases h
    by_cases c : q < i
    · exact Or.inl ⟨q, c, e, h0 q (by rw [e])⟩
    · exact Or.inr ⟨q, by omega, hq, e⟩
  have gex : ∀ j, (zp_g l j).1 = 1 → (zp_gone l j = true ↔ ∃ q, q < l.length ∧ (zp_g l q).2 = (zp_g l j).2 ∧ ((zp_g l q).1 = 0 ∨ ((zp_g l q).1 = 1 ∧ q < j))) := by
    intro j hj
    unfold zp_gone
    rw [hj]
    rw [Bool.or_eq_true, Bool.and_eq_true, List.any_eq_true]
    constructor
    · rintro (⟨-, q, hq, z⟩ | z)
      · rw [Bool.and_eq_true, Bool.or_eq_true, Bool.and_eq_true] at z
        refine ⟨q, List.mem_range.mp hq, of_decide_eq_true z.1, ?_⟩
        rcases z.2 with y | y
        · exact Or.inl (of_decide_eq_true y)
        · exact Or.inr ⟨of_decide_eq_true y.1, of_decide_eq_true y.2⟩
      · rw [Bool.and_eq_true] at z
        exact absurd (of_decide_eq_true z.1) (by decide)
    · rintro ⟨q, hq, z1, z2⟩
      left
      refine ⟨rfl, q, List.mem_range.mpr hq, ?_⟩
      rw [Bool.and_eq_true, Bool.or_eq_true, Bool.and_eq_true]
      refine ⟨decide_eq_true z1, ?_⟩
      rcases z2 with y | y
      · exact Or.inl (decide_eq_true y)
      · exact Or.inr ⟨decide_eq_true y.1, decide_eq_true y.2⟩
  have hs : ∀ q, q < i → (zp_g l q).1 = 1 → (zp_g l q).2 = (zp_g l i).2 → ((∃ q, q < i ∧ zp_g l q = (1, (zp_g l i).2) ∧ zp_gone l q = false) ∨ ∃ q, q < l.length ∧ zp_g l q = (0, (zp_g l i).2)) := by
    intro q
    induction q using Nat.strongRecOn with
    | ind q ih =>
      intro hq e1 e2
      cases c : zp_gone l q
      · exact Or.inl ⟨q, hq, Prod.ext e1 e2, c⟩
      · obtain ⟨q2, y1, y2, y3⟩ := (gex q e1).mp c
        rcases y3 with y3 | ⟨y3, y4⟩
        · exact Or.inr ⟨q2, y1, Prod.ext y3 (y2.trans e2)⟩
        · exact ih q2 y4 (by omega) y3 (y2.trans e2)
  rw [gex i h]
  constructor
  · rintro ⟨q, hq, e2, e3⟩
    rcases e3 with e3 | ⟨e3, e4⟩
    · rcases hz q hq (Prod.ext e3 e2) with y | y
      · exact Or.inr (Or.inl y)
      · exact Or.inr (Or.inr y)
    · rcases hs q e4 e3 e2 with y | ⟨q2, y1, y2⟩
      · exact Or.inl y
      · rcases hz q2 y1 y2 with y | y
        · exact Or.inr (Or.inl y)
        · exact Or.inr (Or.inr y)
  · rintro (⟨q, y1, y2, -⟩ | ⟨q, y1, y2, -⟩ | ⟨q, y1, y2, y3⟩)
    · exact ⟨q, by omega, by rw [y2], Or.inr ⟨by rw [y2], y1⟩⟩
    · exact ⟨q, by omega, by rw [y2], Or.inl (by rw [y2])⟩
    · exact ⟨q, y2, by rw [y3], Or.inl (by rw [y3])⟩
theorem zp_gone_2 {l : zp_Row} {i : Nat} (hi : i < l.length) (h : (zp_g l i).1 = 2) : zp_gone l i = true ↔ zp_in (zp_thin l i) (2, (zp_g l i).2) = true := by
  have hm := (zp_thin_ok (l := l) i (by omega)).2
  rw [zp_in_iff, hm]
  have gex : ∀ j, (zp_g l j).1 = 2 → (zp_gone l j = true ↔ ∃ q, q < l.length ∧ (zp_g l q).2 = (zp_g l j).2 ∧ (zp_g l q).1 = 2 ∧ q < j) := by
    intro j hj
    unfold zp_gone
    rw [hj]
    rw [Bool.or_eq_true, Bool.and_eq_true, Bool.and_eq_true, List.any_eq_true (l := List.range l.length) (p := fun q => decide ((zp_g l q).2 = (zp_g l j).2) && (decide ((zp_g l q).1 = 2) && decide (q < j)))]
    constructor
    · rintro (⟨z, -⟩ | ⟨-, q, hq, z⟩)
      · exact absurd (of_decide_eq_true z) (by decide)
      · rw [Bool.and_eq_true, Bool.and_eq_true] at z
        exact ⟨q, List.mem_range.mp hq, of_decide_eq_true z.1, of_decide_eq_true z.2.1, of_decide_eq_true z.2.2⟩
    · rintro ⟨q, hq, z1, z2, z3⟩
      right
      refine ⟨rfl, q, List.mem_range.mpr hq, ?_⟩
      rw [Bool.and_eq_true, Bool.and_eq_true]
      exact ⟨decide_eq_true z1, decide_eq_true z2, decide_eq_true z3⟩
  rw [gex i h]
  constructor
  · rintro ⟨q, hq, e2, e1, e3⟩
    have hs : ∀ q, q < i → (zp_g l q).1 = 2 → (zp_g l q).2 = (zp_g l i).2 → ∃ q, q < i ∧ zp_g l q = (2, (zp_g l i).2) ∧ zp_gone l q = false := by
      intro q
      induction q using Nat.strongRecOn with
      | ind q ih =>
        intro hq e1 e2
        cases c : zp_gone l q
        · exact ⟨q, hq, Prod.ext e1 e2, c⟩
        · obtain ⟨q2, y1, y2, y3, y4⟩ := (gex q e1).mp c
          exact ih q2 y4 (by omega) y3 (y2.trans e2)
    exact hs q e3 e1 e2
  · rintro ⟨q, y1, y2, -⟩
    exact ⟨q, by omega, by rw [y2], by rw [y2], y1⟩
section ROWC
variable {σ : zv_St} {l : zp_Row}
theorem zp_rowAdd {Q : zv_St → Prop} {r p : Nat} (hr : zp_rC σ l) (h8 : l.length < 8) (q : ∀ σ', zp_ch [42, 43, 44] σ σ' → zp_rC σ' (l ++ [(r, p)]) → Q σ') : B_X6_add Q (nI r) (nI p) σ := by
  obtain ⟨r0, r1, r2⟩ := hr
  unfold B_X6_add
  rw [r1]
  refine zp_f (nI_ge (b := 8) h8 (by decide)) ⟨vp_in_nI h8 (by decide), ?_⟩
  rw [nI_clamp (by omega)]
  rintro σ1 rfl
  rw [zp_rn _ _ _ _ (by decide), r1, nI_clamp (by omega)]
  refine ⟨vp_in_nI h8 (by decide), ?_⟩
  rintro σ2 rfl
  rw [zp_rn _ _ _ _ (by decide), zp_rn _ _ _ _ (by decide), r1, nI_1]
  rintro σ3 rfl
  refine q _ ((zp_ch.wi (by decide)).tr ((zp_ch.wi (by decide)).tr (zp_ch.wi (by decide)))) ⟨by rw [zp_len1]; omega, by rw [zp_rs, zp_len1], fun i hi => ?_⟩
  rw [zp_len1] at hi
  by_cases c : i = l.length
  · subst c
    rw [zp_g_e]
    refine ⟨?_, ?_⟩
    · rw [zp_rn _ _ _ _ (by decide), zp_rn _ _ _ _ (by decide), zp_rs]
    · rw [zp_rn _ _ _ _ (by decide), zp_rs]
  · rw [zp_g_l (by omega)]
    refine ⟨?_, ?_⟩
    · rw [zp_rn _ _ _ _ (by decide), zp_rn _ _ _ _ (by decide), zp_rj _ _ c]; exact (r2 i (by omega)).1
    · rw [zp_rn _ _ _ _ (by decide), zp_rj _ _ c, zp_rn _ _ _ _ (by decide)]; exact (r2 i (by omega)).2
theorem zp_rowCount {Q : Int32 → zv_St → Prop} {r : Nat} (hr : zp_rC σ l) (h3 : ∀ e ∈ l, e.1 ≤ 3) (hr3 : r ≤ 3) (q : Q (nI (zp_c l r)) σ) : B_X6_countOf Q (nI r) σ := by
  obtain ⟨r0, r1, r2⟩ := hr
  refine zp_for (α := Int32) (L := fun u i c => L_X6_countOf_4 Q u (nI r) c (nI i) σ) l.length (fun i c => c = nI (zp_cn l r i)) (fun u c h => ?_) (fun u i c hi h ih => ?_) 0 0 rfl (Nat.zero_le _)
  · subst h
    unfold L_X6_countOf_4
    rw [r1]
    exact zp_t (nI_le (Nat.le_refl _) (by omega)) q
  · subst h
    unfold L_X6_countOf_4 B_X6_countOf_25
    rw [r1]
    refine zp_f (nI_ge hi (by omega)) ⟨vp_in_nI (by omega) (by decide), ?_⟩
    rw [nI_clamp (by omega), (r2 i hi).1, nI_1, nI_1]
    have he := h3 _ (zp_g_mem hi)
    have hc : zp_cn l r (i + 1) = zp_cn l r i + (if (zp_g l i).1 = r then 1 else 0) := rfl
    by_cases c : (zp_g l i).1 = r
    · rw [if_pos c] at hc
      exact zp_nf (by rw [c]) (ih _ (by rw [hc]))
    · rw [if_neg c] at hc
      exact zp_nt (fun z => c (zp_ninj (by omega) (by omega) z)) (ih _ (by rw [hc]; rfl))
theorem zp_rowS2 {Q : zv_St → Prop} (hr : zp_rC σ l) (h3 : ∀ e ∈ l, e.1 ≤ 3) (q : ∀ σ', zp_ch [42, 43, 44] σ σ' → zp_rC σ' (l.map zp_s2) → Q σ') : B_X6_makeShouldsMusts Q σ := by
  obtain ⟨r0, r1, r2⟩ := hr
  refine zp_for (L := fun u i σ' => L_X6_makeShouldsMusts_2 Q u (nI i) σ') l.length (fun i σ' => zp_ch [43] σ σ' ∧ ∀ j, j < l.length → σ'.1 43 j = nI (if j < i then (zp_s2 (zp_g l j)).1 else (zp_g l j).1)) (fun u σ' h => ?_) (fun u i σ' hi h ih => ?_) 0 σ ⟨zp_ch.rf, fun j hj => by rw [if_neg (by omega)]; exact (r2 j hj).1⟩ (Nat.zero_le _)
  · unfold L_X6_makeShouldsMusts_2
    rw [(h.1 42 (by decide)).1, r1]
    refine zp_t (nI_le (Nat.le_refl _) (by omega)) (q σ' (h.1.mono (by decide)) ⟨by rw [List.length_map]; exact r0, by rw [(h.1 42 (by decide)).1, List.length_map]; exact r1, fun i hi => ?_⟩)
    rw [List.length_map] at hi
    rw [zp_g_map hi, h.2 i hi, if_pos hi, (h.1 44 (by decide)).1]
    exact ⟨rfl, (r2 i hi).2⟩
  · unfold L_X6_makeShouldsMusts_2 B_X6_makeShouldsMusts_27
    rw [(h.1 42 (by decide)).1, r1]
    refine zp_f (nI_ge hi (by omega)) ⟨vp_in_nI (by omega) (by decide), ?_⟩
    have h43 := h.2 i hi
    rw [if_neg (Nat.lt_irrefl _)] at h43
    rw [nI_clamp (by omega), h43, nI_1]
    have he := h3 _ (zp_g_mem hi)
    have hs : (zp_s2 (zp_g l i)).1 = if (zp_g l i).1 = 3 then 0 else (zp_g l i).1 := rfl
    by_cases c : (zp_g l i).1 = 3
    · rw [if_pos c] at hs
      refine zp_nf (by rw [c]; rfl) ⟨vp_in_nI (by omega) (by decide), ?_⟩
      rintro τ rfl
      refine ih _ ⟨h.1.tr (zp_ch.wi (by decide)), fun j hj => ?_⟩
      by_cases cj : j = i
      · subst cj; rw [zp_rs, if_pos (by omega), hs]; rfl
      · rw [zp_rj _ _ cj, h.2 j hj]
        by_cases c1 : j < i
        · rw [if_pos c1, if_pos (by omega)]
        · rw [if_neg c1, if_neg (by omega)]
    · rw [if_neg c] at hs
      refine zp_nt (fun z => c (zp_ninj (by omega) (by decide) z)) (ih σ' ⟨h.1, fun j hj => ?_⟩)
      rw [h.2 j hj]
      by_cases cj : j = i
      · subst cj; rw [if_neg (Nat.lt_irrefl _), if_pos (by omega), hs]
      · by_cases c1 : j < i
        · rw [if_pos c1, if_pos (by omega)]
        · rw [if_neg c1, if_neg (by omega)]
theorem zp_hasAhead {Q : Int32 → zv_St → Prop} {T : zp_Row} {r p : Nat} (h8 : T.length ≤ 8) (hc : ∀ i, i < T.length → σ.1 43 i = nI (zp_g T i).1 ∧ σ.1 44 i = nI (zp_g T i).2) (hT : ∀ e ∈ T, e.2 < 80 ∧ e.1 ≤ 3) (hp : p < 80) (hr : r ≤ 3) (q : Q (zp_bi (zp_in T (r, p))) σ) : B_X6_hasAhead Q (nI T.length) (nI r) (nI p) σ := by
  unfold zp_in at q
  refine zp_for (α := Unit) (L := fun u i _ => L_X6_hasAhead_3 Q u (nI T.length) (nI r) (nI p) (nI i) σ) T.length (fun i _ => (List.range i).any (fun j => decide (zp_g T j = (r, p))) = false) (fun u _ h => ?_) (fun u i _ hi h ih => ?_) 0 () rfl (Nat.zero_le _)
  · rw [h] at q
    exact zp_t (nI_le (Nat.le_refl _) (by omega)) q
  · refine zp_f (nI_ge hi (by omega)) ⟨vp_in_nI (by omega) (by decide), ?_⟩
    obtain ⟨b1, b2⟩ := hT _ (zp_g_mem hi)
    rw [nI_clamp (by omega), (hc i hi).1, (hc i hi).2]
    have go : ¬ zp_g T i = (r, p) → B_X6_hasAhead_33 Q (L_X6_hasAhead_3 Q u) (nI T.length) (nI r) (nI p) (nI i) σ := by
      intro z
      unfold B_X6_hasAhead_33
      rw [nI_1]
      refine ih () ?_
      rw [zp_any_succ, h, decide_eq_false z]; rfl
    by_cases c1 : (zp_g T i).1 = r
    · refine zp_nf (by rw [c1]) ⟨vp_in_nI (by omega) (by decide), ?_⟩
      by_cases c2 : (zp_g T i).2 = p
      · refine zp_nf (by rw [c2]) ?_
        rw [List.any_eq_true.mpr ⟨i, List.mem_range.mpr hi, decide_eq_true (Prod.ext c1 c2)⟩] at q
        exact q
      · exact zp_nt (fun z => c2 (zp_ninj (by omega) (by omega) z)) (go (fun z => c2 (by rw [z])))
    · exact zp_nt (fun z => c1 (zp_ninj (by omega) (by omega) z)) (go (fun z => c1 (by rw [z])))
theorem zp_hasBehind {Q : Int32 → zv_St → Prop} {i r p : Nat} (hi : i < l.length) (h8 : l.length ≤ 8) (h42 : σ.1 42 2 = nI l.length) (hc : ∀ j, i < j → j < l.length → σ.1 43 j = nI (zp_g l j).1 ∧ σ.1 44 j = nI (zp_g l j).2) (hT : ∀ e ∈ l, e.2 < 80 ∧ e.1 ≤ 3) (hp : p < 80) (hr : r ≤ 3) (qt : (∃ q, i < q ∧ q < l.length ∧ zp_g l q = (r, p)) → Q 1 σ) (qf : (¬ ∃ q, i < q ∧ q < l.length ∧ zp_g l q = (r, p)) → Q 0 σ) : B_X6_hasBehind Q (nI i) (nI r) (nI p) σ := by
  unfold B_X6_hasBehind
  rw [nI_1]
  refine zp_for (α := Unit) (L := fun u j _ => L_X6_hasBehind_5 Q u (nI r) (nI p) (nI j) σ) l.length (fun j _ => i < j ∧ ∀ q, i < q → q < j → ¬ zp_g l q = (r, p)) (fun u _ h => ?_) (fun u j _ hj h ih => ?_) (i + 1) () ⟨by omega, fun q h1 h2 => by omega⟩ (by omega)
  · unfold L_X6_hasBehind_5
    rw [h42]
    exact zp_t (nI_le (Nat.le_refl _) (by omega)) (qf (fun ⟨q, h1, h2, h3⟩ => h.2 q h1 h2 h3))
  · unfold L_X6_hasBehind_5
    rw [h42]
    refine zp_f (nI_ge hj (by omega)) ⟨vp_in_nI (by omega) (by decide), ?_⟩
    obtain ⟨b1, b2⟩ := hT _ (zp_g_mem hj)
    rw [nI_clamp (by omega), (hc j h.1 hj).1, (hc j h.1 hj).2]
    have go : ¬ zp_g l j = (r, p) → B_X6_hasBehind_38 Q (L_X6_hasBehind_5 Q u) (nI r) (nI p) (nI j) σ := by
      intro z
      unfold B_X6_hasBehind_38
      rw [nI_1]
      refine ih () ⟨by omega, fun q h1 h2 => ?_⟩
      by_cases c : q = j
      · subst c; exact z
      · exact h.2 q h1 (by omega)
    by_cases c1 : (zp_g l j).1 = r
    · refine zp_nf (by rw [c1]) ⟨vp_in_nI (by omega) (by decide), ?_⟩
      by_cases c2 : (zp_g l j).2 = p
      · exact zp_nf (by rw [c2]) (qt ⟨j, h.1, hj, Prod.ext c1 c2⟩)
      · exact zp_nt (fun z => c2 (zp_ninj (by omega) (by omega) z)) (go (fun z => c2 (by rw [z])))
    · exact zp_nt (fun z => c1 (zp_ninj (by omega) (by omega) z)) (go (fun z => c1 (by rw [z])))
theorem zp_contra {Q : Int32 → zv_St → Prop} (hr : zp_rC σ l) (hT : ∀ e ∈ l, e.2 < 80 ∧ e.1 ≤ 3) (q : Q (zp_bi (zp_bad l)) σ) : B_X6_contradictsItself Q σ := by
  obtain ⟨r0, r1, r2⟩ := hr
  unfold zp_bad at q
  refine zp_for (α := Unit) (L := fun u i _ => L_X6_contradictsItself_2 Q u (nI i) σ) l.length (fun i _ => (List.range i).any (fun i => decide ((zp_g l i).1 = 2) && (List.range l.length).any (fun q => decide ((zp_g l q).2 = (zp_g l i).2) && decide ((zp_g l q).1 < 2))) = false) (fun u _ h => ?_) (fun u i _ hi h ih => ?_) 0 () rfl (Nat.zero_le _)
  · unfold L_X6_contradictsItself_2
    rw [r1]
    rw [h] at q
    exact zp_t (nI_le (Nat.le_refl _) (by omega)) q
  · unfold L_X6_contradictsItself_2
    rw [r1]
    refine zp_f (nI_ge hi (by omega)) ⟨vp_in_nI (by omega) (by decide), ?_⟩
    obtain ⟨b1, b2⟩ := hT _ (zp_g_mem hi)
    rw [nI_clamp (by omega), (r2 i hi).1, (r2 i hi).2]
    have go : (decide ((zp_g l i).1 = 2) && (List.range l.length).any (fun q => decide ((zp_g l q).2 = (zp_g l i).2) && decide ((zp_g l q).1 < 2))) = false → B_X6_contradictsItself_58 Q (L_X6_contradictsItself_2 Q u) (nI i) σ := by
      intro z
      unfold B_X6_contradictsItself_58
      rw [nI_1]
      refine ih () ?_
      rw [zp_any_succ, h, z]; rfl
    have stop : (decide ((zp_g l i).1 = 2) && (List.range l.length).any (fun q => decide ((zp_g l q).2 = (zp_g l i).2) && decide ((zp_g l q).1 < 2))) = true → B_X6_contradictsItself_56 Q σ := by
      intro z
      rw [List.any_eq_true.mpr ⟨i, List.mem_range.mpr hi, z⟩] at q
      exact q
    by_cases c2 : (zp_g l i).1 = 2
    · rw [decide_eq_true c2, Bool.true_and] at go stop
      have any2 : (List.range l.length).any (fun q => decide ((zp_g l q).2 = (zp_g l i).2) && decide ((zp_g l q).1 < 2)) = (zp_in l (0, (zp_g l i).2) || zp_in l (1, (zp_g l i).2)) := by
        rw [Bool.eq_iff_iff, Bool.or_eq_true, zp_in_iff, zp_in_iff, List.any_eq_true]
        constructor
        · rintro ⟨j, hj, z⟩
          rw [Bool.and_eq_true] at z
          have z1 := of_decide_eq_true z.1
          have z2 := of_decide_eq_true z.2
          have hm := zp_g_mem (List.mem_range.mp hj)
          by_cases c : (zp_g l j).1 = 0
          · left; rw [← (Prod.ext c z1 : zp_g l j = (0, (zp_g l i).2))]; exact hm
          · right; rw [← (Prod.ext (by show (zp_g l j).1 = 1; omega) z1 : zp_g l j = (1, (zp_g l i).2))]; exact hm
        · rintro (z | z)
          · obtain ⟨j, hj, e⟩ := zp_mem_g z
            exact ⟨j, List.mem_range.mpr hj, by rw [e]; simp⟩
          · obtain ⟨j, hj, e⟩ := zp_mem_g z
            exact ⟨j, List.mem_range.mpr hj, by rw [e]; simp⟩
      rw [any2] at go stop
      refine zp_nf (by rw [c2]; rfl) ⟨vp_in_nI (by omega) (by decide), ?_⟩
      refine zp_hasAhead (T := l) (r := 0) r0 r2 hT b1 (by decide) ?_
      cases d0 : zp_in l (0, (zp_g l i).2)
      · rw [d0, Bool.false_or] at go stop
        refine zp_nf rfl ⟨vp_in_nI (by omega) (by decide), ?_⟩
        rw [r1, (r2 i hi).2]
        refine zp_hasAhead (T := l) (r := 1) r0 r2 hT b1 (by decide) ?_
        cases d1 : zp_in l (1, (zp_g l i).2)
        · exact zp_t rfl (go d1)
        · exact zp_f (by decide) (stop d1)
      · rw [d0] at stop
        exact zp_nt (by decide) (stop rfl)
    · rw [decide_eq_false c2] at go
      exact zp_nt (fun z => c2 (zp_ninj (by omega) (by decide) z)) (go rfl)
theorem zp_leave {Q : zv_St → Prop} (hr : zp_rC σ l) (hT : ∀ e ∈ l, e.2 < 80 ∧ e.1 ≤ 3) (q : ∀ σ', zp_ch [42, 43, 44] σ σ' → zp_rC σ' (zp_thin l l.length) → Q σ') : B_X6_leaveOutRepeats Q σ := by
  obtain ⟨r0, r1, r2⟩ := hr
  refine zp_for (L := fun u i (a : Int32 × zv_St) => L_X6_leaveOutRepeats_4 Q u a.1 (nI i) a.2) l.length (fun i a => a.1 = nI (zp_thin l i).length ∧ zp_ch [43, 44] σ a.2 ∧ (∀ j, j < (zp_thin l i).length → a.2.1 43 j = nI (zp_g (zp_thin l i) j).1 ∧ a.2.1 44 j = nI (zp_g (zp_thin l i) j).2) ∧ ∀ j, i ≤ j → j < l.length → a.2.1 43 j = nI (zp_g l j).1 ∧ a.2.1 44 j = nI (zp_g l j).2) ?_ ?_ 0 (0, σ) ⟨rfl, zp_ch.rf, fun j hj => absurd hj (Nat.not_lt_zero _), fun j _ hj => r2 j hj⟩ (Nat.zero_le _)
  · rintro u ⟨x, σ'⟩ ⟨g1, g2, g3, g4⟩
    simp only at g1 g2 g3 g4
    subst g1
    have hlen := (zp_thin_ok (l := l) _ (Nat.le_refl _)).1
    show L_X6_leaveOutRepeats_4 Q (u + 1) (nI (zp_thin l l.length).length) (nI l.length) σ'
    unfold L_X6_leaveOutRepeats_4
    rw [(g2 42 (by decide)).1, r1]
    refine zp_t (nI_le (Nat.le_refl _) (by omega)) ?_
    rintro τ rfl
    refine q _ ((g2.mono (by decide)).tr (zp_ch.wi (by decide))) ⟨by omega, zp_rs _ _ _ _, fun i hi => ?_⟩
    rw [zp_rn _ _ _ _ (by decide), zp_rn _ _ _ _ (by decide)]
    exact g3 i hi
  · rintro u i ⟨x, σ'⟩ hi ⟨g1, g2, g3, g4⟩ ih
    simp only at g1 g2 g3 g4
    subst g1
    obtain ⟨hlen, hmem⟩ := zp_thin_ok (l := l) i (by omega)
    have hTT : ∀ e ∈ zp_thin l i, e.2 < 80 ∧ e.1 ≤ 3 := fun e he => by
      obtain ⟨j, h1, h2, -⟩ := (hmem e).mp he
      rw [← h2]; exact hT _ (zp_g_mem (by omega))
    obtain ⟨b1, b2⟩ := hT _ (zp_g_mem hi)
    have hini : vp_in (nI i) 8 := vp_in_nI (by omega) (by decide)
    have ht : zp_thin l (i + 1) = if zp_gone l i = true then zp_thin l i else zp_thin l i ++ [zp_g l i] := rfl
    show L_X6_leaveOutRepeats_4 Q (u + 1) (nI (zp_thin l i).length) (nI i) σ'
    unfold L_X6_leaveOutRepeats_4 B_X6_leaveOutRepeats_48
    rw [(g2 42 (by decide)).1, r1, nI_1, nI_1]
    refine zp_f (nI_ge hi (by omega)) ⟨hini, ?_⟩
    have stay : zp_gone l i = true → L_X6_leaveOutRepeats_4 Q u (nI (zp_thin l i).length) (nI (i + 1)) σ' := by
      intro c
      rw [if_pos c] at ht
      refine ih (nI (zp_thin l i).length, σ') ⟨by rw [ht], g2, ?_, fun j h1 h2 => g4 j (by omega) h2⟩
      rw [ht]; exact g3
    have move : zp_gone l i = false → vp_in (nI i) 8 ∧ vp_in (nI (zp_thin l i).length) 8 ∧ ∀ σ_4 : zv_St, σ_4 = zv_wi σ' 43 (nI (zp_thin l i).length).toNatClampNeg (σ'.1 43 (nI i).toNatClampNeg) → vp_in (nI i) 8 ∧ vp_in (nI (zp_thin l i).length) 8 ∧ ∀ σ_5 : zv_St, σ_5 = zv_wi σ_4 44 (nI (zp_thin l i).length).toNatClampNeg (σ_4.1 44 (nI i).toNatClampNeg) → L_X6_leaveOutRepeats_4 Q u (nI ((zp_thin l i).length + 1)) (nI (i + 1)) σ_5 := by
      intro c
      rw [if_neg (by rw [c]; decide)] at ht
      have hin2 : vp_in (nI (zp_thin l i).length) 8 := vp_in_nI (by omega) (by decide)
      refine ⟨hini, hin2, ?_⟩
      rw [nI_clamp (n := (zp_thin l i).length) (by omega), nI_clamp (n := i) (by omega), (g4 i (Nat.le_refl _) hi).1]
      rintro τ1 rfl
      refine ⟨hini, hin2, ?_⟩
      rw [zp_rn _ _ _ _ (by decide), (g4 i (Nat.le_refl _) hi).2]
      rintro τ2 rfl
      refine ih (nI ((zp_thin l i).length + 1), _) ⟨by rw [ht, zp_len1], g2.tr ((zp_ch.wi (by decide)).tr (zp_ch.wi (by decide))), fun j hj => ?_, fun j h1 h2 => ?_⟩
      · rw [ht, zp_len1] at hj
        show (zv_wi (zv_wi σ' 43 _ _) 44 _ _).1 43 j = _ ∧ (zv_wi (zv_wi σ' 43 _ _) 44 _ _).1 44 j = _
        rw [ht, zp_rn _ _ _ _ (by decide)]
        by_cases cj : j = (zp_thin l i).length
        · subst cj
          rw [zp_rs, zp_rs, zp_g_e]
          exact ⟨rfl, rfl⟩
        · rw [zp_rj _ _ cj, zp_rj _ _ cj, zp_rn _ _ _ _ (by decide), zp_g_l (by omega)]
          exact g3 j (by omega)
      · show (zv_wi (zv_wi σ' 43 _ _) 44 _ _).1 43 j = _ ∧ (zv_wi (zv_wi σ' 43 _ _) 44 _ _).1 44 j = _
        rw [zp_rn _ _ _ _ (by decide), zp_rj _ _ (by omega), zp_rj _ _ (by omega), zp_rn _ _ _ _ (by decide)]
        exact g4 j (by omega) h2
    rw [nI_clamp (n := i) (by omega), (g4 i (Nat.le_refl _) hi).1, (g4 i (Nat.le_refl _) hi).2]
    rw [nI_clamp (n := i) (by omega)] at move
    rintro v rfl
    refine ⟨hini, ?_⟩
    by_cases c1 : (zp_g l i).1 = 1
    · have hg := zp_gone_1 hi c1
      refine zp_nf (by rw [c1]; rfl) ?_
      refine zp_hasAhead (r := 1) (by omega) g3 hTT b1 (by decide) ?_
      cases d1 : zp_in (zp_thin l i) (1, (zp_g l i).2)
      · refine zp_nf rfl (zp_hasAhead (r := 0) (by omega) g3 hTT b1 (by decide) ?_)
        cases d0 : zp_in (zp_thin l i) (0, (zp_g l i).2)
        · refine zp_nf rfl (zp_hasBehind (r := 0) hi r0 (by rw [(g2 42 (by decide)).1]; exact r1) (fun j h1 h2 => g4 j (by omega) h2) hT b1 (by decide) (fun z => ?_) (fun z => ?_))
          · refine zp_f (by decide) ⟨rfl, zp_nt (by decide) (stay (hg.mpr (Or.inr (Or.inr z))))⟩
          · refine zp_t rfl ⟨rfl, zp_nf rfl (move ?_)⟩
            cases y : zp_gone l i
            · rfl
            · rcases hg.mp y with y1 | y1 | y1
              · rw [d1] at y1; cases y1
              · rw [d0] at y1; cases y1
              · exact absurd y1 z
        · exact zp_nt (by decide) ⟨rfl, zp_nt (by decide) (stay (hg.mpr (Or.inr (Or.inl d0))))⟩
      · exact zp_nt (by decide) ⟨rfl, zp_nt (by decide) (stay (hg.mpr (Or.inl d1)))⟩
    · refine zp_nt (fun z => c1 (zp_ninj (by omega) (by decide) z)) ⟨hini, ?_⟩
      by_cases c2 : (zp_g l i).1 = 2
      · have hg := zp_gone_2 hi c2
        refine zp_nf (by rw [c2]; rfl) ?_
        refine zp_hasAhead (r := 2) (by omega) g3 hTT b1 (by decide) ?_
        cases d2 : zp_in (zp_thin l i) (2, (zp_g l i).2)
        · refine zp_t rfl ⟨rfl, zp_nf rfl (move ?_)⟩
          cases y : zp_gone l i
          · rfl
          · rw [hg.mp y] at d2; cases d2
        · exact zp_f (by decide) ⟨rfl, zp_nt (by decide) (stay (hg.mpr d2))⟩
      · refine zp_nt (fun z => c2 (zp_ninj (by omega) (by decide) z)) ⟨rfl, zp_nf rfl (move ?_)⟩
        unfold zp_gone
        rw [decide_eq_false c1, decide_eq_false c2]; rfl
end ROWC
