/-! The component's LOOK: a NODE is settled. -/
theorem zp_Dv_t {E : zp_E} {o : Nat} {D : Nat → Bool} {p : Nat} (h : D p = true) : zp_Dv E o D p = zp_V E o p := by
  unfold zp_Dv; rw [if_pos h]
theorem zp_fr_n {E : zp_E} {o k i : Nat} (h : ¬ (zp_ro E.1 k i = 1 ∨ zp_ro E.1 k i = 2)) : zp_fr E o k i = false := by
  unfold zp_fr; rw [decide_eq_false h]; rfl
theorem zp_min64 {x : Int64} (h : ¬ (-9223372036854775808 : Int64) < x) : x = -9223372036854775808 := by
  rw [Int64.lt_iff_toInt_lt] at h
  have h1 := Int64.le_toInt x
  have h2 : (-9223372036854775808 : Int64).toInt = -2 ^ 63 := by decide
  apply Int64.toInt_inj.mp
  omega
section FITSC
variable {σ : zv_St} {n o top k : Nat} {E : zp_E} {D : Nat → Bool}
theorem zp_somePart {Q : Int32 → zv_St → Prop} (hX : zp_CX σ n E o top) (hO : zp_OC σ E o D top) (hk : k ≤ top) (q : Q (zp_bi ((List.range (zp_mn E.1 k)).any (fun i => (zp_Dv E o D (zp_pt E.1 k i)).1))) σ) : B_X4_somePartMatches Q (nI k) σ := by
  have hn := hX.1.1.1
  have htop := hX.2.2
  obtain ⟨w0, w1, w2, -⟩ := hX.1.1.2 k (by omega)
  obtain ⟨-, -, -, l4, l5⟩ := hX.1.2.1.2 k (by omega)
  refine zp_for (α := Unit) (L := fun u i _ => L_X4_somePartMatches_2 Q u (nI k) (nI i) σ) (zp_mn E.1 k) (fun i _ => (List.range i).any (fun i => (zp_Dv E o D (zp_pt E.1 k i)).1) = false) (fun u _ h => ?_) (fun u i _ hi h ih => ?_) 0 () rfl (Nat.zero_le _)
  · unfold L_X4_somePartMatches_2
    refine zp_a_size (by omega) l4 ?_
    rw [h] at q
    exact zp_t (nI_le (Nat.le_refl _) (by omega)) q
  · obtain ⟨v1, v2⟩ := w2 i hi
    unfold L_X4_somePartMatches_2
    refine zp_a_size (by omega) l4 ?_
    refine zp_f (nI_ge hi (by omega)) ?_
    refine zp_a_partAt (by omega) (by omega) (l5 i hi).2 ⟨vp_in_nI (by omega) (by decide), ?_⟩
    rw [nI_clamp (by omega), (hO (zp_pt E.1 k i) (by omega)).2.1, nI_1]
    cases hD : (zp_Dv E o D (zp_pt E.1 k i)).1
    · refine zp_nt (by decide) (ih () ?_)
      rw [zp_any_succ, h, hD]; rfl
    · refine zp_nf rfl ?_
      rw [List.any_eq_true.mpr ⟨i, List.mem_range.mpr hi, hD⟩] at q
      exact q
theorem zp_fitsBool {Q : Int32 → zv_St → Prop} (hX : zp_CX σ n E o top) (hO : zp_OC σ E o D top) (hk : k ≤ top) (e : zp_kd E.1 k = 2) (q : Q (zp_bi ((List.range (zp_mn E.1 k)).all (zp_ok E o (zp_Dv E o D) k) && decide (zp_lst E.1 k ≤ zp_cnt E.1 k (fun p => (zp_Dv E o D p).1) (zp_mn E.1 k)))) σ) : B_X4_fitsBool Q (nI k) (nI o) σ := by
  have hn := hX.1.1.1
  have htop := hX.2.2
  obtain ⟨w0, w1, w2, -, -, w5, -⟩ := hX.1.1.2 k (by omega)
  obtain ⟨-, l1, -, l4, l5⟩ := hX.1.2.1.2 k (by omega)
  have hl8 := zp_lst_le (w5 e).1
  have hle : ∀ (a : Nat → Bool) i, zp_cnt E.1 k a i ≤ i := by
    intro a i
    induction i with
    | zero => exact Nat.le_refl _
    | succ i ih =>
      show zp_cnt E.1 k a i + _ ≤ _
      split <;> omega
  refine zp_for (α := Int32) (L := fun u i c => L_X4_fitsBool_5 Q u (nI k) (nI o) c (nI i) σ) (zp_mn E.1 k) (fun i c => c = nI (zp_cnt E.1 k (fun p => (zp_Dv E o D p).1) i) ∧ (List.range i).all (zp_ok E o (zp_Dv E o D) k) = true) (fun u c h => ?_) (fun u i c hi h ih => ?_) 0 0 ⟨rfl, rfl⟩ (Nat.zero_le _)
  · obtain ⟨rfl, h⟩ := h
    unfold L_X4_fitsBool_5
    refine zp_a_size (by omega) l4 ?_
    refine zp_t (nI_le (Nat.le_refl _) (by omega)) ?_
    refine zp_leastOf (by omega) w1 (w5 e).1 l1 l4 (fun i hi => ⟨(l5 i hi).1, (w2 i hi).2⟩) ?_
    rw [h, Bool.true_and] at q
    have hc := hle (fun p => (zp_Dv E o D p).1) (zp_mn E.1 k)
    by_cases c : zp_cnt E.1 k (fun p => (zp_Dv E o D p).1) (zp_mn E.1 k) < zp_lst E.1 k
    · rw [decide_eq_false (by omega)] at q
      exact zp_t (nI_lt c (by omega)) ⟨rfl, q⟩
    · rw [decide_eq_true (by omega)] at q
      exact zp_f (nI_nlt (by omega) (by omega)) ⟨rfl, q⟩
  · obtain ⟨rfl, h⟩ := h
    obtain ⟨v1, v2⟩ := w2 i hi
    unfold L_X4_fitsBool_5
    refine zp_a_size (by omega) l4 ?_
    refine zp_f (nI_ge hi (by omega)) ?_
    refine zp_a_roleAt (by omega) (by omega) (l5 i hi).1 ?_
    refine zp_a_partAt (by omega) (by omega) (l5 i hi).2 ?_
    refine zp_holds hX hO hk hi ?_
    have hcs : zp_cnt E.1 k (fun p => (zp_Dv E o D p).1) (i + 1) = zp_cnt E.1 k (fun p => (zp_Dv E o D p).1) i + (if zp_ro E.1 k i = 3 ∧ (zp_Dv E o D (zp_pt E.1 k i)).1 = true then 1 else 0) := rfl
    have hok : zp_ok E o (zp_Dv E o D) k i = (decide (zp_ro E.1 k i = 3) || (zp_hb E o (zp_Dv E o D) k i == decide (zp_ro E.1 k i < 2))) := rfl
    have hstop : zp_ok E o (zp_Dv E o D) k i = false → Q 0 σ := by
      intro z
      have : (List.range (zp_mn E.1 k)).all (zp_ok E o (zp_Dv E o D) k) = false := by
        cases c : (List.range (zp_mn E.1 k)).all (zp_ok E o (zp_Dv E o D) k)
        · rfl
        · have := List.all_eq_true.mp c i (List.mem_range.mpr hi)
          rw [z] at this; cases this
      rw [this] at q
      exact q
    have h67 : zp_ok E o (zp_Dv E o D) k i = true → B_X4_fitsBool_67 Q (L_X4_fitsBool_5 Q u) (nI k) (nI o) (nI (zp_cnt E.1 k (fun p => (zp_Dv E o D p).1) i)) (nI i) (nI (zp_ro E.1 k i)) (zp_bi (zp_hb E o (zp_Dv E o D) k i)) σ := by
      intro z
      have hall : (List.range (i + 1)).all (zp_ok E o (zp_Dv E o D) k) = true := by rw [zp_all_succ, h, z]; rfl
      unfold B_X4_fitsBool_67 B_X4_fitsBool_81
      rw [nI_1, nI_1]
      by_cases c3 : zp_ro E.1 k i = 3
      · refine zp_nf (by rw [c3]; rfl) ?_
        have hb : zp_hb E o (zp_Dv E o D) k i = (zp_Dv E o D (zp_pt E.1 k i)).1 := by
          unfold zp_hb
          rw [zp_fr_n (by omega), Bool.or_false]
        rw [hb]
        cases hc : (zp_Dv E o D (zp_pt E.1 k i)).1
        · rw [hc, if_neg (fun z => absurd z.2 (by decide))] at hcs
          exact zp_t rfl (ih _ ⟨by rw [hcs]; rfl, hall⟩)
        · rw [hc, if_pos ⟨c3, rfl⟩] at hcs
          exact zp_f (by decide) (ih _ ⟨by rw [hcs], hall⟩)
      · rw [if_neg (fun z => c3 z.1)] at hcs
        exact zp_nt (fun z => c3 (zp_ninj (by omega) (by decide) z)) (ih _ ⟨by rw [hcs]; rfl, hall⟩)
    by_cases c3 : zp_ro E.1 k i = 3
    · exact zp_t (by rw [c3]; rfl) (h67 (by rw [hok, decide_eq_true c3]; rfl))
    · rw [decide_eq_false c3, Bool.false_or] at hok
      refine zp_f (fun z => c3 (zp_ninj (by omega) (by decide) z)) (zp_a_needed v2 ?_)
      cases hh : zp_hb E o (zp_Dv E o D) k i <;> cases hc : decide (zp_ro E.1 k i < 2)
      · rw [hh, hc] at hok; rw [hh] at h67; exact zp_t rfl (h67 hok)
      · rw [hh, hc] at hok; exact zp_f (by decide) (hstop hok)
      · rw [hh, hc] at hok; exact zp_f (by decide) (hstop hok)
      · rw [hh, hc] at hok; rw [hh] at h67; exact zp_t rfl (h67 hok)
/-- a BOOL of which enough is known -/
theorem zp_boolV (hw : zp_wf1 E.1 k) (hm : zp_may E o k = true) (e : zp_kd E.1 k = 2) (hK : E.2.2.2 k = none) (hs : zp_set E o D k) : ((List.range (zp_mn E.1 k)).all (zp_ok E o (zp_Dv E o D) k) && decide (zp_lst E.1 k ≤ zp_cnt E.1 k (fun p => (zp_Dv E o D p).1) (zp_mn E.1 k))) = (zp_V E o k).1 := by
  rw [zp_V2 hw hm e]
  rcases (hs.2 hm hK).2 e with ⟨i, hi, hd, hok⟩ | hd
  · have f : ∀ t, zp_ok E o t k i = false → (List.range (zp_mn E.1 k)).all (zp_ok E o t k) = false := by
      intro t z
      cases c : (List.range (zp_mn E.1 k)).all (zp_ok E o t k)
      · rfl
      · have := List.all_eq_true.mp c i (List.mem_range.mpr hi)
        rw [z] at this; cases this
    rw [f _ hok, f _ (hd.ok.trans hok)]
    rfl
  · rw [zp_all_congr (f := zp_ok E o (zp_Dv E o D) k) (g := zp_ok E o (zp_V E o) k) (fun i hi => (hd i hi).ok)]
    have : ∀ m, m ≤ zp_mn E.1 k → zp_cnt E.1 k (fun p => (zp_Dv E o D p).1) m = zp_cnt E.1 k (fun p => (zp_V E o p).1) m := by
      intro m
      induction m with
      | zero => intro _; rfl
      | succ m ih =>
        intro hm
        show zp_cnt E.1 k _ m + _ = zp_cnt E.1 k _ m + _
        rw [ih (by omega)]
        by_cases c3 : zp_ro E.1 k m = 3
        · rcases hd m (by omega) with z | z
          · rw [zp_fr_n (by omega)] at z; cases z
          · show zp_cnt E.1 k _ m + (if zp_ro E.1 k m = 3 ∧ (zp_Dv E o D (zp_pt E.1 k m)).1 = true then 1 else 0) = _
            rw [zp_Dv_t z]
        · rw [if_neg (fun z => c3 z.1), if_neg (fun z => c3 z.1)]
    rw [this _ (Nat.le_refl _)]
theorem zp_fitsByParts {Q : Int32 → zv_St → Prop} (hX : zp_CX σ n E o top) (hO : zp_OC σ E o D top) (hk : k ≤ top) (hm : zp_may E o k = true) (hs : zp_set E o D k) (q : ∀ σ', zp_ch [9] σ σ' → (∀ j, σ'.1 9 j = σ.1 9 j + (if j = k ∧ zp_ask E o k = true then 1 else 0)) → Q (zp_bi (zp_V E o k).1) σ') : B_X4_fitsByParts Q (nI k) (nI o) σ := by
  have hn := hX.1.1.1
  have htop := hX.2.2
  have hw := hX.1.1.2 k (by omega)
  have h7 := hw.1
  obtain ⟨l0, l1, l2, l4, l5⟩ := hX.1.2.1.2 k (by omega)
  have hKW := hX.1.2.2.2.2.2 k (by omega)
  have hKC := hX.1.2.2.2.2.1.1 k (by omega)
  have q0 : zp_ask E o k = false → Q (zp_bi (zp_V E o k).1) σ := fun z => q σ zp_ch.rf (fun j => by rw [if_neg (fun y => by rw [z] at y; cases y.2), Int32.add_zero])
  have na : zp_kd E.1 k ≠ 5 → zp_ask E o k = false := fun z => by unfold zp_ask; rw [decide_eq_false z]; simp
  have kn : zp_kd E.1 k ≠ 6 → E.2.2.2 k = none := fun z => by
    cases c : E.2.2.2 k with
    | none => rfl
    | some p => exact absurd (hKW (by rw [c]; exact fun y => by cases y)) z
  have some1 : zp_kd E.1 k = 4 ∨ zp_kd E.1 k = 5 ∨ zp_kd E.1 k = 6 → E.2.2.2 k = none → (List.range (zp_mn E.1 k)).any (fun i => (zp_Dv E o D (zp_pt E.1 k i)).1) = (zp_V E o (zp_fs E.1 k)).1 := by
    intro e hK
    obtain ⟨o1, o2, -, -⟩ := hw.one e
    have hd := (hs.2 hm hK).1 (by omega) 0 (by omega)
    rw [o1, zp_any_succ, zp_Dv_t hd, o2]; rfl
  refine zp_a_kind (by omega) l0 ?_
  refine ⟨fun z => ?_, fun z => ?_, fun z => ?_, fun z => ?_, fun z => ?_, fun z => ?_⟩
  · have e : zp_kd E.1 k = 2 := zp_ninj (by omega) (by decide) z
    refine zp_fitsBool hX hO hk e ?_
    rw [zp_boolV hw hm e (kn (by omega)) hs]
    exact ⟨zp_bin _, q0 (na (by omega))⟩
  · have e : zp_kd E.1 k = 3 := zp_ninj (by omega) (by decide) z
    refine zp_somePart hX hO hk ⟨zp_bin _, ?_⟩
    have hd := (hs.2 hm (kn (by omega))).1 (by omega)
    have hb : ∀ m, m ≤ zp_mn E.1 k → (List.range m).any (fun i => (zp_Dv E o D (zp_pt E.1 k i)).1) = (zp_bmx E (zp_V E o) k m).isSome := by
      intro m
      induction m with
      | zero => intro _; rfl
      | succ m ih =>
        intro hm
        rw [zp_any_succ, ih (by omega), zp_Dv_t (hd m (by omega))]
        show _ = (if (zp_V E o (zp_pt E.1 k m)).1 = true then (match zp_bmx E (zp_V E o) k m with | none => some (zp_V E o (zp_pt E.1 k m)).2 | some q => some (if q < (zp_V E o (zp_pt E.1 k m)).2 then (zp_V E o (zp_pt E.1 k m)).2 else q)) else zp_bmx E (zp_V E o) k m).isSome
        cases (zp_V E o (zp_pt E.1 k m)).1
        · rw [if_neg (by decide), Bool.or_false]
        · rw [if_pos rfl, Bool.or_true]
          cases zp_bmx E (zp_V E o) k m <;> rfl
    rw [hb _ (Nat.le_refl _)]
    have := q0 (na (by omega))
    rw [zp_V3 hw hm e] at this
    exact this
  · have e : zp_kd E.1 k = 4 := zp_ninj (by omega) (by decide) z
    refine zp_somePart hX hO hk ⟨zp_bin _, ?_⟩
    rw [some1 (by omega) (kn (by omega))]
    have := q0 (na (by omega))
    rw [zp_V4 hw hm e] at this
    exact this
  · have e : zp_kd E.1 k = 5 := zp_ninj (by omega) (by decide) z
    have w5 := hw.2.2.2.2.2.2.2.2.1 e
    refine zp_somePart hX hO hk ?_
    rw [some1 (by omega) (kn (by omega))]
    have hask : zp_ask E o k = (zp_V E o (zp_fs E.1 k)).1 := by unfold zp_ask; rw [hm, decide_eq_true e]; rfl
    have hV := zp_V5 hw hm e
    cases hp : (zp_V E o (zp_fs E.1 k)).1
    · rw [hp] at hask hV
      have := q0 hask
      rw [hV] at this
      exact zp_t rfl ⟨rfl, this⟩
    · rw [hp] at hask hV
      refine zp_f (by decide) ⟨vp_in_nI (by omega) (by decide), vp_in_nI (by omega) (by decide), ?_⟩
      rw [nI_clamp (by omega)]
      rintro σ1 rfl
      have c1 : zp_ch [9] σ (zv_wi σ 9 k (σ.1 9 k + 1)) := zp_ch.wi (by decide)
      have q1 := q (zv_wi σ 9 k (σ.1 9 k + 1)) c1 (fun j => by
        by_cases c : j = k
        · subst c; rw [zp_rs, if_pos ⟨rfl, hask⟩]
        · rw [zp_rj _ _ c, if_neg (fun y => c y.1), Int32.add_zero])
      generalize zv_wi σ 9 k (σ.1 9 k + 1) = σ1 at c1 q1 ⊢
      refine zp_a_second (by omega) ((congrFun (c1 8 (by decide)).1 k).trans l2) ?_
      have em := zp_modulus w5.1
      have hmod : nI (zp_sc E.1 k / 1000 % 1000) = (nI (zp_sc E.1 k) / 1000) - (nI (zp_sc E.1 k) / 1000) / 1000 * 1000 := em.symm
      unfold B_X10_modulusOf
      have hpos : ¬ ((nI (zp_sc E.1 k) / 1000) - (nI (zp_sc E.1 k) / 1000) / 1000 * 1000) ≤ 0 := by
        rw [em]; exact nI_nle w5.2.1 (by omega)
      have hne : ¬ ((nI (zp_sc E.1 k) / 1000) - (nI (zp_sc E.1 k) / 1000) / 1000 * 1000) = 0 := by
        rw [em]; exact nI_ne0 w5.2.1 (by omega)
      refine zp_f hpos ⟨hne, ?_⟩
      rw [hV, Bool.true_and] at q1
      unfold zp_pass at q1
      refine zp_by (fun c => ?_) (fun c => ?_)
      · rw [decide_eq_false (fun y => y c)] at q1
        exact ⟨rfl, zp_t rfl ⟨rfl, q1⟩⟩
      · rw [decide_eq_true c] at q1
        exact ⟨rfl, zp_f (by decide) ⟨rfl, q1⟩⟩
  · have e : zp_kd E.1 k = 6 := zp_ninj (by omega) (by decide) z
    have hq := q0 (na (by omega))
    cases hc : E.2.2.2 k with
    | some p =>
      rw [hc] at hKC
      rw [zp_V6s hw hm e (by rw [hc]; exact fun y => by cases y)] at hq
      exact zp_a_isThere (b := true) (by omega) hKC.1 (zp_nt (by decide) ⟨rfl, hq⟩)
    | none =>
      rw [hc] at hKC
      rw [zp_V6n hw hm e hc] at hq
      refine zp_a_isThere (b := false) (by omega) hKC (zp_nf rfl ?_)
      refine zp_somePart hX hO hk ?_
      rw [some1 (by omega) hc]
      cases hp : (zp_V E o (zp_fs E.1 k)).1
      · rw [hp] at hq; exact zp_t rfl ⟨rfl, hq⟩
      · rw [hp] at hq; exact zp_f (by decide) ⟨rfl, hq⟩
  · rw [nI_toInt (by omega)] at z
    have hq := q0 (na (by omega))
    have e : zp_kd E.1 k = 0 ∨ zp_kd E.1 k = 1 := by
      have : zp_kd E.1 k ≠ 7 := fun y => by
        have := (zp_ms7 hw y o).1
        rw [hm] at this; cases this
      omega
    rcases e with e | e
    · rw [zp_V0 hw hm e] at hq; exact hq
    · rw [zp_V1 hw hm e] at hq; exact hq
end FITSC
