/-! The component's LOOK: the SCORE of a NODE. -/
section SCOREC
variable {σ : zv_St} {Q : Int64 → zv_St → Prop} {n o top k : Nat} {E : zp_E} {D : Nat → Bool}
theorem zp_scoreOfBool (hX : zp_CX σ n E o top) (hO : zp_OC σ E o D top) (hk : k ≤ top) (q : Q (zp_ssum E (zp_Dv E o D) k (zp_mn E.1 k)) σ) : B_X4_scoreOfBool Q (nI k) σ := by
  have hn := hX.1.1.1
  have htop := hX.2.2
  obtain ⟨w0, w1, w2, -⟩ := hX.1.1.2 k (by omega)
  obtain ⟨-, -, -, l4, l5⟩ := hX.1.2.1.2 k (by omega)
  refine zp_for (α := Int64) (L := fun u i s => L_X4_scoreOfBool_5 Q u (nI k) s (nI i) σ) (zp_mn E.1 k) (fun i s => s = zp_ssum E (zp_Dv E o D) k i) (fun u s h => ?_) (fun u i s hi h ih => ?_) 0 0 rfl (Nat.zero_le _)
  · subst h
    unfold L_X4_scoreOfBool_5
    refine zp_a_size (by omega) l4 ?_
    exact zp_t (nI_le (Nat.le_refl _) (by omega)) q
  · subst h
    obtain ⟨v1, v2⟩ := w2 i hi
    obtain ⟨o1, o2, o3⟩ := hO (zp_pt E.1 k i) (by omega)
    have hs : zp_ssum E (zp_Dv E o D) k (i + 1) = zp_ssum E (zp_Dv E o D) k i + (if (zp_ro E.1 k i = 0 ∨ zp_ro E.1 k i = 3) ∧ (zp_Dv E o D (zp_pt E.1 k i)).1 = true then (zp_Dv E o D (zp_pt E.1 k i)).2 else 0) := rfl
    unfold L_X4_scoreOfBool_5
    refine zp_a_size (by omega) l4 ?_
    refine zp_f (nI_ge hi (by omega)) ?_
    refine zp_a_roleAt (by omega) (by omega) (l5 i hi).1 ?_
    refine zp_a_partAt (by omega) (by omega) (l5 i hi).2 ?_
    have h53 : zp_ro E.1 k i = 0 ∨ zp_ro E.1 k i = 3 → B_X4_scoreOfBool_53 Q (L_X4_scoreOfBool_5 Q u) (nI k) (zp_ssum E (zp_Dv E o D) k i) (nI i) (nI (zp_pt E.1 k i)) σ := by
      intro hr
      refine ⟨vp_in_nI (by omega) (by decide), ?_⟩
      unfold B_X4_scoreOfBool_74
      rw [nI_clamp (by omega), o2, nI_1]
      cases hc : (zp_Dv E o D (zp_pt E.1 k i)).1
      · rw [hc, if_neg (fun z => absurd z.2 (by decide)), Int64.add_zero] at hs
        exact zp_nt (by decide) (ih _ hs.symm)
      · rw [hc, if_pos ⟨hr, rfl⟩] at hs
        refine zp_nf rfl ⟨vp_in_nI (by omega) (by decide), ?_⟩
        rw [o3 hc]
        rintro v rfl
        exact ih _ hs.symm
    by_cases c0 : zp_ro E.1 k i = 0
    · exact zp_t (by rw [c0]; rfl) (h53 (Or.inl c0))
    · refine zp_f (fun z => c0 (zp_ninj (by omega) (by decide) z)) ?_
      by_cases c3 : zp_ro E.1 k i = 3
      · exact zp_nf (by rw [c3]; rfl) (h53 (Or.inr c3))
      · rw [if_neg (fun z => by omega), Int64.add_zero] at hs
        refine zp_nt (fun z => c3 (zp_ninj (by omega) (by decide) z)) ?_
        unfold B_X4_scoreOfBool_74
        rw [nI_1]
        exact ih _ hs.symm
theorem zp_scoreOfBest (hX : zp_CX σ n E o top) (hO : zp_OC σ E o D top) (hk : k ≤ top) (q : Q (zp_best ((zp_bmx E (zp_Dv E o D) k (zp_mn E.1 k)).getD 0) (zp_bsum E (zp_Dv E o D) k (zp_mn E.1 k)) (zp_fs E.1 k)) σ) : B_X4_scoreOfBest Q (nI k) σ := by
  have hn := hX.1.1.1
  have htop := hX.2.2
  obtain ⟨w0, w1, w2, -⟩ := hX.1.1.2 k (by omega)
  obtain ⟨-, l1, -, l4, l5⟩ := hX.1.2.1.2 k (by omega)
  refine zp_for (α := Int64 × Int64 × Int32) (L := fun u i s => L_X4_scoreOfBest_11 Q u (nI k) s.1 s.2.1 s.2.2 (nI i) σ) (zp_mn E.1 k) (fun i s => s = (zp_bsum E (zp_Dv E o D) k i, (zp_bmx E (zp_Dv E o D) k i).getD 0, zp_bi (zp_bmx E (zp_Dv E o D) k i).isSome)) (fun u s h => ?_) (fun u i s hi h ih => ?_) 0 (0, 0, 0) rfl (Nat.zero_le _)
  · subst h
    unfold L_X4_scoreOfBest_11
    refine zp_a_size (by omega) l4 ?_
    refine zp_t (nI_le (Nat.le_refl _) (by omega)) ?_
    exact zp_a_first (by omega) l1 q
  · subst h
    obtain ⟨v1, v2⟩ := w2 i hi
    obtain ⟨o1, o2, o3⟩ := hO (zp_pt E.1 k i) (by omega)
    have hs : zp_bsum E (zp_Dv E o D) k (i + 1) = (if (zp_Dv E o D (zp_pt E.1 k i)).1 = true then zp_bsum E (zp_Dv E o D) k i + (zp_Dv E o D (zp_pt E.1 k i)).2 else zp_bsum E (zp_Dv E o D) k i) := rfl
    have hx : zp_bmx E (zp_Dv E o D) k (i + 1) = (if (zp_Dv E o D (zp_pt E.1 k i)).1 = true then (match zp_bmx E (zp_Dv E o D) k i with | none => some (zp_Dv E o D (zp_pt E.1 k i)).2 | some q => some (if q < (zp_Dv E o D (zp_pt E.1 k i)).2 then (zp_Dv E o D (zp_pt E.1 k i)).2 else q)) else zp_bmx E (zp_Dv E o D) k i) := rfl
    have hinp : vp_in (nI (zp_pt E.1 k i)) 80 := vp_in_nI (by omega) (by decide)
    unfold L_X4_scoreOfBest_11
    refine zp_a_size (by omega) l4 ?_
    refine zp_f (nI_ge hi (by omega)) ?_
    refine zp_a_partAt (by omega) (by omega) (l5 i hi).2 ⟨hinp, ?_⟩
    unfold B_X4_scoreOfBest_84 B_X4_scoreOfBest_89
    rw [nI_clamp (by omega), o2, nI_1]
    cases hc : (zp_Dv E o D (zp_pt E.1 k i)).1
    · rw [hc, if_neg (by decide)] at hs hx
      exact zp_nt (by decide) (ih (_, _, _) (by rw [hs, hx]))
    · rw [hc, if_pos rfl] at hs hx
      refine zp_nf rfl ⟨hinp, ?_⟩
      rw [o3 hc]
      rintro v rfl
      cases hb : zp_bmx E (zp_Dv E o D) k i with
      | none =>
        rw [hb] at hx
        have hx : zp_bmx E (zp_Dv E o D) k (i + 1) = some (zp_Dv E o D (zp_pt E.1 k i)).2 := hx
        exact zp_t rfl ⟨hinp, ih (_, _, _) (by rw [hs, hx]; rfl)⟩
      | some m =>
        rw [hb] at hx
        have hx : zp_bmx E (zp_Dv E o D) k (i + 1) = some (if m < (zp_Dv E o D (zp_pt E.1 k i)).2 then (zp_Dv E o D (zp_pt E.1 k i)).2 else m) := hx
        refine zp_f (show ¬ zp_bi true = 0 by decide) ⟨hinp, ?_⟩
        show (_ → _) ∧ (¬ _ → _)
        rw [lg_cmp_lt]
        refine zp_by (fun c => ih (_, _, _) ?_) (fun c => ih (_, _, _) ?_)
        · have c : m < (zp_Dv E o D (zp_pt E.1 k i)).2 := c
          rw [hs, hx, if_pos c]; rfl
        · have c : ¬ m < (zp_Dv E o D (zp_pt E.1 k i)).2 := c
          rw [hs, hx, if_neg c]
theorem zp_scoreByParts (hX : zp_CX σ n E o top) (hO : zp_OC σ E o D top) (hk : k ≤ top) (hm : zp_may E o k = true) (hs : zp_set E o D k) (hV : (zp_V E o k).1 = true) (q : Q (zp_V E o k).2 σ) : B_X4_scoreByParts Q (nI k) (nI o) σ := by
  have hn := hX.1.1.1
  have htop := hX.2.2
  have hw := hX.1.1.2 k (by omega)
  have h7 := hw.1
  obtain ⟨l0, l1, l2, l4, l5⟩ := hX.1.2.1.2 k (by omega)
  have hKW := hX.1.2.2.2.2.2 k (by omega)
  have kn : zp_kd E.1 k ≠ 6 → E.2.2.2 k = none := fun z => by
    cases c : E.2.2.2 k with
    | none => rfl
    | some p => exact absurd (hKW (by rw [c]; exact fun y => by cases y)) z
  refine zp_a_kind (by omega) l0 ?_
  refine ⟨fun z => ?_, fun z => ?_, fun z => ?_, fun z => ?_, fun z => ?_, fun z => ?_, fun z => ?_⟩
  · have e : zp_kd E.1 k = 0 := zp_ninj (by omega) (by decide) z
    have hf := (hw.2.2.2.1 e).1
    rw [zp_V0 hw hm e] at q
    refine zp_a_first (by omega) l1 ?_
    refine zp_placeOf hX.1.2.2.2.1 hX.1.2.2.1 hf (by omega) (fun i v hi b1 b2 b3 => ?_) (fun b1 _ => ?_)
    · have := (hX.1.2.2.2.1 _ hf).1
      refine zp_nt (zp_neg1 (by omega)) ⟨vp_in_nI (by omega) (by decide), ?_⟩
      rw [nI_clamp (by omega), b2]
      rw [b3] at q
      exact q
    · have := (zp_ms0 hw e o).1
      rw [b1, hm] at this
      cases this
  · have e : zp_kd E.1 k = 1 := zp_ninj (by omega) (by decide) z
    rw [zp_V1 hw hm e] at q
    exact q
  · have e : zp_kd E.1 k = 2 := zp_ninj (by omega) (by decide) z
    refine zp_scoreOfBool hX hO hk ?_
    rw [zp_V2 hw hm e] at q hV
    have hall := (Bool.and_eq_true _ _ ▸ hV).1
    have hd : ∀ i, i < zp_mn E.1 k → zp_dn E o D k i := by
      rcases (hs.2 hm (kn (by omega))).2 e with ⟨i, hi, hd, hok⟩ | hd
      · have := List.all_eq_true.mp hall i (List.mem_range.mpr hi)
        rw [hok] at this; cases this
      · exact hd
    have : ∀ m, m ≤ zp_mn E.1 k → zp_ssum E (zp_Dv E o D) k m = zp_ssum E (zp_V E o) k m := by
      intro m
      induction m with
      | zero => intro _; rfl
      | succ m ih =>
        intro hm
        show zp_ssum E (zp_Dv E o D) k m + (if (zp_ro E.1 k m = 0 ∨ zp_ro E.1 k m = 3) ∧ (zp_Dv E o D (zp_pt E.1 k m)).1 = true then (zp_Dv E o D (zp_pt E.1 k m)).2 else 0) = zp_ssum E (zp_V E o) k m + _
        rw [ih (by omega)]
        by_cases c : zp_ro E.1 k m = 0 ∨ zp_ro E.1 k m = 3
        · rcases hd m (by omega) with z | z
          · rw [zp_fr_n (by omega)] at z; cases z
          · rw [zp_Dv_t z]
        · rw [if_neg (fun z => c z.1), if_neg (fun z => c z.1)]
    rw [this _ (Nat.le_refl _)]
    exact q
  · have e : zp_kd E.1 k = 3 := zp_ninj (by omega) (by decide) z
    refine zp_scoreOfBest hX hO hk ?_
    rw [zp_V3 hw hm e] at q hV
    have hd := (hs.2 hm (kn (by omega))).1 (by omega)
    have ht : ∀ i, i < zp_mn E.1 k → zp_Dv E o D (zp_pt E.1 k i) = zp_V E o (zp_pt E.1 k i) := fun i hi => zp_Dv_t (hd i hi)
    rw [zp_bmx_t ht _ (Nat.le_refl _), zp_bsum_t ht _ (Nat.le_refl _)]
    cases hb : zp_bmx E (zp_V E o) k (zp_mn E.1 k) with
    | none => rw [hb] at hV; cases hV
    | some m => rw [hb] at q; exact q
  · have e : zp_kd E.1 k = 4 := zp_ninj (by omega) (by decide) z
    rw [zp_V4 hw hm e] at q
    exact zp_a_second (by omega) l2 q
  · have e : zp_kd E.1 k = 5 := zp_ninj (by omega) (by decide) z
    obtain ⟨o1, o2, -, o4⟩ := hw.one (by omega)
    rw [zp_V5 hw hm e] at q hV
    have hp := (Bool.and_eq_true _ _ ▸ hV).1
    have hd := (hs.2 hm (kn (by omega))).1 (by omega) 0 (by omega)
    rw [o2] at hd
    refine zp_a_partAt (i := 0) (by omega) (by decide) (l5 0 (by omega)).2 ⟨vp_in_nI (by omega) (by decide), ?_⟩
    rw [nI_clamp (by omega), o2]
    have := (hO (zp_fs E.1 k) (by omega)).2.2
    rw [zp_Dv_t hd] at this
    rw [this hp]
    exact q
  · rw [nI_toInt (by omega)] at z
    have e : zp_kd E.1 k = 6 := by
      have : zp_kd E.1 k ≠ 7 := fun y => by
        have := (zp_ms7 hw y o).1
        rw [hm] at this; cases this
      omega
    cases hc : E.2.2.2 k with
    | some p => rw [zp_V6s hw hm e (by rw [hc]; exact fun y => by cases y)] at q; exact q
    | none => rw [zp_V6n hw hm e hc] at q; exact q
end SCOREC
