/-! put, take: the LISTS. -/
section LS
variable {σ : zv_St} {w : Nat → Nat → Option Nat} {sz : Nat → Nat} {l o : Nat}
theorem zp_placeOf {Q : Int32 → zv_St → Prop} (hLW : zp_LW w sz) (hLC : zp_LC σ w sz) (hl : l < 16) (ho : o < 512)
    (hf : ∀ i v, i < sz l → σ.1 2 (l * 60 + i) = nI o → σ.1 3 (l * 60 + i) = nI v → w l o = some v → Q (nI (l * 60 + i)) σ)
    (hno : w l o = none → (∀ i, i < sz l → ¬ σ.1 2 (l * 60 + i) = nI o) → Q (-1) σ) : B_X3_placeOf Q (nI l) (nI o) σ := by
  obtain ⟨s1, s2, s3, s4⟩ := hLC l hl
  have h60 := (hLW l hl).1
  refine ⟨vp_in_nI hl (by decide), ?_⟩
  rw [nI_clamp (by omega), s1, zp_m60, nI_add]
  rintro v rfl
  have key : ∀ m i, i + m = sz l → (∀ j, j < i → ¬ σ.1 2 (l * 60 + j) = nI o) → L_X3_placeOf_18 Q (m + 1) (nI o) (nI (l * 60 + sz l)) (nI (l * 60 + i)) σ := by
    intro m
    induction m with
    | zero =>
      intro i hi hall
      have : i = sz l := by omega
      subst this
      refine zp_t (nI_le (Nat.le_refl _) (by omega)) (hno ?_ hall)
      cases hw : w l o with
      | none => rfl
      | some v =>
        obtain ⟨i, hi2, e⟩ := s4 o v ho hw
        exact absurd e (hall i hi2)
    | succ m ih =>
      intro i hi hall
      refine zp_f (nI_ge (by omega) (by omega)) ⟨vp_in_nI (by omega) (by decide), ?_⟩
      rw [nI_clamp (by omega)]
      by_cases e : σ.1 2 (l * 60 + i) = nI o
      · refine zp_nf e ?_
        obtain ⟨o2, v, q1, q2, q3, q4⟩ := s2 i (by omega)
        have : o2 = o := zp_ninj (by omega) (by omega) (q2.symm.trans e)
        subst this
        exact hf i v (by omega) e q3 q4
      · refine zp_nt e ?_
        rw [nI_1]
        exact ih (i + 1) (by omega) (fun j hj => by
          rcases Nat.lt_or_ge j i with h | h
          · exact hall j h
          · rw [show j = i by omega]; exact e)
  exact ⟨sz l + 1, key (sz l) 0 (by omega) (fun j hj => absurd hj (Nat.not_lt_zero _))⟩
def zp_setW (w : Nat → Nat → Option Nat) (l o : Nat) (v : Option Nat) : Nat → Nat → Option Nat := fun a b => if a = l ∧ b = o then v else w a b
def zp_setZ (sz : Nat → Nat) (l m : Nat) : Nat → Nat := fun a => if a = l then m else sz a
/-- a weight written anew -/
theorem zp_LC_again {x i0 v0 : Nat} (hLW : zp_LW w sz) (hLC : zp_LC σ w sz) (hl : l < 16) (ho : o < 512) (hi : i0 < sz l) (e : σ.1 2 (l * 60 + i0) = nI o) (hv : w l o = some v0) : zp_LC (zv_wi (zv_wi σ 2 (l * 60 + i0) (nI o)) 3 (l * 60 + i0) (nI x)) (zp_setW w l o (some x)) sz := by
  intro a ha
  obtain ⟨s1, s2, s3, s4⟩ := hLC a ha
  have h60 := (hLW a ha).1
  have h60l := (hLW l hl).1
  have e2 : ∀ j, (zv_wi (zv_wi σ 2 (l * 60 + i0) (nI o)) 3 (l * 60 + i0) (nI x)).1 2 j = σ.1 2 j := by
    intro j
    rw [zp_rn _ _ _ _ (by decide)]
    by_cases hj : j = l * 60 + i0
    · subst hj; rw [zp_rs, e]
    · rw [zp_rj _ _ hj]
  have e3 : ∀ j, (zv_wi (zv_wi σ 2 (l * 60 + i0) (nI o)) 3 (l * 60 + i0) (nI x)).1 3 j = if j = l * 60 + i0 then nI x else σ.1 3 j := by
    intro j
    by_cases hj : j = l * 60 + i0
    · subst hj; rw [zp_rs, if_pos rfl]
    · rw [zp_rj _ _ hj, if_neg hj, zp_rn _ _ _ _ (by decide)]
  refine ⟨by rw [zp_rn _ _ _ _ (by decide), zp_rn _ _ _ _ (by decide)]; exact s1, fun i hi2 => ?_, fun i j h1 h2 h3 => ?_, fun b v hb hv2 => ?_⟩
  · obtain ⟨o2, v2, q1, q2, q3, q4⟩ := s2 i hi2
    rw [e2, e3]
    by_cases hai : a * 60 + i = l * 60 + i0
    · have hal : a = l := by omega
      have hii : i = i0 := by omega
      subst hal; subst hii
      refine ⟨o, x, ho, e, by rw [if_pos rfl], by simp [zp_setW]⟩
    · refine ⟨o2, v2, q1, q2, by rw [if_neg hai]; exact q3, ?_⟩
      unfold zp_setW
      rw [if_neg]
      · exact q4
      · rintro ⟨rfl, rfl⟩
        exact hai (by rw [s3 i i0 hi2 hi (q2.trans e.symm)])
  · rw [e2, e2] at h3
    exact s3 i j h1 h2 h3
  · unfold zp_setW at hv2
    by_cases hab : a = l ∧ b = o
    · obtain ⟨rfl, rfl⟩ := hab
      exact ⟨i0, hi, by rw [e2]; exact e⟩
    · rw [if_neg hab] at hv2
      obtain ⟨i, h1, h2⟩ := s4 b v hb hv2
      exact ⟨i, h1, by rw [e2]; exact h2⟩
/-- one object more -/
theorem zp_LC_more {x : Nat} (hLW : zp_LW w sz) (hLC : zp_LC σ w sz) (hl : l < 16) (ho : o < 512) (hs : sz l < 60) (hno : ∀ i, i < sz l → ¬ σ.1 2 (l * 60 + i) = nI o) (hw : w l o = none) : zp_LC (zv_wi (zv_wi (zv_wi σ 4 l (nI (sz l + 1))) 2 (l * 60 + sz l) (nI o)) 3 (l * 60 + sz l) (nI x)) (zp_setW w l o (some x)) (zp_setZ sz l (sz l + 1)) := by
  have e2 : ∀ j, (zv_wi (zv_wi (zv_wi σ 4 l (nI (sz l + 1))) 2 (l * 60 + sz l) (nI o)) 3 (l * 60 + sz l) (nI x)).1 2 j = if j = l * 60 + sz l then nI o else σ.1 2 j := by
    intro j
    simp [zp_ri]
  have e3 : ∀ j, (zv_wi (zv_wi (zv_wi σ 4 l (nI (sz l + 1))) 2 (l * 60 + sz l) (nI o)) 3 (l * 60 + sz l) (nI x)).1 3 j = if j = l * 60 + sz l then nI x else σ.1 3 j := by
    intro j
    simp [zp_ri]
  have e4 : ∀ j, (zv_wi (zv_wi (zv_wi σ 4 l (nI (sz l + 1))) 2 (l * 60 + sz l) (nI o)) 3 (l * 60 + sz l) (nI x)).1 4 j = if j = l then nI (sz l + 1) else σ.1 4 j := by
    intro j
    simp [zp_ri]
  intro a ha
  obtain ⟨s1, s2, s3, s4⟩ := hLC a ha
  have h60 := (hLW a ha).1
  by_cases hal : a = l
  · subst hal
    have ez : zp_setZ sz a (sz a + 1) a = sz a + 1 := by simp [zp_setZ]
    rw [ez]
    refine ⟨by rw [e4, if_pos rfl], fun i hi => ?_, fun i j h1 h2 h3 => ?_, fun b v hb hv => ?_⟩
    · rw [e2, e3]
      by_cases hi2 : i = sz a
      · subst hi2
        exact ⟨o, x, ho, by rw [if_pos rfl], by rw [if_pos rfl], by simp [zp_setW]⟩
      · have hne : ¬ a * 60 + i = a * 60 + sz a := by omega
        obtain ⟨o2, v2, q1, q2, q3, q4⟩ := s2 i (by omega)
        refine ⟨o2, v2, q1, by rw [if_neg hne]; exact q2, by rw [if_neg hne]; exact q3, ?_⟩
        unfold zp_setW
        rw [if_neg]
        · exact q4
        · rintro ⟨-, rfl⟩
          exact hno i (by omega) q2
    · rw [e2, e2] at h3
      by_cases hi2 : i = sz a
      · by_cases hj2 : j = sz a
        · omega
        · rw [if_pos (by omega), if_neg (by omega)] at h3
          exact absurd h3.symm (hno j (by omega))
      · by_cases hj2 : j = sz a
        · rw [if_neg (by omega), if_pos (by omega)] at h3
          exact absurd h3 (hno i (by omega))
        · rw [if_neg (by omega), if_neg (by omega)] at h3
          exact s3 i j (by omega) (by omega) h3
    · unfold zp_setW at hv
      by_cases hab : a = a ∧ b = o
      · obtain ⟨-, rfl⟩ := hab
        exact ⟨sz a, by omega, by rw [e2, if_pos rfl]⟩
      · rw [if_neg hab] at hv
        obtain ⟨i, h1, h2⟩ := s4 b v hb hv
        exact ⟨i, by omega, by rw [e2, if_neg (by omega)]; exact h2⟩
  · have ez : zp_setZ sz l (sz l + 1) a = sz a := by simp [zp_setZ, hal]
    rw [ez]
    have hne : ∀ i, i < sz a → ¬ a * 60 + i = l * 60 + sz l := fun i hi => by omega
    refine ⟨by rw [e4, if_neg hal]; exact s1, fun i hi => ?_, fun i j h1 h2 h3 => ?_, fun b v hb hv => ?_⟩
    · rw [e2, e3, if_neg (hne i hi), if_neg (hne i hi)]
      obtain ⟨o2, v2, q1, q2, q3, q4⟩ := s2 i hi
      exact ⟨o2, v2, q1, q2, q3, by unfold zp_setW; rw [if_neg (fun q => hal q.1)]; exact q4⟩
    · rw [e2, e2, if_neg (hne i h1), if_neg (hne j h2)] at h3
      exact s3 i j h1 h2 h3
    · unfold zp_setW at hv
      rw [if_neg (fun q => hal q.1)] at hv
      obtain ⟨i, h1, h2⟩ := s4 b v hb hv
      exact ⟨i, h1, by rw [e2, if_neg (hne i h1)]; exact h2⟩
/-- one object less: the last takes its place -/
theorem zp_LC_less {i0 v0 : Nat} (hLW : zp_LW w sz) (hLC : zp_LC σ w sz) (hl : l < 16) (ho : o < 512) (hi : i0 < sz l) (e : σ.1 2 (l * 60 + i0) = nI o) (hv : w l o = some v0) : zp_LC (zv_wi (zv_wi (zv_wi σ 4 l (nI (sz l - 1))) 2 (l * 60 + i0) (σ.1 2 (l * 60 + (sz l - 1)))) 3 (l * 60 + i0) (σ.1 3 (l * 60 + (sz l - 1)))) (zp_setW w l o none) (zp_setZ sz l (sz l - 1)) := by
  have e2 : ∀ j, (zv_wi (zv_wi (zv_wi σ 4 l (nI (sz l - 1))) 2 (l * 60 + i0) (σ.1 2 (l * 60 + (sz l - 1)))) 3 (l * 60 + i0) (σ.1 3 (l * 60 + (sz l - 1)))).1 2 j = if j = l * 60 + i0 then σ.1 2 (l * 60 + (sz l - 1)) else σ.1 2 j := by
    intro j
    simp [zp_ri]
  have e3 : ∀ j, (zv_wi (zv_wi (zv_wi σ 4 l (nI (sz l - 1))) 2 (l * 60 + i0) (σ.1 2 (l * 60 + (sz l - 1)))) 3 (l * 60 + i0) (σ.1 3 (l * 60 + (sz l - 1)))).1 3 j = if j = l * 60 + i0 then σ.1 3 (l * 60 + (sz l - 1)) else σ.1 3 j := by
    intro j
    simp [zp_ri]
  have e4 : ∀ j, (zv_wi (zv_wi (zv_wi σ 4 l (nI (sz l - 1))) 2 (l * 60 + i0) (σ.1 2 (l * 60 + (sz l - 1)))) 3 (l * 60 + i0) (σ.1 3 (l * 60 + (sz l - 1)))).1 4 j = if j = l then nI (sz l - 1) else σ.1 4 j := by
    intro j
    simp [zp_ri]
  intro a ha
  obtain ⟨s1, s2, s3, s4⟩ := hLC a ha
  have h60 := (hLW a ha).1
  have h60l := (hLW l hl).1
  by_cases hal : a = l
  · subst hal
    have ez : zp_setZ sz a (sz a - 1) a = sz a - 1 := by simp [zp_setZ]
    rw [ez]
    -- the old place of what stands now at i
    have old : ∀ i, i < sz a - 1 → ∃ j, j < sz a ∧ j ≠ i0 ∧ (if a * 60 + i = a * 60 + i0 then σ.1 2 (a * 60 + (sz a - 1)) else σ.1 2 (a * 60 + i)) = σ.1 2 (a * 60 + j) ∧ (if a * 60 + i = a * 60 + i0 then σ.1 3 (a * 60 + (sz a - 1)) else σ.1 3 (a * 60 + i)) = σ.1 3 (a * 60 + j) ∧ (j = if i = i0 then sz a - 1 else i) := by
      intro i hi2
      by_cases h : i = i0
      · subst h
        exact ⟨sz a - 1, by omega, by omega, by rw [if_pos rfl], by rw [if_pos rfl], by rw [if_pos rfl]⟩
      · exact ⟨i, by omega, h, by rw [if_neg (by omega)], by rw [if_neg (by omega)], by rw [if_neg h]⟩
    refine ⟨by rw [e4, if_pos rfl], fun i hi2 => ?_, fun i j h1 h2 h3 => ?_, fun b v hb hv2 => ?_⟩
    · obtain ⟨j, j1, j2, j3, j4, -⟩ := old i hi2
      rw [e2, e3, j3, j4]
      obtain ⟨o2, v2, q1, q2, q3, q4⟩ := s2 j j1
      refine ⟨o2, v2, q1, q2, q3, ?_⟩
      unfold zp_setW
      rw [if_neg]
      · exact q4
      · rintro ⟨-, rfl⟩
        exact j2 (s3 j i0 j1 hi (q2.trans e.symm))
    · obtain ⟨p, p1, p2, p3, p4, p5⟩ := old i h1
      obtain ⟨r, r1, r2, r3, r4, r5⟩ := old j h2
      rw [e2, e2, p3, r3] at h3
      have := s3 p r p1 r1 h3
      by_cases hi2 : i = i0
      · by_cases hj2 : j = i0
        · omega
        · rw [if_pos hi2] at p5; rw [if_neg hj2] at r5; omega
      · by_cases hj2 : j = i0
        · rw [if_neg hi2] at p5; rw [if_pos hj2] at r5; omega
        · rw [if_neg hi2] at p5; rw [if_neg hj2] at r5; omega
    · unfold zp_setW at hv2
      by_cases hab : a = a ∧ b = o
      · rw [if_pos hab] at hv2
        cases hv2
      · rw [if_neg hab] at hv2
        obtain ⟨i, h1, h2⟩ := s4 b v hb hv2
        have hi0 : i ≠ i0 := fun q => hab ⟨rfl, zp_ninj (by omega) (by omega) (by rw [← h2, q, e])⟩
        by_cases hl2 : i = sz a - 1
        · refine ⟨i0, by omega, ?_⟩
          rw [e2, if_pos rfl, ← hl2]
          exact h2
        · exact ⟨i, by omega, by rw [e2, if_neg (by omega)]; exact h2⟩
  · have ez : zp_setZ sz l (sz l - 1) a = sz a := by simp [zp_setZ, hal]
    rw [ez]
    have hne : ∀ i, i < sz a → ¬ a * 60 + i = l * 60 + i0 := fun i hi => by omega
    refine ⟨by rw [e4, if_neg hal]; exact s1, fun i hi => ?_, fun i j h1 h2 h3 => ?_, fun b v hb hv2 => ?_⟩
    · rw [e2, e3, if_neg (hne i hi), if_neg (hne i hi)]
      obtain ⟨o2, v2, q1, q2, q3, q4⟩ := s2 i hi
      exact ⟨o2, v2, q1, q2, q3, by unfold zp_setW; rw [if_neg (fun q => hal q.1)]; exact q4⟩
    · rw [e2, e2, if_neg (hne i h1), if_neg (hne j h2)] at h3
      exact s3 i j h1 h2 h3
    · unfold zp_setW at hv2
      rw [if_neg (fun q => hal q.1)] at hv2
      obtain ⟨i, h1, h2⟩ := s4 b v hb hv2
      exact ⟨i, h1, by rw [e2, if_neg (hne i h1)]; exact h2⟩
/-- the reference's lists -/
theorem zp_LR_set {m : Nat} {v : Option Nat} (hLR : zp_LR σ w sz) (hl : l < 16) (ho : o < 512) {σ' : zv_St} (e46 : ∀ j, σ'.1 46 j = if j = l * 512 + o then zp_ow v else σ.1 46 j) (e47 : ∀ j, σ'.1 47 j = if j = l then nI m else σ.1 47 j) : zp_LR σ' (zp_setW w l o v) (zp_setZ sz l m) := by
  intro a ha
  obtain ⟨s1, s2⟩ := hLR a ha
  refine ⟨?_, fun b hb => ?_⟩
  · rw [e47]
    by_cases hal : a = l
    · rw [if_pos hal]; simp [zp_setZ, hal]
    · rw [if_neg hal, s1]; simp [zp_setZ, hal]
  · rw [e46]
    unfold zp_setW
    by_cases hab : a = l ∧ b = o
    · rw [if_pos (by rw [hab.1, hab.2]), if_pos hab]
    · rw [if_neg (by omega), if_neg hab]
      exact s2 b hb
theorem zp_LW_set {m : Nat} {v : Option Nat} (hLW : zp_LW w sz) (hm : m ≤ 60) (hv : ∀ x, v = some x → x ≤ 1000000) : zp_LW (zp_setW w l o v) (zp_setZ sz l m) := by
  intro a ha
  obtain ⟨s1, s2⟩ := hLW a ha
  refine ⟨?_, fun b x hb => ?_⟩
  · unfold zp_setZ
    split
    · exact hm
    · exact s1
  · unfold zp_setW at hb
    by_cases hab : a = l ∧ b = o
    · rw [if_pos hab] at hb
      exact hv x hb
    · rw [if_neg hab] at hb
      exact s2 b x hb
theorem zp_ow_neg {v : Option Nat} (hv : ∀ x, v = some x → x ≤ 1000000) : zp_ow v = -1 ↔ v = none := by
  cases v with
  | none => simp [zp_ow]
  | some x =>
    have := hv x rfl
    constructor
    · intro e; exact absurd e (zp_neg1 (by omega))
    · intro e; cases e
end LS
