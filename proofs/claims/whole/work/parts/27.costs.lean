/-! COSTS, the order of a BOOL's parts, prepare. -/
theorem zp_csum_t {S : zp_S} {k : Nat} {t t' : Nat → Nat} (h : ∀ i, i < zp_mn S k → t (zp_pt S k i) = t' (zp_pt S k i)) : ∀ m, m ≤ zp_mn S k → zp_csum S k t m = zp_csum S k t' m := by
  intro m
  induction m with
  | zero => intro _; rfl
  | succ m ih =>
    intro hm
    show zp_csum S k t m + _ = zp_csum S k t' m + _
    rw [ih (by omega), h m (by omega)]
theorem zp_cmin_t {S : zp_S} {k : Nat} {t t' : Nat → Nat} (h : ∀ i, i < zp_mn S k → t (zp_pt S k i) = t' (zp_pt S k i)) : ∀ m, m ≤ zp_mn S k → zp_cmin S k t m = zp_cmin S k t' m := by
  intro m
  induction m with
  | zero => intro _; rfl
  | succ m ih =>
    intro hm
    show (if zp_ro S k m < 2 then (match zp_cmin S k t m with | none => some (t (zp_pt S k m)) | some q => some (min q (t (zp_pt S k m)))) else zp_cmin S k t m) = (if zp_ro S k m < 2 then (match zp_cmin S k t' m with | none => some (t' (zp_pt S k m)) | some q => some (min q (t' (zp_pt S k m)))) else zp_cmin S k t' m)
    rw [ih (by omega), h m (by omega)]
theorem zp_c1_t {E : zp_E} {k : Nat} {t t' : Nat → Nat} (hw : zp_wf1 E.1 k) (h : ∀ p, p < k → t p = t' p) : zp_c1 E t k = zp_c1 E t' k := by
  have hp : ∀ i, i < zp_mn E.1 k → t (zp_pt E.1 k i) = t' (zp_pt E.1 k i) := fun i hi => h _ (hw.2.2.1 i hi).1
  have h7 := hw.1
  unfold zp_c1
  rcases (show zp_kd E.1 k = 0 ∨ zp_kd E.1 k = 1 ∨ zp_kd E.1 k = 2 ∨ zp_kd E.1 k = 3 ∨ zp_kd E.1 k = 4 ∨ zp_kd E.1 k = 5 ∨ zp_kd E.1 k = 6 ∨ zp_kd E.1 k = 7 by omega) with e | e | e | e | e | e | e | e
  · rw [e]; rfl
  · rw [e]; rfl
  · rw [e]
    show (match zp_cmin E.1 k t (zp_mn E.1 k) with | some m => m | none => min (zp_csum E.1 k t (zp_mn E.1 k)) 512) = (match zp_cmin E.1 k t' (zp_mn E.1 k) with | some m => m | none => min (zp_csum E.1 k t' (zp_mn E.1 k)) 512)
    rw [zp_cmin_t hp _ (Nat.le_refl _), zp_csum_t hp _ (Nat.le_refl _)]
  · rw [e]
    show min (zp_csum E.1 k t (zp_mn E.1 k)) 512 = min (zp_csum E.1 k t' (zp_mn E.1 k)) 512
    rw [zp_csum_t hp _ (Nat.le_refl _)]
  · rw [e]; exact h _ (hw.one (by omega)).2.2.2
  · rw [e]; exact h _ (hw.one (by omega)).2.2.2
  · rw [e]
    show (match E.2.2.2 k with | some q => q.1 | none => t (zp_fs E.1 k)) = (match E.2.2.2 k with | some q => q.1 | none => t' (zp_fs E.1 k))
    rw [h _ (hw.one (by omega)).2.2.2]
  · rw [e]; rfl
theorem zp_cs {E : zp_E} {k : Nat} (hw : zp_wf1 E.1 k) : zp_cost E k = zp_c1 E (zp_cost E) k := by
  show (if k = k then _ else _) = _
  rw [if_pos rfl]
  exact zp_c1_t hw (fun p hp => zp_ct_at E hp)
theorem zp_cs0 {E : zp_E} {k : Nat} (hw : zp_wf1 E.1 k) (e : zp_kd E.1 k = 0) : zp_cost E k = E.2.2.1 (zp_fs E.1 k) := by rw [zp_cs hw]; unfold zp_c1; rw [e]; rfl
theorem zp_cs1 {E : zp_E} {k : Nat} (hw : zp_wf1 E.1 k) (e : zp_kd E.1 k = 1) : zp_cost E k = zp_sc E.1 k - zp_fs E.1 k + 1 := by rw [zp_cs hw]; unfold zp_c1; rw [e]; rfl
theorem zp_cs2 {E : zp_E} {k : Nat} (hw : zp_wf1 E.1 k) (e : zp_kd E.1 k = 2) : zp_cost E k = match zp_cmin E.1 k (zp_cost E) (zp_mn E.1 k) with
    | some m => m
    | none => min (zp_csum E.1 k (zp_cost E) (zp_mn E.1 k)) 512 := by rw [zp_cs hw]; unfold zp_c1; rw [e]; rfl
theorem zp_cs3 {E : zp_E} {k : Nat} (hw : zp_wf1 E.1 k) (e : zp_kd E.1 k = 3) : zp_cost E k = min (zp_csum E.1 k (zp_cost E) (zp_mn E.1 k)) 512 := by rw [zp_cs hw]; unfold zp_c1; rw [e]; rfl
theorem zp_cs45 {E : zp_E} {k : Nat} (hw : zp_wf1 E.1 k) (e : zp_kd E.1 k = 4 ∨ zp_kd E.1 k = 5) : zp_cost E k = zp_cost E (zp_fs E.1 k) := by
  rw [zp_cs hw]; unfold zp_c1
  rcases e with e | e
  · rw [e]; rfl
  · rw [e]; rfl
theorem zp_cs6 {E : zp_E} {k : Nat} (hw : zp_wf1 E.1 k) (e : zp_kd E.1 k = 6) : zp_cost E k = match E.2.2.2 k with
    | some q => q.1
    | none => zp_cost E (zp_fs E.1 k) := by rw [zp_cs hw]; unfold zp_c1; rw [e]; rfl
theorem zp_cs7 {E : zp_E} {k : Nat} (hw : zp_wf1 E.1 k) (e : zp_kd E.1 k = 7) : zp_cost E k = 0 := by rw [zp_cs hw]; unfold zp_c1; rw [e]; rfl
theorem zp_cmin_le {S : zp_S} {k : Nat} {t : Nat → Nat} (h : ∀ i, i < zp_mn S k → t (zp_pt S k i) ≤ 512) : ∀ m, m ≤ zp_mn S k → ∀ v, zp_cmin S k t m = some v → v ≤ 512 := by
  intro m
  induction m with
  | zero => intro _ v hv; cases hv
  | succ m ih =>
    intro hm v hv
    have hv : (if zp_ro S k m < 2 then (match zp_cmin S k t m with | none => some (t (zp_pt S k m)) | some q => some (min q (t (zp_pt S k m)))) else zp_cmin S k t m) = some v := hv
    have hb := h m (by omega)
    by_cases e : zp_ro S k m < 2
    · rw [if_pos e] at hv
      cases hq : zp_cmin S k t m with
      | none => rw [hq] at hv; injection hv; omega
      | some w => rw [hq] at hv; injection hv; omega
    · rw [if_neg e] at hv
      exact ih (by omega) v hv
theorem zp_csum_le {S : zp_S} {k : Nat} {t : Nat → Nat} (h : ∀ i, i < zp_mn S k → t (zp_pt S k i) ≤ 512) : ∀ m, m ≤ zp_mn S k → zp_csum S k t m ≤ 512 * m := by
  intro m
  induction m with
  | zero => intro _; exact Nat.le_refl _
  | succ m ih =>
    intro hm
    show zp_csum S k t m + (if zp_ro S k m = 3 then t (zp_pt S k m) else 0) ≤ _
    have := h m (by omega)
    have := ih (by omega)
    split <;> omega
theorem zp_cost_le {n : Nat} {E : zp_E} (hw : zp_wf n E.1) (hL : zp_LW E.2.1 E.2.2.1) (hK : ∀ k, k < n → ∀ q, E.2.2.2 k = some q → q.1 ≤ 512) : ∀ k, k < n → zp_cost E k ≤ 512 := by
  intro k
  induction k using Nat.strongRecOn with
  | ind k ih =>
    intro hk
    have w := hw.2 k hk
    have hp : ∀ i, i < zp_mn E.1 k → zp_cost E (zp_pt E.1 k i) ≤ 512 := fun i hi => ih _ (w.2.2.1 i hi).1 (by have := (w.2.2.1 i hi).1; omega)
    have h7 := w.1
    rcases (show zp_kd E.1 k = 0 ∨ zp_kd E.1 k = 1 ∨ zp_kd E.1 k = 2 ∨ zp_kd E.1 k = 3 ∨ (zp_kd E.1 k = 4 ∨ zp_kd E.1 k = 5) ∨ zp_kd E.1 k = 6 ∨ zp_kd E.1 k = 7 by omega) with e | e | e | e | e | e | e
    · rw [zp_cs0 w e]
      have := (hL _ (w.2.2.2.1 e).1).1
      omega
    · rw [zp_cs1 w e]
      have := w.2.2.2.2.1 e
      omega
    · rw [zp_cs2 w e]
      cases hq : zp_cmin E.1 k (zp_cost E) (zp_mn E.1 k) with
      | none => show min _ _ ≤ _; omega
      | some v => exact zp_cmin_le hp _ (Nat.le_refl _) v hq
    · rw [zp_cs3 w e]; omega
    · rw [zp_cs45 w e]
      have := (w.one (by omega)).2.2.2
      exact ih _ this (by omega)
    · rw [zp_cs6 w e]
      cases hq : E.2.2.2 k with
      | none =>
        have := (w.one (by omega)).2.2.2
        exact ih _ this (by omega)
      | some q => exact hK k hk q hq
    · rw [zp_cs7 w e]; omega
section COSTS
variable {σ : zv_St} {Q : Int32 → zv_St → Prop} {k n : Nat} {E : zp_E}
theorem zp_costOfShoulds (hS : zp_CS σ n E) (hk : k < n) (hb : ∀ p, p < k → zp_cost E p ≤ 512) (hC : ∀ p, p < k → σ.1 24 p = nI (zp_cost E p)) (q : Q (nI (min (zp_csum E.1 k (zp_cost E) (zp_mn E.1 k)) 512)) σ) : B_X0_costOfShoulds Q (nI k) σ := by
  have hn := hS.1.1
  obtain ⟨w0, w1, w2, -⟩ := hS.1.2 k hk
  obtain ⟨-, -, -, l4, l5⟩ := hS.2.1.2 k hk
  have hp : ∀ i, i < zp_mn E.1 k → zp_cost E (zp_pt E.1 k i) ≤ 512 := fun i hi => hb _ (w2 i hi).1
  have hle := zp_csum_le hp
  refine zp_for (L := fun u i (a : Int32 × zv_St) => L_X0_costOfShoulds_4 Q u (nI k) a.1 (nI i) a.2) (zp_mn E.1 k) (fun i a => a = (nI (zp_csum E.1 k (zp_cost E) i), σ)) (fun u a h => ?_) (fun u i a hi h ih => ?_) 0 (0, σ) rfl (Nat.zero_le _)
  · subst h
    unfold L_X0_costOfShoulds_4
    refine zp_a_size (by omega) l4 ?_
    refine zp_t (nI_le (Nat.le_refl _) (by omega)) ?_
    have hs := hle _ (Nat.le_refl _)
    generalize zp_csum E.1 k (zp_cost E) (zp_mn E.1 k) = s at q hs ⊢
    by_cases c : 512 < s
    · refine zp_t (nI_lt (a := 512) c (by omega)) ?_
      rw [show min s 512 = 512 by omega] at q
      exact q
    · refine zp_f (nI_nlt (a := 512) (b := s) (by omega) (by decide)) ?_
      rw [show min s 512 = s by omega] at q
      exact q
  · subst h
    unfold L_X0_costOfShoulds_4
    refine zp_a_size (by omega) l4 ?_
    refine zp_f (nI_ge hi (by omega)) ?_
    obtain ⟨v1, v2⟩ := w2 i hi
    refine zp_a_roleAt (by omega) (by omega) (l5 i hi).1 ?_
    unfold B_X0_costOfShoulds_46
    rw [nI_1]
    by_cases e : zp_ro E.1 k i = 3
    · refine zp_nf (by rw [e]; rfl) ?_
      refine zp_a_partAt (by omega) (by omega) (l5 i hi).2 ?_
      refine ⟨vp_in_nI (by omega) (by decide), ?_⟩
      rw [nI_clamp (by omega), hC _ v1]
      rintro x rfl
      rw [nI_add]
      refine ih (nI (zp_csum E.1 k (zp_cost E) i + zp_cost E (zp_pt E.1 k i)), σ) ?_
      show (_, _) = (nI (zp_csum E.1 k (zp_cost E) i + _), _)
      rw [if_pos e]
    · refine zp_nt (fun z => e (zp_ninj (by omega) (by decide) z)) (ih (_, σ) ?_)
      show (_, _) = (nI (zp_csum E.1 k (zp_cost E) i + _), _)
      rw [if_neg e]; rfl
theorem zp_costOfBool (hS : zp_CS σ n E) (hk : k < n) (hb : ∀ p, p < k → zp_cost E p ≤ 512) (hC : ∀ p, p < k → σ.1 24 p = nI (zp_cost E p)) (q : Q (nI (match zp_cmin E.1 k (zp_cost E) (zp_mn E.1 k) with | some m => m | none => min (zp_csum E.1 k (zp_cost E) (zp_mn E.1 k)) 512)) σ) : B_X0_costOfBool Q (nI k) σ := by
  have hn := hS.1.1
  obtain ⟨w0, w1, w2, -⟩ := hS.1.2 k hk
  obtain ⟨-, -, -, l4, l5⟩ := hS.2.1.2 k hk
  have hp : ∀ i, i < zp_mn E.1 k → zp_cost E (zp_pt E.1 k i) ≤ 512 := fun i hi => hb _ (w2 i hi).1
  have hle := zp_cmin_le hp
  refine zp_for (L := fun u i (a : Int32 × zv_St) => L_X0_costOfBool_4 Q u (nI k) a.1 (nI i) a.2) (zp_mn E.1 k) (fun i a => a = (zp_ow (zp_cmin E.1 k (zp_cost E) i), σ)) (fun u a h => ?_) (fun u i a hi h ih => ?_) 0 (-1, σ) rfl (Nat.zero_le _)
  · subst h
    unfold L_X0_costOfBool_4
    refine zp_a_size (by omega) l4 ?_
    refine zp_t (nI_le (Nat.le_refl _) (by omega)) ?_
    cases hq : zp_cmin E.1 k (zp_cost E) (zp_mn E.1 k) with
    | none =>
      rw [hq] at q
      exact zp_nf rfl (zp_costOfShoulds hS hk hb hC q)
    | some v =>
      rw [hq] at q
      have := hle _ (Nat.le_refl _) v hq
      exact zp_nt (zp_neg1 (by omega)) q
  · subst h
    unfold L_X0_costOfBool_4
    refine zp_a_size (by omega) l4 ?_
    refine zp_f (nI_ge hi (by omega)) ?_
    obtain ⟨v1, v2⟩ := w2 i hi
    have hpi := hp i hi
    refine zp_a_partAt (by omega) (by omega) (l5 i hi).2 ?_
    refine ⟨vp_in_nI (by omega) (by decide), ?_⟩
    rw [nI_clamp (by omega), hC _ v1]
    rintro x rfl
    refine zp_a_roleAt (by omega) (by omega) (l5 i hi).1 ?_
    refine zp_a_needed v2 ?_
    unfold B_X0_costOfBool_58 B_X0_costOfBool_61
    rw [nI_1]
    by_cases e : zp_ro E.1 k i < 2
    · rw [decide_eq_true e]
      refine zp_f (by decide) ?_
      cases hq : zp_cmin E.1 k (zp_cost E) i with
      | none =>
        refine zp_t rfl (ih (_, σ) ?_)
        show (_, _) = (zp_ow (if zp_ro E.1 k i < 2 then (match zp_cmin E.1 k (zp_cost E) i with | none => some (zp_cost E (zp_pt E.1 k i)) | some q => some (min q (zp_cost E (zp_pt E.1 k i)))) else zp_cmin E.1 k (zp_cost E) i), σ)
        rw [if_pos e, hq]
        rfl
      | some v =>
        have hv := hle i (by omega) v hq
        refine zp_f (zp_neg1 (by omega)) ?_
        have he : zp_cmin E.1 k (zp_cost E) (i + 1) = some (min v (zp_cost E (zp_pt E.1 k i))) := by
          show (if zp_ro E.1 k i < 2 then (match zp_cmin E.1 k (zp_cost E) i with | none => some (zp_cost E (zp_pt E.1 k i)) | some q => some (min q (zp_cost E (zp_pt E.1 k i)))) else zp_cmin E.1 k (zp_cost E) i) = _
          rw [if_pos e, hq]
        by_cases c : v ≤ zp_cost E (zp_pt E.1 k i)
        · refine zp_t (nI_le c (by omega)) (ih (_, σ) ?_)
          rw [he, show min v (zp_cost E (zp_pt E.1 k i)) = v by omega]
        · refine zp_f (nI_ge (by omega) (by omega)) (ih (_, σ) ?_)
          rw [he, show min v (zp_cost E (zp_pt E.1 k i)) = zp_cost E (zp_pt E.1 k i) by omega]
          rfl
    · rw [decide_eq_false e]
      refine zp_t rfl (ih (_, σ) ?_)
      show (_, _) = (zp_ow (if zp_ro E.1 k i < 2 then (match zp_cmin E.1 k (zp_cost E) i with | none => some (zp_cost E (zp_pt E.1 k i)) | some q => some (min q (zp_cost E (zp_pt E.1 k i)))) else zp_cmin E.1 k (zp_cost E) i), σ)
      rw [if_neg e]
theorem zp_costOf (hS : zp_CS σ n E) (hk : k < n) (hb : ∀ p, p < k → zp_cost E p ≤ 512) (hC : ∀ p, p < k → σ.1 24 p = nI (zp_cost E p)) (q : Q (nI (zp_cost E k)) σ) : B_X0_costOf Q (nI k) σ := by
  have hn := hS.1.1
  have hw := hS.1.2 k hk
  have h7 := hw.1
  obtain ⟨l0, l1, l2, l4, l5⟩ := hS.2.1.2 k hk
  refine zp_a_kind (by omega) l0 ?_
  have h45 : zp_kd E.1 k = 4 ∨ zp_kd E.1 k = 5 → B_X0_costOf_137 Q (nI k) σ := by
    intro e
    obtain ⟨o1, o2, -, o4⟩ := hw.one (by omega)
    refine zp_a_partAt (i := 0) (by omega) (by decide) (l5 0 (by omega)).2 ⟨vp_in_nI (by omega) (by decide), ?_⟩
    rw [nI_clamp (by omega), hC _ (by omega), o2, ← zp_cs45 hw e]
    exact q
  refine ⟨fun z => ?_, fun z => ?_, fun z => ?_, fun z => ?_, fun z => ?_, fun z => ?_, fun z => ?_, fun z => ?_⟩
  · have e : zp_kd E.1 k = 0 := zp_ninj (by omega) (by decide) z
    have hf := (hw.2.2.2.1 e).1
    refine zp_a_first (by omega) l1 ?_
    refine zp_a_lsize hf (hS.2.2.1 _ hf).1 ?_
    rw [← zp_cs0 hw e]
    exact q
  · have e : zp_kd E.1 k = 1 := zp_ninj (by omega) (by decide) z
    have hf := hw.2.2.2.2.1 e
    refine zp_a_second (by omega) l2 ?_
    refine zp_a_first (by omega) l1 ?_
    rw [pk_sub hf.1, nI_1, ← zp_cs1 hw e]
    exact q
  · have e : zp_kd E.1 k = 2 := zp_ninj (by omega) (by decide) z
    refine zp_costOfBool hS hk hb hC ?_
    rw [← zp_cs2 hw e]
    exact q
  · have e : zp_kd E.1 k = 3 := zp_ninj (by omega) (by decide) z
    refine zp_costOfShoulds hS hk hb hC ?_
    rw [← zp_cs3 hw e]
    exact q
  · exact h45 (Or.inl (zp_ninj (b := 4) (by omega) (by decide) z))
  · exact h45 (Or.inr (zp_ninj (b := 5) (by omega) (by decide) z))
  · have e : zp_kd E.1 k = 6 := zp_ninj (by omega) (by decide) z
    have hK := hS.2.2.2.2.1.1 k hk
    have hc := zp_cs6 hw e
    cases hq : E.2.2.2 k with
    | none =>
      rw [hq] at hK hc
      obtain ⟨o1, o2, -, o4⟩ := hw.one (by omega)
      refine zp_a_isThere (b := false) (by omega) hK (zp_t rfl ?_)
      refine zp_a_partAt (i := 0) (by omega) (by decide) (l5 0 (by omega)).2 ⟨vp_in_nI (by omega) (by decide), ?_⟩
      rw [nI_clamp (by omega), hC _ (by omega), o2]
      rw [hc] at q
      exact q
    | some p =>
      rw [hq] at hK hc
      refine zp_a_isThere (b := true) (by omega) hK.1 (zp_f (by decide) ?_)
      refine zp_a_ssize (by omega) hK.2.1 ?_
      rw [hc] at q
      exact q
  · have e : zp_kd E.1 k = 7 := by
      rw [nI_toInt (by omega)] at z
      omega
    rw [zp_cs7 hw e] at q
    exact q
end COSTS
