/-! Iterators: begin, end. -/
section OPS2
variable {σ : zv_St}
def zp_st35 (σ : zv_St) (i : Nat) (a : Int32) : zv_St := zv_wi (zv_wi (zv_wi (zv_wi σ 35 i 1) 36 i a) 37 i (-1)) 38 i 0
def zp_st57 (σ : zv_St) (i : Nat) (a : Int32) : zv_St := zv_wi (zv_wi (zv_wi (zv_wi σ 57 i a) 58 i (-1)) 59 i 0) 60 i 0
theorem zp_start {Q : Int32 → zv_St → Prop} {a : Int32} (hb : ∀ i, i < 8 → σ.1 35 i = 0 ∨ σ.1 35 i = 1) (hfree : ∀ i, i < 8 → (∀ j, j < i → σ.1 35 j = 1) → σ.1 35 i = 0 → Q (nI i) (zp_st35 σ i a)) (hfull : (∀ j, j < 8 → σ.1 35 j = 1) → Q (-3) σ) : B_X2_start Q a σ := by
  have key : ∀ m i, i + m = 8 → (∀ j, j < i → σ.1 35 j = 1) → L_X2_start_2 Q (m + 1) a (nI i) σ := by
    intro m
    induction m with
    | zero =>
      intro i hi hall
      have : i = 8 := by omega
      subst this
      exact zp_t (by decide) (hfull hall)
    | succ m ih =>
      intro i hi hall
      refine zp_f (nI_ge (b := 8) (by omega) (by decide)) ⟨vp_in_nI (by omega) (by decide), ?_⟩
      rw [nI_clamp (by omega)]
      rcases hb i (by omega) with e | e
      · refine zp_nf e ⟨vp_in_nI (by omega) (by decide), ?_⟩
        rintro σ1 rfl
        refine ⟨vp_in_nI (by omega) (by decide), ?_⟩
        rintro σ2 rfl
        refine ⟨vp_in_nI (by omega) (by decide), ?_⟩
        rintro σ3 rfl
        refine ⟨vp_in_nI (by omega) (by decide), ?_⟩
        rintro σ4 rfl
        exact hfree i (by omega) hall e
      · refine zp_nt (by rw [e]; decide) ?_
        rw [nI_1]
        exact ih (i + 1) (by omega) (fun j hj => by
          rcases Nat.lt_or_ge j i with q | q
          · exact hall j q
          · rw [show j = i by omega]; exact e)
  exact ⟨9, key 8 0 rfl (fun j hj => absurd hj (Nat.not_lt_zero _))⟩
theorem zp_startR {Q : Int32 → zv_St → Prop} {a : Int32} (i : Nat) (hi : i ≤ 8) (hall : ∀ j, j < i → ¬ σ.1 57 j = -1) (hfree : i < 8 → σ.1 57 i = -1) (q : B_X11_open_35 Q a (nI i) σ) : ∃ n, L_X11_open_13 Q n a 0 σ := by
  have key : ∀ m j, j + m = i → L_X11_open_13 Q (m + 1) a (nI j) σ := by
    intro m
    induction m with
    | zero =>
      intro j hj
      have : j = i := by omega
      subst this
      by_cases h8 : j = 8
      · subst h8
        exact zp_t (by decide) q
      · refine zp_f (nI_ge (b := 8) (by omega) (by decide)) ⟨vp_in_nI (by omega) (by decide), ?_⟩
        rw [nI_clamp (by omega)]
        exact zp_t (hfree (by omega)) q
    | succ m ih =>
      intro j hj
      refine zp_f (nI_ge (b := 8) (by omega) (by decide)) ⟨vp_in_nI (by omega) (by decide), ?_⟩
      rw [nI_clamp (by omega)]
      refine zp_f (hall j (by omega)) ?_
      rw [nI_1]
      exact ih (j + 1) (by omega)
  exact ⟨i + 1, key i 0 (by omega)⟩
theorem zp_step_open (h : zp_Inv σ) (a : Int32) (R : Int32 → zv_St → Prop) (hR : ∀ r σ1, (∀ K : Int32 → zv_St → Prop, (∀ σ2, zp_Inv σ2 → K r σ2) → B_X11_open K a σ1) → R r σ1) : B_X10_open R a σ := by
  have h1 := h
  obtain ⟨n, E, hw, hN, hM, hLW, hLR, hLC, hKW, hKR, hKC, hBC, hFI, hIT, hAS⟩ := h1
  obtain ⟨hn, hw⟩ := hw
  rcases zp_nodeq a hn with ⟨k, hk, rfl⟩ | h0
  · refine zp_has_t hN.1 hn hk (zp_nt (by decide) ?_)
    refine zp_start (fun i hi => ?_) (fun i hi hall h0 => ?_) (fun hall => ?_)
    · rcases hIT i hi with q | q
      · exact Or.inl q.1
      · exact Or.inr q.1
    · refine hR _ _ (fun K hK => ?_)
      have hc : zp_ch [35, 36, 37, 38] σ (zp_st35 σ i (nI k)) := (((zp_ch.wi (by decide)).tr (zp_ch.wi (by decide))).tr (zp_ch.wi (by decide))).tr (zp_ch.wi (by decide))
      refine zp_isNode_t (by rw [(hc 45 (by decide)).1]; exact hM.1) hn hk (zp_nt (by decide) ?_)
      have e57 : (zp_st35 σ i (nI k)).1 57 = σ.1 57 := (hc 57 (by decide)).1
      refine zp_startR i (by omega) (fun j hj => ?_) (fun _ => ?_) (zp_nt (fun q => ?_) ?_)
      · rw [e57]
        rcases hIT j (by omega) with q | ⟨q1, k2, q2, q3, q4⟩
        · exact absurd (q.1.symm.trans (hall j hj)) (by decide)
        · rw [q3]; exact zp_neg1 (by omega)
      · rw [e57]
        rcases hIT i hi with q | q
        · exact q.2
        · exact absurd (h0.symm.trans q.1) (by decide)
      · exact absurd (zp_ninj (b := 8) (by omega) (by decide) q) (by omega)
      · refine ⟨vp_in_nI (by omega) (by decide), ?_⟩
        rw [nI_clamp (by omega)]
        rintro σ1 rfl
        refine ⟨vp_in_nI (by omega) (by decide), ?_⟩
        rintro σ2 rfl
        refine ⟨vp_in_nI (by omega) (by decide), ?_⟩
        rintro σ3 rfl
        refine ⟨vp_in_nI (by omega) (by decide), ?_⟩
        rintro σ4 rfl
        refine hK _ ?_
        have hc2 : zp_ch [35, 36, 37, 38, 57, 58, 59, 60] σ (zp_st57 (zp_st35 σ i (nI k)) i (nI k)) := (hc.mono (by decide)).tr ((((zp_ch.wi (by decide)).tr (zp_ch.wi (by decide))).tr (zp_ch.wi (by decide))).tr (zp_ch.wi (by decide)))
        have e45 := (hc2 45 (by decide))
        refine ⟨n, E, ⟨hn, hw⟩, hN.ch hc2 (by decide), hM.ch hc2 (by decide) (congrFun e45.1 2), hLW, hLR.ch hc2 (by decide), hLC.ch hc2 (by decide), hKW, hKR.ch hc2 (by decide), hKC.ch hc2 (by decide), hBC.ch hc2 (by decide), hFI.ch hc2 (by decide) (congrFun e45.1 30) (congrFun e45.2 27), ?_, hAS.ch hc2 (by decide) (congrFun e45.1 10)⟩
        intro j hj
        by_cases hji : j = i
        · subst hji
          refine Or.inr ⟨by simp [zp_st35, zp_ri], k, hk, by simp [zp_st35, zp_ri], by simp [zp_st35, zp_ri], by simp [zp_st35, zp_ri], Or.inr ⟨by simp [zp_st35, zp_ri]; rfl, by simp [zp_st35, zp_ri], Or.inl (by simp [zp_st35, zp_ri])⟩⟩
        · have := hIT j hj
          simpa [zp_st35, zp_ri, hji] using this
    · refine hR _ _ (fun K hK => ?_)
      refine zp_isNode_t hM.1 hn hk (zp_nt (by decide) ?_)
      refine zp_startR 8 (by decide) (fun j hj => ?_) (fun q => absurd q (by decide)) (zp_nf rfl (hK σ h))
      rcases hIT j (by omega) with q | ⟨q1, k2, q2, q3, q4⟩
      · exact absurd (q.1.symm.trans (hall j hj)) (by decide)
      · rw [q3]; exact zp_neg1 (by omega)
  · refine zp_has_f hN.1 h0 (zp_nf rfl (hR _ σ (fun K hK => ?_)))
    exact zp_isNode_f hM.1 hn h0 (zp_nf rfl (hK σ h))
theorem zp_step_close (h : zp_Inv σ) (a : Int32) (R : Int32 → zv_St → Prop) (hR : ∀ r σ1, (∀ K : Int32 → zv_St → Prop, (∀ σ2, zp_Inv σ2 → K r σ2) → B_X11_close K a σ1) → R r σ1) : B_X10_close R a σ := by
  have h1 := h
  obtain ⟨n, E, hw, hN, hM, hLW, hLR, hLC, hKW, hKR, hKC, hBC, hFI, hIT, hAS⟩ := h1
  rcases zp_rng a (m := 7) (by decide) with ⟨i, hi, rfl⟩ | h0
  · rcases hIT i (by omega) with q | ⟨q1, k, q2, q3, q4, q5, q6⟩
    · refine zp_within_t (m := 7) rfl hi (by decide) (zp_f (by decide) ⟨vp_in_nI (by omega) (by decide), ?_⟩)
      rw [nI_clamp (by omega)]
      refine zp_t q.1 ⟨rfl, zp_nf rfl (hR _ σ (fun K hK => ?_))⟩
      refine zp_in_t (m := 7) rfl hi (by decide) (zp_f (by decide) ⟨vp_in_nI (by omega) (by decide), ?_⟩)
      rw [nI_clamp (by omega)]
      exact zp_t q.2 ⟨rfl, zp_nf rfl (hK σ h)⟩
    · refine zp_within_t (m := 7) rfl hi (by decide) (zp_f (by decide) ⟨vp_in_nI (by omega) (by decide), ?_⟩)
      rw [nI_clamp (by omega)]
      refine zp_f (by rw [q1]; decide) ⟨rfl, zp_nt (by decide) ⟨vp_in_nI (by omega) (by decide), ?_⟩⟩
      rw [nI_clamp (by omega)]
      rintro σ1 rfl
      refine ⟨vp_in_nI (by omega) (by decide), ?_⟩
      rw [zp_rn _ _ _ _ (by decide)]
      refine hR _ _ (fun K hK => ?_)
      refine zp_in_t (m := 7) rfl hi (by decide) (zp_f (by decide) ⟨vp_in_nI (by omega) (by decide), ?_⟩)
      rw [nI_clamp (by omega), zp_rn _ _ _ _ (by decide)]
      refine zp_f (by rw [q3]; exact zp_neg1 (by have := hw.1; omega)) ⟨rfl, zp_nt (by decide) ⟨vp_in_nI (by omega) (by decide), ?_⟩⟩
      rintro σ2 rfl
      refine ⟨vp_in_nI (by omega) (by decide), ?_⟩
      rw [zp_rn _ _ _ _ (by decide), zp_rn _ _ _ _ (by decide), ← q5]
      refine hK _ ?_
      have hc2 : zp_ch [35, 57] σ (zv_wi (zv_wi σ 35 i (vp_nar .boolean 0)) 57 i (-1)) := (zp_ch.wi (by decide)).tr (zp_ch.wi (by decide))
      have e45 := (hc2 45 (by decide))
      refine ⟨n, E, hw, hN.ch hc2 (by decide), hM.ch hc2 (by decide) (congrFun e45.1 2), hLW, hLR.ch hc2 (by decide), hLC.ch hc2 (by decide), hKW, hKR.ch hc2 (by decide), hKC.ch hc2 (by decide), hBC.ch hc2 (by decide), hFI.ch hc2 (by decide) (congrFun e45.1 30) (congrFun e45.2 27), ?_, hAS.ch hc2 (by decide) (congrFun e45.1 10)⟩
      intro j hj
      by_cases hji : j = i
      · subst hji
        exact Or.inl ⟨by simp [zp_ri]; rfl, by simp [zp_ri]⟩
      · have := hIT j hj
        simpa [zp_ri, hji] using this
  · refine zp_within_f (m := 7) rfl h0 (zp_t rfl ⟨rfl, zp_nf rfl (hR _ σ (fun K hK => ?_))⟩)
    exact zp_in_f (m := 7) rfl h0 (zp_t rfl ⟨rfl, zp_nf rfl (hK σ h)⟩)
end OPS2
