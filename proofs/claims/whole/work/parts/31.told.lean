/-! told, may, sure. -/
theorem zp_J.prep {σ σ' : zv_St} {n : Nat} {E : zp_E} (h : zp_J σ n E) (hc : zp_ch [19, 21, 23, 24, 25, 26] σ σ') (hB : zp_BC σ' n E) : zp_J σ' n E := by
  obtain ⟨hw, hN, hM, hLW, hLR, hLC, hKW, hKR, hKC, hBC, hFI, hIT, hAS⟩ := h
  have e45 := hc 45 (by decide)
  exact ⟨hw, hN.ch hc (by decide), hM.ch hc (by decide) (congrFun e45.1 2), hLW, hLR.ch hc (by decide), hLC.ch hc (by decide), hKW, hKR.ch hc (by decide), hKC.ch hc (by decide), hB, hFI.ch hc (by decide) (congrFun e45.1 30) (congrFun e45.2 27), hIT.ch hc (by decide), hAS.ch hc (by decide) (congrFun e45.1 10)⟩
/-- cells that mean nothing between calls -/
theorem zp_J.idle {σ σ' : zv_St} {n : Nat} {E : zp_E} (h : zp_J σ n E) (hc : zp_ch [18, 26, 28, 29, 30, 40, 41, 42, 43, 44, 45, 61, 62, 63, 64, 65, 66, 67, 68, 69, 72, 73, 74, 75] σ σ') (h2 : σ'.1 45 2 = σ.1 45 2) (h10 : σ'.1 45 10 = σ.1 45 10) (h30 : σ'.1 45 30 = σ.1 45 30) (h27 : σ'.2 45 27 = σ.2 45 27) : zp_J σ' n E := by
  obtain ⟨hw, hN, hM, hLW, hLR, hLC, hKW, hKR, hKC, hBC, hFI, hIT, hAS⟩ := h
  exact ⟨hw, hN.ch hc (by decide), hM.ch hc (by decide) h2, hLW, hLR.ch hc (by decide), hLC.ch hc (by decide), hKW, hKR.ch hc (by decide), hKC.ch hc (by decide), hBC.ch hc (by decide), hFI.ch hc (by decide) h30 h27, hIT.ch hc (by decide), hAS.ch hc (by decide) h10⟩
section OPS31
variable {σ : zv_St}
theorem zp_step_told (h : zp_Inv σ) (a b : Int32) (R : Int32 → zv_St → Prop) (hR : ∀ r σ1, (∀ K : Int32 → zv_St → Prop, (∀ σ2, zp_Inv σ2 → K r σ2) → B_X11_told K a b σ1) → R r σ1) : B_X10_told R a b σ := by
  have hInv := h
  obtain ⟨n, E, hJ⟩ := h
  have hJ' := hJ
  obtain ⟨hw, hN, hM, hLW, hLR, hLC, hKW, hKR, hKC, hBC, hFI, hIT, hAS⟩ := hJ'
  have hn := hw.1
  rcases zp_nodeq a hn with ⟨k, hk, rfl⟩ | h0
  · obtain ⟨f0, f1, f2, f3, f4⟩ := hN.2 k hk
    obtain ⟨g0, g1, g2, g3, g4⟩ := hM.2 k hk
    have hin : vp_in (nI k) 80 := vp_in_nI (by omega) (by decide)
    refine zp_has_t hN.1 hn hk (zp_nt (by decide) ?_)
    have go : ∀ (w : Nat) (σ1 : zv_St) (r : Int32), w ≤ 6 → zp_J σ1 n E → (∀ K : Int32 → zv_St → Prop, (∀ σ2, zp_Inv σ2 → K r σ2) → (¬ nI w = 4 → B_X11_told_30 K (nI k) (nI w) σ1) ∧ (nI w = 4 → B_X11_costs (fun σ_5 => B_X11_told_30 K (nI k) (nI w) σ_5) σ1)) → ∀ K : Int32 → zv_St → Prop, (∀ σ2, zp_Inv σ2 → K r σ2) → B_X11_told K (nI k) (nI w) σ1 := by
      intro w σ1 r hw6 hJ1 hq K hK
      obtain ⟨hw', hN', hM', -⟩ := hJ1
      refine zp_isNode_t hM'.1 hn hk (zp_f (by decide) ?_)
      exact zp_in_t (m := 6) rfl hw6 (by decide) (zp_nt (by decide) (hq K hK))
    refine ⟨fun e => ?_, fun e => ?_, fun e => ?_, fun e => ?_, fun e => ?_, fun e => ?_, fun e => ?_, fun e => ?_⟩
    · subst e
      refine zp_a_kind (by omega) f0 (hR _ σ (go 0 σ _ (by decide) hJ (fun K hK => zp_nt (by decide) (zp_nf rfl ⟨hin, ?_⟩))))
      rw [nI_clamp (by omega), g0]; exact hK σ hInv
    · subst e
      refine zp_a_first (by omega) f1 (hR _ σ (go 1 σ _ (by decide) hJ (fun K hK => zp_nt (by decide) (zp_nt (by decide) (zp_nf rfl ⟨hin, ?_⟩)))))
      rw [nI_clamp (by omega), g1]; exact hK σ hInv
    · subst e
      refine zp_a_second (by omega) f2 (hR _ σ (go 2 σ _ (by decide) hJ (fun K hK => zp_nt (by decide) (zp_nt (by decide) (zp_nt (by decide) (zp_nf rfl ⟨hin, ?_⟩))))))
      rw [nI_clamp (by omega), g2]; exact hK σ hInv
    · subst e
      refine zp_a_size (by omega) f3 (hR _ σ (go 3 σ _ (by decide) hJ (fun K hK => zp_nt (by decide) (zp_nt (by decide) (zp_nt (by decide) (zp_nt (by decide) (zp_nf rfl ⟨hin, ?_⟩)))))))
      rw [nI_clamp (by omega), g3]; exact hK σ hInv
    · subst e
      refine zp_prepare hJ.cs hBC hJ.rs.cl hk (fun σ1 c1 b1 d1 => ⟨hin, ?_⟩)
      have hJ1 := hJ.prep c1 b1
      rw [nI_clamp (by omega), (d1 k (Nat.le_refl _)).1]
      refine hR _ σ1 (go 4 σ1 _ (by decide) hJ1 (fun K hK => zp_nf rfl ?_))
      refine zp_costsR hJ1.rs (fun σ2 c2 d2 => zp_nt (by decide) (zp_nt (by decide) (zp_nt (by decide) (zp_nt (by decide) (zp_nf rfl ⟨hin, ?_⟩)))))
      rw [nI_clamp (by omega), d2 k hk]
      have e45 := c2 45 (by decide)
      exact hK σ2 ⟨n, E, hJ1.idle (c2.mono (by decide)) (congrFun e45.1 2) (congrFun e45.1 10) (congrFun e45.1 30) (congrFun e45.2 27)⟩
    · subst e
      refine ⟨hin, ?_⟩
      rw [nI_clamp (by omega)]
      refine hR _ σ (go 5 σ _ (by decide) hJ (fun K hK => zp_nt (by decide) (zp_nt (by decide) (zp_nt (by decide) (zp_nt (by decide) (zp_nt (by decide) (zp_nt (by decide) (zp_nf rfl ⟨hin, ?_⟩))))))))
      rw [nI_clamp (by omega), hAS.1 k hk]; exact hK σ hInv
    · subst e
      have k1 := hKC.1 k hk
      have k2 := hKR k hk
      cases hq : E.2.2.2 k with
      | none =>
        rw [hq] at k1 k2
        refine zp_a_isThere (b := false) (by omega) k1 (zp_t rfl ?_)
        refine hR _ σ (go 6 σ _ (by decide) hJ (fun K hK => zp_nt (by decide) (zp_nt (by decide) (zp_nt (by decide) (zp_nt (by decide) (zp_nt (by decide) (zp_nt (by decide) (zp_nt (by decide) (⟨hin, ?_⟩)))))))))
        rw [nI_clamp (by omega), k2]; exact hK σ hInv
      | some p =>
        rw [hq] at k1 k2
        refine zp_a_isThere (b := true) (by omega) k1.1 (zp_f (by decide) ?_)
        refine zp_a_ssize (by omega) k1.2.1 ?_
        refine hR _ σ (go 6 σ _ (by decide) hJ (fun K hK => zp_nt (by decide) (zp_nt (by decide) (zp_nt (by decide) (zp_nt (by decide) (zp_nt (by decide) (zp_nt (by decide) (zp_nt (by decide) (⟨hin, ?_⟩)))))))))
        rw [nI_clamp (by omega), k2.1]; exact hK σ hInv
    · refine hR _ σ (fun K hK => zp_isNode_t hM.1 hn hk (zp_f (by decide) ?_))
      refine zp_in_f (m := 6) rfl ?_ (zp_nf rfl (hK σ hInv))
      rcases zp_rng b (m := 6) (by decide) with ⟨j, hj, rfl⟩ | q
      · rw [nI_toInt (by omega)] at e
        omega
      · exact q
  · refine zp_has_f hN.1 h0 (zp_nf rfl (hR _ σ (fun K hK => ?_)))
    exact zp_isNode_f hM.1 hn h0 (zp_t rfl (hK σ hInv))
theorem zp_step_may (h : zp_Inv σ) (a b : Int32) (R : Int32 → zv_St → Prop) (hR : ∀ r σ1, (∀ K : Int32 → zv_St → Prop, (∀ σ2, zp_Inv σ2 → K r σ2) → B_X11_may K a b σ1) → R r σ1) : B_X10_may R a b σ := by
  have hInv := h
  obtain ⟨n, E, hJ⟩ := h
  have hJ' := hJ
  obtain ⟨hw, hN, hM, hLW, hLR, hLC, hKW, hKR, hKC, hBC, hFI, hIT, hAS⟩ := hJ'
  have hn := hw.1
  rcases zp_nodeq a hn with ⟨k, hk, rfl⟩ | h0
  · have hin : vp_in (nI k) 80 := vp_in_nI (by omega) (by decide)
    refine zp_has_t hN.1 hn hk (zp_f (by decide) ?_)
    rcases zp_rng b (m := 511) (by decide) with ⟨o, ho, rfl⟩ | hb
    · refine zp_isObject_t (by omega) (zp_nt (by decide) ?_)
      refine zp_prepare hJ.cs hBC hJ.rs.cl hk (fun σ1 c1 b1 d1 => ?_)
      have hJ1 := hJ.prep c1 b1
      have hM1 : zp_NR σ1 n E.1 := hJ1.2.2.1
      refine zp_has_20 (by omega) (by omega) ((d1 k (Nat.le_refl _)).2.1 o (by omega)).1 ⟨zp_bin _, zp_bin _, ?_⟩
      refine hR _ σ1 (fun K hK => zp_isNode_t hM1.1 hn hk (zp_f (by decide) (zp_isObjectR_t (by omega) (zp_nt (by decide) ?_))))
      refine zp_mayAllR hJ1.rs (by omega) hk (fun σ2 c2 d2 => ⟨hin, ?_⟩)
      rw [nI_clamp (by omega), (d2 k (Nat.le_refl _)).1]
      have e45 := c2 45 (by decide)
      exact ⟨zp_bin _, hK σ2 ⟨n, E, hJ1.idle (c2.mono (by decide)) (congrFun e45.1 2) (congrFun e45.1 10) (congrFun e45.1 30) (congrFun e45.2 27)⟩⟩
    · refine zp_isObject_f hb (zp_nf rfl (hR _ σ (fun K hK => ?_)))
      exact zp_isNode_t hM.1 hn hk (zp_f (by decide) (zp_isObjectR_f hb (zp_nf rfl (hK σ hInv))))
  · refine zp_has_f hN.1 h0 (zp_t rfl (hR _ σ (fun K hK => ?_)))
    exact zp_isNode_f hM.1 hn h0 (zp_t rfl (hK σ hInv))
theorem zp_step_sure (h : zp_Inv σ) (a b : Int32) (R : Int32 → zv_St → Prop) (hR : ∀ r σ1, (∀ K : Int32 → zv_St → Prop, (∀ σ2, zp_Inv σ2 → K r σ2) → B_X11_sure K a b σ1) → R r σ1) : B_X10_sure R a b σ := by
  have hInv := h
  obtain ⟨n, E, hJ⟩ := h
  have hJ' := hJ
  obtain ⟨hw, hN, hM, hLW, hLR, hLC, hKW, hKR, hKC, hBC, hFI, hIT, hAS⟩ := hJ'
  have hn := hw.1
  rcases zp_nodeq a hn with ⟨k, hk, rfl⟩ | h0
  · have hin : vp_in (nI k) 80 := vp_in_nI (by omega) (by decide)
    refine zp_has_t hN.1 hn hk (zp_f (by decide) ?_)
    rcases zp_rng b (m := 511) (by decide) with ⟨o, ho, rfl⟩ | hb
    · refine zp_isObject_t (by omega) (zp_nt (by decide) ?_)
      refine zp_prepare hJ.cs hBC hJ.rs.cl hk (fun σ1 c1 b1 d1 => ?_)
      have hJ1 := hJ.prep c1 b1
      have hM1 : zp_NR σ1 n E.1 := hJ1.2.2.1
      refine zp_has_22 (by omega) (by omega) ((d1 k (Nat.le_refl _)).2.1 o (by omega)).2 ⟨zp_bin _, zp_bin _, ?_⟩
      refine hR _ σ1 (fun K hK => zp_isNode_t hM1.1 hn hk (zp_f (by decide) (zp_isObjectR_t (by omega) (zp_nt (by decide) ?_))))
      refine zp_mayAllR hJ1.rs (by omega) hk (fun σ2 c2 d2 => ⟨hin, ?_⟩)
      rw [nI_clamp (by omega), (d2 k (Nat.le_refl _)).2]
      have e45 := c2 45 (by decide)
      exact ⟨zp_bin _, hK σ2 ⟨n, E, hJ1.idle (c2.mono (by decide)) (congrFun e45.1 2) (congrFun e45.1 10) (congrFun e45.1 30) (congrFun e45.2 27)⟩⟩
    · refine zp_isObject_f hb (zp_nf rfl (hR _ σ (fun K hK => ?_)))
      exact zp_isNode_t hM.1 hn hk (zp_f (by decide) (zp_isObjectR_f hb (zp_nf rfl (hK σ hInv))))
  · refine zp_has_f hN.1 h0 (zp_t rfl (hR _ σ (fun K hK => ?_)))
    exact zp_isNode_f hM.1 hn h0 (zp_t rfl (hK σ hInv))
end OPS31
