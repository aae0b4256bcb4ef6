def zp_touchE (E : zp_E) (b : Nat → Bool) : zp_E := (E.1, E.2.1, E.2.2.1, fun k => if zp_tch E.1 b k = true then none else E.2.2.2 k)
theorem zp_step_part {σ : zv_St} (h : zp_Inv σ) (a b c : Int32) (R : Int32 → zv_St → Prop) (hR : ∀ r σ1, (∀ K : Int32 → zv_St → Prop, (∀ σ2, zp_Inv σ2 → K r σ2) → B_X11_part K a b c σ1) → R r σ1) : B_X10_part R a b c σ := by
  have h1 := h
  obtain ⟨n, E, hw, hN, hM, hLW, hLR, hLC, hKW, hKR, hKC, hBC, hFI, hIT, hAS⟩ := h1
  have hn := hw.1
  rcases zp_nodeq a hn with ⟨k, hk, rfl⟩ | h0
  · obtain ⟨f1, f2, f3, f4, f5⟩ := hN.2 k hk
    obtain ⟨g1, g2, g3, g4, g5⟩ := hM.2 k hk
    have hwk := hw.2 k hk
    have hkd7 : zp_kd E.1 k ≤ 7 := hwk.1
    have hm8 : zp_mn E.1 k ≤ 8 := hwk.2.1
    refine zp_has_t hN.1 hn hk (zp_f (by decide) ⟨vp_in_nI (by omega) (by decide), ?_⟩)
    rw [nI_clamp (by omega), f1]
    -- the reference, once it is known which kind
    have refB : zp_kd E.1 k ≠ 2 → zp_kd E.1 k ≠ 3 → ∀ K : Int32 → zv_St → Prop, (∀ σ2, zp_Inv σ2 → K (-2) σ2) → B_X11_part K (nI k) b c σ := by
      intro q2 q3 K hK
      refine zp_isNode_t hM.1 hn hk (zp_f (by decide) ⟨vp_in_nI (by omega) (by decide), ?_⟩)
      rw [nI_clamp (by omega), g1]
      refine zp_f (fun e => q2 (zp_ninj (b := 2) (by omega) (by decide) e)) ⟨vp_in_nI (by omega) (by decide), zp_nt (fun e => q3 (zp_ninj (b := 3) (by omega) (by decide) e)) (hK σ h)⟩
    -- the reference, kind 2 or 3: the rest
    have refG : ∀ lo : Int32, (zp_kd E.1 k = 2 ∧ lo = 0) ∨ (zp_kd E.1 k = 3 ∧ lo = 3) → ∀ (σ1 : zv_St), σ1.1 45 2 = nI n → (∀ j, σ1.1 48 j = σ.1 48 j) → ∀ K : Int32 → zv_St → Prop, B_X11_part_44 K (nI k) b c b lo σ1 → B_X11_part K (nI k) b c σ1 := by
      intro lo hlo σ1 e1 e2 K hK
      refine zp_isNode_t e1 hn hk (zp_f (by decide) ⟨vp_in_nI (by omega) (by decide), ?_⟩)
      rw [nI_clamp (by omega), e2, g1]
      rcases hlo with ⟨q, rfl⟩ | ⟨q, rfl⟩
      · rw [q]
        refine zp_t rfl ⟨vp_in_nI (by omega) (by decide), ?_⟩
        rw [nI_clamp (by omega), e2, g1, q]
        exact zp_nt (by decide) hK
      · rw [q]
        refine zp_f (by decide) ⟨vp_in_nI (by omega) (by decide), zp_nf rfl ⟨vp_in_nI (by omega) (by decide), ?_⟩⟩
        rw [nI_clamp (by omega), e2, g1, q]
        exact zp_nf rfl hK
    -- the component, with a good role: the rest
    have clG : ∀ (lo : Int32) (r : Nat), (zp_kd E.1 k = 2 ∧ lo = 0) ∨ (zp_kd E.1 k = 3 ∧ lo = 3) → b = nI r → r ≤ 3 → (zp_kd E.1 k = 3 → r = 3) → (c < 0 → B_X10_part_35 R σ) ∧ (¬ c < 0 → ((c < nI k → (B_X5_add (fun r_8 σ_7 => (¬ r_8 = 0 → (B_X9_dropThoseAbove (fun σ_9 => B_X0_forgetFrom (fun σ_10 => B_X5_size (fun r_12 σ_11 => R r_12 σ_11) (nI k) σ_10) (nI k) σ_9) (nI k) σ_7)) ∧ (r_8 = 0 → (R (-3) σ_7))) (nI k) b c σ)) ∧ (¬ c < nI k → (B_X10_part_35 R σ)))) := by
      intro lo r hlo hb hr hr3
      subst hb
      have rin : ∀ (σ1 : zv_St) (K : Int32 → zv_St → Prop) (q : (0 : Int32) = 0 → K 0 σ1) , True := fun _ _ _ => trivial
      have inR : ∀ {Q : Int32 → zv_St → Prop} {σ1 : zv_St}, Q 1 σ1 → B_X11_in Q (nI r) lo 3 σ1 := by
        intro Q σ1 q
        rcases hlo with ⟨q1, rfl⟩ | ⟨q1, rfl⟩
        · exact zp_in_t (m := 3) rfl hr (by decide) q
        · rw [hr3 q1]
          exact zp_f (by decide) (zp_f (by decide) ⟨rfl, q⟩)
      have bad : (c < 0 ∨ nI k ≤ c) → R (-2) σ := fun hc => hR _ σ (fun K hK => by
        refine refG lo hlo σ hM.1 (fun _ => rfl) K (inR (zp_f (by decide) ?_))
        exact zp_inm_f (by omega) hc (zp_nf rfl (hK σ h)))
      rcases zp_below c (m := k) (by omega) with ⟨p, hp, rfl⟩ | hc
      · refine zp_f (zp_nneg (by omega)) (zp_t (nI_lt hp (by omega)) ⟨vp_in_nI (by omega) (by decide), ?_⟩)
        rw [nI_clamp (by omega), f4]
        by_cases hm2 : zp_mn E.1 k < 8
        · refine zp_t (nI_lt (b := 8) hm2 (by decide)) ⟨vp_in_nI (by omega) (by decide), ?_⟩
          rw [zp_m8, nI_add]
          rintro v rfl
          refine ⟨vp_in_nI (by omega) (by decide), ?_⟩
          rw [nI_clamp (by omega)]
          rintro σ1 rfl
          refine ⟨vp_in_nI (by omega) (by decide), ?_⟩
          rintro σ2 rfl
          refine ⟨vp_in_nI (by omega) (by decide), vp_in_nI (by omega) (by decide), ?_⟩
          rw [zp_rn _ _ _ _ (by decide), zp_rn _ _ _ _ (by decide), f4, nI_1]
          rintro σ3 rfl
          refine zp_nt (by decide) ?_
          have hN1 := zp_NC_addP (r := r) (p := p) hk hw hm2 hN
          have hw1 : zp_wf n (zp_addP E.1 k r p) := zp_addP_wf hk hw hm2 hp hr (by
            rcases hlo with ⟨q1, -⟩ | ⟨q1, -⟩
            · exact Or.inl q1
            · exact Or.inr ⟨q1, hr3 q1⟩)
          have ha : zp_ch [10, 11, 12] σ (zv_wi (zv_wi (zv_wi σ 11 (k * 8 + zp_mn E.1 k) (nI r)) 12 (k * 8 + zp_mn E.1 k) (nI p)) 10 k (nI (zp_mn E.1 k + 1))) := ((zp_ch.wi (by decide)).tr (zp_ch.wi (by decide))).tr (zp_ch.wi (by decide))
          generalize hσa : zv_wi (zv_wi (zv_wi σ 11 (k * 8 + zp_mn E.1 k) (nI r)) 12 (k * 8 + zp_mn E.1 k) (nI p)) 10 k (nI (zp_mn E.1 k + 1)) = σa at ha hN1 ⊢
          have ha2 : σa.2 = σ.2 := by rw [← hσa]; rfl
          have hKCa : zp_KC σa n E.2.2.2 := hKC.ch ha (by decide)
          refine zp_dropAbove hn (by omega) hw1.2 hN1 (zp_KC_b hKCa) (fun σb hd => ?_)
          obtain ⟨r0, hr0, er0, hbnd⟩ := hBC
          have e19 : σb.1 19 8 = nI r0 := by rw [(hd.1 19 (by decide)).1, (ha 19 (by decide)).1]; exact er0
          refine zp_forgetFrom e19 (by omega) (by omega) ⟨vp_in_nI (by omega) (by decide), ?_⟩
          rw [nI_clamp (by omega)]
          have hNc : zp_NC (zv_wi σb 19 8 (nI (min r0 k))) n (zp_addP E.1 k r p) := (hN1.ch hd.1 (by decide)).ch (zs := [19]) (zp_ch.wi (by decide)) (by decide)
          have e10 : (zv_wi σb 19 8 (nI (min r0 k))).1 10 k = nI (zp_mn E.1 k + 1) := by
            rw [(hNc.2 k hk).2.2.2.1]
            exact congrArg nI (by simp [zp_addP])
          rw [e10]
          have hc1 : zp_ch [10, 11, 12, 16, 18, 19] σ (zv_wi σb 19 8 (nI (min r0 k))) := ((ha.mono (by decide)).tr (hd.1.mono (by decide))).tr (zp_ch.wi (by decide))
          have hc2 : (zv_wi σb 19 8 (nI (min r0 k))).2 = σ.2 := hd.2.1.trans ha2
          have hKCc : zp_KC (zv_wi σb 19 8 (nI (min r0 k))) n (fun j => if zp_tch (zp_addP E.1 k r p) (fun j => decide (j = k)) j = true then none else E.2.2.2 j) := (zp_KC_touch hKCa hd).ch (zs := [19]) (zp_ch.wi (by decide)) (by decide)
          have e19c : (zv_wi σb 19 8 (nI (min r0 k))).1 19 8 = nI (min r0 k) := zp_rs _ _ _ _
          generalize zv_wi σb 19 8 (nI (min r0 k)) = σc at hNc hc1 hc2 hKCc e19c ⊢
          refine hR _ σc (fun K hK => ?_)
          have hMc : zp_NR σc n E.1 := hM.ch hc1 (by decide) (by rw [(hc1 45 (by decide)).1])
          refine refG lo hlo σc hMc.1 (fun j => by rw [(hc1 48 (by decide)).1]) K (inR (zp_f (by decide) ?_))
          refine zp_inm_t hp (by omega) (zp_nt (by decide) ⟨vp_in_nI (by omega) (by decide), ?_⟩)
          have g4c : σc.1 51 k = nI (zp_mn E.1 k) := (hMc.2 k hk).2.2.2.1
          rw [nI_clamp (by omega), g4c]
          refine zp_nt (fun e => absurd (zp_ninj (b := 8) (by omega) (by decide) e) (by omega)) ⟨vp_in_nI (by omega) (by decide), ?_⟩
          rw [zp_8m, nI_add]
          refine ⟨vp_in_nI (by omega) (by decide), ?_⟩
          rw [nI_clamp (by omega)]
          rintro σ5 rfl
          rw [zp_rn _ _ _ _ (by decide), g4c, nI_add]
          refine ⟨vp_in_nI (by omega) (by decide), vp_in_nI (by omega) (by decide), ?_⟩
          rw [nI_clamp (by omega)]
          rintro σ6 rfl
          rw [zp_rn _ _ _ _ (by decide), zp_rn _ _ _ _ (by decide), g4c, nI_1]
          refine ⟨vp_in_nI (by omega) (by decide), vp_in_nI (by omega) (by decide), ?_⟩
          rintro σ7 rfl
          have hM1 := zp_NR_addP (r := r) (p := p) hk hw hm2 hMc
          have hd1 : zp_ch [51, 52, 53] σc (zv_wi (zv_wi (zv_wi σc 52 (k * 8 + zp_mn E.1 k) (nI r)) 53 (k * 8 + zp_mn E.1 k) (nI p)) 51 k (nI (zp_mn E.1 k + 1))) := ((zp_ch.wi (by decide)).tr (zp_ch.wi (by decide))).tr (zp_ch.wi (by decide))
          have hd2 : (zv_wi (zv_wi (zv_wi σc 52 (k * 8 + zp_mn E.1 k) (nI r)) 53 (k * 8 + zp_mn E.1 k) (nI p)) 51 k (nI (zp_mn E.1 k + 1))).2 = σ.2 := hc2
          generalize zv_wi (zv_wi (zv_wi σc 52 (k * 8 + zp_mn E.1 k) (nI r)) 53 (k * 8 + zp_mn E.1 k) (nI p)) 51 k (nI (zp_mn E.1 k + 1)) = σd at hM1 hd1 hd2 ⊢
          refine zp_partLoopR hn hk hw1.2 hM1 (fun σe σf k1 k2 hf => ?_)
          have hMf : zp_NR σf n (zp_addP E.1 k r p) := (hM1.ch k1 (by decide) (by rw [(k1 45 (by decide)).1])).ch hf.1 (by decide) (by rw [(hf.1 45 (by decide)).1])
          have e51 : σf.1 51 k = nI (zp_mn E.1 k + 1) := by
            rw [(hMf.2 k hk).2.2.2.1]
            exact congrArg nI (by simp [zp_addP])
          rw [e51]
          have hcd : zp_ch [51, 52, 53, 55, 61] σc σf := ((hd1.mono (by decide)).tr (k1.mono (by decide))).tr (hf.1.mono (by decide))
          have hall : zp_ch [10, 11, 12, 16, 18, 19, 51, 52, 53, 55, 61] σ σf := (hc1.mono (by decide)).tr (hcd.mono (by decide))
          have hf2 : σf.2 = σ.2 := (hf.2.1.trans k2).trans hd2
          have hKRe : zp_KR σe n E.2.2.2 := ((hKR.ch hc1 (by decide)).ch hd1 (by decide)).ch k1 (by decide)
          have kind23 : zp_kd E.1 k = 2 ∨ zp_kd E.1 k = 3 := by
            rcases hlo with ⟨q1, -⟩ | ⟨q1, -⟩
            · exact Or.inl q1
            · exact Or.inr q1
          have hKnone : E.2.2.2 k = none := by
            cases hq : E.2.2.2 k with
            | none => rfl
            | some q =>
              have := hKW k hk (by rw [hq]; exact fun e => by cases e)
              omega
          have hKRf := zp_KR_touch (b := fun j => decide (j = k)) (it := fun j => decide (j = k)) hw1.2 hKRe (fun j hj e => by rw [show j = k by simpa using e]; exact hKnone) (fun j hj e => e) hf
          refine hK σf ⟨n, (zp_addP E.1 k r p, E.2.1, E.2.2.1, fun j => if zp_tch (zp_addP E.1 k r p) (fun j => decide (j = k)) j = true then none else E.2.2.2 j), hw1, hNc.ch hcd (by decide), hMf, hLW, hLR.ch hall (by decide), hLC.ch hall (by decide), ?_, hKRf, hKCc.ch hcd (by decide), ?_, hFI.ch hall (by decide) (by rw [(hall 45 (by decide)).1]) (by rw [hf2]), hIT.ch hall (by decide), hAS.ch hall (by decide) (by rw [(hall 45 (by decide)).1])⟩
          · intro j hj hne
            have h2 : E.2.2.2 j ≠ none := by
              intro e
              apply hne
              show (if zp_tch (zp_addP E.1 k r p) (fun j => decide (j = k)) j = true then none else E.2.2.2 j) = none
              rw [e]; split <;> rfl
            exact hKW j hj h2
          · have hsame : zp_sameE k E (zp_addP E.1 k r p, E.2.1, E.2.2.1, fun j => if zp_tch (zp_addP E.1 k r p) (fun j => decide (j = k)) j = true then none else E.2.2.2 j) := by
              refine ⟨fun j hj => ⟨zp_addP_same (by omega) (hw.2 j (by omega)).2.1 hm2, ?_⟩, fun _ _ => rfl, fun _ => rfl⟩
              show (if zp_tch (zp_addP E.1 k r p) (fun j => decide (j = k)) j = true then none else E.2.2.2 j) = E.2.2.2 j
              rw [zp_tch_low (c := k) (fun i hi => hw1.2 i (by omega)) (fun i hi => by simp; omega) (j + 1) j (by omega) hj]
              rfl
            have hBk : zp_BC σ k E ∨ True := Or.inr trivial
            have hB2 : zp_BC σc k E := ⟨min r0 k, by omega, e19c, fun j hj => by
              obtain ⟨b1, b2, b3⟩ := hbnd j (by omega)
              rw [(hc1 24 (by decide)).1, (hc1 25 (by decide)).1, hc2]
              exact ⟨b1, b2, b3⟩⟩
            have hB3 := hB2.same (fun j hj => hw.2 j (by omega)) hsame (n' := n) (by omega)
            exact hB3.ch hcd (by decide)
        · have hm3 : zp_mn E.1 k = 8 := by omega
          refine zp_f (fun e => absurd e (nI_nlt (b := 8) (by omega) (by omega))) (zp_nf rfl (hR _ σ (fun K hK => ?_)))
          refine refG lo hlo σ hM.1 (fun _ => rfl) K (inR (zp_f (by decide) ?_))
          refine zp_inm_t hp (by omega) (zp_nt (by decide) ⟨vp_in_nI (by omega) (by decide), ?_⟩)
          rw [nI_clamp (by omega), g4, hm3]
          exact zp_nf rfl (hK σ h)
      · refine zp_by (fun _ => bad hc) (fun hc0 => ?_)
        rcases hc with hc | hc
        · exact absurd hc hc0
        · refine zp_f (fun q => ?_) (bad (Or.inr hc))
          rw [Int32.lt_iff_toInt_lt] at q
          rw [Int32.le_iff_toInt_le] at hc
          omega
    -- the component's look at kind and role
    by_cases hk2 : zp_kd E.1 k = 2
    · rw [hk2]
      refine zp_nf rfl ?_
      rcases zp_rng b (m := 3) (by decide) with ⟨r, hr, rfl⟩ | hb
      · exact zp_within_t (m := 3) rfl hr (by decide) (zp_nt (by decide) ⟨rfl, zp_f (by decide) (clG 0 r (Or.inl ⟨hk2, rfl⟩) rfl hr (fun e => by omega))⟩)
      · refine zp_within_f (m := 3) rfl hb (zp_nf rfl (zp_nt (by decide) ⟨rfl, zp_t rfl (hR _ σ (fun K hK => ?_))⟩))
        refine refG 0 (Or.inl ⟨hk2, rfl⟩) σ hM.1 (fun _ => rfl) K ?_
        exact zp_in_f (m := 3) rfl hb (zp_t rfl (hK σ h))
    · refine zp_nt (fun e => hk2 (zp_ninj (b := 2) (by omega) (by decide) e)) ?_
      by_cases hk3 : zp_kd E.1 k = 3
      · rw [hk3]
        refine zp_nf rfl ?_
        by_cases hb3 : b = 3
        · subst hb3
          exact zp_nf rfl ⟨rfl, zp_f (by decide) (clG 3 3 (Or.inr ⟨hk3, rfl⟩) rfl (by decide) (fun _ => rfl))⟩
        · refine zp_nt hb3 ⟨rfl, zp_t rfl (hR _ σ (fun K hK => ?_))⟩
          refine refG 3 (Or.inr ⟨hk3, rfl⟩) σ hM.1 (fun _ => rfl) K ?_
          refine zp_by (fun _ => ⟨rfl, zp_t rfl (hK σ h)⟩) (fun q => ?_)
          refine zp_by (fun _ => ⟨rfl, zp_t rfl (hK σ h)⟩) (fun q2 => ?_)
          exfalso
          apply hb3
          apply Int32.toInt_inj.mp
          rw [Int32.lt_iff_toInt_lt] at q q2
          omega
      · exact zp_nt (fun e => hk3 (zp_ninj (b := 3) (by omega) (by decide) e)) ⟨rfl, zp_t rfl (hR _ σ (fun K hK => refB hk2 hk3 K hK))⟩
  · refine zp_has_f hN.1 h0 (zp_t rfl (hR _ σ (fun K hK => ?_)))
    exact zp_isNode_f hM.1 hn h0 (zp_t rfl (hK σ h))
