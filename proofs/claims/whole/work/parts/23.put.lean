section PU
variable {σ : zv_St} {n l : Nat} {E : zp_E}
theorem zp_lhc {Q : zv_St → Prop} {S : zp_S} {K : Nat → Option (Nat × (Nat → Bool))} (hn : n ≤ 80) (hl : l < 16) (hw : ∀ k, k < n → zp_wf1 S k) (hN : zp_NC σ n S) (hKC : zp_KC σ n K) {r : Nat} (hr : r ≤ n) (er : σ.1 19 8 = nI r)
    (q : ∀ σ', zp_ch [16, 18, 19] σ σ' → σ'.2 = σ.2 → σ'.1 19 8 = nI 0 → zp_KC σ' n (fun k => if zp_tch S (fun k => decide (zp_kd S k = 0 ∧ zp_fs S k = l)) k = true then none else K k) → Q σ') : B_X10_listHasChanged Q (nI l) σ := by
  refine zp_dropList hn hl hw hN (zp_KC_b hKC) (fun σ1 hd => ?_)
  have e19 : σ1.1 19 8 = nI r := by rw [(hd.1 19 (by decide)).1]; exact er
  refine zp_forgetFrom (c := 0) e19 (by omega) (by decide) ?_
  rw [show min r 0 = 0 by omega]
  exact q _ ((hd.1.mono (by decide)).tr (zp_ch.wi (by decide))) hd.2.1 (zp_rs _ _ _ _) ((zp_KC_touch hKC hd).ch (zs := [19]) (zp_ch.wi (by decide)) (by decide))
/-- both sides have changed a list: the invariant stands -/
theorem zp_J_list {σ1 σ2 σ3 σ4 σ5 : zv_St} {w' : Nat → Nat → Option Nat} {sz' : Nat → Nat} (hJ : zp_J σ n E) (c1 : zp_ch [2, 3, 4] σ σ1) (d1 : σ1.2 = σ.2) (hLC : zp_LC σ1 w' sz') (hLW : zp_LW w' sz')
    (c2 : zp_ch [16, 18, 19] σ1 σ2) (d2 : σ2.2 = σ1.2) (e19 : σ2.1 19 8 = nI 0) (hKC : zp_KC σ2 n (fun k => if zp_tch E.1 (fun k => decide (zp_kd E.1 k = 0 ∧ zp_fs E.1 k = l)) k = true then none else E.2.2.2 k))
    (c3 : zp_ch [46, 47] σ2 σ3) (d3 : σ3.2 = σ2.2) (hLR : zp_LR σ3 w' sz') (c4 : zp_ch [61] σ3 σ4) (d4 : σ4.2 = σ3.2) (hf : zp_fgS σ4 σ5 E.1 (zp_tch E.1 (fun k => decide (zp_kd E.1 k = 0 ∧ zp_fs E.1 k = l))) (fun _ => false) n) : zp_Inv σ5 := by
  obtain ⟨hw, hN, hM, -, -, -, hKW, hKR, -, -, hFI, hIT, hAS⟩ := hJ
  have c25 : zp_ch [46, 47, 55, 61] σ2 σ5 := ((c3.mono (by decide)).tr (c4.mono (by decide))).tr (hf.1.mono (by decide))
  have c05 : zp_ch [2, 3, 4, 16, 18, 19, 46, 47, 55, 61] σ σ5 := ((c1.mono (by decide)).tr (c2.mono (by decide))).tr (c25.mono (by decide))
  have c04 : zp_ch [2, 3, 4, 16, 18, 19, 46, 47, 61] σ σ4 := (((c1.mono (by decide)).tr (c2.mono (by decide))).tr (c3.mono (by decide))).tr (c4.mono (by decide))
  have d05 : σ5.2 = σ.2 := (((hf.2.1.trans d4).trans d3).trans d2).trans d1
  have e45 := (c05 45 (by decide)).1
  refine ⟨n, (E.1, w', sz', fun k => if zp_tch E.1 (fun k => decide (zp_kd E.1 k = 0 ∧ zp_fs E.1 k = l)) k = true then none else E.2.2.2 k), hw, hN.ch c05 (by decide), hM.ch c05 (by decide) (by rw [e45]), hLW, ?_, ?_, ?_, ?_, hKC.ch c25 (by decide), ⟨0, Nat.zero_le _, ?_, fun k hk => absurd hk (Nat.not_lt_zero _)⟩, hFI.ch c05 (by decide) (by rw [e45]) (by rw [d05]), hIT.ch c05 (by decide), hAS.ch c05 (by decide) (by rw [e45])⟩
  · exact (hLR.ch c4 (by decide)).ch hf.1 (by decide)
  · exact (hLC.ch c2 (by decide)).ch c25 (by decide)
  · intro j hj hne
    have h2 : E.2.2.2 j ≠ none := by
      intro e
      apply hne
      show (if _ then none else E.2.2.2 j) = none
      rw [e]; split <;> rfl
    exact hKW j hj h2
  · refine zp_KR_touch (b := fun k => decide (zp_kd E.1 k = 0 ∧ zp_fs E.1 k = l)) (it := fun _ => false) hw.2 (hKR.ch c04 (by decide)) (fun k hk e => ?_) (fun k hk e => by cases e) hf
    have e0 : zp_kd E.1 k = 0 := (of_decide_eq_true e).1
    cases hq : E.2.2.2 k with
    | none => rfl
    | some q =>
      have := hKW k hk (by rw [hq]; exact fun e => by cases e)
      omega
  · rw [(c25 19 (by decide)).1]
    exact e19
theorem zp_step_put (h : zp_Inv σ) (a b c : Int32) (R : Int32 → zv_St → Prop) (hR : ∀ r σ1, (∀ K : Int32 → zv_St → Prop, (∀ σ2, zp_Inv σ2 → K r σ2) → B_X11_put K a b c σ1) → R r σ1) : B_X10_put R a b c σ := by
  have h1 := h
  obtain ⟨n, E, hJ⟩ := h1
  have hJ' := hJ
  obtain ⟨hw, hN, hM, hLW, hLR, hLC, hKW, hKR, hKC, ⟨r0, hr0, er0, -⟩, hFI, hIT, hAS⟩ := hJ'
  have hn := hw.1
  rcases zp_rng a (m := 15) (by decide) with ⟨l, hl, rfl⟩ | ha
  · rcases zp_rng b (m := 511) (by decide) with ⟨o, ho, rfl⟩ | hb
    · rcases zp_rng c (m := 1000000) (by decide) with ⟨x, hx, rfl⟩ | hc
      · have h60 := (hLW l (by omega)).1
        refine zp_isList_t (by omega) (zp_f (by decide) (zp_isObject_t (by omega) (zp_f (by decide) (zp_within_t (m := 1000000) rfl hx (by decide) (zp_nt (by decide) ?_)))))
        -- the reference up to its writing
        have refG : ∀ (σ1 : zv_St) (K : Int32 → zv_St → Prop), ((vp_in ((512 * nI l) + nI o) 8192 ∧ (¬ (σ1.1 46 ((512 * nI l) + nI o).toNatClampNeg) = (-1) → (B_X11_put_64 K (nI l) (nI x) ((512 * nI l) + nI o) σ1)) ∧ ((σ1.1 46 ((512 * nI l) + nI o).toNatClampNeg) = (-1) → (vp_in (nI l) 16 ∧ (¬ (σ1.1 47 (nI l).toNatClampNeg) = 60 → (B_X11_put_64 K (nI l) (nI x) ((512 * nI l) + nI o) σ1)) ∧ ((σ1.1 47 (nI l).toNatClampNeg) = 60 → (K (-3) σ1)))))) → B_X11_put K (nI l) (nI o) (nI x) σ1 := fun σ1 K q => zp_in_t (m := 15) rfl hl (by decide) (zp_f (by decide) (zp_isObjectR_t (by omega) (zp_f (by decide) (zp_in_t (m := 1000000) rfl hx (by decide) (zp_nt (by decide) q)))))
        -- both sides to the end, once the component has stored
        have fin : ∀ (σ1 : zv_St) (m : Nat) (d : Int32), m ≤ 60 → (zp_ow (E.2.1 l o) = -1 → ¬ E.2.2.1 l = 60) → ((zp_ow (E.2.1 l o) = -1 ∧ d = 1 ∧ m = E.2.2.1 l + 1) ∨ (¬ zp_ow (E.2.1 l o) = -1 ∧ d = 0 ∧ m = E.2.2.1 l)) → zp_ch [2, 3, 4] σ σ1 → σ1.2 = σ.2 → σ1.1 4 l = nI m → zp_LC σ1 (zp_setW E.2.1 l o (some x)) (zp_setZ E.2.2.1 l m) → B_X10_listHasChanged (fun σ_9 => B_X3_size (fun r_11 σ_10 => R r_11 σ_10) (nI l) σ_9) (nI l) σ1 := by
          intro σ1 m d hm hnf hd c1 d1 e4 hLC1
          refine zp_lhc hn (by omega) hw.2 (hN.ch c1 (by decide)) (hKC.ch c1 (by decide)) hr0 (by rw [(c1 19 (by decide)).1]; exact er0) (fun σ2 c2 d2 e19 hKC2 => ⟨vp_in_nI (by omega) (by decide), ?_⟩)
          rw [nI_clamp (by omega), (c2 4 (by decide)).1, e4]
          refine hR _ σ2 (fun K hK => refG σ2 K ?_)
          have c02 : zp_ch [2, 3, 4, 16, 18, 19] σ σ2 := (c1.mono (by decide)).tr (c2.mono (by decide))
          have e46 : ∀ j, σ2.1 46 j = σ.1 46 j := fun j => by rw [(c02 46 (by decide)).1]
          have e47 : ∀ j, σ2.1 47 j = σ.1 47 j := fun j => by rw [(c02 47 (by decide)).1]
          rw [zp_512m, nI_add]
          refine ⟨vp_in_nI (by omega) (by decide), ?_⟩
          rw [nI_clamp (by omega), nI_clamp (by omega), e46, e47, (hLR l (by omega)).2 o (by omega), (hLR l (by omega)).1]
          have p64 : B_X11_put_64 K (nI l) (nI x) (nI (l * 512 + o)) σ2 := by
            refine ⟨vp_in_nI (by omega) (by decide), vp_in_nI (by omega) (by decide), ?_⟩
            rw [nI_clamp (by omega), nI_clamp (by omega), e46, e47, (hLR l (by omega)).2 o (by omega), (hLR l (by omega)).1]
            have p87 : ∀ dd : Int32, nI (E.2.2.1 l) + dd = nI m → B_X11_put_87 K (nI l) (nI x) (nI (l * 512 + o)) (nI l) (nI (E.2.2.1 l)) dd σ2 := by
              intro dd hdd
              refine ⟨vp_in_nI (by omega) (by decide), ?_⟩
              rw [nI_clamp (by omega), hdd]
              rintro σ3 rfl
              refine ⟨vp_in_nI (by omega) (by decide), ?_⟩
              rw [nI_clamp (by omega)]
              rintro σ4 rfl
              have c3 : zp_ch [46, 47] σ2 (zv_wi (zv_wi σ2 47 l (nI m)) 46 (l * 512 + o) (nI x)) := (zp_ch.wi (by decide)).tr (zp_ch.wi (by decide))
              have hLR3 : zp_LR (zv_wi (zv_wi σ2 47 l (nI m)) 46 (l * 512 + o) (nI x)) (zp_setW E.2.1 l o (some x)) (zp_setZ E.2.2.1 l m) := by
                refine zp_LR_set (hLR.ch c02 (by decide)) (by omega) (by omega) (fun j => ?_) (fun j => ?_)
                · simp [zp_ri]; rfl
                · simp [zp_ri]
              have e47b : (zv_wi (zv_wi σ2 47 l (nI m)) 46 (l * 512 + o) (nI x)).1 47 l = nI m := by simp [zp_ri]
              have d3 : (zv_wi (zv_wi σ2 47 l (nI m)) 46 (l * 512 + o) (nI x)).2 = σ2.2 := rfl
              generalize zv_wi (zv_wi σ2 47 l (nI m)) 46 (l * 512 + o) (nI x) = σ3 at c3 hLR3 e47b d3 ⊢
              have hM3 : zp_NR σ3 n E.1 := (hM.ch c02 (by decide) (by rw [(c02 45 (by decide)).1])).ch c3 (by decide) (by rw [(c3 45 (by decide)).1])
              refine zp_changeR hn (by omega) hw.2 hM3 (fun σ4 σ5 c4 d4 hf => ⟨vp_in_nI (by omega) (by decide), ?_⟩)
              rw [(hf.1 47 (by decide)).1, (c4 47 (by decide)).1, e47b]
              exact hK σ5 (zp_J_list hJ c1 d1 hLC1 (zp_LW_set hLW hm (fun y e => by cases e; exact hx)) c2 d2 e19 hKC2 c3 d3 hLR3 c4 d4 hf)
            rcases hd with ⟨q1, q2, q3⟩ | ⟨q1, q2, q3⟩
            · exact zp_nf q1 (p87 1 (by rw [nI_1, q3]))
            · exact zp_nt q1 (p87 0 (by rw [show (0 : Int32) = nI 0 from rfl, nI_add, q3]; rfl))
          by_cases hw1 : zp_ow (E.2.1 l o) = -1
          · refine zp_nf hw1 ⟨vp_in_nI (by omega) (by decide), zp_nt (fun e => hnf hw1 (zp_ninj (b := 60) (by omega) (by decide) e)) p64⟩
          · exact zp_nt hw1 p64
        refine zp_placeOf hLW hLC (by omega) (by omega) (fun i v hi e2 e3 hwv => ?_) (fun hwn hno => ?_)
        · -- there already
          refine zp_nt (zp_neg1 (by omega)) ⟨vp_in_nI (by omega) (by decide), ?_⟩
          rw [nI_clamp (by omega)]
          rintro σ1 rfl
          refine ⟨vp_in_nI (by omega) (by decide), ?_⟩
          rintro σ2 rfl
          refine zp_nt (by decide) ?_
          have hne : ¬ zp_ow (E.2.1 l o) = -1 := by
            rw [zp_ow_neg (fun y e => (hLW l (by omega)).2 o y e), hwv]
            exact fun e => by cases e
          have hz : zp_setZ E.2.2.1 l (E.2.2.1 l) = E.2.2.1 := by
            funext a; unfold zp_setZ; split
            · rename_i q; rw [q]
            · rfl
          refine fin _ (E.2.2.1 l) 0 h60 (fun q => absurd q hne) (Or.inr ⟨hne, rfl, rfl⟩) ((zp_ch.wi (by decide)).tr (zp_ch.wi (by decide))) rfl ?_ ?_
          · rw [zp_rn _ _ _ _ (by decide), zp_rn _ _ _ _ (by decide)]
            exact (hLC l (by omega)).1
          · rw [hz]
            exact zp_LC_again hLW hLC (by omega) (by omega) hi e2 hwv
        · refine zp_nf rfl ⟨vp_in_nI (by omega) (by decide), ?_⟩
          rw [nI_clamp (by omega), (hLC l (by omega)).1]
          by_cases hs : E.2.2.1 l < 60
          · refine zp_t (nI_lt (b := 60) hs (by decide)) ⟨vp_in_nI (by omega) (by decide), ?_⟩
            rw [zp_m60, nI_add]
            rintro v rfl
            refine ⟨vp_in_nI (by omega) (by decide), vp_in_nI (by omega) (by decide), ?_⟩
            rw [nI_1]
            rintro σ1 rfl
            refine ⟨vp_in_nI (by omega) (by decide), ?_⟩
            rw [nI_clamp (by omega)]
            rintro σ2 rfl
            refine ⟨vp_in_nI (by omega) (by decide), ?_⟩
            rintro σ3 rfl
            refine zp_nt (by decide) ?_
            refine fin _ (E.2.2.1 l + 1) 1 (by omega) (fun _ => by omega) (Or.inl ⟨by rw [hwn]; rfl, rfl, rfl⟩) (((zp_ch.wi (by decide)).tr (zp_ch.wi (by decide))).tr (zp_ch.wi (by decide))) rfl ?_ ?_
            · simp [zp_ri]
            · exact zp_LC_more hLW hLC (by omega) (by omega) hs hno hwn
          · refine zp_f (nI_nlt (b := 60) (by omega) (by omega)) (zp_nf rfl (hR _ σ (fun K hK => refG σ K ?_)))
            rw [zp_512m, nI_add]
            refine ⟨vp_in_nI (by omega) (by decide), ?_⟩
            rw [nI_clamp (by omega), nI_clamp (by omega), (hLR l (by omega)).2 o (by omega), (hLR l (by omega)).1, hwn, show E.2.2.1 l = 60 by omega]
            exact zp_nf rfl ⟨vp_in_nI (by omega) (by decide), zp_nf rfl (hK σ h)⟩
      · refine zp_isList_t (by omega) (zp_f (by decide) (zp_isObject_t (by omega) (zp_f (by decide) (zp_within_f (m := 1000000) rfl hc (zp_nf rfl (hR _ σ (fun K hK => ?_)))))))
        exact zp_in_t (m := 15) rfl hl (by decide) (zp_f (by decide) (zp_isObjectR_t (by omega) (zp_f (by decide) (zp_in_f (m := 1000000) rfl hc (zp_nf rfl (hK σ h))))))
    · refine zp_isList_t (by omega) (zp_f (by decide) (zp_isObject_f hb (zp_t rfl (hR _ σ (fun K hK => ?_)))))
      exact zp_in_t (m := 15) rfl hl (by decide) (zp_f (by decide) (zp_isObjectR_f hb (zp_t rfl (hK σ h))))
  · refine zp_isList_f ha (zp_t rfl (hR _ σ (fun K hK => ?_)))
    exact zp_in_f (m := 15) rfl ha (zp_t rfl (hK σ h))
theorem zp_step_take (h : zp_Inv σ) (a b : Int32) (R : Int32 → zv_St → Prop) (hR : ∀ r σ1, (∀ K : Int32 → zv_St → Prop, (∀ σ2, zp_Inv σ2 → K r σ2) → B_X11_take K a b σ1) → R r σ1) : B_X10_take R a b σ := by
  have h1 := h
  obtain ⟨n, E, hJ⟩ := h1
  have hJ' := hJ
  obtain ⟨hw, hN, hM, hLW, hLR, hLC, hKW, hKR, hKC, ⟨r0, hr0, er0, -⟩, hFI, hIT, hAS⟩ := hJ'
  have hn := hw.1
  rcases zp_rng a (m := 15) (by decide) with ⟨l, hl, rfl⟩ | ha
  · rcases zp_rng b (m := 511) (by decide) with ⟨o, ho, rfl⟩ | hb
    · have h60 := (hLW l (by omega)).1
      refine zp_isList_t (by omega) (zp_f (by decide) (zp_isObject_t (by omega) (zp_nt (by decide) ?_)))
      refine zp_placeOf hLW hLC (by omega) (by omega) (fun i v hi e2 e3 hwv => ?_) (fun hwn hno => ?_)
      · refine zp_nt (zp_neg1 (by omega)) ?_
        refine zp_placeOf hLW hLC (by omega) (by omega) (fun i' v' hi' e2' e3' hwv' => ?_) (fun hwn hno => absurd (hwn.symm.trans hwv) (by intro e; cases e))
        refine zp_nt (zp_neg1 (by omega)) ⟨vp_in_nI (by omega) (by decide), ?_⟩
        rw [nI_clamp (by omega), e3']
        refine zp_placeOf hLW hLC (by omega) (by omega) (fun i2 v2 hi2 f2 f3 hwv2 => ?_) (fun hwn hno => absurd (hwn.symm.trans hwv) (by intro e; cases e))
        refine zp_nt (zp_neg1 (by omega)) ⟨vp_in_nI (by omega) (by decide), vp_in_nI (by omega) (by decide), ?_⟩
        rw [nI_clamp (by omega), nI_clamp (by omega), (hLC l (by omega)).1, zp_n1 (by omega)]
        rintro σ1 rfl
        refine ⟨vp_in_nI (by omega) (by decide), ?_⟩
        rw [zp_rs, zp_m60, nI_add]
        rintro y rfl
        refine ⟨vp_in_nI (by omega) (by decide), vp_in_nI (by omega) (by decide), ?_⟩
        rw [nI_clamp (by omega), zp_rn _ _ _ _ (by decide)]
        rintro σ2 rfl
        refine ⟨vp_in_nI (by omega) (by decide), vp_in_nI (by omega) (by decide), ?_⟩
        rw [zp_rn _ _ _ _ (by decide), zp_rn _ _ _ _ (by decide)]
        rintro σ3 rfl
        have hLC1 := zp_LC_less hLW hLC (l := l) (o := o) (by omega) (by omega) hi2 f2 hwv2
        have c1 : zp_ch [2, 3, 4] σ (zv_wi (zv_wi (zv_wi σ 4 l (nI (E.2.2.1 l - 1))) 2 (l * 60 + i2) (σ.1 2 (l * 60 + (E.2.2.1 l - 1)))) 3 (l * 60 + i2) (σ.1 3 (l * 60 + (E.2.2.1 l - 1)))) := ((zp_ch.wi (by decide)).tr (zp_ch.wi (by decide))).tr (zp_ch.wi (by decide))
        have d1 : (zv_wi (zv_wi (zv_wi σ 4 l (nI (E.2.2.1 l - 1))) 2 (l * 60 + i2) (σ.1 2 (l * 60 + (E.2.2.1 l - 1)))) 3 (l * 60 + i2) (σ.1 3 (l * 60 + (E.2.2.1 l - 1)))).2 = σ.2 := rfl
        generalize zv_wi (zv_wi (zv_wi σ 4 l (nI (E.2.2.1 l - 1))) 2 (l * 60 + i2) (σ.1 2 (l * 60 + (E.2.2.1 l - 1)))) 3 (l * 60 + i2) (σ.1 3 (l * 60 + (E.2.2.1 l - 1))) = σ1 at hLC1 c1 d1 ⊢
        refine zp_lhc hn (by omega) hw.2 (hN.ch c1 (by decide)) (hKC.ch c1 (by decide)) hr0 (by rw [(c1 19 (by decide)).1]; exact er0) (fun σ2 c2 d2 e19 hKC2 => hR _ σ2 (fun K hK => ?_))
        have c02 : zp_ch [2, 3, 4, 16, 18, 19] σ σ2 := (c1.mono (by decide)).tr (c2.mono (by decide))
        refine zp_in_t (m := 15) rfl hl (by decide) (zp_f (by decide) (zp_isObjectR_t (by omega) (zp_nt (by decide) ?_)))
        have hv' : v' = v := by rw [hwv'] at hwv; exact Option.some.inj hwv
        have hv1 := (hLW l (by omega)).2 o v hwv
        rw [zp_512m, nI_add]
        refine ⟨vp_in_nI (by omega) (by decide), ?_⟩
        rw [nI_clamp (by omega), (c02 46 (by decide)).1, (hLR l (by omega)).2 o (by omega), hwv]
        rintro y rfl
        refine zp_nt (zp_neg1 (by omega)) ⟨vp_in_nI (by omega) (by decide), ?_⟩
        rintro σ3 rfl
        refine ⟨vp_in_nI (by omega) (by decide), vp_in_nI (by omega) (by decide), ?_⟩
        rw [nI_clamp (by omega), zp_rn _ _ _ _ (by decide), (c02 47 (by decide)).1, (hLR l (by omega)).1, zp_n1 (by omega)]
        rintro σ4 rfl
        have c3 : zp_ch [46, 47] σ2 (zv_wi (zv_wi σ2 46 (l * 512 + o) (-1)) 47 l (nI (E.2.2.1 l - 1))) := (zp_ch.wi (by decide)).tr (zp_ch.wi (by decide))
        have hLR3 : zp_LR (zv_wi (zv_wi σ2 46 (l * 512 + o) (-1)) 47 l (nI (E.2.2.1 l - 1))) (zp_setW E.2.1 l o none) (zp_setZ E.2.2.1 l (E.2.2.1 l - 1)) := by
          refine zp_LR_set (hLR.ch c02 (by decide)) (by omega) (by omega) (fun j => ?_) (fun j => ?_)
          · simp [zp_ri]; rfl
          · simp [zp_ri]
        have d3 : (zv_wi (zv_wi σ2 46 (l * 512 + o) (-1)) 47 l (nI (E.2.2.1 l - 1))).2 = σ2.2 := rfl
        generalize zv_wi (zv_wi σ2 46 (l * 512 + o) (-1)) 47 l (nI (E.2.2.1 l - 1)) = σ3 at c3 hLR3 d3 ⊢
        have hM3 : zp_NR σ3 n E.1 := (hM.ch c02 (by decide) (by rw [(c02 45 (by decide)).1])).ch c3 (by decide) (by rw [(c3 45 (by decide)).1])
        refine zp_changeR hn (by omega) hw.2 hM3 (fun σ4 σ5 c4 d4 hf => ?_)
        show K (nI v) σ5
        rw [← hv']
        exact hK σ5 (zp_J_list hJ c1 d1 hLC1 (zp_LW_set hLW (by omega) (fun y e => by cases e)) c2 d2 e19 hKC2 c3 d3 hLR3 c4 d4 hf)
      · refine zp_nf rfl (hR _ σ (fun K hK => ?_))
        refine zp_in_t (m := 15) rfl hl (by decide) (zp_f (by decide) (zp_isObjectR_t (by omega) (zp_nt (by decide) ?_)))
        rw [zp_512m, nI_add]
        refine ⟨vp_in_nI (by omega) (by decide), ?_⟩
        rw [nI_clamp (by omega), (hLR l (by omega)).2 o (by omega), hwn]
        rintro y rfl
        exact zp_nf rfl (hK σ h)
    · refine zp_isList_t (by omega) (zp_f (by decide) (zp_isObject_f hb (zp_nf rfl (hR _ σ (fun K hK => ?_)))))
      exact zp_in_t (m := 15) rfl hl (by decide) (zp_f (by decide) (zp_isObjectR_f hb (zp_nf rfl (hK σ h))))
  · refine zp_isList_f ha (zp_t rfl (hR _ σ (fun K hK => ?_)))
    exact zp_in_f (m := 15) rfl ha (zp_t rfl (hK σ h))
end PU
