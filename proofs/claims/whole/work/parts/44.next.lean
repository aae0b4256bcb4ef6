/-! next. -/
section NEXT
variable {σ : zv_St} {n k a : Nat} {E : zp_E}
theorem zp_nextC {Q : Int32 → zv_St → Prop} {x : Int32} (hX : zp_CX σ n E 0 k) (ha : a ≤ 512) (hfin : ∀ σ', zp_ch [9, 28, 29, 30] σ σ' → (∀ j, σ'.1 9 j = σ.1 9 j + zp_ad E k a (512 - a) j) → (∀ o, a ≤ o → o < 512 → (zp_V E o k).1 = false) → B_X2_finish (fun σ_1 => Q (-1) σ_1) x σ')
    (hstop : ∀ b σ', a ≤ b → b < 512 → (∀ o, a ≤ o → o < b → (zp_V E o k).1 = false) → (zp_V E b k).1 = true → zp_ch [9, 28, 29, 30] σ σ' → (∀ j, σ'.1 9 j = σ.1 9 j + zp_ad E k a (b - a + 1) j) → B_X2_stopAt (fun σ_4 => Q (nI b) σ_4) x (nI b) σ') : ∃ u, L_X10_next_54 Q u x (nI k) (nI a) σ := by
  refine zp_for (L := fun u i σ' => L_X10_next_54 Q u x (nI k) (nI i) σ') 512 (fun i σ' => a ≤ i ∧ zp_ch [9, 28, 29, 30] σ σ' ∧ (∀ j, σ'.1 9 j = σ.1 9 j + zp_ad E k a (i - a) j) ∧ ∀ o, a ≤ o → o < i → (zp_V E o k).1 = false) (fun u σ' h => ?_) (fun u i σ' hi h ih => ?_) a σ ⟨Nat.le_refl _, zp_ch.rf, fun j => by rw [Nat.sub_self]; exact (Int32.add_zero _).symm, fun o h1 h2 => by omega⟩ ha
  · exact zp_t (by decide) (hfin σ' h.2.1 h.2.2.1 h.2.2.2)
  · obtain ⟨g0, g1, g2, g3⟩ := h
    refine zp_f (nI_ge (b := 512) hi (by decide)) ?_
    refine zp_matchesD (hX.ch' g1 (by decide) (by decide) hi) (fun σ2 c2 h9 hs => ?_)
    have h9' : ∀ j, σ2.1 9 j = σ.1 9 j + zp_ad E k a (i - a + 1) j := fun j => by
      rw [h9 j, g2 j]
      show _ = _ + (zp_ad E k a (i - a) j + zp_dl E (a + (i - a)) k j)
      rw [show a + (i - a) = i by omega, Int32.add_assoc]
    rw [nI_1]
    cases hV : (zp_V E i k).1
    · refine zp_t rfl (ih σ2 ⟨by omega, g1.tr c2, fun j => by rw [show i + 1 - a = i - a + 1 by omega]; exact h9' j, fun o h1 h2 => ?_⟩)
      by_cases c : o = i
      · subst c; exact hV
      · exact g3 o h1 (by omega)
    · exact zp_f (by decide) (hstop i σ2 g0 hi g3 hV (g1.tr c2) h9')
theorem zp_nextR {Q : Int32 → zv_St → Prop} {i b : Nat} (hS : zp_RS σ n E) (hk : k < n) (hi8 : i < 8) (h57 : σ.1 57 i = nI k) (h59 : σ.1 59 i = 0) (hab : a ≤ b) (hb : b ≤ 512) (hV : ∀ o, a ≤ o → o < b → (zp_V E o k).1 = false) (hVb : b < 512 → (zp_V E b k).1 = true) (hA : σ.1 45 10 = zp_asum (σ.1 54) n)
    (q : ∀ σ', zp_ch [45, 54, 62, 63, 64, 65, 66, 67, 68, 69] σ σ' → (∀ f, f ≠ 26 → f ≠ 10 → σ'.1 45 f = σ.1 45 f) → σ'.2 45 = σ.2 45 → (∀ j, σ'.1 54 j = σ.1 54 j + zp_ad E k a (b - a + (if b < 512 then 1 else 0)) j) → σ'.1 45 10 = zp_asum (σ'.1 54) n → B_X11_next_77 Q (nI i) (nI b) σ') : ∃ u, L_X11_next_41 Q u (nI i) (nI a) σ := by
  have hn := hS.1.1
  have hin : vp_in (nI i) 8 := vp_in_nI hi8 (by decide)
  refine zp_for (L := fun u o σ' => L_X11_next_41 Q u (nI i) (nI o) σ') b (fun o σ' => a ≤ o ∧ zp_ch [45, 54, 62, 63, 64, 65, 66, 67, 68, 69] σ σ' ∧ (∀ f, f ≠ 26 → f ≠ 10 → σ'.1 45 f = σ.1 45 f) ∧ σ'.2 45 = σ.2 45 ∧ (∀ j, σ'.1 54 j = σ.1 54 j + zp_ad E k a (o - a) j) ∧ σ'.1 45 10 = zp_asum (σ'.1 54) n) (fun u σ' h => ?_) (fun u o σ' ho h ih => ?_) a σ ⟨Nat.le_refl _, zp_ch.rf, fun _ _ _ => rfl, rfl, fun j => by rw [Nat.sub_self]; exact (Int32.add_zero _).symm, hA⟩ hab
  · obtain ⟨g0, g1, g2, g3, g4, g5⟩ := h
    refine ⟨hin, ?_⟩
    rw [nI_clamp (by omega), (g1 59 (by decide)).1, h59]
    refine zp_nf rfl ?_
    by_cases c : b < 512
    · rw [if_pos c] at q
      refine zp_f (nI_ge (b := 512) c (by decide)) ⟨hin, ?_⟩
      rw [(g1 57 (by decide)).1, h57]
      have hS' := hS.ch g1 (by decide) (g2 2 (by decide) (by decide))
      refine zp_goD hS' hk c g5 (fun σ2 c2 c45 c45' h54 h10 hs => ?_)
      rw [hVb c]
      refine zp_nt (by decide) (q σ2 (g1.tr c2) (fun f f1 f2 => (c45 f f1 f2).trans (g2 f f1 f2)) (c45'.trans g3) (fun j => ?_) h10)
      rw [h54 j, g4 j]
      show _ = _ + (zp_ad E k a (b - a) j + zp_dl E (a + (b - a)) k j)
      rw [show a + (b - a) = b by omega, Int32.add_assoc]
    · rw [if_neg c] at q
      have : b = 512 := by omega
      subst this
      exact zp_t (by decide) (q σ' g1 g2 g3 g4 g5)
  · obtain ⟨g0, g1, g2, g3, g4, g5⟩ := h
    refine ⟨hin, ?_⟩
    rw [nI_clamp (n := i) (by omega), (g1 59 (by decide)).1, h59]
    refine zp_nf rfl (zp_f (nI_ge (b := 512) (by omega) (by decide)) ⟨hin, ?_⟩)
    rw [(g1 57 (by decide)).1, h57]
    have hS' := hS.ch g1 (by decide) (g2 2 (by decide) (by decide))
    refine zp_goD hS' hk (by omega) g5 (fun σ2 c2 c45 c45' h54 h10 hs => ?_)
    rw [hV o g0 ho, nI_1]
    refine zp_nf rfl (ih σ2 ⟨by omega, g1.tr c2, fun f f1 f2 => (c45 f f1 f2).trans (g2 f f1 f2), c45'.trans g3, fun j => ?_, h10⟩)
    rw [h54 j, g4 j, show o + 1 - a = o - a + 1 by omega]
    show _ = _ + (zp_ad E k a (o - a) j + zp_dl E (a + (o - a)) k j)
    rw [show a + (o - a) = o by omega, Int32.add_assoc]
theorem zp_step_next {σ : zv_St} (h : zp_Inv σ) (x y : Int32) (R : Int32 → zv_St → Prop) (hR : ∀ r σ1, (∀ K : Int32 → zv_St → Prop, (∀ σ2, zp_Inv σ2 → K r σ2) → B_X11_next K x y σ1) → R r σ1) : B_X10_next R x y σ := by
  have hInv := h
  obtain ⟨n, E, hJ⟩ := h
  have hJ' := hJ
  obtain ⟨hw, hN, hM, hLW, hLR, hLC, hKW, hKR, hKC, hBC, hFI, hIT, hAS⟩ := hJ'
  have hn := hw.1
  rcases zp_rng x (m := 7) (by decide) with ⟨i, hi, rfl⟩ | hx
  · have hin : vp_in (nI i) 8 := vp_in_nI (by omega) (by decide)
    rcases hIT i (by omega) with ⟨i1, i2⟩ | ⟨i1, k, hk, i2, i3, i4, i5⟩
    · refine zp_within_t (m := 7) rfl hi (by decide) (zp_f (by decide) ⟨hin, ?_⟩)
      rw [nI_clamp (by omega), i1]
      refine zp_t rfl ⟨rfl, zp_t rfl (hR _ σ (fun K hK => ?_))⟩
      refine zp_in_t (m := 7) rfl hi (by decide) (zp_f (by decide) ⟨hin, ?_⟩)
      rw [nI_clamp (by omega), i2]
      exact zp_t rfl ⟨rfl, zp_t rfl (hK σ hInv)⟩
    · have n57 : ¬ σ.1 57 i = -1 := by rw [i2]; exact zp_neg1 (by omega)
      have refIn : ∀ σ3 (Q : Int32 → zv_St → Prop), σ3.1 57 i = nI k → Q 1 σ3 → B_X11_isOpen Q (nI i) σ3 := by
        intro σ3 Q e q
        refine zp_in_t (m := 7) rfl hi (by decide) (zp_f (by decide) ⟨hin, ?_⟩)
        rw [nI_clamp (by omega), e]
        exact zp_f (zp_neg1 (by omega)) ⟨rfl, q⟩
      refine zp_within_t (m := 7) rfl hi (by decide) (zp_f (by decide) ⟨hin, ?_⟩)
      rw [nI_clamp (by omega), i1]
      refine zp_f (by decide) ⟨rfl, zp_f (by decide) ?_⟩
      rcases zp_rng y (m := 511) (by decide) with ⟨t, ht, rfl⟩ | hb
      · refine zp_isObject_t (by omega) (zp_nt (by decide) ⟨hin, ?_⟩)
        rw [nI_clamp (by omega), i3]
        refine zp_prepare hJ.cs hBC hJ.rs.cl hk (fun σ1 c1 b1 d1 => ?_)
        have hJ1 := hJ.prep c1 b1
        have hX1 : zp_CX σ1 n E 0 k := ⟨hJ1.cs, d1, hk, by omega⟩
        -- where both begin
        have hc : ∃ c, c ≤ 512 ∧ σ.1 37 i + 1 = nI c ∧ (σ.1 59 i = 1 → c = 512) ∧ (σ.1 59 i = 0 → ∀ Q : Int32 → zv_St → Prop, ∀ τ : zv_St, Q (nI (max t c)) τ → (nI t ≤ σ.1 58 i → vp_in (nI i) 8 ∧ Q (σ.1 58 i + 1) τ) ∧ (¬ nI t ≤ σ.1 58 i → Q (nI t) τ)) := by
          rcases i5 with ⟨j1, j2⟩ | ⟨j1, j2, j3⟩
          · exact ⟨512, by decide, by rw [j2]; rfl, fun _ => rfl, fun z => by rw [j1] at z; exact absurd z (by decide)⟩
          · rcases j3 with j3 | ⟨o, ho, j3⟩
            · refine ⟨0, by decide, by rw [j2, j3]; rfl, fun z => by rw [j1] at z; exact absurd z (by decide), fun _ Q τ q => ?_⟩
              rw [j3]
              refine zp_f (fun z => ?_) ?_
              · rw [Int32.le_iff_toInt_le, nI_toInt (by omega), show (-1 : Int32).toInt = -1 by decide] at z
                omega
              · rw [show max t 0 = t by omega] at q; exact q
            · refine ⟨o + 1, by omega, by rw [j2, j3, nI_1], fun z => by rw [j1] at z; exact absurd z (by decide), fun _ Q τ q => ?_⟩
              rw [j3, nI_1]
              by_cases c : t ≤ o
              · rw [show max t (o + 1) = o + 1 by omega] at q
                exact zp_t (nI_le c (by omega)) ⟨hin, q⟩
              · rw [show max t (o + 1) = t by omega] at q
                exact zp_f (nI_ge (by omega) (by omega)) q
        obtain ⟨c, hc1, hc2, hc3, hc4⟩ := hc
        have e37 := congrFun (c1 37 (by decide)).1 i
        refine ⟨hin, ?_⟩
        rw [nI_clamp (by omega), e37]
        show B_J9_max_7cf53 (fun r_11 σ_10 => ∃ n54, L_X10_next_54 R n54 (nI i) (nI k) r_11 σ_10) (nI t) (σ.1 37 i + 1) σ1
        rw [hc2]
        have hmax : ∀ Q : Int32 → zv_St → Prop, Q (nI (max t c)) σ1 → B_J9_max_7cf53 Q (nI t) (nI c) σ1 := by
          intro Q q
          by_cases z : t < c
          · rw [show max t c = c by omega] at q
            exact zp_t (nI_lt z (by omega)) q
          · rw [show max t c = t by omega] at q
            exact zp_f (nI_nlt (by omega) (by omega)) q
        refine hmax _ ?_
        generalize hma : max t c = a at hc4 hmax ⊢
        have ha : a ≤ 512 := by omega
        have e58 : σ1.1 58 = σ.1 58 := (c1 58 (by decide)).1
        have e59 : σ1.1 59 = σ.1 59 := (c1 59 (by decide)).1
        have e57 : σ1.1 57 = σ.1 57 := (c1 57 (by decide)).1
        have e60 : σ1.1 60 = σ.1 60 := (c1 60 (by decide)).1
        have e36 : σ1.1 36 = σ.1 36 := (c1 36 (by decide)).1
        have e35 : σ1.1 35 = σ.1 35 := (c1 35 (by decide)).1
        have e38 : σ1.1 38 = σ.1 38 := (c1 38 (by decide)).1
        have hA1 := hJ1.2.2.2.2.2.2.2.2.2.2.2.2
        have hIT1 := hJ1.2.2.2.2.2.2.2.2.2.2.2.1
        have hFI1 := hJ1.2.2.2.2.2.2.2.2.2.2.1
        -- the reference's way in, from a state σ3
        have refB : ∀ σ3 (K : Int32 → zv_St → Prop), zp_ch [9, 28, 29, 30, 37, 38] σ1 σ3 → σ.1 59 i = 0 → (∃ u, L_X11_next_41 K u (nI i) (nI a) σ3) → B_X11_next K (nI i) (nI t) σ3 := by
          intro σ3 K c3 h59 hL
          refine refIn σ3 _ (by rw [(c3 57 (by decide)).1, e57]; exact i2) (zp_f (by decide) (zp_isObjectR_t (by omega) (zp_nt (by decide) ⟨hin, ?_⟩)))
          rw [nI_clamp (by omega), (c3 58 (by decide)).1, e58]
          exact hc4 h59 (fun y τ => ∃ u, L_X11_next_41 K u (nI i) y τ) σ3 hL
        have mend : ∀ σ5, zp_ch [9, 28, 29, 30, 37, 38, 45, 54, 58, 59, 60, 62, 63, 64, 65, 66, 67, 68, 69] σ1 σ5 → (∀ f, f ≠ 26 → f ≠ 10 → σ5.1 45 f = σ1.1 45 f) → σ5.2 45 = σ1.2 45 → (∀ j, j ≠ i → σ5.1 37 j = σ1.1 37 j ∧ σ5.1 38 j = σ1.1 38 j ∧ σ5.1 58 j = σ1.1 58 j ∧ σ5.1 59 j = σ1.1 59 j ∧ σ5.1 60 j = σ1.1 60 j) → σ5.1 38 i = σ5.1 60 i → ((σ5.1 59 i = 1 ∧ σ5.1 37 i = 511) ∨ (σ5.1 59 i = 0 ∧ σ5.1 37 i = σ5.1 58 i ∧ (σ5.1 58 i = -1 ∨ ∃ o, o < 512 ∧ σ5.1 58 i = nI o))) → zp_AS σ5 n → zp_Inv σ5 := by
          intro σ5 c5 g45 g45' gj g1 g2 gA
          refine ⟨n, E, hJ1.mend (c5.mono (by decide)) (g45 2 (by decide) (by decide)) (hFI1.ch c5 (by decide) (g45 30 (by decide) (by decide)) (congrFun g45' 27)) (fun j hj => ?_) gA⟩
          rw [(c5 35 (by decide)).1, (c5 36 (by decide)).1, (c5 57 (by decide)).1]
          by_cases cj : j = i
          · subst cj
            right
            refine ⟨by rw [e35]; exact i1, k, hk, by rw [e57]; exact i2, by rw [e36]; exact i3, g1, g2⟩
          · obtain ⟨q1, q2, q3, q4, q5⟩ := gj j cj
            rw [q1, q2, q3, q4, q5]
            exact hIT1 j hj
        refine zp_nextC hX1 ha (fun σ2 c2 h9 hV => ⟨hin, ?_⟩) (fun b σ2 hab hb hV hVb c2 h9 => ⟨hin, ?_⟩)
        · -- none is left
          rw [nI_clamp (by omega)]
          rintro σ3 rfl
          refine hR _ _ (fun K hK => ?_)
          have c3 : zp_ch [9, 28, 29, 30, 37, 38] σ1 (zv_wi σ2 37 i 511) := (c2.mono (by decide)).tr (zp_ch.wi (by decide))
          have w37 : (zv_wi σ2 37 i 511).1 37 i = 511 := zp_rs _ _ _ _
          have o37 : ∀ j, j ≠ i → (zv_wi σ2 37 i 511).1 37 j = σ1.1 37 j := fun j hj => by rw [zp_rj _ _ hj, (c2 37 (by decide)).1]
          have w9 : ∀ j, (zv_wi σ2 37 i 511).1 9 j = σ1.1 9 j + zp_ad E k a (512 - a) j := fun j => by rw [zp_rn _ _ _ _ (by decide)]; exact h9 j
          have w38 : (zv_wi σ2 37 i 511).1 38 = σ1.1 38 := by rw [zv_wi_n _ _ _ (by decide), (c2 38 (by decide)).1]
          generalize zv_wi σ2 37 i 511 = σ3 at c3 w37 o37 w9 w38 ⊢
          have hS3 := hJ1.rs.ch c3 (by decide) (congrFun (c3 45 (by decide)).1 2)
          have f59 : σ3.1 59 = σ.1 59 := (c3 59 (by decide)).1.trans e59
          have end93 : ∀ σ4, zp_ch [45, 54, 62, 63, 64, 65, 66, 67, 68, 69] σ3 σ4 → (∀ f, f ≠ 26 → f ≠ 10 → σ4.1 45 f = σ1.1 45 f) → σ4.2 45 = σ1.2 45 → (∀ j, σ4.1 54 j = σ1.1 54 j + zp_ad E k a (512 - a) j) → σ4.1 45 10 = zp_asum (σ4.1 54) n → B_X11_next_93 K (nI i) σ4 := by
            intro σ4 c4 g45 g45' g54 g10
            refine ⟨hin, ?_⟩
            rw [nI_clamp (by omega), zp_nar1]
            rintro σ5 rfl
            refine hK _ (mend _ ((c3.mono (by decide)).tr ((c4.mono (by decide)).tr (zp_ch.wi (by decide)))) (fun f f1 f2 => by rw [zp_rn _ _ _ _ (by decide)]; exact g45 f f1 f2) g45' (fun j hj => ⟨?_, ?_, ?_, ?_, ?_⟩) ?_ (Or.inl ⟨zp_rs _ _ _ _, ?_⟩) (hA1.add (f := zp_ad E k a (512 - a)) (fun j => ?_) (fun j => ?_) ?_))
            · rw [zp_rn _ _ _ _ (by decide), (c4 37 (by decide)).1]; exact o37 j hj
            · rw [zp_rn _ _ _ _ (by decide), (c4 38 (by decide)).1, w38]
            · rw [zp_rn _ _ _ _ (by decide), (c4 58 (by decide)).1, (c3 58 (by decide)).1]
            · rw [zp_rj _ _ hj, (c4 59 (by decide)).1, (c3 59 (by decide)).1]
            · rw [zp_rn _ _ _ _ (by decide), (c4 60 (by decide)).1, (c3 60 (by decide)).1]
            · rw [zp_rn _ _ _ _ (by decide), (c4 38 (by decide)).1, w38, zp_rn _ _ _ _ (by decide), (c4 60 (by decide)).1, (c3 60 (by decide)).1, e38, e60]
              exact i4
            · rw [zp_rn _ _ _ _ (by decide), (c4 37 (by decide)).1]; exact w37
            · rw [zp_rn _ _ _ _ (by decide), (c4 9 (by decide)).1]; exact w9 j
            · rw [zp_rn _ _ _ _ (by decide)]; exact g54 j
            · rw [zp_rn _ _ _ _ (by decide), zv_wi_n _ _ _ (by decide)]; exact g10
          have k45 : σ3.1 45 = σ1.1 45 := (c3 45 (by decide)).1
          have k45' : σ3.2 45 = σ1.2 45 := (c3 45 (by decide)).2
          have k54 : σ3.1 54 = σ1.1 54 := (c3 54 (by decide)).1
          rcases i5 with ⟨j1, j2⟩ | ⟨j1, j2, j3⟩
          · -- it was over
            have : a = 512 := by have := hc3 j1; omega
            refine refIn σ3 _ (by rw [(c3 57 (by decide)).1, e57]; exact i2) (zp_f (by decide) (zp_isObjectR_t (by omega) (zp_nt (by decide) ⟨hin, ?_⟩)))
            have hov : ∀ y, ∃ u, L_X11_next_41 K u (nI i) y σ3 := by
              intro y
              refine ⟨1, hin, ?_⟩
              rw [nI_clamp (by omega), f59, j1]
              refine zp_nt (by decide) ⟨hin, ?_⟩
              rw [nI_clamp (by omega), f59, j1]
              refine zp_nt (by decide) (end93 σ3 zp_ch.rf (fun f _ _ => by rw [k45]) k45' (fun j => ?_) ?_)
              · rw [k54, this, Nat.sub_self]
                exact (Int32.add_zero _).symm
              · rw [k45, k54]; exact hA1.a54
            exact zp_by (fun _ => ⟨hin, hov _⟩) (fun _ => hov _)
          · refine refB σ3 K c3 j1 ?_
            refine zp_nextR (b := 512) hS3 hk (by omega) (by rw [(c3 57 (by decide)).1, e57]; exact i2) (by rw [f59]; exact j1) ha (Nat.le_refl _) hV (fun z => absurd z (by decide)) (by rw [k45, k54]; exact hA1.a54) (fun σ4 c4 g45 g45' g54 g10 => ⟨hin, ?_⟩)
            rw [nI_clamp (by omega), (c4 59 (by decide)).1, f59, j1]
            refine zp_nf rfl (zp_f (by decide) (end93 σ4 c4 (fun f f1 f2 => by rw [g45 f f1 f2, k45]) (by rw [g45', k45']) (fun j => ?_) g10))
            rw [g54 j, k54, if_neg (by decide)]
            rfl
        · -- b is found
          rw [nI_clamp (by omega)]
          rintro σ3 rfl
          refine ⟨hin, hin, ?_⟩
          rw [zp_rn _ _ _ _ (by decide)]
          rintro σ4 rfl
          refine hR _ _ (fun K hK => ?_)
          have c3 : zp_ch [9, 28, 29, 30, 37, 38] σ1 (zv_wi (zv_wi σ2 37 i (nI b)) 38 i (σ2.1 38 i + 1)) := (c2.mono (by decide)).tr ((zp_ch.wi (by decide)).tr (zp_ch.wi (by decide)))
          have w37 : (zv_wi (zv_wi σ2 37 i (nI b)) 38 i (σ2.1 38 i + 1)).1 37 i = nI b := by rw [zp_rn _ _ _ _ (by decide), zp_rs]
          have o37 : ∀ j, j ≠ i → (zv_wi (zv_wi σ2 37 i (nI b)) 38 i (σ2.1 38 i + 1)).1 37 j = σ1.1 37 j := fun j hj => by rw [zp_rn _ _ _ _ (by decide), zp_rj _ _ hj, (c2 37 (by decide)).1]
          have w38 : (zv_wi (zv_wi σ2 37 i (nI b)) 38 i (σ2.1 38 i + 1)).1 38 i = σ1.1 38 i + 1 := by rw [zp_rs, (c2 38 (by decide)).1]
          have o38 : ∀ j, j ≠ i → (zv_wi (zv_wi σ2 37 i (nI b)) 38 i (σ2.1 38 i + 1)).1 38 j = σ1.1 38 j := fun j hj => by rw [zp_rj _ _ hj, zp_rn _ _ _ _ (by decide), (c2 38 (by decide)).1]
          have w9 : ∀ j, (zv_wi (zv_wi σ2 37 i (nI b)) 38 i (σ2.1 38 i + 1)).1 9 j = σ1.1 9 j + zp_ad E k a (b - a + 1) j := fun j => by rw [zp_rn _ _ _ _ (by decide), zp_rn _ _ _ _ (by decide)]; exact h9 j
          generalize zv_wi (zv_wi σ2 37 i (nI b)) 38 i (σ2.1 38 i + 1) = σ3 at c3 w37 o37 w38 o38 w9 ⊢
          have hS3 := hJ1.rs.ch c3 (by decide) (congrFun (c3 45 (by decide)).1 2)
          have f59 : σ3.1 59 = σ.1 59 := (c3 59 (by decide)).1.trans e59
          have k45 : σ3.1 45 = σ1.1 45 := (c3 45 (by decide)).1
          have k45' : σ3.2 45 = σ1.2 45 := (c3 45 (by decide)).2
          have k54 : σ3.1 54 = σ1.1 54 := (c3 54 (by decide)).1
          rcases i5 with ⟨j1, j2⟩ | ⟨j1, j2, j3⟩
          · have := hc3 j1; omega
          · refine refB σ3 K c3 j1 ?_
            refine zp_nextR (b := b) hS3 hk (by omega) (by rw [(c3 57 (by decide)).1, e57]; exact i2) (by rw [f59]; exact j1) hab (by omega) hV (fun _ => hVb) (by rw [k45, k54]; exact hA1.a54) (fun σ4 c4 g45 g45' g54 g10 => ⟨hin, ?_⟩)
            rw [nI_clamp (n := i) (by omega), (c4 59 (by decide)).1, f59, j1]
            refine zp_nf rfl (zp_t (nI_lt (b := 512) hb (by decide)) ⟨hin, ?_⟩)
            rintro σ5 rfl
            refine ⟨hin, hin, ?_⟩
            rw [zp_rn _ _ _ _ (by decide)]
            rintro σ6 rfl
            refine hK _ (mend _ ((c3.mono (by decide)).tr ((c4.mono (by decide)).tr ((zp_ch.wi (by decide)).tr (zp_ch.wi (by decide))))) (fun f f1 f2 => ?_) ?_ (fun j hj => ⟨?_, ?_, ?_, ?_, ?_⟩) ?_ (Or.inr ⟨?_, ?_, Or.inr ⟨b, hb, ?_⟩⟩) (hA1.add (f := zp_ad E k a (b - a + 1)) (fun j => ?_) (fun j => ?_) ?_))
            · rw [zp_rn _ _ _ _ (by decide), zp_rn _ _ _ _ (by decide), g45 f f1 f2, k45]
            · show σ4.2 45 = _
              rw [g45', k45']
            · rw [zp_rn _ _ _ _ (by decide), zp_rn _ _ _ _ (by decide), (c4 37 (by decide)).1]; exact o37 j hj
            · rw [zp_rn _ _ _ _ (by decide), zp_rn _ _ _ _ (by decide), (c4 38 (by decide)).1]; exact o38 j hj
            · rw [zp_rn _ _ _ _ (by decide), zp_rj _ _ hj, (c4 58 (by decide)).1, (c3 58 (by decide)).1]
            · rw [zp_rn _ _ _ _ (by decide), zp_rn _ _ _ _ (by decide), (c4 59 (by decide)).1, (c3 59 (by decide)).1]
            · rw [zp_rj _ _ hj, zp_rn _ _ _ _ (by decide), (c4 60 (by decide)).1, (c3 60 (by decide)).1]
            · rw [zp_rn _ _ _ _ (by decide), zp_rn _ _ _ _ (by decide), (c4 38 (by decide)).1, w38, zp_rs, (c4 60 (by decide)).1, (c3 60 (by decide)).1, e38, e60, i4]
            · rw [zp_rn _ _ _ _ (by decide), zp_rn _ _ _ _ (by decide), (c4 59 (by decide)).1, f59]; exact j1
            · rw [zp_rn _ _ _ _ (by decide), zp_rn _ _ _ _ (by decide), (c4 37 (by decide)).1, w37, zp_rn _ _ _ _ (by decide), zp_rs]
            · rw [zp_rn _ _ _ _ (by decide), zp_rs]
            · rw [zp_rn _ _ _ _ (by decide), zp_rn _ _ _ _ (by decide), (c4 9 (by decide)).1]; exact w9 j
            · rw [zp_rn _ _ _ _ (by decide), zp_rn _ _ _ _ (by decide), g54 j, k54, if_pos hb]
            · rw [zp_rn _ _ _ _ (by decide), zp_rn _ _ _ _ (by decide), zv_wi_n _ _ _ (by decide), zv_wi_n _ _ _ (by decide)]; exact g10
      · refine zp_isObject_f hb (zp_nf rfl (hR _ σ (fun K hK => ?_)))
        exact refIn σ _ i2 (zp_f (by decide) (zp_isObjectR_f hb (zp_nf rfl (hK σ hInv))))
  · refine zp_within_f (m := 7) rfl hx (zp_t rfl ⟨rfl, zp_t rfl (hR _ σ (fun K hK => ?_))⟩)
    exact zp_in_f (m := 7) rfl hx (zp_t rfl ⟨rfl, zp_t rfl (hK σ hInv)⟩)
end NEXT
