/-! The reference's LOOK, from its beginning to its end. -/
section GO
variable {σ0 σ : zv_St} {n o top ht k : Nat} {E : zp_E} {D M : Nat → Bool} {w st : Nat → Nat}
theorem zp_goPile {Q : Int32 → zv_St → Prop} (h : zp_GI σ0 n E o top ht σ D M w st) (hX : zp_RX σ0 n E o top) (q : ∀ σ' D M w st, zp_GI σ0 n E o top 0 σ' D M w st → Q (zp_bi (zp_V E o top).1) σ') : ∃ u, L_X11_go_47 Q u (nI top) (nI o) σ := by
  have hn := hX.1.1.1
  have htop := hX.2.2.2
  refine ⟨zp_ph D M ht + 1, zp_iter (L := fun u σ' => L_X11_go_47 Q u (nI top) (nI o) σ') (fun m σ' => ∃ ht D M w st, zp_GI σ0 n E o top ht σ' D M w st ∧ zp_ph D M ht ≤ m) (fun m u σ' hI ih => ?_) (zp_ph D M ht) σ ⟨ht, D, M, w, st, h, Nat.le_refl _⟩⟩
  clear h
  obtain ⟨ht, D, M, w, st, h, hle⟩ := hI
  have hKQ : ∀ ph, ph ≤ m → zp_KQ σ0 n E o top ph (fun σ_2 => B_X11_go_208 Q (L_X11_go_47 Q u) (nI top) (nI o) σ_2) := fun ph hp σ' ht' D' M' w' st' g gl => ih σ' (by omega) ⟨ht', D', M', w', st', g, by omega⟩
  have hhb := h.hb
  have h26 := h.1.2.2.2
  show L_X11_go_47 Q (u + 1) (nI top) (nI o) σ'
  unfold L_X11_go_47
  rw [h26]
  by_cases h0 : ht = 0
  · subst h0
    refine zp_t (by decide) ⟨vp_in_nI (by omega) (by decide), ?_⟩
    have hD : D top = true := by
      rcases h.2.2.1.2.2.2.1 top h.2.2.1.2.2.2.2.1 with z | ⟨i, hi, -⟩
      · exact z
      · exact absurd hi (Nat.not_lt_zero _)
    have h65 := ((h.2.1.1 top (by omega)).2 hD).1
    rw [nI_clamp (by omega), h65, zp_bi1']
    have := q σ' D M w st h
    cases hV : (zp_V E o top).1
    · rw [hV] at this; exact zp_nt (by decide) ⟨rfl, this⟩
    · rw [hV] at this; exact zp_nf rfl ⟨rfl, this⟩
  · have hht : 0 < ht := by omega
    refine zp_f (nI_nle hht (by omega)) ?_
    rw [zp_n1 hht]
    refine ⟨vp_in_nI (by omega) (by decide), ?_⟩
    have c1 := h.2.2.1.1 (ht - 1) (by omega)
    have b3 := h.2.1.2.2.1 _ c1.2
    rw [nI_clamp (n := ht - 1) (by omega), c1.1]
    generalize hk : w (ht - 1) = k at c1 b3
    have hin : vp_in (nI k) 80 := vp_in_nI (by omega) (by decide)
    rintro x rfl
    refine ⟨hin, ?_⟩
    rw [nI_clamp (n := k) (by omega), h.2.1.1.m1 (by omega)]
    cases hDk : D k
    · refine zp_t rfl ⟨hin, ?_⟩
      obtain ⟨hsk, hkt⟩ := h.last hht hk hDk
      have hm := hsk.1
      have hw := hX.1.1.2 k (by omega)
      have h7 := hw.1
      have hX' := h.rx hX
      obtain ⟨l0, l1, l2, l4, l5⟩ := hX'.1.2.1.2 k (by omega)
      have hKR := hX'.1.2.2.2.2.1 k (by omega)
      have n7 : zp_kd E.1 k ≠ 7 := fun y => by
        have := (zp_ms7 hw y o).1
        rw [hm] at this; cases this
      rw [l0, l4]
      by_cases e2 : zp_kd E.1 k = 2
      · exact zp_nf (by rw [e2]; rfl) (zp_goBool h hX hht hk hDk e2 (hKQ _ hle))
      · refine zp_nt (fun z => e2 (zp_ninj (by omega) (by decide) z)) ⟨hin, ?_⟩
        by_cases e3 : zp_kd E.1 k = 3
        · exact zp_nf (by rw [e3]; rfl) (zp_goBest h hX hht hk hDk e3 (hKQ _ hle))
        · refine zp_nt (fun z => e3 (zp_ninj (by omega) (by decide) z)) ⟨hin, ?_⟩
          have h164 : (∀ p, zp_vis E o k p → D p = true) → (zp_V E o k).1 = true → (zp_kd E.1 k ≠ 0 → (zp_V E o k).2 = 0) → zp_kd E.1 k ≠ 5 → B_X11_go_164 Q (L_X11_go_47 Q u) (nI top) (nI o) (nI k) σ' := by
            intro hv hV1 hV2 e5
            refine ⟨hin, ?_⟩
            rw [nI_clamp (n := k) (by omega)]
            rintro τ1 rfl
            refine ⟨hin, ?_⟩
            rw [zp_rn _ _ _ _ (by decide), l0, zp_rn _ _ _ _ (by decide), l1]
            by_cases e0 : zp_kd E.1 k = 0
            · have hf := (hw.2.2.2.1 e0).1
              refine zp_nf (by rw [e0]; rfl) ⟨hin, ?_⟩
              rw [zp_512m, nI_add]
              refine ⟨vp_in_nI (by omega) (by decide), hin, ?_⟩
              rw [nI_clamp (n := k) (by omega), nI_clamp (n := zp_fs E.1 k * 512 + o) (by omega), zp_rn _ _ _ _ (by decide), (hX'.1.2.2.1 _ hf).2 o (by omega)]
              rintro τ2 rfl
              exact zp_set65 (x := true) h hX hht hk hDk hv (zp_ask_n e5) hV1.symm (fun _ => by rw [zp_V0 hw hm e0]) (Nat.le_refl _) (hKQ _ hle)
            · refine zp_nt (fun z => e0 (zp_ninj (by omega) (by decide) z)) ⟨hin, ?_⟩
              rw [nI_clamp (n := k) (by omega)]
              rintro τ2 rfl
              exact zp_set65 (x := true) h hX hht hk hDk hv (zp_ask_n e5) hV1.symm (fun _ => (hV2 e0).symm) (Nat.le_refl _) (hKQ _ hle)
          by_cases e0 : zp_mn E.1 k = 0
          · have o1 : ¬ (zp_kd E.1 k = 4 ∨ zp_kd E.1 k = 5 ∨ zp_kd E.1 k = 6) := fun z => by have := (hw.one z).1; omega
            refine zp_t (by rw [e0]; decide) (h164 ?_ ?_ ?_ (by omega))
            · rintro p ⟨-, -, hp⟩
              rcases hp with ⟨-, i, hi, -⟩ | ⟨e9, -⟩
              · omega
              · exact absurd e9 e2
            · rcases (show zp_kd E.1 k = 0 ∨ zp_kd E.1 k = 1 by omega) with z | z
              · rw [zp_V0 hw hm z]
              · rw [zp_V1 hw hm z]
            · intro z
              rw [zp_V1 hw hm (by omega)]
          · refine zp_f (nI_nle (by omega) (by have := hw.2.1; omega)) ⟨hin, ?_⟩
            have ek : zp_kd E.1 k = 4 ∨ zp_kd E.1 k = 5 ∨ zp_kd E.1 k = 6 := by
              have z0 : zp_kd E.1 k ≠ 0 := fun z => by have := (hw.2.2.2.1 z).2.2; omega
              have z1 : zp_kd E.1 k ≠ 1 := fun z => by have := (hw.2.2.2.2.1 z).2.2; omega
              omega
            by_cases e6 : zp_kd E.1 k = 6
            · refine zp_nf (by rw [e6]; rfl) ⟨hin, ?_⟩
              cases hq : E.2.2.2 k with
              | none =>
                rw [hq] at hKR
                exact zp_nf hKR (zp_goOne h hX hht hk hDk ek hq (hKQ _ hle))
              | some p =>
                rw [hq] at hKR
                have hV := zp_V6s hw hm e6 (by rw [hq]; exact fun y => by cases y)
                refine zp_nt (fun z => zp_neg1 (o := p.1) (by have := hKR.2.1; omega) (hKR.1.symm.trans z)) (h164 ?_ (by rw [hV]) (fun _ => by rw [hV]) (by omega))
                rintro p2 ⟨-, hn2, -⟩
                rw [hq] at hn2; cases hn2
            · refine zp_nt (fun z => e6 (zp_ninj (by omega) (by decide) z)) (zp_goOne h hX hht hk hDk ek ?_ (hKQ _ hle))
              cases c : E.2.2.2 k with
              | none => rfl
              | some p => exact absurd (hX.1.2.2.2.2.2 k (by omega) (by rw [c]; exact fun y => by cases y)) e6
    · refine zp_f (by decide) ?_
      rintro τ rfl
      obtain ⟨⟨a1, a2, a3, a4⟩, ⟨b1, b2, b3', b4⟩, ⟨c1', c2, c3, c4, c5, c6⟩, d1, d2⟩ := h
      have m8 : ∀ j, M j = true → zp_mn E.1 j ≤ 8 := fun j hj => (hX.1.1.2 j (by have := (b3' j hj).1; omega)).2.1
      have hphx : zp_ph D M ht = zp_ph D M (ht - 1) + 1 := by unfold zp_ph; omega
      refine ih _ (by omega) ⟨ht - 1, D, M, w, st, ⟨⟨a1.tr (zp_ch.wi (by decide)), fun f f1 f2 => ?_, a3, zp_rs _ _ _ _⟩, ⟨b1.cg (zv_wi_n _ _ _ (by decide)) rfl, b2, b3', b4⟩, ⟨fun i hi => ?_, fun i j hij hj => c2 i j hij (by omega), fun i hi => c3 i (by omega), fun j hj => ?_, c5, fun i hi hDi => ?_⟩, fun j => ?_, ?_⟩, by omega⟩
      · rw [zp_rj _ _ f1]; exact a2 f f1 f2
      · rw [zp_rn _ _ _ _ (by decide)]; exact c1' i (by omega)
      · rcases c4 j hj with z | ⟨i, hi, z⟩
        · exact Or.inl z
        · by_cases ci : i = ht - 1
          · left
            rw [← z, ci, hk]; exact hDk
          · exact Or.inr ⟨i, by omega, z⟩
      · exact (c6 i (by omega) hDi).mono (m8 _ (c1' i (by omega)).2) (fun _ z => z) (by rw [zp_rn _ _ _ _ (by decide)]) (fun j _ => by rw [zp_rn _ _ _ _ (by decide)])
      · rw [zp_rn _ _ _ _ (by decide)]; exact d1 j
      · rw [zp_rj _ _ (by decide), zv_wi_n _ _ _ (by decide)]; exact d2
theorem zp_go {Q : Int32 → zv_St → Prop} (hS : zp_RS σ n E) (htop : top < n) (ho : o < 512) (hA : σ.1 45 10 = zp_asum (σ.1 54) n) (q : ∀ D σ', zp_ch [45, 54, 62, 63, 64, 65, 66, 67, 68, 69] σ σ' → (∀ f, f ≠ 26 → f ≠ 10 → σ'.1 45 f = σ.1 45 f) → σ'.2 45 = σ.2 45 → zp_R E o top D → (∀ j, σ'.1 54 j = σ.1 54 j + (if D j = true ∧ zp_ask E o j = true then 1 else 0)) → σ'.1 45 10 = zp_asum (σ'.1 54) n → ((zp_V E o top).1 = true → σ'.2 66 top = (zp_V E o top).2) → Q (zp_bi (zp_V E o top).1) σ') : B_X11_go Q (nI top) (nI o) σ := by
  have hn := hS.1.1
  refine zp_costsR hS (fun σ1 c1 d1 => ?_)
  have hS1 := hS.ch c1 (by decide) (congrFun (c1 45 (by decide)).1 2)
  refine zp_mayAllR hS1 ho htop (fun σ2 c2 d2 => ?_)
  have hS2 := hS1.ch c2 (by decide) (congrFun (c2 45 (by decide)).1 2)
  have hX : zp_RX σ2 n E o top := ⟨hS2, d2, by rw [(c2 62 (by decide)).1]; exact d1, htop, ho⟩
  have f54 : σ2.1 54 = σ.1 54 := ((c2 54 (by decide)).1).trans (c1 54 (by decide)).1
  have f45 : σ2.1 45 = σ.1 45 := ((c2 45 (by decide)).1).trans (c1 45 (by decide)).1
  have f45' : σ2.2 45 = σ.2 45 := ((c2 45 (by decide)).2).trans (c1 45 (by decide)).2
  have fin : ∀ σ' D M w st, zp_GI σ2 n E o top 0 σ' D M w st → Q (zp_bi (zp_V E o top).1) σ' := by
    rintro σ' D M w st ⟨⟨a1, a2, a3, a4⟩, ⟨b1, b2, b3, b4⟩, ⟨e1, e2, e3, e4, e5, e6⟩, g1, g2⟩
    have hD : D top = true := by
      rcases e4 top e5 with z | ⟨i, hi, -⟩
      · exact z
      · exact absurd hi (Nat.not_lt_zero _)
    exact q D σ' ((c1.mono (by decide)).tr ((c2.mono (by decide)).tr (a1.mono (by decide)))) (fun f f1 f2 => (a2 f f1 f2).trans (congrFun f45 f)) (a3.trans f45') (zp_R_of (fun k hk => (b3 k (b2 k hk)).2) b4 hD) (fun j => by rw [g1 j, f54]) g2 ((b1 top (by omega)).2 hD).2
  refine zp_for (L := fun u i σ' => L_X11_go_12 Q u (nI top) (nI o) (nI i) σ') (top + 1) (fun i σ' => zp_ch [65, 66] σ2 σ' ∧ ∀ j, j < i → σ'.1 65 j = -1) (fun u σ' h => ?_) (fun u i σ' hi h ih => ?_) 0 σ2 ⟨zp_ch.rf, fun j hj => by omega⟩ (Nat.zero_le _)
  · refine zp_t (nI_lt (by omega) (by omega)) ?_
    rintro σ4 rfl
    have c4 : zp_ch [45, 54, 65, 66, 67, 68, 69] σ2 (zv_wi σ' 45 26 0) := (h.1.mono (by decide)).tr (zp_ch.wi (by decide))
    have f2 : ∀ f, f ≠ 26 → (zv_wi σ' 45 26 0).1 45 f = σ2.1 45 f := fun f hf => by rw [zp_rj _ _ hf, congrFun (h.1 45 (by decide)).1 f]
    have f3 : (zv_wi σ' 45 26 0).2 45 = σ2.2 45 := (h.1 45 (by decide)).2
    have f4 : (zv_wi σ' 45 26 0).1 45 26 = nI 0 := by rw [zp_rs]; rfl
    have f5 : ∀ j, j ≤ top → (zv_wi σ' 45 26 0).1 65 j = -1 := fun j hj => by rw [zp_rn _ _ _ _ (by decide)]; exact h.2 j (by omega)
    have f6 : (zv_wi σ' 45 26 0).1 54 = σ.1 54 := by rw [zv_wi_n _ _ _ (by decide), (h.1 54 (by decide)).1, f54]
    generalize zv_wi σ' 45 26 0 = σ4 at c4 f2 f3 f4 f5 f6 ⊢
    have hX4 := hX.ch c4 (f2 2 (by decide))
    have hO4 : zp_OR σ4 E o (fun _ => false) (top + 1) := fun p hp => ⟨fun _ => f5 p (by omega), fun z => by cases z⟩
    have hwt := hS.1.2 top htop
    refine zp_come0 hX4 (Nat.le_refl _) hO4 f4 (by decide) (fun z => by cases z) (fun _ hm => ?_) (fun _ hm σ5 e1 e2 e3 e4 e5 e6 e7 e8 e9 e10 => ?_)
    · refine zp_goPile (ht := 0) (D := zp_mk (fun _ => false) top) (M := zp_mk (fun _ => false) top) (w := fun _ => 0) (st := fun _ => 0) (σ0 := σ2) ⟨⟨c4.tr (zp_ch.wi (by decide)), fun f g1 g2 => ?_, f3, ?_⟩, ⟨fun p hp => ?_, fun k hk => hk, fun k hk => ?_, fun k p hk hv => ?_⟩, ⟨fun i hi => absurd hi (Nat.not_lt_zero _), fun i j _ hj => absurd hj (Nat.not_lt_zero _), fun i hi => absurd hi (Nat.not_lt_zero _), fun k hk => Or.inl hk, if_pos rfl, fun i hi => absurd hi (Nat.not_lt_zero _)⟩, fun j => ?_, ?_⟩ hX fin
      · rw [zp_rn _ _ _ _ (by decide)]; exact f2 f g1
      · rw [zp_rn _ _ _ _ (by decide)]; exact f4
      · by_cases c : p = top
        · subst c
          have hDt : zp_mk (fun _ => false) p p = true := if_pos rfl
          rw [hDt, zp_rs, zp_Vn hwt hm]
          exact ⟨fun z => (by cases z), fun _ => ⟨rfl, fun z => (by cases z)⟩⟩
        · have hDt : zp_mk (fun _ => false) top p = false := if_neg c
          rw [hDt, zp_rj _ _ c]
          exact ⟨fun _ => f5 p (by omega), fun z => by cases z⟩
      · by_cases c : k = top
        · subst c; exact ⟨Nat.le_refl _, zp_inR.top⟩
        · have hk : (if k = top then true else false) = true := hk
          rw [if_neg c] at hk; cases hk
      · by_cases c : k = top
        · subst c
          have := hv.1
          rw [hm] at this; cases this
        · have hk : (if k = top then true else false) = true := hk
          rw [if_neg c] at hk; cases hk
      · rw [zp_rn _ _ _ _ (by decide), f6, f54, if_neg, Int32.add_zero]
        rintro ⟨z1, z2⟩
        by_cases c : j = top
        · subst c
          unfold zp_ask at z2
          rw [hm] at z2; cases z2
        · have z1 : (if j = top then true else false) = true := z1
          rw [if_neg c] at z1; cases z1
      · rw [zp_rn _ _ _ _ (by decide), zv_wi_n _ _ _ (by decide), f2 10 (by decide), f45, f6]; exact hA
    · refine zp_goPile (ht := 1) (D := fun _ => false) (M := zp_mk (fun _ => false) top) (w := fun _ => top) (st := fun _ => 0) (σ0 := σ2) ⟨⟨c4.tr (e1.mono (by decide)), fun f g1 g2 => (e2 f g1).trans (f2 f g1), e3.trans f3, e4⟩, ⟨hO4.cg (e1 65 (by decide)).1 (e1 66 (by decide)).2, fun k hk => (by cases hk), fun k hk => ?_, fun k p hk hv => (by cases hk)⟩, ⟨fun i hi => ?_, fun i j hij hj => (by omega), fun i hi => rfl, fun k hk => ?_, if_pos rfl, fun i hi _ => ⟨hm, e5, Nat.zero_le _, fun z => ⟨e8 z, fun j hj => absurd hj (Nat.not_lt_zero _)⟩, fun z j hj => absurd hj (Nat.not_lt_zero _)⟩⟩, fun j => ?_, ?_⟩ hX fin
      · by_cases c : k = top
        · subst c; exact ⟨Nat.le_refl _, zp_inR.top⟩
        · have hk : (if k = top then true else false) = true := hk
          rw [if_neg c] at hk; cases hk
      · rw [show i = 0 by omega]
        exact ⟨e9, if_pos rfl⟩
      · by_cases c : k = top
        · subst c; exact Or.inr ⟨0, Nat.one_pos, rfl⟩
        · have hk : (if k = top then true else false) = true := hk
          rw [if_neg c] at hk; cases hk
      · rw [(e1 54 (by decide)).1, f6, f54, if_neg (fun z => by cases z.1), Int32.add_zero]
      · rw [(e1 54 (by decide)).1, f6, e2 10 (by decide), f2 10 (by decide), f45]; exact hA
  · refine zp_f (nI_nlt (by omega) (by omega)) ⟨vp_in_nI (by omega) (by decide), ?_⟩
    rw [nI_clamp (by omega), nI_1]
    rintro τ1 rfl
    refine ⟨vp_in_nI (by omega) (by decide), ?_⟩
    rintro τ2 rfl
    refine ih _ ⟨h.1.tr ((zp_ch.wi (by decide)).tr (zp_ch.wl (by decide))), fun j hj => ?_⟩
    rw [zp_rl1]
    by_cases c : j = i
    · subst c; rw [zp_rs]
    · rw [zp_rj _ _ c]; exact h.2 j (by omega)
end GO
