/-! The reference's LOOK: the other turns, and all of them. -/
section GOR2
variable {σ0 σ : zv_St} {n o top ht k : Nat} {E : zp_E} {D M : Nat → Bool} {w st : Nat → Nat} {Q : zv_St → Prop}
theorem zp_goBest (h : zp_GI σ0 n E o top ht σ D M w st) (hX : zp_RX σ0 n E o top) (hht : 0 < ht) (hk : w (ht - 1) = k) (hDk : D k = false) (e : zp_kd E.1 k = 3) (hK : zp_KQ σ0 n E o top (zp_ph D M ht) Q) : B_X11_goBest Q (nI k) σ := by
  have hn := hX.1.1.1
  have htop := hX.2.2.2
  obtain ⟨hsk, hkt⟩ := h.last hht hk hDk
  have hw := hX.1.1.2 k (by omega)
  obtain ⟨w0, w1, w2, -⟩ := hX.1.1.2 k (by omega)
  have hm := hsk.1
  have hin : vp_in (nI k) 80 := vp_in_nI (by omega) (by decide)
  have hV3 := zp_V3 hw hm e
  have hna : zp_ask E o k = false := zp_ask_n (by omega)
  have hKn : E.2.2.2 k = none := by
    cases c : E.2.2.2 k with
    | none => rfl
    | some p => have := hX.1.2.2.2.2.2 k (by omega) (by rw [c]; exact fun y => by cases y); omega
  generalize hph : zp_ph D M ht = ph at hK
  refine zp_for (L := fun u _ σ' => L_X11_goBest_0 Q u (nI k) σ') (zp_mn E.1 k) (fun s σ' => ∃ D M st, zp_GI σ0 n E o top ht σ' D M w st ∧ D k = false ∧ zp_ph D M ht ≤ ph ∧ st k = s) (fun u σ' g => ?_) (fun u s σ' hs g ih => ?_) (st k) σ ⟨D, M, st, h, hDk, by omega, rfl⟩ hsk.2.2.1
  · obtain ⟨D, M, st, g, gD, gph, gs⟩ := g
    obtain ⟨⟨-, s68, -, -, s3⟩, -⟩ := g.last hht hk gD
    rw [gs] at s68 s3
    have hd := s3 e
    have hX' := g.rx hX
    obtain ⟨l0, l1, -, l4, l5⟩ := hX'.1.2.1.2 k (by omega)
    have hO := g.2.1.1
    refine ⟨hin, hin, ?_⟩
    rw [nI_clamp (by omega), l4, s68]
    refine zp_t (nI_le (Nat.le_refl _) (by omega)) ?_
    have hv : ∀ p, zp_vis E o k p → D p = true := by
      rintro p ⟨-, -, hp⟩
      rcases hp with ⟨-, i, hi, rfl⟩ | ⟨e2, -⟩
      · exact hd i hi
      · omega
    refine zp_for (L := fun u i (a : Int32 × Int64 × Int64) => L_X11_goBest_71 Q u (nI k) a.1 a.2.1 a.2.2 (nI i) σ') (zp_mn E.1 k) (fun i a => a = (zp_bi (zp_bmx E (zp_V E o) k i).isSome, (zp_bmx E (zp_V E o) k i).getD 0, zp_bsum E (zp_V E o) k i)) (fun v a z => ?_) (fun v i a hi z ih2 => ?_) 0 (0, 0, 0) rfl (Nat.zero_le _)
    · subst z
      refine ⟨hin, ?_⟩
      rw [nI_clamp (by omega), l4]
      refine zp_t (nI_le (Nat.le_refl _) (by omega)) ?_
      have fin : ∀ x, x = (zp_bmx E (zp_V E o) k (zp_mn E.1 k)).isSome → B_X11_goBest_169 Q (nI k) ((zp_bmx E (zp_V E o) k (zp_mn E.1 k)).getD 0) (zp_bsum E (zp_V E o) k (zp_mn E.1 k)) (nI k) (zp_bi x) σ' := by
        intro x hx
        refine ⟨hin, ?_⟩
        rw [nI_clamp (by omega)]
        rintro τ1 rfl
        refine ⟨hin, hin, ?_⟩
        rw [zp_rn _ _ _ _ (by decide), l1]
        rintro τ2 rfl
        exact zp_set65 g hX hht hk gD hv hna (by rw [hV3]; exact hx) (fun _ => by rw [hV3]; rfl) gph hK
      show (zp_bi (zp_bmx E (zp_V E o) k (zp_mn E.1 k)).isSome = 0 → _) ∧ _
      rw [zp_nb0]
      refine zp_by (fun c => fin false c.symm) (fun c => fin true ?_)
      rw [Bool.not_eq_false] at c
      exact c.symm
    · subst z
      obtain ⟨v1, v2⟩ := w2 i hi
      have hinp : vp_in (nI (zp_pt E.1 k i)) 80 := vp_in_nI (by omega) (by decide)
      have hDp := hd i hi
      obtain ⟨p65, p66⟩ := (hO (zp_pt E.1 k i) (by omega)).2 hDp
      refine ⟨hin, ?_⟩
      rw [nI_clamp (n := k) (by omega), l4]
      refine zp_f (nI_ge hi (by omega)) ?_
      rw [zp_8m, nI_add]
      refine ⟨vp_in_nI (by omega) (by decide), ?_⟩
      rw [nI_clamp (n := k * 8 + i) (by omega), (l5 i hi).2]
      rintro x rfl
      refine ⟨hinp, ?_⟩
      unfold B_X11_goBest_123 B_X11_goBest_134 B_X11_goBest_149
      rw [nI_clamp (by omega), p65, zp_bi1', nI_1]
      have hs : zp_bsum E (zp_V E o) k (i + 1) = (if (zp_V E o (zp_pt E.1 k i)).1 = true then zp_bsum E (zp_V E o) k i + (zp_V E o (zp_pt E.1 k i)).2 else zp_bsum E (zp_V E o) k i) := rfl
      have hx : zp_bmx E (zp_V E o) k (i + 1) = (if (zp_V E o (zp_pt E.1 k i)).1 = true then (match zp_bmx E (zp_V E o) k i with | none => some (zp_V E o (zp_pt E.1 k i)).2 | some q => some (if q < (zp_V E o (zp_pt E.1 k i)).2 then (zp_V E o (zp_pt E.1 k i)).2 else q)) else zp_bmx E (zp_V E o) k i) := rfl
      cases hVp : (zp_V E o (zp_pt E.1 k i)).1
      · rw [hVp, if_neg (by decide)] at hs hx
        exact zp_nt (by decide) (ih2 (_, _, _) (by rw [hs, hx]))
      · rw [hVp, if_pos rfl] at hs hx
        refine zp_nf rfl ?_
        rw [p66 hVp]
        cases hb : zp_bmx E (zp_V E o) k i with
        | none =>
          rw [hb] at hx
          have hx : zp_bmx E (zp_V E o) k (i + 1) = some (zp_V E o (zp_pt E.1 k i)).2 := hx
          refine zp_t rfl ⟨hinp, hinp, ?_⟩
          rintro y rfl
          exact ih2 (_, _, _) (by rw [hs, hx]; rfl)
        | some m =>
          rw [hb] at hx
          have hx : zp_bmx E (zp_V E o) k (i + 1) = some (if m < (zp_V E o (zp_pt E.1 k i)).2 then (zp_V E o (zp_pt E.1 k i)).2 else m) := hx
          refine zp_f (show ¬ zp_bi true = 0 by decide) ⟨hinp, ?_⟩
          rw [lg_cmp_le]
          refine zp_by (fun c => ⟨hinp, ?_⟩) (fun c => ⟨hinp, hinp, ?_⟩)
          · have c : (zp_V E o (zp_pt E.1 k i)).2 ≤ m := c
            rw [if_neg (fun z => by rw [Int64.lt_iff_toInt_lt] at z; rw [Int64.le_iff_toInt_le] at c; omega)] at hx
            rintro y rfl
            exact ih2 (1, m, _) (by rw [hs, hx]; rfl)
          · have c : ¬ (zp_V E o (zp_pt E.1 k i)).2 ≤ m := c
            rw [if_pos (by rw [Int64.lt_iff_toInt_lt]; rw [Int64.le_iff_toInt_le] at c; omega)] at hx
            rintro y rfl
            exact ih2 (1, _, _) (by rw [hs, hx]; rfl)
  · obtain ⟨D, M, st, g, gD, gph, gs⟩ := g
    obtain ⟨⟨-, s68, -, -, s3⟩, -⟩ := g.last hht hk gD
    rw [gs] at s68 s3
    have hX' := g.rx hX
    obtain ⟨l0, l1, -, l4, l5⟩ := hX'.1.2.1.2 k (by omega)
    obtain ⟨v1, v2⟩ := w2 s hs
    have hinp : vp_in (nI (zp_pt E.1 k s)) 80 := vp_in_nI (by omega) (by decide)
    refine ⟨hin, hin, ?_⟩
    rw [nI_clamp (n := k) (by omega), l4, s68]
    refine zp_f (nI_ge hs (by omega)) ⟨hin, ?_⟩
    rw [zp_8m, nI_add]
    refine ⟨vp_in_nI (by omega) (by decide), ?_⟩
    rw [nI_clamp (n := k * 8 + s) (by omega), (l5 s hs).2]
    rintro x rfl
    have aft : ∀ τ D M, zp_GI σ0 n E o top ht τ D M w st → D k = false → zp_ph D M ht ≤ ph → D (zp_pt E.1 k s) = true → vp_in (nI (zp_pt E.1 k s)) 80 ∧ (¬ (τ.1 65 (nI (zp_pt E.1 k s)).toNatClampNeg) = (-1) → (vp_in (nI k) 80 ∧ vp_in (nI k) 80 ∧ ∀ σ_3 : zv_St, σ_3 = zv_wi τ 68 k ((τ.1 68 k) + 1) → (L_X11_goBest_0 Q u) (nI k) σ_3)) ∧ ((τ.1 65 (nI (zp_pt E.1 k s)).toNatClampNeg) = (-1) → (Q τ)) := by
      intro τ D M gg ggD ggph hDp
      obtain ⟨⟨-, t68, -, -, t3⟩, -⟩ := gg.last hht hk ggD
      rw [gs] at t68 t3
      refine ⟨hinp, ?_⟩
      have t65 := ((gg.2.1.1 (zp_pt E.1 k s) (by omega)).2 hDp).1
      rw [nI_clamp (by omega), t65]
      refine zp_nt (zp_bi1 _) ⟨hin, hin, ?_⟩
      rw [t68, nI_1]
      rintro τ1 rfl
      refine ih _ ⟨D, M, zp_wu st k (s + 1), zp_stepG gg hX hht hk ⟨hm, zp_rs _ _ _ _, hs, fun z => by omega, fun _ j hj => ?_⟩, ggD, ggph, zp_wu_s _ _ _⟩
      by_cases cj : j = s
      · subst cj; exact hDp
      · exact t3 e j (by omega)
    refine zp_comeG g hX hht hk gD ⟨hm, hKn, Or.inl ⟨by omega, s, hs, rfl⟩⟩ (fun hDp => aft σ' D M g gD gph hDp) (fun τ t68 hDp gg gl => ?_) (fun τ w' st' hDp gg gl => ?_)
    · refine aft τ _ _ gg ?_ (by omega) (if_pos rfl)
      show (if k = _ then true else D k) = false
      rw [if_neg (by omega)]; exact gD
    · refine ⟨hinp, ?_⟩
      rw [nI_clamp (n := zp_pt E.1 k s) (by omega), (gg.2.1.1).m1 (by omega)]
      exact zp_nf hDp (hK _ _ _ _ _ _ gg (by omega))
theorem zp_goOne (h : zp_GI σ0 n E o top ht σ D M w st) (hX : zp_RX σ0 n E o top) (hht : 0 < ht) (hk : w (ht - 1) = k) (hDk : D k = false) (e : zp_kd E.1 k = 4 ∨ zp_kd E.1 k = 5 ∨ zp_kd E.1 k = 6) (hKn : E.2.2.2 k = none) (hK : zp_KQ σ0 n E o top (zp_ph D M ht) Q) : B_X11_goOne Q (nI k) (nI o) σ := by
  have hn := hX.1.1.1
  have htop := hX.2.2.2
  obtain ⟨hsk, hkt⟩ := h.last hht hk hDk
  have hw := hX.1.1.2 k (by omega)
  have hm := hsk.1
  have h7 := hw.1
  obtain ⟨o1, o2, o3, o4⟩ := hw.one e
  have hin : vp_in (nI k) 80 := vp_in_nI (by omega) (by decide)
  have hinp : vp_in (nI (zp_fs E.1 k)) 80 := vp_in_nI (by omega) (by decide)
  have hX' := h.rx hX
  refine ⟨hin, ?_⟩
  rw [nI_clamp (n := k) (by omega), (hX'.1.2.1.2 k (by omega)).2.1]
  rintro x rfl
  have hvis : zp_vis E o k (zp_fs E.1 k) := ⟨hm, hKn, Or.inl ⟨by omega, 0, by omega, o2.symm⟩⟩
  have hvs : ∀ D : Nat → Bool, D (zp_fs E.1 k) = true → ∀ p, zp_vis E o k p → D p = true := by
    rintro D hD p ⟨-, -, hp⟩
    rcases hp with ⟨-, i, hi, rfl⟩ | ⟨e2, -⟩
    · rw [show i = 0 by omega, o2]; exact hD
    · omega
  generalize hph : zp_ph D M ht = ph at hK
  have aft : ∀ τ D M, zp_GI σ0 n E o top ht τ D M w st → D k = false → zp_ph D M ht ≤ ph → D (zp_fs E.1 k) = true → ¬ τ.1 65 (zp_fs E.1 k) = -1 ∧ (vp_in (nI (zp_fs E.1 k)) 80 ∧ ∀ v_3 : Int32, v_3 = (τ.1 65 (zp_fs E.1 k)) → vp_in (nI k) 80 ∧ (¬ (τ.1 48 k) = 5 → (B_X11_goOne_113 Q (nI k) (nI (zp_fs E.1 k)) v_3 τ)) ∧ ((τ.1 48 k) = 5 → ((¬ v_3 = 1 → (B_X11_goOne_113 Q (nI k) (nI (zp_fs E.1 k)) v_3 τ)) ∧ (v_3 = 1 → (vp_in (nI k) 80 ∧ vp_in (nI k) 80 ∧ ∀ σ_4 : zv_St, σ_4 = zv_wi τ 54 k ((τ.1 54 k) + 1) → ∀ σ_5 : zv_St, σ_5 = zv_wi σ_4 45 10 ((σ_4.1 45 10) + 1) → vp_in (nI k) 80 ∧ vp_in (nI k) 80 ∧ ¬ (((σ_5.1 50 k) / 1000) - ((σ_5.1 50 k) / 1000) / 1000 * 1000) = 0 ∧ vp_in (nI k) 80 ∧ (((σ_5.1 50 k) - (σ_5.1 50 k) / 1000 * 1000) ≤ ((((σ_5.1 50 k) / 1000000) * (nI o)) - (((σ_5.1 50 k) / 1000000) * (nI o)) / (((σ_5.1 50 k) / 1000) - ((σ_5.1 50 k) / 1000) / 1000 * 1000) * (((σ_5.1 50 k) / 1000) - ((σ_5.1 50 k) / 1000) / 1000 * 1000)) → (B_X11_goOne_111 Q (nI k) (nI (zp_fs E.1 k)) 0 σ_5)) ∧ (¬ ((σ_5.1 50 k) - (σ_5.1 50 k) / 1000 * 1000) ≤ ((((σ_5.1 50 k) / 1000000) * (nI o)) - (((σ_5.1 50 k) / 1000000) * (nI o)) / (((σ_5.1 50 k) / 1000) - ((σ_5.1 50 k) / 1000) / 1000 * 1000) * (((σ_5.1 50 k) / 1000) - ((σ_5.1 50 k) / 1000) / 1000 * 1000)) → (B_X11_goOne_111 Q (nI k) (nI (zp_fs E.1 k)) 1 σ_5))))))) := by
    intro τ D M gg ggD ggph hDp
    have hXτ := gg.rx hX
    obtain ⟨l0, l1, l2, l4, l5⟩ := hXτ.1.2.1.2 k (by omega)
    obtain ⟨p65, p66⟩ := (gg.2.1.1 (zp_fs E.1 k) (by omega)).2 hDp
    rw [p65]
    refine ⟨zp_bi1 _, hinp, ?_⟩
    rintro x rfl
    refine ⟨hin, ?_⟩
    rw [l0]
    -- without asking
    have h113 : zp_kd E.1 k ≠ 5 → B_X11_goOne_113 Q (nI k) (nI (zp_fs E.1 k)) (zp_bi (zp_V E o (zp_fs E.1 k)).1) τ := by
      intro e5
      refine ⟨hin, ?_⟩
      rw [nI_clamp (by omega)]
      rintro τ1 rfl
      refine ⟨hin, ?_⟩
      rw [zp_rn _ _ _ _ (by decide), l0, zp_rn _ _ _ _ (by decide), l2]
      by_cases e4 : zp_kd E.1 k = 4
      · have hV := zp_V4 hw hm e4
        refine zp_nf (by rw [e4]; rfl) ⟨hin, hin, ?_⟩
        rw [nI_clamp (by omega)]
        rintro τ2 rfl
        exact zp_set65 gg hX hht hk ggD (hvs D hDp) (zp_ask_n e5) (by rw [hV]) (fun _ => by rw [hV]) ggph hK
      · have e6 : zp_kd E.1 k = 6 := by omega
        have hV := zp_V6n hw hm e6 hKn
        refine zp_nt (fun z => e4 (zp_ninj (by omega) (by decide) z)) ⟨hin, zp_nt (fun z => e5 (zp_ninj (by omega) (by decide) z)) ⟨hin, ?_⟩⟩
        rw [nI_clamp (by omega)]
        rintro τ2 rfl
        exact zp_set65 gg hX hht hk ggD (hvs D hDp) (zp_ask_n e5) (by rw [hV]) (fun _ => by rw [hV]) ggph hK
    by_cases e5 : zp_kd E.1 k = 5
    · refine zp_nf (by rw [e5]; rfl) ?_
      have w5 := hw.2.2.2.2.2.2.2.2.1 e5
      have hV := zp_V5 hw hm e5
      have hask : zp_ask E o k = (zp_V E o (zp_fs E.1 k)).1 := by unfold zp_ask; rw [hm, decide_eq_true e5]; rfl
      rw [zp_bi1']
      cases hVp : (zp_V E o (zp_fs E.1 k)).1
      · rw [hVp] at hV hask
        refine zp_nt (by decide) ⟨hin, ?_⟩
        rw [nI_clamp (by omega)]
        rintro τ1 rfl
        refine ⟨hin, ?_⟩
        rw [zp_rn _ _ _ _ (by decide), l0]
        refine zp_nt (fun z => by have := zp_ninj (b := 4) (by omega) (by decide) z; omega) ⟨hin, zp_nf (by rw [e5]; rfl) ⟨hinp, hin, ?_⟩⟩
        rw [nI_clamp (by omega)]
        rintro τ2 rfl
        exact zp_set65 gg hX hht hk ggD (hvs D hDp) hask (by rw [hV]; rfl) (fun z => by rw [hV] at z; cases z) ggph hK
      · rw [hVp] at hV hask
        refine zp_nf rfl ⟨hin, hin, ?_⟩
        rintro τ1 rfl
        rw [zp_rn _ _ _ _ (by decide)]
        rintro τ2 rfl
        have l2' : (zv_wi (zv_wi τ 54 k (τ.1 54 k + 1)) 45 10 (τ.1 45 10 + 1)).1 50 k = nI (zp_sc E.1 k) := by
          rw [zp_rn _ _ _ _ (by decide), zp_rn _ _ _ _ (by decide)]; exact l2
        have l0' : (zv_wi (zv_wi τ 54 k (τ.1 54 k + 1)) 45 10 (τ.1 45 10 + 1)).1 48 k = nI (zp_kd E.1 k) := by
          rw [zp_rn _ _ _ _ (by decide), zp_rn _ _ _ _ (by decide)]; exact l0
        rw [l2']
        have em := zp_modulus w5.1
        have hne : ¬ ((nI (zp_sc E.1 k) / 1000) - (nI (zp_sc E.1 k) / 1000) / 1000 * 1000) = 0 := by
          rw [em]; exact nI_ne0 w5.2.1 (by omega)
        refine ⟨hin, hin, hne, hin, ?_⟩
        have fin : ∀ x, x = (zp_V E o k).1 → B_X11_goOne_111 Q (nI k) (nI (zp_fs E.1 k)) (zp_bi x) (zv_wi (zv_wi τ 54 k (τ.1 54 k + 1)) 45 10 (τ.1 45 10 + 1)) := by
          intro x hx
          refine ⟨hin, ?_⟩
          rw [nI_clamp (by omega)]
          rintro τ3 rfl
          refine ⟨hin, ?_⟩
          rw [zp_rn _ _ _ _ (by decide), l0']
          refine zp_nt (fun z => by have := zp_ninj (b := 4) (by omega) (by decide) z; omega) ⟨hin, zp_nf (by rw [e5]; rfl) ⟨hinp, hin, ?_⟩⟩
          rw [nI_clamp (n := k) (by omega), nI_clamp (n := zp_fs E.1 k) (by omega)]
          rintro τ4 rfl
          show Q (zv_wl (zv_wi (zv_wi (zv_wi τ 54 k (τ.1 54 k + 1)) 45 10 (τ.1 45 10 + 1)) 65 k (zp_bi x)) 66 k (τ.2 66 (zp_fs E.1 k)))
          have q54 : ∀ j, (zv_wl (zv_wi (zv_wi (zv_wi τ 54 k (τ.1 54 k + 1)) 45 10 (τ.1 45 10 + 1)) 65 k (zp_bi x)) 66 k (τ.2 66 (zp_fs E.1 k))).1 54 j = τ.1 54 j + (if j = k ∧ zp_ask E o k = true then 1 else 0) := fun j => by
            rw [zp_rl1, zp_rn _ _ _ _ (by decide), zp_rn _ _ _ _ (by decide)]
            by_cases cj : j = k
            · subst cj; rw [zp_rs, if_pos ⟨rfl, hask⟩]
            · rw [zp_rj _ _ cj, if_neg (fun z => cj z.1), Int32.add_zero]
          have q10 : (zv_wl (zv_wi (zv_wi (zv_wi τ 54 k (τ.1 54 k + 1)) 45 10 (τ.1 45 10 + 1)) 65 k (zp_bi x)) 66 k (τ.2 66 (zp_fs E.1 k))).1 45 10 = τ.1 45 10 + (if zp_ask E o k = true then 1 else 0) := by
            rw [zp_rl1, zp_rn _ _ _ _ (by decide), zp_rs, if_pos hask]
          obtain ⟨g1, g2⟩ := zp_setG (σ' := zv_wl (zv_wi (zv_wi (zv_wi τ 54 k (τ.1 54 k + 1)) 45 10 (τ.1 45 10 + 1)) 65 k (zp_bi x)) 66 k (τ.2 66 (zp_fs E.1 k))) gg hX hht hk ggD (hvs D hDp) ((((zp_ch.wi (by decide)).tr (zp_ch.wi (by decide))).tr (zp_ch.wi (by decide))).tr (zp_ch.wl (by decide))) (fun f hf => by rw [zp_rl1, zp_rn _ _ _ _ (by decide), zp_rj _ _ hf, zp_rn _ _ _ _ (by decide)]) (by rw [zv_wl_n _ _ _ (by decide)]; rfl) (by rw [zp_rl1, zp_rs, hx]) (fun z => by rw [zp_rl, if_pos ⟨rfl, rfl⟩, p66 hVp, hV]) (fun j hj => by rw [zp_rl1, zp_rj _ _ hj, zp_rn _ _ _ _ (by decide), zp_rn _ _ _ _ (by decide)]) (fun j hj => by rw [zp_rl, if_neg (fun z => hj z.2)]; rfl) q54 q10
          exact hK _ _ _ _ _ _ g1 (by omega)
        rw [Bool.true_and] at hV
        have hV1 : (zp_V E o k).1 = zp_pass (nI (zp_sc E.1 k)) (nI o) := by rw [hV]
        unfold zp_pass at hV1
        refine zp_by (fun c => ?_) (fun c => ?_)
        · rw [decide_eq_false (fun y => y c)] at hV1
          exact fin false hV1.symm
        · rw [decide_eq_true c] at hV1
          exact fin true hV1.symm
    · exact zp_nt (fun z => e5 (zp_ninj (by omega) (by decide) z)) (h113 e5)
  refine zp_comeG h hX hht hk hDk hvis (fun hDp => ?_) (fun τ t68 hDp gg gl => ?_) (fun τ w' st' hDp gg gl => ?_)
  · refine ⟨hinp, ?_⟩
    rw [nI_clamp (n := zp_fs E.1 k) (by omega)]
    obtain ⟨a1, a2⟩ := aft σ D M h hDk (by omega) hDp
    exact zp_nt a1 a2
  · refine ⟨hinp, ?_⟩
    rw [nI_clamp (n := zp_fs E.1 k) (by omega)]
    obtain ⟨a1, a2⟩ := aft τ _ _ gg (by show (if k = _ then true else D k) = false; rw [if_neg (by omega)]; exact hDk) (by omega) (if_pos rfl)
    exact zp_nt a1 a2
  · refine ⟨hinp, ?_⟩
    rw [nI_clamp (n := zp_fs E.1 k) (by omega), (gg.2.1.1).m1 (by omega)]
    exact zp_nf hDp (hK _ _ _ _ _ _ gg (by omega))
end GOR2
