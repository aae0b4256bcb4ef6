/-! The component's LOOK: the way down and up. -/
theorem zp_CX.le {σ : zv_St} {n : Nat} {E : zp_E} {o top k : Nat} (h : zp_CX σ n E o top) (hk : k ≤ top) : zp_CX σ n E o k := ⟨h.1, fun j hj => h.2.1 j (by omega), by have := h.2.2.1; omega, h.2.2.2⟩
theorem zp_OC.le {σ : zv_St} {E : zp_E} {o : Nat} {D : Nat → Bool} {b c : Nat} (h : zp_OC σ E o D b) (hc : c ≤ b) : zp_OC σ E o D c := fun p hp => h p (by omega)
theorem zp_OC.cg {σ σ' : zv_St} {E : zp_E} {o : Nat} {D : Nat → Bool} {b : Nat} (h : zp_OC σ E o D b) (h1 : ∀ p, p < b → σ'.1 28 p = σ.1 28 p ∧ σ'.2 29 p = σ.2 29 p) : zp_OC σ' E o D b := fun p hp => by
  rw [(h1 p hp).1, (h1 p hp).2]; exact h p hp
theorem zp_fill28 {σ : zv_St} {Q : zv_St → Prop} (q : ∀ σ', zp_ch [28] σ σ' → (∀ j, j < 80 → σ'.1 28 j = 0) → Q σ') : B_J7_fill_53178 Q 0 σ := by
  refine zp_for (L := fun u i σ' => L_J7_fill_53178_5 Q u 0 (nI i) 80 σ') 80 (fun i σ' => zp_ch [28] σ σ' ∧ ∀ j, j < i → σ'.1 28 j = 0) (fun u σ' h => zp_t (by decide) (q σ' h.1 h.2)) (fun u i σ' hi h ih => ?_) 0 σ ⟨zp_ch.rf, fun j hj => by omega⟩ (by decide)
  refine zp_f (nI_ge (b := 80) hi (by decide)) ⟨vp_in_nI (by omega) (by decide), ?_⟩
  rw [nI_clamp (by omega), nI_1]
  rintro σ1 rfl
  refine ih _ ⟨h.1.tr (zp_ch.wi (List.mem_cons_self ..)), fun j hj => ?_⟩
  by_cases ej : j = i
  · subst ej; rw [zp_rs]
  · rw [zp_rj _ _ ej]; exact h.2 j (by omega)
def zp_wu (w : Nat → Nat) (d p : Nat) (i : Nat) : Nat := if i = d then p else w i
theorem zp_wu_s (w : Nat → Nat) (d p : Nat) : zp_wu w d p d = p := if_pos rfl
theorem zp_wu_n (w : Nat → Nat) {d i : Nat} (p : Nat) (h : i ≠ d) : zp_wu w d p i = w i := if_neg h
/-- the way: its NODES go down -/
def zp_way (σ : zv_St) (D M : Nat → Bool) (top d : Nat) (w : Nat → Nat) : Prop := (∀ i, i < d → σ.1 30 i = nI (w i) ∧ M (w i) = true ∧ D (w i) = false) ∧ (∀ i j, i < j → j < d → w j < w i) ∧ (∀ k, M k = true → D k = true ∨ ∃ i, i < d ∧ w i = k) ∧ M top = true
def zp_MI (σ0 : zv_St) (E : zp_E) (o top d t : Nat) (σ : zv_St) (D M : Nat → Bool) : Prop :=
  zp_ch [9, 28, 29, 30] σ0 σ ∧ zp_OC σ E o D (top + 1) ∧ (∀ k, D k = true → M k = true) ∧ (∀ k, M k = true → k ≤ top ∧ zp_inR E o top k) ∧ (∀ k p, D k = true → zp_vis E o k p → D p = true) ∧ (∃ w, zp_way σ D M top d w) ∧ (∀ j, σ.1 9 j = σ0.1 9 j + (if D j = true ∧ zp_ask E o j = true then 1 else 0)) ∧ zp_card M 80 = zp_card D 80 + d ∧ t + 1 = 2 * zp_card D 80 + d
/-- what a LOOK leaves behind, on both sides -/
def zp_R (E : zp_E) (o top : Nat) (D : Nat → Bool) : Prop := ∀ k, D k = true ↔ zp_inR E o top k
theorem zp_R.cg {E : zp_E} {o top : Nat} {D D' : Nat → Bool} (h : zp_R E o top D) (h' : zp_R E o top D') (k : Nat) : D k = D' k := by
  rw [Bool.eq_iff_iff, h k, h' k]
theorem zp_R_of {E : zp_E} {o top : Nat} {D : Nat → Bool} (h1 : ∀ k, D k = true → zp_inR E o top k) (h2 : ∀ k p, D k = true → zp_vis E o k p → D p = true) (h3 : D top = true) : zp_R E o top D := fun k => ⟨h1 k, fun h => h (fun k => D k = true) h3 h2⟩
section MATCH
variable {σ : zv_St} {Q : Int32 → zv_St → Prop} {n o top : Nat} {E : zp_E}
theorem zp_matches (hX : zp_CX σ n E o top) (q : ∀ D σ', zp_ch [9, 28, 29, 30] σ σ' → zp_R E o top D → (∀ j, σ'.1 9 j = σ.1 9 j + (if D j = true ∧ zp_ask E o j = true then 1 else 0)) → ((zp_V E o top).1 = true → σ'.2 29 top = (zp_V E o top).2) → Q (zp_bi (zp_V E o top).1) σ') : B_X4_matches Q (nI top) (nI o) σ := by
  have hn := hX.1.1.1
  have htop := hX.2.2
  have hwf := hX.1.1
  have c80 : ∀ f : Nat → Bool, zp_card f 80 ≤ 80 := fun f => zp_card_le f 80
  refine zp_maybe hX (Nat.le_refl _) ?_
  cases hm : zp_may E o top
  · refine zp_nf rfl ?_
    have hV := zp_Vn (hwf.2 top (by omega)) hm
    have := q (fun k => decide (k = top)) σ zp_ch.rf (zp_R_of (fun k hk => by rw [of_decide_eq_true hk]; exact zp_inR.top) (fun k p hk hv => by have := hv.1; rw [of_decide_eq_true hk, hm] at this; cases this) (decide_eq_true rfl)) (fun j => by
      rw [if_neg, Int32.add_zero]
      rintro ⟨z1, z2⟩
      rw [of_decide_eq_true z1] at z2
      unfold zp_ask at z2
      rw [hm] at z2
      cases z2) (fun z => by rw [hV] at z; cases z)
    rw [hV] at this
    exact this
  refine zp_nt (by decide) ?_
  refine zp_fill28 (fun σ1 c1 z1 => ⟨vp_in_nI (n := 0) (N := 80) (by decide) (by decide), ?_⟩)
  rintro σ2 rfl
  have hc0 : ((0 : Int32).toNatClampNeg) = 0 := rfl
  rw [hc0]
  have c2 : zp_ch [9, 28, 29, 30] σ (zv_wi σ1 30 0 (nI top)) := (c1.mono (by decide)).tr (zp_ch.wi (by decide))
  refine ⟨161, zp_iter (L := fun u (a : Nat × Nat × zv_St) => L_X4_matches_34 Q u (nI top) (nI o) (nI a.1) (nI a.2.1) a.2.2) (fun m a => m + a.2.1 = 160 ∧ ∃ D M, zp_MI σ E o top a.1 a.2.1 a.2.2 D M) ?_ 160 (1, 0, zv_wi σ1 30 0 (nI top)) ⟨rfl, fun _ => false, zp_mk (fun _ => false) top, c2, fun p hp => ?_, fun k hk => (by cases hk), fun k hk => ?_, fun k p hk => (by cases hk), ⟨fun _ => top, fun i hi => ?_, fun i j h1 h2 => (by simp only at h2; omega), fun k hk => ?_, if_pos rfl⟩, fun j => ?_, ?_, ?_⟩⟩
  · -- a turn
    rintro m u ⟨d, t, σ'⟩ ⟨hmt, D, M, g1, g2, g3, g4, g5, ⟨w, w1, w2, w3, w4⟩, g7, g8, g9⟩ ih
    simp only at hmt g1 g2 g8 g9 w1 w2 w3 w4 g7 ih
    show L_X4_matches_34 Q (u + 1) (nI top) (nI o) (nI d) (nI t) σ'
    have hX' := hX.ch g1
    have cM := c80 M
    by_cases d0 : d = 0
    · subst d0
      have h170 : B_X4_matches_170 Q (nI top) σ' := by
        refine ⟨vp_in_nI (by omega) (by decide), ?_⟩
        have hD : D top = true := by
          rcases w3 top w4 with z | ⟨i, hi, -⟩
          · exact z
          · exact absurd hi (Nat.not_lt_zero _)
        obtain ⟨o1, o2, o3⟩ := g2 top (by omega)
        rw [zp_Dv_t hD] at o2 o3
        rw [nI_clamp (by omega), o2]
        have := q D σ' g1 (zp_R_of (fun k hk => (g4 k (g3 k hk)).2) g5 hD) g7 o3
        cases hV : (zp_V E o top).1
        · rw [hV] at this; exact zp_nt (by decide) ⟨rfl, this⟩
        · rw [hV] at this; exact zp_nf rfl ⟨rfl, this⟩
      exact zp_by (fun _ => h170) (fun _ => zp_t (by decide) h170)
    · refine zp_f (nI_ge (b := 160) (a := t) (by omega) (by decide)) (zp_f (nI_nle (by omega) (by omega)) ?_)
      rw [zp_n1 (by omega)]
      refine ⟨vp_in_nI (by omega) (by decide), ?_⟩
      obtain ⟨k1, k2, k3⟩ := w1 (d - 1) (by omega)
      rw [nI_clamp (by omega), k1]
      rintro v rfl
      obtain ⟨k4, k5⟩ := g4 _ k2
      generalize hlast : w (d - 1) = last at k1 k2 k3 k4 k5
      refine zp_wantedBy (D := D) (hX'.le k4) (g2.le (by omega)) (Nat.le_refl _) (fun p hv hD => ?_) (fun hs => ?_)
      · -- it wants p
        have hpl := hv.part hwf (by omega)
        have hMp : M p = false := by
          cases c : M p
          · rfl
          · rcases w3 p c with z | ⟨i, hi, z⟩
            · rw [hD] at z; cases z
            · by_cases ci : i = d - 1
              · subst ci; omega
              · have := w2 i (d - 1) (by omega) (by omega)
                omega
        have hcm := zp_card_mk hMp 80
        rw [if_pos (by omega)] at hcm
        have := c80 (zp_mk M p)
        refine zp_f (zp_neg1 (by omega)) (zp_f (nI_ge (b := 80) (a := d) (by omega) (by decide)) ⟨vp_in_nI (by omega) (by decide), ?_⟩)
        rw [nI_clamp (by omega)]
        unfold B_X4_matches_164
        rw [nI_1, nI_1]
        rintro σ2 rfl
        have e30 : zp_ch [9, 28, 29, 30] σ' (zv_wi σ' 30 d (nI p)) := zp_ch.wi (by decide)
        refine ih (d + 1, t + 1, zv_wi σ' 30 d (nI p)) (by omega) ⟨by show m - 1 + (t + 1) = 160; omega, D, zp_mk M p, g1.tr e30, g2.cg (fun j hj => ⟨zp_rn _ _ _ _ (by decide), rfl⟩), fun k hk => ?_, fun k hk => ?_, g5, ⟨zp_wu w d p, fun i hi => ?_, fun i j hij hj => ?_, fun k hk => ?_, (by show (if top = p then true else M top) = true; rw [w4]; split <;> rfl)⟩, fun j => ?_, ?_, ?_⟩
        · show (if k = p then true else M k) = true
          rw [g3 k hk]; split <;> rfl
        · by_cases c : k = p
          · subst c; exact ⟨by omega, k5.vis hv⟩
          · have hk : (if k = p then true else M k) = true := hk
            rw [if_neg c] at hk; exact g4 k hk
        · simp only at hi
          by_cases c : i = d
          · subst c
            rw [zp_wu_s]
            show (zv_wi σ' 30 i (nI p)).1 30 i = _ ∧ _
            rw [zp_rs]
            exact ⟨rfl, by show (if p = p then true else M p) = true; rw [if_pos rfl], hD⟩
          · rw [zp_wu_n _ _ c]
            show (zv_wi σ' 30 d (nI p)).1 30 i = _ ∧ _
            rw [zp_rj _ _ c]
            obtain ⟨y1, y2, y3⟩ := w1 i (by omega)
            refine ⟨y1, ?_, y3⟩
            show (if w i = p then true else M (w i)) = true
            rw [y2]; split <;> rfl
        · simp only at hj
          by_cases c : j = d
          · subst c
            rw [zp_wu_s, zp_wu_n _ _ (by omega)]
            by_cases ci : i = j - 1
            · subst ci; omega
            · have := w2 i (j - 1) (by omega) (by omega)
              omega
          · rw [zp_wu_n _ _ c, zp_wu_n _ _ (by omega)]
            exact w2 i j hij (by omega)
        · by_cases c : k = p
          · subst c; exact Or.inr ⟨d, by simp only; omega, zp_wu_s _ _ _⟩
          · have hk : (if k = p then true else M k) = true := hk
            rw [if_neg c] at hk
            rcases w3 k hk with z | ⟨i, hi, z⟩
            · exact Or.inl z
            · exact Or.inr ⟨i, by simp only; omega, by rw [zp_wu_n _ _ (by omega)]; exact z⟩
        · show (zv_wi σ' 30 d (nI p)).1 9 j = _
          rw [zp_rn _ _ _ _ (by decide)]; exact g7 j
        · show zp_card (zp_mk M p) 80 = zp_card D 80 + (d + 1)
          omega
        · show t + 1 + 1 = 2 * zp_card D 80 + (d + 1)
          omega
      · -- it is settled
        refine zp_t rfl ?_
        have hwl := hwf.2 last (by omega)
        have hcd := zp_card_mk k3 80
        rw [if_pos (by omega)] at hcd
        have fin : ∀ (σ3 : zv_St), zp_ch [9, 28, 29, 30] σ σ3 → (∀ p, p ≤ top → p ≠ last → σ3.1 28 p = σ'.1 28 p ∧ σ3.2 29 p = σ'.2 29 p) → σ3.1 28 last = (if (zp_V E o last).1 = true then 1 else 2) → ((zp_V E o last).1 = true → σ3.2 29 last = (zp_V E o last).2) → σ3.1 30 = σ'.1 30 → (∀ j, σ3.1 9 j = σ'.1 9 j + (if j = last ∧ zp_ask E o last = true then 1 else 0)) → B_X4_matches_164 Q (L_X4_matches_34 Q u) (nI top) (nI o) (nI d + -1) (nI t) σ3 := by
          intro σ3 f1 f2 f3 f4 f5 f6
          unfold B_X4_matches_164
          rw [nI_1, zp_p1 (by omega)]
          refine ih (d - 1, t + 1, σ3) (by omega) ⟨by show m - 1 + (t + 1) = 160; omega, zp_mk D last, M, f1, fun p hp => ?_, fun k hk => ?_, g4, fun k p hk hv => ?_, ⟨w, fun i hi => ?_, fun i j hij hj => w2 i j hij (by simp only at hj; omega), fun k hk => ?_, w4⟩, fun j => ?_, ?_, ?_⟩
          · by_cases c : p = last
            · subst c
              have hDt : zp_mk D p p = true := if_pos rfl
              rw [zp_Dv_t hDt, hDt, f3]
              refine ⟨?_, ?_, f4⟩
              · cases (zp_V E o p).1 <;> decide
              · cases (zp_V E o p).1 <;> decide
            · have hDp : zp_mk D last p = D p := if_neg c
              have hDv : zp_Dv E o (zp_mk D last) p = zp_Dv E o D p := by unfold zp_Dv; rw [hDp]
              rw [hDv, hDp, (f2 p (by omega) c).1, (f2 p (by omega) c).2]
              exact g2 p hp
          · by_cases c : k = last
            · subst c; exact k2
            · have hk : (if k = last then true else D k) = true := hk
              rw [if_neg c] at hk; exact g3 k hk
          · show (if p = last then true else D p) = true
            have hp : D p = true := by
              by_cases c : k = last
              · subst c; exact hs.1 p hv
              · have hk : (if k = last then true else D k) = true := hk
                rw [if_neg c] at hk; exact g5 k p hk hv
            rw [hp]; split <;> rfl
          · simp only at hi
            obtain ⟨y1, y2, y3⟩ := w1 i (by omega)
            rw [f5]
            refine ⟨y1, y2, ?_⟩
            show (if w i = last then true else D (w i)) = false
            have := w2 i (d - 1) (by omega) (by omega)
            rw [if_neg (by omega)]; exact y3
          · show (if k = last then true else D k) = true ∨ _
            by_cases c : k = last
            · left; rw [if_pos c]
            · rw [if_neg c]
              rcases w3 k hk with z | ⟨i, hi, z⟩
              · exact Or.inl z
              · refine Or.inr ⟨i, ?_, z⟩
                simp only
                have : i ≠ d - 1 := fun y => by subst y; omega
                omega
          · show σ3.1 9 j = _
            rw [f6 j, g7 j]
            by_cases c : j = last
            · subst c
              have hDt : zp_mk D j j = true := if_pos rfl
              rw [hDt, if_neg (fun y => by rw [k3] at y; cases y.1), Int32.add_zero]
              by_cases ca : zp_ask E o j = true
              · rw [if_pos ⟨rfl, ca⟩, if_pos ⟨rfl, ca⟩]
              · rw [if_neg (fun y => ca y.2), if_neg (fun y => ca y.2)]
            · have hDp : zp_mk D last j = D j := if_neg c
              rw [hDp, if_neg (fun y : j = last ∧ _ => c y.1), Int32.add_zero]
          · show zp_card M 80 = zp_card (zp_mk D last) 80 + (d - 1)
            omega
          · show t + 1 + 1 = 2 * zp_card (zp_mk D last) 80 + (d - 1)
            omega
        have hin : vp_in (nI last) 80 := vp_in_nI (by omega) (by decide)
        have h118 : (zp_V E o last).1 = false → ∀ σ1, zp_ch [9] σ' σ1 → (∀ j, σ1.1 9 j = σ'.1 9 j + (if j = last ∧ zp_ask E o last = true then 1 else 0)) → B_X4_matches_118 Q (L_X4_matches_34 Q u) (nI top) (nI o) (nI d) (nI t) (nI last) σ1 := by
          intro hV σ1 e1 e9
          refine zp_t rfl ⟨hin, ?_⟩
          rw [nI_clamp (by omega)]
          rintro σ2 rfl
          refine zp_t rfl ⟨hin, ?_⟩
          rw [nI_clamp (by omega)]
          rintro σ3 rfl
          refine fin _ (g1.tr ((e1.mono (by decide)).tr ((zp_ch.wi (by decide)).tr (zp_ch.wl (by decide))))) (fun p hp hpl => ⟨?_, ?_⟩) ?_ (fun z => by rw [hV] at z; cases z) ?_ (fun j => ?_)
          · rw [zp_rl1, zp_rj _ _ hpl, congrFun (e1 28 (by decide)).1 p]
          · rw [zp_rl, if_neg (fun y => hpl y.2), zp_ri2, congrFun (e1 29 (by decide)).2 p]
          · rw [zp_rl1, zp_rs, hV]; rfl
          · rw [zp_rl1, zv_wi_n _ _ _ (by decide), (e1 30 (by decide)).1]
          · rw [zp_rl1, zp_rn _ _ _ _ (by decide)]; exact e9 j
        refine zp_maybe hX' k4 ?_
        cases hml : zp_may E o last
        · refine zp_t rfl (h118 (by rw [zp_Vn hwl hml]) σ' zp_ch.rf (fun j => ?_))
          rw [if_neg, Int32.add_zero]
          rintro ⟨-, y⟩
          unfold zp_ask at y
          rw [hml] at y
          cases y
        · refine zp_f (by decide) ?_
          refine zp_fitsByParts (hX'.le k4) (g2.le (by omega)) (Nat.le_refl _) hml hs (fun σ1 e1 e9 => ?_)
          cases hV : (zp_V E o last).1
          · exact zp_t rfl (h118 hV σ1 e1 e9)
          · refine zp_f (by decide) (zp_f (by decide) ⟨hin, ?_⟩)
            rw [nI_clamp (by omega)]
            rintro σ2 rfl
            refine zp_f (by decide) ?_
            have e2 : zp_ch [9, 28, 29, 30] σ' (zv_wi σ1 28 last 1) := (e1.mono (by decide)).tr (zp_ch.wi (by decide))
            have hO2 : zp_OC (zv_wi σ1 28 last 1) E o D last := (g2.le (by omega)).cg (fun p hp => ⟨by rw [zp_rj _ _ (by omega), congrFun (e1 28 (by decide)).1 p], by rw [zp_ri2, congrFun (e1 29 (by decide)).2 p]⟩)
            refine zp_scoreByParts ((hX.ch (g1.tr e2)).le k4) hO2 (Nat.le_refl _) hml hs hV ⟨hin, ?_⟩
            rw [nI_clamp (by omega)]
            rintro σ3 rfl
            refine fin _ (g1.tr (e2.tr (zp_ch.wl (by decide)))) (fun p hp hpl => ⟨?_, ?_⟩) ?_ (fun _ => ?_) ?_ (fun j => ?_)
            · rw [zp_rl1, zp_rj _ _ hpl, congrFun (e1 28 (by decide)).1 p]
            · rw [zp_rl, if_neg (fun y => hpl y.2), zp_ri2, congrFun (e1 29 (by decide)).2 p]
            · rw [zp_rl1, zp_rs, hV]; rfl
            · rw [zp_rl, if_pos ⟨rfl, rfl⟩]
            · rw [zp_rl1, zv_wi_n _ _ _ (by decide), (e1 30 (by decide)).1]
            · rw [zp_rl1, zp_rn _ _ _ _ (by decide)]; exact e9 j
  · -- the beginning
    have : (zv_wi σ1 30 0 (nI top)).1 28 p = 0 := by rw [zp_rn _ _ _ _ (by decide)]; exact z1 p (by omega)
    rw [this]
    refine ⟨⟨fun _ => rfl, fun _ => rfl⟩, ⟨fun z => absurd z (by decide), fun z => ?_⟩, fun z => ?_⟩
    · cases z
    · cases z
  · by_cases c : k = top
    · subst c; exact ⟨Nat.le_refl _, zp_inR.top⟩
    · have hk : (if k = top then true else false) = true := hk
      rw [if_neg c] at hk; cases hk
  · simp only at hi
    have : i = 0 := by omega
    subst this
    refine ⟨?_, if_pos rfl, rfl⟩
    show (zv_wi σ1 30 0 (nI top)).1 30 0 = _
    rw [zp_rs]
  · by_cases c : k = top
    · subst c; exact Or.inr ⟨0, Nat.one_pos, rfl⟩
    · have hk : (if k = top then true else false) = true := hk
      rw [if_neg c] at hk; cases hk
  · show (zv_wi σ1 30 0 (nI top)).1 9 j = _
    rw [zp_rn _ _ _ _ (by decide), congrFun (c1 9 (by decide)).1 j, if_neg (fun y => by cases y.1), Int32.add_zero]
  · show zp_card (zp_mk (fun _ => false) top) 80 = zp_card (fun _ => false) 80 + 1
    rw [zp_card_mk rfl, if_pos (by omega)]
  · show 0 + 1 = 2 * zp_card (fun _ => false) 80 + 1
    decide
end MATCH
