/-! What stays when other cells change. -/
def zp_ch (zs : List Nat) (σ σ' : zv_St) : Prop := ∀ c, c ∉ zs → σ'.1 c = σ.1 c ∧ σ'.2 c = σ.2 c
theorem zp_ch.rf {zs : List Nat} {σ : zv_St} : zp_ch zs σ σ := fun _ _ => ⟨rfl, rfl⟩
theorem zp_ch.tr {zs : List Nat} {σ σ1 σ2 : zv_St} (h1 : zp_ch zs σ σ1) (h2 : zp_ch zs σ1 σ2) : zp_ch zs σ σ2 := fun c hc => ⟨((h2 c hc).1).trans (h1 c hc).1, ((h2 c hc).2).trans (h1 c hc).2⟩
theorem zp_ch.mono {zs zs' : List Nat} {σ σ' : zv_St} (h : zp_ch zs σ σ') (hs : ∀ c, c ∈ zs → c ∈ zs') : zp_ch zs' σ σ' := fun c hc => h c (fun q => hc (hs c q))
theorem zp_ch.wi {zs : List Nat} {σ : zv_St} {k i : Nat} {x : Int32} (h : k ∈ zs) : zp_ch zs σ (zv_wi σ k i x) := fun c hc => ⟨zv_wi_n σ i x (fun e => hc (e ▸ h)), rfl⟩
theorem zp_ch.wl {zs : List Nat} {σ : zv_St} {k i : Nat} {x : Int64} (h : k ∈ zs) : zp_ch zs σ (zv_wl σ k i x) := fun c hc => ⟨rfl, zv_wl_n σ i x (fun e => hc (e ▸ h))⟩
theorem zp_ch.of {zs cs : List Nat} {σ σ' : zv_St} (h : zp_ch zs σ σ') (hd : cs.all (fun c => !zs.contains c) = true) : ∀ c, c ∈ cs → σ'.1 c = σ.1 c ∧ σ'.2 c = σ.2 c := by
  intro c hc
  have h1 := List.all_eq_true.mp hd c hc
  refine h c (fun q => ?_)
  simp [q] at h1
section ZF
variable {zs : List Nat} {σ σ' : zv_St} {n : Nat} {S : zp_S} {E : zp_E} {w : Nat → Nat → Option Nat} {sz : Nat → Nat} {K : Nat → Option (Nat × (Nat → Bool))}
theorem zp_NC.ch (h : zp_NC σ n S) (hc : zp_ch zs σ σ') (hd : ([5, 6, 7, 8, 10, 11, 12] : List Nat).all (fun c => !zs.contains c) = true) : zp_NC σ' n S := by
  have e := hc.of hd
  unfold zp_NC
  rw [(e 5 (by decide)).1, (e 6 (by decide)).1, (e 7 (by decide)).1, (e 8 (by decide)).1, (e 10 (by decide)).1, (e 11 (by decide)).1, (e 12 (by decide)).1]
  exact h
theorem zp_NR.ch (h : zp_NR σ n S) (hc : zp_ch zs σ σ') (hd : ([48, 49, 50, 51, 52, 53] : List Nat).all (fun c => !zs.contains c) = true) (h2 : σ'.1 45 2 = σ.1 45 2) : zp_NR σ' n S := by
  have e := hc.of hd
  unfold zp_NR
  rw [h2, (e 48 (by decide)).1, (e 49 (by decide)).1, (e 50 (by decide)).1, (e 51 (by decide)).1, (e 52 (by decide)).1, (e 53 (by decide)).1]
  exact h
theorem zp_LR.ch (h : zp_LR σ w sz) (hc : zp_ch zs σ σ') (hd : ([46, 47] : List Nat).all (fun c => !zs.contains c) = true) : zp_LR σ' w sz := by
  have e := hc.of hd
  unfold zp_LR
  rw [(e 46 (by decide)).1, (e 47 (by decide)).1]
  exact h
theorem zp_LC.ch (h : zp_LC σ w sz) (hc : zp_ch zs σ σ') (hd : ([2, 3, 4] : List Nat).all (fun c => !zs.contains c) = true) : zp_LC σ' w sz := by
  have e := hc.of hd
  unfold zp_LC
  rw [(e 2 (by decide)).1, (e 3 (by decide)).1, (e 4 (by decide)).1]
  exact h
theorem zp_KR.ch (h : zp_KR σ n K) (hc : zp_ch zs σ σ') (hd : ([55, 56] : List Nat).all (fun c => !zs.contains c) = true) : zp_KR σ' n K := by
  have e := hc.of hd
  unfold zp_KR
  rw [(e 55 (by decide)).1, (e 56 (by decide)).1]
  exact h
theorem zp_KC.ch (h : zp_KC σ n K) (hc : zp_ch zs σ σ') (hd : ([15, 16, 17] : List Nat).all (fun c => !zs.contains c) = true) : zp_KC σ' n K := by
  have e := hc.of hd
  unfold zp_KC
  rw [(e 15 (by decide)).2, (e 16 (by decide)).1, (e 17 (by decide)).1]
  exact h
theorem zp_BC.ch (h : zp_BC σ n E) (hc : zp_ch zs σ σ') (hd : ([19, 21, 23, 24, 25] : List Nat).all (fun c => !zs.contains c) = true) : zp_BC σ' n E := by
  have e := hc.of hd
  unfold zp_BC
  rw [(e 19 (by decide)).1, (e 21 (by decide)).2, (e 23 (by decide)).2, (e 24 (by decide)).1, (e 25 (by decide)).1]
  exact h
theorem zp_FI.ch (h : zp_FI σ) (hc : zp_ch zs σ σ') (hd : ([0, 31, 32, 33, 70, 71] : List Nat).all (fun c => !zs.contains c) = true) (h2 : σ'.1 45 30 = σ.1 45 30) (h3 : σ'.2 45 27 = σ.2 45 27) : zp_FI σ' := by
  have e := hc.of hd
  unfold zp_FI
  rw [h2, h3, (e 0 (by decide)).2, (e 31 (by decide)).1, (e 32 (by decide)).1, (e 33 (by decide)).2, (e 70 (by decide)).1, (e 71 (by decide)).2]
  exact h
theorem zp_IT.ch (h : zp_IT σ n) (hc : zp_ch zs σ σ') (hd : ([35, 36, 37, 38, 57, 58, 59, 60] : List Nat).all (fun c => !zs.contains c) = true) : zp_IT σ' n := by
  have e := hc.of hd
  unfold zp_IT
  rw [(e 35 (by decide)).1, (e 36 (by decide)).1, (e 37 (by decide)).1, (e 38 (by decide)).1, (e 57 (by decide)).1, (e 58 (by decide)).1, (e 59 (by decide)).1, (e 60 (by decide)).1]
  exact h
theorem zp_AS.ch (h : zp_AS σ n) (hc : zp_ch zs σ σ') (hd : ([9, 54] : List Nat).all (fun c => !zs.contains c) = true) (h2 : σ'.1 45 10 = σ.1 45 10) : zp_AS σ' n := by
  have e := hc.of hd
  unfold zp_AS
  rw [h2, (e 9 (by decide)).1, (e 54 (by decide)).1]
  exact h
end ZF
/-! The calls that change nothing, or little. -/
section OPS1
variable {σ : zv_St}
theorem zp_step_scored (h : zp_Inv σ) (R : Int64 → zv_St → Prop) (hR : ∀ r σ1, (∀ K : Int64 → zv_St → Prop, (∀ σ2, zp_Inv σ2 → K r σ2) → B_X11_scored K σ1) → R r σ1) : B_X10_scored R σ := by
  refine hR _ σ (fun K hK => ?_)
  have h1 := h
  obtain ⟨n, E, -, -, -, -, -, -, -, -, -, -, hF, -, -⟩ := h1
  show K (σ.2 45 27) σ
  rw [hF.1]
  exact hK σ h
theorem zp_step_found (h : zp_Inv σ) (a : Int32) (R : Int32 → zv_St → Prop) (hR : ∀ r σ1, (∀ K : Int32 → zv_St → Prop, (∀ σ2, zp_Inv σ2 → K r σ2) → B_X11_found K a σ1) → R r σ1) : B_X10_found R a σ := by
  have h1 := h
  obtain ⟨n, E, -, -, -, -, -, -, -, -, -, -, hF, -, -⟩ := h1
  obtain ⟨-, f, hf, e1, e2, e3⟩ := hF
  unfold B_X10_found B_X1_has
  rw [e2]
  rcases zp_below a (m := f) (by omega) with ⟨j, hj, rfl⟩ | h0
  · refine zp_f (zp_nneg (by omega)) (zp_f (nI_ge hj (by omega)) ⟨rfl, zp_f (by decide) ⟨vp_in_nI (by omega) (by decide), ?_⟩⟩)
    rw [nI_clamp (by omega)]
    refine hR _ σ (fun K hK => ?_)
    unfold B_X11_found
    rw [e1]
    refine zp_inm_t hj (by omega) (zp_f (by decide) ⟨vp_in_nI (by omega) (by decide), ?_⟩)
    rw [nI_clamp (by omega)]
    show K (σ.1 70 j) σ
    rw [(e3 j hj).1]
    exact hK σ h
  · have key : R (-1) σ := hR _ σ (fun K hK => by
      unfold B_X11_found
      rw [e1]
      exact zp_inm_f (by omega) h0 (zp_t rfl (hK σ h)))
    refine zp_by (fun _ => ⟨rfl, zp_t rfl key⟩) (fun h2 => ?_)
    rcases h0 with h0 | h0
    · exact absurd h0 h2
    · exact zp_t h0 ⟨rfl, zp_t rfl key⟩
theorem zp_step_score (h : zp_Inv σ) (a : Int32) (R : Int64 → zv_St → Prop) (hR : ∀ r σ1, (∀ K : Int64 → zv_St → Prop, (∀ σ2, zp_Inv σ2 → K r σ2) → B_X11_score K a σ1) → R r σ1) : B_X10_score R a σ := by
  have h1 := h
  obtain ⟨n, E, -, -, -, -, -, -, -, -, -, -, hF, -, -⟩ := h1
  obtain ⟨-, f, hf, e1, e2, e3⟩ := hF
  unfold B_X10_score B_X1_has
  rw [e2]
  rcases zp_below a (m := f) (by omega) with ⟨j, hj, rfl⟩ | h0
  · refine zp_f (zp_nneg (by omega)) (zp_f (nI_ge hj (by omega)) ⟨rfl, zp_f (by decide) ⟨vp_in_nI (by omega) (by decide), ?_⟩⟩)
    rw [nI_clamp (by omega)]
    refine hR _ σ (fun K hK => ?_)
    unfold B_X11_score
    rw [e1]
    refine zp_inm_t hj (by omega) (zp_f (by decide) ⟨vp_in_nI (by omega) (by decide), ?_⟩)
    rw [nI_clamp (by omega)]
    show K (σ.2 71 j) σ
    rw [(e3 j hj).2]
    exact hK σ h
  · have key : R 0 σ := hR _ σ (fun K hK => by
      unfold B_X11_score
      rw [e1]
      exact zp_inm_f (by omega) h0 (zp_t rfl (hK σ h)))
    refine zp_by (fun _ => ⟨rfl, zp_t rfl key⟩) (fun h2 => ?_)
    rcases h0 with h0 | h0
    · exact absurd h0 h2
    · exact zp_t h0 ⟨rfl, zp_t rfl key⟩
theorem zp_step_partOf (h : zp_Inv σ) (a b c : Int32) (R : Int32 → zv_St → Prop) (hR : ∀ r σ1, (∀ K : Int32 → zv_St → Prop, (∀ σ2, zp_Inv σ2 → K r σ2) → B_X11_partOf K a b c σ1) → R r σ1) : B_X10_partOf R a b c σ := by
  have h1 := h
  obtain ⟨n, E, hw, hN, hM, -⟩ := h1
  obtain ⟨hn, hw⟩ := hw
  obtain ⟨s1, hN⟩ := hN
  obtain ⟨s2, hM⟩ := hM
  rcases zp_nodeq a hn with ⟨k, hk, rfl⟩ | h0
  · obtain ⟨f1, f2, f3, f4, f5⟩ := hN k hk
    obtain ⟨g1, g2, g3, g4, g5⟩ := hM k hk
    obtain ⟨w1, w2, w3, -⟩ := hw k hk
    have hbad : (b < 0 ∨ nI (zp_mn E.1 k) ≤ b) → R (-2) σ := fun hb => hR _ σ (fun K hK => by
      refine zp_isNode_t s2 hn hk (zp_f (by decide) ⟨vp_in_nI (by omega) (by decide), ?_⟩)
      rw [nI_clamp (by omega), g4]
      exact zp_inm_f (by omega) hb (zp_t rfl (hK σ h)))
    refine zp_has_t s1 hn hk (zp_f (by decide) ?_)
    rcases zp_below b (m := zp_mn E.1 k) (by omega) with ⟨i, hi, rfl⟩ | hb
    · obtain ⟨p1, p2⟩ := f5 i hi
      obtain ⟨q1, q2⟩ := g5 i hi
      refine zp_f (zp_nneg (by omega)) ⟨vp_in_nI (by omega) (by decide), ?_⟩
      rw [nI_clamp (by omega), f4]
      have hR' : ∀ r, (∀ K : Int32 → zv_St → Prop, (∀ σ2, zp_Inv σ2 → K r σ2) → B_X11_in (fun r_6 σ_5 => (¬ r_6 = 0 → ((¬ c = 0 → (vp_in ((8 * nI k) + nI i) 640 ∧ B_X11_partOf_65 K (σ_5.1 53 ((8 * nI k) + nI i).toNatClampNeg) σ_5)) ∧ (c = 0 → (vp_in ((8 * nI k) + nI i) 640 ∧ B_X11_partOf_65 K (σ_5.1 52 ((8 * nI k) + nI i).toNatClampNeg) σ_5)))) ∧ (r_6 = 0 → (B_X11_partOf_33 K σ_5))) c 0 1 σ) → R r σ := fun r hr => hR r σ (fun K hK => by
        refine zp_isNode_t s2 hn hk (zp_f (by decide) ⟨vp_in_nI (by omega) (by decide), ?_⟩)
        rw [nI_clamp (by omega), g4]
        exact zp_inm_t hi (by omega) (zp_f (by decide) (hr K hK)))
      refine zp_t (nI_lt hi (by omega)) ⟨fun c0 => ?_, fun c1 => ?_, fun c2 => ?_⟩
      · subst c0
        unfold B_X5_roleAt
        rw [zp_m8, nI_add]
        refine ⟨vp_in_nI (by omega) (by decide), ?_⟩
        rw [nI_clamp (by omega), p1]
        refine hR' _ (fun K hK => zp_in_t (o := 0) (m := 1) rfl (by decide) (by decide) (zp_nt (by decide) (zp_nf rfl ?_)))
        rw [zp_8m, nI_add]
        refine ⟨vp_in_nI (by omega) (by decide), ?_⟩
        rw [nI_clamp (by omega), q1]
        exact hK σ h
      · subst c1
        unfold B_X5_partAt
        rw [zp_m8, nI_add]
        refine ⟨vp_in_nI (by omega) (by decide), ?_⟩
        rw [nI_clamp (by omega), p2]
        refine hR' _ (fun K hK => zp_in_t (o := 1) (m := 1) rfl (by decide) (by decide) (zp_nt (by decide) (zp_nt (by decide) ?_)))
        rw [zp_8m, nI_add]
        refine ⟨vp_in_nI (by omega) (by decide), ?_⟩
        rw [nI_clamp (by omega), q2]
        exact hK σ h
      · refine hR' _ (fun K hK => zp_in_f (m := 1) rfl ?_ (zp_nf rfl (hK σ h)))
        rcases zp_rng c (m := 1) (by decide) with ⟨j, hj, rfl⟩ | q
        · rcases (show j = 0 ∨ j = 1 by omega) with rfl | rfl
          · exact absurd rfl c2.1
          · exact absurd rfl c2.2
        · exact q
    · refine zp_by (fun _ => hbad hb) (fun hb0 => ⟨vp_in_nI (by omega) (by decide), ?_⟩)
      rw [nI_clamp (by omega), f4]
      rcases hb with hb | hb
      · exact absurd hb hb0
      · refine zp_f (fun q => ?_) (hbad (Or.inr hb))
        rw [Int32.lt_iff_toInt_lt] at q
        rw [Int32.le_iff_toInt_le] at hb
        omega
  · refine zp_has_f s1 h0 (zp_t rfl (hR _ σ (fun K hK => ?_)))
    exact zp_isNode_f s2 hn h0 (zp_t rfl (hK σ h))
end OPS1
