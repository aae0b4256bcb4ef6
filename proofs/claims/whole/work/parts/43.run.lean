/-! run. -/
theorem zp_CX.ch' {zs : List Nat} {σ σ' : zv_St} {n : Nat} {E : zp_E} {o o' top : Nat} (h : zp_CX σ n E o top) (hc : zp_ch zs σ σ') (hd : ([5, 6, 7, 8, 10, 11, 12, 2, 3, 4, 15, 16, 17] : List Nat).all (fun c => !zs.contains c) = true) (hd2 : ([21, 23, 24, 25] : List Nat).all (fun c => !zs.contains c) = true) (ho : o' < 512) : zp_CX σ' n E o' top := by
  have e := hc.of hd2
  refine ⟨h.1.ch hc hd, fun k hk => ?_, h.2.2.1, ho⟩
  have := h.2.1 k hk
  unfold zp_BD at this ⊢
  rw [(e 24 (by decide)).1, (e 25 (by decide)).1, (e 21 (by decide)).2, (e 23 (by decide)).2]
  exact this
/-- the objects below i that match -/
def zp_fl (E : zp_E) (top : Nat) : Nat → List Nat
  | 0 => []
  | i + 1 => if (zp_V E i top).1 = true then zp_fl E top i ++ [i] else zp_fl E top i
theorem zp_fl_len (E : zp_E) (top : Nat) : ∀ i, (zp_fl E top i).length ≤ i := by
  intro i
  induction i with
  | zero => exact Nat.le_refl _
  | succ i ih =>
    show (if (zp_V E i top).1 = true then zp_fl E top i ++ [i] else zp_fl E top i).length ≤ _
    split
    · rw [List.length_append]; exact Nat.succ_le_succ ih
    · omega
def zp_FC (σ : zv_St) (E : zp_E) (top : Nat) (l : List Nat) : Prop := σ.1 31 2 = nI l.length ∧ ∀ j, j < l.length → σ.1 32 j = nI (l.getD j 0) ∧ σ.2 33 j = (zp_V E (l.getD j 0) top).2
def zp_FR (σ : zv_St) (E : zp_E) (top : Nat) (l : List Nat) : Prop := σ.1 45 30 = nI l.length ∧ ∀ j, j < l.length → σ.1 70 j = nI (l.getD j 0) ∧ σ.2 71 j = (zp_V E (l.getD j 0) top).2
section RUN
variable {σ : zv_St} {n k : Nat} {E : zp_E}
theorem zp_runC {Q : Int32 → zv_St → Prop} (hX : zp_CX σ n E 0 k) (hF : zp_FC σ E k []) (q : ∀ σ', zp_ch [9, 28, 29, 30, 31, 32, 33] σ σ' → (∀ j, σ'.1 9 j = σ.1 9 j + zp_ad E k 0 512 j) → zp_FC σ' E k (zp_fl E k 512) → Q (nI (zp_fl E k 512).length) σ') : ∃ u, L_X10_run_31 Q u (nI k) 0 σ := by
  have hn := hX.1.1.1
  have htop := hX.2.2
  have hin : vp_in (nI k) 80 := vp_in_nI (by omega) (by decide)
  refine zp_for (L := fun u i σ' => L_X10_run_31 Q u (nI k) (nI i) σ') 512 (fun i σ' => zp_ch [9, 28, 29, 30, 31, 32, 33] σ σ' ∧ (∀ j, σ'.1 9 j = σ.1 9 j + zp_ad E k 0 i j) ∧ zp_FC σ' E k (zp_fl E k i)) (fun u σ' h => ?_) (fun u i σ' hi h ih => ?_) 0 σ ⟨zp_ch.rf, fun j => (Int32.add_zero _).symm, hF⟩ (by decide)
  · refine zp_t (by decide) ?_
    show Q (σ'.1 31 2) σ'
    rw [h.2.2.1]
    exact q σ' h.1 h.2.1 h.2.2
  · obtain ⟨g1, g2, g3⟩ := h
    have hlen := zp_fl_len E k i
    refine zp_f (nI_ge (b := 512) hi (by decide)) ?_
    refine zp_matchesD (hX.ch' g1 (by decide) (by decide) hi) (fun σ2 c2 h9 hs => ?_)
    have h9' : ∀ j, σ2.1 9 j = σ.1 9 j + zp_ad E k 0 (i + 1) j := fun j => by
      rw [h9 j, g2 j]
      show _ = _ + (zp_ad E k 0 i j + zp_dl E (0 + i) k j)
      rw [Nat.zero_add, Int32.add_assoc]
    have hfl : zp_fl E k (i + 1) = if (zp_V E i k).1 = true then zp_fl E k i ++ [i] else zp_fl E k i := rfl
    have e31 := congrFun (c2 31 (by decide)).1 2
    have e32 := (c2 32 (by decide)).1
    have e33 := (c2 33 (by decide)).2
    unfold B_X10_run_66
    rw [nI_1]
    cases hV : (zp_V E i k).1
    · rw [hV, if_neg (by decide)] at hfl
      refine zp_t rfl (ih σ2 ⟨g1.tr (c2.mono (by decide)), h9', ?_⟩)
      rw [hfl]
      exact ⟨e31.trans g3.1, fun j hj => by rw [e32, e33]; exact g3.2 j hj⟩
    · rw [hV, if_pos rfl] at hfl
      refine zp_f (by decide) ⟨hin, ?_⟩
      rw [nI_clamp (by omega), hs hV]
      have e31' := e31.trans g3.1
      show B_X1_add _ (nI i) (zp_V E i k).2 σ2
      unfold B_X1_add
      rw [e31']
      refine zp_f (nI_ge (b := 512) (by omega) (by decide)) ⟨vp_in_nI (by omega) (by decide), ?_⟩
      rw [nI_clamp (by omega)]
      rintro τ1 rfl
      rw [zp_rn _ _ _ _ (by decide), e31', nI_clamp (by omega)]
      refine ⟨vp_in_nI (by omega) (by decide), ?_⟩
      rintro τ2 rfl
      rw [zp_rl1, zp_rn _ _ _ _ (by decide), e31', nI_1]
      rintro τ3 rfl
      refine ih _ ⟨g1.tr ((c2.mono (by decide)).tr ((zp_ch.wi (by decide)).tr ((zp_ch.wl (by decide)).tr (zp_ch.wi (by decide))))), fun j => ?_, ?_⟩
      · rw [zp_rn _ _ _ _ (by decide), zp_rl1, zp_rn _ _ _ _ (by decide)]; exact h9' j
      · rw [hfl]
        refine ⟨?_, fun j hj => ?_⟩
        · rw [zp_rs, List.length_append]; rfl
        · rw [List.length_append] at hj
          have hj : j < (zp_fl E k i).length + 1 := hj
          rw [zp_rn _ _ _ _ (by decide), zp_rl1, zp_ri2, zp_rl]
          by_cases c : j = (zp_fl E k i).length
          · subst c
            rw [zp_rs, if_pos ⟨rfl, rfl⟩, zp_getD_e]
            exact ⟨rfl, rfl⟩
          · rw [zp_rj _ _ c, if_neg (fun z => c z.2), zp_ri2, e32, e33, zp_getD_l (by omega)]
            exact g3.2 j (by omega)
theorem zp_runR {Q : Int32 → zv_St → Prop} (hS : zp_RS σ n E) (hk : k < n) (hA : σ.1 45 10 = zp_asum (σ.1 54) n) (hF : zp_FR σ E k []) (q : ∀ σ', zp_ch [45, 54, 62, 63, 64, 65, 66, 67, 68, 69, 70, 71] σ σ' → (∀ f, f ≠ 26 → f ≠ 10 → f ≠ 30 → σ'.1 45 f = σ.1 45 f) → σ'.2 45 = σ.2 45 → (∀ j, σ'.1 54 j = σ.1 54 j + zp_ad E k 0 512 j) → σ'.1 45 10 = zp_asum (σ'.1 54) n → zp_FR σ' E k (zp_fl E k 512) → Q (nI (zp_fl E k 512).length) σ') : ∃ u, L_X11_run_18 Q u (nI k) 0 σ := by
  have hn := hS.1.1
  have hin : vp_in (nI k) 80 := vp_in_nI (by omega) (by decide)
  refine zp_for (L := fun u i σ' => L_X11_run_18 Q u (nI k) (nI i) σ') 512 (fun i σ' => zp_ch [45, 54, 62, 63, 64, 65, 66, 67, 68, 69, 70, 71] σ σ' ∧ (∀ f, f ≠ 26 → f ≠ 10 → f ≠ 30 → σ'.1 45 f = σ.1 45 f) ∧ σ'.2 45 = σ.2 45 ∧ (∀ j, σ'.1 54 j = σ.1 54 j + zp_ad E k 0 i j) ∧ σ'.1 45 10 = zp_asum (σ'.1 54) n ∧ zp_FR σ' E k (zp_fl E k i)) (fun u σ' h => ?_) (fun u i σ' hi h ih => ?_) 0 σ ⟨zp_ch.rf, fun _ _ _ _ => rfl, rfl, fun j => (Int32.add_zero _).symm, hA, hF⟩ (by decide)
  · obtain ⟨g1, g2, g3, g4, g5, g6⟩ := h
    refine zp_t (by decide) ?_
    rw [g6.1]
    exact q σ' g1 g2 g3 g4 g5 g6
  · obtain ⟨g1, g2, g3, g4, g5, g6⟩ := h
    have hlen := zp_fl_len E k i
    refine zp_f (nI_ge (b := 512) hi (by decide)) ?_
    have hS' := hS.ch g1 (by decide) (g2 2 (by decide) (by decide) (by decide))
    refine zp_goD hS' hk hi g5 (fun σ2 c2 c45 c45' h54 h10 hs => ?_)
    have h54' : ∀ j, σ2.1 54 j = σ.1 54 j + zp_ad E k 0 (i + 1) j := fun j => by
      rw [h54 j, g4 j]
      show _ = _ + (zp_ad E k 0 i j + zp_dl E (0 + i) k j)
      rw [Nat.zero_add, Int32.add_assoc]
    have hfl : zp_fl E k (i + 1) = if (zp_V E i k).1 = true then zp_fl E k i ++ [i] else zp_fl E k i := rfl
    have e30 := c45 30 (by decide) (by decide)
    have e70 := (c2 70 (by decide)).1
    have e71 := (c2 71 (by decide)).2
    unfold B_X11_run_69
    rw [nI_1]
    cases hV : (zp_V E i k).1
    · rw [hV, if_neg (by decide)] at hfl
      refine zp_t rfl (ih σ2 ⟨g1.tr (c2.mono (by decide)), fun f f1 f2 f3 => (c45 f f1 f2).trans (g2 f f1 f2 f3), c45'.trans g3, h54', h10, ?_⟩)
      rw [hfl]
      exact ⟨e30.trans g6.1, fun j hj => by rw [e70, e71]; exact g6.2 j hj⟩
    · rw [hV, if_pos rfl] at hfl
      have e30' := e30.trans g6.1
      refine zp_f (by decide) ?_
      rw [e30']
      refine ⟨vp_in_nI (by omega) (by decide), ?_⟩
      rw [nI_clamp (n := (zp_fl E k i).length) (by omega)]
      rintro τ1 rfl
      rw [zp_rn _ _ _ _ (by decide), e30', nI_clamp (n := (zp_fl E k i).length) (by omega), nI_clamp (n := k) (by omega)]
      refine ⟨hin, vp_in_nI (by omega) (by decide), ?_⟩
      rintro τ2 rfl
      rw [zp_rl1, zp_rn _ _ _ _ (by decide), e30', nI_1]
      rintro τ3 rfl
      refine ih _ ⟨g1.tr ((c2.mono (by decide)).tr ((zp_ch.wi (by decide)).tr ((zp_ch.wl (by decide)).tr (zp_ch.wi (by decide))))), fun f f1 f2 f3 => ?_, ?_, fun j => ?_, ?_, ?_⟩
      · rw [zp_rj _ _ f3, zp_rl1, zp_rn _ _ _ _ (by decide)]; exact (c45 f f1 f2).trans (g2 f f1 f2 f3)
      · rw [zp_ri2, zv_wl_n _ _ _ (by decide), zp_ri2]; exact c45'.trans g3
      · rw [zp_rn _ _ _ _ (by decide), zp_rl1, zp_rn _ _ _ _ (by decide)]; exact h54' j
      · rw [zp_rj _ _ (by decide), zp_rl1, zp_rn _ _ _ _ (by decide), zv_wi_n _ _ _ (by decide), zp_rl1, zv_wi_n _ _ _ (by decide)]; exact h10
      · rw [hfl]
        refine ⟨?_, fun j hj => ?_⟩
        · rw [zp_rs, List.length_append]; rfl
        · rw [List.length_append] at hj
          have hj : j < (zp_fl E k i).length + 1 := hj
          rw [zp_rn _ _ _ _ (by decide), zp_rl1, zp_ri2, zp_rl]
          by_cases c : j = (zp_fl E k i).length
          · subst c
            rw [zp_rs, if_pos ⟨rfl, rfl⟩, zp_getD_e, zp_ri2, hs hV]
            exact ⟨rfl, rfl⟩
          · rw [zp_rj _ _ c, if_neg (fun z => c z.2), zp_ri2, e70, e71, zp_getD_l (by omega)]
            exact g6.2 j (by omega)
theorem zp_step_run {σ : zv_St} (h : zp_Inv σ) (a : Int32) (R : Int32 → zv_St → Prop) (hR : ∀ r σ1, (∀ K : Int32 → zv_St → Prop, (∀ σ2, zp_Inv σ2 → K r σ2) → B_X11_run K a σ1) → R r σ1) : B_X10_run R a σ := by
  have hInv := h
  obtain ⟨n, E, hJ⟩ := h
  have hJ' := hJ
  obtain ⟨hw, hN, hM, hLW, hLR, hLC, hKW, hKR, hKC, hBC, hFI, hIT, hAS⟩ := hJ'
  have hn := hw.1
  rcases zp_nodeq a hn with ⟨k, hk, rfl⟩ | h0
  · have hin : vp_in (nI k) 80 := vp_in_nI (by omega) (by decide)
    refine zp_has_t hN.1 hn hk (zp_nt (by decide) ?_)
    refine zp_prepare hJ.cs hBC hJ.rs.cl hk (fun σ1 c1 b1 d1 => ?_)
    have hJ1 := hJ.prep c1 b1
    rintro σ2 rfl
    have c2 : zp_ch [31] σ1 (zv_wi σ1 31 2 0) := zp_ch.wi (by decide)
    have hX1 : zp_CX σ1 n E 0 k := ⟨hJ1.cs, d1, hk, by omega⟩
    have hF2 : zp_FC (zv_wi σ1 31 2 0) E k [] := ⟨zp_rs _ _ _ _, fun j hj => absurd hj (Nat.not_lt_zero _)⟩
    generalize zv_wi σ1 31 2 0 = σ2 at c2 hF2 ⊢
    refine zp_runC (hX1.ch' c2 (by decide) (by decide) (by decide)) hF2 (fun σ3 c3 h9 hF3 => hR _ σ3 (fun K hK => ?_))
    have c13 : zp_ch [9, 28, 29, 30, 31, 32, 33] σ1 σ3 := (c2.mono (by decide)).tr c3
    have hM3 : zp_NR σ3 n E.1 := hJ1.rs.2.1.ch c13 (by decide) (congrFun (c13 45 (by decide)).1 2)
    refine zp_isNode_t hM3.1 hn hk (zp_nt (by decide) ?_)
    rintro σ4 rfl
    have c4 : zp_ch [45] σ3 (zv_wi σ3 45 30 0) := zp_ch.wi (by decide)
    have e4 : ∀ f, f ≠ 30 → (zv_wi σ3 45 30 0).1 45 f = σ1.1 45 f := fun f hf => by rw [zp_rj _ _ hf, (c13 45 (by decide)).1]
    have e4' : (zv_wi σ3 45 30 0).2 45 = σ1.2 45 := (c13 45 (by decide)).2
    have hF4 : zp_FR (zv_wi σ3 45 30 0) E k [] := ⟨zp_rs _ _ _ _, fun j hj => absurd hj (Nat.not_lt_zero _)⟩
    generalize zv_wi σ3 45 30 0 = σ4 at c4 e4 e4' hF4 ⊢
    have c14 : zp_ch [9, 28, 29, 30, 31, 32, 33, 45] σ1 σ4 := (c13.mono (by decide)).tr (c4.mono (by decide))
    have hS4 := hJ1.rs.ch c14 (by decide) (e4 2 (by decide))
    have hA4 : σ4.1 45 10 = zp_asum (σ4.1 54) n := by
      rw [e4 10 (by decide), (c14 54 (by decide)).1]
      exact hJ1.2.2.2.2.2.2.2.2.2.2.2.2.a54
    refine zp_runR hS4 hk hA4 hF4 (fun σ5 c5 g45 g45' g54 g10 gF => hK σ5 ⟨n, E, ?_⟩)
    have cAll : zp_ch [9, 28, 29, 30, 31, 32, 33, 45, 54, 62, 63, 64, 65, 66, 67, 68, 69, 70, 71] σ1 σ5 := (c14.mono (by decide)).tr (c5.mono (by decide))
    have f9 : ∀ j, σ5.1 9 j = σ1.1 9 j + zp_ad E k 0 512 j := fun j => by rw [(c5 9 (by decide)).1, (c4 9 (by decide)).1, h9 j, (c2 9 (by decide)).1]
    have f54 : ∀ j, σ5.1 54 j = σ1.1 54 j + zp_ad E k 0 512 j := fun j => by rw [g54 j, (c14 54 (by decide)).1]
    have e31 := (c5 31 (by decide)).1.trans (c4 31 (by decide)).1
    have e32 := (c5 32 (by decide)).1.trans (c4 32 (by decide)).1
    have e33 := (c5 33 (by decide)).2.trans (c4 33 (by decide)).2
    have hlen := zp_fl_len E k 512
    refine hJ1.mend (cAll.mono (by decide)) ((g45 2 (by decide) (by decide) (by decide)).trans (e4 2 (by decide))) ⟨?_, (zp_fl E k 512).length, hlen, gF.1, ?_, fun i hi => ⟨?_, ?_⟩⟩ (hJ1.2.2.2.2.2.2.2.2.2.2.2.1.ch cAll (by decide)) (hJ1.2.2.2.2.2.2.2.2.2.2.2.2.add f9 f54 g10)
    · rw [g45', e4', (cAll 0 (by decide)).2]
      exact hJ1.2.2.2.2.2.2.2.2.2.2.1.1
    · rw [e31]; exact hF3.1
    · rw [e32, (gF.2 i hi).1, (hF3.2 i hi).1]
    · rw [e33, (gF.2 i hi).2, (hF3.2 i hi).2]
  · refine zp_has_f hN.1 h0 (zp_nf rfl (hR _ σ (fun K hK => ?_)))
    exact zp_isNode_f hM.1 hn h0 (zp_nf rfl (hK σ hInv))
end RUN
