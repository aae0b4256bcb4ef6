/-! look. -/
/-- what a LOOK adds to the ASKED of k -/
noncomputable def zp_dl (E : zp_E) (o top k : Nat) : Int32 := @ite Int32 (zp_inR E o top k ∧ zp_ask E o k = true) (Classical.propDecidable _) 1 0
theorem zp_dl_eq {E : zp_E} {o top : Nat} {D : Nat → Bool} (h : zp_R E o top D) (k : Nat) : (if D k = true ∧ zp_ask E o k = true then (1 : Int32) else 0) = zp_dl E o top k := by
  unfold zp_dl
  by_cases c : D k = true ∧ zp_ask E o k = true
  · rw [if_pos c, if_pos ⟨(h k).mp c.1, c.2⟩]
  · rw [if_neg c, if_neg (fun z => c ⟨(h k).mpr z.1, z.2⟩)]
noncomputable def zp_ad (E : zp_E) (top a : Nat) : Nat → Nat → Int32
  | 0 => fun _ => 0
  | m + 1 => fun k => zp_ad E top a m k + zp_dl E (a + m) top k
theorem zp_asum_cg {f g : Nat → Int32} : ∀ {n : Nat}, (∀ j, j < n → f j = g j) → zp_asum f n = zp_asum g n := by
  intro n
  induction n with
  | zero => intro _; rfl
  | succ n ih =>
    intro h
    show zp_asum f n + f n = zp_asum g n + g n
    rw [ih (fun j hj => h j (by omega)), h n (by omega)]
theorem zp_AS.a54 {σ : zv_St} {n : Nat} (h : zp_AS σ n) : σ.1 45 10 = zp_asum (σ.1 54) n := by
  rw [h.2]; exact zp_asum_cg (fun j hj => (h.1 j hj).symm)
theorem zp_AS.add {σ σ' : zv_St} {n : Nat} {f : Nat → Int32} (h : zp_AS σ n) (h9 : ∀ j, σ'.1 9 j = σ.1 9 j + f j) (h54 : ∀ j, σ'.1 54 j = σ.1 54 j + f j) (h10 : σ'.1 45 10 = zp_asum (σ'.1 54) n) : zp_AS σ' n := by
  have : ∀ j, j < n → σ'.1 54 j = σ'.1 9 j := fun j hj => by rw [h54, h9, h.1 j hj]
  exact ⟨this, by rw [h10]; exact zp_asum_cg this⟩
theorem zp_J.mend {σ σ' : zv_St} {n : Nat} {E : zp_E} (h : zp_J σ n E) (hc : zp_ch [0, 9, 18, 26, 28, 29, 30, 31, 32, 33, 37, 38, 40, 41, 42, 43, 44, 45, 54, 58, 59, 60, 61, 62, 63, 64, 65, 66, 67, 68, 69, 70, 71, 72, 73, 74, 75] σ σ') (h2 : σ'.1 45 2 = σ.1 45 2) (hF : zp_FI σ') (hI : zp_IT σ' n) (hA : zp_AS σ' n) : zp_J σ' n E := by
  obtain ⟨hw, hN, hM, hLW, hLR, hLC, hKW, hKR, hKC, hBC, hFI, hIT, hAS⟩ := h
  exact ⟨hw, hN.ch hc (by decide), hM.ch hc (by decide) h2, hLW, hLR.ch hc (by decide), hLC.ch hc (by decide), hKW, hKR.ch hc (by decide), hKC.ch hc (by decide), hBC.ch hc (by decide), hF, hI, hA⟩
section LOOK
variable {σ : zv_St} {n o top : Nat} {E : zp_E}
theorem zp_matchesD {Q : Int32 → zv_St → Prop} (hX : zp_CX σ n E o top) (q : ∀ σ', zp_ch [9, 28, 29, 30] σ σ' → (∀ j, σ'.1 9 j = σ.1 9 j + zp_dl E o top j) → ((zp_V E o top).1 = true → σ'.2 29 top = (zp_V E o top).2) → Q (zp_bi (zp_V E o top).1) σ') : B_X4_matches Q (nI top) (nI o) σ :=
  zp_matches hX (fun D σ' c r h9 hs => q σ' c (fun j => by rw [h9 j, zp_dl_eq r]) hs)
theorem zp_goD {Q : Int32 → zv_St → Prop} (hS : zp_RS σ n E) (htop : top < n) (ho : o < 512) (hA : σ.1 45 10 = zp_asum (σ.1 54) n) (q : ∀ σ', zp_ch [45, 54, 62, 63, 64, 65, 66, 67, 68, 69] σ σ' → (∀ f, f ≠ 26 → f ≠ 10 → σ'.1 45 f = σ.1 45 f) → σ'.2 45 = σ.2 45 → (∀ j, σ'.1 54 j = σ.1 54 j + zp_dl E o top j) → σ'.1 45 10 = zp_asum (σ'.1 54) n → ((zp_V E o top).1 = true → σ'.2 66 top = (zp_V E o top).2) → Q (zp_bi (zp_V E o top).1) σ') : B_X11_go Q (nI top) (nI o) σ :=
  zp_go hS htop ho hA (fun D σ' c c45 c45' r h54 h10 hs => q σ' c c45 c45' (fun j => by rw [h54 j, zp_dl_eq r]) h10 hs)
theorem zp_step_look {σ : zv_St} (h : zp_Inv σ) (a b : Int32) (R : Int32 → zv_St → Prop) (hR : ∀ r σ1, (∀ K : Int32 → zv_St → Prop, (∀ σ2, zp_Inv σ2 → K r σ2) → B_X11_look K a b σ1) → R r σ1) : B_X10_look R a b σ := by
  have hInv := h
  obtain ⟨n, E, hJ⟩ := h
  have hJ' := hJ
  obtain ⟨hw, hN, hM, hLW, hLR, hLC, hKW, hKR, hKC, hBC, hFI, hIT, hAS⟩ := hJ'
  have hn := hw.1
  rcases zp_nodeq a hn with ⟨k, hk, rfl⟩ | h0
  · have hin : vp_in (nI k) 80 := vp_in_nI (by omega) (by decide)
    refine zp_has_t hN.1 hn hk (zp_f (by decide) ?_)
    rcases zp_rng b (m := 511) (by decide) with ⟨o, ho, rfl⟩ | hb
    · refine zp_isObject_t (by omega) (zp_nt (by decide) ?_)
      refine zp_prepare hJ.cs hBC hJ.rs.cl hk (fun σ1 c1 b1 d1 => ?_)
      have hJ1 := hJ.prep c1 b1
      have hX1 : zp_CX σ1 n E o k := ⟨hJ1.cs, d1, hk, by omega⟩
      refine zp_matchesD hX1 (fun σ2 c2 h9 hs => ?_)
      -- the reference's side, from a state σ3 with the same cells
      have ref : ∀ σ3, zp_ch [0, 9, 28, 29, 30] σ1 σ3 → (∀ j, σ3.1 9 j = σ1.1 9 j + zp_dl E o k j) → ((zp_V E o k).1 = true → σ3.2 0 8 = (zp_V E o k).2) → ((zp_V E o k).1 = false → σ3.2 0 8 = σ1.2 0 8) → ∀ K : Int32 → zv_St → Prop, (∀ σ2, zp_Inv σ2 → K (zp_bi (zp_V E o k).1) σ2) → B_X11_look K (nI k) (nI o) σ3 := by
        intro σ3 c3 e9 e1 e2 K hK
        have hM3 : zp_NR σ3 n E.1 := hJ1.rs.2.1.ch c3 (by decide) (congrFun (c3 45 (by decide)).1 2)
        refine zp_isNode_t hM3.1 hn hk (zp_f (by decide) (zp_isObjectR_t (by omega) (zp_nt (by decide) ?_)))
        have hS3 := hJ1.rs.ch c3 (by decide) (congrFun (c3 45 (by decide)).1 2)
        have hA3 : σ3.1 45 10 = zp_asum (σ3.1 54) n := by
          rw [(c3 45 (by decide)).1, (c3 54 (by decide)).1]
          exact hJ1.2.2.2.2.2.2.2.2.2.2.2.2.a54
        refine zp_goD hS3 hk (by omega) hA3 (fun σ4 c4 g45 g45' g54 g10 gs => ?_)
        have f54 : ∀ j, σ4.1 54 j = σ1.1 54 j + zp_dl E o k j := fun j => by rw [g54 j, (c3 54 (by decide)).1]
        have f9 : ∀ j, σ4.1 9 j = σ1.1 9 j + zp_dl E o k j := fun j => by rw [(c4 9 (by decide)).1]; exact e9 j
        have fin : ∀ y, y = σ4.2 0 8 → zp_Inv (zv_wl σ4 45 27 y) := by
          intro y hy
          have c5 : zp_ch [45] σ4 (zv_wl σ4 45 27 y) := zp_ch.wl (by decide)
          have cAll : zp_ch [0, 9, 18, 26, 28, 29, 30, 31, 32, 33, 37, 38, 40, 41, 42, 43, 44, 45, 54, 58, 59, 60, 61, 62, 63, 64, 65, 66, 67, 68, 69, 70, 71, 72, 73, 74, 75] σ1 (zv_wl σ4 45 27 y) := (c3.mono (by decide)).tr ((c4.mono (by decide)).tr (c5.mono (by decide)))
          have cAll2 : zp_ch [0, 9, 28, 29, 30, 45, 54, 62, 63, 64, 65, 66, 67, 68, 69] σ1 (zv_wl σ4 45 27 y) := (c3.mono (by decide)).tr ((c4.mono (by decide)).tr (c5.mono (by decide)))
          refine ⟨n, E, hJ1.mend cAll ?_ ⟨?_, ?_⟩ (hJ1.2.2.2.2.2.2.2.2.2.2.2.1.ch cAll2 (by decide)) (hJ1.2.2.2.2.2.2.2.2.2.2.2.2.add f9 f54 g10)⟩
          · rw [zp_rl1, g45 2 (by decide) (by decide), congrFun (c3 45 (by decide)).1 2]
          · rw [zp_rl, if_pos ⟨rfl, rfl⟩, zv_wl_n _ _ _ (by decide)]; exact hy
          · obtain ⟨-, f, hf, q1, q2, q3⟩ := hJ1.2.2.2.2.2.2.2.2.2.2.1
            refine ⟨f, hf, ?_, ?_, fun i hi => ⟨?_, ?_⟩⟩
            · rw [zp_rl1, g45 30 (by decide) (by decide), congrFun (c3 45 (by decide)).1 30]; exact q1
            · rw [(cAll2 31 (by decide)).1]; exact q2
            · rw [(cAll2 70 (by decide)).1, (cAll2 32 (by decide)).1]; exact (q3 i hi).1
            · rw [(cAll2 71 (by decide)).2, (cAll2 33 (by decide)).2]; exact (q3 i hi).2
        cases hV : (zp_V E o k).1
        · rw [hV] at hK
          refine zp_t rfl ?_
          rintro τ rfl
          refine zp_t rfl (hK _ (fin _ ?_))
          rw [g45', (c3 45 (by decide)).2, (c4 0 (by decide)).2, e2 hV]
          exact hJ1.2.2.2.2.2.2.2.2.2.2.1.1
        · rw [hV] at hK
          refine zp_f (by decide) ⟨hin, ?_⟩
          rintro τ rfl
          refine zp_f (by decide) (hK _ (fin _ ?_))
          rw [nI_clamp (by omega), gs hV, (c4 0 (by decide)).2, e1 hV]
      cases hV : (zp_V E o k).1
      · refine zp_nf rfl (hR _ σ2 ?_)
        have := ref σ2 (c2.mono (by decide)) h9 (fun z => by rw [hV] at z; cases z) (fun _ => by rw [(c2 0 (by decide)).2])
        rw [hV] at this
        exact this
      · refine zp_nt (by decide) ⟨hin, ?_⟩
        rw [nI_clamp (by omega)]
        rintro σ3 rfl
        refine hR _ _ ?_
        have := ref (zv_wl σ2 0 8 (σ2.2 29 k)) ((c2.mono (by decide)).tr (zp_ch.wl (by decide))) h9 (fun _ => by rw [zp_rl, if_pos ⟨rfl, rfl⟩]; exact hs hV) (fun z => by rw [hV] at z; cases z)
        rw [hV] at this
        exact this
    · refine zp_isObject_f hb (zp_nf rfl (hR _ σ (fun K hK => ?_)))
      exact zp_isNode_t hM.1 hn hk (zp_f (by decide) (zp_isObjectR_f hb (zp_nf rfl (hK σ hInv))))
  · refine zp_has_f hN.1 h0 (zp_t rfl (hR _ σ (fun K hK => ?_)))
    exact zp_isNode_f hM.1 hn h0 (zp_t rfl (hK σ hInv))
end LOOK
