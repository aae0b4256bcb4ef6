/-! keep. -/
section KEEP
variable {σ : zv_St} {n k p : Nat} {E : zp_E}
/-- only the set of k is another -/
def zp_K1 (k : Nat) (σ σ' : zv_St) : Prop := zp_ch [9, 15, 16, 17, 28, 29, 30] σ σ' ∧ (∀ j, j ≠ k → σ'.1 16 j = σ.1 16 j ∧ σ'.1 17 j = σ.1 17 j) ∧ ∀ j, j / 8 ≠ k → σ'.2 15 j = σ.2 15 j
theorem zp_K1.cx {σ' : zv_St} {o o' : Nat} (h : zp_K1 k σ σ') (hX : zp_CX σ (p + 1) E o p) (hpk : p < k) (ho : o' < 512) : zp_CX σ' (p + 1) E o' p := by
  obtain ⟨h1, h2, h3⟩ := h
  obtain ⟨⟨a, b, c, d, e, f⟩, x2, x3⟩ := hX
  refine ⟨⟨a, ⟨trivial, b.2.ch h1 (by decide)⟩, c.ch h1 (by decide), d, ⟨fun j hj => ?_, trivial⟩, f⟩, fun j hj => ?_, x3.1, ho⟩
  · have := e.1 j hj
    have hjk : j ≠ k := by omega
    cases hq : E.2.2.2 j with
    | none =>
      rw [hq] at this
      exact (h2 j hjk).1.trans this
    | some q =>
      rw [hq] at this
      refine ⟨(h2 j hjk).1.trans this.1, (h2 j hjk).2.trans this.2.1, fun o ho => ?_⟩
      rw [← this.2.2 o ho, zp_bit_bt, zp_bit_bt, h3 _ (by omega)]
  · have := x2 j hj
    unfold zp_BD at this ⊢
    rw [(h1 24 (by decide)).1, (h1 25 (by decide)).1, (h1 21 (by decide)).2, (h1 23 (by decide)).2]
    exact this
theorem zp_keepC {Q : Int32 → zv_St → Prop} (hX : zp_CX σ (p + 1) E 0 p) (hpk : p < k) (hk : k < 80) (h16 : σ.1 16 k = 1) (h17 : σ.1 17 k = 0) (h15 : ∀ o, o < 512 → zp_bit (σ.2 15) k o = false) (q : ∀ σ', zp_K1 k σ σ' → σ'.1 16 k = 1 → σ'.1 17 k = nI (zp_fl E p 512).length → (∀ o, o < 512 → zp_bit (σ'.2 15) k o = (zp_V E o p).1) → (∀ j, σ'.1 9 j = σ.1 9 j + zp_ad E p 0 512 j) → B_X0_forgetFrom (fun σ_1 => B_X9_size (fun r_3 σ_2 => Q r_3 σ_2) (nI k) σ_1) (nI k) σ') : ∃ u, L_X10_keep_69 Q u (nI k) (nI p) 0 σ := by
  refine zp_for (L := fun u i σ' => L_X10_keep_69 Q u (nI k) (nI p) (nI i) σ') 512 (fun i σ' => zp_K1 k σ σ' ∧ σ'.1 16 k = 1 ∧ σ'.1 17 k = nI (zp_fl E p i).length ∧ (∀ o, o < 512 → zp_bit (σ'.2 15) k o = (decide (o < i) && (zp_V E o p).1)) ∧ ∀ j, σ'.1 9 j = σ.1 9 j + zp_ad E p 0 i j) (fun u σ' h => ?_) (fun u i σ' hi h ih => ?_) 0 σ ⟨⟨zp_ch.rf, fun _ _ => ⟨rfl, rfl⟩, fun _ _ => rfl⟩, h16, h17, fun o ho => by rw [h15 o ho, decide_eq_false (by omega)]; rfl, fun j => (Int32.add_zero _).symm⟩ (by decide)
  · obtain ⟨g1, g2, g3, g4, g5⟩ := h
    exact zp_t (by decide) (q σ' g1 g2 g3 (fun o ho => by rw [g4 o ho, decide_eq_true ho]; rfl) g5)
  · obtain ⟨g1, g2, g3, g4, g5⟩ := h
    refine zp_f (nI_ge (b := 512) hi (by decide)) ?_
    refine zp_matchesD (g1.cx hX hpk hi) (fun σ2 c2 h9 hs => ?_)
    have h9' : ∀ j, σ2.1 9 j = σ.1 9 j + zp_ad E p 0 (i + 1) j := fun j => by
      rw [h9 j, g5 j]
      show _ = _ + (zp_ad E p 0 i j + zp_dl E (0 + i) p j)
      rw [Nat.zero_add, Int32.add_assoc]
    have hfl : zp_fl E p (i + 1) = if (zp_V E i p).1 = true then zp_fl E p i ++ [i] else zp_fl E p i := rfl
    have e15 := (c2 15 (by decide)).2
    have e16 := (c2 16 (by decide)).1
    have e17 := (c2 17 (by decide)).1
    have K2 : zp_K1 k σ σ2 := ⟨g1.1.tr (c2.mono (by decide)), fun j hj => by rw [e16, e17]; exact g1.2.1 j hj, fun j hj => by rw [e15]; exact g1.2.2 j hj⟩
    unfold B_X10_keep_97
    rw [nI_1]
    cases hV : (zp_V E i p).1
    · rw [hV, if_neg (by decide)] at hfl
      refine zp_t rfl (ih σ2 ⟨K2, by rw [e16]; exact g2, by rw [hfl, e17]; exact g3, fun o ho => ?_, h9'⟩)
      rw [e15, g4 o ho]
      by_cases c : o = i
      · subst c; rw [hV, Bool.and_false, Bool.and_false]
      · congr 1
        exact decide_eq_decide.mpr (by omega)
    · rw [hV, if_pos rfl] at hfl
      refine zp_f (by decide) ?_
      refine zp_add_14 hk hi (fun σ3 c3 => ⟨vp_in_nI hk (by decide), vp_in_nI hk (by decide), ?_⟩)
      rw [nI_clamp (by omega), (c3.1 17 (by decide)).1, e17, g3, nI_1]
      rintro σ4 rfl
      refine ih _ ⟨⟨K2.1.tr ((c3.1.mono (by decide)).tr (zp_ch.wi (by decide))), fun j hj => ⟨?_, ?_⟩, fun j hj => ?_⟩, ?_, ?_, fun o ho => ?_, fun j => ?_⟩
      · rw [zp_rn _ _ _ _ (by decide), (c3.1 16 (by decide)).1]; exact (K2.2.1 j hj).1
      · rw [zp_rj _ _ hj, (c3.1 17 (by decide)).1]; exact (K2.2.1 j hj).2
      · rw [zp_ri2, c3.2.1 j hj]; exact K2.2.2 j hj
      · rw [zp_rn _ _ _ _ (by decide), (c3.1 16 (by decide)).1, e16]; exact g2
      · rw [zp_rs, hfl, List.length_append]; rfl
      · rw [zp_ri2]
        have : zp_bit (σ3.2 15) k o = (zp_bit (σ2.2 15) k o || decide (o = i)) := c3.2.2 o ho
        rw [this, e15, g4 o ho]
        by_cases c : o = i
        · subst c
          rw [hV, decide_eq_true (show o = o from rfl), Bool.or_true, decide_eq_true (by omega)]; rfl
        · rw [decide_eq_false c, Bool.or_false]
          congr 1
          exact decide_eq_decide.mpr (by omega)
      · rw [zp_rn _ _ _ _ (by decide), (c3.1 9 (by decide)).1]; exact h9' j
theorem zp_keepR {Q : Int32 → zv_St → Prop} (hS : zp_RS σ n E) (hk : k < n) (hp : p < k) (h49 : zp_fs E.1 k = p) (hKn : E.2.2.2 k = none) (hA : σ.1 45 10 = zp_asum (σ.1 54) n) (q : ∀ σ', zp_ch [45, 54, 56, 62, 63, 64, 65, 66, 67, 68, 69] σ σ' → (∀ f, f ≠ 26 → f ≠ 10 → σ'.1 45 f = σ.1 45 f) → σ'.2 45 = σ.2 45 → (∀ j, σ'.1 54 j = σ.1 54 j + zp_ad E p 0 512 j) → σ'.1 45 10 = zp_asum (σ'.1 54) n → (∀ j, j / 512 ≠ k → σ'.1 56 j = σ.1 56 j) → (∀ o, o < 512 → σ'.1 56 (k * 512 + o) = zp_bi (zp_V E o p).1) → Q (nI (zp_fl E p 512).length) (zv_wi σ' 55 k (nI (zp_fl E p 512).length))) : ∃ u, L_X11_keep_39 Q u (nI k) 0 0 σ := by
  have hn := hS.1.1
  have hin : vp_in (nI k) 80 := vp_in_nI (by omega) (by decide)
  have hSS : ∀ σ', zp_ch [45, 54, 56, 62, 63, 64, 65, 66, 67, 68, 69] σ σ' → σ'.1 45 2 = σ.1 45 2 → (∀ j, j / 512 ≠ k → σ'.1 56 j = σ.1 56 j) → zp_RS σ' n E := by
    intro σ' c h2 h56
    obtain ⟨a, b, c1, d, e, f⟩ := hS
    refine ⟨a, b.ch c (by decide) h2, c1.ch c (by decide), d, fun j hj => ?_, f⟩
    have := e j hj
    cases hq : E.2.2.2 j with
    | none =>
      rw [hq] at this
      exact (congrFun (c 55 (by decide)).1 j).trans this
    | some q =>
      rw [hq] at this
      refine ⟨(congrFun (c 55 (by decide)).1 j).trans this.1, this.2.1, fun o ho => ?_⟩
      have hjk : j ≠ k := fun z => by subst z; rw [hKn] at hq; cases hq
      rw [h56 _ (by omega)]
      exact this.2.2 o ho
  refine zp_for (L := fun u i (a : Int32 × zv_St) => L_X11_keep_39 Q u (nI k) a.1 (nI i) a.2) 512 (fun i a => a.1 = nI (zp_fl E p i).length ∧ zp_ch [45, 54, 56, 62, 63, 64, 65, 66, 67, 68, 69] σ a.2 ∧ (∀ f, f ≠ 26 → f ≠ 10 → a.2.1 45 f = σ.1 45 f) ∧ a.2.2 45 = σ.2 45 ∧ (∀ j, a.2.1 54 j = σ.1 54 j + zp_ad E p 0 i j) ∧ a.2.1 45 10 = zp_asum (a.2.1 54) n ∧ (∀ j, j / 512 ≠ k → a.2.1 56 j = σ.1 56 j) ∧ ∀ o, o < i → a.2.1 56 (k * 512 + o) = zp_bi (zp_V E o p).1) ?_ ?_ 0 (0, σ) ⟨rfl, zp_ch.rf, fun _ _ _ => rfl, rfl, fun j => (Int32.add_zero _).symm, hA, fun _ _ => rfl, fun o ho => absurd ho (Nat.not_lt_zero _)⟩ (by decide)
  · rintro u ⟨c, σ'⟩ ⟨g0, g1, g2, g3, g4, g5, g6, g7⟩
    simp only at g0 g1 g2 g3 g4 g5 g6 g7
    subst g0
    refine zp_t (by decide) ⟨hin, ?_⟩
    rw [nI_clamp (by omega)]
    rintro σ2 rfl
    exact q σ' g1 g2 g3 g4 g5 g6 g7
  · rintro u i ⟨c, σ'⟩ hi ⟨g0, g1, g2, g3, g4, g5, g6, g7⟩ ih
    simp only at g0 g1 g2 g3 g4 g5 g6 g7
    subst g0
    have hS' := hSS σ' g1 (g2 2 (by decide) (by decide)) g6
    refine zp_f (nI_ge (b := 512) hi (by decide)) ⟨hin, ?_⟩
    rw [nI_clamp (n := k) (by omega), (hS'.2.1.2 k hk).2.1, h49]
    refine zp_goD hS' (by omega) hi g5 (fun σ2 c2 c45 c45' h54 h10 hs => ?_)
    rw [zp_512m, nI_add]
    refine ⟨vp_in_nI (by omega) (by decide), ?_⟩
    rw [nI_clamp (by omega), zp_narb]
    rintro σ3 rfl
    have hfl : zp_fl E p (i + 1) = if (zp_V E i p).1 = true then zp_fl E p i ++ [i] else zp_fl E p i := rfl
    have nxt : ∀ c', c' = (zp_fl E p (i + 1)).length → L_X11_keep_39 Q u (nI k) (nI c') (nI (i + 1)) (zv_wi σ2 56 (k * 512 + i) (zp_bi (zp_V E i p).1)) := by
      intro c' hc'
      refine ih (nI c', _) ⟨by rw [hc'], g1.tr ((c2.mono (by decide)).tr (zp_ch.wi (by decide))), fun f f1 f2 => ?_, ?_, fun j => ?_, ?_, fun j hj => ?_, fun o ho => ?_⟩
      · show (zv_wi σ2 56 _ _).1 45 f = _
        rw [zp_rn _ _ _ _ (by decide)]; exact (c45 f f1 f2).trans (g2 f f1 f2)
      · exact c45'.trans g3
      · show (zv_wi σ2 56 _ _).1 54 j = _
        rw [zp_rn _ _ _ _ (by decide), h54 j, g4 j]
        show _ = _ + (zp_ad E p 0 i j + zp_dl E (0 + i) p j)
        rw [Nat.zero_add, Int32.add_assoc]
      · show (zv_wi σ2 56 _ _).1 45 10 = zp_asum ((zv_wi σ2 56 _ _).1 54) n
        rw [zp_rn _ _ _ _ (by decide), zv_wi_n _ _ _ (by decide)]; exact h10
      · show (zv_wi σ2 56 _ _).1 56 j = _
        rw [zp_rj _ _ (by omega), (c2 56 (by decide)).1]; exact g6 j hj
      · show (zv_wi σ2 56 _ _).1 56 _ = _
        by_cases ce : o = i
        · subst ce; rw [zp_rs]
        · rw [zp_rj _ _ (by omega), (c2 56 (by decide)).1]; exact g7 o (by omega)
    unfold B_X11_keep_84
    rw [nI_1]
    cases hV : (zp_V E i p).1
    · rw [hV] at nxt
      rw [hV, if_neg (by decide)] at hfl
      refine zp_t rfl ?_
      rw [show (0 : Int32) = nI 0 from rfl, nI_add]
      exact nxt _ (by rw [hfl]; rfl)
    · rw [hV] at nxt
      rw [hV, if_pos rfl] at hfl
      refine zp_f (by decide) ?_
      rw [show (1 : Int32) = nI 1 from rfl, nI_add]
      exact nxt _ (by rw [hfl, List.length_append]; rfl)
theorem zp_step_keep {σ : zv_St} (h : zp_Inv σ) (a : Int32) (R : Int32 → zv_St → Prop) (hR : ∀ r σ1, (∀ K : Int32 → zv_St → Prop, (∀ σ2, zp_Inv σ2 → K r σ2) → B_X11_keep K a σ1) → R r σ1) : B_X10_keep R a σ := by
  have hInv := h
  obtain ⟨n, E, hJ⟩ := h
  have hJ' := hJ
  obtain ⟨hw, hN, hM, hLW, hLR, hLC, hKW, hKR, hKC, hBC, hFI, hIT, hAS⟩ := hJ'
  have hn := hw.1
  rcases zp_nodeq a hn with ⟨k, hk, rfl⟩ | h0
  · have hin : vp_in (nI k) 80 := vp_in_nI (by omega) (by decide)
    have hwk := hw.2 k hk
    have h7 := hwk.1
    obtain ⟨f0, f1, f2, f3, f4⟩ := hN.2 k hk
    refine zp_has_t hN.1 hn hk (zp_f (by decide) (zp_a_kind (by omega) f0 ?_))
    have refI : ∀ σ1 (K : Int32 → zv_St → Prop), zp_RS σ1 n E → (zp_kd E.1 k = 6 → (σ1.1 55 k = -1 → ∃ u, L_X11_keep_39 K u (nI k) 0 0 σ1) ∧ (¬ σ1.1 55 k = -1 → K (-4) σ1)) → (zp_kd E.1 k ≠ 6 → K (-2) σ1) → B_X11_keep K (nI k) σ1 := by
      intro σ1 K hS q1 q2
      refine zp_isNode_t hS.2.1.1 hn hk (zp_f (by decide) ⟨hin, ?_⟩)
      rw [nI_clamp (by omega), (hS.2.1.2 k hk).1]
      by_cases e6 : zp_kd E.1 k = 6
      · exact zp_t (by rw [e6]; rfl) ⟨hin, q1 e6⟩
      · exact zp_f (fun z => e6 (zp_ninj (by omega) (by decide) z)) (q2 e6)
    by_cases e6 : zp_kd E.1 k = 6
    · refine zp_t (by rw [e6]; rfl) ?_
      have hKCk := hKC.1 k hk
      have hKRk := hKR k hk
      cases hq : E.2.2.2 k with
      | some s =>
        rw [hq] at hKCk hKRk
        refine zp_a_isThere (b := true) (by omega) hKCk.1 (zp_f (by decide) (hR _ σ (fun K hK => refI σ K hJ.rs (fun _ => ⟨fun z => ?_, fun _ => hK σ hInv⟩) (fun z => absurd e6 z))))
        exact absurd (hKRk.1.symm.trans z) (zp_neg1 (by have := hKRk.2.1; omega))
      | none =>
        rw [hq] at hKCk hKRk
        obtain ⟨o1, o2, o3, o4⟩ := hwk.one (by omega)
        refine zp_a_isThere (b := false) (by omega) hKCk (zp_t rfl ?_)
        refine zp_a_partAt (i := 0) (by omega) (by decide) (f4 0 (by omega)).2 ?_
        rw [o2]
        generalize hp : zp_fs E.1 k = p at o2 o4
        refine zp_prepare hJ.cs hBC hJ.rs.cl (show p < n by omega) (fun σ1 c1 b1 d1 => ⟨hin, ?_⟩)
        have hJ1 := hJ.prep c1 b1
        have hX1 : zp_CX σ1 (p + 1) E 0 p := ⟨hJ1.cs.le (by omega), d1, by omega, by omega⟩
        rw [nI_clamp (by omega), zp_nar1]
        rintro σ2 rfl
        refine ⟨hin, ?_⟩
        rintro σ3 rfl
        refine zp_clear_14 (by omega) (fun σ4 c4 => ?_)
        have k4 : zp_K1 k σ1 σ4 := by
          refine ⟨((zp_ch.wi (by decide)).tr (zp_ch.wi (by decide))).tr (c4.1.mono (by decide)), fun j hj => ⟨?_, ?_⟩, fun j hj => ?_⟩
          · rw [(c4.1 16 (by decide)).1, zp_rn _ _ _ _ (by decide), zp_rj _ _ hj]
          · rw [(c4.1 17 (by decide)).1, zp_rj _ _ hj, zp_rn _ _ _ _ (by decide)]
          · rw [c4.2.1 j hj]; rfl
        have w16 : σ4.1 16 k = 1 := by rw [(c4.1 16 (by decide)).1, zp_rn _ _ _ _ (by decide), zp_rs]
        have w17 : σ4.1 17 k = 0 := by rw [(c4.1 17 (by decide)).1, zp_rs]
        have w9 : σ4.1 9 = σ1.1 9 := by rw [(c4.1 9 (by decide)).1, zv_wi_n _ _ _ (by decide), zv_wi_n _ _ _ (by decide)]
        refine zp_keepC (k4.cx hX1 o4 (by decide)) o4 (by omega) w16 w17 c4.2.2 (fun σ5 k5 h16 h17 h15 h9 => ?_)
        have k15 : zp_K1 k σ1 σ5 := ⟨k4.1.tr k5.1, fun j hj => ⟨((k5.2.1 j hj).1).trans (k4.2.1 j hj).1, ((k5.2.1 j hj).2).trans (k4.2.1 j hj).2⟩, fun j hj => (k5.2.2 j hj).trans (k4.2.2 j hj)⟩
        obtain ⟨r, r1, r2, r3⟩ := b1
        refine zp_forgetFrom (r := r) (by rw [(k15.1 19 (by decide)).1]; exact r2) (by omega) (by omega) ?_
        refine zp_a_ssize (v := (zp_fl E p 512).length) (by omega) (by rw [zp_rn _ _ _ _ (by decide)]; exact h17) (hR _ _ (fun K hK => ?_))
        have c6 : zp_ch [19] σ5 (zv_wi σ5 19 8 (nI (min r k))) := zp_ch.wi (by decide)
        have w19 : (zv_wi σ5 19 8 (nI (min r k))).1 19 8 = nI (min r k) := zp_rs _ _ _ _
        generalize zv_wi σ5 19 8 (nI (min r k)) = σ6 at c6 w19 ⊢
        have c16 : zp_ch [9, 15, 16, 17, 19, 28, 29, 30] σ1 σ6 := (k15.1.mono (by decide)).tr (c6.mono (by decide))
        have hS6 := hJ1.rs.ch c16 (by decide) (congrFun (c16 45 (by decide)).1 2)
        refine refI σ6 K hS6 (fun _ => ⟨fun _ => ?_, fun z => absurd ?_ z⟩) (fun z => absurd e6 z)
        · have k45 : σ6.1 45 = σ1.1 45 := (c16 45 (by decide)).1
          have k54 : σ6.1 54 = σ1.1 54 := (c16 54 (by decide)).1
          have hA1 := hJ1.2.2.2.2.2.2.2.2.2.2.2.2
          refine zp_keepR hS6 hk o4 hp hq (by rw [k45, k54]; exact hA1.a54) (fun σ7 c7 g45 g45' g54 g10 g56 g56' => hK _ ⟨n, (E.1, E.2.1, E.2.2.1, fun j => if j = k then some ((zp_fl E p 512).length, fun o => (zp_V E o p).1) else E.2.2.2 j), ?_⟩)
          have c8 : zp_ch [55] σ7 (zv_wi σ7 55 k (nI (zp_fl E p 512).length)) := zp_ch.wi (by decide)
          have w55 : (zv_wi σ7 55 k (nI (zp_fl E p 512).length)).1 55 k = nI (zp_fl E p 512).length := zp_rs _ _ _ _
          have o55 : ∀ j, j ≠ k → (zv_wi σ7 55 k (nI (zp_fl E p 512).length)).1 55 j = σ7.1 55 j := fun j hj => zp_rj _ _ hj
          generalize zv_wi σ7 55 k (nI (zp_fl E p 512).length) = σ8 at c8 w55 o55 ⊢
          have c18 : zp_ch [9, 15, 16, 17, 19, 28, 29, 30, 45, 54, 55, 56, 62, 63, 64, 65, 66, 67, 68, 69] σ1 σ8 := (c16.mono (by decide)).tr ((c7.mono (by decide)).tr (c8.mono (by decide)))
          have q45 : ∀ f, f ≠ 26 → f ≠ 10 → σ8.1 45 f = σ1.1 45 f := fun f h1 h2 => by rw [(c8 45 (by decide)).1, g45 f h1 h2, k45]
          have q45' : σ8.2 45 = σ1.2 45 := by rw [(c8 45 (by decide)).2, g45', (c16 45 (by decide)).2]
          have m16 : σ8.1 16 = σ5.1 16 := by rw [(c8 16 (by decide)).1, (c7 16 (by decide)).1, (c6 16 (by decide)).1]
          have m17 : σ8.1 17 = σ5.1 17 := by rw [(c8 17 (by decide)).1, (c7 17 (by decide)).1, (c6 17 (by decide)).1]
          have m15 : σ8.2 15 = σ5.2 15 := by rw [(c8 15 (by decide)).2, (c7 15 (by decide)).2, (c6 15 (by decide)).2]
          have m9 : ∀ j, σ8.1 9 j = σ1.1 9 j + zp_ad E p 0 512 j := fun j => by rw [(c8 9 (by decide)).1, (c7 9 (by decide)).1, (c6 9 (by decide)).1, h9 j, w9]
          have m54 : ∀ j, σ8.1 54 j = σ1.1 54 j + zp_ad E p 0 512 j := fun j => by rw [(c8 54 (by decide)).1, g54 j, k54]
          have m10 : σ8.1 45 10 = zp_asum (σ8.1 54) n := by rw [(c8 45 (by decide)).1, (c8 54 (by decide)).1]; exact g10
          have m56 : ∀ j, j / 512 ≠ k → σ8.1 56 j = σ1.1 56 j := fun j hj => by rw [(c8 56 (by decide)).1, g56 j hj, (c16 56 (by decide)).1]
          obtain ⟨hw1, hN1, hM1, hLW1, hLR1, hLC1, hKW1, hKR1, hKC1, -, hFI1, hIT1, -⟩ := hJ1
          refine ⟨hw1, hN1.ch c18 (by decide), hM1.ch c18 (by decide) (q45 2 (by decide) (by decide)), hLW1, hLR1.ch c18 (by decide), hLC1.ch c18 (by decide), fun j hj hne => ?_, fun j hj => ?_, ⟨fun j hj => ?_, fun j h1 h2 => ?_⟩, ?_, hFI1.ch c18 (by decide) (q45 30 (by decide) (by decide)) (congrFun q45' 27), hIT1.ch c18 (by decide), hA1.add m9 m54 m10⟩
          · by_cases c : j = k
            · subst c; exact e6
            · simp only [if_neg c] at hne
              exact hKW1 j hj hne
          · by_cases c : j = k
            · subst c
              simp only [if_true]
              refine ⟨w55, zp_fl_len E p 512, fun o ho => ?_⟩
              rw [(c8 56 (by decide)).1]; exact g56' o ho
            · simp only [if_neg c]
              have := hKR1 j hj
              have e55 : σ8.1 55 j = σ1.1 55 j := by rw [o55 j c, (c7 55 (by decide)).1, (c16 55 (by decide)).1]
              cases hqj : E.2.2.2 j with
              | none => rw [hqj] at this; exact e55.trans this
              | some s =>
                rw [hqj] at this
                exact ⟨e55.trans this.1, this.2.1, fun o ho => by rw [m56 _ (by omega)]; exact this.2.2 o ho⟩
          · by_cases c : j = k
            · subst c
              simp only [if_true]
              exact ⟨by rw [m16]; exact h16, by rw [m17]; exact h17, fun o ho => by rw [m15]; exact h15 o ho⟩
            · simp only [if_neg c]
              have := hKC1.1 j hj
              cases hqj : E.2.2.2 j with
              | none => rw [hqj] at this; rw [m16]; exact ((k15.2.1 j c).1).trans this
              | some s =>
                rw [hqj] at this
                refine ⟨by rw [m16]; exact ((k15.2.1 j c).1).trans this.1, by rw [m17]; exact ((k15.2.1 j c).2).trans this.2.1, fun o ho => ?_⟩
                rw [m15, ← this.2.2 o ho, zp_bit_bt, zp_bit_bt, k15.2.2 _ (by omega)]
          · rw [m16]; exact ((k15.2.1 j (by omega)).1).trans (hKC1.2 j h1 h2)
          · refine zp_BC.same (n := k) (E := E) (fun j hj => hw1.2 j (by omega)) ⟨min r k, by omega, ?_, fun j hj => ?_⟩ ⟨fun j hj => ⟨⟨rfl, rfl, rfl, rfl, fun _ _ => ⟨rfl, rfl⟩⟩, ?_⟩, fun _ _ => rfl, fun _ => rfl⟩ (by omega)
            · rw [(c8 19 (by decide)).1, (c7 19 (by decide)).1]; exact w19
            · rw [(c18 24 (by decide)).1, (c18 25 (by decide)).1, (c18 21 (by decide)).2, (c18 23 (by decide)).2]
              exact r3 j (by omega)
            · show (if j = k then _ else E.2.2.2 j) = _
              rw [if_neg (by omega)]
        · rw [(c16 55 (by decide)).1, (c1 55 (by decide)).1]; exact hKRk
    · refine zp_f (fun z => e6 (zp_ninj (by omega) (by decide) z)) (hR _ σ (fun K hK => refI σ K hJ.rs (fun z => absurd z e6) (fun _ => hK σ hInv)))
  · refine zp_has_f hN.1 h0 (zp_t rfl (hR _ σ (fun K hK => ?_)))
    exact zp_isNode_f hM.1 hn h0 (zp_t rfl (hK σ hInv))
end KEEP
