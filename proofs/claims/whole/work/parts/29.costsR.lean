/-! The reference's COSTS. -/
def zp_RS (σ : zv_St) (n : Nat) (E : zp_E) : Prop := zp_wf n E.1 ∧ zp_NR σ n E.1 ∧ zp_LR σ E.2.1 E.2.2.1 ∧ zp_LW E.2.1 E.2.2.1 ∧ zp_KR σ n E.2.2.2 ∧ zp_KW n E.1 E.2.2.2
theorem zp_RS.ch {zs : List Nat} {σ σ' : zv_St} {n : Nat} {E : zp_E} (h : zp_RS σ n E) (hc : zp_ch zs σ σ') (hd : ([48, 49, 50, 51, 52, 53, 46, 47, 55, 56] : List Nat).all (fun c => !zs.contains c) = true) (h2 : σ'.1 45 2 = σ.1 45 2) : zp_RS σ' n E := by
  obtain ⟨a, b, c, d, e, f⟩ := h
  simp only [List.all_cons, List.all_nil, Bool.and_true, Bool.and_eq_true] at hd
  obtain ⟨h48, h49, h50, h51, h52, h53, h46, h47, h55, h56⟩ := hd
  exact ⟨a, b.ch hc (by simp only [List.all_cons, List.all_nil, Bool.and_true, Bool.and_eq_true]; exact ⟨h48, h49, h50, h51, h52, h53⟩) h2, c.ch hc (by simp only [List.all_cons, List.all_nil, Bool.and_true, Bool.and_eq_true]; exact ⟨h46, h47⟩), d, e.ch hc (by simp only [List.all_cons, List.all_nil, Bool.and_true, Bool.and_eq_true]; exact ⟨h55, h56⟩), f⟩
theorem zp_J.cs {σ : zv_St} {n : Nat} {E : zp_E} (h : zp_J σ n E) : zp_CS σ n E := by
  obtain ⟨hw, hN, hM, hLW, hLR, hLC, hKW, hKR, hKC, hBC, hFI, hIT, hAS⟩ := h
  exact ⟨hw, ⟨trivial, hN.2⟩, hLC, hLW, ⟨hKC.1, trivial⟩, hKW⟩
theorem zp_J.rs {σ : zv_St} {n : Nat} {E : zp_E} (h : zp_J σ n E) : zp_RS σ n E := by
  obtain ⟨hw, hN, hM, hLW, hLR, hLC, hKW, hKR, hKC, hBC, hFI, hIT, hAS⟩ := h
  exact ⟨hw, hM, hLR, hLW, hKR, hKW⟩
theorem zp_RS.cl {σ : zv_St} {n : Nat} {E : zp_E} (h : zp_RS σ n E) : ∀ k, k < n → zp_cost E k ≤ 512 := by
  obtain ⟨a, b, c, d, e, f⟩ := h
  refine zp_cost_le a d (fun k hk q hq => ?_)
  have := e k hk
  rw [hq] at this
  exact this.2.1
def zp_mil (v : Option Nat) : Nat := v.getD 1000000
section COSTSR
variable {σ : zv_St} {k n : Nat} {E : zp_E}
theorem zp_together {Q : Int32 → zv_St → Prop} (hS : zp_RS σ n E) (hk : k < n) (hC : ∀ p, p < k → σ.1 62 p = nI (zp_cost E p)) (q : Q (nI (match zp_cmin E.1 k (zp_cost E) (zp_mn E.1 k) with | some m => m | none => min (zp_csum E.1 k (zp_cost E) (zp_mn E.1 k)) 512)) σ) : B_X11_together Q (nI k) σ := by
  have hn := hS.1.1
  have hb := hS.cl
  obtain ⟨w0, w1, w2, -⟩ := hS.1.2 k hk
  obtain ⟨-, -, -, l4, l5⟩ := hS.2.1.2 k hk
  have hp : ∀ i, i < zp_mn E.1 k → zp_cost E (zp_pt E.1 k i) ≤ 512 := fun i hi => hb _ (by have := (w2 i hi).1; omega)
  have hle := zp_cmin_le hp
  have hsl := zp_csum_le hp
  refine zp_for (L := fun u i (a : Int32 × Int32) => L_X11_together_8 Q u (nI k) a.1 a.2 (nI i) σ) (zp_mn E.1 k) (fun i a => a = (nI (zp_mil (zp_cmin E.1 k (zp_cost E) i)), nI (zp_csum E.1 k (zp_cost E) i))) (fun u a h => ?_) (fun u i a hi h ih => ?_) 0 (1000000, 0) rfl (Nat.zero_le _)
  · subst h
    refine ⟨vp_in_nI (by omega) (by decide), ?_⟩
    rw [nI_clamp (by omega), l4]
    refine zp_t (nI_le (Nat.le_refl _) (by omega)) ?_
    have hs := hsl _ (Nat.le_refl _)
    cases hq : zp_cmin E.1 k (zp_cost E) (zp_mn E.1 k) with
    | none =>
      rw [hq] at q
      refine zp_t (show (1000000 : Int32) ≤ nI 1000000 by decide) ?_
      have q : Q (nI (min (zp_csum E.1 k (zp_cost E) (zp_mn E.1 k)) 512)) σ := q
      generalize zp_csum E.1 k (zp_cost E) (zp_mn E.1 k) = s at q hs ⊢
      by_cases c : 512 ≤ s
      · rw [show min s 512 = 512 by omega] at q
        exact zp_t (nI_le (a := 512) c (by omega)) q
      · rw [show min s 512 = s by omega] at q
        exact zp_f (nI_ge (b := 512) (by omega) (by decide)) q
    | some v =>
      rw [hq] at q
      have := hle _ (Nat.le_refl _) v hq
      exact zp_f (nI_ge (b := 1000000) (a := v) (by omega) (by decide)) q
  · subst h
    obtain ⟨v1, v2⟩ := w2 i hi
    obtain ⟨b1, b2⟩ := l5 i hi
    have hpi := hp i hi
    refine ⟨vp_in_nI (by omega) (by decide), ?_⟩
    rw [nI_clamp (n := k) (by omega), l4]
    refine zp_f (nI_ge hi (by omega)) ?_
    rw [zp_8m, nI_add]
    refine ⟨vp_in_nI (by omega) (by decide), ?_⟩
    rw [nI_clamp (n := k * 8 + i) (by omega), b1, b2]
    rintro x rfl
    refine ⟨vp_in_nI (by omega) (by decide), vp_in_nI (by omega) (by decide), ?_⟩
    rw [nI_clamp (n := zp_pt E.1 k i) (by omega), hC _ v1]
    rintro y rfl
    have h70 : ∀ m, m = zp_mil (zp_cmin E.1 k (zp_cost E) (i + 1)) → B_X11_together_70 Q (L_X11_together_8 Q u) (nI k) (nI (zp_csum E.1 k (zp_cost E) i)) (nI i) (nI (zp_ro E.1 k i)) (nI (zp_cost E (zp_pt E.1 k i))) (nI m) σ := by
      rintro m rfl
      have hs : zp_csum E.1 k (zp_cost E) (i + 1) = zp_csum E.1 k (zp_cost E) i + (if zp_ro E.1 k i = 3 then zp_cost E (zp_pt E.1 k i) else 0) := rfl
      unfold B_X11_together_70 B_X11_together_84
      rw [nI_1]
      by_cases e : zp_ro E.1 k i = 3
      · rw [if_pos e] at hs
        refine zp_nf (by rw [e]; rfl) ?_
        rw [nI_add]
        exact ih (nI (zp_mil (zp_cmin E.1 k (zp_cost E) (i + 1))), nI (zp_csum E.1 k (zp_cost E) i + zp_cost E (zp_pt E.1 k i))) (by rw [hs])
      · rw [if_neg e] at hs
        refine zp_nt (fun z => e (zp_ninj (by omega) (by decide) z)) ?_
        rw [show (0 : Int32) = nI 0 from rfl, nI_add]
        exact ih (nI (zp_mil (zp_cmin E.1 k (zp_cost E) (i + 1))), nI (zp_csum E.1 k (zp_cost E) i + 0)) (by rw [hs])
    have hcm : zp_cmin E.1 k (zp_cost E) (i + 1) = if zp_ro E.1 k i < 2 then (match zp_cmin E.1 k (zp_cost E) i with | none => some (zp_cost E (zp_pt E.1 k i)) | some q => some (min q (zp_cost E (zp_pt E.1 k i)))) else zp_cmin E.1 k (zp_cost E) i := rfl
    by_cases e : zp_ro E.1 k i < 2
    · rw [if_pos e] at hcm
      refine zp_f (nI_ge (b := 2) e (by decide)) ?_
      cases hq : zp_cmin E.1 k (zp_cost E) i with
      | none =>
        rw [hq] at hcm
        refine zp_f (nI_ge (b := 1000000) (a := zp_cost E (zp_pt E.1 k i)) (by omega) (by decide)) (h70 _ ?_)
        rw [hcm]; rfl
      | some v =>
        rw [hq] at hcm
        have hv := hle i (by omega) v hq
        by_cases c : v ≤ zp_cost E (zp_pt E.1 k i)
        · refine zp_t (nI_le c (by omega)) (h70 _ ?_)
          rw [hcm]
          show v = min v _
          omega
        · refine zp_f (nI_ge (a := zp_cost E (zp_pt E.1 k i)) (b := v) (by omega) (by omega)) (h70 _ ?_)
          rw [hcm]
          show _ = min v _
          omega
    · rw [if_neg e] at hcm
      refine zp_t (nI_le (a := 2) (by omega) (by omega)) (h70 _ ?_)
      rw [hcm]
theorem zp_costsR {Q : zv_St → Prop} (hS : zp_RS σ n E) (q : ∀ σ', zp_ch [62] σ σ' → (∀ p, p < n → σ'.1 62 p = nI (zp_cost E p)) → Q σ') : B_X11_costs Q σ := by
  have hn := hS.1.1
  have hb := hS.cl
  refine zp_for (L := fun u i σ' => L_X11_costs_2 Q u (nI i) σ') n (fun i σ' => zp_ch [62] σ σ' ∧ ∀ p, p < i → σ'.1 62 p = nI (zp_cost E p)) (fun u σ' h => ?_) (fun u i σ' hi h ih => ?_) 0 σ ⟨zp_ch.rf, fun p hp => by omega⟩ (Nat.zero_le _)
  · have := hS.ch h.1 (by decide) (congrFun (h.1 45 (by decide)).1 2)
    unfold L_X11_costs_2
    rw [this.2.1.1]
    exact zp_t (nI_le (Nat.le_refl _) (by omega)) (q σ' h.1 h.2)
  · obtain ⟨g1, g2⟩ := h
    have hS' := hS.ch g1 (by decide) (congrFun (g1 45 (by decide)).1 2)
    have hw := hS.1.2 i hi
    have h7 := hw.1
    obtain ⟨l0, l1, l2, l4, l5⟩ := hS'.2.1.2 i hi
    have hin : vp_in (nI i) 80 := vp_in_nI (by omega) (by decide)
    have h154 : B_X11_costs_154 Q (L_X11_costs_2 Q u) (nI i) (nI (zp_cost E i)) σ' := by
      refine ⟨hin, ?_⟩
      rw [nI_clamp (by omega), nI_1]
      rintro τ rfl
      refine ih _ ⟨g1.tr (zp_ch.wi (List.mem_cons_self ..)), fun p hp => ?_⟩
      by_cases e : p = i
      · subst e; rw [zp_rs]
      · rw [zp_rj _ _ e]; exact g2 p (by omega)
    have h148 : zp_kd E.1 i = 2 ∨ zp_kd E.1 i = 3 → B_X11_costs_148 Q (L_X11_costs_2 Q u) (nI i) σ' := by
      intro e
      refine zp_together hS' hi g2 ?_
      rcases e with e | e
      · have h := h154
        rw [zp_cs2 hw e] at h
        exact h
      · have hcm : ∀ m, m ≤ zp_mn E.1 i → zp_cmin E.1 i (zp_cost E) m = none := by
          intro m
          induction m with
          | zero => intro _; rfl
          | succ m ihm =>
            intro hm
            show (if zp_ro E.1 i m < 2 then _ else zp_cmin E.1 i (zp_cost E) m) = none
            rw [if_neg (by have := (hw.2.2.2.2.2.2.1 e).2.2 m (by omega); omega)]
            exact ihm (by omega)
        rw [hcm _ (Nat.le_refl _)]
        show B_X11_costs_154 Q _ _ (nI (min _ 512)) _
        rw [← zp_cs3 hw e]; exact h154
    have h128 : ∀ c, (zp_kd E.1 i ≠ 2 → zp_kd E.1 i ≠ 3 → c = nI (zp_cost E i)) → B_X11_costs_128 Q (L_X11_costs_2 Q u) (nI i) c σ' := by
      intro c hc
      refine ⟨hin, ?_⟩
      rw [nI_clamp (by omega), l0]
      by_cases e3 : zp_kd E.1 i = 3
      · exact zp_t (by rw [e3]; rfl) (h148 (Or.inr e3))
      · refine zp_f (fun z => e3 (zp_ninj (by omega) (by decide) z)) ⟨hin, ?_⟩
        by_cases e2 : zp_kd E.1 i = 2
        · exact zp_nf (by rw [e2]; rfl) (h148 (Or.inl e2))
        · rw [hc e2 e3]
          exact zp_nt (fun z => e2 (zp_ninj (by omega) (by decide) z)) h154
    have h94 : ∀ c, (zp_kd E.1 i ≠ 6 ∨ E.2.2.2 i = none) → (zp_kd E.1 i ≤ 1 ∨ zp_kd E.1 i = 7 → c = nI (zp_cost E i)) → B_X11_costs_94 Q (L_X11_costs_2 Q u) (nI i) c σ' := by
      intro c hk6 hc
      refine ⟨hin, ?_⟩
      rw [nI_clamp (by omega), l4]
      by_cases e0 : zp_mn E.1 i = 0
      · refine zp_t (by rw [e0]; decide) (h128 c (fun h2 h3 => hc ?_))
        have o1 : ¬ (zp_kd E.1 i = 4 ∨ zp_kd E.1 i = 5 ∨ zp_kd E.1 i = 6) := fun z => by have := (hw.one z).1; omega
        omega
      · refine zp_f (nI_nle (by omega) (by have := hw.2.1; omega)) ⟨hin, ?_⟩
        rw [l0]
        by_cases e3 : zp_kd E.1 i ≤ 3
        · refine zp_t (nI_le (b := 3) e3 (by decide)) (h128 c (fun h2 h3 => hc (by omega)))
        · refine zp_f (nI_ge (a := 3) (by omega) (by omega)) ⟨hin, ?_⟩
          have e7 : zp_kd E.1 i ≠ 7 := fun z => by have := hw.2.2.2.2.2.2.2.2.2.2 z; omega
          obtain ⟨o1, o2, o3, o4⟩ := hw.one (by omega)
          rw [l1]
          refine ⟨vp_in_nI (by omega) (by decide), ?_⟩
          rw [nI_clamp (by omega), g2 _ o4]
          rintro v rfl
          have : zp_cost E (zp_fs E.1 i) = zp_cost E i := by
            by_cases e6 : zp_kd E.1 i = 6
            · rw [zp_cs6 hw e6]
              rcases hk6 with z | z
              · exact absurd e6 z
              · rw [z]
            · rw [zp_cs45 hw (by omega)]
          rw [this]
          exact h154
    have h62 : ∀ c, (zp_kd E.1 i ≤ 1 ∨ zp_kd E.1 i = 7 → c = nI (zp_cost E i)) → B_X11_costs_62 Q (L_X11_costs_2 Q u) (nI i) c σ' := by
      intro c hc
      refine ⟨hin, ?_⟩
      rw [nI_clamp (by omega), l0]
      by_cases e6 : zp_kd E.1 i = 6
      · refine zp_nf (by rw [e6]; rfl) ⟨hin, ?_⟩
        have hK := hS'.2.2.2.2.1 i hi
        have hcs := zp_cs6 hw e6
        cases hq : E.2.2.2 i with
        | none =>
          rw [hq] at hK
          refine zp_t hK (h94 c (Or.inr hq) hc)
        | some p =>
          rw [hq] at hK hcs
          refine zp_f (fun z => zp_neg1 (o := p.1) (by have := hK.2.1; omega) (hK.1.symm.trans z)) ⟨hin, ?_⟩
          rw [hK.1]
          rintro v rfl
          have hcs : zp_cost E i = p.1 := hcs
          rw [← hcs]
          exact h154
      · exact zp_nt (fun z => e6 (zp_ninj (by omega) (by decide) z)) (h94 c (Or.inl e6) hc)
    unfold L_X11_costs_2
    rw [hS'.2.1.1]
    refine zp_f (nI_ge hi (by omega)) ⟨hin, ?_⟩
    rw [nI_clamp (by omega), l0]
    by_cases e0 : zp_kd E.1 i = 0
    · have hf := (hw.2.2.2.1 e0).1
      refine zp_nf (by rw [e0]; rfl) ⟨hin, ?_⟩
      rw [l1]
      refine ⟨vp_in_nI (by omega) (by decide), ?_⟩
      rw [nI_clamp (by omega), (hS'.2.2.1 _ hf).1]
      exact h62 _ (fun _ => by rw [zp_cs0 hw e0])
    · refine zp_nt (fun z => e0 (zp_ninj (by omega) (by decide) z)) ⟨hin, ?_⟩
      by_cases e1 : zp_kd E.1 i = 1
      · have hf := hw.2.2.2.2.1 e1
        refine zp_nf (by rw [e1]; rfl) ⟨hin, hin, ?_⟩
        rw [l1, l2, pk_sub hf.1, nI_1]
        exact h62 _ (fun _ => by rw [zp_cs1 hw e1])
      · refine zp_nt (fun z => e1 (zp_ninj (by omega) (by decide) z)) (h62 0 (fun z => ?_))
        rw [zp_cs7 hw (by omega)]; rfl
end COSTSR
