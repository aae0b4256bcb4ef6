/-! sum. -/
section OPS3
variable {σ : zv_St}
theorem zp_sumloop {L : Nat → Int32 → Int32 → Prop} {Q : Int32 → Prop} (f : Nat → Int32) (N : Nat) (he : ∀ u x, Q x → L (u + 1) x (nI N)) (hs : ∀ u x i, i < N → L u (x + f i) (nI (i + 1)) → L (u + 1) x (nI i)) (q : Q (zp_asum f N)) : ∃ n, L n 0 0 := by
  have key : ∀ m i, i + m = N → L (m + 1) (zp_asum f i) (nI i) := by
    intro m
    induction m with
    | zero =>
      intro i hi
      have : i = N := by omega
      subst this
      exact he 0 _ q
    | succ m ih =>
      intro i hi
      exact hs (m + 1) _ i (by omega) (ih (i + 1) (by omega))
  exact ⟨N + 1, key N 0 (by omega)⟩
theorem zp_asum_congr {f g : Nat → Int32} : ∀ {N : Nat}, (∀ i, i < N → f i = g i) → zp_asum f N = zp_asum g N := by
  intro N
  induction N with
  | zero => intro _; rfl
  | succ N ih =>
    intro h
    show zp_asum f N + f N = zp_asum g N + g N
    rw [ih (fun i hi => h i (by omega)), h N (by omega)]
theorem zp_asum_tail {f : Nat → Int32} {n : Nat} : ∀ m, (∀ i, n ≤ i → i < n + m → f i = 0) → zp_asum f (n + m) = zp_asum f n := by
  intro m
  induction m with
  | zero => intro _; rfl
  | succ m ih =>
    intro h
    show zp_asum f (n + m) + f (n + m) = _
    rw [ih (fun i h1 h2 => h i h1 (by omega)), h (n + m) (by omega) (by omega)]
    exact Int32.add_zero _
theorem zp_total {Q : Int32 → zv_St → Prop} (q : Q (zp_asum (σ.1 4) 16) σ) : B_X3_total Q σ := by
  refine zp_sumloop (L := fun u x i => L_X3_total_4 Q u x i σ) (Q := fun x => Q x σ) (σ.1 4) 16 (fun u x hq => zp_t (by decide) hq) (fun u x i hi hl => ?_) q
  refine zp_f (nI_ge (b := 16) hi (by decide)) ⟨vp_in_nI hi (by decide), ?_⟩
  rw [nI_clamp (by omega)]
  rintro v rfl
  rw [nI_1]
  exact hl
theorem zp_totalR {Q : Int32 → zv_St → Prop} (q : Q (zp_asum (σ.1 47) 16) σ) : ∃ n, L_X11_sum_43 Q n 0 0 σ := by
  refine zp_sumloop (L := fun u x i => L_X11_sum_43 Q u x i σ) (Q := fun x => Q x σ) (σ.1 47) 16 (fun u x hq => zp_t (by decide) hq) (fun u x i hi hl => ?_) q
  refine zp_f (nI_ge (b := 16) hi (by decide)) ⟨vp_in_nI hi (by decide), ?_⟩
  rw [nI_clamp (by omega)]
  rintro v rfl
  rw [nI_1]
  exact hl
theorem zp_askedInAll {Q : Int32 → zv_St → Prop} {n : Nat} (hn : n ≤ 80) (e : σ.1 5 0 = nI n) (q : Q (zp_asum (σ.1 9) n) σ) : B_X5_askedInAll Q σ := by
  refine zp_sumloop (L := fun u x i => L_X5_askedInAll_4 Q u x i σ) (Q := fun x => Q x σ) (σ.1 9) n (fun u x hq => ?_) (fun u x i hi hl => ?_) q
  · show (_ → _) ∧ _
    rw [e]
    exact zp_t (nI_le (Nat.le_refl _) (by omega)) hq
  · show (_ → _) ∧ _
    rw [e]
    refine zp_f (nI_ge hi (by omega)) ⟨vp_in_nI (by omega) (by decide), ?_⟩
    rw [nI_clamp (by omega)]
    rintro v rfl
    rw [nI_1]
    exact hl
theorem zp_countOpen {Q : Int32 → zv_St → Prop} (q : Q (zp_asum (fun i => if σ.1 35 i = 0 then 0 else 1) 8) σ) : B_X2_countOpen Q σ := by
  refine zp_sumloop (L := fun u x i => L_X2_countOpen_4 Q u x i σ) (Q := fun x => Q x σ) (fun i => if σ.1 35 i = 0 then 0 else 1) 8 (fun u x hq => zp_t (by decide) hq) (fun u x i hi hl => ?_) q
  refine zp_f (nI_ge (b := 8) hi (by decide)) ⟨vp_in_nI hi (by decide), ?_⟩
  rw [nI_clamp (by omega)]
  refine zp_by (fun c => ?_) (fun c => ?_)
  · show L_X2_countOpen_4 Q u x (nI i + 1) σ
    rw [nI_1]
    rw [if_pos c, Int32.add_zero] at hl
    exact hl
  · show L_X2_countOpen_4 Q u (x + 1) (nI i + 1) σ
    rw [nI_1]
    rw [if_neg c] at hl
    exact hl
theorem zp_countOpenR {Q : Int32 → zv_St → Prop} (q : Q (zp_asum (fun i => if σ.1 57 i = -1 then 0 else 1) 8) σ) : ∃ n, L_X11_sum_73 Q n 0 0 σ := by
  refine zp_sumloop (L := fun u x i => L_X11_sum_73 Q u x i σ) (Q := fun x => Q x σ) (fun i => if σ.1 57 i = -1 then 0 else 1) 8 (fun u x hq => zp_t (by decide) hq) (fun u x i hi hl => ?_) q
  refine zp_f (nI_ge (b := 8) hi (by decide)) ⟨vp_in_nI hi (by decide), ?_⟩
  rw [nI_clamp (by omega)]
  refine zp_by (fun c => ?_) (fun c => ?_)
  · show L_X11_sum_73 Q u (x + 0) (nI i + 1) σ
    rw [nI_1]
    rw [if_pos c] at hl
    exact hl
  · show L_X11_sum_73 Q u (x + 1) (nI i + 1) σ
    rw [nI_1]
    rw [if_neg c] at hl
    exact hl
theorem zp_setCount {Q : Int32 → zv_St → Prop} (q : Q (zp_asum (fun i => if σ.1 16 i = 0 then 0 else 1) 80) σ) : B_X9_count Q σ := by
  refine zp_sumloop (L := fun u x i => L_X9_count_4 Q u x i σ) (Q := fun x => Q x σ) (fun i => if σ.1 16 i = 0 then 0 else 1) 80 (fun u x hq => zp_t (by decide) hq) (fun u x i hi hl => ?_) q
  refine zp_f (nI_ge (b := 80) hi (by decide)) ⟨vp_in_nI hi (by decide), ?_⟩
  rw [nI_clamp (by omega)]
  refine zp_by (fun c => ?_) (fun c => ?_)
  · show L_X9_count_4 Q u x (nI i + 1) σ
    rw [nI_1]
    rw [if_pos c, Int32.add_zero] at hl
    exact hl
  · show L_X9_count_4 Q u (x + 1) (nI i + 1) σ
    rw [nI_1]
    rw [if_neg c] at hl
    exact hl
theorem zp_setCountR {Q : Int32 → zv_St → Prop} {n : Nat} (hn : n ≤ 80) (e : σ.1 45 2 = nI n) (q : Q (zp_asum (fun i => if σ.1 55 i = -1 then 0 else 1) n) σ) : ∃ n, L_X11_sum_107 Q n 0 0 σ := by
  refine zp_sumloop (L := fun u x i => L_X11_sum_107 Q u x i σ) (Q := fun x => Q x σ) (fun i => if σ.1 55 i = -1 then 0 else 1) n (fun u x hq => ?_) (fun u x i hi hl => ?_) q
  · show (_ → _) ∧ _
    rw [e]
    exact zp_t (nI_le (Nat.le_refl _) (by omega)) hq
  · show (_ → _) ∧ _
    rw [e]
    refine zp_f (nI_ge hi (by omega)) ⟨vp_in_nI (by omega) (by decide), ?_⟩
    rw [nI_clamp (by omega)]
    refine zp_by (fun c => ?_) (fun c => ?_)
    · show L_X11_sum_107 Q u (x + 0) (nI i + 1) σ
      rw [nI_1]
      rw [if_pos c] at hl
      exact hl
    · show L_X11_sum_107 Q u (x + 1) (nI i + 1) σ
      rw [nI_1]
      rw [if_neg c] at hl
      exact hl
theorem zp_step_sum (h : zp_Inv σ) (a : Int32) (R : Int32 → zv_St → Prop) (hR : ∀ r σ1, (∀ K : Int32 → zv_St → Prop, (∀ σ2, zp_Inv σ2 → K r σ2) → B_X11_sum K a σ1) → R r σ1) : B_X10_sum R a σ := by
  have h1 := h
  obtain ⟨n, E, hw, hN, hM, hLW, hLR, hLC, hKW, hKR, hKC, hBC, hFI, hIT, hAS⟩ := h1
  have hn := hw.1
  refine ⟨fun c => ?_, fun c => ?_, fun c => ?_, fun c => ?_, fun c => ?_, fun c => ?_⟩
  · subst c
    refine hR _ σ (fun K hK => ⟨fun _ => ?_, fun q => absurd q (by decide), fun q => absurd q (by decide), fun q => absurd q (by decide), fun q => absurd q (by decide), fun q => absurd q (by decide)⟩)
    rw [hM.1, ← hN.1]
    exact hK σ h
  · subst c
    refine zp_total (hR _ σ (fun K hK => ⟨fun q => absurd q (by decide), fun _ => ?_, fun q => absurd q (by decide), fun q => absurd q (by decide), fun q => absurd q (by decide), fun q => absurd q (by decide)⟩))
    refine zp_totalR ?_
    rw [zp_asum_congr (f := σ.1 47) (g := σ.1 4) (fun i hi => by rw [(hLR i hi).1, (hLC i hi).1])]
    exact hK σ h
  · subst c
    refine zp_askedInAll hn hN.1 (hR _ σ (fun K hK => ⟨fun q => absurd q (by decide), fun q => absurd q (by decide), fun _ => ?_, fun q => absurd q (by decide), fun q => absurd q (by decide), fun q => absurd q (by decide)⟩))
    rw [hAS.2]
    exact hK σ h
  · subst c
    refine zp_countOpen (hR _ σ (fun K hK => ⟨fun q => absurd q (by decide), fun q => absurd q (by decide), fun q => absurd q (by decide), fun _ => ?_, fun q => absurd q (by decide), fun q => absurd q (by decide)⟩))
    refine zp_countOpenR ?_
    rw [zp_asum_congr (f := fun i => if σ.1 57 i = -1 then 0 else 1) (g := fun i => if σ.1 35 i = 0 then 0 else 1) (fun i hi => by
      rcases hIT i hi with q | ⟨q1, k, q2, q3, q4⟩
      · rw [if_pos q.1, if_pos q.2]
      · rw [q1, q3, if_neg (zp_neg1 (by omega)), if_neg (by decide)])]
    exact hK σ h
  · subst c
    refine zp_setCount (hR _ σ (fun K hK => ⟨fun q => absurd q (by decide), fun q => absurd q (by decide), fun q => absurd q (by decide), fun q => absurd q (by decide), fun _ => ?_, fun q => absurd q (by decide)⟩))
    refine zp_setCountR hn hM.1 ?_
    have e80 : zp_asum (fun i => if σ.1 16 i = 0 then 0 else 1) 80 = zp_asum (fun i => if σ.1 16 i = 0 then 0 else 1) n := by
      have := zp_asum_tail (f := fun i => if σ.1 16 i = 0 then 0 else 1) (n := n) (80 - n) (fun i h1 h2 => by rw [if_pos (hKC.2 i h1 (by omega))])
      rwa [show n + (80 - n) = 80 by omega] at this
    rw [e80] at hK
    rw [zp_asum_congr (f := fun i => if σ.1 55 i = -1 then 0 else 1) (g := fun i => if σ.1 16 i = 0 then 0 else 1) (fun i hi => by
      have q1 := hKR i hi
      have q2 := hKC.1 i hi
      cases hk : E.2.2.2 i with
      | none =>
        rw [hk] at q1 q2
        rw [if_pos q1, if_pos q2]
      | some q =>
        rw [hk] at q1 q2
        rw [q1.1, q2.1, if_neg (zp_neg1 (by have := q1.2.1; omega)), if_neg (by decide)])]
    exact hK σ h
  · refine hR _ σ (fun K hK => ⟨fun q => ?_, fun q => ?_, fun q => ?_, fun q => ?_, fun q => ?_, fun _ => hK σ h⟩) <;> (rw [q] at c; exact absurd c (by decide))
end OPS3
