/-! The reference's LOOK: its pile. -/
def zp_RX (σ : zv_St) (n : Nat) (E : zp_E) (o top : Nat) : Prop := zp_RS σ n E ∧ (∀ p, p ≤ top → σ.1 63 p = zp_bi (zp_may E o p) ∧ σ.1 64 p = zp_bi (zp_sure E o p)) ∧ (∀ p, p < n → σ.1 62 p = nI (zp_cost E p)) ∧ top < n ∧ o < 512
theorem zp_RX.ch {σ σ' : zv_St} {n : Nat} {E : zp_E} {o top : Nat} (h : zp_RX σ n E o top) (hc : zp_ch [45, 54, 65, 66, 67, 68, 69] σ σ') (h2 : σ'.1 45 2 = σ.1 45 2) : zp_RX σ' n E o top := by
  refine ⟨h.1.ch hc (by decide) h2, ?_, ?_, h.2.2.2⟩
  · rw [(hc 63 (by decide)).1, (hc 64 (by decide)).1]; exact h.2.1
  · rw [(hc 62 (by decide)).1]; exact h.2.2.1
def zp_OR (σ : zv_St) (E : zp_E) (o : Nat) (D : Nat → Bool) (b : Nat) : Prop := ∀ p, p < b → (D p = false → σ.1 65 p = -1) ∧ (D p = true → σ.1 65 p = zp_bi (zp_V E o p).1 ∧ ((zp_V E o p).1 = true → σ.2 66 p = (zp_V E o p).2))
theorem zp_OR.cg {σ σ' : zv_St} {E : zp_E} {o : Nat} {D : Nat → Bool} {b : Nat} (h : zp_OR σ E o D b) (h1 : σ'.1 65 = σ.1 65) (h2 : σ'.2 66 = σ.2 66) : zp_OR σ' E o D b := by
  unfold zp_OR; rw [h1, h2]; exact h
theorem zp_bi1 (b : Bool) : ¬ zp_bi b = -1 := by cases b <;> decide
theorem zp_bi1' (b : Bool) : zp_bi b = 1 ↔ b = true := by cases b <;> decide
/-- it is settled, or it isn't -/
theorem zp_OR.m1 {σ : zv_St} {E : zp_E} {o : Nat} {D : Nat → Bool} {b p : Nat} (h : zp_OR σ E o D b) (hp : p < b) : σ.1 65 p = -1 ↔ D p = false := by
  constructor
  · intro z
    cases c : D p
    · rfl
    · exact absurd (((h p hp).2 c).1.symm.trans z) (zp_bi1 _)
  · exact (h p hp).1
theorem zp_OR.one {σ : zv_St} {E : zp_E} {o : Nat} {D : Nat → Bool} {b p : Nat} (h : zp_OR σ E o D b) (hp : p < b) : σ.1 65 p = 1 ↔ (zp_Dv E o D p).1 = true := by
  cases c : D p
  · rw [(h p hp).1 c]
    unfold zp_Dv
    rw [if_neg (by rw [c]; decide)]
    decide
  · rw [((h p hp).2 c).1, zp_Dv_t c, zp_bi1']
section COME
variable {σ : zv_St} {Q : zv_St → Prop} {n o top p ht : Nat} {E : zp_E} {D : Nat → Bool}
theorem zp_come0 (hX : zp_RX σ n E o top) (hp : p ≤ top) (hO : zp_OR σ E o D (top + 1)) (h26 : σ.1 45 26 = nI ht) (hht : ht < 90) (qa : D p = true → Q σ) (qb : D p = false → zp_may E o p = false → Q (zv_wi σ 65 p 0))
    (qc : D p = false → zp_may E o p = true → ∀ σ', zp_ch [45, 67, 68, 69] σ σ' → (∀ f, f ≠ 26 → σ'.1 45 f = σ.1 45 f) → σ'.2 45 = σ.2 45 → σ'.1 45 26 = nI (ht + 1) → σ'.1 68 p = 0 → (∀ j, j ≠ p → σ'.1 68 j = σ.1 68 j) → (∀ j, j / 8 ≠ p → σ'.1 67 j = σ.1 67 j) → (zp_kd E.1 p = 2 → ∀ i, i < zp_mn E.1 p → σ'.1 67 (p * 8 + i) = nI (zp_oi E p i)) → σ'.1 69 ht = nI p → (∀ j, j ≠ ht → σ'.1 69 j = σ.1 69 j) → Q σ') : B_X11_come Q (nI p) σ := by
  have hn := hX.1.1.1
  have htop := hX.2.2.2
  have hin : vp_in (nI p) 80 := vp_in_nI (by omega) (by decide)
  have h7 := (hX.1.1.2 p (by omega)).1
  refine ⟨hin, ?_⟩
  rw [nI_clamp (by omega), hO.m1 (by omega)]
  cases hD : D p
  · refine zp_t rfl ⟨hin, ?_⟩
    rw [(hX.2.1 p hp).1, zp_nb0]
    cases hm : zp_may E o p
    · refine zp_nf rfl ⟨hin, ?_⟩
      rintro σ1 rfl
      exact qb hD hm
    · refine zp_nt (by decide) ⟨hin, ?_⟩
      rintro σ1 rfl
      have c1 : zp_ch [45, 67, 68, 69] σ (zv_wi σ 68 p 0) := zp_ch.wi (by decide)
      have s1 : (zv_wi σ 68 p 0).1 68 p = 0 := by rw [zp_rs]
      have s2 : ∀ j, j ≠ p → (zv_wi σ 68 p 0).1 68 j = σ.1 68 j := fun j hj => zp_rj _ _ hj
      have e45 : (zv_wi σ 68 p 0).1 45 = σ.1 45 := zv_wi_n _ _ _ (by decide)
      have e67 : (zv_wi σ 68 p 0).1 67 = σ.1 67 := zv_wi_n _ _ _ (by decide)
      have e69 : (zv_wi σ 68 p 0).1 69 = σ.1 69 := zv_wi_n _ _ _ (by decide)
      have d45 : (zv_wi σ 68 p 0).2 45 = σ.2 45 := rfl
      generalize zv_wi σ 68 p 0 = σ1 at c1 s1 s2 e45 e67 e69 d45 ⊢
      have hX1 := hX.ch (c1.mono (by decide)) (congrFun e45 2)
      have h50 : ∀ τ, zp_ch [67] σ1 τ → (∀ j, j / 8 ≠ p → τ.1 67 j = σ.1 67 j) → (zp_kd E.1 p = 2 → ∀ i, i < zp_mn E.1 p → τ.1 67 (p * 8 + i) = nI (zp_oi E p i)) → B_X11_come_50 Q (nI p) τ := by
        intro τ t1 t2 t3
        have f45 : τ.1 45 = σ.1 45 := ((t1 45 (by decide)).1).trans e45
        unfold B_X11_come_50
        rw [f45, h26]
        refine ⟨vp_in_nI hht (by decide), ?_⟩
        rw [nI_clamp (by omega)]
        rintro τ1 rfl
        rw [zp_rn _ _ _ _ (by decide), congrFun f45 26, h26, nI_1]
        rintro τ2 rfl
        refine qc hD hm _ (c1.tr ((t1.mono (by decide)).tr ((zp_ch.wi (by decide)).tr (zp_ch.wi (by decide))))) (fun f hf => ?_) ?_ (zp_rs _ _ _ _) ?_ (fun j hj => ?_) (fun j hj => ?_) (fun e i hi => ?_) ?_ (fun j hj => ?_)
        · rw [zp_rj _ _ hf, zp_rn _ _ _ _ (by decide), congrFun f45 f]
        · rw [zp_ri2, zp_ri2, (t1 45 (by decide)).2, d45]
        · rw [zp_rn _ _ _ _ (by decide), zp_rn _ _ _ _ (by decide), (t1 68 (by decide)).1]; exact s1
        · rw [zp_rn _ _ _ _ (by decide), zp_rn _ _ _ _ (by decide), (t1 68 (by decide)).1]; exact s2 j hj
        · rw [zp_rn _ _ _ _ (by decide), zp_rn _ _ _ _ (by decide)]; exact t2 j hj
        · rw [zp_rn _ _ _ _ (by decide), zp_rn _ _ _ _ (by decide)]; exact t3 e i hi
        · rw [zp_rn _ _ _ _ (by decide), zp_rs]
        · rw [zp_rn _ _ _ _ (by decide), zp_rj _ _ hj, (t1 69 (by decide)).1, e69]
      refine ⟨hin, ?_⟩
      rw [(hX1.1.2.1.2 p (by omega)).1]
      by_cases e : zp_kd E.1 p = 2
      · refine zp_nf (by rw [e]; rfl) (zp_sort hX1.1 (by omega) hX1.2.2.1 (fun σ2 c2 f2 k2 => h50 σ2 c2 (fun j hj => by rw [f2 j hj, e67]) (fun _ => k2)))
      · exact zp_nt (fun z => e (zp_ninj (by omega) (by decide) z)) (h50 σ1 zp_ch.rf (fun j _ => by rw [e67]) (fun z => absurd z e))
  · exact zp_f (by decide) (qa hD)
end COME
/-- how far a NODE of the pile is -/
def zp_SK (σ : zv_St) (E : zp_E) (o : Nat) (D : Nat → Bool) (k s : Nat) : Prop := zp_may E o k = true ∧ σ.1 68 k = nI s ∧ s ≤ zp_mn E.1 k ∧ (zp_kd E.1 k = 2 → (∀ i, i < zp_mn E.1 k → σ.1 67 (k * 8 + i) = nI (zp_oi E k i)) ∧ ∀ j, j < s → zp_dn E o D k (zp_oi E k j) ∧ zp_ok E o (zp_V E o) k (zp_oi E k j) = true) ∧ (zp_kd E.1 k = 3 → ∀ j, j < s → D (zp_pt E.1 k j) = true)
theorem zp_SK.mono {σ σ' : zv_St} {E : zp_E} {o : Nat} {D D' : Nat → Bool} {k s : Nat} (h8 : zp_mn E.1 k ≤ 8) (h : zp_SK σ E o D k s) (hD : ∀ p, D p = true → D' p = true) (h68 : σ'.1 68 k = σ.1 68 k) (h67 : ∀ j, j / 8 = k → σ'.1 67 j = σ.1 67 j) : zp_SK σ' E o D' k s := by
  obtain ⟨a, b, c, d, e⟩ := h
  refine ⟨a, h68.trans b, c, fun z => ⟨fun i hi => ?_, fun j hj => ⟨?_, ((d z).2 j hj).2⟩⟩, fun z j hj => hD _ (e z j hj)⟩
  · rw [h67 _ (by omega)]; exact (d z).1 i hi
  · rcases ((d z).2 j hj).1 with y | y
    · exact Or.inl y
    · exact Or.inr (hD _ y)
def zp_G1 (σ0 σ : zv_St) (ht : Nat) : Prop := zp_ch [45, 54, 65, 66, 67, 68, 69] σ0 σ ∧ (∀ f, f ≠ 26 → f ≠ 10 → σ.1 45 f = σ0.1 45 f) ∧ σ.2 45 = σ0.2 45 ∧ σ.1 45 26 = nI ht
def zp_G2 (σ : zv_St) (E : zp_E) (o top : Nat) (D M : Nat → Bool) : Prop := zp_OR σ E o D (top + 1) ∧ (∀ k, D k = true → M k = true) ∧ (∀ k, M k = true → k ≤ top ∧ zp_inR E o top k) ∧ ∀ k p, D k = true → zp_vis E o k p → D p = true
def zp_G3 (σ : zv_St) (E : zp_E) (o top ht : Nat) (D M : Nat → Bool) (w st : Nat → Nat) : Prop := (∀ i, i < ht → σ.1 69 i = nI (w i) ∧ M (w i) = true) ∧ (∀ i j, i < j → j < ht → w j < w i) ∧ (∀ i, i + 1 < ht → D (w i) = false) ∧ (∀ k, M k = true → D k = true ∨ ∃ i, i < ht ∧ w i = k) ∧ M top = true ∧ ∀ i, i < ht → D (w i) = false → zp_SK σ E o D (w i) (st (w i))
def zp_G4 (σ0 σ : zv_St) (E : zp_E) (o n : Nat) (D : Nat → Bool) : Prop := (∀ j, σ.1 54 j = σ0.1 54 j + (if D j = true ∧ zp_ask E o j = true then 1 else 0)) ∧ σ.1 45 10 = zp_asum (σ.1 54) n
def zp_GI (σ0 : zv_St) (n : Nat) (E : zp_E) (o top ht : Nat) (σ : zv_St) (D M : Nat → Bool) (w st : Nat → Nat) : Prop := zp_G1 σ0 σ ht ∧ zp_G2 σ E o top D M ∧ zp_G3 σ E o top ht D M w st ∧ zp_G4 σ0 σ E o n D
abbrev zp_ph (D M : Nat → Bool) (ht : Nat) : Nat := 2 * (80 - zp_card M 80) + 2 * (80 - zp_card D 80) + ht
theorem zp_asum_up {f g : Nat → Int32} {k : Nat} (hk : g k = f k + 1) (ho : ∀ j, j ≠ k → g j = f j) : ∀ n, zp_asum g n = zp_asum f n + (if k < n then 1 else 0) := by
  intro n
  induction n with
  | zero => rfl
  | succ n ih =>
    show zp_asum g n + g n = zp_asum f n + f n + _
    rw [ih]
    by_cases c : n = k
    · subst c
      rw [hk, if_neg (Nat.lt_irrefl _), if_pos (by omega), Int32.add_zero, Int32.add_assoc]
    · rw [ho n c]
      by_cases c2 : k < n
      · rw [if_pos c2, if_pos (c := k < n + 1) (by omega), Int32.add_assoc, Int32.add_assoc, Int32.add_comm 1 (f n)]
      · rw [if_neg c2, if_neg (c := k < n + 1) (by omega), Int32.add_zero, Int32.add_zero]
section GI
variable {σ0 σ : zv_St} {n o top ht : Nat} {E : zp_E} {D M : Nat → Bool} {w st : Nat → Nat}
theorem zp_GI.hb (h : zp_GI σ0 n E o top ht σ D M w st) : ht ≤ top + 1 := by
  obtain ⟨-, ⟨-, -, b3, -⟩, ⟨a1, a2, -⟩, -⟩ := h
  have key : ∀ i, i < ht → w i + i ≤ top := by
    intro i
    induction i with
    | zero => intro hi; have := (b3 _ (a1 0 hi).2).1; omega
    | succ i ih =>
      intro hi
      have := ih (by omega)
      have := a2 i (i + 1) (by omega) hi
      omega
  by_cases c : ht = 0
  · omega
  · have := key (ht - 1) (by omega)
    omega
theorem zp_GI.rx (h : zp_GI σ0 n E o top ht σ D M w st) (hX : zp_RX σ0 n E o top) : zp_RX σ n E o top := hX.ch h.1.1 (h.1.2.1 2 (by decide) (by decide))
/-- it comes to p: p was known; or it is settled at once; or it goes onto the pile -/
theorem zp_comeG {Q : zv_St → Prop} {p k : Nat} (h : zp_GI σ0 n E o top ht σ D M w st) (hX : zp_RX σ0 n E o top) (hht : 0 < ht) (hk : w (ht - 1) = k) (hDk : D k = false) (hv : zp_vis E o k p)
    (qa : D p = true → Q σ) (qb : ∀ σ', σ'.1 68 = σ.1 68 → D p = false → zp_GI σ0 n E o top ht σ' (zp_mk D p) (zp_mk M p) w st → zp_ph (zp_mk D p) (zp_mk M p) ht < zp_ph D M ht → Q σ')
    (qc : ∀ σ' w' st', D p = false → zp_GI σ0 n E o top (ht + 1) σ' D (zp_mk M p) w' st' → zp_ph D (zp_mk M p) (ht + 1) < zp_ph D M ht → Q σ') : B_X11_come Q (nI p) σ := by
  have hX' := h.rx hX
  have hh := h.hb
  have hn := hX.1.1.1
  have htop := hX.2.2.2
  obtain ⟨⟨a1, a2, a3, a4⟩, ⟨b1, b2, b3, b4⟩, ⟨c1, c2, c3, c4, c5, c6⟩, d1, d2⟩ := h
  have hkM : M k = true := by rw [← hk]; exact (c1 (ht - 1) (by omega)).2
  obtain ⟨hk1, hk2⟩ := b3 k hkM
  have hpk := hv.part hX.1.1 (by omega)
  have hpR := hk2.vis hv
  have hMp : D p = false → M p = false := fun hD => by
    cases c : M p
    · rfl
    · rcases c4 p c with z | ⟨i, hi, z⟩
      · rw [hD] at z; cases z
      · by_cases ci : i = ht - 1
        · subst ci; omega
        · have := c2 i (ht - 1) (by omega) (by omega)
          omega
  have hcard : D p = false → zp_card (zp_mk M p) 80 = zp_card M 80 + 1 ∧ zp_card (zp_mk D p) 80 = zp_card D 80 + 1 := fun hD => by
    have h1 := zp_card_mk (hMp hD) 80
    have h2 := zp_card_mk hD 80
    rw [if_pos (by omega)] at h1 h2
    exact ⟨h1, h2⟩
  have cle := zp_card_le (zp_mk M p) 80
  have cle2 := zp_card_le (zp_mk D p) 80
  have mkM : ∀ j, M j = true → zp_mk M p j = true := fun j hj => by show (if j = p then true else M j) = true; rw [hj]; split <;> rfl
  have mkD : ∀ j, D j = true → zp_mk D p j = true := fun j hj => by show (if j = p then true else D j) = true; rw [hj]; split <;> rfl
  have m8 : ∀ j, M j = true → zp_mn E.1 j ≤ 8 := fun j hj => (hX.1.1.2 j (by have := (b3 j hj).1; omega)).2.1
  refine zp_come0 hX' (by omega) b1 a4 (by omega) qa (fun hD hm => ?_) (fun hD hm σ' e1 e2 e3 e4 e5 e6 e7 e8 e9 e10 => ?_)
  · obtain ⟨hc1, hc2⟩ := hcard hD
    have hwp := hX.1.1.2 p (by omega)
    have c65 : zp_ch [65] σ (zv_wi σ 65 p 0) := zp_ch.wi (by decide)
    refine qb _ (by rw [zv_wi_n _ _ _ (by decide)]) hD ⟨⟨a1.tr (c65.mono (by decide)), fun f f1 f2 => ?_, a3, ?_⟩, ⟨fun j hj => ?_, fun j hj => ?_, fun j hj => ?_, fun j q hj hq => ?_⟩, ⟨fun i hi => ⟨?_, mkM _ (c1 i hi).2⟩, c2, fun i hi => ?_, fun j hj => ?_, mkM _ c5, fun i hi hDi => ?_⟩, fun j => ?_, ?_⟩ (by unfold zp_ph; omega)
    · rw [zp_rn _ _ _ _ (by decide)]; exact a2 f f1 f2
    · rw [zp_rn _ _ _ _ (by decide)]; exact a4
    · by_cases cj : j = p
      · subst cj
        have hDt : zp_mk D j j = true := if_pos rfl
        rw [zp_rs, zp_Vn hwp hm, hDt]
        exact ⟨fun z => (by cases z), fun _ => ⟨rfl, fun z => (by cases z)⟩⟩
      · have hDt : zp_mk D p j = D j := if_neg cj
        rw [zp_rj _ _ cj, hDt]
        exact b1 j hj
    · by_cases cj : j = p
      · subst cj; exact if_pos rfl
      · have hj : (if j = p then true else D j) = true := hj
        rw [if_neg cj] at hj
        exact mkM _ (b2 j hj)
    · by_cases cj : j = p
      · subst cj; exact ⟨by omega, hpR⟩
      · have hj : (if j = p then true else M j) = true := hj
        rw [if_neg cj] at hj
        exact b3 j hj
    · by_cases cj : j = p
      · subst cj
        have := hq.1
        rw [hm] at this; cases this
      · have hj : (if j = p then true else D j) = true := hj
        rw [if_neg cj] at hj
        exact mkD _ (b4 j q hj hq)
    · rw [zp_rn _ _ _ _ (by decide)]; exact (c1 i hi).1
    · show (if w i = p then true else D (w i)) = false
      have := c2 i (ht - 1) (by omega) (by omega)
      rw [if_neg (by omega)]
      exact c3 i hi
    · by_cases cj : j = p
      · left; subst cj; exact if_pos rfl
      · have hj : (if j = p then true else M j) = true := hj
        rw [if_neg cj] at hj
        rcases c4 j hj with z | z
        · exact Or.inl (mkD _ z)
        · exact Or.inr z
    · have hDi : D (w i) = false := by
        cases c : D (w i)
        · rfl
        · rw [mkD _ c] at hDi; cases hDi
      exact (c6 i hi hDi).mono (m8 _ (c1 i hi).2) mkD (by rw [zp_rn _ _ _ _ (by decide)]) (fun j _ => by rw [zp_rn _ _ _ _ (by decide)])
    · rw [zp_rn _ _ _ _ (by decide), d1 j]
      by_cases cj : j = p
      · subst cj
        have hna : ¬ zp_ask E o j = true := fun y => by unfold zp_ask at y; rw [hm] at y; cases y
        rw [if_neg (fun y => hna y.2), if_neg (fun y => hna y.2)]
      · have hDt : zp_mk D p j = D j := if_neg cj
        rw [hDt]
    · rw [zp_rn _ _ _ _ (by decide), zv_wi_n _ _ _ (by decide)]; exact d2
  · obtain ⟨hc1, hc2⟩ := hcard hD
    have f65 : σ'.1 65 = σ.1 65 := (e1 65 (by decide)).1
    have f66 : σ'.2 66 = σ.2 66 := (e1 66 (by decide)).2
    have f54 : σ'.1 54 = σ.1 54 := (e1 54 (by decide)).1
    refine qc σ' (zp_wu w ht p) (zp_wu st p 0) hD ⟨⟨a1.tr (e1.mono (by decide)), fun f f1 f2 => (e2 f f1).trans (a2 f f1 f2), e3.trans a3, e4⟩, ⟨b1.cg f65 f66, fun j hj => mkM _ (b2 j hj), fun j hj => ?_, b4⟩, ⟨fun i hi => ?_, fun i j hij hj => ?_, fun i hi => ?_, fun j hj => ?_, mkM _ c5, fun i hi hDi => ?_⟩, fun j => ?_, ?_⟩ (by unfold zp_ph; omega)
    · by_cases cj : j = p
      · subst cj; exact ⟨by omega, hpR⟩
      · have hj : (if j = p then true else M j) = true := hj
        rw [if_neg cj] at hj
        exact b3 j hj
    · by_cases ci : i = ht
      · subst ci
        rw [zp_wu_s]
        exact ⟨e9, if_pos rfl⟩
      · rw [zp_wu_n _ _ ci, e10 i ci]
        exact ⟨(c1 i (by omega)).1, mkM _ (c1 i (by omega)).2⟩
    · by_cases cj : j = ht
      · subst cj
        rw [zp_wu_s, zp_wu_n _ _ (by omega)]
        by_cases ci : i = j - 1
        · subst ci; omega
        · have := c2 i (j - 1) (by omega) (by omega)
          omega
      · rw [zp_wu_n _ _ cj, zp_wu_n _ _ (by omega)]
        exact c2 i j hij (by omega)
    · rw [zp_wu_n _ _ (by omega)]
      by_cases ci : i + 1 = ht
      · rw [show i = ht - 1 by omega, hk]; exact hDk
      · exact c3 i (by omega)
    · by_cases cj : j = p
      · subst cj; exact Or.inr ⟨ht, by omega, zp_wu_s _ _ _⟩
      · have hj : (if j = p then true else M j) = true := hj
        rw [if_neg cj] at hj
        rcases c4 j hj with z | ⟨i, hi, z⟩
        · exact Or.inl z
        · exact Or.inr ⟨i, by omega, by rw [zp_wu_n _ _ (by omega)]; exact z⟩
    · by_cases ci : i = ht
      · subst ci
        rw [zp_wu_s, zp_wu_s]
        exact ⟨hm, e5, Nat.zero_le _, fun z => ⟨e8 z, fun j hj => by omega⟩, fun z j hj => by omega⟩
      · rw [zp_wu_n _ _ ci] at hDi ⊢
        have hlt : p < w i := by
          by_cases cl : i = ht - 1
          · rw [cl, hk]; exact hpk
          · have := c2 i (ht - 1) (by omega) (by omega)
            omega
        rw [zp_wu_n _ _ (by omega)]
        exact (c6 i (by omega) hDi).mono (m8 _ (c1 i (by omega)).2) (fun _ z => z) (e6 _ (by omega)) (fun j hj => e7 j (by omega))
    · rw [f54]; exact d1 j
    · rw [f54, e2 10 (by decide)]; exact d2
/-- the last of the pile is settled -/
theorem zp_setG {σ' : zv_St} {k : Nat} (h : zp_GI σ0 n E o top ht σ D M w st) (hX : zp_RX σ0 n E o top) (hht : 0 < ht) (hk : w (ht - 1) = k) (hDk : D k = false) (hv : ∀ p, zp_vis E o k p → D p = true)
    (e1 : zp_ch [45, 54, 65, 66] σ σ') (e45 : ∀ f, f ≠ 10 → σ'.1 45 f = σ.1 45 f) (e45' : σ'.2 45 = σ.2 45) (e65 : σ'.1 65 k = zp_bi (zp_V E o k).1) (e66 : (zp_V E o k).1 = true → σ'.2 66 k = (zp_V E o k).2) (o65 : ∀ j, j ≠ k → σ'.1 65 j = σ.1 65 j) (o66 : ∀ j, j ≠ k → σ'.2 66 j = σ.2 66 j)
    (e54 : ∀ j, σ'.1 54 j = σ.1 54 j + (if j = k ∧ zp_ask E o k = true then 1 else 0)) (e10 : σ'.1 45 10 = σ.1 45 10 + (if zp_ask E o k = true then 1 else 0)) : zp_GI σ0 n E o top ht σ' (zp_mk D k) M w st ∧ zp_ph (zp_mk D k) M ht < zp_ph D M ht := by
  have hn := hX.1.1.1
  have htop := hX.2.2.2
  obtain ⟨⟨a1, a2, a3, a4⟩, ⟨b1, b2, b3, b4⟩, ⟨c1, c2, c3, c4, c5, c6⟩, d1, d2⟩ := h
  have hkM : M k = true := by rw [← hk]; exact (c1 (ht - 1) (by omega)).2
  obtain ⟨hk1, hk2⟩ := b3 k hkM
  have hc2 := zp_card_mk hDk 80
  rw [if_pos (by omega)] at hc2
  have cle2 := zp_card_le (zp_mk D k) 80
  have mkD : ∀ j, D j = true → zp_mk D k j = true := fun j hj => by show (if j = k then true else D j) = true; rw [hj]; split <;> rfl
  have m8 : ∀ j, M j = true → zp_mn E.1 j ≤ 8 := fun j hj => (hX.1.1.2 j (by have := (b3 j hj).1; omega)).2.1
  refine ⟨⟨⟨a1.tr (e1.mono (by decide)), fun f f1 f2 => (e45 f f2).trans (a2 f f1 f2), e45'.trans a3, (e45 26 (by decide)).trans a4⟩, ⟨fun j hj => ?_, fun j hj => ?_, b3, fun j q hj hq => ?_⟩, ⟨fun i hi => ?_, c2, fun i hi => ?_, fun j hj => ?_, c5, fun i hi hDi => ?_⟩, fun j => ?_, ?_⟩, by unfold zp_ph; omega⟩
  · by_cases cj : j = k
    · subst cj
      have hDt : zp_mk D j j = true := if_pos rfl
      rw [hDt]
      exact ⟨fun z => (by cases z), fun _ => ⟨e65, e66⟩⟩
    · have hDt : zp_mk D k j = D j := if_neg cj
      rw [hDt, o65 j cj, o66 j cj]
      exact b1 j hj
  · by_cases cj : j = k
    · subst cj; exact hkM
    · have hj : (if j = k then true else D j) = true := hj
      rw [if_neg cj] at hj
      exact b2 j hj
  · by_cases cj : j = k
    · subst cj; exact mkD _ (hv q hq)
    · have hj : (if j = k then true else D j) = true := hj
      rw [if_neg cj] at hj
      exact mkD _ (b4 j q hj hq)
  · rw [(e1 69 (by decide)).1]; exact c1 i hi
  · show (if w i = k then true else D (w i)) = false
    have := c2 i (ht - 1) (by omega) (by omega)
    rw [if_neg (by omega)]
    exact c3 i hi
  · rcases c4 j hj with z | z
    · exact Or.inl (mkD _ z)
    · exact Or.inr z
  · have hDi' : D (w i) = false := by
      cases c : D (w i)
      · rfl
      · rw [mkD _ c] at hDi; cases hDi
    exact (c6 i hi hDi').mono (m8 _ (c1 i hi).2) mkD (by rw [(e1 68 (by decide)).1]) (fun j _ => by rw [(e1 67 (by decide)).1])
  · rw [e54 j, d1 j]
    by_cases cj : j = k
    · subst cj
      have hDt : zp_mk D j j = true := if_pos rfl
      rw [hDt, if_neg (fun y => by rw [hDk] at y; cases y.1), Int32.add_zero]
      by_cases ca : zp_ask E o j = true
      · rw [if_pos ⟨rfl, ca⟩, if_pos ⟨rfl, ca⟩]
      · rw [if_neg (fun y => ca y.2), if_neg (fun y => ca y.2)]
    · have hDt : zp_mk D k j = D j := if_neg cj
      rw [hDt, if_neg (fun y : j = k ∧ _ => cj y.1), Int32.add_zero]
  · rw [e10, d2]
    by_cases ca : zp_ask E o k = true
    · rw [if_pos ca, zp_asum_up (k := k) (f := σ.1 54) (g := σ'.1 54) (by rw [e54 k, if_pos ⟨rfl, ca⟩]) (fun j hj => by rw [e54 j, if_neg (fun y => hj y.1), Int32.add_zero]), if_pos (by omega)]
    · have : σ'.1 54 = σ.1 54 := funext (fun j => by rw [e54 j, if_neg (fun y => ca y.2), Int32.add_zero])
      rw [if_neg ca, this, Int32.add_zero]
end GI
