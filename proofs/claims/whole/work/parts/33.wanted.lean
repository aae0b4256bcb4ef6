/-! The component's LOOK: whom a NODE wants. -/
def zp_CX (σ : zv_St) (n : Nat) (E : zp_E) (o top : Nat) : Prop := zp_CS σ n E ∧ (∀ k, k ≤ top → zp_BD σ E k) ∧ top < n ∧ o < 512
theorem zp_CX.ch {σ σ' : zv_St} {n : Nat} {E : zp_E} {o top : Nat} (h : zp_CX σ n E o top) (hc : zp_ch [9, 28, 29, 30] σ σ') : zp_CX σ' n E o top := by
  refine ⟨h.1.ch hc (by decide), fun k hk => ?_, h.2.2⟩
  have := h.2.1 k hk
  unfold zp_BD at this ⊢
  rw [(hc 24 (by decide)).1, (hc 25 (by decide)).1, (hc 21 (by decide)).2, (hc 23 (by decide)).2]
  exact this
/-- what is known by now -/
def zp_Dv (E : zp_E) (o : Nat) (D : Nat → Bool) : zp_T := fun p => if D p = true then zp_V E o p else (false, 0)
def zp_OC (σ : zv_St) (E : zp_E) (o : Nat) (D : Nat → Bool) (top : Nat) : Prop := ∀ p, p < top → (σ.1 28 p = 0 ↔ D p = false) ∧ (σ.1 28 p = 1 ↔ (zp_Dv E o D p).1 = true) ∧ ((zp_Dv E o D p).1 = true → σ.2 29 p = (zp_Dv E o D p).2)
/-- the part at this place needs no coming to any more -/
def zp_dn (E : zp_E) (o : Nat) (D : Nat → Bool) (k i : Nat) : Prop := zp_fr E o k i = true ∨ D (zp_pt E.1 k i) = true
theorem zp_dn.hb {E : zp_E} {o : Nat} {D : Nat → Bool} {k i : Nat} (h : zp_dn E o D k i) : zp_hb E o (zp_Dv E o D) k i = zp_hb E o (zp_V E o) k i := by
  unfold zp_hb zp_Dv
  rcases h with h | h
  · rw [h, Bool.or_true, Bool.or_true]
  · rw [if_pos h]
theorem zp_dn.ok {E : zp_E} {o : Nat} {D : Nat → Bool} {k i : Nat} (h : zp_dn E o D k i) : zp_ok E o (zp_Dv E o D) k i = zp_ok E o (zp_V E o) k i := by
  unfold zp_ok
  rw [h.hb]
theorem zp_ndn {E : zp_E} {o : Nat} {D : Nat → Bool} {k i : Nat} (h : ¬ zp_dn E o D k i) : zp_fr E o k i = false ∧ D (zp_pt E.1 k i) = false ∧ zp_hb E o (zp_Dv E o D) k i = false := by
  have h1 : zp_fr E o k i = false := by cases c : zp_fr E o k i; rfl; exact absurd (Or.inl c) h
  have h2 : D (zp_pt E.1 k i) = false := by cases c : D (zp_pt E.1 k i); rfl; exact absurd (Or.inr c) h
  refine ⟨h1, h2, ?_⟩
  unfold zp_hb zp_Dv
  rw [h1, if_neg (by rw [h2]; decide)]
  rfl
theorem zp_ord_ex {r : Nat → Nat} {m i : Nat} (h : i < m) : ∃ j, j < m ∧ (zp_ord r m).getD j 0 = i := by
  have hm := (zp_ord_mem (r := r)).mpr h
  obtain ⟨j, hj, e⟩ := List.getElem_of_mem hm
  have hl := zp_ord_len (r := r) (m := m)
  refine ⟨j, by omega, ?_⟩
  rw [List.getD_eq_getElem?_getD, List.getElem?_eq_getElem hj, Option.getD_some, e]
section WANT
variable {σ : zv_St} {Q : Int32 → zv_St → Prop} {n o top k : Nat} {E : zp_E} {D : Nat → Bool}
theorem zp_maybe (hX : zp_CX σ n E o top) (hk : k ≤ top) (q : Q (zp_bi (zp_may E o k)) σ) : B_X0_maybe Q (nI k) (nI o) σ := by
  have hn := hX.1.1.1
  have := hX.2.2
  exact zp_has_20 (by omega) (by omega) ((hX.2.1 k hk).2.1 o (by omega)).1 ⟨zp_bin _, q⟩
theorem zp_surely (hX : zp_CX σ n E o top) (hk : k ≤ top) (q : Q (zp_bi (zp_sure E o k)) σ) : B_X0_surely Q (nI k) (nI o) σ := by
  have hn := hX.1.1.1
  have := hX.2.2
  exact zp_has_22 (by omega) (by omega) ((hX.2.1 k hk).2.1 o (by omega)).2 ⟨zp_bin _, q⟩
theorem zp_holds (hX : zp_CX σ n E o top) (hO : zp_OC σ E o D top) (hk : k ≤ top) {i : Nat} (hi : i < zp_mn E.1 k) (q : Q (zp_bi (zp_hb E o (zp_Dv E o D) k i)) σ) : B_X4_holds Q (nI (zp_pt E.1 k i)) (nI (zp_ro E.1 k i)) (nI o) σ := by
  have hn := hX.1.1.1
  have htop := hX.2.2
  obtain ⟨v1, v2⟩ := (hX.1.1.2 k (by omega)).2.2.1 i hi
  have hin : vp_in (nI (zp_pt E.1 k i)) 80 := vp_in_nI (by omega) (by decide)
  obtain ⟨o1, o2, o3⟩ := hO (zp_pt E.1 k i) (by omega)
  have h15 : ∀ f : Bool, f = decide (zp_ro E.1 k i = 1 ∨ zp_ro E.1 k i = 2) → B_X4_holds_15 Q (nI (zp_pt E.1 k i)) (nI o) (zp_bi f) σ := by
    intro f hf
    refine ⟨hin, ?_⟩
    rw [nI_clamp (by omega)]
    unfold zp_hb at q
    by_cases c : σ.1 28 (zp_pt E.1 k i) = 1
    · rw [o2.mp c] at q
      exact zp_t c ⟨rfl, q⟩
    · have hd : (zp_Dv E o D (zp_pt E.1 k i)).1 = false := by cases z : (zp_Dv E o D (zp_pt E.1 k i)).1; rfl; exact absurd (o2.mpr z) c
      rw [hd, Bool.false_or] at q
      unfold zp_fr at q
      rw [← hf] at q
      refine zp_f c ?_
      cases f
      · exact zp_t rfl ⟨rfl, q⟩
      · refine zp_f (by decide) (zp_surely hX (by omega) ?_)
        rw [Bool.true_and] at q
        cases z : zp_sure E o (zp_pt E.1 k i)
        · rw [z] at q; exact zp_t rfl ⟨rfl, q⟩
        · rw [z] at q; exact zp_f (by decide) ⟨rfl, q⟩
  by_cases c1 : zp_ro E.1 k i = 1
  · exact zp_t (by rw [c1]; rfl) (h15 true (decide_eq_true (Or.inl c1)).symm)
  · refine zp_f (fun z => c1 (zp_ninj (by omega) (by decide) z)) ?_
    by_cases c2 : zp_ro E.1 k i = 2
    · exact zp_nf (by rw [c2]; rfl) (h15 true (decide_eq_true (Or.inr c2)).symm)
    · exact zp_nt (fun z => c2 (zp_ninj (by omega) (by decide) z)) (h15 false (decide_eq_false (by omega)).symm)
theorem zp_wantedByBool (hX : zp_CX σ n E o top) (hO : zp_OC σ E o D top) (hk : k ≤ top) (e : zp_kd E.1 k = 2) (hm : zp_may E o k = true) (hK : E.2.2.2 k = none)
    (hW : ∀ p, zp_vis E o k p → D p = false → Q (nI p) σ) (hN : (∀ p, zp_vis E o k p → D p = true) → ((∃ i, i < zp_mn E.1 k ∧ zp_dn E o D k i ∧ zp_ok E o (zp_V E o) k i = false) ∨ ∀ i, i < zp_mn E.1 k → zp_dn E o D k i) → Q (-1) σ) : B_X4_wantedByBool Q (nI k) (nI o) σ := by
  have hn := hX.1.1.1
  have htop := hX.2.2
  obtain ⟨w0, w1, w2, -⟩ := hX.1.1.2 k (by omega)
  obtain ⟨-, -, -, l4, l5⟩ := hX.1.2.1.2 k (by omega)
  have hord := (hX.2.1 k hk).2.2 e
  refine zp_for (α := Unit) (L := fun u j _ => L_X4_wantedByBool_2 Q u (nI k) (nI o) (nI j) σ) (zp_mn E.1 k) (fun j _ => ∀ j', j' < j → zp_dn E o D k (zp_oi E k j') ∧ zp_ok E o (zp_V E o) k (zp_oi E k j') = true) (fun u _ h => ?_) (fun u j _ hj h ih => ?_) 0 () (fun j' hj' => by omega) (Nat.zero_le _)
  · unfold L_X4_wantedByBool_2
    refine zp_a_size (by omega) l4 ?_
    refine zp_t (nI_le (Nat.le_refl _) (by omega)) (hN (fun p hv => ?_) (Or.inr (fun i hi => ?_)))
    · obtain ⟨-, -, hv⟩ := hv
      rcases hv with ⟨e2, -⟩ | ⟨-, j, hj, -, b2, rfl⟩
      · exact absurd e e2
      · rcases (h j hj).1 with z | z
        · rw [b2] at z; cases z
        · exact z
    · obtain ⟨j, hj, rfl⟩ := zp_ord_ex (r := zp_rank E k) hi
      exact (h j hj).1
  · have hoj := zp_ord_lt (r := zp_rank E k) hj
    obtain ⟨v1, v2⟩ := w2 _ hoj
    unfold L_X4_wantedByBool_2
    refine zp_a_size (by omega) l4 ?_
    refine zp_f (nI_ge hj (by omega)) ?_
    unfold B_X0_placeInOrder
    rw [zp_m8, nI_add]
    refine ⟨vp_in_nI (by omega) (by decide), ?_⟩
    rw [nI_clamp (by omega), hord j hj]
    refine zp_a_partAt (by omega) (by omega) (l5 _ hoj).2 ?_
    refine zp_a_roleAt (by omega) (by omega) (l5 _ hoj).1 ?_
    refine zp_holds hX hO hk hoj ?_
    have h78 : zp_dn E o D k (zp_oi E k j) → B_X4_wantedByBool_78 Q (L_X4_wantedByBool_2 Q u) (nI k) (nI o) (nI j) (nI (zp_ro E.1 k (zp_oi E k j))) (zp_bi (zp_hb E o (zp_Dv E o D) k (zp_oi E k j))) σ := by
      intro hd
      have hgo : zp_ok E o (zp_V E o) k (zp_oi E k j) = true → B_X4_wantedByBool_96 Q (L_X4_wantedByBool_2 Q u) (nI k) (nI o) (nI j) σ := by
        intro hok
        unfold B_X4_wantedByBool_96
        rw [nI_1]
        refine ih () (fun j' hj' => ?_)
        by_cases c : j' = j
        · subst c; exact ⟨hd, hok⟩
        · exact h j' (by omega)
      have hstop : zp_ok E o (zp_V E o) k (zp_oi E k j) = false → Q (-1) σ := by
        intro hok
        refine hN (fun p hv => ?_) (Or.inl ⟨_, hoj, hd, hok⟩)
        obtain ⟨-, -, hv⟩ := hv
        rcases hv with ⟨e2, -⟩ | ⟨-, j2, hj2, b1, b2, rfl⟩
        · exact absurd e e2
        · have : j2 ≤ j := by
            refine Nat.le_of_not_lt (fun c => ?_)
            have := b1 j c
            rw [hok] at this
            cases this
          by_cases c : j2 = j
          · subst c
            rcases hd with z | z
            · rw [b2] at z; cases z
            · exact z
          · rcases (h j2 (by omega)).1 with z | z
            · rw [b2] at z; cases z
            · exact z
      have hok : zp_ok E o (zp_V E o) k (zp_oi E k j) = (decide (zp_ro E.1 k (zp_oi E k j) = 3) || (zp_hb E o (zp_Dv E o D) k (zp_oi E k j) == decide (zp_ro E.1 k (zp_oi E k j) < 2))) := by
        rw [← hd.ok]; rfl
      by_cases c3 : zp_ro E.1 k (zp_oi E k j) = 3
      · refine zp_t (by rw [c3]; rfl) (hgo ?_)
        rw [hok, decide_eq_true c3]; rfl
      · rw [decide_eq_false c3, Bool.false_or] at hok
        have v2' : zp_ro E.1 k (zp_oi E k j) ≤ 3 := v2
        refine zp_f (fun z => c3 (zp_ninj (by omega) (by decide) z)) (zp_a_needed v2 ?_)
        cases hh : zp_hb E o (zp_Dv E o D) k (zp_oi E k j) <;> cases hc : decide (zp_ro E.1 k (zp_oi E k j) < 2)
        · rw [hh, hc] at hok; exact zp_t rfl (hgo hok)
        · rw [hh, hc] at hok; exact zp_f (by decide) (hstop hok)
        · rw [hh, hc] at hok; exact zp_f (by decide) (hstop hok)
        · rw [hh, hc] at hok; exact zp_t rfl (hgo hok)
    by_cases hd : zp_dn E o D k (zp_oi E k j)
    · have h78 := h78 hd
      cases hc : zp_hb E o (zp_Dv E o D) k (zp_oi E k j)
      · rw [hc] at h78
        refine zp_nf rfl ⟨vp_in_nI (by omega) (by decide), ?_⟩
        rw [nI_clamp (by omega)]
        refine zp_nt (fun z => ?_) h78
        have hD := (hO _ (by omega)).1.mp z
        rcases hd with z2 | z2
        · unfold zp_hb at hc
          rw [z2, Bool.or_true] at hc
          cases hc
        · rw [hD] at z2; cases z2
      · rw [hc] at h78
        exact zp_nt (by decide) h78
    · obtain ⟨n1, n2, n3⟩ := zp_ndn hd
      rw [n3]
      refine zp_nf rfl ⟨vp_in_nI (by omega) (by decide), ?_⟩
      rw [nI_clamp (by omega)]
      exact zp_nf ((hO _ (by omega)).1.mpr n2) (hW _ ⟨hm, hK, Or.inr ⟨e, j, hj, fun j' hj' => (h j' hj').2, n1, rfl⟩⟩ n2)
/-- whom it wants; and, if nobody, what is then known -/
def zp_set (E : zp_E) (o : Nat) (D : Nat → Bool) (k : Nat) : Prop := (∀ p, zp_vis E o k p → D p = true) ∧ (zp_may E o k = true → E.2.2.2 k = none → (zp_kd E.1 k ≠ 2 → ∀ i, i < zp_mn E.1 k → D (zp_pt E.1 k i) = true) ∧ (zp_kd E.1 k = 2 → ((∃ i, i < zp_mn E.1 k ∧ zp_dn E o D k i ∧ zp_ok E o (zp_V E o) k i = false) ∨ ∀ i, i < zp_mn E.1 k → zp_dn E o D k i)))
theorem zp_wantedBy (hX : zp_CX σ n E o top) (hO : zp_OC σ E o D top) (hk : k ≤ top)
    (hW : ∀ p, zp_vis E o k p → D p = false → Q (nI p) σ) (hN : zp_set E o D k → Q (-1) σ) : B_X4_wantedBy Q (nI k) (nI o) σ := by
  have hn := hX.1.1.1
  have htop := hX.2.2
  obtain ⟨w0, w1, w2, -⟩ := hX.1.1.2 k (by omega)
  obtain ⟨l0, -, -, l4, l5⟩ := hX.1.2.1.2 k (by omega)
  have hKC := hX.1.2.2.2.2.1.1 k (by omega)
  refine zp_maybe hX hk ?_
  cases hm : zp_may E o k
  · exact zp_t rfl (hN ⟨fun p hv => (by have := hv.1; rw [hm] at this; cases this), fun z => (by rw [hm] at z; cases z)⟩)
  · refine zp_f (by decide) ?_
    cases hq : E.2.2.2 k with
    | some q =>
      rw [hq] at hKC
      refine zp_a_isThere (b := true) (by omega) hKC.1 (zp_f (by decide) (hN ⟨fun p hv => ?_, fun _ z => ?_⟩))
      · have := hv.2.1; rw [hq] at this; cases this
      · rw [hq] at z; cases z
    | none =>
      rw [hq] at hKC
      refine zp_a_isThere (b := false) (by omega) hKC (zp_t rfl ?_)
      refine zp_a_kind (by omega) l0 ?_
      by_cases e : zp_kd E.1 k = 2
      · refine zp_nf (by rw [e]; rfl) (zp_wantedByBool hX hO hk e hm hq hW (fun h1 h2 => hN ⟨h1, fun _ _ => ⟨fun z => absurd e z, fun _ => h2⟩⟩))
      · refine zp_nt (fun z => e (zp_ninj (by omega) (by decide) z)) ?_
        refine zp_for (α := Unit) (L := fun u i _ => L_X4_wantedBy_46 Q u (nI k) (nI i) σ) (zp_mn E.1 k) (fun i _ => ∀ j, j < i → D (zp_pt E.1 k j) = true) (fun u _ h => ?_) (fun u i _ hi h ih => ?_) 0 () (fun j hj => by omega) (Nat.zero_le _)
        · unfold L_X4_wantedBy_46
          refine zp_a_size (by omega) l4 ?_
          refine zp_t (nI_le (Nat.le_refl _) (by omega)) (hN ⟨fun p hv => ?_, fun _ _ => ⟨fun _ => h, fun z => absurd z e⟩⟩)
          obtain ⟨-, -, hv⟩ := hv
          rcases hv with ⟨-, i, hi, rfl⟩ | ⟨e2, -⟩
          · exact h i hi
          · exact absurd e2 e
        · obtain ⟨v1, v2⟩ := w2 i hi
          unfold L_X4_wantedBy_46
          refine zp_a_size (by omega) l4 ?_
          refine zp_f (nI_ge hi (by omega)) ?_
          refine zp_a_partAt (by omega) (by omega) (l5 i hi).2 ⟨vp_in_nI (by omega) (by decide), ?_⟩
          rw [nI_clamp (by omega), (hO (zp_pt E.1 k i) (by omega)).1, nI_1]
          cases hD : D (zp_pt E.1 k i)
          · exact zp_nf rfl (hW _ ⟨hm, hq, Or.inl ⟨e, i, hi, rfl⟩⟩ hD)
          · refine zp_nt (by decide) (ih () (fun j hj => ?_))
            by_cases c : j = i
            · subst c; exact hD
            · exact h j (by omega)
end WANT
