/-! part. -/
theorem zp_tch_low {S : zp_S} {b : Nat → Bool} {c : Nat} (hw : ∀ j, j < c → zp_wf1 S j) (hb : ∀ j, j < c → b j = false) : ∀ m j, j < m → j < c → zp_tch S b j = false := by
  intro m
  induction m with
  | zero => intro j hj; omega
  | succ m ih =>
    intro j hj hc
    rw [zp_tch_eq b (hw j hc), zp_t1_f (hb j hc)]
    refine zp_any_no (fun i hi => ?_)
    have := ((hw j hc).2.2.1 i hi).1
    exact ih _ (by omega) (by omega)
section KT
variable {σ σ' : zv_St} {n : Nat} {S : zp_S} {K : Nat → Option (Nat × (Nat → Bool))} {b it : Nat → Bool}
theorem zp_KR_touch (hw : ∀ k, k < n → zp_wf1 S k) (hKR : zp_KR σ n K) (hk6 : ∀ k, k < n → b k = true → K k = none) (hib : ∀ k, k < n → it k = true → b k = true) (hf : zp_fgS σ σ' S (zp_tch S b) it n) : zp_KR σ' n (fun k => if zp_tch S b k = true then none else K k) := by
  intro k hk
  have h1 := hKR k hk
  have e55 := hf.2.2.2.2 k
  have hT := zp_tch_eq b (hw k hk)
  by_cases ht : zp_tch S b k = true
  · show match (if zp_tch S b k = true then none else K k) with | none => _ | some q => _
    rw [if_pos ht]
    show σ'.1 55 k = -1
    by_cases hi : zp_isx S (zp_tch S b) k = true ∧ it k = false
    · rw [e55, if_pos ⟨hk, hi.1, hi.2⟩]
    · rw [e55, if_neg (fun q => hi q.2)]
      have hbk : b k = true := by
        cases hb : b k with
        | true => rfl
        | false =>
          rw [hT, zp_t1_f hb] at ht
          have hi2 : it k = true := by
            cases hit : it k with
            | true => rfl
            | false => exact absurd ⟨ht, hit⟩ hi
          rw [hib k hk hi2] at hb
          cases hb
      rw [hk6 k hk hbk] at h1
      exact h1
  · show match (if zp_tch S b k = true then none else K k) with | none => _ | some q => _
    rw [if_neg ht]
    have hi : ¬ zp_isx S (zp_tch S b) k = true := fun q => ht (by
      rw [hT]; unfold zp_t1
      rw [show (List.range (zp_mn S k)).any (fun i => zp_tch S b (zp_pt S k i)) = true from q]
      simp)
    rw [e55, if_neg (fun q => hi q.2.1), (hf.1 56 (by decide)).1]
    exact h1
theorem zp_KC_touch {T : Nat → Bool} (hKC : zp_KC σ n K) (hd : zp_dropS σ σ' T n) : zp_KC σ' n (fun k => if T k = true then none else K k) := by
  obtain ⟨h1, h2, h3, h4⟩ := hd
  refine ⟨fun k hk => ?_, fun k hk1 hk2 => ?_⟩
  · have := hKC.1 k hk
    show match (if T k = true then none else K k) with | none => _ | some q => _
    rw [h4 k]
    by_cases ht : T k = true
    · rw [if_pos ht, if_pos ⟨hk, ht⟩]
    · rw [if_neg ht, if_neg (fun q => ht q.2), (h1 17 (by decide)).1, h2]
      exact this
  · rw [h4 k, if_neg (fun q => absurd q.1 (by omega))]
    exact hKC.2 k hk1 hk2
theorem zp_KC_b (hKC : zp_KC σ n K) : ∀ k, k < n → σ.1 16 k = 0 ∨ σ.1 16 k = 1 := by
  intro k hk
  have := hKC.1 k hk
  cases hq : K k with
  | none => rw [hq] at this; exact Or.inl this
  | some q => rw [hq] at this; exact Or.inr this.1
end KT
def zp_addP (S : zp_S) (k r p : Nat) : zp_S := fun c j => match c with
  | 3 => if j = k then S 3 k + 1 else S 3 j
  | 4 => if j = k * 8 + S 3 k then r else S 4 j
  | 5 => if j = k * 8 + S 3 k then p else S 5 j
  | c => S c j
theorem zp_addP_same {S : zp_S} {k r p j : Nat} (hj : j ≠ k) (hm : S 3 j ≤ 8) (hm2 : S 3 k < 8) : zp_sameN S (zp_addP S k r p) j := by
  refine ⟨rfl, rfl, rfl, by simp [zp_addP, hj], fun i hi => ?_⟩
  have h2 : ¬ j * 8 + i = k * 8 + S 3 k := by omega
  exact ⟨by simp [zp_addP, h2], by simp [zp_addP, h2]⟩
theorem zp_addP_wf {S : zp_S} {n k r p : Nat} (hk : k < n) (h : zp_wf n S) (hm2 : S 3 k < 8) (hp : p < k) (hr : r ≤ 3) (hkd : S 0 k = 2 ∨ (S 0 k = 3 ∧ r = 3)) : zp_wf n (zp_addP S k r p) := by
  refine ⟨h.1, fun j hj => ?_⟩
  by_cases e : j = k
  · subst e
    obtain ⟨w0, w1, w2, w3, w4, w5, w6, w7, w8, w9, w10⟩ := h.2 j hj
    have f0 : zp_kd (zp_addP S j r p) j = S 0 j := rfl
    have f1 : zp_fs (zp_addP S j r p) j = S 1 j := rfl
    have f2 : zp_sc (zp_addP S j r p) j = S 2 j := rfl
    have f3 : zp_mn (zp_addP S j r p) j = S 3 j + 1 := by simp [zp_addP]
    have fr : ∀ i, i < S 3 j + 1 → zp_ro (zp_addP S j r p) j i = (if i = S 3 j then r else zp_ro S j i) ∧ zp_pt (zp_addP S j r p) j i = (if i = S 3 j then p else zp_pt S j i) := by
      intro i hi
      by_cases hi2 : i = S 3 j
      · subst hi2
        simp [zp_addP]
      · have : ¬ j * 8 + i = j * 8 + S 3 j := by omega
        simp [zp_addP, this, hi2]
    unfold zp_wf1
    rw [f0, f1, f2, f3]
    refine ⟨w0, by omega, fun i hi => ?_, fun h => ?_, fun h => ?_, w5, fun h => ⟨(w6 h).1, (w6 h).2.1, fun i hi => ?_⟩, fun h => ?_, fun h => ?_, fun h => ?_, fun h => ?_⟩
    · rw [(fr i hi).1, (fr i hi).2]
      by_cases hi2 : i = S 3 j
      · rw [if_pos hi2, if_pos hi2]; exact ⟨hp, hr⟩
      · rw [if_neg hi2, if_neg hi2]; exact w2 i (by show i < S 3 j; omega)
    · exact absurd h (by omega)
    · exact absurd h (by omega)
    · rw [(fr i hi).1]
      by_cases hi2 : i = S 3 j
      · rw [if_pos hi2]; omega
      · rw [if_neg hi2]; exact (w6 h).2.2 i (by show i < S 3 j; omega)
    · exact absurd h (by omega)
    · exact absurd h (by omega)
    · exact absurd h (by omega)
    · exact absurd h (by omega)
  · exact zp_wf1_same (zp_addP_same e (h.2 j hj).2.1 hm2) (h.2 j hj)
section PT
variable {σ : zv_St} {n k r p : Nat} {S : zp_S}
theorem zp_NC_addP (hk : k < n) (hw : zp_wf n S) (hm2 : S 3 k < 8) (hN : zp_NC σ n S) : zp_NC (zv_wi (zv_wi (zv_wi σ 11 (k * 8 + S 3 k) (nI r)) 12 (k * 8 + S 3 k) (nI p)) 10 k (nI (S 3 k + 1))) n (zp_addP S k r p) := by
  refine ⟨by simp only [zp_ri]; simpa using hN.1, fun j hj => ?_⟩
  obtain ⟨a1, a2, a3, a4, a5⟩ := hN.2 j hj
  have hm := (hw.2 j hj).2.1
  have hm' : S 3 j ≤ 8 := hm
  refine ⟨by rw [zp_rn _ _ _ _ (by decide), zp_rn _ _ _ _ (by decide), zp_rn _ _ _ _ (by decide)]; exact a1, by rw [zp_rn _ _ _ _ (by decide), zp_rn _ _ _ _ (by decide), zp_rn _ _ _ _ (by decide)]; exact a2, by rw [zp_rn _ _ _ _ (by decide), zp_rn _ _ _ _ (by decide), zp_rn _ _ _ _ (by decide)]; exact a3, ?_, fun i hi => ?_⟩
  · by_cases e : j = k
    · subst e; simp [zp_ri, zp_addP]
    · simp [zp_ri, zp_addP, e]; exact a4
  · by_cases e : j = k
    · subst e
      have hi3 : i < S 3 j + 1 := by simpa [zp_addP] using hi
      by_cases hi2 : i = S 3 j
      · subst hi2
        simp [zp_ri, zp_addP]
      · have hne : ¬ j * 8 + i = j * 8 + S 3 j := by omega
        have := a5 i (by show i < S 3 j; omega)
        simp [zp_ri, zp_addP, hi2]
        exact this
    · have hi3 : i < S 3 j := by simpa [zp_addP, e] using hi
      have hne : ¬ j * 8 + i = k * 8 + S 3 k := by omega
      have := a5 i hi3
      simp [zp_ri, zp_addP, hne]
      exact this
theorem zp_NR_addP (hk : k < n) (hw : zp_wf n S) (hm2 : S 3 k < 8) (hN : zp_NR σ n S) : zp_NR (zv_wi (zv_wi (zv_wi σ 52 (k * 8 + S 3 k) (nI r)) 53 (k * 8 + S 3 k) (nI p)) 51 k (nI (S 3 k + 1))) n (zp_addP S k r p) := by
  refine ⟨by simp only [zp_ri]; simpa using hN.1, fun j hj => ?_⟩
  obtain ⟨a1, a2, a3, a4, a5⟩ := hN.2 j hj
  have hm := (hw.2 j hj).2.1
  have hm' : S 3 j ≤ 8 := hm
  refine ⟨by rw [zp_rn _ _ _ _ (by decide), zp_rn _ _ _ _ (by decide), zp_rn _ _ _ _ (by decide)]; exact a1, by rw [zp_rn _ _ _ _ (by decide), zp_rn _ _ _ _ (by decide), zp_rn _ _ _ _ (by decide)]; exact a2, by rw [zp_rn _ _ _ _ (by decide), zp_rn _ _ _ _ (by decide), zp_rn _ _ _ _ (by decide)]; exact a3, ?_, fun i hi => ?_⟩
  · by_cases e : j = k
    · subst e; simp [zp_ri, zp_addP]
    · simp [zp_ri, zp_addP, e]; exact a4
  · by_cases e : j = k
    · subst e
      have hi3 : i < S 3 j + 1 := by simpa [zp_addP] using hi
      by_cases hi2 : i = S 3 j
      · subst hi2
        simp [zp_ri, zp_addP]
      · have hne : ¬ j * 8 + i = j * 8 + S 3 j := by omega
        have := a5 i (by show i < S 3 j; omega)
        simp [zp_ri, zp_addP, hi2]
        exact this
    · have hi3 : i < S 3 j := by simpa [zp_addP, e] using hi
      have hne : ¬ j * 8 + i = k * 8 + S 3 k := by omega
      have := a5 i hi3
      simp [zp_ri, zp_addP, hne]
      exact this
/-- the reference's marking of one NODE, then its forgetting -/
theorem zp_partLoopR {Q : Int32 → zv_St → Prop} (hn : n ≤ 80) (hk : k < n) (hw : ∀ j, j < n → zp_wf1 S j) (hM : zp_NR σ n S)
    (q : ∀ σ1 σ', zp_ch [61] σ σ1 → σ1.2 = σ.2 → zp_fgS σ1 σ' S (zp_tch S (fun j => decide (j = k))) (fun j => decide (j = k)) n → Q (σ'.1 51 k) σ') : ∃ m, L_X11_part_126 Q m (nI k) 0 σ := by
  have key : ∀ m j, j + m = n → ∀ σ', zp_ch [61] σ σ' → σ'.2 = σ.2 → (∀ i, i < j → σ'.1 61 i = zp_b2 (decide (i = k))) → L_X11_part_126 Q (m + 1) (nI k) (nI j) σ' := by
    intro m
    induction m with
    | zero =>
      intro j hj σ' h1 h2 h3
      have : j = n := by omega
      subst this
      have hM' : zp_NR σ' j S := hM.ch h1 (by decide) (by rw [(h1 45 (by decide)).1])
      show (_ → _) ∧ _
      rw [hM'.1]
      refine zp_t (nI_le (Nat.le_refl _) (by omega)) ?_
      refine zp_forgetR (it := fun i => decide (i = k)) (b := fun i => decide (i = k)) hn hw hM' h3 (fun i hi => ⟨fun e => by simpa using zp_ninj (by omega) (by omega) e, fun e => by rw [show i = k by simpa using e]⟩) (fun i hi e => e) (fun σ2 hf => ⟨vp_in_nI (by omega) (by decide), ?_⟩)
      rw [nI_clamp (by omega)]
      exact q σ' σ2 h1 h2 hf
    | succ m ih =>
      intro j hj σ' h1 h2 h3
      have hj' : j < n := by omega
      have e45 : σ'.1 45 2 = nI n := by rw [(h1 45 (by decide)).1]; exact hM.1
      show (_ → _) ∧ _
      rw [e45]
      refine zp_f (nI_ge hj' (by omega)) ?_
      have wr : ∀ v : Bool, v = decide (j = k) → B_X11_part_152 Q (L_X11_part_126 Q (m + 1)) (nI k) (nI j) (nI j) (zp_b2 v) σ' := by
        intro v hv
        refine ⟨vp_in_nI (by omega) (by decide), ?_⟩
        rw [nI_clamp (by omega), zp_b2_nar]
        rintro σ1 rfl
        rw [nI_1]
        refine ih (j + 1) (by omega) _ (h1.tr (zp_ch.wi (by decide))) h2 (fun i hi => ?_)
        by_cases e : i = j
        · subst e; rw [zp_rs, hv]
        · rw [zp_rj _ _ e]; exact h3 i (by omega)
      by_cases e : j = k
      · subst e
        exact zp_nf rfl (wr true (by simp))
      · exact zp_nt (fun q => e (zp_ninj (by omega) (by omega) q)) (wr false (by simp [e]))
  exact ⟨n + 1, key n 0 (by omega) σ zp_ch.rf rfl (fun i hi => absurd hi (Nat.not_lt_zero _))⟩
end PT
