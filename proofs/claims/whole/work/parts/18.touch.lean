/-! What a change touches: a NODE that b names, or one of whose PARTS is touched. -/
def zp_b2 (b : Bool) : Int32 := if b = true then 1 else 0
def zp_t1 (S : zp_S) (b : Nat → Bool) (t : Nat → Bool) (k : Nat) : Bool := b k || (List.range (zp_mn S k)).any (fun i => t (zp_pt S k i))
def zp_tt (S : zp_S) (b : Nat → Bool) : Nat → (Nat → Bool)
  | 0 => fun _ => false
  | k + 1 => fun j => if j = k then zp_t1 S b (zp_tt S b k) k else zp_tt S b k j
def zp_tch (S : zp_S) (b : Nat → Bool) (k : Nat) : Bool := zp_tt S b (k + 1) k
theorem zp_tt_at (S : zp_S) (b : Nat → Bool) {m j : Nat} (h : j < m) : zp_tt S b m j = zp_tch S b j := by
  induction m with
  | zero => omega
  | succ m ih =>
    by_cases e : j = m
    · subst e; rfl
    · show (if j = m then _ else _) = _
      rw [if_neg e]
      exact ih (by omega)
theorem zp_tch_eq {S : zp_S} (b : Nat → Bool) {k : Nat} (hw : zp_wf1 S k) : zp_tch S b k = zp_t1 S b (zp_tch S b) k := by
  show (if k = k then zp_t1 S b (zp_tt S b k) k else _) = _
  rw [if_pos rfl]
  unfold zp_t1
  congr 1
  exact zp_any_congr (fun i hi => zp_tt_at S b (hw.2.2.1 i hi).1)
theorem zp_t1_f {S : zp_S} {b t : Nat → Bool} {k : Nat} (h : b k = false) : zp_t1 S b t k = (List.range (zp_mn S k)).any (fun i => t (zp_pt S k i)) := by
  unfold zp_t1
  rw [h]
  rfl
theorem zp_t1_t {S : zp_S} {b t : Nat → Bool} {k : Nat} (h : b k = true) : zp_t1 S b t k = true := by
  unfold zp_t1
  rw [h]
  rfl
theorem zp_b2_0 {b : Bool} : zp_b2 b = 0 ↔ b = false := by cases b <;> simp [zp_b2]
theorem zp_b2_nar (b : Bool) : vp_nar .boolean (zp_b2 b) = zp_b2 b := by cases b <;> rfl
theorem zp_b2_bool (b : Bool) : narrow .boolean (.int (zp_b2 b)) = .int (zp_b2 b) := by cases b <;> rfl
section TC
variable {σ : zv_St} {n : Nat} {S : zp_S}
theorem zp_any_to {f : Nat → Bool} {i m : Nat} (hi : i < m) (h : ∀ j, j < i → f j = false) (he : f i = true) : (List.range m).any f = true := List.any_eq_true.mpr ⟨i, List.mem_range.mpr hi, he⟩
theorem zp_any_no {f : Nat → Bool} {m : Nat} (h : ∀ j, j < m → f j = false) : (List.range m).any f = false := by
  rw [Bool.eq_false_iff]
  intro q
  obtain ⟨x, hx, e⟩ := List.any_eq_true.mp q
  rw [h x (List.mem_range.mp hx)] at e
  cases e
theorem zp_touches {Q : Int32 → zv_St → Prop} {k : Nat} {t : Nat → Bool} (hn : n ≤ 80) (hw : zp_wf1 S k) (hN : zp_NC σ n S) (hk : k < n) (ht : ∀ j, j < k → σ.1 18 j = zp_b2 (t j)) (q : Q (zp_b2 ((List.range (zp_mn S k)).any (fun i => t (zp_pt S k i)))) σ) : B_X9_touchesByParts Q (nI k) σ := by
  obtain ⟨a1, a2, a3, a4, a5⟩ := hN.2 k hk
  have hm := hw.2.1
  have key : ∀ m i, i + m = zp_mn S k → (∀ j, j < i → t (zp_pt S k j) = false) → L_X9_touchesByParts_2 Q (m + 1) (nI k) (nI i) σ := by
    intro m
    induction m with
    | zero =>
      intro i hi hall
      have : i = zp_mn S k := by omega
      subst this
      refine ⟨vp_in_nI (by omega) (by decide), ?_⟩
      rw [nI_clamp (by omega), a4]
      refine zp_t (nI_le (Nat.le_refl _) (by omega)) ?_
      rw [zp_any_no hall] at q
      exact q
    | succ m ih =>
      intro i hi hall
      refine ⟨vp_in_nI (by omega) (by decide), ?_⟩
      rw [nI_clamp (by omega), a4]
      refine zp_f (nI_ge (by omega) (by omega)) ?_
      unfold B_X5_partAt
      rw [zp_m8, nI_add]
      refine ⟨vp_in_nI (by omega) (by decide), ?_⟩
      rw [nI_clamp (by omega), (a5 i (by omega)).2]
      have hp := (hw.2.2.1 i (by omega)).1
      refine ⟨vp_in_nI (by omega) (by decide), ?_⟩
      rw [nI_clamp (by omega), ht _ hp]
      cases hti : t (zp_pt S k i) with
      | false =>
        refine zp_t rfl ?_
        rw [nI_1]
        exact ih (i + 1) (by omega) (fun j hj => by
          rcases Nat.lt_or_ge j i with h | h
          · exact hall j h
          · rw [show j = i by omega]; exact hti)
      | true =>
        refine zp_f (by decide) ?_
        rw [zp_any_to (f := fun i => t (zp_pt S k i)) (i := i) (by omega) hall hti] at q
        exact q
  exact ⟨zp_mn S k + 1, key (zp_mn S k) 0 (by omega) (fun j hj => absurd hj (Nat.not_lt_zero _))⟩
/-- the state behind the first k steps of a dropping -/
def zp_dropS (σ σ' : zv_St) (T : Nat → Bool) (k : Nat) : Prop := zp_ch [16, 18] σ σ' ∧ σ'.2 = σ.2 ∧ (∀ j, j < k → σ'.1 18 j = zp_b2 (T j)) ∧ ∀ j, σ'.1 16 j = if j < k ∧ T j = true then 0 else σ.1 16 j
theorem zp_dropS.next {σ' : zv_St} {T : Nat → Bool} {k : Nat} (h : zp_dropS σ σ' T k) (hb : σ.1 16 k = 0 ∨ σ.1 16 k = 1) {v : Int32} (hv : v = if T k = true then 0 else σ.1 16 k) : zp_dropS σ (zv_wi (zv_wi σ' 18 k (zp_b2 (T k))) 16 k v) T (k + 1) := by
  obtain ⟨h1, h2, h3, h4⟩ := h
  refine ⟨(h1.tr (zp_ch.wi (by decide))).tr (zp_ch.wi (by decide)), h2, fun j hj => ?_, fun j => ?_⟩
  · rw [zp_rn _ _ _ _ (by decide)]
    by_cases e : j = k
    · subst e; rw [zp_rs]
    · rw [zp_rj _ _ e]; exact h3 j (by omega)
  · by_cases e : j = k
    · subst e
      rw [zp_rs, hv]
      by_cases hT : T j = true
      · rw [if_pos hT, if_pos ⟨by omega, hT⟩]
      · rw [if_neg hT, if_neg (fun q => hT q.2)]
    · rw [zp_rj _ _ e, zp_rn _ _ _ _ (by decide), h4]
      by_cases hj : j < k ∧ T j = true
      · rw [if_pos hj, if_pos ⟨by omega, hj.2⟩]
      · rw [if_neg hj, if_neg (fun q => hj ⟨by omega, q.2⟩)]
theorem zp_dropList {Q : zv_St → Prop} {l : Nat} (hn : n ≤ 80) (hl : l < 16) (hw : ∀ k, k < n → zp_wf1 S k) (hN : zp_NC σ n S) (hb : ∀ k, k < n → σ.1 16 k = 0 ∨ σ.1 16 k = 1)
    (q : ∀ σ', zp_dropS σ σ' (zp_tch S (fun k => decide (zp_kd S k = 0 ∧ zp_fs S k = l))) n → Q σ') : B_X9_dropThoseOverList Q (nI l) σ := by
  have key : ∀ m k, k + m = n → ∀ σ', zp_dropS σ σ' (zp_tch S (fun k => decide (zp_kd S k = 0 ∧ zp_fs S k = l))) k → L_X9_dropThoseOverList_2 Q (m + 1) (nI l) (nI k) σ' := by
    intro m
    induction m with
    | zero =>
      intro k hk σ' hσ
      have : k = n := by omega
      subst this
      show (_ → _) ∧ _
      rw [(hσ.1 5 (by decide)).1, hN.1]
      exact zp_t (nI_le (Nat.le_refl _) (by omega)) (q σ' hσ)
    | succ m ih =>
      intro k hk σ' hσ
      have hk' : k < n := by omega
      have hN' : zp_NC σ' n S := hN.ch hσ.1 (by decide)
      obtain ⟨a1, a2, a3, a4, a5⟩ := hN'.2 k hk'
      have hwk := hw k hk'
      have hT := zp_tch_eq (fun k => decide (zp_kd S k = 0 ∧ zp_fs S k = l)) hwk
      have h16 : σ'.1 16 k = σ.1 16 k := by rw [hσ.2.2.2 k, if_neg (fun q => absurd q.1 (by omega))]
      have wr : ∀ tk : Bool, zp_tch S (fun k => decide (zp_kd S k = 0 ∧ zp_fs S k = l)) k = tk → B_X9_dropThoseOverList_45 Q (L_X9_dropThoseOverList_2 Q (m + 1)) (nI l) (nI k) (nI k) (zp_b2 tk) σ' := by
        intro tk htk
        refine ⟨vp_in_nI (by omega) (by decide), ?_⟩
        rw [nI_clamp (by omega), zp_b2_nar]
        rintro σ1 rfl
        refine ⟨vp_in_nI (by omega) (by decide), ?_⟩
        rw [zp_rn _ _ _ _ (by decide), zp_rs, h16]
        have fin : ∀ v : Int32, v = (if tk = true then 0 else σ.1 16 k) → vp_nar .boolean v = v → B_X9_dropThoseOverList_74 Q (L_X9_dropThoseOverList_2 Q (m + 1)) (nI l) (nI k) (nI k) v (zv_wi σ' 18 k (zp_b2 tk)) := by
          intro v hv hnar
          refine ⟨vp_in_nI (by omega) (by decide), ?_⟩
          rw [nI_clamp (by omega), hnar]
          rintro σ2 rfl
          rw [nI_1]
          have := hσ.next (hb k hk') (v := v) (by rw [htk]; exact hv)
          rw [htk] at this
          exact ih (k + 1) (by omega) _ this
        rcases hb k hk' with e | e
        · rw [e] at fin
          refine zp_t e (fin 0 (by cases tk <;> rfl) rfl)
        · rw [e] at fin
          refine zp_f (by rw [e]; decide) ⟨vp_in_nI (by omega) (by decide), ?_⟩
          cases tk with
          | true => exact zp_nt (by decide) (fin 0 rfl rfl)
          | false => exact zp_nf rfl (fin 1 rfl rfl)
      show (_ → _) ∧ _
      rw [hN'.1]
      refine zp_f (nI_ge hk' (by omega)) ⟨vp_in_nI (by omega) (by decide), ?_⟩
      rw [nI_clamp (by omega), a1, a2, a3]
      have hfs : zp_kd S k = 0 → zp_fs S k < 16 ∧ zp_sc S k = 0 := fun h => ⟨(hwk.2.2.2.1 h).1, (hwk.2.2.2.1 h).2.1⟩
      by_cases hb1 : zp_kd S k = 0 ∧ zp_fs S k = l
      · rw [hb1.1, hb1.2, (hfs hb1.1).2]
        refine zp_nf rfl ⟨vp_in_nI (by omega) (by decide), zp_nf rfl ⟨vp_in_nI (by omega) (by decide), zp_nf rfl ⟨rfl, zp_nt (by decide) ?_⟩⟩⟩
        exact wr true (by rw [hT]; unfold zp_t1; simp [hb1])
      · have other : B_X9_touchesByParts (fun r_6 σ_5 => (r_6 = 0 → (B_X9_dropThoseOverList_45 Q (L_X9_dropThoseOverList_2 Q (m + 1)) (nI l) (nI k) (nI k) 0 σ_5)) ∧ (¬ r_6 = 0 → (B_X9_dropThoseOverList_40 Q (L_X9_dropThoseOverList_2 Q (m + 1)) (nI l) (nI k) (nI k) σ_5))) (nI k) σ' := by
          refine zp_touches hn hwk hN' hk' (fun j hj => hσ.2.2.1 j hj) ?_
          have hT2 : zp_tch S (fun k => decide (zp_kd S k = 0 ∧ zp_fs S k = l)) k = (List.range (zp_mn S k)).any (fun i => zp_tch S (fun k => decide (zp_kd S k = 0 ∧ zp_fs S k = l)) (zp_pt S k i)) := by
            rw [hT, zp_t1_f (decide_eq_false hb1)]
          rw [← hT2]
          cases hh : zp_tch S (fun k => decide (zp_kd S k = 0 ∧ zp_fs S k = l)) k with
          | false => exact zp_t rfl (wr false hh)
          | true => exact zp_f (by decide) (wr true hh)
        by_cases hk0 : zp_kd S k = 0
        · have hne : ¬ zp_fs S k = l := fun e => hb1 ⟨hk0, e⟩
          rw [hk0]
          refine zp_nf rfl ⟨vp_in_nI (by omega) (by decide), zp_nt (fun e => hne (zp_ninj (by have := (hfs hk0).1; omega) (by omega) e)) ⟨rfl, zp_nf rfl other⟩⟩
        · exact zp_nt (fun e => hk0 (zp_ninj (b := 0) (by have := hwk.1; omega) (by decide) e)) ⟨rfl, zp_nf rfl other⟩
  exact ⟨n + 1, key n 0 (by omega) σ ⟨zp_ch.rf, rfl, fun j hj => absurd hj (Nat.not_lt_zero _), fun j => by rw [if_neg (fun q => absurd q.1 (Nat.not_lt_zero _))]⟩⟩
theorem zp_dropAbove {Q : zv_St → Prop} {c : Nat} (hn : n ≤ 80) (hc : c < 80) (hw : ∀ k, k < n → zp_wf1 S k) (hN : zp_NC σ n S) (hb : ∀ k, k < n → σ.1 16 k = 0 ∨ σ.1 16 k = 1)
    (q : ∀ σ', zp_dropS σ σ' (zp_tch S (fun k => decide (k = c))) n → Q σ') : B_X9_dropThoseAbove Q (nI c) σ := by
  have key : ∀ m k, k + m = n → ∀ σ', zp_dropS σ σ' (zp_tch S (fun k => decide (k = c))) k → L_X9_dropThoseAbove_2 Q (m + 1) (nI c) (nI k) σ' := by
    intro m
    induction m with
    | zero =>
      intro k hk σ' hσ
      have : k = n := by omega
      subst this
      show (_ → _) ∧ _
      rw [(hσ.1 5 (by decide)).1, hN.1]
      exact zp_t (nI_le (Nat.le_refl _) (by omega)) (q σ' hσ)
    | succ m ih =>
      intro k hk σ' hσ
      have hk' : k < n := by omega
      have hN' : zp_NC σ' n S := hN.ch hσ.1 (by decide)
      have hwk := hw k hk'
      have hT := zp_tch_eq (fun k => decide (k = c)) hwk
      have h16 : σ'.1 16 k = σ.1 16 k := by rw [hσ.2.2.2 k, if_neg (fun q => absurd q.1 (by omega))]
      have wr : ∀ tk : Bool, zp_tch S (fun k => decide (k = c)) k = tk → B_X9_dropThoseAbove_36 Q (L_X9_dropThoseAbove_2 Q (m + 1)) (nI c) (nI k) (nI k) (zp_b2 tk) σ' := by
        intro tk htk
        refine ⟨vp_in_nI (by omega) (by decide), ?_⟩
        rw [nI_clamp (by omega), zp_b2_nar]
        rintro σ1 rfl
        refine ⟨vp_in_nI (by omega) (by decide), ?_⟩
        rw [zp_rn _ _ _ _ (by decide), zp_rs, h16]
        have fin : ∀ v : Int32, v = (if tk = true then 0 else σ.1 16 k) → vp_nar .boolean v = v → B_X9_dropThoseAbove_65 Q (L_X9_dropThoseAbove_2 Q (m + 1)) (nI c) (nI k) (nI k) v (zv_wi σ' 18 k (zp_b2 tk)) := by
          intro v hv hnar
          refine ⟨vp_in_nI (by omega) (by decide), ?_⟩
          rw [nI_clamp (by omega), hnar]
          rintro σ2 rfl
          rw [nI_1]
          have := hσ.next (hb k hk') (v := v) (by rw [htk]; exact hv)
          rw [htk] at this
          exact ih (k + 1) (by omega) _ this
        rcases hb k hk' with e | e
        · rw [e] at fin
          refine zp_t e (fin 0 (by cases tk <;> rfl) rfl)
        · rw [e] at fin
          refine zp_f (by rw [e]; decide) ⟨vp_in_nI (by omega) (by decide), ?_⟩
          cases tk with
          | true => exact zp_nt (by decide) (fin 0 rfl rfl)
          | false => exact zp_nf rfl (fin 1 rfl rfl)
      show (_ → _) ∧ _
      rw [hN'.1]
      refine zp_f (nI_ge hk' (by omega)) ?_
      by_cases hkc : k = c
      · subst hkc
        refine zp_t rfl (wr true (by rw [hT]; unfold zp_t1; simp))
      · refine zp_f (fun e => hkc (zp_ninj (by omega) (by omega) e)) ?_
        refine zp_touches hn hwk hN' hk' (fun j hj => hσ.2.2.1 j hj) ?_
        have hT2 : zp_tch S (fun k => decide (k = c)) k = (List.range (zp_mn S k)).any (fun i => zp_tch S (fun k => decide (k = c)) (zp_pt S k i)) := by
          rw [hT, zp_t1_f (decide_eq_false hkc)]
        rw [← hT2]
        cases hh : zp_tch S (fun k => decide (k = c)) k with
        | false => exact zp_t rfl (wr false hh)
        | true => exact zp_f (by decide) (wr true hh)
  exact ⟨n + 1, key n 0 (by omega) σ ⟨zp_ch.rf, rfl, fun j hj => absurd hj (Nat.not_lt_zero _), fun j => by rw [if_neg (fun q => absurd q.1 (Nat.not_lt_zero _))]⟩⟩
theorem zp_forgetFrom {Q : zv_St → Prop} {r c : Nat} (hr : σ.1 19 8 = nI r) (hr8 : r < 2 ^ 31) (hc : c < 2 ^ 31) (q : Q (zv_wi σ 19 8 (nI (min r c)))) : B_X0_forgetFrom Q (nI c) σ := by
  show (_ → _) ∧ _
  rw [hr]
  by_cases h : c < r
  · refine zp_t (nI_lt h hr8) ?_
    rintro σ1 rfl
    rw [show min r c = c by omega] at q
    exact q
  · refine zp_f (nI_nlt (by omega) hc) ?_
    rintro σ1 rfl
    rw [show min r c = r by omega] at q
    exact q
end TC
