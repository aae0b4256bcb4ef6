section TR
variable {σ : zv_St} {n : Nat} {S : zp_S}
def zp_isx (S : zp_S) (T : Nat → Bool) (k : Nat) : Bool := (List.range (zp_mn S k)).any (fun i => T (zp_pt S k i))
def zp_fgS (σ σ' : zv_St) (S : zp_S) (T it : Nat → Bool) (k : Nat) : Prop := zp_ch [55, 61] σ σ' ∧ σ'.2 = σ.2 ∧ (∀ j, j < k → σ'.1 61 j = zp_b2 (T j)) ∧ (∀ j, k ≤ j → σ'.1 61 j = σ.1 61 j) ∧ ∀ j, σ'.1 55 j = if j < k ∧ zp_isx S T j = true ∧ it j = false then -1 else σ.1 55 j
theorem zp_any_succ {f : Nat → Bool} {i : Nat} : (List.range (i + 1)).any f = ((List.range i).any f || f i) := by
  rw [List.range_succ, List.any_append]
  simp
theorem zp_forgetR {Q : zv_St → Prop} {x1 : Int32} {it b : Nat → Bool} (hn : n ≤ 80) (hw : ∀ k, k < n → zp_wf1 S k) (hM : zp_NR σ n S) (h61 : ∀ k, k < n → σ.1 61 k = zp_b2 (b k)) (hx : ∀ k, k < n → (nI k = x1 ↔ it k = true)) (hib : ∀ k, k < n → it k = true → b k = true)
    (q : ∀ σ', zp_fgS σ σ' S (zp_tch S b) it n → Q σ') : B_X11_forget Q x1 σ := by
  have key : ∀ m k, k + m = n → ∀ σ', zp_fgS σ σ' S (zp_tch S b) it k → L_X11_forget_2 Q (m + 1) x1 (nI k) σ' := by
    intro m
    induction m with
    | zero =>
      intro k hk σ' hσ
      have : k = n := by omega
      subst this
      have e2 : σ'.1 45 2 = nI k := by rw [(hσ.1 45 (by decide)).1]; exact hM.1
      show (_ → _) ∧ _
      rw [e2]
      exact zp_t (nI_le (Nat.le_refl _) (by omega)) (q σ' hσ)
    | succ m ih =>
      intro k hk σ' hσ
      have hk' : k < n := by omega
      have hM' : zp_NR σ' n S := hM.ch hσ.1 (by decide) (by rw [(hσ.1 45 (by decide)).1])
      obtain ⟨a1, a2, a3, a4, a5⟩ := hM'.2 k hk'
      have hwk := hw k hk'
      have hm8 := hwk.2.1
      have hT := zp_tch_eq b hwk
      have h61k : σ'.1 61 k = zp_b2 (b k) := by rw [hσ.2.2.2.1 k (Nat.le_refl _)]; exact h61 k hk'
      show (_ → _) ∧ _
      rw [hM'.1]
      refine zp_f (nI_ge hk' (by omega)) ?_
      have inner : ∀ m2 i, i + m2 = zp_mn S k → L_X11_forget_15 Q (L_X11_forget_2 Q (m + 1)) (m2 + 1) x1 (nI k) (zp_b2 ((List.range i).any (fun i => zp_tch S b (zp_pt S k i)))) (nI i) σ' := by
        intro m2
        induction m2 with
        | zero =>
          intro i hi
          have : i = zp_mn S k := by omega
          subst this
          refine ⟨vp_in_nI (by omega) (by decide), ?_⟩
          rw [nI_clamp (by omega), a4]
          refine zp_t (nI_le (Nat.le_refl _) (by omega)) ?_
          have nxt : ∀ σ2, zp_fgS σ σ2 S (zp_tch S b) it (k + 1) → B_X11_forget_85 Q (L_X11_forget_2 Q (m + 1)) x1 (nI k) σ2 := by
            intro σ2 h2
            show L_X11_forget_2 Q (m + 1) x1 (nI k + 1) σ2
            rw [nI_1]
            exact ih (k + 1) (by omega) σ2 h2
          have stay : (zp_isx S (zp_tch S b) k = true → it k = true) → zp_fgS σ σ' S (zp_tch S b) it (k + 1) := by
            intro hst
            refine ⟨hσ.1, hσ.2.1, fun j hj => ?_, fun j hj => hσ.2.2.2.1 j (by omega), fun j => ?_⟩
            · by_cases e : j = k
              · subst e
                rw [h61k]
                cases hbk : b j with
                | true => rw [hT, zp_t1_t hbk]
                | false =>
                  rw [hT, zp_t1_f hbk]
                  show zp_b2 false = zp_b2 (zp_isx S (zp_tch S b) j)
                  cases hi2 : zp_isx S (zp_tch S b) j with
                  | false => rfl
                  | true =>
                    have := hib j hk' (hst hi2)
                    rw [hbk] at this
                    cases this
              · exact hσ.2.2.1 j (by omega)
            · rw [hσ.2.2.2.2 j]
              by_cases e : j = k
              · subst e
                rw [if_neg (fun q => absurd q.1 (by omega)), if_neg (fun q => by
                  have := hst q.2.1
                  rw [q.2.2] at this
                  cases this)]
              · by_cases hj : j < k ∧ zp_isx S (zp_tch S b) j = true ∧ it j = false
                · rw [if_pos hj, if_pos ⟨by omega, hj.2⟩]
                · rw [if_neg hj, if_neg (fun q => hj ⟨by omega, q.2⟩)]
          cases hi2 : (List.range (zp_mn S k)).any (fun i => zp_tch S b (zp_pt S k i)) with
          | false =>
            refine zp_t rfl (nxt σ' (stay (fun h => ?_)))
            rw [show zp_isx S (zp_tch S b) k = false from hi2] at h
            cases h
          | true =>
            refine zp_f (by decide) ?_
            cases hitk : it k with
            | true => exact zp_t ((hx k hk').mpr hitk) (nxt σ' (stay (fun _ => hitk)))
            | false =>
              refine zp_f (fun e => ?_) ⟨vp_in_nI (by omega) (by decide), ?_⟩
              · have := (hx k hk').mp e
                rw [hitk] at this
                cases this
              · rintro σ1 rfl
                refine ⟨vp_in_nI (by omega) (by decide), ?_⟩
                rintro σ2 rfl
                refine nxt _ ⟨(hσ.1.tr (zp_ch.wi (by decide))).tr (zp_ch.wi (by decide)), hσ.2.1, fun j hj => ?_, fun j hj => ?_, fun j => ?_⟩
                · rw [zp_rn _ _ _ _ (by decide)]
                  by_cases e : j = k
                  · subst e
                    rw [zp_rs]
                    have : zp_tch S b j = true := by
                      rw [hT]; unfold zp_t1; rw [hi2]; simp
                    rw [this]
                    rfl
                  · rw [zp_rj _ _ e]; exact hσ.2.2.1 j (by omega)
                · rw [zp_rn _ _ _ _ (by decide), zp_rj _ _ (by omega)]
                  exact hσ.2.2.2.1 j (by omega)
                · by_cases e : j = k
                  · subst e
                    rw [zp_rs, if_pos ⟨by omega, hi2, hitk⟩]
                  · rw [zp_rj _ _ e, zp_rn _ _ _ _ (by decide), hσ.2.2.2.2 j]
                    by_cases hj : j < k ∧ zp_isx S (zp_tch S b) j = true ∧ it j = false
                    · rw [if_pos hj, if_pos ⟨by omega, hj.2⟩]
                    · rw [if_neg hj, if_neg (fun q => hj ⟨by omega, q.2⟩)]
        | succ m2 ih2 =>
          intro i hi
          refine ⟨vp_in_nI (by omega) (by decide), ?_⟩
          rw [nI_clamp (by omega), a4]
          refine zp_f (nI_ge (by omega) (by omega)) ?_
          have nx := ih2 (i + 1) (by omega)
          rw [zp_any_succ] at nx
          cases hacc : (List.range i).any (fun i => zp_tch S b (zp_pt S k i)) with
          | true =>
            rw [hacc] at nx
            refine zp_nt (by decide) ?_
            show L_X11_forget_15 Q (L_X11_forget_2 Q (m + 1)) (m2 + 1) x1 (nI k) 1 (nI i + 1) σ'
            rw [nI_1]
            exact nx
          | false =>
            rw [hacc] at nx
            refine zp_nf rfl ?_
            rw [zp_8m, nI_add]
            refine ⟨vp_in_nI (by omega) (by decide), ?_⟩
            rw [nI_clamp (by omega), (a5 i (by omega)).2]
            have hp := (hwk.2.2.1 i (by omega)).1
            refine ⟨vp_in_nI (by omega) (by decide), ?_⟩
            rw [nI_clamp (by omega), hσ.2.2.1 _ hp]
            cases hti : zp_tch S b (zp_pt S k i) with
            | false =>
              rw [hti] at nx
              refine zp_t rfl ?_
              show L_X11_forget_15 Q (L_X11_forget_2 Q (m + 1)) (m2 + 1) x1 (nI k) 0 (nI i + 1) σ'
              rw [nI_1]
              exact nx
            | true =>
              rw [hti] at nx
              refine zp_f (by decide) ?_
              show L_X11_forget_15 Q (L_X11_forget_2 Q (m + 1)) (m2 + 1) x1 (nI k) 1 (nI i + 1) σ'
              rw [nI_1]
              exact nx
      exact ⟨_, inner (zp_mn S k) 0 (by omega)⟩
  exact ⟨n + 1, key n 0 (by omega) σ ⟨zp_ch.rf, rfl, fun j hj => absurd hj (Nat.not_lt_zero _), fun j _ => rfl, fun j => by rw [if_neg (fun q => absurd q.1 (Nat.not_lt_zero _))]⟩⟩
/-- the reference's change of a list -/
theorem zp_changeR {Q : zv_St → Prop} {l : Nat} (hn : n ≤ 80) (hl : l < 16) (hw : ∀ k, k < n → zp_wf1 S k) (hM : zp_NR σ n S)
    (q : ∀ σ1 σ', zp_ch [61] σ σ1 → σ1.2 = σ.2 → zp_fgS σ1 σ' S (zp_tch S (fun k => decide (zp_kd S k = 0 ∧ zp_fs S k = l))) (fun _ => false) n → Q σ') : B_X11_change Q (nI l) σ := by
  have key : ∀ m k, k + m = n → ∀ σ', zp_ch [61] σ σ' → σ'.2 = σ.2 → (∀ j, j < k → σ'.1 61 j = zp_b2 (decide (zp_kd S j = 0 ∧ zp_fs S j = l))) → L_X11_change_2 Q (m + 1) (nI l) (nI k) σ' := by
    intro m
    induction m with
    | zero =>
      intro k hk σ' h1 h2 h3
      have : k = n := by omega
      subst this
      have hM' : zp_NR σ' k S := hM.ch h1 (by decide) (by rw [(h1 45 (by decide)).1])
      show (_ → _) ∧ _
      rw [hM'.1]
      refine zp_t (nI_le (Nat.le_refl _) (by omega)) ?_
      refine zp_forgetR (it := fun _ => false) (b := fun k => decide (zp_kd S k = 0 ∧ zp_fs S k = l)) hn hw hM' h3 (fun j hj => ⟨fun e => absurd e (zp_neg1 (by omega)), fun e => by cases e⟩) (fun j hj e => by cases e) (fun σ2 hf => q σ' σ2 h1 h2 hf)
    | succ m ih =>
      intro k hk σ' h1 h2 h3
      have hk' : k < n := by omega
      have hM' : zp_NR σ' n S := hM.ch h1 (by decide) (by rw [(h1 45 (by decide)).1])
      obtain ⟨a1, a2, a3, a4, a5⟩ := hM'.2 k hk'
      have hwk := hw k hk'
      show (_ → _) ∧ _
      rw [hM'.1]
      refine zp_f (nI_ge hk' (by omega)) ⟨vp_in_nI (by omega) (by decide), ?_⟩
      rw [nI_clamp (by omega), a1, a2]
      have wr : ∀ v : Bool, v = decide (zp_kd S k = 0 ∧ zp_fs S k = l) → B_X11_change_39 Q (L_X11_change_2 Q (m + 1)) (nI l) (nI k) (nI k) (zp_b2 v) σ' := by
        intro v hv
        refine ⟨vp_in_nI (by omega) (by decide), ?_⟩
        rw [nI_clamp (by omega), zp_b2_nar]
        rintro σ1 rfl
        rw [nI_1]
        refine ih (k + 1) (by omega) _ (h1.tr (zp_ch.wi (by decide))) h2 (fun j hj => ?_)
        by_cases e : j = k
        · subst e; rw [zp_rs, hv]
        · rw [zp_rj _ _ e]; exact h3 j (by omega)
      by_cases hk0 : zp_kd S k = 0
      · rw [hk0]
        refine zp_nf rfl ⟨vp_in_nI (by omega) (by decide), ?_⟩
        by_cases hf : zp_fs S k = l
        · rw [hf]
          exact zp_nf rfl (wr true (by simp [hk0, hf]))
        · exact zp_nt (fun e => hf (zp_ninj (by have := (hwk.2.2.2.1 hk0).1; omega) (by omega) e)) (wr false (by simp [hf]))
      · exact zp_nt (fun e => hk0 (zp_ninj (b := 0) (by have := hwk.1; omega) (by decide) e)) (wr false (by simp [hk0]))
  exact ⟨n + 1, key n 0 (by omega) σ zp_ch.rf rfl (fun j hj => absurd hj (Nat.not_lt_zero _))⟩
end TR
