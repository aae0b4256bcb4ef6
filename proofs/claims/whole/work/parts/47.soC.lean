/-! The component finds or makes what is asked for. -/
theorem zp_wf1.small {S : zp_S} {k : Nat} (h : zp_wf1 S k) (hk : k < 80) : zp_fs S k < 2 ^ 31 ∧ zp_sc S k < 2 ^ 31 := by
  have h7 := h.1
  have ho : zp_kd S k = 4 ∨ zp_kd S k = 5 ∨ zp_kd S k = 6 → zp_fs S k < k := fun e => (h.one e).2.2.2
  obtain ⟨w0, w1, w2, w3, w4, w5, w6, w7, w8, w9, w10⟩ := h
  rcases (show zp_kd S k = 0 ∨ zp_kd S k = 1 ∨ zp_kd S k = 2 ∨ zp_kd S k = 3 ∨ zp_kd S k = 4 ∨ zp_kd S k = 5 ∨ zp_kd S k = 6 ∨ zp_kd S k = 7 by omega) with e | e | e | e | e | e | e | e
  · have := w3 e; omega
  · have := w4 e; omega
  · have := w5 e; omega
  · have := w6 e; omega
  · have := w7 e; have := ho (by omega); omega
  · have := w8 e; have := ho (by omega); omega
  · have := w9 e; have := ho (by omega); omega
  · have := w10 e; omega
/-- the row in the component's cells -/
def zp_rC (σ : zv_St) (l : zp_Row) : Prop := l.length ≤ 8 ∧ σ.1 42 2 = nI l.length ∧ ∀ i, i < l.length → σ.1 43 i = nI (zp_g l i).1 ∧ σ.1 44 i = nI (zp_g l i).2
theorem zp_rC.ch {zs : List Nat} {σ σ' : zv_St} {l : zp_Row} (h : zp_rC σ l) (hc : zp_ch zs σ σ') (hd : ([42, 43, 44] : List Nat).all (fun c => !zs.contains c) = true) : zp_rC σ' l := by
  have e := hc.of hd
  unfold zp_rC
  rw [(e 42 (by decide)).1, (e 43 (by decide)).1, (e 44 (by decide)).1]
  exact h
/-- what making leaves behind -/
def zp_mC (σ : zv_St) (n : Nat) (σ' : zv_St) (n' : Nat) (S' : zp_S) : Prop := zp_ch [5, 6, 7, 8, 9, 10, 11, 12] σ σ' ∧ zp_NC σ' n' S' ∧ (∀ j, j < n → σ'.1 9 j = σ.1 9 j) ∧ ∀ j, n ≤ j → j < n' → σ'.1 9 j = 0
section SOC
variable {σ : zv_St} {n kd fs sc k : Nat} {S : zp_S} {l : zp_Row} {Q : Int32 → zv_St → Prop}
theorem zp_hasNumbers (hw : zp_wf n S) (hN : zp_NC σ n S) (hk : k < n) (ok : zp_newok n kd fs sc) (q : Q (zp_bi (decide (S 0 k = kd) && (decide (S 1 k = fs) && decide (S 2 k = sc)))) σ) : B_X5_hasNumbers Q (nI k) (nI kd) (nI fs) (nI sc) σ := by
  have hn := hw.1
  obtain ⟨b0, b1, b2⟩ := ok.small hn
  obtain ⟨a0, a1, a2, -, -⟩ := hN.2 k hk
  have w := hw.2 k hk
  obtain ⟨s1, s2⟩ := w.small (by omega)
  have h7 := w.1
  have hin : vp_in (nI k) 80 := vp_in_nI (by omega) (by decide)
  refine ⟨hin, ?_⟩
  rw [nI_clamp (by omega), a0]
  by_cases c0 : S 0 k = kd
  · rw [decide_eq_true c0] at q
    refine zp_nf (congrArg nI c0) ⟨hin, ?_⟩
    rw [a1]
    by_cases c1 : S 1 k = fs
    · rw [decide_eq_true c1] at q
      refine zp_nf (congrArg nI c1) ⟨hin, ?_⟩
      rw [a2]
      by_cases c2 : S 2 k = sc
      · rw [decide_eq_true c2] at q
        exact zp_nf (congrArg nI c2) ⟨rfl, q⟩
      · rw [decide_eq_false c2] at q
        exact zp_nt (fun z => c2 (zp_ninj s2 b2 z)) ⟨rfl, q⟩
    · rw [decide_eq_false c1] at q
      exact zp_nt (fun z => c1 (zp_ninj s1 b1 z)) ⟨rfl, q⟩
  · rw [decide_eq_false c0] at q
    exact zp_nt (fun z => c0 (zp_ninj (show zp_kd S k < 2 ^ 31 by omega) b0 z)) ⟨rfl, q⟩
theorem zp_thatIsSo (hw : zp_wf n S) (hN : zp_NC σ n S) (ok : zp_rok n (.inr (kd, fs, sc, []))) (hrk : zp_rk kd = false) (qs : ∀ r n' S', zp_do n S (.inr (kd, fs, sc, [])) = some (r, n', S') → ∀ σ', zp_mC σ n σ' n' S' → Q (nI r) σ') (qf : zp_do n S (.inr (kd, fs, sc, [])) = none → Q (-3) σ) : B_X7_thatIsSo Q (nI kd) (nI fs) (nI sc) σ := by
  have hn := hw.1
  have hdo : zp_do n S (.inr (kd, fs, sc, [])) = (match zp_fd (zp_isN S kd fs sc []) n with | some k => some (k, n, S) | none => if n < 80 then some (n, n + 1, zp_aps (zp_addN S n kd fs sc) n [] ([] : zp_Row).length) else none) := rfl
  have hp : ∀ k, zp_isN S kd fs sc [] k = (decide (S 0 k = kd) && (decide (S 1 k = fs) && decide (S 2 k = sc))) := fun k => by
    unfold zp_isN; rw [hrk]; simp
  refine zp_for (α := Unit) (L := fun u i _ => L_X7_thatIsSo_3 Q u (nI kd) (nI fs) (nI sc) (nI i) σ) n (fun i _ => ∀ j, j < i → zp_isN S kd fs sc [] j = false) (fun u _ h => ?_) (fun u i _ hi h ih => ?_) 0 () (fun j hj => by omega) (Nat.zero_le _)
  · unfold L_X7_thatIsSo_3 B_X5_count
    rw [hN.1]
    refine zp_t (nI_le (Nat.le_refl _) (by omega)) ?_
    rw [zp_fd_none h] at hdo
    have hdo : zp_do n S (.inr (kd, fs, sc, [])) = if n < 80 then some (n, n + 1, zp_addN S n kd fs sc) else none := hdo
    by_cases h80 : n < 80
    · rw [if_pos h80] at hdo
      refine zp_makeC h80 hw hN ok.1 (fun σ' c1 c2 c3 c4 => qs _ _ _ hdo σ' ⟨c1, c3, fun j hj => ?_, fun j h1 h2 => ?_⟩)
      · rw [c4, if_neg (by omega)]
      · rw [c4, if_pos (by omega)]
    · rw [if_neg h80] at hdo
      unfold B_X5_make
      rw [hN.1]
      exact zp_f (nI_nlt (b := 80) (by omega) (by omega)) (qf hdo)
  · unfold L_X7_thatIsSo_3 B_X5_count
    rw [hN.1]
    refine zp_f (nI_ge hi (by omega)) ?_
    refine zp_hasNumbers hw hN hi ok.1 ?_
    rw [← hp i, nI_1]
    cases c : zp_isN S kd fs sc [] i
    · refine zp_t rfl (ih () (fun j hj => ?_))
      by_cases e : j = i
      · subst e; exact c
      · exact h j (by omega)
    · rw [zp_fd_some c h hi] at hdo
      exact zp_f (by decide) (qs i n S hdo σ ⟨zp_ch.rf, hN, fun _ _ => rfl, fun j h1 h2 => by omega⟩)
theorem zp_hasParts (hw : zp_wf n S) (hN : zp_NC σ n S) (hk : k < n) (hr : zp_rC σ l) (hl : ∀ e ∈ l, e.2 < n ∧ e.1 ≤ 3) (q : Q (zp_bi (zp_pr S l k)) σ) : B_X7_hasPartsOfRow Q (nI k) σ := by
  have hn := hw.1
  have w := hw.2 k hk
  obtain ⟨-, -, -, a3, a4⟩ := hN.2 k hk
  obtain ⟨r0, r1, r2⟩ := hr
  have h8 := w.2.1
  unfold zp_pr at q
  refine zp_a_size (by omega) a3 ?_
  show (nI (zp_mn S k) = σ.1 42 2 → _) ∧ _
  rw [r1]
  by_cases c : S 3 k = l.length
  · rw [decide_eq_true c, Bool.true_and] at q
    refine zp_t (congrArg nI c) ?_
    refine zp_for (α := Unit) (L := fun u i _ => L_X7_hasPartsOfRow_22 Q u (nI k) (nI i) σ) l.length (fun i _ => (List.range i).all (fun i => decide (S 4 (k * 8 + i) = (zp_g l i).1) && decide (S 5 (k * 8 + i) = (zp_g l i).2)) = true) (fun u _ h => ?_) (fun u i _ hi h ih => ?_) 0 () rfl (Nat.zero_le _)
    · unfold L_X7_hasPartsOfRow_22 B_X6_size
      rw [r1]
      rw [h] at q
      exact zp_t (nI_le (Nat.le_refl _) (by omega)) q
    · unfold L_X7_hasPartsOfRow_22 B_X6_size
      rw [r1]
      refine zp_f (nI_ge hi (by omega)) ?_
      have him : i < zp_mn S k := by show i < S 3 k; omega
      obtain ⟨v1, v2⟩ := w.2.2.1 i him
      obtain ⟨e1, e2⟩ := hl _ (zp_g_mem hi)
      have hini : vp_in (nI i) 8 := vp_in_nI (by omega) (by decide)
      refine zp_a_roleAt (by omega) (by omega) (a4 i him).1 ⟨hini, ?_⟩
      rw [nI_clamp (by omega), (r2 i hi).1]
      have fail : (decide (S 4 (k * 8 + i) = (zp_g l i).1) && decide (S 5 (k * 8 + i) = (zp_g l i).2)) = false → Q 0 σ := by
        intro z
        have : (List.range l.length).all (fun i => decide (S 4 (k * 8 + i) = (zp_g l i).1) && decide (S 5 (k * 8 + i) = (zp_g l i).2)) = false := by
          cases y : (List.range l.length).all (fun i => decide (S 4 (k * 8 + i) = (zp_g l i).1) && decide (S 5 (k * 8 + i) = (zp_g l i).2))
          · rfl
          · have := List.all_eq_true.mp y i (List.mem_range.mpr hi)
            rw [z] at this; cases this
        rw [this] at q
        exact q
      by_cases c1 : zp_ro S k i = (zp_g l i).1
      · refine zp_nf (by rw [c1]) ?_
        refine zp_a_partAt (by omega) (by omega) (a4 i him).2 ⟨hini, ?_⟩
        rw [nI_clamp (by omega), (r2 i hi).2, nI_1]
        by_cases c2 : zp_pt S k i = (zp_g l i).2
        · refine zp_t (by rw [c2]) (ih () ?_)
          rw [zp_all_succ, h, decide_eq_true (show S 4 (k * 8 + i) = _ from c1), decide_eq_true (show S 5 (k * 8 + i) = _ from c2)]; rfl
        · exact zp_f (fun z => c2 (zp_ninj (by omega) (by omega) z)) (fail (by rw [decide_eq_false (show ¬ S 5 (k * 8 + i) = _ from c2), Bool.and_false]))
      · exact zp_nt (fun z => c1 (zp_ninj (by omega) (by omega) z)) (fail (by rw [decide_eq_false (show ¬ S 4 (k * 8 + i) = _ from c1)]; rfl))
  · rw [decide_eq_false c] at q
    exact zp_f (fun z => c (zp_ninj (show zp_mn S k < 2 ^ 31 by omega) (by omega) z)) q
theorem zp_thatIsSoWithRow (hw : zp_wf n S) (hN : zp_NC σ n S) (ok : zp_rok n (.inr (kd, fs, 0, l))) (hrk : zp_rk kd = true) (hr : zp_rC σ l) (qs : ∀ r n' S', zp_do n S (.inr (kd, fs, 0, l)) = some (r, n', S') → ∀ σ', zp_mC σ n σ' n' S' → Q (nI r) σ') (qf : zp_do n S (.inr (kd, fs, 0, l)) = none → Q (-3) σ) : B_X7_thatIsSoWithRow Q (nI kd) (nI fs) σ := by
  have hn := hw.1
  have hok := ok
  obtain ⟨ok1, ok2, ok3, ok4⟩ := ok
  have hl : ∀ e ∈ l, e.2 < n ∧ e.1 ≤ 3 := fun e he => ⟨(ok4 e he).1, (ok4 e he).2.1⟩
  have hdo : zp_do n S (.inr (kd, fs, 0, l)) = (match zp_fd (zp_isN S kd fs 0 l) n with | some k => some (k, n, S) | none => if n < 80 then some (n, n + 1, zp_aps (zp_addN S n kd fs 0) n l l.length) else none) := rfl
  have hp : ∀ k, zp_isN S kd fs 0 l k = ((decide (S 0 k = kd) && (decide (S 1 k = fs) && decide (S 2 k = 0))) && zp_pr S l k) := fun k => by
    unfold zp_isN; rw [hrk]
    cases decide (S 0 k = kd) <;> cases decide (S 1 k = fs) <;> cases decide (S 2 k = 0) <;> rfl
  refine zp_for (α := Unit) (L := fun u i _ => L_X7_thatIsSoWithRow_2 Q u (nI kd) (nI fs) (nI i) σ) n (fun i _ => ∀ j, j < i → zp_isN S kd fs 0 l j = false) (fun u _ h => ?_) (fun u i _ hi h ih => ?_) 0 () (fun j hj => by omega) (Nat.zero_le _)
  · unfold L_X7_thatIsSoWithRow_2 B_X5_count
    rw [hN.1]
    refine zp_t (nI_le (Nat.le_refl _) (by omega)) ?_
    rw [zp_fd_none h] at hdo
    have hdo : zp_do n S (.inr (kd, fs, 0, l)) = if n < 80 then some (n, n + 1, zp_aps (zp_addN S n kd fs 0) n l l.length) else none := hdo
    by_cases h80 : n < 80
    · rw [if_pos h80] at hdo
      refine zp_makeC (sc := 0) h80 hw hN ok1 (fun σ1 c1 c2 c3 c4 => ?_)
      have haps := zp_aps_ok h80 hw hok
      refine zp_for (L := fun u i σ' => L_X7_thatIsSoWithRow_57 Q u (nI n) (nI i) σ') l.length (fun i σ' => zp_ch [10, 11, 12] σ1 σ' ∧ zp_NC σ' (n + 1) (zp_aps (zp_addN S n kd fs 0) n l i)) (fun u2 σ2 g => ?_) (fun u2 i σ2 hi g ih2 => ?_) 0 σ1 ⟨zp_ch.rf, c3⟩ (Nat.zero_le _)
      · have e42 : σ2.1 42 2 = nI l.length := by rw [(g.1 42 (by decide)).1, (c1 42 (by decide)).1]; exact hr.2.1
        refine zp_f (zp_nneg (by omega)) ?_
        show (σ2.1 42 2 ≤ nI l.length → _) ∧ _
        rw [e42]
        refine zp_t (nI_le (Nat.le_refl _) (by omega)) (qs _ _ _ hdo σ2 ⟨c1.tr (g.1.mono (by decide)), g.2, fun j hj => ?_, fun j h1 h2 => ?_⟩)
        · rw [(g.1 9 (by decide)).1, c4, if_neg (by omega)]
        · rw [(g.1 9 (by decide)).1, c4, if_pos (by omega)]
      · have e42 : σ2.1 42 2 = nI l.length := by rw [(g.1 42 (by decide)).1, (c1 42 (by decide)).1]; exact hr.2.1
        have e43 : σ2.1 43 = σ.1 43 := by rw [(g.1 43 (by decide)).1, (c1 43 (by decide)).1]
        have e44 : σ2.1 44 = σ.1 44 := by rw [(g.1 44 (by decide)).1, (c1 44 (by decide)).1]
        obtain ⟨q1, q2, q3, q4⟩ := haps i (by omega)
        have q2 := q2 hrk
        have hini : vp_in (nI i) 8 := vp_in_nI (by omega) (by decide)
        have hin : vp_in (nI n) 80 := vp_in_nI (by omega) (by decide)
        refine zp_f (zp_nneg (by omega)) ?_
        show (σ2.1 42 2 ≤ nI i → _) ∧ _
        rw [e42]
        refine zp_f (nI_ge hi (by omega)) ⟨hini, hini, ?_⟩
        rw [nI_clamp (n := i) (by omega), e43, e44, (hr.2.2 i hi).1, (hr.2.2 i hi).2]
        have m10 : σ2.1 10 n = nI i := by
          have := (g.2.2 n (by omega)).2.2.2.1
          rw [this]; exact congrArg nI q2
        refine ⟨hin, ?_⟩
        rw [nI_clamp (n := n) (by omega), m10]
        refine zp_t (nI_lt (b := 8) (by omega) (by decide)) ⟨hin, ?_⟩
        rw [zp_m8, nI_add]
        rintro v rfl
        refine ⟨vp_in_nI (by omega) (by decide), ?_⟩
        rw [nI_clamp (n := n * 8 + i) (by omega)]
        rintro τ1 rfl
        refine ⟨vp_in_nI (by omega) (by decide), ?_⟩
        rintro τ2 rfl
        refine ⟨hin, hin, ?_⟩
        rw [zp_rn _ _ _ _ (by decide), zp_rn _ _ _ _ (by decide), m10, nI_1]
        rintro τ3 rfl
        have key := zp_NC_addP (k := n) (r := (zp_g l i).1) (p := (zp_g l i).2) (by omega) q1 (by omega) g.2
        rw [q2] at key
        exact ih2 _ ⟨g.1.tr ((zp_ch.wi (by decide)).tr ((zp_ch.wi (by decide)).tr (zp_ch.wi (by decide)))), key⟩
    · rw [if_neg h80] at hdo
      unfold B_X5_make
      rw [hN.1]
      refine zp_f (nI_nlt (b := 80) (by omega) (by omega)) ⟨1, zp_t (by decide) (qf hdo)⟩
  · unfold L_X7_thatIsSoWithRow_2 B_X5_count
    rw [hN.1]
    refine zp_f (nI_ge hi (by omega)) ?_
    have go : zp_isN S kd fs 0 l i = false → B_X7_thatIsSoWithRow_37 Q (L_X7_thatIsSoWithRow_2 Q u) (nI kd) (nI fs) (nI i) σ := by
      intro c
      unfold B_X7_thatIsSoWithRow_37
      rw [nI_1]
      refine ih () (fun j hj => ?_)
      by_cases e : j = i
      · subst e; exact c
      · exact h j (by omega)
    refine zp_hasNumbers (sc := 0) hw hN hi ok1 ?_
    have hpi := hp i
    cases c : (decide (S 0 i = kd) && (decide (S 1 i = fs) && decide (S 2 i = 0)))
    · rw [c] at hpi
      exact zp_t rfl (go hpi)
    · rw [c, Bool.true_and] at hpi
      refine zp_f (by decide) (zp_hasParts hw hN hi hr hl ?_)
      cases c2 : zp_pr S l i
      · rw [c2] at hpi
        exact zp_t rfl (go hpi)
      · rw [c2] at hpi
        rw [zp_fd_some hpi h hi] at hdo
        exact zp_f (by decide) (qs i n S hdo σ ⟨zp_ch.rf, hN, fun _ _ => rfl, fun j h1 h2 => by omega⟩)
end SOC
