/-! The reference: what a NODE becomes. -/
section THINR
variable {σ : zv_St} {l : zp_Row} {Q : Int32 → zv_St → Prop} {kk12 : Int32 → Int32 → Int32 → Int32 → zv_St → Prop} {kk24 : Int32 → Int32 → Int32 → Int32 → Int32 → Int32 → zv_St → Prop} {x1 x3 : Int32} {i q ri rq : Nat} {ok same : Bool}
theorem zp_thin164 {lv : Bool} (hi : i < 80) (hq : q < 80) (ei : σ.1 73 i = nI ri) (eq : σ.1 73 q = nI rq) (hri : ri ≤ 3) (hrq : rq ≤ 3) (k : kk24 x1 (zp_bi (ok && !(same && (decide (ri = 2) && decide (rq < 2))))) x3 (nI i) (zp_bi lv) (nI q + 1) σ) : B_X11_thin_164 Q kk12 kk24 x1 (zp_bi ok) x3 (nI i) (nI q) (zp_bi same) (zp_bi lv) σ := by
  unfold B_X11_thin_164 B_X11_thin_201 B_X11_thin_197 B_X11_thin_202
  rw [nI_clamp (n := i) (by omega), nI_clamp (n := q) (by omega), ei, eq]
  cases ok
  · exact zp_t rfl k
  · cases same
    · exact zp_f (by decide) (zp_t rfl k)
    · refine zp_f (by decide) (zp_f (by decide) ⟨vp_in_nI hi (by decide), ?_⟩)
      by_cases c2 : ri = 2
      · refine zp_nf (by rw [c2]; rfl) ⟨vp_in_nI hq (by decide), ?_⟩
        by_cases c3 : rq < 2
        · rw [decide_eq_true c2, decide_eq_true c3] at k
          exact zp_t (nI_lt (b := 2) c3 (by decide)) k
        · rw [decide_eq_true c2, decide_eq_false c3] at k
          exact zp_f (nI_nlt (b := 2) (by omega) (by omega)) k
      · rw [decide_eq_false c2] at k
        exact zp_nt (fun z => c2 (zp_ninj (by omega) (by decide) z)) k
theorem zp_thin120 {lv bf : Bool} (hi : i < 80) (hq : q < 80) (ei : σ.1 73 i = nI ri) (eq : σ.1 73 q = nI rq) (hri : ri ≤ 3) (hrq : rq ≤ 3) (k : B_X11_thin_164 Q kk12 kk24 x1 (zp_bi ok) x3 (nI i) (nI q) (zp_bi same) (zp_bi (lv || (same && (decide (ri = 2) && (decide (rq = 2) && bf))))) σ) : B_X11_thin_120 Q kk12 kk24 x1 (zp_bi ok) x3 (nI i) (nI q) (zp_bi same) (zp_bi bf) (zp_bi lv) σ := by
  unfold B_X11_thin_120 B_X11_thin_159 B_X11_thin_163
  rw [nI_clamp (n := i) (by omega), nI_clamp (n := q) (by omega), ei, eq]
  cases lv
  · refine zp_nf rfl ?_
    cases same
    · exact zp_t rfl k
    · refine zp_f (by decide) ⟨vp_in_nI hi (by decide), ?_⟩
      by_cases c2 : ri = 2
      · refine zp_nf (by rw [c2]; rfl) ⟨vp_in_nI hq (by decide), ?_⟩
        by_cases c3 : rq = 2
        · refine zp_nf (by rw [c3]; rfl) ?_
          rw [decide_eq_true c2, decide_eq_true c3] at k
          cases bf
          · exact zp_t rfl k
          · exact zp_f (by decide) k
        · rw [decide_eq_true c2, decide_eq_false c3] at k
          exact zp_nt (fun z => c3 (zp_ninj (by omega) (by decide) z)) k
      · rw [decide_eq_false c2] at k
        exact zp_nt (fun z => c2 (zp_ninj (by omega) (by decide) z)) k
  · exact zp_nt (by decide) k
theorem zp_thin66 {lv bf : Bool} (hi : i < 80) (hq : q < 80) (ei : σ.1 73 i = nI ri) (eq : σ.1 73 q = nI rq) (hri : ri ≤ 3) (hrq : rq ≤ 3) (k : B_X11_thin_120 Q kk12 kk24 x1 (zp_bi ok) x3 (nI i) (nI q) (zp_bi same) (zp_bi bf) (zp_bi (lv || (same && (decide (ri = 1) && (decide (rq = 0) || (decide (rq = 1) && bf)))))) σ) : B_X11_thin_66 Q kk12 kk24 x1 (zp_bi ok) x3 (nI i) (zp_bi lv) (nI q) (zp_bi same) (zp_bi bf) σ := by
  unfold B_X11_thin_66 B_X11_thin_115 B_X11_thin_119
  rw [nI_clamp (n := i) (by omega), nI_clamp (n := q) (by omega), ei, eq]
  cases lv
  · refine zp_nf rfl ?_
    cases same
    · exact zp_t rfl k
    · refine zp_f (by decide) ⟨vp_in_nI hi (by decide), ?_⟩
      by_cases c1 : ri = 1
      · refine zp_nf (by rw [c1]; rfl) ⟨vp_in_nI hq (by decide), ?_⟩
        by_cases c0 : rq = 0
        · rw [decide_eq_true c1, decide_eq_true c0] at k
          exact zp_t (by rw [c0]; rfl) k
        · refine zp_f (fun z => c0 (zp_ninj (by omega) (by decide) z)) ⟨vp_in_nI hq (by decide), ?_⟩
          by_cases c3 : rq = 1
          · refine zp_nf (by rw [c3]; rfl) ?_
            rw [decide_eq_true c1, decide_eq_false c0, decide_eq_true c3] at k
            cases bf
            · exact zp_t rfl k
            · exact zp_f (by decide) k
          · rw [decide_eq_true c1, decide_eq_false c0, decide_eq_false c3] at k
            exact zp_nt (fun z => c3 (zp_ninj (by omega) (by decide) z)) k
      · rw [decide_eq_false c1] at k
        exact zp_nt (fun z => c1 (zp_ninj (by omega) (by decide) z)) k
  · exact zp_nt (by decide) k
/-- how the marks of leaving out grow -/
def zp_lv (l : zp_Row) (i m : Nat) : Bool := (List.range m).any (fun q => decide ((zp_g l q).2 = (zp_g l i).2) && ((decide ((zp_g l i).1 = 1) && (decide ((zp_g l q).1 = 0) || (decide ((zp_g l q).1 = 1) && decide (q < i)))) || (decide ((zp_g l i).1 = 2) && (decide ((zp_g l q).1 = 2) && decide (q < i)))))
theorem zp_lv_gone : zp_lv l i l.length = zp_gone l i := by
  unfold zp_lv zp_gone
  by_cases c1 : (zp_g l i).1 = 1
  · have c2 : ¬ (zp_g l i).1 = 2 := by omega
    rw [decide_eq_true c1, decide_eq_false c2]
    simp only [Bool.true_and, Bool.false_and, Bool.or_false]
  · by_cases c2 : (zp_g l i).1 = 2
    · rw [decide_eq_false c1, decide_eq_true c2]
      simp only [Bool.true_and, Bool.false_and, Bool.false_or]
    · rw [decide_eq_false c1, decide_eq_false c2]
      simp
def zp_bw (l : zp_Row) (i m : Nat) : Bool := decide ((zp_g l i).1 = 2) && (List.range m).any (fun q => decide ((zp_g l q).2 = (zp_g l i).2) && decide ((zp_g l q).1 < 2))
theorem zp_thinR (hr : zp_rR σ l) (hT : ∀ e ∈ l, e.2 < 80 ∧ e.1 ≤ 3) (qq : ∀ σ', zp_cr σ σ' → zp_rR σ' (zp_thin l l.length) → Q (zp_bi (!(zp_bad l))) σ') : B_X11_thin Q σ := by
  obtain ⟨r0, r1, r2⟩ := hr
  have hbad : zp_bad l = (List.range l.length).any (fun i => zp_bw l i l.length) := rfl
  unfold B_X11_thin
  rw [r1]
  refine zp_for (L := fun u i (a : Bool × zv_St) => L_X11_thin_12 Q u 0 (zp_bi a.1) (nI l.length) (nI i) a.2) l.length (fun i a => a.1 = !((List.range i).any (fun i => zp_bw l i l.length)) ∧ zp_ch [75] σ a.2 ∧ ∀ j, j < i → a.2.1 75 j = zp_bi (zp_gone l j)) ?_ ?_ 0 (true, σ) ⟨rfl, zp_ch.rf, fun j hj => by omega⟩ (Nat.zero_le _)
  · rintro u ⟨b, σ1⟩ ⟨h1, h2, h3⟩
    simp only at h1 h2 h3
    rw [← hbad] at h1
    subst h1
    show L_X11_thin_12 Q (u + 1) 0 (zp_bi (!(zp_bad l))) (nI l.length) (nI l.length) σ1
    refine zp_t (nI_le (Nat.le_refl _) (by omega)) ?_
    refine zp_for (L := fun u i (a : Int32 × zv_St) => L_X11_thin_227 Q u a.1 (zp_bi (!(zp_bad l))) (nI l.length) (nI i) a.2) l.length (fun i a => a.1 = nI (zp_thin l i).length ∧ zp_ch [73, 74] σ1 a.2 ∧ (∀ j, j < (zp_thin l i).length → a.2.1 73 j = nI (zp_g (zp_thin l i) j).1 ∧ a.2.1 74 j = nI (zp_g (zp_thin l i) j).2) ∧ ∀ j, i ≤ j → j < l.length → a.2.1 73 j = nI (zp_g l j).1 ∧ a.2.1 74 j = nI (zp_g l j).2) ?_ ?_ 0 (0, σ1) ⟨rfl, zp_ch.rf, fun j hj => absurd hj (Nat.not_lt_zero _), fun j _ hj => by rw [(h2 73 (by decide)).1, (h2 74 (by decide)).1]; exact r2 j hj⟩ (Nat.zero_le _)
    · rintro v ⟨x, σ2⟩ ⟨g1, g2, g3, g4⟩
      simp only at g1 g2 g3 g4
      subst g1
      have hlen := (zp_thin_ok (l := l) _ (Nat.le_refl _)).1
      show L_X11_thin_227 Q (v + 1) (nI (zp_thin l l.length).length) (zp_bi (!(zp_bad l))) (nI l.length) (nI l.length) σ2
      refine zp_t (nI_le (Nat.le_refl _) (by omega)) ?_
      rintro τ rfl
      refine ⟨zp_bin _, qq _ ?_ ⟨by omega, zp_rs _ _ _ _, fun i hi => ?_⟩⟩
      · refine ⟨(h2.mono (by decide)).tr ((g2.mono (by decide)).tr (zp_ch.wi (by decide))), fun f hf => ?_, ?_⟩
        · rw [zp_rj _ _ hf, (g2 45 (by decide)).1, (h2 45 (by decide)).1]
        · rw [zp_ri2, (g2 45 (by decide)).2, (h2 45 (by decide)).2]
      · rw [zp_rn _ _ _ _ (by decide), zp_rn _ _ _ _ (by decide)]
        exact g3 i hi
    · rintro v i ⟨x, σ2⟩ hi ⟨g1, g2, g3, g4⟩ ih
      simp only at g1 g2 g3 g4
      subst g1
      have hlen := (zp_thin_ok (l := l) i (by omega)).1
      have hini : vp_in (nI i) 80 := vp_in_nI (by omega) (by decide)
      have hinx : vp_in (nI (zp_thin l i).length) 80 := vp_in_nI (by omega) (by decide)
      have ht : zp_thin l (i + 1) = if zp_gone l i = true then zp_thin l i else zp_thin l i ++ [zp_g l i] := rfl
      show L_X11_thin_227 Q (v + 1) (nI (zp_thin l i).length) (zp_bi (!(zp_bad l))) (nI l.length) (nI i) σ2
      unfold L_X11_thin_227 B_X11_thin_272
      rw [nI_1, nI_1, nI_clamp (n := i) (by omega), nI_clamp (n := (zp_thin l i).length) (by omega), (g2 75 (by decide)).1, h3 i hi]
      refine zp_f (nI_ge hi (by omega)) ⟨hini, ?_⟩
      cases c : zp_gone l i
      · rw [if_neg (by rw [c]; decide)] at ht
        refine zp_nf rfl ⟨hini, hinx, ?_⟩
        rw [(g4 i (Nat.le_refl _) hi).1]
        rintro τ1 rfl
        refine ⟨hini, hinx, ?_⟩
        rw [zp_rn _ _ _ _ (by decide), (g4 i (Nat.le_refl _) hi).2]
        rintro τ2 rfl
        refine ih (nI ((zp_thin l i).length + 1), _) ⟨by rw [ht, zp_len1], g2.tr ((zp_ch.wi (by decide)).tr (zp_ch.wi (by decide))), fun j hj => ?_, fun j y1 y2 => ?_⟩
        · rw [ht, zp_len1] at hj
          show (zv_wi (zv_wi σ2 73 _ _) 74 _ _).1 73 j = _ ∧ (zv_wi (zv_wi σ2 73 _ _) 74 _ _).1 74 j = _
          rw [ht, zp_rn _ _ _ _ (by decide)]
          by_cases cj : j = (zp_thin l i).length
          · subst cj
            rw [zp_rs, zp_rs, zp_g_e]
            exact ⟨rfl, rfl⟩
          · rw [zp_rj _ _ cj, zp_rj _ _ cj, zp_rn _ _ _ _ (by decide), zp_g_l (by omega)]
            exact g3 j (by omega)
        · show (zv_wi (zv_wi σ2 73 _ _) 74 _ _).1 73 j = _ ∧ (zv_wi (zv_wi σ2 73 _ _) 74 _ _).1 74 j = _
          rw [zp_rn _ _ _ _ (by decide), zp_rj _ _ (by omega), zp_rj _ _ (by omega), zp_rn _ _ _ _ (by decide)]
          exact g4 j (by omega) y2
      · rw [if_pos c] at ht
        refine zp_nt (by decide) (ih (nI (zp_thin l i).length, σ2) ⟨by rw [ht], g2, ?_, fun j y1 y2 => g4 j (by omega) y2⟩)
        rw [ht]; exact g3
  · rintro u i ⟨b, σ1⟩ hi ⟨h1, h2, h3⟩ ih
    simp only at h1 h2 h3
    subst h1
    have e73 : ∀ j, j < l.length → σ1.1 73 j = nI (zp_g l j).1 := fun j hj => by rw [(h2 73 (by decide)).1]; exact (r2 j hj).1
    have e74 : ∀ j, j < l.length → σ1.1 74 j = nI (zp_g l j).2 := fun j hj => by rw [(h2 74 (by decide)).1]; exact (r2 j hj).2
    obtain ⟨t1, t2⟩ := hT _ (zp_g_mem hi)
    show L_X11_thin_12 Q (u + 1) 0 (zp_bi (!((List.range i).any (fun i => zp_bw l i l.length)))) (nI l.length) (nI i) σ1
    refine zp_f (nI_ge hi (by omega)) ?_
    refine zp_for (L := fun v q (a : Bool × Bool) => L_X11_thin_24 Q (L_X11_thin_12 Q u) v 0 (zp_bi a.1) (nI l.length) (nI i) (zp_bi a.2) (nI q) σ1) l.length (fun q a => a.1 = (!((List.range i).any (fun i => zp_bw l i l.length)) && !(zp_bw l i q)) ∧ a.2 = zp_lv l i q) ?_ ?_ 0 (!((List.range i).any (fun i => zp_bw l i l.length)), false) ⟨?_, rfl⟩ (Nat.zero_le _)
    · rintro v ⟨b1, b2⟩ ⟨g1, g2⟩
      simp only at g1 g2
      subst g1; subst g2
      show L_X11_thin_24 Q (L_X11_thin_12 Q u) (v + 1) 0 (zp_bi (!((List.range i).any (fun i => zp_bw l i l.length)) && !(zp_bw l i l.length))) (nI l.length) (nI i) (zp_bi (zp_lv l i l.length)) (nI l.length) σ1
      unfold L_X11_thin_24
      refine zp_t (nI_le (Nat.le_refl _) (by omega)) ⟨vp_in_nI (by omega) (by decide), ?_⟩
      rw [zp_narb, zp_lv_gone, nI_1, nI_clamp (n := i) (by omega)]
      rintro τ rfl
      refine ih ((!((List.range i).any (fun i => zp_bw l i l.length)) && !(zp_bw l i l.length)), zv_wi σ1 75 i (zp_bi (zp_gone l i))) ⟨?_, h2.tr (zp_ch.wi (by decide)), fun j hj => ?_⟩
      · show (!((List.range i).any (fun i => zp_bw l i l.length)) && !(zp_bw l i l.length)) = !((List.range (i + 1)).any (fun i => zp_bw l i l.length))
        rw [zp_any_succ, Bool.not_or]
      · show (zv_wi σ1 75 i (zp_bi (zp_gone l i))).1 75 j = _
        by_cases cj : j = i
        · subst cj; rw [zp_rs]
        · rw [zp_rj _ _ cj]; exact h3 j (by omega)
    · rintro v q ⟨b1, b2⟩ hq ⟨g1, g2⟩ ih2
      simp only at g1 g2
      obtain ⟨u1, u2⟩ := hT _ (zp_g_mem hq)
      show L_X11_thin_24 Q (L_X11_thin_12 Q u) (v + 1) 0 (zp_bi b1) (nI l.length) (nI i) (zp_bi b2) (nI q) σ1
      unfold L_X11_thin_24
      rw [nI_clamp (n := i) (by omega), nI_clamp (n := q) (by omega), e74 i hi, e74 q hq]
      refine zp_f (nI_ge hq (by omega)) ⟨vp_in_nI (by omega) (by decide), vp_in_nI (by omega) (by decide), ?_⟩
      have step : ∀ same : Bool, same = decide ((zp_g l q).2 = (zp_g l i).2) → B_X11_thin_52 Q (L_X11_thin_12 Q u) (L_X11_thin_24 Q (L_X11_thin_12 Q u) v) 0 (zp_bi b1) (nI l.length) (nI i) (zp_bi b2) (nI q) (zp_bi same) σ1 := by
        intro same hs
        have go : ∀ bf : Bool, bf = decide (q < i) → B_X11_thin_66 Q (L_X11_thin_12 Q u) (L_X11_thin_24 Q (L_X11_thin_12 Q u) v) 0 (zp_bi b1) (nI l.length) (nI i) (zp_bi b2) (nI q) (zp_bi same) (zp_bi bf) σ1 := by
          intro bf hb
          refine zp_thin66 (by omega) (by omega) (e73 i hi) (e73 q hq) t2 u2 (zp_thin120 (by omega) (by omega) (e73 i hi) (e73 q hq) t2 u2 (zp_thin164 (by omega) (by omega) (e73 i hi) (e73 q hq) t2 u2 ?_))
          rw [nI_1]
          refine ih2 (_, _) ⟨?_, ?_⟩
          · show (b1 && _) = (!((List.range i).any (fun i => zp_bw l i l.length)) && !(zp_bw l i (q + 1)))
            unfold zp_bw at g1 ⊢
            rw [g1, zp_any_succ, hs]
            cases (List.range i).any (fun i => decide ((zp_g l i).1 = 2) && (List.range l.length).any (fun q => decide ((zp_g l q).2 = (zp_g l i).2) && decide ((zp_g l q).1 < 2))) <;> cases decide ((zp_g l i).1 = 2) <;> cases (List.range q).any (fun q => decide ((zp_g l q).2 = (zp_g l i).2) && decide ((zp_g l q).1 < 2)) <;> cases decide ((zp_g l q).2 = (zp_g l i).2) <;> cases decide ((zp_g l q).1 < 2) <;> rfl
          · show ((b2 || _) || _) = zp_lv l i (q + 1)
            unfold zp_lv at g2 ⊢
            rw [g2, zp_any_succ, hs, hb]
            cases (List.range q).any (fun q => decide ((zp_g l q).2 = (zp_g l i).2) && ((decide ((zp_g l i).1 = 1) && (decide ((zp_g l q).1 = 0) || (decide ((zp_g l q).1 = 1) && decide (q < i)))) || (decide ((zp_g l i).1 = 2) && (decide ((zp_g l q).1 = 2) && decide (q < i))))) <;> cases decide ((zp_g l q).2 = (zp_g l i).2) <;> cases (decide ((zp_g l i).1 = 1) && (decide ((zp_g l q).1 = 0) || (decide ((zp_g l q).1 = 1) && decide (q < i)))) <;> cases (decide ((zp_g l i).1 = 2) && (decide ((zp_g l q).1 = 2) && decide (q < i))) <;> rfl
        by_cases c : q < i
        · exact zp_f (nI_ge c (by omega)) (go true (decide_eq_true c).symm)
        · exact zp_t (nI_le (by omega) (by omega)) (go false (decide_eq_false c).symm)
      by_cases cs : (zp_g l q).2 = (zp_g l i).2
      · exact zp_nf (by rw [cs]) (step true (decide_eq_true cs).symm)
      · exact zp_nt (fun z => cs (zp_ninj (by omega) (by omega) z)) (step false (decide_eq_false cs).symm)
    · show (!((List.range i).any (fun i => zp_bw l i l.length))) = (!((List.range i).any (fun i => zp_bw l i l.length)) && !(decide ((zp_g l i).1 = 2) && false))
      rw [Bool.and_false, Bool.not_false, Bool.and_true]
end THINR
section NEWR
variable {σ0 σ : zv_St} {n k : Nat} {S : zp_S} {l : zp_Row} {Q : Int32 → zv_St → Prop}
theorem zp_bool309 {least : Nat} (hc : zp_cr σ0 σ) (hw : zp_wf n S) (hN : zp_NR σ0 n S) (hr : zp_rR σ l) (hl : ∀ e ∈ l, e.2 < n ∧ e.1 ≤ 3) (h8 : least ≤ 8) (a : zp_aR σ0 n S (zp_rqb2 least l) Q) : B_X11_newBool_309 Q (nI least) σ := by
  have hn := hw.1
  have hT : ∀ e ∈ l, e.2 < 80 ∧ e.1 ≤ 3 := fun e he => ⟨by have := (hl e he).1; omega, (hl e he).2⟩
  have hok := zp_rqb2_ok (n := n) hr.1 hl h8
  unfold zp_rqb2 at a hok
  refine zp_thinR hr hT (fun σ1 c1 hr1 => ?_)
  have hc1 := hc.tr c1
  cases c : zp_bad l
  · rw [c, if_neg (by decide)] at a hok
    unfold zp_rqb3 at a hok
    have hr1' := hr1
    obtain ⟨g0, g1, g2⟩ := hr1
    have ht : ∀ e ∈ zp_thin l l.length, e.2 < n ∧ e.1 ≤ 3 := fun e h => by
      obtain ⟨q, h1, h2, -⟩ := ((zp_thin_ok (l := l) _ (Nat.le_refl _)).2 e).mp h
      rw [← h2]
      exact hl _ (zp_g_mem h1)
    have so : ¬ ((zp_thin l l.length).length = 1 ∧ (zp_g (zp_thin l l.length) 0).1 = 0) → B_X11_newBool_351 Q (nI least) σ1 := by
      intro z
      rw [if_neg z] at a hok
      exact zp_soR (kd := 2) (sc := 0) hc1 hw hN hok (fun _ => hr1') a
    refine zp_nt (by decide) ?_
    rw [g1]
    by_cases d1 : (zp_thin l l.length).length = 1
    · obtain ⟨e1, e2⟩ := ht _ (zp_g_mem (show 0 < (zp_thin l l.length).length by omega))
      refine zp_nf (by rw [d1]; rfl) ⟨vp_in_nI (n := 0) (by decide) (by decide), ?_⟩
      show (¬ σ1.1 73 0 = 0 → _) ∧ (σ1.1 73 0 = 0 → _)
      rw [(g2 0 (by omega)).1]
      by_cases d2 : (zp_g (zp_thin l l.length) 0).1 = 0
      · rw [if_pos ⟨d1, d2⟩] at a
        refine zp_nf (by rw [d2]; rfl) ⟨vp_in_nI (n := 0) (by decide) (by decide), ?_⟩
        show Q (σ1.1 74 0) σ1
        rw [(g2 0 (by omega)).2]
        exact zp_aR.inl hc1 hN a
      · exact zp_nt (fun z => d2 (zp_ninj (by omega) (by decide) z)) (so (fun z => d2 z.2))
    · exact zp_nt (fun z => d1 (zp_ninj (by omega) (by decide) z)) (so (fun z => d1 z.1))
  · rw [c, if_pos rfl] at a
    exact zp_nf rfl (zp_aR.noth hc1 hw hN a)
theorem zp_bool250 {least : Nat} (hc : zp_cr σ0 σ) (hw : zp_wf n S) (hN : zp_NR σ0 n S) (hr : zp_rR σ l) (hl : ∀ e ∈ l, e.2 < n ∧ e.1 ≤ 3) (h8 : least ≤ 8) (a : zp_aR σ0 n S (zp_rqb1 (zp_c l 3) least l) Q) : B_X11_newBool_250 Q (nI (zp_c l 3)) (nI least) σ := by
  have hl8 := hr.1
  have b3 : zp_c l 3 ≤ l.length := zp_cn_le (l := l) (r := 3) l.length
  unfold zp_rqb1 at a
  by_cases c : 0 < least
  · refine zp_f (nI_nle c (by omega)) ?_
    by_cases d : least = zp_c l 3
    · rw [if_pos ⟨c, d⟩] at a
      refine zp_nf (by rw [d]) ?_
      obtain ⟨r0, r1, r2⟩ := hr
      refine zp_for (L := fun u i σ' => L_X11_newBool_265 Q u 0 (nI i) σ') l.length (fun i σ' => zp_ch [73] σ σ' ∧ ∀ j, j < l.length → σ'.1 73 j = nI (if j < i then (zp_s2 (zp_g l j)).1 else (zp_g l j).1)) (fun u σ' h => ?_) (fun u i σ' hi h ih => ?_) 0 σ ⟨zp_ch.rf, fun j hj => by rw [if_neg (by omega)]; exact (r2 j hj).1⟩ (Nat.zero_le _)
      · unfold L_X11_newBool_265
        rw [(h.1 45 (by decide)).1, r1]
        refine zp_t (nI_le (Nat.le_refl _) (by omega)) ?_
        refine zp_bool309 (least := 0) (l := l.map zp_s2) (hc.tr ⟨h.1.mono (by decide), fun f _ => by rw [(h.1 45 (by decide)).1], (h.1 45 (by decide)).2⟩) hw hN ⟨by rw [List.length_map]; exact r0, by rw [(h.1 45 (by decide)).1, List.length_map]; exact r1, fun i hi => ?_⟩ (fun e h => ?_) (by omega) a
        · rw [List.length_map] at hi
          rw [zp_g_map hi, h.2 i hi, if_pos hi, (h.1 74 (by decide)).1]
          exact ⟨rfl, (r2 i hi).2⟩
        · obtain ⟨e0, h0, rfl⟩ := List.mem_map.mp h
          refine ⟨(hl e0 h0).1, ?_⟩
          show (if e0.1 = 3 then 0 else e0.1) ≤ 3
          have := (hl e0 h0).2
          split <;> omega
      · have h73 := h.2 i hi
        rw [if_neg (Nat.lt_irrefl _)] at h73
        have he := (hl _ (zp_g_mem hi)).2
        have hini : vp_in (nI i) 80 := vp_in_nI (by omega) (by decide)
        have hs : (zp_s2 (zp_g l i)).1 = if (zp_g l i).1 = 3 then 0 else (zp_g l i).1 := rfl
        have fin : ∀ y, y = (zp_s2 (zp_g l i)).1 → B_X11_newBool_302 Q (L_X11_newBool_265 Q u) 0 (nI i) (nI i) (nI y) σ' := by
          intro y hy
          refine ⟨hini, ?_⟩
          rw [nI_clamp (by omega), nI_1]
          rintro τ rfl
          refine ih _ ⟨h.1.tr (zp_ch.wi (by decide)), fun j hj => ?_⟩
          by_cases cj : j = i
          · subst cj; rw [zp_rs, if_pos (by omega), hy]
          · rw [zp_rj _ _ cj, h.2 j hj]
            by_cases c1 : j < i
            · rw [if_pos c1, if_pos (by omega)]
            · rw [if_neg c1, if_neg (by omega)]
        unfold L_X11_newBool_265
        rw [(h.1 45 (by decide)).1, r1, nI_clamp (by omega), h73]
        refine zp_f (nI_ge hi (by omega)) ⟨hini, ?_⟩
        by_cases c3 : (zp_g l i).1 = 3
        · rw [if_pos c3] at hs
          exact zp_nf (by rw [c3]; rfl) (fin 0 hs.symm)
        · rw [if_neg c3] at hs
          exact zp_nt (fun z => c3 (zp_ninj (by omega) (by decide) z)) ⟨hini, fin _ hs.symm⟩
    · rw [if_neg (fun z => d z.2)] at a
      exact zp_nt (fun z => d (zp_ninj (by omega) (by omega) z)) (zp_bool309 hc hw hN hr hl h8 a)
  · rw [if_neg (fun z => c z.1)] at a
    refine zp_t ?_ (zp_bool309 hc hw hN hr hl h8 a)
    have : least = 0 := by omega
    subst this
    decide
theorem zp_newBool {A : Nat → Nat} (hw : zp_wf n S) (hN : zp_NR σ n S) (hk : k < n) (e : zp_kd S k = 2) (hA : ∀ i, i < zp_mn S k → σ.1 72 (zp_pt S k i) = nI (A (zp_pt S k i)) ∧ A (zp_pt S k i) < n) (a : zp_aR σ n S (match zp_gat S A (zp_fs S k) k (zp_mn S k) with
    | none => zp_NOTH
    | some l => zp_rqb (zp_fs S k) l) Q) : B_X11_newBool Q (nI k) σ := by
  have hn := hw.1
  have w := hw.2 k hk
  have h8 := w.2.1
  have hfs := (w.2.2.2.2.2.1 e).1
  obtain ⟨-, a1, -, -, -⟩ := hN.2 k hk
  have hin : vp_in (nI k) 80 := vp_in_nI (by omega) (by decide)
  unfold B_X11_newBool
  rw [nI_clamp (by omega), a1]
  refine ⟨hin, ?_⟩
  rintro v rfl τ rfl
  refine zp_for (L := fun u i σ' => L_X11_newBool_14 Q u (nI k) (nI (zp_fs S k)) (nI i) σ') (zp_mn S k) (fun i σ' => zp_cr σ σ' ∧ ∃ l, zp_gat S A (zp_fs S k) k i = some l ∧ zp_rR σ' l) (fun u σ' h => ?_) (fun u i σ' hi h ih => ?_) 0 _ ⟨zp_cr.w34, [], rfl, Nat.zero_le _, zp_rs _ _ _ _, fun i hi => absurd hi (Nat.not_lt_zero _)⟩ (Nat.zero_le _)
  · obtain ⟨h1, l, h2, h3⟩ := h
    have hN' := hN.cr h1
    obtain ⟨-, -, -, a3, -⟩ := hN'.2 k hk
    rw [h2] at a
    have a : zp_aR σ n S (zp_rqb (zp_fs S k) l) Q := a
    obtain ⟨g1, g2⟩ := zp_gat_ok hw hk (fun i hi => (hA i hi).2) _ (Nat.le_refl _) l h2
    have g3 : ∀ e ∈ l, e.1 ≤ 3 := fun e he => (g2 e he).2
    have b3 : zp_c l 3 ≤ l.length := zp_cn_le (l := l) (r := 3) l.length
    have b0 : zp_c l 0 ≤ l.length := zp_cn_le (l := l) (r := 0) l.length
    have b1 : zp_c l 1 ≤ l.length := zp_cn_le (l := l) (r := 1) l.length
    unfold L_X11_newBool_14
    rw [nI_clamp (by omega), a3]
    refine ⟨hin, zp_t (nI_le (Nat.le_refl _) (by omega)) ?_⟩
    unfold zp_rqb at a
    refine zp_countR (r := 3) h3 g3 (by decide) ?_
    by_cases c : zp_c l 3 < zp_fs S k
    · rw [if_pos c] at a
      exact zp_t (nI_lt c (by omega)) (zp_aR.noth h1 hw hN a)
    · rw [if_neg c] at a
      refine zp_f (nI_nlt (by omega) (by omega)) (zp_countR (r := 0) h3 g3 (by decide) (zp_countR (r := 1) h3 g3 (by decide) ?_))
      rw [nI_add, nI_add]
      by_cases c0 : zp_c l 0 + zp_c l 1 + zp_c l 3 = 0
      · rw [if_pos c0] at a
        exact zp_nf (by rw [c0]; rfl) (zp_aR.noth h1 hw hN a)
      · rw [if_neg c0] at a
        refine zp_nt (fun z => c0 (zp_ninj (by omega) (by decide) z)) (zp_countR (r := 0) h3 g3 (by decide) (zp_countR (r := 1) h3 g3 (by decide) ?_))
        rw [nI_add]
        by_cases c1 : zp_c l 0 + zp_c l 1 = 0
        · rw [if_pos c1] at a
          refine zp_nf (by rw [c1]; rfl) ?_
          by_cases c2 : zp_fs S k = 0
          · rw [c2] at a
            exact zp_nf (by rw [c2]; rfl) (zp_bool250 (least := 1) h1 hw hN h3 g2 (by omega) a)
          · rw [Nat.max_eq_left (by omega)] at a
            exact zp_nt (fun z => c2 (zp_ninj (by omega) (by decide) z)) (zp_bool250 h1 hw hN h3 g2 hfs a)
        · rw [if_neg c1] at a
          exact zp_nt (fun z => c1 (zp_ninj (by omega) (by decide) z)) (zp_bool250 h1 hw hN h3 g2 hfs a)
  · obtain ⟨h1, l, h2, h3⟩ := h
    have hN' := hN.cr h1
    obtain ⟨-, -, -, a3, a4⟩ := hN'.2 k hk
    obtain ⟨v1, v2⟩ := w.2.2.1 i hi
    obtain ⟨n1, n2⟩ := hA i hi
    have wp := hw.2 _ n2
    have hp8 := wp.2.1
    have h7 := wp.1
    obtain ⟨p0, -, -, p3, p4⟩ := hN'.2 _ n2
    have hg : zp_gat S A (zp_fs S k) k (i + 1) = (if zp_kd S (A (zp_pt S k i)) = 7 then (if zp_ro S k i < 2 then none else some l)
      else if zp_opn S (zp_fs S k) (zp_ro S k i) (A (zp_pt S k i)) l.length (zp_mn S k - i - 1) = true then some (l ++ zp_dis S (zp_ro S k i) (A (zp_pt S k i)) (zp_mn S (A (zp_pt S k i))))
      else some (l ++ [(zp_ro S k i, A (zp_pt S k i))])) := by
      show (match zp_gat S A (zp_fs S k) k i with
        | none => none
        | some l => if zp_kd S (A (zp_pt S k i)) = 7 then (if zp_ro S k i < 2 then none else some l)
          else if zp_opn S (zp_fs S k) (zp_ro S k i) (A (zp_pt S k i)) l.length (zp_mn S k - i - 1) = true then some (l ++ zp_dis S (zp_ro S k i) (A (zp_pt S k i)) (zp_mn S (A (zp_pt S k i))))
          else some (l ++ [(zp_ro S k i, A (zp_pt S k i))])) = _
      rw [h2]
    have hlen := (zp_gat_ok hw hk (fun i hi => (hA i hi).2) i (by omega) l h2).1
    have next : ∀ σ2 l2, zp_cr σ σ2 → zp_gat S A (zp_fs S k) k (i + 1) = some l2 → zp_rR σ2 l2 → B_X11_newBool_185 Q (L_X11_newBool_14 Q u) (nI k) (nI (zp_fs S k)) (nI i) σ2 := by
      intro σ2 l2 y1 y2 y3
      unfold B_X11_newBool_185
      rw [nI_1]
      exact ih σ2 ⟨y1, l2, y2, y3⟩
    have hin8 : vp_in (nI (k * 8 + i)) 640 := vp_in_nI (by omega) (by decide)
    unfold L_X11_newBool_14
    rw [zp_8m, nI_add, nI_clamp (n := k) (by omega), nI_clamp (n := k * 8 + i) (by omega), a3, (a4 i hi).1, (a4 i hi).2, nI_clamp (n := zp_pt S k i) (by omega), (h1.1 72 (by decide)).1, n1, zp_nsb (by omega) (by omega), zp_n1 (by omega)]
    refine ⟨hin, zp_f (nI_ge hi (by omega)) ⟨hin8, ?_⟩⟩
    rintro x rfl
    refine ⟨hin8, vp_in_nI (by omega) (by decide), ?_⟩
    rintro y rfl
    rw [nI_clamp (n := A (zp_pt S k i)) (by omega), p0]
    refine ⟨vp_in_nI (by omega) (by decide), ?_⟩
    by_cases c7 : zp_kd S (A (zp_pt S k i)) = 7
    · rw [if_pos c7] at hg
      refine zp_nf (by rw [c7]; rfl) ?_
      by_cases c2 : zp_ro S k i < 2
      · rw [if_pos c2] at hg
        have := zp_gat_none hg (zp_mn S k - (i + 1))
        rw [show i + 1 + (zp_mn S k - (i + 1)) = zp_mn S k by omega] at this
        rw [this] at a
        exact zp_f (nI_ge (b := 2) c2 (by decide)) (zp_aR.noth h1 hw hN a)
      · rw [if_neg c2] at hg
        exact zp_t (nI_le (a := 2) (by omega) (by omega)) (next σ' l h1 hg h3)
    · rw [if_neg c7] at hg
      refine zp_nt (fun z => c7 (zp_ninj (by omega) (by decide) z)) ⟨hin, ?_⟩
      refine zp_opens hw hN' n2 v2 hfs (by omega) h3 ?_
      cases co : zp_opn S (zp_fs S k) (zp_ro S k i) (A (zp_pt S k i)) l.length (zp_mn S k - i - 1)
      · rw [if_neg (by rw [co]; decide)] at hg
        exact zp_t rfl (zp_lay h3 (by omega) (fun σ2 c2 hr2 => next σ2 _ (h1.tr c2) hg hr2))
      · rw [if_pos co] at hg
        refine zp_f (by decide) ?_
        have hroom : l.length + zp_mn S (A (zp_pt S k i)) + (zp_mn S k - i - 1) ≤ 8 := by
          unfold zp_opn at co
          rw [Bool.and_eq_true, Bool.and_eq_true] at co
          exact of_decide_eq_true co.2.1
        refine zp_for (L := fun v m σ2 => L_X11_newBool_107 Q (L_X11_newBool_14 Q u) v (nI k) (nI (zp_fs S k)) (nI i) (nI (zp_ro S k i)) (nI (A (zp_pt S k i))) (nI m) σ2) (zp_mn S (A (zp_pt S k i))) (fun m σ2 => zp_cr σ σ2 ∧ zp_rR σ2 (l ++ zp_dis S (zp_ro S k i) (A (zp_pt S k i)) m)) (fun v σ2 g => ?_) (fun v m σ2 hm g ih2 => ?_) 0 σ' ⟨h1, by show zp_rR σ' (l ++ []); rw [List.append_nil]; exact h3⟩ (Nat.zero_le _)
        · obtain ⟨-, -, -, d3, -⟩ := (hN.cr g.1).2 _ n2
          unfold L_X11_newBool_107
          rw [nI_clamp (by omega), d3]
          exact ⟨vp_in_nI (by omega) (by decide), zp_t (nI_le (Nat.le_refl _) (by omega)) (next σ2 _ g.1 hg g.2)⟩
        · obtain ⟨-, -, -, d3, d4⟩ := (hN.cr g.1).2 _ n2
          obtain ⟨w1, w2⟩ := wp.2.2.1 m hm
          have hdl := (zp_dis_ok (r := zp_ro S k i) wp n2 m (by omega)).1
          have hin9 : vp_in (nI (A (zp_pt S k i) * 8 + m)) 640 := vp_in_nI (by omega) (by decide)
          have h152 : ∀ y, y = (if zp_ro S k i = 1 ∧ zp_ro S (A (zp_pt S k i)) m = 0 then 1 else zp_ro S (A (zp_pt S k i)) m) → B_X11_newBool_152 Q (L_X11_newBool_14 Q u) (L_X11_newBool_107 Q (L_X11_newBool_14 Q u) v) (nI k) (nI (zp_fs S k)) (nI i) (nI (zp_ro S k i)) (nI (A (zp_pt S k i))) (nI m) (nI y) σ2 := by
            intro y hy
            unfold B_X11_newBool_152
            rw [zp_8m, nI_add, nI_clamp (n := A (zp_pt S k i) * 8 + m) (by omega), (d4 m hm).2]
            refine ⟨hin9, zp_lay g.2 (by rw [List.length_append, hdl]; omega) (fun σ3 c3 hr3 => ?_)⟩
            rw [nI_1]
            refine ih2 σ3 ⟨g.1.tr c3, ?_⟩
            show zp_rR σ3 (l ++ (zp_dis S (zp_ro S k i) (A (zp_pt S k i)) m ++ [(if zp_ro S k i = 1 ∧ zp_ro S (A (zp_pt S k i)) m = 0 then 1 else zp_ro S (A (zp_pt S k i)) m, zp_pt S (A (zp_pt S k i)) m)]))
            rw [← List.append_assoc, ← hy]
            exact hr3
          unfold L_X11_newBool_107
          rw [zp_8m, nI_add, nI_clamp (n := A (zp_pt S k i)) (by omega), nI_clamp (n := A (zp_pt S k i) * 8 + m) (by omega), d3, (d4 m hm).1]
          refine ⟨vp_in_nI (by omega) (by decide), zp_f (nI_ge hm (by omega)) ⟨hin9, ?_⟩⟩
          rintro x rfl
          by_cases c1 : zp_ro S k i = 1
          · refine zp_nf (by rw [c1]; rfl) ?_
            by_cases c2 : zp_ro S (A (zp_pt S k i)) m = 0
            · exact zp_nf (by rw [c2]; rfl) (h152 1 (by rw [if_pos ⟨c1, c2⟩]))
            · exact zp_nt (fun z => c2 (zp_ninj (by omega) (by decide) z)) (h152 _ (by rw [if_neg (fun z => c2 z.2)]))
          · exact zp_nt (fun z => c1 (zp_ninj (by omega) (by decide) z)) (h152 _ (by rw [if_neg (fun z => c1 z.1)]))
theorem zp_newBestR {A : Nat → Nat} (hw : zp_wf n S) (hN : zp_NR σ n S) (hk : k < n) (e : zp_kd S k = 3) (hA : ∀ i, i < zp_mn S k → σ.1 72 (zp_pt S k i) = nI (A (zp_pt S k i)) ∧ A (zp_pt S k i) < n) (a : zp_aR σ n S (zp_rqt S k (zp_bst S A k (zp_mn S k))) Q) : B_X11_newBest Q (nI k) σ := by
  have hn := hw.1
  have w := hw.2 k hk
  have h8 := w.2.1
  have hfs := (w.2.2.2.2.2.2.1 e).1
  have hin : vp_in (nI k) 80 := vp_in_nI (by omega) (by decide)
  have hb := zp_bst_ok (S := S) (A := A) (k := k) (n := n) (fun i hi => (hA i hi).2)
  rintro σ1 rfl
  refine zp_for (L := fun u i σ' => L_X11_newBest_7 Q u (nI k) (nI i) σ') (zp_mn S k) (fun i σ' => zp_cr σ σ' ∧ zp_rR σ' (zp_bst S A k i)) (fun u σ' h => ?_) (fun u i σ' hi h ih => ?_) 0 _ ⟨zp_cr.w34, Nat.zero_le _, zp_rs _ _ _ _, fun i hi => absurd hi (Nat.not_lt_zero _)⟩ (Nat.zero_le _)
  · obtain ⟨h1, h3⟩ := h
    obtain ⟨-, a1, -, a3, -⟩ := (hN.cr h1).2 k hk
    obtain ⟨b1, b2⟩ := hb _ (Nat.le_refl _)
    unfold L_X11_newBest_7
    rw [nI_clamp (by omega), a3, a1, h3.2.1]
    refine ⟨hin, zp_t (nI_le (Nat.le_refl _) (by omega)) ?_⟩
    unfold zp_rqt at a
    by_cases c0 : (zp_bst S A k (zp_mn S k)).length = 0
    · rw [if_pos c0] at a
      exact zp_nf (by rw [c0]; rfl) (zp_aR.noth h1 hw hN a)
    · rw [if_neg c0] at a
      refine zp_nt (fun z => c0 (zp_ninj (by omega) (by decide) z)) ?_
      by_cases c1 : (zp_bst S A k (zp_mn S k)).length = 1
      · rw [if_pos c1] at a
        refine zp_nf (by rw [c1]; rfl) ⟨vp_in_nI (n := 0) (by decide) (by decide), ?_⟩
        show Q (σ'.1 74 0) σ'
        rw [(h3.2.2 0 (by omega)).2]
        exact zp_aR.inl h1 hN a
      · rw [if_neg c1] at a
        refine zp_nt (fun z => c1 (zp_ninj (by omega) (by decide) z)) ⟨hin, ?_⟩
        refine zp_soR (kd := 3) (sc := 0) h1 hw hN ?_ (fun _ => h3) a
        exact ⟨by unfold zp_newok; omega, by omega, fun z => (by cases z), fun e he => ⟨(b2 e he).1, by have := (b2 e he).2; omega, fun _ => (b2 e he).2⟩⟩
  · obtain ⟨h1, h3⟩ := h
    obtain ⟨-, -, -, a3, a4⟩ := (hN.cr h1).2 k hk
    obtain ⟨v1, v2⟩ := w.2.2.1 i hi
    obtain ⟨n1, n2⟩ := hA i hi
    have wp := hw.2 _ n2
    have h7 := wp.1
    obtain ⟨b0, -, -, -, -⟩ := (hN.cr h1).2 _ n2
    have hlen := (hb i (by omega)).1
    have hg : zp_bst S A k (i + 1) = if zp_kd S (A (zp_pt S k i)) = 7 then zp_bst S A k i else zp_bst S A k i ++ [(3, A (zp_pt S k i))] := rfl
    unfold L_X11_newBest_7 B_X11_newBest_51
    rw [zp_8m, nI_add, nI_1, nI_clamp (n := k) (by omega), nI_clamp (n := k * 8 + i) (by omega), a3, (a4 i hi).2, nI_clamp (n := zp_pt S k i) (by omega), (h1.1 72 (by decide)).1, n1]
    refine ⟨hin, zp_f (nI_ge hi (by omega)) ⟨vp_in_nI (by omega) (by decide), vp_in_nI (by omega) (by decide), ?_⟩⟩
    rintro v rfl
    rw [nI_clamp (n := A (zp_pt S k i)) (by omega), b0]
    refine ⟨vp_in_nI (by omega) (by decide), ?_⟩
    by_cases c7 : zp_kd S (A (zp_pt S k i)) = 7
    · rw [if_pos c7] at hg
      exact zp_t (by rw [c7]; rfl) (ih σ' ⟨h1, by rw [hg]; exact h3⟩)
    · rw [if_neg c7] at hg
      refine zp_f (fun z => c7 (zp_ninj (by omega) (by decide) z)) ?_
      exact zp_lay (r := 3) h3 (by omega) (fun σ2 c2 hr2 => ih σ2 ⟨h1.tr c2, by rw [hg]; exact hr2⟩)
theorem zp_newOther {A : Nat → Nat} {sz : Nat → Nat} (hw : zp_wf n S) (hN : zp_NR σ n S) (hz : ∀ l, l < 16 → σ.1 47 l = nI (sz l) ∧ sz l ≤ 60) (hk : k < n) (e2 : ¬ zp_kd S k = 2) (e3 : ¬ zp_kd S k = 3) (hA : ∀ i, i < zp_mn S k → σ.1 72 (zp_pt S k i) = nI (A (zp_pt S k i)) ∧ A (zp_pt S k i) < n) (a : zp_aR σ n S (zp_rq sz A S k) Q) : B_X11_newOther Q (nI k) σ := by
  have hn := hw.1
  have w := hw.2 k hk
  have h7 := w.1
  obtain ⟨a0, a1, a2, a3, a4⟩ := hN.2 k hk
  have hin : vp_in (nI k) 80 := vp_in_nI (by omega) (by decide)
  have hok := zp_rq_ok (sz := sz) hw hk (fun i hi => (hA i hi).2)
  unfold zp_rq at a hok
  have one : (zp_kd S k = 4 ∨ zp_kd S k = 5 ∨ zp_kd S k = 6) → zp_aR σ n S (zp_rqo S k (A (zp_fs S k))) Q → zp_rok n (zp_rqo S k (A (zp_fs S k))) → B_X11_newOther Q (nI k) σ := by
    intro e a hok
    obtain ⟨o1, o2, o3, o4⟩ := w.one e
    obtain ⟨n1, n2⟩ := hA 0 (by omega)
    rw [o2] at n1 n2
    have wp := hw.2 _ n2
    have p7 := wp.1
    obtain ⟨b0, b1, -, -, -⟩ := hN.2 _ n2
    have hinp : vp_in (nI (A (zp_fs S k))) 80 := vp_in_nI (by omega) (by decide)
    unfold zp_rqo at a hok
    have so : ∀ y, zp_rok n (.inr (zp_kd S k, y, zp_sc S k, [])) → zp_aR σ n S (.inr (zp_kd S k, y, zp_sc S k, [])) Q → B_X11_newOther_146 Q (nI k) (nI (zp_kd S k)) (nI y) σ := by
      intro y ok a
      unfold B_X11_newOther_146
      rw [nI_clamp (by omega), a2]
      refine ⟨hin, zp_soR zp_cr.rf hw hN ok (fun z => ?_) a⟩
      unfold zp_rk at z
      rcases e with e | e | e <;> rw [e] at z <;> cases z
    have k107 : ¬ (zp_kd S (A (zp_fs S k)) = 7 ∨ (zp_kd S k = 6 ∧ zp_kd S (A (zp_fs S k)) = 6)) → B_X11_newOther_107 Q (nI k) (nI (zp_kd S k)) (nI (A (zp_fs S k))) σ := by
      intro z1
      rw [if_neg z1] at a hok
      have k126 : ¬ (zp_kd S (A (zp_fs S k)) = 4 ∧ zp_kd S k ≠ 5) → B_X11_newOther_126 Q (nI k) (nI (zp_kd S k)) (nI (A (zp_fs S k))) σ := by
        intro z2
        rw [if_neg z2] at a hok
        exact zp_t rfl (so _ hok a)
      refine ⟨hinp, ?_⟩
      rw [nI_clamp (by omega), b0]
      by_cases c4 : zp_kd S (A (zp_fs S k)) = 4
      · refine zp_nf (by rw [c4]; rfl) ?_
        by_cases c5 : zp_kd S k = 5
        · exact zp_t (by rw [c5]; rfl) (k126 (fun z => z.2 c5))
        · refine zp_f (fun z => c5 (zp_ninj (by omega) (by decide) z)) (zp_f (by decide) ⟨hinp, ?_⟩)
          rw [if_pos ⟨c4, c5⟩] at a hok
          rw [nI_clamp (by omega), b1]
          exact so _ hok a
      · exact zp_nt (fun z => c4 (zp_ninj (by omega) (by decide) z)) (k126 (fun z => c4 z.1))
    unfold B_X11_newOther B_X11_newOther_105
    rw [nI_clamp (n := k) (by omega), a0, a1, nI_clamp (n := zp_fs S k) (by omega), n1]
    refine ⟨hin, ?_⟩
    rintro v rfl
    refine zp_f (nI_nlt (b := 2) (by omega) (by omega)) (zp_nt (fun z => ?_) ⟨hin, vp_in_nI (by omega) (by decide), ?_⟩)
    · have := zp_ninj (a := zp_kd S k) (b := 7) (by omega) (by decide) z; omega
    rintro v rfl
    rw [nI_clamp (n := A (zp_fs S k)) (by omega), b0]
    refine ⟨hinp, ?_⟩
    by_cases c7 : zp_kd S (A (zp_fs S k)) = 7
    · rw [if_pos (Or.inl c7)] at a
      exact zp_t (by rw [c7]; rfl) (zp_aR.inl zp_cr.rf hN a)
    · refine zp_f (fun z => c7 (zp_ninj (by omega) (by decide) z)) ?_
      by_cases c6 : zp_kd S k = 6
      · refine zp_nf (by rw [c6]; rfl) ⟨hinp, ?_⟩
        by_cases d6 : zp_kd S (A (zp_fs S k)) = 6
        · rw [if_pos (Or.inr ⟨c6, d6⟩)] at a
          exact zp_nf (by rw [d6]; rfl) (zp_aR.inl zp_cr.rf hN a)
        · exact zp_nt (fun z => d6 (zp_ninj (by omega) (by decide) z)) (k107 (by omega))
      · exact zp_nt (fun z => c6 (zp_ninj (by omega) (by decide) z)) (k107 (by omega))
  have k47 : zp_rk (zp_kd S k) = false → zp_rok n (.inr (zp_kd S k, zp_fs S k, zp_sc S k, [])) → zp_aR σ n S (.inr (zp_kd S k, zp_fs S k, zp_sc S k, [])) Q → B_X11_newOther_47 Q (nI k) (nI (zp_kd S k)) σ := by
    intro hrk ok a
    unfold B_X11_newOther_47
    rw [nI_clamp (by omega), a1, a2]
    exact ⟨hin, hin, zp_soR zp_cr.rf hw hN ok (fun z => by rw [hrk] at z; cases z) a⟩
  rcases (show zp_kd S k = 0 ∨ zp_kd S k = 1 ∨ zp_kd S k = 4 ∨ zp_kd S k = 5 ∨ zp_kd S k = 6 ∨ zp_kd S k = 7 by omega) with e | e | e | e | e | e
  · rw [e] at a hok
    have a : zp_aR σ n S (if sz (zp_fs S k) = 0 then zp_NOTH else .inr (0, zp_fs S k, 0, [])) Q := a
    have hok : zp_rok n (if sz (zp_fs S k) = 0 then zp_NOTH else .inr (0, zp_fs S k, 0, [])) := hok
    obtain ⟨hfs, hsc, -⟩ := w.2.2.2.1 e
    obtain ⟨z1, z2⟩ := hz _ hfs
    unfold B_X11_newOther B_X11_newOther_18
    rw [nI_clamp (n := k) (by omega), a0, a1, nI_clamp (n := zp_fs S k) (by omega), z1]
    refine ⟨hin, ?_⟩
    rintro v rfl
    refine zp_t (by rw [e]; decide) (zp_nf (by rw [e]; rfl) ⟨hin, vp_in_nI hfs (by decide), ?_⟩)
    by_cases c : sz (zp_fs S k) = 0
    · rw [if_pos c] at a
      exact zp_nf (by rw [c]; rfl) (zp_aR.noth zp_cr.rf hw hN a)
    · rw [if_neg c] at a hok
      refine zp_nt (fun z => c (zp_ninj (by omega) (by decide) z)) (k47 (by rw [e]; rfl) ?_ ?_)
      · rw [e, hsc]; exact hok
      · rw [e, hsc]; exact a
  · rw [e] at a hok
    unfold B_X11_newOther B_X11_newOther_18
    rw [nI_clamp (n := k) (by omega), a0]
    refine ⟨hin, ?_⟩
    rintro v rfl
    refine zp_t (by rw [e]; decide) (zp_nt (by rw [e]; decide) (k47 (by rw [e]; rfl) ?_ ?_))
    · rw [e]; exact hok
    · rw [e]; exact a
  · rw [e] at a hok; exact one (by omega) a hok
  · rw [e] at a hok; exact one (by omega) a hok
  · rw [e] at a hok; exact one (by omega) a hok
  · rw [e] at a hok
    obtain ⟨y1, y2, -⟩ := w.2.2.2.2.2.2.2.2.2.2 e
    unfold B_X11_newOther B_X11_newOther_18
    rw [nI_clamp (n := k) (by omega), a0]
    refine ⟨hin, ?_⟩
    rintro v rfl
    refine zp_f (by rw [e]; decide) (zp_nf (by rw [e]; rfl) (zp_nt (by rw [e]; decide) (k47 (by rw [e]; rfl) ?_ ?_)))
    · rw [e, y1, y2]; exact hok
    · rw [e, y1, y2]; exact a
end NEWR
