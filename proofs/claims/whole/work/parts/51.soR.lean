/-! The reference finds or makes what is asked for. -/
def zp_rR (σ : zv_St) (l : zp_Row) : Prop := l.length ≤ 8 ∧ σ.1 45 34 = nI l.length ∧ ∀ i, i < l.length → σ.1 73 i = nI (zp_g l i).1 ∧ σ.1 74 i = nI (zp_g l i).2
/-- only the row changes -/
def zp_cr (σ σ' : zv_St) : Prop := zp_ch [45, 73, 74, 75] σ σ' ∧ (∀ f, f ≠ 34 → σ'.1 45 f = σ.1 45 f) ∧ σ'.2 45 = σ.2 45
theorem zp_cr.rf {σ : zv_St} : zp_cr σ σ := ⟨zp_ch.rf, fun _ _ => rfl, rfl⟩
theorem zp_cr.tr {σ σ1 σ2 : zv_St} (h : zp_cr σ σ1) (h' : zp_cr σ1 σ2) : zp_cr σ σ2 := ⟨h.1.tr h'.1, fun f hf => (h'.2.1 f hf).trans (h.2.1 f hf), h'.2.2.trans h.2.2⟩
theorem zp_cr.w34 {σ : zv_St} {x : Int32} : zp_cr σ (zv_wi σ 45 34 x) := ⟨zp_ch.wi (by decide), fun f hf => zp_rj _ _ hf, rfl⟩
theorem zp_cr.wr {σ : zv_St} {c i : Nat} {x : Int32} (hc : c ∈ ([73, 74, 75] : List Nat)) : zp_cr σ (zv_wi σ c i x) := by
  have h45 : (45 : Nat) ≠ c := fun z => by subst z; exact absurd hc (by decide)
  refine ⟨zp_ch.wi (List.mem_cons_of_mem _ hc), fun f _ => zp_rn _ _ _ _ h45, rfl⟩
theorem zp_NR.cr {σ σ' : zv_St} {n : Nat} {S : zp_S} (h : zp_NR σ n S) (c : zp_cr σ σ') : zp_NR σ' n S := h.ch c.1 (by decide) (c.2.1 2 (by decide))
/-- what making leaves behind -/
def zp_mR (σ : zv_St) (n : Nat) (σ' : zv_St) (n' : Nat) (S' : zp_S) : Prop := zp_ch [45, 48, 49, 50, 51, 52, 53, 54, 55, 73, 74, 75] σ σ' ∧ (∀ f, f ≠ 34 → f ≠ 2 → σ'.1 45 f = σ.1 45 f) ∧ σ'.2 45 = σ.2 45 ∧ zp_NR σ' n' S' ∧ (∀ j, j < n → σ'.1 54 j = σ.1 54 j ∧ σ'.1 55 j = σ.1 55 j) ∧ ∀ j, n ≤ j → j < n' → σ'.1 54 j = 0 ∧ σ'.1 55 j = -1
def zp_aR (σ : zv_St) (n : Nat) (S : zp_S) (rq : zp_Rq) (Q : Int32 → zv_St → Prop) : Prop := (∀ r n' S', zp_do n S rq = some (r, n', S') → ∀ σ', zp_mR σ n σ' n' S' → Q (nI r) σ') ∧ (zp_do n S rq = none → ∀ σ1, zp_cr σ σ1 → Q 0 (zv_wi σ1 45 35 1))
theorem zp_mR.same {σ σ' : zv_St} {n : Nat} {S : zp_S} (c : zp_cr σ σ') (hN : zp_NR σ n S) : zp_mR σ n σ' n S := ⟨c.1.mono (by decide), fun f h _ => c.2.1 f h, c.2.2, hN.cr c, fun j _ => ⟨by rw [(c.1 54 (by decide)).1], by rw [(c.1 55 (by decide)).1]⟩, fun j h1 h2 => by omega⟩
section SOR
variable {σ0 σ : zv_St} {n kd fs sc k : Nat} {S : zp_S} {l : zp_Row} {Q : Int32 → zv_St → Prop}
theorem zp_aR.inl {p : Nat} (hc : zp_cr σ0 σ) (hN : zp_NR σ0 n S) (a : zp_aR σ0 n S (.inl p) Q) : Q (nI p) σ := a.1 p n S rfl σ (zp_mR.same hc hN)
theorem zp_rkk (h7 : kd ≤ 7) (hrk : zp_rk kd = false) : ¬ nI kd = 2 ∧ ¬ nI kd = 3 := by
  unfold zp_rk at hrk
  simp at hrk
  exact ⟨fun z => hrk.1 (zp_ninj (by omega) (by decide) z), fun z => hrk.2 (zp_ninj (by omega) (by decide) z)⟩
theorem zp_rkt (hrk : zp_rk kd = true) : kd = 2 ∨ kd = 3 := by
  unfold zp_rk at hrk
  simp at hrk
  exact hrk
theorem zp_soMake (hc : zp_cr σ0 σ) (hw : zp_wf n S) (hN : zp_NR σ0 n S) (ok : zp_rok n (.inr (kd, fs, sc, l))) (hr : zp_rk kd = true → zp_rR σ l) (h80 : n < 80) (hdo : zp_do n S (.inr (kd, fs, sc, l)) = some (n, n + 1, zp_aps (zp_addN S n kd fs sc) n l l.length)) (a : zp_aR σ0 n S (.inr (kd, fs, sc, l)) Q) : B_X11_make (fun σ_1 => ∃ n202, L_X11_so_202 Q n202 (nI kd) 0 σ_1) (nI kd) (nI fs) (nI sc) σ := by
  have hok := ok
  obtain ⟨ok1, ok2, ok3, ok4⟩ := ok
  refine zp_makeR h80 hw (hN.cr hc) ok1 (fun σ1 c1 c2 c3 c4 c5 c6 => ?_)
  have haps := zp_aps_ok h80 hw hok
  have fin : ∀ σ2, zp_ch [51, 52, 53] σ1 σ2 → σ2.2 = σ1.2 → zp_NR σ2 (n + 1) (zp_aps (zp_addN S n kd fs sc) n l l.length) → B_X11_so_290 Q σ2 := by
    intro σ2 d1 d2 d3
    unfold B_X11_so_290
    rw [d3.1, zp_n1 (by omega)]
    refine a.1 _ _ _ hdo σ2 ⟨?_, fun f f1 f2 => ?_, ?_, d3, fun j hj => ?_, fun j h1 h2 => ?_⟩
    · exact (hc.1.mono (by decide)).tr ((c1.mono (by decide)).tr (d1.mono (by decide)))
    · rw [(d1 45 (by decide)).1, c6 f f2, hc.2.1 f f1]
    · rw [d2, c2, hc.2.2]
    · rw [(d1 54 (by decide)).1, (d1 55 (by decide)).1, c4, c5, if_neg (by omega), if_neg (by omega), (hc.1 54 (by decide)).1, (hc.1 55 (by decide)).1]
      exact ⟨rfl, rfl⟩
    · rw [(d1 54 (by decide)).1, (d1 55 (by decide)).1, c4, c5, if_pos (by omega), if_pos (by omega)]
      exact ⟨rfl, rfl⟩
  cases hrk : zp_rk kd
  · have hl := ok3 hrk
    subst hl
    obtain ⟨z2, z3⟩ := zp_rkk ok1.1 hrk
    have e := fin σ1 zp_ch.rf rfl c3
    exact ⟨1, fun _ => e, fun _ => zp_f z2 (zp_nt z3 e)⟩
  · obtain ⟨r0, r1, r2⟩ := hr hrk
    have h34 : σ1.1 45 34 = nI l.length := by rw [c6 34 (by decide)]; exact r1
    refine zp_for (L := fun u i σ' => L_X11_so_202 Q u (nI kd) (nI i) σ') l.length (fun i σ' => zp_ch [51, 52, 53] σ1 σ' ∧ σ'.2 = σ1.2 ∧ zp_NR σ' (n + 1) (zp_aps (zp_addN S n kd fs sc) n l i)) (fun u σ2 g => ?_) (fun u i σ2 hi g ih => ?_) 0 σ1 ⟨zp_ch.rf, rfl, c3⟩ (Nat.zero_le _)
    · unfold L_X11_so_202
      rw [(g.1 45 (by decide)).1, h34]
      exact zp_t (nI_le (Nat.le_refl _) (by omega)) (fin σ2 g.1 g.2.1 g.2.2)
    · obtain ⟨g1, g2, g3⟩ := g
      obtain ⟨q1, q2, q3, q4⟩ := haps i (by omega)
      have q2 := q2 hrk
      have body : B_X11_so_221 Q (L_X11_so_202 Q u) (nI kd) (nI i) σ2 := by
        have m51 : σ2.1 51 n = nI i := by
          have := (g3.2 n (by omega)).2.2.2.1
          rw [this]; exact congrArg nI q2
        have e73 : σ2.1 73 i = nI (zp_g l i).1 := by rw [(g1 73 (by decide)).1, (c1 73 (by decide)).1]; exact (r2 i hi).1
        have e74 : σ2.1 74 i = nI (zp_g l i).2 := by rw [(g1 74 (by decide)).1, (c1 74 (by decide)).1]; exact (r2 i hi).2
        have hi80 : vp_in (nI i) 80 := vp_in_nI (by omega) (by decide)
        unfold B_X11_so_221
        rw [g3.1, zp_n1 (by omega), Nat.add_sub_cancel, zp_8m, nI_add, nI_clamp (n := n * 8 + i) (by omega), nI_clamp (n := i) (by omega), e73]
        refine ⟨hi80, vp_in_nI (by omega) (by decide), ?_⟩
        rintro τ1 rfl
        rw [zp_rn _ _ _ _ (by decide), g3.1, zp_n1 (by omega), Nat.add_sub_cancel, zp_8m, nI_add, nI_clamp (n := n * 8 + i) (by omega), zp_rn _ _ _ _ (by decide), e74]
        refine ⟨hi80, vp_in_nI (by omega) (by decide), ?_⟩
        rintro τ2 rfl
        rw [zp_rn _ _ _ _ (by decide), zp_rn _ _ _ _ (by decide), g3.1, zp_n1 (by omega), Nat.add_sub_cancel, nI_clamp (n := n) (by omega), zp_rn _ _ _ _ (by decide), zp_rn _ _ _ _ (by decide), m51, nI_1]
        refine ⟨vp_in_nI (by omega) (by decide), vp_in_nI (by omega) (by decide), ?_⟩
        rintro τ3 rfl
        have key := zp_NR_addP (k := n) (r := (zp_g l i).1) (p := (zp_g l i).2) (by omega) q1 (by omega) g3
        rw [q2] at key
        exact ih _ ⟨g1.tr ((zp_ch.wi (by decide)).tr ((zp_ch.wi (by decide)).tr (zp_ch.wi (by decide)))), g2, key⟩
      unfold L_X11_so_202
      rw [(g1 45 (by decide)).1, h34]
      refine zp_f (nI_ge hi (by omega)) ?_
      rcases zp_rkt hrk with e | e
      · exact zp_t (by rw [e]; rfl) body
      · exact zp_f (by rw [e]; decide) (zp_nf (by rw [e]; rfl) body)
theorem zp_soR (hc : zp_cr σ0 σ) (hw : zp_wf n S) (hN : zp_NR σ0 n S) (ok : zp_rok n (.inr (kd, fs, sc, l))) (hr : zp_rk kd = true → zp_rR σ l) (a : zp_aR σ0 n S (.inr (kd, fs, sc, l)) Q) : B_X11_so Q (nI kd) (nI fs) (nI sc) σ := by
  have hn := hw.1
  have hN' := hN.cr hc
  have hdo : zp_do n S (.inr (kd, fs, sc, l)) = (match zp_fd (zp_isN S kd fs sc l) n with | some k => some (k, n, S) | none => if n < 80 then some (n, n + 1, zp_aps (zp_addN S n kd fs sc) n l l.length) else none) := rfl
  obtain ⟨b0, b1, b2⟩ := ok.1.small hn
  have h7 := ok.1.1
  refine zp_for (α := Unit) (L := fun u i _ => L_X11_so_3 Q u (nI kd) (nI fs) (nI sc) (nI i) σ) n (fun i _ => ∀ j, j < i → zp_isN S kd fs sc l j = false) (fun u _ h => ?_) (fun u i _ hi h ih => ?_) 0 () (fun j hj => by omega) (Nat.zero_le _)
  · unfold L_X11_so_3
    rw [hN'.1]
    refine zp_t (nI_le (Nat.le_refl _) (by omega)) ?_
    rw [zp_fd_none h] at hdo
    have hdo : zp_do n S (.inr (kd, fs, sc, l)) = if n < 80 then some (n, n + 1, zp_aps (zp_addN S n kd fs sc) n l l.length) else none := hdo
    by_cases h80 : n < 80
    · rw [if_pos h80] at hdo
      refine zp_nt (fun z => ?_) (zp_soMake hc hw hN ok hr h80 hdo a)
      have := zp_ninj (a := n) (b := 80) (by omega) (by decide) z
      omega
    · rw [if_neg h80] at hdo
      have : n = 80 := by omega
      refine zp_nf (by rw [this]; rfl) ?_
      rintro σ2 rfl
      exact a.2 hdo σ hc
  · obtain ⟨a0, a1, a2, a3, a4⟩ := hN'.2 i hi
    have w := hw.2 i hi
    obtain ⟨s1, s2⟩ := w.small (by omega)
    have w7 := w.1
    have w8 := w.2.1
    have h162 : ∀ b, b = zp_isN S kd fs sc l i → B_X11_so_162 Q (L_X11_so_3 Q u) (nI kd) (nI fs) (nI sc) (nI i) (zp_bi b) σ := by
      intro b hb
      unfold B_X11_so_162
      rw [nI_1]
      cases b
      · refine zp_t rfl (ih () (fun j hj => ?_))
        by_cases e : j = i
        · subst e; exact hb.symm
        · exact h j (by omega)
      · rw [zp_fd_some hb.symm h hi] at hdo
        exact zp_f (by decide) (a.1 i n S hdo σ (zp_mR.same hc hN))
    have fail : zp_isN S kd fs sc l i = false → B_X11_so_73 Q (L_X11_so_3 Q u) (nI kd) (nI fs) (nI sc) (nI i) σ := by
      intro z
      have e := h162 false z.symm
      exact ⟨1, fun _ => e, fun _ => zp_t rfl e⟩
    have hin : vp_in (nI i) 80 := vp_in_nI (by omega) (by decide)
    have hisN : zp_isN S kd fs sc l i = (decide (S 0 i = kd) && (decide (S 1 i = fs) && (decide (S 2 i = sc) && (!(zp_rk kd) || zp_pr S l i)))) := rfl
    unfold L_X11_so_3
    rw [hN'.1]
    refine zp_f (nI_ge hi (by omega)) ⟨hin, ?_⟩
    rw [nI_clamp (by omega), a0, a1, a2]
    by_cases c0 : S 0 i = kd
    · refine zp_nf (by rw [← c0]) ⟨hin, ?_⟩
      by_cases c1 : S 1 i = fs
      · refine zp_nf (by rw [← c1]) ⟨hin, ?_⟩
        by_cases c2 : S 2 i = sc
        · refine zp_nf (by rw [← c2]) ?_
          rw [decide_eq_true c0, decide_eq_true c1, decide_eq_true c2, Bool.true_and, Bool.true_and, Bool.true_and] at hisN
          cases hrk : zp_rk kd
          · obtain ⟨z2, z3⟩ := zp_rkk h7 hrk
            rw [hrk] at hisN
            have e := h162 true hisN.symm
            refine zp_f z2 (zp_nt z3 ⟨1, fun _ => e, fun _ => zp_f (by decide) (zp_f z2 (zp_nt z3 e))⟩)
          · rw [hrk] at hisN
            have hisN : zp_isN S kd fs sc l i = zp_pr S l i := hisN
            obtain ⟨r0, r1, r2⟩ := hr hrk
            have ok4 := ok.2.2.2
            have body : B_X11_so_55 Q (L_X11_so_3 Q u) (nI kd) (nI fs) (nI sc) (nI i) σ := by
              refine ⟨hin, ?_⟩
              rw [nI_clamp (by omega), a3, r1]
              unfold zp_pr at hisN
              by_cases c3 : S 3 i = l.length
              · rw [decide_eq_true c3, Bool.true_and] at hisN
                refine zp_nf (by rw [← c3]) ?_
                refine zp_for (α := Bool) (L := fun u' m x => L_X11_so_79 Q (L_X11_so_3 Q u) u' (nI kd) (nI fs) (nI sc) (nI i) (zp_bi x) (nI m) σ) l.length (fun m x => x = (List.range m).all (fun i' => decide (S 4 (i * 8 + i') = (zp_g l i').1) && decide (S 5 (i * 8 + i') = (zp_g l i').2))) (fun v x g => ?_) (fun v m x hm g ih2 => ?_) 0 true rfl (Nat.zero_le _)
                · unfold L_X11_so_79
                  rw [r1]
                  exact zp_t (nI_le (Nat.le_refl _) (by omega)) (h162 x (by rw [hisN]; exact g))
                · unfold L_X11_so_79
                  rw [r1]
                  refine zp_f (nI_ge hm (by omega)) ?_
                  cases x
                  · refine zp_t rfl (h162 false ?_)
                    rw [hisN]
                    cases y : (List.range l.length).all (fun i' => decide (S 4 (i * 8 + i') = (zp_g l i').1) && decide (S 5 (i * 8 + i') = (zp_g l i').2))
                    · rfl
                    · refine g.trans (List.all_eq_true.mpr (fun j hj => ?_))
                      exact List.all_eq_true.mp y j (List.mem_range.mpr (by have := List.mem_range.mp hj; omega))
                  · refine zp_f (by decide) ?_
                    have him : m < zp_mn S i := by show m < S 3 i; omega
                    obtain ⟨v1, v2⟩ := w.2.2.1 m him
                    obtain ⟨e1, e2, -⟩ := ok4 _ (zp_g_mem hm)
                    have hin2 : vp_in (nI (i * 8 + m)) 640 := vp_in_nI (by omega) (by decide)
                    have hinm : vp_in (nI m) 80 := vp_in_nI (by omega) (by decide)
                    have nxt : ∀ b, b = (decide (S 4 (i * 8 + m) = (zp_g l m).1) && decide (S 5 (i * 8 + m) = (zp_g l m).2)) → B_X11_so_154 Q (L_X11_so_3 Q u) (L_X11_so_79 Q (L_X11_so_3 Q u) v) (nI kd) (nI fs) (nI sc) (nI i) (nI m) (zp_bi b) σ := by
                      intro b hb
                      unfold B_X11_so_154
                      rw [nI_1]
                      refine ih2 b ?_
                      rw [zp_all_succ, ← g, Bool.true_and]
                      exact hb
                    have b103 : B_X11_so_103 Q (L_X11_so_3 Q u) (L_X11_so_79 Q (L_X11_so_3 Q u) v) (nI kd) (nI fs) (nI sc) (nI i) (nI m) σ := by
                      unfold B_X11_so_103
                      rw [zp_8m, nI_add, nI_clamp (n := i * 8 + m) (by omega), nI_clamp (n := m) (by omega), (a4 m him).1, (a4 m him).2, (r2 m hm).1, (r2 m hm).2]
                      refine ⟨hin2, hinm, ?_⟩
                      by_cases d1 : zp_ro S i m = (zp_g l m).1
                      · refine zp_nf (by rw [d1]) ⟨hin2, hinm, ?_⟩
                        by_cases d2 : zp_pt S i m = (zp_g l m).2
                        · refine zp_nf (by rw [d2]) (nxt true ?_)
                          rw [decide_eq_true (show S 4 (i * 8 + m) = _ from d1), decide_eq_true (show S 5 (i * 8 + m) = _ from d2)]; rfl
                        · refine zp_nt (fun z => d2 (zp_ninj (by omega) (by omega) z)) (nxt false ?_)
                          rw [decide_eq_false (show ¬ S 5 (i * 8 + m) = _ from d2), Bool.and_false]
                      · refine zp_nt (fun z => d1 (zp_ninj (by omega) (by omega) z)) (nxt false ?_)
                        rw [decide_eq_false (show ¬ S 4 (i * 8 + m) = _ from d1)]; rfl
                    rcases zp_rkt hrk with e | e
                    · exact zp_t (by rw [e]; rfl) b103
                    · exact zp_f (by rw [e]; decide) (zp_nf (by rw [e]; rfl) b103)
              · rw [decide_eq_false c3] at hisN
                exact zp_nt (fun z => c3 (zp_ninj (show zp_mn S i < 2 ^ 31 by omega) (by omega) z)) (fail hisN)
            rcases zp_rkt hrk with e | e
            · exact zp_t (by rw [e]; rfl) body
            · exact zp_f (by rw [e]; decide) (zp_nf (by rw [e]; rfl) body)
        · refine zp_nt (fun z => c2 (zp_ninj s2 b2 z)) (fail ?_)
          rw [hisN, decide_eq_false c2, Bool.false_and, Bool.and_false, Bool.and_false]
      · refine zp_nt (fun z => c1 (zp_ninj s1 b1 z)) (fail ?_)
        rw [hisN, decide_eq_false c1, Bool.false_and, Bool.and_false]
    · refine zp_nt (fun z => c0 (zp_ninj (show zp_kd S i < 2 ^ 31 by omega) b0 z)) (fail ?_)
      rw [hisN, decide_eq_false c0, Bool.false_and]
theorem zp_aR.noth (hc : zp_cr σ0 σ) (hw : zp_wf n S) (hN : zp_NR σ0 n S) (a : zp_aR σ0 n S zp_NOTH Q) : B_X11_so Q 7 0 0 σ := zp_soR (kd := 7) (fs := 0) (sc := 0) (l := []) hc hw hN zp_NOTH_ok (fun z => by cases z) a
theorem zp_lay {Q : zv_St → Prop} {r p : Nat} (hr : zp_rR σ l) (h8 : l.length < 8) (q : ∀ σ', zp_cr σ σ' → zp_rR σ' (l ++ [(r, p)]) → Q σ') : B_X11_lay Q (nI r) (nI p) σ := by
  obtain ⟨r0, r1, r2⟩ := hr
  unfold B_X11_lay
  rw [r1, nI_clamp (by omega)]
  refine ⟨vp_in_nI (by omega) (by decide), ?_⟩
  rintro σ1 rfl
  rw [zp_rn _ _ _ _ (by decide), r1, nI_clamp (by omega)]
  refine ⟨vp_in_nI (by omega) (by decide), ?_⟩
  rintro σ2 rfl
  rw [zp_rn _ _ _ _ (by decide), zp_rn _ _ _ _ (by decide), r1, nI_1]
  rintro σ3 rfl
  refine q _ ((zp_cr.wr (by decide)).tr ((zp_cr.wr (by decide)).tr zp_cr.w34)) ⟨by rw [zp_len1]; omega, by rw [zp_rs, zp_len1], fun i hi => ?_⟩
  rw [zp_len1] at hi
  by_cases c : i = l.length
  · subst c
    rw [zp_g_e]
    refine ⟨?_, ?_⟩
    · rw [zp_rn _ _ _ _ (by decide), zp_rn _ _ _ _ (by decide), zp_rs]
    · rw [zp_rn _ _ _ _ (by decide), zp_rs]
  · rw [zp_g_l (by omega)]
    refine ⟨?_, ?_⟩
    · rw [zp_rn _ _ _ _ (by decide), zp_rn _ _ _ _ (by decide), zp_rj _ _ c]; exact (r2 i (by omega)).1
    · rw [zp_rn _ _ _ _ (by decide), zp_rj _ _ c, zp_rn _ _ _ _ (by decide)]; exact (r2 i (by omega)).2
theorem zp_countR {r : Nat} (hr : zp_rR σ l) (h3 : ∀ e ∈ l, e.1 ≤ 3) (hr3 : r ≤ 3) (q : Q (nI (zp_c l r)) σ) : B_X11_count Q (nI r) σ := by
  obtain ⟨r0, r1, r2⟩ := hr
  refine zp_for (α := Int32) (L := fun u i c => L_X11_count_4 Q u (nI r) c (nI i) σ) l.length (fun i c => c = nI (zp_cn l r i)) (fun u c h => ?_) (fun u i c hi h ih => ?_) 0 0 rfl (Nat.zero_le _)
  · subst h
    unfold L_X11_count_4
    rw [r1]
    exact zp_t (nI_le (Nat.le_refl _) (by omega)) q
  · subst h
    unfold L_X11_count_4 B_X11_count_28
    rw [r1]
    refine zp_f (nI_ge hi (by omega)) ⟨vp_in_nI (by omega) (by decide), ?_⟩
    rw [nI_clamp (by omega), (r2 i hi).1, nI_1, nI_1, Int32.add_zero]
    have he := h3 _ (zp_g_mem hi)
    have hc : zp_cn l r (i + 1) = zp_cn l r i + (if (zp_g l i).1 = r then 1 else 0) := rfl
    by_cases c : (zp_g l i).1 = r
    · rw [if_pos c] at hc
      exact zp_nf (by rw [c]) (ih _ (by rw [hc]))
    · rw [if_neg c] at hc
      exact zp_nt (fun z => c (zp_ninj (by omega) (by omega) z)) (ih _ (by rw [hc]; rfl))
theorem zp_opens {least r p left : Nat} (hw : zp_wf n S) (hN : zp_NR σ n S) (hp : p < n) (hr3 : r ≤ 3) (hl : least ≤ 8) (hleft : left ≤ 8) (hr : zp_rR σ l) (q : Q (zp_bi (zp_opn S least r p l.length left)) σ) : B_X11_opens Q (nI least) (nI r) (nI p) (nI left) σ := by
  have hn := hw.1
  have w := hw.2 p hp
  obtain ⟨a0, a1, a2, a3, a4⟩ := hN.2 p hp
  have h8 := w.2.1
  have h7 := w.1
  have hl8 := hr.1
  have hin : vp_in (nI p) 80 := vp_in_nI (by omega) (by decide)
  have hnum := zp_num_le (S := S) (k := p) (r := 3) (zp_mn S p)
  unfold zp_opn at q
  unfold B_X11_opens
  rw [nI_clamp (by omega), a0, a3, hr.2.1, nI_add, nI_add]
  refine ⟨hin, ?_⟩
  by_cases c : zp_kd S p = 2
  · have hfs := (w.2.2.2.2.2.1 c).1
    refine zp_nf (by rw [c]; rfl) ?_
    by_cases c2 : r = 2
    · rw [decide_eq_false (fun z => z.2 c2)] at q
      exact zp_t (by rw [c2]; rfl) q
    · rw [decide_eq_true ⟨c, c2⟩, Bool.true_and] at q
      refine zp_f (fun z => c2 (zp_ninj (by omega) (by decide) z)) ⟨hin, ?_⟩
      by_cases c8 : l.length + zp_mn S p + left ≤ 8
      · rw [decide_eq_true c8, Bool.true_and] at q
        refine zp_t (nI_le (b := 8) c8 (by decide)) ?_
        refine zp_for (α := Int32) (L := fun u i x => L_X11_opens_42 Q u (nI least) (nI r) (nI p) x (nI i) σ) (zp_mn S p) (fun i x => x = nI (zp_num S p 3 i)) (fun u x h => ?_) (fun u i x hi h ih => ?_) 0 0 rfl (Nat.zero_le _)
        · subst h
          unfold L_X11_opens_42
          rw [nI_clamp (by omega), a3, a1]
          refine ⟨hin, zp_t (nI_le (Nat.le_refl _) (by omega)) ?_⟩
          by_cases c3 : r = 3
          · rw [if_pos c3] at q
            have f120 : ¬ (least < 2 ∧ zp_fs S p < 2 ∧ zp_num S p 3 (zp_mn S p) = zp_mn S p) → B_X11_opens_120 Q σ := fun z => by
              rw [decide_eq_false z] at q
              exact ⟨rfl, q⟩
            refine zp_nf (by rw [c3]; rfl) ?_
            by_cases d1 : least < 2
            · refine zp_f (nI_ge (b := 2) d1 (by decide)) ⟨hin, ?_⟩
              by_cases d2 : zp_fs S p < 2
              · refine zp_f (nI_ge (b := 2) d2 (by decide)) ⟨hin, ?_⟩
                by_cases d3 : zp_num S p 3 (zp_mn S p) = zp_mn S p
                · rw [decide_eq_true ⟨d1, d2, d3⟩] at q
                  exact zp_nf (by rw [d3]) ⟨rfl, q⟩
                · exact zp_nt (fun z => d3 (zp_ninj (by omega) (by omega) z)) (f120 (fun z => d3 z.2.2))
              · exact zp_t (nI_le (a := 2) (by omega) (by omega)) (f120 (fun z => d2 z.2.1))
            · exact zp_t (nI_le (a := 2) (by omega) (by omega)) (f120 (fun z => d1 z.1))
          · rw [if_neg c3] at q
            have f142 : ¬ (zp_fs S p = 0 ∧ zp_num S p 3 (zp_mn S p) = 0) → B_X11_opens_142 Q σ := fun z => by
              rw [decide_eq_false z] at q
              exact ⟨rfl, q⟩
            refine zp_nt (fun z => c3 (zp_ninj (by omega) (by decide) z)) ⟨hin, ?_⟩
            by_cases d1 : zp_fs S p = 0
            · refine zp_nf (by rw [d1]; rfl) ?_
              by_cases d2 : zp_num S p 3 (zp_mn S p) = 0
              · rw [decide_eq_true ⟨d1, d2⟩] at q
                exact zp_nf (by rw [d2]; rfl) ⟨rfl, q⟩
              · exact zp_nt (fun z => d2 (zp_ninj (by omega) (by decide) z)) (f142 (fun z => d2 z.2))
            · exact zp_nt (fun z => d1 (zp_ninj (by omega) (by decide) z)) (f142 (fun z => d1 z.1))
        · subst h
          unfold L_X11_opens_42 B_X11_opens_76
          rw [zp_8m, nI_add, nI_clamp (n := p) (by omega), nI_clamp (n := p * 8 + i) (by omega), a3, (a4 i hi).1, nI_1, nI_1, Int32.add_zero]
          refine ⟨hin, zp_f (nI_ge hi (by omega)) ⟨vp_in_nI (by omega) (by decide), ?_⟩⟩
          have v2 := (w.2.2.1 i hi).2
          have hc : zp_num S p 3 (i + 1) = zp_num S p 3 i + (if zp_ro S p i = 3 then 1 else 0) := rfl
          by_cases e : zp_ro S p i = 3
          · rw [if_pos e] at hc
            exact zp_nf (by rw [e]; rfl) (ih _ (by rw [hc]))
          · rw [if_neg e] at hc
            exact zp_nt (fun z => e (zp_ninj (by omega) (by decide) z)) (ih _ (by rw [hc]; rfl))
      · rw [decide_eq_false c8] at q
        exact zp_f (fun z => c8 ((nI_leI (b := 8) (by omega) (by decide)).mp z)) q
  · rw [decide_eq_false (fun z => c z.1)] at q
    exact zp_nt (fun z => c (zp_ninj (by omega) (by decide) z)) q
end SOR
