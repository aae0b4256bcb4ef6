/-! rewrite agrees. -/
theorem zp_NR.shr {σ : zv_St} {n m : Nat} {S T : zp_S} (h : zp_NR σ m T) (hn : n ≤ m) (hs : ∀ j, j < n → zp_sameN S T j) : zp_NR (zv_wi σ 45 2 (nI n)) n S := by
  refine ⟨zp_rs _ _ _ _, fun k hk => ?_⟩
  obtain ⟨a0, a1, a2, a3, a4⟩ := h.2 k (by omega)
  obtain ⟨s0, s1, s2, s3, s4⟩ := hs k hk
  rw [zp_rn _ _ _ _ (by decide), zp_rn _ _ _ _ (by decide), zp_rn _ _ _ _ (by decide), zp_rn _ _ _ _ (by decide)]
  refine ⟨a0.trans (congrArg nI s0), a1.trans (congrArg nI s1), a2.trans (congrArg nI s2), a3.trans (congrArg nI s3), fun i hi => ?_⟩
  rw [zp_rn _ _ _ _ (by decide), zp_rn _ _ _ _ (by decide)]
  have hi' : i < zp_mn T k := by show i < T 3 k; rw [s3]; exact hi
  exact ⟨(a4 i hi').1.trans (congrArg nI (s4 i hi).1), (a4 i hi').2.trans (congrArg nI (s4 i hi).2)⟩
/-- what the reference leaves behind -/
def zp_wR (σ : zv_St) (n : Nat) (σ' : zv_St) (n' : Nat) (S' : zp_S) : Prop := zp_ch [45, 48, 49, 50, 51, 52, 53, 54, 55, 61, 72, 73, 74, 75] σ σ' ∧ (∀ f, f ≠ 34 → f ≠ 2 → f ≠ 35 → σ'.1 45 f = σ.1 45 f) ∧ σ'.2 45 = σ.2 45 ∧ zp_NR σ' n' S' ∧ (∀ j, j < n → σ'.1 54 j = σ.1 54 j ∧ σ'.1 55 j = σ.1 55 j) ∧ ∀ j, n ≤ j → j < n' → σ'.1 54 j = 0 ∧ σ'.1 55 j = -1
section REWR
variable {σ : zv_St} {n k top : Nat} {S : zp_S} {sz : Nat → Nat} {Q : Int32 → zv_St → Prop}
theorem zp_markR {x2 : Int32} (hw : zp_wf n S) (hN : zp_NR σ n S) (ht : top < n) (q : ∀ σ', zp_ch [61] σ σ' → (∀ j, j ≤ top → σ'.1 61 j = zp_bi (zp_U S top j)) → ∃ u, L_X11_rewrite_111 Q u (nI top) x2 0 σ') : ∃ u, L_X11_rewrite_23 Q u (nI top) x2 0 σ := by
  have hn := hw.1
  have hNc : ∀ σ', zp_ch [61] σ σ' → zp_NR σ' n S := fun σ' c => hN.ch c (by decide) (by rw [(c 45 (by decide)).1])
  refine zp_for (L := fun u i σ' => L_X11_rewrite_23 Q u (nI top) x2 (nI i) σ') (top + 1) (fun i σ' => zp_ch [61] σ σ' ∧ ∀ j, j < i → σ'.1 61 j = zp_bi (decide (j = top))) (fun u σ1 h => ?_) (fun u i σ1 hi h ih => ?_) 0 σ ⟨zp_ch.rf, fun j hj => by omega⟩ (Nat.zero_le _)
  · refine zp_t (nI_lt (by omega) (by omega)) ?_
    refine ⟨top + 1 + 1, zp_iter (L := fun u (a : Int32 × zv_St) => L_X11_rewrite_52 Q u (nI top) x2 a.1 a.2) (fun m a => (a.1 = if m = 0 then -1 else nI (m - 1)) ∧ m ≤ top + 1 ∧ zp_ch [61] σ a.2 ∧ ∃ b, zp_ud S m b = zp_U S top ∧ ∀ j, j ≤ top → a.2.1 61 j = zp_bi (b j)) ?_ (top + 1) (nI top, σ1) ⟨by rw [if_neg (by omega), Nat.add_sub_cancel], Nat.le_refl _, h.1, fun j => decide (j = top), rfl, fun j hj => h.2 j (by omega)⟩⟩
    rintro m u2 ⟨x, σ3⟩ ⟨g1, g2, g3, b, g4, g5⟩ ih2
    simp only at g1 g2 g3 g5
    subst g1
    show L_X11_rewrite_52 Q (u2 + 1) (nI top) x2 (if m = 0 then -1 else nI (m - 1)) σ3
    by_cases c0 : m = 0
    · subst c0
      rw [if_pos rfl]
      refine zp_t (by decide) (q σ3 g3 (fun j hj => ?_))
      rw [g5 j hj, ← g4]; rfl
    · obtain ⟨p, rfl⟩ : ∃ p, m = p + 1 := ⟨m - 1, by omega⟩
      rw [if_neg c0, Nat.add_sub_cancel]
      refine zp_f (zp_nneg (by omega)) ?_
      have w := hw.2 p (by omega)
      have h8 := w.2.1
      have done : ∀ σ4 b', zp_ch [61] σ σ4 → zp_ud S p b' = zp_U S top → (∀ j, j ≤ top → σ4.1 61 j = zp_bi (b' j)) → B_X11_rewrite_103 Q (L_X11_rewrite_52 Q u2) (nI top) x2 (nI p) σ4 := by
        intro σ4 b' y1 y2 y3
        unfold B_X11_rewrite_103
        refine ih2 (nI p + (-1), σ4) (by omega) ⟨?_, by show p + 1 - 1 ≤ _; omega, y1, b', y2, y3⟩
        show nI p + (-1) = if p + 1 - 1 = 0 then -1 else nI (p + 1 - 1 - 1)
        rw [Nat.add_sub_cancel]
        by_cases cp : p = 0
        · subst cp; rfl
        · rw [if_neg cp]; exact zp_p1 (by omega)
      have hinp : vp_in (nI p) 80 := vp_in_nI (by omega) (by decide)
      refine zp_for (L := fun u i σ' => L_X11_rewrite_59 Q (L_X11_rewrite_52 Q u2) u (nI top) x2 (nI p) (nI i) σ') (zp_mn S p) (fun i σ' => zp_ch [61] σ σ' ∧ ∀ j, j ≤ top → σ'.1 61 j = zp_bi (b j || (b p && (List.range i).any (fun i => decide (zp_pt S p i = j))))) (fun v σ4 y => ?_) (fun v i σ4 hi y ih3 => ?_) 0 σ3 ⟨g3, fun j hj => by rw [g5 j hj]; show _ = zp_bi (b j || (b p && false)); rw [Bool.and_false, Bool.or_false]⟩ (Nat.zero_le _)
      · obtain ⟨-, -, -, a3, -⟩ := (hNc σ4 y.1).2 p (by omega)
        have fin := done σ4 (zp_us S p b) y.1 g4 y.2
        unfold L_X11_rewrite_59
        rw [nI_clamp (by omega), a3]
        exact ⟨hinp, zp_t (nI_le (Nat.le_refl _) (by omega)) fin⟩
      · obtain ⟨-, -, -, a3, a4⟩ := (hNc σ4 y.1).2 p (by omega)
        obtain ⟨v1, v2⟩ := w.2.2.1 i hi
        have own : σ4.1 61 p = zp_bi (b p) := by
          rw [y.2 p (by omega)]
          cases b p <;> rfl
        unfold L_X11_rewrite_59
        rw [zp_8m, nI_add, nI_1, nI_clamp (n := p) (by omega), nI_clamp (n := p * 8 + i) (by omega), a3, (a4 i hi).2, own, nI_clamp (n := zp_pt S p i) (by omega)]
        refine ⟨hinp, zp_f (nI_ge hi (by omega)) ⟨hinp, ?_⟩⟩
        cases cb : b p
        · refine zp_t rfl (done σ4 (zp_us S p b) y.1 g4 (fun j hj => ?_))
          rw [y.2 j hj]
          show _ = zp_bi (b j || (b p && _))
          rw [cb]; rfl
        · refine zp_f (by decide) ⟨vp_in_nI (by omega) (by decide), vp_in_nI (by omega) (by decide), ?_⟩
          rintro σ5 rfl
          refine ih3 _ ⟨y.1.tr (zp_ch.wi (by decide)), fun j hj => ?_⟩
          rw [zp_any_succ]
          by_cases cj : j = zp_pt S p i
          · rw [cj, zp_rs, decide_eq_true rfl, cb, Bool.or_true, Bool.true_and, Bool.or_true]; rfl
          · rw [zp_rj _ _ cj, y.2 j hj, decide_eq_false (fun z => cj z.symm), Bool.or_false]
  · have fin : ∀ c : Bool, c = decide (i = top) → B_X11_rewrite_43 Q (L_X11_rewrite_23 Q u) (nI top) x2 (nI i) (nI i) (zp_bi c) σ1 := by
      intro c hc
      refine ⟨vp_in_nI (by omega) (by decide), ?_⟩
      rw [nI_clamp (by omega), nI_1, zp_narb]
      rintro σ2 rfl
      refine ih _ ⟨h.1.tr (zp_ch.wi (by decide)), fun j hj => ?_⟩
      by_cases cj : j = i
      · subst cj; rw [zp_rs, hc]
      · rw [zp_rj _ _ cj]; exact h.2 j (by omega)
    refine zp_f (nI_nlt (by omega) (by omega)) ?_
    by_cases c : i = top
    · exact zp_nf (by rw [c]) (fin true (decide_eq_true c).symm)
    · exact zp_nt (fun z => c (zp_ninj (by omega) (by omega) z)) (fin false (decide_eq_false c).symm)
theorem zp_rewriteR (hw : zp_wf n S) (hN : zp_NR σ n S) (hz : ∀ l, l < 16 → σ.1 47 l = nI (sz l) ∧ sz l ≤ 60) (ht : top < n) (qs : ∀ n' S' A', zp_rws sz (zp_U S top) n S (top + 1) = some (n', S', A') → ∀ σ', zp_wR σ n σ' n' S' → Q (nI (A' top)) σ') (qf : zp_rws sz (zp_U S top) n S (top + 1) = none → ∀ σ', zp_wR σ n σ' n S → Q (-3) σ') : B_X11_rewrite Q (nI top) σ := by
  have hn := hw.1
  have hw1 : ∀ k, k < top + 1 → zp_wf1 S k := fun k hk => hw.2 k (by omega)
  have hU : ∀ k, k ≤ top → zp_U S top k = true → ∀ i, i < zp_mn S k → zp_U S top (zp_pt S k i) = true := fun k hk => zp_ud_cl (top + 1) hw1 _ k (by omega)
  have hUt : zp_U S top top = true := zp_ud_mono _ _ _ (decide_eq_true rfl)
  have rok := zp_rws_ok (sz := sz) hw ht hU
  refine zp_isNode_t hN.1 hn ht (zp_nt (by decide) ?_)
  rintro σ0 rfl
  rw [hN.1]
  have hN0 : zp_NR (zv_wi σ 45 35 0) n S := hN.ch (zs := [45]) (zp_ch.wi (by decide)) (by decide) (zp_rj _ _ (by decide))
  refine zp_markR hw hN0 ht (fun σ1 c1 m1 => ?_)
  have start : zp_wR σ n σ1 n S := by
    refine ⟨(zp_ch.wi (by decide)).tr (c1.mono (by decide)), fun f _ _ f3 => ?_, ?_, hN0.ch c1 (by decide) (by rw [(c1 45 (by decide)).1]), fun j _ => ?_, fun j h1 h2 => by omega⟩
    · rw [(c1 45 (by decide)).1, zp_rj _ _ f3]
    · rw [(c1 45 (by decide)).2]; rfl
    · rw [(c1 54 (by decide)).1, (c1 55 (by decide)).1, zp_rn _ _ _ _ (by decide), zp_rn _ _ _ _ (by decide)]
      exact ⟨rfl, rfl⟩
  have full185 : ∀ σ2 m T, zp_rws sz (zp_U S top) n S (top + 1) = none → zp_wR σ n σ2 m T → n ≤ m → (∀ j, j < n → zp_sameN S T j) → ¬ σ2.1 45 35 = 0 → B_X11_rewrite_185 Q (nI top) (nI n) σ2 := by
    intro σ2 m T e1 e2 e3 e4 e5
    refine zp_f e5 ?_
    rintro σ3 rfl
    obtain ⟨w1, w2, w3, w4, w5, w6⟩ := e2
    refine qf e1 _ ⟨w1.tr (zp_ch.wi (by decide)), fun f f1 f2 f3 => ?_, ?_, w4.shr e3 e4, fun j hj => ?_, fun j h1 h2 => by omega⟩
    · rw [zp_rj _ _ f2]; exact w2 f f1 f2 f3
    · rw [zp_ri2]; exact w3
    · rw [zp_rn _ _ _ _ (by decide), zp_rn _ _ _ _ (by decide)]; exact w5 j hj
  refine zp_for (L := fun u i σ' => L_X11_rewrite_111 Q u (nI top) (nI n) (nI i) σ') (top + 1) (fun i σ' => (∃ m T A, zp_rws sz (zp_U S top) n S i = some (m, T, A) ∧ zp_wR σ n σ' m T ∧ σ'.1 45 35 = 0 ∧ σ'.1 61 = σ1.1 61 ∧ ∀ j, j < i → zp_U S top j = true → σ'.1 72 j = nI (A j)) ∨ (zp_rws sz (zp_U S top) n S (top + 1) = none ∧ ∃ m T, zp_wR σ n σ' m T ∧ n ≤ m ∧ (∀ j, j < n → zp_sameN S T j) ∧ ¬ σ'.1 45 35 = 0)) (fun u σ2 h => ?_) (fun u i σ2 hi h ih => ?_) 0 σ1 (Or.inl ⟨n, S, _, rfl, start, by rw [(c1 45 (by decide)).1, zp_rs], rfl, fun j hj => by omega⟩) (Nat.zero_le _)
  · refine zp_t (nI_lt (by omega) (by omega)) ?_
    rcases h with ⟨m, T, A, g1, g2, g3, g4, g5⟩ | ⟨g1, m, T, g2, g3, g4, g5⟩
    · refine zp_t g3 ⟨vp_in_nI (by omega) (by decide), ?_⟩
      rw [nI_clamp (by omega), g5 top (by omega) hUt]
      exact qs m T A g1 σ2 g2
    · exact full185 σ2 m T g1 g2 g3 g4 g5
  · refine zp_f (nI_nlt (by omega) (by omega)) ?_
    rcases h with ⟨m, T, A, g1, g2, g3, g4, g5⟩ | ⟨g1, m, T, g2, g3, g4, g5⟩
    · obtain ⟨k1, k2, k3, k4⟩ := rok i (by omega) m T A g1
      have hm := k2.1
      obtain ⟨s0, s1, s2, s3, s4⟩ := k3 i (by omega)
      obtain ⟨w1, w2, w3, w4, w5, w6⟩ := g2
      have hr : zp_rws sz (zp_U S top) n S (i + 1) = (if zp_U S top i = true then (match zp_do m T (zp_rq sz A T i) with
        | none => none
        | some (r, m', T') => some (m', T', fun j => if j = i then r else A j)) else some (m, T, A)) := by
        show (match zp_rws sz (zp_U S top) n S i with
          | none => none
          | some (m, T, A) => if zp_U S top i = true then (match zp_do m T (zp_rq sz A T i) with
            | none => none
            | some (r, m', T') => some (m', T', fun j => if j = i then r else A j)) else some (m, T, A)) = _
        rw [g1]
      have hin : vp_in (nI i) 80 := vp_in_nI (by omega) (by decide)
      obtain ⟨a0, -, -, -, -⟩ := w4.2 i (by omega)
      refine zp_nf g3 ⟨hin, ?_⟩
      rw [nI_clamp (by omega), g4, m1 i (by omega), a0]
      cases cu : zp_U S top i
      · rw [cu, if_neg (by decide)] at hr
        refine zp_t rfl ?_
        unfold B_X11_rewrite_179
        rw [nI_1]
        refine ih σ2 (Or.inl ⟨m, T, A, hr, ⟨w1, w2, w3, w4, w5, w6⟩, g3, g4, fun j hj hu => g5 j ?_ hu⟩)
        have : j ≠ i := fun z => by subst z; rw [cu] at hu; cases hu
        omega
      · rw [cu, if_pos rfl] at hr
        have hA : ∀ i', i' < zp_mn T i → σ2.1 72 (zp_pt T i i') = nI (A (zp_pt T i i')) ∧ A (zp_pt T i i') < m := by
          intro i' hi'
          have hi2 : i' < zp_mn S i := by show i' < S 3 i; rw [← s3]; exact hi'
          have hp : zp_pt T i i' = zp_pt S i i' := (s4 i' hi2).2
          rw [hp]
          have hlt := ((hw.2 i (by omega)).2.2.1 i' hi2).1
          have hu := hU i (by omega) cu i' hi2
          exact ⟨g5 _ hlt hu, k4 _ hlt hu⟩
        have hz2 : ∀ l, l < 16 → σ2.1 47 l = nI (sz l) ∧ sz l ≤ 60 := fun l hl => by rw [(w1 47 (by decide)).1]; exact hz l hl
        have hok := zp_rq_ok (sz := sz) k2 (show i < m by omega) (fun i' hi' => (hA i' hi').2)
        have ans : zp_aR σ2 m T (zp_rq sz A T i) (fun r_2 σ_1 => B_X11_rewrite_178 Q (L_X11_rewrite_111 Q u) (nI top) (nI n) (nI i) (nI i) r_2 σ_1) := by
          refine ⟨fun r m' T' d σ3 md => ?_, fun d σ3 c3 => ?_⟩
          · rw [d] at hr
            have hr : zp_rws sz (zp_U S top) n S (i + 1) = some (m', T', fun j => if j = i then r else A j) := hr
            obtain ⟨d1, d2, d3, d4, d5, d6⟩ := md
            obtain ⟨e1, e2, e3, e4⟩ := zp_do_ok k2 hok d
            refine ⟨hin, ?_⟩
            rw [nI_clamp (by omega)]
            rintro σ4 rfl
            unfold B_X11_rewrite_179
            rw [nI_1]
            have c72 : zp_ch [72] σ3 (zv_wi σ3 72 i (nI r)) := zp_ch.wi (by decide)
            refine ih _ (Or.inl ⟨m', T', _, hr, ⟨(w1.tr (d1.mono (by decide))).tr (zp_ch.wi (by decide)), fun f f1 f2 f3 => ?_, ?_, d4.ch c72 (by decide) (by rw [(c72 45 (by decide)).1]), fun j hj => ?_, fun j h1 h2 => ?_⟩, ?_, ?_, fun j hj hu => ?_⟩)
            · rw [zp_rn _ _ _ _ (by decide), d2 f f1 f2]; exact w2 f f1 f2 f3
            · rw [zp_ri2, d3]; exact w3
            · rw [zp_rn _ _ _ _ (by decide), zp_rn _ _ _ _ (by decide), (d5 j (by omega)).1, (d5 j (by omega)).2]; exact w5 j hj
            · rw [zp_rn _ _ _ _ (by decide), zp_rn _ _ _ _ (by decide)]
              by_cases c : j < m
              · rw [(d5 j c).1, (d5 j c).2]; exact w6 j h1 c
              · exact d6 j (by omega) h2
            · rw [zp_rn _ _ _ _ (by decide), d2 35 (by decide) (by decide)]; exact g3
            · rw [zv_wi_n _ _ _ (by decide), (d1 61 (by decide)).1, g4]
            · show _ = nI (if j = i then r else A j)
              by_cases cj : j = i
              · rw [cj, zp_rs, if_pos rfl]
              · rw [zp_rj _ _ cj, if_neg cj, (d1 72 (by decide)).1]
                exact g5 j (by omega) hu
          · rw [d] at hr
            have hr : zp_rws sz (zp_U S top) n S (i + 1) = none := hr
            have hend := zp_rws_none hr (top - i)
            rw [show i + 1 + (top - i) = top + 1 by omega] at hend
            refine ⟨hin, ?_⟩
            rw [nI_clamp (by omega)]
            rintro σ4 rfl
            unfold B_X11_rewrite_179
            rw [nI_1]
            have c72 : zp_ch [72] (zv_wi σ3 45 35 1) (zv_wi (zv_wi σ3 45 35 1) 72 i 0) := zp_ch.wi (by decide)
            have c45 : zp_ch [45] σ3 (zv_wi σ3 45 35 1) := zp_ch.wi (by decide)
            have n3 : zp_NR (zv_wi (zv_wi σ3 45 35 1) 72 i 0) m T := ((w4.cr c3).ch c45 (by decide) (zp_rj _ _ (by decide))).ch c72 (by decide) (by rw [(c72 45 (by decide)).1])
            refine ih _ (Or.inr ⟨hend, m, T, ⟨((w1.tr (c3.1.mono (by decide))).tr (c45.mono (by decide))).tr (c72.mono (by decide)), fun f f1 f2 f3 => ?_, ?_, n3, fun j hj => ?_, fun j h1 h2 => ?_⟩, k1, k3, ?_⟩)
            · rw [zp_rn _ _ _ _ (by decide), zp_rj _ _ f3, c3.2.1 f f1]; exact w2 f f1 f2 f3
            · rw [zp_ri2, zp_ri2, c3.2.2]; exact w3
            · rw [zp_rn _ _ _ _ (by decide), zp_rn _ _ _ _ (by decide), zp_rn _ _ _ _ (by decide), zp_rn _ _ _ _ (by decide), (c3.1 54 (by decide)).1, (c3.1 55 (by decide)).1]; exact w5 j hj
            · rw [zp_rn _ _ _ _ (by decide), zp_rn _ _ _ _ (by decide), zp_rn _ _ _ _ (by decide), zp_rn _ _ _ _ (by decide), (c3.1 54 (by decide)).1, (c3.1 55 (by decide)).1]; exact w6 j h1 h2
            · rw [zp_rn _ _ _ _ (by decide), zp_rs]; decide
        have h7 := (k2.2 i (by omega)).1
        refine zp_f (by decide) ⟨hin, ?_⟩
        by_cases c2 : zp_kd T i = 2
        · refine zp_nf (by rw [c2]; rfl) ?_
          refine zp_newBool k2 w4 (by omega) c2 hA ?_
          unfold zp_rq at ans
          rw [c2] at ans
          exact ans
        · refine zp_nt (fun z => c2 (zp_ninj (by omega) (by decide) z)) ⟨hin, ?_⟩
          by_cases c3 : zp_kd T i = 3
          · refine zp_nf (by rw [c3]; rfl) ?_
            refine zp_newBestR k2 w4 (by omega) c3 hA ?_
            unfold zp_rq at ans
            rw [c3] at ans
            exact ans
          · refine zp_nt (fun z => c3 (zp_ninj (by omega) (by decide) z)) ?_
            exact zp_newOther (sz := sz) k2 w4 hz2 (by omega) c2 c3 hA ans
    · exact zp_nt g5 (full185 σ2 m T g1 g2 g3 g4 g5)
end REWR
/-- more NODES on both sides, all else as it was -/
theorem zp_J_more {σ σ' : zv_St} {n n' : Nat} {E : zp_E} {S' : zp_S} (h : zp_J σ n E) (hnn : n ≤ n') (hw' : zp_wf n' S') (hs : ∀ k, k < n → zp_sameN E.1 S' k) (hc : zp_ch [5, 6, 7, 8, 9, 10, 11, 12, 40, 41, 42, 43, 44, 45, 48, 49, 50, 51, 52, 53, 54, 55, 61, 72, 73, 74, 75] σ σ') (h2 : σ'.2 45 = σ.2 45) (hN : zp_NC σ' n' S') (hM : zp_NR σ' n' S') (e9 : ∀ j, j < n → σ'.1 9 j = σ.1 9 j) (f9 : ∀ j, n ≤ j → j < n' → σ'.1 9 j = 0) (e5 : ∀ j, j < n → σ'.1 54 j = σ.1 54 j ∧ σ'.1 55 j = σ.1 55 j) (f5 : ∀ j, n ≤ j → j < n' → σ'.1 54 j = 0 ∧ σ'.1 55 j = -1) (e45 : ∀ f, f ≠ 34 → f ≠ 2 → f ≠ 35 → σ'.1 45 f = σ.1 45 f) : zp_J σ' n' (S', E.2.1, E.2.2.1, fun k => if k < n then E.2.2.2 k else none) := by
  obtain ⟨hw, -, -, hLW, hLR, hLC, hKW, hKR, hKC, hBC, hFI, hIT, hAS⟩ := h
  have hn' := hw'.1
  refine ⟨hw', hN, hM, hLW, hLR.ch hc (by decide), hLC.ch hc (by decide), ?_, ?_, ?_, ?_, hFI.ch hc (by decide) (e45 30 (by decide) (by decide) (by decide)) (by rw [h2]), ?_, ?_⟩
  · intro k hk hne
    have hne : (if k < n then E.2.2.2 k else none) ≠ none := hne
    by_cases e : k < n
    · rw [if_pos e] at hne
      have := hKW k e hne
      show S' 0 k = 6
      rw [(hs k e).1]
      exact this
    · rw [if_neg e] at hne
      exact absurd rfl hne
  · intro k hk
    show match (if k < n then E.2.2.2 k else none) with | none => _ | some q => _
    by_cases e : k < n
    · have := hKR k e
      rw [if_pos e, (e5 k e).2, (hc 56 (by decide)).1]
      exact this
    · rw [if_neg e]
      exact (f5 k (by omega) hk).2
  · refine ⟨fun k hk => ?_, fun k h1 h3 => ?_⟩
    · show match (if k < n then E.2.2.2 k else none) with | none => _ | some q => _
      by_cases e : k < n
      · have := hKC.1 k e
        rw [if_pos e, (hc 16 (by decide)).1, (hc 17 (by decide)).1, (hc 15 (by decide)).2]
        exact this
      · rw [if_neg e]
        show σ'.1 16 k = 0
        rw [(hc 16 (by decide)).1]
        exact hKC.2 k (by omega) (by omega)
    · rw [(hc 16 (by decide)).1]
      exact hKC.2 k (by omega) h3
  · refine (zp_BC.same (E' := (S', E.2.1, E.2.2.1, fun k => if k < n then E.2.2.2 k else none)) hw.2 hBC ⟨fun k hk => ⟨hs k hk, ?_⟩, fun _ _ => rfl, fun _ => rfl⟩ hnn).ch hc (by decide)
    show (if k < n then E.2.2.2 k else none) = _
    rw [if_pos hk]
  · intro i hi
    rcases hIT.ch hc (by decide) i hi with q | ⟨q1, k, q2, q3⟩
    · exact Or.inl q
    · exact Or.inr ⟨q1, k, by omega, q3⟩
  · refine ⟨fun k hk => ?_, ?_⟩
    · by_cases e : k < n
      · rw [e9 k e, (e5 k e).1]; exact hAS.1 k e
      · rw [f9 k (by omega) hk, (f5 k (by omega) hk).1]
    · rw [e45 10 (by decide) (by decide) (by decide), hAS.2]
      have : ∀ m, n + m ≤ n' → zp_asum (σ'.1 9) (n + m) = zp_asum (σ.1 9) n := by
        intro m
        induction m with
        | zero => intro _; exact zp_asum_congr (fun i hi => e9 i hi)
        | succ m ih =>
          intro hm
          show zp_asum (σ'.1 9) (n + m) + σ'.1 9 (n + m) = _
          rw [f9 (n + m) (by omega) (by omega), Int32.add_zero]
          exact ih (by omega)
      have := this (n' - n) (by omega)
      rw [show n + (n' - n) = n' by omega] at this
      exact this.symm
theorem zp_step_rewrite {σ : zv_St} (h : zp_Inv σ) (a : Int32) (R : Int32 → zv_St → Prop) (hR : ∀ r σ1, (∀ K : Int32 → zv_St → Prop, (∀ σ2, zp_Inv σ2 → K r σ2) → B_X11_rewrite K a σ1) → R r σ1) : B_X10_rewrite R a σ := by
  have h1 := h
  obtain ⟨n, E, hJ⟩ := h1
  have hJ' := hJ
  obtain ⟨hw, hN, hM, hLW, hLR, hLC, -⟩ := hJ'
  have hn := hw.1
  rcases zp_nodeq a hn with ⟨top, ht, rfl⟩ | ho
  · have hz : ∀ l, l < 16 → σ.1 4 l = nI (E.2.2.1 l) ∧ E.2.2.1 l ≤ 60 := fun l hl => ⟨(hLC l hl).1, (hLW l hl).1⟩
    have hw1 : ∀ k, k < top + 1 → zp_wf1 E.1 k := fun k hk => hw.2 k (by omega)
    have hU : ∀ k, k ≤ top → zp_U E.1 top k = true → ∀ i, i < zp_mn E.1 k → zp_U E.1 top (zp_pt E.1 k i) = true := fun k hk => zp_ud_cl (top + 1) hw1 _ k (by omega)
    have fin : ∀ σ1 σ2 n' S', zp_wC σ n σ1 n' S' → zp_wR σ1 n σ2 n' S' → n ≤ n' → zp_wf n' S' → (∀ k, k < n → zp_sameN E.1 S' k) → zp_Inv σ2 := by
      intro σ1 σ2 n' S' w1 w2 i1 i2 i3
      obtain ⟨b1, b2, b3, b4⟩ := w1
      obtain ⟨d1, d2, d3, d4, d5, d6⟩ := w2
      refine ⟨n', _, zp_J_more hJ i1 i2 i3 ((b1.mono (by decide)).tr (d1.mono (by decide))) (by rw [d3, (b1 45 (by decide)).2]) (b2.ch d1 (by decide)) d4 (fun j hj => ?_) (fun j y1 y2 => ?_) (fun j hj => ?_) d6 (fun f f1 f2 f3 => ?_)⟩
      · rw [(d1 9 (by decide)).1]; exact b3 j hj
      · rw [(d1 9 (by decide)).1]; exact b4 j y1 y2
      · rw [(d5 j hj).1, (d5 j hj).2, (b1 54 (by decide)).1, (b1 55 (by decide)).1]
        exact ⟨rfl, rfl⟩
      · rw [d2 f f1 f2 f3, (b1 45 (by decide)).1]
    refine zp_has_t hN.1 hn ht (zp_nt (by decide) ?_)
    refine zp_writeAnew (sz := E.2.2.1) hw hN hz ht (fun n' S' A' e σ1 w1 => hR _ σ1 (fun K hK => ?_)) (fun e σ1 w1 => hR _ σ1 (fun K hK => ?_))
    · have hM1 : zp_NR σ1 n E.1 := hM.ch w1.1 (by decide) (by rw [(w1.1 45 (by decide)).1])
      have hz1 : ∀ l, l < 16 → σ1.1 47 l = nI (E.2.2.1 l) ∧ E.2.2.1 l ≤ 60 := fun l hl => ⟨by rw [(w1.1 47 (by decide)).1]; exact (hLR l hl).1, (hLW l hl).1⟩
      refine zp_rewriteR (sz := E.2.2.1) hw hM1 hz1 ht (fun n2 S2 A2 e2 σ2 w2 => ?_) (fun e2 => by rw [e] at e2; cases e2)
      rw [e] at e2
      injection e2 with e2
      injection e2 with y1 e2
      injection e2 with y2 y3
      subst y1; subst y2; subst y3
      obtain ⟨i1, i2, i3, -⟩ := zp_rws_ok (sz := E.2.2.1) hw ht hU _ (Nat.le_refl _) _ _ _ e
      exact hK σ2 (fin σ1 σ2 n' S' w1 w2 i1 i2 i3)
    · have hM1 : zp_NR σ1 n E.1 := hM.ch w1.1 (by decide) (by rw [(w1.1 45 (by decide)).1])
      have hz1 : ∀ l, l < 16 → σ1.1 47 l = nI (E.2.2.1 l) ∧ E.2.2.1 l ≤ 60 := fun l hl => ⟨by rw [(w1.1 47 (by decide)).1]; exact (hLR l hl).1, (hLW l hl).1⟩
      refine zp_rewriteR (sz := E.2.2.1) hw hM1 hz1 ht (fun n2 S2 A2 e2 => by rw [e] at e2; cases e2) (fun e2 σ2 w2 => ?_)
      exact hK σ2 (fin σ1 σ2 n E.1 w1 w2 (Nat.le_refl _) hw (fun k _ => zp_sameN.rf))
  · refine zp_has_f hN.1 ho (zp_nf rfl (hR _ σ (fun K hK => ?_)))
    exact zp_isNode_f hM.1 hn ho (zp_nf rfl (hK σ h))
