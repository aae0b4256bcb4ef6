/-! The component writes anew. -/
/-- marks: what NODE m, once marked, marks; and all below m -/
def zp_us (S : zp_S) (m : Nat) (b : Nat → Bool) : Nat → Bool := fun j => b j || (b m && (List.range (zp_mn S m)).any (fun i => decide (zp_pt S m i = j)))
def zp_ud (S : zp_S) : Nat → (Nat → Bool) → (Nat → Bool)
  | 0, b => b
  | m + 1, b => zp_ud S m (zp_us S m b)
abbrev zp_U (S : zp_S) (top : Nat) : Nat → Bool := zp_ud S (top + 1) (fun j => decide (j = top))
def zp_rws (sz : Nat → Nat) (U : Nat → Bool) (n : Nat) (S : zp_S) : Nat → Option (Nat × zp_S × (Nat → Nat))
  | 0 => some (n, S, fun _ => 0)
  | k + 1 => match zp_rws sz U n S k with
    | none => none
    | some (m, T, A) => if U k = true then (match zp_do m T (zp_rq sz A T k) with
      | none => none
      | some (r, m', T') => some (m', T', fun j => if j = k then r else A j)) else some (m, T, A)
theorem zp_ud_mono {S : zp_S} : ∀ m b j, b j = true → zp_ud S m b j = true := by
  intro m
  induction m with
  | zero => intro b j h; exact h
  | succ m ih =>
    intro b j h
    refine ih _ j ?_
    show (b j || _) = true
    rw [h]; rfl
theorem zp_ud_ge {S : zp_S} : ∀ m, (∀ k, k < m → zp_wf1 S k) → ∀ b j, m ≤ j → zp_ud S m b j = b j := by
  intro m
  induction m with
  | zero => intro _ b j _; rfl
  | succ m ih =>
    intro hw b j hj
    show zp_ud S m (zp_us S m b) j = b j
    rw [ih (fun k hk => hw k (by omega)) _ j (by omega)]
    show (b j || (b m && (List.range (zp_mn S m)).any (fun i => decide (zp_pt S m i = j)))) = b j
    have : (List.range (zp_mn S m)).any (fun i => decide (zp_pt S m i = j)) = false := by
      cases c : (List.range (zp_mn S m)).any (fun i => decide (zp_pt S m i = j))
      · rfl
      · obtain ⟨i, hi, h⟩ := List.any_eq_true.mp c
        have := ((hw m (by omega)).2.2.1 i (List.mem_range.mp hi)).1
        have := of_decide_eq_true h
        omega
    rw [this, Bool.and_false, Bool.or_false]
theorem zp_ud_cl {S : zp_S} : ∀ m, (∀ k, k < m → zp_wf1 S k) → ∀ b k, k < m → zp_ud S m b k = true → ∀ i, i < zp_mn S k → zp_ud S m b (zp_pt S k i) = true := by
  intro m
  induction m with
  | zero => intro _ b k hk; omega
  | succ m ih =>
    intro hw b k hk h i hi
    have hw' : ∀ k, k < m → zp_wf1 S k := fun k hk => hw k (by omega)
    by_cases c : k = m
    · subst c
      have h : zp_ud S k (zp_us S k b) k = true := h
      rw [zp_ud_ge k hw' _ k (Nat.le_refl _)] at h
      have hb : b k = true := by
        cases d : b k
        · have h : (b k || (b k && (List.range (zp_mn S k)).any (fun i => decide (zp_pt S k i = k)))) = true := h
          rw [d] at h; cases h
        · rfl
      refine zp_ud_mono k _ _ ?_
      show (b (zp_pt S k i) || (b k && (List.range (zp_mn S k)).any (fun i' => decide (zp_pt S k i' = zp_pt S k i)))) = true
      rw [hb, List.any_eq_true.mpr ⟨i, List.mem_range.mpr hi, decide_eq_true rfl⟩, Bool.true_and, Bool.or_true]
    · exact ih hw' _ k (by omega) h i hi
theorem zp_rws_ok {sz : Nat → Nat} {U : Nat → Bool} {n top : Nat} {S : zp_S} (hw : zp_wf n S) (ht : top < n) (hU : ∀ k, k ≤ top → U k = true → ∀ i, i < zp_mn S k → U (zp_pt S k i) = true) : ∀ k, k ≤ top + 1 → ∀ m T A, zp_rws sz U n S k = some (m, T, A) → n ≤ m ∧ zp_wf m T ∧ (∀ j, j < n → zp_sameN S T j) ∧ ∀ j, j < k → U j = true → A j < m := by
  intro k
  induction k with
  | zero =>
    intro _ m T A h
    injection h with h
    injection h with h1 h
    injection h with h2 h3
    subst h1; subst h2
    exact ⟨Nat.le_refl _, hw, fun _ _ => zp_sameN.rf, fun j hj => by omega⟩
  | succ k ih =>
    intro hk m T A h
    have h : (match zp_rws sz U n S k with
    | none => none
    | some (m, T, A) => if U k = true then (match zp_do m T (zp_rq sz A T k) with
      | none => none
      | some (r, m', T') => some (m', T', fun j => if j = k then r else A j)) else some (m, T, A)) = some (m, T, A) := h
    cases c : zp_rws sz U n S k with
    | none => rw [c] at h; cases h
    | some x =>
      obtain ⟨m0, T0, A0⟩ := x
      rw [c] at h
      have h : (if U k = true then (match zp_do m0 T0 (zp_rq sz A0 T0 k) with
        | none => none
        | some (r, m', T') => some (m', T', fun j => if j = k then r else A0 j)) else some (m0, T0, A0)) = some (m, T, A) := h
      obtain ⟨i1, i2, i3, i4⟩ := ih (by omega) m0 T0 A0 c
      by_cases cu : U k = true
      · rw [if_pos cu] at h
        obtain ⟨s0, s1, s2, s3, s4⟩ := i3 k (by omega)
        have hA : ∀ i, i < zp_mn T0 k → A0 (zp_pt T0 k i) < m0 := by
          intro i hi
          have hi' : i < zp_mn S k := by have := hi; show i < S 3 k; rw [← s3]; exact hi
          have hp : zp_pt T0 k i = zp_pt S k i := (s4 i hi').2
          rw [hp]
          exact i4 _ ((hw.2 k (by omega)).2.2.1 i hi').1 (hU k (by omega) cu i hi')
        have hok := zp_rq_ok (sz := sz) i2 (by omega) hA
        cases d : zp_do m0 T0 (zp_rq sz A0 T0 k) with
        | none => rw [d] at h; cases h
        | some y =>
          obtain ⟨r, m', T'⟩ := y
          rw [d] at h
          have h : some (m', T', fun j => if j = k then r else A0 j) = some (m, T, A) := h
          injection h with h
          injection h with h1 h
          injection h with h2 h3
          subst h1; subst h2; subst h3
          obtain ⟨e1, e2, e3, e4⟩ := zp_do_ok i2 hok d
          refine ⟨by omega, e3, fun j hj => (i3 j hj).tr (e4 j (by omega)), fun j hj hu => ?_⟩
          show (if j = k then r else A0 j) < m'
          by_cases cj : j = k
          · rw [if_pos cj]; exact e1
          · rw [if_neg cj]; have := i4 j (by omega) hu; omega
      · rw [if_neg cu] at h
        injection h with h
        injection h with h1 h
        injection h with h2 h3
        subst h1; subst h2; subst h3
        refine ⟨i1, i2, i3, fun j hj hu => i4 j ?_ hu⟩
        have : j ≠ k := fun z => cu (z ▸ hu)
        omega
theorem zp_rws_none {sz : Nat → Nat} {U : Nat → Bool} {n i : Nat} {S : zp_S} (h : zp_rws sz U n S i = none) : ∀ m, zp_rws sz U n S (i + m) = none := by
  intro m
  induction m with
  | zero => exact h
  | succ m ih =>
    show (match zp_rws sz U n S (i + m) with
    | none => none
    | some (m', T, A) => if U (i + m) = true then (match zp_do m' T (zp_rq sz A T (i + m)) with
      | none => none
      | some (r, m', T') => some (m', T', fun j => if j = (i + m) then r else A j)) else some (m', T, A)) = none
    rw [ih]
theorem zp_NC.shr {σ : zv_St} {n m : Nat} {S T : zp_S} (h : zp_NC σ m T) (hn : n ≤ m) (hs : ∀ j, j < n → zp_sameN S T j) : zp_NC (zv_wi σ 5 0 (nI n)) n S := by
  refine ⟨zp_rs _ _ _ _, fun k hk => ?_⟩
  obtain ⟨a0, a1, a2, a3, a4⟩ := h.2 k (by omega)
  obtain ⟨s0, s1, s2, s3, s4⟩ := hs k hk
  rw [zp_rn _ _ _ _ (by decide), zp_rn _ _ _ _ (by decide), zp_rn _ _ _ _ (by decide), zp_rn _ _ _ _ (by decide)]
  refine ⟨a0.trans (congrArg nI s0), a1.trans (congrArg nI s1), a2.trans (congrArg nI s2), a3.trans (congrArg nI s3), fun i hi => ?_⟩
  rw [zp_rn _ _ _ _ (by decide), zp_rn _ _ _ _ (by decide)]
  have hi' : i < zp_mn T k := by show i < T 3 k; rw [s3]; exact hi
  exact ⟨(a4 i hi').1.trans (congrArg nI (s4 i hi).1), (a4 i hi').2.trans (congrArg nI (s4 i hi).2)⟩
section ANEWC
variable {σ : zv_St} {n k top : Nat} {S : zp_S} {sz : Nat → Nat}
theorem zp_newOf {A : Nat → Nat} {Q : Int32 → zv_St → Prop} (hw : zp_wf n S) (hN : zp_NC σ n S) (hz : ∀ l, l < 16 → σ.1 4 l = nI (sz l) ∧ sz l ≤ 60) (hk : k < n) (hA : ∀ i, i < zp_mn S k → σ.1 41 (zp_pt S k i) = nI (A (zp_pt S k i)) ∧ A (zp_pt S k i) < n) (a : zp_aC σ n S (zp_rq sz A S k) Q) : B_X7_newOf Q (nI k) σ := by
  have hn := hw.1
  have w := hw.2 k hk
  have h7 := w.1
  have h8 := w.2.1
  obtain ⟨a0, a1, a2, a3, a4⟩ := hN.2 k hk
  have hok := zp_rq_ok (sz := sz) hw hk (fun i hi => (hA i hi).2)
  unfold zp_rq at a hok
  refine zp_a_kind (by omega) a0 ?_
  have ne : ∀ c, c ≤ 7 → nI (zp_kd S k) = nI c → zp_kd S k = c := fun c hc z => zp_ninj (by omega) (by omega) z
  have nt : Int32.toInt (nI (zp_kd S k)) < 0 ∨ 6 < Int32.toInt (nI (zp_kd S k)) → zp_kd S k = 7 := by
    intro z
    rw [nI_toInt (by omega)] at z
    omega
  have one : (zp_kd S k = 4 ∨ zp_kd S k = 5 ∨ zp_kd S k = 6) → zp_aC σ n S (zp_rqo S k (A (zp_fs S k))) Q → zp_rok n (zp_rqo S k (A (zp_fs S k))) → B_X7_newOf_120 Q (nI k) (nI (zp_kd S k)) σ := by
    intro e a ok
    obtain ⟨o1, o2, o3, o4⟩ := w.one e
    have hx := (a4 0 (by omega)).2
    obtain ⟨n1, n2⟩ := hA 0 (by omega)
    rw [o2] at hx n1 n2
    refine zp_a_partAt (i := 0) (by omega) (by decide) hx ⟨vp_in_nI (by omega) (by decide), ?_⟩
    rw [nI_clamp (n := zp_fs S k) (by omega), n1]
    exact zp_a_second (by omega) a2 (zp_newOne hw hN hk e n2 ok a)
  rcases (show zp_kd S k = 0 ∨ zp_kd S k = 1 ∨ zp_kd S k = 2 ∨ zp_kd S k = 3 ∨ zp_kd S k = 4 ∨ zp_kd S k = 5 ∨ zp_kd S k = 6 ∨ zp_kd S k = 7 by omega) with e | e | e | e | e | e | e | e
  · rw [e] at a hok
    have a : zp_aC σ n S (if sz (zp_fs S k) = 0 then zp_NOTH else .inr (0, zp_fs S k, 0, [])) Q := a
    have hok : zp_rok n (if sz (zp_fs S k) = 0 then zp_NOTH else .inr (0, zp_fs S k, 0, [])) := hok
    have hfs := (w.2.2.2.1 e).1
    obtain ⟨z1, z2⟩ := hz _ hfs
    refine ⟨fun _ => ?_, fun z => absurd (ne 1 (by decide) z) (by omega), fun z => absurd (ne 2 (by decide) z) (by omega), fun z => absurd (ne 3 (by decide) z) (by omega), fun z => absurd (ne 4 (by decide) z) (by omega), fun z => absurd (ne 5 (by decide) z) (by omega), fun z => absurd (ne 6 (by decide) z) (by omega), fun z => absurd (nt z) (by omega)⟩
    refine zp_a_first (by omega) a1 (zp_a_lsize hfs z1 ?_)
    by_cases c : sz (zp_fs S k) = 0
    · rw [if_pos c] at a
      exact zp_nf (by rw [c]; rfl) (a.2.2 rfl σ zp_ch.rf)
    · rw [if_neg c] at a hok
      refine zp_nt (fun z => c (zp_ninj (by omega) (by decide) z)) (zp_a_first (by omega) a1 ?_)
      rw [e]
      exact zp_aC.so (sc := 0) zp_ch.rf hw hN hok rfl a
  · rw [e] at a hok
    refine ⟨fun z => absurd (ne 0 (by decide) z) (by omega), fun _ => ?_, fun z => absurd (ne 2 (by decide) z) (by omega), fun z => absurd (ne 3 (by decide) z) (by omega), fun z => absurd (ne 4 (by decide) z) (by omega), fun z => absurd (ne 5 (by decide) z) (by omega), fun z => absurd (ne 6 (by decide) z) (by omega), fun z => absurd (nt z) (by omega)⟩
    refine zp_a_first (by omega) a1 (zp_a_second (by omega) a2 ?_)
    rw [e]
    exact zp_aC.so zp_ch.rf hw hN hok rfl a
  · rw [e] at a hok
    have a : zp_aC σ n S (match zp_gat S A (zp_fs S k) k (zp_mn S k) with
    | none => zp_NOTH
    | some l => zp_rqb (zp_fs S k) l) Q := a
    refine ⟨fun z => absurd (ne 0 (by decide) z) (by omega), fun z => absurd (ne 1 (by decide) z) (by omega), fun _ => ?_, fun z => absurd (ne 3 (by decide) z) (by omega), fun z => absurd (ne 4 (by decide) z) (by omega), fun z => absurd (ne 5 (by decide) z) (by omega), fun z => absurd (ne 6 (by decide) z) (by omega), fun z => absurd (nt z) (by omega)⟩
    refine zp_gather (A := A) hw hN hk e hA (fun l h σ' c hr => ?_) (fun h σ' c => ?_)
    · rw [h] at a
      have a : zp_aC σ n S (zp_rqb (zp_fs S k) l) Q := a
      obtain ⟨-, b1, -, -, -⟩ := (hN.ch c (by decide)).2 k hk
      refine zp_f (by decide) (zp_a_first (by omega) b1 ?_)
      obtain ⟨g1, g2⟩ := zp_gat_ok hw hk (fun i hi => (hA i hi).2) _ (Nat.le_refl _) l h
      exact zp_boolOfRow c hw hN hr g2 (w.2.2.2.2.2.1 e).1 a
    · rw [h] at a
      exact zp_t rfl (a.2.2 rfl σ' c)
  · rw [e] at a hok
    refine ⟨fun z => absurd (ne 0 (by decide) z) (by omega), fun z => absurd (ne 1 (by decide) z) (by omega), fun z => absurd (ne 2 (by decide) z) (by omega), fun _ => ?_, fun z => absurd (ne 4 (by decide) z) (by omega), fun z => absurd (ne 5 (by decide) z) (by omega), fun z => absurd (ne 6 (by decide) z) (by omega), fun z => absurd (nt z) (by omega)⟩
    exact zp_newBest (A := A) hw hN hk e hA a
  · rw [e] at a hok
    refine ⟨fun z => absurd (ne 0 (by decide) z) (by omega), fun z => absurd (ne 1 (by decide) z) (by omega), fun z => absurd (ne 2 (by decide) z) (by omega), fun z => absurd (ne 3 (by decide) z) (by omega), fun _ => ?_, fun z => absurd (ne 5 (by decide) z) (by omega), fun z => absurd (ne 6 (by decide) z) (by omega), fun z => absurd (nt z) (by omega)⟩
    exact one (by omega) a hok
  · rw [e] at a hok
    refine ⟨fun z => absurd (ne 0 (by decide) z) (by omega), fun z => absurd (ne 1 (by decide) z) (by omega), fun z => absurd (ne 2 (by decide) z) (by omega), fun z => absurd (ne 3 (by decide) z) (by omega), fun z => absurd (ne 4 (by decide) z) (by omega), fun _ => ?_, fun z => absurd (ne 6 (by decide) z) (by omega), fun z => absurd (nt z) (by omega)⟩
    exact one (by omega) a hok
  · rw [e] at a hok
    refine ⟨fun z => absurd (ne 0 (by decide) z) (by omega), fun z => absurd (ne 1 (by decide) z) (by omega), fun z => absurd (ne 2 (by decide) z) (by omega), fun z => absurd (ne 3 (by decide) z) (by omega), fun z => absurd (ne 4 (by decide) z) (by omega), fun z => absurd (ne 5 (by decide) z) (by omega), fun _ => ?_, fun z => absurd (nt z) (by omega)⟩
    exact one (by omega) a hok
  · rw [e] at a hok
    refine ⟨fun z => absurd (ne 0 (by decide) z) (by omega), fun z => absurd (ne 1 (by decide) z) (by omega), fun z => absurd (ne 2 (by decide) z) (by omega), fun z => absurd (ne 3 (by decide) z) (by omega), fun z => absurd (ne 4 (by decide) z) (by omega), fun z => absurd (ne 5 (by decide) z) (by omega), fun z => absurd (ne 6 (by decide) z) (by omega), fun _ => ?_⟩
    obtain ⟨y1, y2, -⟩ := w.2.2.2.2.2.2.2.2.2.2 e
    rw [y1] at a1
    rw [y2] at a2
    refine zp_a_first (by omega) a1 (zp_a_second (by omega) a2 ?_)
    rw [e]
    exact zp_aC.so zp_ch.rf hw hN hok rfl a
theorem zp_markC {Q : zv_St → Prop} (hw : zp_wf n S) (hN : zp_NC σ n S) (ht : top < n) (q : ∀ σ', zp_ch [40] σ σ' → (∀ j, j ≤ top → σ'.1 40 j = zp_bi (zp_U S top j)) → Q σ') : B_X7_markUnder Q (nI top) σ := by
  have hn := hw.1
  refine zp_for (L := fun u i σ' => L_X7_markUnder_2 Q u (nI top) (nI i) σ') top (fun i σ' => zp_ch [40] σ σ' ∧ ∀ j, j < i → σ'.1 40 j = 0) (fun u σ1 h => ?_) (fun u i σ1 hi h ih => ?_) 0 σ ⟨zp_ch.rf, fun j hj => by omega⟩ (Nat.zero_le _)
  · refine zp_t (nI_le (Nat.le_refl _) (by omega)) ⟨vp_in_nI (by omega) (by decide), ?_⟩
    rw [nI_clamp (by omega)]
    rintro σ2 rfl
    have hU : ∀ j, zp_U S top j = zp_ud S (top + 1) (fun j => decide (j = top)) j := fun _ => rfl
    have start : zp_ch [40] σ (zv_wi σ1 40 top (vp_nar .boolean 1)) ∧ ∃ b, zp_ud S (top + 1) b = zp_U S top ∧ ∀ j, j ≤ top → (zv_wi σ1 40 top (vp_nar .boolean 1)).1 40 j = zp_bi (b j) := by
      refine ⟨h.1.tr (zp_ch.wi (by decide)), fun j => decide (j = top), rfl, fun j hj => ?_⟩
      by_cases c : j = top
      · subst c; rw [zp_rs]; show _ = zp_bi (decide (j = j)); rw [decide_eq_true rfl]; rfl
      · rw [zp_rj _ _ c, h.2 j (by omega)]; show _ = zp_bi (decide (j = top)); rw [decide_eq_false c]; rfl
    refine ⟨top + 1, zp_iter (L := fun u (a : Nat × zv_St) => L_X7_markUnder_29 Q u (nI a.1) a.2) (fun m a => a.1 = m ∧ m ≤ top ∧ zp_ch [40] σ a.2 ∧ ∃ b, zp_ud S (m + 1) b = zp_U S top ∧ ∀ j, j ≤ top → a.2.1 40 j = zp_bi (b j)) ?_ top (top, _) ⟨rfl, Nat.le_refl _, start⟩⟩
    rintro m u2 ⟨m', σ3⟩ ⟨g1, g2, g3, b, g4, g5⟩ ih2
    simp only at g1 g2 g3 g5
    subst g1
    show L_X7_markUnder_29 Q (u2 + 1) (nI m') σ3
    have w := hw.2 m' (by omega)
    have h8 := w.2.1
    by_cases c0 : m' = 0
    · subst c0
      refine zp_t (by decide) (q σ3 g3 (fun j hj => ?_))
      rw [g5 j hj, ← g4]
      show zp_bi (b j) = zp_bi (b j || (b 0 && (List.range (zp_mn S 0)).any (fun i => decide (zp_pt S 0 i = j))))
      have : zp_mn S 0 = 0 := by
        rcases Nat.eq_zero_or_pos (zp_mn S 0) with z | z
        · exact z
        · have := (w.2.2.1 0 z).1; omega
      rw [this]
      show zp_bi (b j) = zp_bi (b j || (b 0 && false))
      rw [Bool.and_false, Bool.or_false]
    · refine zp_f (nI_nle (by omega) (by omega)) ?_
      have done : ∀ σ4 b', zp_ch [40] σ σ4 → zp_ud S m' b' = zp_U S top → (∀ j, j ≤ top → σ4.1 40 j = zp_bi (b' j)) → B_X7_markUnder_77 Q (L_X7_markUnder_29 Q u2) (nI m') σ4 := by
        intro σ4 b' y1 y2 y3
        unfold B_X7_markUnder_77
        rw [zp_p1 (by omega)]
        exact ih2 (m' - 1, σ4) (by omega) ⟨rfl, by omega, y1, b', by rw [Nat.sub_add_cancel (by omega)]; exact y2, y3⟩
      refine zp_for (L := fun u i σ' => L_X7_markUnder_35 Q (L_X7_markUnder_29 Q u2) u (nI m') (nI i) σ') (zp_mn S m') (fun i σ' => zp_ch [40] σ σ' ∧ ∀ j, j ≤ top → σ'.1 40 j = zp_bi (b j || (b m' && (List.range i).any (fun i => decide (zp_pt S m' i = j))))) (fun v σ4 y => ?_) (fun v i σ4 hi y ih3 => ?_) 0 σ3 ⟨g3, fun j hj => by rw [g5 j hj]; show _ = zp_bi (b j || (b m' && false)); rw [Bool.and_false, Bool.or_false]⟩ (Nat.zero_le _)
      · obtain ⟨-, -, -, a3, -⟩ := (hN.ch y.1 (by decide)).2 m' (by omega)
        have fin := done σ4 (zp_us S m' b) y.1 g4 y.2
        refine ⟨vp_in_nI (by omega) (by decide), ?_⟩
        refine ⟨fun _ => fin, fun _ => ?_⟩
        exact zp_a_size (by omega) a3 (zp_t (nI_le (Nat.le_refl _) (by omega)) fin)
      · obtain ⟨-, -, -, a3, a4⟩ := (hN.ch y.1 (by decide)).2 m' (by omega)
        obtain ⟨v1, v2⟩ := w.2.2.1 i hi
        have own : σ4.1 40 m' = zp_bi (b m') := by
          rw [y.2 m' g2]
          cases b m' <;> rfl
        refine ⟨vp_in_nI (by omega) (by decide), ?_⟩
        rw [nI_clamp (by omega), own]
        cases cb : b m'
        · refine zp_t rfl (done σ4 (zp_us S m' b) y.1 g4 (fun j hj => ?_))
          rw [y.2 j hj]
          show _ = zp_bi (b j || (b m' && _))
          rw [cb]; rfl
        · refine zp_f (by decide) (zp_a_size (by omega) a3 (zp_f (nI_ge hi (by omega)) (zp_a_partAt (by omega) (by omega) (a4 i hi).2 ⟨vp_in_nI (by omega) (by decide), ?_⟩)))
          rw [nI_clamp (n := zp_pt S m' i) (by omega), nI_1]
          rintro σ5 rfl
          refine ih3 _ ⟨y.1.tr (zp_ch.wi (by decide)), fun j hj => ?_⟩
          rw [zp_any_succ]
          by_cases cj : j = zp_pt S m' i
          · rw [cj, zp_rs, decide_eq_true rfl, cb, Bool.or_true, Bool.true_and, Bool.or_true]; rfl
          · rw [zp_rj _ _ cj, y.2 j hj, decide_eq_false (fun z => cj z.symm), Bool.or_false]
  · refine zp_f (nI_ge hi (by omega)) ⟨vp_in_nI (by omega) (by decide), ?_⟩
    rw [nI_clamp (by omega), nI_1]
    rintro σ2 rfl
    refine ih _ ⟨h.1.tr (zp_ch.wi (by decide)), fun j hj => ?_⟩
    by_cases c : j = i
    · subst c; rw [zp_rs]; rfl
    · rw [zp_rj _ _ c]; exact h.2 j (by omega)
/-- what the component leaves behind -/
def zp_wC (σ : zv_St) (n : Nat) (σ' : zv_St) (n' : Nat) (S' : zp_S) : Prop := zp_ch [5, 6, 7, 8, 9, 10, 11, 12, 40, 41, 42, 43, 44] σ σ' ∧ zp_NC σ' n' S' ∧ (∀ j, j < n → σ'.1 9 j = σ.1 9 j) ∧ ∀ j, n ≤ j → j < n' → σ'.1 9 j = 0
theorem zp_writeAnew {Q : Int32 → zv_St → Prop} (hw : zp_wf n S) (hN : zp_NC σ n S) (hz : ∀ l, l < 16 → σ.1 4 l = nI (sz l) ∧ sz l ≤ 60) (ht : top < n) (qs : ∀ n' S' A', zp_rws sz (zp_U S top) n S (top + 1) = some (n', S', A') → ∀ σ', zp_wC σ n σ' n' S' → Q (nI (A' top)) σ') (qf : zp_rws sz (zp_U S top) n S (top + 1) = none → ∀ σ', zp_wC σ n σ' n S → Q (-3) σ') : B_X7_writeAnew Q (nI top) σ := by
  have hn := hw.1
  have hw1 : ∀ k, k < top + 1 → zp_wf1 S k := fun k hk => hw.2 k (by omega)
  have hU : ∀ k, k ≤ top → zp_U S top k = true → ∀ i, i < zp_mn S k → zp_U S top (zp_pt S k i) = true := fun k hk => zp_ud_cl (top + 1) hw1 _ k (by omega)
  have hUt : zp_U S top top = true := zp_ud_mono _ _ _ (decide_eq_true rfl)
  have rok := zp_rws_ok (sz := sz) hw ht hU
  unfold B_X7_writeAnew B_X5_count
  rw [hN.1]
  refine zp_markC hw hN ht (fun σ1 c1 m1 => ?_)
  refine zp_for (L := fun u i σ' => L_X7_writeAnew_15 Q u (nI top) (nI n) (nI i) σ') (top + 1) (fun i σ' => ∃ m T A, zp_rws sz (zp_U S top) n S i = some (m, T, A) ∧ zp_wC σ n σ' m T ∧ σ'.1 40 = σ1.1 40 ∧ ∀ j, j < i → zp_U S top j = true → σ'.1 41 j = nI (A j)) (fun u σ2 h => ?_) (fun u i σ2 hi h ih => ?_) 0 σ1 ⟨n, S, _, rfl, ⟨c1.mono (by decide), hN.ch c1 (by decide), fun j _ => by rw [(c1 9 (by decide)).1], fun j h1 h2 => by omega⟩, rfl, fun j hj => by omega⟩ (Nat.zero_le _)
  · obtain ⟨m, T, A, g1, g2, g3, g4⟩ := h
    refine zp_t (nI_lt (by omega) (by omega)) ⟨vp_in_nI (by omega) (by decide), ?_⟩
    rw [nI_clamp (by omega), g4 top (by omega) hUt]
    exact qs m T A g1 σ2 g2
  · obtain ⟨m, T, A, g1, g2, g3, g4⟩ := h
    obtain ⟨k1, k2, k3, k4⟩ := rok i (by omega) m T A g1
    have hm := k2.1
    obtain ⟨s0, s1, s2, s3, s4⟩ := k3 i (by omega)
    have hr : zp_rws sz (zp_U S top) n S (i + 1) = (if zp_U S top i = true then (match zp_do m T (zp_rq sz A T i) with
      | none => none
      | some (r, m', T') => some (m', T', fun j => if j = i then r else A j)) else some (m, T, A)) := by
      show (match zp_rws sz (zp_U S top) n S i with
        | none => none
        | some (m, T, A) => if zp_U S top i = true then (match zp_do m T (zp_rq sz A T i) with
          | none => none
          | some (r, m', T') => some (m', T', fun j => if j = i then r else A j)) else some (m, T, A)) = _
      rw [g1]
    refine zp_f (nI_nlt (by omega) (by omega)) ⟨vp_in_nI (by omega) (by decide), ?_⟩
    rw [nI_clamp (by omega), g3, m1 i (by omega)]
    unfold B_X7_writeAnew_81
    rw [nI_1]
    cases cu : zp_U S top i
    · rw [cu, if_neg (by decide)] at hr
      refine zp_t rfl (ih σ2 ⟨m, T, A, hr, g2, g3, fun j hj hu => g4 j ?_ hu⟩)
      have : j ≠ i := fun z => by subst z; rw [cu] at hu; cases hu
      omega
    · rw [cu, if_pos rfl] at hr
      refine zp_f (by decide) ?_
      have hA : ∀ i', i' < zp_mn T i → σ2.1 41 (zp_pt T i i') = nI (A (zp_pt T i i')) ∧ A (zp_pt T i i') < m := by
        intro i' hi'
        have hi2 : i' < zp_mn S i := by show i' < S 3 i; rw [← s3]; exact hi'
        have hp : zp_pt T i i' = zp_pt S i i' := (s4 i' hi2).2
        rw [hp]
        have hlt := ((hw.2 i (by omega)).2.2.1 i' hi2).1
        have hu := hU i (by omega) cu i' hi2
        exact ⟨g4 _ hlt hu, k4 _ hlt hu⟩
      have hz2 : ∀ l, l < 16 → σ2.1 4 l = nI (sz l) ∧ sz l ≤ 60 := fun l hl => by rw [(g2.1 4 (by decide)).1]; exact hz l hl
      have hok := zp_rq_ok (sz := sz) k2 (show i < m by omega) (fun i' hi' => (hA i' hi').2)
      have full : ∀ σ3, zp_ch [42, 43, 44] σ2 σ3 → zp_do m T (zp_rq sz A T i) = none → B_X7_writeAnew_60 Q (L_X7_writeAnew_15 Q u) (nI top) (nI n) (nI i) (nI i) (-3) σ3 := by
        intro σ3 c3 d
        rw [d] at hr
        have hr : zp_rws sz (zp_U S top) n S (i + 1) = none := hr
        have hend := zp_rws_none hr (top - i)
        rw [show i + 1 + (top - i) = top + 1 by omega] at hend
        refine ⟨vp_in_nI (by omega) (by decide), ?_⟩
        rw [nI_clamp (by omega)]
        rintro σ4 rfl
        refine ⟨vp_in_nI (by omega) (by decide), ?_⟩
        rw [zp_rs]
        refine zp_f (by decide) ?_
        rintro σ5 rfl
        refine qf hend _ ⟨?_, ?_, fun j hj => ?_, fun j h1 h2 => by omega⟩
        · exact (g2.1.tr (c3.mono (by decide))).tr ((zp_ch.wi (by decide)).tr (zp_ch.wi (by decide)))
        · refine zp_NC.shr (T := T) (m := m) ?_ k1 k3
          exact (g2.2.1.ch c3 (by decide)).ch (zp_ch.wi (zs := [41]) (by decide)) (by decide)
        · rw [zp_rn _ _ _ _ (by decide), zp_rn _ _ _ _ (by decide), (c3 9 (by decide)).1]
          exact g2.2.2.1 j hj
      have good : ∀ r m' T', zp_do m T (zp_rq sz A T i) = some (r, m', T') → ∀ σ3, zp_mD σ2 m σ3 m' T' → B_X7_writeAnew_60 Q (L_X7_writeAnew_15 Q u) (nI top) (nI n) (nI i) (nI i) (nI r) σ3 := by
        intro r m' T' d σ3 md
        obtain ⟨md1, md2, md3, md4⟩ := md
        rw [d] at hr
        have hr : zp_rws sz (zp_U S top) n S (i + 1) = some (m', T', fun j => if j = i then r else A j) := hr
        obtain ⟨e1, e2, e3, e4⟩ := zp_do_ok k2 hok d
        have hm' := e3.1
        refine ⟨vp_in_nI (by omega) (by decide), ?_⟩
        rw [nI_clamp (by omega)]
        rintro σ4 rfl
        refine ⟨vp_in_nI (by omega) (by decide), ?_⟩
        rw [zp_rs]
        refine zp_t (nI_le (a := 0) (by omega) (by omega)) ?_
        unfold B_X7_writeAnew_81
        rw [nI_1]
        refine ih _ ⟨m', T', _, hr, ⟨(g2.1.tr (md1.mono (by decide))).tr (zp_ch.wi (by decide)), md2.ch (zp_ch.wi (zs := [41]) (by decide)) (by decide), fun j hj => ?_, fun j h1 h2 => ?_⟩, ?_, fun j hj hu => ?_⟩
        · rw [zp_rn _ _ _ _ (by decide), md3 j (by omega)]
          exact g2.2.2.1 j hj
        · rw [zp_rn _ _ _ _ (by decide)]
          by_cases c : j < m
          · rw [md3 j c]; exact g2.2.2.2 j h1 c
          · exact md4 j (by omega) h2
        · rw [zv_wi_n _ _ _ (by decide), (md1 40 (by decide)).1, g3]
        · show _ = nI (if j = i then r else A j)
          by_cases cj : j = i
          · rw [cj, zp_rs, if_pos rfl]
          · rw [zp_rj _ _ cj, if_neg cj, (md1 41 (by decide)).1]
            exact g4 j (by omega) hu
      refine zp_newOf k2 g2.2.1 hz2 (by omega) hA ⟨fun r m' T' d σ3 md => ?_, fun d σ3 c3 => ?_, fun rn σ3 c3 => ?_⟩
      · have := (zp_do_ok k2 hok d).1
        have := (zp_do_ok k2 hok d).2.2.1.1
        exact zp_nt (zp_neg1 (by omega)) (good r m' T' d σ3 md)
      · exact zp_nt (by decide) (full σ3 c3 d)
      · refine zp_nf rfl ?_
        rw [rn] at good full hok
        exact zp_so (kd := 7) (fs := 0) (sc := 0) c3 k2 g2.2.1 hok rfl good (fun d σ4 c4 => full σ4 c4 d)
end ANEWC
