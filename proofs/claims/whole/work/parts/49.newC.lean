/-! The component: what a NODE becomes. -/
/-- what may follow, once it has been asked for -/
def zp_mD (σ : zv_St) (n : Nat) (σ' : zv_St) (n' : Nat) (S' : zp_S) : Prop := zp_ch [5, 6, 7, 8, 9, 10, 11, 12, 42, 43, 44] σ σ' ∧ zp_NC σ' n' S' ∧ (∀ j, j < n → σ'.1 9 j = σ.1 9 j) ∧ ∀ j, n ≤ j → j < n' → σ'.1 9 j = 0
def zp_aC (σ : zv_St) (n : Nat) (S : zp_S) (rq : zp_Rq) (Q : Int32 → zv_St → Prop) : Prop := (∀ r n' S', zp_do n S rq = some (r, n', S') → ∀ σ', zp_mD σ n σ' n' S' → Q (nI r) σ') ∧ (zp_do n S rq = none → ∀ σ', zp_ch [42, 43, 44] σ σ' → Q (-3) σ') ∧ (rq = zp_NOTH → ∀ σ', zp_ch [42, 43, 44] σ σ' → Q (-1) σ')
theorem zp_mD.of {σ σ1 σ2 : zv_St} {n n' : Nat} {S' : zp_S} (c : zp_ch [42, 43, 44] σ σ1) (m : zp_mC σ1 n σ2 n' S') : zp_mD σ n σ2 n' S' := by
  obtain ⟨m1, m2, m3, m4⟩ := m
  exact ⟨(c.mono (by decide)).tr (m1.mono (by decide)), m2, fun j hj => by rw [m3 j hj, (c 9 (by decide)).1], m4⟩
theorem zp_mx {σ : zv_St} {Q : Int32 → zv_St → Prop} {a b : Nat} (ha : a < 2 ^ 31) (hb : b < 2 ^ 31) (q : Q (nI (max a b)) σ) : B_J9_max_7cf53 Q (nI a) (nI b) σ := by
  unfold B_J9_max_7cf53 B_J9_max_7cf53_10
  by_cases c : a < b
  · rw [Nat.max_eq_right (by omega)] at q
    exact zp_t (nI_lt c hb) q
  · rw [Nat.max_eq_left (by omega)] at q
    exact zp_f (nI_nlt (by omega) ha) q
section NEWC
variable {σ0 σ : zv_St} {n kd fs sc k : Nat} {S : zp_S} {l : zp_Row} {Q : Int32 → zv_St → Prop}
theorem zp_so (hc : zp_ch [42, 43, 44] σ0 σ) (hw : zp_wf n S) (hN : zp_NC σ0 n S) (ok : zp_rok n (.inr (kd, fs, sc, []))) (hrk : zp_rk kd = false) (a1 : ∀ r n' S', zp_do n S (.inr (kd, fs, sc, [])) = some (r, n', S') → ∀ σ', zp_mD σ0 n σ' n' S' → Q (nI r) σ') (a2 : zp_do n S (.inr (kd, fs, sc, [])) = none → ∀ σ', zp_ch [42, 43, 44] σ0 σ' → Q (-3) σ') : B_X7_thatIsSo Q (nI kd) (nI fs) (nI sc) σ :=
  zp_thatIsSo hw (hN.ch hc (by decide)) ok hrk (fun r n' S' h σ' m => a1 r n' S' h σ' (zp_mD.of hc m)) (fun h => a2 h σ hc)
theorem zp_aC.so (hc : zp_ch [42, 43, 44] σ0 σ) (hw : zp_wf n S) (hN : zp_NC σ0 n S) (ok : zp_rok n (.inr (kd, fs, sc, []))) (hrk : zp_rk kd = false) (a : zp_aC σ0 n S (.inr (kd, fs, sc, [])) Q) : B_X7_thatIsSo Q (nI kd) (nI fs) (nI sc) σ :=
  zp_so hc hw hN ok hrk a.1 a.2.1
theorem zp_aC.soR (hc : zp_ch [42, 43, 44] σ0 σ) (hw : zp_wf n S) (hN : zp_NC σ0 n S) (ok : zp_rok n (.inr (kd, fs, 0, l))) (hrk : zp_rk kd = true) (hr : zp_rC σ l) (a : zp_aC σ0 n S (.inr (kd, fs, 0, l)) Q) : B_X7_thatIsSoWithRow Q (nI kd) (nI fs) σ :=
  zp_thatIsSoWithRow hw (hN.ch hc (by decide)) ok hrk hr (fun r n' S' h σ' m => a.1 r n' S' h σ' (zp_mD.of hc m)) (fun h => a.2.1 h σ hc)
theorem zp_aC.inl {p : Nat} (hc : zp_ch [42, 43, 44] σ0 σ) (hN : zp_NC σ0 n S) (a : zp_aC σ0 n S (.inl p) Q) : Q (nI p) σ :=
  a.1 p n S rfl σ ⟨hc.mono (by decide), hN.ch hc (by decide), fun j _ => by rw [(hc 9 (by decide)).1], fun j h1 h2 => by omega⟩
theorem zp_bool70 {least : Nat} (hc : zp_ch [42, 43, 44] σ0 σ) (hw : zp_wf n S) (hN : zp_NC σ0 n S) (hr : zp_rC σ l) (hl : ∀ e ∈ l, e.2 < n ∧ e.1 ≤ 3) (h8 : least ≤ 8) (a : zp_aC σ0 n S (zp_rqb2 least l) Q) : B_X7_boolOfRow_70 Q (nI least) σ := by
  have hn := hw.1
  have hT : ∀ e ∈ l, e.2 < 80 ∧ e.1 ≤ 3 := fun e he => ⟨by have := (hl e he).1; omega, (hl e he).2⟩
  have hok := zp_rqb2_ok (n := n) hr.1 hl h8
  unfold zp_rqb2 at a hok
  refine zp_contra hr hT ?_
  cases c : zp_bad l
  · rw [c, if_neg (by decide)] at a hok
    refine zp_t rfl (zp_leave hr hT (fun σ1 c1 hr1 => ?_))
    unfold zp_rqb3 at a hok
    obtain ⟨g0, g1, g2⟩ := hr1
    have hc1 := hc.tr c1
    have ht : ∀ e ∈ zp_thin l l.length, e.2 < n ∧ e.1 ≤ 3 := fun e h => by
      obtain ⟨q, h1, h2, -⟩ := ((zp_thin_ok (l := l) _ (Nat.le_refl _)).2 e).mp h
      rw [← h2]
      exact hl _ (zp_g_mem h1)
    have so : ¬ ((zp_thin l l.length).length = 1 ∧ (zp_g (zp_thin l l.length) 0).1 = 0) → B_X7_boolOfRow_120 Q (nI least) σ1 := by
      intro z
      rw [if_neg z] at a hok
      exact zp_aC.soR (kd := 2) hc1 hw hN hok rfl ⟨g0, g1, g2⟩ a
    unfold B_X6_size
    rw [g1]
    by_cases d1 : (zp_thin l l.length).length = 1
    · obtain ⟨e1, e2⟩ := ht _ (zp_g_mem (show 0 < (zp_thin l l.length).length by omega))
      refine zp_nf (by rw [d1]; rfl) ⟨vp_in_nI (n := 0) (by decide) (by decide), ?_⟩
      show (¬ σ1.1 43 0 = 0 → _) ∧ (σ1.1 43 0 = 0 → _)
      rw [(g2 0 (by omega)).1]
      by_cases d2 : (zp_g (zp_thin l l.length) 0).1 = 0
      · rw [if_pos ⟨d1, d2⟩] at a
        refine zp_nf (by rw [d2]; rfl) ⟨vp_in_nI (n := 0) (by decide) (by decide), ?_⟩
        show Q (σ1.1 44 0) σ1
        rw [(g2 0 (by omega)).2]
        exact zp_aC.inl hc1 hN a
      · exact zp_nt (fun z => d2 (zp_ninj (by omega) (by decide) z)) (so (fun z => d2 z.2))
    · exact zp_nt (fun z => d1 (zp_ninj (by omega) (by decide) z)) (so (fun z => d1 z.1))
  · rw [c, if_pos rfl] at a
    exact zp_f (by decide) (a.2.2 rfl σ hc)
theorem zp_boolOfRow {least : Nat} (hc : zp_ch [42, 43, 44] σ0 σ) (hw : zp_wf n S) (hN : zp_NC σ0 n S) (hr : zp_rC σ l) (hl : ∀ e ∈ l, e.2 < n ∧ e.1 ≤ 3) (h8 : least ≤ 8) (a : zp_aC σ0 n S (zp_rqb least l) Q) : B_X7_boolOfRow Q (nI least) σ := by
  have h3 : ∀ e ∈ l, e.1 ≤ 3 := fun e he => (hl e he).2
  have hl8 := hr.1
  have b3 : zp_c l 3 ≤ l.length := zp_cn_le (l := l) (r := 3) l.length
  have b0 : zp_c l 0 ≤ l.length := zp_cn_le (l := l) (r := 0) l.length
  have b1 : zp_c l 1 ≤ l.length := zp_cn_le (l := l) (r := 1) l.length
  have k52 : ∀ le, le ≤ 8 → zp_aC σ0 n S (zp_rqb1 (zp_c l 3) le l) Q → B_X7_boolOfRow_52 Q (nI le) (nI (zp_c l 3)) σ := by
    intro le hle a
    unfold zp_rqb1 at a
    by_cases c : 0 < le
    · refine zp_f (fun z => ?_) ?_
      · exact nI_nle c (by omega) z
      · by_cases d : le = zp_c l 3
        · rw [if_pos ⟨c, d⟩] at a
          refine zp_nf (by rw [d]) (zp_rowS2 hr h3 (fun σ1 c1 hr1 => ?_))
          refine zp_bool70 (least := 0) (hc.tr c1) hw hN hr1 (fun e h => ?_) (by omega) a
          obtain ⟨e0, h0, rfl⟩ := List.mem_map.mp h
          refine ⟨(hl e0 h0).1, ?_⟩
          show (if e0.1 = 3 then 0 else e0.1) ≤ 3
          have := (hl e0 h0).2
          split <;> omega
        · rw [if_neg (fun z => d z.2)] at a
          exact zp_nt (fun z => d (zp_ninj (by omega) (by omega) z)) (zp_bool70 hc hw hN hr hl hle a)
    · rw [if_neg (fun z => c z.1)] at a
      refine zp_t ?_ (zp_bool70 hc hw hN hr hl hle a)
      have : le = 0 := by omega
      subst this
      decide
  unfold zp_rqb at a
  refine zp_rowCount (r := 3) hr h3 (by decide) ?_
  by_cases c : zp_c l 3 < least
  · rw [if_pos c] at a
    exact zp_f (nI_ge c (by omega)) (a.2.2 rfl σ hc)
  · rw [if_neg c] at a
    refine zp_t (nI_le (by omega) (by omega)) (zp_rowCount (r := 0) hr h3 (by decide) ?_)
    by_cases c0 : zp_c l 0 = 0
    · refine zp_nf (by rw [c0]; rfl) (zp_rowCount (r := 1) hr h3 (by decide) ?_)
      by_cases c1 : zp_c l 1 = 0
      · refine zp_nf (by rw [c1]; rfl) ?_
        by_cases c3 : zp_c l 3 = 0
        · rw [if_pos (by omega)] at a
          exact zp_nf (by rw [c3]; rfl) (a.2.2 rfl σ hc)
        · rw [if_neg (by omega), if_pos (by omega)] at a
          exact zp_nt (fun z => c3 (zp_ninj (by omega) (by decide) z)) (zp_mx (b := 1) (by omega) (by decide) (k52 _ (by omega) a))
      · rw [if_neg (by omega), if_neg (by omega)] at a
        exact zp_nt (fun z => c1 (zp_ninj (by omega) (by decide) z)) (k52 _ h8 a)
    · rw [if_neg (by omega), if_neg (by omega)] at a
      exact zp_nt (fun z => c0 (zp_ninj (by omega) (by decide) z)) (k52 _ h8 a)
/-- a part that may be dissolved, were there room -/
def zp_cd (S : zp_S) (least r p : Nat) : Bool := decide (zp_kd S p = 2 ∧ r ≠ 2) && (if r = 3 then decide (least < 2 ∧ zp_fs S p < 2 ∧ zp_num S p 3 (zp_mn S p) = zp_mn S p) else decide (zp_fs S p = 0 ∧ zp_num S p 3 (zp_mn S p) = 0))
theorem zp_opn_eq {least r p len left : Nat} : zp_opn S least r p len left = (zp_cd S least r p && decide (len + zp_mn S p + left ≤ 8)) := by
  unfold zp_opn zp_cd
  rw [Bool.and_assoc, Bool.and_comm (if r = 3 then _ else _)]
theorem zp_canDissolve {r p least : Nat} (hw : zp_wf n S) (hN : zp_NC σ n S) (hp : p < n) (hr : r ≤ 3) (hl : least ≤ 8) (q : Q (zp_bi (zp_cd S least r p)) σ) : B_X7_canDissolve Q (nI r) (nI p) (nI least) σ := by
  have hn := hw.1
  have w := hw.2 p hp
  obtain ⟨a0, a1, a2, a3, a4⟩ := hN.2 p hp
  have h8 := w.2.1
  have h7 := w.1
  have hnum := zp_num_le (S := S) (k := p) (r := 3) (zp_mn S p)
  unfold zp_cd at q
  refine zp_a_kind (by omega) a0 ?_
  by_cases c : zp_kd S p = 2
  · have hfs := (w.2.2.2.2.2.1 c).1
    refine zp_nf (by rw [c]; rfl) ?_
    by_cases c2 : r = 2
    · rw [decide_eq_false (fun z => z.2 c2)] at q
      exact zp_nf (by rw [c2]; rfl) q
    · rw [decide_eq_true ⟨c, c2⟩, Bool.true_and] at q
      refine zp_nt (fun z => c2 (zp_ninj (by omega) (by decide) z)) (zp_a_first (by omega) a1 ?_)
      refine zp_countOf (r := 3) (S := S) (by omega) (by decide) h8 a3 (fun i hi => ⟨(a4 i hi).1, (w.2.2.1 i hi).2⟩) ?_
      by_cases c3 : r = 3
      · rw [if_pos c3] at q
        have f73 : ¬ (least < 2 ∧ zp_fs S p < 2 ∧ zp_num S p 3 (zp_mn S p) = zp_mn S p) → B_X7_canDissolve_73 Q σ := fun z => by
          rw [decide_eq_false z] at q
          exact ⟨rfl, q⟩
        refine zp_nf (by rw [c3]; rfl) ?_
        by_cases d1 : least < 2
        · refine zp_f (nI_nlt (b := least) (a := 1) (by omega) (by decide)) ?_
          by_cases d2 : zp_fs S p < 2
          · refine zp_f (nI_nlt (b := zp_fs S p) (a := 1) (by omega) (by decide)) (zp_a_size (by omega) a3 ?_)
            by_cases d3 : zp_num S p 3 (zp_mn S p) = zp_mn S p
            · rw [decide_eq_true ⟨d1, d2, d3⟩] at q
              exact zp_nf (by rw [d3]) ⟨rfl, q⟩
            · exact zp_nt (fun z => d3 (zp_ninj (by omega) (by omega) z)) (f73 (fun z => d3 z.2.2))
          · exact zp_t (nI_lt (a := 1) (by omega) (by omega)) (f73 (fun z => d2 z.2.1))
        · exact zp_t (nI_lt (a := 1) (by omega) (by omega)) (f73 (fun z => d1 z.1))
      · rw [if_neg c3] at q
        have f89 : ¬ (zp_fs S p = 0 ∧ zp_num S p 3 (zp_mn S p) = 0) → B_X7_canDissolve_89 Q σ := fun z => by
          rw [decide_eq_false z] at q
          exact ⟨rfl, q⟩
        refine zp_nt (fun z => c3 (zp_ninj (by omega) (by decide) z)) ?_
        by_cases d1 : zp_fs S p = 0
        · refine zp_nf (by rw [d1]; rfl) ?_
          by_cases d2 : zp_num S p 3 (zp_mn S p) = 0
          · rw [decide_eq_true ⟨d1, d2⟩] at q
            exact zp_nf (by rw [d2]; rfl) ⟨rfl, q⟩
          · exact zp_nt (fun z => d2 (zp_ninj (by omega) (by decide) z)) (f89 (fun z => d2 z.2))
        · exact zp_nt (fun z => d1 (zp_ninj (by omega) (by decide) z)) (f89 (fun z => d1 z.1))
  · rw [decide_eq_false (fun z => c z.1)] at q
    exact zp_nt (fun z => c (zp_ninj (by omega) (by decide) z)) q
theorem zp_dissolve {Q : zv_St → Prop} {r p : Nat} (hc : zp_ch [42, 43, 44] σ0 σ) (hw : zp_wf n S) (hN : zp_NC σ0 n S) (hp : p < n) (hr3 : r ≤ 3) (hr : zp_rC σ l) (h8 : l.length + zp_mn S p ≤ 8) (q : ∀ σ', zp_ch [42, 43, 44] σ0 σ' → zp_rC σ' (l ++ zp_dis S r p (zp_mn S p)) → Q σ') : B_X7_dissolve Q (nI r) (nI p) σ := by
  have hn := hw.1
  have w := hw.2 p hp
  refine zp_for (L := fun u i σ' => L_X7_dissolve_2 Q u (nI r) (nI p) (nI i) σ') (zp_mn S p) (fun i σ' => zp_ch [42, 43, 44] σ0 σ' ∧ zp_rC σ' (l ++ zp_dis S r p i)) (fun u σ' h => ?_) (fun u i σ' hi h ih => ?_) 0 σ ⟨hc, by show zp_rC σ (l ++ []); rw [List.append_nil]; exact hr⟩ (Nat.zero_le _)
  · obtain ⟨-, -, -, a3, -⟩ := (hN.ch h.1 (by decide)).2 p hp
    unfold L_X7_dissolve_2
    refine zp_a_size (by omega) a3 ?_
    exact zp_t (nI_le (Nat.le_refl _) (by omega)) (q σ' h.1 h.2)
  · obtain ⟨-, -, -, a3, a4⟩ := (hN.ch h.1 (by decide)).2 p hp
    obtain ⟨v1, v2⟩ := w.2.2.1 i hi
    have hlen := (zp_dis_ok (r := r) w hp i (by omega)).1
    unfold L_X7_dissolve_2
    refine zp_a_size (by omega) a3 ?_
    refine zp_f (nI_ge hi (by omega)) ?_
    refine zp_a_roleAt (by omega) (by omega) (a4 i hi).1 ?_
    have h45 : ∀ y, y = (if r = 1 ∧ zp_ro S p i = 0 then 1 else zp_ro S p i) → B_X7_dissolve_45 Q (L_X7_dissolve_2 Q u) (nI r) (nI p) (nI i) (nI y) σ' := by
      intro y hy
      refine zp_a_partAt (by omega) (by omega) (a4 i hi).2 ?_
      refine zp_rowAdd h.2 (by rw [List.length_append, hlen]; omega) (fun σ2 c2 hr2 => ?_)
      show L_X7_dissolve_2 Q u (nI r) (nI p) (nI i + 1) σ2
      rw [nI_1]
      refine ih σ2 ⟨h.1.tr c2, ?_⟩
      show zp_rC σ2 (l ++ (zp_dis S r p i ++ [(if r = 1 ∧ zp_ro S p i = 0 then 1 else zp_ro S p i, zp_pt S p i)]))
      rw [← List.append_assoc, ← hy]
      exact hr2
    by_cases c1 : r = 1
    · refine zp_nf (by rw [c1]; rfl) ?_
      by_cases c2 : zp_ro S p i = 0
      · exact zp_nf (by rw [c2]; rfl) (h45 1 (by rw [if_pos ⟨c1, c2⟩]))
      · exact zp_nt (fun z => c2 (zp_ninj (by omega) (by decide) z)) (h45 _ (by rw [if_neg (fun z => c2 z.2)]))
    · exact zp_nt (fun z => c1 (zp_ninj (by omega) (by decide) z)) (h45 _ (by rw [if_neg (fun z => c1 z.1)]))
theorem zp_gat_none {A : Nat → Nat} {least i : Nat} (h : zp_gat S A least k i = none) : ∀ m, zp_gat S A least k (i + m) = none := by
  intro m
  induction m with
  | zero => exact h
  | succ m ih =>
    show (match zp_gat S A least k (i + m) with
    | none => none
    | some l => if zp_kd S (A (zp_pt S k (i + m))) = 7 then (if zp_ro S k (i + m) < 2 then none else some l)
      else if zp_opn S least (zp_ro S k (i + m)) (A (zp_pt S k (i + m))) l.length (zp_mn S k - (i + m) - 1) = true then some (l ++ zp_dis S (zp_ro S k (i + m)) (A (zp_pt S k (i + m))) (zp_mn S (A (zp_pt S k (i + m)))))
      else some (l ++ [(zp_ro S k (i + m), A (zp_pt S k (i + m)))])) = none
    rw [ih]
theorem zp_nsb {a b : Nat} (h : b ≤ a) (ha : a < 2 ^ 31) : nI a - nI b = nI (a - b) := by
  have e : nI (a - b) + nI b = nI a := by rw [nI_add, Nat.sub_add_cancel h]
  rw [← e, Int32.add_sub_cancel]
theorem zp_gather {A : Nat → Nat} (hw : zp_wf n S) (hN : zp_NC σ n S) (hk : k < n) (e : zp_kd S k = 2) (hA : ∀ i, i < zp_mn S k → σ.1 41 (zp_pt S k i) = nI (A (zp_pt S k i)) ∧ A (zp_pt S k i) < n) (qs : ∀ l, zp_gat S A (zp_fs S k) k (zp_mn S k) = some l → ∀ σ', zp_ch [42, 43, 44] σ σ' → zp_rC σ' l → Q 1 σ') (qn : zp_gat S A (zp_fs S k) k (zp_mn S k) = none → ∀ σ', zp_ch [42, 43, 44] σ σ' → Q 0 σ') : B_X7_gatherBool Q (nI k) σ := by
  have hn := hw.1
  have w := hw.2 k hk
  have h8 := w.2.1
  have hfs := (w.2.2.2.2.2.1 e).1
  rintro σ1 rfl
  refine zp_for (L := fun u i σ' => L_X7_gatherBool_9 Q u (nI k) (nI i) σ') (zp_mn S k) (fun i σ' => zp_ch [42, 43, 44] σ σ' ∧ ∃ l, zp_gat S A (zp_fs S k) k i = some l ∧ zp_rC σ' l) (fun u σ' h => ?_) (fun u i σ' hi h ih => ?_) 0 _ ⟨zp_ch.wi (by decide), [], rfl, Nat.zero_le _, zp_rs _ _ _ _, fun i hi => absurd hi (Nat.not_lt_zero _)⟩ (Nat.zero_le _)
  · obtain ⟨-, -, -, a3, -⟩ := (hN.ch h.1 (by decide)).2 k hk
    obtain ⟨h1, l, h2, h3⟩ := h
    unfold L_X7_gatherBool_9
    refine zp_a_size (by omega) a3 ?_
    exact zp_t (nI_le (Nat.le_refl _) (by omega)) (qs l h2 σ' h1 h3)
  · obtain ⟨h1, l, h2, h3⟩ := h
    have hN' := hN.ch h1 (by decide)
    obtain ⟨-, a1, -, a3, a4⟩ := hN'.2 k hk
    obtain ⟨v1, v2⟩ := w.2.2.1 i hi
    obtain ⟨n1, n2⟩ := hA i hi
    have wp := hw.2 _ n2
    have hp8 := wp.2.1
    have h7 := wp.1
    obtain ⟨b0, -, -, b3, -⟩ := hN'.2 _ n2
    have hg : zp_gat S A (zp_fs S k) k (i + 1) = (if zp_kd S (A (zp_pt S k i)) = 7 then (if zp_ro S k i < 2 then none else some l)
      else if zp_opn S (zp_fs S k) (zp_ro S k i) (A (zp_pt S k i)) l.length (zp_mn S k - i - 1) = true then some (l ++ zp_dis S (zp_ro S k i) (A (zp_pt S k i)) (zp_mn S (A (zp_pt S k i))))
      else some (l ++ [(zp_ro S k i, A (zp_pt S k i))])) := by
      show (match zp_gat S A (zp_fs S k) k i with
        | none => none
        | some l => if zp_kd S (A (zp_pt S k i)) = 7 then (if zp_ro S k i < 2 then none else some l)
          else if zp_opn S (zp_fs S k) (zp_ro S k i) (A (zp_pt S k i)) l.length (zp_mn S k - i - 1) = true then some (l ++ zp_dis S (zp_ro S k i) (A (zp_pt S k i)) (zp_mn S (A (zp_pt S k i))))
          else some (l ++ [(zp_ro S k i, A (zp_pt S k i))])) = _
      rw [h2]
    have hlen := (zp_gat_ok hw hk (fun i hi => (hA i hi).2) i (by omega) l h2).1
    unfold L_X7_gatherBool_9
    refine zp_a_size (by omega) a3 ?_
    refine zp_f (nI_ge hi (by omega)) ?_
    refine zp_a_roleAt (by omega) (by omega) (a4 i hi).1 ?_
    refine zp_a_partAt (by omega) (by omega) (a4 i hi).2 ⟨vp_in_nI (by omega) (by decide), ?_⟩
    rw [nI_clamp (n := zp_pt S k i) (by omega), (h1 41 (by decide)).1, n1]
    rintro v rfl
    refine zp_a_size (by omega) a3 ?_
    refine zp_a_kind (by omega) b0 ?_
    have next : ∀ σ2 l2, zp_ch [42, 43, 44] σ σ2 → zp_gat S A (zp_fs S k) k (i + 1) = some l2 → zp_rC σ2 l2 → B_X7_gatherBool_147 Q (L_X7_gatherBool_9 Q u) (nI k) (nI i) σ2 := by
      intro σ2 l2 y1 y2 y3
      unfold B_X7_gatherBool_147
      rw [nI_1]
      exact ih σ2 ⟨y1, l2, y2, y3⟩
    by_cases c7 : zp_kd S (A (zp_pt S k i)) = 7
    · rw [if_pos c7] at hg
      refine zp_nf (by rw [c7]; rfl) (zp_a_needed v2 ?_)
      by_cases c2 : zp_ro S k i < 2
      · rw [if_pos c2] at hg
        rw [decide_eq_true c2]
        refine zp_f (by decide) (qn ?_ σ' h1)
        have := zp_gat_none hg (zp_mn S k - (i + 1))
        rw [show i + 1 + (zp_mn S k - (i + 1)) = zp_mn S k by omega] at this
        exact this
      · rw [if_neg c2] at hg
        rw [decide_eq_false c2]
        exact zp_t rfl (next σ' l h1 hg h3)
    · rw [if_neg c7] at hg
      refine zp_nt (fun z => c7 (zp_ninj (by omega) (by decide) z)) (zp_a_first (by omega) a1 ?_)
      have h137 : ¬ zp_opn S (zp_fs S k) (zp_ro S k i) (A (zp_pt S k i)) l.length (zp_mn S k - i - 1) = true → B_X7_gatherBool_137 Q (L_X7_gatherBool_9 Q u) (nI k) (nI i) (nI (zp_ro S k i)) (nI (A (zp_pt S k i))) σ' := by
        intro z
        rw [if_neg z] at hg
        exact zp_rowAdd h3 (by omega) (fun σ2 c2 hr2 => next σ2 _ (h1.tr c2) hg hr2)
      rw [zp_opn_eq] at h137 hg
      refine zp_canDissolve hw hN' n2 v2 hfs ?_
      cases c : zp_cd S (zp_fs S k) (zp_ro S k i) (A (zp_pt S k i))
      · rw [c] at h137
        exact zp_t rfl (h137 (by rw [Bool.false_and]; decide))
      · rw [c, Bool.true_and] at h137 hg
        refine zp_f (by decide) ?_
        unfold B_X6_size
        rw [h3.2.1]
        refine zp_a_size (by omega) b3 ?_
        rw [zp_nsb (by omega) (by omega), zp_n1 (by omega), nI_add, nI_add]
        by_cases d : l.length + zp_mn S (A (zp_pt S k i)) + (zp_mn S k - i - 1) ≤ 8
        · rw [if_pos (decide_eq_true d)] at hg
          refine zp_f (nI_nlt (a := 8) d (by decide)) ?_
          exact zp_dissolve h1 hw hN n2 v2 h3 (by omega) (fun σ2 c2 hr2 => next σ2 _ c2 hg hr2)
        · exact zp_t (nI_lt (a := 8) (by omega) (by omega)) (h137 (by rw [decide_eq_false d]; decide))
theorem zp_newBest {A : Nat → Nat} (hw : zp_wf n S) (hN : zp_NC σ n S) (hk : k < n) (e : zp_kd S k = 3) (hA : ∀ i, i < zp_mn S k → σ.1 41 (zp_pt S k i) = nI (A (zp_pt S k i)) ∧ A (zp_pt S k i) < n) (a : zp_aC σ n S (zp_rqt S k (zp_bst S A k (zp_mn S k))) Q) : B_X7_newOfBest Q (nI k) σ := by
  have hn := hw.1
  have w := hw.2 k hk
  have h8 := w.2.1
  have hfs := (w.2.2.2.2.2.2.1 e).1
  have hb := zp_bst_ok (S := S) (A := A) (k := k) (n := n) (fun i hi => (hA i hi).2)
  rintro σ1 rfl
  refine zp_for (L := fun u i σ' => L_X7_newOfBest_9 Q u (nI k) (nI i) σ') (zp_mn S k) (fun i σ' => zp_ch [42, 43, 44] σ σ' ∧ zp_rC σ' (zp_bst S A k i)) (fun u σ' h => ?_) (fun u i σ' hi h ih => ?_) 0 _ ⟨zp_ch.wi (by decide), Nat.zero_le _, zp_rs _ _ _ _, fun i hi => absurd hi (Nat.not_lt_zero _)⟩ (Nat.zero_le _)
  · obtain ⟨h1, h3⟩ := h
    obtain ⟨-, a1, -, a3, -⟩ := (hN.ch h1 (by decide)).2 k hk
    obtain ⟨b1, b2⟩ := hb _ (Nat.le_refl _)
    unfold L_X7_newOfBest_9
    refine zp_a_size (by omega) a3 ?_
    refine zp_t (nI_le (Nat.le_refl _) (by omega)) ?_
    unfold zp_rqt at a
    unfold B_X6_size
    rw [h3.2.1]
    by_cases c0 : (zp_bst S A k (zp_mn S k)).length = 0
    · rw [if_pos c0] at a
      exact zp_nf (by rw [c0]; rfl) (a.2.2 rfl σ' h1)
    · rw [if_neg c0] at a
      refine zp_nt (fun z => c0 (zp_ninj (by omega) (by decide) z)) ?_
      show (¬ σ'.1 42 2 = 1 → _) ∧ (σ'.1 42 2 = 1 → _)
      rw [h3.2.1]
      by_cases c1 : (zp_bst S A k (zp_mn S k)).length = 1
      · rw [if_pos c1] at a
        refine zp_nf (by rw [c1]; rfl) ⟨vp_in_nI (n := 0) (by decide) (by decide), ?_⟩
        show Q (σ'.1 44 0) σ'
        rw [(h3.2.2 0 (by omega)).2]
        exact zp_aC.inl h1 hN a
      · rw [if_neg c1] at a
        refine zp_nt (fun z => c1 (zp_ninj (by omega) (by decide) z)) (zp_a_first (by omega) a1 ?_)
        refine zp_aC.soR (kd := 3) h1 hw hN ?_ rfl h3 a
        exact ⟨by unfold zp_newok; omega, by omega, fun z => (by cases z), fun e he => ⟨(b2 e he).1, by have := (b2 e he).2; omega, fun _ => (b2 e he).2⟩⟩
  · obtain ⟨h1, h3⟩ := h
    obtain ⟨-, -, -, a3, a4⟩ := (hN.ch h1 (by decide)).2 k hk
    obtain ⟨v1, v2⟩ := w.2.2.1 i hi
    obtain ⟨n1, n2⟩ := hA i hi
    have wp := hw.2 _ n2
    have h7 := wp.1
    obtain ⟨b0, -, -, -, -⟩ := (hN.ch h1 (by decide)).2 _ n2
    have hlen := (hb i (by omega)).1
    have hg : zp_bst S A k (i + 1) = if zp_kd S (A (zp_pt S k i)) = 7 then zp_bst S A k i else zp_bst S A k i ++ [(3, A (zp_pt S k i))] := rfl
    unfold L_X7_newOfBest_9
    refine zp_a_size (by omega) a3 ?_
    refine zp_f (nI_ge hi (by omega)) ?_
    refine zp_a_partAt (by omega) (by omega) (a4 i hi).2 ⟨vp_in_nI (by omega) (by decide), ?_⟩
    rw [nI_clamp (n := zp_pt S k i) (by omega), (h1 41 (by decide)).1, n1]
    rintro v rfl
    refine zp_a_kind (by omega) b0 ?_
    unfold B_X7_newOfBest_58
    rw [nI_1]
    by_cases c7 : zp_kd S (A (zp_pt S k i)) = 7
    · rw [if_pos c7] at hg
      exact zp_t (by rw [c7]; rfl) (ih σ' ⟨h1, by rw [hg]; exact h3⟩)
    · rw [if_neg c7] at hg
      refine zp_f (fun z => c7 (zp_ninj (by omega) (by decide) z)) ?_
      exact zp_rowAdd (r := 3) h3 (by omega) (fun σ2 c2 hr2 => ih σ2 ⟨h1.tr c2, by rw [hg]; exact hr2⟩)
theorem zp_newOne {p : Nat} (hw : zp_wf n S) (hN : zp_NC σ n S) (hk : k < n) (e : zp_kd S k = 4 ∨ zp_kd S k = 5 ∨ zp_kd S k = 6) (hp : p < n) (ok : zp_rok n (zp_rqo S k p)) (a : zp_aC σ n S (zp_rqo S k p) Q) : B_X7_newOfOne Q (nI (zp_kd S k)) (nI p) (nI (zp_sc S k)) σ := by
  have hn := hw.1
  have wp := hw.2 p hp
  have h7 := wp.1
  obtain ⟨b0, b1, -, -, b4⟩ := hN.2 p hp
  have hrk : zp_rk (zp_kd S k) = false := by unfold zp_rk; rcases e with e | e | e <;> rw [e] <;> rfl
  unfold zp_rqo at a ok
  have k59 : ¬ (zp_kd S p = 7 ∨ (zp_kd S k = 6 ∧ zp_kd S p = 6)) → ¬ (zp_kd S p = 4 ∧ zp_kd S k ≠ 5) → B_X7_newOfOne_59 Q (nI (zp_kd S k)) (nI p) (nI (zp_sc S k)) σ := by
    intro z1 z2
    rw [if_neg z1, if_neg z2] at a ok
    exact zp_aC.so zp_ch.rf hw hN ok hrk a
  have k32 : ¬ (zp_kd S p = 7 ∨ (zp_kd S k = 6 ∧ zp_kd S p = 6)) → B_X7_newOfOne_32 Q (nI (zp_kd S k)) (nI p) (nI (zp_sc S k)) (nI (zp_kd S p)) σ := by
    intro z1
    by_cases c4 : zp_kd S p = 4
    · refine zp_nf (by rw [c4]; rfl) ?_
      by_cases c5 : zp_kd S k = 5
      · exact zp_t (by rw [c5]; rfl) (k59 z1 (fun z => z.2 c5))
      · refine zp_f (fun z => c5 (zp_ninj (by omega) (by decide) z)) ?_
        rw [if_neg z1, if_pos ⟨c4, c5⟩] at a ok
        obtain ⟨o1, o2, o3, o4⟩ := wp.one (Or.inl c4)
        have hx := (b4 0 (by omega)).2
        rw [o2] at hx
        exact zp_a_partAt (i := 0) (by omega) (by decide) hx (zp_aC.so zp_ch.rf hw hN ok hrk a)
    · exact zp_nt (fun z => c4 (zp_ninj (by omega) (by decide) z)) (k59 z1 (fun z => c4 z.1))
  refine zp_a_kind (by omega) b0 ?_
  by_cases c7 : zp_kd S p = 7
  · rw [if_pos (Or.inl c7)] at a
    exact zp_t (by rw [c7]; rfl) (zp_aC.inl zp_ch.rf hN a)
  · refine zp_f (fun z => c7 (zp_ninj (by omega) (by decide) z)) ?_
    by_cases c6 : zp_kd S k = 6
    · refine zp_nf (by rw [c6]; rfl) ?_
      by_cases d6 : zp_kd S p = 6
      · rw [if_pos (Or.inr ⟨c6, d6⟩)] at a
        exact zp_nf (by rw [d6]; rfl) (zp_aC.inl zp_ch.rf hN a)
      · exact zp_nt (fun z => d6 (zp_ninj (by omega) (by decide) z)) (k32 (by omega))
    · exact zp_nt (fun z => c6 (zp_ninj (by omega) (by decide) z)) (k32 (by omega))
end NEWC
