/-! The reference's LOOK: a turn at the last NODE of the pile. -/
theorem zp_cnt_pos {S : zp_S} {k : Nat} {a : Nat → Bool} : ∀ m, 0 < zp_cnt S k a m ↔ ∃ i, i < m ∧ zp_ro S k i = 3 ∧ a (zp_pt S k i) = true := by
  intro m
  induction m with
  | zero => exact ⟨fun h => absurd h (Nat.lt_irrefl _), fun ⟨i, hi, _⟩ => absurd hi (Nat.not_lt_zero _)⟩
  | succ m ih =>
    show 0 < zp_cnt S k a m + _ ↔ _
    by_cases e : zp_ro S k m = 3 ∧ a (zp_pt S k m) = true
    · rw [if_pos e]
      exact ⟨fun _ => ⟨m, by omega, e⟩, fun _ => by omega⟩
    · rw [if_neg e, Nat.add_zero, ih]
      constructor
      · rintro ⟨i, hi, z⟩; exact ⟨i, by omega, z⟩
      · rintro ⟨i, hi, z⟩
        by_cases c : i = m
        · subst c; exact absurd z e
        · exact ⟨i, by omega, z⟩
theorem zp_lst_any {S : zp_S} {k : Nat} {a : Nat → Bool} : ((List.range (zp_mn S k)).any (fun i => decide (zp_ro S k i < 2) || (decide (zp_ro S k i = 3) && a (zp_pt S k i))) && decide (zp_fs S k ≤ zp_cnt S k a (zp_mn S k))) = decide (zp_lst S k ≤ zp_cnt S k a (zp_mn S k)) := by
  rw [Bool.eq_iff_iff, Bool.and_eq_true, List.any_eq_true, decide_eq_true_iff, decide_eq_true_iff]
  unfold zp_lst
  by_cases c : (List.range (zp_mn S k)).any (fun i => decide (zp_ro S k i < 2)) = true
  · rw [if_pos c]
    refine ⟨fun z => z.2, fun z => ⟨?_, z⟩⟩
    rw [List.any_eq_true] at c
    obtain ⟨i, hi, hl⟩ := c
    exact ⟨i, hi, by rw [hl]; rfl⟩
  · rw [if_neg c]
    constructor
    · rintro ⟨⟨i, hi, z⟩, z2⟩
      rw [Bool.or_eq_true] at z
      rcases z with z | z
      · exact absurd (List.any_eq_true.mpr ⟨i, hi, z⟩) c
      · rw [Bool.and_eq_true] at z
        have := (zp_cnt_pos (zp_mn S k)).mpr ⟨i, List.mem_range.mp hi, of_decide_eq_true z.1, z.2⟩
        omega
    · intro z
      obtain ⟨i, hi, z1, z2⟩ := (zp_cnt_pos (zp_mn S k)).mp (show 0 < zp_cnt S k a (zp_mn S k) by omega)
      exact ⟨⟨i, List.mem_range.mpr hi, by rw [decide_eq_true z1, z2]; simp⟩, by omega⟩
section GOR
variable {σ0 σ : zv_St} {n o top ht k : Nat} {E : zp_E} {D M : Nat → Bool} {w st : Nat → Nat} {Q : zv_St → Prop}
theorem zp_stepG {s : Nat} (h : zp_GI σ0 n E o top ht σ D M w st) (hX : zp_RX σ0 n E o top) (hht : 0 < ht) (hk : w (ht - 1) = k) (hs : zp_SK (zv_wi σ 68 k (nI s)) E o D k s) : zp_GI σ0 n E o top ht (zv_wi σ 68 k (nI s)) D M w (zp_wu st k s) := by
  have htop := hX.2.2.2
  obtain ⟨⟨a1, a2, a3, a4⟩, ⟨b1, b2, b3, b4⟩, ⟨c1, c2, c3, c4, c5, c6⟩, d1, d2⟩ := h
  have m8 : ∀ j, M j = true → zp_mn E.1 j ≤ 8 := fun j hj => (hX.1.1.2 j (by have := (b3 j hj).1; omega)).2.1
  refine ⟨⟨a1.tr (zp_ch.wi (by decide)), fun f f1 f2 => ?_, a3, ?_⟩, ⟨b1.cg (zv_wi_n _ _ _ (by decide)) rfl, b2, b3, b4⟩, ⟨fun i hi => ?_, c2, c3, c4, c5, fun i hi hDi => ?_⟩, fun j => ?_, ?_⟩
  · rw [zp_rn _ _ _ _ (by decide)]; exact a2 f f1 f2
  · rw [zp_rn _ _ _ _ (by decide)]; exact a4
  · rw [zp_rn _ _ _ _ (by decide)]; exact c1 i hi
  · by_cases ck : w i = k
    · rw [ck, zp_wu_s]; exact hs
    · rw [zp_wu_n _ _ ck]
      exact (c6 i hi hDi).mono (m8 _ (c1 i hi).2) (fun _ z => z) (zp_rj _ _ ck) (fun j _ => by rw [zp_rn _ _ _ _ (by decide)])
  · rw [zp_rn _ _ _ _ (by decide)]; exact d1 j
  · rw [zp_rn _ _ _ _ (by decide), zv_wi_n _ _ _ (by decide)]; exact d2
/-- all ends of a turn -/
def zp_KQ (σ0 : zv_St) (n : Nat) (E : zp_E) (o top ph : Nat) (Q : zv_St → Prop) : Prop := ∀ σ' ht' D' M' w' st', zp_GI σ0 n E o top ht' σ' D' M' w' st' → zp_ph D' M' ht' < ph → Q σ'
theorem zp_set65 {x : Bool} {y : Int64} (h : zp_GI σ0 n E o top ht σ D M w st) (hX : zp_RX σ0 n E o top) (hht : 0 < ht) (hk : w (ht - 1) = k) (hDk : D k = false) (hv : ∀ p, zp_vis E o k p → D p = true) (ha : zp_ask E o k = false) (hx : x = (zp_V E o k).1) (hy : (zp_V E o k).1 = true → y = (zp_V E o k).2) {ph : Nat} (hph : zp_ph D M ht ≤ ph) (hK : zp_KQ σ0 n E o top ph Q) : Q (zv_wl (zv_wi σ 65 k (zp_bi x)) 66 k y) := by
  obtain ⟨g1, g2⟩ := zp_setG (σ' := zv_wl (zv_wi σ 65 k (zp_bi x)) 66 k y) h hX hht hk hDk hv ((zp_ch.wi (by decide)).tr (zp_ch.wl (by decide))) (fun f hf => by rw [zp_rl1, zp_rn _ _ _ _ (by decide)]) (zv_wl_n _ _ _ (by decide)) (by rw [zp_rl1, zp_rs, hx]) (fun z => by rw [zp_rl, if_pos ⟨rfl, rfl⟩]; exact hy z) (fun j hj => by rw [zp_rl1, zp_rj _ _ hj]) (fun j hj => by rw [zp_rl, if_neg (fun z => hj z.2)]; rfl) (fun j => by rw [zp_rl1, zp_rn _ _ _ _ (by decide), if_neg (fun z => by rw [ha] at z; cases z.2), Int32.add_zero]) (by rw [zp_rl1, zp_rn _ _ _ _ (by decide), if_neg (fun z => by rw [ha] at z; cases z), Int32.add_zero])
  exact hK _ _ _ _ _ _ g1 (by omega)
theorem zp_set65f (h : zp_GI σ0 n E o top ht σ D M w st) (hX : zp_RX σ0 n E o top) (hht : 0 < ht) (hk : w (ht - 1) = k) (hDk : D k = false) (hv : ∀ p, zp_vis E o k p → D p = true) (ha : zp_ask E o k = false) (hx : (zp_V E o k).1 = false) {ph : Nat} (hph : zp_ph D M ht ≤ ph) (hK : zp_KQ σ0 n E o top ph Q) : Q (zv_wi σ 65 k 0) := by
  obtain ⟨g1, g2⟩ := zp_setG (σ' := zv_wi σ 65 k 0) h hX hht hk hDk hv (zp_ch.wi (by decide)) (fun f hf => by rw [zp_rn _ _ _ _ (by decide)]) rfl (by rw [zp_rs, hx]; rfl) (fun z => by rw [hx] at z; cases z) (fun j hj => by rw [zp_rj _ _ hj]) (fun j hj => rfl) (fun j => by rw [zp_rn _ _ _ _ (by decide), if_neg (fun z => by rw [ha] at z; cases z.2), Int32.add_zero]) (by rw [zp_rn _ _ _ _ (by decide), if_neg (fun z => by rw [ha] at z; cases z), Int32.add_zero])
  exact hK _ _ _ _ _ _ g1 (by omega)
theorem zp_ask_n (h : zp_kd E.1 k ≠ 5) : zp_ask E o k = false := by unfold zp_ask; rw [decide_eq_false h]; simp
theorem zp_GI.last (h : zp_GI σ0 n E o top ht σ D M w st) (hht : 0 < ht) (hk : w (ht - 1) = k) (hDk : D k = false) : zp_SK σ E o D k (st k) ∧ k ≤ top := by
  obtain ⟨-, ⟨-, -, b3, -⟩, ⟨c1, -, -, -, -, c6⟩, -⟩ := h
  have h1 := c6 (ht - 1) (by omega)
  have h2 := (b3 _ (c1 (ht - 1) (by omega)).2).1
  rw [hk] at h1 h2
  exact ⟨h1 hDk, h2⟩
theorem zp_goBool (h : zp_GI σ0 n E o top ht σ D M w st) (hX : zp_RX σ0 n E o top) (hht : 0 < ht) (hk : w (ht - 1) = k) (hDk : D k = false) (e : zp_kd E.1 k = 2) (hK : zp_KQ σ0 n E o top (zp_ph D M ht) Q) : B_X11_goBool Q (nI k) σ := by
  have hn := hX.1.1.1
  have htop := hX.2.2.2
  obtain ⟨hsk, hkt⟩ := h.last hht hk hDk
  have hw := hX.1.1.2 k (by omega)
  obtain ⟨w0, w1, w2, -, -, w5, -⟩ := hX.1.1.2 k (by omega)
  have hm := hsk.1
  have hf8 := (w5 e).1
  have hin : vp_in (nI k) 80 := vp_in_nI (by omega) (by decide)
  have hV2 := zp_V2 hw hm e
  have hna : zp_ask E o k = false := zp_ask_n (by omega)
  have hKn : E.2.2.2 k = none := by
    cases c : E.2.2.2 k with
    | none => rfl
    | some p => have := hX.1.2.2.2.2.2 k (by omega) (by rw [c]; exact fun y => by cases y); omega
  generalize hph : zp_ph D M ht = ph at hK
  refine zp_for (L := fun u _ σ' => L_X11_goBool_0 Q u (nI k) σ') (zp_mn E.1 k) (fun s σ' => ∃ D M st, zp_GI σ0 n E o top ht σ' D M w st ∧ D k = false ∧ zp_ph D M ht ≤ ph ∧ st k = s) (fun u σ' g => ?_) (fun u s σ' hs g ih => ?_) (st k) σ ⟨D, M, st, h, hDk, by omega, rfl⟩ hsk.2.2.1
  · -- all parts are through
    obtain ⟨D, M, st, g, gD, gph, gs⟩ := g
    obtain ⟨⟨-, s68, -, s2, -⟩, -⟩ := g.last hht hk gD
    rw [gs] at s68 s2
    have hX' := g.rx hX
    obtain ⟨l0, l1, -, l4, l5⟩ := hX'.1.2.1.2 k (by omega)
    have hO := g.2.1.1
    refine ⟨hin, hin, ?_⟩
    rw [nI_clamp (by omega), l4, s68]
    refine zp_t (nI_le (Nat.le_refl _) (by omega)) ?_
    have hd : ∀ i, i < zp_mn E.1 k → zp_dn E o D k i ∧ zp_ok E o (zp_V E o) k i = true := by
      intro i hi
      obtain ⟨j, hj, rfl⟩ := zp_ord_ex (r := zp_rank E k) hi
      exact (s2 e).2 j hj
    have hv : ∀ p, zp_vis E o k p → D p = true := by
      rintro p ⟨-, -, hp⟩
      rcases hp with ⟨e2, -⟩ | ⟨-, j, hj, -, b2, rfl⟩
      · exact absurd e e2
      · rcases ((s2 e).2 j hj).1 with z | z
        · rw [b2] at z; cases z
        · exact z
    have hall : (List.range (zp_mn E.1 k)).all (zp_ok E o (zp_V E o) k) = true := List.all_eq_true.mpr (fun i hi => (hd i (List.mem_range.mp hi)).2)
    have hle : ∀ (a : Nat → Bool) i, zp_cnt E.1 k a i ≤ i := by
      intro a i
      induction i with
      | zero => exact Nat.le_refl _
      | succ i ih =>
        show zp_cnt E.1 k a i + _ ≤ _
        split <;> omega
    rw [zp_8m]
    have key := zp_for (L := fun u i (a : Int32 × Int32 × Int64) => L_X11_goBool_179 Q u (nI k) a.1 a.2.1 a.2.2 (nI (k * 8 + i)) σ') (zp_mn E.1 k) (fun i a => a = (nI (zp_cnt E.1 k (fun p => (zp_V E o p).1) i), zp_bi ((List.range i).any (fun i => decide (zp_ro E.1 k i < 2) || (decide (zp_ro E.1 k i = 3) && (zp_V E o (zp_pt E.1 k i)).1))), zp_ssum E (zp_V E o) k i)) (fun v a z => ?_) (fun v i a hi z ih2 => ?_) 0 (0, 0, 0) rfl (Nat.zero_le _)
    · exact key
    · subst z
      refine ⟨hin, ?_⟩
      rw [nI_clamp (by omega), l4, zp_8m, nI_add]
      refine zp_t (nI_le (Nat.le_refl _) (by omega)) ?_
      have hlst := zp_lst_any (S := E.1) (k := k) (a := fun p => (zp_V E o p).1)
      have hcl := hle (fun p => (zp_V E o p).1) (zp_mn E.1 k)
      have hV1 : (zp_V E o k).1 = decide (zp_lst E.1 k ≤ zp_cnt E.1 k (fun p => (zp_V E o p).1) (zp_mn E.1 k)) := by rw [hV2, hall]; rfl
      have fin : ∀ x, x = (zp_V E o k).1 → B_X11_goBool_334 Q (nI k) (zp_ssum E (zp_V E o) k (zp_mn E.1 k)) (nI k) (zp_bi x) σ' := by
        intro x hx
        refine ⟨hin, ?_⟩
        rw [nI_clamp (by omega)]
        rintro τ1 rfl
        refine ⟨hin, ?_⟩
        rintro τ2 rfl
        exact zp_set65 g hX hht hk gD hv hna hx (fun _ => by rw [hV2]) gph hK
      show (zp_bi ((List.range (zp_mn E.1 k)).any (fun i => decide (zp_ro E.1 k i < 2) || (decide (zp_ro E.1 k i = 3) && (zp_V E o (zp_pt E.1 k i)).1))) = 0 → _) ∧ _
      rw [zp_nb0]
      have hlst : ((List.range (zp_mn E.1 k)).any (fun i => decide (zp_ro E.1 k i < 2) || (decide (zp_ro E.1 k i = 3) && (zp_V E o (zp_pt E.1 k i)).1)) && decide (zp_fs E.1 k ≤ zp_cnt E.1 k (fun p => (zp_V E o p).1) (zp_mn E.1 k))) = decide (zp_lst E.1 k ≤ zp_cnt E.1 k (fun p => (zp_V E o p).1) (zp_mn E.1 k)) := hlst
      rw [← hlst] at hV1
      refine zp_by (fun c => ?_) (fun c => ⟨hin, ?_⟩)
      · rw [c] at hV1
        exact fin false hV1.symm
      · rw [Bool.not_eq_false] at c
        rw [c, Bool.true_and] at hV1
        rw [l1]
        by_cases c2 : zp_cnt E.1 k (fun p => (zp_V E o p).1) (zp_mn E.1 k) < zp_fs E.1 k
        · rw [decide_eq_false (by omega)] at hV1
          exact zp_t (nI_lt c2 (by omega)) (fin false hV1.symm)
        · rw [decide_eq_true (by omega)] at hV1
          exact zp_f (nI_nlt (by omega) (by omega)) (fin true hV1.symm)
    · subst z
      obtain ⟨v1, v2⟩ := w2 i hi
      obtain ⟨q1, q2⟩ := hd i hi
      have hinp : vp_in (nI (zp_pt E.1 k i)) 80 := vp_in_nI (by omega) (by decide)
      have hini : vp_in (nI (k * 8 + i)) 640 := vp_in_nI (by omega) (by decide)
      refine ⟨hin, ?_⟩
      rw [nI_clamp (n := k) (by omega), l4, zp_8m, nI_add]
      refine zp_f (nI_ge (by omega) (by omega)) ⟨hini, ?_⟩
      rw [nI_clamp (n := k * 8 + i) (by omega), (l5 i hi).1, (l5 i hi).2]
      have hcs : zp_cnt E.1 k (fun p => (zp_V E o p).1) (i + 1) = zp_cnt E.1 k (fun p => (zp_V E o p).1) i + (if zp_ro E.1 k i = 3 ∧ (zp_V E o (zp_pt E.1 k i)).1 = true then 1 else 0) := rfl
      have hss : zp_ssum E (zp_V E o) k (i + 1) = zp_ssum E (zp_V E o) k i + (if (zp_ro E.1 k i = 0 ∨ zp_ro E.1 k i = 3) ∧ (zp_V E o (zp_pt E.1 k i)).1 = true then (zp_V E o (zp_pt E.1 k i)).2 else 0) := rfl
      have has : (List.range (i + 1)).any (fun i => decide (zp_ro E.1 k i < 2) || (decide (zp_ro E.1 k i = 3) && (zp_V E o (zp_pt E.1 k i)).1)) = ((List.range i).any (fun i => decide (zp_ro E.1 k i < 2) || (decide (zp_ro E.1 k i = 3) && (zp_V E o (zp_pt E.1 k i)).1)) || (decide (zp_ro E.1 k i < 2) || (decide (zp_ro E.1 k i = 3) && (zp_V E o (zp_pt E.1 k i)).1))) := zp_any_succ
      generalize zp_cnt E.1 k (fun p => (zp_V E o p).1) i = cc at hcs ih2 ⊢
      generalize zp_ssum E (zp_V E o) k i = ss at hss ih2 ⊢
      generalize (List.range i).any (fun i => decide (zp_ro E.1 k i < 2) || (decide (zp_ro E.1 k i = 3) && (zp_V E o (zp_pt E.1 k i)).1)) = aa at has ih2 ⊢
      show (¬ nI (zp_ro E.1 k i) = 3 → B_X11_goBool_226 Q (L_X11_goBool_179 Q v) (nI k) (nI cc) (zp_bi aa) ss (nI (k * 8 + i)) σ') ∧ (nI (zp_ro E.1 k i) = 3 → vp_in (nI (k * 8 + i)) 640 ∧ vp_in (nI (zp_pt E.1 k i)) 80 ∧ (¬ σ'.1 65 (nI (zp_pt E.1 k i)).toNatClampNeg = 1 → B_X11_goBool_226 Q (L_X11_goBool_179 Q v) (nI k) (nI cc) (zp_bi aa) ss (nI (k * 8 + i)) σ') ∧ (σ'.1 65 (nI (zp_pt E.1 k i)).toNatClampNeg = 1 → B_X11_goBool_227 Q (L_X11_goBool_179 Q v) (nI k) (nI cc) (zp_bi aa) ss (nI (k * 8 + i)) 1 σ'))
      -- the sum, the flag, the count
      have h301 : ∀ (a' : Bool) (c' : Nat) (y : Int64), c' = zp_cnt E.1 k (fun p => (zp_V E o p).1) (i + 1) → a' = (List.range (i + 1)).any (fun i => decide (zp_ro E.1 k i < 2) || (decide (zp_ro E.1 k i = 3) && (zp_V E o (zp_pt E.1 k i)).1)) → ss + y = zp_ssum E (zp_V E o) k (i + 1) → B_X11_goBool_301 Q (L_X11_goBool_179 Q v) (nI k) (nI c') (zp_bi a') (nI (k * 8 + i)) ss y σ' := by
        intro a' c' y hc ha hy
        unfold B_X11_goBool_301
        rw [nI_1]
        exact ih2 (nI c', zp_bi a', ss + y) (by rw [hc, ha, hy])
      have h285 : ∀ (a' : Bool) (c' : Nat), D (zp_pt E.1 k i) = true → (zp_V E o (zp_pt E.1 k i)).1 = true → zp_ro E.1 k i = 0 ∨ zp_ro E.1 k i = 3 → c' = zp_cnt E.1 k (fun p => (zp_V E o p).1) (i + 1) → a' = (List.range (i + 1)).any (fun i => decide (zp_ro E.1 k i < 2) || (decide (zp_ro E.1 k i = 3) && (zp_V E o (zp_pt E.1 k i)).1)) → B_X11_goBool_285 Q (L_X11_goBool_179 Q v) (nI k) (nI c') (zp_bi a') (nI (k * 8 + i)) ss σ' := by
        intro a' c' hDp hVp hr hc ha
        refine ⟨hini, ?_⟩
        rw [nI_clamp (n := k * 8 + i) (by omega), (l5 i hi).2]
        refine ⟨hinp, ?_⟩
        rw [nI_clamp (by omega), ((hO (zp_pt E.1 k i) (by omega)).2 hDp).2 hVp]
        refine h301 a' c' _ hc ha ?_
        rw [hss, if_pos ⟨hr, hVp⟩]
      have h227 : ∀ x : Bool, x = (decide (zp_ro E.1 k i = 3) && (zp_V E o (zp_pt E.1 k i)).1) → (zp_ro E.1 k i = 3 → D (zp_pt E.1 k i) = true) → B_X11_goBool_227 Q (L_X11_goBool_179 Q v) (nI k) (nI cc) (zp_bi aa) ss (nI (k * 8 + i)) (zp_bi x) σ' := by
        intro x hx hD3
        have hcx : cc + (if x = true then 1 else 0) = zp_cnt E.1 k (fun p => (zp_V E o p).1) (i + 1) := by
          rw [hcs]
          congr 1
          subst hx
          by_cases c3 : zp_ro E.1 k i = 3
          · rw [decide_eq_true c3, Bool.true_and]
            exact ite_congr (propext ⟨fun z => ⟨c3, z⟩, fun z => z.2⟩) (fun _ => rfl) (fun _ => rfl)
          · rw [decide_eq_false c3, Bool.false_and, if_neg (by decide), if_neg (fun z => c3 z.1)]
        have h267 : ∀ a' : Bool, a' = (List.range (i + 1)).any (fun i => decide (zp_ro E.1 k i < 2) || (decide (zp_ro E.1 k i = 3) && (zp_V E o (zp_pt E.1 k i)).1)) → B_X11_goBool_267 Q (L_X11_goBool_179 Q v) (nI k) (nI (cc + (if x = true then 1 else 0))) ss (nI (k * 8 + i)) (zp_bi x) (zp_bi a') σ' := by
          intro a' ha
          unfold B_X11_goBool_267
          rw [zp_nb0]
          cases hxx : x
          · rw [hxx] at hx hcx
            refine zp_nf rfl ⟨hini, ?_⟩
            rw [nI_clamp (n := k * 8 + i) (by omega), (l5 i hi).1]
            by_cases c0 : zp_ro E.1 k i = 0
            · refine zp_nf (by rw [c0]; rfl) ?_
              have hfr := zp_fr_n (E := E) (o := o) (k := k) (i := i) (by omega)
              have hVp : (zp_V E o (zp_pt E.1 k i)).1 = true := by
                unfold zp_ok zp_hb at q2
                rw [hfr, Bool.or_false, decide_eq_false (by omega), Bool.false_or, decide_eq_true (by omega)] at q2
                exact eq_of_beq q2
              have hDp : D (zp_pt E.1 k i) = true := by
                rcases q1 with z | z
                · rw [hfr] at z; cases z
                · exact z
              exact h285 a' _ hDp hVp (Or.inl c0) hcx ha
            · refine zp_nt (fun z => c0 (zp_ninj (by omega) (by decide) z)) (h301 a' _ 0 hcx ha ?_)
              rw [hss, if_neg]
              rintro ⟨z1, z2⟩
              have c3 : zp_ro E.1 k i = 3 := by omega
              rw [decide_eq_true c3, z2] at hx
              cases hx
          · rw [hxx] at hx hcx
            have hx' := (Bool.and_eq_true _ _ ▸ hx.symm)
            have c3 := of_decide_eq_true hx'.1
            exact zp_nt (by decide) (h285 a' _ (hD3 c3) hx'.2 (Or.inr c3) hcx ha)
        have h240 : B_X11_goBool_240 Q (L_X11_goBool_179 Q v) (nI k) (zp_bi aa) ss (nI (k * 8 + i)) (zp_bi x) (nI cc) (nI (if x = true then 1 else 0)) σ' := by
          unfold B_X11_goBool_240 B_X11_goBool_262
          rw [nI_add, zp_nb0, zp_nb0]
          cases haa : aa
          · rw [haa] at has
            refine zp_nf rfl ?_
            cases hxx : x
            · rw [hxx] at h267 hx
              refine zp_nf rfl ⟨hini, ?_⟩
              rw [nI_clamp (n := k * 8 + i) (by omega), (l5 i hi).1]
              by_cases c2 : zp_ro E.1 k i < 2
              · refine zp_f (nI_ge (b := 2) c2 (by decide)) (h267 true ?_)
                rw [has, decide_eq_true c2]; rfl
              · refine zp_t (nI_le (a := 2) (by omega) (by omega)) (h267 false ?_)
                rw [has, decide_eq_false c2, ← hx]; rfl
            · rw [hxx] at h267 hx
              refine zp_nt (by decide) (h267 true ?_)
              rw [has, ← hx]; simp
          · rw [haa] at has
            exact zp_nt (by decide) (h267 true (by rw [has]; rfl))
        unfold B_X11_goBool_227
        rw [zp_nb0]
        cases hxx : x
        · rw [hxx] at h240; exact zp_t rfl h240
        · rw [hxx] at h240; exact zp_f (by decide) h240
      by_cases c3 : zp_ro E.1 k i = 3
      · have hDp : D (zp_pt E.1 k i) = true := by
          rcases q1 with z | z
          · rw [zp_fr_n (by omega)] at z; cases z
          · exact z
        refine zp_nf (by rw [c3]; rfl) ⟨hini, hinp, ?_⟩
        rw [nI_clamp (by omega), ((hO (zp_pt E.1 k i) (by omega)).2 hDp).1, zp_bi1']
        cases hVp : (zp_V E o (zp_pt E.1 k i)).1
        · exact zp_nt (by decide) (h227 false (by rw [hVp, Bool.and_false]) (fun _ => hDp))
        · exact zp_nf rfl (h227 true (by rw [hVp, decide_eq_true c3]; rfl) (fun _ => hDp))
      · exact zp_nt (fun z => c3 (zp_ninj (by omega) (by decide) z)) (h227 false (by rw [decide_eq_false c3]; rfl) (fun z => absurd z c3))
  · -- a step
    obtain ⟨D, M, st, g, gD, gph, gs⟩ := g
    obtain ⟨⟨-, s68, -, s2, -⟩, -⟩ := g.last hht hk gD
    rw [gs] at s68 s2
    obtain ⟨s2a, s2b⟩ := s2 e
    have hX' := g.rx hX
    obtain ⟨l0, l1, -, l4, l5⟩ := hX'.1.2.1.2 k (by omega)
    have hO := g.2.1.1
    have hoi : zp_oi E k s < zp_mn E.1 k := zp_ord_lt hs
    obtain ⟨v1, v2⟩ := w2 _ hoi
    have hinp : vp_in (nI (zp_pt E.1 k (zp_oi E k s))) 80 := vp_in_nI (by omega) (by decide)
    refine ⟨hin, hin, ?_⟩
    rw [nI_clamp (n := k) (by omega), l4, s68]
    refine zp_f (nI_ge hs (by omega)) ⟨hin, ?_⟩
    rw [zp_8m, nI_add]
    refine ⟨vp_in_nI (by omega) (by decide), ?_⟩
    rw [nI_clamp (n := k * 8 + s) (by omega), s2a s hs, nI_add]
    rintro x rfl
    refine ⟨vp_in_nI (by omega) (by decide), ?_⟩
    rw [nI_clamp (n := k * 8 + zp_oi E k s) (by omega), (l5 _ hoi).1, (l5 _ hoi).2]
    rintro x rfl
    refine ⟨vp_in_nI (by omega) (by decide), ?_⟩
    rintro x rfl
    -- what comes behind the answer
    have h121 : ∀ τ D M, zp_GI σ0 n E o top ht τ D M w st → D k = false → zp_ph D M ht ≤ ph → zp_dn E o D k (zp_oi E k s) → ∀ b, b = zp_hb E o (zp_V E o) k (zp_oi E k s) → B_X11_goBool_121 Q (L_X11_goBool_0 Q u) (nI k) (nI (zp_ro E.1 k (zp_oi E k s))) (zp_bi b) τ := by
      intro τ D M gg ggD ggph hd b hb
      obtain ⟨⟨-, t68, -, t2, -⟩, -⟩ := gg.last hht hk ggD
      rw [gs] at t68 t2
      have h153 : zp_ok E o (zp_V E o) k (zp_oi E k s) = true → B_X11_goBool_153 Q (L_X11_goBool_0 Q u) (nI k) τ := by
        intro hok
        refine ⟨hin, hin, ?_⟩
        rw [nI_clamp (by omega), t68, nI_1]
        rintro τ1 rfl
        refine ih _ ⟨D, M, zp_wu st k (s + 1), zp_stepG gg hX hht hk ⟨hm, zp_rs _ _ _ _, hs, fun _ => ⟨fun i hi => by rw [zp_rn _ _ _ _ (by decide)]; exact (t2 e).1 i hi, fun j hj => ?_⟩, fun z => by omega⟩, ggD, ggph, zp_wu_s _ _ _⟩
        by_cases cj : j = s
        · subst cj; exact ⟨hd, hok⟩
        · exact (t2 e).2 j (by omega)
      have h145 : zp_ok E o (zp_V E o) k (zp_oi E k s) = false → B_X11_goBool_145 Q (nI k) τ := by
        intro hok
        refine ⟨hin, ?_⟩
        rw [nI_clamp (by omega)]
        rintro τ1 rfl
        refine zp_set65f gg hX hht hk ggD (fun p hp => ?_) hna ?_ ggph hK
        · obtain ⟨-, -, hp⟩ := hp
          rcases hp with ⟨e2, -⟩ | ⟨-, j2, hj2, b1, b2, rfl⟩
          · exact absurd e e2
          · have : j2 ≤ s := by
              refine Nat.le_of_not_lt (fun c => ?_)
              have := b1 s c
              rw [hok] at this
              cases this
            by_cases c : j2 = s
            · subst c
              rcases hd with z | z
              · rw [b2] at z; cases z
              · exact z
            · rcases ((t2 e).2 j2 (by omega)).1 with z | z
              · rw [b2] at z; cases z
              · exact z
        · rw [hV2]
          have : (List.range (zp_mn E.1 k)).all (zp_ok E o (zp_V E o) k) = false := by
            cases c : (List.range (zp_mn E.1 k)).all (zp_ok E o (zp_V E o) k)
            · rfl
            · have := List.all_eq_true.mp c _ (List.mem_range.mpr hoi)
              rw [hok] at this; cases this
          rw [this]; rfl
      have hok : zp_ok E o (zp_V E o) k (zp_oi E k s) = (decide (zp_ro E.1 k (zp_oi E k s) = 3) || (b == decide (zp_ro E.1 k (zp_oi E k s) < 2))) := by rw [hb]; rfl
      unfold B_X11_goBool_121 B_X11_goBool_134
      rw [zp_nb0]
      by_cases c2 : zp_ro E.1 k (zp_oi E k s) < 2
      · rw [decide_eq_false (by omega), Bool.false_or, decide_eq_true c2] at hok
        refine zp_f (nI_ge (b := 2) c2 (by decide)) ?_
        cases b
        · exact zp_t rfl (h145 hok)
        · exact zp_f (by decide) (zp_nt (fun z => by have := zp_ninj (b := 2) (by omega) (by decide) z; omega) (h153 hok))
      · refine zp_t (nI_le (a := 2) (by omega) (by omega)) ?_
        by_cases c3 : zp_ro E.1 k (zp_oi E k s) = 3
        · rw [decide_eq_true c3] at hok
          exact zp_nt (fun z => by have := zp_ninj (b := 2) (by omega) (by decide) z; omega) (h153 hok)
        · have ce : zp_ro E.1 k (zp_oi E k s) = 2 := by omega
          rw [decide_eq_false c3, Bool.false_or, decide_eq_false c2] at hok
          refine zp_nf (by rw [ce]; rfl) ?_
          cases b
          · exact zp_t rfl (h153 hok)
          · exact zp_f (by decide) (h145 hok)
    have h78t : zp_fr E o k (zp_oi E k s) = true → B_X11_goBool_78 Q (L_X11_goBool_0 Q u) (nI k) (nI (zp_pt E.1 k (zp_oi E k s))) (nI (zp_ro E.1 k (zp_oi E k s))) 1 σ' := by
      intro hf
      refine zp_nt (by decide) (zp_nt (by decide) (h121 σ' D M g gD gph (Or.inl hf) true ?_))
      unfold zp_hb; rw [hf, Bool.or_true]
    have h77 : zp_fr E o k (zp_oi E k s) = false → B_X11_goBool_77 Q (L_X11_goBool_0 Q u) (nI k) (nI (zp_pt E.1 k (zp_oi E k s))) (nI (zp_ro E.1 k (zp_oi E k s))) σ' := by
      intro hf
      have hhb : zp_hb E o (zp_V E o) k (zp_oi E k s) = (zp_V E o (zp_pt E.1 k (zp_oi E k s))).1 := by unfold zp_hb; rw [hf, Bool.or_false]
      have aft : ∀ τ D M, zp_GI σ0 n E o top ht τ D M w st → D k = false → zp_ph D M ht ≤ ph → D (zp_pt E.1 k (zp_oi E k s)) = true → vp_in (nI (zp_pt E.1 k (zp_oi E k s))) 80 ∧ (¬ (τ.1 65 (nI (zp_pt E.1 k (zp_oi E k s))).toNatClampNeg) = (-1) → (B_X11_goBool_101 Q (L_X11_goBool_0 Q u) (nI k) (nI (zp_pt E.1 k (zp_oi E k s))) (nI (zp_ro E.1 k (zp_oi E k s))) 0 τ)) ∧ ((τ.1 65 (nI (zp_pt E.1 k (zp_oi E k s))).toNatClampNeg) = (-1) → (Q τ)) := by
        intro τ D M gg ggD ggph hDp
        refine ⟨hinp, ?_⟩
        have hO2 := gg.2.1.1
        have t65 := ((hO2 (zp_pt E.1 k (zp_oi E k s)) (by omega)).2 hDp).1
        rw [nI_clamp (by omega), t65]
        refine zp_nt (zp_bi1 _) (zp_nf rfl ⟨hinp, ?_⟩)
        rw [nI_clamp (by omega), t65, zp_bi1']
        cases hVp : (zp_V E o (zp_pt E.1 k (zp_oi E k s))).1
        · exact zp_nt (by decide) (h121 τ D M gg ggD ggph (Or.inr hDp) false (by rw [hhb, hVp]))
        · exact zp_nf rfl (h121 τ D M gg ggD ggph (Or.inr hDp) true (by rw [hhb, hVp]))
      refine zp_nf rfl ?_
      refine zp_comeG g hX hht hk gD ⟨hm, hKn, Or.inr ⟨e, s, hs, fun j hj => (s2b j hj).2, hf, rfl⟩⟩ (fun hDp => aft σ' D M g gD gph hDp) (fun τ t68 hDp gg gl => ?_) (fun τ w' st' hDp gg gl => ?_)
      · refine aft τ _ _ gg ?_ (by omega) (if_pos rfl)
        show (if k = _ then true else D k) = false
        rw [if_neg (by omega)]; exact gD
      · refine ⟨hinp, ?_⟩
        rw [nI_clamp (by omega), (gg.2.1.1).m1 (by omega)]
        exact zp_nf hDp (hK _ _ _ _ _ _ gg (by omega))
    have hS64 := (hX'.2.1 (zp_pt E.1 k (zp_oi E k s)) (by omega)).2
    have h64 : zp_ro E.1 k (zp_oi E k s) = 1 ∨ zp_ro E.1 k (zp_oi E k s) = 2 → B_X11_goBool_64 Q (L_X11_goBool_0 Q u) (nI k) (nI (zp_pt E.1 k (zp_oi E k s))) (nI (zp_ro E.1 k (zp_oi E k s))) σ' := by
      intro hr
      refine ⟨hinp, ?_⟩
      rw [nI_clamp (by omega), hS64, zp_nb0]
      have hfr : zp_fr E o k (zp_oi E k s) = zp_sure E o (zp_pt E.1 k (zp_oi E k s)) := by unfold zp_fr; rw [decide_eq_true hr, Bool.true_and]
      cases hc : zp_sure E o (zp_pt E.1 k (zp_oi E k s))
      · exact zp_t rfl (h77 (by rw [hfr, hc]))
      · exact zp_f (by decide) (h78t (by rw [hfr, hc]))
    by_cases c1 : zp_ro E.1 k (zp_oi E k s) = 1
    · exact zp_t (by rw [c1]; rfl) (h64 (Or.inl c1))
    · refine zp_f (fun z => c1 (zp_ninj (by omega) (by decide) z)) ?_
      by_cases c2 : zp_ro E.1 k (zp_oi E k s) = 2
      · exact zp_nf (by rw [c2]; rfl) (h64 (Or.inr c2))
      · exact zp_nt (fun z => c2 (zp_ninj (by omega) (by decide) z)) (h77 (zp_fr_n (by omega)))
end GOR
