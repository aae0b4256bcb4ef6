/-! What a LOOK finds of a NODE: a table filled upward; and which NODES it comes to. -/
abbrev zp_T : Type := Nat → Bool × Int64
/-- a FILTER or NOT that is SURE -/
def zp_fr (E : zp_E) (o k i : Nat) : Bool := decide (zp_ro E.1 k i = 1 ∨ zp_ro E.1 k i = 2) && zp_sure E o (zp_pt E.1 k i)
def zp_hb (E : zp_E) (o : Nat) (t : zp_T) (k i : Nat) : Bool := (t (zp_pt E.1 k i)).1 || zp_fr E o k i
/-- what a MUST, FILTER or NOT asks for is so -/
def zp_ok (E : zp_E) (o : Nat) (t : zp_T) (k i : Nat) : Bool := decide (zp_ro E.1 k i = 3) || (zp_hb E o t k i == decide (zp_ro E.1 k i < 2))
def zp_ssum (E : zp_E) (t : zp_T) (k : Nat) : Nat → Int64
  | 0 => 0
  | i + 1 => zp_ssum E t k i + (if (zp_ro E.1 k i = 0 ∨ zp_ro E.1 k i = 3) ∧ (t (zp_pt E.1 k i)).1 = true then (t (zp_pt E.1 k i)).2 else 0)
def zp_bsum (E : zp_E) (t : zp_T) (k : Nat) : Nat → Int64
  | 0 => 0
  | i + 1 => if (t (zp_pt E.1 k i)).1 = true then zp_bsum E t k i + (t (zp_pt E.1 k i)).2 else zp_bsum E t k i
def zp_bmx (E : zp_E) (t : zp_T) (k : Nat) : Nat → Option Int64
  | 0 => none
  | i + 1 => if (t (zp_pt E.1 k i)).1 = true then (match zp_bmx E t k i with
    | none => some (t (zp_pt E.1 k i)).2
    | some m => some (if m < (t (zp_pt E.1 k i)).2 then (t (zp_pt E.1 k i)).2 else m)) else zp_bmx E t k i
def zp_best (g s : Int64) (f : Nat) : Int64 := g + (((s - g) * (Int32.toInt64 (nI f))) / 100)
def zp_pass (x y : Int32) : Bool := decide (¬ (x - x / 1000 * 1000) ≤ (((x / 1000000) * y) - ((x / 1000000) * y) / ((x / 1000) - (x / 1000) / 1000 * 1000) * ((x / 1000) - (x / 1000) / 1000 * 1000)))
def zp_v1 (E : zp_E) (o : Nat) (t : zp_T) (k : Nat) : Bool × Int64 := if zp_may E o k = true then (match zp_kd E.1 k with
  | 0 => (true, Int32.toInt64 (zp_ow (E.2.1 (zp_fs E.1 k) o)))
  | 2 => ((List.range (zp_mn E.1 k)).all (zp_ok E o t k) && decide (zp_lst E.1 k ≤ zp_cnt E.1 k (fun p => (t p).1) (zp_mn E.1 k)), zp_ssum E t k (zp_mn E.1 k))
  | 3 => ((zp_bmx E t k (zp_mn E.1 k)).isSome, zp_best ((zp_bmx E t k (zp_mn E.1 k)).getD 0) (zp_bsum E t k (zp_mn E.1 k)) (zp_fs E.1 k))
  | 4 => ((t (zp_fs E.1 k)).1, Int32.toInt64 (nI (zp_sc E.1 k)))
  | 5 => ((t (zp_fs E.1 k)).1 && zp_pass (nI (zp_sc E.1 k)) (nI o), (t (zp_fs E.1 k)).2)
  | 6 => match E.2.2.2 k with
    | some _ => (true, 0)
    | none => ((t (zp_fs E.1 k)).1, 0)
  | _ => (true, 0)) else (false, 0)
def zp_vt (E : zp_E) (o : Nat) : Nat → zp_T
  | 0 => fun _ => (false, 0)
  | k + 1 => fun j => if j = k then zp_v1 E o (zp_vt E o k) k else zp_vt E o k j
def zp_V (E : zp_E) (o k : Nat) : Bool × Int64 := zp_vt E o (k + 1) k
theorem zp_vt_at (E : zp_E) (o : Nat) {m j : Nat} (h : j < m) : zp_vt E o m j = zp_V E o j := by
  induction m with
  | zero => omega
  | succ m ih =>
    by_cases e : j = m
    · subst e; rfl
    · show (if j = m then _ else _) = _
      rw [if_neg e]
      exact ih (by omega)
section VT
variable {E : zp_E} {o k : Nat} {t t' : zp_T}
theorem zp_ssum_t (h : ∀ i, i < zp_mn E.1 k → t (zp_pt E.1 k i) = t' (zp_pt E.1 k i)) : ∀ m, m ≤ zp_mn E.1 k → zp_ssum E t k m = zp_ssum E t' k m := by
  intro m
  induction m with
  | zero => intro _; rfl
  | succ m ih =>
    intro hm
    show zp_ssum E t k m + _ = zp_ssum E t' k m + _
    rw [ih (by omega), h m (by omega)]
theorem zp_bsum_t (h : ∀ i, i < zp_mn E.1 k → t (zp_pt E.1 k i) = t' (zp_pt E.1 k i)) : ∀ m, m ≤ zp_mn E.1 k → zp_bsum E t k m = zp_bsum E t' k m := by
  intro m
  induction m with
  | zero => intro _; rfl
  | succ m ih =>
    intro hm
    show (if (t (zp_pt E.1 k m)).1 = true then zp_bsum E t k m + (t (zp_pt E.1 k m)).2 else zp_bsum E t k m) = (if (t' (zp_pt E.1 k m)).1 = true then zp_bsum E t' k m + (t' (zp_pt E.1 k m)).2 else zp_bsum E t' k m)
    rw [ih (by omega), h m (by omega)]
theorem zp_bmx_t (h : ∀ i, i < zp_mn E.1 k → t (zp_pt E.1 k i) = t' (zp_pt E.1 k i)) : ∀ m, m ≤ zp_mn E.1 k → zp_bmx E t k m = zp_bmx E t' k m := by
  intro m
  induction m with
  | zero => intro _; rfl
  | succ m ih =>
    intro hm
    show (if (t (zp_pt E.1 k m)).1 = true then (match zp_bmx E t k m with | none => some (t (zp_pt E.1 k m)).2 | some q => some (if q < (t (zp_pt E.1 k m)).2 then (t (zp_pt E.1 k m)).2 else q)) else zp_bmx E t k m) = (if (t' (zp_pt E.1 k m)).1 = true then (match zp_bmx E t' k m with | none => some (t' (zp_pt E.1 k m)).2 | some q => some (if q < (t' (zp_pt E.1 k m)).2 then (t' (zp_pt E.1 k m)).2 else q)) else zp_bmx E t' k m)
    rw [ih (by omega), h m (by omega)]
theorem zp_cnt_t {S : zp_S} {k : Nat} {a a' : Nat → Bool} (h : ∀ i, i < zp_mn S k → a (zp_pt S k i) = a' (zp_pt S k i)) : ∀ m, m ≤ zp_mn S k → zp_cnt S k a m = zp_cnt S k a' m := by
  intro m
  induction m with
  | zero => intro _; rfl
  | succ m ih =>
    intro hm
    show zp_cnt S k a m + _ = zp_cnt S k a' m + _
    rw [ih (by omega), h m (by omega)]
theorem zp_v1_t (hw : zp_wf1 E.1 k) (h : ∀ p, p < k → t p = t' p) : zp_v1 E o t k = zp_v1 E o t' k := by
  have hp : ∀ i, i < zp_mn E.1 k → t (zp_pt E.1 k i) = t' (zp_pt E.1 k i) := fun i hi => h _ (hw.2.2.1 i hi).1
  have h7 := hw.1
  unfold zp_v1
  by_cases hm : zp_may E o k = true
  · rw [if_pos hm, if_pos hm]
    rcases (show zp_kd E.1 k = 0 ∨ zp_kd E.1 k = 1 ∨ zp_kd E.1 k = 2 ∨ zp_kd E.1 k = 3 ∨ zp_kd E.1 k = 4 ∨ zp_kd E.1 k = 5 ∨ zp_kd E.1 k = 6 ∨ zp_kd E.1 k = 7 by omega) with e | e | e | e | e | e | e | e
    · rw [e]; rfl
    · rw [e]; rfl
    · rw [e]
      show (_ && decide (_ ≤ zp_cnt E.1 k (fun p => (t p).1) _), zp_ssum E t k _) = (_ && decide (_ ≤ zp_cnt E.1 k (fun p => (t' p).1) _), zp_ssum E t' k _)
      rw [zp_ssum_t hp _ (Nat.le_refl _), zp_cnt_t (a := fun p => (t p).1) (a' := fun p => (t' p).1) (fun i hi => by rw [hp i hi]) _ (Nat.le_refl _), zp_all_congr (f := zp_ok E o t k) (g := zp_ok E o t' k) (fun i hi => by unfold zp_ok zp_hb; rw [hp i hi])]
    · rw [e]
      show ((zp_bmx E t k _).isSome, zp_best ((zp_bmx E t k _).getD 0) (zp_bsum E t k _) _) = ((zp_bmx E t' k _).isSome, zp_best ((zp_bmx E t' k _).getD 0) (zp_bsum E t' k _) _)
      rw [zp_bmx_t hp _ (Nat.le_refl _), zp_bsum_t hp _ (Nat.le_refl _)]
    · rw [e]
      show ((t (zp_fs E.1 k)).1, _) = ((t' (zp_fs E.1 k)).1, _)
      rw [h _ (hw.one (by omega)).2.2.2]
    · rw [e]
      show ((t (zp_fs E.1 k)).1 && _, (t (zp_fs E.1 k)).2) = ((t' (zp_fs E.1 k)).1 && _, (t' (zp_fs E.1 k)).2)
      rw [h _ (hw.one (by omega)).2.2.2]
    · rw [e]
      show (match E.2.2.2 k with | some _ => (true, 0) | none => ((t (zp_fs E.1 k)).1, (0 : Int64))) = (match E.2.2.2 k with | some _ => (true, 0) | none => ((t' (zp_fs E.1 k)).1, (0 : Int64)))
      rw [h _ (hw.one (by omega)).2.2.2]
    · rw [e]; rfl
  · rw [if_neg hm, if_neg hm]
theorem zp_Vs (hw : zp_wf1 E.1 k) : zp_V E o k = zp_v1 E o (zp_V E o) k := by
  show (if k = k then _ else _) = _
  rw [if_pos rfl]
  exact zp_v1_t hw (fun p hp => zp_vt_at E o hp)
theorem zp_Vn (hw : zp_wf1 E.1 k) (h : zp_may E o k = false) : zp_V E o k = (false, 0) := by
  rw [zp_Vs hw]; unfold zp_v1; rw [if_neg (by rw [h]; decide)]
theorem zp_V0 (hw : zp_wf1 E.1 k) (h : zp_may E o k = true) (e : zp_kd E.1 k = 0) : zp_V E o k = (true, Int32.toInt64 (zp_ow (E.2.1 (zp_fs E.1 k) o))) := by
  rw [zp_Vs hw]; unfold zp_v1; rw [if_pos h, e]; rfl
theorem zp_V1 (hw : zp_wf1 E.1 k) (h : zp_may E o k = true) (e : zp_kd E.1 k = 1) : zp_V E o k = (true, 0) := by
  rw [zp_Vs hw]; unfold zp_v1; rw [if_pos h, e]; rfl
theorem zp_V2 (hw : zp_wf1 E.1 k) (h : zp_may E o k = true) (e : zp_kd E.1 k = 2) : zp_V E o k = ((List.range (zp_mn E.1 k)).all (zp_ok E o (zp_V E o) k) && decide (zp_lst E.1 k ≤ zp_cnt E.1 k (fun p => (zp_V E o p).1) (zp_mn E.1 k)), zp_ssum E (zp_V E o) k (zp_mn E.1 k)) := by
  rw [zp_Vs hw]; unfold zp_v1; rw [if_pos h, e]; rfl
theorem zp_V3 (hw : zp_wf1 E.1 k) (h : zp_may E o k = true) (e : zp_kd E.1 k = 3) : zp_V E o k = ((zp_bmx E (zp_V E o) k (zp_mn E.1 k)).isSome, zp_best ((zp_bmx E (zp_V E o) k (zp_mn E.1 k)).getD 0) (zp_bsum E (zp_V E o) k (zp_mn E.1 k)) (zp_fs E.1 k)) := by
  rw [zp_Vs hw]; unfold zp_v1; rw [if_pos h, e]; rfl
theorem zp_V4 (hw : zp_wf1 E.1 k) (h : zp_may E o k = true) (e : zp_kd E.1 k = 4) : zp_V E o k = ((zp_V E o (zp_fs E.1 k)).1, Int32.toInt64 (nI (zp_sc E.1 k))) := by
  rw [zp_Vs hw]; unfold zp_v1; rw [if_pos h, e]; rfl
theorem zp_V5 (hw : zp_wf1 E.1 k) (h : zp_may E o k = true) (e : zp_kd E.1 k = 5) : zp_V E o k = ((zp_V E o (zp_fs E.1 k)).1 && zp_pass (nI (zp_sc E.1 k)) (nI o), (zp_V E o (zp_fs E.1 k)).2) := by
  rw [zp_Vs hw]; unfold zp_v1; rw [if_pos h, e]; rfl
theorem zp_V6s (hw : zp_wf1 E.1 k) (h : zp_may E o k = true) (e : zp_kd E.1 k = 6) (q : E.2.2.2 k ≠ none) : zp_V E o k = (true, 0) := by
  rw [zp_Vs hw]; unfold zp_v1; rw [if_pos h, e]
  show (match E.2.2.2 k with | some _ => (true, 0) | none => (_, (0 : Int64))) = _
  cases hq : E.2.2.2 k with
  | none => exact absurd hq q
  | some p => rfl
theorem zp_V6n (hw : zp_wf1 E.1 k) (h : zp_may E o k = true) (e : zp_kd E.1 k = 6) (q : E.2.2.2 k = none) : zp_V E o k = ((zp_V E o (zp_fs E.1 k)).1, 0) := by
  rw [zp_Vs hw]; unfold zp_v1; rw [if_pos h, e]
  show (match E.2.2.2 k with | some _ => (true, 0) | none => (_, (0 : Int64))) = _
  rw [q]
end VT
/-- the j-th place in order -/
abbrev zp_oi (E : zp_E) (k j : Nat) : Nat := (zp_ord (zp_rank E k) (zp_mn E.1 k)).getD j 0
/-- whom a NODE that a LOOK comes to makes it come to -/
def zp_vis (E : zp_E) (o k p : Nat) : Prop := zp_may E o k = true ∧ E.2.2.2 k = none ∧ ((zp_kd E.1 k ≠ 2 ∧ ∃ i, i < zp_mn E.1 k ∧ p = zp_pt E.1 k i) ∨ (zp_kd E.1 k = 2 ∧ ∃ j, j < zp_mn E.1 k ∧ (∀ j', j' < j → zp_ok E o (zp_V E o) k (zp_oi E k j') = true) ∧ zp_fr E o k (zp_oi E k j) = false ∧ p = zp_pt E.1 k (zp_oi E k j)))
/-- all that a LOOK at the top comes to -/
def zp_inR (E : zp_E) (o top k : Nat) : Prop := ∀ P : Nat → Prop, P top → (∀ k p, P k → zp_vis E o k p → P p) → P k
theorem zp_inR.top {E : zp_E} {o top : Nat} : zp_inR E o top top := fun _ h _ => h
theorem zp_inR.vis {E : zp_E} {o top k p : Nat} (h : zp_inR E o top k) (hv : zp_vis E o k p) : zp_inR E o top p := fun P h1 h2 => h2 k p (h P h1 h2) hv
theorem zp_vis.part {E : zp_E} {o k p n : Nat} (hw : zp_wf n E.1) (hk : k < n) (h : zp_vis E o k p) : p < k := by
  obtain ⟨-, -, h⟩ := h
  rcases h with ⟨-, i, hi, rfl⟩ | ⟨-, j, hj, -, -, rfl⟩
  · exact ((hw.2 k hk).2.2.1 i hi).1
  · exact ((hw.2 k hk).2.2.1 _ (zp_ord_lt hj)).1
/-- the LOOK asks this TEST -/
def zp_ask (E : zp_E) (o k : Nat) : Bool := zp_may E o k && (decide (zp_kd E.1 k = 5) && (zp_V E o (zp_fs E.1 k)).1)
/-- counting -/
def zp_card (f : Nat → Bool) : Nat → Nat
  | 0 => 0
  | m + 1 => zp_card f m + (if f m = true then 1 else 0)
theorem zp_card_le (f : Nat → Bool) : ∀ m, zp_card f m ≤ m := by
  intro m
  induction m with
  | zero => exact Nat.le_refl _
  | succ m ih =>
    show zp_card f m + _ ≤ _
    split <;> omega
abbrev zp_mk (f : Nat → Bool) (p : Nat) : Nat → Bool := fun k => if k = p then true else f k
theorem zp_card_mk {f : Nat → Bool} {p : Nat} (h : f p = false) : ∀ m, zp_card (zp_mk f p) m = zp_card f m + (if p < m then 1 else 0) := by
  intro m
  induction m with
  | zero => rfl
  | succ m ih =>
    show zp_card (zp_mk f p) m + (if (if m = p then true else f m) = true then 1 else 0) = zp_card f m + (if f m = true then 1 else 0) + _
    rw [ih]
    by_cases e : m = p
    · subst e
      rw [if_pos rfl, if_pos rfl, h, if_neg (Nat.lt_irrefl _), if_neg (by decide), if_pos (by omega)]
    · rw [if_neg e]
      by_cases c : p < m
      · rw [if_pos c, if_pos (c := p < m + 1) (by omega)]; omega
      · rw [if_neg c, if_neg (c := p < m + 1) (by omega)]; omega
