/-! What the two sides mean: NODES (kind, first, second, many; role, part at 8 k + i), LISTS, SETS; MAY and SURE, COSTS, the order of a BOOL's parts: tables filled upward. -/
abbrev zp_S : Type := Nat → Nat → Nat
/-- NODES; the weight of an object in a list; a list's size; a KEPT's set: its size, who is in it -/
abbrev zp_E : Type := zp_S × (Nat → Nat → Option Nat) × (Nat → Nat) × (Nat → Option (Nat × (Nat → Bool)))
abbrev zp_kd (S : zp_S) (k : Nat) : Nat := S 0 k
abbrev zp_fs (S : zp_S) (k : Nat) : Nat := S 1 k
abbrev zp_sc (S : zp_S) (k : Nat) : Nat := S 2 k
abbrev zp_mn (S : zp_S) (k : Nat) : Nat := S 3 k
abbrev zp_ro (S : zp_S) (k i : Nat) : Nat := S 4 (k * 8 + i)
abbrev zp_pt (S : zp_S) (k i : Nat) : Nat := S 5 (k * 8 + i)
/-- a NODE as it may be -/
def zp_wf1 (S : zp_S) (k : Nat) : Prop :=
  zp_kd S k ≤ 7 ∧ zp_mn S k ≤ 8 ∧ (∀ i, i < zp_mn S k → zp_pt S k i < k ∧ zp_ro S k i ≤ 3) ∧
  (zp_kd S k = 0 → zp_fs S k < 16 ∧ zp_sc S k = 0 ∧ zp_mn S k = 0) ∧
  (zp_kd S k = 1 → zp_fs S k ≤ zp_sc S k ∧ zp_sc S k < 512 ∧ zp_mn S k = 0) ∧
  (zp_kd S k = 2 → zp_fs S k ≤ 8 ∧ zp_sc S k = 0) ∧
  (zp_kd S k = 3 → zp_fs S k ≤ 100 ∧ zp_sc S k = 0 ∧ ∀ i, i < zp_mn S k → zp_ro S k i = 3) ∧
  (zp_kd S k = 4 → zp_sc S k ≤ 1000000 ∧ zp_mn S k = 1 ∧ zp_pt S k 0 = zp_fs S k ∧ zp_ro S k 0 = 0) ∧
  (zp_kd S k = 5 → zp_sc S k ≤ 999999999 ∧ 0 < zp_sc S k / 1000 % 1000 ∧ zp_mn S k = 1 ∧ zp_pt S k 0 = zp_fs S k ∧ zp_ro S k 0 = 0) ∧
  (zp_kd S k = 6 → zp_sc S k = 0 ∧ zp_mn S k = 1 ∧ zp_pt S k 0 = zp_fs S k ∧ zp_ro S k 0 = 0) ∧
  (zp_kd S k = 7 → zp_fs S k = 0 ∧ zp_sc S k = 0 ∧ zp_mn S k = 0)
def zp_wf (n : Nat) (S : zp_S) : Prop := n ≤ 80 ∧ ∀ k, k < n → zp_wf1 S k
/-- how many SHOULDS must match -/
def zp_lst (S : zp_S) (k : Nat) : Nat := if (List.range (zp_mn S k)).any (fun i => decide (zp_ro S k i < 2)) then zp_fs S k else max (zp_fs S k) 1
/-- how many SHOULDS have it -/
def zp_cnt (S : zp_S) (k : Nat) (a : Nat → Bool) : Nat → Nat
  | 0 => 0
  | i + 1 => zp_cnt S k a i + (if zp_ro S k i = 3 ∧ a (zp_pt S k i) = true then 1 else 0)
/-- a BOOL, its NOTS by b, the others by a -/
def zp_bs (S : zp_S) (k : Nat) (a b : Nat → Bool) : Bool :=
  (List.range (zp_mn S k)).all (fun i => if zp_ro S k i = 3 then true else if zp_ro S k i = 2 then !(b (zp_pt S k i)) else a (zp_pt S k i)) && decide (zp_lst S k ≤ zp_cnt S k a (zp_mn S k))
def zp_m1 (E : zp_E) (o : Nat) (t : Nat → Bool × Bool) (k : Nat) : Bool × Bool := match zp_kd E.1 k with
  | 0 => ((E.2.1 (zp_fs E.1 k) o).isSome, (E.2.1 (zp_fs E.1 k) o).isSome)
  | 1 => (decide (zp_fs E.1 k ≤ o ∧ o ≤ zp_sc E.1 k), decide (zp_fs E.1 k ≤ o ∧ o ≤ zp_sc E.1 k))
  | 2 => (zp_bs E.1 k (fun p => (t p).1) (fun p => (t p).2), zp_bs E.1 k (fun p => (t p).2) (fun p => (t p).1))
  | 3 => ((List.range (zp_mn E.1 k)).any (fun i => (t (zp_pt E.1 k i)).1), (List.range (zp_mn E.1 k)).any (fun i => (t (zp_pt E.1 k i)).2))
  | 4 => t (zp_fs E.1 k)
  | 5 => ((t (zp_fs E.1 k)).1, false)
  | 6 => match E.2.2.2 k with
    | some q => (q.2 o, q.2 o)
    | none => t (zp_fs E.1 k)
  | _ => (false, false)
/-- MAY and SURE of the NODES below k -/
def zp_mt (E : zp_E) (o : Nat) : Nat → (Nat → Bool × Bool)
  | 0 => fun _ => (false, false)
  | k + 1 => fun j => if j = k then zp_m1 E o (zp_mt E o k) k else zp_mt E o k j
def zp_may (E : zp_E) (o k : Nat) : Bool := (zp_mt E o (k + 1) k).1
def zp_sure (E : zp_E) (o k : Nat) : Bool := (zp_mt E o (k + 1) k).2
/-- COSTS -/
def zp_csum (S : zp_S) (k : Nat) (t : Nat → Nat) : Nat → Nat
  | 0 => 0
  | i + 1 => zp_csum S k t i + (if zp_ro S k i = 3 then t (zp_pt S k i) else 0)
def zp_cmin (S : zp_S) (k : Nat) (t : Nat → Nat) : Nat → Option Nat
  | 0 => none
  | i + 1 => if zp_ro S k i < 2 then (match zp_cmin S k t i with | none => some (t (zp_pt S k i)) | some m => some (min m (t (zp_pt S k i)))) else zp_cmin S k t i
def zp_c1 (E : zp_E) (t : Nat → Nat) (k : Nat) : Nat := match zp_kd E.1 k with
  | 0 => E.2.2.1 (zp_fs E.1 k)
  | 1 => zp_sc E.1 k - zp_fs E.1 k + 1
  | 2 => match zp_cmin E.1 k t (zp_mn E.1 k) with
    | some m => m
    | none => min (zp_csum E.1 k t (zp_mn E.1 k)) 512
  | 3 => min (zp_csum E.1 k t (zp_mn E.1 k)) 512
  | 4 => t (zp_fs E.1 k)
  | 5 => t (zp_fs E.1 k)
  | 6 => match E.2.2.2 k with
    | some q => q.1
    | none => t (zp_fs E.1 k)
  | _ => 0
def zp_ct (E : zp_E) : Nat → (Nat → Nat)
  | 0 => fun _ => 0
  | k + 1 => fun j => if j = k then zp_c1 E (zp_ct E k) k else zp_ct E k j
def zp_cost (E : zp_E) (k : Nat) : Nat := zp_ct E (k + 1) k
/-- the rank of a part, and the places in order of rank, like ranks in order of place -/
def zp_rank (E : zp_E) (k i : Nat) : Nat := if zp_ro E.1 k i < 2 then zp_cost E (zp_pt E.1 k i) else 512 + zp_ro E.1 k i
def zp_put (r : Nat → Nat) (x : Nat) : List Nat → List Nat
  | [] => [x]
  | y :: l => if r x < r y then x :: y :: l else y :: zp_put r x l
def zp_ord (r : Nat → Nat) : Nat → List Nat
  | 0 => []
  | i + 1 => zp_put r i (zp_ord r i)
theorem zp_mt_at (E : zp_E) (o : Nat) {m j : Nat} (h : j < m) : zp_mt E o m j = (zp_may E o j, zp_sure E o j) := by
  induction m with
  | zero => omega
  | succ m ih =>
    by_cases e : j = m
    · subst e; rfl
    · show (if j = m then _ else _) = _
      rw [if_neg e]
      exact ih (by omega)
theorem zp_ct_at (E : zp_E) {m j : Nat} (h : j < m) : zp_ct E m j = zp_cost E j := by
  induction m with
  | zero => omega
  | succ m ih =>
    by_cases e : j = m
    · subst e; rfl
    · show (if j = m then _ else _) = _
      rw [if_neg e]
      exact ih (by omega)
/-! The invariant: cells of the component and cells of the reference hold one and the same. -/
def zp_bit (w : Nat → Int64) (k o : Nat) : Bool := (w (k * 8 + o / 64)).toBitVec.getLsbD (o % 64)
def zp_NC (σ : zv_St) (n : Nat) (S : zp_S) : Prop := σ.1 5 0 = nI n ∧ ∀ k, k < n → σ.1 6 k = nI (zp_kd S k) ∧ σ.1 7 k = nI (zp_fs S k) ∧ σ.1 8 k = nI (zp_sc S k) ∧ σ.1 10 k = nI (zp_mn S k) ∧ ∀ i, i < zp_mn S k → σ.1 11 (k * 8 + i) = nI (zp_ro S k i) ∧ σ.1 12 (k * 8 + i) = nI (zp_pt S k i)
def zp_NR (σ : zv_St) (n : Nat) (S : zp_S) : Prop := σ.1 45 2 = nI n ∧ ∀ k, k < n → σ.1 48 k = nI (zp_kd S k) ∧ σ.1 49 k = nI (zp_fs S k) ∧ σ.1 50 k = nI (zp_sc S k) ∧ σ.1 51 k = nI (zp_mn S k) ∧ ∀ i, i < zp_mn S k → σ.1 52 (k * 8 + i) = nI (zp_ro S k i) ∧ σ.1 53 (k * 8 + i) = nI (zp_pt S k i)
def zp_ow (w : Option Nat) : Int32 := match w with
  | none => -1
  | some v => nI v
def zp_LR (σ : zv_St) (w : Nat → Nat → Option Nat) (sz : Nat → Nat) : Prop := ∀ l, l < 16 → σ.1 47 l = nI (sz l) ∧ ∀ o, o < 512 → σ.1 46 (l * 512 + o) = zp_ow (w l o)
def zp_LW (w : Nat → Nat → Option Nat) (sz : Nat → Nat) : Prop := ∀ l, l < 16 → sz l ≤ 60 ∧ ∀ o v, w l o = some v → v ≤ 1000000
def zp_LC (σ : zv_St) (w : Nat → Nat → Option Nat) (sz : Nat → Nat) : Prop := ∀ l, l < 16 → σ.1 4 l = nI (sz l) ∧
  (∀ i, i < sz l → ∃ o v, o < 512 ∧ σ.1 2 (l * 60 + i) = nI o ∧ σ.1 3 (l * 60 + i) = nI v ∧ w l o = some v) ∧
  (∀ i j, i < sz l → j < sz l → σ.1 2 (l * 60 + i) = σ.1 2 (l * 60 + j) → i = j) ∧
  ∀ o v, o < 512 → w l o = some v → ∃ i, i < sz l ∧ σ.1 2 (l * 60 + i) = nI o
def zp_KR (σ : zv_St) (n : Nat) (K : Nat → Option (Nat × (Nat → Bool))) : Prop := ∀ k, k < n → match K k with
  | none => σ.1 55 k = -1
  | some q => σ.1 55 k = nI q.1 ∧ q.1 ≤ 512 ∧ ∀ o, o < 512 → σ.1 56 (k * 512 + o) = if q.2 o = true then 1 else 0
def zp_KC (σ : zv_St) (n : Nat) (K : Nat → Option (Nat × (Nat → Bool))) : Prop := (∀ k, k < n → match K k with
  | none => σ.1 16 k = 0
  | some q => σ.1 16 k = 1 ∧ σ.1 17 k = nI q.1 ∧ ∀ o, o < 512 → zp_bit (σ.2 15) k o = q.2 o) ∧ ∀ k, n ≤ k → k < 80 → σ.1 16 k = 0
def zp_KW (n : Nat) (S : zp_S) (K : Nat → Option (Nat × (Nat → Bool))) : Prop := ∀ k, k < n → K k ≠ none → zp_kd S k = 6
def zp_BC (σ : zv_St) (n : Nat) (E : zp_E) : Prop := ∃ r, r ≤ n ∧ σ.1 19 8 = nI r ∧ ∀ k, k < r → σ.1 24 k = nI (zp_cost E k) ∧ (∀ o, o < 512 → zp_bit (σ.2 21) k o = zp_may E o k ∧ zp_bit (σ.2 23) k o = zp_sure E o k) ∧ (zp_kd E.1 k = 2 → ∀ i, i < zp_mn E.1 k → σ.1 25 (k * 8 + i) = nI ((zp_ord (zp_rank E k) (zp_mn E.1 k)).getD i 0))
def zp_FI (σ : zv_St) : Prop := σ.2 45 27 = σ.2 0 8 ∧ ∃ f, f ≤ 512 ∧ σ.1 45 30 = nI f ∧ σ.1 31 2 = nI f ∧ ∀ i, i < f → σ.1 70 i = σ.1 32 i ∧ σ.2 71 i = σ.2 33 i
def zp_IT (σ : zv_St) (n : Nat) : Prop := ∀ i, i < 8 → (σ.1 35 i = 0 ∧ σ.1 57 i = -1) ∨ (σ.1 35 i = 1 ∧ ∃ k, k < n ∧ σ.1 57 i = nI k ∧ σ.1 36 i = nI k ∧ σ.1 38 i = σ.1 60 i ∧ ((σ.1 59 i = 1 ∧ σ.1 37 i = 511) ∨ (σ.1 59 i = 0 ∧ σ.1 37 i = σ.1 58 i ∧ (σ.1 58 i = -1 ∨ ∃ o, o < 512 ∧ σ.1 58 i = nI o))))
def zp_asum (f : Nat → Int32) : Nat → Int32
  | 0 => 0
  | k + 1 => zp_asum f k + f k
def zp_AS (σ : zv_St) (n : Nat) : Prop := (∀ k, k < n → σ.1 54 k = σ.1 9 k) ∧ σ.1 45 10 = zp_asum (σ.1 9) n
def zp_J (σ : zv_St) (n : Nat) (E : zp_E) : Prop := zp_wf n E.1 ∧ zp_NC σ n E.1 ∧ zp_NR σ n E.1 ∧ zp_LW E.2.1 E.2.2.1 ∧ zp_LR σ E.2.1 E.2.2.1 ∧ zp_LC σ E.2.1 E.2.2.1 ∧ zp_KW n E.1 E.2.2.2 ∧ zp_KR σ n E.2.2.2 ∧ zp_KC σ n E.2.2.2 ∧ zp_BC σ n E ∧ zp_FI σ ∧ zp_IT σ n ∧ zp_AS σ n
def zp_Inv (σ : zv_St) : Prop := ∃ n E, zp_J σ n E
theorem zp_Inv0 : zp_Inv zs_0 := by
  refine ⟨0, (fun _ _ => 0, fun _ _ => none, fun _ => 0, fun _ => none), ⟨by decide, fun k h => by omega⟩, ⟨rfl, fun k h => by omega⟩, ⟨rfl, fun k h => by omega⟩, fun l hl => ⟨Nat.zero_le _, fun o v h => by cases h⟩, fun l hl => ⟨rfl, fun o ho => ?_⟩, fun l hl => ⟨rfl, fun i h => absurd h (Nat.not_lt_zero _), fun i j h => absurd h (Nat.not_lt_zero _), fun o v ho h => by cases h⟩, fun k h => by omega, fun k h => by omega, ⟨fun k h => by omega, fun k h h2 => rfl⟩, ⟨0, by decide, rfl, fun k h => by omega⟩, ⟨rfl, 0, by decide, rfl, rfl, fun i h => by omega⟩, fun i hi => Or.inl ⟨rfl, ?_⟩, ⟨fun k h => by omega, rfl⟩⟩
  · show zc_neg 8192 (l * 512 + o) = -1
    unfold zc_neg
    rw [if_pos (by omega)]
  · show zc_neg 8 i = -1
    unfold zc_neg
    rw [if_pos hi]
