/-! rewrite: what it asks for, NODE by NODE. -/
abbrev zp_Row : Type := List (Nat × Nat)
abbrev zp_g (l : zp_Row) (i : Nat) : Nat × Nat := l.getD i (0, 0)
abbrev zp_Rq : Type := Nat ⊕ (Nat × Nat × Nat × zp_Row)
theorem zp_g_mem {l : zp_Row} {i : Nat} (h : i < l.length) : zp_g l i ∈ l := by
  unfold zp_g
  rw [List.getD_eq_getElem?_getD, List.getElem?_eq_getElem h, Option.getD_some]
  exact List.getElem_mem _
theorem zp_mem_g {l : zp_Row} {e : Nat × Nat} (h : e ∈ l) : ∃ i, i < l.length ∧ zp_g l i = e := by
  obtain ⟨i, hi, rfl⟩ := List.getElem_of_mem h
  refine ⟨i, hi, ?_⟩
  unfold zp_g
  rw [List.getD_eq_getElem?_getD, List.getElem?_eq_getElem hi, Option.getD_some]
theorem zp_g_l {l : zp_Row} {e : Nat × Nat} {i : Nat} (h : i < l.length) : zp_g (l ++ [e]) i = zp_g l i := by
  unfold zp_g
  rw [List.getD_eq_getElem?_getD, List.getD_eq_getElem?_getD, List.getElem?_append_left h]
theorem zp_g_e {l : zp_Row} {e : Nat × Nat} : zp_g (l ++ [e]) l.length = e := by
  unfold zp_g
  rw [List.getD_eq_getElem?_getD, List.getElem?_append_right (Nat.le_refl _), Nat.sub_self]; rfl
theorem zp_len1 (l : zp_Row) (e : Nat × Nat) : (l ++ [e]).length = l.length + 1 := by rw [List.length_append]; rfl
/-- the first k below n -/
def zp_fd (p : Nat → Bool) : Nat → Option Nat
  | 0 => none
  | n + 1 => match zp_fd p n with
    | some k => some k
    | none => if p n = true then some n else none
theorem zp_fd_none {p : Nat → Bool} : ∀ {n}, (∀ j, j < n → p j = false) → zp_fd p n = none := by
  intro n
  induction n with
  | zero => intro _; rfl
  | succ n ih =>
    intro h
    show (match zp_fd p n with | some k => some k | none => if p n = true then some n else none) = none
    rw [ih (fun j hj => h j (by omega))]
    show (if p n = true then some n else none) = none
    rw [if_neg (by rw [h n (by omega)]; decide)]
theorem zp_fd_some {p : Nat → Bool} {k : Nat} (hk : p k = true) (hf : ∀ j, j < k → p j = false) : ∀ {n}, k < n → zp_fd p n = some k := by
  intro n
  induction n with
  | zero => intro h; omega
  | succ n ih =>
    intro h
    show (match zp_fd p n with | some k => some k | none => if p n = true then some n else none) = some k
    by_cases c : k = n
    · subst c
      rw [zp_fd_none hf]
      show (if p k = true then some k else none) = some k
      rw [if_pos hk]
    · rw [ih (by omega)]
theorem zp_fd_lt {p : Nat → Bool} {k : Nat} : ∀ {n}, zp_fd p n = some k → k < n ∧ p k = true := by
  intro n
  induction n with
  | zero => intro h; cases h
  | succ n ih =>
    intro h
    have h : (match zp_fd p n with | some k => some k | none => if p n = true then some n else none) = some k := h
    cases c : zp_fd p n with
    | some j =>
      rw [c] at h
      have h : some j = some k := h
      injection h with h
      subst h
      have := ih c
      exact ⟨by omega, this.2⟩
    | none =>
      rw [c] at h
      have h : (if p n = true then some n else none) = some k := h
      by_cases d : p n = true
      · rw [if_pos d] at h
        injection h with h
        subst h
        exact ⟨by omega, d⟩
      · rw [if_neg d] at h; cases h
def zp_rk (kd : Nat) : Bool := kd == 2 || kd == 3
/-- NODE k is what is asked for -/
def zp_pr (S : zp_S) (l : zp_Row) (k : Nat) : Bool := decide (S 3 k = l.length) && (List.range l.length).all (fun i => decide (S 4 (k * 8 + i) = (zp_g l i).1) && decide (S 5 (k * 8 + i) = (zp_g l i).2))
def zp_isN (S : zp_S) (kd fs sc : Nat) (l : zp_Row) (k : Nat) : Bool := decide (S 0 k = kd) && (decide (S 1 k = fs) && (decide (S 2 k = sc) && (!(zp_rk kd) || zp_pr S l k)))
def zp_aps (S : zp_S) (k : Nat) (l : zp_Row) : Nat → zp_S
  | 0 => S
  | i + 1 => zp_addP (zp_aps S k l i) k (zp_g l i).1 (zp_g l i).2
def zp_do (n : Nat) (S : zp_S) : zp_Rq → Option (Nat × Nat × zp_S)
  | .inl p => some (p, n, S)
  | .inr (kd, fs, sc, l) => match zp_fd (zp_isN S kd fs sc l) n with
    | some k => some (k, n, S)
    | none => if n < 80 then some (n, n + 1, zp_aps (zp_addN S n kd fs sc) n l l.length) else none
def zp_rok (n : Nat) : zp_Rq → Prop
  | .inl p => p < n
  | .inr (kd, fs, sc, l) => zp_newok n kd fs sc ∧ l.length ≤ 8 ∧ (zp_rk kd = false → l = []) ∧ ∀ e ∈ l, e.2 < n ∧ e.1 ≤ 3 ∧ (kd = 3 → e.1 = 3)
theorem zp_sameN.rf {S : zp_S} {k : Nat} : zp_sameN S S k := ⟨rfl, rfl, rfl, rfl, fun _ _ => ⟨rfl, rfl⟩⟩
theorem zp_sameN.tr {S S' S'' : zp_S} {k : Nat} (h : zp_sameN S S' k) (h' : zp_sameN S' S'' k) : zp_sameN S S'' k := by
  obtain ⟨a0, a1, a2, a3, a4⟩ := h
  obtain ⟨b0, b1, b2, b3, b4⟩ := h'
  exact ⟨b0.trans a0, b1.trans a1, b2.trans a2, b3.trans a3, fun i hi => ⟨(b4 i (by rw [a3]; exact hi)).1.trans (a4 i hi).1, (b4 i (by rw [a3]; exact hi)).2.trans (a4 i hi).2⟩⟩
theorem zp_aps_ok {S : zp_S} {n kd fs sc : Nat} {l : zp_Row} (hn : n < 80) (hw : zp_wf n S) (ok : zp_rok n (.inr (kd, fs, sc, l))) : ∀ i, i ≤ l.length → zp_wf (n + 1) (zp_aps (zp_addN S n kd fs sc) n l i) ∧ (zp_rk kd = true → (zp_aps (zp_addN S n kd fs sc) n l i) 3 n = i) ∧ (zp_aps (zp_addN S n kd fs sc) n l i) 0 n = kd ∧ ∀ k, k < n → zp_sameN S (zp_aps (zp_addN S n kd fs sc) n l i) k := by
  obtain ⟨o1, o2, o3, o4⟩ := ok
  intro i
  induction i with
  | zero =>
    intro _
    refine ⟨zp_addN_wf hn hw o1, fun h => ?_, ?_, fun k hk => zp_addN_same hk (hw.2 k hk).2.1⟩
    · show (if n = n then (if zp_own kd = true then 1 else 0) else S 3 n) = 0
      rw [if_pos rfl, if_neg]
      unfold zp_rk at h
      unfold zp_own
      intro z
      simp at h z
      omega
    · show (if n = n then kd else S 0 n) = kd
      rw [if_pos rfl]
  | succ i ih =>
    intro hi
    obtain ⟨a1, a2, a3, a4⟩ := ih (by omega)
    have hrk : zp_rk kd = true := by
      cases c : zp_rk kd
      · have := o3 c; subst this; exact absurd hi (Nat.not_succ_le_zero _)
      · rfl
    have hm := a2 hrk
    obtain ⟨e1, e2, e3⟩ := o4 _ (zp_g_mem (show i < l.length by omega))
    have hkd : (zp_aps (zp_addN S n kd fs sc) n l i) 0 n = 2 ∨ ((zp_aps (zp_addN S n kd fs sc) n l i) 0 n = 3 ∧ (zp_g l i).1 = 3) := by
      rw [a3]
      unfold zp_rk at hrk
      simp at hrk
      rcases hrk with h | h
      · exact Or.inl h
      · exact Or.inr ⟨h, e3 h⟩
    refine ⟨zp_addP_wf (by omega) a1 (by omega) e1 e2 hkd, fun _ => ?_, a3, fun k hk => (a4 k hk).tr (zp_addP_same (by omega) (a1.2 k (by omega)).2.1 (by omega))⟩
    show (if n = n then _ + 1 else _) = _
    rw [if_pos rfl, hm]
theorem zp_do_ok {S S' : zp_S} {n n' r : Nat} {q : zp_Rq} (hw : zp_wf n S) (ok : zp_rok n q) (h : zp_do n S q = some (r, n', S')) : r < n' ∧ n ≤ n' ∧ zp_wf n' S' ∧ ∀ k, k < n → zp_sameN S S' k := by
  match q, ok, h with
  | .inl p, ok, h =>
    injection h with h
    injection h with h1 h
    injection h with h2 h3
    subst h1; subst h2; subst h3
    exact ⟨ok, Nat.le_refl _, hw, fun _ _ => zp_sameN.rf⟩
  | .inr (kd, fs, sc, l), ok, h =>
    have h : (match zp_fd (zp_isN S kd fs sc l) n with | some k => some (k, n, S) | none => if n < 80 then some (n, n + 1, zp_aps (zp_addN S n kd fs sc) n l l.length) else none) = some (r, n', S') := h
    cases c : zp_fd (zp_isN S kd fs sc l) n with
    | some k =>
      rw [c] at h
      have h : some (k, n, S) = some (r, n', S') := h
      injection h with h
      injection h with h1 h
      injection h with h2 h3
      subst h1; subst h2; subst h3
      exact ⟨(zp_fd_lt c).1, Nat.le_refl _, hw, fun _ _ => zp_sameN.rf⟩
    | none =>
      rw [c] at h
      have h : (if n < 80 then some (n, n + 1, zp_aps (zp_addN S n kd fs sc) n l l.length) else none) = some (r, n', S') := h
      by_cases hn : n < 80
      · rw [if_pos hn] at h
        injection h with h
        injection h with h1 h
        injection h with h2 h3
        subst h1; subst h2; subst h3
        obtain ⟨a1, -, -, a4⟩ := zp_aps_ok hn hw ok _ (Nat.le_refl _)
        exact ⟨by omega, by omega, a1, a4⟩
      · rw [if_neg hn] at h; cases h
/-- the row of a BOOL -/
abbrev zp_NOTH : zp_Rq := .inr (7, 0, 0, [])
def zp_opn (S : zp_S) (least r p len left : Nat) : Bool := decide (zp_kd S p = 2 ∧ r ≠ 2) && (decide (len + zp_mn S p + left ≤ 8) && (if r = 3 then decide (least < 2 ∧ zp_fs S p < 2 ∧ zp_num S p 3 (zp_mn S p) = zp_mn S p) else decide (zp_fs S p = 0 ∧ zp_num S p 3 (zp_mn S p) = 0)))
def zp_dis (S : zp_S) (r p : Nat) : Nat → zp_Row
  | 0 => []
  | i + 1 => zp_dis S r p i ++ [(if r = 1 ∧ zp_ro S p i = 0 then 1 else zp_ro S p i, zp_pt S p i)]
def zp_gat (S : zp_S) (A : Nat → Nat) (least k : Nat) : Nat → Option zp_Row
  | 0 => some []
  | i + 1 => match zp_gat S A least k i with
    | none => none
    | some l => if zp_kd S (A (zp_pt S k i)) = 7 then (if zp_ro S k i < 2 then none else some l)
      else if zp_opn S least (zp_ro S k i) (A (zp_pt S k i)) l.length (zp_mn S k - i - 1) = true then some (l ++ zp_dis S (zp_ro S k i) (A (zp_pt S k i)) (zp_mn S (A (zp_pt S k i))))
      else some (l ++ [(zp_ro S k i, A (zp_pt S k i))])
def zp_cn (l : zp_Row) (r : Nat) : Nat → Nat
  | 0 => 0
  | i + 1 => zp_cn l r i + (if (zp_g l i).1 = r then 1 else 0)
abbrev zp_c (l : zp_Row) (r : Nat) : Nat := zp_cn l r l.length
def zp_s2 (e : Nat × Nat) : Nat × Nat := (if e.1 = 3 then 0 else e.1, e.2)
def zp_bad (l : zp_Row) : Bool := (List.range l.length).any (fun i => decide ((zp_g l i).1 = 2) && (List.range l.length).any (fun q => decide ((zp_g l q).2 = (zp_g l i).2) && decide ((zp_g l q).1 < 2)))
def zp_gone (l : zp_Row) (i : Nat) : Bool := (decide ((zp_g l i).1 = 1) && (List.range l.length).any (fun q => decide ((zp_g l q).2 = (zp_g l i).2) && (decide ((zp_g l q).1 = 0) || (decide ((zp_g l q).1 = 1) && decide (q < i))))) || (decide ((zp_g l i).1 = 2) && (List.range l.length).any (fun q => decide ((zp_g l q).2 = (zp_g l i).2) && (decide ((zp_g l q).1 = 2) && decide (q < i))))
def zp_thin (l : zp_Row) : Nat → zp_Row
  | 0 => []
  | i + 1 => if zp_gone l i = true then zp_thin l i else zp_thin l i ++ [zp_g l i]
def zp_rqb3 (least : Nat) (t : zp_Row) : zp_Rq := if t.length = 1 ∧ (zp_g t 0).1 = 0 then .inl (zp_g t 0).2 else .inr (2, least, 0, t)
def zp_rqb2 (least : Nat) (l : zp_Row) : zp_Rq := if zp_bad l = true then zp_NOTH else zp_rqb3 least (zp_thin l l.length)
def zp_rqb1 (c3 least : Nat) (l : zp_Row) : zp_Rq := if 0 < least ∧ least = c3 then zp_rqb2 0 (l.map zp_s2) else zp_rqb2 least l
def zp_rqb (least : Nat) (l : zp_Row) : zp_Rq := if zp_c l 3 < least then zp_NOTH else if zp_c l 0 + zp_c l 1 + zp_c l 3 = 0 then zp_NOTH else if zp_c l 0 + zp_c l 1 = 0 then zp_rqb1 (zp_c l 3) (max least 1) l else zp_rqb1 (zp_c l 3) least l
/-- the row of a BEST -/
def zp_bst (S : zp_S) (A : Nat → Nat) (k : Nat) : Nat → zp_Row
  | 0 => []
  | i + 1 => if zp_kd S (A (zp_pt S k i)) = 7 then zp_bst S A k i else zp_bst S A k i ++ [(3, A (zp_pt S k i))]
def zp_rqt (S : zp_S) (k : Nat) (l : zp_Row) : zp_Rq := if l.length = 0 then zp_NOTH else if l.length = 1 then .inl (zp_g l 0).2 else .inr (3, zp_fs S k, 0, l)
def zp_rqo (S : zp_S) (k p : Nat) : zp_Rq := if zp_kd S p = 7 ∨ (zp_kd S k = 6 ∧ zp_kd S p = 6) then .inl p else if zp_kd S p = 4 ∧ zp_kd S k ≠ 5 then .inr (zp_kd S k, zp_fs S p, zp_sc S k, []) else .inr (zp_kd S k, p, zp_sc S k, [])
def zp_rq (sz : Nat → Nat) (A : Nat → Nat) (S : zp_S) (k : Nat) : zp_Rq := match zp_kd S k with
  | 0 => if sz (zp_fs S k) = 0 then zp_NOTH else .inr (0, zp_fs S k, 0, [])
  | 1 => .inr (1, zp_fs S k, zp_sc S k, [])
  | 2 => match zp_gat S A (zp_fs S k) k (zp_mn S k) with
    | none => zp_NOTH
    | some l => zp_rqb (zp_fs S k) l
  | 3 => zp_rqt S k (zp_bst S A k (zp_mn S k))
  | 7 => zp_NOTH
  | _ => zp_rqo S k (A (zp_fs S k))
theorem zp_NOTH_ok {n : Nat} : zp_rok n zp_NOTH := by
  refine ⟨?_, by decide, fun _ => rfl, fun e he => by cases he⟩
  unfold zp_newok
  omega
theorem zp_dis_ok {S : zp_S} {r p n : Nat} (hw : zp_wf1 S p) (hp : p < n) : ∀ m, m ≤ zp_mn S p → (zp_dis S r p m).length = m ∧ ∀ e ∈ zp_dis S r p m, e.2 < n ∧ e.1 ≤ 3 := by
  intro m
  induction m with
  | zero => intro _; exact ⟨rfl, fun e he => by cases he⟩
  | succ m ih =>
    intro hm
    obtain ⟨a, b⟩ := ih (by omega)
    obtain ⟨v1, v2⟩ := hw.2.2.1 m (by omega)
    refine ⟨by show (zp_dis S r p m ++ [_]).length = _; rw [zp_len1, a], fun e he => ?_⟩
    rcases List.mem_append.mp he with z | z
    · exact b e z
    · rw [List.mem_singleton.mp z]
      refine ⟨by show zp_pt S p m < n; omega, ?_⟩
      show (if r = 1 ∧ zp_ro S p m = 0 then 1 else zp_ro S p m) ≤ 3
      split <;> omega
theorem zp_gat_ok {S : zp_S} {A : Nat → Nat} {least k n : Nat} (hw : zp_wf n S) (hk : k < n) (hA : ∀ i, i < zp_mn S k → A (zp_pt S k i) < n) : ∀ i, i ≤ zp_mn S k → ∀ l, zp_gat S A least k i = some l → l.length + (zp_mn S k - i) ≤ 8 ∧ ∀ e ∈ l, e.2 < n ∧ e.1 ≤ 3 := by
  have w := hw.2 k hk
  intro i
  induction i with
  | zero =>
    intro _ l hl
    injection hl with hl
    subst hl
    exact ⟨by have := w.2.1; show 0 + _ ≤ _; omega, fun e he => by cases he⟩
  | succ i ih =>
    intro hi l hl
    have hl : (match zp_gat S A least k i with
      | none => none
      | some l => if zp_kd S (A (zp_pt S k i)) = 7 then (if zp_ro S k i < 2 then none else some l)
        else if zp_opn S least (zp_ro S k i) (A (zp_pt S k i)) l.length (zp_mn S k - i - 1) = true then some (l ++ zp_dis S (zp_ro S k i) (A (zp_pt S k i)) (zp_mn S (A (zp_pt S k i))))
        else some (l ++ [(zp_ro S k i, A (zp_pt S k i))])) = some l := hl
    cases c : zp_gat S A least k i with
    | none => rw [c] at hl; cases hl
    | some l0 =>
      rw [c] at hl
      have hl : (if zp_kd S (A (zp_pt S k i)) = 7 then (if zp_ro S k i < 2 then none else some l0)
        else if zp_opn S least (zp_ro S k i) (A (zp_pt S k i)) l0.length (zp_mn S k - i - 1) = true then some (l0 ++ zp_dis S (zp_ro S k i) (A (zp_pt S k i)) (zp_mn S (A (zp_pt S k i))))
        else some (l0 ++ [(zp_ro S k i, A (zp_pt S k i))])) = some l := hl
      obtain ⟨a, b⟩ := ih (by omega) l0 c
      obtain ⟨v1, v2⟩ := w.2.2.1 i (by omega)
      have hAi := hA i (by omega)
      by_cases c7 : zp_kd S (A (zp_pt S k i)) = 7
      · rw [if_pos c7] at hl
        by_cases c2 : zp_ro S k i < 2
        · rw [if_pos c2] at hl; cases hl
        · rw [if_neg c2] at hl
          injection hl with hl
          subst hl
          exact ⟨by omega, b⟩
      · rw [if_neg c7] at hl
        by_cases co : zp_opn S least (zp_ro S k i) (A (zp_pt S k i)) l0.length (zp_mn S k - i - 1) = true
        · rw [if_pos co] at hl
          injection hl with hl
          subst hl
          obtain ⟨d1, d2⟩ := zp_dis_ok (r := zp_ro S k i) (hw.2 _ hAi) hAi _ (Nat.le_refl _)
          unfold zp_opn at co
          rw [Bool.and_eq_true, Bool.and_eq_true] at co
          have := of_decide_eq_true co.2.1
          refine ⟨by rw [List.length_append, d1]; omega, fun e he => ?_⟩
          rcases List.mem_append.mp he with z | z
          · exact b e z
          · exact d2 e z
        · rw [if_neg co] at hl
          injection hl with hl
          subst hl
          refine ⟨by rw [zp_len1]; omega, fun e he => ?_⟩
          rcases List.mem_append.mp he with z | z
          · exact b e z
          · rw [List.mem_singleton.mp z]; exact ⟨hAi, v2⟩
theorem zp_thin_ok {l : zp_Row} : ∀ i, i ≤ l.length → (zp_thin l i).length ≤ i ∧ ∀ e, e ∈ zp_thin l i ↔ ∃ q, q < i ∧ zp_g l q = e ∧ zp_gone l q = false := by
  intro i
  induction i with
  | zero => intro _; exact ⟨Nat.le_refl _, fun e => ⟨fun h => (by cases h), fun ⟨q, hq, _⟩ => absurd hq (Nat.not_lt_zero _)⟩⟩
  | succ i ih =>
    intro hi
    obtain ⟨a, b⟩ := ih (by omega)
    have ht : zp_thin l (i + 1) = if zp_gone l i = true then zp_thin l i else zp_thin l i ++ [zp_g l i] := rfl
    rw [ht]
    by_cases c : zp_gone l i = true
    · rw [if_pos c]
      refine ⟨by omega, fun e => ?_⟩
      rw [b e]
      constructor
      · rintro ⟨q, h1, h2⟩; exact ⟨q, by omega, h2⟩
      · rintro ⟨q, h1, h2, h3⟩
        have : q ≠ i := fun z => by subst z; rw [c] at h3; cases h3
        exact ⟨q, by omega, h2, h3⟩
    · rw [if_neg c]
      refine ⟨by rw [zp_len1]; omega, fun e => ?_⟩
      rw [List.mem_append, List.mem_singleton, b e]
      constructor
      · rintro (⟨q, h1, h2⟩ | h)
        · exact ⟨q, by omega, h2⟩
        · exact ⟨i, by omega, h.symm, by cases z : zp_gone l i; rfl; exact absurd z c⟩
      · rintro ⟨q, h1, h2, h3⟩
        by_cases z : q = i
        · subst z; exact Or.inr h2.symm
        · exact Or.inl ⟨q, by omega, h2, h3⟩
theorem zp_rqb2_ok {n least : Nat} {l : zp_Row} (hl : l.length ≤ 8) (he : ∀ e ∈ l, e.2 < n ∧ e.1 ≤ 3) (h8 : least ≤ 8) : zp_rok n (zp_rqb2 least l) := by
  unfold zp_rqb2 zp_rqb3
  by_cases c : zp_bad l = true
  · rw [if_pos c]; exact zp_NOTH_ok
  · rw [if_neg c]
    obtain ⟨a, b⟩ := zp_thin_ok (l := l) _ (Nat.le_refl _)
    have ht : ∀ e ∈ zp_thin l l.length, e.2 < n ∧ e.1 ≤ 3 := fun e h => by
      obtain ⟨q, h1, h2, -⟩ := (b e).mp h
      rw [← h2]
      exact he _ (zp_g_mem h1)
    by_cases c1 : (zp_thin l l.length).length = 1 ∧ (zp_g (zp_thin l l.length) 0).1 = 0
    · rw [if_pos c1]
      exact (ht _ (zp_g_mem (by omega))).1
    · rw [if_neg c1]
      refine ⟨?_, by omega, fun z => (by cases z), fun e h => ⟨(ht e h).1, (ht e h).2, fun z => by omega⟩⟩
      unfold zp_newok
      omega
theorem zp_rqb_ok {n least : Nat} {l : zp_Row} (hl : l.length ≤ 8) (he : ∀ e ∈ l, e.2 < n ∧ e.1 ≤ 3) (h8 : least ≤ 8) : zp_rok n (zp_rqb least l) := by
  have h1 : ∀ c3 le, le ≤ 8 → zp_rok n (zp_rqb1 c3 le l) := by
    intro c3 le hle
    unfold zp_rqb1
    by_cases c : 0 < le ∧ le = c3
    · rw [if_pos c]
      refine zp_rqb2_ok (by rw [List.length_map]; exact hl) (fun e h => ?_) (by omega)
      obtain ⟨e0, h0, rfl⟩ := List.mem_map.mp h
      refine ⟨(he e0 h0).1, ?_⟩
      show (if e0.1 = 3 then 0 else e0.1) ≤ 3
      have := (he e0 h0).2
      split <;> omega
    · rw [if_neg c]
      exact zp_rqb2_ok hl he hle
  unfold zp_rqb
  split
  · exact zp_NOTH_ok
  · split
    · exact zp_NOTH_ok
    · split
      · exact h1 _ _ (by omega)
      · exact h1 _ _ h8
theorem zp_bst_ok {S : zp_S} {A : Nat → Nat} {k n : Nat} (hA : ∀ i, i < zp_mn S k → A (zp_pt S k i) < n) : ∀ i, i ≤ zp_mn S k → (zp_bst S A k i).length ≤ i ∧ ∀ e ∈ zp_bst S A k i, e.2 < n ∧ e.1 = 3 := by
  intro i
  induction i with
  | zero => intro _; exact ⟨Nat.le_refl _, fun e he => by cases he⟩
  | succ i ih =>
    intro hi
    obtain ⟨a, b⟩ := ih (by omega)
    have ht : zp_bst S A k (i + 1) = if zp_kd S (A (zp_pt S k i)) = 7 then zp_bst S A k i else zp_bst S A k i ++ [(3, A (zp_pt S k i))] := rfl
    rw [ht]
    split
    · exact ⟨by omega, b⟩
    · refine ⟨by rw [zp_len1]; omega, fun e he => ?_⟩
      rcases List.mem_append.mp he with z | z
      · exact b e z
      · rw [List.mem_singleton.mp z]; exact ⟨hA i (by omega), rfl⟩
theorem zp_rq_ok {sz : Nat → Nat} {A : Nat → Nat} {S : zp_S} {n k : Nat} (hw : zp_wf n S) (hk : k < n) (hA : ∀ i, i < zp_mn S k → A (zp_pt S k i) < n) : zp_rok n (zp_rq sz A S k) := by
  have w := hw.2 k hk
  have h7 := w.1
  have hone : zp_kd S k = 4 ∨ zp_kd S k = 5 ∨ zp_kd S k = 6 → zp_rok n (zp_rqo S k (A (zp_fs S k))) := by
    intro e
    obtain ⟨o1, o2, o3, o4⟩ := w.one e
    have hp := hA 0 (by omega)
    rw [o2] at hp
    have wp := hw.2 _ hp
    have hnew : ∀ p, p < n → zp_newok n (zp_kd S k) p (zp_sc S k) := by
      intro p hp
      obtain ⟨-, -, -, -, -, -, -, q4, q5, q6, -⟩ := w
      unfold zp_newok
      rcases e with e | e | e
      · have := q4 e; rw [e]; omega
      · have := q5 e; rw [e]; omega
      · have := q6 e; rw [e]; omega
    unfold zp_rqo
    split
    · exact hp
    · split
      · rename_i h1 h2
        have := (wp.one (Or.inl h2.1)).2.2.2
        exact ⟨hnew _ (by omega), by decide, fun _ => rfl, fun e he => by cases he⟩
      · exact ⟨hnew _ hp, by decide, fun _ => rfl, fun e he => by cases he⟩
  unfold zp_rq
  rcases (show zp_kd S k = 0 ∨ zp_kd S k = 1 ∨ zp_kd S k = 2 ∨ zp_kd S k = 3 ∨ zp_kd S k = 4 ∨ zp_kd S k = 5 ∨ zp_kd S k = 6 ∨ zp_kd S k = 7 by omega) with e | e | e | e | e | e | e | e
  · rw [e]
    show zp_rok n (if sz (zp_fs S k) = 0 then zp_NOTH else .inr (0, zp_fs S k, 0, []))
    have := w.2.2.2.1 e
    split
    · exact zp_NOTH_ok
    · exact ⟨by unfold zp_newok; omega, by decide, fun _ => rfl, fun e he => by cases he⟩
  · rw [e]
    have := w.2.2.2.2.1 e
    exact ⟨by unfold zp_newok; omega, by decide, fun _ => rfl, fun e he => by cases he⟩
  · rw [e]
    have := w.2.2.2.2.2.1 e
    show zp_rok n (match zp_gat S A (zp_fs S k) k (zp_mn S k) with | none => zp_NOTH | some l => zp_rqb (zp_fs S k) l)
    cases c : zp_gat S A (zp_fs S k) k (zp_mn S k) with
    | none => exact zp_NOTH_ok
    | some l =>
      obtain ⟨a, b⟩ := zp_gat_ok hw hk hA _ (Nat.le_refl _) l c
      exact zp_rqb_ok (by omega) b this.1
  · rw [e]
    have h3 := w.2.2.2.2.2.2.1 e
    show zp_rok n (zp_rqt S k (zp_bst S A k (zp_mn S k)))
    obtain ⟨a, b⟩ := zp_bst_ok hA _ (Nat.le_refl _)
    have h8 := w.2.1
    unfold zp_rqt
    split
    · exact zp_NOTH_ok
    · split
      · exact (b _ (zp_g_mem (by omega))).1
      · exact ⟨by unfold zp_newok; omega, by omega, fun z => (by cases z), fun e he => ⟨(b e he).1, by have := (b e he).2; omega, fun _ => (b e he).2⟩⟩
  · rw [e]; exact hone (by omega)
  · rw [e]; exact hone (by omega)
  · rw [e]; exact hone (by omega)
  · rw [e]; exact zp_NOTH_ok
