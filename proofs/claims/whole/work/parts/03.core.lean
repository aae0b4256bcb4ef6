/-! The world: every cell of the class and of the reference, in one list; a state of it is two maps (cell, place -> int; cell, place -> long). -/
abbrev zv_St : Type := (Nat → Nat → Int32) × (Nat → Nat → Int64)
abbrev zv_G : Type := Launch × va_G × (Nat → Nat) × (Nat → ClassId)
/-- a method: its code, its locals, its class, its answer's type, how deep its calls go -/
abbrev zv_M : Type := ByteArray × Nat × String × Option FieldType × Nat
abbrev zv_X : Type := Program × Env × State × MethodId × Array Value × List Frame × Method × Code × Room × Nat × Nat × (State → Prop) × (Nat → Prop)
abbrev zv_N : Nat := 76
/-- the tables' words that stay as they are; the links among nest mates -/
def zv_tb : List Cond := lw_tbl.filter goodWord
theorem zv_in {w : Cond} (i : Nat) (h : lw_tbl[i]? = some w) (g : goodWord w = true) : w ∈ zv_tb := List.mem_filter.mpr ⟨List.mem_of_getElem? h, g⟩
theorem zv_ins {ws : List Cond} (h : ∀ w ∈ ws, w ∈ lw_tbl) (g : ws.all goodWord = true) : ∀ w ∈ ws, w ∈ zv_tb := fun w hw => List.mem_filter.mpr ⟨h w hw, List.all_eq_true.mp g w hw⟩
def zv_nt : List Cond := [.methodLinkNest RX0 171 yX10_isNeeded RX10, .methodLinkNest RX4 92 yX10_isNeeded RX10, .methodLinkNest RX4 117 yX10_modulusOf RX10, .methodLinkNest RX2 25 yX10_isWithin RX10, .methodLinkNest RX7 104 yX10_isNeeded RX10]
theorem zv_nt_form : ∀ w ∈ zv_nt, ∃ (a : String) (i : Nat) (x : MethodName) (h : String), w = .methodLinkNest a i x h := by
  intro w hw
  simp only [zv_nt, List.mem_cons, List.not_mem_nil, or_false] at hw
  rcases hw with rfl | rfl | rfl | rfl | rfl <;> exact ⟨_, _, _, _, rfl⟩
def zv_nw (U : State) : Prop := ∀ w ∈ zv_nt, va_Nw w U
theorem zv_nw.warm {s U : State} (hW : s.WarmedH U.vm) (h : zv_nw s) : zv_nw U := by
  intro w hw
  obtain ⟨a, i, x, q, rfl⟩ := zv_nt_form w hw
  exact va_Nw.warmM hW (h _ hw)
theorem zv_nw.same {u U : State} (e : u.vm = U.vm) (h : zv_nw u) : zv_nw U := by
  intro w hw
  have := h w hw
  obtain ⟨a, i, x, q, rfl⟩ := zv_nt_form w hw
  exact va_Nw.same rfl e this
/-- a cell: an array (0 int, 1 boolean, 2 long; its length), or an object (its class; its fields: 0 an int, 1 a long, k + 2 the cell k) -/
def zv_tab : List ((Nat × Nat) ⊕ (Nat × List Nat)) := [
  .inr (10, [3, 7, 15, 21, 29, 33, 36, 41, 1]),
  .inr (3, [4, 5, 6]),
  .inl (0, 960),
  .inl (0, 960),
  .inl (0, 16),
  .inr (5, [0, 8, 9, 10, 11, 12, 13, 14]),
  .inl (0, 80),
  .inl (0, 80),
  .inl (0, 80),
  .inl (0, 80),
  .inl (0, 80),
  .inl (0, 640),
  .inl (0, 640),
  .inr (9, [7, 16, 18, 19, 20]),
  .inr (8, [17]),
  .inl (2, 640),
  .inl (1, 80),
  .inl (0, 80),
  .inl (1, 80),
  .inr (0, [3, 7, 15, 22, 24, 26, 27, 28, 0]),
  .inr (8, [23]),
  .inl (2, 640),
  .inr (8, [25]),
  .inl (2, 640),
  .inl (0, 80),
  .inl (0, 640),
  .inl (2, 9),
  .inr (4, [3, 7, 15, 21, 30, 31, 32]),
  .inl (0, 80),
  .inl (2, 80),
  .inl (0, 80),
  .inr (1, [34, 35, 0]),
  .inl (0, 512),
  .inl (2, 512),
  .inr (2, [37, 38, 39, 40]),
  .inl (1, 8),
  .inl (0, 8),
  .inl (0, 8),
  .inl (0, 8),
  .inr (7, [3, 7, 42, 43, 44]),
  .inl (1, 80),
  .inl (0, 80),
  .inr (6, [45, 46, 0]),
  .inl (0, 8),
  .inl (0, 8),
  .inr (11, [48, 49, 0, 50, 51, 52, 53, 54, 55, 56, 0, 57, 58, 59, 60, 61, 62, 63, 64, 65, 66, 67, 68, 69, 70, 71, 0, 1, 72, 73, 0, 74, 75, 76, 0, 0, 77]),
  .inl (0, 8192),
  .inl (0, 16),
  .inl (0, 80),
  .inl (0, 80),
  .inl (0, 80),
  .inl (0, 80),
  .inl (0, 640),
  .inl (0, 640),
  .inl (0, 80),
  .inl (0, 80),
  .inl (1, 40960),
  .inl (0, 8),
  .inl (0, 8),
  .inl (1, 8),
  .inl (0, 8),
  .inl (1, 80),
  .inl (0, 80),
  .inl (1, 80),
  .inl (1, 80),
  .inl (0, 80),
  .inl (2, 80),
  .inl (0, 640),
  .inl (0, 80),
  .inl (0, 90),
  .inl (0, 512),
  .inl (2, 512),
  .inl (0, 80),
  .inl (0, 80),
  .inl (0, 80),
  .inl (1, 80)]
theorem zv_tab_len : zv_tab.length = zv_N := by decide +kernel
def zv_v (ad : Nat → Nat) (σ : zv_St) (k i f : Nat) : Value := match f with
  | 0 => .int (σ.1 k i)
  | 1 => .long (σ.2 k i)
  | j + 2 => .ref (ad j)
def zv_f (ad : Nat → Nat) (σ : zv_St) (k : Nat) : Nat → List Nat → List Value
  | _, [] => []
  | i, f :: fl => zv_v ad σ k i f :: zv_f ad σ k (i + 1) fl
def zv_eo (ad : Nat → Nat) (cA : Nat → ClassId) (σ : zv_St) (k : Nat) : Option ((Nat × Nat) ⊕ (Nat × List Nat)) → va_E
  | some (.inl (t, n)) => .inl (cA t, n, if t = 2 then .inr (.inl (σ.2 k)) else .inl (σ.1 k))
  | some (.inr (ci, fl)) => .inr (ci, zv_f ad σ k 0 fl)
  | none => .inr (0, [])
def zv_e (ad : Nat → Nat) (cA : Nat → ClassId) (σ : zv_St) (k : Nat) : va_E := zv_eo ad cA σ k zv_tab[k]?
def zv_w (ad : Nat → Nat) (cA : Nat → ClassId) (σ : zv_St) : va_W := (List.range zv_N).map (fun k => (ad k, zv_e ad cA σ k))
theorem zv_lt {k : Nat} {x : (Nat × Nat) ⊕ (Nat × List Nat)} (h : zv_tab[k]? = some x) : k < zv_N := by
  have := (List.getElem?_eq_some_iff.mp h).1
  rw [zv_tab_len] at this; exact this
theorem zv_w_get (ad : Nat → Nat) (cA : Nat → ClassId) (σ : zv_St) {k : Nat} (h : k < zv_N) : (zv_w ad cA σ)[k]? = some (ad k, zv_e ad cA σ k) := by
  simp only [zv_w, List.getElem?_map, List.getElem?_range h, Option.map_some]
theorem zv_w_of {ad : Nat → Nat} {cA : Nat → ClassId} {σ : zv_St} {k : Nat} {x : (Nat × Nat) ⊕ (Nat × List Nat)} (h : zv_tab[k]? = some x) : (zv_w ad cA σ)[k]? = some (ad k, zv_eo ad cA σ k (some x)) := by
  rw [zv_w_get ad cA σ (zv_lt h), zv_e, h]
theorem zv_f_congr (ad : Nat → Nat) {σ σ' : zv_St} {k : Nat} (h1 : σ'.1 k = σ.1 k) (h2 : σ'.2 k = σ.2 k) : ∀ (fl : List Nat) (i : Nat), zv_f ad σ' k i fl = zv_f ad σ k i fl := by
  intro fl
  induction fl with
  | nil => intro i; rfl
  | cons f fl ih =>
    intro i
    have e : zv_v ad σ' k i f = zv_v ad σ k i f := by
      match f with
      | 0 => simp only [zv_v, h1]
      | 1 => simp only [zv_v, h2]
      | j + 2 => rfl
    simp only [zv_f, e, ih]
theorem zv_e_congr (ad : Nat → Nat) (cA : Nat → ClassId) {σ σ' : zv_St} {k : Nat} (h1 : σ'.1 k = σ.1 k) (h2 : σ'.2 k = σ.2 k) : zv_e ad cA σ' k = zv_e ad cA σ k := by
  unfold zv_e
  generalize zv_tab[k]? = o
  match o with
  | some (.inl (t, n)) => simp only [zv_eo, h1, h2]
  | some (.inr (ci, fl)) => simp only [zv_eo, zv_f_congr ad h1 h2]
  | none => rfl
theorem zv_w_set (ad : Nat → Nat) (cA : Nat → ClassId) {σ σ' : zv_St} {k : Nat} (hk : k < zv_N) (h : ∀ j, j ≠ k → σ'.1 j = σ.1 j ∧ σ'.2 j = σ.2 j) {x : va_E} (hx : x = zv_e ad cA σ' k) : (zv_w ad cA σ).set k (ad k, x) = zv_w ad cA σ' := by
  subst hx
  apply List.ext_getElem?
  intro i
  rw [List.getElem?_set]
  by_cases hik : k = i
  · subst hik
    have hl : k < (zv_w ad cA σ).length := by simp only [zv_w, List.length_map, List.length_range]; exact hk
    rw [if_pos rfl, if_pos hl, zv_w_get ad cA σ' hk]
  · rw [if_neg hik]
    by_cases hi : i < zv_N
    · rw [zv_w_get ad cA σ hi, zv_w_get ad cA σ' hi, zv_e_congr ad cA (h i (fun q => hik q.symm)).1 (h i (fun q => hik q.symm)).2]
    · have e1 : ∀ τ, (zv_w ad cA τ)[i]? = none := fun τ => by
        rw [List.getElem?_eq_none_iff]; simp only [zv_w, List.length_map, List.length_range]; exact Nat.not_lt.mp hi
      rw [e1, e1]
/-- an int, a long written -/
def zv_wi (σ : zv_St) (k i : Nat) (x : Int32) : zv_St := (fun j => if j = k then upd (σ.1 k) i x else σ.1 j, σ.2)
def zv_wl (σ : zv_St) (k i : Nat) (x : Int64) : zv_St := (σ.1, fun j => if j = k then vp_updL (σ.2 k) i x else σ.2 j)
theorem zv_wi_s (σ : zv_St) (k i : Nat) (x : Int32) : (zv_wi σ k i x).1 k = upd (σ.1 k) i x := by simp [zv_wi]
theorem zv_wi_n (σ : zv_St) {k j : Nat} (i : Nat) (x : Int32) (h : j ≠ k) : (zv_wi σ k i x).1 j = σ.1 j := by simp [zv_wi, h]
theorem zv_wl_s (σ : zv_St) (k i : Nat) (x : Int64) : (zv_wl σ k i x).2 k = vp_updL (σ.2 k) i x := by simp [zv_wl]
theorem zv_wl_n (σ : zv_St) {k j : Nat} (i : Nat) (x : Int64) (h : j ≠ k) : (zv_wl σ k i x).2 j = σ.2 j := by simp [zv_wl, h]
theorem zv_f_get (ad : Nat → Nat) (σ : zv_St) (k : Nat) : ∀ (fl : List Nat) (o i f : Nat), fl[i]? = some f → (zv_f ad σ k o fl)[i]? = some (zv_v ad σ k (o + i) f) := by
  intro fl
  induction fl with
  | nil => intro o i f h; simp at h
  | cons a fl ih =>
    intro o i f h
    match i with
    | 0 => simp only [List.getElem?_cons_zero, Option.some.injEq] at h; subst h; rfl
    | i + 1 =>
      simp only [List.getElem?_cons_succ] at h
      simp only [zv_f, List.getElem?_cons_succ]
      rw [ih (o + 1) i f h, show o + 1 + i = o + (i + 1) by omega]
theorem zv_f_len (ad : Nat → Nat) (σ : zv_St) (k : Nat) : ∀ (fl : List Nat) (o : Nat), (zv_f ad σ k o fl).length = fl.length := by
  intro fl
  induction fl with
  | nil => intro o; rfl
  | cons a fl ih => intro o; simp only [zv_f, List.length_cons, ih]
theorem zv_f_late (ad : Nat → Nat) (σ : zv_St) (k p : Nat) (x : Int32) : ∀ (fl : List Nat) (o : Nat), p < o → zv_f ad (zv_wi σ k p x) k o fl = zv_f ad σ k o fl := by
  intro fl
  induction fl with
  | nil => intro o h; rfl
  | cons a fl ih =>
    intro o h
    have e : zv_v ad (zv_wi σ k p x) k o a = zv_v ad σ k o a := by
      match a with
      | 0 => simp only [zv_v, zv_wi_s, upd, if_neg (show ¬ o = p by omega)]
      | 1 => rfl
      | j + 2 => rfl
    simp only [zv_f, e, ih (o + 1) (by omega)]
theorem zv_f_set (ad : Nat → Nat) (σ : zv_St) (k : Nat) (x : Int32) : ∀ (fl : List Nat) (o i : Nat), fl[i]? = some 0 → (zv_f ad σ k o fl).set i (.int x) = zv_f ad (zv_wi σ k (o + i) x) k o fl := by
  intro fl
  induction fl with
  | nil => intro o i h; simp at h
  | cons a fl ih =>
    intro o i h
    match i with
    | 0 =>
      simp only [List.getElem?_cons_zero, Option.some.injEq] at h; subst h
      simp only [zv_f, List.set_cons_zero, Nat.add_zero, zv_v, zv_wi_s, upd, if_true]
      rw [zv_f_late ad σ k o x fl (o + 1) (by omega)]
    | i + 1 =>
      simp only [List.getElem?_cons_succ] at h
      have e : zv_v ad (zv_wi σ k (o + (i + 1)) x) k o a = zv_v ad σ k o a := by
        match a with
        | 0 => simp only [zv_v, zv_wi_s, upd, if_neg (show ¬ o = o + (i + 1) by omega)]
        | 1 => rfl
        | j + 2 => rfl
      simp only [zv_f, List.set_cons_succ, e]
      rw [ih (o + 1) i h, show o + 1 + i = o + (i + 1) by omega]
theorem zv_f_lateL (ad : Nat → Nat) (σ : zv_St) (k p : Nat) (x : Int64) : ∀ (fl : List Nat) (o : Nat), p < o → zv_f ad (zv_wl σ k p x) k o fl = zv_f ad σ k o fl := by
  intro fl
  induction fl with
  | nil => intro o h; rfl
  | cons a fl ih =>
    intro o h
    have e : zv_v ad (zv_wl σ k p x) k o a = zv_v ad σ k o a := by
      match a with
      | 0 => rfl
      | 1 => simp only [zv_v, zv_wl_s, vp_updL, if_neg (show ¬ o = p by omega)]
      | j + 2 => rfl
    simp only [zv_f, e, ih (o + 1) (by omega)]
theorem zv_f_setL (ad : Nat → Nat) (σ : zv_St) (k : Nat) (x : Int64) : ∀ (fl : List Nat) (o i : Nat), fl[i]? = some 1 → (zv_f ad σ k o fl).set i (.long x) = zv_f ad (zv_wl σ k (o + i) x) k o fl := by
  intro fl
  induction fl with
  | nil => intro o i h; simp at h
  | cons a fl ih =>
    intro o i h
    match i with
    | 0 =>
      simp only [List.getElem?_cons_zero, Option.some.injEq] at h; subst h
      simp only [zv_f, List.set_cons_zero, Nat.add_zero, zv_v, zv_wl_s, vp_updL, if_true]
      rw [zv_f_lateL ad σ k o x fl (o + 1) (by omega)]
    | i + 1 =>
      simp only [List.getElem?_cons_succ] at h
      have e : zv_v ad (zv_wl σ k (o + (i + 1)) x) k o a = zv_v ad σ k o a := by
        match a with
        | 0 => rfl
        | 1 => simp only [zv_v, zv_wl_s, vp_updL, if_neg (show ¬ o = o + (i + 1) by omega)]
        | j + 2 => rfl
      simp only [zv_f, List.set_cons_succ, e]
      rw [ih (o + 1) i h, show o + 1 + i = o + (i + 1) by omega]
/-! The judgement. -/
abbrev zv_ty (G : zv_G) : List (ClassId × FieldType) := [(G.2.2.2 0, .int), (G.2.2.2 1, .boolean), (G.2.2.2 2, .long)]
def zv_I (G : zv_G) : Prop := ∀ i j : Nat, i < zv_N → j < zv_N → G.2.2.1 i = G.2.2.1 j → i = j
abbrev zv_P (G : zv_G) (σ : zv_St) (H : Heap) : Prop := va_P G.2.1 vwCl (zv_w G.2.2.1 G.2.2.2 σ) H
def zv_C (G : zv_G) (X : zv_X) (M : zv_M) : Prop := match X with
  | (p, _, s, m, args, _, meth, c, R, cells, slots, _, A) => p.tables.exec = Jvm.exec ∧ c.code = M.1 ∧ c.maxLocals = M.2.1 ∧ s.vm.findClass M.2.2.1 = some m.cls ∧ (∀ w ∈ zv_tb, w.before args s = true) ∧ va_K G.2.1 vwCl (zv_ty G) s ∧ zv_I G ∧ (∀ k, k < zv_N → A (G.2.2.1 k)) ∧ cells ≤ R.cells ∧ slots ≤ R.slots ∧ M.2.2.2.2 ≤ R.frames ∧ 40 * M.2.2.2.2 ≤ R.locals ∧ meth.locks = false ∧ meth.sig.returnType = M.2.2.2.1 ∧ zv_nw s
def zv_V (G : zv_G) (X : zv_X) (M : zv_M) (pc : Nat) (lv : List (Nat × Value)) (st : List Value) (σ : zv_St) : Prop := match X with
  | (p, e, s, m, args, below, meth, c, R, cells, slots, QQ, A) => ∀ (H : Heap) (locs : List Loc) (ls : Array Slot), zv_P G σ H → va_S A s.heap H locs → lv_has ls M.2.1 lv → W p G.1 e R s m args below meth c H locs cells slots QQ (F0 m pc ls st)
theorem zv_D (G : zv_G) (hI : zv_I G) {A : Nat → Prop} (hA : ∀ k, k < zv_N → A (G.2.2.1 k)) (σ : zv_St) : va_D A (zv_w G.2.2.1 G.2.2.2 σ) := by
  have key : ∀ (i : Nat) (p : Nat × va_E), (zv_w G.2.2.1 G.2.2.2 σ)[i]? = some p → i < zv_N ∧ p.1 = G.2.2.1 i := by
    intro i p h
    have hl : i < zv_N := by
      have := (List.getElem?_eq_some_iff.mp h).1
      simpa only [zv_w, List.length_map, List.length_range] using this
    rw [zv_w_get _ _ _ hl] at h
    cases h
    exact ⟨hl, rfl⟩
  refine ⟨fun i j p q hp hq hpq => ?_, fun k q hk => ?_⟩
  · obtain ⟨a1, a2⟩ := key i p hp
    obtain ⟨b1, b2⟩ := key j q hq
    exact hI i j a1 b1 (by rw [← a2, ← b2]; exact hpq)
  · obtain ⟨a1, a2⟩ := key k q hk
    rw [a2]; exact hA k a1
/-- fewer locals -/
def zv_sl (lv : List (Nat × Value)) : List (Nat × Value) → Prop
  | [] => True
  | q :: r => lv.lookup q.1 = some q.2 ∧ zv_sl lv r
theorem zv_look {lv : List (Nat × Value)} {i : Nat} {v : Value} (h : lv.lookup i = some v) : (i, v) ∈ lv := by
  induction lv with
  | nil => simp [List.lookup] at h
  | cons a t ih =>
    obtain ⟨j, w⟩ := a
    by_cases hj : i = j
    · subst hj
      simp [List.lookup] at h
      subst h
      exact List.mem_cons_self
    · have : (i == j) = false := by simpa using hj
      simp only [List.lookup, this] at h
      exact List.mem_cons_of_mem _ (ih h)
theorem zv_sl_mem {lv : List (Nat × Value)} : ∀ {lv' : List (Nat × Value)}, zv_sl lv lv' → ∀ q ∈ lv', q ∈ lv := by
  intro lv'
  induction lv' with
  | nil => intro _ q hq; cases hq
  | cons a t ih =>
    intro h q hq
    rcases List.mem_cons.mp hq with rfl | hq
    · exact zv_look h.1
    · exact ih h.2 q hq
theorem zv_lk {ls : Array Slot} {nL : Nat} {l : List (Nat × Value)} (h : lv_has ls nL l) {i : Nat} {v : Value} (hk : l.lookup i = some v) : ls[i]? = some (.val v) := h.2.2 (i, v) (zv_look hk)
section ZV
variable {G : zv_G} {X : zv_X} {M : zv_M} {pc : Nat} {lv : List (Nat × Value)} {st : List Value} {σ : zv_St}
theorem zv_go {lv' : List (Nat × Value)} (kk : zv_V G X M pc lv' st σ) (hs : zv_sl lv lv') : zv_V G X M pc lv st σ := by
  obtain ⟨p, e, s, m, args, below, meth, c, R, cells, slots, QQ, A⟩ := X
  intro H locs ls hP hS hl
  exact kk H locs ls hP hS ⟨hl.1, hl.2.1, fun q hq => hl.2.2 q (zv_sl_mem hs q hq)⟩
abbrev zv_s1 (lv : List (Nat × Value)) (i : Nat) (v : Value) : List (Nat × Value) := (i, v) :: lv.filter (fun q => !(q.1 == i) && !(q.1 + 1 == i && q.2.category == 2))
abbrev zv_s2 (lv : List (Nat × Value)) (i : Nat) (v : Value) : List (Nat × Value) := (i, v) :: lv.filter (fun q => !(q.1 == i) && (!(q.1 == i + 1) && !(q.1 + 1 == i && q.2.category == 2)))
theorem zv_iconst (hC : zv_C G X M) {n : Int} {v : Int32} (hd : decode M.1 pc = .ok (.iconst n, 1)) (hv : Int32.ofInt n = v) (kk : zv_V G X M (pc + 1) lv (.int v :: st) σ) : zv_V G X M pc lv (st) σ := by
  obtain ⟨p, e, s, m, args, below, meth, c, R, cells, slots, QQ, A⟩ := X
  obtain ⟨hx, hb, hml, hown, hts, hK, hI, hA, hc1, hc2, hf1, hf2, hlk, hrt, hnt⟩ := hC
  intro H locs ls hP hS hl
  exact lv_iconst hx hb hd hv (kk H locs ls hP hS hl)
theorem zv_bipush (hC : zv_C G X M) {n : Int} {v : Int32} (hd : decode M.1 pc = .ok (.bipush n, 2)) (hv : (Int8.ofInt n).toInt32 = v) (kk : zv_V G X M (pc + 2) lv (.int v :: st) σ) : zv_V G X M pc lv (st) σ := by
  obtain ⟨p, e, s, m, args, below, meth, c, R, cells, slots, QQ, A⟩ := X
  obtain ⟨hx, hb, hml, hown, hts, hK, hI, hA, hc1, hc2, hf1, hf2, hlk, hrt, hnt⟩ := hC
  intro H locs ls hP hS hl
  exact lv_bipush hx hb hd hv (kk H locs ls hP hS hl)
theorem zv_sipush (hC : zv_C G X M) {n : Int} {v : Int32} (hd : decode M.1 pc = .ok (.sipush n, 3)) (hv : (Int16.ofInt n).toInt32 = v) (kk : zv_V G X M (pc + 3) lv (.int v :: st) σ) : zv_V G X M pc lv (st) σ := by
  obtain ⟨p, e, s, m, args, below, meth, c, R, cells, slots, QQ, A⟩ := X
  obtain ⟨hx, hb, hml, hown, hts, hK, hI, hA, hc1, hc2, hf1, hf2, hlk, hrt, hnt⟩ := hC
  intro H locs ls hP hS hl
  exact lv_sipush hx hb hd hv (kk H locs ls hP hS hl)
theorem zv_lconst (hC : zv_C G X M) {n : Fin 2} {v : Int64} (hd : decode M.1 pc = .ok (.lconst n, 1)) (hv : Int64.ofNat (n : Nat) = v) (kk : zv_V G X M (pc + 1) lv (.long v :: st) σ) : zv_V G X M pc lv (st) σ := by
  obtain ⟨p, e, s, m, args, below, meth, c, R, cells, slots, QQ, A⟩ := X
  obtain ⟨hx, hb, hml, hown, hts, hK, hI, hA, hc1, hc2, hf1, hf2, hlk, hrt, hnt⟩ := hC
  intro H locs ls hP hS hl
  exact lv_lconst hx hb hd hv (kk H locs ls hP hS hl)
theorem zv_ldc (hC : zv_C G X M) {i : Nat} {v : Int32} (hd : decode M.1 pc = .ok (.ldc i, 2)) (hw : Cond.constant M.2.2.1 i v ∈ zv_tb) (kk : zv_V G X M (pc + 2) lv (.int v :: st) σ) : zv_V G X M pc lv (st) σ := by
  obtain ⟨p, e, s, m, args, below, meth, c, R, cells, slots, QQ, A⟩ := X
  obtain ⟨hx, hb, hml, hown, hts, hK, hI, hA, hc1, hc2, hf1, hf2, hlk, hrt, hnt⟩ := hC
  intro H locs ls hP hS hl
  exact lv_ldc hx hb hown (hts _ hw) hd (kk H locs ls hP hS hl)
theorem zv_ldc2 (hC : zv_C G X M) {i : Nat} {v : Int64} (hd : decode M.1 pc = .ok (.ldc2_w i, 3)) (hw : Cond.constantLong M.2.2.1 i v ∈ zv_tb) (kk : zv_V G X M (pc + 3) lv (.long v :: st) σ) : zv_V G X M pc lv (st) σ := by
  obtain ⟨p, e, s, m, args, below, meth, c, R, cells, slots, QQ, A⟩ := X
  obtain ⟨hx, hb, hml, hown, hts, hK, hI, hA, hc1, hc2, hf1, hf2, hlk, hrt, hnt⟩ := hC
  intro H locs ls hP hS hl
  exact lv_ldc2 hx hb hown (hts _ hw) hd (kk H locs ls hP hS hl)
theorem zv_iload_n (hC : zv_C G X M) {k : Fin 4} {x : Int32} (hd : decode M.1 pc = .ok (.iload_n k, 1)) (hk : lv.lookup (k : Nat) = some (.int x)) (kk : zv_V G X M (pc + 1) lv (.int x :: st) σ) : zv_V G X M pc lv (st) σ := by
  obtain ⟨p, e, s, m, args, below, meth, c, R, cells, slots, QQ, A⟩ := X
  obtain ⟨hx, hb, hml, hown, hts, hK, hI, hA, hc1, hc2, hf1, hf2, hlk, hrt, hnt⟩ := hC
  intro H locs ls hP hS hl
  exact lv_iload_n hx hb hd rfl (zv_lk hl hk) (kk H locs ls hP hS hl)
theorem zv_iload (hC : zv_C G X M) {i : Nat} {x : Int32} (hd : decode M.1 pc = .ok (.iload i, 2)) (hk : lv.lookup i = some (.int x)) (kk : zv_V G X M (pc + 2) lv (.int x :: st) σ) : zv_V G X M pc lv (st) σ := by
  obtain ⟨p, e, s, m, args, below, meth, c, R, cells, slots, QQ, A⟩ := X
  obtain ⟨hx, hb, hml, hown, hts, hK, hI, hA, hc1, hc2, hf1, hf2, hlk, hrt, hnt⟩ := hC
  intro H locs ls hP hS hl
  exact lv_iload hx hb hd (zv_lk hl hk) (kk H locs ls hP hS hl)
theorem zv_lload_n (hC : zv_C G X M) {k : Fin 4} {x : Int64} (hd : decode M.1 pc = .ok (.lload_n k, 1)) (hk : lv.lookup (k : Nat) = some (.long x)) (kk : zv_V G X M (pc + 1) lv (.long x :: st) σ) : zv_V G X M pc lv (st) σ := by
  obtain ⟨p, e, s, m, args, below, meth, c, R, cells, slots, QQ, A⟩ := X
  obtain ⟨hx, hb, hml, hown, hts, hK, hI, hA, hc1, hc2, hf1, hf2, hlk, hrt, hnt⟩ := hC
  intro H locs ls hP hS hl
  exact lv_lload_n hx hb hd rfl (zv_lk hl hk) (kk H locs ls hP hS hl)
theorem zv_lload (hC : zv_C G X M) {i : Nat} {x : Int64} (hd : decode M.1 pc = .ok (.lload i, 2)) (hk : lv.lookup i = some (.long x)) (kk : zv_V G X M (pc + 2) lv (.long x :: st) σ) : zv_V G X M pc lv (st) σ := by
  obtain ⟨p, e, s, m, args, below, meth, c, R, cells, slots, QQ, A⟩ := X
  obtain ⟨hx, hb, hml, hown, hts, hK, hI, hA, hc1, hc2, hf1, hf2, hlk, hrt, hnt⟩ := hC
  intro H locs ls hP hS hl
  exact lv_lload hx hb hd (zv_lk hl hk) (kk H locs ls hP hS hl)
theorem zv_aload_n (hC : zv_C G X M) {k : Fin 4} {x : Nat} (hd : decode M.1 pc = .ok (.aload_n k, 1)) (hk : lv.lookup (k : Nat) = some (.ref x)) (kk : zv_V G X M (pc + 1) lv (.ref x :: st) σ) : zv_V G X M pc lv (st) σ := by
  obtain ⟨p, e, s, m, args, below, meth, c, R, cells, slots, QQ, A⟩ := X
  obtain ⟨hx, hb, hml, hown, hts, hK, hI, hA, hc1, hc2, hf1, hf2, hlk, hrt, hnt⟩ := hC
  intro H locs ls hP hS hl
  exact lv_aload_n hx hb hd rfl (zv_lk hl hk) (kk H locs ls hP hS hl)
theorem zv_aload (hC : zv_C G X M) {i : Nat} {x : Nat} (hd : decode M.1 pc = .ok (.aload i, 2)) (hk : lv.lookup i = some (.ref x)) (kk : zv_V G X M (pc + 2) lv (.ref x :: st) σ) : zv_V G X M pc lv (st) σ := by
  obtain ⟨p, e, s, m, args, below, meth, c, R, cells, slots, QQ, A⟩ := X
  obtain ⟨hx, hb, hml, hown, hts, hK, hI, hA, hc1, hc2, hf1, hf2, hlk, hrt, hnt⟩ := hC
  intro H locs ls hP hS hl
  exact lv_aload hx hb hd (zv_lk hl hk) (kk H locs ls hP hS hl)
theorem zv_istore_n (hC : zv_C G X M) {k : Fin 4} {x : Int32} (hd : decode M.1 pc = .ok (.istore_n k, 1)) (hn : (k : Nat) < M.2.1) (kk : zv_V G X M (pc + 1) (zv_s1 lv (k : Nat) (.int x)) st σ) : zv_V G X M pc lv (.int x :: st) σ := by
  obtain ⟨p, e, s, m, args, below, meth, c, R, cells, slots, QQ, A⟩ := X
  obtain ⟨hx, hb, hml, hown, hts, hK, hI, hA, hc1, hc2, hf1, hf2, hlk, hrt, hnt⟩ := hC
  intro H locs ls hP hS hl
  exact lv_istore_n hx hb hd rfl hl hn rfl (fun ls hl => (kk H locs ls hP hS hl))
theorem zv_istore (hC : zv_C G X M) {i : Nat} {x : Int32} (hd : decode M.1 pc = .ok (.istore i, 2)) (hn : i < M.2.1) (kk : zv_V G X M (pc + 2) (zv_s1 lv i (.int x)) st σ) : zv_V G X M pc lv (.int x :: st) σ := by
  obtain ⟨p, e, s, m, args, below, meth, c, R, cells, slots, QQ, A⟩ := X
  obtain ⟨hx, hb, hml, hown, hts, hK, hI, hA, hc1, hc2, hf1, hf2, hlk, hrt, hnt⟩ := hC
  intro H locs ls hP hS hl
  exact lv_istore hx hb hd hl hn rfl (fun ls hl => (kk H locs ls hP hS hl))
theorem zv_lstore_n (hC : zv_C G X M) {k : Fin 4} {x : Int64} (hd : decode M.1 pc = .ok (.lstore_n k, 1)) (hn : (k : Nat) + 1 < M.2.1) (kk : zv_V G X M (pc + 1) (zv_s2 lv (k : Nat) (.long x)) st σ) : zv_V G X M pc lv (.long x :: st) σ := by
  obtain ⟨p, e, s, m, args, below, meth, c, R, cells, slots, QQ, A⟩ := X
  obtain ⟨hx, hb, hml, hown, hts, hK, hI, hA, hc1, hc2, hf1, hf2, hlk, hrt, hnt⟩ := hC
  intro H locs ls hP hS hl
  exact lv_lstore_n hx hb hd rfl hl hn rfl (fun ls hl => (kk H locs ls hP hS hl))
theorem zv_lstore (hC : zv_C G X M) {i : Nat} {x : Int64} (hd : decode M.1 pc = .ok (.lstore i, 2)) (hn : i + 1 < M.2.1) (kk : zv_V G X M (pc + 2) (zv_s2 lv i (.long x)) st σ) : zv_V G X M pc lv (.long x :: st) σ := by
  obtain ⟨p, e, s, m, args, below, meth, c, R, cells, slots, QQ, A⟩ := X
  obtain ⟨hx, hb, hml, hown, hts, hK, hI, hA, hc1, hc2, hf1, hf2, hlk, hrt, hnt⟩ := hC
  intro H locs ls hP hS hl
  exact lv_lstore hx hb hd hl hn rfl (fun ls hl => (kk H locs ls hP hS hl))
theorem zv_astore_n (hC : zv_C G X M) {k : Fin 4} {x : Nat} (hd : decode M.1 pc = .ok (.astore_n k, 1)) (hn : (k : Nat) < M.2.1) (kk : zv_V G X M (pc + 1) (zv_s1 lv (k : Nat) (.ref x)) st σ) : zv_V G X M pc lv (.ref x :: st) σ := by
  obtain ⟨p, e, s, m, args, below, meth, c, R, cells, slots, QQ, A⟩ := X
  obtain ⟨hx, hb, hml, hown, hts, hK, hI, hA, hc1, hc2, hf1, hf2, hlk, hrt, hnt⟩ := hC
  intro H locs ls hP hS hl
  exact lv_astore_n hx hb hd rfl hl hn rfl (fun ls hl => (kk H locs ls hP hS hl))
theorem zv_astore (hC : zv_C G X M) {i : Nat} {x : Nat} (hd : decode M.1 pc = .ok (.astore i, 2)) (hn : i < M.2.1) (kk : zv_V G X M (pc + 2) (zv_s1 lv i (.ref x)) st σ) : zv_V G X M pc lv (.ref x :: st) σ := by
  obtain ⟨p, e, s, m, args, below, meth, c, R, cells, slots, QQ, A⟩ := X
  obtain ⟨hx, hb, hml, hown, hts, hK, hI, hA, hc1, hc2, hf1, hf2, hlk, hrt, hnt⟩ := hC
  intro H locs ls hP hS hl
  exact lv_astore hx hb hd hl hn rfl (fun ls hl => (kk H locs ls hP hS hl))
theorem zv_iinc (hC : zv_C G X M) {i : Nat} {n : Int} {x v : Int32} (hd : decode M.1 pc = .ok (.iinc i n, 3)) (hk : lv.lookup i = some (.int x)) (hv : Int32.ofInt n = v) (hn : i < M.2.1) (kk : zv_V G X M (pc + 3) (zv_s1 lv i (.int (x + v))) st σ) : zv_V G X M pc lv st σ := by
  obtain ⟨p, e, s, m, args, below, meth, c, R, cells, slots, QQ, A⟩ := X
  obtain ⟨hx, hb, hml, hown, hts, hK, hI, hA, hc1, hc2, hf1, hf2, hlk, hrt, hnt⟩ := hC
  intro H locs ls hP hS hl
  obtain ⟨k, hk'⟩ := List.getElem?_of_mem (zv_look hk)
  subst hv
  exact lv_iinc hx hb hd hl hk' rfl hn rfl (fun ls hl => (kk H locs ls hP hS hl))
theorem zv_iadd (hC : zv_C G X M) {x y : Int32} (hd : decode M.1 pc = .ok (.iadd, 1)) (kk : zv_V G X M (pc + 1) lv (.int (x + y) :: st) σ) : zv_V G X M pc lv (.int y :: .int x :: st) σ := by
  obtain ⟨p, e, s, m, args, below, meth, c, R, cells, slots, QQ, A⟩ := X
  obtain ⟨hx, hb, hml, hown, hts, hK, hI, hA, hc1, hc2, hf1, hf2, hlk, hrt, hnt⟩ := hC
  intro H locs ls hP hS hl
  exact lv_iadd hx hb hd (kk H locs ls hP hS hl)
theorem zv_isub (hC : zv_C G X M) {x y : Int32} (hd : decode M.1 pc = .ok (.isub, 1)) (kk : zv_V G X M (pc + 1) lv (.int (x - y) :: st) σ) : zv_V G X M pc lv (.int y :: .int x :: st) σ := by
  obtain ⟨p, e, s, m, args, below, meth, c, R, cells, slots, QQ, A⟩ := X
  obtain ⟨hx, hb, hml, hown, hts, hK, hI, hA, hc1, hc2, hf1, hf2, hlk, hrt, hnt⟩ := hC
  intro H locs ls hP hS hl
  exact lv_isub hx hb hd (kk H locs ls hP hS hl)
theorem zv_imul (hC : zv_C G X M) {x y : Int32} (hd : decode M.1 pc = .ok (.imul, 1)) (kk : zv_V G X M (pc + 1) lv (.int (x * y) :: st) σ) : zv_V G X M pc lv (.int y :: .int x :: st) σ := by
  obtain ⟨p, e, s, m, args, below, meth, c, R, cells, slots, QQ, A⟩ := X
  obtain ⟨hx, hb, hml, hown, hts, hK, hI, hA, hc1, hc2, hf1, hf2, hlk, hrt, hnt⟩ := hC
  intro H locs ls hP hS hl
  exact lv_imul hx hb hd (kk H locs ls hP hS hl)
theorem zv_iand (hC : zv_C G X M) {x y : Int32} (hd : decode M.1 pc = .ok (.iand, 1)) (kk : zv_V G X M (pc + 1) lv (.int (x &&& y) :: st) σ) : zv_V G X M pc lv (.int y :: .int x :: st) σ := by
  obtain ⟨p, e, s, m, args, below, meth, c, R, cells, slots, QQ, A⟩ := X
  obtain ⟨hx, hb, hml, hown, hts, hK, hI, hA, hc1, hc2, hf1, hf2, hlk, hrt, hnt⟩ := hC
  intro H locs ls hP hS hl
  exact lv_iand hx hb hd (kk H locs ls hP hS hl)
theorem zv_ishr (hC : zv_C G X M) {x y : Int32} (hd : decode M.1 pc = .ok (.ishr, 1)) (kk : zv_V G X M (pc + 1) lv (.int (x >>> (y &&& 31)) :: st) σ) : zv_V G X M pc lv (.int y :: .int x :: st) σ := by
  obtain ⟨p, e, s, m, args, below, meth, c, R, cells, slots, QQ, A⟩ := X
  obtain ⟨hx, hb, hml, hown, hts, hK, hI, hA, hc1, hc2, hf1, hf2, hlk, hrt, hnt⟩ := hC
  intro H locs ls hP hS hl
  exact lv_ishr hx hb hd (kk H locs ls hP hS hl)
theorem zv_ishl (hC : zv_C G X M) {x y : Int32} (hd : decode M.1 pc = .ok (.ishl, 1)) (kk : zv_V G X M (pc + 1) lv (.int (x <<< (y &&& 31)) :: st) σ) : zv_V G X M pc lv (.int y :: .int x :: st) σ := by
  obtain ⟨p, e, s, m, args, below, meth, c, R, cells, slots, QQ, A⟩ := X
  obtain ⟨hx, hb, hml, hown, hts, hK, hI, hA, hc1, hc2, hf1, hf2, hlk, hrt, hnt⟩ := hC
  intro H locs ls hP hS hl
  exact lv_ishl hx hb hd (kk H locs ls hP hS hl)
theorem zv_idiv (hC : zv_C G X M) {x y : Int32} (hd : decode M.1 pc = .ok (.idiv, 1)) (hne : ¬ y = 0) (kk : zv_V G X M (pc + 1) lv (.int (x / y) :: st) σ) : zv_V G X M pc lv (.int y :: .int x :: st) σ := by
  obtain ⟨p, e, s, m, args, below, meth, c, R, cells, slots, QQ, A⟩ := X
  obtain ⟨hx, hb, hml, hown, hts, hK, hI, hA, hc1, hc2, hf1, hf2, hlk, hrt, hnt⟩ := hC
  intro H locs ls hP hS hl
  exact lv_idiv hx hb hd hne (kk H locs ls hP hS hl)
theorem zv_irem (hC : zv_C G X M) {x y : Int32} (hd : decode M.1 pc = .ok (.irem, 1)) (hne : ¬ y = 0) (kk : zv_V G X M (pc + 1) lv (.int (x - x / y * y) :: st) σ) : zv_V G X M pc lv (.int y :: .int x :: st) σ := by
  obtain ⟨p, e, s, m, args, below, meth, c, R, cells, slots, QQ, A⟩ := X
  obtain ⟨hx, hb, hml, hown, hts, hK, hI, hA, hc1, hc2, hf1, hf2, hlk, hrt, hnt⟩ := hC
  intro H locs ls hP hS hl
  exact lv_irem hx hb hd hne (kk H locs ls hP hS hl)
theorem zv_ladd (hC : zv_C G X M) {x y : Int64} (hd : decode M.1 pc = .ok (.ladd, 1)) (kk : zv_V G X M (pc + 1) lv (.long (x + y) :: st) σ) : zv_V G X M pc lv (.long y :: .long x :: st) σ := by
  obtain ⟨p, e, s, m, args, below, meth, c, R, cells, slots, QQ, A⟩ := X
  obtain ⟨hx, hb, hml, hown, hts, hK, hI, hA, hc1, hc2, hf1, hf2, hlk, hrt, hnt⟩ := hC
  intro H locs ls hP hS hl
  exact lv_ladd hx hb hd (kk H locs ls hP hS hl)
theorem zv_lsub (hC : zv_C G X M) {x y : Int64} (hd : decode M.1 pc = .ok (.lsub, 1)) (kk : zv_V G X M (pc + 1) lv (.long (x - y) :: st) σ) : zv_V G X M pc lv (.long y :: .long x :: st) σ := by
  obtain ⟨p, e, s, m, args, below, meth, c, R, cells, slots, QQ, A⟩ := X
  obtain ⟨hx, hb, hml, hown, hts, hK, hI, hA, hc1, hc2, hf1, hf2, hlk, hrt, hnt⟩ := hC
  intro H locs ls hP hS hl
  exact lv_lsub hx hb hd (kk H locs ls hP hS hl)
theorem zv_lmul (hC : zv_C G X M) {x y : Int64} (hd : decode M.1 pc = .ok (.lmul, 1)) (kk : zv_V G X M (pc + 1) lv (.long (x * y) :: st) σ) : zv_V G X M pc lv (.long y :: .long x :: st) σ := by
  obtain ⟨p, e, s, m, args, below, meth, c, R, cells, slots, QQ, A⟩ := X
  obtain ⟨hx, hb, hml, hown, hts, hK, hI, hA, hc1, hc2, hf1, hf2, hlk, hrt, hnt⟩ := hC
  intro H locs ls hP hS hl
  exact lv_lmul hx hb hd (kk H locs ls hP hS hl)
theorem zv_land (hC : zv_C G X M) {x y : Int64} (hd : decode M.1 pc = .ok (.land, 1)) (kk : zv_V G X M (pc + 1) lv (.long (x &&& y) :: st) σ) : zv_V G X M pc lv (.long y :: .long x :: st) σ := by
  obtain ⟨p, e, s, m, args, below, meth, c, R, cells, slots, QQ, A⟩ := X
  obtain ⟨hx, hb, hml, hown, hts, hK, hI, hA, hc1, hc2, hf1, hf2, hlk, hrt, hnt⟩ := hC
  intro H locs ls hP hS hl
  exact lv_land hx hb hd (kk H locs ls hP hS hl)
theorem zv_lor (hC : zv_C G X M) {x y : Int64} (hd : decode M.1 pc = .ok (.lor, 1)) (kk : zv_V G X M (pc + 1) lv (.long (x ||| y) :: st) σ) : zv_V G X M pc lv (.long y :: .long x :: st) σ := by
  obtain ⟨p, e, s, m, args, below, meth, c, R, cells, slots, QQ, A⟩ := X
  obtain ⟨hx, hb, hml, hown, hts, hK, hI, hA, hc1, hc2, hf1, hf2, hlk, hrt, hnt⟩ := hC
  intro H locs ls hP hS hl
  exact lv_lor hx hb hd (kk H locs ls hP hS hl)
theorem zv_lxor (hC : zv_C G X M) {x y : Int64} (hd : decode M.1 pc = .ok (.lxor, 1)) (kk : zv_V G X M (pc + 1) lv (.long (x ^^^ y) :: st) σ) : zv_V G X M pc lv (.long y :: .long x :: st) σ := by
  obtain ⟨p, e, s, m, args, below, meth, c, R, cells, slots, QQ, A⟩ := X
  obtain ⟨hx, hb, hml, hown, hts, hK, hI, hA, hc1, hc2, hf1, hf2, hlk, hrt, hnt⟩ := hC
  intro H locs ls hP hS hl
  exact lv_lxor hx hb hd (kk H locs ls hP hS hl)
theorem zv_ldiv (hC : zv_C G X M) {x y : Int64} (hd : decode M.1 pc = .ok (.ldiv, 1)) (hne : ¬ y = 0) (kk : zv_V G X M (pc + 1) lv (.long (x / y) :: st) σ) : zv_V G X M pc lv (.long y :: .long x :: st) σ := by
  obtain ⟨p, e, s, m, args, below, meth, c, R, cells, slots, QQ, A⟩ := X
  obtain ⟨hx, hb, hml, hown, hts, hK, hI, hA, hc1, hc2, hf1, hf2, hlk, hrt, hnt⟩ := hC
  intro H locs ls hP hS hl
  exact lv_ldiv hx hb hd hne (kk H locs ls hP hS hl)
theorem zv_lshl (hC : zv_C G X M) {x : Int64} {y : Int32} (hd : decode M.1 pc = .ok (.lshl, 1)) (kk : zv_V G X M (pc + 1) lv (.long (x <<< (y.toInt64 &&& 63)) :: st) σ) : zv_V G X M pc lv (.int y :: .long x :: st) σ := by
  obtain ⟨p, e, s, m, args, below, meth, c, R, cells, slots, QQ, A⟩ := X
  obtain ⟨hx, hb, hml, hown, hts, hK, hI, hA, hc1, hc2, hf1, hf2, hlk, hrt, hnt⟩ := hC
  intro H locs ls hP hS hl
  exact lv_lshl hx hb hd rfl (kk H locs ls hP hS hl)
theorem zv_lushr (hC : zv_C G X M) {x : Int64} {y : Int32} (hd : decode M.1 pc = .ok (.lushr, 1)) (kk : zv_V G X M (pc + 1) lv (.long (x.toUInt64 >>> (y.toInt64.toUInt64 &&& Int64.toUInt64 63)).toInt64 :: st) σ) : zv_V G X M pc lv (.int y :: .long x :: st) σ := by
  obtain ⟨p, e, s, m, args, below, meth, c, R, cells, slots, QQ, A⟩ := X
  obtain ⟨hx, hb, hml, hown, hts, hK, hI, hA, hc1, hc2, hf1, hf2, hlk, hrt, hnt⟩ := hC
  intro H locs ls hP hS hl
  exact lv_lushr hx hb hd rfl (kk H locs ls hP hS hl)
theorem zv_i2l (hC : zv_C G X M) {x : Int32} (hd : decode M.1 pc = .ok (.i2l, 1)) (kk : zv_V G X M (pc + 1) lv (.long x.toInt64 :: st) σ) : zv_V G X M pc lv (.int x :: st) σ := by
  obtain ⟨p, e, s, m, args, below, meth, c, R, cells, slots, QQ, A⟩ := X
  obtain ⟨hx, hb, hml, hown, hts, hK, hI, hA, hc1, hc2, hf1, hf2, hlk, hrt, hnt⟩ := hC
  intro H locs ls hP hS hl
  exact lv_i2l hx hb hd rfl (kk H locs ls hP hS hl)
theorem zv_lcmp (hC : zv_C G X M) {x y : Int64} (hd : decode M.1 pc = .ok (.lcmp, 1)) (kk : zv_V G X M (pc + 1) lv (.int (lg_cmp x y) :: st) σ) : zv_V G X M pc lv (.long y :: .long x :: st) σ := by
  obtain ⟨p, e, s, m, args, below, meth, c, R, cells, slots, QQ, A⟩ := X
  obtain ⟨hx, hb, hml, hown, hts, hK, hI, hA, hc1, hc2, hf1, hf2, hlk, hrt, hnt⟩ := hC
  intro H locs ls hP hS hl
  exact W.lcmp hx hb hd (kk H locs ls hP hS hl)
theorem zv_dup (hC : zv_C G X M) {v : Value} (hd : decode M.1 pc = .ok (.dup, 1)) (hv : v.category = 1) (kk : zv_V G X M (pc + 1) lv (v :: v :: st) σ) : zv_V G X M pc lv (v :: st) σ := by
  obtain ⟨p, e, s, m, args, below, meth, c, R, cells, slots, QQ, A⟩ := X
  obtain ⟨hx, hb, hml, hown, hts, hK, hI, hA, hc1, hc2, hf1, hf2, hlk, hrt, hnt⟩ := hC
  intro H locs ls hP hS hl
  exact lv_dup hx hb hd hv (kk H locs ls hP hS hl)
theorem zv_pop (hC : zv_C G X M) {v : Value} (hd : decode M.1 pc = .ok (.pop, 1)) (hv : v.category = 1) (kk : zv_V G X M (pc + 1) lv (st) σ) : zv_V G X M pc lv (v :: st) σ := by
  obtain ⟨p, e, s, m, args, below, meth, c, R, cells, slots, QQ, A⟩ := X
  obtain ⟨hx, hb, hml, hown, hts, hK, hI, hA, hc1, hc2, hf1, hf2, hlk, hrt, hnt⟩ := hC
  intro H locs ls hP hS hl
  exact lv_pop hx hb hd hv (kk H locs ls hP hS hl)
theorem zv_dup2 (hC : zv_C G X M) {v w : Value} (hd : decode M.1 pc = .ok (.dup2, 1)) (hv : v.category = 1) (hw : w.category = 1) (kk : zv_V G X M (pc + 1) lv (v :: w :: v :: w :: st) σ) : zv_V G X M pc lv (v :: w :: st) σ := by
  obtain ⟨p, e, s, m, args, below, meth, c, R, cells, slots, QQ, A⟩ := X
  obtain ⟨hx, hb, hml, hown, hts, hK, hI, hA, hc1, hc2, hf1, hf2, hlk, hrt, hnt⟩ := hC
  intro H locs ls hP hS hl
  exact lv_dup2_11 hx hb hd hv hw (kk H locs ls hP hS hl)
theorem zv_if_eq (hC : zv_C G X M) {x : Int32} {off : Int} {tgt : Nat} (hd : decode M.1 pc = .ok (.ifCond .eq off, 3)) (ht : (pc : Int) + off = (tgt : Int)) (kt : x = 0 → zv_V G X M (tgt) lv (st) σ) (kf : ¬ x = 0 → zv_V G X M (pc + 3) lv (st) σ) : zv_V G X M pc lv (.int x :: st) σ := by
  obtain ⟨p, e, s, m, args, below, meth, c, R, cells, slots, QQ, A⟩ := X
  obtain ⟨hx, hb, hml, hown, hts, hK, hI, hA, hc1, hc2, hf1, hf2, hlk, hrt, hnt⟩ := hC
  intro H locs ls hP hS hl
  exact lv_if_eq hx hb hd ht (fun q => kt q H locs ls hP hS hl) (fun q => kf q H locs ls hP hS hl)
theorem zv_icmp_eq (hC : zv_C G X M) {x y : Int32} {off : Int} {tgt : Nat} (hd : decode M.1 pc = .ok (.if_icmp .eq off, 3)) (ht : (pc : Int) + off = (tgt : Int)) (kt : x = y → zv_V G X M (tgt) lv (st) σ) (kf : ¬ x = y → zv_V G X M (pc + 3) lv (st) σ) : zv_V G X M pc lv (.int y :: .int x :: st) σ := by
  obtain ⟨p, e, s, m, args, below, meth, c, R, cells, slots, QQ, A⟩ := X
  obtain ⟨hx, hb, hml, hown, hts, hK, hI, hA, hc1, hc2, hf1, hf2, hlk, hrt, hnt⟩ := hC
  intro H locs ls hP hS hl
  exact lv_icmp_eq hx hb hd ht (fun q => kt q H locs ls hP hS hl) (fun q => kf q H locs ls hP hS hl)
theorem zv_if_ne (hC : zv_C G X M) {x : Int32} {off : Int} {tgt : Nat} (hd : decode M.1 pc = .ok (.ifCond .ne off, 3)) (ht : (pc : Int) + off = (tgt : Int)) (kt : ¬ x = 0 → zv_V G X M (tgt) lv (st) σ) (kf : x = 0 → zv_V G X M (pc + 3) lv (st) σ) : zv_V G X M pc lv (.int x :: st) σ := by
  obtain ⟨p, e, s, m, args, below, meth, c, R, cells, slots, QQ, A⟩ := X
  obtain ⟨hx, hb, hml, hown, hts, hK, hI, hA, hc1, hc2, hf1, hf2, hlk, hrt, hnt⟩ := hC
  intro H locs ls hP hS hl
  exact lv_if_ne hx hb hd ht (fun q => kt q H locs ls hP hS hl) (fun q => kf q H locs ls hP hS hl)
theorem zv_icmp_ne (hC : zv_C G X M) {x y : Int32} {off : Int} {tgt : Nat} (hd : decode M.1 pc = .ok (.if_icmp .ne off, 3)) (ht : (pc : Int) + off = (tgt : Int)) (kt : ¬ x = y → zv_V G X M (tgt) lv (st) σ) (kf : x = y → zv_V G X M (pc + 3) lv (st) σ) : zv_V G X M pc lv (.int y :: .int x :: st) σ := by
  obtain ⟨p, e, s, m, args, below, meth, c, R, cells, slots, QQ, A⟩ := X
  obtain ⟨hx, hb, hml, hown, hts, hK, hI, hA, hc1, hc2, hf1, hf2, hlk, hrt, hnt⟩ := hC
  intro H locs ls hP hS hl
  exact lv_icmp_ne hx hb hd ht (fun q => kt q H locs ls hP hS hl) (fun q => kf q H locs ls hP hS hl)
theorem zv_if_lt (hC : zv_C G X M) {x : Int32} {off : Int} {tgt : Nat} (hd : decode M.1 pc = .ok (.ifCond .lt off, 3)) (ht : (pc : Int) + off = (tgt : Int)) (kt : x < 0 → zv_V G X M (tgt) lv (st) σ) (kf : ¬ x < 0 → zv_V G X M (pc + 3) lv (st) σ) : zv_V G X M pc lv (.int x :: st) σ := by
  obtain ⟨p, e, s, m, args, below, meth, c, R, cells, slots, QQ, A⟩ := X
  obtain ⟨hx, hb, hml, hown, hts, hK, hI, hA, hc1, hc2, hf1, hf2, hlk, hrt, hnt⟩ := hC
  intro H locs ls hP hS hl
  exact lv_if_lt hx hb hd ht (fun q => kt q H locs ls hP hS hl) (fun q => kf q H locs ls hP hS hl)
theorem zv_icmp_lt (hC : zv_C G X M) {x y : Int32} {off : Int} {tgt : Nat} (hd : decode M.1 pc = .ok (.if_icmp .lt off, 3)) (ht : (pc : Int) + off = (tgt : Int)) (kt : x < y → zv_V G X M (tgt) lv (st) σ) (kf : ¬ x < y → zv_V G X M (pc + 3) lv (st) σ) : zv_V G X M pc lv (.int y :: .int x :: st) σ := by
  obtain ⟨p, e, s, m, args, below, meth, c, R, cells, slots, QQ, A⟩ := X
  obtain ⟨hx, hb, hml, hown, hts, hK, hI, hA, hc1, hc2, hf1, hf2, hlk, hrt, hnt⟩ := hC
  intro H locs ls hP hS hl
  exact lv_icmp_lt hx hb hd ht (fun q => kt q H locs ls hP hS hl) (fun q => kf q H locs ls hP hS hl)
theorem zv_if_ge (hC : zv_C G X M) {x : Int32} {off : Int} {tgt : Nat} (hd : decode M.1 pc = .ok (.ifCond .ge off, 3)) (ht : (pc : Int) + off = (tgt : Int)) (kt : 0 ≤ x → zv_V G X M (tgt) lv (st) σ) (kf : ¬ 0 ≤ x → zv_V G X M (pc + 3) lv (st) σ) : zv_V G X M pc lv (.int x :: st) σ := by
  obtain ⟨p, e, s, m, args, below, meth, c, R, cells, slots, QQ, A⟩ := X
  obtain ⟨hx, hb, hml, hown, hts, hK, hI, hA, hc1, hc2, hf1, hf2, hlk, hrt, hnt⟩ := hC
  intro H locs ls hP hS hl
  exact lv_if_ge hx hb hd ht (fun q => kt q H locs ls hP hS hl) (fun q => kf q H locs ls hP hS hl)
theorem zv_icmp_ge (hC : zv_C G X M) {x y : Int32} {off : Int} {tgt : Nat} (hd : decode M.1 pc = .ok (.if_icmp .ge off, 3)) (ht : (pc : Int) + off = (tgt : Int)) (kt : y ≤ x → zv_V G X M (tgt) lv (st) σ) (kf : ¬ y ≤ x → zv_V G X M (pc + 3) lv (st) σ) : zv_V G X M pc lv (.int y :: .int x :: st) σ := by
  obtain ⟨p, e, s, m, args, below, meth, c, R, cells, slots, QQ, A⟩ := X
  obtain ⟨hx, hb, hml, hown, hts, hK, hI, hA, hc1, hc2, hf1, hf2, hlk, hrt, hnt⟩ := hC
  intro H locs ls hP hS hl
  exact lv_icmp_ge hx hb hd ht (fun q => kt q H locs ls hP hS hl) (fun q => kf q H locs ls hP hS hl)
theorem zv_if_gt (hC : zv_C G X M) {x : Int32} {off : Int} {tgt : Nat} (hd : decode M.1 pc = .ok (.ifCond .gt off, 3)) (ht : (pc : Int) + off = (tgt : Int)) (kt : 0 < x → zv_V G X M (tgt) lv (st) σ) (kf : ¬ 0 < x → zv_V G X M (pc + 3) lv (st) σ) : zv_V G X M pc lv (.int x :: st) σ := by
  obtain ⟨p, e, s, m, args, below, meth, c, R, cells, slots, QQ, A⟩ := X
  obtain ⟨hx, hb, hml, hown, hts, hK, hI, hA, hc1, hc2, hf1, hf2, hlk, hrt, hnt⟩ := hC
  intro H locs ls hP hS hl
  exact lv_if_gt hx hb hd ht (fun q => kt q H locs ls hP hS hl) (fun q => kf q H locs ls hP hS hl)
theorem zv_icmp_gt (hC : zv_C G X M) {x y : Int32} {off : Int} {tgt : Nat} (hd : decode M.1 pc = .ok (.if_icmp .gt off, 3)) (ht : (pc : Int) + off = (tgt : Int)) (kt : y < x → zv_V G X M (tgt) lv (st) σ) (kf : ¬ y < x → zv_V G X M (pc + 3) lv (st) σ) : zv_V G X M pc lv (.int y :: .int x :: st) σ := by
  obtain ⟨p, e, s, m, args, below, meth, c, R, cells, slots, QQ, A⟩ := X
  obtain ⟨hx, hb, hml, hown, hts, hK, hI, hA, hc1, hc2, hf1, hf2, hlk, hrt, hnt⟩ := hC
  intro H locs ls hP hS hl
  exact lv_icmp_gt hx hb hd ht (fun q => kt q H locs ls hP hS hl) (fun q => kf q H locs ls hP hS hl)
theorem zv_if_le (hC : zv_C G X M) {x : Int32} {off : Int} {tgt : Nat} (hd : decode M.1 pc = .ok (.ifCond .le off, 3)) (ht : (pc : Int) + off = (tgt : Int)) (kt : x ≤ 0 → zv_V G X M (tgt) lv (st) σ) (kf : ¬ x ≤ 0 → zv_V G X M (pc + 3) lv (st) σ) : zv_V G X M pc lv (.int x :: st) σ := by
  obtain ⟨p, e, s, m, args, below, meth, c, R, cells, slots, QQ, A⟩ := X
  obtain ⟨hx, hb, hml, hown, hts, hK, hI, hA, hc1, hc2, hf1, hf2, hlk, hrt, hnt⟩ := hC
  intro H locs ls hP hS hl
  exact lv_if_le hx hb hd ht (fun q => kt q H locs ls hP hS hl) (fun q => kf q H locs ls hP hS hl)
theorem zv_icmp_le (hC : zv_C G X M) {x y : Int32} {off : Int} {tgt : Nat} (hd : decode M.1 pc = .ok (.if_icmp .le off, 3)) (ht : (pc : Int) + off = (tgt : Int)) (kt : x ≤ y → zv_V G X M (tgt) lv (st) σ) (kf : ¬ x ≤ y → zv_V G X M (pc + 3) lv (st) σ) : zv_V G X M pc lv (.int y :: .int x :: st) σ := by
  obtain ⟨p, e, s, m, args, below, meth, c, R, cells, slots, QQ, A⟩ := X
  obtain ⟨hx, hb, hml, hown, hts, hK, hI, hA, hc1, hc2, hf1, hf2, hlk, hrt, hnt⟩ := hC
  intro H locs ls hP hS hl
  exact lv_icmp_le hx hb hd ht (fun q => kt q H locs ls hP hS hl) (fun q => kf q H locs ls hP hS hl)
theorem zv_goto (hC : zv_C G X M) {off : Int} {tgt : Nat} (hd : decode M.1 pc = .ok (.goto off, 3)) (ht : (pc : Int) + off = (tgt : Int)) (kk : zv_V G X M (tgt) lv (st) σ) : zv_V G X M pc lv (st) σ := by
  obtain ⟨p, e, s, m, args, below, meth, c, R, cells, slots, QQ, A⟩ := X
  obtain ⟨hx, hb, hml, hown, hts, hK, hI, hA, hc1, hc2, hf1, hf2, hlk, hrt, hnt⟩ := hC
  intro H locs ls hP hS hl
  exact lv_goto hx hb hd ht (kk H locs ls hP hS hl)
theorem zv_table (hC : zv_C G X M) {dflt lo hi : Int} {offs : Array Int} {len : Nat} {x : Int32} {off : Int} {tgt : Nat} (hd : decode M.1 pc = .ok (.tableswitch dflt lo hi offs, len)) (h1 : ¬ x.toInt < lo) (h2 : ¬ hi < x.toInt) (ho : offs[(x.toInt - lo).toNat]? = some off) (ht : (pc : Int) + off = (tgt : Int)) (kk : zv_V G X M (tgt) lv (st) σ) : zv_V G X M pc lv (.int x :: st) σ := by
  obtain ⟨p, e, s, m, args, below, meth, c, R, cells, slots, QQ, A⟩ := X
  obtain ⟨hx, hb, hml, hown, hts, hK, hI, hA, hc1, hc2, hf1, hf2, hlk, hrt, hnt⟩ := hC
  intro H locs ls hP hS hl
  exact lv_tableIn hx hb hd h1 h2 ho ht (kk H locs ls hP hS hl)
theorem zv_tableD (hC : zv_C G X M) {dflt lo hi : Int} {offs : Array Int} {len : Nat} {x : Int32} {tgt : Nat} (hd : decode M.1 pc = .ok (.tableswitch dflt lo hi offs, len)) (h : x.toInt < lo ∨ hi < x.toInt) (ht : (pc : Int) + dflt = (tgt : Int)) (kk : zv_V G X M (tgt) lv (st) σ) : zv_V G X M pc lv (.int x :: st) σ := by
  obtain ⟨p, e, s, m, args, below, meth, c, R, cells, slots, QQ, A⟩ := X
  obtain ⟨hx, hb, hml, hown, hts, hK, hI, hA, hc1, hc2, hf1, hf2, hlk, hrt, hnt⟩ := hC
  intro H locs ls hP hS hl
  exact lv_tableOut hx hb hd h ht (kk H locs ls hP hS hl)
theorem zv_lookup (hC : zv_C G X M) {dflt : Int} {ps : Array (Int × Int)} {len : Nat} {x : Int32} {off : Int} {tgt : Nat} (hd : decode M.1 pc = .ok (.lookupswitch dflt ps, len)) (hp : (ps.toList.zip (ps.toList.drop 1)).all (fun (a, next) => a.1 < next.1) = true) (ho : Op.lookupswitch.offset ps.toList dflt x.toInt = off) (ht : (pc : Int) + off = (tgt : Int)) (kk : zv_V G X M (tgt) lv (st) σ) : zv_V G X M pc lv (.int x :: st) σ := by
  obtain ⟨p, e, s, m, args, below, meth, c, R, cells, slots, QQ, A⟩ := X
  obtain ⟨hx, hb, hml, hown, hts, hK, hI, hA, hc1, hc2, hf1, hf2, hlk, hrt, hnt⟩ := hC
  intro H locs ls hP hS hl
  exact lv_lookup hx hb hd hp ho ht (kk H locs ls hP hS hl)
/-- a field of an object, named by entry 'idx' of the class 'own': class number ci, place i -/
def zv_FL (own : String) (idx ci i : Nat) : Prop := ∃ (C : String) (T : u_T) (N : Nat), vwCl[ci]? = some (C, T, N) ∧ i < N ∧ (∀ w ∈ u_ws C T N, w ∈ zv_tb) ∧ Cond.fieldLink own idx (T i).1 (T i).2.1 (T i).2.2.1 ∈ zv_tb
def zv_FP (own : String) (idx ci i : Nat) (ty : FieldType) : Prop := ∃ (C : String) (T : u_T) (N : Nat) (ty0 : Nat → FieldType), vwCl[ci]? = some (C, T, N) ∧ i < N ∧ (∀ w ∈ u_ws C T N, w ∈ zv_tb) ∧ Cond.fieldLink own idx (T i).1 (T i).2.1 (T i).2.2.1 ∈ zv_tb ∧ (∀ k, k < N → parseFieldDescriptor (T k).2.2.1 = some (ty0 k)) ∧ (∀ a, a < N → ∀ b, b < N → a ≠ b → (T a).2.1 ≠ (T b).2.1) ∧ (T i).2.2.2 = false ∧ parseFieldDescriptor (T i).2.2.1 = some ty
theorem zv_get (hC : zv_C G X M) {idx ci i k f : Nat} {fl : List Nat} {v : Value} (hF : zv_FL M.2.2.1 idx ci i) (hd : decode M.1 pc = .ok (.getfield idx, 3)) (hk : zv_tab[k]? = some (.inr (ci, fl))) (hf : fl[i]? = some f) (hv : zv_v G.2.2.1 σ k i f = v) (kk : zv_V G X M (pc + 3) lv (v :: st) σ) : zv_V G X M pc lv (.ref (G.2.2.1 k) :: st) σ := by
  obtain ⟨p, e, s, m, args, below, meth, c, R, cells, slots, QQ, A⟩ := X
  obtain ⟨hx, hb, hml, hown, hts, hK, hI, hA, hc1, hc2, hf1, hf2, hlk, hrt, hnt⟩ := hC
  intro H locs ls hP hS hl
  obtain ⟨C, T, N, h1, h2, h3, h4⟩ := hF
  subst hv
  refine va_get (ci := ci) hx hb hts h3 hown hK hP k (zv_w_of hk) h1 i h2 (hts _ h4) (fun _ h9 => h9) ?_ hd (kk H locs ls hP hS hl)
  have := zv_f_get G.2.2.1 σ k fl 0 i f hf
  rwa [Nat.zero_add] at this
theorem zv_getR (hC : zv_C G X M) {idx ci i k j : Nat} {fl : List Nat} (hF : zv_FL M.2.2.1 idx ci i) (hd : decode M.1 pc = .ok (.getfield idx, 3)) (hk : zv_tab[k]? = some (.inr (ci, fl))) (hf : fl[i]? = some (j + 2)) (kk : zv_V G X M (pc + 3) lv (.ref (G.2.2.1 j) :: st) σ) : zv_V G X M pc lv (.ref (G.2.2.1 k) :: st) σ := zv_get hC hF hd hk hf rfl kk
theorem zv_getI (hC : zv_C G X M) {idx ci i k : Nat} {fl : List Nat} (hF : zv_FL M.2.2.1 idx ci i) (hd : decode M.1 pc = .ok (.getfield idx, 3)) (hk : zv_tab[k]? = some (.inr (ci, fl))) (hf : fl[i]? = some 0) (kk : zv_V G X M (pc + 3) lv (.int (σ.1 k i) :: st) σ) : zv_V G X M pc lv (.ref (G.2.2.1 k) :: st) σ := zv_get hC hF hd hk hf rfl kk
theorem zv_getL (hC : zv_C G X M) {idx ci i k : Nat} {fl : List Nat} (hF : zv_FL M.2.2.1 idx ci i) (hd : decode M.1 pc = .ok (.getfield idx, 3)) (hk : zv_tab[k]? = some (.inr (ci, fl))) (hf : fl[i]? = some 1) (kk : zv_V G X M (pc + 3) lv (.long (σ.2 k i) :: st) σ) : zv_V G X M pc lv (.ref (G.2.2.1 k) :: st) σ := zv_get hC hF hd hk hf rfl kk
theorem zv_putI (hC : zv_C G X M) {idx ci i k : Nat} {fl : List Nat} {ty : FieldType} {x : Int32} (hF : zv_FP M.2.2.1 idx ci i ty) (hd : decode M.1 pc = .ok (.putfield idx, 3)) (hk : zv_tab[k]? = some (.inr (ci, fl))) (hf : fl[i]? = some 0) (hn : narrow ty (.int x) = .int x) (hfit : fits ty (.int x) = true) (kk : zv_V G X M (pc + 3) lv st (zv_wi σ k i x)) : zv_V G X M pc lv (.int x :: .ref (G.2.2.1 k) :: st) σ := by
  obtain ⟨p, e, s, m, args, below, meth, c, R, cells, slots, QQ, A⟩ := X
  obtain ⟨hx, hb, hml, hown, hts, hK, hI, hA, hc1, hc2, hf1, hf2, hlk, hrt, hnt⟩ := hC
  intro H locs ls hP hS hl
  obtain ⟨C, T, N, ty0, h1, h2, h3, h4, h5, h6, h7, h8⟩ := hF
  have hD := zv_D G hI hA σ
  have hlen : i < (zv_f G.2.2.1 σ k 0 fl).length := by rw [zv_f_len]; exact (List.getElem?_eq_some_iff.mp hf).1
  refine va_put (ci := ci) hx hb hts h3 ty0 h5 h6 hown hK hP hD hS k (zv_w_of hk) h1 i h2 (hts _ h4) (fun _ h9 => h9) h7 h8 hn hfit hlen hd (fun H1 locs1 hP1 hD1 hS1 => ?_)
  refine kk H1 locs1 ls ?_ hS1 hl
  have e := zv_f_set G.2.2.1 σ k x fl 0 i hf
  rw [Nat.zero_add] at e
  rw [zv_w_set G.2.2.1 G.2.2.2 (σ := σ) (σ' := zv_wi σ k i x) (zv_lt hk) (fun j hj => ⟨zv_wi_n σ i x hj, rfl⟩) (by rw [e, zv_e, hk]; rfl)] at hP1
  exact hP1
theorem zv_putL (hC : zv_C G X M) {idx ci i k : Nat} {fl : List Nat} {ty : FieldType} {x : Int64} (hF : zv_FP M.2.2.1 idx ci i ty) (hd : decode M.1 pc = .ok (.putfield idx, 3)) (hk : zv_tab[k]? = some (.inr (ci, fl))) (hf : fl[i]? = some 1) (hn : narrow ty (.long x) = .long x) (hfit : fits ty (.long x) = true) (kk : zv_V G X M (pc + 3) lv st (zv_wl σ k i x)) : zv_V G X M pc lv (.long x :: .ref (G.2.2.1 k) :: st) σ := by
  obtain ⟨p, e, s, m, args, below, meth, c, R, cells, slots, QQ, A⟩ := X
  obtain ⟨hx, hb, hml, hown, hts, hK, hI, hA, hc1, hc2, hf1, hf2, hlk, hrt, hnt⟩ := hC
  intro H locs ls hP hS hl
  obtain ⟨C, T, N, ty0, h1, h2, h3, h4, h5, h6, h7, h8⟩ := hF
  have hD := zv_D G hI hA σ
  have hlen : i < (zv_f G.2.2.1 σ k 0 fl).length := by rw [zv_f_len]; exact (List.getElem?_eq_some_iff.mp hf).1
  refine va_put (ci := ci) hx hb hts h3 ty0 h5 h6 hown hK hP hD hS k (zv_w_of hk) h1 i h2 (hts _ h4) (fun _ h9 => h9) h7 h8 hn hfit hlen hd (fun H1 locs1 hP1 hD1 hS1 => ?_)
  refine kk H1 locs1 ls ?_ hS1 hl
  have e := zv_f_setL G.2.2.1 σ k x fl 0 i hf
  rw [Nat.zero_add] at e
  rw [zv_w_set G.2.2.1 G.2.2.2 (σ := σ) (σ' := zv_wl σ k i x) (zv_lt hk) (fun j hj => ⟨rfl, zv_wl_n σ i x hj⟩) (by rw [e, zv_e, hk]; rfl)] at hP1
  exact hP1
theorem zv_iald (hC : zv_C G X M) {k n : Nat} {i : Int32} (hd : decode M.1 pc = .ok (.iaload, 1)) (hk : zv_tab[k]? = some (.inl (0, n))) (hin : vp_in i n) (kk : zv_V G X M (pc + 1) lv (.int (σ.1 k i.toNatClampNeg) :: st) σ) : zv_V G X M pc lv (.int i :: .ref (G.2.2.1 k) :: st) σ := by
  obtain ⟨p, e, s, m, args, below, meth, c, R, cells, slots, QQ, A⟩ := X
  obtain ⟨hx, hb, hml, hown, hts, hK, hI, hA, hc1, hc2, hf1, hf2, hlk, hrt, hnt⟩ := hC
  intro H locs ls hP hS hl
  exact va_iald hx hb hK hP k 0 (zv_w_of hk) rfl hin hd (kk H locs ls hP hS hl)
theorem zv_zald (hC : zv_C G X M) {k n : Nat} {i : Int32} (hd : decode M.1 pc = .ok (.baload, 1)) (hk : zv_tab[k]? = some (.inl (1, n))) (hin : vp_in i n) (kk : zv_V G X M (pc + 1) lv (.int (σ.1 k i.toNatClampNeg) :: st) σ) : zv_V G X M pc lv (.int i :: .ref (G.2.2.1 k) :: st) σ := by
  obtain ⟨p, e, s, m, args, below, meth, c, R, cells, slots, QQ, A⟩ := X
  obtain ⟨hx, hb, hml, hown, hts, hK, hI, hA, hc1, hc2, hf1, hf2, hlk, hrt, hnt⟩ := hC
  intro H locs ls hP hS hl
  exact va_zald hx hb hK hP k 1 (zv_w_of hk) rfl hin hd (kk H locs ls hP hS hl)
theorem zv_lald (hC : zv_C G X M) {k n : Nat} {i : Int32} (hd : decode M.1 pc = .ok (.laload, 1)) (hk : zv_tab[k]? = some (.inl (2, n))) (hin : vp_in i n) (kk : zv_V G X M (pc + 1) lv (.long (σ.2 k i.toNatClampNeg) :: st) σ) : zv_V G X M pc lv (.int i :: .ref (G.2.2.1 k) :: st) σ := by
  obtain ⟨p, e, s, m, args, below, meth, c, R, cells, slots, QQ, A⟩ := X
  obtain ⟨hx, hb, hml, hown, hts, hK, hI, hA, hc1, hc2, hf1, hf2, hlk, hrt, hnt⟩ := hC
  intro H locs ls hP hS hl
  exact va_lald hx hb hK hP k 2 (zv_w_of hk) rfl hin hd (kk H locs ls hP hS hl)
theorem zv_iast (hC : zv_C G X M) {k n : Nat} {i x : Int32} (hd : decode M.1 pc = .ok (.iastore, 1)) (hk : zv_tab[k]? = some (.inl (0, n))) (hin : vp_in i n) (kk : zv_V G X M (pc + 1) lv st (zv_wi σ k i.toNatClampNeg x)) : zv_V G X M pc lv (.int x :: .int i :: .ref (G.2.2.1 k) :: st) σ := by
  obtain ⟨p, e, s, m, args, below, meth, c, R, cells, slots, QQ, A⟩ := X
  obtain ⟨hx, hb, hml, hown, hts, hK, hI, hA, hc1, hc2, hf1, hf2, hlk, hrt, hnt⟩ := hC
  intro H locs ls hP hS hl
  refine va_iast hx hb hK hP (zv_D G hI hA σ) hS k 0 (zv_w_of hk) rfl hin hd (fun H1 locs1 hP1 hD1 hS1 => ?_)
  refine kk H1 locs1 ls ?_ hS1 hl
  rw [zv_w_set G.2.2.1 G.2.2.2 (σ := σ) (σ' := zv_wi σ k i.toNatClampNeg x) (zv_lt hk) (fun j hj => ⟨zv_wi_n σ _ _ hj, rfl⟩) (by rw [zv_e, hk, zv_eo, zv_wi_s]; rfl)] at hP1
  exact hP1
theorem zv_zast (hC : zv_C G X M) {k n : Nat} {i x : Int32} (hd : decode M.1 pc = .ok (.bastore, 1)) (hk : zv_tab[k]? = some (.inl (1, n))) (hin : vp_in i n) (kk : zv_V G X M (pc + 1) lv st (zv_wi σ k i.toNatClampNeg (vp_nar .boolean x))) : zv_V G X M pc lv (.int x :: .int i :: .ref (G.2.2.1 k) :: st) σ := by
  obtain ⟨p, e, s, m, args, below, meth, c, R, cells, slots, QQ, A⟩ := X
  obtain ⟨hx, hb, hml, hown, hts, hK, hI, hA, hc1, hc2, hf1, hf2, hlk, hrt, hnt⟩ := hC
  intro H locs ls hP hS hl
  refine va_zast hx hb hK hP (zv_D G hI hA σ) hS k 1 (zv_w_of hk) rfl hin hd (fun H1 locs1 hP1 hD1 hS1 => ?_)
  refine kk H1 locs1 ls ?_ hS1 hl
  rw [zv_w_set G.2.2.1 G.2.2.2 (σ := σ) (σ' := zv_wi σ k i.toNatClampNeg (vp_nar .boolean x)) (zv_lt hk) (fun j hj => ⟨zv_wi_n σ _ _ hj, rfl⟩) (by rw [zv_e, hk, zv_eo, zv_wi_s]; rfl)] at hP1
  exact hP1
theorem zv_last (hC : zv_C G X M) {k n : Nat} {i : Int32} {x : Int64} (hd : decode M.1 pc = .ok (.lastore, 1)) (hk : zv_tab[k]? = some (.inl (2, n))) (hin : vp_in i n) (kk : zv_V G X M (pc + 1) lv st (zv_wl σ k i.toNatClampNeg x)) : zv_V G X M pc lv (.long x :: .int i :: .ref (G.2.2.1 k) :: st) σ := by
  obtain ⟨p, e, s, m, args, below, meth, c, R, cells, slots, QQ, A⟩ := X
  obtain ⟨hx, hb, hml, hown, hts, hK, hI, hA, hc1, hc2, hf1, hf2, hlk, hrt, hnt⟩ := hC
  intro H locs ls hP hS hl
  refine va_last hx hb hK hP (zv_D G hI hA σ) hS k 2 (zv_w_of hk) rfl hin hd (fun H1 locs1 hP1 hD1 hS1 => ?_)
  refine kk H1 locs1 ls ?_ hS1 hl
  rw [zv_w_set G.2.2.1 G.2.2.2 (σ := σ) (σ' := zv_wl σ k i.toNatClampNeg x) (zv_lt hk) (fun j hj => ⟨rfl, zv_wl_n σ _ _ hj⟩) (by rw [zv_e, hk, zv_eo, zv_wl_s]; rfl)] at hP1
  exact hP1
theorem zv_alen (hC : zv_C G X M) {k t n : Nat} {v : Int32} (hd : decode M.1 pc = .ok (.arraylength, 1)) (hk : zv_tab[k]? = some (.inl (t, n))) (ht : t < 3) (hv : Int32.ofNat n = v) (kk : zv_V G X M (pc + 1) lv (.int v :: st) σ) : zv_V G X M pc lv (.ref (G.2.2.1 k) :: st) σ := by
  obtain ⟨p, e, s, m, args, below, meth, c, R, cells, slots, QQ, A⟩ := X
  obtain ⟨hx, hb, hml, hown, hts, hK, hI, hA, hc1, hc2, hf1, hf2, hlk, hrt, hnt⟩ := hC
  intro H locs ls hP hS hl
  rcases (show t = 0 ∨ t = 1 ∨ t = 2 by omega) with rfl | rfl | rfl
  · exact va_alen hx hb hK hP k 0 (zv_w_of hk) rfl hv hd (kk H locs ls hP hS hl)
  · exact va_alen hx hb hK hP k 1 (zv_w_of hk) rfl hv hd (kk H locs ls hP hS hl)
  · exact va_alen hx hb hK hP k 2 (zv_w_of hk) rfl hv hd (kk H locs ls hP hS hl)
/-! Contracts and calls. -/
def zv_A (G : zv_G) : Nat → Prop := fun q => ∃ k, k < zv_N ∧ q = G.2.2.1 k
def zv_B (G : zv_G) (σ : zv_St) (U : State) : Prop := zv_P G σ U.heap ∧ va_K G.2.1 vwCl (zv_ty G) U ∧ zv_I G ∧ zv_nw U
def zv_q (G : zv_G) (QV : Option Value → zv_St → Prop) : Array Value → State → Outcome → State → Prop := fun _ st oc t => (∃ (r : Option Value) (σ' : zv_St), oc = .returned r ∧ QV r σ' ∧ zv_B G σ' t) ∧ va_F (zv_A G) st t
def zv_rm (d : Nat) : Room := { frames := d, cells := 0, slots := 0, locals := 40 * d }
def zv_ws (y : MethodName) (M : zv_M) : List Cond := Cond.code y M.1 M.2.1 M.2.2.2.1 :: zv_tb
def zv_OK (G : zv_G) (M : zv_M) (y : MethodName) (as : List Value) (σ : zv_St) (QV : Option Value → zv_St → Prop) : Prop := Met G.1 y (zv_ws y M) (zv_rm M.2.2.2.2) (va_Pc as (fun U => zv_B G σ U)) (zv_q G QV) 0 0 (zv_A G)
def zv_qi (Q : Int32 → zv_St → Prop) : Option Value → zv_St → Prop := fun r σ => ∃ v, r = some (.int v) ∧ Q v σ
def zv_ql (Q : Int64 → zv_St → Prop) : Option Value → zv_St → Prop := fun r σ => ∃ v, r = some (.long v) ∧ Q v σ
def zv_qv (Q : zv_St → Prop) : Option Value → zv_St → Prop := fun r σ => r = none ∧ Q σ
def zv_qr (a : Nat) (Q : zv_St → Prop) : Option Value → zv_St → Prop := fun r σ => r = some (.ref a) ∧ Q σ
/-- a return from here is right -/
def zv_R (G : zv_G) (X : zv_X) (M : zv_M) (QV : Option Value → zv_St → Prop) : Prop := ∀ (pc : Nat) (lv : List (Nat × Value)) (σ : zv_St),
  (∀ v : Int32, M.2.2.2.1 = some .int → decode M.1 pc = .ok (.ireturn, 1) → QV (some (.int v)) σ → zv_V G X M pc lv [.int v] σ) ∧
  (∀ v : Int32, M.2.2.2.1 = some .boolean → narrow .boolean (.int v) = .int v → decode M.1 pc = .ok (.ireturn, 1) → QV (some (.int v)) σ → zv_V G X M pc lv [.int v] σ) ∧
  (∀ v : Int64, M.2.2.2.1 = some .long → decode M.1 pc = .ok (.lreturn, 1) → QV (some (.long v)) σ → zv_V G X M pc lv [.long v] σ) ∧
  (M.2.2.2.1 = none → decode M.1 pc = .ok (.return_, 1) → QV none σ → zv_V G X M pc lv [] σ) ∧
  (∀ (a : Nat) (n : String), M.2.2.2.1 = some (.object n) → decode M.1 pc = .ok (.areturn, 1) → QV (some (.ref a)) σ → zv_V G X M pc lv [.ref a] σ)
theorem zv_ok (G : zv_G) (M : zv_M) (y : MethodName) (as : List Value) (σ : zv_St) (QV : Option Value → zv_St → Prop) (hy : plainFor y = true) (hown : y.cls = M.2.2.1) (hlen : (lg_sl as).length ≤ M.2.1)
    (body : ∀ X, zv_C G X M → zv_R G X M QV → zv_V G X M 0 (lv_args 0 as) [] σ) : zv_OK G M y as σ QV := by
  refine va_MetF (cc := M.1) (maxL := M.2.1) (ret := M.2.2.2.1) hy rfl ?_
  intro p e s m args below meth c s₁ B hml hv
  obtain ⟨rfl, hP, hK, hI, hnt⟩ := hv
  have hts := atoms_spec (ws := zv_ws y M) B.pre
  have hown' : s.vm.findClass M.2.2.1 = some m.cls := by rw [← hown]; exact findClass_of_methodNamed B.named
  have hS : va_S (zv_A G) s.heap s.heap [] := va_S.rf
  have hl := lv_entry as (n := M.2.1) hlen
  rw [lg_entry_eq]
  refine body (p, e, s, m, as.toArray, below, meth, c, zv_rm M.2.2.2.2, 0, 0, MQ below (zv_q G QV) as.toArray s 0 0 (zv_A G), zv_A G) ⟨B.exec, B.bytes, hml, hown', fun w h => hts w (List.mem_cons_of_mem _ h), hK, hI, fun k hk => ⟨k, hk, rfl⟩, Nat.zero_le _, Nat.zero_le _, Nat.le_refl _, Nat.le_refl _, B.notSynchronized, B.returns, hnt⟩ ?_ s.heap [] _ hP hS hl
  intro pc lv σ'
  refine ⟨?_, ?_, ?_, ?_, ?_⟩
  · intro v hr hd hq H locs ls hP1 hS1 hl1
    exact W.iret B.exec B.bytes (B.returns.trans hr) (fun t ht hW => ⟨⟨some (.int v), σ', rfl, hq, by rw [ht]; exact hP1, va_K.moved hW.alike hK, hI, hnt.warm hW⟩, hS1.F ht⟩) hS1.2.2 hd B.notSynchronized
  · intro v hr hn hd hq H locs ls hP1 hS1 hl1
    exact W.zret B.exec B.bytes (B.returns.trans hr) hn (fun t ht hW => ⟨⟨some (.int v), σ', rfl, hq, by rw [ht]; exact hP1, va_K.moved hW.alike hK, hI, hnt.warm hW⟩, hS1.F ht⟩) hS1.2.2 hd B.notSynchronized
  · intro v hr hd hq H locs ls hP1 hS1 hl1
    exact W.lret B.exec B.bytes (B.returns.trans hr) (fun t ht hW => ⟨⟨some (.long v), σ', rfl, hq, by rw [ht]; exact hP1, va_K.moved hW.alike hK, hI, hnt.warm hW⟩, hS1.F ht⟩) hS1.2.2 hd B.notSynchronized
  · intro hr hd hq H locs ls hP1 hS1 hl1
    exact W.vret B.exec B.bytes (B.returns.trans hr) (fun t ht hW => ⟨⟨none, σ', rfl, hq, by rw [ht]; exact hP1, va_K.moved hW.alike hK, hI, hnt.warm hW⟩, hS1.F ht⟩) hS1.2.2 hd B.notSynchronized
  · intro a n hr hd hq H locs ls hP1 hS1 hl1
    exact W.aret B.exec B.bytes (B.returns.trans hr) (Or.inl ⟨n, rfl⟩) (Or.inr ⟨a, rfl⟩) (fun t ht hW => ⟨⟨some (.ref a), σ', rfl, hq, by rw [ht]; exact hP1, va_K.moved hW.alike hK, hI, hnt.warm hW⟩, hS1.F ht⟩) hS1.2.2 hd B.notSynchronized
/-- what the tables say of a method that is called -/
def zv_Y (y : MethodName) (M : zv_M) (n : Nat) : Prop := Cond.code y M.1 M.2.1 M.2.2.2.1 ∈ zv_tb ∧ Cond.initialized y.cls ∈ zv_tb ∧ (y.cls ≠ "java/lang/invoke/MethodHandle" ∧ y.cls ≠ "java/lang/invoke/VarHandle" ∧ (parseMethodDescriptor y.desc).map (fun d => d.parameters.length) = some n) ∧ M.2.1 ≤ 21
theorem zv_good : ∀ w ∈ zv_tb, ((w.onTables && w.keeps) = true ∨ ∃ ty, w = .arrayClass ty) := fun w hw => good_of_word (List.mem_filter.mp hw).2
theorem zv_goodIn {y : MethodName} {M : zv_M} (h : Cond.code y M.1 M.2.1 M.2.2.2.1 ∈ zv_tb) : GoodIn zv_tb (zv_ws y M) := by
  intro w hw
  rcases List.mem_cons.mp hw with rfl | hw
  · exact ⟨h, zv_good _ h⟩
  · exact ⟨hw, zv_good _ hw⟩
theorem zv_blind (G : zv_G) (σ : zv_St) (as : List Value) : FrameBlind (va_Pc as (fun U => zv_B G σ U)) := fun a U g mk q => by
  obtain ⟨q0, qP, qK, qI, qn⟩ := q
  exact ⟨q0, qP, va_K.moved (u := U) (U := U.calling g mk a) (Vm.Alike.refl U.vm) qK, qI, zv_nw.same (u := U) (U := U.calling g mk a) rfl qn⟩
section CALLS
variable {p : Program} {l : Launch} {e : Env} {R : Room} {s : State} {m : MethodId} {args : Array Value} {below : List Frame} {meth : Method} {c : Code} {H : Heap} {locs : List Loc} {cells slots : Nat} {QQ : State → Prop}
variable {ls : Array Slot} {rest st0 : List Value} {a : Array Value} {A0 : Nat → Prop} {H0 : Heap}
theorem zv_after {G : zv_G} {pc : Nat} {QV : Option Value → zv_St → Prop} (hr : va_Run p l e R s m args below meth c H locs cells slots 0 0 (F0 m pc ls st0) rest (zv_q G QV a) (zv_A G)) (hS : va_S A0 H0 H locs) (hA : ∀ q, zv_A G q → A0 q)
    (kk : ∀ (r : Option Value) (σ' : zv_St) (H1 : Heap) (locs1 : List Loc), QV r σ' → zv_P G σ' H1 → va_S A0 H0 H1 locs1 → W p l e R s m args below meth c H1 locs1 cells slots QQ (F0 m (pc + 3) ls (r.toList ++ rest))) : W p l e R s m args below meth c H locs cells slots QQ (F0 m pc ls st0) := by
  intro T hT X
  obtain ⟨v, st₀, t, T', L, h0, X', hL, e1, e2, ⟨⟨r, σ', hv, hp, hb⟩, hz, hk⟩, st⟩ := hr T hT X
  cases hv
  rw [h0] at hz hk
  obtain ⟨t2, a1, b1⟩ := kk v σ' T'.heap (locs ++ L) hp (by rw [e1]; exact hb.1)
    ⟨Nat.le_trans hS.1 (by rw [e1]; exact hz), fun q h1 h2 => by rw [e1, hk q (Nat.lt_of_lt_of_le h1 hS.1) (fun z => h2 (hA q z))]; exact hS.2.1 q h1 h2, fun q hq => by
      rcases List.mem_append.mp hq with h | h
      · exact hS.2.2 q h
      · exact hA _ (hL q h)⟩ T' rfl X'
  exact ⟨t2, st t2 a1, b1⟩
end CALLS
theorem zv_roomOk {M My : zv_M} {R : Room} (h1 : M.2.2.2.2 ≤ R.frames) (h2 : 40 * M.2.2.2.2 ≤ R.locals) (hd : My.2.2.2.2 + 1 ≤ M.2.2.2.2) (hL : My.2.1 ≤ 21) : (zv_rm My.2.2.2.2).frames + 1 ≤ R.frames ∧ 8 + (My.2.1 + 11) + (zv_rm My.2.2.2.2).locals ≤ R.locals := by
  simp only [zv_rm]
  omega
theorem zv_callV0 (hC : zv_C G X M) {y : MethodName} {My : zv_M} {idx k ci n : Nat} {fl : List Nat} {T : u_T} {N : Nat} {As rest : List Value} {QV : Option Value → zv_St → Prop} (hd : decode M.1 pc = .ok (.invokevirtual idx, 3)) (hY : zv_Y y My n) (hin : Cond.instanceMethod y ∈ zv_tb) (hsel : Cond.selects y.cls y y ∈ zv_tb) (hlink : Cond.methodLink M.2.2.1 idx y ∈ zv_tb) (hdep : My.2.2.2.2 + 1 ≤ M.2.2.2.2) (hk : zv_tab[k]? = some (.inr (ci, fl))) (hci : vwCl[ci]? = some (y.cls, T, N)) (hn : As.length = n) (hst : st = As.reverse ++ .ref (G.2.2.1 k) :: rest) (hw : (rest.map fun v => v.category).sum ≤ 8)
    (hM : zv_OK G My y (.ref (G.2.2.1 k) :: As) σ QV) (kk : ∀ (r : Option Value) (σ' : zv_St), QV r σ' → zv_V G X M (pc + 3) lv (r.toList ++ rest) σ') : zv_V G X M pc lv st σ := by
  obtain ⟨p, e, s, m, args, below, meth, c, R, cells, slots, QQ, A⟩ := X
  obtain ⟨hx, hb, hml, hown, hts, hK, hI, hA, hc1, hc2, hf1, hf2, hlk, hrt, hnt⟩ := hC
  intro H locs ls hP hS hl
  obtain ⟨y1, y2, y3, y4⟩ := hY
  refine zv_after (G := G) (QV := QV) (va_runV (As := As) (rest := rest) (C := y.cls) (n := n) (ret := My.2.2.2.1) (bytes := My.1) (maxL := My.2.1) ⟨hx, hb, hml, hown, hts⟩ hM ⟨callB_of n hts (zv_goodIn y1) rfl rfl rfl (hts _ y2) (hts _ hlink) y3 (zv_roomOk hf1 hf2 hdep y4), hts _ hin, hts _ hsel⟩ ⟨zv_blind G σ _, ?_, fun U hU hW => ⟨rfl, by rw [hU]; exact hP, va_K.moved hW.alike hK, hI, hnt.warm hW⟩⟩ rfl hn hl.1 (by rw [hst]) (lv_room hw) hd ⟨hc1, hc2⟩) hS (fun q h => by obtain ⟨k', h1, rfl⟩ := h; exact hA k' h1) (fun r σ' H1 locs1 hq hP1 hS1 => kk r σ' hq H1 locs1 ls hP1 hS1 hl)
  exact va_recv hK hP hci (zv_w_of hk)
theorem zv_callS0 (hC : zv_C G X M) {y : MethodName} {My : zv_M} {idx n : Nat} {As rest : List Value} {QV : Option Value → zv_St → Prop} (hd : decode M.1 pc = .ok (.invokestatic idx, 3)) (hY : zv_Y y My n) (hin : Cond.static y ∈ zv_tb) (hlink : Cond.methodLink M.2.2.1 idx y ∈ zv_tb) (hdep : My.2.2.2.2 + 1 ≤ M.2.2.2.2) (hn : As.length = n) (hst : st = As.reverse ++ rest) (hw : (rest.map fun v => v.category).sum ≤ 8)
    (hM : zv_OK G My y As σ QV) (kk : ∀ (r : Option Value) (σ' : zv_St), QV r σ' → zv_V G X M (pc + 3) lv (r.toList ++ rest) σ') : zv_V G X M pc lv st σ := by
  obtain ⟨p, e, s, m, args, below, meth, c, R, cells, slots, QQ, A⟩ := X
  obtain ⟨hx, hb, hml, hown, hts, hK, hI, hA, hc1, hc2, hf1, hf2, hlk, hrt, hnt⟩ := hC
  intro H locs ls hP hS hl
  obtain ⟨y1, y2, y3, y4⟩ := hY
  exact zv_after (G := G) (QV := QV) (va_runS (As := As) (rest := rest) (n := n) (ret := My.2.2.2.1) (bytes := My.1) (maxL := My.2.1) ⟨hx, hb, hml, hown, hts⟩ hM ⟨callB_of n hts (zv_goodIn y1) rfl rfl rfl (hts _ y2) (hts _ hlink) y3 (zv_roomOk hf1 hf2 hdep y4), hts _ hin⟩ ⟨zv_blind G σ _, fun U hU hW => ⟨rfl, by rw [hU]; exact hP, va_K.moved hW.alike hK, hI, hnt.warm hW⟩⟩ rfl hn hl.1 (by rw [hst]) (lv_room hw) hd ⟨hc1, hc2⟩) hS (fun q h => by obtain ⟨k', h1, rfl⟩ := h; exact hA k' h1) (fun r σ' H1 locs1 hq hP1 hS1 => kk r σ' hq H1 locs1 ls hP1 hS1 hl)
theorem zv_callSN0 (hC : zv_C G X M) {y : MethodName} {My : zv_M} {idx n : Nat} {host : String} {As rest : List Value} {QV : Option Value → zv_St → Prop} (hd : decode M.1 pc = .ok (.invokestatic idx, 3)) (hY : zv_Y y My n) (hin : Cond.static y ∈ zv_tb) (hlink : Cond.methodLinkNest M.2.2.1 idx y host ∈ zv_nt) (hdep : My.2.2.2.2 + 1 ≤ M.2.2.2.2) (hn : As.length = n) (hst : st = As.reverse ++ rest) (hw : (rest.map fun v => v.category).sum ≤ 8)
    (hM : zv_OK G My y As σ QV) (kk : ∀ (r : Option Value) (σ' : zv_St), QV r σ' → zv_V G X M (pc + 3) lv (r.toList ++ rest) σ') : zv_V G X M pc lv st σ := by
  obtain ⟨p, e, s, m, args, below, meth, c, R, cells, slots, QQ, A⟩ := X
  obtain ⟨hx, hb, hml, hown, hts, hK, hI, hA, hc1, hc2, hf1, hf2, hlk, hrt, hnt⟩ := hC
  intro H locs ls hP hS hl
  obtain ⟨y1, y2, y3, y4⟩ := hY
  have hnw : va_Nw (.methodLinkNest M.2.2.1 idx y host) s := hnt _ hlink
  exact zv_after (G := G) (QV := QV) (va_runSN (As := As) (rest := rest) (n := n) (ret := My.2.2.2.1) (bytes := My.1) (maxL := My.2.1) ⟨hx, hb, hml, hown, hts⟩ hM ⟨va_cnB n hts (zv_goodIn y1) rfl rfl rfl hnw (hts _ y2) y3 (zv_roomOk hf1 hf2 hdep y4), hts _ hin, trivial⟩ ⟨zv_blind G σ _, fun U hU hW => ⟨rfl, by rw [hU]; exact hP, va_K.moved hW.alike hK, hI, hnt.warm hW⟩⟩ rfl hn hl.1 (by rw [hst]) (lv_room hw) hd ⟨hc1, hc2⟩) hS (fun q h => by obtain ⟨k', h1, rfl⟩ := h; exact hA k' h1) (fun r σ' H1 locs1 hq hP1 hS1 => kk r σ' hq H1 locs1 ls hP1 hS1 hl)
/-- what the tables say of a called method, all in one -/
def zv_YV (y : MethodName) (M : zv_M) (n ci : Nat) : Prop := zv_Y y M n ∧ Cond.instanceMethod y ∈ zv_tb ∧ Cond.selects y.cls y y ∈ zv_tb ∧ ∃ (T : u_T) (N : Nat), vwCl[ci]? = some (y.cls, T, N)
def zv_YS (y : MethodName) (M : zv_M) (n : Nat) : Prop := zv_Y y M n ∧ Cond.static y ∈ zv_tb
theorem zv_callVi (hC : zv_C G X M) {y : MethodName} {My : zv_M} {idx n k ci : Nat} {fl : List Nat} {As rest : List Value} {Q : Int32 → zv_St → Prop} (hd : decode M.1 pc = .ok (.invokevirtual idx, 3)) (hY : zv_YV y My n ci) (hlink : Cond.methodLink M.2.2.1 idx y ∈ zv_tb) (hdep : My.2.2.2.2 + 1 ≤ M.2.2.2.2) (hk : zv_tab[k]? = some (.inr (ci, fl))) (hn : As.length = n) (hst : st = As.reverse ++ .ref (G.2.2.1 k) :: rest) (hw : (rest.map fun v => v.category).sum ≤ 8) (hM : zv_OK G My y (.ref (G.2.2.1 k) :: As) σ (zv_qi Q)) (kk : ∀ (v : Int32) (σ' : zv_St), Q v σ' → zv_V G X M (pc + 3) lv (.int v :: rest) σ') : zv_V G X M pc lv st σ := by
  obtain ⟨h1, h2, h3, T, N, h4⟩ := hY
  exact zv_callV0 hC hd h1 h2 h3 hlink hdep hk h4 hn hst hw hM (fun r σ' h => by obtain ⟨v, rfl, h⟩ := h; exact kk v σ' h)
theorem zv_callVl (hC : zv_C G X M) {y : MethodName} {My : zv_M} {idx n k ci : Nat} {fl : List Nat} {As rest : List Value} {Q : Int64 → zv_St → Prop} (hd : decode M.1 pc = .ok (.invokevirtual idx, 3)) (hY : zv_YV y My n ci) (hlink : Cond.methodLink M.2.2.1 idx y ∈ zv_tb) (hdep : My.2.2.2.2 + 1 ≤ M.2.2.2.2) (hk : zv_tab[k]? = some (.inr (ci, fl))) (hn : As.length = n) (hst : st = As.reverse ++ .ref (G.2.2.1 k) :: rest) (hw : (rest.map fun v => v.category).sum ≤ 8) (hM : zv_OK G My y (.ref (G.2.2.1 k) :: As) σ (zv_ql Q)) (kk : ∀ (v : Int64) (σ' : zv_St), Q v σ' → zv_V G X M (pc + 3) lv (.long v :: rest) σ') : zv_V G X M pc lv st σ := by
  obtain ⟨h1, h2, h3, T, N, h4⟩ := hY
  exact zv_callV0 hC hd h1 h2 h3 hlink hdep hk h4 hn hst hw hM (fun r σ' h => by obtain ⟨v, rfl, h⟩ := h; exact kk v σ' h)
theorem zv_callVv (hC : zv_C G X M) {y : MethodName} {My : zv_M} {idx n k ci : Nat} {fl : List Nat} {As rest : List Value} {Q : zv_St → Prop} (hd : decode M.1 pc = .ok (.invokevirtual idx, 3)) (hY : zv_YV y My n ci) (hlink : Cond.methodLink M.2.2.1 idx y ∈ zv_tb) (hdep : My.2.2.2.2 + 1 ≤ M.2.2.2.2) (hk : zv_tab[k]? = some (.inr (ci, fl))) (hn : As.length = n) (hst : st = As.reverse ++ .ref (G.2.2.1 k) :: rest) (hw : (rest.map fun v => v.category).sum ≤ 8) (hM : zv_OK G My y (.ref (G.2.2.1 k) :: As) σ (zv_qv Q)) (kk : ∀ (σ' : zv_St), Q σ' → zv_V G X M (pc + 3) lv (rest) σ') : zv_V G X M pc lv st σ := by
  obtain ⟨h1, h2, h3, T, N, h4⟩ := hY
  exact zv_callV0 hC hd h1 h2 h3 hlink hdep hk h4 hn hst hw hM (fun r σ' h => by obtain ⟨rfl, h⟩ := h; exact kk σ' h)
theorem zv_callVr (hC : zv_C G X M) {y : MethodName} {My : zv_M} {idx n k ci : Nat} {fl : List Nat} {As rest : List Value} {Q : zv_St → Prop} {a : Nat} (hd : decode M.1 pc = .ok (.invokevirtual idx, 3)) (hY : zv_YV y My n ci) (hlink : Cond.methodLink M.2.2.1 idx y ∈ zv_tb) (hdep : My.2.2.2.2 + 1 ≤ M.2.2.2.2) (hk : zv_tab[k]? = some (.inr (ci, fl))) (hn : As.length = n) (hst : st = As.reverse ++ .ref (G.2.2.1 k) :: rest) (hw : (rest.map fun v => v.category).sum ≤ 8) (hM : zv_OK G My y (.ref (G.2.2.1 k) :: As) σ (zv_qr a Q)) (kk : ∀ (σ' : zv_St), Q σ' → zv_V G X M (pc + 3) lv (.ref a :: rest) σ') : zv_V G X M pc lv st σ := by
  obtain ⟨h1, h2, h3, T, N, h4⟩ := hY
  exact zv_callV0 hC hd h1 h2 h3 hlink hdep hk h4 hn hst hw hM (fun r σ' h => by obtain ⟨rfl, h⟩ := h; exact kk σ' h)
theorem zv_callSi (hC : zv_C G X M) {y : MethodName} {My : zv_M} {idx n : Nat} {As rest : List Value} {Q : Int32 → zv_St → Prop} (hd : decode M.1 pc = .ok (.invokestatic idx, 3)) (hY : zv_YS y My n) (hlink : Cond.methodLink M.2.2.1 idx y ∈ zv_tb) (hdep : My.2.2.2.2 + 1 ≤ M.2.2.2.2) (hn : As.length = n) (hst : st = As.reverse ++ rest) (hw : (rest.map fun v => v.category).sum ≤ 8) (hM : zv_OK G My y (As) σ (zv_qi Q)) (kk : ∀ (v : Int32) (σ' : zv_St), Q v σ' → zv_V G X M (pc + 3) lv (.int v :: rest) σ') : zv_V G X M pc lv st σ := by
  obtain ⟨h1, h2⟩ := hY
  exact zv_callS0 hC hd h1 h2 hlink hdep hn hst hw hM (fun r σ' h => by obtain ⟨v, rfl, h⟩ := h; exact kk v σ' h)
theorem zv_callSl (hC : zv_C G X M) {y : MethodName} {My : zv_M} {idx n : Nat} {As rest : List Value} {Q : Int64 → zv_St → Prop} (hd : decode M.1 pc = .ok (.invokestatic idx, 3)) (hY : zv_YS y My n) (hlink : Cond.methodLink M.2.2.1 idx y ∈ zv_tb) (hdep : My.2.2.2.2 + 1 ≤ M.2.2.2.2) (hn : As.length = n) (hst : st = As.reverse ++ rest) (hw : (rest.map fun v => v.category).sum ≤ 8) (hM : zv_OK G My y (As) σ (zv_ql Q)) (kk : ∀ (v : Int64) (σ' : zv_St), Q v σ' → zv_V G X M (pc + 3) lv (.long v :: rest) σ') : zv_V G X M pc lv st σ := by
  obtain ⟨h1, h2⟩ := hY
  exact zv_callS0 hC hd h1 h2 hlink hdep hn hst hw hM (fun r σ' h => by obtain ⟨v, rfl, h⟩ := h; exact kk v σ' h)
theorem zv_callSv (hC : zv_C G X M) {y : MethodName} {My : zv_M} {idx n : Nat} {As rest : List Value} {Q : zv_St → Prop} (hd : decode M.1 pc = .ok (.invokestatic idx, 3)) (hY : zv_YS y My n) (hlink : Cond.methodLink M.2.2.1 idx y ∈ zv_tb) (hdep : My.2.2.2.2 + 1 ≤ M.2.2.2.2) (hn : As.length = n) (hst : st = As.reverse ++ rest) (hw : (rest.map fun v => v.category).sum ≤ 8) (hM : zv_OK G My y (As) σ (zv_qv Q)) (kk : ∀ (σ' : zv_St), Q σ' → zv_V G X M (pc + 3) lv (rest) σ') : zv_V G X M pc lv st σ := by
  obtain ⟨h1, h2⟩ := hY
  exact zv_callS0 hC hd h1 h2 hlink hdep hn hst hw hM (fun r σ' h => by obtain ⟨rfl, h⟩ := h; exact kk σ' h)
theorem zv_callSr (hC : zv_C G X M) {y : MethodName} {My : zv_M} {idx n : Nat} {As rest : List Value} {Q : zv_St → Prop} {a : Nat} (hd : decode M.1 pc = .ok (.invokestatic idx, 3)) (hY : zv_YS y My n) (hlink : Cond.methodLink M.2.2.1 idx y ∈ zv_tb) (hdep : My.2.2.2.2 + 1 ≤ M.2.2.2.2) (hn : As.length = n) (hst : st = As.reverse ++ rest) (hw : (rest.map fun v => v.category).sum ≤ 8) (hM : zv_OK G My y (As) σ (zv_qr a Q)) (kk : ∀ (σ' : zv_St), Q σ' → zv_V G X M (pc + 3) lv (.ref a :: rest) σ') : zv_V G X M pc lv st σ := by
  obtain ⟨h1, h2⟩ := hY
  exact zv_callS0 hC hd h1 h2 hlink hdep hn hst hw hM (fun r σ' h => by obtain ⟨rfl, h⟩ := h; exact kk σ' h)
theorem zv_callSNi (hC : zv_C G X M) {y : MethodName} {My : zv_M} {idx n : Nat} {As rest : List Value} {Q : Int32 → zv_St → Prop} {host : String} (hd : decode M.1 pc = .ok (.invokestatic idx, 3)) (hY : zv_YS y My n) (hlink : Cond.methodLinkNest M.2.2.1 idx y host ∈ zv_nt) (hdep : My.2.2.2.2 + 1 ≤ M.2.2.2.2) (hn : As.length = n) (hst : st = As.reverse ++ rest) (hw : (rest.map fun v => v.category).sum ≤ 8) (hM : zv_OK G My y (As) σ (zv_qi Q)) (kk : ∀ (v : Int32) (σ' : zv_St), Q v σ' → zv_V G X M (pc + 3) lv (.int v :: rest) σ') : zv_V G X M pc lv st σ := by
  obtain ⟨h1, h2⟩ := hY
  exact zv_callSN0 hC hd h1 h2 hlink hdep hn hst hw hM (fun r σ' h => by obtain ⟨v, rfl, h⟩ := h; exact kk v σ' h)
theorem zv_callSNl (hC : zv_C G X M) {y : MethodName} {My : zv_M} {idx n : Nat} {As rest : List Value} {Q : Int64 → zv_St → Prop} {host : String} (hd : decode M.1 pc = .ok (.invokestatic idx, 3)) (hY : zv_YS y My n) (hlink : Cond.methodLinkNest M.2.2.1 idx y host ∈ zv_nt) (hdep : My.2.2.2.2 + 1 ≤ M.2.2.2.2) (hn : As.length = n) (hst : st = As.reverse ++ rest) (hw : (rest.map fun v => v.category).sum ≤ 8) (hM : zv_OK G My y (As) σ (zv_ql Q)) (kk : ∀ (v : Int64) (σ' : zv_St), Q v σ' → zv_V G X M (pc + 3) lv (.long v :: rest) σ') : zv_V G X M pc lv st σ := by
  obtain ⟨h1, h2⟩ := hY
  exact zv_callSN0 hC hd h1 h2 hlink hdep hn hst hw hM (fun r σ' h => by obtain ⟨v, rfl, h⟩ := h; exact kk v σ' h)
theorem zv_callSNv (hC : zv_C G X M) {y : MethodName} {My : zv_M} {idx n : Nat} {As rest : List Value} {Q : zv_St → Prop} {host : String} (hd : decode M.1 pc = .ok (.invokestatic idx, 3)) (hY : zv_YS y My n) (hlink : Cond.methodLinkNest M.2.2.1 idx y host ∈ zv_nt) (hdep : My.2.2.2.2 + 1 ≤ M.2.2.2.2) (hn : As.length = n) (hst : st = As.reverse ++ rest) (hw : (rest.map fun v => v.category).sum ≤ 8) (hM : zv_OK G My y (As) σ (zv_qv Q)) (kk : ∀ (σ' : zv_St), Q σ' → zv_V G X M (pc + 3) lv (rest) σ') : zv_V G X M pc lv st σ := by
  obtain ⟨h1, h2⟩ := hY
  exact zv_callSN0 hC hd h1 h2 hlink hdep hn hst hw hM (fun r σ' h => by obtain ⟨rfl, h⟩ := h; exact kk σ' h)
theorem zv_callSNr (hC : zv_C G X M) {y : MethodName} {My : zv_M} {idx n : Nat} {As rest : List Value} {Q : zv_St → Prop} {a : Nat} {host : String} (hd : decode M.1 pc = .ok (.invokestatic idx, 3)) (hY : zv_YS y My n) (hlink : Cond.methodLinkNest M.2.2.1 idx y host ∈ zv_nt) (hdep : My.2.2.2.2 + 1 ≤ M.2.2.2.2) (hn : As.length = n) (hst : st = As.reverse ++ rest) (hw : (rest.map fun v => v.category).sum ≤ 8) (hM : zv_OK G My y (As) σ (zv_qr a Q)) (kk : ∀ (σ' : zv_St), Q σ' → zv_V G X M (pc + 3) lv (.ref a :: rest) σ') : zv_V G X M pc lv st σ := by
  obtain ⟨h1, h2⟩ := hY
  exact zv_callSN0 hC hd h1 h2 hlink hdep hn hst hw hM (fun r σ' h => by obtain ⟨rfl, h⟩ := h; exact kk σ' h)
theorem zv_swV {x : Int32} {P : Int32 → Prop} (hs : ∀ x, P x) (kk : P x → zv_V G X M pc lv (.int x :: st) σ) : zv_V G X M pc lv (.int x :: st) σ := kk (hs x)
end ZV
theorem zv_sw_0_6 (x : Int32) : x = 0 ∨ x = 1 ∨ x = 2 ∨ x = 3 ∨ x = 4 ∨ x = 5 ∨ x = 6 ∨ (x.toInt < 0 ∨ 6 < x.toInt) := by
  have h : x.toInt = 0 ∨ x.toInt = 1 ∨ x.toInt = 2 ∨ x.toInt = 3 ∨ x.toInt = 4 ∨ x.toInt = 5 ∨ x.toInt = 6 ∨ (x.toInt < 0 ∨ 6 < x.toInt) := by omega
  rcases h with h | h | h | h | h | h | h | h
  · exact Or.inl (Int32.toInt_inj.mp (h.trans (by decide)))
  · exact Or.inr (Or.inl (Int32.toInt_inj.mp (h.trans (by decide))))
  · exact Or.inr (Or.inr (Or.inl (Int32.toInt_inj.mp (h.trans (by decide)))))
  · exact Or.inr (Or.inr (Or.inr (Or.inl (Int32.toInt_inj.mp (h.trans (by decide))))))
  · exact Or.inr (Or.inr (Or.inr (Or.inr (Or.inl (Int32.toInt_inj.mp (h.trans (by decide)))))))
  · exact Or.inr (Or.inr (Or.inr (Or.inr (Or.inr (Or.inl (Int32.toInt_inj.mp (h.trans (by decide))))))))
  · exact Or.inr (Or.inr (Or.inr (Or.inr (Or.inr (Or.inr (Or.inl (Int32.toInt_inj.mp (h.trans (by decide)))))))))
  · exact Or.inr (Or.inr (Or.inr (Or.inr (Or.inr (Or.inr (Or.inr (h)))))))
theorem zv_sw_2_6 (x : Int32) : x = 2 ∨ x = 3 ∨ x = 4 ∨ x = 5 ∨ x = 6 ∨ (x.toInt < 2 ∨ 6 < x.toInt) := by
  have h : x.toInt = 2 ∨ x.toInt = 3 ∨ x.toInt = 4 ∨ x.toInt = 5 ∨ x.toInt = 6 ∨ (x.toInt < 2 ∨ 6 < x.toInt) := by omega
  rcases h with h | h | h | h | h | h
  · exact Or.inl (Int32.toInt_inj.mp (h.trans (by decide)))
  · exact Or.inr (Or.inl (Int32.toInt_inj.mp (h.trans (by decide))))
  · exact Or.inr (Or.inr (Or.inl (Int32.toInt_inj.mp (h.trans (by decide)))))
  · exact Or.inr (Or.inr (Or.inr (Or.inl (Int32.toInt_inj.mp (h.trans (by decide))))))
  · exact Or.inr (Or.inr (Or.inr (Or.inr (Or.inl (Int32.toInt_inj.mp (h.trans (by decide)))))))
  · exact Or.inr (Or.inr (Or.inr (Or.inr (Or.inr (h)))))
theorem zv_sw_0_5 (x : Int32) : x = 0 ∨ x = 1 ∨ x = 2 ∨ x = 3 ∨ x = 4 ∨ x = 5 ∨ (x.toInt < 0 ∨ 5 < x.toInt) := by
  have h : x.toInt = 0 ∨ x.toInt = 1 ∨ x.toInt = 2 ∨ x.toInt = 3 ∨ x.toInt = 4 ∨ x.toInt = 5 ∨ (x.toInt < 0 ∨ 5 < x.toInt) := by omega
  rcases h with h | h | h | h | h | h | h
  · exact Or.inl (Int32.toInt_inj.mp (h.trans (by decide)))
  · exact Or.inr (Or.inl (Int32.toInt_inj.mp (h.trans (by decide))))
  · exact Or.inr (Or.inr (Or.inl (Int32.toInt_inj.mp (h.trans (by decide)))))
  · exact Or.inr (Or.inr (Or.inr (Or.inl (Int32.toInt_inj.mp (h.trans (by decide))))))
  · exact Or.inr (Or.inr (Or.inr (Or.inr (Or.inl (Int32.toInt_inj.mp (h.trans (by decide)))))))
  · exact Or.inr (Or.inr (Or.inr (Or.inr (Or.inr (Or.inl (Int32.toInt_inj.mp (h.trans (by decide))))))))
  · exact Or.inr (Or.inr (Or.inr (Or.inr (Or.inr (Or.inr (h))))))
theorem zv_sw_0_4 (x : Int32) : x = 0 ∨ x = 1 ∨ x = 2 ∨ x = 3 ∨ x = 4 ∨ (x.toInt < 0 ∨ 4 < x.toInt) := by
  have h : x.toInt = 0 ∨ x.toInt = 1 ∨ x.toInt = 2 ∨ x.toInt = 3 ∨ x.toInt = 4 ∨ (x.toInt < 0 ∨ 4 < x.toInt) := by omega
  rcases h with h | h | h | h | h | h
  · exact Or.inl (Int32.toInt_inj.mp (h.trans (by decide)))
  · exact Or.inr (Or.inl (Int32.toInt_inj.mp (h.trans (by decide))))
  · exact Or.inr (Or.inr (Or.inl (Int32.toInt_inj.mp (h.trans (by decide)))))
  · exact Or.inr (Or.inr (Or.inr (Or.inl (Int32.toInt_inj.mp (h.trans (by decide))))))
  · exact Or.inr (Or.inr (Or.inr (Or.inr (Or.inl (Int32.toInt_inj.mp (h.trans (by decide)))))))
  · exact Or.inr (Or.inr (Or.inr (Or.inr (Or.inr (h)))))
theorem zv_sw_0_7 (x : Int32) : x = 0 ∨ x = 1 ∨ x = 2 ∨ x = 3 ∨ x = 4 ∨ x = 5 ∨ x = 6 ∨ x = 7 ∨ (x.toInt < 0 ∨ 7 < x.toInt) := by
  have h : x.toInt = 0 ∨ x.toInt = 1 ∨ x.toInt = 2 ∨ x.toInt = 3 ∨ x.toInt = 4 ∨ x.toInt = 5 ∨ x.toInt = 6 ∨ x.toInt = 7 ∨ (x.toInt < 0 ∨ 7 < x.toInt) := by omega
  rcases h with h | h | h | h | h | h | h | h | h
  · exact Or.inl (Int32.toInt_inj.mp (h.trans (by decide)))
  · exact Or.inr (Or.inl (Int32.toInt_inj.mp (h.trans (by decide))))
  · exact Or.inr (Or.inr (Or.inl (Int32.toInt_inj.mp (h.trans (by decide)))))
  · exact Or.inr (Or.inr (Or.inr (Or.inl (Int32.toInt_inj.mp (h.trans (by decide))))))
  · exact Or.inr (Or.inr (Or.inr (Or.inr (Or.inl (Int32.toInt_inj.mp (h.trans (by decide)))))))
  · exact Or.inr (Or.inr (Or.inr (Or.inr (Or.inr (Or.inl (Int32.toInt_inj.mp (h.trans (by decide))))))))
  · exact Or.inr (Or.inr (Or.inr (Or.inr (Or.inr (Or.inr (Or.inl (Int32.toInt_inj.mp (h.trans (by decide)))))))))
  · exact Or.inr (Or.inr (Or.inr (Or.inr (Or.inr (Or.inr (Or.inr (Or.inl (Int32.toInt_inj.mp (h.trans (by decide))))))))))
  · exact Or.inr (Or.inr (Or.inr (Or.inr (Or.inr (Or.inr (Or.inr (Or.inr (h))))))))
theorem zv_sw_0_18 (x : Int32) : x = 0 ∨ x = 1 ∨ x = 2 ∨ x = 3 ∨ x = 4 ∨ x = 5 ∨ x = 6 ∨ x = 7 ∨ x = 8 ∨ x = 9 ∨ x = 10 ∨ x = 11 ∨ x = 12 ∨ x = 13 ∨ x = 14 ∨ x = 15 ∨ x = 16 ∨ x = 17 ∨ x = 18 ∨ (x.toInt < 0 ∨ 18 < x.toInt) := by
  have h : x.toInt = 0 ∨ x.toInt = 1 ∨ x.toInt = 2 ∨ x.toInt = 3 ∨ x.toInt = 4 ∨ x.toInt = 5 ∨ x.toInt = 6 ∨ x.toInt = 7 ∨ x.toInt = 8 ∨ x.toInt = 9 ∨ x.toInt = 10 ∨ x.toInt = 11 ∨ x.toInt = 12 ∨ x.toInt = 13 ∨ x.toInt = 14 ∨ x.toInt = 15 ∨ x.toInt = 16 ∨ x.toInt = 17 ∨ x.toInt = 18 ∨ (x.toInt < 0 ∨ 18 < x.toInt) := by omega
  rcases h with h | h | h | h | h | h | h | h | h | h | h | h | h | h | h | h | h | h | h | h
  · exact Or.inl (Int32.toInt_inj.mp (h.trans (by decide)))
  · exact Or.inr (Or.inl (Int32.toInt_inj.mp (h.trans (by decide))))
  · exact Or.inr (Or.inr (Or.inl (Int32.toInt_inj.mp (h.trans (by decide)))))
  · exact Or.inr (Or.inr (Or.inr (Or.inl (Int32.toInt_inj.mp (h.trans (by decide))))))
  · exact Or.inr (Or.inr (Or.inr (Or.inr (Or.inl (Int32.toInt_inj.mp (h.trans (by decide)))))))
  · exact Or.inr (Or.inr (Or.inr (Or.inr (Or.inr (Or.inl (Int32.toInt_inj.mp (h.trans (by decide))))))))
  · exact Or.inr (Or.inr (Or.inr (Or.inr (Or.inr (Or.inr (Or.inl (Int32.toInt_inj.mp (h.trans (by decide)))))))))
  · exact Or.inr (Or.inr (Or.inr (Or.inr (Or.inr (Or.inr (Or.inr (Or.inl (Int32.toInt_inj.mp (h.trans (by decide))))))))))
  · exact Or.inr (Or.inr (Or.inr (Or.inr (Or.inr (Or.inr (Or.inr (Or.inr (Or.inl (Int32.toInt_inj.mp (h.trans (by decide)))))))))))
  · exact Or.inr (Or.inr (Or.inr (Or.inr (Or.inr (Or.inr (Or.inr (Or.inr (Or.inr (Or.inl (Int32.toInt_inj.mp (h.trans (by decide))))))))))))
  · exact Or.inr (Or.inr (Or.inr (Or.inr (Or.inr (Or.inr (Or.inr (Or.inr (Or.inr (Or.inr (Or.inl (Int32.toInt_inj.mp (h.trans (by decide)))))))))))))
  · exact Or.inr (Or.inr (Or.inr (Or.inr (Or.inr (Or.inr (Or.inr (Or.inr (Or.inr (Or.inr (Or.inr (Or.inl (Int32.toInt_inj.mp (h.trans (by decide))))))))))))))
  · exact Or.inr (Or.inr (Or.inr (Or.inr (Or.inr (Or.inr (Or.inr (Or.inr (Or.inr (Or.inr (Or.inr (Or.inr (Or.inl (Int32.toInt_inj.mp (h.trans (by decide)))))))))))))))
  · exact Or.inr (Or.inr (Or.inr (Or.inr (Or.inr (Or.inr (Or.inr (Or.inr (Or.inr (Or.inr (Or.inr (Or.inr (Or.inr (Or.inl (Int32.toInt_inj.mp (h.trans (by decide))))))))))))))))
  · exact Or.inr (Or.inr (Or.inr (Or.inr (Or.inr (Or.inr (Or.inr (Or.inr (Or.inr (Or.inr (Or.inr (Or.inr (Or.inr (Or.inr (Or.inl (Int32.toInt_inj.mp (h.trans (by decide)))))))))))))))))
  · exact Or.inr (Or.inr (Or.inr (Or.inr (Or.inr (Or.inr (Or.inr (Or.inr (Or.inr (Or.inr (Or.inr (Or.inr (Or.inr (Or.inr (Or.inr (Or.inl (Int32.toInt_inj.mp (h.trans (by decide))))))))))))))))))
  · exact Or.inr (Or.inr (Or.inr (Or.inr (Or.inr (Or.inr (Or.inr (Or.inr (Or.inr (Or.inr (Or.inr (Or.inr (Or.inr (Or.inr (Or.inr (Or.inr (Or.inl (Int32.toInt_inj.mp (h.trans (by decide)))))))))))))))))))
  · exact Or.inr (Or.inr (Or.inr (Or.inr (Or.inr (Or.inr (Or.inr (Or.inr (Or.inr (Or.inr (Or.inr (Or.inr (Or.inr (Or.inr (Or.inr (Or.inr (Or.inr (Or.inl (Int32.toInt_inj.mp (h.trans (by decide))))))))))))))))))))
  · exact Or.inr (Or.inr (Or.inr (Or.inr (Or.inr (Or.inr (Or.inr (Or.inr (Or.inr (Or.inr (Or.inr (Or.inr (Or.inr (Or.inr (Or.inr (Or.inr (Or.inr (Or.inr (Or.inl (Int32.toInt_inj.mp (h.trans (by decide)))))))))))))))))))))
  · exact Or.inr (Or.inr (Or.inr (Or.inr (Or.inr (Or.inr (Or.inr (Or.inr (Or.inr (Or.inr (Or.inr (Or.inr (Or.inr (Or.inr (Or.inr (Or.inr (Or.inr (Or.inr (Or.inr (h)))))))))))))))))))
theorem zv_sw01 (x : Int32) : x = 0 ∨ x = 1 ∨ (¬ x = 0 ∧ ¬ x = 1) := by
  by_cases h : x = 0
  · exact Or.inl h
  · by_cases h1 : x = 1
    · exact Or.inr (Or.inl h1)
    · exact Or.inr (Or.inr ⟨h, h1⟩)
