/-! Constructors: the judgement over a world that grows (a list of cells). -/
abbrev zc_G : Type := Launch × va_G × (Nat → ClassId)
abbrev zc_ty (G : zc_G) : List (ClassId × FieldType) := [(G.2.2 0, .int), (G.2.2 1, .boolean), (G.2.2 2, .long)]
def zc_nt : List Cond := [.methodLinkNest RX10 11 yX3_init RX10, .methodLinkNest RX10 18 yX5_init RX10, .methodLinkNest RX9 11 yX8_init RX10, .methodLinkNest RX0 11 yX8_init RX10, .methodLinkNest RX10 52 yX1_init RX10, .methodLinkNest RX10 59 yX2_init RX10, .methodLinkNest RX7 21 yX6_init RX10]
theorem zc_nt_form : ∀ w ∈ zc_nt, ∃ (a : String) (i : Nat) (x : MethodName) (h : String), w = .methodLinkNest a i x h := by
  intro w hw
  simp only [zc_nt, List.mem_cons, List.not_mem_nil, or_false] at hw
  rcases hw with rfl | rfl | rfl | rfl | rfl | rfl | rfl <;> exact ⟨_, _, _, _, rfl⟩
def zc_nw (U : State) : Prop := ∀ w ∈ zc_nt, va_Nw w U
theorem zc_nw.warm {s U : State} (hW : s.WarmedH U.vm) (h : zc_nw s) : zc_nw U := by
  intro w hw
  obtain ⟨a, i, x, q, rfl⟩ := zc_nt_form w hw
  exact va_Nw.warmM hW (h _ hw)
theorem zc_nw.same {u U : State} (e : u.vm = U.vm) (h : zc_nw u) : zc_nw U := by
  intro w hw
  have := h w hw
  obtain ⟨a, i, x, q, rfl⟩ := zc_nt_form w hw
  exact va_Nw.same rfl e this
def zc_C (G : zc_G) (X : zv_X) (M : zv_M) (mc ms : Nat) : Prop := match X with
  | (p, _, s, m, args, _, meth, c, R, _, _, _, A) => p.tables.exec = Jvm.exec ∧ c.code = M.1 ∧ c.maxLocals = M.2.1 ∧ s.vm.findClass M.2.2.1 = some m.cls ∧ (∀ w ∈ zv_tb, w.before args s = true) ∧ va_K G.2.1 vwCl (zc_ty G) s ∧ (∀ q, s.heap.size ≤ q → A q) ∧ mc ≤ R.cells ∧ ms ≤ R.slots ∧ M.2.2.2.2 ≤ R.frames ∧ 40 * M.2.2.2.2 ≤ R.locals ∧ meth.locks = false ∧ meth.sig.returnType = M.2.2.2.1 ∧ zc_nw s
def zc_I (X : zv_X) : Prop := match X with
  | (_, _, _, _, _, _, meth, _) => meth.name = "<init>"
def zc_V (G : zc_G) (X : zv_X) (M : zv_M) (pc : Nat) (lv : List (Nat × Value)) (st : List Value) (ws : va_W) (cells slots : Nat) : Prop := match X with
  | (p, e, s, m, args, below, meth, c, R, _, _, QQ, A) => ∀ (H : Heap) (locs : List Loc) (ls : Array Slot), va_P G.2.1 vwCl ws H → va_D A ws → va_S A s.heap H locs → lv_has ls M.2.1 lv → W p G.1 e R s m args below meth c H locs cells slots QQ (F0 m pc ls st)
section ZC
variable {G : zc_G} {X : zv_X} {M : zv_M} {mc ms pc : Nat} {lv : List (Nat × Value)} {st : List Value} {ws : va_W} {cells slots : Nat}
theorem zc_go {lv' : List (Nat × Value)} (kk : zc_V G X M pc lv' st ws cells slots) (hs : zv_sl lv lv') : zc_V G X M pc lv st ws cells slots := by
  obtain ⟨p, e, s, m, args, below, meth, c, R, c0, s0, QQ, A⟩ := X
  intro H locs ls hP hD hS hl
  exact kk H locs ls hP hD hS ⟨hl.1, hl.2.1, fun q hq => hl.2.2 q (zv_sl_mem hs q hq)⟩
theorem zv_lookf {lv : List (Nat × Value)} {h0 : Nat} {x : Int32} (h : lv.lookup 0 = some (.ref h0)) : (zv_s1 lv 1 (.int x)).lookup 0 = some (.ref h0) := by
  have : ∀ l : List (Nat × Value), l.lookup 0 = some (.ref h0) → (l.filter (fun q => !(q.1 == 1) && !(q.1 + 1 == 1 && q.2.category == 2))).lookup 0 = some (.ref h0) := by
    intro l
    induction l with
    | nil => intro h; simp [List.lookup] at h
    | cons a t ih =>
      intro h
      obtain ⟨j, w⟩ := a
      by_cases hj : 0 = j
      · subst hj
        simp [List.lookup] at h
        subst h
        simp [List.lookup, Value.category]
      · have e : ((0 : Nat) == j) = false := by simpa using hj
        simp only [List.lookup, e] at h
        rw [List.filter_cons]
        split
        · simp only [List.lookup, e]; exact ih h
        · exact ih h
  exact this lv h
theorem zc_norm {ws' : va_W} (e : ws = ws') (kk : zc_V G X M pc lv st ws' cells slots) : zc_V G X M pc lv st ws cells slots := e ▸ kk
theorem zc_cs {c' s' : Nat} (e1 : cells = c') (e2 : slots = s') (kk : zc_V G X M pc lv st ws c' s') : zc_V G X M pc lv st ws cells slots := by subst e1; subst e2; exact kk
theorem zc_iconst (hC : zc_C G X M mc ms) {n : Int} {v : Int32} (hd : decode M.1 pc = .ok (.iconst n, 1)) (hv : Int32.ofInt n = v) (kk : zc_V G X M (pc + 1) lv (.int v :: st) ws cells slots) : zc_V G X M pc lv (st) ws cells slots := by
  obtain ⟨p, e, s, m, args, below, meth, c, R, c0, s0, QQ, A⟩ := X
  obtain ⟨hx, hb, hml, hown, hts, hK, hA, hc1, hc2, hf1, hf2, hlk, hrt, hnt⟩ := hC
  intro H locs ls hP hD hS hl
  exact lv_iconst hx hb hd hv (kk H locs ls hP hD hS hl)
theorem zc_bipush (hC : zc_C G X M mc ms) {n : Int} {v : Int32} (hd : decode M.1 pc = .ok (.bipush n, 2)) (hv : (Int8.ofInt n).toInt32 = v) (kk : zc_V G X M (pc + 2) lv (.int v :: st) ws cells slots) : zc_V G X M pc lv (st) ws cells slots := by
  obtain ⟨p, e, s, m, args, below, meth, c, R, c0, s0, QQ, A⟩ := X
  obtain ⟨hx, hb, hml, hown, hts, hK, hA, hc1, hc2, hf1, hf2, hlk, hrt, hnt⟩ := hC
  intro H locs ls hP hD hS hl
  exact lv_bipush hx hb hd hv (kk H locs ls hP hD hS hl)
theorem zc_sipush (hC : zc_C G X M mc ms) {n : Int} {v : Int32} (hd : decode M.1 pc = .ok (.sipush n, 3)) (hv : (Int16.ofInt n).toInt32 = v) (kk : zc_V G X M (pc + 3) lv (.int v :: st) ws cells slots) : zc_V G X M pc lv (st) ws cells slots := by
  obtain ⟨p, e, s, m, args, below, meth, c, R, c0, s0, QQ, A⟩ := X
  obtain ⟨hx, hb, hml, hown, hts, hK, hA, hc1, hc2, hf1, hf2, hlk, hrt, hnt⟩ := hC
  intro H locs ls hP hD hS hl
  exact lv_sipush hx hb hd hv (kk H locs ls hP hD hS hl)
theorem zc_ldc (hC : zc_C G X M mc ms) {i : Nat} {v : Int32} (hd : decode M.1 pc = .ok (.ldc i, 2)) (hw : Cond.constant M.2.2.1 i v ∈ zv_tb) (kk : zc_V G X M (pc + 2) lv (.int v :: st) ws cells slots) : zc_V G X M pc lv (st) ws cells slots := by
  obtain ⟨p, e, s, m, args, below, meth, c, R, c0, s0, QQ, A⟩ := X
  obtain ⟨hx, hb, hml, hown, hts, hK, hA, hc1, hc2, hf1, hf2, hlk, hrt, hnt⟩ := hC
  intro H locs ls hP hD hS hl
  exact lv_ldc hx hb hown (hts _ hw) hd (kk H locs ls hP hD hS hl)
theorem zc_iload_n (hC : zc_C G X M mc ms) {k : Fin 4} {x : Int32} (hd : decode M.1 pc = .ok (.iload_n k, 1)) (hk : lv.lookup (k : Nat) = some (.int x)) (kk : zc_V G X M (pc + 1) lv (.int x :: st) ws cells slots) : zc_V G X M pc lv (st) ws cells slots := by
  obtain ⟨p, e, s, m, args, below, meth, c, R, c0, s0, QQ, A⟩ := X
  obtain ⟨hx, hb, hml, hown, hts, hK, hA, hc1, hc2, hf1, hf2, hlk, hrt, hnt⟩ := hC
  intro H locs ls hP hD hS hl
  exact lv_iload_n hx hb hd rfl (zv_lk hl hk) (kk H locs ls hP hD hS hl)
theorem zc_istore_n (hC : zc_C G X M mc ms) {k : Fin 4} {x : Int32} (hd : decode M.1 pc = .ok (.istore_n k, 1)) (hn : (k : Nat) < M.2.1) (kk : zc_V G X M (pc + 1) (zv_s1 lv (k : Nat) (.int x)) st ws cells slots) : zc_V G X M pc lv (.int x :: st) ws cells slots := by
  obtain ⟨p, e, s, m, args, below, meth, c, R, c0, s0, QQ, A⟩ := X
  obtain ⟨hx, hb, hml, hown, hts, hK, hA, hc1, hc2, hf1, hf2, hlk, hrt, hnt⟩ := hC
  intro H locs ls hP hD hS hl
  exact lv_istore_n hx hb hd rfl hl hn rfl (fun ls hl => (kk H locs ls hP hD hS hl))
theorem zc_aload_n (hC : zc_C G X M mc ms) {k : Fin 4} {x : Nat} (hd : decode M.1 pc = .ok (.aload_n k, 1)) (hk : lv.lookup (k : Nat) = some (.ref x)) (kk : zc_V G X M (pc + 1) lv (.ref x :: st) ws cells slots) : zc_V G X M pc lv (st) ws cells slots := by
  obtain ⟨p, e, s, m, args, below, meth, c, R, c0, s0, QQ, A⟩ := X
  obtain ⟨hx, hb, hml, hown, hts, hK, hA, hc1, hc2, hf1, hf2, hlk, hrt, hnt⟩ := hC
  intro H locs ls hP hD hS hl
  exact lv_aload_n hx hb hd rfl (zv_lk hl hk) (kk H locs ls hP hD hS hl)
theorem zc_astore_n (hC : zc_C G X M mc ms) {k : Fin 4} {x : Nat} (hd : decode M.1 pc = .ok (.astore_n k, 1)) (hn : (k : Nat) < M.2.1) (kk : zc_V G X M (pc + 1) (zv_s1 lv (k : Nat) (.ref x)) st ws cells slots) : zc_V G X M pc lv (.ref x :: st) ws cells slots := by
  obtain ⟨p, e, s, m, args, below, meth, c, R, c0, s0, QQ, A⟩ := X
  obtain ⟨hx, hb, hml, hown, hts, hK, hA, hc1, hc2, hf1, hf2, hlk, hrt, hnt⟩ := hC
  intro H locs ls hP hD hS hl
  exact lv_astore_n hx hb hd rfl hl hn rfl (fun ls hl => (kk H locs ls hP hD hS hl))
theorem zc_aload (hC : zc_C G X M mc ms) {i : Nat} {x : Nat} (hd : decode M.1 pc = .ok (.aload i, 2)) (hk : lv.lookup i = some (.ref x)) (kk : zc_V G X M (pc + 2) lv (.ref x :: st) ws cells slots) : zc_V G X M pc lv (st) ws cells slots := by
  obtain ⟨p, e, s, m, args, below, meth, c, R, c0, s0, QQ, A⟩ := X
  obtain ⟨hx, hb, hml, hown, hts, hK, hA, hc1, hc2, hf1, hf2, hlk, hrt, hnt⟩ := hC
  intro H locs ls hP hD hS hl
  exact lv_aload hx hb hd (zv_lk hl hk) (kk H locs ls hP hD hS hl)
theorem zc_dup (hC : zc_C G X M mc ms) {v : Value} (hd : decode M.1 pc = .ok (.dup, 1)) (hv : v.category = 1) (kk : zc_V G X M (pc + 1) lv (v :: v :: st) ws cells slots) : zc_V G X M pc lv (v :: st) ws cells slots := by
  obtain ⟨p, e, s, m, args, below, meth, c, R, c0, s0, QQ, A⟩ := X
  obtain ⟨hx, hb, hml, hown, hts, hK, hA, hc1, hc2, hf1, hf2, hlk, hrt, hnt⟩ := hC
  intro H locs ls hP hD hS hl
  exact lv_dup hx hb hd hv (kk H locs ls hP hD hS hl)
theorem zc_goto (hC : zc_C G X M mc ms) {off : Int} {tgt : Nat} (hd : decode M.1 pc = .ok (.goto off, 3)) (ht : (pc : Int) + off = (tgt : Int)) (kk : zc_V G X M (tgt) lv (st) ws cells slots) : zc_V G X M pc lv (st) ws cells slots := by
  obtain ⟨p, e, s, m, args, below, meth, c, R, c0, s0, QQ, A⟩ := X
  obtain ⟨hx, hb, hml, hown, hts, hK, hA, hc1, hc2, hf1, hf2, hlk, hrt, hnt⟩ := hC
  intro H locs ls hP hD hS hl
  exact lv_goto hx hb hd ht (kk H locs ls hP hD hS hl)
theorem zc_icmp_ge (hC : zc_C G X M mc ms) {x y : Int32} {off : Int} {tgt : Nat} (hd : decode M.1 pc = .ok (.if_icmp .ge off, 3)) (ht : (pc : Int) + off = (tgt : Int)) (kt : y ≤ x → zc_V G X M (tgt) lv (st) ws cells slots) (kf : ¬ y ≤ x → zc_V G X M (pc + 3) lv (st) ws cells slots) : zc_V G X M pc lv (.int y :: .int x :: st) ws cells slots := by
  obtain ⟨p, e, s, m, args, below, meth, c, R, c0, s0, QQ, A⟩ := X
  obtain ⟨hx, hb, hml, hown, hts, hK, hA, hc1, hc2, hf1, hf2, hlk, hrt, hnt⟩ := hC
  intro H locs ls hP hD hS hl
  exact lv_icmp_ge hx hb hd ht (fun q => kt q H locs ls hP hD hS hl) (fun q => kf q H locs ls hP hD hS hl)
theorem zc_iinc (hC : zc_C G X M mc ms) {i : Nat} {n : Int} {x v : Int32} (hd : decode M.1 pc = .ok (.iinc i n, 3)) (hk : lv.lookup i = some (.int x)) (hv : Int32.ofInt n = v) (hn : i < M.2.1) (kk : zc_V G X M (pc + 3) (zv_s1 lv i (.int (x + v))) st ws cells slots) : zc_V G X M pc lv st ws cells slots := by
  obtain ⟨p, e, s, m, args, below, meth, c, R, c0, s0, QQ, A⟩ := X
  obtain ⟨hx, hb, hml, hown, hts, hK, hA, hc1, hc2, hf1, hf2, hlk, hrt, hnt⟩ := hC
  intro H locs ls hP hD hS hl
  obtain ⟨k, hk'⟩ := List.getElem?_of_mem (zv_look hk)
  subst hv
  exact lv_iinc hx hb hd hl hk' rfl hn rfl (fun ls hl => (kk H locs ls hP hD hS hl))

theorem zc_objInit (hC : zc_C G X M mc ms) {a idx : Nat} {rest : List Value} (hd : decode M.1 pc = .ok (.invokespecial idx, 3)) (h1 : Cond.methodLink M.2.2.1 idx objectInit ∈ zv_tb) (h2 : Cond.instanceMethod objectInit ∈ zv_tb) (h3 : Cond.code objectInit ⟨#[0xb1]⟩ 1 none ∈ zv_tb) (hf : 1 ≤ M.2.2.2.2) (hw : (rest.map fun v => v.category).sum ≤ 8) (kk : zc_V G X M (pc + 3) lv rest ws cells slots) : zc_V G X M pc lv (.ref a :: rest) ws cells slots := by
  obtain ⟨p, e, s, m, args, below, meth, c, R, c0, s0, QQ, A⟩ := X
  obtain ⟨hx, hb, hml, hown, hts, hK, hA, hc1, hc2, hf1, hf2, hlk, hrt, hnt⟩ := hC
  intro H locs ls hP hD hS hl
  refine W.objInit hx hb hown (hts _ h1) (hts _ h2) (hts _ h3) rfl (by rw [hml]; exact hl.1) (rest := rest) rfl hd (by omega) ?_ (kk H locs ls hP hD hS hl)
  show 2 * 0 + _ + 12 ≤ _
  omega
/-- a class that is made: its number, its fields, what they are at first -/
def zc_NW (own : String) (idx ci N : Nat) (fs : List Value) : Prop := ∃ (C : String) (T : u_T) (ty : Nat → FieldType), vwCl[ci]? = some (C, T, N) ∧ (∀ w ∈ u_ws C T N, w ∈ zv_tb) ∧ (∀ k, k < N → parseFieldDescriptor (T k).2.2.1 = some (ty k)) ∧ Cond.classLink own idx C ∈ zv_tb ∧ Cond.instantiable C N ∈ zv_tb ∧ Cond.initialized C ∈ zv_tb ∧ ∀ j, j < N → defaultValue (ty j) = vp_V fs j
theorem zc_new (hC : zc_C G X M mc ms) {idx ci N : Nat} {fs : List Value} (hF : zc_NW M.2.2.1 idx ci N fs) (hd : decode M.1 pc = .ok (.new idx, 3)) (h1 : cells + 1 ≤ mc) (h2 : slots + N ≤ ms) (kk : ∀ q : Nat, zc_V G X M (pc + 3) lv (.ref q :: st) (ws ++ [(q, .inr (ci, fs))]) (cells + 1) (slots + N)) : zc_V G X M pc lv st ws cells slots := by
  obtain ⟨p, e, s, m, args, below, meth, c, R, c0, s0, QQ, A⟩ := X
  obtain ⟨hx, hb, hml, hown, hts, hK, hA, hc1, hc2, hf1, hf2, hlk, hrt, hnt⟩ := hC
  intro H locs ls hP hD hS hl
  obtain ⟨C, T, ty, f1, f2, f3, f4, f5, f6, f7⟩ := hF
  exact va_new hx hb hts f2 ty f3 hown (hts _ f4) (hts _ f5) (hts _ f6) hK hP hD hS hA f1 f7 (by omega) (by omega) hd (fun q H1 hP1 hD1 hS1 => kk q H1 locs ls hP1 hD1 hS1 hl)
theorem zc_newaI (hC : zc_C G X M mc ms) {n : Int32} (N : Nat) (hw : Cond.arrayClass .int ∈ zv_tb) (hd : decode M.1 pc = .ok (.newarray .int, 2)) (hn : ¬ n < 0) (hN : n.toNatClampNeg = N) (hb8 : N ≤ 60000) (h1 : cells + 1 ≤ mc) (h2 : slots + N ≤ ms) (kk : ∀ q : Nat, zc_V G X M (pc + 2) lv (.ref q :: st) (ws ++ [(q, .inl (G.2.2 0, N, .inl (fun _ => 0)))]) (cells + 1) (slots + N)) : zc_V G X M pc lv (.int n :: st) ws cells slots := by
  obtain ⟨p, e, s, m, args, below, meth, c, R, c0, s0, QQ, A⟩ := X
  obtain ⟨hx, hb, hml, hown, hts, hK, hA, hc1, hc2, hf1, hf2, hlk, hrt, hnt⟩ := hC
  intro H locs ls hP hD hS hl
  refine va_newa (atype := .int) (ty := .int) (a0 := (N, .inl (fun _ => 0))) hx hb (hts _ hw) rfl hK hP hD hS hA (fun _ => rfl) hn hN (by simp only [componentBytes]; omega) (by omega) (by omega) hd (fun q cA H1 hK1 hP1 hD1 hS1 => ?_)
  have e1 : s.vm.findClass ("[" ++ (.int : FieldType).toString) = some cA := (hK1.2 3 _ rfl).2
  have e2 : s.vm.findClass ("[" ++ (.int : FieldType).toString) = some (G.2.2 0) := (hK.2 0 _ rfl).2
  have e3 : cA = G.2.2 0 := Option.some.inj (e1.symm.trans e2)
  subst e3
  exact kk q H1 locs ls hP1 hD1 hS1 hl
theorem zc_newaZ (hC : zc_C G X M mc ms) {n : Int32} (N : Nat) (hw : Cond.arrayClass .boolean ∈ zv_tb) (hd : decode M.1 pc = .ok (.newarray .boolean, 2)) (hn : ¬ n < 0) (hN : n.toNatClampNeg = N) (hb8 : N ≤ 60000) (h1 : cells + 1 ≤ mc) (h2 : slots + N ≤ ms) (kk : ∀ q : Nat, zc_V G X M (pc + 2) lv (.ref q :: st) (ws ++ [(q, .inl (G.2.2 1, N, .inl (fun _ => 0)))]) (cells + 1) (slots + N)) : zc_V G X M pc lv (.int n :: st) ws cells slots := by
  obtain ⟨p, e, s, m, args, below, meth, c, R, c0, s0, QQ, A⟩ := X
  obtain ⟨hx, hb, hml, hown, hts, hK, hA, hc1, hc2, hf1, hf2, hlk, hrt, hnt⟩ := hC
  intro H locs ls hP hD hS hl
  refine va_newa (atype := .boolean) (ty := .boolean) (a0 := (N, .inl (fun _ => 0))) hx hb (hts _ hw) rfl hK hP hD hS hA (fun _ => rfl) hn hN (by simp only [componentBytes]; omega) (by omega) (by omega) hd (fun q cA H1 hK1 hP1 hD1 hS1 => ?_)
  have e1 : s.vm.findClass ("[" ++ (.boolean : FieldType).toString) = some cA := (hK1.2 3 _ rfl).2
  have e2 : s.vm.findClass ("[" ++ (.boolean : FieldType).toString) = some (G.2.2 1) := (hK.2 1 _ rfl).2
  have e3 : cA = G.2.2 1 := Option.some.inj (e1.symm.trans e2)
  subst e3
  exact kk q H1 locs ls hP1 hD1 hS1 hl
theorem zc_newaL (hC : zc_C G X M mc ms) {n : Int32} (N : Nat) (hw : Cond.arrayClass .long ∈ zv_tb) (hd : decode M.1 pc = .ok (.newarray .long, 2)) (hn : ¬ n < 0) (hN : n.toNatClampNeg = N) (hb8 : N ≤ 60000) (h1 : cells + 1 ≤ mc) (h2 : slots + N ≤ ms) (kk : ∀ q : Nat, zc_V G X M (pc + 2) lv (.ref q :: st) (ws ++ [(q, .inl (G.2.2 2, N, .inr (.inl (fun _ => 0))))]) (cells + 1) (slots + N)) : zc_V G X M pc lv (.int n :: st) ws cells slots := by
  obtain ⟨p, e, s, m, args, below, meth, c, R, c0, s0, QQ, A⟩ := X
  obtain ⟨hx, hb, hml, hown, hts, hK, hA, hc1, hc2, hf1, hf2, hlk, hrt, hnt⟩ := hC
  intro H locs ls hP hD hS hl
  refine va_newa (atype := .long) (ty := .long) (a0 := (N, .inr (.inl (fun _ => 0)))) hx hb (hts _ hw) rfl hK hP hD hS hA (fun _ => rfl) hn hN (by simp only [componentBytes]; omega) (by omega) (by omega) hd (fun q cA H1 hK1 hP1 hD1 hS1 => ?_)
  have e1 : s.vm.findClass ("[" ++ (.long : FieldType).toString) = some cA := (hK1.2 3 _ rfl).2
  have e2 : s.vm.findClass ("[" ++ (.long : FieldType).toString) = some (G.2.2 2) := (hK.2 2 _ rfl).2
  have e3 : cA = G.2.2 2 := Option.some.inj (e1.symm.trans e2)
  subst e3
  exact kk q H1 locs ls hP1 hD1 hS1 hl

def zc_FF (own : String) (idx ci i : Nat) (ty : FieldType) : Prop := ∃ (C : String) (T : u_T) (N : Nat) (ty0 : Nat → FieldType), vwCl[ci]? = some (C, T, N) ∧ i < N ∧ (∀ w ∈ u_ws C T N, w ∈ zv_tb) ∧ Cond.fieldLink own idx (T i).1 (T i).2.1 (T i).2.2.1 ∈ zv_tb ∧ (∀ k, k < N → parseFieldDescriptor (T k).2.2.1 = some (ty0 k)) ∧ (∀ a, a < N → ∀ b, b < N → a ≠ b → (T a).2.1 ≠ (T b).2.1) ∧ (T i).2.2.2 = true ∧ (T i).1 = own ∧ parseFieldDescriptor (T i).2.2.1 = some ty
theorem zc_putF (hC : zc_C G X M mc ms) (hN : zc_I X) {idx ci i a v : Nat} {fs : List Value} {ty : FieldType} (k : Nat) (hF : zc_FF M.2.2.1 idx ci i ty) (hd : decode M.1 pc = .ok (.putfield idx, 3)) (hk : ws[k]? = some (a, .inr (ci, fs))) (hn : narrow ty (.ref v) = .ref v) (hfit : fits ty (.ref v) = true) (hl0 : i < fs.length) (kk : zc_V G X M (pc + 3) lv st (ws.set k (a, .inr (ci, fs.set i (.ref v)))) cells slots) : zc_V G X M pc lv (.ref v :: .ref a :: st) ws cells slots := by
  obtain ⟨p, e, s, m, args, below, meth, c, R, c0, s0, QQ, A⟩ := X
  obtain ⟨hx, hb, hml, hown, hts, hK, hA, hc1, hc2, hf1, hf2, hlk, hrt, hnt⟩ := hC
  intro H locs ls hP hD hS hl
  obtain ⟨C, T, N, ty0, f1, f2, f3, f4, f5, f6, f7, f8, f9⟩ := hF
  exact va_putF hx hb hts f3 ty0 f5 f6 hown hK hP hD hS k hk f1 i f2 (hts _ f4) (fun _ h9 => h9) f7 hN f8 f9 hn hfit hl0 hd (fun H1 locs1 hP1 hD1 hS1 => kk H1 locs1 ls hP1 hD1 hS1 hl)
theorem zc_get (hC : zc_C G X M mc ms) {idx ci i a : Nat} {fs : List Value} {v : Value} (k : Nat) (hF : zv_FL M.2.2.1 idx ci i) (hd : decode M.1 pc = .ok (.getfield idx, 3)) (hk : ws[k]? = some (a, .inr (ci, fs))) (hv : fs[i]? = some v) (kk : zc_V G X M (pc + 3) lv (v :: st) ws cells slots) : zc_V G X M pc lv (.ref a :: st) ws cells slots := by
  obtain ⟨p, e, s, m, args, below, meth, c, R, c0, s0, QQ, A⟩ := X
  obtain ⟨hx, hb, hml, hown, hts, hK, hA, hc1, hc2, hf1, hf2, hlk, hrt, hnt⟩ := hC
  intro H locs ls hP hD hS hl
  obtain ⟨C, T, N, f1, f2, f3, f4⟩ := hF
  exact va_get hx hb hts f3 hown hK hP k hk f1 i f2 (hts _ f4) (fun _ h9 => h9) hv hd (kk H locs ls hP hD hS hl)
theorem zc_iast (hC : zc_C G X M mc ms) {a n : Nat} {f : Nat → Int32} {i x : Int32} (k : Nat) (hd : decode M.1 pc = .ok (.iastore, 1)) (hk : ws[k]? = some (a, .inl (G.2.2 0, n, .inl f))) (hin : vp_in i n) (kk : zc_V G X M (pc + 1) lv st (ws.set k (a, .inl (G.2.2 0, n, .inl (upd f i.toNatClampNeg x)))) cells slots) : zc_V G X M pc lv (.int x :: .int i :: .ref a :: st) ws cells slots := by
  obtain ⟨p, e, s, m, args, below, meth, c, R, c0, s0, QQ, A⟩ := X
  obtain ⟨hx, hb, hml, hown, hts, hK, hA, hc1, hc2, hf1, hf2, hlk, hrt, hnt⟩ := hC
  intro H locs ls hP hD hS hl
  exact va_iast hx hb hK hP hD hS k 0 hk rfl hin hd (fun H1 locs1 hP1 hD1 hS1 => kk H1 locs1 ls hP1 hD1 hS1 hl)
/-! contracts -/
def zc_rm (d mc ms : Nat) : Room := { frames := d, cells := mc, slots := ms, locals := 40 * d }
def zc_P0 (G : zc_G) (w0 : va_W) (sz : Nat) (U : State) : Prop := U.heap.size = sz ∧ va_P G.2.1 vwCl w0 U.heap ∧ va_K G.2.1 vwCl (zc_ty G) U ∧ zc_nw U ∧ va_D (fun _ => True) w0
def zc_Q0 (G : zc_G) (w0 : va_W) (sz : Nat) (B : va_W → Prop) : Array Value → State → Outcome → State → Prop := va_Qv (S := va_W) B (fun w t => va_P G.2.1 vwCl w t.heap ∧ va_K G.2.1 vwCl (zc_ty G) t ∧ va_D (va_A w0 sz) w) (va_A w0 sz)
def zc_OK (G : zc_G) (M : zv_M) (y : MethodName) (as : List Value) (w0 : va_W) (mc ms : Nat) (B : va_W → Prop) : Prop := ∀ sz : Nat, Met G.1 y (zv_ws y M) (zc_rm M.2.2.2.2 mc ms) (va_Pc as (zc_P0 G w0 sz)) (zc_Q0 G w0 sz B) mc ms (va_A w0 sz)
def zc_R (G : zc_G) (X : zv_X) (M : zv_M) (mc ms : Nat) (B : va_W → Prop) : Prop := ∀ (pc : Nat) (lv : List (Nat × Value)) (w : va_W), decode M.1 pc = .ok (.return_, 1) → B w → zc_V G X M pc lv [] w mc ms
theorem zc_ok (G : zc_G) (M : zv_M) (y : MethodName) (as : List Value) (w0 : va_W) (mc ms : Nat) (B : va_W → Prop) (hy : plainFor y = true) (hyi : y.name = "<init>") (hrt : M.2.2.2.1 = none) (hown : y.cls = M.2.2.1) (hlen : (lg_sl as).length ≤ M.2.1)
    (body : ∀ X, zc_C G X M mc ms → zc_I X → zc_R G X M mc ms B → zc_V G X M 0 (lv_args 0 as) [] w0 0 0) : zc_OK G M y as w0 mc ms B := by
  intro sz
  refine va_MetF (cc := M.1) (maxL := M.2.1) (ret := M.2.2.2.1) hy rfl ?_
  intro p e s m args below meth c s₁ Bd hml hv
  obtain ⟨rfl, hsz, hP, hK, hnt, hD0⟩ := hv
  have hts := atoms_spec (ws := zv_ws y M) Bd.pre
  have hown' : s.vm.findClass M.2.2.1 = some m.cls := by rw [← hown]; exact findClass_of_methodNamed Bd.named
  have hin : meth.name = "<init>" := (name_of_methodNamed Bd.named Bd.method).1.trans hyi
  subst hsz
  have hD := hD0.self (sz := s.heap.size)
  have hS : va_S (va_A w0 s.heap.size) s.heap s.heap [] := va_S.rf
  have hl := lv_entry as (n := M.2.1) hlen
  rw [lg_entry_eq]
  refine body (p, e, s, m, as.toArray, below, meth, c, zc_rm M.2.2.2.2 mc ms, 0, 0, MQ below (zc_Q0 G w0 s.heap.size B) as.toArray s mc ms (va_A w0 s.heap.size), va_A w0 s.heap.size) ⟨Bd.exec, Bd.bytes, hml, hown', fun w h => hts w (List.mem_cons_of_mem _ h), hK, fun q h => Or.inr h, Nat.le_refl _, Nat.le_refl _, Nat.le_refl _, Nat.le_refl _, Bd.notSynchronized, Bd.returns, hnt⟩ hin ?_ s.heap [] _ hP hD hS hl
  intro pc lv w hd hb H locs ls hP1 hD1 hS1 hl1
  exact W.vret Bd.exec Bd.bytes (Bd.returns.trans hrt) (fun t ht hW => ⟨⟨w, rfl, hb, by rw [ht]; exact hP1, va_K.moved hW.alike hK, hD1⟩, hS1.F ht⟩) hS1.2.2 hd Bd.notSynchronized
theorem zc_blind (G : zc_G) (w0 : va_W) (sz : Nat) (as : List Value) : FrameBlind (va_Pc as (zc_P0 G w0 sz)) := fun a U g mk q => by
  obtain ⟨q0, q1, qP, qK, qn, qD⟩ := q
  exact ⟨q0, q1, qP, va_K.moved (u := U) (U := U.calling g mk a) (Vm.Alike.refl U.vm) qK, zc_nw.same (u := U) (U := U.calling g mk a) rfl qn, qD⟩
theorem zc_roomOk {M My : zv_M} {R : Room} {mc' ms' : Nat} (h1 : M.2.2.2.2 ≤ R.frames) (h2 : 40 * M.2.2.2.2 ≤ R.locals) (hd : My.2.2.2.2 + 1 ≤ M.2.2.2.2) (hL : My.2.1 ≤ 21) : (zc_rm My.2.2.2.2 mc' ms').frames + 1 ≤ R.frames ∧ 8 + (My.2.1 + 11) + (zc_rm My.2.2.2.2 mc' ms').locals ≤ R.locals := by
  simp only [zc_rm]
  omega
theorem zc_callN (hC : zc_C G X M mc ms) {y : MethodName} {My : zv_M} {idx b ci n mc' ms' : Nat} {fs : List Value} {As rest : List Value} {B : va_W → Prop} {host : String} (k : Nat) (isR : List Nat) (wr : va_W) (hd : decode M.1 pc = .ok (.invokespecial idx, 3)) (hY : zv_Y y My n) (hin : Cond.instanceMethod y ∈ zv_tb) (hyi : y.name = "<init>") (hr0 : My.2.2.2.1 = none) (hlink : Cond.methodLinkNest M.2.2.1 idx y host ∈ zc_nt) (hdep : My.2.2.2.2 + 1 ≤ M.2.2.2.2) (hn : As.length = n) (hst : st = As.reverse ++ .ref b :: rest) (hw : (rest.map fun v => v.category).sum ≤ 8) (hk : ws[k]? = some (b, .inr (ci, fs))) (hwr : isR.map (fun i => ws[i]?) = wr.map some) (hnd : va_nd isR = true) (hdis : ∀ i ∈ isR, i ∉ [k]) (h1 : cells + mc' ≤ mc) (h2 : slots + ms' ≤ ms)
    (hM : zc_OK G My y (.ref b :: As) [(b, .inr (ci, fs))] mc' ms' B) (kk : ∀ w : va_W, B w → zc_V G X M (pc + 3) lv rest (wr ++ w) (cells + mc') (slots + ms')) : zc_V G X M pc lv st ws cells slots := by
  obtain ⟨p, e, s, m, args, below, meth, c, R, c0, s0, QQ, A⟩ := X
  obtain ⟨hx, hb, hml, hown, hts, hK, hA, hc1, hc2, hf1, hf2, hlk, hrt, hnt⟩ := hC
  intro H locs ls hP hD hS hl
  obtain ⟨y1, y2, y3, y4⟩ := hY
  rw [hr0] at y1
  have hC1 : [k].map (fun i => ws[i]?) = ([(b, .inr (ci, fs))] : va_W).map some := by simp [hk]
  have hPc : va_P G.2.1 vwCl [(b, .inr (ci, fs))] H := hP.sub [k] (by simp [hk])
  have hDc : va_D A [(b, .inr (ci, fs))] := hD.sub [k] (by rfl) hC1
  have hFc := va_free (wc := [(b, .inr (ci, fs))]) hD hS hA [k] hC1
  have hM' := hM H.size
  refine va_callv (va_runIN (host := host) (As := As) (rest := rest) (n := n) (bytes := My.1) (maxL := My.2.1) ⟨hx, hb, hml, hown, hts⟩ hM' ?_ ⟨zc_blind G _ _ _, fun U hU hW => ⟨rfl, by rw [hU], by rw [hU]; exact hPc, va_K.moved hW.alike hK, hnt.warm hW, hDc.weaken (fun _ _ _ _ => trivial)⟩⟩ rfl hn hl.1 (by rw [hst]) (lv_room hw) hd ⟨by omega, by omega⟩) hS (fun q _ h => hFc q h) hFc (fun u t H1 locs1 ht hvm hwu hB hz1 hk1 hS1 => ?_)
  · have e : zv_ws y My = Cond.code y My.1 My.2.1 none :: zv_tb := by unfold zv_ws; rw [hr0]
    have g1 : GoodIn zv_tb (zv_ws y My) := by
      rw [e]; intro w hw
      rcases List.mem_cons.mp hw with rfl | hw
      · exact ⟨y1, zv_good _ y1⟩
      · exact ⟨hw, zv_good _ hw⟩
    exact ⟨va_cnB n hts g1 e rfl rfl (hnt _ hlink) (hts _ y2) y3 (zc_roomOk hf1 hf2 hdep y4), hyi, hts _ hin⟩
  · obtain ⟨hP1, hK1, hD1⟩ := hB
    rw [ht] at hP1
    obtain ⟨hP2, hD2⟩ := va_join hP hD [k] isR hC1 hwr hnd hdis hk1 hFc hP1 hD1
    exact kk u hwu H1 locs1 ls hP2 hD2 hS1 hl
theorem zc_callI (hC : zc_C G X M mc ms) {y : MethodName} {My : zv_M} {idx b ci n mc' ms' : Nat} {fs : List Value} {As rest : List Value} {B : va_W → Prop} (k : Nat) (isR : List Nat) (wr : va_W) (hd : decode M.1 pc = .ok (.invokespecial idx, 3)) (hY : zv_Y y My n) (hin : Cond.instanceMethod y ∈ zv_tb) (hyi : y.name = "<init>") (hr0 : My.2.2.2.1 = none) (hlink : Cond.methodLink M.2.2.1 idx y ∈ zv_tb) (hdep : My.2.2.2.2 + 1 ≤ M.2.2.2.2) (hn : As.length = n) (hst : st = As.reverse ++ .ref b :: rest) (hw : (rest.map fun v => v.category).sum ≤ 8) (hk : ws[k]? = some (b, .inr (ci, fs))) (hwr : isR.map (fun i => ws[i]?) = wr.map some) (hnd : va_nd isR = true) (hdis : ∀ i ∈ isR, i ∉ [k]) (h1 : cells + mc' ≤ mc) (h2 : slots + ms' ≤ ms)
    (hM : zc_OK G My y (.ref b :: As) [(b, .inr (ci, fs))] mc' ms' B) (kk : ∀ w : va_W, B w → zc_V G X M (pc + 3) lv rest (wr ++ w) (cells + mc') (slots + ms')) : zc_V G X M pc lv st ws cells slots := by
  obtain ⟨p, e, s, m, args, below, meth, c, R, c0, s0, QQ, A⟩ := X
  obtain ⟨hx, hb, hml, hown, hts, hK, hA, hc1, hc2, hf1, hf2, hlk, hrt, hnt⟩ := hC
  intro H locs ls hP hD hS hl
  obtain ⟨y1, y2, y3, y4⟩ := hY
  rw [hr0] at y1
  have hC1 : [k].map (fun i => ws[i]?) = ([(b, .inr (ci, fs))] : va_W).map some := by simp [hk]
  have hPc : va_P G.2.1 vwCl [(b, .inr (ci, fs))] H := hP.sub [k] (by simp [hk])
  have hDc : va_D A [(b, .inr (ci, fs))] := hD.sub [k] (by rfl) hC1
  have hFc := va_free (wc := [(b, .inr (ci, fs))]) hD hS hA [k] hC1
  have hM' := hM H.size
  refine va_callv (va_runI (As := As) (rest := rest) (n := n) (bytes := My.1) (maxL := My.2.1) ⟨hx, hb, hml, hown, hts⟩ hM' ?_ ⟨zc_blind G _ _ _, fun U hU hW => ⟨rfl, by rw [hU], by rw [hU]; exact hPc, va_K.moved hW.alike hK, hnt.warm hW, hDc.weaken (fun _ _ _ _ => trivial)⟩⟩ rfl hn hl.1 (by rw [hst]) (lv_room hw) hd ⟨by omega, by omega⟩) hS (fun q _ h => hFc q h) hFc (fun u t H1 locs1 ht hvm hwu hB hz1 hk1 hS1 => ?_)
  · have e : zv_ws y My = Cond.code y My.1 My.2.1 none :: zv_tb := by unfold zv_ws; rw [hr0]
    have g1 : GoodIn zv_tb (zv_ws y My) := by
      rw [e]; intro w hw
      rcases List.mem_cons.mp hw with rfl | hw
      · exact ⟨y1, zv_good _ y1⟩
      · exact ⟨hw, zv_good _ hw⟩
    exact ⟨callB_of n hts g1 e rfl rfl (hts _ y2) (hts _ hlink) y3 (zc_roomOk hf1 hf2 hdep y4), hyi, hts _ hin⟩
  · obtain ⟨hP1, hK1, hD1⟩ := hB
    rw [ht] at hP1
    obtain ⟨hP2, hD2⟩ := va_join hP hD [k] isR hC1 hwr hnd hdis hk1 hFc hP1 hD1
    exact kk u hwu H1 locs1 ls hP2 hD2 hS1 hl

end ZC
