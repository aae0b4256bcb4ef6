/-! THE CLAIM OUT OF ONE WALK OF THE LAW'S BODY. Your part is whole_start (and what it stands on); all else here is the same for every law, but numbers. -/
def R_law : String := "BooleanRunsLaw"
def lw_P (b : Addr) (xs : List Int32) (args : Array Value) (s : State) : Prop := args = #[.ref b] ∧ s.IntsAt b xs ∧ xs.length ≤ 2048 ∧ (Jvm.Cond.and given_1 narrow_1).before args s = true
def lw_Q (_ : Array Value) (s : State) (o : Outcome) (t : State) : Prop := o = .returned (some (.int 1)) ∧ Framed s o t [] 600000 7302250
def lw_Z (below : List Frame) (a : Array Value) (s : State) : State → Prop := fun t => ∃ o, t.status = .running ∧ Ended t below o ∧ lw_Q a s o t
/-- the law's own end, with 1 on the stack, nothing written that was there before, its room as the claim has it -/
theorem lw_ret {p : Program} {l : Launch} {e : Env} {s : State} {m : MethodId} {below : List Frame} {meth : Method} {c : Code} {b : Nat} (hx : p.tables.exec = Jvm.exec) (hb : c.code = code) (hr : meth.sig.returnType = ret) (hlocks : meth.locks = false) {pc : Nat} {H : Heap} {ls : Array Slot} (hdg : decode code pc = .ok (.ireturn, 1)) : W p l e room_1 s m #[Value.ref b] below meth c H [] 600000 7302250 (lw_Z below #[Value.ref b] s) (F0 m pc ls [.int 1]) := by
  intro T hT X
  obtain ⟨fs, hret, hrun, hended, hW, hframe⟩ := X.leave (v := some (.int 1)) (hlocks := hlocks) (fun h => by rw [hr] at h; cases h)
  have hmeth' : T.vm.method? m = some meth := X.method'
  refine ⟨T.setFrames fs, ?_, .returned (some (.int 1)), hrun, hended, rfl, ⟨_, rfl⟩, hW, hframe⟩
  jvm_step X.here [X.here.top, hx, hb, hdg, hmeth', hr, ret, narrow_b1]
  (try refine ⟨rfl, ?_⟩); (try refine ⟨rfl, ?_⟩)
  first | (intro acts; rw [hret _ acts rfl rfl rfl]) | rw [hret _ _ rfl rfl rfl]
  exact Steps.refl _
/-- what holds at the law's entry: the machine, the code, the tables' words (any of lw_tbl by 'hts w (by decide +kernel)'), the script of L ints xs at the cell b, what the Statement gives of the start (any of its parts by flat_of_before) -/
def lw_At (p : Program) (s : State) (m : MethodId) (meth : Method) (c : Code) (b L : Nat) (xs : Nat → Int32) : Prop :=
  p.tables.exec = Jvm.exec ∧ c.code = code ∧ meth.sig.returnType = ret ∧ c.maxLocals = 4 ∧ s.vm.findClass R_law = some m.cls ∧ (∀ w ∈ lw_tbl, w.before #[Value.ref b] s = true) ∧ va_X b L xs s s.heap ∧ b < s.heap.size ∧ meth.locks = false ∧ (Jvm.Cond.and given_1 narrow_1).before #[Value.ref b] s = true
theorem nw_L_7 : zc_NW RL 7 10 9 [.null, .null, .null, .null, .null, .null, .null, .null, .long 0] := ⟨_, _, tyX10, rfl, zinX10, tyX10_ok, zv_in 80 (by decide +kernel) rfl, zv_in 81 (by decide +kernel) rfl, zv_in 66 (by decide +kernel) rfl, fun j hj => match j, hj with | 0, _ => rfl | 1, _ => rfl | 2, _ => rfl | 3, _ => rfl | 4, _ => rfl | 5, _ => rfl | 6, _ => rfl | 7, _ => rfl | 8, _ => rfl | (k + 9), h => absurd h (by omega)⟩
theorem nw_L_10 : zc_NW RL 10 11 37 [.null, .null, .int 0, .null, .null, .null, .null, .null, .null, .null, .int 0, .null, .null, .null, .null, .null, .null, .null, .null, .null, .null, .null, .null, .null, .null, .null, .int 0, .long 0, .null, .null, .int 0, .null, .null, .null, .int 0, .int 0, .null] := ⟨_, _, tyX11, rfl, zinX11, tyX11_ok, zv_in 943 (by decide +kernel) rfl, zv_in 944 (by decide +kernel) rfl, zv_in 77 (by decide +kernel) rfl, fun j hj => match j, hj with | 0, _ => rfl | 1, _ => rfl | 2, _ => rfl | 3, _ => rfl | 4, _ => rfl | 5, _ => rfl | 6, _ => rfl | 7, _ => rfl | 8, _ => rfl | 9, _ => rfl | 10, _ => rfl | 11, _ => rfl | 12, _ => rfl | 13, _ => rfl | 14, _ => rfl | 15, _ => rfl | 16, _ => rfl | 17, _ => rfl | 18, _ => rfl | 19, _ => rfl | 20, _ => rfl | 21, _ => rfl | 22, _ => rfl | 23, _ => rfl | 24, _ => rfl | 25, _ => rfl | 26, _ => rfl | 27, _ => rfl | 28, _ => rfl | 29, _ => rfl | 30, _ => rfl | 31, _ => rfl | 32, _ => rfl | 33, _ => rfl | 34, _ => rfl | 35, _ => rfl | 36, _ => rfl | (k + 37), h => absurd h (by omega)⟩
theorem lkc_L_9 : Cond.methodLink RL 9 yX10_init ∈ zv_tb := zv_in 82 (by decide +kernel) rfl
theorem lkc_L_12 : Cond.methodLink RL 12 yX11_init ∈ zv_tb := zv_in 945 (by decide +kernel) rfl
/-- the state of the world behind both constructors -/
def zs_0 : zv_St := (fun c i => if c = 46 then zc_neg 8192 i else if c = 57 then zc_neg 8 i else 0, fun _ _ => 0)
def zs_ad (qx qm : Nat) (q1 q2 q3 q4 q5 q6 q7 q8 q9 q10 q11 q12 q13 q14 q15 q16 q17 q18 q19 q20 q21 q22 q23 q24 q25 q26 q27 q28 q29 q30 q31 q32 q33 q34 q35 q36 q37 q38 q39 q40 q41 q42 q43 q44 : Nat) (qq : Nat → Nat) : Nat → Nat := fun k => [qx, q1, q2, q3, q4, q5, q6, q7, q8, q9, q10, q11, q12, q13, q14, q15, q16, q17, q18, q19, q20, q21, q22, q23, q24, q25, q26, q27, q28, q29, q30, q31, q32, q33, q34, q35, q36, q37, q38, q39, q40, q41, q42, q43, q44, qm, (qq 1), (qq 2), (qq 3), (qq 4), (qq 5), (qq 6), (qq 7), (qq 8), (qq 9), (qq 10), (qq 11), (qq 12), (qq 13), (qq 14), (qq 15), (qq 16), (qq 17), (qq 18), (qq 19), (qq 20), (qq 21), (qq 22), (qq 23), (qq 24), (qq 25), (qq 26), (qq 27), (qq 28), (qq 29), (qq 30)].getD k 0
set_option maxRecDepth 100000 in
set_option maxHeartbeats 4000000 in
theorem zs_perm (cA : Nat → ClassId) (qx qm : Nat) (q1 q2 q3 q4 q5 q6 q7 q8 q9 q10 q11 q12 q13 q14 q15 q16 q17 q18 q19 q20 q21 q22 q23 q24 q25 q26 q27 q28 q29 q30 q31 q32 q33 q34 q35 q36 q37 q38 q39 q40 q41 q42 q43 q44 : Nat) (qq : Nat → Nat) : ([0, 1, 2, 3, 4, 5, 6, 7, 8, 9, 10, 11, 12, 13, 14, 15, 16, 17, 18, 19, 20, 21, 22, 23, 24, 25, 26, 27, 28, 29, 30, 31, 32, 33, 34, 35, 36, 37, 38, 39, 40, 41, 42, 43, 44, 45, 46, 47, 48, 49, 50, 51, 52, 53, 54, 55, 56, 57, 58, 59, 60, 61, 62, 63, 64, 65, 66, 67, 68, 69, 70, 71, 72, 73, 74, 75] : List Nat).map (fun i => ([(qx, .inr (10, [.ref q1, .ref q5, .ref q13, .ref q19, .ref q27, .ref q31, .ref q34, .ref q39, .long 0])), (q1, .inr (3, [.ref q2, .ref q3, .ref q4])), (q2, .inl (cA 0, 960, .inl (fun _ => 0))), (q3, .inl (cA 0, 960, .inl (fun _ => 0))), (q4, .inl (cA 0, 16, .inl (fun _ => 0))), (q5, .inr (5, [.int 0, .ref q6, .ref q7, .ref q8, .ref q9, .ref q10, .ref q11, .ref q12])), (q6, .inl (cA 0, 80, .inl (fun _ => 0))), (q7, .inl (cA 0, 80, .inl (fun _ => 0))), (q8, .inl (cA 0, 80, .inl (fun _ => 0))), (q9, .inl (cA 0, 80, .inl (fun _ => 0))), (q10, .inl (cA 0, 80, .inl (fun _ => 0))), (q11, .inl (cA 0, 640, .inl (fun _ => 0))), (q12, .inl (cA 0, 640, .inl (fun _ => 0))), (q13, .inr (9, [.ref q5, .ref q14, .ref q16, .ref q17, .ref q18])), (q14, .inr (8, [.ref q15])), (q15, .inl (cA 2, 640, .inr (.inl (fun _ => 0)))), (q16, .inl (cA 1, 80, .inl (fun _ => 0))), (q17, .inl (cA 0, 80, .inl (fun _ => 0))), (q18, .inl (cA 1, 80, .inl (fun _ => 0))), (q19, .inr (0, [.ref q1, .ref q5, .ref q13, .ref q20, .ref q22, .ref q24, .ref q25, .ref q26, .int 0])), (q20, .inr (8, [.ref q21])), (q21, .inl (cA 2, 640, .inr (.inl (fun _ => 0)))), (q22, .inr (8, [.ref q23])), (q23, .inl (cA 2, 640, .inr (.inl (fun _ => 0)))), (q24, .inl (cA 0, 80, .inl (fun _ => 0))), (q25, .inl (cA 0, 640, .inl (fun _ => 0))), (q26, .inl (cA 2, 9, .inr (.inl (fun _ => 0)))), (q27, .inr (4, [.ref q1, .ref q5, .ref q13, .ref q19, .ref q28, .ref q29, .ref q30])), (q28, .inl (cA 0, 80, .inl (fun _ => 0))), (q29, .inl (cA 2, 80, .inr (.inl (fun _ => 0)))), (q30, .inl (cA 0, 80, .inl (fun _ => 0))), (q31, .inr (1, [.ref q32, .ref q33, .int 0])), (q32, .inl (cA 0, 512, .inl (fun _ => 0))), (q33, .inl (cA 2, 512, .inr (.inl (fun _ => 0)))), (q34, .inr (2, [.ref q35, .ref q36, .ref q37, .ref q38])), (q35, .inl (cA 1, 8, .inl (fun _ => 0))), (q36, .inl (cA 0, 8, .inl (fun _ => 0))), (q37, .inl (cA 0, 8, .inl (fun _ => 0))), (q38, .inl (cA 0, 8, .inl (fun _ => 0))), (q39, .inr (7, [.ref q1, .ref q5, .ref q40, .ref q41, .ref q42])), (q40, .inl (cA 1, 80, .inl (fun _ => 0))), (q41, .inl (cA 0, 80, .inl (fun _ => 0))), (q42, .inr (6, [.ref q43, .ref q44, .int 0])), (q43, .inl (cA 0, 8, .inl (fun _ => 0))), (q44, .inl (cA 0, 8, .inl (fun _ => 0)))] ++ zc_wM cA qm qq (zc_neg 8192) (zc_neg 8) : va_W)[i]?) = (zv_w (zs_ad qx qm q1 q2 q3 q4 q5 q6 q7 q8 q9 q10 q11 q12 q13 q14 q15 q16 q17 q18 q19 q20 q21 q22 q23 q24 q25 q26 q27 q28 q29 q30 q31 q32 q33 q34 q35 q36 q37 q38 q39 q40 q41 q42 q43 q44 qq) cA zs_0).map some := by rfl
theorem zs_turn {l : Launch} {D : va_G} {cA : Nat → ClassId} {ad : Nat → Nat} {p : Program} {e : Env} {s : State} {m : MethodId} {args : Array Value} {below : List Frame} {meth : Method} {c : Code} {R : Room} {c0 s0 cells slots : Nat} {QQ : State → Prop} {A : Nat → Prop} {M : zv_M} {pc : Nat} {lv : List (Nat × Value)} {st : List Value} {ws : va_W} {σ : zv_St} (is : List Nat) (hn : va_nd is = true) (hs : is.map (fun i => ws[i]?) = (zv_w ad cA σ).map some)
    (kk : zv_I (l, D, ad, cA) → (∀ k, k < zv_N → A (ad k)) → zv_V (l, D, ad, cA) (p, e, s, m, args, below, meth, c, R, cells, slots, QQ, A) M pc lv st σ) : zc_V (l, D, cA) (p, e, s, m, args, below, meth, c, R, c0, s0, QQ, A) M pc lv st ws cells slots := by
  intro H locs ls hP hD hS hl
  have hD' := hD.sub is hn hs
  have hP' : va_P D vwCl (zv_w ad cA σ) H := by
    refine hP.sub is ?_
    have : is.filterMap (fun i => ws[i]?) = (is.map (fun i => ws[i]?)).filterMap id := by rw [List.filterMap_map]; rfl
    rw [this, hs, List.filterMap_map]
    exact List.filterMap_some
  have hI : zv_I (l, D, ad, cA) := fun i j hi hj hij => hD'.1 i j _ _ (zv_w_get ad cA σ hi) (zv_w_get ad cA σ hj) hij
  exact kk hI (fun k hk => hD'.2 k _ (zv_w_get ad cA σ hk)) H locs ls hP' hS hl
theorem zs_arr {ty : FieldType} {args : Array Value} {s : State} (hty : ty = .int ∨ ty = .boolean ∨ ty = .long) (h : (Cond.arrayClass ty).before args s = true) : ∃ cA : ClassId, ArrOfT s cA ty ∧ va_RA s cA ty := by
  obtain ⟨cA, kA, comp, hfind, hk, hkind⟩ := Cond.arrayClass_spec h
  refine ⟨cA, fun n z => ⟨fun k h => (by cases h), kA, hk, comp, hkind⟩, ?_⟩
  rcases hty with rfl | rfl | rfl <;> exact hfind
set_option maxHeartbeats 4000000 in
set_option maxRecDepth 100000 in
/-- THE LAW, from its entry, over the pure part (hpure) that is still open -/
theorem whole_start_open (hpure : ∀ (L : Nat) (xs : Nat → Int32), L ≤ 2048 → ∃ n, L_L_law_18 L xs n 0 zs_0) {p : Program} {e : Env} {s : State} {m : MethodId} {below : List Frame} {meth : Method} {c : Code} (l : Launch) {b L : Nat} {xs : Nat → Int32} (hL : L ≤ 2048) (C0 : lw_At p s m meth c b L xs) : W p l e room_1 s m #[Value.ref b] below meth c s.heap [] 0 0 (lw_Z below #[Value.ref b] s) (entryFrame m ([Value.ref b] : List Value).toArray 4) := by
  obtain ⟨hx, hb, hr, hml, hown, hts, hX, hbl, hlocks, hgv⟩ := id C0
  have hts' : ∀ w ∈ zv_tb, w.before #[Value.ref b] s = true := fun w h => hts w (List.mem_filter.mp h).1
  have hnc : zc_nw s := fun w hw => va_Nw.of (by obtain ⟨a, i, x, q, rfl⟩ := zc_nt_form w hw; rfl) (hts w ((show ∀ w ∈ zc_nt, w ∈ lw_tbl by decide +kernel) w hw))
  have hnv : zv_nw s := fun w hw => va_Nw.of (by obtain ⟨a, i, x, q, rfl⟩ := zv_nt_form w hw; rfl) (hts w ((show ∀ w ∈ zv_nt, w ∈ lw_tbl by decide +kernel) w hw))
  obtain ⟨c0, iS0, hKn0⟩ := u_known (C := RX0) (T := TX0) (N := 9) (n := 9) hts' zinX0 (hts' (.instantiable RX0 9) (zv_in 171 (by decide +kernel) rfl))
  obtain ⟨c1, iS1, hKn1⟩ := u_known (C := RX1) (T := TX1) (N := 3) (n := 3) hts' zinX1 (hts' (.instantiable RX1 3) (zv_in 235 (by decide +kernel) rfl))
  obtain ⟨c2, iS2, hKn2⟩ := u_known (C := RX2) (T := TX2) (N := 4) (n := 4) hts' zinX2 (hts' (.instantiable RX2 4) (zv_in 251 (by decide +kernel) rfl))
  obtain ⟨c3, iS3, hKn3⟩ := u_known (C := RX3) (T := TX3) (N := 3) (n := 3) hts' zinX3 (hts' (.instantiable RX3 3) (zv_in 89 (by decide +kernel) rfl))
  obtain ⟨c4, iS4, hKn4⟩ := u_known (C := RX4) (T := TX4) (N := 7) (n := 7) hts' zinX4 (hts' (.instantiable RX4 7) (zv_in 207 (by decide +kernel) rfl))
  obtain ⟨c5, iS5, hKn5⟩ := u_known (C := RX5) (T := TX5) (N := 8) (n := 8) hts' zinX5 (hts' (.instantiable RX5 8) (zv_in 106 (by decide +kernel) rfl))
  obtain ⟨c6, iS6, hKn6⟩ := u_known (C := RX6) (T := TX6) (N := 3) (n := 3) hts' zinX6 (hts' (.instantiable RX6 3) (zv_in 276 (by decide +kernel) rfl))
  obtain ⟨c7, iS7, hKn7⟩ := u_known (C := RX7) (T := TX7) (N := 5) (n := 5) hts' zinX7 (hts' (.instantiable RX7 5) (zv_in 270 (by decide +kernel) rfl))
  obtain ⟨c8, iS8, hKn8⟩ := u_known (C := RX8) (T := TX8) (N := 1) (n := 1) hts' zinX8 (hts' (.instantiable RX8 1) (zv_in 143 (by decide +kernel) rfl))
  obtain ⟨c9, iS9, hKn9⟩ := u_known (C := RX9) (T := TX9) (N := 5) (n := 5) hts' zinX9 (hts' (.instantiable RX9 5) (zv_in 137 (by decide +kernel) rfl))
  obtain ⟨c10, iS10, hKn10⟩ := u_known (C := RX10) (T := TX10) (N := 9) (n := 9) hts' zinX10 (hts' (.instantiable RX10 9) (zv_in 81 (by decide +kernel) rfl))
  obtain ⟨c11, iS11, hKn11⟩ := u_known (C := RX11) (T := TX11) (N := 37) (n := 37) hts' zinX11 (hts' (.instantiable RX11 37) (zv_in 944 (by decide +kernel) rfl))
  obtain ⟨dC, dI, hKc⟩ : ∃ (dC : Nat → ClassId) (dI : Nat → Nat → Nat), ∀ (k : Nat) (q : vw_C), vwCl[k]? = some q → u_Kn s q.1 q.2.1 q.2.2 (dC k) (dI k) := by
    refine ⟨fun k => if k = 0 then c0 else if k = 1 then c1 else if k = 2 then c2 else if k = 3 then c3 else if k = 4 then c4 else if k = 5 then c5 else if k = 6 then c6 else if k = 7 then c7 else if k = 8 then c8 else if k = 9 then c9 else if k = 10 then c10 else c11, fun k => if k = 0 then iS0 else if k = 1 then iS1 else if k = 2 then iS2 else if k = 3 then iS3 else if k = 4 then iS4 else if k = 5 then iS5 else if k = 6 then iS6 else if k = 7 then iS7 else if k = 8 then iS8 else if k = 9 then iS9 else if k = 10 then iS10 else iS11, ?_⟩
    intro k q hq
    match k, hq with
    | 0, hq => cases hq; exact hKn0
    | 1, hq => cases hq; exact hKn1
    | 2, hq => cases hq; exact hKn2
    | 3, hq => cases hq; exact hKn3
    | 4, hq => cases hq; exact hKn4
    | 5, hq => cases hq; exact hKn5
    | 6, hq => cases hq; exact hKn6
    | 7, hq => cases hq; exact hKn7
    | 8, hq => cases hq; exact hKn8
    | 9, hq => cases hq; exact hKn9
    | 10, hq => cases hq; exact hKn10
    | 11, hq => cases hq; exact hKn11
    | k + 12, hq => simp [vwCl] at hq
  obtain ⟨a0, ha0, hb0⟩ := zs_arr (Or.inl rfl) (hts' _ ac_int)
  obtain ⟨a1, ha1, hb1⟩ := zs_arr (Or.inr (Or.inl rfl)) (hts' _ ac_boolean)
  obtain ⟨a2, ha2, hb2⟩ := zs_arr (Or.inr (Or.inr rfl)) (hts' _ ac_long)
  obtain ⟨cA, e0, e1, e2⟩ : ∃ cA : Nat → ClassId, cA 0 = a0 ∧ cA 1 = a1 ∧ cA 2 = a2 := ⟨fun k => if k = 0 then a0 else if k = 1 then a1 else a2, rfl, rfl, rfl⟩
  subst e0; subst e1; subst e2
  have hK : va_K (dC, dI) vwCl (zc_ty (l, (dC, dI), cA)) s := ⟨hKc, fun k q hq => by
    match k, hq with
    | 0, hq => cases hq; exact ⟨ha0, hb0⟩
    | 1, hq => cases hq; exact ⟨ha1, hb1⟩
    | 2, hq => cases hq; exact ⟨ha2, hb2⟩
    | k + 3, hq => simp at hq⟩
  have hS : va_S (fun q : Nat => s.heap.size ≤ q) s.heap s.heap [] := va_S.rf
  have hP : va_P (dC, dI) vwCl [] s.heap := fun k q h => by simp at h
  have hD : va_D (fun q : Nat => s.heap.size ≤ q) [] := ⟨fun i j p q h => by simp at h, fun k q h => by simp at h⟩
  have hl := lv_entry ([.ref b]) (n := 4) (Nat.le_of_ble_eq_true rfl)
  rw [lg_entry_eq]
  have hC : zc_C (l, (dC, dI), cA) (p, e, s, m, #[Value.ref b], below, meth, c, room_1, 0, 0, lw_Z below #[Value.ref b] s, fun q : Nat => s.heap.size ≤ q) M_L_law 600000 7302250 := ⟨hx, hb, hml, hown, hts', hK, fun _ h => h, Nat.le_refl _, Nat.le_refl _, (by decide), (by decide), hlocks, hr, hnc⟩
  suffices h : zc_V (l, (dC, dI), cA) (p, e, s, m, #[Value.ref b], below, meth, c, room_1, 0, 0, lw_Z below #[Value.ref b] s, fun q : Nat => s.heap.size ≤ q) M_L_law 0 [(0, .ref b)] [] [] 0 0 from h s.heap [] _ hP hD hS hl
  refine zc_new hC nw_L_7 dL_law_0 (by decide) (by decide) (fun qx => ?_)
  refine zc_norm (ws' := [(qx, .inr (10, [.null, .null, .null, .null, .null, .null, .null, .null, .long 0]))]) rfl ?_
  refine zc_cs (c' := 1) (s' := 9) rfl rfl ?_
  refine zc_dup hC dL_law_3 rfl ?_
  refine zc_callI (As := []) hC 0 [] [] dL_law_4 YI_X10.1 YI_X10.2 rfl rfl lkc_L_9 (by decide) rfl rfl (Nat.le_of_ble_eq_true rfl) rfl rfl (by decide) (by decide) (by decide) (by decide) (cc_X10 _ _) ?_
  rintro w ⟨q1, q2, q3, q4, q5, q6, q7, q8, q9, q10, q11, q12, q13, q14, q15, q16, q17, q18, q19, q20, q21, q22, q23, q24, q25, q26, q27, q28, q29, q30, q31, q32, q33, q34, q35, q36, q37, q38, q39, q40, q41, q42, q43, q44, rfl⟩
  refine zc_norm (ws' := [(qx, .inr (10, [.ref q1, .ref q5, .ref q13, .ref q19, .ref q27, .ref q31, .ref q34, .ref q39, .long 0])), (q1, .inr (3, [.ref q2, .ref q3, .ref q4])), (q2, .inl (cA 0, 960, .inl (fun _ => 0))), (q3, .inl (cA 0, 960, .inl (fun _ => 0))), (q4, .inl (cA 0, 16, .inl (fun _ => 0))), (q5, .inr (5, [.int 0, .ref q6, .ref q7, .ref q8, .ref q9, .ref q10, .ref q11, .ref q12])), (q6, .inl (cA 0, 80, .inl (fun _ => 0))), (q7, .inl (cA 0, 80, .inl (fun _ => 0))), (q8, .inl (cA 0, 80, .inl (fun _ => 0))), (q9, .inl (cA 0, 80, .inl (fun _ => 0))), (q10, .inl (cA 0, 80, .inl (fun _ => 0))), (q11, .inl (cA 0, 640, .inl (fun _ => 0))), (q12, .inl (cA 0, 640, .inl (fun _ => 0))), (q13, .inr (9, [.ref q5, .ref q14, .ref q16, .ref q17, .ref q18])), (q14, .inr (8, [.ref q15])), (q15, .inl (cA 2, 640, .inr (.inl (fun _ => 0)))), (q16, .inl (cA 1, 80, .inl (fun _ => 0))), (q17, .inl (cA 0, 80, .inl (fun _ => 0))), (q18, .inl (cA 1, 80, .inl (fun _ => 0))), (q19, .inr (0, [.ref q1, .ref q5, .ref q13, .ref q20, .ref q22, .ref q24, .ref q25, .ref q26, .int 0])), (q20, .inr (8, [.ref q21])), (q21, .inl (cA 2, 640, .inr (.inl (fun _ => 0)))), (q22, .inr (8, [.ref q23])), (q23, .inl (cA 2, 640, .inr (.inl (fun _ => 0)))), (q24, .inl (cA 0, 80, .inl (fun _ => 0))), (q25, .inl (cA 0, 640, .inl (fun _ => 0))), (q26, .inl (cA 2, 9, .inr (.inl (fun _ => 0)))), (q27, .inr (4, [.ref q1, .ref q5, .ref q13, .ref q19, .ref q28, .ref q29, .ref q30])), (q28, .inl (cA 0, 80, .inl (fun _ => 0))), (q29, .inl (cA 2, 80, .inr (.inl (fun _ => 0)))), (q30, .inl (cA 0, 80, .inl (fun _ => 0))), (q31, .inr (1, [.ref q32, .ref q33, .int 0])), (q32, .inl (cA 0, 512, .inl (fun _ => 0))), (q33, .inl (cA 2, 512, .inr (.inl (fun _ => 0)))), (q34, .inr (2, [.ref q35, .ref q36, .ref q37, .ref q38])), (q35, .inl (cA 1, 8, .inl (fun _ => 0))), (q36, .inl (cA 0, 8, .inl (fun _ => 0))), (q37, .inl (cA 0, 8, .inl (fun _ => 0))), (q38, .inl (cA 0, 8, .inl (fun _ => 0))), (q39, .inr (7, [.ref q1, .ref q5, .ref q40, .ref q41, .ref q42])), (q40, .inl (cA 1, 80, .inl (fun _ => 0))), (q41, .inl (cA 0, 80, .inl (fun _ => 0))), (q42, .inr (6, [.ref q43, .ref q44, .int 0])), (q43, .inl (cA 0, 8, .inl (fun _ => 0))), (q44, .inl (cA 0, 8, .inl (fun _ => 0)))]) rfl ?_
  refine zc_cs (c' := 45) (s' := 8036) rfl rfl ?_
  refine zc_astore_n hC dL_law_7 (by decide) ?_
  refine zc_new hC nw_L_10 dL_law_8 (by decide) (by decide) (fun qm => ?_)
  refine zc_cs (c' := 46) (s' := 8073) rfl rfl ?_
  refine zc_dup hC dL_law_11 rfl ?_
  refine zc_callI (As := []) hC 45 [0, 1, 2, 3, 4, 5, 6, 7, 8, 9, 10, 11, 12, 13, 14, 15, 16, 17, 18, 19, 20, 21, 22, 23, 24, 25, 26, 27, 28, 29, 30, 31, 32, 33, 34, 35, 36, 37, 38, 39, 40, 41, 42, 43, 44] [(qx, .inr (10, [.ref q1, .ref q5, .ref q13, .ref q19, .ref q27, .ref q31, .ref q34, .ref q39, .long 0])), (q1, .inr (3, [.ref q2, .ref q3, .ref q4])), (q2, .inl (cA 0, 960, .inl (fun _ => 0))), (q3, .inl (cA 0, 960, .inl (fun _ => 0))), (q4, .inl (cA 0, 16, .inl (fun _ => 0))), (q5, .inr (5, [.int 0, .ref q6, .ref q7, .ref q8, .ref q9, .ref q10, .ref q11, .ref q12])), (q6, .inl (cA 0, 80, .inl (fun _ => 0))), (q7, .inl (cA 0, 80, .inl (fun _ => 0))), (q8, .inl (cA 0, 80, .inl (fun _ => 0))), (q9, .inl (cA 0, 80, .inl (fun _ => 0))), (q10, .inl (cA 0, 80, .inl (fun _ => 0))), (q11, .inl (cA 0, 640, .inl (fun _ => 0))), (q12, .inl (cA 0, 640, .inl (fun _ => 0))), (q13, .inr (9, [.ref q5, .ref q14, .ref q16, .ref q17, .ref q18])), (q14, .inr (8, [.ref q15])), (q15, .inl (cA 2, 640, .inr (.inl (fun _ => 0)))), (q16, .inl (cA 1, 80, .inl (fun _ => 0))), (q17, .inl (cA 0, 80, .inl (fun _ => 0))), (q18, .inl (cA 1, 80, .inl (fun _ => 0))), (q19, .inr (0, [.ref q1, .ref q5, .ref q13, .ref q20, .ref q22, .ref q24, .ref q25, .ref q26, .int 0])), (q20, .inr (8, [.ref q21])), (q21, .inl (cA 2, 640, .inr (.inl (fun _ => 0)))), (q22, .inr (8, [.ref q23])), (q23, .inl (cA 2, 640, .inr (.inl (fun _ => 0)))), (q24, .inl (cA 0, 80, .inl (fun _ => 0))), (q25, .inl (cA 0, 640, .inl (fun _ => 0))), (q26, .inl (cA 2, 9, .inr (.inl (fun _ => 0)))), (q27, .inr (4, [.ref q1, .ref q5, .ref q13, .ref q19, .ref q28, .ref q29, .ref q30])), (q28, .inl (cA 0, 80, .inl (fun _ => 0))), (q29, .inl (cA 2, 80, .inr (.inl (fun _ => 0)))), (q30, .inl (cA 0, 80, .inl (fun _ => 0))), (q31, .inr (1, [.ref q32, .ref q33, .int 0])), (q32, .inl (cA 0, 512, .inl (fun _ => 0))), (q33, .inl (cA 2, 512, .inr (.inl (fun _ => 0)))), (q34, .inr (2, [.ref q35, .ref q36, .ref q37, .ref q38])), (q35, .inl (cA 1, 8, .inl (fun _ => 0))), (q36, .inl (cA 0, 8, .inl (fun _ => 0))), (q37, .inl (cA 0, 8, .inl (fun _ => 0))), (q38, .inl (cA 0, 8, .inl (fun _ => 0))), (q39, .inr (7, [.ref q1, .ref q5, .ref q40, .ref q41, .ref q42])), (q40, .inl (cA 1, 80, .inl (fun _ => 0))), (q41, .inl (cA 0, 80, .inl (fun _ => 0))), (q42, .inr (6, [.ref q43, .ref q44, .int 0])), (q43, .inl (cA 0, 8, .inl (fun _ => 0))), (q44, .inl (cA 0, 8, .inl (fun _ => 0)))] dL_law_12 YI_X11.1 YI_X11.2 rfl rfl lkc_L_12 (by decide) rfl rfl (Nat.le_of_ble_eq_true rfl) rfl rfl (by decide) (by decide) (by decide) (by decide) (cc_X11 _ _) ?_
  rintro w ⟨qq, rfl⟩
  refine zc_cs (c' := 76) (s' := 61667) rfl rfl ?_
  refine zc_astore_n hC dL_law_15 (by decide) ?_
  refine zc_iconst (v := 0) hC dL_law_16 (by decide) ?_
  refine zc_istore_n hC dL_law_17 (by decide) ?_
  refine zc_go (lv' := [(0, .ref b), (1, .ref qx), (2, .ref qm), (3, .int 0)]) ?_ ⟨rfl, rfl, rfl, rfl, trivial⟩
  refine zs_turn (ad := zs_ad qx qm q1 q2 q3 q4 q5 q6 q7 q8 q9 q10 q11 q12 q13 q14 q15 q16 q17 q18 q19 q20 q21 q22 q23 q24 q25 q26 q27 q28 q29 q30 q31 q32 q33 q34 q35 q36 q37 q38 q39 q40 q41 q42 q43 q44 qq) (σ := zs_0) [0, 1, 2, 3, 4, 5, 6, 7, 8, 9, 10, 11, 12, 13, 14, 15, 16, 17, 18, 19, 20, 21, 22, 23, 24, 25, 26, 27, 28, 29, 30, 31, 32, 33, 34, 35, 36, 37, 38, 39, 40, 41, 42, 43, 44, 45, 46, 47, 48, 49, 50, 51, 52, 53, 54, 55, 56, 57, 58, 59, 60, 61, 62, 63, 64, 65, 66, 67, 68, 69, 70, 71, 72, 73, 74, 75] (by decide) (zs_perm cA qx qm q1 q2 q3 q4 q5 q6 q7 q8 q9 q10 q11 q12 q13 q14 q15 q16 q17 q18 q19 q20 q21 q22 q23 q24 q25 q26 q27 q28 q29 q30 q31 q32 q33 q34 q35 q36 q37 q38 q39 q40 q41 q42 q43 q44 qq) (fun hI hA => ?_)
  obtain ⟨n, hn⟩ := hpure L xs hL
  refine kL_L_law_18 (b := b) (L := L) (xs := xs) ⟨hx, hb, hml, hown, hts', hK, hI, hA, (show (76 : Nat) ≤ room_1.cells by decide), (show (61667 : Nat) ≤ room_1.slots by decide), (show (8 : Nat) ≤ room_1.frames by decide), (show (40 * 8 : Nat) ≤ room_1.locals by decide), hlocks, hr, hnv⟩ ⟨hX, hbl, Nat.not_le.mpr hbl⟩ ?_ n 0 zs_0 hn
  intro pc lv σ hd H locs ls hP1 hS1 hl1
  refine va_forget (fun q hq => hS1.2.2 q hq) ?_
  refine W.widen (k := 600000) (n := 7302250) (by decide) (by decide) ?_
  exact lw_ret hx hb hr hlocks hd
