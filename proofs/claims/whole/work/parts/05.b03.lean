-- X8_clear_22
def L_X8_clear_22_2 (Q : zv_St → Prop) : Nat → (Int32 → Int32 → zv_St → Prop)
  | 0 => fun _ _ _ => False
  | u + 1 => fun x1 x2 σ => 
    (8 ≤ x2 → (Q σ)) ∧ (¬ 8 ≤ x2 → (vp_in ((x1 * 8) + x2) 640 ∧ ∀ σ_1 : zv_St, σ_1 = zv_wl σ 23 ((x1 * 8) + x2).toNatClampNeg 0 → (L_X8_clear_22_2 Q u) x1 (x2 + 1) σ_1))
set_option maxRecDepth 20000 in
set_option maxHeartbeats 2000000 in
theorem kL_X8_clear_22_2 {G : zv_G} {X : zv_X} {Q : zv_St → Prop}  (hC : zv_C G X M_X8_clear_22) (hR : zv_R G X M_X8_clear_22 (zv_qv Q))  : ∀ (n : Nat) (x1 : Int32) (x2 : Int32) (σ : zv_St), L_X8_clear_22_2 Q  n x1 x2 σ → zv_V G X M_X8_clear_22 2 [(0, .ref (G.2.2.1 22)), (1, .int x1), (2, .int x2)] [] σ := by
  intro n
  induction n with
  | zero => intro x1 x2 σ h; exact h.elim
  | succ n hk2 =>
    intro x1 x2 σ h
    unfold L_X8_clear_22_2 at h
    refine zv_iload_n hC dX8_clear_2 rfl ?_
    refine zv_bipush (v := 8) hC dX8_clear_3 (by decide) ?_
    refine zv_icmp_ge (tgt := 26) hC dX8_clear_5 (by decide) (fun c => ?_) (fun c => ?_)
    · replace h := h.1 c
      exact (hR _ _ _).2.2.2.1 rfl dX8_clear_26 ⟨rfl, h⟩
    · replace h := h.2 c
      refine zv_aload_n hC dX8_clear_8 rfl ?_
      refine zv_getR (j := 23) hC fl_X8_9 dX8_clear_9 rfl rfl ?_
      refine zv_iload_n hC dX8_clear_12 rfl ?_
      refine zv_bipush (v := 8) hC dX8_clear_13 (by decide) ?_
      refine zv_imul hC dX8_clear_15 ?_
      refine zv_iload_n hC dX8_clear_16 rfl ?_
      refine zv_iadd hC dX8_clear_17 ?_
      refine zv_lconst (v := 0) hC dX8_clear_18 (by decide) ?_
      refine zv_last hC dX8_clear_19 rfl h.1 ?_
      replace h := h.2 _ rfl
      refine zv_iinc (v := 1) hC dX8_clear_20 rfl (by decide) (by decide) ?_
      refine zv_goto (tgt := 2) hC dX8_clear_23 (by decide) ?_
      exact zv_go (hk2 _ _ _ h) ⟨rfl, rfl, rfl, trivial⟩
def B_X8_clear_22 (Q : zv_St → Prop) (x1 : Int32) (σ : zv_St) : Prop :=
  ∃ n2, L_X8_clear_22_2 Q n2 x1 0 σ
set_option maxRecDepth 20000 in
set_option maxHeartbeats 2000000 in
theorem k_X8_clear_22_0 {G : zv_G} {X : zv_X} {Q : zv_St → Prop}  (hC : zv_C G X M_X8_clear_22) (hR : zv_R G X M_X8_clear_22 (zv_qv Q))  {x1 : Int32} {σ : zv_St} (h : B_X8_clear_22 Q  x1 σ) : zv_V G X M_X8_clear_22 0 [(0, .ref (G.2.2.1 22)), (1, .int x1)] [] σ := by
  unfold B_X8_clear_22 at h
  refine zv_iconst (v := 0) hC dX8_clear_0 (by decide) ?_
  refine zv_istore_n hC dX8_clear_1 (by decide) ?_
  obtain ⟨n, h⟩ := h
  exact zv_go (kL_X8_clear_22_2 hC hR  n _ _ _ h) ⟨rfl, rfl, rfl, trivial⟩
theorem ok_X8_clear_22 (G : zv_G) {Q : zv_St → Prop} {x1 : Int32} {σ : zv_St} (h : B_X8_clear_22 Q x1 σ) : zv_OK G M_X8_clear_22 yX8_clear [.ref (G.2.2.1 22), .int x1] σ (zv_qv Q) := zv_ok G _ _ _ _ _ (by decide +kernel) rfl (Nat.le_of_ble_eq_true rfl) (fun X hC hR => zv_go (k_X8_clear_22_0 hC hR h) ⟨rfl, rfl, trivial⟩)
-- X9_rows
def B_X9_rows (Q : zv_St → Prop) (σ : zv_St) : Prop :=
  Q σ
set_option maxRecDepth 20000 in
set_option maxHeartbeats 2000000 in
theorem k_X9_rows_0 {G : zv_G} {X : zv_X} {Q : zv_St → Prop}  (hC : zv_C G X M_X9_rows) (hR : zv_R G X M_X9_rows (zv_qr (G.2.2.1 14) Q))   {σ : zv_St} (h : B_X9_rows Q   σ) : zv_V G X M_X9_rows 0 [(0, .ref (G.2.2.1 13))] [] σ := by
  unfold B_X9_rows at h
  refine zv_aload_n hC dX9_rows_0 rfl ?_
  refine zv_getR (j := 14) hC fl_X9_12 dX9_rows_1 rfl rfl ?_
  exact (hR _ _ _).2.2.2.2 _ _ rfl dX9_rows_4 ⟨rfl, h⟩
theorem ok_X9_rows (G : zv_G) {Q : zv_St → Prop}  {σ : zv_St} (h : B_X9_rows Q  σ) : zv_OK G M_X9_rows yX9_rows [.ref (G.2.2.1 13)] σ (zv_qr (G.2.2.1 14) Q) := zv_ok G _ _ _ _ _ (by decide +kernel) rfl (Nat.le_of_ble_eq_true rfl) (fun X hC hR => zv_go (k_X9_rows_0 hC hR h) ⟨rfl, trivial⟩)
-- X8_join_20_14
def L_X8_join_20_14_3 (Q : zv_St → Prop) : Nat → (Int32 → Int32 → Int32 → zv_St → Prop)
  | 0 => fun _ _ _ _ => False
  | u + 1 => fun x1 x3 x4 σ => 
    (8 ≤ x4 → (Q σ)) ∧ (¬ 8 ≤ x4 → (vp_in ((x1 * 8) + x4) 640 ∧ vp_in ((x3 * 8) + x4) 640 ∧ vp_in ((x1 * 8) + x4) 640 ∧ ∀ σ_1 : zv_St, σ_1 = zv_wl σ 21 ((x1 * 8) + x4).toNatClampNeg ((σ.2 21 ((x1 * 8) + x4).toNatClampNeg) ||| (σ.2 15 ((x3 * 8) + x4).toNatClampNeg)) → (L_X8_join_20_14_3 Q u) x1 x3 (x4 + 1) σ_1))
set_option maxRecDepth 20000 in
set_option maxHeartbeats 2000000 in
theorem kL_X8_join_20_14_3 {G : zv_G} {X : zv_X} {Q : zv_St → Prop}  (hC : zv_C G X M_X8_join_20_14) (hR : zv_R G X M_X8_join_20_14 (zv_qv Q))  : ∀ (n : Nat) (x1 : Int32) (x3 : Int32) (x4 : Int32) (σ : zv_St), L_X8_join_20_14_3 Q  n x1 x3 x4 σ → zv_V G X M_X8_join_20_14 3 [(0, .ref (G.2.2.1 20)), (1, .int x1), (2, .ref (G.2.2.1 14)), (3, .int x3), (4, .int x4)] [] σ := by
  intro n
  induction n with
  | zero => intro x1 x3 x4 σ h; exact h.elim
  | succ n hk3 =>
    intro x1 x3 x4 σ h
    unfold L_X8_join_20_14_3 at h
    refine zv_iload hC dX8_join_3 rfl ?_
    refine zv_bipush (v := 8) hC dX8_join_5 (by decide) ?_
    refine zv_icmp_ge (tgt := 43) hC dX8_join_7 (by decide) (fun c => ?_) (fun c => ?_)
    · replace h := h.1 c
      exact (hR _ _ _).2.2.2.1 rfl dX8_join_43 ⟨rfl, h⟩
    · replace h := h.2 c
      refine zv_aload_n hC dX8_join_10 rfl ?_
      refine zv_getR (j := 21) hC fl_X8_9 dX8_join_11 rfl rfl ?_
      refine zv_iload_n hC dX8_join_14 rfl ?_
      refine zv_bipush (v := 8) hC dX8_join_15 (by decide) ?_
      refine zv_imul hC dX8_join_17 ?_
      refine zv_iload hC dX8_join_18 rfl ?_
      refine zv_iadd hC dX8_join_20 ?_
      refine zv_dup2 hC dX8_join_21 rfl rfl ?_
      refine zv_lald hC dX8_join_22 rfl h.1 ?_
      replace h := h.2
      refine zv_aload_n hC dX8_join_23 rfl ?_
      refine zv_getR (j := 15) hC fl_X8_9 dX8_join_24 rfl rfl ?_
      refine zv_iload_n hC dX8_join_27 rfl ?_
      refine zv_bipush (v := 8) hC dX8_join_28 (by decide) ?_
      refine zv_imul hC dX8_join_30 ?_
      refine zv_iload hC dX8_join_31 rfl ?_
      refine zv_iadd hC dX8_join_33 ?_
      refine zv_lald hC dX8_join_34 rfl h.1 ?_
      replace h := h.2
      refine zv_lor hC dX8_join_35 ?_
      refine zv_last hC dX8_join_36 rfl h.1 ?_
      replace h := h.2 _ rfl
      refine zv_iinc (v := 1) hC dX8_join_37 rfl (by decide) (by decide) ?_
      refine zv_goto (tgt := 3) hC dX8_join_40 (by decide) ?_
      exact zv_go (hk3 _ _ _ _ h) ⟨rfl, rfl, rfl, rfl, rfl, trivial⟩
def B_X8_join_20_14 (Q : zv_St → Prop) (x1 : Int32) (x3 : Int32) (σ : zv_St) : Prop :=
  ∃ n3, L_X8_join_20_14_3 Q n3 x1 x3 0 σ
set_option maxRecDepth 20000 in
set_option maxHeartbeats 2000000 in
theorem k_X8_join_20_14_0 {G : zv_G} {X : zv_X} {Q : zv_St → Prop}  (hC : zv_C G X M_X8_join_20_14) (hR : zv_R G X M_X8_join_20_14 (zv_qv Q))  {x1 : Int32} {x3 : Int32} {σ : zv_St} (h : B_X8_join_20_14 Q  x1 x3 σ) : zv_V G X M_X8_join_20_14 0 [(0, .ref (G.2.2.1 20)), (1, .int x1), (2, .ref (G.2.2.1 14)), (3, .int x3)] [] σ := by
  unfold B_X8_join_20_14 at h
  refine zv_iconst (v := 0) hC dX8_join_0 (by decide) ?_
  refine zv_istore hC dX8_join_1 (by decide) ?_
  obtain ⟨n, h⟩ := h
  exact zv_go (kL_X8_join_20_14_3 hC hR  n _ _ _ _ h) ⟨rfl, rfl, rfl, rfl, rfl, trivial⟩
theorem ok_X8_join_20_14 (G : zv_G) {Q : zv_St → Prop} {x1 : Int32} {x3 : Int32} {σ : zv_St} (h : B_X8_join_20_14 Q x1 x3 σ) : zv_OK G M_X8_join_20_14 yX8_join [.ref (G.2.2.1 20), .int x1, .ref (G.2.2.1 14), .int x3] σ (zv_qv Q) := zv_ok G _ _ _ _ _ (by decide +kernel) rfl (Nat.le_of_ble_eq_true rfl) (fun X hC hR => zv_go (k_X8_join_20_14_0 hC hR h) ⟨rfl, rfl, rfl, rfl, trivial⟩)
-- X8_join_22_14
def L_X8_join_22_14_3 (Q : zv_St → Prop) : Nat → (Int32 → Int32 → Int32 → zv_St → Prop)
  | 0 => fun _ _ _ _ => False
  | u + 1 => fun x1 x3 x4 σ => 
    (8 ≤ x4 → (Q σ)) ∧ (¬ 8 ≤ x4 → (vp_in ((x1 * 8) + x4) 640 ∧ vp_in ((x3 * 8) + x4) 640 ∧ vp_in ((x1 * 8) + x4) 640 ∧ ∀ σ_1 : zv_St, σ_1 = zv_wl σ 23 ((x1 * 8) + x4).toNatClampNeg ((σ.2 23 ((x1 * 8) + x4).toNatClampNeg) ||| (σ.2 15 ((x3 * 8) + x4).toNatClampNeg)) → (L_X8_join_22_14_3 Q u) x1 x3 (x4 + 1) σ_1))
set_option maxRecDepth 20000 in
set_option maxHeartbeats 2000000 in
theorem kL_X8_join_22_14_3 {G : zv_G} {X : zv_X} {Q : zv_St → Prop}  (hC : zv_C G X M_X8_join_22_14) (hR : zv_R G X M_X8_join_22_14 (zv_qv Q))  : ∀ (n : Nat) (x1 : Int32) (x3 : Int32) (x4 : Int32) (σ : zv_St), L_X8_join_22_14_3 Q  n x1 x3 x4 σ → zv_V G X M_X8_join_22_14 3 [(0, .ref (G.2.2.1 22)), (1, .int x1), (2, .ref (G.2.2.1 14)), (3, .int x3), (4, .int x4)] [] σ := by
  intro n
  induction n with
  | zero => intro x1 x3 x4 σ h; exact h.elim
  | succ n hk3 =>
    intro x1 x3 x4 σ h
    unfold L_X8_join_22_14_3 at h
    refine zv_iload hC dX8_join_3 rfl ?_
    refine zv_bipush (v := 8) hC dX8_join_5 (by decide) ?_
    refine zv_icmp_ge (tgt := 43) hC dX8_join_7 (by decide) (fun c => ?_) (fun c => ?_)
    · replace h := h.1 c
      exact (hR _ _ _).2.2.2.1 rfl dX8_join_43 ⟨rfl, h⟩
    · replace h := h.2 c
      refine zv_aload_n hC dX8_join_10 rfl ?_
      refine zv_getR (j := 23) hC fl_X8_9 dX8_join_11 rfl rfl ?_
      refine zv_iload_n hC dX8_join_14 rfl ?_
      refine zv_bipush (v := 8) hC dX8_join_15 (by decide) ?_
      refine zv_imul hC dX8_join_17 ?_
      refine zv_iload hC dX8_join_18 rfl ?_
      refine zv_iadd hC dX8_join_20 ?_
      refine zv_dup2 hC dX8_join_21 rfl rfl ?_
      refine zv_lald hC dX8_join_22 rfl h.1 ?_
      replace h := h.2
      refine zv_aload_n hC dX8_join_23 rfl ?_
      refine zv_getR (j := 15) hC fl_X8_9 dX8_join_24 rfl rfl ?_
      refine zv_iload_n hC dX8_join_27 rfl ?_
      refine zv_bipush (v := 8) hC dX8_join_28 (by decide) ?_
      refine zv_imul hC dX8_join_30 ?_
      refine zv_iload hC dX8_join_31 rfl ?_
      refine zv_iadd hC dX8_join_33 ?_
      refine zv_lald hC dX8_join_34 rfl h.1 ?_
      replace h := h.2
      refine zv_lor hC dX8_join_35 ?_
      refine zv_last hC dX8_join_36 rfl h.1 ?_
      replace h := h.2 _ rfl
      refine zv_iinc (v := 1) hC dX8_join_37 rfl (by decide) (by decide) ?_
      refine zv_goto (tgt := 3) hC dX8_join_40 (by decide) ?_
      exact zv_go (hk3 _ _ _ _ h) ⟨rfl, rfl, rfl, rfl, rfl, trivial⟩
def B_X8_join_22_14 (Q : zv_St → Prop) (x1 : Int32) (x3 : Int32) (σ : zv_St) : Prop :=
  ∃ n3, L_X8_join_22_14_3 Q n3 x1 x3 0 σ
set_option maxRecDepth 20000 in
set_option maxHeartbeats 2000000 in
theorem k_X8_join_22_14_0 {G : zv_G} {X : zv_X} {Q : zv_St → Prop}  (hC : zv_C G X M_X8_join_22_14) (hR : zv_R G X M_X8_join_22_14 (zv_qv Q))  {x1 : Int32} {x3 : Int32} {σ : zv_St} (h : B_X8_join_22_14 Q  x1 x3 σ) : zv_V G X M_X8_join_22_14 0 [(0, .ref (G.2.2.1 22)), (1, .int x1), (2, .ref (G.2.2.1 14)), (3, .int x3)] [] σ := by
  unfold B_X8_join_22_14 at h
  refine zv_iconst (v := 0) hC dX8_join_0 (by decide) ?_
  refine zv_istore hC dX8_join_1 (by decide) ?_
  obtain ⟨n, h⟩ := h
  exact zv_go (kL_X8_join_22_14_3 hC hR  n _ _ _ _ h) ⟨rfl, rfl, rfl, rfl, rfl, trivial⟩
theorem ok_X8_join_22_14 (G : zv_G) {Q : zv_St → Prop} {x1 : Int32} {x3 : Int32} {σ : zv_St} (h : B_X8_join_22_14 Q x1 x3 σ) : zv_OK G M_X8_join_22_14 yX8_join [.ref (G.2.2.1 22), .int x1, .ref (G.2.2.1 14), .int x3] σ (zv_qv Q) := zv_ok G _ _ _ _ _ (by decide +kernel) rfl (Nat.le_of_ble_eq_true rfl) (fun X hC hR => zv_go (k_X8_join_22_14_0 hC hR h) ⟨rfl, rfl, rfl, rfl, trivial⟩)
-- X8_join_20_20
def L_X8_join_20_20_3 (Q : zv_St → Prop) : Nat → (Int32 → Int32 → Int32 → zv_St → Prop)
  | 0 => fun _ _ _ _ => False
  | u + 1 => fun x1 x3 x4 σ => 
    (8 ≤ x4 → (Q σ)) ∧ (¬ 8 ≤ x4 → (vp_in ((x1 * 8) + x4) 640 ∧ vp_in ((x3 * 8) + x4) 640 ∧ vp_in ((x1 * 8) + x4) 640 ∧ ∀ σ_1 : zv_St, σ_1 = zv_wl σ 21 ((x1 * 8) + x4).toNatClampNeg ((σ.2 21 ((x1 * 8) + x4).toNatClampNeg) ||| (σ.2 21 ((x3 * 8) + x4).toNatClampNeg)) → (L_X8_join_20_20_3 Q u) x1 x3 (x4 + 1) σ_1))
set_option maxRecDepth 20000 in
set_option maxHeartbeats 2000000 in
theorem kL_X8_join_20_20_3 {G : zv_G} {X : zv_X} {Q : zv_St → Prop}  (hC : zv_C G X M_X8_join_20_20) (hR : zv_R G X M_X8_join_20_20 (zv_qv Q))  : ∀ (n : Nat) (x1 : Int32) (x3 : Int32) (x4 : Int32) (σ : zv_St), L_X8_join_20_20_3 Q  n x1 x3 x4 σ → zv_V G X M_X8_join_20_20 3 [(0, .ref (G.2.2.1 20)), (1, .int x1), (2, .ref (G.2.2.1 20)), (3, .int x3), (4, .int x4)] [] σ := by
  intro n
  induction n with
  | zero => intro x1 x3 x4 σ h; exact h.elim
  | succ n hk3 =>
    intro x1 x3 x4 σ h
    unfold L_X8_join_20_20_3 at h
    refine zv_iload hC dX8_join_3 rfl ?_
    refine zv_bipush (v := 8) hC dX8_join_5 (by decide) ?_
    refine zv_icmp_ge (tgt := 43) hC dX8_join_7 (by decide) (fun c => ?_) (fun c => ?_)
    · replace h := h.1 c
      exact (hR _ _ _).2.2.2.1 rfl dX8_join_43 ⟨rfl, h⟩
    · replace h := h.2 c
      refine zv_aload_n hC dX8_join_10 rfl ?_
      refine zv_getR (j := 21) hC fl_X8_9 dX8_join_11 rfl rfl ?_
      refine zv_iload_n hC dX8_join_14 rfl ?_
      refine zv_bipush (v := 8) hC dX8_join_15 (by decide) ?_
      refine zv_imul hC dX8_join_17 ?_
      refine zv_iload hC dX8_join_18 rfl ?_
      refine zv_iadd hC dX8_join_20 ?_
      refine zv_dup2 hC dX8_join_21 rfl rfl ?_
      refine zv_lald hC dX8_join_22 rfl h.1 ?_
      replace h := h.2
      refine zv_aload_n hC dX8_join_23 rfl ?_
      refine zv_getR (j := 21) hC fl_X8_9 dX8_join_24 rfl rfl ?_
      refine zv_iload_n hC dX8_join_27 rfl ?_
      refine zv_bipush (v := 8) hC dX8_join_28 (by decide) ?_
      refine zv_imul hC dX8_join_30 ?_
      refine zv_iload hC dX8_join_31 rfl ?_
      refine zv_iadd hC dX8_join_33 ?_
      refine zv_lald hC dX8_join_34 rfl h.1 ?_
      replace h := h.2
      refine zv_lor hC dX8_join_35 ?_
      refine zv_last hC dX8_join_36 rfl h.1 ?_
      replace h := h.2 _ rfl
      refine zv_iinc (v := 1) hC dX8_join_37 rfl (by decide) (by decide) ?_
      refine zv_goto (tgt := 3) hC dX8_join_40 (by decide) ?_
      exact zv_go (hk3 _ _ _ _ h) ⟨rfl, rfl, rfl, rfl, rfl, trivial⟩
def B_X8_join_20_20 (Q : zv_St → Prop) (x1 : Int32) (x3 : Int32) (σ : zv_St) : Prop :=
  ∃ n3, L_X8_join_20_20_3 Q n3 x1 x3 0 σ
set_option maxRecDepth 20000 in
set_option maxHeartbeats 2000000 in
theorem k_X8_join_20_20_0 {G : zv_G} {X : zv_X} {Q : zv_St → Prop}  (hC : zv_C G X M_X8_join_20_20) (hR : zv_R G X M_X8_join_20_20 (zv_qv Q))  {x1 : Int32} {x3 : Int32} {σ : zv_St} (h : B_X8_join_20_20 Q  x1 x3 σ) : zv_V G X M_X8_join_20_20 0 [(0, .ref (G.2.2.1 20)), (1, .int x1), (2, .ref (G.2.2.1 20)), (3, .int x3)] [] σ := by
  unfold B_X8_join_20_20 at h
  refine zv_iconst (v := 0) hC dX8_join_0 (by decide) ?_
  refine zv_istore hC dX8_join_1 (by decide) ?_
  obtain ⟨n, h⟩ := h
  exact zv_go (kL_X8_join_20_20_3 hC hR  n _ _ _ _ h) ⟨rfl, rfl, rfl, rfl, rfl, trivial⟩
theorem ok_X8_join_20_20 (G : zv_G) {Q : zv_St → Prop} {x1 : Int32} {x3 : Int32} {σ : zv_St} (h : B_X8_join_20_20 Q x1 x3 σ) : zv_OK G M_X8_join_20_20 yX8_join [.ref (G.2.2.1 20), .int x1, .ref (G.2.2.1 20), .int x3] σ (zv_qv Q) := zv_ok G _ _ _ _ _ (by decide +kernel) rfl (Nat.le_of_ble_eq_true rfl) (fun X hC hR => zv_go (k_X8_join_20_20_0 hC hR h) ⟨rfl, rfl, rfl, rfl, trivial⟩)
-- X8_join_22_22
def L_X8_join_22_22_3 (Q : zv_St → Prop) : Nat → (Int32 → Int32 → Int32 → zv_St → Prop)
  | 0 => fun _ _ _ _ => False
  | u + 1 => fun x1 x3 x4 σ => 
    (8 ≤ x4 → (Q σ)) ∧ (¬ 8 ≤ x4 → (vp_in ((x1 * 8) + x4) 640 ∧ vp_in ((x3 * 8) + x4) 640 ∧ vp_in ((x1 * 8) + x4) 640 ∧ ∀ σ_1 : zv_St, σ_1 = zv_wl σ 23 ((x1 * 8) + x4).toNatClampNeg ((σ.2 23 ((x1 * 8) + x4).toNatClampNeg) ||| (σ.2 23 ((x3 * 8) + x4).toNatClampNeg)) → (L_X8_join_22_22_3 Q u) x1 x3 (x4 + 1) σ_1))
set_option maxRecDepth 20000 in
set_option maxHeartbeats 2000000 in
theorem kL_X8_join_22_22_3 {G : zv_G} {X : zv_X} {Q : zv_St → Prop}  (hC : zv_C G X M_X8_join_22_22) (hR : zv_R G X M_X8_join_22_22 (zv_qv Q))  : ∀ (n : Nat) (x1 : Int32) (x3 : Int32) (x4 : Int32) (σ : zv_St), L_X8_join_22_22_3 Q  n x1 x3 x4 σ → zv_V G X M_X8_join_22_22 3 [(0, .ref (G.2.2.1 22)), (1, .int x1), (2, .ref (G.2.2.1 22)), (3, .int x3), (4, .int x4)] [] σ := by
  intro n
  induction n with
  | zero => intro x1 x3 x4 σ h; exact h.elim
  | succ n hk3 =>
    intro x1 x3 x4 σ h
    unfold L_X8_join_22_22_3 at h
    refine zv_iload hC dX8_join_3 rfl ?_
    refine zv_bipush (v := 8) hC dX8_join_5 (by decide) ?_
    refine zv_icmp_ge (tgt := 43) hC dX8_join_7 (by decide) (fun c => ?_) (fun c => ?_)
    · replace h := h.1 c
      exact (hR _ _ _).2.2.2.1 rfl dX8_join_43 ⟨rfl, h⟩
    · replace h := h.2 c
      refine zv_aload_n hC dX8_join_10 rfl ?_
      refine zv_getR (j := 23) hC fl_X8_9 dX8_join_11 rfl rfl ?_
      refine zv_iload_n hC dX8_join_14 rfl ?_
      refine zv_bipush (v := 8) hC dX8_join_15 (by decide) ?_
      refine zv_imul hC dX8_join_17 ?_
      refine zv_iload hC dX8_join_18 rfl ?_
      refine zv_iadd hC dX8_join_20 ?_
      refine zv_dup2 hC dX8_join_21 rfl rfl ?_
      refine zv_lald hC dX8_join_22 rfl h.1 ?_
      replace h := h.2
      refine zv_aload_n hC dX8_join_23 rfl ?_
      refine zv_getR (j := 23) hC fl_X8_9 dX8_join_24 rfl rfl ?_
      refine zv_iload_n hC dX8_join_27 rfl ?_
      refine zv_bipush (v := 8) hC dX8_join_28 (by decide) ?_
      refine zv_imul hC dX8_join_30 ?_
      refine zv_iload hC dX8_join_31 rfl ?_
      refine zv_iadd hC dX8_join_33 ?_
      refine zv_lald hC dX8_join_34 rfl h.1 ?_
      replace h := h.2
      refine zv_lor hC dX8_join_35 ?_
      refine zv_last hC dX8_join_36 rfl h.1 ?_
      replace h := h.2 _ rfl
      refine zv_iinc (v := 1) hC dX8_join_37 rfl (by decide) (by decide) ?_
      refine zv_goto (tgt := 3) hC dX8_join_40 (by decide) ?_
      exact zv_go (hk3 _ _ _ _ h) ⟨rfl, rfl, rfl, rfl, rfl, trivial⟩
def B_X8_join_22_22 (Q : zv_St → Prop) (x1 : Int32) (x3 : Int32) (σ : zv_St) : Prop :=
  ∃ n3, L_X8_join_22_22_3 Q n3 x1 x3 0 σ
set_option maxRecDepth 20000 in
set_option maxHeartbeats 2000000 in
theorem k_X8_join_22_22_0 {G : zv_G} {X : zv_X} {Q : zv_St → Prop}  (hC : zv_C G X M_X8_join_22_22) (hR : zv_R G X M_X8_join_22_22 (zv_qv Q))  {x1 : Int32} {x3 : Int32} {σ : zv_St} (h : B_X8_join_22_22 Q  x1 x3 σ) : zv_V G X M_X8_join_22_22 0 [(0, .ref (G.2.2.1 22)), (1, .int x1), (2, .ref (G.2.2.1 22)), (3, .int x3)] [] σ := by
  unfold B_X8_join_22_22 at h
  refine zv_iconst (v := 0) hC dX8_join_0 (by decide) ?_
  refine zv_istore hC dX8_join_1 (by decide) ?_
  obtain ⟨n, h⟩ := h
  exact zv_go (kL_X8_join_22_22_3 hC hR  n _ _ _ _ h) ⟨rfl, rfl, rfl, rfl, rfl, trivial⟩
theorem ok_X8_join_22_22 (G : zv_G) {Q : zv_St → Prop} {x1 : Int32} {x3 : Int32} {σ : zv_St} (h : B_X8_join_22_22 Q x1 x3 σ) : zv_OK G M_X8_join_22_22 yX8_join [.ref (G.2.2.1 22), .int x1, .ref (G.2.2.1 22), .int x3] σ (zv_qv Q) := zv_ok G _ _ _ _ _ (by decide +kernel) rfl (Nat.le_of_ble_eq_true rfl) (fun X hC hR => zv_go (k_X8_join_22_22_0 hC hR h) ⟨rfl, rfl, rfl, rfl, trivial⟩)
-- X0_joinParts
def L_X0_joinParts_2 (Q : zv_St → Prop) : Nat → (Int32 → Int32 → zv_St → Prop)
  | 0 => fun _ _ _ => False
  | u + 1 => fun x1 x2 σ => 
    B_X5_size (fun r_2 σ_1 => (r_2 ≤ x2 → (Q σ_1)) ∧ (¬ r_2 ≤ x2 → (B_X5_partAt (fun r_4 σ_3 => B_X8_join_20_20 (fun σ_5 => B_X5_partAt (fun r_7 σ_6 => B_X8_join_22_22 (fun σ_8 => (L_X0_joinParts_2 Q u) x1 (x2 + 1) σ_8) x1 r_7 σ_6) x1 x2 σ_5) x1 r_4 σ_3) x1 x2 σ_1))) x1 σ
set_option maxRecDepth 20000 in
set_option maxHeartbeats 2000000 in
theorem kL_X0_joinParts_2 {G : zv_G} {X : zv_X} {Q : zv_St → Prop}  (hC : zv_C G X M_X0_joinParts) (hR : zv_R G X M_X0_joinParts (zv_qv Q))  : ∀ (n : Nat) (x1 : Int32) (x2 : Int32) (σ : zv_St), L_X0_joinParts_2 Q  n x1 x2 σ → zv_V G X M_X0_joinParts 2 [(0, .ref (G.2.2.1 19)), (1, .int x1), (2, .int x2)] [] σ := by
  intro n
  induction n with
  | zero => intro x1 x2 σ h; exact h.elim
  | succ n hk2 =>
    intro x1 x2 σ h
    unfold L_X0_joinParts_2 at h
    refine zv_iload_n hC dX0_joinParts_2 rfl ?_
    refine zv_aload_n hC dX0_joinParts_3 rfl ?_
    refine zv_getR (j := 5) hC fl_X0_36 dX0_joinParts_4 rfl rfl ?_
    refine zv_iload_n hC dX0_joinParts_7 rfl ?_
    refine zv_callVi (As := [_]) hC dX0_joinParts_8 Y_X5_size lk_X0_133 (by decide) rfl rfl rfl (Nat.le_of_ble_eq_true rfl) (ok_X5_size G h) ?_
    intro r_2 σ_1 h
    refine zv_icmp_ge (tgt := 62) hC dX0_joinParts_11 (by decide) (fun c => ?_) (fun c => ?_)
    · replace h := h.1 c
      exact (hR _ _ _).2.2.2.1 rfl dX0_joinParts_62 ⟨rfl, h⟩
    · replace h := h.2 c
      refine zv_aload_n hC dX0_joinParts_14 rfl ?_
      refine zv_getR (j := 20) hC fl_X0_12 dX0_joinParts_15 rfl rfl ?_
      refine zv_iload_n hC dX0_joinParts_18 rfl ?_
      refine zv_aload_n hC dX0_joinParts_19 rfl ?_
      refine zv_getR (j := 20) hC fl_X0_12 dX0_joinParts_20 rfl rfl ?_
      refine zv_aload_n hC dX0_joinParts_23 rfl ?_
      refine zv_getR (j := 5) hC fl_X0_36 dX0_joinParts_24 rfl rfl ?_
      refine zv_iload_n hC dX0_joinParts_27 rfl ?_
      refine zv_iload_n hC dX0_joinParts_28 rfl ?_
      refine zv_callVi (As := [_, _]) hC dX0_joinParts_29 Y_X5_partAt lk_X0_92 (by decide) rfl rfl rfl (Nat.le_of_ble_eq_true rfl) (ok_X5_partAt G h) ?_
      intro r_4 σ_3 h
      refine zv_callVv (As := [_, _, _]) hC dX0_joinParts_32 Y_X8_join lk_X0_95 (by decide) rfl rfl rfl (Nat.le_of_ble_eq_true rfl) (ok_X8_join_20_20 G h) ?_
      intro σ_5 h
      refine zv_aload_n hC dX0_joinParts_35 rfl ?_
      refine zv_getR (j := 22) hC fl_X0_18 dX0_joinParts_36 rfl rfl ?_
      refine zv_iload_n hC dX0_joinParts_39 rfl ?_
      refine zv_aload_n hC dX0_joinParts_40 rfl ?_
      refine zv_getR (j := 22) hC fl_X0_18 dX0_joinParts_41 rfl rfl ?_
      refine zv_aload_n hC dX0_joinParts_44 rfl ?_
      refine zv_getR (j := 5) hC fl_X0_36 dX0_joinParts_45 rfl rfl ?_
      refine zv_iload_n hC dX0_joinParts_48 rfl ?_
      refine zv_iload_n hC dX0_joinParts_49 rfl ?_
      refine zv_callVi (As := [_, _]) hC dX0_joinParts_50 Y_X5_partAt lk_X0_92 (by decide) rfl rfl rfl (Nat.le_of_ble_eq_true rfl) (ok_X5_partAt G h) ?_
      intro r_7 σ_6 h
      refine zv_callVv (As := [_, _, _]) hC dX0_joinParts_53 Y_X8_join lk_X0_95 (by decide) rfl rfl rfl (Nat.le_of_ble_eq_true rfl) (ok_X8_join_22_22 G h) ?_
      intro σ_8 h
      refine zv_iinc (v := 1) hC dX0_joinParts_56 rfl (by decide) (by decide) ?_
      refine zv_goto (tgt := 2) hC dX0_joinParts_59 (by decide) ?_
      exact zv_go (hk2 _ _ _ h) ⟨rfl, rfl, rfl, trivial⟩
def B_X0_joinParts (Q : zv_St → Prop) (x1 : Int32) (σ : zv_St) : Prop :=
  ∃ n2, L_X0_joinParts_2 Q n2 x1 0 σ
set_option maxRecDepth 20000 in
set_option maxHeartbeats 2000000 in
theorem k_X0_joinParts_0 {G : zv_G} {X : zv_X} {Q : zv_St → Prop}  (hC : zv_C G X M_X0_joinParts) (hR : zv_R G X M_X0_joinParts (zv_qv Q))  {x1 : Int32} {σ : zv_St} (h : B_X0_joinParts Q  x1 σ) : zv_V G X M_X0_joinParts 0 [(0, .ref (G.2.2.1 19)), (1, .int x1)] [] σ := by
  unfold B_X0_joinParts at h
  refine zv_iconst (v := 0) hC dX0_joinParts_0 (by decide) ?_
  refine zv_istore_n hC dX0_joinParts_1 (by decide) ?_
  obtain ⟨n, h⟩ := h
  exact zv_go (kL_X0_joinParts_2 hC hR  n _ _ _ h) ⟨rfl, rfl, rfl, trivial⟩
theorem ok_X0_joinParts (G : zv_G) {Q : zv_St → Prop} {x1 : Int32} {σ : zv_St} (h : B_X0_joinParts Q x1 σ) : zv_OK G M_X0_joinParts yX0_joinParts [.ref (G.2.2.1 19), .int x1] σ (zv_qv Q) := zv_ok G _ _ _ _ _ (by decide +kernel) rfl (Nat.le_of_ble_eq_true rfl) (fun X hC hR => zv_go (k_X0_joinParts_0 hC hR h) ⟨rfl, rfl, trivial⟩)
-- X0_fillByKept
def B_X0_fillByKept_51 (Q : zv_St → Prop) (σ : zv_St) : Prop :=
  Q σ
set_option maxRecDepth 20000 in
set_option maxHeartbeats 2000000 in
theorem k_X0_fillByKept_51 {G : zv_G} {X : zv_X} {Q : zv_St → Prop}  (hC : zv_C G X M_X0_fillByKept) (hR : zv_R G X M_X0_fillByKept (zv_qv Q))   {σ : zv_St} (h : B_X0_fillByKept_51 Q   σ) : zv_V G X M_X0_fillByKept 51 [] [] σ := by
  unfold B_X0_fillByKept_51 at h
  exact (hR _ _ _).2.2.2.1 rfl dX0_fillByKept_51 ⟨rfl, h⟩
def B_X0_fillByKept (Q : zv_St → Prop) (x1 : Int32) (σ : zv_St) : Prop :=
  B_X9_isThere (fun r_2 σ_1 => (r_2 = 0 → (B_X0_joinParts (fun σ_3 => B_X0_fillByKept_51 Q σ_3) x1 σ_1)) ∧ (¬ r_2 = 0 → (B_X9_rows (fun σ_4 => B_X8_join_20_14 (fun σ_5 => B_X9_rows (fun σ_6 => B_X8_join_22_14 (fun σ_7 => B_X0_fillByKept_51 Q σ_7) x1 x1 σ_6) σ_5) x1 x1 σ_4) σ_1))) x1 σ
set_option maxRecDepth 20000 in
set_option maxHeartbeats 2000000 in
theorem k_X0_fillByKept_0 {G : zv_G} {X : zv_X} {Q : zv_St → Prop}  (hC : zv_C G X M_X0_fillByKept) (hR : zv_R G X M_X0_fillByKept (zv_qv Q))  {x1 : Int32} {σ : zv_St} (h : B_X0_fillByKept Q  x1 σ) : zv_V G X M_X0_fillByKept 0 [(0, .ref (G.2.2.1 19)), (1, .int x1)] [] σ := by
  unfold B_X0_fillByKept at h
  refine zv_aload_n hC dX0_fillByKept_0 rfl ?_
  refine zv_getR (j := 13) hC fl_X0_40 dX0_fillByKept_1 rfl rfl ?_
  refine zv_iload_n hC dX0_fillByKept_4 rfl ?_
  refine zv_callVi (As := [_]) hC dX0_fillByKept_5 Y_X9_isThere lk_X0_123 (by decide) rfl rfl rfl (Nat.le_of_ble_eq_true rfl) (ok_X9_isThere G h) ?_
  intro r_2 σ_1 h
  refine zv_if_eq (tgt := 46) hC dX0_fillByKept_8 (by decide) (fun c => ?_) (fun c => ?_)
  · replace h := h.1 c
    refine zv_aload_n hC dX0_fillByKept_46 rfl ?_
    refine zv_iload_n hC dX0_fillByKept_47 rfl ?_
    refine zv_callVv (As := [_]) hC dX0_fillByKept_48 Y_X0_joinParts lk_X0_99 (by decide) rfl rfl rfl (Nat.le_of_ble_eq_true rfl) (ok_X0_joinParts G h) ?_
    intro σ_3 h
    exact zv_go (k_X0_fillByKept_51 hC hR  h) trivial
  · replace h := h.2 c
    refine zv_aload_n hC dX0_fillByKept_11 rfl ?_
    refine zv_getR (j := 20) hC fl_X0_12 dX0_fillByKept_12 rfl rfl ?_
    refine zv_iload_n hC dX0_fillByKept_15 rfl ?_
    refine zv_aload_n hC dX0_fillByKept_16 rfl ?_
    refine zv_getR (j := 13) hC fl_X0_40 dX0_fillByKept_17 rfl rfl ?_
    refine zv_callVr (As := []) hC dX0_fillByKept_20 Y_X9_rows lk_X0_129 (by decide) rfl rfl rfl (Nat.le_of_ble_eq_true rfl) (ok_X9_rows G h) ?_
    intro σ_4 h
    refine zv_iload_n hC dX0_fillByKept_23 rfl ?_
    refine zv_callVv (As := [_, _, _]) hC dX0_fillByKept_24 Y_X8_join lk_X0_95 (by decide) rfl rfl rfl (Nat.le_of_ble_eq_true rfl) (ok_X8_join_20_14 G h) ?_
    intro σ_5 h
    refine zv_aload_n hC dX0_fillByKept_27 rfl ?_
    refine zv_getR (j := 22) hC fl_X0_18 dX0_fillByKept_28 rfl rfl ?_
    refine zv_iload_n hC dX0_fillByKept_31 rfl ?_
    refine zv_aload_n hC dX0_fillByKept_32 rfl ?_
    refine zv_getR (j := 13) hC fl_X0_40 dX0_fillByKept_33 rfl rfl ?_
    refine zv_callVr (As := []) hC dX0_fillByKept_36 Y_X9_rows lk_X0_129 (by decide) rfl rfl rfl (Nat.le_of_ble_eq_true rfl) (ok_X9_rows G h) ?_
    intro σ_6 h
    refine zv_iload_n hC dX0_fillByKept_39 rfl ?_
    refine zv_callVv (As := [_, _, _]) hC dX0_fillByKept_40 Y_X8_join lk_X0_95 (by decide) rfl rfl rfl (Nat.le_of_ble_eq_true rfl) (ok_X8_join_22_14 G h) ?_
    intro σ_7 h
    refine zv_goto (tgt := 51) hC dX0_fillByKept_43 (by decide) ?_
    exact zv_go (k_X0_fillByKept_51 hC hR  h) trivial
theorem ok_X0_fillByKept (G : zv_G) {Q : zv_St → Prop} {x1 : Int32} {σ : zv_St} (h : B_X0_fillByKept Q x1 σ) : zv_OK G M_X0_fillByKept yX0_fillByKept [.ref (G.2.2.1 19), .int x1] σ (zv_qv Q) := zv_ok G _ _ _ _ _ (by decide +kernel) rfl (Nat.le_of_ble_eq_true rfl) (fun X hC hR => zv_go (k_X0_fillByKept_0 hC hR h) ⟨rfl, rfl, trivial⟩)
-- X5_roleAt
def B_X5_roleAt (Q : Int32 → zv_St → Prop) (x1 : Int32) (x2 : Int32) (σ : zv_St) : Prop :=
  vp_in ((x1 * 8) + x2) 640 ∧ Q (σ.1 11 ((x1 * 8) + x2).toNatClampNeg) σ
set_option maxRecDepth 20000 in
set_option maxHeartbeats 2000000 in
theorem k_X5_roleAt_0 {G : zv_G} {X : zv_X} {Q : Int32 → zv_St → Prop}  (hC : zv_C G X M_X5_roleAt) (hR : zv_R G X M_X5_roleAt (zv_qi Q))  {x1 : Int32} {x2 : Int32} {σ : zv_St} (h : B_X5_roleAt Q  x1 x2 σ) : zv_V G X M_X5_roleAt 0 [(0, .ref (G.2.2.1 5)), (1, .int x1), (2, .int x2)] [] σ := by
  unfold B_X5_roleAt at h
  refine zv_aload_n hC dX5_roleAt_0 rfl ?_
  refine zv_getR (j := 11) hC fl_X5_27 dX5_roleAt_1 rfl rfl ?_
  refine zv_iload_n hC dX5_roleAt_4 rfl ?_
  refine zv_bipush (v := 8) hC dX5_roleAt_5 (by decide) ?_
  refine zv_imul hC dX5_roleAt_7 ?_
  refine zv_iload_n hC dX5_roleAt_8 rfl ?_
  refine zv_iadd hC dX5_roleAt_9 ?_
  refine zv_iald hC dX5_roleAt_10 rfl h.1 ?_
  replace h := h.2
  exact (hR _ _ _).1 _ rfl dX5_roleAt_11 ⟨_, rfl, h⟩
theorem ok_X5_roleAt (G : zv_G) {Q : Int32 → zv_St → Prop} {x1 : Int32} {x2 : Int32} {σ : zv_St} (h : B_X5_roleAt Q x1 x2 σ) : zv_OK G M_X5_roleAt yX5_roleAt [.ref (G.2.2.1 5), .int x1, .int x2] σ (zv_qi Q) := zv_ok G _ _ _ _ _ (by decide +kernel) rfl (Nat.le_of_ble_eq_true rfl) (fun X hC hR => zv_go (k_X5_roleAt_0 hC hR h) ⟨rfl, rfl, rfl, trivial⟩)
-- X5_countOf
def B_X5_countOf_30 (Q : Int32 → zv_St → Prop) (kk5 : Int32 → Int32 → Int32 → Int32 → zv_St → Prop) (x1 : Int32) (x2 : Int32) (x3 : Int32) (x4 : Int32) (σ : zv_St) : Prop :=
  kk5 x1 x2 x3 (x4 + 1) σ
set_option maxRecDepth 20000 in
set_option maxHeartbeats 2000000 in
theorem k_X5_countOf_30 {G : zv_G} {X : zv_X} {Q : Int32 → zv_St → Prop} {kk5 : Int32 → Int32 → Int32 → Int32 → zv_St → Prop} (hC : zv_C G X M_X5_countOf) (hR : zv_R G X M_X5_countOf (zv_qi Q)) (hk5 : ∀ (x1 : Int32) (x2 : Int32) (x3 : Int32) (x4 : Int32) (σ : zv_St), kk5 x1 x2 x3 x4 σ → zv_V G X M_X5_countOf 5 [(0, .ref (G.2.2.1 5)), (1, .int x1), (2, .int x2), (3, .int x3), (4, .int x4)] [] σ) {x1 : Int32} {x2 : Int32} {x3 : Int32} {x4 : Int32} {σ : zv_St} (h : B_X5_countOf_30 Q kk5 x1 x2 x3 x4 σ) : zv_V G X M_X5_countOf 30 [(0, .ref (G.2.2.1 5)), (1, .int x1), (2, .int x2), (3, .int x3), (4, .int x4)] [] σ := by
  unfold B_X5_countOf_30 at h
  refine zv_iinc (v := 1) hC dX5_countOf_30 rfl (by decide) (by decide) ?_
  refine zv_goto (tgt := 5) hC dX5_countOf_33 (by decide) ?_
  exact zv_go (hk5 _ _ _ _ _ h) ⟨rfl, rfl, rfl, rfl, rfl, trivial⟩
def L_X5_countOf_5 (Q : Int32 → zv_St → Prop) : Nat → (Int32 → Int32 → Int32 → Int32 → zv_St → Prop)
  | 0 => fun _ _ _ _ _ => False
  | u + 1 => fun x1 x2 x3 x4 σ => 
    vp_in x1 80 ∧ ((σ.1 10 x1.toNatClampNeg) ≤ x4 → (Q x3 σ)) ∧ (¬ (σ.1 10 x1.toNatClampNeg) ≤ x4 → (B_X5_roleAt (fun r_2 σ_1 => (¬ r_2 = x2 → (B_X5_countOf_30 Q (L_X5_countOf_5 Q u) x1 x2 x3 x4 σ_1)) ∧ (r_2 = x2 → (B_X5_countOf_30 Q (L_X5_countOf_5 Q u) x1 x2 (x3 + 1) x4 σ_1))) x1 x4 σ))
set_option maxRecDepth 20000 in
set_option maxHeartbeats 2000000 in
theorem kL_X5_countOf_5 {G : zv_G} {X : zv_X} {Q : Int32 → zv_St → Prop}  (hC : zv_C G X M_X5_countOf) (hR : zv_R G X M_X5_countOf (zv_qi Q))  : ∀ (n : Nat) (x1 : Int32) (x2 : Int32) (x3 : Int32) (x4 : Int32) (σ : zv_St), L_X5_countOf_5 Q  n x1 x2 x3 x4 σ → zv_V G X M_X5_countOf 5 [(0, .ref (G.2.2.1 5)), (1, .int x1), (2, .int x2), (3, .int x3), (4, .int x4)] [] σ := by
  intro n
  induction n with
  | zero => intro x1 x2 x3 x4 σ h; exact h.elim
  | succ n hk5 =>
    intro x1 x2 x3 x4 σ h
    unfold L_X5_countOf_5 at h
    refine zv_iload hC dX5_countOf_5 rfl ?_
    refine zv_aload_n hC dX5_countOf_7 rfl ?_
    refine zv_getR (j := 10) hC fl_X5_24 dX5_countOf_8 rfl rfl ?_
    refine zv_iload_n hC dX5_countOf_11 rfl ?_
    refine zv_iald hC dX5_countOf_12 rfl h.1 ?_
    replace h := h.2
    refine zv_icmp_ge (tgt := 36) hC dX5_countOf_13 (by decide) (fun c => ?_) (fun c => ?_)
    · replace h := h.1 c
      refine zv_iload_n hC dX5_countOf_36 rfl ?_
      exact (hR _ _ _).1 _ rfl dX5_countOf_37 ⟨_, rfl, h⟩
    · replace h := h.2 c
      refine zv_aload_n hC dX5_countOf_16 rfl ?_
      refine zv_iload_n hC dX5_countOf_17 rfl ?_
      refine zv_iload hC dX5_countOf_18 rfl ?_
      refine zv_callVi (As := [_, _]) hC dX5_countOf_20 Y_X5_roleAt lk_X5_41 (by decide) rfl rfl rfl (Nat.le_of_ble_eq_true rfl) (ok_X5_roleAt G h) ?_
      intro r_2 σ_1 h
      refine zv_iload_n hC dX5_countOf_23 rfl ?_
      refine zv_icmp_ne (tgt := 30) hC dX5_countOf_24 (by decide) (fun c => ?_) (fun c => ?_)
      · replace h := h.1 c
        exact zv_go (k_X5_countOf_30 hC hR hk5 h) ⟨rfl, rfl, rfl, rfl, rfl, trivial⟩
      · replace h := h.2 c
        refine zv_iinc (v := 1) hC dX5_countOf_27 rfl (by decide) (by decide) ?_
        exact zv_go (k_X5_countOf_30 hC hR hk5 h) ⟨rfl, rfl, rfl, rfl, rfl, trivial⟩
def B_X5_countOf (Q : Int32 → zv_St → Prop) (x1 : Int32) (x2 : Int32) (σ : zv_St) : Prop :=
  ∃ n5, L_X5_countOf_5 Q n5 x1 x2 0 0 σ
set_option maxRecDepth 20000 in
set_option maxHeartbeats 2000000 in
theorem k_X5_countOf_0 {G : zv_G} {X : zv_X} {Q : Int32 → zv_St → Prop}  (hC : zv_C G X M_X5_countOf) (hR : zv_R G X M_X5_countOf (zv_qi Q))  {x1 : Int32} {x2 : Int32} {σ : zv_St} (h : B_X5_countOf Q  x1 x2 σ) : zv_V G X M_X5_countOf 0 [(0, .ref (G.2.2.1 5)), (1, .int x1), (2, .int x2)] [] σ := by
  unfold B_X5_countOf at h
  refine zv_iconst (v := 0) hC dX5_countOf_0 (by decide) ?_
  refine zv_istore_n hC dX5_countOf_1 (by decide) ?_
  refine zv_iconst (v := 0) hC dX5_countOf_2 (by decide) ?_
  refine zv_istore hC dX5_countOf_3 (by decide) ?_
  obtain ⟨n, h⟩ := h
  exact zv_go (kL_X5_countOf_5 hC hR  n _ _ _ _ _ h) ⟨rfl, rfl, rfl, rfl, rfl, trivial⟩
theorem ok_X5_countOf (G : zv_G) {Q : Int32 → zv_St → Prop} {x1 : Int32} {x2 : Int32} {σ : zv_St} (h : B_X5_countOf Q x1 x2 σ) : zv_OK G M_X5_countOf yX5_countOf [.ref (G.2.2.1 5), .int x1, .int x2] σ (zv_qi Q) := zv_ok G _ _ _ _ _ (by decide +kernel) rfl (Nat.le_of_ble_eq_true rfl) (fun X hC hR => zv_go (k_X5_countOf_0 hC hR h) ⟨rfl, rfl, rfl, trivial⟩)
-- J9_max_7cf53
def B_J9_max_7cf53_10 (Q : Int32 → zv_St → Prop) (y0 : Int32) (σ : zv_St) : Prop :=
  Q y0 σ
set_option maxRecDepth 20000 in
set_option maxHeartbeats 2000000 in
theorem k_J9_max_7cf53_10 {G : zv_G} {X : zv_X} {Q : Int32 → zv_St → Prop}  (hC : zv_C G X M_J9_max_7cf53) (hR : zv_R G X M_J9_max_7cf53 (zv_qi Q))  {y0 : Int32} {σ : zv_St} (h : B_J9_max_7cf53_10 Q  y0 σ) : zv_V G X M_J9_max_7cf53 10 [] [.int y0] σ := by
  unfold B_J9_max_7cf53_10 at h
  exact (hR _ _ _).1 _ rfl dJ9_max_7cf53_10 ⟨_, rfl, h⟩
def B_J9_max_7cf53 (Q : Int32 → zv_St → Prop) (x0 : Int32) (x1 : Int32) (σ : zv_St) : Prop :=
  (x0 < x1 → (B_J9_max_7cf53_10 Q x1 σ)) ∧ (¬ x0 < x1 → (B_J9_max_7cf53_10 Q x0 σ))
set_option maxRecDepth 20000 in
set_option maxHeartbeats 2000000 in
theorem k_J9_max_7cf53_0 {G : zv_G} {X : zv_X} {Q : Int32 → zv_St → Prop}  (hC : zv_C G X M_J9_max_7cf53) (hR : zv_R G X M_J9_max_7cf53 (zv_qi Q))  {x0 : Int32} {x1 : Int32} {σ : zv_St} (h : B_J9_max_7cf53 Q  x0 x1 σ) : zv_V G X M_J9_max_7cf53 0 [(0, .int x0), (1, .int x1)] [] σ := by
  unfold B_J9_max_7cf53 at h
  refine zv_iload_n hC dJ9_max_7cf53_0 rfl ?_
  refine zv_iload_n hC dJ9_max_7cf53_1 rfl ?_
  refine zv_icmp_lt (tgt := 9) hC dJ9_max_7cf53_2 (by decide) (fun c => ?_) (fun c => ?_)
  · replace h := h.1 c
    refine zv_iload_n hC dJ9_max_7cf53_9 rfl ?_
    exact zv_go (k_J9_max_7cf53_10 hC hR  h) trivial
  · replace h := h.2 c
    refine zv_iload_n hC dJ9_max_7cf53_5 rfl ?_
    refine zv_goto (tgt := 10) hC dJ9_max_7cf53_6 (by decide) ?_
    exact zv_go (k_J9_max_7cf53_10 hC hR  h) trivial
theorem ok_J9_max_7cf53 (G : zv_G) {Q : Int32 → zv_St → Prop} {x0 : Int32} {x1 : Int32} {σ : zv_St} (h : B_J9_max_7cf53 Q x0 x1 σ) : zv_OK G M_J9_max_7cf53 yJ9_max_7cf53 [.int x0, .int x1] σ (zv_qi Q) := zv_ok G _ _ _ _ _ (by decide +kernel) rfl (Nat.le_of_ble_eq_true rfl) (fun X hC hR => zv_go (k_J9_max_7cf53_0 hC hR h) ⟨rfl, rfl, trivial⟩)
-- X5_leastOf
def B_X5_leastOf_47 (Q : Int32 → zv_St → Prop) (y0 : Int32) (σ : zv_St) : Prop :=
  Q y0 σ
set_option maxRecDepth 20000 in
set_option maxHeartbeats 2000000 in
theorem k_X5_leastOf_47 {G : zv_G} {X : zv_X} {Q : Int32 → zv_St → Prop}  (hC : zv_C G X M_X5_leastOf) (hR : zv_R G X M_X5_leastOf (zv_qi Q))  {y0 : Int32} {σ : zv_St} (h : B_X5_leastOf_47 Q  y0 σ) : zv_V G X M_X5_leastOf 47 [] [.int y0] σ := by
  unfold B_X5_leastOf_47 at h
  exact (hR _ _ _).1 _ rfl dX5_leastOf_47 ⟨_, rfl, h⟩
def B_X5_leastOf_23 (Q : Int32 → zv_St → Prop) (x1 : Int32) (y0 : Int32) (σ : zv_St) : Prop :=
  (y0 = 0 → (vp_in x1 80 ∧ B_X5_leastOf_47 Q (σ.1 7 x1.toNatClampNeg) σ)) ∧ (¬ y0 = 0 → (vp_in x1 80 ∧ B_J9_max_7cf53 (fun r_2 σ_1 => B_X5_leastOf_47 Q r_2 σ_1) (σ.1 7 x1.toNatClampNeg) 1 σ))
set_option maxRecDepth 20000 in
set_option maxHeartbeats 2000000 in
theorem k_X5_leastOf_23 {G : zv_G} {X : zv_X} {Q : Int32 → zv_St → Prop}  (hC : zv_C G X M_X5_leastOf) (hR : zv_R G X M_X5_leastOf (zv_qi Q))  {x1 : Int32} {y0 : Int32} {σ : zv_St} (h : B_X5_leastOf_23 Q  x1 y0 σ) : zv_V G X M_X5_leastOf 23 [(0, .ref (G.2.2.1 5)), (1, .int x1)] [.int y0] σ := by
  unfold B_X5_leastOf_23 at h
  refine zv_istore_n hC dX5_leastOf_23 (by decide) ?_
  refine zv_iload_n hC dX5_leastOf_24 rfl ?_
  refine zv_if_eq (tgt := 41) hC dX5_leastOf_25 (by decide) (fun c => ?_) (fun c => ?_)
  · replace h := h.1 c
    refine zv_aload_n hC dX5_leastOf_41 rfl ?_
    refine zv_getR (j := 7) hC fl_X5_15 dX5_leastOf_42 rfl rfl ?_
    refine zv_iload_n hC dX5_leastOf_45 rfl ?_
    refine zv_iald hC dX5_leastOf_46 rfl h.1 ?_
    replace h := h.2
    exact zv_go (k_X5_leastOf_47 hC hR  h) trivial
  · replace h := h.2 c
    refine zv_aload_n hC dX5_leastOf_28 rfl ?_
    refine zv_getR (j := 7) hC fl_X5_15 dX5_leastOf_29 rfl rfl ?_
    refine zv_iload_n hC dX5_leastOf_32 rfl ?_
    refine zv_iald hC dX5_leastOf_33 rfl h.1 ?_
    replace h := h.2
    refine zv_iconst (v := 1) hC dX5_leastOf_34 (by decide) ?_
    refine zv_callSi (As := [_, _]) hC dX5_leastOf_35 Y_J9_max_7cf53 lk_X5_48 (by decide) rfl rfl (Nat.le_of_ble_eq_true rfl) (ok_J9_max_7cf53 G h) ?_
    intro r_2 σ_1 h
    refine zv_goto (tgt := 47) hC dX5_leastOf_38 (by decide) ?_
    exact zv_go (k_X5_leastOf_47 hC hR  h) trivial
def B_X5_leastOf_22 (Q : Int32 → zv_St → Prop) (x1 : Int32) (σ : zv_St) : Prop :=
  B_X5_leastOf_23 Q x1 0 σ
set_option maxRecDepth 20000 in
set_option maxHeartbeats 2000000 in
theorem k_X5_leastOf_22 {G : zv_G} {X : zv_X} {Q : Int32 → zv_St → Prop}  (hC : zv_C G X M_X5_leastOf) (hR : zv_R G X M_X5_leastOf (zv_qi Q))  {x1 : Int32} {σ : zv_St} (h : B_X5_leastOf_22 Q  x1 σ) : zv_V G X M_X5_leastOf 22 [(0, .ref (G.2.2.1 5)), (1, .int x1)] [] σ := by
  unfold B_X5_leastOf_22 at h
  refine zv_iconst (v := 0) hC dX5_leastOf_22 (by decide) ?_
  exact zv_go (k_X5_leastOf_23 hC hR  h) ⟨rfl, rfl, trivial⟩
def B_X5_leastOf (Q : Int32 → zv_St → Prop) (x1 : Int32) (σ : zv_St) : Prop :=
  B_X5_countOf (fun r_2 σ_1 => (¬ r_2 = 0 → (B_X5_leastOf_22 Q x1 σ_1)) ∧ (r_2 = 0 → (B_X5_countOf (fun r_4 σ_3 => (¬ r_4 = 0 → (B_X5_leastOf_22 Q x1 σ_3)) ∧ (r_4 = 0 → (B_X5_leastOf_23 Q x1 1 σ_3))) x1 1 σ_1))) x1 0 σ
set_option maxRecDepth 20000 in
set_option maxHeartbeats 2000000 in
theorem k_X5_leastOf_0 {G : zv_G} {X : zv_X} {Q : Int32 → zv_St → Prop}  (hC : zv_C G X M_X5_leastOf) (hR : zv_R G X M_X5_leastOf (zv_qi Q))  {x1 : Int32} {σ : zv_St} (h : B_X5_leastOf Q  x1 σ) : zv_V G X M_X5_leastOf 0 [(0, .ref (G.2.2.1 5)), (1, .int x1)] [] σ := by
  unfold B_X5_leastOf at h
  refine zv_aload_n hC dX5_leastOf_0 rfl ?_
  refine zv_iload_n hC dX5_leastOf_1 rfl ?_
  refine zv_iconst (v := 0) hC dX5_leastOf_2 (by decide) ?_
  refine zv_callVi (As := [_, _]) hC dX5_leastOf_3 Y_X5_countOf lk_X5_45 (by decide) rfl rfl rfl (Nat.le_of_ble_eq_true rfl) (ok_X5_countOf G h) ?_
  intro r_2 σ_1 h
  refine zv_if_ne (tgt := 22) hC dX5_leastOf_6 (by decide) (fun c => ?_) (fun c => ?_)
  · replace h := h.1 c
    exact zv_go (k_X5_leastOf_22 hC hR  h) ⟨rfl, rfl, trivial⟩
  · replace h := h.2 c
    refine zv_aload_n hC dX5_leastOf_9 rfl ?_
    refine zv_iload_n hC dX5_leastOf_10 rfl ?_
    refine zv_iconst (v := 1) hC dX5_leastOf_11 (by decide) ?_
    refine zv_callVi (As := [_, _]) hC dX5_leastOf_12 Y_X5_countOf lk_X5_45 (by decide) rfl rfl rfl (Nat.le_of_ble_eq_true rfl) (ok_X5_countOf G h) ?_
    intro r_4 σ_3 h
    refine zv_if_ne (tgt := 22) hC dX5_leastOf_15 (by decide) (fun c => ?_) (fun c => ?_)
    · replace h := h.1 c
      exact zv_go (k_X5_leastOf_22 hC hR  h) ⟨rfl, rfl, trivial⟩
    · replace h := h.2 c
      refine zv_iconst (v := 1) hC dX5_leastOf_18 (by decide) ?_
      refine zv_goto (tgt := 23) hC dX5_leastOf_19 (by decide) ?_
      exact zv_go (k_X5_leastOf_23 hC hR  h) ⟨rfl, rfl, trivial⟩
theorem ok_X5_leastOf (G : zv_G) {Q : Int32 → zv_St → Prop} {x1 : Int32} {σ : zv_St} (h : B_X5_leastOf Q x1 σ) : zv_OK G M_X5_leastOf yX5_leastOf [.ref (G.2.2.1 5), .int x1] σ (zv_qi Q) := zv_ok G _ _ _ _ _ (by decide +kernel) rfl (Nat.le_of_ble_eq_true rfl) (fun X hC hR => zv_go (k_X5_leastOf_0 hC hR h) ⟨rfl, rfl, trivial⟩)
-- J7_fill_d0a16
def L_J7_fill_d0a16_6 (Q : zv_St → Prop) : Nat → (Int64 → Int32 → Int32 → zv_St → Prop)
  | 0 => fun _ _ _ _ => False
  | u + 1 => fun x1 x3 x4 σ => 
    (x4 ≤ x3 → (Q σ)) ∧ (¬ x4 ≤ x3 → (vp_in x3 9 ∧ ∀ σ_1 : zv_St, σ_1 = zv_wl σ 26 x3.toNatClampNeg x1 → (L_J7_fill_d0a16_6 Q u) x1 (x3 + 1) x4 σ_1))
set_option maxRecDepth 20000 in
set_option maxHeartbeats 2000000 in
theorem kL_J7_fill_d0a16_6 {G : zv_G} {X : zv_X} {Q : zv_St → Prop}  (hC : zv_C G X M_J7_fill_d0a16) (hR : zv_R G X M_J7_fill_d0a16 (zv_qv Q))  : ∀ (n : Nat) (x1 : Int64) (x3 : Int32) (x4 : Int32) (σ : zv_St), L_J7_fill_d0a16_6 Q  n x1 x3 x4 σ → zv_V G X M_J7_fill_d0a16 6 [(0, .ref (G.2.2.1 26)), (1, .long x1), (3, .int x3), (4, .int x4)] [] σ := by
  intro n
  induction n with
  | zero => intro x1 x3 x4 σ h; exact h.elim
  | succ n hk6 =>
    intro x1 x3 x4 σ h
    unfold L_J7_fill_d0a16_6 at h
    refine zv_iload_n hC dJ7_fill_d0a16_6 rfl ?_
    refine zv_iload hC dJ7_fill_d0a16_7 rfl ?_
    refine zv_icmp_ge (tgt := 22) hC dJ7_fill_d0a16_9 (by decide) (fun c => ?_) (fun c => ?_)
    · replace h := h.1 c
      exact (hR _ _ _).2.2.2.1 rfl dJ7_fill_d0a16_22 ⟨rfl, h⟩
    · replace h := h.2 c
      refine zv_aload_n hC dJ7_fill_d0a16_12 rfl ?_
      refine zv_iload_n hC dJ7_fill_d0a16_13 rfl ?_
      refine zv_lload_n hC dJ7_fill_d0a16_14 rfl ?_
      refine zv_last hC dJ7_fill_d0a16_15 rfl h.1 ?_
      replace h := h.2 _ rfl
      refine zv_iinc (v := 1) hC dJ7_fill_d0a16_16 rfl (by decide) (by decide) ?_
      refine zv_goto (tgt := 6) hC dJ7_fill_d0a16_19 (by decide) ?_
      exact zv_go (hk6 _ _ _ _ h) ⟨rfl, rfl, rfl, rfl, trivial⟩
def B_J7_fill_d0a16 (Q : zv_St → Prop) (x1 : Int64) (σ : zv_St) : Prop :=
  ∃ n6, L_J7_fill_d0a16_6 Q n6 x1 0 9 σ
set_option maxRecDepth 20000 in
set_option maxHeartbeats 2000000 in
theorem k_J7_fill_d0a16_0 {G : zv_G} {X : zv_X} {Q : zv_St → Prop}  (hC : zv_C G X M_J7_fill_d0a16) (hR : zv_R G X M_J7_fill_d0a16 (zv_qv Q))  {x1 : Int64} {σ : zv_St} (h : B_J7_fill_d0a16 Q  x1 σ) : zv_V G X M_J7_fill_d0a16 0 [(0, .ref (G.2.2.1 26)), (1, .long x1)] [] σ := by
  unfold B_J7_fill_d0a16 at h
  refine zv_iconst (v := 0) hC dJ7_fill_d0a16_0 (by decide) ?_
  refine zv_istore_n hC dJ7_fill_d0a16_1 (by decide) ?_
  refine zv_aload_n hC dJ7_fill_d0a16_2 rfl ?_
  refine zv_alen (v := 9) hC dJ7_fill_d0a16_3 rfl (by decide) (by decide) ?_
  refine zv_istore hC dJ7_fill_d0a16_4 (by decide) ?_
  obtain ⟨n, h⟩ := h
  exact zv_go (kL_J7_fill_d0a16_6 hC hR  n _ _ _ _ h) ⟨rfl, rfl, rfl, rfl, trivial⟩
theorem ok_J7_fill_d0a16 (G : zv_G) {Q : zv_St → Prop} {x1 : Int64} {σ : zv_St} (h : B_J7_fill_d0a16 Q x1 σ) : zv_OK G M_J7_fill_d0a16 yJ7_fill_d0a16 [.ref (G.2.2.1 26), .long x1] σ (zv_qv Q) := zv_ok G _ _ _ _ _ (by decide +kernel) rfl (Nat.le_of_ble_eq_true rfl) (fun X hC hR => zv_go (k_J7_fill_d0a16_0 hC hR h) ⟨rfl, rfl, trivial⟩)
-- X8_word_22
def B_X8_word_22 (Q : Int64 → zv_St → Prop) (x1 : Int32) (x2 : Int32) (σ : zv_St) : Prop :=
  vp_in ((x1 * 8) + x2) 640 ∧ Q (σ.2 23 ((x1 * 8) + x2).toNatClampNeg) σ
set_option maxRecDepth 20000 in
set_option maxHeartbeats 2000000 in
theorem k_X8_word_22_0 {G : zv_G} {X : zv_X} {Q : Int64 → zv_St → Prop}  (hC : zv_C G X M_X8_word_22) (hR : zv_R G X M_X8_word_22 (zv_ql Q))  {x1 : Int32} {x2 : Int32} {σ : zv_St} (h : B_X8_word_22 Q  x1 x2 σ) : zv_V G X M_X8_word_22 0 [(0, .ref (G.2.2.1 22)), (1, .int x1), (2, .int x2)] [] σ := by
  unfold B_X8_word_22 at h
  refine zv_aload_n hC dX8_word_0 rfl ?_
  refine zv_getR (j := 23) hC fl_X8_9 dX8_word_1 rfl rfl ?_
  refine zv_iload_n hC dX8_word_4 rfl ?_
  refine zv_bipush (v := 8) hC dX8_word_5 (by decide) ?_
  refine zv_imul hC dX8_word_7 ?_
  refine zv_iload_n hC dX8_word_8 rfl ?_
  refine zv_iadd hC dX8_word_9 ?_
  refine zv_lald hC dX8_word_10 rfl h.1 ?_
  replace h := h.2
  exact (hR _ _ _).2.2.1 _ rfl dX8_word_11 ⟨_, rfl, h⟩
theorem ok_X8_word_22 (G : zv_G) {Q : Int64 → zv_St → Prop} {x1 : Int32} {x2 : Int32} {σ : zv_St} (h : B_X8_word_22 Q x1 x2 σ) : zv_OK G M_X8_word_22 yX8_word [.ref (G.2.2.1 22), .int x1, .int x2] σ (zv_ql Q) := zv_ok G _ _ _ _ _ (by decide +kernel) rfl (Nat.le_of_ble_eq_true rfl) (fun X hC hR => zv_go (k_X8_word_22_0 hC hR h) ⟨rfl, rfl, rfl, trivial⟩)
-- X8_word_20
def B_X8_word_20 (Q : Int64 → zv_St → Prop) (x1 : Int32) (x2 : Int32) (σ : zv_St) : Prop :=
  vp_in ((x1 * 8) + x2) 640 ∧ Q (σ.2 21 ((x1 * 8) + x2).toNatClampNeg) σ
set_option maxRecDepth 20000 in
set_option maxHeartbeats 2000000 in
theorem k_X8_word_20_0 {G : zv_G} {X : zv_X} {Q : Int64 → zv_St → Prop}  (hC : zv_C G X M_X8_word_20) (hR : zv_R G X M_X8_word_20 (zv_ql Q))  {x1 : Int32} {x2 : Int32} {σ : zv_St} (h : B_X8_word_20 Q  x1 x2 σ) : zv_V G X M_X8_word_20 0 [(0, .ref (G.2.2.1 20)), (1, .int x1), (2, .int x2)] [] σ := by
  unfold B_X8_word_20 at h
  refine zv_aload_n hC dX8_word_0 rfl ?_
  refine zv_getR (j := 21) hC fl_X8_9 dX8_word_1 rfl rfl ?_
  refine zv_iload_n hC dX8_word_4 rfl ?_
  refine zv_bipush (v := 8) hC dX8_word_5 (by decide) ?_
  refine zv_imul hC dX8_word_7 ?_
  refine zv_iload_n hC dX8_word_8 rfl ?_
  refine zv_iadd hC dX8_word_9 ?_
  refine zv_lald hC dX8_word_10 rfl h.1 ?_
  replace h := h.2
  exact (hR _ _ _).2.2.1 _ rfl dX8_word_11 ⟨_, rfl, h⟩
theorem ok_X8_word_20 (G : zv_G) {Q : Int64 → zv_St → Prop} {x1 : Int32} {x2 : Int32} {σ : zv_St} (h : B_X8_word_20 Q x1 x2 σ) : zv_OK G M_X8_word_20 yX8_word [.ref (G.2.2.1 20), .int x1, .int x2] σ (zv_ql Q) := zv_ok G _ _ _ _ _ (by decide +kernel) rfl (Nat.le_of_ble_eq_true rfl) (fun X hC hR => zv_go (k_X8_word_20_0 hC hR h) ⟨rfl, rfl, rfl, trivial⟩)
-- X0_countIn
def L_X0_countIn_3 (Q : zv_St → Prop) : Nat → (Int64 → Int32 → zv_St → Prop)
  | 0 => fun _ _ _ => False
  | u + 1 => fun x1 x4 σ => 
    (x4 ≤ 0 → (Q σ)) ∧ (¬ x4 ≤ 0 → (vp_in x4 9 ∧ vp_in (x4 - 1) 9 ∧ vp_in x4 9 ∧ ∀ σ_1 : zv_St, σ_1 = zv_wl σ 26 x4.toNatClampNeg ((σ.2 26 x4.toNatClampNeg) ||| ((σ.2 26 (x4 - 1).toNatClampNeg) &&& x1)) → (L_X0_countIn_3 Q u) x1 (x4 + (-1)) σ_1))
set_option maxRecDepth 20000 in
set_option maxHeartbeats 2000000 in
theorem kL_X0_countIn_3 {G : zv_G} {X : zv_X} {Q : zv_St → Prop}  (hC : zv_C G X M_X0_countIn) (hR : zv_R G X M_X0_countIn (zv_qv Q))  : ∀ (n : Nat) (x1 : Int64) (x4 : Int32) (σ : zv_St), L_X0_countIn_3 Q  n x1 x4 σ → zv_V G X M_X0_countIn 3 [(0, .ref (G.2.2.1 19)), (1, .long x1), (4, .int x4)] [] σ := by
  intro n
  induction n with
  | zero => intro x1 x4 σ h; exact h.elim
  | succ n hk3 =>
    intro x1 x4 σ h
    unfold L_X0_countIn_3 at h
    refine zv_iload hC dX0_countIn_3 rfl ?_
    refine zv_if_le (tgt := 35) hC dX0_countIn_5 (by decide) (fun c => ?_) (fun c => ?_)
    · replace h := h.1 c
      exact (hR _ _ _).2.2.2.1 rfl dX0_countIn_35 ⟨rfl, h⟩
    · replace h := h.2 c
      refine zv_aload_n hC dX0_countIn_8 rfl ?_
      refine zv_getR (j := 26) hC fl_X0_28 dX0_countIn_9 rfl rfl ?_
      refine zv_iload hC dX0_countIn_12 rfl ?_
      refine zv_dup2 hC dX0_countIn_14 rfl rfl ?_
      refine zv_lald hC dX0_countIn_15 rfl h.1 ?_
      replace h := h.2
      refine zv_aload_n hC dX0_countIn_16 rfl ?_
      refine zv_getR (j := 26) hC fl_X0_28 dX0_countIn_17 rfl rfl ?_
      refine zv_iload hC dX0_countIn_20 rfl ?_
      refine zv_iconst (v := 1) hC dX0_countIn_22 (by decide) ?_
      refine zv_isub hC dX0_countIn_23 ?_
      refine zv_lald hC dX0_countIn_24 rfl h.1 ?_
      replace h := h.2
      refine zv_lload_n hC dX0_countIn_25 rfl ?_
      refine zv_land hC dX0_countIn_26 ?_
      refine zv_lor hC dX0_countIn_27 ?_
      refine zv_last hC dX0_countIn_28 rfl h.1 ?_
      replace h := h.2 _ rfl
      refine zv_iinc (v := (-1)) hC dX0_countIn_29 rfl (by decide) (by decide) ?_
      refine zv_goto (tgt := 3) hC dX0_countIn_32 (by decide) ?_
      exact zv_go (hk3 _ _ _ h) ⟨rfl, rfl, rfl, trivial⟩
def B_X0_countIn (Q : zv_St → Prop) (x1 : Int64) (x3 : Int32) (σ : zv_St) : Prop :=
  ∃ n3, L_X0_countIn_3 Q n3 x1 x3 σ
set_option maxRecDepth 20000 in
set_option maxHeartbeats 2000000 in
theorem k_X0_countIn_0 {G : zv_G} {X : zv_X} {Q : zv_St → Prop}  (hC : zv_C G X M_X0_countIn) (hR : zv_R G X M_X0_countIn (zv_qv Q))  {x1 : Int64} {x3 : Int32} {σ : zv_St} (h : B_X0_countIn Q  x1 x3 σ) : zv_V G X M_X0_countIn 0 [(0, .ref (G.2.2.1 19)), (1, .long x1), (3, .int x3)] [] σ := by
  unfold B_X0_countIn at h
  refine zv_iload_n hC dX0_countIn_0 rfl ?_
  refine zv_istore hC dX0_countIn_1 (by decide) ?_
  obtain ⟨n, h⟩ := h
  exact zv_go (kL_X0_countIn_3 hC hR  n _ _ _ h) ⟨rfl, rfl, rfl, trivial⟩
theorem ok_X0_countIn (G : zv_G) {Q : zv_St → Prop} {x1 : Int64} {x3 : Int32} {σ : zv_St} (h : B_X0_countIn Q x1 x3 σ) : zv_OK G M_X0_countIn yX0_countIn [.ref (G.2.2.1 19), .long x1, .int x3] σ (zv_qv Q) := zv_ok G _ _ _ _ _ (by decide +kernel) rfl (Nat.le_of_ble_eq_true rfl) (fun X hC hR => zv_go (k_X0_countIn_0 hC hR h) ⟨rfl, rfl, rfl, trivial⟩)
-- X0_boolWord_19_20_22
def B_X0_boolWord_19_20_22_123 (Q : Int64 → zv_St → Prop) (kk25 : Int32 → Int32 → Int32 → Int64 → Int32 → zv_St → Prop) (x1 : Int32) (x2 : Int32) (x3 : Int32) (x6 : Int64) (x8 : Int32) (σ : zv_St) : Prop :=
  kk25 x1 x2 x3 x6 (x8 + 1) σ
set_option maxRecDepth 20000 in
set_option maxHeartbeats 2000000 in
theorem k_X0_boolWord_19_20_22_123 {G : zv_G} {X : zv_X} {Q : Int64 → zv_St → Prop} {kk25 : Int32 → Int32 → Int32 → Int64 → Int32 → zv_St → Prop} (hC : zv_C G X M_X0_boolWord_19_20_22) (hR : zv_R G X M_X0_boolWord_19_20_22 (zv_ql Q)) (hk25 : ∀ (x1 : Int32) (x2 : Int32) (x3 : Int32) (x6 : Int64) (x8 : Int32) (σ : zv_St), kk25 x1 x2 x3 x6 x8 σ → zv_V G X M_X0_boolWord_19_20_22 25 [(0, .ref (G.2.2.1 19)), (1, .int x1), (2, .int x2), (3, .int x3), (4, .ref (G.2.2.1 20)), (5, .ref (G.2.2.1 22)), (6, .long x6), (8, .int x8)] [] σ) {x1 : Int32} {x2 : Int32} {x3 : Int32} {x6 : Int64} {x8 : Int32} {σ : zv_St} (h : B_X0_boolWord_19_20_22_123 Q kk25 x1 x2 x3 x6 x8 σ) : zv_V G X M_X0_boolWord_19_20_22 123 [(0, .ref (G.2.2.1 19)), (1, .int x1), (2, .int x2), (3, .int x3), (4, .ref (G.2.2.1 20)), (5, .ref (G.2.2.1 22)), (6, .long x6), (8, .int x8)] [] σ := by
  unfold B_X0_boolWord_19_20_22_123 at h
  refine zv_iinc (v := 1) hC dX0_boolWord_123 rfl (by decide) (by decide) ?_
  refine zv_goto (tgt := 25) hC dX0_boolWord_126 (by decide) ?_
  exact zv_go (hk25 _ _ _ _ _ _ h) ⟨rfl, rfl, rfl, rfl, rfl, rfl, rfl, rfl, trivial⟩
def L_X0_boolWord_19_20_22_25 (Q : Int64 → zv_St → Prop) : Nat → (Int32 → Int32 → Int32 → Int64 → Int32 → zv_St → Prop)
  | 0 => fun _ _ _ _ _ _ => False
  | u + 1 => fun x1 x2 x3 x6 x8 σ => 
    B_X5_size (fun r_2 σ_1 => (r_2 ≤ x8 → (vp_in x3 9 ∧ Q (x6 &&& (σ_1.2 26 x3.toNatClampNeg)) σ_1)) ∧ (¬ r_2 ≤ x8 → (B_X5_partAt (fun r_4 σ_3 => B_X5_roleAt (fun r_6 σ_5 => (¬ r_6 = 2 → ((¬ r_6 = 3 → (B_X8_word_20 (fun r_8 σ_7 => B_X0_boolWord_19_20_22_123 Q (L_X0_boolWord_19_20_22_25 Q u) x1 x2 x3 (x6 &&& r_8) x8 σ_7) r_4 x2 σ_5)) ∧ (r_6 = 3 → (B_X8_word_20 (fun r_10 σ_9 => B_X0_countIn (fun σ_11 => B_X0_boolWord_19_20_22_123 Q (L_X0_boolWord_19_20_22_25 Q u) x1 x2 x3 x6 x8 σ_11) r_10 x3 σ_9) r_4 x2 σ_5)))) ∧ (r_6 = 2 → (B_X8_word_22 (fun r_13 σ_12 => B_X0_boolWord_19_20_22_123 Q (L_X0_boolWord_19_20_22_25 Q u) x1 x2 x3 (x6 &&& (r_13 ^^^ (-1))) x8 σ_12) r_4 x2 σ_5))) x1 x8 σ_3) x1 x8 σ_1))) x1 σ
set_option maxRecDepth 20000 in
set_option maxHeartbeats 2000000 in
theorem kL_X0_boolWord_19_20_22_25 {G : zv_G} {X : zv_X} {Q : Int64 → zv_St → Prop}  (hC : zv_C G X M_X0_boolWord_19_20_22) (hR : zv_R G X M_X0_boolWord_19_20_22 (zv_ql Q))  : ∀ (n : Nat) (x1 : Int32) (x2 : Int32) (x3 : Int32) (x6 : Int64) (x8 : Int32) (σ : zv_St), L_X0_boolWord_19_20_22_25 Q  n x1 x2 x3 x6 x8 σ → zv_V G X M_X0_boolWord_19_20_22 25 [(0, .ref (G.2.2.1 19)), (1, .int x1), (2, .int x2), (3, .int x3), (4, .ref (G.2.2.1 20)), (5, .ref (G.2.2.1 22)), (6, .long x6), (8, .int x8)] [] σ := by
  intro n
  induction n with
  | zero => intro x1 x2 x3 x6 x8 σ h; exact h.elim
  | succ n hk25 =>
    intro x1 x2 x3 x6 x8 σ h
    unfold L_X0_boolWord_19_20_22_25 at h
    refine zv_iload hC dX0_boolWord_25 rfl ?_
    refine zv_aload_n hC dX0_boolWord_27 rfl ?_
    refine zv_getR (j := 5) hC fl_X0_36 dX0_boolWord_28 rfl rfl ?_
    refine zv_iload_n hC dX0_boolWord_31 rfl ?_
    refine zv_callVi (As := [_]) hC dX0_boolWord_32 Y_X5_size lk_X0_133 (by decide) rfl rfl rfl (Nat.le_of_ble_eq_true rfl) (ok_X5_size G h) ?_
    intro r_2 σ_1 h
    refine zv_icmp_ge (tgt := 129) hC dX0_boolWord_35 (by decide) (fun c => ?_) (fun c => ?_)
    · replace h := h.1 c
      refine zv_lload hC dX0_boolWord_129 rfl ?_
      refine zv_aload_n hC dX0_boolWord_131 rfl ?_
      refine zv_getR (j := 26) hC fl_X0_28 dX0_boolWord_132 rfl rfl ?_
      refine zv_iload_n hC dX0_boolWord_135 rfl ?_
      refine zv_lald hC dX0_boolWord_136 rfl h.1 ?_
      replace h := h.2
      refine zv_land hC dX0_boolWord_137 ?_
      exact (hR _ _ _).2.2.1 _ rfl dX0_boolWord_138 ⟨_, rfl, h⟩
    · replace h := h.2 c
      refine zv_aload_n hC dX0_boolWord_38 rfl ?_
      refine zv_getR (j := 5) hC fl_X0_36 dX0_boolWord_39 rfl rfl ?_
      refine zv_iload_n hC dX0_boolWord_42 rfl ?_
      refine zv_iload hC dX0_boolWord_43 rfl ?_
      refine zv_callVi (As := [_, _]) hC dX0_boolWord_45 Y_X5_partAt lk_X0_92 (by decide) rfl rfl rfl (Nat.le_of_ble_eq_true rfl) (ok_X5_partAt G h) ?_
      intro r_4 σ_3 h
      refine zv_istore hC dX0_boolWord_48 (by decide) ?_
      refine zv_aload_n hC dX0_boolWord_50 rfl ?_
      refine zv_getR (j := 5) hC fl_X0_36 dX0_boolWord_51 rfl rfl ?_
      refine zv_iload_n hC dX0_boolWord_54 rfl ?_
      refine zv_iload hC dX0_boolWord_55 rfl ?_
      refine zv_callVi (As := [_, _]) hC dX0_boolWord_57 Y_X5_roleAt lk_X0_153 (by decide) rfl rfl rfl (Nat.le_of_ble_eq_true rfl) (ok_X5_roleAt G h) ?_
      intro r_6 σ_5 h
      refine zv_istore hC dX0_boolWord_60 (by decide) ?_
      refine zv_iload hC dX0_boolWord_62 rfl ?_
      refine zv_iconst (v := 2) hC dX0_boolWord_64 (by decide) ?_
      refine zv_icmp_ne (tgt := 88) hC dX0_boolWord_65 (by decide) (fun c => ?_) (fun c => ?_)
      · replace h := h.1 c
        refine zv_iload hC dX0_boolWord_88 rfl ?_
        refine zv_iconst (v := 3) hC dX0_boolWord_90 (by decide) ?_
        refine zv_icmp_ne (tgt := 110) hC dX0_boolWord_91 (by decide) (fun c => ?_) (fun c => ?_)
        · replace h := h.1 c
          refine zv_lload hC dX0_boolWord_110 rfl ?_
          refine zv_aload hC dX0_boolWord_112 rfl ?_
          refine zv_iload hC dX0_boolWord_114 rfl ?_
          refine zv_iload_n hC dX0_boolWord_116 rfl ?_
          refine zv_callVl (As := [_, _]) hC dX0_boolWord_117 Y_X8_word lk_X0_156 (by decide) rfl rfl rfl (Nat.le_of_ble_eq_true rfl) (ok_X8_word_20 G h) ?_
          intro r_8 σ_7 h
          refine zv_land hC dX0_boolWord_120 ?_
          refine zv_lstore hC dX0_boolWord_121 (by decide) ?_
          exact zv_go (k_X0_boolWord_19_20_22_123 hC hR hk25 h) ⟨rfl, rfl, rfl, rfl, rfl, rfl, rfl, rfl, trivial⟩
        · replace h := h.2 c
          refine zv_aload_n hC dX0_boolWord_94 rfl ?_
          refine zv_aload hC dX0_boolWord_95 rfl ?_
          refine zv_iload hC dX0_boolWord_97 rfl ?_
          refine zv_iload_n hC dX0_boolWord_99 rfl ?_
          refine zv_callVl (As := [_, _]) hC dX0_boolWord_100 Y_X8_word lk_X0_156 (by decide) rfl rfl rfl (Nat.le_of_ble_eq_true rfl) (ok_X8_word_20 G h) ?_
          intro r_10 σ_9 h
          refine zv_iload_n hC dX0_boolWord_103 rfl ?_
          refine zv_callVv (As := [_, _]) hC dX0_boolWord_104 Y_X0_countIn lk_X0_160 (by decide) rfl rfl rfl (Nat.le_of_ble_eq_true rfl) (ok_X0_countIn G h) ?_
          intro σ_11 h
          refine zv_goto (tgt := 123) hC dX0_boolWord_107 (by decide) ?_
          exact zv_go (k_X0_boolWord_19_20_22_123 hC hR hk25 h) ⟨rfl, rfl, rfl, rfl, rfl, rfl, rfl, rfl, trivial⟩
      · replace h := h.2 c
        refine zv_lload hC dX0_boolWord_68 rfl ?_
        refine zv_aload hC dX0_boolWord_70 rfl ?_
        refine zv_iload hC dX0_boolWord_72 rfl ?_
        refine zv_iload_n hC dX0_boolWord_74 rfl ?_
        refine zv_callVl (As := [_, _]) hC dX0_boolWord_75 Y_X8_word lk_X0_156 (by decide) rfl rfl rfl (Nat.le_of_ble_eq_true rfl) (ok_X8_word_22 G h) ?_
        intro r_13 σ_12 h
        refine zv_ldc2 hC dX0_boolWord_78 cst_X0_145 ?_
        refine zv_lxor hC dX0_boolWord_81 ?_
        refine zv_land hC dX0_boolWord_82 ?_
        refine zv_lstore hC dX0_boolWord_83 (by decide) ?_
        refine zv_goto (tgt := 123) hC dX0_boolWord_85 (by decide) ?_
        exact zv_go (k_X0_boolWord_19_20_22_123 hC hR hk25 h) ⟨rfl, rfl, rfl, rfl, rfl, rfl, rfl, rfl, trivial⟩
def B_X0_boolWord_19_20_22 (Q : Int64 → zv_St → Prop) (x1 : Int32) (x2 : Int32) (x3 : Int32) (σ : zv_St) : Prop :=
  B_J7_fill_d0a16 (fun σ_1 => vp_in 0 9 ∧ ∀ σ_2 : zv_St, σ_2 = zv_wl σ_1 26 (0 : Int32).toNatClampNeg (-1) → ∃ n25, L_X0_boolWord_19_20_22_25 Q n25 x1 x2 x3 (-1) 0 σ_2) 0 σ
set_option maxRecDepth 20000 in
set_option maxHeartbeats 2000000 in
theorem k_X0_boolWord_19_20_22_0 {G : zv_G} {X : zv_X} {Q : Int64 → zv_St → Prop}  (hC : zv_C G X M_X0_boolWord_19_20_22) (hR : zv_R G X M_X0_boolWord_19_20_22 (zv_ql Q))  {x1 : Int32} {x2 : Int32} {x3 : Int32} {σ : zv_St} (h : B_X0_boolWord_19_20_22 Q  x1 x2 x3 σ) : zv_V G X M_X0_boolWord_19_20_22 0 [(0, .ref (G.2.2.1 19)), (1, .int x1), (2, .int x2), (3, .int x3), (4, .ref (G.2.2.1 20)), (5, .ref (G.2.2.1 22))] [] σ := by
  unfold B_X0_boolWord_19_20_22 at h
  refine zv_ldc2 hC dX0_boolWord_0 cst_X0_145 ?_
  refine zv_lstore hC dX0_boolWord_3 (by decide) ?_
  refine zv_aload_n hC dX0_boolWord_5 rfl ?_
  refine zv_getR (j := 26) hC fl_X0_28 dX0_boolWord_6 rfl rfl ?_
  refine zv_lconst (v := 0) hC dX0_boolWord_9 (by decide) ?_
  refine zv_callSv (As := [_, _]) hC dX0_boolWord_10 Y_J7_fill_d0a16 lk_X0_147 (by decide) rfl rfl (Nat.le_of_ble_eq_true rfl) (ok_J7_fill_d0a16 G h) ?_
  intro σ_1 h
  refine zv_aload_n hC dX0_boolWord_13 rfl ?_
  refine zv_getR (j := 26) hC fl_X0_28 dX0_boolWord_14 rfl rfl ?_
  refine zv_iconst (v := 0) hC dX0_boolWord_17 (by decide) ?_
  refine zv_ldc2 hC dX0_boolWord_18 cst_X0_145 ?_
  refine zv_last hC dX0_boolWord_21 rfl h.1 ?_
  replace h := h.2 _ rfl
  refine zv_iconst (v := 0) hC dX0_boolWord_22 (by decide) ?_
  refine zv_istore hC dX0_boolWord_23 (by decide) ?_
  obtain ⟨n, h⟩ := h
  exact zv_go (kL_X0_boolWord_19_20_22_25 hC hR  n _ _ _ _ _ _ h) ⟨rfl, rfl, rfl, rfl, rfl, rfl, rfl, rfl, trivial⟩
theorem ok_X0_boolWord_19_20_22 (G : zv_G) {Q : Int64 → zv_St → Prop} {x1 : Int32} {x2 : Int32} {x3 : Int32} {σ : zv_St} (h : B_X0_boolWord_19_20_22 Q x1 x2 x3 σ) : zv_OK G M_X0_boolWord_19_20_22 yX0_boolWord [.ref (G.2.2.1 19), .int x1, .int x2, .int x3, .ref (G.2.2.1 20), .ref (G.2.2.1 22)] σ (zv_ql Q) := zv_ok G _ _ _ _ _ (by decide +kernel) rfl (Nat.le_of_ble_eq_true rfl) (fun X hC hR => zv_go (k_X0_boolWord_19_20_22_0 hC hR h) ⟨rfl, rfl, rfl, rfl, rfl, rfl, trivial⟩)
-- X8_setWord_20
def B_X8_setWord_20 (Q : zv_St → Prop) (x1 : Int32) (x2 : Int32) (x3 : Int64) (σ : zv_St) : Prop :=
  vp_in ((x1 * 8) + x2) 640 ∧ ∀ σ_1 : zv_St, σ_1 = zv_wl σ 21 ((x1 * 8) + x2).toNatClampNeg x3 → Q σ_1
set_option maxRecDepth 20000 in
set_option maxHeartbeats 2000000 in
theorem k_X8_setWord_20_0 {G : zv_G} {X : zv_X} {Q : zv_St → Prop}  (hC : zv_C G X M_X8_setWord_20) (hR : zv_R G X M_X8_setWord_20 (zv_qv Q))  {x1 : Int32} {x2 : Int32} {x3 : Int64} {σ : zv_St} (h : B_X8_setWord_20 Q  x1 x2 x3 σ) : zv_V G X M_X8_setWord_20 0 [(0, .ref (G.2.2.1 20)), (1, .int x1), (2, .int x2), (3, .long x3)] [] σ := by
  unfold B_X8_setWord_20 at h
  refine zv_aload_n hC dX8_setWord_0 rfl ?_
  refine zv_getR (j := 21) hC fl_X8_9 dX8_setWord_1 rfl rfl ?_
  refine zv_iload_n hC dX8_setWord_4 rfl ?_
  refine zv_bipush (v := 8) hC dX8_setWord_5 (by decide) ?_
  refine zv_imul hC dX8_setWord_7 ?_
  refine zv_iload_n hC dX8_setWord_8 rfl ?_
  refine zv_iadd hC dX8_setWord_9 ?_
  refine zv_lload_n hC dX8_setWord_10 rfl ?_
  refine zv_last hC dX8_setWord_11 rfl h.1 ?_
  replace h := h.2 _ rfl
  exact (hR _ _ _).2.2.2.1 rfl dX8_setWord_12 ⟨rfl, h⟩
theorem ok_X8_setWord_20 (G : zv_G) {Q : zv_St → Prop} {x1 : Int32} {x2 : Int32} {x3 : Int64} {σ : zv_St} (h : B_X8_setWord_20 Q x1 x2 x3 σ) : zv_OK G M_X8_setWord_20 yX8_setWord [.ref (G.2.2.1 20), .int x1, .int x2, .long x3] σ (zv_qv Q) := zv_ok G _ _ _ _ _ (by decide +kernel) rfl (Nat.le_of_ble_eq_true rfl) (fun X hC hR => zv_go (k_X8_setWord_20_0 hC hR h) ⟨rfl, rfl, rfl, rfl, trivial⟩)
