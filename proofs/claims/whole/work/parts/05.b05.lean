-- X0_rankOf
def B_X0_rankOf_39 (Q : Int32 → zv_St → Prop) (y0 : Int32) (σ : zv_St) : Prop :=
  Q y0 σ
set_option maxRecDepth 20000 in
set_option maxHeartbeats 2000000 in
theorem k_X0_rankOf_39 {G : zv_G} {X : zv_X} {Q : Int32 → zv_St → Prop}  (hC : zv_C G X M_X0_rankOf) (hR : zv_R G X M_X0_rankOf (zv_qi Q))  {y0 : Int32} {σ : zv_St} (h : B_X0_rankOf_39 Q  y0 σ) : zv_V G X M_X0_rankOf 39 [] [.int y0] σ := by
  unfold B_X0_rankOf_39 at h
  exact (hR _ _ _).1 _ rfl dX0_rankOf_39 ⟨_, rfl, h⟩
def B_X0_rankOf (Q : Int32 → zv_St → Prop) (x1 : Int32) (x2 : Int32) (σ : zv_St) : Prop :=
  B_X5_roleAt (fun r_2 σ_1 => B_X10_isNeeded (fun r_4 σ_3 => (r_4 = 0 → (B_X0_rankOf_39 Q (512 + r_2) σ_3)) ∧ (¬ r_4 = 0 → (B_X5_partAt (fun r_6 σ_5 => vp_in r_6 80 ∧ B_X0_rankOf_39 Q (σ_5.1 24 r_6.toNatClampNeg) σ_5) x1 x2 σ_3))) r_2 σ_1) x1 x2 σ
set_option maxRecDepth 20000 in
set_option maxHeartbeats 2000000 in
theorem k_X0_rankOf_0 {G : zv_G} {X : zv_X} {Q : Int32 → zv_St → Prop}  (hC : zv_C G X M_X0_rankOf) (hR : zv_R G X M_X0_rankOf (zv_qi Q))  {x1 : Int32} {x2 : Int32} {σ : zv_St} (h : B_X0_rankOf Q  x1 x2 σ) : zv_V G X M_X0_rankOf 0 [(0, .ref (G.2.2.1 19)), (1, .int x1), (2, .int x2)] [] σ := by
  unfold B_X0_rankOf at h
  refine zv_aload_n hC dX0_rankOf_0 rfl ?_
  refine zv_getR (j := 5) hC fl_X0_36 dX0_rankOf_1 rfl rfl ?_
  refine zv_iload_n hC dX0_rankOf_4 rfl ?_
  refine zv_iload_n hC dX0_rankOf_5 rfl ?_
  refine zv_callVi (As := [_, _]) hC dX0_rankOf_6 Y_X5_roleAt lk_X0_153 (by decide) rfl rfl rfl (Nat.le_of_ble_eq_true rfl) (ok_X5_roleAt G h) ?_
  intro r_2 σ_1 h
  refine zv_istore_n hC dX0_rankOf_9 (by decide) ?_
  refine zv_iload_n hC dX0_rankOf_10 rfl ?_
  refine zv_callSNi (As := [_]) hC dX0_rankOf_11 Y_X10_isNeeded lk_X0_171 (by decide) rfl rfl (Nat.le_of_ble_eq_true rfl) (ok_X10_isNeeded G h) ?_
  intro r_4 σ_3 h
  refine zv_if_eq (tgt := 34) hC dX0_rankOf_14 (by decide) (fun c => ?_) (fun c => ?_)
  · replace h := h.1 c
    refine zv_sipush (v := 512) hC dX0_rankOf_34 (by decide) ?_
    refine zv_iload_n hC dX0_rankOf_37 rfl ?_
    refine zv_iadd hC dX0_rankOf_38 ?_
    exact zv_go (k_X0_rankOf_39 hC hR  h) trivial
  · replace h := h.2 c
    refine zv_aload_n hC dX0_rankOf_17 rfl ?_
    refine zv_getR (j := 24) hC fl_X0_21 dX0_rankOf_18 rfl rfl ?_
    refine zv_aload_n hC dX0_rankOf_21 rfl ?_
    refine zv_getR (j := 5) hC fl_X0_36 dX0_rankOf_22 rfl rfl ?_
    refine zv_iload_n hC dX0_rankOf_25 rfl ?_
    refine zv_iload_n hC dX0_rankOf_26 rfl ?_
    refine zv_callVi (As := [_, _]) hC dX0_rankOf_27 Y_X5_partAt lk_X0_92 (by decide) rfl rfl rfl (Nat.le_of_ble_eq_true rfl) (ok_X5_partAt G h) ?_
    intro r_6 σ_5 h
    refine zv_iald hC dX0_rankOf_30 rfl h.1 ?_
    replace h := h.2
    refine zv_goto (tgt := 39) hC dX0_rankOf_31 (by decide) ?_
    exact zv_go (k_X0_rankOf_39 hC hR  h) trivial
theorem ok_X0_rankOf (G : zv_G) {Q : Int32 → zv_St → Prop} {x1 : Int32} {x2 : Int32} {σ : zv_St} (h : B_X0_rankOf Q x1 x2 σ) : zv_OK G M_X0_rankOf yX0_rankOf [.ref (G.2.2.1 19), .int x1, .int x2] σ (zv_qi Q) := zv_ok G _ _ _ _ _ (by decide +kernel) rfl (Nat.le_of_ble_eq_true rfl) (fun X hC hR => zv_go (k_X0_rankOf_0 hC hR h) ⟨rfl, rfl, rfl, trivial⟩)
-- X0_arrange
def B_X0_arrange_79 (Q : zv_St → Prop) (kk7 : Int32 → Int32 → Int32 → zv_St → Prop) (x1 : Int32) (x2 : Int32) (x3 : Int32) (x5 : Int32) (σ : zv_St) : Prop :=
  vp_in x5 640 ∧ ∀ σ_1 : zv_St, σ_1 = zv_wi σ 25 x5.toNatClampNeg x3 → kk7 x1 x2 (x3 + 1) σ_1
set_option maxRecDepth 20000 in
set_option maxHeartbeats 2000000 in
theorem k_X0_arrange_79 {G : zv_G} {X : zv_X} {Q : zv_St → Prop} {kk7 : Int32 → Int32 → Int32 → zv_St → Prop} (hC : zv_C G X M_X0_arrange) (hR : zv_R G X M_X0_arrange (zv_qv Q)) (hk7 : ∀ (x1 : Int32) (x2 : Int32) (x3 : Int32) (σ : zv_St), kk7 x1 x2 x3 σ → zv_V G X M_X0_arrange 7 [(0, .ref (G.2.2.1 19)), (1, .int x1), (2, .int x2), (3, .int x3)] [] σ) {x1 : Int32} {x2 : Int32} {x3 : Int32} {x5 : Int32} {σ : zv_St} (h : B_X0_arrange_79 Q kk7 x1 x2 x3 x5 σ) : zv_V G X M_X0_arrange 79 [(0, .ref (G.2.2.1 19)), (1, .int x1), (2, .int x2), (3, .int x3), (5, .int x5)] [] σ := by
  unfold B_X0_arrange_79 at h
  refine zv_aload_n hC dX0_arrange_79 rfl ?_
  refine zv_getR (j := 25) hC fl_X0_25 dX0_arrange_80 rfl rfl ?_
  refine zv_iload hC dX0_arrange_83 rfl ?_
  refine zv_iload_n hC dX0_arrange_85 rfl ?_
  refine zv_iast hC dX0_arrange_86 rfl h.1 ?_
  replace h := h.2 _ rfl
  refine zv_iinc (v := 1) hC dX0_arrange_87 rfl (by decide) (by decide) ?_
  refine zv_goto (tgt := 7) hC dX0_arrange_90 (by decide) ?_
  exact zv_go (hk7 _ _ _ _ h) ⟨rfl, rfl, rfl, rfl, trivial⟩
def L_X0_arrange_32 (Q : zv_St → Prop) (kk7 : Int32 → Int32 → Int32 → zv_St → Prop) : Nat → (Int32 → Int32 → Int32 → Int32 → Int32 → zv_St → Prop)
  | 0 => fun _ _ _ _ _ _ => False
  | u + 1 => fun x1 x2 x3 x4 x5 σ => 
    (x5 ≤ x2 → (B_X0_arrange_79 Q kk7 x1 x2 x3 x5 σ)) ∧ (¬ x5 ≤ x2 → (vp_in (x5 - 1) 640 ∧ B_X0_rankOf (fun r_2 σ_1 => (r_2 ≤ x4 → (B_X0_arrange_79 Q kk7 x1 x2 x3 x5 σ_1)) ∧ (¬ r_2 ≤ x4 → (vp_in (x5 - 1) 640 ∧ vp_in x5 640 ∧ ∀ σ_3 : zv_St, σ_3 = zv_wi σ_1 25 x5.toNatClampNeg (σ_1.1 25 (x5 - 1).toNatClampNeg) → (L_X0_arrange_32 Q kk7 u) x1 x2 x3 x4 (x5 + (-1)) σ_3))) x1 (σ.1 25 (x5 - 1).toNatClampNeg) σ))
set_option maxRecDepth 20000 in
set_option maxHeartbeats 2000000 in
theorem kL_X0_arrange_32 {G : zv_G} {X : zv_X} {Q : zv_St → Prop} {kk7 : Int32 → Int32 → Int32 → zv_St → Prop} (hC : zv_C G X M_X0_arrange) (hR : zv_R G X M_X0_arrange (zv_qv Q)) (hk7 : ∀ (x1 : Int32) (x2 : Int32) (x3 : Int32) (σ : zv_St), kk7 x1 x2 x3 σ → zv_V G X M_X0_arrange 7 [(0, .ref (G.2.2.1 19)), (1, .int x1), (2, .int x2), (3, .int x3)] [] σ) : ∀ (n : Nat) (x1 : Int32) (x2 : Int32) (x3 : Int32) (x4 : Int32) (x5 : Int32) (σ : zv_St), L_X0_arrange_32 Q kk7 n x1 x2 x3 x4 x5 σ → zv_V G X M_X0_arrange 32 [(0, .ref (G.2.2.1 19)), (1, .int x1), (2, .int x2), (3, .int x3), (4, .int x4), (5, .int x5)] [] σ := by
  intro n
  induction n with
  | zero => intro x1 x2 x3 x4 x5 σ h; exact h.elim
  | succ n hk32 =>
    intro x1 x2 x3 x4 x5 σ h
    unfold L_X0_arrange_32 at h
    refine zv_iload hC dX0_arrange_32 rfl ?_
    refine zv_iload_n hC dX0_arrange_34 rfl ?_
    refine zv_icmp_le (tgt := 79) hC dX0_arrange_35 (by decide) (fun c => ?_) (fun c => ?_)
    · replace h := h.1 c
      exact zv_go (k_X0_arrange_79 hC hR hk7 h) ⟨rfl, rfl, rfl, rfl, rfl, trivial⟩
    · replace h := h.2 c
      refine zv_aload_n hC dX0_arrange_38 rfl ?_
      refine zv_iload_n hC dX0_arrange_39 rfl ?_
      refine zv_aload_n hC dX0_arrange_40 rfl ?_
      refine zv_getR (j := 25) hC fl_X0_25 dX0_arrange_41 rfl rfl ?_
      refine zv_iload hC dX0_arrange_44 rfl ?_
      refine zv_iconst (v := 1) hC dX0_arrange_46 (by decide) ?_
      refine zv_isub hC dX0_arrange_47 ?_
      refine zv_iald hC dX0_arrange_48 rfl h.1 ?_
      replace h := h.2
      refine zv_callVi (As := [_, _]) hC dX0_arrange_49 Y_X0_rankOf lk_X0_174 (by decide) rfl rfl rfl (Nat.le_of_ble_eq_true rfl) (ok_X0_rankOf G h) ?_
      intro r_2 σ_1 h
      refine zv_iload hC dX0_arrange_52 rfl ?_
      refine zv_icmp_le (tgt := 79) hC dX0_arrange_54 (by decide) (fun c => ?_) (fun c => ?_)
      · replace h := h.1 c
        exact zv_go (k_X0_arrange_79 hC hR hk7 h) ⟨rfl, rfl, rfl, rfl, rfl, trivial⟩
      · replace h := h.2 c
        refine zv_aload_n hC dX0_arrange_57 rfl ?_
        refine zv_getR (j := 25) hC fl_X0_25 dX0_arrange_58 rfl rfl ?_
        refine zv_iload hC dX0_arrange_61 rfl ?_
        refine zv_aload_n hC dX0_arrange_63 rfl ?_
        refine zv_getR (j := 25) hC fl_X0_25 dX0_arrange_64 rfl rfl ?_
        refine zv_iload hC dX0_arrange_67 rfl ?_
        refine zv_iconst (v := 1) hC dX0_arrange_69 (by decide) ?_
        refine zv_isub hC dX0_arrange_70 ?_
        refine zv_iald hC dX0_arrange_71 rfl h.1 ?_
        replace h := h.2
        refine zv_iast hC dX0_arrange_72 rfl h.1 ?_
        replace h := h.2 _ rfl
        refine zv_iinc (v := (-1)) hC dX0_arrange_73 rfl (by decide) (by decide) ?_
        refine zv_goto (tgt := 32) hC dX0_arrange_76 (by decide) ?_
        exact zv_go (hk32 _ _ _ _ _ _ h) ⟨rfl, rfl, rfl, rfl, rfl, rfl, trivial⟩
def L_X0_arrange_7 (Q : zv_St → Prop) : Nat → (Int32 → Int32 → Int32 → zv_St → Prop)
  | 0 => fun _ _ _ _ => False
  | u + 1 => fun x1 x2 x3 σ => 
    B_X5_size (fun r_2 σ_1 => (r_2 ≤ x3 → (Q σ_1)) ∧ (¬ r_2 ≤ x3 → (B_X0_rankOf (fun r_4 σ_3 => ∃ n32, L_X0_arrange_32 Q (L_X0_arrange_7 Q u) n32 x1 x2 x3 r_4 (x2 + x3) σ_3) x1 x3 σ_1))) x1 σ
set_option maxRecDepth 20000 in
set_option maxHeartbeats 2000000 in
theorem kL_X0_arrange_7 {G : zv_G} {X : zv_X} {Q : zv_St → Prop}  (hC : zv_C G X M_X0_arrange) (hR : zv_R G X M_X0_arrange (zv_qv Q))  : ∀ (n : Nat) (x1 : Int32) (x2 : Int32) (x3 : Int32) (σ : zv_St), L_X0_arrange_7 Q  n x1 x2 x3 σ → zv_V G X M_X0_arrange 7 [(0, .ref (G.2.2.1 19)), (1, .int x1), (2, .int x2), (3, .int x3)] [] σ := by
  intro n
  induction n with
  | zero => intro x1 x2 x3 σ h; exact h.elim
  | succ n hk7 =>
    intro x1 x2 x3 σ h
    unfold L_X0_arrange_7 at h
    refine zv_iload_n hC dX0_arrange_7 rfl ?_
    refine zv_aload_n hC dX0_arrange_8 rfl ?_
    refine zv_getR (j := 5) hC fl_X0_36 dX0_arrange_9 rfl rfl ?_
    refine zv_iload_n hC dX0_arrange_12 rfl ?_
    refine zv_callVi (As := [_]) hC dX0_arrange_13 Y_X5_size lk_X0_133 (by decide) rfl rfl rfl (Nat.le_of_ble_eq_true rfl) (ok_X5_size G h) ?_
    intro r_2 σ_1 h
    refine zv_icmp_ge (tgt := 93) hC dX0_arrange_16 (by decide) (fun c => ?_) (fun c => ?_)
    · replace h := h.1 c
      exact (hR _ _ _).2.2.2.1 rfl dX0_arrange_93 ⟨rfl, h⟩
    · replace h := h.2 c
      refine zv_aload_n hC dX0_arrange_19 rfl ?_
      refine zv_iload_n hC dX0_arrange_20 rfl ?_
      refine zv_iload_n hC dX0_arrange_21 rfl ?_
      refine zv_callVi (As := [_, _]) hC dX0_arrange_22 Y_X0_rankOf lk_X0_174 (by decide) rfl rfl rfl (Nat.le_of_ble_eq_true rfl) (ok_X0_rankOf G h) ?_
      intro r_4 σ_3 h
      refine zv_istore hC dX0_arrange_25 (by decide) ?_
      refine zv_iload_n hC dX0_arrange_27 rfl ?_
      refine zv_iload_n hC dX0_arrange_28 rfl ?_
      refine zv_iadd hC dX0_arrange_29 ?_
      refine zv_istore hC dX0_arrange_30 (by decide) ?_
      obtain ⟨n, h⟩ := h
      exact zv_go (kL_X0_arrange_32 hC hR hk7 n _ _ _ _ _ _ h) ⟨rfl, rfl, rfl, rfl, rfl, rfl, trivial⟩
def B_X0_arrange (Q : zv_St → Prop) (x1 : Int32) (σ : zv_St) : Prop :=
  ∃ n7, L_X0_arrange_7 Q n7 x1 (x1 * 8) 0 σ
set_option maxRecDepth 20000 in
set_option maxHeartbeats 2000000 in
theorem k_X0_arrange_0 {G : zv_G} {X : zv_X} {Q : zv_St → Prop}  (hC : zv_C G X M_X0_arrange) (hR : zv_R G X M_X0_arrange (zv_qv Q))  {x1 : Int32} {σ : zv_St} (h : B_X0_arrange Q  x1 σ) : zv_V G X M_X0_arrange 0 [(0, .ref (G.2.2.1 19)), (1, .int x1)] [] σ := by
  unfold B_X0_arrange at h
  refine zv_iload_n hC dX0_arrange_0 rfl ?_
  refine zv_bipush (v := 8) hC dX0_arrange_1 (by decide) ?_
  refine zv_imul hC dX0_arrange_3 ?_
  refine zv_istore_n hC dX0_arrange_4 (by decide) ?_
  refine zv_iconst (v := 0) hC dX0_arrange_5 (by decide) ?_
  refine zv_istore_n hC dX0_arrange_6 (by decide) ?_
  obtain ⟨n, h⟩ := h
  exact zv_go (kL_X0_arrange_7 hC hR  n _ _ _ _ h) ⟨rfl, rfl, rfl, rfl, trivial⟩
theorem ok_X0_arrange (G : zv_G) {Q : zv_St → Prop} {x1 : Int32} {σ : zv_St} (h : B_X0_arrange Q x1 σ) : zv_OK G M_X0_arrange yX0_arrange [.ref (G.2.2.1 19), .int x1] σ (zv_qv Q) := zv_ok G _ _ _ _ _ (by decide +kernel) rfl (Nat.le_of_ble_eq_true rfl) (fun X hC hR => zv_go (k_X0_arrange_0 hC hR h) ⟨rfl, rfl, trivial⟩)
-- X0_prepare
def B_X0_prepare_59 (Q : zv_St → Prop) (kk5 : Int32 → Int32 → zv_St → Prop) (x1 : Int32) (x2 : Int32) (σ : zv_St) : Prop :=
  kk5 x1 (x2 + 1) σ
set_option maxRecDepth 20000 in
set_option maxHeartbeats 2000000 in
theorem k_X0_prepare_59 {G : zv_G} {X : zv_X} {Q : zv_St → Prop} {kk5 : Int32 → Int32 → zv_St → Prop} (hC : zv_C G X M_X0_prepare) (hR : zv_R G X M_X0_prepare (zv_qv Q)) (hk5 : ∀ (x1 : Int32) (x2 : Int32) (σ : zv_St), kk5 x1 x2 σ → zv_V G X M_X0_prepare 5 [(0, .ref (G.2.2.1 19)), (1, .int x1), (2, .int x2)] [] σ) {x1 : Int32} {x2 : Int32} {σ : zv_St} (h : B_X0_prepare_59 Q kk5 x1 x2 σ) : zv_V G X M_X0_prepare 59 [(0, .ref (G.2.2.1 19)), (1, .int x1), (2, .int x2)] [] σ := by
  unfold B_X0_prepare_59 at h
  refine zv_iinc (v := 1) hC dX0_prepare_59 rfl (by decide) (by decide) ?_
  refine zv_goto (tgt := 5) hC dX0_prepare_62 (by decide) ?_
  exact zv_go (hk5 _ _ _ h) ⟨rfl, rfl, rfl, trivial⟩
def L_X0_prepare_5 (Q : zv_St → Prop) : Nat → (Int32 → Int32 → zv_St → Prop)
  | 0 => fun _ _ _ => False
  | u + 1 => fun x1 x2 σ => 
    (x1 < x2 → (B_J9_max_7cf53 (fun r_2 σ_1 => ∀ σ_3 : zv_St, σ_3 = zv_wi σ_1 19 8 r_2 → Q σ_3) (σ.1 19 8) (x1 + 1) σ)) ∧ (¬ x1 < x2 → (B_X8_clear_20 (fun σ_4 => B_X8_clear_22 (fun σ_5 => B_X0_fillRows (fun σ_6 => B_X0_costOf (fun r_8 σ_7 => vp_in x2 80 ∧ ∀ σ_9 : zv_St, σ_9 = zv_wi σ_7 24 x2.toNatClampNeg r_8 → B_X5_kind (fun r_11 σ_10 => (¬ r_11 = 2 → (B_X0_prepare_59 Q (L_X0_prepare_5 Q u) x1 x2 σ_10)) ∧ (r_11 = 2 → (B_X0_arrange (fun σ_12 => B_X0_prepare_59 Q (L_X0_prepare_5 Q u) x1 x2 σ_12) x2 σ_10))) x2 σ_9) x2 σ_6) x2 σ_5) x2 σ_4) x2 σ))
set_option maxRecDepth 20000 in
set_option maxHeartbeats 2000000 in
theorem kL_X0_prepare_5 {G : zv_G} {X : zv_X} {Q : zv_St → Prop}  (hC : zv_C G X M_X0_prepare) (hR : zv_R G X M_X0_prepare (zv_qv Q))  : ∀ (n : Nat) (x1 : Int32) (x2 : Int32) (σ : zv_St), L_X0_prepare_5 Q  n x1 x2 σ → zv_V G X M_X0_prepare 5 [(0, .ref (G.2.2.1 19)), (1, .int x1), (2, .int x2)] [] σ := by
  intro n
  induction n with
  | zero => intro x1 x2 σ h; exact h.elim
  | succ n hk5 =>
    intro x1 x2 σ h
    unfold L_X0_prepare_5 at h
    refine zv_iload_n hC dX0_prepare_5 rfl ?_
    refine zv_iload_n hC dX0_prepare_6 rfl ?_
    refine zv_icmp_gt (tgt := 65) hC dX0_prepare_7 (by decide) (fun c => ?_) (fun c => ?_)
    · replace h := h.1 c
      refine zv_aload_n hC dX0_prepare_65 rfl ?_
      refine zv_aload_n hC dX0_prepare_66 rfl ?_
      refine zv_getI hC fl_X0_48 dX0_prepare_67 rfl rfl ?_
      refine zv_iload_n hC dX0_prepare_70 rfl ?_
      refine zv_iconst (v := 1) hC dX0_prepare_71 (by decide) ?_
      refine zv_iadd hC dX0_prepare_72 ?_
      refine zv_callSi (As := [_, _]) hC dX0_prepare_73 Y_J9_max_7cf53 lk_X0_77 (by decide) rfl rfl (Nat.le_of_ble_eq_true rfl) (ok_J9_max_7cf53 G h) ?_
      intro r_2 σ_1 h
      refine zv_putI hC fp_X0_48 dX0_prepare_76 rfl rfl rfl rfl ?_
      replace h := h _ rfl
      exact (hR _ _ _).2.2.2.1 rfl dX0_prepare_79 ⟨rfl, h⟩
    · replace h := h.2 c
      refine zv_aload_n hC dX0_prepare_10 rfl ?_
      refine zv_getR (j := 20) hC fl_X0_12 dX0_prepare_11 rfl rfl ?_
      refine zv_iload_n hC dX0_prepare_14 rfl ?_
      refine zv_callVv (As := [_]) hC dX0_prepare_15 Y_X8_clear lk_X0_58 (by decide) rfl rfl rfl (Nat.le_of_ble_eq_true rfl) (ok_X8_clear_20 G h) ?_
      intro σ_4 h
      refine zv_aload_n hC dX0_prepare_18 rfl ?_
      refine zv_getR (j := 22) hC fl_X0_18 dX0_prepare_19 rfl rfl ?_
      refine zv_iload_n hC dX0_prepare_22 rfl ?_
      refine zv_callVv (As := [_]) hC dX0_prepare_23 Y_X8_clear lk_X0_58 (by decide) rfl rfl rfl (Nat.le_of_ble_eq_true rfl) (ok_X8_clear_22 G h) ?_
      intro σ_5 h
      refine zv_aload_n hC dX0_prepare_26 rfl ?_
      refine zv_iload_n hC dX0_prepare_27 rfl ?_
      refine zv_callVv (As := [_]) hC dX0_prepare_28 Y_X0_fillRows lk_X0_62 (by decide) rfl rfl rfl (Nat.le_of_ble_eq_true rfl) (ok_X0_fillRows G h) ?_
      intro σ_6 h
      refine zv_aload_n hC dX0_prepare_31 rfl ?_
      refine zv_getR (j := 24) hC fl_X0_21 dX0_prepare_32 rfl rfl ?_
      refine zv_iload_n hC dX0_prepare_35 rfl ?_
      refine zv_aload_n hC dX0_prepare_36 rfl ?_
      refine zv_iload_n hC dX0_prepare_37 rfl ?_
      refine zv_callVi (As := [_]) hC dX0_prepare_38 Y_X0_costOf lk_X0_65 (by decide) rfl rfl rfl (Nat.le_of_ble_eq_true rfl) (ok_X0_costOf G h) ?_
      intro r_8 σ_7 h
      refine zv_iast hC dX0_prepare_41 rfl h.1 ?_
      replace h := h.2 _ rfl
      refine zv_aload_n hC dX0_prepare_42 rfl ?_
      refine zv_getR (j := 5) hC fl_X0_36 dX0_prepare_43 rfl rfl ?_
      refine zv_iload_n hC dX0_prepare_46 rfl ?_
      refine zv_callVi (As := [_]) hC dX0_prepare_47 Y_X5_kind lk_X0_69 (by decide) rfl rfl rfl (Nat.le_of_ble_eq_true rfl) (ok_X5_kind G h) ?_
      intro r_11 σ_10 h
      refine zv_iconst (v := 2) hC dX0_prepare_50 (by decide) ?_
      refine zv_icmp_ne (tgt := 59) hC dX0_prepare_51 (by decide) (fun c => ?_) (fun c => ?_)
      · replace h := h.1 c
        exact zv_go (k_X0_prepare_59 hC hR hk5 h) ⟨rfl, rfl, rfl, trivial⟩
      · replace h := h.2 c
        refine zv_aload_n hC dX0_prepare_54 rfl ?_
        refine zv_iload_n hC dX0_prepare_55 rfl ?_
        refine zv_callVv (As := [_]) hC dX0_prepare_56 Y_X0_arrange lk_X0_74 (by decide) rfl rfl rfl (Nat.le_of_ble_eq_true rfl) (ok_X0_arrange G h) ?_
        intro σ_12 h
        exact zv_go (k_X0_prepare_59 hC hR hk5 h) ⟨rfl, rfl, rfl, trivial⟩
def B_X0_prepare (Q : zv_St → Prop) (x1 : Int32) (σ : zv_St) : Prop :=
  ∃ n5, L_X0_prepare_5 Q n5 x1 (σ.1 19 8) σ
set_option maxRecDepth 20000 in
set_option maxHeartbeats 2000000 in
theorem k_X0_prepare_0 {G : zv_G} {X : zv_X} {Q : zv_St → Prop}  (hC : zv_C G X M_X0_prepare) (hR : zv_R G X M_X0_prepare (zv_qv Q))  {x1 : Int32} {σ : zv_St} (h : B_X0_prepare Q  x1 σ) : zv_V G X M_X0_prepare 0 [(0, .ref (G.2.2.1 19)), (1, .int x1)] [] σ := by
  unfold B_X0_prepare at h
  refine zv_aload_n hC dX0_prepare_0 rfl ?_
  refine zv_getI hC fl_X0_48 dX0_prepare_1 rfl rfl ?_
  refine zv_istore_n hC dX0_prepare_4 (by decide) ?_
  obtain ⟨n, h⟩ := h
  exact zv_go (kL_X0_prepare_5 hC hR  n _ _ _ h) ⟨rfl, rfl, rfl, trivial⟩
theorem ok_X0_prepare (G : zv_G) {Q : zv_St → Prop} {x1 : Int32} {σ : zv_St} (h : B_X0_prepare Q x1 σ) : zv_OK G M_X0_prepare yX0_prepare [.ref (G.2.2.1 19), .int x1] σ (zv_qv Q) := zv_ok G _ _ _ _ _ (by decide +kernel) rfl (Nat.le_of_ble_eq_true rfl) (fun X hC hR => zv_go (k_X0_prepare_0 hC hR h) ⟨rfl, rfl, trivial⟩)
-- X0_cost
def B_X0_cost (Q : Int32 → zv_St → Prop) (x1 : Int32) (σ : zv_St) : Prop :=
  vp_in x1 80 ∧ Q (σ.1 24 x1.toNatClampNeg) σ
set_option maxRecDepth 20000 in
set_option maxHeartbeats 2000000 in
theorem k_X0_cost_0 {G : zv_G} {X : zv_X} {Q : Int32 → zv_St → Prop}  (hC : zv_C G X M_X0_cost) (hR : zv_R G X M_X0_cost (zv_qi Q))  {x1 : Int32} {σ : zv_St} (h : B_X0_cost Q  x1 σ) : zv_V G X M_X0_cost 0 [(0, .ref (G.2.2.1 19)), (1, .int x1)] [] σ := by
  unfold B_X0_cost at h
  refine zv_aload_n hC dX0_cost_0 rfl ?_
  refine zv_getR (j := 24) hC fl_X0_21 dX0_cost_1 rfl rfl ?_
  refine zv_iload_n hC dX0_cost_4 rfl ?_
  refine zv_iald hC dX0_cost_5 rfl h.1 ?_
  replace h := h.2
  exact (hR _ _ _).1 _ rfl dX0_cost_6 ⟨_, rfl, h⟩
theorem ok_X0_cost (G : zv_G) {Q : Int32 → zv_St → Prop} {x1 : Int32} {σ : zv_St} (h : B_X0_cost Q x1 σ) : zv_OK G M_X0_cost yX0_cost [.ref (G.2.2.1 19), .int x1] σ (zv_qi Q) := zv_ok G _ _ _ _ _ (by decide +kernel) rfl (Nat.le_of_ble_eq_true rfl) (fun X hC hR => zv_go (k_X0_cost_0 hC hR h) ⟨rfl, rfl, trivial⟩)
-- X10_told
def B_X10_told_141 (Q : Int32 → zv_St → Prop) (y0 : Int32) (σ : zv_St) : Prop :=
  Q y0 σ
set_option maxRecDepth 20000 in
set_option maxHeartbeats 2000000 in
theorem k_X10_told_141 {G : zv_G} {X : zv_X} {Q : Int32 → zv_St → Prop}  (hC : zv_C G X M_X10_told) (hR : zv_R G X M_X10_told (zv_qi Q))  {y0 : Int32} {σ : zv_St} (h : B_X10_told_141 Q  y0 σ) : zv_V G X M_X10_told 141 [] [.int y0] σ := by
  unfold B_X10_told_141 at h
  exact (hR _ _ _).1 _ rfl dX10_told_141 ⟨_, rfl, h⟩
def B_X10_told (Q : Int32 → zv_St → Prop) (x1 : Int32) (x2 : Int32) (σ : zv_St) : Prop :=
  B_X5_has (fun r_2 σ_1 => (¬ r_2 = 0 → ((x2 = 0 → (B_X5_kind (fun r_4 σ_3 => Q r_4 σ_3) x1 σ_1)) ∧ (x2 = 1 → (B_X5_first (fun r_6 σ_5 => Q r_6 σ_5) x1 σ_1)) ∧ (x2 = 2 → (B_X5_second (fun r_8 σ_7 => Q r_8 σ_7) x1 σ_1)) ∧ (x2 = 3 → (B_X5_size (fun r_10 σ_9 => Q r_10 σ_9) x1 σ_1)) ∧ (x2 = 4 → (B_X0_prepare (fun σ_11 => B_X0_cost (fun r_13 σ_12 => Q r_13 σ_12) x1 σ_11) x1 σ_1)) ∧ (x2 = 5 → (B_X5_asked (fun r_15 σ_14 => Q r_15 σ_14) x1 σ_1)) ∧ (x2 = 6 → (B_X9_isThere (fun r_17 σ_16 => (r_17 = 0 → (B_X10_told_141 Q (-1) σ_16)) ∧ (¬ r_17 = 0 → (B_X9_size (fun r_19 σ_18 => B_X10_told_141 Q r_19 σ_18) x1 σ_16))) x1 σ_1)) ∧ (Int32.toInt x2 < 0 ∨ 6 < Int32.toInt x2 → (Q (-2) σ_1)))) ∧ (r_2 = 0 → (Q (-2) σ_1))) x1 σ
set_option maxRecDepth 20000 in
set_option maxHeartbeats 2000000 in
theorem k_X10_told_0 {G : zv_G} {X : zv_X} {Q : Int32 → zv_St → Prop}  (hC : zv_C G X M_X10_told) (hR : zv_R G X M_X10_told (zv_qi Q))  {x1 : Int32} {x2 : Int32} {σ : zv_St} (h : B_X10_told Q  x1 x2 σ) : zv_V G X M_X10_told 0 [(0, .ref (G.2.2.1 0)), (1, .int x1), (2, .int x2)] [] σ := by
  unfold B_X10_told at h
  refine zv_aload_n hC dX10_told_0 rfl ?_
  refine zv_getR (j := 5) hC fl_X10_19 dX10_told_1 rfl rfl ?_
  refine zv_iload_n hC dX10_told_4 rfl ?_
  refine zv_callVi (As := [_]) hC dX10_told_5 Y_X5_has lk_X10_118 (by decide) rfl rfl rfl (Nat.le_of_ble_eq_true rfl) (ok_X5_has G h) ?_
  intro r_2 σ_1 h
  refine zv_if_ne (tgt := 14) hC dX10_told_8 (by decide) (fun c => ?_) (fun c => ?_)
  · replace h := h.1 c
    refine zv_iload_n hC dX10_told_14 rfl ?_
    refine zv_swV (zv_sw_0_6) ?_
    rintro (c | c | c | c | c | c | c | c)
    · replace h := h.1 c
      refine zv_table (off := 41) (tgt := 56) hC dX10_told_15 (by rw [c]; decide) (by rw [c]; decide) (by rw [c]; rfl) (by decide) ?_
      refine zv_aload_n hC dX10_told_56 rfl ?_
      refine zv_getR (j := 5) hC fl_X10_19 dX10_told_57 rfl rfl ?_
      refine zv_iload_n hC dX10_told_60 rfl ?_
      refine zv_callVi (As := [_]) hC dX10_told_61 Y_X5_kind lk_X10_121 (by decide) rfl rfl rfl (Nat.le_of_ble_eq_true rfl) (ok_X5_kind G h) ?_
      intro r_4 σ_3 h
      exact (hR _ _ _).1 _ rfl dX10_told_64 ⟨_, rfl, h⟩
    · replace h := h.2.1 c
      refine zv_table (off := 50) (tgt := 65) hC dX10_told_15 (by rw [c]; decide) (by rw [c]; decide) (by rw [c]; rfl) (by decide) ?_
      refine zv_aload_n hC dX10_told_65 rfl ?_
      refine zv_getR (j := 5) hC fl_X10_19 dX10_told_66 rfl rfl ?_
      refine zv_iload_n hC dX10_told_69 rfl ?_
      refine zv_callVi (As := [_]) hC dX10_told_70 Y_X5_first lk_X10_137 (by decide) rfl rfl rfl (Nat.le_of_ble_eq_true rfl) (ok_X5_first G h) ?_
      intro r_6 σ_5 h
      exact (hR _ _ _).1 _ rfl dX10_told_73 ⟨_, rfl, h⟩
    · replace h := h.2.2.1 c
      refine zv_table (off := 59) (tgt := 74) hC dX10_told_15 (by rw [c]; decide) (by rw [c]; decide) (by rw [c]; rfl) (by decide) ?_
      refine zv_aload_n hC dX10_told_74 rfl ?_
      refine zv_getR (j := 5) hC fl_X10_19 dX10_told_75 rfl rfl ?_
      refine zv_iload_n hC dX10_told_78 rfl ?_
      refine zv_callVi (As := [_]) hC dX10_told_79 Y_X5_second lk_X10_140 (by decide) rfl rfl rfl (Nat.le_of_ble_eq_true rfl) (ok_X5_second G h) ?_
      intro r_8 σ_7 h
      exact (hR _ _ _).1 _ rfl dX10_told_82 ⟨_, rfl, h⟩
    · replace h := h.2.2.2.1 c
      refine zv_table (off := 68) (tgt := 83) hC dX10_told_15 (by rw [c]; decide) (by rw [c]; decide) (by rw [c]; rfl) (by decide) ?_
      refine zv_aload_n hC dX10_told_83 rfl ?_
      refine zv_getR (j := 5) hC fl_X10_19 dX10_told_84 rfl rfl ?_
      refine zv_iload_n hC dX10_told_87 rfl ?_
      refine zv_callVi (As := [_]) hC dX10_told_88 Y_X5_size lk_X10_136 (by decide) rfl rfl rfl (Nat.le_of_ble_eq_true rfl) (ok_X5_size G h) ?_
      intro r_10 σ_9 h
      exact (hR _ _ _).1 _ rfl dX10_told_91 ⟨_, rfl, h⟩
    · replace h := h.2.2.2.2.1 c
      refine zv_table (off := 77) (tgt := 92) hC dX10_told_15 (by rw [c]; decide) (by rw [c]; decide) (by rw [c]; rfl) (by decide) ?_
      refine zv_aload_n hC dX10_told_92 rfl ?_
      refine zv_getR (j := 19) hC fl_X10_37 dX10_told_93 rfl rfl ?_
      refine zv_iload_n hC dX10_told_96 rfl ?_
      refine zv_callVv (As := [_]) hC dX10_told_97 Y_X0_prepare lk_X10_143 (by decide) rfl rfl rfl (Nat.le_of_ble_eq_true rfl) (ok_X0_prepare G h) ?_
      intro σ_11 h
      refine zv_aload_n hC dX10_told_100 rfl ?_
      refine zv_getR (j := 19) hC fl_X10_37 dX10_told_101 rfl rfl ?_
      refine zv_iload_n hC dX10_told_104 rfl ?_
      refine zv_callVi (As := [_]) hC dX10_told_105 Y_X0_cost lk_X10_146 (by decide) rfl rfl rfl (Nat.le_of_ble_eq_true rfl) (ok_X0_cost G h) ?_
      intro r_13 σ_12 h
      exact (hR _ _ _).1 _ rfl dX10_told_108 ⟨_, rfl, h⟩
    · replace h := h.2.2.2.2.2.1 c
      refine zv_table (off := 94) (tgt := 109) hC dX10_told_15 (by rw [c]; decide) (by rw [c]; decide) (by rw [c]; rfl) (by decide) ?_
      refine zv_aload_n hC dX10_told_109 rfl ?_
      refine zv_getR (j := 5) hC fl_X10_19 dX10_told_110 rfl rfl ?_
      refine zv_iload_n hC dX10_told_113 rfl ?_
      refine zv_callVi (As := [_]) hC dX10_told_114 Y_X5_asked lk_X10_149 (by decide) rfl rfl rfl (Nat.le_of_ble_eq_true rfl) (ok_X5_asked G h) ?_
      intro r_15 σ_14 h
      exact (hR _ _ _).1 _ rfl dX10_told_117 ⟨_, rfl, h⟩
    · replace h := h.2.2.2.2.2.2.1 c
      refine zv_table (off := 103) (tgt := 118) hC dX10_told_15 (by rw [c]; decide) (by rw [c]; decide) (by rw [c]; rfl) (by decide) ?_
      refine zv_aload_n hC dX10_told_118 rfl ?_
      refine zv_getR (j := 13) hC fl_X10_28 dX10_told_119 rfl rfl ?_
      refine zv_iload_n hC dX10_told_122 rfl ?_
      refine zv_callVi (As := [_]) hC dX10_told_123 Y_X9_isThere lk_X10_152 (by decide) rfl rfl rfl (Nat.le_of_ble_eq_true rfl) (ok_X9_isThere G h) ?_
      intro r_17 σ_16 h
      refine zv_if_eq (tgt := 140) hC dX10_told_126 (by decide) (fun c => ?_) (fun c => ?_)
      · replace h := h.1 c
        refine zv_iconst (v := (-1)) hC dX10_told_140 (by decide) ?_
        exact zv_go (k_X10_told_141 hC hR  h) trivial
      · replace h := h.2 c
        refine zv_aload_n hC dX10_told_129 rfl ?_
        refine zv_getR (j := 13) hC fl_X10_28 dX10_told_130 rfl rfl ?_
        refine zv_iload_n hC dX10_told_133 rfl ?_
        refine zv_callVi (As := [_]) hC dX10_told_134 Y_X9_size lk_X10_155 (by decide) rfl rfl rfl (Nat.le_of_ble_eq_true rfl) (ok_X9_size G h) ?_
        intro r_19 σ_18 h
        refine zv_goto (tgt := 141) hC dX10_told_137 (by decide) ?_
        exact zv_go (k_X10_told_141 hC hR  h) trivial
    · replace h := h.2.2.2.2.2.2.2 c
      refine zv_tableD (tgt := 142) hC dX10_told_15 c (by decide) ?_
      refine zv_bipush (v := (-2)) hC dX10_told_142 (by decide) ?_
      exact (hR _ _ _).1 _ rfl dX10_told_144 ⟨_, rfl, h⟩
  · replace h := h.2 c
    refine zv_bipush (v := (-2)) hC dX10_told_11 (by decide) ?_
    exact (hR _ _ _).1 _ rfl dX10_told_13 ⟨_, rfl, h⟩
theorem ok_X10_told (G : zv_G) {Q : Int32 → zv_St → Prop} {x1 : Int32} {x2 : Int32} {σ : zv_St} (h : B_X10_told Q x1 x2 σ) : zv_OK G M_X10_told yX10_told [.ref (G.2.2.1 0), .int x1, .int x2] σ (zv_qi Q) := zv_ok G _ _ _ _ _ (by decide +kernel) rfl (Nat.le_of_ble_eq_true rfl) (fun X hC hR => zv_go (k_X10_told_0 hC hR h) ⟨rfl, rfl, rfl, trivial⟩)
-- X10_partOf
def B_X10_partOf_27 (Q : Int32 → zv_St → Prop) (σ : zv_St) : Prop :=
  Q (-2) σ
set_option maxRecDepth 20000 in
set_option maxHeartbeats 2000000 in
theorem k_X10_partOf_27 {G : zv_G} {X : zv_X} {Q : Int32 → zv_St → Prop}  (hC : zv_C G X M_X10_partOf) (hR : zv_R G X M_X10_partOf (zv_qi Q))   {σ : zv_St} (h : B_X10_partOf_27 Q   σ) : zv_V G X M_X10_partOf 27 [] [] σ := by
  unfold B_X10_partOf_27 at h
  refine zv_bipush (v := (-2)) hC dX10_partOf_27 (by decide) ?_
  exact (hR _ _ _).1 _ rfl dX10_partOf_29 ⟨_, rfl, h⟩
def B_X10_partOf (Q : Int32 → zv_St → Prop) (x1 : Int32) (x2 : Int32) (x3 : Int32) (σ : zv_St) : Prop :=
  B_X5_has (fun r_2 σ_1 => (r_2 = 0 → (B_X10_partOf_27 Q σ_1)) ∧ (¬ r_2 = 0 → ((x2 < 0 → (B_X10_partOf_27 Q σ_1)) ∧ (¬ x2 < 0 → (B_X5_size (fun r_4 σ_3 => (x2 < r_4 → ((x3 = 0 → (B_X5_roleAt (fun r_6 σ_5 => Q r_6 σ_5) x1 x2 σ_3)) ∧ (x3 = 1 → (B_X5_partAt (fun r_8 σ_7 => Q r_8 σ_7) x1 x2 σ_3)) ∧ (¬ x3 = 0 ∧ ¬ x3 = 1 → (Q (-2) σ_3)))) ∧ (¬ x2 < r_4 → (B_X10_partOf_27 Q σ_3))) x1 σ_1))))) x1 σ
set_option maxRecDepth 20000 in
set_option maxHeartbeats 2000000 in
theorem k_X10_partOf_0 {G : zv_G} {X : zv_X} {Q : Int32 → zv_St → Prop}  (hC : zv_C G X M_X10_partOf) (hR : zv_R G X M_X10_partOf (zv_qi Q))  {x1 : Int32} {x2 : Int32} {x3 : Int32} {σ : zv_St} (h : B_X10_partOf Q  x1 x2 x3 σ) : zv_V G X M_X10_partOf 0 [(0, .ref (G.2.2.1 0)), (1, .int x1), (2, .int x2), (3, .int x3)] [] σ := by
  unfold B_X10_partOf at h
  refine zv_aload_n hC dX10_partOf_0 rfl ?_
  refine zv_getR (j := 5) hC fl_X10_19 dX10_partOf_1 rfl rfl ?_
  refine zv_iload_n hC dX10_partOf_4 rfl ?_
  refine zv_callVi (As := [_]) hC dX10_partOf_5 Y_X5_has lk_X10_118 (by decide) rfl rfl rfl (Nat.le_of_ble_eq_true rfl) (ok_X5_has G h) ?_
  intro r_2 σ_1 h
  refine zv_if_eq (tgt := 27) hC dX10_partOf_8 (by decide) (fun c => ?_) (fun c => ?_)
  · replace h := h.1 c
    exact zv_go (k_X10_partOf_27 hC hR  h) trivial
  · replace h := h.2 c
    refine zv_iload_n hC dX10_partOf_11 rfl ?_
    refine zv_if_lt (tgt := 27) hC dX10_partOf_12 (by decide) (fun c => ?_) (fun c => ?_)
    · replace h := h.1 c
      exact zv_go (k_X10_partOf_27 hC hR  h) trivial
    · replace h := h.2 c
      refine zv_iload_n hC dX10_partOf_15 rfl ?_
      refine zv_aload_n hC dX10_partOf_16 rfl ?_
      refine zv_getR (j := 5) hC fl_X10_19 dX10_partOf_17 rfl rfl ?_
      refine zv_iload_n hC dX10_partOf_20 rfl ?_
      refine zv_callVi (As := [_]) hC dX10_partOf_21 Y_X5_size lk_X10_136 (by decide) rfl rfl rfl (Nat.le_of_ble_eq_true rfl) (ok_X5_size G h) ?_
      intro r_4 σ_3 h
      refine zv_icmp_lt (tgt := 30) hC dX10_partOf_24 (by decide) (fun c => ?_) (fun c => ?_)
      · replace h := h.1 c
        refine zv_iload_n hC dX10_partOf_30 rfl ?_
        refine zv_swV zv_sw01 ?_
        rintro (c | c | c)
        · replace h := h.1 c
          refine zv_lookup (off := 25) (tgt := 56) hC dX10_partOf_31 (by decide) (by rw [c]; decide) (by decide) ?_
          refine zv_aload_n hC dX10_partOf_56 rfl ?_
          refine zv_getR (j := 5) hC fl_X10_19 dX10_partOf_57 rfl rfl ?_
          refine zv_iload_n hC dX10_partOf_60 rfl ?_
          refine zv_iload_n hC dX10_partOf_61 rfl ?_
          refine zv_callVi (As := [_, _]) hC dX10_partOf_62 Y_X5_roleAt lk_X10_156 (by decide) rfl rfl rfl (Nat.le_of_ble_eq_true rfl) (ok_X5_roleAt G h) ?_
          intro r_6 σ_5 h
          exact (hR _ _ _).1 _ rfl dX10_partOf_65 ⟨_, rfl, h⟩
        · replace h := h.2.1 c
          refine zv_lookup (off := 35) (tgt := 66) hC dX10_partOf_31 (by decide) (by rw [c]; decide) (by decide) ?_
          refine zv_aload_n hC dX10_partOf_66 rfl ?_
          refine zv_getR (j := 5) hC fl_X10_19 dX10_partOf_67 rfl rfl ?_
          refine zv_iload_n hC dX10_partOf_70 rfl ?_
          refine zv_iload_n hC dX10_partOf_71 rfl ?_
          refine zv_callVi (As := [_, _]) hC dX10_partOf_72 Y_X5_partAt lk_X10_159 (by decide) rfl rfl rfl (Nat.le_of_ble_eq_true rfl) (ok_X5_partAt G h) ?_
          intro r_8 σ_7 h
          exact (hR _ _ _).1 _ rfl dX10_partOf_75 ⟨_, rfl, h⟩
        · replace h := h.2.2 c
          refine zv_lookup (off := 45) (tgt := 76) hC dX10_partOf_31 (by decide) (by show Op.lookupswitch.offset [(0, 25), (1, 35)] 45 _ = 45; rw [lv_osw (k := 0) (a := 0) c.1 (by decide), lv_osw (k := 1) (a := 1) c.2 (by decide)]; rfl) (by decide) ?_
          refine zv_bipush (v := (-2)) hC dX10_partOf_76 (by decide) ?_
          exact (hR _ _ _).1 _ rfl dX10_partOf_78 ⟨_, rfl, h⟩
      · replace h := h.2 c
        exact zv_go (k_X10_partOf_27 hC hR  h) trivial
theorem ok_X10_partOf (G : zv_G) {Q : Int32 → zv_St → Prop} {x1 : Int32} {x2 : Int32} {x3 : Int32} {σ : zv_St} (h : B_X10_partOf Q x1 x2 x3 σ) : zv_OK G M_X10_partOf yX10_partOf [.ref (G.2.2.1 0), .int x1, .int x2, .int x3] σ (zv_qi Q) := zv_ok G _ _ _ _ _ (by decide +kernel) rfl (Nat.le_of_ble_eq_true rfl) (fun X hC hR => zv_go (k_X10_partOf_0 hC hR h) ⟨rfl, rfl, rfl, rfl, trivial⟩)
-- X8_has_20
def B_X8_has_20_31 (Q : Int32 → zv_St → Prop) (y0 : Int32) (σ : zv_St) : Prop :=
  narrow .boolean (.int y0) = .int y0 ∧ Q y0 σ
set_option maxRecDepth 20000 in
set_option maxHeartbeats 2000000 in
theorem k_X8_has_20_31 {G : zv_G} {X : zv_X} {Q : Int32 → zv_St → Prop}  (hC : zv_C G X M_X8_has_20) (hR : zv_R G X M_X8_has_20 (zv_qi Q))  {y0 : Int32} {σ : zv_St} (h : B_X8_has_20_31 Q  y0 σ) : zv_V G X M_X8_has_20 31 [] [.int y0] σ := by
  unfold B_X8_has_20_31 at h
  exact (hR _ _ _).2.1 _ rfl h.1 dX8_has_31 ⟨_, rfl, h.2⟩
def B_X8_has_20 (Q : Int32 → zv_St → Prop) (x1 : Int32) (x2 : Int32) (σ : zv_St) : Prop :=
  vp_in ((x1 * 8) + (x2 >>> ((6 : Int32) &&& 31))) 640 ∧ ((lg_cmp ((Int64.toUInt64 (σ.2 21 ((x1 * 8) + (x2 >>> ((6 : Int32) &&& 31))).toNatClampNeg) >>> (Int64.toUInt64 (Int32.toInt64 (x2 &&& 63)) &&& Int64.toUInt64 63)).toInt64 &&& 1) 0) = 0 → (B_X8_has_20_31 Q 0 σ)) ∧ (¬ (lg_cmp ((Int64.toUInt64 (σ.2 21 ((x1 * 8) + (x2 >>> ((6 : Int32) &&& 31))).toNatClampNeg) >>> (Int64.toUInt64 (Int32.toInt64 (x2 &&& 63)) &&& Int64.toUInt64 63)).toInt64 &&& 1) 0) = 0 → (B_X8_has_20_31 Q 1 σ))
set_option maxRecDepth 20000 in
set_option maxHeartbeats 2000000 in
theorem k_X8_has_20_0 {G : zv_G} {X : zv_X} {Q : Int32 → zv_St → Prop}  (hC : zv_C G X M_X8_has_20) (hR : zv_R G X M_X8_has_20 (zv_qi Q))  {x1 : Int32} {x2 : Int32} {σ : zv_St} (h : B_X8_has_20 Q  x1 x2 σ) : zv_V G X M_X8_has_20 0 [(0, .ref (G.2.2.1 20)), (1, .int x1), (2, .int x2)] [] σ := by
  unfold B_X8_has_20 at h
  refine zv_aload_n hC dX8_has_0 rfl ?_
  refine zv_getR (j := 21) hC fl_X8_9 dX8_has_1 rfl rfl ?_
  refine zv_iload_n hC dX8_has_4 rfl ?_
  refine zv_bipush (v := 8) hC dX8_has_5 (by decide) ?_
  refine zv_imul hC dX8_has_7 ?_
  refine zv_iload_n hC dX8_has_8 rfl ?_
  refine zv_bipush (v := 6) hC dX8_has_9 (by decide) ?_
  refine zv_ishr hC dX8_has_11 ?_
  refine zv_iadd hC dX8_has_12 ?_
  refine zv_lald hC dX8_has_13 rfl h.1 ?_
  replace h := h.2
  refine zv_iload_n hC dX8_has_14 rfl ?_
  refine zv_bipush (v := 63) hC dX8_has_15 (by decide) ?_
  refine zv_iand hC dX8_has_17 ?_
  refine zv_lushr hC dX8_has_18 ?_
  refine zv_lconst (v := 1) hC dX8_has_19 (by decide) ?_
  refine zv_land hC dX8_has_20 ?_
  refine zv_lconst (v := 0) hC dX8_has_21 (by decide) ?_
  refine zv_lcmp hC dX8_has_22 ?_
  refine zv_if_eq (tgt := 30) hC dX8_has_23 (by decide) (fun c => ?_) (fun c => ?_)
  · replace h := h.1 c
    refine zv_iconst (v := 0) hC dX8_has_30 (by decide) ?_
    exact zv_go (k_X8_has_20_31 hC hR  h) trivial
  · replace h := h.2 c
    refine zv_iconst (v := 1) hC dX8_has_26 (by decide) ?_
    refine zv_goto (tgt := 31) hC dX8_has_27 (by decide) ?_
    exact zv_go (k_X8_has_20_31 hC hR  h) trivial
theorem ok_X8_has_20 (G : zv_G) {Q : Int32 → zv_St → Prop} {x1 : Int32} {x2 : Int32} {σ : zv_St} (h : B_X8_has_20 Q x1 x2 σ) : zv_OK G M_X8_has_20 yX8_has [.ref (G.2.2.1 20), .int x1, .int x2] σ (zv_qi Q) := zv_ok G _ _ _ _ _ (by decide +kernel) rfl (Nat.le_of_ble_eq_true rfl) (fun X hC hR => zv_go (k_X8_has_20_0 hC hR h) ⟨rfl, rfl, rfl, trivial⟩)
-- X0_maybe
def B_X0_maybe (Q : Int32 → zv_St → Prop) (x1 : Int32) (x2 : Int32) (σ : zv_St) : Prop :=
  B_X8_has_20 (fun r_2 σ_1 => narrow .boolean (.int r_2) = .int r_2 ∧ Q r_2 σ_1) x1 x2 σ
set_option maxRecDepth 20000 in
set_option maxHeartbeats 2000000 in
theorem k_X0_maybe_0 {G : zv_G} {X : zv_X} {Q : Int32 → zv_St → Prop}  (hC : zv_C G X M_X0_maybe) (hR : zv_R G X M_X0_maybe (zv_qi Q))  {x1 : Int32} {x2 : Int32} {σ : zv_St} (h : B_X0_maybe Q  x1 x2 σ) : zv_V G X M_X0_maybe 0 [(0, .ref (G.2.2.1 19)), (1, .int x1), (2, .int x2)] [] σ := by
  unfold B_X0_maybe at h
  refine zv_aload_n hC dX0_maybe_0 rfl ?_
  refine zv_getR (j := 20) hC fl_X0_12 dX0_maybe_1 rfl rfl ?_
  refine zv_iload_n hC dX0_maybe_4 rfl ?_
  refine zv_iload_n hC dX0_maybe_5 rfl ?_
  refine zv_callVi (As := [_, _]) hC dX0_maybe_6 Y_X8_has lk_X0_44 (by decide) rfl rfl rfl (Nat.le_of_ble_eq_true rfl) (ok_X8_has_20 G h) ?_
  intro r_2 σ_1 h
  exact (hR _ _ _).2.1 _ rfl h.1 dX0_maybe_9 ⟨_, rfl, h.2⟩
theorem ok_X0_maybe (G : zv_G) {Q : Int32 → zv_St → Prop} {x1 : Int32} {x2 : Int32} {σ : zv_St} (h : B_X0_maybe Q x1 x2 σ) : zv_OK G M_X0_maybe yX0_maybe [.ref (G.2.2.1 19), .int x1, .int x2] σ (zv_qi Q) := zv_ok G _ _ _ _ _ (by decide +kernel) rfl (Nat.le_of_ble_eq_true rfl) (fun X hC hR => zv_go (k_X0_maybe_0 hC hR h) ⟨rfl, rfl, rfl, trivial⟩)
-- X10_may
def B_X10_may_18 (Q : Int32 → zv_St → Prop) (σ : zv_St) : Prop :=
  Q 0 σ
set_option maxRecDepth 20000 in
set_option maxHeartbeats 2000000 in
theorem k_X10_may_18 {G : zv_G} {X : zv_X} {Q : Int32 → zv_St → Prop}  (hC : zv_C G X M_X10_may) (hR : zv_R G X M_X10_may (zv_qi Q))   {σ : zv_St} (h : B_X10_may_18 Q   σ) : zv_V G X M_X10_may 18 [] [] σ := by
  unfold B_X10_may_18 at h
  refine zv_iconst (v := 0) hC dX10_may_18 (by decide) ?_
  exact (hR _ _ _).2.1 _ rfl rfl dX10_may_19 ⟨_, rfl, h⟩
def B_X10_may (Q : Int32 → zv_St → Prop) (x1 : Int32) (x2 : Int32) (σ : zv_St) : Prop :=
  B_X5_has (fun r_2 σ_1 => (r_2 = 0 → (B_X10_may_18 Q σ_1)) ∧ (¬ r_2 = 0 → (B_X10_isObject (fun r_4 σ_3 => (¬ r_4 = 0 → (B_X0_prepare (fun σ_5 => B_X0_maybe (fun r_7 σ_6 => narrow .boolean (.int r_7) = .int r_7 ∧ Q r_7 σ_6) x1 x2 σ_5) x1 σ_3)) ∧ (r_4 = 0 → (B_X10_may_18 Q σ_3))) x2 σ_1))) x1 σ
set_option maxRecDepth 20000 in
set_option maxHeartbeats 2000000 in
theorem k_X10_may_0 {G : zv_G} {X : zv_X} {Q : Int32 → zv_St → Prop}  (hC : zv_C G X M_X10_may) (hR : zv_R G X M_X10_may (zv_qi Q))  {x1 : Int32} {x2 : Int32} {σ : zv_St} (h : B_X10_may Q  x1 x2 σ) : zv_V G X M_X10_may 0 [(0, .ref (G.2.2.1 0)), (1, .int x1), (2, .int x2)] [] σ := by
  unfold B_X10_may at h
  refine zv_aload_n hC dX10_may_0 rfl ?_
  refine zv_getR (j := 5) hC fl_X10_19 dX10_may_1 rfl rfl ?_
  refine zv_iload_n hC dX10_may_4 rfl ?_
  refine zv_callVi (As := [_]) hC dX10_may_5 Y_X5_has lk_X10_118 (by decide) rfl rfl rfl (Nat.le_of_ble_eq_true rfl) (ok_X5_has G h) ?_
  intro r_2 σ_1 h
  refine zv_if_eq (tgt := 18) hC dX10_may_8 (by decide) (fun c => ?_) (fun c => ?_)
  · replace h := h.1 c
    exact zv_go (k_X10_may_18 hC hR  h) trivial
  · replace h := h.2 c
    refine zv_iload_n hC dX10_may_11 rfl ?_
    refine zv_callSi (As := [_]) hC dX10_may_12 Y_X10_isObject lk_X10_77 (by decide) rfl rfl (Nat.le_of_ble_eq_true rfl) (ok_X10_isObject G h) ?_
    intro r_4 σ_3 h
    refine zv_if_ne (tgt := 20) hC dX10_may_15 (by decide) (fun c => ?_) (fun c => ?_)
    · replace h := h.1 c
      refine zv_aload_n hC dX10_may_20 rfl ?_
      refine zv_getR (j := 19) hC fl_X10_37 dX10_may_21 rfl rfl ?_
      refine zv_iload_n hC dX10_may_24 rfl ?_
      refine zv_callVv (As := [_]) hC dX10_may_25 Y_X0_prepare lk_X10_143 (by decide) rfl rfl rfl (Nat.le_of_ble_eq_true rfl) (ok_X0_prepare G h) ?_
      intro σ_5 h
      refine zv_aload_n hC dX10_may_28 rfl ?_
      refine zv_getR (j := 19) hC fl_X10_37 dX10_may_29 rfl rfl ?_
      refine zv_iload_n hC dX10_may_32 rfl ?_
      refine zv_iload_n hC dX10_may_33 rfl ?_
      refine zv_callVi (As := [_, _]) hC dX10_may_34 Y_X0_maybe lk_X10_162 (by decide) rfl rfl rfl (Nat.le_of_ble_eq_true rfl) (ok_X0_maybe G h) ?_
      intro r_7 σ_6 h
      exact (hR _ _ _).2.1 _ rfl h.1 dX10_may_37 ⟨_, rfl, h.2⟩
    · replace h := h.2 c
      exact zv_go (k_X10_may_18 hC hR  h) trivial
theorem ok_X10_may (G : zv_G) {Q : Int32 → zv_St → Prop} {x1 : Int32} {x2 : Int32} {σ : zv_St} (h : B_X10_may Q x1 x2 σ) : zv_OK G M_X10_may yX10_may [.ref (G.2.2.1 0), .int x1, .int x2] σ (zv_qi Q) := zv_ok G _ _ _ _ _ (by decide +kernel) rfl (Nat.le_of_ble_eq_true rfl) (fun X hC hR => zv_go (k_X10_may_0 hC hR h) ⟨rfl, rfl, rfl, trivial⟩)
-- X8_has_22
def B_X8_has_22_31 (Q : Int32 → zv_St → Prop) (y0 : Int32) (σ : zv_St) : Prop :=
  narrow .boolean (.int y0) = .int y0 ∧ Q y0 σ
set_option maxRecDepth 20000 in
set_option maxHeartbeats 2000000 in
theorem k_X8_has_22_31 {G : zv_G} {X : zv_X} {Q : Int32 → zv_St → Prop}  (hC : zv_C G X M_X8_has_22) (hR : zv_R G X M_X8_has_22 (zv_qi Q))  {y0 : Int32} {σ : zv_St} (h : B_X8_has_22_31 Q  y0 σ) : zv_V G X M_X8_has_22 31 [] [.int y0] σ := by
  unfold B_X8_has_22_31 at h
  exact (hR _ _ _).2.1 _ rfl h.1 dX8_has_31 ⟨_, rfl, h.2⟩
def B_X8_has_22 (Q : Int32 → zv_St → Prop) (x1 : Int32) (x2 : Int32) (σ : zv_St) : Prop :=
  vp_in ((x1 * 8) + (x2 >>> ((6 : Int32) &&& 31))) 640 ∧ ((lg_cmp ((Int64.toUInt64 (σ.2 23 ((x1 * 8) + (x2 >>> ((6 : Int32) &&& 31))).toNatClampNeg) >>> (Int64.toUInt64 (Int32.toInt64 (x2 &&& 63)) &&& Int64.toUInt64 63)).toInt64 &&& 1) 0) = 0 → (B_X8_has_22_31 Q 0 σ)) ∧ (¬ (lg_cmp ((Int64.toUInt64 (σ.2 23 ((x1 * 8) + (x2 >>> ((6 : Int32) &&& 31))).toNatClampNeg) >>> (Int64.toUInt64 (Int32.toInt64 (x2 &&& 63)) &&& Int64.toUInt64 63)).toInt64 &&& 1) 0) = 0 → (B_X8_has_22_31 Q 1 σ))
set_option maxRecDepth 20000 in
set_option maxHeartbeats 2000000 in
theorem k_X8_has_22_0 {G : zv_G} {X : zv_X} {Q : Int32 → zv_St → Prop}  (hC : zv_C G X M_X8_has_22) (hR : zv_R G X M_X8_has_22 (zv_qi Q))  {x1 : Int32} {x2 : Int32} {σ : zv_St} (h : B_X8_has_22 Q  x1 x2 σ) : zv_V G X M_X8_has_22 0 [(0, .ref (G.2.2.1 22)), (1, .int x1), (2, .int x2)] [] σ := by
  unfold B_X8_has_22 at h
  refine zv_aload_n hC dX8_has_0 rfl ?_
  refine zv_getR (j := 23) hC fl_X8_9 dX8_has_1 rfl rfl ?_
  refine zv_iload_n hC dX8_has_4 rfl ?_
  refine zv_bipush (v := 8) hC dX8_has_5 (by decide) ?_
  refine zv_imul hC dX8_has_7 ?_
  refine zv_iload_n hC dX8_has_8 rfl ?_
  refine zv_bipush (v := 6) hC dX8_has_9 (by decide) ?_
  refine zv_ishr hC dX8_has_11 ?_
  refine zv_iadd hC dX8_has_12 ?_
  refine zv_lald hC dX8_has_13 rfl h.1 ?_
  replace h := h.2
  refine zv_iload_n hC dX8_has_14 rfl ?_
  refine zv_bipush (v := 63) hC dX8_has_15 (by decide) ?_
  refine zv_iand hC dX8_has_17 ?_
  refine zv_lushr hC dX8_has_18 ?_
  refine zv_lconst (v := 1) hC dX8_has_19 (by decide) ?_
  refine zv_land hC dX8_has_20 ?_
  refine zv_lconst (v := 0) hC dX8_has_21 (by decide) ?_
  refine zv_lcmp hC dX8_has_22 ?_
  refine zv_if_eq (tgt := 30) hC dX8_has_23 (by decide) (fun c => ?_) (fun c => ?_)
  · replace h := h.1 c
    refine zv_iconst (v := 0) hC dX8_has_30 (by decide) ?_
    exact zv_go (k_X8_has_22_31 hC hR  h) trivial
  · replace h := h.2 c
    refine zv_iconst (v := 1) hC dX8_has_26 (by decide) ?_
    refine zv_goto (tgt := 31) hC dX8_has_27 (by decide) ?_
    exact zv_go (k_X8_has_22_31 hC hR  h) trivial
theorem ok_X8_has_22 (G : zv_G) {Q : Int32 → zv_St → Prop} {x1 : Int32} {x2 : Int32} {σ : zv_St} (h : B_X8_has_22 Q x1 x2 σ) : zv_OK G M_X8_has_22 yX8_has [.ref (G.2.2.1 22), .int x1, .int x2] σ (zv_qi Q) := zv_ok G _ _ _ _ _ (by decide +kernel) rfl (Nat.le_of_ble_eq_true rfl) (fun X hC hR => zv_go (k_X8_has_22_0 hC hR h) ⟨rfl, rfl, rfl, trivial⟩)
-- X0_surely
def B_X0_surely (Q : Int32 → zv_St → Prop) (x1 : Int32) (x2 : Int32) (σ : zv_St) : Prop :=
  B_X8_has_22 (fun r_2 σ_1 => narrow .boolean (.int r_2) = .int r_2 ∧ Q r_2 σ_1) x1 x2 σ
set_option maxRecDepth 20000 in
set_option maxHeartbeats 2000000 in
theorem k_X0_surely_0 {G : zv_G} {X : zv_X} {Q : Int32 → zv_St → Prop}  (hC : zv_C G X M_X0_surely) (hR : zv_R G X M_X0_surely (zv_qi Q))  {x1 : Int32} {x2 : Int32} {σ : zv_St} (h : B_X0_surely Q  x1 x2 σ) : zv_V G X M_X0_surely 0 [(0, .ref (G.2.2.1 19)), (1, .int x1), (2, .int x2)] [] σ := by
  unfold B_X0_surely at h
  refine zv_aload_n hC dX0_surely_0 rfl ?_
  refine zv_getR (j := 22) hC fl_X0_18 dX0_surely_1 rfl rfl ?_
  refine zv_iload_n hC dX0_surely_4 rfl ?_
  refine zv_iload_n hC dX0_surely_5 rfl ?_
  refine zv_callVi (As := [_, _]) hC dX0_surely_6 Y_X8_has lk_X0_44 (by decide) rfl rfl rfl (Nat.le_of_ble_eq_true rfl) (ok_X8_has_22 G h) ?_
  intro r_2 σ_1 h
  exact (hR _ _ _).2.1 _ rfl h.1 dX0_surely_9 ⟨_, rfl, h.2⟩
theorem ok_X0_surely (G : zv_G) {Q : Int32 → zv_St → Prop} {x1 : Int32} {x2 : Int32} {σ : zv_St} (h : B_X0_surely Q x1 x2 σ) : zv_OK G M_X0_surely yX0_surely [.ref (G.2.2.1 19), .int x1, .int x2] σ (zv_qi Q) := zv_ok G _ _ _ _ _ (by decide +kernel) rfl (Nat.le_of_ble_eq_true rfl) (fun X hC hR => zv_go (k_X0_surely_0 hC hR h) ⟨rfl, rfl, rfl, trivial⟩)
-- X10_sure
def B_X10_sure_18 (Q : Int32 → zv_St → Prop) (σ : zv_St) : Prop :=
  Q 0 σ
set_option maxRecDepth 20000 in
set_option maxHeartbeats 2000000 in
theorem k_X10_sure_18 {G : zv_G} {X : zv_X} {Q : Int32 → zv_St → Prop}  (hC : zv_C G X M_X10_sure) (hR : zv_R G X M_X10_sure (zv_qi Q))   {σ : zv_St} (h : B_X10_sure_18 Q   σ) : zv_V G X M_X10_sure 18 [] [] σ := by
  unfold B_X10_sure_18 at h
  refine zv_iconst (v := 0) hC dX10_sure_18 (by decide) ?_
  exact (hR _ _ _).2.1 _ rfl rfl dX10_sure_19 ⟨_, rfl, h⟩
def B_X10_sure (Q : Int32 → zv_St → Prop) (x1 : Int32) (x2 : Int32) (σ : zv_St) : Prop :=
  B_X5_has (fun r_2 σ_1 => (r_2 = 0 → (B_X10_sure_18 Q σ_1)) ∧ (¬ r_2 = 0 → (B_X10_isObject (fun r_4 σ_3 => (¬ r_4 = 0 → (B_X0_prepare (fun σ_5 => B_X0_surely (fun r_7 σ_6 => narrow .boolean (.int r_7) = .int r_7 ∧ Q r_7 σ_6) x1 x2 σ_5) x1 σ_3)) ∧ (r_4 = 0 → (B_X10_sure_18 Q σ_3))) x2 σ_1))) x1 σ
set_option maxRecDepth 20000 in
set_option maxHeartbeats 2000000 in
theorem k_X10_sure_0 {G : zv_G} {X : zv_X} {Q : Int32 → zv_St → Prop}  (hC : zv_C G X M_X10_sure) (hR : zv_R G X M_X10_sure (zv_qi Q))  {x1 : Int32} {x2 : Int32} {σ : zv_St} (h : B_X10_sure Q  x1 x2 σ) : zv_V G X M_X10_sure 0 [(0, .ref (G.2.2.1 0)), (1, .int x1), (2, .int x2)] [] σ := by
  unfold B_X10_sure at h
  refine zv_aload_n hC dX10_sure_0 rfl ?_
  refine zv_getR (j := 5) hC fl_X10_19 dX10_sure_1 rfl rfl ?_
  refine zv_iload_n hC dX10_sure_4 rfl ?_
  refine zv_callVi (As := [_]) hC dX10_sure_5 Y_X5_has lk_X10_118 (by decide) rfl rfl rfl (Nat.le_of_ble_eq_true rfl) (ok_X5_has G h) ?_
  intro r_2 σ_1 h
  refine zv_if_eq (tgt := 18) hC dX10_sure_8 (by decide) (fun c => ?_) (fun c => ?_)
  · replace h := h.1 c
    exact zv_go (k_X10_sure_18 hC hR  h) trivial
  · replace h := h.2 c
    refine zv_iload_n hC dX10_sure_11 rfl ?_
    refine zv_callSi (As := [_]) hC dX10_sure_12 Y_X10_isObject lk_X10_77 (by decide) rfl rfl (Nat.le_of_ble_eq_true rfl) (ok_X10_isObject G h) ?_
    intro r_4 σ_3 h
    refine zv_if_ne (tgt := 20) hC dX10_sure_15 (by decide) (fun c => ?_) (fun c => ?_)
    · replace h := h.1 c
      refine zv_aload_n hC dX10_sure_20 rfl ?_
      refine zv_getR (j := 19) hC fl_X10_37 dX10_sure_21 rfl rfl ?_
      refine zv_iload_n hC dX10_sure_24 rfl ?_
      refine zv_callVv (As := [_]) hC dX10_sure_25 Y_X0_prepare lk_X10_143 (by decide) rfl rfl rfl (Nat.le_of_ble_eq_true rfl) (ok_X0_prepare G h) ?_
      intro σ_5 h
      refine zv_aload_n hC dX10_sure_28 rfl ?_
      refine zv_getR (j := 19) hC fl_X10_37 dX10_sure_29 rfl rfl ?_
      refine zv_iload_n hC dX10_sure_32 rfl ?_
      refine zv_iload_n hC dX10_sure_33 rfl ?_
      refine zv_callVi (As := [_, _]) hC dX10_sure_34 Y_X0_surely lk_X10_165 (by decide) rfl rfl rfl (Nat.le_of_ble_eq_true rfl) (ok_X0_surely G h) ?_
      intro r_7 σ_6 h
      exact (hR _ _ _).2.1 _ rfl h.1 dX10_sure_37 ⟨_, rfl, h.2⟩
    · replace h := h.2 c
      exact zv_go (k_X10_sure_18 hC hR  h) trivial
theorem ok_X10_sure (G : zv_G) {Q : Int32 → zv_St → Prop} {x1 : Int32} {x2 : Int32} {σ : zv_St} (h : B_X10_sure Q x1 x2 σ) : zv_OK G M_X10_sure yX10_sure [.ref (G.2.2.1 0), .int x1, .int x2] σ (zv_qi Q) := zv_ok G _ _ _ _ _ (by decide +kernel) rfl (Nat.le_of_ble_eq_true rfl) (fun X hC hR => zv_go (k_X10_sure_0 hC hR h) ⟨rfl, rfl, rfl, trivial⟩)
-- J7_fill_53178
def L_J7_fill_53178_5 (Q : zv_St → Prop) : Nat → (Int32 → Int32 → Int32 → zv_St → Prop)
  | 0 => fun _ _ _ _ => False
  | u + 1 => fun x1 x2 x3 σ => 
    (x3 ≤ x2 → (Q σ)) ∧ (¬ x3 ≤ x2 → (vp_in x2 80 ∧ ∀ σ_1 : zv_St, σ_1 = zv_wi σ 28 x2.toNatClampNeg x1 → (L_J7_fill_53178_5 Q u) x1 (x2 + 1) x3 σ_1))
set_option maxRecDepth 20000 in
set_option maxHeartbeats 2000000 in
theorem kL_J7_fill_53178_5 {G : zv_G} {X : zv_X} {Q : zv_St → Prop}  (hC : zv_C G X M_J7_fill_53178) (hR : zv_R G X M_J7_fill_53178 (zv_qv Q))  : ∀ (n : Nat) (x1 : Int32) (x2 : Int32) (x3 : Int32) (σ : zv_St), L_J7_fill_53178_5 Q  n x1 x2 x3 σ → zv_V G X M_J7_fill_53178 5 [(0, .ref (G.2.2.1 28)), (1, .int x1), (2, .int x2), (3, .int x3)] [] σ := by
  intro n
  induction n with
  | zero => intro x1 x2 x3 σ h; exact h.elim
  | succ n hk5 =>
    intro x1 x2 x3 σ h
    unfold L_J7_fill_53178_5 at h
    refine zv_iload_n hC dJ7_fill_53178_5 rfl ?_
    refine zv_iload_n hC dJ7_fill_53178_6 rfl ?_
    refine zv_icmp_ge (tgt := 20) hC dJ7_fill_53178_7 (by decide) (fun c => ?_) (fun c => ?_)
    · replace h := h.1 c
      exact (hR _ _ _).2.2.2.1 rfl dJ7_fill_53178_20 ⟨rfl, h⟩
    · replace h := h.2 c
      refine zv_aload_n hC dJ7_fill_53178_10 rfl ?_
      refine zv_iload_n hC dJ7_fill_53178_11 rfl ?_
      refine zv_iload_n hC dJ7_fill_53178_12 rfl ?_
      refine zv_iast hC dJ7_fill_53178_13 rfl h.1 ?_
      replace h := h.2 _ rfl
      refine zv_iinc (v := 1) hC dJ7_fill_53178_14 rfl (by decide) (by decide) ?_
      refine zv_goto (tgt := 5) hC dJ7_fill_53178_17 (by decide) ?_
      exact zv_go (hk5 _ _ _ _ h) ⟨rfl, rfl, rfl, rfl, trivial⟩
def B_J7_fill_53178 (Q : zv_St → Prop) (x1 : Int32) (σ : zv_St) : Prop :=
  ∃ n5, L_J7_fill_53178_5 Q n5 x1 0 80 σ
set_option maxRecDepth 20000 in
set_option maxHeartbeats 2000000 in
theorem k_J7_fill_53178_0 {G : zv_G} {X : zv_X} {Q : zv_St → Prop}  (hC : zv_C G X M_J7_fill_53178) (hR : zv_R G X M_J7_fill_53178 (zv_qv Q))  {x1 : Int32} {σ : zv_St} (h : B_J7_fill_53178 Q  x1 σ) : zv_V G X M_J7_fill_53178 0 [(0, .ref (G.2.2.1 28)), (1, .int x1)] [] σ := by
  unfold B_J7_fill_53178 at h
  refine zv_iconst (v := 0) hC dJ7_fill_53178_0 (by decide) ?_
  refine zv_istore_n hC dJ7_fill_53178_1 (by decide) ?_
  refine zv_aload_n hC dJ7_fill_53178_2 rfl ?_
  refine zv_alen (v := 80) hC dJ7_fill_53178_3 rfl (by decide) (by decide) ?_
  refine zv_istore_n hC dJ7_fill_53178_4 (by decide) ?_
  obtain ⟨n, h⟩ := h
  exact zv_go (kL_J7_fill_53178_5 hC hR  n _ _ _ _ h) ⟨rfl, rfl, rfl, rfl, trivial⟩
theorem ok_J7_fill_53178 (G : zv_G) {Q : zv_St → Prop} {x1 : Int32} {σ : zv_St} (h : B_J7_fill_53178 Q x1 σ) : zv_OK G M_J7_fill_53178 yJ7_fill_53178 [.ref (G.2.2.1 28), .int x1] σ (zv_qv Q) := zv_ok G _ _ _ _ _ (by decide +kernel) rfl (Nat.le_of_ble_eq_true rfl) (fun X hC hR => zv_go (k_J7_fill_53178_0 hC hR h) ⟨rfl, rfl, trivial⟩)
-- X0_placeInOrder
def B_X0_placeInOrder (Q : Int32 → zv_St → Prop) (x1 : Int32) (x2 : Int32) (σ : zv_St) : Prop :=
  vp_in ((x1 * 8) + x2) 640 ∧ Q (σ.1 25 ((x1 * 8) + x2).toNatClampNeg) σ
set_option maxRecDepth 20000 in
set_option maxHeartbeats 2000000 in
theorem k_X0_placeInOrder_0 {G : zv_G} {X : zv_X} {Q : Int32 → zv_St → Prop}  (hC : zv_C G X M_X0_placeInOrder) (hR : zv_R G X M_X0_placeInOrder (zv_qi Q))  {x1 : Int32} {x2 : Int32} {σ : zv_St} (h : B_X0_placeInOrder Q  x1 x2 σ) : zv_V G X M_X0_placeInOrder 0 [(0, .ref (G.2.2.1 19)), (1, .int x1), (2, .int x2)] [] σ := by
  unfold B_X0_placeInOrder at h
  refine zv_aload_n hC dX0_placeInOrder_0 rfl ?_
  refine zv_getR (j := 25) hC fl_X0_25 dX0_placeInOrder_1 rfl rfl ?_
  refine zv_iload_n hC dX0_placeInOrder_4 rfl ?_
  refine zv_bipush (v := 8) hC dX0_placeInOrder_5 (by decide) ?_
  refine zv_imul hC dX0_placeInOrder_7 ?_
  refine zv_iload_n hC dX0_placeInOrder_8 rfl ?_
  refine zv_iadd hC dX0_placeInOrder_9 ?_
  refine zv_iald hC dX0_placeInOrder_10 rfl h.1 ?_
  replace h := h.2
  exact (hR _ _ _).1 _ rfl dX0_placeInOrder_11 ⟨_, rfl, h⟩
theorem ok_X0_placeInOrder (G : zv_G) {Q : Int32 → zv_St → Prop} {x1 : Int32} {x2 : Int32} {σ : zv_St} (h : B_X0_placeInOrder Q x1 x2 σ) : zv_OK G M_X0_placeInOrder yX0_placeInOrder [.ref (G.2.2.1 19), .int x1, .int x2] σ (zv_qi Q) := zv_ok G _ _ _ _ _ (by decide +kernel) rfl (Nat.le_of_ble_eq_true rfl) (fun X hC hR => zv_go (k_X0_placeInOrder_0 hC hR h) ⟨rfl, rfl, rfl, trivial⟩)
-- X4_holds
def B_X4_holds_49 (Q : Int32 → zv_St → Prop) (y0 : Int32) (σ : zv_St) : Prop :=
  narrow .boolean (.int y0) = .int y0 ∧ Q y0 σ
set_option maxRecDepth 20000 in
set_option maxHeartbeats 2000000 in
theorem k_X4_holds_49 {G : zv_G} {X : zv_X} {Q : Int32 → zv_St → Prop}  (hC : zv_C G X M_X4_holds) (hR : zv_R G X M_X4_holds (zv_qi Q))  {y0 : Int32} {σ : zv_St} (h : B_X4_holds_49 Q  y0 σ) : zv_V G X M_X4_holds 49 [] [.int y0] σ := by
  unfold B_X4_holds_49 at h
  exact (hR _ _ _).2.1 _ rfl h.1 dX4_holds_49 ⟨_, rfl, h.2⟩
def B_X4_holds_44 (Q : Int32 → zv_St → Prop) (σ : zv_St) : Prop :=
  B_X4_holds_49 Q 1 σ
set_option maxRecDepth 20000 in
set_option maxHeartbeats 2000000 in
theorem k_X4_holds_44 {G : zv_G} {X : zv_X} {Q : Int32 → zv_St → Prop}  (hC : zv_C G X M_X4_holds) (hR : zv_R G X M_X4_holds (zv_qi Q))   {σ : zv_St} (h : B_X4_holds_44 Q   σ) : zv_V G X M_X4_holds 44 [] [] σ := by
  unfold B_X4_holds_44 at h
  refine zv_iconst (v := 1) hC dX4_holds_44 (by decide) ?_
  refine zv_goto (tgt := 49) hC dX4_holds_45 (by decide) ?_
  exact zv_go (k_X4_holds_49 hC hR  h) trivial
def B_X4_holds_48 (Q : Int32 → zv_St → Prop) (σ : zv_St) : Prop :=
  B_X4_holds_49 Q 0 σ
set_option maxRecDepth 20000 in
set_option maxHeartbeats 2000000 in
theorem k_X4_holds_48 {G : zv_G} {X : zv_X} {Q : Int32 → zv_St → Prop}  (hC : zv_C G X M_X4_holds) (hR : zv_R G X M_X4_holds (zv_qi Q))   {σ : zv_St} (h : B_X4_holds_48 Q   σ) : zv_V G X M_X4_holds 48 [] [] σ := by
  unfold B_X4_holds_48 at h
  refine zv_iconst (v := 0) hC dX4_holds_48 (by decide) ?_
  exact zv_go (k_X4_holds_49 hC hR  h) trivial
def B_X4_holds_15 (Q : Int32 → zv_St → Prop) (x1 : Int32) (x3 : Int32) (y0 : Int32) (σ : zv_St) : Prop :=
  vp_in x1 80 ∧ ((σ.1 28 x1.toNatClampNeg) = 1 → (B_X4_holds_44 Q σ)) ∧ (¬ (σ.1 28 x1.toNatClampNeg) = 1 → ((y0 = 0 → (B_X4_holds_48 Q σ)) ∧ (¬ y0 = 0 → (B_X0_surely (fun r_2 σ_1 => (r_2 = 0 → (B_X4_holds_48 Q σ_1)) ∧ (¬ r_2 = 0 → (B_X4_holds_44 Q σ_1))) x1 x3 σ))))
set_option maxRecDepth 20000 in
set_option maxHeartbeats 2000000 in
theorem k_X4_holds_15 {G : zv_G} {X : zv_X} {Q : Int32 → zv_St → Prop}  (hC : zv_C G X M_X4_holds) (hR : zv_R G X M_X4_holds (zv_qi Q))  {x1 : Int32} {x3 : Int32} {y0 : Int32} {σ : zv_St} (h : B_X4_holds_15 Q  x1 x3 y0 σ) : zv_V G X M_X4_holds 15 [(0, .ref (G.2.2.1 27)), (1, .int x1), (3, .int x3)] [.int y0] σ := by
  unfold B_X4_holds_15 at h
  refine zv_istore hC dX4_holds_15 (by decide) ?_
  refine zv_aload_n hC dX4_holds_17 rfl ?_
  refine zv_getR (j := 28) hC fl_X4_9 dX4_holds_18 rfl rfl ?_
  refine zv_iload_n hC dX4_holds_21 rfl ?_
  refine zv_iald hC dX4_holds_22 rfl h.1 ?_
  replace h := h.2
  refine zv_iconst (v := 1) hC dX4_holds_23 (by decide) ?_
  refine zv_icmp_eq (tgt := 44) hC dX4_holds_24 (by decide) (fun c => ?_) (fun c => ?_)
  · replace h := h.1 c
    exact zv_go (k_X4_holds_44 hC hR  h) trivial
  · replace h := h.2 c
    refine zv_iload hC dX4_holds_27 rfl ?_
    refine zv_if_eq (tgt := 48) hC dX4_holds_29 (by decide) (fun c => ?_) (fun c => ?_)
    · replace h := h.1 c
      exact zv_go (k_X4_holds_48 hC hR  h) trivial
    · replace h := h.2 c
      refine zv_aload_n hC dX4_holds_32 rfl ?_
      refine zv_getR (j := 19) hC fl_X4_34 dX4_holds_33 rfl rfl ?_
      refine zv_iload_n hC dX4_holds_36 rfl ?_
      refine zv_iload_n hC dX4_holds_37 rfl ?_
      refine zv_callVi (As := [_, _]) hC dX4_holds_38 Y_X0_surely lk_X4_95 (by decide) rfl rfl rfl (Nat.le_of_ble_eq_true rfl) (ok_X0_surely G h) ?_
      intro r_2 σ_1 h
      refine zv_if_eq (tgt := 48) hC dX4_holds_41 (by decide) (fun c => ?_) (fun c => ?_)
      · replace h := h.1 c
        exact zv_go (k_X4_holds_48 hC hR  h) trivial
      · replace h := h.2 c
        exact zv_go (k_X4_holds_44 hC hR  h) trivial
def B_X4_holds_10 (Q : Int32 → zv_St → Prop) (x1 : Int32) (x3 : Int32) (σ : zv_St) : Prop :=
  B_X4_holds_15 Q x1 x3 1 σ
set_option maxRecDepth 20000 in
set_option maxHeartbeats 2000000 in
theorem k_X4_holds_10 {G : zv_G} {X : zv_X} {Q : Int32 → zv_St → Prop}  (hC : zv_C G X M_X4_holds) (hR : zv_R G X M_X4_holds (zv_qi Q))  {x1 : Int32} {x3 : Int32} {σ : zv_St} (h : B_X4_holds_10 Q  x1 x3 σ) : zv_V G X M_X4_holds 10 [(0, .ref (G.2.2.1 27)), (1, .int x1), (3, .int x3)] [] σ := by
  unfold B_X4_holds_10 at h
  refine zv_iconst (v := 1) hC dX4_holds_10 (by decide) ?_
  refine zv_goto (tgt := 15) hC dX4_holds_11 (by decide) ?_
  exact zv_go (k_X4_holds_15 hC hR  h) ⟨rfl, rfl, rfl, trivial⟩
def B_X4_holds (Q : Int32 → zv_St → Prop) (x1 : Int32) (x2 : Int32) (x3 : Int32) (σ : zv_St) : Prop :=
  (x2 = 1 → (B_X4_holds_10 Q x1 x3 σ)) ∧ (¬ x2 = 1 → ((¬ x2 = 2 → (B_X4_holds_15 Q x1 x3 0 σ)) ∧ (x2 = 2 → (B_X4_holds_10 Q x1 x3 σ))))
set_option maxRecDepth 20000 in
set_option maxHeartbeats 2000000 in
theorem k_X4_holds_0 {G : zv_G} {X : zv_X} {Q : Int32 → zv_St → Prop}  (hC : zv_C G X M_X4_holds) (hR : zv_R G X M_X4_holds (zv_qi Q))  {x1 : Int32} {x2 : Int32} {x3 : Int32} {σ : zv_St} (h : B_X4_holds Q  x1 x2 x3 σ) : zv_V G X M_X4_holds 0 [(0, .ref (G.2.2.1 27)), (1, .int x1), (2, .int x2), (3, .int x3)] [] σ := by
  unfold B_X4_holds at h
  refine zv_iload_n hC dX4_holds_0 rfl ?_
  refine zv_iconst (v := 1) hC dX4_holds_1 (by decide) ?_
  refine zv_icmp_eq (tgt := 10) hC dX4_holds_2 (by decide) (fun c => ?_) (fun c => ?_)
  · replace h := h.1 c
    exact zv_go (k_X4_holds_10 hC hR  h) ⟨rfl, rfl, rfl, trivial⟩
  · replace h := h.2 c
    refine zv_iload_n hC dX4_holds_5 rfl ?_
    refine zv_iconst (v := 2) hC dX4_holds_6 (by decide) ?_
    refine zv_icmp_ne (tgt := 14) hC dX4_holds_7 (by decide) (fun c => ?_) (fun c => ?_)
    · replace h := h.1 c
      refine zv_iconst (v := 0) hC dX4_holds_14 (by decide) ?_
      exact zv_go (k_X4_holds_15 hC hR  h) ⟨rfl, rfl, rfl, trivial⟩
    · replace h := h.2 c
      exact zv_go (k_X4_holds_10 hC hR  h) ⟨rfl, rfl, rfl, trivial⟩
theorem ok_X4_holds (G : zv_G) {Q : Int32 → zv_St → Prop} {x1 : Int32} {x2 : Int32} {x3 : Int32} {σ : zv_St} (h : B_X4_holds Q x1 x2 x3 σ) : zv_OK G M_X4_holds yX4_holds [.ref (G.2.2.1 27), .int x1, .int x2, .int x3] σ (zv_qi Q) := zv_ok G _ _ _ _ _ (by decide +kernel) rfl (Nat.le_of_ble_eq_true rfl) (fun X hC hR => zv_go (k_X4_holds_0 hC hR h) ⟨rfl, rfl, rfl, rfl, trivial⟩)
-- X4_wantedByBool
def B_X4_wantedByBool_96 (Q : Int32 → zv_St → Prop) (kk2 : Int32 → Int32 → Int32 → zv_St → Prop) (x1 : Int32) (x2 : Int32) (x3 : Int32) (σ : zv_St) : Prop :=
  kk2 x1 x2 (x3 + 1) σ
set_option maxRecDepth 20000 in
set_option maxHeartbeats 2000000 in
theorem k_X4_wantedByBool_96 {G : zv_G} {X : zv_X} {Q : Int32 → zv_St → Prop} {kk2 : Int32 → Int32 → Int32 → zv_St → Prop} (hC : zv_C G X M_X4_wantedByBool) (hR : zv_R G X M_X4_wantedByBool (zv_qi Q)) (hk2 : ∀ (x1 : Int32) (x2 : Int32) (x3 : Int32) (σ : zv_St), kk2 x1 x2 x3 σ → zv_V G X M_X4_wantedByBool 2 [(0, .ref (G.2.2.1 27)), (1, .int x1), (2, .int x2), (3, .int x3)] [] σ) {x1 : Int32} {x2 : Int32} {x3 : Int32} {σ : zv_St} (h : B_X4_wantedByBool_96 Q kk2 x1 x2 x3 σ) : zv_V G X M_X4_wantedByBool 96 [(0, .ref (G.2.2.1 27)), (1, .int x1), (2, .int x2), (3, .int x3)] [] σ := by
  unfold B_X4_wantedByBool_96 at h
  refine zv_iinc (v := 1) hC dX4_wantedByBool_96 rfl (by decide) (by decide) ?_
  refine zv_goto (tgt := 2) hC dX4_wantedByBool_99 (by decide) ?_
  exact zv_go (hk2 _ _ _ _ h) ⟨rfl, rfl, rfl, rfl, trivial⟩
def B_X4_wantedByBool_78 (Q : Int32 → zv_St → Prop) (kk2 : Int32 → Int32 → Int32 → zv_St → Prop) (x1 : Int32) (x2 : Int32) (x3 : Int32) (x6 : Int32) (x7 : Int32) (σ : zv_St) : Prop :=
  (x6 = 3 → (B_X4_wantedByBool_96 Q kk2 x1 x2 x3 σ)) ∧ (¬ x6 = 3 → (B_X10_isNeeded (fun r_2 σ_1 => (x7 = r_2 → (B_X4_wantedByBool_96 Q kk2 x1 x2 x3 σ_1)) ∧ (¬ x7 = r_2 → (Q (-1) σ_1))) x6 σ))
set_option maxRecDepth 20000 in
set_option maxHeartbeats 2000000 in
theorem k_X4_wantedByBool_78 {G : zv_G} {X : zv_X} {Q : Int32 → zv_St → Prop} {kk2 : Int32 → Int32 → Int32 → zv_St → Prop} (hC : zv_C G X M_X4_wantedByBool) (hR : zv_R G X M_X4_wantedByBool (zv_qi Q)) (hk2 : ∀ (x1 : Int32) (x2 : Int32) (x3 : Int32) (σ : zv_St), kk2 x1 x2 x3 σ → zv_V G X M_X4_wantedByBool 2 [(0, .ref (G.2.2.1 27)), (1, .int x1), (2, .int x2), (3, .int x3)] [] σ) {x1 : Int32} {x2 : Int32} {x3 : Int32} {x6 : Int32} {x7 : Int32} {σ : zv_St} (h : B_X4_wantedByBool_78 Q kk2 x1 x2 x3 x6 x7 σ) : zv_V G X M_X4_wantedByBool 78 [(0, .ref (G.2.2.1 27)), (1, .int x1), (2, .int x2), (3, .int x3), (6, .int x6), (7, .int x7)] [] σ := by
  unfold B_X4_wantedByBool_78 at h
  refine zv_iload hC dX4_wantedByBool_78 rfl ?_
  refine zv_iconst (v := 3) hC dX4_wantedByBool_80 (by decide) ?_
  refine zv_icmp_eq (tgt := 96) hC dX4_wantedByBool_81 (by decide) (fun c => ?_) (fun c => ?_)
  · replace h := h.1 c
    exact zv_go (k_X4_wantedByBool_96 hC hR hk2 h) ⟨rfl, rfl, rfl, rfl, trivial⟩
  · replace h := h.2 c
    refine zv_iload hC dX4_wantedByBool_84 rfl ?_
    refine zv_iload hC dX4_wantedByBool_86 rfl ?_
    refine zv_callSNi (As := [_]) hC dX4_wantedByBool_88 Y_X10_isNeeded lk_X4_92 (by decide) rfl rfl (Nat.le_of_ble_eq_true rfl) (ok_X10_isNeeded G h) ?_
    intro r_2 σ_1 h
    refine zv_icmp_eq (tgt := 96) hC dX4_wantedByBool_91 (by decide) (fun c => ?_) (fun c => ?_)
    · replace h := h.1 c
      exact zv_go (k_X4_wantedByBool_96 hC hR hk2 h) ⟨rfl, rfl, rfl, rfl, trivial⟩
    · replace h := h.2 c
      refine zv_iconst (v := (-1)) hC dX4_wantedByBool_94 (by decide) ?_
      exact (hR _ _ _).1 _ rfl dX4_wantedByBool_95 ⟨_, rfl, h⟩
def L_X4_wantedByBool_2 (Q : Int32 → zv_St → Prop) : Nat → (Int32 → Int32 → Int32 → zv_St → Prop)
  | 0 => fun _ _ _ _ => False
  | u + 1 => fun x1 x2 x3 σ => 
    B_X5_size (fun r_2 σ_1 => (r_2 ≤ x3 → (Q (-1) σ_1)) ∧ (¬ r_2 ≤ x3 → (B_X0_placeInOrder (fun r_4 σ_3 => B_X5_partAt (fun r_6 σ_5 => B_X5_roleAt (fun r_8 σ_7 => B_X4_holds (fun r_10 σ_9 => (¬ r_10 = 0 → (B_X4_wantedByBool_78 Q (L_X4_wantedByBool_2 Q u) x1 x2 x3 r_8 r_10 σ_9)) ∧ (r_10 = 0 → (vp_in r_6 80 ∧ (¬ (σ_9.1 28 r_6.toNatClampNeg) = 0 → (B_X4_wantedByBool_78 Q (L_X4_wantedByBool_2 Q u) x1 x2 x3 r_8 r_10 σ_9)) ∧ ((σ_9.1 28 r_6.toNatClampNeg) = 0 → (Q r_6 σ_9))))) r_6 r_8 x2 σ_7) x1 r_4 σ_5) x1 r_4 σ_3) x1 x3 σ_1))) x1 σ
set_option maxRecDepth 20000 in
set_option maxHeartbeats 2000000 in
theorem kL_X4_wantedByBool_2 {G : zv_G} {X : zv_X} {Q : Int32 → zv_St → Prop}  (hC : zv_C G X M_X4_wantedByBool) (hR : zv_R G X M_X4_wantedByBool (zv_qi Q))  : ∀ (n : Nat) (x1 : Int32) (x2 : Int32) (x3 : Int32) (σ : zv_St), L_X4_wantedByBool_2 Q  n x1 x2 x3 σ → zv_V G X M_X4_wantedByBool 2 [(0, .ref (G.2.2.1 27)), (1, .int x1), (2, .int x2), (3, .int x3)] [] σ := by
  intro n
  induction n with
  | zero => intro x1 x2 x3 σ h; exact h.elim
  | succ n hk2 =>
    intro x1 x2 x3 σ h
    unfold L_X4_wantedByBool_2 at h
    refine zv_iload_n hC dX4_wantedByBool_2 rfl ?_
    refine zv_aload_n hC dX4_wantedByBool_3 rfl ?_
    refine zv_getR (j := 5) hC fl_X4_26 dX4_wantedByBool_4 rfl rfl ?_
    refine zv_iload_n hC dX4_wantedByBool_7 rfl ?_
    refine zv_callVi (As := [_]) hC dX4_wantedByBool_8 Y_X5_size lk_X4_76 (by decide) rfl rfl rfl (Nat.le_of_ble_eq_true rfl) (ok_X5_size G h) ?_
    intro r_2 σ_1 h
    refine zv_icmp_ge (tgt := 102) hC dX4_wantedByBool_11 (by decide) (fun c => ?_) (fun c => ?_)
    · replace h := h.1 c
      refine zv_iconst (v := (-1)) hC dX4_wantedByBool_102 (by decide) ?_
      exact (hR _ _ _).1 _ rfl dX4_wantedByBool_103 ⟨_, rfl, h⟩
    · replace h := h.2 c
      refine zv_aload_n hC dX4_wantedByBool_14 rfl ?_
      refine zv_getR (j := 19) hC fl_X4_34 dX4_wantedByBool_15 rfl rfl ?_
      refine zv_iload_n hC dX4_wantedByBool_18 rfl ?_
      refine zv_iload_n hC dX4_wantedByBool_19 rfl ?_
      refine zv_callVi (As := [_, _]) hC dX4_wantedByBool_20 Y_X0_placeInOrder lk_X4_82 (by decide) rfl rfl rfl (Nat.le_of_ble_eq_true rfl) (ok_X0_placeInOrder G h) ?_
      intro r_4 σ_3 h
      refine zv_istore hC dX4_wantedByBool_23 (by decide) ?_
      refine zv_aload_n hC dX4_wantedByBool_25 rfl ?_
      refine zv_getR (j := 5) hC fl_X4_26 dX4_wantedByBool_26 rfl rfl ?_
      refine zv_iload_n hC dX4_wantedByBool_29 rfl ?_
      refine zv_iload hC dX4_wantedByBool_30 rfl ?_
      refine zv_callVi (As := [_, _]) hC dX4_wantedByBool_32 Y_X5_partAt lk_X4_79 (by decide) rfl rfl rfl (Nat.le_of_ble_eq_true rfl) (ok_X5_partAt G h) ?_
      intro r_6 σ_5 h
      refine zv_istore hC dX4_wantedByBool_35 (by decide) ?_
      refine zv_aload_n hC dX4_wantedByBool_37 rfl ?_
      refine zv_getR (j := 5) hC fl_X4_26 dX4_wantedByBool_38 rfl rfl ?_
      refine zv_iload_n hC dX4_wantedByBool_41 rfl ?_
      refine zv_iload hC dX4_wantedByBool_42 rfl ?_
      refine zv_callVi (As := [_, _]) hC dX4_wantedByBool_44 Y_X5_roleAt lk_X4_85 (by decide) rfl rfl rfl (Nat.le_of_ble_eq_true rfl) (ok_X5_roleAt G h) ?_
      intro r_8 σ_7 h
      refine zv_istore hC dX4_wantedByBool_47 (by decide) ?_
      refine zv_aload_n hC dX4_wantedByBool_49 rfl ?_
      refine zv_iload hC dX4_wantedByBool_50 rfl ?_
      refine zv_iload hC dX4_wantedByBool_52 rfl ?_
      refine zv_iload_n hC dX4_wantedByBool_54 rfl ?_
      refine zv_callVi (As := [_, _, _]) hC dX4_wantedByBool_55 Y_X4_holds lk_X4_88 (by decide) rfl rfl rfl (Nat.le_of_ble_eq_true rfl) (ok_X4_holds G h) ?_
      intro r_10 σ_9 h
      refine zv_istore hC dX4_wantedByBool_58 (by decide) ?_
      refine zv_iload hC dX4_wantedByBool_60 rfl ?_
      refine zv_if_ne (tgt := 78) hC dX4_wantedByBool_62 (by decide) (fun c => ?_) (fun c => ?_)
      · replace h := h.1 c
        exact zv_go (k_X4_wantedByBool_78 hC hR hk2 h) ⟨rfl, rfl, rfl, rfl, rfl, rfl, trivial⟩
      · replace h := h.2 c
        refine zv_aload_n hC dX4_wantedByBool_65 rfl ?_
        refine zv_getR (j := 28) hC fl_X4_9 dX4_wantedByBool_66 rfl rfl ?_
        refine zv_iload hC dX4_wantedByBool_69 rfl ?_
        refine zv_iald hC dX4_wantedByBool_71 rfl h.1 ?_
        replace h := h.2
        refine zv_if_ne (tgt := 78) hC dX4_wantedByBool_72 (by decide) (fun c => ?_) (fun c => ?_)
        · replace h := h.1 c
          exact zv_go (k_X4_wantedByBool_78 hC hR hk2 h) ⟨rfl, rfl, rfl, rfl, rfl, rfl, trivial⟩
        · replace h := h.2 c
          refine zv_iload hC dX4_wantedByBool_75 rfl ?_
          exact (hR _ _ _).1 _ rfl dX4_wantedByBool_77 ⟨_, rfl, h⟩
def B_X4_wantedByBool (Q : Int32 → zv_St → Prop) (x1 : Int32) (x2 : Int32) (σ : zv_St) : Prop :=
  ∃ n2, L_X4_wantedByBool_2 Q n2 x1 x2 0 σ
set_option maxRecDepth 20000 in
set_option maxHeartbeats 2000000 in
theorem k_X4_wantedByBool_0 {G : zv_G} {X : zv_X} {Q : Int32 → zv_St → Prop}  (hC : zv_C G X M_X4_wantedByBool) (hR : zv_R G X M_X4_wantedByBool (zv_qi Q))  {x1 : Int32} {x2 : Int32} {σ : zv_St} (h : B_X4_wantedByBool Q  x1 x2 σ) : zv_V G X M_X4_wantedByBool 0 [(0, .ref (G.2.2.1 27)), (1, .int x1), (2, .int x2)] [] σ := by
  unfold B_X4_wantedByBool at h
  refine zv_iconst (v := 0) hC dX4_wantedByBool_0 (by decide) ?_
  refine zv_istore_n hC dX4_wantedByBool_1 (by decide) ?_
  obtain ⟨n, h⟩ := h
  exact zv_go (kL_X4_wantedByBool_2 hC hR  n _ _ _ _ h) ⟨rfl, rfl, rfl, rfl, trivial⟩
theorem ok_X4_wantedByBool (G : zv_G) {Q : Int32 → zv_St → Prop} {x1 : Int32} {x2 : Int32} {σ : zv_St} (h : B_X4_wantedByBool Q x1 x2 σ) : zv_OK G M_X4_wantedByBool yX4_wantedByBool [.ref (G.2.2.1 27), .int x1, .int x2] σ (zv_qi Q) := zv_ok G _ _ _ _ _ (by decide +kernel) rfl (Nat.le_of_ble_eq_true rfl) (fun X hC hR => zv_go (k_X4_wantedByBool_0 hC hR h) ⟨rfl, rfl, rfl, trivial⟩)
