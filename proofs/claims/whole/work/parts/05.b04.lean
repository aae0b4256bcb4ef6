-- X0_boolWord_19_22_20
def B_X0_boolWord_19_22_20_123 (Q : Int64 → zv_St → Prop) (kk25 : Int32 → Int32 → Int32 → Int64 → Int32 → zv_St → Prop) (x1 : Int32) (x2 : Int32) (x3 : Int32) (x6 : Int64) (x8 : Int32) (σ : zv_St) : Prop :=
  kk25 x1 x2 x3 x6 (x8 + 1) σ
set_option maxRecDepth 20000 in
set_option maxHeartbeats 2000000 in
theorem k_X0_boolWord_19_22_20_123 {G : zv_G} {X : zv_X} {Q : Int64 → zv_St → Prop} {kk25 : Int32 → Int32 → Int32 → Int64 → Int32 → zv_St → Prop} (hC : zv_C G X M_X0_boolWord_19_22_20) (hR : zv_R G X M_X0_boolWord_19_22_20 (zv_ql Q)) (hk25 : ∀ (x1 : Int32) (x2 : Int32) (x3 : Int32) (x6 : Int64) (x8 : Int32) (σ : zv_St), kk25 x1 x2 x3 x6 x8 σ → zv_V G X M_X0_boolWord_19_22_20 25 [(0, .ref (G.2.2.1 19)), (1, .int x1), (2, .int x2), (3, .int x3), (4, .ref (G.2.2.1 22)), (5, .ref (G.2.2.1 20)), (6, .long x6), (8, .int x8)] [] σ) {x1 : Int32} {x2 : Int32} {x3 : Int32} {x6 : Int64} {x8 : Int32} {σ : zv_St} (h : B_X0_boolWord_19_22_20_123 Q kk25 x1 x2 x3 x6 x8 σ) : zv_V G X M_X0_boolWord_19_22_20 123 [(0, .ref (G.2.2.1 19)), (1, .int x1), (2, .int x2), (3, .int x3), (4, .ref (G.2.2.1 22)), (5, .ref (G.2.2.1 20)), (6, .long x6), (8, .int x8)] [] σ := by
  unfold B_X0_boolWord_19_22_20_123 at h
  refine zv_iinc (v := 1) hC dX0_boolWord_123 rfl (by decide) (by decide) ?_
  refine zv_goto (tgt := 25) hC dX0_boolWord_126 (by decide) ?_
  exact zv_go (hk25 _ _ _ _ _ _ h) ⟨rfl, rfl, rfl, rfl, rfl, rfl, rfl, rfl, trivial⟩
def L_X0_boolWord_19_22_20_25 (Q : Int64 → zv_St → Prop) : Nat → (Int32 → Int32 → Int32 → Int64 → Int32 → zv_St → Prop)
  | 0 => fun _ _ _ _ _ _ => False
  | u + 1 => fun x1 x2 x3 x6 x8 σ => 
    B_X5_size (fun r_2 σ_1 => (r_2 ≤ x8 → (vp_in x3 9 ∧ Q (x6 &&& (σ_1.2 26 x3.toNatClampNeg)) σ_1)) ∧ (¬ r_2 ≤ x8 → (B_X5_partAt (fun r_4 σ_3 => B_X5_roleAt (fun r_6 σ_5 => (¬ r_6 = 2 → ((¬ r_6 = 3 → (B_X8_word_22 (fun r_8 σ_7 => B_X0_boolWord_19_22_20_123 Q (L_X0_boolWord_19_22_20_25 Q u) x1 x2 x3 (x6 &&& r_8) x8 σ_7) r_4 x2 σ_5)) ∧ (r_6 = 3 → (B_X8_word_22 (fun r_10 σ_9 => B_X0_countIn (fun σ_11 => B_X0_boolWord_19_22_20_123 Q (L_X0_boolWord_19_22_20_25 Q u) x1 x2 x3 x6 x8 σ_11) r_10 x3 σ_9) r_4 x2 σ_5)))) ∧ (r_6 = 2 → (B_X8_word_20 (fun r_13 σ_12 => B_X0_boolWord_19_22_20_123 Q (L_X0_boolWord_19_22_20_25 Q u) x1 x2 x3 (x6 &&& (r_13 ^^^ (-1))) x8 σ_12) r_4 x2 σ_5))) x1 x8 σ_3) x1 x8 σ_1))) x1 σ
set_option maxRecDepth 20000 in
set_option maxHeartbeats 2000000 in
theorem kL_X0_boolWord_19_22_20_25 {G : zv_G} {X : zv_X} {Q : Int64 → zv_St → Prop}  (hC : zv_C G X M_X0_boolWord_19_22_20) (hR : zv_R G X M_X0_boolWord_19_22_20 (zv_ql Q))  : ∀ (n : Nat) (x1 : Int32) (x2 : Int32) (x3 : Int32) (x6 : Int64) (x8 : Int32) (σ : zv_St), L_X0_boolWord_19_22_20_25 Q  n x1 x2 x3 x6 x8 σ → zv_V G X M_X0_boolWord_19_22_20 25 [(0, .ref (G.2.2.1 19)), (1, .int x1), (2, .int x2), (3, .int x3), (4, .ref (G.2.2.1 22)), (5, .ref (G.2.2.1 20)), (6, .long x6), (8, .int x8)] [] σ := by
  intro n
  induction n with
  | zero => intro x1 x2 x3 x6 x8 σ h; exact h.elim
  | succ n hk25 =>
    intro x1 x2 x3 x6 x8 σ h
    unfold L_X0_boolWord_19_22_20_25 at h
    refine zv_iload hC dX0_boolWord_25 rfl ?_
    refine zv_aload_n hC dX0_boolWord_27 rfl ?_
    refine zv_getR (j := 5) hC fl_X0_36 dX0_boolWord_28 rfl rfl ?_
    refine zv_iload_n hC dX0_boolWord_31 rfl ?_
    refine zv_callVi (As := [_]) hC dX0_boolWord_32 Y_X5_size lk_X0_133 (by decide) rfl rfl rfl (Nat.le_of_ble_eq_true rfl) (ok_X5_size G h) ?_
    intro r_2 σ_1 h
    refine zv_icmp_ge (tgt := 129) hC dX0_boolWord_35 (by decide) (fun c => ?_) (fun c => ?_)
    · replace h := h.1 c
      refine zv_lload hC dX0_boolWord_129 rfl ?_
      refine zv_aload_n hC dX0_boolWord_131 rfl ?_
      refine zv_getR (j := 26) hC fl_X0_28 dX0_boolWord_132 rfl rfl ?_
      refine zv_iload_n hC dX0_boolWord_135 rfl ?_
      refine zv_lald hC dX0_boolWord_136 rfl h.1 ?_
      replace h := h.2
      refine zv_land hC dX0_boolWord_137 ?_
      exact (hR _ _ _).2.2.1 _ rfl dX0_boolWord_138 ⟨_, rfl, h⟩
    · replace h := h.2 c
      refine zv_aload_n hC dX0_boolWord_38 rfl ?_
      refine zv_getR (j := 5) hC fl_X0_36 dX0_boolWord_39 rfl rfl ?_
      refine zv_iload_n hC dX0_boolWord_42 rfl ?_
      refine zv_iload hC dX0_boolWord_43 rfl ?_
      refine zv_callVi (As := [_, _]) hC dX0_boolWord_45 Y_X5_partAt lk_X0_92 (by decide) rfl rfl rfl (Nat.le_of_ble_eq_true rfl) (ok_X5_partAt G h) ?_
      intro r_4 σ_3 h
      refine zv_istore hC dX0_boolWord_48 (by decide) ?_
      refine zv_aload_n hC dX0_boolWord_50 rfl ?_
      refine zv_getR (j := 5) hC fl_X0_36 dX0_boolWord_51 rfl rfl ?_
      refine zv_iload_n hC dX0_boolWord_54 rfl ?_
      refine zv_iload hC dX0_boolWord_55 rfl ?_
      refine zv_callVi (As := [_, _]) hC dX0_boolWord_57 Y_X5_roleAt lk_X0_153 (by decide) rfl rfl rfl (Nat.le_of_ble_eq_true rfl) (ok_X5_roleAt G h) ?_
      intro r_6 σ_5 h
      refine zv_istore hC dX0_boolWord_60 (by decide) ?_
      refine zv_iload hC dX0_boolWord_62 rfl ?_
      refine zv_iconst (v := 2) hC dX0_boolWord_64 (by decide) ?_
      refine zv_icmp_ne (tgt := 88) hC dX0_boolWord_65 (by decide) (fun c => ?_) (fun c => ?_)
      · replace h := h.1 c
        refine zv_iload hC dX0_boolWord_88 rfl ?_
        refine zv_iconst (v := 3) hC dX0_boolWord_90 (by decide) ?_
        refine zv_icmp_ne (tgt := 110) hC dX0_boolWord_91 (by decide) (fun c => ?_) (fun c => ?_)
        · replace h := h.1 c
          refine zv_lload hC dX0_boolWord_110 rfl ?_
          refine zv_aload hC dX0_boolWord_112 rfl ?_
          refine zv_iload hC dX0_boolWord_114 rfl ?_
          refine zv_iload_n hC dX0_boolWord_116 rfl ?_
          refine zv_callVl (As := [_, _]) hC dX0_boolWord_117 Y_X8_word lk_X0_156 (by decide) rfl rfl rfl (Nat.le_of_ble_eq_true rfl) (ok_X8_word_22 G h) ?_
          intro r_8 σ_7 h
          refine zv_land hC dX0_boolWord_120 ?_
          refine zv_lstore hC dX0_boolWord_121 (by decide) ?_
          exact zv_go (k_X0_boolWord_19_22_20_123 hC hR hk25 h) ⟨rfl, rfl, rfl, rfl, rfl, rfl, rfl, rfl, trivial⟩
        · replace h := h.2 c
          refine zv_aload_n hC dX0_boolWord_94 rfl ?_
          refine zv_aload hC dX0_boolWord_95 rfl ?_
          refine zv_iload hC dX0_boolWord_97 rfl ?_
          refine zv_iload_n hC dX0_boolWord_99 rfl ?_
          refine zv_callVl (As := [_, _]) hC dX0_boolWord_100 Y_X8_word lk_X0_156 (by decide) rfl rfl rfl (Nat.le_of_ble_eq_true rfl) (ok_X8_word_22 G h) ?_
          intro r_10 σ_9 h
          refine zv_iload_n hC dX0_boolWord_103 rfl ?_
          refine zv_callVv (As := [_, _]) hC dX0_boolWord_104 Y_X0_countIn lk_X0_160 (by decide) rfl rfl rfl (Nat.le_of_ble_eq_true rfl) (ok_X0_countIn G h) ?_
          intro σ_11 h
          refine zv_goto (tgt := 123) hC dX0_boolWord_107 (by decide) ?_
          exact zv_go (k_X0_boolWord_19_22_20_123 hC hR hk25 h) ⟨rfl, rfl, rfl, rfl, rfl, rfl, rfl, rfl, trivial⟩
      · replace h := h.2 c
        refine zv_lload hC dX0_boolWord_68 rfl ?_
        refine zv_aload hC dX0_boolWord_70 rfl ?_
        refine zv_iload hC dX0_boolWord_72 rfl ?_
        refine zv_iload_n hC dX0_boolWord_74 rfl ?_
        refine zv_callVl (As := [_, _]) hC dX0_boolWord_75 Y_X8_word lk_X0_156 (by decide) rfl rfl rfl (Nat.le_of_ble_eq_true rfl) (ok_X8_word_20 G h) ?_
        intro r_13 σ_12 h
        refine zv_ldc2 hC dX0_boolWord_78 cst_X0_145 ?_
        refine zv_lxor hC dX0_boolWord_81 ?_
        refine zv_land hC dX0_boolWord_82 ?_
        refine zv_lstore hC dX0_boolWord_83 (by decide) ?_
        refine zv_goto (tgt := 123) hC dX0_boolWord_85 (by decide) ?_
        exact zv_go (k_X0_boolWord_19_22_20_123 hC hR hk25 h) ⟨rfl, rfl, rfl, rfl, rfl, rfl, rfl, rfl, trivial⟩
def B_X0_boolWord_19_22_20 (Q : Int64 → zv_St → Prop) (x1 : Int32) (x2 : Int32) (x3 : Int32) (σ : zv_St) : Prop :=
  B_J7_fill_d0a16 (fun σ_1 => vp_in 0 9 ∧ ∀ σ_2 : zv_St, σ_2 = zv_wl σ_1 26 (0 : Int32).toNatClampNeg (-1) → ∃ n25, L_X0_boolWord_19_22_20_25 Q n25 x1 x2 x3 (-1) 0 σ_2) 0 σ
set_option maxRecDepth 20000 in
set_option maxHeartbeats 2000000 in
theorem k_X0_boolWord_19_22_20_0 {G : zv_G} {X : zv_X} {Q : Int64 → zv_St → Prop}  (hC : zv_C G X M_X0_boolWord_19_22_20) (hR : zv_R G X M_X0_boolWord_19_22_20 (zv_ql Q))  {x1 : Int32} {x2 : Int32} {x3 : Int32} {σ : zv_St} (h : B_X0_boolWord_19_22_20 Q  x1 x2 x3 σ) : zv_V G X M_X0_boolWord_19_22_20 0 [(0, .ref (G.2.2.1 19)), (1, .int x1), (2, .int x2), (3, .int x3), (4, .ref (G.2.2.1 22)), (5, .ref (G.2.2.1 20))] [] σ := by
  unfold B_X0_boolWord_19_22_20 at h
  refine zv_ldc2 hC dX0_boolWord_0 cst_X0_145 ?_
  refine zv_lstore hC dX0_boolWord_3 (by decide) ?_
  refine zv_aload_n hC dX0_boolWord_5 rfl ?_
  refine zv_getR (j := 26) hC fl_X0_28 dX0_boolWord_6 rfl rfl ?_
  refine zv_lconst (v := 0) hC dX0_boolWord_9 (by decide) ?_
  refine zv_callSv (As := [_, _]) hC dX0_boolWord_10 Y_J7_fill_d0a16 lk_X0_147 (by decide) rfl rfl (Nat.le_of_ble_eq_true rfl) (ok_J7_fill_d0a16 G h) ?_
  intro σ_1 h
  refine zv_aload_n hC dX0_boolWord_13 rfl ?_
  refine zv_getR (j := 26) hC fl_X0_28 dX0_boolWord_14 rfl rfl ?_
  refine zv_iconst (v := 0) hC dX0_boolWord_17 (by decide) ?_
  refine zv_ldc2 hC dX0_boolWord_18 cst_X0_145 ?_
  refine zv_last hC dX0_boolWord_21 rfl h.1 ?_
  replace h := h.2 _ rfl
  refine zv_iconst (v := 0) hC dX0_boolWord_22 (by decide) ?_
  refine zv_istore hC dX0_boolWord_23 (by decide) ?_
  obtain ⟨n, h⟩ := h
  exact zv_go (kL_X0_boolWord_19_22_20_25 hC hR  n _ _ _ _ _ _ h) ⟨rfl, rfl, rfl, rfl, rfl, rfl, rfl, rfl, trivial⟩
theorem ok_X0_boolWord_19_22_20 (G : zv_G) {Q : Int64 → zv_St → Prop} {x1 : Int32} {x2 : Int32} {x3 : Int32} {σ : zv_St} (h : B_X0_boolWord_19_22_20 Q x1 x2 x3 σ) : zv_OK G M_X0_boolWord_19_22_20 yX0_boolWord [.ref (G.2.2.1 19), .int x1, .int x2, .int x3, .ref (G.2.2.1 22), .ref (G.2.2.1 20)] σ (zv_ql Q) := zv_ok G _ _ _ _ _ (by decide +kernel) rfl (Nat.le_of_ble_eq_true rfl) (fun X hC hR => zv_go (k_X0_boolWord_19_22_20_0 hC hR h) ⟨rfl, rfl, rfl, rfl, rfl, rfl, trivial⟩)
-- X8_setWord_22
def B_X8_setWord_22 (Q : zv_St → Prop) (x1 : Int32) (x2 : Int32) (x3 : Int64) (σ : zv_St) : Prop :=
  vp_in ((x1 * 8) + x2) 640 ∧ ∀ σ_1 : zv_St, σ_1 = zv_wl σ 23 ((x1 * 8) + x2).toNatClampNeg x3 → Q σ_1
set_option maxRecDepth 20000 in
set_option maxHeartbeats 2000000 in
theorem k_X8_setWord_22_0 {G : zv_G} {X : zv_X} {Q : zv_St → Prop}  (hC : zv_C G X M_X8_setWord_22) (hR : zv_R G X M_X8_setWord_22 (zv_qv Q))  {x1 : Int32} {x2 : Int32} {x3 : Int64} {σ : zv_St} (h : B_X8_setWord_22 Q  x1 x2 x3 σ) : zv_V G X M_X8_setWord_22 0 [(0, .ref (G.2.2.1 22)), (1, .int x1), (2, .int x2), (3, .long x3)] [] σ := by
  unfold B_X8_setWord_22 at h
  refine zv_aload_n hC dX8_setWord_0 rfl ?_
  refine zv_getR (j := 23) hC fl_X8_9 dX8_setWord_1 rfl rfl ?_
  refine zv_iload_n hC dX8_setWord_4 rfl ?_
  refine zv_bipush (v := 8) hC dX8_setWord_5 (by decide) ?_
  refine zv_imul hC dX8_setWord_7 ?_
  refine zv_iload_n hC dX8_setWord_8 rfl ?_
  refine zv_iadd hC dX8_setWord_9 ?_
  refine zv_lload_n hC dX8_setWord_10 rfl ?_
  refine zv_last hC dX8_setWord_11 rfl h.1 ?_
  replace h := h.2 _ rfl
  exact (hR _ _ _).2.2.2.1 rfl dX8_setWord_12 ⟨rfl, h⟩
theorem ok_X8_setWord_22 (G : zv_G) {Q : zv_St → Prop} {x1 : Int32} {x2 : Int32} {x3 : Int64} {σ : zv_St} (h : B_X8_setWord_22 Q x1 x2 x3 σ) : zv_OK G M_X8_setWord_22 yX8_setWord [.ref (G.2.2.1 22), .int x1, .int x2, .long x3] σ (zv_qv Q) := zv_ok G _ _ _ _ _ (by decide +kernel) rfl (Nat.le_of_ble_eq_true rfl) (fun X hC hR => zv_go (k_X8_setWord_22_0 hC hR h) ⟨rfl, rfl, rfl, rfl, trivial⟩)
-- X0_fillByBool
def L_X0_fillByBool_11 (Q : zv_St → Prop) : Nat → (Int32 → Int32 → Int32 → zv_St → Prop)
  | 0 => fun _ _ _ _ => False
  | u + 1 => fun x1 x2 x3 σ => 
    (8 ≤ x3 → (Q σ)) ∧ (¬ 8 ≤ x3 → (B_X0_boolWord_19_20_22 (fun r_2 σ_1 => B_X8_setWord_20 (fun σ_3 => B_X0_boolWord_19_22_20 (fun r_5 σ_4 => B_X8_setWord_22 (fun σ_6 => (L_X0_fillByBool_11 Q u) x1 x2 (x3 + 1) σ_6) x1 x3 r_5 σ_4) x1 x3 x2 σ_3) x1 x3 r_2 σ_1) x1 x3 x2 σ))
set_option maxRecDepth 20000 in
set_option maxHeartbeats 2000000 in
theorem kL_X0_fillByBool_11 {G : zv_G} {X : zv_X} {Q : zv_St → Prop}  (hC : zv_C G X M_X0_fillByBool) (hR : zv_R G X M_X0_fillByBool (zv_qv Q))  : ∀ (n : Nat) (x1 : Int32) (x2 : Int32) (x3 : Int32) (σ : zv_St), L_X0_fillByBool_11 Q  n x1 x2 x3 σ → zv_V G X M_X0_fillByBool 11 [(0, .ref (G.2.2.1 19)), (1, .int x1), (2, .int x2), (3, .int x3)] [] σ := by
  intro n
  induction n with
  | zero => intro x1 x2 x3 σ h; exact h.elim
  | succ n hk11 =>
    intro x1 x2 x3 σ h
    unfold L_X0_fillByBool_11 at h
    refine zv_iload_n hC dX0_fillByBool_11 rfl ?_
    refine zv_bipush (v := 8) hC dX0_fillByBool_12 (by decide) ?_
    refine zv_icmp_ge (tgt := 71) hC dX0_fillByBool_14 (by decide) (fun c => ?_) (fun c => ?_)
    · replace h := h.1 c
      exact (hR _ _ _).2.2.2.1 rfl dX0_fillByBool_71 ⟨rfl, h⟩
    · replace h := h.2 c
      refine zv_aload_n hC dX0_fillByBool_17 rfl ?_
      refine zv_getR (j := 20) hC fl_X0_12 dX0_fillByBool_18 rfl rfl ?_
      refine zv_iload_n hC dX0_fillByBool_21 rfl ?_
      refine zv_iload_n hC dX0_fillByBool_22 rfl ?_
      refine zv_aload_n hC dX0_fillByBool_23 rfl ?_
      refine zv_iload_n hC dX0_fillByBool_24 rfl ?_
      refine zv_iload_n hC dX0_fillByBool_25 rfl ?_
      refine zv_iload_n hC dX0_fillByBool_26 rfl ?_
      refine zv_aload_n hC dX0_fillByBool_27 rfl ?_
      refine zv_getR (j := 20) hC fl_X0_12 dX0_fillByBool_28 rfl rfl ?_
      refine zv_aload_n hC dX0_fillByBool_31 rfl ?_
      refine zv_getR (j := 22) hC fl_X0_18 dX0_fillByBool_32 rfl rfl ?_
      refine zv_callVl (As := [_, _, _, _, _]) hC dX0_fillByBool_35 Y_X0_boolWord lk_X0_137 (by decide) rfl rfl rfl (Nat.le_of_ble_eq_true rfl) (ok_X0_boolWord_19_20_22 G h) ?_
      intro r_2 σ_1 h
      refine zv_callVv (As := [_, _, _]) hC dX0_fillByBool_38 Y_X8_setWord lk_X0_141 (by decide) rfl rfl rfl (Nat.le_of_ble_eq_true rfl) (ok_X8_setWord_20 G h) ?_
      intro σ_3 h
      refine zv_aload_n hC dX0_fillByBool_41 rfl ?_
      refine zv_getR (j := 22) hC fl_X0_18 dX0_fillByBool_42 rfl rfl ?_
      refine zv_iload_n hC dX0_fillByBool_45 rfl ?_
      refine zv_iload_n hC dX0_fillByBool_46 rfl ?_
      refine zv_aload_n hC dX0_fillByBool_47 rfl ?_
      refine zv_iload_n hC dX0_fillByBool_48 rfl ?_
      refine zv_iload_n hC dX0_fillByBool_49 rfl ?_
      refine zv_iload_n hC dX0_fillByBool_50 rfl ?_
      refine zv_aload_n hC dX0_fillByBool_51 rfl ?_
      refine zv_getR (j := 22) hC fl_X0_18 dX0_fillByBool_52 rfl rfl ?_
      refine zv_aload_n hC dX0_fillByBool_55 rfl ?_
      refine zv_getR (j := 20) hC fl_X0_12 dX0_fillByBool_56 rfl rfl ?_
      refine zv_callVl (As := [_, _, _, _, _]) hC dX0_fillByBool_59 Y_X0_boolWord lk_X0_137 (by decide) rfl rfl rfl (Nat.le_of_ble_eq_true rfl) (ok_X0_boolWord_19_22_20 G h) ?_
      intro r_5 σ_4 h
      refine zv_callVv (As := [_, _, _]) hC dX0_fillByBool_62 Y_X8_setWord lk_X0_141 (by decide) rfl rfl rfl (Nat.le_of_ble_eq_true rfl) (ok_X8_setWord_22 G h) ?_
      intro σ_6 h
      refine zv_iinc (v := 1) hC dX0_fillByBool_65 rfl (by decide) (by decide) ?_
      refine zv_goto (tgt := 11) hC dX0_fillByBool_68 (by decide) ?_
      exact zv_go (hk11 _ _ _ _ h) ⟨rfl, rfl, rfl, rfl, trivial⟩
def B_X0_fillByBool (Q : zv_St → Prop) (x1 : Int32) (σ : zv_St) : Prop :=
  B_X5_leastOf (fun r_2 σ_1 => ∃ n11, L_X0_fillByBool_11 Q n11 x1 r_2 0 σ_1) x1 σ
set_option maxRecDepth 20000 in
set_option maxHeartbeats 2000000 in
theorem k_X0_fillByBool_0 {G : zv_G} {X : zv_X} {Q : zv_St → Prop}  (hC : zv_C G X M_X0_fillByBool) (hR : zv_R G X M_X0_fillByBool (zv_qv Q))  {x1 : Int32} {σ : zv_St} (h : B_X0_fillByBool Q  x1 σ) : zv_V G X M_X0_fillByBool 0 [(0, .ref (G.2.2.1 19)), (1, .int x1)] [] σ := by
  unfold B_X0_fillByBool at h
  refine zv_aload_n hC dX0_fillByBool_0 rfl ?_
  refine zv_getR (j := 5) hC fl_X0_36 dX0_fillByBool_1 rfl rfl ?_
  refine zv_iload_n hC dX0_fillByBool_4 rfl ?_
  refine zv_callVi (As := [_]) hC dX0_fillByBool_5 Y_X5_leastOf lk_X0_134 (by decide) rfl rfl rfl (Nat.le_of_ble_eq_true rfl) (ok_X5_leastOf G h) ?_
  intro r_2 σ_1 h
  refine zv_istore_n hC dX0_fillByBool_8 (by decide) ?_
  refine zv_iconst (v := 0) hC dX0_fillByBool_9 (by decide) ?_
  refine zv_istore_n hC dX0_fillByBool_10 (by decide) ?_
  obtain ⟨n, h⟩ := h
  exact zv_go (kL_X0_fillByBool_11 hC hR  n _ _ _ _ h) ⟨rfl, rfl, rfl, rfl, trivial⟩
theorem ok_X0_fillByBool (G : zv_G) {Q : zv_St → Prop} {x1 : Int32} {σ : zv_St} (h : B_X0_fillByBool Q x1 σ) : zv_OK G M_X0_fillByBool yX0_fillByBool [.ref (G.2.2.1 19), .int x1] σ (zv_qv Q) := zv_ok G _ _ _ _ _ (by decide +kernel) rfl (Nat.le_of_ble_eq_true rfl) (fun X hC hR => zv_go (k_X0_fillByBool_0 hC hR h) ⟨rfl, rfl, trivial⟩)
-- X5_first
def B_X5_first (Q : Int32 → zv_St → Prop) (x1 : Int32) (σ : zv_St) : Prop :=
  vp_in x1 80 ∧ Q (σ.1 7 x1.toNatClampNeg) σ
set_option maxRecDepth 20000 in
set_option maxHeartbeats 2000000 in
theorem k_X5_first_0 {G : zv_G} {X : zv_X} {Q : Int32 → zv_St → Prop}  (hC : zv_C G X M_X5_first) (hR : zv_R G X M_X5_first (zv_qi Q))  {x1 : Int32} {σ : zv_St} (h : B_X5_first Q  x1 σ) : zv_V G X M_X5_first 0 [(0, .ref (G.2.2.1 5)), (1, .int x1)] [] σ := by
  unfold B_X5_first at h
  refine zv_aload_n hC dX5_first_0 rfl ?_
  refine zv_getR (j := 7) hC fl_X5_15 dX5_first_1 rfl rfl ?_
  refine zv_iload_n hC dX5_first_4 rfl ?_
  refine zv_iald hC dX5_first_5 rfl h.1 ?_
  replace h := h.2
  exact (hR _ _ _).1 _ rfl dX5_first_6 ⟨_, rfl, h⟩
theorem ok_X5_first (G : zv_G) {Q : Int32 → zv_St → Prop} {x1 : Int32} {σ : zv_St} (h : B_X5_first Q x1 σ) : zv_OK G M_X5_first yX5_first [.ref (G.2.2.1 5), .int x1] σ (zv_qi Q) := zv_ok G _ _ _ _ _ (by decide +kernel) rfl (Nat.le_of_ble_eq_true rfl) (fun X hC hR => zv_go (k_X5_first_0 hC hR h) ⟨rfl, rfl, trivial⟩)
-- X5_second
def B_X5_second (Q : Int32 → zv_St → Prop) (x1 : Int32) (σ : zv_St) : Prop :=
  vp_in x1 80 ∧ Q (σ.1 8 x1.toNatClampNeg) σ
set_option maxRecDepth 20000 in
set_option maxHeartbeats 2000000 in
theorem k_X5_second_0 {G : zv_G} {X : zv_X} {Q : Int32 → zv_St → Prop}  (hC : zv_C G X M_X5_second) (hR : zv_R G X M_X5_second (zv_qi Q))  {x1 : Int32} {σ : zv_St} (h : B_X5_second Q  x1 σ) : zv_V G X M_X5_second 0 [(0, .ref (G.2.2.1 5)), (1, .int x1)] [] σ := by
  unfold B_X5_second at h
  refine zv_aload_n hC dX5_second_0 rfl ?_
  refine zv_getR (j := 8) hC fl_X5_18 dX5_second_1 rfl rfl ?_
  refine zv_iload_n hC dX5_second_4 rfl ?_
  refine zv_iald hC dX5_second_5 rfl h.1 ?_
  replace h := h.2
  exact (hR _ _ _).1 _ rfl dX5_second_6 ⟨_, rfl, h⟩
theorem ok_X5_second (G : zv_G) {Q : Int32 → zv_St → Prop} {x1 : Int32} {σ : zv_St} (h : B_X5_second Q x1 σ) : zv_OK G M_X5_second yX5_second [.ref (G.2.2.1 5), .int x1] σ (zv_qi Q) := zv_ok G _ _ _ _ _ (by decide +kernel) rfl (Nat.le_of_ble_eq_true rfl) (fun X hC hR => zv_go (k_X5_second_0 hC hR h) ⟨rfl, rfl, trivial⟩)
-- X8_add_20
def B_X8_add_20 (Q : zv_St → Prop) (x1 : Int32) (x2 : Int32) (σ : zv_St) : Prop :=
  vp_in ((x1 * 8) + (x2 >>> ((6 : Int32) &&& 31))) 640 ∧ vp_in ((x1 * 8) + (x2 >>> ((6 : Int32) &&& 31))) 640 ∧ ∀ σ_1 : zv_St, σ_1 = zv_wl σ 21 ((x1 * 8) + (x2 >>> ((6 : Int32) &&& 31))).toNatClampNeg ((σ.2 21 ((x1 * 8) + (x2 >>> ((6 : Int32) &&& 31))).toNatClampNeg) ||| ((1 : Int64) <<< (Int32.toInt64 (x2 &&& 63) &&& 63))) → Q σ_1
set_option maxRecDepth 20000 in
set_option maxHeartbeats 2000000 in
theorem k_X8_add_20_0 {G : zv_G} {X : zv_X} {Q : zv_St → Prop}  (hC : zv_C G X M_X8_add_20) (hR : zv_R G X M_X8_add_20 (zv_qv Q))  {x1 : Int32} {x2 : Int32} {σ : zv_St} (h : B_X8_add_20 Q  x1 x2 σ) : zv_V G X M_X8_add_20 0 [(0, .ref (G.2.2.1 20)), (1, .int x1), (2, .int x2)] [] σ := by
  unfold B_X8_add_20 at h
  refine zv_aload_n hC dX8_add_0 rfl ?_
  refine zv_getR (j := 21) hC fl_X8_9 dX8_add_1 rfl rfl ?_
  refine zv_iload_n hC dX8_add_4 rfl ?_
  refine zv_bipush (v := 8) hC dX8_add_5 (by decide) ?_
  refine zv_imul hC dX8_add_7 ?_
  refine zv_iload_n hC dX8_add_8 rfl ?_
  refine zv_bipush (v := 6) hC dX8_add_9 (by decide) ?_
  refine zv_ishr hC dX8_add_11 ?_
  refine zv_iadd hC dX8_add_12 ?_
  refine zv_dup2 hC dX8_add_13 rfl rfl ?_
  refine zv_lald hC dX8_add_14 rfl h.1 ?_
  replace h := h.2
  refine zv_lconst (v := 1) hC dX8_add_15 (by decide) ?_
  refine zv_iload_n hC dX8_add_16 rfl ?_
  refine zv_bipush (v := 63) hC dX8_add_17 (by decide) ?_
  refine zv_iand hC dX8_add_19 ?_
  refine zv_lshl hC dX8_add_20 ?_
  refine zv_lor hC dX8_add_21 ?_
  refine zv_last hC dX8_add_22 rfl h.1 ?_
  replace h := h.2 _ rfl
  exact (hR _ _ _).2.2.2.1 rfl dX8_add_23 ⟨rfl, h⟩
theorem ok_X8_add_20 (G : zv_G) {Q : zv_St → Prop} {x1 : Int32} {x2 : Int32} {σ : zv_St} (h : B_X8_add_20 Q x1 x2 σ) : zv_OK G M_X8_add_20 yX8_add [.ref (G.2.2.1 20), .int x1, .int x2] σ (zv_qv Q) := zv_ok G _ _ _ _ _ (by decide +kernel) rfl (Nat.le_of_ble_eq_true rfl) (fun X hC hR => zv_go (k_X8_add_20_0 hC hR h) ⟨rfl, rfl, rfl, trivial⟩)
-- X8_add_22
def B_X8_add_22 (Q : zv_St → Prop) (x1 : Int32) (x2 : Int32) (σ : zv_St) : Prop :=
  vp_in ((x1 * 8) + (x2 >>> ((6 : Int32) &&& 31))) 640 ∧ vp_in ((x1 * 8) + (x2 >>> ((6 : Int32) &&& 31))) 640 ∧ ∀ σ_1 : zv_St, σ_1 = zv_wl σ 23 ((x1 * 8) + (x2 >>> ((6 : Int32) &&& 31))).toNatClampNeg ((σ.2 23 ((x1 * 8) + (x2 >>> ((6 : Int32) &&& 31))).toNatClampNeg) ||| ((1 : Int64) <<< (Int32.toInt64 (x2 &&& 63) &&& 63))) → Q σ_1
set_option maxRecDepth 20000 in
set_option maxHeartbeats 2000000 in
theorem k_X8_add_22_0 {G : zv_G} {X : zv_X} {Q : zv_St → Prop}  (hC : zv_C G X M_X8_add_22) (hR : zv_R G X M_X8_add_22 (zv_qv Q))  {x1 : Int32} {x2 : Int32} {σ : zv_St} (h : B_X8_add_22 Q  x1 x2 σ) : zv_V G X M_X8_add_22 0 [(0, .ref (G.2.2.1 22)), (1, .int x1), (2, .int x2)] [] σ := by
  unfold B_X8_add_22 at h
  refine zv_aload_n hC dX8_add_0 rfl ?_
  refine zv_getR (j := 23) hC fl_X8_9 dX8_add_1 rfl rfl ?_
  refine zv_iload_n hC dX8_add_4 rfl ?_
  refine zv_bipush (v := 8) hC dX8_add_5 (by decide) ?_
  refine zv_imul hC dX8_add_7 ?_
  refine zv_iload_n hC dX8_add_8 rfl ?_
  refine zv_bipush (v := 6) hC dX8_add_9 (by decide) ?_
  refine zv_ishr hC dX8_add_11 ?_
  refine zv_iadd hC dX8_add_12 ?_
  refine zv_dup2 hC dX8_add_13 rfl rfl ?_
  refine zv_lald hC dX8_add_14 rfl h.1 ?_
  replace h := h.2
  refine zv_lconst (v := 1) hC dX8_add_15 (by decide) ?_
  refine zv_iload_n hC dX8_add_16 rfl ?_
  refine zv_bipush (v := 63) hC dX8_add_17 (by decide) ?_
  refine zv_iand hC dX8_add_19 ?_
  refine zv_lshl hC dX8_add_20 ?_
  refine zv_lor hC dX8_add_21 ?_
  refine zv_last hC dX8_add_22 rfl h.1 ?_
  replace h := h.2 _ rfl
  exact (hR _ _ _).2.2.2.1 rfl dX8_add_23 ⟨rfl, h⟩
theorem ok_X8_add_22 (G : zv_G) {Q : zv_St → Prop} {x1 : Int32} {x2 : Int32} {σ : zv_St} (h : B_X8_add_22 Q x1 x2 σ) : zv_OK G M_X8_add_22 yX8_add [.ref (G.2.2.1 22), .int x1, .int x2] σ (zv_qv Q) := zv_ok G _ _ _ _ _ (by decide +kernel) rfl (Nat.le_of_ble_eq_true rfl) (fun X hC hR => zv_go (k_X8_add_22_0 hC hR h) ⟨rfl, rfl, rfl, trivial⟩)
-- X0_addToBoth
def B_X0_addToBoth (Q : zv_St → Prop) (x1 : Int32) (x2 : Int32) (σ : zv_St) : Prop :=
  B_X8_add_20 (fun σ_1 => B_X8_add_22 (fun σ_2 => Q σ_2) x1 x2 σ_1) x1 x2 σ
set_option maxRecDepth 20000 in
set_option maxHeartbeats 2000000 in
theorem k_X0_addToBoth_0 {G : zv_G} {X : zv_X} {Q : zv_St → Prop}  (hC : zv_C G X M_X0_addToBoth) (hR : zv_R G X M_X0_addToBoth (zv_qv Q))  {x1 : Int32} {x2 : Int32} {σ : zv_St} (h : B_X0_addToBoth Q  x1 x2 σ) : zv_V G X M_X0_addToBoth 0 [(0, .ref (G.2.2.1 19)), (1, .int x1), (2, .int x2)] [] σ := by
  unfold B_X0_addToBoth at h
  refine zv_aload_n hC dX0_addToBoth_0 rfl ?_
  refine zv_getR (j := 20) hC fl_X0_12 dX0_addToBoth_1 rfl rfl ?_
  refine zv_iload_n hC dX0_addToBoth_4 rfl ?_
  refine zv_iload_n hC dX0_addToBoth_5 rfl ?_
  refine zv_callVv (As := [_, _]) hC dX0_addToBoth_6 Y_X8_add lk_X0_120 (by decide) rfl rfl rfl (Nat.le_of_ble_eq_true rfl) (ok_X8_add_20 G h) ?_
  intro σ_1 h
  refine zv_aload_n hC dX0_addToBoth_9 rfl ?_
  refine zv_getR (j := 22) hC fl_X0_18 dX0_addToBoth_10 rfl rfl ?_
  refine zv_iload_n hC dX0_addToBoth_13 rfl ?_
  refine zv_iload_n hC dX0_addToBoth_14 rfl ?_
  refine zv_callVv (As := [_, _]) hC dX0_addToBoth_15 Y_X8_add lk_X0_120 (by decide) rfl rfl rfl (Nat.le_of_ble_eq_true rfl) (ok_X8_add_22 G h) ?_
  intro σ_2 h
  exact (hR _ _ _).2.2.2.1 rfl dX0_addToBoth_18 ⟨rfl, h⟩
theorem ok_X0_addToBoth (G : zv_G) {Q : zv_St → Prop} {x1 : Int32} {x2 : Int32} {σ : zv_St} (h : B_X0_addToBoth Q x1 x2 σ) : zv_OK G M_X0_addToBoth yX0_addToBoth [.ref (G.2.2.1 19), .int x1, .int x2] σ (zv_qv Q) := zv_ok G _ _ _ _ _ (by decide +kernel) rfl (Nat.le_of_ble_eq_true rfl) (fun X hC hR => zv_go (k_X0_addToBoth_0 hC hR h) ⟨rfl, rfl, rfl, trivial⟩)
-- X0_fillByRange
def L_X0_fillByRange_9 (Q : zv_St → Prop) : Nat → (Int32 → Int32 → zv_St → Prop)
  | 0 => fun _ _ _ => False
  | u + 1 => fun x1 x2 σ => 
    B_X5_second (fun r_2 σ_1 => (r_2 < x2 → (Q σ_1)) ∧ (¬ r_2 < x2 → (B_X0_addToBoth (fun σ_3 => (L_X0_fillByRange_9 Q u) x1 (x2 + 1) σ_3) x1 x2 σ_1))) x1 σ
set_option maxRecDepth 20000 in
set_option maxHeartbeats 2000000 in
theorem kL_X0_fillByRange_9 {G : zv_G} {X : zv_X} {Q : zv_St → Prop}  (hC : zv_C G X M_X0_fillByRange) (hR : zv_R G X M_X0_fillByRange (zv_qv Q))  : ∀ (n : Nat) (x1 : Int32) (x2 : Int32) (σ : zv_St), L_X0_fillByRange_9 Q  n x1 x2 σ → zv_V G X M_X0_fillByRange 9 [(0, .ref (G.2.2.1 19)), (1, .int x1), (2, .int x2)] [] σ := by
  intro n
  induction n with
  | zero => intro x1 x2 σ h; exact h.elim
  | succ n hk9 =>
    intro x1 x2 σ h
    unfold L_X0_fillByRange_9 at h
    refine zv_iload_n hC dX0_fillByRange_9 rfl ?_
    refine zv_aload_n hC dX0_fillByRange_10 rfl ?_
    refine zv_getR (j := 5) hC fl_X0_36 dX0_fillByRange_11 rfl rfl ?_
    refine zv_iload_n hC dX0_fillByRange_14 rfl ?_
    refine zv_callVi (As := [_]) hC dX0_fillByRange_15 Y_X5_second lk_X0_117 (by decide) rfl rfl rfl (Nat.le_of_ble_eq_true rfl) (ok_X5_second G h) ?_
    intro r_2 σ_1 h
    refine zv_icmp_gt (tgt := 33) hC dX0_fillByRange_18 (by decide) (fun c => ?_) (fun c => ?_)
    · replace h := h.1 c
      exact (hR _ _ _).2.2.2.1 rfl dX0_fillByRange_33 ⟨rfl, h⟩
    · replace h := h.2 c
      refine zv_aload_n hC dX0_fillByRange_21 rfl ?_
      refine zv_iload_n hC dX0_fillByRange_22 rfl ?_
      refine zv_iload_n hC dX0_fillByRange_23 rfl ?_
      refine zv_callVv (As := [_, _]) hC dX0_fillByRange_24 Y_X0_addToBoth lk_X0_113 (by decide) rfl rfl rfl (Nat.le_of_ble_eq_true rfl) (ok_X0_addToBoth G h) ?_
      intro σ_3 h
      refine zv_iinc (v := 1) hC dX0_fillByRange_27 rfl (by decide) (by decide) ?_
      refine zv_goto (tgt := 9) hC dX0_fillByRange_30 (by decide) ?_
      exact zv_go (hk9 _ _ _ h) ⟨rfl, rfl, rfl, trivial⟩
def B_X0_fillByRange (Q : zv_St → Prop) (x1 : Int32) (σ : zv_St) : Prop :=
  B_X5_first (fun r_2 σ_1 => ∃ n9, L_X0_fillByRange_9 Q n9 x1 r_2 σ_1) x1 σ
set_option maxRecDepth 20000 in
set_option maxHeartbeats 2000000 in
theorem k_X0_fillByRange_0 {G : zv_G} {X : zv_X} {Q : zv_St → Prop}  (hC : zv_C G X M_X0_fillByRange) (hR : zv_R G X M_X0_fillByRange (zv_qv Q))  {x1 : Int32} {σ : zv_St} (h : B_X0_fillByRange Q  x1 σ) : zv_V G X M_X0_fillByRange 0 [(0, .ref (G.2.2.1 19)), (1, .int x1)] [] σ := by
  unfold B_X0_fillByRange at h
  refine zv_aload_n hC dX0_fillByRange_0 rfl ?_
  refine zv_getR (j := 5) hC fl_X0_36 dX0_fillByRange_1 rfl rfl ?_
  refine zv_iload_n hC dX0_fillByRange_4 rfl ?_
  refine zv_callVi (As := [_]) hC dX0_fillByRange_5 Y_X5_first lk_X0_102 (by decide) rfl rfl rfl (Nat.le_of_ble_eq_true rfl) (ok_X5_first G h) ?_
  intro r_2 σ_1 h
  refine zv_istore_n hC dX0_fillByRange_8 (by decide) ?_
  obtain ⟨n, h⟩ := h
  exact zv_go (kL_X0_fillByRange_9 hC hR  n _ _ _ h) ⟨rfl, rfl, rfl, trivial⟩
theorem ok_X0_fillByRange (G : zv_G) {Q : zv_St → Prop} {x1 : Int32} {σ : zv_St} (h : B_X0_fillByRange Q x1 σ) : zv_OK G M_X0_fillByRange yX0_fillByRange [.ref (G.2.2.1 19), .int x1] σ (zv_qv Q) := zv_ok G _ _ _ _ _ (by decide +kernel) rfl (Nat.le_of_ble_eq_true rfl) (fun X hC hR => zv_go (k_X0_fillByRange_0 hC hR h) ⟨rfl, rfl, trivial⟩)
-- X3_objectAt
def B_X3_objectAt (Q : Int32 → zv_St → Prop) (x1 : Int32) (x2 : Int32) (σ : zv_St) : Prop :=
  vp_in ((x1 * 60) + x2) 960 ∧ Q (σ.1 2 ((x1 * 60) + x2).toNatClampNeg) σ
set_option maxRecDepth 20000 in
set_option maxHeartbeats 2000000 in
theorem k_X3_objectAt_0 {G : zv_G} {X : zv_X} {Q : Int32 → zv_St → Prop}  (hC : zv_C G X M_X3_objectAt) (hR : zv_R G X M_X3_objectAt (zv_qi Q))  {x1 : Int32} {x2 : Int32} {σ : zv_St} (h : B_X3_objectAt Q  x1 x2 σ) : zv_V G X M_X3_objectAt 0 [(0, .ref (G.2.2.1 1)), (1, .int x1), (2, .int x2)] [] σ := by
  unfold B_X3_objectAt at h
  refine zv_aload_n hC dX3_objectAt_0 rfl ?_
  refine zv_getR (j := 2) hC fl_X3_9 dX3_objectAt_1 rfl rfl ?_
  refine zv_iload_n hC dX3_objectAt_4 rfl ?_
  refine zv_bipush (v := 60) hC dX3_objectAt_5 (by decide) ?_
  refine zv_imul hC dX3_objectAt_7 ?_
  refine zv_iload_n hC dX3_objectAt_8 rfl ?_
  refine zv_iadd hC dX3_objectAt_9 ?_
  refine zv_iald hC dX3_objectAt_10 rfl h.1 ?_
  replace h := h.2
  exact (hR _ _ _).1 _ rfl dX3_objectAt_11 ⟨_, rfl, h⟩
theorem ok_X3_objectAt (G : zv_G) {Q : Int32 → zv_St → Prop} {x1 : Int32} {x2 : Int32} {σ : zv_St} (h : B_X3_objectAt Q x1 x2 σ) : zv_OK G M_X3_objectAt yX3_objectAt [.ref (G.2.2.1 1), .int x1, .int x2] σ (zv_qi Q) := zv_ok G _ _ _ _ _ (by decide +kernel) rfl (Nat.le_of_ble_eq_true rfl) (fun X hC hR => zv_go (k_X3_objectAt_0 hC hR h) ⟨rfl, rfl, rfl, trivial⟩)
-- X0_fillByList
def L_X0_fillByList_11 (Q : zv_St → Prop) : Nat → (Int32 → Int32 → Int32 → zv_St → Prop)
  | 0 => fun _ _ _ _ => False
  | u + 1 => fun x1 x2 x3 σ => 
    B_X3_size (fun r_2 σ_1 => (r_2 ≤ x3 → (Q σ_1)) ∧ (¬ r_2 ≤ x3 → (B_X3_objectAt (fun r_4 σ_3 => B_X0_addToBoth (fun σ_5 => (L_X0_fillByList_11 Q u) x1 x2 (x3 + 1) σ_5) x1 r_4 σ_3) x2 x3 σ_1))) x2 σ
set_option maxRecDepth 20000 in
set_option maxHeartbeats 2000000 in
theorem kL_X0_fillByList_11 {G : zv_G} {X : zv_X} {Q : zv_St → Prop}  (hC : zv_C G X M_X0_fillByList) (hR : zv_R G X M_X0_fillByList (zv_qv Q))  : ∀ (n : Nat) (x1 : Int32) (x2 : Int32) (x3 : Int32) (σ : zv_St), L_X0_fillByList_11 Q  n x1 x2 x3 σ → zv_V G X M_X0_fillByList 11 [(0, .ref (G.2.2.1 19)), (1, .int x1), (2, .int x2), (3, .int x3)] [] σ := by
  intro n
  induction n with
  | zero => intro x1 x2 x3 σ h; exact h.elim
  | succ n hk11 =>
    intro x1 x2 x3 σ h
    unfold L_X0_fillByList_11 at h
    refine zv_iload_n hC dX0_fillByList_11 rfl ?_
    refine zv_aload_n hC dX0_fillByList_12 rfl ?_
    refine zv_getR (j := 1) hC fl_X0_32 dX0_fillByList_13 rfl rfl ?_
    refine zv_iload_n hC dX0_fillByList_16 rfl ?_
    refine zv_callVi (As := [_]) hC dX0_fillByList_17 Y_X3_size lk_X0_105 (by decide) rfl rfl rfl (Nat.le_of_ble_eq_true rfl) (ok_X3_size G h) ?_
    intro r_2 σ_1 h
    refine zv_icmp_ge (tgt := 43) hC dX0_fillByList_20 (by decide) (fun c => ?_) (fun c => ?_)
    · replace h := h.1 c
      exact (hR _ _ _).2.2.2.1 rfl dX0_fillByList_43 ⟨rfl, h⟩
    · replace h := h.2 c
      refine zv_aload_n hC dX0_fillByList_23 rfl ?_
      refine zv_iload_n hC dX0_fillByList_24 rfl ?_
      refine zv_aload_n hC dX0_fillByList_25 rfl ?_
      refine zv_getR (j := 1) hC fl_X0_32 dX0_fillByList_26 rfl rfl ?_
      refine zv_iload_n hC dX0_fillByList_29 rfl ?_
      refine zv_iload_n hC dX0_fillByList_30 rfl ?_
      refine zv_callVi (As := [_, _]) hC dX0_fillByList_31 Y_X3_objectAt lk_X0_110 (by decide) rfl rfl rfl (Nat.le_of_ble_eq_true rfl) (ok_X3_objectAt G h) ?_
      intro r_4 σ_3 h
      refine zv_callVv (As := [_, _]) hC dX0_fillByList_34 Y_X0_addToBoth lk_X0_113 (by decide) rfl rfl rfl (Nat.le_of_ble_eq_true rfl) (ok_X0_addToBoth G h) ?_
      intro σ_5 h
      refine zv_iinc (v := 1) hC dX0_fillByList_37 rfl (by decide) (by decide) ?_
      refine zv_goto (tgt := 11) hC dX0_fillByList_40 (by decide) ?_
      exact zv_go (hk11 _ _ _ _ h) ⟨rfl, rfl, rfl, rfl, trivial⟩
def B_X0_fillByList (Q : zv_St → Prop) (x1 : Int32) (σ : zv_St) : Prop :=
  B_X5_first (fun r_2 σ_1 => ∃ n11, L_X0_fillByList_11 Q n11 x1 r_2 0 σ_1) x1 σ
set_option maxRecDepth 20000 in
set_option maxHeartbeats 2000000 in
theorem k_X0_fillByList_0 {G : zv_G} {X : zv_X} {Q : zv_St → Prop}  (hC : zv_C G X M_X0_fillByList) (hR : zv_R G X M_X0_fillByList (zv_qv Q))  {x1 : Int32} {σ : zv_St} (h : B_X0_fillByList Q  x1 σ) : zv_V G X M_X0_fillByList 0 [(0, .ref (G.2.2.1 19)), (1, .int x1)] [] σ := by
  unfold B_X0_fillByList at h
  refine zv_aload_n hC dX0_fillByList_0 rfl ?_
  refine zv_getR (j := 5) hC fl_X0_36 dX0_fillByList_1 rfl rfl ?_
  refine zv_iload_n hC dX0_fillByList_4 rfl ?_
  refine zv_callVi (As := [_]) hC dX0_fillByList_5 Y_X5_first lk_X0_102 (by decide) rfl rfl rfl (Nat.le_of_ble_eq_true rfl) (ok_X5_first G h) ?_
  intro r_2 σ_1 h
  refine zv_istore_n hC dX0_fillByList_8 (by decide) ?_
  refine zv_iconst (v := 0) hC dX0_fillByList_9 (by decide) ?_
  refine zv_istore_n hC dX0_fillByList_10 (by decide) ?_
  obtain ⟨n, h⟩ := h
  exact zv_go (kL_X0_fillByList_11 hC hR  n _ _ _ _ h) ⟨rfl, rfl, rfl, rfl, trivial⟩
theorem ok_X0_fillByList (G : zv_G) {Q : zv_St → Prop} {x1 : Int32} {σ : zv_St} (h : B_X0_fillByList Q x1 σ) : zv_OK G M_X0_fillByList yX0_fillByList [.ref (G.2.2.1 19), .int x1] σ (zv_qv Q) := zv_ok G _ _ _ _ _ (by decide +kernel) rfl (Nat.le_of_ble_eq_true rfl) (fun X hC hR => zv_go (k_X0_fillByList_0 hC hR h) ⟨rfl, rfl, trivial⟩)
-- X0_fillRows
def B_X0_fillRows_116 (Q : zv_St → Prop) (σ : zv_St) : Prop :=
  Q σ
set_option maxRecDepth 20000 in
set_option maxHeartbeats 2000000 in
theorem k_X0_fillRows_116 {G : zv_G} {X : zv_X} {Q : zv_St → Prop}  (hC : zv_C G X M_X0_fillRows) (hR : zv_R G X M_X0_fillRows (zv_qv Q))   {σ : zv_St} (h : B_X0_fillRows_116 Q   σ) : zv_V G X M_X0_fillRows 116 [] [] σ := by
  unfold B_X0_fillRows_116 at h
  exact (hR _ _ _).2.2.2.1 rfl dX0_fillRows_116 ⟨rfl, h⟩
def B_X0_fillRows_108 (Q : zv_St → Prop) (x1 : Int32) (σ : zv_St) : Prop :=
  B_X0_joinParts (fun σ_1 => B_X0_fillRows_116 Q σ_1) x1 σ
set_option maxRecDepth 20000 in
set_option maxHeartbeats 2000000 in
theorem k_X0_fillRows_108 {G : zv_G} {X : zv_X} {Q : zv_St → Prop}  (hC : zv_C G X M_X0_fillRows) (hR : zv_R G X M_X0_fillRows (zv_qv Q))  {x1 : Int32} {σ : zv_St} (h : B_X0_fillRows_108 Q  x1 σ) : zv_V G X M_X0_fillRows 108 [(0, .ref (G.2.2.1 19)), (1, .int x1)] [] σ := by
  unfold B_X0_fillRows_108 at h
  refine zv_aload_n hC dX0_fillRows_108 rfl ?_
  refine zv_iload_n hC dX0_fillRows_109 rfl ?_
  refine zv_callVv (As := [_]) hC dX0_fillRows_110 Y_X0_joinParts lk_X0_99 (by decide) rfl rfl rfl (Nat.le_of_ble_eq_true rfl) (ok_X0_joinParts G h) ?_
  intro σ_1 h
  refine zv_goto (tgt := 116) hC dX0_fillRows_113 (by decide) ?_
  exact zv_go (k_X0_fillRows_116 hC hR  h) trivial
def B_X0_fillRows (Q : zv_St → Prop) (x1 : Int32) (σ : zv_St) : Prop :=
  B_X5_kind (fun r_2 σ_1 => (r_2 = 0 → (B_X0_fillByList (fun σ_3 => B_X0_fillRows_116 Q σ_3) x1 σ_1)) ∧ (r_2 = 1 → (B_X0_fillByRange (fun σ_4 => B_X0_fillRows_116 Q σ_4) x1 σ_1)) ∧ (r_2 = 2 → (B_X0_fillByBool (fun σ_5 => B_X0_fillRows_116 Q σ_5) x1 σ_1)) ∧ (r_2 = 3 → (B_X0_fillRows_108 Q x1 σ_1)) ∧ (r_2 = 4 → (B_X0_fillRows_108 Q x1 σ_1)) ∧ (r_2 = 5 → (B_X5_partAt (fun r_7 σ_6 => B_X8_join_20_20 (fun σ_8 => B_X0_fillRows_116 Q σ_8) x1 r_7 σ_6) x1 0 σ_1)) ∧ (r_2 = 6 → (B_X0_fillByKept (fun σ_9 => B_X0_fillRows_116 Q σ_9) x1 σ_1)) ∧ (Int32.toInt r_2 < 0 ∨ 6 < Int32.toInt r_2 → (B_X0_fillRows_116 Q σ_1))) x1 σ
set_option maxRecDepth 20000 in
set_option maxHeartbeats 2000000 in
theorem k_X0_fillRows_0 {G : zv_G} {X : zv_X} {Q : zv_St → Prop}  (hC : zv_C G X M_X0_fillRows) (hR : zv_R G X M_X0_fillRows (zv_qv Q))  {x1 : Int32} {σ : zv_St} (h : B_X0_fillRows Q  x1 σ) : zv_V G X M_X0_fillRows 0 [(0, .ref (G.2.2.1 19)), (1, .int x1)] [] σ := by
  unfold B_X0_fillRows at h
  refine zv_aload_n hC dX0_fillRows_0 rfl ?_
  refine zv_getR (j := 5) hC fl_X0_36 dX0_fillRows_1 rfl rfl ?_
  refine zv_iload_n hC dX0_fillRows_4 rfl ?_
  refine zv_callVi (As := [_]) hC dX0_fillRows_5 Y_X5_kind lk_X0_69 (by decide) rfl rfl rfl (Nat.le_of_ble_eq_true rfl) (ok_X5_kind G h) ?_
  intro r_2 σ_1 h
  refine zv_swV (zv_sw_0_6) ?_
  rintro (c | c | c | c | c | c | c | c)
  · replace h := h.1 c
    refine zv_table (off := 44) (tgt := 52) hC dX0_fillRows_8 (by rw [c]; decide) (by rw [c]; decide) (by rw [c]; rfl) (by decide) ?_
    refine zv_aload_n hC dX0_fillRows_52 rfl ?_
    refine zv_iload_n hC dX0_fillRows_53 rfl ?_
    refine zv_callVv (As := [_]) hC dX0_fillRows_54 Y_X0_fillByList lk_X0_80 (by decide) rfl rfl rfl (Nat.le_of_ble_eq_true rfl) (ok_X0_fillByList G h) ?_
    intro σ_3 h
    refine zv_goto (tgt := 116) hC dX0_fillRows_57 (by decide) ?_
    exact zv_go (k_X0_fillRows_116 hC hR  h) trivial
  · replace h := h.2.1 c
    refine zv_table (off := 52) (tgt := 60) hC dX0_fillRows_8 (by rw [c]; decide) (by rw [c]; decide) (by rw [c]; rfl) (by decide) ?_
    refine zv_aload_n hC dX0_fillRows_60 rfl ?_
    refine zv_iload_n hC dX0_fillRows_61 rfl ?_
    refine zv_callVv (As := [_]) hC dX0_fillRows_62 Y_X0_fillByRange lk_X0_83 (by decide) rfl rfl rfl (Nat.le_of_ble_eq_true rfl) (ok_X0_fillByRange G h) ?_
    intro σ_4 h
    refine zv_goto (tgt := 116) hC dX0_fillRows_65 (by decide) ?_
    exact zv_go (k_X0_fillRows_116 hC hR  h) trivial
  · replace h := h.2.2.1 c
    refine zv_table (off := 60) (tgt := 68) hC dX0_fillRows_8 (by rw [c]; decide) (by rw [c]; decide) (by rw [c]; rfl) (by decide) ?_
    refine zv_aload_n hC dX0_fillRows_68 rfl ?_
    refine zv_iload_n hC dX0_fillRows_69 rfl ?_
    refine zv_callVv (As := [_]) hC dX0_fillRows_70 Y_X0_fillByBool lk_X0_86 (by decide) rfl rfl rfl (Nat.le_of_ble_eq_true rfl) (ok_X0_fillByBool G h) ?_
    intro σ_5 h
    refine zv_goto (tgt := 116) hC dX0_fillRows_73 (by decide) ?_
    exact zv_go (k_X0_fillRows_116 hC hR  h) trivial
  · replace h := h.2.2.2.1 c
    refine zv_table (off := 100) (tgt := 108) hC dX0_fillRows_8 (by rw [c]; decide) (by rw [c]; decide) (by rw [c]; rfl) (by decide) ?_
    exact zv_go (k_X0_fillRows_108 hC hR  h) ⟨rfl, rfl, trivial⟩
  · replace h := h.2.2.2.2.1 c
    refine zv_table (off := 100) (tgt := 108) hC dX0_fillRows_8 (by rw [c]; decide) (by rw [c]; decide) (by rw [c]; rfl) (by decide) ?_
    exact zv_go (k_X0_fillRows_108 hC hR  h) ⟨rfl, rfl, trivial⟩
  · replace h := h.2.2.2.2.2.1 c
    refine zv_table (off := 76) (tgt := 84) hC dX0_fillRows_8 (by rw [c]; decide) (by rw [c]; decide) (by rw [c]; rfl) (by decide) ?_
    refine zv_aload_n hC dX0_fillRows_84 rfl ?_
    refine zv_getR (j := 20) hC fl_X0_12 dX0_fillRows_85 rfl rfl ?_
    refine zv_iload_n hC dX0_fillRows_88 rfl ?_
    refine zv_aload_n hC dX0_fillRows_89 rfl ?_
    refine zv_getR (j := 20) hC fl_X0_12 dX0_fillRows_90 rfl rfl ?_
    refine zv_aload_n hC dX0_fillRows_93 rfl ?_
    refine zv_getR (j := 5) hC fl_X0_36 dX0_fillRows_94 rfl rfl ?_
    refine zv_iload_n hC dX0_fillRows_97 rfl ?_
    refine zv_iconst (v := 0) hC dX0_fillRows_98 (by decide) ?_
    refine zv_callVi (As := [_, _]) hC dX0_fillRows_99 Y_X5_partAt lk_X0_92 (by decide) rfl rfl rfl (Nat.le_of_ble_eq_true rfl) (ok_X5_partAt G h) ?_
    intro r_7 σ_6 h
    refine zv_callVv (As := [_, _, _]) hC dX0_fillRows_102 Y_X8_join lk_X0_95 (by decide) rfl rfl rfl (Nat.le_of_ble_eq_true rfl) (ok_X8_join_20_20 G h) ?_
    intro σ_8 h
    refine zv_goto (tgt := 116) hC dX0_fillRows_105 (by decide) ?_
    exact zv_go (k_X0_fillRows_116 hC hR  h) trivial
  · replace h := h.2.2.2.2.2.2.1 c
    refine zv_table (off := 68) (tgt := 76) hC dX0_fillRows_8 (by rw [c]; decide) (by rw [c]; decide) (by rw [c]; rfl) (by decide) ?_
    refine zv_aload_n hC dX0_fillRows_76 rfl ?_
    refine zv_iload_n hC dX0_fillRows_77 rfl ?_
    refine zv_callVv (As := [_]) hC dX0_fillRows_78 Y_X0_fillByKept lk_X0_89 (by decide) rfl rfl rfl (Nat.le_of_ble_eq_true rfl) (ok_X0_fillByKept G h) ?_
    intro σ_9 h
    refine zv_goto (tgt := 116) hC dX0_fillRows_81 (by decide) ?_
    exact zv_go (k_X0_fillRows_116 hC hR  h) trivial
  · replace h := h.2.2.2.2.2.2.2 c
    refine zv_tableD (tgt := 116) hC dX0_fillRows_8 c (by decide) ?_
    exact zv_go (k_X0_fillRows_116 hC hR  h) trivial
theorem ok_X0_fillRows (G : zv_G) {Q : zv_St → Prop} {x1 : Int32} {σ : zv_St} (h : B_X0_fillRows Q x1 σ) : zv_OK G M_X0_fillRows yX0_fillRows [.ref (G.2.2.1 19), .int x1] σ (zv_qv Q) := zv_ok G _ _ _ _ _ (by decide +kernel) rfl (Nat.le_of_ble_eq_true rfl) (fun X hC hR => zv_go (k_X0_fillRows_0 hC hR h) ⟨rfl, rfl, trivial⟩)
-- X0_costOfShoulds
def B_X0_costOfShoulds_46 (Q : Int32 → zv_St → Prop) (kk4 : Int32 → Int32 → Int32 → zv_St → Prop) (x1 : Int32) (x2 : Int32) (x3 : Int32) (σ : zv_St) : Prop :=
  kk4 x1 x2 (x3 + 1) σ
set_option maxRecDepth 20000 in
set_option maxHeartbeats 2000000 in
theorem k_X0_costOfShoulds_46 {G : zv_G} {X : zv_X} {Q : Int32 → zv_St → Prop} {kk4 : Int32 → Int32 → Int32 → zv_St → Prop} (hC : zv_C G X M_X0_costOfShoulds) (hR : zv_R G X M_X0_costOfShoulds (zv_qi Q)) (hk4 : ∀ (x1 : Int32) (x2 : Int32) (x3 : Int32) (σ : zv_St), kk4 x1 x2 x3 σ → zv_V G X M_X0_costOfShoulds 4 [(0, .ref (G.2.2.1 19)), (1, .int x1), (2, .int x2), (3, .int x3)] [] σ) {x1 : Int32} {x2 : Int32} {x3 : Int32} {σ : zv_St} (h : B_X0_costOfShoulds_46 Q kk4 x1 x2 x3 σ) : zv_V G X M_X0_costOfShoulds 46 [(0, .ref (G.2.2.1 19)), (1, .int x1), (2, .int x2), (3, .int x3)] [] σ := by
  unfold B_X0_costOfShoulds_46 at h
  refine zv_iinc (v := 1) hC dX0_costOfShoulds_46 rfl (by decide) (by decide) ?_
  refine zv_goto (tgt := 4) hC dX0_costOfShoulds_49 (by decide) ?_
  exact zv_go (hk4 _ _ _ _ h) ⟨rfl, rfl, rfl, rfl, trivial⟩
def L_X0_costOfShoulds_4 (Q : Int32 → zv_St → Prop) : Nat → (Int32 → Int32 → Int32 → zv_St → Prop)
  | 0 => fun _ _ _ _ => False
  | u + 1 => fun x1 x2 x3 σ => 
    B_X5_size (fun r_2 σ_1 => (r_2 ≤ x3 → (B_J9_min_7cf53 (fun r_4 σ_3 => Q r_4 σ_3) x2 512 σ_1)) ∧ (¬ r_2 ≤ x3 → (B_X5_roleAt (fun r_6 σ_5 => (¬ r_6 = 3 → (B_X0_costOfShoulds_46 Q (L_X0_costOfShoulds_4 Q u) x1 x2 x3 σ_5)) ∧ (r_6 = 3 → (B_X5_partAt (fun r_8 σ_7 => vp_in r_8 80 ∧ ∀ v_9 : Int32, v_9 = (x2 + (σ_7.1 24 r_8.toNatClampNeg)) → B_X0_costOfShoulds_46 Q (L_X0_costOfShoulds_4 Q u) x1 v_9 x3 σ_7) x1 x3 σ_5))) x1 x3 σ_1))) x1 σ
set_option maxRecDepth 20000 in
set_option maxHeartbeats 2000000 in
theorem kL_X0_costOfShoulds_4 {G : zv_G} {X : zv_X} {Q : Int32 → zv_St → Prop}  (hC : zv_C G X M_X0_costOfShoulds) (hR : zv_R G X M_X0_costOfShoulds (zv_qi Q))  : ∀ (n : Nat) (x1 : Int32) (x2 : Int32) (x3 : Int32) (σ : zv_St), L_X0_costOfShoulds_4 Q  n x1 x2 x3 σ → zv_V G X M_X0_costOfShoulds 4 [(0, .ref (G.2.2.1 19)), (1, .int x1), (2, .int x2), (3, .int x3)] [] σ := by
  intro n
  induction n with
  | zero => intro x1 x2 x3 σ h; exact h.elim
  | succ n hk4 =>
    intro x1 x2 x3 σ h
    unfold L_X0_costOfShoulds_4 at h
    refine zv_iload_n hC dX0_costOfShoulds_4 rfl ?_
    refine zv_aload_n hC dX0_costOfShoulds_5 rfl ?_
    refine zv_getR (j := 5) hC fl_X0_36 dX0_costOfShoulds_6 rfl rfl ?_
    refine zv_iload_n hC dX0_costOfShoulds_9 rfl ?_
    refine zv_callVi (As := [_]) hC dX0_costOfShoulds_10 Y_X5_size lk_X0_133 (by decide) rfl rfl rfl (Nat.le_of_ble_eq_true rfl) (ok_X5_size G h) ?_
    intro r_2 σ_1 h
    refine zv_icmp_ge (tgt := 52) hC dX0_costOfShoulds_13 (by decide) (fun c => ?_) (fun c => ?_)
    · replace h := h.1 c
      refine zv_iload_n hC dX0_costOfShoulds_52 rfl ?_
      refine zv_sipush (v := 512) hC dX0_costOfShoulds_53 (by decide) ?_
      refine zv_callSi (As := [_, _]) hC dX0_costOfShoulds_56 Y_J9_min_7cf53 lk_X0_52 (by decide) rfl rfl (Nat.le_of_ble_eq_true rfl) (ok_J9_min_7cf53 G h) ?_
      intro r_4 σ_3 h
      exact (hR _ _ _).1 _ rfl dX0_costOfShoulds_59 ⟨_, rfl, h⟩
    · replace h := h.2 c
      refine zv_aload_n hC dX0_costOfShoulds_16 rfl ?_
      refine zv_getR (j := 5) hC fl_X0_36 dX0_costOfShoulds_17 rfl rfl ?_
      refine zv_iload_n hC dX0_costOfShoulds_20 rfl ?_
      refine zv_iload_n hC dX0_costOfShoulds_21 rfl ?_
      refine zv_callVi (As := [_, _]) hC dX0_costOfShoulds_22 Y_X5_roleAt lk_X0_153 (by decide) rfl rfl rfl (Nat.le_of_ble_eq_true rfl) (ok_X5_roleAt G h) ?_
      intro r_6 σ_5 h
      refine zv_iconst (v := 3) hC dX0_costOfShoulds_25 (by decide) ?_
      refine zv_icmp_ne (tgt := 46) hC dX0_costOfShoulds_26 (by decide) (fun c => ?_) (fun c => ?_)
      · replace h := h.1 c
        exact zv_go (k_X0_costOfShoulds_46 hC hR hk4 h) ⟨rfl, rfl, rfl, rfl, trivial⟩
      · replace h := h.2 c
        refine zv_iload_n hC dX0_costOfShoulds_29 rfl ?_
        refine zv_aload_n hC dX0_costOfShoulds_30 rfl ?_
        refine zv_getR (j := 24) hC fl_X0_21 dX0_costOfShoulds_31 rfl rfl ?_
        refine zv_aload_n hC dX0_costOfShoulds_34 rfl ?_
        refine zv_getR (j := 5) hC fl_X0_36 dX0_costOfShoulds_35 rfl rfl ?_
        refine zv_iload_n hC dX0_costOfShoulds_38 rfl ?_
        refine zv_iload_n hC dX0_costOfShoulds_39 rfl ?_
        refine zv_callVi (As := [_, _]) hC dX0_costOfShoulds_40 Y_X5_partAt lk_X0_92 (by decide) rfl rfl rfl (Nat.le_of_ble_eq_true rfl) (ok_X5_partAt G h) ?_
        intro r_8 σ_7 h
        refine zv_iald hC dX0_costOfShoulds_43 rfl h.1 ?_
        replace h := h.2
        refine zv_iadd hC dX0_costOfShoulds_44 ?_
        replace h := h _ rfl
        refine zv_istore_n hC dX0_costOfShoulds_45 (by decide) ?_
        exact zv_go (k_X0_costOfShoulds_46 hC hR hk4 h) ⟨rfl, rfl, rfl, rfl, trivial⟩
def B_X0_costOfShoulds (Q : Int32 → zv_St → Prop) (x1 : Int32) (σ : zv_St) : Prop :=
  ∃ n4, L_X0_costOfShoulds_4 Q n4 x1 0 0 σ
set_option maxRecDepth 20000 in
set_option maxHeartbeats 2000000 in
theorem k_X0_costOfShoulds_0 {G : zv_G} {X : zv_X} {Q : Int32 → zv_St → Prop}  (hC : zv_C G X M_X0_costOfShoulds) (hR : zv_R G X M_X0_costOfShoulds (zv_qi Q))  {x1 : Int32} {σ : zv_St} (h : B_X0_costOfShoulds Q  x1 σ) : zv_V G X M_X0_costOfShoulds 0 [(0, .ref (G.2.2.1 19)), (1, .int x1)] [] σ := by
  unfold B_X0_costOfShoulds at h
  refine zv_iconst (v := 0) hC dX0_costOfShoulds_0 (by decide) ?_
  refine zv_istore_n hC dX0_costOfShoulds_1 (by decide) ?_
  refine zv_iconst (v := 0) hC dX0_costOfShoulds_2 (by decide) ?_
  refine zv_istore_n hC dX0_costOfShoulds_3 (by decide) ?_
  obtain ⟨n, h⟩ := h
  exact zv_go (kL_X0_costOfShoulds_4 hC hR  n _ _ _ _ h) ⟨rfl, rfl, rfl, rfl, trivial⟩
theorem ok_X0_costOfShoulds (G : zv_G) {Q : Int32 → zv_St → Prop} {x1 : Int32} {σ : zv_St} (h : B_X0_costOfShoulds Q x1 σ) : zv_OK G M_X0_costOfShoulds yX0_costOfShoulds [.ref (G.2.2.1 19), .int x1] σ (zv_qi Q) := zv_ok G _ _ _ _ _ (by decide +kernel) rfl (Nat.le_of_ble_eq_true rfl) (fun X hC hR => zv_go (k_X0_costOfShoulds_0 hC hR h) ⟨rfl, rfl, trivial⟩)
-- X10_isNeeded
def B_X10_isNeeded_14 (Q : Int32 → zv_St → Prop) (y0 : Int32) (σ : zv_St) : Prop :=
  narrow .boolean (.int y0) = .int y0 ∧ Q y0 σ
set_option maxRecDepth 20000 in
set_option maxHeartbeats 2000000 in
theorem k_X10_isNeeded_14 {G : zv_G} {X : zv_X} {Q : Int32 → zv_St → Prop}  (hC : zv_C G X M_X10_isNeeded) (hR : zv_R G X M_X10_isNeeded (zv_qi Q))  {y0 : Int32} {σ : zv_St} (h : B_X10_isNeeded_14 Q  y0 σ) : zv_V G X M_X10_isNeeded 14 [] [.int y0] σ := by
  unfold B_X10_isNeeded_14 at h
  exact (hR _ _ _).2.1 _ rfl h.1 dX10_isNeeded_14 ⟨_, rfl, h.2⟩
def B_X10_isNeeded_9 (Q : Int32 → zv_St → Prop) (σ : zv_St) : Prop :=
  B_X10_isNeeded_14 Q 1 σ
set_option maxRecDepth 20000 in
set_option maxHeartbeats 2000000 in
theorem k_X10_isNeeded_9 {G : zv_G} {X : zv_X} {Q : Int32 → zv_St → Prop}  (hC : zv_C G X M_X10_isNeeded) (hR : zv_R G X M_X10_isNeeded (zv_qi Q))   {σ : zv_St} (h : B_X10_isNeeded_9 Q   σ) : zv_V G X M_X10_isNeeded 9 [] [] σ := by
  unfold B_X10_isNeeded_9 at h
  refine zv_iconst (v := 1) hC dX10_isNeeded_9 (by decide) ?_
  refine zv_goto (tgt := 14) hC dX10_isNeeded_10 (by decide) ?_
  exact zv_go (k_X10_isNeeded_14 hC hR  h) trivial
def B_X10_isNeeded (Q : Int32 → zv_St → Prop) (x0 : Int32) (σ : zv_St) : Prop :=
  (x0 = 0 → (B_X10_isNeeded_9 Q σ)) ∧ (¬ x0 = 0 → ((¬ x0 = 1 → (B_X10_isNeeded_14 Q 0 σ)) ∧ (x0 = 1 → (B_X10_isNeeded_9 Q σ))))
set_option maxRecDepth 20000 in
set_option maxHeartbeats 2000000 in
theorem k_X10_isNeeded_0 {G : zv_G} {X : zv_X} {Q : Int32 → zv_St → Prop}  (hC : zv_C G X M_X10_isNeeded) (hR : zv_R G X M_X10_isNeeded (zv_qi Q))  {x0 : Int32} {σ : zv_St} (h : B_X10_isNeeded Q  x0 σ) : zv_V G X M_X10_isNeeded 0 [(0, .int x0)] [] σ := by
  unfold B_X10_isNeeded at h
  refine zv_iload_n hC dX10_isNeeded_0 rfl ?_
  refine zv_if_eq (tgt := 9) hC dX10_isNeeded_1 (by decide) (fun c => ?_) (fun c => ?_)
  · replace h := h.1 c
    exact zv_go (k_X10_isNeeded_9 hC hR  h) trivial
  · replace h := h.2 c
    refine zv_iload_n hC dX10_isNeeded_4 rfl ?_
    refine zv_iconst (v := 1) hC dX10_isNeeded_5 (by decide) ?_
    refine zv_icmp_ne (tgt := 13) hC dX10_isNeeded_6 (by decide) (fun c => ?_) (fun c => ?_)
    · replace h := h.1 c
      refine zv_iconst (v := 0) hC dX10_isNeeded_13 (by decide) ?_
      exact zv_go (k_X10_isNeeded_14 hC hR  h) trivial
    · replace h := h.2 c
      exact zv_go (k_X10_isNeeded_9 hC hR  h) trivial
theorem ok_X10_isNeeded (G : zv_G) {Q : Int32 → zv_St → Prop} {x0 : Int32} {σ : zv_St} (h : B_X10_isNeeded Q x0 σ) : zv_OK G M_X10_isNeeded yX10_isNeeded [.int x0] σ (zv_qi Q) := zv_ok G _ _ _ _ _ (by decide +kernel) rfl (Nat.le_of_ble_eq_true rfl) (fun X hC hR => zv_go (k_X10_isNeeded_0 hC hR h) ⟨rfl, trivial⟩)
-- X0_costOfBool
def B_X0_costOfBool_81 (Q : Int32 → zv_St → Prop) (y0 : Int32) (σ : zv_St) : Prop :=
  Q y0 σ
set_option maxRecDepth 20000 in
set_option maxHeartbeats 2000000 in
theorem k_X0_costOfBool_81 {G : zv_G} {X : zv_X} {Q : Int32 → zv_St → Prop}  (hC : zv_C G X M_X0_costOfBool) (hR : zv_R G X M_X0_costOfBool (zv_qi Q))  {y0 : Int32} {σ : zv_St} (h : B_X0_costOfBool_81 Q  y0 σ) : zv_V G X M_X0_costOfBool 81 [] [.int y0] σ := by
  unfold B_X0_costOfBool_81 at h
  exact (hR _ _ _).1 _ rfl dX0_costOfBool_81 ⟨_, rfl, h⟩
def B_X0_costOfBool_61 (Q : Int32 → zv_St → Prop) (kk4 : Int32 → Int32 → Int32 → zv_St → Prop) (x1 : Int32) (x2 : Int32) (x3 : Int32) (σ : zv_St) : Prop :=
  kk4 x1 x2 (x3 + 1) σ
set_option maxRecDepth 20000 in
set_option maxHeartbeats 2000000 in
theorem k_X0_costOfBool_61 {G : zv_G} {X : zv_X} {Q : Int32 → zv_St → Prop} {kk4 : Int32 → Int32 → Int32 → zv_St → Prop} (hC : zv_C G X M_X0_costOfBool) (hR : zv_R G X M_X0_costOfBool (zv_qi Q)) (hk4 : ∀ (x1 : Int32) (x2 : Int32) (x3 : Int32) (σ : zv_St), kk4 x1 x2 x3 σ → zv_V G X M_X0_costOfBool 4 [(0, .ref (G.2.2.1 19)), (1, .int x1), (2, .int x2), (3, .int x3)] [] σ) {x1 : Int32} {x2 : Int32} {x3 : Int32} {σ : zv_St} (h : B_X0_costOfBool_61 Q kk4 x1 x2 x3 σ) : zv_V G X M_X0_costOfBool 61 [(0, .ref (G.2.2.1 19)), (1, .int x1), (2, .int x2), (3, .int x3)] [] σ := by
  unfold B_X0_costOfBool_61 at h
  refine zv_iinc (v := 1) hC dX0_costOfBool_61 rfl (by decide) (by decide) ?_
  refine zv_goto (tgt := 4) hC dX0_costOfBool_64 (by decide) ?_
  exact zv_go (hk4 _ _ _ _ h) ⟨rfl, rfl, rfl, rfl, trivial⟩
def B_X0_costOfBool_58 (Q : Int32 → zv_St → Prop) (kk4 : Int32 → Int32 → Int32 → zv_St → Prop) (x1 : Int32) (x3 : Int32) (x4 : Int32) (σ : zv_St) : Prop :=
  B_X0_costOfBool_61 Q kk4 x1 x4 x3 σ
set_option maxRecDepth 20000 in
set_option maxHeartbeats 2000000 in
theorem k_X0_costOfBool_58 {G : zv_G} {X : zv_X} {Q : Int32 → zv_St → Prop} {kk4 : Int32 → Int32 → Int32 → zv_St → Prop} (hC : zv_C G X M_X0_costOfBool) (hR : zv_R G X M_X0_costOfBool (zv_qi Q)) (hk4 : ∀ (x1 : Int32) (x2 : Int32) (x3 : Int32) (σ : zv_St), kk4 x1 x2 x3 σ → zv_V G X M_X0_costOfBool 4 [(0, .ref (G.2.2.1 19)), (1, .int x1), (2, .int x2), (3, .int x3)] [] σ) {x1 : Int32} {x3 : Int32} {x4 : Int32} {σ : zv_St} (h : B_X0_costOfBool_58 Q kk4 x1 x3 x4 σ) : zv_V G X M_X0_costOfBool 58 [(0, .ref (G.2.2.1 19)), (1, .int x1), (3, .int x3), (4, .int x4)] [] σ := by
  unfold B_X0_costOfBool_58 at h
  refine zv_iload hC dX0_costOfBool_58 rfl ?_
  refine zv_istore_n hC dX0_costOfBool_60 (by decide) ?_
  exact zv_go (k_X0_costOfBool_61 hC hR hk4 h) ⟨rfl, rfl, rfl, rfl, trivial⟩
def L_X0_costOfBool_4 (Q : Int32 → zv_St → Prop) : Nat → (Int32 → Int32 → Int32 → zv_St → Prop)
  | 0 => fun _ _ _ _ => False
  | u + 1 => fun x1 x2 x3 σ => 
    B_X5_size (fun r_2 σ_1 => (r_2 ≤ x3 → ((¬ x2 = (-1) → (B_X0_costOfBool_81 Q x2 σ_1)) ∧ (x2 = (-1) → (B_X0_costOfShoulds (fun r_4 σ_3 => B_X0_costOfBool_81 Q r_4 σ_3) x1 σ_1)))) ∧ (¬ r_2 ≤ x3 → (B_X5_partAt (fun r_6 σ_5 => vp_in r_6 80 ∧ ∀ v_7 : Int32, v_7 = (σ_5.1 24 r_6.toNatClampNeg) → B_X5_roleAt (fun r_9 σ_8 => B_X10_isNeeded (fun r_11 σ_10 => (r_11 = 0 → (B_X0_costOfBool_61 Q (L_X0_costOfBool_4 Q u) x1 x2 x3 σ_10)) ∧ (¬ r_11 = 0 → ((x2 = (-1) → (B_X0_costOfBool_58 Q (L_X0_costOfBool_4 Q u) x1 x3 v_7 σ_10)) ∧ (¬ x2 = (-1) → ((x2 ≤ v_7 → (B_X0_costOfBool_61 Q (L_X0_costOfBool_4 Q u) x1 x2 x3 σ_10)) ∧ (¬ x2 ≤ v_7 → (B_X0_costOfBool_58 Q (L_X0_costOfBool_4 Q u) x1 x3 v_7 σ_10))))))) r_9 σ_8) x1 x3 σ_5) x1 x3 σ_1))) x1 σ
set_option maxRecDepth 20000 in
set_option maxHeartbeats 2000000 in
theorem kL_X0_costOfBool_4 {G : zv_G} {X : zv_X} {Q : Int32 → zv_St → Prop}  (hC : zv_C G X M_X0_costOfBool) (hR : zv_R G X M_X0_costOfBool (zv_qi Q))  : ∀ (n : Nat) (x1 : Int32) (x2 : Int32) (x3 : Int32) (σ : zv_St), L_X0_costOfBool_4 Q  n x1 x2 x3 σ → zv_V G X M_X0_costOfBool 4 [(0, .ref (G.2.2.1 19)), (1, .int x1), (2, .int x2), (3, .int x3)] [] σ := by
  intro n
  induction n with
  | zero => intro x1 x2 x3 σ h; exact h.elim
  | succ n hk4 =>
    intro x1 x2 x3 σ h
    unfold L_X0_costOfBool_4 at h
    refine zv_iload_n hC dX0_costOfBool_4 rfl ?_
    refine zv_aload_n hC dX0_costOfBool_5 rfl ?_
    refine zv_getR (j := 5) hC fl_X0_36 dX0_costOfBool_6 rfl rfl ?_
    refine zv_iload_n hC dX0_costOfBool_9 rfl ?_
    refine zv_callVi (As := [_]) hC dX0_costOfBool_10 Y_X5_size lk_X0_133 (by decide) rfl rfl rfl (Nat.le_of_ble_eq_true rfl) (ok_X5_size G h) ?_
    intro r_2 σ_1 h
    refine zv_icmp_ge (tgt := 67) hC dX0_costOfBool_13 (by decide) (fun c => ?_) (fun c => ?_)
    · replace h := h.1 c
      refine zv_iload_n hC dX0_costOfBool_67 rfl ?_
      refine zv_iconst (v := (-1)) hC dX0_costOfBool_68 (by decide) ?_
      refine zv_icmp_ne (tgt := 80) hC dX0_costOfBool_69 (by decide) (fun c => ?_) (fun c => ?_)
      · replace h := h.1 c
        refine zv_iload_n hC dX0_costOfBool_80 rfl ?_
        exact zv_go (k_X0_costOfBool_81 hC hR  h) trivial
      · replace h := h.2 c
        refine zv_aload_n hC dX0_costOfBool_72 rfl ?_
        refine zv_iload_n hC dX0_costOfBool_73 rfl ?_
        refine zv_callVi (As := [_]) hC dX0_costOfBool_74 Y_X0_costOfShoulds lk_X0_167 (by decide) rfl rfl rfl (Nat.le_of_ble_eq_true rfl) (ok_X0_costOfShoulds G h) ?_
        intro r_4 σ_3 h
        refine zv_goto (tgt := 81) hC dX0_costOfBool_77 (by decide) ?_
        exact zv_go (k_X0_costOfBool_81 hC hR  h) trivial
    · replace h := h.2 c
      refine zv_aload_n hC dX0_costOfBool_16 rfl ?_
      refine zv_getR (j := 24) hC fl_X0_21 dX0_costOfBool_17 rfl rfl ?_
      refine zv_aload_n hC dX0_costOfBool_20 rfl ?_
      refine zv_getR (j := 5) hC fl_X0_36 dX0_costOfBool_21 rfl rfl ?_
      refine zv_iload_n hC dX0_costOfBool_24 rfl ?_
      refine zv_iload_n hC dX0_costOfBool_25 rfl ?_
      refine zv_callVi (As := [_, _]) hC dX0_costOfBool_26 Y_X5_partAt lk_X0_92 (by decide) rfl rfl rfl (Nat.le_of_ble_eq_true rfl) (ok_X5_partAt G h) ?_
      intro r_6 σ_5 h
      refine zv_iald hC dX0_costOfBool_29 rfl h.1 ?_
      replace h := h.2
      replace h := h _ rfl
      refine zv_istore hC dX0_costOfBool_30 (by decide) ?_
      refine zv_aload_n hC dX0_costOfBool_32 rfl ?_
      refine zv_getR (j := 5) hC fl_X0_36 dX0_costOfBool_33 rfl rfl ?_
      refine zv_iload_n hC dX0_costOfBool_36 rfl ?_
      refine zv_iload_n hC dX0_costOfBool_37 rfl ?_
      refine zv_callVi (As := [_, _]) hC dX0_costOfBool_38 Y_X5_roleAt lk_X0_153 (by decide) rfl rfl rfl (Nat.le_of_ble_eq_true rfl) (ok_X5_roleAt G h) ?_
      intro r_9 σ_8 h
      refine zv_callSNi (As := [_]) hC dX0_costOfBool_41 Y_X10_isNeeded lk_X0_171 (by decide) rfl rfl (Nat.le_of_ble_eq_true rfl) (ok_X10_isNeeded G h) ?_
      intro r_11 σ_10 h
      refine zv_if_eq (tgt := 61) hC dX0_costOfBool_44 (by decide) (fun c => ?_) (fun c => ?_)
      · replace h := h.1 c
        exact zv_go (k_X0_costOfBool_61 hC hR hk4 h) ⟨rfl, rfl, rfl, rfl, trivial⟩
      · replace h := h.2 c
        refine zv_iload_n hC dX0_costOfBool_47 rfl ?_
        refine zv_iconst (v := (-1)) hC dX0_costOfBool_48 (by decide) ?_
        refine zv_icmp_eq (tgt := 58) hC dX0_costOfBool_49 (by decide) (fun c => ?_) (fun c => ?_)
        · replace h := h.1 c
          exact zv_go (k_X0_costOfBool_58 hC hR hk4 h) ⟨rfl, rfl, rfl, rfl, trivial⟩
        · replace h := h.2 c
          refine zv_iload hC dX0_costOfBool_52 rfl ?_
          refine zv_iload_n hC dX0_costOfBool_54 rfl ?_
          refine zv_icmp_ge (tgt := 61) hC dX0_costOfBool_55 (by decide) (fun c => ?_) (fun c => ?_)
          · replace h := h.1 c
            exact zv_go (k_X0_costOfBool_61 hC hR hk4 h) ⟨rfl, rfl, rfl, rfl, trivial⟩
          · replace h := h.2 c
            exact zv_go (k_X0_costOfBool_58 hC hR hk4 h) ⟨rfl, rfl, rfl, rfl, trivial⟩
def B_X0_costOfBool (Q : Int32 → zv_St → Prop) (x1 : Int32) (σ : zv_St) : Prop :=
  ∃ n4, L_X0_costOfBool_4 Q n4 x1 (-1) 0 σ
set_option maxRecDepth 20000 in
set_option maxHeartbeats 2000000 in
theorem k_X0_costOfBool_0 {G : zv_G} {X : zv_X} {Q : Int32 → zv_St → Prop}  (hC : zv_C G X M_X0_costOfBool) (hR : zv_R G X M_X0_costOfBool (zv_qi Q))  {x1 : Int32} {σ : zv_St} (h : B_X0_costOfBool Q  x1 σ) : zv_V G X M_X0_costOfBool 0 [(0, .ref (G.2.2.1 19)), (1, .int x1)] [] σ := by
  unfold B_X0_costOfBool at h
  refine zv_iconst (v := (-1)) hC dX0_costOfBool_0 (by decide) ?_
  refine zv_istore_n hC dX0_costOfBool_1 (by decide) ?_
  refine zv_iconst (v := 0) hC dX0_costOfBool_2 (by decide) ?_
  refine zv_istore_n hC dX0_costOfBool_3 (by decide) ?_
  obtain ⟨n, h⟩ := h
  exact zv_go (kL_X0_costOfBool_4 hC hR  n _ _ _ _ h) ⟨rfl, rfl, rfl, rfl, trivial⟩
theorem ok_X0_costOfBool (G : zv_G) {Q : Int32 → zv_St → Prop} {x1 : Int32} {σ : zv_St} (h : B_X0_costOfBool Q x1 σ) : zv_OK G M_X0_costOfBool yX0_costOfBool [.ref (G.2.2.1 19), .int x1] σ (zv_qi Q) := zv_ok G _ _ _ _ _ (by decide +kernel) rfl (Nat.le_of_ble_eq_true rfl) (fun X hC hR => zv_go (k_X0_costOfBool_0 hC hR h) ⟨rfl, rfl, trivial⟩)
-- X0_costOf
def B_X0_costOf_137 (Q : Int32 → zv_St → Prop) (x1 : Int32) (σ : zv_St) : Prop :=
  B_X5_partAt (fun r_2 σ_1 => vp_in r_2 80 ∧ Q (σ_1.1 24 r_2.toNatClampNeg) σ_1) x1 0 σ
set_option maxRecDepth 20000 in
set_option maxHeartbeats 2000000 in
theorem k_X0_costOf_137 {G : zv_G} {X : zv_X} {Q : Int32 → zv_St → Prop}  (hC : zv_C G X M_X0_costOf) (hR : zv_R G X M_X0_costOf (zv_qi Q))  {x1 : Int32} {σ : zv_St} (h : B_X0_costOf_137 Q  x1 σ) : zv_V G X M_X0_costOf 137 [(0, .ref (G.2.2.1 19)), (1, .int x1)] [] σ := by
  unfold B_X0_costOf_137 at h
  refine zv_aload_n hC dX0_costOf_137 rfl ?_
  refine zv_getR (j := 24) hC fl_X0_21 dX0_costOf_138 rfl rfl ?_
  refine zv_aload_n hC dX0_costOf_141 rfl ?_
  refine zv_getR (j := 5) hC fl_X0_36 dX0_costOf_142 rfl rfl ?_
  refine zv_iload_n hC dX0_costOf_145 rfl ?_
  refine zv_iconst (v := 0) hC dX0_costOf_146 (by decide) ?_
  refine zv_callVi (As := [_, _]) hC dX0_costOf_147 Y_X5_partAt lk_X0_92 (by decide) rfl rfl rfl (Nat.le_of_ble_eq_true rfl) (ok_X5_partAt G h) ?_
  intro r_2 σ_1 h
  refine zv_iald hC dX0_costOf_150 rfl h.1 ?_
  replace h := h.2
  exact (hR _ _ _).1 _ rfl dX0_costOf_151 ⟨_, rfl, h⟩
def B_X0_costOf_136 (Q : Int32 → zv_St → Prop) (y0 : Int32) (σ : zv_St) : Prop :=
  Q y0 σ
set_option maxRecDepth 20000 in
set_option maxHeartbeats 2000000 in
theorem k_X0_costOf_136 {G : zv_G} {X : zv_X} {Q : Int32 → zv_St → Prop}  (hC : zv_C G X M_X0_costOf) (hR : zv_R G X M_X0_costOf (zv_qi Q))  {y0 : Int32} {σ : zv_St} (h : B_X0_costOf_136 Q  y0 σ) : zv_V G X M_X0_costOf 136 [] [.int y0] σ := by
  unfold B_X0_costOf_136 at h
  exact (hR _ _ _).1 _ rfl dX0_costOf_136 ⟨_, rfl, h⟩
def B_X0_costOf (Q : Int32 → zv_St → Prop) (x1 : Int32) (σ : zv_St) : Prop :=
  B_X5_kind (fun r_2 σ_1 => (r_2 = 0 → (B_X5_first (fun r_4 σ_3 => B_X3_size (fun r_6 σ_5 => Q r_6 σ_5) r_4 σ_3) x1 σ_1)) ∧ (r_2 = 1 → (B_X5_second (fun r_8 σ_7 => B_X5_first (fun r_10 σ_9 => Q ((r_8 - r_10) + 1) σ_9) x1 σ_7) x1 σ_1)) ∧ (r_2 = 2 → (B_X0_costOfBool (fun r_12 σ_11 => Q r_12 σ_11) x1 σ_1)) ∧ (r_2 = 3 → (B_X0_costOfShoulds (fun r_14 σ_13 => Q r_14 σ_13) x1 σ_1)) ∧ (r_2 = 4 → (B_X0_costOf_137 Q x1 σ_1)) ∧ (r_2 = 5 → (B_X0_costOf_137 Q x1 σ_1)) ∧ (r_2 = 6 → (B_X9_isThere (fun r_16 σ_15 => (r_16 = 0 → (B_X5_partAt (fun r_18 σ_17 => vp_in r_18 80 ∧ B_X0_costOf_136 Q (σ_17.1 24 r_18.toNatClampNeg) σ_17) x1 0 σ_15)) ∧ (¬ r_16 = 0 → (B_X9_size (fun r_20 σ_19 => B_X0_costOf_136 Q r_20 σ_19) x1 σ_15))) x1 σ_1)) ∧ (Int32.toInt r_2 < 0 ∨ 6 < Int32.toInt r_2 → (Q 0 σ_1))) x1 σ
set_option maxRecDepth 20000 in
set_option maxHeartbeats 2000000 in
theorem k_X0_costOf_0 {G : zv_G} {X : zv_X} {Q : Int32 → zv_St → Prop}  (hC : zv_C G X M_X0_costOf) (hR : zv_R G X M_X0_costOf (zv_qi Q))  {x1 : Int32} {σ : zv_St} (h : B_X0_costOf Q  x1 σ) : zv_V G X M_X0_costOf 0 [(0, .ref (G.2.2.1 19)), (1, .int x1)] [] σ := by
  unfold B_X0_costOf at h
  refine zv_aload_n hC dX0_costOf_0 rfl ?_
  refine zv_getR (j := 5) hC fl_X0_36 dX0_costOf_1 rfl rfl ?_
  refine zv_iload_n hC dX0_costOf_4 rfl ?_
  refine zv_callVi (As := [_]) hC dX0_costOf_5 Y_X5_kind lk_X0_69 (by decide) rfl rfl rfl (Nat.le_of_ble_eq_true rfl) (ok_X5_kind G h) ?_
  intro r_2 σ_1 h
  refine zv_swV (zv_sw_0_6) ?_
  rintro (c | c | c | c | c | c | c | c)
  · replace h := h.1 c
    refine zv_table (off := 44) (tgt := 52) hC dX0_costOf_8 (by rw [c]; decide) (by rw [c]; decide) (by rw [c]; rfl) (by decide) ?_
    refine zv_aload_n hC dX0_costOf_52 rfl ?_
    refine zv_getR (j := 1) hC fl_X0_32 dX0_costOf_53 rfl rfl ?_
    refine zv_aload_n hC dX0_costOf_56 rfl ?_
    refine zv_getR (j := 5) hC fl_X0_36 dX0_costOf_57 rfl rfl ?_
    refine zv_iload_n hC dX0_costOf_60 rfl ?_
    refine zv_callVi (As := [_]) hC dX0_costOf_61 Y_X5_first lk_X0_102 (by decide) rfl rfl rfl (Nat.le_of_ble_eq_true rfl) (ok_X5_first G h) ?_
    intro r_4 σ_3 h
    refine zv_callVi (As := [_]) hC dX0_costOf_64 Y_X3_size lk_X0_105 (by decide) rfl rfl rfl (Nat.le_of_ble_eq_true rfl) (ok_X3_size G h) ?_
    intro r_6 σ_5 h
    exact (hR _ _ _).1 _ rfl dX0_costOf_67 ⟨_, rfl, h⟩
  · replace h := h.2.1 c
    refine zv_table (off := 60) (tgt := 68) hC dX0_costOf_8 (by rw [c]; decide) (by rw [c]; decide) (by rw [c]; rfl) (by decide) ?_
    refine zv_aload_n hC dX0_costOf_68 rfl ?_
    refine zv_getR (j := 5) hC fl_X0_36 dX0_costOf_69 rfl rfl ?_
    refine zv_iload_n hC dX0_costOf_72 rfl ?_
    refine zv_callVi (As := [_]) hC dX0_costOf_73 Y_X5_second lk_X0_117 (by decide) rfl rfl rfl (Nat.le_of_ble_eq_true rfl) (ok_X5_second G h) ?_
    intro r_8 σ_7 h
    refine zv_aload_n hC dX0_costOf_76 rfl ?_
    refine zv_getR (j := 5) hC fl_X0_36 dX0_costOf_77 rfl rfl ?_
    refine zv_iload_n hC dX0_costOf_80 rfl ?_
    refine zv_callVi (As := [_]) hC dX0_costOf_81 Y_X5_first lk_X0_102 (by decide) rfl rfl rfl (Nat.le_of_ble_eq_true rfl) (ok_X5_first G h) ?_
    intro r_10 σ_9 h
    refine zv_isub hC dX0_costOf_84 ?_
    refine zv_iconst (v := 1) hC dX0_costOf_85 (by decide) ?_
    refine zv_iadd hC dX0_costOf_86 ?_
    exact (hR _ _ _).1 _ rfl dX0_costOf_87 ⟨_, rfl, h⟩
  · replace h := h.2.2.1 c
    refine zv_table (off := 80) (tgt := 88) hC dX0_costOf_8 (by rw [c]; decide) (by rw [c]; decide) (by rw [c]; rfl) (by decide) ?_
    refine zv_aload_n hC dX0_costOf_88 rfl ?_
    refine zv_iload_n hC dX0_costOf_89 rfl ?_
    refine zv_callVi (As := [_]) hC dX0_costOf_90 Y_X0_costOfBool lk_X0_164 (by decide) rfl rfl rfl (Nat.le_of_ble_eq_true rfl) (ok_X0_costOfBool G h) ?_
    intro r_12 σ_11 h
    exact (hR _ _ _).1 _ rfl dX0_costOf_93 ⟨_, rfl, h⟩
  · replace h := h.2.2.2.1 c
    refine zv_table (off := 86) (tgt := 94) hC dX0_costOf_8 (by rw [c]; decide) (by rw [c]; decide) (by rw [c]; rfl) (by decide) ?_
    refine zv_aload_n hC dX0_costOf_94 rfl ?_
    refine zv_iload_n hC dX0_costOf_95 rfl ?_
    refine zv_callVi (As := [_]) hC dX0_costOf_96 Y_X0_costOfShoulds lk_X0_167 (by decide) rfl rfl rfl (Nat.le_of_ble_eq_true rfl) (ok_X0_costOfShoulds G h) ?_
    intro r_14 σ_13 h
    exact (hR _ _ _).1 _ rfl dX0_costOf_99 ⟨_, rfl, h⟩
  · replace h := h.2.2.2.2.1 c
    refine zv_table (off := 129) (tgt := 137) hC dX0_costOf_8 (by rw [c]; decide) (by rw [c]; decide) (by rw [c]; rfl) (by decide) ?_
    exact zv_go (k_X0_costOf_137 hC hR  h) ⟨rfl, rfl, trivial⟩
  · replace h := h.2.2.2.2.2.1 c
    refine zv_table (off := 129) (tgt := 137) hC dX0_costOf_8 (by rw [c]; decide) (by rw [c]; decide) (by rw [c]; rfl) (by decide) ?_
    exact zv_go (k_X0_costOf_137 hC hR  h) ⟨rfl, rfl, trivial⟩
  · replace h := h.2.2.2.2.2.2.1 c
    refine zv_table (off := 92) (tgt := 100) hC dX0_costOf_8 (by rw [c]; decide) (by rw [c]; decide) (by rw [c]; rfl) (by decide) ?_
    refine zv_aload_n hC dX0_costOf_100 rfl ?_
    refine zv_getR (j := 13) hC fl_X0_40 dX0_costOf_101 rfl rfl ?_
    refine zv_iload_n hC dX0_costOf_104 rfl ?_
    refine zv_callVi (As := [_]) hC dX0_costOf_105 Y_X9_isThere lk_X0_123 (by decide) rfl rfl rfl (Nat.le_of_ble_eq_true rfl) (ok_X9_isThere G h) ?_
    intro r_16 σ_15 h
    refine zv_if_eq (tgt := 122) hC dX0_costOf_108 (by decide) (fun c => ?_) (fun c => ?_)
    · replace h := h.1 c
      refine zv_aload_n hC dX0_costOf_122 rfl ?_
      refine zv_getR (j := 24) hC fl_X0_21 dX0_costOf_123 rfl rfl ?_
      refine zv_aload_n hC dX0_costOf_126 rfl ?_
      refine zv_getR (j := 5) hC fl_X0_36 dX0_costOf_127 rfl rfl ?_
      refine zv_iload_n hC dX0_costOf_130 rfl ?_
      refine zv_iconst (v := 0) hC dX0_costOf_131 (by decide) ?_
      refine zv_callVi (As := [_, _]) hC dX0_costOf_132 Y_X5_partAt lk_X0_92 (by decide) rfl rfl rfl (Nat.le_of_ble_eq_true rfl) (ok_X5_partAt G h) ?_
      intro r_18 σ_17 h
      refine zv_iald hC dX0_costOf_135 rfl h.1 ?_
      replace h := h.2
      exact zv_go (k_X0_costOf_136 hC hR  h) trivial
    · replace h := h.2 c
      refine zv_aload_n hC dX0_costOf_111 rfl ?_
      refine zv_getR (j := 13) hC fl_X0_40 dX0_costOf_112 rfl rfl ?_
      refine zv_iload_n hC dX0_costOf_115 rfl ?_
      refine zv_callVi (As := [_]) hC dX0_costOf_116 Y_X9_size lk_X0_170 (by decide) rfl rfl rfl (Nat.le_of_ble_eq_true rfl) (ok_X9_size G h) ?_
      intro r_20 σ_19 h
      refine zv_goto (tgt := 136) hC dX0_costOf_119 (by decide) ?_
      exact zv_go (k_X0_costOf_136 hC hR  h) trivial
  · replace h := h.2.2.2.2.2.2.2 c
    refine zv_tableD (tgt := 152) hC dX0_costOf_8 c (by decide) ?_
    refine zv_iconst (v := 0) hC dX0_costOf_152 (by decide) ?_
    exact (hR _ _ _).1 _ rfl dX0_costOf_153 ⟨_, rfl, h⟩
theorem ok_X0_costOf (G : zv_G) {Q : Int32 → zv_St → Prop} {x1 : Int32} {σ : zv_St} (h : B_X0_costOf Q x1 σ) : zv_OK G M_X0_costOf yX0_costOf [.ref (G.2.2.1 19), .int x1] σ (zv_qi Q) := zv_ok G _ _ _ _ _ (by decide +kernel) rfl (Nat.le_of_ble_eq_true rfl) (fun X hC hR => zv_go (k_X0_costOf_0 hC hR h) ⟨rfl, rfl, trivial⟩)
