-- X4_scoreOf
def B_X4_scoreOf (Q : Int64 → zv_St → Prop) (x1 : Int32) (σ : zv_St) : Prop :=
  vp_in x1 80 ∧ Q (σ.2 29 x1.toNatClampNeg) σ
set_option maxRecDepth 20000 in
set_option maxHeartbeats 2000000 in
theorem k_X4_scoreOf_0 {G : zv_G} {X : zv_X} {Q : Int64 → zv_St → Prop}  (hC : zv_C G X M_X4_scoreOf) (hR : zv_R G X M_X4_scoreOf (zv_ql Q))  {x1 : Int32} {σ : zv_St} (h : B_X4_scoreOf Q  x1 σ) : zv_V G X M_X4_scoreOf 0 [(0, .ref (G.2.2.1 27)), (1, .int x1)] [] σ := by
  unfold B_X4_scoreOf at h
  refine zv_aload_n hC dX4_scoreOf_0 rfl ?_
  refine zv_getR (j := 29) hC fl_X4_15 dX4_scoreOf_1 rfl rfl ?_
  refine zv_iload_n hC dX4_scoreOf_4 rfl ?_
  refine zv_lald hC dX4_scoreOf_5 rfl h.1 ?_
  replace h := h.2
  exact (hR _ _ _).2.2.1 _ rfl dX4_scoreOf_6 ⟨_, rfl, h⟩
theorem ok_X4_scoreOf (G : zv_G) {Q : Int64 → zv_St → Prop} {x1 : Int32} {σ : zv_St} (h : B_X4_scoreOf Q x1 σ) : zv_OK G M_X4_scoreOf yX4_scoreOf [.ref (G.2.2.1 27), .int x1] σ (zv_ql Q) := zv_ok G _ _ _ _ _ (by decide +kernel) rfl (Nat.le_of_ble_eq_true rfl) (fun X hC hR => zv_go (k_X4_scoreOf_0 hC hR h) ⟨rfl, rfl, trivial⟩)
-- X10_look
def B_X10_look_18 (Q : Int32 → zv_St → Prop) (σ : zv_St) : Prop :=
  Q (-2) σ
set_option maxRecDepth 20000 in
set_option maxHeartbeats 2000000 in
theorem k_X10_look_18 {G : zv_G} {X : zv_X} {Q : Int32 → zv_St → Prop}  (hC : zv_C G X M_X10_look) (hR : zv_R G X M_X10_look (zv_qi Q))   {σ : zv_St} (h : B_X10_look_18 Q   σ) : zv_V G X M_X10_look 18 [] [] σ := by
  unfold B_X10_look_18 at h
  refine zv_bipush (v := (-2)) hC dX10_look_18 (by decide) ?_
  exact (hR _ _ _).1 _ rfl dX10_look_20 ⟨_, rfl, h⟩
def B_X10_look (Q : Int32 → zv_St → Prop) (x1 : Int32) (x2 : Int32) (σ : zv_St) : Prop :=
  B_X5_has (fun r_2 σ_1 => (r_2 = 0 → (B_X10_look_18 Q σ_1)) ∧ (¬ r_2 = 0 → (B_X10_isObject (fun r_4 σ_3 => (¬ r_4 = 0 → (B_X0_prepare (fun σ_5 => B_X4_matches (fun r_7 σ_6 => (¬ r_7 = 0 → (B_X4_scoreOf (fun r_9 σ_8 => ∀ σ_10 : zv_St, σ_10 = zv_wl σ_8 0 8 r_9 → Q 1 σ_10) x1 σ_6)) ∧ (r_7 = 0 → (Q 0 σ_6))) x1 x2 σ_5) x1 σ_3)) ∧ (r_4 = 0 → (B_X10_look_18 Q σ_3))) x2 σ_1))) x1 σ
set_option maxRecDepth 20000 in
set_option maxHeartbeats 2000000 in
theorem k_X10_look_0 {G : zv_G} {X : zv_X} {Q : Int32 → zv_St → Prop}  (hC : zv_C G X M_X10_look) (hR : zv_R G X M_X10_look (zv_qi Q))  {x1 : Int32} {x2 : Int32} {σ : zv_St} (h : B_X10_look Q  x1 x2 σ) : zv_V G X M_X10_look 0 [(0, .ref (G.2.2.1 0)), (1, .int x1), (2, .int x2)] [] σ := by
  unfold B_X10_look at h
  refine zv_aload_n hC dX10_look_0 rfl ?_
  refine zv_getR (j := 5) hC fl_X10_19 dX10_look_1 rfl rfl ?_
  refine zv_iload_n hC dX10_look_4 rfl ?_
  refine zv_callVi (As := [_]) hC dX10_look_5 Y_X5_has lk_X10_118 (by decide) rfl rfl rfl (Nat.le_of_ble_eq_true rfl) (ok_X5_has G h) ?_
  intro r_2 σ_1 h
  refine zv_if_eq (tgt := 18) hC dX10_look_8 (by decide) (fun c => ?_) (fun c => ?_)
  · replace h := h.1 c
    exact zv_go (k_X10_look_18 hC hR  h) trivial
  · replace h := h.2 c
    refine zv_iload_n hC dX10_look_11 rfl ?_
    refine zv_callSi (As := [_]) hC dX10_look_12 Y_X10_isObject lk_X10_77 (by decide) rfl rfl (Nat.le_of_ble_eq_true rfl) (ok_X10_isObject G h) ?_
    intro r_4 σ_3 h
    refine zv_if_ne (tgt := 21) hC dX10_look_15 (by decide) (fun c => ?_) (fun c => ?_)
    · replace h := h.1 c
      refine zv_aload_n hC dX10_look_21 rfl ?_
      refine zv_getR (j := 19) hC fl_X10_37 dX10_look_22 rfl rfl ?_
      refine zv_iload_n hC dX10_look_25 rfl ?_
      refine zv_callVv (As := [_]) hC dX10_look_26 Y_X0_prepare lk_X10_143 (by decide) rfl rfl rfl (Nat.le_of_ble_eq_true rfl) (ok_X0_prepare G h) ?_
      intro σ_5 h
      refine zv_aload_n hC dX10_look_29 rfl ?_
      refine zv_getR (j := 27) hC fl_X10_46 dX10_look_30 rfl rfl ?_
      refine zv_iload_n hC dX10_look_33 rfl ?_
      refine zv_iload_n hC dX10_look_34 rfl ?_
      refine zv_callVi (As := [_, _]) hC dX10_look_35 Y_X4_matches lk_X10_168 (by decide) rfl rfl rfl (Nat.le_of_ble_eq_true rfl) (ok_X4_matches G h) ?_
      intro r_7 σ_6 h
      refine zv_if_ne (tgt := 43) hC dX10_look_38 (by decide) (fun c => ?_) (fun c => ?_)
      · replace h := h.1 c
        refine zv_aload_n hC dX10_look_43 rfl ?_
        refine zv_aload_n hC dX10_look_44 rfl ?_
        refine zv_getR (j := 27) hC fl_X10_46 dX10_look_45 rfl rfl ?_
        refine zv_iload_n hC dX10_look_48 rfl ?_
        refine zv_callVl (As := [_]) hC dX10_look_49 Y_X4_scoreOf lk_X10_171 (by decide) rfl rfl rfl (Nat.le_of_ble_eq_true rfl) (ok_X4_scoreOf G h) ?_
        intro r_9 σ_8 h
        refine zv_putL hC fp_X10_175 dX10_look_52 rfl rfl rfl rfl ?_
        replace h := h _ rfl
        refine zv_iconst (v := 1) hC dX10_look_55 (by decide) ?_
        exact (hR _ _ _).1 _ rfl dX10_look_56 ⟨_, rfl, h⟩
      · replace h := h.2 c
        refine zv_iconst (v := 0) hC dX10_look_41 (by decide) ?_
        exact (hR _ _ _).1 _ rfl dX10_look_42 ⟨_, rfl, h⟩
    · replace h := h.2 c
      exact zv_go (k_X10_look_18 hC hR  h) trivial
theorem ok_X10_look (G : zv_G) {Q : Int32 → zv_St → Prop} {x1 : Int32} {x2 : Int32} {σ : zv_St} (h : B_X10_look Q x1 x2 σ) : zv_OK G M_X10_look yX10_look [.ref (G.2.2.1 0), .int x1, .int x2] σ (zv_qi Q) := zv_ok G _ _ _ _ _ (by decide +kernel) rfl (Nat.le_of_ble_eq_true rfl) (fun X hC hR => zv_go (k_X10_look_0 hC hR h) ⟨rfl, rfl, rfl, trivial⟩)
-- X10_scored
def B_X10_scored (Q : Int64 → zv_St → Prop) (σ : zv_St) : Prop :=
  Q (σ.2 0 8) σ
set_option maxRecDepth 20000 in
set_option maxHeartbeats 2000000 in
theorem k_X10_scored_0 {G : zv_G} {X : zv_X} {Q : Int64 → zv_St → Prop}  (hC : zv_C G X M_X10_scored) (hR : zv_R G X M_X10_scored (zv_ql Q))   {σ : zv_St} (h : B_X10_scored Q   σ) : zv_V G X M_X10_scored 0 [(0, .ref (G.2.2.1 0))] [] σ := by
  unfold B_X10_scored at h
  refine zv_aload_n hC dX10_scored_0 rfl ?_
  refine zv_getL hC fl_X10_175 dX10_scored_1 rfl rfl ?_
  exact (hR _ _ _).2.2.1 _ rfl dX10_scored_4 ⟨_, rfl, h⟩
theorem ok_X10_scored (G : zv_G) {Q : Int64 → zv_St → Prop}  {σ : zv_St} (h : B_X10_scored Q  σ) : zv_OK G M_X10_scored yX10_scored [.ref (G.2.2.1 0)] σ (zv_ql Q) := zv_ok G _ _ _ _ _ (by decide +kernel) rfl (Nat.le_of_ble_eq_true rfl) (fun X hC hR => zv_go (k_X10_scored_0 hC hR h) ⟨rfl, trivial⟩)
-- X1_clear
def B_X1_clear (Q : zv_St → Prop) (σ : zv_St) : Prop :=
  ∀ σ_1 : zv_St, σ_1 = zv_wi σ 31 2 0 → Q σ_1
set_option maxRecDepth 20000 in
set_option maxHeartbeats 2000000 in
theorem k_X1_clear_0 {G : zv_G} {X : zv_X} {Q : zv_St → Prop}  (hC : zv_C G X M_X1_clear) (hR : zv_R G X M_X1_clear (zv_qv Q))   {σ : zv_St} (h : B_X1_clear Q   σ) : zv_V G X M_X1_clear 0 [(0, .ref (G.2.2.1 31))] [] σ := by
  unfold B_X1_clear at h
  refine zv_aload_n hC dX1_clear_0 rfl ?_
  refine zv_iconst (v := 0) hC dX1_clear_1 (by decide) ?_
  refine zv_putI hC fp_X1_19 dX1_clear_2 rfl rfl rfl rfl ?_
  replace h := h _ rfl
  exact (hR _ _ _).2.2.2.1 rfl dX1_clear_5 ⟨rfl, h⟩
theorem ok_X1_clear (G : zv_G) {Q : zv_St → Prop}  {σ : zv_St} (h : B_X1_clear Q  σ) : zv_OK G M_X1_clear yX1_clear [.ref (G.2.2.1 31)] σ (zv_qv Q) := zv_ok G _ _ _ _ _ (by decide +kernel) rfl (Nat.le_of_ble_eq_true rfl) (fun X hC hR => zv_go (k_X1_clear_0 hC hR h) ⟨rfl, trivial⟩)
-- X1_add
def B_X1_add_40 (Q : zv_St → Prop) (σ : zv_St) : Prop :=
  Q σ
set_option maxRecDepth 20000 in
set_option maxHeartbeats 2000000 in
theorem k_X1_add_40 {G : zv_G} {X : zv_X} {Q : zv_St → Prop}  (hC : zv_C G X M_X1_add) (hR : zv_R G X M_X1_add (zv_qv Q))   {σ : zv_St} (h : B_X1_add_40 Q   σ) : zv_V G X M_X1_add 40 [] [] σ := by
  unfold B_X1_add_40 at h
  exact (hR _ _ _).2.2.2.1 rfl dX1_add_40 ⟨rfl, h⟩
def B_X1_add (Q : zv_St → Prop) (x1 : Int32) (x2 : Int64) (σ : zv_St) : Prop :=
  (512 ≤ (σ.1 31 2) → (B_X1_add_40 Q σ)) ∧ (¬ 512 ≤ (σ.1 31 2) → (vp_in (σ.1 31 2) 512 ∧ ∀ σ_1 : zv_St, σ_1 = zv_wi σ 32 (σ.1 31 2).toNatClampNeg x1 → vp_in (σ_1.1 31 2) 512 ∧ ∀ σ_2 : zv_St, σ_2 = zv_wl σ_1 33 (σ_1.1 31 2).toNatClampNeg x2 → ∀ σ_3 : zv_St, σ_3 = zv_wi σ_2 31 2 ((σ_2.1 31 2) + 1) → B_X1_add_40 Q σ_3))
set_option maxRecDepth 20000 in
set_option maxHeartbeats 2000000 in
theorem k_X1_add_0 {G : zv_G} {X : zv_X} {Q : zv_St → Prop}  (hC : zv_C G X M_X1_add) (hR : zv_R G X M_X1_add (zv_qv Q))  {x1 : Int32} {x2 : Int64} {σ : zv_St} (h : B_X1_add Q  x1 x2 σ) : zv_V G X M_X1_add 0 [(0, .ref (G.2.2.1 31)), (1, .int x1), (2, .long x2)] [] σ := by
  unfold B_X1_add at h
  refine zv_aload_n hC dX1_add_0 rfl ?_
  refine zv_getI hC fl_X1_19 dX1_add_1 rfl rfl ?_
  refine zv_sipush (v := 512) hC dX1_add_4 (by decide) ?_
  refine zv_icmp_ge (tgt := 40) hC dX1_add_7 (by decide) (fun c => ?_) (fun c => ?_)
  · replace h := h.1 c
    exact zv_go (k_X1_add_40 hC hR  h) trivial
  · replace h := h.2 c
    refine zv_aload_n hC dX1_add_10 rfl ?_
    refine zv_getR (j := 32) hC fl_X1_9 dX1_add_11 rfl rfl ?_
    refine zv_aload_n hC dX1_add_14 rfl ?_
    refine zv_getI hC fl_X1_19 dX1_add_15 rfl rfl ?_
    refine zv_iload_n hC dX1_add_18 rfl ?_
    refine zv_iast hC dX1_add_19 rfl h.1 ?_
    replace h := h.2 _ rfl
    refine zv_aload_n hC dX1_add_20 rfl ?_
    refine zv_getR (j := 33) hC fl_X1_15 dX1_add_21 rfl rfl ?_
    refine zv_aload_n hC dX1_add_24 rfl ?_
    refine zv_getI hC fl_X1_19 dX1_add_25 rfl rfl ?_
    refine zv_lload_n hC dX1_add_28 rfl ?_
    refine zv_last hC dX1_add_29 rfl h.1 ?_
    replace h := h.2 _ rfl
    refine zv_aload_n hC dX1_add_30 rfl ?_
    refine zv_dup hC dX1_add_31 rfl ?_
    refine zv_getI hC fl_X1_19 dX1_add_32 rfl rfl ?_
    refine zv_iconst (v := 1) hC dX1_add_35 (by decide) ?_
    refine zv_iadd hC dX1_add_36 ?_
    refine zv_putI hC fp_X1_19 dX1_add_37 rfl rfl rfl rfl ?_
    replace h := h _ rfl
    exact zv_go (k_X1_add_40 hC hR  h) trivial
theorem ok_X1_add (G : zv_G) {Q : zv_St → Prop} {x1 : Int32} {x2 : Int64} {σ : zv_St} (h : B_X1_add Q x1 x2 σ) : zv_OK G M_X1_add yX1_add [.ref (G.2.2.1 31), .int x1, .long x2] σ (zv_qv Q) := zv_ok G _ _ _ _ _ (by decide +kernel) rfl (Nat.le_of_ble_eq_true rfl) (fun X hC hR => zv_go (k_X1_add_0 hC hR h) ⟨rfl, rfl, rfl, trivial⟩)
-- X1_size
def B_X1_size (Q : Int32 → zv_St → Prop) (σ : zv_St) : Prop :=
  Q (σ.1 31 2) σ
set_option maxRecDepth 20000 in
set_option maxHeartbeats 2000000 in
theorem k_X1_size_0 {G : zv_G} {X : zv_X} {Q : Int32 → zv_St → Prop}  (hC : zv_C G X M_X1_size) (hR : zv_R G X M_X1_size (zv_qi Q))   {σ : zv_St} (h : B_X1_size Q   σ) : zv_V G X M_X1_size 0 [(0, .ref (G.2.2.1 31))] [] σ := by
  unfold B_X1_size at h
  refine zv_aload_n hC dX1_size_0 rfl ?_
  refine zv_getI hC fl_X1_19 dX1_size_1 rfl rfl ?_
  exact (hR _ _ _).1 _ rfl dX1_size_4 ⟨_, rfl, h⟩
theorem ok_X1_size (G : zv_G) {Q : Int32 → zv_St → Prop}  {σ : zv_St} (h : B_X1_size Q  σ) : zv_OK G M_X1_size yX1_size [.ref (G.2.2.1 31)] σ (zv_qi Q) := zv_ok G _ _ _ _ _ (by decide +kernel) rfl (Nat.le_of_ble_eq_true rfl) (fun X hC hR => zv_go (k_X1_size_0 hC hR h) ⟨rfl, trivial⟩)
-- X10_run
def B_X10_run_66 (Q : Int32 → zv_St → Prop) (kk31 : Int32 → Int32 → zv_St → Prop) (x1 : Int32) (x2 : Int32) (σ : zv_St) : Prop :=
  kk31 x1 (x2 + 1) σ
set_option maxRecDepth 20000 in
set_option maxHeartbeats 2000000 in
theorem k_X10_run_66 {G : zv_G} {X : zv_X} {Q : Int32 → zv_St → Prop} {kk31 : Int32 → Int32 → zv_St → Prop} (hC : zv_C G X M_X10_run) (hR : zv_R G X M_X10_run (zv_qi Q)) (hk31 : ∀ (x1 : Int32) (x2 : Int32) (σ : zv_St), kk31 x1 x2 σ → zv_V G X M_X10_run 31 [(0, .ref (G.2.2.1 0)), (1, .int x1), (2, .int x2)] [] σ) {x1 : Int32} {x2 : Int32} {σ : zv_St} (h : B_X10_run_66 Q kk31 x1 x2 σ) : zv_V G X M_X10_run 66 [(0, .ref (G.2.2.1 0)), (1, .int x1), (2, .int x2)] [] σ := by
  unfold B_X10_run_66 at h
  refine zv_iinc (v := 1) hC dX10_run_66 rfl (by decide) (by decide) ?_
  refine zv_goto (tgt := 31) hC dX10_run_69 (by decide) ?_
  exact zv_go (hk31 _ _ _ h) ⟨rfl, rfl, rfl, trivial⟩
def L_X10_run_31 (Q : Int32 → zv_St → Prop) : Nat → (Int32 → Int32 → zv_St → Prop)
  | 0 => fun _ _ _ => False
  | u + 1 => fun x1 x2 σ => 
    (512 ≤ x2 → (B_X1_size (fun r_2 σ_1 => Q r_2 σ_1) σ)) ∧ (¬ 512 ≤ x2 → (B_X4_matches (fun r_4 σ_3 => (r_4 = 0 → (B_X10_run_66 Q (L_X10_run_31 Q u) x1 x2 σ_3)) ∧ (¬ r_4 = 0 → (B_X4_scoreOf (fun r_6 σ_5 => B_X1_add (fun σ_7 => B_X10_run_66 Q (L_X10_run_31 Q u) x1 x2 σ_7) x2 r_6 σ_5) x1 σ_3))) x1 x2 σ))
set_option maxRecDepth 20000 in
set_option maxHeartbeats 2000000 in
theorem kL_X10_run_31 {G : zv_G} {X : zv_X} {Q : Int32 → zv_St → Prop}  (hC : zv_C G X M_X10_run) (hR : zv_R G X M_X10_run (zv_qi Q))  : ∀ (n : Nat) (x1 : Int32) (x2 : Int32) (σ : zv_St), L_X10_run_31 Q  n x1 x2 σ → zv_V G X M_X10_run 31 [(0, .ref (G.2.2.1 0)), (1, .int x1), (2, .int x2)] [] σ := by
  intro n
  induction n with
  | zero => intro x1 x2 σ h; exact h.elim
  | succ n hk31 =>
    intro x1 x2 σ h
    unfold L_X10_run_31 at h
    refine zv_iload_n hC dX10_run_31 rfl ?_
    refine zv_sipush (v := 512) hC dX10_run_32 (by decide) ?_
    refine zv_icmp_ge (tgt := 72) hC dX10_run_35 (by decide) (fun c => ?_) (fun c => ?_)
    · replace h := h.1 c
      refine zv_aload_n hC dX10_run_72 rfl ?_
      refine zv_getR (j := 31) hC fl_X10_53 dX10_run_73 rfl rfl ?_
      refine zv_callVi (As := []) hC dX10_run_76 Y_X1_size lk_X10_185 (by decide) rfl rfl rfl (Nat.le_of_ble_eq_true rfl) (ok_X1_size G h) ?_
      intro r_2 σ_1 h
      exact (hR _ _ _).1 _ rfl dX10_run_79 ⟨_, rfl, h⟩
    · replace h := h.2 c
      refine zv_aload_n hC dX10_run_38 rfl ?_
      refine zv_getR (j := 27) hC fl_X10_46 dX10_run_39 rfl rfl ?_
      refine zv_iload_n hC dX10_run_42 rfl ?_
      refine zv_iload_n hC dX10_run_43 rfl ?_
      refine zv_callVi (As := [_, _]) hC dX10_run_44 Y_X4_matches lk_X10_168 (by decide) rfl rfl rfl (Nat.le_of_ble_eq_true rfl) (ok_X4_matches G h) ?_
      intro r_4 σ_3 h
      refine zv_if_eq (tgt := 66) hC dX10_run_47 (by decide) (fun c => ?_) (fun c => ?_)
      · replace h := h.1 c
        exact zv_go (k_X10_run_66 hC hR hk31 h) ⟨rfl, rfl, rfl, trivial⟩
      · replace h := h.2 c
        refine zv_aload_n hC dX10_run_50 rfl ?_
        refine zv_getR (j := 31) hC fl_X10_53 dX10_run_51 rfl rfl ?_
        refine zv_iload_n hC dX10_run_54 rfl ?_
        refine zv_aload_n hC dX10_run_55 rfl ?_
        refine zv_getR (j := 27) hC fl_X10_46 dX10_run_56 rfl rfl ?_
        refine zv_iload_n hC dX10_run_59 rfl ?_
        refine zv_callVl (As := [_]) hC dX10_run_60 Y_X4_scoreOf lk_X10_171 (by decide) rfl rfl rfl (Nat.le_of_ble_eq_true rfl) (ok_X4_scoreOf G h) ?_
        intro r_6 σ_5 h
        refine zv_callVv (As := [_, _]) hC dX10_run_63 Y_X1_add lk_X10_182 (by decide) rfl rfl rfl (Nat.le_of_ble_eq_true rfl) (ok_X1_add G h) ?_
        intro σ_7 h
        exact zv_go (k_X10_run_66 hC hR hk31 h) ⟨rfl, rfl, rfl, trivial⟩
def B_X10_run (Q : Int32 → zv_St → Prop) (x1 : Int32) (σ : zv_St) : Prop :=
  B_X5_has (fun r_2 σ_1 => (¬ r_2 = 0 → (B_X0_prepare (fun σ_3 => B_X1_clear (fun σ_4 => ∃ n31, L_X10_run_31 Q n31 x1 0 σ_4) σ_3) x1 σ_1)) ∧ (r_2 = 0 → (Q (-2) σ_1))) x1 σ
set_option maxRecDepth 20000 in
set_option maxHeartbeats 2000000 in
theorem k_X10_run_0 {G : zv_G} {X : zv_X} {Q : Int32 → zv_St → Prop}  (hC : zv_C G X M_X10_run) (hR : zv_R G X M_X10_run (zv_qi Q))  {x1 : Int32} {σ : zv_St} (h : B_X10_run Q  x1 σ) : zv_V G X M_X10_run 0 [(0, .ref (G.2.2.1 0)), (1, .int x1)] [] σ := by
  unfold B_X10_run at h
  refine zv_aload_n hC dX10_run_0 rfl ?_
  refine zv_getR (j := 5) hC fl_X10_19 dX10_run_1 rfl rfl ?_
  refine zv_iload_n hC dX10_run_4 rfl ?_
  refine zv_callVi (As := [_]) hC dX10_run_5 Y_X5_has lk_X10_118 (by decide) rfl rfl rfl (Nat.le_of_ble_eq_true rfl) (ok_X5_has G h) ?_
  intro r_2 σ_1 h
  refine zv_if_ne (tgt := 14) hC dX10_run_8 (by decide) (fun c => ?_) (fun c => ?_)
  · replace h := h.1 c
    refine zv_aload_n hC dX10_run_14 rfl ?_
    refine zv_getR (j := 19) hC fl_X10_37 dX10_run_15 rfl rfl ?_
    refine zv_iload_n hC dX10_run_18 rfl ?_
    refine zv_callVv (As := [_]) hC dX10_run_19 Y_X0_prepare lk_X10_143 (by decide) rfl rfl rfl (Nat.le_of_ble_eq_true rfl) (ok_X0_prepare G h) ?_
    intro σ_3 h
    refine zv_aload_n hC dX10_run_22 rfl ?_
    refine zv_getR (j := 31) hC fl_X10_53 dX10_run_23 rfl rfl ?_
    refine zv_callVv (As := []) hC dX10_run_26 Y_X1_clear lk_X10_179 (by decide) rfl rfl rfl (Nat.le_of_ble_eq_true rfl) (ok_X1_clear G h) ?_
    intro σ_4 h
    refine zv_iconst (v := 0) hC dX10_run_29 (by decide) ?_
    refine zv_istore_n hC dX10_run_30 (by decide) ?_
    obtain ⟨n, h⟩ := h
    exact zv_go (kL_X10_run_31 hC hR  n _ _ _ h) ⟨rfl, rfl, rfl, trivial⟩
  · replace h := h.2 c
    refine zv_bipush (v := (-2)) hC dX10_run_11 (by decide) ?_
    exact (hR _ _ _).1 _ rfl dX10_run_13 ⟨_, rfl, h⟩
theorem ok_X10_run (G : zv_G) {Q : Int32 → zv_St → Prop} {x1 : Int32} {σ : zv_St} (h : B_X10_run Q x1 σ) : zv_OK G M_X10_run yX10_run [.ref (G.2.2.1 0), .int x1] σ (zv_qi Q) := zv_ok G _ _ _ _ _ (by decide +kernel) rfl (Nat.le_of_ble_eq_true rfl) (fun X hC hR => zv_go (k_X10_run_0 hC hR h) ⟨rfl, rfl, trivial⟩)
-- X1_has
def B_X1_has_17 (Q : Int32 → zv_St → Prop) (y0 : Int32) (σ : zv_St) : Prop :=
  narrow .boolean (.int y0) = .int y0 ∧ Q y0 σ
set_option maxRecDepth 20000 in
set_option maxHeartbeats 2000000 in
theorem k_X1_has_17 {G : zv_G} {X : zv_X} {Q : Int32 → zv_St → Prop}  (hC : zv_C G X M_X1_has) (hR : zv_R G X M_X1_has (zv_qi Q))  {y0 : Int32} {σ : zv_St} (h : B_X1_has_17 Q  y0 σ) : zv_V G X M_X1_has 17 [] [.int y0] σ := by
  unfold B_X1_has_17 at h
  exact (hR _ _ _).2.1 _ rfl h.1 dX1_has_17 ⟨_, rfl, h.2⟩
def B_X1_has_16 (Q : Int32 → zv_St → Prop) (σ : zv_St) : Prop :=
  B_X1_has_17 Q 0 σ
set_option maxRecDepth 20000 in
set_option maxHeartbeats 2000000 in
theorem k_X1_has_16 {G : zv_G} {X : zv_X} {Q : Int32 → zv_St → Prop}  (hC : zv_C G X M_X1_has) (hR : zv_R G X M_X1_has (zv_qi Q))   {σ : zv_St} (h : B_X1_has_16 Q   σ) : zv_V G X M_X1_has 16 [] [] σ := by
  unfold B_X1_has_16 at h
  refine zv_iconst (v := 0) hC dX1_has_16 (by decide) ?_
  exact zv_go (k_X1_has_17 hC hR  h) trivial
def B_X1_has (Q : Int32 → zv_St → Prop) (x1 : Int32) (σ : zv_St) : Prop :=
  (x1 < 0 → (B_X1_has_16 Q σ)) ∧ (¬ x1 < 0 → (((σ.1 31 2) ≤ x1 → (B_X1_has_16 Q σ)) ∧ (¬ (σ.1 31 2) ≤ x1 → (B_X1_has_17 Q 1 σ))))
set_option maxRecDepth 20000 in
set_option maxHeartbeats 2000000 in
theorem k_X1_has_0 {G : zv_G} {X : zv_X} {Q : Int32 → zv_St → Prop}  (hC : zv_C G X M_X1_has) (hR : zv_R G X M_X1_has (zv_qi Q))  {x1 : Int32} {σ : zv_St} (h : B_X1_has Q  x1 σ) : zv_V G X M_X1_has 0 [(0, .ref (G.2.2.1 31)), (1, .int x1)] [] σ := by
  unfold B_X1_has at h
  refine zv_iload_n hC dX1_has_0 rfl ?_
  refine zv_if_lt (tgt := 16) hC dX1_has_1 (by decide) (fun c => ?_) (fun c => ?_)
  · replace h := h.1 c
    exact zv_go (k_X1_has_16 hC hR  h) trivial
  · replace h := h.2 c
    refine zv_iload_n hC dX1_has_4 rfl ?_
    refine zv_aload_n hC dX1_has_5 rfl ?_
    refine zv_getI hC fl_X1_19 dX1_has_6 rfl rfl ?_
    refine zv_icmp_ge (tgt := 16) hC dX1_has_9 (by decide) (fun c => ?_) (fun c => ?_)
    · replace h := h.1 c
      exact zv_go (k_X1_has_16 hC hR  h) trivial
    · replace h := h.2 c
      refine zv_iconst (v := 1) hC dX1_has_12 (by decide) ?_
      refine zv_goto (tgt := 17) hC dX1_has_13 (by decide) ?_
      exact zv_go (k_X1_has_17 hC hR  h) trivial
theorem ok_X1_has (G : zv_G) {Q : Int32 → zv_St → Prop} {x1 : Int32} {σ : zv_St} (h : B_X1_has Q x1 σ) : zv_OK G M_X1_has yX1_has [.ref (G.2.2.1 31), .int x1] σ (zv_qi Q) := zv_ok G _ _ _ _ _ (by decide +kernel) rfl (Nat.le_of_ble_eq_true rfl) (fun X hC hR => zv_go (k_X1_has_0 hC hR h) ⟨rfl, rfl, trivial⟩)
-- X1_objectAt
def B_X1_objectAt (Q : Int32 → zv_St → Prop) (x1 : Int32) (σ : zv_St) : Prop :=
  vp_in x1 512 ∧ Q (σ.1 32 x1.toNatClampNeg) σ
set_option maxRecDepth 20000 in
set_option maxHeartbeats 2000000 in
theorem k_X1_objectAt_0 {G : zv_G} {X : zv_X} {Q : Int32 → zv_St → Prop}  (hC : zv_C G X M_X1_objectAt) (hR : zv_R G X M_X1_objectAt (zv_qi Q))  {x1 : Int32} {σ : zv_St} (h : B_X1_objectAt Q  x1 σ) : zv_V G X M_X1_objectAt 0 [(0, .ref (G.2.2.1 31)), (1, .int x1)] [] σ := by
  unfold B_X1_objectAt at h
  refine zv_aload_n hC dX1_objectAt_0 rfl ?_
  refine zv_getR (j := 32) hC fl_X1_9 dX1_objectAt_1 rfl rfl ?_
  refine zv_iload_n hC dX1_objectAt_4 rfl ?_
  refine zv_iald hC dX1_objectAt_5 rfl h.1 ?_
  replace h := h.2
  exact (hR _ _ _).1 _ rfl dX1_objectAt_6 ⟨_, rfl, h⟩
theorem ok_X1_objectAt (G : zv_G) {Q : Int32 → zv_St → Prop} {x1 : Int32} {σ : zv_St} (h : B_X1_objectAt Q x1 σ) : zv_OK G M_X1_objectAt yX1_objectAt [.ref (G.2.2.1 31), .int x1] σ (zv_qi Q) := zv_ok G _ _ _ _ _ (by decide +kernel) rfl (Nat.le_of_ble_eq_true rfl) (fun X hC hR => zv_go (k_X1_objectAt_0 hC hR h) ⟨rfl, rfl, trivial⟩)
-- X10_found
def B_X10_found_23 (Q : Int32 → zv_St → Prop) (y0 : Int32) (σ : zv_St) : Prop :=
  Q y0 σ
set_option maxRecDepth 20000 in
set_option maxHeartbeats 2000000 in
theorem k_X10_found_23 {G : zv_G} {X : zv_X} {Q : Int32 → zv_St → Prop}  (hC : zv_C G X M_X10_found) (hR : zv_R G X M_X10_found (zv_qi Q))  {y0 : Int32} {σ : zv_St} (h : B_X10_found_23 Q  y0 σ) : zv_V G X M_X10_found 23 [] [.int y0] σ := by
  unfold B_X10_found_23 at h
  exact (hR _ _ _).1 _ rfl dX10_found_23 ⟨_, rfl, h⟩
def B_X10_found (Q : Int32 → zv_St → Prop) (x1 : Int32) (σ : zv_St) : Prop :=
  B_X1_has (fun r_2 σ_1 => (r_2 = 0 → (B_X10_found_23 Q (-1) σ_1)) ∧ (¬ r_2 = 0 → (B_X1_objectAt (fun r_4 σ_3 => B_X10_found_23 Q r_4 σ_3) x1 σ_1))) x1 σ
set_option maxRecDepth 20000 in
set_option maxHeartbeats 2000000 in
theorem k_X10_found_0 {G : zv_G} {X : zv_X} {Q : Int32 → zv_St → Prop}  (hC : zv_C G X M_X10_found) (hR : zv_R G X M_X10_found (zv_qi Q))  {x1 : Int32} {σ : zv_St} (h : B_X10_found Q  x1 σ) : zv_V G X M_X10_found 0 [(0, .ref (G.2.2.1 0)), (1, .int x1)] [] σ := by
  unfold B_X10_found at h
  refine zv_aload_n hC dX10_found_0 rfl ?_
  refine zv_getR (j := 31) hC fl_X10_53 dX10_found_1 rfl rfl ?_
  refine zv_iload_n hC dX10_found_4 rfl ?_
  refine zv_callVi (As := [_]) hC dX10_found_5 Y_X1_has lk_X10_188 (by decide) rfl rfl rfl (Nat.le_of_ble_eq_true rfl) (ok_X1_has G h) ?_
  intro r_2 σ_1 h
  refine zv_if_eq (tgt := 22) hC dX10_found_8 (by decide) (fun c => ?_) (fun c => ?_)
  · replace h := h.1 c
    refine zv_iconst (v := (-1)) hC dX10_found_22 (by decide) ?_
    exact zv_go (k_X10_found_23 hC hR  h) trivial
  · replace h := h.2 c
    refine zv_aload_n hC dX10_found_11 rfl ?_
    refine zv_getR (j := 31) hC fl_X10_53 dX10_found_12 rfl rfl ?_
    refine zv_iload_n hC dX10_found_15 rfl ?_
    refine zv_callVi (As := [_]) hC dX10_found_16 Y_X1_objectAt lk_X10_189 (by decide) rfl rfl rfl (Nat.le_of_ble_eq_true rfl) (ok_X1_objectAt G h) ?_
    intro r_4 σ_3 h
    refine zv_goto (tgt := 23) hC dX10_found_19 (by decide) ?_
    exact zv_go (k_X10_found_23 hC hR  h) trivial
theorem ok_X10_found (G : zv_G) {Q : Int32 → zv_St → Prop} {x1 : Int32} {σ : zv_St} (h : B_X10_found Q x1 σ) : zv_OK G M_X10_found yX10_found [.ref (G.2.2.1 0), .int x1] σ (zv_qi Q) := zv_ok G _ _ _ _ _ (by decide +kernel) rfl (Nat.le_of_ble_eq_true rfl) (fun X hC hR => zv_go (k_X10_found_0 hC hR h) ⟨rfl, rfl, trivial⟩)
-- X1_scoreAt
def B_X1_scoreAt (Q : Int64 → zv_St → Prop) (x1 : Int32) (σ : zv_St) : Prop :=
  vp_in x1 512 ∧ Q (σ.2 33 x1.toNatClampNeg) σ
set_option maxRecDepth 20000 in
set_option maxHeartbeats 2000000 in
theorem k_X1_scoreAt_0 {G : zv_G} {X : zv_X} {Q : Int64 → zv_St → Prop}  (hC : zv_C G X M_X1_scoreAt) (hR : zv_R G X M_X1_scoreAt (zv_ql Q))  {x1 : Int32} {σ : zv_St} (h : B_X1_scoreAt Q  x1 σ) : zv_V G X M_X1_scoreAt 0 [(0, .ref (G.2.2.1 31)), (1, .int x1)] [] σ := by
  unfold B_X1_scoreAt at h
  refine zv_aload_n hC dX1_scoreAt_0 rfl ?_
  refine zv_getR (j := 33) hC fl_X1_15 dX1_scoreAt_1 rfl rfl ?_
  refine zv_iload_n hC dX1_scoreAt_4 rfl ?_
  refine zv_lald hC dX1_scoreAt_5 rfl h.1 ?_
  replace h := h.2
  exact (hR _ _ _).2.2.1 _ rfl dX1_scoreAt_6 ⟨_, rfl, h⟩
theorem ok_X1_scoreAt (G : zv_G) {Q : Int64 → zv_St → Prop} {x1 : Int32} {σ : zv_St} (h : B_X1_scoreAt Q x1 σ) : zv_OK G M_X1_scoreAt yX1_scoreAt [.ref (G.2.2.1 31), .int x1] σ (zv_ql Q) := zv_ok G _ _ _ _ _ (by decide +kernel) rfl (Nat.le_of_ble_eq_true rfl) (fun X hC hR => zv_go (k_X1_scoreAt_0 hC hR h) ⟨rfl, rfl, trivial⟩)
-- X10_score
def B_X10_score_23 (Q : Int64 → zv_St → Prop) (y0 : Int64) (σ : zv_St) : Prop :=
  Q y0 σ
set_option maxRecDepth 20000 in
set_option maxHeartbeats 2000000 in
theorem k_X10_score_23 {G : zv_G} {X : zv_X} {Q : Int64 → zv_St → Prop}  (hC : zv_C G X M_X10_score) (hR : zv_R G X M_X10_score (zv_ql Q))  {y0 : Int64} {σ : zv_St} (h : B_X10_score_23 Q  y0 σ) : zv_V G X M_X10_score 23 [] [.long y0] σ := by
  unfold B_X10_score_23 at h
  exact (hR _ _ _).2.2.1 _ rfl dX10_score_23 ⟨_, rfl, h⟩
def B_X10_score (Q : Int64 → zv_St → Prop) (x1 : Int32) (σ : zv_St) : Prop :=
  B_X1_has (fun r_2 σ_1 => (r_2 = 0 → (B_X10_score_23 Q 0 σ_1)) ∧ (¬ r_2 = 0 → (B_X1_scoreAt (fun r_4 σ_3 => B_X10_score_23 Q r_4 σ_3) x1 σ_1))) x1 σ
set_option maxRecDepth 20000 in
set_option maxHeartbeats 2000000 in
theorem k_X10_score_0 {G : zv_G} {X : zv_X} {Q : Int64 → zv_St → Prop}  (hC : zv_C G X M_X10_score) (hR : zv_R G X M_X10_score (zv_ql Q))  {x1 : Int32} {σ : zv_St} (h : B_X10_score Q  x1 σ) : zv_V G X M_X10_score 0 [(0, .ref (G.2.2.1 0)), (1, .int x1)] [] σ := by
  unfold B_X10_score at h
  refine zv_aload_n hC dX10_score_0 rfl ?_
  refine zv_getR (j := 31) hC fl_X10_53 dX10_score_1 rfl rfl ?_
  refine zv_iload_n hC dX10_score_4 rfl ?_
  refine zv_callVi (As := [_]) hC dX10_score_5 Y_X1_has lk_X10_188 (by decide) rfl rfl rfl (Nat.le_of_ble_eq_true rfl) (ok_X1_has G h) ?_
  intro r_2 σ_1 h
  refine zv_if_eq (tgt := 22) hC dX10_score_8 (by decide) (fun c => ?_) (fun c => ?_)
  · replace h := h.1 c
    refine zv_lconst (v := 0) hC dX10_score_22 (by decide) ?_
    exact zv_go (k_X10_score_23 hC hR  h) trivial
  · replace h := h.2 c
    refine zv_aload_n hC dX10_score_11 rfl ?_
    refine zv_getR (j := 31) hC fl_X10_53 dX10_score_12 rfl rfl ?_
    refine zv_iload_n hC dX10_score_15 rfl ?_
    refine zv_callVl (As := [_]) hC dX10_score_16 Y_X1_scoreAt lk_X10_192 (by decide) rfl rfl rfl (Nat.le_of_ble_eq_true rfl) (ok_X1_scoreAt G h) ?_
    intro r_4 σ_3 h
    refine zv_goto (tgt := 23) hC dX10_score_19 (by decide) ?_
    exact zv_go (k_X10_score_23 hC hR  h) trivial
theorem ok_X10_score (G : zv_G) {Q : Int64 → zv_St → Prop} {x1 : Int32} {σ : zv_St} (h : B_X10_score Q x1 σ) : zv_OK G M_X10_score yX10_score [.ref (G.2.2.1 0), .int x1] σ (zv_ql Q) := zv_ok G _ _ _ _ _ (by decide +kernel) rfl (Nat.le_of_ble_eq_true rfl) (fun X hC hR => zv_go (k_X10_score_0 hC hR h) ⟨rfl, rfl, trivial⟩)
-- X8_clear_14
def L_X8_clear_14_2 (Q : zv_St → Prop) : Nat → (Int32 → Int32 → zv_St → Prop)
  | 0 => fun _ _ _ => False
  | u + 1 => fun x1 x2 σ => 
    (8 ≤ x2 → (Q σ)) ∧ (¬ 8 ≤ x2 → (vp_in ((x1 * 8) + x2) 640 ∧ ∀ σ_1 : zv_St, σ_1 = zv_wl σ 15 ((x1 * 8) + x2).toNatClampNeg 0 → (L_X8_clear_14_2 Q u) x1 (x2 + 1) σ_1))
set_option maxRecDepth 20000 in
set_option maxHeartbeats 2000000 in
theorem kL_X8_clear_14_2 {G : zv_G} {X : zv_X} {Q : zv_St → Prop}  (hC : zv_C G X M_X8_clear_14) (hR : zv_R G X M_X8_clear_14 (zv_qv Q))  : ∀ (n : Nat) (x1 : Int32) (x2 : Int32) (σ : zv_St), L_X8_clear_14_2 Q  n x1 x2 σ → zv_V G X M_X8_clear_14 2 [(0, .ref (G.2.2.1 14)), (1, .int x1), (2, .int x2)] [] σ := by
  intro n
  induction n with
  | zero => intro x1 x2 σ h; exact h.elim
  | succ n hk2 =>
    intro x1 x2 σ h
    unfold L_X8_clear_14_2 at h
    refine zv_iload_n hC dX8_clear_2 rfl ?_
    refine zv_bipush (v := 8) hC dX8_clear_3 (by decide) ?_
    refine zv_icmp_ge (tgt := 26) hC dX8_clear_5 (by decide) (fun c => ?_) (fun c => ?_)
    · replace h := h.1 c
      exact (hR _ _ _).2.2.2.1 rfl dX8_clear_26 ⟨rfl, h⟩
    · replace h := h.2 c
      refine zv_aload_n hC dX8_clear_8 rfl ?_
      refine zv_getR (j := 15) hC fl_X8_9 dX8_clear_9 rfl rfl ?_
      refine zv_iload_n hC dX8_clear_12 rfl ?_
      refine zv_bipush (v := 8) hC dX8_clear_13 (by decide) ?_
      refine zv_imul hC dX8_clear_15 ?_
      refine zv_iload_n hC dX8_clear_16 rfl ?_
      refine zv_iadd hC dX8_clear_17 ?_
      refine zv_lconst (v := 0) hC dX8_clear_18 (by decide) ?_
      refine zv_last hC dX8_clear_19 rfl h.1 ?_
      replace h := h.2 _ rfl
      refine zv_iinc (v := 1) hC dX8_clear_20 rfl (by decide) (by decide) ?_
      refine zv_goto (tgt := 2) hC dX8_clear_23 (by decide) ?_
      exact zv_go (hk2 _ _ _ h) ⟨rfl, rfl, rfl, trivial⟩
def B_X8_clear_14 (Q : zv_St → Prop) (x1 : Int32) (σ : zv_St) : Prop :=
  ∃ n2, L_X8_clear_14_2 Q n2 x1 0 σ
set_option maxRecDepth 20000 in
set_option maxHeartbeats 2000000 in
theorem k_X8_clear_14_0 {G : zv_G} {X : zv_X} {Q : zv_St → Prop}  (hC : zv_C G X M_X8_clear_14) (hR : zv_R G X M_X8_clear_14 (zv_qv Q))  {x1 : Int32} {σ : zv_St} (h : B_X8_clear_14 Q  x1 σ) : zv_V G X M_X8_clear_14 0 [(0, .ref (G.2.2.1 14)), (1, .int x1)] [] σ := by
  unfold B_X8_clear_14 at h
  refine zv_iconst (v := 0) hC dX8_clear_0 (by decide) ?_
  refine zv_istore_n hC dX8_clear_1 (by decide) ?_
  obtain ⟨n, h⟩ := h
  exact zv_go (kL_X8_clear_14_2 hC hR  n _ _ _ h) ⟨rfl, rfl, rfl, trivial⟩
theorem ok_X8_clear_14 (G : zv_G) {Q : zv_St → Prop} {x1 : Int32} {σ : zv_St} (h : B_X8_clear_14 Q x1 σ) : zv_OK G M_X8_clear_14 yX8_clear [.ref (G.2.2.1 14), .int x1] σ (zv_qv Q) := zv_ok G _ _ _ _ _ (by decide +kernel) rfl (Nat.le_of_ble_eq_true rfl) (fun X hC hR => zv_go (k_X8_clear_14_0 hC hR h) ⟨rfl, rfl, trivial⟩)
-- X9_begin
def B_X9_begin (Q : zv_St → Prop) (x1 : Int32) (σ : zv_St) : Prop :=
  vp_in x1 80 ∧ ∀ σ_1 : zv_St, σ_1 = zv_wi σ 16 x1.toNatClampNeg (vp_nar .boolean 1) → vp_in x1 80 ∧ ∀ σ_2 : zv_St, σ_2 = zv_wi σ_1 17 x1.toNatClampNeg 0 → B_X8_clear_14 (fun σ_3 => Q σ_3) x1 σ_2
set_option maxRecDepth 20000 in
set_option maxHeartbeats 2000000 in
theorem k_X9_begin_0 {G : zv_G} {X : zv_X} {Q : zv_St → Prop}  (hC : zv_C G X M_X9_begin) (hR : zv_R G X M_X9_begin (zv_qv Q))  {x1 : Int32} {σ : zv_St} (h : B_X9_begin Q  x1 σ) : zv_V G X M_X9_begin 0 [(0, .ref (G.2.2.1 13)), (1, .int x1)] [] σ := by
  unfold B_X9_begin at h
  refine zv_aload_n hC dX9_begin_0 rfl ?_
  refine zv_getR (j := 16) hC fl_X9_18 dX9_begin_1 rfl rfl ?_
  refine zv_iload_n hC dX9_begin_4 rfl ?_
  refine zv_iconst (v := 1) hC dX9_begin_5 (by decide) ?_
  refine zv_zast hC dX9_begin_6 rfl h.1 ?_
  replace h := h.2 _ rfl
  refine zv_aload_n hC dX9_begin_7 rfl ?_
  refine zv_getR (j := 17) hC fl_X9_22 dX9_begin_8 rfl rfl ?_
  refine zv_iload_n hC dX9_begin_11 rfl ?_
  refine zv_iconst (v := 0) hC dX9_begin_12 (by decide) ?_
  refine zv_iast hC dX9_begin_13 rfl h.1 ?_
  replace h := h.2 _ rfl
  refine zv_aload_n hC dX9_begin_14 rfl ?_
  refine zv_getR (j := 14) hC fl_X9_12 dX9_begin_15 rfl rfl ?_
  refine zv_iload_n hC dX9_begin_18 rfl ?_
  refine zv_callVv (As := [_]) hC dX9_begin_19 Y_X8_clear lk_X9_33 (by decide) rfl rfl rfl (Nat.le_of_ble_eq_true rfl) (ok_X8_clear_14 G h) ?_
  intro σ_3 h
  exact (hR _ _ _).2.2.2.1 rfl dX9_begin_22 ⟨rfl, h⟩
theorem ok_X9_begin (G : zv_G) {Q : zv_St → Prop} {x1 : Int32} {σ : zv_St} (h : B_X9_begin Q x1 σ) : zv_OK G M_X9_begin yX9_begin [.ref (G.2.2.1 13), .int x1] σ (zv_qv Q) := zv_ok G _ _ _ _ _ (by decide +kernel) rfl (Nat.le_of_ble_eq_true rfl) (fun X hC hR => zv_go (k_X9_begin_0 hC hR h) ⟨rfl, rfl, trivial⟩)
-- X8_add_14
def B_X8_add_14 (Q : zv_St → Prop) (x1 : Int32) (x2 : Int32) (σ : zv_St) : Prop :=
  vp_in ((x1 * 8) + (x2 >>> ((6 : Int32) &&& 31))) 640 ∧ vp_in ((x1 * 8) + (x2 >>> ((6 : Int32) &&& 31))) 640 ∧ ∀ σ_1 : zv_St, σ_1 = zv_wl σ 15 ((x1 * 8) + (x2 >>> ((6 : Int32) &&& 31))).toNatClampNeg ((σ.2 15 ((x1 * 8) + (x2 >>> ((6 : Int32) &&& 31))).toNatClampNeg) ||| ((1 : Int64) <<< (Int32.toInt64 (x2 &&& 63) &&& 63))) → Q σ_1
set_option maxRecDepth 20000 in
set_option maxHeartbeats 2000000 in
theorem k_X8_add_14_0 {G : zv_G} {X : zv_X} {Q : zv_St → Prop}  (hC : zv_C G X M_X8_add_14) (hR : zv_R G X M_X8_add_14 (zv_qv Q))  {x1 : Int32} {x2 : Int32} {σ : zv_St} (h : B_X8_add_14 Q  x1 x2 σ) : zv_V G X M_X8_add_14 0 [(0, .ref (G.2.2.1 14)), (1, .int x1), (2, .int x2)] [] σ := by
  unfold B_X8_add_14 at h
  refine zv_aload_n hC dX8_add_0 rfl ?_
  refine zv_getR (j := 15) hC fl_X8_9 dX8_add_1 rfl rfl ?_
  refine zv_iload_n hC dX8_add_4 rfl ?_
  refine zv_bipush (v := 8) hC dX8_add_5 (by decide) ?_
  refine zv_imul hC dX8_add_7 ?_
  refine zv_iload_n hC dX8_add_8 rfl ?_
  refine zv_bipush (v := 6) hC dX8_add_9 (by decide) ?_
  refine zv_ishr hC dX8_add_11 ?_
  refine zv_iadd hC dX8_add_12 ?_
  refine zv_dup2 hC dX8_add_13 rfl rfl ?_
  refine zv_lald hC dX8_add_14 rfl h.1 ?_
  replace h := h.2
  refine zv_lconst (v := 1) hC dX8_add_15 (by decide) ?_
  refine zv_iload_n hC dX8_add_16 rfl ?_
  refine zv_bipush (v := 63) hC dX8_add_17 (by decide) ?_
  refine zv_iand hC dX8_add_19 ?_
  refine zv_lshl hC dX8_add_20 ?_
  refine zv_lor hC dX8_add_21 ?_
  refine zv_last hC dX8_add_22 rfl h.1 ?_
  replace h := h.2 _ rfl
  exact (hR _ _ _).2.2.2.1 rfl dX8_add_23 ⟨rfl, h⟩
theorem ok_X8_add_14 (G : zv_G) {Q : zv_St → Prop} {x1 : Int32} {x2 : Int32} {σ : zv_St} (h : B_X8_add_14 Q x1 x2 σ) : zv_OK G M_X8_add_14 yX8_add [.ref (G.2.2.1 14), .int x1, .int x2] σ (zv_qv Q) := zv_ok G _ _ _ _ _ (by decide +kernel) rfl (Nat.le_of_ble_eq_true rfl) (fun X hC hR => zv_go (k_X8_add_14_0 hC hR h) ⟨rfl, rfl, rfl, trivial⟩)
-- X9_add
def B_X9_add (Q : zv_St → Prop) (x1 : Int32) (x2 : Int32) (σ : zv_St) : Prop :=
  B_X8_add_14 (fun σ_1 => vp_in x1 80 ∧ vp_in x1 80 ∧ ∀ σ_2 : zv_St, σ_2 = zv_wi σ_1 17 x1.toNatClampNeg ((σ_1.1 17 x1.toNatClampNeg) + 1) → Q σ_2) x1 x2 σ
set_option maxRecDepth 20000 in
set_option maxHeartbeats 2000000 in
theorem k_X9_add_0 {G : zv_G} {X : zv_X} {Q : zv_St → Prop}  (hC : zv_C G X M_X9_add) (hR : zv_R G X M_X9_add (zv_qv Q))  {x1 : Int32} {x2 : Int32} {σ : zv_St} (h : B_X9_add Q  x1 x2 σ) : zv_V G X M_X9_add 0 [(0, .ref (G.2.2.1 13)), (1, .int x1), (2, .int x2)] [] σ := by
  unfold B_X9_add at h
  refine zv_aload_n hC dX9_add_0 rfl ?_
  refine zv_getR (j := 14) hC fl_X9_12 dX9_add_1 rfl rfl ?_
  refine zv_iload_n hC dX9_add_4 rfl ?_
  refine zv_iload_n hC dX9_add_5 rfl ?_
  refine zv_callVv (As := [_, _]) hC dX9_add_6 Y_X8_add lk_X9_37 (by decide) rfl rfl rfl (Nat.le_of_ble_eq_true rfl) (ok_X8_add_14 G h) ?_
  intro σ_1 h
  refine zv_aload_n hC dX9_add_9 rfl ?_
  refine zv_getR (j := 17) hC fl_X9_22 dX9_add_10 rfl rfl ?_
  refine zv_iload_n hC dX9_add_13 rfl ?_
  refine zv_dup2 hC dX9_add_14 rfl rfl ?_
  refine zv_iald hC dX9_add_15 rfl h.1 ?_
  replace h := h.2
  refine zv_iconst (v := 1) hC dX9_add_16 (by decide) ?_
  refine zv_iadd hC dX9_add_17 ?_
  refine zv_iast hC dX9_add_18 rfl h.1 ?_
  replace h := h.2 _ rfl
  exact (hR _ _ _).2.2.2.1 rfl dX9_add_19 ⟨rfl, h⟩
theorem ok_X9_add (G : zv_G) {Q : zv_St → Prop} {x1 : Int32} {x2 : Int32} {σ : zv_St} (h : B_X9_add Q x1 x2 σ) : zv_OK G M_X9_add yX9_add [.ref (G.2.2.1 13), .int x1, .int x2] σ (zv_qv Q) := zv_ok G _ _ _ _ _ (by decide +kernel) rfl (Nat.le_of_ble_eq_true rfl) (fun X hC hR => zv_go (k_X9_add_0 hC hR h) ⟨rfl, rfl, rfl, trivial⟩)
-- X10_keep
def B_X10_keep_24 (Q : Int32 → zv_St → Prop) (σ : zv_St) : Prop :=
  Q (-2) σ
set_option maxRecDepth 20000 in
set_option maxHeartbeats 2000000 in
theorem k_X10_keep_24 {G : zv_G} {X : zv_X} {Q : Int32 → zv_St → Prop}  (hC : zv_C G X M_X10_keep) (hR : zv_R G X M_X10_keep (zv_qi Q))   {σ : zv_St} (h : B_X10_keep_24 Q   σ) : zv_V G X M_X10_keep 24 [] [] σ := by
  unfold B_X10_keep_24 at h
  refine zv_bipush (v := (-2)) hC dX10_keep_24 (by decide) ?_
  exact (hR _ _ _).1 _ rfl dX10_keep_26 ⟨_, rfl, h⟩
def B_X10_keep_97 (Q : Int32 → zv_St → Prop) (kk69 : Int32 → Int32 → Int32 → zv_St → Prop) (x1 : Int32) (x2 : Int32) (x3 : Int32) (σ : zv_St) : Prop :=
  kk69 x1 x2 (x3 + 1) σ
set_option maxRecDepth 20000 in
set_option maxHeartbeats 2000000 in
theorem k_X10_keep_97 {G : zv_G} {X : zv_X} {Q : Int32 → zv_St → Prop} {kk69 : Int32 → Int32 → Int32 → zv_St → Prop} (hC : zv_C G X M_X10_keep) (hR : zv_R G X M_X10_keep (zv_qi Q)) (hk69 : ∀ (x1 : Int32) (x2 : Int32) (x3 : Int32) (σ : zv_St), kk69 x1 x2 x3 σ → zv_V G X M_X10_keep 69 [(0, .ref (G.2.2.1 0)), (1, .int x1), (2, .int x2), (3, .int x3)] [] σ) {x1 : Int32} {x2 : Int32} {x3 : Int32} {σ : zv_St} (h : B_X10_keep_97 Q kk69 x1 x2 x3 σ) : zv_V G X M_X10_keep 97 [(0, .ref (G.2.2.1 0)), (1, .int x1), (2, .int x2), (3, .int x3)] [] σ := by
  unfold B_X10_keep_97 at h
  refine zv_iinc (v := 1) hC dX10_keep_97 rfl (by decide) (by decide) ?_
  refine zv_goto (tgt := 69) hC dX10_keep_100 (by decide) ?_
  exact zv_go (hk69 _ _ _ _ h) ⟨rfl, rfl, rfl, rfl, trivial⟩
def L_X10_keep_69 (Q : Int32 → zv_St → Prop) : Nat → (Int32 → Int32 → Int32 → zv_St → Prop)
  | 0 => fun _ _ _ _ => False
  | u + 1 => fun x1 x2 x3 σ => 
    (512 ≤ x3 → (B_X0_forgetFrom (fun σ_1 => B_X9_size (fun r_3 σ_2 => Q r_3 σ_2) x1 σ_1) x1 σ)) ∧ (¬ 512 ≤ x3 → (B_X4_matches (fun r_5 σ_4 => (r_5 = 0 → (B_X10_keep_97 Q (L_X10_keep_69 Q u) x1 x2 x3 σ_4)) ∧ (¬ r_5 = 0 → (B_X9_add (fun σ_6 => B_X10_keep_97 Q (L_X10_keep_69 Q u) x1 x2 x3 σ_6) x1 x3 σ_4))) x2 x3 σ))
set_option maxRecDepth 20000 in
set_option maxHeartbeats 2000000 in
theorem kL_X10_keep_69 {G : zv_G} {X : zv_X} {Q : Int32 → zv_St → Prop}  (hC : zv_C G X M_X10_keep) (hR : zv_R G X M_X10_keep (zv_qi Q))  : ∀ (n : Nat) (x1 : Int32) (x2 : Int32) (x3 : Int32) (σ : zv_St), L_X10_keep_69 Q  n x1 x2 x3 σ → zv_V G X M_X10_keep 69 [(0, .ref (G.2.2.1 0)), (1, .int x1), (2, .int x2), (3, .int x3)] [] σ := by
  intro n
  induction n with
  | zero => intro x1 x2 x3 σ h; exact h.elim
  | succ n hk69 =>
    intro x1 x2 x3 σ h
    unfold L_X10_keep_69 at h
    refine zv_iload_n hC dX10_keep_69 rfl ?_
    refine zv_sipush (v := 512) hC dX10_keep_70 (by decide) ?_
    refine zv_icmp_ge (tgt := 103) hC dX10_keep_73 (by decide) (fun c => ?_) (fun c => ?_)
    · replace h := h.1 c
      refine zv_aload_n hC dX10_keep_103 rfl ?_
      refine zv_getR (j := 19) hC fl_X10_37 dX10_keep_104 rfl rfl ?_
      refine zv_iload_n hC dX10_keep_107 rfl ?_
      refine zv_callVv (As := [_]) hC dX10_keep_108 Y_X0_forgetFrom lk_X10_133 (by decide) rfl rfl rfl (Nat.le_of_ble_eq_true rfl) (ok_X0_forgetFrom G h) ?_
      intro σ_1 h
      refine zv_aload_n hC dX10_keep_111 rfl ?_
      refine zv_getR (j := 13) hC fl_X10_28 dX10_keep_112 rfl rfl ?_
      refine zv_iload_n hC dX10_keep_115 rfl ?_
      refine zv_callVi (As := [_]) hC dX10_keep_116 Y_X9_size lk_X10_155 (by decide) rfl rfl rfl (Nat.le_of_ble_eq_true rfl) (ok_X9_size G h) ?_
      intro r_3 σ_2 h
      exact (hR _ _ _).1 _ rfl dX10_keep_119 ⟨_, rfl, h⟩
    · replace h := h.2 c
      refine zv_aload_n hC dX10_keep_76 rfl ?_
      refine zv_getR (j := 27) hC fl_X10_46 dX10_keep_77 rfl rfl ?_
      refine zv_iload_n hC dX10_keep_80 rfl ?_
      refine zv_iload_n hC dX10_keep_81 rfl ?_
      refine zv_callVi (As := [_, _]) hC dX10_keep_82 Y_X4_matches lk_X10_168 (by decide) rfl rfl rfl (Nat.le_of_ble_eq_true rfl) (ok_X4_matches G h) ?_
      intro r_5 σ_4 h
      refine zv_if_eq (tgt := 97) hC dX10_keep_85 (by decide) (fun c => ?_) (fun c => ?_)
      · replace h := h.1 c
        exact zv_go (k_X10_keep_97 hC hR hk69 h) ⟨rfl, rfl, rfl, rfl, trivial⟩
      · replace h := h.2 c
        refine zv_aload_n hC dX10_keep_88 rfl ?_
        refine zv_getR (j := 13) hC fl_X10_28 dX10_keep_89 rfl rfl ?_
        refine zv_iload_n hC dX10_keep_92 rfl ?_
        refine zv_iload_n hC dX10_keep_93 rfl ?_
        refine zv_callVv (As := [_, _]) hC dX10_keep_94 Y_X9_add lk_X10_198 (by decide) rfl rfl rfl (Nat.le_of_ble_eq_true rfl) (ok_X9_add G h) ?_
        intro σ_6 h
        exact zv_go (k_X10_keep_97 hC hR hk69 h) ⟨rfl, rfl, rfl, rfl, trivial⟩
def B_X10_keep (Q : Int32 → zv_St → Prop) (x1 : Int32) (σ : zv_St) : Prop :=
  B_X5_has (fun r_2 σ_1 => (r_2 = 0 → (B_X10_keep_24 Q σ_1)) ∧ (¬ r_2 = 0 → (B_X5_kind (fun r_4 σ_3 => (r_4 = 6 → (B_X9_isThere (fun r_6 σ_5 => (r_6 = 0 → (B_X5_partAt (fun r_8 σ_7 => B_X0_prepare (fun σ_9 => B_X9_begin (fun σ_10 => ∃ n69, L_X10_keep_69 Q n69 x1 r_8 0 σ_10) x1 σ_9) r_8 σ_7) x1 0 σ_5)) ∧ (¬ r_6 = 0 → (Q (-4) σ_5))) x1 σ_3)) ∧ (¬ r_4 = 6 → (B_X10_keep_24 Q σ_3))) x1 σ_1))) x1 σ
set_option maxRecDepth 20000 in
set_option maxHeartbeats 2000000 in
theorem k_X10_keep_0 {G : zv_G} {X : zv_X} {Q : Int32 → zv_St → Prop}  (hC : zv_C G X M_X10_keep) (hR : zv_R G X M_X10_keep (zv_qi Q))  {x1 : Int32} {σ : zv_St} (h : B_X10_keep Q  x1 σ) : zv_V G X M_X10_keep 0 [(0, .ref (G.2.2.1 0)), (1, .int x1)] [] σ := by
  unfold B_X10_keep at h
  refine zv_aload_n hC dX10_keep_0 rfl ?_
  refine zv_getR (j := 5) hC fl_X10_19 dX10_keep_1 rfl rfl ?_
  refine zv_iload_n hC dX10_keep_4 rfl ?_
  refine zv_callVi (As := [_]) hC dX10_keep_5 Y_X5_has lk_X10_118 (by decide) rfl rfl rfl (Nat.le_of_ble_eq_true rfl) (ok_X5_has G h) ?_
  intro r_2 σ_1 h
  refine zv_if_eq (tgt := 24) hC dX10_keep_8 (by decide) (fun c => ?_) (fun c => ?_)
  · replace h := h.1 c
    exact zv_go (k_X10_keep_24 hC hR  h) trivial
  · replace h := h.2 c
    refine zv_aload_n hC dX10_keep_11 rfl ?_
    refine zv_getR (j := 5) hC fl_X10_19 dX10_keep_12 rfl rfl ?_
    refine zv_iload_n hC dX10_keep_15 rfl ?_
    refine zv_callVi (As := [_]) hC dX10_keep_16 Y_X5_kind lk_X10_121 (by decide) rfl rfl rfl (Nat.le_of_ble_eq_true rfl) (ok_X5_kind G h) ?_
    intro r_4 σ_3 h
    refine zv_bipush (v := 6) hC dX10_keep_19 (by decide) ?_
    refine zv_icmp_eq (tgt := 27) hC dX10_keep_21 (by decide) (fun c => ?_) (fun c => ?_)
    · replace h := h.1 c
      refine zv_aload_n hC dX10_keep_27 rfl ?_
      refine zv_getR (j := 13) hC fl_X10_28 dX10_keep_28 rfl rfl ?_
      refine zv_iload_n hC dX10_keep_31 rfl ?_
      refine zv_callVi (As := [_]) hC dX10_keep_32 Y_X9_isThere lk_X10_152 (by decide) rfl rfl rfl (Nat.le_of_ble_eq_true rfl) (ok_X9_isThere G h) ?_
      intro r_6 σ_5 h
      refine zv_if_eq (tgt := 41) hC dX10_keep_35 (by decide) (fun c => ?_) (fun c => ?_)
      · replace h := h.1 c
        refine zv_aload_n hC dX10_keep_41 rfl ?_
        refine zv_getR (j := 5) hC fl_X10_19 dX10_keep_42 rfl rfl ?_
        refine zv_iload_n hC dX10_keep_45 rfl ?_
        refine zv_iconst (v := 0) hC dX10_keep_46 (by decide) ?_
        refine zv_callVi (As := [_, _]) hC dX10_keep_47 Y_X5_partAt lk_X10_159 (by decide) rfl rfl rfl (Nat.le_of_ble_eq_true rfl) (ok_X5_partAt G h) ?_
        intro r_8 σ_7 h
        refine zv_istore_n hC dX10_keep_50 (by decide) ?_
        refine zv_aload_n hC dX10_keep_51 rfl ?_
        refine zv_getR (j := 19) hC fl_X10_37 dX10_keep_52 rfl rfl ?_
        refine zv_iload_n hC dX10_keep_55 rfl ?_
        refine zv_callVv (As := [_]) hC dX10_keep_56 Y_X0_prepare lk_X10_143 (by decide) rfl rfl rfl (Nat.le_of_ble_eq_true rfl) (ok_X0_prepare G h) ?_
        intro σ_9 h
        refine zv_aload_n hC dX10_keep_59 rfl ?_
        refine zv_getR (j := 13) hC fl_X10_28 dX10_keep_60 rfl rfl ?_
        refine zv_iload_n hC dX10_keep_63 rfl ?_
        refine zv_callVv (As := [_]) hC dX10_keep_64 Y_X9_begin lk_X10_195 (by decide) rfl rfl rfl (Nat.le_of_ble_eq_true rfl) (ok_X9_begin G h) ?_
        intro σ_10 h
        refine zv_iconst (v := 0) hC dX10_keep_67 (by decide) ?_
        refine zv_istore_n hC dX10_keep_68 (by decide) ?_
        obtain ⟨n, h⟩ := h
        exact zv_go (kL_X10_keep_69 hC hR  n _ _ _ _ h) ⟨rfl, rfl, rfl, rfl, trivial⟩
      · replace h := h.2 c
        refine zv_bipush (v := (-4)) hC dX10_keep_38 (by decide) ?_
        exact (hR _ _ _).1 _ rfl dX10_keep_40 ⟨_, rfl, h⟩
    · replace h := h.2 c
      exact zv_go (k_X10_keep_24 hC hR  h) trivial
theorem ok_X10_keep (G : zv_G) {Q : Int32 → zv_St → Prop} {x1 : Int32} {σ : zv_St} (h : B_X10_keep Q x1 σ) : zv_OK G M_X10_keep yX10_keep [.ref (G.2.2.1 0), .int x1] σ (zv_qi Q) := zv_ok G _ _ _ _ _ (by decide +kernel) rfl (Nat.le_of_ble_eq_true rfl) (fun X hC hR => zv_go (k_X10_keep_0 hC hR h) ⟨rfl, rfl, trivial⟩)
-- X2_start
def L_X2_start_2 (Q : Int32 → zv_St → Prop) : Nat → (Int32 → Int32 → zv_St → Prop)
  | 0 => fun _ _ _ => False
  | u + 1 => fun x1 x2 σ => 
    (8 ≤ x2 → (Q (-3) σ)) ∧ (¬ 8 ≤ x2 → (vp_in x2 8 ∧ (¬ (σ.1 35 x2.toNatClampNeg) = 0 → ((L_X2_start_2 Q u) x1 (x2 + 1) σ)) ∧ ((σ.1 35 x2.toNatClampNeg) = 0 → (vp_in x2 8 ∧ ∀ σ_1 : zv_St, σ_1 = zv_wi σ 35 x2.toNatClampNeg (vp_nar .boolean 1) → vp_in x2 8 ∧ ∀ σ_2 : zv_St, σ_2 = zv_wi σ_1 36 x2.toNatClampNeg x1 → vp_in x2 8 ∧ ∀ σ_3 : zv_St, σ_3 = zv_wi σ_2 37 x2.toNatClampNeg (-1) → vp_in x2 8 ∧ ∀ σ_4 : zv_St, σ_4 = zv_wi σ_3 38 x2.toNatClampNeg 0 → Q x2 σ_4))))
set_option maxRecDepth 20000 in
set_option maxHeartbeats 2000000 in
theorem kL_X2_start_2 {G : zv_G} {X : zv_X} {Q : Int32 → zv_St → Prop}  (hC : zv_C G X M_X2_start) (hR : zv_R G X M_X2_start (zv_qi Q))  : ∀ (n : Nat) (x1 : Int32) (x2 : Int32) (σ : zv_St), L_X2_start_2 Q  n x1 x2 σ → zv_V G X M_X2_start 2 [(0, .ref (G.2.2.1 34)), (1, .int x1), (2, .int x2)] [] σ := by
  intro n
  induction n with
  | zero => intro x1 x2 σ h; exact h.elim
  | succ n hk2 =>
    intro x1 x2 σ h
    unfold L_X2_start_2 at h
    refine zv_iload_n hC dX2_start_2 rfl ?_
    refine zv_bipush (v := 8) hC dX2_start_3 (by decide) ?_
    refine zv_icmp_ge (tgt := 53) hC dX2_start_5 (by decide) (fun c => ?_) (fun c => ?_)
    · replace h := h.1 c
      refine zv_bipush (v := (-3)) hC dX2_start_53 (by decide) ?_
      exact (hR _ _ _).1 _ rfl dX2_start_55 ⟨_, rfl, h⟩
    · replace h := h.2 c
      refine zv_aload_n hC dX2_start_8 rfl ?_
      refine zv_getR (j := 35) hC fl_X2_9 dX2_start_9 rfl rfl ?_
      refine zv_iload_n hC dX2_start_12 rfl ?_
      refine zv_zald hC dX2_start_13 rfl h.1 ?_
      replace h := h.2
      refine zv_if_ne (tgt := 47) hC dX2_start_14 (by decide) (fun c => ?_) (fun c => ?_)
      · replace h := h.1 c
        refine zv_iinc (v := 1) hC dX2_start_47 rfl (by decide) (by decide) ?_
        refine zv_goto (tgt := 2) hC dX2_start_50 (by decide) ?_
        exact zv_go (hk2 _ _ _ h) ⟨rfl, rfl, rfl, trivial⟩
      · replace h := h.2 c
        refine zv_aload_n hC dX2_start_17 rfl ?_
        refine zv_getR (j := 35) hC fl_X2_9 dX2_start_18 rfl rfl ?_
        refine zv_iload_n hC dX2_start_21 rfl ?_
        refine zv_iconst (v := 1) hC dX2_start_22 (by decide) ?_
        refine zv_zast hC dX2_start_23 rfl h.1 ?_
        replace h := h.2 _ rfl
        refine zv_aload_n hC dX2_start_24 rfl ?_
        refine zv_getR (j := 36) hC fl_X2_15 dX2_start_25 rfl rfl ?_
        refine zv_iload_n hC dX2_start_28 rfl ?_
        refine zv_iload_n hC dX2_start_29 rfl ?_
        refine zv_iast hC dX2_start_30 rfl h.1 ?_
        replace h := h.2 _ rfl
        refine zv_aload_n hC dX2_start_31 rfl ?_
        refine zv_getR (j := 37) hC fl_X2_19 dX2_start_32 rfl rfl ?_
        refine zv_iload_n hC dX2_start_35 rfl ?_
        refine zv_iconst (v := (-1)) hC dX2_start_36 (by decide) ?_
        refine zv_iast hC dX2_start_37 rfl h.1 ?_
        replace h := h.2 _ rfl
        refine zv_aload_n hC dX2_start_38 rfl ?_
        refine zv_getR (j := 38) hC fl_X2_22 dX2_start_39 rfl rfl ?_
        refine zv_iload_n hC dX2_start_42 rfl ?_
        refine zv_iconst (v := 0) hC dX2_start_43 (by decide) ?_
        refine zv_iast hC dX2_start_44 rfl h.1 ?_
        replace h := h.2 _ rfl
        refine zv_iload_n hC dX2_start_45 rfl ?_
        exact (hR _ _ _).1 _ rfl dX2_start_46 ⟨_, rfl, h⟩
def B_X2_start (Q : Int32 → zv_St → Prop) (x1 : Int32) (σ : zv_St) : Prop :=
  ∃ n2, L_X2_start_2 Q n2 x1 0 σ
set_option maxRecDepth 20000 in
set_option maxHeartbeats 2000000 in
theorem k_X2_start_0 {G : zv_G} {X : zv_X} {Q : Int32 → zv_St → Prop}  (hC : zv_C G X M_X2_start) (hR : zv_R G X M_X2_start (zv_qi Q))  {x1 : Int32} {σ : zv_St} (h : B_X2_start Q  x1 σ) : zv_V G X M_X2_start 0 [(0, .ref (G.2.2.1 34)), (1, .int x1)] [] σ := by
  unfold B_X2_start at h
  refine zv_iconst (v := 0) hC dX2_start_0 (by decide) ?_
  refine zv_istore_n hC dX2_start_1 (by decide) ?_
  obtain ⟨n, h⟩ := h
  exact zv_go (kL_X2_start_2 hC hR  n _ _ _ h) ⟨rfl, rfl, rfl, trivial⟩
theorem ok_X2_start (G : zv_G) {Q : Int32 → zv_St → Prop} {x1 : Int32} {σ : zv_St} (h : B_X2_start Q x1 σ) : zv_OK G M_X2_start yX2_start [.ref (G.2.2.1 34), .int x1] σ (zv_qi Q) := zv_ok G _ _ _ _ _ (by decide +kernel) rfl (Nat.le_of_ble_eq_true rfl) (fun X hC hR => zv_go (k_X2_start_0 hC hR h) ⟨rfl, rfl, trivial⟩)
-- X10_open
def B_X10_open (Q : Int32 → zv_St → Prop) (x1 : Int32) (σ : zv_St) : Prop :=
  B_X5_has (fun r_2 σ_1 => (¬ r_2 = 0 → (B_X2_start (fun r_4 σ_3 => Q r_4 σ_3) x1 σ_1)) ∧ (r_2 = 0 → (Q (-2) σ_1))) x1 σ
set_option maxRecDepth 20000 in
set_option maxHeartbeats 2000000 in
theorem k_X10_open_0 {G : zv_G} {X : zv_X} {Q : Int32 → zv_St → Prop}  (hC : zv_C G X M_X10_open) (hR : zv_R G X M_X10_open (zv_qi Q))  {x1 : Int32} {σ : zv_St} (h : B_X10_open Q  x1 σ) : zv_V G X M_X10_open 0 [(0, .ref (G.2.2.1 0)), (1, .int x1)] [] σ := by
  unfold B_X10_open at h
  refine zv_aload_n hC dX10_open_0 rfl ?_
  refine zv_getR (j := 5) hC fl_X10_19 dX10_open_1 rfl rfl ?_
  refine zv_iload_n hC dX10_open_4 rfl ?_
  refine zv_callVi (As := [_]) hC dX10_open_5 Y_X5_has lk_X10_118 (by decide) rfl rfl rfl (Nat.le_of_ble_eq_true rfl) (ok_X5_has G h) ?_
  intro r_2 σ_1 h
  refine zv_if_ne (tgt := 14) hC dX10_open_8 (by decide) (fun c => ?_) (fun c => ?_)
  · replace h := h.1 c
    refine zv_aload_n hC dX10_open_14 rfl ?_
    refine zv_getR (j := 34) hC fl_X10_60 dX10_open_15 rfl rfl ?_
    refine zv_iload_n hC dX10_open_18 rfl ?_
    refine zv_callVi (As := [_]) hC dX10_open_19 Y_X2_start lk_X10_200 (by decide) rfl rfl rfl (Nat.le_of_ble_eq_true rfl) (ok_X2_start G h) ?_
    intro r_4 σ_3 h
    exact (hR _ _ _).1 _ rfl dX10_open_22 ⟨_, rfl, h⟩
  · replace h := h.2 c
    refine zv_bipush (v := (-2)) hC dX10_open_11 (by decide) ?_
    exact (hR _ _ _).1 _ rfl dX10_open_13 ⟨_, rfl, h⟩
theorem ok_X10_open (G : zv_G) {Q : Int32 → zv_St → Prop} {x1 : Int32} {σ : zv_St} (h : B_X10_open Q x1 σ) : zv_OK G M_X10_open yX10_open [.ref (G.2.2.1 0), .int x1] σ (zv_qi Q) := zv_ok G _ _ _ _ _ (by decide +kernel) rfl (Nat.le_of_ble_eq_true rfl) (fun X hC hR => zv_go (k_X10_open_0 hC hR h) ⟨rfl, rfl, trivial⟩)
-- X2_isOpen
def B_X2_isOpen_23 (Q : Int32 → zv_St → Prop) (y0 : Int32) (σ : zv_St) : Prop :=
  narrow .boolean (.int y0) = .int y0 ∧ Q y0 σ
set_option maxRecDepth 20000 in
set_option maxHeartbeats 2000000 in
theorem k_X2_isOpen_23 {G : zv_G} {X : zv_X} {Q : Int32 → zv_St → Prop}  (hC : zv_C G X M_X2_isOpen) (hR : zv_R G X M_X2_isOpen (zv_qi Q))  {y0 : Int32} {σ : zv_St} (h : B_X2_isOpen_23 Q  y0 σ) : zv_V G X M_X2_isOpen 23 [] [.int y0] σ := by
  unfold B_X2_isOpen_23 at h
  exact (hR _ _ _).2.1 _ rfl h.1 dX2_isOpen_23 ⟨_, rfl, h.2⟩
def B_X2_isOpen_22 (Q : Int32 → zv_St → Prop) (σ : zv_St) : Prop :=
  B_X2_isOpen_23 Q 0 σ
set_option maxRecDepth 20000 in
set_option maxHeartbeats 2000000 in
theorem k_X2_isOpen_22 {G : zv_G} {X : zv_X} {Q : Int32 → zv_St → Prop}  (hC : zv_C G X M_X2_isOpen) (hR : zv_R G X M_X2_isOpen (zv_qi Q))   {σ : zv_St} (h : B_X2_isOpen_22 Q   σ) : zv_V G X M_X2_isOpen 22 [] [] σ := by
  unfold B_X2_isOpen_22 at h
  refine zv_iconst (v := 0) hC dX2_isOpen_22 (by decide) ?_
  exact zv_go (k_X2_isOpen_23 hC hR  h) trivial
def B_X2_isOpen (Q : Int32 → zv_St → Prop) (x1 : Int32) (σ : zv_St) : Prop :=
  B_X10_isWithin (fun r_2 σ_1 => (r_2 = 0 → (B_X2_isOpen_22 Q σ_1)) ∧ (¬ r_2 = 0 → (vp_in x1 8 ∧ ((σ_1.1 35 x1.toNatClampNeg) = 0 → (B_X2_isOpen_22 Q σ_1)) ∧ (¬ (σ_1.1 35 x1.toNatClampNeg) = 0 → (B_X2_isOpen_23 Q 1 σ_1))))) x1 7 σ
set_option maxRecDepth 20000 in
set_option maxHeartbeats 2000000 in
theorem k_X2_isOpen_0 {G : zv_G} {X : zv_X} {Q : Int32 → zv_St → Prop}  (hC : zv_C G X M_X2_isOpen) (hR : zv_R G X M_X2_isOpen (zv_qi Q))  {x1 : Int32} {σ : zv_St} (h : B_X2_isOpen Q  x1 σ) : zv_V G X M_X2_isOpen 0 [(0, .ref (G.2.2.1 34)), (1, .int x1)] [] σ := by
  unfold B_X2_isOpen at h
  refine zv_iload_n hC dX2_isOpen_0 rfl ?_
  refine zv_bipush (v := 7) hC dX2_isOpen_1 (by decide) ?_
  refine zv_callSNi (As := [_, _]) hC dX2_isOpen_3 Y_X10_isWithin lk_X2_25 (by decide) rfl rfl (Nat.le_of_ble_eq_true rfl) (ok_X10_isWithin G h) ?_
  intro r_2 σ_1 h
  refine zv_if_eq (tgt := 22) hC dX2_isOpen_6 (by decide) (fun c => ?_) (fun c => ?_)
  · replace h := h.1 c
    exact zv_go (k_X2_isOpen_22 hC hR  h) trivial
  · replace h := h.2 c
    refine zv_aload_n hC dX2_isOpen_9 rfl ?_
    refine zv_getR (j := 35) hC fl_X2_9 dX2_isOpen_10 rfl rfl ?_
    refine zv_iload_n hC dX2_isOpen_13 rfl ?_
    refine zv_zald hC dX2_isOpen_14 rfl h.1 ?_
    replace h := h.2
    refine zv_if_eq (tgt := 22) hC dX2_isOpen_15 (by decide) (fun c => ?_) (fun c => ?_)
    · replace h := h.1 c
      exact zv_go (k_X2_isOpen_22 hC hR  h) trivial
    · replace h := h.2 c
      refine zv_iconst (v := 1) hC dX2_isOpen_18 (by decide) ?_
      refine zv_goto (tgt := 23) hC dX2_isOpen_19 (by decide) ?_
      exact zv_go (k_X2_isOpen_23 hC hR  h) trivial
theorem ok_X2_isOpen (G : zv_G) {Q : Int32 → zv_St → Prop} {x1 : Int32} {σ : zv_St} (h : B_X2_isOpen Q x1 σ) : zv_OK G M_X2_isOpen yX2_isOpen [.ref (G.2.2.1 34), .int x1] σ (zv_qi Q) := zv_ok G _ _ _ _ _ (by decide +kernel) rfl (Nat.le_of_ble_eq_true rfl) (fun X hC hR => zv_go (k_X2_isOpen_0 hC hR h) ⟨rfl, rfl, trivial⟩)
-- X2_nodeOf
def B_X2_nodeOf (Q : Int32 → zv_St → Prop) (x1 : Int32) (σ : zv_St) : Prop :=
  vp_in x1 8 ∧ Q (σ.1 36 x1.toNatClampNeg) σ
set_option maxRecDepth 20000 in
set_option maxHeartbeats 2000000 in
theorem k_X2_nodeOf_0 {G : zv_G} {X : zv_X} {Q : Int32 → zv_St → Prop}  (hC : zv_C G X M_X2_nodeOf) (hR : zv_R G X M_X2_nodeOf (zv_qi Q))  {x1 : Int32} {σ : zv_St} (h : B_X2_nodeOf Q  x1 σ) : zv_V G X M_X2_nodeOf 0 [(0, .ref (G.2.2.1 34)), (1, .int x1)] [] σ := by
  unfold B_X2_nodeOf at h
  refine zv_aload_n hC dX2_nodeOf_0 rfl ?_
  refine zv_getR (j := 36) hC fl_X2_15 dX2_nodeOf_1 rfl rfl ?_
  refine zv_iload_n hC dX2_nodeOf_4 rfl ?_
  refine zv_iald hC dX2_nodeOf_5 rfl h.1 ?_
  replace h := h.2
  exact (hR _ _ _).1 _ rfl dX2_nodeOf_6 ⟨_, rfl, h⟩
theorem ok_X2_nodeOf (G : zv_G) {Q : Int32 → zv_St → Prop} {x1 : Int32} {σ : zv_St} (h : B_X2_nodeOf Q x1 σ) : zv_OK G M_X2_nodeOf yX2_nodeOf [.ref (G.2.2.1 34), .int x1] σ (zv_qi Q) := zv_ok G _ _ _ _ _ (by decide +kernel) rfl (Nat.le_of_ble_eq_true rfl) (fun X hC hR => zv_go (k_X2_nodeOf_0 hC hR h) ⟨rfl, rfl, trivial⟩)
-- X2_standOf
def B_X2_standOf (Q : Int32 → zv_St → Prop) (x1 : Int32) (σ : zv_St) : Prop :=
  vp_in x1 8 ∧ Q (σ.1 37 x1.toNatClampNeg) σ
set_option maxRecDepth 20000 in
set_option maxHeartbeats 2000000 in
theorem k_X2_standOf_0 {G : zv_G} {X : zv_X} {Q : Int32 → zv_St → Prop}  (hC : zv_C G X M_X2_standOf) (hR : zv_R G X M_X2_standOf (zv_qi Q))  {x1 : Int32} {σ : zv_St} (h : B_X2_standOf Q  x1 σ) : zv_V G X M_X2_standOf 0 [(0, .ref (G.2.2.1 34)), (1, .int x1)] [] σ := by
  unfold B_X2_standOf at h
  refine zv_aload_n hC dX2_standOf_0 rfl ?_
  refine zv_getR (j := 37) hC fl_X2_19 dX2_standOf_1 rfl rfl ?_
  refine zv_iload_n hC dX2_standOf_4 rfl ?_
  refine zv_iald hC dX2_standOf_5 rfl h.1 ?_
  replace h := h.2
  exact (hR _ _ _).1 _ rfl dX2_standOf_6 ⟨_, rfl, h⟩
theorem ok_X2_standOf (G : zv_G) {Q : Int32 → zv_St → Prop} {x1 : Int32} {σ : zv_St} (h : B_X2_standOf Q x1 σ) : zv_OK G M_X2_standOf yX2_standOf [.ref (G.2.2.1 34), .int x1] σ (zv_qi Q) := zv_ok G _ _ _ _ _ (by decide +kernel) rfl (Nat.le_of_ble_eq_true rfl) (fun X hC hR => zv_go (k_X2_standOf_0 hC hR h) ⟨rfl, rfl, trivial⟩)
-- X2_stopAt
def B_X2_stopAt (Q : zv_St → Prop) (x1 : Int32) (x2 : Int32) (σ : zv_St) : Prop :=
  vp_in x1 8 ∧ ∀ σ_1 : zv_St, σ_1 = zv_wi σ 37 x1.toNatClampNeg x2 → vp_in x1 8 ∧ vp_in x1 8 ∧ ∀ σ_2 : zv_St, σ_2 = zv_wi σ_1 38 x1.toNatClampNeg ((σ_1.1 38 x1.toNatClampNeg) + 1) → Q σ_2
set_option maxRecDepth 20000 in
set_option maxHeartbeats 2000000 in
theorem k_X2_stopAt_0 {G : zv_G} {X : zv_X} {Q : zv_St → Prop}  (hC : zv_C G X M_X2_stopAt) (hR : zv_R G X M_X2_stopAt (zv_qv Q))  {x1 : Int32} {x2 : Int32} {σ : zv_St} (h : B_X2_stopAt Q  x1 x2 σ) : zv_V G X M_X2_stopAt 0 [(0, .ref (G.2.2.1 34)), (1, .int x1), (2, .int x2)] [] σ := by
  unfold B_X2_stopAt at h
  refine zv_aload_n hC dX2_stopAt_0 rfl ?_
  refine zv_getR (j := 37) hC fl_X2_19 dX2_stopAt_1 rfl rfl ?_
  refine zv_iload_n hC dX2_stopAt_4 rfl ?_
  refine zv_iload_n hC dX2_stopAt_5 rfl ?_
  refine zv_iast hC dX2_stopAt_6 rfl h.1 ?_
  replace h := h.2 _ rfl
  refine zv_aload_n hC dX2_stopAt_7 rfl ?_
  refine zv_getR (j := 38) hC fl_X2_22 dX2_stopAt_8 rfl rfl ?_
  refine zv_iload_n hC dX2_stopAt_11 rfl ?_
  refine zv_dup2 hC dX2_stopAt_12 rfl rfl ?_
  refine zv_iald hC dX2_stopAt_13 rfl h.1 ?_
  replace h := h.2
  refine zv_iconst (v := 1) hC dX2_stopAt_14 (by decide) ?_
  refine zv_iadd hC dX2_stopAt_15 ?_
  refine zv_iast hC dX2_stopAt_16 rfl h.1 ?_
  replace h := h.2 _ rfl
  exact (hR _ _ _).2.2.2.1 rfl dX2_stopAt_17 ⟨rfl, h⟩
theorem ok_X2_stopAt (G : zv_G) {Q : zv_St → Prop} {x1 : Int32} {x2 : Int32} {σ : zv_St} (h : B_X2_stopAt Q x1 x2 σ) : zv_OK G M_X2_stopAt yX2_stopAt [.ref (G.2.2.1 34), .int x1, .int x2] σ (zv_qv Q) := zv_ok G _ _ _ _ _ (by decide +kernel) rfl (Nat.le_of_ble_eq_true rfl) (fun X hC hR => zv_go (k_X2_stopAt_0 hC hR h) ⟨rfl, rfl, rfl, trivial⟩)
-- X2_finish
def B_X2_finish (Q : zv_St → Prop) (x1 : Int32) (σ : zv_St) : Prop :=
  vp_in x1 8 ∧ ∀ σ_1 : zv_St, σ_1 = zv_wi σ 37 x1.toNatClampNeg 511 → Q σ_1
set_option maxRecDepth 20000 in
set_option maxHeartbeats 2000000 in
theorem k_X2_finish_0 {G : zv_G} {X : zv_X} {Q : zv_St → Prop}  (hC : zv_C G X M_X2_finish) (hR : zv_R G X M_X2_finish (zv_qv Q))  {x1 : Int32} {σ : zv_St} (h : B_X2_finish Q  x1 σ) : zv_V G X M_X2_finish 0 [(0, .ref (G.2.2.1 34)), (1, .int x1)] [] σ := by
  unfold B_X2_finish at h
  refine zv_aload_n hC dX2_finish_0 rfl ?_
  refine zv_getR (j := 37) hC fl_X2_19 dX2_finish_1 rfl rfl ?_
  refine zv_iload_n hC dX2_finish_4 rfl ?_
  refine zv_sipush (v := 511) hC dX2_finish_5 (by decide) ?_
  refine zv_iast hC dX2_finish_8 rfl h.1 ?_
  replace h := h.2 _ rfl
  exact (hR _ _ _).2.2.2.1 rfl dX2_finish_9 ⟨rfl, h⟩
theorem ok_X2_finish (G : zv_G) {Q : zv_St → Prop} {x1 : Int32} {σ : zv_St} (h : B_X2_finish Q x1 σ) : zv_OK G M_X2_finish yX2_finish [.ref (G.2.2.1 34), .int x1] σ (zv_qv Q) := zv_ok G _ _ _ _ _ (by decide +kernel) rfl (Nat.le_of_ble_eq_true rfl) (fun X hC hR => zv_go (k_X2_finish_0 hC hR h) ⟨rfl, rfl, trivial⟩)
-- X10_next
def B_X10_next_18 (Q : Int32 → zv_St → Prop) (σ : zv_St) : Prop :=
  Q (-2) σ
set_option maxRecDepth 20000 in
set_option maxHeartbeats 2000000 in
theorem k_X10_next_18 {G : zv_G} {X : zv_X} {Q : Int32 → zv_St → Prop}  (hC : zv_C G X M_X10_next) (hR : zv_R G X M_X10_next (zv_qi Q))   {σ : zv_St} (h : B_X10_next_18 Q   σ) : zv_V G X M_X10_next 18 [] [] σ := by
  unfold B_X10_next_18 at h
  refine zv_bipush (v := (-2)) hC dX10_next_18 (by decide) ?_
  exact (hR _ _ _).1 _ rfl dX10_next_20 ⟨_, rfl, h⟩
def L_X10_next_54 (Q : Int32 → zv_St → Prop) : Nat → (Int32 → Int32 → Int32 → zv_St → Prop)
  | 0 => fun _ _ _ _ => False
  | u + 1 => fun x1 x3 x4 σ => 
    (512 ≤ x4 → (B_X2_finish (fun σ_1 => Q (-1) σ_1) x1 σ)) ∧ (¬ 512 ≤ x4 → (B_X4_matches (fun r_3 σ_2 => (r_3 = 0 → ((L_X10_next_54 Q u) x1 x3 (x4 + 1) σ_2)) ∧ (¬ r_3 = 0 → (B_X2_stopAt (fun σ_4 => Q x4 σ_4) x1 x4 σ_2))) x3 x4 σ))
set_option maxRecDepth 20000 in
set_option maxHeartbeats 2000000 in
theorem kL_X10_next_54 {G : zv_G} {X : zv_X} {Q : Int32 → zv_St → Prop}  (hC : zv_C G X M_X10_next) (hR : zv_R G X M_X10_next (zv_qi Q))  : ∀ (n : Nat) (x1 : Int32) (x3 : Int32) (x4 : Int32) (σ : zv_St), L_X10_next_54 Q  n x1 x3 x4 σ → zv_V G X M_X10_next 54 [(0, .ref (G.2.2.1 0)), (1, .int x1), (3, .int x3), (4, .int x4)] [] σ := by
  intro n
  induction n with
  | zero => intro x1 x3 x4 σ h; exact h.elim
  | succ n hk54 =>
    intro x1 x3 x4 σ h
    unfold L_X10_next_54 at h
    refine zv_iload hC dX10_next_54 rfl ?_
    refine zv_sipush (v := 512) hC dX10_next_56 (by decide) ?_
    refine zv_icmp_ge (tgt := 94) hC dX10_next_59 (by decide) (fun c => ?_) (fun c => ?_)
    · replace h := h.1 c
      refine zv_aload_n hC dX10_next_94 rfl ?_
      refine zv_getR (j := 34) hC fl_X10_60 dX10_next_95 rfl rfl ?_
      refine zv_iload_n hC dX10_next_98 rfl ?_
      refine zv_callVv (As := [_]) hC dX10_next_99 Y_X2_finish lk_X10_220 (by decide) rfl rfl rfl (Nat.le_of_ble_eq_true rfl) (ok_X2_finish G h) ?_
      intro σ_1 h
      refine zv_iconst (v := (-1)) hC dX10_next_102 (by decide) ?_
      exact (hR _ _ _).1 _ rfl dX10_next_103 ⟨_, rfl, h⟩
    · replace h := h.2 c
      refine zv_aload_n hC dX10_next_62 rfl ?_
      refine zv_getR (j := 27) hC fl_X10_46 dX10_next_63 rfl rfl ?_
      refine zv_iload_n hC dX10_next_66 rfl ?_
      refine zv_iload hC dX10_next_67 rfl ?_
      refine zv_callVi (As := [_, _]) hC dX10_next_69 Y_X4_matches lk_X10_168 (by decide) rfl rfl rfl (Nat.le_of_ble_eq_true rfl) (ok_X4_matches G h) ?_
      intro r_3 σ_2 h
      refine zv_if_eq (tgt := 88) hC dX10_next_72 (by decide) (fun c => ?_) (fun c => ?_)
      · replace h := h.1 c
        refine zv_iinc (v := 1) hC dX10_next_88 rfl (by decide) (by decide) ?_
        refine zv_goto (tgt := 54) hC dX10_next_91 (by decide) ?_
        exact zv_go (hk54 _ _ _ _ h) ⟨rfl, rfl, rfl, rfl, trivial⟩
      · replace h := h.2 c
        refine zv_aload_n hC dX10_next_75 rfl ?_
        refine zv_getR (j := 34) hC fl_X10_60 dX10_next_76 rfl rfl ?_
        refine zv_iload_n hC dX10_next_79 rfl ?_
        refine zv_iload hC dX10_next_80 rfl ?_
        refine zv_callVv (As := [_, _]) hC dX10_next_82 Y_X2_stopAt lk_X10_217 (by decide) rfl rfl rfl (Nat.le_of_ble_eq_true rfl) (ok_X2_stopAt G h) ?_
        intro σ_4 h
        refine zv_iload hC dX10_next_85 rfl ?_
        exact (hR _ _ _).1 _ rfl dX10_next_87 ⟨_, rfl, h⟩
def B_X10_next (Q : Int32 → zv_St → Prop) (x1 : Int32) (x2 : Int32) (σ : zv_St) : Prop :=
  B_X2_isOpen (fun r_2 σ_1 => (r_2 = 0 → (B_X10_next_18 Q σ_1)) ∧ (¬ r_2 = 0 → (B_X10_isObject (fun r_4 σ_3 => (¬ r_4 = 0 → (B_X2_nodeOf (fun r_6 σ_5 => B_X0_prepare (fun σ_7 => B_X2_standOf (fun r_9 σ_8 => B_J9_max_7cf53 (fun r_11 σ_10 => ∃ n54, L_X10_next_54 Q n54 x1 r_6 r_11 σ_10) x2 (r_9 + 1) σ_8) x1 σ_7) r_6 σ_5) x1 σ_3)) ∧ (r_4 = 0 → (B_X10_next_18 Q σ_3))) x2 σ_1))) x1 σ
set_option maxRecDepth 20000 in
set_option maxHeartbeats 2000000 in
theorem k_X10_next_0 {G : zv_G} {X : zv_X} {Q : Int32 → zv_St → Prop}  (hC : zv_C G X M_X10_next) (hR : zv_R G X M_X10_next (zv_qi Q))  {x1 : Int32} {x2 : Int32} {σ : zv_St} (h : B_X10_next Q  x1 x2 σ) : zv_V G X M_X10_next 0 [(0, .ref (G.2.2.1 0)), (1, .int x1), (2, .int x2)] [] σ := by
  unfold B_X10_next at h
  refine zv_aload_n hC dX10_next_0 rfl ?_
  refine zv_getR (j := 34) hC fl_X10_60 dX10_next_1 rfl rfl ?_
  refine zv_iload_n hC dX10_next_4 rfl ?_
  refine zv_callVi (As := [_]) hC dX10_next_5 Y_X2_isOpen lk_X10_203 (by decide) rfl rfl rfl (Nat.le_of_ble_eq_true rfl) (ok_X2_isOpen G h) ?_
  intro r_2 σ_1 h
  refine zv_if_eq (tgt := 18) hC dX10_next_8 (by decide) (fun c => ?_) (fun c => ?_)
  · replace h := h.1 c
    exact zv_go (k_X10_next_18 hC hR  h) trivial
  · replace h := h.2 c
    refine zv_iload_n hC dX10_next_11 rfl ?_
    refine zv_callSi (As := [_]) hC dX10_next_12 Y_X10_isObject lk_X10_77 (by decide) rfl rfl (Nat.le_of_ble_eq_true rfl) (ok_X10_isObject G h) ?_
    intro r_4 σ_3 h
    refine zv_if_ne (tgt := 21) hC dX10_next_15 (by decide) (fun c => ?_) (fun c => ?_)
    · replace h := h.1 c
      refine zv_aload_n hC dX10_next_21 rfl ?_
      refine zv_getR (j := 34) hC fl_X10_60 dX10_next_22 rfl rfl ?_
      refine zv_iload_n hC dX10_next_25 rfl ?_
      refine zv_callVi (As := [_]) hC dX10_next_26 Y_X2_nodeOf lk_X10_206 (by decide) rfl rfl rfl (Nat.le_of_ble_eq_true rfl) (ok_X2_nodeOf G h) ?_
      intro r_6 σ_5 h
      refine zv_istore_n hC dX10_next_29 (by decide) ?_
      refine zv_aload_n hC dX10_next_30 rfl ?_
      refine zv_getR (j := 19) hC fl_X10_37 dX10_next_31 rfl rfl ?_
      refine zv_iload_n hC dX10_next_34 rfl ?_
      refine zv_callVv (As := [_]) hC dX10_next_35 Y_X0_prepare lk_X10_143 (by decide) rfl rfl rfl (Nat.le_of_ble_eq_true rfl) (ok_X0_prepare G h) ?_
      intro σ_7 h
      refine zv_iload_n hC dX10_next_38 rfl ?_
      refine zv_aload_n hC dX10_next_39 rfl ?_
      refine zv_getR (j := 34) hC fl_X10_60 dX10_next_40 rfl rfl ?_
      refine zv_iload_n hC dX10_next_43 rfl ?_
      refine zv_callVi (As := [_]) hC dX10_next_44 Y_X2_standOf lk_X10_209 (by decide) rfl rfl rfl (Nat.le_of_ble_eq_true rfl) (ok_X2_standOf G h) ?_
      intro r_9 σ_8 h
      refine zv_iconst (v := 1) hC dX10_next_47 (by decide) ?_
      refine zv_iadd hC dX10_next_48 ?_
      refine zv_callSi (As := [_, _]) hC dX10_next_49 Y_J9_max_7cf53 lk_X10_212 (by decide) rfl rfl (Nat.le_of_ble_eq_true rfl) (ok_J9_max_7cf53 G h) ?_
      intro r_11 σ_10 h
      refine zv_istore hC dX10_next_52 (by decide) ?_
      obtain ⟨n, h⟩ := h
      exact zv_go (kL_X10_next_54 hC hR  n _ _ _ _ h) ⟨rfl, rfl, rfl, rfl, trivial⟩
    · replace h := h.2 c
      exact zv_go (k_X10_next_18 hC hR  h) trivial
theorem ok_X10_next (G : zv_G) {Q : Int32 → zv_St → Prop} {x1 : Int32} {x2 : Int32} {σ : zv_St} (h : B_X10_next Q x1 x2 σ) : zv_OK G M_X10_next yX10_next [.ref (G.2.2.1 0), .int x1, .int x2] σ (zv_qi Q) := zv_ok G _ _ _ _ _ (by decide +kernel) rfl (Nat.le_of_ble_eq_true rfl) (fun X hC hR => zv_go (k_X10_next_0 hC hR h) ⟨rfl, rfl, rfl, trivial⟩)
