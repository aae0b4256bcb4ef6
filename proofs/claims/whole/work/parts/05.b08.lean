-- X2_start
def L_X2_start_2 (Q : Int32 → zv_St → Prop) : Nat → (Int32 → Int32 → zv_St → Prop)
  | 0 => fun _ _ _ => False
  | u + 1 => fun x1 x2 σ => 
    (8 ≤ x2 → (Q (-3) σ)) ∧ (¬ 8 ≤ x2 → (vp_in x2 8 ∧ (¬ (σ.1 35 x2.toNatClampNeg) = 0 → ((L_X2_start_2 Q u) x1 (x2 + 1) σ)) ∧ ((σ.1 35 x2.toNatClampNeg) = 0 → (vp_in x2 8 ∧ ∀ σ_1 : zv_St, σ_1 = zv_wi σ 35 x2.toNatClampNeg (vp_nar .boolean 1) → vp_in x2 8 ∧ ∀ σ_2 : zv_St, σ_2 = zv_wi σ_1 36 x2.toNatClampNeg x1 → vp_in x2 8 ∧ ∀ σ_3 : zv_St, σ_3 = zv_wi σ_2 37 x2.toNatClampNeg (-1) → vp_in x2 8 ∧ ∀ σ_4 : zv_St, σ_4 = zv_wi σ_3 38 x2.toNatClampNeg 0 → Q x2 σ_4))))
set_option maxRecDepth 20000 in
set_option maxHeartbeats 2000000 in
theorem kL_X2_start_2 {G : zv_G} {X : zv_X} {Q : Int32 → zv_St → Prop}  (hC : zv_C G X M_X2_start) (hR : zv_R G X M_X2_start (zv_qi Q))  : ∀ (n : Nat) (x1 : Int32) (x2 : Int32) (σ : zv_St), L_X2_start_2 Q  n x1 x2 σ → zv_V G X M_X2_start 2 [(0, .ref (G.2.2.1 34)), (1, .int x1), (2, .int x2)] [] σ := by
  intro n
  induction n with
  | zero => intro x1 x2 σ h; exact h.elim
  | succ n hk2 =>
    intro x1 x2 σ h
    unfold L_X2_start_2 at h
    refine zv_iload_n hC dX2_start_2 rfl ?_
    refine zv_bipush (v := 8) hC dX2_start_3 (by decide) ?_
    refine zv_icmp_ge (tgt := 53) hC dX2_start_5 (by decide) (fun c => ?_) (fun c => ?_)
    · replace h := h.1 c
      refine zv_bipush (v := (-3)) hC dX2_start_53 (by decide) ?_
      exact (hR _ _ _).1 _ rfl dX2_start_55 ⟨_, rfl, h⟩
    · replace h := h.2 c
      refine zv_aload_n hC dX2_start_8 rfl ?_
      refine zv_getR (j := 35) hC fl_X2_9 dX2_start_9 rfl rfl ?_
      refine zv_iload_n hC dX2_start_12 rfl ?_
      refine zv_zald hC dX2_start_13 rfl h.1 ?_
      replace h := h.2
      refine zv_if_ne (tgt := 47) hC dX2_start_14 (by decide) (fun c => ?_) (fun c => ?_)
      · replace h := h.1 c
        refine zv_iinc (v := 1) hC dX2_start_47 rfl (by decide) (by decide) ?_
        refine zv_goto (tgt := 2) hC dX2_start_50 (by decide) ?_
        exact zv_go (hk2 _ _ _ h) ⟨rfl, rfl, rfl, trivial⟩
      · replace h := h.2 c
        refine zv_aload_n hC dX2_start_17 rfl ?_
        refine zv_getR (j := 35) hC fl_X2_9 dX2_start_18 rfl rfl ?_
        refine zv_iload_n hC dX2_start_21 rfl ?_
        refine zv_iconst (v := 1) hC dX2_start_22 (by decide) ?_
        refine zv_zast hC dX2_start_23 rfl h.1 ?_
        replace h := h.2 _ rfl
        refine zv_aload_n hC dX2_start_24 rfl ?_
        refine zv_getR (j := 36) hC fl_X2_15 dX2_start_25 rfl rfl ?_
        refine zv_iload_n hC dX2_start_28 rfl ?_
        refine zv_iload_n hC dX2_start_29 rfl ?_
        refine zv_iast hC dX2_start_30 rfl h.1 ?_
        replace h := h.2 _ rfl
        refine zv_aload_n hC dX2_start_31 rfl ?_
        refine zv_getR (j := 37) hC fl_X2_19 dX2_start_32 rfl rfl ?_
        refine zv_iload_n hC dX2_start_35 rfl ?_
        refine zv_iconst (v := (-1)) hC dX2_start_36 (by decide) ?_
        refine zv_iast hC dX2_start_37 rfl h.1 ?_
        replace h := h.2 _ rfl
        refine zv_aload_n hC dX2_start_38 rfl ?_
        refine zv_getR (j := 38) hC fl_X2_22 dX2_start_39 rfl rfl ?_
        refine zv_iload_n hC dX2_start_42 rfl ?_
        refine zv_iconst (v := 0) hC dX2_start_43 (by decide) ?_
        refine zv_iast hC dX2_start_44 rfl h.1 ?_
        replace h := h.2 _ rfl
        refine zv_iload_n hC dX2_start_45 rfl ?_
        exact (hR _ _ _).1 _ rfl dX2_start_46 ⟨_, rfl, h⟩
def B_X2_start (Q : Int32 → zv_St → Prop) (x1 : Int32) (σ : zv_St) : Prop :=
  ∃ n2, L_X2_start_2 Q n2 x1 0 σ
set_option maxRecDepth 20000 in
set_option maxHeartbeats 2000000 in
theorem k_X2_start_0 {G : zv_G} {X : zv_X} {Q : Int32 → zv_St → Prop}  (hC : zv_C G X M_X2_start) (hR : zv_R G X M_X2_start (zv_qi Q))  {x1 : Int32} {σ : zv_St} (h : B_X2_start Q  x1 σ) : zv_V G X M_X2_start 0 [(0, .ref (G.2.2.1 34)), (1, .int x1)] [] σ := by
  unfold B_X2_start at h
  refine zv_iconst (v := 0) hC dX2_start_0 (by decide) ?_
  refine zv_istore_n hC dX2_start_1 (by decide) ?_
  obtain ⟨n, h⟩ := h
  exact zv_go (kL_X2_start_2 hC hR  n _ _ _ h) ⟨rfl, rfl, rfl, trivial⟩
theorem ok_X2_start (G : zv_G) {Q : Int32 → zv_St → Prop} {x1 : Int32} {σ : zv_St} (h : B_X2_start Q x1 σ) : zv_OK G M_X2_start yX2_start [.ref (G.2.2.1 34), .int x1] σ (zv_qi Q) := zv_ok G _ _ _ _ _ (by decide +kernel) rfl (Nat.le_of_ble_eq_true rfl) (fun X hC hR => zv_go (k_X2_start_0 hC hR h) ⟨rfl, rfl, trivial⟩)
-- X10_open
def B_X10_open (Q : Int32 → zv_St → Prop) (x1 : Int32) (σ : zv_St) : Prop :=
  B_X5_has (fun r_2 σ_1 => (¬ r_2 = 0 → (B_X2_start (fun r_4 σ_3 => Q r_4 σ_3) x1 σ_1)) ∧ (r_2 = 0 → (Q (-2) σ_1))) x1 σ
set_option maxRecDepth 20000 in
set_option maxHeartbeats 2000000 in
theorem k_X10_open_0 {G : zv_G} {X : zv_X} {Q : Int32 → zv_St → Prop}  (hC : zv_C G X M_X10_open) (hR : zv_R G X M_X10_open (zv_qi Q))  {x1 : Int32} {σ : zv_St} (h : B_X10_open Q  x1 σ) : zv_V G X M_X10_open 0 [(0, .ref (G.2.2.1 0)), (1, .int x1)] [] σ := by
  unfold B_X10_open at h
  refine zv_aload_n hC dX10_open_0 rfl ?_
  refine zv_getR (j := 5) hC fl_X10_19 dX10_open_1 rfl rfl ?_
  refine zv_iload_n hC dX10_open_4 rfl ?_
  refine zv_callVi (As := [_]) hC dX10_open_5 Y_X5_has lk_X10_118 (by decide) rfl rfl rfl (Nat.le_of_ble_eq_true rfl) (ok_X5_has G h) ?_
  intro r_2 σ_1 h
  refine zv_if_ne (tgt := 14) hC dX10_open_8 (by decide) (fun c => ?_) (fun c => ?_)
  · replace h := h.1 c
    refine zv_aload_n hC dX10_open_14 rfl ?_
    refine zv_getR (j := 34) hC fl_X10_60 dX10_open_15 rfl rfl ?_
    refine zv_iload_n hC dX10_open_18 rfl ?_
    refine zv_callVi (As := [_]) hC dX10_open_19 Y_X2_start lk_X10_200 (by decide) rfl rfl rfl (Nat.le_of_ble_eq_true rfl) (ok_X2_start G h) ?_
    intro r_4 σ_3 h
    exact (hR _ _ _).1 _ rfl dX10_open_22 ⟨_, rfl, h⟩
  · replace h := h.2 c
    refine zv_bipush (v := (-2)) hC dX10_open_11 (by decide) ?_
    exact (hR _ _ _).1 _ rfl dX10_open_13 ⟨_, rfl, h⟩
theorem ok_X10_open (G : zv_G) {Q : Int32 → zv_St → Prop} {x1 : Int32} {σ : zv_St} (h : B_X10_open Q x1 σ) : zv_OK G M_X10_open yX10_open [.ref (G.2.2.1 0), .int x1] σ (zv_qi Q) := zv_ok G _ _ _ _ _ (by decide +kernel) rfl (Nat.le_of_ble_eq_true rfl) (fun X hC hR => zv_go (k_X10_open_0 hC hR h) ⟨rfl, rfl, trivial⟩)
-- X2_isOpen
def B_X2_isOpen_23 (Q : Int32 → zv_St → Prop) (y0 : Int32) (σ : zv_St) : Prop :=
  narrow .boolean (.int y0) = .int y0 ∧ Q y0 σ
set_option maxRecDepth 20000 in
set_option maxHeartbeats 2000000 in
theorem k_X2_isOpen_23 {G : zv_G} {X : zv_X} {Q : Int32 → zv_St → Prop}  (hC : zv_C G X M_X2_isOpen) (hR : zv_R G X M_X2_isOpen (zv_qi Q))  {y0 : Int32} {σ : zv_St} (h : B_X2_isOpen_23 Q  y0 σ) : zv_V G X M_X2_isOpen 23 [] [.int y0] σ := by
  unfold B_X2_isOpen_23 at h
  exact (hR _ _ _).2.1 _ rfl h.1 dX2_isOpen_23 ⟨_, rfl, h.2⟩
def B_X2_isOpen_22 (Q : Int32 → zv_St → Prop) (σ : zv_St) : Prop :=
  B_X2_isOpen_23 Q 0 σ
set_option maxRecDepth 20000 in
set_option maxHeartbeats 2000000 in
theorem k_X2_isOpen_22 {G : zv_G} {X : zv_X} {Q : Int32 → zv_St → Prop}  (hC : zv_C G X M_X2_isOpen) (hR : zv_R G X M_X2_isOpen (zv_qi Q))   {σ : zv_St} (h : B_X2_isOpen_22 Q   σ) : zv_V G X M_X2_isOpen 22 [] [] σ := by
  unfold B_X2_isOpen_22 at h
  refine zv_iconst (v := 0) hC dX2_isOpen_22 (by decide) ?_
  exact zv_go (k_X2_isOpen_23 hC hR  h) trivial
def B_X2_isOpen (Q : Int32 → zv_St → Prop) (x1 : Int32) (σ : zv_St) : Prop :=
  B_X10_isWithin (fun r_2 σ_1 => (r_2 = 0 → (B_X2_isOpen_22 Q σ_1)) ∧ (¬ r_2 = 0 → (vp_in x1 8 ∧ ((σ_1.1 35 x1.toNatClampNeg) = 0 → (B_X2_isOpen_22 Q σ_1)) ∧ (¬ (σ_1.1 35 x1.toNatClampNeg) = 0 → (B_X2_isOpen_23 Q 1 σ_1))))) x1 7 σ
set_option maxRecDepth 20000 in
set_option maxHeartbeats 2000000 in
theorem k_X2_isOpen_0 {G : zv_G} {X : zv_X} {Q : Int32 → zv_St → Prop}  (hC : zv_C G X M_X2_isOpen) (hR : zv_R G X M_X2_isOpen (zv_qi Q))  {x1 : Int32} {σ : zv_St} (h : B_X2_isOpen Q  x1 σ) : zv_V G X M_X2_isOpen 0 [(0, .ref (G.2.2.1 34)), (1, .int x1)] [] σ := by
  unfold B_X2_isOpen at h
  refine zv_iload_n hC dX2_isOpen_0 rfl ?_
  refine zv_bipush (v := 7) hC dX2_isOpen_1 (by decide) ?_
  refine zv_callSNi (As := [_, _]) hC dX2_isOpen_3 Y_X10_isWithin lk_X2_25 (by decide) rfl rfl (Nat.le_of_ble_eq_true rfl) (ok_X10_isWithin G h) ?_
  intro r_2 σ_1 h
  refine zv_if_eq (tgt := 22) hC dX2_isOpen_6 (by decide) (fun c => ?_) (fun c => ?_)
  · replace h := h.1 c
    exact zv_go (k_X2_isOpen_22 hC hR  h) trivial
  · replace h := h.2 c
    refine zv_aload_n hC dX2_isOpen_9 rfl ?_
    refine zv_getR (j := 35) hC fl_X2_9 dX2_isOpen_10 rfl rfl ?_
    refine zv_iload_n hC dX2_isOpen_13 rfl ?_
    refine zv_zald hC dX2_isOpen_14 rfl h.1 ?_
    replace h := h.2
    refine zv_if_eq (tgt := 22) hC dX2_isOpen_15 (by decide) (fun c => ?_) (fun c => ?_)
    · replace h := h.1 c
      exact zv_go (k_X2_isOpen_22 hC hR  h) trivial
    · replace h := h.2 c
      refine zv_iconst (v := 1) hC dX2_isOpen_18 (by decide) ?_
      refine zv_goto (tgt := 23) hC dX2_isOpen_19 (by decide) ?_
      exact zv_go (k_X2_isOpen_23 hC hR  h) trivial
theorem ok_X2_isOpen (G : zv_G) {Q : Int32 → zv_St → Prop} {x1 : Int32} {σ : zv_St} (h : B_X2_isOpen Q x1 σ) : zv_OK G M_X2_isOpen yX2_isOpen [.ref (G.2.2.1 34), .int x1] σ (zv_qi Q) := zv_ok G _ _ _ _ _ (by decide +kernel) rfl (Nat.le_of_ble_eq_true rfl) (fun X hC hR => zv_go (k_X2_isOpen_0 hC hR h) ⟨rfl, rfl, trivial⟩)
-- X2_nodeOf
def B_X2_nodeOf (Q : Int32 → zv_St → Prop) (x1 : Int32) (σ : zv_St) : Prop :=
  vp_in x1 8 ∧ Q (σ.1 36 x1.toNatClampNeg) σ
set_option maxRecDepth 20000 in
set_option maxHeartbeats 2000000 in
theorem k_X2_nodeOf_0 {G : zv_G} {X : zv_X} {Q : Int32 → zv_St → Prop}  (hC : zv_C G X M_X2_nodeOf) (hR : zv_R G X M_X2_nodeOf (zv_qi Q))  {x1 : Int32} {σ : zv_St} (h : B_X2_nodeOf Q  x1 σ) : zv_V G X M_X2_nodeOf 0 [(0, .ref (G.2.2.1 34)), (1, .int x1)] [] σ := by
  unfold B_X2_nodeOf at h
  refine zv_aload_n hC dX2_nodeOf_0 rfl ?_
  refine zv_getR (j := 36) hC fl_X2_15 dX2_nodeOf_1 rfl rfl ?_
  refine zv_iload_n hC dX2_nodeOf_4 rfl ?_
  refine zv_iald hC dX2_nodeOf_5 rfl h.1 ?_
  replace h := h.2
  exact (hR _ _ _).1 _ rfl dX2_nodeOf_6 ⟨_, rfl, h⟩
theorem ok_X2_nodeOf (G : zv_G) {Q : Int32 → zv_St → Prop} {x1 : Int32} {σ : zv_St} (h : B_X2_nodeOf Q x1 σ) : zv_OK G M_X2_nodeOf yX2_nodeOf [.ref (G.2.2.1 34), .int x1] σ (zv_qi Q) := zv_ok G _ _ _ _ _ (by decide +kernel) rfl (Nat.le_of_ble_eq_true rfl) (fun X hC hR => zv_go (k_X2_nodeOf_0 hC hR h) ⟨rfl, rfl, trivial⟩)
-- X2_standOf
def B_X2_standOf (Q : Int32 → zv_St → Prop) (x1 : Int32) (σ : zv_St) : Prop :=
  vp_in x1 8 ∧ Q (σ.1 37 x1.toNatClampNeg) σ
set_option maxRecDepth 20000 in
set_option maxHeartbeats 2000000 in
theorem k_X2_standOf_0 {G : zv_G} {X : zv_X} {Q : Int32 → zv_St → Prop}  (hC : zv_C G X M_X2_standOf) (hR : zv_R G X M_X2_standOf (zv_qi Q))  {x1 : Int32} {σ : zv_St} (h : B_X2_standOf Q  x1 σ) : zv_V G X M_X2_standOf 0 [(0, .ref (G.2.2.1 34)), (1, .int x1)] [] σ := by
  unfold B_X2_standOf at h
  refine zv_aload_n hC dX2_standOf_0 rfl ?_
  refine zv_getR (j := 37) hC fl_X2_19 dX2_standOf_1 rfl rfl ?_
  refine zv_iload_n hC dX2_standOf_4 rfl ?_
  refine zv_iald hC dX2_standOf_5 rfl h.1 ?_
  replace h := h.2
  exact (hR _ _ _).1 _ rfl dX2_standOf_6 ⟨_, rfl, h⟩
theorem ok_X2_standOf (G : zv_G) {Q : Int32 → zv_St → Prop} {x1 : Int32} {σ : zv_St} (h : B_X2_standOf Q x1 σ) : zv_OK G M_X2_standOf yX2_standOf [.ref (G.2.2.1 34), .int x1] σ (zv_qi Q) := zv_ok G _ _ _ _ _ (by decide +kernel) rfl (Nat.le_of_ble_eq_true rfl) (fun X hC hR => zv_go (k_X2_standOf_0 hC hR h) ⟨rfl, rfl, trivial⟩)
-- X2_stopAt
def B_X2_stopAt (Q : zv_St → Prop) (x1 : Int32) (x2 : Int32) (σ : zv_St) : Prop :=
  vp_in x1 8 ∧ ∀ σ_1 : zv_St, σ_1 = zv_wi σ 37 x1.toNatClampNeg x2 → vp_in x1 8 ∧ vp_in x1 8 ∧ ∀ σ_2 : zv_St, σ_2 = zv_wi σ_1 38 x1.toNatClampNeg ((σ_1.1 38 x1.toNatClampNeg) + 1) → Q σ_2
set_option maxRecDepth 20000 in
set_option maxHeartbeats 2000000 in
theorem k_X2_stopAt_0 {G : zv_G} {X : zv_X} {Q : zv_St → Prop}  (hC : zv_C G X M_X2_stopAt) (hR : zv_R G X M_X2_stopAt (zv_qv Q))  {x1 : Int32} {x2 : Int32} {σ : zv_St} (h : B_X2_stopAt Q  x1 x2 σ) : zv_V G X M_X2_stopAt 0 [(0, .ref (G.2.2.1 34)), (1, .int x1), (2, .int x2)] [] σ := by
  unfold B_X2_stopAt at h
  refine zv_aload_n hC dX2_stopAt_0 rfl ?_
  refine zv_getR (j := 37) hC fl_X2_19 dX2_stopAt_1 rfl rfl ?_
  refine zv_iload_n hC dX2_stopAt_4 rfl ?_
  refine zv_iload_n hC dX2_stopAt_5 rfl ?_
  refine zv_iast hC dX2_stopAt_6 rfl h.1 ?_
  replace h := h.2 _ rfl
  refine zv_aload_n hC dX2_stopAt_7 rfl ?_
  refine zv_getR (j := 38) hC fl_X2_22 dX2_stopAt_8 rfl rfl ?_
  refine zv_iload_n hC dX2_stopAt_11 rfl ?_
  refine zv_dup2 hC dX2_stopAt_12 rfl rfl ?_
  refine zv_iald hC dX2_stopAt_13 rfl h.1 ?_
  replace h := h.2
  refine zv_iconst (v := 1) hC dX2_stopAt_14 (by decide) ?_
  refine zv_iadd hC dX2_stopAt_15 ?_
  refine zv_iast hC dX2_stopAt_16 rfl h.1 ?_
  replace h := h.2 _ rfl
  exact (hR _ _ _).2.2.2.1 rfl dX2_stopAt_17 ⟨rfl, h⟩
theorem ok_X2_stopAt (G : zv_G) {Q : zv_St → Prop} {x1 : Int32} {x2 : Int32} {σ : zv_St} (h : B_X2_stopAt Q x1 x2 σ) : zv_OK G M_X2_stopAt yX2_stopAt [.ref (G.2.2.1 34), .int x1, .int x2] σ (zv_qv Q) := zv_ok G _ _ _ _ _ (by decide +kernel) rfl (Nat.le_of_ble_eq_true rfl) (fun X hC hR => zv_go (k_X2_stopAt_0 hC hR h) ⟨rfl, rfl, rfl, trivial⟩)
-- X2_finish
def B_X2_finish (Q : zv_St → Prop) (x1 : Int32) (σ : zv_St) : Prop :=
  vp_in x1 8 ∧ ∀ σ_1 : zv_St, σ_1 = zv_wi σ 37 x1.toNatClampNeg 511 → Q σ_1
set_option maxRecDepth 20000 in
set_option maxHeartbeats 2000000 in
theorem k_X2_finish_0 {G : zv_G} {X : zv_X} {Q : zv_St → Prop}  (hC : zv_C G X M_X2_finish) (hR : zv_R G X M_X2_finish (zv_qv Q))  {x1 : Int32} {σ : zv_St} (h : B_X2_finish Q  x1 σ) : zv_V G X M_X2_finish 0 [(0, .ref (G.2.2.1 34)), (1, .int x1)] [] σ := by
  unfold B_X2_finish at h
  refine zv_aload_n hC dX2_finish_0 rfl ?_
  refine zv_getR (j := 37) hC fl_X2_19 dX2_finish_1 rfl rfl ?_
  refine zv_iload_n hC dX2_finish_4 rfl ?_
  refine zv_sipush (v := 511) hC dX2_finish_5 (by decide) ?_
  refine zv_iast hC dX2_finish_8 rfl h.1 ?_
  replace h := h.2 _ rfl
  exact (hR _ _ _).2.2.2.1 rfl dX2_finish_9 ⟨rfl, h⟩
theorem ok_X2_finish (G : zv_G) {Q : zv_St → Prop} {x1 : Int32} {σ : zv_St} (h : B_X2_finish Q x1 σ) : zv_OK G M_X2_finish yX2_finish [.ref (G.2.2.1 34), .int x1] σ (zv_qv Q) := zv_ok G _ _ _ _ _ (by decide +kernel) rfl (Nat.le_of_ble_eq_true rfl) (fun X hC hR => zv_go (k_X2_finish_0 hC hR h) ⟨rfl, rfl, trivial⟩)
-- X10_next
def B_X10_next_18 (Q : Int32 → zv_St → Prop) (σ : zv_St) : Prop :=
  Q (-2) σ
set_option maxRecDepth 20000 in
set_option maxHeartbeats 2000000 in
theorem k_X10_next_18 {G : zv_G} {X : zv_X} {Q : Int32 → zv_St → Prop}  (hC : zv_C G X M_X10_next) (hR : zv_R G X M_X10_next (zv_qi Q))   {σ : zv_St} (h : B_X10_next_18 Q   σ) : zv_V G X M_X10_next 18 [] [] σ := by
  unfold B_X10_next_18 at h
  refine zv_bipush (v := (-2)) hC dX10_next_18 (by decide) ?_
  exact (hR _ _ _).1 _ rfl dX10_next_20 ⟨_, rfl, h⟩
def L_X10_next_54 (Q : Int32 → zv_St → Prop) : Nat → (Int32 → Int32 → Int32 → zv_St → Prop)
  | 0 => fun _ _ _ _ => False
  | u + 1 => fun x1 x3 x4 σ => 
    (512 ≤ x4 → (B_X2_finish (fun σ_1 => Q (-1) σ_1) x1 σ)) ∧ (¬ 512 ≤ x4 → (B_X4_matches (fun r_3 σ_2 => (r_3 = 0 → ((L_X10_next_54 Q u) x1 x3 (x4 + 1) σ_2)) ∧ (¬ r_3 = 0 → (B_X2_stopAt (fun σ_4 => Q x4 σ_4) x1 x4 σ_2))) x3 x4 σ))
set_option maxRecDepth 20000 in
set_option maxHeartbeats 2000000 in
theorem kL_X10_next_54 {G : zv_G} {X : zv_X} {Q : Int32 → zv_St → Prop}  (hC : zv_C G X M_X10_next) (hR : zv_R G X M_X10_next (zv_qi Q))  : ∀ (n : Nat) (x1 : Int32) (x3 : Int32) (x4 : Int32) (σ : zv_St), L_X10_next_54 Q  n x1 x3 x4 σ → zv_V G X M_X10_next 54 [(0, .ref (G.2.2.1 0)), (1, .int x1), (3, .int x3), (4, .int x4)] [] σ := by
  intro n
  induction n with
  | zero => intro x1 x3 x4 σ h; exact h.elim
  | succ n hk54 =>
    intro x1 x3 x4 σ h
    unfold L_X10_next_54 at h
    refine zv_iload hC dX10_next_54 rfl ?_
    refine zv_sipush (v := 512) hC dX10_next_56 (by decide) ?_
    refine zv_icmp_ge (tgt := 94) hC dX10_next_59 (by decide) (fun c => ?_) (fun c => ?_)
    · replace h := h.1 c
      refine zv_aload_n hC dX10_next_94 rfl ?_
      refine zv_getR (j := 34) hC fl_X10_60 dX10_next_95 rfl rfl ?_
      refine zv_iload_n hC dX10_next_98 rfl ?_
      refine zv_callVv (As := [_]) hC dX10_next_99 Y_X2_finish lk_X10_220 (by decide) rfl rfl rfl (Nat.le_of_ble_eq_true rfl) (ok_X2_finish G h) ?_
      intro σ_1 h
      refine zv_iconst (v := (-1)) hC dX10_next_102 (by decide) ?_
      exact (hR _ _ _).1 _ rfl dX10_next_103 ⟨_, rfl, h⟩
    · replace h := h.2 c
      refine zv_aload_n hC dX10_next_62 rfl ?_
      refine zv_getR (j := 27) hC fl_X10_46 dX10_next_63 rfl rfl ?_
      refine zv_iload_n hC dX10_next_66 rfl ?_
      refine zv_iload hC dX10_next_67 rfl ?_
      refine zv_callVi (As := [_, _]) hC dX10_next_69 Y_X4_matches lk_X10_168 (by decide) rfl rfl rfl (Nat.le_of_ble_eq_true rfl) (ok_X4_matches G h) ?_
      intro r_3 σ_2 h
      refine zv_if_eq (tgt := 88) hC dX10_next_72 (by decide) (fun c => ?_) (fun c => ?_)
      · replace h := h.1 c
        refine zv_iinc (v := 1) hC dX10_next_88 rfl (by decide) (by decide) ?_
        refine zv_goto (tgt := 54) hC dX10_next_91 (by decide) ?_
        exact zv_go (hk54 _ _ _ _ h) ⟨rfl, rfl, rfl, rfl, trivial⟩
      · replace h := h.2 c
        refine zv_aload_n hC dX10_next_75 rfl ?_
        refine zv_getR (j := 34) hC fl_X10_60 dX10_next_76 rfl rfl ?_
        refine zv_iload_n hC dX10_next_79 rfl ?_
        refine zv_iload hC dX10_next_80 rfl ?_
        refine zv_callVv (As := [_, _]) hC dX10_next_82 Y_X2_stopAt lk_X10_217 (by decide) rfl rfl rfl (Nat.le_of_ble_eq_true rfl) (ok_X2_stopAt G h) ?_
        intro σ_4 h
        refine zv_iload hC dX10_next_85 rfl ?_
        exact (hR _ _ _).1 _ rfl dX10_next_87 ⟨_, rfl, h⟩
def B_X10_next (Q : Int32 → zv_St → Prop) (x1 : Int32) (x2 : Int32) (σ : zv_St) : Prop :=
  B_X2_isOpen (fun r_2 σ_1 => (r_2 = 0 → (B_X10_next_18 Q σ_1)) ∧ (¬ r_2 = 0 → (B_X10_isObject (fun r_4 σ_3 => (¬ r_4 = 0 → (B_X2_nodeOf (fun r_6 σ_5 => B_X0_prepare (fun σ_7 => B_X2_standOf (fun r_9 σ_8 => B_J9_max_7cf53 (fun r_11 σ_10 => ∃ n54, L_X10_next_54 Q n54 x1 r_6 r_11 σ_10) x2 (r_9 + 1) σ_8) x1 σ_7) r_6 σ_5) x1 σ_3)) ∧ (r_4 = 0 → (B_X10_next_18 Q σ_3))) x2 σ_1))) x1 σ
set_option maxRecDepth 20000 in
set_option maxHeartbeats 2000000 in
theorem k_X10_next_0 {G : zv_G} {X : zv_X} {Q : Int32 → zv_St → Prop}  (hC : zv_C G X M_X10_next) (hR : zv_R G X M_X10_next (zv_qi Q))  {x1 : Int32} {x2 : Int32} {σ : zv_St} (h : B_X10_next Q  x1 x2 σ) : zv_V G X M_X10_next 0 [(0, .ref (G.2.2.1 0)), (1, .int x1), (2, .int x2)] [] σ := by
  unfold B_X10_next at h
  refine zv_aload_n hC dX10_next_0 rfl ?_
  refine zv_getR (j := 34) hC fl_X10_60 dX10_next_1 rfl rfl ?_
  refine zv_iload_n hC dX10_next_4 rfl ?_
  refine zv_callVi (As := [_]) hC dX10_next_5 Y_X2_isOpen lk_X10_203 (by decide) rfl rfl rfl (Nat.le_of_ble_eq_true rfl) (ok_X2_isOpen G h) ?_
  intro r_2 σ_1 h
  refine zv_if_eq (tgt := 18) hC dX10_next_8 (by decide) (fun c => ?_) (fun c => ?_)
  · replace h := h.1 c
    exact zv_go (k_X10_next_18 hC hR  h) trivial
  · replace h := h.2 c
    refine zv_iload_n hC dX10_next_11 rfl ?_
    refine zv_callSi (As := [_]) hC dX10_next_12 Y_X10_isObject lk_X10_77 (by decide) rfl rfl (Nat.le_of_ble_eq_true rfl) (ok_X10_isObject G h) ?_
    intro r_4 σ_3 h
    refine zv_if_ne (tgt := 21) hC dX10_next_15 (by decide) (fun c => ?_) (fun c => ?_)
    · replace h := h.1 c
      refine zv_aload_n hC dX10_next_21 rfl ?_
      refine zv_getR (j := 34) hC fl_X10_60 dX10_next_22 rfl rfl ?_
      refine zv_iload_n hC dX10_next_25 rfl ?_
      refine zv_callVi (As := [_]) hC dX10_next_26 Y_X2_nodeOf lk_X10_206 (by decide) rfl rfl rfl (Nat.le_of_ble_eq_true rfl) (ok_X2_nodeOf G h) ?_
      intro r_6 σ_5 h
      refine zv_istore_n hC dX10_next_29 (by decide) ?_
      refine zv_aload_n hC dX10_next_30 rfl ?_
      refine zv_getR (j := 19) hC fl_X10_37 dX10_next_31 rfl rfl ?_
      refine zv_iload_n hC dX10_next_34 rfl ?_
      refine zv_callVv (As := [_]) hC dX10_next_35 Y_X0_prepare lk_X10_143 (by decide) rfl rfl rfl (Nat.le_of_ble_eq_true rfl) (ok_X0_prepare G h) ?_
      intro σ_7 h
      refine zv_iload_n hC dX10_next_38 rfl ?_
      refine zv_aload_n hC dX10_next_39 rfl ?_
      refine zv_getR (j := 34) hC fl_X10_60 dX10_next_40 rfl rfl ?_
      refine zv_iload_n hC dX10_next_43 rfl ?_
      refine zv_callVi (As := [_]) hC dX10_next_44 Y_X2_standOf lk_X10_209 (by decide) rfl rfl rfl (Nat.le_of_ble_eq_true rfl) (ok_X2_standOf G h) ?_
      intro r_9 σ_8 h
      refine zv_iconst (v := 1) hC dX10_next_47 (by decide) ?_
      refine zv_iadd hC dX10_next_48 ?_
      refine zv_callSi (As := [_, _]) hC dX10_next_49 Y_J9_max_7cf53 lk_X10_212 (by decide) rfl rfl (Nat.le_of_ble_eq_true rfl) (ok_J9_max_7cf53 G h) ?_
      intro r_11 σ_10 h
      refine zv_istore hC dX10_next_52 (by decide) ?_
      obtain ⟨n, h⟩ := h
      exact zv_go (kL_X10_next_54 hC hR  n _ _ _ _ h) ⟨rfl, rfl, rfl, rfl, trivial⟩
    · replace h := h.2 c
      exact zv_go (k_X10_next_18 hC hR  h) trivial
theorem ok_X10_next (G : zv_G) {Q : Int32 → zv_St → Prop} {x1 : Int32} {x2 : Int32} {σ : zv_St} (h : B_X10_next Q x1 x2 σ) : zv_OK G M_X10_next yX10_next [.ref (G.2.2.1 0), .int x1, .int x2] σ (zv_qi Q) := zv_ok G _ _ _ _ _ (by decide +kernel) rfl (Nat.le_of_ble_eq_true rfl) (fun X hC hR => zv_go (k_X10_next_0 hC hR h) ⟨rfl, rfl, rfl, trivial⟩)
-- X2_end
def B_X2_end (Q : Int32 → zv_St → Prop) (x1 : Int32) (σ : zv_St) : Prop :=
  vp_in x1 8 ∧ ∀ σ_1 : zv_St, σ_1 = zv_wi σ 35 x1.toNatClampNeg (vp_nar .boolean 0) → vp_in x1 8 ∧ Q (σ_1.1 38 x1.toNatClampNeg) σ_1
set_option maxRecDepth 20000 in
set_option maxHeartbeats 2000000 in
theorem k_X2_end_0 {G : zv_G} {X : zv_X} {Q : Int32 → zv_St → Prop}  (hC : zv_C G X M_X2_end) (hR : zv_R G X M_X2_end (zv_qi Q))  {x1 : Int32} {σ : zv_St} (h : B_X2_end Q  x1 σ) : zv_V G X M_X2_end 0 [(0, .ref (G.2.2.1 34)), (1, .int x1)] [] σ := by
  unfold B_X2_end at h
  refine zv_aload_n hC dX2_end_0 rfl ?_
  refine zv_getR (j := 35) hC fl_X2_9 dX2_end_1 rfl rfl ?_
  refine zv_iload_n hC dX2_end_4 rfl ?_
  refine zv_iconst (v := 0) hC dX2_end_5 (by decide) ?_
  refine zv_zast hC dX2_end_6 rfl h.1 ?_
  replace h := h.2 _ rfl
  refine zv_aload_n hC dX2_end_7 rfl ?_
  refine zv_getR (j := 38) hC fl_X2_22 dX2_end_8 rfl rfl ?_
  refine zv_iload_n hC dX2_end_11 rfl ?_
  refine zv_iald hC dX2_end_12 rfl h.1 ?_
  replace h := h.2
  exact (hR _ _ _).1 _ rfl dX2_end_13 ⟨_, rfl, h⟩
theorem ok_X2_end (G : zv_G) {Q : Int32 → zv_St → Prop} {x1 : Int32} {σ : zv_St} (h : B_X2_end Q x1 σ) : zv_OK G M_X2_end yX2_end [.ref (G.2.2.1 34), .int x1] σ (zv_qi Q) := zv_ok G _ _ _ _ _ (by decide +kernel) rfl (Nat.le_of_ble_eq_true rfl) (fun X hC hR => zv_go (k_X2_end_0 hC hR h) ⟨rfl, rfl, trivial⟩)
-- X10_close
def B_X10_close (Q : Int32 → zv_St → Prop) (x1 : Int32) (σ : zv_St) : Prop :=
  B_X2_isOpen (fun r_2 σ_1 => (¬ r_2 = 0 → (B_X2_end (fun r_4 σ_3 => Q r_4 σ_3) x1 σ_1)) ∧ (r_2 = 0 → (Q (-2) σ_1))) x1 σ
set_option maxRecDepth 20000 in
set_option maxHeartbeats 2000000 in
theorem k_X10_close_0 {G : zv_G} {X : zv_X} {Q : Int32 → zv_St → Prop}  (hC : zv_C G X M_X10_close) (hR : zv_R G X M_X10_close (zv_qi Q))  {x1 : Int32} {σ : zv_St} (h : B_X10_close Q  x1 σ) : zv_V G X M_X10_close 0 [(0, .ref (G.2.2.1 0)), (1, .int x1)] [] σ := by
  unfold B_X10_close at h
  refine zv_aload_n hC dX10_close_0 rfl ?_
  refine zv_getR (j := 34) hC fl_X10_60 dX10_close_1 rfl rfl ?_
  refine zv_iload_n hC dX10_close_4 rfl ?_
  refine zv_callVi (As := [_]) hC dX10_close_5 Y_X2_isOpen lk_X10_203 (by decide) rfl rfl rfl (Nat.le_of_ble_eq_true rfl) (ok_X2_isOpen G h) ?_
  intro r_2 σ_1 h
  refine zv_if_ne (tgt := 14) hC dX10_close_8 (by decide) (fun c => ?_) (fun c => ?_)
  · replace h := h.1 c
    refine zv_aload_n hC dX10_close_14 rfl ?_
    refine zv_getR (j := 34) hC fl_X10_60 dX10_close_15 rfl rfl ?_
    refine zv_iload_n hC dX10_close_18 rfl ?_
    refine zv_callVi (As := [_]) hC dX10_close_19 Y_X2_end lk_X10_223 (by decide) rfl rfl rfl (Nat.le_of_ble_eq_true rfl) (ok_X2_end G h) ?_
    intro r_4 σ_3 h
    exact (hR _ _ _).1 _ rfl dX10_close_22 ⟨_, rfl, h⟩
  · replace h := h.2 c
    refine zv_bipush (v := (-2)) hC dX10_close_11 (by decide) ?_
    exact (hR _ _ _).1 _ rfl dX10_close_13 ⟨_, rfl, h⟩
theorem ok_X10_close (G : zv_G) {Q : Int32 → zv_St → Prop} {x1 : Int32} {σ : zv_St} (h : B_X10_close Q x1 σ) : zv_OK G M_X10_close yX10_close [.ref (G.2.2.1 0), .int x1] σ (zv_qi Q) := zv_ok G _ _ _ _ _ (by decide +kernel) rfl (Nat.le_of_ble_eq_true rfl) (fun X hC hR => zv_go (k_X10_close_0 hC hR h) ⟨rfl, rfl, trivial⟩)
-- X7_markUnder
def B_X7_markUnder_77 (Q : zv_St → Prop) (kk29 : Int32 → zv_St → Prop) (x2 : Int32) (σ : zv_St) : Prop :=
  kk29 (x2 + (-1)) σ
set_option maxRecDepth 20000 in
set_option maxHeartbeats 2000000 in
theorem k_X7_markUnder_77 {G : zv_G} {X : zv_X} {Q : zv_St → Prop} {kk29 : Int32 → zv_St → Prop} (hC : zv_C G X M_X7_markUnder) (hR : zv_R G X M_X7_markUnder (zv_qv Q)) (hk29 : ∀ (x2 : Int32) (σ : zv_St), kk29 x2 σ → zv_V G X M_X7_markUnder 29 [(0, .ref (G.2.2.1 39)), (2, .int x2)] [] σ) {x2 : Int32} {σ : zv_St} (h : B_X7_markUnder_77 Q kk29 x2 σ) : zv_V G X M_X7_markUnder 77 [(0, .ref (G.2.2.1 39)), (2, .int x2)] [] σ := by
  unfold B_X7_markUnder_77 at h
  refine zv_iinc (v := (-1)) hC dX7_markUnder_77 rfl (by decide) (by decide) ?_
  refine zv_goto (tgt := 29) hC dX7_markUnder_80 (by decide) ?_
  exact zv_go (hk29 _ _ h) ⟨rfl, rfl, trivial⟩
def L_X7_markUnder_35 (Q : zv_St → Prop) (kk29 : Int32 → zv_St → Prop) : Nat → (Int32 → Int32 → zv_St → Prop)
  | 0 => fun _ _ _ => False
  | u + 1 => fun x2 x3 σ => 
    vp_in x2 80 ∧ ((σ.1 40 x2.toNatClampNeg) = 0 → (B_X7_markUnder_77 Q kk29 x2 σ)) ∧ (¬ (σ.1 40 x2.toNatClampNeg) = 0 → (B_X5_size (fun r_2 σ_1 => (r_2 ≤ x3 → (B_X7_markUnder_77 Q kk29 x2 σ_1)) ∧ (¬ r_2 ≤ x3 → (B_X5_partAt (fun r_4 σ_3 => vp_in r_4 80 ∧ ∀ σ_5 : zv_St, σ_5 = zv_wi σ_3 40 r_4.toNatClampNeg (vp_nar .boolean 1) → (L_X7_markUnder_35 Q kk29 u) x2 (x3 + 1) σ_5) x2 x3 σ_1))) x2 σ))
set_option maxRecDepth 20000 in
set_option maxHeartbeats 2000000 in
theorem kL_X7_markUnder_35 {G : zv_G} {X : zv_X} {Q : zv_St → Prop} {kk29 : Int32 → zv_St → Prop} (hC : zv_C G X M_X7_markUnder) (hR : zv_R G X M_X7_markUnder (zv_qv Q)) (hk29 : ∀ (x2 : Int32) (σ : zv_St), kk29 x2 σ → zv_V G X M_X7_markUnder 29 [(0, .ref (G.2.2.1 39)), (2, .int x2)] [] σ) : ∀ (n : Nat) (x2 : Int32) (x3 : Int32) (σ : zv_St), L_X7_markUnder_35 Q kk29 n x2 x3 σ → zv_V G X M_X7_markUnder 35 [(0, .ref (G.2.2.1 39)), (2, .int x2), (3, .int x3)] [] σ := by
  intro n
  induction n with
  | zero => intro x2 x3 σ h; exact h.elim
  | succ n hk35 =>
    intro x2 x3 σ h
    unfold L_X7_markUnder_35 at h
    refine zv_aload_n hC dX7_markUnder_35 rfl ?_
    refine zv_getR (j := 40) hC fl_X7_9 dX7_markUnder_36 rfl rfl ?_
    refine zv_iload_n hC dX7_markUnder_39 rfl ?_
    refine zv_zald hC dX7_markUnder_40 rfl h.1 ?_
    replace h := h.2
    refine zv_if_eq (tgt := 77) hC dX7_markUnder_41 (by decide) (fun c => ?_) (fun c => ?_)
    · replace h := h.1 c
      exact zv_go (k_X7_markUnder_77 hC hR hk29 h) ⟨rfl, rfl, trivial⟩
    · replace h := h.2 c
      refine zv_iload_n hC dX7_markUnder_44 rfl ?_
      refine zv_aload_n hC dX7_markUnder_45 rfl ?_
      refine zv_getR (j := 5) hC fl_X7_30 dX7_markUnder_46 rfl rfl ?_
      refine zv_iload_n hC dX7_markUnder_49 rfl ?_
      refine zv_callVi (As := [_]) hC dX7_markUnder_50 Y_X5_size lk_X7_55 (by decide) rfl rfl rfl (Nat.le_of_ble_eq_true rfl) (ok_X5_size G h) ?_
      intro r_2 σ_1 h
      refine zv_icmp_ge (tgt := 77) hC dX7_markUnder_53 (by decide) (fun c => ?_) (fun c => ?_)
      · replace h := h.1 c
        exact zv_go (k_X7_markUnder_77 hC hR hk29 h) ⟨rfl, rfl, trivial⟩
      · replace h := h.2 c
        refine zv_aload_n hC dX7_markUnder_56 rfl ?_
        refine zv_getR (j := 40) hC fl_X7_9 dX7_markUnder_57 rfl rfl ?_
        refine zv_aload_n hC dX7_markUnder_60 rfl ?_
        refine zv_getR (j := 5) hC fl_X7_30 dX7_markUnder_61 rfl rfl ?_
        refine zv_iload_n hC dX7_markUnder_64 rfl ?_
        refine zv_iload_n hC dX7_markUnder_65 rfl ?_
        refine zv_callVi (As := [_, _]) hC dX7_markUnder_66 Y_X5_partAt lk_X7_58 (by decide) rfl rfl rfl (Nat.le_of_ble_eq_true rfl) (ok_X5_partAt G h) ?_
        intro r_4 σ_3 h
        refine zv_iconst (v := 1) hC dX7_markUnder_69 (by decide) ?_
        refine zv_zast hC dX7_markUnder_70 rfl h.1 ?_
        replace h := h.2 _ rfl
        refine zv_iinc (v := 1) hC dX7_markUnder_71 rfl (by decide) (by decide) ?_
        refine zv_goto (tgt := 35) hC dX7_markUnder_74 (by decide) ?_
        exact zv_go (hk35 _ _ _ h) ⟨rfl, rfl, rfl, trivial⟩
def L_X7_markUnder_29 (Q : zv_St → Prop) : Nat → (Int32 → zv_St → Prop)
  | 0 => fun _ _ => False
  | u + 1 => fun x2 σ => 
    (x2 ≤ 0 → (Q σ)) ∧ (¬ x2 ≤ 0 → (∃ n35, L_X7_markUnder_35 Q (L_X7_markUnder_29 Q u) n35 x2 0 σ))
set_option maxRecDepth 20000 in
set_option maxHeartbeats 2000000 in
theorem kL_X7_markUnder_29 {G : zv_G} {X : zv_X} {Q : zv_St → Prop}  (hC : zv_C G X M_X7_markUnder) (hR : zv_R G X M_X7_markUnder (zv_qv Q))  : ∀ (n : Nat) (x2 : Int32) (σ : zv_St), L_X7_markUnder_29 Q  n x2 σ → zv_V G X M_X7_markUnder 29 [(0, .ref (G.2.2.1 39)), (2, .int x2)] [] σ := by
  intro n
  induction n with
  | zero => intro x2 σ h; exact h.elim
  | succ n hk29 =>
    intro x2 σ h
    unfold L_X7_markUnder_29 at h
    refine zv_iload_n hC dX7_markUnder_29 rfl ?_
    refine zv_if_le (tgt := 83) hC dX7_markUnder_30 (by decide) (fun c => ?_) (fun c => ?_)
    · replace h := h.1 c
      exact (hR _ _ _).2.2.2.1 rfl dX7_markUnder_83 ⟨rfl, h⟩
    · replace h := h.2 c
      refine zv_iconst (v := 0) hC dX7_markUnder_33 (by decide) ?_
      refine zv_istore_n hC dX7_markUnder_34 (by decide) ?_
      obtain ⟨n, h⟩ := h
      exact zv_go (kL_X7_markUnder_35 hC hR hk29 n _ _ _ h) ⟨rfl, rfl, rfl, trivial⟩
def L_X7_markUnder_2 (Q : zv_St → Prop) : Nat → (Int32 → Int32 → zv_St → Prop)
  | 0 => fun _ _ _ => False
  | u + 1 => fun x1 x2 σ => 
    (x1 ≤ x2 → (vp_in x1 80 ∧ ∀ σ_1 : zv_St, σ_1 = zv_wi σ 40 x1.toNatClampNeg (vp_nar .boolean 1) → ∃ n29, L_X7_markUnder_29 Q n29 x1 σ_1)) ∧ (¬ x1 ≤ x2 → (vp_in x2 80 ∧ ∀ σ_2 : zv_St, σ_2 = zv_wi σ 40 x2.toNatClampNeg (vp_nar .boolean 0) → (L_X7_markUnder_2 Q u) x1 (x2 + 1) σ_2))
set_option maxRecDepth 20000 in
set_option maxHeartbeats 2000000 in
theorem kL_X7_markUnder_2 {G : zv_G} {X : zv_X} {Q : zv_St → Prop}  (hC : zv_C G X M_X7_markUnder) (hR : zv_R G X M_X7_markUnder (zv_qv Q))  : ∀ (n : Nat) (x1 : Int32) (x2 : Int32) (σ : zv_St), L_X7_markUnder_2 Q  n x1 x2 σ → zv_V G X M_X7_markUnder 2 [(0, .ref (G.2.2.1 39)), (1, .int x1), (2, .int x2)] [] σ := by
  intro n
  induction n with
  | zero => intro x1 x2 σ h; exact h.elim
  | succ n hk2 =>
    intro x1 x2 σ h
    unfold L_X7_markUnder_2 at h
    refine zv_iload_n hC dX7_markUnder_2 rfl ?_
    refine zv_iload_n hC dX7_markUnder_3 rfl ?_
    refine zv_icmp_ge (tgt := 20) hC dX7_markUnder_4 (by decide) (fun c => ?_) (fun c => ?_)
    · replace h := h.1 c
      refine zv_aload_n hC dX7_markUnder_20 rfl ?_
      refine zv_getR (j := 40) hC fl_X7_9 dX7_markUnder_21 rfl rfl ?_
      refine zv_iload_n hC dX7_markUnder_24 rfl ?_
      refine zv_iconst (v := 1) hC dX7_markUnder_25 (by decide) ?_
      refine zv_zast hC dX7_markUnder_26 rfl h.1 ?_
      replace h := h.2 _ rfl
      refine zv_iload_n hC dX7_markUnder_27 rfl ?_
      refine zv_istore_n hC dX7_markUnder_28 (by decide) ?_
      obtain ⟨n, h⟩ := h
      exact zv_go (kL_X7_markUnder_29 hC hR  n _ _ h) ⟨rfl, rfl, trivial⟩
    · replace h := h.2 c
      refine zv_aload_n hC dX7_markUnder_7 rfl ?_
      refine zv_getR (j := 40) hC fl_X7_9 dX7_markUnder_8 rfl rfl ?_
      refine zv_iload_n hC dX7_markUnder_11 rfl ?_
      refine zv_iconst (v := 0) hC dX7_markUnder_12 (by decide) ?_
      refine zv_zast hC dX7_markUnder_13 rfl h.1 ?_
      replace h := h.2 _ rfl
      refine zv_iinc (v := 1) hC dX7_markUnder_14 rfl (by decide) (by decide) ?_
      refine zv_goto (tgt := 2) hC dX7_markUnder_17 (by decide) ?_
      exact zv_go (hk2 _ _ _ h) ⟨rfl, rfl, rfl, trivial⟩
def B_X7_markUnder (Q : zv_St → Prop) (x1 : Int32) (σ : zv_St) : Prop :=
  ∃ n2, L_X7_markUnder_2 Q n2 x1 0 σ
set_option maxRecDepth 20000 in
set_option maxHeartbeats 2000000 in
theorem k_X7_markUnder_0 {G : zv_G} {X : zv_X} {Q : zv_St → Prop}  (hC : zv_C G X M_X7_markUnder) (hR : zv_R G X M_X7_markUnder (zv_qv Q))  {x1 : Int32} {σ : zv_St} (h : B_X7_markUnder Q  x1 σ) : zv_V G X M_X7_markUnder 0 [(0, .ref (G.2.2.1 39)), (1, .int x1)] [] σ := by
  unfold B_X7_markUnder at h
  refine zv_iconst (v := 0) hC dX7_markUnder_0 (by decide) ?_
  refine zv_istore_n hC dX7_markUnder_1 (by decide) ?_
  obtain ⟨n, h⟩ := h
  exact zv_go (kL_X7_markUnder_2 hC hR  n _ _ _ h) ⟨rfl, rfl, rfl, trivial⟩
theorem ok_X7_markUnder (G : zv_G) {Q : zv_St → Prop} {x1 : Int32} {σ : zv_St} (h : B_X7_markUnder Q x1 σ) : zv_OK G M_X7_markUnder yX7_markUnder [.ref (G.2.2.1 39), .int x1] σ (zv_qv Q) := zv_ok G _ _ _ _ _ (by decide +kernel) rfl (Nat.le_of_ble_eq_true rfl) (fun X hC hR => zv_go (k_X7_markUnder_0 hC hR h) ⟨rfl, rfl, trivial⟩)
-- X7_thatIsSo
def L_X7_thatIsSo_3 (Q : Int32 → zv_St → Prop) : Nat → (Int32 → Int32 → Int32 → Int32 → zv_St → Prop)
  | 0 => fun _ _ _ _ _ => False
  | u + 1 => fun x1 x2 x3 x4 σ => 
    B_X5_count (fun r_2 σ_1 => (r_2 ≤ x4 → (B_X5_make (fun r_4 σ_3 => Q r_4 σ_3) x1 x2 x3 σ_1)) ∧ (¬ r_2 ≤ x4 → (B_X5_hasNumbers (fun r_6 σ_5 => (r_6 = 0 → ((L_X7_thatIsSo_3 Q u) x1 x2 x3 (x4 + 1) σ_5)) ∧ (¬ r_6 = 0 → (Q x4 σ_5))) x4 x1 x2 x3 σ_1))) σ
set_option maxRecDepth 20000 in
set_option maxHeartbeats 2000000 in
theorem kL_X7_thatIsSo_3 {G : zv_G} {X : zv_X} {Q : Int32 → zv_St → Prop}  (hC : zv_C G X M_X7_thatIsSo) (hR : zv_R G X M_X7_thatIsSo (zv_qi Q))  : ∀ (n : Nat) (x1 : Int32) (x2 : Int32) (x3 : Int32) (x4 : Int32) (σ : zv_St), L_X7_thatIsSo_3 Q  n x1 x2 x3 x4 σ → zv_V G X M_X7_thatIsSo 3 [(0, .ref (G.2.2.1 39)), (1, .int x1), (2, .int x2), (3, .int x3), (4, .int x4)] [] σ := by
  intro n
  induction n with
  | zero => intro x1 x2 x3 x4 σ h; exact h.elim
  | succ n hk3 =>
    intro x1 x2 x3 x4 σ h
    unfold L_X7_thatIsSo_3 at h
    refine zv_iload hC dX7_thatIsSo_3 rfl ?_
    refine zv_aload_n hC dX7_thatIsSo_5 rfl ?_
    refine zv_getR (j := 5) hC fl_X7_30 dX7_thatIsSo_6 rfl rfl ?_
    refine zv_callVi (As := []) hC dX7_thatIsSo_9 Y_X5_count lk_X7_34 (by decide) rfl rfl rfl (Nat.le_of_ble_eq_true rfl) (ok_X5_count G h) ?_
    intro r_2 σ_1 h
    refine zv_icmp_ge (tgt := 39) hC dX7_thatIsSo_12 (by decide) (fun c => ?_) (fun c => ?_)
    · replace h := h.1 c
      refine zv_aload_n hC dX7_thatIsSo_39 rfl ?_
      refine zv_getR (j := 5) hC fl_X7_30 dX7_thatIsSo_40 rfl rfl ?_
      refine zv_iload_n hC dX7_thatIsSo_43 rfl ?_
      refine zv_iload_n hC dX7_thatIsSo_44 rfl ?_
      refine zv_iload_n hC dX7_thatIsSo_45 rfl ?_
      refine zv_callVi (As := [_, _, _]) hC dX7_thatIsSo_46 Y_X5_make lk_X7_140 (by decide) rfl rfl rfl (Nat.le_of_ble_eq_true rfl) (ok_X5_make G h) ?_
      intro r_4 σ_3 h
      exact (hR _ _ _).1 _ rfl dX7_thatIsSo_49 ⟨_, rfl, h⟩
    · replace h := h.2 c
      refine zv_aload_n hC dX7_thatIsSo_15 rfl ?_
      refine zv_getR (j := 5) hC fl_X7_30 dX7_thatIsSo_16 rfl rfl ?_
      refine zv_iload hC dX7_thatIsSo_19 rfl ?_
      refine zv_iload_n hC dX7_thatIsSo_21 rfl ?_
      refine zv_iload_n hC dX7_thatIsSo_22 rfl ?_
      refine zv_iload_n hC dX7_thatIsSo_23 rfl ?_
      refine zv_callVi (As := [_, _, _, _]) hC dX7_thatIsSo_24 Y_X5_hasNumbers lk_X7_136 (by decide) rfl rfl rfl (Nat.le_of_ble_eq_true rfl) (ok_X5_hasNumbers G h) ?_
      intro r_6 σ_5 h
      refine zv_if_eq (tgt := 33) hC dX7_thatIsSo_27 (by decide) (fun c => ?_) (fun c => ?_)
      · replace h := h.1 c
        refine zv_iinc (v := 1) hC dX7_thatIsSo_33 rfl (by decide) (by decide) ?_
        refine zv_goto (tgt := 3) hC dX7_thatIsSo_36 (by decide) ?_
        exact zv_go (hk3 _ _ _ _ _ h) ⟨rfl, rfl, rfl, rfl, rfl, trivial⟩
      · replace h := h.2 c
        refine zv_iload hC dX7_thatIsSo_30 rfl ?_
        exact (hR _ _ _).1 _ rfl dX7_thatIsSo_32 ⟨_, rfl, h⟩
def B_X7_thatIsSo (Q : Int32 → zv_St → Prop) (x1 : Int32) (x2 : Int32) (x3 : Int32) (σ : zv_St) : Prop :=
  ∃ n3, L_X7_thatIsSo_3 Q n3 x1 x2 x3 0 σ
set_option maxRecDepth 20000 in
set_option maxHeartbeats 2000000 in
theorem k_X7_thatIsSo_0 {G : zv_G} {X : zv_X} {Q : Int32 → zv_St → Prop}  (hC : zv_C G X M_X7_thatIsSo) (hR : zv_R G X M_X7_thatIsSo (zv_qi Q))  {x1 : Int32} {x2 : Int32} {x3 : Int32} {σ : zv_St} (h : B_X7_thatIsSo Q  x1 x2 x3 σ) : zv_V G X M_X7_thatIsSo 0 [(0, .ref (G.2.2.1 39)), (1, .int x1), (2, .int x2), (3, .int x3)] [] σ := by
  unfold B_X7_thatIsSo at h
  refine zv_iconst (v := 0) hC dX7_thatIsSo_0 (by decide) ?_
  refine zv_istore hC dX7_thatIsSo_1 (by decide) ?_
  obtain ⟨n, h⟩ := h
  exact zv_go (kL_X7_thatIsSo_3 hC hR  n _ _ _ _ _ h) ⟨rfl, rfl, rfl, rfl, rfl, trivial⟩
theorem ok_X7_thatIsSo (G : zv_G) {Q : Int32 → zv_St → Prop} {x1 : Int32} {x2 : Int32} {x3 : Int32} {σ : zv_St} (h : B_X7_thatIsSo Q x1 x2 x3 σ) : zv_OK G M_X7_thatIsSo yX7_thatIsSo [.ref (G.2.2.1 39), .int x1, .int x2, .int x3] σ (zv_qi Q) := zv_ok G _ _ _ _ _ (by decide +kernel) rfl (Nat.le_of_ble_eq_true rfl) (fun X hC hR => zv_go (k_X7_thatIsSo_0 hC hR h) ⟨rfl, rfl, rfl, rfl, trivial⟩)
-- X7_newOfOne
def B_X7_newOfOne_30 (Q : Int32 → zv_St → Prop) (x2 : Int32) (σ : zv_St) : Prop :=
  Q x2 σ
set_option maxRecDepth 20000 in
set_option maxHeartbeats 2000000 in
theorem k_X7_newOfOne_30 {G : zv_G} {X : zv_X} {Q : Int32 → zv_St → Prop}  (hC : zv_C G X M_X7_newOfOne) (hR : zv_R G X M_X7_newOfOne (zv_qi Q))  {x2 : Int32} {σ : zv_St} (h : B_X7_newOfOne_30 Q  x2 σ) : zv_V G X M_X7_newOfOne 30 [(2, .int x2)] [] σ := by
  unfold B_X7_newOfOne_30 at h
  refine zv_iload_n hC dX7_newOfOne_30 rfl ?_
  exact (hR _ _ _).1 _ rfl dX7_newOfOne_31 ⟨_, rfl, h⟩
def B_X7_newOfOne_59 (Q : Int32 → zv_St → Prop) (x1 : Int32) (x2 : Int32) (x3 : Int32) (σ : zv_St) : Prop :=
  B_X7_thatIsSo (fun r_2 σ_1 => Q r_2 σ_1) x1 x2 x3 σ
set_option maxRecDepth 20000 in
set_option maxHeartbeats 2000000 in
theorem k_X7_newOfOne_59 {G : zv_G} {X : zv_X} {Q : Int32 → zv_St → Prop}  (hC : zv_C G X M_X7_newOfOne) (hR : zv_R G X M_X7_newOfOne (zv_qi Q))  {x1 : Int32} {x2 : Int32} {x3 : Int32} {σ : zv_St} (h : B_X7_newOfOne_59 Q  x1 x2 x3 σ) : zv_V G X M_X7_newOfOne 59 [(0, .ref (G.2.2.1 39)), (1, .int x1), (2, .int x2), (3, .int x3)] [] σ := by
  unfold B_X7_newOfOne_59 at h
  refine zv_aload_n hC dX7_newOfOne_59 rfl ?_
  refine zv_iload_n hC dX7_newOfOne_60 rfl ?_
  refine zv_iload_n hC dX7_newOfOne_61 rfl ?_
  refine zv_iload_n hC dX7_newOfOne_62 rfl ?_
  refine zv_callVi (As := [_, _, _]) hC dX7_newOfOne_63 Y_X7_thatIsSo lk_X7_48 (by decide) rfl rfl rfl (Nat.le_of_ble_eq_true rfl) (ok_X7_thatIsSo G h) ?_
  intro r_2 σ_1 h
  exact (hR _ _ _).1 _ rfl dX7_newOfOne_66 ⟨_, rfl, h⟩
def B_X7_newOfOne_32 (Q : Int32 → zv_St → Prop) (x1 : Int32) (x2 : Int32) (x3 : Int32) (x4 : Int32) (σ : zv_St) : Prop :=
  (¬ x4 = 4 → (B_X7_newOfOne_59 Q x1 x2 x3 σ)) ∧ (x4 = 4 → ((x1 = 5 → (B_X7_newOfOne_59 Q x1 x2 x3 σ)) ∧ (¬ x1 = 5 → (B_X5_partAt (fun r_2 σ_1 => B_X7_thatIsSo (fun r_4 σ_3 => Q r_4 σ_3) x1 r_2 x3 σ_1) x2 0 σ))))
set_option maxRecDepth 20000 in
set_option maxHeartbeats 2000000 in
theorem k_X7_newOfOne_32 {G : zv_G} {X : zv_X} {Q : Int32 → zv_St → Prop}  (hC : zv_C G X M_X7_newOfOne) (hR : zv_R G X M_X7_newOfOne (zv_qi Q))  {x1 : Int32} {x2 : Int32} {x3 : Int32} {x4 : Int32} {σ : zv_St} (h : B_X7_newOfOne_32 Q  x1 x2 x3 x4 σ) : zv_V G X M_X7_newOfOne 32 [(0, .ref (G.2.2.1 39)), (1, .int x1), (2, .int x2), (3, .int x3), (4, .int x4)] [] σ := by
  unfold B_X7_newOfOne_32 at h
  refine zv_iload hC dX7_newOfOne_32 rfl ?_
  refine zv_iconst (v := 4) hC dX7_newOfOne_34 (by decide) ?_
  refine zv_icmp_ne (tgt := 59) hC dX7_newOfOne_35 (by decide) (fun c => ?_) (fun c => ?_)
  · replace h := h.1 c
    exact zv_go (k_X7_newOfOne_59 hC hR  h) ⟨rfl, rfl, rfl, rfl, trivial⟩
  · replace h := h.2 c
    refine zv_iload_n hC dX7_newOfOne_38 rfl ?_
    refine zv_iconst (v := 5) hC dX7_newOfOne_39 (by decide) ?_
    refine zv_icmp_eq (tgt := 59) hC dX7_newOfOne_40 (by decide) (fun c => ?_) (fun c => ?_)
    · replace h := h.1 c
      exact zv_go (k_X7_newOfOne_59 hC hR  h) ⟨rfl, rfl, rfl, rfl, trivial⟩
    · replace h := h.2 c
      refine zv_aload_n hC dX7_newOfOne_43 rfl ?_
      refine zv_iload_n hC dX7_newOfOne_44 rfl ?_
      refine zv_aload_n hC dX7_newOfOne_45 rfl ?_
      refine zv_getR (j := 5) hC fl_X7_30 dX7_newOfOne_46 rfl rfl ?_
      refine zv_iload_n hC dX7_newOfOne_49 rfl ?_
      refine zv_iconst (v := 0) hC dX7_newOfOne_50 (by decide) ?_
      refine zv_callVi (As := [_, _]) hC dX7_newOfOne_51 Y_X5_partAt lk_X7_58 (by decide) rfl rfl rfl (Nat.le_of_ble_eq_true rfl) (ok_X5_partAt G h) ?_
      intro r_2 σ_1 h
      refine zv_iload_n hC dX7_newOfOne_54 rfl ?_
      refine zv_callVi (As := [_, _, _]) hC dX7_newOfOne_55 Y_X7_thatIsSo lk_X7_48 (by decide) rfl rfl rfl (Nat.le_of_ble_eq_true rfl) (ok_X7_thatIsSo G h) ?_
      intro r_4 σ_3 h
      exact (hR _ _ _).1 _ rfl dX7_newOfOne_58 ⟨_, rfl, h⟩
def B_X7_newOfOne (Q : Int32 → zv_St → Prop) (x1 : Int32) (x2 : Int32) (x3 : Int32) (σ : zv_St) : Prop :=
  B_X5_kind (fun r_2 σ_1 => (r_2 = 7 → (B_X7_newOfOne_30 Q x2 σ_1)) ∧ (¬ r_2 = 7 → ((¬ x1 = 6 → (B_X7_newOfOne_32 Q x1 x2 x3 r_2 σ_1)) ∧ (x1 = 6 → ((¬ r_2 = 6 → (B_X7_newOfOne_32 Q x1 x2 x3 r_2 σ_1)) ∧ (r_2 = 6 → (B_X7_newOfOne_30 Q x2 σ_1))))))) x2 σ
set_option maxRecDepth 20000 in
set_option maxHeartbeats 2000000 in
theorem k_X7_newOfOne_0 {G : zv_G} {X : zv_X} {Q : Int32 → zv_St → Prop}  (hC : zv_C G X M_X7_newOfOne) (hR : zv_R G X M_X7_newOfOne (zv_qi Q))  {x1 : Int32} {x2 : Int32} {x3 : Int32} {σ : zv_St} (h : B_X7_newOfOne Q  x1 x2 x3 σ) : zv_V G X M_X7_newOfOne 0 [(0, .ref (G.2.2.1 39)), (1, .int x1), (2, .int x2), (3, .int x3)] [] σ := by
  unfold B_X7_newOfOne at h
  refine zv_aload_n hC dX7_newOfOne_0 rfl ?_
  refine zv_getR (j := 5) hC fl_X7_30 dX7_newOfOne_1 rfl rfl ?_
  refine zv_iload_n hC dX7_newOfOne_4 rfl ?_
  refine zv_callVi (As := [_]) hC dX7_newOfOne_5 Y_X5_kind lk_X7_62 (by decide) rfl rfl rfl (Nat.le_of_ble_eq_true rfl) (ok_X5_kind G h) ?_
  intro r_2 σ_1 h
  refine zv_istore hC dX7_newOfOne_8 (by decide) ?_
  refine zv_iload hC dX7_newOfOne_10 rfl ?_
  refine zv_bipush (v := 7) hC dX7_newOfOne_12 (by decide) ?_
  refine zv_icmp_eq (tgt := 30) hC dX7_newOfOne_14 (by decide) (fun c => ?_) (fun c => ?_)
  · replace h := h.1 c
    exact zv_go (k_X7_newOfOne_30 hC hR  h) ⟨rfl, trivial⟩
  · replace h := h.2 c
    refine zv_iload_n hC dX7_newOfOne_17 rfl ?_
    refine zv_bipush (v := 6) hC dX7_newOfOne_18 (by decide) ?_
    refine zv_icmp_ne (tgt := 32) hC dX7_newOfOne_20 (by decide) (fun c => ?_) (fun c => ?_)
    · replace h := h.1 c
      exact zv_go (k_X7_newOfOne_32 hC hR  h) ⟨rfl, rfl, rfl, rfl, rfl, trivial⟩
    · replace h := h.2 c
      refine zv_iload hC dX7_newOfOne_23 rfl ?_
      refine zv_bipush (v := 6) hC dX7_newOfOne_25 (by decide) ?_
      refine zv_icmp_ne (tgt := 32) hC dX7_newOfOne_27 (by decide) (fun c => ?_) (fun c => ?_)
      · replace h := h.1 c
        exact zv_go (k_X7_newOfOne_32 hC hR  h) ⟨rfl, rfl, rfl, rfl, rfl, trivial⟩
      · replace h := h.2 c
        exact zv_go (k_X7_newOfOne_30 hC hR  h) ⟨rfl, trivial⟩
theorem ok_X7_newOfOne (G : zv_G) {Q : Int32 → zv_St → Prop} {x1 : Int32} {x2 : Int32} {x3 : Int32} {σ : zv_St} (h : B_X7_newOfOne Q x1 x2 x3 σ) : zv_OK G M_X7_newOfOne yX7_newOfOne [.ref (G.2.2.1 39), .int x1, .int x2, .int x3] σ (zv_qi Q) := zv_ok G _ _ _ _ _ (by decide +kernel) rfl (Nat.le_of_ble_eq_true rfl) (fun X hC hR => zv_go (k_X7_newOfOne_0 hC hR h) ⟨rfl, rfl, rfl, rfl, trivial⟩)
-- X6_clear
def B_X6_clear (Q : zv_St → Prop) (σ : zv_St) : Prop :=
  ∀ σ_1 : zv_St, σ_1 = zv_wi σ 42 2 0 → Q σ_1
set_option maxRecDepth 20000 in
set_option maxHeartbeats 2000000 in
theorem k_X6_clear_0 {G : zv_G} {X : zv_X} {Q : zv_St → Prop}  (hC : zv_C G X M_X6_clear) (hR : zv_R G X M_X6_clear (zv_qv Q))   {σ : zv_St} (h : B_X6_clear Q   σ) : zv_V G X M_X6_clear 0 [(0, .ref (G.2.2.1 42))] [] σ := by
  unfold B_X6_clear at h
  refine zv_aload_n hC dX6_clear_0 rfl ?_
  refine zv_iconst (v := 0) hC dX6_clear_1 (by decide) ?_
  refine zv_putI hC fp_X6_18 dX6_clear_2 rfl rfl rfl rfl ?_
  replace h := h _ rfl
  exact (hR _ _ _).2.2.2.1 rfl dX6_clear_5 ⟨rfl, h⟩
theorem ok_X6_clear (G : zv_G) {Q : zv_St → Prop}  {σ : zv_St} (h : B_X6_clear Q  σ) : zv_OK G M_X6_clear yX6_clear [.ref (G.2.2.1 42)] σ (zv_qv Q) := zv_ok G _ _ _ _ _ (by decide +kernel) rfl (Nat.le_of_ble_eq_true rfl) (fun X hC hR => zv_go (k_X6_clear_0 hC hR h) ⟨rfl, trivial⟩)
-- X6_add
def B_X6_add_39 (Q : zv_St → Prop) (σ : zv_St) : Prop :=
  Q σ
set_option maxRecDepth 20000 in
set_option maxHeartbeats 2000000 in
theorem k_X6_add_39 {G : zv_G} {X : zv_X} {Q : zv_St → Prop}  (hC : zv_C G X M_X6_add) (hR : zv_R G X M_X6_add (zv_qv Q))   {σ : zv_St} (h : B_X6_add_39 Q   σ) : zv_V G X M_X6_add 39 [] [] σ := by
  unfold B_X6_add_39 at h
  exact (hR _ _ _).2.2.2.1 rfl dX6_add_39 ⟨rfl, h⟩
def B_X6_add (Q : zv_St → Prop) (x1 : Int32) (x2 : Int32) (σ : zv_St) : Prop :=
  (8 ≤ (σ.1 42 2) → (B_X6_add_39 Q σ)) ∧ (¬ 8 ≤ (σ.1 42 2) → (vp_in (σ.1 42 2) 8 ∧ ∀ σ_1 : zv_St, σ_1 = zv_wi σ 43 (σ.1 42 2).toNatClampNeg x1 → vp_in (σ_1.1 42 2) 8 ∧ ∀ σ_2 : zv_St, σ_2 = zv_wi σ_1 44 (σ_1.1 42 2).toNatClampNeg x2 → ∀ σ_3 : zv_St, σ_3 = zv_wi σ_2 42 2 ((σ_2.1 42 2) + 1) → B_X6_add_39 Q σ_3))
set_option maxRecDepth 20000 in
set_option maxHeartbeats 2000000 in
theorem k_X6_add_0 {G : zv_G} {X : zv_X} {Q : zv_St → Prop}  (hC : zv_C G X M_X6_add) (hR : zv_R G X M_X6_add (zv_qv Q))  {x1 : Int32} {x2 : Int32} {σ : zv_St} (h : B_X6_add Q  x1 x2 σ) : zv_V G X M_X6_add 0 [(0, .ref (G.2.2.1 42)), (1, .int x1), (2, .int x2)] [] σ := by
  unfold B_X6_add at h
  refine zv_aload_n hC dX6_add_0 rfl ?_
  refine zv_getI hC fl_X6_18 dX6_add_1 rfl rfl ?_
  refine zv_bipush (v := 8) hC dX6_add_4 (by decide) ?_
  refine zv_icmp_ge (tgt := 39) hC dX6_add_6 (by decide) (fun c => ?_) (fun c => ?_)
  · replace h := h.1 c
    exact zv_go (k_X6_add_39 hC hR  h) trivial
  · replace h := h.2 c
    refine zv_aload_n hC dX6_add_9 rfl ?_
    refine zv_getR (j := 43) hC fl_X6_9 dX6_add_10 rfl rfl ?_
    refine zv_aload_n hC dX6_add_13 rfl ?_
    refine zv_getI hC fl_X6_18 dX6_add_14 rfl rfl ?_
    refine zv_iload_n hC dX6_add_17 rfl ?_
    refine zv_iast hC dX6_add_18 rfl h.1 ?_
    replace h := h.2 _ rfl
    refine zv_aload_n hC dX6_add_19 rfl ?_
    refine zv_getR (j := 44) hC fl_X6_15 dX6_add_20 rfl rfl ?_
    refine zv_aload_n hC dX6_add_23 rfl ?_
    refine zv_getI hC fl_X6_18 dX6_add_24 rfl rfl ?_
    refine zv_iload_n hC dX6_add_27 rfl ?_
    refine zv_iast hC dX6_add_28 rfl h.1 ?_
    replace h := h.2 _ rfl
    refine zv_aload_n hC dX6_add_29 rfl ?_
    refine zv_dup hC dX6_add_30 rfl ?_
    refine zv_getI hC fl_X6_18 dX6_add_31 rfl rfl ?_
    refine zv_iconst (v := 1) hC dX6_add_34 (by decide) ?_
    refine zv_iadd hC dX6_add_35 ?_
    refine zv_putI hC fp_X6_18 dX6_add_36 rfl rfl rfl rfl ?_
    replace h := h _ rfl
    exact zv_go (k_X6_add_39 hC hR  h) trivial
theorem ok_X6_add (G : zv_G) {Q : zv_St → Prop} {x1 : Int32} {x2 : Int32} {σ : zv_St} (h : B_X6_add Q x1 x2 σ) : zv_OK G M_X6_add yX6_add [.ref (G.2.2.1 42), .int x1, .int x2] σ (zv_qv Q) := zv_ok G _ _ _ _ _ (by decide +kernel) rfl (Nat.le_of_ble_eq_true rfl) (fun X hC hR => zv_go (k_X6_add_0 hC hR h) ⟨rfl, rfl, rfl, trivial⟩)
-- X6_size
def B_X6_size (Q : Int32 → zv_St → Prop) (σ : zv_St) : Prop :=
  Q (σ.1 42 2) σ
set_option maxRecDepth 20000 in
set_option maxHeartbeats 2000000 in
theorem k_X6_size_0 {G : zv_G} {X : zv_X} {Q : Int32 → zv_St → Prop}  (hC : zv_C G X M_X6_size) (hR : zv_R G X M_X6_size (zv_qi Q))   {σ : zv_St} (h : B_X6_size Q   σ) : zv_V G X M_X6_size 0 [(0, .ref (G.2.2.1 42))] [] σ := by
  unfold B_X6_size at h
  refine zv_aload_n hC dX6_size_0 rfl ?_
  refine zv_getI hC fl_X6_18 dX6_size_1 rfl rfl ?_
  exact (hR _ _ _).1 _ rfl dX6_size_4 ⟨_, rfl, h⟩
theorem ok_X6_size (G : zv_G) {Q : Int32 → zv_St → Prop}  {σ : zv_St} (h : B_X6_size Q  σ) : zv_OK G M_X6_size yX6_size [.ref (G.2.2.1 42)] σ (zv_qi Q) := zv_ok G _ _ _ _ _ (by decide +kernel) rfl (Nat.le_of_ble_eq_true rfl) (fun X hC hR => zv_go (k_X6_size_0 hC hR h) ⟨rfl, trivial⟩)
-- X6_partAt
def B_X6_partAt (Q : Int32 → zv_St → Prop) (x1 : Int32) (σ : zv_St) : Prop :=
  vp_in x1 8 ∧ Q (σ.1 44 x1.toNatClampNeg) σ
set_option maxRecDepth 20000 in
set_option maxHeartbeats 2000000 in
theorem k_X6_partAt_0 {G : zv_G} {X : zv_X} {Q : Int32 → zv_St → Prop}  (hC : zv_C G X M_X6_partAt) (hR : zv_R G X M_X6_partAt (zv_qi Q))  {x1 : Int32} {σ : zv_St} (h : B_X6_partAt Q  x1 σ) : zv_V G X M_X6_partAt 0 [(0, .ref (G.2.2.1 42)), (1, .int x1)] [] σ := by
  unfold B_X6_partAt at h
  refine zv_aload_n hC dX6_partAt_0 rfl ?_
  refine zv_getR (j := 44) hC fl_X6_15 dX6_partAt_1 rfl rfl ?_
  refine zv_iload_n hC dX6_partAt_4 rfl ?_
  refine zv_iald hC dX6_partAt_5 rfl h.1 ?_
  replace h := h.2
  exact (hR _ _ _).1 _ rfl dX6_partAt_6 ⟨_, rfl, h⟩
theorem ok_X6_partAt (G : zv_G) {Q : Int32 → zv_St → Prop} {x1 : Int32} {σ : zv_St} (h : B_X6_partAt Q x1 σ) : zv_OK G M_X6_partAt yX6_partAt [.ref (G.2.2.1 42), .int x1] σ (zv_qi Q) := zv_ok G _ _ _ _ _ (by decide +kernel) rfl (Nat.le_of_ble_eq_true rfl) (fun X hC hR => zv_go (k_X6_partAt_0 hC hR h) ⟨rfl, rfl, trivial⟩)
-- X6_roleAt
def B_X6_roleAt (Q : Int32 → zv_St → Prop) (x1 : Int32) (σ : zv_St) : Prop :=
  vp_in x1 8 ∧ Q (σ.1 43 x1.toNatClampNeg) σ
set_option maxRecDepth 20000 in
set_option maxHeartbeats 2000000 in
theorem k_X6_roleAt_0 {G : zv_G} {X : zv_X} {Q : Int32 → zv_St → Prop}  (hC : zv_C G X M_X6_roleAt) (hR : zv_R G X M_X6_roleAt (zv_qi Q))  {x1 : Int32} {σ : zv_St} (h : B_X6_roleAt Q  x1 σ) : zv_V G X M_X6_roleAt 0 [(0, .ref (G.2.2.1 42)), (1, .int x1)] [] σ := by
  unfold B_X6_roleAt at h
  refine zv_aload_n hC dX6_roleAt_0 rfl ?_
  refine zv_getR (j := 43) hC fl_X6_9 dX6_roleAt_1 rfl rfl ?_
  refine zv_iload_n hC dX6_roleAt_4 rfl ?_
  refine zv_iald hC dX6_roleAt_5 rfl h.1 ?_
  replace h := h.2
  exact (hR _ _ _).1 _ rfl dX6_roleAt_6 ⟨_, rfl, h⟩
theorem ok_X6_roleAt (G : zv_G) {Q : Int32 → zv_St → Prop} {x1 : Int32} {σ : zv_St} (h : B_X6_roleAt Q x1 σ) : zv_OK G M_X6_roleAt yX6_roleAt [.ref (G.2.2.1 42), .int x1] σ (zv_qi Q) := zv_ok G _ _ _ _ _ (by decide +kernel) rfl (Nat.le_of_ble_eq_true rfl) (fun X hC hR => zv_go (k_X6_roleAt_0 hC hR h) ⟨rfl, rfl, trivial⟩)
-- X7_hasPartsOfRow
def B_X7_hasPartsOfRow_73 (Q : Int32 → zv_St → Prop) (σ : zv_St) : Prop :=
  Q 0 σ
set_option maxRecDepth 20000 in
set_option maxHeartbeats 2000000 in
theorem k_X7_hasPartsOfRow_73 {G : zv_G} {X : zv_X} {Q : Int32 → zv_St → Prop}  (hC : zv_C G X M_X7_hasPartsOfRow) (hR : zv_R G X M_X7_hasPartsOfRow (zv_qi Q))   {σ : zv_St} (h : B_X7_hasPartsOfRow_73 Q   σ) : zv_V G X M_X7_hasPartsOfRow 73 [] [] σ := by
  unfold B_X7_hasPartsOfRow_73 at h
  refine zv_iconst (v := 0) hC dX7_hasPartsOfRow_73 (by decide) ?_
  exact (hR _ _ _).2.1 _ rfl rfl dX7_hasPartsOfRow_74 ⟨_, rfl, h⟩
def L_X7_hasPartsOfRow_22 (Q : Int32 → zv_St → Prop) : Nat → (Int32 → Int32 → zv_St → Prop)
  | 0 => fun _ _ _ => False
  | u + 1 => fun x1 x2 σ => 
    B_X6_size (fun r_2 σ_1 => (r_2 ≤ x2 → (Q 1 σ_1)) ∧ (¬ r_2 ≤ x2 → (B_X5_roleAt (fun r_4 σ_3 => B_X6_roleAt (fun r_6 σ_5 => (¬ r_4 = r_6 → (B_X7_hasPartsOfRow_73 Q σ_5)) ∧ (r_4 = r_6 → (B_X5_partAt (fun r_8 σ_7 => B_X6_partAt (fun r_10 σ_9 => (r_8 = r_10 → ((L_X7_hasPartsOfRow_22 Q u) x1 (x2 + 1) σ_9)) ∧ (¬ r_8 = r_10 → (B_X7_hasPartsOfRow_73 Q σ_9))) x2 σ_7) x1 x2 σ_5))) x2 σ_3) x1 x2 σ_1))) σ
set_option maxRecDepth 20000 in
set_option maxHeartbeats 2000000 in
theorem kL_X7_hasPartsOfRow_22 {G : zv_G} {X : zv_X} {Q : Int32 → zv_St → Prop}  (hC : zv_C G X M_X7_hasPartsOfRow) (hR : zv_R G X M_X7_hasPartsOfRow (zv_qi Q))  : ∀ (n : Nat) (x1 : Int32) (x2 : Int32) (σ : zv_St), L_X7_hasPartsOfRow_22 Q  n x1 x2 σ → zv_V G X M_X7_hasPartsOfRow 22 [(0, .ref (G.2.2.1 39)), (1, .int x1), (2, .int x2)] [] σ := by
  intro n
  induction n with
  | zero => intro x1 x2 σ h; exact h.elim
  | succ n hk22 =>
    intro x1 x2 σ h
    unfold L_X7_hasPartsOfRow_22 at h
    refine zv_iload_n hC dX7_hasPartsOfRow_22 rfl ?_
    refine zv_aload_n hC dX7_hasPartsOfRow_23 rfl ?_
    refine zv_getR (j := 42) hC fl_X7_22 dX7_hasPartsOfRow_24 rfl rfl ?_
    refine zv_callVi (As := []) hC dX7_hasPartsOfRow_27 Y_X6_size lk_X7_94 (by decide) rfl rfl rfl (Nat.le_of_ble_eq_true rfl) (ok_X6_size G h) ?_
    intro r_2 σ_1 h
    refine zv_icmp_ge (tgt := 81) hC dX7_hasPartsOfRow_30 (by decide) (fun c => ?_) (fun c => ?_)
    · replace h := h.1 c
      refine zv_iconst (v := 1) hC dX7_hasPartsOfRow_81 (by decide) ?_
      exact (hR _ _ _).2.1 _ rfl rfl dX7_hasPartsOfRow_82 ⟨_, rfl, h⟩
    · replace h := h.2 c
      refine zv_aload_n hC dX7_hasPartsOfRow_33 rfl ?_
      refine zv_getR (j := 5) hC fl_X7_30 dX7_hasPartsOfRow_34 rfl rfl ?_
      refine zv_iload_n hC dX7_hasPartsOfRow_37 rfl ?_
      refine zv_iload_n hC dX7_hasPartsOfRow_38 rfl ?_
      refine zv_callVi (As := [_, _]) hC dX7_hasPartsOfRow_39 Y_X5_roleAt lk_X7_101 (by decide) rfl rfl rfl (Nat.le_of_ble_eq_true rfl) (ok_X5_roleAt G h) ?_
      intro r_4 σ_3 h
      refine zv_aload_n hC dX7_hasPartsOfRow_42 rfl ?_
      refine zv_getR (j := 42) hC fl_X7_22 dX7_hasPartsOfRow_43 rfl rfl ?_
      refine zv_iload_n hC dX7_hasPartsOfRow_46 rfl ?_
      refine zv_callVi (As := [_]) hC dX7_hasPartsOfRow_47 Y_X6_roleAt lk_X7_134 (by decide) rfl rfl rfl (Nat.le_of_ble_eq_true rfl) (ok_X6_roleAt G h) ?_
      intro r_6 σ_5 h
      refine zv_icmp_ne (tgt := 73) hC dX7_hasPartsOfRow_50 (by decide) (fun c => ?_) (fun c => ?_)
      · replace h := h.1 c
        exact zv_go (k_X7_hasPartsOfRow_73 hC hR  h) trivial
      · replace h := h.2 c
        refine zv_aload_n hC dX7_hasPartsOfRow_53 rfl ?_
        refine zv_getR (j := 5) hC fl_X7_30 dX7_hasPartsOfRow_54 rfl rfl ?_
        refine zv_iload_n hC dX7_hasPartsOfRow_57 rfl ?_
        refine zv_iload_n hC dX7_hasPartsOfRow_58 rfl ?_
        refine zv_callVi (As := [_, _]) hC dX7_hasPartsOfRow_59 Y_X5_partAt lk_X7_58 (by decide) rfl rfl rfl (Nat.le_of_ble_eq_true rfl) (ok_X5_partAt G h) ?_
        intro r_8 σ_7 h
        refine zv_aload_n hC dX7_hasPartsOfRow_62 rfl ?_
        refine zv_getR (j := 42) hC fl_X7_22 dX7_hasPartsOfRow_63 rfl rfl ?_
        refine zv_iload_n hC dX7_hasPartsOfRow_66 rfl ?_
        refine zv_callVi (As := [_]) hC dX7_hasPartsOfRow_67 Y_X6_partAt lk_X7_96 (by decide) rfl rfl rfl (Nat.le_of_ble_eq_true rfl) (ok_X6_partAt G h) ?_
        intro r_10 σ_9 h
        refine zv_icmp_eq (tgt := 75) hC dX7_hasPartsOfRow_70 (by decide) (fun c => ?_) (fun c => ?_)
        · replace h := h.1 c
          refine zv_iinc (v := 1) hC dX7_hasPartsOfRow_75 rfl (by decide) (by decide) ?_
          refine zv_goto (tgt := 22) hC dX7_hasPartsOfRow_78 (by decide) ?_
          exact zv_go (hk22 _ _ _ h) ⟨rfl, rfl, rfl, trivial⟩
        · replace h := h.2 c
          exact zv_go (k_X7_hasPartsOfRow_73 hC hR  h) trivial
def B_X7_hasPartsOfRow (Q : Int32 → zv_St → Prop) (x1 : Int32) (σ : zv_St) : Prop :=
  B_X5_size (fun r_2 σ_1 => B_X6_size (fun r_4 σ_3 => (r_2 = r_4 → (∃ n22, L_X7_hasPartsOfRow_22 Q n22 x1 0 σ_3)) ∧ (¬ r_2 = r_4 → (Q 0 σ_3))) σ_1) x1 σ
set_option maxRecDepth 20000 in
set_option maxHeartbeats 2000000 in
theorem k_X7_hasPartsOfRow_0 {G : zv_G} {X : zv_X} {Q : Int32 → zv_St → Prop}  (hC : zv_C G X M_X7_hasPartsOfRow) (hR : zv_R G X M_X7_hasPartsOfRow (zv_qi Q))  {x1 : Int32} {σ : zv_St} (h : B_X7_hasPartsOfRow Q  x1 σ) : zv_V G X M_X7_hasPartsOfRow 0 [(0, .ref (G.2.2.1 39)), (1, .int x1)] [] σ := by
  unfold B_X7_hasPartsOfRow at h
  refine zv_aload_n hC dX7_hasPartsOfRow_0 rfl ?_
  refine zv_getR (j := 5) hC fl_X7_30 dX7_hasPartsOfRow_1 rfl rfl ?_
  refine zv_iload_n hC dX7_hasPartsOfRow_4 rfl ?_
  refine zv_callVi (As := [_]) hC dX7_hasPartsOfRow_5 Y_X5_size lk_X7_55 (by decide) rfl rfl rfl (Nat.le_of_ble_eq_true rfl) (ok_X5_size G h) ?_
  intro r_2 σ_1 h
  refine zv_aload_n hC dX7_hasPartsOfRow_8 rfl ?_
  refine zv_getR (j := 42) hC fl_X7_22 dX7_hasPartsOfRow_9 rfl rfl ?_
  refine zv_callVi (As := []) hC dX7_hasPartsOfRow_12 Y_X6_size lk_X7_94 (by decide) rfl rfl rfl (Nat.le_of_ble_eq_true rfl) (ok_X6_size G h) ?_
  intro r_4 σ_3 h
  refine zv_icmp_eq (tgt := 20) hC dX7_hasPartsOfRow_15 (by decide) (fun c => ?_) (fun c => ?_)
  · replace h := h.1 c
    refine zv_iconst (v := 0) hC dX7_hasPartsOfRow_20 (by decide) ?_
    refine zv_istore_n hC dX7_hasPartsOfRow_21 (by decide) ?_
    obtain ⟨n, h⟩ := h
    exact zv_go (kL_X7_hasPartsOfRow_22 hC hR  n _ _ _ h) ⟨rfl, rfl, rfl, trivial⟩
  · replace h := h.2 c
    refine zv_iconst (v := 0) hC dX7_hasPartsOfRow_18 (by decide) ?_
    exact (hR _ _ _).2.1 _ rfl rfl dX7_hasPartsOfRow_19 ⟨_, rfl, h⟩
theorem ok_X7_hasPartsOfRow (G : zv_G) {Q : Int32 → zv_St → Prop} {x1 : Int32} {σ : zv_St} (h : B_X7_hasPartsOfRow Q x1 σ) : zv_OK G M_X7_hasPartsOfRow yX7_hasPartsOfRow [.ref (G.2.2.1 39), .int x1] σ (zv_qi Q) := zv_ok G _ _ _ _ _ (by decide +kernel) rfl (Nat.le_of_ble_eq_true rfl) (fun X hC hR => zv_go (k_X7_hasPartsOfRow_0 hC hR h) ⟨rfl, rfl, trivial⟩)
-- X7_thatIsSoWithRow
def B_X7_thatIsSoWithRow_37 (Q : Int32 → zv_St → Prop) (kk2 : Int32 → Int32 → Int32 → zv_St → Prop) (x1 : Int32) (x2 : Int32) (x3 : Int32) (σ : zv_St) : Prop :=
  kk2 x1 x2 (x3 + 1) σ
set_option maxRecDepth 20000 in
set_option maxHeartbeats 2000000 in
theorem k_X7_thatIsSoWithRow_37 {G : zv_G} {X : zv_X} {Q : Int32 → zv_St → Prop} {kk2 : Int32 → Int32 → Int32 → zv_St → Prop} (hC : zv_C G X M_X7_thatIsSoWithRow) (hR : zv_R G X M_X7_thatIsSoWithRow (zv_qi Q)) (hk2 : ∀ (x1 : Int32) (x2 : Int32) (x3 : Int32) (σ : zv_St), kk2 x1 x2 x3 σ → zv_V G X M_X7_thatIsSoWithRow 2 [(0, .ref (G.2.2.1 39)), (1, .int x1), (2, .int x2), (3, .int x3)] [] σ) {x1 : Int32} {x2 : Int32} {x3 : Int32} {σ : zv_St} (h : B_X7_thatIsSoWithRow_37 Q kk2 x1 x2 x3 σ) : zv_V G X M_X7_thatIsSoWithRow 37 [(0, .ref (G.2.2.1 39)), (1, .int x1), (2, .int x2), (3, .int x3)] [] σ := by
  unfold B_X7_thatIsSoWithRow_37 at h
  refine zv_iinc (v := 1) hC dX7_thatIsSoWithRow_37 rfl (by decide) (by decide) ?_
  refine zv_goto (tgt := 2) hC dX7_thatIsSoWithRow_40 (by decide) ?_
  exact zv_go (hk2 _ _ _ _ h) ⟨rfl, rfl, rfl, rfl, trivial⟩
def B_X7_thatIsSoWithRow_106 (Q : Int32 → zv_St → Prop) (x3 : Int32) (σ : zv_St) : Prop :=
  Q x3 σ
set_option maxRecDepth 20000 in
set_option maxHeartbeats 2000000 in
theorem k_X7_thatIsSoWithRow_106 {G : zv_G} {X : zv_X} {Q : Int32 → zv_St → Prop}  (hC : zv_C G X M_X7_thatIsSoWithRow) (hR : zv_R G X M_X7_thatIsSoWithRow (zv_qi Q))  {x3 : Int32} {σ : zv_St} (h : B_X7_thatIsSoWithRow_106 Q  x3 σ) : zv_V G X M_X7_thatIsSoWithRow 106 [(3, .int x3)] [] σ := by
  unfold B_X7_thatIsSoWithRow_106 at h
  refine zv_iload_n hC dX7_thatIsSoWithRow_106 rfl ?_
  exact (hR _ _ _).1 _ rfl dX7_thatIsSoWithRow_107 ⟨_, rfl, h⟩
def L_X7_thatIsSoWithRow_57 (Q : Int32 → zv_St → Prop) : Nat → (Int32 → Int32 → zv_St → Prop)
  | 0 => fun _ _ _ => False
  | u + 1 => fun x3 x4 σ => 
    (x3 < 0 → (B_X7_thatIsSoWithRow_106 Q x3 σ)) ∧ (¬ x3 < 0 → (B_X6_size (fun r_2 σ_1 => (r_2 ≤ x4 → (B_X7_thatIsSoWithRow_106 Q x3 σ_1)) ∧ (¬ r_2 ≤ x4 → (B_X6_roleAt (fun r_4 σ_3 => B_X6_partAt (fun r_6 σ_5 => B_X5_add (fun r_8 σ_7 => (L_X7_thatIsSoWithRow_57 Q u) x3 (x4 + 1) σ_7) x3 r_4 r_6 σ_5) x4 σ_3) x4 σ_1))) σ))
set_option maxRecDepth 20000 in
set_option maxHeartbeats 2000000 in
theorem kL_X7_thatIsSoWithRow_57 {G : zv_G} {X : zv_X} {Q : Int32 → zv_St → Prop}  (hC : zv_C G X M_X7_thatIsSoWithRow) (hR : zv_R G X M_X7_thatIsSoWithRow (zv_qi Q))  : ∀ (n : Nat) (x3 : Int32) (x4 : Int32) (σ : zv_St), L_X7_thatIsSoWithRow_57 Q  n x3 x4 σ → zv_V G X M_X7_thatIsSoWithRow 57 [(0, .ref (G.2.2.1 39)), (3, .int x3), (4, .int x4)] [] σ := by
  intro n
  induction n with
  | zero => intro x3 x4 σ h; exact h.elim
  | succ n hk57 =>
    intro x3 x4 σ h
    unfold L_X7_thatIsSoWithRow_57 at h
    refine zv_iload_n hC dX7_thatIsSoWithRow_57 rfl ?_
    refine zv_if_lt (tgt := 106) hC dX7_thatIsSoWithRow_58 (by decide) (fun c => ?_) (fun c => ?_)
    · replace h := h.1 c
      exact zv_go (k_X7_thatIsSoWithRow_106 hC hR  h) ⟨rfl, trivial⟩
    · replace h := h.2 c
      refine zv_iload hC dX7_thatIsSoWithRow_61 rfl ?_
      refine zv_aload_n hC dX7_thatIsSoWithRow_63 rfl ?_
      refine zv_getR (j := 42) hC fl_X7_22 dX7_thatIsSoWithRow_64 rfl rfl ?_
      refine zv_callVi (As := []) hC dX7_thatIsSoWithRow_67 Y_X6_size lk_X7_94 (by decide) rfl rfl rfl (Nat.le_of_ble_eq_true rfl) (ok_X6_size G h) ?_
      intro r_2 σ_1 h
      refine zv_icmp_ge (tgt := 106) hC dX7_thatIsSoWithRow_70 (by decide) (fun c => ?_) (fun c => ?_)
      · replace h := h.1 c
        exact zv_go (k_X7_thatIsSoWithRow_106 hC hR  h) ⟨rfl, trivial⟩
      · replace h := h.2 c
        refine zv_aload_n hC dX7_thatIsSoWithRow_73 rfl ?_
        refine zv_getR (j := 5) hC fl_X7_30 dX7_thatIsSoWithRow_74 rfl rfl ?_
        refine zv_iload_n hC dX7_thatIsSoWithRow_77 rfl ?_
        refine zv_aload_n hC dX7_thatIsSoWithRow_78 rfl ?_
        refine zv_getR (j := 42) hC fl_X7_22 dX7_thatIsSoWithRow_79 rfl rfl ?_
        refine zv_iload hC dX7_thatIsSoWithRow_82 rfl ?_
        refine zv_callVi (As := [_]) hC dX7_thatIsSoWithRow_84 Y_X6_roleAt lk_X7_134 (by decide) rfl rfl rfl (Nat.le_of_ble_eq_true rfl) (ok_X6_roleAt G h) ?_
        intro r_4 σ_3 h
        refine zv_aload_n hC dX7_thatIsSoWithRow_87 rfl ?_
        refine zv_getR (j := 42) hC fl_X7_22 dX7_thatIsSoWithRow_88 rfl rfl ?_
        refine zv_iload hC dX7_thatIsSoWithRow_91 rfl ?_
        refine zv_callVi (As := [_]) hC dX7_thatIsSoWithRow_93 Y_X6_partAt lk_X7_96 (by decide) rfl rfl rfl (Nat.le_of_ble_eq_true rfl) (ok_X6_partAt G h) ?_
        intro r_6 σ_5 h
        refine zv_callVi (As := [_, _, _]) hC dX7_thatIsSoWithRow_96 Y_X5_add lk_X7_146 (by decide) rfl rfl rfl (Nat.le_of_ble_eq_true rfl) (ok_X5_add G h) ?_
        intro r_8 σ_7 h
        refine zv_pop hC dX7_thatIsSoWithRow_99 rfl ?_
        refine zv_iinc (v := 1) hC dX7_thatIsSoWithRow_100 rfl (by decide) (by decide) ?_
        refine zv_goto (tgt := 57) hC dX7_thatIsSoWithRow_103 (by decide) ?_
        exact zv_go (hk57 _ _ _ h) ⟨rfl, rfl, rfl, trivial⟩
def L_X7_thatIsSoWithRow_2 (Q : Int32 → zv_St → Prop) : Nat → (Int32 → Int32 → Int32 → zv_St → Prop)
  | 0 => fun _ _ _ _ => False
  | u + 1 => fun x1 x2 x3 σ => 
    B_X5_count (fun r_2 σ_1 => (r_2 ≤ x3 → (B_X5_make (fun r_4 σ_3 => ∃ n57, L_X7_thatIsSoWithRow_57 Q n57 r_4 0 σ_3) x1 x2 0 σ_1)) ∧ (¬ r_2 ≤ x3 → (B_X5_hasNumbers (fun r_6 σ_5 => (r_6 = 0 → (B_X7_thatIsSoWithRow_37 Q (L_X7_thatIsSoWithRow_2 Q u) x1 x2 x3 σ_5)) ∧ (¬ r_6 = 0 → (B_X7_hasPartsOfRow (fun r_8 σ_7 => (r_8 = 0 → (B_X7_thatIsSoWithRow_37 Q (L_X7_thatIsSoWithRow_2 Q u) x1 x2 x3 σ_7)) ∧ (¬ r_8 = 0 → (Q x3 σ_7))) x3 σ_5))) x3 x1 x2 0 σ_1))) σ
set_option maxRecDepth 20000 in
set_option maxHeartbeats 2000000 in
theorem kL_X7_thatIsSoWithRow_2 {G : zv_G} {X : zv_X} {Q : Int32 → zv_St → Prop}  (hC : zv_C G X M_X7_thatIsSoWithRow) (hR : zv_R G X M_X7_thatIsSoWithRow (zv_qi Q))  : ∀ (n : Nat) (x1 : Int32) (x2 : Int32) (x3 : Int32) (σ : zv_St), L_X7_thatIsSoWithRow_2 Q  n x1 x2 x3 σ → zv_V G X M_X7_thatIsSoWithRow 2 [(0, .ref (G.2.2.1 39)), (1, .int x1), (2, .int x2), (3, .int x3)] [] σ := by
  intro n
  induction n with
  | zero => intro x1 x2 x3 σ h; exact h.elim
  | succ n hk2 =>
    intro x1 x2 x3 σ h
    unfold L_X7_thatIsSoWithRow_2 at h
    refine zv_iload_n hC dX7_thatIsSoWithRow_2 rfl ?_
    refine zv_aload_n hC dX7_thatIsSoWithRow_3 rfl ?_
    refine zv_getR (j := 5) hC fl_X7_30 dX7_thatIsSoWithRow_4 rfl rfl ?_
    refine zv_callVi (As := []) hC dX7_thatIsSoWithRow_7 Y_X5_count lk_X7_34 (by decide) rfl rfl rfl (Nat.le_of_ble_eq_true rfl) (ok_X5_count G h) ?_
    intro r_2 σ_1 h
    refine zv_icmp_ge (tgt := 43) hC dX7_thatIsSoWithRow_10 (by decide) (fun c => ?_) (fun c => ?_)
    · replace h := h.1 c
      refine zv_aload_n hC dX7_thatIsSoWithRow_43 rfl ?_
      refine zv_getR (j := 5) hC fl_X7_30 dX7_thatIsSoWithRow_44 rfl rfl ?_
      refine zv_iload_n hC dX7_thatIsSoWithRow_47 rfl ?_
      refine zv_iload_n hC dX7_thatIsSoWithRow_48 rfl ?_
      refine zv_iconst (v := 0) hC dX7_thatIsSoWithRow_49 (by decide) ?_
      refine zv_callVi (As := [_, _, _]) hC dX7_thatIsSoWithRow_50 Y_X5_make lk_X7_140 (by decide) rfl rfl rfl (Nat.le_of_ble_eq_true rfl) (ok_X5_make G h) ?_
      intro r_4 σ_3 h
      refine zv_istore_n hC dX7_thatIsSoWithRow_53 (by decide) ?_
      refine zv_iconst (v := 0) hC dX7_thatIsSoWithRow_54 (by decide) ?_
      refine zv_istore hC dX7_thatIsSoWithRow_55 (by decide) ?_
      obtain ⟨n, h⟩ := h
      exact zv_go (kL_X7_thatIsSoWithRow_57 hC hR  n _ _ _ h) ⟨rfl, rfl, rfl, trivial⟩
    · replace h := h.2 c
      refine zv_aload_n hC dX7_thatIsSoWithRow_13 rfl ?_
      refine zv_getR (j := 5) hC fl_X7_30 dX7_thatIsSoWithRow_14 rfl rfl ?_
      refine zv_iload_n hC dX7_thatIsSoWithRow_17 rfl ?_
      refine zv_iload_n hC dX7_thatIsSoWithRow_18 rfl ?_
      refine zv_iload_n hC dX7_thatIsSoWithRow_19 rfl ?_
      refine zv_iconst (v := 0) hC dX7_thatIsSoWithRow_20 (by decide) ?_
      refine zv_callVi (As := [_, _, _, _]) hC dX7_thatIsSoWithRow_21 Y_X5_hasNumbers lk_X7_136 (by decide) rfl rfl rfl (Nat.le_of_ble_eq_true rfl) (ok_X5_hasNumbers G h) ?_
      intro r_6 σ_5 h
      refine zv_if_eq (tgt := 37) hC dX7_thatIsSoWithRow_24 (by decide) (fun c => ?_) (fun c => ?_)
      · replace h := h.1 c
        exact zv_go (k_X7_thatIsSoWithRow_37 hC hR hk2 h) ⟨rfl, rfl, rfl, rfl, trivial⟩
      · replace h := h.2 c
        refine zv_aload_n hC dX7_thatIsSoWithRow_27 rfl ?_
        refine zv_iload_n hC dX7_thatIsSoWithRow_28 rfl ?_
        refine zv_callVi (As := [_]) hC dX7_thatIsSoWithRow_29 Y_X7_hasPartsOfRow lk_X7_143 (by decide) rfl rfl rfl (Nat.le_of_ble_eq_true rfl) (ok_X7_hasPartsOfRow G h) ?_
        intro r_8 σ_7 h
        refine zv_if_eq (tgt := 37) hC dX7_thatIsSoWithRow_32 (by decide) (fun c => ?_) (fun c => ?_)
        · replace h := h.1 c
          exact zv_go (k_X7_thatIsSoWithRow_37 hC hR hk2 h) ⟨rfl, rfl, rfl, rfl, trivial⟩
        · replace h := h.2 c
          refine zv_iload_n hC dX7_thatIsSoWithRow_35 rfl ?_
          exact (hR _ _ _).1 _ rfl dX7_thatIsSoWithRow_36 ⟨_, rfl, h⟩
def B_X7_thatIsSoWithRow (Q : Int32 → zv_St → Prop) (x1 : Int32) (x2 : Int32) (σ : zv_St) : Prop :=
  ∃ n2, L_X7_thatIsSoWithRow_2 Q n2 x1 x2 0 σ
set_option maxRecDepth 20000 in
set_option maxHeartbeats 2000000 in
theorem k_X7_thatIsSoWithRow_0 {G : zv_G} {X : zv_X} {Q : Int32 → zv_St → Prop}  (hC : zv_C G X M_X7_thatIsSoWithRow) (hR : zv_R G X M_X7_thatIsSoWithRow (zv_qi Q))  {x1 : Int32} {x2 : Int32} {σ : zv_St} (h : B_X7_thatIsSoWithRow Q  x1 x2 σ) : zv_V G X M_X7_thatIsSoWithRow 0 [(0, .ref (G.2.2.1 39)), (1, .int x1), (2, .int x2)] [] σ := by
  unfold B_X7_thatIsSoWithRow at h
  refine zv_iconst (v := 0) hC dX7_thatIsSoWithRow_0 (by decide) ?_
  refine zv_istore_n hC dX7_thatIsSoWithRow_1 (by decide) ?_
  obtain ⟨n, h⟩ := h
  exact zv_go (kL_X7_thatIsSoWithRow_2 hC hR  n _ _ _ _ h) ⟨rfl, rfl, rfl, rfl, trivial⟩
theorem ok_X7_thatIsSoWithRow (G : zv_G) {Q : Int32 → zv_St → Prop} {x1 : Int32} {x2 : Int32} {σ : zv_St} (h : B_X7_thatIsSoWithRow Q x1 x2 σ) : zv_OK G M_X7_thatIsSoWithRow yX7_thatIsSoWithRow [.ref (G.2.2.1 39), .int x1, .int x2] σ (zv_qi Q) := zv_ok G _ _ _ _ _ (by decide +kernel) rfl (Nat.le_of_ble_eq_true rfl) (fun X hC hR => zv_go (k_X7_thatIsSoWithRow_0 hC hR h) ⟨rfl, rfl, rfl, trivial⟩)
