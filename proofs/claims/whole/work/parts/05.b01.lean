-- X10_isWithin
def B_X10_isWithin_14 (Q : Int32 → zv_St → Prop) (y0 : Int32) (σ : zv_St) : Prop :=
  narrow .boolean (.int y0) = .int y0 ∧ Q y0 σ
set_option maxRecDepth 20000 in
set_option maxHeartbeats 2000000 in
theorem k_X10_isWithin_14 {G : zv_G} {X : zv_X} {Q : Int32 → zv_St → Prop}  (hC : zv_C G X M_X10_isWithin) (hR : zv_R G X M_X10_isWithin (zv_qi Q))  {y0 : Int32} {σ : zv_St} (h : B_X10_isWithin_14 Q  y0 σ) : zv_V G X M_X10_isWithin 14 [] [.int y0] σ := by
  unfold B_X10_isWithin_14 at h
  exact (hR _ _ _).2.1 _ rfl h.1 dX10_isWithin_14 ⟨_, rfl, h.2⟩
def B_X10_isWithin_13 (Q : Int32 → zv_St → Prop) (σ : zv_St) : Prop :=
  B_X10_isWithin_14 Q 0 σ
set_option maxRecDepth 20000 in
set_option maxHeartbeats 2000000 in
theorem k_X10_isWithin_13 {G : zv_G} {X : zv_X} {Q : Int32 → zv_St → Prop}  (hC : zv_C G X M_X10_isWithin) (hR : zv_R G X M_X10_isWithin (zv_qi Q))   {σ : zv_St} (h : B_X10_isWithin_13 Q   σ) : zv_V G X M_X10_isWithin 13 [] [] σ := by
  unfold B_X10_isWithin_13 at h
  refine zv_iconst (v := 0) hC dX10_isWithin_13 (by decide) ?_
  exact zv_go (k_X10_isWithin_14 hC hR  h) trivial
def B_X10_isWithin (Q : Int32 → zv_St → Prop) (x0 : Int32) (x1 : Int32) (σ : zv_St) : Prop :=
  (x0 < 0 → (B_X10_isWithin_13 Q σ)) ∧ (¬ x0 < 0 → ((x1 < x0 → (B_X10_isWithin_13 Q σ)) ∧ (¬ x1 < x0 → (B_X10_isWithin_14 Q 1 σ))))
set_option maxRecDepth 20000 in
set_option maxHeartbeats 2000000 in
theorem k_X10_isWithin_0 {G : zv_G} {X : zv_X} {Q : Int32 → zv_St → Prop}  (hC : zv_C G X M_X10_isWithin) (hR : zv_R G X M_X10_isWithin (zv_qi Q))  {x0 : Int32} {x1 : Int32} {σ : zv_St} (h : B_X10_isWithin Q  x0 x1 σ) : zv_V G X M_X10_isWithin 0 [(0, .int x0), (1, .int x1)] [] σ := by
  unfold B_X10_isWithin at h
  refine zv_iload_n hC dX10_isWithin_0 rfl ?_
  refine zv_if_lt (tgt := 13) hC dX10_isWithin_1 (by decide) (fun c => ?_) (fun c => ?_)
  · replace h := h.1 c
    exact zv_go (k_X10_isWithin_13 hC hR  h) trivial
  · replace h := h.2 c
    refine zv_iload_n hC dX10_isWithin_4 rfl ?_
    refine zv_iload_n hC dX10_isWithin_5 rfl ?_
    refine zv_icmp_gt (tgt := 13) hC dX10_isWithin_6 (by decide) (fun c => ?_) (fun c => ?_)
    · replace h := h.1 c
      exact zv_go (k_X10_isWithin_13 hC hR  h) trivial
    · replace h := h.2 c
      refine zv_iconst (v := 1) hC dX10_isWithin_9 (by decide) ?_
      refine zv_goto (tgt := 14) hC dX10_isWithin_10 (by decide) ?_
      exact zv_go (k_X10_isWithin_14 hC hR  h) trivial
theorem ok_X10_isWithin (G : zv_G) {Q : Int32 → zv_St → Prop} {x0 : Int32} {x1 : Int32} {σ : zv_St} (h : B_X10_isWithin Q x0 x1 σ) : zv_OK G M_X10_isWithin yX10_isWithin [.int x0, .int x1] σ (zv_qi Q) := zv_ok G _ _ _ _ _ (by decide +kernel) rfl (Nat.le_of_ble_eq_true rfl) (fun X hC hR => zv_go (k_X10_isWithin_0 hC hR h) ⟨rfl, rfl, trivial⟩)
-- X10_isList
def B_X10_isList (Q : Int32 → zv_St → Prop) (x0 : Int32) (σ : zv_St) : Prop :=
  B_X10_isWithin (fun r_2 σ_1 => narrow .boolean (.int r_2) = .int r_2 ∧ Q r_2 σ_1) x0 15 σ
set_option maxRecDepth 20000 in
set_option maxHeartbeats 2000000 in
theorem k_X10_isList_0 {G : zv_G} {X : zv_X} {Q : Int32 → zv_St → Prop}  (hC : zv_C G X M_X10_isList) (hR : zv_R G X M_X10_isList (zv_qi Q))  {x0 : Int32} {σ : zv_St} (h : B_X10_isList Q  x0 σ) : zv_V G X M_X10_isList 0 [(0, .int x0)] [] σ := by
  unfold B_X10_isList at h
  refine zv_iload_n hC dX10_isList_0 rfl ?_
  refine zv_bipush (v := 15) hC dX10_isList_1 (by decide) ?_
  refine zv_callSi (As := [_, _]) hC dX10_isList_3 Y_X10_isWithin lk_X10_81 (by decide) rfl rfl (Nat.le_of_ble_eq_true rfl) (ok_X10_isWithin G h) ?_
  intro r_2 σ_1 h
  exact (hR _ _ _).2.1 _ rfl h.1 dX10_isList_6 ⟨_, rfl, h.2⟩
theorem ok_X10_isList (G : zv_G) {Q : Int32 → zv_St → Prop} {x0 : Int32} {σ : zv_St} (h : B_X10_isList Q x0 σ) : zv_OK G M_X10_isList yX10_isList [.int x0] σ (zv_qi Q) := zv_ok G _ _ _ _ _ (by decide +kernel) rfl (Nat.le_of_ble_eq_true rfl) (fun X hC hR => zv_go (k_X10_isList_0 hC hR h) ⟨rfl, trivial⟩)
-- X10_isObject
def B_X10_isObject (Q : Int32 → zv_St → Prop) (x0 : Int32) (σ : zv_St) : Prop :=
  B_X10_isWithin (fun r_2 σ_1 => narrow .boolean (.int r_2) = .int r_2 ∧ Q r_2 σ_1) x0 511 σ
set_option maxRecDepth 20000 in
set_option maxHeartbeats 2000000 in
theorem k_X10_isObject_0 {G : zv_G} {X : zv_X} {Q : Int32 → zv_St → Prop}  (hC : zv_C G X M_X10_isObject) (hR : zv_R G X M_X10_isObject (zv_qi Q))  {x0 : Int32} {σ : zv_St} (h : B_X10_isObject Q  x0 σ) : zv_V G X M_X10_isObject 0 [(0, .int x0)] [] σ := by
  unfold B_X10_isObject at h
  refine zv_iload_n hC dX10_isObject_0 rfl ?_
  refine zv_sipush (v := 511) hC dX10_isObject_1 (by decide) ?_
  refine zv_callSi (As := [_, _]) hC dX10_isObject_4 Y_X10_isWithin lk_X10_81 (by decide) rfl rfl (Nat.le_of_ble_eq_true rfl) (ok_X10_isWithin G h) ?_
  intro r_2 σ_1 h
  exact (hR _ _ _).2.1 _ rfl h.1 dX10_isObject_7 ⟨_, rfl, h.2⟩
theorem ok_X10_isObject (G : zv_G) {Q : Int32 → zv_St → Prop} {x0 : Int32} {σ : zv_St} (h : B_X10_isObject Q x0 σ) : zv_OK G M_X10_isObject yX10_isObject [.int x0] σ (zv_qi Q) := zv_ok G _ _ _ _ _ (by decide +kernel) rfl (Nat.le_of_ble_eq_true rfl) (fun X hC hR => zv_go (k_X10_isObject_0 hC hR h) ⟨rfl, trivial⟩)
-- X3_placeOf
def L_X3_placeOf_18 (Q : Int32 → zv_St → Prop) : Nat → (Int32 → Int32 → Int32 → zv_St → Prop)
  | 0 => fun _ _ _ _ => False
  | u + 1 => fun x2 x4 x5 σ => 
    (x4 ≤ x5 → (Q (-1) σ)) ∧ (¬ x4 ≤ x5 → (vp_in x5 960 ∧ (¬ (σ.1 2 x5.toNatClampNeg) = x2 → ((L_X3_placeOf_18 Q u) x2 x4 (x5 + 1) σ)) ∧ ((σ.1 2 x5.toNatClampNeg) = x2 → (Q x5 σ))))
set_option maxRecDepth 20000 in
set_option maxHeartbeats 2000000 in
theorem kL_X3_placeOf_18 {G : zv_G} {X : zv_X} {Q : Int32 → zv_St → Prop}  (hC : zv_C G X M_X3_placeOf) (hR : zv_R G X M_X3_placeOf (zv_qi Q))  : ∀ (n : Nat) (x2 : Int32) (x4 : Int32) (x5 : Int32) (σ : zv_St), L_X3_placeOf_18 Q  n x2 x4 x5 σ → zv_V G X M_X3_placeOf 18 [(0, .ref (G.2.2.1 1)), (2, .int x2), (4, .int x4), (5, .int x5)] [] σ := by
  intro n
  induction n with
  | zero => intro x2 x4 x5 σ h; exact h.elim
  | succ n hk18 =>
    intro x2 x4 x5 σ h
    unfold L_X3_placeOf_18 at h
    refine zv_iload hC dX3_placeOf_18 rfl ?_
    refine zv_iload hC dX3_placeOf_20 rfl ?_
    refine zv_icmp_ge (tgt := 45) hC dX3_placeOf_22 (by decide) (fun c => ?_) (fun c => ?_)
    · replace h := h.1 c
      refine zv_iconst (v := (-1)) hC dX3_placeOf_45 (by decide) ?_
      exact (hR _ _ _).1 _ rfl dX3_placeOf_46 ⟨_, rfl, h⟩
    · replace h := h.2 c
      refine zv_aload_n hC dX3_placeOf_25 rfl ?_
      refine zv_getR (j := 2) hC fl_X3_9 dX3_placeOf_26 rfl rfl ?_
      refine zv_iload hC dX3_placeOf_29 rfl ?_
      refine zv_iald hC dX3_placeOf_31 rfl h.1 ?_
      replace h := h.2
      refine zv_iload_n hC dX3_placeOf_32 rfl ?_
      refine zv_icmp_ne (tgt := 39) hC dX3_placeOf_33 (by decide) (fun c => ?_) (fun c => ?_)
      · replace h := h.1 c
        refine zv_iinc (v := 1) hC dX3_placeOf_39 rfl (by decide) (by decide) ?_
        refine zv_goto (tgt := 18) hC dX3_placeOf_42 (by decide) ?_
        exact zv_go (hk18 _ _ _ _ h) ⟨rfl, rfl, rfl, rfl, trivial⟩
      · replace h := h.2 c
        refine zv_iload hC dX3_placeOf_36 rfl ?_
        exact (hR _ _ _).1 _ rfl dX3_placeOf_38 ⟨_, rfl, h⟩
def B_X3_placeOf (Q : Int32 → zv_St → Prop) (x1 : Int32) (x2 : Int32) (σ : zv_St) : Prop :=
  vp_in x1 16 ∧ ∀ v_1 : Int32, v_1 = ((x1 * 60) + (σ.1 4 x1.toNatClampNeg)) → ∃ n18, L_X3_placeOf_18 Q n18 x2 v_1 (x1 * 60) σ
set_option maxRecDepth 20000 in
set_option maxHeartbeats 2000000 in
theorem k_X3_placeOf_0 {G : zv_G} {X : zv_X} {Q : Int32 → zv_St → Prop}  (hC : zv_C G X M_X3_placeOf) (hR : zv_R G X M_X3_placeOf (zv_qi Q))  {x1 : Int32} {x2 : Int32} {σ : zv_St} (h : B_X3_placeOf Q  x1 x2 σ) : zv_V G X M_X3_placeOf 0 [(0, .ref (G.2.2.1 1)), (1, .int x1), (2, .int x2)] [] σ := by
  unfold B_X3_placeOf at h
  refine zv_iload_n hC dX3_placeOf_0 rfl ?_
  refine zv_bipush (v := 60) hC dX3_placeOf_1 (by decide) ?_
  refine zv_imul hC dX3_placeOf_3 ?_
  refine zv_istore_n hC dX3_placeOf_4 (by decide) ?_
  refine zv_iload_n hC dX3_placeOf_5 rfl ?_
  refine zv_aload_n hC dX3_placeOf_6 rfl ?_
  refine zv_getR (j := 4) hC fl_X3_18 dX3_placeOf_7 rfl rfl ?_
  refine zv_iload_n hC dX3_placeOf_10 rfl ?_
  refine zv_iald hC dX3_placeOf_11 rfl h.1 ?_
  replace h := h.2
  refine zv_iadd hC dX3_placeOf_12 ?_
  replace h := h _ rfl
  refine zv_istore hC dX3_placeOf_13 (by decide) ?_
  refine zv_iload_n hC dX3_placeOf_15 rfl ?_
  refine zv_istore hC dX3_placeOf_16 (by decide) ?_
  obtain ⟨n, h⟩ := h
  exact zv_go (kL_X3_placeOf_18 hC hR  n _ _ _ _ h) ⟨rfl, rfl, rfl, rfl, trivial⟩
theorem ok_X3_placeOf (G : zv_G) {Q : Int32 → zv_St → Prop} {x1 : Int32} {x2 : Int32} {σ : zv_St} (h : B_X3_placeOf Q x1 x2 σ) : zv_OK G M_X3_placeOf yX3_placeOf [.ref (G.2.2.1 1), .int x1, .int x2] σ (zv_qi Q) := zv_ok G _ _ _ _ _ (by decide +kernel) rfl (Nat.le_of_ble_eq_true rfl) (fun X hC hR => zv_go (k_X3_placeOf_0 hC hR h) ⟨rfl, rfl, rfl, trivial⟩)
-- X3_store
def B_X3_store_50 (Q : Int32 → zv_St → Prop) (x2 : Int32) (x3 : Int32) (x4 : Int32) (σ : zv_St) : Prop :=
  vp_in x4 960 ∧ ∀ σ_1 : zv_St, σ_1 = zv_wi σ 2 x4.toNatClampNeg x2 → vp_in x4 960 ∧ ∀ σ_2 : zv_St, σ_2 = zv_wi σ_1 3 x4.toNatClampNeg x3 → Q 1 σ_2
set_option maxRecDepth 20000 in
set_option maxHeartbeats 2000000 in
theorem k_X3_store_50 {G : zv_G} {X : zv_X} {Q : Int32 → zv_St → Prop}  (hC : zv_C G X M_X3_store) (hR : zv_R G X M_X3_store (zv_qi Q))  {x2 : Int32} {x3 : Int32} {x4 : Int32} {σ : zv_St} (h : B_X3_store_50 Q  x2 x3 x4 σ) : zv_V G X M_X3_store 50 [(0, .ref (G.2.2.1 1)), (2, .int x2), (3, .int x3), (4, .int x4)] [] σ := by
  unfold B_X3_store_50 at h
  refine zv_aload_n hC dX3_store_50 rfl ?_
  refine zv_getR (j := 2) hC fl_X3_9 dX3_store_51 rfl rfl ?_
  refine zv_iload hC dX3_store_54 rfl ?_
  refine zv_iload_n hC dX3_store_56 rfl ?_
  refine zv_iast hC dX3_store_57 rfl h.1 ?_
  replace h := h.2 _ rfl
  refine zv_aload_n hC dX3_store_58 rfl ?_
  refine zv_getR (j := 3) hC fl_X3_15 dX3_store_59 rfl rfl ?_
  refine zv_iload hC dX3_store_62 rfl ?_
  refine zv_iload_n hC dX3_store_64 rfl ?_
  refine zv_iast hC dX3_store_65 rfl h.1 ?_
  replace h := h.2 _ rfl
  refine zv_iconst (v := 1) hC dX3_store_66 (by decide) ?_
  exact (hR _ _ _).2.1 _ rfl rfl dX3_store_67 ⟨_, rfl, h⟩
def B_X3_store (Q : Int32 → zv_St → Prop) (x1 : Int32) (x2 : Int32) (x3 : Int32) (σ : zv_St) : Prop :=
  B_X3_placeOf (fun r_2 σ_1 => (¬ r_2 = (-1) → (B_X3_store_50 Q x2 x3 r_2 σ_1)) ∧ (r_2 = (-1) → (vp_in x1 16 ∧ ((σ_1.1 4 x1.toNatClampNeg) < 60 → (vp_in x1 16 ∧ ∀ v_3 : Int32, v_3 = ((x1 * 60) + (σ_1.1 4 x1.toNatClampNeg)) → vp_in x1 16 ∧ vp_in x1 16 ∧ ∀ σ_4 : zv_St, σ_4 = zv_wi σ_1 4 x1.toNatClampNeg ((σ_1.1 4 x1.toNatClampNeg) + 1) → B_X3_store_50 Q x2 x3 v_3 σ_4)) ∧ (¬ (σ_1.1 4 x1.toNatClampNeg) < 60 → (Q 0 σ_1))))) x1 x2 σ
set_option maxRecDepth 20000 in
set_option maxHeartbeats 2000000 in
theorem k_X3_store_0 {G : zv_G} {X : zv_X} {Q : Int32 → zv_St → Prop}  (hC : zv_C G X M_X3_store) (hR : zv_R G X M_X3_store (zv_qi Q))  {x1 : Int32} {x2 : Int32} {x3 : Int32} {σ : zv_St} (h : B_X3_store Q  x1 x2 x3 σ) : zv_V G X M_X3_store 0 [(0, .ref (G.2.2.1 1)), (1, .int x1), (2, .int x2), (3, .int x3)] [] σ := by
  unfold B_X3_store at h
  refine zv_aload_n hC dX3_store_0 rfl ?_
  refine zv_iload_n hC dX3_store_1 rfl ?_
  refine zv_iload_n hC dX3_store_2 rfl ?_
  refine zv_callVi (As := [_, _]) hC dX3_store_3 Y_X3_placeOf lk_X3_21 (by decide) rfl rfl rfl (Nat.le_of_ble_eq_true rfl) (ok_X3_placeOf G h) ?_
  intro r_2 σ_1 h
  refine zv_istore hC dX3_store_6 (by decide) ?_
  refine zv_iload hC dX3_store_8 rfl ?_
  refine zv_iconst (v := (-1)) hC dX3_store_10 (by decide) ?_
  refine zv_icmp_ne (tgt := 50) hC dX3_store_11 (by decide) (fun c => ?_) (fun c => ?_)
  · replace h := h.1 c
    exact zv_go (k_X3_store_50 hC hR  h) ⟨rfl, rfl, rfl, rfl, trivial⟩
  · replace h := h.2 c
    refine zv_aload_n hC dX3_store_14 rfl ?_
    refine zv_getR (j := 4) hC fl_X3_18 dX3_store_15 rfl rfl ?_
    refine zv_iload_n hC dX3_store_18 rfl ?_
    refine zv_iald hC dX3_store_19 rfl h.1 ?_
    replace h := h.2
    refine zv_bipush (v := 60) hC dX3_store_20 (by decide) ?_
    refine zv_icmp_lt (tgt := 27) hC dX3_store_22 (by decide) (fun c => ?_) (fun c => ?_)
    · replace h := h.1 c
      refine zv_iload_n hC dX3_store_27 rfl ?_
      refine zv_bipush (v := 60) hC dX3_store_28 (by decide) ?_
      refine zv_imul hC dX3_store_30 ?_
      refine zv_aload_n hC dX3_store_31 rfl ?_
      refine zv_getR (j := 4) hC fl_X3_18 dX3_store_32 rfl rfl ?_
      refine zv_iload_n hC dX3_store_35 rfl ?_
      refine zv_iald hC dX3_store_36 rfl h.1 ?_
      replace h := h.2
      refine zv_iadd hC dX3_store_37 ?_
      replace h := h _ rfl
      refine zv_istore hC dX3_store_38 (by decide) ?_
      refine zv_aload_n hC dX3_store_40 rfl ?_
      refine zv_getR (j := 4) hC fl_X3_18 dX3_store_41 rfl rfl ?_
      refine zv_iload_n hC dX3_store_44 rfl ?_
      refine zv_dup2 hC dX3_store_45 rfl rfl ?_
      refine zv_iald hC dX3_store_46 rfl h.1 ?_
      replace h := h.2
      refine zv_iconst (v := 1) hC dX3_store_47 (by decide) ?_
      refine zv_iadd hC dX3_store_48 ?_
      refine zv_iast hC dX3_store_49 rfl h.1 ?_
      replace h := h.2 _ rfl
      exact zv_go (k_X3_store_50 hC hR  h) ⟨rfl, rfl, rfl, rfl, trivial⟩
    · replace h := h.2 c
      refine zv_iconst (v := 0) hC dX3_store_25 (by decide) ?_
      exact (hR _ _ _).2.1 _ rfl rfl dX3_store_26 ⟨_, rfl, h⟩
theorem ok_X3_store (G : zv_G) {Q : Int32 → zv_St → Prop} {x1 : Int32} {x2 : Int32} {x3 : Int32} {σ : zv_St} (h : B_X3_store Q x1 x2 x3 σ) : zv_OK G M_X3_store yX3_store [.ref (G.2.2.1 1), .int x1, .int x2, .int x3] σ (zv_qi Q) := zv_ok G _ _ _ _ _ (by decide +kernel) rfl (Nat.le_of_ble_eq_true rfl) (fun X hC hR => zv_go (k_X3_store_0 hC hR h) ⟨rfl, rfl, rfl, rfl, trivial⟩)
-- X5_count
def B_X5_count (Q : Int32 → zv_St → Prop) (σ : zv_St) : Prop :=
  Q (σ.1 5 0) σ
set_option maxRecDepth 20000 in
set_option maxHeartbeats 2000000 in
theorem k_X5_count_0 {G : zv_G} {X : zv_X} {Q : Int32 → zv_St → Prop}  (hC : zv_C G X M_X5_count) (hR : zv_R G X M_X5_count (zv_qi Q))   {σ : zv_St} (h : B_X5_count Q   σ) : zv_V G X M_X5_count 0 [(0, .ref (G.2.2.1 5))] [] σ := by
  unfold B_X5_count at h
  refine zv_aload_n hC dX5_count_0 rfl ?_
  refine zv_getI hC fl_X5_33 dX5_count_1 rfl rfl ?_
  exact (hR _ _ _).1 _ rfl dX5_count_4 ⟨_, rfl, h⟩
theorem ok_X5_count (G : zv_G) {Q : Int32 → zv_St → Prop}  {σ : zv_St} (h : B_X5_count Q  σ) : zv_OK G M_X5_count yX5_count [.ref (G.2.2.1 5)] σ (zv_qi Q) := zv_ok G _ _ _ _ _ (by decide +kernel) rfl (Nat.le_of_ble_eq_true rfl) (fun X hC hR => zv_go (k_X5_count_0 hC hR h) ⟨rfl, trivial⟩)
-- X5_hasNumbers
def B_X5_hasNumbers_36 (Q : Int32 → zv_St → Prop) (y0 : Int32) (σ : zv_St) : Prop :=
  narrow .boolean (.int y0) = .int y0 ∧ Q y0 σ
set_option maxRecDepth 20000 in
set_option maxHeartbeats 2000000 in
theorem k_X5_hasNumbers_36 {G : zv_G} {X : zv_X} {Q : Int32 → zv_St → Prop}  (hC : zv_C G X M_X5_hasNumbers) (hR : zv_R G X M_X5_hasNumbers (zv_qi Q))  {y0 : Int32} {σ : zv_St} (h : B_X5_hasNumbers_36 Q  y0 σ) : zv_V G X M_X5_hasNumbers 36 [] [.int y0] σ := by
  unfold B_X5_hasNumbers_36 at h
  exact (hR _ _ _).2.1 _ rfl h.1 dX5_hasNumbers_36 ⟨_, rfl, h.2⟩
def B_X5_hasNumbers_35 (Q : Int32 → zv_St → Prop) (σ : zv_St) : Prop :=
  B_X5_hasNumbers_36 Q 0 σ
set_option maxRecDepth 20000 in
set_option maxHeartbeats 2000000 in
theorem k_X5_hasNumbers_35 {G : zv_G} {X : zv_X} {Q : Int32 → zv_St → Prop}  (hC : zv_C G X M_X5_hasNumbers) (hR : zv_R G X M_X5_hasNumbers (zv_qi Q))   {σ : zv_St} (h : B_X5_hasNumbers_35 Q   σ) : zv_V G X M_X5_hasNumbers 35 [] [] σ := by
  unfold B_X5_hasNumbers_35 at h
  refine zv_iconst (v := 0) hC dX5_hasNumbers_35 (by decide) ?_
  exact zv_go (k_X5_hasNumbers_36 hC hR  h) trivial
def B_X5_hasNumbers (Q : Int32 → zv_St → Prop) (x1 : Int32) (x2 : Int32) (x3 : Int32) (x4 : Int32) (σ : zv_St) : Prop :=
  vp_in x1 80 ∧ (¬ (σ.1 6 x1.toNatClampNeg) = x2 → (B_X5_hasNumbers_35 Q σ)) ∧ ((σ.1 6 x1.toNatClampNeg) = x2 → (vp_in x1 80 ∧ (¬ (σ.1 7 x1.toNatClampNeg) = x3 → (B_X5_hasNumbers_35 Q σ)) ∧ ((σ.1 7 x1.toNatClampNeg) = x3 → (vp_in x1 80 ∧ (¬ (σ.1 8 x1.toNatClampNeg) = x4 → (B_X5_hasNumbers_35 Q σ)) ∧ ((σ.1 8 x1.toNatClampNeg) = x4 → (B_X5_hasNumbers_36 Q 1 σ))))))
set_option maxRecDepth 20000 in
set_option maxHeartbeats 2000000 in
theorem k_X5_hasNumbers_0 {G : zv_G} {X : zv_X} {Q : Int32 → zv_St → Prop}  (hC : zv_C G X M_X5_hasNumbers) (hR : zv_R G X M_X5_hasNumbers (zv_qi Q))  {x1 : Int32} {x2 : Int32} {x3 : Int32} {x4 : Int32} {σ : zv_St} (h : B_X5_hasNumbers Q  x1 x2 x3 x4 σ) : zv_V G X M_X5_hasNumbers 0 [(0, .ref (G.2.2.1 5)), (1, .int x1), (2, .int x2), (3, .int x3), (4, .int x4)] [] σ := by
  unfold B_X5_hasNumbers at h
  refine zv_aload_n hC dX5_hasNumbers_0 rfl ?_
  refine zv_getR (j := 6) hC fl_X5_9 dX5_hasNumbers_1 rfl rfl ?_
  refine zv_iload_n hC dX5_hasNumbers_4 rfl ?_
  refine zv_iald hC dX5_hasNumbers_5 rfl h.1 ?_
  replace h := h.2
  refine zv_iload_n hC dX5_hasNumbers_6 rfl ?_
  refine zv_icmp_ne (tgt := 35) hC dX5_hasNumbers_7 (by decide) (fun c => ?_) (fun c => ?_)
  · replace h := h.1 c
    exact zv_go (k_X5_hasNumbers_35 hC hR  h) trivial
  · replace h := h.2 c
    refine zv_aload_n hC dX5_hasNumbers_10 rfl ?_
    refine zv_getR (j := 7) hC fl_X5_15 dX5_hasNumbers_11 rfl rfl ?_
    refine zv_iload_n hC dX5_hasNumbers_14 rfl ?_
    refine zv_iald hC dX5_hasNumbers_15 rfl h.1 ?_
    replace h := h.2
    refine zv_iload_n hC dX5_hasNumbers_16 rfl ?_
    refine zv_icmp_ne (tgt := 35) hC dX5_hasNumbers_17 (by decide) (fun c => ?_) (fun c => ?_)
    · replace h := h.1 c
      exact zv_go (k_X5_hasNumbers_35 hC hR  h) trivial
    · replace h := h.2 c
      refine zv_aload_n hC dX5_hasNumbers_20 rfl ?_
      refine zv_getR (j := 8) hC fl_X5_18 dX5_hasNumbers_21 rfl rfl ?_
      refine zv_iload_n hC dX5_hasNumbers_24 rfl ?_
      refine zv_iald hC dX5_hasNumbers_25 rfl h.1 ?_
      replace h := h.2
      refine zv_iload hC dX5_hasNumbers_26 rfl ?_
      refine zv_icmp_ne (tgt := 35) hC dX5_hasNumbers_28 (by decide) (fun c => ?_) (fun c => ?_)
      · replace h := h.1 c
        exact zv_go (k_X5_hasNumbers_35 hC hR  h) trivial
      · replace h := h.2 c
        refine zv_iconst (v := 1) hC dX5_hasNumbers_31 (by decide) ?_
        refine zv_goto (tgt := 36) hC dX5_hasNumbers_32 (by decide) ?_
        exact zv_go (k_X5_hasNumbers_36 hC hR  h) trivial
theorem ok_X5_hasNumbers (G : zv_G) {Q : Int32 → zv_St → Prop} {x1 : Int32} {x2 : Int32} {x3 : Int32} {x4 : Int32} {σ : zv_St} (h : B_X5_hasNumbers Q x1 x2 x3 x4 σ) : zv_OK G M_X5_hasNumbers yX5_hasNumbers [.ref (G.2.2.1 5), .int x1, .int x2, .int x3, .int x4] σ (zv_qi Q) := zv_ok G _ _ _ _ _ (by decide +kernel) rfl (Nat.le_of_ble_eq_true rfl) (fun X hC hR => zv_go (k_X5_hasNumbers_0 hC hR h) ⟨rfl, rfl, rfl, rfl, rfl, trivial⟩)
-- X5_size
def B_X5_size (Q : Int32 → zv_St → Prop) (x1 : Int32) (σ : zv_St) : Prop :=
  vp_in x1 80 ∧ Q (σ.1 10 x1.toNatClampNeg) σ
set_option maxRecDepth 20000 in
set_option maxHeartbeats 2000000 in
theorem k_X5_size_0 {G : zv_G} {X : zv_X} {Q : Int32 → zv_St → Prop}  (hC : zv_C G X M_X5_size) (hR : zv_R G X M_X5_size (zv_qi Q))  {x1 : Int32} {σ : zv_St} (h : B_X5_size Q  x1 σ) : zv_V G X M_X5_size 0 [(0, .ref (G.2.2.1 5)), (1, .int x1)] [] σ := by
  unfold B_X5_size at h
  refine zv_aload_n hC dX5_size_0 rfl ?_
  refine zv_getR (j := 10) hC fl_X5_24 dX5_size_1 rfl rfl ?_
  refine zv_iload_n hC dX5_size_4 rfl ?_
  refine zv_iald hC dX5_size_5 rfl h.1 ?_
  replace h := h.2
  exact (hR _ _ _).1 _ rfl dX5_size_6 ⟨_, rfl, h⟩
theorem ok_X5_size (G : zv_G) {Q : Int32 → zv_St → Prop} {x1 : Int32} {σ : zv_St} (h : B_X5_size Q x1 σ) : zv_OK G M_X5_size yX5_size [.ref (G.2.2.1 5), .int x1] σ (zv_qi Q) := zv_ok G _ _ _ _ _ (by decide +kernel) rfl (Nat.le_of_ble_eq_true rfl) (fun X hC hR => zv_go (k_X5_size_0 hC hR h) ⟨rfl, rfl, trivial⟩)
-- X5_partAt
def B_X5_partAt (Q : Int32 → zv_St → Prop) (x1 : Int32) (x2 : Int32) (σ : zv_St) : Prop :=
  vp_in ((x1 * 8) + x2) 640 ∧ Q (σ.1 12 ((x1 * 8) + x2).toNatClampNeg) σ
set_option maxRecDepth 20000 in
set_option maxHeartbeats 2000000 in
theorem k_X5_partAt_0 {G : zv_G} {X : zv_X} {Q : Int32 → zv_St → Prop}  (hC : zv_C G X M_X5_partAt) (hR : zv_R G X M_X5_partAt (zv_qi Q))  {x1 : Int32} {x2 : Int32} {σ : zv_St} (h : B_X5_partAt Q  x1 x2 σ) : zv_V G X M_X5_partAt 0 [(0, .ref (G.2.2.1 5)), (1, .int x1), (2, .int x2)] [] σ := by
  unfold B_X5_partAt at h
  refine zv_aload_n hC dX5_partAt_0 rfl ?_
  refine zv_getR (j := 12) hC fl_X5_30 dX5_partAt_1 rfl rfl ?_
  refine zv_iload_n hC dX5_partAt_4 rfl ?_
  refine zv_bipush (v := 8) hC dX5_partAt_5 (by decide) ?_
  refine zv_imul hC dX5_partAt_7 ?_
  refine zv_iload_n hC dX5_partAt_8 rfl ?_
  refine zv_iadd hC dX5_partAt_9 ?_
  refine zv_iald hC dX5_partAt_10 rfl h.1 ?_
  replace h := h.2
  exact (hR _ _ _).1 _ rfl dX5_partAt_11 ⟨_, rfl, h⟩
theorem ok_X5_partAt (G : zv_G) {Q : Int32 → zv_St → Prop} {x1 : Int32} {x2 : Int32} {σ : zv_St} (h : B_X5_partAt Q x1 x2 σ) : zv_OK G M_X5_partAt yX5_partAt [.ref (G.2.2.1 5), .int x1, .int x2] σ (zv_qi Q) := zv_ok G _ _ _ _ _ (by decide +kernel) rfl (Nat.le_of_ble_eq_true rfl) (fun X hC hR => zv_go (k_X5_partAt_0 hC hR h) ⟨rfl, rfl, rfl, trivial⟩)
-- X9_touchesByParts
def L_X9_touchesByParts_2 (Q : Int32 → zv_St → Prop) : Nat → (Int32 → Int32 → zv_St → Prop)
  | 0 => fun _ _ _ => False
  | u + 1 => fun x1 x2 σ => 
    B_X5_size (fun r_2 σ_1 => (r_2 ≤ x2 → (Q 0 σ_1)) ∧ (¬ r_2 ≤ x2 → (B_X5_partAt (fun r_4 σ_3 => vp_in r_4 80 ∧ ((σ_3.1 18 r_4.toNatClampNeg) = 0 → ((L_X9_touchesByParts_2 Q u) x1 (x2 + 1) σ_3)) ∧ (¬ (σ_3.1 18 r_4.toNatClampNeg) = 0 → (Q 1 σ_3))) x1 x2 σ_1))) x1 σ
set_option maxRecDepth 20000 in
set_option maxHeartbeats 2000000 in
theorem kL_X9_touchesByParts_2 {G : zv_G} {X : zv_X} {Q : Int32 → zv_St → Prop}  (hC : zv_C G X M_X9_touchesByParts) (hR : zv_R G X M_X9_touchesByParts (zv_qi Q))  : ∀ (n : Nat) (x1 : Int32) (x2 : Int32) (σ : zv_St), L_X9_touchesByParts_2 Q  n x1 x2 σ → zv_V G X M_X9_touchesByParts 2 [(0, .ref (G.2.2.1 13)), (1, .int x1), (2, .int x2)] [] σ := by
  intro n
  induction n with
  | zero => intro x1 x2 σ h; exact h.elim
  | succ n hk2 =>
    intro x1 x2 σ h
    unfold L_X9_touchesByParts_2 at h
    refine zv_iload_n hC dX9_touchesByParts_2 rfl ?_
    refine zv_aload_n hC dX9_touchesByParts_3 rfl ?_
    refine zv_getR (j := 5) hC fl_X9_29 dX9_touchesByParts_4 rfl rfl ?_
    refine zv_iload_n hC dX9_touchesByParts_7 rfl ?_
    refine zv_callVi (As := [_]) hC dX9_touchesByParts_8 Y_X5_size lk_X9_55 (by decide) rfl rfl rfl (Nat.le_of_ble_eq_true rfl) (ok_X5_size G h) ?_
    intro r_2 σ_1 h
    refine zv_icmp_ge (tgt := 39) hC dX9_touchesByParts_11 (by decide) (fun c => ?_) (fun c => ?_)
    · replace h := h.1 c
      refine zv_iconst (v := 0) hC dX9_touchesByParts_39 (by decide) ?_
      exact (hR _ _ _).2.1 _ rfl rfl dX9_touchesByParts_40 ⟨_, rfl, h⟩
    · replace h := h.2 c
      refine zv_aload_n hC dX9_touchesByParts_14 rfl ?_
      refine zv_getR (j := 18) hC fl_X9_26 dX9_touchesByParts_15 rfl rfl ?_
      refine zv_aload_n hC dX9_touchesByParts_18 rfl ?_
      refine zv_getR (j := 5) hC fl_X9_29 dX9_touchesByParts_19 rfl rfl ?_
      refine zv_iload_n hC dX9_touchesByParts_22 rfl ?_
      refine zv_iload_n hC dX9_touchesByParts_23 rfl ?_
      refine zv_callVi (As := [_, _]) hC dX9_touchesByParts_24 Y_X5_partAt lk_X9_59 (by decide) rfl rfl rfl (Nat.le_of_ble_eq_true rfl) (ok_X5_partAt G h) ?_
      intro r_4 σ_3 h
      refine zv_zald hC dX9_touchesByParts_27 rfl h.1 ?_
      replace h := h.2
      refine zv_if_eq (tgt := 33) hC dX9_touchesByParts_28 (by decide) (fun c => ?_) (fun c => ?_)
      · replace h := h.1 c
        refine zv_iinc (v := 1) hC dX9_touchesByParts_33 rfl (by decide) (by decide) ?_
        refine zv_goto (tgt := 2) hC dX9_touchesByParts_36 (by decide) ?_
        exact zv_go (hk2 _ _ _ h) ⟨rfl, rfl, rfl, trivial⟩
      · replace h := h.2 c
        refine zv_iconst (v := 1) hC dX9_touchesByParts_31 (by decide) ?_
        exact (hR _ _ _).2.1 _ rfl rfl dX9_touchesByParts_32 ⟨_, rfl, h⟩
def B_X9_touchesByParts (Q : Int32 → zv_St → Prop) (x1 : Int32) (σ : zv_St) : Prop :=
  ∃ n2, L_X9_touchesByParts_2 Q n2 x1 0 σ
set_option maxRecDepth 20000 in
set_option maxHeartbeats 2000000 in
theorem k_X9_touchesByParts_0 {G : zv_G} {X : zv_X} {Q : Int32 → zv_St → Prop}  (hC : zv_C G X M_X9_touchesByParts) (hR : zv_R G X M_X9_touchesByParts (zv_qi Q))  {x1 : Int32} {σ : zv_St} (h : B_X9_touchesByParts Q  x1 σ) : zv_V G X M_X9_touchesByParts 0 [(0, .ref (G.2.2.1 13)), (1, .int x1)] [] σ := by
  unfold B_X9_touchesByParts at h
  refine zv_iconst (v := 0) hC dX9_touchesByParts_0 (by decide) ?_
  refine zv_istore_n hC dX9_touchesByParts_1 (by decide) ?_
  obtain ⟨n, h⟩ := h
  exact zv_go (kL_X9_touchesByParts_2 hC hR  n _ _ _ h) ⟨rfl, rfl, rfl, trivial⟩
theorem ok_X9_touchesByParts (G : zv_G) {Q : Int32 → zv_St → Prop} {x1 : Int32} {σ : zv_St} (h : B_X9_touchesByParts Q x1 σ) : zv_OK G M_X9_touchesByParts yX9_touchesByParts [.ref (G.2.2.1 13), .int x1] σ (zv_qi Q) := zv_ok G _ _ _ _ _ (by decide +kernel) rfl (Nat.le_of_ble_eq_true rfl) (fun X hC hR => zv_go (k_X9_touchesByParts_0 hC hR h) ⟨rfl, rfl, trivial⟩)
-- X9_dropThoseOverList
def B_X9_dropThoseOverList_74 (Q : zv_St → Prop) (kk2 : Int32 → Int32 → zv_St → Prop) (x1 : Int32) (x2 : Int32) (y1 : Int32) (y2 : Int32) (σ : zv_St) : Prop :=
  vp_in y1 80 ∧ ∀ σ_1 : zv_St, σ_1 = zv_wi σ 16 y1.toNatClampNeg (vp_nar .boolean y2) → kk2 x1 (x2 + 1) σ_1
set_option maxRecDepth 20000 in
set_option maxHeartbeats 2000000 in
theorem k_X9_dropThoseOverList_74 {G : zv_G} {X : zv_X} {Q : zv_St → Prop} {kk2 : Int32 → Int32 → zv_St → Prop} (hC : zv_C G X M_X9_dropThoseOverList) (hR : zv_R G X M_X9_dropThoseOverList (zv_qv Q)) (hk2 : ∀ (x1 : Int32) (x2 : Int32) (σ : zv_St), kk2 x1 x2 σ → zv_V G X M_X9_dropThoseOverList 2 [(0, .ref (G.2.2.1 13)), (1, .int x1), (2, .int x2)] [] σ) {x1 : Int32} {x2 : Int32} {y1 : Int32} {y2 : Int32} {σ : zv_St} (h : B_X9_dropThoseOverList_74 Q kk2 x1 x2 y1 y2 σ) : zv_V G X M_X9_dropThoseOverList 74 [(0, .ref (G.2.2.1 13)), (1, .int x1), (2, .int x2)] [.int y2, .int y1, .ref (G.2.2.1 16)] σ := by
  unfold B_X9_dropThoseOverList_74 at h
  refine zv_zast hC dX9_dropThoseOverList_74 rfl h.1 ?_
  replace h := h.2 _ rfl
  refine zv_iinc (v := 1) hC dX9_dropThoseOverList_75 rfl (by decide) (by decide) ?_
  refine zv_goto (tgt := 2) hC dX9_dropThoseOverList_78 (by decide) ?_
  exact zv_go (hk2 _ _ _ h) ⟨rfl, rfl, rfl, trivial⟩
def B_X9_dropThoseOverList_73 (Q : zv_St → Prop) (kk2 : Int32 → Int32 → zv_St → Prop) (x1 : Int32) (x2 : Int32) (y1 : Int32) (σ : zv_St) : Prop :=
  B_X9_dropThoseOverList_74 Q kk2 x1 x2 y1 0 σ
set_option maxRecDepth 20000 in
set_option maxHeartbeats 2000000 in
theorem k_X9_dropThoseOverList_73 {G : zv_G} {X : zv_X} {Q : zv_St → Prop} {kk2 : Int32 → Int32 → zv_St → Prop} (hC : zv_C G X M_X9_dropThoseOverList) (hR : zv_R G X M_X9_dropThoseOverList (zv_qv Q)) (hk2 : ∀ (x1 : Int32) (x2 : Int32) (σ : zv_St), kk2 x1 x2 σ → zv_V G X M_X9_dropThoseOverList 2 [(0, .ref (G.2.2.1 13)), (1, .int x1), (2, .int x2)] [] σ) {x1 : Int32} {x2 : Int32} {y1 : Int32} {σ : zv_St} (h : B_X9_dropThoseOverList_73 Q kk2 x1 x2 y1 σ) : zv_V G X M_X9_dropThoseOverList 73 [(0, .ref (G.2.2.1 13)), (1, .int x1), (2, .int x2)] [.int y1, .ref (G.2.2.1 16)] σ := by
  unfold B_X9_dropThoseOverList_73 at h
  refine zv_iconst (v := 0) hC dX9_dropThoseOverList_73 (by decide) ?_
  exact zv_go (k_X9_dropThoseOverList_74 hC hR hk2 h) ⟨rfl, rfl, rfl, trivial⟩
def B_X9_dropThoseOverList_45 (Q : zv_St → Prop) (kk2 : Int32 → Int32 → zv_St → Prop) (x1 : Int32) (x2 : Int32) (y1 : Int32) (y2 : Int32) (σ : zv_St) : Prop :=
  vp_in y1 80 ∧ ∀ σ_1 : zv_St, σ_1 = zv_wi σ 18 y1.toNatClampNeg (vp_nar .boolean y2) → vp_in x2 80 ∧ ((σ_1.1 16 x2.toNatClampNeg) = 0 → (B_X9_dropThoseOverList_73 Q kk2 x1 x2 x2 σ_1)) ∧ (¬ (σ_1.1 16 x2.toNatClampNeg) = 0 → (vp_in x2 80 ∧ (¬ (σ_1.1 18 x2.toNatClampNeg) = 0 → (B_X9_dropThoseOverList_73 Q kk2 x1 x2 x2 σ_1)) ∧ ((σ_1.1 18 x2.toNatClampNeg) = 0 → (B_X9_dropThoseOverList_74 Q kk2 x1 x2 x2 1 σ_1))))
set_option maxRecDepth 20000 in
set_option maxHeartbeats 2000000 in
theorem k_X9_dropThoseOverList_45 {G : zv_G} {X : zv_X} {Q : zv_St → Prop} {kk2 : Int32 → Int32 → zv_St → Prop} (hC : zv_C G X M_X9_dropThoseOverList) (hR : zv_R G X M_X9_dropThoseOverList (zv_qv Q)) (hk2 : ∀ (x1 : Int32) (x2 : Int32) (σ : zv_St), kk2 x1 x2 σ → zv_V G X M_X9_dropThoseOverList 2 [(0, .ref (G.2.2.1 13)), (1, .int x1), (2, .int x2)] [] σ) {x1 : Int32} {x2 : Int32} {y1 : Int32} {y2 : Int32} {σ : zv_St} (h : B_X9_dropThoseOverList_45 Q kk2 x1 x2 y1 y2 σ) : zv_V G X M_X9_dropThoseOverList 45 [(0, .ref (G.2.2.1 13)), (1, .int x1), (2, .int x2)] [.int y2, .int y1, .ref (G.2.2.1 18)] σ := by
  unfold B_X9_dropThoseOverList_45 at h
  refine zv_zast hC dX9_dropThoseOverList_45 rfl h.1 ?_
  replace h := h.2 _ rfl
  refine zv_aload_n hC dX9_dropThoseOverList_46 rfl ?_
  refine zv_getR (j := 16) hC fl_X9_18 dX9_dropThoseOverList_47 rfl rfl ?_
  refine zv_iload_n hC dX9_dropThoseOverList_50 rfl ?_
  refine zv_aload_n hC dX9_dropThoseOverList_51 rfl ?_
  refine zv_getR (j := 16) hC fl_X9_18 dX9_dropThoseOverList_52 rfl rfl ?_
  refine zv_iload_n hC dX9_dropThoseOverList_55 rfl ?_
  refine zv_zald hC dX9_dropThoseOverList_56 rfl h.1 ?_
  replace h := h.2
  refine zv_if_eq (tgt := 73) hC dX9_dropThoseOverList_57 (by decide) (fun c => ?_) (fun c => ?_)
  · replace h := h.1 c
    exact zv_go (k_X9_dropThoseOverList_73 hC hR hk2 h) ⟨rfl, rfl, rfl, trivial⟩
  · replace h := h.2 c
    refine zv_aload_n hC dX9_dropThoseOverList_60 rfl ?_
    refine zv_getR (j := 18) hC fl_X9_26 dX9_dropThoseOverList_61 rfl rfl ?_
    refine zv_iload_n hC dX9_dropThoseOverList_64 rfl ?_
    refine zv_zald hC dX9_dropThoseOverList_65 rfl h.1 ?_
    replace h := h.2
    refine zv_if_ne (tgt := 73) hC dX9_dropThoseOverList_66 (by decide) (fun c => ?_) (fun c => ?_)
    · replace h := h.1 c
      exact zv_go (k_X9_dropThoseOverList_73 hC hR hk2 h) ⟨rfl, rfl, rfl, trivial⟩
    · replace h := h.2 c
      refine zv_iconst (v := 1) hC dX9_dropThoseOverList_69 (by decide) ?_
      refine zv_goto (tgt := 74) hC dX9_dropThoseOverList_70 (by decide) ?_
      exact zv_go (k_X9_dropThoseOverList_74 hC hR hk2 h) ⟨rfl, rfl, rfl, trivial⟩
def B_X9_dropThoseOverList_40 (Q : zv_St → Prop) (kk2 : Int32 → Int32 → zv_St → Prop) (x1 : Int32) (x2 : Int32) (y1 : Int32) (σ : zv_St) : Prop :=
  B_X9_dropThoseOverList_45 Q kk2 x1 x2 y1 1 σ
set_option maxRecDepth 20000 in
set_option maxHeartbeats 2000000 in
theorem k_X9_dropThoseOverList_40 {G : zv_G} {X : zv_X} {Q : zv_St → Prop} {kk2 : Int32 → Int32 → zv_St → Prop} (hC : zv_C G X M_X9_dropThoseOverList) (hR : zv_R G X M_X9_dropThoseOverList (zv_qv Q)) (hk2 : ∀ (x1 : Int32) (x2 : Int32) (σ : zv_St), kk2 x1 x2 σ → zv_V G X M_X9_dropThoseOverList 2 [(0, .ref (G.2.2.1 13)), (1, .int x1), (2, .int x2)] [] σ) {x1 : Int32} {x2 : Int32} {y1 : Int32} {σ : zv_St} (h : B_X9_dropThoseOverList_40 Q kk2 x1 x2 y1 σ) : zv_V G X M_X9_dropThoseOverList 40 [(0, .ref (G.2.2.1 13)), (1, .int x1), (2, .int x2)] [.int y1, .ref (G.2.2.1 18)] σ := by
  unfold B_X9_dropThoseOverList_40 at h
  refine zv_iconst (v := 1) hC dX9_dropThoseOverList_40 (by decide) ?_
  refine zv_goto (tgt := 45) hC dX9_dropThoseOverList_41 (by decide) ?_
  exact zv_go (k_X9_dropThoseOverList_45 hC hR hk2 h) ⟨rfl, rfl, rfl, trivial⟩
def L_X9_dropThoseOverList_2 (Q : zv_St → Prop) : Nat → (Int32 → Int32 → zv_St → Prop)
  | 0 => fun _ _ _ => False
  | u + 1 => fun x1 x2 σ => 
    B_X5_count (fun r_2 σ_1 => (r_2 ≤ x2 → (Q σ_1)) ∧ (¬ r_2 ≤ x2 → (B_X5_hasNumbers (fun r_4 σ_3 => (¬ r_4 = 0 → (B_X9_dropThoseOverList_40 Q (L_X9_dropThoseOverList_2 Q u) x1 x2 x2 σ_3)) ∧ (r_4 = 0 → (B_X9_touchesByParts (fun r_6 σ_5 => (r_6 = 0 → (B_X9_dropThoseOverList_45 Q (L_X9_dropThoseOverList_2 Q u) x1 x2 x2 0 σ_5)) ∧ (¬ r_6 = 0 → (B_X9_dropThoseOverList_40 Q (L_X9_dropThoseOverList_2 Q u) x1 x2 x2 σ_5))) x2 σ_3))) x2 0 x1 0 σ_1))) σ
set_option maxRecDepth 20000 in
set_option maxHeartbeats 2000000 in
theorem kL_X9_dropThoseOverList_2 {G : zv_G} {X : zv_X} {Q : zv_St → Prop}  (hC : zv_C G X M_X9_dropThoseOverList) (hR : zv_R G X M_X9_dropThoseOverList (zv_qv Q))  : ∀ (n : Nat) (x1 : Int32) (x2 : Int32) (σ : zv_St), L_X9_dropThoseOverList_2 Q  n x1 x2 σ → zv_V G X M_X9_dropThoseOverList 2 [(0, .ref (G.2.2.1 13)), (1, .int x1), (2, .int x2)] [] σ := by
  intro n
  induction n with
  | zero => intro x1 x2 σ h; exact h.elim
  | succ n hk2 =>
    intro x1 x2 σ h
    unfold L_X9_dropThoseOverList_2 at h
    refine zv_iload_n hC dX9_dropThoseOverList_2 rfl ?_
    refine zv_aload_n hC dX9_dropThoseOverList_3 rfl ?_
    refine zv_getR (j := 5) hC fl_X9_29 dX9_dropThoseOverList_4 rfl rfl ?_
    refine zv_callVi (As := []) hC dX9_dropThoseOverList_7 Y_X5_count lk_X9_41 (by decide) rfl rfl rfl (Nat.le_of_ble_eq_true rfl) (ok_X5_count G h) ?_
    intro r_2 σ_1 h
    refine zv_icmp_ge (tgt := 81) hC dX9_dropThoseOverList_10 (by decide) (fun c => ?_) (fun c => ?_)
    · replace h := h.1 c
      exact (hR _ _ _).2.2.2.1 rfl dX9_dropThoseOverList_81 ⟨rfl, h⟩
    · replace h := h.2 c
      refine zv_aload_n hC dX9_dropThoseOverList_13 rfl ?_
      refine zv_getR (j := 18) hC fl_X9_26 dX9_dropThoseOverList_14 rfl rfl ?_
      refine zv_iload_n hC dX9_dropThoseOverList_17 rfl ?_
      refine zv_aload_n hC dX9_dropThoseOverList_18 rfl ?_
      refine zv_getR (j := 5) hC fl_X9_29 dX9_dropThoseOverList_19 rfl rfl ?_
      refine zv_iload_n hC dX9_dropThoseOverList_22 rfl ?_
      refine zv_iconst (v := 0) hC dX9_dropThoseOverList_23 (by decide) ?_
      refine zv_iload_n hC dX9_dropThoseOverList_24 rfl ?_
      refine zv_iconst (v := 0) hC dX9_dropThoseOverList_25 (by decide) ?_
      refine zv_callVi (As := [_, _, _, _]) hC dX9_dropThoseOverList_26 Y_X5_hasNumbers lk_X9_51 (by decide) rfl rfl rfl (Nat.le_of_ble_eq_true rfl) (ok_X5_hasNumbers G h) ?_
      intro r_4 σ_3 h
      refine zv_if_ne (tgt := 40) hC dX9_dropThoseOverList_29 (by decide) (fun c => ?_) (fun c => ?_)
      · replace h := h.1 c
        exact zv_go (k_X9_dropThoseOverList_40 hC hR hk2 h) ⟨rfl, rfl, rfl, trivial⟩
      · replace h := h.2 c
        refine zv_aload_n hC dX9_dropThoseOverList_32 rfl ?_
        refine zv_iload_n hC dX9_dropThoseOverList_33 rfl ?_
        refine zv_callVi (As := [_]) hC dX9_dropThoseOverList_34 Y_X9_touchesByParts lk_X9_47 (by decide) rfl rfl rfl (Nat.le_of_ble_eq_true rfl) (ok_X9_touchesByParts G h) ?_
        intro r_6 σ_5 h
        refine zv_if_eq (tgt := 44) hC dX9_dropThoseOverList_37 (by decide) (fun c => ?_) (fun c => ?_)
        · replace h := h.1 c
          refine zv_iconst (v := 0) hC dX9_dropThoseOverList_44 (by decide) ?_
          exact zv_go (k_X9_dropThoseOverList_45 hC hR hk2 h) ⟨rfl, rfl, rfl, trivial⟩
        · replace h := h.2 c
          exact zv_go (k_X9_dropThoseOverList_40 hC hR hk2 h) ⟨rfl, rfl, rfl, trivial⟩
def B_X9_dropThoseOverList (Q : zv_St → Prop) (x1 : Int32) (σ : zv_St) : Prop :=
  ∃ n2, L_X9_dropThoseOverList_2 Q n2 x1 0 σ
set_option maxRecDepth 20000 in
set_option maxHeartbeats 2000000 in
theorem k_X9_dropThoseOverList_0 {G : zv_G} {X : zv_X} {Q : zv_St → Prop}  (hC : zv_C G X M_X9_dropThoseOverList) (hR : zv_R G X M_X9_dropThoseOverList (zv_qv Q))  {x1 : Int32} {σ : zv_St} (h : B_X9_dropThoseOverList Q  x1 σ) : zv_V G X M_X9_dropThoseOverList 0 [(0, .ref (G.2.2.1 13)), (1, .int x1)] [] σ := by
  unfold B_X9_dropThoseOverList at h
  refine zv_iconst (v := 0) hC dX9_dropThoseOverList_0 (by decide) ?_
  refine zv_istore_n hC dX9_dropThoseOverList_1 (by decide) ?_
  obtain ⟨n, h⟩ := h
  exact zv_go (kL_X9_dropThoseOverList_2 hC hR  n _ _ _ h) ⟨rfl, rfl, rfl, trivial⟩
theorem ok_X9_dropThoseOverList (G : zv_G) {Q : zv_St → Prop} {x1 : Int32} {σ : zv_St} (h : B_X9_dropThoseOverList Q x1 σ) : zv_OK G M_X9_dropThoseOverList yX9_dropThoseOverList [.ref (G.2.2.1 13), .int x1] σ (zv_qv Q) := zv_ok G _ _ _ _ _ (by decide +kernel) rfl (Nat.le_of_ble_eq_true rfl) (fun X hC hR => zv_go (k_X9_dropThoseOverList_0 hC hR h) ⟨rfl, rfl, trivial⟩)
-- J9_min_7cf53
def B_J9_min_7cf53_10 (Q : Int32 → zv_St → Prop) (y0 : Int32) (σ : zv_St) : Prop :=
  Q y0 σ
set_option maxRecDepth 20000 in
set_option maxHeartbeats 2000000 in
theorem k_J9_min_7cf53_10 {G : zv_G} {X : zv_X} {Q : Int32 → zv_St → Prop}  (hC : zv_C G X M_J9_min_7cf53) (hR : zv_R G X M_J9_min_7cf53 (zv_qi Q))  {y0 : Int32} {σ : zv_St} (h : B_J9_min_7cf53_10 Q  y0 σ) : zv_V G X M_J9_min_7cf53 10 [] [.int y0] σ := by
  unfold B_J9_min_7cf53_10 at h
  exact (hR _ _ _).1 _ rfl dJ9_min_7cf53_10 ⟨_, rfl, h⟩
def B_J9_min_7cf53 (Q : Int32 → zv_St → Prop) (x0 : Int32) (x1 : Int32) (σ : zv_St) : Prop :=
  (x1 < x0 → (B_J9_min_7cf53_10 Q x1 σ)) ∧ (¬ x1 < x0 → (B_J9_min_7cf53_10 Q x0 σ))
set_option maxRecDepth 20000 in
set_option maxHeartbeats 2000000 in
theorem k_J9_min_7cf53_0 {G : zv_G} {X : zv_X} {Q : Int32 → zv_St → Prop}  (hC : zv_C G X M_J9_min_7cf53) (hR : zv_R G X M_J9_min_7cf53 (zv_qi Q))  {x0 : Int32} {x1 : Int32} {σ : zv_St} (h : B_J9_min_7cf53 Q  x0 x1 σ) : zv_V G X M_J9_min_7cf53 0 [(0, .int x0), (1, .int x1)] [] σ := by
  unfold B_J9_min_7cf53 at h
  refine zv_iload_n hC dJ9_min_7cf53_0 rfl ?_
  refine zv_iload_n hC dJ9_min_7cf53_1 rfl ?_
  refine zv_icmp_gt (tgt := 9) hC dJ9_min_7cf53_2 (by decide) (fun c => ?_) (fun c => ?_)
  · replace h := h.1 c
    refine zv_iload_n hC dJ9_min_7cf53_9 rfl ?_
    exact zv_go (k_J9_min_7cf53_10 hC hR  h) trivial
  · replace h := h.2 c
    refine zv_iload_n hC dJ9_min_7cf53_5 rfl ?_
    refine zv_goto (tgt := 10) hC dJ9_min_7cf53_6 (by decide) ?_
    exact zv_go (k_J9_min_7cf53_10 hC hR  h) trivial
theorem ok_J9_min_7cf53 (G : zv_G) {Q : Int32 → zv_St → Prop} {x0 : Int32} {x1 : Int32} {σ : zv_St} (h : B_J9_min_7cf53 Q x0 x1 σ) : zv_OK G M_J9_min_7cf53 yJ9_min_7cf53 [.int x0, .int x1] σ (zv_qi Q) := zv_ok G _ _ _ _ _ (by decide +kernel) rfl (Nat.le_of_ble_eq_true rfl) (fun X hC hR => zv_go (k_J9_min_7cf53_0 hC hR h) ⟨rfl, rfl, trivial⟩)
-- X0_forgetFrom
def B_X0_forgetFrom (Q : zv_St → Prop) (x1 : Int32) (σ : zv_St) : Prop :=
  B_J9_min_7cf53 (fun r_2 σ_1 => ∀ σ_3 : zv_St, σ_3 = zv_wi σ_1 19 8 r_2 → Q σ_3) (σ.1 19 8) x1 σ
set_option maxRecDepth 20000 in
set_option maxHeartbeats 2000000 in
theorem k_X0_forgetFrom_0 {G : zv_G} {X : zv_X} {Q : zv_St → Prop}  (hC : zv_C G X M_X0_forgetFrom) (hR : zv_R G X M_X0_forgetFrom (zv_qv Q))  {x1 : Int32} {σ : zv_St} (h : B_X0_forgetFrom Q  x1 σ) : zv_V G X M_X0_forgetFrom 0 [(0, .ref (G.2.2.1 19)), (1, .int x1)] [] σ := by
  unfold B_X0_forgetFrom at h
  refine zv_aload_n hC dX0_forgetFrom_0 rfl ?_
  refine zv_aload_n hC dX0_forgetFrom_1 rfl ?_
  refine zv_getI hC fl_X0_48 dX0_forgetFrom_2 rfl rfl ?_
  refine zv_iload_n hC dX0_forgetFrom_5 rfl ?_
  refine zv_callSi (As := [_, _]) hC dX0_forgetFrom_6 Y_J9_min_7cf53 lk_X0_52 (by decide) rfl rfl (Nat.le_of_ble_eq_true rfl) (ok_J9_min_7cf53 G h) ?_
  intro r_2 σ_1 h
  refine zv_putI hC fp_X0_48 dX0_forgetFrom_9 rfl rfl rfl rfl ?_
  replace h := h _ rfl
  exact (hR _ _ _).2.2.2.1 rfl dX0_forgetFrom_12 ⟨rfl, h⟩
theorem ok_X0_forgetFrom (G : zv_G) {Q : zv_St → Prop} {x1 : Int32} {σ : zv_St} (h : B_X0_forgetFrom Q x1 σ) : zv_OK G M_X0_forgetFrom yX0_forgetFrom [.ref (G.2.2.1 19), .int x1] σ (zv_qv Q) := zv_ok G _ _ _ _ _ (by decide +kernel) rfl (Nat.le_of_ble_eq_true rfl) (fun X hC hR => zv_go (k_X0_forgetFrom_0 hC hR h) ⟨rfl, rfl, trivial⟩)
-- X10_listHasChanged
def B_X10_listHasChanged (Q : zv_St → Prop) (x1 : Int32) (σ : zv_St) : Prop :=
  B_X9_dropThoseOverList (fun σ_1 => B_X0_forgetFrom (fun σ_2 => Q σ_2) 0 σ_1) x1 σ
set_option maxRecDepth 20000 in
set_option maxHeartbeats 2000000 in
theorem k_X10_listHasChanged_0 {G : zv_G} {X : zv_X} {Q : zv_St → Prop}  (hC : zv_C G X M_X10_listHasChanged) (hR : zv_R G X M_X10_listHasChanged (zv_qv Q))  {x1 : Int32} {σ : zv_St} (h : B_X10_listHasChanged Q  x1 σ) : zv_V G X M_X10_listHasChanged 0 [(0, .ref (G.2.2.1 0)), (1, .int x1)] [] σ := by
  unfold B_X10_listHasChanged at h
  refine zv_aload_n hC dX10_listHasChanged_0 rfl ?_
  refine zv_getR (j := 13) hC fl_X10_28 dX10_listHasChanged_1 rfl rfl ?_
  refine zv_iload_n hC dX10_listHasChanged_4 rfl ?_
  refine zv_callVv (As := [_]) hC dX10_listHasChanged_5 Y_X9_dropThoseOverList lk_X10_242 (by decide) rfl rfl rfl (Nat.le_of_ble_eq_true rfl) (ok_X9_dropThoseOverList G h) ?_
  intro σ_1 h
  refine zv_aload_n hC dX10_listHasChanged_8 rfl ?_
  refine zv_getR (j := 19) hC fl_X10_37 dX10_listHasChanged_9 rfl rfl ?_
  refine zv_iconst (v := 0) hC dX10_listHasChanged_12 (by decide) ?_
  refine zv_callVv (As := [_]) hC dX10_listHasChanged_13 Y_X0_forgetFrom lk_X10_133 (by decide) rfl rfl rfl (Nat.le_of_ble_eq_true rfl) (ok_X0_forgetFrom G h) ?_
  intro σ_2 h
  exact (hR _ _ _).2.2.2.1 rfl dX10_listHasChanged_16 ⟨rfl, h⟩
theorem ok_X10_listHasChanged (G : zv_G) {Q : zv_St → Prop} {x1 : Int32} {σ : zv_St} (h : B_X10_listHasChanged Q x1 σ) : zv_OK G M_X10_listHasChanged yX10_listHasChanged [.ref (G.2.2.1 0), .int x1] σ (zv_qv Q) := zv_ok G _ _ _ _ _ (by decide +kernel) rfl (Nat.le_of_ble_eq_true rfl) (fun X hC hR => zv_go (k_X10_listHasChanged_0 hC hR h) ⟨rfl, rfl, trivial⟩)
-- X3_size
def B_X3_size (Q : Int32 → zv_St → Prop) (x1 : Int32) (σ : zv_St) : Prop :=
  vp_in x1 16 ∧ Q (σ.1 4 x1.toNatClampNeg) σ
set_option maxRecDepth 20000 in
set_option maxHeartbeats 2000000 in
theorem k_X3_size_0 {G : zv_G} {X : zv_X} {Q : Int32 → zv_St → Prop}  (hC : zv_C G X M_X3_size) (hR : zv_R G X M_X3_size (zv_qi Q))  {x1 : Int32} {σ : zv_St} (h : B_X3_size Q  x1 σ) : zv_V G X M_X3_size 0 [(0, .ref (G.2.2.1 1)), (1, .int x1)] [] σ := by
  unfold B_X3_size at h
  refine zv_aload_n hC dX3_size_0 rfl ?_
  refine zv_getR (j := 4) hC fl_X3_18 dX3_size_1 rfl rfl ?_
  refine zv_iload_n hC dX3_size_4 rfl ?_
  refine zv_iald hC dX3_size_5 rfl h.1 ?_
  replace h := h.2
  exact (hR _ _ _).1 _ rfl dX3_size_6 ⟨_, rfl, h⟩
theorem ok_X3_size (G : zv_G) {Q : Int32 → zv_St → Prop} {x1 : Int32} {σ : zv_St} (h : B_X3_size Q x1 σ) : zv_OK G M_X3_size yX3_size [.ref (G.2.2.1 1), .int x1] σ (zv_qi Q) := zv_ok G _ _ _ _ _ (by decide +kernel) rfl (Nat.le_of_ble_eq_true rfl) (fun X hC hR => zv_go (k_X3_size_0 hC hR h) ⟨rfl, rfl, trivial⟩)
-- X10_put
def B_X10_put_23 (Q : Int32 → zv_St → Prop) (σ : zv_St) : Prop :=
  Q (-2) σ
set_option maxRecDepth 20000 in
set_option maxHeartbeats 2000000 in
theorem k_X10_put_23 {G : zv_G} {X : zv_X} {Q : Int32 → zv_St → Prop}  (hC : zv_C G X M_X10_put) (hR : zv_R G X M_X10_put (zv_qi Q))   {σ : zv_St} (h : B_X10_put_23 Q   σ) : zv_V G X M_X10_put 23 [] [] σ := by
  unfold B_X10_put_23 at h
  refine zv_bipush (v := (-2)) hC dX10_put_23 (by decide) ?_
  exact (hR _ _ _).1 _ rfl dX10_put_25 ⟨_, rfl, h⟩
def B_X10_put (Q : Int32 → zv_St → Prop) (x1 : Int32) (x2 : Int32) (x3 : Int32) (σ : zv_St) : Prop :=
  B_X10_isList (fun r_2 σ_1 => (r_2 = 0 → (B_X10_put_23 Q σ_1)) ∧ (¬ r_2 = 0 → (B_X10_isObject (fun r_4 σ_3 => (r_4 = 0 → (B_X10_put_23 Q σ_3)) ∧ (¬ r_4 = 0 → (B_X10_isWithin (fun r_6 σ_5 => (¬ r_6 = 0 → (B_X3_store (fun r_8 σ_7 => (¬ r_8 = 0 → (B_X10_listHasChanged (fun σ_9 => B_X3_size (fun r_11 σ_10 => Q r_11 σ_10) x1 σ_9) x1 σ_7)) ∧ (r_8 = 0 → (Q (-3) σ_7))) x1 x2 x3 σ_5)) ∧ (r_6 = 0 → (B_X10_put_23 Q σ_5))) x3 1000000 σ_3))) x2 σ_1))) x1 σ
set_option maxRecDepth 20000 in
set_option maxHeartbeats 2000000 in
theorem k_X10_put_0 {G : zv_G} {X : zv_X} {Q : Int32 → zv_St → Prop}  (hC : zv_C G X M_X10_put) (hR : zv_R G X M_X10_put (zv_qi Q))  {x1 : Int32} {x2 : Int32} {x3 : Int32} {σ : zv_St} (h : B_X10_put Q  x1 x2 x3 σ) : zv_V G X M_X10_put 0 [(0, .ref (G.2.2.1 0)), (1, .int x1), (2, .int x2), (3, .int x3)] [] σ := by
  unfold B_X10_put at h
  refine zv_iload_n hC dX10_put_0 rfl ?_
  refine zv_callSi (As := [_]) hC dX10_put_1 Y_X10_isList lk_X10_73 (by decide) rfl rfl (Nat.le_of_ble_eq_true rfl) (ok_X10_isList G h) ?_
  intro r_2 σ_1 h
  refine zv_if_eq (tgt := 23) hC dX10_put_4 (by decide) (fun c => ?_) (fun c => ?_)
  · replace h := h.1 c
    exact zv_go (k_X10_put_23 hC hR  h) trivial
  · replace h := h.2 c
    refine zv_iload_n hC dX10_put_7 rfl ?_
    refine zv_callSi (As := [_]) hC dX10_put_8 Y_X10_isObject lk_X10_77 (by decide) rfl rfl (Nat.le_of_ble_eq_true rfl) (ok_X10_isObject G h) ?_
    intro r_4 σ_3 h
    refine zv_if_eq (tgt := 23) hC dX10_put_11 (by decide) (fun c => ?_) (fun c => ?_)
    · replace h := h.1 c
      exact zv_go (k_X10_put_23 hC hR  h) trivial
    · replace h := h.2 c
      refine zv_iload_n hC dX10_put_14 rfl ?_
      refine zv_ldc hC dX10_put_15 cst_X10_80 ?_
      refine zv_callSi (As := [_, _]) hC dX10_put_17 Y_X10_isWithin lk_X10_81 (by decide) rfl rfl (Nat.le_of_ble_eq_true rfl) (ok_X10_isWithin G h) ?_
      intro r_6 σ_5 h
      refine zv_if_ne (tgt := 26) hC dX10_put_20 (by decide) (fun c => ?_) (fun c => ?_)
      · replace h := h.1 c
        refine zv_aload_n hC dX10_put_26 rfl ?_
        refine zv_getR (j := 1) hC fl_X10_12 dX10_put_27 rfl rfl ?_
        refine zv_iload_n hC dX10_put_30 rfl ?_
        refine zv_iload_n hC dX10_put_31 rfl ?_
        refine zv_iload_n hC dX10_put_32 rfl ?_
        refine zv_callVi (As := [_, _, _]) hC dX10_put_33 Y_X3_store lk_X10_85 (by decide) rfl rfl rfl (Nat.le_of_ble_eq_true rfl) (ok_X3_store G h) ?_
        intro r_8 σ_7 h
        refine zv_if_ne (tgt := 42) hC dX10_put_36 (by decide) (fun c => ?_) (fun c => ?_)
        · replace h := h.1 c
          refine zv_aload_n hC dX10_put_42 rfl ?_
          refine zv_iload_n hC dX10_put_43 rfl ?_
          refine zv_callVv (As := [_]) hC dX10_put_44 Y_X10_listHasChanged lk_X10_89 (by decide) rfl rfl rfl (Nat.le_of_ble_eq_true rfl) (ok_X10_listHasChanged G h) ?_
          intro σ_9 h
          refine zv_aload_n hC dX10_put_47 rfl ?_
          refine zv_getR (j := 1) hC fl_X10_12 dX10_put_48 rfl rfl ?_
          refine zv_iload_n hC dX10_put_51 rfl ?_
          refine zv_callVi (As := [_]) hC dX10_put_52 Y_X3_size lk_X10_93 (by decide) rfl rfl rfl (Nat.le_of_ble_eq_true rfl) (ok_X3_size G h) ?_
          intro r_11 σ_10 h
          exact (hR _ _ _).1 _ rfl dX10_put_55 ⟨_, rfl, h⟩
        · replace h := h.2 c
          refine zv_bipush (v := (-3)) hC dX10_put_39 (by decide) ?_
          exact (hR _ _ _).1 _ rfl dX10_put_41 ⟨_, rfl, h⟩
      · replace h := h.2 c
        exact zv_go (k_X10_put_23 hC hR  h) trivial
theorem ok_X10_put (G : zv_G) {Q : Int32 → zv_St → Prop} {x1 : Int32} {x2 : Int32} {x3 : Int32} {σ : zv_St} (h : B_X10_put Q x1 x2 x3 σ) : zv_OK G M_X10_put yX10_put [.ref (G.2.2.1 0), .int x1, .int x2, .int x3] σ (zv_qi Q) := zv_ok G _ _ _ _ _ (by decide +kernel) rfl (Nat.le_of_ble_eq_true rfl) (fun X hC hR => zv_go (k_X10_put_0 hC hR h) ⟨rfl, rfl, rfl, rfl, trivial⟩)
-- X3_weightOf
def B_X3_weightOf_22 (Q : Int32 → zv_St → Prop) (y0 : Int32) (σ : zv_St) : Prop :=
  Q y0 σ
set_option maxRecDepth 20000 in
set_option maxHeartbeats 2000000 in
theorem k_X3_weightOf_22 {G : zv_G} {X : zv_X} {Q : Int32 → zv_St → Prop}  (hC : zv_C G X M_X3_weightOf) (hR : zv_R G X M_X3_weightOf (zv_qi Q))  {y0 : Int32} {σ : zv_St} (h : B_X3_weightOf_22 Q  y0 σ) : zv_V G X M_X3_weightOf 22 [] [.int y0] σ := by
  unfold B_X3_weightOf_22 at h
  exact (hR _ _ _).1 _ rfl dX3_weightOf_22 ⟨_, rfl, h⟩
def B_X3_weightOf (Q : Int32 → zv_St → Prop) (x1 : Int32) (x2 : Int32) (σ : zv_St) : Prop :=
  B_X3_placeOf (fun r_2 σ_1 => (¬ r_2 = (-1) → (vp_in r_2 960 ∧ B_X3_weightOf_22 Q (σ_1.1 3 r_2.toNatClampNeg) σ_1)) ∧ (r_2 = (-1) → (B_X3_weightOf_22 Q 0 σ_1))) x1 x2 σ
set_option maxRecDepth 20000 in
set_option maxHeartbeats 2000000 in
theorem k_X3_weightOf_0 {G : zv_G} {X : zv_X} {Q : Int32 → zv_St → Prop}  (hC : zv_C G X M_X3_weightOf) (hR : zv_R G X M_X3_weightOf (zv_qi Q))  {x1 : Int32} {x2 : Int32} {σ : zv_St} (h : B_X3_weightOf Q  x1 x2 σ) : zv_V G X M_X3_weightOf 0 [(0, .ref (G.2.2.1 1)), (1, .int x1), (2, .int x2)] [] σ := by
  unfold B_X3_weightOf at h
  refine zv_aload_n hC dX3_weightOf_0 rfl ?_
  refine zv_iload_n hC dX3_weightOf_1 rfl ?_
  refine zv_iload_n hC dX3_weightOf_2 rfl ?_
  refine zv_callVi (As := [_, _]) hC dX3_weightOf_3 Y_X3_placeOf lk_X3_21 (by decide) rfl rfl rfl (Nat.le_of_ble_eq_true rfl) (ok_X3_placeOf G h) ?_
  intro r_2 σ_1 h
  refine zv_istore_n hC dX3_weightOf_6 (by decide) ?_
  refine zv_iload_n hC dX3_weightOf_7 rfl ?_
  refine zv_iconst (v := (-1)) hC dX3_weightOf_8 (by decide) ?_
  refine zv_icmp_ne (tgt := 16) hC dX3_weightOf_9 (by decide) (fun c => ?_) (fun c => ?_)
  · replace h := h.1 c
    refine zv_aload_n hC dX3_weightOf_16 rfl ?_
    refine zv_getR (j := 3) hC fl_X3_15 dX3_weightOf_17 rfl rfl ?_
    refine zv_iload_n hC dX3_weightOf_20 rfl ?_
    refine zv_iald hC dX3_weightOf_21 rfl h.1 ?_
    replace h := h.2
    exact zv_go (k_X3_weightOf_22 hC hR  h) trivial
  · replace h := h.2 c
    refine zv_iconst (v := 0) hC dX3_weightOf_12 (by decide) ?_
    refine zv_goto (tgt := 22) hC dX3_weightOf_13 (by decide) ?_
    exact zv_go (k_X3_weightOf_22 hC hR  h) trivial
theorem ok_X3_weightOf (G : zv_G) {Q : Int32 → zv_St → Prop} {x1 : Int32} {x2 : Int32} {σ : zv_St} (h : B_X3_weightOf Q x1 x2 σ) : zv_OK G M_X3_weightOf yX3_weightOf [.ref (G.2.2.1 1), .int x1, .int x2] σ (zv_qi Q) := zv_ok G _ _ _ _ _ (by decide +kernel) rfl (Nat.le_of_ble_eq_true rfl) (fun X hC hR => zv_go (k_X3_weightOf_0 hC hR h) ⟨rfl, rfl, rfl, trivial⟩)
-- X3_remove
def B_X3_remove (Q : zv_St → Prop) (x1 : Int32) (x2 : Int32) (σ : zv_St) : Prop :=
  B_X3_placeOf (fun r_2 σ_1 => (¬ r_2 = (-1) → (vp_in x1 16 ∧ vp_in x1 16 ∧ ∀ σ_3 : zv_St, σ_3 = zv_wi σ_1 4 x1.toNatClampNeg ((σ_1.1 4 x1.toNatClampNeg) - 1) → vp_in x1 16 ∧ ∀ v_4 : Int32, v_4 = ((x1 * 60) + (σ_3.1 4 x1.toNatClampNeg)) → vp_in v_4 960 ∧ vp_in r_2 960 ∧ ∀ σ_5 : zv_St, σ_5 = zv_wi σ_3 2 r_2.toNatClampNeg (σ_3.1 2 v_4.toNatClampNeg) → vp_in v_4 960 ∧ vp_in r_2 960 ∧ ∀ σ_6 : zv_St, σ_6 = zv_wi σ_5 3 r_2.toNatClampNeg (σ_5.1 3 v_4.toNatClampNeg) → Q σ_6)) ∧ (r_2 = (-1) → (Q σ_1))) x1 x2 σ
set_option maxRecDepth 20000 in
set_option maxHeartbeats 2000000 in
theorem k_X3_remove_0 {G : zv_G} {X : zv_X} {Q : zv_St → Prop}  (hC : zv_C G X M_X3_remove) (hR : zv_R G X M_X3_remove (zv_qv Q))  {x1 : Int32} {x2 : Int32} {σ : zv_St} (h : B_X3_remove Q  x1 x2 σ) : zv_V G X M_X3_remove 0 [(0, .ref (G.2.2.1 1)), (1, .int x1), (2, .int x2)] [] σ := by
  unfold B_X3_remove at h
  refine zv_aload_n hC dX3_remove_0 rfl ?_
  refine zv_iload_n hC dX3_remove_1 rfl ?_
  refine zv_iload_n hC dX3_remove_2 rfl ?_
  refine zv_callVi (As := [_, _]) hC dX3_remove_3 Y_X3_placeOf lk_X3_21 (by decide) rfl rfl rfl (Nat.le_of_ble_eq_true rfl) (ok_X3_placeOf G h) ?_
  intro r_2 σ_1 h
  refine zv_istore_n hC dX3_remove_6 (by decide) ?_
  refine zv_iload_n hC dX3_remove_7 rfl ?_
  refine zv_iconst (v := (-1)) hC dX3_remove_8 (by decide) ?_
  refine zv_icmp_ne (tgt := 13) hC dX3_remove_9 (by decide) (fun c => ?_) (fun c => ?_)
  · replace h := h.1 c
    refine zv_aload_n hC dX3_remove_13 rfl ?_
    refine zv_getR (j := 4) hC fl_X3_18 dX3_remove_14 rfl rfl ?_
    refine zv_iload_n hC dX3_remove_17 rfl ?_
    refine zv_dup2 hC dX3_remove_18 rfl rfl ?_
    refine zv_iald hC dX3_remove_19 rfl h.1 ?_
    replace h := h.2
    refine zv_iconst (v := 1) hC dX3_remove_20 (by decide) ?_
    refine zv_isub hC dX3_remove_21 ?_
    refine zv_iast hC dX3_remove_22 rfl h.1 ?_
    replace h := h.2 _ rfl
    refine zv_iload_n hC dX3_remove_23 rfl ?_
    refine zv_bipush (v := 60) hC dX3_remove_24 (by decide) ?_
    refine zv_imul hC dX3_remove_26 ?_
    refine zv_aload_n hC dX3_remove_27 rfl ?_
    refine zv_getR (j := 4) hC fl_X3_18 dX3_remove_28 rfl rfl ?_
    refine zv_iload_n hC dX3_remove_31 rfl ?_
    refine zv_iald hC dX3_remove_32 rfl h.1 ?_
    replace h := h.2
    refine zv_iadd hC dX3_remove_33 ?_
    replace h := h _ rfl
    refine zv_istore hC dX3_remove_34 (by decide) ?_
    refine zv_aload_n hC dX3_remove_36 rfl ?_
    refine zv_getR (j := 2) hC fl_X3_9 dX3_remove_37 rfl rfl ?_
    refine zv_iload_n hC dX3_remove_40 rfl ?_
    refine zv_aload_n hC dX3_remove_41 rfl ?_
    refine zv_getR (j := 2) hC fl_X3_9 dX3_remove_42 rfl rfl ?_
    refine zv_iload hC dX3_remove_45 rfl ?_
    refine zv_iald hC dX3_remove_47 rfl h.1 ?_
    replace h := h.2
    refine zv_iast hC dX3_remove_48 rfl h.1 ?_
    replace h := h.2 _ rfl
    refine zv_aload_n hC dX3_remove_49 rfl ?_
    refine zv_getR (j := 3) hC fl_X3_15 dX3_remove_50 rfl rfl ?_
    refine zv_iload_n hC dX3_remove_53 rfl ?_
    refine zv_aload_n hC dX3_remove_54 rfl ?_
    refine zv_getR (j := 3) hC fl_X3_15 dX3_remove_55 rfl rfl ?_
    refine zv_iload hC dX3_remove_58 rfl ?_
    refine zv_iald hC dX3_remove_60 rfl h.1 ?_
    replace h := h.2
    refine zv_iast hC dX3_remove_61 rfl h.1 ?_
    replace h := h.2 _ rfl
    exact (hR _ _ _).2.2.2.1 rfl dX3_remove_62 ⟨rfl, h⟩
  · replace h := h.2 c
    exact (hR _ _ _).2.2.2.1 rfl dX3_remove_12 ⟨rfl, h⟩
theorem ok_X3_remove (G : zv_G) {Q : zv_St → Prop} {x1 : Int32} {x2 : Int32} {σ : zv_St} (h : B_X3_remove Q x1 x2 σ) : zv_OK G M_X3_remove yX3_remove [.ref (G.2.2.1 1), .int x1, .int x2] σ (zv_qv Q) := zv_ok G _ _ _ _ _ (by decide +kernel) rfl (Nat.le_of_ble_eq_true rfl) (fun X hC hR => zv_go (k_X3_remove_0 hC hR h) ⟨rfl, rfl, rfl, trivial⟩)
-- X10_take
def B_X10_take_14 (Q : Int32 → zv_St → Prop) (σ : zv_St) : Prop :=
  Q (-2) σ
set_option maxRecDepth 20000 in
set_option maxHeartbeats 2000000 in
theorem k_X10_take_14 {G : zv_G} {X : zv_X} {Q : Int32 → zv_St → Prop}  (hC : zv_C G X M_X10_take) (hR : zv_R G X M_X10_take (zv_qi Q))   {σ : zv_St} (h : B_X10_take_14 Q   σ) : zv_V G X M_X10_take 14 [] [] σ := by
  unfold B_X10_take_14 at h
  refine zv_bipush (v := (-2)) hC dX10_take_14 (by decide) ?_
  exact (hR _ _ _).1 _ rfl dX10_take_16 ⟨_, rfl, h⟩
def B_X10_take (Q : Int32 → zv_St → Prop) (x1 : Int32) (x2 : Int32) (σ : zv_St) : Prop :=
  B_X10_isList (fun r_2 σ_1 => (r_2 = 0 → (B_X10_take_14 Q σ_1)) ∧ (¬ r_2 = 0 → (B_X10_isObject (fun r_4 σ_3 => (¬ r_4 = 0 → (B_X3_placeOf (fun r_6 σ_5 => (¬ r_6 = (-1) → (B_X3_weightOf (fun r_8 σ_7 => B_X3_remove (fun σ_9 => B_X10_listHasChanged (fun σ_10 => Q r_8 σ_10) x1 σ_9) x1 x2 σ_7) x1 x2 σ_5)) ∧ (r_6 = (-1) → (Q (-4) σ_5))) x1 x2 σ_3)) ∧ (r_4 = 0 → (B_X10_take_14 Q σ_3))) x2 σ_1))) x1 σ
set_option maxRecDepth 20000 in
set_option maxHeartbeats 2000000 in
theorem k_X10_take_0 {G : zv_G} {X : zv_X} {Q : Int32 → zv_St → Prop}  (hC : zv_C G X M_X10_take) (hR : zv_R G X M_X10_take (zv_qi Q))  {x1 : Int32} {x2 : Int32} {σ : zv_St} (h : B_X10_take Q  x1 x2 σ) : zv_V G X M_X10_take 0 [(0, .ref (G.2.2.1 0)), (1, .int x1), (2, .int x2)] [] σ := by
  unfold B_X10_take at h
  refine zv_iload_n hC dX10_take_0 rfl ?_
  refine zv_callSi (As := [_]) hC dX10_take_1 Y_X10_isList lk_X10_73 (by decide) rfl rfl (Nat.le_of_ble_eq_true rfl) (ok_X10_isList G h) ?_
  intro r_2 σ_1 h
  refine zv_if_eq (tgt := 14) hC dX10_take_4 (by decide) (fun c => ?_) (fun c => ?_)
  · replace h := h.1 c
    exact zv_go (k_X10_take_14 hC hR  h) trivial
  · replace h := h.2 c
    refine zv_iload_n hC dX10_take_7 rfl ?_
    refine zv_callSi (As := [_]) hC dX10_take_8 Y_X10_isObject lk_X10_77 (by decide) rfl rfl (Nat.le_of_ble_eq_true rfl) (ok_X10_isObject G h) ?_
    intro r_4 σ_3 h
    refine zv_if_ne (tgt := 17) hC dX10_take_11 (by decide) (fun c => ?_) (fun c => ?_)
    · replace h := h.1 c
      refine zv_aload_n hC dX10_take_17 rfl ?_
      refine zv_getR (j := 1) hC fl_X10_12 dX10_take_18 rfl rfl ?_
      refine zv_iload_n hC dX10_take_21 rfl ?_
      refine zv_iload_n hC dX10_take_22 rfl ?_
      refine zv_callVi (As := [_, _]) hC dX10_take_23 Y_X3_placeOf lk_X10_97 (by decide) rfl rfl rfl (Nat.le_of_ble_eq_true rfl) (ok_X3_placeOf G h) ?_
      intro r_6 σ_5 h
      refine zv_iconst (v := (-1)) hC dX10_take_26 (by decide) ?_
      refine zv_icmp_ne (tgt := 33) hC dX10_take_27 (by decide) (fun c => ?_) (fun c => ?_)
      · replace h := h.1 c
        refine zv_aload_n hC dX10_take_33 rfl ?_
        refine zv_getR (j := 1) hC fl_X10_12 dX10_take_34 rfl rfl ?_
        refine zv_iload_n hC dX10_take_37 rfl ?_
        refine zv_iload_n hC dX10_take_38 rfl ?_
        refine zv_callVi (As := [_, _]) hC dX10_take_39 Y_X3_weightOf lk_X10_101 (by decide) rfl rfl rfl (Nat.le_of_ble_eq_true rfl) (ok_X3_weightOf G h) ?_
        intro r_8 σ_7 h
        refine zv_istore_n hC dX10_take_42 (by decide) ?_
        refine zv_aload_n hC dX10_take_43 rfl ?_
        refine zv_getR (j := 1) hC fl_X10_12 dX10_take_44 rfl rfl ?_
        refine zv_iload_n hC dX10_take_47 rfl ?_
        refine zv_iload_n hC dX10_take_48 rfl ?_
        refine zv_callVv (As := [_, _]) hC dX10_take_49 Y_X3_remove lk_X10_104 (by decide) rfl rfl rfl (Nat.le_of_ble_eq_true rfl) (ok_X3_remove G h) ?_
        intro σ_9 h
        refine zv_aload_n hC dX10_take_52 rfl ?_
        refine zv_iload_n hC dX10_take_53 rfl ?_
        refine zv_callVv (As := [_]) hC dX10_take_54 Y_X10_listHasChanged lk_X10_89 (by decide) rfl rfl rfl (Nat.le_of_ble_eq_true rfl) (ok_X10_listHasChanged G h) ?_
        intro σ_10 h
        refine zv_iload_n hC dX10_take_57 rfl ?_
        exact (hR _ _ _).1 _ rfl dX10_take_58 ⟨_, rfl, h⟩
      · replace h := h.2 c
        refine zv_bipush (v := (-4)) hC dX10_take_30 (by decide) ?_
        exact (hR _ _ _).1 _ rfl dX10_take_32 ⟨_, rfl, h⟩
    · replace h := h.2 c
      exact zv_go (k_X10_take_14 hC hR  h) trivial
theorem ok_X10_take (G : zv_G) {Q : Int32 → zv_St → Prop} {x1 : Int32} {x2 : Int32} {σ : zv_St} (h : B_X10_take Q x1 x2 σ) : zv_OK G M_X10_take yX10_take [.ref (G.2.2.1 0), .int x1, .int x2] σ (zv_qi Q) := zv_ok G _ _ _ _ _ (by decide +kernel) rfl (Nat.le_of_ble_eq_true rfl) (fun X hC hR => zv_go (k_X10_take_0 hC hR h) ⟨rfl, rfl, rfl, trivial⟩)
-- X5_has
def B_X5_has_17 (Q : Int32 → zv_St → Prop) (y0 : Int32) (σ : zv_St) : Prop :=
  narrow .boolean (.int y0) = .int y0 ∧ Q y0 σ
set_option maxRecDepth 20000 in
set_option maxHeartbeats 2000000 in
theorem k_X5_has_17 {G : zv_G} {X : zv_X} {Q : Int32 → zv_St → Prop}  (hC : zv_C G X M_X5_has) (hR : zv_R G X M_X5_has (zv_qi Q))  {y0 : Int32} {σ : zv_St} (h : B_X5_has_17 Q  y0 σ) : zv_V G X M_X5_has 17 [] [.int y0] σ := by
  unfold B_X5_has_17 at h
  exact (hR _ _ _).2.1 _ rfl h.1 dX5_has_17 ⟨_, rfl, h.2⟩
def B_X5_has_16 (Q : Int32 → zv_St → Prop) (σ : zv_St) : Prop :=
  B_X5_has_17 Q 0 σ
set_option maxRecDepth 20000 in
set_option maxHeartbeats 2000000 in
theorem k_X5_has_16 {G : zv_G} {X : zv_X} {Q : Int32 → zv_St → Prop}  (hC : zv_C G X M_X5_has) (hR : zv_R G X M_X5_has (zv_qi Q))   {σ : zv_St} (h : B_X5_has_16 Q   σ) : zv_V G X M_X5_has 16 [] [] σ := by
  unfold B_X5_has_16 at h
  refine zv_iconst (v := 0) hC dX5_has_16 (by decide) ?_
  exact zv_go (k_X5_has_17 hC hR  h) trivial
def B_X5_has (Q : Int32 → zv_St → Prop) (x1 : Int32) (σ : zv_St) : Prop :=
  (x1 < 0 → (B_X5_has_16 Q σ)) ∧ (¬ x1 < 0 → (((σ.1 5 0) ≤ x1 → (B_X5_has_16 Q σ)) ∧ (¬ (σ.1 5 0) ≤ x1 → (B_X5_has_17 Q 1 σ))))
set_option maxRecDepth 20000 in
set_option maxHeartbeats 2000000 in
theorem k_X5_has_0 {G : zv_G} {X : zv_X} {Q : Int32 → zv_St → Prop}  (hC : zv_C G X M_X5_has) (hR : zv_R G X M_X5_has (zv_qi Q))  {x1 : Int32} {σ : zv_St} (h : B_X5_has Q  x1 σ) : zv_V G X M_X5_has 0 [(0, .ref (G.2.2.1 5)), (1, .int x1)] [] σ := by
  unfold B_X5_has at h
  refine zv_iload_n hC dX5_has_0 rfl ?_
  refine zv_if_lt (tgt := 16) hC dX5_has_1 (by decide) (fun c => ?_) (fun c => ?_)
  · replace h := h.1 c
    exact zv_go (k_X5_has_16 hC hR  h) trivial
  · replace h := h.2 c
    refine zv_iload_n hC dX5_has_4 rfl ?_
    refine zv_aload_n hC dX5_has_5 rfl ?_
    refine zv_getI hC fl_X5_33 dX5_has_6 rfl rfl ?_
    refine zv_icmp_ge (tgt := 16) hC dX5_has_9 (by decide) (fun c => ?_) (fun c => ?_)
    · replace h := h.1 c
      exact zv_go (k_X5_has_16 hC hR  h) trivial
    · replace h := h.2 c
      refine zv_iconst (v := 1) hC dX5_has_12 (by decide) ?_
      refine zv_goto (tgt := 17) hC dX5_has_13 (by decide) ?_
      exact zv_go (k_X5_has_17 hC hR  h) trivial
theorem ok_X5_has (G : zv_G) {Q : Int32 → zv_St → Prop} {x1 : Int32} {σ : zv_St} (h : B_X5_has Q x1 σ) : zv_OK G M_X5_has yX5_has [.ref (G.2.2.1 5), .int x1] σ (zv_qi Q) := zv_ok G _ _ _ _ _ (by decide +kernel) rfl (Nat.le_of_ble_eq_true rfl) (fun X hC hR => zv_go (k_X5_has_0 hC hR h) ⟨rfl, rfl, trivial⟩)
