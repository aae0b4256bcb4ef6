-- X4_wantedBy
def B_X4_wantedBy_23 (Q : Int32 → zv_St → Prop) (σ : zv_St) : Prop :=
  Q (-1) σ
set_option maxRecDepth 20000 in
set_option maxHeartbeats 2000000 in
theorem k_X4_wantedBy_23 {G : zv_G} {X : zv_X} {Q : Int32 → zv_St → Prop}  (hC : zv_C G X M_X4_wantedBy) (hR : zv_R G X M_X4_wantedBy (zv_qi Q))   {σ : zv_St} (h : B_X4_wantedBy_23 Q   σ) : zv_V G X M_X4_wantedBy 23 [] [] σ := by
  unfold B_X4_wantedBy_23 at h
  refine zv_iconst (v := (-1)) hC dX4_wantedBy_23 (by decide) ?_
  exact (hR _ _ _).1 _ rfl dX4_wantedBy_24 ⟨_, rfl, h⟩
def L_X4_wantedBy_46 (Q : Int32 → zv_St → Prop) : Nat → (Int32 → Int32 → zv_St → Prop)
  | 0 => fun _ _ _ => False
  | u + 1 => fun x1 x3 σ => 
    B_X5_size (fun r_2 σ_1 => (r_2 ≤ x3 → (Q (-1) σ_1)) ∧ (¬ r_2 ≤ x3 → (B_X5_partAt (fun r_4 σ_3 => vp_in r_4 80 ∧ (¬ (σ_3.1 28 r_4.toNatClampNeg) = 0 → ((L_X4_wantedBy_46 Q u) x1 (x3 + 1) σ_3)) ∧ ((σ_3.1 28 r_4.toNatClampNeg) = 0 → (Q r_4 σ_3))) x1 x3 σ_1))) x1 σ
set_option maxRecDepth 20000 in
set_option maxHeartbeats 2000000 in
theorem kL_X4_wantedBy_46 {G : zv_G} {X : zv_X} {Q : Int32 → zv_St → Prop}  (hC : zv_C G X M_X4_wantedBy) (hR : zv_R G X M_X4_wantedBy (zv_qi Q))  : ∀ (n : Nat) (x1 : Int32) (x3 : Int32) (σ : zv_St), L_X4_wantedBy_46 Q  n x1 x3 σ → zv_V G X M_X4_wantedBy 46 [(0, .ref (G.2.2.1 27)), (1, .int x1), (3, .int x3)] [] σ := by
  intro n
  induction n with
  | zero => intro x1 x3 σ h; exact h.elim
  | succ n hk46 =>
    intro x1 x3 σ h
    unfold L_X4_wantedBy_46 at h
    refine zv_iload_n hC dX4_wantedBy_46 rfl ?_
    refine zv_aload_n hC dX4_wantedBy_47 rfl ?_
    refine zv_getR (j := 5) hC fl_X4_26 dX4_wantedBy_48 rfl rfl ?_
    refine zv_iload_n hC dX4_wantedBy_51 rfl ?_
    refine zv_callVi (As := [_]) hC dX4_wantedBy_52 Y_X5_size lk_X4_76 (by decide) rfl rfl rfl (Nat.le_of_ble_eq_true rfl) (ok_X5_size G h) ?_
    intro r_2 σ_1 h
    refine zv_icmp_ge (tgt := 88) hC dX4_wantedBy_55 (by decide) (fun c => ?_) (fun c => ?_)
    · replace h := h.1 c
      refine zv_iconst (v := (-1)) hC dX4_wantedBy_88 (by decide) ?_
      exact (hR _ _ _).1 _ rfl dX4_wantedBy_89 ⟨_, rfl, h⟩
    · replace h := h.2 c
      refine zv_aload_n hC dX4_wantedBy_58 rfl ?_
      refine zv_getR (j := 5) hC fl_X4_26 dX4_wantedBy_59 rfl rfl ?_
      refine zv_iload_n hC dX4_wantedBy_62 rfl ?_
      refine zv_iload_n hC dX4_wantedBy_63 rfl ?_
      refine zv_callVi (As := [_, _]) hC dX4_wantedBy_64 Y_X5_partAt lk_X4_79 (by decide) rfl rfl rfl (Nat.le_of_ble_eq_true rfl) (ok_X5_partAt G h) ?_
      intro r_4 σ_3 h
      refine zv_istore hC dX4_wantedBy_67 (by decide) ?_
      refine zv_aload_n hC dX4_wantedBy_69 rfl ?_
      refine zv_getR (j := 28) hC fl_X4_9 dX4_wantedBy_70 rfl rfl ?_
      refine zv_iload hC dX4_wantedBy_73 rfl ?_
      refine zv_iald hC dX4_wantedBy_75 rfl h.1 ?_
      replace h := h.2
      refine zv_if_ne (tgt := 82) hC dX4_wantedBy_76 (by decide) (fun c => ?_) (fun c => ?_)
      · replace h := h.1 c
        refine zv_iinc (v := 1) hC dX4_wantedBy_82 rfl (by decide) (by decide) ?_
        refine zv_goto (tgt := 46) hC dX4_wantedBy_85 (by decide) ?_
        exact zv_go (hk46 _ _ _ h) ⟨rfl, rfl, rfl, trivial⟩
      · replace h := h.2 c
        refine zv_iload hC dX4_wantedBy_79 rfl ?_
        exact (hR _ _ _).1 _ rfl dX4_wantedBy_81 ⟨_, rfl, h⟩
def B_X4_wantedBy (Q : Int32 → zv_St → Prop) (x1 : Int32) (x2 : Int32) (σ : zv_St) : Prop :=
  B_X0_maybe (fun r_2 σ_1 => (r_2 = 0 → (B_X4_wantedBy_23 Q σ_1)) ∧ (¬ r_2 = 0 → (B_X9_isThere (fun r_4 σ_3 => (r_4 = 0 → (B_X5_kind (fun r_6 σ_5 => (¬ r_6 = 2 → (∃ n46, L_X4_wantedBy_46 Q n46 x1 0 σ_5)) ∧ (r_6 = 2 → (B_X4_wantedByBool (fun r_8 σ_7 => Q r_8 σ_7) x1 x2 σ_5))) x1 σ_3)) ∧ (¬ r_4 = 0 → (B_X4_wantedBy_23 Q σ_3))) x1 σ_1))) x1 x2 σ
set_option maxRecDepth 20000 in
set_option maxHeartbeats 2000000 in
theorem k_X4_wantedBy_0 {G : zv_G} {X : zv_X} {Q : Int32 → zv_St → Prop}  (hC : zv_C G X M_X4_wantedBy) (hR : zv_R G X M_X4_wantedBy (zv_qi Q))  {x1 : Int32} {x2 : Int32} {σ : zv_St} (h : B_X4_wantedBy Q  x1 x2 σ) : zv_V G X M_X4_wantedBy 0 [(0, .ref (G.2.2.1 27)), (1, .int x1), (2, .int x2)] [] σ := by
  unfold B_X4_wantedBy at h
  refine zv_aload_n hC dX4_wantedBy_0 rfl ?_
  refine zv_getR (j := 19) hC fl_X4_34 dX4_wantedBy_1 rfl rfl ?_
  refine zv_iload_n hC dX4_wantedBy_4 rfl ?_
  refine zv_iload_n hC dX4_wantedBy_5 rfl ?_
  refine zv_callVi (As := [_, _]) hC dX4_wantedBy_6 Y_X0_maybe lk_X4_38 (by decide) rfl rfl rfl (Nat.le_of_ble_eq_true rfl) (ok_X0_maybe G h) ?_
  intro r_2 σ_1 h
  refine zv_if_eq (tgt := 23) hC dX4_wantedBy_9 (by decide) (fun c => ?_) (fun c => ?_)
  · replace h := h.1 c
    exact zv_go (k_X4_wantedBy_23 hC hR  h) trivial
  · replace h := h.2 c
    refine zv_aload_n hC dX4_wantedBy_12 rfl ?_
    refine zv_getR (j := 13) hC fl_X4_30 dX4_wantedBy_13 rfl rfl ?_
    refine zv_iload_n hC dX4_wantedBy_16 rfl ?_
    refine zv_callVi (As := [_]) hC dX4_wantedBy_17 Y_X9_isThere lk_X4_61 (by decide) rfl rfl rfl (Nat.le_of_ble_eq_true rfl) (ok_X9_isThere G h) ?_
    intro r_4 σ_3 h
    refine zv_if_eq (tgt := 25) hC dX4_wantedBy_20 (by decide) (fun c => ?_) (fun c => ?_)
    · replace h := h.1 c
      refine zv_aload_n hC dX4_wantedBy_25 rfl ?_
      refine zv_getR (j := 5) hC fl_X4_26 dX4_wantedBy_26 rfl rfl ?_
      refine zv_iload_n hC dX4_wantedBy_29 rfl ?_
      refine zv_callVi (As := [_]) hC dX4_wantedBy_30 Y_X5_kind lk_X4_67 (by decide) rfl rfl rfl (Nat.le_of_ble_eq_true rfl) (ok_X5_kind G h) ?_
      intro r_6 σ_5 h
      refine zv_iconst (v := 2) hC dX4_wantedBy_33 (by decide) ?_
      refine zv_icmp_ne (tgt := 44) hC dX4_wantedBy_34 (by decide) (fun c => ?_) (fun c => ?_)
      · replace h := h.1 c
        refine zv_iconst (v := 0) hC dX4_wantedBy_44 (by decide) ?_
        refine zv_istore_n hC dX4_wantedBy_45 (by decide) ?_
        obtain ⟨n, h⟩ := h
        exact zv_go (kL_X4_wantedBy_46 hC hR  n _ _ _ h) ⟨rfl, rfl, rfl, trivial⟩
      · replace h := h.2 c
        refine zv_aload_n hC dX4_wantedBy_37 rfl ?_
        refine zv_iload_n hC dX4_wantedBy_38 rfl ?_
        refine zv_iload_n hC dX4_wantedBy_39 rfl ?_
        refine zv_callVi (As := [_, _]) hC dX4_wantedBy_40 Y_X4_wantedByBool lk_X4_73 (by decide) rfl rfl rfl (Nat.le_of_ble_eq_true rfl) (ok_X4_wantedByBool G h) ?_
        intro r_8 σ_7 h
        exact (hR _ _ _).1 _ rfl dX4_wantedBy_43 ⟨_, rfl, h⟩
    · replace h := h.2 c
      exact zv_go (k_X4_wantedBy_23 hC hR  h) trivial
theorem ok_X4_wantedBy (G : zv_G) {Q : Int32 → zv_St → Prop} {x1 : Int32} {x2 : Int32} {σ : zv_St} (h : B_X4_wantedBy Q x1 x2 σ) : zv_OK G M_X4_wantedBy yX4_wantedBy [.ref (G.2.2.1 27), .int x1, .int x2] σ (zv_qi Q) := zv_ok G _ _ _ _ _ (by decide +kernel) rfl (Nat.le_of_ble_eq_true rfl) (fun X hC hR => zv_go (k_X4_wantedBy_0 hC hR h) ⟨rfl, rfl, rfl, trivial⟩)
-- X4_somePartMatches
def L_X4_somePartMatches_2 (Q : Int32 → zv_St → Prop) : Nat → (Int32 → Int32 → zv_St → Prop)
  | 0 => fun _ _ _ => False
  | u + 1 => fun x1 x2 σ => 
    B_X5_size (fun r_2 σ_1 => (r_2 ≤ x2 → (Q 0 σ_1)) ∧ (¬ r_2 ≤ x2 → (B_X5_partAt (fun r_4 σ_3 => vp_in r_4 80 ∧ (¬ (σ_3.1 28 r_4.toNatClampNeg) = 1 → ((L_X4_somePartMatches_2 Q u) x1 (x2 + 1) σ_3)) ∧ ((σ_3.1 28 r_4.toNatClampNeg) = 1 → (Q 1 σ_3))) x1 x2 σ_1))) x1 σ
set_option maxRecDepth 20000 in
set_option maxHeartbeats 2000000 in
theorem kL_X4_somePartMatches_2 {G : zv_G} {X : zv_X} {Q : Int32 → zv_St → Prop}  (hC : zv_C G X M_X4_somePartMatches) (hR : zv_R G X M_X4_somePartMatches (zv_qi Q))  : ∀ (n : Nat) (x1 : Int32) (x2 : Int32) (σ : zv_St), L_X4_somePartMatches_2 Q  n x1 x2 σ → zv_V G X M_X4_somePartMatches 2 [(0, .ref (G.2.2.1 27)), (1, .int x1), (2, .int x2)] [] σ := by
  intro n
  induction n with
  | zero => intro x1 x2 σ h; exact h.elim
  | succ n hk2 =>
    intro x1 x2 σ h
    unfold L_X4_somePartMatches_2 at h
    refine zv_iload_n hC dX4_somePartMatches_2 rfl ?_
    refine zv_aload_n hC dX4_somePartMatches_3 rfl ?_
    refine zv_getR (j := 5) hC fl_X4_26 dX4_somePartMatches_4 rfl rfl ?_
    refine zv_iload_n hC dX4_somePartMatches_7 rfl ?_
    refine zv_callVi (As := [_]) hC dX4_somePartMatches_8 Y_X5_size lk_X4_76 (by decide) rfl rfl rfl (Nat.le_of_ble_eq_true rfl) (ok_X5_size G h) ?_
    intro r_2 σ_1 h
    refine zv_icmp_ge (tgt := 40) hC dX4_somePartMatches_11 (by decide) (fun c => ?_) (fun c => ?_)
    · replace h := h.1 c
      refine zv_iconst (v := 0) hC dX4_somePartMatches_40 (by decide) ?_
      exact (hR _ _ _).2.1 _ rfl rfl dX4_somePartMatches_41 ⟨_, rfl, h⟩
    · replace h := h.2 c
      refine zv_aload_n hC dX4_somePartMatches_14 rfl ?_
      refine zv_getR (j := 28) hC fl_X4_9 dX4_somePartMatches_15 rfl rfl ?_
      refine zv_aload_n hC dX4_somePartMatches_18 rfl ?_
      refine zv_getR (j := 5) hC fl_X4_26 dX4_somePartMatches_19 rfl rfl ?_
      refine zv_iload_n hC dX4_somePartMatches_22 rfl ?_
      refine zv_iload_n hC dX4_somePartMatches_23 rfl ?_
      refine zv_callVi (As := [_, _]) hC dX4_somePartMatches_24 Y_X5_partAt lk_X4_79 (by decide) rfl rfl rfl (Nat.le_of_ble_eq_true rfl) (ok_X5_partAt G h) ?_
      intro r_4 σ_3 h
      refine zv_iald hC dX4_somePartMatches_27 rfl h.1 ?_
      replace h := h.2
      refine zv_iconst (v := 1) hC dX4_somePartMatches_28 (by decide) ?_
      refine zv_icmp_ne (tgt := 34) hC dX4_somePartMatches_29 (by decide) (fun c => ?_) (fun c => ?_)
      · replace h := h.1 c
        refine zv_iinc (v := 1) hC dX4_somePartMatches_34 rfl (by decide) (by decide) ?_
        refine zv_goto (tgt := 2) hC dX4_somePartMatches_37 (by decide) ?_
        exact zv_go (hk2 _ _ _ h) ⟨rfl, rfl, rfl, trivial⟩
      · replace h := h.2 c
        refine zv_iconst (v := 1) hC dX4_somePartMatches_32 (by decide) ?_
        exact (hR _ _ _).2.1 _ rfl rfl dX4_somePartMatches_33 ⟨_, rfl, h⟩
def B_X4_somePartMatches (Q : Int32 → zv_St → Prop) (x1 : Int32) (σ : zv_St) : Prop :=
  ∃ n2, L_X4_somePartMatches_2 Q n2 x1 0 σ
set_option maxRecDepth 20000 in
set_option maxHeartbeats 2000000 in
theorem k_X4_somePartMatches_0 {G : zv_G} {X : zv_X} {Q : Int32 → zv_St → Prop}  (hC : zv_C G X M_X4_somePartMatches) (hR : zv_R G X M_X4_somePartMatches (zv_qi Q))  {x1 : Int32} {σ : zv_St} (h : B_X4_somePartMatches Q  x1 σ) : zv_V G X M_X4_somePartMatches 0 [(0, .ref (G.2.2.1 27)), (1, .int x1)] [] σ := by
  unfold B_X4_somePartMatches at h
  refine zv_iconst (v := 0) hC dX4_somePartMatches_0 (by decide) ?_
  refine zv_istore_n hC dX4_somePartMatches_1 (by decide) ?_
  obtain ⟨n, h⟩ := h
  exact zv_go (kL_X4_somePartMatches_2 hC hR  n _ _ _ h) ⟨rfl, rfl, rfl, trivial⟩
theorem ok_X4_somePartMatches (G : zv_G) {Q : Int32 → zv_St → Prop} {x1 : Int32} {σ : zv_St} (h : B_X4_somePartMatches Q x1 σ) : zv_OK G M_X4_somePartMatches yX4_somePartMatches [.ref (G.2.2.1 27), .int x1] σ (zv_qi Q) := zv_ok G _ _ _ _ _ (by decide +kernel) rfl (Nat.le_of_ble_eq_true rfl) (fun X hC hR => zv_go (k_X4_somePartMatches_0 hC hR h) ⟨rfl, rfl, trivial⟩)
-- X5_ask
def B_X5_ask (Q : zv_St → Prop) (x1 : Int32) (σ : zv_St) : Prop :=
  vp_in x1 80 ∧ vp_in x1 80 ∧ ∀ σ_1 : zv_St, σ_1 = zv_wi σ 9 x1.toNatClampNeg ((σ.1 9 x1.toNatClampNeg) + 1) → Q σ_1
set_option maxRecDepth 20000 in
set_option maxHeartbeats 2000000 in
theorem k_X5_ask_0 {G : zv_G} {X : zv_X} {Q : zv_St → Prop}  (hC : zv_C G X M_X5_ask) (hR : zv_R G X M_X5_ask (zv_qv Q))  {x1 : Int32} {σ : zv_St} (h : B_X5_ask Q  x1 σ) : zv_V G X M_X5_ask 0 [(0, .ref (G.2.2.1 5)), (1, .int x1)] [] σ := by
  unfold B_X5_ask at h
  refine zv_aload_n hC dX5_ask_0 rfl ?_
  refine zv_getR (j := 9) hC fl_X5_21 dX5_ask_1 rfl rfl ?_
  refine zv_iload_n hC dX5_ask_4 rfl ?_
  refine zv_dup2 hC dX5_ask_5 rfl rfl ?_
  refine zv_iald hC dX5_ask_6 rfl h.1 ?_
  replace h := h.2
  refine zv_iconst (v := 1) hC dX5_ask_7 (by decide) ?_
  refine zv_iadd hC dX5_ask_8 ?_
  refine zv_iast hC dX5_ask_9 rfl h.1 ?_
  replace h := h.2 _ rfl
  exact (hR _ _ _).2.2.2.1 rfl dX5_ask_10 ⟨rfl, h⟩
theorem ok_X5_ask (G : zv_G) {Q : zv_St → Prop} {x1 : Int32} {σ : zv_St} (h : B_X5_ask Q x1 σ) : zv_OK G M_X5_ask yX5_ask [.ref (G.2.2.1 5), .int x1] σ (zv_qv Q) := zv_ok G _ _ _ _ _ (by decide +kernel) rfl (Nat.le_of_ble_eq_true rfl) (fun X hC hR => zv_go (k_X5_ask_0 hC hR h) ⟨rfl, rfl, trivial⟩)
-- X4_passesTest
def B_X4_passesTest_50 (Q : Int32 → zv_St → Prop) (y0 : Int32) (σ : zv_St) : Prop :=
  narrow .boolean (.int y0) = .int y0 ∧ Q y0 σ
set_option maxRecDepth 20000 in
set_option maxHeartbeats 2000000 in
theorem k_X4_passesTest_50 {G : zv_G} {X : zv_X} {Q : Int32 → zv_St → Prop}  (hC : zv_C G X M_X4_passesTest) (hR : zv_R G X M_X4_passesTest (zv_qi Q))  {y0 : Int32} {σ : zv_St} (h : B_X4_passesTest_50 Q  y0 σ) : zv_V G X M_X4_passesTest 50 [] [.int y0] σ := by
  unfold B_X4_passesTest_50 at h
  exact (hR _ _ _).2.1 _ rfl h.1 dX4_passesTest_50 ⟨_, rfl, h.2⟩
def B_X4_passesTest_49 (Q : Int32 → zv_St → Prop) (σ : zv_St) : Prop :=
  B_X4_passesTest_50 Q 0 σ
set_option maxRecDepth 20000 in
set_option maxHeartbeats 2000000 in
theorem k_X4_passesTest_49 {G : zv_G} {X : zv_X} {Q : Int32 → zv_St → Prop}  (hC : zv_C G X M_X4_passesTest) (hR : zv_R G X M_X4_passesTest (zv_qi Q))   {σ : zv_St} (h : B_X4_passesTest_49 Q   σ) : zv_V G X M_X4_passesTest 49 [] [] σ := by
  unfold B_X4_passesTest_49 at h
  refine zv_iconst (v := 0) hC dX4_passesTest_49 (by decide) ?_
  exact zv_go (k_X4_passesTest_50 hC hR  h) trivial
def B_X4_passesTest (Q : Int32 → zv_St → Prop) (x1 : Int32) (x2 : Int32) (σ : zv_St) : Prop :=
  B_X5_ask (fun σ_1 => B_X5_second (fun r_3 σ_2 => B_X10_modulusOf (fun r_5 σ_4 => (r_5 ≤ 0 → (B_X4_passesTest_49 Q σ_4)) ∧ (¬ r_5 ≤ 0 → (¬ r_5 = 0 ∧ ((r_3 - r_3 / 1000 * 1000) ≤ (((r_3 / 1000000) * x2) - ((r_3 / 1000000) * x2) / r_5 * r_5) → (B_X4_passesTest_49 Q σ_4)) ∧ (¬ (r_3 - r_3 / 1000 * 1000) ≤ (((r_3 / 1000000) * x2) - ((r_3 / 1000000) * x2) / r_5 * r_5) → (B_X4_passesTest_50 Q 1 σ_4))))) r_3 σ_2) x1 σ_1) x1 σ
set_option maxRecDepth 20000 in
set_option maxHeartbeats 2000000 in
theorem k_X4_passesTest_0 {G : zv_G} {X : zv_X} {Q : Int32 → zv_St → Prop}  (hC : zv_C G X M_X4_passesTest) (hR : zv_R G X M_X4_passesTest (zv_qi Q))  {x1 : Int32} {x2 : Int32} {σ : zv_St} (h : B_X4_passesTest Q  x1 x2 σ) : zv_V G X M_X4_passesTest 0 [(0, .ref (G.2.2.1 27)), (1, .int x1), (2, .int x2)] [] σ := by
  unfold B_X4_passesTest at h
  refine zv_aload_n hC dX4_passesTest_0 rfl ?_
  refine zv_getR (j := 5) hC fl_X4_26 dX4_passesTest_1 rfl rfl ?_
  refine zv_iload_n hC dX4_passesTest_4 rfl ?_
  refine zv_callVv (As := [_]) hC dX4_passesTest_5 Y_X5_ask lk_X4_110 (by decide) rfl rfl rfl (Nat.le_of_ble_eq_true rfl) (ok_X5_ask G h) ?_
  intro σ_1 h
  refine zv_aload_n hC dX4_passesTest_8 rfl ?_
  refine zv_getR (j := 5) hC fl_X4_26 dX4_passesTest_9 rfl rfl ?_
  refine zv_iload_n hC dX4_passesTest_12 rfl ?_
  refine zv_callVi (As := [_]) hC dX4_passesTest_13 Y_X5_second lk_X4_114 (by decide) rfl rfl rfl (Nat.le_of_ble_eq_true rfl) (ok_X5_second G h) ?_
  intro r_3 σ_2 h
  refine zv_istore_n hC dX4_passesTest_16 (by decide) ?_
  refine zv_iload_n hC dX4_passesTest_17 rfl ?_
  refine zv_callSNi (As := [_]) hC dX4_passesTest_18 Y_X10_modulusOf lk_X4_117 (by decide) rfl rfl (Nat.le_of_ble_eq_true rfl) (ok_X10_modulusOf G h) ?_
  intro r_5 σ_4 h
  refine zv_istore hC dX4_passesTest_21 (by decide) ?_
  refine zv_iload hC dX4_passesTest_23 rfl ?_
  refine zv_if_le (tgt := 49) hC dX4_passesTest_25 (by decide) (fun c => ?_) (fun c => ?_)
  · replace h := h.1 c
    exact zv_go (k_X4_passesTest_49 hC hR  h) trivial
  · replace h := h.2 c
    refine zv_iload_n hC dX4_passesTest_28 rfl ?_
    refine zv_ldc hC dX4_passesTest_29 cst_X4_120 ?_
    refine zv_idiv hC dX4_passesTest_31 (by decide) ?_
    refine zv_iload_n hC dX4_passesTest_32 rfl ?_
    refine zv_imul hC dX4_passesTest_33 ?_
    refine zv_iload hC dX4_passesTest_34 rfl ?_
    refine zv_irem hC dX4_passesTest_36 h.1 ?_
    replace h := h.2
    refine zv_iload_n hC dX4_passesTest_37 rfl ?_
    refine zv_sipush (v := 1000) hC dX4_passesTest_38 (by decide) ?_
    refine zv_irem hC dX4_passesTest_41 (by decide) ?_
    refine zv_icmp_ge (tgt := 49) hC dX4_passesTest_42 (by decide) (fun c => ?_) (fun c => ?_)
    · replace h := h.1 c
      exact zv_go (k_X4_passesTest_49 hC hR  h) trivial
    · replace h := h.2 c
      refine zv_iconst (v := 1) hC dX4_passesTest_45 (by decide) ?_
      refine zv_goto (tgt := 50) hC dX4_passesTest_46 (by decide) ?_
      exact zv_go (k_X4_passesTest_50 hC hR  h) trivial
theorem ok_X4_passesTest (G : zv_G) {Q : Int32 → zv_St → Prop} {x1 : Int32} {x2 : Int32} {σ : zv_St} (h : B_X4_passesTest Q x1 x2 σ) : zv_OK G M_X4_passesTest yX4_passesTest [.ref (G.2.2.1 27), .int x1, .int x2] σ (zv_qi Q) := zv_ok G _ _ _ _ _ (by decide +kernel) rfl (Nat.le_of_ble_eq_true rfl) (fun X hC hR => zv_go (k_X4_passesTest_0 hC hR h) ⟨rfl, rfl, rfl, trivial⟩)
-- X4_fitsBool
def B_X4_fitsBool_104 (Q : Int32 → zv_St → Prop) (y0 : Int32) (σ : zv_St) : Prop :=
  narrow .boolean (.int y0) = .int y0 ∧ Q y0 σ
set_option maxRecDepth 20000 in
set_option maxHeartbeats 2000000 in
theorem k_X4_fitsBool_104 {G : zv_G} {X : zv_X} {Q : Int32 → zv_St → Prop}  (hC : zv_C G X M_X4_fitsBool) (hR : zv_R G X M_X4_fitsBool (zv_qi Q))  {y0 : Int32} {σ : zv_St} (h : B_X4_fitsBool_104 Q  y0 σ) : zv_V G X M_X4_fitsBool 104 [] [.int y0] σ := by
  unfold B_X4_fitsBool_104 at h
  exact (hR _ _ _).2.1 _ rfl h.1 dX4_fitsBool_104 ⟨_, rfl, h.2⟩
def B_X4_fitsBool_81 (Q : Int32 → zv_St → Prop) (kk5 : Int32 → Int32 → Int32 → Int32 → zv_St → Prop) (x1 : Int32) (x2 : Int32) (x3 : Int32) (x4 : Int32) (σ : zv_St) : Prop :=
  kk5 x1 x2 x3 (x4 + 1) σ
set_option maxRecDepth 20000 in
set_option maxHeartbeats 2000000 in
theorem k_X4_fitsBool_81 {G : zv_G} {X : zv_X} {Q : Int32 → zv_St → Prop} {kk5 : Int32 → Int32 → Int32 → Int32 → zv_St → Prop} (hC : zv_C G X M_X4_fitsBool) (hR : zv_R G X M_X4_fitsBool (zv_qi Q)) (hk5 : ∀ (x1 : Int32) (x2 : Int32) (x3 : Int32) (x4 : Int32) (σ : zv_St), kk5 x1 x2 x3 x4 σ → zv_V G X M_X4_fitsBool 5 [(0, .ref (G.2.2.1 27)), (1, .int x1), (2, .int x2), (3, .int x3), (4, .int x4)] [] σ) {x1 : Int32} {x2 : Int32} {x3 : Int32} {x4 : Int32} {σ : zv_St} (h : B_X4_fitsBool_81 Q kk5 x1 x2 x3 x4 σ) : zv_V G X M_X4_fitsBool 81 [(0, .ref (G.2.2.1 27)), (1, .int x1), (2, .int x2), (3, .int x3), (4, .int x4)] [] σ := by
  unfold B_X4_fitsBool_81 at h
  refine zv_iinc (v := 1) hC dX4_fitsBool_81 rfl (by decide) (by decide) ?_
  refine zv_goto (tgt := 5) hC dX4_fitsBool_84 (by decide) ?_
  exact zv_go (hk5 _ _ _ _ _ h) ⟨rfl, rfl, rfl, rfl, rfl, trivial⟩
def B_X4_fitsBool_67 (Q : Int32 → zv_St → Prop) (kk5 : Int32 → Int32 → Int32 → Int32 → zv_St → Prop) (x1 : Int32) (x2 : Int32) (x3 : Int32) (x4 : Int32) (x5 : Int32) (x6 : Int32) (σ : zv_St) : Prop :=
  (¬ x5 = 3 → (B_X4_fitsBool_81 Q kk5 x1 x2 x3 x4 σ)) ∧ (x5 = 3 → ((x6 = 0 → (B_X4_fitsBool_81 Q kk5 x1 x2 x3 x4 σ)) ∧ (¬ x6 = 0 → (B_X4_fitsBool_81 Q kk5 x1 x2 (x3 + 1) x4 σ))))
set_option maxRecDepth 20000 in
set_option maxHeartbeats 2000000 in
theorem k_X4_fitsBool_67 {G : zv_G} {X : zv_X} {Q : Int32 → zv_St → Prop} {kk5 : Int32 → Int32 → Int32 → Int32 → zv_St → Prop} (hC : zv_C G X M_X4_fitsBool) (hR : zv_R G X M_X4_fitsBool (zv_qi Q)) (hk5 : ∀ (x1 : Int32) (x2 : Int32) (x3 : Int32) (x4 : Int32) (σ : zv_St), kk5 x1 x2 x3 x4 σ → zv_V G X M_X4_fitsBool 5 [(0, .ref (G.2.2.1 27)), (1, .int x1), (2, .int x2), (3, .int x3), (4, .int x4)] [] σ) {x1 : Int32} {x2 : Int32} {x3 : Int32} {x4 : Int32} {x5 : Int32} {x6 : Int32} {σ : zv_St} (h : B_X4_fitsBool_67 Q kk5 x1 x2 x3 x4 x5 x6 σ) : zv_V G X M_X4_fitsBool 67 [(0, .ref (G.2.2.1 27)), (1, .int x1), (2, .int x2), (3, .int x3), (4, .int x4), (5, .int x5), (6, .int x6)] [] σ := by
  unfold B_X4_fitsBool_67 at h
  refine zv_iload hC dX4_fitsBool_67 rfl ?_
  refine zv_iconst (v := 3) hC dX4_fitsBool_69 (by decide) ?_
  refine zv_icmp_ne (tgt := 81) hC dX4_fitsBool_70 (by decide) (fun c => ?_) (fun c => ?_)
  · replace h := h.1 c
    exact zv_go (k_X4_fitsBool_81 hC hR hk5 h) ⟨rfl, rfl, rfl, rfl, rfl, trivial⟩
  · replace h := h.2 c
    refine zv_iload hC dX4_fitsBool_73 rfl ?_
    refine zv_if_eq (tgt := 81) hC dX4_fitsBool_75 (by decide) (fun c => ?_) (fun c => ?_)
    · replace h := h.1 c
      exact zv_go (k_X4_fitsBool_81 hC hR hk5 h) ⟨rfl, rfl, rfl, rfl, rfl, trivial⟩
    · replace h := h.2 c
      refine zv_iinc (v := 1) hC dX4_fitsBool_78 rfl (by decide) (by decide) ?_
      exact zv_go (k_X4_fitsBool_81 hC hR hk5 h) ⟨rfl, rfl, rfl, rfl, rfl, trivial⟩
def L_X4_fitsBool_5 (Q : Int32 → zv_St → Prop) : Nat → (Int32 → Int32 → Int32 → Int32 → zv_St → Prop)
  | 0 => fun _ _ _ _ _ => False
  | u + 1 => fun x1 x2 x3 x4 σ => 
    B_X5_size (fun r_2 σ_1 => (r_2 ≤ x4 → (B_X5_leastOf (fun r_4 σ_3 => (x3 < r_4 → (B_X4_fitsBool_104 Q 0 σ_3)) ∧ (¬ x3 < r_4 → (B_X4_fitsBool_104 Q 1 σ_3))) x1 σ_1)) ∧ (¬ r_2 ≤ x4 → (B_X5_roleAt (fun r_6 σ_5 => B_X5_partAt (fun r_8 σ_7 => B_X4_holds (fun r_10 σ_9 => (r_6 = 3 → (B_X4_fitsBool_67 Q (L_X4_fitsBool_5 Q u) x1 x2 x3 x4 r_6 r_10 σ_9)) ∧ (¬ r_6 = 3 → (B_X10_isNeeded (fun r_12 σ_11 => (r_10 = r_12 → (B_X4_fitsBool_67 Q (L_X4_fitsBool_5 Q u) x1 x2 x3 x4 r_6 r_10 σ_11)) ∧ (¬ r_10 = r_12 → (Q 0 σ_11))) r_6 σ_9))) r_8 r_6 x2 σ_7) x1 x4 σ_5) x1 x4 σ_1))) x1 σ
set_option maxRecDepth 20000 in
set_option maxHeartbeats 2000000 in
theorem kL_X4_fitsBool_5 {G : zv_G} {X : zv_X} {Q : Int32 → zv_St → Prop}  (hC : zv_C G X M_X4_fitsBool) (hR : zv_R G X M_X4_fitsBool (zv_qi Q))  : ∀ (n : Nat) (x1 : Int32) (x2 : Int32) (x3 : Int32) (x4 : Int32) (σ : zv_St), L_X4_fitsBool_5 Q  n x1 x2 x3 x4 σ → zv_V G X M_X4_fitsBool 5 [(0, .ref (G.2.2.1 27)), (1, .int x1), (2, .int x2), (3, .int x3), (4, .int x4)] [] σ := by
  intro n
  induction n with
  | zero => intro x1 x2 x3 x4 σ h; exact h.elim
  | succ n hk5 =>
    intro x1 x2 x3 x4 σ h
    unfold L_X4_fitsBool_5 at h
    refine zv_iload hC dX4_fitsBool_5 rfl ?_
    refine zv_aload_n hC dX4_fitsBool_7 rfl ?_
    refine zv_getR (j := 5) hC fl_X4_26 dX4_fitsBool_8 rfl rfl ?_
    refine zv_iload_n hC dX4_fitsBool_11 rfl ?_
    refine zv_callVi (As := [_]) hC dX4_fitsBool_12 Y_X5_size lk_X4_76 (by decide) rfl rfl rfl (Nat.le_of_ble_eq_true rfl) (ok_X5_size G h) ?_
    intro r_2 σ_1 h
    refine zv_icmp_ge (tgt := 87) hC dX4_fitsBool_15 (by decide) (fun c => ?_) (fun c => ?_)
    · replace h := h.1 c
      refine zv_iload_n hC dX4_fitsBool_87 rfl ?_
      refine zv_aload_n hC dX4_fitsBool_88 rfl ?_
      refine zv_getR (j := 5) hC fl_X4_26 dX4_fitsBool_89 rfl rfl ?_
      refine zv_iload_n hC dX4_fitsBool_92 rfl ?_
      refine zv_callVi (As := [_]) hC dX4_fitsBool_93 Y_X5_leastOf lk_X4_107 (by decide) rfl rfl rfl (Nat.le_of_ble_eq_true rfl) (ok_X5_leastOf G h) ?_
      intro r_4 σ_3 h
      refine zv_icmp_lt (tgt := 103) hC dX4_fitsBool_96 (by decide) (fun c => ?_) (fun c => ?_)
      · replace h := h.1 c
        refine zv_iconst (v := 0) hC dX4_fitsBool_103 (by decide) ?_
        exact zv_go (k_X4_fitsBool_104 hC hR  h) trivial
      · replace h := h.2 c
        refine zv_iconst (v := 1) hC dX4_fitsBool_99 (by decide) ?_
        refine zv_goto (tgt := 104) hC dX4_fitsBool_100 (by decide) ?_
        exact zv_go (k_X4_fitsBool_104 hC hR  h) trivial
    · replace h := h.2 c
      refine zv_aload_n hC dX4_fitsBool_18 rfl ?_
      refine zv_getR (j := 5) hC fl_X4_26 dX4_fitsBool_19 rfl rfl ?_
      refine zv_iload_n hC dX4_fitsBool_22 rfl ?_
      refine zv_iload hC dX4_fitsBool_23 rfl ?_
      refine zv_callVi (As := [_, _]) hC dX4_fitsBool_25 Y_X5_roleAt lk_X4_85 (by decide) rfl rfl rfl (Nat.le_of_ble_eq_true rfl) (ok_X5_roleAt G h) ?_
      intro r_6 σ_5 h
      refine zv_istore hC dX4_fitsBool_28 (by decide) ?_
      refine zv_aload_n hC dX4_fitsBool_30 rfl ?_
      refine zv_aload_n hC dX4_fitsBool_31 rfl ?_
      refine zv_getR (j := 5) hC fl_X4_26 dX4_fitsBool_32 rfl rfl ?_
      refine zv_iload_n hC dX4_fitsBool_35 rfl ?_
      refine zv_iload hC dX4_fitsBool_36 rfl ?_
      refine zv_callVi (As := [_, _]) hC dX4_fitsBool_38 Y_X5_partAt lk_X4_79 (by decide) rfl rfl rfl (Nat.le_of_ble_eq_true rfl) (ok_X5_partAt G h) ?_
      intro r_8 σ_7 h
      refine zv_iload hC dX4_fitsBool_41 rfl ?_
      refine zv_iload_n hC dX4_fitsBool_43 rfl ?_
      refine zv_callVi (As := [_, _, _]) hC dX4_fitsBool_44 Y_X4_holds lk_X4_88 (by decide) rfl rfl rfl (Nat.le_of_ble_eq_true rfl) (ok_X4_holds G h) ?_
      intro r_10 σ_9 h
      refine zv_istore hC dX4_fitsBool_47 (by decide) ?_
      refine zv_iload hC dX4_fitsBool_49 rfl ?_
      refine zv_iconst (v := 3) hC dX4_fitsBool_51 (by decide) ?_
      refine zv_icmp_eq (tgt := 67) hC dX4_fitsBool_52 (by decide) (fun c => ?_) (fun c => ?_)
      · replace h := h.1 c
        exact zv_go (k_X4_fitsBool_67 hC hR hk5 h) ⟨rfl, rfl, rfl, rfl, rfl, rfl, rfl, trivial⟩
      · replace h := h.2 c
        refine zv_iload hC dX4_fitsBool_55 rfl ?_
        refine zv_iload hC dX4_fitsBool_57 rfl ?_
        refine zv_callSNi (As := [_]) hC dX4_fitsBool_59 Y_X10_isNeeded lk_X4_92 (by decide) rfl rfl (Nat.le_of_ble_eq_true rfl) (ok_X10_isNeeded G h) ?_
        intro r_12 σ_11 h
        refine zv_icmp_eq (tgt := 67) hC dX4_fitsBool_62 (by decide) (fun c => ?_) (fun c => ?_)
        · replace h := h.1 c
          exact zv_go (k_X4_fitsBool_67 hC hR hk5 h) ⟨rfl, rfl, rfl, rfl, rfl, rfl, rfl, trivial⟩
        · replace h := h.2 c
          refine zv_iconst (v := 0) hC dX4_fitsBool_65 (by decide) ?_
          exact (hR _ _ _).2.1 _ rfl rfl dX4_fitsBool_66 ⟨_, rfl, h⟩
def B_X4_fitsBool (Q : Int32 → zv_St → Prop) (x1 : Int32) (x2 : Int32) (σ : zv_St) : Prop :=
  ∃ n5, L_X4_fitsBool_5 Q n5 x1 x2 0 0 σ
set_option maxRecDepth 20000 in
set_option maxHeartbeats 2000000 in
theorem k_X4_fitsBool_0 {G : zv_G} {X : zv_X} {Q : Int32 → zv_St → Prop}  (hC : zv_C G X M_X4_fitsBool) (hR : zv_R G X M_X4_fitsBool (zv_qi Q))  {x1 : Int32} {x2 : Int32} {σ : zv_St} (h : B_X4_fitsBool Q  x1 x2 σ) : zv_V G X M_X4_fitsBool 0 [(0, .ref (G.2.2.1 27)), (1, .int x1), (2, .int x2)] [] σ := by
  unfold B_X4_fitsBool at h
  refine zv_iconst (v := 0) hC dX4_fitsBool_0 (by decide) ?_
  refine zv_istore_n hC dX4_fitsBool_1 (by decide) ?_
  refine zv_iconst (v := 0) hC dX4_fitsBool_2 (by decide) ?_
  refine zv_istore hC dX4_fitsBool_3 (by decide) ?_
  obtain ⟨n, h⟩ := h
  exact zv_go (kL_X4_fitsBool_5 hC hR  n _ _ _ _ _ h) ⟨rfl, rfl, rfl, rfl, rfl, trivial⟩
theorem ok_X4_fitsBool (G : zv_G) {Q : Int32 → zv_St → Prop} {x1 : Int32} {x2 : Int32} {σ : zv_St} (h : B_X4_fitsBool Q x1 x2 σ) : zv_OK G M_X4_fitsBool yX4_fitsBool [.ref (G.2.2.1 27), .int x1, .int x2] σ (zv_qi Q) := zv_ok G _ _ _ _ _ (by decide +kernel) rfl (Nat.le_of_ble_eq_true rfl) (fun X hC hR => zv_go (k_X4_fitsBool_0 hC hR h) ⟨rfl, rfl, rfl, trivial⟩)
-- X4_fitsByParts
def B_X4_fitsByParts_51 (Q : Int32 → zv_St → Prop) (x1 : Int32) (σ : zv_St) : Prop :=
  B_X4_somePartMatches (fun r_2 σ_1 => narrow .boolean (.int r_2) = .int r_2 ∧ Q r_2 σ_1) x1 σ
set_option maxRecDepth 20000 in
set_option maxHeartbeats 2000000 in
theorem k_X4_fitsByParts_51 {G : zv_G} {X : zv_X} {Q : Int32 → zv_St → Prop}  (hC : zv_C G X M_X4_fitsByParts) (hR : zv_R G X M_X4_fitsByParts (zv_qi Q))  {x1 : Int32} {σ : zv_St} (h : B_X4_fitsByParts_51 Q  x1 σ) : zv_V G X M_X4_fitsByParts 51 [(0, .ref (G.2.2.1 27)), (1, .int x1)] [] σ := by
  unfold B_X4_fitsByParts_51 at h
  refine zv_aload_n hC dX4_fitsByParts_51 rfl ?_
  refine zv_iload_n hC dX4_fitsByParts_52 rfl ?_
  refine zv_callVi (As := [_]) hC dX4_fitsByParts_53 Y_X4_somePartMatches lk_X4_101 (by decide) rfl rfl rfl (Nat.le_of_ble_eq_true rfl) (ok_X4_somePartMatches G h) ?_
  intro r_2 σ_1 h
  exact (hR _ _ _).2.1 _ rfl h.1 dX4_fitsByParts_56 ⟨_, rfl, h.2⟩
def B_X4_fitsByParts_79 (Q : Int32 → zv_St → Prop) (y0 : Int32) (σ : zv_St) : Prop :=
  narrow .boolean (.int y0) = .int y0 ∧ Q y0 σ
set_option maxRecDepth 20000 in
set_option maxHeartbeats 2000000 in
theorem k_X4_fitsByParts_79 {G : zv_G} {X : zv_X} {Q : Int32 → zv_St → Prop}  (hC : zv_C G X M_X4_fitsByParts) (hR : zv_R G X M_X4_fitsByParts (zv_qi Q))  {y0 : Int32} {σ : zv_St} (h : B_X4_fitsByParts_79 Q  y0 σ) : zv_V G X M_X4_fitsByParts 79 [] [.int y0] σ := by
  unfold B_X4_fitsByParts_79 at h
  exact (hR _ _ _).2.1 _ rfl h.1 dX4_fitsByParts_79 ⟨_, rfl, h.2⟩
def B_X4_fitsByParts_78 (Q : Int32 → zv_St → Prop) (σ : zv_St) : Prop :=
  B_X4_fitsByParts_79 Q 0 σ
set_option maxRecDepth 20000 in
set_option maxHeartbeats 2000000 in
theorem k_X4_fitsByParts_78 {G : zv_G} {X : zv_X} {Q : Int32 → zv_St → Prop}  (hC : zv_C G X M_X4_fitsByParts) (hR : zv_R G X M_X4_fitsByParts (zv_qi Q))   {σ : zv_St} (h : B_X4_fitsByParts_78 Q   σ) : zv_V G X M_X4_fitsByParts 78 [] [] σ := by
  unfold B_X4_fitsByParts_78 at h
  refine zv_iconst (v := 0) hC dX4_fitsByParts_78 (by decide) ?_
  exact zv_go (k_X4_fitsByParts_79 hC hR  h) trivial
def B_X4_fitsByParts_104 (Q : Int32 → zv_St → Prop) (y0 : Int32) (σ : zv_St) : Prop :=
  narrow .boolean (.int y0) = .int y0 ∧ Q y0 σ
set_option maxRecDepth 20000 in
set_option maxHeartbeats 2000000 in
theorem k_X4_fitsByParts_104 {G : zv_G} {X : zv_X} {Q : Int32 → zv_St → Prop}  (hC : zv_C G X M_X4_fitsByParts) (hR : zv_R G X M_X4_fitsByParts (zv_qi Q))  {y0 : Int32} {σ : zv_St} (h : B_X4_fitsByParts_104 Q  y0 σ) : zv_V G X M_X4_fitsByParts 104 [] [.int y0] σ := by
  unfold B_X4_fitsByParts_104 at h
  exact (hR _ _ _).2.1 _ rfl h.1 dX4_fitsByParts_104 ⟨_, rfl, h.2⟩
def B_X4_fitsByParts_99 (Q : Int32 → zv_St → Prop) (σ : zv_St) : Prop :=
  B_X4_fitsByParts_104 Q 1 σ
set_option maxRecDepth 20000 in
set_option maxHeartbeats 2000000 in
theorem k_X4_fitsByParts_99 {G : zv_G} {X : zv_X} {Q : Int32 → zv_St → Prop}  (hC : zv_C G X M_X4_fitsByParts) (hR : zv_R G X M_X4_fitsByParts (zv_qi Q))   {σ : zv_St} (h : B_X4_fitsByParts_99 Q   σ) : zv_V G X M_X4_fitsByParts 99 [] [] σ := by
  unfold B_X4_fitsByParts_99 at h
  refine zv_iconst (v := 1) hC dX4_fitsByParts_99 (by decide) ?_
  refine zv_goto (tgt := 104) hC dX4_fitsByParts_100 (by decide) ?_
  exact zv_go (k_X4_fitsByParts_104 hC hR  h) trivial
def B_X4_fitsByParts (Q : Int32 → zv_St → Prop) (x1 : Int32) (x2 : Int32) (σ : zv_St) : Prop :=
  B_X5_kind (fun r_2 σ_1 => (r_2 = 2 → (B_X4_fitsBool (fun r_4 σ_3 => narrow .boolean (.int r_4) = .int r_4 ∧ Q r_4 σ_3) x1 x2 σ_1)) ∧ (r_2 = 3 → (B_X4_fitsByParts_51 Q x1 σ_1)) ∧ (r_2 = 4 → (B_X4_fitsByParts_51 Q x1 σ_1)) ∧ (r_2 = 5 → (B_X4_somePartMatches (fun r_6 σ_5 => (r_6 = 0 → (B_X4_fitsByParts_78 Q σ_5)) ∧ (¬ r_6 = 0 → (B_X4_passesTest (fun r_8 σ_7 => (r_8 = 0 → (B_X4_fitsByParts_78 Q σ_7)) ∧ (¬ r_8 = 0 → (B_X4_fitsByParts_79 Q 1 σ_7))) x1 x2 σ_5))) x1 σ_1)) ∧ (r_2 = 6 → (B_X9_isThere (fun r_10 σ_9 => (¬ r_10 = 0 → (B_X4_fitsByParts_99 Q σ_9)) ∧ (r_10 = 0 → (B_X4_somePartMatches (fun r_12 σ_11 => (r_12 = 0 → (B_X4_fitsByParts_104 Q 0 σ_11)) ∧ (¬ r_12 = 0 → (B_X4_fitsByParts_99 Q σ_11))) x1 σ_9))) x1 σ_1)) ∧ (Int32.toInt r_2 < 2 ∨ 6 < Int32.toInt r_2 → (Q 1 σ_1))) x1 σ
set_option maxRecDepth 20000 in
set_option maxHeartbeats 2000000 in
theorem k_X4_fitsByParts_0 {G : zv_G} {X : zv_X} {Q : Int32 → zv_St → Prop}  (hC : zv_C G X M_X4_fitsByParts) (hR : zv_R G X M_X4_fitsByParts (zv_qi Q))  {x1 : Int32} {x2 : Int32} {σ : zv_St} (h : B_X4_fitsByParts Q  x1 x2 σ) : zv_V G X M_X4_fitsByParts 0 [(0, .ref (G.2.2.1 27)), (1, .int x1), (2, .int x2)] [] σ := by
  unfold B_X4_fitsByParts at h
  refine zv_aload_n hC dX4_fitsByParts_0 rfl ?_
  refine zv_getR (j := 5) hC fl_X4_26 dX4_fitsByParts_1 rfl rfl ?_
  refine zv_iload_n hC dX4_fitsByParts_4 rfl ?_
  refine zv_callVi (As := [_]) hC dX4_fitsByParts_5 Y_X5_kind lk_X4_67 (by decide) rfl rfl rfl (Nat.le_of_ble_eq_true rfl) (ok_X5_kind G h) ?_
  intro r_2 σ_1 h
  refine zv_swV (zv_sw_2_6) ?_
  rintro (c | c | c | c | c | c)
  · replace h := h.1 c
    refine zv_table (off := 36) (tgt := 44) hC dX4_fitsByParts_8 (by rw [c]; decide) (by rw [c]; decide) (by rw [c]; rfl) (by decide) ?_
    refine zv_aload_n hC dX4_fitsByParts_44 rfl ?_
    refine zv_iload_n hC dX4_fitsByParts_45 rfl ?_
    refine zv_iload_n hC dX4_fitsByParts_46 rfl ?_
    refine zv_callVi (As := [_, _]) hC dX4_fitsByParts_47 Y_X4_fitsBool lk_X4_98 (by decide) rfl rfl rfl (Nat.le_of_ble_eq_true rfl) (ok_X4_fitsBool G h) ?_
    intro r_4 σ_3 h
    exact (hR _ _ _).2.1 _ rfl h.1 dX4_fitsByParts_50 ⟨_, rfl, h.2⟩
  · replace h := h.2.1 c
    refine zv_table (off := 43) (tgt := 51) hC dX4_fitsByParts_8 (by rw [c]; decide) (by rw [c]; decide) (by rw [c]; rfl) (by decide) ?_
    exact zv_go (k_X4_fitsByParts_51 hC hR  h) ⟨rfl, rfl, trivial⟩
  · replace h := h.2.2.1 c
    refine zv_table (off := 43) (tgt := 51) hC dX4_fitsByParts_8 (by rw [c]; decide) (by rw [c]; decide) (by rw [c]; rfl) (by decide) ?_
    exact zv_go (k_X4_fitsByParts_51 hC hR  h) ⟨rfl, rfl, trivial⟩
  · replace h := h.2.2.2.1 c
    refine zv_table (off := 49) (tgt := 57) hC dX4_fitsByParts_8 (by rw [c]; decide) (by rw [c]; decide) (by rw [c]; rfl) (by decide) ?_
    refine zv_aload_n hC dX4_fitsByParts_57 rfl ?_
    refine zv_iload_n hC dX4_fitsByParts_58 rfl ?_
    refine zv_callVi (As := [_]) hC dX4_fitsByParts_59 Y_X4_somePartMatches lk_X4_101 (by decide) rfl rfl rfl (Nat.le_of_ble_eq_true rfl) (ok_X4_somePartMatches G h) ?_
    intro r_6 σ_5 h
    refine zv_if_eq (tgt := 78) hC dX4_fitsByParts_62 (by decide) (fun c => ?_) (fun c => ?_)
    · replace h := h.1 c
      exact zv_go (k_X4_fitsByParts_78 hC hR  h) trivial
    · replace h := h.2 c
      refine zv_aload_n hC dX4_fitsByParts_65 rfl ?_
      refine zv_iload_n hC dX4_fitsByParts_66 rfl ?_
      refine zv_iload_n hC dX4_fitsByParts_67 rfl ?_
      refine zv_callVi (As := [_, _]) hC dX4_fitsByParts_68 Y_X4_passesTest lk_X4_104 (by decide) rfl rfl rfl (Nat.le_of_ble_eq_true rfl) (ok_X4_passesTest G h) ?_
      intro r_8 σ_7 h
      refine zv_if_eq (tgt := 78) hC dX4_fitsByParts_71 (by decide) (fun c => ?_) (fun c => ?_)
      · replace h := h.1 c
        exact zv_go (k_X4_fitsByParts_78 hC hR  h) trivial
      · replace h := h.2 c
        refine zv_iconst (v := 1) hC dX4_fitsByParts_74 (by decide) ?_
        refine zv_goto (tgt := 79) hC dX4_fitsByParts_75 (by decide) ?_
        exact zv_go (k_X4_fitsByParts_79 hC hR  h) trivial
  · replace h := h.2.2.2.2.1 c
    refine zv_table (off := 72) (tgt := 80) hC dX4_fitsByParts_8 (by rw [c]; decide) (by rw [c]; decide) (by rw [c]; rfl) (by decide) ?_
    refine zv_aload_n hC dX4_fitsByParts_80 rfl ?_
    refine zv_getR (j := 13) hC fl_X4_30 dX4_fitsByParts_81 rfl rfl ?_
    refine zv_iload_n hC dX4_fitsByParts_84 rfl ?_
    refine zv_callVi (As := [_]) hC dX4_fitsByParts_85 Y_X9_isThere lk_X4_61 (by decide) rfl rfl rfl (Nat.le_of_ble_eq_true rfl) (ok_X9_isThere G h) ?_
    intro r_10 σ_9 h
    refine zv_if_ne (tgt := 99) hC dX4_fitsByParts_88 (by decide) (fun c => ?_) (fun c => ?_)
    · replace h := h.1 c
      exact zv_go (k_X4_fitsByParts_99 hC hR  h) trivial
    · replace h := h.2 c
      refine zv_aload_n hC dX4_fitsByParts_91 rfl ?_
      refine zv_iload_n hC dX4_fitsByParts_92 rfl ?_
      refine zv_callVi (As := [_]) hC dX4_fitsByParts_93 Y_X4_somePartMatches lk_X4_101 (by decide) rfl rfl rfl (Nat.le_of_ble_eq_true rfl) (ok_X4_somePartMatches G h) ?_
      intro r_12 σ_11 h
      refine zv_if_eq (tgt := 103) hC dX4_fitsByParts_96 (by decide) (fun c => ?_) (fun c => ?_)
      · replace h := h.1 c
        refine zv_iconst (v := 0) hC dX4_fitsByParts_103 (by decide) ?_
        exact zv_go (k_X4_fitsByParts_104 hC hR  h) trivial
      · replace h := h.2 c
        exact zv_go (k_X4_fitsByParts_99 hC hR  h) trivial
  · replace h := h.2.2.2.2.2 c
    refine zv_tableD (tgt := 105) hC dX4_fitsByParts_8 c (by decide) ?_
    refine zv_iconst (v := 1) hC dX4_fitsByParts_105 (by decide) ?_
    exact (hR _ _ _).2.1 _ rfl rfl dX4_fitsByParts_106 ⟨_, rfl, h⟩
theorem ok_X4_fitsByParts (G : zv_G) {Q : Int32 → zv_St → Prop} {x1 : Int32} {x2 : Int32} {σ : zv_St} (h : B_X4_fitsByParts Q x1 x2 σ) : zv_OK G M_X4_fitsByParts yX4_fitsByParts [.ref (G.2.2.1 27), .int x1, .int x2] σ (zv_qi Q) := zv_ok G _ _ _ _ _ (by decide +kernel) rfl (Nat.le_of_ble_eq_true rfl) (fun X hC hR => zv_go (k_X4_fitsByParts_0 hC hR h) ⟨rfl, rfl, rfl, trivial⟩)
-- J9_max_f86c9
def B_J9_max_f86c9_11 (Q : Int64 → zv_St → Prop) (y0 : Int64) (σ : zv_St) : Prop :=
  Q y0 σ
set_option maxRecDepth 20000 in
set_option maxHeartbeats 2000000 in
theorem k_J9_max_f86c9_11 {G : zv_G} {X : zv_X} {Q : Int64 → zv_St → Prop}  (hC : zv_C G X M_J9_max_f86c9) (hR : zv_R G X M_J9_max_f86c9 (zv_ql Q))  {y0 : Int64} {σ : zv_St} (h : B_J9_max_f86c9_11 Q  y0 σ) : zv_V G X M_J9_max_f86c9 11 [] [.long y0] σ := by
  unfold B_J9_max_f86c9_11 at h
  exact (hR _ _ _).2.2.1 _ rfl dJ9_max_f86c9_11 ⟨_, rfl, h⟩
def B_J9_max_f86c9 (Q : Int64 → zv_St → Prop) (x0 : Int64) (x2 : Int64) (σ : zv_St) : Prop :=
  ((lg_cmp x0 x2) < 0 → (B_J9_max_f86c9_11 Q x2 σ)) ∧ (¬ (lg_cmp x0 x2) < 0 → (B_J9_max_f86c9_11 Q x0 σ))
set_option maxRecDepth 20000 in
set_option maxHeartbeats 2000000 in
theorem k_J9_max_f86c9_0 {G : zv_G} {X : zv_X} {Q : Int64 → zv_St → Prop}  (hC : zv_C G X M_J9_max_f86c9) (hR : zv_R G X M_J9_max_f86c9 (zv_ql Q))  {x0 : Int64} {x2 : Int64} {σ : zv_St} (h : B_J9_max_f86c9 Q  x0 x2 σ) : zv_V G X M_J9_max_f86c9 0 [(0, .long x0), (2, .long x2)] [] σ := by
  unfold B_J9_max_f86c9 at h
  refine zv_lload_n hC dJ9_max_f86c9_0 rfl ?_
  refine zv_lload_n hC dJ9_max_f86c9_1 rfl ?_
  refine zv_lcmp hC dJ9_max_f86c9_2 ?_
  refine zv_if_lt (tgt := 10) hC dJ9_max_f86c9_3 (by decide) (fun c => ?_) (fun c => ?_)
  · replace h := h.1 c
    refine zv_lload_n hC dJ9_max_f86c9_10 rfl ?_
    exact zv_go (k_J9_max_f86c9_11 hC hR  h) trivial
  · replace h := h.2 c
    refine zv_lload_n hC dJ9_max_f86c9_6 rfl ?_
    refine zv_goto (tgt := 11) hC dJ9_max_f86c9_7 (by decide) ?_
    exact zv_go (k_J9_max_f86c9_11 hC hR  h) trivial
theorem ok_J9_max_f86c9 (G : zv_G) {Q : Int64 → zv_St → Prop} {x0 : Int64} {x2 : Int64} {σ : zv_St} (h : B_J9_max_f86c9 Q x0 x2 σ) : zv_OK G M_J9_max_f86c9 yJ9_max_f86c9 [.long x0, .long x2] σ (zv_ql Q) := zv_ok G _ _ _ _ _ (by decide +kernel) rfl (Nat.le_of_ble_eq_true rfl) (fun X hC hR => zv_go (k_J9_max_f86c9_0 hC hR h) ⟨rfl, rfl, trivial⟩)
-- X4_scoreOfBest
def B_X4_scoreOfBest_89 (Q : Int64 → zv_St → Prop) (kk11 : Int32 → Int64 → Int64 → Int32 → Int32 → zv_St → Prop) (x1 : Int32) (x2 : Int64) (x4 : Int64) (x6 : Int32) (x7 : Int32) (σ : zv_St) : Prop :=
  kk11 x1 x2 x4 x6 (x7 + 1) σ
set_option maxRecDepth 20000 in
set_option maxHeartbeats 2000000 in
theorem k_X4_scoreOfBest_89 {G : zv_G} {X : zv_X} {Q : Int64 → zv_St → Prop} {kk11 : Int32 → Int64 → Int64 → Int32 → Int32 → zv_St → Prop} (hC : zv_C G X M_X4_scoreOfBest) (hR : zv_R G X M_X4_scoreOfBest (zv_ql Q)) (hk11 : ∀ (x1 : Int32) (x2 : Int64) (x4 : Int64) (x6 : Int32) (x7 : Int32) (σ : zv_St), kk11 x1 x2 x4 x6 x7 σ → zv_V G X M_X4_scoreOfBest 11 [(0, .ref (G.2.2.1 27)), (1, .int x1), (2, .long x2), (4, .long x4), (6, .int x6), (7, .int x7)] [] σ) {x1 : Int32} {x2 : Int64} {x4 : Int64} {x6 : Int32} {x7 : Int32} {σ : zv_St} (h : B_X4_scoreOfBest_89 Q kk11 x1 x2 x4 x6 x7 σ) : zv_V G X M_X4_scoreOfBest 89 [(0, .ref (G.2.2.1 27)), (1, .int x1), (2, .long x2), (4, .long x4), (6, .int x6), (7, .int x7)] [] σ := by
  unfold B_X4_scoreOfBest_89 at h
  refine zv_iinc (v := 1) hC dX4_scoreOfBest_89 rfl (by decide) (by decide) ?_
  refine zv_goto (tgt := 11) hC dX4_scoreOfBest_92 (by decide) ?_
  exact zv_go (hk11 _ _ _ _ _ _ h) ⟨rfl, rfl, rfl, rfl, rfl, rfl, trivial⟩
def B_X4_scoreOfBest_84 (Q : Int64 → zv_St → Prop) (kk11 : Int32 → Int64 → Int64 → Int32 → Int32 → zv_St → Prop) (x1 : Int32) (x2 : Int64) (x7 : Int32) (y0 : Int64) (σ : zv_St) : Prop :=
  B_X4_scoreOfBest_89 Q kk11 x1 x2 y0 1 x7 σ
set_option maxRecDepth 20000 in
set_option maxHeartbeats 2000000 in
theorem k_X4_scoreOfBest_84 {G : zv_G} {X : zv_X} {Q : Int64 → zv_St → Prop} {kk11 : Int32 → Int64 → Int64 → Int32 → Int32 → zv_St → Prop} (hC : zv_C G X M_X4_scoreOfBest) (hR : zv_R G X M_X4_scoreOfBest (zv_ql Q)) (hk11 : ∀ (x1 : Int32) (x2 : Int64) (x4 : Int64) (x6 : Int32) (x7 : Int32) (σ : zv_St), kk11 x1 x2 x4 x6 x7 σ → zv_V G X M_X4_scoreOfBest 11 [(0, .ref (G.2.2.1 27)), (1, .int x1), (2, .long x2), (4, .long x4), (6, .int x6), (7, .int x7)] [] σ) {x1 : Int32} {x2 : Int64} {x7 : Int32} {y0 : Int64} {σ : zv_St} (h : B_X4_scoreOfBest_84 Q kk11 x1 x2 x7 y0 σ) : zv_V G X M_X4_scoreOfBest 84 [(0, .ref (G.2.2.1 27)), (1, .int x1), (2, .long x2), (7, .int x7)] [.long y0] σ := by
  unfold B_X4_scoreOfBest_84 at h
  refine zv_lstore hC dX4_scoreOfBest_84 (by decide) ?_
  refine zv_iconst (v := 1) hC dX4_scoreOfBest_86 (by decide) ?_
  refine zv_istore hC dX4_scoreOfBest_87 (by decide) ?_
  exact zv_go (k_X4_scoreOfBest_89 hC hR hk11 h) ⟨rfl, rfl, rfl, rfl, rfl, rfl, trivial⟩
def L_X4_scoreOfBest_11 (Q : Int64 → zv_St → Prop) : Nat → (Int32 → Int64 → Int64 → Int32 → Int32 → zv_St → Prop)
  | 0 => fun _ _ _ _ _ _ => False
  | u + 1 => fun x1 x2 x4 x6 x7 σ => 
    B_X5_size (fun r_2 σ_1 => (r_2 ≤ x7 → (B_X5_first (fun r_4 σ_3 => Q (x4 + (((x2 - x4) * (Int32.toInt64 r_4)) / 100)) σ_3) x1 σ_1)) ∧ (¬ r_2 ≤ x7 → (B_X5_partAt (fun r_6 σ_5 => vp_in r_6 80 ∧ (¬ (σ_5.1 28 r_6.toNatClampNeg) = 1 → (B_X4_scoreOfBest_89 Q (L_X4_scoreOfBest_11 Q u) x1 x2 x4 x6 x7 σ_5)) ∧ ((σ_5.1 28 r_6.toNatClampNeg) = 1 → (vp_in r_6 80 ∧ ∀ v_7 : Int64, v_7 = (x2 + (σ_5.2 29 r_6.toNatClampNeg)) → (x6 = 0 → (vp_in r_6 80 ∧ B_X4_scoreOfBest_84 Q (L_X4_scoreOfBest_11 Q u) x1 v_7 x7 (σ_5.2 29 r_6.toNatClampNeg) σ_5)) ∧ (¬ x6 = 0 → (vp_in r_6 80 ∧ B_J9_max_f86c9 (fun r_9 σ_8 => B_X4_scoreOfBest_84 Q (L_X4_scoreOfBest_11 Q u) x1 v_7 x7 r_9 σ_8) x4 (σ_5.2 29 r_6.toNatClampNeg) σ_5))))) x1 x7 σ_1))) x1 σ
set_option maxRecDepth 20000 in
set_option maxHeartbeats 2000000 in
theorem kL_X4_scoreOfBest_11 {G : zv_G} {X : zv_X} {Q : Int64 → zv_St → Prop}  (hC : zv_C G X M_X4_scoreOfBest) (hR : zv_R G X M_X4_scoreOfBest (zv_ql Q))  : ∀ (n : Nat) (x1 : Int32) (x2 : Int64) (x4 : Int64) (x6 : Int32) (x7 : Int32) (σ : zv_St), L_X4_scoreOfBest_11 Q  n x1 x2 x4 x6 x7 σ → zv_V G X M_X4_scoreOfBest 11 [(0, .ref (G.2.2.1 27)), (1, .int x1), (2, .long x2), (4, .long x4), (6, .int x6), (7, .int x7)] [] σ := by
  intro n
  induction n with
  | zero => intro x1 x2 x4 x6 x7 σ h; exact h.elim
  | succ n hk11 =>
    intro x1 x2 x4 x6 x7 σ h
    unfold L_X4_scoreOfBest_11 at h
    refine zv_iload hC dX4_scoreOfBest_11 rfl ?_
    refine zv_aload_n hC dX4_scoreOfBest_13 rfl ?_
    refine zv_getR (j := 5) hC fl_X4_26 dX4_scoreOfBest_14 rfl rfl ?_
    refine zv_iload_n hC dX4_scoreOfBest_17 rfl ?_
    refine zv_callVi (As := [_]) hC dX4_scoreOfBest_18 Y_X5_size lk_X4_76 (by decide) rfl rfl rfl (Nat.le_of_ble_eq_true rfl) (ok_X5_size G h) ?_
    intro r_2 σ_1 h
    refine zv_icmp_ge (tgt := 95) hC dX4_scoreOfBest_21 (by decide) (fun c => ?_) (fun c => ?_)
    · replace h := h.1 c
      refine zv_lload hC dX4_scoreOfBest_95 rfl ?_
      refine zv_lload_n hC dX4_scoreOfBest_97 rfl ?_
      refine zv_lload hC dX4_scoreOfBest_98 rfl ?_
      refine zv_lsub hC dX4_scoreOfBest_100 ?_
      refine zv_aload_n hC dX4_scoreOfBest_101 rfl ?_
      refine zv_getR (j := 5) hC fl_X4_26 dX4_scoreOfBest_102 rfl rfl ?_
      refine zv_iload_n hC dX4_scoreOfBest_105 rfl ?_
      refine zv_callVi (As := [_]) hC dX4_scoreOfBest_106 Y_X5_first lk_X4_121 (by decide) rfl rfl rfl (Nat.le_of_ble_eq_true rfl) (ok_X5_first G h) ?_
      intro r_4 σ_3 h
      refine zv_i2l hC dX4_scoreOfBest_109 ?_
      refine zv_lmul hC dX4_scoreOfBest_110 ?_
      refine zv_ldc2 hC dX4_scoreOfBest_111 cst_X4_142 ?_
      refine zv_ldiv hC dX4_scoreOfBest_114 (by decide) ?_
      refine zv_ladd hC dX4_scoreOfBest_115 ?_
      exact (hR _ _ _).2.2.1 _ rfl dX4_scoreOfBest_116 ⟨_, rfl, h⟩
    · replace h := h.2 c
      refine zv_aload_n hC dX4_scoreOfBest_24 rfl ?_
      refine zv_getR (j := 5) hC fl_X4_26 dX4_scoreOfBest_25 rfl rfl ?_
      refine zv_iload_n hC dX4_scoreOfBest_28 rfl ?_
      refine zv_iload hC dX4_scoreOfBest_29 rfl ?_
      refine zv_callVi (As := [_, _]) hC dX4_scoreOfBest_31 Y_X5_partAt lk_X4_79 (by decide) rfl rfl rfl (Nat.le_of_ble_eq_true rfl) (ok_X5_partAt G h) ?_
      intro r_6 σ_5 h
      refine zv_istore hC dX4_scoreOfBest_34 (by decide) ?_
      refine zv_aload_n hC dX4_scoreOfBest_36 rfl ?_
      refine zv_getR (j := 28) hC fl_X4_9 dX4_scoreOfBest_37 rfl rfl ?_
      refine zv_iload hC dX4_scoreOfBest_40 rfl ?_
      refine zv_iald hC dX4_scoreOfBest_42 rfl h.1 ?_
      replace h := h.2
      refine zv_iconst (v := 1) hC dX4_scoreOfBest_43 (by decide) ?_
      refine zv_icmp_ne (tgt := 89) hC dX4_scoreOfBest_44 (by decide) (fun c => ?_) (fun c => ?_)
      · replace h := h.1 c
        exact zv_go (k_X4_scoreOfBest_89 hC hR hk11 h) ⟨rfl, rfl, rfl, rfl, rfl, rfl, trivial⟩
      · replace h := h.2 c
        refine zv_lload_n hC dX4_scoreOfBest_47 rfl ?_
        refine zv_aload_n hC dX4_scoreOfBest_48 rfl ?_
        refine zv_getR (j := 29) hC fl_X4_15 dX4_scoreOfBest_49 rfl rfl ?_
        refine zv_iload hC dX4_scoreOfBest_52 rfl ?_
        refine zv_lald hC dX4_scoreOfBest_54 rfl h.1 ?_
        replace h := h.2
        refine zv_ladd hC dX4_scoreOfBest_55 ?_
        replace h := h _ rfl
        refine zv_lstore_n hC dX4_scoreOfBest_56 (by decide) ?_
        refine zv_iload hC dX4_scoreOfBest_57 rfl ?_
        refine zv_if_eq (tgt := 77) hC dX4_scoreOfBest_59 (by decide) (fun c => ?_) (fun c => ?_)
        · replace h := h.1 c
          refine zv_aload_n hC dX4_scoreOfBest_77 rfl ?_
          refine zv_getR (j := 29) hC fl_X4_15 dX4_scoreOfBest_78 rfl rfl ?_
          refine zv_iload hC dX4_scoreOfBest_81 rfl ?_
          refine zv_lald hC dX4_scoreOfBest_83 rfl h.1 ?_
          replace h := h.2
          exact zv_go (k_X4_scoreOfBest_84 hC hR hk11 h) ⟨rfl, rfl, rfl, rfl, trivial⟩
        · replace h := h.2 c
          refine zv_lload hC dX4_scoreOfBest_62 rfl ?_
          refine zv_aload_n hC dX4_scoreOfBest_64 rfl ?_
          refine zv_getR (j := 29) hC fl_X4_15 dX4_scoreOfBest_65 rfl rfl ?_
          refine zv_iload hC dX4_scoreOfBest_68 rfl ?_
          refine zv_lald hC dX4_scoreOfBest_70 rfl h.1 ?_
          replace h := h.2
          refine zv_callSl (As := [_, _]) hC dX4_scoreOfBest_71 Y_J9_max_f86c9 lk_X4_136 (by decide) rfl rfl (Nat.le_of_ble_eq_true rfl) (ok_J9_max_f86c9 G h) ?_
          intro r_9 σ_8 h
          refine zv_goto (tgt := 84) hC dX4_scoreOfBest_74 (by decide) ?_
          exact zv_go (k_X4_scoreOfBest_84 hC hR hk11 h) ⟨rfl, rfl, rfl, rfl, trivial⟩
def B_X4_scoreOfBest (Q : Int64 → zv_St → Prop) (x1 : Int32) (σ : zv_St) : Prop :=
  ∃ n11, L_X4_scoreOfBest_11 Q n11 x1 0 0 0 0 σ
set_option maxRecDepth 20000 in
set_option maxHeartbeats 2000000 in
theorem k_X4_scoreOfBest_0 {G : zv_G} {X : zv_X} {Q : Int64 → zv_St → Prop}  (hC : zv_C G X M_X4_scoreOfBest) (hR : zv_R G X M_X4_scoreOfBest (zv_ql Q))  {x1 : Int32} {σ : zv_St} (h : B_X4_scoreOfBest Q  x1 σ) : zv_V G X M_X4_scoreOfBest 0 [(0, .ref (G.2.2.1 27)), (1, .int x1)] [] σ := by
  unfold B_X4_scoreOfBest at h
  refine zv_lconst (v := 0) hC dX4_scoreOfBest_0 (by decide) ?_
  refine zv_lstore_n hC dX4_scoreOfBest_1 (by decide) ?_
  refine zv_lconst (v := 0) hC dX4_scoreOfBest_2 (by decide) ?_
  refine zv_lstore hC dX4_scoreOfBest_3 (by decide) ?_
  refine zv_iconst (v := 0) hC dX4_scoreOfBest_5 (by decide) ?_
  refine zv_istore hC dX4_scoreOfBest_6 (by decide) ?_
  refine zv_iconst (v := 0) hC dX4_scoreOfBest_8 (by decide) ?_
  refine zv_istore hC dX4_scoreOfBest_9 (by decide) ?_
  obtain ⟨n, h⟩ := h
  exact zv_go (kL_X4_scoreOfBest_11 hC hR  n _ _ _ _ _ _ h) ⟨rfl, rfl, rfl, rfl, rfl, rfl, trivial⟩
theorem ok_X4_scoreOfBest (G : zv_G) {Q : Int64 → zv_St → Prop} {x1 : Int32} {σ : zv_St} (h : B_X4_scoreOfBest Q x1 σ) : zv_OK G M_X4_scoreOfBest yX4_scoreOfBest [.ref (G.2.2.1 27), .int x1] σ (zv_ql Q) := zv_ok G _ _ _ _ _ (by decide +kernel) rfl (Nat.le_of_ble_eq_true rfl) (fun X hC hR => zv_go (k_X4_scoreOfBest_0 hC hR h) ⟨rfl, rfl, trivial⟩)
-- X4_scoreOfBool
def B_X4_scoreOfBool_74 (Q : Int64 → zv_St → Prop) (kk5 : Int32 → Int64 → Int32 → zv_St → Prop) (x1 : Int32) (x2 : Int64) (x4 : Int32) (σ : zv_St) : Prop :=
  kk5 x1 x2 (x4 + 1) σ
set_option maxRecDepth 20000 in
set_option maxHeartbeats 2000000 in
theorem k_X4_scoreOfBool_74 {G : zv_G} {X : zv_X} {Q : Int64 → zv_St → Prop} {kk5 : Int32 → Int64 → Int32 → zv_St → Prop} (hC : zv_C G X M_X4_scoreOfBool) (hR : zv_R G X M_X4_scoreOfBool (zv_ql Q)) (hk5 : ∀ (x1 : Int32) (x2 : Int64) (x4 : Int32) (σ : zv_St), kk5 x1 x2 x4 σ → zv_V G X M_X4_scoreOfBool 5 [(0, .ref (G.2.2.1 27)), (1, .int x1), (2, .long x2), (4, .int x4)] [] σ) {x1 : Int32} {x2 : Int64} {x4 : Int32} {σ : zv_St} (h : B_X4_scoreOfBool_74 Q kk5 x1 x2 x4 σ) : zv_V G X M_X4_scoreOfBool 74 [(0, .ref (G.2.2.1 27)), (1, .int x1), (2, .long x2), (4, .int x4)] [] σ := by
  unfold B_X4_scoreOfBool_74 at h
  refine zv_iinc (v := 1) hC dX4_scoreOfBool_74 rfl (by decide) (by decide) ?_
  refine zv_goto (tgt := 5) hC dX4_scoreOfBool_77 (by decide) ?_
  exact zv_go (hk5 _ _ _ _ h) ⟨rfl, rfl, rfl, rfl, trivial⟩
def B_X4_scoreOfBool_53 (Q : Int64 → zv_St → Prop) (kk5 : Int32 → Int64 → Int32 → zv_St → Prop) (x1 : Int32) (x2 : Int64) (x4 : Int32) (x6 : Int32) (σ : zv_St) : Prop :=
  vp_in x6 80 ∧ (¬ (σ.1 28 x6.toNatClampNeg) = 1 → (B_X4_scoreOfBool_74 Q kk5 x1 x2 x4 σ)) ∧ ((σ.1 28 x6.toNatClampNeg) = 1 → (vp_in x6 80 ∧ ∀ v_1 : Int64, v_1 = (x2 + (σ.2 29 x6.toNatClampNeg)) → B_X4_scoreOfBool_74 Q kk5 x1 v_1 x4 σ))
set_option maxRecDepth 20000 in
set_option maxHeartbeats 2000000 in
theorem k_X4_scoreOfBool_53 {G : zv_G} {X : zv_X} {Q : Int64 → zv_St → Prop} {kk5 : Int32 → Int64 → Int32 → zv_St → Prop} (hC : zv_C G X M_X4_scoreOfBool) (hR : zv_R G X M_X4_scoreOfBool (zv_ql Q)) (hk5 : ∀ (x1 : Int32) (x2 : Int64) (x4 : Int32) (σ : zv_St), kk5 x1 x2 x4 σ → zv_V G X M_X4_scoreOfBool 5 [(0, .ref (G.2.2.1 27)), (1, .int x1), (2, .long x2), (4, .int x4)] [] σ) {x1 : Int32} {x2 : Int64} {x4 : Int32} {x6 : Int32} {σ : zv_St} (h : B_X4_scoreOfBool_53 Q kk5 x1 x2 x4 x6 σ) : zv_V G X M_X4_scoreOfBool 53 [(0, .ref (G.2.2.1 27)), (1, .int x1), (2, .long x2), (4, .int x4), (6, .int x6)] [] σ := by
  unfold B_X4_scoreOfBool_53 at h
  refine zv_aload_n hC dX4_scoreOfBool_53 rfl ?_
  refine zv_getR (j := 28) hC fl_X4_9 dX4_scoreOfBool_54 rfl rfl ?_
  refine zv_iload hC dX4_scoreOfBool_57 rfl ?_
  refine zv_iald hC dX4_scoreOfBool_59 rfl h.1 ?_
  replace h := h.2
  refine zv_iconst (v := 1) hC dX4_scoreOfBool_60 (by decide) ?_
  refine zv_icmp_ne (tgt := 74) hC dX4_scoreOfBool_61 (by decide) (fun c => ?_) (fun c => ?_)
  · replace h := h.1 c
    exact zv_go (k_X4_scoreOfBool_74 hC hR hk5 h) ⟨rfl, rfl, rfl, rfl, trivial⟩
  · replace h := h.2 c
    refine zv_lload_n hC dX4_scoreOfBool_64 rfl ?_
    refine zv_aload_n hC dX4_scoreOfBool_65 rfl ?_
    refine zv_getR (j := 29) hC fl_X4_15 dX4_scoreOfBool_66 rfl rfl ?_
    refine zv_iload hC dX4_scoreOfBool_69 rfl ?_
    refine zv_lald hC dX4_scoreOfBool_71 rfl h.1 ?_
    replace h := h.2
    refine zv_ladd hC dX4_scoreOfBool_72 ?_
    replace h := h _ rfl
    refine zv_lstore_n hC dX4_scoreOfBool_73 (by decide) ?_
    exact zv_go (k_X4_scoreOfBool_74 hC hR hk5 h) ⟨rfl, rfl, rfl, rfl, trivial⟩
def L_X4_scoreOfBool_5 (Q : Int64 → zv_St → Prop) : Nat → (Int32 → Int64 → Int32 → zv_St → Prop)
  | 0 => fun _ _ _ _ => False
  | u + 1 => fun x1 x2 x4 σ => 
    B_X5_size (fun r_2 σ_1 => (r_2 ≤ x4 → (Q x2 σ_1)) ∧ (¬ r_2 ≤ x4 → (B_X5_roleAt (fun r_4 σ_3 => B_X5_partAt (fun r_6 σ_5 => (r_4 = 0 → (B_X4_scoreOfBool_53 Q (L_X4_scoreOfBool_5 Q u) x1 x2 x4 r_6 σ_5)) ∧ (¬ r_4 = 0 → ((¬ r_4 = 3 → (B_X4_scoreOfBool_74 Q (L_X4_scoreOfBool_5 Q u) x1 x2 x4 σ_5)) ∧ (r_4 = 3 → (B_X4_scoreOfBool_53 Q (L_X4_scoreOfBool_5 Q u) x1 x2 x4 r_6 σ_5))))) x1 x4 σ_3) x1 x4 σ_1))) x1 σ
set_option maxRecDepth 20000 in
set_option maxHeartbeats 2000000 in
theorem kL_X4_scoreOfBool_5 {G : zv_G} {X : zv_X} {Q : Int64 → zv_St → Prop}  (hC : zv_C G X M_X4_scoreOfBool) (hR : zv_R G X M_X4_scoreOfBool (zv_ql Q))  : ∀ (n : Nat) (x1 : Int32) (x2 : Int64) (x4 : Int32) (σ : zv_St), L_X4_scoreOfBool_5 Q  n x1 x2 x4 σ → zv_V G X M_X4_scoreOfBool 5 [(0, .ref (G.2.2.1 27)), (1, .int x1), (2, .long x2), (4, .int x4)] [] σ := by
  intro n
  induction n with
  | zero => intro x1 x2 x4 σ h; exact h.elim
  | succ n hk5 =>
    intro x1 x2 x4 σ h
    unfold L_X4_scoreOfBool_5 at h
    refine zv_iload hC dX4_scoreOfBool_5 rfl ?_
    refine zv_aload_n hC dX4_scoreOfBool_7 rfl ?_
    refine zv_getR (j := 5) hC fl_X4_26 dX4_scoreOfBool_8 rfl rfl ?_
    refine zv_iload_n hC dX4_scoreOfBool_11 rfl ?_
    refine zv_callVi (As := [_]) hC dX4_scoreOfBool_12 Y_X5_size lk_X4_76 (by decide) rfl rfl rfl (Nat.le_of_ble_eq_true rfl) (ok_X5_size G h) ?_
    intro r_2 σ_1 h
    refine zv_icmp_ge (tgt := 80) hC dX4_scoreOfBool_15 (by decide) (fun c => ?_) (fun c => ?_)
    · replace h := h.1 c
      refine zv_lload_n hC dX4_scoreOfBool_80 rfl ?_
      exact (hR _ _ _).2.2.1 _ rfl dX4_scoreOfBool_81 ⟨_, rfl, h⟩
    · replace h := h.2 c
      refine zv_aload_n hC dX4_scoreOfBool_18 rfl ?_
      refine zv_getR (j := 5) hC fl_X4_26 dX4_scoreOfBool_19 rfl rfl ?_
      refine zv_iload_n hC dX4_scoreOfBool_22 rfl ?_
      refine zv_iload hC dX4_scoreOfBool_23 rfl ?_
      refine zv_callVi (As := [_, _]) hC dX4_scoreOfBool_25 Y_X5_roleAt lk_X4_85 (by decide) rfl rfl rfl (Nat.le_of_ble_eq_true rfl) (ok_X5_roleAt G h) ?_
      intro r_4 σ_3 h
      refine zv_istore hC dX4_scoreOfBool_28 (by decide) ?_
      refine zv_aload_n hC dX4_scoreOfBool_30 rfl ?_
      refine zv_getR (j := 5) hC fl_X4_26 dX4_scoreOfBool_31 rfl rfl ?_
      refine zv_iload_n hC dX4_scoreOfBool_34 rfl ?_
      refine zv_iload hC dX4_scoreOfBool_35 rfl ?_
      refine zv_callVi (As := [_, _]) hC dX4_scoreOfBool_37 Y_X5_partAt lk_X4_79 (by decide) rfl rfl rfl (Nat.le_of_ble_eq_true rfl) (ok_X5_partAt G h) ?_
      intro r_6 σ_5 h
      refine zv_istore hC dX4_scoreOfBool_40 (by decide) ?_
      refine zv_iload hC dX4_scoreOfBool_42 rfl ?_
      refine zv_if_eq (tgt := 53) hC dX4_scoreOfBool_44 (by decide) (fun c => ?_) (fun c => ?_)
      · replace h := h.1 c
        exact zv_go (k_X4_scoreOfBool_53 hC hR hk5 h) ⟨rfl, rfl, rfl, rfl, rfl, trivial⟩
      · replace h := h.2 c
        refine zv_iload hC dX4_scoreOfBool_47 rfl ?_
        refine zv_iconst (v := 3) hC dX4_scoreOfBool_49 (by decide) ?_
        refine zv_icmp_ne (tgt := 74) hC dX4_scoreOfBool_50 (by decide) (fun c => ?_) (fun c => ?_)
        · replace h := h.1 c
          exact zv_go (k_X4_scoreOfBool_74 hC hR hk5 h) ⟨rfl, rfl, rfl, rfl, trivial⟩
        · replace h := h.2 c
          exact zv_go (k_X4_scoreOfBool_53 hC hR hk5 h) ⟨rfl, rfl, rfl, rfl, rfl, trivial⟩
def B_X4_scoreOfBool (Q : Int64 → zv_St → Prop) (x1 : Int32) (σ : zv_St) : Prop :=
  ∃ n5, L_X4_scoreOfBool_5 Q n5 x1 0 0 σ
set_option maxRecDepth 20000 in
set_option maxHeartbeats 2000000 in
theorem k_X4_scoreOfBool_0 {G : zv_G} {X : zv_X} {Q : Int64 → zv_St → Prop}  (hC : zv_C G X M_X4_scoreOfBool) (hR : zv_R G X M_X4_scoreOfBool (zv_ql Q))  {x1 : Int32} {σ : zv_St} (h : B_X4_scoreOfBool Q  x1 σ) : zv_V G X M_X4_scoreOfBool 0 [(0, .ref (G.2.2.1 27)), (1, .int x1)] [] σ := by
  unfold B_X4_scoreOfBool at h
  refine zv_lconst (v := 0) hC dX4_scoreOfBool_0 (by decide) ?_
  refine zv_lstore_n hC dX4_scoreOfBool_1 (by decide) ?_
  refine zv_iconst (v := 0) hC dX4_scoreOfBool_2 (by decide) ?_
  refine zv_istore hC dX4_scoreOfBool_3 (by decide) ?_
  obtain ⟨n, h⟩ := h
  exact zv_go (kL_X4_scoreOfBool_5 hC hR  n _ _ _ _ h) ⟨rfl, rfl, rfl, rfl, trivial⟩
theorem ok_X4_scoreOfBool (G : zv_G) {Q : Int64 → zv_St → Prop} {x1 : Int32} {σ : zv_St} (h : B_X4_scoreOfBool Q x1 σ) : zv_OK G M_X4_scoreOfBool yX4_scoreOfBool [.ref (G.2.2.1 27), .int x1] σ (zv_ql Q) := zv_ok G _ _ _ _ _ (by decide +kernel) rfl (Nat.le_of_ble_eq_true rfl) (fun X hC hR => zv_go (k_X4_scoreOfBool_0 hC hR h) ⟨rfl, rfl, trivial⟩)
-- X4_scoreByParts
def B_X4_scoreByParts_103 (Q : Int64 → zv_St → Prop) (σ : zv_St) : Prop :=
  Q 0 σ
set_option maxRecDepth 20000 in
set_option maxHeartbeats 2000000 in
theorem k_X4_scoreByParts_103 {G : zv_G} {X : zv_X} {Q : Int64 → zv_St → Prop}  (hC : zv_C G X M_X4_scoreByParts) (hR : zv_R G X M_X4_scoreByParts (zv_ql Q))   {σ : zv_St} (h : B_X4_scoreByParts_103 Q   σ) : zv_V G X M_X4_scoreByParts 103 [] [] σ := by
  unfold B_X4_scoreByParts_103 at h
  refine zv_lconst (v := 0) hC dX4_scoreByParts_103 (by decide) ?_
  exact (hR _ _ _).2.2.1 _ rfl dX4_scoreByParts_104 ⟨_, rfl, h⟩
def B_X4_scoreByParts (Q : Int64 → zv_St → Prop) (x1 : Int32) (x2 : Int32) (σ : zv_St) : Prop :=
  B_X5_kind (fun r_2 σ_1 => (r_2 = 0 → (B_X5_first (fun r_4 σ_3 => B_X3_weightOf (fun r_6 σ_5 => Q (Int32.toInt64 r_6) σ_5) r_4 x2 σ_3) x1 σ_1)) ∧ (r_2 = 1 → (B_X4_scoreByParts_103 Q σ_1)) ∧ (r_2 = 2 → (B_X4_scoreOfBool (fun r_8 σ_7 => Q r_8 σ_7) x1 σ_1)) ∧ (r_2 = 3 → (B_X4_scoreOfBest (fun r_10 σ_9 => Q r_10 σ_9) x1 σ_1)) ∧ (r_2 = 4 → (B_X5_second (fun r_12 σ_11 => Q (Int32.toInt64 r_12) σ_11) x1 σ_1)) ∧ (r_2 = 5 → (B_X5_partAt (fun r_14 σ_13 => vp_in r_14 80 ∧ Q (σ_13.2 29 r_14.toNatClampNeg) σ_13) x1 0 σ_1)) ∧ (Int32.toInt r_2 < 0 ∨ 5 < Int32.toInt r_2 → (B_X4_scoreByParts_103 Q σ_1))) x1 σ
set_option maxRecDepth 20000 in
set_option maxHeartbeats 2000000 in
theorem k_X4_scoreByParts_0 {G : zv_G} {X : zv_X} {Q : Int64 → zv_St → Prop}  (hC : zv_C G X M_X4_scoreByParts) (hR : zv_R G X M_X4_scoreByParts (zv_ql Q))  {x1 : Int32} {x2 : Int32} {σ : zv_St} (h : B_X4_scoreByParts Q  x1 x2 σ) : zv_V G X M_X4_scoreByParts 0 [(0, .ref (G.2.2.1 27)), (1, .int x1), (2, .int x2)] [] σ := by
  unfold B_X4_scoreByParts at h
  refine zv_aload_n hC dX4_scoreByParts_0 rfl ?_
  refine zv_getR (j := 5) hC fl_X4_26 dX4_scoreByParts_1 rfl rfl ?_
  refine zv_iload_n hC dX4_scoreByParts_4 rfl ?_
  refine zv_callVi (As := [_]) hC dX4_scoreByParts_5 Y_X5_kind lk_X4_67 (by decide) rfl rfl rfl (Nat.le_of_ble_eq_true rfl) (ok_X5_kind G h) ?_
  intro r_2 σ_1 h
  refine zv_swV (zv_sw_0_5) ?_
  rintro (c | c | c | c | c | c | c)
  · replace h := h.1 c
    refine zv_table (off := 40) (tgt := 48) hC dX4_scoreByParts_8 (by rw [c]; decide) (by rw [c]; decide) (by rw [c]; rfl) (by decide) ?_
    refine zv_aload_n hC dX4_scoreByParts_48 rfl ?_
    refine zv_getR (j := 1) hC fl_X4_22 dX4_scoreByParts_49 rfl rfl ?_
    refine zv_aload_n hC dX4_scoreByParts_52 rfl ?_
    refine zv_getR (j := 5) hC fl_X4_26 dX4_scoreByParts_53 rfl rfl ?_
    refine zv_iload_n hC dX4_scoreByParts_56 rfl ?_
    refine zv_callVi (As := [_]) hC dX4_scoreByParts_57 Y_X5_first lk_X4_121 (by decide) rfl rfl rfl (Nat.le_of_ble_eq_true rfl) (ok_X5_first G h) ?_
    intro r_4 σ_3 h
    refine zv_iload_n hC dX4_scoreByParts_60 rfl ?_
    refine zv_callVi (As := [_, _]) hC dX4_scoreByParts_61 Y_X3_weightOf lk_X4_124 (by decide) rfl rfl rfl (Nat.le_of_ble_eq_true rfl) (ok_X3_weightOf G h) ?_
    intro r_6 σ_5 h
    refine zv_i2l hC dX4_scoreByParts_64 ?_
    exact (hR _ _ _).2.2.1 _ rfl dX4_scoreByParts_65 ⟨_, rfl, h⟩
  · replace h := h.2.1 c
    refine zv_table (off := 95) (tgt := 103) hC dX4_scoreByParts_8 (by rw [c]; decide) (by rw [c]; decide) (by rw [c]; rfl) (by decide) ?_
    exact zv_go (k_X4_scoreByParts_103 hC hR  h) trivial
  · replace h := h.2.2.1 c
    refine zv_table (off := 58) (tgt := 66) hC dX4_scoreByParts_8 (by rw [c]; decide) (by rw [c]; decide) (by rw [c]; rfl) (by decide) ?_
    refine zv_aload_n hC dX4_scoreByParts_66 rfl ?_
    refine zv_iload_n hC dX4_scoreByParts_67 rfl ?_
    refine zv_callVl (As := [_]) hC dX4_scoreByParts_68 Y_X4_scoreOfBool lk_X4_129 (by decide) rfl rfl rfl (Nat.le_of_ble_eq_true rfl) (ok_X4_scoreOfBool G h) ?_
    intro r_8 σ_7 h
    exact (hR _ _ _).2.2.1 _ rfl dX4_scoreByParts_71 ⟨_, rfl, h⟩
  · replace h := h.2.2.2.1 c
    refine zv_table (off := 64) (tgt := 72) hC dX4_scoreByParts_8 (by rw [c]; decide) (by rw [c]; decide) (by rw [c]; rfl) (by decide) ?_
    refine zv_aload_n hC dX4_scoreByParts_72 rfl ?_
    refine zv_iload_n hC dX4_scoreByParts_73 rfl ?_
    refine zv_callVl (As := [_]) hC dX4_scoreByParts_74 Y_X4_scoreOfBest lk_X4_133 (by decide) rfl rfl rfl (Nat.le_of_ble_eq_true rfl) (ok_X4_scoreOfBest G h) ?_
    intro r_10 σ_9 h
    exact (hR _ _ _).2.2.1 _ rfl dX4_scoreByParts_77 ⟨_, rfl, h⟩
  · replace h := h.2.2.2.2.1 c
    refine zv_table (off := 70) (tgt := 78) hC dX4_scoreByParts_8 (by rw [c]; decide) (by rw [c]; decide) (by rw [c]; rfl) (by decide) ?_
    refine zv_aload_n hC dX4_scoreByParts_78 rfl ?_
    refine zv_getR (j := 5) hC fl_X4_26 dX4_scoreByParts_79 rfl rfl ?_
    refine zv_iload_n hC dX4_scoreByParts_82 rfl ?_
    refine zv_callVi (As := [_]) hC dX4_scoreByParts_83 Y_X5_second lk_X4_114 (by decide) rfl rfl rfl (Nat.le_of_ble_eq_true rfl) (ok_X5_second G h) ?_
    intro r_12 σ_11 h
    refine zv_i2l hC dX4_scoreByParts_86 ?_
    exact (hR _ _ _).2.2.1 _ rfl dX4_scoreByParts_87 ⟨_, rfl, h⟩
  · replace h := h.2.2.2.2.2.1 c
    refine zv_table (off := 80) (tgt := 88) hC dX4_scoreByParts_8 (by rw [c]; decide) (by rw [c]; decide) (by rw [c]; rfl) (by decide) ?_
    refine zv_aload_n hC dX4_scoreByParts_88 rfl ?_
    refine zv_getR (j := 29) hC fl_X4_15 dX4_scoreByParts_89 rfl rfl ?_
    refine zv_aload_n hC dX4_scoreByParts_92 rfl ?_
    refine zv_getR (j := 5) hC fl_X4_26 dX4_scoreByParts_93 rfl rfl ?_
    refine zv_iload_n hC dX4_scoreByParts_96 rfl ?_
    refine zv_iconst (v := 0) hC dX4_scoreByParts_97 (by decide) ?_
    refine zv_callVi (As := [_, _]) hC dX4_scoreByParts_98 Y_X5_partAt lk_X4_79 (by decide) rfl rfl rfl (Nat.le_of_ble_eq_true rfl) (ok_X5_partAt G h) ?_
    intro r_14 σ_13 h
    refine zv_lald hC dX4_scoreByParts_101 rfl h.1 ?_
    replace h := h.2
    exact (hR _ _ _).2.2.1 _ rfl dX4_scoreByParts_102 ⟨_, rfl, h⟩
  · replace h := h.2.2.2.2.2.2 c
    refine zv_tableD (tgt := 103) hC dX4_scoreByParts_8 c (by decide) ?_
    exact zv_go (k_X4_scoreByParts_103 hC hR  h) trivial
theorem ok_X4_scoreByParts (G : zv_G) {Q : Int64 → zv_St → Prop} {x1 : Int32} {x2 : Int32} {σ : zv_St} (h : B_X4_scoreByParts Q x1 x2 σ) : zv_OK G M_X4_scoreByParts yX4_scoreByParts [.ref (G.2.2.1 27), .int x1, .int x2] σ (zv_ql Q) := zv_ok G _ _ _ _ _ (by decide +kernel) rfl (Nat.le_of_ble_eq_true rfl) (fun X hC hR => zv_go (k_X4_scoreByParts_0 hC hR h) ⟨rfl, rfl, rfl, trivial⟩)
