-- X2_end
def B_X2_end (Q : Int32 → zv_St → Prop) (x1 : Int32) (σ : zv_St) : Prop :=
  vp_in x1 8 ∧ ∀ σ_1 : zv_St, σ_1 = zv_wi σ 35 x1.toNatClampNeg (vp_nar .boolean 0) → vp_in x1 8 ∧ Q (σ_1.1 38 x1.toNatClampNeg) σ_1
set_option maxRecDepth 20000 in
set_option maxHeartbeats 2000000 in
theorem k_X2_end_0 {G : zv_G} {X : zv_X} {Q : Int32 → zv_St → Prop}  (hC : zv_C G X M_X2_end) (hR : zv_R G X M_X2_end (zv_qi Q))  {x1 : Int32} {σ : zv_St} (h : B_X2_end Q  x1 σ) : zv_V G X M_X2_end 0 [(0, .ref (G.2.2.1 34)), (1, .int x1)] [] σ := by
  unfold B_X2_end at h
  refine zv_aload_n hC dX2_end_0 rfl ?_
  refine zv_getR (j := 35) hC fl_X2_9 dX2_end_1 rfl rfl ?_
  refine zv_iload_n hC dX2_end_4 rfl ?_
  refine zv_iconst (v := 0) hC dX2_end_5 (by decide) ?_
  refine zv_zast hC dX2_end_6 rfl h.1 ?_
  replace h := h.2 _ rfl
  refine zv_aload_n hC dX2_end_7 rfl ?_
  refine zv_getR (j := 38) hC fl_X2_22 dX2_end_8 rfl rfl ?_
  refine zv_iload_n hC dX2_end_11 rfl ?_
  refine zv_iald hC dX2_end_12 rfl h.1 ?_
  replace h := h.2
  exact (hR _ _ _).1 _ rfl dX2_end_13 ⟨_, rfl, h⟩
theorem ok_X2_end (G : zv_G) {Q : Int32 → zv_St → Prop} {x1 : Int32} {σ : zv_St} (h : B_X2_end Q x1 σ) : zv_OK G M_X2_end yX2_end [.ref (G.2.2.1 34), .int x1] σ (zv_qi Q) := zv_ok G _ _ _ _ _ (by decide +kernel) rfl (Nat.le_of_ble_eq_true rfl) (fun X hC hR => zv_go (k_X2_end_0 hC hR h) ⟨rfl, rfl, trivial⟩)
-- X10_close
def B_X10_close (Q : Int32 → zv_St → Prop) (x1 : Int32) (σ : zv_St) : Prop :=
  B_X2_isOpen (fun r_2 σ_1 => (¬ r_2 = 0 → (B_X2_end (fun r_4 σ_3 => Q r_4 σ_3) x1 σ_1)) ∧ (r_2 = 0 → (Q (-2) σ_1))) x1 σ
set_option maxRecDepth 20000 in
set_option maxHeartbeats 2000000 in
theorem k_X10_close_0 {G : zv_G} {X : zv_X} {Q : Int32 → zv_St → Prop}  (hC : zv_C G X M_X10_close) (hR : zv_R G X M_X10_close (zv_qi Q))  {x1 : Int32} {σ : zv_St} (h : B_X10_close Q  x1 σ) : zv_V G X M_X10_close 0 [(0, .ref (G.2.2.1 0)), (1, .int x1)] [] σ := by
  unfold B_X10_close at h
  refine zv_aload_n hC dX10_close_0 rfl ?_
  refine zv_getR (j := 34) hC fl_X10_60 dX10_close_1 rfl rfl ?_
  refine zv_iload_n hC dX10_close_4 rfl ?_
  refine zv_callVi (As := [_]) hC dX10_close_5 Y_X2_isOpen lk_X10_203 (by decide) rfl rfl rfl (Nat.le_of_ble_eq_true rfl) (ok_X2_isOpen G h) ?_
  intro r_2 σ_1 h
  refine zv_if_ne (tgt := 14) hC dX10_close_8 (by decide) (fun c => ?_) (fun c => ?_)
  · replace h := h.1 c
    refine zv_aload_n hC dX10_close_14 rfl ?_
    refine zv_getR (j := 34) hC fl_X10_60 dX10_close_15 rfl rfl ?_
    refine zv_iload_n hC dX10_close_18 rfl ?_
    refine zv_callVi (As := [_]) hC dX10_close_19 Y_X2_end lk_X10_223 (by decide) rfl rfl rfl (Nat.le_of_ble_eq_true rfl) (ok_X2_end G h) ?_
    intro r_4 σ_3 h
    exact (hR _ _ _).1 _ rfl dX10_close_22 ⟨_, rfl, h⟩
  · replace h := h.2 c
    refine zv_bipush (v := (-2)) hC dX10_close_11 (by decide) ?_
    exact (hR _ _ _).1 _ rfl dX10_close_13 ⟨_, rfl, h⟩
theorem ok_X10_close (G : zv_G) {Q : Int32 → zv_St → Prop} {x1 : Int32} {σ : zv_St} (h : B_X10_close Q x1 σ) : zv_OK G M_X10_close yX10_close [.ref (G.2.2.1 0), .int x1] σ (zv_qi Q) := zv_ok G _ _ _ _ _ (by decide +kernel) rfl (Nat.le_of_ble_eq_true rfl) (fun X hC hR => zv_go (k_X10_close_0 hC hR h) ⟨rfl, rfl, trivial⟩)
-- X7_markUnder
def B_X7_markUnder_77 (Q : zv_St → Prop) (kk29 : Int32 → zv_St → Prop) (x2 : Int32) (σ : zv_St) : Prop :=
  kk29 (x2 + (-1)) σ
set_option maxRecDepth 20000 in
set_option maxHeartbeats 2000000 in
theorem k_X7_markUnder_77 {G : zv_G} {X : zv_X} {Q : zv_St → Prop} {kk29 : Int32 → zv_St → Prop} (hC : zv_C G X M_X7_markUnder) (hR : zv_R G X M_X7_markUnder (zv_qv Q)) (hk29 : ∀ (x2 : Int32) (σ : zv_St), kk29 x2 σ → zv_V G X M_X7_markUnder 29 [(0, .ref (G.2.2.1 39)), (2, .int x2)] [] σ) {x2 : Int32} {σ : zv_St} (h : B_X7_markUnder_77 Q kk29 x2 σ) : zv_V G X M_X7_markUnder 77 [(0, .ref (G.2.2.1 39)), (2, .int x2)] [] σ := by
  unfold B_X7_markUnder_77 at h
  refine zv_iinc (v := (-1)) hC dX7_markUnder_77 rfl (by decide) (by decide) ?_
  refine zv_goto (tgt := 29) hC dX7_markUnder_80 (by decide) ?_
  exact zv_go (hk29 _ _ h) ⟨rfl, rfl, trivial⟩
def L_X7_markUnder_35 (Q : zv_St → Prop) (kk29 : Int32 → zv_St → Prop) : Nat → (Int32 → Int32 → zv_St → Prop)
  | 0 => fun _ _ _ => False
  | u + 1 => fun x2 x3 σ => 
    vp_in x2 80 ∧ ((σ.1 40 x2.toNatClampNeg) = 0 → (B_X7_markUnder_77 Q kk29 x2 σ)) ∧ (¬ (σ.1 40 x2.toNatClampNeg) = 0 → (B_X5_size (fun r_2 σ_1 => (r_2 ≤ x3 → (B_X7_markUnder_77 Q kk29 x2 σ_1)) ∧ (¬ r_2 ≤ x3 → (B_X5_partAt (fun r_4 σ_3 => vp_in r_4 80 ∧ ∀ σ_5 : zv_St, σ_5 = zv_wi σ_3 40 r_4.toNatClampNeg (vp_nar .boolean 1) → (L_X7_markUnder_35 Q kk29 u) x2 (x3 + 1) σ_5) x2 x3 σ_1))) x2 σ))
set_option maxRecDepth 20000 in
set_option maxHeartbeats 2000000 in
theorem kL_X7_markUnder_35 {G : zv_G} {X : zv_X} {Q : zv_St → Prop} {kk29 : Int32 → zv_St → Prop} (hC : zv_C G X M_X7_markUnder) (hR : zv_R G X M_X7_markUnder (zv_qv Q)) (hk29 : ∀ (x2 : Int32) (σ : zv_St), kk29 x2 σ → zv_V G X M_X7_markUnder 29 [(0, .ref (G.2.2.1 39)), (2, .int x2)] [] σ) : ∀ (n : Nat) (x2 : Int32) (x3 : Int32) (σ : zv_St), L_X7_markUnder_35 Q kk29 n x2 x3 σ → zv_V G X M_X7_markUnder 35 [(0, .ref (G.2.2.1 39)), (2, .int x2), (3, .int x3)] [] σ := by
  intro n
  induction n with
  | zero => intro x2 x3 σ h; exact h.elim
  | succ n hk35 =>
    intro x2 x3 σ h
    unfold L_X7_markUnder_35 at h
    refine zv_aload_n hC dX7_markUnder_35 rfl ?_
    refine zv_getR (j := 40) hC fl_X7_9 dX7_markUnder_36 rfl rfl ?_
    refine zv_iload_n hC dX7_markUnder_39 rfl ?_
    refine zv_zald hC dX7_markUnder_40 rfl h.1 ?_
    replace h := h.2
    refine zv_if_eq (tgt := 77) hC dX7_markUnder_41 (by decide) (fun c => ?_) (fun c => ?_)
    · replace h := h.1 c
      exact zv_go (k_X7_markUnder_77 hC hR hk29 h) ⟨rfl, rfl, trivial⟩
    · replace h := h.2 c
      refine zv_iload_n hC dX7_markUnder_44 rfl ?_
      refine zv_aload_n hC dX7_markUnder_45 rfl ?_
      refine zv_getR (j := 5) hC fl_X7_30 dX7_markUnder_46 rfl rfl ?_
      refine zv_iload_n hC dX7_markUnder_49 rfl ?_
      refine zv_callVi (As := [_]) hC dX7_markUnder_50 Y_X5_size lk_X7_55 (by decide) rfl rfl rfl (Nat.le_of_ble_eq_true rfl) (ok_X5_size G h) ?_
      intro r_2 σ_1 h
      refine zv_icmp_ge (tgt := 77) hC dX7_markUnder_53 (by decide) (fun c => ?_) (fun c => ?_)
      · replace h := h.1 c
        exact zv_go (k_X7_markUnder_77 hC hR hk29 h) ⟨rfl, rfl, trivial⟩
      · replace h := h.2 c
        refine zv_aload_n hC dX7_markUnder_56 rfl ?_
        refine zv_getR (j := 40) hC fl_X7_9 dX7_markUnder_57 rfl rfl ?_
        refine zv_aload_n hC dX7_markUnder_60 rfl ?_
        refine zv_getR (j := 5) hC fl_X7_30 dX7_markUnder_61 rfl rfl ?_
        refine zv_iload_n hC dX7_markUnder_64 rfl ?_
        refine zv_iload_n hC dX7_markUnder_65 rfl ?_
        refine zv_callVi (As := [_, _]) hC dX7_markUnder_66 Y_X5_partAt lk_X7_58 (by decide) rfl rfl rfl (Nat.le_of_ble_eq_true rfl) (ok_X5_partAt G h) ?_
        intro r_4 σ_3 h
        refine zv_iconst (v := 1) hC dX7_markUnder_69 (by decide) ?_
        refine zv_zast hC dX7_markUnder_70 rfl h.1 ?_
        replace h := h.2 _ rfl
        refine zv_iinc (v := 1) hC dX7_markUnder_71 rfl (by decide) (by decide) ?_
        refine zv_goto (tgt := 35) hC dX7_markUnder_74 (by decide) ?_
        exact zv_go (hk35 _ _ _ h) ⟨rfl, rfl, rfl, trivial⟩
def L_X7_markUnder_29 (Q : zv_St → Prop) : Nat → (Int32 → zv_St → Prop)
  | 0 => fun _ _ => False
  | u + 1 => fun x2 σ => 
    (x2 ≤ 0 → (Q σ)) ∧ (¬ x2 ≤ 0 → (∃ n35, L_X7_markUnder_35 Q (L_X7_markUnder_29 Q u) n35 x2 0 σ))
set_option maxRecDepth 20000 in
set_option maxHeartbeats 2000000 in
theorem kL_X7_markUnder_29 {G : zv_G} {X : zv_X} {Q : zv_St → Prop}  (hC : zv_C G X M_X7_markUnder) (hR : zv_R G X M_X7_markUnder (zv_qv Q))  : ∀ (n : Nat) (x2 : Int32) (σ : zv_St), L_X7_markUnder_29 Q  n x2 σ → zv_V G X M_X7_markUnder 29 [(0, .ref (G.2.2.1 39)), (2, .int x2)] [] σ := by
  intro n
  induction n with
  | zero => intro x2 σ h; exact h.elim
  | succ n hk29 =>
    intro x2 σ h
    unfold L_X7_markUnder_29 at h
    refine zv_iload_n hC dX7_markUnder_29 rfl ?_
    refine zv_if_le (tgt := 83) hC dX7_markUnder_30 (by decide) (fun c => ?_) (fun c => ?_)
    · replace h := h.1 c
      exact (hR _ _ _).2.2.2.1 rfl dX7_markUnder_83 ⟨rfl, h⟩
    · replace h := h.2 c
      refine zv_iconst (v := 0) hC dX7_markUnder_33 (by decide) ?_
      refine zv_istore_n hC dX7_markUnder_34 (by decide) ?_
      obtain ⟨n, h⟩ := h
      exact zv_go (kL_X7_markUnder_35 hC hR hk29 n _ _ _ h) ⟨rfl, rfl, rfl, trivial⟩
def L_X7_markUnder_2 (Q : zv_St → Prop) : Nat → (Int32 → Int32 → zv_St → Prop)
  | 0 => fun _ _ _ => False
  | u + 1 => fun x1 x2 σ => 
    (x1 ≤ x2 → (vp_in x1 80 ∧ ∀ σ_1 : zv_St, σ_1 = zv_wi σ 40 x1.toNatClampNeg (vp_nar .boolean 1) → ∃ n29, L_X7_markUnder_29 Q n29 x1 σ_1)) ∧ (¬ x1 ≤ x2 → (vp_in x2 80 ∧ ∀ σ_2 : zv_St, σ_2 = zv_wi σ 40 x2.toNatClampNeg (vp_nar .boolean 0) → (L_X7_markUnder_2 Q u) x1 (x2 + 1) σ_2))
set_option maxRecDepth 20000 in
set_option maxHeartbeats 2000000 in
theorem kL_X7_markUnder_2 {G : zv_G} {X : zv_X} {Q : zv_St → Prop}  (hC : zv_C G X M_X7_markUnder) (hR : zv_R G X M_X7_markUnder (zv_qv Q))  : ∀ (n : Nat) (x1 : Int32) (x2 : Int32) (σ : zv_St), L_X7_markUnder_2 Q  n x1 x2 σ → zv_V G X M_X7_markUnder 2 [(0, .ref (G.2.2.1 39)), (1, .int x1), (2, .int x2)] [] σ := by
  intro n
  induction n with
  | zero => intro x1 x2 σ h; exact h.elim
  | succ n hk2 =>
    intro x1 x2 σ h
    unfold L_X7_markUnder_2 at h
    refine zv_iload_n hC dX7_markUnder_2 rfl ?_
    refine zv_iload_n hC dX7_markUnder_3 rfl ?_
    refine zv_icmp_ge (tgt := 20) hC dX7_markUnder_4 (by decide) (fun c => ?_) (fun c => ?_)
    · replace h := h.1 c
      refine zv_aload_n hC dX7_markUnder_20 rfl ?_
      refine zv_getR (j := 40) hC fl_X7_9 dX7_markUnder_21 rfl rfl ?_
      refine zv_iload_n hC dX7_markUnder_24 rfl ?_
      refine zv_iconst (v := 1) hC dX7_markUnder_25 (by decide) ?_
      refine zv_zast hC dX7_markUnder_26 rfl h.1 ?_
      replace h := h.2 _ rfl
      refine zv_iload_n hC dX7_markUnder_27 rfl ?_
      refine zv_istore_n hC dX7_markUnder_28 (by decide) ?_
      obtain ⟨n, h⟩ := h
      exact zv_go (kL_X7_markUnder_29 hC hR  n _ _ h) ⟨rfl, rfl, trivial⟩
    · replace h := h.2 c
      refine zv_aload_n hC dX7_markUnder_7 rfl ?_
      refine zv_getR (j := 40) hC fl_X7_9 dX7_markUnder_8 rfl rfl ?_
      refine zv_iload_n hC dX7_markUnder_11 rfl ?_
      refine zv_iconst (v := 0) hC dX7_markUnder_12 (by decide) ?_
      refine zv_zast hC dX7_markUnder_13 rfl h.1 ?_
      replace h := h.2 _ rfl
      refine zv_iinc (v := 1) hC dX7_markUnder_14 rfl (by decide) (by decide) ?_
      refine zv_goto (tgt := 2) hC dX7_markUnder_17 (by decide) ?_
      exact zv_go (hk2 _ _ _ h) ⟨rfl, rfl, rfl, trivial⟩
def B_X7_markUnder (Q : zv_St → Prop) (x1 : Int32) (σ : zv_St) : Prop :=
  ∃ n2, L_X7_markUnder_2 Q n2 x1 0 σ
set_option maxRecDepth 20000 in
set_option maxHeartbeats 2000000 in
theorem k_X7_markUnder_0 {G : zv_G} {X : zv_X} {Q : zv_St → Prop}  (hC : zv_C G X M_X7_markUnder) (hR : zv_R G X M_X7_markUnder (zv_qv Q))  {x1 : Int32} {σ : zv_St} (h : B_X7_markUnder Q  x1 σ) : zv_V G X M_X7_markUnder 0 [(0, .ref (G.2.2.1 39)), (1, .int x1)] [] σ := by
  unfold B_X7_markUnder at h
  refine zv_iconst (v := 0) hC dX7_markUnder_0 (by decide) ?_
  refine zv_istore_n hC dX7_markUnder_1 (by decide) ?_
  obtain ⟨n, h⟩ := h
  exact zv_go (kL_X7_markUnder_2 hC hR  n _ _ _ h) ⟨rfl, rfl, rfl, trivial⟩
theorem ok_X7_markUnder (G : zv_G) {Q : zv_St → Prop} {x1 : Int32} {σ : zv_St} (h : B_X7_markUnder Q x1 σ) : zv_OK G M_X7_markUnder yX7_markUnder [.ref (G.2.2.1 39), .int x1] σ (zv_qv Q) := zv_ok G _ _ _ _ _ (by decide +kernel) rfl (Nat.le_of_ble_eq_true rfl) (fun X hC hR => zv_go (k_X7_markUnder_0 hC hR h) ⟨rfl, rfl, trivial⟩)
-- X7_thatIsSo
def L_X7_thatIsSo_3 (Q : Int32 → zv_St → Prop) : Nat → (Int32 → Int32 → Int32 → Int32 → zv_St → Prop)
  | 0 => fun _ _ _ _ _ => False
  | u + 1 => fun x1 x2 x3 x4 σ => 
    B_X5_count (fun r_2 σ_1 => (r_2 ≤ x4 → (B_X5_make (fun r_4 σ_3 => Q r_4 σ_3) x1 x2 x3 σ_1)) ∧ (¬ r_2 ≤ x4 → (B_X5_hasNumbers (fun r_6 σ_5 => (r_6 = 0 → ((L_X7_thatIsSo_3 Q u) x1 x2 x3 (x4 + 1) σ_5)) ∧ (¬ r_6 = 0 → (Q x4 σ_5))) x4 x1 x2 x3 σ_1))) σ
set_option maxRecDepth 20000 in
set_option maxHeartbeats 2000000 in
theorem kL_X7_thatIsSo_3 {G : zv_G} {X : zv_X} {Q : Int32 → zv_St → Prop}  (hC : zv_C G X M_X7_thatIsSo) (hR : zv_R G X M_X7_thatIsSo (zv_qi Q))  : ∀ (n : Nat) (x1 : Int32) (x2 : Int32) (x3 : Int32) (x4 : Int32) (σ : zv_St), L_X7_thatIsSo_3 Q  n x1 x2 x3 x4 σ → zv_V G X M_X7_thatIsSo 3 [(0, .ref (G.2.2.1 39)), (1, .int x1), (2, .int x2), (3, .int x3), (4, .int x4)] [] σ := by
  intro n
  induction n with
  | zero => intro x1 x2 x3 x4 σ h; exact h.elim
  | succ n hk3 =>
    intro x1 x2 x3 x4 σ h
    unfold L_X7_thatIsSo_3 at h
    refine zv_iload hC dX7_thatIsSo_3 rfl ?_
    refine zv_aload_n hC dX7_thatIsSo_5 rfl ?_
    refine zv_getR (j := 5) hC fl_X7_30 dX7_thatIsSo_6 rfl rfl ?_
    refine zv_callVi (As := []) hC dX7_thatIsSo_9 Y_X5_count lk_X7_34 (by decide) rfl rfl rfl (Nat.le_of_ble_eq_true rfl) (ok_X5_count G h) ?_
    intro r_2 σ_1 h
    refine zv_icmp_ge (tgt := 39) hC dX7_thatIsSo_12 (by decide) (fun c => ?_) (fun c => ?_)
    · replace h := h.1 c
      refine zv_aload_n hC dX7_thatIsSo_39 rfl ?_
      refine zv_getR (j := 5) hC fl_X7_30 dX7_thatIsSo_40 rfl rfl ?_
      refine zv_iload_n hC dX7_thatIsSo_43 rfl ?_
      refine zv_iload_n hC dX7_thatIsSo_44 rfl ?_
      refine zv_iload_n hC dX7_thatIsSo_45 rfl ?_
      refine zv_callVi (As := [_, _, _]) hC dX7_thatIsSo_46 Y_X5_make lk_X7_140 (by decide) rfl rfl rfl (Nat.le_of_ble_eq_true rfl) (ok_X5_make G h) ?_
      intro r_4 σ_3 h
      exact (hR _ _ _).1 _ rfl dX7_thatIsSo_49 ⟨_, rfl, h⟩
    · replace h := h.2 c
      refine zv_aload_n hC dX7_thatIsSo_15 rfl ?_
      refine zv_getR (j := 5) hC fl_X7_30 dX7_thatIsSo_16 rfl rfl ?_
      refine zv_iload hC dX7_thatIsSo_19 rfl ?_
      refine zv_iload_n hC dX7_thatIsSo_21 rfl ?_
      refine zv_iload_n hC dX7_thatIsSo_22 rfl ?_
      refine zv_iload_n hC dX7_thatIsSo_23 rfl ?_
      refine zv_callVi (As := [_, _, _, _]) hC dX7_thatIsSo_24 Y_X5_hasNumbers lk_X7_136 (by decide) rfl rfl rfl (Nat.le_of_ble_eq_true rfl) (ok_X5_hasNumbers G h) ?_
      intro r_6 σ_5 h
      refine zv_if_eq (tgt := 33) hC dX7_thatIsSo_27 (by decide) (fun c => ?_) (fun c => ?_)
      · replace h := h.1 c
        refine zv_iinc (v := 1) hC dX7_thatIsSo_33 rfl (by decide) (by decide) ?_
        refine zv_goto (tgt := 3) hC dX7_thatIsSo_36 (by decide) ?_
        exact zv_go (hk3 _ _ _ _ _ h) ⟨rfl, rfl, rfl, rfl, rfl, trivial⟩
      · replace h := h.2 c
        refine zv_iload hC dX7_thatIsSo_30 rfl ?_
        exact (hR _ _ _).1 _ rfl dX7_thatIsSo_32 ⟨_, rfl, h⟩
def B_X7_thatIsSo (Q : Int32 → zv_St → Prop) (x1 : Int32) (x2 : Int32) (x3 : Int32) (σ : zv_St) : Prop :=
  ∃ n3, L_X7_thatIsSo_3 Q n3 x1 x2 x3 0 σ
set_option maxRecDepth 20000 in
set_option maxHeartbeats 2000000 in
theorem k_X7_thatIsSo_0 {G : zv_G} {X : zv_X} {Q : Int32 → zv_St → Prop}  (hC : zv_C G X M_X7_thatIsSo) (hR : zv_R G X M_X7_thatIsSo (zv_qi Q))  {x1 : Int32} {x2 : Int32} {x3 : Int32} {σ : zv_St} (h : B_X7_thatIsSo Q  x1 x2 x3 σ) : zv_V G X M_X7_thatIsSo 0 [(0, .ref (G.2.2.1 39)), (1, .int x1), (2, .int x2), (3, .int x3)] [] σ := by
  unfold B_X7_thatIsSo at h
  refine zv_iconst (v := 0) hC dX7_thatIsSo_0 (by decide) ?_
  refine zv_istore hC dX7_thatIsSo_1 (by decide) ?_
  obtain ⟨n, h⟩ := h
  exact zv_go (kL_X7_thatIsSo_3 hC hR  n _ _ _ _ _ h) ⟨rfl, rfl, rfl, rfl, rfl, trivial⟩
theorem ok_X7_thatIsSo (G : zv_G) {Q : Int32 → zv_St → Prop} {x1 : Int32} {x2 : Int32} {x3 : Int32} {σ : zv_St} (h : B_X7_thatIsSo Q x1 x2 x3 σ) : zv_OK G M_X7_thatIsSo yX7_thatIsSo [.ref (G.2.2.1 39), .int x1, .int x2, .int x3] σ (zv_qi Q) := zv_ok G _ _ _ _ _ (by decide +kernel) rfl (Nat.le_of_ble_eq_true rfl) (fun X hC hR => zv_go (k_X7_thatIsSo_0 hC hR h) ⟨rfl, rfl, rfl, rfl, trivial⟩)
-- X7_newOfOne
def B_X7_newOfOne_30 (Q : Int32 → zv_St → Prop) (x2 : Int32) (σ : zv_St) : Prop :=
  Q x2 σ
set_option maxRecDepth 20000 in
set_option maxHeartbeats 2000000 in
theorem k_X7_newOfOne_30 {G : zv_G} {X : zv_X} {Q : Int32 → zv_St → Prop}  (hC : zv_C G X M_X7_newOfOne) (hR : zv_R G X M_X7_newOfOne (zv_qi Q))  {x2 : Int32} {σ : zv_St} (h : B_X7_newOfOne_30 Q  x2 σ) : zv_V G X M_X7_newOfOne 30 [(2, .int x2)] [] σ := by
  unfold B_X7_newOfOne_30 at h
  refine zv_iload_n hC dX7_newOfOne_30 rfl ?_
  exact (hR _ _ _).1 _ rfl dX7_newOfOne_31 ⟨_, rfl, h⟩
def B_X7_newOfOne_59 (Q : Int32 → zv_St → Prop) (x1 : Int32) (x2 : Int32) (x3 : Int32) (σ : zv_St) : Prop :=
  B_X7_thatIsSo (fun r_2 σ_1 => Q r_2 σ_1) x1 x2 x3 σ
set_option maxRecDepth 20000 in
set_option maxHeartbeats 2000000 in
theorem k_X7_newOfOne_59 {G : zv_G} {X : zv_X} {Q : Int32 → zv_St → Prop}  (hC : zv_C G X M_X7_newOfOne) (hR : zv_R G X M_X7_newOfOne (zv_qi Q))  {x1 : Int32} {x2 : Int32} {x3 : Int32} {σ : zv_St} (h : B_X7_newOfOne_59 Q  x1 x2 x3 σ) : zv_V G X M_X7_newOfOne 59 [(0, .ref (G.2.2.1 39)), (1, .int x1), (2, .int x2), (3, .int x3)] [] σ := by
  unfold B_X7_newOfOne_59 at h
  refine zv_aload_n hC dX7_newOfOne_59 rfl ?_
  refine zv_iload_n hC dX7_newOfOne_60 rfl ?_
  refine zv_iload_n hC dX7_newOfOne_61 rfl ?_
  refine zv_iload_n hC dX7_newOfOne_62 rfl ?_
  refine zv_callVi (As := [_, _, _]) hC dX7_newOfOne_63 Y_X7_thatIsSo lk_X7_48 (by decide) rfl rfl rfl (Nat.le_of_ble_eq_true rfl) (ok_X7_thatIsSo G h) ?_
  intro r_2 σ_1 h
  exact (hR _ _ _).1 _ rfl dX7_newOfOne_66 ⟨_, rfl, h⟩
def B_X7_newOfOne_32 (Q : Int32 → zv_St → Prop) (x1 : Int32) (x2 : Int32) (x3 : Int32) (x4 : Int32) (σ : zv_St) : Prop :=
  (¬ x4 = 4 → (B_X7_newOfOne_59 Q x1 x2 x3 σ)) ∧ (x4 = 4 → ((x1 = 5 → (B_X7_newOfOne_59 Q x1 x2 x3 σ)) ∧ (¬ x1 = 5 → (B_X5_partAt (fun r_2 σ_1 => B_X7_thatIsSo (fun r_4 σ_3 => Q r_4 σ_3) x1 r_2 x3 σ_1) x2 0 σ))))
set_option maxRecDepth 20000 in
set_option maxHeartbeats 2000000 in
theorem k_X7_newOfOne_32 {G : zv_G} {X : zv_X} {Q : Int32 → zv_St → Prop}  (hC : zv_C G X M_X7_newOfOne) (hR : zv_R G X M_X7_newOfOne (zv_qi Q))  {x1 : Int32} {x2 : Int32} {x3 : Int32} {x4 : Int32} {σ : zv_St} (h : B_X7_newOfOne_32 Q  x1 x2 x3 x4 σ) : zv_V G X M_X7_newOfOne 32 [(0, .ref (G.2.2.1 39)), (1, .int x1), (2, .int x2), (3, .int x3), (4, .int x4)] [] σ := by
  unfold B_X7_newOfOne_32 at h
  refine zv_iload hC dX7_newOfOne_32 rfl ?_
  refine zv_iconst (v := 4) hC dX7_newOfOne_34 (by decide) ?_
  refine zv_icmp_ne (tgt := 59) hC dX7_newOfOne_35 (by decide) (fun c => ?_) (fun c => ?_)
  · replace h := h.1 c
    exact zv_go (k_X7_newOfOne_59 hC hR  h) ⟨rfl, rfl, rfl, rfl, trivial⟩
  · replace h := h.2 c
    refine zv_iload_n hC dX7_newOfOne_38 rfl ?_
    refine zv_iconst (v := 5) hC dX7_newOfOne_39 (by decide) ?_
    refine zv_icmp_eq (tgt := 59) hC dX7_newOfOne_40 (by decide) (fun c => ?_) (fun c => ?_)
    · replace h := h.1 c
      exact zv_go (k_X7_newOfOne_59 hC hR  h) ⟨rfl, rfl, rfl, rfl, trivial⟩
    · replace h := h.2 c
      refine zv_aload_n hC dX7_newOfOne_43 rfl ?_
      refine zv_iload_n hC dX7_newOfOne_44 rfl ?_
      refine zv_aload_n hC dX7_newOfOne_45 rfl ?_
      refine zv_getR (j := 5) hC fl_X7_30 dX7_newOfOne_46 rfl rfl ?_
      refine zv_iload_n hC dX7_newOfOne_49 rfl ?_
      refine zv_iconst (v := 0) hC dX7_newOfOne_50 (by decide) ?_
      refine zv_callVi (As := [_, _]) hC dX7_newOfOne_51 Y_X5_partAt lk_X7_58 (by decide) rfl rfl rfl (Nat.le_of_ble_eq_true rfl) (ok_X5_partAt G h) ?_
      intro r_2 σ_1 h
      refine zv_iload_n hC dX7_newOfOne_54 rfl ?_
      refine zv_callVi (As := [_, _, _]) hC dX7_newOfOne_55 Y_X7_thatIsSo lk_X7_48 (by decide) rfl rfl rfl (Nat.le_of_ble_eq_true rfl) (ok_X7_thatIsSo G h) ?_
      intro r_4 σ_3 h
      exact (hR _ _ _).1 _ rfl dX7_newOfOne_58 ⟨_, rfl, h⟩
def B_X7_newOfOne (Q : Int32 → zv_St → Prop) (x1 : Int32) (x2 : Int32) (x3 : Int32) (σ : zv_St) : Prop :=
  B_X5_kind (fun r_2 σ_1 => (r_2 = 7 → (B_X7_newOfOne_30 Q x2 σ_1)) ∧ (¬ r_2 = 7 → ((¬ x1 = 6 → (B_X7_newOfOne_32 Q x1 x2 x3 r_2 σ_1)) ∧ (x1 = 6 → ((¬ r_2 = 6 → (B_X7_newOfOne_32 Q x1 x2 x3 r_2 σ_1)) ∧ (r_2 = 6 → (B_X7_newOfOne_30 Q x2 σ_1))))))) x2 σ
set_option maxRecDepth 20000 in
set_option maxHeartbeats 2000000 in
theorem k_X7_newOfOne_0 {G : zv_G} {X : zv_X} {Q : Int32 → zv_St → Prop}  (hC : zv_C G X M_X7_newOfOne) (hR : zv_R G X M_X7_newOfOne (zv_qi Q))  {x1 : Int32} {x2 : Int32} {x3 : Int32} {σ : zv_St} (h : B_X7_newOfOne Q  x1 x2 x3 σ) : zv_V G X M_X7_newOfOne 0 [(0, .ref (G.2.2.1 39)), (1, .int x1), (2, .int x2), (3, .int x3)] [] σ := by
  unfold B_X7_newOfOne at h
  refine zv_aload_n hC dX7_newOfOne_0 rfl ?_
  refine zv_getR (j := 5) hC fl_X7_30 dX7_newOfOne_1 rfl rfl ?_
  refine zv_iload_n hC dX7_newOfOne_4 rfl ?_
  refine zv_callVi (As := [_]) hC dX7_newOfOne_5 Y_X5_kind lk_X7_62 (by decide) rfl rfl rfl (Nat.le_of_ble_eq_true rfl) (ok_X5_kind G h) ?_
  intro r_2 σ_1 h
  refine zv_istore hC dX7_newOfOne_8 (by decide) ?_
  refine zv_iload hC dX7_newOfOne_10 rfl ?_
  refine zv_bipush (v := 7) hC dX7_newOfOne_12 (by decide) ?_
  refine zv_icmp_eq (tgt := 30) hC dX7_newOfOne_14 (by decide) (fun c => ?_) (fun c => ?_)
  · replace h := h.1 c
    exact zv_go (k_X7_newOfOne_30 hC hR  h) ⟨rfl, trivial⟩
  · replace h := h.2 c
    refine zv_iload_n hC dX7_newOfOne_17 rfl ?_
    refine zv_bipush (v := 6) hC dX7_newOfOne_18 (by decide) ?_
    refine zv_icmp_ne (tgt := 32) hC dX7_newOfOne_20 (by decide) (fun c => ?_) (fun c => ?_)
    · replace h := h.1 c
      exact zv_go (k_X7_newOfOne_32 hC hR  h) ⟨rfl, rfl, rfl, rfl, rfl, trivial⟩
    · replace h := h.2 c
      refine zv_iload hC dX7_newOfOne_23 rfl ?_
      refine zv_bipush (v := 6) hC dX7_newOfOne_25 (by decide) ?_
      refine zv_icmp_ne (tgt := 32) hC dX7_newOfOne_27 (by decide) (fun c => ?_) (fun c => ?_)
      · replace h := h.1 c
        exact zv_go (k_X7_newOfOne_32 hC hR  h) ⟨rfl, rfl, rfl, rfl, rfl, trivial⟩
      · replace h := h.2 c
        exact zv_go (k_X7_newOfOne_30 hC hR  h) ⟨rfl, trivial⟩
theorem ok_X7_newOfOne (G : zv_G) {Q : Int32 → zv_St → Prop} {x1 : Int32} {x2 : Int32} {x3 : Int32} {σ : zv_St} (h : B_X7_newOfOne Q x1 x2 x3 σ) : zv_OK G M_X7_newOfOne yX7_newOfOne [.ref (G.2.2.1 39), .int x1, .int x2, .int x3] σ (zv_qi Q) := zv_ok G _ _ _ _ _ (by decide +kernel) rfl (Nat.le_of_ble_eq_true rfl) (fun X hC hR => zv_go (k_X7_newOfOne_0 hC hR h) ⟨rfl, rfl, rfl, rfl, trivial⟩)
-- X6_clear
def B_X6_clear (Q : zv_St → Prop) (σ : zv_St) : Prop :=
  ∀ σ_1 : zv_St, σ_1 = zv_wi σ 42 2 0 → Q σ_1
set_option maxRecDepth 20000 in
set_option maxHeartbeats 2000000 in
theorem k_X6_clear_0 {G : zv_G} {X : zv_X} {Q : zv_St → Prop}  (hC : zv_C G X M_X6_clear) (hR : zv_R G X M_X6_clear (zv_qv Q))   {σ : zv_St} (h : B_X6_clear Q   σ) : zv_V G X M_X6_clear 0 [(0, .ref (G.2.2.1 42))] [] σ := by
  unfold B_X6_clear at h
  refine zv_aload_n hC dX6_clear_0 rfl ?_
  refine zv_iconst (v := 0) hC dX6_clear_1 (by decide) ?_
  refine zv_putI hC fp_X6_18 dX6_clear_2 rfl rfl rfl rfl ?_
  replace h := h _ rfl
  exact (hR _ _ _).2.2.2.1 rfl dX6_clear_5 ⟨rfl, h⟩
theorem ok_X6_clear (G : zv_G) {Q : zv_St → Prop}  {σ : zv_St} (h : B_X6_clear Q  σ) : zv_OK G M_X6_clear yX6_clear [.ref (G.2.2.1 42)] σ (zv_qv Q) := zv_ok G _ _ _ _ _ (by decide +kernel) rfl (Nat.le_of_ble_eq_true rfl) (fun X hC hR => zv_go (k_X6_clear_0 hC hR h) ⟨rfl, trivial⟩)
-- X6_add
def B_X6_add_39 (Q : zv_St → Prop) (σ : zv_St) : Prop :=
  Q σ
set_option maxRecDepth 20000 in
set_option maxHeartbeats 2000000 in
theorem k_X6_add_39 {G : zv_G} {X : zv_X} {Q : zv_St → Prop}  (hC : zv_C G X M_X6_add) (hR : zv_R G X M_X6_add (zv_qv Q))   {σ : zv_St} (h : B_X6_add_39 Q   σ) : zv_V G X M_X6_add 39 [] [] σ := by
  unfold B_X6_add_39 at h
  exact (hR _ _ _).2.2.2.1 rfl dX6_add_39 ⟨rfl, h⟩
def B_X6_add (Q : zv_St → Prop) (x1 : Int32) (x2 : Int32) (σ : zv_St) : Prop :=
  (8 ≤ (σ.1 42 2) → (B_X6_add_39 Q σ)) ∧ (¬ 8 ≤ (σ.1 42 2) → (vp_in (σ.1 42 2) 8 ∧ ∀ σ_1 : zv_St, σ_1 = zv_wi σ 43 (σ.1 42 2).toNatClampNeg x1 → vp_in (σ_1.1 42 2) 8 ∧ ∀ σ_2 : zv_St, σ_2 = zv_wi σ_1 44 (σ_1.1 42 2).toNatClampNeg x2 → ∀ σ_3 : zv_St, σ_3 = zv_wi σ_2 42 2 ((σ_2.1 42 2) + 1) → B_X6_add_39 Q σ_3))
set_option maxRecDepth 20000 in
set_option maxHeartbeats 2000000 in
theorem k_X6_add_0 {G : zv_G} {X : zv_X} {Q : zv_St → Prop}  (hC : zv_C G X M_X6_add) (hR : zv_R G X M_X6_add (zv_qv Q))  {x1 : Int32} {x2 : Int32} {σ : zv_St} (h : B_X6_add Q  x1 x2 σ) : zv_V G X M_X6_add 0 [(0, .ref (G.2.2.1 42)), (1, .int x1), (2, .int x2)] [] σ := by
  unfold B_X6_add at h
  refine zv_aload_n hC dX6_add_0 rfl ?_
  refine zv_getI hC fl_X6_18 dX6_add_1 rfl rfl ?_
  refine zv_bipush (v := 8) hC dX6_add_4 (by decide) ?_
  refine zv_icmp_ge (tgt := 39) hC dX6_add_6 (by decide) (fun c => ?_) (fun c => ?_)
  · replace h := h.1 c
    exact zv_go (k_X6_add_39 hC hR  h) trivial
  · replace h := h.2 c
    refine zv_aload_n hC dX6_add_9 rfl ?_
    refine zv_getR (j := 43) hC fl_X6_9 dX6_add_10 rfl rfl ?_
    refine zv_aload_n hC dX6_add_13 rfl ?_
    refine zv_getI hC fl_X6_18 dX6_add_14 rfl rfl ?_
    refine zv_iload_n hC dX6_add_17 rfl ?_
    refine zv_iast hC dX6_add_18 rfl h.1 ?_
    replace h := h.2 _ rfl
    refine zv_aload_n hC dX6_add_19 rfl ?_
    refine zv_getR (j := 44) hC fl_X6_15 dX6_add_20 rfl rfl ?_
    refine zv_aload_n hC dX6_add_23 rfl ?_
    refine zv_getI hC fl_X6_18 dX6_add_24 rfl rfl ?_
    refine zv_iload_n hC dX6_add_27 rfl ?_
    refine zv_iast hC dX6_add_28 rfl h.1 ?_
    replace h := h.2 _ rfl
    refine zv_aload_n hC dX6_add_29 rfl ?_
    refine zv_dup hC dX6_add_30 rfl ?_
    refine zv_getI hC fl_X6_18 dX6_add_31 rfl rfl ?_
    refine zv_iconst (v := 1) hC dX6_add_34 (by decide) ?_
    refine zv_iadd hC dX6_add_35 ?_
    refine zv_putI hC fp_X6_18 dX6_add_36 rfl rfl rfl rfl ?_
    replace h := h _ rfl
    exact zv_go (k_X6_add_39 hC hR  h) trivial
theorem ok_X6_add (G : zv_G) {Q : zv_St → Prop} {x1 : Int32} {x2 : Int32} {σ : zv_St} (h : B_X6_add Q x1 x2 σ) : zv_OK G M_X6_add yX6_add [.ref (G.2.2.1 42), .int x1, .int x2] σ (zv_qv Q) := zv_ok G _ _ _ _ _ (by decide +kernel) rfl (Nat.le_of_ble_eq_true rfl) (fun X hC hR => zv_go (k_X6_add_0 hC hR h) ⟨rfl, rfl, rfl, trivial⟩)
-- X6_size
def B_X6_size (Q : Int32 → zv_St → Prop) (σ : zv_St) : Prop :=
  Q (σ.1 42 2) σ
set_option maxRecDepth 20000 in
set_option maxHeartbeats 2000000 in
theorem k_X6_size_0 {G : zv_G} {X : zv_X} {Q : Int32 → zv_St → Prop}  (hC : zv_C G X M_X6_size) (hR : zv_R G X M_X6_size (zv_qi Q))   {σ : zv_St} (h : B_X6_size Q   σ) : zv_V G X M_X6_size 0 [(0, .ref (G.2.2.1 42))] [] σ := by
  unfold B_X6_size at h
  refine zv_aload_n hC dX6_size_0 rfl ?_
  refine zv_getI hC fl_X6_18 dX6_size_1 rfl rfl ?_
  exact (hR _ _ _).1 _ rfl dX6_size_4 ⟨_, rfl, h⟩
theorem ok_X6_size (G : zv_G) {Q : Int32 → zv_St → Prop}  {σ : zv_St} (h : B_X6_size Q  σ) : zv_OK G M_X6_size yX6_size [.ref (G.2.2.1 42)] σ (zv_qi Q) := zv_ok G _ _ _ _ _ (by decide +kernel) rfl (Nat.le_of_ble_eq_true rfl) (fun X hC hR => zv_go (k_X6_size_0 hC hR h) ⟨rfl, trivial⟩)
-- X6_partAt
def B_X6_partAt (Q : Int32 → zv_St → Prop) (x1 : Int32) (σ : zv_St) : Prop :=
  vp_in x1 8 ∧ Q (σ.1 44 x1.toNatClampNeg) σ
set_option maxRecDepth 20000 in
set_option maxHeartbeats 2000000 in
theorem k_X6_partAt_0 {G : zv_G} {X : zv_X} {Q : Int32 → zv_St → Prop}  (hC : zv_C G X M_X6_partAt) (hR : zv_R G X M_X6_partAt (zv_qi Q))  {x1 : Int32} {σ : zv_St} (h : B_X6_partAt Q  x1 σ) : zv_V G X M_X6_partAt 0 [(0, .ref (G.2.2.1 42)), (1, .int x1)] [] σ := by
  unfold B_X6_partAt at h
  refine zv_aload_n hC dX6_partAt_0 rfl ?_
  refine zv_getR (j := 44) hC fl_X6_15 dX6_partAt_1 rfl rfl ?_
  refine zv_iload_n hC dX6_partAt_4 rfl ?_
  refine zv_iald hC dX6_partAt_5 rfl h.1 ?_
  replace h := h.2
  exact (hR _ _ _).1 _ rfl dX6_partAt_6 ⟨_, rfl, h⟩
theorem ok_X6_partAt (G : zv_G) {Q : Int32 → zv_St → Prop} {x1 : Int32} {σ : zv_St} (h : B_X6_partAt Q x1 σ) : zv_OK G M_X6_partAt yX6_partAt [.ref (G.2.2.1 42), .int x1] σ (zv_qi Q) := zv_ok G _ _ _ _ _ (by decide +kernel) rfl (Nat.le_of_ble_eq_true rfl) (fun X hC hR => zv_go (k_X6_partAt_0 hC hR h) ⟨rfl, rfl, trivial⟩)
-- X6_roleAt
def B_X6_roleAt (Q : Int32 → zv_St → Prop) (x1 : Int32) (σ : zv_St) : Prop :=
  vp_in x1 8 ∧ Q (σ.1 43 x1.toNatClampNeg) σ
set_option maxRecDepth 20000 in
set_option maxHeartbeats 2000000 in
theorem k_X6_roleAt_0 {G : zv_G} {X : zv_X} {Q : Int32 → zv_St → Prop}  (hC : zv_C G X M_X6_roleAt) (hR : zv_R G X M_X6_roleAt (zv_qi Q))  {x1 : Int32} {σ : zv_St} (h : B_X6_roleAt Q  x1 σ) : zv_V G X M_X6_roleAt 0 [(0, .ref (G.2.2.1 42)), (1, .int x1)] [] σ := by
  unfold B_X6_roleAt at h
  refine zv_aload_n hC dX6_roleAt_0 rfl ?_
  refine zv_getR (j := 43) hC fl_X6_9 dX6_roleAt_1 rfl rfl ?_
  refine zv_iload_n hC dX6_roleAt_4 rfl ?_
  refine zv_iald hC dX6_roleAt_5 rfl h.1 ?_
  replace h := h.2
  exact (hR _ _ _).1 _ rfl dX6_roleAt_6 ⟨_, rfl, h⟩
theorem ok_X6_roleAt (G : zv_G) {Q : Int32 → zv_St → Prop} {x1 : Int32} {σ : zv_St} (h : B_X6_roleAt Q x1 σ) : zv_OK G M_X6_roleAt yX6_roleAt [.ref (G.2.2.1 42), .int x1] σ (zv_qi Q) := zv_ok G _ _ _ _ _ (by decide +kernel) rfl (Nat.le_of_ble_eq_true rfl) (fun X hC hR => zv_go (k_X6_roleAt_0 hC hR h) ⟨rfl, rfl, trivial⟩)
-- X7_hasPartsOfRow
def B_X7_hasPartsOfRow_73 (Q : Int32 → zv_St → Prop) (σ : zv_St) : Prop :=
  Q 0 σ
set_option maxRecDepth 20000 in
set_option maxHeartbeats 2000000 in
theorem k_X7_hasPartsOfRow_73 {G : zv_G} {X : zv_X} {Q : Int32 → zv_St → Prop}  (hC : zv_C G X M_X7_hasPartsOfRow) (hR : zv_R G X M_X7_hasPartsOfRow (zv_qi Q))   {σ : zv_St} (h : B_X7_hasPartsOfRow_73 Q   σ) : zv_V G X M_X7_hasPartsOfRow 73 [] [] σ := by
  unfold B_X7_hasPartsOfRow_73 at h
  refine zv_iconst (v := 0) hC dX7_hasPartsOfRow_73 (by decide) ?_
  exact (hR _ _ _).2.1 _ rfl rfl dX7_hasPartsOfRow_74 ⟨_, rfl, h⟩
def L_X7_hasPartsOfRow_22 (Q : Int32 → zv_St → Prop) : Nat → (Int32 → Int32 → zv_St → Prop)
  | 0 => fun _ _ _ => False
  | u + 1 => fun x1 x2 σ => 
    B_X6_size (fun r_2 σ_1 => (r_2 ≤ x2 → (Q 1 σ_1)) ∧ (¬ r_2 ≤ x2 → (B_X5_roleAt (fun r_4 σ_3 => B_X6_roleAt (fun r_6 σ_5 => (¬ r_4 = r_6 → (B_X7_hasPartsOfRow_73 Q σ_5)) ∧ (r_4 = r_6 → (B_X5_partAt (fun r_8 σ_7 => B_X6_partAt (fun r_10 σ_9 => (r_8 = r_10 → ((L_X7_hasPartsOfRow_22 Q u) x1 (x2 + 1) σ_9)) ∧ (¬ r_8 = r_10 → (B_X7_hasPartsOfRow_73 Q σ_9))) x2 σ_7) x1 x2 σ_5))) x2 σ_3) x1 x2 σ_1))) σ
set_option maxRecDepth 20000 in
set_option maxHeartbeats 2000000 in
theorem kL_X7_hasPartsOfRow_22 {G : zv_G} {X : zv_X} {Q : Int32 → zv_St → Prop}  (hC : zv_C G X M_X7_hasPartsOfRow) (hR : zv_R G X M_X7_hasPartsOfRow (zv_qi Q))  : ∀ (n : Nat) (x1 : Int32) (x2 : Int32) (σ : zv_St), L_X7_hasPartsOfRow_22 Q  n x1 x2 σ → zv_V G X M_X7_hasPartsOfRow 22 [(0, .ref (G.2.2.1 39)), (1, .int x1), (2, .int x2)] [] σ := by
  intro n
  induction n with
  | zero => intro x1 x2 σ h; exact h.elim
  | succ n hk22 =>
    intro x1 x2 σ h
    unfold L_X7_hasPartsOfRow_22 at h
    refine zv_iload_n hC dX7_hasPartsOfRow_22 rfl ?_
    refine zv_aload_n hC dX7_hasPartsOfRow_23 rfl ?_
    refine zv_getR (j := 42) hC fl_X7_22 dX7_hasPartsOfRow_24 rfl rfl ?_
    refine zv_callVi (As := []) hC dX7_hasPartsOfRow_27 Y_X6_size lk_X7_94 (by decide) rfl rfl rfl (Nat.le_of_ble_eq_true rfl) (ok_X6_size G h) ?_
    intro r_2 σ_1 h
    refine zv_icmp_ge (tgt := 81) hC dX7_hasPartsOfRow_30 (by decide) (fun c => ?_) (fun c => ?_)
    · replace h := h.1 c
      refine zv_iconst (v := 1) hC dX7_hasPartsOfRow_81 (by decide) ?_
      exact (hR _ _ _).2.1 _ rfl rfl dX7_hasPartsOfRow_82 ⟨_, rfl, h⟩
    · replace h := h.2 c
      refine zv_aload_n hC dX7_hasPartsOfRow_33 rfl ?_
      refine zv_getR (j := 5) hC fl_X7_30 dX7_hasPartsOfRow_34 rfl rfl ?_
      refine zv_iload_n hC dX7_hasPartsOfRow_37 rfl ?_
      refine zv_iload_n hC dX7_hasPartsOfRow_38 rfl ?_
      refine zv_callVi (As := [_, _]) hC dX7_hasPartsOfRow_39 Y_X5_roleAt lk_X7_101 (by decide) rfl rfl rfl (Nat.le_of_ble_eq_true rfl) (ok_X5_roleAt G h) ?_
      intro r_4 σ_3 h
      refine zv_aload_n hC dX7_hasPartsOfRow_42 rfl ?_
      refine zv_getR (j := 42) hC fl_X7_22 dX7_hasPartsOfRow_43 rfl rfl ?_
      refine zv_iload_n hC dX7_hasPartsOfRow_46 rfl ?_
      refine zv_callVi (As := [_]) hC dX7_hasPartsOfRow_47 Y_X6_roleAt lk_X7_134 (by decide) rfl rfl rfl (Nat.le_of_ble_eq_true rfl) (ok_X6_roleAt G h) ?_
      intro r_6 σ_5 h
      refine zv_icmp_ne (tgt := 73) hC dX7_hasPartsOfRow_50 (by decide) (fun c => ?_) (fun c => ?_)
      · replace h := h.1 c
        exact zv_go (k_X7_hasPartsOfRow_73 hC hR  h) trivial
      · replace h := h.2 c
        refine zv_aload_n hC dX7_hasPartsOfRow_53 rfl ?_
        refine zv_getR (j := 5) hC fl_X7_30 dX7_hasPartsOfRow_54 rfl rfl ?_
        refine zv_iload_n hC dX7_hasPartsOfRow_57 rfl ?_
        refine zv_iload_n hC dX7_hasPartsOfRow_58 rfl ?_
        refine zv_callVi (As := [_, _]) hC dX7_hasPartsOfRow_59 Y_X5_partAt lk_X7_58 (by decide) rfl rfl rfl (Nat.le_of_ble_eq_true rfl) (ok_X5_partAt G h) ?_
        intro r_8 σ_7 h
        refine zv_aload_n hC dX7_hasPartsOfRow_62 rfl ?_
        refine zv_getR (j := 42) hC fl_X7_22 dX7_hasPartsOfRow_63 rfl rfl ?_
        refine zv_iload_n hC dX7_hasPartsOfRow_66 rfl ?_
        refine zv_callVi (As := [_]) hC dX7_hasPartsOfRow_67 Y_X6_partAt lk_X7_96 (by decide) rfl rfl rfl (Nat.le_of_ble_eq_true rfl) (ok_X6_partAt G h) ?_
        intro r_10 σ_9 h
        refine zv_icmp_eq (tgt := 75) hC dX7_hasPartsOfRow_70 (by decide) (fun c => ?_) (fun c => ?_)
        · replace h := h.1 c
          refine zv_iinc (v := 1) hC dX7_hasPartsOfRow_75 rfl (by decide) (by decide) ?_
          refine zv_goto (tgt := 22) hC dX7_hasPartsOfRow_78 (by decide) ?_
          exact zv_go (hk22 _ _ _ h) ⟨rfl, rfl, rfl, trivial⟩
        · replace h := h.2 c
          exact zv_go (k_X7_hasPartsOfRow_73 hC hR  h) trivial
def B_X7_hasPartsOfRow (Q : Int32 → zv_St → Prop) (x1 : Int32) (σ : zv_St) : Prop :=
  B_X5_size (fun r_2 σ_1 => B_X6_size (fun r_4 σ_3 => (r_2 = r_4 → (∃ n22, L_X7_hasPartsOfRow_22 Q n22 x1 0 σ_3)) ∧ (¬ r_2 = r_4 → (Q 0 σ_3))) σ_1) x1 σ
set_option maxRecDepth 20000 in
set_option maxHeartbeats 2000000 in
theorem k_X7_hasPartsOfRow_0 {G : zv_G} {X : zv_X} {Q : Int32 → zv_St → Prop}  (hC : zv_C G X M_X7_hasPartsOfRow) (hR : zv_R G X M_X7_hasPartsOfRow (zv_qi Q))  {x1 : Int32} {σ : zv_St} (h : B_X7_hasPartsOfRow Q  x1 σ) : zv_V G X M_X7_hasPartsOfRow 0 [(0, .ref (G.2.2.1 39)), (1, .int x1)] [] σ := by
  unfold B_X7_hasPartsOfRow at h
  refine zv_aload_n hC dX7_hasPartsOfRow_0 rfl ?_
  refine zv_getR (j := 5) hC fl_X7_30 dX7_hasPartsOfRow_1 rfl rfl ?_
  refine zv_iload_n hC dX7_hasPartsOfRow_4 rfl ?_
  refine zv_callVi (As := [_]) hC dX7_hasPartsOfRow_5 Y_X5_size lk_X7_55 (by decide) rfl rfl rfl (Nat.le_of_ble_eq_true rfl) (ok_X5_size G h) ?_
  intro r_2 σ_1 h
  refine zv_aload_n hC dX7_hasPartsOfRow_8 rfl ?_
  refine zv_getR (j := 42) hC fl_X7_22 dX7_hasPartsOfRow_9 rfl rfl ?_
  refine zv_callVi (As := []) hC dX7_hasPartsOfRow_12 Y_X6_size lk_X7_94 (by decide) rfl rfl rfl (Nat.le_of_ble_eq_true rfl) (ok_X6_size G h) ?_
  intro r_4 σ_3 h
  refine zv_icmp_eq (tgt := 20) hC dX7_hasPartsOfRow_15 (by decide) (fun c => ?_) (fun c => ?_)
  · replace h := h.1 c
    refine zv_iconst (v := 0) hC dX7_hasPartsOfRow_20 (by decide) ?_
    refine zv_istore_n hC dX7_hasPartsOfRow_21 (by decide) ?_
    obtain ⟨n, h⟩ := h
    exact zv_go (kL_X7_hasPartsOfRow_22 hC hR  n _ _ _ h) ⟨rfl, rfl, rfl, trivial⟩
  · replace h := h.2 c
    refine zv_iconst (v := 0) hC dX7_hasPartsOfRow_18 (by decide) ?_
    exact (hR _ _ _).2.1 _ rfl rfl dX7_hasPartsOfRow_19 ⟨_, rfl, h⟩
theorem ok_X7_hasPartsOfRow (G : zv_G) {Q : Int32 → zv_St → Prop} {x1 : Int32} {σ : zv_St} (h : B_X7_hasPartsOfRow Q x1 σ) : zv_OK G M_X7_hasPartsOfRow yX7_hasPartsOfRow [.ref (G.2.2.1 39), .int x1] σ (zv_qi Q) := zv_ok G _ _ _ _ _ (by decide +kernel) rfl (Nat.le_of_ble_eq_true rfl) (fun X hC hR => zv_go (k_X7_hasPartsOfRow_0 hC hR h) ⟨rfl, rfl, trivial⟩)
-- X7_thatIsSoWithRow
def B_X7_thatIsSoWithRow_37 (Q : Int32 → zv_St → Prop) (kk2 : Int32 → Int32 → Int32 → zv_St → Prop) (x1 : Int32) (x2 : Int32) (x3 : Int32) (σ : zv_St) : Prop :=
  kk2 x1 x2 (x3 + 1) σ
set_option maxRecDepth 20000 in
set_option maxHeartbeats 2000000 in
theorem k_X7_thatIsSoWithRow_37 {G : zv_G} {X : zv_X} {Q : Int32 → zv_St → Prop} {kk2 : Int32 → Int32 → Int32 → zv_St → Prop} (hC : zv_C G X M_X7_thatIsSoWithRow) (hR : zv_R G X M_X7_thatIsSoWithRow (zv_qi Q)) (hk2 : ∀ (x1 : Int32) (x2 : Int32) (x3 : Int32) (σ : zv_St), kk2 x1 x2 x3 σ → zv_V G X M_X7_thatIsSoWithRow 2 [(0, .ref (G.2.2.1 39)), (1, .int x1), (2, .int x2), (3, .int x3)] [] σ) {x1 : Int32} {x2 : Int32} {x3 : Int32} {σ : zv_St} (h : B_X7_thatIsSoWithRow_37 Q kk2 x1 x2 x3 σ) : zv_V G X M_X7_thatIsSoWithRow 37 [(0, .ref (G.2.2.1 39)), (1, .int x1), (2, .int x2), (3, .int x3)] [] σ := by
  unfold B_X7_thatIsSoWithRow_37 at h
  refine zv_iinc (v := 1) hC dX7_thatIsSoWithRow_37 rfl (by decide) (by decide) ?_
  refine zv_goto (tgt := 2) hC dX7_thatIsSoWithRow_40 (by decide) ?_
  exact zv_go (hk2 _ _ _ _ h) ⟨rfl, rfl, rfl, rfl, trivial⟩
def B_X7_thatIsSoWithRow_106 (Q : Int32 → zv_St → Prop) (x3 : Int32) (σ : zv_St) : Prop :=
  Q x3 σ
set_option maxRecDepth 20000 in
set_option maxHeartbeats 2000000 in
theorem k_X7_thatIsSoWithRow_106 {G : zv_G} {X : zv_X} {Q : Int32 → zv_St → Prop}  (hC : zv_C G X M_X7_thatIsSoWithRow) (hR : zv_R G X M_X7_thatIsSoWithRow (zv_qi Q))  {x3 : Int32} {σ : zv_St} (h : B_X7_thatIsSoWithRow_106 Q  x3 σ) : zv_V G X M_X7_thatIsSoWithRow 106 [(3, .int x3)] [] σ := by
  unfold B_X7_thatIsSoWithRow_106 at h
  refine zv_iload_n hC dX7_thatIsSoWithRow_106 rfl ?_
  exact (hR _ _ _).1 _ rfl dX7_thatIsSoWithRow_107 ⟨_, rfl, h⟩
def L_X7_thatIsSoWithRow_57 (Q : Int32 → zv_St → Prop) : Nat → (Int32 → Int32 → zv_St → Prop)
  | 0 => fun _ _ _ => False
  | u + 1 => fun x3 x4 σ => 
    (x3 < 0 → (B_X7_thatIsSoWithRow_106 Q x3 σ)) ∧ (¬ x3 < 0 → (B_X6_size (fun r_2 σ_1 => (r_2 ≤ x4 → (B_X7_thatIsSoWithRow_106 Q x3 σ_1)) ∧ (¬ r_2 ≤ x4 → (B_X6_roleAt (fun r_4 σ_3 => B_X6_partAt (fun r_6 σ_5 => B_X5_add (fun r_8 σ_7 => (L_X7_thatIsSoWithRow_57 Q u) x3 (x4 + 1) σ_7) x3 r_4 r_6 σ_5) x4 σ_3) x4 σ_1))) σ))
set_option maxRecDepth 20000 in
set_option maxHeartbeats 2000000 in
theorem kL_X7_thatIsSoWithRow_57 {G : zv_G} {X : zv_X} {Q : Int32 → zv_St → Prop}  (hC : zv_C G X M_X7_thatIsSoWithRow) (hR : zv_R G X M_X7_thatIsSoWithRow (zv_qi Q))  : ∀ (n : Nat) (x3 : Int32) (x4 : Int32) (σ : zv_St), L_X7_thatIsSoWithRow_57 Q  n x3 x4 σ → zv_V G X M_X7_thatIsSoWithRow 57 [(0, .ref (G.2.2.1 39)), (3, .int x3), (4, .int x4)] [] σ := by
  intro n
  induction n with
  | zero => intro x3 x4 σ h; exact h.elim
  | succ n hk57 =>
    intro x3 x4 σ h
    unfold L_X7_thatIsSoWithRow_57 at h
    refine zv_iload_n hC dX7_thatIsSoWithRow_57 rfl ?_
    refine zv_if_lt (tgt := 106) hC dX7_thatIsSoWithRow_58 (by decide) (fun c => ?_) (fun c => ?_)
    · replace h := h.1 c
      exact zv_go (k_X7_thatIsSoWithRow_106 hC hR  h) ⟨rfl, trivial⟩
    · replace h := h.2 c
      refine zv_iload hC dX7_thatIsSoWithRow_61 rfl ?_
      refine zv_aload_n hC dX7_thatIsSoWithRow_63 rfl ?_
      refine zv_getR (j := 42) hC fl_X7_22 dX7_thatIsSoWithRow_64 rfl rfl ?_
      refine zv_callVi (As := []) hC dX7_thatIsSoWithRow_67 Y_X6_size lk_X7_94 (by decide) rfl rfl rfl (Nat.le_of_ble_eq_true rfl) (ok_X6_size G h) ?_
      intro r_2 σ_1 h
      refine zv_icmp_ge (tgt := 106) hC dX7_thatIsSoWithRow_70 (by decide) (fun c => ?_) (fun c => ?_)
      · replace h := h.1 c
        exact zv_go (k_X7_thatIsSoWithRow_106 hC hR  h) ⟨rfl, trivial⟩
      · replace h := h.2 c
        refine zv_aload_n hC dX7_thatIsSoWithRow_73 rfl ?_
        refine zv_getR (j := 5) hC fl_X7_30 dX7_thatIsSoWithRow_74 rfl rfl ?_
        refine zv_iload_n hC dX7_thatIsSoWithRow_77 rfl ?_
        refine zv_aload_n hC dX7_thatIsSoWithRow_78 rfl ?_
        refine zv_getR (j := 42) hC fl_X7_22 dX7_thatIsSoWithRow_79 rfl rfl ?_
        refine zv_iload hC dX7_thatIsSoWithRow_82 rfl ?_
        refine zv_callVi (As := [_]) hC dX7_thatIsSoWithRow_84 Y_X6_roleAt lk_X7_134 (by decide) rfl rfl rfl (Nat.le_of_ble_eq_true rfl) (ok_X6_roleAt G h) ?_
        intro r_4 σ_3 h
        refine zv_aload_n hC dX7_thatIsSoWithRow_87 rfl ?_
        refine zv_getR (j := 42) hC fl_X7_22 dX7_thatIsSoWithRow_88 rfl rfl ?_
        refine zv_iload hC dX7_thatIsSoWithRow_91 rfl ?_
        refine zv_callVi (As := [_]) hC dX7_thatIsSoWithRow_93 Y_X6_partAt lk_X7_96 (by decide) rfl rfl rfl (Nat.le_of_ble_eq_true rfl) (ok_X6_partAt G h) ?_
        intro r_6 σ_5 h
        refine zv_callVi (As := [_, _, _]) hC dX7_thatIsSoWithRow_96 Y_X5_add lk_X7_146 (by decide) rfl rfl rfl (Nat.le_of_ble_eq_true rfl) (ok_X5_add G h) ?_
        intro r_8 σ_7 h
        refine zv_pop hC dX7_thatIsSoWithRow_99 rfl ?_
        refine zv_iinc (v := 1) hC dX7_thatIsSoWithRow_100 rfl (by decide) (by decide) ?_
        refine zv_goto (tgt := 57) hC dX7_thatIsSoWithRow_103 (by decide) ?_
        exact zv_go (hk57 _ _ _ h) ⟨rfl, rfl, rfl, trivial⟩
def L_X7_thatIsSoWithRow_2 (Q : Int32 → zv_St → Prop) : Nat → (Int32 → Int32 → Int32 → zv_St → Prop)
  | 0 => fun _ _ _ _ => False
  | u + 1 => fun x1 x2 x3 σ => 
    B_X5_count (fun r_2 σ_1 => (r_2 ≤ x3 → (B_X5_make (fun r_4 σ_3 => ∃ n57, L_X7_thatIsSoWithRow_57 Q n57 r_4 0 σ_3) x1 x2 0 σ_1)) ∧ (¬ r_2 ≤ x3 → (B_X5_hasNumbers (fun r_6 σ_5 => (r_6 = 0 → (B_X7_thatIsSoWithRow_37 Q (L_X7_thatIsSoWithRow_2 Q u) x1 x2 x3 σ_5)) ∧ (¬ r_6 = 0 → (B_X7_hasPartsOfRow (fun r_8 σ_7 => (r_8 = 0 → (B_X7_thatIsSoWithRow_37 Q (L_X7_thatIsSoWithRow_2 Q u) x1 x2 x3 σ_7)) ∧ (¬ r_8 = 0 → (Q x3 σ_7))) x3 σ_5))) x3 x1 x2 0 σ_1))) σ
set_option maxRecDepth 20000 in
set_option maxHeartbeats 2000000 in
theorem kL_X7_thatIsSoWithRow_2 {G : zv_G} {X : zv_X} {Q : Int32 → zv_St → Prop}  (hC : zv_C G X M_X7_thatIsSoWithRow) (hR : zv_R G X M_X7_thatIsSoWithRow (zv_qi Q))  : ∀ (n : Nat) (x1 : Int32) (x2 : Int32) (x3 : Int32) (σ : zv_St), L_X7_thatIsSoWithRow_2 Q  n x1 x2 x3 σ → zv_V G X M_X7_thatIsSoWithRow 2 [(0, .ref (G.2.2.1 39)), (1, .int x1), (2, .int x2), (3, .int x3)] [] σ := by
  intro n
  induction n with
  | zero => intro x1 x2 x3 σ h; exact h.elim
  | succ n hk2 =>
    intro x1 x2 x3 σ h
    unfold L_X7_thatIsSoWithRow_2 at h
    refine zv_iload_n hC dX7_thatIsSoWithRow_2 rfl ?_
    refine zv_aload_n hC dX7_thatIsSoWithRow_3 rfl ?_
    refine zv_getR (j := 5) hC fl_X7_30 dX7_thatIsSoWithRow_4 rfl rfl ?_
    refine zv_callVi (As := []) hC dX7_thatIsSoWithRow_7 Y_X5_count lk_X7_34 (by decide) rfl rfl rfl (Nat.le_of_ble_eq_true rfl) (ok_X5_count G h) ?_
    intro r_2 σ_1 h
    refine zv_icmp_ge (tgt := 43) hC dX7_thatIsSoWithRow_10 (by decide) (fun c => ?_) (fun c => ?_)
    · replace h := h.1 c
      refine zv_aload_n hC dX7_thatIsSoWithRow_43 rfl ?_
      refine zv_getR (j := 5) hC fl_X7_30 dX7_thatIsSoWithRow_44 rfl rfl ?_
      refine zv_iload_n hC dX7_thatIsSoWithRow_47 rfl ?_
      refine zv_iload_n hC dX7_thatIsSoWithRow_48 rfl ?_
      refine zv_iconst (v := 0) hC dX7_thatIsSoWithRow_49 (by decide) ?_
      refine zv_callVi (As := [_, _, _]) hC dX7_thatIsSoWithRow_50 Y_X5_make lk_X7_140 (by decide) rfl rfl rfl (Nat.le_of_ble_eq_true rfl) (ok_X5_make G h) ?_
      intro r_4 σ_3 h
      refine zv_istore_n hC dX7_thatIsSoWithRow_53 (by decide) ?_
      refine zv_iconst (v := 0) hC dX7_thatIsSoWithRow_54 (by decide) ?_
      refine zv_istore hC dX7_thatIsSoWithRow_55 (by decide) ?_
      obtain ⟨n, h⟩ := h
      exact zv_go (kL_X7_thatIsSoWithRow_57 hC hR  n _ _ _ h) ⟨rfl, rfl, rfl, trivial⟩
    · replace h := h.2 c
      refine zv_aload_n hC dX7_thatIsSoWithRow_13 rfl ?_
      refine zv_getR (j := 5) hC fl_X7_30 dX7_thatIsSoWithRow_14 rfl rfl ?_
      refine zv_iload_n hC dX7_thatIsSoWithRow_17 rfl ?_
      refine zv_iload_n hC dX7_thatIsSoWithRow_18 rfl ?_
      refine zv_iload_n hC dX7_thatIsSoWithRow_19 rfl ?_
      refine zv_iconst (v := 0) hC dX7_thatIsSoWithRow_20 (by decide) ?_
      refine zv_callVi (As := [_, _, _, _]) hC dX7_thatIsSoWithRow_21 Y_X5_hasNumbers lk_X7_136 (by decide) rfl rfl rfl (Nat.le_of_ble_eq_true rfl) (ok_X5_hasNumbers G h) ?_
      intro r_6 σ_5 h
      refine zv_if_eq (tgt := 37) hC dX7_thatIsSoWithRow_24 (by decide) (fun c => ?_) (fun c => ?_)
      · replace h := h.1 c
        exact zv_go (k_X7_thatIsSoWithRow_37 hC hR hk2 h) ⟨rfl, rfl, rfl, rfl, trivial⟩
      · replace h := h.2 c
        refine zv_aload_n hC dX7_thatIsSoWithRow_27 rfl ?_
        refine zv_iload_n hC dX7_thatIsSoWithRow_28 rfl ?_
        refine zv_callVi (As := [_]) hC dX7_thatIsSoWithRow_29 Y_X7_hasPartsOfRow lk_X7_143 (by decide) rfl rfl rfl (Nat.le_of_ble_eq_true rfl) (ok_X7_hasPartsOfRow G h) ?_
        intro r_8 σ_7 h
        refine zv_if_eq (tgt := 37) hC dX7_thatIsSoWithRow_32 (by decide) (fun c => ?_) (fun c => ?_)
        · replace h := h.1 c
          exact zv_go (k_X7_thatIsSoWithRow_37 hC hR hk2 h) ⟨rfl, rfl, rfl, rfl, trivial⟩
        · replace h := h.2 c
          refine zv_iload_n hC dX7_thatIsSoWithRow_35 rfl ?_
          exact (hR _ _ _).1 _ rfl dX7_thatIsSoWithRow_36 ⟨_, rfl, h⟩
def B_X7_thatIsSoWithRow (Q : Int32 → zv_St → Prop) (x1 : Int32) (x2 : Int32) (σ : zv_St) : Prop :=
  ∃ n2, L_X7_thatIsSoWithRow_2 Q n2 x1 x2 0 σ
set_option maxRecDepth 20000 in
set_option maxHeartbeats 2000000 in
theorem k_X7_thatIsSoWithRow_0 {G : zv_G} {X : zv_X} {Q : Int32 → zv_St → Prop}  (hC : zv_C G X M_X7_thatIsSoWithRow) (hR : zv_R G X M_X7_thatIsSoWithRow (zv_qi Q))  {x1 : Int32} {x2 : Int32} {σ : zv_St} (h : B_X7_thatIsSoWithRow Q  x1 x2 σ) : zv_V G X M_X7_thatIsSoWithRow 0 [(0, .ref (G.2.2.1 39)), (1, .int x1), (2, .int x2)] [] σ := by
  unfold B_X7_thatIsSoWithRow at h
  refine zv_iconst (v := 0) hC dX7_thatIsSoWithRow_0 (by decide) ?_
  refine zv_istore_n hC dX7_thatIsSoWithRow_1 (by decide) ?_
  obtain ⟨n, h⟩ := h
  exact zv_go (kL_X7_thatIsSoWithRow_2 hC hR  n _ _ _ _ h) ⟨rfl, rfl, rfl, rfl, trivial⟩
theorem ok_X7_thatIsSoWithRow (G : zv_G) {Q : Int32 → zv_St → Prop} {x1 : Int32} {x2 : Int32} {σ : zv_St} (h : B_X7_thatIsSoWithRow Q x1 x2 σ) : zv_OK G M_X7_thatIsSoWithRow yX7_thatIsSoWithRow [.ref (G.2.2.1 39), .int x1, .int x2] σ (zv_qi Q) := zv_ok G _ _ _ _ _ (by decide +kernel) rfl (Nat.le_of_ble_eq_true rfl) (fun X hC hR => zv_go (k_X7_thatIsSoWithRow_0 hC hR h) ⟨rfl, rfl, rfl, trivial⟩)
-- X7_newOfBest
def B_X7_newOfBest_111 (Q : Int32 → zv_St → Prop) (y0 : Int32) (σ : zv_St) : Prop :=
  Q y0 σ
set_option maxRecDepth 20000 in
set_option maxHeartbeats 2000000 in
theorem k_X7_newOfBest_111 {G : zv_G} {X : zv_X} {Q : Int32 → zv_St → Prop}  (hC : zv_C G X M_X7_newOfBest) (hR : zv_R G X M_X7_newOfBest (zv_qi Q))  {y0 : Int32} {σ : zv_St} (h : B_X7_newOfBest_111 Q  y0 σ) : zv_V G X M_X7_newOfBest 111 [] [.int y0] σ := by
  unfold B_X7_newOfBest_111 at h
  exact (hR _ _ _).1 _ rfl dX7_newOfBest_111 ⟨_, rfl, h⟩
def B_X7_newOfBest_58 (Q : Int32 → zv_St → Prop) (kk9 : Int32 → Int32 → zv_St → Prop) (x1 : Int32) (x2 : Int32) (σ : zv_St) : Prop :=
  kk9 x1 (x2 + 1) σ
set_option maxRecDepth 20000 in
set_option maxHeartbeats 2000000 in
theorem k_X7_newOfBest_58 {G : zv_G} {X : zv_X} {Q : Int32 → zv_St → Prop} {kk9 : Int32 → Int32 → zv_St → Prop} (hC : zv_C G X M_X7_newOfBest) (hR : zv_R G X M_X7_newOfBest (zv_qi Q)) (hk9 : ∀ (x1 : Int32) (x2 : Int32) (σ : zv_St), kk9 x1 x2 σ → zv_V G X M_X7_newOfBest 9 [(0, .ref (G.2.2.1 39)), (1, .int x1), (2, .int x2)] [] σ) {x1 : Int32} {x2 : Int32} {σ : zv_St} (h : B_X7_newOfBest_58 Q kk9 x1 x2 σ) : zv_V G X M_X7_newOfBest 58 [(0, .ref (G.2.2.1 39)), (1, .int x1), (2, .int x2)] [] σ := by
  unfold B_X7_newOfBest_58 at h
  refine zv_iinc (v := 1) hC dX7_newOfBest_58 rfl (by decide) (by decide) ?_
  refine zv_goto (tgt := 9) hC dX7_newOfBest_61 (by decide) ?_
  exact zv_go (hk9 _ _ _ h) ⟨rfl, rfl, rfl, trivial⟩
def L_X7_newOfBest_9 (Q : Int32 → zv_St → Prop) : Nat → (Int32 → Int32 → zv_St → Prop)
  | 0 => fun _ _ _ => False
  | u + 1 => fun x1 x2 σ => 
    B_X5_size (fun r_2 σ_1 => (r_2 ≤ x2 → (B_X6_size (fun r_4 σ_3 => (¬ r_4 = 0 → (B_X6_size (fun r_6 σ_5 => (¬ r_6 = 1 → (B_X5_first (fun r_8 σ_7 => B_X7_thatIsSoWithRow (fun r_10 σ_9 => B_X7_newOfBest_111 Q r_10 σ_9) 3 r_8 σ_7) x1 σ_5)) ∧ (r_6 = 1 → (B_X6_partAt (fun r_12 σ_11 => B_X7_newOfBest_111 Q r_12 σ_11) 0 σ_5))) σ_3)) ∧ (r_4 = 0 → (Q (-1) σ_3))) σ_1)) ∧ (¬ r_2 ≤ x2 → (B_X5_partAt (fun r_14 σ_13 => vp_in r_14 80 ∧ ∀ v_15 : Int32, v_15 = (σ_13.1 41 r_14.toNatClampNeg) → B_X5_kind (fun r_17 σ_16 => (r_17 = 7 → (B_X7_newOfBest_58 Q (L_X7_newOfBest_9 Q u) x1 x2 σ_16)) ∧ (¬ r_17 = 7 → (B_X6_add (fun σ_18 => B_X7_newOfBest_58 Q (L_X7_newOfBest_9 Q u) x1 x2 σ_18) 3 v_15 σ_16))) v_15 σ_13) x1 x2 σ_1))) x1 σ
set_option maxRecDepth 20000 in
set_option maxHeartbeats 2000000 in
theorem kL_X7_newOfBest_9 {G : zv_G} {X : zv_X} {Q : Int32 → zv_St → Prop}  (hC : zv_C G X M_X7_newOfBest) (hR : zv_R G X M_X7_newOfBest (zv_qi Q))  : ∀ (n : Nat) (x1 : Int32) (x2 : Int32) (σ : zv_St), L_X7_newOfBest_9 Q  n x1 x2 σ → zv_V G X M_X7_newOfBest 9 [(0, .ref (G.2.2.1 39)), (1, .int x1), (2, .int x2)] [] σ := by
  intro n
  induction n with
  | zero => intro x1 x2 σ h; exact h.elim
  | succ n hk9 =>
    intro x1 x2 σ h
    unfold L_X7_newOfBest_9 at h
    refine zv_iload_n hC dX7_newOfBest_9 rfl ?_
    refine zv_aload_n hC dX7_newOfBest_10 rfl ?_
    refine zv_getR (j := 5) hC fl_X7_30 dX7_newOfBest_11 rfl rfl ?_
    refine zv_iload_n hC dX7_newOfBest_14 rfl ?_
    refine zv_callVi (As := [_]) hC dX7_newOfBest_15 Y_X5_size lk_X7_55 (by decide) rfl rfl rfl (Nat.le_of_ble_eq_true rfl) (ok_X5_size G h) ?_
    intro r_2 σ_1 h
    refine zv_icmp_ge (tgt := 64) hC dX7_newOfBest_18 (by decide) (fun c => ?_) (fun c => ?_)
    · replace h := h.1 c
      refine zv_aload_n hC dX7_newOfBest_64 rfl ?_
      refine zv_getR (j := 42) hC fl_X7_22 dX7_newOfBest_65 rfl rfl ?_
      refine zv_callVi (As := []) hC dX7_newOfBest_68 Y_X6_size lk_X7_94 (by decide) rfl rfl rfl (Nat.le_of_ble_eq_true rfl) (ok_X6_size G h) ?_
      intro r_4 σ_3 h
      refine zv_if_ne (tgt := 76) hC dX7_newOfBest_71 (by decide) (fun c => ?_) (fun c => ?_)
      · replace h := h.1 c
        refine zv_aload_n hC dX7_newOfBest_76 rfl ?_
        refine zv_getR (j := 42) hC fl_X7_22 dX7_newOfBest_77 rfl rfl ?_
        refine zv_callVi (As := []) hC dX7_newOfBest_80 Y_X6_size lk_X7_94 (by decide) rfl rfl rfl (Nat.le_of_ble_eq_true rfl) (ok_X6_size G h) ?_
        intro r_6 σ_5 h
        refine zv_iconst (v := 1) hC dX7_newOfBest_83 (by decide) ?_
        refine zv_icmp_ne (tgt := 98) hC dX7_newOfBest_84 (by decide) (fun c => ?_) (fun c => ?_)
        · replace h := h.1 c
          refine zv_aload_n hC dX7_newOfBest_98 rfl ?_
          refine zv_iconst (v := 3) hC dX7_newOfBest_99 (by decide) ?_
          refine zv_aload_n hC dX7_newOfBest_100 rfl ?_
          refine zv_getR (j := 5) hC fl_X7_30 dX7_newOfBest_101 rfl rfl ?_
          refine zv_iload_n hC dX7_newOfBest_104 rfl ?_
          refine zv_callVi (As := [_]) hC dX7_newOfBest_105 Y_X5_first lk_X7_65 (by decide) rfl rfl rfl (Nat.le_of_ble_eq_true rfl) (ok_X5_first G h) ?_
          intro r_8 σ_7 h
          refine zv_callVi (As := [_, _]) hC dX7_newOfBest_108 Y_X7_thatIsSoWithRow lk_X7_98 (by decide) rfl rfl rfl (Nat.le_of_ble_eq_true rfl) (ok_X7_thatIsSoWithRow G h) ?_
          intro r_10 σ_9 h
          exact zv_go (k_X7_newOfBest_111 hC hR  h) trivial
        · replace h := h.2 c
          refine zv_aload_n hC dX7_newOfBest_87 rfl ?_
          refine zv_getR (j := 42) hC fl_X7_22 dX7_newOfBest_88 rfl rfl ?_
          refine zv_iconst (v := 0) hC dX7_newOfBest_91 (by decide) ?_
          refine zv_callVi (As := [_]) hC dX7_newOfBest_92 Y_X6_partAt lk_X7_96 (by decide) rfl rfl rfl (Nat.le_of_ble_eq_true rfl) (ok_X6_partAt G h) ?_
          intro r_12 σ_11 h
          refine zv_goto (tgt := 111) hC dX7_newOfBest_95 (by decide) ?_
          exact zv_go (k_X7_newOfBest_111 hC hR  h) trivial
      · replace h := h.2 c
        refine zv_iconst (v := (-1)) hC dX7_newOfBest_74 (by decide) ?_
        exact (hR _ _ _).1 _ rfl dX7_newOfBest_75 ⟨_, rfl, h⟩
    · replace h := h.2 c
      refine zv_aload_n hC dX7_newOfBest_21 rfl ?_
      refine zv_getR (j := 41) hC fl_X7_15 dX7_newOfBest_22 rfl rfl ?_
      refine zv_aload_n hC dX7_newOfBest_25 rfl ?_
      refine zv_getR (j := 5) hC fl_X7_30 dX7_newOfBest_26 rfl rfl ?_
      refine zv_iload_n hC dX7_newOfBest_29 rfl ?_
      refine zv_iload_n hC dX7_newOfBest_30 rfl ?_
      refine zv_callVi (As := [_, _]) hC dX7_newOfBest_31 Y_X5_partAt lk_X7_58 (by decide) rfl rfl rfl (Nat.le_of_ble_eq_true rfl) (ok_X5_partAt G h) ?_
      intro r_14 σ_13 h
      refine zv_iald hC dX7_newOfBest_34 rfl h.1 ?_
      replace h := h.2
      replace h := h _ rfl
      refine zv_istore_n hC dX7_newOfBest_35 (by decide) ?_
      refine zv_aload_n hC dX7_newOfBest_36 rfl ?_
      refine zv_getR (j := 5) hC fl_X7_30 dX7_newOfBest_37 rfl rfl ?_
      refine zv_iload_n hC dX7_newOfBest_40 rfl ?_
      refine zv_callVi (As := [_]) hC dX7_newOfBest_41 Y_X5_kind lk_X7_62 (by decide) rfl rfl rfl (Nat.le_of_ble_eq_true rfl) (ok_X5_kind G h) ?_
      intro r_17 σ_16 h
      refine zv_bipush (v := 7) hC dX7_newOfBest_44 (by decide) ?_
      refine zv_icmp_eq (tgt := 58) hC dX7_newOfBest_46 (by decide) (fun c => ?_) (fun c => ?_)
      · replace h := h.1 c
        exact zv_go (k_X7_newOfBest_58 hC hR hk9 h) ⟨rfl, rfl, rfl, trivial⟩
      · replace h := h.2 c
        refine zv_aload_n hC dX7_newOfBest_49 rfl ?_
        refine zv_getR (j := 42) hC fl_X7_22 dX7_newOfBest_50 rfl rfl ?_
        refine zv_iconst (v := 3) hC dX7_newOfBest_53 (by decide) ?_
        refine zv_iload_n hC dX7_newOfBest_54 rfl ?_
        refine zv_callVv (As := [_, _]) hC dX7_newOfBest_55 Y_X6_add lk_X7_90 (by decide) rfl rfl rfl (Nat.le_of_ble_eq_true rfl) (ok_X6_add G h) ?_
        intro σ_18 h
        exact zv_go (k_X7_newOfBest_58 hC hR hk9 h) ⟨rfl, rfl, rfl, trivial⟩
def B_X7_newOfBest (Q : Int32 → zv_St → Prop) (x1 : Int32) (σ : zv_St) : Prop :=
  B_X6_clear (fun σ_1 => ∃ n9, L_X7_newOfBest_9 Q n9 x1 0 σ_1) σ
set_option maxRecDepth 20000 in
set_option maxHeartbeats 2000000 in
theorem k_X7_newOfBest_0 {G : zv_G} {X : zv_X} {Q : Int32 → zv_St → Prop}  (hC : zv_C G X M_X7_newOfBest) (hR : zv_R G X M_X7_newOfBest (zv_qi Q))  {x1 : Int32} {σ : zv_St} (h : B_X7_newOfBest Q  x1 σ) : zv_V G X M_X7_newOfBest 0 [(0, .ref (G.2.2.1 39)), (1, .int x1)] [] σ := by
  unfold B_X7_newOfBest at h
  refine zv_aload_n hC dX7_newOfBest_0 rfl ?_
  refine zv_getR (j := 42) hC fl_X7_22 dX7_newOfBest_1 rfl rfl ?_
  refine zv_callVv (As := []) hC dX7_newOfBest_4 Y_X6_clear lk_X7_87 (by decide) rfl rfl rfl (Nat.le_of_ble_eq_true rfl) (ok_X6_clear G h) ?_
  intro σ_1 h
  refine zv_iconst (v := 0) hC dX7_newOfBest_7 (by decide) ?_
  refine zv_istore_n hC dX7_newOfBest_8 (by decide) ?_
  obtain ⟨n, h⟩ := h
  exact zv_go (kL_X7_newOfBest_9 hC hR  n _ _ _ h) ⟨rfl, rfl, rfl, trivial⟩
theorem ok_X7_newOfBest (G : zv_G) {Q : Int32 → zv_St → Prop} {x1 : Int32} {σ : zv_St} (h : B_X7_newOfBest Q x1 σ) : zv_OK G M_X7_newOfBest yX7_newOfBest [.ref (G.2.2.1 39), .int x1] σ (zv_qi Q) := zv_ok G _ _ _ _ _ (by decide +kernel) rfl (Nat.le_of_ble_eq_true rfl) (fun X hC hR => zv_go (k_X7_newOfBest_0 hC hR h) ⟨rfl, rfl, trivial⟩)
-- X7_canDissolve
def B_X7_canDissolve_17 (Q : Int32 → zv_St → Prop) (σ : zv_St) : Prop :=
  Q 0 σ
set_option maxRecDepth 20000 in
set_option maxHeartbeats 2000000 in
theorem k_X7_canDissolve_17 {G : zv_G} {X : zv_X} {Q : Int32 → zv_St → Prop}  (hC : zv_C G X M_X7_canDissolve) (hR : zv_R G X M_X7_canDissolve (zv_qi Q))   {σ : zv_St} (h : B_X7_canDissolve_17 Q   σ) : zv_V G X M_X7_canDissolve 17 [] [] σ := by
  unfold B_X7_canDissolve_17 at h
  refine zv_iconst (v := 0) hC dX7_canDissolve_17 (by decide) ?_
  exact (hR _ _ _).2.1 _ rfl rfl dX7_canDissolve_18 ⟨_, rfl, h⟩
def B_X7_canDissolve_90 (Q : Int32 → zv_St → Prop) (y0 : Int32) (σ : zv_St) : Prop :=
  narrow .boolean (.int y0) = .int y0 ∧ Q y0 σ
set_option maxRecDepth 20000 in
set_option maxHeartbeats 2000000 in
theorem k_X7_canDissolve_90 {G : zv_G} {X : zv_X} {Q : Int32 → zv_St → Prop}  (hC : zv_C G X M_X7_canDissolve) (hR : zv_R G X M_X7_canDissolve (zv_qi Q))  {y0 : Int32} {σ : zv_St} (h : B_X7_canDissolve_90 Q  y0 σ) : zv_V G X M_X7_canDissolve 90 [] [.int y0] σ := by
  unfold B_X7_canDissolve_90 at h
  exact (hR _ _ _).2.1 _ rfl h.1 dX7_canDissolve_90 ⟨_, rfl, h.2⟩
def B_X7_canDissolve_89 (Q : Int32 → zv_St → Prop) (σ : zv_St) : Prop :=
  B_X7_canDissolve_90 Q 0 σ
set_option maxRecDepth 20000 in
set_option maxHeartbeats 2000000 in
theorem k_X7_canDissolve_89 {G : zv_G} {X : zv_X} {Q : Int32 → zv_St → Prop}  (hC : zv_C G X M_X7_canDissolve) (hR : zv_R G X M_X7_canDissolve (zv_qi Q))   {σ : zv_St} (h : B_X7_canDissolve_89 Q   σ) : zv_V G X M_X7_canDissolve 89 [] [] σ := by
  unfold B_X7_canDissolve_89 at h
  refine zv_iconst (v := 0) hC dX7_canDissolve_89 (by decide) ?_
  exact zv_go (k_X7_canDissolve_90 hC hR  h) trivial
def B_X7_canDissolve_74 (Q : Int32 → zv_St → Prop) (y0 : Int32) (σ : zv_St) : Prop :=
  narrow .boolean (.int y0) = .int y0 ∧ Q y0 σ
set_option maxRecDepth 20000 in
set_option maxHeartbeats 2000000 in
theorem k_X7_canDissolve_74 {G : zv_G} {X : zv_X} {Q : Int32 → zv_St → Prop}  (hC : zv_C G X M_X7_canDissolve) (hR : zv_R G X M_X7_canDissolve (zv_qi Q))  {y0 : Int32} {σ : zv_St} (h : B_X7_canDissolve_74 Q  y0 σ) : zv_V G X M_X7_canDissolve 74 [] [.int y0] σ := by
  unfold B_X7_canDissolve_74 at h
  exact (hR _ _ _).2.1 _ rfl h.1 dX7_canDissolve_74 ⟨_, rfl, h.2⟩
def B_X7_canDissolve_73 (Q : Int32 → zv_St → Prop) (σ : zv_St) : Prop :=
  B_X7_canDissolve_74 Q 0 σ
set_option maxRecDepth 20000 in
set_option maxHeartbeats 2000000 in
theorem k_X7_canDissolve_73 {G : zv_G} {X : zv_X} {Q : Int32 → zv_St → Prop}  (hC : zv_C G X M_X7_canDissolve) (hR : zv_R G X M_X7_canDissolve (zv_qi Q))   {σ : zv_St} (h : B_X7_canDissolve_73 Q   σ) : zv_V G X M_X7_canDissolve 73 [] [] σ := by
  unfold B_X7_canDissolve_73 at h
  refine zv_iconst (v := 0) hC dX7_canDissolve_73 (by decide) ?_
  exact zv_go (k_X7_canDissolve_74 hC hR  h) trivial
def B_X7_canDissolve (Q : Int32 → zv_St → Prop) (x1 : Int32) (x2 : Int32) (x3 : Int32) (σ : zv_St) : Prop :=
  B_X5_kind (fun r_2 σ_1 => (¬ r_2 = 2 → (B_X7_canDissolve_17 Q σ_1)) ∧ (r_2 = 2 → ((¬ x1 = 2 → (B_X5_first (fun r_4 σ_3 => B_X5_countOf (fun r_6 σ_5 => (¬ x1 = 3 → ((¬ r_4 = 0 → (B_X7_canDissolve_89 Q σ_5)) ∧ (r_4 = 0 → ((¬ r_6 = 0 → (B_X7_canDissolve_89 Q σ_5)) ∧ (r_6 = 0 → (B_X7_canDissolve_90 Q 1 σ_5)))))) ∧ (x1 = 3 → ((1 < x3 → (B_X7_canDissolve_73 Q σ_5)) ∧ (¬ 1 < x3 → ((1 < r_4 → (B_X7_canDissolve_73 Q σ_5)) ∧ (¬ 1 < r_4 → (B_X5_size (fun r_8 σ_7 => (¬ r_6 = r_8 → (B_X7_canDissolve_73 Q σ_7)) ∧ (r_6 = r_8 → (B_X7_canDissolve_74 Q 1 σ_7))) x2 σ_5))))))) x2 3 σ_3) x2 σ_1)) ∧ (x1 = 2 → (B_X7_canDissolve_17 Q σ_1))))) x2 σ
set_option maxRecDepth 20000 in
set_option maxHeartbeats 2000000 in
theorem k_X7_canDissolve_0 {G : zv_G} {X : zv_X} {Q : Int32 → zv_St → Prop}  (hC : zv_C G X M_X7_canDissolve) (hR : zv_R G X M_X7_canDissolve (zv_qi Q))  {x1 : Int32} {x2 : Int32} {x3 : Int32} {σ : zv_St} (h : B_X7_canDissolve Q  x1 x2 x3 σ) : zv_V G X M_X7_canDissolve 0 [(0, .ref (G.2.2.1 39)), (1, .int x1), (2, .int x2), (3, .int x3)] [] σ := by
  unfold B_X7_canDissolve at h
  refine zv_aload_n hC dX7_canDissolve_0 rfl ?_
  refine zv_getR (j := 5) hC fl_X7_30 dX7_canDissolve_1 rfl rfl ?_
  refine zv_iload_n hC dX7_canDissolve_4 rfl ?_
  refine zv_callVi (As := [_]) hC dX7_canDissolve_5 Y_X5_kind lk_X7_62 (by decide) rfl rfl rfl (Nat.le_of_ble_eq_true rfl) (ok_X5_kind G h) ?_
  intro r_2 σ_1 h
  refine zv_iconst (v := 2) hC dX7_canDissolve_8 (by decide) ?_
  refine zv_icmp_ne (tgt := 17) hC dX7_canDissolve_9 (by decide) (fun c => ?_) (fun c => ?_)
  · replace h := h.1 c
    exact zv_go (k_X7_canDissolve_17 hC hR  h) trivial
  · replace h := h.2 c
    refine zv_iload_n hC dX7_canDissolve_12 rfl ?_
    refine zv_iconst (v := 2) hC dX7_canDissolve_13 (by decide) ?_
    refine zv_icmp_ne (tgt := 19) hC dX7_canDissolve_14 (by decide) (fun c => ?_) (fun c => ?_)
    · replace h := h.1 c
      refine zv_aload_n hC dX7_canDissolve_19 rfl ?_
      refine zv_getR (j := 5) hC fl_X7_30 dX7_canDissolve_20 rfl rfl ?_
      refine zv_iload_n hC dX7_canDissolve_23 rfl ?_
      refine zv_callVi (As := [_]) hC dX7_canDissolve_24 Y_X5_first lk_X7_65 (by decide) rfl rfl rfl (Nat.le_of_ble_eq_true rfl) (ok_X5_first G h) ?_
      intro r_4 σ_3 h
      refine zv_istore hC dX7_canDissolve_27 (by decide) ?_
      refine zv_aload_n hC dX7_canDissolve_29 rfl ?_
      refine zv_getR (j := 5) hC fl_X7_30 dX7_canDissolve_30 rfl rfl ?_
      refine zv_iload_n hC dX7_canDissolve_33 rfl ?_
      refine zv_iconst (v := 3) hC dX7_canDissolve_34 (by decide) ?_
      refine zv_callVi (As := [_, _]) hC dX7_canDissolve_35 Y_X5_countOf lk_X7_114 (by decide) rfl rfl rfl (Nat.le_of_ble_eq_true rfl) (ok_X5_countOf G h) ?_
      intro r_6 σ_5 h
      refine zv_istore hC dX7_canDissolve_38 (by decide) ?_
      refine zv_iload_n hC dX7_canDissolve_40 rfl ?_
      refine zv_iconst (v := 3) hC dX7_canDissolve_41 (by decide) ?_
      refine zv_icmp_ne (tgt := 75) hC dX7_canDissolve_42 (by decide) (fun c => ?_) (fun c => ?_)
      · replace h := h.1 c
        refine zv_iload hC dX7_canDissolve_75 rfl ?_
        refine zv_if_ne (tgt := 89) hC dX7_canDissolve_77 (by decide) (fun c => ?_) (fun c => ?_)
        · replace h := h.1 c
          exact zv_go (k_X7_canDissolve_89 hC hR  h) trivial
        · replace h := h.2 c
          refine zv_iload hC dX7_canDissolve_80 rfl ?_
          refine zv_if_ne (tgt := 89) hC dX7_canDissolve_82 (by decide) (fun c => ?_) (fun c => ?_)
          · replace h := h.1 c
            exact zv_go (k_X7_canDissolve_89 hC hR  h) trivial
          · replace h := h.2 c
            refine zv_iconst (v := 1) hC dX7_canDissolve_85 (by decide) ?_
            refine zv_goto (tgt := 90) hC dX7_canDissolve_86 (by decide) ?_
            exact zv_go (k_X7_canDissolve_90 hC hR  h) trivial
      · replace h := h.2 c
        refine zv_iload_n hC dX7_canDissolve_45 rfl ?_
        refine zv_iconst (v := 1) hC dX7_canDissolve_46 (by decide) ?_
        refine zv_icmp_gt (tgt := 73) hC dX7_canDissolve_47 (by decide) (fun c => ?_) (fun c => ?_)
        · replace h := h.1 c
          exact zv_go (k_X7_canDissolve_73 hC hR  h) trivial
        · replace h := h.2 c
          refine zv_iload hC dX7_canDissolve_50 rfl ?_
          refine zv_iconst (v := 1) hC dX7_canDissolve_52 (by decide) ?_
          refine zv_icmp_gt (tgt := 73) hC dX7_canDissolve_53 (by decide) (fun c => ?_) (fun c => ?_)
          · replace h := h.1 c
            exact zv_go (k_X7_canDissolve_73 hC hR  h) trivial
          · replace h := h.2 c
            refine zv_iload hC dX7_canDissolve_56 rfl ?_
            refine zv_aload_n hC dX7_canDissolve_58 rfl ?_
            refine zv_getR (j := 5) hC fl_X7_30 dX7_canDissolve_59 rfl rfl ?_
            refine zv_iload_n hC dX7_canDissolve_62 rfl ?_
            refine zv_callVi (As := [_]) hC dX7_canDissolve_63 Y_X5_size lk_X7_55 (by decide) rfl rfl rfl (Nat.le_of_ble_eq_true rfl) (ok_X5_size G h) ?_
            intro r_8 σ_7 h
            refine zv_icmp_ne (tgt := 73) hC dX7_canDissolve_66 (by decide) (fun c => ?_) (fun c => ?_)
            · replace h := h.1 c
              exact zv_go (k_X7_canDissolve_73 hC hR  h) trivial
            · replace h := h.2 c
              refine zv_iconst (v := 1) hC dX7_canDissolve_69 (by decide) ?_
              refine zv_goto (tgt := 74) hC dX7_canDissolve_70 (by decide) ?_
              exact zv_go (k_X7_canDissolve_74 hC hR  h) trivial
    · replace h := h.2 c
      exact zv_go (k_X7_canDissolve_17 hC hR  h) trivial
theorem ok_X7_canDissolve (G : zv_G) {Q : Int32 → zv_St → Prop} {x1 : Int32} {x2 : Int32} {x3 : Int32} {σ : zv_St} (h : B_X7_canDissolve Q x1 x2 x3 σ) : zv_OK G M_X7_canDissolve yX7_canDissolve [.ref (G.2.2.1 39), .int x1, .int x2, .int x3] σ (zv_qi Q) := zv_ok G _ _ _ _ _ (by decide +kernel) rfl (Nat.le_of_ble_eq_true rfl) (fun X hC hR => zv_go (k_X7_canDissolve_0 hC hR h) ⟨rfl, rfl, rfl, rfl, trivial⟩)
