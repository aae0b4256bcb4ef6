-- X6_isRepeat
def B_X6_isRepeat_78 (Q : Int32 → zv_St → Prop) (y0 : Int32) (σ : zv_St) : Prop :=
  narrow .boolean (.int y0) = .int y0 ∧ Q y0 σ
set_option maxRecDepth 20000 in
set_option maxHeartbeats 2000000 in
theorem k_X6_isRepeat_78 {G : zv_G} {X : zv_X} {Q : Int32 → zv_St → Prop}  (hC : zv_C G X M_X6_isRepeat) (hR : zv_R G X M_X6_isRepeat (zv_qi Q))  {y0 : Int32} {σ : zv_St} (h : B_X6_isRepeat_78 Q  y0 σ) : zv_V G X M_X6_isRepeat 78 [] [.int y0] σ := by
  unfold B_X6_isRepeat_78 at h
  exact (hR _ _ _).2.1 _ rfl h.1 dX6_isRepeat_78 ⟨_, rfl, h.2⟩
def B_X6_isRepeat_77 (Q : Int32 → zv_St → Prop) (σ : zv_St) : Prop :=
  B_X6_isRepeat_78 Q 0 σ
set_option maxRecDepth 20000 in
set_option maxHeartbeats 2000000 in
theorem k_X6_isRepeat_77 {G : zv_G} {X : zv_X} {Q : Int32 → zv_St → Prop}  (hC : zv_C G X M_X6_isRepeat) (hR : zv_R G X M_X6_isRepeat (zv_qi Q))   {σ : zv_St} (h : B_X6_isRepeat_77 Q   σ) : zv_V G X M_X6_isRepeat 77 [] [] σ := by
  unfold B_X6_isRepeat_77 at h
  refine zv_iconst (v := 0) hC dX6_isRepeat_77 (by decide) ?_
  exact zv_go (k_X6_isRepeat_78 hC hR  h) trivial
def B_X6_isRepeat_52 (Q : Int32 → zv_St → Prop) (y0 : Int32) (σ : zv_St) : Prop :=
  narrow .boolean (.int y0) = .int y0 ∧ Q y0 σ
set_option maxRecDepth 20000 in
set_option maxHeartbeats 2000000 in
theorem k_X6_isRepeat_52 {G : zv_G} {X : zv_X} {Q : Int32 → zv_St → Prop}  (hC : zv_C G X M_X6_isRepeat) (hR : zv_R G X M_X6_isRepeat (zv_qi Q))  {y0 : Int32} {σ : zv_St} (h : B_X6_isRepeat_52 Q  y0 σ) : zv_V G X M_X6_isRepeat 52 [] [.int y0] σ := by
  unfold B_X6_isRepeat_52 at h
  exact (hR _ _ _).2.1 _ rfl h.1 dX6_isRepeat_52 ⟨_, rfl, h.2⟩
def B_X6_isRepeat_47 (Q : Int32 → zv_St → Prop) (σ : zv_St) : Prop :=
  B_X6_isRepeat_52 Q 1 σ
set_option maxRecDepth 20000 in
set_option maxHeartbeats 2000000 in
theorem k_X6_isRepeat_47 {G : zv_G} {X : zv_X} {Q : Int32 → zv_St → Prop}  (hC : zv_C G X M_X6_isRepeat) (hR : zv_R G X M_X6_isRepeat (zv_qi Q))   {σ : zv_St} (h : B_X6_isRepeat_47 Q   σ) : zv_V G X M_X6_isRepeat 47 [] [] σ := by
  unfold B_X6_isRepeat_47 at h
  refine zv_iconst (v := 1) hC dX6_isRepeat_47 (by decide) ?_
  refine zv_goto (tgt := 52) hC dX6_isRepeat_48 (by decide) ?_
  exact zv_go (k_X6_isRepeat_52 hC hR  h) trivial
def B_X6_isRepeat (Q : Int32 → zv_St → Prop) (x1 : Int32) (x2 : Int32) (σ : zv_St) : Prop :=
  vp_in x1 8 ∧ ∀ v_1 : Int32, v_1 = (σ.1 44 x1.toNatClampNeg) → vp_in x1 8 ∧ (¬ (σ.1 43 x1.toNatClampNeg) = 1 → (vp_in x1 8 ∧ (¬ (σ.1 43 x1.toNatClampNeg) = 2 → (B_X6_isRepeat_77 Q σ)) ∧ ((σ.1 43 x1.toNatClampNeg) = 2 → (B_X6_hasAhead (fun r_3 σ_2 => (r_3 = 0 → (B_X6_isRepeat_77 Q σ_2)) ∧ (¬ r_3 = 0 → (B_X6_isRepeat_78 Q 1 σ_2))) x2 2 v_1 σ)))) ∧ ((σ.1 43 x1.toNatClampNeg) = 1 → (B_X6_hasAhead (fun r_5 σ_4 => (¬ r_5 = 0 → (B_X6_isRepeat_47 Q σ_4)) ∧ (r_5 = 0 → (B_X6_hasAhead (fun r_7 σ_6 => (¬ r_7 = 0 → (B_X6_isRepeat_47 Q σ_6)) ∧ (r_7 = 0 → (B_X6_hasBehind (fun r_9 σ_8 => (r_9 = 0 → (B_X6_isRepeat_52 Q 0 σ_8)) ∧ (¬ r_9 = 0 → (B_X6_isRepeat_47 Q σ_8))) x1 0 v_1 σ_6))) x2 0 v_1 σ_4))) x2 1 v_1 σ))
set_option maxRecDepth 20000 in
set_option maxHeartbeats 2000000 in
theorem k_X6_isRepeat_0 {G : zv_G} {X : zv_X} {Q : Int32 → zv_St → Prop}  (hC : zv_C G X M_X6_isRepeat) (hR : zv_R G X M_X6_isRepeat (zv_qi Q))  {x1 : Int32} {x2 : Int32} {σ : zv_St} (h : B_X6_isRepeat Q  x1 x2 σ) : zv_V G X M_X6_isRepeat 0 [(0, .ref (G.2.2.1 42)), (1, .int x1), (2, .int x2)] [] σ := by
  unfold B_X6_isRepeat at h
  refine zv_aload_n hC dX6_isRepeat_0 rfl ?_
  refine zv_getR (j := 44) hC fl_X6_15 dX6_isRepeat_1 rfl rfl ?_
  refine zv_iload_n hC dX6_isRepeat_4 rfl ?_
  refine zv_iald hC dX6_isRepeat_5 rfl h.1 ?_
  replace h := h.2
  replace h := h _ rfl
  refine zv_istore_n hC dX6_isRepeat_6 (by decide) ?_
  refine zv_aload_n hC dX6_isRepeat_7 rfl ?_
  refine zv_getR (j := 43) hC fl_X6_9 dX6_isRepeat_8 rfl rfl ?_
  refine zv_iload_n hC dX6_isRepeat_11 rfl ?_
  refine zv_iald hC dX6_isRepeat_12 rfl h.1 ?_
  replace h := h.2
  refine zv_iconst (v := 1) hC dX6_isRepeat_13 (by decide) ?_
  refine zv_icmp_ne (tgt := 53) hC dX6_isRepeat_14 (by decide) (fun c => ?_) (fun c => ?_)
  · replace h := h.1 c
    refine zv_aload_n hC dX6_isRepeat_53 rfl ?_
    refine zv_getR (j := 43) hC fl_X6_9 dX6_isRepeat_54 rfl rfl ?_
    refine zv_iload_n hC dX6_isRepeat_57 rfl ?_
    refine zv_iald hC dX6_isRepeat_58 rfl h.1 ?_
    replace h := h.2
    refine zv_iconst (v := 2) hC dX6_isRepeat_59 (by decide) ?_
    refine zv_icmp_ne (tgt := 77) hC dX6_isRepeat_60 (by decide) (fun c => ?_) (fun c => ?_)
    · replace h := h.1 c
      exact zv_go (k_X6_isRepeat_77 hC hR  h) trivial
    · replace h := h.2 c
      refine zv_aload_n hC dX6_isRepeat_63 rfl ?_
      refine zv_iload_n hC dX6_isRepeat_64 rfl ?_
      refine zv_iconst (v := 2) hC dX6_isRepeat_65 (by decide) ?_
      refine zv_iload_n hC dX6_isRepeat_66 rfl ?_
      refine zv_callVi (As := [_, _, _]) hC dX6_isRepeat_67 Y_X6_hasAhead lk_X6_22 (by decide) rfl rfl rfl (Nat.le_of_ble_eq_true rfl) (ok_X6_hasAhead G h) ?_
      intro r_3 σ_2 h
      refine zv_if_eq (tgt := 77) hC dX6_isRepeat_70 (by decide) (fun c => ?_) (fun c => ?_)
      · replace h := h.1 c
        exact zv_go (k_X6_isRepeat_77 hC hR  h) trivial
      · replace h := h.2 c
        refine zv_iconst (v := 1) hC dX6_isRepeat_73 (by decide) ?_
        refine zv_goto (tgt := 78) hC dX6_isRepeat_74 (by decide) ?_
        exact zv_go (k_X6_isRepeat_78 hC hR  h) trivial
  · replace h := h.2 c
    refine zv_aload_n hC dX6_isRepeat_17 rfl ?_
    refine zv_iload_n hC dX6_isRepeat_18 rfl ?_
    refine zv_iconst (v := 1) hC dX6_isRepeat_19 (by decide) ?_
    refine zv_iload_n hC dX6_isRepeat_20 rfl ?_
    refine zv_callVi (As := [_, _, _]) hC dX6_isRepeat_21 Y_X6_hasAhead lk_X6_22 (by decide) rfl rfl rfl (Nat.le_of_ble_eq_true rfl) (ok_X6_hasAhead G h) ?_
    intro r_5 σ_4 h
    refine zv_if_ne (tgt := 47) hC dX6_isRepeat_24 (by decide) (fun c => ?_) (fun c => ?_)
    · replace h := h.1 c
      exact zv_go (k_X6_isRepeat_47 hC hR  h) trivial
    · replace h := h.2 c
      refine zv_aload_n hC dX6_isRepeat_27 rfl ?_
      refine zv_iload_n hC dX6_isRepeat_28 rfl ?_
      refine zv_iconst (v := 0) hC dX6_isRepeat_29 (by decide) ?_
      refine zv_iload_n hC dX6_isRepeat_30 rfl ?_
      refine zv_callVi (As := [_, _, _]) hC dX6_isRepeat_31 Y_X6_hasAhead lk_X6_22 (by decide) rfl rfl rfl (Nat.le_of_ble_eq_true rfl) (ok_X6_hasAhead G h) ?_
      intro r_7 σ_6 h
      refine zv_if_ne (tgt := 47) hC dX6_isRepeat_34 (by decide) (fun c => ?_) (fun c => ?_)
      · replace h := h.1 c
        exact zv_go (k_X6_isRepeat_47 hC hR  h) trivial
      · replace h := h.2 c
        refine zv_aload_n hC dX6_isRepeat_37 rfl ?_
        refine zv_iload_n hC dX6_isRepeat_38 rfl ?_
        refine zv_iconst (v := 0) hC dX6_isRepeat_39 (by decide) ?_
        refine zv_iload_n hC dX6_isRepeat_40 rfl ?_
        refine zv_callVi (As := [_, _, _]) hC dX6_isRepeat_41 Y_X6_hasBehind lk_X6_30 (by decide) rfl rfl rfl (Nat.le_of_ble_eq_true rfl) (ok_X6_hasBehind G h) ?_
        intro r_9 σ_8 h
        refine zv_if_eq (tgt := 51) hC dX6_isRepeat_44 (by decide) (fun c => ?_) (fun c => ?_)
        · replace h := h.1 c
          refine zv_iconst (v := 0) hC dX6_isRepeat_51 (by decide) ?_
          exact zv_go (k_X6_isRepeat_52 hC hR  h) trivial
        · replace h := h.2 c
          exact zv_go (k_X6_isRepeat_47 hC hR  h) trivial
theorem ok_X6_isRepeat (G : zv_G) {Q : Int32 → zv_St → Prop} {x1 : Int32} {x2 : Int32} {σ : zv_St} (h : B_X6_isRepeat Q x1 x2 σ) : zv_OK G M_X6_isRepeat yX6_isRepeat [.ref (G.2.2.1 42), .int x1, .int x2] σ (zv_qi Q) := zv_ok G _ _ _ _ _ (by decide +kernel) rfl (Nat.le_of_ble_eq_true rfl) (fun X hC hR => zv_go (k_X6_isRepeat_0 hC hR h) ⟨rfl, rfl, rfl, trivial⟩)
-- X6_leaveOutRepeats
def B_X6_leaveOutRepeats_48 (Q : zv_St → Prop) (kk4 : Int32 → Int32 → zv_St → Prop) (x1 : Int32) (x2 : Int32) (σ : zv_St) : Prop :=
  kk4 x1 (x2 + 1) σ
set_option maxRecDepth 20000 in
set_option maxHeartbeats 2000000 in
theorem k_X6_leaveOutRepeats_48 {G : zv_G} {X : zv_X} {Q : zv_St → Prop} {kk4 : Int32 → Int32 → zv_St → Prop} (hC : zv_C G X M_X6_leaveOutRepeats) (hR : zv_R G X M_X6_leaveOutRepeats (zv_qv Q)) (hk4 : ∀ (x1 : Int32) (x2 : Int32) (σ : zv_St), kk4 x1 x2 σ → zv_V G X M_X6_leaveOutRepeats 4 [(0, .ref (G.2.2.1 42)), (1, .int x1), (2, .int x2)] [] σ) {x1 : Int32} {x2 : Int32} {σ : zv_St} (h : B_X6_leaveOutRepeats_48 Q kk4 x1 x2 σ) : zv_V G X M_X6_leaveOutRepeats 48 [(0, .ref (G.2.2.1 42)), (1, .int x1), (2, .int x2)] [] σ := by
  unfold B_X6_leaveOutRepeats_48 at h
  refine zv_iinc (v := 1) hC dX6_leaveOutRepeats_48 rfl (by decide) (by decide) ?_
  refine zv_goto (tgt := 4) hC dX6_leaveOutRepeats_51 (by decide) ?_
  exact zv_go (hk4 _ _ _ h) ⟨rfl, rfl, rfl, trivial⟩
def L_X6_leaveOutRepeats_4 (Q : zv_St → Prop) : Nat → (Int32 → Int32 → zv_St → Prop)
  | 0 => fun _ _ _ => False
  | u + 1 => fun x1 x2 σ => 
    ((σ.1 42 2) ≤ x2 → (∀ σ_1 : zv_St, σ_1 = zv_wi σ 42 2 x1 → Q σ_1)) ∧ (¬ (σ.1 42 2) ≤ x2 → (B_X6_isRepeat (fun r_3 σ_2 => (¬ r_3 = 0 → (B_X6_leaveOutRepeats_48 Q (L_X6_leaveOutRepeats_4 Q u) x1 x2 σ_2)) ∧ (r_3 = 0 → (vp_in x2 8 ∧ vp_in x1 8 ∧ ∀ σ_4 : zv_St, σ_4 = zv_wi σ_2 43 x1.toNatClampNeg (σ_2.1 43 x2.toNatClampNeg) → vp_in x2 8 ∧ vp_in x1 8 ∧ ∀ σ_5 : zv_St, σ_5 = zv_wi σ_4 44 x1.toNatClampNeg (σ_4.1 44 x2.toNatClampNeg) → B_X6_leaveOutRepeats_48 Q (L_X6_leaveOutRepeats_4 Q u) (x1 + 1) x2 σ_5))) x2 x1 σ))
set_option maxRecDepth 20000 in
set_option maxHeartbeats 2000000 in
theorem kL_X6_leaveOutRepeats_4 {G : zv_G} {X : zv_X} {Q : zv_St → Prop}  (hC : zv_C G X M_X6_leaveOutRepeats) (hR : zv_R G X M_X6_leaveOutRepeats (zv_qv Q))  : ∀ (n : Nat) (x1 : Int32) (x2 : Int32) (σ : zv_St), L_X6_leaveOutRepeats_4 Q  n x1 x2 σ → zv_V G X M_X6_leaveOutRepeats 4 [(0, .ref (G.2.2.1 42)), (1, .int x1), (2, .int x2)] [] σ := by
  intro n
  induction n with
  | zero => intro x1 x2 σ h; exact h.elim
  | succ n hk4 =>
    intro x1 x2 σ h
    unfold L_X6_leaveOutRepeats_4 at h
    refine zv_iload_n hC dX6_leaveOutRepeats_4 rfl ?_
    refine zv_aload_n hC dX6_leaveOutRepeats_5 rfl ?_
    refine zv_getI hC fl_X6_18 dX6_leaveOutRepeats_6 rfl rfl ?_
    refine zv_icmp_ge (tgt := 54) hC dX6_leaveOutRepeats_9 (by decide) (fun c => ?_) (fun c => ?_)
    · replace h := h.1 c
      refine zv_aload_n hC dX6_leaveOutRepeats_54 rfl ?_
      refine zv_iload_n hC dX6_leaveOutRepeats_55 rfl ?_
      refine zv_putI hC fp_X6_18 dX6_leaveOutRepeats_56 rfl rfl rfl rfl ?_
      replace h := h _ rfl
      exact (hR _ _ _).2.2.2.1 rfl dX6_leaveOutRepeats_59 ⟨rfl, h⟩
    · replace h := h.2 c
      refine zv_aload_n hC dX6_leaveOutRepeats_12 rfl ?_
      refine zv_iload_n hC dX6_leaveOutRepeats_13 rfl ?_
      refine zv_iload_n hC dX6_leaveOutRepeats_14 rfl ?_
      refine zv_callVi (As := [_, _]) hC dX6_leaveOutRepeats_15 Y_X6_isRepeat lk_X6_26 (by decide) rfl rfl rfl (Nat.le_of_ble_eq_true rfl) (ok_X6_isRepeat G h) ?_
      intro r_3 σ_2 h
      refine zv_if_ne (tgt := 48) hC dX6_leaveOutRepeats_18 (by decide) (fun c => ?_) (fun c => ?_)
      · replace h := h.1 c
        exact zv_go (k_X6_leaveOutRepeats_48 hC hR hk4 h) ⟨rfl, rfl, rfl, trivial⟩
      · replace h := h.2 c
        refine zv_aload_n hC dX6_leaveOutRepeats_21 rfl ?_
        refine zv_getR (j := 43) hC fl_X6_9 dX6_leaveOutRepeats_22 rfl rfl ?_
        refine zv_iload_n hC dX6_leaveOutRepeats_25 rfl ?_
        refine zv_aload_n hC dX6_leaveOutRepeats_26 rfl ?_
        refine zv_getR (j := 43) hC fl_X6_9 dX6_leaveOutRepeats_27 rfl rfl ?_
        refine zv_iload_n hC dX6_leaveOutRepeats_30 rfl ?_
        refine zv_iald hC dX6_leaveOutRepeats_31 rfl h.1 ?_
        replace h := h.2
        refine zv_iast hC dX6_leaveOutRepeats_32 rfl h.1 ?_
        replace h := h.2 _ rfl
        refine zv_aload_n hC dX6_leaveOutRepeats_33 rfl ?_
        refine zv_getR (j := 44) hC fl_X6_15 dX6_leaveOutRepeats_34 rfl rfl ?_
        refine zv_iload_n hC dX6_leaveOutRepeats_37 rfl ?_
        refine zv_aload_n hC dX6_leaveOutRepeats_38 rfl ?_
        refine zv_getR (j := 44) hC fl_X6_15 dX6_leaveOutRepeats_39 rfl rfl ?_
        refine zv_iload_n hC dX6_leaveOutRepeats_42 rfl ?_
        refine zv_iald hC dX6_leaveOutRepeats_43 rfl h.1 ?_
        replace h := h.2
        refine zv_iast hC dX6_leaveOutRepeats_44 rfl h.1 ?_
        replace h := h.2 _ rfl
        refine zv_iinc (v := 1) hC dX6_leaveOutRepeats_45 rfl (by decide) (by decide) ?_
        exact zv_go (k_X6_leaveOutRepeats_48 hC hR hk4 h) ⟨rfl, rfl, rfl, trivial⟩
def B_X6_leaveOutRepeats (Q : zv_St → Prop) (σ : zv_St) : Prop :=
  ∃ n4, L_X6_leaveOutRepeats_4 Q n4 0 0 σ
set_option maxRecDepth 20000 in
set_option maxHeartbeats 2000000 in
theorem k_X6_leaveOutRepeats_0 {G : zv_G} {X : zv_X} {Q : zv_St → Prop}  (hC : zv_C G X M_X6_leaveOutRepeats) (hR : zv_R G X M_X6_leaveOutRepeats (zv_qv Q))   {σ : zv_St} (h : B_X6_leaveOutRepeats Q   σ) : zv_V G X M_X6_leaveOutRepeats 0 [(0, .ref (G.2.2.1 42))] [] σ := by
  unfold B_X6_leaveOutRepeats at h
  refine zv_iconst (v := 0) hC dX6_leaveOutRepeats_0 (by decide) ?_
  refine zv_istore_n hC dX6_leaveOutRepeats_1 (by decide) ?_
  refine zv_iconst (v := 0) hC dX6_leaveOutRepeats_2 (by decide) ?_
  refine zv_istore_n hC dX6_leaveOutRepeats_3 (by decide) ?_
  obtain ⟨n, h⟩ := h
  exact zv_go (kL_X6_leaveOutRepeats_4 hC hR  n _ _ _ h) ⟨rfl, rfl, rfl, trivial⟩
theorem ok_X6_leaveOutRepeats (G : zv_G) {Q : zv_St → Prop}  {σ : zv_St} (h : B_X6_leaveOutRepeats Q  σ) : zv_OK G M_X6_leaveOutRepeats yX6_leaveOutRepeats [.ref (G.2.2.1 42)] σ (zv_qv Q) := zv_ok G _ _ _ _ _ (by decide +kernel) rfl (Nat.le_of_ble_eq_true rfl) (fun X hC hR => zv_go (k_X6_leaveOutRepeats_0 hC hR h) ⟨rfl, trivial⟩)
-- X7_boolOfRow
def B_X7_boolOfRow_120 (Q : Int32 → zv_St → Prop) (x2 : Int32) (σ : zv_St) : Prop :=
  B_X7_thatIsSoWithRow (fun r_2 σ_1 => Q r_2 σ_1) 2 x2 σ
set_option maxRecDepth 20000 in
set_option maxHeartbeats 2000000 in
theorem k_X7_boolOfRow_120 {G : zv_G} {X : zv_X} {Q : Int32 → zv_St → Prop}  (hC : zv_C G X M_X7_boolOfRow) (hR : zv_R G X M_X7_boolOfRow (zv_qi Q))  {x2 : Int32} {σ : zv_St} (h : B_X7_boolOfRow_120 Q  x2 σ) : zv_V G X M_X7_boolOfRow 120 [(0, .ref (G.2.2.1 39)), (2, .int x2)] [] σ := by
  unfold B_X7_boolOfRow_120 at h
  refine zv_aload_n hC dX7_boolOfRow_120 rfl ?_
  refine zv_iconst (v := 2) hC dX7_boolOfRow_121 (by decide) ?_
  refine zv_iload_n hC dX7_boolOfRow_122 rfl ?_
  refine zv_callVi (As := [_, _]) hC dX7_boolOfRow_123 Y_X7_thatIsSoWithRow lk_X7_98 (by decide) rfl rfl rfl (Nat.le_of_ble_eq_true rfl) (ok_X7_thatIsSoWithRow G h) ?_
  intro r_2 σ_1 h
  exact (hR _ _ _).1 _ rfl dX7_boolOfRow_126 ⟨_, rfl, h⟩
def B_X7_boolOfRow_70 (Q : Int32 → zv_St → Prop) (x2 : Int32) (σ : zv_St) : Prop :=
  B_X6_contradictsItself (fun r_2 σ_1 => (r_2 = 0 → (B_X6_leaveOutRepeats (fun σ_3 => B_X6_size (fun r_5 σ_4 => (¬ r_5 = 1 → (B_X7_boolOfRow_120 Q x2 σ_4)) ∧ (r_5 = 1 → (B_X6_roleAt (fun r_7 σ_6 => (¬ r_7 = 0 → (B_X7_boolOfRow_120 Q x2 σ_6)) ∧ (r_7 = 0 → (B_X6_partAt (fun r_9 σ_8 => Q r_9 σ_8) 0 σ_6))) 0 σ_4))) σ_3) σ_1)) ∧ (¬ r_2 = 0 → (Q (-1) σ_1))) σ
set_option maxRecDepth 20000 in
set_option maxHeartbeats 2000000 in
theorem k_X7_boolOfRow_70 {G : zv_G} {X : zv_X} {Q : Int32 → zv_St → Prop}  (hC : zv_C G X M_X7_boolOfRow) (hR : zv_R G X M_X7_boolOfRow (zv_qi Q))  {x2 : Int32} {σ : zv_St} (h : B_X7_boolOfRow_70 Q  x2 σ) : zv_V G X M_X7_boolOfRow 70 [(0, .ref (G.2.2.1 39)), (2, .int x2)] [] σ := by
  unfold B_X7_boolOfRow_70 at h
  refine zv_aload_n hC dX7_boolOfRow_70 rfl ?_
  refine zv_getR (j := 42) hC fl_X7_22 dX7_boolOfRow_71 rfl rfl ?_
  refine zv_callVi (As := []) hC dX7_boolOfRow_74 Y_X6_contradictsItself lk_X7_127 (by decide) rfl rfl rfl (Nat.le_of_ble_eq_true rfl) (ok_X6_contradictsItself G h) ?_
  intro r_2 σ_1 h
  refine zv_if_eq (tgt := 82) hC dX7_boolOfRow_77 (by decide) (fun c => ?_) (fun c => ?_)
  · replace h := h.1 c
    refine zv_aload_n hC dX7_boolOfRow_82 rfl ?_
    refine zv_getR (j := 42) hC fl_X7_22 dX7_boolOfRow_83 rfl rfl ?_
    refine zv_callVv (As := []) hC dX7_boolOfRow_86 Y_X6_leaveOutRepeats lk_X7_131 (by decide) rfl rfl rfl (Nat.le_of_ble_eq_true rfl) (ok_X6_leaveOutRepeats G h) ?_
    intro σ_3 h
    refine zv_aload_n hC dX7_boolOfRow_89 rfl ?_
    refine zv_getR (j := 42) hC fl_X7_22 dX7_boolOfRow_90 rfl rfl ?_
    refine zv_callVi (As := []) hC dX7_boolOfRow_93 Y_X6_size lk_X7_94 (by decide) rfl rfl rfl (Nat.le_of_ble_eq_true rfl) (ok_X6_size G h) ?_
    intro r_5 σ_4 h
    refine zv_iconst (v := 1) hC dX7_boolOfRow_96 (by decide) ?_
    refine zv_icmp_ne (tgt := 120) hC dX7_boolOfRow_97 (by decide) (fun c => ?_) (fun c => ?_)
    · replace h := h.1 c
      exact zv_go (k_X7_boolOfRow_120 hC hR  h) ⟨rfl, rfl, trivial⟩
    · replace h := h.2 c
      refine zv_aload_n hC dX7_boolOfRow_100 rfl ?_
      refine zv_getR (j := 42) hC fl_X7_22 dX7_boolOfRow_101 rfl rfl ?_
      refine zv_iconst (v := 0) hC dX7_boolOfRow_104 (by decide) ?_
      refine zv_callVi (As := [_]) hC dX7_boolOfRow_105 Y_X6_roleAt lk_X7_134 (by decide) rfl rfl rfl (Nat.le_of_ble_eq_true rfl) (ok_X6_roleAt G h) ?_
      intro r_7 σ_6 h
      refine zv_if_ne (tgt := 120) hC dX7_boolOfRow_108 (by decide) (fun c => ?_) (fun c => ?_)
      · replace h := h.1 c
        exact zv_go (k_X7_boolOfRow_120 hC hR  h) ⟨rfl, rfl, trivial⟩
      · replace h := h.2 c
        refine zv_aload_n hC dX7_boolOfRow_111 rfl ?_
        refine zv_getR (j := 42) hC fl_X7_22 dX7_boolOfRow_112 rfl rfl ?_
        refine zv_iconst (v := 0) hC dX7_boolOfRow_115 (by decide) ?_
        refine zv_callVi (As := [_]) hC dX7_boolOfRow_116 Y_X6_partAt lk_X7_96 (by decide) rfl rfl rfl (Nat.le_of_ble_eq_true rfl) (ok_X6_partAt G h) ?_
        intro r_9 σ_8 h
        exact (hR _ _ _).1 _ rfl dX7_boolOfRow_119 ⟨_, rfl, h⟩
  · replace h := h.2 c
    refine zv_iconst (v := (-1)) hC dX7_boolOfRow_80 (by decide) ?_
    exact (hR _ _ _).1 _ rfl dX7_boolOfRow_81 ⟨_, rfl, h⟩
def B_X7_boolOfRow_52 (Q : Int32 → zv_St → Prop) (x2 : Int32) (x3 : Int32) (σ : zv_St) : Prop :=
  (x2 ≤ 0 → (B_X7_boolOfRow_70 Q x2 σ)) ∧ (¬ x2 ≤ 0 → ((¬ x2 = x3 → (B_X7_boolOfRow_70 Q x2 σ)) ∧ (x2 = x3 → (B_X6_makeShouldsMusts (fun σ_1 => B_X7_boolOfRow_70 Q 0 σ_1) σ))))
set_option maxRecDepth 20000 in
set_option maxHeartbeats 2000000 in
theorem k_X7_boolOfRow_52 {G : zv_G} {X : zv_X} {Q : Int32 → zv_St → Prop}  (hC : zv_C G X M_X7_boolOfRow) (hR : zv_R G X M_X7_boolOfRow (zv_qi Q))  {x2 : Int32} {x3 : Int32} {σ : zv_St} (h : B_X7_boolOfRow_52 Q  x2 x3 σ) : zv_V G X M_X7_boolOfRow 52 [(0, .ref (G.2.2.1 39)), (2, .int x2), (3, .int x3)] [] σ := by
  unfold B_X7_boolOfRow_52 at h
  refine zv_iload_n hC dX7_boolOfRow_52 rfl ?_
  refine zv_if_le (tgt := 70) hC dX7_boolOfRow_53 (by decide) (fun c => ?_) (fun c => ?_)
  · replace h := h.1 c
    exact zv_go (k_X7_boolOfRow_70 hC hR  h) ⟨rfl, rfl, trivial⟩
  · replace h := h.2 c
    refine zv_iload_n hC dX7_boolOfRow_56 rfl ?_
    refine zv_iload_n hC dX7_boolOfRow_57 rfl ?_
    refine zv_icmp_ne (tgt := 70) hC dX7_boolOfRow_58 (by decide) (fun c => ?_) (fun c => ?_)
    · replace h := h.1 c
      exact zv_go (k_X7_boolOfRow_70 hC hR  h) ⟨rfl, rfl, trivial⟩
    · replace h := h.2 c
      refine zv_aload_n hC dX7_boolOfRow_61 rfl ?_
      refine zv_getR (j := 42) hC fl_X7_22 dX7_boolOfRow_62 rfl rfl ?_
      refine zv_callVv (As := []) hC dX7_boolOfRow_65 Y_X6_makeShouldsMusts lk_X7_124 (by decide) rfl rfl rfl (Nat.le_of_ble_eq_true rfl) (ok_X6_makeShouldsMusts G h) ?_
      intro σ_1 h
      refine zv_iconst (v := 0) hC dX7_boolOfRow_68 (by decide) ?_
      refine zv_istore_n hC dX7_boolOfRow_69 (by decide) ?_
      exact zv_go (k_X7_boolOfRow_70 hC hR  h) ⟨rfl, rfl, trivial⟩
def B_X7_boolOfRow (Q : Int32 → zv_St → Prop) (x1 : Int32) (σ : zv_St) : Prop :=
  B_X6_countOf (fun r_2 σ_1 => (x1 ≤ r_2 → (B_X6_countOf (fun r_4 σ_3 => (¬ r_4 = 0 → (B_X7_boolOfRow_52 Q x1 r_2 σ_3)) ∧ (r_4 = 0 → (B_X6_countOf (fun r_6 σ_5 => (¬ r_6 = 0 → (B_X7_boolOfRow_52 Q x1 r_2 σ_5)) ∧ (r_6 = 0 → ((¬ r_2 = 0 → (B_J9_max_7cf53 (fun r_8 σ_7 => B_X7_boolOfRow_52 Q r_8 r_2 σ_7) x1 1 σ_5)) ∧ (r_2 = 0 → (Q (-1) σ_5))))) 1 σ_3))) 0 σ_1)) ∧ (¬ x1 ≤ r_2 → (Q (-1) σ_1))) 3 σ
set_option maxRecDepth 20000 in
set_option maxHeartbeats 2000000 in
theorem k_X7_boolOfRow_0 {G : zv_G} {X : zv_X} {Q : Int32 → zv_St → Prop}  (hC : zv_C G X M_X7_boolOfRow) (hR : zv_R G X M_X7_boolOfRow (zv_qi Q))  {x1 : Int32} {σ : zv_St} (h : B_X7_boolOfRow Q  x1 σ) : zv_V G X M_X7_boolOfRow 0 [(0, .ref (G.2.2.1 39)), (1, .int x1)] [] σ := by
  unfold B_X7_boolOfRow at h
  refine zv_iload_n hC dX7_boolOfRow_0 rfl ?_
  refine zv_istore_n hC dX7_boolOfRow_1 (by decide) ?_
  refine zv_aload_n hC dX7_boolOfRow_2 rfl ?_
  refine zv_getR (j := 42) hC fl_X7_22 dX7_boolOfRow_3 rfl rfl ?_
  refine zv_iconst (v := 3) hC dX7_boolOfRow_6 (by decide) ?_
  refine zv_callVi (As := [_]) hC dX7_boolOfRow_7 Y_X6_countOf lk_X7_117 (by decide) rfl rfl rfl (Nat.le_of_ble_eq_true rfl) (ok_X6_countOf G h) ?_
  intro r_2 σ_1 h
  refine zv_istore_n hC dX7_boolOfRow_10 (by decide) ?_
  refine zv_iload_n hC dX7_boolOfRow_11 rfl ?_
  refine zv_iload_n hC dX7_boolOfRow_12 rfl ?_
  refine zv_icmp_le (tgt := 18) hC dX7_boolOfRow_13 (by decide) (fun c => ?_) (fun c => ?_)
  · replace h := h.1 c
    refine zv_aload_n hC dX7_boolOfRow_18 rfl ?_
    refine zv_getR (j := 42) hC fl_X7_22 dX7_boolOfRow_19 rfl rfl ?_
    refine zv_iconst (v := 0) hC dX7_boolOfRow_22 (by decide) ?_
    refine zv_callVi (As := [_]) hC dX7_boolOfRow_23 Y_X6_countOf lk_X7_117 (by decide) rfl rfl rfl (Nat.le_of_ble_eq_true rfl) (ok_X6_countOf G h) ?_
    intro r_4 σ_3 h
    refine zv_if_ne (tgt := 52) hC dX7_boolOfRow_26 (by decide) (fun c => ?_) (fun c => ?_)
    · replace h := h.1 c
      exact zv_go (k_X7_boolOfRow_52 hC hR  h) ⟨rfl, rfl, rfl, trivial⟩
    · replace h := h.2 c
      refine zv_aload_n hC dX7_boolOfRow_29 rfl ?_
      refine zv_getR (j := 42) hC fl_X7_22 dX7_boolOfRow_30 rfl rfl ?_
      refine zv_iconst (v := 1) hC dX7_boolOfRow_33 (by decide) ?_
      refine zv_callVi (As := [_]) hC dX7_boolOfRow_34 Y_X6_countOf lk_X7_117 (by decide) rfl rfl rfl (Nat.le_of_ble_eq_true rfl) (ok_X6_countOf G h) ?_
      intro r_6 σ_5 h
      refine zv_if_ne (tgt := 52) hC dX7_boolOfRow_37 (by decide) (fun c => ?_) (fun c => ?_)
      · replace h := h.1 c
        exact zv_go (k_X7_boolOfRow_52 hC hR  h) ⟨rfl, rfl, rfl, trivial⟩
      · replace h := h.2 c
        refine zv_iload_n hC dX7_boolOfRow_40 rfl ?_
        refine zv_if_ne (tgt := 46) hC dX7_boolOfRow_41 (by decide) (fun c => ?_) (fun c => ?_)
        · replace h := h.1 c
          refine zv_iload_n hC dX7_boolOfRow_46 rfl ?_
          refine zv_iconst (v := 1) hC dX7_boolOfRow_47 (by decide) ?_
          refine zv_callSi (As := [_, _]) hC dX7_boolOfRow_48 Y_J9_max_7cf53 lk_X7_119 (by decide) rfl rfl (Nat.le_of_ble_eq_true rfl) (ok_J9_max_7cf53 G h) ?_
          intro r_8 σ_7 h
          refine zv_istore_n hC dX7_boolOfRow_51 (by decide) ?_
          exact zv_go (k_X7_boolOfRow_52 hC hR  h) ⟨rfl, rfl, rfl, trivial⟩
        · replace h := h.2 c
          refine zv_iconst (v := (-1)) hC dX7_boolOfRow_44 (by decide) ?_
          exact (hR _ _ _).1 _ rfl dX7_boolOfRow_45 ⟨_, rfl, h⟩
  · replace h := h.2 c
    refine zv_iconst (v := (-1)) hC dX7_boolOfRow_16 (by decide) ?_
    exact (hR _ _ _).1 _ rfl dX7_boolOfRow_17 ⟨_, rfl, h⟩
theorem ok_X7_boolOfRow (G : zv_G) {Q : Int32 → zv_St → Prop} {x1 : Int32} {σ : zv_St} (h : B_X7_boolOfRow Q x1 σ) : zv_OK G M_X7_boolOfRow yX7_boolOfRow [.ref (G.2.2.1 39), .int x1] σ (zv_qi Q) := zv_ok G _ _ _ _ _ (by decide +kernel) rfl (Nat.le_of_ble_eq_true rfl) (fun X hC hR => zv_go (k_X7_boolOfRow_0 hC hR h) ⟨rfl, rfl, trivial⟩)
-- X7_newOf
def B_X7_newOf_148 (Q : Int32 → zv_St → Prop) (x1 : Int32) (x2 : Int32) (σ : zv_St) : Prop :=
  B_X5_first (fun r_2 σ_1 => B_X5_second (fun r_4 σ_3 => B_X7_thatIsSo (fun r_6 σ_5 => Q r_6 σ_5) x2 r_2 r_4 σ_3) x1 σ_1) x1 σ
set_option maxRecDepth 20000 in
set_option maxHeartbeats 2000000 in
theorem k_X7_newOf_148 {G : zv_G} {X : zv_X} {Q : Int32 → zv_St → Prop}  (hC : zv_C G X M_X7_newOf) (hR : zv_R G X M_X7_newOf (zv_qi Q))  {x1 : Int32} {x2 : Int32} {σ : zv_St} (h : B_X7_newOf_148 Q  x1 x2 σ) : zv_V G X M_X7_newOf 148 [(0, .ref (G.2.2.1 39)), (1, .int x1), (2, .int x2)] [] σ := by
  unfold B_X7_newOf_148 at h
  refine zv_aload_n hC dX7_newOf_148 rfl ?_
  refine zv_iload_n hC dX7_newOf_149 rfl ?_
  refine zv_aload_n hC dX7_newOf_150 rfl ?_
  refine zv_getR (j := 5) hC fl_X7_30 dX7_newOf_151 rfl rfl ?_
  refine zv_iload_n hC dX7_newOf_154 rfl ?_
  refine zv_callVi (As := [_]) hC dX7_newOf_155 Y_X5_first lk_X7_65 (by decide) rfl rfl rfl (Nat.le_of_ble_eq_true rfl) (ok_X5_first G h) ?_
  intro r_2 σ_1 h
  refine zv_aload_n hC dX7_newOf_158 rfl ?_
  refine zv_getR (j := 5) hC fl_X7_30 dX7_newOf_159 rfl rfl ?_
  refine zv_iload_n hC dX7_newOf_162 rfl ?_
  refine zv_callVi (As := [_]) hC dX7_newOf_163 Y_X5_second lk_X7_81 (by decide) rfl rfl rfl (Nat.le_of_ble_eq_true rfl) (ok_X5_second G h) ?_
  intro r_4 σ_3 h
  refine zv_callVi (As := [_, _, _]) hC dX7_newOf_166 Y_X7_thatIsSo lk_X7_48 (by decide) rfl rfl rfl (Nat.le_of_ble_eq_true rfl) (ok_X7_thatIsSo G h) ?_
  intro r_6 σ_5 h
  exact (hR _ _ _).1 _ rfl dX7_newOf_169 ⟨_, rfl, h⟩
def B_X7_newOf_120 (Q : Int32 → zv_St → Prop) (x1 : Int32) (x2 : Int32) (σ : zv_St) : Prop :=
  B_X5_partAt (fun r_2 σ_1 => vp_in r_2 80 ∧ B_X5_second (fun r_4 σ_3 => B_X7_newOfOne (fun r_6 σ_5 => Q r_6 σ_5) x2 (σ_1.1 41 r_2.toNatClampNeg) r_4 σ_3) x1 σ_1) x1 0 σ
set_option maxRecDepth 20000 in
set_option maxHeartbeats 2000000 in
theorem k_X7_newOf_120 {G : zv_G} {X : zv_X} {Q : Int32 → zv_St → Prop}  (hC : zv_C G X M_X7_newOf) (hR : zv_R G X M_X7_newOf (zv_qi Q))  {x1 : Int32} {x2 : Int32} {σ : zv_St} (h : B_X7_newOf_120 Q  x1 x2 σ) : zv_V G X M_X7_newOf 120 [(0, .ref (G.2.2.1 39)), (1, .int x1), (2, .int x2)] [] σ := by
  unfold B_X7_newOf_120 at h
  refine zv_aload_n hC dX7_newOf_120 rfl ?_
  refine zv_iload_n hC dX7_newOf_121 rfl ?_
  refine zv_aload_n hC dX7_newOf_122 rfl ?_
  refine zv_getR (j := 41) hC fl_X7_15 dX7_newOf_123 rfl rfl ?_
  refine zv_aload_n hC dX7_newOf_126 rfl ?_
  refine zv_getR (j := 5) hC fl_X7_30 dX7_newOf_127 rfl rfl ?_
  refine zv_iload_n hC dX7_newOf_130 rfl ?_
  refine zv_iconst (v := 0) hC dX7_newOf_131 (by decide) ?_
  refine zv_callVi (As := [_, _]) hC dX7_newOf_132 Y_X5_partAt lk_X7_58 (by decide) rfl rfl rfl (Nat.le_of_ble_eq_true rfl) (ok_X5_partAt G h) ?_
  intro r_2 σ_1 h
  refine zv_iald hC dX7_newOf_135 rfl h.1 ?_
  replace h := h.2
  refine zv_aload_n hC dX7_newOf_136 rfl ?_
  refine zv_getR (j := 5) hC fl_X7_30 dX7_newOf_137 rfl rfl ?_
  refine zv_iload_n hC dX7_newOf_140 rfl ?_
  refine zv_callVi (As := [_]) hC dX7_newOf_141 Y_X5_second lk_X7_81 (by decide) rfl rfl rfl (Nat.le_of_ble_eq_true rfl) (ok_X5_second G h) ?_
  intro r_4 σ_3 h
  refine zv_callVi (As := [_, _, _]) hC dX7_newOf_144 Y_X7_newOfOne lk_X7_84 (by decide) rfl rfl rfl (Nat.le_of_ble_eq_true rfl) (ok_X7_newOfOne G h) ?_
  intro r_6 σ_5 h
  exact (hR _ _ _).1 _ rfl dX7_newOf_147 ⟨_, rfl, h⟩
def B_X7_newOf_113 (Q : Int32 → zv_St → Prop) (y0 : Int32) (σ : zv_St) : Prop :=
  Q y0 σ
set_option maxRecDepth 20000 in
set_option maxHeartbeats 2000000 in
theorem k_X7_newOf_113 {G : zv_G} {X : zv_X} {Q : Int32 → zv_St → Prop}  (hC : zv_C G X M_X7_newOf) (hR : zv_R G X M_X7_newOf (zv_qi Q))  {y0 : Int32} {σ : zv_St} (h : B_X7_newOf_113 Q  y0 σ) : zv_V G X M_X7_newOf 113 [] [.int y0] σ := by
  unfold B_X7_newOf_113 at h
  exact (hR _ _ _).1 _ rfl dX7_newOf_113 ⟨_, rfl, h⟩
def B_X7_newOf_88 (Q : Int32 → zv_St → Prop) (y0 : Int32) (σ : zv_St) : Prop :=
  Q y0 σ
set_option maxRecDepth 20000 in
set_option maxHeartbeats 2000000 in
theorem k_X7_newOf_88 {G : zv_G} {X : zv_X} {Q : Int32 → zv_St → Prop}  (hC : zv_C G X M_X7_newOf) (hR : zv_R G X M_X7_newOf (zv_qi Q))  {y0 : Int32} {σ : zv_St} (h : B_X7_newOf_88 Q  y0 σ) : zv_V G X M_X7_newOf 88 [] [.int y0] σ := by
  unfold B_X7_newOf_88 at h
  exact (hR _ _ _).1 _ rfl dX7_newOf_88 ⟨_, rfl, h⟩
def B_X7_newOf (Q : Int32 → zv_St → Prop) (x1 : Int32) (σ : zv_St) : Prop :=
  B_X5_kind (fun r_2 σ_1 => (r_2 = 0 → (B_X5_first (fun r_4 σ_3 => B_X3_size (fun r_6 σ_5 => (¬ r_6 = 0 → (B_X5_first (fun r_8 σ_7 => B_X7_thatIsSo (fun r_10 σ_9 => B_X7_newOf_88 Q r_10 σ_9) r_2 r_8 0 σ_7) x1 σ_5)) ∧ (r_6 = 0 → (B_X7_newOf_88 Q (-1) σ_5))) r_4 σ_3) x1 σ_1)) ∧ (r_2 = 1 → (B_X7_newOf_148 Q x1 r_2 σ_1)) ∧ (r_2 = 2 → (B_X7_gatherBool (fun r_12 σ_11 => (r_12 = 0 → (B_X7_newOf_113 Q (-1) σ_11)) ∧ (¬ r_12 = 0 → (B_X5_first (fun r_14 σ_13 => B_X7_boolOfRow (fun r_16 σ_15 => B_X7_newOf_113 Q r_16 σ_15) r_14 σ_13) x1 σ_11))) x1 σ_1)) ∧ (r_2 = 3 → (B_X7_newOfBest (fun r_18 σ_17 => Q r_18 σ_17) x1 σ_1)) ∧ (r_2 = 4 → (B_X7_newOf_120 Q x1 r_2 σ_1)) ∧ (r_2 = 5 → (B_X7_newOf_120 Q x1 r_2 σ_1)) ∧ (r_2 = 6 → (B_X7_newOf_120 Q x1 r_2 σ_1)) ∧ (Int32.toInt r_2 < 0 ∨ 6 < Int32.toInt r_2 → (B_X7_newOf_148 Q x1 r_2 σ_1))) x1 σ
set_option maxRecDepth 20000 in
set_option maxHeartbeats 2000000 in
theorem k_X7_newOf_0 {G : zv_G} {X : zv_X} {Q : Int32 → zv_St → Prop}  (hC : zv_C G X M_X7_newOf) (hR : zv_R G X M_X7_newOf (zv_qi Q))  {x1 : Int32} {σ : zv_St} (h : B_X7_newOf Q  x1 σ) : zv_V G X M_X7_newOf 0 [(0, .ref (G.2.2.1 39)), (1, .int x1)] [] σ := by
  unfold B_X7_newOf at h
  refine zv_aload_n hC dX7_newOf_0 rfl ?_
  refine zv_getR (j := 5) hC fl_X7_30 dX7_newOf_1 rfl rfl ?_
  refine zv_iload_n hC dX7_newOf_4 rfl ?_
  refine zv_callVi (As := [_]) hC dX7_newOf_5 Y_X5_kind lk_X7_62 (by decide) rfl rfl rfl (Nat.le_of_ble_eq_true rfl) (ok_X5_kind G h) ?_
  intro r_2 σ_1 h
  refine zv_istore_n hC dX7_newOf_8 (by decide) ?_
  refine zv_iload_n hC dX7_newOf_9 rfl ?_
  refine zv_swV (zv_sw_0_6) ?_
  rintro (c | c | c | c | c | c | c | c)
  · replace h := h.1 c
    refine zv_table (off := 42) (tgt := 52) hC dX7_newOf_10 (by rw [c]; decide) (by rw [c]; decide) (by rw [c]; rfl) (by decide) ?_
    refine zv_aload_n hC dX7_newOf_52 rfl ?_
    refine zv_getR (j := 1) hC fl_X7_26 dX7_newOf_53 rfl rfl ?_
    refine zv_aload_n hC dX7_newOf_56 rfl ?_
    refine zv_getR (j := 5) hC fl_X7_30 dX7_newOf_57 rfl rfl ?_
    refine zv_iload_n hC dX7_newOf_60 rfl ?_
    refine zv_callVi (As := [_]) hC dX7_newOf_61 Y_X5_first lk_X7_65 (by decide) rfl rfl rfl (Nat.le_of_ble_eq_true rfl) (ok_X5_first G h) ?_
    intro r_4 σ_3 h
    refine zv_callVi (As := [_]) hC dX7_newOf_64 Y_X3_size lk_X7_68 (by decide) rfl rfl rfl (Nat.le_of_ble_eq_true rfl) (ok_X3_size G h) ?_
    intro r_6 σ_5 h
    refine zv_if_ne (tgt := 74) hC dX7_newOf_67 (by decide) (fun c => ?_) (fun c => ?_)
    · replace h := h.1 c
      refine zv_aload_n hC dX7_newOf_74 rfl ?_
      refine zv_iload_n hC dX7_newOf_75 rfl ?_
      refine zv_aload_n hC dX7_newOf_76 rfl ?_
      refine zv_getR (j := 5) hC fl_X7_30 dX7_newOf_77 rfl rfl ?_
      refine zv_iload_n hC dX7_newOf_80 rfl ?_
      refine zv_callVi (As := [_]) hC dX7_newOf_81 Y_X5_first lk_X7_65 (by decide) rfl rfl rfl (Nat.le_of_ble_eq_true rfl) (ok_X5_first G h) ?_
      intro r_8 σ_7 h
      refine zv_iconst (v := 0) hC dX7_newOf_84 (by decide) ?_
      refine zv_callVi (As := [_, _, _]) hC dX7_newOf_85 Y_X7_thatIsSo lk_X7_48 (by decide) rfl rfl rfl (Nat.le_of_ble_eq_true rfl) (ok_X7_thatIsSo G h) ?_
      intro r_10 σ_9 h
      exact zv_go (k_X7_newOf_88 hC hR  h) trivial
    · replace h := h.2 c
      refine zv_iconst (v := (-1)) hC dX7_newOf_70 (by decide) ?_
      refine zv_goto (tgt := 88) hC dX7_newOf_71 (by decide) ?_
      exact zv_go (k_X7_newOf_88 hC hR  h) trivial
  · replace h := h.2.1 c
    refine zv_table (off := 138) (tgt := 148) hC dX7_newOf_10 (by rw [c]; decide) (by rw [c]; decide) (by rw [c]; rfl) (by decide) ?_
    exact zv_go (k_X7_newOf_148 hC hR  h) ⟨rfl, rfl, rfl, trivial⟩
  · replace h := h.2.2.1 c
    refine zv_table (off := 79) (tgt := 89) hC dX7_newOf_10 (by rw [c]; decide) (by rw [c]; decide) (by rw [c]; rfl) (by decide) ?_
    refine zv_aload_n hC dX7_newOf_89 rfl ?_
    refine zv_iload_n hC dX7_newOf_90 rfl ?_
    refine zv_callVi (As := [_]) hC dX7_newOf_91 Y_X7_gatherBool lk_X7_71 (by decide) rfl rfl rfl (Nat.le_of_ble_eq_true rfl) (ok_X7_gatherBool G h) ?_
    intro r_12 σ_11 h
    refine zv_if_eq (tgt := 112) hC dX7_newOf_94 (by decide) (fun c => ?_) (fun c => ?_)
    · replace h := h.1 c
      refine zv_iconst (v := (-1)) hC dX7_newOf_112 (by decide) ?_
      exact zv_go (k_X7_newOf_113 hC hR  h) trivial
    · replace h := h.2 c
      refine zv_aload_n hC dX7_newOf_97 rfl ?_
      refine zv_aload_n hC dX7_newOf_98 rfl ?_
      refine zv_getR (j := 5) hC fl_X7_30 dX7_newOf_99 rfl rfl ?_
      refine zv_iload_n hC dX7_newOf_102 rfl ?_
      refine zv_callVi (As := [_]) hC dX7_newOf_103 Y_X5_first lk_X7_65 (by decide) rfl rfl rfl (Nat.le_of_ble_eq_true rfl) (ok_X5_first G h) ?_
      intro r_14 σ_13 h
      refine zv_callVi (As := [_]) hC dX7_newOf_106 Y_X7_boolOfRow lk_X7_75 (by decide) rfl rfl rfl (Nat.le_of_ble_eq_true rfl) (ok_X7_boolOfRow G h) ?_
      intro r_16 σ_15 h
      refine zv_goto (tgt := 113) hC dX7_newOf_109 (by decide) ?_
      exact zv_go (k_X7_newOf_113 hC hR  h) trivial
  · replace h := h.2.2.2.1 c
    refine zv_table (off := 104) (tgt := 114) hC dX7_newOf_10 (by rw [c]; decide) (by rw [c]; decide) (by rw [c]; rfl) (by decide) ?_
    refine zv_aload_n hC dX7_newOf_114 rfl ?_
    refine zv_iload_n hC dX7_newOf_115 rfl ?_
    refine zv_callVi (As := [_]) hC dX7_newOf_116 Y_X7_newOfBest lk_X7_78 (by decide) rfl rfl rfl (Nat.le_of_ble_eq_true rfl) (ok_X7_newOfBest G h) ?_
    intro r_18 σ_17 h
    exact (hR _ _ _).1 _ rfl dX7_newOf_119 ⟨_, rfl, h⟩
  · replace h := h.2.2.2.2.1 c
    refine zv_table (off := 110) (tgt := 120) hC dX7_newOf_10 (by rw [c]; decide) (by rw [c]; decide) (by rw [c]; rfl) (by decide) ?_
    exact zv_go (k_X7_newOf_120 hC hR  h) ⟨rfl, rfl, rfl, trivial⟩
  · replace h := h.2.2.2.2.2.1 c
    refine zv_table (off := 110) (tgt := 120) hC dX7_newOf_10 (by rw [c]; decide) (by rw [c]; decide) (by rw [c]; rfl) (by decide) ?_
    exact zv_go (k_X7_newOf_120 hC hR  h) ⟨rfl, rfl, rfl, trivial⟩
  · replace h := h.2.2.2.2.2.2.1 c
    refine zv_table (off := 110) (tgt := 120) hC dX7_newOf_10 (by rw [c]; decide) (by rw [c]; decide) (by rw [c]; rfl) (by decide) ?_
    exact zv_go (k_X7_newOf_120 hC hR  h) ⟨rfl, rfl, rfl, trivial⟩
  · replace h := h.2.2.2.2.2.2.2 c
    refine zv_tableD (tgt := 148) hC dX7_newOf_10 c (by decide) ?_
    exact zv_go (k_X7_newOf_148 hC hR  h) ⟨rfl, rfl, rfl, trivial⟩
theorem ok_X7_newOf (G : zv_G) {Q : Int32 → zv_St → Prop} {x1 : Int32} {σ : zv_St} (h : B_X7_newOf Q x1 σ) : zv_OK G M_X7_newOf yX7_newOf [.ref (G.2.2.1 39), .int x1] σ (zv_qi Q) := zv_ok G _ _ _ _ _ (by decide +kernel) rfl (Nat.le_of_ble_eq_true rfl) (fun X hC hR => zv_go (k_X7_newOf_0 hC hR h) ⟨rfl, rfl, trivial⟩)
-- X5_shrinkTo
def B_X5_shrinkTo (Q : zv_St → Prop) (x1 : Int32) (σ : zv_St) : Prop :=
  ∀ σ_1 : zv_St, σ_1 = zv_wi σ 5 0 x1 → Q σ_1
set_option maxRecDepth 20000 in
set_option maxHeartbeats 2000000 in
theorem k_X5_shrinkTo_0 {G : zv_G} {X : zv_X} {Q : zv_St → Prop}  (hC : zv_C G X M_X5_shrinkTo) (hR : zv_R G X M_X5_shrinkTo (zv_qv Q))  {x1 : Int32} {σ : zv_St} (h : B_X5_shrinkTo Q  x1 σ) : zv_V G X M_X5_shrinkTo 0 [(0, .ref (G.2.2.1 5)), (1, .int x1)] [] σ := by
  unfold B_X5_shrinkTo at h
  refine zv_aload_n hC dX5_shrinkTo_0 rfl ?_
  refine zv_iload_n hC dX5_shrinkTo_1 rfl ?_
  refine zv_putI hC fp_X5_33 dX5_shrinkTo_2 rfl rfl rfl rfl ?_
  replace h := h _ rfl
  exact (hR _ _ _).2.2.2.1 rfl dX5_shrinkTo_5 ⟨rfl, h⟩
theorem ok_X5_shrinkTo (G : zv_G) {Q : zv_St → Prop} {x1 : Int32} {σ : zv_St} (h : B_X5_shrinkTo Q x1 σ) : zv_OK G M_X5_shrinkTo yX5_shrinkTo [.ref (G.2.2.1 5), .int x1] σ (zv_qv Q) := zv_ok G _ _ _ _ _ (by decide +kernel) rfl (Nat.le_of_ble_eq_true rfl) (fun X hC hR => zv_go (k_X5_shrinkTo_0 hC hR h) ⟨rfl, rfl, trivial⟩)
-- X7_writeAnew
def B_X7_writeAnew_81 (Q : Int32 → zv_St → Prop) (kk15 : Int32 → Int32 → Int32 → zv_St → Prop) (x1 : Int32) (x2 : Int32) (x3 : Int32) (σ : zv_St) : Prop :=
  kk15 x1 x2 (x3 + 1) σ
set_option maxRecDepth 20000 in
set_option maxHeartbeats 2000000 in
theorem k_X7_writeAnew_81 {G : zv_G} {X : zv_X} {Q : Int32 → zv_St → Prop} {kk15 : Int32 → Int32 → Int32 → zv_St → Prop} (hC : zv_C G X M_X7_writeAnew) (hR : zv_R G X M_X7_writeAnew (zv_qi Q)) (hk15 : ∀ (x1 : Int32) (x2 : Int32) (x3 : Int32) (σ : zv_St), kk15 x1 x2 x3 σ → zv_V G X M_X7_writeAnew 15 [(0, .ref (G.2.2.1 39)), (1, .int x1), (2, .int x2), (3, .int x3)] [] σ) {x1 : Int32} {x2 : Int32} {x3 : Int32} {σ : zv_St} (h : B_X7_writeAnew_81 Q kk15 x1 x2 x3 σ) : zv_V G X M_X7_writeAnew 81 [(0, .ref (G.2.2.1 39)), (1, .int x1), (2, .int x2), (3, .int x3)] [] σ := by
  unfold B_X7_writeAnew_81 at h
  refine zv_iinc (v := 1) hC dX7_writeAnew_81 rfl (by decide) (by decide) ?_
  refine zv_goto (tgt := 15) hC dX7_writeAnew_84 (by decide) ?_
  exact zv_go (hk15 _ _ _ _ h) ⟨rfl, rfl, rfl, rfl, trivial⟩
def B_X7_writeAnew_60 (Q : Int32 → zv_St → Prop) (kk15 : Int32 → Int32 → Int32 → zv_St → Prop) (x1 : Int32) (x2 : Int32) (x3 : Int32) (y1 : Int32) (y2 : Int32) (σ : zv_St) : Prop :=
  vp_in y1 80 ∧ ∀ σ_1 : zv_St, σ_1 = zv_wi σ 41 y1.toNatClampNeg y2 → vp_in x3 80 ∧ (0 ≤ (σ_1.1 41 x3.toNatClampNeg) → (B_X7_writeAnew_81 Q kk15 x1 x2 x3 σ_1)) ∧ (¬ 0 ≤ (σ_1.1 41 x3.toNatClampNeg) → (B_X5_shrinkTo (fun σ_2 => Q (-3) σ_2) x2 σ_1))
set_option maxRecDepth 20000 in
set_option maxHeartbeats 2000000 in
theorem k_X7_writeAnew_60 {G : zv_G} {X : zv_X} {Q : Int32 → zv_St → Prop} {kk15 : Int32 → Int32 → Int32 → zv_St → Prop} (hC : zv_C G X M_X7_writeAnew) (hR : zv_R G X M_X7_writeAnew (zv_qi Q)) (hk15 : ∀ (x1 : Int32) (x2 : Int32) (x3 : Int32) (σ : zv_St), kk15 x1 x2 x3 σ → zv_V G X M_X7_writeAnew 15 [(0, .ref (G.2.2.1 39)), (1, .int x1), (2, .int x2), (3, .int x3)] [] σ) {x1 : Int32} {x2 : Int32} {x3 : Int32} {y1 : Int32} {y2 : Int32} {σ : zv_St} (h : B_X7_writeAnew_60 Q kk15 x1 x2 x3 y1 y2 σ) : zv_V G X M_X7_writeAnew 60 [(0, .ref (G.2.2.1 39)), (1, .int x1), (2, .int x2), (3, .int x3)] [.int y2, .int y1, .ref (G.2.2.1 41)] σ := by
  unfold B_X7_writeAnew_60 at h
  refine zv_iast hC dX7_writeAnew_60 rfl h.1 ?_
  replace h := h.2 _ rfl
  refine zv_aload_n hC dX7_writeAnew_61 rfl ?_
  refine zv_getR (j := 41) hC fl_X7_15 dX7_writeAnew_62 rfl rfl ?_
  refine zv_iload_n hC dX7_writeAnew_65 rfl ?_
  refine zv_iald hC dX7_writeAnew_66 rfl h.1 ?_
  replace h := h.2
  refine zv_if_ge (tgt := 81) hC dX7_writeAnew_67 (by decide) (fun c => ?_) (fun c => ?_)
  · replace h := h.1 c
    exact zv_go (k_X7_writeAnew_81 hC hR hk15 h) ⟨rfl, rfl, rfl, rfl, trivial⟩
  · replace h := h.2 c
    refine zv_aload_n hC dX7_writeAnew_70 rfl ?_
    refine zv_getR (j := 5) hC fl_X7_30 dX7_writeAnew_71 rfl rfl ?_
    refine zv_iload_n hC dX7_writeAnew_74 rfl ?_
    refine zv_callVv (As := [_]) hC dX7_writeAnew_75 Y_X5_shrinkTo lk_X7_52 (by decide) rfl rfl rfl (Nat.le_of_ble_eq_true rfl) (ok_X5_shrinkTo G h) ?_
    intro σ_2 h
    refine zv_bipush (v := (-3)) hC dX7_writeAnew_78 (by decide) ?_
    exact (hR _ _ _).1 _ rfl dX7_writeAnew_80 ⟨_, rfl, h⟩
def L_X7_writeAnew_15 (Q : Int32 → zv_St → Prop) : Nat → (Int32 → Int32 → Int32 → zv_St → Prop)
  | 0 => fun _ _ _ _ => False
  | u + 1 => fun x1 x2 x3 σ => 
    (x1 < x3 → (vp_in x1 80 ∧ Q (σ.1 41 x1.toNatClampNeg) σ)) ∧ (¬ x1 < x3 → (vp_in x3 80 ∧ ((σ.1 40 x3.toNatClampNeg) = 0 → (B_X7_writeAnew_81 Q (L_X7_writeAnew_15 Q u) x1 x2 x3 σ)) ∧ (¬ (σ.1 40 x3.toNatClampNeg) = 0 → (B_X7_newOf (fun r_2 σ_1 => (¬ r_2 = (-1) → (B_X7_writeAnew_60 Q (L_X7_writeAnew_15 Q u) x1 x2 x3 x3 r_2 σ_1)) ∧ (r_2 = (-1) → (B_X7_thatIsSo (fun r_4 σ_3 => B_X7_writeAnew_60 Q (L_X7_writeAnew_15 Q u) x1 x2 x3 x3 r_4 σ_3) 7 0 0 σ_1))) x3 σ))))
set_option maxRecDepth 20000 in
set_option maxHeartbeats 2000000 in
theorem kL_X7_writeAnew_15 {G : zv_G} {X : zv_X} {Q : Int32 → zv_St → Prop}  (hC : zv_C G X M_X7_writeAnew) (hR : zv_R G X M_X7_writeAnew (zv_qi Q))  : ∀ (n : Nat) (x1 : Int32) (x2 : Int32) (x3 : Int32) (σ : zv_St), L_X7_writeAnew_15 Q  n x1 x2 x3 σ → zv_V G X M_X7_writeAnew 15 [(0, .ref (G.2.2.1 39)), (1, .int x1), (2, .int x2), (3, .int x3)] [] σ := by
  intro n
  induction n with
  | zero => intro x1 x2 x3 σ h; exact h.elim
  | succ n hk15 =>
    intro x1 x2 x3 σ h
    unfold L_X7_writeAnew_15 at h
    refine zv_iload_n hC dX7_writeAnew_15 rfl ?_
    refine zv_iload_n hC dX7_writeAnew_16 rfl ?_
    refine zv_icmp_gt (tgt := 87) hC dX7_writeAnew_17 (by decide) (fun c => ?_) (fun c => ?_)
    · replace h := h.1 c
      refine zv_aload_n hC dX7_writeAnew_87 rfl ?_
      refine zv_getR (j := 41) hC fl_X7_15 dX7_writeAnew_88 rfl rfl ?_
      refine zv_iload_n hC dX7_writeAnew_91 rfl ?_
      refine zv_iald hC dX7_writeAnew_92 rfl h.1 ?_
      replace h := h.2
      exact (hR _ _ _).1 _ rfl dX7_writeAnew_93 ⟨_, rfl, h⟩
    · replace h := h.2 c
      refine zv_aload_n hC dX7_writeAnew_20 rfl ?_
      refine zv_getR (j := 40) hC fl_X7_9 dX7_writeAnew_21 rfl rfl ?_
      refine zv_iload_n hC dX7_writeAnew_24 rfl ?_
      refine zv_zald hC dX7_writeAnew_25 rfl h.1 ?_
      replace h := h.2
      refine zv_if_eq (tgt := 81) hC dX7_writeAnew_26 (by decide) (fun c => ?_) (fun c => ?_)
      · replace h := h.1 c
        exact zv_go (k_X7_writeAnew_81 hC hR hk15 h) ⟨rfl, rfl, rfl, rfl, trivial⟩
      · replace h := h.2 c
        refine zv_aload_n hC dX7_writeAnew_29 rfl ?_
        refine zv_iload_n hC dX7_writeAnew_30 rfl ?_
        refine zv_callVi (As := [_]) hC dX7_writeAnew_31 Y_X7_newOf lk_X7_44 (by decide) rfl rfl rfl (Nat.le_of_ble_eq_true rfl) (ok_X7_newOf G h) ?_
        intro r_2 σ_1 h
        refine zv_istore hC dX7_writeAnew_34 (by decide) ?_
        refine zv_aload_n hC dX7_writeAnew_36 rfl ?_
        refine zv_getR (j := 41) hC fl_X7_15 dX7_writeAnew_37 rfl rfl ?_
        refine zv_iload_n hC dX7_writeAnew_40 rfl ?_
        refine zv_iload hC dX7_writeAnew_41 rfl ?_
        refine zv_iconst (v := (-1)) hC dX7_writeAnew_43 (by decide) ?_
        refine zv_icmp_ne (tgt := 58) hC dX7_writeAnew_44 (by decide) (fun c => ?_) (fun c => ?_)
        · replace h := h.1 c
          refine zv_iload hC dX7_writeAnew_58 rfl ?_
          exact zv_go (k_X7_writeAnew_60 hC hR hk15 h) ⟨rfl, rfl, rfl, rfl, trivial⟩
        · replace h := h.2 c
          refine zv_aload_n hC dX7_writeAnew_47 rfl ?_
          refine zv_bipush (v := 7) hC dX7_writeAnew_48 (by decide) ?_
          refine zv_iconst (v := 0) hC dX7_writeAnew_50 (by decide) ?_
          refine zv_iconst (v := 0) hC dX7_writeAnew_51 (by decide) ?_
          refine zv_callVi (As := [_, _, _]) hC dX7_writeAnew_52 Y_X7_thatIsSo lk_X7_48 (by decide) rfl rfl rfl (Nat.le_of_ble_eq_true rfl) (ok_X7_thatIsSo G h) ?_
          intro r_4 σ_3 h
          refine zv_goto (tgt := 60) hC dX7_writeAnew_55 (by decide) ?_
          exact zv_go (k_X7_writeAnew_60 hC hR hk15 h) ⟨rfl, rfl, rfl, rfl, trivial⟩
def B_X7_writeAnew (Q : Int32 → zv_St → Prop) (x1 : Int32) (σ : zv_St) : Prop :=
  B_X5_count (fun r_2 σ_1 => B_X7_markUnder (fun σ_3 => ∃ n15, L_X7_writeAnew_15 Q n15 x1 r_2 0 σ_3) x1 σ_1) σ
set_option maxRecDepth 20000 in
set_option maxHeartbeats 2000000 in
theorem k_X7_writeAnew_0 {G : zv_G} {X : zv_X} {Q : Int32 → zv_St → Prop}  (hC : zv_C G X M_X7_writeAnew) (hR : zv_R G X M_X7_writeAnew (zv_qi Q))  {x1 : Int32} {σ : zv_St} (h : B_X7_writeAnew Q  x1 σ) : zv_V G X M_X7_writeAnew 0 [(0, .ref (G.2.2.1 39)), (1, .int x1)] [] σ := by
  unfold B_X7_writeAnew at h
  refine zv_aload_n hC dX7_writeAnew_0 rfl ?_
  refine zv_getR (j := 5) hC fl_X7_30 dX7_writeAnew_1 rfl rfl ?_
  refine zv_callVi (As := []) hC dX7_writeAnew_4 Y_X5_count lk_X7_34 (by decide) rfl rfl rfl (Nat.le_of_ble_eq_true rfl) (ok_X5_count G h) ?_
  intro r_2 σ_1 h
  refine zv_istore_n hC dX7_writeAnew_7 (by decide) ?_
  refine zv_aload_n hC dX7_writeAnew_8 rfl ?_
  refine zv_iload_n hC dX7_writeAnew_9 rfl ?_
  refine zv_callVv (As := [_]) hC dX7_writeAnew_10 Y_X7_markUnder lk_X7_40 (by decide) rfl rfl rfl (Nat.le_of_ble_eq_true rfl) (ok_X7_markUnder G h) ?_
  intro σ_3 h
  refine zv_iconst (v := 0) hC dX7_writeAnew_13 (by decide) ?_
  refine zv_istore_n hC dX7_writeAnew_14 (by decide) ?_
  obtain ⟨n, h⟩ := h
  exact zv_go (kL_X7_writeAnew_15 hC hR  n _ _ _ _ h) ⟨rfl, rfl, rfl, rfl, trivial⟩
theorem ok_X7_writeAnew (G : zv_G) {Q : Int32 → zv_St → Prop} {x1 : Int32} {σ : zv_St} (h : B_X7_writeAnew Q x1 σ) : zv_OK G M_X7_writeAnew yX7_writeAnew [.ref (G.2.2.1 39), .int x1] σ (zv_qi Q) := zv_ok G _ _ _ _ _ (by decide +kernel) rfl (Nat.le_of_ble_eq_true rfl) (fun X hC hR => zv_go (k_X7_writeAnew_0 hC hR h) ⟨rfl, rfl, trivial⟩)
-- X10_rewrite
def B_X10_rewrite (Q : Int32 → zv_St → Prop) (x1 : Int32) (σ : zv_St) : Prop :=
  B_X5_has (fun r_2 σ_1 => (¬ r_2 = 0 → (B_X7_writeAnew (fun r_4 σ_3 => Q r_4 σ_3) x1 σ_1)) ∧ (r_2 = 0 → (Q (-2) σ_1))) x1 σ
set_option maxRecDepth 20000 in
set_option maxHeartbeats 2000000 in
theorem k_X10_rewrite_0 {G : zv_G} {X : zv_X} {Q : Int32 → zv_St → Prop}  (hC : zv_C G X M_X10_rewrite) (hR : zv_R G X M_X10_rewrite (zv_qi Q))  {x1 : Int32} {σ : zv_St} (h : B_X10_rewrite Q  x1 σ) : zv_V G X M_X10_rewrite 0 [(0, .ref (G.2.2.1 0)), (1, .int x1)] [] σ := by
  unfold B_X10_rewrite at h
  refine zv_aload_n hC dX10_rewrite_0 rfl ?_
  refine zv_getR (j := 5) hC fl_X10_19 dX10_rewrite_1 rfl rfl ?_
  refine zv_iload_n hC dX10_rewrite_4 rfl ?_
  refine zv_callVi (As := [_]) hC dX10_rewrite_5 Y_X5_has lk_X10_118 (by decide) rfl rfl rfl (Nat.le_of_ble_eq_true rfl) (ok_X5_has G h) ?_
  intro r_2 σ_1 h
  refine zv_if_ne (tgt := 14) hC dX10_rewrite_8 (by decide) (fun c => ?_) (fun c => ?_)
  · replace h := h.1 c
    refine zv_aload_n hC dX10_rewrite_14 rfl ?_
    refine zv_getR (j := 39) hC fl_X10_69 dX10_rewrite_15 rfl rfl ?_
    refine zv_iload_n hC dX10_rewrite_18 rfl ?_
    refine zv_callVi (As := [_]) hC dX10_rewrite_19 Y_X7_writeAnew lk_X10_226 (by decide) rfl rfl rfl (Nat.le_of_ble_eq_true rfl) (ok_X7_writeAnew G h) ?_
    intro r_4 σ_3 h
    exact (hR _ _ _).1 _ rfl dX10_rewrite_22 ⟨_, rfl, h⟩
  · replace h := h.2 c
    refine zv_bipush (v := (-2)) hC dX10_rewrite_11 (by decide) ?_
    exact (hR _ _ _).1 _ rfl dX10_rewrite_13 ⟨_, rfl, h⟩
theorem ok_X10_rewrite (G : zv_G) {Q : Int32 → zv_St → Prop} {x1 : Int32} {σ : zv_St} (h : B_X10_rewrite Q x1 σ) : zv_OK G M_X10_rewrite yX10_rewrite [.ref (G.2.2.1 0), .int x1] σ (zv_qi Q) := zv_ok G _ _ _ _ _ (by decide +kernel) rfl (Nat.le_of_ble_eq_true rfl) (fun X hC hR => zv_go (k_X10_rewrite_0 hC hR h) ⟨rfl, rfl, trivial⟩)
-- X9_count
def B_X9_count_22 (Q : Int32 → zv_St → Prop) (kk4 : Int32 → Int32 → zv_St → Prop) (x1 : Int32) (x2 : Int32) (σ : zv_St) : Prop :=
  kk4 x1 (x2 + 1) σ
set_option maxRecDepth 20000 in
set_option maxHeartbeats 2000000 in
theorem k_X9_count_22 {G : zv_G} {X : zv_X} {Q : Int32 → zv_St → Prop} {kk4 : Int32 → Int32 → zv_St → Prop} (hC : zv_C G X M_X9_count) (hR : zv_R G X M_X9_count (zv_qi Q)) (hk4 : ∀ (x1 : Int32) (x2 : Int32) (σ : zv_St), kk4 x1 x2 σ → zv_V G X M_X9_count 4 [(0, .ref (G.2.2.1 13)), (1, .int x1), (2, .int x2)] [] σ) {x1 : Int32} {x2 : Int32} {σ : zv_St} (h : B_X9_count_22 Q kk4 x1 x2 σ) : zv_V G X M_X9_count 22 [(0, .ref (G.2.2.1 13)), (1, .int x1), (2, .int x2)] [] σ := by
  unfold B_X9_count_22 at h
  refine zv_iinc (v := 1) hC dX9_count_22 rfl (by decide) (by decide) ?_
  refine zv_goto (tgt := 4) hC dX9_count_25 (by decide) ?_
  exact zv_go (hk4 _ _ _ h) ⟨rfl, rfl, rfl, trivial⟩
def L_X9_count_4 (Q : Int32 → zv_St → Prop) : Nat → (Int32 → Int32 → zv_St → Prop)
  | 0 => fun _ _ _ => False
  | u + 1 => fun x1 x2 σ => 
    (80 ≤ x2 → (Q x1 σ)) ∧ (¬ 80 ≤ x2 → (vp_in x2 80 ∧ ((σ.1 16 x2.toNatClampNeg) = 0 → (B_X9_count_22 Q (L_X9_count_4 Q u) x1 x2 σ)) ∧ (¬ (σ.1 16 x2.toNatClampNeg) = 0 → (B_X9_count_22 Q (L_X9_count_4 Q u) (x1 + 1) x2 σ))))
set_option maxRecDepth 20000 in
set_option maxHeartbeats 2000000 in
theorem kL_X9_count_4 {G : zv_G} {X : zv_X} {Q : Int32 → zv_St → Prop}  (hC : zv_C G X M_X9_count) (hR : zv_R G X M_X9_count (zv_qi Q))  : ∀ (n : Nat) (x1 : Int32) (x2 : Int32) (σ : zv_St), L_X9_count_4 Q  n x1 x2 σ → zv_V G X M_X9_count 4 [(0, .ref (G.2.2.1 13)), (1, .int x1), (2, .int x2)] [] σ := by
  intro n
  induction n with
  | zero => intro x1 x2 σ h; exact h.elim
  | succ n hk4 =>
    intro x1 x2 σ h
    unfold L_X9_count_4 at h
    refine zv_iload_n hC dX9_count_4 rfl ?_
    refine zv_bipush (v := 80) hC dX9_count_5 (by decide) ?_
    refine zv_icmp_ge (tgt := 28) hC dX9_count_7 (by decide) (fun c => ?_) (fun c => ?_)
    · replace h := h.1 c
      refine zv_iload_n hC dX9_count_28 rfl ?_
      exact (hR _ _ _).1 _ rfl dX9_count_29 ⟨_, rfl, h⟩
    · replace h := h.2 c
      refine zv_aload_n hC dX9_count_10 rfl ?_
      refine zv_getR (j := 16) hC fl_X9_18 dX9_count_11 rfl rfl ?_
      refine zv_iload_n hC dX9_count_14 rfl ?_
      refine zv_zald hC dX9_count_15 rfl h.1 ?_
      replace h := h.2
      refine zv_if_eq (tgt := 22) hC dX9_count_16 (by decide) (fun c => ?_) (fun c => ?_)
      · replace h := h.1 c
        exact zv_go (k_X9_count_22 hC hR hk4 h) ⟨rfl, rfl, rfl, trivial⟩
      · replace h := h.2 c
        refine zv_iinc (v := 1) hC dX9_count_19 rfl (by decide) (by decide) ?_
        exact zv_go (k_X9_count_22 hC hR hk4 h) ⟨rfl, rfl, rfl, trivial⟩
def B_X9_count (Q : Int32 → zv_St → Prop) (σ : zv_St) : Prop :=
  ∃ n4, L_X9_count_4 Q n4 0 0 σ
set_option maxRecDepth 20000 in
set_option maxHeartbeats 2000000 in
theorem k_X9_count_0 {G : zv_G} {X : zv_X} {Q : Int32 → zv_St → Prop}  (hC : zv_C G X M_X9_count) (hR : zv_R G X M_X9_count (zv_qi Q))   {σ : zv_St} (h : B_X9_count Q   σ) : zv_V G X M_X9_count 0 [(0, .ref (G.2.2.1 13))] [] σ := by
  unfold B_X9_count at h
  refine zv_iconst (v := 0) hC dX9_count_0 (by decide) ?_
  refine zv_istore_n hC dX9_count_1 (by decide) ?_
  refine zv_iconst (v := 0) hC dX9_count_2 (by decide) ?_
  refine zv_istore_n hC dX9_count_3 (by decide) ?_
  obtain ⟨n, h⟩ := h
  exact zv_go (kL_X9_count_4 hC hR  n _ _ _ h) ⟨rfl, rfl, rfl, trivial⟩
theorem ok_X9_count (G : zv_G) {Q : Int32 → zv_St → Prop}  {σ : zv_St} (h : B_X9_count Q  σ) : zv_OK G M_X9_count yX9_count [.ref (G.2.2.1 13)] σ (zv_qi Q) := zv_ok G _ _ _ _ _ (by decide +kernel) rfl (Nat.le_of_ble_eq_true rfl) (fun X hC hR => zv_go (k_X9_count_0 hC hR h) ⟨rfl, trivial⟩)
-- X2_countOpen
def B_X2_countOpen_22 (Q : Int32 → zv_St → Prop) (kk4 : Int32 → Int32 → zv_St → Prop) (x1 : Int32) (x2 : Int32) (σ : zv_St) : Prop :=
  kk4 x1 (x2 + 1) σ
set_option maxRecDepth 20000 in
set_option maxHeartbeats 2000000 in
theorem k_X2_countOpen_22 {G : zv_G} {X : zv_X} {Q : Int32 → zv_St → Prop} {kk4 : Int32 → Int32 → zv_St → Prop} (hC : zv_C G X M_X2_countOpen) (hR : zv_R G X M_X2_countOpen (zv_qi Q)) (hk4 : ∀ (x1 : Int32) (x2 : Int32) (σ : zv_St), kk4 x1 x2 σ → zv_V G X M_X2_countOpen 4 [(0, .ref (G.2.2.1 34)), (1, .int x1), (2, .int x2)] [] σ) {x1 : Int32} {x2 : Int32} {σ : zv_St} (h : B_X2_countOpen_22 Q kk4 x1 x2 σ) : zv_V G X M_X2_countOpen 22 [(0, .ref (G.2.2.1 34)), (1, .int x1), (2, .int x2)] [] σ := by
  unfold B_X2_countOpen_22 at h
  refine zv_iinc (v := 1) hC dX2_countOpen_22 rfl (by decide) (by decide) ?_
  refine zv_goto (tgt := 4) hC dX2_countOpen_25 (by decide) ?_
  exact zv_go (hk4 _ _ _ h) ⟨rfl, rfl, rfl, trivial⟩
def L_X2_countOpen_4 (Q : Int32 → zv_St → Prop) : Nat → (Int32 → Int32 → zv_St → Prop)
  | 0 => fun _ _ _ => False
  | u + 1 => fun x1 x2 σ => 
    (8 ≤ x2 → (Q x1 σ)) ∧ (¬ 8 ≤ x2 → (vp_in x2 8 ∧ ((σ.1 35 x2.toNatClampNeg) = 0 → (B_X2_countOpen_22 Q (L_X2_countOpen_4 Q u) x1 x2 σ)) ∧ (¬ (σ.1 35 x2.toNatClampNeg) = 0 → (B_X2_countOpen_22 Q (L_X2_countOpen_4 Q u) (x1 + 1) x2 σ))))
set_option maxRecDepth 20000 in
set_option maxHeartbeats 2000000 in
theorem kL_X2_countOpen_4 {G : zv_G} {X : zv_X} {Q : Int32 → zv_St → Prop}  (hC : zv_C G X M_X2_countOpen) (hR : zv_R G X M_X2_countOpen (zv_qi Q))  : ∀ (n : Nat) (x1 : Int32) (x2 : Int32) (σ : zv_St), L_X2_countOpen_4 Q  n x1 x2 σ → zv_V G X M_X2_countOpen 4 [(0, .ref (G.2.2.1 34)), (1, .int x1), (2, .int x2)] [] σ := by
  intro n
  induction n with
  | zero => intro x1 x2 σ h; exact h.elim
  | succ n hk4 =>
    intro x1 x2 σ h
    unfold L_X2_countOpen_4 at h
    refine zv_iload_n hC dX2_countOpen_4 rfl ?_
    refine zv_bipush (v := 8) hC dX2_countOpen_5 (by decide) ?_
    refine zv_icmp_ge (tgt := 28) hC dX2_countOpen_7 (by decide) (fun c => ?_) (fun c => ?_)
    · replace h := h.1 c
      refine zv_iload_n hC dX2_countOpen_28 rfl ?_
      exact (hR _ _ _).1 _ rfl dX2_countOpen_29 ⟨_, rfl, h⟩
    · replace h := h.2 c
      refine zv_aload_n hC dX2_countOpen_10 rfl ?_
      refine zv_getR (j := 35) hC fl_X2_9 dX2_countOpen_11 rfl rfl ?_
      refine zv_iload_n hC dX2_countOpen_14 rfl ?_
      refine zv_zald hC dX2_countOpen_15 rfl h.1 ?_
      replace h := h.2
      refine zv_if_eq (tgt := 22) hC dX2_countOpen_16 (by decide) (fun c => ?_) (fun c => ?_)
      · replace h := h.1 c
        exact zv_go (k_X2_countOpen_22 hC hR hk4 h) ⟨rfl, rfl, rfl, trivial⟩
      · replace h := h.2 c
        refine zv_iinc (v := 1) hC dX2_countOpen_19 rfl (by decide) (by decide) ?_
        exact zv_go (k_X2_countOpen_22 hC hR hk4 h) ⟨rfl, rfl, rfl, trivial⟩
def B_X2_countOpen (Q : Int32 → zv_St → Prop) (σ : zv_St) : Prop :=
  ∃ n4, L_X2_countOpen_4 Q n4 0 0 σ
set_option maxRecDepth 20000 in
set_option maxHeartbeats 2000000 in
theorem k_X2_countOpen_0 {G : zv_G} {X : zv_X} {Q : Int32 → zv_St → Prop}  (hC : zv_C G X M_X2_countOpen) (hR : zv_R G X M_X2_countOpen (zv_qi Q))   {σ : zv_St} (h : B_X2_countOpen Q   σ) : zv_V G X M_X2_countOpen 0 [(0, .ref (G.2.2.1 34))] [] σ := by
  unfold B_X2_countOpen at h
  refine zv_iconst (v := 0) hC dX2_countOpen_0 (by decide) ?_
  refine zv_istore_n hC dX2_countOpen_1 (by decide) ?_
  refine zv_iconst (v := 0) hC dX2_countOpen_2 (by decide) ?_
  refine zv_istore_n hC dX2_countOpen_3 (by decide) ?_
  obtain ⟨n, h⟩ := h
  exact zv_go (kL_X2_countOpen_4 hC hR  n _ _ _ h) ⟨rfl, rfl, rfl, trivial⟩
theorem ok_X2_countOpen (G : zv_G) {Q : Int32 → zv_St → Prop}  {σ : zv_St} (h : B_X2_countOpen Q  σ) : zv_OK G M_X2_countOpen yX2_countOpen [.ref (G.2.2.1 34)] σ (zv_qi Q) := zv_ok G _ _ _ _ _ (by decide +kernel) rfl (Nat.le_of_ble_eq_true rfl) (fun X hC hR => zv_go (k_X2_countOpen_0 hC hR h) ⟨rfl, trivial⟩)
-- X5_askedInAll
def L_X5_askedInAll_4 (Q : Int32 → zv_St → Prop) : Nat → (Int32 → Int32 → zv_St → Prop)
  | 0 => fun _ _ _ => False
  | u + 1 => fun x1 x2 σ => 
    ((σ.1 5 0) ≤ x2 → (Q x1 σ)) ∧ (¬ (σ.1 5 0) ≤ x2 → (vp_in x2 80 ∧ ∀ v_1 : Int32, v_1 = (x1 + (σ.1 9 x2.toNatClampNeg)) → (L_X5_askedInAll_4 Q u) v_1 (x2 + 1) σ))
set_option maxRecDepth 20000 in
set_option maxHeartbeats 2000000 in
theorem kL_X5_askedInAll_4 {G : zv_G} {X : zv_X} {Q : Int32 → zv_St → Prop}  (hC : zv_C G X M_X5_askedInAll) (hR : zv_R G X M_X5_askedInAll (zv_qi Q))  : ∀ (n : Nat) (x1 : Int32) (x2 : Int32) (σ : zv_St), L_X5_askedInAll_4 Q  n x1 x2 σ → zv_V G X M_X5_askedInAll 4 [(0, .ref (G.2.2.1 5)), (1, .int x1), (2, .int x2)] [] σ := by
  intro n
  induction n with
  | zero => intro x1 x2 σ h; exact h.elim
  | succ n hk4 =>
    intro x1 x2 σ h
    unfold L_X5_askedInAll_4 at h
    refine zv_iload_n hC dX5_askedInAll_4 rfl ?_
    refine zv_aload_n hC dX5_askedInAll_5 rfl ?_
    refine zv_getI hC fl_X5_33 dX5_askedInAll_6 rfl rfl ?_
    refine zv_icmp_ge (tgt := 27) hC dX5_askedInAll_9 (by decide) (fun c => ?_) (fun c => ?_)
    · replace h := h.1 c
      refine zv_iload_n hC dX5_askedInAll_27 rfl ?_
      exact (hR _ _ _).1 _ rfl dX5_askedInAll_28 ⟨_, rfl, h⟩
    · replace h := h.2 c
      refine zv_iload_n hC dX5_askedInAll_12 rfl ?_
      refine zv_aload_n hC dX5_askedInAll_13 rfl ?_
      refine zv_getR (j := 9) hC fl_X5_21 dX5_askedInAll_14 rfl rfl ?_
      refine zv_iload_n hC dX5_askedInAll_17 rfl ?_
      refine zv_iald hC dX5_askedInAll_18 rfl h.1 ?_
      replace h := h.2
      refine zv_iadd hC dX5_askedInAll_19 ?_
      replace h := h _ rfl
      refine zv_istore_n hC dX5_askedInAll_20 (by decide) ?_
      refine zv_iinc (v := 1) hC dX5_askedInAll_21 rfl (by decide) (by decide) ?_
      refine zv_goto (tgt := 4) hC dX5_askedInAll_24 (by decide) ?_
      exact zv_go (hk4 _ _ _ h) ⟨rfl, rfl, rfl, trivial⟩
def B_X5_askedInAll (Q : Int32 → zv_St → Prop) (σ : zv_St) : Prop :=
  ∃ n4, L_X5_askedInAll_4 Q n4 0 0 σ
set_option maxRecDepth 20000 in
set_option maxHeartbeats 2000000 in
theorem k_X5_askedInAll_0 {G : zv_G} {X : zv_X} {Q : Int32 → zv_St → Prop}  (hC : zv_C G X M_X5_askedInAll) (hR : zv_R G X M_X5_askedInAll (zv_qi Q))   {σ : zv_St} (h : B_X5_askedInAll Q   σ) : zv_V G X M_X5_askedInAll 0 [(0, .ref (G.2.2.1 5))] [] σ := by
  unfold B_X5_askedInAll at h
  refine zv_iconst (v := 0) hC dX5_askedInAll_0 (by decide) ?_
  refine zv_istore_n hC dX5_askedInAll_1 (by decide) ?_
  refine zv_iconst (v := 0) hC dX5_askedInAll_2 (by decide) ?_
  refine zv_istore_n hC dX5_askedInAll_3 (by decide) ?_
  obtain ⟨n, h⟩ := h
  exact zv_go (kL_X5_askedInAll_4 hC hR  n _ _ _ h) ⟨rfl, rfl, rfl, trivial⟩
theorem ok_X5_askedInAll (G : zv_G) {Q : Int32 → zv_St → Prop}  {σ : zv_St} (h : B_X5_askedInAll Q  σ) : zv_OK G M_X5_askedInAll yX5_askedInAll [.ref (G.2.2.1 5)] σ (zv_qi Q) := zv_ok G _ _ _ _ _ (by decide +kernel) rfl (Nat.le_of_ble_eq_true rfl) (fun X hC hR => zv_go (k_X5_askedInAll_0 hC hR h) ⟨rfl, trivial⟩)
-- X3_total
def L_X3_total_4 (Q : Int32 → zv_St → Prop) : Nat → (Int32 → Int32 → zv_St → Prop)
  | 0 => fun _ _ _ => False
  | u + 1 => fun x1 x2 σ => 
    (16 ≤ x2 → (Q x1 σ)) ∧ (¬ 16 ≤ x2 → (vp_in x2 16 ∧ ∀ v_1 : Int32, v_1 = (x1 + (σ.1 4 x2.toNatClampNeg)) → (L_X3_total_4 Q u) v_1 (x2 + 1) σ))
set_option maxRecDepth 20000 in
set_option maxHeartbeats 2000000 in
theorem kL_X3_total_4 {G : zv_G} {X : zv_X} {Q : Int32 → zv_St → Prop}  (hC : zv_C G X M_X3_total) (hR : zv_R G X M_X3_total (zv_qi Q))  : ∀ (n : Nat) (x1 : Int32) (x2 : Int32) (σ : zv_St), L_X3_total_4 Q  n x1 x2 σ → zv_V G X M_X3_total 4 [(0, .ref (G.2.2.1 1)), (1, .int x1), (2, .int x2)] [] σ := by
  intro n
  induction n with
  | zero => intro x1 x2 σ h; exact h.elim
  | succ n hk4 =>
    intro x1 x2 σ h
    unfold L_X3_total_4 at h
    refine zv_iload_n hC dX3_total_4 rfl ?_
    refine zv_bipush (v := 16) hC dX3_total_5 (by decide) ?_
    refine zv_icmp_ge (tgt := 25) hC dX3_total_7 (by decide) (fun c => ?_) (fun c => ?_)
    · replace h := h.1 c
      refine zv_iload_n hC dX3_total_25 rfl ?_
      exact (hR _ _ _).1 _ rfl dX3_total_26 ⟨_, rfl, h⟩
    · replace h := h.2 c
      refine zv_iload_n hC dX3_total_10 rfl ?_
      refine zv_aload_n hC dX3_total_11 rfl ?_
      refine zv_getR (j := 4) hC fl_X3_18 dX3_total_12 rfl rfl ?_
      refine zv_iload_n hC dX3_total_15 rfl ?_
      refine zv_iald hC dX3_total_16 rfl h.1 ?_
      replace h := h.2
      refine zv_iadd hC dX3_total_17 ?_
      replace h := h _ rfl
      refine zv_istore_n hC dX3_total_18 (by decide) ?_
      refine zv_iinc (v := 1) hC dX3_total_19 rfl (by decide) (by decide) ?_
      refine zv_goto (tgt := 4) hC dX3_total_22 (by decide) ?_
      exact zv_go (hk4 _ _ _ h) ⟨rfl, rfl, rfl, trivial⟩
def B_X3_total (Q : Int32 → zv_St → Prop) (σ : zv_St) : Prop :=
  ∃ n4, L_X3_total_4 Q n4 0 0 σ
set_option maxRecDepth 20000 in
set_option maxHeartbeats 2000000 in
theorem k_X3_total_0 {G : zv_G} {X : zv_X} {Q : Int32 → zv_St → Prop}  (hC : zv_C G X M_X3_total) (hR : zv_R G X M_X3_total (zv_qi Q))   {σ : zv_St} (h : B_X3_total Q   σ) : zv_V G X M_X3_total 0 [(0, .ref (G.2.2.1 1))] [] σ := by
  unfold B_X3_total at h
  refine zv_iconst (v := 0) hC dX3_total_0 (by decide) ?_
  refine zv_istore_n hC dX3_total_1 (by decide) ?_
  refine zv_iconst (v := 0) hC dX3_total_2 (by decide) ?_
  refine zv_istore_n hC dX3_total_3 (by decide) ?_
  obtain ⟨n, h⟩ := h
  exact zv_go (kL_X3_total_4 hC hR  n _ _ _ h) ⟨rfl, rfl, rfl, trivial⟩
theorem ok_X3_total (G : zv_G) {Q : Int32 → zv_St → Prop}  {σ : zv_St} (h : B_X3_total Q  σ) : zv_OK G M_X3_total yX3_total [.ref (G.2.2.1 1)] σ (zv_qi Q) := zv_ok G _ _ _ _ _ (by decide +kernel) rfl (Nat.le_of_ble_eq_true rfl) (fun X hC hR => zv_go (k_X3_total_0 hC hR h) ⟨rfl, trivial⟩)
-- X10_sum
def B_X10_sum (Q : Int32 → zv_St → Prop) (x1 : Int32) (σ : zv_St) : Prop :=
  (x1 = 0 → (B_X5_count (fun r_2 σ_1 => Q r_2 σ_1) σ)) ∧ (x1 = 1 → (B_X3_total (fun r_4 σ_3 => Q r_4 σ_3) σ)) ∧ (x1 = 2 → (B_X5_askedInAll (fun r_6 σ_5 => Q r_6 σ_5) σ)) ∧ (x1 = 3 → (B_X2_countOpen (fun r_8 σ_7 => Q r_8 σ_7) σ)) ∧ (x1 = 4 → (B_X9_count (fun r_10 σ_9 => Q r_10 σ_9) σ)) ∧ (Int32.toInt x1 < 0 ∨ 4 < Int32.toInt x1 → (Q (-2) σ))
set_option maxRecDepth 20000 in
set_option maxHeartbeats 2000000 in
theorem k_X10_sum_0 {G : zv_G} {X : zv_X} {Q : Int32 → zv_St → Prop}  (hC : zv_C G X M_X10_sum) (hR : zv_R G X M_X10_sum (zv_qi Q))  {x1 : Int32} {σ : zv_St} (h : B_X10_sum Q  x1 σ) : zv_V G X M_X10_sum 0 [(0, .ref (G.2.2.1 0)), (1, .int x1)] [] σ := by
  unfold B_X10_sum at h
  refine zv_iload_n hC dX10_sum_0 rfl ?_
  refine zv_swV (zv_sw_0_4) ?_
  rintro (c | c | c | c | c | c)
  · replace h := h.1 c
    refine zv_table (off := 35) (tgt := 36) hC dX10_sum_1 (by rw [c]; decide) (by rw [c]; decide) (by rw [c]; rfl) (by decide) ?_
    refine zv_aload_n hC dX10_sum_36 rfl ?_
    refine zv_getR (j := 5) hC fl_X10_19 dX10_sum_37 rfl rfl ?_
    refine zv_callVi (As := []) hC dX10_sum_40 Y_X5_count lk_X10_229 (by decide) rfl rfl rfl (Nat.le_of_ble_eq_true rfl) (ok_X5_count G h) ?_
    intro r_2 σ_1 h
    exact (hR _ _ _).1 _ rfl dX10_sum_43 ⟨_, rfl, h⟩
  · replace h := h.2.1 c
    refine zv_table (off := 43) (tgt := 44) hC dX10_sum_1 (by rw [c]; decide) (by rw [c]; decide) (by rw [c]; rfl) (by decide) ?_
    refine zv_aload_n hC dX10_sum_44 rfl ?_
    refine zv_getR (j := 1) hC fl_X10_12 dX10_sum_45 rfl rfl ?_
    refine zv_callVi (As := []) hC dX10_sum_48 Y_X3_total lk_X10_232 (by decide) rfl rfl rfl (Nat.le_of_ble_eq_true rfl) (ok_X3_total G h) ?_
    intro r_4 σ_3 h
    exact (hR _ _ _).1 _ rfl dX10_sum_51 ⟨_, rfl, h⟩
  · replace h := h.2.2.1 c
    refine zv_table (off := 51) (tgt := 52) hC dX10_sum_1 (by rw [c]; decide) (by rw [c]; decide) (by rw [c]; rfl) (by decide) ?_
    refine zv_aload_n hC dX10_sum_52 rfl ?_
    refine zv_getR (j := 5) hC fl_X10_19 dX10_sum_53 rfl rfl ?_
    refine zv_callVi (As := []) hC dX10_sum_56 Y_X5_askedInAll lk_X10_235 (by decide) rfl rfl rfl (Nat.le_of_ble_eq_true rfl) (ok_X5_askedInAll G h) ?_
    intro r_6 σ_5 h
    exact (hR _ _ _).1 _ rfl dX10_sum_59 ⟨_, rfl, h⟩
  · replace h := h.2.2.2.1 c
    refine zv_table (off := 59) (tgt := 60) hC dX10_sum_1 (by rw [c]; decide) (by rw [c]; decide) (by rw [c]; rfl) (by decide) ?_
    refine zv_aload_n hC dX10_sum_60 rfl ?_
    refine zv_getR (j := 34) hC fl_X10_60 dX10_sum_61 rfl rfl ?_
    refine zv_callVi (As := []) hC dX10_sum_64 Y_X2_countOpen lk_X10_238 (by decide) rfl rfl rfl (Nat.le_of_ble_eq_true rfl) (ok_X2_countOpen G h) ?_
    intro r_8 σ_7 h
    exact (hR _ _ _).1 _ rfl dX10_sum_67 ⟨_, rfl, h⟩
  · replace h := h.2.2.2.2.1 c
    refine zv_table (off := 67) (tgt := 68) hC dX10_sum_1 (by rw [c]; decide) (by rw [c]; decide) (by rw [c]; rfl) (by decide) ?_
    refine zv_aload_n hC dX10_sum_68 rfl ?_
    refine zv_getR (j := 13) hC fl_X10_28 dX10_sum_69 rfl rfl ?_
    refine zv_callVi (As := []) hC dX10_sum_72 Y_X9_count lk_X10_241 (by decide) rfl rfl rfl (Nat.le_of_ble_eq_true rfl) (ok_X9_count G h) ?_
    intro r_10 σ_9 h
    exact (hR _ _ _).1 _ rfl dX10_sum_75 ⟨_, rfl, h⟩
  · replace h := h.2.2.2.2.2 c
    refine zv_tableD (tgt := 76) hC dX10_sum_1 c (by decide) ?_
    refine zv_bipush (v := (-2)) hC dX10_sum_76 (by decide) ?_
    exact (hR _ _ _).1 _ rfl dX10_sum_78 ⟨_, rfl, h⟩
theorem ok_X10_sum (G : zv_G) {Q : Int32 → zv_St → Prop} {x1 : Int32} {σ : zv_St} (h : B_X10_sum Q x1 σ) : zv_OK G M_X10_sum yX10_sum [.ref (G.2.2.1 0), .int x1] σ (zv_qi Q) := zv_ok G _ _ _ _ _ (by decide +kernel) rfl (Nat.le_of_ble_eq_true rfl) (fun X hC hR => zv_go (k_X10_sum_0 hC hR h) ⟨rfl, rfl, trivial⟩)
