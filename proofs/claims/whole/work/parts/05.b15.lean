-- X11_score
def B_X11_score_24 (Q : Int64 → zv_St → Prop) (y0 : Int64) (σ : zv_St) : Prop :=
  Q y0 σ
set_option maxRecDepth 20000 in
set_option maxHeartbeats 2000000 in
theorem k_X11_score_24 {G : zv_G} {X : zv_X} {Q : Int64 → zv_St → Prop}  (hC : zv_C G X M_X11_score) (hR : zv_R G X M_X11_score (zv_ql Q))  {y0 : Int64} {σ : zv_St} (h : B_X11_score_24 Q  y0 σ) : zv_V G X M_X11_score 24 [] [.long y0] σ := by
  unfold B_X11_score_24 at h
  exact (hR _ _ _).2.2.1 _ rfl dX11_score_24 ⟨_, rfl, h⟩
def B_X11_score (Q : Int64 → zv_St → Prop) (x1 : Int32) (σ : zv_St) : Prop :=
  B_X11_in (fun r_2 σ_1 => (r_2 = 0 → (B_X11_score_24 Q 0 σ_1)) ∧ (¬ r_2 = 0 → (vp_in x1 512 ∧ B_X11_score_24 Q (σ_1.2 71 x1.toNatClampNeg) σ_1))) x1 0 ((σ.1 45 30) - 1) σ
set_option maxRecDepth 20000 in
set_option maxHeartbeats 2000000 in
theorem k_X11_score_0 {G : zv_G} {X : zv_X} {Q : Int64 → zv_St → Prop}  (hC : zv_C G X M_X11_score) (hR : zv_R G X M_X11_score (zv_ql Q))  {x1 : Int32} {σ : zv_St} (h : B_X11_score Q  x1 σ) : zv_V G X M_X11_score 0 [(0, .ref (G.2.2.1 45)), (1, .int x1)] [] σ := by
  unfold B_X11_score at h
  refine zv_iload_n hC dX11_score_0 rfl ?_
  refine zv_iconst (v := 0) hC dX11_score_1 (by decide) ?_
  refine zv_aload_n hC dX11_score_2 rfl ?_
  refine zv_getI hC fl_X11_180 dX11_score_3 rfl rfl ?_
  refine zv_iconst (v := 1) hC dX11_score_6 (by decide) ?_
  refine zv_isub hC dX11_score_7 ?_
  refine zv_callSi (As := [_, _, _]) hC dX11_score_8 Y_X11_in lk_X11_103 (by decide) rfl rfl (Nat.le_of_ble_eq_true rfl) (ok_X11_in G h) ?_
  intro r_2 σ_1 h
  refine zv_if_eq (tgt := 23) hC dX11_score_11 (by decide) (fun c => ?_) (fun c => ?_)
  · replace h := h.1 c
    refine zv_lconst (v := 0) hC dX11_score_23 (by decide) ?_
    exact zv_go (k_X11_score_24 hC hR  h) trivial
  · replace h := h.2 c
    refine zv_aload_n hC dX11_score_14 rfl ?_
    refine zv_getR (j := 71) hC fl_X11_88 dX11_score_15 rfl rfl ?_
    refine zv_iload_n hC dX11_score_18 rfl ?_
    refine zv_lald hC dX11_score_19 rfl h.1 ?_
    replace h := h.2
    refine zv_goto (tgt := 24) hC dX11_score_20 (by decide) ?_
    exact zv_go (k_X11_score_24 hC hR  h) trivial
theorem ok_X11_score (G : zv_G) {Q : Int64 → zv_St → Prop} {x1 : Int32} {σ : zv_St} (h : B_X11_score Q x1 σ) : zv_OK G M_X11_score yX11_score [.ref (G.2.2.1 45), .int x1] σ (zv_ql Q) := zv_ok G _ _ _ _ _ (by decide +kernel) rfl (Nat.le_of_ble_eq_true rfl) (fun X hC hR => zv_go (k_X11_score_0 hC hR h) ⟨rfl, rfl, trivial⟩)
-- X11_keep
def B_X11_keep_19 (Q : Int32 → zv_St → Prop) (σ : zv_St) : Prop :=
  Q (-2) σ
set_option maxRecDepth 20000 in
set_option maxHeartbeats 2000000 in
theorem k_X11_keep_19 {G : zv_G} {X : zv_X} {Q : Int32 → zv_St → Prop}  (hC : zv_C G X M_X11_keep) (hR : zv_R G X M_X11_keep (zv_qi Q))   {σ : zv_St} (h : B_X11_keep_19 Q   σ) : zv_V G X M_X11_keep 19 [] [] σ := by
  unfold B_X11_keep_19 at h
  refine zv_bipush (v := (-2)) hC dX11_keep_19 (by decide) ?_
  exact (hR _ _ _).1 _ rfl dX11_keep_21 ⟨_, rfl, h⟩
def B_X11_keep_84 (Q : Int32 → zv_St → Prop) (kk39 : Int32 → Int32 → Int32 → zv_St → Prop) (x1 : Int32) (x3 : Int32) (y0 : Int32) (y1 : Int32) (σ : zv_St) : Prop :=
  kk39 x1 (y0 + y1) (x3 + 1) σ
set_option maxRecDepth 20000 in
set_option maxHeartbeats 2000000 in
theorem k_X11_keep_84 {G : zv_G} {X : zv_X} {Q : Int32 → zv_St → Prop} {kk39 : Int32 → Int32 → Int32 → zv_St → Prop} (hC : zv_C G X M_X11_keep) (hR : zv_R G X M_X11_keep (zv_qi Q)) (hk39 : ∀ (x1 : Int32) (x2 : Int32) (x3 : Int32) (σ : zv_St), kk39 x1 x2 x3 σ → zv_V G X M_X11_keep 39 [(0, .ref (G.2.2.1 45)), (1, .int x1), (2, .int x2), (3, .int x3)] [] σ) {x1 : Int32} {x3 : Int32} {y0 : Int32} {y1 : Int32} {σ : zv_St} (h : B_X11_keep_84 Q kk39 x1 x3 y0 y1 σ) : zv_V G X M_X11_keep 84 [(0, .ref (G.2.2.1 45)), (1, .int x1), (3, .int x3)] [.int y1, .int y0] σ := by
  unfold B_X11_keep_84 at h
  refine zv_iadd hC dX11_keep_84 ?_
  refine zv_istore_n hC dX11_keep_85 (by decide) ?_
  refine zv_iinc (v := 1) hC dX11_keep_86 rfl (by decide) (by decide) ?_
  refine zv_goto (tgt := 39) hC dX11_keep_89 (by decide) ?_
  exact zv_go (hk39 _ _ _ _ h) ⟨rfl, rfl, rfl, rfl, trivial⟩
def L_X11_keep_39 (Q : Int32 → zv_St → Prop) : Nat → (Int32 → Int32 → Int32 → zv_St → Prop)
  | 0 => fun _ _ _ _ => False
  | u + 1 => fun x1 x2 x3 σ => 
    (512 ≤ x3 → (vp_in x1 80 ∧ ∀ σ_1 : zv_St, σ_1 = zv_wi σ 55 x1.toNatClampNeg x2 → Q x2 σ_1)) ∧ (¬ 512 ≤ x3 → (vp_in x1 80 ∧ B_X11_go (fun r_3 σ_2 => vp_in ((512 * x1) + x3) 40960 ∧ ∀ σ_4 : zv_St, σ_4 = zv_wi σ_2 56 ((512 * x1) + x3).toNatClampNeg (vp_nar .boolean r_3) → (r_3 = 0 → (B_X11_keep_84 Q (L_X11_keep_39 Q u) x1 x3 x2 0 σ_4)) ∧ (¬ r_3 = 0 → (B_X11_keep_84 Q (L_X11_keep_39 Q u) x1 x3 x2 1 σ_4))) (σ.1 49 x1.toNatClampNeg) x3 σ))
set_option maxRecDepth 20000 in
set_option maxHeartbeats 2000000 in
theorem kL_X11_keep_39 {G : zv_G} {X : zv_X} {Q : Int32 → zv_St → Prop}  (hC : zv_C G X M_X11_keep) (hR : zv_R G X M_X11_keep (zv_qi Q))  : ∀ (n : Nat) (x1 : Int32) (x2 : Int32) (x3 : Int32) (σ : zv_St), L_X11_keep_39 Q  n x1 x2 x3 σ → zv_V G X M_X11_keep 39 [(0, .ref (G.2.2.1 45)), (1, .int x1), (2, .int x2), (3, .int x3)] [] σ := by
  intro n
  induction n with
  | zero => intro x1 x2 x3 σ h; exact h.elim
  | succ n hk39 =>
    intro x1 x2 x3 σ h
    unfold L_X11_keep_39 at h
    refine zv_iload_n hC dX11_keep_39 rfl ?_
    refine zv_sipush (v := 512) hC dX11_keep_40 (by decide) ?_
    refine zv_icmp_ge (tgt := 92) hC dX11_keep_43 (by decide) (fun c => ?_) (fun c => ?_)
    · replace h := h.1 c
      refine zv_aload_n hC dX11_keep_92 rfl ?_
      refine zv_getR (j := 55) hC fl_X11_37 dX11_keep_93 rfl rfl ?_
      refine zv_iload_n hC dX11_keep_96 rfl ?_
      refine zv_iload_n hC dX11_keep_97 rfl ?_
      refine zv_iast hC dX11_keep_98 rfl h.1 ?_
      replace h := h.2 _ rfl
      refine zv_iload_n hC dX11_keep_99 rfl ?_
      exact (hR _ _ _).1 _ rfl dX11_keep_100 ⟨_, rfl, h⟩
    · replace h := h.2 c
      refine zv_aload_n hC dX11_keep_46 rfl ?_
      refine zv_aload_n hC dX11_keep_47 rfl ?_
      refine zv_getR (j := 49) hC fl_X11_19 dX11_keep_48 rfl rfl ?_
      refine zv_iload_n hC dX11_keep_51 rfl ?_
      refine zv_iald hC dX11_keep_52 rfl h.1 ?_
      replace h := h.2
      refine zv_iload_n hC dX11_keep_53 rfl ?_
      refine zv_callVi (As := [_, _]) hC dX11_keep_54 Y_X11_go lk_X11_172 (by decide) rfl rfl rfl (Nat.le_of_ble_eq_true rfl) (ok_X11_go G h) ?_
      intro r_3 σ_2 h
      refine zv_istore hC dX11_keep_57 (by decide) ?_
      refine zv_aload_n hC dX11_keep_59 rfl ?_
      refine zv_getR (j := 56) hC fl_X11_41 dX11_keep_60 rfl rfl ?_
      refine zv_sipush (v := 512) hC dX11_keep_63 (by decide) ?_
      refine zv_iload_n hC dX11_keep_66 rfl ?_
      refine zv_imul hC dX11_keep_67 ?_
      refine zv_iload_n hC dX11_keep_68 rfl ?_
      refine zv_iadd hC dX11_keep_69 ?_
      refine zv_iload hC dX11_keep_70 rfl ?_
      refine zv_zast hC dX11_keep_72 rfl h.1 ?_
      replace h := h.2 _ rfl
      refine zv_iload_n hC dX11_keep_73 rfl ?_
      refine zv_iload hC dX11_keep_74 rfl ?_
      refine zv_if_eq (tgt := 83) hC dX11_keep_76 (by decide) (fun c => ?_) (fun c => ?_)
      · replace h := h.1 c
        refine zv_iconst (v := 0) hC dX11_keep_83 (by decide) ?_
        exact zv_go (k_X11_keep_84 hC hR hk39 h) ⟨rfl, rfl, rfl, trivial⟩
      · replace h := h.2 c
        refine zv_iconst (v := 1) hC dX11_keep_79 (by decide) ?_
        refine zv_goto (tgt := 84) hC dX11_keep_80 (by decide) ?_
        exact zv_go (k_X11_keep_84 hC hR hk39 h) ⟨rfl, rfl, rfl, trivial⟩
def B_X11_keep (Q : Int32 → zv_St → Prop) (x1 : Int32) (σ : zv_St) : Prop :=
  B_X11_isNode (fun r_2 σ_1 => (r_2 = 0 → (B_X11_keep_19 Q σ_1)) ∧ (¬ r_2 = 0 → (vp_in x1 80 ∧ ((σ_1.1 48 x1.toNatClampNeg) = 6 → (vp_in x1 80 ∧ ((σ_1.1 55 x1.toNatClampNeg) = (-1) → (∃ n39, L_X11_keep_39 Q n39 x1 0 0 σ_1)) ∧ (¬ (σ_1.1 55 x1.toNatClampNeg) = (-1) → (Q (-4) σ_1)))) ∧ (¬ (σ_1.1 48 x1.toNatClampNeg) = 6 → (B_X11_keep_19 Q σ_1))))) x1 σ
set_option maxRecDepth 20000 in
set_option maxHeartbeats 2000000 in
theorem k_X11_keep_0 {G : zv_G} {X : zv_X} {Q : Int32 → zv_St → Prop}  (hC : zv_C G X M_X11_keep) (hR : zv_R G X M_X11_keep (zv_qi Q))  {x1 : Int32} {σ : zv_St} (h : B_X11_keep Q  x1 σ) : zv_V G X M_X11_keep 0 [(0, .ref (G.2.2.1 45)), (1, .int x1)] [] σ := by
  unfold B_X11_keep at h
  refine zv_aload_n hC dX11_keep_0 rfl ?_
  refine zv_iload_n hC dX11_keep_1 rfl ?_
  refine zv_callVi (As := [_]) hC dX11_keep_2 Y_X11_isNode lk_X11_123 (by decide) rfl rfl rfl (Nat.le_of_ble_eq_true rfl) (ok_X11_isNode G h) ?_
  intro r_2 σ_1 h
  refine zv_if_eq (tgt := 19) hC dX11_keep_5 (by decide) (fun c => ?_) (fun c => ?_)
  · replace h := h.1 c
    exact zv_go (k_X11_keep_19 hC hR  h) trivial
  · replace h := h.2 c
    refine zv_aload_n hC dX11_keep_8 rfl ?_
    refine zv_getR (j := 48) hC fl_X11_16 dX11_keep_9 rfl rfl ?_
    refine zv_iload_n hC dX11_keep_12 rfl ?_
    refine zv_iald hC dX11_keep_13 rfl h.1 ?_
    replace h := h.2
    refine zv_bipush (v := 6) hC dX11_keep_14 (by decide) ?_
    refine zv_icmp_eq (tgt := 22) hC dX11_keep_16 (by decide) (fun c => ?_) (fun c => ?_)
    · replace h := h.1 c
      refine zv_aload_n hC dX11_keep_22 rfl ?_
      refine zv_getR (j := 55) hC fl_X11_37 dX11_keep_23 rfl rfl ?_
      refine zv_iload_n hC dX11_keep_26 rfl ?_
      refine zv_iald hC dX11_keep_27 rfl h.1 ?_
      replace h := h.2
      refine zv_iconst (v := (-1)) hC dX11_keep_28 (by decide) ?_
      refine zv_icmp_eq (tgt := 35) hC dX11_keep_29 (by decide) (fun c => ?_) (fun c => ?_)
      · replace h := h.1 c
        refine zv_iconst (v := 0) hC dX11_keep_35 (by decide) ?_
        refine zv_istore_n hC dX11_keep_36 (by decide) ?_
        refine zv_iconst (v := 0) hC dX11_keep_37 (by decide) ?_
        refine zv_istore_n hC dX11_keep_38 (by decide) ?_
        obtain ⟨n, h⟩ := h
        exact zv_go (kL_X11_keep_39 hC hR  n _ _ _ _ h) ⟨rfl, rfl, rfl, rfl, trivial⟩
      · replace h := h.2 c
        refine zv_bipush (v := (-4)) hC dX11_keep_32 (by decide) ?_
        exact (hR _ _ _).1 _ rfl dX11_keep_34 ⟨_, rfl, h⟩
    · replace h := h.2 c
      exact zv_go (k_X11_keep_19 hC hR  h) trivial
theorem ok_X11_keep (G : zv_G) {Q : Int32 → zv_St → Prop} {x1 : Int32} {σ : zv_St} (h : B_X11_keep Q x1 σ) : zv_OK G M_X11_keep yX11_keep [.ref (G.2.2.1 45), .int x1] σ (zv_qi Q) := zv_ok G _ _ _ _ _ (by decide +kernel) rfl (Nat.le_of_ble_eq_true rfl) (fun X hC hR => zv_go (k_X11_keep_0 hC hR h) ⟨rfl, rfl, trivial⟩)
-- X11_open
def B_X11_open_35 (Q : Int32 → zv_St → Prop) (x1 : Int32) (x2 : Int32) (σ : zv_St) : Prop :=
  (¬ x2 = 8 → (vp_in x2 8 ∧ ∀ σ_1 : zv_St, σ_1 = zv_wi σ 57 x2.toNatClampNeg x1 → vp_in x2 8 ∧ ∀ σ_2 : zv_St, σ_2 = zv_wi σ_1 58 x2.toNatClampNeg (-1) → vp_in x2 8 ∧ ∀ σ_3 : zv_St, σ_3 = zv_wi σ_2 59 x2.toNatClampNeg (vp_nar .boolean 0) → vp_in x2 8 ∧ ∀ σ_4 : zv_St, σ_4 = zv_wi σ_3 60 x2.toNatClampNeg 0 → Q x2 σ_4)) ∧ (x2 = 8 → (Q (-3) σ))
set_option maxRecDepth 20000 in
set_option maxHeartbeats 2000000 in
theorem k_X11_open_35 {G : zv_G} {X : zv_X} {Q : Int32 → zv_St → Prop}  (hC : zv_C G X M_X11_open) (hR : zv_R G X M_X11_open (zv_qi Q))  {x1 : Int32} {x2 : Int32} {σ : zv_St} (h : B_X11_open_35 Q  x1 x2 σ) : zv_V G X M_X11_open 35 [(0, .ref (G.2.2.1 45)), (1, .int x1), (2, .int x2)] [] σ := by
  unfold B_X11_open_35 at h
  refine zv_iload_n hC dX11_open_35 rfl ?_
  refine zv_bipush (v := 8) hC dX11_open_36 (by decide) ?_
  refine zv_icmp_ne (tgt := 44) hC dX11_open_38 (by decide) (fun c => ?_) (fun c => ?_)
  · replace h := h.1 c
    refine zv_aload_n hC dX11_open_44 rfl ?_
    refine zv_getR (j := 57) hC fl_X11_45 dX11_open_45 rfl rfl ?_
    refine zv_iload_n hC dX11_open_48 rfl ?_
    refine zv_iload_n hC dX11_open_49 rfl ?_
    refine zv_iast hC dX11_open_50 rfl h.1 ?_
    replace h := h.2 _ rfl
    refine zv_aload_n hC dX11_open_51 rfl ?_
    refine zv_getR (j := 58) hC fl_X11_48 dX11_open_52 rfl rfl ?_
    refine zv_iload_n hC dX11_open_55 rfl ?_
    refine zv_iconst (v := (-1)) hC dX11_open_56 (by decide) ?_
    refine zv_iast hC dX11_open_57 rfl h.1 ?_
    replace h := h.2 _ rfl
    refine zv_aload_n hC dX11_open_58 rfl ?_
    refine zv_getR (j := 59) hC fl_X11_51 dX11_open_59 rfl rfl ?_
    refine zv_iload_n hC dX11_open_62 rfl ?_
    refine zv_iconst (v := 0) hC dX11_open_63 (by decide) ?_
    refine zv_zast hC dX11_open_64 rfl h.1 ?_
    replace h := h.2 _ rfl
    refine zv_aload_n hC dX11_open_65 rfl ?_
    refine zv_getR (j := 60) hC fl_X11_54 dX11_open_66 rfl rfl ?_
    refine zv_iload_n hC dX11_open_69 rfl ?_
    refine zv_iconst (v := 0) hC dX11_open_70 (by decide) ?_
    refine zv_iast hC dX11_open_71 rfl h.1 ?_
    replace h := h.2 _ rfl
    refine zv_iload_n hC dX11_open_72 rfl ?_
    exact (hR _ _ _).1 _ rfl dX11_open_73 ⟨_, rfl, h⟩
  · replace h := h.2 c
    refine zv_bipush (v := (-3)) hC dX11_open_41 (by decide) ?_
    exact (hR _ _ _).1 _ rfl dX11_open_43 ⟨_, rfl, h⟩
def L_X11_open_13 (Q : Int32 → zv_St → Prop) : Nat → (Int32 → Int32 → zv_St → Prop)
  | 0 => fun _ _ _ => False
  | u + 1 => fun x1 x2 σ => 
    (8 ≤ x2 → (B_X11_open_35 Q x1 x2 σ)) ∧ (¬ 8 ≤ x2 → (vp_in x2 8 ∧ ((σ.1 57 x2.toNatClampNeg) = (-1) → (B_X11_open_35 Q x1 x2 σ)) ∧ (¬ (σ.1 57 x2.toNatClampNeg) = (-1) → ((L_X11_open_13 Q u) x1 (x2 + 1) σ))))
set_option maxRecDepth 20000 in
set_option maxHeartbeats 2000000 in
theorem kL_X11_open_13 {G : zv_G} {X : zv_X} {Q : Int32 → zv_St → Prop}  (hC : zv_C G X M_X11_open) (hR : zv_R G X M_X11_open (zv_qi Q))  : ∀ (n : Nat) (x1 : Int32) (x2 : Int32) (σ : zv_St), L_X11_open_13 Q  n x1 x2 σ → zv_V G X M_X11_open 13 [(0, .ref (G.2.2.1 45)), (1, .int x1), (2, .int x2)] [] σ := by
  intro n
  induction n with
  | zero => intro x1 x2 σ h; exact h.elim
  | succ n hk13 =>
    intro x1 x2 σ h
    unfold L_X11_open_13 at h
    refine zv_iload_n hC dX11_open_13 rfl ?_
    refine zv_bipush (v := 8) hC dX11_open_14 (by decide) ?_
    refine zv_icmp_ge (tgt := 35) hC dX11_open_16 (by decide) (fun c => ?_) (fun c => ?_)
    · replace h := h.1 c
      exact zv_go (k_X11_open_35 hC hR  h) ⟨rfl, rfl, rfl, trivial⟩
    · replace h := h.2 c
      refine zv_aload_n hC dX11_open_19 rfl ?_
      refine zv_getR (j := 57) hC fl_X11_45 dX11_open_20 rfl rfl ?_
      refine zv_iload_n hC dX11_open_23 rfl ?_
      refine zv_iald hC dX11_open_24 rfl h.1 ?_
      replace h := h.2
      refine zv_iconst (v := (-1)) hC dX11_open_25 (by decide) ?_
      refine zv_icmp_eq (tgt := 35) hC dX11_open_26 (by decide) (fun c => ?_) (fun c => ?_)
      · replace h := h.1 c
        exact zv_go (k_X11_open_35 hC hR  h) ⟨rfl, rfl, rfl, trivial⟩
      · replace h := h.2 c
        refine zv_iinc (v := 1) hC dX11_open_29 rfl (by decide) (by decide) ?_
        refine zv_goto (tgt := 13) hC dX11_open_32 (by decide) ?_
        exact zv_go (hk13 _ _ _ h) ⟨rfl, rfl, rfl, trivial⟩
def B_X11_open (Q : Int32 → zv_St → Prop) (x1 : Int32) (σ : zv_St) : Prop :=
  B_X11_isNode (fun r_2 σ_1 => (¬ r_2 = 0 → (∃ n13, L_X11_open_13 Q n13 x1 0 σ_1)) ∧ (r_2 = 0 → (Q (-2) σ_1))) x1 σ
set_option maxRecDepth 20000 in
set_option maxHeartbeats 2000000 in
theorem k_X11_open_0 {G : zv_G} {X : zv_X} {Q : Int32 → zv_St → Prop}  (hC : zv_C G X M_X11_open) (hR : zv_R G X M_X11_open (zv_qi Q))  {x1 : Int32} {σ : zv_St} (h : B_X11_open Q  x1 σ) : zv_V G X M_X11_open 0 [(0, .ref (G.2.2.1 45)), (1, .int x1)] [] σ := by
  unfold B_X11_open at h
  refine zv_aload_n hC dX11_open_0 rfl ?_
  refine zv_iload_n hC dX11_open_1 rfl ?_
  refine zv_callVi (As := [_]) hC dX11_open_2 Y_X11_isNode lk_X11_123 (by decide) rfl rfl rfl (Nat.le_of_ble_eq_true rfl) (ok_X11_isNode G h) ?_
  intro r_2 σ_1 h
  refine zv_if_ne (tgt := 11) hC dX11_open_5 (by decide) (fun c => ?_) (fun c => ?_)
  · replace h := h.1 c
    refine zv_iconst (v := 0) hC dX11_open_11 (by decide) ?_
    refine zv_istore_n hC dX11_open_12 (by decide) ?_
    obtain ⟨n, h⟩ := h
    exact zv_go (kL_X11_open_13 hC hR  n _ _ _ h) ⟨rfl, rfl, rfl, trivial⟩
  · replace h := h.2 c
    refine zv_bipush (v := (-2)) hC dX11_open_8 (by decide) ?_
    exact (hR _ _ _).1 _ rfl dX11_open_10 ⟨_, rfl, h⟩
theorem ok_X11_open (G : zv_G) {Q : Int32 → zv_St → Prop} {x1 : Int32} {σ : zv_St} (h : B_X11_open Q x1 σ) : zv_OK G M_X11_open yX11_open [.ref (G.2.2.1 45), .int x1] σ (zv_qi Q) := zv_ok G _ _ _ _ _ (by decide +kernel) rfl (Nat.le_of_ble_eq_true rfl) (fun X hC hR => zv_go (k_X11_open_0 hC hR h) ⟨rfl, rfl, trivial⟩)
-- X11_isOpen
def B_X11_isOpen_25 (Q : Int32 → zv_St → Prop) (y0 : Int32) (σ : zv_St) : Prop :=
  narrow .boolean (.int y0) = .int y0 ∧ Q y0 σ
set_option maxRecDepth 20000 in
set_option maxHeartbeats 2000000 in
theorem k_X11_isOpen_25 {G : zv_G} {X : zv_X} {Q : Int32 → zv_St → Prop}  (hC : zv_C G X M_X11_isOpen) (hR : zv_R G X M_X11_isOpen (zv_qi Q))  {y0 : Int32} {σ : zv_St} (h : B_X11_isOpen_25 Q  y0 σ) : zv_V G X M_X11_isOpen 25 [] [.int y0] σ := by
  unfold B_X11_isOpen_25 at h
  exact (hR _ _ _).2.1 _ rfl h.1 dX11_isOpen_25 ⟨_, rfl, h.2⟩
def B_X11_isOpen_24 (Q : Int32 → zv_St → Prop) (σ : zv_St) : Prop :=
  B_X11_isOpen_25 Q 0 σ
set_option maxRecDepth 20000 in
set_option maxHeartbeats 2000000 in
theorem k_X11_isOpen_24 {G : zv_G} {X : zv_X} {Q : Int32 → zv_St → Prop}  (hC : zv_C G X M_X11_isOpen) (hR : zv_R G X M_X11_isOpen (zv_qi Q))   {σ : zv_St} (h : B_X11_isOpen_24 Q   σ) : zv_V G X M_X11_isOpen 24 [] [] σ := by
  unfold B_X11_isOpen_24 at h
  refine zv_iconst (v := 0) hC dX11_isOpen_24 (by decide) ?_
  exact zv_go (k_X11_isOpen_25 hC hR  h) trivial
def B_X11_isOpen (Q : Int32 → zv_St → Prop) (x1 : Int32) (σ : zv_St) : Prop :=
  B_X11_in (fun r_2 σ_1 => (r_2 = 0 → (B_X11_isOpen_24 Q σ_1)) ∧ (¬ r_2 = 0 → (vp_in x1 8 ∧ ((σ_1.1 57 x1.toNatClampNeg) = (-1) → (B_X11_isOpen_24 Q σ_1)) ∧ (¬ (σ_1.1 57 x1.toNatClampNeg) = (-1) → (B_X11_isOpen_25 Q 1 σ_1))))) x1 0 7 σ
set_option maxRecDepth 20000 in
set_option maxHeartbeats 2000000 in
theorem k_X11_isOpen_0 {G : zv_G} {X : zv_X} {Q : Int32 → zv_St → Prop}  (hC : zv_C G X M_X11_isOpen) (hR : zv_R G X M_X11_isOpen (zv_qi Q))  {x1 : Int32} {σ : zv_St} (h : B_X11_isOpen Q  x1 σ) : zv_V G X M_X11_isOpen 0 [(0, .ref (G.2.2.1 45)), (1, .int x1)] [] σ := by
  unfold B_X11_isOpen at h
  refine zv_iload_n hC dX11_isOpen_0 rfl ?_
  refine zv_iconst (v := 0) hC dX11_isOpen_1 (by decide) ?_
  refine zv_bipush (v := 7) hC dX11_isOpen_2 (by decide) ?_
  refine zv_callSi (As := [_, _, _]) hC dX11_isOpen_4 Y_X11_in lk_X11_103 (by decide) rfl rfl (Nat.le_of_ble_eq_true rfl) (ok_X11_in G h) ?_
  intro r_2 σ_1 h
  refine zv_if_eq (tgt := 24) hC dX11_isOpen_7 (by decide) (fun c => ?_) (fun c => ?_)
  · replace h := h.1 c
    exact zv_go (k_X11_isOpen_24 hC hR  h) trivial
  · replace h := h.2 c
    refine zv_aload_n hC dX11_isOpen_10 rfl ?_
    refine zv_getR (j := 57) hC fl_X11_45 dX11_isOpen_11 rfl rfl ?_
    refine zv_iload_n hC dX11_isOpen_14 rfl ?_
    refine zv_iald hC dX11_isOpen_15 rfl h.1 ?_
    replace h := h.2
    refine zv_iconst (v := (-1)) hC dX11_isOpen_16 (by decide) ?_
    refine zv_icmp_eq (tgt := 24) hC dX11_isOpen_17 (by decide) (fun c => ?_) (fun c => ?_)
    · replace h := h.1 c
      exact zv_go (k_X11_isOpen_24 hC hR  h) trivial
    · replace h := h.2 c
      refine zv_iconst (v := 1) hC dX11_isOpen_20 (by decide) ?_
      refine zv_goto (tgt := 25) hC dX11_isOpen_21 (by decide) ?_
      exact zv_go (k_X11_isOpen_25 hC hR  h) trivial
theorem ok_X11_isOpen (G : zv_G) {Q : Int32 → zv_St → Prop} {x1 : Int32} {σ : zv_St} (h : B_X11_isOpen Q x1 σ) : zv_OK G M_X11_isOpen yX11_isOpen [.ref (G.2.2.1 45), .int x1] σ (zv_qi Q) := zv_ok G _ _ _ _ _ (by decide +kernel) rfl (Nat.le_of_ble_eq_true rfl) (fun X hC hR => zv_go (k_X11_isOpen_0 hC hR h) ⟨rfl, rfl, trivial⟩)
-- X11_next
def B_X11_next_15 (Q : Int32 → zv_St → Prop) (σ : zv_St) : Prop :=
  Q (-2) σ
set_option maxRecDepth 20000 in
set_option maxHeartbeats 2000000 in
theorem k_X11_next_15 {G : zv_G} {X : zv_X} {Q : Int32 → zv_St → Prop}  (hC : zv_C G X M_X11_next) (hR : zv_R G X M_X11_next (zv_qi Q))   {σ : zv_St} (h : B_X11_next_15 Q   σ) : zv_V G X M_X11_next 15 [] [] σ := by
  unfold B_X11_next_15 at h
  refine zv_bipush (v := (-2)) hC dX11_next_15 (by decide) ?_
  exact (hR _ _ _).1 _ rfl dX11_next_17 ⟨_, rfl, h⟩
def B_X11_next_93 (Q : Int32 → zv_St → Prop) (x1 : Int32) (σ : zv_St) : Prop :=
  vp_in x1 8 ∧ ∀ σ_1 : zv_St, σ_1 = zv_wi σ 59 x1.toNatClampNeg (vp_nar .boolean 1) → Q (-1) σ_1
set_option maxRecDepth 20000 in
set_option maxHeartbeats 2000000 in
theorem k_X11_next_93 {G : zv_G} {X : zv_X} {Q : Int32 → zv_St → Prop}  (hC : zv_C G X M_X11_next) (hR : zv_R G X M_X11_next (zv_qi Q))  {x1 : Int32} {σ : zv_St} (h : B_X11_next_93 Q  x1 σ) : zv_V G X M_X11_next 93 [(0, .ref (G.2.2.1 45)), (1, .int x1)] [] σ := by
  unfold B_X11_next_93 at h
  refine zv_aload_n hC dX11_next_93 rfl ?_
  refine zv_getR (j := 59) hC fl_X11_51 dX11_next_94 rfl rfl ?_
  refine zv_iload_n hC dX11_next_97 rfl ?_
  refine zv_iconst (v := 1) hC dX11_next_98 (by decide) ?_
  refine zv_zast hC dX11_next_99 rfl h.1 ?_
  replace h := h.2 _ rfl
  refine zv_iconst (v := (-1)) hC dX11_next_100 (by decide) ?_
  exact (hR _ _ _).1 _ rfl dX11_next_101 ⟨_, rfl, h⟩
def B_X11_next_77 (Q : Int32 → zv_St → Prop) (x1 : Int32) (x3 : Int32) (σ : zv_St) : Prop :=
  vp_in x1 8 ∧ (¬ (σ.1 59 x1.toNatClampNeg) = 0 → (B_X11_next_93 Q x1 σ)) ∧ ((σ.1 59 x1.toNatClampNeg) = 0 → ((x3 < 512 → (vp_in x1 8 ∧ ∀ σ_1 : zv_St, σ_1 = zv_wi σ 58 x1.toNatClampNeg x3 → vp_in x1 8 ∧ vp_in x1 8 ∧ ∀ σ_2 : zv_St, σ_2 = zv_wi σ_1 60 x1.toNatClampNeg ((σ_1.1 60 x1.toNatClampNeg) + 1) → Q x3 σ_2)) ∧ (¬ x3 < 512 → (B_X11_next_93 Q x1 σ))))
set_option maxRecDepth 20000 in
set_option maxHeartbeats 2000000 in
theorem k_X11_next_77 {G : zv_G} {X : zv_X} {Q : Int32 → zv_St → Prop}  (hC : zv_C G X M_X11_next) (hR : zv_R G X M_X11_next (zv_qi Q))  {x1 : Int32} {x3 : Int32} {σ : zv_St} (h : B_X11_next_77 Q  x1 x3 σ) : zv_V G X M_X11_next 77 [(0, .ref (G.2.2.1 45)), (1, .int x1), (3, .int x3)] [] σ := by
  unfold B_X11_next_77 at h
  refine zv_aload_n hC dX11_next_77 rfl ?_
  refine zv_getR (j := 59) hC fl_X11_51 dX11_next_78 rfl rfl ?_
  refine zv_iload_n hC dX11_next_81 rfl ?_
  refine zv_zald hC dX11_next_82 rfl h.1 ?_
  replace h := h.2
  refine zv_if_ne (tgt := 93) hC dX11_next_83 (by decide) (fun c => ?_) (fun c => ?_)
  · replace h := h.1 c
    exact zv_go (k_X11_next_93 hC hR  h) ⟨rfl, rfl, trivial⟩
  · replace h := h.2 c
    refine zv_iload_n hC dX11_next_86 rfl ?_
    refine zv_sipush (v := 512) hC dX11_next_87 (by decide) ?_
    refine zv_icmp_lt (tgt := 102) hC dX11_next_90 (by decide) (fun c => ?_) (fun c => ?_)
    · replace h := h.1 c
      refine zv_aload_n hC dX11_next_102 rfl ?_
      refine zv_getR (j := 58) hC fl_X11_48 dX11_next_103 rfl rfl ?_
      refine zv_iload_n hC dX11_next_106 rfl ?_
      refine zv_iload_n hC dX11_next_107 rfl ?_
      refine zv_iast hC dX11_next_108 rfl h.1 ?_
      replace h := h.2 _ rfl
      refine zv_aload_n hC dX11_next_109 rfl ?_
      refine zv_getR (j := 60) hC fl_X11_54 dX11_next_110 rfl rfl ?_
      refine zv_iload_n hC dX11_next_113 rfl ?_
      refine zv_dup2 hC dX11_next_114 rfl rfl ?_
      refine zv_iald hC dX11_next_115 rfl h.1 ?_
      replace h := h.2
      refine zv_iconst (v := 1) hC dX11_next_116 (by decide) ?_
      refine zv_iadd hC dX11_next_117 ?_
      refine zv_iast hC dX11_next_118 rfl h.1 ?_
      replace h := h.2 _ rfl
      refine zv_iload_n hC dX11_next_119 rfl ?_
      exact (hR _ _ _).1 _ rfl dX11_next_120 ⟨_, rfl, h⟩
    · replace h := h.2 c
      exact zv_go (k_X11_next_93 hC hR  h) ⟨rfl, rfl, trivial⟩
def L_X11_next_41 (Q : Int32 → zv_St → Prop) : Nat → (Int32 → Int32 → zv_St → Prop)
  | 0 => fun _ _ _ => False
  | u + 1 => fun x1 x3 σ => 
    vp_in x1 8 ∧ (¬ (σ.1 59 x1.toNatClampNeg) = 0 → (B_X11_next_77 Q x1 x3 σ)) ∧ ((σ.1 59 x1.toNatClampNeg) = 0 → ((512 ≤ x3 → (B_X11_next_77 Q x1 x3 σ)) ∧ (¬ 512 ≤ x3 → (vp_in x1 8 ∧ B_X11_go (fun r_2 σ_1 => (¬ r_2 = 0 → (B_X11_next_77 Q x1 x3 σ_1)) ∧ (r_2 = 0 → ((L_X11_next_41 Q u) x1 (x3 + 1) σ_1))) (σ.1 57 x1.toNatClampNeg) x3 σ))))
set_option maxRecDepth 20000 in
set_option maxHeartbeats 2000000 in
theorem kL_X11_next_41 {G : zv_G} {X : zv_X} {Q : Int32 → zv_St → Prop}  (hC : zv_C G X M_X11_next) (hR : zv_R G X M_X11_next (zv_qi Q))  : ∀ (n : Nat) (x1 : Int32) (x3 : Int32) (σ : zv_St), L_X11_next_41 Q  n x1 x3 σ → zv_V G X M_X11_next 41 [(0, .ref (G.2.2.1 45)), (1, .int x1), (3, .int x3)] [] σ := by
  intro n
  induction n with
  | zero => intro x1 x3 σ h; exact h.elim
  | succ n hk41 =>
    intro x1 x3 σ h
    unfold L_X11_next_41 at h
    refine zv_aload_n hC dX11_next_41 rfl ?_
    refine zv_getR (j := 59) hC fl_X11_51 dX11_next_42 rfl rfl ?_
    refine zv_iload_n hC dX11_next_45 rfl ?_
    refine zv_zald hC dX11_next_46 rfl h.1 ?_
    replace h := h.2
    refine zv_if_ne (tgt := 77) hC dX11_next_47 (by decide) (fun c => ?_) (fun c => ?_)
    · replace h := h.1 c
      exact zv_go (k_X11_next_77 hC hR  h) ⟨rfl, rfl, rfl, trivial⟩
    · replace h := h.2 c
      refine zv_iload_n hC dX11_next_50 rfl ?_
      refine zv_sipush (v := 512) hC dX11_next_51 (by decide) ?_
      refine zv_icmp_ge (tgt := 77) hC dX11_next_54 (by decide) (fun c => ?_) (fun c => ?_)
      · replace h := h.1 c
        exact zv_go (k_X11_next_77 hC hR  h) ⟨rfl, rfl, rfl, trivial⟩
      · replace h := h.2 c
        refine zv_aload_n hC dX11_next_57 rfl ?_
        refine zv_aload_n hC dX11_next_58 rfl ?_
        refine zv_getR (j := 57) hC fl_X11_45 dX11_next_59 rfl rfl ?_
        refine zv_iload_n hC dX11_next_62 rfl ?_
        refine zv_iald hC dX11_next_63 rfl h.1 ?_
        replace h := h.2
        refine zv_iload_n hC dX11_next_64 rfl ?_
        refine zv_callVi (As := [_, _]) hC dX11_next_65 Y_X11_go lk_X11_172 (by decide) rfl rfl rfl (Nat.le_of_ble_eq_true rfl) (ok_X11_go G h) ?_
        intro r_2 σ_1 h
        refine zv_if_ne (tgt := 77) hC dX11_next_68 (by decide) (fun c => ?_) (fun c => ?_)
        · replace h := h.1 c
          exact zv_go (k_X11_next_77 hC hR  h) ⟨rfl, rfl, rfl, trivial⟩
        · replace h := h.2 c
          refine zv_iinc (v := 1) hC dX11_next_71 rfl (by decide) (by decide) ?_
          refine zv_goto (tgt := 41) hC dX11_next_74 (by decide) ?_
          exact zv_go (hk41 _ _ _ h) ⟨rfl, rfl, rfl, trivial⟩
def B_X11_next_40 (Q : Int32 → zv_St → Prop) (x1 : Int32) (y0 : Int32) (σ : zv_St) : Prop :=
  ∃ n41, L_X11_next_41 Q n41 x1 y0 σ
set_option maxRecDepth 20000 in
set_option maxHeartbeats 2000000 in
theorem k_X11_next_40 {G : zv_G} {X : zv_X} {Q : Int32 → zv_St → Prop}  (hC : zv_C G X M_X11_next) (hR : zv_R G X M_X11_next (zv_qi Q))  {x1 : Int32} {y0 : Int32} {σ : zv_St} (h : B_X11_next_40 Q  x1 y0 σ) : zv_V G X M_X11_next 40 [(0, .ref (G.2.2.1 45)), (1, .int x1)] [.int y0] σ := by
  unfold B_X11_next_40 at h
  refine zv_istore_n hC dX11_next_40 (by decide) ?_
  obtain ⟨n, h⟩ := h
  exact zv_go (kL_X11_next_41 hC hR  n _ _ _ h) ⟨rfl, rfl, rfl, trivial⟩
def B_X11_next (Q : Int32 → zv_St → Prop) (x1 : Int32) (x2 : Int32) (σ : zv_St) : Prop :=
  B_X11_isOpen (fun r_2 σ_1 => (r_2 = 0 → (B_X11_next_15 Q σ_1)) ∧ (¬ r_2 = 0 → (B_X11_isObject (fun r_4 σ_3 => (¬ r_4 = 0 → (vp_in x1 8 ∧ (x2 ≤ (σ_3.1 58 x1.toNatClampNeg) → (vp_in x1 8 ∧ B_X11_next_40 Q x1 ((σ_3.1 58 x1.toNatClampNeg) + 1) σ_3)) ∧ (¬ x2 ≤ (σ_3.1 58 x1.toNatClampNeg) → (B_X11_next_40 Q x1 x2 σ_3)))) ∧ (r_4 = 0 → (B_X11_next_15 Q σ_3))) x2 σ_1))) x1 σ
set_option maxRecDepth 20000 in
set_option maxHeartbeats 2000000 in
theorem k_X11_next_0 {G : zv_G} {X : zv_X} {Q : Int32 → zv_St → Prop}  (hC : zv_C G X M_X11_next) (hR : zv_R G X M_X11_next (zv_qi Q))  {x1 : Int32} {x2 : Int32} {σ : zv_St} (h : B_X11_next Q  x1 x2 σ) : zv_V G X M_X11_next 0 [(0, .ref (G.2.2.1 45)), (1, .int x1), (2, .int x2)] [] σ := by
  unfold B_X11_next at h
  refine zv_aload_n hC dX11_next_0 rfl ?_
  refine zv_iload_n hC dX11_next_1 rfl ?_
  refine zv_callVi (As := [_]) hC dX11_next_2 Y_X11_isOpen lk_X11_183 (by decide) rfl rfl rfl (Nat.le_of_ble_eq_true rfl) (ok_X11_isOpen G h) ?_
  intro r_2 σ_1 h
  refine zv_if_eq (tgt := 15) hC dX11_next_5 (by decide) (fun c => ?_) (fun c => ?_)
  · replace h := h.1 c
    exact zv_go (k_X11_next_15 hC hR  h) trivial
  · replace h := h.2 c
    refine zv_iload_n hC dX11_next_8 rfl ?_
    refine zv_callSi (As := [_]) hC dX11_next_9 Y_X11_isObject lk_X11_115 (by decide) rfl rfl (Nat.le_of_ble_eq_true rfl) (ok_X11_isObject G h) ?_
    intro r_4 σ_3 h
    refine zv_if_ne (tgt := 18) hC dX11_next_12 (by decide) (fun c => ?_) (fun c => ?_)
    · replace h := h.1 c
      refine zv_iload_n hC dX11_next_18 rfl ?_
      refine zv_aload_n hC dX11_next_19 rfl ?_
      refine zv_getR (j := 58) hC fl_X11_48 dX11_next_20 rfl rfl ?_
      refine zv_iload_n hC dX11_next_23 rfl ?_
      refine zv_iald hC dX11_next_24 rfl h.1 ?_
      replace h := h.2
      refine zv_icmp_le (tgt := 32) hC dX11_next_25 (by decide) (fun c => ?_) (fun c => ?_)
      · replace h := h.1 c
        refine zv_aload_n hC dX11_next_32 rfl ?_
        refine zv_getR (j := 58) hC fl_X11_48 dX11_next_33 rfl rfl ?_
        refine zv_iload_n hC dX11_next_36 rfl ?_
        refine zv_iald hC dX11_next_37 rfl h.1 ?_
        replace h := h.2
        refine zv_iconst (v := 1) hC dX11_next_38 (by decide) ?_
        refine zv_iadd hC dX11_next_39 ?_
        exact zv_go (k_X11_next_40 hC hR  h) ⟨rfl, rfl, trivial⟩
      · replace h := h.2 c
        refine zv_iload_n hC dX11_next_28 rfl ?_
        refine zv_goto (tgt := 40) hC dX11_next_29 (by decide) ?_
        exact zv_go (k_X11_next_40 hC hR  h) ⟨rfl, rfl, trivial⟩
    · replace h := h.2 c
      exact zv_go (k_X11_next_15 hC hR  h) trivial
theorem ok_X11_next (G : zv_G) {Q : Int32 → zv_St → Prop} {x1 : Int32} {x2 : Int32} {σ : zv_St} (h : B_X11_next Q x1 x2 σ) : zv_OK G M_X11_next yX11_next [.ref (G.2.2.1 45), .int x1, .int x2] σ (zv_qi Q) := zv_ok G _ _ _ _ _ (by decide +kernel) rfl (Nat.le_of_ble_eq_true rfl) (fun X hC hR => zv_go (k_X11_next_0 hC hR h) ⟨rfl, rfl, rfl, trivial⟩)
-- X11_close
def B_X11_close (Q : Int32 → zv_St → Prop) (x1 : Int32) (σ : zv_St) : Prop :=
  B_X11_isOpen (fun r_2 σ_1 => (¬ r_2 = 0 → (vp_in x1 8 ∧ ∀ σ_3 : zv_St, σ_3 = zv_wi σ_1 57 x1.toNatClampNeg (-1) → vp_in x1 8 ∧ Q (σ_3.1 60 x1.toNatClampNeg) σ_3)) ∧ (r_2 = 0 → (Q (-2) σ_1))) x1 σ
set_option maxRecDepth 20000 in
set_option maxHeartbeats 2000000 in
theorem k_X11_close_0 {G : zv_G} {X : zv_X} {Q : Int32 → zv_St → Prop}  (hC : zv_C G X M_X11_close) (hR : zv_R G X M_X11_close (zv_qi Q))  {x1 : Int32} {σ : zv_St} (h : B_X11_close Q  x1 σ) : zv_V G X M_X11_close 0 [(0, .ref (G.2.2.1 45)), (1, .int x1)] [] σ := by
  unfold B_X11_close at h
  refine zv_aload_n hC dX11_close_0 rfl ?_
  refine zv_iload_n hC dX11_close_1 rfl ?_
  refine zv_callVi (As := [_]) hC dX11_close_2 Y_X11_isOpen lk_X11_183 (by decide) rfl rfl rfl (Nat.le_of_ble_eq_true rfl) (ok_X11_isOpen G h) ?_
  intro r_2 σ_1 h
  refine zv_if_ne (tgt := 11) hC dX11_close_5 (by decide) (fun c => ?_) (fun c => ?_)
  · replace h := h.1 c
    refine zv_aload_n hC dX11_close_11 rfl ?_
    refine zv_getR (j := 57) hC fl_X11_45 dX11_close_12 rfl rfl ?_
    refine zv_iload_n hC dX11_close_15 rfl ?_
    refine zv_iconst (v := (-1)) hC dX11_close_16 (by decide) ?_
    refine zv_iast hC dX11_close_17 rfl h.1 ?_
    replace h := h.2 _ rfl
    refine zv_aload_n hC dX11_close_18 rfl ?_
    refine zv_getR (j := 60) hC fl_X11_54 dX11_close_19 rfl rfl ?_
    refine zv_iload_n hC dX11_close_22 rfl ?_
    refine zv_iald hC dX11_close_23 rfl h.1 ?_
    replace h := h.2
    exact (hR _ _ _).1 _ rfl dX11_close_24 ⟨_, rfl, h⟩
  · replace h := h.2 c
    refine zv_bipush (v := (-2)) hC dX11_close_8 (by decide) ?_
    exact (hR _ _ _).1 _ rfl dX11_close_10 ⟨_, rfl, h⟩
theorem ok_X11_close (G : zv_G) {Q : Int32 → zv_St → Prop} {x1 : Int32} {σ : zv_St} (h : B_X11_close Q x1 σ) : zv_OK G M_X11_close yX11_close [.ref (G.2.2.1 45), .int x1] σ (zv_qi Q) := zv_ok G _ _ _ _ _ (by decide +kernel) rfl (Nat.le_of_ble_eq_true rfl) (fun X hC hR => zv_go (k_X11_close_0 hC hR h) ⟨rfl, rfl, trivial⟩)
-- X11_so
def B_X11_so_162 (Q : Int32 → zv_St → Prop) (kk3 : Int32 → Int32 → Int32 → Int32 → zv_St → Prop) (x1 : Int32) (x2 : Int32) (x3 : Int32) (x4 : Int32) (x5 : Int32) (σ : zv_St) : Prop :=
  (x5 = 0 → (kk3 x1 x2 x3 (x4 + 1) σ)) ∧ (¬ x5 = 0 → (Q x4 σ))
set_option maxRecDepth 20000 in
set_option maxHeartbeats 2000000 in
theorem k_X11_so_162 {G : zv_G} {X : zv_X} {Q : Int32 → zv_St → Prop} {kk3 : Int32 → Int32 → Int32 → Int32 → zv_St → Prop} (hC : zv_C G X M_X11_so) (hR : zv_R G X M_X11_so (zv_qi Q)) (hk3 : ∀ (x1 : Int32) (x2 : Int32) (x3 : Int32) (x4 : Int32) (σ : zv_St), kk3 x1 x2 x3 x4 σ → zv_V G X M_X11_so 3 [(0, .ref (G.2.2.1 45)), (1, .int x1), (2, .int x2), (3, .int x3), (4, .int x4)] [] σ) {x1 : Int32} {x2 : Int32} {x3 : Int32} {x4 : Int32} {x5 : Int32} {σ : zv_St} (h : B_X11_so_162 Q kk3 x1 x2 x3 x4 x5 σ) : zv_V G X M_X11_so 162 [(0, .ref (G.2.2.1 45)), (1, .int x1), (2, .int x2), (3, .int x3), (4, .int x4), (5, .int x5)] [] σ := by
  unfold B_X11_so_162 at h
  refine zv_iload hC dX11_so_162 rfl ?_
  refine zv_if_eq (tgt := 170) hC dX11_so_164 (by decide) (fun c => ?_) (fun c => ?_)
  · replace h := h.1 c
    refine zv_iinc (v := 1) hC dX11_so_170 rfl (by decide) (by decide) ?_
    refine zv_goto (tgt := 3) hC dX11_so_173 (by decide) ?_
    exact zv_go (hk3 _ _ _ _ _ h) ⟨rfl, rfl, rfl, rfl, rfl, trivial⟩
  · replace h := h.2 c
    refine zv_iload hC dX11_so_167 rfl ?_
    exact (hR _ _ _).1 _ rfl dX11_so_169 ⟨_, rfl, h⟩
def B_X11_so_154 (Q : Int32 → zv_St → Prop) (kk3 : Int32 → Int32 → Int32 → Int32 → zv_St → Prop) (kk79 : Int32 → Int32 → Int32 → Int32 → Int32 → Int32 → zv_St → Prop) (x1 : Int32) (x2 : Int32) (x3 : Int32) (x4 : Int32) (x6 : Int32) (y0 : Int32) (σ : zv_St) : Prop :=
  kk79 x1 x2 x3 x4 y0 (x6 + 1) σ
set_option maxRecDepth 20000 in
set_option maxHeartbeats 2000000 in
theorem k_X11_so_154 {G : zv_G} {X : zv_X} {Q : Int32 → zv_St → Prop} {kk3 : Int32 → Int32 → Int32 → Int32 → zv_St → Prop} {kk79 : Int32 → Int32 → Int32 → Int32 → Int32 → Int32 → zv_St → Prop} (hC : zv_C G X M_X11_so) (hR : zv_R G X M_X11_so (zv_qi Q)) (hk3 : ∀ (x1 : Int32) (x2 : Int32) (x3 : Int32) (x4 : Int32) (σ : zv_St), kk3 x1 x2 x3 x4 σ → zv_V G X M_X11_so 3 [(0, .ref (G.2.2.1 45)), (1, .int x1), (2, .int x2), (3, .int x3), (4, .int x4)] [] σ) (hk79 : ∀ (x1 : Int32) (x2 : Int32) (x3 : Int32) (x4 : Int32) (x5 : Int32) (x6 : Int32) (σ : zv_St), kk79 x1 x2 x3 x4 x5 x6 σ → zv_V G X M_X11_so 79 [(0, .ref (G.2.2.1 45)), (1, .int x1), (2, .int x2), (3, .int x3), (4, .int x4), (5, .int x5), (6, .int x6)] [] σ) {x1 : Int32} {x2 : Int32} {x3 : Int32} {x4 : Int32} {x6 : Int32} {y0 : Int32} {σ : zv_St} (h : B_X11_so_154 Q kk3 kk79 x1 x2 x3 x4 x6 y0 σ) : zv_V G X M_X11_so 154 [(0, .ref (G.2.2.1 45)), (1, .int x1), (2, .int x2), (3, .int x3), (4, .int x4), (6, .int x6)] [.int y0] σ := by
  unfold B_X11_so_154 at h
  refine zv_istore hC dX11_so_154 (by decide) ?_
  refine zv_iinc (v := 1) hC dX11_so_156 rfl (by decide) (by decide) ?_
  refine zv_goto (tgt := 79) hC dX11_so_159 (by decide) ?_
  exact zv_go (hk79 _ _ _ _ _ _ _ h) ⟨rfl, rfl, rfl, rfl, rfl, rfl, rfl, trivial⟩
def B_X11_so_153 (Q : Int32 → zv_St → Prop) (kk3 : Int32 → Int32 → Int32 → Int32 → zv_St → Prop) (kk79 : Int32 → Int32 → Int32 → Int32 → Int32 → Int32 → zv_St → Prop) (x1 : Int32) (x2 : Int32) (x3 : Int32) (x4 : Int32) (x6 : Int32) (σ : zv_St) : Prop :=
  B_X11_so_154 Q kk3 kk79 x1 x2 x3 x4 x6 0 σ
set_option maxRecDepth 20000 in
set_option maxHeartbeats 2000000 in
theorem k_X11_so_153 {G : zv_G} {X : zv_X} {Q : Int32 → zv_St → Prop} {kk3 : Int32 → Int32 → Int32 → Int32 → zv_St → Prop} {kk79 : Int32 → Int32 → Int32 → Int32 → Int32 → Int32 → zv_St → Prop} (hC : zv_C G X M_X11_so) (hR : zv_R G X M_X11_so (zv_qi Q)) (hk3 : ∀ (x1 : Int32) (x2 : Int32) (x3 : Int32) (x4 : Int32) (σ : zv_St), kk3 x1 x2 x3 x4 σ → zv_V G X M_X11_so 3 [(0, .ref (G.2.2.1 45)), (1, .int x1), (2, .int x2), (3, .int x3), (4, .int x4)] [] σ) (hk79 : ∀ (x1 : Int32) (x2 : Int32) (x3 : Int32) (x4 : Int32) (x5 : Int32) (x6 : Int32) (σ : zv_St), kk79 x1 x2 x3 x4 x5 x6 σ → zv_V G X M_X11_so 79 [(0, .ref (G.2.2.1 45)), (1, .int x1), (2, .int x2), (3, .int x3), (4, .int x4), (5, .int x5), (6, .int x6)] [] σ) {x1 : Int32} {x2 : Int32} {x3 : Int32} {x4 : Int32} {x6 : Int32} {σ : zv_St} (h : B_X11_so_153 Q kk3 kk79 x1 x2 x3 x4 x6 σ) : zv_V G X M_X11_so 153 [(0, .ref (G.2.2.1 45)), (1, .int x1), (2, .int x2), (3, .int x3), (4, .int x4), (6, .int x6)] [] σ := by
  unfold B_X11_so_153 at h
  refine zv_iconst (v := 0) hC dX11_so_153 (by decide) ?_
  exact zv_go (k_X11_so_154 hC hR hk3 hk79 h) ⟨rfl, rfl, rfl, rfl, rfl, rfl, trivial⟩
def B_X11_so_103 (Q : Int32 → zv_St → Prop) (kk3 : Int32 → Int32 → Int32 → Int32 → zv_St → Prop) (kk79 : Int32 → Int32 → Int32 → Int32 → Int32 → Int32 → zv_St → Prop) (x1 : Int32) (x2 : Int32) (x3 : Int32) (x4 : Int32) (x6 : Int32) (σ : zv_St) : Prop :=
  vp_in ((8 * x4) + x6) 640 ∧ vp_in x6 80 ∧ (¬ (σ.1 52 ((8 * x4) + x6).toNatClampNeg) = (σ.1 73 x6.toNatClampNeg) → (B_X11_so_153 Q kk3 kk79 x1 x2 x3 x4 x6 σ)) ∧ ((σ.1 52 ((8 * x4) + x6).toNatClampNeg) = (σ.1 73 x6.toNatClampNeg) → (vp_in ((8 * x4) + x6) 640 ∧ vp_in x6 80 ∧ (¬ (σ.1 53 ((8 * x4) + x6).toNatClampNeg) = (σ.1 74 x6.toNatClampNeg) → (B_X11_so_153 Q kk3 kk79 x1 x2 x3 x4 x6 σ)) ∧ ((σ.1 53 ((8 * x4) + x6).toNatClampNeg) = (σ.1 74 x6.toNatClampNeg) → (B_X11_so_154 Q kk3 kk79 x1 x2 x3 x4 x6 1 σ))))
set_option maxRecDepth 20000 in
set_option maxHeartbeats 2000000 in
theorem k_X11_so_103 {G : zv_G} {X : zv_X} {Q : Int32 → zv_St → Prop} {kk3 : Int32 → Int32 → Int32 → Int32 → zv_St → Prop} {kk79 : Int32 → Int32 → Int32 → Int32 → Int32 → Int32 → zv_St → Prop} (hC : zv_C G X M_X11_so) (hR : zv_R G X M_X11_so (zv_qi Q)) (hk3 : ∀ (x1 : Int32) (x2 : Int32) (x3 : Int32) (x4 : Int32) (σ : zv_St), kk3 x1 x2 x3 x4 σ → zv_V G X M_X11_so 3 [(0, .ref (G.2.2.1 45)), (1, .int x1), (2, .int x2), (3, .int x3), (4, .int x4)] [] σ) (hk79 : ∀ (x1 : Int32) (x2 : Int32) (x3 : Int32) (x4 : Int32) (x5 : Int32) (x6 : Int32) (σ : zv_St), kk79 x1 x2 x3 x4 x5 x6 σ → zv_V G X M_X11_so 79 [(0, .ref (G.2.2.1 45)), (1, .int x1), (2, .int x2), (3, .int x3), (4, .int x4), (5, .int x5), (6, .int x6)] [] σ) {x1 : Int32} {x2 : Int32} {x3 : Int32} {x4 : Int32} {x6 : Int32} {σ : zv_St} (h : B_X11_so_103 Q kk3 kk79 x1 x2 x3 x4 x6 σ) : zv_V G X M_X11_so 103 [(0, .ref (G.2.2.1 45)), (1, .int x1), (2, .int x2), (3, .int x3), (4, .int x4), (6, .int x6)] [] σ := by
  unfold B_X11_so_103 at h
  refine zv_aload_n hC dX11_so_103 rfl ?_
  refine zv_getR (j := 52) hC fl_X11_28 dX11_so_104 rfl rfl ?_
  refine zv_bipush (v := 8) hC dX11_so_107 (by decide) ?_
  refine zv_iload hC dX11_so_109 rfl ?_
  refine zv_imul hC dX11_so_111 ?_
  refine zv_iload hC dX11_so_112 rfl ?_
  refine zv_iadd hC dX11_so_114 ?_
  refine zv_iald hC dX11_so_115 rfl h.1 ?_
  replace h := h.2
  refine zv_aload_n hC dX11_so_116 rfl ?_
  refine zv_getR (j := 73) hC fl_X11_94 dX11_so_117 rfl rfl ?_
  refine zv_iload hC dX11_so_120 rfl ?_
  refine zv_iald hC dX11_so_122 rfl h.1 ?_
  replace h := h.2
  refine zv_icmp_ne (tgt := 153) hC dX11_so_123 (by decide) (fun c => ?_) (fun c => ?_)
  · replace h := h.1 c
    exact zv_go (k_X11_so_153 hC hR hk3 hk79 h) ⟨rfl, rfl, rfl, rfl, rfl, rfl, trivial⟩
  · replace h := h.2 c
    refine zv_aload_n hC dX11_so_126 rfl ?_
    refine zv_getR (j := 53) hC fl_X11_31 dX11_so_127 rfl rfl ?_
    refine zv_bipush (v := 8) hC dX11_so_130 (by decide) ?_
    refine zv_iload hC dX11_so_132 rfl ?_
    refine zv_imul hC dX11_so_134 ?_
    refine zv_iload hC dX11_so_135 rfl ?_
    refine zv_iadd hC dX11_so_137 ?_
    refine zv_iald hC dX11_so_138 rfl h.1 ?_
    replace h := h.2
    refine zv_aload_n hC dX11_so_139 rfl ?_
    refine zv_getR (j := 74) hC fl_X11_97 dX11_so_140 rfl rfl ?_
    refine zv_iload hC dX11_so_143 rfl ?_
    refine zv_iald hC dX11_so_145 rfl h.1 ?_
    replace h := h.2
    refine zv_icmp_ne (tgt := 153) hC dX11_so_146 (by decide) (fun c => ?_) (fun c => ?_)
    · replace h := h.1 c
      exact zv_go (k_X11_so_153 hC hR hk3 hk79 h) ⟨rfl, rfl, rfl, rfl, rfl, rfl, trivial⟩
    · replace h := h.2 c
      refine zv_iconst (v := 1) hC dX11_so_149 (by decide) ?_
      refine zv_goto (tgt := 154) hC dX11_so_150 (by decide) ?_
      exact zv_go (k_X11_so_154 hC hR hk3 hk79 h) ⟨rfl, rfl, rfl, rfl, rfl, rfl, trivial⟩
def L_X11_so_79 (Q : Int32 → zv_St → Prop) (kk3 : Int32 → Int32 → Int32 → Int32 → zv_St → Prop) : Nat → (Int32 → Int32 → Int32 → Int32 → Int32 → Int32 → zv_St → Prop)
  | 0 => fun _ _ _ _ _ _ _ => False
  | u + 1 => fun x1 x2 x3 x4 x5 x6 σ => 
    ((σ.1 45 34) ≤ x6 → (B_X11_so_162 Q kk3 x1 x2 x3 x4 x5 σ)) ∧ (¬ (σ.1 45 34) ≤ x6 → ((x5 = 0 → (B_X11_so_162 Q kk3 x1 x2 x3 x4 x5 σ)) ∧ (¬ x5 = 0 → ((x1 = 2 → (B_X11_so_103 Q kk3 (L_X11_so_79 Q kk3 u) x1 x2 x3 x4 x6 σ)) ∧ (¬ x1 = 2 → ((¬ x1 = 3 → (B_X11_so_162 Q kk3 x1 x2 x3 x4 x5 σ)) ∧ (x1 = 3 → (B_X11_so_103 Q kk3 (L_X11_so_79 Q kk3 u) x1 x2 x3 x4 x6 σ))))))))
set_option maxRecDepth 20000 in
set_option maxHeartbeats 2000000 in
theorem kL_X11_so_79 {G : zv_G} {X : zv_X} {Q : Int32 → zv_St → Prop} {kk3 : Int32 → Int32 → Int32 → Int32 → zv_St → Prop} (hC : zv_C G X M_X11_so) (hR : zv_R G X M_X11_so (zv_qi Q)) (hk3 : ∀ (x1 : Int32) (x2 : Int32) (x3 : Int32) (x4 : Int32) (σ : zv_St), kk3 x1 x2 x3 x4 σ → zv_V G X M_X11_so 3 [(0, .ref (G.2.2.1 45)), (1, .int x1), (2, .int x2), (3, .int x3), (4, .int x4)] [] σ) : ∀ (n : Nat) (x1 : Int32) (x2 : Int32) (x3 : Int32) (x4 : Int32) (x5 : Int32) (x6 : Int32) (σ : zv_St), L_X11_so_79 Q kk3 n x1 x2 x3 x4 x5 x6 σ → zv_V G X M_X11_so 79 [(0, .ref (G.2.2.1 45)), (1, .int x1), (2, .int x2), (3, .int x3), (4, .int x4), (5, .int x5), (6, .int x6)] [] σ := by
  intro n
  induction n with
  | zero => intro x1 x2 x3 x4 x5 x6 σ h; exact h.elim
  | succ n hk79 =>
    intro x1 x2 x3 x4 x5 x6 σ h
    unfold L_X11_so_79 at h
    refine zv_iload hC dX11_so_79 rfl ?_
    refine zv_aload_n hC dX11_so_81 rfl ?_
    refine zv_getI hC fl_X11_199 dX11_so_82 rfl rfl ?_
    refine zv_icmp_ge (tgt := 162) hC dX11_so_85 (by decide) (fun c => ?_) (fun c => ?_)
    · replace h := h.1 c
      exact zv_go (k_X11_so_162 hC hR hk3 h) ⟨rfl, rfl, rfl, rfl, rfl, rfl, trivial⟩
    · replace h := h.2 c
      refine zv_iload hC dX11_so_88 rfl ?_
      refine zv_if_eq (tgt := 162) hC dX11_so_90 (by decide) (fun c => ?_) (fun c => ?_)
      · replace h := h.1 c
        exact zv_go (k_X11_so_162 hC hR hk3 h) ⟨rfl, rfl, rfl, rfl, rfl, rfl, trivial⟩
      · replace h := h.2 c
        refine zv_iload_n hC dX11_so_93 rfl ?_
        refine zv_iconst (v := 2) hC dX11_so_94 (by decide) ?_
        refine zv_icmp_eq (tgt := 103) hC dX11_so_95 (by decide) (fun c => ?_) (fun c => ?_)
        · replace h := h.1 c
          exact zv_go (k_X11_so_103 hC hR hk3 hk79 h) ⟨rfl, rfl, rfl, rfl, rfl, rfl, trivial⟩
        · replace h := h.2 c
          refine zv_iload_n hC dX11_so_98 rfl ?_
          refine zv_iconst (v := 3) hC dX11_so_99 (by decide) ?_
          refine zv_icmp_ne (tgt := 162) hC dX11_so_100 (by decide) (fun c => ?_) (fun c => ?_)
          · replace h := h.1 c
            exact zv_go (k_X11_so_162 hC hR hk3 h) ⟨rfl, rfl, rfl, rfl, rfl, rfl, trivial⟩
          · replace h := h.2 c
            exact zv_go (k_X11_so_103 hC hR hk3 hk79 h) ⟨rfl, rfl, rfl, rfl, rfl, rfl, trivial⟩
def B_X11_so_74 (Q : Int32 → zv_St → Prop) (kk3 : Int32 → Int32 → Int32 → Int32 → zv_St → Prop) (x1 : Int32) (x2 : Int32) (x3 : Int32) (x4 : Int32) (y0 : Int32) (σ : zv_St) : Prop :=
  ∃ n79, L_X11_so_79 Q kk3 n79 x1 x2 x3 x4 y0 0 σ
set_option maxRecDepth 20000 in
set_option maxHeartbeats 2000000 in
theorem k_X11_so_74 {G : zv_G} {X : zv_X} {Q : Int32 → zv_St → Prop} {kk3 : Int32 → Int32 → Int32 → Int32 → zv_St → Prop} (hC : zv_C G X M_X11_so) (hR : zv_R G X M_X11_so (zv_qi Q)) (hk3 : ∀ (x1 : Int32) (x2 : Int32) (x3 : Int32) (x4 : Int32) (σ : zv_St), kk3 x1 x2 x3 x4 σ → zv_V G X M_X11_so 3 [(0, .ref (G.2.2.1 45)), (1, .int x1), (2, .int x2), (3, .int x3), (4, .int x4)] [] σ) {x1 : Int32} {x2 : Int32} {x3 : Int32} {x4 : Int32} {y0 : Int32} {σ : zv_St} (h : B_X11_so_74 Q kk3 x1 x2 x3 x4 y0 σ) : zv_V G X M_X11_so 74 [(0, .ref (G.2.2.1 45)), (1, .int x1), (2, .int x2), (3, .int x3), (4, .int x4)] [.int y0] σ := by
  unfold B_X11_so_74 at h
  refine zv_istore hC dX11_so_74 (by decide) ?_
  refine zv_iconst (v := 0) hC dX11_so_76 (by decide) ?_
  refine zv_istore hC dX11_so_77 (by decide) ?_
  obtain ⟨n, h⟩ := h
  exact zv_go (kL_X11_so_79 hC hR hk3 n _ _ _ _ _ _ _ h) ⟨rfl, rfl, rfl, rfl, rfl, rfl, rfl, trivial⟩
def B_X11_so_73 (Q : Int32 → zv_St → Prop) (kk3 : Int32 → Int32 → Int32 → Int32 → zv_St → Prop) (x1 : Int32) (x2 : Int32) (x3 : Int32) (x4 : Int32) (σ : zv_St) : Prop :=
  B_X11_so_74 Q kk3 x1 x2 x3 x4 0 σ
set_option maxRecDepth 20000 in
set_option maxHeartbeats 2000000 in
theorem k_X11_so_73 {G : zv_G} {X : zv_X} {Q : Int32 → zv_St → Prop} {kk3 : Int32 → Int32 → Int32 → Int32 → zv_St → Prop} (hC : zv_C G X M_X11_so) (hR : zv_R G X M_X11_so (zv_qi Q)) (hk3 : ∀ (x1 : Int32) (x2 : Int32) (x3 : Int32) (x4 : Int32) (σ : zv_St), kk3 x1 x2 x3 x4 σ → zv_V G X M_X11_so 3 [(0, .ref (G.2.2.1 45)), (1, .int x1), (2, .int x2), (3, .int x3), (4, .int x4)] [] σ) {x1 : Int32} {x2 : Int32} {x3 : Int32} {x4 : Int32} {σ : zv_St} (h : B_X11_so_73 Q kk3 x1 x2 x3 x4 σ) : zv_V G X M_X11_so 73 [(0, .ref (G.2.2.1 45)), (1, .int x1), (2, .int x2), (3, .int x3), (4, .int x4)] [] σ := by
  unfold B_X11_so_73 at h
  refine zv_iconst (v := 0) hC dX11_so_73 (by decide) ?_
  exact zv_go (k_X11_so_74 hC hR hk3 h) ⟨rfl, rfl, rfl, rfl, rfl, trivial⟩
def B_X11_so_290 (Q : Int32 → zv_St → Prop) (σ : zv_St) : Prop :=
  Q ((σ.1 45 2) - 1) σ
set_option maxRecDepth 20000 in
set_option maxHeartbeats 2000000 in
theorem k_X11_so_290 {G : zv_G} {X : zv_X} {Q : Int32 → zv_St → Prop}  (hC : zv_C G X M_X11_so) (hR : zv_R G X M_X11_so (zv_qi Q))   {σ : zv_St} (h : B_X11_so_290 Q   σ) : zv_V G X M_X11_so 290 [(0, .ref (G.2.2.1 45))] [] σ := by
  unfold B_X11_so_290 at h
  refine zv_aload_n hC dX11_so_290 rfl ?_
  refine zv_getI hC fl_X11_107 dX11_so_291 rfl rfl ?_
  refine zv_iconst (v := 1) hC dX11_so_294 (by decide) ?_
  refine zv_isub hC dX11_so_295 ?_
  exact (hR _ _ _).1 _ rfl dX11_so_296 ⟨_, rfl, h⟩
def B_X11_so_221 (Q : Int32 → zv_St → Prop) (kk202 : Int32 → Int32 → zv_St → Prop) (x1 : Int32) (x4 : Int32) (σ : zv_St) : Prop :=
  vp_in x4 80 ∧ vp_in ((8 * ((σ.1 45 2) - 1)) + x4) 640 ∧ ∀ σ_1 : zv_St, σ_1 = zv_wi σ 52 ((8 * ((σ.1 45 2) - 1)) + x4).toNatClampNeg (σ.1 73 x4.toNatClampNeg) → vp_in x4 80 ∧ vp_in ((8 * ((σ_1.1 45 2) - 1)) + x4) 640 ∧ ∀ σ_2 : zv_St, σ_2 = zv_wi σ_1 53 ((8 * ((σ_1.1 45 2) - 1)) + x4).toNatClampNeg (σ_1.1 74 x4.toNatClampNeg) → vp_in ((σ_2.1 45 2) - 1) 80 ∧ vp_in ((σ_2.1 45 2) - 1) 80 ∧ ∀ σ_3 : zv_St, σ_3 = zv_wi σ_2 51 ((σ_2.1 45 2) - 1).toNatClampNeg ((σ_2.1 51 ((σ_2.1 45 2) - 1).toNatClampNeg) + 1) → kk202 x1 (x4 + 1) σ_3
set_option maxRecDepth 20000 in
set_option maxHeartbeats 2000000 in
theorem k_X11_so_221 {G : zv_G} {X : zv_X} {Q : Int32 → zv_St → Prop} {kk202 : Int32 → Int32 → zv_St → Prop} (hC : zv_C G X M_X11_so) (hR : zv_R G X M_X11_so (zv_qi Q)) (hk202 : ∀ (x1 : Int32) (x4 : Int32) (σ : zv_St), kk202 x1 x4 σ → zv_V G X M_X11_so 202 [(0, .ref (G.2.2.1 45)), (1, .int x1), (4, .int x4)] [] σ) {x1 : Int32} {x4 : Int32} {σ : zv_St} (h : B_X11_so_221 Q kk202 x1 x4 σ) : zv_V G X M_X11_so 221 [(0, .ref (G.2.2.1 45)), (1, .int x1), (4, .int x4)] [] σ := by
  unfold B_X11_so_221 at h
  refine zv_aload_n hC dX11_so_221 rfl ?_
  refine zv_getR (j := 52) hC fl_X11_28 dX11_so_222 rfl rfl ?_
  refine zv_bipush (v := 8) hC dX11_so_225 (by decide) ?_
  refine zv_aload_n hC dX11_so_227 rfl ?_
  refine zv_getI hC fl_X11_107 dX11_so_228 rfl rfl ?_
  refine zv_iconst (v := 1) hC dX11_so_231 (by decide) ?_
  refine zv_isub hC dX11_so_232 ?_
  refine zv_imul hC dX11_so_233 ?_
  refine zv_iload hC dX11_so_234 rfl ?_
  refine zv_iadd hC dX11_so_236 ?_
  refine zv_aload_n hC dX11_so_237 rfl ?_
  refine zv_getR (j := 73) hC fl_X11_94 dX11_so_238 rfl rfl ?_
  refine zv_iload hC dX11_so_241 rfl ?_
  refine zv_iald hC dX11_so_243 rfl h.1 ?_
  replace h := h.2
  refine zv_iast hC dX11_so_244 rfl h.1 ?_
  replace h := h.2 _ rfl
  refine zv_aload_n hC dX11_so_245 rfl ?_
  refine zv_getR (j := 53) hC fl_X11_31 dX11_so_246 rfl rfl ?_
  refine zv_bipush (v := 8) hC dX11_so_249 (by decide) ?_
  refine zv_aload_n hC dX11_so_251 rfl ?_
  refine zv_getI hC fl_X11_107 dX11_so_252 rfl rfl ?_
  refine zv_iconst (v := 1) hC dX11_so_255 (by decide) ?_
  refine zv_isub hC dX11_so_256 ?_
  refine zv_imul hC dX11_so_257 ?_
  refine zv_iload hC dX11_so_258 rfl ?_
  refine zv_iadd hC dX11_so_260 ?_
  refine zv_aload_n hC dX11_so_261 rfl ?_
  refine zv_getR (j := 74) hC fl_X11_97 dX11_so_262 rfl rfl ?_
  refine zv_iload hC dX11_so_265 rfl ?_
  refine zv_iald hC dX11_so_267 rfl h.1 ?_
  replace h := h.2
  refine zv_iast hC dX11_so_268 rfl h.1 ?_
  replace h := h.2 _ rfl
  refine zv_aload_n hC dX11_so_269 rfl ?_
  refine zv_getR (j := 51) hC fl_X11_25 dX11_so_270 rfl rfl ?_
  refine zv_aload_n hC dX11_so_273 rfl ?_
  refine zv_getI hC fl_X11_107 dX11_so_274 rfl rfl ?_
  refine zv_iconst (v := 1) hC dX11_so_277 (by decide) ?_
  refine zv_isub hC dX11_so_278 ?_
  refine zv_dup2 hC dX11_so_279 rfl rfl ?_
  refine zv_iald hC dX11_so_280 rfl h.1 ?_
  replace h := h.2
  refine zv_iconst (v := 1) hC dX11_so_281 (by decide) ?_
  refine zv_iadd hC dX11_so_282 ?_
  refine zv_iast hC dX11_so_283 rfl h.1 ?_
  replace h := h.2 _ rfl
  refine zv_iinc (v := 1) hC dX11_so_284 rfl (by decide) (by decide) ?_
  refine zv_goto (tgt := 202) hC dX11_so_287 (by decide) ?_
  exact zv_go (hk202 _ _ _ h) ⟨rfl, rfl, rfl, trivial⟩
def L_X11_so_202 (Q : Int32 → zv_St → Prop) : Nat → (Int32 → Int32 → zv_St → Prop)
  | 0 => fun _ _ _ => False
  | u + 1 => fun x1 x4 σ => 
    ((σ.1 45 34) ≤ x4 → (B_X11_so_290 Q σ)) ∧ (¬ (σ.1 45 34) ≤ x4 → ((x1 = 2 → (B_X11_so_221 Q (L_X11_so_202 Q u) x1 x4 σ)) ∧ (¬ x1 = 2 → ((¬ x1 = 3 → (B_X11_so_290 Q σ)) ∧ (x1 = 3 → (B_X11_so_221 Q (L_X11_so_202 Q u) x1 x4 σ))))))
set_option maxRecDepth 20000 in
set_option maxHeartbeats 2000000 in
theorem kL_X11_so_202 {G : zv_G} {X : zv_X} {Q : Int32 → zv_St → Prop}  (hC : zv_C G X M_X11_so) (hR : zv_R G X M_X11_so (zv_qi Q))  : ∀ (n : Nat) (x1 : Int32) (x4 : Int32) (σ : zv_St), L_X11_so_202 Q  n x1 x4 σ → zv_V G X M_X11_so 202 [(0, .ref (G.2.2.1 45)), (1, .int x1), (4, .int x4)] [] σ := by
  intro n
  induction n with
  | zero => intro x1 x4 σ h; exact h.elim
  | succ n hk202 =>
    intro x1 x4 σ h
    unfold L_X11_so_202 at h
    refine zv_iload hC dX11_so_202 rfl ?_
    refine zv_aload_n hC dX11_so_204 rfl ?_
    refine zv_getI hC fl_X11_199 dX11_so_205 rfl rfl ?_
    refine zv_icmp_ge (tgt := 290) hC dX11_so_208 (by decide) (fun c => ?_) (fun c => ?_)
    · replace h := h.1 c
      exact zv_go (k_X11_so_290 hC hR  h) ⟨rfl, trivial⟩
    · replace h := h.2 c
      refine zv_iload_n hC dX11_so_211 rfl ?_
      refine zv_iconst (v := 2) hC dX11_so_212 (by decide) ?_
      refine zv_icmp_eq (tgt := 221) hC dX11_so_213 (by decide) (fun c => ?_) (fun c => ?_)
      · replace h := h.1 c
        exact zv_go (k_X11_so_221 hC hR hk202 h) ⟨rfl, rfl, rfl, trivial⟩
      · replace h := h.2 c
        refine zv_iload_n hC dX11_so_216 rfl ?_
        refine zv_iconst (v := 3) hC dX11_so_217 (by decide) ?_
        refine zv_icmp_ne (tgt := 290) hC dX11_so_218 (by decide) (fun c => ?_) (fun c => ?_)
        · replace h := h.1 c
          exact zv_go (k_X11_so_290 hC hR  h) ⟨rfl, trivial⟩
        · replace h := h.2 c
          exact zv_go (k_X11_so_221 hC hR hk202 h) ⟨rfl, rfl, rfl, trivial⟩
def B_X11_so_69 (Q : Int32 → zv_St → Prop) (kk3 : Int32 → Int32 → Int32 → Int32 → zv_St → Prop) (x1 : Int32) (x2 : Int32) (x3 : Int32) (x4 : Int32) (σ : zv_St) : Prop :=
  B_X11_so_74 Q kk3 x1 x2 x3 x4 1 σ
set_option maxRecDepth 20000 in
set_option maxHeartbeats 2000000 in
theorem k_X11_so_69 {G : zv_G} {X : zv_X} {Q : Int32 → zv_St → Prop} {kk3 : Int32 → Int32 → Int32 → Int32 → zv_St → Prop} (hC : zv_C G X M_X11_so) (hR : zv_R G X M_X11_so (zv_qi Q)) (hk3 : ∀ (x1 : Int32) (x2 : Int32) (x3 : Int32) (x4 : Int32) (σ : zv_St), kk3 x1 x2 x3 x4 σ → zv_V G X M_X11_so 3 [(0, .ref (G.2.2.1 45)), (1, .int x1), (2, .int x2), (3, .int x3), (4, .int x4)] [] σ) {x1 : Int32} {x2 : Int32} {x3 : Int32} {x4 : Int32} {σ : zv_St} (h : B_X11_so_69 Q kk3 x1 x2 x3 x4 σ) : zv_V G X M_X11_so 69 [(0, .ref (G.2.2.1 45)), (1, .int x1), (2, .int x2), (3, .int x3), (4, .int x4)] [] σ := by
  unfold B_X11_so_69 at h
  refine zv_iconst (v := 1) hC dX11_so_69 (by decide) ?_
  refine zv_goto (tgt := 74) hC dX11_so_70 (by decide) ?_
  exact zv_go (k_X11_so_74 hC hR hk3 h) ⟨rfl, rfl, rfl, rfl, rfl, trivial⟩
def B_X11_so_55 (Q : Int32 → zv_St → Prop) (kk3 : Int32 → Int32 → Int32 → Int32 → zv_St → Prop) (x1 : Int32) (x2 : Int32) (x3 : Int32) (x4 : Int32) (σ : zv_St) : Prop :=
  vp_in x4 80 ∧ (¬ (σ.1 51 x4.toNatClampNeg) = (σ.1 45 34) → (B_X11_so_73 Q kk3 x1 x2 x3 x4 σ)) ∧ ((σ.1 51 x4.toNatClampNeg) = (σ.1 45 34) → (B_X11_so_69 Q kk3 x1 x2 x3 x4 σ))
set_option maxRecDepth 20000 in
set_option maxHeartbeats 2000000 in
theorem k_X11_so_55 {G : zv_G} {X : zv_X} {Q : Int32 → zv_St → Prop} {kk3 : Int32 → Int32 → Int32 → Int32 → zv_St → Prop} (hC : zv_C G X M_X11_so) (hR : zv_R G X M_X11_so (zv_qi Q)) (hk3 : ∀ (x1 : Int32) (x2 : Int32) (x3 : Int32) (x4 : Int32) (σ : zv_St), kk3 x1 x2 x3 x4 σ → zv_V G X M_X11_so 3 [(0, .ref (G.2.2.1 45)), (1, .int x1), (2, .int x2), (3, .int x3), (4, .int x4)] [] σ) {x1 : Int32} {x2 : Int32} {x3 : Int32} {x4 : Int32} {σ : zv_St} (h : B_X11_so_55 Q kk3 x1 x2 x3 x4 σ) : zv_V G X M_X11_so 55 [(0, .ref (G.2.2.1 45)), (1, .int x1), (2, .int x2), (3, .int x3), (4, .int x4)] [] σ := by
  unfold B_X11_so_55 at h
  refine zv_aload_n hC dX11_so_55 rfl ?_
  refine zv_getR (j := 51) hC fl_X11_25 dX11_so_56 rfl rfl ?_
  refine zv_iload hC dX11_so_59 rfl ?_
  refine zv_iald hC dX11_so_61 rfl h.1 ?_
  replace h := h.2
  refine zv_aload_n hC dX11_so_62 rfl ?_
  refine zv_getI hC fl_X11_199 dX11_so_63 rfl rfl ?_
  refine zv_icmp_ne (tgt := 73) hC dX11_so_66 (by decide) (fun c => ?_) (fun c => ?_)
  · replace h := h.1 c
    exact zv_go (k_X11_so_73 hC hR hk3 h) ⟨rfl, rfl, rfl, rfl, rfl, trivial⟩
  · replace h := h.2 c
    exact zv_go (k_X11_so_69 hC hR hk3 h) ⟨rfl, rfl, rfl, rfl, rfl, trivial⟩
def L_X11_so_3 (Q : Int32 → zv_St → Prop) : Nat → (Int32 → Int32 → Int32 → Int32 → zv_St → Prop)
  | 0 => fun _ _ _ _ _ => False
  | u + 1 => fun x1 x2 x3 x4 σ => 
    ((σ.1 45 2) ≤ x4 → ((¬ (σ.1 45 2) = 80 → (B_X11_make (fun σ_1 => ∃ n202, L_X11_so_202 Q n202 x1 0 σ_1) x1 x2 x3 σ)) ∧ ((σ.1 45 2) = 80 → (∀ σ_2 : zv_St, σ_2 = zv_wi σ 45 35 1 → Q 0 σ_2)))) ∧ (¬ (σ.1 45 2) ≤ x4 → (vp_in x4 80 ∧ (¬ (σ.1 48 x4.toNatClampNeg) = x1 → (B_X11_so_73 Q (L_X11_so_3 Q u) x1 x2 x3 x4 σ)) ∧ ((σ.1 48 x4.toNatClampNeg) = x1 → (vp_in x4 80 ∧ (¬ (σ.1 49 x4.toNatClampNeg) = x2 → (B_X11_so_73 Q (L_X11_so_3 Q u) x1 x2 x3 x4 σ)) ∧ ((σ.1 49 x4.toNatClampNeg) = x2 → (vp_in x4 80 ∧ (¬ (σ.1 50 x4.toNatClampNeg) = x3 → (B_X11_so_73 Q (L_X11_so_3 Q u) x1 x2 x3 x4 σ)) ∧ ((σ.1 50 x4.toNatClampNeg) = x3 → ((x1 = 2 → (B_X11_so_55 Q (L_X11_so_3 Q u) x1 x2 x3 x4 σ)) ∧ (¬ x1 = 2 → ((¬ x1 = 3 → (B_X11_so_69 Q (L_X11_so_3 Q u) x1 x2 x3 x4 σ)) ∧ (x1 = 3 → (B_X11_so_55 Q (L_X11_so_3 Q u) x1 x2 x3 x4 σ))))))))))))
set_option maxRecDepth 20000 in
set_option maxHeartbeats 2000000 in
theorem kL_X11_so_3 {G : zv_G} {X : zv_X} {Q : Int32 → zv_St → Prop}  (hC : zv_C G X M_X11_so) (hR : zv_R G X M_X11_so (zv_qi Q))  : ∀ (n : Nat) (x1 : Int32) (x2 : Int32) (x3 : Int32) (x4 : Int32) (σ : zv_St), L_X11_so_3 Q  n x1 x2 x3 x4 σ → zv_V G X M_X11_so 3 [(0, .ref (G.2.2.1 45)), (1, .int x1), (2, .int x2), (3, .int x3), (4, .int x4)] [] σ := by
  intro n
  induction n with
  | zero => intro x1 x2 x3 x4 σ h; exact h.elim
  | succ n hk3 =>
    intro x1 x2 x3 x4 σ h
    unfold L_X11_so_3 at h
    refine zv_iload hC dX11_so_3 rfl ?_
    refine zv_aload_n hC dX11_so_5 rfl ?_
    refine zv_getI hC fl_X11_107 dX11_so_6 rfl rfl ?_
    refine zv_icmp_ge (tgt := 176) hC dX11_so_9 (by decide) (fun c => ?_) (fun c => ?_)
    · replace h := h.1 c
      refine zv_aload_n hC dX11_so_176 rfl ?_
      refine zv_getI hC fl_X11_107 dX11_so_177 rfl rfl ?_
      refine zv_bipush (v := 80) hC dX11_so_180 (by decide) ?_
      refine zv_icmp_ne (tgt := 192) hC dX11_so_182 (by decide) (fun c => ?_) (fun c => ?_)
      · replace h := h.1 c
        refine zv_aload_n hC dX11_so_192 rfl ?_
        refine zv_iload_n hC dX11_so_193 rfl ?_
        refine zv_iload_n hC dX11_so_194 rfl ?_
        refine zv_iload_n hC dX11_so_195 rfl ?_
        refine zv_callVv (As := [_, _, _]) hC dX11_so_196 Y_X11_make lk_X11_130 (by decide) rfl rfl rfl (Nat.le_of_ble_eq_true rfl) (ok_X11_make G h) ?_
        intro σ_1 h
        refine zv_iconst (v := 0) hC dX11_so_199 (by decide) ?_
        refine zv_istore hC dX11_so_200 (by decide) ?_
        obtain ⟨n, h⟩ := h
        exact zv_go (kL_X11_so_202 hC hR  n _ _ _ h) ⟨rfl, rfl, rfl, trivial⟩
      · replace h := h.2 c
        refine zv_aload_n hC dX11_so_185 rfl ?_
        refine zv_iconst (v := 1) hC dX11_so_186 (by decide) ?_
        refine zv_putI hC fp_X11_186 dX11_so_187 rfl rfl rfl rfl ?_
        replace h := h _ rfl
        refine zv_iconst (v := 0) hC dX11_so_190 (by decide) ?_
        exact (hR _ _ _).1 _ rfl dX11_so_191 ⟨_, rfl, h⟩
    · replace h := h.2 c
      refine zv_aload_n hC dX11_so_12 rfl ?_
      refine zv_getR (j := 48) hC fl_X11_16 dX11_so_13 rfl rfl ?_
      refine zv_iload hC dX11_so_16 rfl ?_
      refine zv_iald hC dX11_so_18 rfl h.1 ?_
      replace h := h.2
      refine zv_iload_n hC dX11_so_19 rfl ?_
      refine zv_icmp_ne (tgt := 73) hC dX11_so_20 (by decide) (fun c => ?_) (fun c => ?_)
      · replace h := h.1 c
        exact zv_go (k_X11_so_73 hC hR hk3 h) ⟨rfl, rfl, rfl, rfl, rfl, trivial⟩
      · replace h := h.2 c
        refine zv_aload_n hC dX11_so_23 rfl ?_
        refine zv_getR (j := 49) hC fl_X11_19 dX11_so_24 rfl rfl ?_
        refine zv_iload hC dX11_so_27 rfl ?_
        refine zv_iald hC dX11_so_29 rfl h.1 ?_
        replace h := h.2
        refine zv_iload_n hC dX11_so_30 rfl ?_
        refine zv_icmp_ne (tgt := 73) hC dX11_so_31 (by decide) (fun c => ?_) (fun c => ?_)
        · replace h := h.1 c
          exact zv_go (k_X11_so_73 hC hR hk3 h) ⟨rfl, rfl, rfl, rfl, rfl, trivial⟩
        · replace h := h.2 c
          refine zv_aload_n hC dX11_so_34 rfl ?_
          refine zv_getR (j := 50) hC fl_X11_22 dX11_so_35 rfl rfl ?_
          refine zv_iload hC dX11_so_38 rfl ?_
          refine zv_iald hC dX11_so_40 rfl h.1 ?_
          replace h := h.2
          refine zv_iload_n hC dX11_so_41 rfl ?_
          refine zv_icmp_ne (tgt := 73) hC dX11_so_42 (by decide) (fun c => ?_) (fun c => ?_)
          · replace h := h.1 c
            exact zv_go (k_X11_so_73 hC hR hk3 h) ⟨rfl, rfl, rfl, rfl, rfl, trivial⟩
          · replace h := h.2 c
            refine zv_iload_n hC dX11_so_45 rfl ?_
            refine zv_iconst (v := 2) hC dX11_so_46 (by decide) ?_
            refine zv_icmp_eq (tgt := 55) hC dX11_so_47 (by decide) (fun c => ?_) (fun c => ?_)
            · replace h := h.1 c
              exact zv_go (k_X11_so_55 hC hR hk3 h) ⟨rfl, rfl, rfl, rfl, rfl, trivial⟩
            · replace h := h.2 c
              refine zv_iload_n hC dX11_so_50 rfl ?_
              refine zv_iconst (v := 3) hC dX11_so_51 (by decide) ?_
              refine zv_icmp_ne (tgt := 69) hC dX11_so_52 (by decide) (fun c => ?_) (fun c => ?_)
              · replace h := h.1 c
                exact zv_go (k_X11_so_69 hC hR hk3 h) ⟨rfl, rfl, rfl, rfl, rfl, trivial⟩
              · replace h := h.2 c
                exact zv_go (k_X11_so_55 hC hR hk3 h) ⟨rfl, rfl, rfl, rfl, rfl, trivial⟩
def B_X11_so (Q : Int32 → zv_St → Prop) (x1 : Int32) (x2 : Int32) (x3 : Int32) (σ : zv_St) : Prop :=
  ∃ n3, L_X11_so_3 Q n3 x1 x2 x3 0 σ
set_option maxRecDepth 20000 in
set_option maxHeartbeats 2000000 in
theorem k_X11_so_0 {G : zv_G} {X : zv_X} {Q : Int32 → zv_St → Prop}  (hC : zv_C G X M_X11_so) (hR : zv_R G X M_X11_so (zv_qi Q))  {x1 : Int32} {x2 : Int32} {x3 : Int32} {σ : zv_St} (h : B_X11_so Q  x1 x2 x3 σ) : zv_V G X M_X11_so 0 [(0, .ref (G.2.2.1 45)), (1, .int x1), (2, .int x2), (3, .int x3)] [] σ := by
  unfold B_X11_so at h
  refine zv_iconst (v := 0) hC dX11_so_0 (by decide) ?_
  refine zv_istore hC dX11_so_1 (by decide) ?_
  obtain ⟨n, h⟩ := h
  exact zv_go (kL_X11_so_3 hC hR  n _ _ _ _ _ h) ⟨rfl, rfl, rfl, rfl, rfl, trivial⟩
theorem ok_X11_so (G : zv_G) {Q : Int32 → zv_St → Prop} {x1 : Int32} {x2 : Int32} {x3 : Int32} {σ : zv_St} (h : B_X11_so Q x1 x2 x3 σ) : zv_OK G M_X11_so yX11_so [.ref (G.2.2.1 45), .int x1, .int x2, .int x3] σ (zv_qi Q) := zv_ok G _ _ _ _ _ (by decide +kernel) rfl (Nat.le_of_ble_eq_true rfl) (fun X hC hR => zv_go (k_X11_so_0 hC hR h) ⟨rfl, rfl, rfl, rfl, trivial⟩)
