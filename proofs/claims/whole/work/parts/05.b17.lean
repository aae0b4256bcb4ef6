-- X11_newBest
def B_X11_newBest_104 (Q : Int32 → zv_St → Prop) (y0 : Int32) (σ : zv_St) : Prop :=
  Q y0 σ
set_option maxRecDepth 20000 in
set_option maxHeartbeats 2000000 in
theorem k_X11_newBest_104 {G : zv_G} {X : zv_X} {Q : Int32 → zv_St → Prop}  (hC : zv_C G X M_X11_newBest) (hR : zv_R G X M_X11_newBest (zv_qi Q))  {y0 : Int32} {σ : zv_St} (h : B_X11_newBest_104 Q  y0 σ) : zv_V G X M_X11_newBest 104 [] [.int y0] σ := by
  unfold B_X11_newBest_104 at h
  exact (hR _ _ _).1 _ rfl dX11_newBest_104 ⟨_, rfl, h⟩
def B_X11_newBest_51 (Q : Int32 → zv_St → Prop) (kk7 : Int32 → Int32 → zv_St → Prop) (x1 : Int32) (x2 : Int32) (σ : zv_St) : Prop :=
  kk7 x1 (x2 + 1) σ
set_option maxRecDepth 20000 in
set_option maxHeartbeats 2000000 in
theorem k_X11_newBest_51 {G : zv_G} {X : zv_X} {Q : Int32 → zv_St → Prop} {kk7 : Int32 → Int32 → zv_St → Prop} (hC : zv_C G X M_X11_newBest) (hR : zv_R G X M_X11_newBest (zv_qi Q)) (hk7 : ∀ (x1 : Int32) (x2 : Int32) (σ : zv_St), kk7 x1 x2 σ → zv_V G X M_X11_newBest 7 [(0, .ref (G.2.2.1 45)), (1, .int x1), (2, .int x2)] [] σ) {x1 : Int32} {x2 : Int32} {σ : zv_St} (h : B_X11_newBest_51 Q kk7 x1 x2 σ) : zv_V G X M_X11_newBest 51 [(0, .ref (G.2.2.1 45)), (1, .int x1), (2, .int x2)] [] σ := by
  unfold B_X11_newBest_51 at h
  refine zv_iinc (v := 1) hC dX11_newBest_51 rfl (by decide) (by decide) ?_
  refine zv_goto (tgt := 7) hC dX11_newBest_54 (by decide) ?_
  exact zv_go (hk7 _ _ _ h) ⟨rfl, rfl, rfl, trivial⟩
def L_X11_newBest_7 (Q : Int32 → zv_St → Prop) : Nat → (Int32 → Int32 → zv_St → Prop)
  | 0 => fun _ _ _ => False
  | u + 1 => fun x1 x2 σ => 
    vp_in x1 80 ∧ ((σ.1 51 x1.toNatClampNeg) ≤ x2 → ((¬ (σ.1 45 34) = 0 → ((¬ (σ.1 45 34) = 1 → (vp_in x1 80 ∧ B_X11_so (fun r_2 σ_1 => B_X11_newBest_104 Q r_2 σ_1) 3 (σ.1 49 x1.toNatClampNeg) 0 σ)) ∧ ((σ.1 45 34) = 1 → (vp_in 0 80 ∧ B_X11_newBest_104 Q (σ.1 74 (0 : Int32).toNatClampNeg) σ)))) ∧ ((σ.1 45 34) = 0 → (B_X11_so (fun r_4 σ_3 => B_X11_newBest_104 Q r_4 σ_3) 7 0 0 σ)))) ∧ (¬ (σ.1 51 x1.toNatClampNeg) ≤ x2 → (vp_in ((8 * x1) + x2) 640 ∧ vp_in (σ.1 53 ((8 * x1) + x2).toNatClampNeg) 80 ∧ ∀ v_5 : Int32, v_5 = (σ.1 72 (σ.1 53 ((8 * x1) + x2).toNatClampNeg).toNatClampNeg) → vp_in v_5 80 ∧ ((σ.1 48 v_5.toNatClampNeg) = 7 → (B_X11_newBest_51 Q (L_X11_newBest_7 Q u) x1 x2 σ)) ∧ (¬ (σ.1 48 v_5.toNatClampNeg) = 7 → (B_X11_lay (fun σ_6 => B_X11_newBest_51 Q (L_X11_newBest_7 Q u) x1 x2 σ_6) 3 v_5 σ))))
set_option maxRecDepth 20000 in
set_option maxHeartbeats 2000000 in
theorem kL_X11_newBest_7 {G : zv_G} {X : zv_X} {Q : Int32 → zv_St → Prop}  (hC : zv_C G X M_X11_newBest) (hR : zv_R G X M_X11_newBest (zv_qi Q))  : ∀ (n : Nat) (x1 : Int32) (x2 : Int32) (σ : zv_St), L_X11_newBest_7 Q  n x1 x2 σ → zv_V G X M_X11_newBest 7 [(0, .ref (G.2.2.1 45)), (1, .int x1), (2, .int x2)] [] σ := by
  intro n
  induction n with
  | zero => intro x1 x2 σ h; exact h.elim
  | succ n hk7 =>
    intro x1 x2 σ h
    unfold L_X11_newBest_7 at h
    refine zv_iload_n hC dX11_newBest_7 rfl ?_
    refine zv_aload_n hC dX11_newBest_8 rfl ?_
    refine zv_getR (j := 51) hC fl_X11_25 dX11_newBest_9 rfl rfl ?_
    refine zv_iload_n hC dX11_newBest_12 rfl ?_
    refine zv_iald hC dX11_newBest_13 rfl h.1 ?_
    replace h := h.2
    refine zv_icmp_ge (tgt := 57) hC dX11_newBest_14 (by decide) (fun c => ?_) (fun c => ?_)
    · replace h := h.1 c
      refine zv_aload_n hC dX11_newBest_57 rfl ?_
      refine zv_getI hC fl_X11_199 dX11_newBest_58 rfl rfl ?_
      refine zv_if_ne (tgt := 75) hC dX11_newBest_61 (by decide) (fun c => ?_) (fun c => ?_)
      · replace h := h.1 c
        refine zv_aload_n hC dX11_newBest_75 rfl ?_
        refine zv_getI hC fl_X11_199 dX11_newBest_76 rfl rfl ?_
        refine zv_iconst (v := 1) hC dX11_newBest_79 (by decide) ?_
        refine zv_icmp_ne (tgt := 92) hC dX11_newBest_80 (by decide) (fun c => ?_) (fun c => ?_)
        · replace h := h.1 c
          refine zv_aload_n hC dX11_newBest_92 rfl ?_
          refine zv_iconst (v := 3) hC dX11_newBest_93 (by decide) ?_
          refine zv_aload_n hC dX11_newBest_94 rfl ?_
          refine zv_getR (j := 49) hC fl_X11_19 dX11_newBest_95 rfl rfl ?_
          refine zv_iload_n hC dX11_newBest_98 rfl ?_
          refine zv_iald hC dX11_newBest_99 rfl h.1 ?_
          replace h := h.2
          refine zv_iconst (v := 0) hC dX11_newBest_100 (by decide) ?_
          refine zv_callVi (As := [_, _, _]) hC dX11_newBest_101 Y_X11_so lk_X11_202 (by decide) rfl rfl rfl (Nat.le_of_ble_eq_true rfl) (ok_X11_so G h) ?_
          intro r_2 σ_1 h
          exact zv_go (k_X11_newBest_104 hC hR  h) trivial
        · replace h := h.2 c
          refine zv_aload_n hC dX11_newBest_83 rfl ?_
          refine zv_getR (j := 74) hC fl_X11_97 dX11_newBest_84 rfl rfl ?_
          refine zv_iconst (v := 0) hC dX11_newBest_87 (by decide) ?_
          refine zv_iald hC dX11_newBest_88 rfl h.1 ?_
          replace h := h.2
          refine zv_goto (tgt := 104) hC dX11_newBest_89 (by decide) ?_
          exact zv_go (k_X11_newBest_104 hC hR  h) trivial
      · replace h := h.2 c
        refine zv_aload_n hC dX11_newBest_64 rfl ?_
        refine zv_bipush (v := 7) hC dX11_newBest_65 (by decide) ?_
        refine zv_iconst (v := 0) hC dX11_newBest_67 (by decide) ?_
        refine zv_iconst (v := 0) hC dX11_newBest_68 (by decide) ?_
        refine zv_callVi (As := [_, _, _]) hC dX11_newBest_69 Y_X11_so lk_X11_202 (by decide) rfl rfl rfl (Nat.le_of_ble_eq_true rfl) (ok_X11_so G h) ?_
        intro r_4 σ_3 h
        refine zv_goto (tgt := 104) hC dX11_newBest_72 (by decide) ?_
        exact zv_go (k_X11_newBest_104 hC hR  h) trivial
    · replace h := h.2 c
      refine zv_aload_n hC dX11_newBest_17 rfl ?_
      refine zv_getR (j := 72) hC fl_X11_91 dX11_newBest_18 rfl rfl ?_
      refine zv_aload_n hC dX11_newBest_21 rfl ?_
      refine zv_getR (j := 53) hC fl_X11_31 dX11_newBest_22 rfl rfl ?_
      refine zv_bipush (v := 8) hC dX11_newBest_25 (by decide) ?_
      refine zv_iload_n hC dX11_newBest_27 rfl ?_
      refine zv_imul hC dX11_newBest_28 ?_
      refine zv_iload_n hC dX11_newBest_29 rfl ?_
      refine zv_iadd hC dX11_newBest_30 ?_
      refine zv_iald hC dX11_newBest_31 rfl h.1 ?_
      replace h := h.2
      refine zv_iald hC dX11_newBest_32 rfl h.1 ?_
      replace h := h.2
      replace h := h _ rfl
      refine zv_istore_n hC dX11_newBest_33 (by decide) ?_
      refine zv_aload_n hC dX11_newBest_34 rfl ?_
      refine zv_getR (j := 48) hC fl_X11_16 dX11_newBest_35 rfl rfl ?_
      refine zv_iload_n hC dX11_newBest_38 rfl ?_
      refine zv_iald hC dX11_newBest_39 rfl h.1 ?_
      replace h := h.2
      refine zv_bipush (v := 7) hC dX11_newBest_40 (by decide) ?_
      refine zv_icmp_eq (tgt := 51) hC dX11_newBest_42 (by decide) (fun c => ?_) (fun c => ?_)
      · replace h := h.1 c
        exact zv_go (k_X11_newBest_51 hC hR hk7 h) ⟨rfl, rfl, rfl, trivial⟩
      · replace h := h.2 c
        refine zv_aload_n hC dX11_newBest_45 rfl ?_
        refine zv_iconst (v := 3) hC dX11_newBest_46 (by decide) ?_
        refine zv_iload_n hC dX11_newBest_47 rfl ?_
        refine zv_callVv (As := [_, _]) hC dX11_newBest_48 Y_X11_lay lk_X11_206 (by decide) rfl rfl rfl (Nat.le_of_ble_eq_true rfl) (ok_X11_lay G h) ?_
        intro σ_6 h
        exact zv_go (k_X11_newBest_51 hC hR hk7 h) ⟨rfl, rfl, rfl, trivial⟩
def B_X11_newBest (Q : Int32 → zv_St → Prop) (x1 : Int32) (σ : zv_St) : Prop :=
  ∀ σ_1 : zv_St, σ_1 = zv_wi σ 45 34 0 → ∃ n7, L_X11_newBest_7 Q n7 x1 0 σ_1
set_option maxRecDepth 20000 in
set_option maxHeartbeats 2000000 in
theorem k_X11_newBest_0 {G : zv_G} {X : zv_X} {Q : Int32 → zv_St → Prop}  (hC : zv_C G X M_X11_newBest) (hR : zv_R G X M_X11_newBest (zv_qi Q))  {x1 : Int32} {σ : zv_St} (h : B_X11_newBest Q  x1 σ) : zv_V G X M_X11_newBest 0 [(0, .ref (G.2.2.1 45)), (1, .int x1)] [] σ := by
  unfold B_X11_newBest at h
  refine zv_aload_n hC dX11_newBest_0 rfl ?_
  refine zv_iconst (v := 0) hC dX11_newBest_1 (by decide) ?_
  refine zv_putI hC fp_X11_199 dX11_newBest_2 rfl rfl rfl rfl ?_
  replace h := h _ rfl
  refine zv_iconst (v := 0) hC dX11_newBest_5 (by decide) ?_
  refine zv_istore_n hC dX11_newBest_6 (by decide) ?_
  obtain ⟨n, h⟩ := h
  exact zv_go (kL_X11_newBest_7 hC hR  n _ _ _ h) ⟨rfl, rfl, rfl, trivial⟩
theorem ok_X11_newBest (G : zv_G) {Q : Int32 → zv_St → Prop} {x1 : Int32} {σ : zv_St} (h : B_X11_newBest Q x1 σ) : zv_OK G M_X11_newBest yX11_newBest [.ref (G.2.2.1 45), .int x1] σ (zv_qi Q) := zv_ok G _ _ _ _ _ (by decide +kernel) rfl (Nat.le_of_ble_eq_true rfl) (fun X hC hR => zv_go (k_X11_newBest_0 hC hR h) ⟨rfl, rfl, trivial⟩)
-- X11_newOther
def B_X11_newOther_64 (Q : Int32 → zv_St → Prop) (y0 : Int32) (σ : zv_St) : Prop :=
  Q y0 σ
set_option maxRecDepth 20000 in
set_option maxHeartbeats 2000000 in
theorem k_X11_newOther_64 {G : zv_G} {X : zv_X} {Q : Int32 → zv_St → Prop}  (hC : zv_C G X M_X11_newOther) (hR : zv_R G X M_X11_newOther (zv_qi Q))  {y0 : Int32} {σ : zv_St} (h : B_X11_newOther_64 Q  y0 σ) : zv_V G X M_X11_newOther 64 [] [.int y0] σ := by
  unfold B_X11_newOther_64 at h
  exact (hR _ _ _).1 _ rfl dX11_newOther_64 ⟨_, rfl, h⟩
def B_X11_newOther_47 (Q : Int32 → zv_St → Prop) (x1 : Int32) (x2 : Int32) (σ : zv_St) : Prop :=
  vp_in x1 80 ∧ vp_in x1 80 ∧ B_X11_so (fun r_2 σ_1 => B_X11_newOther_64 Q r_2 σ_1) x2 (σ.1 49 x1.toNatClampNeg) (σ.1 50 x1.toNatClampNeg) σ
set_option maxRecDepth 20000 in
set_option maxHeartbeats 2000000 in
theorem k_X11_newOther_47 {G : zv_G} {X : zv_X} {Q : Int32 → zv_St → Prop}  (hC : zv_C G X M_X11_newOther) (hR : zv_R G X M_X11_newOther (zv_qi Q))  {x1 : Int32} {x2 : Int32} {σ : zv_St} (h : B_X11_newOther_47 Q  x1 x2 σ) : zv_V G X M_X11_newOther 47 [(0, .ref (G.2.2.1 45)), (1, .int x1), (2, .int x2)] [] σ := by
  unfold B_X11_newOther_47 at h
  refine zv_aload_n hC dX11_newOther_47 rfl ?_
  refine zv_iload_n hC dX11_newOther_48 rfl ?_
  refine zv_aload_n hC dX11_newOther_49 rfl ?_
  refine zv_getR (j := 49) hC fl_X11_19 dX11_newOther_50 rfl rfl ?_
  refine zv_iload_n hC dX11_newOther_53 rfl ?_
  refine zv_iald hC dX11_newOther_54 rfl h.1 ?_
  replace h := h.2
  refine zv_aload_n hC dX11_newOther_55 rfl ?_
  refine zv_getR (j := 50) hC fl_X11_22 dX11_newOther_56 rfl rfl ?_
  refine zv_iload_n hC dX11_newOther_59 rfl ?_
  refine zv_iald hC dX11_newOther_60 rfl h.1 ?_
  replace h := h.2
  refine zv_callVi (As := [_, _, _]) hC dX11_newOther_61 Y_X11_so lk_X11_202 (by decide) rfl rfl rfl (Nat.le_of_ble_eq_true rfl) (ok_X11_so G h) ?_
  intro r_2 σ_1 h
  exact zv_go (k_X11_newOther_64 hC hR  h) trivial
def B_X11_newOther_18 (Q : Int32 → zv_St → Prop) (x1 : Int32) (x2 : Int32) (σ : zv_St) : Prop :=
  (¬ x2 = 0 → (B_X11_newOther_47 Q x1 x2 σ)) ∧ (x2 = 0 → (vp_in x1 80 ∧ vp_in (σ.1 49 x1.toNatClampNeg) 16 ∧ (¬ (σ.1 47 (σ.1 49 x1.toNatClampNeg).toNatClampNeg) = 0 → (B_X11_newOther_47 Q x1 x2 σ)) ∧ ((σ.1 47 (σ.1 49 x1.toNatClampNeg).toNatClampNeg) = 0 → (B_X11_so (fun r_2 σ_1 => B_X11_newOther_64 Q r_2 σ_1) 7 0 0 σ))))
set_option maxRecDepth 20000 in
set_option maxHeartbeats 2000000 in
theorem k_X11_newOther_18 {G : zv_G} {X : zv_X} {Q : Int32 → zv_St → Prop}  (hC : zv_C G X M_X11_newOther) (hR : zv_R G X M_X11_newOther (zv_qi Q))  {x1 : Int32} {x2 : Int32} {σ : zv_St} (h : B_X11_newOther_18 Q  x1 x2 σ) : zv_V G X M_X11_newOther 18 [(0, .ref (G.2.2.1 45)), (1, .int x1), (2, .int x2)] [] σ := by
  unfold B_X11_newOther_18 at h
  refine zv_iload_n hC dX11_newOther_18 rfl ?_
  refine zv_if_ne (tgt := 47) hC dX11_newOther_19 (by decide) (fun c => ?_) (fun c => ?_)
  · replace h := h.1 c
    exact zv_go (k_X11_newOther_47 hC hR  h) ⟨rfl, rfl, rfl, trivial⟩
  · replace h := h.2 c
    refine zv_aload_n hC dX11_newOther_22 rfl ?_
    refine zv_getR (j := 47) hC fl_X11_13 dX11_newOther_23 rfl rfl ?_
    refine zv_aload_n hC dX11_newOther_26 rfl ?_
    refine zv_getR (j := 49) hC fl_X11_19 dX11_newOther_27 rfl rfl ?_
    refine zv_iload_n hC dX11_newOther_30 rfl ?_
    refine zv_iald hC dX11_newOther_31 rfl h.1 ?_
    replace h := h.2
    refine zv_iald hC dX11_newOther_32 rfl h.1 ?_
    replace h := h.2
    refine zv_if_ne (tgt := 47) hC dX11_newOther_33 (by decide) (fun c => ?_) (fun c => ?_)
    · replace h := h.1 c
      exact zv_go (k_X11_newOther_47 hC hR  h) ⟨rfl, rfl, rfl, trivial⟩
    · replace h := h.2 c
      refine zv_aload_n hC dX11_newOther_36 rfl ?_
      refine zv_bipush (v := 7) hC dX11_newOther_37 (by decide) ?_
      refine zv_iconst (v := 0) hC dX11_newOther_39 (by decide) ?_
      refine zv_iconst (v := 0) hC dX11_newOther_40 (by decide) ?_
      refine zv_callVi (As := [_, _, _]) hC dX11_newOther_41 Y_X11_so lk_X11_202 (by decide) rfl rfl rfl (Nat.le_of_ble_eq_true rfl) (ok_X11_so G h) ?_
      intro r_2 σ_1 h
      refine zv_goto (tgt := 64) hC dX11_newOther_44 (by decide) ?_
      exact zv_go (k_X11_newOther_64 hC hR  h) trivial
def B_X11_newOther_105 (Q : Int32 → zv_St → Prop) (x3 : Int32) (σ : zv_St) : Prop :=
  Q x3 σ
set_option maxRecDepth 20000 in
set_option maxHeartbeats 2000000 in
theorem k_X11_newOther_105 {G : zv_G} {X : zv_X} {Q : Int32 → zv_St → Prop}  (hC : zv_C G X M_X11_newOther) (hR : zv_R G X M_X11_newOther (zv_qi Q))  {x3 : Int32} {σ : zv_St} (h : B_X11_newOther_105 Q  x3 σ) : zv_V G X M_X11_newOther 105 [(3, .int x3)] [] σ := by
  unfold B_X11_newOther_105 at h
  refine zv_iload_n hC dX11_newOther_105 rfl ?_
  exact (hR _ _ _).1 _ rfl dX11_newOther_106 ⟨_, rfl, h⟩
def B_X11_newOther_146 (Q : Int32 → zv_St → Prop) (x1 : Int32) (y1 : Int32) (y2 : Int32) (σ : zv_St) : Prop :=
  vp_in x1 80 ∧ B_X11_so (fun r_2 σ_1 => Q r_2 σ_1) y1 y2 (σ.1 50 x1.toNatClampNeg) σ
set_option maxRecDepth 20000 in
set_option maxHeartbeats 2000000 in
theorem k_X11_newOther_146 {G : zv_G} {X : zv_X} {Q : Int32 → zv_St → Prop}  (hC : zv_C G X M_X11_newOther) (hR : zv_R G X M_X11_newOther (zv_qi Q))  {x1 : Int32} {y1 : Int32} {y2 : Int32} {σ : zv_St} (h : B_X11_newOther_146 Q  x1 y1 y2 σ) : zv_V G X M_X11_newOther 146 [(0, .ref (G.2.2.1 45)), (1, .int x1)] [.int y2, .int y1, .ref (G.2.2.1 45)] σ := by
  unfold B_X11_newOther_146 at h
  refine zv_aload_n hC dX11_newOther_146 rfl ?_
  refine zv_getR (j := 50) hC fl_X11_22 dX11_newOther_147 rfl rfl ?_
  refine zv_iload_n hC dX11_newOther_150 rfl ?_
  refine zv_iald hC dX11_newOther_151 rfl h.1 ?_
  replace h := h.2
  refine zv_callVi (As := [_, _, _]) hC dX11_newOther_152 Y_X11_so lk_X11_202 (by decide) rfl rfl rfl (Nat.le_of_ble_eq_true rfl) (ok_X11_so G h) ?_
  intro r_2 σ_1 h
  exact (hR _ _ _).1 _ rfl dX11_newOther_155 ⟨_, rfl, h⟩
def B_X11_newOther_127 (Q : Int32 → zv_St → Prop) (x1 : Int32) (x2 : Int32) (x3 : Int32) (y0 : Int32) (σ : zv_St) : Prop :=
  (y0 = 0 → (B_X11_newOther_146 Q x1 x2 x3 σ)) ∧ (¬ y0 = 0 → (vp_in x3 80 ∧ B_X11_newOther_146 Q x1 x2 (σ.1 49 x3.toNatClampNeg) σ))
set_option maxRecDepth 20000 in
set_option maxHeartbeats 2000000 in
theorem k_X11_newOther_127 {G : zv_G} {X : zv_X} {Q : Int32 → zv_St → Prop}  (hC : zv_C G X M_X11_newOther) (hR : zv_R G X M_X11_newOther (zv_qi Q))  {x1 : Int32} {x2 : Int32} {x3 : Int32} {y0 : Int32} {σ : zv_St} (h : B_X11_newOther_127 Q  x1 x2 x3 y0 σ) : zv_V G X M_X11_newOther 127 [(0, .ref (G.2.2.1 45)), (1, .int x1), (2, .int x2), (3, .int x3)] [.int y0] σ := by
  unfold B_X11_newOther_127 at h
  refine zv_istore hC dX11_newOther_127 (by decide) ?_
  refine zv_aload_n hC dX11_newOther_129 rfl ?_
  refine zv_iload_n hC dX11_newOther_130 rfl ?_
  refine zv_iload hC dX11_newOther_131 rfl ?_
  refine zv_if_eq (tgt := 145) hC dX11_newOther_133 (by decide) (fun c => ?_) (fun c => ?_)
  · replace h := h.1 c
    refine zv_iload_n hC dX11_newOther_145 rfl ?_
    exact zv_go (k_X11_newOther_146 hC hR  h) ⟨rfl, rfl, trivial⟩
  · replace h := h.2 c
    refine zv_aload_n hC dX11_newOther_136 rfl ?_
    refine zv_getR (j := 49) hC fl_X11_19 dX11_newOther_137 rfl rfl ?_
    refine zv_iload_n hC dX11_newOther_140 rfl ?_
    refine zv_iald hC dX11_newOther_141 rfl h.1 ?_
    replace h := h.2
    refine zv_goto (tgt := 146) hC dX11_newOther_142 (by decide) ?_
    exact zv_go (k_X11_newOther_146 hC hR  h) ⟨rfl, rfl, trivial⟩
def B_X11_newOther_126 (Q : Int32 → zv_St → Prop) (x1 : Int32) (x2 : Int32) (x3 : Int32) (σ : zv_St) : Prop :=
  B_X11_newOther_127 Q x1 x2 x3 0 σ
set_option maxRecDepth 20000 in
set_option maxHeartbeats 2000000 in
theorem k_X11_newOther_126 {G : zv_G} {X : zv_X} {Q : Int32 → zv_St → Prop}  (hC : zv_C G X M_X11_newOther) (hR : zv_R G X M_X11_newOther (zv_qi Q))  {x1 : Int32} {x2 : Int32} {x3 : Int32} {σ : zv_St} (h : B_X11_newOther_126 Q  x1 x2 x3 σ) : zv_V G X M_X11_newOther 126 [(0, .ref (G.2.2.1 45)), (1, .int x1), (2, .int x2), (3, .int x3)] [] σ := by
  unfold B_X11_newOther_126 at h
  refine zv_iconst (v := 0) hC dX11_newOther_126 (by decide) ?_
  exact zv_go (k_X11_newOther_127 hC hR  h) ⟨rfl, rfl, rfl, rfl, trivial⟩
def B_X11_newOther_107 (Q : Int32 → zv_St → Prop) (x1 : Int32) (x2 : Int32) (x3 : Int32) (σ : zv_St) : Prop :=
  vp_in x3 80 ∧ (¬ (σ.1 48 x3.toNatClampNeg) = 4 → (B_X11_newOther_126 Q x1 x2 x3 σ)) ∧ ((σ.1 48 x3.toNatClampNeg) = 4 → ((x2 = 5 → (B_X11_newOther_126 Q x1 x2 x3 σ)) ∧ (¬ x2 = 5 → (B_X11_newOther_127 Q x1 x2 x3 1 σ))))
set_option maxRecDepth 20000 in
set_option maxHeartbeats 2000000 in
theorem k_X11_newOther_107 {G : zv_G} {X : zv_X} {Q : Int32 → zv_St → Prop}  (hC : zv_C G X M_X11_newOther) (hR : zv_R G X M_X11_newOther (zv_qi Q))  {x1 : Int32} {x2 : Int32} {x3 : Int32} {σ : zv_St} (h : B_X11_newOther_107 Q  x1 x2 x3 σ) : zv_V G X M_X11_newOther 107 [(0, .ref (G.2.2.1 45)), (1, .int x1), (2, .int x2), (3, .int x3)] [] σ := by
  unfold B_X11_newOther_107 at h
  refine zv_aload_n hC dX11_newOther_107 rfl ?_
  refine zv_getR (j := 48) hC fl_X11_16 dX11_newOther_108 rfl rfl ?_
  refine zv_iload_n hC dX11_newOther_111 rfl ?_
  refine zv_iald hC dX11_newOther_112 rfl h.1 ?_
  replace h := h.2
  refine zv_iconst (v := 4) hC dX11_newOther_113 (by decide) ?_
  refine zv_icmp_ne (tgt := 126) hC dX11_newOther_114 (by decide) (fun c => ?_) (fun c => ?_)
  · replace h := h.1 c
    exact zv_go (k_X11_newOther_126 hC hR  h) ⟨rfl, rfl, rfl, rfl, trivial⟩
  · replace h := h.2 c
    refine zv_iload_n hC dX11_newOther_117 rfl ?_
    refine zv_iconst (v := 5) hC dX11_newOther_118 (by decide) ?_
    refine zv_icmp_eq (tgt := 126) hC dX11_newOther_119 (by decide) (fun c => ?_) (fun c => ?_)
    · replace h := h.1 c
      exact zv_go (k_X11_newOther_126 hC hR  h) ⟨rfl, rfl, rfl, rfl, trivial⟩
    · replace h := h.2 c
      refine zv_iconst (v := 1) hC dX11_newOther_122 (by decide) ?_
      refine zv_goto (tgt := 127) hC dX11_newOther_123 (by decide) ?_
      exact zv_go (k_X11_newOther_127 hC hR  h) ⟨rfl, rfl, rfl, rfl, trivial⟩
def B_X11_newOther (Q : Int32 → zv_St → Prop) (x1 : Int32) (σ : zv_St) : Prop :=
  vp_in x1 80 ∧ ∀ v_1 : Int32, v_1 = (σ.1 48 x1.toNatClampNeg) → (v_1 < 2 → (B_X11_newOther_18 Q x1 v_1 σ)) ∧ (¬ v_1 < 2 → ((¬ v_1 = 7 → (vp_in x1 80 ∧ vp_in (σ.1 49 x1.toNatClampNeg) 80 ∧ ∀ v_2 : Int32, v_2 = (σ.1 72 (σ.1 49 x1.toNatClampNeg).toNatClampNeg) → vp_in v_2 80 ∧ ((σ.1 48 v_2.toNatClampNeg) = 7 → (B_X11_newOther_105 Q v_2 σ)) ∧ (¬ (σ.1 48 v_2.toNatClampNeg) = 7 → ((¬ v_1 = 6 → (B_X11_newOther_107 Q x1 v_1 v_2 σ)) ∧ (v_1 = 6 → (vp_in v_2 80 ∧ (¬ (σ.1 48 v_2.toNatClampNeg) = 6 → (B_X11_newOther_107 Q x1 v_1 v_2 σ)) ∧ ((σ.1 48 v_2.toNatClampNeg) = 6 → (B_X11_newOther_105 Q v_2 σ)))))))) ∧ (v_1 = 7 → (B_X11_newOther_18 Q x1 v_1 σ))))
set_option maxRecDepth 20000 in
set_option maxHeartbeats 2000000 in
theorem k_X11_newOther_0 {G : zv_G} {X : zv_X} {Q : Int32 → zv_St → Prop}  (hC : zv_C G X M_X11_newOther) (hR : zv_R G X M_X11_newOther (zv_qi Q))  {x1 : Int32} {σ : zv_St} (h : B_X11_newOther Q  x1 σ) : zv_V G X M_X11_newOther 0 [(0, .ref (G.2.2.1 45)), (1, .int x1)] [] σ := by
  unfold B_X11_newOther at h
  refine zv_aload_n hC dX11_newOther_0 rfl ?_
  refine zv_getR (j := 48) hC fl_X11_16 dX11_newOther_1 rfl rfl ?_
  refine zv_iload_n hC dX11_newOther_4 rfl ?_
  refine zv_iald hC dX11_newOther_5 rfl h.1 ?_
  replace h := h.2
  replace h := h _ rfl
  refine zv_istore_n hC dX11_newOther_6 (by decide) ?_
  refine zv_iload_n hC dX11_newOther_7 rfl ?_
  refine zv_iconst (v := 2) hC dX11_newOther_8 (by decide) ?_
  refine zv_icmp_lt (tgt := 18) hC dX11_newOther_9 (by decide) (fun c => ?_) (fun c => ?_)
  · replace h := h.1 c
    exact zv_go (k_X11_newOther_18 hC hR  h) ⟨rfl, rfl, rfl, trivial⟩
  · replace h := h.2 c
    refine zv_iload_n hC dX11_newOther_12 rfl ?_
    refine zv_bipush (v := 7) hC dX11_newOther_13 (by decide) ?_
    refine zv_icmp_ne (tgt := 65) hC dX11_newOther_15 (by decide) (fun c => ?_) (fun c => ?_)
    · replace h := h.1 c
      refine zv_aload_n hC dX11_newOther_65 rfl ?_
      refine zv_getR (j := 72) hC fl_X11_91 dX11_newOther_66 rfl rfl ?_
      refine zv_aload_n hC dX11_newOther_69 rfl ?_
      refine zv_getR (j := 49) hC fl_X11_19 dX11_newOther_70 rfl rfl ?_
      refine zv_iload_n hC dX11_newOther_73 rfl ?_
      refine zv_iald hC dX11_newOther_74 rfl h.1 ?_
      replace h := h.2
      refine zv_iald hC dX11_newOther_75 rfl h.1 ?_
      replace h := h.2
      replace h := h _ rfl
      refine zv_istore_n hC dX11_newOther_76 (by decide) ?_
      refine zv_aload_n hC dX11_newOther_77 rfl ?_
      refine zv_getR (j := 48) hC fl_X11_16 dX11_newOther_78 rfl rfl ?_
      refine zv_iload_n hC dX11_newOther_81 rfl ?_
      refine zv_iald hC dX11_newOther_82 rfl h.1 ?_
      replace h := h.2
      refine zv_bipush (v := 7) hC dX11_newOther_83 (by decide) ?_
      refine zv_icmp_eq (tgt := 105) hC dX11_newOther_85 (by decide) (fun c => ?_) (fun c => ?_)
      · replace h := h.1 c
        exact zv_go (k_X11_newOther_105 hC hR  h) ⟨rfl, trivial⟩
      · replace h := h.2 c
        refine zv_iload_n hC dX11_newOther_88 rfl ?_
        refine zv_bipush (v := 6) hC dX11_newOther_89 (by decide) ?_
        refine zv_icmp_ne (tgt := 107) hC dX11_newOther_91 (by decide) (fun c => ?_) (fun c => ?_)
        · replace h := h.1 c
          exact zv_go (k_X11_newOther_107 hC hR  h) ⟨rfl, rfl, rfl, rfl, trivial⟩
        · replace h := h.2 c
          refine zv_aload_n hC dX11_newOther_94 rfl ?_
          refine zv_getR (j := 48) hC fl_X11_16 dX11_newOther_95 rfl rfl ?_
          refine zv_iload_n hC dX11_newOther_98 rfl ?_
          refine zv_iald hC dX11_newOther_99 rfl h.1 ?_
          replace h := h.2
          refine zv_bipush (v := 6) hC dX11_newOther_100 (by decide) ?_
          refine zv_icmp_ne (tgt := 107) hC dX11_newOther_102 (by decide) (fun c => ?_) (fun c => ?_)
          · replace h := h.1 c
            exact zv_go (k_X11_newOther_107 hC hR  h) ⟨rfl, rfl, rfl, rfl, trivial⟩
          · replace h := h.2 c
            exact zv_go (k_X11_newOther_105 hC hR  h) ⟨rfl, trivial⟩
    · replace h := h.2 c
      exact zv_go (k_X11_newOther_18 hC hR  h) ⟨rfl, rfl, rfl, trivial⟩
theorem ok_X11_newOther (G : zv_G) {Q : Int32 → zv_St → Prop} {x1 : Int32} {σ : zv_St} (h : B_X11_newOther Q x1 σ) : zv_OK G M_X11_newOther yX11_newOther [.ref (G.2.2.1 45), .int x1] σ (zv_qi Q) := zv_ok G _ _ _ _ _ (by decide +kernel) rfl (Nat.le_of_ble_eq_true rfl) (fun X hC hR => zv_go (k_X11_newOther_0 hC hR h) ⟨rfl, rfl, trivial⟩)
-- X11_rewrite
def B_X11_rewrite_185 (Q : Int32 → zv_St → Prop) (x1 : Int32) (x2 : Int32) (σ : zv_St) : Prop :=
  ((σ.1 45 35) = 0 → (vp_in x1 80 ∧ Q (σ.1 72 x1.toNatClampNeg) σ)) ∧ (¬ (σ.1 45 35) = 0 → (∀ σ_1 : zv_St, σ_1 = zv_wi σ 45 2 x2 → Q (-3) σ_1))
set_option maxRecDepth 20000 in
set_option maxHeartbeats 2000000 in
theorem k_X11_rewrite_185 {G : zv_G} {X : zv_X} {Q : Int32 → zv_St → Prop}  (hC : zv_C G X M_X11_rewrite) (hR : zv_R G X M_X11_rewrite (zv_qi Q))  {x1 : Int32} {x2 : Int32} {σ : zv_St} (h : B_X11_rewrite_185 Q  x1 x2 σ) : zv_V G X M_X11_rewrite 185 [(0, .ref (G.2.2.1 45)), (1, .int x1), (2, .int x2)] [] σ := by
  unfold B_X11_rewrite_185 at h
  refine zv_aload_n hC dX11_rewrite_185 rfl ?_
  refine zv_getI hC fl_X11_186 dX11_rewrite_186 rfl rfl ?_
  refine zv_if_eq (tgt := 200) hC dX11_rewrite_189 (by decide) (fun c => ?_) (fun c => ?_)
  · replace h := h.1 c
    refine zv_aload_n hC dX11_rewrite_200 rfl ?_
    refine zv_getR (j := 72) hC fl_X11_91 dX11_rewrite_201 rfl rfl ?_
    refine zv_iload_n hC dX11_rewrite_204 rfl ?_
    refine zv_iald hC dX11_rewrite_205 rfl h.1 ?_
    replace h := h.2
    exact (hR _ _ _).1 _ rfl dX11_rewrite_206 ⟨_, rfl, h⟩
  · replace h := h.2 c
    refine zv_aload_n hC dX11_rewrite_192 rfl ?_
    refine zv_iload_n hC dX11_rewrite_193 rfl ?_
    refine zv_putI hC fp_X11_107 dX11_rewrite_194 rfl rfl rfl rfl ?_
    replace h := h _ rfl
    refine zv_bipush (v := (-3)) hC dX11_rewrite_197 (by decide) ?_
    exact (hR _ _ _).1 _ rfl dX11_rewrite_199 ⟨_, rfl, h⟩
def B_X11_rewrite_179 (Q : Int32 → zv_St → Prop) (kk111 : Int32 → Int32 → Int32 → zv_St → Prop) (x1 : Int32) (x2 : Int32) (x3 : Int32) (σ : zv_St) : Prop :=
  kk111 x1 x2 (x3 + 1) σ
set_option maxRecDepth 20000 in
set_option maxHeartbeats 2000000 in
theorem k_X11_rewrite_179 {G : zv_G} {X : zv_X} {Q : Int32 → zv_St → Prop} {kk111 : Int32 → Int32 → Int32 → zv_St → Prop} (hC : zv_C G X M_X11_rewrite) (hR : zv_R G X M_X11_rewrite (zv_qi Q)) (hk111 : ∀ (x1 : Int32) (x2 : Int32) (x3 : Int32) (σ : zv_St), kk111 x1 x2 x3 σ → zv_V G X M_X11_rewrite 111 [(0, .ref (G.2.2.1 45)), (1, .int x1), (2, .int x2), (3, .int x3)] [] σ) {x1 : Int32} {x2 : Int32} {x3 : Int32} {σ : zv_St} (h : B_X11_rewrite_179 Q kk111 x1 x2 x3 σ) : zv_V G X M_X11_rewrite 179 [(0, .ref (G.2.2.1 45)), (1, .int x1), (2, .int x2), (3, .int x3)] [] σ := by
  unfold B_X11_rewrite_179 at h
  refine zv_iinc (v := 1) hC dX11_rewrite_179 rfl (by decide) (by decide) ?_
  refine zv_goto (tgt := 111) hC dX11_rewrite_182 (by decide) ?_
  exact zv_go (hk111 _ _ _ _ h) ⟨rfl, rfl, rfl, rfl, trivial⟩
def B_X11_rewrite_178 (Q : Int32 → zv_St → Prop) (kk111 : Int32 → Int32 → Int32 → zv_St → Prop) (x1 : Int32) (x2 : Int32) (x3 : Int32) (y1 : Int32) (y2 : Int32) (σ : zv_St) : Prop :=
  vp_in y1 80 ∧ ∀ σ_1 : zv_St, σ_1 = zv_wi σ 72 y1.toNatClampNeg y2 → B_X11_rewrite_179 Q kk111 x1 x2 x3 σ_1
set_option maxRecDepth 20000 in
set_option maxHeartbeats 2000000 in
theorem k_X11_rewrite_178 {G : zv_G} {X : zv_X} {Q : Int32 → zv_St → Prop} {kk111 : Int32 → Int32 → Int32 → zv_St → Prop} (hC : zv_C G X M_X11_rewrite) (hR : zv_R G X M_X11_rewrite (zv_qi Q)) (hk111 : ∀ (x1 : Int32) (x2 : Int32) (x3 : Int32) (σ : zv_St), kk111 x1 x2 x3 σ → zv_V G X M_X11_rewrite 111 [(0, .ref (G.2.2.1 45)), (1, .int x1), (2, .int x2), (3, .int x3)] [] σ) {x1 : Int32} {x2 : Int32} {x3 : Int32} {y1 : Int32} {y2 : Int32} {σ : zv_St} (h : B_X11_rewrite_178 Q kk111 x1 x2 x3 y1 y2 σ) : zv_V G X M_X11_rewrite 178 [(0, .ref (G.2.2.1 45)), (1, .int x1), (2, .int x2), (3, .int x3)] [.int y2, .int y1, .ref (G.2.2.1 72)] σ := by
  unfold B_X11_rewrite_178 at h
  refine zv_iast hC dX11_rewrite_178 rfl h.1 ?_
  replace h := h.2 _ rfl
  exact zv_go (k_X11_rewrite_179 hC hR hk111 h) ⟨rfl, rfl, rfl, rfl, trivial⟩
def L_X11_rewrite_111 (Q : Int32 → zv_St → Prop) : Nat → (Int32 → Int32 → Int32 → zv_St → Prop)
  | 0 => fun _ _ _ _ => False
  | u + 1 => fun x1 x2 x3 σ => 
    (x1 < x3 → (B_X11_rewrite_185 Q x1 x2 σ)) ∧ (¬ x1 < x3 → ((¬ (σ.1 45 35) = 0 → (B_X11_rewrite_185 Q x1 x2 σ)) ∧ ((σ.1 45 35) = 0 → (vp_in x3 80 ∧ ((σ.1 61 x3.toNatClampNeg) = 0 → (B_X11_rewrite_179 Q (L_X11_rewrite_111 Q u) x1 x2 x3 σ)) ∧ (¬ (σ.1 61 x3.toNatClampNeg) = 0 → (vp_in x3 80 ∧ (¬ (σ.1 48 x3.toNatClampNeg) = 2 → (vp_in x3 80 ∧ (¬ (σ.1 48 x3.toNatClampNeg) = 3 → (B_X11_newOther (fun r_2 σ_1 => B_X11_rewrite_178 Q (L_X11_rewrite_111 Q u) x1 x2 x3 x3 r_2 σ_1) x3 σ)) ∧ ((σ.1 48 x3.toNatClampNeg) = 3 → (B_X11_newBest (fun r_4 σ_3 => B_X11_rewrite_178 Q (L_X11_rewrite_111 Q u) x1 x2 x3 x3 r_4 σ_3) x3 σ)))) ∧ ((σ.1 48 x3.toNatClampNeg) = 2 → (B_X11_newBool (fun r_6 σ_5 => B_X11_rewrite_178 Q (L_X11_rewrite_111 Q u) x1 x2 x3 x3 r_6 σ_5) x3 σ))))))))
set_option maxRecDepth 20000 in
set_option maxHeartbeats 2000000 in
theorem kL_X11_rewrite_111 {G : zv_G} {X : zv_X} {Q : Int32 → zv_St → Prop}  (hC : zv_C G X M_X11_rewrite) (hR : zv_R G X M_X11_rewrite (zv_qi Q))  : ∀ (n : Nat) (x1 : Int32) (x2 : Int32) (x3 : Int32) (σ : zv_St), L_X11_rewrite_111 Q  n x1 x2 x3 σ → zv_V G X M_X11_rewrite 111 [(0, .ref (G.2.2.1 45)), (1, .int x1), (2, .int x2), (3, .int x3)] [] σ := by
  intro n
  induction n with
  | zero => intro x1 x2 x3 σ h; exact h.elim
  | succ n hk111 =>
    intro x1 x2 x3 σ h
    unfold L_X11_rewrite_111 at h
    refine zv_iload_n hC dX11_rewrite_111 rfl ?_
    refine zv_iload_n hC dX11_rewrite_112 rfl ?_
    refine zv_icmp_gt (tgt := 185) hC dX11_rewrite_113 (by decide) (fun c => ?_) (fun c => ?_)
    · replace h := h.1 c
      exact zv_go (k_X11_rewrite_185 hC hR  h) ⟨rfl, rfl, rfl, trivial⟩
    · replace h := h.2 c
      refine zv_aload_n hC dX11_rewrite_116 rfl ?_
      refine zv_getI hC fl_X11_186 dX11_rewrite_117 rfl rfl ?_
      refine zv_if_ne (tgt := 185) hC dX11_rewrite_120 (by decide) (fun c => ?_) (fun c => ?_)
      · replace h := h.1 c
        exact zv_go (k_X11_rewrite_185 hC hR  h) ⟨rfl, rfl, rfl, trivial⟩
      · replace h := h.2 c
        refine zv_aload_n hC dX11_rewrite_123 rfl ?_
        refine zv_getR (j := 61) hC fl_X11_57 dX11_rewrite_124 rfl rfl ?_
        refine zv_iload_n hC dX11_rewrite_127 rfl ?_
        refine zv_zald hC dX11_rewrite_128 rfl h.1 ?_
        replace h := h.2
        refine zv_if_eq (tgt := 179) hC dX11_rewrite_129 (by decide) (fun c => ?_) (fun c => ?_)
        · replace h := h.1 c
          exact zv_go (k_X11_rewrite_179 hC hR hk111 h) ⟨rfl, rfl, rfl, rfl, trivial⟩
        · replace h := h.2 c
          refine zv_aload_n hC dX11_rewrite_132 rfl ?_
          refine zv_getR (j := 72) hC fl_X11_91 dX11_rewrite_133 rfl rfl ?_
          refine zv_iload_n hC dX11_rewrite_136 rfl ?_
          refine zv_aload_n hC dX11_rewrite_137 rfl ?_
          refine zv_getR (j := 48) hC fl_X11_16 dX11_rewrite_138 rfl rfl ?_
          refine zv_iload_n hC dX11_rewrite_141 rfl ?_
          refine zv_iald hC dX11_rewrite_142 rfl h.1 ?_
          replace h := h.2
          refine zv_iconst (v := 2) hC dX11_rewrite_143 (by decide) ?_
          refine zv_icmp_ne (tgt := 155) hC dX11_rewrite_144 (by decide) (fun c => ?_) (fun c => ?_)
          · replace h := h.1 c
            refine zv_aload_n hC dX11_rewrite_155 rfl ?_
            refine zv_getR (j := 48) hC fl_X11_16 dX11_rewrite_156 rfl rfl ?_
            refine zv_iload_n hC dX11_rewrite_159 rfl ?_
            refine zv_iald hC dX11_rewrite_160 rfl h.1 ?_
            replace h := h.2
            refine zv_iconst (v := 3) hC dX11_rewrite_161 (by decide) ?_
            refine zv_icmp_ne (tgt := 173) hC dX11_rewrite_162 (by decide) (fun c => ?_) (fun c => ?_)
            · replace h := h.1 c
              refine zv_aload_n hC dX11_rewrite_173 rfl ?_
              refine zv_iload_n hC dX11_rewrite_174 rfl ?_
              refine zv_callVi (As := [_]) hC dX11_rewrite_175 Y_X11_newOther lk_X11_196 (by decide) rfl rfl rfl (Nat.le_of_ble_eq_true rfl) (ok_X11_newOther G h) ?_
              intro r_2 σ_1 h
              exact zv_go (k_X11_rewrite_178 hC hR hk111 h) ⟨rfl, rfl, rfl, rfl, trivial⟩
            · replace h := h.2 c
              refine zv_aload_n hC dX11_rewrite_165 rfl ?_
              refine zv_iload_n hC dX11_rewrite_166 rfl ?_
              refine zv_callVi (As := [_]) hC dX11_rewrite_167 Y_X11_newBest lk_X11_193 (by decide) rfl rfl rfl (Nat.le_of_ble_eq_true rfl) (ok_X11_newBest G h) ?_
              intro r_4 σ_3 h
              refine zv_goto (tgt := 178) hC dX11_rewrite_170 (by decide) ?_
              exact zv_go (k_X11_rewrite_178 hC hR hk111 h) ⟨rfl, rfl, rfl, rfl, trivial⟩
          · replace h := h.2 c
            refine zv_aload_n hC dX11_rewrite_147 rfl ?_
            refine zv_iload_n hC dX11_rewrite_148 rfl ?_
            refine zv_callVi (As := [_]) hC dX11_rewrite_149 Y_X11_newBool lk_X11_190 (by decide) rfl rfl rfl (Nat.le_of_ble_eq_true rfl) (ok_X11_newBool G h) ?_
            intro r_6 σ_5 h
            refine zv_goto (tgt := 178) hC dX11_rewrite_152 (by decide) ?_
            exact zv_go (k_X11_rewrite_178 hC hR hk111 h) ⟨rfl, rfl, rfl, rfl, trivial⟩
def B_X11_rewrite_103 (Q : Int32 → zv_St → Prop) (kk52 : Int32 → Int32 → Int32 → zv_St → Prop) (x1 : Int32) (x2 : Int32) (x3 : Int32) (σ : zv_St) : Prop :=
  kk52 x1 x2 (x3 + (-1)) σ
set_option maxRecDepth 20000 in
set_option maxHeartbeats 2000000 in
theorem k_X11_rewrite_103 {G : zv_G} {X : zv_X} {Q : Int32 → zv_St → Prop} {kk52 : Int32 → Int32 → Int32 → zv_St → Prop} (hC : zv_C G X M_X11_rewrite) (hR : zv_R G X M_X11_rewrite (zv_qi Q)) (hk52 : ∀ (x1 : Int32) (x2 : Int32) (x3 : Int32) (σ : zv_St), kk52 x1 x2 x3 σ → zv_V G X M_X11_rewrite 52 [(0, .ref (G.2.2.1 45)), (1, .int x1), (2, .int x2), (3, .int x3)] [] σ) {x1 : Int32} {x2 : Int32} {x3 : Int32} {σ : zv_St} (h : B_X11_rewrite_103 Q kk52 x1 x2 x3 σ) : zv_V G X M_X11_rewrite 103 [(0, .ref (G.2.2.1 45)), (1, .int x1), (2, .int x2), (3, .int x3)] [] σ := by
  unfold B_X11_rewrite_103 at h
  refine zv_iinc (v := (-1)) hC dX11_rewrite_103 rfl (by decide) (by decide) ?_
  refine zv_goto (tgt := 52) hC dX11_rewrite_106 (by decide) ?_
  exact zv_go (hk52 _ _ _ _ h) ⟨rfl, rfl, rfl, rfl, trivial⟩
def L_X11_rewrite_59 (Q : Int32 → zv_St → Prop) (kk52 : Int32 → Int32 → Int32 → zv_St → Prop) : Nat → (Int32 → Int32 → Int32 → Int32 → zv_St → Prop)
  | 0 => fun _ _ _ _ _ => False
  | u + 1 => fun x1 x2 x3 x4 σ => 
    vp_in x3 80 ∧ ((σ.1 51 x3.toNatClampNeg) ≤ x4 → (B_X11_rewrite_103 Q kk52 x1 x2 x3 σ)) ∧ (¬ (σ.1 51 x3.toNatClampNeg) ≤ x4 → (vp_in x3 80 ∧ ((σ.1 61 x3.toNatClampNeg) = 0 → (B_X11_rewrite_103 Q kk52 x1 x2 x3 σ)) ∧ (¬ (σ.1 61 x3.toNatClampNeg) = 0 → (vp_in ((8 * x3) + x4) 640 ∧ vp_in (σ.1 53 ((8 * x3) + x4).toNatClampNeg) 80 ∧ ∀ σ_1 : zv_St, σ_1 = zv_wi σ 61 (σ.1 53 ((8 * x3) + x4).toNatClampNeg).toNatClampNeg (vp_nar .boolean 1) → (L_X11_rewrite_59 Q kk52 u) x1 x2 x3 (x4 + 1) σ_1))))
set_option maxRecDepth 20000 in
set_option maxHeartbeats 2000000 in
theorem kL_X11_rewrite_59 {G : zv_G} {X : zv_X} {Q : Int32 → zv_St → Prop} {kk52 : Int32 → Int32 → Int32 → zv_St → Prop} (hC : zv_C G X M_X11_rewrite) (hR : zv_R G X M_X11_rewrite (zv_qi Q)) (hk52 : ∀ (x1 : Int32) (x2 : Int32) (x3 : Int32) (σ : zv_St), kk52 x1 x2 x3 σ → zv_V G X M_X11_rewrite 52 [(0, .ref (G.2.2.1 45)), (1, .int x1), (2, .int x2), (3, .int x3)] [] σ) : ∀ (n : Nat) (x1 : Int32) (x2 : Int32) (x3 : Int32) (x4 : Int32) (σ : zv_St), L_X11_rewrite_59 Q kk52 n x1 x2 x3 x4 σ → zv_V G X M_X11_rewrite 59 [(0, .ref (G.2.2.1 45)), (1, .int x1), (2, .int x2), (3, .int x3), (4, .int x4)] [] σ := by
  intro n
  induction n with
  | zero => intro x1 x2 x3 x4 σ h; exact h.elim
  | succ n hk59 =>
    intro x1 x2 x3 x4 σ h
    unfold L_X11_rewrite_59 at h
    refine zv_iload hC dX11_rewrite_59 rfl ?_
    refine zv_aload_n hC dX11_rewrite_61 rfl ?_
    refine zv_getR (j := 51) hC fl_X11_25 dX11_rewrite_62 rfl rfl ?_
    refine zv_iload_n hC dX11_rewrite_65 rfl ?_
    refine zv_iald hC dX11_rewrite_66 rfl h.1 ?_
    replace h := h.2
    refine zv_icmp_ge (tgt := 103) hC dX11_rewrite_67 (by decide) (fun c => ?_) (fun c => ?_)
    · replace h := h.1 c
      exact zv_go (k_X11_rewrite_103 hC hR hk52 h) ⟨rfl, rfl, rfl, rfl, trivial⟩
    · replace h := h.2 c
      refine zv_aload_n hC dX11_rewrite_70 rfl ?_
      refine zv_getR (j := 61) hC fl_X11_57 dX11_rewrite_71 rfl rfl ?_
      refine zv_iload_n hC dX11_rewrite_74 rfl ?_
      refine zv_zald hC dX11_rewrite_75 rfl h.1 ?_
      replace h := h.2
      refine zv_if_eq (tgt := 103) hC dX11_rewrite_76 (by decide) (fun c => ?_) (fun c => ?_)
      · replace h := h.1 c
        exact zv_go (k_X11_rewrite_103 hC hR hk52 h) ⟨rfl, rfl, rfl, rfl, trivial⟩
      · replace h := h.2 c
        refine zv_aload_n hC dX11_rewrite_79 rfl ?_
        refine zv_getR (j := 61) hC fl_X11_57 dX11_rewrite_80 rfl rfl ?_
        refine zv_aload_n hC dX11_rewrite_83 rfl ?_
        refine zv_getR (j := 53) hC fl_X11_31 dX11_rewrite_84 rfl rfl ?_
        refine zv_bipush (v := 8) hC dX11_rewrite_87 (by decide) ?_
        refine zv_iload_n hC dX11_rewrite_89 rfl ?_
        refine zv_imul hC dX11_rewrite_90 ?_
        refine zv_iload hC dX11_rewrite_91 rfl ?_
        refine zv_iadd hC dX11_rewrite_93 ?_
        refine zv_iald hC dX11_rewrite_94 rfl h.1 ?_
        replace h := h.2
        refine zv_iconst (v := 1) hC dX11_rewrite_95 (by decide) ?_
        refine zv_zast hC dX11_rewrite_96 rfl h.1 ?_
        replace h := h.2 _ rfl
        refine zv_iinc (v := 1) hC dX11_rewrite_97 rfl (by decide) (by decide) ?_
        refine zv_goto (tgt := 59) hC dX11_rewrite_100 (by decide) ?_
        exact zv_go (hk59 _ _ _ _ _ h) ⟨rfl, rfl, rfl, rfl, rfl, trivial⟩
def L_X11_rewrite_52 (Q : Int32 → zv_St → Prop) : Nat → (Int32 → Int32 → Int32 → zv_St → Prop)
  | 0 => fun _ _ _ _ => False
  | u + 1 => fun x1 x2 x3 σ => 
    (x3 < 0 → (∃ n111, L_X11_rewrite_111 Q n111 x1 x2 0 σ)) ∧ (¬ x3 < 0 → (∃ n59, L_X11_rewrite_59 Q (L_X11_rewrite_52 Q u) n59 x1 x2 x3 0 σ))
set_option maxRecDepth 20000 in
set_option maxHeartbeats 2000000 in
theorem kL_X11_rewrite_52 {G : zv_G} {X : zv_X} {Q : Int32 → zv_St → Prop}  (hC : zv_C G X M_X11_rewrite) (hR : zv_R G X M_X11_rewrite (zv_qi Q))  : ∀ (n : Nat) (x1 : Int32) (x2 : Int32) (x3 : Int32) (σ : zv_St), L_X11_rewrite_52 Q  n x1 x2 x3 σ → zv_V G X M_X11_rewrite 52 [(0, .ref (G.2.2.1 45)), (1, .int x1), (2, .int x2), (3, .int x3)] [] σ := by
  intro n
  induction n with
  | zero => intro x1 x2 x3 σ h; exact h.elim
  | succ n hk52 =>
    intro x1 x2 x3 σ h
    unfold L_X11_rewrite_52 at h
    refine zv_iload_n hC dX11_rewrite_52 rfl ?_
    refine zv_if_lt (tgt := 109) hC dX11_rewrite_53 (by decide) (fun c => ?_) (fun c => ?_)
    · replace h := h.1 c
      refine zv_iconst (v := 0) hC dX11_rewrite_109 (by decide) ?_
      refine zv_istore_n hC dX11_rewrite_110 (by decide) ?_
      obtain ⟨n, h⟩ := h
      exact zv_go (kL_X11_rewrite_111 hC hR  n _ _ _ _ h) ⟨rfl, rfl, rfl, rfl, trivial⟩
    · replace h := h.2 c
      refine zv_iconst (v := 0) hC dX11_rewrite_56 (by decide) ?_
      refine zv_istore hC dX11_rewrite_57 (by decide) ?_
      obtain ⟨n, h⟩ := h
      exact zv_go (kL_X11_rewrite_59 hC hR hk52 n _ _ _ _ _ h) ⟨rfl, rfl, rfl, rfl, rfl, trivial⟩
def B_X11_rewrite_43 (Q : Int32 → zv_St → Prop) (kk23 : Int32 → Int32 → Int32 → zv_St → Prop) (x1 : Int32) (x2 : Int32) (x3 : Int32) (y1 : Int32) (y2 : Int32) (σ : zv_St) : Prop :=
  vp_in y1 80 ∧ ∀ σ_1 : zv_St, σ_1 = zv_wi σ 61 y1.toNatClampNeg (vp_nar .boolean y2) → kk23 x1 x2 (x3 + 1) σ_1
set_option maxRecDepth 20000 in
set_option maxHeartbeats 2000000 in
theorem k_X11_rewrite_43 {G : zv_G} {X : zv_X} {Q : Int32 → zv_St → Prop} {kk23 : Int32 → Int32 → Int32 → zv_St → Prop} (hC : zv_C G X M_X11_rewrite) (hR : zv_R G X M_X11_rewrite (zv_qi Q)) (hk23 : ∀ (x1 : Int32) (x2 : Int32) (x3 : Int32) (σ : zv_St), kk23 x1 x2 x3 σ → zv_V G X M_X11_rewrite 23 [(0, .ref (G.2.2.1 45)), (1, .int x1), (2, .int x2), (3, .int x3)] [] σ) {x1 : Int32} {x2 : Int32} {x3 : Int32} {y1 : Int32} {y2 : Int32} {σ : zv_St} (h : B_X11_rewrite_43 Q kk23 x1 x2 x3 y1 y2 σ) : zv_V G X M_X11_rewrite 43 [(0, .ref (G.2.2.1 45)), (1, .int x1), (2, .int x2), (3, .int x3)] [.int y2, .int y1, .ref (G.2.2.1 61)] σ := by
  unfold B_X11_rewrite_43 at h
  refine zv_zast hC dX11_rewrite_43 rfl h.1 ?_
  replace h := h.2 _ rfl
  refine zv_iinc (v := 1) hC dX11_rewrite_44 rfl (by decide) (by decide) ?_
  refine zv_goto (tgt := 23) hC dX11_rewrite_47 (by decide) ?_
  exact zv_go (hk23 _ _ _ _ h) ⟨rfl, rfl, rfl, rfl, trivial⟩
def L_X11_rewrite_23 (Q : Int32 → zv_St → Prop) : Nat → (Int32 → Int32 → Int32 → zv_St → Prop)
  | 0 => fun _ _ _ _ => False
  | u + 1 => fun x1 x2 x3 σ => 
    (x1 < x3 → (∃ n52, L_X11_rewrite_52 Q n52 x1 x2 x1 σ)) ∧ (¬ x1 < x3 → ((¬ x3 = x1 → (B_X11_rewrite_43 Q (L_X11_rewrite_23 Q u) x1 x2 x3 x3 0 σ)) ∧ (x3 = x1 → (B_X11_rewrite_43 Q (L_X11_rewrite_23 Q u) x1 x2 x3 x3 1 σ))))
set_option maxRecDepth 20000 in
set_option maxHeartbeats 2000000 in
theorem kL_X11_rewrite_23 {G : zv_G} {X : zv_X} {Q : Int32 → zv_St → Prop}  (hC : zv_C G X M_X11_rewrite) (hR : zv_R G X M_X11_rewrite (zv_qi Q))  : ∀ (n : Nat) (x1 : Int32) (x2 : Int32) (x3 : Int32) (σ : zv_St), L_X11_rewrite_23 Q  n x1 x2 x3 σ → zv_V G X M_X11_rewrite 23 [(0, .ref (G.2.2.1 45)), (1, .int x1), (2, .int x2), (3, .int x3)] [] σ := by
  intro n
  induction n with
  | zero => intro x1 x2 x3 σ h; exact h.elim
  | succ n hk23 =>
    intro x1 x2 x3 σ h
    unfold L_X11_rewrite_23 at h
    refine zv_iload_n hC dX11_rewrite_23 rfl ?_
    refine zv_iload_n hC dX11_rewrite_24 rfl ?_
    refine zv_icmp_gt (tgt := 50) hC dX11_rewrite_25 (by decide) (fun c => ?_) (fun c => ?_)
    · replace h := h.1 c
      refine zv_iload_n hC dX11_rewrite_50 rfl ?_
      refine zv_istore_n hC dX11_rewrite_51 (by decide) ?_
      obtain ⟨n, h⟩ := h
      exact zv_go (kL_X11_rewrite_52 hC hR  n _ _ _ _ h) ⟨rfl, rfl, rfl, rfl, trivial⟩
    · replace h := h.2 c
      refine zv_aload_n hC dX11_rewrite_28 rfl ?_
      refine zv_getR (j := 61) hC fl_X11_57 dX11_rewrite_29 rfl rfl ?_
      refine zv_iload_n hC dX11_rewrite_32 rfl ?_
      refine zv_iload_n hC dX11_rewrite_33 rfl ?_
      refine zv_iload_n hC dX11_rewrite_34 rfl ?_
      refine zv_icmp_ne (tgt := 42) hC dX11_rewrite_35 (by decide) (fun c => ?_) (fun c => ?_)
      · replace h := h.1 c
        refine zv_iconst (v := 0) hC dX11_rewrite_42 (by decide) ?_
        exact zv_go (k_X11_rewrite_43 hC hR hk23 h) ⟨rfl, rfl, rfl, rfl, trivial⟩
      · replace h := h.2 c
        refine zv_iconst (v := 1) hC dX11_rewrite_38 (by decide) ?_
        refine zv_goto (tgt := 43) hC dX11_rewrite_39 (by decide) ?_
        exact zv_go (k_X11_rewrite_43 hC hR hk23 h) ⟨rfl, rfl, rfl, rfl, trivial⟩
def B_X11_rewrite (Q : Int32 → zv_St → Prop) (x1 : Int32) (σ : zv_St) : Prop :=
  B_X11_isNode (fun r_2 σ_1 => (¬ r_2 = 0 → (∀ σ_3 : zv_St, σ_3 = zv_wi σ_1 45 35 0 → ∃ n23, L_X11_rewrite_23 Q n23 x1 (σ_1.1 45 2) 0 σ_3)) ∧ (r_2 = 0 → (Q (-2) σ_1))) x1 σ
set_option maxRecDepth 20000 in
set_option maxHeartbeats 2000000 in
theorem k_X11_rewrite_0 {G : zv_G} {X : zv_X} {Q : Int32 → zv_St → Prop}  (hC : zv_C G X M_X11_rewrite) (hR : zv_R G X M_X11_rewrite (zv_qi Q))  {x1 : Int32} {σ : zv_St} (h : B_X11_rewrite Q  x1 σ) : zv_V G X M_X11_rewrite 0 [(0, .ref (G.2.2.1 45)), (1, .int x1)] [] σ := by
  unfold B_X11_rewrite at h
  refine zv_aload_n hC dX11_rewrite_0 rfl ?_
  refine zv_iload_n hC dX11_rewrite_1 rfl ?_
  refine zv_callVi (As := [_]) hC dX11_rewrite_2 Y_X11_isNode lk_X11_123 (by decide) rfl rfl rfl (Nat.le_of_ble_eq_true rfl) (ok_X11_isNode G h) ?_
  intro r_2 σ_1 h
  refine zv_if_ne (tgt := 11) hC dX11_rewrite_5 (by decide) (fun c => ?_) (fun c => ?_)
  · replace h := h.1 c
    refine zv_aload_n hC dX11_rewrite_11 rfl ?_
    refine zv_getI hC fl_X11_107 dX11_rewrite_12 rfl rfl ?_
    refine zv_istore_n hC dX11_rewrite_15 (by decide) ?_
    refine zv_aload_n hC dX11_rewrite_16 rfl ?_
    refine zv_iconst (v := 0) hC dX11_rewrite_17 (by decide) ?_
    refine zv_putI hC fp_X11_186 dX11_rewrite_18 rfl rfl rfl rfl ?_
    replace h := h _ rfl
    refine zv_iconst (v := 0) hC dX11_rewrite_21 (by decide) ?_
    refine zv_istore_n hC dX11_rewrite_22 (by decide) ?_
    obtain ⟨n, h⟩ := h
    exact zv_go (kL_X11_rewrite_23 hC hR  n _ _ _ _ h) ⟨rfl, rfl, rfl, rfl, trivial⟩
  · replace h := h.2 c
    refine zv_bipush (v := (-2)) hC dX11_rewrite_8 (by decide) ?_
    exact (hR _ _ _).1 _ rfl dX11_rewrite_10 ⟨_, rfl, h⟩
theorem ok_X11_rewrite (G : zv_G) {Q : Int32 → zv_St → Prop} {x1 : Int32} {σ : zv_St} (h : B_X11_rewrite Q x1 σ) : zv_OK G M_X11_rewrite yX11_rewrite [.ref (G.2.2.1 45), .int x1] σ (zv_qi Q) := zv_ok G _ _ _ _ _ (by decide +kernel) rfl (Nat.le_of_ble_eq_true rfl) (fun X hC hR => zv_go (k_X11_rewrite_0 hC hR h) ⟨rfl, rfl, trivial⟩)
-- X11_sum
def L_X11_sum_43 (Q : Int32 → zv_St → Prop) : Nat → (Int32 → Int32 → zv_St → Prop)
  | 0 => fun _ _ _ => False
  | u + 1 => fun x2 x3 σ => 
    (16 ≤ x3 → (Q x2 σ)) ∧ (¬ 16 ≤ x3 → (vp_in x3 16 ∧ ∀ v_1 : Int32, v_1 = (x2 + (σ.1 47 x3.toNatClampNeg)) → (L_X11_sum_43 Q u) v_1 (x3 + 1) σ))
set_option maxRecDepth 20000 in
set_option maxHeartbeats 2000000 in
theorem kL_X11_sum_43 {G : zv_G} {X : zv_X} {Q : Int32 → zv_St → Prop}  (hC : zv_C G X M_X11_sum) (hR : zv_R G X M_X11_sum (zv_qi Q))  : ∀ (n : Nat) (x2 : Int32) (x3 : Int32) (σ : zv_St), L_X11_sum_43 Q  n x2 x3 σ → zv_V G X M_X11_sum 43 [(0, .ref (G.2.2.1 45)), (2, .int x2), (3, .int x3)] [] σ := by
  intro n
  induction n with
  | zero => intro x2 x3 σ h; exact h.elim
  | succ n hk43 =>
    intro x2 x3 σ h
    unfold L_X11_sum_43 at h
    refine zv_iload_n hC dX11_sum_43 rfl ?_
    refine zv_bipush (v := 16) hC dX11_sum_44 (by decide) ?_
    refine zv_icmp_ge (tgt := 64) hC dX11_sum_46 (by decide) (fun c => ?_) (fun c => ?_)
    · replace h := h.1 c
      refine zv_iload_n hC dX11_sum_64 rfl ?_
      exact (hR _ _ _).1 _ rfl dX11_sum_65 ⟨_, rfl, h⟩
    · replace h := h.2 c
      refine zv_iload_n hC dX11_sum_49 rfl ?_
      refine zv_aload_n hC dX11_sum_50 rfl ?_
      refine zv_getR (j := 47) hC fl_X11_13 dX11_sum_51 rfl rfl ?_
      refine zv_iload_n hC dX11_sum_54 rfl ?_
      refine zv_iald hC dX11_sum_55 rfl h.1 ?_
      replace h := h.2
      refine zv_iadd hC dX11_sum_56 ?_
      replace h := h _ rfl
      refine zv_istore_n hC dX11_sum_57 (by decide) ?_
      refine zv_iinc (v := 1) hC dX11_sum_58 rfl (by decide) (by decide) ?_
      refine zv_goto (tgt := 43) hC dX11_sum_61 (by decide) ?_
      exact zv_go (hk43 _ _ _ h) ⟨rfl, rfl, rfl, trivial⟩
def B_X11_sum_95 (Q : Int32 → zv_St → Prop) (kk73 : Int32 → Int32 → zv_St → Prop) (x3 : Int32) (y0 : Int32) (y1 : Int32) (σ : zv_St) : Prop :=
  kk73 (y0 + y1) (x3 + 1) σ
set_option maxRecDepth 20000 in
set_option maxHeartbeats 2000000 in
theorem k_X11_sum_95 {G : zv_G} {X : zv_X} {Q : Int32 → zv_St → Prop} {kk73 : Int32 → Int32 → zv_St → Prop} (hC : zv_C G X M_X11_sum) (hR : zv_R G X M_X11_sum (zv_qi Q)) (hk73 : ∀ (x2 : Int32) (x3 : Int32) (σ : zv_St), kk73 x2 x3 σ → zv_V G X M_X11_sum 73 [(0, .ref (G.2.2.1 45)), (2, .int x2), (3, .int x3)] [] σ) {x3 : Int32} {y0 : Int32} {y1 : Int32} {σ : zv_St} (h : B_X11_sum_95 Q kk73 x3 y0 y1 σ) : zv_V G X M_X11_sum 95 [(0, .ref (G.2.2.1 45)), (3, .int x3)] [.int y1, .int y0] σ := by
  unfold B_X11_sum_95 at h
  refine zv_iadd hC dX11_sum_95 ?_
  refine zv_istore_n hC dX11_sum_96 (by decide) ?_
  refine zv_iinc (v := 1) hC dX11_sum_97 rfl (by decide) (by decide) ?_
  refine zv_goto (tgt := 73) hC dX11_sum_100 (by decide) ?_
  exact zv_go (hk73 _ _ _ h) ⟨rfl, rfl, rfl, trivial⟩
def L_X11_sum_73 (Q : Int32 → zv_St → Prop) : Nat → (Int32 → Int32 → zv_St → Prop)
  | 0 => fun _ _ _ => False
  | u + 1 => fun x2 x3 σ => 
    (8 ≤ x3 → (Q x2 σ)) ∧ (¬ 8 ≤ x3 → (vp_in x3 8 ∧ ((σ.1 57 x3.toNatClampNeg) = (-1) → (B_X11_sum_95 Q (L_X11_sum_73 Q u) x3 x2 0 σ)) ∧ (¬ (σ.1 57 x3.toNatClampNeg) = (-1) → (B_X11_sum_95 Q (L_X11_sum_73 Q u) x3 x2 1 σ))))
set_option maxRecDepth 20000 in
set_option maxHeartbeats 2000000 in
theorem kL_X11_sum_73 {G : zv_G} {X : zv_X} {Q : Int32 → zv_St → Prop}  (hC : zv_C G X M_X11_sum) (hR : zv_R G X M_X11_sum (zv_qi Q))  : ∀ (n : Nat) (x2 : Int32) (x3 : Int32) (σ : zv_St), L_X11_sum_73 Q  n x2 x3 σ → zv_V G X M_X11_sum 73 [(0, .ref (G.2.2.1 45)), (2, .int x2), (3, .int x3)] [] σ := by
  intro n
  induction n with
  | zero => intro x2 x3 σ h; exact h.elim
  | succ n hk73 =>
    intro x2 x3 σ h
    unfold L_X11_sum_73 at h
    refine zv_iload_n hC dX11_sum_73 rfl ?_
    refine zv_bipush (v := 8) hC dX11_sum_74 (by decide) ?_
    refine zv_icmp_ge (tgt := 103) hC dX11_sum_76 (by decide) (fun c => ?_) (fun c => ?_)
    · replace h := h.1 c
      refine zv_iload_n hC dX11_sum_103 rfl ?_
      exact (hR _ _ _).1 _ rfl dX11_sum_104 ⟨_, rfl, h⟩
    · replace h := h.2 c
      refine zv_iload_n hC dX11_sum_79 rfl ?_
      refine zv_aload_n hC dX11_sum_80 rfl ?_
      refine zv_getR (j := 57) hC fl_X11_45 dX11_sum_81 rfl rfl ?_
      refine zv_iload_n hC dX11_sum_84 rfl ?_
      refine zv_iald hC dX11_sum_85 rfl h.1 ?_
      replace h := h.2
      refine zv_iconst (v := (-1)) hC dX11_sum_86 (by decide) ?_
      refine zv_icmp_eq (tgt := 94) hC dX11_sum_87 (by decide) (fun c => ?_) (fun c => ?_)
      · replace h := h.1 c
        refine zv_iconst (v := 0) hC dX11_sum_94 (by decide) ?_
        exact zv_go (k_X11_sum_95 hC hR hk73 h) ⟨rfl, rfl, trivial⟩
      · replace h := h.2 c
        refine zv_iconst (v := 1) hC dX11_sum_90 (by decide) ?_
        refine zv_goto (tgt := 95) hC dX11_sum_91 (by decide) ?_
        exact zv_go (k_X11_sum_95 hC hR hk73 h) ⟨rfl, rfl, trivial⟩
def B_X11_sum_131 (Q : Int32 → zv_St → Prop) (kk107 : Int32 → Int32 → zv_St → Prop) (x3 : Int32) (y0 : Int32) (y1 : Int32) (σ : zv_St) : Prop :=
  kk107 (y0 + y1) (x3 + 1) σ
set_option maxRecDepth 20000 in
set_option maxHeartbeats 2000000 in
theorem k_X11_sum_131 {G : zv_G} {X : zv_X} {Q : Int32 → zv_St → Prop} {kk107 : Int32 → Int32 → zv_St → Prop} (hC : zv_C G X M_X11_sum) (hR : zv_R G X M_X11_sum (zv_qi Q)) (hk107 : ∀ (x2 : Int32) (x3 : Int32) (σ : zv_St), kk107 x2 x3 σ → zv_V G X M_X11_sum 107 [(0, .ref (G.2.2.1 45)), (2, .int x2), (3, .int x3)] [] σ) {x3 : Int32} {y0 : Int32} {y1 : Int32} {σ : zv_St} (h : B_X11_sum_131 Q kk107 x3 y0 y1 σ) : zv_V G X M_X11_sum 131 [(0, .ref (G.2.2.1 45)), (3, .int x3)] [.int y1, .int y0] σ := by
  unfold B_X11_sum_131 at h
  refine zv_iadd hC dX11_sum_131 ?_
  refine zv_istore_n hC dX11_sum_132 (by decide) ?_
  refine zv_iinc (v := 1) hC dX11_sum_133 rfl (by decide) (by decide) ?_
  refine zv_goto (tgt := 107) hC dX11_sum_136 (by decide) ?_
  exact zv_go (hk107 _ _ _ h) ⟨rfl, rfl, rfl, trivial⟩
def L_X11_sum_107 (Q : Int32 → zv_St → Prop) : Nat → (Int32 → Int32 → zv_St → Prop)
  | 0 => fun _ _ _ => False
  | u + 1 => fun x2 x3 σ => 
    ((σ.1 45 2) ≤ x3 → (Q x2 σ)) ∧ (¬ (σ.1 45 2) ≤ x3 → (vp_in x3 80 ∧ ((σ.1 55 x3.toNatClampNeg) = (-1) → (B_X11_sum_131 Q (L_X11_sum_107 Q u) x3 x2 0 σ)) ∧ (¬ (σ.1 55 x3.toNatClampNeg) = (-1) → (B_X11_sum_131 Q (L_X11_sum_107 Q u) x3 x2 1 σ))))
set_option maxRecDepth 20000 in
set_option maxHeartbeats 2000000 in
theorem kL_X11_sum_107 {G : zv_G} {X : zv_X} {Q : Int32 → zv_St → Prop}  (hC : zv_C G X M_X11_sum) (hR : zv_R G X M_X11_sum (zv_qi Q))  : ∀ (n : Nat) (x2 : Int32) (x3 : Int32) (σ : zv_St), L_X11_sum_107 Q  n x2 x3 σ → zv_V G X M_X11_sum 107 [(0, .ref (G.2.2.1 45)), (2, .int x2), (3, .int x3)] [] σ := by
  intro n
  induction n with
  | zero => intro x2 x3 σ h; exact h.elim
  | succ n hk107 =>
    intro x2 x3 σ h
    unfold L_X11_sum_107 at h
    refine zv_iload_n hC dX11_sum_107 rfl ?_
    refine zv_aload_n hC dX11_sum_108 rfl ?_
    refine zv_getI hC fl_X11_107 dX11_sum_109 rfl rfl ?_
    refine zv_icmp_ge (tgt := 139) hC dX11_sum_112 (by decide) (fun c => ?_) (fun c => ?_)
    · replace h := h.1 c
      refine zv_iload_n hC dX11_sum_139 rfl ?_
      exact (hR _ _ _).1 _ rfl dX11_sum_140 ⟨_, rfl, h⟩
    · replace h := h.2 c
      refine zv_iload_n hC dX11_sum_115 rfl ?_
      refine zv_aload_n hC dX11_sum_116 rfl ?_
      refine zv_getR (j := 55) hC fl_X11_37 dX11_sum_117 rfl rfl ?_
      refine zv_iload_n hC dX11_sum_120 rfl ?_
      refine zv_iald hC dX11_sum_121 rfl h.1 ?_
      replace h := h.2
      refine zv_iconst (v := (-1)) hC dX11_sum_122 (by decide) ?_
      refine zv_icmp_eq (tgt := 130) hC dX11_sum_123 (by decide) (fun c => ?_) (fun c => ?_)
      · replace h := h.1 c
        refine zv_iconst (v := 0) hC dX11_sum_130 (by decide) ?_
        exact zv_go (k_X11_sum_131 hC hR hk107 h) ⟨rfl, rfl, trivial⟩
      · replace h := h.2 c
        refine zv_iconst (v := 1) hC dX11_sum_126 (by decide) ?_
        refine zv_goto (tgt := 131) hC dX11_sum_127 (by decide) ?_
        exact zv_go (k_X11_sum_131 hC hR hk107 h) ⟨rfl, rfl, trivial⟩
def B_X11_sum (Q : Int32 → zv_St → Prop) (x1 : Int32) (σ : zv_St) : Prop :=
  (x1 = 0 → (Q (σ.1 45 2) σ)) ∧ (x1 = 1 → (∃ n43, L_X11_sum_43 Q n43 0 0 σ)) ∧ (x1 = 2 → (Q (σ.1 45 10) σ)) ∧ (x1 = 3 → (∃ n73, L_X11_sum_73 Q n73 0 0 σ)) ∧ (x1 = 4 → (∃ n107, L_X11_sum_107 Q n107 0 0 σ)) ∧ (Int32.toInt x1 < 0 ∨ 4 < Int32.toInt x1 → (Q (-2) σ))
set_option maxRecDepth 20000 in
set_option maxHeartbeats 2000000 in
theorem k_X11_sum_0 {G : zv_G} {X : zv_X} {Q : Int32 → zv_St → Prop}  (hC : zv_C G X M_X11_sum) (hR : zv_R G X M_X11_sum (zv_qi Q))  {x1 : Int32} {σ : zv_St} (h : B_X11_sum Q  x1 σ) : zv_V G X M_X11_sum 0 [(0, .ref (G.2.2.1 45)), (1, .int x1)] [] σ := by
  unfold B_X11_sum at h
  refine zv_iconst (v := 0) hC dX11_sum_0 (by decide) ?_
  refine zv_istore_n hC dX11_sum_1 (by decide) ?_
  refine zv_iload_n hC dX11_sum_2 rfl ?_
  refine zv_swV (zv_sw_0_4) ?_
  rintro (c | c | c | c | c | c)
  · replace h := h.1 c
    refine zv_table (off := 33) (tgt := 36) hC dX11_sum_3 (by rw [c]; decide) (by rw [c]; decide) (by rw [c]; rfl) (by decide) ?_
    refine zv_aload_n hC dX11_sum_36 rfl ?_
    refine zv_getI hC fl_X11_107 dX11_sum_37 rfl rfl ?_
    exact (hR _ _ _).1 _ rfl dX11_sum_40 ⟨_, rfl, h⟩
  · replace h := h.2.1 c
    refine zv_table (off := 38) (tgt := 41) hC dX11_sum_3 (by rw [c]; decide) (by rw [c]; decide) (by rw [c]; rfl) (by decide) ?_
    refine zv_iconst (v := 0) hC dX11_sum_41 (by decide) ?_
    refine zv_istore_n hC dX11_sum_42 (by decide) ?_
    obtain ⟨n, h⟩ := h
    exact zv_go (kL_X11_sum_43 hC hR  n _ _ _ h) ⟨rfl, rfl, rfl, trivial⟩
  · replace h := h.2.2.1 c
    refine zv_table (off := 63) (tgt := 66) hC dX11_sum_3 (by rw [c]; decide) (by rw [c]; decide) (by rw [c]; rfl) (by decide) ?_
    refine zv_aload_n hC dX11_sum_66 rfl ?_
    refine zv_getI hC fl_X11_167 dX11_sum_67 rfl rfl ?_
    exact (hR _ _ _).1 _ rfl dX11_sum_70 ⟨_, rfl, h⟩
  · replace h := h.2.2.2.1 c
    refine zv_table (off := 68) (tgt := 71) hC dX11_sum_3 (by rw [c]; decide) (by rw [c]; decide) (by rw [c]; rfl) (by decide) ?_
    refine zv_iconst (v := 0) hC dX11_sum_71 (by decide) ?_
    refine zv_istore_n hC dX11_sum_72 (by decide) ?_
    obtain ⟨n, h⟩ := h
    exact zv_go (kL_X11_sum_73 hC hR  n _ _ _ h) ⟨rfl, rfl, rfl, trivial⟩
  · replace h := h.2.2.2.2.1 c
    refine zv_table (off := 102) (tgt := 105) hC dX11_sum_3 (by rw [c]; decide) (by rw [c]; decide) (by rw [c]; rfl) (by decide) ?_
    refine zv_iconst (v := 0) hC dX11_sum_105 (by decide) ?_
    refine zv_istore_n hC dX11_sum_106 (by decide) ?_
    obtain ⟨n, h⟩ := h
    exact zv_go (kL_X11_sum_107 hC hR  n _ _ _ h) ⟨rfl, rfl, rfl, trivial⟩
  · replace h := h.2.2.2.2.2 c
    refine zv_tableD (tgt := 141) hC dX11_sum_3 c (by decide) ?_
    refine zv_bipush (v := (-2)) hC dX11_sum_141 (by decide) ?_
    exact (hR _ _ _).1 _ rfl dX11_sum_143 ⟨_, rfl, h⟩
theorem ok_X11_sum (G : zv_G) {Q : Int32 → zv_St → Prop} {x1 : Int32} {σ : zv_St} (h : B_X11_sum Q x1 σ) : zv_OK G M_X11_sum yX11_sum [.ref (G.2.2.1 45), .int x1] σ (zv_qi Q) := zv_ok G _ _ _ _ _ (by decide +kernel) rfl (Nat.le_of_ble_eq_true rfl) (fun X hC hR => zv_go (k_X11_sum_0 hC hR h) ⟨rfl, rfl, trivial⟩)
