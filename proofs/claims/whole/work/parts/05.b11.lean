-- X11_in
def B_X11_in_15 (Q : Int32 → zv_St → Prop) (y0 : Int32) (σ : zv_St) : Prop :=
  narrow .boolean (.int y0) = .int y0 ∧ Q y0 σ
set_option maxRecDepth 20000 in
set_option maxHeartbeats 2000000 in
theorem k_X11_in_15 {G : zv_G} {X : zv_X} {Q : Int32 → zv_St → Prop}  (hC : zv_C G X M_X11_in) (hR : zv_R G X M_X11_in (zv_qi Q))  {y0 : Int32} {σ : zv_St} (h : B_X11_in_15 Q  y0 σ) : zv_V G X M_X11_in 15 [] [.int y0] σ := by
  unfold B_X11_in_15 at h
  exact (hR _ _ _).2.1 _ rfl h.1 dX11_in_15 ⟨_, rfl, h.2⟩
def B_X11_in_14 (Q : Int32 → zv_St → Prop) (σ : zv_St) : Prop :=
  B_X11_in_15 Q 0 σ
set_option maxRecDepth 20000 in
set_option maxHeartbeats 2000000 in
theorem k_X11_in_14 {G : zv_G} {X : zv_X} {Q : Int32 → zv_St → Prop}  (hC : zv_C G X M_X11_in) (hR : zv_R G X M_X11_in (zv_qi Q))   {σ : zv_St} (h : B_X11_in_14 Q   σ) : zv_V G X M_X11_in 14 [] [] σ := by
  unfold B_X11_in_14 at h
  refine zv_iconst (v := 0) hC dX11_in_14 (by decide) ?_
  exact zv_go (k_X11_in_15 hC hR  h) trivial
def B_X11_in (Q : Int32 → zv_St → Prop) (x0 : Int32) (x1 : Int32) (x2 : Int32) (σ : zv_St) : Prop :=
  (x0 < x1 → (B_X11_in_14 Q σ)) ∧ (¬ x0 < x1 → ((x2 < x0 → (B_X11_in_14 Q σ)) ∧ (¬ x2 < x0 → (B_X11_in_15 Q 1 σ))))
set_option maxRecDepth 20000 in
set_option maxHeartbeats 2000000 in
theorem k_X11_in_0 {G : zv_G} {X : zv_X} {Q : Int32 → zv_St → Prop}  (hC : zv_C G X M_X11_in) (hR : zv_R G X M_X11_in (zv_qi Q))  {x0 : Int32} {x1 : Int32} {x2 : Int32} {σ : zv_St} (h : B_X11_in Q  x0 x1 x2 σ) : zv_V G X M_X11_in 0 [(0, .int x0), (1, .int x1), (2, .int x2)] [] σ := by
  unfold B_X11_in at h
  refine zv_iload_n hC dX11_in_0 rfl ?_
  refine zv_iload_n hC dX11_in_1 rfl ?_
  refine zv_icmp_lt (tgt := 14) hC dX11_in_2 (by decide) (fun c => ?_) (fun c => ?_)
  · replace h := h.1 c
    exact zv_go (k_X11_in_14 hC hR  h) trivial
  · replace h := h.2 c
    refine zv_iload_n hC dX11_in_5 rfl ?_
    refine zv_iload_n hC dX11_in_6 rfl ?_
    refine zv_icmp_gt (tgt := 14) hC dX11_in_7 (by decide) (fun c => ?_) (fun c => ?_)
    · replace h := h.1 c
      exact zv_go (k_X11_in_14 hC hR  h) trivial
    · replace h := h.2 c
      refine zv_iconst (v := 1) hC dX11_in_10 (by decide) ?_
      refine zv_goto (tgt := 15) hC dX11_in_11 (by decide) ?_
      exact zv_go (k_X11_in_15 hC hR  h) trivial
theorem ok_X11_in (G : zv_G) {Q : Int32 → zv_St → Prop} {x0 : Int32} {x1 : Int32} {x2 : Int32} {σ : zv_St} (h : B_X11_in Q x0 x1 x2 σ) : zv_OK G M_X11_in yX11_in [.int x0, .int x1, .int x2] σ (zv_qi Q) := zv_ok G _ _ _ _ _ (by decide +kernel) rfl (Nat.le_of_ble_eq_true rfl) (fun X hC hR => zv_go (k_X11_in_0 hC hR h) ⟨rfl, rfl, rfl, trivial⟩)
-- X11_isObject
def B_X11_isObject (Q : Int32 → zv_St → Prop) (x0 : Int32) (σ : zv_St) : Prop :=
  B_X11_in (fun r_2 σ_1 => narrow .boolean (.int r_2) = .int r_2 ∧ Q r_2 σ_1) x0 0 511 σ
set_option maxRecDepth 20000 in
set_option maxHeartbeats 2000000 in
theorem k_X11_isObject_0 {G : zv_G} {X : zv_X} {Q : Int32 → zv_St → Prop}  (hC : zv_C G X M_X11_isObject) (hR : zv_R G X M_X11_isObject (zv_qi Q))  {x0 : Int32} {σ : zv_St} (h : B_X11_isObject Q  x0 σ) : zv_V G X M_X11_isObject 0 [(0, .int x0)] [] σ := by
  unfold B_X11_isObject at h
  refine zv_iload_n hC dX11_isObject_0 rfl ?_
  refine zv_iconst (v := 0) hC dX11_isObject_1 (by decide) ?_
  refine zv_sipush (v := 511) hC dX11_isObject_2 (by decide) ?_
  refine zv_callSi (As := [_, _, _]) hC dX11_isObject_5 Y_X11_in lk_X11_103 (by decide) rfl rfl (Nat.le_of_ble_eq_true rfl) (ok_X11_in G h) ?_
  intro r_2 σ_1 h
  exact (hR _ _ _).2.1 _ rfl h.1 dX11_isObject_8 ⟨_, rfl, h.2⟩
theorem ok_X11_isObject (G : zv_G) {Q : Int32 → zv_St → Prop} {x0 : Int32} {σ : zv_St} (h : B_X11_isObject Q x0 σ) : zv_OK G M_X11_isObject yX11_isObject [.int x0] σ (zv_qi Q) := zv_ok G _ _ _ _ _ (by decide +kernel) rfl (Nat.le_of_ble_eq_true rfl) (fun X hC hR => zv_go (k_X11_isObject_0 hC hR h) ⟨rfl, trivial⟩)
-- X11_forget
def B_X11_forget_85 (Q : zv_St → Prop) (kk2 : Int32 → Int32 → zv_St → Prop) (x1 : Int32) (x2 : Int32) (σ : zv_St) : Prop :=
  kk2 x1 (x2 + 1) σ
set_option maxRecDepth 20000 in
set_option maxHeartbeats 2000000 in
theorem k_X11_forget_85 {G : zv_G} {X : zv_X} {Q : zv_St → Prop} {kk2 : Int32 → Int32 → zv_St → Prop} (hC : zv_C G X M_X11_forget) (hR : zv_R G X M_X11_forget (zv_qv Q)) (hk2 : ∀ (x1 : Int32) (x2 : Int32) (σ : zv_St), kk2 x1 x2 σ → zv_V G X M_X11_forget 2 [(0, .ref (G.2.2.1 45)), (1, .int x1), (2, .int x2)] [] σ) {x1 : Int32} {x2 : Int32} {σ : zv_St} (h : B_X11_forget_85 Q kk2 x1 x2 σ) : zv_V G X M_X11_forget 85 [(0, .ref (G.2.2.1 45)), (1, .int x1), (2, .int x2)] [] σ := by
  unfold B_X11_forget_85 at h
  refine zv_iinc (v := 1) hC dX11_forget_85 rfl (by decide) (by decide) ?_
  refine zv_goto (tgt := 2) hC dX11_forget_88 (by decide) ?_
  exact zv_go (hk2 _ _ _ h) ⟨rfl, rfl, rfl, trivial⟩
def B_X11_forget_55 (Q : zv_St → Prop) (kk2 : Int32 → Int32 → zv_St → Prop) (kk15 : Int32 → Int32 → Int32 → Int32 → zv_St → Prop) (x1 : Int32) (x2 : Int32) (x4 : Int32) (y0 : Int32) (σ : zv_St) : Prop :=
  kk15 x1 x2 y0 (x4 + 1) σ
set_option maxRecDepth 20000 in
set_option maxHeartbeats 2000000 in
theorem k_X11_forget_55 {G : zv_G} {X : zv_X} {Q : zv_St → Prop} {kk2 : Int32 → Int32 → zv_St → Prop} {kk15 : Int32 → Int32 → Int32 → Int32 → zv_St → Prop} (hC : zv_C G X M_X11_forget) (hR : zv_R G X M_X11_forget (zv_qv Q)) (hk2 : ∀ (x1 : Int32) (x2 : Int32) (σ : zv_St), kk2 x1 x2 σ → zv_V G X M_X11_forget 2 [(0, .ref (G.2.2.1 45)), (1, .int x1), (2, .int x2)] [] σ) (hk15 : ∀ (x1 : Int32) (x2 : Int32) (x3 : Int32) (x4 : Int32) (σ : zv_St), kk15 x1 x2 x3 x4 σ → zv_V G X M_X11_forget 15 [(0, .ref (G.2.2.1 45)), (1, .int x1), (2, .int x2), (3, .int x3), (4, .int x4)] [] σ) {x1 : Int32} {x2 : Int32} {x4 : Int32} {y0 : Int32} {σ : zv_St} (h : B_X11_forget_55 Q kk2 kk15 x1 x2 x4 y0 σ) : zv_V G X M_X11_forget 55 [(0, .ref (G.2.2.1 45)), (1, .int x1), (2, .int x2), (4, .int x4)] [.int y0] σ := by
  unfold B_X11_forget_55 at h
  refine zv_istore_n hC dX11_forget_55 (by decide) ?_
  refine zv_iinc (v := 1) hC dX11_forget_56 rfl (by decide) (by decide) ?_
  refine zv_goto (tgt := 15) hC dX11_forget_59 (by decide) ?_
  exact zv_go (hk15 _ _ _ _ _ h) ⟨rfl, rfl, rfl, rfl, rfl, trivial⟩
def B_X11_forget_50 (Q : zv_St → Prop) (kk2 : Int32 → Int32 → zv_St → Prop) (kk15 : Int32 → Int32 → Int32 → Int32 → zv_St → Prop) (x1 : Int32) (x2 : Int32) (x4 : Int32) (σ : zv_St) : Prop :=
  B_X11_forget_55 Q kk2 kk15 x1 x2 x4 1 σ
set_option maxRecDepth 20000 in
set_option maxHeartbeats 2000000 in
theorem k_X11_forget_50 {G : zv_G} {X : zv_X} {Q : zv_St → Prop} {kk2 : Int32 → Int32 → zv_St → Prop} {kk15 : Int32 → Int32 → Int32 → Int32 → zv_St → Prop} (hC : zv_C G X M_X11_forget) (hR : zv_R G X M_X11_forget (zv_qv Q)) (hk2 : ∀ (x1 : Int32) (x2 : Int32) (σ : zv_St), kk2 x1 x2 σ → zv_V G X M_X11_forget 2 [(0, .ref (G.2.2.1 45)), (1, .int x1), (2, .int x2)] [] σ) (hk15 : ∀ (x1 : Int32) (x2 : Int32) (x3 : Int32) (x4 : Int32) (σ : zv_St), kk15 x1 x2 x3 x4 σ → zv_V G X M_X11_forget 15 [(0, .ref (G.2.2.1 45)), (1, .int x1), (2, .int x2), (3, .int x3), (4, .int x4)] [] σ) {x1 : Int32} {x2 : Int32} {x4 : Int32} {σ : zv_St} (h : B_X11_forget_50 Q kk2 kk15 x1 x2 x4 σ) : zv_V G X M_X11_forget 50 [(0, .ref (G.2.2.1 45)), (1, .int x1), (2, .int x2), (4, .int x4)] [] σ := by
  unfold B_X11_forget_50 at h
  refine zv_iconst (v := 1) hC dX11_forget_50 (by decide) ?_
  refine zv_goto (tgt := 55) hC dX11_forget_51 (by decide) ?_
  exact zv_go (k_X11_forget_55 hC hR hk2 hk15 h) ⟨rfl, rfl, rfl, rfl, trivial⟩
def L_X11_forget_15 (Q : zv_St → Prop) (kk2 : Int32 → Int32 → zv_St → Prop) : Nat → (Int32 → Int32 → Int32 → Int32 → zv_St → Prop)
  | 0 => fun _ _ _ _ _ => False
  | u + 1 => fun x1 x2 x3 x4 σ => 
    vp_in x2 80 ∧ ((σ.1 51 x2.toNatClampNeg) ≤ x4 → ((x3 = 0 → (B_X11_forget_85 Q kk2 x1 x2 σ)) ∧ (¬ x3 = 0 → ((x2 = x1 → (B_X11_forget_85 Q kk2 x1 x2 σ)) ∧ (¬ x2 = x1 → (vp_in x2 80 ∧ ∀ σ_1 : zv_St, σ_1 = zv_wi σ 61 x2.toNatClampNeg (vp_nar .boolean 1) → vp_in x2 80 ∧ ∀ σ_2 : zv_St, σ_2 = zv_wi σ_1 55 x2.toNatClampNeg (-1) → B_X11_forget_85 Q kk2 x1 x2 σ_2)))))) ∧ (¬ (σ.1 51 x2.toNatClampNeg) ≤ x4 → ((¬ x3 = 0 → (B_X11_forget_50 Q kk2 (L_X11_forget_15 Q kk2 u) x1 x2 x4 σ)) ∧ (x3 = 0 → (vp_in ((8 * x2) + x4) 640 ∧ vp_in (σ.1 53 ((8 * x2) + x4).toNatClampNeg) 80 ∧ ((σ.1 61 (σ.1 53 ((8 * x2) + x4).toNatClampNeg).toNatClampNeg) = 0 → (B_X11_forget_55 Q kk2 (L_X11_forget_15 Q kk2 u) x1 x2 x4 0 σ)) ∧ (¬ (σ.1 61 (σ.1 53 ((8 * x2) + x4).toNatClampNeg).toNatClampNeg) = 0 → (B_X11_forget_50 Q kk2 (L_X11_forget_15 Q kk2 u) x1 x2 x4 σ))))))
set_option maxRecDepth 20000 in
set_option maxHeartbeats 2000000 in
theorem kL_X11_forget_15 {G : zv_G} {X : zv_X} {Q : zv_St → Prop} {kk2 : Int32 → Int32 → zv_St → Prop} (hC : zv_C G X M_X11_forget) (hR : zv_R G X M_X11_forget (zv_qv Q)) (hk2 : ∀ (x1 : Int32) (x2 : Int32) (σ : zv_St), kk2 x1 x2 σ → zv_V G X M_X11_forget 2 [(0, .ref (G.2.2.1 45)), (1, .int x1), (2, .int x2)] [] σ) : ∀ (n : Nat) (x1 : Int32) (x2 : Int32) (x3 : Int32) (x4 : Int32) (σ : zv_St), L_X11_forget_15 Q kk2 n x1 x2 x3 x4 σ → zv_V G X M_X11_forget 15 [(0, .ref (G.2.2.1 45)), (1, .int x1), (2, .int x2), (3, .int x3), (4, .int x4)] [] σ := by
  intro n
  induction n with
  | zero => intro x1 x2 x3 x4 σ h; exact h.elim
  | succ n hk15 =>
    intro x1 x2 x3 x4 σ h
    unfold L_X11_forget_15 at h
    refine zv_iload hC dX11_forget_15 rfl ?_
    refine zv_aload_n hC dX11_forget_17 rfl ?_
    refine zv_getR (j := 51) hC fl_X11_25 dX11_forget_18 rfl rfl ?_
    refine zv_iload_n hC dX11_forget_21 rfl ?_
    refine zv_iald hC dX11_forget_22 rfl h.1 ?_
    replace h := h.2
    refine zv_icmp_ge (tgt := 62) hC dX11_forget_23 (by decide) (fun c => ?_) (fun c => ?_)
    · replace h := h.1 c
      refine zv_iload_n hC dX11_forget_62 rfl ?_
      refine zv_if_eq (tgt := 85) hC dX11_forget_63 (by decide) (fun c => ?_) (fun c => ?_)
      · replace h := h.1 c
        exact zv_go (k_X11_forget_85 hC hR hk2 h) ⟨rfl, rfl, rfl, trivial⟩
      · replace h := h.2 c
        refine zv_iload_n hC dX11_forget_66 rfl ?_
        refine zv_iload_n hC dX11_forget_67 rfl ?_
        refine zv_icmp_eq (tgt := 85) hC dX11_forget_68 (by decide) (fun c => ?_) (fun c => ?_)
        · replace h := h.1 c
          exact zv_go (k_X11_forget_85 hC hR hk2 h) ⟨rfl, rfl, rfl, trivial⟩
        · replace h := h.2 c
          refine zv_aload_n hC dX11_forget_71 rfl ?_
          refine zv_getR (j := 61) hC fl_X11_57 dX11_forget_72 rfl rfl ?_
          refine zv_iload_n hC dX11_forget_75 rfl ?_
          refine zv_iconst (v := 1) hC dX11_forget_76 (by decide) ?_
          refine zv_zast hC dX11_forget_77 rfl h.1 ?_
          replace h := h.2 _ rfl
          refine zv_aload_n hC dX11_forget_78 rfl ?_
          refine zv_getR (j := 55) hC fl_X11_37 dX11_forget_79 rfl rfl ?_
          refine zv_iload_n hC dX11_forget_82 rfl ?_
          refine zv_iconst (v := (-1)) hC dX11_forget_83 (by decide) ?_
          refine zv_iast hC dX11_forget_84 rfl h.1 ?_
          replace h := h.2 _ rfl
          exact zv_go (k_X11_forget_85 hC hR hk2 h) ⟨rfl, rfl, rfl, trivial⟩
    · replace h := h.2 c
      refine zv_iload_n hC dX11_forget_26 rfl ?_
      refine zv_if_ne (tgt := 50) hC dX11_forget_27 (by decide) (fun c => ?_) (fun c => ?_)
      · replace h := h.1 c
        exact zv_go (k_X11_forget_50 hC hR hk2 hk15 h) ⟨rfl, rfl, rfl, rfl, trivial⟩
      · replace h := h.2 c
        refine zv_aload_n hC dX11_forget_30 rfl ?_
        refine zv_getR (j := 61) hC fl_X11_57 dX11_forget_31 rfl rfl ?_
        refine zv_aload_n hC dX11_forget_34 rfl ?_
        refine zv_getR (j := 53) hC fl_X11_31 dX11_forget_35 rfl rfl ?_
        refine zv_bipush (v := 8) hC dX11_forget_38 (by decide) ?_
        refine zv_iload_n hC dX11_forget_40 rfl ?_
        refine zv_imul hC dX11_forget_41 ?_
        refine zv_iload hC dX11_forget_42 rfl ?_
        refine zv_iadd hC dX11_forget_44 ?_
        refine zv_iald hC dX11_forget_45 rfl h.1 ?_
        replace h := h.2
        refine zv_zald hC dX11_forget_46 rfl h.1 ?_
        replace h := h.2
        refine zv_if_eq (tgt := 54) hC dX11_forget_47 (by decide) (fun c => ?_) (fun c => ?_)
        · replace h := h.1 c
          refine zv_iconst (v := 0) hC dX11_forget_54 (by decide) ?_
          exact zv_go (k_X11_forget_55 hC hR hk2 hk15 h) ⟨rfl, rfl, rfl, rfl, trivial⟩
        · replace h := h.2 c
          exact zv_go (k_X11_forget_50 hC hR hk2 hk15 h) ⟨rfl, rfl, rfl, rfl, trivial⟩
def L_X11_forget_2 (Q : zv_St → Prop) : Nat → (Int32 → Int32 → zv_St → Prop)
  | 0 => fun _ _ _ => False
  | u + 1 => fun x1 x2 σ => 
    ((σ.1 45 2) ≤ x2 → (Q σ)) ∧ (¬ (σ.1 45 2) ≤ x2 → (∃ n15, L_X11_forget_15 Q (L_X11_forget_2 Q u) n15 x1 x2 0 0 σ))
set_option maxRecDepth 20000 in
set_option maxHeartbeats 2000000 in
theorem kL_X11_forget_2 {G : zv_G} {X : zv_X} {Q : zv_St → Prop}  (hC : zv_C G X M_X11_forget) (hR : zv_R G X M_X11_forget (zv_qv Q))  : ∀ (n : Nat) (x1 : Int32) (x2 : Int32) (σ : zv_St), L_X11_forget_2 Q  n x1 x2 σ → zv_V G X M_X11_forget 2 [(0, .ref (G.2.2.1 45)), (1, .int x1), (2, .int x2)] [] σ := by
  intro n
  induction n with
  | zero => intro x1 x2 σ h; exact h.elim
  | succ n hk2 =>
    intro x1 x2 σ h
    unfold L_X11_forget_2 at h
    refine zv_iload_n hC dX11_forget_2 rfl ?_
    refine zv_aload_n hC dX11_forget_3 rfl ?_
    refine zv_getI hC fl_X11_107 dX11_forget_4 rfl rfl ?_
    refine zv_icmp_ge (tgt := 91) hC dX11_forget_7 (by decide) (fun c => ?_) (fun c => ?_)
    · replace h := h.1 c
      exact (hR _ _ _).2.2.2.1 rfl dX11_forget_91 ⟨rfl, h⟩
    · replace h := h.2 c
      refine zv_iconst (v := 0) hC dX11_forget_10 (by decide) ?_
      refine zv_istore_n hC dX11_forget_11 (by decide) ?_
      refine zv_iconst (v := 0) hC dX11_forget_12 (by decide) ?_
      refine zv_istore hC dX11_forget_13 (by decide) ?_
      obtain ⟨n, h⟩ := h
      exact zv_go (kL_X11_forget_15 hC hR hk2 n _ _ _ _ _ h) ⟨rfl, rfl, rfl, rfl, rfl, trivial⟩
def B_X11_forget (Q : zv_St → Prop) (x1 : Int32) (σ : zv_St) : Prop :=
  ∃ n2, L_X11_forget_2 Q n2 x1 0 σ
set_option maxRecDepth 20000 in
set_option maxHeartbeats 2000000 in
theorem k_X11_forget_0 {G : zv_G} {X : zv_X} {Q : zv_St → Prop}  (hC : zv_C G X M_X11_forget) (hR : zv_R G X M_X11_forget (zv_qv Q))  {x1 : Int32} {σ : zv_St} (h : B_X11_forget Q  x1 σ) : zv_V G X M_X11_forget 0 [(0, .ref (G.2.2.1 45)), (1, .int x1)] [] σ := by
  unfold B_X11_forget at h
  refine zv_iconst (v := 0) hC dX11_forget_0 (by decide) ?_
  refine zv_istore_n hC dX11_forget_1 (by decide) ?_
  obtain ⟨n, h⟩ := h
  exact zv_go (kL_X11_forget_2 hC hR  n _ _ _ h) ⟨rfl, rfl, rfl, trivial⟩
theorem ok_X11_forget (G : zv_G) {Q : zv_St → Prop} {x1 : Int32} {σ : zv_St} (h : B_X11_forget Q x1 σ) : zv_OK G M_X11_forget yX11_forget [.ref (G.2.2.1 45), .int x1] σ (zv_qv Q) := zv_ok G _ _ _ _ _ (by decide +kernel) rfl (Nat.le_of_ble_eq_true rfl) (fun X hC hR => zv_go (k_X11_forget_0 hC hR h) ⟨rfl, rfl, trivial⟩)
-- X11_change
def B_X11_change_39 (Q : zv_St → Prop) (kk2 : Int32 → Int32 → zv_St → Prop) (x1 : Int32) (x2 : Int32) (y1 : Int32) (y2 : Int32) (σ : zv_St) : Prop :=
  vp_in y1 80 ∧ ∀ σ_1 : zv_St, σ_1 = zv_wi σ 61 y1.toNatClampNeg (vp_nar .boolean y2) → kk2 x1 (x2 + 1) σ_1
set_option maxRecDepth 20000 in
set_option maxHeartbeats 2000000 in
theorem k_X11_change_39 {G : zv_G} {X : zv_X} {Q : zv_St → Prop} {kk2 : Int32 → Int32 → zv_St → Prop} (hC : zv_C G X M_X11_change) (hR : zv_R G X M_X11_change (zv_qv Q)) (hk2 : ∀ (x1 : Int32) (x2 : Int32) (σ : zv_St), kk2 x1 x2 σ → zv_V G X M_X11_change 2 [(0, .ref (G.2.2.1 45)), (1, .int x1), (2, .int x2)] [] σ) {x1 : Int32} {x2 : Int32} {y1 : Int32} {y2 : Int32} {σ : zv_St} (h : B_X11_change_39 Q kk2 x1 x2 y1 y2 σ) : zv_V G X M_X11_change 39 [(0, .ref (G.2.2.1 45)), (1, .int x1), (2, .int x2)] [.int y2, .int y1, .ref (G.2.2.1 61)] σ := by
  unfold B_X11_change_39 at h
  refine zv_zast hC dX11_change_39 rfl h.1 ?_
  replace h := h.2 _ rfl
  refine zv_iinc (v := 1) hC dX11_change_40 rfl (by decide) (by decide) ?_
  refine zv_goto (tgt := 2) hC dX11_change_43 (by decide) ?_
  exact zv_go (hk2 _ _ _ h) ⟨rfl, rfl, rfl, trivial⟩
def B_X11_change_38 (Q : zv_St → Prop) (kk2 : Int32 → Int32 → zv_St → Prop) (x1 : Int32) (x2 : Int32) (y1 : Int32) (σ : zv_St) : Prop :=
  B_X11_change_39 Q kk2 x1 x2 y1 0 σ
set_option maxRecDepth 20000 in
set_option maxHeartbeats 2000000 in
theorem k_X11_change_38 {G : zv_G} {X : zv_X} {Q : zv_St → Prop} {kk2 : Int32 → Int32 → zv_St → Prop} (hC : zv_C G X M_X11_change) (hR : zv_R G X M_X11_change (zv_qv Q)) (hk2 : ∀ (x1 : Int32) (x2 : Int32) (σ : zv_St), kk2 x1 x2 σ → zv_V G X M_X11_change 2 [(0, .ref (G.2.2.1 45)), (1, .int x1), (2, .int x2)] [] σ) {x1 : Int32} {x2 : Int32} {y1 : Int32} {σ : zv_St} (h : B_X11_change_38 Q kk2 x1 x2 y1 σ) : zv_V G X M_X11_change 38 [(0, .ref (G.2.2.1 45)), (1, .int x1), (2, .int x2)] [.int y1, .ref (G.2.2.1 61)] σ := by
  unfold B_X11_change_38 at h
  refine zv_iconst (v := 0) hC dX11_change_38 (by decide) ?_
  exact zv_go (k_X11_change_39 hC hR hk2 h) ⟨rfl, rfl, rfl, trivial⟩
def L_X11_change_2 (Q : zv_St → Prop) : Nat → (Int32 → Int32 → zv_St → Prop)
  | 0 => fun _ _ _ => False
  | u + 1 => fun x1 x2 σ => 
    ((σ.1 45 2) ≤ x2 → (B_X11_forget (fun σ_1 => Q σ_1) (-1) σ)) ∧ (¬ (σ.1 45 2) ≤ x2 → (vp_in x2 80 ∧ (¬ (σ.1 48 x2.toNatClampNeg) = 0 → (B_X11_change_38 Q (L_X11_change_2 Q u) x1 x2 x2 σ)) ∧ ((σ.1 48 x2.toNatClampNeg) = 0 → (vp_in x2 80 ∧ (¬ (σ.1 49 x2.toNatClampNeg) = x1 → (B_X11_change_38 Q (L_X11_change_2 Q u) x1 x2 x2 σ)) ∧ ((σ.1 49 x2.toNatClampNeg) = x1 → (B_X11_change_39 Q (L_X11_change_2 Q u) x1 x2 x2 1 σ))))))
set_option maxRecDepth 20000 in
set_option maxHeartbeats 2000000 in
theorem kL_X11_change_2 {G : zv_G} {X : zv_X} {Q : zv_St → Prop}  (hC : zv_C G X M_X11_change) (hR : zv_R G X M_X11_change (zv_qv Q))  : ∀ (n : Nat) (x1 : Int32) (x2 : Int32) (σ : zv_St), L_X11_change_2 Q  n x1 x2 σ → zv_V G X M_X11_change 2 [(0, .ref (G.2.2.1 45)), (1, .int x1), (2, .int x2)] [] σ := by
  intro n
  induction n with
  | zero => intro x1 x2 σ h; exact h.elim
  | succ n hk2 =>
    intro x1 x2 σ h
    unfold L_X11_change_2 at h
    refine zv_iload_n hC dX11_change_2 rfl ?_
    refine zv_aload_n hC dX11_change_3 rfl ?_
    refine zv_getI hC fl_X11_107 dX11_change_4 rfl rfl ?_
    refine zv_icmp_ge (tgt := 46) hC dX11_change_7 (by decide) (fun c => ?_) (fun c => ?_)
    · replace h := h.1 c
      refine zv_aload_n hC dX11_change_46 rfl ?_
      refine zv_iconst (v := (-1)) hC dX11_change_47 (by decide) ?_
      refine zv_callVv (As := [_]) hC dX11_change_48 Y_X11_forget lk_X11_111 (by decide) rfl rfl rfl (Nat.le_of_ble_eq_true rfl) (ok_X11_forget G h) ?_
      intro σ_1 h
      exact (hR _ _ _).2.2.2.1 rfl dX11_change_51 ⟨rfl, h⟩
    · replace h := h.2 c
      refine zv_aload_n hC dX11_change_10 rfl ?_
      refine zv_getR (j := 61) hC fl_X11_57 dX11_change_11 rfl rfl ?_
      refine zv_iload_n hC dX11_change_14 rfl ?_
      refine zv_aload_n hC dX11_change_15 rfl ?_
      refine zv_getR (j := 48) hC fl_X11_16 dX11_change_16 rfl rfl ?_
      refine zv_iload_n hC dX11_change_19 rfl ?_
      refine zv_iald hC dX11_change_20 rfl h.1 ?_
      replace h := h.2
      refine zv_if_ne (tgt := 38) hC dX11_change_21 (by decide) (fun c => ?_) (fun c => ?_)
      · replace h := h.1 c
        exact zv_go (k_X11_change_38 hC hR hk2 h) ⟨rfl, rfl, rfl, trivial⟩
      · replace h := h.2 c
        refine zv_aload_n hC dX11_change_24 rfl ?_
        refine zv_getR (j := 49) hC fl_X11_19 dX11_change_25 rfl rfl ?_
        refine zv_iload_n hC dX11_change_28 rfl ?_
        refine zv_iald hC dX11_change_29 rfl h.1 ?_
        replace h := h.2
        refine zv_iload_n hC dX11_change_30 rfl ?_
        refine zv_icmp_ne (tgt := 38) hC dX11_change_31 (by decide) (fun c => ?_) (fun c => ?_)
        · replace h := h.1 c
          exact zv_go (k_X11_change_38 hC hR hk2 h) ⟨rfl, rfl, rfl, trivial⟩
        · replace h := h.2 c
          refine zv_iconst (v := 1) hC dX11_change_34 (by decide) ?_
          refine zv_goto (tgt := 39) hC dX11_change_35 (by decide) ?_
          exact zv_go (k_X11_change_39 hC hR hk2 h) ⟨rfl, rfl, rfl, trivial⟩
def B_X11_change (Q : zv_St → Prop) (x1 : Int32) (σ : zv_St) : Prop :=
  ∃ n2, L_X11_change_2 Q n2 x1 0 σ
set_option maxRecDepth 20000 in
set_option maxHeartbeats 2000000 in
theorem k_X11_change_0 {G : zv_G} {X : zv_X} {Q : zv_St → Prop}  (hC : zv_C G X M_X11_change) (hR : zv_R G X M_X11_change (zv_qv Q))  {x1 : Int32} {σ : zv_St} (h : B_X11_change Q  x1 σ) : zv_V G X M_X11_change 0 [(0, .ref (G.2.2.1 45)), (1, .int x1)] [] σ := by
  unfold B_X11_change at h
  refine zv_iconst (v := 0) hC dX11_change_0 (by decide) ?_
  refine zv_istore_n hC dX11_change_1 (by decide) ?_
  obtain ⟨n, h⟩ := h
  exact zv_go (kL_X11_change_2 hC hR  n _ _ _ h) ⟨rfl, rfl, rfl, trivial⟩
theorem ok_X11_change (G : zv_G) {Q : zv_St → Prop} {x1 : Int32} {σ : zv_St} (h : B_X11_change Q x1 σ) : zv_OK G M_X11_change yX11_change [.ref (G.2.2.1 45), .int x1] σ (zv_qv Q) := zv_ok G _ _ _ _ _ (by decide +kernel) rfl (Nat.le_of_ble_eq_true rfl) (fun X hC hR => zv_go (k_X11_change_0 hC hR h) ⟨rfl, rfl, trivial⟩)
-- X11_put
def B_X11_put_27 (Q : Int32 → zv_St → Prop) (σ : zv_St) : Prop :=
  Q (-2) σ
set_option maxRecDepth 20000 in
set_option maxHeartbeats 2000000 in
theorem k_X11_put_27 {G : zv_G} {X : zv_X} {Q : Int32 → zv_St → Prop}  (hC : zv_C G X M_X11_put) (hR : zv_R G X M_X11_put (zv_qi Q))   {σ : zv_St} (h : B_X11_put_27 Q   σ) : zv_V G X M_X11_put 27 [] [] σ := by
  unfold B_X11_put_27 at h
  refine zv_bipush (v := (-2)) hC dX11_put_27 (by decide) ?_
  exact (hR _ _ _).1 _ rfl dX11_put_29 ⟨_, rfl, h⟩
def B_X11_put_87 (Q : Int32 → zv_St → Prop) (x1 : Int32) (x3 : Int32) (x4 : Int32) (y1 : Int32) (y2 : Int32) (y3 : Int32) (σ : zv_St) : Prop :=
  vp_in y1 16 ∧ ∀ σ_1 : zv_St, σ_1 = zv_wi σ 47 y1.toNatClampNeg (y2 + y3) → vp_in x4 8192 ∧ ∀ σ_2 : zv_St, σ_2 = zv_wi σ_1 46 x4.toNatClampNeg x3 → B_X11_change (fun σ_3 => vp_in x1 16 ∧ Q (σ_3.1 47 x1.toNatClampNeg) σ_3) x1 σ_2
set_option maxRecDepth 20000 in
set_option maxHeartbeats 2000000 in
theorem k_X11_put_87 {G : zv_G} {X : zv_X} {Q : Int32 → zv_St → Prop}  (hC : zv_C G X M_X11_put) (hR : zv_R G X M_X11_put (zv_qi Q))  {x1 : Int32} {x3 : Int32} {x4 : Int32} {y1 : Int32} {y2 : Int32} {y3 : Int32} {σ : zv_St} (h : B_X11_put_87 Q  x1 x3 x4 y1 y2 y3 σ) : zv_V G X M_X11_put 87 [(0, .ref (G.2.2.1 45)), (1, .int x1), (3, .int x3), (4, .int x4)] [.int y3, .int y2, .int y1, .ref (G.2.2.1 47)] σ := by
  unfold B_X11_put_87 at h
  refine zv_iadd hC dX11_put_87 ?_
  refine zv_iast hC dX11_put_88 rfl h.1 ?_
  replace h := h.2 _ rfl
  refine zv_aload_n hC dX11_put_89 rfl ?_
  refine zv_getR (j := 46) hC fl_X11_7 dX11_put_90 rfl rfl ?_
  refine zv_iload hC dX11_put_93 rfl ?_
  refine zv_iload_n hC dX11_put_95 rfl ?_
  refine zv_iast hC dX11_put_96 rfl h.1 ?_
  replace h := h.2 _ rfl
  refine zv_aload_n hC dX11_put_97 rfl ?_
  refine zv_iload_n hC dX11_put_98 rfl ?_
  refine zv_callVv (As := [_]) hC dX11_put_99 Y_X11_change lk_X11_120 (by decide) rfl rfl rfl (Nat.le_of_ble_eq_true rfl) (ok_X11_change G h) ?_
  intro σ_3 h
  refine zv_aload_n hC dX11_put_102 rfl ?_
  refine zv_getR (j := 47) hC fl_X11_13 dX11_put_103 rfl rfl ?_
  refine zv_iload_n hC dX11_put_106 rfl ?_
  refine zv_iald hC dX11_put_107 rfl h.1 ?_
  replace h := h.2
  exact (hR _ _ _).1 _ rfl dX11_put_108 ⟨_, rfl, h⟩
def B_X11_put_64 (Q : Int32 → zv_St → Prop) (x1 : Int32) (x3 : Int32) (x4 : Int32) (σ : zv_St) : Prop :=
  vp_in x1 16 ∧ vp_in x4 8192 ∧ (¬ (σ.1 46 x4.toNatClampNeg) = (-1) → (B_X11_put_87 Q x1 x3 x4 x1 (σ.1 47 x1.toNatClampNeg) 0 σ)) ∧ ((σ.1 46 x4.toNatClampNeg) = (-1) → (B_X11_put_87 Q x1 x3 x4 x1 (σ.1 47 x1.toNatClampNeg) 1 σ))
set_option maxRecDepth 20000 in
set_option maxHeartbeats 2000000 in
theorem k_X11_put_64 {G : zv_G} {X : zv_X} {Q : Int32 → zv_St → Prop}  (hC : zv_C G X M_X11_put) (hR : zv_R G X M_X11_put (zv_qi Q))  {x1 : Int32} {x3 : Int32} {x4 : Int32} {σ : zv_St} (h : B_X11_put_64 Q  x1 x3 x4 σ) : zv_V G X M_X11_put 64 [(0, .ref (G.2.2.1 45)), (1, .int x1), (3, .int x3), (4, .int x4)] [] σ := by
  unfold B_X11_put_64 at h
  refine zv_aload_n hC dX11_put_64 rfl ?_
  refine zv_getR (j := 47) hC fl_X11_13 dX11_put_65 rfl rfl ?_
  refine zv_iload_n hC dX11_put_68 rfl ?_
  refine zv_dup2 hC dX11_put_69 rfl rfl ?_
  refine zv_iald hC dX11_put_70 rfl h.1 ?_
  replace h := h.2
  refine zv_aload_n hC dX11_put_71 rfl ?_
  refine zv_getR (j := 46) hC fl_X11_7 dX11_put_72 rfl rfl ?_
  refine zv_iload hC dX11_put_75 rfl ?_
  refine zv_iald hC dX11_put_77 rfl h.1 ?_
  replace h := h.2
  refine zv_iconst (v := (-1)) hC dX11_put_78 (by decide) ?_
  refine zv_icmp_ne (tgt := 86) hC dX11_put_79 (by decide) (fun c => ?_) (fun c => ?_)
  · replace h := h.1 c
    refine zv_iconst (v := 0) hC dX11_put_86 (by decide) ?_
    exact zv_go (k_X11_put_87 hC hR  h) ⟨rfl, rfl, rfl, rfl, trivial⟩
  · replace h := h.2 c
    refine zv_iconst (v := 1) hC dX11_put_82 (by decide) ?_
    refine zv_goto (tgt := 87) hC dX11_put_83 (by decide) ?_
    exact zv_go (k_X11_put_87 hC hR  h) ⟨rfl, rfl, rfl, rfl, trivial⟩
def B_X11_put (Q : Int32 → zv_St → Prop) (x1 : Int32) (x2 : Int32) (x3 : Int32) (σ : zv_St) : Prop :=
  B_X11_in (fun r_2 σ_1 => (r_2 = 0 → (B_X11_put_27 Q σ_1)) ∧ (¬ r_2 = 0 → (B_X11_isObject (fun r_4 σ_3 => (r_4 = 0 → (B_X11_put_27 Q σ_3)) ∧ (¬ r_4 = 0 → (B_X11_in (fun r_6 σ_5 => (¬ r_6 = 0 → (vp_in ((512 * x1) + x2) 8192 ∧ (¬ (σ_5.1 46 ((512 * x1) + x2).toNatClampNeg) = (-1) → (B_X11_put_64 Q x1 x3 ((512 * x1) + x2) σ_5)) ∧ ((σ_5.1 46 ((512 * x1) + x2).toNatClampNeg) = (-1) → (vp_in x1 16 ∧ (¬ (σ_5.1 47 x1.toNatClampNeg) = 60 → (B_X11_put_64 Q x1 x3 ((512 * x1) + x2) σ_5)) ∧ ((σ_5.1 47 x1.toNatClampNeg) = 60 → (Q (-3) σ_5)))))) ∧ (r_6 = 0 → (B_X11_put_27 Q σ_5))) x3 0 1000000 σ_3))) x2 σ_1))) x1 0 15 σ
set_option maxRecDepth 20000 in
set_option maxHeartbeats 2000000 in
theorem k_X11_put_0 {G : zv_G} {X : zv_X} {Q : Int32 → zv_St → Prop}  (hC : zv_C G X M_X11_put) (hR : zv_R G X M_X11_put (zv_qi Q))  {x1 : Int32} {x2 : Int32} {x3 : Int32} {σ : zv_St} (h : B_X11_put Q  x1 x2 x3 σ) : zv_V G X M_X11_put 0 [(0, .ref (G.2.2.1 45)), (1, .int x1), (2, .int x2), (3, .int x3)] [] σ := by
  unfold B_X11_put at h
  refine zv_iload_n hC dX11_put_0 rfl ?_
  refine zv_iconst (v := 0) hC dX11_put_1 (by decide) ?_
  refine zv_bipush (v := 15) hC dX11_put_2 (by decide) ?_
  refine zv_callSi (As := [_, _, _]) hC dX11_put_4 Y_X11_in lk_X11_103 (by decide) rfl rfl (Nat.le_of_ble_eq_true rfl) (ok_X11_in G h) ?_
  intro r_2 σ_1 h
  refine zv_if_eq (tgt := 27) hC dX11_put_7 (by decide) (fun c => ?_) (fun c => ?_)
  · replace h := h.1 c
    exact zv_go (k_X11_put_27 hC hR  h) trivial
  · replace h := h.2 c
    refine zv_iload_n hC dX11_put_10 rfl ?_
    refine zv_callSi (As := [_]) hC dX11_put_11 Y_X11_isObject lk_X11_115 (by decide) rfl rfl (Nat.le_of_ble_eq_true rfl) (ok_X11_isObject G h) ?_
    intro r_4 σ_3 h
    refine zv_if_eq (tgt := 27) hC dX11_put_14 (by decide) (fun c => ?_) (fun c => ?_)
    · replace h := h.1 c
      exact zv_go (k_X11_put_27 hC hR  h) trivial
    · replace h := h.2 c
      refine zv_iload_n hC dX11_put_17 rfl ?_
      refine zv_iconst (v := 0) hC dX11_put_18 (by decide) ?_
      refine zv_ldc hC dX11_put_19 cst_X11_119 ?_
      refine zv_callSi (As := [_, _, _]) hC dX11_put_21 Y_X11_in lk_X11_103 (by decide) rfl rfl (Nat.le_of_ble_eq_true rfl) (ok_X11_in G h) ?_
      intro r_6 σ_5 h
      refine zv_if_ne (tgt := 30) hC dX11_put_24 (by decide) (fun c => ?_) (fun c => ?_)
      · replace h := h.1 c
        refine zv_sipush (v := 512) hC dX11_put_30 (by decide) ?_
        refine zv_iload_n hC dX11_put_33 rfl ?_
        refine zv_imul hC dX11_put_34 ?_
        refine zv_iload_n hC dX11_put_35 rfl ?_
        refine zv_iadd hC dX11_put_36 ?_
        refine zv_istore hC dX11_put_37 (by decide) ?_
        refine zv_aload_n hC dX11_put_39 rfl ?_
        refine zv_getR (j := 46) hC fl_X11_7 dX11_put_40 rfl rfl ?_
        refine zv_iload hC dX11_put_43 rfl ?_
        refine zv_iald hC dX11_put_45 rfl h.1 ?_
        replace h := h.2
        refine zv_iconst (v := (-1)) hC dX11_put_46 (by decide) ?_
        refine zv_icmp_ne (tgt := 64) hC dX11_put_47 (by decide) (fun c => ?_) (fun c => ?_)
        · replace h := h.1 c
          exact zv_go (k_X11_put_64 hC hR  h) ⟨rfl, rfl, rfl, rfl, trivial⟩
        · replace h := h.2 c
          refine zv_aload_n hC dX11_put_50 rfl ?_
          refine zv_getR (j := 47) hC fl_X11_13 dX11_put_51 rfl rfl ?_
          refine zv_iload_n hC dX11_put_54 rfl ?_
          refine zv_iald hC dX11_put_55 rfl h.1 ?_
          replace h := h.2
          refine zv_bipush (v := 60) hC dX11_put_56 (by decide) ?_
          refine zv_icmp_ne (tgt := 64) hC dX11_put_58 (by decide) (fun c => ?_) (fun c => ?_)
          · replace h := h.1 c
            exact zv_go (k_X11_put_64 hC hR  h) ⟨rfl, rfl, rfl, rfl, trivial⟩
          · replace h := h.2 c
            refine zv_bipush (v := (-3)) hC dX11_put_61 (by decide) ?_
            exact (hR _ _ _).1 _ rfl dX11_put_63 ⟨_, rfl, h⟩
      · replace h := h.2 c
        exact zv_go (k_X11_put_27 hC hR  h) trivial
theorem ok_X11_put (G : zv_G) {Q : Int32 → zv_St → Prop} {x1 : Int32} {x2 : Int32} {x3 : Int32} {σ : zv_St} (h : B_X11_put Q x1 x2 x3 σ) : zv_OK G M_X11_put yX11_put [.ref (G.2.2.1 45), .int x1, .int x2, .int x3] σ (zv_qi Q) := zv_ok G _ _ _ _ _ (by decide +kernel) rfl (Nat.le_of_ble_eq_true rfl) (fun X hC hR => zv_go (k_X11_put_0 hC hR h) ⟨rfl, rfl, rfl, rfl, trivial⟩)
-- X11_take
def B_X11_take_17 (Q : Int32 → zv_St → Prop) (σ : zv_St) : Prop :=
  Q (-2) σ
set_option maxRecDepth 20000 in
set_option maxHeartbeats 2000000 in
theorem k_X11_take_17 {G : zv_G} {X : zv_X} {Q : Int32 → zv_St → Prop}  (hC : zv_C G X M_X11_take) (hR : zv_R G X M_X11_take (zv_qi Q))   {σ : zv_St} (h : B_X11_take_17 Q   σ) : zv_V G X M_X11_take 17 [] [] σ := by
  unfold B_X11_take_17 at h
  refine zv_bipush (v := (-2)) hC dX11_take_17 (by decide) ?_
  exact (hR _ _ _).1 _ rfl dX11_take_19 ⟨_, rfl, h⟩
def B_X11_take (Q : Int32 → zv_St → Prop) (x1 : Int32) (x2 : Int32) (σ : zv_St) : Prop :=
  B_X11_in (fun r_2 σ_1 => (r_2 = 0 → (B_X11_take_17 Q σ_1)) ∧ (¬ r_2 = 0 → (B_X11_isObject (fun r_4 σ_3 => (¬ r_4 = 0 → (vp_in ((512 * x1) + x2) 8192 ∧ ∀ v_5 : Int32, v_5 = (σ_3.1 46 ((512 * x1) + x2).toNatClampNeg) → (¬ v_5 = (-1) → (vp_in ((512 * x1) + x2) 8192 ∧ ∀ σ_6 : zv_St, σ_6 = zv_wi σ_3 46 ((512 * x1) + x2).toNatClampNeg (-1) → vp_in x1 16 ∧ vp_in x1 16 ∧ ∀ σ_7 : zv_St, σ_7 = zv_wi σ_6 47 x1.toNatClampNeg ((σ_6.1 47 x1.toNatClampNeg) - 1) → B_X11_change (fun σ_8 => Q v_5 σ_8) x1 σ_7)) ∧ (v_5 = (-1) → (Q (-4) σ_3)))) ∧ (r_4 = 0 → (B_X11_take_17 Q σ_3))) x2 σ_1))) x1 0 15 σ
set_option maxRecDepth 20000 in
set_option maxHeartbeats 2000000 in
theorem k_X11_take_0 {G : zv_G} {X : zv_X} {Q : Int32 → zv_St → Prop}  (hC : zv_C G X M_X11_take) (hR : zv_R G X M_X11_take (zv_qi Q))  {x1 : Int32} {x2 : Int32} {σ : zv_St} (h : B_X11_take Q  x1 x2 σ) : zv_V G X M_X11_take 0 [(0, .ref (G.2.2.1 45)), (1, .int x1), (2, .int x2)] [] σ := by
  unfold B_X11_take at h
  refine zv_iload_n hC dX11_take_0 rfl ?_
  refine zv_iconst (v := 0) hC dX11_take_1 (by decide) ?_
  refine zv_bipush (v := 15) hC dX11_take_2 (by decide) ?_
  refine zv_callSi (As := [_, _, _]) hC dX11_take_4 Y_X11_in lk_X11_103 (by decide) rfl rfl (Nat.le_of_ble_eq_true rfl) (ok_X11_in G h) ?_
  intro r_2 σ_1 h
  refine zv_if_eq (tgt := 17) hC dX11_take_7 (by decide) (fun c => ?_) (fun c => ?_)
  · replace h := h.1 c
    exact zv_go (k_X11_take_17 hC hR  h) trivial
  · replace h := h.2 c
    refine zv_iload_n hC dX11_take_10 rfl ?_
    refine zv_callSi (As := [_]) hC dX11_take_11 Y_X11_isObject lk_X11_115 (by decide) rfl rfl (Nat.le_of_ble_eq_true rfl) (ok_X11_isObject G h) ?_
    intro r_4 σ_3 h
    refine zv_if_ne (tgt := 20) hC dX11_take_14 (by decide) (fun c => ?_) (fun c => ?_)
    · replace h := h.1 c
      refine zv_sipush (v := 512) hC dX11_take_20 (by decide) ?_
      refine zv_iload_n hC dX11_take_23 rfl ?_
      refine zv_imul hC dX11_take_24 ?_
      refine zv_iload_n hC dX11_take_25 rfl ?_
      refine zv_iadd hC dX11_take_26 ?_
      refine zv_istore_n hC dX11_take_27 (by decide) ?_
      refine zv_aload_n hC dX11_take_28 rfl ?_
      refine zv_getR (j := 46) hC fl_X11_7 dX11_take_29 rfl rfl ?_
      refine zv_iload_n hC dX11_take_32 rfl ?_
      refine zv_iald hC dX11_take_33 rfl h.1 ?_
      replace h := h.2
      replace h := h _ rfl
      refine zv_istore hC dX11_take_34 (by decide) ?_
      refine zv_iload hC dX11_take_36 rfl ?_
      refine zv_iconst (v := (-1)) hC dX11_take_38 (by decide) ?_
      refine zv_icmp_ne (tgt := 45) hC dX11_take_39 (by decide) (fun c => ?_) (fun c => ?_)
      · replace h := h.1 c
        refine zv_aload_n hC dX11_take_45 rfl ?_
        refine zv_getR (j := 46) hC fl_X11_7 dX11_take_46 rfl rfl ?_
        refine zv_iload_n hC dX11_take_49 rfl ?_
        refine zv_iconst (v := (-1)) hC dX11_take_50 (by decide) ?_
        refine zv_iast hC dX11_take_51 rfl h.1 ?_
        replace h := h.2 _ rfl
        refine zv_aload_n hC dX11_take_52 rfl ?_
        refine zv_getR (j := 47) hC fl_X11_13 dX11_take_53 rfl rfl ?_
        refine zv_iload_n hC dX11_take_56 rfl ?_
        refine zv_dup2 hC dX11_take_57 rfl rfl ?_
        refine zv_iald hC dX11_take_58 rfl h.1 ?_
        replace h := h.2
        refine zv_iconst (v := 1) hC dX11_take_59 (by decide) ?_
        refine zv_isub hC dX11_take_60 ?_
        refine zv_iast hC dX11_take_61 rfl h.1 ?_
        replace h := h.2 _ rfl
        refine zv_aload_n hC dX11_take_62 rfl ?_
        refine zv_iload_n hC dX11_take_63 rfl ?_
        refine zv_callVv (As := [_]) hC dX11_take_64 Y_X11_change lk_X11_120 (by decide) rfl rfl rfl (Nat.le_of_ble_eq_true rfl) (ok_X11_change G h) ?_
        intro σ_8 h
        refine zv_iload hC dX11_take_67 rfl ?_
        exact (hR _ _ _).1 _ rfl dX11_take_69 ⟨_, rfl, h⟩
      · replace h := h.2 c
        refine zv_bipush (v := (-4)) hC dX11_take_42 (by decide) ?_
        exact (hR _ _ _).1 _ rfl dX11_take_44 ⟨_, rfl, h⟩
    · replace h := h.2 c
      exact zv_go (k_X11_take_17 hC hR  h) trivial
theorem ok_X11_take (G : zv_G) {Q : Int32 → zv_St → Prop} {x1 : Int32} {x2 : Int32} {σ : zv_St} (h : B_X11_take Q x1 x2 σ) : zv_OK G M_X11_take yX11_take [.ref (G.2.2.1 45), .int x1, .int x2] σ (zv_qi Q) := zv_ok G _ _ _ _ _ (by decide +kernel) rfl (Nat.le_of_ble_eq_true rfl) (fun X hC hR => zv_go (k_X11_take_0 hC hR h) ⟨rfl, rfl, rfl, trivial⟩)
-- X11_isNode
def B_X11_isNode (Q : Int32 → zv_St → Prop) (x1 : Int32) (σ : zv_St) : Prop :=
  B_X11_in (fun r_2 σ_1 => narrow .boolean (.int r_2) = .int r_2 ∧ Q r_2 σ_1) x1 0 ((σ.1 45 2) - 1) σ
set_option maxRecDepth 20000 in
set_option maxHeartbeats 2000000 in
theorem k_X11_isNode_0 {G : zv_G} {X : zv_X} {Q : Int32 → zv_St → Prop}  (hC : zv_C G X M_X11_isNode) (hR : zv_R G X M_X11_isNode (zv_qi Q))  {x1 : Int32} {σ : zv_St} (h : B_X11_isNode Q  x1 σ) : zv_V G X M_X11_isNode 0 [(0, .ref (G.2.2.1 45)), (1, .int x1)] [] σ := by
  unfold B_X11_isNode at h
  refine zv_iload_n hC dX11_isNode_0 rfl ?_
  refine zv_iconst (v := 0) hC dX11_isNode_1 (by decide) ?_
  refine zv_aload_n hC dX11_isNode_2 rfl ?_
  refine zv_getI hC fl_X11_107 dX11_isNode_3 rfl rfl ?_
  refine zv_iconst (v := 1) hC dX11_isNode_6 (by decide) ?_
  refine zv_isub hC dX11_isNode_7 ?_
  refine zv_callSi (As := [_, _, _]) hC dX11_isNode_8 Y_X11_in lk_X11_103 (by decide) rfl rfl (Nat.le_of_ble_eq_true rfl) (ok_X11_in G h) ?_
  intro r_2 σ_1 h
  exact (hR _ _ _).2.1 _ rfl h.1 dX11_isNode_11 ⟨_, rfl, h.2⟩
theorem ok_X11_isNode (G : zv_G) {Q : Int32 → zv_St → Prop} {x1 : Int32} {σ : zv_St} (h : B_X11_isNode Q x1 σ) : zv_OK G M_X11_isNode yX11_isNode [.ref (G.2.2.1 45), .int x1] σ (zv_qi Q) := zv_ok G _ _ _ _ _ (by decide +kernel) rfl (Nat.le_of_ble_eq_true rfl) (fun X hC hR => zv_go (k_X11_isNode_0 hC hR h) ⟨rfl, rfl, trivial⟩)
-- X11_isToldSo
def B_X11_isToldSo_80 (Q : Int32 → zv_St → Prop) (y0 : Int32) (σ : zv_St) : Prop :=
  narrow .boolean (.int y0) = .int y0 ∧ Q y0 σ
set_option maxRecDepth 20000 in
set_option maxHeartbeats 2000000 in
theorem k_X11_isToldSo_80 {G : zv_G} {X : zv_X} {Q : Int32 → zv_St → Prop}  (hC : zv_C G X M_X11_isToldSo) (hR : zv_R G X M_X11_isToldSo (zv_qi Q))  {y0 : Int32} {σ : zv_St} (h : B_X11_isToldSo_80 Q  y0 σ) : zv_V G X M_X11_isToldSo 80 [] [.int y0] σ := by
  unfold B_X11_isToldSo_80 at h
  exact (hR _ _ _).2.1 _ rfl h.1 dX11_isToldSo_80 ⟨_, rfl, h.2⟩
def B_X11_isToldSo_79 (Q : Int32 → zv_St → Prop) (σ : zv_St) : Prop :=
  B_X11_isToldSo_80 Q 0 σ
set_option maxRecDepth 20000 in
set_option maxHeartbeats 2000000 in
theorem k_X11_isToldSo_79 {G : zv_G} {X : zv_X} {Q : Int32 → zv_St → Prop}  (hC : zv_C G X M_X11_isToldSo) (hR : zv_R G X M_X11_isToldSo (zv_qi Q))   {σ : zv_St} (h : B_X11_isToldSo_79 Q   σ) : zv_V G X M_X11_isToldSo 79 [] [] σ := by
  unfold B_X11_isToldSo_79 at h
  refine zv_iconst (v := 0) hC dX11_isToldSo_79 (by decide) ?_
  exact zv_go (k_X11_isToldSo_80 hC hR  h) trivial
def B_X11_isToldSo_120 (Q : Int32 → zv_St → Prop) (y0 : Int32) (σ : zv_St) : Prop :=
  narrow .boolean (.int y0) = .int y0 ∧ Q y0 σ
set_option maxRecDepth 20000 in
set_option maxHeartbeats 2000000 in
theorem k_X11_isToldSo_120 {G : zv_G} {X : zv_X} {Q : Int32 → zv_St → Prop}  (hC : zv_C G X M_X11_isToldSo) (hR : zv_R G X M_X11_isToldSo (zv_qi Q))  {y0 : Int32} {σ : zv_St} (h : B_X11_isToldSo_120 Q  y0 σ) : zv_V G X M_X11_isToldSo 120 [] [.int y0] σ := by
  unfold B_X11_isToldSo_120 at h
  exact (hR _ _ _).2.1 _ rfl h.1 dX11_isToldSo_120 ⟨_, rfl, h.2⟩
def B_X11_isToldSo_119 (Q : Int32 → zv_St → Prop) (σ : zv_St) : Prop :=
  B_X11_isToldSo_120 Q 0 σ
set_option maxRecDepth 20000 in
set_option maxHeartbeats 2000000 in
theorem k_X11_isToldSo_119 {G : zv_G} {X : zv_X} {Q : Int32 → zv_St → Prop}  (hC : zv_C G X M_X11_isToldSo) (hR : zv_R G X M_X11_isToldSo (zv_qi Q))   {σ : zv_St} (h : B_X11_isToldSo_119 Q   σ) : zv_V G X M_X11_isToldSo 119 [] [] σ := by
  unfold B_X11_isToldSo_119 at h
  refine zv_iconst (v := 0) hC dX11_isToldSo_119 (by decide) ?_
  exact zv_go (k_X11_isToldSo_120 hC hR  h) trivial
def B_X11_isToldSo_156 (Q : Int32 → zv_St → Prop) (y0 : Int32) (σ : zv_St) : Prop :=
  narrow .boolean (.int y0) = .int y0 ∧ Q y0 σ
set_option maxRecDepth 20000 in
set_option maxHeartbeats 2000000 in
theorem k_X11_isToldSo_156 {G : zv_G} {X : zv_X} {Q : Int32 → zv_St → Prop}  (hC : zv_C G X M_X11_isToldSo) (hR : zv_R G X M_X11_isToldSo (zv_qi Q))  {y0 : Int32} {σ : zv_St} (h : B_X11_isToldSo_156 Q  y0 σ) : zv_V G X M_X11_isToldSo 156 [] [.int y0] σ := by
  unfold B_X11_isToldSo_156 at h
  exact (hR _ _ _).2.1 _ rfl h.1 dX11_isToldSo_156 ⟨_, rfl, h.2⟩
def B_X11_isToldSo_155 (Q : Int32 → zv_St → Prop) (σ : zv_St) : Prop :=
  B_X11_isToldSo_156 Q 0 σ
set_option maxRecDepth 20000 in
set_option maxHeartbeats 2000000 in
theorem k_X11_isToldSo_155 {G : zv_G} {X : zv_X} {Q : Int32 → zv_St → Prop}  (hC : zv_C G X M_X11_isToldSo) (hR : zv_R G X M_X11_isToldSo (zv_qi Q))   {σ : zv_St} (h : B_X11_isToldSo_155 Q   σ) : zv_V G X M_X11_isToldSo 155 [] [] σ := by
  unfold B_X11_isToldSo_155 at h
  refine zv_iconst (v := 0) hC dX11_isToldSo_155 (by decide) ?_
  exact zv_go (k_X11_isToldSo_156 hC hR  h) trivial
def B_X11_isToldSo (Q : Int32 → zv_St → Prop) (x1 : Int32) (x2 : Int32) (x3 : Int32) (σ : zv_St) : Prop :=
  (x1 = 0 → (B_X11_in (fun r_2 σ_1 => narrow .boolean (.int r_2) = .int r_2 ∧ Q r_2 σ_1) x2 0 15 σ)) ∧ (x1 = 1 → (B_X11_isObject (fun r_4 σ_3 => (r_4 = 0 → (B_X11_isToldSo_79 Q σ_3)) ∧ (¬ r_4 = 0 → (B_X11_isObject (fun r_6 σ_5 => (r_6 = 0 → (B_X11_isToldSo_79 Q σ_5)) ∧ (¬ r_6 = 0 → ((x3 < x2 → (B_X11_isToldSo_79 Q σ_5)) ∧ (¬ x3 < x2 → (B_X11_isToldSo_80 Q 1 σ_5))))) x3 σ_3))) x2 σ)) ∧ (x1 = 2 → (B_X11_in (fun r_8 σ_7 => narrow .boolean (.int r_8) = .int r_8 ∧ Q r_8 σ_7) x2 0 8 σ)) ∧ (x1 = 3 → (B_X11_in (fun r_10 σ_9 => narrow .boolean (.int r_10) = .int r_10 ∧ Q r_10 σ_9) x2 0 100 σ)) ∧ (x1 = 4 → (B_X11_isNode (fun r_12 σ_11 => (r_12 = 0 → (B_X11_isToldSo_119 Q σ_11)) ∧ (¬ r_12 = 0 → (B_X11_in (fun r_14 σ_13 => (r_14 = 0 → (B_X11_isToldSo_119 Q σ_13)) ∧ (¬ r_14 = 0 → (B_X11_isToldSo_120 Q 1 σ_13))) x3 0 1000000 σ_11))) x2 σ)) ∧ (x1 = 5 → (B_X11_isNode (fun r_16 σ_15 => (r_16 = 0 → (B_X11_isToldSo_155 Q σ_15)) ∧ (¬ r_16 = 0 → (B_X11_in (fun r_18 σ_17 => (r_18 = 0 → (B_X11_isToldSo_155 Q σ_17)) ∧ (¬ r_18 = 0 → ((((x3 / 1000) - (x3 / 1000) / 1000 * 1000) ≤ 0 → (B_X11_isToldSo_155 Q σ_17)) ∧ (¬ ((x3 / 1000) - (x3 / 1000) / 1000 * 1000) ≤ 0 → (B_X11_isToldSo_156 Q 1 σ_17))))) x3 0 999999999 σ_15))) x2 σ)) ∧ (x1 = 6 → (B_X11_isNode (fun r_20 σ_19 => narrow .boolean (.int r_20) = .int r_20 ∧ Q r_20 σ_19) x2 σ)) ∧ (x1 = 7 → (Q 1 σ)) ∧ (Int32.toInt x1 < 0 ∨ 7 < Int32.toInt x1 → (Q 0 σ))
set_option maxRecDepth 20000 in
set_option maxHeartbeats 2000000 in
theorem k_X11_isToldSo_0 {G : zv_G} {X : zv_X} {Q : Int32 → zv_St → Prop}  (hC : zv_C G X M_X11_isToldSo) (hR : zv_R G X M_X11_isToldSo (zv_qi Q))  {x1 : Int32} {x2 : Int32} {x3 : Int32} {σ : zv_St} (h : B_X11_isToldSo Q  x1 x2 x3 σ) : zv_V G X M_X11_isToldSo 0 [(0, .ref (G.2.2.1 45)), (1, .int x1), (2, .int x2), (3, .int x3)] [] σ := by
  unfold B_X11_isToldSo at h
  refine zv_iload_n hC dX11_isToldSo_0 rfl ?_
  refine zv_swV (zv_sw_0_7) ?_
  rintro (c | c | c | c | c | c | c | c | c)
  · replace h := h.1 c
    refine zv_table (off := 47) (tgt := 48) hC dX11_isToldSo_1 (by rw [c]; decide) (by rw [c]; decide) (by rw [c]; rfl) (by decide) ?_
    refine zv_iload_n hC dX11_isToldSo_48 rfl ?_
    refine zv_iconst (v := 0) hC dX11_isToldSo_49 (by decide) ?_
    refine zv_bipush (v := 15) hC dX11_isToldSo_50 (by decide) ?_
    refine zv_callSi (As := [_, _, _]) hC dX11_isToldSo_52 Y_X11_in lk_X11_103 (by decide) rfl rfl (Nat.le_of_ble_eq_true rfl) (ok_X11_in G h) ?_
    intro r_2 σ_1 h
    exact (hR _ _ _).2.1 _ rfl h.1 dX11_isToldSo_55 ⟨_, rfl, h.2⟩
  · replace h := h.2.1 c
    refine zv_table (off := 55) (tgt := 56) hC dX11_isToldSo_1 (by rw [c]; decide) (by rw [c]; decide) (by rw [c]; rfl) (by decide) ?_
    refine zv_iload_n hC dX11_isToldSo_56 rfl ?_
    refine zv_callSi (As := [_]) hC dX11_isToldSo_57 Y_X11_isObject lk_X11_115 (by decide) rfl rfl (Nat.le_of_ble_eq_true rfl) (ok_X11_isObject G h) ?_
    intro r_4 σ_3 h
    refine zv_if_eq (tgt := 79) hC dX11_isToldSo_60 (by decide) (fun c => ?_) (fun c => ?_)
    · replace h := h.1 c
      exact zv_go (k_X11_isToldSo_79 hC hR  h) trivial
    · replace h := h.2 c
      refine zv_iload_n hC dX11_isToldSo_63 rfl ?_
      refine zv_callSi (As := [_]) hC dX11_isToldSo_64 Y_X11_isObject lk_X11_115 (by decide) rfl rfl (Nat.le_of_ble_eq_true rfl) (ok_X11_isObject G h) ?_
      intro r_6 σ_5 h
      refine zv_if_eq (tgt := 79) hC dX11_isToldSo_67 (by decide) (fun c => ?_) (fun c => ?_)
      · replace h := h.1 c
        exact zv_go (k_X11_isToldSo_79 hC hR  h) trivial
      · replace h := h.2 c
        refine zv_iload_n hC dX11_isToldSo_70 rfl ?_
        refine zv_iload_n hC dX11_isToldSo_71 rfl ?_
        refine zv_icmp_gt (tgt := 79) hC dX11_isToldSo_72 (by decide) (fun c => ?_) (fun c => ?_)
        · replace h := h.1 c
          exact zv_go (k_X11_isToldSo_79 hC hR  h) trivial
        · replace h := h.2 c
          refine zv_iconst (v := 1) hC dX11_isToldSo_75 (by decide) ?_
          refine zv_goto (tgt := 80) hC dX11_isToldSo_76 (by decide) ?_
          exact zv_go (k_X11_isToldSo_80 hC hR  h) trivial
  · replace h := h.2.2.1 c
    refine zv_table (off := 80) (tgt := 81) hC dX11_isToldSo_1 (by rw [c]; decide) (by rw [c]; decide) (by rw [c]; rfl) (by decide) ?_
    refine zv_iload_n hC dX11_isToldSo_81 rfl ?_
    refine zv_iconst (v := 0) hC dX11_isToldSo_82 (by decide) ?_
    refine zv_bipush (v := 8) hC dX11_isToldSo_83 (by decide) ?_
    refine zv_callSi (As := [_, _, _]) hC dX11_isToldSo_85 Y_X11_in lk_X11_103 (by decide) rfl rfl (Nat.le_of_ble_eq_true rfl) (ok_X11_in G h) ?_
    intro r_8 σ_7 h
    exact (hR _ _ _).2.1 _ rfl h.1 dX11_isToldSo_88 ⟨_, rfl, h.2⟩
  · replace h := h.2.2.2.1 c
    refine zv_table (off := 88) (tgt := 89) hC dX11_isToldSo_1 (by rw [c]; decide) (by rw [c]; decide) (by rw [c]; rfl) (by decide) ?_
    refine zv_iload_n hC dX11_isToldSo_89 rfl ?_
    refine zv_iconst (v := 0) hC dX11_isToldSo_90 (by decide) ?_
    refine zv_bipush (v := 100) hC dX11_isToldSo_91 (by decide) ?_
    refine zv_callSi (As := [_, _, _]) hC dX11_isToldSo_93 Y_X11_in lk_X11_103 (by decide) rfl rfl (Nat.le_of_ble_eq_true rfl) (ok_X11_in G h) ?_
    intro r_10 σ_9 h
    exact (hR _ _ _).2.1 _ rfl h.1 dX11_isToldSo_96 ⟨_, rfl, h.2⟩
  · replace h := h.2.2.2.2.1 c
    refine zv_table (off := 96) (tgt := 97) hC dX11_isToldSo_1 (by rw [c]; decide) (by rw [c]; decide) (by rw [c]; rfl) (by decide) ?_
    refine zv_aload_n hC dX11_isToldSo_97 rfl ?_
    refine zv_iload_n hC dX11_isToldSo_98 rfl ?_
    refine zv_callVi (As := [_]) hC dX11_isToldSo_99 Y_X11_isNode lk_X11_123 (by decide) rfl rfl rfl (Nat.le_of_ble_eq_true rfl) (ok_X11_isNode G h) ?_
    intro r_12 σ_11 h
    refine zv_if_eq (tgt := 119) hC dX11_isToldSo_102 (by decide) (fun c => ?_) (fun c => ?_)
    · replace h := h.1 c
      exact zv_go (k_X11_isToldSo_119 hC hR  h) trivial
    · replace h := h.2 c
      refine zv_iload_n hC dX11_isToldSo_105 rfl ?_
      refine zv_iconst (v := 0) hC dX11_isToldSo_106 (by decide) ?_
      refine zv_ldc hC dX11_isToldSo_107 cst_X11_119 ?_
      refine zv_callSi (As := [_, _, _]) hC dX11_isToldSo_109 Y_X11_in lk_X11_103 (by decide) rfl rfl (Nat.le_of_ble_eq_true rfl) (ok_X11_in G h) ?_
      intro r_14 σ_13 h
      refine zv_if_eq (tgt := 119) hC dX11_isToldSo_112 (by decide) (fun c => ?_) (fun c => ?_)
      · replace h := h.1 c
        exact zv_go (k_X11_isToldSo_119 hC hR  h) trivial
      · replace h := h.2 c
        refine zv_iconst (v := 1) hC dX11_isToldSo_115 (by decide) ?_
        refine zv_goto (tgt := 120) hC dX11_isToldSo_116 (by decide) ?_
        exact zv_go (k_X11_isToldSo_120 hC hR  h) trivial
  · replace h := h.2.2.2.2.2.1 c
    refine zv_table (off := 120) (tgt := 121) hC dX11_isToldSo_1 (by rw [c]; decide) (by rw [c]; decide) (by rw [c]; rfl) (by decide) ?_
    refine zv_aload_n hC dX11_isToldSo_121 rfl ?_
    refine zv_iload_n hC dX11_isToldSo_122 rfl ?_
    refine zv_callVi (As := [_]) hC dX11_isToldSo_123 Y_X11_isNode lk_X11_123 (by decide) rfl rfl rfl (Nat.le_of_ble_eq_true rfl) (ok_X11_isNode G h) ?_
    intro r_16 σ_15 h
    refine zv_if_eq (tgt := 155) hC dX11_isToldSo_126 (by decide) (fun c => ?_) (fun c => ?_)
    · replace h := h.1 c
      exact zv_go (k_X11_isToldSo_155 hC hR  h) trivial
    · replace h := h.2 c
      refine zv_iload_n hC dX11_isToldSo_129 rfl ?_
      refine zv_iconst (v := 0) hC dX11_isToldSo_130 (by decide) ?_
      refine zv_ldc hC dX11_isToldSo_131 cst_X11_126 ?_
      refine zv_callSi (As := [_, _, _]) hC dX11_isToldSo_133 Y_X11_in lk_X11_103 (by decide) rfl rfl (Nat.le_of_ble_eq_true rfl) (ok_X11_in G h) ?_
      intro r_18 σ_17 h
      refine zv_if_eq (tgt := 155) hC dX11_isToldSo_136 (by decide) (fun c => ?_) (fun c => ?_)
      · replace h := h.1 c
        exact zv_go (k_X11_isToldSo_155 hC hR  h) trivial
      · replace h := h.2 c
        refine zv_iload_n hC dX11_isToldSo_139 rfl ?_
        refine zv_sipush (v := 1000) hC dX11_isToldSo_140 (by decide) ?_
        refine zv_idiv hC dX11_isToldSo_143 (by decide) ?_
        refine zv_sipush (v := 1000) hC dX11_isToldSo_144 (by decide) ?_
        refine zv_irem hC dX11_isToldSo_147 (by decide) ?_
        refine zv_if_le (tgt := 155) hC dX11_isToldSo_148 (by decide) (fun c => ?_) (fun c => ?_)
        · replace h := h.1 c
          exact zv_go (k_X11_isToldSo_155 hC hR  h) trivial
        · replace h := h.2 c
          refine zv_iconst (v := 1) hC dX11_isToldSo_151 (by decide) ?_
          refine zv_goto (tgt := 156) hC dX11_isToldSo_152 (by decide) ?_
          exact zv_go (k_X11_isToldSo_156 hC hR  h) trivial
  · replace h := h.2.2.2.2.2.2.1 c
    refine zv_table (off := 156) (tgt := 157) hC dX11_isToldSo_1 (by rw [c]; decide) (by rw [c]; decide) (by rw [c]; rfl) (by decide) ?_
    refine zv_aload_n hC dX11_isToldSo_157 rfl ?_
    refine zv_iload_n hC dX11_isToldSo_158 rfl ?_
    refine zv_callVi (As := [_]) hC dX11_isToldSo_159 Y_X11_isNode lk_X11_123 (by decide) rfl rfl rfl (Nat.le_of_ble_eq_true rfl) (ok_X11_isNode G h) ?_
    intro r_20 σ_19 h
    exact (hR _ _ _).2.1 _ rfl h.1 dX11_isToldSo_162 ⟨_, rfl, h.2⟩
  · replace h := h.2.2.2.2.2.2.2.1 c
    refine zv_table (off := 162) (tgt := 163) hC dX11_isToldSo_1 (by rw [c]; decide) (by rw [c]; decide) (by rw [c]; rfl) (by decide) ?_
    refine zv_iconst (v := 1) hC dX11_isToldSo_163 (by decide) ?_
    exact (hR _ _ _).2.1 _ rfl rfl dX11_isToldSo_164 ⟨_, rfl, h⟩
  · replace h := h.2.2.2.2.2.2.2.2 c
    refine zv_tableD (tgt := 165) hC dX11_isToldSo_1 c (by decide) ?_
    refine zv_iconst (v := 0) hC dX11_isToldSo_165 (by decide) ?_
    exact (hR _ _ _).2.1 _ rfl rfl dX11_isToldSo_166 ⟨_, rfl, h⟩
theorem ok_X11_isToldSo (G : zv_G) {Q : Int32 → zv_St → Prop} {x1 : Int32} {x2 : Int32} {x3 : Int32} {σ : zv_St} (h : B_X11_isToldSo Q x1 x2 x3 σ) : zv_OK G M_X11_isToldSo yX11_isToldSo [.ref (G.2.2.1 45), .int x1, .int x2, .int x3] σ (zv_qi Q) := zv_ok G _ _ _ _ _ (by decide +kernel) rfl (Nat.le_of_ble_eq_true rfl) (fun X hC hR => zv_go (k_X11_isToldSo_0 hC hR h) ⟨rfl, rfl, rfl, rfl, trivial⟩)
-- X11_make
def B_X11_make_59 (Q : zv_St → Prop) (x2 : Int32) (y1 : Int32) (y2 : Int32) (σ : zv_St) : Prop :=
  vp_in y1 80 ∧ ∀ σ_1 : zv_St, σ_1 = zv_wi σ 51 y1.toNatClampNeg y2 → vp_in (8 * (σ_1.1 45 2)) 640 ∧ ∀ σ_2 : zv_St, σ_2 = zv_wi σ_1 52 (8 * (σ_1.1 45 2)).toNatClampNeg 0 → vp_in (8 * (σ_2.1 45 2)) 640 ∧ ∀ σ_3 : zv_St, σ_3 = zv_wi σ_2 53 (8 * (σ_2.1 45 2)).toNatClampNeg x2 → vp_in (σ_3.1 45 2) 80 ∧ ∀ σ_4 : zv_St, σ_4 = zv_wi σ_3 54 (σ_3.1 45 2).toNatClampNeg 0 → vp_in (σ_4.1 45 2) 80 ∧ ∀ σ_5 : zv_St, σ_5 = zv_wi σ_4 55 (σ_4.1 45 2).toNatClampNeg (-1) → ∀ σ_6 : zv_St, σ_6 = zv_wi σ_5 45 2 ((σ_5.1 45 2) + 1) → Q σ_6
set_option maxRecDepth 20000 in
set_option maxHeartbeats 2000000 in
theorem k_X11_make_59 {G : zv_G} {X : zv_X} {Q : zv_St → Prop}  (hC : zv_C G X M_X11_make) (hR : zv_R G X M_X11_make (zv_qv Q))  {x2 : Int32} {y1 : Int32} {y2 : Int32} {σ : zv_St} (h : B_X11_make_59 Q  x2 y1 y2 σ) : zv_V G X M_X11_make 59 [(0, .ref (G.2.2.1 45)), (2, .int x2)] [.int y2, .int y1, .ref (G.2.2.1 51)] σ := by
  unfold B_X11_make_59 at h
  refine zv_iast hC dX11_make_59 rfl h.1 ?_
  replace h := h.2 _ rfl
  refine zv_aload_n hC dX11_make_60 rfl ?_
  refine zv_getR (j := 52) hC fl_X11_28 dX11_make_61 rfl rfl ?_
  refine zv_bipush (v := 8) hC dX11_make_64 (by decide) ?_
  refine zv_aload_n hC dX11_make_66 rfl ?_
  refine zv_getI hC fl_X11_107 dX11_make_67 rfl rfl ?_
  refine zv_imul hC dX11_make_70 ?_
  refine zv_iconst (v := 0) hC dX11_make_71 (by decide) ?_
  refine zv_iast hC dX11_make_72 rfl h.1 ?_
  replace h := h.2 _ rfl
  refine zv_aload_n hC dX11_make_73 rfl ?_
  refine zv_getR (j := 53) hC fl_X11_31 dX11_make_74 rfl rfl ?_
  refine zv_bipush (v := 8) hC dX11_make_77 (by decide) ?_
  refine zv_aload_n hC dX11_make_79 rfl ?_
  refine zv_getI hC fl_X11_107 dX11_make_80 rfl rfl ?_
  refine zv_imul hC dX11_make_83 ?_
  refine zv_iload_n hC dX11_make_84 rfl ?_
  refine zv_iast hC dX11_make_85 rfl h.1 ?_
  replace h := h.2 _ rfl
  refine zv_aload_n hC dX11_make_86 rfl ?_
  refine zv_getR (j := 54) hC fl_X11_34 dX11_make_87 rfl rfl ?_
  refine zv_aload_n hC dX11_make_90 rfl ?_
  refine zv_getI hC fl_X11_107 dX11_make_91 rfl rfl ?_
  refine zv_iconst (v := 0) hC dX11_make_94 (by decide) ?_
  refine zv_iast hC dX11_make_95 rfl h.1 ?_
  replace h := h.2 _ rfl
  refine zv_aload_n hC dX11_make_96 rfl ?_
  refine zv_getR (j := 55) hC fl_X11_37 dX11_make_97 rfl rfl ?_
  refine zv_aload_n hC dX11_make_100 rfl ?_
  refine zv_getI hC fl_X11_107 dX11_make_101 rfl rfl ?_
  refine zv_iconst (v := (-1)) hC dX11_make_104 (by decide) ?_
  refine zv_iast hC dX11_make_105 rfl h.1 ?_
  replace h := h.2 _ rfl
  refine zv_aload_n hC dX11_make_106 rfl ?_
  refine zv_dup hC dX11_make_107 rfl ?_
  refine zv_getI hC fl_X11_107 dX11_make_108 rfl rfl ?_
  refine zv_iconst (v := 1) hC dX11_make_111 (by decide) ?_
  refine zv_iadd hC dX11_make_112 ?_
  refine zv_putI hC fp_X11_107 dX11_make_113 rfl rfl rfl rfl ?_
  replace h := h _ rfl
  exact (hR _ _ _).2.2.2.1 rfl dX11_make_116 ⟨rfl, h⟩
def B_X11_make_54 (Q : zv_St → Prop) (x2 : Int32) (y1 : Int32) (σ : zv_St) : Prop :=
  B_X11_make_59 Q x2 y1 1 σ
set_option maxRecDepth 20000 in
set_option maxHeartbeats 2000000 in
theorem k_X11_make_54 {G : zv_G} {X : zv_X} {Q : zv_St → Prop}  (hC : zv_C G X M_X11_make) (hR : zv_R G X M_X11_make (zv_qv Q))  {x2 : Int32} {y1 : Int32} {σ : zv_St} (h : B_X11_make_54 Q  x2 y1 σ) : zv_V G X M_X11_make 54 [(0, .ref (G.2.2.1 45)), (2, .int x2)] [.int y1, .ref (G.2.2.1 51)] σ := by
  unfold B_X11_make_54 at h
  refine zv_iconst (v := 1) hC dX11_make_54 (by decide) ?_
  refine zv_goto (tgt := 59) hC dX11_make_55 (by decide) ?_
  exact zv_go (k_X11_make_59 hC hR  h) ⟨rfl, rfl, trivial⟩
def B_X11_make (Q : zv_St → Prop) (x1 : Int32) (x2 : Int32) (x3 : Int32) (σ : zv_St) : Prop :=
  vp_in (σ.1 45 2) 80 ∧ ∀ σ_1 : zv_St, σ_1 = zv_wi σ 48 (σ.1 45 2).toNatClampNeg x1 → vp_in (σ_1.1 45 2) 80 ∧ ∀ σ_2 : zv_St, σ_2 = zv_wi σ_1 49 (σ_1.1 45 2).toNatClampNeg x2 → vp_in (σ_2.1 45 2) 80 ∧ ∀ σ_3 : zv_St, σ_3 = zv_wi σ_2 50 (σ_2.1 45 2).toNatClampNeg x3 → (x1 = 4 → (B_X11_make_54 Q x2 (σ_3.1 45 2) σ_3)) ∧ (¬ x1 = 4 → ((x1 = 5 → (B_X11_make_54 Q x2 (σ_3.1 45 2) σ_3)) ∧ (¬ x1 = 5 → ((¬ x1 = 6 → (B_X11_make_59 Q x2 (σ_3.1 45 2) 0 σ_3)) ∧ (x1 = 6 → (B_X11_make_54 Q x2 (σ_3.1 45 2) σ_3))))))
set_option maxRecDepth 20000 in
set_option maxHeartbeats 2000000 in
theorem k_X11_make_0 {G : zv_G} {X : zv_X} {Q : zv_St → Prop}  (hC : zv_C G X M_X11_make) (hR : zv_R G X M_X11_make (zv_qv Q))  {x1 : Int32} {x2 : Int32} {x3 : Int32} {σ : zv_St} (h : B_X11_make Q  x1 x2 x3 σ) : zv_V G X M_X11_make 0 [(0, .ref (G.2.2.1 45)), (1, .int x1), (2, .int x2), (3, .int x3)] [] σ := by
  unfold B_X11_make at h
  refine zv_aload_n hC dX11_make_0 rfl ?_
  refine zv_getR (j := 48) hC fl_X11_16 dX11_make_1 rfl rfl ?_
  refine zv_aload_n hC dX11_make_4 rfl ?_
  refine zv_getI hC fl_X11_107 dX11_make_5 rfl rfl ?_
  refine zv_iload_n hC dX11_make_8 rfl ?_
  refine zv_iast hC dX11_make_9 rfl h.1 ?_
  replace h := h.2 _ rfl
  refine zv_aload_n hC dX11_make_10 rfl ?_
  refine zv_getR (j := 49) hC fl_X11_19 dX11_make_11 rfl rfl ?_
  refine zv_aload_n hC dX11_make_14 rfl ?_
  refine zv_getI hC fl_X11_107 dX11_make_15 rfl rfl ?_
  refine zv_iload_n hC dX11_make_18 rfl ?_
  refine zv_iast hC dX11_make_19 rfl h.1 ?_
  replace h := h.2 _ rfl
  refine zv_aload_n hC dX11_make_20 rfl ?_
  refine zv_getR (j := 50) hC fl_X11_22 dX11_make_21 rfl rfl ?_
  refine zv_aload_n hC dX11_make_24 rfl ?_
  refine zv_getI hC fl_X11_107 dX11_make_25 rfl rfl ?_
  refine zv_iload_n hC dX11_make_28 rfl ?_
  refine zv_iast hC dX11_make_29 rfl h.1 ?_
  replace h := h.2 _ rfl
  refine zv_aload_n hC dX11_make_30 rfl ?_
  refine zv_getR (j := 51) hC fl_X11_25 dX11_make_31 rfl rfl ?_
  refine zv_aload_n hC dX11_make_34 rfl ?_
  refine zv_getI hC fl_X11_107 dX11_make_35 rfl rfl ?_
  refine zv_iload_n hC dX11_make_38 rfl ?_
  refine zv_iconst (v := 4) hC dX11_make_39 (by decide) ?_
  refine zv_icmp_eq (tgt := 54) hC dX11_make_40 (by decide) (fun c => ?_) (fun c => ?_)
  · replace h := h.1 c
    exact zv_go (k_X11_make_54 hC hR  h) ⟨rfl, rfl, trivial⟩
  · replace h := h.2 c
    refine zv_iload_n hC dX11_make_43 rfl ?_
    refine zv_iconst (v := 5) hC dX11_make_44 (by decide) ?_
    refine zv_icmp_eq (tgt := 54) hC dX11_make_45 (by decide) (fun c => ?_) (fun c => ?_)
    · replace h := h.1 c
      exact zv_go (k_X11_make_54 hC hR  h) ⟨rfl, rfl, trivial⟩
    · replace h := h.2 c
      refine zv_iload_n hC dX11_make_48 rfl ?_
      refine zv_bipush (v := 6) hC dX11_make_49 (by decide) ?_
      refine zv_icmp_ne (tgt := 58) hC dX11_make_51 (by decide) (fun c => ?_) (fun c => ?_)
      · replace h := h.1 c
        refine zv_iconst (v := 0) hC dX11_make_58 (by decide) ?_
        exact zv_go (k_X11_make_59 hC hR  h) ⟨rfl, rfl, trivial⟩
      · replace h := h.2 c
        exact zv_go (k_X11_make_54 hC hR  h) ⟨rfl, rfl, trivial⟩
theorem ok_X11_make (G : zv_G) {Q : zv_St → Prop} {x1 : Int32} {x2 : Int32} {x3 : Int32} {σ : zv_St} (h : B_X11_make Q x1 x2 x3 σ) : zv_OK G M_X11_make yX11_make [.ref (G.2.2.1 45), .int x1, .int x2, .int x3] σ (zv_qv Q) := zv_ok G _ _ _ _ _ (by decide +kernel) rfl (Nat.le_of_ble_eq_true rfl) (fun X hC hR => zv_go (k_X11_make_0 hC hR h) ⟨rfl, rfl, rfl, rfl, trivial⟩)
-- X11_node
def B_X11_node_70 (Q : Int32 → zv_St → Prop) (y1 : Int32) (y2 : Int32) (y3 : Int32) (σ : zv_St) : Prop :=
  B_X11_make (fun σ_1 => Q ((σ_1.1 45 2) - 1) σ_1) y1 y2 y3 σ
set_option maxRecDepth 20000 in
set_option maxHeartbeats 2000000 in
theorem k_X11_node_70 {G : zv_G} {X : zv_X} {Q : Int32 → zv_St → Prop}  (hC : zv_C G X M_X11_node) (hR : zv_R G X M_X11_node (zv_qi Q))  {y1 : Int32} {y2 : Int32} {y3 : Int32} {σ : zv_St} (h : B_X11_node_70 Q  y1 y2 y3 σ) : zv_V G X M_X11_node 70 [(0, .ref (G.2.2.1 45))] [.int y3, .int y2, .int y1, .ref (G.2.2.1 45)] σ := by
  unfold B_X11_node_70 at h
  refine zv_callVv (As := [_, _, _]) hC dX11_node_70 Y_X11_make lk_X11_130 (by decide) rfl rfl rfl (Nat.le_of_ble_eq_true rfl) (ok_X11_make G h) ?_
  intro σ_1 h
  refine zv_aload_n hC dX11_node_73 rfl ?_
  refine zv_getI hC fl_X11_107 dX11_node_74 rfl rfl ?_
  refine zv_iconst (v := 1) hC dX11_node_77 (by decide) ?_
  refine zv_isub hC dX11_node_78 ?_
  exact (hR _ _ _).1 _ rfl dX11_node_79 ⟨_, rfl, h⟩
def B_X11_node_60 (Q : Int32 → zv_St → Prop) (x3 : Int32) (x4 : Int32) (y1 : Int32) (y2 : Int32) (σ : zv_St) : Prop :=
  (x4 = 0 → (B_X11_node_70 Q y1 y2 0 σ)) ∧ (¬ x4 = 0 → (B_X11_node_70 Q y1 y2 x3 σ))
set_option maxRecDepth 20000 in
set_option maxHeartbeats 2000000 in
theorem k_X11_node_60 {G : zv_G} {X : zv_X} {Q : Int32 → zv_St → Prop}  (hC : zv_C G X M_X11_node) (hR : zv_R G X M_X11_node (zv_qi Q))  {x3 : Int32} {x4 : Int32} {y1 : Int32} {y2 : Int32} {σ : zv_St} (h : B_X11_node_60 Q  x3 x4 y1 y2 σ) : zv_V G X M_X11_node 60 [(0, .ref (G.2.2.1 45)), (3, .int x3), (4, .int x4)] [.int y2, .int y1, .ref (G.2.2.1 45)] σ := by
  unfold B_X11_node_60 at h
  refine zv_iload hC dX11_node_60 rfl ?_
  refine zv_if_eq (tgt := 69) hC dX11_node_62 (by decide) (fun c => ?_) (fun c => ?_)
  · replace h := h.1 c
    refine zv_iconst (v := 0) hC dX11_node_69 (by decide) ?_
    exact zv_go (k_X11_node_70 hC hR  h) ⟨rfl, trivial⟩
  · replace h := h.2 c
    refine zv_iload_n hC dX11_node_65 rfl ?_
    refine zv_goto (tgt := 70) hC dX11_node_66 (by decide) ?_
    exact zv_go (k_X11_node_70 hC hR  h) ⟨rfl, trivial⟩
def B_X11_node_45 (Q : Int32 → zv_St → Prop) (x1 : Int32) (x2 : Int32) (x3 : Int32) (y0 : Int32) (σ : zv_St) : Prop :=
  (¬ x1 = 7 → (B_X11_node_60 Q x3 y0 x1 x2 σ)) ∧ (x1 = 7 → (B_X11_node_60 Q x3 y0 x1 0 σ))
set_option maxRecDepth 20000 in
set_option maxHeartbeats 2000000 in
theorem k_X11_node_45 {G : zv_G} {X : zv_X} {Q : Int32 → zv_St → Prop}  (hC : zv_C G X M_X11_node) (hR : zv_R G X M_X11_node (zv_qi Q))  {x1 : Int32} {x2 : Int32} {x3 : Int32} {y0 : Int32} {σ : zv_St} (h : B_X11_node_45 Q  x1 x2 x3 y0 σ) : zv_V G X M_X11_node 45 [(0, .ref (G.2.2.1 45)), (1, .int x1), (2, .int x2), (3, .int x3)] [.int y0] σ := by
  unfold B_X11_node_45 at h
  refine zv_istore hC dX11_node_45 (by decide) ?_
  refine zv_aload_n hC dX11_node_47 rfl ?_
  refine zv_iload_n hC dX11_node_48 rfl ?_
  refine zv_iload_n hC dX11_node_49 rfl ?_
  refine zv_bipush (v := 7) hC dX11_node_50 (by decide) ?_
  refine zv_icmp_ne (tgt := 59) hC dX11_node_52 (by decide) (fun c => ?_) (fun c => ?_)
  · replace h := h.1 c
    refine zv_iload_n hC dX11_node_59 rfl ?_
    exact zv_go (k_X11_node_60 hC hR  h) ⟨rfl, rfl, rfl, trivial⟩
  · replace h := h.2 c
    refine zv_iconst (v := 0) hC dX11_node_55 (by decide) ?_
    refine zv_goto (tgt := 60) hC dX11_node_56 (by decide) ?_
    exact zv_go (k_X11_node_60 hC hR  h) ⟨rfl, rfl, rfl, trivial⟩
def B_X11_node_40 (Q : Int32 → zv_St → Prop) (x1 : Int32) (x2 : Int32) (x3 : Int32) (σ : zv_St) : Prop :=
  B_X11_node_45 Q x1 x2 x3 1 σ
set_option maxRecDepth 20000 in
set_option maxHeartbeats 2000000 in
theorem k_X11_node_40 {G : zv_G} {X : zv_X} {Q : Int32 → zv_St → Prop}  (hC : zv_C G X M_X11_node) (hR : zv_R G X M_X11_node (zv_qi Q))  {x1 : Int32} {x2 : Int32} {x3 : Int32} {σ : zv_St} (h : B_X11_node_40 Q  x1 x2 x3 σ) : zv_V G X M_X11_node 40 [(0, .ref (G.2.2.1 45)), (1, .int x1), (2, .int x2), (3, .int x3)] [] σ := by
  unfold B_X11_node_40 at h
  refine zv_iconst (v := 1) hC dX11_node_40 (by decide) ?_
  refine zv_goto (tgt := 45) hC dX11_node_41 (by decide) ?_
  exact zv_go (k_X11_node_45 hC hR  h) ⟨rfl, rfl, rfl, rfl, trivial⟩
def B_X11_node (Q : Int32 → zv_St → Prop) (x1 : Int32) (x2 : Int32) (x3 : Int32) (σ : zv_St) : Prop :=
  B_X11_isToldSo (fun r_2 σ_1 => (¬ r_2 = 0 → ((¬ (σ_1.1 45 2) = 80 → ((x1 = 1 → (B_X11_node_40 Q x1 x2 x3 σ_1)) ∧ (¬ x1 = 1 → ((x1 = 4 → (B_X11_node_40 Q x1 x2 x3 σ_1)) ∧ (¬ x1 = 4 → ((¬ x1 = 5 → (B_X11_node_45 Q x1 x2 x3 0 σ_1)) ∧ (x1 = 5 → (B_X11_node_40 Q x1 x2 x3 σ_1)))))))) ∧ ((σ_1.1 45 2) = 80 → (Q (-3) σ_1)))) ∧ (r_2 = 0 → (Q (-2) σ_1))) x1 x2 x3 σ
set_option maxRecDepth 20000 in
set_option maxHeartbeats 2000000 in
theorem k_X11_node_0 {G : zv_G} {X : zv_X} {Q : Int32 → zv_St → Prop}  (hC : zv_C G X M_X11_node) (hR : zv_R G X M_X11_node (zv_qi Q))  {x1 : Int32} {x2 : Int32} {x3 : Int32} {σ : zv_St} (h : B_X11_node Q  x1 x2 x3 σ) : zv_V G X M_X11_node 0 [(0, .ref (G.2.2.1 45)), (1, .int x1), (2, .int x2), (3, .int x3)] [] σ := by
  unfold B_X11_node at h
  refine zv_aload_n hC dX11_node_0 rfl ?_
  refine zv_iload_n hC dX11_node_1 rfl ?_
  refine zv_iload_n hC dX11_node_2 rfl ?_
  refine zv_iload_n hC dX11_node_3 rfl ?_
  refine zv_callVi (As := [_, _, _]) hC dX11_node_4 Y_X11_isToldSo lk_X11_127 (by decide) rfl rfl rfl (Nat.le_of_ble_eq_true rfl) (ok_X11_isToldSo G h) ?_
  intro r_2 σ_1 h
  refine zv_if_ne (tgt := 13) hC dX11_node_7 (by decide) (fun c => ?_) (fun c => ?_)
  · replace h := h.1 c
    refine zv_aload_n hC dX11_node_13 rfl ?_
    refine zv_getI hC fl_X11_107 dX11_node_14 rfl rfl ?_
    refine zv_bipush (v := 80) hC dX11_node_17 (by decide) ?_
    refine zv_icmp_ne (tgt := 25) hC dX11_node_19 (by decide) (fun c => ?_) (fun c => ?_)
    · replace h := h.1 c
      refine zv_iload_n hC dX11_node_25 rfl ?_
      refine zv_iconst (v := 1) hC dX11_node_26 (by decide) ?_
      refine zv_icmp_eq (tgt := 40) hC dX11_node_27 (by decide) (fun c => ?_) (fun c => ?_)
      · replace h := h.1 c
        exact zv_go (k_X11_node_40 hC hR  h) ⟨rfl, rfl, rfl, rfl, trivial⟩
      · replace h := h.2 c
        refine zv_iload_n hC dX11_node_30 rfl ?_
        refine zv_iconst (v := 4) hC dX11_node_31 (by decide) ?_
        refine zv_icmp_eq (tgt := 40) hC dX11_node_32 (by decide) (fun c => ?_) (fun c => ?_)
        · replace h := h.1 c
          exact zv_go (k_X11_node_40 hC hR  h) ⟨rfl, rfl, rfl, rfl, trivial⟩
        · replace h := h.2 c
          refine zv_iload_n hC dX11_node_35 rfl ?_
          refine zv_iconst (v := 5) hC dX11_node_36 (by decide) ?_
          refine zv_icmp_ne (tgt := 44) hC dX11_node_37 (by decide) (fun c => ?_) (fun c => ?_)
          · replace h := h.1 c
            refine zv_iconst (v := 0) hC dX11_node_44 (by decide) ?_
            exact zv_go (k_X11_node_45 hC hR  h) ⟨rfl, rfl, rfl, rfl, trivial⟩
          · replace h := h.2 c
            exact zv_go (k_X11_node_40 hC hR  h) ⟨rfl, rfl, rfl, rfl, trivial⟩
    · replace h := h.2 c
      refine zv_bipush (v := (-3)) hC dX11_node_22 (by decide) ?_
      exact (hR _ _ _).1 _ rfl dX11_node_24 ⟨_, rfl, h⟩
  · replace h := h.2 c
    refine zv_bipush (v := (-2)) hC dX11_node_10 (by decide) ?_
    exact (hR _ _ _).1 _ rfl dX11_node_12 ⟨_, rfl, h⟩
theorem ok_X11_node (G : zv_G) {Q : Int32 → zv_St → Prop} {x1 : Int32} {x2 : Int32} {x3 : Int32} {σ : zv_St} (h : B_X11_node Q x1 x2 x3 σ) : zv_OK G M_X11_node yX11_node [.ref (G.2.2.1 45), .int x1, .int x2, .int x3] σ (zv_qi Q) := zv_ok G _ _ _ _ _ (by decide +kernel) rfl (Nat.le_of_ble_eq_true rfl) (fun X hC hR => zv_go (k_X11_node_0 hC hR h) ⟨rfl, rfl, rfl, rfl, trivial⟩)
