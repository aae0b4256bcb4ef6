-- X11_opens
def B_X11_opens_34 (Q : Int32 → zv_St → Prop) (σ : zv_St) : Prop :=
  Q 0 σ
set_option maxRecDepth 20000 in
set_option maxHeartbeats 2000000 in
theorem k_X11_opens_34 {G : zv_G} {X : zv_X} {Q : Int32 → zv_St → Prop}  (hC : zv_C G X M_X11_opens) (hR : zv_R G X M_X11_opens (zv_qi Q))   {σ : zv_St} (h : B_X11_opens_34 Q   σ) : zv_V G X M_X11_opens 34 [] [] σ := by
  unfold B_X11_opens_34 at h
  refine zv_iconst (v := 0) hC dX11_opens_34 (by decide) ?_
  exact (hR _ _ _).2.1 _ rfl rfl dX11_opens_35 ⟨_, rfl, h⟩
def B_X11_opens_143 (Q : Int32 → zv_St → Prop) (y0 : Int32) (σ : zv_St) : Prop :=
  narrow .boolean (.int y0) = .int y0 ∧ Q y0 σ
set_option maxRecDepth 20000 in
set_option maxHeartbeats 2000000 in
theorem k_X11_opens_143 {G : zv_G} {X : zv_X} {Q : Int32 → zv_St → Prop}  (hC : zv_C G X M_X11_opens) (hR : zv_R G X M_X11_opens (zv_qi Q))  {y0 : Int32} {σ : zv_St} (h : B_X11_opens_143 Q  y0 σ) : zv_V G X M_X11_opens 143 [] [.int y0] σ := by
  unfold B_X11_opens_143 at h
  exact (hR _ _ _).2.1 _ rfl h.1 dX11_opens_143 ⟨_, rfl, h.2⟩
def B_X11_opens_120 (Q : Int32 → zv_St → Prop) (σ : zv_St) : Prop :=
  B_X11_opens_143 Q 0 σ
set_option maxRecDepth 20000 in
set_option maxHeartbeats 2000000 in
theorem k_X11_opens_120 {G : zv_G} {X : zv_X} {Q : Int32 → zv_St → Prop}  (hC : zv_C G X M_X11_opens) (hR : zv_R G X M_X11_opens (zv_qi Q))   {σ : zv_St} (h : B_X11_opens_120 Q   σ) : zv_V G X M_X11_opens 120 [] [] σ := by
  unfold B_X11_opens_120 at h
  refine zv_iconst (v := 0) hC dX11_opens_120 (by decide) ?_
  refine zv_goto (tgt := 143) hC dX11_opens_121 (by decide) ?_
  exact zv_go (k_X11_opens_143 hC hR  h) trivial
def B_X11_opens_142 (Q : Int32 → zv_St → Prop) (σ : zv_St) : Prop :=
  B_X11_opens_143 Q 0 σ
set_option maxRecDepth 20000 in
set_option maxHeartbeats 2000000 in
theorem k_X11_opens_142 {G : zv_G} {X : zv_X} {Q : Int32 → zv_St → Prop}  (hC : zv_C G X M_X11_opens) (hR : zv_R G X M_X11_opens (zv_qi Q))   {σ : zv_St} (h : B_X11_opens_142 Q   σ) : zv_V G X M_X11_opens 142 [] [] σ := by
  unfold B_X11_opens_142 at h
  refine zv_iconst (v := 0) hC dX11_opens_142 (by decide) ?_
  exact zv_go (k_X11_opens_143 hC hR  h) trivial
def B_X11_opens_76 (Q : Int32 → zv_St → Prop) (kk42 : Int32 → Int32 → Int32 → Int32 → Int32 → zv_St → Prop) (x1 : Int32) (x2 : Int32) (x3 : Int32) (x6 : Int32) (y0 : Int32) (y1 : Int32) (σ : zv_St) : Prop :=
  kk42 x1 x2 x3 (y0 + y1) (x6 + 1) σ
set_option maxRecDepth 20000 in
set_option maxHeartbeats 2000000 in
theorem k_X11_opens_76 {G : zv_G} {X : zv_X} {Q : Int32 → zv_St → Prop} {kk42 : Int32 → Int32 → Int32 → Int32 → Int32 → zv_St → Prop} (hC : zv_C G X M_X11_opens) (hR : zv_R G X M_X11_opens (zv_qi Q)) (hk42 : ∀ (x1 : Int32) (x2 : Int32) (x3 : Int32) (x5 : Int32) (x6 : Int32) (σ : zv_St), kk42 x1 x2 x3 x5 x6 σ → zv_V G X M_X11_opens 42 [(0, .ref (G.2.2.1 45)), (1, .int x1), (2, .int x2), (3, .int x3), (5, .int x5), (6, .int x6)] [] σ) {x1 : Int32} {x2 : Int32} {x3 : Int32} {x6 : Int32} {y0 : Int32} {y1 : Int32} {σ : zv_St} (h : B_X11_opens_76 Q kk42 x1 x2 x3 x6 y0 y1 σ) : zv_V G X M_X11_opens 76 [(0, .ref (G.2.2.1 45)), (1, .int x1), (2, .int x2), (3, .int x3), (6, .int x6)] [.int y1, .int y0] σ := by
  unfold B_X11_opens_76 at h
  refine zv_iadd hC dX11_opens_76 ?_
  refine zv_istore hC dX11_opens_77 (by decide) ?_
  refine zv_iinc (v := 1) hC dX11_opens_79 rfl (by decide) (by decide) ?_
  refine zv_goto (tgt := 42) hC dX11_opens_82 (by decide) ?_
  exact zv_go (hk42 _ _ _ _ _ _ h) ⟨rfl, rfl, rfl, rfl, rfl, rfl, trivial⟩
def L_X11_opens_42 (Q : Int32 → zv_St → Prop) : Nat → (Int32 → Int32 → Int32 → Int32 → Int32 → zv_St → Prop)
  | 0 => fun _ _ _ _ _ _ => False
  | u + 1 => fun x1 x2 x3 x5 x6 σ => 
    vp_in x3 80 ∧ ((σ.1 51 x3.toNatClampNeg) ≤ x6 → ((¬ x2 = 3 → (vp_in x3 80 ∧ (¬ (σ.1 49 x3.toNatClampNeg) = 0 → (B_X11_opens_142 Q σ)) ∧ ((σ.1 49 x3.toNatClampNeg) = 0 → ((¬ x5 = 0 → (B_X11_opens_142 Q σ)) ∧ (x5 = 0 → (B_X11_opens_143 Q 1 σ)))))) ∧ (x2 = 3 → ((2 ≤ x1 → (B_X11_opens_120 Q σ)) ∧ (¬ 2 ≤ x1 → (vp_in x3 80 ∧ (2 ≤ (σ.1 49 x3.toNatClampNeg) → (B_X11_opens_120 Q σ)) ∧ (¬ 2 ≤ (σ.1 49 x3.toNatClampNeg) → (vp_in x3 80 ∧ (¬ x5 = (σ.1 51 x3.toNatClampNeg) → (B_X11_opens_120 Q σ)) ∧ (x5 = (σ.1 51 x3.toNatClampNeg) → (B_X11_opens_143 Q 1 σ)))))))))) ∧ (¬ (σ.1 51 x3.toNatClampNeg) ≤ x6 → (vp_in ((8 * x3) + x6) 640 ∧ (¬ (σ.1 52 ((8 * x3) + x6).toNatClampNeg) = 3 → (B_X11_opens_76 Q (L_X11_opens_42 Q u) x1 x2 x3 x6 x5 0 σ)) ∧ ((σ.1 52 ((8 * x3) + x6).toNatClampNeg) = 3 → (B_X11_opens_76 Q (L_X11_opens_42 Q u) x1 x2 x3 x6 x5 1 σ))))
set_option maxRecDepth 20000 in
set_option maxHeartbeats 2000000 in
theorem kL_X11_opens_42 {G : zv_G} {X : zv_X} {Q : Int32 → zv_St → Prop}  (hC : zv_C G X M_X11_opens) (hR : zv_R G X M_X11_opens (zv_qi Q))  : ∀ (n : Nat) (x1 : Int32) (x2 : Int32) (x3 : Int32) (x5 : Int32) (x6 : Int32) (σ : zv_St), L_X11_opens_42 Q  n x1 x2 x3 x5 x6 σ → zv_V G X M_X11_opens 42 [(0, .ref (G.2.2.1 45)), (1, .int x1), (2, .int x2), (3, .int x3), (5, .int x5), (6, .int x6)] [] σ := by
  intro n
  induction n with
  | zero => intro x1 x2 x3 x5 x6 σ h; exact h.elim
  | succ n hk42 =>
    intro x1 x2 x3 x5 x6 σ h
    unfold L_X11_opens_42 at h
    refine zv_iload hC dX11_opens_42 rfl ?_
    refine zv_aload_n hC dX11_opens_44 rfl ?_
    refine zv_getR (j := 51) hC fl_X11_25 dX11_opens_45 rfl rfl ?_
    refine zv_iload_n hC dX11_opens_48 rfl ?_
    refine zv_iald hC dX11_opens_49 rfl h.1 ?_
    replace h := h.2
    refine zv_icmp_ge (tgt := 85) hC dX11_opens_50 (by decide) (fun c => ?_) (fun c => ?_)
    · replace h := h.1 c
      refine zv_iload_n hC dX11_opens_85 rfl ?_
      refine zv_iconst (v := 3) hC dX11_opens_86 (by decide) ?_
      refine zv_icmp_ne (tgt := 124) hC dX11_opens_87 (by decide) (fun c => ?_) (fun c => ?_)
      · replace h := h.1 c
        refine zv_aload_n hC dX11_opens_124 rfl ?_
        refine zv_getR (j := 49) hC fl_X11_19 dX11_opens_125 rfl rfl ?_
        refine zv_iload_n hC dX11_opens_128 rfl ?_
        refine zv_iald hC dX11_opens_129 rfl h.1 ?_
        replace h := h.2
        refine zv_if_ne (tgt := 142) hC dX11_opens_130 (by decide) (fun c => ?_) (fun c => ?_)
        · replace h := h.1 c
          exact zv_go (k_X11_opens_142 hC hR  h) trivial
        · replace h := h.2 c
          refine zv_iload hC dX11_opens_133 rfl ?_
          refine zv_if_ne (tgt := 142) hC dX11_opens_135 (by decide) (fun c => ?_) (fun c => ?_)
          · replace h := h.1 c
            exact zv_go (k_X11_opens_142 hC hR  h) trivial
          · replace h := h.2 c
            refine zv_iconst (v := 1) hC dX11_opens_138 (by decide) ?_
            refine zv_goto (tgt := 143) hC dX11_opens_139 (by decide) ?_
            exact zv_go (k_X11_opens_143 hC hR  h) trivial
      · replace h := h.2 c
        refine zv_iload_n hC dX11_opens_90 rfl ?_
        refine zv_iconst (v := 2) hC dX11_opens_91 (by decide) ?_
        refine zv_icmp_ge (tgt := 120) hC dX11_opens_92 (by decide) (fun c => ?_) (fun c => ?_)
        · replace h := h.1 c
          exact zv_go (k_X11_opens_120 hC hR  h) trivial
        · replace h := h.2 c
          refine zv_aload_n hC dX11_opens_95 rfl ?_
          refine zv_getR (j := 49) hC fl_X11_19 dX11_opens_96 rfl rfl ?_
          refine zv_iload_n hC dX11_opens_99 rfl ?_
          refine zv_iald hC dX11_opens_100 rfl h.1 ?_
          replace h := h.2
          refine zv_iconst (v := 2) hC dX11_opens_101 (by decide) ?_
          refine zv_icmp_ge (tgt := 120) hC dX11_opens_102 (by decide) (fun c => ?_) (fun c => ?_)
          · replace h := h.1 c
            exact zv_go (k_X11_opens_120 hC hR  h) trivial
          · replace h := h.2 c
            refine zv_iload hC dX11_opens_105 rfl ?_
            refine zv_aload_n hC dX11_opens_107 rfl ?_
            refine zv_getR (j := 51) hC fl_X11_25 dX11_opens_108 rfl rfl ?_
            refine zv_iload_n hC dX11_opens_111 rfl ?_
            refine zv_iald hC dX11_opens_112 rfl h.1 ?_
            replace h := h.2
            refine zv_icmp_ne (tgt := 120) hC dX11_opens_113 (by decide) (fun c => ?_) (fun c => ?_)
            · replace h := h.1 c
              exact zv_go (k_X11_opens_120 hC hR  h) trivial
            · replace h := h.2 c
              refine zv_iconst (v := 1) hC dX11_opens_116 (by decide) ?_
              refine zv_goto (tgt := 143) hC dX11_opens_117 (by decide) ?_
              exact zv_go (k_X11_opens_143 hC hR  h) trivial
    · replace h := h.2 c
      refine zv_iload hC dX11_opens_53 rfl ?_
      refine zv_aload_n hC dX11_opens_55 rfl ?_
      refine zv_getR (j := 52) hC fl_X11_28 dX11_opens_56 rfl rfl ?_
      refine zv_bipush (v := 8) hC dX11_opens_59 (by decide) ?_
      refine zv_iload_n hC dX11_opens_61 rfl ?_
      refine zv_imul hC dX11_opens_62 ?_
      refine zv_iload hC dX11_opens_63 rfl ?_
      refine zv_iadd hC dX11_opens_65 ?_
      refine zv_iald hC dX11_opens_66 rfl h.1 ?_
      replace h := h.2
      refine zv_iconst (v := 3) hC dX11_opens_67 (by decide) ?_
      refine zv_icmp_ne (tgt := 75) hC dX11_opens_68 (by decide) (fun c => ?_) (fun c => ?_)
      · replace h := h.1 c
        refine zv_iconst (v := 0) hC dX11_opens_75 (by decide) ?_
        exact zv_go (k_X11_opens_76 hC hR hk42 h) ⟨rfl, rfl, rfl, rfl, rfl, trivial⟩
      · replace h := h.2 c
        refine zv_iconst (v := 1) hC dX11_opens_71 (by decide) ?_
        refine zv_goto (tgt := 76) hC dX11_opens_72 (by decide) ?_
        exact zv_go (k_X11_opens_76 hC hR hk42 h) ⟨rfl, rfl, rfl, rfl, rfl, trivial⟩
def B_X11_opens (Q : Int32 → zv_St → Prop) (x1 : Int32) (x2 : Int32) (x3 : Int32) (x4 : Int32) (σ : zv_St) : Prop :=
  vp_in x3 80 ∧ (¬ (σ.1 48 x3.toNatClampNeg) = 2 → (B_X11_opens_34 Q σ)) ∧ ((σ.1 48 x3.toNatClampNeg) = 2 → ((x2 = 2 → (B_X11_opens_34 Q σ)) ∧ (¬ x2 = 2 → (vp_in x3 80 ∧ ((((σ.1 45 34) + (σ.1 51 x3.toNatClampNeg)) + x4) ≤ 8 → (∃ n42, L_X11_opens_42 Q n42 x1 x2 x3 0 0 σ)) ∧ (¬ (((σ.1 45 34) + (σ.1 51 x3.toNatClampNeg)) + x4) ≤ 8 → (B_X11_opens_34 Q σ))))))
set_option maxRecDepth 20000 in
set_option maxHeartbeats 2000000 in
theorem k_X11_opens_0 {G : zv_G} {X : zv_X} {Q : Int32 → zv_St → Prop}  (hC : zv_C G X M_X11_opens) (hR : zv_R G X M_X11_opens (zv_qi Q))  {x1 : Int32} {x2 : Int32} {x3 : Int32} {x4 : Int32} {σ : zv_St} (h : B_X11_opens Q  x1 x2 x3 x4 σ) : zv_V G X M_X11_opens 0 [(0, .ref (G.2.2.1 45)), (1, .int x1), (2, .int x2), (3, .int x3), (4, .int x4)] [] σ := by
  unfold B_X11_opens at h
  refine zv_aload_n hC dX11_opens_0 rfl ?_
  refine zv_getR (j := 48) hC fl_X11_16 dX11_opens_1 rfl rfl ?_
  refine zv_iload_n hC dX11_opens_4 rfl ?_
  refine zv_iald hC dX11_opens_5 rfl h.1 ?_
  replace h := h.2
  refine zv_iconst (v := 2) hC dX11_opens_6 (by decide) ?_
  refine zv_icmp_ne (tgt := 34) hC dX11_opens_7 (by decide) (fun c => ?_) (fun c => ?_)
  · replace h := h.1 c
    exact zv_go (k_X11_opens_34 hC hR  h) trivial
  · replace h := h.2 c
    refine zv_iload_n hC dX11_opens_10 rfl ?_
    refine zv_iconst (v := 2) hC dX11_opens_11 (by decide) ?_
    refine zv_icmp_eq (tgt := 34) hC dX11_opens_12 (by decide) (fun c => ?_) (fun c => ?_)
    · replace h := h.1 c
      exact zv_go (k_X11_opens_34 hC hR  h) trivial
    · replace h := h.2 c
      refine zv_aload_n hC dX11_opens_15 rfl ?_
      refine zv_getI hC fl_X11_199 dX11_opens_16 rfl rfl ?_
      refine zv_aload_n hC dX11_opens_19 rfl ?_
      refine zv_getR (j := 51) hC fl_X11_25 dX11_opens_20 rfl rfl ?_
      refine zv_iload_n hC dX11_opens_23 rfl ?_
      refine zv_iald hC dX11_opens_24 rfl h.1 ?_
      replace h := h.2
      refine zv_iadd hC dX11_opens_25 ?_
      refine zv_iload hC dX11_opens_26 rfl ?_
      refine zv_iadd hC dX11_opens_28 ?_
      refine zv_bipush (v := 8) hC dX11_opens_29 (by decide) ?_
      refine zv_icmp_le (tgt := 36) hC dX11_opens_31 (by decide) (fun c => ?_) (fun c => ?_)
      · replace h := h.1 c
        refine zv_iconst (v := 0) hC dX11_opens_36 (by decide) ?_
        refine zv_istore hC dX11_opens_37 (by decide) ?_
        refine zv_iconst (v := 0) hC dX11_opens_39 (by decide) ?_
        refine zv_istore hC dX11_opens_40 (by decide) ?_
        obtain ⟨n, h⟩ := h
        exact zv_go (kL_X11_opens_42 hC hR  n _ _ _ _ _ _ h) ⟨rfl, rfl, rfl, rfl, rfl, rfl, trivial⟩
      · replace h := h.2 c
        exact zv_go (k_X11_opens_34 hC hR  h) trivial
theorem ok_X11_opens (G : zv_G) {Q : Int32 → zv_St → Prop} {x1 : Int32} {x2 : Int32} {x3 : Int32} {x4 : Int32} {σ : zv_St} (h : B_X11_opens Q x1 x2 x3 x4 σ) : zv_OK G M_X11_opens yX11_opens [.ref (G.2.2.1 45), .int x1, .int x2, .int x3, .int x4] σ (zv_qi Q) := zv_ok G _ _ _ _ _ (by decide +kernel) rfl (Nat.le_of_ble_eq_true rfl) (fun X hC hR => zv_go (k_X11_opens_0 hC hR h) ⟨rfl, rfl, rfl, rfl, rfl, trivial⟩)
-- X11_lay
def B_X11_lay (Q : zv_St → Prop) (x1 : Int32) (x2 : Int32) (σ : zv_St) : Prop :=
  vp_in (σ.1 45 34) 80 ∧ ∀ σ_1 : zv_St, σ_1 = zv_wi σ 73 (σ.1 45 34).toNatClampNeg x1 → vp_in (σ_1.1 45 34) 80 ∧ ∀ σ_2 : zv_St, σ_2 = zv_wi σ_1 74 (σ_1.1 45 34).toNatClampNeg x2 → ∀ σ_3 : zv_St, σ_3 = zv_wi σ_2 45 34 ((σ_2.1 45 34) + 1) → Q σ_3
set_option maxRecDepth 20000 in
set_option maxHeartbeats 2000000 in
theorem k_X11_lay_0 {G : zv_G} {X : zv_X} {Q : zv_St → Prop}  (hC : zv_C G X M_X11_lay) (hR : zv_R G X M_X11_lay (zv_qv Q))  {x1 : Int32} {x2 : Int32} {σ : zv_St} (h : B_X11_lay Q  x1 x2 σ) : zv_V G X M_X11_lay 0 [(0, .ref (G.2.2.1 45)), (1, .int x1), (2, .int x2)] [] σ := by
  unfold B_X11_lay at h
  refine zv_aload_n hC dX11_lay_0 rfl ?_
  refine zv_getR (j := 73) hC fl_X11_94 dX11_lay_1 rfl rfl ?_
  refine zv_aload_n hC dX11_lay_4 rfl ?_
  refine zv_getI hC fl_X11_199 dX11_lay_5 rfl rfl ?_
  refine zv_iload_n hC dX11_lay_8 rfl ?_
  refine zv_iast hC dX11_lay_9 rfl h.1 ?_
  replace h := h.2 _ rfl
  refine zv_aload_n hC dX11_lay_10 rfl ?_
  refine zv_getR (j := 74) hC fl_X11_97 dX11_lay_11 rfl rfl ?_
  refine zv_aload_n hC dX11_lay_14 rfl ?_
  refine zv_getI hC fl_X11_199 dX11_lay_15 rfl rfl ?_
  refine zv_iload_n hC dX11_lay_18 rfl ?_
  refine zv_iast hC dX11_lay_19 rfl h.1 ?_
  replace h := h.2 _ rfl
  refine zv_aload_n hC dX11_lay_20 rfl ?_
  refine zv_dup hC dX11_lay_21 rfl ?_
  refine zv_getI hC fl_X11_199 dX11_lay_22 rfl rfl ?_
  refine zv_iconst (v := 1) hC dX11_lay_25 (by decide) ?_
  refine zv_iadd hC dX11_lay_26 ?_
  refine zv_putI hC fp_X11_199 dX11_lay_27 rfl rfl rfl rfl ?_
  replace h := h _ rfl
  exact (hR _ _ _).2.2.2.1 rfl dX11_lay_30 ⟨rfl, h⟩
theorem ok_X11_lay (G : zv_G) {Q : zv_St → Prop} {x1 : Int32} {x2 : Int32} {σ : zv_St} (h : B_X11_lay Q x1 x2 σ) : zv_OK G M_X11_lay yX11_lay [.ref (G.2.2.1 45), .int x1, .int x2] σ (zv_qv Q) := zv_ok G _ _ _ _ _ (by decide +kernel) rfl (Nat.le_of_ble_eq_true rfl) (fun X hC hR => zv_go (k_X11_lay_0 hC hR h) ⟨rfl, rfl, rfl, trivial⟩)
-- X11_count
def B_X11_count_28 (Q : Int32 → zv_St → Prop) (kk4 : Int32 → Int32 → Int32 → zv_St → Prop) (x1 : Int32) (x3 : Int32) (y0 : Int32) (y1 : Int32) (σ : zv_St) : Prop :=
  kk4 x1 (y0 + y1) (x3 + 1) σ
set_option maxRecDepth 20000 in
set_option maxHeartbeats 2000000 in
theorem k_X11_count_28 {G : zv_G} {X : zv_X} {Q : Int32 → zv_St → Prop} {kk4 : Int32 → Int32 → Int32 → zv_St → Prop} (hC : zv_C G X M_X11_count) (hR : zv_R G X M_X11_count (zv_qi Q)) (hk4 : ∀ (x1 : Int32) (x2 : Int32) (x3 : Int32) (σ : zv_St), kk4 x1 x2 x3 σ → zv_V G X M_X11_count 4 [(0, .ref (G.2.2.1 45)), (1, .int x1), (2, .int x2), (3, .int x3)] [] σ) {x1 : Int32} {x3 : Int32} {y0 : Int32} {y1 : Int32} {σ : zv_St} (h : B_X11_count_28 Q kk4 x1 x3 y0 y1 σ) : zv_V G X M_X11_count 28 [(0, .ref (G.2.2.1 45)), (1, .int x1), (3, .int x3)] [.int y1, .int y0] σ := by
  unfold B_X11_count_28 at h
  refine zv_iadd hC dX11_count_28 ?_
  refine zv_istore_n hC dX11_count_29 (by decide) ?_
  refine zv_iinc (v := 1) hC dX11_count_30 rfl (by decide) (by decide) ?_
  refine zv_goto (tgt := 4) hC dX11_count_33 (by decide) ?_
  exact zv_go (hk4 _ _ _ _ h) ⟨rfl, rfl, rfl, rfl, trivial⟩
def L_X11_count_4 (Q : Int32 → zv_St → Prop) : Nat → (Int32 → Int32 → Int32 → zv_St → Prop)
  | 0 => fun _ _ _ _ => False
  | u + 1 => fun x1 x2 x3 σ => 
    ((σ.1 45 34) ≤ x3 → (Q x2 σ)) ∧ (¬ (σ.1 45 34) ≤ x3 → (vp_in x3 80 ∧ (¬ (σ.1 73 x3.toNatClampNeg) = x1 → (B_X11_count_28 Q (L_X11_count_4 Q u) x1 x3 x2 0 σ)) ∧ ((σ.1 73 x3.toNatClampNeg) = x1 → (B_X11_count_28 Q (L_X11_count_4 Q u) x1 x3 x2 1 σ))))
set_option maxRecDepth 20000 in
set_option maxHeartbeats 2000000 in
theorem kL_X11_count_4 {G : zv_G} {X : zv_X} {Q : Int32 → zv_St → Prop}  (hC : zv_C G X M_X11_count) (hR : zv_R G X M_X11_count (zv_qi Q))  : ∀ (n : Nat) (x1 : Int32) (x2 : Int32) (x3 : Int32) (σ : zv_St), L_X11_count_4 Q  n x1 x2 x3 σ → zv_V G X M_X11_count 4 [(0, .ref (G.2.2.1 45)), (1, .int x1), (2, .int x2), (3, .int x3)] [] σ := by
  intro n
  induction n with
  | zero => intro x1 x2 x3 σ h; exact h.elim
  | succ n hk4 =>
    intro x1 x2 x3 σ h
    unfold L_X11_count_4 at h
    refine zv_iload_n hC dX11_count_4 rfl ?_
    refine zv_aload_n hC dX11_count_5 rfl ?_
    refine zv_getI hC fl_X11_199 dX11_count_6 rfl rfl ?_
    refine zv_icmp_ge (tgt := 36) hC dX11_count_9 (by decide) (fun c => ?_) (fun c => ?_)
    · replace h := h.1 c
      refine zv_iload_n hC dX11_count_36 rfl ?_
      exact (hR _ _ _).1 _ rfl dX11_count_37 ⟨_, rfl, h⟩
    · replace h := h.2 c
      refine zv_iload_n hC dX11_count_12 rfl ?_
      refine zv_aload_n hC dX11_count_13 rfl ?_
      refine zv_getR (j := 73) hC fl_X11_94 dX11_count_14 rfl rfl ?_
      refine zv_iload_n hC dX11_count_17 rfl ?_
      refine zv_iald hC dX11_count_18 rfl h.1 ?_
      replace h := h.2
      refine zv_iload_n hC dX11_count_19 rfl ?_
      refine zv_icmp_ne (tgt := 27) hC dX11_count_20 (by decide) (fun c => ?_) (fun c => ?_)
      · replace h := h.1 c
        refine zv_iconst (v := 0) hC dX11_count_27 (by decide) ?_
        exact zv_go (k_X11_count_28 hC hR hk4 h) ⟨rfl, rfl, rfl, trivial⟩
      · replace h := h.2 c
        refine zv_iconst (v := 1) hC dX11_count_23 (by decide) ?_
        refine zv_goto (tgt := 28) hC dX11_count_24 (by decide) ?_
        exact zv_go (k_X11_count_28 hC hR hk4 h) ⟨rfl, rfl, rfl, trivial⟩
def B_X11_count (Q : Int32 → zv_St → Prop) (x1 : Int32) (σ : zv_St) : Prop :=
  ∃ n4, L_X11_count_4 Q n4 x1 0 0 σ
set_option maxRecDepth 20000 in
set_option maxHeartbeats 2000000 in
theorem k_X11_count_0 {G : zv_G} {X : zv_X} {Q : Int32 → zv_St → Prop}  (hC : zv_C G X M_X11_count) (hR : zv_R G X M_X11_count (zv_qi Q))  {x1 : Int32} {σ : zv_St} (h : B_X11_count Q  x1 σ) : zv_V G X M_X11_count 0 [(0, .ref (G.2.2.1 45)), (1, .int x1)] [] σ := by
  unfold B_X11_count at h
  refine zv_iconst (v := 0) hC dX11_count_0 (by decide) ?_
  refine zv_istore_n hC dX11_count_1 (by decide) ?_
  refine zv_iconst (v := 0) hC dX11_count_2 (by decide) ?_
  refine zv_istore_n hC dX11_count_3 (by decide) ?_
  obtain ⟨n, h⟩ := h
  exact zv_go (kL_X11_count_4 hC hR  n _ _ _ _ h) ⟨rfl, rfl, rfl, rfl, trivial⟩
theorem ok_X11_count (G : zv_G) {Q : Int32 → zv_St → Prop} {x1 : Int32} {σ : zv_St} (h : B_X11_count Q x1 σ) : zv_OK G M_X11_count yX11_count [.ref (G.2.2.1 45), .int x1] σ (zv_qi Q) := zv_ok G _ _ _ _ _ (by decide +kernel) rfl (Nat.le_of_ble_eq_true rfl) (fun X hC hR => zv_go (k_X11_count_0 hC hR h) ⟨rfl, rfl, trivial⟩)
-- X11_thin
def B_X11_thin_272 (Q : Int32 → zv_St → Prop) (kk227 : Int32 → Int32 → Int32 → Int32 → zv_St → Prop) (x1 : Int32) (x2 : Int32) (x3 : Int32) (x4 : Int32) (σ : zv_St) : Prop :=
  kk227 x1 x2 x3 (x4 + 1) σ
set_option maxRecDepth 20000 in
set_option maxHeartbeats 2000000 in
theorem k_X11_thin_272 {G : zv_G} {X : zv_X} {Q : Int32 → zv_St → Prop} {kk227 : Int32 → Int32 → Int32 → Int32 → zv_St → Prop} (hC : zv_C G X M_X11_thin) (hR : zv_R G X M_X11_thin (zv_qi Q)) (hk227 : ∀ (x1 : Int32) (x2 : Int32) (x3 : Int32) (x4 : Int32) (σ : zv_St), kk227 x1 x2 x3 x4 σ → zv_V G X M_X11_thin 227 [(0, .ref (G.2.2.1 45)), (1, .int x1), (2, .int x2), (3, .int x3), (4, .int x4)] [] σ) {x1 : Int32} {x2 : Int32} {x3 : Int32} {x4 : Int32} {σ : zv_St} (h : B_X11_thin_272 Q kk227 x1 x2 x3 x4 σ) : zv_V G X M_X11_thin 272 [(0, .ref (G.2.2.1 45)), (1, .int x1), (2, .int x2), (3, .int x3), (4, .int x4)] [] σ := by
  unfold B_X11_thin_272 at h
  refine zv_iinc (v := 1) hC dX11_thin_272 rfl (by decide) (by decide) ?_
  refine zv_goto (tgt := 227) hC dX11_thin_275 (by decide) ?_
  exact zv_go (hk227 _ _ _ _ _ h) ⟨rfl, rfl, rfl, rfl, rfl, trivial⟩
def L_X11_thin_227 (Q : Int32 → zv_St → Prop) : Nat → (Int32 → Int32 → Int32 → Int32 → zv_St → Prop)
  | 0 => fun _ _ _ _ _ => False
  | u + 1 => fun x1 x2 x3 x4 σ => 
    (x3 ≤ x4 → (∀ σ_1 : zv_St, σ_1 = zv_wi σ 45 34 x1 → narrow .boolean (.int x2) = .int x2 ∧ Q x2 σ_1)) ∧ (¬ x3 ≤ x4 → (vp_in x4 80 ∧ (¬ (σ.1 75 x4.toNatClampNeg) = 0 → (B_X11_thin_272 Q (L_X11_thin_227 Q u) x1 x2 x3 x4 σ)) ∧ ((σ.1 75 x4.toNatClampNeg) = 0 → (vp_in x4 80 ∧ vp_in x1 80 ∧ ∀ σ_2 : zv_St, σ_2 = zv_wi σ 73 x1.toNatClampNeg (σ.1 73 x4.toNatClampNeg) → vp_in x4 80 ∧ vp_in x1 80 ∧ ∀ σ_3 : zv_St, σ_3 = zv_wi σ_2 74 x1.toNatClampNeg (σ_2.1 74 x4.toNatClampNeg) → B_X11_thin_272 Q (L_X11_thin_227 Q u) (x1 + 1) x2 x3 x4 σ_3))))
set_option maxRecDepth 20000 in
set_option maxHeartbeats 2000000 in
theorem kL_X11_thin_227 {G : zv_G} {X : zv_X} {Q : Int32 → zv_St → Prop}  (hC : zv_C G X M_X11_thin) (hR : zv_R G X M_X11_thin (zv_qi Q))  : ∀ (n : Nat) (x1 : Int32) (x2 : Int32) (x3 : Int32) (x4 : Int32) (σ : zv_St), L_X11_thin_227 Q  n x1 x2 x3 x4 σ → zv_V G X M_X11_thin 227 [(0, .ref (G.2.2.1 45)), (1, .int x1), (2, .int x2), (3, .int x3), (4, .int x4)] [] σ := by
  intro n
  induction n with
  | zero => intro x1 x2 x3 x4 σ h; exact h.elim
  | succ n hk227 =>
    intro x1 x2 x3 x4 σ h
    unfold L_X11_thin_227 at h
    refine zv_iload hC dX11_thin_227 rfl ?_
    refine zv_iload_n hC dX11_thin_229 rfl ?_
    refine zv_icmp_ge (tgt := 278) hC dX11_thin_230 (by decide) (fun c => ?_) (fun c => ?_)
    · replace h := h.1 c
      refine zv_aload_n hC dX11_thin_278 rfl ?_
      refine zv_iload_n hC dX11_thin_279 rfl ?_
      refine zv_putI hC fp_X11_199 dX11_thin_280 rfl rfl rfl rfl ?_
      replace h := h _ rfl
      refine zv_iload_n hC dX11_thin_283 rfl ?_
      exact (hR _ _ _).2.1 _ rfl h.1 dX11_thin_284 ⟨_, rfl, h.2⟩
    · replace h := h.2 c
      refine zv_aload_n hC dX11_thin_233 rfl ?_
      refine zv_getR (j := 75) hC fl_X11_100 dX11_thin_234 rfl rfl ?_
      refine zv_iload hC dX11_thin_237 rfl ?_
      refine zv_zald hC dX11_thin_239 rfl h.1 ?_
      replace h := h.2
      refine zv_if_ne (tgt := 272) hC dX11_thin_240 (by decide) (fun c => ?_) (fun c => ?_)
      · replace h := h.1 c
        exact zv_go (k_X11_thin_272 hC hR hk227 h) ⟨rfl, rfl, rfl, rfl, rfl, trivial⟩
      · replace h := h.2 c
        refine zv_aload_n hC dX11_thin_243 rfl ?_
        refine zv_getR (j := 73) hC fl_X11_94 dX11_thin_244 rfl rfl ?_
        refine zv_iload_n hC dX11_thin_247 rfl ?_
        refine zv_aload_n hC dX11_thin_248 rfl ?_
        refine zv_getR (j := 73) hC fl_X11_94 dX11_thin_249 rfl rfl ?_
        refine zv_iload hC dX11_thin_252 rfl ?_
        refine zv_iald hC dX11_thin_254 rfl h.1 ?_
        replace h := h.2
        refine zv_iast hC dX11_thin_255 rfl h.1 ?_
        replace h := h.2 _ rfl
        refine zv_aload_n hC dX11_thin_256 rfl ?_
        refine zv_getR (j := 74) hC fl_X11_97 dX11_thin_257 rfl rfl ?_
        refine zv_iload_n hC dX11_thin_260 rfl ?_
        refine zv_aload_n hC dX11_thin_261 rfl ?_
        refine zv_getR (j := 74) hC fl_X11_97 dX11_thin_262 rfl rfl ?_
        refine zv_iload hC dX11_thin_265 rfl ?_
        refine zv_iald hC dX11_thin_267 rfl h.1 ?_
        replace h := h.2
        refine zv_iast hC dX11_thin_268 rfl h.1 ?_
        replace h := h.2 _ rfl
        refine zv_iinc (v := 1) hC dX11_thin_269 rfl (by decide) (by decide) ?_
        exact zv_go (k_X11_thin_272 hC hR hk227 h) ⟨rfl, rfl, rfl, rfl, rfl, trivial⟩
def B_X11_thin_202 (Q : Int32 → zv_St → Prop) (kk12 : Int32 → Int32 → Int32 → Int32 → zv_St → Prop) (kk24 : Int32 → Int32 → Int32 → Int32 → Int32 → Int32 → zv_St → Prop) (x1 : Int32) (x3 : Int32) (x4 : Int32) (x5 : Int32) (x6 : Int32) (y0 : Int32) (σ : zv_St) : Prop :=
  kk24 x1 y0 x3 x4 x5 (x6 + 1) σ
set_option maxRecDepth 20000 in
set_option maxHeartbeats 2000000 in
theorem k_X11_thin_202 {G : zv_G} {X : zv_X} {Q : Int32 → zv_St → Prop} {kk12 : Int32 → Int32 → Int32 → Int32 → zv_St → Prop} {kk24 : Int32 → Int32 → Int32 → Int32 → Int32 → Int32 → zv_St → Prop} (hC : zv_C G X M_X11_thin) (hR : zv_R G X M_X11_thin (zv_qi Q)) (hk12 : ∀ (x1 : Int32) (x2 : Int32) (x3 : Int32) (x4 : Int32) (σ : zv_St), kk12 x1 x2 x3 x4 σ → zv_V G X M_X11_thin 12 [(0, .ref (G.2.2.1 45)), (1, .int x1), (2, .int x2), (3, .int x3), (4, .int x4)] [] σ) (hk24 : ∀ (x1 : Int32) (x2 : Int32) (x3 : Int32) (x4 : Int32) (x5 : Int32) (x6 : Int32) (σ : zv_St), kk24 x1 x2 x3 x4 x5 x6 σ → zv_V G X M_X11_thin 24 [(0, .ref (G.2.2.1 45)), (1, .int x1), (2, .int x2), (3, .int x3), (4, .int x4), (5, .int x5), (6, .int x6)] [] σ) {x1 : Int32} {x3 : Int32} {x4 : Int32} {x5 : Int32} {x6 : Int32} {y0 : Int32} {σ : zv_St} (h : B_X11_thin_202 Q kk12 kk24 x1 x3 x4 x5 x6 y0 σ) : zv_V G X M_X11_thin 202 [(0, .ref (G.2.2.1 45)), (1, .int x1), (3, .int x3), (4, .int x4), (5, .int x5), (6, .int x6)] [.int y0] σ := by
  unfold B_X11_thin_202 at h
  refine zv_istore_n hC dX11_thin_202 (by decide) ?_
  refine zv_iinc (v := 1) hC dX11_thin_203 rfl (by decide) (by decide) ?_
  refine zv_goto (tgt := 24) hC dX11_thin_206 (by decide) ?_
  exact zv_go (hk24 _ _ _ _ _ _ _ h) ⟨rfl, rfl, rfl, rfl, rfl, rfl, rfl, trivial⟩
def B_X11_thin_201 (Q : Int32 → zv_St → Prop) (kk12 : Int32 → Int32 → Int32 → Int32 → zv_St → Prop) (kk24 : Int32 → Int32 → Int32 → Int32 → Int32 → Int32 → zv_St → Prop) (x1 : Int32) (x3 : Int32) (x4 : Int32) (x5 : Int32) (x6 : Int32) (σ : zv_St) : Prop :=
  B_X11_thin_202 Q kk12 kk24 x1 x3 x4 x5 x6 0 σ
set_option maxRecDepth 20000 in
set_option maxHeartbeats 2000000 in
theorem k_X11_thin_201 {G : zv_G} {X : zv_X} {Q : Int32 → zv_St → Prop} {kk12 : Int32 → Int32 → Int32 → Int32 → zv_St → Prop} {kk24 : Int32 → Int32 → Int32 → Int32 → Int32 → Int32 → zv_St → Prop} (hC : zv_C G X M_X11_thin) (hR : zv_R G X M_X11_thin (zv_qi Q)) (hk12 : ∀ (x1 : Int32) (x2 : Int32) (x3 : Int32) (x4 : Int32) (σ : zv_St), kk12 x1 x2 x3 x4 σ → zv_V G X M_X11_thin 12 [(0, .ref (G.2.2.1 45)), (1, .int x1), (2, .int x2), (3, .int x3), (4, .int x4)] [] σ) (hk24 : ∀ (x1 : Int32) (x2 : Int32) (x3 : Int32) (x4 : Int32) (x5 : Int32) (x6 : Int32) (σ : zv_St), kk24 x1 x2 x3 x4 x5 x6 σ → zv_V G X M_X11_thin 24 [(0, .ref (G.2.2.1 45)), (1, .int x1), (2, .int x2), (3, .int x3), (4, .int x4), (5, .int x5), (6, .int x6)] [] σ) {x1 : Int32} {x3 : Int32} {x4 : Int32} {x5 : Int32} {x6 : Int32} {σ : zv_St} (h : B_X11_thin_201 Q kk12 kk24 x1 x3 x4 x5 x6 σ) : zv_V G X M_X11_thin 201 [(0, .ref (G.2.2.1 45)), (1, .int x1), (3, .int x3), (4, .int x4), (5, .int x5), (6, .int x6)] [] σ := by
  unfold B_X11_thin_201 at h
  refine zv_iconst (v := 0) hC dX11_thin_201 (by decide) ?_
  exact zv_go (k_X11_thin_202 hC hR hk12 hk24 h) ⟨rfl, rfl, rfl, rfl, rfl, rfl, trivial⟩
def B_X11_thin_197 (Q : Int32 → zv_St → Prop) (kk12 : Int32 → Int32 → Int32 → Int32 → zv_St → Prop) (kk24 : Int32 → Int32 → Int32 → Int32 → Int32 → Int32 → zv_St → Prop) (x1 : Int32) (x3 : Int32) (x4 : Int32) (x5 : Int32) (x6 : Int32) (σ : zv_St) : Prop :=
  B_X11_thin_202 Q kk12 kk24 x1 x3 x4 x5 x6 1 σ
set_option maxRecDepth 20000 in
set_option maxHeartbeats 2000000 in
theorem k_X11_thin_197 {G : zv_G} {X : zv_X} {Q : Int32 → zv_St → Prop} {kk12 : Int32 → Int32 → Int32 → Int32 → zv_St → Prop} {kk24 : Int32 → Int32 → Int32 → Int32 → Int32 → Int32 → zv_St → Prop} (hC : zv_C G X M_X11_thin) (hR : zv_R G X M_X11_thin (zv_qi Q)) (hk12 : ∀ (x1 : Int32) (x2 : Int32) (x3 : Int32) (x4 : Int32) (σ : zv_St), kk12 x1 x2 x3 x4 σ → zv_V G X M_X11_thin 12 [(0, .ref (G.2.2.1 45)), (1, .int x1), (2, .int x2), (3, .int x3), (4, .int x4)] [] σ) (hk24 : ∀ (x1 : Int32) (x2 : Int32) (x3 : Int32) (x4 : Int32) (x5 : Int32) (x6 : Int32) (σ : zv_St), kk24 x1 x2 x3 x4 x5 x6 σ → zv_V G X M_X11_thin 24 [(0, .ref (G.2.2.1 45)), (1, .int x1), (2, .int x2), (3, .int x3), (4, .int x4), (5, .int x5), (6, .int x6)] [] σ) {x1 : Int32} {x3 : Int32} {x4 : Int32} {x5 : Int32} {x6 : Int32} {σ : zv_St} (h : B_X11_thin_197 Q kk12 kk24 x1 x3 x4 x5 x6 σ) : zv_V G X M_X11_thin 197 [(0, .ref (G.2.2.1 45)), (1, .int x1), (3, .int x3), (4, .int x4), (5, .int x5), (6, .int x6)] [] σ := by
  unfold B_X11_thin_197 at h
  refine zv_iconst (v := 1) hC dX11_thin_197 (by decide) ?_
  refine zv_goto (tgt := 202) hC dX11_thin_198 (by decide) ?_
  exact zv_go (k_X11_thin_202 hC hR hk12 hk24 h) ⟨rfl, rfl, rfl, rfl, rfl, rfl, trivial⟩
def B_X11_thin_164 (Q : Int32 → zv_St → Prop) (kk12 : Int32 → Int32 → Int32 → Int32 → zv_St → Prop) (kk24 : Int32 → Int32 → Int32 → Int32 → Int32 → Int32 → zv_St → Prop) (x1 : Int32) (x2 : Int32) (x3 : Int32) (x4 : Int32) (x6 : Int32) (x7 : Int32) (y0 : Int32) (σ : zv_St) : Prop :=
  (x2 = 0 → (B_X11_thin_201 Q kk12 kk24 x1 x3 x4 y0 x6 σ)) ∧ (¬ x2 = 0 → ((x7 = 0 → (B_X11_thin_197 Q kk12 kk24 x1 x3 x4 y0 x6 σ)) ∧ (¬ x7 = 0 → (vp_in x4 80 ∧ (¬ (σ.1 73 x4.toNatClampNeg) = 2 → (B_X11_thin_197 Q kk12 kk24 x1 x3 x4 y0 x6 σ)) ∧ ((σ.1 73 x4.toNatClampNeg) = 2 → (vp_in x6 80 ∧ ((σ.1 73 x6.toNatClampNeg) < 2 → (B_X11_thin_201 Q kk12 kk24 x1 x3 x4 y0 x6 σ)) ∧ (¬ (σ.1 73 x6.toNatClampNeg) < 2 → (B_X11_thin_197 Q kk12 kk24 x1 x3 x4 y0 x6 σ))))))))
set_option maxRecDepth 20000 in
set_option maxHeartbeats 2000000 in
theorem k_X11_thin_164 {G : zv_G} {X : zv_X} {Q : Int32 → zv_St → Prop} {kk12 : Int32 → Int32 → Int32 → Int32 → zv_St → Prop} {kk24 : Int32 → Int32 → Int32 → Int32 → Int32 → Int32 → zv_St → Prop} (hC : zv_C G X M_X11_thin) (hR : zv_R G X M_X11_thin (zv_qi Q)) (hk12 : ∀ (x1 : Int32) (x2 : Int32) (x3 : Int32) (x4 : Int32) (σ : zv_St), kk12 x1 x2 x3 x4 σ → zv_V G X M_X11_thin 12 [(0, .ref (G.2.2.1 45)), (1, .int x1), (2, .int x2), (3, .int x3), (4, .int x4)] [] σ) (hk24 : ∀ (x1 : Int32) (x2 : Int32) (x3 : Int32) (x4 : Int32) (x5 : Int32) (x6 : Int32) (σ : zv_St), kk24 x1 x2 x3 x4 x5 x6 σ → zv_V G X M_X11_thin 24 [(0, .ref (G.2.2.1 45)), (1, .int x1), (2, .int x2), (3, .int x3), (4, .int x4), (5, .int x5), (6, .int x6)] [] σ) {x1 : Int32} {x2 : Int32} {x3 : Int32} {x4 : Int32} {x6 : Int32} {x7 : Int32} {y0 : Int32} {σ : zv_St} (h : B_X11_thin_164 Q kk12 kk24 x1 x2 x3 x4 x6 x7 y0 σ) : zv_V G X M_X11_thin 164 [(0, .ref (G.2.2.1 45)), (1, .int x1), (2, .int x2), (3, .int x3), (4, .int x4), (6, .int x6), (7, .int x7)] [.int y0] σ := by
  unfold B_X11_thin_164 at h
  refine zv_istore hC dX11_thin_164 (by decide) ?_
  refine zv_iload_n hC dX11_thin_166 rfl ?_
  refine zv_if_eq (tgt := 201) hC dX11_thin_167 (by decide) (fun c => ?_) (fun c => ?_)
  · replace h := h.1 c
    exact zv_go (k_X11_thin_201 hC hR hk12 hk24 h) ⟨rfl, rfl, rfl, rfl, rfl, rfl, trivial⟩
  · replace h := h.2 c
    refine zv_iload hC dX11_thin_170 rfl ?_
    refine zv_if_eq (tgt := 197) hC dX11_thin_172 (by decide) (fun c => ?_) (fun c => ?_)
    · replace h := h.1 c
      exact zv_go (k_X11_thin_197 hC hR hk12 hk24 h) ⟨rfl, rfl, rfl, rfl, rfl, rfl, trivial⟩
    · replace h := h.2 c
      refine zv_aload_n hC dX11_thin_175 rfl ?_
      refine zv_getR (j := 73) hC fl_X11_94 dX11_thin_176 rfl rfl ?_
      refine zv_iload hC dX11_thin_179 rfl ?_
      refine zv_iald hC dX11_thin_181 rfl h.1 ?_
      replace h := h.2
      refine zv_iconst (v := 2) hC dX11_thin_182 (by decide) ?_
      refine zv_icmp_ne (tgt := 197) hC dX11_thin_183 (by decide) (fun c => ?_) (fun c => ?_)
      · replace h := h.1 c
        exact zv_go (k_X11_thin_197 hC hR hk12 hk24 h) ⟨rfl, rfl, rfl, rfl, rfl, rfl, trivial⟩
      · replace h := h.2 c
        refine zv_aload_n hC dX11_thin_186 rfl ?_
        refine zv_getR (j := 73) hC fl_X11_94 dX11_thin_187 rfl rfl ?_
        refine zv_iload hC dX11_thin_190 rfl ?_
        refine zv_iald hC dX11_thin_192 rfl h.1 ?_
        replace h := h.2
        refine zv_iconst (v := 2) hC dX11_thin_193 (by decide) ?_
        refine zv_icmp_lt (tgt := 201) hC dX11_thin_194 (by decide) (fun c => ?_) (fun c => ?_)
        · replace h := h.1 c
          exact zv_go (k_X11_thin_201 hC hR hk12 hk24 h) ⟨rfl, rfl, rfl, rfl, rfl, rfl, trivial⟩
        · replace h := h.2 c
          exact zv_go (k_X11_thin_197 hC hR hk12 hk24 h) ⟨rfl, rfl, rfl, rfl, rfl, rfl, trivial⟩
def B_X11_thin_159 (Q : Int32 → zv_St → Prop) (kk12 : Int32 → Int32 → Int32 → Int32 → zv_St → Prop) (kk24 : Int32 → Int32 → Int32 → Int32 → Int32 → Int32 → zv_St → Prop) (x1 : Int32) (x2 : Int32) (x3 : Int32) (x4 : Int32) (x6 : Int32) (x7 : Int32) (σ : zv_St) : Prop :=
  B_X11_thin_164 Q kk12 kk24 x1 x2 x3 x4 x6 x7 1 σ
set_option maxRecDepth 20000 in
set_option maxHeartbeats 2000000 in
theorem k_X11_thin_159 {G : zv_G} {X : zv_X} {Q : Int32 → zv_St → Prop} {kk12 : Int32 → Int32 → Int32 → Int32 → zv_St → Prop} {kk24 : Int32 → Int32 → Int32 → Int32 → Int32 → Int32 → zv_St → Prop} (hC : zv_C G X M_X11_thin) (hR : zv_R G X M_X11_thin (zv_qi Q)) (hk12 : ∀ (x1 : Int32) (x2 : Int32) (x3 : Int32) (x4 : Int32) (σ : zv_St), kk12 x1 x2 x3 x4 σ → zv_V G X M_X11_thin 12 [(0, .ref (G.2.2.1 45)), (1, .int x1), (2, .int x2), (3, .int x3), (4, .int x4)] [] σ) (hk24 : ∀ (x1 : Int32) (x2 : Int32) (x3 : Int32) (x4 : Int32) (x5 : Int32) (x6 : Int32) (σ : zv_St), kk24 x1 x2 x3 x4 x5 x6 σ → zv_V G X M_X11_thin 24 [(0, .ref (G.2.2.1 45)), (1, .int x1), (2, .int x2), (3, .int x3), (4, .int x4), (5, .int x5), (6, .int x6)] [] σ) {x1 : Int32} {x2 : Int32} {x3 : Int32} {x4 : Int32} {x6 : Int32} {x7 : Int32} {σ : zv_St} (h : B_X11_thin_159 Q kk12 kk24 x1 x2 x3 x4 x6 x7 σ) : zv_V G X M_X11_thin 159 [(0, .ref (G.2.2.1 45)), (1, .int x1), (2, .int x2), (3, .int x3), (4, .int x4), (6, .int x6), (7, .int x7)] [] σ := by
  unfold B_X11_thin_159 at h
  refine zv_iconst (v := 1) hC dX11_thin_159 (by decide) ?_
  refine zv_goto (tgt := 164) hC dX11_thin_160 (by decide) ?_
  exact zv_go (k_X11_thin_164 hC hR hk12 hk24 h) ⟨rfl, rfl, rfl, rfl, rfl, rfl, rfl, trivial⟩
def B_X11_thin_163 (Q : Int32 → zv_St → Prop) (kk12 : Int32 → Int32 → Int32 → Int32 → zv_St → Prop) (kk24 : Int32 → Int32 → Int32 → Int32 → Int32 → Int32 → zv_St → Prop) (x1 : Int32) (x2 : Int32) (x3 : Int32) (x4 : Int32) (x6 : Int32) (x7 : Int32) (σ : zv_St) : Prop :=
  B_X11_thin_164 Q kk12 kk24 x1 x2 x3 x4 x6 x7 0 σ
set_option maxRecDepth 20000 in
set_option maxHeartbeats 2000000 in
theorem k_X11_thin_163 {G : zv_G} {X : zv_X} {Q : Int32 → zv_St → Prop} {kk12 : Int32 → Int32 → Int32 → Int32 → zv_St → Prop} {kk24 : Int32 → Int32 → Int32 → Int32 → Int32 → Int32 → zv_St → Prop} (hC : zv_C G X M_X11_thin) (hR : zv_R G X M_X11_thin (zv_qi Q)) (hk12 : ∀ (x1 : Int32) (x2 : Int32) (x3 : Int32) (x4 : Int32) (σ : zv_St), kk12 x1 x2 x3 x4 σ → zv_V G X M_X11_thin 12 [(0, .ref (G.2.2.1 45)), (1, .int x1), (2, .int x2), (3, .int x3), (4, .int x4)] [] σ) (hk24 : ∀ (x1 : Int32) (x2 : Int32) (x3 : Int32) (x4 : Int32) (x5 : Int32) (x6 : Int32) (σ : zv_St), kk24 x1 x2 x3 x4 x5 x6 σ → zv_V G X M_X11_thin 24 [(0, .ref (G.2.2.1 45)), (1, .int x1), (2, .int x2), (3, .int x3), (4, .int x4), (5, .int x5), (6, .int x6)] [] σ) {x1 : Int32} {x2 : Int32} {x3 : Int32} {x4 : Int32} {x6 : Int32} {x7 : Int32} {σ : zv_St} (h : B_X11_thin_163 Q kk12 kk24 x1 x2 x3 x4 x6 x7 σ) : zv_V G X M_X11_thin 163 [(0, .ref (G.2.2.1 45)), (1, .int x1), (2, .int x2), (3, .int x3), (4, .int x4), (6, .int x6), (7, .int x7)] [] σ := by
  unfold B_X11_thin_163 at h
  refine zv_iconst (v := 0) hC dX11_thin_163 (by decide) ?_
  exact zv_go (k_X11_thin_164 hC hR hk12 hk24 h) ⟨rfl, rfl, rfl, rfl, rfl, rfl, rfl, trivial⟩
def B_X11_thin_120 (Q : Int32 → zv_St → Prop) (kk12 : Int32 → Int32 → Int32 → Int32 → zv_St → Prop) (kk24 : Int32 → Int32 → Int32 → Int32 → Int32 → Int32 → zv_St → Prop) (x1 : Int32) (x2 : Int32) (x3 : Int32) (x4 : Int32) (x6 : Int32) (x7 : Int32) (x8 : Int32) (y0 : Int32) (σ : zv_St) : Prop :=
  (¬ y0 = 0 → (B_X11_thin_159 Q kk12 kk24 x1 x2 x3 x4 x6 x7 σ)) ∧ (y0 = 0 → ((x7 = 0 → (B_X11_thin_163 Q kk12 kk24 x1 x2 x3 x4 x6 x7 σ)) ∧ (¬ x7 = 0 → (vp_in x4 80 ∧ (¬ (σ.1 73 x4.toNatClampNeg) = 2 → (B_X11_thin_163 Q kk12 kk24 x1 x2 x3 x4 x6 x7 σ)) ∧ ((σ.1 73 x4.toNatClampNeg) = 2 → (vp_in x6 80 ∧ (¬ (σ.1 73 x6.toNatClampNeg) = 2 → (B_X11_thin_163 Q kk12 kk24 x1 x2 x3 x4 x6 x7 σ)) ∧ ((σ.1 73 x6.toNatClampNeg) = 2 → ((x8 = 0 → (B_X11_thin_163 Q kk12 kk24 x1 x2 x3 x4 x6 x7 σ)) ∧ (¬ x8 = 0 → (B_X11_thin_159 Q kk12 kk24 x1 x2 x3 x4 x6 x7 σ))))))))))
set_option maxRecDepth 20000 in
set_option maxHeartbeats 2000000 in
theorem k_X11_thin_120 {G : zv_G} {X : zv_X} {Q : Int32 → zv_St → Prop} {kk12 : Int32 → Int32 → Int32 → Int32 → zv_St → Prop} {kk24 : Int32 → Int32 → Int32 → Int32 → Int32 → Int32 → zv_St → Prop} (hC : zv_C G X M_X11_thin) (hR : zv_R G X M_X11_thin (zv_qi Q)) (hk12 : ∀ (x1 : Int32) (x2 : Int32) (x3 : Int32) (x4 : Int32) (σ : zv_St), kk12 x1 x2 x3 x4 σ → zv_V G X M_X11_thin 12 [(0, .ref (G.2.2.1 45)), (1, .int x1), (2, .int x2), (3, .int x3), (4, .int x4)] [] σ) (hk24 : ∀ (x1 : Int32) (x2 : Int32) (x3 : Int32) (x4 : Int32) (x5 : Int32) (x6 : Int32) (σ : zv_St), kk24 x1 x2 x3 x4 x5 x6 σ → zv_V G X M_X11_thin 24 [(0, .ref (G.2.2.1 45)), (1, .int x1), (2, .int x2), (3, .int x3), (4, .int x4), (5, .int x5), (6, .int x6)] [] σ) {x1 : Int32} {x2 : Int32} {x3 : Int32} {x4 : Int32} {x6 : Int32} {x7 : Int32} {x8 : Int32} {y0 : Int32} {σ : zv_St} (h : B_X11_thin_120 Q kk12 kk24 x1 x2 x3 x4 x6 x7 x8 y0 σ) : zv_V G X M_X11_thin 120 [(0, .ref (G.2.2.1 45)), (1, .int x1), (2, .int x2), (3, .int x3), (4, .int x4), (6, .int x6), (7, .int x7), (8, .int x8)] [.int y0] σ := by
  unfold B_X11_thin_120 at h
  refine zv_istore hC dX11_thin_120 (by decide) ?_
  refine zv_iload hC dX11_thin_122 rfl ?_
  refine zv_if_ne (tgt := 159) hC dX11_thin_124 (by decide) (fun c => ?_) (fun c => ?_)
  · replace h := h.1 c
    exact zv_go (k_X11_thin_159 hC hR hk12 hk24 h) ⟨rfl, rfl, rfl, rfl, rfl, rfl, rfl, trivial⟩
  · replace h := h.2 c
    refine zv_iload hC dX11_thin_127 rfl ?_
    refine zv_if_eq (tgt := 163) hC dX11_thin_129 (by decide) (fun c => ?_) (fun c => ?_)
    · replace h := h.1 c
      exact zv_go (k_X11_thin_163 hC hR hk12 hk24 h) ⟨rfl, rfl, rfl, rfl, rfl, rfl, rfl, trivial⟩
    · replace h := h.2 c
      refine zv_aload_n hC dX11_thin_132 rfl ?_
      refine zv_getR (j := 73) hC fl_X11_94 dX11_thin_133 rfl rfl ?_
      refine zv_iload hC dX11_thin_136 rfl ?_
      refine zv_iald hC dX11_thin_138 rfl h.1 ?_
      replace h := h.2
      refine zv_iconst (v := 2) hC dX11_thin_139 (by decide) ?_
      refine zv_icmp_ne (tgt := 163) hC dX11_thin_140 (by decide) (fun c => ?_) (fun c => ?_)
      · replace h := h.1 c
        exact zv_go (k_X11_thin_163 hC hR hk12 hk24 h) ⟨rfl, rfl, rfl, rfl, rfl, rfl, rfl, trivial⟩
      · replace h := h.2 c
        refine zv_aload_n hC dX11_thin_143 rfl ?_
        refine zv_getR (j := 73) hC fl_X11_94 dX11_thin_144 rfl rfl ?_
        refine zv_iload hC dX11_thin_147 rfl ?_
        refine zv_iald hC dX11_thin_149 rfl h.1 ?_
        replace h := h.2
        refine zv_iconst (v := 2) hC dX11_thin_150 (by decide) ?_
        refine zv_icmp_ne (tgt := 163) hC dX11_thin_151 (by decide) (fun c => ?_) (fun c => ?_)
        · replace h := h.1 c
          exact zv_go (k_X11_thin_163 hC hR hk12 hk24 h) ⟨rfl, rfl, rfl, rfl, rfl, rfl, rfl, trivial⟩
        · replace h := h.2 c
          refine zv_iload hC dX11_thin_154 rfl ?_
          refine zv_if_eq (tgt := 163) hC dX11_thin_156 (by decide) (fun c => ?_) (fun c => ?_)
          · replace h := h.1 c
            exact zv_go (k_X11_thin_163 hC hR hk12 hk24 h) ⟨rfl, rfl, rfl, rfl, rfl, rfl, rfl, trivial⟩
          · replace h := h.2 c
            exact zv_go (k_X11_thin_159 hC hR hk12 hk24 h) ⟨rfl, rfl, rfl, rfl, rfl, rfl, rfl, trivial⟩
def B_X11_thin_115 (Q : Int32 → zv_St → Prop) (kk12 : Int32 → Int32 → Int32 → Int32 → zv_St → Prop) (kk24 : Int32 → Int32 → Int32 → Int32 → Int32 → Int32 → zv_St → Prop) (x1 : Int32) (x2 : Int32) (x3 : Int32) (x4 : Int32) (x6 : Int32) (x7 : Int32) (x8 : Int32) (σ : zv_St) : Prop :=
  B_X11_thin_120 Q kk12 kk24 x1 x2 x3 x4 x6 x7 x8 1 σ
set_option maxRecDepth 20000 in
set_option maxHeartbeats 2000000 in
theorem k_X11_thin_115 {G : zv_G} {X : zv_X} {Q : Int32 → zv_St → Prop} {kk12 : Int32 → Int32 → Int32 → Int32 → zv_St → Prop} {kk24 : Int32 → Int32 → Int32 → Int32 → Int32 → Int32 → zv_St → Prop} (hC : zv_C G X M_X11_thin) (hR : zv_R G X M_X11_thin (zv_qi Q)) (hk12 : ∀ (x1 : Int32) (x2 : Int32) (x3 : Int32) (x4 : Int32) (σ : zv_St), kk12 x1 x2 x3 x4 σ → zv_V G X M_X11_thin 12 [(0, .ref (G.2.2.1 45)), (1, .int x1), (2, .int x2), (3, .int x3), (4, .int x4)] [] σ) (hk24 : ∀ (x1 : Int32) (x2 : Int32) (x3 : Int32) (x4 : Int32) (x5 : Int32) (x6 : Int32) (σ : zv_St), kk24 x1 x2 x3 x4 x5 x6 σ → zv_V G X M_X11_thin 24 [(0, .ref (G.2.2.1 45)), (1, .int x1), (2, .int x2), (3, .int x3), (4, .int x4), (5, .int x5), (6, .int x6)] [] σ) {x1 : Int32} {x2 : Int32} {x3 : Int32} {x4 : Int32} {x6 : Int32} {x7 : Int32} {x8 : Int32} {σ : zv_St} (h : B_X11_thin_115 Q kk12 kk24 x1 x2 x3 x4 x6 x7 x8 σ) : zv_V G X M_X11_thin 115 [(0, .ref (G.2.2.1 45)), (1, .int x1), (2, .int x2), (3, .int x3), (4, .int x4), (6, .int x6), (7, .int x7), (8, .int x8)] [] σ := by
  unfold B_X11_thin_115 at h
  refine zv_iconst (v := 1) hC dX11_thin_115 (by decide) ?_
  refine zv_goto (tgt := 120) hC dX11_thin_116 (by decide) ?_
  exact zv_go (k_X11_thin_120 hC hR hk12 hk24 h) ⟨rfl, rfl, rfl, rfl, rfl, rfl, rfl, rfl, trivial⟩
def B_X11_thin_119 (Q : Int32 → zv_St → Prop) (kk12 : Int32 → Int32 → Int32 → Int32 → zv_St → Prop) (kk24 : Int32 → Int32 → Int32 → Int32 → Int32 → Int32 → zv_St → Prop) (x1 : Int32) (x2 : Int32) (x3 : Int32) (x4 : Int32) (x6 : Int32) (x7 : Int32) (x8 : Int32) (σ : zv_St) : Prop :=
  B_X11_thin_120 Q kk12 kk24 x1 x2 x3 x4 x6 x7 x8 0 σ
set_option maxRecDepth 20000 in
set_option maxHeartbeats 2000000 in
theorem k_X11_thin_119 {G : zv_G} {X : zv_X} {Q : Int32 → zv_St → Prop} {kk12 : Int32 → Int32 → Int32 → Int32 → zv_St → Prop} {kk24 : Int32 → Int32 → Int32 → Int32 → Int32 → Int32 → zv_St → Prop} (hC : zv_C G X M_X11_thin) (hR : zv_R G X M_X11_thin (zv_qi Q)) (hk12 : ∀ (x1 : Int32) (x2 : Int32) (x3 : Int32) (x4 : Int32) (σ : zv_St), kk12 x1 x2 x3 x4 σ → zv_V G X M_X11_thin 12 [(0, .ref (G.2.2.1 45)), (1, .int x1), (2, .int x2), (3, .int x3), (4, .int x4)] [] σ) (hk24 : ∀ (x1 : Int32) (x2 : Int32) (x3 : Int32) (x4 : Int32) (x5 : Int32) (x6 : Int32) (σ : zv_St), kk24 x1 x2 x3 x4 x5 x6 σ → zv_V G X M_X11_thin 24 [(0, .ref (G.2.2.1 45)), (1, .int x1), (2, .int x2), (3, .int x3), (4, .int x4), (5, .int x5), (6, .int x6)] [] σ) {x1 : Int32} {x2 : Int32} {x3 : Int32} {x4 : Int32} {x6 : Int32} {x7 : Int32} {x8 : Int32} {σ : zv_St} (h : B_X11_thin_119 Q kk12 kk24 x1 x2 x3 x4 x6 x7 x8 σ) : zv_V G X M_X11_thin 119 [(0, .ref (G.2.2.1 45)), (1, .int x1), (2, .int x2), (3, .int x3), (4, .int x4), (6, .int x6), (7, .int x7), (8, .int x8)] [] σ := by
  unfold B_X11_thin_119 at h
  refine zv_iconst (v := 0) hC dX11_thin_119 (by decide) ?_
  exact zv_go (k_X11_thin_120 hC hR hk12 hk24 h) ⟨rfl, rfl, rfl, rfl, rfl, rfl, rfl, rfl, trivial⟩
def B_X11_thin_66 (Q : Int32 → zv_St → Prop) (kk12 : Int32 → Int32 → Int32 → Int32 → zv_St → Prop) (kk24 : Int32 → Int32 → Int32 → Int32 → Int32 → Int32 → zv_St → Prop) (x1 : Int32) (x2 : Int32) (x3 : Int32) (x4 : Int32) (x5 : Int32) (x6 : Int32) (x7 : Int32) (y0 : Int32) (σ : zv_St) : Prop :=
  (¬ x5 = 0 → (B_X11_thin_115 Q kk12 kk24 x1 x2 x3 x4 x6 x7 y0 σ)) ∧ (x5 = 0 → ((x7 = 0 → (B_X11_thin_119 Q kk12 kk24 x1 x2 x3 x4 x6 x7 y0 σ)) ∧ (¬ x7 = 0 → (vp_in x4 80 ∧ (¬ (σ.1 73 x4.toNatClampNeg) = 1 → (B_X11_thin_119 Q kk12 kk24 x1 x2 x3 x4 x6 x7 y0 σ)) ∧ ((σ.1 73 x4.toNatClampNeg) = 1 → (vp_in x6 80 ∧ ((σ.1 73 x6.toNatClampNeg) = 0 → (B_X11_thin_115 Q kk12 kk24 x1 x2 x3 x4 x6 x7 y0 σ)) ∧ (¬ (σ.1 73 x6.toNatClampNeg) = 0 → (vp_in x6 80 ∧ (¬ (σ.1 73 x6.toNatClampNeg) = 1 → (B_X11_thin_119 Q kk12 kk24 x1 x2 x3 x4 x6 x7 y0 σ)) ∧ ((σ.1 73 x6.toNatClampNeg) = 1 → ((y0 = 0 → (B_X11_thin_119 Q kk12 kk24 x1 x2 x3 x4 x6 x7 y0 σ)) ∧ (¬ y0 = 0 → (B_X11_thin_115 Q kk12 kk24 x1 x2 x3 x4 x6 x7 y0 σ))))))))))))
set_option maxRecDepth 20000 in
set_option maxHeartbeats 2000000 in
theorem k_X11_thin_66 {G : zv_G} {X : zv_X} {Q : Int32 → zv_St → Prop} {kk12 : Int32 → Int32 → Int32 → Int32 → zv_St → Prop} {kk24 : Int32 → Int32 → Int32 → Int32 → Int32 → Int32 → zv_St → Prop} (hC : zv_C G X M_X11_thin) (hR : zv_R G X M_X11_thin (zv_qi Q)) (hk12 : ∀ (x1 : Int32) (x2 : Int32) (x3 : Int32) (x4 : Int32) (σ : zv_St), kk12 x1 x2 x3 x4 σ → zv_V G X M_X11_thin 12 [(0, .ref (G.2.2.1 45)), (1, .int x1), (2, .int x2), (3, .int x3), (4, .int x4)] [] σ) (hk24 : ∀ (x1 : Int32) (x2 : Int32) (x3 : Int32) (x4 : Int32) (x5 : Int32) (x6 : Int32) (σ : zv_St), kk24 x1 x2 x3 x4 x5 x6 σ → zv_V G X M_X11_thin 24 [(0, .ref (G.2.2.1 45)), (1, .int x1), (2, .int x2), (3, .int x3), (4, .int x4), (5, .int x5), (6, .int x6)] [] σ) {x1 : Int32} {x2 : Int32} {x3 : Int32} {x4 : Int32} {x5 : Int32} {x6 : Int32} {x7 : Int32} {y0 : Int32} {σ : zv_St} (h : B_X11_thin_66 Q kk12 kk24 x1 x2 x3 x4 x5 x6 x7 y0 σ) : zv_V G X M_X11_thin 66 [(0, .ref (G.2.2.1 45)), (1, .int x1), (2, .int x2), (3, .int x3), (4, .int x4), (5, .int x5), (6, .int x6), (7, .int x7)] [.int y0] σ := by
  unfold B_X11_thin_66 at h
  refine zv_istore hC dX11_thin_66 (by decide) ?_
  refine zv_iload hC dX11_thin_68 rfl ?_
  refine zv_if_ne (tgt := 115) hC dX11_thin_70 (by decide) (fun c => ?_) (fun c => ?_)
  · replace h := h.1 c
    exact zv_go (k_X11_thin_115 hC hR hk12 hk24 h) ⟨rfl, rfl, rfl, rfl, rfl, rfl, rfl, rfl, trivial⟩
  · replace h := h.2 c
    refine zv_iload hC dX11_thin_73 rfl ?_
    refine zv_if_eq (tgt := 119) hC dX11_thin_75 (by decide) (fun c => ?_) (fun c => ?_)
    · replace h := h.1 c
      exact zv_go (k_X11_thin_119 hC hR hk12 hk24 h) ⟨rfl, rfl, rfl, rfl, rfl, rfl, rfl, rfl, trivial⟩
    · replace h := h.2 c
      refine zv_aload_n hC dX11_thin_78 rfl ?_
      refine zv_getR (j := 73) hC fl_X11_94 dX11_thin_79 rfl rfl ?_
      refine zv_iload hC dX11_thin_82 rfl ?_
      refine zv_iald hC dX11_thin_84 rfl h.1 ?_
      replace h := h.2
      refine zv_iconst (v := 1) hC dX11_thin_85 (by decide) ?_
      refine zv_icmp_ne (tgt := 119) hC dX11_thin_86 (by decide) (fun c => ?_) (fun c => ?_)
      · replace h := h.1 c
        exact zv_go (k_X11_thin_119 hC hR hk12 hk24 h) ⟨rfl, rfl, rfl, rfl, rfl, rfl, rfl, rfl, trivial⟩
      · replace h := h.2 c
        refine zv_aload_n hC dX11_thin_89 rfl ?_
        refine zv_getR (j := 73) hC fl_X11_94 dX11_thin_90 rfl rfl ?_
        refine zv_iload hC dX11_thin_93 rfl ?_
        refine zv_iald hC dX11_thin_95 rfl h.1 ?_
        replace h := h.2
        refine zv_if_eq (tgt := 115) hC dX11_thin_96 (by decide) (fun c => ?_) (fun c => ?_)
        · replace h := h.1 c
          exact zv_go (k_X11_thin_115 hC hR hk12 hk24 h) ⟨rfl, rfl, rfl, rfl, rfl, rfl, rfl, rfl, trivial⟩
        · replace h := h.2 c
          refine zv_aload_n hC dX11_thin_99 rfl ?_
          refine zv_getR (j := 73) hC fl_X11_94 dX11_thin_100 rfl rfl ?_
          refine zv_iload hC dX11_thin_103 rfl ?_
          refine zv_iald hC dX11_thin_105 rfl h.1 ?_
          replace h := h.2
          refine zv_iconst (v := 1) hC dX11_thin_106 (by decide) ?_
          refine zv_icmp_ne (tgt := 119) hC dX11_thin_107 (by decide) (fun c => ?_) (fun c => ?_)
          · replace h := h.1 c
            exact zv_go (k_X11_thin_119 hC hR hk12 hk24 h) ⟨rfl, rfl, rfl, rfl, rfl, rfl, rfl, rfl, trivial⟩
          · replace h := h.2 c
            refine zv_iload hC dX11_thin_110 rfl ?_
            refine zv_if_eq (tgt := 119) hC dX11_thin_112 (by decide) (fun c => ?_) (fun c => ?_)
            · replace h := h.1 c
              exact zv_go (k_X11_thin_119 hC hR hk12 hk24 h) ⟨rfl, rfl, rfl, rfl, rfl, rfl, rfl, rfl, trivial⟩
            · replace h := h.2 c
              exact zv_go (k_X11_thin_115 hC hR hk12 hk24 h) ⟨rfl, rfl, rfl, rfl, rfl, rfl, rfl, rfl, trivial⟩
def B_X11_thin_52 (Q : Int32 → zv_St → Prop) (kk12 : Int32 → Int32 → Int32 → Int32 → zv_St → Prop) (kk24 : Int32 → Int32 → Int32 → Int32 → Int32 → Int32 → zv_St → Prop) (x1 : Int32) (x2 : Int32) (x3 : Int32) (x4 : Int32) (x5 : Int32) (x6 : Int32) (y0 : Int32) (σ : zv_St) : Prop :=
  (x4 ≤ x6 → (B_X11_thin_66 Q kk12 kk24 x1 x2 x3 x4 x5 x6 y0 0 σ)) ∧ (¬ x4 ≤ x6 → (B_X11_thin_66 Q kk12 kk24 x1 x2 x3 x4 x5 x6 y0 1 σ))
set_option maxRecDepth 20000 in
set_option maxHeartbeats 2000000 in
theorem k_X11_thin_52 {G : zv_G} {X : zv_X} {Q : Int32 → zv_St → Prop} {kk12 : Int32 → Int32 → Int32 → Int32 → zv_St → Prop} {kk24 : Int32 → Int32 → Int32 → Int32 → Int32 → Int32 → zv_St → Prop} (hC : zv_C G X M_X11_thin) (hR : zv_R G X M_X11_thin (zv_qi Q)) (hk12 : ∀ (x1 : Int32) (x2 : Int32) (x3 : Int32) (x4 : Int32) (σ : zv_St), kk12 x1 x2 x3 x4 σ → zv_V G X M_X11_thin 12 [(0, .ref (G.2.2.1 45)), (1, .int x1), (2, .int x2), (3, .int x3), (4, .int x4)] [] σ) (hk24 : ∀ (x1 : Int32) (x2 : Int32) (x3 : Int32) (x4 : Int32) (x5 : Int32) (x6 : Int32) (σ : zv_St), kk24 x1 x2 x3 x4 x5 x6 σ → zv_V G X M_X11_thin 24 [(0, .ref (G.2.2.1 45)), (1, .int x1), (2, .int x2), (3, .int x3), (4, .int x4), (5, .int x5), (6, .int x6)] [] σ) {x1 : Int32} {x2 : Int32} {x3 : Int32} {x4 : Int32} {x5 : Int32} {x6 : Int32} {y0 : Int32} {σ : zv_St} (h : B_X11_thin_52 Q kk12 kk24 x1 x2 x3 x4 x5 x6 y0 σ) : zv_V G X M_X11_thin 52 [(0, .ref (G.2.2.1 45)), (1, .int x1), (2, .int x2), (3, .int x3), (4, .int x4), (5, .int x5), (6, .int x6)] [.int y0] σ := by
  unfold B_X11_thin_52 at h
  refine zv_istore hC dX11_thin_52 (by decide) ?_
  refine zv_iload hC dX11_thin_54 rfl ?_
  refine zv_iload hC dX11_thin_56 rfl ?_
  refine zv_icmp_ge (tgt := 65) hC dX11_thin_58 (by decide) (fun c => ?_) (fun c => ?_)
  · replace h := h.1 c
    refine zv_iconst (v := 0) hC dX11_thin_65 (by decide) ?_
    exact zv_go (k_X11_thin_66 hC hR hk12 hk24 h) ⟨rfl, rfl, rfl, rfl, rfl, rfl, rfl, rfl, trivial⟩
  · replace h := h.2 c
    refine zv_iconst (v := 1) hC dX11_thin_61 (by decide) ?_
    refine zv_goto (tgt := 66) hC dX11_thin_62 (by decide) ?_
    exact zv_go (k_X11_thin_66 hC hR hk12 hk24 h) ⟨rfl, rfl, rfl, rfl, rfl, rfl, rfl, rfl, trivial⟩
def L_X11_thin_24 (Q : Int32 → zv_St → Prop) (kk12 : Int32 → Int32 → Int32 → Int32 → zv_St → Prop) : Nat → (Int32 → Int32 → Int32 → Int32 → Int32 → Int32 → zv_St → Prop)
  | 0 => fun _ _ _ _ _ _ _ => False
  | u + 1 => fun x1 x2 x3 x4 x5 x6 σ => 
    (x3 ≤ x6 → (vp_in x4 80 ∧ ∀ σ_1 : zv_St, σ_1 = zv_wi σ 75 x4.toNatClampNeg (vp_nar .boolean x5) → kk12 x1 x2 x3 (x4 + 1) σ_1)) ∧ (¬ x3 ≤ x6 → (vp_in x6 80 ∧ vp_in x4 80 ∧ (¬ (σ.1 74 x6.toNatClampNeg) = (σ.1 74 x4.toNatClampNeg) → (B_X11_thin_52 Q kk12 (L_X11_thin_24 Q kk12 u) x1 x2 x3 x4 x5 x6 0 σ)) ∧ ((σ.1 74 x6.toNatClampNeg) = (σ.1 74 x4.toNatClampNeg) → (B_X11_thin_52 Q kk12 (L_X11_thin_24 Q kk12 u) x1 x2 x3 x4 x5 x6 1 σ))))
set_option maxRecDepth 20000 in
set_option maxHeartbeats 2000000 in
theorem kL_X11_thin_24 {G : zv_G} {X : zv_X} {Q : Int32 → zv_St → Prop} {kk12 : Int32 → Int32 → Int32 → Int32 → zv_St → Prop} (hC : zv_C G X M_X11_thin) (hR : zv_R G X M_X11_thin (zv_qi Q)) (hk12 : ∀ (x1 : Int32) (x2 : Int32) (x3 : Int32) (x4 : Int32) (σ : zv_St), kk12 x1 x2 x3 x4 σ → zv_V G X M_X11_thin 12 [(0, .ref (G.2.2.1 45)), (1, .int x1), (2, .int x2), (3, .int x3), (4, .int x4)] [] σ) : ∀ (n : Nat) (x1 : Int32) (x2 : Int32) (x3 : Int32) (x4 : Int32) (x5 : Int32) (x6 : Int32) (σ : zv_St), L_X11_thin_24 Q kk12 n x1 x2 x3 x4 x5 x6 σ → zv_V G X M_X11_thin 24 [(0, .ref (G.2.2.1 45)), (1, .int x1), (2, .int x2), (3, .int x3), (4, .int x4), (5, .int x5), (6, .int x6)] [] σ := by
  intro n
  induction n with
  | zero => intro x1 x2 x3 x4 x5 x6 σ h; exact h.elim
  | succ n hk24 =>
    intro x1 x2 x3 x4 x5 x6 σ h
    unfold L_X11_thin_24 at h
    refine zv_iload hC dX11_thin_24 rfl ?_
    refine zv_iload_n hC dX11_thin_26 rfl ?_
    refine zv_icmp_ge (tgt := 209) hC dX11_thin_27 (by decide) (fun c => ?_) (fun c => ?_)
    · replace h := h.1 c
      refine zv_aload_n hC dX11_thin_209 rfl ?_
      refine zv_getR (j := 75) hC fl_X11_100 dX11_thin_210 rfl rfl ?_
      refine zv_iload hC dX11_thin_213 rfl ?_
      refine zv_iload hC dX11_thin_215 rfl ?_
      refine zv_zast hC dX11_thin_217 rfl h.1 ?_
      replace h := h.2 _ rfl
      refine zv_iinc (v := 1) hC dX11_thin_218 rfl (by decide) (by decide) ?_
      refine zv_goto (tgt := 12) hC dX11_thin_221 (by decide) ?_
      exact zv_go (hk12 _ _ _ _ _ h) ⟨rfl, rfl, rfl, rfl, rfl, trivial⟩
    · replace h := h.2 c
      refine zv_aload_n hC dX11_thin_30 rfl ?_
      refine zv_getR (j := 74) hC fl_X11_97 dX11_thin_31 rfl rfl ?_
      refine zv_iload hC dX11_thin_34 rfl ?_
      refine zv_iald hC dX11_thin_36 rfl h.1 ?_
      replace h := h.2
      refine zv_aload_n hC dX11_thin_37 rfl ?_
      refine zv_getR (j := 74) hC fl_X11_97 dX11_thin_38 rfl rfl ?_
      refine zv_iload hC dX11_thin_41 rfl ?_
      refine zv_iald hC dX11_thin_43 rfl h.1 ?_
      replace h := h.2
      refine zv_icmp_ne (tgt := 51) hC dX11_thin_44 (by decide) (fun c => ?_) (fun c => ?_)
      · replace h := h.1 c
        refine zv_iconst (v := 0) hC dX11_thin_51 (by decide) ?_
        exact zv_go (k_X11_thin_52 hC hR hk12 hk24 h) ⟨rfl, rfl, rfl, rfl, rfl, rfl, rfl, trivial⟩
      · replace h := h.2 c
        refine zv_iconst (v := 1) hC dX11_thin_47 (by decide) ?_
        refine zv_goto (tgt := 52) hC dX11_thin_48 (by decide) ?_
        exact zv_go (k_X11_thin_52 hC hR hk12 hk24 h) ⟨rfl, rfl, rfl, rfl, rfl, rfl, rfl, trivial⟩
def L_X11_thin_12 (Q : Int32 → zv_St → Prop) : Nat → (Int32 → Int32 → Int32 → Int32 → zv_St → Prop)
  | 0 => fun _ _ _ _ _ => False
  | u + 1 => fun x1 x2 x3 x4 σ => 
    (x3 ≤ x4 → (∃ n227, L_X11_thin_227 Q n227 x1 x2 x3 0 σ)) ∧ (¬ x3 ≤ x4 → (∃ n24, L_X11_thin_24 Q (L_X11_thin_12 Q u) n24 x1 x2 x3 x4 0 0 σ))
set_option maxRecDepth 20000 in
set_option maxHeartbeats 2000000 in
theorem kL_X11_thin_12 {G : zv_G} {X : zv_X} {Q : Int32 → zv_St → Prop}  (hC : zv_C G X M_X11_thin) (hR : zv_R G X M_X11_thin (zv_qi Q))  : ∀ (n : Nat) (x1 : Int32) (x2 : Int32) (x3 : Int32) (x4 : Int32) (σ : zv_St), L_X11_thin_12 Q  n x1 x2 x3 x4 σ → zv_V G X M_X11_thin 12 [(0, .ref (G.2.2.1 45)), (1, .int x1), (2, .int x2), (3, .int x3), (4, .int x4)] [] σ := by
  intro n
  induction n with
  | zero => intro x1 x2 x3 x4 σ h; exact h.elim
  | succ n hk12 =>
    intro x1 x2 x3 x4 σ h
    unfold L_X11_thin_12 at h
    refine zv_iload hC dX11_thin_12 rfl ?_
    refine zv_iload_n hC dX11_thin_14 rfl ?_
    refine zv_icmp_ge (tgt := 224) hC dX11_thin_15 (by decide) (fun c => ?_) (fun c => ?_)
    · replace h := h.1 c
      refine zv_iconst (v := 0) hC dX11_thin_224 (by decide) ?_
      refine zv_istore hC dX11_thin_225 (by decide) ?_
      obtain ⟨n, h⟩ := h
      exact zv_go (kL_X11_thin_227 hC hR  n _ _ _ _ _ h) ⟨rfl, rfl, rfl, rfl, rfl, trivial⟩
    · replace h := h.2 c
      refine zv_iconst (v := 0) hC dX11_thin_18 (by decide) ?_
      refine zv_istore hC dX11_thin_19 (by decide) ?_
      refine zv_iconst (v := 0) hC dX11_thin_21 (by decide) ?_
      refine zv_istore hC dX11_thin_22 (by decide) ?_
      obtain ⟨n, h⟩ := h
      exact zv_go (kL_X11_thin_24 hC hR hk12 n _ _ _ _ _ _ _ h) ⟨rfl, rfl, rfl, rfl, rfl, rfl, rfl, trivial⟩
def B_X11_thin (Q : Int32 → zv_St → Prop) (σ : zv_St) : Prop :=
  ∃ n12, L_X11_thin_12 Q n12 0 1 (σ.1 45 34) 0 σ
set_option maxRecDepth 20000 in
set_option maxHeartbeats 2000000 in
theorem k_X11_thin_0 {G : zv_G} {X : zv_X} {Q : Int32 → zv_St → Prop}  (hC : zv_C G X M_X11_thin) (hR : zv_R G X M_X11_thin (zv_qi Q))   {σ : zv_St} (h : B_X11_thin Q   σ) : zv_V G X M_X11_thin 0 [(0, .ref (G.2.2.1 45))] [] σ := by
  unfold B_X11_thin at h
  refine zv_iconst (v := 0) hC dX11_thin_0 (by decide) ?_
  refine zv_istore_n hC dX11_thin_1 (by decide) ?_
  refine zv_iconst (v := 1) hC dX11_thin_2 (by decide) ?_
  refine zv_istore_n hC dX11_thin_3 (by decide) ?_
  refine zv_aload_n hC dX11_thin_4 rfl ?_
  refine zv_getI hC fl_X11_199 dX11_thin_5 rfl rfl ?_
  refine zv_istore_n hC dX11_thin_8 (by decide) ?_
  refine zv_iconst (v := 0) hC dX11_thin_9 (by decide) ?_
  refine zv_istore hC dX11_thin_10 (by decide) ?_
  obtain ⟨n, h⟩ := h
  exact zv_go (kL_X11_thin_12 hC hR  n _ _ _ _ _ h) ⟨rfl, rfl, rfl, rfl, rfl, trivial⟩
theorem ok_X11_thin (G : zv_G) {Q : Int32 → zv_St → Prop}  {σ : zv_St} (h : B_X11_thin Q  σ) : zv_OK G M_X11_thin yX11_thin [.ref (G.2.2.1 45)] σ (zv_qi Q) := zv_ok G _ _ _ _ _ (by decide +kernel) rfl (Nat.le_of_ble_eq_true rfl) (fun X hC hR => zv_go (k_X11_thin_0 hC hR h) ⟨rfl, trivial⟩)
-- X11_newBool
def B_X11_newBool_218 (Q : Int32 → zv_St → Prop) (σ : zv_St) : Prop :=
  B_X11_so (fun r_2 σ_1 => Q r_2 σ_1) 7 0 0 σ
set_option maxRecDepth 20000 in
set_option maxHeartbeats 2000000 in
theorem k_X11_newBool_218 {G : zv_G} {X : zv_X} {Q : Int32 → zv_St → Prop}  (hC : zv_C G X M_X11_newBool) (hR : zv_R G X M_X11_newBool (zv_qi Q))   {σ : zv_St} (h : B_X11_newBool_218 Q   σ) : zv_V G X M_X11_newBool 218 [(0, .ref (G.2.2.1 45))] [] σ := by
  unfold B_X11_newBool_218 at h
  refine zv_aload_n hC dX11_newBool_218 rfl ?_
  refine zv_bipush (v := 7) hC dX11_newBool_219 (by decide) ?_
  refine zv_iconst (v := 0) hC dX11_newBool_221 (by decide) ?_
  refine zv_iconst (v := 0) hC dX11_newBool_222 (by decide) ?_
  refine zv_callVi (As := [_, _, _]) hC dX11_newBool_223 Y_X11_so lk_X11_202 (by decide) rfl rfl rfl (Nat.le_of_ble_eq_true rfl) (ok_X11_so G h) ?_
  intro r_2 σ_1 h
  exact (hR _ _ _).1 _ rfl dX11_newBool_226 ⟨_, rfl, h⟩
def B_X11_newBool_358 (Q : Int32 → zv_St → Prop) (y0 : Int32) (σ : zv_St) : Prop :=
  Q y0 σ
set_option maxRecDepth 20000 in
set_option maxHeartbeats 2000000 in
theorem k_X11_newBool_358 {G : zv_G} {X : zv_X} {Q : Int32 → zv_St → Prop}  (hC : zv_C G X M_X11_newBool) (hR : zv_R G X M_X11_newBool (zv_qi Q))  {y0 : Int32} {σ : zv_St} (h : B_X11_newBool_358 Q  y0 σ) : zv_V G X M_X11_newBool 358 [] [.int y0] σ := by
  unfold B_X11_newBool_358 at h
  exact (hR _ _ _).1 _ rfl dX11_newBool_358 ⟨_, rfl, h⟩
def B_X11_newBool_351 (Q : Int32 → zv_St → Prop) (x2 : Int32) (σ : zv_St) : Prop :=
  B_X11_so (fun r_2 σ_1 => B_X11_newBool_358 Q r_2 σ_1) 2 x2 0 σ
set_option maxRecDepth 20000 in
set_option maxHeartbeats 2000000 in
theorem k_X11_newBool_351 {G : zv_G} {X : zv_X} {Q : Int32 → zv_St → Prop}  (hC : zv_C G X M_X11_newBool) (hR : zv_R G X M_X11_newBool (zv_qi Q))  {x2 : Int32} {σ : zv_St} (h : B_X11_newBool_351 Q  x2 σ) : zv_V G X M_X11_newBool 351 [(0, .ref (G.2.2.1 45)), (2, .int x2)] [] σ := by
  unfold B_X11_newBool_351 at h
  refine zv_aload_n hC dX11_newBool_351 rfl ?_
  refine zv_iconst (v := 2) hC dX11_newBool_352 (by decide) ?_
  refine zv_iload_n hC dX11_newBool_353 rfl ?_
  refine zv_iconst (v := 0) hC dX11_newBool_354 (by decide) ?_
  refine zv_callVi (As := [_, _, _]) hC dX11_newBool_355 Y_X11_so lk_X11_202 (by decide) rfl rfl rfl (Nat.le_of_ble_eq_true rfl) (ok_X11_so G h) ?_
  intro r_2 σ_1 h
  exact zv_go (k_X11_newBool_358 hC hR  h) trivial
def B_X11_newBool_309 (Q : Int32 → zv_St → Prop) (x2 : Int32) (σ : zv_St) : Prop :=
  B_X11_thin (fun r_2 σ_1 => (¬ r_2 = 0 → ((¬ (σ_1.1 45 34) = 1 → (B_X11_newBool_351 Q x2 σ_1)) ∧ ((σ_1.1 45 34) = 1 → (vp_in 0 80 ∧ (¬ (σ_1.1 73 (0 : Int32).toNatClampNeg) = 0 → (B_X11_newBool_351 Q x2 σ_1)) ∧ ((σ_1.1 73 (0 : Int32).toNatClampNeg) = 0 → (vp_in 0 80 ∧ B_X11_newBool_358 Q (σ_1.1 74 (0 : Int32).toNatClampNeg) σ_1)))))) ∧ (r_2 = 0 → (B_X11_so (fun r_4 σ_3 => Q r_4 σ_3) 7 0 0 σ_1))) σ
set_option maxRecDepth 20000 in
set_option maxHeartbeats 2000000 in
theorem k_X11_newBool_309 {G : zv_G} {X : zv_X} {Q : Int32 → zv_St → Prop}  (hC : zv_C G X M_X11_newBool) (hR : zv_R G X M_X11_newBool (zv_qi Q))  {x2 : Int32} {σ : zv_St} (h : B_X11_newBool_309 Q  x2 σ) : zv_V G X M_X11_newBool 309 [(0, .ref (G.2.2.1 45)), (2, .int x2)] [] σ := by
  unfold B_X11_newBool_309 at h
  refine zv_aload_n hC dX11_newBool_309 rfl ?_
  refine zv_callVi (As := []) hC dX11_newBool_310 Y_X11_thin lk_X11_216 (by decide) rfl rfl rfl (Nat.le_of_ble_eq_true rfl) (ok_X11_thin G h) ?_
  intro r_2 σ_1 h
  refine zv_if_ne (tgt := 325) hC dX11_newBool_313 (by decide) (fun c => ?_) (fun c => ?_)
  · replace h := h.1 c
    refine zv_aload_n hC dX11_newBool_325 rfl ?_
    refine zv_getI hC fl_X11_199 dX11_newBool_326 rfl rfl ?_
    refine zv_iconst (v := 1) hC dX11_newBool_329 (by decide) ?_
    refine zv_icmp_ne (tgt := 351) hC dX11_newBool_330 (by decide) (fun c => ?_) (fun c => ?_)
    · replace h := h.1 c
      exact zv_go (k_X11_newBool_351 hC hR  h) ⟨rfl, rfl, trivial⟩
    · replace h := h.2 c
      refine zv_aload_n hC dX11_newBool_333 rfl ?_
      refine zv_getR (j := 73) hC fl_X11_94 dX11_newBool_334 rfl rfl ?_
      refine zv_iconst (v := 0) hC dX11_newBool_337 (by decide) ?_
      refine zv_iald hC dX11_newBool_338 rfl h.1 ?_
      replace h := h.2
      refine zv_if_ne (tgt := 351) hC dX11_newBool_339 (by decide) (fun c => ?_) (fun c => ?_)
      · replace h := h.1 c
        exact zv_go (k_X11_newBool_351 hC hR  h) ⟨rfl, rfl, trivial⟩
      · replace h := h.2 c
        refine zv_aload_n hC dX11_newBool_342 rfl ?_
        refine zv_getR (j := 74) hC fl_X11_97 dX11_newBool_343 rfl rfl ?_
        refine zv_iconst (v := 0) hC dX11_newBool_346 (by decide) ?_
        refine zv_iald hC dX11_newBool_347 rfl h.1 ?_
        replace h := h.2
        refine zv_goto (tgt := 358) hC dX11_newBool_348 (by decide) ?_
        exact zv_go (k_X11_newBool_358 hC hR  h) trivial
  · replace h := h.2 c
    refine zv_aload_n hC dX11_newBool_316 rfl ?_
    refine zv_bipush (v := 7) hC dX11_newBool_317 (by decide) ?_
    refine zv_iconst (v := 0) hC dX11_newBool_319 (by decide) ?_
    refine zv_iconst (v := 0) hC dX11_newBool_320 (by decide) ?_
    refine zv_callVi (As := [_, _, _]) hC dX11_newBool_321 Y_X11_so lk_X11_202 (by decide) rfl rfl rfl (Nat.le_of_ble_eq_true rfl) (ok_X11_so G h) ?_
    intro r_4 σ_3 h
    exact (hR _ _ _).1 _ rfl dX11_newBool_324 ⟨_, rfl, h⟩
def B_X11_newBool_302 (Q : Int32 → zv_St → Prop) (kk265 : Int32 → Int32 → zv_St → Prop) (x2 : Int32) (x4 : Int32) (y1 : Int32) (y2 : Int32) (σ : zv_St) : Prop :=
  vp_in y1 80 ∧ ∀ σ_1 : zv_St, σ_1 = zv_wi σ 73 y1.toNatClampNeg y2 → kk265 x2 (x4 + 1) σ_1
set_option maxRecDepth 20000 in
set_option maxHeartbeats 2000000 in
theorem k_X11_newBool_302 {G : zv_G} {X : zv_X} {Q : Int32 → zv_St → Prop} {kk265 : Int32 → Int32 → zv_St → Prop} (hC : zv_C G X M_X11_newBool) (hR : zv_R G X M_X11_newBool (zv_qi Q)) (hk265 : ∀ (x2 : Int32) (x4 : Int32) (σ : zv_St), kk265 x2 x4 σ → zv_V G X M_X11_newBool 265 [(0, .ref (G.2.2.1 45)), (2, .int x2), (4, .int x4)] [] σ) {x2 : Int32} {x4 : Int32} {y1 : Int32} {y2 : Int32} {σ : zv_St} (h : B_X11_newBool_302 Q kk265 x2 x4 y1 y2 σ) : zv_V G X M_X11_newBool 302 [(0, .ref (G.2.2.1 45)), (2, .int x2), (4, .int x4)] [.int y2, .int y1, .ref (G.2.2.1 73)] σ := by
  unfold B_X11_newBool_302 at h
  refine zv_iast hC dX11_newBool_302 rfl h.1 ?_
  replace h := h.2 _ rfl
  refine zv_iinc (v := 1) hC dX11_newBool_303 rfl (by decide) (by decide) ?_
  refine zv_goto (tgt := 265) hC dX11_newBool_306 (by decide) ?_
  exact zv_go (hk265 _ _ _ h) ⟨rfl, rfl, rfl, trivial⟩
def L_X11_newBool_265 (Q : Int32 → zv_St → Prop) : Nat → (Int32 → Int32 → zv_St → Prop)
  | 0 => fun _ _ _ => False
  | u + 1 => fun x2 x4 σ => 
    ((σ.1 45 34) ≤ x4 → (B_X11_newBool_309 Q x2 σ)) ∧ (¬ (σ.1 45 34) ≤ x4 → (vp_in x4 80 ∧ (¬ (σ.1 73 x4.toNatClampNeg) = 3 → (vp_in x4 80 ∧ B_X11_newBool_302 Q (L_X11_newBool_265 Q u) x2 x4 x4 (σ.1 73 x4.toNatClampNeg) σ)) ∧ ((σ.1 73 x4.toNatClampNeg) = 3 → (B_X11_newBool_302 Q (L_X11_newBool_265 Q u) x2 x4 x4 0 σ))))
set_option maxRecDepth 20000 in
set_option maxHeartbeats 2000000 in
theorem kL_X11_newBool_265 {G : zv_G} {X : zv_X} {Q : Int32 → zv_St → Prop}  (hC : zv_C G X M_X11_newBool) (hR : zv_R G X M_X11_newBool (zv_qi Q))  : ∀ (n : Nat) (x2 : Int32) (x4 : Int32) (σ : zv_St), L_X11_newBool_265 Q  n x2 x4 σ → zv_V G X M_X11_newBool 265 [(0, .ref (G.2.2.1 45)), (2, .int x2), (4, .int x4)] [] σ := by
  intro n
  induction n with
  | zero => intro x2 x4 σ h; exact h.elim
  | succ n hk265 =>
    intro x2 x4 σ h
    unfold L_X11_newBool_265 at h
    refine zv_iload hC dX11_newBool_265 rfl ?_
    refine zv_aload_n hC dX11_newBool_267 rfl ?_
    refine zv_getI hC fl_X11_199 dX11_newBool_268 rfl rfl ?_
    refine zv_icmp_ge (tgt := 309) hC dX11_newBool_271 (by decide) (fun c => ?_) (fun c => ?_)
    · replace h := h.1 c
      exact zv_go (k_X11_newBool_309 hC hR  h) ⟨rfl, rfl, trivial⟩
    · replace h := h.2 c
      refine zv_aload_n hC dX11_newBool_274 rfl ?_
      refine zv_getR (j := 73) hC fl_X11_94 dX11_newBool_275 rfl rfl ?_
      refine zv_iload hC dX11_newBool_278 rfl ?_
      refine zv_aload_n hC dX11_newBool_280 rfl ?_
      refine zv_getR (j := 73) hC fl_X11_94 dX11_newBool_281 rfl rfl ?_
      refine zv_iload hC dX11_newBool_284 rfl ?_
      refine zv_iald hC dX11_newBool_286 rfl h.1 ?_
      replace h := h.2
      refine zv_iconst (v := 3) hC dX11_newBool_287 (by decide) ?_
      refine zv_icmp_ne (tgt := 295) hC dX11_newBool_288 (by decide) (fun c => ?_) (fun c => ?_)
      · replace h := h.1 c
        refine zv_aload_n hC dX11_newBool_295 rfl ?_
        refine zv_getR (j := 73) hC fl_X11_94 dX11_newBool_296 rfl rfl ?_
        refine zv_iload hC dX11_newBool_299 rfl ?_
        refine zv_iald hC dX11_newBool_301 rfl h.1 ?_
        replace h := h.2
        exact zv_go (k_X11_newBool_302 hC hR hk265 h) ⟨rfl, rfl, rfl, trivial⟩
      · replace h := h.2 c
        refine zv_iconst (v := 0) hC dX11_newBool_291 (by decide) ?_
        refine zv_goto (tgt := 302) hC dX11_newBool_292 (by decide) ?_
        exact zv_go (k_X11_newBool_302 hC hR hk265 h) ⟨rfl, rfl, rfl, trivial⟩
def B_X11_newBool_250 (Q : Int32 → zv_St → Prop) (x3 : Int32) (y0 : Int32) (σ : zv_St) : Prop :=
  (y0 ≤ 0 → (B_X11_newBool_309 Q y0 σ)) ∧ (¬ y0 ≤ 0 → ((¬ y0 = x3 → (B_X11_newBool_309 Q y0 σ)) ∧ (y0 = x3 → (∃ n265, L_X11_newBool_265 Q n265 0 0 σ))))
set_option maxRecDepth 20000 in
set_option maxHeartbeats 2000000 in
theorem k_X11_newBool_250 {G : zv_G} {X : zv_X} {Q : Int32 → zv_St → Prop}  (hC : zv_C G X M_X11_newBool) (hR : zv_R G X M_X11_newBool (zv_qi Q))  {x3 : Int32} {y0 : Int32} {σ : zv_St} (h : B_X11_newBool_250 Q  x3 y0 σ) : zv_V G X M_X11_newBool 250 [(0, .ref (G.2.2.1 45)), (3, .int x3)] [.int y0] σ := by
  unfold B_X11_newBool_250 at h
  refine zv_istore_n hC dX11_newBool_250 (by decide) ?_
  refine zv_iload_n hC dX11_newBool_251 rfl ?_
  refine zv_if_le (tgt := 309) hC dX11_newBool_252 (by decide) (fun c => ?_) (fun c => ?_)
  · replace h := h.1 c
    exact zv_go (k_X11_newBool_309 hC hR  h) ⟨rfl, rfl, trivial⟩
  · replace h := h.2 c
    refine zv_iload_n hC dX11_newBool_255 rfl ?_
    refine zv_iload_n hC dX11_newBool_256 rfl ?_
    refine zv_icmp_ne (tgt := 309) hC dX11_newBool_257 (by decide) (fun c => ?_) (fun c => ?_)
    · replace h := h.1 c
      exact zv_go (k_X11_newBool_309 hC hR  h) ⟨rfl, rfl, trivial⟩
    · replace h := h.2 c
      refine zv_iconst (v := 0) hC dX11_newBool_260 (by decide) ?_
      refine zv_istore_n hC dX11_newBool_261 (by decide) ?_
      refine zv_iconst (v := 0) hC dX11_newBool_262 (by decide) ?_
      refine zv_istore hC dX11_newBool_263 (by decide) ?_
      obtain ⟨n, h⟩ := h
      exact zv_go (kL_X11_newBool_265 hC hR  n _ _ _ h) ⟨rfl, rfl, rfl, trivial⟩
def B_X11_newBool_249 (Q : Int32 → zv_St → Prop) (x2 : Int32) (x3 : Int32) (σ : zv_St) : Prop :=
  B_X11_newBool_250 Q x3 x2 σ
set_option maxRecDepth 20000 in
set_option maxHeartbeats 2000000 in
theorem k_X11_newBool_249 {G : zv_G} {X : zv_X} {Q : Int32 → zv_St → Prop}  (hC : zv_C G X M_X11_newBool) (hR : zv_R G X M_X11_newBool (zv_qi Q))  {x2 : Int32} {x3 : Int32} {σ : zv_St} (h : B_X11_newBool_249 Q  x2 x3 σ) : zv_V G X M_X11_newBool 249 [(0, .ref (G.2.2.1 45)), (2, .int x2), (3, .int x3)] [] σ := by
  unfold B_X11_newBool_249 at h
  refine zv_iload_n hC dX11_newBool_249 rfl ?_
  exact zv_go (k_X11_newBool_250 hC hR  h) ⟨rfl, rfl, trivial⟩
def B_X11_newBool_185 (Q : Int32 → zv_St → Prop) (kk14 : Int32 → Int32 → Int32 → zv_St → Prop) (x1 : Int32) (x2 : Int32) (x3 : Int32) (σ : zv_St) : Prop :=
  kk14 x1 x2 (x3 + 1) σ
set_option maxRecDepth 20000 in
set_option maxHeartbeats 2000000 in
theorem k_X11_newBool_185 {G : zv_G} {X : zv_X} {Q : Int32 → zv_St → Prop} {kk14 : Int32 → Int32 → Int32 → zv_St → Prop} (hC : zv_C G X M_X11_newBool) (hR : zv_R G X M_X11_newBool (zv_qi Q)) (hk14 : ∀ (x1 : Int32) (x2 : Int32) (x3 : Int32) (σ : zv_St), kk14 x1 x2 x3 σ → zv_V G X M_X11_newBool 14 [(0, .ref (G.2.2.1 45)), (1, .int x1), (2, .int x2), (3, .int x3)] [] σ) {x1 : Int32} {x2 : Int32} {x3 : Int32} {σ : zv_St} (h : B_X11_newBool_185 Q kk14 x1 x2 x3 σ) : zv_V G X M_X11_newBool 185 [(0, .ref (G.2.2.1 45)), (1, .int x1), (2, .int x2), (3, .int x3)] [] σ := by
  unfold B_X11_newBool_185 at h
  refine zv_iinc (v := 1) hC dX11_newBool_185 rfl (by decide) (by decide) ?_
  refine zv_goto (tgt := 14) hC dX11_newBool_188 (by decide) ?_
  exact zv_go (hk14 _ _ _ _ h) ⟨rfl, rfl, rfl, rfl, trivial⟩
def B_X11_newBool_152 (Q : Int32 → zv_St → Prop) (kk14 : Int32 → Int32 → Int32 → zv_St → Prop) (kk107 : Int32 → Int32 → Int32 → Int32 → Int32 → Int32 → zv_St → Prop) (x1 : Int32) (x2 : Int32) (x3 : Int32) (x4 : Int32) (x5 : Int32) (x6 : Int32) (y1 : Int32) (σ : zv_St) : Prop :=
  vp_in ((8 * x5) + x6) 640 ∧ B_X11_lay (fun σ_1 => kk107 x1 x2 x3 x4 x5 (x6 + 1) σ_1) y1 (σ.1 53 ((8 * x5) + x6).toNatClampNeg) σ
set_option maxRecDepth 20000 in
set_option maxHeartbeats 2000000 in
theorem k_X11_newBool_152 {G : zv_G} {X : zv_X} {Q : Int32 → zv_St → Prop} {kk14 : Int32 → Int32 → Int32 → zv_St → Prop} {kk107 : Int32 → Int32 → Int32 → Int32 → Int32 → Int32 → zv_St → Prop} (hC : zv_C G X M_X11_newBool) (hR : zv_R G X M_X11_newBool (zv_qi Q)) (hk14 : ∀ (x1 : Int32) (x2 : Int32) (x3 : Int32) (σ : zv_St), kk14 x1 x2 x3 σ → zv_V G X M_X11_newBool 14 [(0, .ref (G.2.2.1 45)), (1, .int x1), (2, .int x2), (3, .int x3)] [] σ) (hk107 : ∀ (x1 : Int32) (x2 : Int32) (x3 : Int32) (x4 : Int32) (x5 : Int32) (x6 : Int32) (σ : zv_St), kk107 x1 x2 x3 x4 x5 x6 σ → zv_V G X M_X11_newBool 107 [(0, .ref (G.2.2.1 45)), (1, .int x1), (2, .int x2), (3, .int x3), (4, .int x4), (5, .int x5), (6, .int x6)] [] σ) {x1 : Int32} {x2 : Int32} {x3 : Int32} {x4 : Int32} {x5 : Int32} {x6 : Int32} {y1 : Int32} {σ : zv_St} (h : B_X11_newBool_152 Q kk14 kk107 x1 x2 x3 x4 x5 x6 y1 σ) : zv_V G X M_X11_newBool 152 [(0, .ref (G.2.2.1 45)), (1, .int x1), (2, .int x2), (3, .int x3), (4, .int x4), (5, .int x5), (6, .int x6)] [.int y1, .ref (G.2.2.1 45)] σ := by
  unfold B_X11_newBool_152 at h
  refine zv_aload_n hC dX11_newBool_152 rfl ?_
  refine zv_getR (j := 53) hC fl_X11_31 dX11_newBool_153 rfl rfl ?_
  refine zv_bipush (v := 8) hC dX11_newBool_156 (by decide) ?_
  refine zv_iload hC dX11_newBool_158 rfl ?_
  refine zv_imul hC dX11_newBool_160 ?_
  refine zv_iload hC dX11_newBool_161 rfl ?_
  refine zv_iadd hC dX11_newBool_163 ?_
  refine zv_iald hC dX11_newBool_164 rfl h.1 ?_
  replace h := h.2
  refine zv_callVv (As := [_, _]) hC dX11_newBool_165 Y_X11_lay lk_X11_206 (by decide) rfl rfl rfl (Nat.le_of_ble_eq_true rfl) (ok_X11_lay G h) ?_
  intro σ_1 h
  refine zv_iinc (v := 1) hC dX11_newBool_168 rfl (by decide) (by decide) ?_
  refine zv_goto (tgt := 107) hC dX11_newBool_171 (by decide) ?_
  exact zv_go (hk107 _ _ _ _ _ _ _ h) ⟨rfl, rfl, rfl, rfl, rfl, rfl, rfl, trivial⟩
def B_X11_newBool_150 (Q : Int32 → zv_St → Prop) (kk14 : Int32 → Int32 → Int32 → zv_St → Prop) (kk107 : Int32 → Int32 → Int32 → Int32 → Int32 → Int32 → zv_St → Prop) (x1 : Int32) (x2 : Int32) (x3 : Int32) (x4 : Int32) (x5 : Int32) (x6 : Int32) (x7 : Int32) (σ : zv_St) : Prop :=
  B_X11_newBool_152 Q kk14 kk107 x1 x2 x3 x4 x5 x6 x7 σ
set_option maxRecDepth 20000 in
set_option maxHeartbeats 2000000 in
theorem k_X11_newBool_150 {G : zv_G} {X : zv_X} {Q : Int32 → zv_St → Prop} {kk14 : Int32 → Int32 → Int32 → zv_St → Prop} {kk107 : Int32 → Int32 → Int32 → Int32 → Int32 → Int32 → zv_St → Prop} (hC : zv_C G X M_X11_newBool) (hR : zv_R G X M_X11_newBool (zv_qi Q)) (hk14 : ∀ (x1 : Int32) (x2 : Int32) (x3 : Int32) (σ : zv_St), kk14 x1 x2 x3 σ → zv_V G X M_X11_newBool 14 [(0, .ref (G.2.2.1 45)), (1, .int x1), (2, .int x2), (3, .int x3)] [] σ) (hk107 : ∀ (x1 : Int32) (x2 : Int32) (x3 : Int32) (x4 : Int32) (x5 : Int32) (x6 : Int32) (σ : zv_St), kk107 x1 x2 x3 x4 x5 x6 σ → zv_V G X M_X11_newBool 107 [(0, .ref (G.2.2.1 45)), (1, .int x1), (2, .int x2), (3, .int x3), (4, .int x4), (5, .int x5), (6, .int x6)] [] σ) {x1 : Int32} {x2 : Int32} {x3 : Int32} {x4 : Int32} {x5 : Int32} {x6 : Int32} {x7 : Int32} {σ : zv_St} (h : B_X11_newBool_150 Q kk14 kk107 x1 x2 x3 x4 x5 x6 x7 σ) : zv_V G X M_X11_newBool 150 [(0, .ref (G.2.2.1 45)), (1, .int x1), (2, .int x2), (3, .int x3), (4, .int x4), (5, .int x5), (6, .int x6), (7, .int x7)] [.ref (G.2.2.1 45)] σ := by
  unfold B_X11_newBool_150 at h
  refine zv_iload hC dX11_newBool_150 rfl ?_
  exact zv_go (k_X11_newBool_152 hC hR hk14 hk107 h) ⟨rfl, rfl, rfl, rfl, rfl, rfl, rfl, trivial⟩
def L_X11_newBool_107 (Q : Int32 → zv_St → Prop) (kk14 : Int32 → Int32 → Int32 → zv_St → Prop) : Nat → (Int32 → Int32 → Int32 → Int32 → Int32 → Int32 → zv_St → Prop)
  | 0 => fun _ _ _ _ _ _ _ => False
  | u + 1 => fun x1 x2 x3 x4 x5 x6 σ => 
    vp_in x5 80 ∧ ((σ.1 51 x5.toNatClampNeg) ≤ x6 → (B_X11_newBool_185 Q kk14 x1 x2 x3 σ)) ∧ (¬ (σ.1 51 x5.toNatClampNeg) ≤ x6 → (vp_in ((8 * x5) + x6) 640 ∧ ∀ v_1 : Int32, v_1 = (σ.1 52 ((8 * x5) + x6).toNatClampNeg) → (¬ x4 = 1 → (B_X11_newBool_150 Q kk14 (L_X11_newBool_107 Q kk14 u) x1 x2 x3 x4 x5 x6 v_1 σ)) ∧ (x4 = 1 → ((¬ v_1 = 0 → (B_X11_newBool_150 Q kk14 (L_X11_newBool_107 Q kk14 u) x1 x2 x3 x4 x5 x6 v_1 σ)) ∧ (v_1 = 0 → (B_X11_newBool_152 Q kk14 (L_X11_newBool_107 Q kk14 u) x1 x2 x3 x4 x5 x6 1 σ))))))
set_option maxRecDepth 20000 in
set_option maxHeartbeats 2000000 in
theorem kL_X11_newBool_107 {G : zv_G} {X : zv_X} {Q : Int32 → zv_St → Prop} {kk14 : Int32 → Int32 → Int32 → zv_St → Prop} (hC : zv_C G X M_X11_newBool) (hR : zv_R G X M_X11_newBool (zv_qi Q)) (hk14 : ∀ (x1 : Int32) (x2 : Int32) (x3 : Int32) (σ : zv_St), kk14 x1 x2 x3 σ → zv_V G X M_X11_newBool 14 [(0, .ref (G.2.2.1 45)), (1, .int x1), (2, .int x2), (3, .int x3)] [] σ) : ∀ (n : Nat) (x1 : Int32) (x2 : Int32) (x3 : Int32) (x4 : Int32) (x5 : Int32) (x6 : Int32) (σ : zv_St), L_X11_newBool_107 Q kk14 n x1 x2 x3 x4 x5 x6 σ → zv_V G X M_X11_newBool 107 [(0, .ref (G.2.2.1 45)), (1, .int x1), (2, .int x2), (3, .int x3), (4, .int x4), (5, .int x5), (6, .int x6)] [] σ := by
  intro n
  induction n with
  | zero => intro x1 x2 x3 x4 x5 x6 σ h; exact h.elim
  | succ n hk107 =>
    intro x1 x2 x3 x4 x5 x6 σ h
    unfold L_X11_newBool_107 at h
    refine zv_iload hC dX11_newBool_107 rfl ?_
    refine zv_aload_n hC dX11_newBool_109 rfl ?_
    refine zv_getR (j := 51) hC fl_X11_25 dX11_newBool_110 rfl rfl ?_
    refine zv_iload hC dX11_newBool_113 rfl ?_
    refine zv_iald hC dX11_newBool_115 rfl h.1 ?_
    replace h := h.2
    refine zv_icmp_ge (tgt := 174) hC dX11_newBool_116 (by decide) (fun c => ?_) (fun c => ?_)
    · replace h := h.1 c
      refine zv_goto (tgt := 185) hC dX11_newBool_174 (by decide) ?_
      exact zv_go (k_X11_newBool_185 hC hR hk14 h) ⟨rfl, rfl, rfl, rfl, trivial⟩
    · replace h := h.2 c
      refine zv_aload_n hC dX11_newBool_119 rfl ?_
      refine zv_getR (j := 52) hC fl_X11_28 dX11_newBool_120 rfl rfl ?_
      refine zv_bipush (v := 8) hC dX11_newBool_123 (by decide) ?_
      refine zv_iload hC dX11_newBool_125 rfl ?_
      refine zv_imul hC dX11_newBool_127 ?_
      refine zv_iload hC dX11_newBool_128 rfl ?_
      refine zv_iadd hC dX11_newBool_130 ?_
      refine zv_iald hC dX11_newBool_131 rfl h.1 ?_
      replace h := h.2
      replace h := h _ rfl
      refine zv_istore hC dX11_newBool_132 (by decide) ?_
      refine zv_aload_n hC dX11_newBool_134 rfl ?_
      refine zv_iload hC dX11_newBool_135 rfl ?_
      refine zv_iconst (v := 1) hC dX11_newBool_137 (by decide) ?_
      refine zv_icmp_ne (tgt := 150) hC dX11_newBool_138 (by decide) (fun c => ?_) (fun c => ?_)
      · replace h := h.1 c
        exact zv_go (k_X11_newBool_150 hC hR hk14 hk107 h) ⟨rfl, rfl, rfl, rfl, rfl, rfl, rfl, rfl, trivial⟩
      · replace h := h.2 c
        refine zv_iload hC dX11_newBool_141 rfl ?_
        refine zv_if_ne (tgt := 150) hC dX11_newBool_143 (by decide) (fun c => ?_) (fun c => ?_)
        · replace h := h.1 c
          exact zv_go (k_X11_newBool_150 hC hR hk14 hk107 h) ⟨rfl, rfl, rfl, rfl, rfl, rfl, rfl, rfl, trivial⟩
        · replace h := h.2 c
          refine zv_iconst (v := 1) hC dX11_newBool_146 (by decide) ?_
          refine zv_goto (tgt := 152) hC dX11_newBool_147 (by decide) ?_
          exact zv_go (k_X11_newBool_152 hC hR hk14 hk107 h) ⟨rfl, rfl, rfl, rfl, rfl, rfl, rfl, trivial⟩
def L_X11_newBool_14 (Q : Int32 → zv_St → Prop) : Nat → (Int32 → Int32 → Int32 → zv_St → Prop)
  | 0 => fun _ _ _ _ => False
  | u + 1 => fun x1 x2 x3 σ => 
    vp_in x1 80 ∧ ((σ.1 51 x1.toNatClampNeg) ≤ x3 → (B_X11_count (fun r_2 σ_1 => (r_2 < x2 → (B_X11_newBool_218 Q σ_1)) ∧ (¬ r_2 < x2 → (B_X11_count (fun r_4 σ_3 => B_X11_count (fun r_6 σ_5 => (¬ ((r_4 + r_6) + r_2) = 0 → (B_X11_count (fun r_8 σ_7 => B_X11_count (fun r_10 σ_9 => (¬ (r_8 + r_10) = 0 → (B_X11_newBool_249 Q x2 r_2 σ_9)) ∧ ((r_8 + r_10) = 0 → ((¬ x2 = 0 → (B_X11_newBool_249 Q x2 r_2 σ_9)) ∧ (x2 = 0 → (B_X11_newBool_250 Q r_2 1 σ_9))))) 1 σ_7) 0 σ_5)) ∧ (((r_4 + r_6) + r_2) = 0 → (B_X11_newBool_218 Q σ_5))) 1 σ_3) 0 σ_1))) 3 σ)) ∧ (¬ (σ.1 51 x1.toNatClampNeg) ≤ x3 → (vp_in ((8 * x1) + x3) 640 ∧ ∀ v_11 : Int32, v_11 = (σ.1 52 ((8 * x1) + x3).toNatClampNeg) → vp_in ((8 * x1) + x3) 640 ∧ vp_in (σ.1 53 ((8 * x1) + x3).toNatClampNeg) 80 ∧ ∀ v_12 : Int32, v_12 = (σ.1 72 (σ.1 53 ((8 * x1) + x3).toNatClampNeg).toNatClampNeg) → vp_in v_12 80 ∧ (¬ (σ.1 48 v_12.toNatClampNeg) = 7 → (vp_in x1 80 ∧ B_X11_opens (fun r_14 σ_13 => (r_14 = 0 → (B_X11_lay (fun σ_15 => B_X11_newBool_185 Q (L_X11_newBool_14 Q u) x1 x2 x3 σ_15) v_11 v_12 σ_13)) ∧ (¬ r_14 = 0 → (∃ n107, L_X11_newBool_107 Q (L_X11_newBool_14 Q u) n107 x1 x2 x3 v_11 v_12 0 σ_13))) x2 v_11 v_12 (((σ.1 51 x1.toNatClampNeg) - x3) - 1) σ)) ∧ ((σ.1 48 v_12.toNatClampNeg) = 7 → ((2 ≤ v_11 → (B_X11_newBool_185 Q (L_X11_newBool_14 Q u) x1 x2 x3 σ)) ∧ (¬ 2 ≤ v_11 → (B_X11_so (fun r_17 σ_16 => Q r_17 σ_16) 7 0 0 σ))))))
set_option maxRecDepth 20000 in
set_option maxHeartbeats 2000000 in
theorem kL_X11_newBool_14 {G : zv_G} {X : zv_X} {Q : Int32 → zv_St → Prop}  (hC : zv_C G X M_X11_newBool) (hR : zv_R G X M_X11_newBool (zv_qi Q))  : ∀ (n : Nat) (x1 : Int32) (x2 : Int32) (x3 : Int32) (σ : zv_St), L_X11_newBool_14 Q  n x1 x2 x3 σ → zv_V G X M_X11_newBool 14 [(0, .ref (G.2.2.1 45)), (1, .int x1), (2, .int x2), (3, .int x3)] [] σ := by
  intro n
  induction n with
  | zero => intro x1 x2 x3 σ h; exact h.elim
  | succ n hk14 =>
    intro x1 x2 x3 σ h
    unfold L_X11_newBool_14 at h
    refine zv_iload_n hC dX11_newBool_14 rfl ?_
    refine zv_aload_n hC dX11_newBool_15 rfl ?_
    refine zv_getR (j := 51) hC fl_X11_25 dX11_newBool_16 rfl rfl ?_
    refine zv_iload_n hC dX11_newBool_19 rfl ?_
    refine zv_iald hC dX11_newBool_20 rfl h.1 ?_
    replace h := h.2
    refine zv_icmp_ge (tgt := 191) hC dX11_newBool_21 (by decide) (fun c => ?_) (fun c => ?_)
    · replace h := h.1 c
      refine zv_aload_n hC dX11_newBool_191 rfl ?_
      refine zv_iconst (v := 3) hC dX11_newBool_192 (by decide) ?_
      refine zv_callVi (As := [_]) hC dX11_newBool_193 Y_X11_count lk_X11_213 (by decide) rfl rfl rfl (Nat.le_of_ble_eq_true rfl) (ok_X11_count G h) ?_
      intro r_2 σ_1 h
      refine zv_istore_n hC dX11_newBool_196 (by decide) ?_
      refine zv_iload_n hC dX11_newBool_197 rfl ?_
      refine zv_iload_n hC dX11_newBool_198 rfl ?_
      refine zv_icmp_gt (tgt := 218) hC dX11_newBool_199 (by decide) (fun c => ?_) (fun c => ?_)
      · replace h := h.1 c
        exact zv_go (k_X11_newBool_218 hC hR  h) ⟨rfl, trivial⟩
      · replace h := h.2 c
        refine zv_aload_n hC dX11_newBool_202 rfl ?_
        refine zv_iconst (v := 0) hC dX11_newBool_203 (by decide) ?_
        refine zv_callVi (As := [_]) hC dX11_newBool_204 Y_X11_count lk_X11_213 (by decide) rfl rfl rfl (Nat.le_of_ble_eq_true rfl) (ok_X11_count G h) ?_
        intro r_4 σ_3 h
        refine zv_aload_n hC dX11_newBool_207 rfl ?_
        refine zv_iconst (v := 1) hC dX11_newBool_208 (by decide) ?_
        refine zv_callVi (As := [_]) hC dX11_newBool_209 Y_X11_count lk_X11_213 (by decide) rfl rfl rfl (Nat.le_of_ble_eq_true rfl) (ok_X11_count G h) ?_
        intro r_6 σ_5 h
        refine zv_iadd hC dX11_newBool_212 ?_
        refine zv_iload_n hC dX11_newBool_213 rfl ?_
        refine zv_iadd hC dX11_newBool_214 ?_
        refine zv_if_ne (tgt := 227) hC dX11_newBool_215 (by decide) (fun c => ?_) (fun c => ?_)
        · replace h := h.1 c
          refine zv_aload_n hC dX11_newBool_227 rfl ?_
          refine zv_iconst (v := 0) hC dX11_newBool_228 (by decide) ?_
          refine zv_callVi (As := [_]) hC dX11_newBool_229 Y_X11_count lk_X11_213 (by decide) rfl rfl rfl (Nat.le_of_ble_eq_true rfl) (ok_X11_count G h) ?_
          intro r_8 σ_7 h
          refine zv_aload_n hC dX11_newBool_232 rfl ?_
          refine zv_iconst (v := 1) hC dX11_newBool_233 (by decide) ?_
          refine zv_callVi (As := [_]) hC dX11_newBool_234 Y_X11_count lk_X11_213 (by decide) rfl rfl rfl (Nat.le_of_ble_eq_true rfl) (ok_X11_count G h) ?_
          intro r_10 σ_9 h
          refine zv_iadd hC dX11_newBool_237 ?_
          refine zv_if_ne (tgt := 249) hC dX11_newBool_238 (by decide) (fun c => ?_) (fun c => ?_)
          · replace h := h.1 c
            exact zv_go (k_X11_newBool_249 hC hR  h) ⟨rfl, rfl, rfl, trivial⟩
          · replace h := h.2 c
            refine zv_iload_n hC dX11_newBool_241 rfl ?_
            refine zv_if_ne (tgt := 249) hC dX11_newBool_242 (by decide) (fun c => ?_) (fun c => ?_)
            · replace h := h.1 c
              exact zv_go (k_X11_newBool_249 hC hR  h) ⟨rfl, rfl, rfl, trivial⟩
            · replace h := h.2 c
              refine zv_iconst (v := 1) hC dX11_newBool_245 (by decide) ?_
              refine zv_goto (tgt := 250) hC dX11_newBool_246 (by decide) ?_
              exact zv_go (k_X11_newBool_250 hC hR  h) ⟨rfl, rfl, trivial⟩
        · replace h := h.2 c
          exact zv_go (k_X11_newBool_218 hC hR  h) ⟨rfl, trivial⟩
    · replace h := h.2 c
      refine zv_aload_n hC dX11_newBool_24 rfl ?_
      refine zv_getR (j := 52) hC fl_X11_28 dX11_newBool_25 rfl rfl ?_
      refine zv_bipush (v := 8) hC dX11_newBool_28 (by decide) ?_
      refine zv_iload_n hC dX11_newBool_30 rfl ?_
      refine zv_imul hC dX11_newBool_31 ?_
      refine zv_iload_n hC dX11_newBool_32 rfl ?_
      refine zv_iadd hC dX11_newBool_33 ?_
      refine zv_iald hC dX11_newBool_34 rfl h.1 ?_
      replace h := h.2
      replace h := h _ rfl
      refine zv_istore hC dX11_newBool_35 (by decide) ?_
      refine zv_aload_n hC dX11_newBool_37 rfl ?_
      refine zv_getR (j := 72) hC fl_X11_91 dX11_newBool_38 rfl rfl ?_
      refine zv_aload_n hC dX11_newBool_41 rfl ?_
      refine zv_getR (j := 53) hC fl_X11_31 dX11_newBool_42 rfl rfl ?_
      refine zv_bipush (v := 8) hC dX11_newBool_45 (by decide) ?_
      refine zv_iload_n hC dX11_newBool_47 rfl ?_
      refine zv_imul hC dX11_newBool_48 ?_
      refine zv_iload_n hC dX11_newBool_49 rfl ?_
      refine zv_iadd hC dX11_newBool_50 ?_
      refine zv_iald hC dX11_newBool_51 rfl h.1 ?_
      replace h := h.2
      refine zv_iald hC dX11_newBool_52 rfl h.1 ?_
      replace h := h.2
      replace h := h _ rfl
      refine zv_istore hC dX11_newBool_53 (by decide) ?_
      refine zv_aload_n hC dX11_newBool_55 rfl ?_
      refine zv_getR (j := 48) hC fl_X11_16 dX11_newBool_56 rfl rfl ?_
      refine zv_iload hC dX11_newBool_59 rfl ?_
      refine zv_iald hC dX11_newBool_61 rfl h.1 ?_
      replace h := h.2
      refine zv_bipush (v := 7) hC dX11_newBool_62 (by decide) ?_
      refine zv_icmp_ne (tgt := 82) hC dX11_newBool_64 (by decide) (fun c => ?_) (fun c => ?_)
      · replace h := h.1 c
        refine zv_aload_n hC dX11_newBool_82 rfl ?_
        refine zv_iload_n hC dX11_newBool_83 rfl ?_
        refine zv_iload hC dX11_newBool_84 rfl ?_
        refine zv_iload hC dX11_newBool_86 rfl ?_
        refine zv_aload_n hC dX11_newBool_88 rfl ?_
        refine zv_getR (j := 51) hC fl_X11_25 dX11_newBool_89 rfl rfl ?_
        refine zv_iload_n hC dX11_newBool_92 rfl ?_
        refine zv_iald hC dX11_newBool_93 rfl h.1 ?_
        replace h := h.2
        refine zv_iload_n hC dX11_newBool_94 rfl ?_
        refine zv_isub hC dX11_newBool_95 ?_
        refine zv_iconst (v := 1) hC dX11_newBool_96 (by decide) ?_
        refine zv_isub hC dX11_newBool_97 ?_
        refine zv_callVi (As := [_, _, _, _]) hC dX11_newBool_98 Y_X11_opens lk_X11_209 (by decide) rfl rfl rfl (Nat.le_of_ble_eq_true rfl) (ok_X11_opens G h) ?_
        intro r_14 σ_13 h
        refine zv_if_eq (tgt := 177) hC dX11_newBool_101 (by decide) (fun c => ?_) (fun c => ?_)
        · replace h := h.1 c
          refine zv_aload_n hC dX11_newBool_177 rfl ?_
          refine zv_iload hC dX11_newBool_178 rfl ?_
          refine zv_iload hC dX11_newBool_180 rfl ?_
          refine zv_callVv (As := [_, _]) hC dX11_newBool_182 Y_X11_lay lk_X11_206 (by decide) rfl rfl rfl (Nat.le_of_ble_eq_true rfl) (ok_X11_lay G h) ?_
          intro σ_15 h
          exact zv_go (k_X11_newBool_185 hC hR hk14 h) ⟨rfl, rfl, rfl, rfl, trivial⟩
        · replace h := h.2 c
          refine zv_iconst (v := 0) hC dX11_newBool_104 (by decide) ?_
          refine zv_istore hC dX11_newBool_105 (by decide) ?_
          obtain ⟨n, h⟩ := h
          exact zv_go (kL_X11_newBool_107 hC hR hk14 n _ _ _ _ _ _ _ h) ⟨rfl, rfl, rfl, rfl, rfl, rfl, rfl, trivial⟩
      · replace h := h.2 c
        refine zv_iload hC dX11_newBool_67 rfl ?_
        refine zv_iconst (v := 2) hC dX11_newBool_69 (by decide) ?_
        refine zv_icmp_ge (tgt := 185) hC dX11_newBool_70 (by decide) (fun c => ?_) (fun c => ?_)
        · replace h := h.1 c
          exact zv_go (k_X11_newBool_185 hC hR hk14 h) ⟨rfl, rfl, rfl, rfl, trivial⟩
        · replace h := h.2 c
          refine zv_aload_n hC dX11_newBool_73 rfl ?_
          refine zv_bipush (v := 7) hC dX11_newBool_74 (by decide) ?_
          refine zv_iconst (v := 0) hC dX11_newBool_76 (by decide) ?_
          refine zv_iconst (v := 0) hC dX11_newBool_77 (by decide) ?_
          refine zv_callVi (As := [_, _, _]) hC dX11_newBool_78 Y_X11_so lk_X11_202 (by decide) rfl rfl rfl (Nat.le_of_ble_eq_true rfl) (ok_X11_so G h) ?_
          intro r_17 σ_16 h
          exact (hR _ _ _).1 _ rfl dX11_newBool_81 ⟨_, rfl, h⟩
def B_X11_newBool (Q : Int32 → zv_St → Prop) (x1 : Int32) (σ : zv_St) : Prop :=
  vp_in x1 80 ∧ ∀ v_1 : Int32, v_1 = (σ.1 49 x1.toNatClampNeg) → ∀ σ_2 : zv_St, σ_2 = zv_wi σ 45 34 0 → ∃ n14, L_X11_newBool_14 Q n14 x1 v_1 0 σ_2
set_option maxRecDepth 20000 in
set_option maxHeartbeats 2000000 in
theorem k_X11_newBool_0 {G : zv_G} {X : zv_X} {Q : Int32 → zv_St → Prop}  (hC : zv_C G X M_X11_newBool) (hR : zv_R G X M_X11_newBool (zv_qi Q))  {x1 : Int32} {σ : zv_St} (h : B_X11_newBool Q  x1 σ) : zv_V G X M_X11_newBool 0 [(0, .ref (G.2.2.1 45)), (1, .int x1)] [] σ := by
  unfold B_X11_newBool at h
  refine zv_aload_n hC dX11_newBool_0 rfl ?_
  refine zv_getR (j := 49) hC fl_X11_19 dX11_newBool_1 rfl rfl ?_
  refine zv_iload_n hC dX11_newBool_4 rfl ?_
  refine zv_iald hC dX11_newBool_5 rfl h.1 ?_
  replace h := h.2
  replace h := h _ rfl
  refine zv_istore_n hC dX11_newBool_6 (by decide) ?_
  refine zv_aload_n hC dX11_newBool_7 rfl ?_
  refine zv_iconst (v := 0) hC dX11_newBool_8 (by decide) ?_
  refine zv_putI hC fp_X11_199 dX11_newBool_9 rfl rfl rfl rfl ?_
  replace h := h _ rfl
  refine zv_iconst (v := 0) hC dX11_newBool_12 (by decide) ?_
  refine zv_istore_n hC dX11_newBool_13 (by decide) ?_
  obtain ⟨n, h⟩ := h
  exact zv_go (kL_X11_newBool_14 hC hR  n _ _ _ _ h) ⟨rfl, rfl, rfl, rfl, trivial⟩
theorem ok_X11_newBool (G : zv_G) {Q : Int32 → zv_St → Prop} {x1 : Int32} {σ : zv_St} (h : B_X11_newBool Q x1 σ) : zv_OK G M_X11_newBool yX11_newBool [.ref (G.2.2.1 45), .int x1] σ (zv_qi Q) := zv_ok G _ _ _ _ _ (by decide +kernel) rfl (Nat.le_of_ble_eq_true rfl) (fun X hC hR => zv_go (k_X11_newBool_0 hC hR h) ⟨rfl, rfl, trivial⟩)
