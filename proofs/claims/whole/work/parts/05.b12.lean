-- X11_part
def B_X11_part_62 (Q : Int32 → zv_St → Prop) (σ : zv_St) : Prop :=
  Q (-2) σ
set_option maxRecDepth 20000 in
set_option maxHeartbeats 2000000 in
theorem k_X11_part_62 {G : zv_G} {X : zv_X} {Q : Int32 → zv_St → Prop}  (hC : zv_C G X M_X11_part) (hR : zv_R G X M_X11_part (zv_qi Q))   {σ : zv_St} (h : B_X11_part_62 Q   σ) : zv_V G X M_X11_part 62 [] [] σ := by
  unfold B_X11_part_62 at h
  refine zv_bipush (v := (-2)) hC dX11_part_62 (by decide) ?_
  exact (hR _ _ _).1 _ rfl dX11_part_64 ⟨_, rfl, h⟩
def B_X11_part_152 (Q : Int32 → zv_St → Prop) (kk126 : Int32 → Int32 → zv_St → Prop) (x1 : Int32) (x4 : Int32) (y1 : Int32) (y2 : Int32) (σ : zv_St) : Prop :=
  vp_in y1 80 ∧ ∀ σ_1 : zv_St, σ_1 = zv_wi σ 61 y1.toNatClampNeg (vp_nar .boolean y2) → kk126 x1 (x4 + 1) σ_1
set_option maxRecDepth 20000 in
set_option maxHeartbeats 2000000 in
theorem k_X11_part_152 {G : zv_G} {X : zv_X} {Q : Int32 → zv_St → Prop} {kk126 : Int32 → Int32 → zv_St → Prop} (hC : zv_C G X M_X11_part) (hR : zv_R G X M_X11_part (zv_qi Q)) (hk126 : ∀ (x1 : Int32) (x4 : Int32) (σ : zv_St), kk126 x1 x4 σ → zv_V G X M_X11_part 126 [(0, .ref (G.2.2.1 45)), (1, .int x1), (4, .int x4)] [] σ) {x1 : Int32} {x4 : Int32} {y1 : Int32} {y2 : Int32} {σ : zv_St} (h : B_X11_part_152 Q kk126 x1 x4 y1 y2 σ) : zv_V G X M_X11_part 152 [(0, .ref (G.2.2.1 45)), (1, .int x1), (4, .int x4)] [.int y2, .int y1, .ref (G.2.2.1 61)] σ := by
  unfold B_X11_part_152 at h
  refine zv_zast hC dX11_part_152 rfl h.1 ?_
  replace h := h.2 _ rfl
  refine zv_iinc (v := 1) hC dX11_part_153 rfl (by decide) (by decide) ?_
  refine zv_goto (tgt := 126) hC dX11_part_156 (by decide) ?_
  exact zv_go (hk126 _ _ _ h) ⟨rfl, rfl, rfl, trivial⟩
def L_X11_part_126 (Q : Int32 → zv_St → Prop) : Nat → (Int32 → Int32 → zv_St → Prop)
  | 0 => fun _ _ _ => False
  | u + 1 => fun x1 x4 σ => 
    ((σ.1 45 2) ≤ x4 → (B_X11_forget (fun σ_1 => vp_in x1 80 ∧ Q (σ_1.1 51 x1.toNatClampNeg) σ_1) x1 σ)) ∧ (¬ (σ.1 45 2) ≤ x4 → ((¬ x4 = x1 → (B_X11_part_152 Q (L_X11_part_126 Q u) x1 x4 x4 0 σ)) ∧ (x4 = x1 → (B_X11_part_152 Q (L_X11_part_126 Q u) x1 x4 x4 1 σ))))
set_option maxRecDepth 20000 in
set_option maxHeartbeats 2000000 in
theorem kL_X11_part_126 {G : zv_G} {X : zv_X} {Q : Int32 → zv_St → Prop}  (hC : zv_C G X M_X11_part) (hR : zv_R G X M_X11_part (zv_qi Q))  : ∀ (n : Nat) (x1 : Int32) (x4 : Int32) (σ : zv_St), L_X11_part_126 Q  n x1 x4 σ → zv_V G X M_X11_part 126 [(0, .ref (G.2.2.1 45)), (1, .int x1), (4, .int x4)] [] σ := by
  intro n
  induction n with
  | zero => intro x1 x4 σ h; exact h.elim
  | succ n hk126 =>
    intro x1 x4 σ h
    unfold L_X11_part_126 at h
    refine zv_iload hC dX11_part_126 rfl ?_
    refine zv_aload_n hC dX11_part_128 rfl ?_
    refine zv_getI hC fl_X11_107 dX11_part_129 rfl rfl ?_
    refine zv_icmp_ge (tgt := 159) hC dX11_part_132 (by decide) (fun c => ?_) (fun c => ?_)
    · replace h := h.1 c
      refine zv_aload_n hC dX11_part_159 rfl ?_
      refine zv_iload_n hC dX11_part_160 rfl ?_
      refine zv_callVv (As := [_]) hC dX11_part_161 Y_X11_forget lk_X11_111 (by decide) rfl rfl rfl (Nat.le_of_ble_eq_true rfl) (ok_X11_forget G h) ?_
      intro σ_1 h
      refine zv_aload_n hC dX11_part_164 rfl ?_
      refine zv_getR (j := 51) hC fl_X11_25 dX11_part_165 rfl rfl ?_
      refine zv_iload_n hC dX11_part_168 rfl ?_
      refine zv_iald hC dX11_part_169 rfl h.1 ?_
      replace h := h.2
      exact (hR _ _ _).1 _ rfl dX11_part_170 ⟨_, rfl, h⟩
    · replace h := h.2 c
      refine zv_aload_n hC dX11_part_135 rfl ?_
      refine zv_getR (j := 61) hC fl_X11_57 dX11_part_136 rfl rfl ?_
      refine zv_iload hC dX11_part_139 rfl ?_
      refine zv_iload hC dX11_part_141 rfl ?_
      refine zv_iload_n hC dX11_part_143 rfl ?_
      refine zv_icmp_ne (tgt := 151) hC dX11_part_144 (by decide) (fun c => ?_) (fun c => ?_)
      · replace h := h.1 c
        refine zv_iconst (v := 0) hC dX11_part_151 (by decide) ?_
        exact zv_go (k_X11_part_152 hC hR hk126 h) ⟨rfl, rfl, rfl, trivial⟩
      · replace h := h.2 c
        refine zv_iconst (v := 1) hC dX11_part_147 (by decide) ?_
        refine zv_goto (tgt := 152) hC dX11_part_148 (by decide) ?_
        exact zv_go (k_X11_part_152 hC hR hk126 h) ⟨rfl, rfl, rfl, trivial⟩
def B_X11_part_44 (Q : Int32 → zv_St → Prop) (x1 : Int32) (x2 : Int32) (x3 : Int32) (y0 : Int32) (y1 : Int32) (σ : zv_St) : Prop :=
  B_X11_in (fun r_2 σ_1 => (r_2 = 0 → (B_X11_part_62 Q σ_1)) ∧ (¬ r_2 = 0 → (B_X11_in (fun r_4 σ_3 => (¬ r_4 = 0 → (vp_in x1 80 ∧ (¬ (σ_3.1 51 x1.toNatClampNeg) = 8 → (vp_in x1 80 ∧ vp_in ((8 * x1) + (σ_3.1 51 x1.toNatClampNeg)) 640 ∧ ∀ σ_5 : zv_St, σ_5 = zv_wi σ_3 52 ((8 * x1) + (σ_3.1 51 x1.toNatClampNeg)).toNatClampNeg x2 → vp_in x1 80 ∧ vp_in ((8 * x1) + (σ_5.1 51 x1.toNatClampNeg)) 640 ∧ ∀ σ_6 : zv_St, σ_6 = zv_wi σ_5 53 ((8 * x1) + (σ_5.1 51 x1.toNatClampNeg)).toNatClampNeg x3 → vp_in x1 80 ∧ vp_in x1 80 ∧ ∀ σ_7 : zv_St, σ_7 = zv_wi σ_6 51 x1.toNatClampNeg ((σ_6.1 51 x1.toNatClampNeg) + 1) → ∃ n126, L_X11_part_126 Q n126 x1 0 σ_7)) ∧ ((σ_3.1 51 x1.toNatClampNeg) = 8 → (Q (-3) σ_3)))) ∧ (r_4 = 0 → (B_X11_part_62 Q σ_3))) x3 0 (x1 - 1) σ_1))) y0 y1 3 σ
set_option maxRecDepth 20000 in
set_option maxHeartbeats 2000000 in
theorem k_X11_part_44 {G : zv_G} {X : zv_X} {Q : Int32 → zv_St → Prop}  (hC : zv_C G X M_X11_part) (hR : zv_R G X M_X11_part (zv_qi Q))  {x1 : Int32} {x2 : Int32} {x3 : Int32} {y0 : Int32} {y1 : Int32} {σ : zv_St} (h : B_X11_part_44 Q  x1 x2 x3 y0 y1 σ) : zv_V G X M_X11_part 44 [(0, .ref (G.2.2.1 45)), (1, .int x1), (2, .int x2), (3, .int x3)] [.int y1, .int y0] σ := by
  unfold B_X11_part_44 at h
  refine zv_iconst (v := 3) hC dX11_part_44 (by decide) ?_
  refine zv_callSi (As := [_, _, _]) hC dX11_part_45 Y_X11_in lk_X11_103 (by decide) rfl rfl (Nat.le_of_ble_eq_true rfl) (ok_X11_in G h) ?_
  intro r_2 σ_1 h
  refine zv_if_eq (tgt := 62) hC dX11_part_48 (by decide) (fun c => ?_) (fun c => ?_)
  · replace h := h.1 c
    exact zv_go (k_X11_part_62 hC hR  h) trivial
  · replace h := h.2 c
    refine zv_iload_n hC dX11_part_51 rfl ?_
    refine zv_iconst (v := 0) hC dX11_part_52 (by decide) ?_
    refine zv_iload_n hC dX11_part_53 rfl ?_
    refine zv_iconst (v := 1) hC dX11_part_54 (by decide) ?_
    refine zv_isub hC dX11_part_55 ?_
    refine zv_callSi (As := [_, _, _]) hC dX11_part_56 Y_X11_in lk_X11_103 (by decide) rfl rfl (Nat.le_of_ble_eq_true rfl) (ok_X11_in G h) ?_
    intro r_4 σ_3 h
    refine zv_if_ne (tgt := 65) hC dX11_part_59 (by decide) (fun c => ?_) (fun c => ?_)
    · replace h := h.1 c
      refine zv_aload_n hC dX11_part_65 rfl ?_
      refine zv_getR (j := 51) hC fl_X11_25 dX11_part_66 rfl rfl ?_
      refine zv_iload_n hC dX11_part_69 rfl ?_
      refine zv_iald hC dX11_part_70 rfl h.1 ?_
      replace h := h.2
      refine zv_bipush (v := 8) hC dX11_part_71 (by decide) ?_
      refine zv_icmp_ne (tgt := 79) hC dX11_part_73 (by decide) (fun c => ?_) (fun c => ?_)
      · replace h := h.1 c
        refine zv_aload_n hC dX11_part_79 rfl ?_
        refine zv_getR (j := 52) hC fl_X11_28 dX11_part_80 rfl rfl ?_
        refine zv_bipush (v := 8) hC dX11_part_83 (by decide) ?_
        refine zv_iload_n hC dX11_part_85 rfl ?_
        refine zv_imul hC dX11_part_86 ?_
        refine zv_aload_n hC dX11_part_87 rfl ?_
        refine zv_getR (j := 51) hC fl_X11_25 dX11_part_88 rfl rfl ?_
        refine zv_iload_n hC dX11_part_91 rfl ?_
        refine zv_iald hC dX11_part_92 rfl h.1 ?_
        replace h := h.2
        refine zv_iadd hC dX11_part_93 ?_
        refine zv_iload_n hC dX11_part_94 rfl ?_
        refine zv_iast hC dX11_part_95 rfl h.1 ?_
        replace h := h.2 _ rfl
        refine zv_aload_n hC dX11_part_96 rfl ?_
        refine zv_getR (j := 53) hC fl_X11_31 dX11_part_97 rfl rfl ?_
        refine zv_bipush (v := 8) hC dX11_part_100 (by decide) ?_
        refine zv_iload_n hC dX11_part_102 rfl ?_
        refine zv_imul hC dX11_part_103 ?_
        refine zv_aload_n hC dX11_part_104 rfl ?_
        refine zv_getR (j := 51) hC fl_X11_25 dX11_part_105 rfl rfl ?_
        refine zv_iload_n hC dX11_part_108 rfl ?_
        refine zv_iald hC dX11_part_109 rfl h.1 ?_
        replace h := h.2
        refine zv_iadd hC dX11_part_110 ?_
        refine zv_iload_n hC dX11_part_111 rfl ?_
        refine zv_iast hC dX11_part_112 rfl h.1 ?_
        replace h := h.2 _ rfl
        refine zv_aload_n hC dX11_part_113 rfl ?_
        refine zv_getR (j := 51) hC fl_X11_25 dX11_part_114 rfl rfl ?_
        refine zv_iload_n hC dX11_part_117 rfl ?_
        refine zv_dup2 hC dX11_part_118 rfl rfl ?_
        refine zv_iald hC dX11_part_119 rfl h.1 ?_
        replace h := h.2
        refine zv_iconst (v := 1) hC dX11_part_120 (by decide) ?_
        refine zv_iadd hC dX11_part_121 ?_
        refine zv_iast hC dX11_part_122 rfl h.1 ?_
        replace h := h.2 _ rfl
        refine zv_iconst (v := 0) hC dX11_part_123 (by decide) ?_
        refine zv_istore hC dX11_part_124 (by decide) ?_
        obtain ⟨n, h⟩ := h
        exact zv_go (kL_X11_part_126 hC hR  n _ _ _ h) ⟨rfl, rfl, rfl, trivial⟩
      · replace h := h.2 c
        refine zv_bipush (v := (-3)) hC dX11_part_76 (by decide) ?_
        exact (hR _ _ _).1 _ rfl dX11_part_78 ⟨_, rfl, h⟩
    · replace h := h.2 c
      exact zv_go (k_X11_part_62 hC hR  h) trivial
def B_X11_part_28 (Q : Int32 → zv_St → Prop) (x1 : Int32) (x2 : Int32) (x3 : Int32) (σ : zv_St) : Prop :=
  vp_in x1 80 ∧ (¬ (σ.1 48 x1.toNatClampNeg) = 3 → (B_X11_part_44 Q x1 x2 x3 x2 0 σ)) ∧ ((σ.1 48 x1.toNatClampNeg) = 3 → (B_X11_part_44 Q x1 x2 x3 x2 3 σ))
set_option maxRecDepth 20000 in
set_option maxHeartbeats 2000000 in
theorem k_X11_part_28 {G : zv_G} {X : zv_X} {Q : Int32 → zv_St → Prop}  (hC : zv_C G X M_X11_part) (hR : zv_R G X M_X11_part (zv_qi Q))  {x1 : Int32} {x2 : Int32} {x3 : Int32} {σ : zv_St} (h : B_X11_part_28 Q  x1 x2 x3 σ) : zv_V G X M_X11_part 28 [(0, .ref (G.2.2.1 45)), (1, .int x1), (2, .int x2), (3, .int x3)] [] σ := by
  unfold B_X11_part_28 at h
  refine zv_iload_n hC dX11_part_28 rfl ?_
  refine zv_aload_n hC dX11_part_29 rfl ?_
  refine zv_getR (j := 48) hC fl_X11_16 dX11_part_30 rfl rfl ?_
  refine zv_iload_n hC dX11_part_33 rfl ?_
  refine zv_iald hC dX11_part_34 rfl h.1 ?_
  replace h := h.2
  refine zv_iconst (v := 3) hC dX11_part_35 (by decide) ?_
  refine zv_icmp_ne (tgt := 43) hC dX11_part_36 (by decide) (fun c => ?_) (fun c => ?_)
  · replace h := h.1 c
    refine zv_iconst (v := 0) hC dX11_part_43 (by decide) ?_
    exact zv_go (k_X11_part_44 hC hR  h) ⟨rfl, rfl, rfl, rfl, trivial⟩
  · replace h := h.2 c
    refine zv_iconst (v := 3) hC dX11_part_39 (by decide) ?_
    refine zv_goto (tgt := 44) hC dX11_part_40 (by decide) ?_
    exact zv_go (k_X11_part_44 hC hR  h) ⟨rfl, rfl, rfl, rfl, trivial⟩
def B_X11_part (Q : Int32 → zv_St → Prop) (x1 : Int32) (x2 : Int32) (x3 : Int32) (σ : zv_St) : Prop :=
  B_X11_isNode (fun r_2 σ_1 => (r_2 = 0 → (B_X11_part_62 Q σ_1)) ∧ (¬ r_2 = 0 → (vp_in x1 80 ∧ ((σ_1.1 48 x1.toNatClampNeg) = 2 → (B_X11_part_28 Q x1 x2 x3 σ_1)) ∧ (¬ (σ_1.1 48 x1.toNatClampNeg) = 2 → (vp_in x1 80 ∧ (¬ (σ_1.1 48 x1.toNatClampNeg) = 3 → (B_X11_part_62 Q σ_1)) ∧ ((σ_1.1 48 x1.toNatClampNeg) = 3 → (B_X11_part_28 Q x1 x2 x3 σ_1))))))) x1 σ
set_option maxRecDepth 20000 in
set_option maxHeartbeats 2000000 in
theorem k_X11_part_0 {G : zv_G} {X : zv_X} {Q : Int32 → zv_St → Prop}  (hC : zv_C G X M_X11_part) (hR : zv_R G X M_X11_part (zv_qi Q))  {x1 : Int32} {x2 : Int32} {x3 : Int32} {σ : zv_St} (h : B_X11_part Q  x1 x2 x3 σ) : zv_V G X M_X11_part 0 [(0, .ref (G.2.2.1 45)), (1, .int x1), (2, .int x2), (3, .int x3)] [] σ := by
  unfold B_X11_part at h
  refine zv_aload_n hC dX11_part_0 rfl ?_
  refine zv_iload_n hC dX11_part_1 rfl ?_
  refine zv_callVi (As := [_]) hC dX11_part_2 Y_X11_isNode lk_X11_123 (by decide) rfl rfl rfl (Nat.le_of_ble_eq_true rfl) (ok_X11_isNode G h) ?_
  intro r_2 σ_1 h
  refine zv_if_eq (tgt := 62) hC dX11_part_5 (by decide) (fun c => ?_) (fun c => ?_)
  · replace h := h.1 c
    exact zv_go (k_X11_part_62 hC hR  h) trivial
  · replace h := h.2 c
    refine zv_aload_n hC dX11_part_8 rfl ?_
    refine zv_getR (j := 48) hC fl_X11_16 dX11_part_9 rfl rfl ?_
    refine zv_iload_n hC dX11_part_12 rfl ?_
    refine zv_iald hC dX11_part_13 rfl h.1 ?_
    replace h := h.2
    refine zv_iconst (v := 2) hC dX11_part_14 (by decide) ?_
    refine zv_icmp_eq (tgt := 28) hC dX11_part_15 (by decide) (fun c => ?_) (fun c => ?_)
    · replace h := h.1 c
      exact zv_go (k_X11_part_28 hC hR  h) ⟨rfl, rfl, rfl, rfl, trivial⟩
    · replace h := h.2 c
      refine zv_aload_n hC dX11_part_18 rfl ?_
      refine zv_getR (j := 48) hC fl_X11_16 dX11_part_19 rfl rfl ?_
      refine zv_iload_n hC dX11_part_22 rfl ?_
      refine zv_iald hC dX11_part_23 rfl h.1 ?_
      replace h := h.2
      refine zv_iconst (v := 3) hC dX11_part_24 (by decide) ?_
      refine zv_icmp_ne (tgt := 62) hC dX11_part_25 (by decide) (fun c => ?_) (fun c => ?_)
      · replace h := h.1 c
        exact zv_go (k_X11_part_62 hC hR  h) trivial
      · replace h := h.2 c
        exact zv_go (k_X11_part_28 hC hR  h) ⟨rfl, rfl, rfl, rfl, trivial⟩
theorem ok_X11_part (G : zv_G) {Q : Int32 → zv_St → Prop} {x1 : Int32} {x2 : Int32} {x3 : Int32} {σ : zv_St} (h : B_X11_part Q x1 x2 x3 σ) : zv_OK G M_X11_part yX11_part [.ref (G.2.2.1 45), .int x1, .int x2, .int x3] σ (zv_qi Q) := zv_ok G _ _ _ _ _ (by decide +kernel) rfl (Nat.le_of_ble_eq_true rfl) (fun X hC hR => zv_go (k_X11_part_0 hC hR h) ⟨rfl, rfl, rfl, rfl, trivial⟩)
-- X11_together
def B_X11_together_116 (Q : Int32 → zv_St → Prop) (y0 : Int32) (σ : zv_St) : Prop :=
  Q y0 σ
set_option maxRecDepth 20000 in
set_option maxHeartbeats 2000000 in
theorem k_X11_together_116 {G : zv_G} {X : zv_X} {Q : Int32 → zv_St → Prop}  (hC : zv_C G X M_X11_together) (hR : zv_R G X M_X11_together (zv_qi Q))  {y0 : Int32} {σ : zv_St} (h : B_X11_together_116 Q  y0 σ) : zv_V G X M_X11_together 116 [] [.int y0] σ := by
  unfold B_X11_together_116 at h
  exact (hR _ _ _).1 _ rfl dX11_together_116 ⟨_, rfl, h⟩
def B_X11_together_84 (Q : Int32 → zv_St → Prop) (kk8 : Int32 → Int32 → Int32 → Int32 → zv_St → Prop) (x1 : Int32) (x2 : Int32) (x4 : Int32) (y0 : Int32) (y1 : Int32) (σ : zv_St) : Prop :=
  kk8 x1 x2 (y0 + y1) (x4 + 1) σ
set_option maxRecDepth 20000 in
set_option maxHeartbeats 2000000 in
theorem k_X11_together_84 {G : zv_G} {X : zv_X} {Q : Int32 → zv_St → Prop} {kk8 : Int32 → Int32 → Int32 → Int32 → zv_St → Prop} (hC : zv_C G X M_X11_together) (hR : zv_R G X M_X11_together (zv_qi Q)) (hk8 : ∀ (x1 : Int32) (x2 : Int32) (x3 : Int32) (x4 : Int32) (σ : zv_St), kk8 x1 x2 x3 x4 σ → zv_V G X M_X11_together 8 [(0, .ref (G.2.2.1 45)), (1, .int x1), (2, .int x2), (3, .int x3), (4, .int x4)] [] σ) {x1 : Int32} {x2 : Int32} {x4 : Int32} {y0 : Int32} {y1 : Int32} {σ : zv_St} (h : B_X11_together_84 Q kk8 x1 x2 x4 y0 y1 σ) : zv_V G X M_X11_together 84 [(0, .ref (G.2.2.1 45)), (1, .int x1), (2, .int x2), (4, .int x4)] [.int y1, .int y0] σ := by
  unfold B_X11_together_84 at h
  refine zv_iadd hC dX11_together_84 ?_
  refine zv_istore_n hC dX11_together_85 (by decide) ?_
  refine zv_iinc (v := 1) hC dX11_together_86 rfl (by decide) (by decide) ?_
  refine zv_goto (tgt := 8) hC dX11_together_89 (by decide) ?_
  exact zv_go (hk8 _ _ _ _ _ h) ⟨rfl, rfl, rfl, rfl, rfl, trivial⟩
def B_X11_together_70 (Q : Int32 → zv_St → Prop) (kk8 : Int32 → Int32 → Int32 → Int32 → zv_St → Prop) (x1 : Int32) (x3 : Int32) (x4 : Int32) (x5 : Int32) (x6 : Int32) (y0 : Int32) (σ : zv_St) : Prop :=
  (¬ x5 = 3 → (B_X11_together_84 Q kk8 x1 y0 x4 x3 0 σ)) ∧ (x5 = 3 → (B_X11_together_84 Q kk8 x1 y0 x4 x3 x6 σ))
set_option maxRecDepth 20000 in
set_option maxHeartbeats 2000000 in
theorem k_X11_together_70 {G : zv_G} {X : zv_X} {Q : Int32 → zv_St → Prop} {kk8 : Int32 → Int32 → Int32 → Int32 → zv_St → Prop} (hC : zv_C G X M_X11_together) (hR : zv_R G X M_X11_together (zv_qi Q)) (hk8 : ∀ (x1 : Int32) (x2 : Int32) (x3 : Int32) (x4 : Int32) (σ : zv_St), kk8 x1 x2 x3 x4 σ → zv_V G X M_X11_together 8 [(0, .ref (G.2.2.1 45)), (1, .int x1), (2, .int x2), (3, .int x3), (4, .int x4)] [] σ) {x1 : Int32} {x3 : Int32} {x4 : Int32} {x5 : Int32} {x6 : Int32} {y0 : Int32} {σ : zv_St} (h : B_X11_together_70 Q kk8 x1 x3 x4 x5 x6 y0 σ) : zv_V G X M_X11_together 70 [(0, .ref (G.2.2.1 45)), (1, .int x1), (3, .int x3), (4, .int x4), (5, .int x5), (6, .int x6)] [.int y0] σ := by
  unfold B_X11_together_70 at h
  refine zv_istore_n hC dX11_together_70 (by decide) ?_
  refine zv_iload_n hC dX11_together_71 rfl ?_
  refine zv_iload hC dX11_together_72 rfl ?_
  refine zv_iconst (v := 3) hC dX11_together_74 (by decide) ?_
  refine zv_icmp_ne (tgt := 83) hC dX11_together_75 (by decide) (fun c => ?_) (fun c => ?_)
  · replace h := h.1 c
    refine zv_iconst (v := 0) hC dX11_together_83 (by decide) ?_
    exact zv_go (k_X11_together_84 hC hR hk8 h) ⟨rfl, rfl, rfl, rfl, trivial⟩
  · replace h := h.2 c
    refine zv_iload hC dX11_together_78 rfl ?_
    refine zv_goto (tgt := 84) hC dX11_together_80 (by decide) ?_
    exact zv_go (k_X11_together_84 hC hR hk8 h) ⟨rfl, rfl, rfl, rfl, trivial⟩
def B_X11_together_69 (Q : Int32 → zv_St → Prop) (kk8 : Int32 → Int32 → Int32 → Int32 → zv_St → Prop) (x1 : Int32) (x2 : Int32) (x3 : Int32) (x4 : Int32) (x5 : Int32) (x6 : Int32) (σ : zv_St) : Prop :=
  B_X11_together_70 Q kk8 x1 x3 x4 x5 x6 x2 σ
set_option maxRecDepth 20000 in
set_option maxHeartbeats 2000000 in
theorem k_X11_together_69 {G : zv_G} {X : zv_X} {Q : Int32 → zv_St → Prop} {kk8 : Int32 → Int32 → Int32 → Int32 → zv_St → Prop} (hC : zv_C G X M_X11_together) (hR : zv_R G X M_X11_together (zv_qi Q)) (hk8 : ∀ (x1 : Int32) (x2 : Int32) (x3 : Int32) (x4 : Int32) (σ : zv_St), kk8 x1 x2 x3 x4 σ → zv_V G X M_X11_together 8 [(0, .ref (G.2.2.1 45)), (1, .int x1), (2, .int x2), (3, .int x3), (4, .int x4)] [] σ) {x1 : Int32} {x2 : Int32} {x3 : Int32} {x4 : Int32} {x5 : Int32} {x6 : Int32} {σ : zv_St} (h : B_X11_together_69 Q kk8 x1 x2 x3 x4 x5 x6 σ) : zv_V G X M_X11_together 69 [(0, .ref (G.2.2.1 45)), (1, .int x1), (2, .int x2), (3, .int x3), (4, .int x4), (5, .int x5), (6, .int x6)] [] σ := by
  unfold B_X11_together_69 at h
  refine zv_iload_n hC dX11_together_69 rfl ?_
  exact zv_go (k_X11_together_70 hC hR hk8 h) ⟨rfl, rfl, rfl, rfl, rfl, rfl, trivial⟩
def L_X11_together_8 (Q : Int32 → zv_St → Prop) : Nat → (Int32 → Int32 → Int32 → Int32 → zv_St → Prop)
  | 0 => fun _ _ _ _ _ => False
  | u + 1 => fun x1 x2 x3 x4 σ => 
    vp_in x1 80 ∧ ((σ.1 51 x1.toNatClampNeg) ≤ x4 → ((1000000 ≤ x2 → ((512 ≤ x3 → (B_X11_together_116 Q 512 σ)) ∧ (¬ 512 ≤ x3 → (B_X11_together_116 Q x3 σ)))) ∧ (¬ 1000000 ≤ x2 → (B_X11_together_116 Q x2 σ)))) ∧ (¬ (σ.1 51 x1.toNatClampNeg) ≤ x4 → (vp_in ((8 * x1) + x4) 640 ∧ ∀ v_1 : Int32, v_1 = (σ.1 52 ((8 * x1) + x4).toNatClampNeg) → vp_in ((8 * x1) + x4) 640 ∧ vp_in (σ.1 53 ((8 * x1) + x4).toNatClampNeg) 80 ∧ ∀ v_2 : Int32, v_2 = (σ.1 62 (σ.1 53 ((8 * x1) + x4).toNatClampNeg).toNatClampNeg) → (2 ≤ v_1 → (B_X11_together_69 Q (L_X11_together_8 Q u) x1 x2 x3 x4 v_1 v_2 σ)) ∧ (¬ 2 ≤ v_1 → ((x2 ≤ v_2 → (B_X11_together_69 Q (L_X11_together_8 Q u) x1 x2 x3 x4 v_1 v_2 σ)) ∧ (¬ x2 ≤ v_2 → (B_X11_together_70 Q (L_X11_together_8 Q u) x1 x3 x4 v_1 v_2 v_2 σ))))))
set_option maxRecDepth 20000 in
set_option maxHeartbeats 2000000 in
theorem kL_X11_together_8 {G : zv_G} {X : zv_X} {Q : Int32 → zv_St → Prop}  (hC : zv_C G X M_X11_together) (hR : zv_R G X M_X11_together (zv_qi Q))  : ∀ (n : Nat) (x1 : Int32) (x2 : Int32) (x3 : Int32) (x4 : Int32) (σ : zv_St), L_X11_together_8 Q  n x1 x2 x3 x4 σ → zv_V G X M_X11_together 8 [(0, .ref (G.2.2.1 45)), (1, .int x1), (2, .int x2), (3, .int x3), (4, .int x4)] [] σ := by
  intro n
  induction n with
  | zero => intro x1 x2 x3 x4 σ h; exact h.elim
  | succ n hk8 =>
    intro x1 x2 x3 x4 σ h
    unfold L_X11_together_8 at h
    refine zv_iload hC dX11_together_8 rfl ?_
    refine zv_aload_n hC dX11_together_10 rfl ?_
    refine zv_getR (j := 51) hC fl_X11_25 dX11_together_11 rfl rfl ?_
    refine zv_iload_n hC dX11_together_14 rfl ?_
    refine zv_iald hC dX11_together_15 rfl h.1 ?_
    replace h := h.2
    refine zv_icmp_ge (tgt := 92) hC dX11_together_16 (by decide) (fun c => ?_) (fun c => ?_)
    · replace h := h.1 c
      refine zv_iload_n hC dX11_together_92 rfl ?_
      refine zv_ldc hC dX11_together_93 cst_X11_119 ?_
      refine zv_icmp_ge (tgt := 102) hC dX11_together_95 (by decide) (fun c => ?_) (fun c => ?_)
      · replace h := h.1 c
        refine zv_iload_n hC dX11_together_102 rfl ?_
        refine zv_sipush (v := 512) hC dX11_together_103 (by decide) ?_
        refine zv_icmp_ge (tgt := 113) hC dX11_together_106 (by decide) (fun c => ?_) (fun c => ?_)
        · replace h := h.1 c
          refine zv_sipush (v := 512) hC dX11_together_113 (by decide) ?_
          exact zv_go (k_X11_together_116 hC hR  h) trivial
        · replace h := h.2 c
          refine zv_iload_n hC dX11_together_109 rfl ?_
          refine zv_goto (tgt := 116) hC dX11_together_110 (by decide) ?_
          exact zv_go (k_X11_together_116 hC hR  h) trivial
      · replace h := h.2 c
        refine zv_iload_n hC dX11_together_98 rfl ?_
        refine zv_goto (tgt := 116) hC dX11_together_99 (by decide) ?_
        exact zv_go (k_X11_together_116 hC hR  h) trivial
    · replace h := h.2 c
      refine zv_aload_n hC dX11_together_19 rfl ?_
      refine zv_getR (j := 52) hC fl_X11_28 dX11_together_20 rfl rfl ?_
      refine zv_bipush (v := 8) hC dX11_together_23 (by decide) ?_
      refine zv_iload_n hC dX11_together_25 rfl ?_
      refine zv_imul hC dX11_together_26 ?_
      refine zv_iload hC dX11_together_27 rfl ?_
      refine zv_iadd hC dX11_together_29 ?_
      refine zv_iald hC dX11_together_30 rfl h.1 ?_
      replace h := h.2
      replace h := h _ rfl
      refine zv_istore hC dX11_together_31 (by decide) ?_
      refine zv_aload_n hC dX11_together_33 rfl ?_
      refine zv_getR (j := 62) hC fl_X11_60 dX11_together_34 rfl rfl ?_
      refine zv_aload_n hC dX11_together_37 rfl ?_
      refine zv_getR (j := 53) hC fl_X11_31 dX11_together_38 rfl rfl ?_
      refine zv_bipush (v := 8) hC dX11_together_41 (by decide) ?_
      refine zv_iload_n hC dX11_together_43 rfl ?_
      refine zv_imul hC dX11_together_44 ?_
      refine zv_iload hC dX11_together_45 rfl ?_
      refine zv_iadd hC dX11_together_47 ?_
      refine zv_iald hC dX11_together_48 rfl h.1 ?_
      replace h := h.2
      refine zv_iald hC dX11_together_49 rfl h.1 ?_
      replace h := h.2
      replace h := h _ rfl
      refine zv_istore hC dX11_together_50 (by decide) ?_
      refine zv_iload hC dX11_together_52 rfl ?_
      refine zv_iconst (v := 2) hC dX11_together_54 (by decide) ?_
      refine zv_icmp_ge (tgt := 69) hC dX11_together_55 (by decide) (fun c => ?_) (fun c => ?_)
      · replace h := h.1 c
        exact zv_go (k_X11_together_69 hC hR hk8 h) ⟨rfl, rfl, rfl, rfl, rfl, rfl, rfl, trivial⟩
      · replace h := h.2 c
        refine zv_iload hC dX11_together_58 rfl ?_
        refine zv_iload_n hC dX11_together_60 rfl ?_
        refine zv_icmp_ge (tgt := 69) hC dX11_together_61 (by decide) (fun c => ?_) (fun c => ?_)
        · replace h := h.1 c
          exact zv_go (k_X11_together_69 hC hR hk8 h) ⟨rfl, rfl, rfl, rfl, rfl, rfl, rfl, trivial⟩
        · replace h := h.2 c
          refine zv_iload hC dX11_together_64 rfl ?_
          refine zv_goto (tgt := 70) hC dX11_together_66 (by decide) ?_
          exact zv_go (k_X11_together_70 hC hR hk8 h) ⟨rfl, rfl, rfl, rfl, rfl, rfl, trivial⟩
def B_X11_together (Q : Int32 → zv_St → Prop) (x1 : Int32) (σ : zv_St) : Prop :=
  ∃ n8, L_X11_together_8 Q n8 x1 1000000 0 0 σ
set_option maxRecDepth 20000 in
set_option maxHeartbeats 2000000 in
theorem k_X11_together_0 {G : zv_G} {X : zv_X} {Q : Int32 → zv_St → Prop}  (hC : zv_C G X M_X11_together) (hR : zv_R G X M_X11_together (zv_qi Q))  {x1 : Int32} {σ : zv_St} (h : B_X11_together Q  x1 σ) : zv_V G X M_X11_together 0 [(0, .ref (G.2.2.1 45)), (1, .int x1)] [] σ := by
  unfold B_X11_together at h
  refine zv_ldc hC dX11_together_0 cst_X11_119 ?_
  refine zv_istore_n hC dX11_together_2 (by decide) ?_
  refine zv_iconst (v := 0) hC dX11_together_3 (by decide) ?_
  refine zv_istore_n hC dX11_together_4 (by decide) ?_
  refine zv_iconst (v := 0) hC dX11_together_5 (by decide) ?_
  refine zv_istore hC dX11_together_6 (by decide) ?_
  obtain ⟨n, h⟩ := h
  exact zv_go (kL_X11_together_8 hC hR  n _ _ _ _ _ h) ⟨rfl, rfl, rfl, rfl, rfl, trivial⟩
theorem ok_X11_together (G : zv_G) {Q : Int32 → zv_St → Prop} {x1 : Int32} {σ : zv_St} (h : B_X11_together Q x1 σ) : zv_OK G M_X11_together yX11_together [.ref (G.2.2.1 45), .int x1] σ (zv_qi Q) := zv_ok G _ _ _ _ _ (by decide +kernel) rfl (Nat.le_of_ble_eq_true rfl) (fun X hC hR => zv_go (k_X11_together_0 hC hR h) ⟨rfl, rfl, trivial⟩)
-- X11_costs
def B_X11_costs_154 (Q : zv_St → Prop) (kk2 : Int32 → zv_St → Prop) (x1 : Int32) (x2 : Int32) (σ : zv_St) : Prop :=
  vp_in x1 80 ∧ ∀ σ_1 : zv_St, σ_1 = zv_wi σ 62 x1.toNatClampNeg x2 → kk2 (x1 + 1) σ_1
set_option maxRecDepth 20000 in
set_option maxHeartbeats 2000000 in
theorem k_X11_costs_154 {G : zv_G} {X : zv_X} {Q : zv_St → Prop} {kk2 : Int32 → zv_St → Prop} (hC : zv_C G X M_X11_costs) (hR : zv_R G X M_X11_costs (zv_qv Q)) (hk2 : ∀ (x1 : Int32) (σ : zv_St), kk2 x1 σ → zv_V G X M_X11_costs 2 [(0, .ref (G.2.2.1 45)), (1, .int x1)] [] σ) {x1 : Int32} {x2 : Int32} {σ : zv_St} (h : B_X11_costs_154 Q kk2 x1 x2 σ) : zv_V G X M_X11_costs 154 [(0, .ref (G.2.2.1 45)), (1, .int x1), (2, .int x2)] [] σ := by
  unfold B_X11_costs_154 at h
  refine zv_aload_n hC dX11_costs_154 rfl ?_
  refine zv_getR (j := 62) hC fl_X11_60 dX11_costs_155 rfl rfl ?_
  refine zv_iload_n hC dX11_costs_158 rfl ?_
  refine zv_iload_n hC dX11_costs_159 rfl ?_
  refine zv_iast hC dX11_costs_160 rfl h.1 ?_
  replace h := h.2 _ rfl
  refine zv_iinc (v := 1) hC dX11_costs_161 rfl (by decide) (by decide) ?_
  refine zv_goto (tgt := 2) hC dX11_costs_164 (by decide) ?_
  exact zv_go (hk2 _ _ h) ⟨rfl, rfl, trivial⟩
def B_X11_costs_148 (Q : zv_St → Prop) (kk2 : Int32 → zv_St → Prop) (x1 : Int32) (σ : zv_St) : Prop :=
  B_X11_together (fun r_2 σ_1 => B_X11_costs_154 Q kk2 x1 r_2 σ_1) x1 σ
set_option maxRecDepth 20000 in
set_option maxHeartbeats 2000000 in
theorem k_X11_costs_148 {G : zv_G} {X : zv_X} {Q : zv_St → Prop} {kk2 : Int32 → zv_St → Prop} (hC : zv_C G X M_X11_costs) (hR : zv_R G X M_X11_costs (zv_qv Q)) (hk2 : ∀ (x1 : Int32) (σ : zv_St), kk2 x1 σ → zv_V G X M_X11_costs 2 [(0, .ref (G.2.2.1 45)), (1, .int x1)] [] σ) {x1 : Int32} {σ : zv_St} (h : B_X11_costs_148 Q kk2 x1 σ) : zv_V G X M_X11_costs 148 [(0, .ref (G.2.2.1 45)), (1, .int x1)] [] σ := by
  unfold B_X11_costs_148 at h
  refine zv_aload_n hC dX11_costs_148 rfl ?_
  refine zv_iload_n hC dX11_costs_149 rfl ?_
  refine zv_callVi (As := [_]) hC dX11_costs_150 Y_X11_together lk_X11_137 (by decide) rfl rfl rfl (Nat.le_of_ble_eq_true rfl) (ok_X11_together G h) ?_
  intro r_2 σ_1 h
  refine zv_istore_n hC dX11_costs_153 (by decide) ?_
  exact zv_go (k_X11_costs_154 hC hR hk2 h) ⟨rfl, rfl, rfl, trivial⟩
def B_X11_costs_128 (Q : zv_St → Prop) (kk2 : Int32 → zv_St → Prop) (x1 : Int32) (x2 : Int32) (σ : zv_St) : Prop :=
  vp_in x1 80 ∧ ((σ.1 48 x1.toNatClampNeg) = 3 → (B_X11_costs_148 Q kk2 x1 σ)) ∧ (¬ (σ.1 48 x1.toNatClampNeg) = 3 → (vp_in x1 80 ∧ (¬ (σ.1 48 x1.toNatClampNeg) = 2 → (B_X11_costs_154 Q kk2 x1 x2 σ)) ∧ ((σ.1 48 x1.toNatClampNeg) = 2 → (B_X11_costs_148 Q kk2 x1 σ))))
set_option maxRecDepth 20000 in
set_option maxHeartbeats 2000000 in
theorem k_X11_costs_128 {G : zv_G} {X : zv_X} {Q : zv_St → Prop} {kk2 : Int32 → zv_St → Prop} (hC : zv_C G X M_X11_costs) (hR : zv_R G X M_X11_costs (zv_qv Q)) (hk2 : ∀ (x1 : Int32) (σ : zv_St), kk2 x1 σ → zv_V G X M_X11_costs 2 [(0, .ref (G.2.2.1 45)), (1, .int x1)] [] σ) {x1 : Int32} {x2 : Int32} {σ : zv_St} (h : B_X11_costs_128 Q kk2 x1 x2 σ) : zv_V G X M_X11_costs 128 [(0, .ref (G.2.2.1 45)), (1, .int x1), (2, .int x2)] [] σ := by
  unfold B_X11_costs_128 at h
  refine zv_aload_n hC dX11_costs_128 rfl ?_
  refine zv_getR (j := 48) hC fl_X11_16 dX11_costs_129 rfl rfl ?_
  refine zv_iload_n hC dX11_costs_132 rfl ?_
  refine zv_iald hC dX11_costs_133 rfl h.1 ?_
  replace h := h.2
  refine zv_iconst (v := 3) hC dX11_costs_134 (by decide) ?_
  refine zv_icmp_eq (tgt := 148) hC dX11_costs_135 (by decide) (fun c => ?_) (fun c => ?_)
  · replace h := h.1 c
    exact zv_go (k_X11_costs_148 hC hR hk2 h) ⟨rfl, rfl, trivial⟩
  · replace h := h.2 c
    refine zv_aload_n hC dX11_costs_138 rfl ?_
    refine zv_getR (j := 48) hC fl_X11_16 dX11_costs_139 rfl rfl ?_
    refine zv_iload_n hC dX11_costs_142 rfl ?_
    refine zv_iald hC dX11_costs_143 rfl h.1 ?_
    replace h := h.2
    refine zv_iconst (v := 2) hC dX11_costs_144 (by decide) ?_
    refine zv_icmp_ne (tgt := 154) hC dX11_costs_145 (by decide) (fun c => ?_) (fun c => ?_)
    · replace h := h.1 c
      exact zv_go (k_X11_costs_154 hC hR hk2 h) ⟨rfl, rfl, rfl, trivial⟩
    · replace h := h.2 c
      exact zv_go (k_X11_costs_148 hC hR hk2 h) ⟨rfl, rfl, trivial⟩
def B_X11_costs_94 (Q : zv_St → Prop) (kk2 : Int32 → zv_St → Prop) (x1 : Int32) (x2 : Int32) (σ : zv_St) : Prop :=
  vp_in x1 80 ∧ ((σ.1 51 x1.toNatClampNeg) ≤ 0 → (B_X11_costs_128 Q kk2 x1 x2 σ)) ∧ (¬ (σ.1 51 x1.toNatClampNeg) ≤ 0 → (vp_in x1 80 ∧ ((σ.1 48 x1.toNatClampNeg) ≤ 3 → (B_X11_costs_128 Q kk2 x1 x2 σ)) ∧ (¬ (σ.1 48 x1.toNatClampNeg) ≤ 3 → (vp_in x1 80 ∧ vp_in (σ.1 49 x1.toNatClampNeg) 80 ∧ ∀ v_1 : Int32, v_1 = (σ.1 62 (σ.1 49 x1.toNatClampNeg).toNatClampNeg) → B_X11_costs_154 Q kk2 x1 v_1 σ))))
set_option maxRecDepth 20000 in
set_option maxHeartbeats 2000000 in
theorem k_X11_costs_94 {G : zv_G} {X : zv_X} {Q : zv_St → Prop} {kk2 : Int32 → zv_St → Prop} (hC : zv_C G X M_X11_costs) (hR : zv_R G X M_X11_costs (zv_qv Q)) (hk2 : ∀ (x1 : Int32) (σ : zv_St), kk2 x1 σ → zv_V G X M_X11_costs 2 [(0, .ref (G.2.2.1 45)), (1, .int x1)] [] σ) {x1 : Int32} {x2 : Int32} {σ : zv_St} (h : B_X11_costs_94 Q kk2 x1 x2 σ) : zv_V G X M_X11_costs 94 [(0, .ref (G.2.2.1 45)), (1, .int x1), (2, .int x2)] [] σ := by
  unfold B_X11_costs_94 at h
  refine zv_aload_n hC dX11_costs_94 rfl ?_
  refine zv_getR (j := 51) hC fl_X11_25 dX11_costs_95 rfl rfl ?_
  refine zv_iload_n hC dX11_costs_98 rfl ?_
  refine zv_iald hC dX11_costs_99 rfl h.1 ?_
  replace h := h.2
  refine zv_if_le (tgt := 128) hC dX11_costs_100 (by decide) (fun c => ?_) (fun c => ?_)
  · replace h := h.1 c
    exact zv_go (k_X11_costs_128 hC hR hk2 h) ⟨rfl, rfl, rfl, trivial⟩
  · replace h := h.2 c
    refine zv_aload_n hC dX11_costs_103 rfl ?_
    refine zv_getR (j := 48) hC fl_X11_16 dX11_costs_104 rfl rfl ?_
    refine zv_iload_n hC dX11_costs_107 rfl ?_
    refine zv_iald hC dX11_costs_108 rfl h.1 ?_
    replace h := h.2
    refine zv_iconst (v := 3) hC dX11_costs_109 (by decide) ?_
    refine zv_icmp_le (tgt := 128) hC dX11_costs_110 (by decide) (fun c => ?_) (fun c => ?_)
    · replace h := h.1 c
      exact zv_go (k_X11_costs_128 hC hR hk2 h) ⟨rfl, rfl, rfl, trivial⟩
    · replace h := h.2 c
      refine zv_aload_n hC dX11_costs_113 rfl ?_
      refine zv_getR (j := 62) hC fl_X11_60 dX11_costs_114 rfl rfl ?_
      refine zv_aload_n hC dX11_costs_117 rfl ?_
      refine zv_getR (j := 49) hC fl_X11_19 dX11_costs_118 rfl rfl ?_
      refine zv_iload_n hC dX11_costs_121 rfl ?_
      refine zv_iald hC dX11_costs_122 rfl h.1 ?_
      replace h := h.2
      refine zv_iald hC dX11_costs_123 rfl h.1 ?_
      replace h := h.2
      replace h := h _ rfl
      refine zv_istore_n hC dX11_costs_124 (by decide) ?_
      refine zv_goto (tgt := 154) hC dX11_costs_125 (by decide) ?_
      exact zv_go (k_X11_costs_154 hC hR hk2 h) ⟨rfl, rfl, rfl, trivial⟩
def B_X11_costs_62 (Q : zv_St → Prop) (kk2 : Int32 → zv_St → Prop) (x1 : Int32) (y0 : Int32) (σ : zv_St) : Prop :=
  vp_in x1 80 ∧ (¬ (σ.1 48 x1.toNatClampNeg) = 6 → (B_X11_costs_94 Q kk2 x1 y0 σ)) ∧ ((σ.1 48 x1.toNatClampNeg) = 6 → (vp_in x1 80 ∧ ((σ.1 55 x1.toNatClampNeg) = (-1) → (B_X11_costs_94 Q kk2 x1 y0 σ)) ∧ (¬ (σ.1 55 x1.toNatClampNeg) = (-1) → (vp_in x1 80 ∧ ∀ v_1 : Int32, v_1 = (σ.1 55 x1.toNatClampNeg) → B_X11_costs_154 Q kk2 x1 v_1 σ))))
set_option maxRecDepth 20000 in
set_option maxHeartbeats 2000000 in
theorem k_X11_costs_62 {G : zv_G} {X : zv_X} {Q : zv_St → Prop} {kk2 : Int32 → zv_St → Prop} (hC : zv_C G X M_X11_costs) (hR : zv_R G X M_X11_costs (zv_qv Q)) (hk2 : ∀ (x1 : Int32) (σ : zv_St), kk2 x1 σ → zv_V G X M_X11_costs 2 [(0, .ref (G.2.2.1 45)), (1, .int x1)] [] σ) {x1 : Int32} {y0 : Int32} {σ : zv_St} (h : B_X11_costs_62 Q kk2 x1 y0 σ) : zv_V G X M_X11_costs 62 [(0, .ref (G.2.2.1 45)), (1, .int x1)] [.int y0] σ := by
  unfold B_X11_costs_62 at h
  refine zv_istore_n hC dX11_costs_62 (by decide) ?_
  refine zv_aload_n hC dX11_costs_63 rfl ?_
  refine zv_getR (j := 48) hC fl_X11_16 dX11_costs_64 rfl rfl ?_
  refine zv_iload_n hC dX11_costs_67 rfl ?_
  refine zv_iald hC dX11_costs_68 rfl h.1 ?_
  replace h := h.2
  refine zv_bipush (v := 6) hC dX11_costs_69 (by decide) ?_
  refine zv_icmp_ne (tgt := 94) hC dX11_costs_71 (by decide) (fun c => ?_) (fun c => ?_)
  · replace h := h.1 c
    exact zv_go (k_X11_costs_94 hC hR hk2 h) ⟨rfl, rfl, rfl, trivial⟩
  · replace h := h.2 c
    refine zv_aload_n hC dX11_costs_74 rfl ?_
    refine zv_getR (j := 55) hC fl_X11_37 dX11_costs_75 rfl rfl ?_
    refine zv_iload_n hC dX11_costs_78 rfl ?_
    refine zv_iald hC dX11_costs_79 rfl h.1 ?_
    replace h := h.2
    refine zv_iconst (v := (-1)) hC dX11_costs_80 (by decide) ?_
    refine zv_icmp_eq (tgt := 94) hC dX11_costs_81 (by decide) (fun c => ?_) (fun c => ?_)
    · replace h := h.1 c
      exact zv_go (k_X11_costs_94 hC hR hk2 h) ⟨rfl, rfl, rfl, trivial⟩
    · replace h := h.2 c
      refine zv_aload_n hC dX11_costs_84 rfl ?_
      refine zv_getR (j := 55) hC fl_X11_37 dX11_costs_85 rfl rfl ?_
      refine zv_iload_n hC dX11_costs_88 rfl ?_
      refine zv_iald hC dX11_costs_89 rfl h.1 ?_
      replace h := h.2
      replace h := h _ rfl
      refine zv_istore_n hC dX11_costs_90 (by decide) ?_
      refine zv_goto (tgt := 154) hC dX11_costs_91 (by decide) ?_
      exact zv_go (k_X11_costs_154 hC hR hk2 h) ⟨rfl, rfl, rfl, trivial⟩
def L_X11_costs_2 (Q : zv_St → Prop) : Nat → (Int32 → zv_St → Prop)
  | 0 => fun _ _ => False
  | u + 1 => fun x1 σ => 
    ((σ.1 45 2) ≤ x1 → (Q σ)) ∧ (¬ (σ.1 45 2) ≤ x1 → (vp_in x1 80 ∧ (¬ (σ.1 48 x1.toNatClampNeg) = 0 → (vp_in x1 80 ∧ (¬ (σ.1 48 x1.toNatClampNeg) = 1 → (B_X11_costs_62 Q (L_X11_costs_2 Q u) x1 0 σ)) ∧ ((σ.1 48 x1.toNatClampNeg) = 1 → (vp_in x1 80 ∧ vp_in x1 80 ∧ B_X11_costs_62 Q (L_X11_costs_2 Q u) x1 (((σ.1 50 x1.toNatClampNeg) - (σ.1 49 x1.toNatClampNeg)) + 1) σ)))) ∧ ((σ.1 48 x1.toNatClampNeg) = 0 → (vp_in x1 80 ∧ vp_in (σ.1 49 x1.toNatClampNeg) 16 ∧ B_X11_costs_62 Q (L_X11_costs_2 Q u) x1 (σ.1 47 (σ.1 49 x1.toNatClampNeg).toNatClampNeg) σ))))
set_option maxRecDepth 20000 in
set_option maxHeartbeats 2000000 in
theorem kL_X11_costs_2 {G : zv_G} {X : zv_X} {Q : zv_St → Prop}  (hC : zv_C G X M_X11_costs) (hR : zv_R G X M_X11_costs (zv_qv Q))  : ∀ (n : Nat) (x1 : Int32) (σ : zv_St), L_X11_costs_2 Q  n x1 σ → zv_V G X M_X11_costs 2 [(0, .ref (G.2.2.1 45)), (1, .int x1)] [] σ := by
  intro n
  induction n with
  | zero => intro x1 σ h; exact h.elim
  | succ n hk2 =>
    intro x1 σ h
    unfold L_X11_costs_2 at h
    refine zv_iload_n hC dX11_costs_2 rfl ?_
    refine zv_aload_n hC dX11_costs_3 rfl ?_
    refine zv_getI hC fl_X11_107 dX11_costs_4 rfl rfl ?_
    refine zv_icmp_ge (tgt := 167) hC dX11_costs_7 (by decide) (fun c => ?_) (fun c => ?_)
    · replace h := h.1 c
      exact (hR _ _ _).2.2.2.1 rfl dX11_costs_167 ⟨rfl, h⟩
    · replace h := h.2 c
      refine zv_aload_n hC dX11_costs_10 rfl ?_
      refine zv_getR (j := 48) hC fl_X11_16 dX11_costs_11 rfl rfl ?_
      refine zv_iload_n hC dX11_costs_14 rfl ?_
      refine zv_iald hC dX11_costs_15 rfl h.1 ?_
      replace h := h.2
      refine zv_if_ne (tgt := 33) hC dX11_costs_16 (by decide) (fun c => ?_) (fun c => ?_)
      · replace h := h.1 c
        refine zv_aload_n hC dX11_costs_33 rfl ?_
        refine zv_getR (j := 48) hC fl_X11_16 dX11_costs_34 rfl rfl ?_
        refine zv_iload_n hC dX11_costs_37 rfl ?_
        refine zv_iald hC dX11_costs_38 rfl h.1 ?_
        replace h := h.2
        refine zv_iconst (v := 1) hC dX11_costs_39 (by decide) ?_
        refine zv_icmp_ne (tgt := 61) hC dX11_costs_40 (by decide) (fun c => ?_) (fun c => ?_)
        · replace h := h.1 c
          refine zv_iconst (v := 0) hC dX11_costs_61 (by decide) ?_
          exact zv_go (k_X11_costs_62 hC hR hk2 h) ⟨rfl, rfl, trivial⟩
        · replace h := h.2 c
          refine zv_aload_n hC dX11_costs_43 rfl ?_
          refine zv_getR (j := 50) hC fl_X11_22 dX11_costs_44 rfl rfl ?_
          refine zv_iload_n hC dX11_costs_47 rfl ?_
          refine zv_iald hC dX11_costs_48 rfl h.1 ?_
          replace h := h.2
          refine zv_aload_n hC dX11_costs_49 rfl ?_
          refine zv_getR (j := 49) hC fl_X11_19 dX11_costs_50 rfl rfl ?_
          refine zv_iload_n hC dX11_costs_53 rfl ?_
          refine zv_iald hC dX11_costs_54 rfl h.1 ?_
          replace h := h.2
          refine zv_isub hC dX11_costs_55 ?_
          refine zv_iconst (v := 1) hC dX11_costs_56 (by decide) ?_
          refine zv_iadd hC dX11_costs_57 ?_
          refine zv_goto (tgt := 62) hC dX11_costs_58 (by decide) ?_
          exact zv_go (k_X11_costs_62 hC hR hk2 h) ⟨rfl, rfl, trivial⟩
      · replace h := h.2 c
        refine zv_aload_n hC dX11_costs_19 rfl ?_
        refine zv_getR (j := 47) hC fl_X11_13 dX11_costs_20 rfl rfl ?_
        refine zv_aload_n hC dX11_costs_23 rfl ?_
        refine zv_getR (j := 49) hC fl_X11_19 dX11_costs_24 rfl rfl ?_
        refine zv_iload_n hC dX11_costs_27 rfl ?_
        refine zv_iald hC dX11_costs_28 rfl h.1 ?_
        replace h := h.2
        refine zv_iald hC dX11_costs_29 rfl h.1 ?_
        replace h := h.2
        refine zv_goto (tgt := 62) hC dX11_costs_30 (by decide) ?_
        exact zv_go (k_X11_costs_62 hC hR hk2 h) ⟨rfl, rfl, trivial⟩
def B_X11_costs (Q : zv_St → Prop) (σ : zv_St) : Prop :=
  ∃ n2, L_X11_costs_2 Q n2 0 σ
set_option maxRecDepth 20000 in
set_option maxHeartbeats 2000000 in
theorem k_X11_costs_0 {G : zv_G} {X : zv_X} {Q : zv_St → Prop}  (hC : zv_C G X M_X11_costs) (hR : zv_R G X M_X11_costs (zv_qv Q))   {σ : zv_St} (h : B_X11_costs Q   σ) : zv_V G X M_X11_costs 0 [(0, .ref (G.2.2.1 45))] [] σ := by
  unfold B_X11_costs at h
  refine zv_iconst (v := 0) hC dX11_costs_0 (by decide) ?_
  refine zv_istore_n hC dX11_costs_1 (by decide) ?_
  obtain ⟨n, h⟩ := h
  exact zv_go (kL_X11_costs_2 hC hR  n _ _ h) ⟨rfl, rfl, trivial⟩
theorem ok_X11_costs (G : zv_G) {Q : zv_St → Prop}  {σ : zv_St} (h : B_X11_costs Q  σ) : zv_OK G M_X11_costs yX11_costs [.ref (G.2.2.1 45)] σ (zv_qv Q) := zv_ok G _ _ _ _ _ (by decide +kernel) rfl (Nat.le_of_ble_eq_true rfl) (fun X hC hR => zv_go (k_X11_costs_0 hC hR h) ⟨rfl, trivial⟩)
-- X11_told
def B_X11_told_18 (Q : Int32 → zv_St → Prop) (σ : zv_St) : Prop :=
  Q (-2) σ
set_option maxRecDepth 20000 in
set_option maxHeartbeats 2000000 in
theorem k_X11_told_18 {G : zv_G} {X : zv_X} {Q : Int32 → zv_St → Prop}  (hC : zv_C G X M_X11_told) (hR : zv_R G X M_X11_told (zv_qi Q))   {σ : zv_St} (h : B_X11_told_18 Q   σ) : zv_V G X M_X11_told 18 [] [] σ := by
  unfold B_X11_told_18 at h
  refine zv_bipush (v := (-2)) hC dX11_told_18 (by decide) ?_
  exact (hR _ _ _).1 _ rfl dX11_told_20 ⟨_, rfl, h⟩
def B_X11_told_119 (Q : Int32 → zv_St → Prop) (y0 : Int32) (σ : zv_St) : Prop :=
  Q y0 σ
set_option maxRecDepth 20000 in
set_option maxHeartbeats 2000000 in
theorem k_X11_told_119 {G : zv_G} {X : zv_X} {Q : Int32 → zv_St → Prop}  (hC : zv_C G X M_X11_told) (hR : zv_R G X M_X11_told (zv_qi Q))  {y0 : Int32} {σ : zv_St} (h : B_X11_told_119 Q  y0 σ) : zv_V G X M_X11_told 119 [] [.int y0] σ := by
  unfold B_X11_told_119 at h
  exact (hR _ _ _).1 _ rfl dX11_told_119 ⟨_, rfl, h⟩
def B_X11_told_30 (Q : Int32 → zv_St → Prop) (x1 : Int32) (x2 : Int32) (σ : zv_St) : Prop :=
  (¬ x2 = 0 → ((¬ x2 = 1 → ((¬ x2 = 2 → ((¬ x2 = 3 → ((¬ x2 = 4 → ((¬ x2 = 5 → (vp_in x1 80 ∧ B_X11_told_119 Q (σ.1 55 x1.toNatClampNeg) σ)) ∧ (x2 = 5 → (vp_in x1 80 ∧ B_X11_told_119 Q (σ.1 54 x1.toNatClampNeg) σ)))) ∧ (x2 = 4 → (vp_in x1 80 ∧ B_X11_told_119 Q (σ.1 62 x1.toNatClampNeg) σ)))) ∧ (x2 = 3 → (vp_in x1 80 ∧ B_X11_told_119 Q (σ.1 51 x1.toNatClampNeg) σ)))) ∧ (x2 = 2 → (vp_in x1 80 ∧ B_X11_told_119 Q (σ.1 50 x1.toNatClampNeg) σ)))) ∧ (x2 = 1 → (vp_in x1 80 ∧ B_X11_told_119 Q (σ.1 49 x1.toNatClampNeg) σ)))) ∧ (x2 = 0 → (vp_in x1 80 ∧ B_X11_told_119 Q (σ.1 48 x1.toNatClampNeg) σ))
set_option maxRecDepth 20000 in
set_option maxHeartbeats 2000000 in
theorem k_X11_told_30 {G : zv_G} {X : zv_X} {Q : Int32 → zv_St → Prop}  (hC : zv_C G X M_X11_told) (hR : zv_R G X M_X11_told (zv_qi Q))  {x1 : Int32} {x2 : Int32} {σ : zv_St} (h : B_X11_told_30 Q  x1 x2 σ) : zv_V G X M_X11_told 30 [(0, .ref (G.2.2.1 45)), (1, .int x1), (2, .int x2)] [] σ := by
  unfold B_X11_told_30 at h
  refine zv_iload_n hC dX11_told_30 rfl ?_
  refine zv_if_ne (tgt := 43) hC dX11_told_31 (by decide) (fun c => ?_) (fun c => ?_)
  · replace h := h.1 c
    refine zv_iload_n hC dX11_told_43 rfl ?_
    refine zv_iconst (v := 1) hC dX11_told_44 (by decide) ?_
    refine zv_icmp_ne (tgt := 57) hC dX11_told_45 (by decide) (fun c => ?_) (fun c => ?_)
    · replace h := h.1 c
      refine zv_iload_n hC dX11_told_57 rfl ?_
      refine zv_iconst (v := 2) hC dX11_told_58 (by decide) ?_
      refine zv_icmp_ne (tgt := 71) hC dX11_told_59 (by decide) (fun c => ?_) (fun c => ?_)
      · replace h := h.1 c
        refine zv_iload_n hC dX11_told_71 rfl ?_
        refine zv_iconst (v := 3) hC dX11_told_72 (by decide) ?_
        refine zv_icmp_ne (tgt := 85) hC dX11_told_73 (by decide) (fun c => ?_) (fun c => ?_)
        · replace h := h.1 c
          refine zv_iload_n hC dX11_told_85 rfl ?_
          refine zv_iconst (v := 4) hC dX11_told_86 (by decide) ?_
          refine zv_icmp_ne (tgt := 99) hC dX11_told_87 (by decide) (fun c => ?_) (fun c => ?_)
          · replace h := h.1 c
            refine zv_iload_n hC dX11_told_99 rfl ?_
            refine zv_iconst (v := 5) hC dX11_told_100 (by decide) ?_
            refine zv_icmp_ne (tgt := 113) hC dX11_told_101 (by decide) (fun c => ?_) (fun c => ?_)
            · replace h := h.1 c
              refine zv_aload_n hC dX11_told_113 rfl ?_
              refine zv_getR (j := 55) hC fl_X11_37 dX11_told_114 rfl rfl ?_
              refine zv_iload_n hC dX11_told_117 rfl ?_
              refine zv_iald hC dX11_told_118 rfl h.1 ?_
              replace h := h.2
              exact zv_go (k_X11_told_119 hC hR  h) trivial
            · replace h := h.2 c
              refine zv_aload_n hC dX11_told_104 rfl ?_
              refine zv_getR (j := 54) hC fl_X11_34 dX11_told_105 rfl rfl ?_
              refine zv_iload_n hC dX11_told_108 rfl ?_
              refine zv_iald hC dX11_told_109 rfl h.1 ?_
              replace h := h.2
              refine zv_goto (tgt := 119) hC dX11_told_110 (by decide) ?_
              exact zv_go (k_X11_told_119 hC hR  h) trivial
          · replace h := h.2 c
            refine zv_aload_n hC dX11_told_90 rfl ?_
            refine zv_getR (j := 62) hC fl_X11_60 dX11_told_91 rfl rfl ?_
            refine zv_iload_n hC dX11_told_94 rfl ?_
            refine zv_iald hC dX11_told_95 rfl h.1 ?_
            replace h := h.2
            refine zv_goto (tgt := 119) hC dX11_told_96 (by decide) ?_
            exact zv_go (k_X11_told_119 hC hR  h) trivial
        · replace h := h.2 c
          refine zv_aload_n hC dX11_told_76 rfl ?_
          refine zv_getR (j := 51) hC fl_X11_25 dX11_told_77 rfl rfl ?_
          refine zv_iload_n hC dX11_told_80 rfl ?_
          refine zv_iald hC dX11_told_81 rfl h.1 ?_
          replace h := h.2
          refine zv_goto (tgt := 119) hC dX11_told_82 (by decide) ?_
          exact zv_go (k_X11_told_119 hC hR  h) trivial
      · replace h := h.2 c
        refine zv_aload_n hC dX11_told_62 rfl ?_
        refine zv_getR (j := 50) hC fl_X11_22 dX11_told_63 rfl rfl ?_
        refine zv_iload_n hC dX11_told_66 rfl ?_
        refine zv_iald hC dX11_told_67 rfl h.1 ?_
        replace h := h.2
        refine zv_goto (tgt := 119) hC dX11_told_68 (by decide) ?_
        exact zv_go (k_X11_told_119 hC hR  h) trivial
    · replace h := h.2 c
      refine zv_aload_n hC dX11_told_48 rfl ?_
      refine zv_getR (j := 49) hC fl_X11_19 dX11_told_49 rfl rfl ?_
      refine zv_iload_n hC dX11_told_52 rfl ?_
      refine zv_iald hC dX11_told_53 rfl h.1 ?_
      replace h := h.2
      refine zv_goto (tgt := 119) hC dX11_told_54 (by decide) ?_
      exact zv_go (k_X11_told_119 hC hR  h) trivial
  · replace h := h.2 c
    refine zv_aload_n hC dX11_told_34 rfl ?_
    refine zv_getR (j := 48) hC fl_X11_16 dX11_told_35 rfl rfl ?_
    refine zv_iload_n hC dX11_told_38 rfl ?_
    refine zv_iald hC dX11_told_39 rfl h.1 ?_
    replace h := h.2
    refine zv_goto (tgt := 119) hC dX11_told_40 (by decide) ?_
    exact zv_go (k_X11_told_119 hC hR  h) trivial
def B_X11_told (Q : Int32 → zv_St → Prop) (x1 : Int32) (x2 : Int32) (σ : zv_St) : Prop :=
  B_X11_isNode (fun r_2 σ_1 => (r_2 = 0 → (B_X11_told_18 Q σ_1)) ∧ (¬ r_2 = 0 → (B_X11_in (fun r_4 σ_3 => (¬ r_4 = 0 → ((¬ x2 = 4 → (B_X11_told_30 Q x1 x2 σ_3)) ∧ (x2 = 4 → (B_X11_costs (fun σ_5 => B_X11_told_30 Q x1 x2 σ_5) σ_3)))) ∧ (r_4 = 0 → (B_X11_told_18 Q σ_3))) x2 0 6 σ_1))) x1 σ
set_option maxRecDepth 20000 in
set_option maxHeartbeats 2000000 in
theorem k_X11_told_0 {G : zv_G} {X : zv_X} {Q : Int32 → zv_St → Prop}  (hC : zv_C G X M_X11_told) (hR : zv_R G X M_X11_told (zv_qi Q))  {x1 : Int32} {x2 : Int32} {σ : zv_St} (h : B_X11_told Q  x1 x2 σ) : zv_V G X M_X11_told 0 [(0, .ref (G.2.2.1 45)), (1, .int x1), (2, .int x2)] [] σ := by
  unfold B_X11_told at h
  refine zv_aload_n hC dX11_told_0 rfl ?_
  refine zv_iload_n hC dX11_told_1 rfl ?_
  refine zv_callVi (As := [_]) hC dX11_told_2 Y_X11_isNode lk_X11_123 (by decide) rfl rfl rfl (Nat.le_of_ble_eq_true rfl) (ok_X11_isNode G h) ?_
  intro r_2 σ_1 h
  refine zv_if_eq (tgt := 18) hC dX11_told_5 (by decide) (fun c => ?_) (fun c => ?_)
  · replace h := h.1 c
    exact zv_go (k_X11_told_18 hC hR  h) trivial
  · replace h := h.2 c
    refine zv_iload_n hC dX11_told_8 rfl ?_
    refine zv_iconst (v := 0) hC dX11_told_9 (by decide) ?_
    refine zv_bipush (v := 6) hC dX11_told_10 (by decide) ?_
    refine zv_callSi (As := [_, _, _]) hC dX11_told_12 Y_X11_in lk_X11_103 (by decide) rfl rfl (Nat.le_of_ble_eq_true rfl) (ok_X11_in G h) ?_
    intro r_4 σ_3 h
    refine zv_if_ne (tgt := 21) hC dX11_told_15 (by decide) (fun c => ?_) (fun c => ?_)
    · replace h := h.1 c
      refine zv_iload_n hC dX11_told_21 rfl ?_
      refine zv_iconst (v := 4) hC dX11_told_22 (by decide) ?_
      refine zv_icmp_ne (tgt := 30) hC dX11_told_23 (by decide) (fun c => ?_) (fun c => ?_)
      · replace h := h.1 c
        exact zv_go (k_X11_told_30 hC hR  h) ⟨rfl, rfl, rfl, trivial⟩
      · replace h := h.2 c
        refine zv_aload_n hC dX11_told_26 rfl ?_
        refine zv_callVv (As := []) hC dX11_told_27 Y_X11_costs lk_X11_134 (by decide) rfl rfl rfl (Nat.le_of_ble_eq_true rfl) (ok_X11_costs G h) ?_
        intro σ_5 h
        exact zv_go (k_X11_told_30 hC hR  h) ⟨rfl, rfl, rfl, trivial⟩
    · replace h := h.2 c
      exact zv_go (k_X11_told_18 hC hR  h) trivial
theorem ok_X11_told (G : zv_G) {Q : Int32 → zv_St → Prop} {x1 : Int32} {x2 : Int32} {σ : zv_St} (h : B_X11_told Q x1 x2 σ) : zv_OK G M_X11_told yX11_told [.ref (G.2.2.1 45), .int x1, .int x2] σ (zv_qi Q) := zv_ok G _ _ _ _ _ (by decide +kernel) rfl (Nat.le_of_ble_eq_true rfl) (fun X hC hR => zv_go (k_X11_told_0 hC hR h) ⟨rfl, rfl, rfl, trivial⟩)
-- X11_partOf
def B_X11_partOf_33 (Q : Int32 → zv_St → Prop) (σ : zv_St) : Prop :=
  Q (-2) σ
set_option maxRecDepth 20000 in
set_option maxHeartbeats 2000000 in
theorem k_X11_partOf_33 {G : zv_G} {X : zv_X} {Q : Int32 → zv_St → Prop}  (hC : zv_C G X M_X11_partOf) (hR : zv_R G X M_X11_partOf (zv_qi Q))   {σ : zv_St} (h : B_X11_partOf_33 Q   σ) : zv_V G X M_X11_partOf 33 [] [] σ := by
  unfold B_X11_partOf_33 at h
  refine zv_bipush (v := (-2)) hC dX11_partOf_33 (by decide) ?_
  exact (hR _ _ _).1 _ rfl dX11_partOf_35 ⟨_, rfl, h⟩
def B_X11_partOf_65 (Q : Int32 → zv_St → Prop) (y0 : Int32) (σ : zv_St) : Prop :=
  Q y0 σ
set_option maxRecDepth 20000 in
set_option maxHeartbeats 2000000 in
theorem k_X11_partOf_65 {G : zv_G} {X : zv_X} {Q : Int32 → zv_St → Prop}  (hC : zv_C G X M_X11_partOf) (hR : zv_R G X M_X11_partOf (zv_qi Q))  {y0 : Int32} {σ : zv_St} (h : B_X11_partOf_65 Q  y0 σ) : zv_V G X M_X11_partOf 65 [] [.int y0] σ := by
  unfold B_X11_partOf_65 at h
  exact (hR _ _ _).1 _ rfl dX11_partOf_65 ⟨_, rfl, h⟩
def B_X11_partOf (Q : Int32 → zv_St → Prop) (x1 : Int32) (x2 : Int32) (x3 : Int32) (σ : zv_St) : Prop :=
  B_X11_isNode (fun r_2 σ_1 => (r_2 = 0 → (B_X11_partOf_33 Q σ_1)) ∧ (¬ r_2 = 0 → (vp_in x1 80 ∧ B_X11_in (fun r_4 σ_3 => (r_4 = 0 → (B_X11_partOf_33 Q σ_3)) ∧ (¬ r_4 = 0 → (B_X11_in (fun r_6 σ_5 => (¬ r_6 = 0 → ((¬ x3 = 0 → (vp_in ((8 * x1) + x2) 640 ∧ B_X11_partOf_65 Q (σ_5.1 53 ((8 * x1) + x2).toNatClampNeg) σ_5)) ∧ (x3 = 0 → (vp_in ((8 * x1) + x2) 640 ∧ B_X11_partOf_65 Q (σ_5.1 52 ((8 * x1) + x2).toNatClampNeg) σ_5)))) ∧ (r_6 = 0 → (B_X11_partOf_33 Q σ_5))) x3 0 1 σ_3))) x2 0 ((σ_1.1 51 x1.toNatClampNeg) - 1) σ_1))) x1 σ
set_option maxRecDepth 20000 in
set_option maxHeartbeats 2000000 in
theorem k_X11_partOf_0 {G : zv_G} {X : zv_X} {Q : Int32 → zv_St → Prop}  (hC : zv_C G X M_X11_partOf) (hR : zv_R G X M_X11_partOf (zv_qi Q))  {x1 : Int32} {x2 : Int32} {x3 : Int32} {σ : zv_St} (h : B_X11_partOf Q  x1 x2 x3 σ) : zv_V G X M_X11_partOf 0 [(0, .ref (G.2.2.1 45)), (1, .int x1), (2, .int x2), (3, .int x3)] [] σ := by
  unfold B_X11_partOf at h
  refine zv_aload_n hC dX11_partOf_0 rfl ?_
  refine zv_iload_n hC dX11_partOf_1 rfl ?_
  refine zv_callVi (As := [_]) hC dX11_partOf_2 Y_X11_isNode lk_X11_123 (by decide) rfl rfl rfl (Nat.le_of_ble_eq_true rfl) (ok_X11_isNode G h) ?_
  intro r_2 σ_1 h
  refine zv_if_eq (tgt := 33) hC dX11_partOf_5 (by decide) (fun c => ?_) (fun c => ?_)
  · replace h := h.1 c
    exact zv_go (k_X11_partOf_33 hC hR  h) trivial
  · replace h := h.2 c
    refine zv_iload_n hC dX11_partOf_8 rfl ?_
    refine zv_iconst (v := 0) hC dX11_partOf_9 (by decide) ?_
    refine zv_aload_n hC dX11_partOf_10 rfl ?_
    refine zv_getR (j := 51) hC fl_X11_25 dX11_partOf_11 rfl rfl ?_
    refine zv_iload_n hC dX11_partOf_14 rfl ?_
    refine zv_iald hC dX11_partOf_15 rfl h.1 ?_
    replace h := h.2
    refine zv_iconst (v := 1) hC dX11_partOf_16 (by decide) ?_
    refine zv_isub hC dX11_partOf_17 ?_
    refine zv_callSi (As := [_, _, _]) hC dX11_partOf_18 Y_X11_in lk_X11_103 (by decide) rfl rfl (Nat.le_of_ble_eq_true rfl) (ok_X11_in G h) ?_
    intro r_4 σ_3 h
    refine zv_if_eq (tgt := 33) hC dX11_partOf_21 (by decide) (fun c => ?_) (fun c => ?_)
    · replace h := h.1 c
      exact zv_go (k_X11_partOf_33 hC hR  h) trivial
    · replace h := h.2 c
      refine zv_iload_n hC dX11_partOf_24 rfl ?_
      refine zv_iconst (v := 0) hC dX11_partOf_25 (by decide) ?_
      refine zv_iconst (v := 1) hC dX11_partOf_26 (by decide) ?_
      refine zv_callSi (As := [_, _, _]) hC dX11_partOf_27 Y_X11_in lk_X11_103 (by decide) rfl rfl (Nat.le_of_ble_eq_true rfl) (ok_X11_in G h) ?_
      intro r_6 σ_5 h
      refine zv_if_ne (tgt := 36) hC dX11_partOf_30 (by decide) (fun c => ?_) (fun c => ?_)
      · replace h := h.1 c
        refine zv_iload_n hC dX11_partOf_36 rfl ?_
        refine zv_if_ne (tgt := 54) hC dX11_partOf_37 (by decide) (fun c => ?_) (fun c => ?_)
        · replace h := h.1 c
          refine zv_aload_n hC dX11_partOf_54 rfl ?_
          refine zv_getR (j := 53) hC fl_X11_31 dX11_partOf_55 rfl rfl ?_
          refine zv_bipush (v := 8) hC dX11_partOf_58 (by decide) ?_
          refine zv_iload_n hC dX11_partOf_60 rfl ?_
          refine zv_imul hC dX11_partOf_61 ?_
          refine zv_iload_n hC dX11_partOf_62 rfl ?_
          refine zv_iadd hC dX11_partOf_63 ?_
          refine zv_iald hC dX11_partOf_64 rfl h.1 ?_
          replace h := h.2
          exact zv_go (k_X11_partOf_65 hC hR  h) trivial
        · replace h := h.2 c
          refine zv_aload_n hC dX11_partOf_40 rfl ?_
          refine zv_getR (j := 52) hC fl_X11_28 dX11_partOf_41 rfl rfl ?_
          refine zv_bipush (v := 8) hC dX11_partOf_44 (by decide) ?_
          refine zv_iload_n hC dX11_partOf_46 rfl ?_
          refine zv_imul hC dX11_partOf_47 ?_
          refine zv_iload_n hC dX11_partOf_48 rfl ?_
          refine zv_iadd hC dX11_partOf_49 ?_
          refine zv_iald hC dX11_partOf_50 rfl h.1 ?_
          replace h := h.2
          refine zv_goto (tgt := 65) hC dX11_partOf_51 (by decide) ?_
          exact zv_go (k_X11_partOf_65 hC hR  h) trivial
      · replace h := h.2 c
        exact zv_go (k_X11_partOf_33 hC hR  h) trivial
theorem ok_X11_partOf (G : zv_G) {Q : Int32 → zv_St → Prop} {x1 : Int32} {x2 : Int32} {x3 : Int32} {σ : zv_St} (h : B_X11_partOf Q x1 x2 x3 σ) : zv_OK G M_X11_partOf yX11_partOf [.ref (G.2.2.1 45), .int x1, .int x2, .int x3] σ (zv_qi Q) := zv_ok G _ _ _ _ _ (by decide +kernel) rfl (Nat.le_of_ble_eq_true rfl) (fun X hC hR => zv_go (k_X11_partOf_0 hC hR h) ⟨rfl, rfl, rfl, rfl, trivial⟩)
-- X11_fits
def B_X11_fits_191 (Q : Int32 → zv_St → Prop) (y0 : Int32) (σ : zv_St) : Prop :=
  narrow .boolean (.int y0) = .int y0 ∧ Q y0 σ
set_option maxRecDepth 20000 in
set_option maxHeartbeats 2000000 in
theorem k_X11_fits_191 {G : zv_G} {X : zv_X} {Q : Int32 → zv_St → Prop}  (hC : zv_C G X M_X11_fits) (hR : zv_R G X M_X11_fits (zv_qi Q))  {y0 : Int32} {σ : zv_St} (h : B_X11_fits_191 Q  y0 σ) : zv_V G X M_X11_fits 191 [] [.int y0] σ := by
  unfold B_X11_fits_191 at h
  exact (hR _ _ _).2.1 _ rfl h.1 dX11_fits_191 ⟨_, rfl, h.2⟩
def B_X11_fits_190 (Q : Int32 → zv_St → Prop) (σ : zv_St) : Prop :=
  B_X11_fits_191 Q 0 σ
set_option maxRecDepth 20000 in
set_option maxHeartbeats 2000000 in
theorem k_X11_fits_190 {G : zv_G} {X : zv_X} {Q : Int32 → zv_St → Prop}  (hC : zv_C G X M_X11_fits) (hR : zv_R G X M_X11_fits (zv_qi Q))   {σ : zv_St} (h : B_X11_fits_190 Q   σ) : zv_V G X M_X11_fits 190 [] [] σ := by
  unfold B_X11_fits_190 at h
  refine zv_iconst (v := 0) hC dX11_fits_190 (by decide) ?_
  exact zv_go (k_X11_fits_191 hC hR  h) trivial
def B_X11_fits_157 (Q : Int32 → zv_St → Prop) (kk11 : Int32 → Int32 → Int32 → Int32 → Int32 → Int32 → zv_St → Prop) (x1 : Int32) (x2 : Int32) (x3 : Int32) (x4 : Int32) (x6 : Int32) (y0 : Int32) (y1 : Int32) (σ : zv_St) : Prop :=
  kk11 x1 x2 x3 x4 (y0 + y1) (x6 + 1) σ
set_option maxRecDepth 20000 in
set_option maxHeartbeats 2000000 in
theorem k_X11_fits_157 {G : zv_G} {X : zv_X} {Q : Int32 → zv_St → Prop} {kk11 : Int32 → Int32 → Int32 → Int32 → Int32 → Int32 → zv_St → Prop} (hC : zv_C G X M_X11_fits) (hR : zv_R G X M_X11_fits (zv_qi Q)) (hk11 : ∀ (x1 : Int32) (x2 : Int32) (x3 : Int32) (x4 : Int32) (x5 : Int32) (x6 : Int32) (σ : zv_St), kk11 x1 x2 x3 x4 x5 x6 σ → zv_V G X M_X11_fits 11 [(0, .ref (G.2.2.1 45)), (1, .int x1), (2, .int x2), (3, .int x3), (4, .int x4), (5, .int x5), (6, .int x6)] [] σ) {x1 : Int32} {x2 : Int32} {x3 : Int32} {x4 : Int32} {x6 : Int32} {y0 : Int32} {y1 : Int32} {σ : zv_St} (h : B_X11_fits_157 Q kk11 x1 x2 x3 x4 x6 y0 y1 σ) : zv_V G X M_X11_fits 157 [(0, .ref (G.2.2.1 45)), (1, .int x1), (2, .int x2), (3, .int x3), (4, .int x4), (6, .int x6)] [.int y1, .int y0] σ := by
  unfold B_X11_fits_157 at h
  refine zv_iadd hC dX11_fits_157 ?_
  refine zv_istore hC dX11_fits_158 (by decide) ?_
  refine zv_iinc (v := 1) hC dX11_fits_160 rfl (by decide) (by decide) ?_
  refine zv_goto (tgt := 11) hC dX11_fits_163 (by decide) ?_
  exact zv_go (hk11 _ _ _ _ _ _ _ h) ⟨rfl, rfl, rfl, rfl, rfl, rfl, rfl, trivial⟩
def B_X11_fits_156 (Q : Int32 → zv_St → Prop) (kk11 : Int32 → Int32 → Int32 → Int32 → Int32 → Int32 → zv_St → Prop) (x1 : Int32) (x2 : Int32) (x3 : Int32) (x4 : Int32) (x6 : Int32) (y0 : Int32) (σ : zv_St) : Prop :=
  B_X11_fits_157 Q kk11 x1 x2 x3 x4 x6 y0 0 σ
set_option maxRecDepth 20000 in
set_option maxHeartbeats 2000000 in
theorem k_X11_fits_156 {G : zv_G} {X : zv_X} {Q : Int32 → zv_St → Prop} {kk11 : Int32 → Int32 → Int32 → Int32 → Int32 → Int32 → zv_St → Prop} (hC : zv_C G X M_X11_fits) (hR : zv_R G X M_X11_fits (zv_qi Q)) (hk11 : ∀ (x1 : Int32) (x2 : Int32) (x3 : Int32) (x4 : Int32) (x5 : Int32) (x6 : Int32) (σ : zv_St), kk11 x1 x2 x3 x4 x5 x6 σ → zv_V G X M_X11_fits 11 [(0, .ref (G.2.2.1 45)), (1, .int x1), (2, .int x2), (3, .int x3), (4, .int x4), (5, .int x5), (6, .int x6)] [] σ) {x1 : Int32} {x2 : Int32} {x3 : Int32} {x4 : Int32} {x6 : Int32} {y0 : Int32} {σ : zv_St} (h : B_X11_fits_156 Q kk11 x1 x2 x3 x4 x6 y0 σ) : zv_V G X M_X11_fits 156 [(0, .ref (G.2.2.1 45)), (1, .int x1), (2, .int x2), (3, .int x3), (4, .int x4), (6, .int x6)] [.int y0] σ := by
  unfold B_X11_fits_156 at h
  refine zv_iconst (v := 0) hC dX11_fits_156 (by decide) ?_
  exact zv_go (k_X11_fits_157 hC hR hk11 h) ⟨rfl, rfl, rfl, rfl, rfl, rfl, trivial⟩
def B_X11_fits_137 (Q : Int32 → zv_St → Prop) (kk11 : Int32 → Int32 → Int32 → Int32 → Int32 → Int32 → zv_St → Prop) (x1 : Int32) (x2 : Int32) (x3 : Int32) (x5 : Int32) (x6 : Int32) (x8 : Int32) (x9 : Int32) (y0 : Int32) (σ : zv_St) : Prop :=
  (¬ x8 = 3 → (B_X11_fits_156 Q kk11 x1 x2 x3 y0 x6 x5 σ)) ∧ (x8 = 3 → ((x9 = 0 → (B_X11_fits_156 Q kk11 x1 x2 x3 y0 x6 x5 σ)) ∧ (¬ x9 = 0 → (B_X11_fits_157 Q kk11 x1 x2 x3 y0 x6 x5 1 σ))))
set_option maxRecDepth 20000 in
set_option maxHeartbeats 2000000 in
theorem k_X11_fits_137 {G : zv_G} {X : zv_X} {Q : Int32 → zv_St → Prop} {kk11 : Int32 → Int32 → Int32 → Int32 → Int32 → Int32 → zv_St → Prop} (hC : zv_C G X M_X11_fits) (hR : zv_R G X M_X11_fits (zv_qi Q)) (hk11 : ∀ (x1 : Int32) (x2 : Int32) (x3 : Int32) (x4 : Int32) (x5 : Int32) (x6 : Int32) (σ : zv_St), kk11 x1 x2 x3 x4 x5 x6 σ → zv_V G X M_X11_fits 11 [(0, .ref (G.2.2.1 45)), (1, .int x1), (2, .int x2), (3, .int x3), (4, .int x4), (5, .int x5), (6, .int x6)] [] σ) {x1 : Int32} {x2 : Int32} {x3 : Int32} {x5 : Int32} {x6 : Int32} {x8 : Int32} {x9 : Int32} {y0 : Int32} {σ : zv_St} (h : B_X11_fits_137 Q kk11 x1 x2 x3 x5 x6 x8 x9 y0 σ) : zv_V G X M_X11_fits 137 [(0, .ref (G.2.2.1 45)), (1, .int x1), (2, .int x2), (3, .int x3), (5, .int x5), (6, .int x6), (8, .int x8), (9, .int x9)] [.int y0] σ := by
  unfold B_X11_fits_137 at h
  refine zv_istore hC dX11_fits_137 (by decide) ?_
  refine zv_iload hC dX11_fits_139 rfl ?_
  refine zv_iload hC dX11_fits_141 rfl ?_
  refine zv_iconst (v := 3) hC dX11_fits_143 (by decide) ?_
  refine zv_icmp_ne (tgt := 156) hC dX11_fits_144 (by decide) (fun c => ?_) (fun c => ?_)
  · replace h := h.1 c
    exact zv_go (k_X11_fits_156 hC hR hk11 h) ⟨rfl, rfl, rfl, rfl, rfl, rfl, trivial⟩
  · replace h := h.2 c
    refine zv_iload hC dX11_fits_147 rfl ?_
    refine zv_if_eq (tgt := 156) hC dX11_fits_149 (by decide) (fun c => ?_) (fun c => ?_)
    · replace h := h.1 c
      exact zv_go (k_X11_fits_156 hC hR hk11 h) ⟨rfl, rfl, rfl, rfl, rfl, rfl, trivial⟩
    · replace h := h.2 c
      refine zv_iconst (v := 1) hC dX11_fits_152 (by decide) ?_
      refine zv_goto (tgt := 157) hC dX11_fits_153 (by decide) ?_
      exact zv_go (k_X11_fits_157 hC hR hk11 h) ⟨rfl, rfl, rfl, rfl, rfl, rfl, trivial⟩
def B_X11_fits_132 (Q : Int32 → zv_St → Prop) (kk11 : Int32 → Int32 → Int32 → Int32 → Int32 → Int32 → zv_St → Prop) (x1 : Int32) (x2 : Int32) (x3 : Int32) (x5 : Int32) (x6 : Int32) (x8 : Int32) (x9 : Int32) (σ : zv_St) : Prop :=
  B_X11_fits_137 Q kk11 x1 x2 x3 x5 x6 x8 x9 1 σ
set_option maxRecDepth 20000 in
set_option maxHeartbeats 2000000 in
theorem k_X11_fits_132 {G : zv_G} {X : zv_X} {Q : Int32 → zv_St → Prop} {kk11 : Int32 → Int32 → Int32 → Int32 → Int32 → Int32 → zv_St → Prop} (hC : zv_C G X M_X11_fits) (hR : zv_R G X M_X11_fits (zv_qi Q)) (hk11 : ∀ (x1 : Int32) (x2 : Int32) (x3 : Int32) (x4 : Int32) (x5 : Int32) (x6 : Int32) (σ : zv_St), kk11 x1 x2 x3 x4 x5 x6 σ → zv_V G X M_X11_fits 11 [(0, .ref (G.2.2.1 45)), (1, .int x1), (2, .int x2), (3, .int x3), (4, .int x4), (5, .int x5), (6, .int x6)] [] σ) {x1 : Int32} {x2 : Int32} {x3 : Int32} {x5 : Int32} {x6 : Int32} {x8 : Int32} {x9 : Int32} {σ : zv_St} (h : B_X11_fits_132 Q kk11 x1 x2 x3 x5 x6 x8 x9 σ) : zv_V G X M_X11_fits 132 [(0, .ref (G.2.2.1 45)), (1, .int x1), (2, .int x2), (3, .int x3), (5, .int x5), (6, .int x6), (8, .int x8), (9, .int x9)] [] σ := by
  unfold B_X11_fits_132 at h
  refine zv_iconst (v := 1) hC dX11_fits_132 (by decide) ?_
  refine zv_goto (tgt := 137) hC dX11_fits_133 (by decide) ?_
  exact zv_go (k_X11_fits_137 hC hR hk11 h) ⟨rfl, rfl, rfl, rfl, rfl, rfl, rfl, rfl, trivial⟩
def B_X11_fits_136 (Q : Int32 → zv_St → Prop) (kk11 : Int32 → Int32 → Int32 → Int32 → Int32 → Int32 → zv_St → Prop) (x1 : Int32) (x2 : Int32) (x3 : Int32) (x5 : Int32) (x6 : Int32) (x8 : Int32) (x9 : Int32) (σ : zv_St) : Prop :=
  B_X11_fits_137 Q kk11 x1 x2 x3 x5 x6 x8 x9 0 σ
set_option maxRecDepth 20000 in
set_option maxHeartbeats 2000000 in
theorem k_X11_fits_136 {G : zv_G} {X : zv_X} {Q : Int32 → zv_St → Prop} {kk11 : Int32 → Int32 → Int32 → Int32 → Int32 → Int32 → zv_St → Prop} (hC : zv_C G X M_X11_fits) (hR : zv_R G X M_X11_fits (zv_qi Q)) (hk11 : ∀ (x1 : Int32) (x2 : Int32) (x3 : Int32) (x4 : Int32) (x5 : Int32) (x6 : Int32) (σ : zv_St), kk11 x1 x2 x3 x4 x5 x6 σ → zv_V G X M_X11_fits 11 [(0, .ref (G.2.2.1 45)), (1, .int x1), (2, .int x2), (3, .int x3), (4, .int x4), (5, .int x5), (6, .int x6)] [] σ) {x1 : Int32} {x2 : Int32} {x3 : Int32} {x5 : Int32} {x6 : Int32} {x8 : Int32} {x9 : Int32} {σ : zv_St} (h : B_X11_fits_136 Q kk11 x1 x2 x3 x5 x6 x8 x9 σ) : zv_V G X M_X11_fits 136 [(0, .ref (G.2.2.1 45)), (1, .int x1), (2, .int x2), (3, .int x3), (5, .int x5), (6, .int x6), (8, .int x8), (9, .int x9)] [] σ := by
  unfold B_X11_fits_136 at h
  refine zv_iconst (v := 0) hC dX11_fits_136 (by decide) ?_
  exact zv_go (k_X11_fits_137 hC hR hk11 h) ⟨rfl, rfl, rfl, rfl, rfl, rfl, rfl, rfl, trivial⟩
def B_X11_fits_115 (Q : Int32 → zv_St → Prop) (kk11 : Int32 → Int32 → Int32 → Int32 → Int32 → Int32 → zv_St → Prop) (x1 : Int32) (x2 : Int32) (x4 : Int32) (x5 : Int32) (x6 : Int32) (x8 : Int32) (x9 : Int32) (y0 : Int32) (σ : zv_St) : Prop :=
  (¬ x4 = 0 → (B_X11_fits_132 Q kk11 x1 x2 y0 x5 x6 x8 x9 σ)) ∧ (x4 = 0 → ((x8 = 2 → (B_X11_fits_136 Q kk11 x1 x2 y0 x5 x6 x8 x9 σ)) ∧ (¬ x8 = 2 → ((x9 = 0 → (B_X11_fits_136 Q kk11 x1 x2 y0 x5 x6 x8 x9 σ)) ∧ (¬ x9 = 0 → (B_X11_fits_132 Q kk11 x1 x2 y0 x5 x6 x8 x9 σ))))))
set_option maxRecDepth 20000 in
set_option maxHeartbeats 2000000 in
theorem k_X11_fits_115 {G : zv_G} {X : zv_X} {Q : Int32 → zv_St → Prop} {kk11 : Int32 → Int32 → Int32 → Int32 → Int32 → Int32 → zv_St → Prop} (hC : zv_C G X M_X11_fits) (hR : zv_R G X M_X11_fits (zv_qi Q)) (hk11 : ∀ (x1 : Int32) (x2 : Int32) (x3 : Int32) (x4 : Int32) (x5 : Int32) (x6 : Int32) (σ : zv_St), kk11 x1 x2 x3 x4 x5 x6 σ → zv_V G X M_X11_fits 11 [(0, .ref (G.2.2.1 45)), (1, .int x1), (2, .int x2), (3, .int x3), (4, .int x4), (5, .int x5), (6, .int x6)] [] σ) {x1 : Int32} {x2 : Int32} {x4 : Int32} {x5 : Int32} {x6 : Int32} {x8 : Int32} {x9 : Int32} {y0 : Int32} {σ : zv_St} (h : B_X11_fits_115 Q kk11 x1 x2 x4 x5 x6 x8 x9 y0 σ) : zv_V G X M_X11_fits 115 [(0, .ref (G.2.2.1 45)), (1, .int x1), (2, .int x2), (4, .int x4), (5, .int x5), (6, .int x6), (8, .int x8), (9, .int x9)] [.int y0] σ := by
  unfold B_X11_fits_115 at h
  refine zv_istore_n hC dX11_fits_115 (by decide) ?_
  refine zv_iload hC dX11_fits_116 rfl ?_
  refine zv_if_ne (tgt := 132) hC dX11_fits_118 (by decide) (fun c => ?_) (fun c => ?_)
  · replace h := h.1 c
    exact zv_go (k_X11_fits_132 hC hR hk11 h) ⟨rfl, rfl, rfl, rfl, rfl, rfl, rfl, rfl, trivial⟩
  · replace h := h.2 c
    refine zv_iload hC dX11_fits_121 rfl ?_
    refine zv_iconst (v := 2) hC dX11_fits_123 (by decide) ?_
    refine zv_icmp_eq (tgt := 136) hC dX11_fits_124 (by decide) (fun c => ?_) (fun c => ?_)
    · replace h := h.1 c
      exact zv_go (k_X11_fits_136 hC hR hk11 h) ⟨rfl, rfl, rfl, rfl, rfl, rfl, rfl, rfl, trivial⟩
    · replace h := h.2 c
      refine zv_iload hC dX11_fits_127 rfl ?_
      refine zv_if_eq (tgt := 136) hC dX11_fits_129 (by decide) (fun c => ?_) (fun c => ?_)
      · replace h := h.1 c
        exact zv_go (k_X11_fits_136 hC hR hk11 h) ⟨rfl, rfl, rfl, rfl, rfl, rfl, rfl, rfl, trivial⟩
      · replace h := h.2 c
        exact zv_go (k_X11_fits_132 hC hR hk11 h) ⟨rfl, rfl, rfl, rfl, rfl, rfl, rfl, rfl, trivial⟩
def B_X11_fits_114 (Q : Int32 → zv_St → Prop) (kk11 : Int32 → Int32 → Int32 → Int32 → Int32 → Int32 → zv_St → Prop) (x1 : Int32) (x2 : Int32) (x4 : Int32) (x5 : Int32) (x6 : Int32) (x8 : Int32) (x9 : Int32) (σ : zv_St) : Prop :=
  B_X11_fits_115 Q kk11 x1 x2 x4 x5 x6 x8 x9 0 σ
set_option maxRecDepth 20000 in
set_option maxHeartbeats 2000000 in
theorem k_X11_fits_114 {G : zv_G} {X : zv_X} {Q : Int32 → zv_St → Prop} {kk11 : Int32 → Int32 → Int32 → Int32 → Int32 → Int32 → zv_St → Prop} (hC : zv_C G X M_X11_fits) (hR : zv_R G X M_X11_fits (zv_qi Q)) (hk11 : ∀ (x1 : Int32) (x2 : Int32) (x3 : Int32) (x4 : Int32) (x5 : Int32) (x6 : Int32) (σ : zv_St), kk11 x1 x2 x3 x4 x5 x6 σ → zv_V G X M_X11_fits 11 [(0, .ref (G.2.2.1 45)), (1, .int x1), (2, .int x2), (3, .int x3), (4, .int x4), (5, .int x5), (6, .int x6)] [] σ) {x1 : Int32} {x2 : Int32} {x4 : Int32} {x5 : Int32} {x6 : Int32} {x8 : Int32} {x9 : Int32} {σ : zv_St} (h : B_X11_fits_114 Q kk11 x1 x2 x4 x5 x6 x8 x9 σ) : zv_V G X M_X11_fits 114 [(0, .ref (G.2.2.1 45)), (1, .int x1), (2, .int x2), (4, .int x4), (5, .int x5), (6, .int x6), (8, .int x8), (9, .int x9)] [] σ := by
  unfold B_X11_fits_114 at h
  refine zv_iconst (v := 0) hC dX11_fits_114 (by decide) ?_
  exact zv_go (k_X11_fits_115 hC hR hk11 h) ⟨rfl, rfl, rfl, rfl, rfl, rfl, rfl, rfl, trivial⟩
def B_X11_fits_110 (Q : Int32 → zv_St → Prop) (kk11 : Int32 → Int32 → Int32 → Int32 → Int32 → Int32 → zv_St → Prop) (x1 : Int32) (x2 : Int32) (x4 : Int32) (x5 : Int32) (x6 : Int32) (x8 : Int32) (x9 : Int32) (σ : zv_St) : Prop :=
  B_X11_fits_115 Q kk11 x1 x2 x4 x5 x6 x8 x9 1 σ
set_option maxRecDepth 20000 in
set_option maxHeartbeats 2000000 in
theorem k_X11_fits_110 {G : zv_G} {X : zv_X} {Q : Int32 → zv_St → Prop} {kk11 : Int32 → Int32 → Int32 → Int32 → Int32 → Int32 → zv_St → Prop} (hC : zv_C G X M_X11_fits) (hR : zv_R G X M_X11_fits (zv_qi Q)) (hk11 : ∀ (x1 : Int32) (x2 : Int32) (x3 : Int32) (x4 : Int32) (x5 : Int32) (x6 : Int32) (σ : zv_St), kk11 x1 x2 x3 x4 x5 x6 σ → zv_V G X M_X11_fits 11 [(0, .ref (G.2.2.1 45)), (1, .int x1), (2, .int x2), (3, .int x3), (4, .int x4), (5, .int x5), (6, .int x6)] [] σ) {x1 : Int32} {x2 : Int32} {x4 : Int32} {x5 : Int32} {x6 : Int32} {x8 : Int32} {x9 : Int32} {σ : zv_St} (h : B_X11_fits_110 Q kk11 x1 x2 x4 x5 x6 x8 x9 σ) : zv_V G X M_X11_fits 110 [(0, .ref (G.2.2.1 45)), (1, .int x1), (2, .int x2), (4, .int x4), (5, .int x5), (6, .int x6), (8, .int x8), (9, .int x9)] [] σ := by
  unfold B_X11_fits_110 at h
  refine zv_iconst (v := 1) hC dX11_fits_110 (by decide) ?_
  refine zv_goto (tgt := 115) hC dX11_fits_111 (by decide) ?_
  exact zv_go (k_X11_fits_115 hC hR hk11 h) ⟨rfl, rfl, rfl, rfl, rfl, rfl, rfl, rfl, trivial⟩
def B_X11_fits_107 (Q : Int32 → zv_St → Prop) (kk11 : Int32 → Int32 → Int32 → Int32 → Int32 → Int32 → zv_St → Prop) (x1 : Int32) (x2 : Int32) (x4 : Int32) (x5 : Int32) (x6 : Int32) (x8 : Int32) (x9 : Int32) (y0 : Int32) (y1 : Int32) (σ : zv_St) : Prop :=
  (¬ y0 = y1 → (B_X11_fits_114 Q kk11 x1 x2 x4 x5 x6 x8 x9 σ)) ∧ (y0 = y1 → (B_X11_fits_110 Q kk11 x1 x2 x4 x5 x6 x8 x9 σ))
set_option maxRecDepth 20000 in
set_option maxHeartbeats 2000000 in
theorem k_X11_fits_107 {G : zv_G} {X : zv_X} {Q : Int32 → zv_St → Prop} {kk11 : Int32 → Int32 → Int32 → Int32 → Int32 → Int32 → zv_St → Prop} (hC : zv_C G X M_X11_fits) (hR : zv_R G X M_X11_fits (zv_qi Q)) (hk11 : ∀ (x1 : Int32) (x2 : Int32) (x3 : Int32) (x4 : Int32) (x5 : Int32) (x6 : Int32) (σ : zv_St), kk11 x1 x2 x3 x4 x5 x6 σ → zv_V G X M_X11_fits 11 [(0, .ref (G.2.2.1 45)), (1, .int x1), (2, .int x2), (3, .int x3), (4, .int x4), (5, .int x5), (6, .int x6)] [] σ) {x1 : Int32} {x2 : Int32} {x4 : Int32} {x5 : Int32} {x6 : Int32} {x8 : Int32} {x9 : Int32} {y0 : Int32} {y1 : Int32} {σ : zv_St} (h : B_X11_fits_107 Q kk11 x1 x2 x4 x5 x6 x8 x9 y0 y1 σ) : zv_V G X M_X11_fits 107 [(0, .ref (G.2.2.1 45)), (1, .int x1), (2, .int x2), (4, .int x4), (5, .int x5), (6, .int x6), (8, .int x8), (9, .int x9)] [.int y1, .int y0] σ := by
  unfold B_X11_fits_107 at h
  refine zv_icmp_ne (tgt := 114) hC dX11_fits_107 (by decide) (fun c => ?_) (fun c => ?_)
  · replace h := h.1 c
    exact zv_go (k_X11_fits_114 hC hR hk11 h) ⟨rfl, rfl, rfl, rfl, rfl, rfl, rfl, rfl, trivial⟩
  · replace h := h.2 c
    exact zv_go (k_X11_fits_110 hC hR hk11 h) ⟨rfl, rfl, rfl, rfl, rfl, rfl, rfl, rfl, trivial⟩
def B_X11_fits_82 (Q : Int32 → zv_St → Prop) (kk11 : Int32 → Int32 → Int32 → Int32 → Int32 → Int32 → zv_St → Prop) (x1 : Int32) (x2 : Int32) (x3 : Int32) (x4 : Int32) (x5 : Int32) (x6 : Int32) (x8 : Int32) (y0 : Int32) (σ : zv_St) : Prop :=
  (x3 = 0 → (B_X11_fits_114 Q kk11 x1 x2 x4 x5 x6 x8 y0 σ)) ∧ (¬ x3 = 0 → ((x8 = 3 → (B_X11_fits_110 Q kk11 x1 x2 x4 x5 x6 x8 y0 σ)) ∧ (¬ x8 = 3 → ((x8 = 2 → (B_X11_fits_107 Q kk11 x1 x2 x4 x5 x6 x8 y0 y0 0 σ)) ∧ (¬ x8 = 2 → (B_X11_fits_107 Q kk11 x1 x2 x4 x5 x6 x8 y0 y0 1 σ))))))
set_option maxRecDepth 20000 in
set_option maxHeartbeats 2000000 in
theorem k_X11_fits_82 {G : zv_G} {X : zv_X} {Q : Int32 → zv_St → Prop} {kk11 : Int32 → Int32 → Int32 → Int32 → Int32 → Int32 → zv_St → Prop} (hC : zv_C G X M_X11_fits) (hR : zv_R G X M_X11_fits (zv_qi Q)) (hk11 : ∀ (x1 : Int32) (x2 : Int32) (x3 : Int32) (x4 : Int32) (x5 : Int32) (x6 : Int32) (σ : zv_St), kk11 x1 x2 x3 x4 x5 x6 σ → zv_V G X M_X11_fits 11 [(0, .ref (G.2.2.1 45)), (1, .int x1), (2, .int x2), (3, .int x3), (4, .int x4), (5, .int x5), (6, .int x6)] [] σ) {x1 : Int32} {x2 : Int32} {x3 : Int32} {x4 : Int32} {x5 : Int32} {x6 : Int32} {x8 : Int32} {y0 : Int32} {σ : zv_St} (h : B_X11_fits_82 Q kk11 x1 x2 x3 x4 x5 x6 x8 y0 σ) : zv_V G X M_X11_fits 82 [(0, .ref (G.2.2.1 45)), (1, .int x1), (2, .int x2), (3, .int x3), (4, .int x4), (5, .int x5), (6, .int x6), (8, .int x8)] [.int y0] σ := by
  unfold B_X11_fits_82 at h
  refine zv_istore hC dX11_fits_82 (by decide) ?_
  refine zv_iload_n hC dX11_fits_84 rfl ?_
  refine zv_if_eq (tgt := 114) hC dX11_fits_85 (by decide) (fun c => ?_) (fun c => ?_)
  · replace h := h.1 c
    exact zv_go (k_X11_fits_114 hC hR hk11 h) ⟨rfl, rfl, rfl, rfl, rfl, rfl, rfl, rfl, trivial⟩
  · replace h := h.2 c
    refine zv_iload hC dX11_fits_88 rfl ?_
    refine zv_iconst (v := 3) hC dX11_fits_90 (by decide) ?_
    refine zv_icmp_eq (tgt := 110) hC dX11_fits_91 (by decide) (fun c => ?_) (fun c => ?_)
    · replace h := h.1 c
      exact zv_go (k_X11_fits_110 hC hR hk11 h) ⟨rfl, rfl, rfl, rfl, rfl, rfl, rfl, rfl, trivial⟩
    · replace h := h.2 c
      refine zv_iload hC dX11_fits_94 rfl ?_
      refine zv_iload hC dX11_fits_96 rfl ?_
      refine zv_iconst (v := 2) hC dX11_fits_98 (by decide) ?_
      refine zv_icmp_eq (tgt := 106) hC dX11_fits_99 (by decide) (fun c => ?_) (fun c => ?_)
      · replace h := h.1 c
        refine zv_iconst (v := 0) hC dX11_fits_106 (by decide) ?_
        exact zv_go (k_X11_fits_107 hC hR hk11 h) ⟨rfl, rfl, rfl, rfl, rfl, rfl, rfl, rfl, trivial⟩
      · replace h := h.2 c
        refine zv_iconst (v := 1) hC dX11_fits_102 (by decide) ?_
        refine zv_goto (tgt := 107) hC dX11_fits_103 (by decide) ?_
        exact zv_go (k_X11_fits_107 hC hR hk11 h) ⟨rfl, rfl, rfl, rfl, rfl, rfl, rfl, rfl, trivial⟩
def B_X11_fits_62 (Q : Int32 → zv_St → Prop) (kk11 : Int32 → Int32 → Int32 → Int32 → Int32 → Int32 → zv_St → Prop) (x1 : Int32) (x2 : Int32) (x3 : Int32) (x4 : Int32) (x5 : Int32) (x6 : Int32) (x7 : Int32) (x8 : Int32) (y0 : Int32) (y1 : Int32) (σ : zv_St) : Prop :=
  (¬ y0 = y1 → (vp_in x7 80 ∧ B_X11_fits_82 Q kk11 x1 x2 x3 x4 x5 x6 x8 (σ.1 63 x7.toNatClampNeg) σ)) ∧ (y0 = y1 → (vp_in x7 80 ∧ B_X11_fits_82 Q kk11 x1 x2 x3 x4 x5 x6 x8 (σ.1 64 x7.toNatClampNeg) σ))
set_option maxRecDepth 20000 in
set_option maxHeartbeats 2000000 in
theorem k_X11_fits_62 {G : zv_G} {X : zv_X} {Q : Int32 → zv_St → Prop} {kk11 : Int32 → Int32 → Int32 → Int32 → Int32 → Int32 → zv_St → Prop} (hC : zv_C G X M_X11_fits) (hR : zv_R G X M_X11_fits (zv_qi Q)) (hk11 : ∀ (x1 : Int32) (x2 : Int32) (x3 : Int32) (x4 : Int32) (x5 : Int32) (x6 : Int32) (σ : zv_St), kk11 x1 x2 x3 x4 x5 x6 σ → zv_V G X M_X11_fits 11 [(0, .ref (G.2.2.1 45)), (1, .int x1), (2, .int x2), (3, .int x3), (4, .int x4), (5, .int x5), (6, .int x6)] [] σ) {x1 : Int32} {x2 : Int32} {x3 : Int32} {x4 : Int32} {x5 : Int32} {x6 : Int32} {x7 : Int32} {x8 : Int32} {y0 : Int32} {y1 : Int32} {σ : zv_St} (h : B_X11_fits_62 Q kk11 x1 x2 x3 x4 x5 x6 x7 x8 y0 y1 σ) : zv_V G X M_X11_fits 62 [(0, .ref (G.2.2.1 45)), (1, .int x1), (2, .int x2), (3, .int x3), (4, .int x4), (5, .int x5), (6, .int x6), (7, .int x7), (8, .int x8)] [.int y1, .int y0] σ := by
  unfold B_X11_fits_62 at h
  refine zv_icmp_ne (tgt := 75) hC dX11_fits_62 (by decide) (fun c => ?_) (fun c => ?_)
  · replace h := h.1 c
    refine zv_aload_n hC dX11_fits_75 rfl ?_
    refine zv_getR (j := 63) hC fl_X11_63 dX11_fits_76 rfl rfl ?_
    refine zv_iload hC dX11_fits_79 rfl ?_
    refine zv_zald hC dX11_fits_81 rfl h.1 ?_
    replace h := h.2
    exact zv_go (k_X11_fits_82 hC hR hk11 h) ⟨rfl, rfl, rfl, rfl, rfl, rfl, rfl, rfl, trivial⟩
  · replace h := h.2 c
    refine zv_aload_n hC dX11_fits_65 rfl ?_
    refine zv_getR (j := 64) hC fl_X11_66 dX11_fits_66 rfl rfl ?_
    refine zv_iload hC dX11_fits_69 rfl ?_
    refine zv_zald hC dX11_fits_71 rfl h.1 ?_
    replace h := h.2
    refine zv_goto (tgt := 82) hC dX11_fits_72 (by decide) ?_
    exact zv_go (k_X11_fits_82 hC hR hk11 h) ⟨rfl, rfl, rfl, rfl, rfl, rfl, rfl, rfl, trivial⟩
def L_X11_fits_11 (Q : Int32 → zv_St → Prop) : Nat → (Int32 → Int32 → Int32 → Int32 → Int32 → Int32 → zv_St → Prop)
  | 0 => fun _ _ _ _ _ _ _ => False
  | u + 1 => fun x1 x2 x3 x4 x5 x6 σ => 
    vp_in x1 80 ∧ ((σ.1 51 x1.toNatClampNeg) ≤ x6 → ((x3 = 0 → (B_X11_fits_190 Q σ)) ∧ (¬ x3 = 0 → ((x4 = 0 → (B_X11_fits_190 Q σ)) ∧ (¬ x4 = 0 → (vp_in x1 80 ∧ (x5 < (σ.1 49 x1.toNatClampNeg) → (B_X11_fits_190 Q σ)) ∧ (¬ x5 < (σ.1 49 x1.toNatClampNeg) → (B_X11_fits_191 Q 1 σ)))))))) ∧ (¬ (σ.1 51 x1.toNatClampNeg) ≤ x6 → (vp_in ((8 * x1) + x6) 640 ∧ ∀ v_1 : Int32, v_1 = (σ.1 53 ((8 * x1) + x6).toNatClampNeg) → vp_in ((8 * x1) + x6) 640 ∧ ∀ v_2 : Int32, v_2 = (σ.1 52 ((8 * x1) + x6).toNatClampNeg) → (v_2 = 2 → (B_X11_fits_62 Q (L_X11_fits_11 Q u) x1 x2 x3 x4 x5 x6 v_1 v_2 x2 0 σ)) ∧ (¬ v_2 = 2 → (B_X11_fits_62 Q (L_X11_fits_11 Q u) x1 x2 x3 x4 x5 x6 v_1 v_2 x2 1 σ))))
set_option maxRecDepth 20000 in
set_option maxHeartbeats 2000000 in
theorem kL_X11_fits_11 {G : zv_G} {X : zv_X} {Q : Int32 → zv_St → Prop}  (hC : zv_C G X M_X11_fits) (hR : zv_R G X M_X11_fits (zv_qi Q))  : ∀ (n : Nat) (x1 : Int32) (x2 : Int32) (x3 : Int32) (x4 : Int32) (x5 : Int32) (x6 : Int32) (σ : zv_St), L_X11_fits_11 Q  n x1 x2 x3 x4 x5 x6 σ → zv_V G X M_X11_fits 11 [(0, .ref (G.2.2.1 45)), (1, .int x1), (2, .int x2), (3, .int x3), (4, .int x4), (5, .int x5), (6, .int x6)] [] σ := by
  intro n
  induction n with
  | zero => intro x1 x2 x3 x4 x5 x6 σ h; exact h.elim
  | succ n hk11 =>
    intro x1 x2 x3 x4 x5 x6 σ h
    unfold L_X11_fits_11 at h
    refine zv_iload hC dX11_fits_11 rfl ?_
    refine zv_aload_n hC dX11_fits_13 rfl ?_
    refine zv_getR (j := 51) hC fl_X11_25 dX11_fits_14 rfl rfl ?_
    refine zv_iload_n hC dX11_fits_17 rfl ?_
    refine zv_iald hC dX11_fits_18 rfl h.1 ?_
    replace h := h.2
    refine zv_icmp_ge (tgt := 166) hC dX11_fits_19 (by decide) (fun c => ?_) (fun c => ?_)
    · replace h := h.1 c
      refine zv_iload_n hC dX11_fits_166 rfl ?_
      refine zv_if_eq (tgt := 190) hC dX11_fits_167 (by decide) (fun c => ?_) (fun c => ?_)
      · replace h := h.1 c
        exact zv_go (k_X11_fits_190 hC hR  h) trivial
      · replace h := h.2 c
        refine zv_iload hC dX11_fits_170 rfl ?_
        refine zv_if_eq (tgt := 190) hC dX11_fits_172 (by decide) (fun c => ?_) (fun c => ?_)
        · replace h := h.1 c
          exact zv_go (k_X11_fits_190 hC hR  h) trivial
        · replace h := h.2 c
          refine zv_iload hC dX11_fits_175 rfl ?_
          refine zv_aload_n hC dX11_fits_177 rfl ?_
          refine zv_getR (j := 49) hC fl_X11_19 dX11_fits_178 rfl rfl ?_
          refine zv_iload_n hC dX11_fits_181 rfl ?_
          refine zv_iald hC dX11_fits_182 rfl h.1 ?_
          replace h := h.2
          refine zv_icmp_lt (tgt := 190) hC dX11_fits_183 (by decide) (fun c => ?_) (fun c => ?_)
          · replace h := h.1 c
            exact zv_go (k_X11_fits_190 hC hR  h) trivial
          · replace h := h.2 c
            refine zv_iconst (v := 1) hC dX11_fits_186 (by decide) ?_
            refine zv_goto (tgt := 191) hC dX11_fits_187 (by decide) ?_
            exact zv_go (k_X11_fits_191 hC hR  h) trivial
    · replace h := h.2 c
      refine zv_aload_n hC dX11_fits_22 rfl ?_
      refine zv_getR (j := 53) hC fl_X11_31 dX11_fits_23 rfl rfl ?_
      refine zv_bipush (v := 8) hC dX11_fits_26 (by decide) ?_
      refine zv_iload_n hC dX11_fits_28 rfl ?_
      refine zv_imul hC dX11_fits_29 ?_
      refine zv_iload hC dX11_fits_30 rfl ?_
      refine zv_iadd hC dX11_fits_32 ?_
      refine zv_iald hC dX11_fits_33 rfl h.1 ?_
      replace h := h.2
      replace h := h _ rfl
      refine zv_istore hC dX11_fits_34 (by decide) ?_
      refine zv_aload_n hC dX11_fits_36 rfl ?_
      refine zv_getR (j := 52) hC fl_X11_28 dX11_fits_37 rfl rfl ?_
      refine zv_bipush (v := 8) hC dX11_fits_40 (by decide) ?_
      refine zv_iload_n hC dX11_fits_42 rfl ?_
      refine zv_imul hC dX11_fits_43 ?_
      refine zv_iload hC dX11_fits_44 rfl ?_
      refine zv_iadd hC dX11_fits_46 ?_
      refine zv_iald hC dX11_fits_47 rfl h.1 ?_
      replace h := h.2
      replace h := h _ rfl
      refine zv_istore hC dX11_fits_48 (by decide) ?_
      refine zv_iload_n hC dX11_fits_50 rfl ?_
      refine zv_iload hC dX11_fits_51 rfl ?_
      refine zv_iconst (v := 2) hC dX11_fits_53 (by decide) ?_
      refine zv_icmp_eq (tgt := 61) hC dX11_fits_54 (by decide) (fun c => ?_) (fun c => ?_)
      · replace h := h.1 c
        refine zv_iconst (v := 0) hC dX11_fits_61 (by decide) ?_
        exact zv_go (k_X11_fits_62 hC hR hk11 h) ⟨rfl, rfl, rfl, rfl, rfl, rfl, rfl, rfl, rfl, trivial⟩
      · replace h := h.2 c
        refine zv_iconst (v := 1) hC dX11_fits_57 (by decide) ?_
        refine zv_goto (tgt := 62) hC dX11_fits_58 (by decide) ?_
        exact zv_go (k_X11_fits_62 hC hR hk11 h) ⟨rfl, rfl, rfl, rfl, rfl, rfl, rfl, rfl, rfl, trivial⟩
def B_X11_fits (Q : Int32 → zv_St → Prop) (x1 : Int32) (x2 : Int32) (σ : zv_St) : Prop :=
  ∃ n11, L_X11_fits_11 Q n11 x1 x2 1 0 0 0 σ
set_option maxRecDepth 20000 in
set_option maxHeartbeats 2000000 in
theorem k_X11_fits_0 {G : zv_G} {X : zv_X} {Q : Int32 → zv_St → Prop}  (hC : zv_C G X M_X11_fits) (hR : zv_R G X M_X11_fits (zv_qi Q))  {x1 : Int32} {x2 : Int32} {σ : zv_St} (h : B_X11_fits Q  x1 x2 σ) : zv_V G X M_X11_fits 0 [(0, .ref (G.2.2.1 45)), (1, .int x1), (2, .int x2)] [] σ := by
  unfold B_X11_fits at h
  refine zv_iconst (v := 1) hC dX11_fits_0 (by decide) ?_
  refine zv_istore_n hC dX11_fits_1 (by decide) ?_
  refine zv_iconst (v := 0) hC dX11_fits_2 (by decide) ?_
  refine zv_istore hC dX11_fits_3 (by decide) ?_
  refine zv_iconst (v := 0) hC dX11_fits_5 (by decide) ?_
  refine zv_istore hC dX11_fits_6 (by decide) ?_
  refine zv_iconst (v := 0) hC dX11_fits_8 (by decide) ?_
  refine zv_istore hC dX11_fits_9 (by decide) ?_
  obtain ⟨n, h⟩ := h
  exact zv_go (kL_X11_fits_11 hC hR  n _ _ _ _ _ _ _ h) ⟨rfl, rfl, rfl, rfl, rfl, rfl, rfl, trivial⟩
theorem ok_X11_fits (G : zv_G) {Q : Int32 → zv_St → Prop} {x1 : Int32} {x2 : Int32} {σ : zv_St} (h : B_X11_fits Q x1 x2 σ) : zv_OK G M_X11_fits yX11_fits [.ref (G.2.2.1 45), .int x1, .int x2] σ (zv_qi Q) := zv_ok G _ _ _ _ _ (by decide +kernel) rfl (Nat.le_of_ble_eq_true rfl) (fun X hC hR => zv_go (k_X11_fits_0 hC hR h) ⟨rfl, rfl, rfl, trivial⟩)
