-- X11_goBest
def B_X11_goBest_169 (Q : zv_St → Prop) (x1 : Int32) (x3 : Int64) (x5 : Int64) (y1 : Int32) (y2 : Int32) (σ : zv_St) : Prop :=
  vp_in y1 80 ∧ ∀ σ_1 : zv_St, σ_1 = zv_wi σ 65 y1.toNatClampNeg y2 → vp_in x1 80 ∧ vp_in x1 80 ∧ ∀ σ_2 : zv_St, σ_2 = zv_wl σ_1 66 x1.toNatClampNeg (x3 + (((x5 - x3) * (Int32.toInt64 (σ_1.1 49 x1.toNatClampNeg))) / 100)) → Q σ_2
set_option maxRecDepth 20000 in
set_option maxHeartbeats 2000000 in
theorem k_X11_goBest_169 {G : zv_G} {X : zv_X} {Q : zv_St → Prop}  (hC : zv_C G X M_X11_goBest) (hR : zv_R G X M_X11_goBest (zv_qv Q))  {x1 : Int32} {x3 : Int64} {x5 : Int64} {y1 : Int32} {y2 : Int32} {σ : zv_St} (h : B_X11_goBest_169 Q  x1 x3 x5 y1 y2 σ) : zv_V G X M_X11_goBest 169 [(0, .ref (G.2.2.1 45)), (1, .int x1), (3, .long x3), (5, .long x5)] [.int y2, .int y1, .ref (G.2.2.1 65)] σ := by
  unfold B_X11_goBest_169 at h
  refine zv_iast hC dX11_goBest_169 rfl h.1 ?_
  replace h := h.2 _ rfl
  refine zv_aload_n hC dX11_goBest_170 rfl ?_
  refine zv_getR (j := 66) hC fl_X11_72 dX11_goBest_171 rfl rfl ?_
  refine zv_iload_n hC dX11_goBest_174 rfl ?_
  refine zv_lload_n hC dX11_goBest_175 rfl ?_
  refine zv_lload hC dX11_goBest_176 rfl ?_
  refine zv_lload_n hC dX11_goBest_178 rfl ?_
  refine zv_lsub hC dX11_goBest_179 ?_
  refine zv_aload_n hC dX11_goBest_180 rfl ?_
  refine zv_getR (j := 49) hC fl_X11_19 dX11_goBest_181 rfl rfl ?_
  refine zv_iload_n hC dX11_goBest_184 rfl ?_
  refine zv_iald hC dX11_goBest_185 rfl h.1 ?_
  replace h := h.2
  refine zv_i2l hC dX11_goBest_186 ?_
  refine zv_lmul hC dX11_goBest_187 ?_
  refine zv_ldc2 hC dX11_goBest_188 cst_X11_170 ?_
  refine zv_ldiv hC dX11_goBest_191 (by decide) ?_
  refine zv_ladd hC dX11_goBest_192 ?_
  refine zv_last hC dX11_goBest_193 rfl h.1 ?_
  replace h := h.2 _ rfl
  exact (hR _ _ _).2.2.2.1 rfl dX11_goBest_194 ⟨rfl, h⟩
def B_X11_goBest_149 (Q : zv_St → Prop) (kk71 : Int32 → Int32 → Int64 → Int64 → Int32 → zv_St → Prop) (x1 : Int32) (x2 : Int32) (x3 : Int64) (x5 : Int64) (x7 : Int32) (σ : zv_St) : Prop :=
  kk71 x1 x2 x3 x5 (x7 + 1) σ
set_option maxRecDepth 20000 in
set_option maxHeartbeats 2000000 in
theorem k_X11_goBest_149 {G : zv_G} {X : zv_X} {Q : zv_St → Prop} {kk71 : Int32 → Int32 → Int64 → Int64 → Int32 → zv_St → Prop} (hC : zv_C G X M_X11_goBest) (hR : zv_R G X M_X11_goBest (zv_qv Q)) (hk71 : ∀ (x1 : Int32) (x2 : Int32) (x3 : Int64) (x5 : Int64) (x7 : Int32) (σ : zv_St), kk71 x1 x2 x3 x5 x7 σ → zv_V G X M_X11_goBest 71 [(0, .ref (G.2.2.1 45)), (1, .int x1), (2, .int x2), (3, .long x3), (5, .long x5), (7, .int x7)] [] σ) {x1 : Int32} {x2 : Int32} {x3 : Int64} {x5 : Int64} {x7 : Int32} {σ : zv_St} (h : B_X11_goBest_149 Q kk71 x1 x2 x3 x5 x7 σ) : zv_V G X M_X11_goBest 149 [(0, .ref (G.2.2.1 45)), (1, .int x1), (2, .int x2), (3, .long x3), (5, .long x5), (7, .int x7)] [] σ := by
  unfold B_X11_goBest_149 at h
  refine zv_iinc (v := 1) hC dX11_goBest_149 rfl (by decide) (by decide) ?_
  refine zv_goto (tgt := 71) hC dX11_goBest_152 (by decide) ?_
  exact zv_go (hk71 _ _ _ _ _ _ h) ⟨rfl, rfl, rfl, rfl, rfl, rfl, trivial⟩
def B_X11_goBest_134 (Q : zv_St → Prop) (kk71 : Int32 → Int32 → Int64 → Int64 → Int32 → zv_St → Prop) (x1 : Int32) (x5 : Int64) (x7 : Int32) (x8 : Int32) (y0 : Int64) (σ : zv_St) : Prop :=
  vp_in x8 80 ∧ ∀ v_1 : Int64, v_1 = (x5 + (σ.2 66 x8.toNatClampNeg)) → B_X11_goBest_149 Q kk71 x1 1 y0 v_1 x7 σ
set_option maxRecDepth 20000 in
set_option maxHeartbeats 2000000 in
theorem k_X11_goBest_134 {G : zv_G} {X : zv_X} {Q : zv_St → Prop} {kk71 : Int32 → Int32 → Int64 → Int64 → Int32 → zv_St → Prop} (hC : zv_C G X M_X11_goBest) (hR : zv_R G X M_X11_goBest (zv_qv Q)) (hk71 : ∀ (x1 : Int32) (x2 : Int32) (x3 : Int64) (x5 : Int64) (x7 : Int32) (σ : zv_St), kk71 x1 x2 x3 x5 x7 σ → zv_V G X M_X11_goBest 71 [(0, .ref (G.2.2.1 45)), (1, .int x1), (2, .int x2), (3, .long x3), (5, .long x5), (7, .int x7)] [] σ) {x1 : Int32} {x5 : Int64} {x7 : Int32} {x8 : Int32} {y0 : Int64} {σ : zv_St} (h : B_X11_goBest_134 Q kk71 x1 x5 x7 x8 y0 σ) : zv_V G X M_X11_goBest 134 [(0, .ref (G.2.2.1 45)), (1, .int x1), (5, .long x5), (7, .int x7), (8, .int x8)] [.long y0] σ := by
  unfold B_X11_goBest_134 at h
  refine zv_lstore_n hC dX11_goBest_134 (by decide) ?_
  refine zv_lload hC dX11_goBest_135 rfl ?_
  refine zv_aload_n hC dX11_goBest_137 rfl ?_
  refine zv_getR (j := 66) hC fl_X11_72 dX11_goBest_138 rfl rfl ?_
  refine zv_iload hC dX11_goBest_141 rfl ?_
  refine zv_lald hC dX11_goBest_143 rfl h.1 ?_
  replace h := h.2
  refine zv_ladd hC dX11_goBest_144 ?_
  replace h := h _ rfl
  refine zv_lstore hC dX11_goBest_145 (by decide) ?_
  refine zv_iconst (v := 1) hC dX11_goBest_147 (by decide) ?_
  refine zv_istore_n hC dX11_goBest_148 (by decide) ?_
  exact zv_go (k_X11_goBest_149 hC hR hk71 h) ⟨rfl, rfl, rfl, rfl, rfl, rfl, trivial⟩
def B_X11_goBest_123 (Q : zv_St → Prop) (kk71 : Int32 → Int32 → Int64 → Int64 → Int32 → zv_St → Prop) (x1 : Int32) (x5 : Int64) (x7 : Int32) (x8 : Int32) (σ : zv_St) : Prop :=
  vp_in x8 80 ∧ B_X11_goBest_134 Q kk71 x1 x5 x7 x8 (σ.2 66 x8.toNatClampNeg) σ
set_option maxRecDepth 20000 in
set_option maxHeartbeats 2000000 in
theorem k_X11_goBest_123 {G : zv_G} {X : zv_X} {Q : zv_St → Prop} {kk71 : Int32 → Int32 → Int64 → Int64 → Int32 → zv_St → Prop} (hC : zv_C G X M_X11_goBest) (hR : zv_R G X M_X11_goBest (zv_qv Q)) (hk71 : ∀ (x1 : Int32) (x2 : Int32) (x3 : Int64) (x5 : Int64) (x7 : Int32) (σ : zv_St), kk71 x1 x2 x3 x5 x7 σ → zv_V G X M_X11_goBest 71 [(0, .ref (G.2.2.1 45)), (1, .int x1), (2, .int x2), (3, .long x3), (5, .long x5), (7, .int x7)] [] σ) {x1 : Int32} {x5 : Int64} {x7 : Int32} {x8 : Int32} {σ : zv_St} (h : B_X11_goBest_123 Q kk71 x1 x5 x7 x8 σ) : zv_V G X M_X11_goBest 123 [(0, .ref (G.2.2.1 45)), (1, .int x1), (5, .long x5), (7, .int x7), (8, .int x8)] [] σ := by
  unfold B_X11_goBest_123 at h
  refine zv_aload_n hC dX11_goBest_123 rfl ?_
  refine zv_getR (j := 66) hC fl_X11_72 dX11_goBest_124 rfl rfl ?_
  refine zv_iload hC dX11_goBest_127 rfl ?_
  refine zv_lald hC dX11_goBest_129 rfl h.1 ?_
  replace h := h.2
  refine zv_goto (tgt := 134) hC dX11_goBest_130 (by decide) ?_
  exact zv_go (k_X11_goBest_134 hC hR hk71 h) ⟨rfl, rfl, rfl, rfl, rfl, trivial⟩
def L_X11_goBest_71 (Q : zv_St → Prop) : Nat → (Int32 → Int32 → Int64 → Int64 → Int32 → zv_St → Prop)
  | 0 => fun _ _ _ _ _ _ => False
  | u + 1 => fun x1 x2 x3 x5 x7 σ => 
    vp_in x1 80 ∧ ((σ.1 51 x1.toNatClampNeg) ≤ x7 → ((x2 = 0 → (B_X11_goBest_169 Q x1 x3 x5 x1 0 σ)) ∧ (¬ x2 = 0 → (B_X11_goBest_169 Q x1 x3 x5 x1 1 σ)))) ∧ (¬ (σ.1 51 x1.toNatClampNeg) ≤ x7 → (vp_in ((8 * x1) + x7) 640 ∧ ∀ v_1 : Int32, v_1 = (σ.1 53 ((8 * x1) + x7).toNatClampNeg) → vp_in v_1 80 ∧ (¬ (σ.1 65 v_1.toNatClampNeg) = 1 → (B_X11_goBest_149 Q (L_X11_goBest_71 Q u) x1 x2 x3 x5 x7 σ)) ∧ ((σ.1 65 v_1.toNatClampNeg) = 1 → ((x2 = 0 → (B_X11_goBest_123 Q (L_X11_goBest_71 Q u) x1 x5 x7 v_1 σ)) ∧ (¬ x2 = 0 → (vp_in v_1 80 ∧ ((lg_cmp (σ.2 66 v_1.toNatClampNeg) x3) ≤ 0 → (B_X11_goBest_134 Q (L_X11_goBest_71 Q u) x1 x5 x7 v_1 x3 σ)) ∧ (¬ (lg_cmp (σ.2 66 v_1.toNatClampNeg) x3) ≤ 0 → (B_X11_goBest_123 Q (L_X11_goBest_71 Q u) x1 x5 x7 v_1 σ))))))))
set_option maxRecDepth 20000 in
set_option maxHeartbeats 2000000 in
theorem kL_X11_goBest_71 {G : zv_G} {X : zv_X} {Q : zv_St → Prop}  (hC : zv_C G X M_X11_goBest) (hR : zv_R G X M_X11_goBest (zv_qv Q))  : ∀ (n : Nat) (x1 : Int32) (x2 : Int32) (x3 : Int64) (x5 : Int64) (x7 : Int32) (σ : zv_St), L_X11_goBest_71 Q  n x1 x2 x3 x5 x7 σ → zv_V G X M_X11_goBest 71 [(0, .ref (G.2.2.1 45)), (1, .int x1), (2, .int x2), (3, .long x3), (5, .long x5), (7, .int x7)] [] σ := by
  intro n
  induction n with
  | zero => intro x1 x2 x3 x5 x7 σ h; exact h.elim
  | succ n hk71 =>
    intro x1 x2 x3 x5 x7 σ h
    unfold L_X11_goBest_71 at h
    refine zv_iload hC dX11_goBest_71 rfl ?_
    refine zv_aload_n hC dX11_goBest_73 rfl ?_
    refine zv_getR (j := 51) hC fl_X11_25 dX11_goBest_74 rfl rfl ?_
    refine zv_iload_n hC dX11_goBest_77 rfl ?_
    refine zv_iald hC dX11_goBest_78 rfl h.1 ?_
    replace h := h.2
    refine zv_icmp_ge (tgt := 155) hC dX11_goBest_79 (by decide) (fun c => ?_) (fun c => ?_)
    · replace h := h.1 c
      refine zv_aload_n hC dX11_goBest_155 rfl ?_
      refine zv_getR (j := 65) hC fl_X11_69 dX11_goBest_156 rfl rfl ?_
      refine zv_iload_n hC dX11_goBest_159 rfl ?_
      refine zv_iload_n hC dX11_goBest_160 rfl ?_
      refine zv_if_eq (tgt := 168) hC dX11_goBest_161 (by decide) (fun c => ?_) (fun c => ?_)
      · replace h := h.1 c
        refine zv_iconst (v := 0) hC dX11_goBest_168 (by decide) ?_
        exact zv_go (k_X11_goBest_169 hC hR  h) ⟨rfl, rfl, rfl, rfl, trivial⟩
      · replace h := h.2 c
        refine zv_iconst (v := 1) hC dX11_goBest_164 (by decide) ?_
        refine zv_goto (tgt := 169) hC dX11_goBest_165 (by decide) ?_
        exact zv_go (k_X11_goBest_169 hC hR  h) ⟨rfl, rfl, rfl, rfl, trivial⟩
    · replace h := h.2 c
      refine zv_aload_n hC dX11_goBest_82 rfl ?_
      refine zv_getR (j := 53) hC fl_X11_31 dX11_goBest_83 rfl rfl ?_
      refine zv_bipush (v := 8) hC dX11_goBest_86 (by decide) ?_
      refine zv_iload_n hC dX11_goBest_88 rfl ?_
      refine zv_imul hC dX11_goBest_89 ?_
      refine zv_iload hC dX11_goBest_90 rfl ?_
      refine zv_iadd hC dX11_goBest_92 ?_
      refine zv_iald hC dX11_goBest_93 rfl h.1 ?_
      replace h := h.2
      replace h := h _ rfl
      refine zv_istore hC dX11_goBest_94 (by decide) ?_
      refine zv_aload_n hC dX11_goBest_96 rfl ?_
      refine zv_getR (j := 65) hC fl_X11_69 dX11_goBest_97 rfl rfl ?_
      refine zv_iload hC dX11_goBest_100 rfl ?_
      refine zv_iald hC dX11_goBest_102 rfl h.1 ?_
      replace h := h.2
      refine zv_iconst (v := 1) hC dX11_goBest_103 (by decide) ?_
      refine zv_icmp_ne (tgt := 149) hC dX11_goBest_104 (by decide) (fun c => ?_) (fun c => ?_)
      · replace h := h.1 c
        exact zv_go (k_X11_goBest_149 hC hR hk71 h) ⟨rfl, rfl, rfl, rfl, rfl, rfl, trivial⟩
      · replace h := h.2 c
        refine zv_iload_n hC dX11_goBest_107 rfl ?_
        refine zv_if_eq (tgt := 123) hC dX11_goBest_108 (by decide) (fun c => ?_) (fun c => ?_)
        · replace h := h.1 c
          exact zv_go (k_X11_goBest_123 hC hR hk71 h) ⟨rfl, rfl, rfl, rfl, rfl, trivial⟩
        · replace h := h.2 c
          refine zv_aload_n hC dX11_goBest_111 rfl ?_
          refine zv_getR (j := 66) hC fl_X11_72 dX11_goBest_112 rfl rfl ?_
          refine zv_iload hC dX11_goBest_115 rfl ?_
          refine zv_lald hC dX11_goBest_117 rfl h.1 ?_
          replace h := h.2
          refine zv_lload_n hC dX11_goBest_118 rfl ?_
          refine zv_lcmp hC dX11_goBest_119 ?_
          refine zv_if_le (tgt := 133) hC dX11_goBest_120 (by decide) (fun c => ?_) (fun c => ?_)
          · replace h := h.1 c
            refine zv_lload_n hC dX11_goBest_133 rfl ?_
            exact zv_go (k_X11_goBest_134 hC hR hk71 h) ⟨rfl, rfl, rfl, rfl, rfl, trivial⟩
          · replace h := h.2 c
            exact zv_go (k_X11_goBest_123 hC hR hk71 h) ⟨rfl, rfl, rfl, rfl, rfl, trivial⟩
def L_X11_goBest_0 (Q : zv_St → Prop) : Nat → (Int32 → zv_St → Prop)
  | 0 => fun _ _ => False
  | u + 1 => fun x1 σ => 
    vp_in x1 80 ∧ vp_in x1 80 ∧ ((σ.1 51 x1.toNatClampNeg) ≤ (σ.1 68 x1.toNatClampNeg) → (∃ n71, L_X11_goBest_71 Q n71 x1 0 0 0 0 σ)) ∧ (¬ (σ.1 51 x1.toNatClampNeg) ≤ (σ.1 68 x1.toNatClampNeg) → (vp_in x1 80 ∧ vp_in ((8 * x1) + (σ.1 68 x1.toNatClampNeg)) 640 ∧ ∀ v_1 : Int32, v_1 = (σ.1 53 ((8 * x1) + (σ.1 68 x1.toNatClampNeg)).toNatClampNeg) → B_X11_come (fun σ_2 => vp_in v_1 80 ∧ (¬ (σ_2.1 65 v_1.toNatClampNeg) = (-1) → (vp_in x1 80 ∧ vp_in x1 80 ∧ ∀ σ_3 : zv_St, σ_3 = zv_wi σ_2 68 x1.toNatClampNeg ((σ_2.1 68 x1.toNatClampNeg) + 1) → (L_X11_goBest_0 Q u) x1 σ_3)) ∧ ((σ_2.1 65 v_1.toNatClampNeg) = (-1) → (Q σ_2))) v_1 σ))
set_option maxRecDepth 20000 in
set_option maxHeartbeats 2000000 in
theorem kL_X11_goBest_0 {G : zv_G} {X : zv_X} {Q : zv_St → Prop}  (hC : zv_C G X M_X11_goBest) (hR : zv_R G X M_X11_goBest (zv_qv Q))  : ∀ (n : Nat) (x1 : Int32) (σ : zv_St), L_X11_goBest_0 Q  n x1 σ → zv_V G X M_X11_goBest 0 [(0, .ref (G.2.2.1 45)), (1, .int x1)] [] σ := by
  intro n
  induction n with
  | zero => intro x1 σ h; exact h.elim
  | succ n hk0 =>
    intro x1 σ h
    unfold L_X11_goBest_0 at h
    refine zv_aload_n hC dX11_goBest_0 rfl ?_
    refine zv_getR (j := 68) hC fl_X11_79 dX11_goBest_1 rfl rfl ?_
    refine zv_iload_n hC dX11_goBest_4 rfl ?_
    refine zv_iald hC dX11_goBest_5 rfl h.1 ?_
    replace h := h.2
    refine zv_aload_n hC dX11_goBest_6 rfl ?_
    refine zv_getR (j := 51) hC fl_X11_25 dX11_goBest_7 rfl rfl ?_
    refine zv_iload_n hC dX11_goBest_10 rfl ?_
    refine zv_iald hC dX11_goBest_11 rfl h.1 ?_
    replace h := h.2
    refine zv_icmp_ge (tgt := 61) hC dX11_goBest_12 (by decide) (fun c => ?_) (fun c => ?_)
    · replace h := h.1 c
      refine zv_iconst (v := 0) hC dX11_goBest_61 (by decide) ?_
      refine zv_istore_n hC dX11_goBest_62 (by decide) ?_
      refine zv_lconst (v := 0) hC dX11_goBest_63 (by decide) ?_
      refine zv_lstore_n hC dX11_goBest_64 (by decide) ?_
      refine zv_lconst (v := 0) hC dX11_goBest_65 (by decide) ?_
      refine zv_lstore hC dX11_goBest_66 (by decide) ?_
      refine zv_iconst (v := 0) hC dX11_goBest_68 (by decide) ?_
      refine zv_istore hC dX11_goBest_69 (by decide) ?_
      obtain ⟨n, h⟩ := h
      exact zv_go (kL_X11_goBest_71 hC hR  n _ _ _ _ _ _ h) ⟨rfl, rfl, rfl, rfl, rfl, rfl, trivial⟩
    · replace h := h.2 c
      refine zv_aload_n hC dX11_goBest_15 rfl ?_
      refine zv_getR (j := 53) hC fl_X11_31 dX11_goBest_16 rfl rfl ?_
      refine zv_bipush (v := 8) hC dX11_goBest_19 (by decide) ?_
      refine zv_iload_n hC dX11_goBest_21 rfl ?_
      refine zv_imul hC dX11_goBest_22 ?_
      refine zv_aload_n hC dX11_goBest_23 rfl ?_
      refine zv_getR (j := 68) hC fl_X11_79 dX11_goBest_24 rfl rfl ?_
      refine zv_iload_n hC dX11_goBest_27 rfl ?_
      refine zv_iald hC dX11_goBest_28 rfl h.1 ?_
      replace h := h.2
      refine zv_iadd hC dX11_goBest_29 ?_
      refine zv_iald hC dX11_goBest_30 rfl h.1 ?_
      replace h := h.2
      replace h := h _ rfl
      refine zv_istore_n hC dX11_goBest_31 (by decide) ?_
      refine zv_aload_n hC dX11_goBest_32 rfl ?_
      refine zv_iload_n hC dX11_goBest_33 rfl ?_
      refine zv_callVv (As := [_]) hC dX11_goBest_34 Y_X11_come lk_X11_155 (by decide) rfl rfl rfl (Nat.le_of_ble_eq_true rfl) (ok_X11_come G h) ?_
      intro σ_2 h
      refine zv_aload_n hC dX11_goBest_37 rfl ?_
      refine zv_getR (j := 65) hC fl_X11_69 dX11_goBest_38 rfl rfl ?_
      refine zv_iload_n hC dX11_goBest_41 rfl ?_
      refine zv_iald hC dX11_goBest_42 rfl h.1 ?_
      replace h := h.2
      refine zv_iconst (v := (-1)) hC dX11_goBest_43 (by decide) ?_
      refine zv_icmp_ne (tgt := 48) hC dX11_goBest_44 (by decide) (fun c => ?_) (fun c => ?_)
      · replace h := h.1 c
        refine zv_aload_n hC dX11_goBest_48 rfl ?_
        refine zv_getR (j := 68) hC fl_X11_79 dX11_goBest_49 rfl rfl ?_
        refine zv_iload_n hC dX11_goBest_52 rfl ?_
        refine zv_dup2 hC dX11_goBest_53 rfl rfl ?_
        refine zv_iald hC dX11_goBest_54 rfl h.1 ?_
        replace h := h.2
        refine zv_iconst (v := 1) hC dX11_goBest_55 (by decide) ?_
        refine zv_iadd hC dX11_goBest_56 ?_
        refine zv_iast hC dX11_goBest_57 rfl h.1 ?_
        replace h := h.2 _ rfl
        refine zv_goto (tgt := 0) hC dX11_goBest_58 (by decide) ?_
        exact zv_go (hk0 _ _ h) ⟨rfl, rfl, trivial⟩
      · replace h := h.2 c
        exact (hR _ _ _).2.2.2.1 rfl dX11_goBest_47 ⟨rfl, h⟩
def B_X11_goBest (Q : zv_St → Prop) (x1 : Int32) (σ : zv_St) : Prop := ∃ n, L_X11_goBest_0 Q n x1 σ
theorem ok_X11_goBest (G : zv_G) {Q : zv_St → Prop} {x1 : Int32} {σ : zv_St} (h : B_X11_goBest Q x1 σ) : zv_OK G M_X11_goBest yX11_goBest [.ref (G.2.2.1 45), .int x1] σ (zv_qv Q) := zv_ok G _ _ _ _ _ (by decide +kernel) rfl (Nat.le_of_ble_eq_true rfl) (fun X hC hR => (by obtain ⟨n, h⟩ := h; exact zv_go (kL_X11_goBest_0 hC hR n _ _ h) ⟨rfl, rfl, trivial⟩))
-- X11_goOne
def B_X11_goOne_166 (Q : zv_St → Prop) (y1 : Int32) (y2 : Int64) (σ : zv_St) : Prop :=
  vp_in y1 80 ∧ ∀ σ_1 : zv_St, σ_1 = zv_wl σ 66 y1.toNatClampNeg y2 → Q σ_1
set_option maxRecDepth 20000 in
set_option maxHeartbeats 2000000 in
theorem k_X11_goOne_166 {G : zv_G} {X : zv_X} {Q : zv_St → Prop}  (hC : zv_C G X M_X11_goOne) (hR : zv_R G X M_X11_goOne (zv_qv Q))  {y1 : Int32} {y2 : Int64} {σ : zv_St} (h : B_X11_goOne_166 Q  y1 y2 σ) : zv_V G X M_X11_goOne 166 [] [.long y2, .int y1, .ref (G.2.2.1 66)] σ := by
  unfold B_X11_goOne_166 at h
  refine zv_last hC dX11_goOne_166 rfl h.1 ?_
  replace h := h.2 _ rfl
  exact (hR _ _ _).2.2.2.1 rfl dX11_goOne_167 ⟨rfl, h⟩
def B_X11_goOne_113 (Q : zv_St → Prop) (x1 : Int32) (x3 : Int32) (x4 : Int32) (σ : zv_St) : Prop :=
  vp_in x1 80 ∧ ∀ σ_1 : zv_St, σ_1 = zv_wi σ 65 x1.toNatClampNeg x4 → vp_in x1 80 ∧ (¬ (σ_1.1 48 x1.toNatClampNeg) = 4 → (vp_in x1 80 ∧ (¬ (σ_1.1 48 x1.toNatClampNeg) = 5 → (B_X11_goOne_166 Q x1 0 σ_1)) ∧ ((σ_1.1 48 x1.toNatClampNeg) = 5 → (vp_in x3 80 ∧ B_X11_goOne_166 Q x1 (σ_1.2 66 x3.toNatClampNeg) σ_1)))) ∧ ((σ_1.1 48 x1.toNatClampNeg) = 4 → (vp_in x1 80 ∧ B_X11_goOne_166 Q x1 (Int32.toInt64 (σ_1.1 50 x1.toNatClampNeg)) σ_1))
set_option maxRecDepth 20000 in
set_option maxHeartbeats 2000000 in
theorem k_X11_goOne_113 {G : zv_G} {X : zv_X} {Q : zv_St → Prop}  (hC : zv_C G X M_X11_goOne) (hR : zv_R G X M_X11_goOne (zv_qv Q))  {x1 : Int32} {x3 : Int32} {x4 : Int32} {σ : zv_St} (h : B_X11_goOne_113 Q  x1 x3 x4 σ) : zv_V G X M_X11_goOne 113 [(0, .ref (G.2.2.1 45)), (1, .int x1), (3, .int x3), (4, .int x4)] [] σ := by
  unfold B_X11_goOne_113 at h
  refine zv_aload_n hC dX11_goOne_113 rfl ?_
  refine zv_getR (j := 65) hC fl_X11_69 dX11_goOne_114 rfl rfl ?_
  refine zv_iload_n hC dX11_goOne_117 rfl ?_
  refine zv_iload hC dX11_goOne_118 rfl ?_
  refine zv_iast hC dX11_goOne_120 rfl h.1 ?_
  replace h := h.2 _ rfl
  refine zv_aload_n hC dX11_goOne_121 rfl ?_
  refine zv_getR (j := 66) hC fl_X11_72 dX11_goOne_122 rfl rfl ?_
  refine zv_iload_n hC dX11_goOne_125 rfl ?_
  refine zv_aload_n hC dX11_goOne_126 rfl ?_
  refine zv_getR (j := 48) hC fl_X11_16 dX11_goOne_127 rfl rfl ?_
  refine zv_iload_n hC dX11_goOne_130 rfl ?_
  refine zv_iald hC dX11_goOne_131 rfl h.1 ?_
  replace h := h.2
  refine zv_iconst (v := 4) hC dX11_goOne_132 (by decide) ?_
  refine zv_icmp_ne (tgt := 146) hC dX11_goOne_133 (by decide) (fun c => ?_) (fun c => ?_)
  · replace h := h.1 c
    refine zv_aload_n hC dX11_goOne_146 rfl ?_
    refine zv_getR (j := 48) hC fl_X11_16 dX11_goOne_147 rfl rfl ?_
    refine zv_iload_n hC dX11_goOne_150 rfl ?_
    refine zv_iald hC dX11_goOne_151 rfl h.1 ?_
    replace h := h.2
    refine zv_iconst (v := 5) hC dX11_goOne_152 (by decide) ?_
    refine zv_icmp_ne (tgt := 165) hC dX11_goOne_153 (by decide) (fun c => ?_) (fun c => ?_)
    · replace h := h.1 c
      refine zv_lconst (v := 0) hC dX11_goOne_165 (by decide) ?_
      exact zv_go (k_X11_goOne_166 hC hR  h) trivial
    · replace h := h.2 c
      refine zv_aload_n hC dX11_goOne_156 rfl ?_
      refine zv_getR (j := 66) hC fl_X11_72 dX11_goOne_157 rfl rfl ?_
      refine zv_iload_n hC dX11_goOne_160 rfl ?_
      refine zv_lald hC dX11_goOne_161 rfl h.1 ?_
      replace h := h.2
      refine zv_goto (tgt := 166) hC dX11_goOne_162 (by decide) ?_
      exact zv_go (k_X11_goOne_166 hC hR  h) trivial
  · replace h := h.2 c
    refine zv_aload_n hC dX11_goOne_136 rfl ?_
    refine zv_getR (j := 50) hC fl_X11_22 dX11_goOne_137 rfl rfl ?_
    refine zv_iload_n hC dX11_goOne_140 rfl ?_
    refine zv_iald hC dX11_goOne_141 rfl h.1 ?_
    replace h := h.2
    refine zv_i2l hC dX11_goOne_142 ?_
    refine zv_goto (tgt := 166) hC dX11_goOne_143 (by decide) ?_
    exact zv_go (k_X11_goOne_166 hC hR  h) trivial
def B_X11_goOne_111 (Q : zv_St → Prop) (x1 : Int32) (x3 : Int32) (y0 : Int32) (σ : zv_St) : Prop :=
  B_X11_goOne_113 Q x1 x3 y0 σ
set_option maxRecDepth 20000 in
set_option maxHeartbeats 2000000 in
theorem k_X11_goOne_111 {G : zv_G} {X : zv_X} {Q : zv_St → Prop}  (hC : zv_C G X M_X11_goOne) (hR : zv_R G X M_X11_goOne (zv_qv Q))  {x1 : Int32} {x3 : Int32} {y0 : Int32} {σ : zv_St} (h : B_X11_goOne_111 Q  x1 x3 y0 σ) : zv_V G X M_X11_goOne 111 [(0, .ref (G.2.2.1 45)), (1, .int x1), (3, .int x3)] [.int y0] σ := by
  unfold B_X11_goOne_111 at h
  refine zv_istore hC dX11_goOne_111 (by decide) ?_
  exact zv_go (k_X11_goOne_113 hC hR  h) ⟨rfl, rfl, rfl, rfl, trivial⟩
def B_X11_goOne (Q : zv_St → Prop) (x1 : Int32) (x2 : Int32) (σ : zv_St) : Prop :=
  vp_in x1 80 ∧ ∀ v_1 : Int32, v_1 = (σ.1 49 x1.toNatClampNeg) → B_X11_come (fun σ_2 => vp_in v_1 80 ∧ (¬ (σ_2.1 65 v_1.toNatClampNeg) = (-1) → (vp_in v_1 80 ∧ ∀ v_3 : Int32, v_3 = (σ_2.1 65 v_1.toNatClampNeg) → vp_in x1 80 ∧ (¬ (σ_2.1 48 x1.toNatClampNeg) = 5 → (B_X11_goOne_113 Q x1 v_1 v_3 σ_2)) ∧ ((σ_2.1 48 x1.toNatClampNeg) = 5 → ((¬ v_3 = 1 → (B_X11_goOne_113 Q x1 v_1 v_3 σ_2)) ∧ (v_3 = 1 → (vp_in x1 80 ∧ vp_in x1 80 ∧ ∀ σ_4 : zv_St, σ_4 = zv_wi σ_2 54 x1.toNatClampNeg ((σ_2.1 54 x1.toNatClampNeg) + 1) → ∀ σ_5 : zv_St, σ_5 = zv_wi σ_4 45 10 ((σ_4.1 45 10) + 1) → vp_in x1 80 ∧ vp_in x1 80 ∧ ¬ (((σ_5.1 50 x1.toNatClampNeg) / 1000) - ((σ_5.1 50 x1.toNatClampNeg) / 1000) / 1000 * 1000) = 0 ∧ vp_in x1 80 ∧ (((σ_5.1 50 x1.toNatClampNeg) - (σ_5.1 50 x1.toNatClampNeg) / 1000 * 1000) ≤ ((((σ_5.1 50 x1.toNatClampNeg) / 1000000) * x2) - (((σ_5.1 50 x1.toNatClampNeg) / 1000000) * x2) / (((σ_5.1 50 x1.toNatClampNeg) / 1000) - ((σ_5.1 50 x1.toNatClampNeg) / 1000) / 1000 * 1000) * (((σ_5.1 50 x1.toNatClampNeg) / 1000) - ((σ_5.1 50 x1.toNatClampNeg) / 1000) / 1000 * 1000)) → (B_X11_goOne_111 Q x1 v_1 0 σ_5)) ∧ (¬ ((σ_5.1 50 x1.toNatClampNeg) - (σ_5.1 50 x1.toNatClampNeg) / 1000 * 1000) ≤ ((((σ_5.1 50 x1.toNatClampNeg) / 1000000) * x2) - (((σ_5.1 50 x1.toNatClampNeg) / 1000000) * x2) / (((σ_5.1 50 x1.toNatClampNeg) / 1000) - ((σ_5.1 50 x1.toNatClampNeg) / 1000) / 1000 * 1000) * (((σ_5.1 50 x1.toNatClampNeg) / 1000) - ((σ_5.1 50 x1.toNatClampNeg) / 1000) / 1000 * 1000)) → (B_X11_goOne_111 Q x1 v_1 1 σ_5)))))))) ∧ ((σ_2.1 65 v_1.toNatClampNeg) = (-1) → (Q σ_2))) v_1 σ
set_option maxRecDepth 20000 in
set_option maxHeartbeats 2000000 in
theorem k_X11_goOne_0 {G : zv_G} {X : zv_X} {Q : zv_St → Prop}  (hC : zv_C G X M_X11_goOne) (hR : zv_R G X M_X11_goOne (zv_qv Q))  {x1 : Int32} {x2 : Int32} {σ : zv_St} (h : B_X11_goOne Q  x1 x2 σ) : zv_V G X M_X11_goOne 0 [(0, .ref (G.2.2.1 45)), (1, .int x1), (2, .int x2)] [] σ := by
  unfold B_X11_goOne at h
  refine zv_aload_n hC dX11_goOne_0 rfl ?_
  refine zv_getR (j := 49) hC fl_X11_19 dX11_goOne_1 rfl rfl ?_
  refine zv_iload_n hC dX11_goOne_4 rfl ?_
  refine zv_iald hC dX11_goOne_5 rfl h.1 ?_
  replace h := h.2
  replace h := h _ rfl
  refine zv_istore_n hC dX11_goOne_6 (by decide) ?_
  refine zv_aload_n hC dX11_goOne_7 rfl ?_
  refine zv_iload_n hC dX11_goOne_8 rfl ?_
  refine zv_callVv (As := [_]) hC dX11_goOne_9 Y_X11_come lk_X11_155 (by decide) rfl rfl rfl (Nat.le_of_ble_eq_true rfl) (ok_X11_come G h) ?_
  intro σ_2 h
  refine zv_aload_n hC dX11_goOne_12 rfl ?_
  refine zv_getR (j := 65) hC fl_X11_69 dX11_goOne_13 rfl rfl ?_
  refine zv_iload_n hC dX11_goOne_16 rfl ?_
  refine zv_iald hC dX11_goOne_17 rfl h.1 ?_
  replace h := h.2
  refine zv_iconst (v := (-1)) hC dX11_goOne_18 (by decide) ?_
  refine zv_icmp_ne (tgt := 23) hC dX11_goOne_19 (by decide) (fun c => ?_) (fun c => ?_)
  · replace h := h.1 c
    refine zv_aload_n hC dX11_goOne_23 rfl ?_
    refine zv_getR (j := 65) hC fl_X11_69 dX11_goOne_24 rfl rfl ?_
    refine zv_iload_n hC dX11_goOne_27 rfl ?_
    refine zv_iald hC dX11_goOne_28 rfl h.1 ?_
    replace h := h.2
    replace h := h _ rfl
    refine zv_istore hC dX11_goOne_29 (by decide) ?_
    refine zv_aload_n hC dX11_goOne_31 rfl ?_
    refine zv_getR (j := 48) hC fl_X11_16 dX11_goOne_32 rfl rfl ?_
    refine zv_iload_n hC dX11_goOne_35 rfl ?_
    refine zv_iald hC dX11_goOne_36 rfl h.1 ?_
    replace h := h.2
    refine zv_iconst (v := 5) hC dX11_goOne_37 (by decide) ?_
    refine zv_icmp_ne (tgt := 113) hC dX11_goOne_38 (by decide) (fun c => ?_) (fun c => ?_)
    · replace h := h.1 c
      exact zv_go (k_X11_goOne_113 hC hR  h) ⟨rfl, rfl, rfl, rfl, trivial⟩
    · replace h := h.2 c
      refine zv_iload hC dX11_goOne_41 rfl ?_
      refine zv_iconst (v := 1) hC dX11_goOne_43 (by decide) ?_
      refine zv_icmp_ne (tgt := 113) hC dX11_goOne_44 (by decide) (fun c => ?_) (fun c => ?_)
      · replace h := h.1 c
        exact zv_go (k_X11_goOne_113 hC hR  h) ⟨rfl, rfl, rfl, rfl, trivial⟩
      · replace h := h.2 c
        refine zv_aload_n hC dX11_goOne_47 rfl ?_
        refine zv_getR (j := 54) hC fl_X11_34 dX11_goOne_48 rfl rfl ?_
        refine zv_iload_n hC dX11_goOne_51 rfl ?_
        refine zv_dup2 hC dX11_goOne_52 rfl rfl ?_
        refine zv_iald hC dX11_goOne_53 rfl h.1 ?_
        replace h := h.2
        refine zv_iconst (v := 1) hC dX11_goOne_54 (by decide) ?_
        refine zv_iadd hC dX11_goOne_55 ?_
        refine zv_iast hC dX11_goOne_56 rfl h.1 ?_
        replace h := h.2 _ rfl
        refine zv_aload_n hC dX11_goOne_57 rfl ?_
        refine zv_dup hC dX11_goOne_58 rfl ?_
        refine zv_getI hC fl_X11_167 dX11_goOne_59 rfl rfl ?_
        refine zv_iconst (v := 1) hC dX11_goOne_62 (by decide) ?_
        refine zv_iadd hC dX11_goOne_63 ?_
        refine zv_putI hC fp_X11_167 dX11_goOne_64 rfl rfl rfl rfl ?_
        replace h := h _ rfl
        refine zv_aload_n hC dX11_goOne_67 rfl ?_
        refine zv_getR (j := 50) hC fl_X11_22 dX11_goOne_68 rfl rfl ?_
        refine zv_iload_n hC dX11_goOne_71 rfl ?_
        refine zv_iald hC dX11_goOne_72 rfl h.1 ?_
        replace h := h.2
        refine zv_ldc hC dX11_goOne_73 cst_X11_119 ?_
        refine zv_idiv hC dX11_goOne_75 (by decide) ?_
        refine zv_iload_n hC dX11_goOne_76 rfl ?_
        refine zv_imul hC dX11_goOne_77 ?_
        refine zv_aload_n hC dX11_goOne_78 rfl ?_
        refine zv_getR (j := 50) hC fl_X11_22 dX11_goOne_79 rfl rfl ?_
        refine zv_iload_n hC dX11_goOne_82 rfl ?_
        refine zv_iald hC dX11_goOne_83 rfl h.1 ?_
        replace h := h.2
        refine zv_sipush (v := 1000) hC dX11_goOne_84 (by decide) ?_
        refine zv_idiv hC dX11_goOne_87 (by decide) ?_
        refine zv_sipush (v := 1000) hC dX11_goOne_88 (by decide) ?_
        refine zv_irem hC dX11_goOne_91 (by decide) ?_
        refine zv_irem hC dX11_goOne_92 h.1 ?_
        replace h := h.2
        refine zv_aload_n hC dX11_goOne_93 rfl ?_
        refine zv_getR (j := 50) hC fl_X11_22 dX11_goOne_94 rfl rfl ?_
        refine zv_iload_n hC dX11_goOne_97 rfl ?_
        refine zv_iald hC dX11_goOne_98 rfl h.1 ?_
        replace h := h.2
        refine zv_sipush (v := 1000) hC dX11_goOne_99 (by decide) ?_
        refine zv_irem hC dX11_goOne_102 (by decide) ?_
        refine zv_icmp_ge (tgt := 110) hC dX11_goOne_103 (by decide) (fun c => ?_) (fun c => ?_)
        · replace h := h.1 c
          refine zv_iconst (v := 0) hC dX11_goOne_110 (by decide) ?_
          exact zv_go (k_X11_goOne_111 hC hR  h) ⟨rfl, rfl, rfl, trivial⟩
        · replace h := h.2 c
          refine zv_iconst (v := 1) hC dX11_goOne_106 (by decide) ?_
          refine zv_goto (tgt := 111) hC dX11_goOne_107 (by decide) ?_
          exact zv_go (k_X11_goOne_111 hC hR  h) ⟨rfl, rfl, rfl, trivial⟩
  · replace h := h.2 c
    exact (hR _ _ _).2.2.2.1 rfl dX11_goOne_22 ⟨rfl, h⟩
theorem ok_X11_goOne (G : zv_G) {Q : zv_St → Prop} {x1 : Int32} {x2 : Int32} {σ : zv_St} (h : B_X11_goOne Q x1 x2 σ) : zv_OK G M_X11_goOne yX11_goOne [.ref (G.2.2.1 45), .int x1, .int x2] σ (zv_qv Q) := zv_ok G _ _ _ _ _ (by decide +kernel) rfl (Nat.le_of_ble_eq_true rfl) (fun X hC hR => zv_go (k_X11_goOne_0 hC hR h) ⟨rfl, rfl, rfl, trivial⟩)
-- X11_go
def B_X11_go_226 (Q : Int32 → zv_St → Prop) (y0 : Int32) (σ : zv_St) : Prop :=
  narrow .boolean (.int y0) = .int y0 ∧ Q y0 σ
set_option maxRecDepth 20000 in
set_option maxHeartbeats 2000000 in
theorem k_X11_go_226 {G : zv_G} {X : zv_X} {Q : Int32 → zv_St → Prop}  (hC : zv_C G X M_X11_go) (hR : zv_R G X M_X11_go (zv_qi Q))  {y0 : Int32} {σ : zv_St} (h : B_X11_go_226 Q  y0 σ) : zv_V G X M_X11_go 226 [] [.int y0] σ := by
  unfold B_X11_go_226 at h
  exact (hR _ _ _).2.1 _ rfl h.1 dX11_go_226 ⟨_, rfl, h.2⟩
def B_X11_go_208 (Q : Int32 → zv_St → Prop) (kk47 : Int32 → Int32 → zv_St → Prop) (x1 : Int32) (x2 : Int32) (σ : zv_St) : Prop :=
  kk47 x1 x2 σ
set_option maxRecDepth 20000 in
set_option maxHeartbeats 2000000 in
theorem k_X11_go_208 {G : zv_G} {X : zv_X} {Q : Int32 → zv_St → Prop} {kk47 : Int32 → Int32 → zv_St → Prop} (hC : zv_C G X M_X11_go) (hR : zv_R G X M_X11_go (zv_qi Q)) (hk47 : ∀ (x1 : Int32) (x2 : Int32) (σ : zv_St), kk47 x1 x2 σ → zv_V G X M_X11_go 47 [(0, .ref (G.2.2.1 45)), (1, .int x1), (2, .int x2)] [] σ) {x1 : Int32} {x2 : Int32} {σ : zv_St} (h : B_X11_go_208 Q kk47 x1 x2 σ) : zv_V G X M_X11_go 208 [(0, .ref (G.2.2.1 45)), (1, .int x1), (2, .int x2)] [] σ := by
  unfold B_X11_go_208 at h
  refine zv_goto (tgt := 47) hC dX11_go_208 (by decide) ?_
  exact zv_go (hk47 _ _ _ h) ⟨rfl, rfl, rfl, trivial⟩
def B_X11_go_207 (Q : Int32 → zv_St → Prop) (kk47 : Int32 → Int32 → zv_St → Prop) (x1 : Int32) (x2 : Int32) (y1 : Int32) (y2 : Int64) (σ : zv_St) : Prop :=
  vp_in y1 80 ∧ ∀ σ_1 : zv_St, σ_1 = zv_wl σ 66 y1.toNatClampNeg y2 → B_X11_go_208 Q kk47 x1 x2 σ_1
set_option maxRecDepth 20000 in
set_option maxHeartbeats 2000000 in
theorem k_X11_go_207 {G : zv_G} {X : zv_X} {Q : Int32 → zv_St → Prop} {kk47 : Int32 → Int32 → zv_St → Prop} (hC : zv_C G X M_X11_go) (hR : zv_R G X M_X11_go (zv_qi Q)) (hk47 : ∀ (x1 : Int32) (x2 : Int32) (σ : zv_St), kk47 x1 x2 σ → zv_V G X M_X11_go 47 [(0, .ref (G.2.2.1 45)), (1, .int x1), (2, .int x2)] [] σ) {x1 : Int32} {x2 : Int32} {y1 : Int32} {y2 : Int64} {σ : zv_St} (h : B_X11_go_207 Q kk47 x1 x2 y1 y2 σ) : zv_V G X M_X11_go 207 [(0, .ref (G.2.2.1 45)), (1, .int x1), (2, .int x2)] [.long y2, .int y1, .ref (G.2.2.1 66)] σ := by
  unfold B_X11_go_207 at h
  refine zv_last hC dX11_go_207 rfl h.1 ?_
  replace h := h.2 _ rfl
  exact zv_go (k_X11_go_208 hC hR hk47 h) ⟨rfl, rfl, rfl, trivial⟩
def B_X11_go_164 (Q : Int32 → zv_St → Prop) (kk47 : Int32 → Int32 → zv_St → Prop) (x1 : Int32) (x2 : Int32) (x3 : Int32) (σ : zv_St) : Prop :=
  vp_in x3 80 ∧ ∀ σ_1 : zv_St, σ_1 = zv_wi σ 65 x3.toNatClampNeg 1 → vp_in x3 80 ∧ (¬ (σ_1.1 48 x3.toNatClampNeg) = 0 → (B_X11_go_207 Q kk47 x1 x2 x3 0 σ_1)) ∧ ((σ_1.1 48 x3.toNatClampNeg) = 0 → (vp_in x3 80 ∧ vp_in ((512 * (σ_1.1 49 x3.toNatClampNeg)) + x2) 8192 ∧ B_X11_go_207 Q kk47 x1 x2 x3 (Int32.toInt64 (σ_1.1 46 ((512 * (σ_1.1 49 x3.toNatClampNeg)) + x2).toNatClampNeg)) σ_1))
set_option maxRecDepth 20000 in
set_option maxHeartbeats 2000000 in
theorem k_X11_go_164 {G : zv_G} {X : zv_X} {Q : Int32 → zv_St → Prop} {kk47 : Int32 → Int32 → zv_St → Prop} (hC : zv_C G X M_X11_go) (hR : zv_R G X M_X11_go (zv_qi Q)) (hk47 : ∀ (x1 : Int32) (x2 : Int32) (σ : zv_St), kk47 x1 x2 σ → zv_V G X M_X11_go 47 [(0, .ref (G.2.2.1 45)), (1, .int x1), (2, .int x2)] [] σ) {x1 : Int32} {x2 : Int32} {x3 : Int32} {σ : zv_St} (h : B_X11_go_164 Q kk47 x1 x2 x3 σ) : zv_V G X M_X11_go 164 [(0, .ref (G.2.2.1 45)), (1, .int x1), (2, .int x2), (3, .int x3)] [] σ := by
  unfold B_X11_go_164 at h
  refine zv_aload_n hC dX11_go_164 rfl ?_
  refine zv_getR (j := 65) hC fl_X11_69 dX11_go_165 rfl rfl ?_
  refine zv_iload_n hC dX11_go_168 rfl ?_
  refine zv_iconst (v := 1) hC dX11_go_169 (by decide) ?_
  refine zv_iast hC dX11_go_170 rfl h.1 ?_
  replace h := h.2 _ rfl
  refine zv_aload_n hC dX11_go_171 rfl ?_
  refine zv_getR (j := 66) hC fl_X11_72 dX11_go_172 rfl rfl ?_
  refine zv_iload_n hC dX11_go_175 rfl ?_
  refine zv_aload_n hC dX11_go_176 rfl ?_
  refine zv_getR (j := 48) hC fl_X11_16 dX11_go_177 rfl rfl ?_
  refine zv_iload_n hC dX11_go_180 rfl ?_
  refine zv_iald hC dX11_go_181 rfl h.1 ?_
  replace h := h.2
  refine zv_if_ne (tgt := 206) hC dX11_go_182 (by decide) (fun c => ?_) (fun c => ?_)
  · replace h := h.1 c
    refine zv_lconst (v := 0) hC dX11_go_206 (by decide) ?_
    exact zv_go (k_X11_go_207 hC hR hk47 h) ⟨rfl, rfl, rfl, trivial⟩
  · replace h := h.2 c
    refine zv_aload_n hC dX11_go_185 rfl ?_
    refine zv_getR (j := 46) hC fl_X11_7 dX11_go_186 rfl rfl ?_
    refine zv_sipush (v := 512) hC dX11_go_189 (by decide) ?_
    refine zv_aload_n hC dX11_go_192 rfl ?_
    refine zv_getR (j := 49) hC fl_X11_19 dX11_go_193 rfl rfl ?_
    refine zv_iload_n hC dX11_go_196 rfl ?_
    refine zv_iald hC dX11_go_197 rfl h.1 ?_
    replace h := h.2
    refine zv_imul hC dX11_go_198 ?_
    refine zv_iload_n hC dX11_go_199 rfl ?_
    refine zv_iadd hC dX11_go_200 ?_
    refine zv_iald hC dX11_go_201 rfl h.1 ?_
    replace h := h.2
    refine zv_i2l hC dX11_go_202 ?_
    refine zv_goto (tgt := 207) hC dX11_go_203 (by decide) ?_
    exact zv_go (k_X11_go_207 hC hR hk47 h) ⟨rfl, rfl, rfl, trivial⟩
def B_X11_go_155 (Q : Int32 → zv_St → Prop) (kk47 : Int32 → Int32 → zv_St → Prop) (x1 : Int32) (x2 : Int32) (x3 : Int32) (σ : zv_St) : Prop :=
  B_X11_goOne (fun σ_1 => B_X11_go_208 Q kk47 x1 x2 σ_1) x3 x2 σ
set_option maxRecDepth 20000 in
set_option maxHeartbeats 2000000 in
theorem k_X11_go_155 {G : zv_G} {X : zv_X} {Q : Int32 → zv_St → Prop} {kk47 : Int32 → Int32 → zv_St → Prop} (hC : zv_C G X M_X11_go) (hR : zv_R G X M_X11_go (zv_qi Q)) (hk47 : ∀ (x1 : Int32) (x2 : Int32) (σ : zv_St), kk47 x1 x2 σ → zv_V G X M_X11_go 47 [(0, .ref (G.2.2.1 45)), (1, .int x1), (2, .int x2)] [] σ) {x1 : Int32} {x2 : Int32} {x3 : Int32} {σ : zv_St} (h : B_X11_go_155 Q kk47 x1 x2 x3 σ) : zv_V G X M_X11_go 155 [(0, .ref (G.2.2.1 45)), (1, .int x1), (2, .int x2), (3, .int x3)] [] σ := by
  unfold B_X11_go_155 at h
  refine zv_aload_n hC dX11_go_155 rfl ?_
  refine zv_iload_n hC dX11_go_156 rfl ?_
  refine zv_iload_n hC dX11_go_157 rfl ?_
  refine zv_callVv (As := [_, _]) hC dX11_go_158 Y_X11_goOne lk_X11_164 (by decide) rfl rfl rfl (Nat.le_of_ble_eq_true rfl) (ok_X11_goOne G h) ?_
  intro σ_1 h
  refine zv_goto (tgt := 208) hC dX11_go_161 (by decide) ?_
  exact zv_go (k_X11_go_208 hC hR hk47 h) ⟨rfl, rfl, rfl, trivial⟩
def L_X11_go_47 (Q : Int32 → zv_St → Prop) : Nat → (Int32 → Int32 → zv_St → Prop)
  | 0 => fun _ _ _ => False
  | u + 1 => fun x1 x2 σ => 
    ((σ.1 45 26) ≤ 0 → (vp_in x1 80 ∧ (¬ (σ.1 65 x1.toNatClampNeg) = 1 → (B_X11_go_226 Q 0 σ)) ∧ ((σ.1 65 x1.toNatClampNeg) = 1 → (B_X11_go_226 Q 1 σ)))) ∧ (¬ (σ.1 45 26) ≤ 0 → (vp_in ((σ.1 45 26) - 1) 90 ∧ ∀ v_1 : Int32, v_1 = (σ.1 69 ((σ.1 45 26) - 1).toNatClampNeg) → vp_in v_1 80 ∧ ((σ.1 65 v_1.toNatClampNeg) = (-1) → (vp_in v_1 80 ∧ (¬ (σ.1 48 v_1.toNatClampNeg) = 2 → (vp_in v_1 80 ∧ (¬ (σ.1 48 v_1.toNatClampNeg) = 3 → (vp_in v_1 80 ∧ ((σ.1 51 v_1.toNatClampNeg) ≤ 0 → (B_X11_go_164 Q (L_X11_go_47 Q u) x1 x2 v_1 σ)) ∧ (¬ (σ.1 51 v_1.toNatClampNeg) ≤ 0 → (vp_in v_1 80 ∧ (¬ (σ.1 48 v_1.toNatClampNeg) = 6 → (B_X11_go_155 Q (L_X11_go_47 Q u) x1 x2 v_1 σ)) ∧ ((σ.1 48 v_1.toNatClampNeg) = 6 → (vp_in v_1 80 ∧ (¬ (σ.1 55 v_1.toNatClampNeg) = (-1) → (B_X11_go_164 Q (L_X11_go_47 Q u) x1 x2 v_1 σ)) ∧ ((σ.1 55 v_1.toNatClampNeg) = (-1) → (B_X11_go_155 Q (L_X11_go_47 Q u) x1 x2 v_1 σ)))))))) ∧ ((σ.1 48 v_1.toNatClampNeg) = 3 → (B_X11_goBest (fun σ_2 => B_X11_go_208 Q (L_X11_go_47 Q u) x1 x2 σ_2) v_1 σ)))) ∧ ((σ.1 48 v_1.toNatClampNeg) = 2 → (B_X11_goBool (fun σ_3 => B_X11_go_208 Q (L_X11_go_47 Q u) x1 x2 σ_3) v_1 σ)))) ∧ (¬ (σ.1 65 v_1.toNatClampNeg) = (-1) → (∀ σ_4 : zv_St, σ_4 = zv_wi σ 45 26 ((σ.1 45 26) - 1) → B_X11_go_208 Q (L_X11_go_47 Q u) x1 x2 σ_4))))
set_option maxRecDepth 20000 in
set_option maxHeartbeats 2000000 in
theorem kL_X11_go_47 {G : zv_G} {X : zv_X} {Q : Int32 → zv_St → Prop}  (hC : zv_C G X M_X11_go) (hR : zv_R G X M_X11_go (zv_qi Q))  : ∀ (n : Nat) (x1 : Int32) (x2 : Int32) (σ : zv_St), L_X11_go_47 Q  n x1 x2 σ → zv_V G X M_X11_go 47 [(0, .ref (G.2.2.1 45)), (1, .int x1), (2, .int x2)] [] σ := by
  intro n
  induction n with
  | zero => intro x1 x2 σ h; exact h.elim
  | succ n hk47 =>
    intro x1 x2 σ h
    unfold L_X11_go_47 at h
    refine zv_aload_n hC dX11_go_47 rfl ?_
    refine zv_getI hC fl_X11_152 dX11_go_48 rfl rfl ?_
    refine zv_if_le (tgt := 211) hC dX11_go_51 (by decide) (fun c => ?_) (fun c => ?_)
    · replace h := h.1 c
      refine zv_aload_n hC dX11_go_211 rfl ?_
      refine zv_getR (j := 65) hC fl_X11_69 dX11_go_212 rfl rfl ?_
      refine zv_iload_n hC dX11_go_215 rfl ?_
      refine zv_iald hC dX11_go_216 rfl h.1 ?_
      replace h := h.2
      refine zv_iconst (v := 1) hC dX11_go_217 (by decide) ?_
      refine zv_icmp_ne (tgt := 225) hC dX11_go_218 (by decide) (fun c => ?_) (fun c => ?_)
      · replace h := h.1 c
        refine zv_iconst (v := 0) hC dX11_go_225 (by decide) ?_
        exact zv_go (k_X11_go_226 hC hR  h) trivial
      · replace h := h.2 c
        refine zv_iconst (v := 1) hC dX11_go_221 (by decide) ?_
        refine zv_goto (tgt := 226) hC dX11_go_222 (by decide) ?_
        exact zv_go (k_X11_go_226 hC hR  h) trivial
    · replace h := h.2 c
      refine zv_aload_n hC dX11_go_54 rfl ?_
      refine zv_getR (j := 69) hC fl_X11_82 dX11_go_55 rfl rfl ?_
      refine zv_aload_n hC dX11_go_58 rfl ?_
      refine zv_getI hC fl_X11_152 dX11_go_59 rfl rfl ?_
      refine zv_iconst (v := 1) hC dX11_go_62 (by decide) ?_
      refine zv_isub hC dX11_go_63 ?_
      refine zv_iald hC dX11_go_64 rfl h.1 ?_
      replace h := h.2
      replace h := h _ rfl
      refine zv_istore_n hC dX11_go_65 (by decide) ?_
      refine zv_aload_n hC dX11_go_66 rfl ?_
      refine zv_getR (j := 65) hC fl_X11_69 dX11_go_67 rfl rfl ?_
      refine zv_iload_n hC dX11_go_70 rfl ?_
      refine zv_iald hC dX11_go_71 rfl h.1 ?_
      replace h := h.2
      refine zv_iconst (v := (-1)) hC dX11_go_72 (by decide) ?_
      refine zv_icmp_eq (tgt := 89) hC dX11_go_73 (by decide) (fun c => ?_) (fun c => ?_)
      · replace h := h.1 c
        refine zv_aload_n hC dX11_go_89 rfl ?_
        refine zv_getR (j := 48) hC fl_X11_16 dX11_go_90 rfl rfl ?_
        refine zv_iload_n hC dX11_go_93 rfl ?_
        refine zv_iald hC dX11_go_94 rfl h.1 ?_
        replace h := h.2
        refine zv_iconst (v := 2) hC dX11_go_95 (by decide) ?_
        refine zv_icmp_ne (tgt := 107) hC dX11_go_96 (by decide) (fun c => ?_) (fun c => ?_)
        · replace h := h.1 c
          refine zv_aload_n hC dX11_go_107 rfl ?_
          refine zv_getR (j := 48) hC fl_X11_16 dX11_go_108 rfl rfl ?_
          refine zv_iload_n hC dX11_go_111 rfl ?_
          refine zv_iald hC dX11_go_112 rfl h.1 ?_
          replace h := h.2
          refine zv_iconst (v := 3) hC dX11_go_113 (by decide) ?_
          refine zv_icmp_ne (tgt := 125) hC dX11_go_114 (by decide) (fun c => ?_) (fun c => ?_)
          · replace h := h.1 c
            refine zv_aload_n hC dX11_go_125 rfl ?_
            refine zv_getR (j := 51) hC fl_X11_25 dX11_go_126 rfl rfl ?_
            refine zv_iload_n hC dX11_go_129 rfl ?_
            refine zv_iald hC dX11_go_130 rfl h.1 ?_
            replace h := h.2
            refine zv_if_le (tgt := 164) hC dX11_go_131 (by decide) (fun c => ?_) (fun c => ?_)
            · replace h := h.1 c
              exact zv_go (k_X11_go_164 hC hR hk47 h) ⟨rfl, rfl, rfl, rfl, trivial⟩
            · replace h := h.2 c
              refine zv_aload_n hC dX11_go_134 rfl ?_
              refine zv_getR (j := 48) hC fl_X11_16 dX11_go_135 rfl rfl ?_
              refine zv_iload_n hC dX11_go_138 rfl ?_
              refine zv_iald hC dX11_go_139 rfl h.1 ?_
              replace h := h.2
              refine zv_bipush (v := 6) hC dX11_go_140 (by decide) ?_
              refine zv_icmp_ne (tgt := 155) hC dX11_go_142 (by decide) (fun c => ?_) (fun c => ?_)
              · replace h := h.1 c
                exact zv_go (k_X11_go_155 hC hR hk47 h) ⟨rfl, rfl, rfl, rfl, trivial⟩
              · replace h := h.2 c
                refine zv_aload_n hC dX11_go_145 rfl ?_
                refine zv_getR (j := 55) hC fl_X11_37 dX11_go_146 rfl rfl ?_
                refine zv_iload_n hC dX11_go_149 rfl ?_
                refine zv_iald hC dX11_go_150 rfl h.1 ?_
                replace h := h.2
                refine zv_iconst (v := (-1)) hC dX11_go_151 (by decide) ?_
                refine zv_icmp_ne (tgt := 164) hC dX11_go_152 (by decide) (fun c => ?_) (fun c => ?_)
                · replace h := h.1 c
                  exact zv_go (k_X11_go_164 hC hR hk47 h) ⟨rfl, rfl, rfl, rfl, trivial⟩
                · replace h := h.2 c
                  exact zv_go (k_X11_go_155 hC hR hk47 h) ⟨rfl, rfl, rfl, rfl, trivial⟩
          · replace h := h.2 c
            refine zv_aload_n hC dX11_go_117 rfl ?_
            refine zv_iload_n hC dX11_go_118 rfl ?_
            refine zv_callVv (As := [_]) hC dX11_go_119 Y_X11_goBest lk_X11_161 (by decide) rfl rfl rfl (Nat.le_of_ble_eq_true rfl) (ok_X11_goBest G h) ?_
            intro σ_2 h
            refine zv_goto (tgt := 208) hC dX11_go_122 (by decide) ?_
            exact zv_go (k_X11_go_208 hC hR hk47 h) ⟨rfl, rfl, rfl, trivial⟩
        · replace h := h.2 c
          refine zv_aload_n hC dX11_go_99 rfl ?_
          refine zv_iload_n hC dX11_go_100 rfl ?_
          refine zv_callVv (As := [_]) hC dX11_go_101 Y_X11_goBool lk_X11_158 (by decide) rfl rfl rfl (Nat.le_of_ble_eq_true rfl) (ok_X11_goBool G h) ?_
          intro σ_3 h
          refine zv_goto (tgt := 208) hC dX11_go_104 (by decide) ?_
          exact zv_go (k_X11_go_208 hC hR hk47 h) ⟨rfl, rfl, rfl, trivial⟩
      · replace h := h.2 c
        refine zv_aload_n hC dX11_go_76 rfl ?_
        refine zv_dup hC dX11_go_77 rfl ?_
        refine zv_getI hC fl_X11_152 dX11_go_78 rfl rfl ?_
        refine zv_iconst (v := 1) hC dX11_go_81 (by decide) ?_
        refine zv_isub hC dX11_go_82 ?_
        refine zv_putI hC fp_X11_152 dX11_go_83 rfl rfl rfl rfl ?_
        replace h := h _ rfl
        refine zv_goto (tgt := 208) hC dX11_go_86 (by decide) ?_
        exact zv_go (k_X11_go_208 hC hR hk47 h) ⟨rfl, rfl, rfl, trivial⟩
def L_X11_go_12 (Q : Int32 → zv_St → Prop) : Nat → (Int32 → Int32 → Int32 → zv_St → Prop)
  | 0 => fun _ _ _ _ => False
  | u + 1 => fun x1 x2 x3 σ => 
    (x1 < x3 → (∀ σ_1 : zv_St, σ_1 = zv_wi σ 45 26 0 → B_X11_come (fun σ_2 => ∃ n47, L_X11_go_47 Q n47 x1 x2 σ_2) x1 σ_1)) ∧ (¬ x1 < x3 → (vp_in x3 80 ∧ ∀ σ_3 : zv_St, σ_3 = zv_wi σ 65 x3.toNatClampNeg (-1) → vp_in x3 80 ∧ ∀ σ_4 : zv_St, σ_4 = zv_wl σ_3 66 x3.toNatClampNeg 0 → (L_X11_go_12 Q u) x1 x2 (x3 + 1) σ_4))
set_option maxRecDepth 20000 in
set_option maxHeartbeats 2000000 in
theorem kL_X11_go_12 {G : zv_G} {X : zv_X} {Q : Int32 → zv_St → Prop}  (hC : zv_C G X M_X11_go) (hR : zv_R G X M_X11_go (zv_qi Q))  : ∀ (n : Nat) (x1 : Int32) (x2 : Int32) (x3 : Int32) (σ : zv_St), L_X11_go_12 Q  n x1 x2 x3 σ → zv_V G X M_X11_go 12 [(0, .ref (G.2.2.1 45)), (1, .int x1), (2, .int x2), (3, .int x3)] [] σ := by
  intro n
  induction n with
  | zero => intro x1 x2 x3 σ h; exact h.elim
  | succ n hk12 =>
    intro x1 x2 x3 σ h
    unfold L_X11_go_12 at h
    refine zv_iload_n hC dX11_go_12 rfl ?_
    refine zv_iload_n hC dX11_go_13 rfl ?_
    refine zv_icmp_gt (tgt := 37) hC dX11_go_14 (by decide) (fun c => ?_) (fun c => ?_)
    · replace h := h.1 c
      refine zv_aload_n hC dX11_go_37 rfl ?_
      refine zv_iconst (v := 0) hC dX11_go_38 (by decide) ?_
      refine zv_putI hC fp_X11_152 dX11_go_39 rfl rfl rfl rfl ?_
      replace h := h _ rfl
      refine zv_aload_n hC dX11_go_42 rfl ?_
      refine zv_iload_n hC dX11_go_43 rfl ?_
      refine zv_callVv (As := [_]) hC dX11_go_44 Y_X11_come lk_X11_155 (by decide) rfl rfl rfl (Nat.le_of_ble_eq_true rfl) (ok_X11_come G h) ?_
      intro σ_2 h
      obtain ⟨n, h⟩ := h
      exact zv_go (kL_X11_go_47 hC hR  n _ _ _ h) ⟨rfl, rfl, rfl, trivial⟩
    · replace h := h.2 c
      refine zv_aload_n hC dX11_go_17 rfl ?_
      refine zv_getR (j := 65) hC fl_X11_69 dX11_go_18 rfl rfl ?_
      refine zv_iload_n hC dX11_go_21 rfl ?_
      refine zv_iconst (v := (-1)) hC dX11_go_22 (by decide) ?_
      refine zv_iast hC dX11_go_23 rfl h.1 ?_
      replace h := h.2 _ rfl
      refine zv_aload_n hC dX11_go_24 rfl ?_
      refine zv_getR (j := 66) hC fl_X11_72 dX11_go_25 rfl rfl ?_
      refine zv_iload_n hC dX11_go_28 rfl ?_
      refine zv_lconst (v := 0) hC dX11_go_29 (by decide) ?_
      refine zv_last hC dX11_go_30 rfl h.1 ?_
      replace h := h.2 _ rfl
      refine zv_iinc (v := 1) hC dX11_go_31 rfl (by decide) (by decide) ?_
      refine zv_goto (tgt := 12) hC dX11_go_34 (by decide) ?_
      exact zv_go (hk12 _ _ _ _ h) ⟨rfl, rfl, rfl, rfl, trivial⟩
def B_X11_go (Q : Int32 → zv_St → Prop) (x1 : Int32) (x2 : Int32) (σ : zv_St) : Prop :=
  B_X11_costs (fun σ_1 => B_X11_mayAll (fun σ_2 => ∃ n12, L_X11_go_12 Q n12 x1 x2 0 σ_2) x2 x1 σ_1) σ
set_option maxRecDepth 20000 in
set_option maxHeartbeats 2000000 in
theorem k_X11_go_0 {G : zv_G} {X : zv_X} {Q : Int32 → zv_St → Prop}  (hC : zv_C G X M_X11_go) (hR : zv_R G X M_X11_go (zv_qi Q))  {x1 : Int32} {x2 : Int32} {σ : zv_St} (h : B_X11_go Q  x1 x2 σ) : zv_V G X M_X11_go 0 [(0, .ref (G.2.2.1 45)), (1, .int x1), (2, .int x2)] [] σ := by
  unfold B_X11_go at h
  refine zv_aload_n hC dX11_go_0 rfl ?_
  refine zv_callVv (As := []) hC dX11_go_1 Y_X11_costs lk_X11_134 (by decide) rfl rfl rfl (Nat.le_of_ble_eq_true rfl) (ok_X11_costs G h) ?_
  intro σ_1 h
  refine zv_aload_n hC dX11_go_4 rfl ?_
  refine zv_iload_n hC dX11_go_5 rfl ?_
  refine zv_iload_n hC dX11_go_6 rfl ?_
  refine zv_callVv (As := [_, _]) hC dX11_go_7 Y_X11_mayAll lk_X11_145 (by decide) rfl rfl rfl (Nat.le_of_ble_eq_true rfl) (ok_X11_mayAll G h) ?_
  intro σ_2 h
  refine zv_iconst (v := 0) hC dX11_go_10 (by decide) ?_
  refine zv_istore_n hC dX11_go_11 (by decide) ?_
  obtain ⟨n, h⟩ := h
  exact zv_go (kL_X11_go_12 hC hR  n _ _ _ _ h) ⟨rfl, rfl, rfl, rfl, trivial⟩
theorem ok_X11_go (G : zv_G) {Q : Int32 → zv_St → Prop} {x1 : Int32} {x2 : Int32} {σ : zv_St} (h : B_X11_go Q x1 x2 σ) : zv_OK G M_X11_go yX11_go [.ref (G.2.2.1 45), .int x1, .int x2] σ (zv_qi Q) := zv_ok G _ _ _ _ _ (by decide +kernel) rfl (Nat.le_of_ble_eq_true rfl) (fun X hC hR => zv_go (k_X11_go_0 hC hR h) ⟨rfl, rfl, rfl, trivial⟩)
-- X11_look
def B_X11_look_15 (Q : Int32 → zv_St → Prop) (σ : zv_St) : Prop :=
  Q (-2) σ
set_option maxRecDepth 20000 in
set_option maxHeartbeats 2000000 in
theorem k_X11_look_15 {G : zv_G} {X : zv_X} {Q : Int32 → zv_St → Prop}  (hC : zv_C G X M_X11_look) (hR : zv_R G X M_X11_look (zv_qi Q))   {σ : zv_St} (h : B_X11_look_15 Q   σ) : zv_V G X M_X11_look 15 [] [] σ := by
  unfold B_X11_look_15 at h
  refine zv_bipush (v := (-2)) hC dX11_look_15 (by decide) ?_
  exact (hR _ _ _).1 _ rfl dX11_look_17 ⟨_, rfl, h⟩
def B_X11_look_55 (Q : Int32 → zv_St → Prop) (y0 : Int32) (σ : zv_St) : Prop :=
  Q y0 σ
set_option maxRecDepth 20000 in
set_option maxHeartbeats 2000000 in
theorem k_X11_look_55 {G : zv_G} {X : zv_X} {Q : Int32 → zv_St → Prop}  (hC : zv_C G X M_X11_look) (hR : zv_R G X M_X11_look (zv_qi Q))  {y0 : Int32} {σ : zv_St} (h : B_X11_look_55 Q  y0 σ) : zv_V G X M_X11_look 55 [] [.int y0] σ := by
  unfold B_X11_look_55 at h
  exact (hR _ _ _).1 _ rfl dX11_look_55 ⟨_, rfl, h⟩
def B_X11_look_43 (Q : Int32 → zv_St → Prop) (x3 : Int32) (y1 : Int64) (σ : zv_St) : Prop :=
  ∀ σ_1 : zv_St, σ_1 = zv_wl σ 45 27 y1 → (x3 = 0 → (B_X11_look_55 Q 0 σ_1)) ∧ (¬ x3 = 0 → (B_X11_look_55 Q 1 σ_1))
set_option maxRecDepth 20000 in
set_option maxHeartbeats 2000000 in
theorem k_X11_look_43 {G : zv_G} {X : zv_X} {Q : Int32 → zv_St → Prop}  (hC : zv_C G X M_X11_look) (hR : zv_R G X M_X11_look (zv_qi Q))  {x3 : Int32} {y1 : Int64} {σ : zv_St} (h : B_X11_look_43 Q  x3 y1 σ) : zv_V G X M_X11_look 43 [(3, .int x3)] [.long y1, .ref (G.2.2.1 45)] σ := by
  unfold B_X11_look_43 at h
  refine zv_putL hC fp_X11_176 dX11_look_43 rfl rfl rfl rfl ?_
  replace h := h _ rfl
  refine zv_iload_n hC dX11_look_46 rfl ?_
  refine zv_if_eq (tgt := 54) hC dX11_look_47 (by decide) (fun c => ?_) (fun c => ?_)
  · replace h := h.1 c
    refine zv_iconst (v := 0) hC dX11_look_54 (by decide) ?_
    exact zv_go (k_X11_look_55 hC hR  h) trivial
  · replace h := h.2 c
    refine zv_iconst (v := 1) hC dX11_look_50 (by decide) ?_
    refine zv_goto (tgt := 55) hC dX11_look_51 (by decide) ?_
    exact zv_go (k_X11_look_55 hC hR  h) trivial
def B_X11_look (Q : Int32 → zv_St → Prop) (x1 : Int32) (x2 : Int32) (σ : zv_St) : Prop :=
  B_X11_isNode (fun r_2 σ_1 => (r_2 = 0 → (B_X11_look_15 Q σ_1)) ∧ (¬ r_2 = 0 → (B_X11_isObject (fun r_4 σ_3 => (¬ r_4 = 0 → (B_X11_go (fun r_6 σ_5 => (r_6 = 0 → (B_X11_look_43 Q r_6 (σ_5.2 45 27) σ_5)) ∧ (¬ r_6 = 0 → (vp_in x1 80 ∧ B_X11_look_43 Q r_6 (σ_5.2 66 x1.toNatClampNeg) σ_5))) x1 x2 σ_3)) ∧ (r_4 = 0 → (B_X11_look_15 Q σ_3))) x2 σ_1))) x1 σ
set_option maxRecDepth 20000 in
set_option maxHeartbeats 2000000 in
theorem k_X11_look_0 {G : zv_G} {X : zv_X} {Q : Int32 → zv_St → Prop}  (hC : zv_C G X M_X11_look) (hR : zv_R G X M_X11_look (zv_qi Q))  {x1 : Int32} {x2 : Int32} {σ : zv_St} (h : B_X11_look Q  x1 x2 σ) : zv_V G X M_X11_look 0 [(0, .ref (G.2.2.1 45)), (1, .int x1), (2, .int x2)] [] σ := by
  unfold B_X11_look at h
  refine zv_aload_n hC dX11_look_0 rfl ?_
  refine zv_iload_n hC dX11_look_1 rfl ?_
  refine zv_callVi (As := [_]) hC dX11_look_2 Y_X11_isNode lk_X11_123 (by decide) rfl rfl rfl (Nat.le_of_ble_eq_true rfl) (ok_X11_isNode G h) ?_
  intro r_2 σ_1 h
  refine zv_if_eq (tgt := 15) hC dX11_look_5 (by decide) (fun c => ?_) (fun c => ?_)
  · replace h := h.1 c
    exact zv_go (k_X11_look_15 hC hR  h) trivial
  · replace h := h.2 c
    refine zv_iload_n hC dX11_look_8 rfl ?_
    refine zv_callSi (As := [_]) hC dX11_look_9 Y_X11_isObject lk_X11_115 (by decide) rfl rfl (Nat.le_of_ble_eq_true rfl) (ok_X11_isObject G h) ?_
    intro r_4 σ_3 h
    refine zv_if_ne (tgt := 18) hC dX11_look_12 (by decide) (fun c => ?_) (fun c => ?_)
    · replace h := h.1 c
      refine zv_aload_n hC dX11_look_18 rfl ?_
      refine zv_iload_n hC dX11_look_19 rfl ?_
      refine zv_iload_n hC dX11_look_20 rfl ?_
      refine zv_callVi (As := [_, _]) hC dX11_look_21 Y_X11_go lk_X11_172 (by decide) rfl rfl rfl (Nat.le_of_ble_eq_true rfl) (ok_X11_go G h) ?_
      intro r_6 σ_5 h
      refine zv_istore_n hC dX11_look_24 (by decide) ?_
      refine zv_aload_n hC dX11_look_25 rfl ?_
      refine zv_iload_n hC dX11_look_26 rfl ?_
      refine zv_if_eq (tgt := 39) hC dX11_look_27 (by decide) (fun c => ?_) (fun c => ?_)
      · replace h := h.1 c
        refine zv_aload_n hC dX11_look_39 rfl ?_
        refine zv_getL hC fl_X11_176 dX11_look_40 rfl rfl ?_
        exact zv_go (k_X11_look_43 hC hR  h) ⟨rfl, trivial⟩
      · replace h := h.2 c
        refine zv_aload_n hC dX11_look_30 rfl ?_
        refine zv_getR (j := 66) hC fl_X11_72 dX11_look_31 rfl rfl ?_
        refine zv_iload_n hC dX11_look_34 rfl ?_
        refine zv_lald hC dX11_look_35 rfl h.1 ?_
        replace h := h.2
        refine zv_goto (tgt := 43) hC dX11_look_36 (by decide) ?_
        exact zv_go (k_X11_look_43 hC hR  h) ⟨rfl, trivial⟩
    · replace h := h.2 c
      exact zv_go (k_X11_look_15 hC hR  h) trivial
theorem ok_X11_look (G : zv_G) {Q : Int32 → zv_St → Prop} {x1 : Int32} {x2 : Int32} {σ : zv_St} (h : B_X11_look Q x1 x2 σ) : zv_OK G M_X11_look yX11_look [.ref (G.2.2.1 45), .int x1, .int x2] σ (zv_qi Q) := zv_ok G _ _ _ _ _ (by decide +kernel) rfl (Nat.le_of_ble_eq_true rfl) (fun X hC hR => zv_go (k_X11_look_0 hC hR h) ⟨rfl, rfl, rfl, trivial⟩)
-- X11_scored
def B_X11_scored (Q : Int64 → zv_St → Prop) (σ : zv_St) : Prop :=
  Q (σ.2 45 27) σ
set_option maxRecDepth 20000 in
set_option maxHeartbeats 2000000 in
theorem k_X11_scored_0 {G : zv_G} {X : zv_X} {Q : Int64 → zv_St → Prop}  (hC : zv_C G X M_X11_scored) (hR : zv_R G X M_X11_scored (zv_ql Q))   {σ : zv_St} (h : B_X11_scored Q   σ) : zv_V G X M_X11_scored 0 [(0, .ref (G.2.2.1 45))] [] σ := by
  unfold B_X11_scored at h
  refine zv_aload_n hC dX11_scored_0 rfl ?_
  refine zv_getL hC fl_X11_176 dX11_scored_1 rfl rfl ?_
  exact (hR _ _ _).2.2.1 _ rfl dX11_scored_4 ⟨_, rfl, h⟩
theorem ok_X11_scored (G : zv_G) {Q : Int64 → zv_St → Prop}  {σ : zv_St} (h : B_X11_scored Q  σ) : zv_OK G M_X11_scored yX11_scored [.ref (G.2.2.1 45)] σ (zv_ql Q) := zv_ok G _ _ _ _ _ (by decide +kernel) rfl (Nat.le_of_ble_eq_true rfl) (fun X hC hR => zv_go (k_X11_scored_0 hC hR h) ⟨rfl, trivial⟩)
-- X11_run
def B_X11_run_69 (Q : Int32 → zv_St → Prop) (kk18 : Int32 → Int32 → zv_St → Prop) (x1 : Int32) (x2 : Int32) (σ : zv_St) : Prop :=
  kk18 x1 (x2 + 1) σ
set_option maxRecDepth 20000 in
set_option maxHeartbeats 2000000 in
theorem k_X11_run_69 {G : zv_G} {X : zv_X} {Q : Int32 → zv_St → Prop} {kk18 : Int32 → Int32 → zv_St → Prop} (hC : zv_C G X M_X11_run) (hR : zv_R G X M_X11_run (zv_qi Q)) (hk18 : ∀ (x1 : Int32) (x2 : Int32) (σ : zv_St), kk18 x1 x2 σ → zv_V G X M_X11_run 18 [(0, .ref (G.2.2.1 45)), (1, .int x1), (2, .int x2)] [] σ) {x1 : Int32} {x2 : Int32} {σ : zv_St} (h : B_X11_run_69 Q kk18 x1 x2 σ) : zv_V G X M_X11_run 69 [(0, .ref (G.2.2.1 45)), (1, .int x1), (2, .int x2)] [] σ := by
  unfold B_X11_run_69 at h
  refine zv_iinc (v := 1) hC dX11_run_69 rfl (by decide) (by decide) ?_
  refine zv_goto (tgt := 18) hC dX11_run_72 (by decide) ?_
  exact zv_go (hk18 _ _ _ h) ⟨rfl, rfl, rfl, trivial⟩
def L_X11_run_18 (Q : Int32 → zv_St → Prop) : Nat → (Int32 → Int32 → zv_St → Prop)
  | 0 => fun _ _ _ => False
  | u + 1 => fun x1 x2 σ => 
    (512 ≤ x2 → (Q (σ.1 45 30) σ)) ∧ (¬ 512 ≤ x2 → (B_X11_go (fun r_2 σ_1 => (r_2 = 0 → (B_X11_run_69 Q (L_X11_run_18 Q u) x1 x2 σ_1)) ∧ (¬ r_2 = 0 → (vp_in (σ_1.1 45 30) 512 ∧ ∀ σ_3 : zv_St, σ_3 = zv_wi σ_1 70 (σ_1.1 45 30).toNatClampNeg x2 → vp_in x1 80 ∧ vp_in (σ_3.1 45 30) 512 ∧ ∀ σ_4 : zv_St, σ_4 = zv_wl σ_3 71 (σ_3.1 45 30).toNatClampNeg (σ_3.2 66 x1.toNatClampNeg) → ∀ σ_5 : zv_St, σ_5 = zv_wi σ_4 45 30 ((σ_4.1 45 30) + 1) → B_X11_run_69 Q (L_X11_run_18 Q u) x1 x2 σ_5))) x1 x2 σ))
set_option maxRecDepth 20000 in
set_option maxHeartbeats 2000000 in
theorem kL_X11_run_18 {G : zv_G} {X : zv_X} {Q : Int32 → zv_St → Prop}  (hC : zv_C G X M_X11_run) (hR : zv_R G X M_X11_run (zv_qi Q))  : ∀ (n : Nat) (x1 : Int32) (x2 : Int32) (σ : zv_St), L_X11_run_18 Q  n x1 x2 σ → zv_V G X M_X11_run 18 [(0, .ref (G.2.2.1 45)), (1, .int x1), (2, .int x2)] [] σ := by
  intro n
  induction n with
  | zero => intro x1 x2 σ h; exact h.elim
  | succ n hk18 =>
    intro x1 x2 σ h
    unfold L_X11_run_18 at h
    refine zv_iload_n hC dX11_run_18 rfl ?_
    refine zv_sipush (v := 512) hC dX11_run_19 (by decide) ?_
    refine zv_icmp_ge (tgt := 75) hC dX11_run_22 (by decide) (fun c => ?_) (fun c => ?_)
    · replace h := h.1 c
      refine zv_aload_n hC dX11_run_75 rfl ?_
      refine zv_getI hC fl_X11_180 dX11_run_76 rfl rfl ?_
      exact (hR _ _ _).1 _ rfl dX11_run_79 ⟨_, rfl, h⟩
    · replace h := h.2 c
      refine zv_aload_n hC dX11_run_25 rfl ?_
      refine zv_iload_n hC dX11_run_26 rfl ?_
      refine zv_iload_n hC dX11_run_27 rfl ?_
      refine zv_callVi (As := [_, _]) hC dX11_run_28 Y_X11_go lk_X11_172 (by decide) rfl rfl rfl (Nat.le_of_ble_eq_true rfl) (ok_X11_go G h) ?_
      intro r_2 σ_1 h
      refine zv_if_eq (tgt := 69) hC dX11_run_31 (by decide) (fun c => ?_) (fun c => ?_)
      · replace h := h.1 c
        exact zv_go (k_X11_run_69 hC hR hk18 h) ⟨rfl, rfl, rfl, trivial⟩
      · replace h := h.2 c
        refine zv_aload_n hC dX11_run_34 rfl ?_
        refine zv_getR (j := 70) hC fl_X11_85 dX11_run_35 rfl rfl ?_
        refine zv_aload_n hC dX11_run_38 rfl ?_
        refine zv_getI hC fl_X11_180 dX11_run_39 rfl rfl ?_
        refine zv_iload_n hC dX11_run_42 rfl ?_
        refine zv_iast hC dX11_run_43 rfl h.1 ?_
        replace h := h.2 _ rfl
        refine zv_aload_n hC dX11_run_44 rfl ?_
        refine zv_getR (j := 71) hC fl_X11_88 dX11_run_45 rfl rfl ?_
        refine zv_aload_n hC dX11_run_48 rfl ?_
        refine zv_getI hC fl_X11_180 dX11_run_49 rfl rfl ?_
        refine zv_aload_n hC dX11_run_52 rfl ?_
        refine zv_getR (j := 66) hC fl_X11_72 dX11_run_53 rfl rfl ?_
        refine zv_iload_n hC dX11_run_56 rfl ?_
        refine zv_lald hC dX11_run_57 rfl h.1 ?_
        replace h := h.2
        refine zv_last hC dX11_run_58 rfl h.1 ?_
        replace h := h.2 _ rfl
        refine zv_aload_n hC dX11_run_59 rfl ?_
        refine zv_dup hC dX11_run_60 rfl ?_
        refine zv_getI hC fl_X11_180 dX11_run_61 rfl rfl ?_
        refine zv_iconst (v := 1) hC dX11_run_64 (by decide) ?_
        refine zv_iadd hC dX11_run_65 ?_
        refine zv_putI hC fp_X11_180 dX11_run_66 rfl rfl rfl rfl ?_
        replace h := h _ rfl
        exact zv_go (k_X11_run_69 hC hR hk18 h) ⟨rfl, rfl, rfl, trivial⟩
def B_X11_run (Q : Int32 → zv_St → Prop) (x1 : Int32) (σ : zv_St) : Prop :=
  B_X11_isNode (fun r_2 σ_1 => (¬ r_2 = 0 → (∀ σ_3 : zv_St, σ_3 = zv_wi σ_1 45 30 0 → ∃ n18, L_X11_run_18 Q n18 x1 0 σ_3)) ∧ (r_2 = 0 → (Q (-2) σ_1))) x1 σ
set_option maxRecDepth 20000 in
set_option maxHeartbeats 2000000 in
theorem k_X11_run_0 {G : zv_G} {X : zv_X} {Q : Int32 → zv_St → Prop}  (hC : zv_C G X M_X11_run) (hR : zv_R G X M_X11_run (zv_qi Q))  {x1 : Int32} {σ : zv_St} (h : B_X11_run Q  x1 σ) : zv_V G X M_X11_run 0 [(0, .ref (G.2.2.1 45)), (1, .int x1)] [] σ := by
  unfold B_X11_run at h
  refine zv_aload_n hC dX11_run_0 rfl ?_
  refine zv_iload_n hC dX11_run_1 rfl ?_
  refine zv_callVi (As := [_]) hC dX11_run_2 Y_X11_isNode lk_X11_123 (by decide) rfl rfl rfl (Nat.le_of_ble_eq_true rfl) (ok_X11_isNode G h) ?_
  intro r_2 σ_1 h
  refine zv_if_ne (tgt := 11) hC dX11_run_5 (by decide) (fun c => ?_) (fun c => ?_)
  · replace h := h.1 c
    refine zv_aload_n hC dX11_run_11 rfl ?_
    refine zv_iconst (v := 0) hC dX11_run_12 (by decide) ?_
    refine zv_putI hC fp_X11_180 dX11_run_13 rfl rfl rfl rfl ?_
    replace h := h _ rfl
    refine zv_iconst (v := 0) hC dX11_run_16 (by decide) ?_
    refine zv_istore_n hC dX11_run_17 (by decide) ?_
    obtain ⟨n, h⟩ := h
    exact zv_go (kL_X11_run_18 hC hR  n _ _ _ h) ⟨rfl, rfl, rfl, trivial⟩
  · replace h := h.2 c
    refine zv_bipush (v := (-2)) hC dX11_run_8 (by decide) ?_
    exact (hR _ _ _).1 _ rfl dX11_run_10 ⟨_, rfl, h⟩
theorem ok_X11_run (G : zv_G) {Q : Int32 → zv_St → Prop} {x1 : Int32} {σ : zv_St} (h : B_X11_run Q x1 σ) : zv_OK G M_X11_run yX11_run [.ref (G.2.2.1 45), .int x1] σ (zv_qi Q) := zv_ok G _ _ _ _ _ (by decide +kernel) rfl (Nat.le_of_ble_eq_true rfl) (fun X hC hR => zv_go (k_X11_run_0 hC hR h) ⟨rfl, rfl, trivial⟩)
-- X11_found
def B_X11_found_24 (Q : Int32 → zv_St → Prop) (y0 : Int32) (σ : zv_St) : Prop :=
  Q y0 σ
set_option maxRecDepth 20000 in
set_option maxHeartbeats 2000000 in
theorem k_X11_found_24 {G : zv_G} {X : zv_X} {Q : Int32 → zv_St → Prop}  (hC : zv_C G X M_X11_found) (hR : zv_R G X M_X11_found (zv_qi Q))  {y0 : Int32} {σ : zv_St} (h : B_X11_found_24 Q  y0 σ) : zv_V G X M_X11_found 24 [] [.int y0] σ := by
  unfold B_X11_found_24 at h
  exact (hR _ _ _).1 _ rfl dX11_found_24 ⟨_, rfl, h⟩
def B_X11_found (Q : Int32 → zv_St → Prop) (x1 : Int32) (σ : zv_St) : Prop :=
  B_X11_in (fun r_2 σ_1 => (r_2 = 0 → (B_X11_found_24 Q (-1) σ_1)) ∧ (¬ r_2 = 0 → (vp_in x1 512 ∧ B_X11_found_24 Q (σ_1.1 70 x1.toNatClampNeg) σ_1))) x1 0 ((σ.1 45 30) - 1) σ
set_option maxRecDepth 20000 in
set_option maxHeartbeats 2000000 in
theorem k_X11_found_0 {G : zv_G} {X : zv_X} {Q : Int32 → zv_St → Prop}  (hC : zv_C G X M_X11_found) (hR : zv_R G X M_X11_found (zv_qi Q))  {x1 : Int32} {σ : zv_St} (h : B_X11_found Q  x1 σ) : zv_V G X M_X11_found 0 [(0, .ref (G.2.2.1 45)), (1, .int x1)] [] σ := by
  unfold B_X11_found at h
  refine zv_iload_n hC dX11_found_0 rfl ?_
  refine zv_iconst (v := 0) hC dX11_found_1 (by decide) ?_
  refine zv_aload_n hC dX11_found_2 rfl ?_
  refine zv_getI hC fl_X11_180 dX11_found_3 rfl rfl ?_
  refine zv_iconst (v := 1) hC dX11_found_6 (by decide) ?_
  refine zv_isub hC dX11_found_7 ?_
  refine zv_callSi (As := [_, _, _]) hC dX11_found_8 Y_X11_in lk_X11_103 (by decide) rfl rfl (Nat.le_of_ble_eq_true rfl) (ok_X11_in G h) ?_
  intro r_2 σ_1 h
  refine zv_if_eq (tgt := 23) hC dX11_found_11 (by decide) (fun c => ?_) (fun c => ?_)
  · replace h := h.1 c
    refine zv_iconst (v := (-1)) hC dX11_found_23 (by decide) ?_
    exact zv_go (k_X11_found_24 hC hR  h) trivial
  · replace h := h.2 c
    refine zv_aload_n hC dX11_found_14 rfl ?_
    refine zv_getR (j := 70) hC fl_X11_85 dX11_found_15 rfl rfl ?_
    refine zv_iload_n hC dX11_found_18 rfl ?_
    refine zv_iald hC dX11_found_19 rfl h.1 ?_
    replace h := h.2
    refine zv_goto (tgt := 24) hC dX11_found_20 (by decide) ?_
    exact zv_go (k_X11_found_24 hC hR  h) trivial
theorem ok_X11_found (G : zv_G) {Q : Int32 → zv_St → Prop} {x1 : Int32} {σ : zv_St} (h : B_X11_found Q x1 σ) : zv_OK G M_X11_found yX11_found [.ref (G.2.2.1 45), .int x1] σ (zv_qi Q) := zv_ok G _ _ _ _ _ (by decide +kernel) rfl (Nat.le_of_ble_eq_true rfl) (fun X hC hR => zv_go (k_X11_found_0 hC hR h) ⟨rfl, rfl, trivial⟩)
