-- X11_go
def B_X11_go_226 (Q : Int32 → zv_St → Prop) (y0 : Int32) (σ : zv_St) : Prop :=
  narrow .boolean (.int y0) = .int y0 ∧ Q y0 σ
set_option maxRecDepth 20000 in
set_option maxHeartbeats 2000000 in
theorem k_X11_go_226 {G : zv_G} {X : zv_X} {Q : Int32 → zv_St → Prop}  (hC : zv_C G X M_X11_go) (hR : zv_R G X M_X11_go (zv_qi Q))  {y0 : Int32} {σ : zv_St} (h : B_X11_go_226 Q  y0 σ) : zv_V G X M_X11_go 226 [] [.int y0] σ := by
  unfold B_X11_go_226 at h
  exact (hR _ _ _).2.1 _ rfl h.1 dX11_go_226 ⟨_, rfl, h.2⟩
def B_X11_go_208 (Q : Int32 → zv_St → Prop) (kk47 : Int32 → Int32 → zv_St → Prop) (x1 : Int32) (x2 : Int32) (σ : zv_St) : Prop :=
  kk47 x1 x2 σ
set_option maxRecDepth 20000 in
set_option maxHeartbeats 2000000 in
theorem k_X11_go_208 {G : zv_G} {X : zv_X} {Q : Int32 → zv_St → Prop} {kk47 : Int32 → Int32 → zv_St → Prop} (hC : zv_C G X M_X11_go) (hR : zv_R G X M_X11_go (zv_qi Q)) (hk47 : ∀ (x1 : Int32) (x2 : Int32) (σ : zv_St), kk47 x1 x2 σ → zv_V G X M_X11_go 47 [(0, .ref (G.2.2.1 45)), (1, .int x1), (2, .int x2)] [] σ) {x1 : Int32} {x2 : Int32} {σ : zv_St} (h : B_X11_go_208 Q kk47 x1 x2 σ) : zv_V G X M_X11_go 208 [(0, .ref (G.2.2.1 45)), (1, .int x1), (2, .int x2)] [] σ := by
  unfold B_X11_go_208 at h
  refine zv_goto (tgt := 47) hC dX11_go_208 (by decide) ?_
  exact zv_go (hk47 _ _ _ h) ⟨rfl, rfl, rfl, trivial⟩
def B_X11_go_207 (Q : Int32 → zv_St → Prop) (kk47 : Int32 → Int32 → zv_St → Prop) (x1 : Int32) (x2 : Int32) (y1 : Int32) (y2 : Int64) (σ : zv_St) : Prop :=
  vp_in y1 80 ∧ ∀ σ_1 : zv_St, σ_1 = zv_wl σ 66 y1.toNatClampNeg y2 → B_X11_go_208 Q kk47 x1 x2 σ_1
set_option maxRecDepth 20000 in
set_option maxHeartbeats 2000000 in
theorem k_X11_go_207 {G : zv_G} {X : zv_X} {Q : Int32 → zv_St → Prop} {kk47 : Int32 → Int32 → zv_St → Prop} (hC : zv_C G X M_X11_go) (hR : zv_R G X M_X11_go (zv_qi Q)) (hk47 : ∀ (x1 : Int32) (x2 : Int32) (σ : zv_St), kk47 x1 x2 σ → zv_V G X M_X11_go 47 [(0, .ref (G.2.2.1 45)), (1, .int x1), (2, .int x2)] [] σ) {x1 : Int32} {x2 : Int32} {y1 : Int32} {y2 : Int64} {σ : zv_St} (h : B_X11_go_207 Q kk47 x1 x2 y1 y2 σ) : zv_V G X M_X11_go 207 [(0, .ref (G.2.2.1 45)), (1, .int x1), (2, .int x2)] [.long y2, .int y1, .ref (G.2.2.1 66)] σ := by
  unfold B_X11_go_207 at h
  refine zv_last hC dX11_go_207 rfl h.1 ?_
  replace h := h.2 _ rfl
  exact zv_go (k_X11_go_208 hC hR hk47 h) ⟨rfl, rfl, rfl, trivial⟩
def B_X11_go_164 (Q : Int32 → zv_St → Prop) (kk47 : Int32 → Int32 → zv_St → Prop) (x1 : Int32) (x2 : Int32) (x3 : Int32) (σ : zv_St) : Prop :=
  vp_in x3 80 ∧ ∀ σ_1 : zv_St, σ_1 = zv_wi σ 65 x3.toNatClampNeg 1 → vp_in x3 80 ∧ (¬ (σ_1.1 48 x3.toNatClampNeg) = 0 → (B_X11_go_207 Q kk47 x1 x2 x3 0 σ_1)) ∧ ((σ_1.1 48 x3.toNatClampNeg) = 0 → (vp_in x3 80 ∧ vp_in ((512 * (σ_1.1 49 x3.toNatClampNeg)) + x2) 8192 ∧ B_X11_go_207 Q kk47 x1 x2 x3 (Int32.toInt64 (σ_1.1 46 ((512 * (σ_1.1 49 x3.toNatClampNeg)) + x2).toNatClampNeg)) σ_1))
set_option maxRecDepth 20000 in
set_option maxHeartbeats 2000000 in
theorem k_X11_go_164 {G : zv_G} {X : zv_X} {Q : Int32 → zv_St → Prop} {kk47 : Int32 → Int32 → zv_St → Prop} (hC : zv_C G X M_X11_go) (hR : zv_R G X M_X11_go (zv_qi Q)) (hk47 : ∀ (x1 : Int32) (x2 : Int32) (σ : zv_St), kk47 x1 x2 σ → zv_V G X M_X11_go 47 [(0, .ref (G.2.2.1 45)), (1, .int x1), (2, .int x2)] [] σ) {x1 : Int32} {x2 : Int32} {x3 : Int32} {σ : zv_St} (h : B_X11_go_164 Q kk47 x1 x2 x3 σ) : zv_V G X M_X11_go 164 [(0, .ref (G.2.2.1 45)), (1, .int x1), (2, .int x2), (3, .int x3)] [] σ := by
  unfold B_X11_go_164 at h
  refine zv_aload_n hC dX11_go_164 rfl ?_
  refine zv_getR (j := 65) hC fl_X11_69 dX11_go_165 rfl rfl ?_
  refine zv_iload_n hC dX11_go_168 rfl ?_
  refine zv_iconst (v := 1) hC dX11_go_169 (by decide) ?_
  refine zv_iast hC dX11_go_170 rfl h.1 ?_
  replace h := h.2 _ rfl
  refine zv_aload_n hC dX11_go_171 rfl ?_
  refine zv_getR (j := 66) hC fl_X11_72 dX11_go_172 rfl rfl ?_
  refine zv_iload_n hC dX11_go_175 rfl ?_
  refine zv_aload_n hC dX11_go_176 rfl ?_
  refine zv_getR (j := 48) hC fl_X11_16 dX11_go_177 rfl rfl ?_
  refine zv_iload_n hC dX11_go_180 rfl ?_
  refine zv_iald hC dX11_go_181 rfl h.1 ?_
  replace h := h.2
  refine zv_if_ne (tgt := 206) hC dX11_go_182 (by decide) (fun c => ?_) (fun c => ?_)
  · replace h := h.1 c
    refine zv_lconst (v := 0) hC dX11_go_206 (by decide) ?_
    exact zv_go (k_X11_go_207 hC hR hk47 h) ⟨rfl, rfl, rfl, trivial⟩
  · replace h := h.2 c
    refine zv_aload_n hC dX11_go_185 rfl ?_
    refine zv_getR (j := 46) hC fl_X11_7 dX11_go_186 rfl rfl ?_
    refine zv_sipush (v := 512) hC dX11_go_189 (by decide) ?_
    refine zv_aload_n hC dX11_go_192 rfl ?_
    refine zv_getR (j := 49) hC fl_X11_19 dX11_go_193 rfl rfl ?_
    refine zv_iload_n hC dX11_go_196 rfl ?_
    refine zv_iald hC dX11_go_197 rfl h.1 ?_
    replace h := h.2
    refine zv_imul hC dX11_go_198 ?_
    refine zv_iload_n hC dX11_go_199 rfl ?_
    refine zv_iadd hC dX11_go_200 ?_
    refine zv_iald hC dX11_go_201 rfl h.1 ?_
    replace h := h.2
    refine zv_i2l hC dX11_go_202 ?_
    refine zv_goto (tgt := 207) hC dX11_go_203 (by decide) ?_
    exact zv_go (k_X11_go_207 hC hR hk47 h) ⟨rfl, rfl, rfl, trivial⟩
def B_X11_go_155 (Q : Int32 → zv_St → Prop) (kk47 : Int32 → Int32 → zv_St → Prop) (x1 : Int32) (x2 : Int32) (x3 : Int32) (σ : zv_St) : Prop :=
  B_X11_goOne (fun σ_1 => B_X11_go_208 Q kk47 x1 x2 σ_1) x3 x2 σ
set_option maxRecDepth 20000 in
set_option maxHeartbeats 2000000 in
theorem k_X11_go_155 {G : zv_G} {X : zv_X} {Q : Int32 → zv_St → Prop} {kk47 : Int32 → Int32 → zv_St → Prop} (hC : zv_C G X M_X11_go) (hR : zv_R G X M_X11_go (zv_qi Q)) (hk47 : ∀ (x1 : Int32) (x2 : Int32) (σ : zv_St), kk47 x1 x2 σ → zv_V G X M_X11_go 47 [(0, .ref (G.2.2.1 45)), (1, .int x1), (2, .int x2)] [] σ) {x1 : Int32} {x2 : Int32} {x3 : Int32} {σ : zv_St} (h : B_X11_go_155 Q kk47 x1 x2 x3 σ) : zv_V G X M_X11_go 155 [(0, .ref (G.2.2.1 45)), (1, .int x1), (2, .int x2), (3, .int x3)] [] σ := by
  unfold B_X11_go_155 at h
  refine zv_aload_n hC dX11_go_155 rfl ?_
  refine zv_iload_n hC dX11_go_156 rfl ?_
  refine zv_iload_n hC dX11_go_157 rfl ?_
  refine zv_callVv (As := [_, _]) hC dX11_go_158 Y_X11_goOne lk_X11_164 (by decide) rfl rfl rfl (Nat.le_of_ble_eq_true rfl) (ok_X11_goOne G h) ?_
  intro σ_1 h
  refine zv_goto (tgt := 208) hC dX11_go_161 (by decide) ?_
  exact zv_go (k_X11_go_208 hC hR hk47 h) ⟨rfl, rfl, rfl, trivial⟩
def L_X11_go_47 (Q : Int32 → zv_St → Prop) : Nat → (Int32 → Int32 → zv_St → Prop)
  | 0 => fun _ _ _ => False
  | u + 1 => fun x1 x2 σ => 
    ((σ.1 45 26) ≤ 0 → (vp_in x1 80 ∧ (¬ (σ.1 65 x1.toNatClampNeg) = 1 → (B_X11_go_226 Q 0 σ)) ∧ ((σ.1 65 x1.toNatClampNeg) = 1 → (B_X11_go_226 Q 1 σ)))) ∧ (¬ (σ.1 45 26) ≤ 0 → (vp_in ((σ.1 45 26) - 1) 90 ∧ ∀ v_1 : Int32, v_1 = (σ.1 69 ((σ.1 45 26) - 1).toNatClampNeg) → vp_in v_1 80 ∧ ((σ.1 65 v_1.toNatClampNeg) = (-1) → (vp_in v_1 80 ∧ (¬ (σ.1 48 v_1.toNatClampNeg) = 2 → (vp_in v_1 80 ∧ (¬ (σ.1 48 v_1.toNatClampNeg) = 3 → (vp_in v_1 80 ∧ ((σ.1 51 v_1.toNatClampNeg) ≤ 0 → (B_X11_go_164 Q (L_X11_go_47 Q u) x1 x2 v_1 σ)) ∧ (¬ (σ.1 51 v_1.toNatClampNeg) ≤ 0 → (vp_in v_1 80 ∧ (¬ (σ.1 48 v_1.toNatClampNeg) = 6 → (B_X11_go_155 Q (L_X11_go_47 Q u) x1 x2 v_1 σ)) ∧ ((σ.1 48 v_1.toNatClampNeg) = 6 → (vp_in v_1 80 ∧ (¬ (σ.1 55 v_1.toNatClampNeg) = (-1) → (B_X11_go_164 Q (L_X11_go_47 Q u) x1 x2 v_1 σ)) ∧ ((σ.1 55 v_1.toNatClampNeg) = (-1) → (B_X11_go_155 Q (L_X11_go_47 Q u) x1 x2 v_1 σ)))))))) ∧ ((σ.1 48 v_1.toNatClampNeg) = 3 → (B_X11_goBest (fun σ_2 => B_X11_go_208 Q (L_X11_go_47 Q u) x1 x2 σ_2) v_1 σ)))) ∧ ((σ.1 48 v_1.toNatClampNeg) = 2 → (B_X11_goBool (fun σ_3 => B_X11_go_208 Q (L_X11_go_47 Q u) x1 x2 σ_3) v_1 σ)))) ∧ (¬ (σ.1 65 v_1.toNatClampNeg) = (-1) → (∀ σ_4 : zv_St, σ_4 = zv_wi σ 45 26 ((σ.1 45 26) - 1) → B_X11_go_208 Q (L_X11_go_47 Q u) x1 x2 σ_4))))
set_option maxRecDepth 20000 in
set_option maxHeartbeats 2000000 in
theorem kL_X11_go_47 {G : zv_G} {X : zv_X} {Q : Int32 → zv_St → Prop}  (hC : zv_C G X M_X11_go) (hR : zv_R G X M_X11_go (zv_qi Q))  : ∀ (n : Nat) (x1 : Int32) (x2 : Int32) (σ : zv_St), L_X11_go_47 Q  n x1 x2 σ → zv_V G X M_X11_go 47 [(0, .ref (G.2.2.1 45)), (1, .int x1), (2, .int x2)] [] σ := by
  intro n
  induction n with
  | zero => intro x1 x2 σ h; exact h.elim
  | succ n hk47 =>
    intro x1 x2 σ h
    unfold L_X11_go_47 at h
    refine zv_aload_n hC dX11_go_47 rfl ?_
    refine zv_getI hC fl_X11_152 dX11_go_48 rfl rfl ?_
    refine zv_if_le (tgt := 211) hC dX11_go_51 (by decide) (fun c => ?_) (fun c => ?_)
    · replace h := h.1 c
      refine zv_aload_n hC dX11_go_211 rfl ?_
      refine zv_getR (j := 65) hC fl_X11_69 dX11_go_212 rfl rfl ?_
      refine zv_iload_n hC dX11_go_215 rfl ?_
      refine zv_iald hC dX11_go_216 rfl h.1 ?_
      replace h := h.2
      refine zv_iconst (v := 1) hC dX11_go_217 (by decide) ?_
      refine zv_icmp_ne (tgt := 225) hC dX11_go_218 (by decide) (fun c => ?_) (fun c => ?_)
      · replace h := h.1 c
        refine zv_iconst (v := 0) hC dX11_go_225 (by decide) ?_
        exact zv_go (k_X11_go_226 hC hR  h) trivial
      · replace h := h.2 c
        refine zv_iconst (v := 1) hC dX11_go_221 (by decide) ?_
        refine zv_goto (tgt := 226) hC dX11_go_222 (by decide) ?_
        exact zv_go (k_X11_go_226 hC hR  h) trivial
    · replace h := h.2 c
      refine zv_aload_n hC dX11_go_54 rfl ?_
      refine zv_getR (j := 69) hC fl_X11_82 dX11_go_55 rfl rfl ?_
      refine zv_aload_n hC dX11_go_58 rfl ?_
      refine zv_getI hC fl_X11_152 dX11_go_59 rfl rfl ?_
      refine zv_iconst (v := 1) hC dX11_go_62 (by decide) ?_
      refine zv_isub hC dX11_go_63 ?_
      refine zv_iald hC dX11_go_64 rfl h.1 ?_
      replace h := h.2
      replace h := h _ rfl
      refine zv_istore_n hC dX11_go_65 (by decide) ?_
      refine zv_aload_n hC dX11_go_66 rfl ?_
      refine zv_getR (j := 65) hC fl_X11_69 dX11_go_67 rfl rfl ?_
      refine zv_iload_n hC dX11_go_70 rfl ?_
      refine zv_iald hC dX11_go_71 rfl h.1 ?_
      replace h := h.2
      refine zv_iconst (v := (-1)) hC dX11_go_72 (by decide) ?_
      refine zv_icmp_eq (tgt := 89) hC dX11_go_73 (by decide) (fun c => ?_) (fun c => ?_)
      · replace h := h.1 c
        refine zv_aload_n hC dX11_go_89 rfl ?_
        refine zv_getR (j := 48) hC fl_X11_16 dX11_go_90 rfl rfl ?_
        refine zv_iload_n hC dX11_go_93 rfl ?_
        refine zv_iald hC dX11_go_94 rfl h.1 ?_
        replace h := h.2
        refine zv_iconst (v := 2) hC dX11_go_95 (by decide) ?_
        refine zv_icmp_ne (tgt := 107) hC dX11_go_96 (by decide) (fun c => ?_) (fun c => ?_)
        · replace h := h.1 c
          refine zv_aload_n hC dX11_go_107 rfl ?_
          refine zv_getR (j := 48) hC fl_X11_16 dX11_go_108 rfl rfl ?_
          refine zv_iload_n hC dX11_go_111 rfl ?_
          refine zv_iald hC dX11_go_112 rfl h.1 ?_
          replace h := h.2
          refine zv_iconst (v := 3) hC dX11_go_113 (by decide) ?_
          refine zv_icmp_ne (tgt := 125) hC dX11_go_114 (by decide) (fun c => ?_) (fun c => ?_)
          · replace h := h.1 c
            refine zv_aload_n hC dX11_go_125 rfl ?_
            refine zv_getR (j := 51) hC fl_X11_25 dX11_go_126 rfl rfl ?_
            refine zv_iload_n hC dX11_go_129 rfl ?_
            refine zv_iald hC dX11_go_130 rfl h.1 ?_
            replace h := h.2
            refine zv_if_le (tgt := 164) hC dX11_go_131 (by decide) (fun c => ?_) (fun c => ?_)
            · replace h := h.1 c
              exact zv_go (k_X11_go_164 hC hR hk47 h) ⟨rfl, rfl, rfl, rfl, trivial⟩
            · replace h := h.2 c
              refine zv_aload_n hC dX11_go_134 rfl ?_
              refine zv_getR (j := 48) hC fl_X11_16 dX11_go_135 rfl rfl ?_
              refine zv_iload_n hC dX11_go_138 rfl ?_
              refine zv_iald hC dX11_go_139 rfl h.1 ?_
              replace h := h.2
              refine zv_bipush (v := 6) hC dX11_go_140 (by decide) ?_
              refine zv_icmp_ne (tgt := 155) hC dX11_go_142 (by decide) (fun c => ?_) (fun c => ?_)
              · replace h := h.1 c
                exact zv_go (k_X11_go_155 hC hR hk47 h) ⟨rfl, rfl, rfl, rfl, trivial⟩
              · replace h := h.2 c
                refine zv_aload_n hC dX11_go_145 rfl ?_
                refine zv_getR (j := 55) hC fl_X11_37 dX11_go_146 rfl rfl ?_
                refine zv_iload_n hC dX11_go_149 rfl ?_
                refine zv_iald hC dX11_go_150 rfl h.1 ?_
                replace h := h.2
                refine zv_iconst (v := (-1)) hC dX11_go_151 (by decide) ?_
                refine zv_icmp_ne (tgt := 164) hC dX11_go_152 (by decide) (fun c => ?_) (fun c => ?_)
                · replace h := h.1 c
                  exact zv_go (k_X11_go_164 hC hR hk47 h) ⟨rfl, rfl, rfl, rfl, trivial⟩
                · replace h := h.2 c
                  exact zv_go (k_X11_go_155 hC hR hk47 h) ⟨rfl, rfl, rfl, rfl, trivial⟩
          · replace h := h.2 c
            refine zv_aload_n hC dX11_go_117 rfl ?_
            refine zv_iload_n hC dX11_go_118 rfl ?_
            refine zv_callVv (As := [_]) hC dX11_go_119 Y_X11_goBest lk_X11_161 (by decide) rfl rfl rfl (Nat.le_of_ble_eq_true rfl) (ok_X11_goBest G h) ?_
            intro σ_2 h
            refine zv_goto (tgt := 208) hC dX11_go_122 (by decide) ?_
            exact zv_go (k_X11_go_208 hC hR hk47 h) ⟨rfl, rfl, rfl, trivial⟩
        · replace h := h.2 c
          refine zv_aload_n hC dX11_go_99 rfl ?_
          refine zv_iload_n hC dX11_go_100 rfl ?_
          refine zv_callVv (As := [_]) hC dX11_go_101 Y_X11_goBool lk_X11_158 (by decide) rfl rfl rfl (Nat.le_of_ble_eq_true rfl) (ok_X11_goBool G h) ?_
          intro σ_3 h
          refine zv_goto (tgt := 208) hC dX11_go_104 (by decide) ?_
          exact zv_go (k_X11_go_208 hC hR hk47 h) ⟨rfl, rfl, rfl, trivial⟩
      · replace h := h.2 c
        refine zv_aload_n hC dX11_go_76 rfl ?_
        refine zv_dup hC dX11_go_77 rfl ?_
        refine zv_getI hC fl_X11_152 dX11_go_78 rfl rfl ?_
        refine zv_iconst (v := 1) hC dX11_go_81 (by decide) ?_
        refine zv_isub hC dX11_go_82 ?_
        refine zv_putI hC fp_X11_152 dX11_go_83 rfl rfl rfl rfl ?_
        replace h := h _ rfl
        refine zv_goto (tgt := 208) hC dX11_go_86 (by decide) ?_
        exact zv_go (k_X11_go_208 hC hR hk47 h) ⟨rfl, rfl, rfl, trivial⟩
def L_X11_go_12 (Q : Int32 → zv_St → Prop) : Nat → (Int32 → Int32 → Int32 → zv_St → Prop)
  | 0 => fun _ _ _ _ => False
  | u + 1 => fun x1 x2 x3 σ => 
    (x1 < x3 → (∀ σ_1 : zv_St, σ_1 = zv_wi σ 45 26 0 → B_X11_come (fun σ_2 => ∃ n47, L_X11_go_47 Q n47 x1 x2 σ_2) x1 σ_1)) ∧ (¬ x1 < x3 → (vp_in x3 80 ∧ ∀ σ_3 : zv_St, σ_3 = zv_wi σ 65 x3.toNatClampNeg (-1) → vp_in x3 80 ∧ ∀ σ_4 : zv_St, σ_4 = zv_wl σ_3 66 x3.toNatClampNeg 0 → (L_X11_go_12 Q u) x1 x2 (x3 + 1) σ_4))
set_option maxRecDepth 20000 in
set_option maxHeartbeats 2000000 in
theorem kL_X11_go_12 {G : zv_G} {X : zv_X} {Q : Int32 → zv_St → Prop}  (hC : zv_C G X M_X11_go) (hR : zv_R G X M_X11_go (zv_qi Q))  : ∀ (n : Nat) (x1 : Int32) (x2 : Int32) (x3 : Int32) (σ : zv_St), L_X11_go_12 Q  n x1 x2 x3 σ → zv_V G X M_X11_go 12 [(0, .ref (G.2.2.1 45)), (1, .int x1), (2, .int x2), (3, .int x3)] [] σ := by
  intro n
  induction n with
  | zero => intro x1 x2 x3 σ h; exact h.elim
  | succ n hk12 =>
    intro x1 x2 x3 σ h
    unfold L_X11_go_12 at h
    refine zv_iload_n hC dX11_go_12 rfl ?_
    refine zv_iload_n hC dX11_go_13 rfl ?_
    refine zv_icmp_gt (tgt := 37) hC dX11_go_14 (by decide) (fun c => ?_) (fun c => ?_)
    · replace h := h.1 c
      refine zv_aload_n hC dX11_go_37 rfl ?_
      refine zv_iconst (v := 0) hC dX11_go_38 (by decide) ?_
      refine zv_putI hC fp_X11_152 dX11_go_39 rfl rfl rfl rfl ?_
      replace h := h _ rfl
      refine zv_aload_n hC dX11_go_42 rfl ?_
      refine zv_iload_n hC dX11_go_43 rfl ?_
      refine zv_callVv (As := [_]) hC dX11_go_44 Y_X11_come lk_X11_155 (by decide) rfl rfl rfl (Nat.le_of_ble_eq_true rfl) (ok_X11_come G h) ?_
      intro σ_2 h
      obtain ⟨n, h⟩ := h
      exact zv_go (kL_X11_go_47 hC hR  n _ _ _ h) ⟨rfl, rfl, rfl, trivial⟩
    · replace h := h.2 c
      refine zv_aload_n hC dX11_go_17 rfl ?_
      refine zv_getR (j := 65) hC fl_X11_69 dX11_go_18 rfl rfl ?_
      refine zv_iload_n hC dX11_go_21 rfl ?_
      refine zv_iconst (v := (-1)) hC dX11_go_22 (by decide) ?_
      refine zv_iast hC dX11_go_23 rfl h.1 ?_
      replace h := h.2 _ rfl
      refine zv_aload_n hC dX11_go_24 rfl ?_
      refine zv_getR (j := 66) hC fl_X11_72 dX11_go_25 rfl rfl ?_
      refine zv_iload_n hC dX11_go_28 rfl ?_
      refine zv_lconst (v := 0) hC dX11_go_29 (by decide) ?_
      refine zv_last hC dX11_go_30 rfl h.1 ?_
      replace h := h.2 _ rfl
      refine zv_iinc (v := 1) hC dX11_go_31 rfl (by decide) (by decide) ?_
      refine zv_goto (tgt := 12) hC dX11_go_34 (by decide) ?_
      exact zv_go (hk12 _ _ _ _ h) ⟨rfl, rfl, rfl, rfl, trivial⟩
def B_X11_go (Q : Int32 → zv_St → Prop) (x1 : Int32) (x2 : Int32) (σ : zv_St) : Prop :=
  B_X11_costs (fun σ_1 => B_X11_mayAll (fun σ_2 => ∃ n12, L_X11_go_12 Q n12 x1 x2 0 σ_2) x2 x1 σ_1) σ
set_option maxRecDepth 20000 in
set_option maxHeartbeats 2000000 in
theorem k_X11_go_0 {G : zv_G} {X : zv_X} {Q : Int32 → zv_St → Prop}  (hC : zv_C G X M_X11_go) (hR : zv_R G X M_X11_go (zv_qi Q))  {x1 : Int32} {x2 : Int32} {σ : zv_St} (h : B_X11_go Q  x1 x2 σ) : zv_V G X M_X11_go 0 [(0, .ref (G.2.2.1 45)), (1, .int x1), (2, .int x2)] [] σ := by
  unfold B_X11_go at h
  refine zv_aload_n hC dX11_go_0 rfl ?_
  refine zv_callVv (As := []) hC dX11_go_1 Y_X11_costs lk_X11_134 (by decide) rfl rfl rfl (Nat.le_of_ble_eq_true rfl) (ok_X11_costs G h) ?_
  intro σ_1 h
  refine zv_aload_n hC dX11_go_4 rfl ?_
  refine zv_iload_n hC dX11_go_5 rfl ?_
  refine zv_iload_n hC dX11_go_6 rfl ?_
  refine zv_callVv (As := [_, _]) hC dX11_go_7 Y_X11_mayAll lk_X11_145 (by decide) rfl rfl rfl (Nat.le_of_ble_eq_true rfl) (ok_X11_mayAll G h) ?_
  intro σ_2 h
  refine zv_iconst (v := 0) hC dX11_go_10 (by decide) ?_
  refine zv_istore_n hC dX11_go_11 (by decide) ?_
  obtain ⟨n, h⟩ := h
  exact zv_go (kL_X11_go_12 hC hR  n _ _ _ _ h) ⟨rfl, rfl, rfl, rfl, trivial⟩
theorem ok_X11_go (G : zv_G) {Q : Int32 → zv_St → Prop} {x1 : Int32} {x2 : Int32} {σ : zv_St} (h : B_X11_go Q x1 x2 σ) : zv_OK G M_X11_go yX11_go [.ref (G.2.2.1 45), .int x1, .int x2] σ (zv_qi Q) := zv_ok G _ _ _ _ _ (by decide +kernel) rfl (Nat.le_of_ble_eq_true rfl) (fun X hC hR => zv_go (k_X11_go_0 hC hR h) ⟨rfl, rfl, rfl, trivial⟩)
-- X11_look
def B_X11_look_15 (Q : Int32 → zv_St → Prop) (σ : zv_St) : Prop :=
  Q (-2) σ
set_option maxRecDepth 20000 in
set_option maxHeartbeats 2000000 in
theorem k_X11_look_15 {G : zv_G} {X : zv_X} {Q : Int32 → zv_St → Prop}  (hC : zv_C G X M_X11_look) (hR : zv_R G X M_X11_look (zv_qi Q))   {σ : zv_St} (h : B_X11_look_15 Q   σ) : zv_V G X M_X11_look 15 [] [] σ := by
  unfold B_X11_look_15 at h
  refine zv_bipush (v := (-2)) hC dX11_look_15 (by decide) ?_
  exact (hR _ _ _).1 _ rfl dX11_look_17 ⟨_, rfl, h⟩
def B_X11_look_55 (Q : Int32 → zv_St → Prop) (y0 : Int32) (σ : zv_St) : Prop :=
  Q y0 σ
set_option maxRecDepth 20000 in
set_option maxHeartbeats 2000000 in
theorem k_X11_look_55 {G : zv_G} {X : zv_X} {Q : Int32 → zv_St → Prop}  (hC : zv_C G X M_X11_look) (hR : zv_R G X M_X11_look (zv_qi Q))  {y0 : Int32} {σ : zv_St} (h : B_X11_look_55 Q  y0 σ) : zv_V G X M_X11_look 55 [] [.int y0] σ := by
  unfold B_X11_look_55 at h
  exact (hR _ _ _).1 _ rfl dX11_look_55 ⟨_, rfl, h⟩
def B_X11_look_43 (Q : Int32 → zv_St → Prop) (x3 : Int32) (y1 : Int64) (σ : zv_St) : Prop :=
  ∀ σ_1 : zv_St, σ_1 = zv_wl σ 45 27 y1 → (x3 = 0 → (B_X11_look_55 Q 0 σ_1)) ∧ (¬ x3 = 0 → (B_X11_look_55 Q 1 σ_1))
set_option maxRecDepth 20000 in
set_option maxHeartbeats 2000000 in
theorem k_X11_look_43 {G : zv_G} {X : zv_X} {Q : Int32 → zv_St → Prop}  (hC : zv_C G X M_X11_look) (hR : zv_R G X M_X11_look (zv_qi Q))  {x3 : Int32} {y1 : Int64} {σ : zv_St} (h : B_X11_look_43 Q  x3 y1 σ) : zv_V G X M_X11_look 43 [(3, .int x3)] [.long y1, .ref (G.2.2.1 45)] σ := by
  unfold B_X11_look_43 at h
  refine zv_putL hC fp_X11_176 dX11_look_43 rfl rfl rfl rfl ?_
  replace h := h _ rfl
  refine zv_iload_n hC dX11_look_46 rfl ?_
  refine zv_if_eq (tgt := 54) hC dX11_look_47 (by decide) (fun c => ?_) (fun c => ?_)
  · replace h := h.1 c
    refine zv_iconst (v := 0) hC dX11_look_54 (by decide) ?_
    exact zv_go (k_X11_look_55 hC hR  h) trivial
  · replace h := h.2 c
    refine zv_iconst (v := 1) hC dX11_look_50 (by decide) ?_
    refine zv_goto (tgt := 55) hC dX11_look_51 (by decide) ?_
    exact zv_go (k_X11_look_55 hC hR  h) trivial
def B_X11_look (Q : Int32 → zv_St → Prop) (x1 : Int32) (x2 : Int32) (σ : zv_St) : Prop :=
  B_X11_isNode (fun r_2 σ_1 => (r_2 = 0 → (B_X11_look_15 Q σ_1)) ∧ (¬ r_2 = 0 → (B_X11_isObject (fun r_4 σ_3 => (¬ r_4 = 0 → (B_X11_go (fun r_6 σ_5 => (r_6 = 0 → (B_X11_look_43 Q r_6 (σ_5.2 45 27) σ_5)) ∧ (¬ r_6 = 0 → (vp_in x1 80 ∧ B_X11_look_43 Q r_6 (σ_5.2 66 x1.toNatClampNeg) σ_5))) x1 x2 σ_3)) ∧ (r_4 = 0 → (B_X11_look_15 Q σ_3))) x2 σ_1))) x1 σ
set_option maxRecDepth 20000 in
set_option maxHeartbeats 2000000 in
theorem k_X11_look_0 {G : zv_G} {X : zv_X} {Q : Int32 → zv_St → Prop}  (hC : zv_C G X M_X11_look) (hR : zv_R G X M_X11_look (zv_qi Q))  {x1 : Int32} {x2 : Int32} {σ : zv_St} (h : B_X11_look Q  x1 x2 σ) : zv_V G X M_X11_look 0 [(0, .ref (G.2.2.1 45)), (1, .int x1), (2, .int x2)] [] σ := by
  unfold B_X11_look at h
  refine zv_aload_n hC dX11_look_0 rfl ?_
  refine zv_iload_n hC dX11_look_1 rfl ?_
  refine zv_callVi (As := [_]) hC dX11_look_2 Y_X11_isNode lk_X11_123 (by decide) rfl rfl rfl (Nat.le_of_ble_eq_true rfl) (ok_X11_isNode G h) ?_
  intro r_2 σ_1 h
  refine zv_if_eq (tgt := 15) hC dX11_look_5 (by decide) (fun c => ?_) (fun c => ?_)
  · replace h := h.1 c
    exact zv_go (k_X11_look_15 hC hR  h) trivial
  · replace h := h.2 c
    refine zv_iload_n hC dX11_look_8 rfl ?_
    refine zv_callSi (As := [_]) hC dX11_look_9 Y_X11_isObject lk_X11_115 (by decide) rfl rfl (Nat.le_of_ble_eq_true rfl) (ok_X11_isObject G h) ?_
    intro r_4 σ_3 h
    refine zv_if_ne (tgt := 18) hC dX11_look_12 (by decide) (fun c => ?_) (fun c => ?_)
    · replace h := h.1 c
      refine zv_aload_n hC dX11_look_18 rfl ?_
      refine zv_iload_n hC dX11_look_19 rfl ?_
      refine zv_iload_n hC dX11_look_20 rfl ?_
      refine zv_callVi (As := [_, _]) hC dX11_look_21 Y_X11_go lk_X11_172 (by decide) rfl rfl rfl (Nat.le_of_ble_eq_true rfl) (ok_X11_go G h) ?_
      intro r_6 σ_5 h
      refine zv_istore_n hC dX11_look_24 (by decide) ?_
      refine zv_aload_n hC dX11_look_25 rfl ?_
      refine zv_iload_n hC dX11_look_26 rfl ?_
      refine zv_if_eq (tgt := 39) hC dX11_look_27 (by decide) (fun c => ?_) (fun c => ?_)
      · replace h := h.1 c
        refine zv_aload_n hC dX11_look_39 rfl ?_
        refine zv_getL hC fl_X11_176 dX11_look_40 rfl rfl ?_
        exact zv_go (k_X11_look_43 hC hR  h) ⟨rfl, trivial⟩
      · replace h := h.2 c
        refine zv_aload_n hC dX11_look_30 rfl ?_
        refine zv_getR (j := 66) hC fl_X11_72 dX11_look_31 rfl rfl ?_
        refine zv_iload_n hC dX11_look_34 rfl ?_
        refine zv_lald hC dX11_look_35 rfl h.1 ?_
        replace h := h.2
        refine zv_goto (tgt := 43) hC dX11_look_36 (by decide) ?_
        exact zv_go (k_X11_look_43 hC hR  h) ⟨rfl, trivial⟩
    · replace h := h.2 c
      exact zv_go (k_X11_look_15 hC hR  h) trivial
theorem ok_X11_look (G : zv_G) {Q : Int32 → zv_St → Prop} {x1 : Int32} {x2 : Int32} {σ : zv_St} (h : B_X11_look Q x1 x2 σ) : zv_OK G M_X11_look yX11_look [.ref (G.2.2.1 45), .int x1, .int x2] σ (zv_qi Q) := zv_ok G _ _ _ _ _ (by decide +kernel) rfl (Nat.le_of_ble_eq_true rfl) (fun X hC hR => zv_go (k_X11_look_0 hC hR h) ⟨rfl, rfl, rfl, trivial⟩)
-- X11_scored
def B_X11_scored (Q : Int64 → zv_St → Prop) (σ : zv_St) : Prop :=
  Q (σ.2 45 27) σ
set_option maxRecDepth 20000 in
set_option maxHeartbeats 2000000 in
theorem k_X11_scored_0 {G : zv_G} {X : zv_X} {Q : Int64 → zv_St → Prop}  (hC : zv_C G X M_X11_scored) (hR : zv_R G X M_X11_scored (zv_ql Q))   {σ : zv_St} (h : B_X11_scored Q   σ) : zv_V G X M_X11_scored 0 [(0, .ref (G.2.2.1 45))] [] σ := by
  unfold B_X11_scored at h
  refine zv_aload_n hC dX11_scored_0 rfl ?_
  refine zv_getL hC fl_X11_176 dX11_scored_1 rfl rfl ?_
  exact (hR _ _ _).2.2.1 _ rfl dX11_scored_4 ⟨_, rfl, h⟩
theorem ok_X11_scored (G : zv_G) {Q : Int64 → zv_St → Prop}  {σ : zv_St} (h : B_X11_scored Q  σ) : zv_OK G M_X11_scored yX11_scored [.ref (G.2.2.1 45)] σ (zv_ql Q) := zv_ok G _ _ _ _ _ (by decide +kernel) rfl (Nat.le_of_ble_eq_true rfl) (fun X hC hR => zv_go (k_X11_scored_0 hC hR h) ⟨rfl, trivial⟩)
-- X11_run
def B_X11_run_69 (Q : Int32 → zv_St → Prop) (kk18 : Int32 → Int32 → zv_St → Prop) (x1 : Int32) (x2 : Int32) (σ : zv_St) : Prop :=
  kk18 x1 (x2 + 1) σ
set_option maxRecDepth 20000 in
set_option maxHeartbeats 2000000 in
theorem k_X11_run_69 {G : zv_G} {X : zv_X} {Q : Int32 → zv_St → Prop} {kk18 : Int32 → Int32 → zv_St → Prop} (hC : zv_C G X M_X11_run) (hR : zv_R G X M_X11_run (zv_qi Q)) (hk18 : ∀ (x1 : Int32) (x2 : Int32) (σ : zv_St), kk18 x1 x2 σ → zv_V G X M_X11_run 18 [(0, .ref (G.2.2.1 45)), (1, .int x1), (2, .int x2)] [] σ) {x1 : Int32} {x2 : Int32} {σ : zv_St} (h : B_X11_run_69 Q kk18 x1 x2 σ) : zv_V G X M_X11_run 69 [(0, .ref (G.2.2.1 45)), (1, .int x1), (2, .int x2)] [] σ := by
  unfold B_X11_run_69 at h
  refine zv_iinc (v := 1) hC dX11_run_69 rfl (by decide) (by decide) ?_
  refine zv_goto (tgt := 18) hC dX11_run_72 (by decide) ?_
  exact zv_go (hk18 _ _ _ h) ⟨rfl, rfl, rfl, trivial⟩
def L_X11_run_18 (Q : Int32 → zv_St → Prop) : Nat → (Int32 → Int32 → zv_St → Prop)
  | 0 => fun _ _ _ => False
  | u + 1 => fun x1 x2 σ => 
    (512 ≤ x2 → (Q (σ.1 45 30) σ)) ∧ (¬ 512 ≤ x2 → (B_X11_go (fun r_2 σ_1 => (r_2 = 0 → (B_X11_run_69 Q (L_X11_run_18 Q u) x1 x2 σ_1)) ∧ (¬ r_2 = 0 → (vp_in (σ_1.1 45 30) 512 ∧ ∀ σ_3 : zv_St, σ_3 = zv_wi σ_1 70 (σ_1.1 45 30).toNatClampNeg x2 → vp_in x1 80 ∧ vp_in (σ_3.1 45 30) 512 ∧ ∀ σ_4 : zv_St, σ_4 = zv_wl σ_3 71 (σ_3.1 45 30).toNatClampNeg (σ_3.2 66 x1.toNatClampNeg) → ∀ σ_5 : zv_St, σ_5 = zv_wi σ_4 45 30 ((σ_4.1 45 30) + 1) → B_X11_run_69 Q (L_X11_run_18 Q u) x1 x2 σ_5))) x1 x2 σ))
set_option maxRecDepth 20000 in
set_option maxHeartbeats 2000000 in
theorem kL_X11_run_18 {G : zv_G} {X : zv_X} {Q : Int32 → zv_St → Prop}  (hC : zv_C G X M_X11_run) (hR : zv_R G X M_X11_run (zv_qi Q))  : ∀ (n : Nat) (x1 : Int32) (x2 : Int32) (σ : zv_St), L_X11_run_18 Q  n x1 x2 σ → zv_V G X M_X11_run 18 [(0, .ref (G.2.2.1 45)), (1, .int x1), (2, .int x2)] [] σ := by
  intro n
  induction n with
  | zero => intro x1 x2 σ h; exact h.elim
  | succ n hk18 =>
    intro x1 x2 σ h
    unfold L_X11_run_18 at h
    refine zv_iload_n hC dX11_run_18 rfl ?_
    refine zv_sipush (v := 512) hC dX11_run_19 (by decide) ?_
    refine zv_icmp_ge (tgt := 75) hC dX11_run_22 (by decide) (fun c => ?_) (fun c => ?_)
    · replace h := h.1 c
      refine zv_aload_n hC dX11_run_75 rfl ?_
      refine zv_getI hC fl_X11_180 dX11_run_76 rfl rfl ?_
      exact (hR _ _ _).1 _ rfl dX11_run_79 ⟨_, rfl, h⟩
    · replace h := h.2 c
      refine zv_aload_n hC dX11_run_25 rfl ?_
      refine zv_iload_n hC dX11_run_26 rfl ?_
      refine zv_iload_n hC dX11_run_27 rfl ?_
      refine zv_callVi (As := [_, _]) hC dX11_run_28 Y_X11_go lk_X11_172 (by decide) rfl rfl rfl (Nat.le_of_ble_eq_true rfl) (ok_X11_go G h) ?_
      intro r_2 σ_1 h
      refine zv_if_eq (tgt := 69) hC dX11_run_31 (by decide) (fun c => ?_) (fun c => ?_)
      · replace h := h.1 c
        exact zv_go (k_X11_run_69 hC hR hk18 h) ⟨rfl, rfl, rfl, trivial⟩
      · replace h := h.2 c
        refine zv_aload_n hC dX11_run_34 rfl ?_
        refine zv_getR (j := 70) hC fl_X11_85 dX11_run_35 rfl rfl ?_
        refine zv_aload_n hC dX11_run_38 rfl ?_
        refine zv_getI hC fl_X11_180 dX11_run_39 rfl rfl ?_
        refine zv_iload_n hC dX11_run_42 rfl ?_
        refine zv_iast hC dX11_run_43 rfl h.1 ?_
        replace h := h.2 _ rfl
        refine zv_aload_n hC dX11_run_44 rfl ?_
        refine zv_getR (j := 71) hC fl_X11_88 dX11_run_45 rfl rfl ?_
        refine zv_aload_n hC dX11_run_48 rfl ?_
        refine zv_getI hC fl_X11_180 dX11_run_49 rfl rfl ?_
        refine zv_aload_n hC dX11_run_52 rfl ?_
        refine zv_getR (j := 66) hC fl_X11_72 dX11_run_53 rfl rfl ?_
        refine zv_iload_n hC dX11_run_56 rfl ?_
        refine zv_lald hC dX11_run_57 rfl h.1 ?_
        replace h := h.2
        refine zv_last hC dX11_run_58 rfl h.1 ?_
        replace h := h.2 _ rfl
        refine zv_aload_n hC dX11_run_59 rfl ?_
        refine zv_dup hC dX11_run_60 rfl ?_
        refine zv_getI hC fl_X11_180 dX11_run_61 rfl rfl ?_
        refine zv_iconst (v := 1) hC dX11_run_64 (by decide) ?_
        refine zv_iadd hC dX11_run_65 ?_
        refine zv_putI hC fp_X11_180 dX11_run_66 rfl rfl rfl rfl ?_
        replace h := h _ rfl
        exact zv_go (k_X11_run_69 hC hR hk18 h) ⟨rfl, rfl, rfl, trivial⟩
def B_X11_run (Q : Int32 → zv_St → Prop) (x1 : Int32) (σ : zv_St) : Prop :=
  B_X11_isNode (fun r_2 σ_1 => (¬ r_2 = 0 → (∀ σ_3 : zv_St, σ_3 = zv_wi σ_1 45 30 0 → ∃ n18, L_X11_run_18 Q n18 x1 0 σ_3)) ∧ (r_2 = 0 → (Q (-2) σ_1))) x1 σ
set_option maxRecDepth 20000 in
set_option maxHeartbeats 2000000 in
theorem k_X11_run_0 {G : zv_G} {X : zv_X} {Q : Int32 → zv_St → Prop}  (hC : zv_C G X M_X11_run) (hR : zv_R G X M_X11_run (zv_qi Q))  {x1 : Int32} {σ : zv_St} (h : B_X11_run Q  x1 σ) : zv_V G X M_X11_run 0 [(0, .ref (G.2.2.1 45)), (1, .int x1)] [] σ := by
  unfold B_X11_run at h
  refine zv_aload_n hC dX11_run_0 rfl ?_
  refine zv_iload_n hC dX11_run_1 rfl ?_
  refine zv_callVi (As := [_]) hC dX11_run_2 Y_X11_isNode lk_X11_123 (by decide) rfl rfl rfl (Nat.le_of_ble_eq_true rfl) (ok_X11_isNode G h) ?_
  intro r_2 σ_1 h
  refine zv_if_ne (tgt := 11) hC dX11_run_5 (by decide) (fun c => ?_) (fun c => ?_)
  · replace h := h.1 c
    refine zv_aload_n hC dX11_run_11 rfl ?_
    refine zv_iconst (v := 0) hC dX11_run_12 (by decide) ?_
    refine zv_putI hC fp_X11_180 dX11_run_13 rfl rfl rfl rfl ?_
    replace h := h _ rfl
    refine zv_iconst (v := 0) hC dX11_run_16 (by decide) ?_
    refine zv_istore_n hC dX11_run_17 (by decide) ?_
    obtain ⟨n, h⟩ := h
    exact zv_go (kL_X11_run_18 hC hR  n _ _ _ h) ⟨rfl, rfl, rfl, trivial⟩
  · replace h := h.2 c
    refine zv_bipush (v := (-2)) hC dX11_run_8 (by decide) ?_
    exact (hR _ _ _).1 _ rfl dX11_run_10 ⟨_, rfl, h⟩
theorem ok_X11_run (G : zv_G) {Q : Int32 → zv_St → Prop} {x1 : Int32} {σ : zv_St} (h : B_X11_run Q x1 σ) : zv_OK G M_X11_run yX11_run [.ref (G.2.2.1 45), .int x1] σ (zv_qi Q) := zv_ok G _ _ _ _ _ (by decide +kernel) rfl (Nat.le_of_ble_eq_true rfl) (fun X hC hR => zv_go (k_X11_run_0 hC hR h) ⟨rfl, rfl, trivial⟩)
-- X11_found
def B_X11_found_24 (Q : Int32 → zv_St → Prop) (y0 : Int32) (σ : zv_St) : Prop :=
  Q y0 σ
set_option maxRecDepth 20000 in
set_option maxHeartbeats 2000000 in
theorem k_X11_found_24 {G : zv_G} {X : zv_X} {Q : Int32 → zv_St → Prop}  (hC : zv_C G X M_X11_found) (hR : zv_R G X M_X11_found (zv_qi Q))  {y0 : Int32} {σ : zv_St} (h : B_X11_found_24 Q  y0 σ) : zv_V G X M_X11_found 24 [] [.int y0] σ := by
  unfold B_X11_found_24 at h
  exact (hR _ _ _).1 _ rfl dX11_found_24 ⟨_, rfl, h⟩
def B_X11_found (Q : Int32 → zv_St → Prop) (x1 : Int32) (σ : zv_St) : Prop :=
  B_X11_in (fun r_2 σ_1 => (r_2 = 0 → (B_X11_found_24 Q (-1) σ_1)) ∧ (¬ r_2 = 0 → (vp_in x1 512 ∧ B_X11_found_24 Q (σ_1.1 70 x1.toNatClampNeg) σ_1))) x1 0 ((σ.1 45 30) - 1) σ
set_option maxRecDepth 20000 in
set_option maxHeartbeats 2000000 in
theorem k_X11_found_0 {G : zv_G} {X : zv_X} {Q : Int32 → zv_St → Prop}  (hC : zv_C G X M_X11_found) (hR : zv_R G X M_X11_found (zv_qi Q))  {x1 : Int32} {σ : zv_St} (h : B_X11_found Q  x1 σ) : zv_V G X M_X11_found 0 [(0, .ref (G.2.2.1 45)), (1, .int x1)] [] σ := by
  unfold B_X11_found at h
  refine zv_iload_n hC dX11_found_0 rfl ?_
  refine zv_iconst (v := 0) hC dX11_found_1 (by decide) ?_
  refine zv_aload_n hC dX11_found_2 rfl ?_
  refine zv_getI hC fl_X11_180 dX11_found_3 rfl rfl ?_
  refine zv_iconst (v := 1) hC dX11_found_6 (by decide) ?_
  refine zv_isub hC dX11_found_7 ?_
  refine zv_callSi (As := [_, _, _]) hC dX11_found_8 Y_X11_in lk_X11_103 (by decide) rfl rfl (Nat.le_of_ble_eq_true rfl) (ok_X11_in G h) ?_
  intro r_2 σ_1 h
  refine zv_if_eq (tgt := 23) hC dX11_found_11 (by decide) (fun c => ?_) (fun c => ?_)
  · replace h := h.1 c
    refine zv_iconst (v := (-1)) hC dX11_found_23 (by decide) ?_
    exact zv_go (k_X11_found_24 hC hR  h) trivial
  · replace h := h.2 c
    refine zv_aload_n hC dX11_found_14 rfl ?_
    refine zv_getR (j := 70) hC fl_X11_85 dX11_found_15 rfl rfl ?_
    refine zv_iload_n hC dX11_found_18 rfl ?_
    refine zv_iald hC dX11_found_19 rfl h.1 ?_
    replace h := h.2
    refine zv_goto (tgt := 24) hC dX11_found_20 (by decide) ?_
    exact zv_go (k_X11_found_24 hC hR  h) trivial
theorem ok_X11_found (G : zv_G) {Q : Int32 → zv_St → Prop} {x1 : Int32} {σ : zv_St} (h : B_X11_found Q x1 σ) : zv_OK G M_X11_found yX11_found [.ref (G.2.2.1 45), .int x1] σ (zv_qi Q) := zv_ok G _ _ _ _ _ (by decide +kernel) rfl (Nat.le_of_ble_eq_true rfl) (fun X hC hR => zv_go (k_X11_found_0 hC hR h) ⟨rfl, rfl, trivial⟩)
-- X11_score
def B_X11_score_24 (Q : Int64 → zv_St → Prop) (y0 : Int64) (σ : zv_St) : Prop :=
  Q y0 σ
set_option maxRecDepth 20000 in
set_option maxHeartbeats 2000000 in
theorem k_X11_score_24 {G : zv_G} {X : zv_X} {Q : Int64 → zv_St → Prop}  (hC : zv_C G X M_X11_score) (hR : zv_R G X M_X11_score (zv_ql Q))  {y0 : Int64} {σ : zv_St} (h : B_X11_score_24 Q  y0 σ) : zv_V G X M_X11_score 24 [] [.long y0] σ := by
  unfold B_X11_score_24 at h
  exact (hR _ _ _).2.2.1 _ rfl dX11_score_24 ⟨_, rfl, h⟩
def B_X11_score (Q : Int64 → zv_St → Prop) (x1 : Int32) (σ : zv_St) : Prop :=
  B_X11_in (fun r_2 σ_1 => (r_2 = 0 → (B_X11_score_24 Q 0 σ_1)) ∧ (¬ r_2 = 0 → (vp_in x1 512 ∧ B_X11_score_24 Q (σ_1.2 71 x1.toNatClampNeg) σ_1))) x1 0 ((σ.1 45 30) - 1) σ
set_option maxRecDepth 20000 in
set_option maxHeartbeats 2000000 in
theorem k_X11_score_0 {G : zv_G} {X : zv_X} {Q : Int64 → zv_St → Prop}  (hC : zv_C G X M_X11_score) (hR : zv_R G X M_X11_score (zv_ql Q))  {x1 : Int32} {σ : zv_St} (h : B_X11_score Q  x1 σ) : zv_V G X M_X11_score 0 [(0, .ref (G.2.2.1 45)), (1, .int x1)] [] σ := by
  unfold B_X11_score at h
  refine zv_iload_n hC dX11_score_0 rfl ?_
  refine zv_iconst (v := 0) hC dX11_score_1 (by decide) ?_
  refine zv_aload_n hC dX11_score_2 rfl ?_
  refine zv_getI hC fl_X11_180 dX11_score_3 rfl rfl ?_
  refine zv_iconst (v := 1) hC dX11_score_6 (by decide) ?_
  refine zv_isub hC dX11_score_7 ?_
  refine zv_callSi (As := [_, _, _]) hC dX11_score_8 Y_X11_in lk_X11_103 (by decide) rfl rfl (Nat.le_of_ble_eq_true rfl) (ok_X11_in G h) ?_
  intro r_2 σ_1 h
  refine zv_if_eq (tgt := 23) hC dX11_score_11 (by decide) (fun c => ?_) (fun c => ?_)
  · replace h := h.1 c
    refine zv_lconst (v := 0) hC dX11_score_23 (by decide) ?_
    exact zv_go (k_X11_score_24 hC hR  h) trivial
  · replace h := h.2 c
    refine zv_aload_n hC dX11_score_14 rfl ?_
    refine zv_getR (j := 71) hC fl_X11_88 dX11_score_15 rfl rfl ?_
    refine zv_iload_n hC dX11_score_18 rfl ?_
    refine zv_lald hC dX11_score_19 rfl h.1 ?_
    replace h := h.2
    refine zv_goto (tgt := 24) hC dX11_score_20 (by decide) ?_
    exact zv_go (k_X11_score_24 hC hR  h) trivial
theorem ok_X11_score (G : zv_G) {Q : Int64 → zv_St → Prop} {x1 : Int32} {σ : zv_St} (h : B_X11_score Q x1 σ) : zv_OK G M_X11_score yX11_score [.ref (G.2.2.1 45), .int x1] σ (zv_ql Q) := zv_ok G _ _ _ _ _ (by decide +kernel) rfl (Nat.le_of_ble_eq_true rfl) (fun X hC hR => zv_go (k_X11_score_0 hC hR h) ⟨rfl, rfl, trivial⟩)
-- X11_keep
def B_X11_keep_19 (Q : Int32 → zv_St → Prop) (σ : zv_St) : Prop :=
  Q (-2) σ
set_option maxRecDepth 20000 in
set_option maxHeartbeats 2000000 in
theorem k_X11_keep_19 {G : zv_G} {X : zv_X} {Q : Int32 → zv_St → Prop}  (hC : zv_C G X M_X11_keep) (hR : zv_R G X M_X11_keep (zv_qi Q))   {σ : zv_St} (h : B_X11_keep_19 Q   σ) : zv_V G X M_X11_keep 19 [] [] σ := by
  unfold B_X11_keep_19 at h
  refine zv_bipush (v := (-2)) hC dX11_keep_19 (by decide) ?_
  exact (hR _ _ _).1 _ rfl dX11_keep_21 ⟨_, rfl, h⟩
def B_X11_keep_84 (Q : Int32 → zv_St → Prop) (kk39 : Int32 → Int32 → Int32 → zv_St → Prop) (x1 : Int32) (x3 : Int32) (y0 : Int32) (y1 : Int32) (σ : zv_St) : Prop :=
  kk39 x1 (y0 + y1) (x3 + 1) σ
set_option maxRecDepth 20000 in
set_option maxHeartbeats 2000000 in
theorem k_X11_keep_84 {G : zv_G} {X : zv_X} {Q : Int32 → zv_St → Prop} {kk39 : Int32 → Int32 → Int32 → zv_St → Prop} (hC : zv_C G X M_X11_keep) (hR : zv_R G X M_X11_keep (zv_qi Q)) (hk39 : ∀ (x1 : Int32) (x2 : Int32) (x3 : Int32) (σ : zv_St), kk39 x1 x2 x3 σ → zv_V G X M_X11_keep 39 [(0, .ref (G.2.2.1 45)), (1, .int x1), (2, .int x2), (3, .int x3)] [] σ) {x1 : Int32} {x3 : Int32} {y0 : Int32} {y1 : Int32} {σ : zv_St} (h : B_X11_keep_84 Q kk39 x1 x3 y0 y1 σ) : zv_V G X M_X11_keep 84 [(0, .ref (G.2.2.1 45)), (1, .int x1), (3, .int x3)] [.int y1, .int y0] σ := by
  unfold B_X11_keep_84 at h
  refine zv_iadd hC dX11_keep_84 ?_
  refine zv_istore_n hC dX11_keep_85 (by decide) ?_
  refine zv_iinc (v := 1) hC dX11_keep_86 rfl (by decide) (by decide) ?_
  refine zv_goto (tgt := 39) hC dX11_keep_89 (by decide) ?_
  exact zv_go (hk39 _ _ _ _ h) ⟨rfl, rfl, rfl, rfl, trivial⟩
def L_X11_keep_39 (Q : Int32 → zv_St → Prop) : Nat → (Int32 → Int32 → Int32 → zv_St → Prop)
  | 0 => fun _ _ _ _ => False
  | u + 1 => fun x1 x2 x3 σ => 
    (512 ≤ x3 → (vp_in x1 80 ∧ ∀ σ_1 : zv_St, σ_1 = zv_wi σ 55 x1.toNatClampNeg x2 → Q x2 σ_1)) ∧ (¬ 512 ≤ x3 → (vp_in x1 80 ∧ B_X11_go (fun r_3 σ_2 => vp_in ((512 * x1) + x3) 40960 ∧ ∀ σ_4 : zv_St, σ_4 = zv_wi σ_2 56 ((512 * x1) + x3).toNatClampNeg (vp_nar .boolean r_3) → (r_3 = 0 → (B_X11_keep_84 Q (L_X11_keep_39 Q u) x1 x3 x2 0 σ_4)) ∧ (¬ r_3 = 0 → (B_X11_keep_84 Q (L_X11_keep_39 Q u) x1 x3 x2 1 σ_4))) (σ.1 49 x1.toNatClampNeg) x3 σ))
set_option maxRecDepth 20000 in
set_option maxHeartbeats 2000000 in
theorem kL_X11_keep_39 {G : zv_G} {X : zv_X} {Q : Int32 → zv_St → Prop}  (hC : zv_C G X M_X11_keep) (hR : zv_R G X M_X11_keep (zv_qi Q))  : ∀ (n : Nat) (x1 : Int32) (x2 : Int32) (x3 : Int32) (σ : zv_St), L_X11_keep_39 Q  n x1 x2 x3 σ → zv_V G X M_X11_keep 39 [(0, .ref (G.2.2.1 45)), (1, .int x1), (2, .int x2), (3, .int x3)] [] σ := by
  intro n
  induction n with
  | zero => intro x1 x2 x3 σ h; exact h.elim
  | succ n hk39 =>
    intro x1 x2 x3 σ h
    unfold L_X11_keep_39 at h
    refine zv_iload_n hC dX11_keep_39 rfl ?_
    refine zv_sipush (v := 512) hC dX11_keep_40 (by decide) ?_
    refine zv_icmp_ge (tgt := 92) hC dX11_keep_43 (by decide) (fun c => ?_) (fun c => ?_)
    · replace h := h.1 c
      refine zv_aload_n hC dX11_keep_92 rfl ?_
      refine zv_getR (j := 55) hC fl_X11_37 dX11_keep_93 rfl rfl ?_
      refine zv_iload_n hC dX11_keep_96 rfl ?_
      refine zv_iload_n hC dX11_keep_97 rfl ?_
      refine zv_iast hC dX11_keep_98 rfl h.1 ?_
      replace h := h.2 _ rfl
      refine zv_iload_n hC dX11_keep_99 rfl ?_
      exact (hR _ _ _).1 _ rfl dX11_keep_100 ⟨_, rfl, h⟩
    · replace h := h.2 c
      refine zv_aload_n hC dX11_keep_46 rfl ?_
      refine zv_aload_n hC dX11_keep_47 rfl ?_
      refine zv_getR (j := 49) hC fl_X11_19 dX11_keep_48 rfl rfl ?_
      refine zv_iload_n hC dX11_keep_51 rfl ?_
      refine zv_iald hC dX11_keep_52 rfl h.1 ?_
      replace h := h.2
      refine zv_iload_n hC dX11_keep_53 rfl ?_
      refine zv_callVi (As := [_, _]) hC dX11_keep_54 Y_X11_go lk_X11_172 (by decide) rfl rfl rfl (Nat.le_of_ble_eq_true rfl) (ok_X11_go G h) ?_
      intro r_3 σ_2 h
      refine zv_istore hC dX11_keep_57 (by decide) ?_
      refine zv_aload_n hC dX11_keep_59 rfl ?_
      refine zv_getR (j := 56) hC fl_X11_41 dX11_keep_60 rfl rfl ?_
      refine zv_sipush (v := 512) hC dX11_keep_63 (by decide) ?_
      refine zv_iload_n hC dX11_keep_66 rfl ?_
      refine zv_imul hC dX11_keep_67 ?_
      refine zv_iload_n hC dX11_keep_68 rfl ?_
      refine zv_iadd hC dX11_keep_69 ?_
      refine zv_iload hC dX11_keep_70 rfl ?_
      refine zv_zast hC dX11_keep_72 rfl h.1 ?_
      replace h := h.2 _ rfl
      refine zv_iload_n hC dX11_keep_73 rfl ?_
      refine zv_iload hC dX11_keep_74 rfl ?_
      refine zv_if_eq (tgt := 83) hC dX11_keep_76 (by decide) (fun c => ?_) (fun c => ?_)
      · replace h := h.1 c
        refine zv_iconst (v := 0) hC dX11_keep_83 (by decide) ?_
        exact zv_go (k_X11_keep_84 hC hR hk39 h) ⟨rfl, rfl, rfl, trivial⟩
      · replace h := h.2 c
        refine zv_iconst (v := 1) hC dX11_keep_79 (by decide) ?_
        refine zv_goto (tgt := 84) hC dX11_keep_80 (by decide) ?_
        exact zv_go (k_X11_keep_84 hC hR hk39 h) ⟨rfl, rfl, rfl, trivial⟩
def B_X11_keep (Q : Int32 → zv_St → Prop) (x1 : Int32) (σ : zv_St) : Prop :=
  B_X11_isNode (fun r_2 σ_1 => (r_2 = 0 → (B_X11_keep_19 Q σ_1)) ∧ (¬ r_2 = 0 → (vp_in x1 80 ∧ ((σ_1.1 48 x1.toNatClampNeg) = 6 → (vp_in x1 80 ∧ ((σ_1.1 55 x1.toNatClampNeg) = (-1) → (∃ n39, L_X11_keep_39 Q n39 x1 0 0 σ_1)) ∧ (¬ (σ_1.1 55 x1.toNatClampNeg) = (-1) → (Q (-4) σ_1)))) ∧ (¬ (σ_1.1 48 x1.toNatClampNeg) = 6 → (B_X11_keep_19 Q σ_1))))) x1 σ
set_option maxRecDepth 20000 in
set_option maxHeartbeats 2000000 in
theorem k_X11_keep_0 {G : zv_G} {X : zv_X} {Q : Int32 → zv_St → Prop}  (hC : zv_C G X M_X11_keep) (hR : zv_R G X M_X11_keep (zv_qi Q))  {x1 : Int32} {σ : zv_St} (h : B_X11_keep Q  x1 σ) : zv_V G X M_X11_keep 0 [(0, .ref (G.2.2.1 45)), (1, .int x1)] [] σ := by
  unfold B_X11_keep at h
  refine zv_aload_n hC dX11_keep_0 rfl ?_
  refine zv_iload_n hC dX11_keep_1 rfl ?_
  refine zv_callVi (As := [_]) hC dX11_keep_2 Y_X11_isNode lk_X11_123 (by decide) rfl rfl rfl (Nat.le_of_ble_eq_true rfl) (ok_X11_isNode G h) ?_
  intro r_2 σ_1 h
  refine zv_if_eq (tgt := 19) hC dX11_keep_5 (by decide) (fun c => ?_) (fun c => ?_)
  · replace h := h.1 c
    exact zv_go (k_X11_keep_19 hC hR  h) trivial
  · replace h := h.2 c
    refine zv_aload_n hC dX11_keep_8 rfl ?_
    refine zv_getR (j := 48) hC fl_X11_16 dX11_keep_9 rfl rfl ?_
    refine zv_iload_n hC dX11_keep_12 rfl ?_
    refine zv_iald hC dX11_keep_13 rfl h.1 ?_
    replace h := h.2
    refine zv_bipush (v := 6) hC dX11_keep_14 (by decide) ?_
    refine zv_icmp_eq (tgt := 22) hC dX11_keep_16 (by decide) (fun c => ?_) (fun c => ?_)
    · replace h := h.1 c
      refine zv_aload_n hC dX11_keep_22 rfl ?_
      refine zv_getR (j := 55) hC fl_X11_37 dX11_keep_23 rfl rfl ?_
      refine zv_iload_n hC dX11_keep_26 rfl ?_
      refine zv_iald hC dX11_keep_27 rfl h.1 ?_
      replace h := h.2
      refine zv_iconst (v := (-1)) hC dX11_keep_28 (by decide) ?_
      refine zv_icmp_eq (tgt := 35) hC dX11_keep_29 (by decide) (fun c => ?_) (fun c => ?_)
      · replace h := h.1 c
        refine zv_iconst (v := 0) hC dX11_keep_35 (by decide) ?_
        refine zv_istore_n hC dX11_keep_36 (by decide) ?_
        refine zv_iconst (v := 0) hC dX11_keep_37 (by decide) ?_
        refine zv_istore_n hC dX11_keep_38 (by decide) ?_
        obtain ⟨n, h⟩ := h
        exact zv_go (kL_X11_keep_39 hC hR  n _ _ _ _ h) ⟨rfl, rfl, rfl, rfl, trivial⟩
      · replace h := h.2 c
        refine zv_bipush (v := (-4)) hC dX11_keep_32 (by decide) ?_
        exact (hR _ _ _).1 _ rfl dX11_keep_34 ⟨_, rfl, h⟩
    · replace h := h.2 c
      exact zv_go (k_X11_keep_19 hC hR  h) trivial
theorem ok_X11_keep (G : zv_G) {Q : Int32 → zv_St → Prop} {x1 : Int32} {σ : zv_St} (h : B_X11_keep Q x1 σ) : zv_OK G M_X11_keep yX11_keep [.ref (G.2.2.1 45), .int x1] σ (zv_qi Q) := zv_ok G _ _ _ _ _ (by decide +kernel) rfl (Nat.le_of_ble_eq_true rfl) (fun X hC hR => zv_go (k_X11_keep_0 hC hR h) ⟨rfl, rfl, trivial⟩)
-- X11_open
def B_X11_open_35 (Q : Int32 → zv_St → Prop) (x1 : Int32) (x2 : Int32) (σ : zv_St) : Prop :=
  (¬ x2 = 8 → (vp_in x2 8 ∧ ∀ σ_1 : zv_St, σ_1 = zv_wi σ 57 x2.toNatClampNeg x1 → vp_in x2 8 ∧ ∀ σ_2 : zv_St, σ_2 = zv_wi σ_1 58 x2.toNatClampNeg (-1) → vp_in x2 8 ∧ ∀ σ_3 : zv_St, σ_3 = zv_wi σ_2 59 x2.toNatClampNeg (vp_nar .boolean 0) → vp_in x2 8 ∧ ∀ σ_4 : zv_St, σ_4 = zv_wi σ_3 60 x2.toNatClampNeg 0 → Q x2 σ_4)) ∧ (x2 = 8 → (Q (-3) σ))
set_option maxRecDepth 20000 in
set_option maxHeartbeats 2000000 in
theorem k_X11_open_35 {G : zv_G} {X : zv_X} {Q : Int32 → zv_St → Prop}  (hC : zv_C G X M_X11_open) (hR : zv_R G X M_X11_open (zv_qi Q))  {x1 : Int32} {x2 : Int32} {σ : zv_St} (h : B_X11_open_35 Q  x1 x2 σ) : zv_V G X M_X11_open 35 [(0, .ref (G.2.2.1 45)), (1, .int x1), (2, .int x2)] [] σ := by
  unfold B_X11_open_35 at h
  refine zv_iload_n hC dX11_open_35 rfl ?_
  refine zv_bipush (v := 8) hC dX11_open_36 (by decide) ?_
  refine zv_icmp_ne (tgt := 44) hC dX11_open_38 (by decide) (fun c => ?_) (fun c => ?_)
  · replace h := h.1 c
    refine zv_aload_n hC dX11_open_44 rfl ?_
    refine zv_getR (j := 57) hC fl_X11_45 dX11_open_45 rfl rfl ?_
    refine zv_iload_n hC dX11_open_48 rfl ?_
    refine zv_iload_n hC dX11_open_49 rfl ?_
    refine zv_iast hC dX11_open_50 rfl h.1 ?_
    replace h := h.2 _ rfl
    refine zv_aload_n hC dX11_open_51 rfl ?_
    refine zv_getR (j := 58) hC fl_X11_48 dX11_open_52 rfl rfl ?_
    refine zv_iload_n hC dX11_open_55 rfl ?_
    refine zv_iconst (v := (-1)) hC dX11_open_56 (by decide) ?_
    refine zv_iast hC dX11_open_57 rfl h.1 ?_
    replace h := h.2 _ rfl
    refine zv_aload_n hC dX11_open_58 rfl ?_
    refine zv_getR (j := 59) hC fl_X11_51 dX11_open_59 rfl rfl ?_
    refine zv_iload_n hC dX11_open_62 rfl ?_
    refine zv_iconst (v := 0) hC dX11_open_63 (by decide) ?_
    refine zv_zast hC dX11_open_64 rfl h.1 ?_
    replace h := h.2 _ rfl
    refine zv_aload_n hC dX11_open_65 rfl ?_
    refine zv_getR (j := 60) hC fl_X11_54 dX11_open_66 rfl rfl ?_
    refine zv_iload_n hC dX11_open_69 rfl ?_
    refine zv_iconst (v := 0) hC dX11_open_70 (by decide) ?_
    refine zv_iast hC dX11_open_71 rfl h.1 ?_
    replace h := h.2 _ rfl
    refine zv_iload_n hC dX11_open_72 rfl ?_
    exact (hR _ _ _).1 _ rfl dX11_open_73 ⟨_, rfl, h⟩
  · replace h := h.2 c
    refine zv_bipush (v := (-3)) hC dX11_open_41 (by decide) ?_
    exact (hR _ _ _).1 _ rfl dX11_open_43 ⟨_, rfl, h⟩
def L_X11_open_13 (Q : Int32 → zv_St → Prop) : Nat → (Int32 → Int32 → zv_St → Prop)
  | 0 => fun _ _ _ => False
  | u + 1 => fun x1 x2 σ => 
    (8 ≤ x2 → (B_X11_open_35 Q x1 x2 σ)) ∧ (¬ 8 ≤ x2 → (vp_in x2 8 ∧ ((σ.1 57 x2.toNatClampNeg) = (-1) → (B_X11_open_35 Q x1 x2 σ)) ∧ (¬ (σ.1 57 x2.toNatClampNeg) = (-1) → ((L_X11_open_13 Q u) x1 (x2 + 1) σ))))
set_option maxRecDepth 20000 in
set_option maxHeartbeats 2000000 in
theorem kL_X11_open_13 {G : zv_G} {X : zv_X} {Q : Int32 → zv_St → Prop}  (hC : zv_C G X M_X11_open) (hR : zv_R G X M_X11_open (zv_qi Q))  : ∀ (n : Nat) (x1 : Int32) (x2 : Int32) (σ : zv_St), L_X11_open_13 Q  n x1 x2 σ → zv_V G X M_X11_open 13 [(0, .ref (G.2.2.1 45)), (1, .int x1), (2, .int x2)] [] σ := by
  intro n
  induction n with
  | zero => intro x1 x2 σ h; exact h.elim
  | succ n hk13 =>
    intro x1 x2 σ h
    unfold L_X11_open_13 at h
    refine zv_iload_n hC dX11_open_13 rfl ?_
    refine zv_bipush (v := 8) hC dX11_open_14 (by decide) ?_
    refine zv_icmp_ge (tgt := 35) hC dX11_open_16 (by decide) (fun c => ?_) (fun c => ?_)
    · replace h := h.1 c
      exact zv_go (k_X11_open_35 hC hR  h) ⟨rfl, rfl, rfl, trivial⟩
    · replace h := h.2 c
      refine zv_aload_n hC dX11_open_19 rfl ?_
      refine zv_getR (j := 57) hC fl_X11_45 dX11_open_20 rfl rfl ?_
      refine zv_iload_n hC dX11_open_23 rfl ?_
      refine zv_iald hC dX11_open_24 rfl h.1 ?_
      replace h := h.2
      refine zv_iconst (v := (-1)) hC dX11_open_25 (by decide) ?_
      refine zv_icmp_eq (tgt := 35) hC dX11_open_26 (by decide) (fun c => ?_) (fun c => ?_)
      · replace h := h.1 c
        exact zv_go (k_X11_open_35 hC hR  h) ⟨rfl, rfl, rfl, trivial⟩
      · replace h := h.2 c
        refine zv_iinc (v := 1) hC dX11_open_29 rfl (by decide) (by decide) ?_
        refine zv_goto (tgt := 13) hC dX11_open_32 (by decide) ?_
        exact zv_go (hk13 _ _ _ h) ⟨rfl, rfl, rfl, trivial⟩
def B_X11_open (Q : Int32 → zv_St → Prop) (x1 : Int32) (σ : zv_St) : Prop :=
  B_X11_isNode (fun r_2 σ_1 => (¬ r_2 = 0 → (∃ n13, L_X11_open_13 Q n13 x1 0 σ_1)) ∧ (r_2 = 0 → (Q (-2) σ_1))) x1 σ
set_option maxRecDepth 20000 in
set_option maxHeartbeats 2000000 in
theorem k_X11_open_0 {G : zv_G} {X : zv_X} {Q : Int32 → zv_St → Prop}  (hC : zv_C G X M_X11_open) (hR : zv_R G X M_X11_open (zv_qi Q))  {x1 : Int32} {σ : zv_St} (h : B_X11_open Q  x1 σ) : zv_V G X M_X11_open 0 [(0, .ref (G.2.2.1 45)), (1, .int x1)] [] σ := by
  unfold B_X11_open at h
  refine zv_aload_n hC dX11_open_0 rfl ?_
  refine zv_iload_n hC dX11_open_1 rfl ?_
  refine zv_callVi (As := [_]) hC dX11_open_2 Y_X11_isNode lk_X11_123 (by decide) rfl rfl rfl (Nat.le_of_ble_eq_true rfl) (ok_X11_isNode G h) ?_
  intro r_2 σ_1 h
  refine zv_if_ne (tgt := 11) hC dX11_open_5 (by decide) (fun c => ?_) (fun c => ?_)
  · replace h := h.1 c
    refine zv_iconst (v := 0) hC dX11_open_11 (by decide) ?_
    refine zv_istore_n hC dX11_open_12 (by decide) ?_
    obtain ⟨n, h⟩ := h
    exact zv_go (kL_X11_open_13 hC hR  n _ _ _ h) ⟨rfl, rfl, rfl, trivial⟩
  · replace h := h.2 c
    refine zv_bipush (v := (-2)) hC dX11_open_8 (by decide) ?_
    exact (hR _ _ _).1 _ rfl dX11_open_10 ⟨_, rfl, h⟩
theorem ok_X11_open (G : zv_G) {Q : Int32 → zv_St → Prop} {x1 : Int32} {σ : zv_St} (h : B_X11_open Q x1 σ) : zv_OK G M_X11_open yX11_open [.ref (G.2.2.1 45), .int x1] σ (zv_qi Q) := zv_ok G _ _ _ _ _ (by decide +kernel) rfl (Nat.le_of_ble_eq_true rfl) (fun X hC hR => zv_go (k_X11_open_0 hC hR h) ⟨rfl, rfl, trivial⟩)
-- X11_isOpen
def B_X11_isOpen_25 (Q : Int32 → zv_St → Prop) (y0 : Int32) (σ : zv_St) : Prop :=
  narrow .boolean (.int y0) = .int y0 ∧ Q y0 σ
set_option maxRecDepth 20000 in
set_option maxHeartbeats 2000000 in
theorem k_X11_isOpen_25 {G : zv_G} {X : zv_X} {Q : Int32 → zv_St → Prop}  (hC : zv_C G X M_X11_isOpen) (hR : zv_R G X M_X11_isOpen (zv_qi Q))  {y0 : Int32} {σ : zv_St} (h : B_X11_isOpen_25 Q  y0 σ) : zv_V G X M_X11_isOpen 25 [] [.int y0] σ := by
  unfold B_X11_isOpen_25 at h
  exact (hR _ _ _).2.1 _ rfl h.1 dX11_isOpen_25 ⟨_, rfl, h.2⟩
def B_X11_isOpen_24 (Q : Int32 → zv_St → Prop) (σ : zv_St) : Prop :=
  B_X11_isOpen_25 Q 0 σ
set_option maxRecDepth 20000 in
set_option maxHeartbeats 2000000 in
theorem k_X11_isOpen_24 {G : zv_G} {X : zv_X} {Q : Int32 → zv_St → Prop}  (hC : zv_C G X M_X11_isOpen) (hR : zv_R G X M_X11_isOpen (zv_qi Q))   {σ : zv_St} (h : B_X11_isOpen_24 Q   σ) : zv_V G X M_X11_isOpen 24 [] [] σ := by
  unfold B_X11_isOpen_24 at h
  refine zv_iconst (v := 0) hC dX11_isOpen_24 (by decide) ?_
  exact zv_go (k_X11_isOpen_25 hC hR  h) trivial
def B_X11_isOpen (Q : Int32 → zv_St → Prop) (x1 : Int32) (σ : zv_St) : Prop :=
  B_X11_in (fun r_2 σ_1 => (r_2 = 0 → (B_X11_isOpen_24 Q σ_1)) ∧ (¬ r_2 = 0 → (vp_in x1 8 ∧ ((σ_1.1 57 x1.toNatClampNeg) = (-1) → (B_X11_isOpen_24 Q σ_1)) ∧ (¬ (σ_1.1 57 x1.toNatClampNeg) = (-1) → (B_X11_isOpen_25 Q 1 σ_1))))) x1 0 7 σ
set_option maxRecDepth 20000 in
set_option maxHeartbeats 2000000 in
theorem k_X11_isOpen_0 {G : zv_G} {X : zv_X} {Q : Int32 → zv_St → Prop}  (hC : zv_C G X M_X11_isOpen) (hR : zv_R G X M_X11_isOpen (zv_qi Q))  {x1 : Int32} {σ : zv_St} (h : B_X11_isOpen Q  x1 σ) : zv_V G X M_X11_isOpen 0 [(0, .ref (G.2.2.1 45)), (1, .int x1)] [] σ := by
  unfold B_X11_isOpen at h
  refine zv_iload_n hC dX11_isOpen_0 rfl ?_
  refine zv_iconst (v := 0) hC dX11_isOpen_1 (by decide) ?_
  refine zv_bipush (v := 7) hC dX11_isOpen_2 (by decide) ?_
  refine zv_callSi (As := [_, _, _]) hC dX11_isOpen_4 Y_X11_in lk_X11_103 (by decide) rfl rfl (Nat.le_of_ble_eq_true rfl) (ok_X11_in G h) ?_
  intro r_2 σ_1 h
  refine zv_if_eq (tgt := 24) hC dX11_isOpen_7 (by decide) (fun c => ?_) (fun c => ?_)
  · replace h := h.1 c
    exact zv_go (k_X11_isOpen_24 hC hR  h) trivial
  · replace h := h.2 c
    refine zv_aload_n hC dX11_isOpen_10 rfl ?_
    refine zv_getR (j := 57) hC fl_X11_45 dX11_isOpen_11 rfl rfl ?_
    refine zv_iload_n hC dX11_isOpen_14 rfl ?_
    refine zv_iald hC dX11_isOpen_15 rfl h.1 ?_
    replace h := h.2
    refine zv_iconst (v := (-1)) hC dX11_isOpen_16 (by decide) ?_
    refine zv_icmp_eq (tgt := 24) hC dX11_isOpen_17 (by decide) (fun c => ?_) (fun c => ?_)
    · replace h := h.1 c
      exact zv_go (k_X11_isOpen_24 hC hR  h) trivial
    · replace h := h.2 c
      refine zv_iconst (v := 1) hC dX11_isOpen_20 (by decide) ?_
      refine zv_goto (tgt := 25) hC dX11_isOpen_21 (by decide) ?_
      exact zv_go (k_X11_isOpen_25 hC hR  h) trivial
theorem ok_X11_isOpen (G : zv_G) {Q : Int32 → zv_St → Prop} {x1 : Int32} {σ : zv_St} (h : B_X11_isOpen Q x1 σ) : zv_OK G M_X11_isOpen yX11_isOpen [.ref (G.2.2.1 45), .int x1] σ (zv_qi Q) := zv_ok G _ _ _ _ _ (by decide +kernel) rfl (Nat.le_of_ble_eq_true rfl) (fun X hC hR => zv_go (k_X11_isOpen_0 hC hR h) ⟨rfl, rfl, trivial⟩)
-- X11_next
def B_X11_next_15 (Q : Int32 → zv_St → Prop) (σ : zv_St) : Prop :=
  Q (-2) σ
set_option maxRecDepth 20000 in
set_option maxHeartbeats 2000000 in
theorem k_X11_next_15 {G : zv_G} {X : zv_X} {Q : Int32 → zv_St → Prop}  (hC : zv_C G X M_X11_next) (hR : zv_R G X M_X11_next (zv_qi Q))   {σ : zv_St} (h : B_X11_next_15 Q   σ) : zv_V G X M_X11_next 15 [] [] σ := by
  unfold B_X11_next_15 at h
  refine zv_bipush (v := (-2)) hC dX11_next_15 (by decide) ?_
  exact (hR _ _ _).1 _ rfl dX11_next_17 ⟨_, rfl, h⟩
def B_X11_next_93 (Q : Int32 → zv_St → Prop) (x1 : Int32) (σ : zv_St) : Prop :=
  vp_in x1 8 ∧ ∀ σ_1 : zv_St, σ_1 = zv_wi σ 59 x1.toNatClampNeg (vp_nar .boolean 1) → Q (-1) σ_1
set_option maxRecDepth 20000 in
set_option maxHeartbeats 2000000 in
theorem k_X11_next_93 {G : zv_G} {X : zv_X} {Q : Int32 → zv_St → Prop}  (hC : zv_C G X M_X11_next) (hR : zv_R G X M_X11_next (zv_qi Q))  {x1 : Int32} {σ : zv_St} (h : B_X11_next_93 Q  x1 σ) : zv_V G X M_X11_next 93 [(0, .ref (G.2.2.1 45)), (1, .int x1)] [] σ := by
  unfold B_X11_next_93 at h
  refine zv_aload_n hC dX11_next_93 rfl ?_
  refine zv_getR (j := 59) hC fl_X11_51 dX11_next_94 rfl rfl ?_
  refine zv_iload_n hC dX11_next_97 rfl ?_
  refine zv_iconst (v := 1) hC dX11_next_98 (by decide) ?_
  refine zv_zast hC dX11_next_99 rfl h.1 ?_
  replace h := h.2 _ rfl
  refine zv_iconst (v := (-1)) hC dX11_next_100 (by decide) ?_
  exact (hR _ _ _).1 _ rfl dX11_next_101 ⟨_, rfl, h⟩
def B_X11_next_77 (Q : Int32 → zv_St → Prop) (x1 : Int32) (x3 : Int32) (σ : zv_St) : Prop :=
  vp_in x1 8 ∧ (¬ (σ.1 59 x1.toNatClampNeg) = 0 → (B_X11_next_93 Q x1 σ)) ∧ ((σ.1 59 x1.toNatClampNeg) = 0 → ((x3 < 512 → (vp_in x1 8 ∧ ∀ σ_1 : zv_St, σ_1 = zv_wi σ 58 x1.toNatClampNeg x3 → vp_in x1 8 ∧ vp_in x1 8 ∧ ∀ σ_2 : zv_St, σ_2 = zv_wi σ_1 60 x1.toNatClampNeg ((σ_1.1 60 x1.toNatClampNeg) + 1) → Q x3 σ_2)) ∧ (¬ x3 < 512 → (B_X11_next_93 Q x1 σ))))
set_option maxRecDepth 20000 in
set_option maxHeartbeats 2000000 in
theorem k_X11_next_77 {G : zv_G} {X : zv_X} {Q : Int32 → zv_St → Prop}  (hC : zv_C G X M_X11_next) (hR : zv_R G X M_X11_next (zv_qi Q))  {x1 : Int32} {x3 : Int32} {σ : zv_St} (h : B_X11_next_77 Q  x1 x3 σ) : zv_V G X M_X11_next 77 [(0, .ref (G.2.2.1 45)), (1, .int x1), (3, .int x3)] [] σ := by
  unfold B_X11_next_77 at h
  refine zv_aload_n hC dX11_next_77 rfl ?_
  refine zv_getR (j := 59) hC fl_X11_51 dX11_next_78 rfl rfl ?_
  refine zv_iload_n hC dX11_next_81 rfl ?_
  refine zv_zald hC dX11_next_82 rfl h.1 ?_
  replace h := h.2
  refine zv_if_ne (tgt := 93) hC dX11_next_83 (by decide) (fun c => ?_) (fun c => ?_)
  · replace h := h.1 c
    exact zv_go (k_X11_next_93 hC hR  h) ⟨rfl, rfl, trivial⟩
  · replace h := h.2 c
    refine zv_iload_n hC dX11_next_86 rfl ?_
    refine zv_sipush (v := 512) hC dX11_next_87 (by decide) ?_
    refine zv_icmp_lt (tgt := 102) hC dX11_next_90 (by decide) (fun c => ?_) (fun c => ?_)
    · replace h := h.1 c
      refine zv_aload_n hC dX11_next_102 rfl ?_
      refine zv_getR (j := 58) hC fl_X11_48 dX11_next_103 rfl rfl ?_
      refine zv_iload_n hC dX11_next_106 rfl ?_
      refine zv_iload_n hC dX11_next_107 rfl ?_
      refine zv_iast hC dX11_next_108 rfl h.1 ?_
      replace h := h.2 _ rfl
      refine zv_aload_n hC dX11_next_109 rfl ?_
      refine zv_getR (j := 60) hC fl_X11_54 dX11_next_110 rfl rfl ?_
      refine zv_iload_n hC dX11_next_113 rfl ?_
      refine zv_dup2 hC dX11_next_114 rfl rfl ?_
      refine zv_iald hC dX11_next_115 rfl h.1 ?_
      replace h := h.2
      refine zv_iconst (v := 1) hC dX11_next_116 (by decide) ?_
      refine zv_iadd hC dX11_next_117 ?_
      refine zv_iast hC dX11_next_118 rfl h.1 ?_
      replace h := h.2 _ rfl
      refine zv_iload_n hC dX11_next_119 rfl ?_
      exact (hR _ _ _).1 _ rfl dX11_next_120 ⟨_, rfl, h⟩
    · replace h := h.2 c
      exact zv_go (k_X11_next_93 hC hR  h) ⟨rfl, rfl, trivial⟩
def L_X11_next_41 (Q : Int32 → zv_St → Prop) : Nat → (Int32 → Int32 → zv_St → Prop)
  | 0 => fun _ _ _ => False
  | u + 1 => fun x1 x3 σ => 
    vp_in x1 8 ∧ (¬ (σ.1 59 x1.toNatClampNeg) = 0 → (B_X11_next_77 Q x1 x3 σ)) ∧ ((σ.1 59 x1.toNatClampNeg) = 0 → ((512 ≤ x3 → (B_X11_next_77 Q x1 x3 σ)) ∧ (¬ 512 ≤ x3 → (vp_in x1 8 ∧ B_X11_go (fun r_2 σ_1 => (¬ r_2 = 0 → (B_X11_next_77 Q x1 x3 σ_1)) ∧ (r_2 = 0 → ((L_X11_next_41 Q u) x1 (x3 + 1) σ_1))) (σ.1 57 x1.toNatClampNeg) x3 σ))))
set_option maxRecDepth 20000 in
set_option maxHeartbeats 2000000 in
theorem kL_X11_next_41 {G : zv_G} {X : zv_X} {Q : Int32 → zv_St → Prop}  (hC : zv_C G X M_X11_next) (hR : zv_R G X M_X11_next (zv_qi Q))  : ∀ (n : Nat) (x1 : Int32) (x3 : Int32) (σ : zv_St), L_X11_next_41 Q  n x1 x3 σ → zv_V G X M_X11_next 41 [(0, .ref (G.2.2.1 45)), (1, .int x1), (3, .int x3)] [] σ := by
  intro n
  induction n with
  | zero => intro x1 x3 σ h; exact h.elim
  | succ n hk41 =>
    intro x1 x3 σ h
    unfold L_X11_next_41 at h
    refine zv_aload_n hC dX11_next_41 rfl ?_
    refine zv_getR (j := 59) hC fl_X11_51 dX11_next_42 rfl rfl ?_
    refine zv_iload_n hC dX11_next_45 rfl ?_
    refine zv_zald hC dX11_next_46 rfl h.1 ?_
    replace h := h.2
    refine zv_if_ne (tgt := 77) hC dX11_next_47 (by decide) (fun c => ?_) (fun c => ?_)
    · replace h := h.1 c
      exact zv_go (k_X11_next_77 hC hR  h) ⟨rfl, rfl, rfl, trivial⟩
    · replace h := h.2 c
      refine zv_iload_n hC dX11_next_50 rfl ?_
      refine zv_sipush (v := 512) hC dX11_next_51 (by decide) ?_
      refine zv_icmp_ge (tgt := 77) hC dX11_next_54 (by decide) (fun c => ?_) (fun c => ?_)
      · replace h := h.1 c
        exact zv_go (k_X11_next_77 hC hR  h) ⟨rfl, rfl, rfl, trivial⟩
      · replace h := h.2 c
        refine zv_aload_n hC dX11_next_57 rfl ?_
        refine zv_aload_n hC dX11_next_58 rfl ?_
        refine zv_getR (j := 57) hC fl_X11_45 dX11_next_59 rfl rfl ?_
        refine zv_iload_n hC dX11_next_62 rfl ?_
        refine zv_iald hC dX11_next_63 rfl h.1 ?_
        replace h := h.2
        refine zv_iload_n hC dX11_next_64 rfl ?_
        refine zv_callVi (As := [_, _]) hC dX11_next_65 Y_X11_go lk_X11_172 (by decide) rfl rfl rfl (Nat.le_of_ble_eq_true rfl) (ok_X11_go G h) ?_
        intro r_2 σ_1 h
        refine zv_if_ne (tgt := 77) hC dX11_next_68 (by decide) (fun c => ?_) (fun c => ?_)
        · replace h := h.1 c
          exact zv_go (k_X11_next_77 hC hR  h) ⟨rfl, rfl, rfl, trivial⟩
        · replace h := h.2 c
          refine zv_iinc (v := 1) hC dX11_next_71 rfl (by decide) (by decide) ?_
          refine zv_goto (tgt := 41) hC dX11_next_74 (by decide) ?_
          exact zv_go (hk41 _ _ _ h) ⟨rfl, rfl, rfl, trivial⟩
def B_X11_next_40 (Q : Int32 → zv_St → Prop) (x1 : Int32) (y0 : Int32) (σ : zv_St) : Prop :=
  ∃ n41, L_X11_next_41 Q n41 x1 y0 σ
set_option maxRecDepth 20000 in
set_option maxHeartbeats 2000000 in
theorem k_X11_next_40 {G : zv_G} {X : zv_X} {Q : Int32 → zv_St → Prop}  (hC : zv_C G X M_X11_next) (hR : zv_R G X M_X11_next (zv_qi Q))  {x1 : Int32} {y0 : Int32} {σ : zv_St} (h : B_X11_next_40 Q  x1 y0 σ) : zv_V G X M_X11_next 40 [(0, .ref (G.2.2.1 45)), (1, .int x1)] [.int y0] σ := by
  unfold B_X11_next_40 at h
  refine zv_istore_n hC dX11_next_40 (by decide) ?_
  obtain ⟨n, h⟩ := h
  exact zv_go (kL_X11_next_41 hC hR  n _ _ _ h) ⟨rfl, rfl, rfl, trivial⟩
def B_X11_next (Q : Int32 → zv_St → Prop) (x1 : Int32) (x2 : Int32) (σ : zv_St) : Prop :=
  B_X11_isOpen (fun r_2 σ_1 => (r_2 = 0 → (B_X11_next_15 Q σ_1)) ∧ (¬ r_2 = 0 → (B_X11_isObject (fun r_4 σ_3 => (¬ r_4 = 0 → (vp_in x1 8 ∧ (x2 ≤ (σ_3.1 58 x1.toNatClampNeg) → (vp_in x1 8 ∧ B_X11_next_40 Q x1 ((σ_3.1 58 x1.toNatClampNeg) + 1) σ_3)) ∧ (¬ x2 ≤ (σ_3.1 58 x1.toNatClampNeg) → (B_X11_next_40 Q x1 x2 σ_3)))) ∧ (r_4 = 0 → (B_X11_next_15 Q σ_3))) x2 σ_1))) x1 σ
set_option maxRecDepth 20000 in
set_option maxHeartbeats 2000000 in
theorem k_X11_next_0 {G : zv_G} {X : zv_X} {Q : Int32 → zv_St → Prop}  (hC : zv_C G X M_X11_next) (hR : zv_R G X M_X11_next (zv_qi Q))  {x1 : Int32} {x2 : Int32} {σ : zv_St} (h : B_X11_next Q  x1 x2 σ) : zv_V G X M_X11_next 0 [(0, .ref (G.2.2.1 45)), (1, .int x1), (2, .int x2)] [] σ := by
  unfold B_X11_next at h
  refine zv_aload_n hC dX11_next_0 rfl ?_
  refine zv_iload_n hC dX11_next_1 rfl ?_
  refine zv_callVi (As := [_]) hC dX11_next_2 Y_X11_isOpen lk_X11_183 (by decide) rfl rfl rfl (Nat.le_of_ble_eq_true rfl) (ok_X11_isOpen G h) ?_
  intro r_2 σ_1 h
  refine zv_if_eq (tgt := 15) hC dX11_next_5 (by decide) (fun c => ?_) (fun c => ?_)
  · replace h := h.1 c
    exact zv_go (k_X11_next_15 hC hR  h) trivial
  · replace h := h.2 c
    refine zv_iload_n hC dX11_next_8 rfl ?_
    refine zv_callSi (As := [_]) hC dX11_next_9 Y_X11_isObject lk_X11_115 (by decide) rfl rfl (Nat.le_of_ble_eq_true rfl) (ok_X11_isObject G h) ?_
    intro r_4 σ_3 h
    refine zv_if_ne (tgt := 18) hC dX11_next_12 (by decide) (fun c => ?_) (fun c => ?_)
    · replace h := h.1 c
      refine zv_iload_n hC dX11_next_18 rfl ?_
      refine zv_aload_n hC dX11_next_19 rfl ?_
      refine zv_getR (j := 58) hC fl_X11_48 dX11_next_20 rfl rfl ?_
      refine zv_iload_n hC dX11_next_23 rfl ?_
      refine zv_iald hC dX11_next_24 rfl h.1 ?_
      replace h := h.2
      refine zv_icmp_le (tgt := 32) hC dX11_next_25 (by decide) (fun c => ?_) (fun c => ?_)
      · replace h := h.1 c
        refine zv_aload_n hC dX11_next_32 rfl ?_
        refine zv_getR (j := 58) hC fl_X11_48 dX11_next_33 rfl rfl ?_
        refine zv_iload_n hC dX11_next_36 rfl ?_
        refine zv_iald hC dX11_next_37 rfl h.1 ?_
        replace h := h.2
        refine zv_iconst (v := 1) hC dX11_next_38 (by decide) ?_
        refine zv_iadd hC dX11_next_39 ?_
        exact zv_go (k_X11_next_40 hC hR  h) ⟨rfl, rfl, trivial⟩
      · replace h := h.2 c
        refine zv_iload_n hC dX11_next_28 rfl ?_
        refine zv_goto (tgt := 40) hC dX11_next_29 (by decide) ?_
        exact zv_go (k_X11_next_40 hC hR  h) ⟨rfl, rfl, trivial⟩
    · replace h := h.2 c
      exact zv_go (k_X11_next_15 hC hR  h) trivial
theorem ok_X11_next (G : zv_G) {Q : Int32 → zv_St → Prop} {x1 : Int32} {x2 : Int32} {σ : zv_St} (h : B_X11_next Q x1 x2 σ) : zv_OK G M_X11_next yX11_next [.ref (G.2.2.1 45), .int x1, .int x2] σ (zv_qi Q) := zv_ok G _ _ _ _ _ (by decide +kernel) rfl (Nat.le_of_ble_eq_true rfl) (fun X hC hR => zv_go (k_X11_next_0 hC hR h) ⟨rfl, rfl, rfl, trivial⟩)
