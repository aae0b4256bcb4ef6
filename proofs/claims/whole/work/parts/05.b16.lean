-- X11_close
def B_X11_close (Q : Int32 → zv_St → Prop) (x1 : Int32) (σ : zv_St) : Prop :=
  B_X11_isOpen (fun r_2 σ_1 => (¬ r_2 = 0 → (vp_in x1 8 ∧ ∀ σ_3 : zv_St, σ_3 = zv_wi σ_1 57 x1.toNatClampNeg (-1) → vp_in x1 8 ∧ Q (σ_3.1 60 x1.toNatClampNeg) σ_3)) ∧ (r_2 = 0 → (Q (-2) σ_1))) x1 σ
set_option maxRecDepth 20000 in
set_option maxHeartbeats 2000000 in
theorem k_X11_close_0 {G : zv_G} {X : zv_X} {Q : Int32 → zv_St → Prop}  (hC : zv_C G X M_X11_close) (hR : zv_R G X M_X11_close (zv_qi Q))  {x1 : Int32} {σ : zv_St} (h : B_X11_close Q  x1 σ) : zv_V G X M_X11_close 0 [(0, .ref (G.2.2.1 45)), (1, .int x1)] [] σ := by
  unfold B_X11_close at h
  refine zv_aload_n hC dX11_close_0 rfl ?_
  refine zv_iload_n hC dX11_close_1 rfl ?_
  refine zv_callVi (As := [_]) hC dX11_close_2 Y_X11_isOpen lk_X11_183 (by decide) rfl rfl rfl (Nat.le_of_ble_eq_true rfl) (ok_X11_isOpen G h) ?_
  intro r_2 σ_1 h
  refine zv_if_ne (tgt := 11) hC dX11_close_5 (by decide) (fun c => ?_) (fun c => ?_)
  · replace h := h.1 c
    refine zv_aload_n hC dX11_close_11 rfl ?_
    refine zv_getR (j := 57) hC fl_X11_45 dX11_close_12 rfl rfl ?_
    refine zv_iload_n hC dX11_close_15 rfl ?_
    refine zv_iconst (v := (-1)) hC dX11_close_16 (by decide) ?_
    refine zv_iast hC dX11_close_17 rfl h.1 ?_
    replace h := h.2 _ rfl
    refine zv_aload_n hC dX11_close_18 rfl ?_
    refine zv_getR (j := 60) hC fl_X11_54 dX11_close_19 rfl rfl ?_
    refine zv_iload_n hC dX11_close_22 rfl ?_
    refine zv_iald hC dX11_close_23 rfl h.1 ?_
    replace h := h.2
    exact (hR _ _ _).1 _ rfl dX11_close_24 ⟨_, rfl, h⟩
  · replace h := h.2 c
    refine zv_bipush (v := (-2)) hC dX11_close_8 (by decide) ?_
    exact (hR _ _ _).1 _ rfl dX11_close_10 ⟨_, rfl, h⟩
theorem ok_X11_close (G : zv_G) {Q : Int32 → zv_St → Prop} {x1 : Int32} {σ : zv_St} (h : B_X11_close Q x1 σ) : zv_OK G M_X11_close yX11_close [.ref (G.2.2.1 45), .int x1] σ (zv_qi Q) := zv_ok G _ _ _ _ _ (by decide +kernel) rfl (Nat.le_of_ble_eq_true rfl) (fun X hC hR => zv_go (k_X11_close_0 hC hR h) ⟨rfl, rfl, trivial⟩)
-- X11_so
def B_X11_so_162 (Q : Int32 → zv_St → Prop) (kk3 : Int32 → Int32 → Int32 → Int32 → zv_St → Prop) (x1 : Int32) (x2 : Int32) (x3 : Int32) (x4 : Int32) (x5 : Int32) (σ : zv_St) : Prop :=
  (x5 = 0 → (kk3 x1 x2 x3 (x4 + 1) σ)) ∧ (¬ x5 = 0 → (Q x4 σ))
set_option maxRecDepth 20000 in
set_option maxHeartbeats 2000000 in
theorem k_X11_so_162 {G : zv_G} {X : zv_X} {Q : Int32 → zv_St → Prop} {kk3 : Int32 → Int32 → Int32 → Int32 → zv_St → Prop} (hC : zv_C G X M_X11_so) (hR : zv_R G X M_X11_so (zv_qi Q)) (hk3 : ∀ (x1 : Int32) (x2 : Int32) (x3 : Int32) (x4 : Int32) (σ : zv_St), kk3 x1 x2 x3 x4 σ → zv_V G X M_X11_so 3 [(0, .ref (G.2.2.1 45)), (1, .int x1), (2, .int x2), (3, .int x3), (4, .int x4)] [] σ) {x1 : Int32} {x2 : Int32} {x3 : Int32} {x4 : Int32} {x5 : Int32} {σ : zv_St} (h : B_X11_so_162 Q kk3 x1 x2 x3 x4 x5 σ) : zv_V G X M_X11_so 162 [(0, .ref (G.2.2.1 45)), (1, .int x1), (2, .int x2), (3, .int x3), (4, .int x4), (5, .int x5)] [] σ := by
  unfold B_X11_so_162 at h
  refine zv_iload hC dX11_so_162 rfl ?_
  refine zv_if_eq (tgt := 170) hC dX11_so_164 (by decide) (fun c => ?_) (fun c => ?_)
  · replace h := h.1 c
    refine zv_iinc (v := 1) hC dX11_so_170 rfl (by decide) (by decide) ?_
    refine zv_goto (tgt := 3) hC dX11_so_173 (by decide) ?_
    exact zv_go (hk3 _ _ _ _ _ h) ⟨rfl, rfl, rfl, rfl, rfl, trivial⟩
  · replace h := h.2 c
    refine zv_iload hC dX11_so_167 rfl ?_
    exact (hR _ _ _).1 _ rfl dX11_so_169 ⟨_, rfl, h⟩
def B_X11_so_154 (Q : Int32 → zv_St → Prop) (kk3 : Int32 → Int32 → Int32 → Int32 → zv_St → Prop) (kk79 : Int32 → Int32 → Int32 → Int32 → Int32 → Int32 → zv_St → Prop) (x1 : Int32) (x2 : Int32) (x3 : Int32) (x4 : Int32) (x6 : Int32) (y0 : Int32) (σ : zv_St) : Prop :=
  kk79 x1 x2 x3 x4 y0 (x6 + 1) σ
set_option maxRecDepth 20000 in
set_option maxHeartbeats 2000000 in
theorem k_X11_so_154 {G : zv_G} {X : zv_X} {Q : Int32 → zv_St → Prop} {kk3 : Int32 → Int32 → Int32 → Int32 → zv_St → Prop} {kk79 : Int32 → Int32 → Int32 → Int32 → Int32 → Int32 → zv_St → Prop} (hC : zv_C G X M_X11_so) (hR : zv_R G X M_X11_so (zv_qi Q)) (hk3 : ∀ (x1 : Int32) (x2 : Int32) (x3 : Int32) (x4 : Int32) (σ : zv_St), kk3 x1 x2 x3 x4 σ → zv_V G X M_X11_so 3 [(0, .ref (G.2.2.1 45)), (1, .int x1), (2, .int x2), (3, .int x3), (4, .int x4)] [] σ) (hk79 : ∀ (x1 : Int32) (x2 : Int32) (x3 : Int32) (x4 : Int32) (x5 : Int32) (x6 : Int32) (σ : zv_St), kk79 x1 x2 x3 x4 x5 x6 σ → zv_V G X M_X11_so 79 [(0, .ref (G.2.2.1 45)), (1, .int x1), (2, .int x2), (3, .int x3), (4, .int x4), (5, .int x5), (6, .int x6)] [] σ) {x1 : Int32} {x2 : Int32} {x3 : Int32} {x4 : Int32} {x6 : Int32} {y0 : Int32} {σ : zv_St} (h : B_X11_so_154 Q kk3 kk79 x1 x2 x3 x4 x6 y0 σ) : zv_V G X M_X11_so 154 [(0, .ref (G.2.2.1 45)), (1, .int x1), (2, .int x2), (3, .int x3), (4, .int x4), (6, .int x6)] [.int y0] σ := by
  unfold B_X11_so_154 at h
  refine zv_istore hC dX11_so_154 (by decide) ?_
  refine zv_iinc (v := 1) hC dX11_so_156 rfl (by decide) (by decide) ?_
  refine zv_goto (tgt := 79) hC dX11_so_159 (by decide) ?_
  exact zv_go (hk79 _ _ _ _ _ _ _ h) ⟨rfl, rfl, rfl, rfl, rfl, rfl, rfl, trivial⟩
def B_X11_so_153 (Q : Int32 → zv_St → Prop) (kk3 : Int32 → Int32 → Int32 → Int32 → zv_St → Prop) (kk79 : Int32 → Int32 → Int32 → Int32 → Int32 → Int32 → zv_St → Prop) (x1 : Int32) (x2 : Int32) (x3 : Int32) (x4 : Int32) (x6 : Int32) (σ : zv_St) : Prop :=
  B_X11_so_154 Q kk3 kk79 x1 x2 x3 x4 x6 0 σ
set_option maxRecDepth 20000 in
set_option maxHeartbeats 2000000 in
theorem k_X11_so_153 {G : zv_G} {X : zv_X} {Q : Int32 → zv_St → Prop} {kk3 : Int32 → Int32 → Int32 → Int32 → zv_St → Prop} {kk79 : Int32 → Int32 → Int32 → Int32 → Int32 → Int32 → zv_St → Prop} (hC : zv_C G X M_X11_so) (hR : zv_R G X M_X11_so (zv_qi Q)) (hk3 : ∀ (x1 : Int32) (x2 : Int32) (x3 : Int32) (x4 : Int32) (σ : zv_St), kk3 x1 x2 x3 x4 σ → zv_V G X M_X11_so 3 [(0, .ref (G.2.2.1 45)), (1, .int x1), (2, .int x2), (3, .int x3), (4, .int x4)] [] σ) (hk79 : ∀ (x1 : Int32) (x2 : Int32) (x3 : Int32) (x4 : Int32) (x5 : Int32) (x6 : Int32) (σ : zv_St), kk79 x1 x2 x3 x4 x5 x6 σ → zv_V G X M_X11_so 79 [(0, .ref (G.2.2.1 45)), (1, .int x1), (2, .int x2), (3, .int x3), (4, .int x4), (5, .int x5), (6, .int x6)] [] σ) {x1 : Int32} {x2 : Int32} {x3 : Int32} {x4 : Int32} {x6 : Int32} {σ : zv_St} (h : B_X11_so_153 Q kk3 kk79 x1 x2 x3 x4 x6 σ) : zv_V G X M_X11_so 153 [(0, .ref (G.2.2.1 45)), (1, .int x1), (2, .int x2), (3, .int x3), (4, .int x4), (6, .int x6)] [] σ := by
  unfold B_X11_so_153 at h
  refine zv_iconst (v := 0) hC dX11_so_153 (by decide) ?_
  exact zv_go (k_X11_so_154 hC hR hk3 hk79 h) ⟨rfl, rfl, rfl, rfl, rfl, rfl, trivial⟩
def B_X11_so_103 (Q : Int32 → zv_St → Prop) (kk3 : Int32 → Int32 → Int32 → Int32 → zv_St → Prop) (kk79 : Int32 → Int32 → Int32 → Int32 → Int32 → Int32 → zv_St → Prop) (x1 : Int32) (x2 : Int32) (x3 : Int32) (x4 : Int32) (x6 : Int32) (σ : zv_St) : Prop :=
  vp_in ((8 * x4) + x6) 640 ∧ vp_in x6 80 ∧ (¬ (σ.1 52 ((8 * x4) + x6).toNatClampNeg) = (σ.1 73 x6.toNatClampNeg) → (B_X11_so_153 Q kk3 kk79 x1 x2 x3 x4 x6 σ)) ∧ ((σ.1 52 ((8 * x4) + x6).toNatClampNeg) = (σ.1 73 x6.toNatClampNeg) → (vp_in ((8 * x4) + x6) 640 ∧ vp_in x6 80 ∧ (¬ (σ.1 53 ((8 * x4) + x6).toNatClampNeg) = (σ.1 74 x6.toNatClampNeg) → (B_X11_so_153 Q kk3 kk79 x1 x2 x3 x4 x6 σ)) ∧ ((σ.1 53 ((8 * x4) + x6).toNatClampNeg) = (σ.1 74 x6.toNatClampNeg) → (B_X11_so_154 Q kk3 kk79 x1 x2 x3 x4 x6 1 σ))))
set_option maxRecDepth 20000 in
set_option maxHeartbeats 2000000 in
theorem k_X11_so_103 {G : zv_G} {X : zv_X} {Q : Int32 → zv_St → Prop} {kk3 : Int32 → Int32 → Int32 → Int32 → zv_St → Prop} {kk79 : Int32 → Int32 → Int32 → Int32 → Int32 → Int32 → zv_St → Prop} (hC : zv_C G X M_X11_so) (hR : zv_R G X M_X11_so (zv_qi Q)) (hk3 : ∀ (x1 : Int32) (x2 : Int32) (x3 : Int32) (x4 : Int32) (σ : zv_St), kk3 x1 x2 x3 x4 σ → zv_V G X M_X11_so 3 [(0, .ref (G.2.2.1 45)), (1, .int x1), (2, .int x2), (3, .int x3), (4, .int x4)] [] σ) (hk79 : ∀ (x1 : Int32) (x2 : Int32) (x3 : Int32) (x4 : Int32) (x5 : Int32) (x6 : Int32) (σ : zv_St), kk79 x1 x2 x3 x4 x5 x6 σ → zv_V G X M_X11_so 79 [(0, .ref (G.2.2.1 45)), (1, .int x1), (2, .int x2), (3, .int x3), (4, .int x4), (5, .int x5), (6, .int x6)] [] σ) {x1 : Int32} {x2 : Int32} {x3 : Int32} {x4 : Int32} {x6 : Int32} {σ : zv_St} (h : B_X11_so_103 Q kk3 kk79 x1 x2 x3 x4 x6 σ) : zv_V G X M_X11_so 103 [(0, .ref (G.2.2.1 45)), (1, .int x1), (2, .int x2), (3, .int x3), (4, .int x4), (6, .int x6)] [] σ := by
  unfold B_X11_so_103 at h
  refine zv_aload_n hC dX11_so_103 rfl ?_
  refine zv_getR (j := 52) hC fl_X11_28 dX11_so_104 rfl rfl ?_
  refine zv_bipush (v := 8) hC dX11_so_107 (by decide) ?_
  refine zv_iload hC dX11_so_109 rfl ?_
  refine zv_imul hC dX11_so_111 ?_
  refine zv_iload hC dX11_so_112 rfl ?_
  refine zv_iadd hC dX11_so_114 ?_
  refine zv_iald hC dX11_so_115 rfl h.1 ?_
  replace h := h.2
  refine zv_aload_n hC dX11_so_116 rfl ?_
  refine zv_getR (j := 73) hC fl_X11_94 dX11_so_117 rfl rfl ?_
  refine zv_iload hC dX11_so_120 rfl ?_
  refine zv_iald hC dX11_so_122 rfl h.1 ?_
  replace h := h.2
  refine zv_icmp_ne (tgt := 153) hC dX11_so_123 (by decide) (fun c => ?_) (fun c => ?_)
  · replace h := h.1 c
    exact zv_go (k_X11_so_153 hC hR hk3 hk79 h) ⟨rfl, rfl, rfl, rfl, rfl, rfl, trivial⟩
  · replace h := h.2 c
    refine zv_aload_n hC dX11_so_126 rfl ?_
    refine zv_getR (j := 53) hC fl_X11_31 dX11_so_127 rfl rfl ?_
    refine zv_bipush (v := 8) hC dX11_so_130 (by decide) ?_
    refine zv_iload hC dX11_so_132 rfl ?_
    refine zv_imul hC dX11_so_134 ?_
    refine zv_iload hC dX11_so_135 rfl ?_
    refine zv_iadd hC dX11_so_137 ?_
    refine zv_iald hC dX11_so_138 rfl h.1 ?_
    replace h := h.2
    refine zv_aload_n hC dX11_so_139 rfl ?_
    refine zv_getR (j := 74) hC fl_X11_97 dX11_so_140 rfl rfl ?_
    refine zv_iload hC dX11_so_143 rfl ?_
    refine zv_iald hC dX11_so_145 rfl h.1 ?_
    replace h := h.2
    refine zv_icmp_ne (tgt := 153) hC dX11_so_146 (by decide) (fun c => ?_) (fun c => ?_)
    · replace h := h.1 c
      exact zv_go (k_X11_so_153 hC hR hk3 hk79 h) ⟨rfl, rfl, rfl, rfl, rfl, rfl, trivial⟩
    · replace h := h.2 c
      refine zv_iconst (v := 1) hC dX11_so_149 (by decide) ?_
      refine zv_goto (tgt := 154) hC dX11_so_150 (by decide) ?_
      exact zv_go (k_X11_so_154 hC hR hk3 hk79 h) ⟨rfl, rfl, rfl, rfl, rfl, rfl, trivial⟩
def L_X11_so_79 (Q : Int32 → zv_St → Prop) (kk3 : Int32 → Int32 → Int32 → Int32 → zv_St → Prop) : Nat → (Int32 → Int32 → Int32 → Int32 → Int32 → Int32 → zv_St → Prop)
  | 0 => fun _ _ _ _ _ _ _ => False
  | u + 1 => fun x1 x2 x3 x4 x5 x6 σ => 
    ((σ.1 45 34) ≤ x6 → (B_X11_so_162 Q kk3 x1 x2 x3 x4 x5 σ)) ∧ (¬ (σ.1 45 34) ≤ x6 → ((x5 = 0 → (B_X11_so_162 Q kk3 x1 x2 x3 x4 x5 σ)) ∧ (¬ x5 = 0 → ((x1 = 2 → (B_X11_so_103 Q kk3 (L_X11_so_79 Q kk3 u) x1 x2 x3 x4 x6 σ)) ∧ (¬ x1 = 2 → ((¬ x1 = 3 → (B_X11_so_162 Q kk3 x1 x2 x3 x4 x5 σ)) ∧ (x1 = 3 → (B_X11_so_103 Q kk3 (L_X11_so_79 Q kk3 u) x1 x2 x3 x4 x6 σ))))))))
set_option maxRecDepth 20000 in
set_option maxHeartbeats 2000000 in
theorem kL_X11_so_79 {G : zv_G} {X : zv_X} {Q : Int32 → zv_St → Prop} {kk3 : Int32 → Int32 → Int32 → Int32 → zv_St → Prop} (hC : zv_C G X M_X11_so) (hR : zv_R G X M_X11_so (zv_qi Q)) (hk3 : ∀ (x1 : Int32) (x2 : Int32) (x3 : Int32) (x4 : Int32) (σ : zv_St), kk3 x1 x2 x3 x4 σ → zv_V G X M_X11_so 3 [(0, .ref (G.2.2.1 45)), (1, .int x1), (2, .int x2), (3, .int x3), (4, .int x4)] [] σ) : ∀ (n : Nat) (x1 : Int32) (x2 : Int32) (x3 : Int32) (x4 : Int32) (x5 : Int32) (x6 : Int32) (σ : zv_St), L_X11_so_79 Q kk3 n x1 x2 x3 x4 x5 x6 σ → zv_V G X M_X11_so 79 [(0, .ref (G.2.2.1 45)), (1, .int x1), (2, .int x2), (3, .int x3), (4, .int x4), (5, .int x5), (6, .int x6)] [] σ := by
  intro n
  induction n with
  | zero => intro x1 x2 x3 x4 x5 x6 σ h; exact h.elim
  | succ n hk79 =>
    intro x1 x2 x3 x4 x5 x6 σ h
    unfold L_X11_so_79 at h
    refine zv_iload hC dX11_so_79 rfl ?_
    refine zv_aload_n hC dX11_so_81 rfl ?_
    refine zv_getI hC fl_X11_199 dX11_so_82 rfl rfl ?_
    refine zv_icmp_ge (tgt := 162) hC dX11_so_85 (by decide) (fun c => ?_) (fun c => ?_)
    · replace h := h.1 c
      exact zv_go (k_X11_so_162 hC hR hk3 h) ⟨rfl, rfl, rfl, rfl, rfl, rfl, trivial⟩
    · replace h := h.2 c
      refine zv_iload hC dX11_so_88 rfl ?_
      refine zv_if_eq (tgt := 162) hC dX11_so_90 (by decide) (fun c => ?_) (fun c => ?_)
      · replace h := h.1 c
        exact zv_go (k_X11_so_162 hC hR hk3 h) ⟨rfl, rfl, rfl, rfl, rfl, rfl, trivial⟩
      · replace h := h.2 c
        refine zv_iload_n hC dX11_so_93 rfl ?_
        refine zv_iconst (v := 2) hC dX11_so_94 (by decide) ?_
        refine zv_icmp_eq (tgt := 103) hC dX11_so_95 (by decide) (fun c => ?_) (fun c => ?_)
        · replace h := h.1 c
          exact zv_go (k_X11_so_103 hC hR hk3 hk79 h) ⟨rfl, rfl, rfl, rfl, rfl, rfl, trivial⟩
        · replace h := h.2 c
          refine zv_iload_n hC dX11_so_98 rfl ?_
          refine zv_iconst (v := 3) hC dX11_so_99 (by decide) ?_
          refine zv_icmp_ne (tgt := 162) hC dX11_so_100 (by decide) (fun c => ?_) (fun c => ?_)
          · replace h := h.1 c
            exact zv_go (k_X11_so_162 hC hR hk3 h) ⟨rfl, rfl, rfl, rfl, rfl, rfl, trivial⟩
          · replace h := h.2 c
            exact zv_go (k_X11_so_103 hC hR hk3 hk79 h) ⟨rfl, rfl, rfl, rfl, rfl, rfl, trivial⟩
def B_X11_so_74 (Q : Int32 → zv_St → Prop) (kk3 : Int32 → Int32 → Int32 → Int32 → zv_St → Prop) (x1 : Int32) (x2 : Int32) (x3 : Int32) (x4 : Int32) (y0 : Int32) (σ : zv_St) : Prop :=
  ∃ n79, L_X11_so_79 Q kk3 n79 x1 x2 x3 x4 y0 0 σ
set_option maxRecDepth 20000 in
set_option maxHeartbeats 2000000 in
theorem k_X11_so_74 {G : zv_G} {X : zv_X} {Q : Int32 → zv_St → Prop} {kk3 : Int32 → Int32 → Int32 → Int32 → zv_St → Prop} (hC : zv_C G X M_X11_so) (hR : zv_R G X M_X11_so (zv_qi Q)) (hk3 : ∀ (x1 : Int32) (x2 : Int32) (x3 : Int32) (x4 : Int32) (σ : zv_St), kk3 x1 x2 x3 x4 σ → zv_V G X M_X11_so 3 [(0, .ref (G.2.2.1 45)), (1, .int x1), (2, .int x2), (3, .int x3), (4, .int x4)] [] σ) {x1 : Int32} {x2 : Int32} {x3 : Int32} {x4 : Int32} {y0 : Int32} {σ : zv_St} (h : B_X11_so_74 Q kk3 x1 x2 x3 x4 y0 σ) : zv_V G X M_X11_so 74 [(0, .ref (G.2.2.1 45)), (1, .int x1), (2, .int x2), (3, .int x3), (4, .int x4)] [.int y0] σ := by
  unfold B_X11_so_74 at h
  refine zv_istore hC dX11_so_74 (by decide) ?_
  refine zv_iconst (v := 0) hC dX11_so_76 (by decide) ?_
  refine zv_istore hC dX11_so_77 (by decide) ?_
  obtain ⟨n, h⟩ := h
  exact zv_go (kL_X11_so_79 hC hR hk3 n _ _ _ _ _ _ _ h) ⟨rfl, rfl, rfl, rfl, rfl, rfl, rfl, trivial⟩
def B_X11_so_73 (Q : Int32 → zv_St → Prop) (kk3 : Int32 → Int32 → Int32 → Int32 → zv_St → Prop) (x1 : Int32) (x2 : Int32) (x3 : Int32) (x4 : Int32) (σ : zv_St) : Prop :=
  B_X11_so_74 Q kk3 x1 x2 x3 x4 0 σ
set_option maxRecDepth 20000 in
set_option maxHeartbeats 2000000 in
theorem k_X11_so_73 {G : zv_G} {X : zv_X} {Q : Int32 → zv_St → Prop} {kk3 : Int32 → Int32 → Int32 → Int32 → zv_St → Prop} (hC : zv_C G X M_X11_so) (hR : zv_R G X M_X11_so (zv_qi Q)) (hk3 : ∀ (x1 : Int32) (x2 : Int32) (x3 : Int32) (x4 : Int32) (σ : zv_St), kk3 x1 x2 x3 x4 σ → zv_V G X M_X11_so 3 [(0, .ref (G.2.2.1 45)), (1, .int x1), (2, .int x2), (3, .int x3), (4, .int x4)] [] σ) {x1 : Int32} {x2 : Int32} {x3 : Int32} {x4 : Int32} {σ : zv_St} (h : B_X11_so_73 Q kk3 x1 x2 x3 x4 σ) : zv_V G X M_X11_so 73 [(0, .ref (G.2.2.1 45)), (1, .int x1), (2, .int x2), (3, .int x3), (4, .int x4)] [] σ := by
  unfold B_X11_so_73 at h
  refine zv_iconst (v := 0) hC dX11_so_73 (by decide) ?_
  exact zv_go (k_X11_so_74 hC hR hk3 h) ⟨rfl, rfl, rfl, rfl, rfl, trivial⟩
def B_X11_so_290 (Q : Int32 → zv_St → Prop) (σ : zv_St) : Prop :=
  Q ((σ.1 45 2) - 1) σ
set_option maxRecDepth 20000 in
set_option maxHeartbeats 2000000 in
theorem k_X11_so_290 {G : zv_G} {X : zv_X} {Q : Int32 → zv_St → Prop}  (hC : zv_C G X M_X11_so) (hR : zv_R G X M_X11_so (zv_qi Q))   {σ : zv_St} (h : B_X11_so_290 Q   σ) : zv_V G X M_X11_so 290 [(0, .ref (G.2.2.1 45))] [] σ := by
  unfold B_X11_so_290 at h
  refine zv_aload_n hC dX11_so_290 rfl ?_
  refine zv_getI hC fl_X11_107 dX11_so_291 rfl rfl ?_
  refine zv_iconst (v := 1) hC dX11_so_294 (by decide) ?_
  refine zv_isub hC dX11_so_295 ?_
  exact (hR _ _ _).1 _ rfl dX11_so_296 ⟨_, rfl, h⟩
def B_X11_so_221 (Q : Int32 → zv_St → Prop) (kk202 : Int32 → Int32 → zv_St → Prop) (x1 : Int32) (x4 : Int32) (σ : zv_St) : Prop :=
  vp_in x4 80 ∧ vp_in ((8 * ((σ.1 45 2) - 1)) + x4) 640 ∧ ∀ σ_1 : zv_St, σ_1 = zv_wi σ 52 ((8 * ((σ.1 45 2) - 1)) + x4).toNatClampNeg (σ.1 73 x4.toNatClampNeg) → vp_in x4 80 ∧ vp_in ((8 * ((σ_1.1 45 2) - 1)) + x4) 640 ∧ ∀ σ_2 : zv_St, σ_2 = zv_wi σ_1 53 ((8 * ((σ_1.1 45 2) - 1)) + x4).toNatClampNeg (σ_1.1 74 x4.toNatClampNeg) → vp_in ((σ_2.1 45 2) - 1) 80 ∧ vp_in ((σ_2.1 45 2) - 1) 80 ∧ ∀ σ_3 : zv_St, σ_3 = zv_wi σ_2 51 ((σ_2.1 45 2) - 1).toNatClampNeg ((σ_2.1 51 ((σ_2.1 45 2) - 1).toNatClampNeg) + 1) → kk202 x1 (x4 + 1) σ_3
set_option maxRecDepth 20000 in
set_option maxHeartbeats 2000000 in
theorem k_X11_so_221 {G : zv_G} {X : zv_X} {Q : Int32 → zv_St → Prop} {kk202 : Int32 → Int32 → zv_St → Prop} (hC : zv_C G X M_X11_so) (hR : zv_R G X M_X11_so (zv_qi Q)) (hk202 : ∀ (x1 : Int32) (x4 : Int32) (σ : zv_St), kk202 x1 x4 σ → zv_V G X M_X11_so 202 [(0, .ref (G.2.2.1 45)), (1, .int x1), (4, .int x4)] [] σ) {x1 : Int32} {x4 : Int32} {σ : zv_St} (h : B_X11_so_221 Q kk202 x1 x4 σ) : zv_V G X M_X11_so 221 [(0, .ref (G.2.2.1 45)), (1, .int x1), (4, .int x4)] [] σ := by
  unfold B_X11_so_221 at h
  refine zv_aload_n hC dX11_so_221 rfl ?_
  refine zv_getR (j := 52) hC fl_X11_28 dX11_so_222 rfl rfl ?_
  refine zv_bipush (v := 8) hC dX11_so_225 (by decide) ?_
  refine zv_aload_n hC dX11_so_227 rfl ?_
  refine zv_getI hC fl_X11_107 dX11_so_228 rfl rfl ?_
  refine zv_iconst (v := 1) hC dX11_so_231 (by decide) ?_
  refine zv_isub hC dX11_so_232 ?_
  refine zv_imul hC dX11_so_233 ?_
  refine zv_iload hC dX11_so_234 rfl ?_
  refine zv_iadd hC dX11_so_236 ?_
  refine zv_aload_n hC dX11_so_237 rfl ?_
  refine zv_getR (j := 73) hC fl_X11_94 dX11_so_238 rfl rfl ?_
  refine zv_iload hC dX11_so_241 rfl ?_
  refine zv_iald hC dX11_so_243 rfl h.1 ?_
  replace h := h.2
  refine zv_iast hC dX11_so_244 rfl h.1 ?_
  replace h := h.2 _ rfl
  refine zv_aload_n hC dX11_so_245 rfl ?_
  refine zv_getR (j := 53) hC fl_X11_31 dX11_so_246 rfl rfl ?_
  refine zv_bipush (v := 8) hC dX11_so_249 (by decide) ?_
  refine zv_aload_n hC dX11_so_251 rfl ?_
  refine zv_getI hC fl_X11_107 dX11_so_252 rfl rfl ?_
  refine zv_iconst (v := 1) hC dX11_so_255 (by decide) ?_
  refine zv_isub hC dX11_so_256 ?_
  refine zv_imul hC dX11_so_257 ?_
  refine zv_iload hC dX11_so_258 rfl ?_
  refine zv_iadd hC dX11_so_260 ?_
  refine zv_aload_n hC dX11_so_261 rfl ?_
  refine zv_getR (j := 74) hC fl_X11_97 dX11_so_262 rfl rfl ?_
  refine zv_iload hC dX11_so_265 rfl ?_
  refine zv_iald hC dX11_so_267 rfl h.1 ?_
  replace h := h.2
  refine zv_iast hC dX11_so_268 rfl h.1 ?_
  replace h := h.2 _ rfl
  refine zv_aload_n hC dX11_so_269 rfl ?_
  refine zv_getR (j := 51) hC fl_X11_25 dX11_so_270 rfl rfl ?_
  refine zv_aload_n hC dX11_so_273 rfl ?_
  refine zv_getI hC fl_X11_107 dX11_so_274 rfl rfl ?_
  refine zv_iconst (v := 1) hC dX11_so_277 (by decide) ?_
  refine zv_isub hC dX11_so_278 ?_
  refine zv_dup2 hC dX11_so_279 rfl rfl ?_
  refine zv_iald hC dX11_so_280 rfl h.1 ?_
  replace h := h.2
  refine zv_iconst (v := 1) hC dX11_so_281 (by decide) ?_
  refine zv_iadd hC dX11_so_282 ?_
  refine zv_iast hC dX11_so_283 rfl h.1 ?_
  replace h := h.2 _ rfl
  refine zv_iinc (v := 1) hC dX11_so_284 rfl (by decide) (by decide) ?_
  refine zv_goto (tgt := 202) hC dX11_so_287 (by decide) ?_
  exact zv_go (hk202 _ _ _ h) ⟨rfl, rfl, rfl, trivial⟩
def L_X11_so_202 (Q : Int32 → zv_St → Prop) : Nat → (Int32 → Int32 → zv_St → Prop)
  | 0 => fun _ _ _ => False
  | u + 1 => fun x1 x4 σ => 
    ((σ.1 45 34) ≤ x4 → (B_X11_so_290 Q σ)) ∧ (¬ (σ.1 45 34) ≤ x4 → ((x1 = 2 → (B_X11_so_221 Q (L_X11_so_202 Q u) x1 x4 σ)) ∧ (¬ x1 = 2 → ((¬ x1 = 3 → (B_X11_so_290 Q σ)) ∧ (x1 = 3 → (B_X11_so_221 Q (L_X11_so_202 Q u) x1 x4 σ))))))
set_option maxRecDepth 20000 in
set_option maxHeartbeats 2000000 in
theorem kL_X11_so_202 {G : zv_G} {X : zv_X} {Q : Int32 → zv_St → Prop}  (hC : zv_C G X M_X11_so) (hR : zv_R G X M_X11_so (zv_qi Q))  : ∀ (n : Nat) (x1 : Int32) (x4 : Int32) (σ : zv_St), L_X11_so_202 Q  n x1 x4 σ → zv_V G X M_X11_so 202 [(0, .ref (G.2.2.1 45)), (1, .int x1), (4, .int x4)] [] σ := by
  intro n
  induction n with
  | zero => intro x1 x4 σ h; exact h.elim
  | succ n hk202 =>
    intro x1 x4 σ h
    unfold L_X11_so_202 at h
    refine zv_iload hC dX11_so_202 rfl ?_
    refine zv_aload_n hC dX11_so_204 rfl ?_
    refine zv_getI hC fl_X11_199 dX11_so_205 rfl rfl ?_
    refine zv_icmp_ge (tgt := 290) hC dX11_so_208 (by decide) (fun c => ?_) (fun c => ?_)
    · replace h := h.1 c
      exact zv_go (k_X11_so_290 hC hR  h) ⟨rfl, trivial⟩
    · replace h := h.2 c
      refine zv_iload_n hC dX11_so_211 rfl ?_
      refine zv_iconst (v := 2) hC dX11_so_212 (by decide) ?_
      refine zv_icmp_eq (tgt := 221) hC dX11_so_213 (by decide) (fun c => ?_) (fun c => ?_)
      · replace h := h.1 c
        exact zv_go (k_X11_so_221 hC hR hk202 h) ⟨rfl, rfl, rfl, trivial⟩
      · replace h := h.2 c
        refine zv_iload_n hC dX11_so_216 rfl ?_
        refine zv_iconst (v := 3) hC dX11_so_217 (by decide) ?_
        refine zv_icmp_ne (tgt := 290) hC dX11_so_218 (by decide) (fun c => ?_) (fun c => ?_)
        · replace h := h.1 c
          exact zv_go (k_X11_so_290 hC hR  h) ⟨rfl, trivial⟩
        · replace h := h.2 c
          exact zv_go (k_X11_so_221 hC hR hk202 h) ⟨rfl, rfl, rfl, trivial⟩
def B_X11_so_69 (Q : Int32 → zv_St → Prop) (kk3 : Int32 → Int32 → Int32 → Int32 → zv_St → Prop) (x1 : Int32) (x2 : Int32) (x3 : Int32) (x4 : Int32) (σ : zv_St) : Prop :=
  B_X11_so_74 Q kk3 x1 x2 x3 x4 1 σ
set_option maxRecDepth 20000 in
set_option maxHeartbeats 2000000 in
theorem k_X11_so_69 {G : zv_G} {X : zv_X} {Q : Int32 → zv_St → Prop} {kk3 : Int32 → Int32 → Int32 → Int32 → zv_St → Prop} (hC : zv_C G X M_X11_so) (hR : zv_R G X M_X11_so (zv_qi Q)) (hk3 : ∀ (x1 : Int32) (x2 : Int32) (x3 : Int32) (x4 : Int32) (σ : zv_St), kk3 x1 x2 x3 x4 σ → zv_V G X M_X11_so 3 [(0, .ref (G.2.2.1 45)), (1, .int x1), (2, .int x2), (3, .int x3), (4, .int x4)] [] σ) {x1 : Int32} {x2 : Int32} {x3 : Int32} {x4 : Int32} {σ : zv_St} (h : B_X11_so_69 Q kk3 x1 x2 x3 x4 σ) : zv_V G X M_X11_so 69 [(0, .ref (G.2.2.1 45)), (1, .int x1), (2, .int x2), (3, .int x3), (4, .int x4)] [] σ := by
  unfold B_X11_so_69 at h
  refine zv_iconst (v := 1) hC dX11_so_69 (by decide) ?_
  refine zv_goto (tgt := 74) hC dX11_so_70 (by decide) ?_
  exact zv_go (k_X11_so_74 hC hR hk3 h) ⟨rfl, rfl, rfl, rfl, rfl, trivial⟩
def B_X11_so_55 (Q : Int32 → zv_St → Prop) (kk3 : Int32 → Int32 → Int32 → Int32 → zv_St → Prop) (x1 : Int32) (x2 : Int32) (x3 : Int32) (x4 : Int32) (σ : zv_St) : Prop :=
  vp_in x4 80 ∧ (¬ (σ.1 51 x4.toNatClampNeg) = (σ.1 45 34) → (B_X11_so_73 Q kk3 x1 x2 x3 x4 σ)) ∧ ((σ.1 51 x4.toNatClampNeg) = (σ.1 45 34) → (B_X11_so_69 Q kk3 x1 x2 x3 x4 σ))
set_option maxRecDepth 20000 in
set_option maxHeartbeats 2000000 in
theorem k_X11_so_55 {G : zv_G} {X : zv_X} {Q : Int32 → zv_St → Prop} {kk3 : Int32 → Int32 → Int32 → Int32 → zv_St → Prop} (hC : zv_C G X M_X11_so) (hR : zv_R G X M_X11_so (zv_qi Q)) (hk3 : ∀ (x1 : Int32) (x2 : Int32) (x3 : Int32) (x4 : Int32) (σ : zv_St), kk3 x1 x2 x3 x4 σ → zv_V G X M_X11_so 3 [(0, .ref (G.2.2.1 45)), (1, .int x1), (2, .int x2), (3, .int x3), (4, .int x4)] [] σ) {x1 : Int32} {x2 : Int32} {x3 : Int32} {x4 : Int32} {σ : zv_St} (h : B_X11_so_55 Q kk3 x1 x2 x3 x4 σ) : zv_V G X M_X11_so 55 [(0, .ref (G.2.2.1 45)), (1, .int x1), (2, .int x2), (3, .int x3), (4, .int x4)] [] σ := by
  unfold B_X11_so_55 at h
  refine zv_aload_n hC dX11_so_55 rfl ?_
  refine zv_getR (j := 51) hC fl_X11_25 dX11_so_56 rfl rfl ?_
  refine zv_iload hC dX11_so_59 rfl ?_
  refine zv_iald hC dX11_so_61 rfl h.1 ?_
  replace h := h.2
  refine zv_aload_n hC dX11_so_62 rfl ?_
  refine zv_getI hC fl_X11_199 dX11_so_63 rfl rfl ?_
  refine zv_icmp_ne (tgt := 73) hC dX11_so_66 (by decide) (fun c => ?_) (fun c => ?_)
  · replace h := h.1 c
    exact zv_go (k_X11_so_73 hC hR hk3 h) ⟨rfl, rfl, rfl, rfl, rfl, trivial⟩
  · replace h := h.2 c
    exact zv_go (k_X11_so_69 hC hR hk3 h) ⟨rfl, rfl, rfl, rfl, rfl, trivial⟩
def L_X11_so_3 (Q : Int32 → zv_St → Prop) : Nat → (Int32 → Int32 → Int32 → Int32 → zv_St → Prop)
  | 0 => fun _ _ _ _ _ => False
  | u + 1 => fun x1 x2 x3 x4 σ => 
    ((σ.1 45 2) ≤ x4 → ((¬ (σ.1 45 2) = 80 → (B_X11_make (fun σ_1 => ∃ n202, L_X11_so_202 Q n202 x1 0 σ_1) x1 x2 x3 σ)) ∧ ((σ.1 45 2) = 80 → (∀ σ_2 : zv_St, σ_2 = zv_wi σ 45 35 1 → Q 0 σ_2)))) ∧ (¬ (σ.1 45 2) ≤ x4 → (vp_in x4 80 ∧ (¬ (σ.1 48 x4.toNatClampNeg) = x1 → (B_X11_so_73 Q (L_X11_so_3 Q u) x1 x2 x3 x4 σ)) ∧ ((σ.1 48 x4.toNatClampNeg) = x1 → (vp_in x4 80 ∧ (¬ (σ.1 49 x4.toNatClampNeg) = x2 → (B_X11_so_73 Q (L_X11_so_3 Q u) x1 x2 x3 x4 σ)) ∧ ((σ.1 49 x4.toNatClampNeg) = x2 → (vp_in x4 80 ∧ (¬ (σ.1 50 x4.toNatClampNeg) = x3 → (B_X11_so_73 Q (L_X11_so_3 Q u) x1 x2 x3 x4 σ)) ∧ ((σ.1 50 x4.toNatClampNeg) = x3 → ((x1 = 2 → (B_X11_so_55 Q (L_X11_so_3 Q u) x1 x2 x3 x4 σ)) ∧ (¬ x1 = 2 → ((¬ x1 = 3 → (B_X11_so_69 Q (L_X11_so_3 Q u) x1 x2 x3 x4 σ)) ∧ (x1 = 3 → (B_X11_so_55 Q (L_X11_so_3 Q u) x1 x2 x3 x4 σ))))))))))))
set_option maxRecDepth 20000 in
set_option maxHeartbeats 2000000 in
theorem kL_X11_so_3 {G : zv_G} {X : zv_X} {Q : Int32 → zv_St → Prop}  (hC : zv_C G X M_X11_so) (hR : zv_R G X M_X11_so (zv_qi Q))  : ∀ (n : Nat) (x1 : Int32) (x2 : Int32) (x3 : Int32) (x4 : Int32) (σ : zv_St), L_X11_so_3 Q  n x1 x2 x3 x4 σ → zv_V G X M_X11_so 3 [(0, .ref (G.2.2.1 45)), (1, .int x1), (2, .int x2), (3, .int x3), (4, .int x4)] [] σ := by
  intro n
  induction n with
  | zero => intro x1 x2 x3 x4 σ h; exact h.elim
  | succ n hk3 =>
    intro x1 x2 x3 x4 σ h
    unfold L_X11_so_3 at h
    refine zv_iload hC dX11_so_3 rfl ?_
    refine zv_aload_n hC dX11_so_5 rfl ?_
    refine zv_getI hC fl_X11_107 dX11_so_6 rfl rfl ?_
    refine zv_icmp_ge (tgt := 176) hC dX11_so_9 (by decide) (fun c => ?_) (fun c => ?_)
    · replace h := h.1 c
      refine zv_aload_n hC dX11_so_176 rfl ?_
      refine zv_getI hC fl_X11_107 dX11_so_177 rfl rfl ?_
      refine zv_bipush (v := 80) hC dX11_so_180 (by decide) ?_
      refine zv_icmp_ne (tgt := 192) hC dX11_so_182 (by decide) (fun c => ?_) (fun c => ?_)
      · replace h := h.1 c
        refine zv_aload_n hC dX11_so_192 rfl ?_
        refine zv_iload_n hC dX11_so_193 rfl ?_
        refine zv_iload_n hC dX11_so_194 rfl ?_
        refine zv_iload_n hC dX11_so_195 rfl ?_
        refine zv_callVv (As := [_, _, _]) hC dX11_so_196 Y_X11_make lk_X11_130 (by decide) rfl rfl rfl (Nat.le_of_ble_eq_true rfl) (ok_X11_make G h) ?_
        intro σ_1 h
        refine zv_iconst (v := 0) hC dX11_so_199 (by decide) ?_
        refine zv_istore hC dX11_so_200 (by decide) ?_
        obtain ⟨n, h⟩ := h
        exact zv_go (kL_X11_so_202 hC hR  n _ _ _ h) ⟨rfl, rfl, rfl, trivial⟩
      · replace h := h.2 c
        refine zv_aload_n hC dX11_so_185 rfl ?_
        refine zv_iconst (v := 1) hC dX11_so_186 (by decide) ?_
        refine zv_putI hC fp_X11_186 dX11_so_187 rfl rfl rfl rfl ?_
        replace h := h _ rfl
        refine zv_iconst (v := 0) hC dX11_so_190 (by decide) ?_
        exact (hR _ _ _).1 _ rfl dX11_so_191 ⟨_, rfl, h⟩
    · replace h := h.2 c
      refine zv_aload_n hC dX11_so_12 rfl ?_
      refine zv_getR (j := 48) hC fl_X11_16 dX11_so_13 rfl rfl ?_
      refine zv_iload hC dX11_so_16 rfl ?_
      refine zv_iald hC dX11_so_18 rfl h.1 ?_
      replace h := h.2
      refine zv_iload_n hC dX11_so_19 rfl ?_
      refine zv_icmp_ne (tgt := 73) hC dX11_so_20 (by decide) (fun c => ?_) (fun c => ?_)
      · replace h := h.1 c
        exact zv_go (k_X11_so_73 hC hR hk3 h) ⟨rfl, rfl, rfl, rfl, rfl, trivial⟩
      · replace h := h.2 c
        refine zv_aload_n hC dX11_so_23 rfl ?_
        refine zv_getR (j := 49) hC fl_X11_19 dX11_so_24 rfl rfl ?_
        refine zv_iload hC dX11_so_27 rfl ?_
        refine zv_iald hC dX11_so_29 rfl h.1 ?_
        replace h := h.2
        refine zv_iload_n hC dX11_so_30 rfl ?_
        refine zv_icmp_ne (tgt := 73) hC dX11_so_31 (by decide) (fun c => ?_) (fun c => ?_)
        · replace h := h.1 c
          exact zv_go (k_X11_so_73 hC hR hk3 h) ⟨rfl, rfl, rfl, rfl, rfl, trivial⟩
        · replace h := h.2 c
          refine zv_aload_n hC dX11_so_34 rfl ?_
          refine zv_getR (j := 50) hC fl_X11_22 dX11_so_35 rfl rfl ?_
          refine zv_iload hC dX11_so_38 rfl ?_
          refine zv_iald hC dX11_so_40 rfl h.1 ?_
          replace h := h.2
          refine zv_iload_n hC dX11_so_41 rfl ?_
          refine zv_icmp_ne (tgt := 73) hC dX11_so_42 (by decide) (fun c => ?_) (fun c => ?_)
          · replace h := h.1 c
            exact zv_go (k_X11_so_73 hC hR hk3 h) ⟨rfl, rfl, rfl, rfl, rfl, trivial⟩
          · replace h := h.2 c
            refine zv_iload_n hC dX11_so_45 rfl ?_
            refine zv_iconst (v := 2) hC dX11_so_46 (by decide) ?_
            refine zv_icmp_eq (tgt := 55) hC dX11_so_47 (by decide) (fun c => ?_) (fun c => ?_)
            · replace h := h.1 c
              exact zv_go (k_X11_so_55 hC hR hk3 h) ⟨rfl, rfl, rfl, rfl, rfl, trivial⟩
            · replace h := h.2 c
              refine zv_iload_n hC dX11_so_50 rfl ?_
              refine zv_iconst (v := 3) hC dX11_so_51 (by decide) ?_
              refine zv_icmp_ne (tgt := 69) hC dX11_so_52 (by decide) (fun c => ?_) (fun c => ?_)
              · replace h := h.1 c
                exact zv_go (k_X11_so_69 hC hR hk3 h) ⟨rfl, rfl, rfl, rfl, rfl, trivial⟩
              · replace h := h.2 c
                exact zv_go (k_X11_so_55 hC hR hk3 h) ⟨rfl, rfl, rfl, rfl, rfl, trivial⟩
def B_X11_so (Q : Int32 → zv_St → Prop) (x1 : Int32) (x2 : Int32) (x3 : Int32) (σ : zv_St) : Prop :=
  ∃ n3, L_X11_so_3 Q n3 x1 x2 x3 0 σ
set_option maxRecDepth 20000 in
set_option maxHeartbeats 2000000 in
theorem k_X11_so_0 {G : zv_G} {X : zv_X} {Q : Int32 → zv_St → Prop}  (hC : zv_C G X M_X11_so) (hR : zv_R G X M_X11_so (zv_qi Q))  {x1 : Int32} {x2 : Int32} {x3 : Int32} {σ : zv_St} (h : B_X11_so Q  x1 x2 x3 σ) : zv_V G X M_X11_so 0 [(0, .ref (G.2.2.1 45)), (1, .int x1), (2, .int x2), (3, .int x3)] [] σ := by
  unfold B_X11_so at h
  refine zv_iconst (v := 0) hC dX11_so_0 (by decide) ?_
  refine zv_istore hC dX11_so_1 (by decide) ?_
  obtain ⟨n, h⟩ := h
  exact zv_go (kL_X11_so_3 hC hR  n _ _ _ _ _ h) ⟨rfl, rfl, rfl, rfl, rfl, trivial⟩
theorem ok_X11_so (G : zv_G) {Q : Int32 → zv_St → Prop} {x1 : Int32} {x2 : Int32} {x3 : Int32} {σ : zv_St} (h : B_X11_so Q x1 x2 x3 σ) : zv_OK G M_X11_so yX11_so [.ref (G.2.2.1 45), .int x1, .int x2, .int x3] σ (zv_qi Q) := zv_ok G _ _ _ _ _ (by decide +kernel) rfl (Nat.le_of_ble_eq_true rfl) (fun X hC hR => zv_go (k_X11_so_0 hC hR h) ⟨rfl, rfl, rfl, rfl, trivial⟩)
-- X11_opens
def B_X11_opens_34 (Q : Int32 → zv_St → Prop) (σ : zv_St) : Prop :=
  Q 0 σ
set_option maxRecDepth 20000 in
set_option maxHeartbeats 2000000 in
theorem k_X11_opens_34 {G : zv_G} {X : zv_X} {Q : Int32 → zv_St → Prop}  (hC : zv_C G X M_X11_opens) (hR : zv_R G X M_X11_opens (zv_qi Q))   {σ : zv_St} (h : B_X11_opens_34 Q   σ) : zv_V G X M_X11_opens 34 [] [] σ := by
  unfold B_X11_opens_34 at h
  refine zv_iconst (v := 0) hC dX11_opens_34 (by decide) ?_
  exact (hR _ _ _).2.1 _ rfl rfl dX11_opens_35 ⟨_, rfl, h⟩
def B_X11_opens_143 (Q : Int32 → zv_St → Prop) (y0 : Int32) (σ : zv_St) : Prop :=
  narrow .boolean (.int y0) = .int y0 ∧ Q y0 σ
set_option maxRecDepth 20000 in
set_option maxHeartbeats 2000000 in
theorem k_X11_opens_143 {G : zv_G} {X : zv_X} {Q : Int32 → zv_St → Prop}  (hC : zv_C G X M_X11_opens) (hR : zv_R G X M_X11_opens (zv_qi Q))  {y0 : Int32} {σ : zv_St} (h : B_X11_opens_143 Q  y0 σ) : zv_V G X M_X11_opens 143 [] [.int y0] σ := by
  unfold B_X11_opens_143 at h
  exact (hR _ _ _).2.1 _ rfl h.1 dX11_opens_143 ⟨_, rfl, h.2⟩
def B_X11_opens_120 (Q : Int32 → zv_St → Prop) (σ : zv_St) : Prop :=
  B_X11_opens_143 Q 0 σ
set_option maxRecDepth 20000 in
set_option maxHeartbeats 2000000 in
theorem k_X11_opens_120 {G : zv_G} {X : zv_X} {Q : Int32 → zv_St → Prop}  (hC : zv_C G X M_X11_opens) (hR : zv_R G X M_X11_opens (zv_qi Q))   {σ : zv_St} (h : B_X11_opens_120 Q   σ) : zv_V G X M_X11_opens 120 [] [] σ := by
  unfold B_X11_opens_120 at h
  refine zv_iconst (v := 0) hC dX11_opens_120 (by decide) ?_
  refine zv_goto (tgt := 143) hC dX11_opens_121 (by decide) ?_
  exact zv_go (k_X11_opens_143 hC hR  h) trivial
def B_X11_opens_142 (Q : Int32 → zv_St → Prop) (σ : zv_St) : Prop :=
  B_X11_opens_143 Q 0 σ
set_option maxRecDepth 20000 in
set_option maxHeartbeats 2000000 in
theorem k_X11_opens_142 {G : zv_G} {X : zv_X} {Q : Int32 → zv_St → Prop}  (hC : zv_C G X M_X11_opens) (hR : zv_R G X M_X11_opens (zv_qi Q))   {σ : zv_St} (h : B_X11_opens_142 Q   σ) : zv_V G X M_X11_opens 142 [] [] σ := by
  unfold B_X11_opens_142 at h
  refine zv_iconst (v := 0) hC dX11_opens_142 (by decide) ?_
  exact zv_go (k_X11_opens_143 hC hR  h) trivial
def B_X11_opens_76 (Q : Int32 → zv_St → Prop) (kk42 : Int32 → Int32 → Int32 → Int32 → Int32 → zv_St → Prop) (x1 : Int32) (x2 : Int32) (x3 : Int32) (x6 : Int32) (y0 : Int32) (y1 : Int32) (σ : zv_St) : Prop :=
  kk42 x1 x2 x3 (y0 + y1) (x6 + 1) σ
set_option maxRecDepth 20000 in
set_option maxHeartbeats 2000000 in
theorem k_X11_opens_76 {G : zv_G} {X : zv_X} {Q : Int32 → zv_St → Prop} {kk42 : Int32 → Int32 → Int32 → Int32 → Int32 → zv_St → Prop} (hC : zv_C G X M_X11_opens) (hR : zv_R G X M_X11_opens (zv_qi Q)) (hk42 : ∀ (x1 : Int32) (x2 : Int32) (x3 : Int32) (x5 : Int32) (x6 : Int32) (σ : zv_St), kk42 x1 x2 x3 x5 x6 σ → zv_V G X M_X11_opens 42 [(0, .ref (G.2.2.1 45)), (1, .int x1), (2, .int x2), (3, .int x3), (5, .int x5), (6, .int x6)] [] σ) {x1 : Int32} {x2 : Int32} {x3 : Int32} {x6 : Int32} {y0 : Int32} {y1 : Int32} {σ : zv_St} (h : B_X11_opens_76 Q kk42 x1 x2 x3 x6 y0 y1 σ) : zv_V G X M_X11_opens 76 [(0, .ref (G.2.2.1 45)), (1, .int x1), (2, .int x2), (3, .int x3), (6, .int x6)] [.int y1, .int y0] σ := by
  unfold B_X11_opens_76 at h
  refine zv_iadd hC dX11_opens_76 ?_
  refine zv_istore hC dX11_opens_77 (by decide) ?_
  refine zv_iinc (v := 1) hC dX11_opens_79 rfl (by decide) (by decide) ?_
  refine zv_goto (tgt := 42) hC dX11_opens_82 (by decide) ?_
  exact zv_go (hk42 _ _ _ _ _ _ h) ⟨rfl, rfl, rfl, rfl, rfl, rfl, trivial⟩
def L_X11_opens_42 (Q : Int32 → zv_St → Prop) : Nat → (Int32 → Int32 → Int32 → Int32 → Int32 → zv_St → Prop)
  | 0 => fun _ _ _ _ _ _ => False
  | u + 1 => fun x1 x2 x3 x5 x6 σ => 
    vp_in x3 80 ∧ ((σ.1 51 x3.toNatClampNeg) ≤ x6 → ((¬ x2 = 3 → (vp_in x3 80 ∧ (¬ (σ.1 49 x3.toNatClampNeg) = 0 → (B_X11_opens_142 Q σ)) ∧ ((σ.1 49 x3.toNatClampNeg) = 0 → ((¬ x5 = 0 → (B_X11_opens_142 Q σ)) ∧ (x5 = 0 → (B_X11_opens_143 Q 1 σ)))))) ∧ (x2 = 3 → ((2 ≤ x1 → (B_X11_opens_120 Q σ)) ∧ (¬ 2 ≤ x1 → (vp_in x3 80 ∧ (2 ≤ (σ.1 49 x3.toNatClampNeg) → (B_X11_opens_120 Q σ)) ∧ (¬ 2 ≤ (σ.1 49 x3.toNatClampNeg) → (vp_in x3 80 ∧ (¬ x5 = (σ.1 51 x3.toNatClampNeg) → (B_X11_opens_120 Q σ)) ∧ (x5 = (σ.1 51 x3.toNatClampNeg) → (B_X11_opens_143 Q 1 σ)))))))))) ∧ (¬ (σ.1 51 x3.toNatClampNeg) ≤ x6 → (vp_in ((8 * x3) + x6) 640 ∧ (¬ (σ.1 52 ((8 * x3) + x6).toNatClampNeg) = 3 → (B_X11_opens_76 Q (L_X11_opens_42 Q u) x1 x2 x3 x6 x5 0 σ)) ∧ ((σ.1 52 ((8 * x3) + x6).toNatClampNeg) = 3 → (B_X11_opens_76 Q (L_X11_opens_42 Q u) x1 x2 x3 x6 x5 1 σ))))
set_option maxRecDepth 20000 in
set_option maxHeartbeats 2000000 in
theorem kL_X11_opens_42 {G : zv_G} {X : zv_X} {Q : Int32 → zv_St → Prop}  (hC : zv_C G X M_X11_opens) (hR : zv_R G X M_X11_opens (zv_qi Q))  : ∀ (n : Nat) (x1 : Int32) (x2 : Int32) (x3 : Int32) (x5 : Int32) (x6 : Int32) (σ : zv_St), L_X11_opens_42 Q  n x1 x2 x3 x5 x6 σ → zv_V G X M_X11_opens 42 [(0, .ref (G.2.2.1 45)), (1, .int x1), (2, .int x2), (3, .int x3), (5, .int x5), (6, .int x6)] [] σ := by
  intro n
  induction n with
  | zero => intro x1 x2 x3 x5 x6 σ h; exact h.elim
  | succ n hk42 =>
    intro x1 x2 x3 x5 x6 σ h
    unfold L_X11_opens_42 at h
    refine zv_iload hC dX11_opens_42 rfl ?_
    refine zv_aload_n hC dX11_opens_44 rfl ?_
    refine zv_getR (j := 51) hC fl_X11_25 dX11_opens_45 rfl rfl ?_
    refine zv_iload_n hC dX11_opens_48 rfl ?_
    refine zv_iald hC dX11_opens_49 rfl h.1 ?_
    replace h := h.2
    refine zv_icmp_ge (tgt := 85) hC dX11_opens_50 (by decide) (fun c => ?_) (fun c => ?_)
    · replace h := h.1 c
      refine zv_iload_n hC dX11_opens_85 rfl ?_
      refine zv_iconst (v := 3) hC dX11_opens_86 (by decide) ?_
      refine zv_icmp_ne (tgt := 124) hC dX11_opens_87 (by decide) (fun c => ?_) (fun c => ?_)
      · replace h := h.1 c
        refine zv_aload_n hC dX11_opens_124 rfl ?_
        refine zv_getR (j := 49) hC fl_X11_19 dX11_opens_125 rfl rfl ?_
        refine zv_iload_n hC dX11_opens_128 rfl ?_
        refine zv_iald hC dX11_opens_129 rfl h.1 ?_
        replace h := h.2
        refine zv_if_ne (tgt := 142) hC dX11_opens_130 (by decide) (fun c => ?_) (fun c => ?_)
        · replace h := h.1 c
          exact zv_go (k_X11_opens_142 hC hR  h) trivial
        · replace h := h.2 c
          refine zv_iload hC dX11_opens_133 rfl ?_
          refine zv_if_ne (tgt := 142) hC dX11_opens_135 (by decide) (fun c => ?_) (fun c => ?_)
          · replace h := h.1 c
            exact zv_go (k_X11_opens_142 hC hR  h) trivial
          · replace h := h.2 c
            refine zv_iconst (v := 1) hC dX11_opens_138 (by decide) ?_
            refine zv_goto (tgt := 143) hC dX11_opens_139 (by decide) ?_
            exact zv_go (k_X11_opens_143 hC hR  h) trivial
      · replace h := h.2 c
        refine zv_iload_n hC dX11_opens_90 rfl ?_
        refine zv_iconst (v := 2) hC dX11_opens_91 (by decide) ?_
        refine zv_icmp_ge (tgt := 120) hC dX11_opens_92 (by decide) (fun c => ?_) (fun c => ?_)
        · replace h := h.1 c
          exact zv_go (k_X11_opens_120 hC hR  h) trivial
        · replace h := h.2 c
          refine zv_aload_n hC dX11_opens_95 rfl ?_
          refine zv_getR (j := 49) hC fl_X11_19 dX11_opens_96 rfl rfl ?_
          refine zv_iload_n hC dX11_opens_99 rfl ?_
          refine zv_iald hC dX11_opens_100 rfl h.1 ?_
          replace h := h.2
          refine zv_iconst (v := 2) hC dX11_opens_101 (by decide) ?_
          refine zv_icmp_ge (tgt := 120) hC dX11_opens_102 (by decide) (fun c => ?_) (fun c => ?_)
          · replace h := h.1 c
            exact zv_go (k_X11_opens_120 hC hR  h) trivial
          · replace h := h.2 c
            refine zv_iload hC dX11_opens_105 rfl ?_
            refine zv_aload_n hC dX11_opens_107 rfl ?_
            refine zv_getR (j := 51) hC fl_X11_25 dX11_opens_108 rfl rfl ?_
            refine zv_iload_n hC dX11_opens_111 rfl ?_
            refine zv_iald hC dX11_opens_112 rfl h.1 ?_
            replace h := h.2
            refine zv_icmp_ne (tgt := 120) hC dX11_opens_113 (by decide) (fun c => ?_) (fun c => ?_)
            · replace h := h.1 c
              exact zv_go (k_X11_opens_120 hC hR  h) trivial
            · replace h := h.2 c
              refine zv_iconst (v := 1) hC dX11_opens_116 (by decide) ?_
              refine zv_goto (tgt := 143) hC dX11_opens_117 (by decide) ?_
              exact zv_go (k_X11_opens_143 hC hR  h) trivial
    · replace h := h.2 c
      refine zv_iload hC dX11_opens_53 rfl ?_
      refine zv_aload_n hC dX11_opens_55 rfl ?_
      refine zv_getR (j := 52) hC fl_X11_28 dX11_opens_56 rfl rfl ?_
      refine zv_bipush (v := 8) hC dX11_opens_59 (by decide) ?_
      refine zv_iload_n hC dX11_opens_61 rfl ?_
      refine zv_imul hC dX11_opens_62 ?_
      refine zv_iload hC dX11_opens_63 rfl ?_
      refine zv_iadd hC dX11_opens_65 ?_
      refine zv_iald hC dX11_opens_66 rfl h.1 ?_
      replace h := h.2
      refine zv_iconst (v := 3) hC dX11_opens_67 (by decide) ?_
      refine zv_icmp_ne (tgt := 75) hC dX11_opens_68 (by decide) (fun c => ?_) (fun c => ?_)
      · replace h := h.1 c
        refine zv_iconst (v := 0) hC dX11_opens_75 (by decide) ?_
        exact zv_go (k_X11_opens_76 hC hR hk42 h) ⟨rfl, rfl, rfl, rfl, rfl, trivial⟩
      · replace h := h.2 c
        refine zv_iconst (v := 1) hC dX11_opens_71 (by decide) ?_
        refine zv_goto (tgt := 76) hC dX11_opens_72 (by decide) ?_
        exact zv_go (k_X11_opens_76 hC hR hk42 h) ⟨rfl, rfl, rfl, rfl, rfl, trivial⟩
def B_X11_opens (Q : Int32 → zv_St → Prop) (x1 : Int32) (x2 : Int32) (x3 : Int32) (x4 : Int32) (σ : zv_St) : Prop :=
  vp_in x3 80 ∧ (¬ (σ.1 48 x3.toNatClampNeg) = 2 → (B_X11_opens_34 Q σ)) ∧ ((σ.1 48 x3.toNatClampNeg) = 2 → ((x2 = 2 → (B_X11_opens_34 Q σ)) ∧ (¬ x2 = 2 → (vp_in x3 80 ∧ ((((σ.1 45 34) + (σ.1 51 x3.toNatClampNeg)) + x4) ≤ 8 → (∃ n42, L_X11_opens_42 Q n42 x1 x2 x3 0 0 σ)) ∧ (¬ (((σ.1 45 34) + (σ.1 51 x3.toNatClampNeg)) + x4) ≤ 8 → (B_X11_opens_34 Q σ))))))
set_option maxRecDepth 20000 in
set_option maxHeartbeats 2000000 in
theorem k_X11_opens_0 {G : zv_G} {X : zv_X} {Q : Int32 → zv_St → Prop}  (hC : zv_C G X M_X11_opens) (hR : zv_R G X M_X11_opens (zv_qi Q))  {x1 : Int32} {x2 : Int32} {x3 : Int32} {x4 : Int32} {σ : zv_St} (h : B_X11_opens Q  x1 x2 x3 x4 σ) : zv_V G X M_X11_opens 0 [(0, .ref (G.2.2.1 45)), (1, .int x1), (2, .int x2), (3, .int x3), (4, .int x4)] [] σ := by
  unfold B_X11_opens at h
  refine zv_aload_n hC dX11_opens_0 rfl ?_
  refine zv_getR (j := 48) hC fl_X11_16 dX11_opens_1 rfl rfl ?_
  refine zv_iload_n hC dX11_opens_4 rfl ?_
  refine zv_iald hC dX11_opens_5 rfl h.1 ?_
  replace h := h.2
  refine zv_iconst (v := 2) hC dX11_opens_6 (by decide) ?_
  refine zv_icmp_ne (tgt := 34) hC dX11_opens_7 (by decide) (fun c => ?_) (fun c => ?_)
  · replace h := h.1 c
    exact zv_go (k_X11_opens_34 hC hR  h) trivial
  · replace h := h.2 c
    refine zv_iload_n hC dX11_opens_10 rfl ?_
    refine zv_iconst (v := 2) hC dX11_opens_11 (by decide) ?_
    refine zv_icmp_eq (tgt := 34) hC dX11_opens_12 (by decide) (fun c => ?_) (fun c => ?_)
    · replace h := h.1 c
      exact zv_go (k_X11_opens_34 hC hR  h) trivial
    · replace h := h.2 c
      refine zv_aload_n hC dX11_opens_15 rfl ?_
      refine zv_getI hC fl_X11_199 dX11_opens_16 rfl rfl ?_
      refine zv_aload_n hC dX11_opens_19 rfl ?_
      refine zv_getR (j := 51) hC fl_X11_25 dX11_opens_20 rfl rfl ?_
      refine zv_iload_n hC dX11_opens_23 rfl ?_
      refine zv_iald hC dX11_opens_24 rfl h.1 ?_
      replace h := h.2
      refine zv_iadd hC dX11_opens_25 ?_
      refine zv_iload hC dX11_opens_26 rfl ?_
      refine zv_iadd hC dX11_opens_28 ?_
      refine zv_bipush (v := 8) hC dX11_opens_29 (by decide) ?_
      refine zv_icmp_le (tgt := 36) hC dX11_opens_31 (by decide) (fun c => ?_) (fun c => ?_)
      · replace h := h.1 c
        refine zv_iconst (v := 0) hC dX11_opens_36 (by decide) ?_
        refine zv_istore hC dX11_opens_37 (by decide) ?_
        refine zv_iconst (v := 0) hC dX11_opens_39 (by decide) ?_
        refine zv_istore hC dX11_opens_40 (by decide) ?_
        obtain ⟨n, h⟩ := h
        exact zv_go (kL_X11_opens_42 hC hR  n _ _ _ _ _ _ h) ⟨rfl, rfl, rfl, rfl, rfl, rfl, trivial⟩
      · replace h := h.2 c
        exact zv_go (k_X11_opens_34 hC hR  h) trivial
theorem ok_X11_opens (G : zv_G) {Q : Int32 → zv_St → Prop} {x1 : Int32} {x2 : Int32} {x3 : Int32} {x4 : Int32} {σ : zv_St} (h : B_X11_opens Q x1 x2 x3 x4 σ) : zv_OK G M_X11_opens yX11_opens [.ref (G.2.2.1 45), .int x1, .int x2, .int x3, .int x4] σ (zv_qi Q) := zv_ok G _ _ _ _ _ (by decide +kernel) rfl (Nat.le_of_ble_eq_true rfl) (fun X hC hR => zv_go (k_X11_opens_0 hC hR h) ⟨rfl, rfl, rfl, rfl, rfl, trivial⟩)
-- X11_lay
def B_X11_lay (Q : zv_St → Prop) (x1 : Int32) (x2 : Int32) (σ : zv_St) : Prop :=
  vp_in (σ.1 45 34) 80 ∧ ∀ σ_1 : zv_St, σ_1 = zv_wi σ 73 (σ.1 45 34).toNatClampNeg x1 → vp_in (σ_1.1 45 34) 80 ∧ ∀ σ_2 : zv_St, σ_2 = zv_wi σ_1 74 (σ_1.1 45 34).toNatClampNeg x2 → ∀ σ_3 : zv_St, σ_3 = zv_wi σ_2 45 34 ((σ_2.1 45 34) + 1) → Q σ_3
set_option maxRecDepth 20000 in
set_option maxHeartbeats 2000000 in
theorem k_X11_lay_0 {G : zv_G} {X : zv_X} {Q : zv_St → Prop}  (hC : zv_C G X M_X11_lay) (hR : zv_R G X M_X11_lay (zv_qv Q))  {x1 : Int32} {x2 : Int32} {σ : zv_St} (h : B_X11_lay Q  x1 x2 σ) : zv_V G X M_X11_lay 0 [(0, .ref (G.2.2.1 45)), (1, .int x1), (2, .int x2)] [] σ := by
  unfold B_X11_lay at h
  refine zv_aload_n hC dX11_lay_0 rfl ?_
  refine zv_getR (j := 73) hC fl_X11_94 dX11_lay_1 rfl rfl ?_
  refine zv_aload_n hC dX11_lay_4 rfl ?_
  refine zv_getI hC fl_X11_199 dX11_lay_5 rfl rfl ?_
  refine zv_iload_n hC dX11_lay_8 rfl ?_
  refine zv_iast hC dX11_lay_9 rfl h.1 ?_
  replace h := h.2 _ rfl
  refine zv_aload_n hC dX11_lay_10 rfl ?_
  refine zv_getR (j := 74) hC fl_X11_97 dX11_lay_11 rfl rfl ?_
  refine zv_aload_n hC dX11_lay_14 rfl ?_
  refine zv_getI hC fl_X11_199 dX11_lay_15 rfl rfl ?_
  refine zv_iload_n hC dX11_lay_18 rfl ?_
  refine zv_iast hC dX11_lay_19 rfl h.1 ?_
  replace h := h.2 _ rfl
  refine zv_aload_n hC dX11_lay_20 rfl ?_
  refine zv_dup hC dX11_lay_21 rfl ?_
  refine zv_getI hC fl_X11_199 dX11_lay_22 rfl rfl ?_
  refine zv_iconst (v := 1) hC dX11_lay_25 (by decide) ?_
  refine zv_iadd hC dX11_lay_26 ?_
  refine zv_putI hC fp_X11_199 dX11_lay_27 rfl rfl rfl rfl ?_
  replace h := h _ rfl
  exact (hR _ _ _).2.2.2.1 rfl dX11_lay_30 ⟨rfl, h⟩
theorem ok_X11_lay (G : zv_G) {Q : zv_St → Prop} {x1 : Int32} {x2 : Int32} {σ : zv_St} (h : B_X11_lay Q x1 x2 σ) : zv_OK G M_X11_lay yX11_lay [.ref (G.2.2.1 45), .int x1, .int x2] σ (zv_qv Q) := zv_ok G _ _ _ _ _ (by decide +kernel) rfl (Nat.le_of_ble_eq_true rfl) (fun X hC hR => zv_go (k_X11_lay_0 hC hR h) ⟨rfl, rfl, rfl, trivial⟩)
-- X11_count
def B_X11_count_28 (Q : Int32 → zv_St → Prop) (kk4 : Int32 → Int32 → Int32 → zv_St → Prop) (x1 : Int32) (x3 : Int32) (y0 : Int32) (y1 : Int32) (σ : zv_St) : Prop :=
  kk4 x1 (y0 + y1) (x3 + 1) σ
set_option maxRecDepth 20000 in
set_option maxHeartbeats 2000000 in
theorem k_X11_count_28 {G : zv_G} {X : zv_X} {Q : Int32 → zv_St → Prop} {kk4 : Int32 → Int32 → Int32 → zv_St → Prop} (hC : zv_C G X M_X11_count) (hR : zv_R G X M_X11_count (zv_qi Q)) (hk4 : ∀ (x1 : Int32) (x2 : Int32) (x3 : Int32) (σ : zv_St), kk4 x1 x2 x3 σ → zv_V G X M_X11_count 4 [(0, .ref (G.2.2.1 45)), (1, .int x1), (2, .int x2), (3, .int x3)] [] σ) {x1 : Int32} {x3 : Int32} {y0 : Int32} {y1 : Int32} {σ : zv_St} (h : B_X11_count_28 Q kk4 x1 x3 y0 y1 σ) : zv_V G X M_X11_count 28 [(0, .ref (G.2.2.1 45)), (1, .int x1), (3, .int x3)] [.int y1, .int y0] σ := by
  unfold B_X11_count_28 at h
  refine zv_iadd hC dX11_count_28 ?_
  refine zv_istore_n hC dX11_count_29 (by decide) ?_
  refine zv_iinc (v := 1) hC dX11_count_30 rfl (by decide) (by decide) ?_
  refine zv_goto (tgt := 4) hC dX11_count_33 (by decide) ?_
  exact zv_go (hk4 _ _ _ _ h) ⟨rfl, rfl, rfl, rfl, trivial⟩
def L_X11_count_4 (Q : Int32 → zv_St → Prop) : Nat → (Int32 → Int32 → Int32 → zv_St → Prop)
  | 0 => fun _ _ _ _ => False
  | u + 1 => fun x1 x2 x3 σ => 
    ((σ.1 45 34) ≤ x3 → (Q x2 σ)) ∧ (¬ (σ.1 45 34) ≤ x3 → (vp_in x3 80 ∧ (¬ (σ.1 73 x3.toNatClampNeg) = x1 → (B_X11_count_28 Q (L_X11_count_4 Q u) x1 x3 x2 0 σ)) ∧ ((σ.1 73 x3.toNatClampNeg) = x1 → (B_X11_count_28 Q (L_X11_count_4 Q u) x1 x3 x2 1 σ))))
set_option maxRecDepth 20000 in
set_option maxHeartbeats 2000000 in
theorem kL_X11_count_4 {G : zv_G} {X : zv_X} {Q : Int32 → zv_St → Prop}  (hC : zv_C G X M_X11_count) (hR : zv_R G X M_X11_count (zv_qi Q))  : ∀ (n : Nat) (x1 : Int32) (x2 : Int32) (x3 : Int32) (σ : zv_St), L_X11_count_4 Q  n x1 x2 x3 σ → zv_V G X M_X11_count 4 [(0, .ref (G.2.2.1 45)), (1, .int x1), (2, .int x2), (3, .int x3)] [] σ := by
  intro n
  induction n with
  | zero => intro x1 x2 x3 σ h; exact h.elim
  | succ n hk4 =>
    intro x1 x2 x3 σ h
    unfold L_X11_count_4 at h
    refine zv_iload_n hC dX11_count_4 rfl ?_
    refine zv_aload_n hC dX11_count_5 rfl ?_
    refine zv_getI hC fl_X11_199 dX11_count_6 rfl rfl ?_
    refine zv_icmp_ge (tgt := 36) hC dX11_count_9 (by decide) (fun c => ?_) (fun c => ?_)
    · replace h := h.1 c
      refine zv_iload_n hC dX11_count_36 rfl ?_
      exact (hR _ _ _).1 _ rfl dX11_count_37 ⟨_, rfl, h⟩
    · replace h := h.2 c
      refine zv_iload_n hC dX11_count_12 rfl ?_
      refine zv_aload_n hC dX11_count_13 rfl ?_
      refine zv_getR (j := 73) hC fl_X11_94 dX11_count_14 rfl rfl ?_
      refine zv_iload_n hC dX11_count_17 rfl ?_
      refine zv_iald hC dX11_count_18 rfl h.1 ?_
      replace h := h.2
      refine zv_iload_n hC dX11_count_19 rfl ?_
      refine zv_icmp_ne (tgt := 27) hC dX11_count_20 (by decide) (fun c => ?_) (fun c => ?_)
      · replace h := h.1 c
        refine zv_iconst (v := 0) hC dX11_count_27 (by decide) ?_
        exact zv_go (k_X11_count_28 hC hR hk4 h) ⟨rfl, rfl, rfl, trivial⟩
      · replace h := h.2 c
        refine zv_iconst (v := 1) hC dX11_count_23 (by decide) ?_
        refine zv_goto (tgt := 28) hC dX11_count_24 (by decide) ?_
        exact zv_go (k_X11_count_28 hC hR hk4 h) ⟨rfl, rfl, rfl, trivial⟩
def B_X11_count (Q : Int32 → zv_St → Prop) (x1 : Int32) (σ : zv_St) : Prop :=
  ∃ n4, L_X11_count_4 Q n4 x1 0 0 σ
set_option maxRecDepth 20000 in
set_option maxHeartbeats 2000000 in
theorem k_X11_count_0 {G : zv_G} {X : zv_X} {Q : Int32 → zv_St → Prop}  (hC : zv_C G X M_X11_count) (hR : zv_R G X M_X11_count (zv_qi Q))  {x1 : Int32} {σ : zv_St} (h : B_X11_count Q  x1 σ) : zv_V G X M_X11_count 0 [(0, .ref (G.2.2.1 45)), (1, .int x1)] [] σ := by
  unfold B_X11_count at h
  refine zv_iconst (v := 0) hC dX11_count_0 (by decide) ?_
  refine zv_istore_n hC dX11_count_1 (by decide) ?_
  refine zv_iconst (v := 0) hC dX11_count_2 (by decide) ?_
  refine zv_istore_n hC dX11_count_3 (by decide) ?_
  obtain ⟨n, h⟩ := h
  exact zv_go (kL_X11_count_4 hC hR  n _ _ _ _ h) ⟨rfl, rfl, rfl, rfl, trivial⟩
theorem ok_X11_count (G : zv_G) {Q : Int32 → zv_St → Prop} {x1 : Int32} {σ : zv_St} (h : B_X11_count Q x1 σ) : zv_OK G M_X11_count yX11_count [.ref (G.2.2.1 45), .int x1] σ (zv_qi Q) := zv_ok G _ _ _ _ _ (by decide +kernel) rfl (Nat.le_of_ble_eq_true rfl) (fun X hC hR => zv_go (k_X11_count_0 hC hR h) ⟨rfl, rfl, trivial⟩)
-- X11_thin
def B_X11_thin_272 (Q : Int32 → zv_St → Prop) (kk227 : Int32 → Int32 → Int32 → Int32 → zv_St → Prop) (x1 : Int32) (x2 : Int32) (x3 : Int32) (x4 : Int32) (σ : zv_St) : Prop :=
  kk227 x1 x2 x3 (x4 + 1) σ
set_option maxRecDepth 20000 in
set_option maxHeartbeats 2000000 in
theorem k_X11_thin_272 {G : zv_G} {X : zv_X} {Q : Int32 → zv_St → Prop} {kk227 : Int32 → Int32 → Int32 → Int32 → zv_St → Prop} (hC : zv_C G X M_X11_thin) (hR : zv_R G X M_X11_thin (zv_qi Q)) (hk227 : ∀ (x1 : Int32) (x2 : Int32) (x3 : Int32) (x4 : Int32) (σ : zv_St), kk227 x1 x2 x3 x4 σ → zv_V G X M_X11_thin 227 [(0, .ref (G.2.2.1 45)), (1, .int x1), (2, .int x2), (3, .int x3), (4, .int x4)] [] σ) {x1 : Int32} {x2 : Int32} {x3 : Int32} {x4 : Int32} {σ : zv_St} (h : B_X11_thin_272 Q kk227 x1 x2 x3 x4 σ) : zv_V G X M_X11_thin 272 [(0, .ref (G.2.2.1 45)), (1, .int x1), (2, .int x2), (3, .int x3), (4, .int x4)] [] σ := by
  unfold B_X11_thin_272 at h
  refine zv_iinc (v := 1) hC dX11_thin_272 rfl (by decide) (by decide) ?_
  refine zv_goto (tgt := 227) hC dX11_thin_275 (by decide) ?_
  exact zv_go (hk227 _ _ _ _ _ h) ⟨rfl, rfl, rfl, rfl, rfl, trivial⟩
def L_X11_thin_227 (Q : Int32 → zv_St → Prop) : Nat → (Int32 → Int32 → Int32 → Int32 → zv_St → Prop)
  | 0 => fun _ _ _ _ _ => False
  | u + 1 => fun x1 x2 x3 x4 σ => 
    (x3 ≤ x4 → (∀ σ_1 : zv_St, σ_1 = zv_wi σ 45 34 x1 → narrow .boolean (.int x2) = .int x2 ∧ Q x2 σ_1)) ∧ (¬ x3 ≤ x4 → (vp_in x4 80 ∧ (¬ (σ.1 75 x4.toNatClampNeg) = 0 → (B_X11_thin_272 Q (L_X11_thin_227 Q u) x1 x2 x3 x4 σ)) ∧ ((σ.1 75 x4.toNatClampNeg) = 0 → (vp_in x4 80 ∧ vp_in x1 80 ∧ ∀ σ_2 : zv_St, σ_2 = zv_wi σ 73 x1.toNatClampNeg (σ.1 73 x4.toNatClampNeg) → vp_in x4 80 ∧ vp_in x1 80 ∧ ∀ σ_3 : zv_St, σ_3 = zv_wi σ_2 74 x1.toNatClampNeg (σ_2.1 74 x4.toNatClampNeg) → B_X11_thin_272 Q (L_X11_thin_227 Q u) (x1 + 1) x2 x3 x4 σ_3))))
set_option maxRecDepth 20000 in
set_option maxHeartbeats 2000000 in
theorem kL_X11_thin_227 {G : zv_G} {X : zv_X} {Q : Int32 → zv_St → Prop}  (hC : zv_C G X M_X11_thin) (hR : zv_R G X M_X11_thin (zv_qi Q))  : ∀ (n : Nat) (x1 : Int32) (x2 : Int32) (x3 : Int32) (x4 : Int32) (σ : zv_St), L_X11_thin_227 Q  n x1 x2 x3 x4 σ → zv_V G X M_X11_thin 227 [(0, .ref (G.2.2.1 45)), (1, .int x1), (2, .int x2), (3, .int x3), (4, .int x4)] [] σ := by
  intro n
  induction n with
  | zero => intro x1 x2 x3 x4 σ h; exact h.elim
  | succ n hk227 =>
    intro x1 x2 x3 x4 σ h
    unfold L_X11_thin_227 at h
    refine zv_iload hC dX11_thin_227 rfl ?_
    refine zv_iload_n hC dX11_thin_229 rfl ?_
    refine zv_icmp_ge (tgt := 278) hC dX11_thin_230 (by decide) (fun c => ?_) (fun c => ?_)
    · replace h := h.1 c
      refine zv_aload_n hC dX11_thin_278 rfl ?_
      refine zv_iload_n hC dX11_thin_279 rfl ?_
      refine zv_putI hC fp_X11_199 dX11_thin_280 rfl rfl rfl rfl ?_
      replace h := h _ rfl
      refine zv_iload_n hC dX11_thin_283 rfl ?_
      exact (hR _ _ _).2.1 _ rfl h.1 dX11_thin_284 ⟨_, rfl, h.2⟩
    · replace h := h.2 c
      refine zv_aload_n hC dX11_thin_233 rfl ?_
      refine zv_getR (j := 75) hC fl_X11_100 dX11_thin_234 rfl rfl ?_
      refine zv_iload hC dX11_thin_237 rfl ?_
      refine zv_zald hC dX11_thin_239 rfl h.1 ?_
      replace h := h.2
      refine zv_if_ne (tgt := 272) hC dX11_thin_240 (by decide) (fun c => ?_) (fun c => ?_)
      · replace h := h.1 c
        exact zv_go (k_X11_thin_272 hC hR hk227 h) ⟨rfl, rfl, rfl, rfl, rfl, trivial⟩
      · replace h := h.2 c
        refine zv_aload_n hC dX11_thin_243 rfl ?_
        refine zv_getR (j := 73) hC fl_X11_94 dX11_thin_244 rfl rfl ?_
        refine zv_iload_n hC dX11_thin_247 rfl ?_
        refine zv_aload_n hC dX11_thin_248 rfl ?_
        refine zv_getR (j := 73) hC fl_X11_94 dX11_thin_249 rfl rfl ?_
        refine zv_iload hC dX11_thin_252 rfl ?_
        refine zv_iald hC dX11_thin_254 rfl h.1 ?_
        replace h := h.2
        refine zv_iast hC dX11_thin_255 rfl h.1 ?_
        replace h := h.2 _ rfl
        refine zv_aload_n hC dX11_thin_256 rfl ?_
        refine zv_getR (j := 74) hC fl_X11_97 dX11_thin_257 rfl rfl ?_
        refine zv_iload_n hC dX11_thin_260 rfl ?_
        refine zv_aload_n hC dX11_thin_261 rfl ?_
        refine zv_getR (j := 74) hC fl_X11_97 dX11_thin_262 rfl rfl ?_
        refine zv_iload hC dX11_thin_265 rfl ?_
        refine zv_iald hC dX11_thin_267 rfl h.1 ?_
        replace h := h.2
        refine zv_iast hC dX11_thin_268 rfl h.1 ?_
        replace h := h.2 _ rfl
        refine zv_iinc (v := 1) hC dX11_thin_269 rfl (by decide) (by decide) ?_
        exact zv_go (k_X11_thin_272 hC hR hk227 h) ⟨rfl, rfl, rfl, rfl, rfl, trivial⟩
def B_X11_thin_202 (Q : Int32 → zv_St → Prop) (kk12 : Int32 → Int32 → Int32 → Int32 → zv_St → Prop) (kk24 : Int32 → Int32 → Int32 → Int32 → Int32 → Int32 → zv_St → Prop) (x1 : Int32) (x3 : Int32) (x4 : Int32) (x5 : Int32) (x6 : Int32) (y0 : Int32) (σ : zv_St) : Prop :=
  kk24 x1 y0 x3 x4 x5 (x6 + 1) σ
set_option maxRecDepth 20000 in
set_option maxHeartbeats 2000000 in
theorem k_X11_thin_202 {G : zv_G} {X : zv_X} {Q : Int32 → zv_St → Prop} {kk12 : Int32 → Int32 → Int32 → Int32 → zv_St → Prop} {kk24 : Int32 → Int32 → Int32 → Int32 → Int32 → Int32 → zv_St → Prop} (hC : zv_C G X M_X11_thin) (hR : zv_R G X M_X11_thin (zv_qi Q)) (hk12 : ∀ (x1 : Int32) (x2 : Int32) (x3 : Int32) (x4 : Int32) (σ : zv_St), kk12 x1 x2 x3 x4 σ → zv_V G X M_X11_thin 12 [(0, .ref (G.2.2.1 45)), (1, .int x1), (2, .int x2), (3, .int x3), (4, .int x4)] [] σ) (hk24 : ∀ (x1 : Int32) (x2 : Int32) (x3 : Int32) (x4 : Int32) (x5 : Int32) (x6 : Int32) (σ : zv_St), kk24 x1 x2 x3 x4 x5 x6 σ → zv_V G X M_X11_thin 24 [(0, .ref (G.2.2.1 45)), (1, .int x1), (2, .int x2), (3, .int x3), (4, .int x4), (5, .int x5), (6, .int x6)] [] σ) {x1 : Int32} {x3 : Int32} {x4 : Int32} {x5 : Int32} {x6 : Int32} {y0 : Int32} {σ : zv_St} (h : B_X11_thin_202 Q kk12 kk24 x1 x3 x4 x5 x6 y0 σ) : zv_V G X M_X11_thin 202 [(0, .ref (G.2.2.1 45)), (1, .int x1), (3, .int x3), (4, .int x4), (5, .int x5), (6, .int x6)] [.int y0] σ := by
  unfold B_X11_thin_202 at h
  refine zv_istore_n hC dX11_thin_202 (by decide) ?_
  refine zv_iinc (v := 1) hC dX11_thin_203 rfl (by decide) (by decide) ?_
  refine zv_goto (tgt := 24) hC dX11_thin_206 (by decide) ?_
  exact zv_go (hk24 _ _ _ _ _ _ _ h) ⟨rfl, rfl, rfl, rfl, rfl, rfl, rfl, trivial⟩
def B_X11_thin_201 (Q : Int32 → zv_St → Prop) (kk12 : Int32 → Int32 → Int32 → Int32 → zv_St → Prop) (kk24 : Int32 → Int32 → Int32 → Int32 → Int32 → Int32 → zv_St → Prop) (x1 : Int32) (x3 : Int32) (x4 : Int32) (x5 : Int32) (x6 : Int32) (σ : zv_St) : Prop :=
  B_X11_thin_202 Q kk12 kk24 x1 x3 x4 x5 x6 0 σ
set_option maxRecDepth 20000 in
set_option maxHeartbeats 2000000 in
theorem k_X11_thin_201 {G : zv_G} {X : zv_X} {Q : Int32 → zv_St → Prop} {kk12 : Int32 → Int32 → Int32 → Int32 → zv_St → Prop} {kk24 : Int32 → Int32 → Int32 → Int32 → Int32 → Int32 → zv_St → Prop} (hC : zv_C G X M_X11_thin) (hR : zv_R G X M_X11_thin (zv_qi Q)) (hk12 : ∀ (x1 : Int32) (x2 : Int32) (x3 : Int32) (x4 : Int32) (σ : zv_St), kk12 x1 x2 x3 x4 σ → zv_V G X M_X11_thin 12 [(0, .ref (G.2.2.1 45)), (1, .int x1), (2, .int x2), (3, .int x3), (4, .int x4)] [] σ) (hk24 : ∀ (x1 : Int32) (x2 : Int32) (x3 : Int32) (x4 : Int32) (x5 : Int32) (x6 : Int32) (σ : zv_St), kk24 x1 x2 x3 x4 x5 x6 σ → zv_V G X M_X11_thin 24 [(0, .ref (G.2.2.1 45)), (1, .int x1), (2, .int x2), (3, .int x3), (4, .int x4), (5, .int x5), (6, .int x6)] [] σ) {x1 : Int32} {x3 : Int32} {x4 : Int32} {x5 : Int32} {x6 : Int32} {σ : zv_St} (h : B_X11_thin_201 Q kk12 kk24 x1 x3 x4 x5 x6 σ) : zv_V G X M_X11_thin 201 [(0, .ref (G.2.2.1 45)), (1, .int x1), (3, .int x3), (4, .int x4), (5, .int x5), (6, .int x6)] [] σ := by
  unfold B_X11_thin_201 at h
  refine zv_iconst (v := 0) hC dX11_thin_201 (by decide) ?_
  exact zv_go (k_X11_thin_202 hC hR hk12 hk24 h) ⟨rfl, rfl, rfl, rfl, rfl, rfl, trivial⟩
def B_X11_thin_197 (Q : Int32 → zv_St → Prop) (kk12 : Int32 → Int32 → Int32 → Int32 → zv_St → Prop) (kk24 : Int32 → Int32 → Int32 → Int32 → Int32 → Int32 → zv_St → Prop) (x1 : Int32) (x3 : Int32) (x4 : Int32) (x5 : Int32) (x6 : Int32) (σ : zv_St) : Prop :=
  B_X11_thin_202 Q kk12 kk24 x1 x3 x4 x5 x6 1 σ
set_option maxRecDepth 20000 in
set_option maxHeartbeats 2000000 in
theorem k_X11_thin_197 {G : zv_G} {X : zv_X} {Q : Int32 → zv_St → Prop} {kk12 : Int32 → Int32 → Int32 → Int32 → zv_St → Prop} {kk24 : Int32 → Int32 → Int32 → Int32 → Int32 → Int32 → zv_St → Prop} (hC : zv_C G X M_X11_thin) (hR : zv_R G X M_X11_thin (zv_qi Q)) (hk12 : ∀ (x1 : Int32) (x2 : Int32) (x3 : Int32) (x4 : Int32) (σ : zv_St), kk12 x1 x2 x3 x4 σ → zv_V G X M_X11_thin 12 [(0, .ref (G.2.2.1 45)), (1, .int x1), (2, .int x2), (3, .int x3), (4, .int x4)] [] σ) (hk24 : ∀ (x1 : Int32) (x2 : Int32) (x3 : Int32) (x4 : Int32) (x5 : Int32) (x6 : Int32) (σ : zv_St), kk24 x1 x2 x3 x4 x5 x6 σ → zv_V G X M_X11_thin 24 [(0, .ref (G.2.2.1 45)), (1, .int x1), (2, .int x2), (3, .int x3), (4, .int x4), (5, .int x5), (6, .int x6)] [] σ) {x1 : Int32} {x3 : Int32} {x4 : Int32} {x5 : Int32} {x6 : Int32} {σ : zv_St} (h : B_X11_thin_197 Q kk12 kk24 x1 x3 x4 x5 x6 σ) : zv_V G X M_X11_thin 197 [(0, .ref (G.2.2.1 45)), (1, .int x1), (3, .int x3), (4, .int x4), (5, .int x5), (6, .int x6)] [] σ := by
  unfold B_X11_thin_197 at h
  refine zv_iconst (v := 1) hC dX11_thin_197 (by decide) ?_
  refine zv_goto (tgt := 202) hC dX11_thin_198 (by decide) ?_
  exact zv_go (k_X11_thin_202 hC hR hk12 hk24 h) ⟨rfl, rfl, rfl, rfl, rfl, rfl, trivial⟩
def B_X11_thin_164 (Q : Int32 → zv_St → Prop) (kk12 : Int32 → Int32 → Int32 → Int32 → zv_St → Prop) (kk24 : Int32 → Int32 → Int32 → Int32 → Int32 → Int32 → zv_St → Prop) (x1 : Int32) (x2 : Int32) (x3 : Int32) (x4 : Int32) (x6 : Int32) (x7 : Int32) (y0 : Int32) (σ : zv_St) : Prop :=
  (x2 = 0 → (B_X11_thin_201 Q kk12 kk24 x1 x3 x4 y0 x6 σ)) ∧ (¬ x2 = 0 → ((x7 = 0 → (B_X11_thin_197 Q kk12 kk24 x1 x3 x4 y0 x6 σ)) ∧ (¬ x7 = 0 → (vp_in x4 80 ∧ (¬ (σ.1 73 x4.toNatClampNeg) = 2 → (B_X11_thin_197 Q kk12 kk24 x1 x3 x4 y0 x6 σ)) ∧ ((σ.1 73 x4.toNatClampNeg) = 2 → (vp_in x6 80 ∧ ((σ.1 73 x6.toNatClampNeg) < 2 → (B_X11_thin_201 Q kk12 kk24 x1 x3 x4 y0 x6 σ)) ∧ (¬ (σ.1 73 x6.toNatClampNeg) < 2 → (B_X11_thin_197 Q kk12 kk24 x1 x3 x4 y0 x6 σ))))))))
set_option maxRecDepth 20000 in
set_option maxHeartbeats 2000000 in
theorem k_X11_thin_164 {G : zv_G} {X : zv_X} {Q : Int32 → zv_St → Prop} {kk12 : Int32 → Int32 → Int32 → Int32 → zv_St → Prop} {kk24 : Int32 → Int32 → Int32 → Int32 → Int32 → Int32 → zv_St → Prop} (hC : zv_C G X M_X11_thin) (hR : zv_R G X M_X11_thin (zv_qi Q)) (hk12 : ∀ (x1 : Int32) (x2 : Int32) (x3 : Int32) (x4 : Int32) (σ : zv_St), kk12 x1 x2 x3 x4 σ → zv_V G X M_X11_thin 12 [(0, .ref (G.2.2.1 45)), (1, .int x1), (2, .int x2), (3, .int x3), (4, .int x4)] [] σ) (hk24 : ∀ (x1 : Int32) (x2 : Int32) (x3 : Int32) (x4 : Int32) (x5 : Int32) (x6 : Int32) (σ : zv_St), kk24 x1 x2 x3 x4 x5 x6 σ → zv_V G X M_X11_thin 24 [(0, .ref (G.2.2.1 45)), (1, .int x1), (2, .int x2), (3, .int x3), (4, .int x4), (5, .int x5), (6, .int x6)] [] σ) {x1 : Int32} {x2 : Int32} {x3 : Int32} {x4 : Int32} {x6 : Int32} {x7 : Int32} {y0 : Int32} {σ : zv_St} (h : B_X11_thin_164 Q kk12 kk24 x1 x2 x3 x4 x6 x7 y0 σ) : zv_V G X M_X11_thin 164 [(0, .ref (G.2.2.1 45)), (1, .int x1), (2, .int x2), (3, .int x3), (4, .int x4), (6, .int x6), (7, .int x7)] [.int y0] σ := by
  unfold B_X11_thin_164 at h
  refine zv_istore hC dX11_thin_164 (by decide) ?_
  refine zv_iload_n hC dX11_thin_166 rfl ?_
  refine zv_if_eq (tgt := 201) hC dX11_thin_167 (by decide) (fun c => ?_) (fun c => ?_)
  · replace h := h.1 c
    exact zv_go (k_X11_thin_201 hC hR hk12 hk24 h) ⟨rfl, rfl, rfl, rfl, rfl, rfl, trivial⟩
  · replace h := h.2 c
    refine zv_iload hC dX11_thin_170 rfl ?_
    refine zv_if_eq (tgt := 197) hC dX11_thin_172 (by decide) (fun c => ?_) (fun c => ?_)
    · replace h := h.1 c
      exact zv_go (k_X11_thin_197 hC hR hk12 hk24 h) ⟨rfl, rfl, rfl, rfl, rfl, rfl, trivial⟩
    · replace h := h.2 c
      refine zv_aload_n hC dX11_thin_175 rfl ?_
      refine zv_getR (j := 73) hC fl_X11_94 dX11_thin_176 rfl rfl ?_
      refine zv_iload hC dX11_thin_179 rfl ?_
      refine zv_iald hC dX11_thin_181 rfl h.1 ?_
      replace h := h.2
      refine zv_iconst (v := 2) hC dX11_thin_182 (by decide) ?_
      refine zv_icmp_ne (tgt := 197) hC dX11_thin_183 (by decide) (fun c => ?_) (fun c => ?_)
      · replace h := h.1 c
        exact zv_go (k_X11_thin_197 hC hR hk12 hk24 h) ⟨rfl, rfl, rfl, rfl, rfl, rfl, trivial⟩
      · replace h := h.2 c
        refine zv_aload_n hC dX11_thin_186 rfl ?_
        refine zv_getR (j := 73) hC fl_X11_94 dX11_thin_187 rfl rfl ?_
        refine zv_iload hC dX11_thin_190 rfl ?_
        refine zv_iald hC dX11_thin_192 rfl h.1 ?_
        replace h := h.2
        refine zv_iconst (v := 2) hC dX11_thin_193 (by decide) ?_
        refine zv_icmp_lt (tgt := 201) hC dX11_thin_194 (by decide) (fun c => ?_) (fun c => ?_)
        · replace h := h.1 c
          exact zv_go (k_X11_thin_201 hC hR hk12 hk24 h) ⟨rfl, rfl, rfl, rfl, rfl, rfl, trivial⟩
        · replace h := h.2 c
          exact zv_go (k_X11_thin_197 hC hR hk12 hk24 h) ⟨rfl, rfl, rfl, rfl, rfl, rfl, trivial⟩
def B_X11_thin_159 (Q : Int32 → zv_St → Prop) (kk12 : Int32 → Int32 → Int32 → Int32 → zv_St → Prop) (kk24 : Int32 → Int32 → Int32 → Int32 → Int32 → Int32 → zv_St → Prop) (x1 : Int32) (x2 : Int32) (x3 : Int32) (x4 : Int32) (x6 : Int32) (x7 : Int32) (σ : zv_St) : Prop :=
  B_X11_thin_164 Q kk12 kk24 x1 x2 x3 x4 x6 x7 1 σ
set_option maxRecDepth 20000 in
set_option maxHeartbeats 2000000 in
theorem k_X11_thin_159 {G : zv_G} {X : zv_X} {Q : Int32 → zv_St → Prop} {kk12 : Int32 → Int32 → Int32 → Int32 → zv_St → Prop} {kk24 : Int32 → Int32 → Int32 → Int32 → Int32 → Int32 → zv_St → Prop} (hC : zv_C G X M_X11_thin) (hR : zv_R G X M_X11_thin (zv_qi Q)) (hk12 : ∀ (x1 : Int32) (x2 : Int32) (x3 : Int32) (x4 : Int32) (σ : zv_St), kk12 x1 x2 x3 x4 σ → zv_V G X M_X11_thin 12 [(0, .ref (G.2.2.1 45)), (1, .int x1), (2, .int x2), (3, .int x3), (4, .int x4)] [] σ) (hk24 : ∀ (x1 : Int32) (x2 : Int32) (x3 : Int32) (x4 : Int32) (x5 : Int32) (x6 : Int32) (σ : zv_St), kk24 x1 x2 x3 x4 x5 x6 σ → zv_V G X M_X11_thin 24 [(0, .ref (G.2.2.1 45)), (1, .int x1), (2, .int x2), (3, .int x3), (4, .int x4), (5, .int x5), (6, .int x6)] [] σ) {x1 : Int32} {x2 : Int32} {x3 : Int32} {x4 : Int32} {x6 : Int32} {x7 : Int32} {σ : zv_St} (h : B_X11_thin_159 Q kk12 kk24 x1 x2 x3 x4 x6 x7 σ) : zv_V G X M_X11_thin 159 [(0, .ref (G.2.2.1 45)), (1, .int x1), (2, .int x2), (3, .int x3), (4, .int x4), (6, .int x6), (7, .int x7)] [] σ := by
  unfold B_X11_thin_159 at h
  refine zv_iconst (v := 1) hC dX11_thin_159 (by decide) ?_
  refine zv_goto (tgt := 164) hC dX11_thin_160 (by decide) ?_
  exact zv_go (k_X11_thin_164 hC hR hk12 hk24 h) ⟨rfl, rfl, rfl, rfl, rfl, rfl, rfl, trivial⟩
def B_X11_thin_163 (Q : Int32 → zv_St → Prop) (kk12 : Int32 → Int32 → Int32 → Int32 → zv_St → Prop) (kk24 : Int32 → Int32 → Int32 → Int32 → Int32 → Int32 → zv_St → Prop) (x1 : Int32) (x2 : Int32) (x3 : Int32) (x4 : Int32) (x6 : Int32) (x7 : Int32) (σ : zv_St) : Prop :=
  B_X11_thin_164 Q kk12 kk24 x1 x2 x3 x4 x6 x7 0 σ
set_option maxRecDepth 20000 in
set_option maxHeartbeats 2000000 in
theorem k_X11_thin_163 {G : zv_G} {X : zv_X} {Q : Int32 → zv_St → Prop} {kk12 : Int32 → Int32 → Int32 → Int32 → zv_St → Prop} {kk24 : Int32 → Int32 → Int32 → Int32 → Int32 → Int32 → zv_St → Prop} (hC : zv_C G X M_X11_thin) (hR : zv_R G X M_X11_thin (zv_qi Q)) (hk12 : ∀ (x1 : Int32) (x2 : Int32) (x3 : Int32) (x4 : Int32) (σ : zv_St), kk12 x1 x2 x3 x4 σ → zv_V G X M_X11_thin 12 [(0, .ref (G.2.2.1 45)), (1, .int x1), (2, .int x2), (3, .int x3), (4, .int x4)] [] σ) (hk24 : ∀ (x1 : Int32) (x2 : Int32) (x3 : Int32) (x4 : Int32) (x5 : Int32) (x6 : Int32) (σ : zv_St), kk24 x1 x2 x3 x4 x5 x6 σ → zv_V G X M_X11_thin 24 [(0, .ref (G.2.2.1 45)), (1, .int x1), (2, .int x2), (3, .int x3), (4, .int x4), (5, .int x5), (6, .int x6)] [] σ) {x1 : Int32} {x2 : Int32} {x3 : Int32} {x4 : Int32} {x6 : Int32} {x7 : Int32} {σ : zv_St} (h : B_X11_thin_163 Q kk12 kk24 x1 x2 x3 x4 x6 x7 σ) : zv_V G X M_X11_thin 163 [(0, .ref (G.2.2.1 45)), (1, .int x1), (2, .int x2), (3, .int x3), (4, .int x4), (6, .int x6), (7, .int x7)] [] σ := by
  unfold B_X11_thin_163 at h
  refine zv_iconst (v := 0) hC dX11_thin_163 (by decide) ?_
  exact zv_go (k_X11_thin_164 hC hR hk12 hk24 h) ⟨rfl, rfl, rfl, rfl, rfl, rfl, rfl, trivial⟩
def B_X11_thin_120 (Q : Int32 → zv_St → Prop) (kk12 : Int32 → Int32 → Int32 → Int32 → zv_St → Prop) (kk24 : Int32 → Int32 → Int32 → Int32 → Int32 → Int32 → zv_St → Prop) (x1 : Int32) (x2 : Int32) (x3 : Int32) (x4 : Int32) (x6 : Int32) (x7 : Int32) (x8 : Int32) (y0 : Int32) (σ : zv_St) : Prop :=
  (¬ y0 = 0 → (B_X11_thin_159 Q kk12 kk24 x1 x2 x3 x4 x6 x7 σ)) ∧ (y0 = 0 → ((x7 = 0 → (B_X11_thin_163 Q kk12 kk24 x1 x2 x3 x4 x6 x7 σ)) ∧ (¬ x7 = 0 → (vp_in x4 80 ∧ (¬ (σ.1 73 x4.toNatClampNeg) = 2 → (B_X11_thin_163 Q kk12 kk24 x1 x2 x3 x4 x6 x7 σ)) ∧ ((σ.1 73 x4.toNatClampNeg) = 2 → (vp_in x6 80 ∧ (¬ (σ.1 73 x6.toNatClampNeg) = 2 → (B_X11_thin_163 Q kk12 kk24 x1 x2 x3 x4 x6 x7 σ)) ∧ ((σ.1 73 x6.toNatClampNeg) = 2 → ((x8 = 0 → (B_X11_thin_163 Q kk12 kk24 x1 x2 x3 x4 x6 x7 σ)) ∧ (¬ x8 = 0 → (B_X11_thin_159 Q kk12 kk24 x1 x2 x3 x4 x6 x7 σ))))))))))
set_option maxRecDepth 20000 in
set_option maxHeartbeats 2000000 in
theorem k_X11_thin_120 {G : zv_G} {X : zv_X} {Q : Int32 → zv_St → Prop} {kk12 : Int32 → Int32 → Int32 → Int32 → zv_St → Prop} {kk24 : Int32 → Int32 → Int32 → Int32 → Int32 → Int32 → zv_St → Prop} (hC : zv_C G X M_X11_thin) (hR : zv_R G X M_X11_thin (zv_qi Q)) (hk12 : ∀ (x1 : Int32) (x2 : Int32) (x3 : Int32) (x4 : Int32) (σ : zv_St), kk12 x1 x2 x3 x4 σ → zv_V G X M_X11_thin 12 [(0, .ref (G.2.2.1 45)), (1, .int x1), (2, .int x2), (3, .int x3), (4, .int x4)] [] σ) (hk24 : ∀ (x1 : Int32) (x2 : Int32) (x3 : Int32) (x4 : Int32) (x5 : Int32) (x6 : Int32) (σ : zv_St), kk24 x1 x2 x3 x4 x5 x6 σ → zv_V G X M_X11_thin 24 [(0, .ref (G.2.2.1 45)), (1, .int x1), (2, .int x2), (3, .int x3), (4, .int x4), (5, .int x5), (6, .int x6)] [] σ) {x1 : Int32} {x2 : Int32} {x3 : Int32} {x4 : Int32} {x6 : Int32} {x7 : Int32} {x8 : Int32} {y0 : Int32} {σ : zv_St} (h : B_X11_thin_120 Q kk12 kk24 x1 x2 x3 x4 x6 x7 x8 y0 σ) : zv_V G X M_X11_thin 120 [(0, .ref (G.2.2.1 45)), (1, .int x1), (2, .int x2), (3, .int x3), (4, .int x4), (6, .int x6), (7, .int x7), (8, .int x8)] [.int y0] σ := by
  unfold B_X11_thin_120 at h
  refine zv_istore hC dX11_thin_120 (by decide) ?_
  refine zv_iload hC dX11_thin_122 rfl ?_
  refine zv_if_ne (tgt := 159) hC dX11_thin_124 (by decide) (fun c => ?_) (fun c => ?_)
  · replace h := h.1 c
    exact zv_go (k_X11_thin_159 hC hR hk12 hk24 h) ⟨rfl, rfl, rfl, rfl, rfl, rfl, rfl, trivial⟩
  · replace h := h.2 c
    refine zv_iload hC dX11_thin_127 rfl ?_
    refine zv_if_eq (tgt := 163) hC dX11_thin_129 (by decide) (fun c => ?_) (fun c => ?_)
    · replace h := h.1 c
      exact zv_go (k_X11_thin_163 hC hR hk12 hk24 h) ⟨rfl, rfl, rfl, rfl, rfl, rfl, rfl, trivial⟩
    · replace h := h.2 c
      refine zv_aload_n hC dX11_thin_132 rfl ?_
      refine zv_getR (j := 73) hC fl_X11_94 dX11_thin_133 rfl rfl ?_
      refine zv_iload hC dX11_thin_136 rfl ?_
      refine zv_iald hC dX11_thin_138 rfl h.1 ?_
      replace h := h.2
      refine zv_iconst (v := 2) hC dX11_thin_139 (by decide) ?_
      refine zv_icmp_ne (tgt := 163) hC dX11_thin_140 (by decide) (fun c => ?_) (fun c => ?_)
      · replace h := h.1 c
        exact zv_go (k_X11_thin_163 hC hR hk12 hk24 h) ⟨rfl, rfl, rfl, rfl, rfl, rfl, rfl, trivial⟩
      · replace h := h.2 c
        refine zv_aload_n hC dX11_thin_143 rfl ?_
        refine zv_getR (j := 73) hC fl_X11_94 dX11_thin_144 rfl rfl ?_
        refine zv_iload hC dX11_thin_147 rfl ?_
        refine zv_iald hC dX11_thin_149 rfl h.1 ?_
        replace h := h.2
        refine zv_iconst (v := 2) hC dX11_thin_150 (by decide) ?_
        refine zv_icmp_ne (tgt := 163) hC dX11_thin_151 (by decide) (fun c => ?_) (fun c => ?_)
        · replace h := h.1 c
          exact zv_go (k_X11_thin_163 hC hR hk12 hk24 h) ⟨rfl, rfl, rfl, rfl, rfl, rfl, rfl, trivial⟩
        · replace h := h.2 c
          refine zv_iload hC dX11_thin_154 rfl ?_
          refine zv_if_eq (tgt := 163) hC dX11_thin_156 (by decide) (fun c => ?_) (fun c => ?_)
          · replace h := h.1 c
            exact zv_go (k_X11_thin_163 hC hR hk12 hk24 h) ⟨rfl, rfl, rfl, rfl, rfl, rfl, rfl, trivial⟩
          · replace h := h.2 c
            exact zv_go (k_X11_thin_159 hC hR hk12 hk24 h) ⟨rfl, rfl, rfl, rfl, rfl, rfl, rfl, trivial⟩
def B_X11_thin_115 (Q : Int32 → zv_St → Prop) (kk12 : Int32 → Int32 → Int32 → Int32 → zv_St → Prop) (kk24 : Int32 → Int32 → Int32 → Int32 → Int32 → Int32 → zv_St → Prop) (x1 : Int32) (x2 : Int32) (x3 : Int32) (x4 : Int32) (x6 : Int32) (x7 : Int32) (x8 : Int32) (σ : zv_St) : Prop :=
  B_X11_thin_120 Q kk12 kk24 x1 x2 x3 x4 x6 x7 x8 1 σ
set_option maxRecDepth 20000 in
set_option maxHeartbeats 2000000 in
theorem k_X11_thin_115 {G : zv_G} {X : zv_X} {Q : Int32 → zv_St → Prop} {kk12 : Int32 → Int32 → Int32 → Int32 → zv_St → Prop} {kk24 : Int32 → Int32 → Int32 → Int32 → Int32 → Int32 → zv_St → Prop} (hC : zv_C G X M_X11_thin) (hR : zv_R G X M_X11_thin (zv_qi Q)) (hk12 : ∀ (x1 : Int32) (x2 : Int32) (x3 : Int32) (x4 : Int32) (σ : zv_St), kk12 x1 x2 x3 x4 σ → zv_V G X M_X11_thin 12 [(0, .ref (G.2.2.1 45)), (1, .int x1), (2, .int x2), (3, .int x3), (4, .int x4)] [] σ) (hk24 : ∀ (x1 : Int32) (x2 : Int32) (x3 : Int32) (x4 : Int32) (x5 : Int32) (x6 : Int32) (σ : zv_St), kk24 x1 x2 x3 x4 x5 x6 σ → zv_V G X M_X11_thin 24 [(0, .ref (G.2.2.1 45)), (1, .int x1), (2, .int x2), (3, .int x3), (4, .int x4), (5, .int x5), (6, .int x6)] [] σ) {x1 : Int32} {x2 : Int32} {x3 : Int32} {x4 : Int32} {x6 : Int32} {x7 : Int32} {x8 : Int32} {σ : zv_St} (h : B_X11_thin_115 Q kk12 kk24 x1 x2 x3 x4 x6 x7 x8 σ) : zv_V G X M_X11_thin 115 [(0, .ref (G.2.2.1 45)), (1, .int x1), (2, .int x2), (3, .int x3), (4, .int x4), (6, .int x6), (7, .int x7), (8, .int x8)] [] σ := by
  unfold B_X11_thin_115 at h
  refine zv_iconst (v := 1) hC dX11_thin_115 (by decide) ?_
  refine zv_goto (tgt := 120) hC dX11_thin_116 (by decide) ?_
  exact zv_go (k_X11_thin_120 hC hR hk12 hk24 h) ⟨rfl, rfl, rfl, rfl, rfl, rfl, rfl, rfl, trivial⟩
def B_X11_thin_119 (Q : Int32 → zv_St → Prop) (kk12 : Int32 → Int32 → Int32 → Int32 → zv_St → Prop) (kk24 : Int32 → Int32 → Int32 → Int32 → Int32 → Int32 → zv_St → Prop) (x1 : Int32) (x2 : Int32) (x3 : Int32) (x4 : Int32) (x6 : Int32) (x7 : Int32) (x8 : Int32) (σ : zv_St) : Prop :=
  B_X11_thin_120 Q kk12 kk24 x1 x2 x3 x4 x6 x7 x8 0 σ
set_option maxRecDepth 20000 in
set_option maxHeartbeats 2000000 in
theorem k_X11_thin_119 {G : zv_G} {X : zv_X} {Q : Int32 → zv_St → Prop} {kk12 : Int32 → Int32 → Int32 → Int32 → zv_St → Prop} {kk24 : Int32 → Int32 → Int32 → Int32 → Int32 → Int32 → zv_St → Prop} (hC : zv_C G X M_X11_thin) (hR : zv_R G X M_X11_thin (zv_qi Q)) (hk12 : ∀ (x1 : Int32) (x2 : Int32) (x3 : Int32) (x4 : Int32) (σ : zv_St), kk12 x1 x2 x3 x4 σ → zv_V G X M_X11_thin 12 [(0, .ref (G.2.2.1 45)), (1, .int x1), (2, .int x2), (3, .int x3), (4, .int x4)] [] σ) (hk24 : ∀ (x1 : Int32) (x2 : Int32) (x3 : Int32) (x4 : Int32) (x5 : Int32) (x6 : Int32) (σ : zv_St), kk24 x1 x2 x3 x4 x5 x6 σ → zv_V G X M_X11_thin 24 [(0, .ref (G.2.2.1 45)), (1, .int x1), (2, .int x2), (3, .int x3), (4, .int x4), (5, .int x5), (6, .int x6)] [] σ) {x1 : Int32} {x2 : Int32} {x3 : Int32} {x4 : Int32} {x6 : Int32} {x7 : Int32} {x8 : Int32} {σ : zv_St} (h : B_X11_thin_119 Q kk12 kk24 x1 x2 x3 x4 x6 x7 x8 σ) : zv_V G X M_X11_thin 119 [(0, .ref (G.2.2.1 45)), (1, .int x1), (2, .int x2), (3, .int x3), (4, .int x4), (6, .int x6), (7, .int x7), (8, .int x8)] [] σ := by
  unfold B_X11_thin_119 at h
  refine zv_iconst (v := 0) hC dX11_thin_119 (by decide) ?_
  exact zv_go (k_X11_thin_120 hC hR hk12 hk24 h) ⟨rfl, rfl, rfl, rfl, rfl, rfl, rfl, rfl, trivial⟩
def B_X11_thin_66 (Q : Int32 → zv_St → Prop) (kk12 : Int32 → Int32 → Int32 → Int32 → zv_St → Prop) (kk24 : Int32 → Int32 → Int32 → Int32 → Int32 → Int32 → zv_St → Prop) (x1 : Int32) (x2 : Int32) (x3 : Int32) (x4 : Int32) (x5 : Int32) (x6 : Int32) (x7 : Int32) (y0 : Int32) (σ : zv_St) : Prop :=
  (¬ x5 = 0 → (B_X11_thin_115 Q kk12 kk24 x1 x2 x3 x4 x6 x7 y0 σ)) ∧ (x5 = 0 → ((x7 = 0 → (B_X11_thin_119 Q kk12 kk24 x1 x2 x3 x4 x6 x7 y0 σ)) ∧ (¬ x7 = 0 → (vp_in x4 80 ∧ (¬ (σ.1 73 x4.toNatClampNeg) = 1 → (B_X11_thin_119 Q kk12 kk24 x1 x2 x3 x4 x6 x7 y0 σ)) ∧ ((σ.1 73 x4.toNatClampNeg) = 1 → (vp_in x6 80 ∧ ((σ.1 73 x6.toNatClampNeg) = 0 → (B_X11_thin_115 Q kk12 kk24 x1 x2 x3 x4 x6 x7 y0 σ)) ∧ (¬ (σ.1 73 x6.toNatClampNeg) = 0 → (vp_in x6 80 ∧ (¬ (σ.1 73 x6.toNatClampNeg) = 1 → (B_X11_thin_119 Q kk12 kk24 x1 x2 x3 x4 x6 x7 y0 σ)) ∧ ((σ.1 73 x6.toNatClampNeg) = 1 → ((y0 = 0 → (B_X11_thin_119 Q kk12 kk24 x1 x2 x3 x4 x6 x7 y0 σ)) ∧ (¬ y0 = 0 → (B_X11_thin_115 Q kk12 kk24 x1 x2 x3 x4 x6 x7 y0 σ))))))))))))
set_option maxRecDepth 20000 in
set_option maxHeartbeats 2000000 in
theorem k_X11_thin_66 {G : zv_G} {X : zv_X} {Q : Int32 → zv_St → Prop} {kk12 : Int32 → Int32 → Int32 → Int32 → zv_St → Prop} {kk24 : Int32 → Int32 → Int32 → Int32 → Int32 → Int32 → zv_St → Prop} (hC : zv_C G X M_X11_thin) (hR : zv_R G X M_X11_thin (zv_qi Q)) (hk12 : ∀ (x1 : Int32) (x2 : Int32) (x3 : Int32) (x4 : Int32) (σ : zv_St), kk12 x1 x2 x3 x4 σ → zv_V G X M_X11_thin 12 [(0, .ref (G.2.2.1 45)), (1, .int x1), (2, .int x2), (3, .int x3), (4, .int x4)] [] σ) (hk24 : ∀ (x1 : Int32) (x2 : Int32) (x3 : Int32) (x4 : Int32) (x5 : Int32) (x6 : Int32) (σ : zv_St), kk24 x1 x2 x3 x4 x5 x6 σ → zv_V G X M_X11_thin 24 [(0, .ref (G.2.2.1 45)), (1, .int x1), (2, .int x2), (3, .int x3), (4, .int x4), (5, .int x5), (6, .int x6)] [] σ) {x1 : Int32} {x2 : Int32} {x3 : Int32} {x4 : Int32} {x5 : Int32} {x6 : Int32} {x7 : Int32} {y0 : Int32} {σ : zv_St} (h : B_X11_thin_66 Q kk12 kk24 x1 x2 x3 x4 x5 x6 x7 y0 σ) : zv_V G X M_X11_thin 66 [(0, .ref (G.2.2.1 45)), (1, .int x1), (2, .int x2), (3, .int x3), (4, .int x4), (5, .int x5), (6, .int x6), (7, .int x7)] [.int y0] σ := by
  unfold B_X11_thin_66 at h
  refine zv_istore hC dX11_thin_66 (by decide) ?_
  refine zv_iload hC dX11_thin_68 rfl ?_
  refine zv_if_ne (tgt := 115) hC dX11_thin_70 (by decide) (fun c => ?_) (fun c => ?_)
  · replace h := h.1 c
    exact zv_go (k_X11_thin_115 hC hR hk12 hk24 h) ⟨rfl, rfl, rfl, rfl, rfl, rfl, rfl, rfl, trivial⟩
  · replace h := h.2 c
    refine zv_iload hC dX11_thin_73 rfl ?_
    refine zv_if_eq (tgt := 119) hC dX11_thin_75 (by decide) (fun c => ?_) (fun c => ?_)
    · replace h := h.1 c
      exact zv_go (k_X11_thin_119 hC hR hk12 hk24 h) ⟨rfl, rfl, rfl, rfl, rfl, rfl, rfl, rfl, trivial⟩
    · replace h := h.2 c
      refine zv_aload_n hC dX11_thin_78 rfl ?_
      refine zv_getR (j := 73) hC fl_X11_94 dX11_thin_79 rfl rfl ?_
      refine zv_iload hC dX11_thin_82 rfl ?_
      refine zv_iald hC dX11_thin_84 rfl h.1 ?_
      replace h := h.2
      refine zv_iconst (v := 1) hC dX11_thin_85 (by decide) ?_
      refine zv_icmp_ne (tgt := 119) hC dX11_thin_86 (by decide) (fun c => ?_) (fun c => ?_)
      · replace h := h.1 c
        exact zv_go (k_X11_thin_119 hC hR hk12 hk24 h) ⟨rfl, rfl, rfl, rfl, rfl, rfl, rfl, rfl, trivial⟩
      · replace h := h.2 c
        refine zv_aload_n hC dX11_thin_89 rfl ?_
        refine zv_getR (j := 73) hC fl_X11_94 dX11_thin_90 rfl rfl ?_
        refine zv_iload hC dX11_thin_93 rfl ?_
        refine zv_iald hC dX11_thin_95 rfl h.1 ?_
        replace h := h.2
        refine zv_if_eq (tgt := 115) hC dX11_thin_96 (by decide) (fun c => ?_) (fun c => ?_)
        · replace h := h.1 c
          exact zv_go (k_X11_thin_115 hC hR hk12 hk24 h) ⟨rfl, rfl, rfl, rfl, rfl, rfl, rfl, rfl, trivial⟩
        · replace h := h.2 c
          refine zv_aload_n hC dX11_thin_99 rfl ?_
          refine zv_getR (j := 73) hC fl_X11_94 dX11_thin_100 rfl rfl ?_
          refine zv_iload hC dX11_thin_103 rfl ?_
          refine zv_iald hC dX11_thin_105 rfl h.1 ?_
          replace h := h.2
          refine zv_iconst (v := 1) hC dX11_thin_106 (by decide) ?_
          refine zv_icmp_ne (tgt := 119) hC dX11_thin_107 (by decide) (fun c => ?_) (fun c => ?_)
          · replace h := h.1 c
            exact zv_go (k_X11_thin_119 hC hR hk12 hk24 h) ⟨rfl, rfl, rfl, rfl, rfl, rfl, rfl, rfl, trivial⟩
          · replace h := h.2 c
            refine zv_iload hC dX11_thin_110 rfl ?_
            refine zv_if_eq (tgt := 119) hC dX11_thin_112 (by decide) (fun c => ?_) (fun c => ?_)
            · replace h := h.1 c
              exact zv_go (k_X11_thin_119 hC hR hk12 hk24 h) ⟨rfl, rfl, rfl, rfl, rfl, rfl, rfl, rfl, trivial⟩
            · replace h := h.2 c
              exact zv_go (k_X11_thin_115 hC hR hk12 hk24 h) ⟨rfl, rfl, rfl, rfl, rfl, rfl, rfl, rfl, trivial⟩
def B_X11_thin_52 (Q : Int32 → zv_St → Prop) (kk12 : Int32 → Int32 → Int32 → Int32 → zv_St → Prop) (kk24 : Int32 → Int32 → Int32 → Int32 → Int32 → Int32 → zv_St → Prop) (x1 : Int32) (x2 : Int32) (x3 : Int32) (x4 : Int32) (x5 : Int32) (x6 : Int32) (y0 : Int32) (σ : zv_St) : Prop :=
  (x4 ≤ x6 → (B_X11_thin_66 Q kk12 kk24 x1 x2 x3 x4 x5 x6 y0 0 σ)) ∧ (¬ x4 ≤ x6 → (B_X11_thin_66 Q kk12 kk24 x1 x2 x3 x4 x5 x6 y0 1 σ))
set_option maxRecDepth 20000 in
set_option maxHeartbeats 2000000 in
theorem k_X11_thin_52 {G : zv_G} {X : zv_X} {Q : Int32 → zv_St → Prop} {kk12 : Int32 → Int32 → Int32 → Int32 → zv_St → Prop} {kk24 : Int32 → Int32 → Int32 → Int32 → Int32 → Int32 → zv_St → Prop} (hC : zv_C G X M_X11_thin) (hR : zv_R G X M_X11_thin (zv_qi Q)) (hk12 : ∀ (x1 : Int32) (x2 : Int32) (x3 : Int32) (x4 : Int32) (σ : zv_St), kk12 x1 x2 x3 x4 σ → zv_V G X M_X11_thin 12 [(0, .ref (G.2.2.1 45)), (1, .int x1), (2, .int x2), (3, .int x3), (4, .int x4)] [] σ) (hk24 : ∀ (x1 : Int32) (x2 : Int32) (x3 : Int32) (x4 : Int32) (x5 : Int32) (x6 : Int32) (σ : zv_St), kk24 x1 x2 x3 x4 x5 x6 σ → zv_V G X M_X11_thin 24 [(0, .ref (G.2.2.1 45)), (1, .int x1), (2, .int x2), (3, .int x3), (4, .int x4), (5, .int x5), (6, .int x6)] [] σ) {x1 : Int32} {x2 : Int32} {x3 : Int32} {x4 : Int32} {x5 : Int32} {x6 : Int32} {y0 : Int32} {σ : zv_St} (h : B_X11_thin_52 Q kk12 kk24 x1 x2 x3 x4 x5 x6 y0 σ) : zv_V G X M_X11_thin 52 [(0, .ref (G.2.2.1 45)), (1, .int x1), (2, .int x2), (3, .int x3), (4, .int x4), (5, .int x5), (6, .int x6)] [.int y0] σ := by
  unfold B_X11_thin_52 at h
  refine zv_istore hC dX11_thin_52 (by decide) ?_
  refine zv_iload hC dX11_thin_54 rfl ?_
  refine zv_iload hC dX11_thin_56 rfl ?_
  refine zv_icmp_ge (tgt := 65) hC dX11_thin_58 (by decide) (fun c => ?_) (fun c => ?_)
  · replace h := h.1 c
    refine zv_iconst (v := 0) hC dX11_thin_65 (by decide) ?_
    exact zv_go (k_X11_thin_66 hC hR hk12 hk24 h) ⟨rfl, rfl, rfl, rfl, rfl, rfl, rfl, rfl, trivial⟩
  · replace h := h.2 c
    refine zv_iconst (v := 1) hC dX11_thin_61 (by decide) ?_
    refine zv_goto (tgt := 66) hC dX11_thin_62 (by decide) ?_
    exact zv_go (k_X11_thin_66 hC hR hk12 hk24 h) ⟨rfl, rfl, rfl, rfl, rfl, rfl, rfl, rfl, trivial⟩
def L_X11_thin_24 (Q : Int32 → zv_St → Prop) (kk12 : Int32 → Int32 → Int32 → Int32 → zv_St → Prop) : Nat → (Int32 → Int32 → Int32 → Int32 → Int32 → Int32 → zv_St → Prop)
  | 0 => fun _ _ _ _ _ _ _ => False
  | u + 1 => fun x1 x2 x3 x4 x5 x6 σ => 
    (x3 ≤ x6 → (vp_in x4 80 ∧ ∀ σ_1 : zv_St, σ_1 = zv_wi σ 75 x4.toNatClampNeg (vp_nar .boolean x5) → kk12 x1 x2 x3 (x4 + 1) σ_1)) ∧ (¬ x3 ≤ x6 → (vp_in x6 80 ∧ vp_in x4 80 ∧ (¬ (σ.1 74 x6.toNatClampNeg) = (σ.1 74 x4.toNatClampNeg) → (B_X11_thin_52 Q kk12 (L_X11_thin_24 Q kk12 u) x1 x2 x3 x4 x5 x6 0 σ)) ∧ ((σ.1 74 x6.toNatClampNeg) = (σ.1 74 x4.toNatClampNeg) → (B_X11_thin_52 Q kk12 (L_X11_thin_24 Q kk12 u) x1 x2 x3 x4 x5 x6 1 σ))))
set_option maxRecDepth 20000 in
set_option maxHeartbeats 2000000 in
theorem kL_X11_thin_24 {G : zv_G} {X : zv_X} {Q : Int32 → zv_St → Prop} {kk12 : Int32 → Int32 → Int32 → Int32 → zv_St → Prop} (hC : zv_C G X M_X11_thin) (hR : zv_R G X M_X11_thin (zv_qi Q)) (hk12 : ∀ (x1 : Int32) (x2 : Int32) (x3 : Int32) (x4 : Int32) (σ : zv_St), kk12 x1 x2 x3 x4 σ → zv_V G X M_X11_thin 12 [(0, .ref (G.2.2.1 45)), (1, .int x1), (2, .int x2), (3, .int x3), (4, .int x4)] [] σ) : ∀ (n : Nat) (x1 : Int32) (x2 : Int32) (x3 : Int32) (x4 : Int32) (x5 : Int32) (x6 : Int32) (σ : zv_St), L_X11_thin_24 Q kk12 n x1 x2 x3 x4 x5 x6 σ → zv_V G X M_X11_thin 24 [(0, .ref (G.2.2.1 45)), (1, .int x1), (2, .int x2), (3, .int x3), (4, .int x4), (5, .int x5), (6, .int x6)] [] σ := by
  intro n
  induction n with
  | zero => intro x1 x2 x3 x4 x5 x6 σ h; exact h.elim
  | succ n hk24 =>
    intro x1 x2 x3 x4 x5 x6 σ h
    unfold L_X11_thin_24 at h
    refine zv_iload hC dX11_thin_24 rfl ?_
    refine zv_iload_n hC dX11_thin_26 rfl ?_
    refine zv_icmp_ge (tgt := 209) hC dX11_thin_27 (by decide) (fun c => ?_) (fun c => ?_)
    · replace h := h.1 c
      refine zv_aload_n hC dX11_thin_209 rfl ?_
      refine zv_getR (j := 75) hC fl_X11_100 dX11_thin_210 rfl rfl ?_
      refine zv_iload hC dX11_thin_213 rfl ?_
      refine zv_iload hC dX11_thin_215 rfl ?_
      refine zv_zast hC dX11_thin_217 rfl h.1 ?_
      replace h := h.2 _ rfl
      refine zv_iinc (v := 1) hC dX11_thin_218 rfl (by decide) (by decide) ?_
      refine zv_goto (tgt := 12) hC dX11_thin_221 (by decide) ?_
      exact zv_go (hk12 _ _ _ _ _ h) ⟨rfl, rfl, rfl, rfl, rfl, trivial⟩
    · replace h := h.2 c
      refine zv_aload_n hC dX11_thin_30 rfl ?_
      refine zv_getR (j := 74) hC fl_X11_97 dX11_thin_31 rfl rfl ?_
      refine zv_iload hC dX11_thin_34 rfl ?_
      refine zv_iald hC dX11_thin_36 rfl h.1 ?_
      replace h := h.2
      refine zv_aload_n hC dX11_thin_37 rfl ?_
      refine zv_getR (j := 74) hC fl_X11_97 dX11_thin_38 rfl rfl ?_
      refine zv_iload hC dX11_thin_41 rfl ?_
      refine zv_iald hC dX11_thin_43 rfl h.1 ?_
      replace h := h.2
      refine zv_icmp_ne (tgt := 51) hC dX11_thin_44 (by decide) (fun c => ?_) (fun c => ?_)
      · replace h := h.1 c
        refine zv_iconst (v := 0) hC dX11_thin_51 (by decide) ?_
        exact zv_go (k_X11_thin_52 hC hR hk12 hk24 h) ⟨rfl, rfl, rfl, rfl, rfl, rfl, rfl, trivial⟩
      · replace h := h.2 c
        refine zv_iconst (v := 1) hC dX11_thin_47 (by decide) ?_
        refine zv_goto (tgt := 52) hC dX11_thin_48 (by decide) ?_
        exact zv_go (k_X11_thin_52 hC hR hk12 hk24 h) ⟨rfl, rfl, rfl, rfl, rfl, rfl, rfl, trivial⟩
def L_X11_thin_12 (Q : Int32 → zv_St → Prop) : Nat → (Int32 → Int32 → Int32 → Int32 → zv_St → Prop)
  | 0 => fun _ _ _ _ _ => False
  | u + 1 => fun x1 x2 x3 x4 σ => 
    (x3 ≤ x4 → (∃ n227, L_X11_thin_227 Q n227 x1 x2 x3 0 σ)) ∧ (¬ x3 ≤ x4 → (∃ n24, L_X11_thin_24 Q (L_X11_thin_12 Q u) n24 x1 x2 x3 x4 0 0 σ))
set_option maxRecDepth 20000 in
set_option maxHeartbeats 2000000 in
theorem kL_X11_thin_12 {G : zv_G} {X : zv_X} {Q : Int32 → zv_St → Prop}  (hC : zv_C G X M_X11_thin) (hR : zv_R G X M_X11_thin (zv_qi Q))  : ∀ (n : Nat) (x1 : Int32) (x2 : Int32) (x3 : Int32) (x4 : Int32) (σ : zv_St), L_X11_thin_12 Q  n x1 x2 x3 x4 σ → zv_V G X M_X11_thin 12 [(0, .ref (G.2.2.1 45)), (1, .int x1), (2, .int x2), (3, .int x3), (4, .int x4)] [] σ := by
  intro n
  induction n with
  | zero => intro x1 x2 x3 x4 σ h; exact h.elim
  | succ n hk12 =>
    intro x1 x2 x3 x4 σ h
    unfold L_X11_thin_12 at h
    refine zv_iload hC dX11_thin_12 rfl ?_
    refine zv_iload_n hC dX11_thin_14 rfl ?_
    refine zv_icmp_ge (tgt := 224) hC dX11_thin_15 (by decide) (fun c => ?_) (fun c => ?_)
    · replace h := h.1 c
      refine zv_iconst (v := 0) hC dX11_thin_224 (by decide) ?_
      refine zv_istore hC dX11_thin_225 (by decide) ?_
      obtain ⟨n, h⟩ := h
      exact zv_go (kL_X11_thin_227 hC hR  n _ _ _ _ _ h) ⟨rfl, rfl, rfl, rfl, rfl, trivial⟩
    · replace h := h.2 c
      refine zv_iconst (v := 0) hC dX11_thin_18 (by decide) ?_
      refine zv_istore hC dX11_thin_19 (by decide) ?_
      refine zv_iconst (v := 0) hC dX11_thin_21 (by decide) ?_
      refine zv_istore hC dX11_thin_22 (by decide) ?_
      obtain ⟨n, h⟩ := h
      exact zv_go (kL_X11_thin_24 hC hR hk12 n _ _ _ _ _ _ _ h) ⟨rfl, rfl, rfl, rfl, rfl, rfl, rfl, trivial⟩
def B_X11_thin (Q : Int32 → zv_St → Prop) (σ : zv_St) : Prop :=
  ∃ n12, L_X11_thin_12 Q n12 0 1 (σ.1 45 34) 0 σ
set_option maxRecDepth 20000 in
set_option maxHeartbeats 2000000 in
theorem k_X11_thin_0 {G : zv_G} {X : zv_X} {Q : Int32 → zv_St → Prop}  (hC : zv_C G X M_X11_thin) (hR : zv_R G X M_X11_thin (zv_qi Q))   {σ : zv_St} (h : B_X11_thin Q   σ) : zv_V G X M_X11_thin 0 [(0, .ref (G.2.2.1 45))] [] σ := by
  unfold B_X11_thin at h
  refine zv_iconst (v := 0) hC dX11_thin_0 (by decide) ?_
  refine zv_istore_n hC dX11_thin_1 (by decide) ?_
  refine zv_iconst (v := 1) hC dX11_thin_2 (by decide) ?_
  refine zv_istore_n hC dX11_thin_3 (by decide) ?_
  refine zv_aload_n hC dX11_thin_4 rfl ?_
  refine zv_getI hC fl_X11_199 dX11_thin_5 rfl rfl ?_
  refine zv_istore_n hC dX11_thin_8 (by decide) ?_
  refine zv_iconst (v := 0) hC dX11_thin_9 (by decide) ?_
  refine zv_istore hC dX11_thin_10 (by decide) ?_
  obtain ⟨n, h⟩ := h
  exact zv_go (kL_X11_thin_12 hC hR  n _ _ _ _ _ h) ⟨rfl, rfl, rfl, rfl, rfl, trivial⟩
theorem ok_X11_thin (G : zv_G) {Q : Int32 → zv_St → Prop}  {σ : zv_St} (h : B_X11_thin Q  σ) : zv_OK G M_X11_thin yX11_thin [.ref (G.2.2.1 45)] σ (zv_qi Q) := zv_ok G _ _ _ _ _ (by decide +kernel) rfl (Nat.le_of_ble_eq_true rfl) (fun X hC hR => zv_go (k_X11_thin_0 hC hR h) ⟨rfl, trivial⟩)
