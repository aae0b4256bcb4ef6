-- X4_matches
def B_X4_matches_185 (Q : Int32 → zv_St → Prop) (y0 : Int32) (σ : zv_St) : Prop :=
  narrow .boolean (.int y0) = .int y0 ∧ Q y0 σ
set_option maxRecDepth 20000 in
set_option maxHeartbeats 2000000 in
theorem k_X4_matches_185 {G : zv_G} {X : zv_X} {Q : Int32 → zv_St → Prop}  (hC : zv_C G X M_X4_matches) (hR : zv_R G X M_X4_matches (zv_qi Q))  {y0 : Int32} {σ : zv_St} (h : B_X4_matches_185 Q  y0 σ) : zv_V G X M_X4_matches 185 [] [.int y0] σ := by
  unfold B_X4_matches_185 at h
  exact (hR _ _ _).2.1 _ rfl h.1 dX4_matches_185 ⟨_, rfl, h.2⟩
def B_X4_matches_170 (Q : Int32 → zv_St → Prop) (x1 : Int32) (σ : zv_St) : Prop :=
  vp_in x1 80 ∧ (¬ (σ.1 28 x1.toNatClampNeg) = 1 → (B_X4_matches_185 Q 0 σ)) ∧ ((σ.1 28 x1.toNatClampNeg) = 1 → (B_X4_matches_185 Q 1 σ))
set_option maxRecDepth 20000 in
set_option maxHeartbeats 2000000 in
theorem k_X4_matches_170 {G : zv_G} {X : zv_X} {Q : Int32 → zv_St → Prop}  (hC : zv_C G X M_X4_matches) (hR : zv_R G X M_X4_matches (zv_qi Q))  {x1 : Int32} {σ : zv_St} (h : B_X4_matches_170 Q  x1 σ) : zv_V G X M_X4_matches 170 [(0, .ref (G.2.2.1 27)), (1, .int x1)] [] σ := by
  unfold B_X4_matches_170 at h
  refine zv_aload_n hC dX4_matches_170 rfl ?_
  refine zv_getR (j := 28) hC fl_X4_9 dX4_matches_171 rfl rfl ?_
  refine zv_iload_n hC dX4_matches_174 rfl ?_
  refine zv_iald hC dX4_matches_175 rfl h.1 ?_
  replace h := h.2
  refine zv_iconst (v := 1) hC dX4_matches_176 (by decide) ?_
  refine zv_icmp_ne (tgt := 184) hC dX4_matches_177 (by decide) (fun c => ?_) (fun c => ?_)
  · replace h := h.1 c
    refine zv_iconst (v := 0) hC dX4_matches_184 (by decide) ?_
    exact zv_go (k_X4_matches_185 hC hR  h) trivial
  · replace h := h.2 c
    refine zv_iconst (v := 1) hC dX4_matches_180 (by decide) ?_
    refine zv_goto (tgt := 185) hC dX4_matches_181 (by decide) ?_
    exact zv_go (k_X4_matches_185 hC hR  h) trivial
def B_X4_matches_164 (Q : Int32 → zv_St → Prop) (kk34 : Int32 → Int32 → Int32 → Int32 → zv_St → Prop) (x1 : Int32) (x2 : Int32) (x3 : Int32) (x4 : Int32) (σ : zv_St) : Prop :=
  kk34 x1 x2 x3 (x4 + 1) σ
set_option maxRecDepth 20000 in
set_option maxHeartbeats 2000000 in
theorem k_X4_matches_164 {G : zv_G} {X : zv_X} {Q : Int32 → zv_St → Prop} {kk34 : Int32 → Int32 → Int32 → Int32 → zv_St → Prop} (hC : zv_C G X M_X4_matches) (hR : zv_R G X M_X4_matches (zv_qi Q)) (hk34 : ∀ (x1 : Int32) (x2 : Int32) (x3 : Int32) (x4 : Int32) (σ : zv_St), kk34 x1 x2 x3 x4 σ → zv_V G X M_X4_matches 34 [(0, .ref (G.2.2.1 27)), (1, .int x1), (2, .int x2), (3, .int x3), (4, .int x4)] [] σ) {x1 : Int32} {x2 : Int32} {x3 : Int32} {x4 : Int32} {σ : zv_St} (h : B_X4_matches_164 Q kk34 x1 x2 x3 x4 σ) : zv_V G X M_X4_matches 164 [(0, .ref (G.2.2.1 27)), (1, .int x1), (2, .int x2), (3, .int x3), (4, .int x4)] [] σ := by
  unfold B_X4_matches_164 at h
  refine zv_iinc (v := 1) hC dX4_matches_164 rfl (by decide) (by decide) ?_
  refine zv_goto (tgt := 34) hC dX4_matches_167 (by decide) ?_
  exact zv_go (hk34 _ _ _ _ _ h) ⟨rfl, rfl, rfl, rfl, rfl, trivial⟩
def B_X4_matches_160 (Q : Int32 → zv_St → Prop) (kk34 : Int32 → Int32 → Int32 → Int32 → zv_St → Prop) (x1 : Int32) (x2 : Int32) (x3 : Int32) (x4 : Int32) (y1 : Int32) (y2 : Int64) (σ : zv_St) : Prop :=
  vp_in y1 80 ∧ ∀ σ_1 : zv_St, σ_1 = zv_wl σ 29 y1.toNatClampNeg y2 → B_X4_matches_164 Q kk34 x1 x2 (x3 + (-1)) x4 σ_1
set_option maxRecDepth 20000 in
set_option maxHeartbeats 2000000 in
theorem k_X4_matches_160 {G : zv_G} {X : zv_X} {Q : Int32 → zv_St → Prop} {kk34 : Int32 → Int32 → Int32 → Int32 → zv_St → Prop} (hC : zv_C G X M_X4_matches) (hR : zv_R G X M_X4_matches (zv_qi Q)) (hk34 : ∀ (x1 : Int32) (x2 : Int32) (x3 : Int32) (x4 : Int32) (σ : zv_St), kk34 x1 x2 x3 x4 σ → zv_V G X M_X4_matches 34 [(0, .ref (G.2.2.1 27)), (1, .int x1), (2, .int x2), (3, .int x3), (4, .int x4)] [] σ) {x1 : Int32} {x2 : Int32} {x3 : Int32} {x4 : Int32} {y1 : Int32} {y2 : Int64} {σ : zv_St} (h : B_X4_matches_160 Q kk34 x1 x2 x3 x4 y1 y2 σ) : zv_V G X M_X4_matches 160 [(0, .ref (G.2.2.1 27)), (1, .int x1), (2, .int x2), (3, .int x3), (4, .int x4)] [.long y2, .int y1, .ref (G.2.2.1 29)] σ := by
  unfold B_X4_matches_160 at h
  refine zv_last hC dX4_matches_160 rfl h.1 ?_
  replace h := h.2 _ rfl
  refine zv_iinc (v := (-1)) hC dX4_matches_161 rfl (by decide) (by decide) ?_
  exact zv_go (k_X4_matches_164 hC hR hk34 h) ⟨rfl, rfl, rfl, rfl, rfl, trivial⟩
def B_X4_matches_137 (Q : Int32 → zv_St → Prop) (kk34 : Int32 → Int32 → Int32 → Int32 → zv_St → Prop) (x1 : Int32) (x2 : Int32) (x3 : Int32) (x4 : Int32) (x5 : Int32) (x7 : Int32) (y1 : Int32) (y2 : Int32) (σ : zv_St) : Prop :=
  vp_in y1 80 ∧ ∀ σ_1 : zv_St, σ_1 = zv_wi σ 28 y1.toNatClampNeg y2 → (x7 = 0 → (B_X4_matches_160 Q kk34 x1 x2 x3 x4 x5 0 σ_1)) ∧ (¬ x7 = 0 → (B_X4_scoreByParts (fun r_3 σ_2 => B_X4_matches_160 Q kk34 x1 x2 x3 x4 x5 r_3 σ_2) x5 x2 σ_1))
set_option maxRecDepth 20000 in
set_option maxHeartbeats 2000000 in
theorem k_X4_matches_137 {G : zv_G} {X : zv_X} {Q : Int32 → zv_St → Prop} {kk34 : Int32 → Int32 → Int32 → Int32 → zv_St → Prop} (hC : zv_C G X M_X4_matches) (hR : zv_R G X M_X4_matches (zv_qi Q)) (hk34 : ∀ (x1 : Int32) (x2 : Int32) (x3 : Int32) (x4 : Int32) (σ : zv_St), kk34 x1 x2 x3 x4 σ → zv_V G X M_X4_matches 34 [(0, .ref (G.2.2.1 27)), (1, .int x1), (2, .int x2), (3, .int x3), (4, .int x4)] [] σ) {x1 : Int32} {x2 : Int32} {x3 : Int32} {x4 : Int32} {x5 : Int32} {x7 : Int32} {y1 : Int32} {y2 : Int32} {σ : zv_St} (h : B_X4_matches_137 Q kk34 x1 x2 x3 x4 x5 x7 y1 y2 σ) : zv_V G X M_X4_matches 137 [(0, .ref (G.2.2.1 27)), (1, .int x1), (2, .int x2), (3, .int x3), (4, .int x4), (5, .int x5), (7, .int x7)] [.int y2, .int y1, .ref (G.2.2.1 28)] σ := by
  unfold B_X4_matches_137 at h
  refine zv_iast hC dX4_matches_137 rfl h.1 ?_
  replace h := h.2 _ rfl
  refine zv_aload_n hC dX4_matches_138 rfl ?_
  refine zv_getR (j := 29) hC fl_X4_15 dX4_matches_139 rfl rfl ?_
  refine zv_iload hC dX4_matches_142 rfl ?_
  refine zv_iload hC dX4_matches_144 rfl ?_
  refine zv_if_eq (tgt := 159) hC dX4_matches_146 (by decide) (fun c => ?_) (fun c => ?_)
  · replace h := h.1 c
    refine zv_lconst (v := 0) hC dX4_matches_159 (by decide) ?_
    exact zv_go (k_X4_matches_160 hC hR hk34 h) ⟨rfl, rfl, rfl, rfl, rfl, trivial⟩
  · replace h := h.2 c
    refine zv_aload_n hC dX4_matches_149 rfl ?_
    refine zv_iload hC dX4_matches_150 rfl ?_
    refine zv_iload_n hC dX4_matches_152 rfl ?_
    refine zv_callVl (As := [_, _]) hC dX4_matches_153 Y_X4_scoreByParts lk_X4_57 (by decide) rfl rfl rfl (Nat.le_of_ble_eq_true rfl) (ok_X4_scoreByParts G h) ?_
    intro r_3 σ_2 h
    refine zv_goto (tgt := 160) hC dX4_matches_156 (by decide) ?_
    exact zv_go (k_X4_matches_160 hC hR hk34 h) ⟨rfl, rfl, rfl, rfl, rfl, trivial⟩
def B_X4_matches_119 (Q : Int32 → zv_St → Prop) (kk34 : Int32 → Int32 → Int32 → Int32 → zv_St → Prop) (x1 : Int32) (x2 : Int32) (x3 : Int32) (x4 : Int32) (x5 : Int32) (y0 : Int32) (σ : zv_St) : Prop :=
  (y0 = 0 → (B_X4_matches_137 Q kk34 x1 x2 x3 x4 x5 y0 x5 2 σ)) ∧ (¬ y0 = 0 → (B_X4_matches_137 Q kk34 x1 x2 x3 x4 x5 y0 x5 1 σ))
set_option maxRecDepth 20000 in
set_option maxHeartbeats 2000000 in
theorem k_X4_matches_119 {G : zv_G} {X : zv_X} {Q : Int32 → zv_St → Prop} {kk34 : Int32 → Int32 → Int32 → Int32 → zv_St → Prop} (hC : zv_C G X M_X4_matches) (hR : zv_R G X M_X4_matches (zv_qi Q)) (hk34 : ∀ (x1 : Int32) (x2 : Int32) (x3 : Int32) (x4 : Int32) (σ : zv_St), kk34 x1 x2 x3 x4 σ → zv_V G X M_X4_matches 34 [(0, .ref (G.2.2.1 27)), (1, .int x1), (2, .int x2), (3, .int x3), (4, .int x4)] [] σ) {x1 : Int32} {x2 : Int32} {x3 : Int32} {x4 : Int32} {x5 : Int32} {y0 : Int32} {σ : zv_St} (h : B_X4_matches_119 Q kk34 x1 x2 x3 x4 x5 y0 σ) : zv_V G X M_X4_matches 119 [(0, .ref (G.2.2.1 27)), (1, .int x1), (2, .int x2), (3, .int x3), (4, .int x4), (5, .int x5)] [.int y0] σ := by
  unfold B_X4_matches_119 at h
  refine zv_istore hC dX4_matches_119 (by decide) ?_
  refine zv_aload_n hC dX4_matches_121 rfl ?_
  refine zv_getR (j := 28) hC fl_X4_9 dX4_matches_122 rfl rfl ?_
  refine zv_iload hC dX4_matches_125 rfl ?_
  refine zv_iload hC dX4_matches_127 rfl ?_
  refine zv_if_eq (tgt := 136) hC dX4_matches_129 (by decide) (fun c => ?_) (fun c => ?_)
  · replace h := h.1 c
    refine zv_iconst (v := 2) hC dX4_matches_136 (by decide) ?_
    exact zv_go (k_X4_matches_137 hC hR hk34 h) ⟨rfl, rfl, rfl, rfl, rfl, rfl, rfl, trivial⟩
  · replace h := h.2 c
    refine zv_iconst (v := 1) hC dX4_matches_132 (by decide) ?_
    refine zv_goto (tgt := 137) hC dX4_matches_133 (by decide) ?_
    exact zv_go (k_X4_matches_137 hC hR hk34 h) ⟨rfl, rfl, rfl, rfl, rfl, rfl, rfl, trivial⟩
def B_X4_matches_118 (Q : Int32 → zv_St → Prop) (kk34 : Int32 → Int32 → Int32 → Int32 → zv_St → Prop) (x1 : Int32) (x2 : Int32) (x3 : Int32) (x4 : Int32) (x5 : Int32) (σ : zv_St) : Prop :=
  B_X4_matches_119 Q kk34 x1 x2 x3 x4 x5 0 σ
set_option maxRecDepth 20000 in
set_option maxHeartbeats 2000000 in
theorem k_X4_matches_118 {G : zv_G} {X : zv_X} {Q : Int32 → zv_St → Prop} {kk34 : Int32 → Int32 → Int32 → Int32 → zv_St → Prop} (hC : zv_C G X M_X4_matches) (hR : zv_R G X M_X4_matches (zv_qi Q)) (hk34 : ∀ (x1 : Int32) (x2 : Int32) (x3 : Int32) (x4 : Int32) (σ : zv_St), kk34 x1 x2 x3 x4 σ → zv_V G X M_X4_matches 34 [(0, .ref (G.2.2.1 27)), (1, .int x1), (2, .int x2), (3, .int x3), (4, .int x4)] [] σ) {x1 : Int32} {x2 : Int32} {x3 : Int32} {x4 : Int32} {x5 : Int32} {σ : zv_St} (h : B_X4_matches_118 Q kk34 x1 x2 x3 x4 x5 σ) : zv_V G X M_X4_matches 118 [(0, .ref (G.2.2.1 27)), (1, .int x1), (2, .int x2), (3, .int x3), (4, .int x4), (5, .int x5)] [] σ := by
  unfold B_X4_matches_118 at h
  refine zv_iconst (v := 0) hC dX4_matches_118 (by decide) ?_
  exact zv_go (k_X4_matches_119 hC hR hk34 h) ⟨rfl, rfl, rfl, rfl, rfl, rfl, trivial⟩
def B_X4_matches_91 (Q : Int32 → zv_St → Prop) (kk34 : Int32 → Int32 → Int32 → Int32 → zv_St → Prop) (x1 : Int32) (x2 : Int32) (x3 : Int32) (x4 : Int32) (x5 : Int32) (σ : zv_St) : Prop :=
  B_X0_maybe (fun r_2 σ_1 => (r_2 = 0 → (B_X4_matches_118 Q kk34 x1 x2 x3 x4 x5 σ_1)) ∧ (¬ r_2 = 0 → (B_X4_fitsByParts (fun r_4 σ_3 => (r_4 = 0 → (B_X4_matches_118 Q kk34 x1 x2 x3 x4 x5 σ_3)) ∧ (¬ r_4 = 0 → (B_X4_matches_119 Q kk34 x1 x2 x3 x4 x5 1 σ_3))) x5 x2 σ_1))) x5 x2 σ
set_option maxRecDepth 20000 in
set_option maxHeartbeats 2000000 in
theorem k_X4_matches_91 {G : zv_G} {X : zv_X} {Q : Int32 → zv_St → Prop} {kk34 : Int32 → Int32 → Int32 → Int32 → zv_St → Prop} (hC : zv_C G X M_X4_matches) (hR : zv_R G X M_X4_matches (zv_qi Q)) (hk34 : ∀ (x1 : Int32) (x2 : Int32) (x3 : Int32) (x4 : Int32) (σ : zv_St), kk34 x1 x2 x3 x4 σ → zv_V G X M_X4_matches 34 [(0, .ref (G.2.2.1 27)), (1, .int x1), (2, .int x2), (3, .int x3), (4, .int x4)] [] σ) {x1 : Int32} {x2 : Int32} {x3 : Int32} {x4 : Int32} {x5 : Int32} {σ : zv_St} (h : B_X4_matches_91 Q kk34 x1 x2 x3 x4 x5 σ) : zv_V G X M_X4_matches 91 [(0, .ref (G.2.2.1 27)), (1, .int x1), (2, .int x2), (3, .int x3), (4, .int x4), (5, .int x5)] [] σ := by
  unfold B_X4_matches_91 at h
  refine zv_aload_n hC dX4_matches_91 rfl ?_
  refine zv_getR (j := 19) hC fl_X4_34 dX4_matches_92 rfl rfl ?_
  refine zv_iload hC dX4_matches_95 rfl ?_
  refine zv_iload_n hC dX4_matches_97 rfl ?_
  refine zv_callVi (As := [_, _]) hC dX4_matches_98 Y_X0_maybe lk_X4_38 (by decide) rfl rfl rfl (Nat.le_of_ble_eq_true rfl) (ok_X0_maybe G h) ?_
  intro r_2 σ_1 h
  refine zv_if_eq (tgt := 118) hC dX4_matches_101 (by decide) (fun c => ?_) (fun c => ?_)
  · replace h := h.1 c
    exact zv_go (k_X4_matches_118 hC hR hk34 h) ⟨rfl, rfl, rfl, rfl, rfl, rfl, trivial⟩
  · replace h := h.2 c
    refine zv_aload_n hC dX4_matches_104 rfl ?_
    refine zv_iload hC dX4_matches_105 rfl ?_
    refine zv_iload_n hC dX4_matches_107 rfl ?_
    refine zv_callVi (As := [_, _]) hC dX4_matches_108 Y_X4_fitsByParts lk_X4_54 (by decide) rfl rfl rfl (Nat.le_of_ble_eq_true rfl) (ok_X4_fitsByParts G h) ?_
    intro r_4 σ_3 h
    refine zv_if_eq (tgt := 118) hC dX4_matches_111 (by decide) (fun c => ?_) (fun c => ?_)
    · replace h := h.1 c
      exact zv_go (k_X4_matches_118 hC hR hk34 h) ⟨rfl, rfl, rfl, rfl, rfl, rfl, trivial⟩
    · replace h := h.2 c
      refine zv_iconst (v := 1) hC dX4_matches_114 (by decide) ?_
      refine zv_goto (tgt := 119) hC dX4_matches_115 (by decide) ?_
      exact zv_go (k_X4_matches_119 hC hR hk34 h) ⟨rfl, rfl, rfl, rfl, rfl, rfl, trivial⟩
def L_X4_matches_34 (Q : Int32 → zv_St → Prop) : Nat → (Int32 → Int32 → Int32 → Int32 → zv_St → Prop)
  | 0 => fun _ _ _ _ _ => False
  | u + 1 => fun x1 x2 x3 x4 σ => 
    (160 ≤ x4 → (B_X4_matches_170 Q x1 σ)) ∧ (¬ 160 ≤ x4 → ((x3 ≤ 0 → (B_X4_matches_170 Q x1 σ)) ∧ (¬ x3 ≤ 0 → (vp_in (x3 - 1) 80 ∧ ∀ v_1 : Int32, v_1 = (σ.1 30 (x3 - 1).toNatClampNeg) → B_X4_wantedBy (fun r_3 σ_2 => (r_3 = (-1) → (B_X4_matches_91 Q (L_X4_matches_34 Q u) x1 x2 x3 x4 v_1 σ_2)) ∧ (¬ r_3 = (-1) → ((80 ≤ x3 → (B_X4_matches_91 Q (L_X4_matches_34 Q u) x1 x2 x3 x4 v_1 σ_2)) ∧ (¬ 80 ≤ x3 → (vp_in x3 80 ∧ ∀ σ_4 : zv_St, σ_4 = zv_wi σ_2 30 x3.toNatClampNeg r_3 → B_X4_matches_164 Q (L_X4_matches_34 Q u) x1 x2 (x3 + 1) x4 σ_4))))) v_1 x2 σ))))
set_option maxRecDepth 20000 in
set_option maxHeartbeats 2000000 in
theorem kL_X4_matches_34 {G : zv_G} {X : zv_X} {Q : Int32 → zv_St → Prop}  (hC : zv_C G X M_X4_matches) (hR : zv_R G X M_X4_matches (zv_qi Q))  : ∀ (n : Nat) (x1 : Int32) (x2 : Int32) (x3 : Int32) (x4 : Int32) (σ : zv_St), L_X4_matches_34 Q  n x1 x2 x3 x4 σ → zv_V G X M_X4_matches 34 [(0, .ref (G.2.2.1 27)), (1, .int x1), (2, .int x2), (3, .int x3), (4, .int x4)] [] σ := by
  intro n
  induction n with
  | zero => intro x1 x2 x3 x4 σ h; exact h.elim
  | succ n hk34 =>
    intro x1 x2 x3 x4 σ h
    unfold L_X4_matches_34 at h
    refine zv_iload hC dX4_matches_34 rfl ?_
    refine zv_sipush (v := 160) hC dX4_matches_36 (by decide) ?_
    refine zv_icmp_ge (tgt := 170) hC dX4_matches_39 (by decide) (fun c => ?_) (fun c => ?_)
    · replace h := h.1 c
      exact zv_go (k_X4_matches_170 hC hR  h) ⟨rfl, rfl, trivial⟩
    · replace h := h.2 c
      refine zv_iload_n hC dX4_matches_42 rfl ?_
      refine zv_if_le (tgt := 170) hC dX4_matches_43 (by decide) (fun c => ?_) (fun c => ?_)
      · replace h := h.1 c
        exact zv_go (k_X4_matches_170 hC hR  h) ⟨rfl, rfl, trivial⟩
      · replace h := h.2 c
        refine zv_aload_n hC dX4_matches_46 rfl ?_
        refine zv_getR (j := 30) hC fl_X4_19 dX4_matches_47 rfl rfl ?_
        refine zv_iload_n hC dX4_matches_50 rfl ?_
        refine zv_iconst (v := 1) hC dX4_matches_51 (by decide) ?_
        refine zv_isub hC dX4_matches_52 ?_
        refine zv_iald hC dX4_matches_53 rfl h.1 ?_
        replace h := h.2
        replace h := h _ rfl
        refine zv_istore hC dX4_matches_54 (by decide) ?_
        refine zv_aload_n hC dX4_matches_56 rfl ?_
        refine zv_iload hC dX4_matches_57 rfl ?_
        refine zv_iload_n hC dX4_matches_59 rfl ?_
        refine zv_callVi (As := [_, _]) hC dX4_matches_60 Y_X4_wantedBy lk_X4_50 (by decide) rfl rfl rfl (Nat.le_of_ble_eq_true rfl) (ok_X4_wantedBy G h) ?_
        intro r_3 σ_2 h
        refine zv_istore hC dX4_matches_63 (by decide) ?_
        refine zv_iload hC dX4_matches_65 rfl ?_
        refine zv_iconst (v := (-1)) hC dX4_matches_67 (by decide) ?_
        refine zv_icmp_eq (tgt := 91) hC dX4_matches_68 (by decide) (fun c => ?_) (fun c => ?_)
        · replace h := h.1 c
          exact zv_go (k_X4_matches_91 hC hR hk34 h) ⟨rfl, rfl, rfl, rfl, rfl, rfl, trivial⟩
        · replace h := h.2 c
          refine zv_iload_n hC dX4_matches_71 rfl ?_
          refine zv_bipush (v := 80) hC dX4_matches_72 (by decide) ?_
          refine zv_icmp_ge (tgt := 91) hC dX4_matches_74 (by decide) (fun c => ?_) (fun c => ?_)
          · replace h := h.1 c
            exact zv_go (k_X4_matches_91 hC hR hk34 h) ⟨rfl, rfl, rfl, rfl, rfl, rfl, trivial⟩
          · replace h := h.2 c
            refine zv_aload_n hC dX4_matches_77 rfl ?_
            refine zv_getR (j := 30) hC fl_X4_19 dX4_matches_78 rfl rfl ?_
            refine zv_iload_n hC dX4_matches_81 rfl ?_
            refine zv_iload hC dX4_matches_82 rfl ?_
            refine zv_iast hC dX4_matches_84 rfl h.1 ?_
            replace h := h.2 _ rfl
            refine zv_iinc (v := 1) hC dX4_matches_85 rfl (by decide) (by decide) ?_
            refine zv_goto (tgt := 164) hC dX4_matches_88 (by decide) ?_
            exact zv_go (k_X4_matches_164 hC hR hk34 h) ⟨rfl, rfl, rfl, rfl, rfl, trivial⟩
def B_X4_matches (Q : Int32 → zv_St → Prop) (x1 : Int32) (x2 : Int32) (σ : zv_St) : Prop :=
  B_X0_maybe (fun r_2 σ_1 => (¬ r_2 = 0 → (B_J7_fill_53178 (fun σ_3 => vp_in 0 80 ∧ ∀ σ_4 : zv_St, σ_4 = zv_wi σ_3 30 (0 : Int32).toNatClampNeg x1 → ∃ n34, L_X4_matches_34 Q n34 x1 x2 1 0 σ_4) 0 σ_1)) ∧ (r_2 = 0 → (Q 0 σ_1))) x1 x2 σ
set_option maxRecDepth 20000 in
set_option maxHeartbeats 2000000 in
theorem k_X4_matches_0 {G : zv_G} {X : zv_X} {Q : Int32 → zv_St → Prop}  (hC : zv_C G X M_X4_matches) (hR : zv_R G X M_X4_matches (zv_qi Q))  {x1 : Int32} {x2 : Int32} {σ : zv_St} (h : B_X4_matches Q  x1 x2 σ) : zv_V G X M_X4_matches 0 [(0, .ref (G.2.2.1 27)), (1, .int x1), (2, .int x2)] [] σ := by
  unfold B_X4_matches at h
  refine zv_aload_n hC dX4_matches_0 rfl ?_
  refine zv_getR (j := 19) hC fl_X4_34 dX4_matches_1 rfl rfl ?_
  refine zv_iload_n hC dX4_matches_4 rfl ?_
  refine zv_iload_n hC dX4_matches_5 rfl ?_
  refine zv_callVi (As := [_, _]) hC dX4_matches_6 Y_X0_maybe lk_X4_38 (by decide) rfl rfl rfl (Nat.le_of_ble_eq_true rfl) (ok_X0_maybe G h) ?_
  intro r_2 σ_1 h
  refine zv_if_ne (tgt := 14) hC dX4_matches_9 (by decide) (fun c => ?_) (fun c => ?_)
  · replace h := h.1 c
    refine zv_aload_n hC dX4_matches_14 rfl ?_
    refine zv_getR (j := 28) hC fl_X4_9 dX4_matches_15 rfl rfl ?_
    refine zv_iconst (v := 0) hC dX4_matches_18 (by decide) ?_
    refine zv_callSv (As := [_, _]) hC dX4_matches_19 Y_J7_fill_53178 lk_X4_44 (by decide) rfl rfl (Nat.le_of_ble_eq_true rfl) (ok_J7_fill_53178 G h) ?_
    intro σ_3 h
    refine zv_aload_n hC dX4_matches_22 rfl ?_
    refine zv_getR (j := 30) hC fl_X4_19 dX4_matches_23 rfl rfl ?_
    refine zv_iconst (v := 0) hC dX4_matches_26 (by decide) ?_
    refine zv_iload_n hC dX4_matches_27 rfl ?_
    refine zv_iast hC dX4_matches_28 rfl h.1 ?_
    replace h := h.2 _ rfl
    refine zv_iconst (v := 1) hC dX4_matches_29 (by decide) ?_
    refine zv_istore_n hC dX4_matches_30 (by decide) ?_
    refine zv_iconst (v := 0) hC dX4_matches_31 (by decide) ?_
    refine zv_istore hC dX4_matches_32 (by decide) ?_
    obtain ⟨n, h⟩ := h
    exact zv_go (kL_X4_matches_34 hC hR  n _ _ _ _ _ h) ⟨rfl, rfl, rfl, rfl, rfl, trivial⟩
  · replace h := h.2 c
    refine zv_iconst (v := 0) hC dX4_matches_12 (by decide) ?_
    exact (hR _ _ _).2.1 _ rfl rfl dX4_matches_13 ⟨_, rfl, h⟩
theorem ok_X4_matches (G : zv_G) {Q : Int32 → zv_St → Prop} {x1 : Int32} {x2 : Int32} {σ : zv_St} (h : B_X4_matches Q x1 x2 σ) : zv_OK G M_X4_matches yX4_matches [.ref (G.2.2.1 27), .int x1, .int x2] σ (zv_qi Q) := zv_ok G _ _ _ _ _ (by decide +kernel) rfl (Nat.le_of_ble_eq_true rfl) (fun X hC hR => zv_go (k_X4_matches_0 hC hR h) ⟨rfl, rfl, rfl, trivial⟩)
-- X4_scoreOf
def B_X4_scoreOf (Q : Int64 → zv_St → Prop) (x1 : Int32) (σ : zv_St) : Prop :=
  vp_in x1 80 ∧ Q (σ.2 29 x1.toNatClampNeg) σ
set_option maxRecDepth 20000 in
set_option maxHeartbeats 2000000 in
theorem k_X4_scoreOf_0 {G : zv_G} {X : zv_X} {Q : Int64 → zv_St → Prop}  (hC : zv_C G X M_X4_scoreOf) (hR : zv_R G X M_X4_scoreOf (zv_ql Q))  {x1 : Int32} {σ : zv_St} (h : B_X4_scoreOf Q  x1 σ) : zv_V G X M_X4_scoreOf 0 [(0, .ref (G.2.2.1 27)), (1, .int x1)] [] σ := by
  unfold B_X4_scoreOf at h
  refine zv_aload_n hC dX4_scoreOf_0 rfl ?_
  refine zv_getR (j := 29) hC fl_X4_15 dX4_scoreOf_1 rfl rfl ?_
  refine zv_iload_n hC dX4_scoreOf_4 rfl ?_
  refine zv_lald hC dX4_scoreOf_5 rfl h.1 ?_
  replace h := h.2
  exact (hR _ _ _).2.2.1 _ rfl dX4_scoreOf_6 ⟨_, rfl, h⟩
theorem ok_X4_scoreOf (G : zv_G) {Q : Int64 → zv_St → Prop} {x1 : Int32} {σ : zv_St} (h : B_X4_scoreOf Q x1 σ) : zv_OK G M_X4_scoreOf yX4_scoreOf [.ref (G.2.2.1 27), .int x1] σ (zv_ql Q) := zv_ok G _ _ _ _ _ (by decide +kernel) rfl (Nat.le_of_ble_eq_true rfl) (fun X hC hR => zv_go (k_X4_scoreOf_0 hC hR h) ⟨rfl, rfl, trivial⟩)
-- X10_look
def B_X10_look_18 (Q : Int32 → zv_St → Prop) (σ : zv_St) : Prop :=
  Q (-2) σ
set_option maxRecDepth 20000 in
set_option maxHeartbeats 2000000 in
theorem k_X10_look_18 {G : zv_G} {X : zv_X} {Q : Int32 → zv_St → Prop}  (hC : zv_C G X M_X10_look) (hR : zv_R G X M_X10_look (zv_qi Q))   {σ : zv_St} (h : B_X10_look_18 Q   σ) : zv_V G X M_X10_look 18 [] [] σ := by
  unfold B_X10_look_18 at h
  refine zv_bipush (v := (-2)) hC dX10_look_18 (by decide) ?_
  exact (hR _ _ _).1 _ rfl dX10_look_20 ⟨_, rfl, h⟩
def B_X10_look (Q : Int32 → zv_St → Prop) (x1 : Int32) (x2 : Int32) (σ : zv_St) : Prop :=
  B_X5_has (fun r_2 σ_1 => (r_2 = 0 → (B_X10_look_18 Q σ_1)) ∧ (¬ r_2 = 0 → (B_X10_isObject (fun r_4 σ_3 => (¬ r_4 = 0 → (B_X0_prepare (fun σ_5 => B_X4_matches (fun r_7 σ_6 => (¬ r_7 = 0 → (B_X4_scoreOf (fun r_9 σ_8 => ∀ σ_10 : zv_St, σ_10 = zv_wl σ_8 0 8 r_9 → Q 1 σ_10) x1 σ_6)) ∧ (r_7 = 0 → (Q 0 σ_6))) x1 x2 σ_5) x1 σ_3)) ∧ (r_4 = 0 → (B_X10_look_18 Q σ_3))) x2 σ_1))) x1 σ
set_option maxRecDepth 20000 in
set_option maxHeartbeats 2000000 in
theorem k_X10_look_0 {G : zv_G} {X : zv_X} {Q : Int32 → zv_St → Prop}  (hC : zv_C G X M_X10_look) (hR : zv_R G X M_X10_look (zv_qi Q))  {x1 : Int32} {x2 : Int32} {σ : zv_St} (h : B_X10_look Q  x1 x2 σ) : zv_V G X M_X10_look 0 [(0, .ref (G.2.2.1 0)), (1, .int x1), (2, .int x2)] [] σ := by
  unfold B_X10_look at h
  refine zv_aload_n hC dX10_look_0 rfl ?_
  refine zv_getR (j := 5) hC fl_X10_19 dX10_look_1 rfl rfl ?_
  refine zv_iload_n hC dX10_look_4 rfl ?_
  refine zv_callVi (As := [_]) hC dX10_look_5 Y_X5_has lk_X10_118 (by decide) rfl rfl rfl (Nat.le_of_ble_eq_true rfl) (ok_X5_has G h) ?_
  intro r_2 σ_1 h
  refine zv_if_eq (tgt := 18) hC dX10_look_8 (by decide) (fun c => ?_) (fun c => ?_)
  · replace h := h.1 c
    exact zv_go (k_X10_look_18 hC hR  h) trivial
  · replace h := h.2 c
    refine zv_iload_n hC dX10_look_11 rfl ?_
    refine zv_callSi (As := [_]) hC dX10_look_12 Y_X10_isObject lk_X10_77 (by decide) rfl rfl (Nat.le_of_ble_eq_true rfl) (ok_X10_isObject G h) ?_
    intro r_4 σ_3 h
    refine zv_if_ne (tgt := 21) hC dX10_look_15 (by decide) (fun c => ?_) (fun c => ?_)
    · replace h := h.1 c
      refine zv_aload_n hC dX10_look_21 rfl ?_
      refine zv_getR (j := 19) hC fl_X10_37 dX10_look_22 rfl rfl ?_
      refine zv_iload_n hC dX10_look_25 rfl ?_
      refine zv_callVv (As := [_]) hC dX10_look_26 Y_X0_prepare lk_X10_143 (by decide) rfl rfl rfl (Nat.le_of_ble_eq_true rfl) (ok_X0_prepare G h) ?_
      intro σ_5 h
      refine zv_aload_n hC dX10_look_29 rfl ?_
      refine zv_getR (j := 27) hC fl_X10_46 dX10_look_30 rfl rfl ?_
      refine zv_iload_n hC dX10_look_33 rfl ?_
      refine zv_iload_n hC dX10_look_34 rfl ?_
      refine zv_callVi (As := [_, _]) hC dX10_look_35 Y_X4_matches lk_X10_168 (by decide) rfl rfl rfl (Nat.le_of_ble_eq_true rfl) (ok_X4_matches G h) ?_
      intro r_7 σ_6 h
      refine zv_if_ne (tgt := 43) hC dX10_look_38 (by decide) (fun c => ?_) (fun c => ?_)
      · replace h := h.1 c
        refine zv_aload_n hC dX10_look_43 rfl ?_
        refine zv_aload_n hC dX10_look_44 rfl ?_
        refine zv_getR (j := 27) hC fl_X10_46 dX10_look_45 rfl rfl ?_
        refine zv_iload_n hC dX10_look_48 rfl ?_
        refine zv_callVl (As := [_]) hC dX10_look_49 Y_X4_scoreOf lk_X10_171 (by decide) rfl rfl rfl (Nat.le_of_ble_eq_true rfl) (ok_X4_scoreOf G h) ?_
        intro r_9 σ_8 h
        refine zv_putL hC fp_X10_175 dX10_look_52 rfl rfl rfl rfl ?_
        replace h := h _ rfl
        refine zv_iconst (v := 1) hC dX10_look_55 (by decide) ?_
        exact (hR _ _ _).1 _ rfl dX10_look_56 ⟨_, rfl, h⟩
      · replace h := h.2 c
        refine zv_iconst (v := 0) hC dX10_look_41 (by decide) ?_
        exact (hR _ _ _).1 _ rfl dX10_look_42 ⟨_, rfl, h⟩
    · replace h := h.2 c
      exact zv_go (k_X10_look_18 hC hR  h) trivial
theorem ok_X10_look (G : zv_G) {Q : Int32 → zv_St → Prop} {x1 : Int32} {x2 : Int32} {σ : zv_St} (h : B_X10_look Q x1 x2 σ) : zv_OK G M_X10_look yX10_look [.ref (G.2.2.1 0), .int x1, .int x2] σ (zv_qi Q) := zv_ok G _ _ _ _ _ (by decide +kernel) rfl (Nat.le_of_ble_eq_true rfl) (fun X hC hR => zv_go (k_X10_look_0 hC hR h) ⟨rfl, rfl, rfl, trivial⟩)
-- X10_scored
def B_X10_scored (Q : Int64 → zv_St → Prop) (σ : zv_St) : Prop :=
  Q (σ.2 0 8) σ
set_option maxRecDepth 20000 in
set_option maxHeartbeats 2000000 in
theorem k_X10_scored_0 {G : zv_G} {X : zv_X} {Q : Int64 → zv_St → Prop}  (hC : zv_C G X M_X10_scored) (hR : zv_R G X M_X10_scored (zv_ql Q))   {σ : zv_St} (h : B_X10_scored Q   σ) : zv_V G X M_X10_scored 0 [(0, .ref (G.2.2.1 0))] [] σ := by
  unfold B_X10_scored at h
  refine zv_aload_n hC dX10_scored_0 rfl ?_
  refine zv_getL hC fl_X10_175 dX10_scored_1 rfl rfl ?_
  exact (hR _ _ _).2.2.1 _ rfl dX10_scored_4 ⟨_, rfl, h⟩
theorem ok_X10_scored (G : zv_G) {Q : Int64 → zv_St → Prop}  {σ : zv_St} (h : B_X10_scored Q  σ) : zv_OK G M_X10_scored yX10_scored [.ref (G.2.2.1 0)] σ (zv_ql Q) := zv_ok G _ _ _ _ _ (by decide +kernel) rfl (Nat.le_of_ble_eq_true rfl) (fun X hC hR => zv_go (k_X10_scored_0 hC hR h) ⟨rfl, trivial⟩)
-- X1_clear
def B_X1_clear (Q : zv_St → Prop) (σ : zv_St) : Prop :=
  ∀ σ_1 : zv_St, σ_1 = zv_wi σ 31 2 0 → Q σ_1
set_option maxRecDepth 20000 in
set_option maxHeartbeats 2000000 in
theorem k_X1_clear_0 {G : zv_G} {X : zv_X} {Q : zv_St → Prop}  (hC : zv_C G X M_X1_clear) (hR : zv_R G X M_X1_clear (zv_qv Q))   {σ : zv_St} (h : B_X1_clear Q   σ) : zv_V G X M_X1_clear 0 [(0, .ref (G.2.2.1 31))] [] σ := by
  unfold B_X1_clear at h
  refine zv_aload_n hC dX1_clear_0 rfl ?_
  refine zv_iconst (v := 0) hC dX1_clear_1 (by decide) ?_
  refine zv_putI hC fp_X1_19 dX1_clear_2 rfl rfl rfl rfl ?_
  replace h := h _ rfl
  exact (hR _ _ _).2.2.2.1 rfl dX1_clear_5 ⟨rfl, h⟩
theorem ok_X1_clear (G : zv_G) {Q : zv_St → Prop}  {σ : zv_St} (h : B_X1_clear Q  σ) : zv_OK G M_X1_clear yX1_clear [.ref (G.2.2.1 31)] σ (zv_qv Q) := zv_ok G _ _ _ _ _ (by decide +kernel) rfl (Nat.le_of_ble_eq_true rfl) (fun X hC hR => zv_go (k_X1_clear_0 hC hR h) ⟨rfl, trivial⟩)
-- X1_add
def B_X1_add_40 (Q : zv_St → Prop) (σ : zv_St) : Prop :=
  Q σ
set_option maxRecDepth 20000 in
set_option maxHeartbeats 2000000 in
theorem k_X1_add_40 {G : zv_G} {X : zv_X} {Q : zv_St → Prop}  (hC : zv_C G X M_X1_add) (hR : zv_R G X M_X1_add (zv_qv Q))   {σ : zv_St} (h : B_X1_add_40 Q   σ) : zv_V G X M_X1_add 40 [] [] σ := by
  unfold B_X1_add_40 at h
  exact (hR _ _ _).2.2.2.1 rfl dX1_add_40 ⟨rfl, h⟩
def B_X1_add (Q : zv_St → Prop) (x1 : Int32) (x2 : Int64) (σ : zv_St) : Prop :=
  (512 ≤ (σ.1 31 2) → (B_X1_add_40 Q σ)) ∧ (¬ 512 ≤ (σ.1 31 2) → (vp_in (σ.1 31 2) 512 ∧ ∀ σ_1 : zv_St, σ_1 = zv_wi σ 32 (σ.1 31 2).toNatClampNeg x1 → vp_in (σ_1.1 31 2) 512 ∧ ∀ σ_2 : zv_St, σ_2 = zv_wl σ_1 33 (σ_1.1 31 2).toNatClampNeg x2 → ∀ σ_3 : zv_St, σ_3 = zv_wi σ_2 31 2 ((σ_2.1 31 2) + 1) → B_X1_add_40 Q σ_3))
set_option maxRecDepth 20000 in
set_option maxHeartbeats 2000000 in
theorem k_X1_add_0 {G : zv_G} {X : zv_X} {Q : zv_St → Prop}  (hC : zv_C G X M_X1_add) (hR : zv_R G X M_X1_add (zv_qv Q))  {x1 : Int32} {x2 : Int64} {σ : zv_St} (h : B_X1_add Q  x1 x2 σ) : zv_V G X M_X1_add 0 [(0, .ref (G.2.2.1 31)), (1, .int x1), (2, .long x2)] [] σ := by
  unfold B_X1_add at h
  refine zv_aload_n hC dX1_add_0 rfl ?_
  refine zv_getI hC fl_X1_19 dX1_add_1 rfl rfl ?_
  refine zv_sipush (v := 512) hC dX1_add_4 (by decide) ?_
  refine zv_icmp_ge (tgt := 40) hC dX1_add_7 (by decide) (fun c => ?_) (fun c => ?_)
  · replace h := h.1 c
    exact zv_go (k_X1_add_40 hC hR  h) trivial
  · replace h := h.2 c
    refine zv_aload_n hC dX1_add_10 rfl ?_
    refine zv_getR (j := 32) hC fl_X1_9 dX1_add_11 rfl rfl ?_
    refine zv_aload_n hC dX1_add_14 rfl ?_
    refine zv_getI hC fl_X1_19 dX1_add_15 rfl rfl ?_
    refine zv_iload_n hC dX1_add_18 rfl ?_
    refine zv_iast hC dX1_add_19 rfl h.1 ?_
    replace h := h.2 _ rfl
    refine zv_aload_n hC dX1_add_20 rfl ?_
    refine zv_getR (j := 33) hC fl_X1_15 dX1_add_21 rfl rfl ?_
    refine zv_aload_n hC dX1_add_24 rfl ?_
    refine zv_getI hC fl_X1_19 dX1_add_25 rfl rfl ?_
    refine zv_lload_n hC dX1_add_28 rfl ?_
    refine zv_last hC dX1_add_29 rfl h.1 ?_
    replace h := h.2 _ rfl
    refine zv_aload_n hC dX1_add_30 rfl ?_
    refine zv_dup hC dX1_add_31 rfl ?_
    refine zv_getI hC fl_X1_19 dX1_add_32 rfl rfl ?_
    refine zv_iconst (v := 1) hC dX1_add_35 (by decide) ?_
    refine zv_iadd hC dX1_add_36 ?_
    refine zv_putI hC fp_X1_19 dX1_add_37 rfl rfl rfl rfl ?_
    replace h := h _ rfl
    exact zv_go (k_X1_add_40 hC hR  h) trivial
theorem ok_X1_add (G : zv_G) {Q : zv_St → Prop} {x1 : Int32} {x2 : Int64} {σ : zv_St} (h : B_X1_add Q x1 x2 σ) : zv_OK G M_X1_add yX1_add [.ref (G.2.2.1 31), .int x1, .long x2] σ (zv_qv Q) := zv_ok G _ _ _ _ _ (by decide +kernel) rfl (Nat.le_of_ble_eq_true rfl) (fun X hC hR => zv_go (k_X1_add_0 hC hR h) ⟨rfl, rfl, rfl, trivial⟩)
-- X1_size
def B_X1_size (Q : Int32 → zv_St → Prop) (σ : zv_St) : Prop :=
  Q (σ.1 31 2) σ
set_option maxRecDepth 20000 in
set_option maxHeartbeats 2000000 in
theorem k_X1_size_0 {G : zv_G} {X : zv_X} {Q : Int32 → zv_St → Prop}  (hC : zv_C G X M_X1_size) (hR : zv_R G X M_X1_size (zv_qi Q))   {σ : zv_St} (h : B_X1_size Q   σ) : zv_V G X M_X1_size 0 [(0, .ref (G.2.2.1 31))] [] σ := by
  unfold B_X1_size at h
  refine zv_aload_n hC dX1_size_0 rfl ?_
  refine zv_getI hC fl_X1_19 dX1_size_1 rfl rfl ?_
  exact (hR _ _ _).1 _ rfl dX1_size_4 ⟨_, rfl, h⟩
theorem ok_X1_size (G : zv_G) {Q : Int32 → zv_St → Prop}  {σ : zv_St} (h : B_X1_size Q  σ) : zv_OK G M_X1_size yX1_size [.ref (G.2.2.1 31)] σ (zv_qi Q) := zv_ok G _ _ _ _ _ (by decide +kernel) rfl (Nat.le_of_ble_eq_true rfl) (fun X hC hR => zv_go (k_X1_size_0 hC hR h) ⟨rfl, trivial⟩)
-- X10_run
def B_X10_run_66 (Q : Int32 → zv_St → Prop) (kk31 : Int32 → Int32 → zv_St → Prop) (x1 : Int32) (x2 : Int32) (σ : zv_St) : Prop :=
  kk31 x1 (x2 + 1) σ
set_option maxRecDepth 20000 in
set_option maxHeartbeats 2000000 in
theorem k_X10_run_66 {G : zv_G} {X : zv_X} {Q : Int32 → zv_St → Prop} {kk31 : Int32 → Int32 → zv_St → Prop} (hC : zv_C G X M_X10_run) (hR : zv_R G X M_X10_run (zv_qi Q)) (hk31 : ∀ (x1 : Int32) (x2 : Int32) (σ : zv_St), kk31 x1 x2 σ → zv_V G X M_X10_run 31 [(0, .ref (G.2.2.1 0)), (1, .int x1), (2, .int x2)] [] σ) {x1 : Int32} {x2 : Int32} {σ : zv_St} (h : B_X10_run_66 Q kk31 x1 x2 σ) : zv_V G X M_X10_run 66 [(0, .ref (G.2.2.1 0)), (1, .int x1), (2, .int x2)] [] σ := by
  unfold B_X10_run_66 at h
  refine zv_iinc (v := 1) hC dX10_run_66 rfl (by decide) (by decide) ?_
  refine zv_goto (tgt := 31) hC dX10_run_69 (by decide) ?_
  exact zv_go (hk31 _ _ _ h) ⟨rfl, rfl, rfl, trivial⟩
def L_X10_run_31 (Q : Int32 → zv_St → Prop) : Nat → (Int32 → Int32 → zv_St → Prop)
  | 0 => fun _ _ _ => False
  | u + 1 => fun x1 x2 σ => 
    (512 ≤ x2 → (B_X1_size (fun r_2 σ_1 => Q r_2 σ_1) σ)) ∧ (¬ 512 ≤ x2 → (B_X4_matches (fun r_4 σ_3 => (r_4 = 0 → (B_X10_run_66 Q (L_X10_run_31 Q u) x1 x2 σ_3)) ∧ (¬ r_4 = 0 → (B_X4_scoreOf (fun r_6 σ_5 => B_X1_add (fun σ_7 => B_X10_run_66 Q (L_X10_run_31 Q u) x1 x2 σ_7) x2 r_6 σ_5) x1 σ_3))) x1 x2 σ))
set_option maxRecDepth 20000 in
set_option maxHeartbeats 2000000 in
theorem kL_X10_run_31 {G : zv_G} {X : zv_X} {Q : Int32 → zv_St → Prop}  (hC : zv_C G X M_X10_run) (hR : zv_R G X M_X10_run (zv_qi Q))  : ∀ (n : Nat) (x1 : Int32) (x2 : Int32) (σ : zv_St), L_X10_run_31 Q  n x1 x2 σ → zv_V G X M_X10_run 31 [(0, .ref (G.2.2.1 0)), (1, .int x1), (2, .int x2)] [] σ := by
  intro n
  induction n with
  | zero => intro x1 x2 σ h; exact h.elim
  | succ n hk31 =>
    intro x1 x2 σ h
    unfold L_X10_run_31 at h
    refine zv_iload_n hC dX10_run_31 rfl ?_
    refine zv_sipush (v := 512) hC dX10_run_32 (by decide) ?_
    refine zv_icmp_ge (tgt := 72) hC dX10_run_35 (by decide) (fun c => ?_) (fun c => ?_)
    · replace h := h.1 c
      refine zv_aload_n hC dX10_run_72 rfl ?_
      refine zv_getR (j := 31) hC fl_X10_53 dX10_run_73 rfl rfl ?_
      refine zv_callVi (As := []) hC dX10_run_76 Y_X1_size lk_X10_185 (by decide) rfl rfl rfl (Nat.le_of_ble_eq_true rfl) (ok_X1_size G h) ?_
      intro r_2 σ_1 h
      exact (hR _ _ _).1 _ rfl dX10_run_79 ⟨_, rfl, h⟩
    · replace h := h.2 c
      refine zv_aload_n hC dX10_run_38 rfl ?_
      refine zv_getR (j := 27) hC fl_X10_46 dX10_run_39 rfl rfl ?_
      refine zv_iload_n hC dX10_run_42 rfl ?_
      refine zv_iload_n hC dX10_run_43 rfl ?_
      refine zv_callVi (As := [_, _]) hC dX10_run_44 Y_X4_matches lk_X10_168 (by decide) rfl rfl rfl (Nat.le_of_ble_eq_true rfl) (ok_X4_matches G h) ?_
      intro r_4 σ_3 h
      refine zv_if_eq (tgt := 66) hC dX10_run_47 (by decide) (fun c => ?_) (fun c => ?_)
      · replace h := h.1 c
        exact zv_go (k_X10_run_66 hC hR hk31 h) ⟨rfl, rfl, rfl, trivial⟩
      · replace h := h.2 c
        refine zv_aload_n hC dX10_run_50 rfl ?_
        refine zv_getR (j := 31) hC fl_X10_53 dX10_run_51 rfl rfl ?_
        refine zv_iload_n hC dX10_run_54 rfl ?_
        refine zv_aload_n hC dX10_run_55 rfl ?_
        refine zv_getR (j := 27) hC fl_X10_46 dX10_run_56 rfl rfl ?_
        refine zv_iload_n hC dX10_run_59 rfl ?_
        refine zv_callVl (As := [_]) hC dX10_run_60 Y_X4_scoreOf lk_X10_171 (by decide) rfl rfl rfl (Nat.le_of_ble_eq_true rfl) (ok_X4_scoreOf G h) ?_
        intro r_6 σ_5 h
        refine zv_callVv (As := [_, _]) hC dX10_run_63 Y_X1_add lk_X10_182 (by decide) rfl rfl rfl (Nat.le_of_ble_eq_true rfl) (ok_X1_add G h) ?_
        intro σ_7 h
        exact zv_go (k_X10_run_66 hC hR hk31 h) ⟨rfl, rfl, rfl, trivial⟩
def B_X10_run (Q : Int32 → zv_St → Prop) (x1 : Int32) (σ : zv_St) : Prop :=
  B_X5_has (fun r_2 σ_1 => (¬ r_2 = 0 → (B_X0_prepare (fun σ_3 => B_X1_clear (fun σ_4 => ∃ n31, L_X10_run_31 Q n31 x1 0 σ_4) σ_3) x1 σ_1)) ∧ (r_2 = 0 → (Q (-2) σ_1))) x1 σ
set_option maxRecDepth 20000 in
set_option maxHeartbeats 2000000 in
theorem k_X10_run_0 {G : zv_G} {X : zv_X} {Q : Int32 → zv_St → Prop}  (hC : zv_C G X M_X10_run) (hR : zv_R G X M_X10_run (zv_qi Q))  {x1 : Int32} {σ : zv_St} (h : B_X10_run Q  x1 σ) : zv_V G X M_X10_run 0 [(0, .ref (G.2.2.1 0)), (1, .int x1)] [] σ := by
  unfold B_X10_run at h
  refine zv_aload_n hC dX10_run_0 rfl ?_
  refine zv_getR (j := 5) hC fl_X10_19 dX10_run_1 rfl rfl ?_
  refine zv_iload_n hC dX10_run_4 rfl ?_
  refine zv_callVi (As := [_]) hC dX10_run_5 Y_X5_has lk_X10_118 (by decide) rfl rfl rfl (Nat.le_of_ble_eq_true rfl) (ok_X5_has G h) ?_
  intro r_2 σ_1 h
  refine zv_if_ne (tgt := 14) hC dX10_run_8 (by decide) (fun c => ?_) (fun c => ?_)
  · replace h := h.1 c
    refine zv_aload_n hC dX10_run_14 rfl ?_
    refine zv_getR (j := 19) hC fl_X10_37 dX10_run_15 rfl rfl ?_
    refine zv_iload_n hC dX10_run_18 rfl ?_
    refine zv_callVv (As := [_]) hC dX10_run_19 Y_X0_prepare lk_X10_143 (by decide) rfl rfl rfl (Nat.le_of_ble_eq_true rfl) (ok_X0_prepare G h) ?_
    intro σ_3 h
    refine zv_aload_n hC dX10_run_22 rfl ?_
    refine zv_getR (j := 31) hC fl_X10_53 dX10_run_23 rfl rfl ?_
    refine zv_callVv (As := []) hC dX10_run_26 Y_X1_clear lk_X10_179 (by decide) rfl rfl rfl (Nat.le_of_ble_eq_true rfl) (ok_X1_clear G h) ?_
    intro σ_4 h
    refine zv_iconst (v := 0) hC dX10_run_29 (by decide) ?_
    refine zv_istore_n hC dX10_run_30 (by decide) ?_
    obtain ⟨n, h⟩ := h
    exact zv_go (kL_X10_run_31 hC hR  n _ _ _ h) ⟨rfl, rfl, rfl, trivial⟩
  · replace h := h.2 c
    refine zv_bipush (v := (-2)) hC dX10_run_11 (by decide) ?_
    exact (hR _ _ _).1 _ rfl dX10_run_13 ⟨_, rfl, h⟩
theorem ok_X10_run (G : zv_G) {Q : Int32 → zv_St → Prop} {x1 : Int32} {σ : zv_St} (h : B_X10_run Q x1 σ) : zv_OK G M_X10_run yX10_run [.ref (G.2.2.1 0), .int x1] σ (zv_qi Q) := zv_ok G _ _ _ _ _ (by decide +kernel) rfl (Nat.le_of_ble_eq_true rfl) (fun X hC hR => zv_go (k_X10_run_0 hC hR h) ⟨rfl, rfl, trivial⟩)
-- X1_has
def B_X1_has_17 (Q : Int32 → zv_St → Prop) (y0 : Int32) (σ : zv_St) : Prop :=
  narrow .boolean (.int y0) = .int y0 ∧ Q y0 σ
set_option maxRecDepth 20000 in
set_option maxHeartbeats 2000000 in
theorem k_X1_has_17 {G : zv_G} {X : zv_X} {Q : Int32 → zv_St → Prop}  (hC : zv_C G X M_X1_has) (hR : zv_R G X M_X1_has (zv_qi Q))  {y0 : Int32} {σ : zv_St} (h : B_X1_has_17 Q  y0 σ) : zv_V G X M_X1_has 17 [] [.int y0] σ := by
  unfold B_X1_has_17 at h
  exact (hR _ _ _).2.1 _ rfl h.1 dX1_has_17 ⟨_, rfl, h.2⟩
def B_X1_has_16 (Q : Int32 → zv_St → Prop) (σ : zv_St) : Prop :=
  B_X1_has_17 Q 0 σ
set_option maxRecDepth 20000 in
set_option maxHeartbeats 2000000 in
theorem k_X1_has_16 {G : zv_G} {X : zv_X} {Q : Int32 → zv_St → Prop}  (hC : zv_C G X M_X1_has) (hR : zv_R G X M_X1_has (zv_qi Q))   {σ : zv_St} (h : B_X1_has_16 Q   σ) : zv_V G X M_X1_has 16 [] [] σ := by
  unfold B_X1_has_16 at h
  refine zv_iconst (v := 0) hC dX1_has_16 (by decide) ?_
  exact zv_go (k_X1_has_17 hC hR  h) trivial
def B_X1_has (Q : Int32 → zv_St → Prop) (x1 : Int32) (σ : zv_St) : Prop :=
  (x1 < 0 → (B_X1_has_16 Q σ)) ∧ (¬ x1 < 0 → (((σ.1 31 2) ≤ x1 → (B_X1_has_16 Q σ)) ∧ (¬ (σ.1 31 2) ≤ x1 → (B_X1_has_17 Q 1 σ))))
set_option maxRecDepth 20000 in
set_option maxHeartbeats 2000000 in
theorem k_X1_has_0 {G : zv_G} {X : zv_X} {Q : Int32 → zv_St → Prop}  (hC : zv_C G X M_X1_has) (hR : zv_R G X M_X1_has (zv_qi Q))  {x1 : Int32} {σ : zv_St} (h : B_X1_has Q  x1 σ) : zv_V G X M_X1_has 0 [(0, .ref (G.2.2.1 31)), (1, .int x1)] [] σ := by
  unfold B_X1_has at h
  refine zv_iload_n hC dX1_has_0 rfl ?_
  refine zv_if_lt (tgt := 16) hC dX1_has_1 (by decide) (fun c => ?_) (fun c => ?_)
  · replace h := h.1 c
    exact zv_go (k_X1_has_16 hC hR  h) trivial
  · replace h := h.2 c
    refine zv_iload_n hC dX1_has_4 rfl ?_
    refine zv_aload_n hC dX1_has_5 rfl ?_
    refine zv_getI hC fl_X1_19 dX1_has_6 rfl rfl ?_
    refine zv_icmp_ge (tgt := 16) hC dX1_has_9 (by decide) (fun c => ?_) (fun c => ?_)
    · replace h := h.1 c
      exact zv_go (k_X1_has_16 hC hR  h) trivial
    · replace h := h.2 c
      refine zv_iconst (v := 1) hC dX1_has_12 (by decide) ?_
      refine zv_goto (tgt := 17) hC dX1_has_13 (by decide) ?_
      exact zv_go (k_X1_has_17 hC hR  h) trivial
theorem ok_X1_has (G : zv_G) {Q : Int32 → zv_St → Prop} {x1 : Int32} {σ : zv_St} (h : B_X1_has Q x1 σ) : zv_OK G M_X1_has yX1_has [.ref (G.2.2.1 31), .int x1] σ (zv_qi Q) := zv_ok G _ _ _ _ _ (by decide +kernel) rfl (Nat.le_of_ble_eq_true rfl) (fun X hC hR => zv_go (k_X1_has_0 hC hR h) ⟨rfl, rfl, trivial⟩)
-- X1_objectAt
def B_X1_objectAt (Q : Int32 → zv_St → Prop) (x1 : Int32) (σ : zv_St) : Prop :=
  vp_in x1 512 ∧ Q (σ.1 32 x1.toNatClampNeg) σ
set_option maxRecDepth 20000 in
set_option maxHeartbeats 2000000 in
theorem k_X1_objectAt_0 {G : zv_G} {X : zv_X} {Q : Int32 → zv_St → Prop}  (hC : zv_C G X M_X1_objectAt) (hR : zv_R G X M_X1_objectAt (zv_qi Q))  {x1 : Int32} {σ : zv_St} (h : B_X1_objectAt Q  x1 σ) : zv_V G X M_X1_objectAt 0 [(0, .ref (G.2.2.1 31)), (1, .int x1)] [] σ := by
  unfold B_X1_objectAt at h
  refine zv_aload_n hC dX1_objectAt_0 rfl ?_
  refine zv_getR (j := 32) hC fl_X1_9 dX1_objectAt_1 rfl rfl ?_
  refine zv_iload_n hC dX1_objectAt_4 rfl ?_
  refine zv_iald hC dX1_objectAt_5 rfl h.1 ?_
  replace h := h.2
  exact (hR _ _ _).1 _ rfl dX1_objectAt_6 ⟨_, rfl, h⟩
theorem ok_X1_objectAt (G : zv_G) {Q : Int32 → zv_St → Prop} {x1 : Int32} {σ : zv_St} (h : B_X1_objectAt Q x1 σ) : zv_OK G M_X1_objectAt yX1_objectAt [.ref (G.2.2.1 31), .int x1] σ (zv_qi Q) := zv_ok G _ _ _ _ _ (by decide +kernel) rfl (Nat.le_of_ble_eq_true rfl) (fun X hC hR => zv_go (k_X1_objectAt_0 hC hR h) ⟨rfl, rfl, trivial⟩)
-- X10_found
def B_X10_found_23 (Q : Int32 → zv_St → Prop) (y0 : Int32) (σ : zv_St) : Prop :=
  Q y0 σ
set_option maxRecDepth 20000 in
set_option maxHeartbeats 2000000 in
theorem k_X10_found_23 {G : zv_G} {X : zv_X} {Q : Int32 → zv_St → Prop}  (hC : zv_C G X M_X10_found) (hR : zv_R G X M_X10_found (zv_qi Q))  {y0 : Int32} {σ : zv_St} (h : B_X10_found_23 Q  y0 σ) : zv_V G X M_X10_found 23 [] [.int y0] σ := by
  unfold B_X10_found_23 at h
  exact (hR _ _ _).1 _ rfl dX10_found_23 ⟨_, rfl, h⟩
def B_X10_found (Q : Int32 → zv_St → Prop) (x1 : Int32) (σ : zv_St) : Prop :=
  B_X1_has (fun r_2 σ_1 => (r_2 = 0 → (B_X10_found_23 Q (-1) σ_1)) ∧ (¬ r_2 = 0 → (B_X1_objectAt (fun r_4 σ_3 => B_X10_found_23 Q r_4 σ_3) x1 σ_1))) x1 σ
set_option maxRecDepth 20000 in
set_option maxHeartbeats 2000000 in
theorem k_X10_found_0 {G : zv_G} {X : zv_X} {Q : Int32 → zv_St → Prop}  (hC : zv_C G X M_X10_found) (hR : zv_R G X M_X10_found (zv_qi Q))  {x1 : Int32} {σ : zv_St} (h : B_X10_found Q  x1 σ) : zv_V G X M_X10_found 0 [(0, .ref (G.2.2.1 0)), (1, .int x1)] [] σ := by
  unfold B_X10_found at h
  refine zv_aload_n hC dX10_found_0 rfl ?_
  refine zv_getR (j := 31) hC fl_X10_53 dX10_found_1 rfl rfl ?_
  refine zv_iload_n hC dX10_found_4 rfl ?_
  refine zv_callVi (As := [_]) hC dX10_found_5 Y_X1_has lk_X10_188 (by decide) rfl rfl rfl (Nat.le_of_ble_eq_true rfl) (ok_X1_has G h) ?_
  intro r_2 σ_1 h
  refine zv_if_eq (tgt := 22) hC dX10_found_8 (by decide) (fun c => ?_) (fun c => ?_)
  · replace h := h.1 c
    refine zv_iconst (v := (-1)) hC dX10_found_22 (by decide) ?_
    exact zv_go (k_X10_found_23 hC hR  h) trivial
  · replace h := h.2 c
    refine zv_aload_n hC dX10_found_11 rfl ?_
    refine zv_getR (j := 31) hC fl_X10_53 dX10_found_12 rfl rfl ?_
    refine zv_iload_n hC dX10_found_15 rfl ?_
    refine zv_callVi (As := [_]) hC dX10_found_16 Y_X1_objectAt lk_X10_189 (by decide) rfl rfl rfl (Nat.le_of_ble_eq_true rfl) (ok_X1_objectAt G h) ?_
    intro r_4 σ_3 h
    refine zv_goto (tgt := 23) hC dX10_found_19 (by decide) ?_
    exact zv_go (k_X10_found_23 hC hR  h) trivial
theorem ok_X10_found (G : zv_G) {Q : Int32 → zv_St → Prop} {x1 : Int32} {σ : zv_St} (h : B_X10_found Q x1 σ) : zv_OK G M_X10_found yX10_found [.ref (G.2.2.1 0), .int x1] σ (zv_qi Q) := zv_ok G _ _ _ _ _ (by decide +kernel) rfl (Nat.le_of_ble_eq_true rfl) (fun X hC hR => zv_go (k_X10_found_0 hC hR h) ⟨rfl, rfl, trivial⟩)
-- X1_scoreAt
def B_X1_scoreAt (Q : Int64 → zv_St → Prop) (x1 : Int32) (σ : zv_St) : Prop :=
  vp_in x1 512 ∧ Q (σ.2 33 x1.toNatClampNeg) σ
set_option maxRecDepth 20000 in
set_option maxHeartbeats 2000000 in
theorem k_X1_scoreAt_0 {G : zv_G} {X : zv_X} {Q : Int64 → zv_St → Prop}  (hC : zv_C G X M_X1_scoreAt) (hR : zv_R G X M_X1_scoreAt (zv_ql Q))  {x1 : Int32} {σ : zv_St} (h : B_X1_scoreAt Q  x1 σ) : zv_V G X M_X1_scoreAt 0 [(0, .ref (G.2.2.1 31)), (1, .int x1)] [] σ := by
  unfold B_X1_scoreAt at h
  refine zv_aload_n hC dX1_scoreAt_0 rfl ?_
  refine zv_getR (j := 33) hC fl_X1_15 dX1_scoreAt_1 rfl rfl ?_
  refine zv_iload_n hC dX1_scoreAt_4 rfl ?_
  refine zv_lald hC dX1_scoreAt_5 rfl h.1 ?_
  replace h := h.2
  exact (hR _ _ _).2.2.1 _ rfl dX1_scoreAt_6 ⟨_, rfl, h⟩
theorem ok_X1_scoreAt (G : zv_G) {Q : Int64 → zv_St → Prop} {x1 : Int32} {σ : zv_St} (h : B_X1_scoreAt Q x1 σ) : zv_OK G M_X1_scoreAt yX1_scoreAt [.ref (G.2.2.1 31), .int x1] σ (zv_ql Q) := zv_ok G _ _ _ _ _ (by decide +kernel) rfl (Nat.le_of_ble_eq_true rfl) (fun X hC hR => zv_go (k_X1_scoreAt_0 hC hR h) ⟨rfl, rfl, trivial⟩)
-- X10_score
def B_X10_score_23 (Q : Int64 → zv_St → Prop) (y0 : Int64) (σ : zv_St) : Prop :=
  Q y0 σ
set_option maxRecDepth 20000 in
set_option maxHeartbeats 2000000 in
theorem k_X10_score_23 {G : zv_G} {X : zv_X} {Q : Int64 → zv_St → Prop}  (hC : zv_C G X M_X10_score) (hR : zv_R G X M_X10_score (zv_ql Q))  {y0 : Int64} {σ : zv_St} (h : B_X10_score_23 Q  y0 σ) : zv_V G X M_X10_score 23 [] [.long y0] σ := by
  unfold B_X10_score_23 at h
  exact (hR _ _ _).2.2.1 _ rfl dX10_score_23 ⟨_, rfl, h⟩
def B_X10_score (Q : Int64 → zv_St → Prop) (x1 : Int32) (σ : zv_St) : Prop :=
  B_X1_has (fun r_2 σ_1 => (r_2 = 0 → (B_X10_score_23 Q 0 σ_1)) ∧ (¬ r_2 = 0 → (B_X1_scoreAt (fun r_4 σ_3 => B_X10_score_23 Q r_4 σ_3) x1 σ_1))) x1 σ
set_option maxRecDepth 20000 in
set_option maxHeartbeats 2000000 in
theorem k_X10_score_0 {G : zv_G} {X : zv_X} {Q : Int64 → zv_St → Prop}  (hC : zv_C G X M_X10_score) (hR : zv_R G X M_X10_score (zv_ql Q))  {x1 : Int32} {σ : zv_St} (h : B_X10_score Q  x1 σ) : zv_V G X M_X10_score 0 [(0, .ref (G.2.2.1 0)), (1, .int x1)] [] σ := by
  unfold B_X10_score at h
  refine zv_aload_n hC dX10_score_0 rfl ?_
  refine zv_getR (j := 31) hC fl_X10_53 dX10_score_1 rfl rfl ?_
  refine zv_iload_n hC dX10_score_4 rfl ?_
  refine zv_callVi (As := [_]) hC dX10_score_5 Y_X1_has lk_X10_188 (by decide) rfl rfl rfl (Nat.le_of_ble_eq_true rfl) (ok_X1_has G h) ?_
  intro r_2 σ_1 h
  refine zv_if_eq (tgt := 22) hC dX10_score_8 (by decide) (fun c => ?_) (fun c => ?_)
  · replace h := h.1 c
    refine zv_lconst (v := 0) hC dX10_score_22 (by decide) ?_
    exact zv_go (k_X10_score_23 hC hR  h) trivial
  · replace h := h.2 c
    refine zv_aload_n hC dX10_score_11 rfl ?_
    refine zv_getR (j := 31) hC fl_X10_53 dX10_score_12 rfl rfl ?_
    refine zv_iload_n hC dX10_score_15 rfl ?_
    refine zv_callVl (As := [_]) hC dX10_score_16 Y_X1_scoreAt lk_X10_192 (by decide) rfl rfl rfl (Nat.le_of_ble_eq_true rfl) (ok_X1_scoreAt G h) ?_
    intro r_4 σ_3 h
    refine zv_goto (tgt := 23) hC dX10_score_19 (by decide) ?_
    exact zv_go (k_X10_score_23 hC hR  h) trivial
theorem ok_X10_score (G : zv_G) {Q : Int64 → zv_St → Prop} {x1 : Int32} {σ : zv_St} (h : B_X10_score Q x1 σ) : zv_OK G M_X10_score yX10_score [.ref (G.2.2.1 0), .int x1] σ (zv_ql Q) := zv_ok G _ _ _ _ _ (by decide +kernel) rfl (Nat.le_of_ble_eq_true rfl) (fun X hC hR => zv_go (k_X10_score_0 hC hR h) ⟨rfl, rfl, trivial⟩)
-- X8_clear_14
def L_X8_clear_14_2 (Q : zv_St → Prop) : Nat → (Int32 → Int32 → zv_St → Prop)
  | 0 => fun _ _ _ => False
  | u + 1 => fun x1 x2 σ => 
    (8 ≤ x2 → (Q σ)) ∧ (¬ 8 ≤ x2 → (vp_in ((x1 * 8) + x2) 640 ∧ ∀ σ_1 : zv_St, σ_1 = zv_wl σ 15 ((x1 * 8) + x2).toNatClampNeg 0 → (L_X8_clear_14_2 Q u) x1 (x2 + 1) σ_1))
set_option maxRecDepth 20000 in
set_option maxHeartbeats 2000000 in
theorem kL_X8_clear_14_2 {G : zv_G} {X : zv_X} {Q : zv_St → Prop}  (hC : zv_C G X M_X8_clear_14) (hR : zv_R G X M_X8_clear_14 (zv_qv Q))  : ∀ (n : Nat) (x1 : Int32) (x2 : Int32) (σ : zv_St), L_X8_clear_14_2 Q  n x1 x2 σ → zv_V G X M_X8_clear_14 2 [(0, .ref (G.2.2.1 14)), (1, .int x1), (2, .int x2)] [] σ := by
  intro n
  induction n with
  | zero => intro x1 x2 σ h; exact h.elim
  | succ n hk2 =>
    intro x1 x2 σ h
    unfold L_X8_clear_14_2 at h
    refine zv_iload_n hC dX8_clear_2 rfl ?_
    refine zv_bipush (v := 8) hC dX8_clear_3 (by decide) ?_
    refine zv_icmp_ge (tgt := 26) hC dX8_clear_5 (by decide) (fun c => ?_) (fun c => ?_)
    · replace h := h.1 c
      exact (hR _ _ _).2.2.2.1 rfl dX8_clear_26 ⟨rfl, h⟩
    · replace h := h.2 c
      refine zv_aload_n hC dX8_clear_8 rfl ?_
      refine zv_getR (j := 15) hC fl_X8_9 dX8_clear_9 rfl rfl ?_
      refine zv_iload_n hC dX8_clear_12 rfl ?_
      refine zv_bipush (v := 8) hC dX8_clear_13 (by decide) ?_
      refine zv_imul hC dX8_clear_15 ?_
      refine zv_iload_n hC dX8_clear_16 rfl ?_
      refine zv_iadd hC dX8_clear_17 ?_
      refine zv_lconst (v := 0) hC dX8_clear_18 (by decide) ?_
      refine zv_last hC dX8_clear_19 rfl h.1 ?_
      replace h := h.2 _ rfl
      refine zv_iinc (v := 1) hC dX8_clear_20 rfl (by decide) (by decide) ?_
      refine zv_goto (tgt := 2) hC dX8_clear_23 (by decide) ?_
      exact zv_go (hk2 _ _ _ h) ⟨rfl, rfl, rfl, trivial⟩
def B_X8_clear_14 (Q : zv_St → Prop) (x1 : Int32) (σ : zv_St) : Prop :=
  ∃ n2, L_X8_clear_14_2 Q n2 x1 0 σ
set_option maxRecDepth 20000 in
set_option maxHeartbeats 2000000 in
theorem k_X8_clear_14_0 {G : zv_G} {X : zv_X} {Q : zv_St → Prop}  (hC : zv_C G X M_X8_clear_14) (hR : zv_R G X M_X8_clear_14 (zv_qv Q))  {x1 : Int32} {σ : zv_St} (h : B_X8_clear_14 Q  x1 σ) : zv_V G X M_X8_clear_14 0 [(0, .ref (G.2.2.1 14)), (1, .int x1)] [] σ := by
  unfold B_X8_clear_14 at h
  refine zv_iconst (v := 0) hC dX8_clear_0 (by decide) ?_
  refine zv_istore_n hC dX8_clear_1 (by decide) ?_
  obtain ⟨n, h⟩ := h
  exact zv_go (kL_X8_clear_14_2 hC hR  n _ _ _ h) ⟨rfl, rfl, rfl, trivial⟩
theorem ok_X8_clear_14 (G : zv_G) {Q : zv_St → Prop} {x1 : Int32} {σ : zv_St} (h : B_X8_clear_14 Q x1 σ) : zv_OK G M_X8_clear_14 yX8_clear [.ref (G.2.2.1 14), .int x1] σ (zv_qv Q) := zv_ok G _ _ _ _ _ (by decide +kernel) rfl (Nat.le_of_ble_eq_true rfl) (fun X hC hR => zv_go (k_X8_clear_14_0 hC hR h) ⟨rfl, rfl, trivial⟩)
-- X9_begin
def B_X9_begin (Q : zv_St → Prop) (x1 : Int32) (σ : zv_St) : Prop :=
  vp_in x1 80 ∧ ∀ σ_1 : zv_St, σ_1 = zv_wi σ 16 x1.toNatClampNeg (vp_nar .boolean 1) → vp_in x1 80 ∧ ∀ σ_2 : zv_St, σ_2 = zv_wi σ_1 17 x1.toNatClampNeg 0 → B_X8_clear_14 (fun σ_3 => Q σ_3) x1 σ_2
set_option maxRecDepth 20000 in
set_option maxHeartbeats 2000000 in
theorem k_X9_begin_0 {G : zv_G} {X : zv_X} {Q : zv_St → Prop}  (hC : zv_C G X M_X9_begin) (hR : zv_R G X M_X9_begin (zv_qv Q))  {x1 : Int32} {σ : zv_St} (h : B_X9_begin Q  x1 σ) : zv_V G X M_X9_begin 0 [(0, .ref (G.2.2.1 13)), (1, .int x1)] [] σ := by
  unfold B_X9_begin at h
  refine zv_aload_n hC dX9_begin_0 rfl ?_
  refine zv_getR (j := 16) hC fl_X9_18 dX9_begin_1 rfl rfl ?_
  refine zv_iload_n hC dX9_begin_4 rfl ?_
  refine zv_iconst (v := 1) hC dX9_begin_5 (by decide) ?_
  refine zv_zast hC dX9_begin_6 rfl h.1 ?_
  replace h := h.2 _ rfl
  refine zv_aload_n hC dX9_begin_7 rfl ?_
  refine zv_getR (j := 17) hC fl_X9_22 dX9_begin_8 rfl rfl ?_
  refine zv_iload_n hC dX9_begin_11 rfl ?_
  refine zv_iconst (v := 0) hC dX9_begin_12 (by decide) ?_
  refine zv_iast hC dX9_begin_13 rfl h.1 ?_
  replace h := h.2 _ rfl
  refine zv_aload_n hC dX9_begin_14 rfl ?_
  refine zv_getR (j := 14) hC fl_X9_12 dX9_begin_15 rfl rfl ?_
  refine zv_iload_n hC dX9_begin_18 rfl ?_
  refine zv_callVv (As := [_]) hC dX9_begin_19 Y_X8_clear lk_X9_33 (by decide) rfl rfl rfl (Nat.le_of_ble_eq_true rfl) (ok_X8_clear_14 G h) ?_
  intro σ_3 h
  exact (hR _ _ _).2.2.2.1 rfl dX9_begin_22 ⟨rfl, h⟩
theorem ok_X9_begin (G : zv_G) {Q : zv_St → Prop} {x1 : Int32} {σ : zv_St} (h : B_X9_begin Q x1 σ) : zv_OK G M_X9_begin yX9_begin [.ref (G.2.2.1 13), .int x1] σ (zv_qv Q) := zv_ok G _ _ _ _ _ (by decide +kernel) rfl (Nat.le_of_ble_eq_true rfl) (fun X hC hR => zv_go (k_X9_begin_0 hC hR h) ⟨rfl, rfl, trivial⟩)
-- X8_add_14
def B_X8_add_14 (Q : zv_St → Prop) (x1 : Int32) (x2 : Int32) (σ : zv_St) : Prop :=
  vp_in ((x1 * 8) + (x2 >>> ((6 : Int32) &&& 31))) 640 ∧ vp_in ((x1 * 8) + (x2 >>> ((6 : Int32) &&& 31))) 640 ∧ ∀ σ_1 : zv_St, σ_1 = zv_wl σ 15 ((x1 * 8) + (x2 >>> ((6 : Int32) &&& 31))).toNatClampNeg ((σ.2 15 ((x1 * 8) + (x2 >>> ((6 : Int32) &&& 31))).toNatClampNeg) ||| ((1 : Int64) <<< (Int32.toInt64 (x2 &&& 63) &&& 63))) → Q σ_1
set_option maxRecDepth 20000 in
set_option maxHeartbeats 2000000 in
theorem k_X8_add_14_0 {G : zv_G} {X : zv_X} {Q : zv_St → Prop}  (hC : zv_C G X M_X8_add_14) (hR : zv_R G X M_X8_add_14 (zv_qv Q))  {x1 : Int32} {x2 : Int32} {σ : zv_St} (h : B_X8_add_14 Q  x1 x2 σ) : zv_V G X M_X8_add_14 0 [(0, .ref (G.2.2.1 14)), (1, .int x1), (2, .int x2)] [] σ := by
  unfold B_X8_add_14 at h
  refine zv_aload_n hC dX8_add_0 rfl ?_
  refine zv_getR (j := 15) hC fl_X8_9 dX8_add_1 rfl rfl ?_
  refine zv_iload_n hC dX8_add_4 rfl ?_
  refine zv_bipush (v := 8) hC dX8_add_5 (by decide) ?_
  refine zv_imul hC dX8_add_7 ?_
  refine zv_iload_n hC dX8_add_8 rfl ?_
  refine zv_bipush (v := 6) hC dX8_add_9 (by decide) ?_
  refine zv_ishr hC dX8_add_11 ?_
  refine zv_iadd hC dX8_add_12 ?_
  refine zv_dup2 hC dX8_add_13 rfl rfl ?_
  refine zv_lald hC dX8_add_14 rfl h.1 ?_
  replace h := h.2
  refine zv_lconst (v := 1) hC dX8_add_15 (by decide) ?_
  refine zv_iload_n hC dX8_add_16 rfl ?_
  refine zv_bipush (v := 63) hC dX8_add_17 (by decide) ?_
  refine zv_iand hC dX8_add_19 ?_
  refine zv_lshl hC dX8_add_20 ?_
  refine zv_lor hC dX8_add_21 ?_
  refine zv_last hC dX8_add_22 rfl h.1 ?_
  replace h := h.2 _ rfl
  exact (hR _ _ _).2.2.2.1 rfl dX8_add_23 ⟨rfl, h⟩
theorem ok_X8_add_14 (G : zv_G) {Q : zv_St → Prop} {x1 : Int32} {x2 : Int32} {σ : zv_St} (h : B_X8_add_14 Q x1 x2 σ) : zv_OK G M_X8_add_14 yX8_add [.ref (G.2.2.1 14), .int x1, .int x2] σ (zv_qv Q) := zv_ok G _ _ _ _ _ (by decide +kernel) rfl (Nat.le_of_ble_eq_true rfl) (fun X hC hR => zv_go (k_X8_add_14_0 hC hR h) ⟨rfl, rfl, rfl, trivial⟩)
-- X9_add
def B_X9_add (Q : zv_St → Prop) (x1 : Int32) (x2 : Int32) (σ : zv_St) : Prop :=
  B_X8_add_14 (fun σ_1 => vp_in x1 80 ∧ vp_in x1 80 ∧ ∀ σ_2 : zv_St, σ_2 = zv_wi σ_1 17 x1.toNatClampNeg ((σ_1.1 17 x1.toNatClampNeg) + 1) → Q σ_2) x1 x2 σ
set_option maxRecDepth 20000 in
set_option maxHeartbeats 2000000 in
theorem k_X9_add_0 {G : zv_G} {X : zv_X} {Q : zv_St → Prop}  (hC : zv_C G X M_X9_add) (hR : zv_R G X M_X9_add (zv_qv Q))  {x1 : Int32} {x2 : Int32} {σ : zv_St} (h : B_X9_add Q  x1 x2 σ) : zv_V G X M_X9_add 0 [(0, .ref (G.2.2.1 13)), (1, .int x1), (2, .int x2)] [] σ := by
  unfold B_X9_add at h
  refine zv_aload_n hC dX9_add_0 rfl ?_
  refine zv_getR (j := 14) hC fl_X9_12 dX9_add_1 rfl rfl ?_
  refine zv_iload_n hC dX9_add_4 rfl ?_
  refine zv_iload_n hC dX9_add_5 rfl ?_
  refine zv_callVv (As := [_, _]) hC dX9_add_6 Y_X8_add lk_X9_37 (by decide) rfl rfl rfl (Nat.le_of_ble_eq_true rfl) (ok_X8_add_14 G h) ?_
  intro σ_1 h
  refine zv_aload_n hC dX9_add_9 rfl ?_
  refine zv_getR (j := 17) hC fl_X9_22 dX9_add_10 rfl rfl ?_
  refine zv_iload_n hC dX9_add_13 rfl ?_
  refine zv_dup2 hC dX9_add_14 rfl rfl ?_
  refine zv_iald hC dX9_add_15 rfl h.1 ?_
  replace h := h.2
  refine zv_iconst (v := 1) hC dX9_add_16 (by decide) ?_
  refine zv_iadd hC dX9_add_17 ?_
  refine zv_iast hC dX9_add_18 rfl h.1 ?_
  replace h := h.2 _ rfl
  exact (hR _ _ _).2.2.2.1 rfl dX9_add_19 ⟨rfl, h⟩
theorem ok_X9_add (G : zv_G) {Q : zv_St → Prop} {x1 : Int32} {x2 : Int32} {σ : zv_St} (h : B_X9_add Q x1 x2 σ) : zv_OK G M_X9_add yX9_add [.ref (G.2.2.1 13), .int x1, .int x2] σ (zv_qv Q) := zv_ok G _ _ _ _ _ (by decide +kernel) rfl (Nat.le_of_ble_eq_true rfl) (fun X hC hR => zv_go (k_X9_add_0 hC hR h) ⟨rfl, rfl, rfl, trivial⟩)
-- X10_keep
def B_X10_keep_24 (Q : Int32 → zv_St → Prop) (σ : zv_St) : Prop :=
  Q (-2) σ
set_option maxRecDepth 20000 in
set_option maxHeartbeats 2000000 in
theorem k_X10_keep_24 {G : zv_G} {X : zv_X} {Q : Int32 → zv_St → Prop}  (hC : zv_C G X M_X10_keep) (hR : zv_R G X M_X10_keep (zv_qi Q))   {σ : zv_St} (h : B_X10_keep_24 Q   σ) : zv_V G X M_X10_keep 24 [] [] σ := by
  unfold B_X10_keep_24 at h
  refine zv_bipush (v := (-2)) hC dX10_keep_24 (by decide) ?_
  exact (hR _ _ _).1 _ rfl dX10_keep_26 ⟨_, rfl, h⟩
def B_X10_keep_97 (Q : Int32 → zv_St → Prop) (kk69 : Int32 → Int32 → Int32 → zv_St → Prop) (x1 : Int32) (x2 : Int32) (x3 : Int32) (σ : zv_St) : Prop :=
  kk69 x1 x2 (x3 + 1) σ
set_option maxRecDepth 20000 in
set_option maxHeartbeats 2000000 in
theorem k_X10_keep_97 {G : zv_G} {X : zv_X} {Q : Int32 → zv_St → Prop} {kk69 : Int32 → Int32 → Int32 → zv_St → Prop} (hC : zv_C G X M_X10_keep) (hR : zv_R G X M_X10_keep (zv_qi Q)) (hk69 : ∀ (x1 : Int32) (x2 : Int32) (x3 : Int32) (σ : zv_St), kk69 x1 x2 x3 σ → zv_V G X M_X10_keep 69 [(0, .ref (G.2.2.1 0)), (1, .int x1), (2, .int x2), (3, .int x3)] [] σ) {x1 : Int32} {x2 : Int32} {x3 : Int32} {σ : zv_St} (h : B_X10_keep_97 Q kk69 x1 x2 x3 σ) : zv_V G X M_X10_keep 97 [(0, .ref (G.2.2.1 0)), (1, .int x1), (2, .int x2), (3, .int x3)] [] σ := by
  unfold B_X10_keep_97 at h
  refine zv_iinc (v := 1) hC dX10_keep_97 rfl (by decide) (by decide) ?_
  refine zv_goto (tgt := 69) hC dX10_keep_100 (by decide) ?_
  exact zv_go (hk69 _ _ _ _ h) ⟨rfl, rfl, rfl, rfl, trivial⟩
def L_X10_keep_69 (Q : Int32 → zv_St → Prop) : Nat → (Int32 → Int32 → Int32 → zv_St → Prop)
  | 0 => fun _ _ _ _ => False
  | u + 1 => fun x1 x2 x3 σ => 
    (512 ≤ x3 → (B_X0_forgetFrom (fun σ_1 => B_X9_size (fun r_3 σ_2 => Q r_3 σ_2) x1 σ_1) x1 σ)) ∧ (¬ 512 ≤ x3 → (B_X4_matches (fun r_5 σ_4 => (r_5 = 0 → (B_X10_keep_97 Q (L_X10_keep_69 Q u) x1 x2 x3 σ_4)) ∧ (¬ r_5 = 0 → (B_X9_add (fun σ_6 => B_X10_keep_97 Q (L_X10_keep_69 Q u) x1 x2 x3 σ_6) x1 x3 σ_4))) x2 x3 σ))
set_option maxRecDepth 20000 in
set_option maxHeartbeats 2000000 in
theorem kL_X10_keep_69 {G : zv_G} {X : zv_X} {Q : Int32 → zv_St → Prop}  (hC : zv_C G X M_X10_keep) (hR : zv_R G X M_X10_keep (zv_qi Q))  : ∀ (n : Nat) (x1 : Int32) (x2 : Int32) (x3 : Int32) (σ : zv_St), L_X10_keep_69 Q  n x1 x2 x3 σ → zv_V G X M_X10_keep 69 [(0, .ref (G.2.2.1 0)), (1, .int x1), (2, .int x2), (3, .int x3)] [] σ := by
  intro n
  induction n with
  | zero => intro x1 x2 x3 σ h; exact h.elim
  | succ n hk69 =>
    intro x1 x2 x3 σ h
    unfold L_X10_keep_69 at h
    refine zv_iload_n hC dX10_keep_69 rfl ?_
    refine zv_sipush (v := 512) hC dX10_keep_70 (by decide) ?_
    refine zv_icmp_ge (tgt := 103) hC dX10_keep_73 (by decide) (fun c => ?_) (fun c => ?_)
    · replace h := h.1 c
      refine zv_aload_n hC dX10_keep_103 rfl ?_
      refine zv_getR (j := 19) hC fl_X10_37 dX10_keep_104 rfl rfl ?_
      refine zv_iload_n hC dX10_keep_107 rfl ?_
      refine zv_callVv (As := [_]) hC dX10_keep_108 Y_X0_forgetFrom lk_X10_133 (by decide) rfl rfl rfl (Nat.le_of_ble_eq_true rfl) (ok_X0_forgetFrom G h) ?_
      intro σ_1 h
      refine zv_aload_n hC dX10_keep_111 rfl ?_
      refine zv_getR (j := 13) hC fl_X10_28 dX10_keep_112 rfl rfl ?_
      refine zv_iload_n hC dX10_keep_115 rfl ?_
      refine zv_callVi (As := [_]) hC dX10_keep_116 Y_X9_size lk_X10_155 (by decide) rfl rfl rfl (Nat.le_of_ble_eq_true rfl) (ok_X9_size G h) ?_
      intro r_3 σ_2 h
      exact (hR _ _ _).1 _ rfl dX10_keep_119 ⟨_, rfl, h⟩
    · replace h := h.2 c
      refine zv_aload_n hC dX10_keep_76 rfl ?_
      refine zv_getR (j := 27) hC fl_X10_46 dX10_keep_77 rfl rfl ?_
      refine zv_iload_n hC dX10_keep_80 rfl ?_
      refine zv_iload_n hC dX10_keep_81 rfl ?_
      refine zv_callVi (As := [_, _]) hC dX10_keep_82 Y_X4_matches lk_X10_168 (by decide) rfl rfl rfl (Nat.le_of_ble_eq_true rfl) (ok_X4_matches G h) ?_
      intro r_5 σ_4 h
      refine zv_if_eq (tgt := 97) hC dX10_keep_85 (by decide) (fun c => ?_) (fun c => ?_)
      · replace h := h.1 c
        exact zv_go (k_X10_keep_97 hC hR hk69 h) ⟨rfl, rfl, rfl, rfl, trivial⟩
      · replace h := h.2 c
        refine zv_aload_n hC dX10_keep_88 rfl ?_
        refine zv_getR (j := 13) hC fl_X10_28 dX10_keep_89 rfl rfl ?_
        refine zv_iload_n hC dX10_keep_92 rfl ?_
        refine zv_iload_n hC dX10_keep_93 rfl ?_
        refine zv_callVv (As := [_, _]) hC dX10_keep_94 Y_X9_add lk_X10_198 (by decide) rfl rfl rfl (Nat.le_of_ble_eq_true rfl) (ok_X9_add G h) ?_
        intro σ_6 h
        exact zv_go (k_X10_keep_97 hC hR hk69 h) ⟨rfl, rfl, rfl, rfl, trivial⟩
def B_X10_keep (Q : Int32 → zv_St → Prop) (x1 : Int32) (σ : zv_St) : Prop :=
  B_X5_has (fun r_2 σ_1 => (r_2 = 0 → (B_X10_keep_24 Q σ_1)) ∧ (¬ r_2 = 0 → (B_X5_kind (fun r_4 σ_3 => (r_4 = 6 → (B_X9_isThere (fun r_6 σ_5 => (r_6 = 0 → (B_X5_partAt (fun r_8 σ_7 => B_X0_prepare (fun σ_9 => B_X9_begin (fun σ_10 => ∃ n69, L_X10_keep_69 Q n69 x1 r_8 0 σ_10) x1 σ_9) r_8 σ_7) x1 0 σ_5)) ∧ (¬ r_6 = 0 → (Q (-4) σ_5))) x1 σ_3)) ∧ (¬ r_4 = 6 → (B_X10_keep_24 Q σ_3))) x1 σ_1))) x1 σ
set_option maxRecDepth 20000 in
set_option maxHeartbeats 2000000 in
theorem k_X10_keep_0 {G : zv_G} {X : zv_X} {Q : Int32 → zv_St → Prop}  (hC : zv_C G X M_X10_keep) (hR : zv_R G X M_X10_keep (zv_qi Q))  {x1 : Int32} {σ : zv_St} (h : B_X10_keep Q  x1 σ) : zv_V G X M_X10_keep 0 [(0, .ref (G.2.2.1 0)), (1, .int x1)] [] σ := by
  unfold B_X10_keep at h
  refine zv_aload_n hC dX10_keep_0 rfl ?_
  refine zv_getR (j := 5) hC fl_X10_19 dX10_keep_1 rfl rfl ?_
  refine zv_iload_n hC dX10_keep_4 rfl ?_
  refine zv_callVi (As := [_]) hC dX10_keep_5 Y_X5_has lk_X10_118 (by decide) rfl rfl rfl (Nat.le_of_ble_eq_true rfl) (ok_X5_has G h) ?_
  intro r_2 σ_1 h
  refine zv_if_eq (tgt := 24) hC dX10_keep_8 (by decide) (fun c => ?_) (fun c => ?_)
  · replace h := h.1 c
    exact zv_go (k_X10_keep_24 hC hR  h) trivial
  · replace h := h.2 c
    refine zv_aload_n hC dX10_keep_11 rfl ?_
    refine zv_getR (j := 5) hC fl_X10_19 dX10_keep_12 rfl rfl ?_
    refine zv_iload_n hC dX10_keep_15 rfl ?_
    refine zv_callVi (As := [_]) hC dX10_keep_16 Y_X5_kind lk_X10_121 (by decide) rfl rfl rfl (Nat.le_of_ble_eq_true rfl) (ok_X5_kind G h) ?_
    intro r_4 σ_3 h
    refine zv_bipush (v := 6) hC dX10_keep_19 (by decide) ?_
    refine zv_icmp_eq (tgt := 27) hC dX10_keep_21 (by decide) (fun c => ?_) (fun c => ?_)
    · replace h := h.1 c
      refine zv_aload_n hC dX10_keep_27 rfl ?_
      refine zv_getR (j := 13) hC fl_X10_28 dX10_keep_28 rfl rfl ?_
      refine zv_iload_n hC dX10_keep_31 rfl ?_
      refine zv_callVi (As := [_]) hC dX10_keep_32 Y_X9_isThere lk_X10_152 (by decide) rfl rfl rfl (Nat.le_of_ble_eq_true rfl) (ok_X9_isThere G h) ?_
      intro r_6 σ_5 h
      refine zv_if_eq (tgt := 41) hC dX10_keep_35 (by decide) (fun c => ?_) (fun c => ?_)
      · replace h := h.1 c
        refine zv_aload_n hC dX10_keep_41 rfl ?_
        refine zv_getR (j := 5) hC fl_X10_19 dX10_keep_42 rfl rfl ?_
        refine zv_iload_n hC dX10_keep_45 rfl ?_
        refine zv_iconst (v := 0) hC dX10_keep_46 (by decide) ?_
        refine zv_callVi (As := [_, _]) hC dX10_keep_47 Y_X5_partAt lk_X10_159 (by decide) rfl rfl rfl (Nat.le_of_ble_eq_true rfl) (ok_X5_partAt G h) ?_
        intro r_8 σ_7 h
        refine zv_istore_n hC dX10_keep_50 (by decide) ?_
        refine zv_aload_n hC dX10_keep_51 rfl ?_
        refine zv_getR (j := 19) hC fl_X10_37 dX10_keep_52 rfl rfl ?_
        refine zv_iload_n hC dX10_keep_55 rfl ?_
        refine zv_callVv (As := [_]) hC dX10_keep_56 Y_X0_prepare lk_X10_143 (by decide) rfl rfl rfl (Nat.le_of_ble_eq_true rfl) (ok_X0_prepare G h) ?_
        intro σ_9 h
        refine zv_aload_n hC dX10_keep_59 rfl ?_
        refine zv_getR (j := 13) hC fl_X10_28 dX10_keep_60 rfl rfl ?_
        refine zv_iload_n hC dX10_keep_63 rfl ?_
        refine zv_callVv (As := [_]) hC dX10_keep_64 Y_X9_begin lk_X10_195 (by decide) rfl rfl rfl (Nat.le_of_ble_eq_true rfl) (ok_X9_begin G h) ?_
        intro σ_10 h
        refine zv_iconst (v := 0) hC dX10_keep_67 (by decide) ?_
        refine zv_istore_n hC dX10_keep_68 (by decide) ?_
        obtain ⟨n, h⟩ := h
        exact zv_go (kL_X10_keep_69 hC hR  n _ _ _ _ h) ⟨rfl, rfl, rfl, rfl, trivial⟩
      · replace h := h.2 c
        refine zv_bipush (v := (-4)) hC dX10_keep_38 (by decide) ?_
        exact (hR _ _ _).1 _ rfl dX10_keep_40 ⟨_, rfl, h⟩
    · replace h := h.2 c
      exact zv_go (k_X10_keep_24 hC hR  h) trivial
theorem ok_X10_keep (G : zv_G) {Q : Int32 → zv_St → Prop} {x1 : Int32} {σ : zv_St} (h : B_X10_keep Q x1 σ) : zv_OK G M_X10_keep yX10_keep [.ref (G.2.2.1 0), .int x1] σ (zv_qi Q) := zv_ok G _ _ _ _ _ (by decide +kernel) rfl (Nat.le_of_ble_eq_true rfl) (fun X hC hR => zv_go (k_X10_keep_0 hC hR h) ⟨rfl, rfl, trivial⟩)
