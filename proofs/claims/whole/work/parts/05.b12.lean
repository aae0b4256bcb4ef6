-- X11_costs
def B_X11_costs_154 (Q : zv_St → Prop) (kk2 : Int32 → zv_St → Prop) (x1 : Int32) (x2 : Int32) (σ : zv_St) : Prop :=
  vp_in x1 80 ∧ ∀ σ_1 : zv_St, σ_1 = zv_wi σ 62 x1.toNatClampNeg x2 → kk2 (x1 + 1) σ_1
set_option maxRecDepth 20000 in
set_option maxHeartbeats 2000000 in
theorem k_X11_costs_154 {G : zv_G} {X : zv_X} {Q : zv_St → Prop} {kk2 : Int32 → zv_St → Prop} (hC : zv_C G X M_X11_costs) (hR : zv_R G X M_X11_costs (zv_qv Q)) (hk2 : ∀ (x1 : Int32) (σ : zv_St), kk2 x1 σ → zv_V G X M_X11_costs 2 [(0, .ref (G.2.2.1 45)), (1, .int x1)] [] σ) {x1 : Int32} {x2 : Int32} {σ : zv_St} (h : B_X11_costs_154 Q kk2 x1 x2 σ) : zv_V G X M_X11_costs 154 [(0, .ref (G.2.2.1 45)), (1, .int x1), (2, .int x2)] [] σ := by
  unfold B_X11_costs_154 at h
  refine zv_aload_n hC dX11_costs_154 rfl ?_
  refine zv_getR (j := 62) hC fl_X11_60 dX11_costs_155 rfl rfl ?_
  refine zv_iload_n hC dX11_costs_158 rfl ?_
  refine zv_iload_n hC dX11_costs_159 rfl ?_
  refine zv_iast hC dX11_costs_160 rfl h.1 ?_
  replace h := h.2 _ rfl
  refine zv_iinc (v := 1) hC dX11_costs_161 rfl (by decide) (by decide) ?_
  refine zv_goto (tgt := 2) hC dX11_costs_164 (by decide) ?_
  exact zv_go (hk2 _ _ h) ⟨rfl, rfl, trivial⟩
def B_X11_costs_148 (Q : zv_St → Prop) (kk2 : Int32 → zv_St → Prop) (x1 : Int32) (σ : zv_St) : Prop :=
  B_X11_together (fun r_2 σ_1 => B_X11_costs_154 Q kk2 x1 r_2 σ_1) x1 σ
set_option maxRecDepth 20000 in
set_option maxHeartbeats 2000000 in
theorem k_X11_costs_148 {G : zv_G} {X : zv_X} {Q : zv_St → Prop} {kk2 : Int32 → zv_St → Prop} (hC : zv_C G X M_X11_costs) (hR : zv_R G X M_X11_costs (zv_qv Q)) (hk2 : ∀ (x1 : Int32) (σ : zv_St), kk2 x1 σ → zv_V G X M_X11_costs 2 [(0, .ref (G.2.2.1 45)), (1, .int x1)] [] σ) {x1 : Int32} {σ : zv_St} (h : B_X11_costs_148 Q kk2 x1 σ) : zv_V G X M_X11_costs 148 [(0, .ref (G.2.2.1 45)), (1, .int x1)] [] σ := by
  unfold B_X11_costs_148 at h
  refine zv_aload_n hC dX11_costs_148 rfl ?_
  refine zv_iload_n hC dX11_costs_149 rfl ?_
  refine zv_callVi (As := [_]) hC dX11_costs_150 Y_X11_together lk_X11_137 (by decide) rfl rfl rfl (Nat.le_of_ble_eq_true rfl) (ok_X11_together G h) ?_
  intro r_2 σ_1 h
  refine zv_istore_n hC dX11_costs_153 (by decide) ?_
  exact zv_go (k_X11_costs_154 hC hR hk2 h) ⟨rfl, rfl, rfl, trivial⟩
def B_X11_costs_128 (Q : zv_St → Prop) (kk2 : Int32 → zv_St → Prop) (x1 : Int32) (x2 : Int32) (σ : zv_St) : Prop :=
  vp_in x1 80 ∧ ((σ.1 48 x1.toNatClampNeg) = 3 → (B_X11_costs_148 Q kk2 x1 σ)) ∧ (¬ (σ.1 48 x1.toNatClampNeg) = 3 → (vp_in x1 80 ∧ (¬ (σ.1 48 x1.toNatClampNeg) = 2 → (B_X11_costs_154 Q kk2 x1 x2 σ)) ∧ ((σ.1 48 x1.toNatClampNeg) = 2 → (B_X11_costs_148 Q kk2 x1 σ))))
set_option maxRecDepth 20000 in
set_option maxHeartbeats 2000000 in
theorem k_X11_costs_128 {G : zv_G} {X : zv_X} {Q : zv_St → Prop} {kk2 : Int32 → zv_St → Prop} (hC : zv_C G X M_X11_costs) (hR : zv_R G X M_X11_costs (zv_qv Q)) (hk2 : ∀ (x1 : Int32) (σ : zv_St), kk2 x1 σ → zv_V G X M_X11_costs 2 [(0, .ref (G.2.2.1 45)), (1, .int x1)] [] σ) {x1 : Int32} {x2 : Int32} {σ : zv_St} (h : B_X11_costs_128 Q kk2 x1 x2 σ) : zv_V G X M_X11_costs 128 [(0, .ref (G.2.2.1 45)), (1, .int x1), (2, .int x2)] [] σ := by
  unfold B_X11_costs_128 at h
  refine zv_aload_n hC dX11_costs_128 rfl ?_
  refine zv_getR (j := 48) hC fl_X11_16 dX11_costs_129 rfl rfl ?_
  refine zv_iload_n hC dX11_costs_132 rfl ?_
  refine zv_iald hC dX11_costs_133 rfl h.1 ?_
  replace h := h.2
  refine zv_iconst (v := 3) hC dX11_costs_134 (by decide) ?_
  refine zv_icmp_eq (tgt := 148) hC dX11_costs_135 (by decide) (fun c => ?_) (fun c => ?_)
  · replace h := h.1 c
    exact zv_go (k_X11_costs_148 hC hR hk2 h) ⟨rfl, rfl, trivial⟩
  · replace h := h.2 c
    refine zv_aload_n hC dX11_costs_138 rfl ?_
    refine zv_getR (j := 48) hC fl_X11_16 dX11_costs_139 rfl rfl ?_
    refine zv_iload_n hC dX11_costs_142 rfl ?_
    refine zv_iald hC dX11_costs_143 rfl h.1 ?_
    replace h := h.2
    refine zv_iconst (v := 2) hC dX11_costs_144 (by decide) ?_
    refine zv_icmp_ne (tgt := 154) hC dX11_costs_145 (by decide) (fun c => ?_) (fun c => ?_)
    · replace h := h.1 c
      exact zv_go (k_X11_costs_154 hC hR hk2 h) ⟨rfl, rfl, rfl, trivial⟩
    · replace h := h.2 c
      exact zv_go (k_X11_costs_148 hC hR hk2 h) ⟨rfl, rfl, trivial⟩
def B_X11_costs_94 (Q : zv_St → Prop) (kk2 : Int32 → zv_St → Prop) (x1 : Int32) (x2 : Int32) (σ : zv_St) : Prop :=
  vp_in x1 80 ∧ ((σ.1 51 x1.toNatClampNeg) ≤ 0 → (B_X11_costs_128 Q kk2 x1 x2 σ)) ∧ (¬ (σ.1 51 x1.toNatClampNeg) ≤ 0 → (vp_in x1 80 ∧ ((σ.1 48 x1.toNatClampNeg) ≤ 3 → (B_X11_costs_128 Q kk2 x1 x2 σ)) ∧ (¬ (σ.1 48 x1.toNatClampNeg) ≤ 3 → (vp_in x1 80 ∧ vp_in (σ.1 49 x1.toNatClampNeg) 80 ∧ ∀ v_1 : Int32, v_1 = (σ.1 62 (σ.1 49 x1.toNatClampNeg).toNatClampNeg) → B_X11_costs_154 Q kk2 x1 v_1 σ))))
set_option maxRecDepth 20000 in
set_option maxHeartbeats 2000000 in
theorem k_X11_costs_94 {G : zv_G} {X : zv_X} {Q : zv_St → Prop} {kk2 : Int32 → zv_St → Prop} (hC : zv_C G X M_X11_costs) (hR : zv_R G X M_X11_costs (zv_qv Q)) (hk2 : ∀ (x1 : Int32) (σ : zv_St), kk2 x1 σ → zv_V G X M_X11_costs 2 [(0, .ref (G.2.2.1 45)), (1, .int x1)] [] σ) {x1 : Int32} {x2 : Int32} {σ : zv_St} (h : B_X11_costs_94 Q kk2 x1 x2 σ) : zv_V G X M_X11_costs 94 [(0, .ref (G.2.2.1 45)), (1, .int x1), (2, .int x2)] [] σ := by
  unfold B_X11_costs_94 at h
  refine zv_aload_n hC dX11_costs_94 rfl ?_
  refine zv_getR (j := 51) hC fl_X11_25 dX11_costs_95 rfl rfl ?_
  refine zv_iload_n hC dX11_costs_98 rfl ?_
  refine zv_iald hC dX11_costs_99 rfl h.1 ?_
  replace h := h.2
  refine zv_if_le (tgt := 128) hC dX11_costs_100 (by decide) (fun c => ?_) (fun c => ?_)
  · replace h := h.1 c
    exact zv_go (k_X11_costs_128 hC hR hk2 h) ⟨rfl, rfl, rfl, trivial⟩
  · replace h := h.2 c
    refine zv_aload_n hC dX11_costs_103 rfl ?_
    refine zv_getR (j := 48) hC fl_X11_16 dX11_costs_104 rfl rfl ?_
    refine zv_iload_n hC dX11_costs_107 rfl ?_
    refine zv_iald hC dX11_costs_108 rfl h.1 ?_
    replace h := h.2
    refine zv_iconst (v := 3) hC dX11_costs_109 (by decide) ?_
    refine zv_icmp_le (tgt := 128) hC dX11_costs_110 (by decide) (fun c => ?_) (fun c => ?_)
    · replace h := h.1 c
      exact zv_go (k_X11_costs_128 hC hR hk2 h) ⟨rfl, rfl, rfl, trivial⟩
    · replace h := h.2 c
      refine zv_aload_n hC dX11_costs_113 rfl ?_
      refine zv_getR (j := 62) hC fl_X11_60 dX11_costs_114 rfl rfl ?_
      refine zv_aload_n hC dX11_costs_117 rfl ?_
      refine zv_getR (j := 49) hC fl_X11_19 dX11_costs_118 rfl rfl ?_
      refine zv_iload_n hC dX11_costs_121 rfl ?_
      refine zv_iald hC dX11_costs_122 rfl h.1 ?_
      replace h := h.2
      refine zv_iald hC dX11_costs_123 rfl h.1 ?_
      replace h := h.2
      replace h := h _ rfl
      refine zv_istore_n hC dX11_costs_124 (by decide) ?_
      refine zv_goto (tgt := 154) hC dX11_costs_125 (by decide) ?_
      exact zv_go (k_X11_costs_154 hC hR hk2 h) ⟨rfl, rfl, rfl, trivial⟩
def B_X11_costs_62 (Q : zv_St → Prop) (kk2 : Int32 → zv_St → Prop) (x1 : Int32) (y0 : Int32) (σ : zv_St) : Prop :=
  vp_in x1 80 ∧ (¬ (σ.1 48 x1.toNatClampNeg) = 6 → (B_X11_costs_94 Q kk2 x1 y0 σ)) ∧ ((σ.1 48 x1.toNatClampNeg) = 6 → (vp_in x1 80 ∧ ((σ.1 55 x1.toNatClampNeg) = (-1) → (B_X11_costs_94 Q kk2 x1 y0 σ)) ∧ (¬ (σ.1 55 x1.toNatClampNeg) = (-1) → (vp_in x1 80 ∧ ∀ v_1 : Int32, v_1 = (σ.1 55 x1.toNatClampNeg) → B_X11_costs_154 Q kk2 x1 v_1 σ))))
set_option maxRecDepth 20000 in
set_option maxHeartbeats 2000000 in
theorem k_X11_costs_62 {G : zv_G} {X : zv_X} {Q : zv_St → Prop} {kk2 : Int32 → zv_St → Prop} (hC : zv_C G X M_X11_costs) (hR : zv_R G X M_X11_costs (zv_qv Q)) (hk2 : ∀ (x1 : Int32) (σ : zv_St), kk2 x1 σ → zv_V G X M_X11_costs 2 [(0, .ref (G.2.2.1 45)), (1, .int x1)] [] σ) {x1 : Int32} {y0 : Int32} {σ : zv_St} (h : B_X11_costs_62 Q kk2 x1 y0 σ) : zv_V G X M_X11_costs 62 [(0, .ref (G.2.2.1 45)), (1, .int x1)] [.int y0] σ := by
  unfold B_X11_costs_62 at h
  refine zv_istore_n hC dX11_costs_62 (by decide) ?_
  refine zv_aload_n hC dX11_costs_63 rfl ?_
  refine zv_getR (j := 48) hC fl_X11_16 dX11_costs_64 rfl rfl ?_
  refine zv_iload_n hC dX11_costs_67 rfl ?_
  refine zv_iald hC dX11_costs_68 rfl h.1 ?_
  replace h := h.2
  refine zv_bipush (v := 6) hC dX11_costs_69 (by decide) ?_
  refine zv_icmp_ne (tgt := 94) hC dX11_costs_71 (by decide) (fun c => ?_) (fun c => ?_)
  · replace h := h.1 c
    exact zv_go (k_X11_costs_94 hC hR hk2 h) ⟨rfl, rfl, rfl, trivial⟩
  · replace h := h.2 c
    refine zv_aload_n hC dX11_costs_74 rfl ?_
    refine zv_getR (j := 55) hC fl_X11_37 dX11_costs_75 rfl rfl ?_
    refine zv_iload_n hC dX11_costs_78 rfl ?_
    refine zv_iald hC dX11_costs_79 rfl h.1 ?_
    replace h := h.2
    refine zv_iconst (v := (-1)) hC dX11_costs_80 (by decide) ?_
    refine zv_icmp_eq (tgt := 94) hC dX11_costs_81 (by decide) (fun c => ?_) (fun c => ?_)
    · replace h := h.1 c
      exact zv_go (k_X11_costs_94 hC hR hk2 h) ⟨rfl, rfl, rfl, trivial⟩
    · replace h := h.2 c
      refine zv_aload_n hC dX11_costs_84 rfl ?_
      refine zv_getR (j := 55) hC fl_X11_37 dX11_costs_85 rfl rfl ?_
      refine zv_iload_n hC dX11_costs_88 rfl ?_
      refine zv_iald hC dX11_costs_89 rfl h.1 ?_
      replace h := h.2
      replace h := h _ rfl
      refine zv_istore_n hC dX11_costs_90 (by decide) ?_
      refine zv_goto (tgt := 154) hC dX11_costs_91 (by decide) ?_
      exact zv_go (k_X11_costs_154 hC hR hk2 h) ⟨rfl, rfl, rfl, trivial⟩
def L_X11_costs_2 (Q : zv_St → Prop) : Nat → (Int32 → zv_St → Prop)
  | 0 => fun _ _ => False
  | u + 1 => fun x1 σ => 
    ((σ.1 45 2) ≤ x1 → (Q σ)) ∧ (¬ (σ.1 45 2) ≤ x1 → (vp_in x1 80 ∧ (¬ (σ.1 48 x1.toNatClampNeg) = 0 → (vp_in x1 80 ∧ (¬ (σ.1 48 x1.toNatClampNeg) = 1 → (B_X11_costs_62 Q (L_X11_costs_2 Q u) x1 0 σ)) ∧ ((σ.1 48 x1.toNatClampNeg) = 1 → (vp_in x1 80 ∧ vp_in x1 80 ∧ B_X11_costs_62 Q (L_X11_costs_2 Q u) x1 (((σ.1 50 x1.toNatClampNeg) - (σ.1 49 x1.toNatClampNeg)) + 1) σ)))) ∧ ((σ.1 48 x1.toNatClampNeg) = 0 → (vp_in x1 80 ∧ vp_in (σ.1 49 x1.toNatClampNeg) 16 ∧ B_X11_costs_62 Q (L_X11_costs_2 Q u) x1 (σ.1 47 (σ.1 49 x1.toNatClampNeg).toNatClampNeg) σ))))
set_option maxRecDepth 20000 in
set_option maxHeartbeats 2000000 in
theorem kL_X11_costs_2 {G : zv_G} {X : zv_X} {Q : zv_St → Prop}  (hC : zv_C G X M_X11_costs) (hR : zv_R G X M_X11_costs (zv_qv Q))  : ∀ (n : Nat) (x1 : Int32) (σ : zv_St), L_X11_costs_2 Q  n x1 σ → zv_V G X M_X11_costs 2 [(0, .ref (G.2.2.1 45)), (1, .int x1)] [] σ := by
  intro n
  induction n with
  | zero => intro x1 σ h; exact h.elim
  | succ n hk2 =>
    intro x1 σ h
    unfold L_X11_costs_2 at h
    refine zv_iload_n hC dX11_costs_2 rfl ?_
    refine zv_aload_n hC dX11_costs_3 rfl ?_
    refine zv_getI hC fl_X11_107 dX11_costs_4 rfl rfl ?_
    refine zv_icmp_ge (tgt := 167) hC dX11_costs_7 (by decide) (fun c => ?_) (fun c => ?_)
    · replace h := h.1 c
      exact (hR _ _ _).2.2.2.1 rfl dX11_costs_167 ⟨rfl, h⟩
    · replace h := h.2 c
      refine zv_aload_n hC dX11_costs_10 rfl ?_
      refine zv_getR (j := 48) hC fl_X11_16 dX11_costs_11 rfl rfl ?_
      refine zv_iload_n hC dX11_costs_14 rfl ?_
      refine zv_iald hC dX11_costs_15 rfl h.1 ?_
      replace h := h.2
      refine zv_if_ne (tgt := 33) hC dX11_costs_16 (by decide) (fun c => ?_) (fun c => ?_)
      · replace h := h.1 c
        refine zv_aload_n hC dX11_costs_33 rfl ?_
        refine zv_getR (j := 48) hC fl_X11_16 dX11_costs_34 rfl rfl ?_
        refine zv_iload_n hC dX11_costs_37 rfl ?_
        refine zv_iald hC dX11_costs_38 rfl h.1 ?_
        replace h := h.2
        refine zv_iconst (v := 1) hC dX11_costs_39 (by decide) ?_
        refine zv_icmp_ne (tgt := 61) hC dX11_costs_40 (by decide) (fun c => ?_) (fun c => ?_)
        · replace h := h.1 c
          refine zv_iconst (v := 0) hC dX11_costs_61 (by decide) ?_
          exact zv_go (k_X11_costs_62 hC hR hk2 h) ⟨rfl, rfl, trivial⟩
        · replace h := h.2 c
          refine zv_aload_n hC dX11_costs_43 rfl ?_
          refine zv_getR (j := 50) hC fl_X11_22 dX11_costs_44 rfl rfl ?_
          refine zv_iload_n hC dX11_costs_47 rfl ?_
          refine zv_iald hC dX11_costs_48 rfl h.1 ?_
          replace h := h.2
          refine zv_aload_n hC dX11_costs_49 rfl ?_
          refine zv_getR (j := 49) hC fl_X11_19 dX11_costs_50 rfl rfl ?_
          refine zv_iload_n hC dX11_costs_53 rfl ?_
          refine zv_iald hC dX11_costs_54 rfl h.1 ?_
          replace h := h.2
          refine zv_isub hC dX11_costs_55 ?_
          refine zv_iconst (v := 1) hC dX11_costs_56 (by decide) ?_
          refine zv_iadd hC dX11_costs_57 ?_
          refine zv_goto (tgt := 62) hC dX11_costs_58 (by decide) ?_
          exact zv_go (k_X11_costs_62 hC hR hk2 h) ⟨rfl, rfl, trivial⟩
      · replace h := h.2 c
        refine zv_aload_n hC dX11_costs_19 rfl ?_
        refine zv_getR (j := 47) hC fl_X11_13 dX11_costs_20 rfl rfl ?_
        refine zv_aload_n hC dX11_costs_23 rfl ?_
        refine zv_getR (j := 49) hC fl_X11_19 dX11_costs_24 rfl rfl ?_
        refine zv_iload_n hC dX11_costs_27 rfl ?_
        refine zv_iald hC dX11_costs_28 rfl h.1 ?_
        replace h := h.2
        refine zv_iald hC dX11_costs_29 rfl h.1 ?_
        replace h := h.2
        refine zv_goto (tgt := 62) hC dX11_costs_30 (by decide) ?_
        exact zv_go (k_X11_costs_62 hC hR hk2 h) ⟨rfl, rfl, trivial⟩
def B_X11_costs (Q : zv_St → Prop) (σ : zv_St) : Prop :=
  ∃ n2, L_X11_costs_2 Q n2 0 σ
set_option maxRecDepth 20000 in
set_option maxHeartbeats 2000000 in
theorem k_X11_costs_0 {G : zv_G} {X : zv_X} {Q : zv_St → Prop}  (hC : zv_C G X M_X11_costs) (hR : zv_R G X M_X11_costs (zv_qv Q))   {σ : zv_St} (h : B_X11_costs Q   σ) : zv_V G X M_X11_costs 0 [(0, .ref (G.2.2.1 45))] [] σ := by
  unfold B_X11_costs at h
  refine zv_iconst (v := 0) hC dX11_costs_0 (by decide) ?_
  refine zv_istore_n hC dX11_costs_1 (by decide) ?_
  obtain ⟨n, h⟩ := h
  exact zv_go (kL_X11_costs_2 hC hR  n _ _ h) ⟨rfl, rfl, trivial⟩
theorem ok_X11_costs (G : zv_G) {Q : zv_St → Prop}  {σ : zv_St} (h : B_X11_costs Q  σ) : zv_OK G M_X11_costs yX11_costs [.ref (G.2.2.1 45)] σ (zv_qv Q) := zv_ok G _ _ _ _ _ (by decide +kernel) rfl (Nat.le_of_ble_eq_true rfl) (fun X hC hR => zv_go (k_X11_costs_0 hC hR h) ⟨rfl, trivial⟩)
-- X11_told
def B_X11_told_18 (Q : Int32 → zv_St → Prop) (σ : zv_St) : Prop :=
  Q (-2) σ
set_option maxRecDepth 20000 in
set_option maxHeartbeats 2000000 in
theorem k_X11_told_18 {G : zv_G} {X : zv_X} {Q : Int32 → zv_St → Prop}  (hC : zv_C G X M_X11_told) (hR : zv_R G X M_X11_told (zv_qi Q))   {σ : zv_St} (h : B_X11_told_18 Q   σ) : zv_V G X M_X11_told 18 [] [] σ := by
  unfold B_X11_told_18 at h
  refine zv_bipush (v := (-2)) hC dX11_told_18 (by decide) ?_
  exact (hR _ _ _).1 _ rfl dX11_told_20 ⟨_, rfl, h⟩
def B_X11_told_119 (Q : Int32 → zv_St → Prop) (y0 : Int32) (σ : zv_St) : Prop :=
  Q y0 σ
set_option maxRecDepth 20000 in
set_option maxHeartbeats 2000000 in
theorem k_X11_told_119 {G : zv_G} {X : zv_X} {Q : Int32 → zv_St → Prop}  (hC : zv_C G X M_X11_told) (hR : zv_R G X M_X11_told (zv_qi Q))  {y0 : Int32} {σ : zv_St} (h : B_X11_told_119 Q  y0 σ) : zv_V G X M_X11_told 119 [] [.int y0] σ := by
  unfold B_X11_told_119 at h
  exact (hR _ _ _).1 _ rfl dX11_told_119 ⟨_, rfl, h⟩
def B_X11_told_30 (Q : Int32 → zv_St → Prop) (x1 : Int32) (x2 : Int32) (σ : zv_St) : Prop :=
  (¬ x2 = 0 → ((¬ x2 = 1 → ((¬ x2 = 2 → ((¬ x2 = 3 → ((¬ x2 = 4 → ((¬ x2 = 5 → (vp_in x1 80 ∧ B_X11_told_119 Q (σ.1 55 x1.toNatClampNeg) σ)) ∧ (x2 = 5 → (vp_in x1 80 ∧ B_X11_told_119 Q (σ.1 54 x1.toNatClampNeg) σ)))) ∧ (x2 = 4 → (vp_in x1 80 ∧ B_X11_told_119 Q (σ.1 62 x1.toNatClampNeg) σ)))) ∧ (x2 = 3 → (vp_in x1 80 ∧ B_X11_told_119 Q (σ.1 51 x1.toNatClampNeg) σ)))) ∧ (x2 = 2 → (vp_in x1 80 ∧ B_X11_told_119 Q (σ.1 50 x1.toNatClampNeg) σ)))) ∧ (x2 = 1 → (vp_in x1 80 ∧ B_X11_told_119 Q (σ.1 49 x1.toNatClampNeg) σ)))) ∧ (x2 = 0 → (vp_in x1 80 ∧ B_X11_told_119 Q (σ.1 48 x1.toNatClampNeg) σ))
set_option maxRecDepth 20000 in
set_option maxHeartbeats 2000000 in
theorem k_X11_told_30 {G : zv_G} {X : zv_X} {Q : Int32 → zv_St → Prop}  (hC : zv_C G X M_X11_told) (hR : zv_R G X M_X11_told (zv_qi Q))  {x1 : Int32} {x2 : Int32} {σ : zv_St} (h : B_X11_told_30 Q  x1 x2 σ) : zv_V G X M_X11_told 30 [(0, .ref (G.2.2.1 45)), (1, .int x1), (2, .int x2)] [] σ := by
  unfold B_X11_told_30 at h
  refine zv_iload_n hC dX11_told_30 rfl ?_
  refine zv_if_ne (tgt := 43) hC dX11_told_31 (by decide) (fun c => ?_) (fun c => ?_)
  · replace h := h.1 c
    refine zv_iload_n hC dX11_told_43 rfl ?_
    refine zv_iconst (v := 1) hC dX11_told_44 (by decide) ?_
    refine zv_icmp_ne (tgt := 57) hC dX11_told_45 (by decide) (fun c => ?_) (fun c => ?_)
    · replace h := h.1 c
      refine zv_iload_n hC dX11_told_57 rfl ?_
      refine zv_iconst (v := 2) hC dX11_told_58 (by decide) ?_
      refine zv_icmp_ne (tgt := 71) hC dX11_told_59 (by decide) (fun c => ?_) (fun c => ?_)
      · replace h := h.1 c
        refine zv_iload_n hC dX11_told_71 rfl ?_
        refine zv_iconst (v := 3) hC dX11_told_72 (by decide) ?_
        refine zv_icmp_ne (tgt := 85) hC dX11_told_73 (by decide) (fun c => ?_) (fun c => ?_)
        · replace h := h.1 c
          refine zv_iload_n hC dX11_told_85 rfl ?_
          refine zv_iconst (v := 4) hC dX11_told_86 (by decide) ?_
          refine zv_icmp_ne (tgt := 99) hC dX11_told_87 (by decide) (fun c => ?_) (fun c => ?_)
          · replace h := h.1 c
            refine zv_iload_n hC dX11_told_99 rfl ?_
            refine zv_iconst (v := 5) hC dX11_told_100 (by decide) ?_
            refine zv_icmp_ne (tgt := 113) hC dX11_told_101 (by decide) (fun c => ?_) (fun c => ?_)
            · replace h := h.1 c
              refine zv_aload_n hC dX11_told_113 rfl ?_
              refine zv_getR (j := 55) hC fl_X11_37 dX11_told_114 rfl rfl ?_
              refine zv_iload_n hC dX11_told_117 rfl ?_
              refine zv_iald hC dX11_told_118 rfl h.1 ?_
              replace h := h.2
              exact zv_go (k_X11_told_119 hC hR  h) trivial
            · replace h := h.2 c
              refine zv_aload_n hC dX11_told_104 rfl ?_
              refine zv_getR (j := 54) hC fl_X11_34 dX11_told_105 rfl rfl ?_
              refine zv_iload_n hC dX11_told_108 rfl ?_
              refine zv_iald hC dX11_told_109 rfl h.1 ?_
              replace h := h.2
              refine zv_goto (tgt := 119) hC dX11_told_110 (by decide) ?_
              exact zv_go (k_X11_told_119 hC hR  h) trivial
          · replace h := h.2 c
            refine zv_aload_n hC dX11_told_90 rfl ?_
            refine zv_getR (j := 62) hC fl_X11_60 dX11_told_91 rfl rfl ?_
            refine zv_iload_n hC dX11_told_94 rfl ?_
            refine zv_iald hC dX11_told_95 rfl h.1 ?_
            replace h := h.2
            refine zv_goto (tgt := 119) hC dX11_told_96 (by decide) ?_
            exact zv_go (k_X11_told_119 hC hR  h) trivial
        · replace h := h.2 c
          refine zv_aload_n hC dX11_told_76 rfl ?_
          refine zv_getR (j := 51) hC fl_X11_25 dX11_told_77 rfl rfl ?_
          refine zv_iload_n hC dX11_told_80 rfl ?_
          refine zv_iald hC dX11_told_81 rfl h.1 ?_
          replace h := h.2
          refine zv_goto (tgt := 119) hC dX11_told_82 (by decide) ?_
          exact zv_go (k_X11_told_119 hC hR  h) trivial
      · replace h := h.2 c
        refine zv_aload_n hC dX11_told_62 rfl ?_
        refine zv_getR (j := 50) hC fl_X11_22 dX11_told_63 rfl rfl ?_
        refine zv_iload_n hC dX11_told_66 rfl ?_
        refine zv_iald hC dX11_told_67 rfl h.1 ?_
        replace h := h.2
        refine zv_goto (tgt := 119) hC dX11_told_68 (by decide) ?_
        exact zv_go (k_X11_told_119 hC hR  h) trivial
    · replace h := h.2 c
      refine zv_aload_n hC dX11_told_48 rfl ?_
      refine zv_getR (j := 49) hC fl_X11_19 dX11_told_49 rfl rfl ?_
      refine zv_iload_n hC dX11_told_52 rfl ?_
      refine zv_iald hC dX11_told_53 rfl h.1 ?_
      replace h := h.2
      refine zv_goto (tgt := 119) hC dX11_told_54 (by decide) ?_
      exact zv_go (k_X11_told_119 hC hR  h) trivial
  · replace h := h.2 c
    refine zv_aload_n hC dX11_told_34 rfl ?_
    refine zv_getR (j := 48) hC fl_X11_16 dX11_told_35 rfl rfl ?_
    refine zv_iload_n hC dX11_told_38 rfl ?_
    refine zv_iald hC dX11_told_39 rfl h.1 ?_
    replace h := h.2
    refine zv_goto (tgt := 119) hC dX11_told_40 (by decide) ?_
    exact zv_go (k_X11_told_119 hC hR  h) trivial
def B_X11_told (Q : Int32 → zv_St → Prop) (x1 : Int32) (x2 : Int32) (σ : zv_St) : Prop :=
  B_X11_isNode (fun r_2 σ_1 => (r_2 = 0 → (B_X11_told_18 Q σ_1)) ∧ (¬ r_2 = 0 → (B_X11_in (fun r_4 σ_3 => (¬ r_4 = 0 → ((¬ x2 = 4 → (B_X11_told_30 Q x1 x2 σ_3)) ∧ (x2 = 4 → (B_X11_costs (fun σ_5 => B_X11_told_30 Q x1 x2 σ_5) σ_3)))) ∧ (r_4 = 0 → (B_X11_told_18 Q σ_3))) x2 0 6 σ_1))) x1 σ
set_option maxRecDepth 20000 in
set_option maxHeartbeats 2000000 in
theorem k_X11_told_0 {G : zv_G} {X : zv_X} {Q : Int32 → zv_St → Prop}  (hC : zv_C G X M_X11_told) (hR : zv_R G X M_X11_told (zv_qi Q))  {x1 : Int32} {x2 : Int32} {σ : zv_St} (h : B_X11_told Q  x1 x2 σ) : zv_V G X M_X11_told 0 [(0, .ref (G.2.2.1 45)), (1, .int x1), (2, .int x2)] [] σ := by
  unfold B_X11_told at h
  refine zv_aload_n hC dX11_told_0 rfl ?_
  refine zv_iload_n hC dX11_told_1 rfl ?_
  refine zv_callVi (As := [_]) hC dX11_told_2 Y_X11_isNode lk_X11_123 (by decide) rfl rfl rfl (Nat.le_of_ble_eq_true rfl) (ok_X11_isNode G h) ?_
  intro r_2 σ_1 h
  refine zv_if_eq (tgt := 18) hC dX11_told_5 (by decide) (fun c => ?_) (fun c => ?_)
  · replace h := h.1 c
    exact zv_go (k_X11_told_18 hC hR  h) trivial
  · replace h := h.2 c
    refine zv_iload_n hC dX11_told_8 rfl ?_
    refine zv_iconst (v := 0) hC dX11_told_9 (by decide) ?_
    refine zv_bipush (v := 6) hC dX11_told_10 (by decide) ?_
    refine zv_callSi (As := [_, _, _]) hC dX11_told_12 Y_X11_in lk_X11_103 (by decide) rfl rfl (Nat.le_of_ble_eq_true rfl) (ok_X11_in G h) ?_
    intro r_4 σ_3 h
    refine zv_if_ne (tgt := 21) hC dX11_told_15 (by decide) (fun c => ?_) (fun c => ?_)
    · replace h := h.1 c
      refine zv_iload_n hC dX11_told_21 rfl ?_
      refine zv_iconst (v := 4) hC dX11_told_22 (by decide) ?_
      refine zv_icmp_ne (tgt := 30) hC dX11_told_23 (by decide) (fun c => ?_) (fun c => ?_)
      · replace h := h.1 c
        exact zv_go (k_X11_told_30 hC hR  h) ⟨rfl, rfl, rfl, trivial⟩
      · replace h := h.2 c
        refine zv_aload_n hC dX11_told_26 rfl ?_
        refine zv_callVv (As := []) hC dX11_told_27 Y_X11_costs lk_X11_134 (by decide) rfl rfl rfl (Nat.le_of_ble_eq_true rfl) (ok_X11_costs G h) ?_
        intro σ_5 h
        exact zv_go (k_X11_told_30 hC hR  h) ⟨rfl, rfl, rfl, trivial⟩
    · replace h := h.2 c
      exact zv_go (k_X11_told_18 hC hR  h) trivial
theorem ok_X11_told (G : zv_G) {Q : Int32 → zv_St → Prop} {x1 : Int32} {x2 : Int32} {σ : zv_St} (h : B_X11_told Q x1 x2 σ) : zv_OK G M_X11_told yX11_told [.ref (G.2.2.1 45), .int x1, .int x2] σ (zv_qi Q) := zv_ok G _ _ _ _ _ (by decide +kernel) rfl (Nat.le_of_ble_eq_true rfl) (fun X hC hR => zv_go (k_X11_told_0 hC hR h) ⟨rfl, rfl, rfl, trivial⟩)
-- X11_partOf
def B_X11_partOf_33 (Q : Int32 → zv_St → Prop) (σ : zv_St) : Prop :=
  Q (-2) σ
set_option maxRecDepth 20000 in
set_option maxHeartbeats 2000000 in
theorem k_X11_partOf_33 {G : zv_G} {X : zv_X} {Q : Int32 → zv_St → Prop}  (hC : zv_C G X M_X11_partOf) (hR : zv_R G X M_X11_partOf (zv_qi Q))   {σ : zv_St} (h : B_X11_partOf_33 Q   σ) : zv_V G X M_X11_partOf 33 [] [] σ := by
  unfold B_X11_partOf_33 at h
  refine zv_bipush (v := (-2)) hC dX11_partOf_33 (by decide) ?_
  exact (hR _ _ _).1 _ rfl dX11_partOf_35 ⟨_, rfl, h⟩
def B_X11_partOf_65 (Q : Int32 → zv_St → Prop) (y0 : Int32) (σ : zv_St) : Prop :=
  Q y0 σ
set_option maxRecDepth 20000 in
set_option maxHeartbeats 2000000 in
theorem k_X11_partOf_65 {G : zv_G} {X : zv_X} {Q : Int32 → zv_St → Prop}  (hC : zv_C G X M_X11_partOf) (hR : zv_R G X M_X11_partOf (zv_qi Q))  {y0 : Int32} {σ : zv_St} (h : B_X11_partOf_65 Q  y0 σ) : zv_V G X M_X11_partOf 65 [] [.int y0] σ := by
  unfold B_X11_partOf_65 at h
  exact (hR _ _ _).1 _ rfl dX11_partOf_65 ⟨_, rfl, h⟩
def B_X11_partOf (Q : Int32 → zv_St → Prop) (x1 : Int32) (x2 : Int32) (x3 : Int32) (σ : zv_St) : Prop :=
  B_X11_isNode (fun r_2 σ_1 => (r_2 = 0 → (B_X11_partOf_33 Q σ_1)) ∧ (¬ r_2 = 0 → (vp_in x1 80 ∧ B_X11_in (fun r_4 σ_3 => (r_4 = 0 → (B_X11_partOf_33 Q σ_3)) ∧ (¬ r_4 = 0 → (B_X11_in (fun r_6 σ_5 => (¬ r_6 = 0 → ((¬ x3 = 0 → (vp_in ((8 * x1) + x2) 640 ∧ B_X11_partOf_65 Q (σ_5.1 53 ((8 * x1) + x2).toNatClampNeg) σ_5)) ∧ (x3 = 0 → (vp_in ((8 * x1) + x2) 640 ∧ B_X11_partOf_65 Q (σ_5.1 52 ((8 * x1) + x2).toNatClampNeg) σ_5)))) ∧ (r_6 = 0 → (B_X11_partOf_33 Q σ_5))) x3 0 1 σ_3))) x2 0 ((σ_1.1 51 x1.toNatClampNeg) - 1) σ_1))) x1 σ
set_option maxRecDepth 20000 in
set_option maxHeartbeats 2000000 in
theorem k_X11_partOf_0 {G : zv_G} {X : zv_X} {Q : Int32 → zv_St → Prop}  (hC : zv_C G X M_X11_partOf) (hR : zv_R G X M_X11_partOf (zv_qi Q))  {x1 : Int32} {x2 : Int32} {x3 : Int32} {σ : zv_St} (h : B_X11_partOf Q  x1 x2 x3 σ) : zv_V G X M_X11_partOf 0 [(0, .ref (G.2.2.1 45)), (1, .int x1), (2, .int x2), (3, .int x3)] [] σ := by
  unfold B_X11_partOf at h
  refine zv_aload_n hC dX11_partOf_0 rfl ?_
  refine zv_iload_n hC dX11_partOf_1 rfl ?_
  refine zv_callVi (As := [_]) hC dX11_partOf_2 Y_X11_isNode lk_X11_123 (by decide) rfl rfl rfl (Nat.le_of_ble_eq_true rfl) (ok_X11_isNode G h) ?_
  intro r_2 σ_1 h
  refine zv_if_eq (tgt := 33) hC dX11_partOf_5 (by decide) (fun c => ?_) (fun c => ?_)
  · replace h := h.1 c
    exact zv_go (k_X11_partOf_33 hC hR  h) trivial
  · replace h := h.2 c
    refine zv_iload_n hC dX11_partOf_8 rfl ?_
    refine zv_iconst (v := 0) hC dX11_partOf_9 (by decide) ?_
    refine zv_aload_n hC dX11_partOf_10 rfl ?_
    refine zv_getR (j := 51) hC fl_X11_25 dX11_partOf_11 rfl rfl ?_
    refine zv_iload_n hC dX11_partOf_14 rfl ?_
    refine zv_iald hC dX11_partOf_15 rfl h.1 ?_
    replace h := h.2
    refine zv_iconst (v := 1) hC dX11_partOf_16 (by decide) ?_
    refine zv_isub hC dX11_partOf_17 ?_
    refine zv_callSi (As := [_, _, _]) hC dX11_partOf_18 Y_X11_in lk_X11_103 (by decide) rfl rfl (Nat.le_of_ble_eq_true rfl) (ok_X11_in G h) ?_
    intro r_4 σ_3 h
    refine zv_if_eq (tgt := 33) hC dX11_partOf_21 (by decide) (fun c => ?_) (fun c => ?_)
    · replace h := h.1 c
      exact zv_go (k_X11_partOf_33 hC hR  h) trivial
    · replace h := h.2 c
      refine zv_iload_n hC dX11_partOf_24 rfl ?_
      refine zv_iconst (v := 0) hC dX11_partOf_25 (by decide) ?_
      refine zv_iconst (v := 1) hC dX11_partOf_26 (by decide) ?_
      refine zv_callSi (As := [_, _, _]) hC dX11_partOf_27 Y_X11_in lk_X11_103 (by decide) rfl rfl (Nat.le_of_ble_eq_true rfl) (ok_X11_in G h) ?_
      intro r_6 σ_5 h
      refine zv_if_ne (tgt := 36) hC dX11_partOf_30 (by decide) (fun c => ?_) (fun c => ?_)
      · replace h := h.1 c
        refine zv_iload_n hC dX11_partOf_36 rfl ?_
        refine zv_if_ne (tgt := 54) hC dX11_partOf_37 (by decide) (fun c => ?_) (fun c => ?_)
        · replace h := h.1 c
          refine zv_aload_n hC dX11_partOf_54 rfl ?_
          refine zv_getR (j := 53) hC fl_X11_31 dX11_partOf_55 rfl rfl ?_
          refine zv_bipush (v := 8) hC dX11_partOf_58 (by decide) ?_
          refine zv_iload_n hC dX11_partOf_60 rfl ?_
          refine zv_imul hC dX11_partOf_61 ?_
          refine zv_iload_n hC dX11_partOf_62 rfl ?_
          refine zv_iadd hC dX11_partOf_63 ?_
          refine zv_iald hC dX11_partOf_64 rfl h.1 ?_
          replace h := h.2
          exact zv_go (k_X11_partOf_65 hC hR  h) trivial
        · replace h := h.2 c
          refine zv_aload_n hC dX11_partOf_40 rfl ?_
          refine zv_getR (j := 52) hC fl_X11_28 dX11_partOf_41 rfl rfl ?_
          refine zv_bipush (v := 8) hC dX11_partOf_44 (by decide) ?_
          refine zv_iload_n hC dX11_partOf_46 rfl ?_
          refine zv_imul hC dX11_partOf_47 ?_
          refine zv_iload_n hC dX11_partOf_48 rfl ?_
          refine zv_iadd hC dX11_partOf_49 ?_
          refine zv_iald hC dX11_partOf_50 rfl h.1 ?_
          replace h := h.2
          refine zv_goto (tgt := 65) hC dX11_partOf_51 (by decide) ?_
          exact zv_go (k_X11_partOf_65 hC hR  h) trivial
      · replace h := h.2 c
        exact zv_go (k_X11_partOf_33 hC hR  h) trivial
theorem ok_X11_partOf (G : zv_G) {Q : Int32 → zv_St → Prop} {x1 : Int32} {x2 : Int32} {x3 : Int32} {σ : zv_St} (h : B_X11_partOf Q x1 x2 x3 σ) : zv_OK G M_X11_partOf yX11_partOf [.ref (G.2.2.1 45), .int x1, .int x2, .int x3] σ (zv_qi Q) := zv_ok G _ _ _ _ _ (by decide +kernel) rfl (Nat.le_of_ble_eq_true rfl) (fun X hC hR => zv_go (k_X11_partOf_0 hC hR h) ⟨rfl, rfl, rfl, rfl, trivial⟩)
-- X11_fits
def B_X11_fits_191 (Q : Int32 → zv_St → Prop) (y0 : Int32) (σ : zv_St) : Prop :=
  narrow .boolean (.int y0) = .int y0 ∧ Q y0 σ
set_option maxRecDepth 20000 in
set_option maxHeartbeats 2000000 in
theorem k_X11_fits_191 {G : zv_G} {X : zv_X} {Q : Int32 → zv_St → Prop}  (hC : zv_C G X M_X11_fits) (hR : zv_R G X M_X11_fits (zv_qi Q))  {y0 : Int32} {σ : zv_St} (h : B_X11_fits_191 Q  y0 σ) : zv_V G X M_X11_fits 191 [] [.int y0] σ := by
  unfold B_X11_fits_191 at h
  exact (hR _ _ _).2.1 _ rfl h.1 dX11_fits_191 ⟨_, rfl, h.2⟩
def B_X11_fits_190 (Q : Int32 → zv_St → Prop) (σ : zv_St) : Prop :=
  B_X11_fits_191 Q 0 σ
set_option maxRecDepth 20000 in
set_option maxHeartbeats 2000000 in
theorem k_X11_fits_190 {G : zv_G} {X : zv_X} {Q : Int32 → zv_St → Prop}  (hC : zv_C G X M_X11_fits) (hR : zv_R G X M_X11_fits (zv_qi Q))   {σ : zv_St} (h : B_X11_fits_190 Q   σ) : zv_V G X M_X11_fits 190 [] [] σ := by
  unfold B_X11_fits_190 at h
  refine zv_iconst (v := 0) hC dX11_fits_190 (by decide) ?_
  exact zv_go (k_X11_fits_191 hC hR  h) trivial
def B_X11_fits_157 (Q : Int32 → zv_St → Prop) (kk11 : Int32 → Int32 → Int32 → Int32 → Int32 → Int32 → zv_St → Prop) (x1 : Int32) (x2 : Int32) (x3 : Int32) (x4 : Int32) (x6 : Int32) (y0 : Int32) (y1 : Int32) (σ : zv_St) : Prop :=
  kk11 x1 x2 x3 x4 (y0 + y1) (x6 + 1) σ
set_option maxRecDepth 20000 in
set_option maxHeartbeats 2000000 in
theorem k_X11_fits_157 {G : zv_G} {X : zv_X} {Q : Int32 → zv_St → Prop} {kk11 : Int32 → Int32 → Int32 → Int32 → Int32 → Int32 → zv_St → Prop} (hC : zv_C G X M_X11_fits) (hR : zv_R G X M_X11_fits (zv_qi Q)) (hk11 : ∀ (x1 : Int32) (x2 : Int32) (x3 : Int32) (x4 : Int32) (x5 : Int32) (x6 : Int32) (σ : zv_St), kk11 x1 x2 x3 x4 x5 x6 σ → zv_V G X M_X11_fits 11 [(0, .ref (G.2.2.1 45)), (1, .int x1), (2, .int x2), (3, .int x3), (4, .int x4), (5, .int x5), (6, .int x6)] [] σ) {x1 : Int32} {x2 : Int32} {x3 : Int32} {x4 : Int32} {x6 : Int32} {y0 : Int32} {y1 : Int32} {σ : zv_St} (h : B_X11_fits_157 Q kk11 x1 x2 x3 x4 x6 y0 y1 σ) : zv_V G X M_X11_fits 157 [(0, .ref (G.2.2.1 45)), (1, .int x1), (2, .int x2), (3, .int x3), (4, .int x4), (6, .int x6)] [.int y1, .int y0] σ := by
  unfold B_X11_fits_157 at h
  refine zv_iadd hC dX11_fits_157 ?_
  refine zv_istore hC dX11_fits_158 (by decide) ?_
  refine zv_iinc (v := 1) hC dX11_fits_160 rfl (by decide) (by decide) ?_
  refine zv_goto (tgt := 11) hC dX11_fits_163 (by decide) ?_
  exact zv_go (hk11 _ _ _ _ _ _ _ h) ⟨rfl, rfl, rfl, rfl, rfl, rfl, rfl, trivial⟩
def B_X11_fits_156 (Q : Int32 → zv_St → Prop) (kk11 : Int32 → Int32 → Int32 → Int32 → Int32 → Int32 → zv_St → Prop) (x1 : Int32) (x2 : Int32) (x3 : Int32) (x4 : Int32) (x6 : Int32) (y0 : Int32) (σ : zv_St) : Prop :=
  B_X11_fits_157 Q kk11 x1 x2 x3 x4 x6 y0 0 σ
set_option maxRecDepth 20000 in
set_option maxHeartbeats 2000000 in
theorem k_X11_fits_156 {G : zv_G} {X : zv_X} {Q : Int32 → zv_St → Prop} {kk11 : Int32 → Int32 → Int32 → Int32 → Int32 → Int32 → zv_St → Prop} (hC : zv_C G X M_X11_fits) (hR : zv_R G X M_X11_fits (zv_qi Q)) (hk11 : ∀ (x1 : Int32) (x2 : Int32) (x3 : Int32) (x4 : Int32) (x5 : Int32) (x6 : Int32) (σ : zv_St), kk11 x1 x2 x3 x4 x5 x6 σ → zv_V G X M_X11_fits 11 [(0, .ref (G.2.2.1 45)), (1, .int x1), (2, .int x2), (3, .int x3), (4, .int x4), (5, .int x5), (6, .int x6)] [] σ) {x1 : Int32} {x2 : Int32} {x3 : Int32} {x4 : Int32} {x6 : Int32} {y0 : Int32} {σ : zv_St} (h : B_X11_fits_156 Q kk11 x1 x2 x3 x4 x6 y0 σ) : zv_V G X M_X11_fits 156 [(0, .ref (G.2.2.1 45)), (1, .int x1), (2, .int x2), (3, .int x3), (4, .int x4), (6, .int x6)] [.int y0] σ := by
  unfold B_X11_fits_156 at h
  refine zv_iconst (v := 0) hC dX11_fits_156 (by decide) ?_
  exact zv_go (k_X11_fits_157 hC hR hk11 h) ⟨rfl, rfl, rfl, rfl, rfl, rfl, trivial⟩
def B_X11_fits_137 (Q : Int32 → zv_St → Prop) (kk11 : Int32 → Int32 → Int32 → Int32 → Int32 → Int32 → zv_St → Prop) (x1 : Int32) (x2 : Int32) (x3 : Int32) (x5 : Int32) (x6 : Int32) (x8 : Int32) (x9 : Int32) (y0 : Int32) (σ : zv_St) : Prop :=
  (¬ x8 = 3 → (B_X11_fits_156 Q kk11 x1 x2 x3 y0 x6 x5 σ)) ∧ (x8 = 3 → ((x9 = 0 → (B_X11_fits_156 Q kk11 x1 x2 x3 y0 x6 x5 σ)) ∧ (¬ x9 = 0 → (B_X11_fits_157 Q kk11 x1 x2 x3 y0 x6 x5 1 σ))))
set_option maxRecDepth 20000 in
set_option maxHeartbeats 2000000 in
theorem k_X11_fits_137 {G : zv_G} {X : zv_X} {Q : Int32 → zv_St → Prop} {kk11 : Int32 → Int32 → Int32 → Int32 → Int32 → Int32 → zv_St → Prop} (hC : zv_C G X M_X11_fits) (hR : zv_R G X M_X11_fits (zv_qi Q)) (hk11 : ∀ (x1 : Int32) (x2 : Int32) (x3 : Int32) (x4 : Int32) (x5 : Int32) (x6 : Int32) (σ : zv_St), kk11 x1 x2 x3 x4 x5 x6 σ → zv_V G X M_X11_fits 11 [(0, .ref (G.2.2.1 45)), (1, .int x1), (2, .int x2), (3, .int x3), (4, .int x4), (5, .int x5), (6, .int x6)] [] σ) {x1 : Int32} {x2 : Int32} {x3 : Int32} {x5 : Int32} {x6 : Int32} {x8 : Int32} {x9 : Int32} {y0 : Int32} {σ : zv_St} (h : B_X11_fits_137 Q kk11 x1 x2 x3 x5 x6 x8 x9 y0 σ) : zv_V G X M_X11_fits 137 [(0, .ref (G.2.2.1 45)), (1, .int x1), (2, .int x2), (3, .int x3), (5, .int x5), (6, .int x6), (8, .int x8), (9, .int x9)] [.int y0] σ := by
  unfold B_X11_fits_137 at h
  refine zv_istore hC dX11_fits_137 (by decide) ?_
  refine zv_iload hC dX11_fits_139 rfl ?_
  refine zv_iload hC dX11_fits_141 rfl ?_
  refine zv_iconst (v := 3) hC dX11_fits_143 (by decide) ?_
  refine zv_icmp_ne (tgt := 156) hC dX11_fits_144 (by decide) (fun c => ?_) (fun c => ?_)
  · replace h := h.1 c
    exact zv_go (k_X11_fits_156 hC hR hk11 h) ⟨rfl, rfl, rfl, rfl, rfl, rfl, trivial⟩
  · replace h := h.2 c
    refine zv_iload hC dX11_fits_147 rfl ?_
    refine zv_if_eq (tgt := 156) hC dX11_fits_149 (by decide) (fun c => ?_) (fun c => ?_)
    · replace h := h.1 c
      exact zv_go (k_X11_fits_156 hC hR hk11 h) ⟨rfl, rfl, rfl, rfl, rfl, rfl, trivial⟩
    · replace h := h.2 c
      refine zv_iconst (v := 1) hC dX11_fits_152 (by decide) ?_
      refine zv_goto (tgt := 157) hC dX11_fits_153 (by decide) ?_
      exact zv_go (k_X11_fits_157 hC hR hk11 h) ⟨rfl, rfl, rfl, rfl, rfl, rfl, trivial⟩
def B_X11_fits_132 (Q : Int32 → zv_St → Prop) (kk11 : Int32 → Int32 → Int32 → Int32 → Int32 → Int32 → zv_St → Prop) (x1 : Int32) (x2 : Int32) (x3 : Int32) (x5 : Int32) (x6 : Int32) (x8 : Int32) (x9 : Int32) (σ : zv_St) : Prop :=
  B_X11_fits_137 Q kk11 x1 x2 x3 x5 x6 x8 x9 1 σ
set_option maxRecDepth 20000 in
set_option maxHeartbeats 2000000 in
theorem k_X11_fits_132 {G : zv_G} {X : zv_X} {Q : Int32 → zv_St → Prop} {kk11 : Int32 → Int32 → Int32 → Int32 → Int32 → Int32 → zv_St → Prop} (hC : zv_C G X M_X11_fits) (hR : zv_R G X M_X11_fits (zv_qi Q)) (hk11 : ∀ (x1 : Int32) (x2 : Int32) (x3 : Int32) (x4 : Int32) (x5 : Int32) (x6 : Int32) (σ : zv_St), kk11 x1 x2 x3 x4 x5 x6 σ → zv_V G X M_X11_fits 11 [(0, .ref (G.2.2.1 45)), (1, .int x1), (2, .int x2), (3, .int x3), (4, .int x4), (5, .int x5), (6, .int x6)] [] σ) {x1 : Int32} {x2 : Int32} {x3 : Int32} {x5 : Int32} {x6 : Int32} {x8 : Int32} {x9 : Int32} {σ : zv_St} (h : B_X11_fits_132 Q kk11 x1 x2 x3 x5 x6 x8 x9 σ) : zv_V G X M_X11_fits 132 [(0, .ref (G.2.2.1 45)), (1, .int x1), (2, .int x2), (3, .int x3), (5, .int x5), (6, .int x6), (8, .int x8), (9, .int x9)] [] σ := by
  unfold B_X11_fits_132 at h
  refine zv_iconst (v := 1) hC dX11_fits_132 (by decide) ?_
  refine zv_goto (tgt := 137) hC dX11_fits_133 (by decide) ?_
  exact zv_go (k_X11_fits_137 hC hR hk11 h) ⟨rfl, rfl, rfl, rfl, rfl, rfl, rfl, rfl, trivial⟩
def B_X11_fits_136 (Q : Int32 → zv_St → Prop) (kk11 : Int32 → Int32 → Int32 → Int32 → Int32 → Int32 → zv_St → Prop) (x1 : Int32) (x2 : Int32) (x3 : Int32) (x5 : Int32) (x6 : Int32) (x8 : Int32) (x9 : Int32) (σ : zv_St) : Prop :=
  B_X11_fits_137 Q kk11 x1 x2 x3 x5 x6 x8 x9 0 σ
set_option maxRecDepth 20000 in
set_option maxHeartbeats 2000000 in
theorem k_X11_fits_136 {G : zv_G} {X : zv_X} {Q : Int32 → zv_St → Prop} {kk11 : Int32 → Int32 → Int32 → Int32 → Int32 → Int32 → zv_St → Prop} (hC : zv_C G X M_X11_fits) (hR : zv_R G X M_X11_fits (zv_qi Q)) (hk11 : ∀ (x1 : Int32) (x2 : Int32) (x3 : Int32) (x4 : Int32) (x5 : Int32) (x6 : Int32) (σ : zv_St), kk11 x1 x2 x3 x4 x5 x6 σ → zv_V G X M_X11_fits 11 [(0, .ref (G.2.2.1 45)), (1, .int x1), (2, .int x2), (3, .int x3), (4, .int x4), (5, .int x5), (6, .int x6)] [] σ) {x1 : Int32} {x2 : Int32} {x3 : Int32} {x5 : Int32} {x6 : Int32} {x8 : Int32} {x9 : Int32} {σ : zv_St} (h : B_X11_fits_136 Q kk11 x1 x2 x3 x5 x6 x8 x9 σ) : zv_V G X M_X11_fits 136 [(0, .ref (G.2.2.1 45)), (1, .int x1), (2, .int x2), (3, .int x3), (5, .int x5), (6, .int x6), (8, .int x8), (9, .int x9)] [] σ := by
  unfold B_X11_fits_136 at h
  refine zv_iconst (v := 0) hC dX11_fits_136 (by decide) ?_
  exact zv_go (k_X11_fits_137 hC hR hk11 h) ⟨rfl, rfl, rfl, rfl, rfl, rfl, rfl, rfl, trivial⟩
def B_X11_fits_115 (Q : Int32 → zv_St → Prop) (kk11 : Int32 → Int32 → Int32 → Int32 → Int32 → Int32 → zv_St → Prop) (x1 : Int32) (x2 : Int32) (x4 : Int32) (x5 : Int32) (x6 : Int32) (x8 : Int32) (x9 : Int32) (y0 : Int32) (σ : zv_St) : Prop :=
  (¬ x4 = 0 → (B_X11_fits_132 Q kk11 x1 x2 y0 x5 x6 x8 x9 σ)) ∧ (x4 = 0 → ((x8 = 2 → (B_X11_fits_136 Q kk11 x1 x2 y0 x5 x6 x8 x9 σ)) ∧ (¬ x8 = 2 → ((x9 = 0 → (B_X11_fits_136 Q kk11 x1 x2 y0 x5 x6 x8 x9 σ)) ∧ (¬ x9 = 0 → (B_X11_fits_132 Q kk11 x1 x2 y0 x5 x6 x8 x9 σ))))))
set_option maxRecDepth 20000 in
set_option maxHeartbeats 2000000 in
theorem k_X11_fits_115 {G : zv_G} {X : zv_X} {Q : Int32 → zv_St → Prop} {kk11 : Int32 → Int32 → Int32 → Int32 → Int32 → Int32 → zv_St → Prop} (hC : zv_C G X M_X11_fits) (hR : zv_R G X M_X11_fits (zv_qi Q)) (hk11 : ∀ (x1 : Int32) (x2 : Int32) (x3 : Int32) (x4 : Int32) (x5 : Int32) (x6 : Int32) (σ : zv_St), kk11 x1 x2 x3 x4 x5 x6 σ → zv_V G X M_X11_fits 11 [(0, .ref (G.2.2.1 45)), (1, .int x1), (2, .int x2), (3, .int x3), (4, .int x4), (5, .int x5), (6, .int x6)] [] σ) {x1 : Int32} {x2 : Int32} {x4 : Int32} {x5 : Int32} {x6 : Int32} {x8 : Int32} {x9 : Int32} {y0 : Int32} {σ : zv_St} (h : B_X11_fits_115 Q kk11 x1 x2 x4 x5 x6 x8 x9 y0 σ) : zv_V G X M_X11_fits 115 [(0, .ref (G.2.2.1 45)), (1, .int x1), (2, .int x2), (4, .int x4), (5, .int x5), (6, .int x6), (8, .int x8), (9, .int x9)] [.int y0] σ := by
  unfold B_X11_fits_115 at h
  refine zv_istore_n hC dX11_fits_115 (by decide) ?_
  refine zv_iload hC dX11_fits_116 rfl ?_
  refine zv_if_ne (tgt := 132) hC dX11_fits_118 (by decide) (fun c => ?_) (fun c => ?_)
  · replace h := h.1 c
    exact zv_go (k_X11_fits_132 hC hR hk11 h) ⟨rfl, rfl, rfl, rfl, rfl, rfl, rfl, rfl, trivial⟩
  · replace h := h.2 c
    refine zv_iload hC dX11_fits_121 rfl ?_
    refine zv_iconst (v := 2) hC dX11_fits_123 (by decide) ?_
    refine zv_icmp_eq (tgt := 136) hC dX11_fits_124 (by decide) (fun c => ?_) (fun c => ?_)
    · replace h := h.1 c
      exact zv_go (k_X11_fits_136 hC hR hk11 h) ⟨rfl, rfl, rfl, rfl, rfl, rfl, rfl, rfl, trivial⟩
    · replace h := h.2 c
      refine zv_iload hC dX11_fits_127 rfl ?_
      refine zv_if_eq (tgt := 136) hC dX11_fits_129 (by decide) (fun c => ?_) (fun c => ?_)
      · replace h := h.1 c
        exact zv_go (k_X11_fits_136 hC hR hk11 h) ⟨rfl, rfl, rfl, rfl, rfl, rfl, rfl, rfl, trivial⟩
      · replace h := h.2 c
        exact zv_go (k_X11_fits_132 hC hR hk11 h) ⟨rfl, rfl, rfl, rfl, rfl, rfl, rfl, rfl, trivial⟩
def B_X11_fits_114 (Q : Int32 → zv_St → Prop) (kk11 : Int32 → Int32 → Int32 → Int32 → Int32 → Int32 → zv_St → Prop) (x1 : Int32) (x2 : Int32) (x4 : Int32) (x5 : Int32) (x6 : Int32) (x8 : Int32) (x9 : Int32) (σ : zv_St) : Prop :=
  B_X11_fits_115 Q kk11 x1 x2 x4 x5 x6 x8 x9 0 σ
set_option maxRecDepth 20000 in
set_option maxHeartbeats 2000000 in
theorem k_X11_fits_114 {G : zv_G} {X : zv_X} {Q : Int32 → zv_St → Prop} {kk11 : Int32 → Int32 → Int32 → Int32 → Int32 → Int32 → zv_St → Prop} (hC : zv_C G X M_X11_fits) (hR : zv_R G X M_X11_fits (zv_qi Q)) (hk11 : ∀ (x1 : Int32) (x2 : Int32) (x3 : Int32) (x4 : Int32) (x5 : Int32) (x6 : Int32) (σ : zv_St), kk11 x1 x2 x3 x4 x5 x6 σ → zv_V G X M_X11_fits 11 [(0, .ref (G.2.2.1 45)), (1, .int x1), (2, .int x2), (3, .int x3), (4, .int x4), (5, .int x5), (6, .int x6)] [] σ) {x1 : Int32} {x2 : Int32} {x4 : Int32} {x5 : Int32} {x6 : Int32} {x8 : Int32} {x9 : Int32} {σ : zv_St} (h : B_X11_fits_114 Q kk11 x1 x2 x4 x5 x6 x8 x9 σ) : zv_V G X M_X11_fits 114 [(0, .ref (G.2.2.1 45)), (1, .int x1), (2, .int x2), (4, .int x4), (5, .int x5), (6, .int x6), (8, .int x8), (9, .int x9)] [] σ := by
  unfold B_X11_fits_114 at h
  refine zv_iconst (v := 0) hC dX11_fits_114 (by decide) ?_
  exact zv_go (k_X11_fits_115 hC hR hk11 h) ⟨rfl, rfl, rfl, rfl, rfl, rfl, rfl, rfl, trivial⟩
def B_X11_fits_110 (Q : Int32 → zv_St → Prop) (kk11 : Int32 → Int32 → Int32 → Int32 → Int32 → Int32 → zv_St → Prop) (x1 : Int32) (x2 : Int32) (x4 : Int32) (x5 : Int32) (x6 : Int32) (x8 : Int32) (x9 : Int32) (σ : zv_St) : Prop :=
  B_X11_fits_115 Q kk11 x1 x2 x4 x5 x6 x8 x9 1 σ
set_option maxRecDepth 20000 in
set_option maxHeartbeats 2000000 in
theorem k_X11_fits_110 {G : zv_G} {X : zv_X} {Q : Int32 → zv_St → Prop} {kk11 : Int32 → Int32 → Int32 → Int32 → Int32 → Int32 → zv_St → Prop} (hC : zv_C G X M_X11_fits) (hR : zv_R G X M_X11_fits (zv_qi Q)) (hk11 : ∀ (x1 : Int32) (x2 : Int32) (x3 : Int32) (x4 : Int32) (x5 : Int32) (x6 : Int32) (σ : zv_St), kk11 x1 x2 x3 x4 x5 x6 σ → zv_V G X M_X11_fits 11 [(0, .ref (G.2.2.1 45)), (1, .int x1), (2, .int x2), (3, .int x3), (4, .int x4), (5, .int x5), (6, .int x6)] [] σ) {x1 : Int32} {x2 : Int32} {x4 : Int32} {x5 : Int32} {x6 : Int32} {x8 : Int32} {x9 : Int32} {σ : zv_St} (h : B_X11_fits_110 Q kk11 x1 x2 x4 x5 x6 x8 x9 σ) : zv_V G X M_X11_fits 110 [(0, .ref (G.2.2.1 45)), (1, .int x1), (2, .int x2), (4, .int x4), (5, .int x5), (6, .int x6), (8, .int x8), (9, .int x9)] [] σ := by
  unfold B_X11_fits_110 at h
  refine zv_iconst (v := 1) hC dX11_fits_110 (by decide) ?_
  refine zv_goto (tgt := 115) hC dX11_fits_111 (by decide) ?_
  exact zv_go (k_X11_fits_115 hC hR hk11 h) ⟨rfl, rfl, rfl, rfl, rfl, rfl, rfl, rfl, trivial⟩
def B_X11_fits_107 (Q : Int32 → zv_St → Prop) (kk11 : Int32 → Int32 → Int32 → Int32 → Int32 → Int32 → zv_St → Prop) (x1 : Int32) (x2 : Int32) (x4 : Int32) (x5 : Int32) (x6 : Int32) (x8 : Int32) (x9 : Int32) (y0 : Int32) (y1 : Int32) (σ : zv_St) : Prop :=
  (¬ y0 = y1 → (B_X11_fits_114 Q kk11 x1 x2 x4 x5 x6 x8 x9 σ)) ∧ (y0 = y1 → (B_X11_fits_110 Q kk11 x1 x2 x4 x5 x6 x8 x9 σ))
set_option maxRecDepth 20000 in
set_option maxHeartbeats 2000000 in
theorem k_X11_fits_107 {G : zv_G} {X : zv_X} {Q : Int32 → zv_St → Prop} {kk11 : Int32 → Int32 → Int32 → Int32 → Int32 → Int32 → zv_St → Prop} (hC : zv_C G X M_X11_fits) (hR : zv_R G X M_X11_fits (zv_qi Q)) (hk11 : ∀ (x1 : Int32) (x2 : Int32) (x3 : Int32) (x4 : Int32) (x5 : Int32) (x6 : Int32) (σ : zv_St), kk11 x1 x2 x3 x4 x5 x6 σ → zv_V G X M_X11_fits 11 [(0, .ref (G.2.2.1 45)), (1, .int x1), (2, .int x2), (3, .int x3), (4, .int x4), (5, .int x5), (6, .int x6)] [] σ) {x1 : Int32} {x2 : Int32} {x4 : Int32} {x5 : Int32} {x6 : Int32} {x8 : Int32} {x9 : Int32} {y0 : Int32} {y1 : Int32} {σ : zv_St} (h : B_X11_fits_107 Q kk11 x1 x2 x4 x5 x6 x8 x9 y0 y1 σ) : zv_V G X M_X11_fits 107 [(0, .ref (G.2.2.1 45)), (1, .int x1), (2, .int x2), (4, .int x4), (5, .int x5), (6, .int x6), (8, .int x8), (9, .int x9)] [.int y1, .int y0] σ := by
  unfold B_X11_fits_107 at h
  refine zv_icmp_ne (tgt := 114) hC dX11_fits_107 (by decide) (fun c => ?_) (fun c => ?_)
  · replace h := h.1 c
    exact zv_go (k_X11_fits_114 hC hR hk11 h) ⟨rfl, rfl, rfl, rfl, rfl, rfl, rfl, rfl, trivial⟩
  · replace h := h.2 c
    exact zv_go (k_X11_fits_110 hC hR hk11 h) ⟨rfl, rfl, rfl, rfl, rfl, rfl, rfl, rfl, trivial⟩
def B_X11_fits_82 (Q : Int32 → zv_St → Prop) (kk11 : Int32 → Int32 → Int32 → Int32 → Int32 → Int32 → zv_St → Prop) (x1 : Int32) (x2 : Int32) (x3 : Int32) (x4 : Int32) (x5 : Int32) (x6 : Int32) (x8 : Int32) (y0 : Int32) (σ : zv_St) : Prop :=
  (x3 = 0 → (B_X11_fits_114 Q kk11 x1 x2 x4 x5 x6 x8 y0 σ)) ∧ (¬ x3 = 0 → ((x8 = 3 → (B_X11_fits_110 Q kk11 x1 x2 x4 x5 x6 x8 y0 σ)) ∧ (¬ x8 = 3 → ((x8 = 2 → (B_X11_fits_107 Q kk11 x1 x2 x4 x5 x6 x8 y0 y0 0 σ)) ∧ (¬ x8 = 2 → (B_X11_fits_107 Q kk11 x1 x2 x4 x5 x6 x8 y0 y0 1 σ))))))
set_option maxRecDepth 20000 in
set_option maxHeartbeats 2000000 in
theorem k_X11_fits_82 {G : zv_G} {X : zv_X} {Q : Int32 → zv_St → Prop} {kk11 : Int32 → Int32 → Int32 → Int32 → Int32 → Int32 → zv_St → Prop} (hC : zv_C G X M_X11_fits) (hR : zv_R G X M_X11_fits (zv_qi Q)) (hk11 : ∀ (x1 : Int32) (x2 : Int32) (x3 : Int32) (x4 : Int32) (x5 : Int32) (x6 : Int32) (σ : zv_St), kk11 x1 x2 x3 x4 x5 x6 σ → zv_V G X M_X11_fits 11 [(0, .ref (G.2.2.1 45)), (1, .int x1), (2, .int x2), (3, .int x3), (4, .int x4), (5, .int x5), (6, .int x6)] [] σ) {x1 : Int32} {x2 : Int32} {x3 : Int32} {x4 : Int32} {x5 : Int32} {x6 : Int32} {x8 : Int32} {y0 : Int32} {σ : zv_St} (h : B_X11_fits_82 Q kk11 x1 x2 x3 x4 x5 x6 x8 y0 σ) : zv_V G X M_X11_fits 82 [(0, .ref (G.2.2.1 45)), (1, .int x1), (2, .int x2), (3, .int x3), (4, .int x4), (5, .int x5), (6, .int x6), (8, .int x8)] [.int y0] σ := by
  unfold B_X11_fits_82 at h
  refine zv_istore hC dX11_fits_82 (by decide) ?_
  refine zv_iload_n hC dX11_fits_84 rfl ?_
  refine zv_if_eq (tgt := 114) hC dX11_fits_85 (by decide) (fun c => ?_) (fun c => ?_)
  · replace h := h.1 c
    exact zv_go (k_X11_fits_114 hC hR hk11 h) ⟨rfl, rfl, rfl, rfl, rfl, rfl, rfl, rfl, trivial⟩
  · replace h := h.2 c
    refine zv_iload hC dX11_fits_88 rfl ?_
    refine zv_iconst (v := 3) hC dX11_fits_90 (by decide) ?_
    refine zv_icmp_eq (tgt := 110) hC dX11_fits_91 (by decide) (fun c => ?_) (fun c => ?_)
    · replace h := h.1 c
      exact zv_go (k_X11_fits_110 hC hR hk11 h) ⟨rfl, rfl, rfl, rfl, rfl, rfl, rfl, rfl, trivial⟩
    · replace h := h.2 c
      refine zv_iload hC dX11_fits_94 rfl ?_
      refine zv_iload hC dX11_fits_96 rfl ?_
      refine zv_iconst (v := 2) hC dX11_fits_98 (by decide) ?_
      refine zv_icmp_eq (tgt := 106) hC dX11_fits_99 (by decide) (fun c => ?_) (fun c => ?_)
      · replace h := h.1 c
        refine zv_iconst (v := 0) hC dX11_fits_106 (by decide) ?_
        exact zv_go (k_X11_fits_107 hC hR hk11 h) ⟨rfl, rfl, rfl, rfl, rfl, rfl, rfl, rfl, trivial⟩
      · replace h := h.2 c
        refine zv_iconst (v := 1) hC dX11_fits_102 (by decide) ?_
        refine zv_goto (tgt := 107) hC dX11_fits_103 (by decide) ?_
        exact zv_go (k_X11_fits_107 hC hR hk11 h) ⟨rfl, rfl, rfl, rfl, rfl, rfl, rfl, rfl, trivial⟩
def B_X11_fits_62 (Q : Int32 → zv_St → Prop) (kk11 : Int32 → Int32 → Int32 → Int32 → Int32 → Int32 → zv_St → Prop) (x1 : Int32) (x2 : Int32) (x3 : Int32) (x4 : Int32) (x5 : Int32) (x6 : Int32) (x7 : Int32) (x8 : Int32) (y0 : Int32) (y1 : Int32) (σ : zv_St) : Prop :=
  (¬ y0 = y1 → (vp_in x7 80 ∧ B_X11_fits_82 Q kk11 x1 x2 x3 x4 x5 x6 x8 (σ.1 63 x7.toNatClampNeg) σ)) ∧ (y0 = y1 → (vp_in x7 80 ∧ B_X11_fits_82 Q kk11 x1 x2 x3 x4 x5 x6 x8 (σ.1 64 x7.toNatClampNeg) σ))
set_option maxRecDepth 20000 in
set_option maxHeartbeats 2000000 in
theorem k_X11_fits_62 {G : zv_G} {X : zv_X} {Q : Int32 → zv_St → Prop} {kk11 : Int32 → Int32 → Int32 → Int32 → Int32 → Int32 → zv_St → Prop} (hC : zv_C G X M_X11_fits) (hR : zv_R G X M_X11_fits (zv_qi Q)) (hk11 : ∀ (x1 : Int32) (x2 : Int32) (x3 : Int32) (x4 : Int32) (x5 : Int32) (x6 : Int32) (σ : zv_St), kk11 x1 x2 x3 x4 x5 x6 σ → zv_V G X M_X11_fits 11 [(0, .ref (G.2.2.1 45)), (1, .int x1), (2, .int x2), (3, .int x3), (4, .int x4), (5, .int x5), (6, .int x6)] [] σ) {x1 : Int32} {x2 : Int32} {x3 : Int32} {x4 : Int32} {x5 : Int32} {x6 : Int32} {x7 : Int32} {x8 : Int32} {y0 : Int32} {y1 : Int32} {σ : zv_St} (h : B_X11_fits_62 Q kk11 x1 x2 x3 x4 x5 x6 x7 x8 y0 y1 σ) : zv_V G X M_X11_fits 62 [(0, .ref (G.2.2.1 45)), (1, .int x1), (2, .int x2), (3, .int x3), (4, .int x4), (5, .int x5), (6, .int x6), (7, .int x7), (8, .int x8)] [.int y1, .int y0] σ := by
  unfold B_X11_fits_62 at h
  refine zv_icmp_ne (tgt := 75) hC dX11_fits_62 (by decide) (fun c => ?_) (fun c => ?_)
  · replace h := h.1 c
    refine zv_aload_n hC dX11_fits_75 rfl ?_
    refine zv_getR (j := 63) hC fl_X11_63 dX11_fits_76 rfl rfl ?_
    refine zv_iload hC dX11_fits_79 rfl ?_
    refine zv_zald hC dX11_fits_81 rfl h.1 ?_
    replace h := h.2
    exact zv_go (k_X11_fits_82 hC hR hk11 h) ⟨rfl, rfl, rfl, rfl, rfl, rfl, rfl, rfl, trivial⟩
  · replace h := h.2 c
    refine zv_aload_n hC dX11_fits_65 rfl ?_
    refine zv_getR (j := 64) hC fl_X11_66 dX11_fits_66 rfl rfl ?_
    refine zv_iload hC dX11_fits_69 rfl ?_
    refine zv_zald hC dX11_fits_71 rfl h.1 ?_
    replace h := h.2
    refine zv_goto (tgt := 82) hC dX11_fits_72 (by decide) ?_
    exact zv_go (k_X11_fits_82 hC hR hk11 h) ⟨rfl, rfl, rfl, rfl, rfl, rfl, rfl, rfl, trivial⟩
def L_X11_fits_11 (Q : Int32 → zv_St → Prop) : Nat → (Int32 → Int32 → Int32 → Int32 → Int32 → Int32 → zv_St → Prop)
  | 0 => fun _ _ _ _ _ _ _ => False
  | u + 1 => fun x1 x2 x3 x4 x5 x6 σ => 
    vp_in x1 80 ∧ ((σ.1 51 x1.toNatClampNeg) ≤ x6 → ((x3 = 0 → (B_X11_fits_190 Q σ)) ∧ (¬ x3 = 0 → ((x4 = 0 → (B_X11_fits_190 Q σ)) ∧ (¬ x4 = 0 → (vp_in x1 80 ∧ (x5 < (σ.1 49 x1.toNatClampNeg) → (B_X11_fits_190 Q σ)) ∧ (¬ x5 < (σ.1 49 x1.toNatClampNeg) → (B_X11_fits_191 Q 1 σ)))))))) ∧ (¬ (σ.1 51 x1.toNatClampNeg) ≤ x6 → (vp_in ((8 * x1) + x6) 640 ∧ ∀ v_1 : Int32, v_1 = (σ.1 53 ((8 * x1) + x6).toNatClampNeg) → vp_in ((8 * x1) + x6) 640 ∧ ∀ v_2 : Int32, v_2 = (σ.1 52 ((8 * x1) + x6).toNatClampNeg) → (v_2 = 2 → (B_X11_fits_62 Q (L_X11_fits_11 Q u) x1 x2 x3 x4 x5 x6 v_1 v_2 x2 0 σ)) ∧ (¬ v_2 = 2 → (B_X11_fits_62 Q (L_X11_fits_11 Q u) x1 x2 x3 x4 x5 x6 v_1 v_2 x2 1 σ))))
set_option maxRecDepth 20000 in
set_option maxHeartbeats 2000000 in
theorem kL_X11_fits_11 {G : zv_G} {X : zv_X} {Q : Int32 → zv_St → Prop}  (hC : zv_C G X M_X11_fits) (hR : zv_R G X M_X11_fits (zv_qi Q))  : ∀ (n : Nat) (x1 : Int32) (x2 : Int32) (x3 : Int32) (x4 : Int32) (x5 : Int32) (x6 : Int32) (σ : zv_St), L_X11_fits_11 Q  n x1 x2 x3 x4 x5 x6 σ → zv_V G X M_X11_fits 11 [(0, .ref (G.2.2.1 45)), (1, .int x1), (2, .int x2), (3, .int x3), (4, .int x4), (5, .int x5), (6, .int x6)] [] σ := by
  intro n
  induction n with
  | zero => intro x1 x2 x3 x4 x5 x6 σ h; exact h.elim
  | succ n hk11 =>
    intro x1 x2 x3 x4 x5 x6 σ h
    unfold L_X11_fits_11 at h
    refine zv_iload hC dX11_fits_11 rfl ?_
    refine zv_aload_n hC dX11_fits_13 rfl ?_
    refine zv_getR (j := 51) hC fl_X11_25 dX11_fits_14 rfl rfl ?_
    refine zv_iload_n hC dX11_fits_17 rfl ?_
    refine zv_iald hC dX11_fits_18 rfl h.1 ?_
    replace h := h.2
    refine zv_icmp_ge (tgt := 166) hC dX11_fits_19 (by decide) (fun c => ?_) (fun c => ?_)
    · replace h := h.1 c
      refine zv_iload_n hC dX11_fits_166 rfl ?_
      refine zv_if_eq (tgt := 190) hC dX11_fits_167 (by decide) (fun c => ?_) (fun c => ?_)
      · replace h := h.1 c
        exact zv_go (k_X11_fits_190 hC hR  h) trivial
      · replace h := h.2 c
        refine zv_iload hC dX11_fits_170 rfl ?_
        refine zv_if_eq (tgt := 190) hC dX11_fits_172 (by decide) (fun c => ?_) (fun c => ?_)
        · replace h := h.1 c
          exact zv_go (k_X11_fits_190 hC hR  h) trivial
        · replace h := h.2 c
          refine zv_iload hC dX11_fits_175 rfl ?_
          refine zv_aload_n hC dX11_fits_177 rfl ?_
          refine zv_getR (j := 49) hC fl_X11_19 dX11_fits_178 rfl rfl ?_
          refine zv_iload_n hC dX11_fits_181 rfl ?_
          refine zv_iald hC dX11_fits_182 rfl h.1 ?_
          replace h := h.2
          refine zv_icmp_lt (tgt := 190) hC dX11_fits_183 (by decide) (fun c => ?_) (fun c => ?_)
          · replace h := h.1 c
            exact zv_go (k_X11_fits_190 hC hR  h) trivial
          · replace h := h.2 c
            refine zv_iconst (v := 1) hC dX11_fits_186 (by decide) ?_
            refine zv_goto (tgt := 191) hC dX11_fits_187 (by decide) ?_
            exact zv_go (k_X11_fits_191 hC hR  h) trivial
    · replace h := h.2 c
      refine zv_aload_n hC dX11_fits_22 rfl ?_
      refine zv_getR (j := 53) hC fl_X11_31 dX11_fits_23 rfl rfl ?_
      refine zv_bipush (v := 8) hC dX11_fits_26 (by decide) ?_
      refine zv_iload_n hC dX11_fits_28 rfl ?_
      refine zv_imul hC dX11_fits_29 ?_
      refine zv_iload hC dX11_fits_30 rfl ?_
      refine zv_iadd hC dX11_fits_32 ?_
      refine zv_iald hC dX11_fits_33 rfl h.1 ?_
      replace h := h.2
      replace h := h _ rfl
      refine zv_istore hC dX11_fits_34 (by decide) ?_
      refine zv_aload_n hC dX11_fits_36 rfl ?_
      refine zv_getR (j := 52) hC fl_X11_28 dX11_fits_37 rfl rfl ?_
      refine zv_bipush (v := 8) hC dX11_fits_40 (by decide) ?_
      refine zv_iload_n hC dX11_fits_42 rfl ?_
      refine zv_imul hC dX11_fits_43 ?_
      refine zv_iload hC dX11_fits_44 rfl ?_
      refine zv_iadd hC dX11_fits_46 ?_
      refine zv_iald hC dX11_fits_47 rfl h.1 ?_
      replace h := h.2
      replace h := h _ rfl
      refine zv_istore hC dX11_fits_48 (by decide) ?_
      refine zv_iload_n hC dX11_fits_50 rfl ?_
      refine zv_iload hC dX11_fits_51 rfl ?_
      refine zv_iconst (v := 2) hC dX11_fits_53 (by decide) ?_
      refine zv_icmp_eq (tgt := 61) hC dX11_fits_54 (by decide) (fun c => ?_) (fun c => ?_)
      · replace h := h.1 c
        refine zv_iconst (v := 0) hC dX11_fits_61 (by decide) ?_
        exact zv_go (k_X11_fits_62 hC hR hk11 h) ⟨rfl, rfl, rfl, rfl, rfl, rfl, rfl, rfl, rfl, trivial⟩
      · replace h := h.2 c
        refine zv_iconst (v := 1) hC dX11_fits_57 (by decide) ?_
        refine zv_goto (tgt := 62) hC dX11_fits_58 (by decide) ?_
        exact zv_go (k_X11_fits_62 hC hR hk11 h) ⟨rfl, rfl, rfl, rfl, rfl, rfl, rfl, rfl, rfl, trivial⟩
def B_X11_fits (Q : Int32 → zv_St → Prop) (x1 : Int32) (x2 : Int32) (σ : zv_St) : Prop :=
  ∃ n11, L_X11_fits_11 Q n11 x1 x2 1 0 0 0 σ
set_option maxRecDepth 20000 in
set_option maxHeartbeats 2000000 in
theorem k_X11_fits_0 {G : zv_G} {X : zv_X} {Q : Int32 → zv_St → Prop}  (hC : zv_C G X M_X11_fits) (hR : zv_R G X M_X11_fits (zv_qi Q))  {x1 : Int32} {x2 : Int32} {σ : zv_St} (h : B_X11_fits Q  x1 x2 σ) : zv_V G X M_X11_fits 0 [(0, .ref (G.2.2.1 45)), (1, .int x1), (2, .int x2)] [] σ := by
  unfold B_X11_fits at h
  refine zv_iconst (v := 1) hC dX11_fits_0 (by decide) ?_
  refine zv_istore_n hC dX11_fits_1 (by decide) ?_
  refine zv_iconst (v := 0) hC dX11_fits_2 (by decide) ?_
  refine zv_istore hC dX11_fits_3 (by decide) ?_
  refine zv_iconst (v := 0) hC dX11_fits_5 (by decide) ?_
  refine zv_istore hC dX11_fits_6 (by decide) ?_
  refine zv_iconst (v := 0) hC dX11_fits_8 (by decide) ?_
  refine zv_istore hC dX11_fits_9 (by decide) ?_
  obtain ⟨n, h⟩ := h
  exact zv_go (kL_X11_fits_11 hC hR  n _ _ _ _ _ _ _ h) ⟨rfl, rfl, rfl, rfl, rfl, rfl, rfl, trivial⟩
theorem ok_X11_fits (G : zv_G) {Q : Int32 → zv_St → Prop} {x1 : Int32} {x2 : Int32} {σ : zv_St} (h : B_X11_fits Q x1 x2 σ) : zv_OK G M_X11_fits yX11_fits [.ref (G.2.2.1 45), .int x1, .int x2] σ (zv_qi Q) := zv_ok G _ _ _ _ _ (by decide +kernel) rfl (Nat.le_of_ble_eq_true rfl) (fun X hC hR => zv_go (k_X11_fits_0 hC hR h) ⟨rfl, rfl, rfl, trivial⟩)
-- X11_mayAll
def B_X11_mayAll_364 (Q : zv_St → Prop) (kk2 : Int32 → Int32 → Int32 → zv_St → Prop) (x1 : Int32) (x2 : Int32) (x3 : Int32) (σ : zv_St) : Prop :=
  kk2 x1 x2 (x3 + 1) σ
set_option maxRecDepth 20000 in
set_option maxHeartbeats 2000000 in
theorem k_X11_mayAll_364 {G : zv_G} {X : zv_X} {Q : zv_St → Prop} {kk2 : Int32 → Int32 → Int32 → zv_St → Prop} (hC : zv_C G X M_X11_mayAll) (hR : zv_R G X M_X11_mayAll (zv_qv Q)) (hk2 : ∀ (x1 : Int32) (x2 : Int32) (x3 : Int32) (σ : zv_St), kk2 x1 x2 x3 σ → zv_V G X M_X11_mayAll 2 [(0, .ref (G.2.2.1 45)), (1, .int x1), (2, .int x2), (3, .int x3)] [] σ) {x1 : Int32} {x2 : Int32} {x3 : Int32} {σ : zv_St} (h : B_X11_mayAll_364 Q kk2 x1 x2 x3 σ) : zv_V G X M_X11_mayAll 364 [(0, .ref (G.2.2.1 45)), (1, .int x1), (2, .int x2), (3, .int x3)] [] σ := by
  unfold B_X11_mayAll_364 at h
  refine zv_iinc (v := 1) hC dX11_mayAll_364 rfl (by decide) (by decide) ?_
  refine zv_goto (tgt := 2) hC dX11_mayAll_367 (by decide) ?_
  exact zv_go (hk2 _ _ _ _ h) ⟨rfl, rfl, rfl, rfl, trivial⟩
def B_X11_mayAll_272 (Q : zv_St → Prop) (kk2 : Int32 → Int32 → Int32 → zv_St → Prop) (kk182 : Int32 → Int32 → Int32 → Int32 → zv_St → Prop) (x1 : Int32) (x2 : Int32) (x3 : Int32) (x5 : Int32) (y1 : Int32) (y2 : Int32) (σ : zv_St) : Prop :=
  vp_in y1 80 ∧ ∀ σ_1 : zv_St, σ_1 = zv_wi σ 64 y1.toNatClampNeg (vp_nar .boolean y2) → kk182 x1 x2 x3 (x5 + 1) σ_1
set_option maxRecDepth 20000 in
set_option maxHeartbeats 2000000 in
theorem k_X11_mayAll_272 {G : zv_G} {X : zv_X} {Q : zv_St → Prop} {kk2 : Int32 → Int32 → Int32 → zv_St → Prop} {kk182 : Int32 → Int32 → Int32 → Int32 → zv_St → Prop} (hC : zv_C G X M_X11_mayAll) (hR : zv_R G X M_X11_mayAll (zv_qv Q)) (hk2 : ∀ (x1 : Int32) (x2 : Int32) (x3 : Int32) (σ : zv_St), kk2 x1 x2 x3 σ → zv_V G X M_X11_mayAll 2 [(0, .ref (G.2.2.1 45)), (1, .int x1), (2, .int x2), (3, .int x3)] [] σ) (hk182 : ∀ (x1 : Int32) (x2 : Int32) (x3 : Int32) (x5 : Int32) (σ : zv_St), kk182 x1 x2 x3 x5 σ → zv_V G X M_X11_mayAll 182 [(0, .ref (G.2.2.1 45)), (1, .int x1), (2, .int x2), (3, .int x3), (5, .int x5)] [] σ) {x1 : Int32} {x2 : Int32} {x3 : Int32} {x5 : Int32} {y1 : Int32} {y2 : Int32} {σ : zv_St} (h : B_X11_mayAll_272 Q kk2 kk182 x1 x2 x3 x5 y1 y2 σ) : zv_V G X M_X11_mayAll 272 [(0, .ref (G.2.2.1 45)), (1, .int x1), (2, .int x2), (3, .int x3), (5, .int x5)] [.int y2, .int y1, .ref (G.2.2.1 64)] σ := by
  unfold B_X11_mayAll_272 at h
  refine zv_zast hC dX11_mayAll_272 rfl h.1 ?_
  replace h := h.2 _ rfl
  refine zv_iinc (v := 1) hC dX11_mayAll_273 rfl (by decide) (by decide) ?_
  refine zv_goto (tgt := 182) hC dX11_mayAll_276 (by decide) ?_
  exact zv_go (hk182 _ _ _ _ _ h) ⟨rfl, rfl, rfl, rfl, rfl, trivial⟩
def B_X11_mayAll_267 (Q : zv_St → Prop) (kk2 : Int32 → Int32 → Int32 → zv_St → Prop) (kk182 : Int32 → Int32 → Int32 → Int32 → zv_St → Prop) (x1 : Int32) (x2 : Int32) (x3 : Int32) (x5 : Int32) (y1 : Int32) (σ : zv_St) : Prop :=
  B_X11_mayAll_272 Q kk2 kk182 x1 x2 x3 x5 y1 1 σ
set_option maxRecDepth 20000 in
set_option maxHeartbeats 2000000 in
theorem k_X11_mayAll_267 {G : zv_G} {X : zv_X} {Q : zv_St → Prop} {kk2 : Int32 → Int32 → Int32 → zv_St → Prop} {kk182 : Int32 → Int32 → Int32 → Int32 → zv_St → Prop} (hC : zv_C G X M_X11_mayAll) (hR : zv_R G X M_X11_mayAll (zv_qv Q)) (hk2 : ∀ (x1 : Int32) (x2 : Int32) (x3 : Int32) (σ : zv_St), kk2 x1 x2 x3 σ → zv_V G X M_X11_mayAll 2 [(0, .ref (G.2.2.1 45)), (1, .int x1), (2, .int x2), (3, .int x3)] [] σ) (hk182 : ∀ (x1 : Int32) (x2 : Int32) (x3 : Int32) (x5 : Int32) (σ : zv_St), kk182 x1 x2 x3 x5 σ → zv_V G X M_X11_mayAll 182 [(0, .ref (G.2.2.1 45)), (1, .int x1), (2, .int x2), (3, .int x3), (5, .int x5)] [] σ) {x1 : Int32} {x2 : Int32} {x3 : Int32} {x5 : Int32} {y1 : Int32} {σ : zv_St} (h : B_X11_mayAll_267 Q kk2 kk182 x1 x2 x3 x5 y1 σ) : zv_V G X M_X11_mayAll 267 [(0, .ref (G.2.2.1 45)), (1, .int x1), (2, .int x2), (3, .int x3), (5, .int x5)] [.int y1, .ref (G.2.2.1 64)] σ := by
  unfold B_X11_mayAll_267 at h
  refine zv_iconst (v := 1) hC dX11_mayAll_267 (by decide) ?_
  refine zv_goto (tgt := 272) hC dX11_mayAll_268 (by decide) ?_
  exact zv_go (k_X11_mayAll_272 hC hR hk2 hk182 h) ⟨rfl, rfl, rfl, rfl, rfl, trivial⟩
def B_X11_mayAll_232 (Q : zv_St → Prop) (kk2 : Int32 → Int32 → Int32 → zv_St → Prop) (kk182 : Int32 → Int32 → Int32 → Int32 → zv_St → Prop) (x1 : Int32) (x2 : Int32) (x3 : Int32) (x5 : Int32) (y1 : Int32) (y2 : Int32) (σ : zv_St) : Prop :=
  vp_in y1 80 ∧ ∀ σ_1 : zv_St, σ_1 = zv_wi σ 63 y1.toNatClampNeg (vp_nar .boolean y2) → vp_in x3 80 ∧ (¬ (σ_1.1 64 x3.toNatClampNeg) = 0 → (B_X11_mayAll_267 Q kk2 kk182 x1 x2 x3 x5 x3 σ_1)) ∧ ((σ_1.1 64 x3.toNatClampNeg) = 0 → (vp_in ((8 * x3) + x5) 640 ∧ vp_in (σ_1.1 53 ((8 * x3) + x5).toNatClampNeg) 80 ∧ ((σ_1.1 64 (σ_1.1 53 ((8 * x3) + x5).toNatClampNeg).toNatClampNeg) = 0 → (B_X11_mayAll_272 Q kk2 kk182 x1 x2 x3 x5 x3 0 σ_1)) ∧ (¬ (σ_1.1 64 (σ_1.1 53 ((8 * x3) + x5).toNatClampNeg).toNatClampNeg) = 0 → (B_X11_mayAll_267 Q kk2 kk182 x1 x2 x3 x5 x3 σ_1))))
set_option maxRecDepth 20000 in
set_option maxHeartbeats 2000000 in
theorem k_X11_mayAll_232 {G : zv_G} {X : zv_X} {Q : zv_St → Prop} {kk2 : Int32 → Int32 → Int32 → zv_St → Prop} {kk182 : Int32 → Int32 → Int32 → Int32 → zv_St → Prop} (hC : zv_C G X M_X11_mayAll) (hR : zv_R G X M_X11_mayAll (zv_qv Q)) (hk2 : ∀ (x1 : Int32) (x2 : Int32) (x3 : Int32) (σ : zv_St), kk2 x1 x2 x3 σ → zv_V G X M_X11_mayAll 2 [(0, .ref (G.2.2.1 45)), (1, .int x1), (2, .int x2), (3, .int x3)] [] σ) (hk182 : ∀ (x1 : Int32) (x2 : Int32) (x3 : Int32) (x5 : Int32) (σ : zv_St), kk182 x1 x2 x3 x5 σ → zv_V G X M_X11_mayAll 182 [(0, .ref (G.2.2.1 45)), (1, .int x1), (2, .int x2), (3, .int x3), (5, .int x5)] [] σ) {x1 : Int32} {x2 : Int32} {x3 : Int32} {x5 : Int32} {y1 : Int32} {y2 : Int32} {σ : zv_St} (h : B_X11_mayAll_232 Q kk2 kk182 x1 x2 x3 x5 y1 y2 σ) : zv_V G X M_X11_mayAll 232 [(0, .ref (G.2.2.1 45)), (1, .int x1), (2, .int x2), (3, .int x3), (5, .int x5)] [.int y2, .int y1, .ref (G.2.2.1 63)] σ := by
  unfold B_X11_mayAll_232 at h
  refine zv_zast hC dX11_mayAll_232 rfl h.1 ?_
  replace h := h.2 _ rfl
  refine zv_aload_n hC dX11_mayAll_233 rfl ?_
  refine zv_getR (j := 64) hC fl_X11_66 dX11_mayAll_234 rfl rfl ?_
  refine zv_iload_n hC dX11_mayAll_237 rfl ?_
  refine zv_aload_n hC dX11_mayAll_238 rfl ?_
  refine zv_getR (j := 64) hC fl_X11_66 dX11_mayAll_239 rfl rfl ?_
  refine zv_iload_n hC dX11_mayAll_242 rfl ?_
  refine zv_zald hC dX11_mayAll_243 rfl h.1 ?_
  replace h := h.2
  refine zv_if_ne (tgt := 267) hC dX11_mayAll_244 (by decide) (fun c => ?_) (fun c => ?_)
  · replace h := h.1 c
    exact zv_go (k_X11_mayAll_267 hC hR hk2 hk182 h) ⟨rfl, rfl, rfl, rfl, rfl, trivial⟩
  · replace h := h.2 c
    refine zv_aload_n hC dX11_mayAll_247 rfl ?_
    refine zv_getR (j := 64) hC fl_X11_66 dX11_mayAll_248 rfl rfl ?_
    refine zv_aload_n hC dX11_mayAll_251 rfl ?_
    refine zv_getR (j := 53) hC fl_X11_31 dX11_mayAll_252 rfl rfl ?_
    refine zv_bipush (v := 8) hC dX11_mayAll_255 (by decide) ?_
    refine zv_iload_n hC dX11_mayAll_257 rfl ?_
    refine zv_imul hC dX11_mayAll_258 ?_
    refine zv_iload hC dX11_mayAll_259 rfl ?_
    refine zv_iadd hC dX11_mayAll_261 ?_
    refine zv_iald hC dX11_mayAll_262 rfl h.1 ?_
    replace h := h.2
    refine zv_zald hC dX11_mayAll_263 rfl h.1 ?_
    replace h := h.2
    refine zv_if_eq (tgt := 271) hC dX11_mayAll_264 (by decide) (fun c => ?_) (fun c => ?_)
    · replace h := h.1 c
      refine zv_iconst (v := 0) hC dX11_mayAll_271 (by decide) ?_
      exact zv_go (k_X11_mayAll_272 hC hR hk2 hk182 h) ⟨rfl, rfl, rfl, rfl, rfl, trivial⟩
    · replace h := h.2 c
      exact zv_go (k_X11_mayAll_267 hC hR hk2 hk182 h) ⟨rfl, rfl, rfl, rfl, rfl, trivial⟩
def B_X11_mayAll_227 (Q : zv_St → Prop) (kk2 : Int32 → Int32 → Int32 → zv_St → Prop) (kk182 : Int32 → Int32 → Int32 → Int32 → zv_St → Prop) (x1 : Int32) (x2 : Int32) (x3 : Int32) (x5 : Int32) (y1 : Int32) (σ : zv_St) : Prop :=
  B_X11_mayAll_232 Q kk2 kk182 x1 x2 x3 x5 y1 1 σ
set_option maxRecDepth 20000 in
set_option maxHeartbeats 2000000 in
theorem k_X11_mayAll_227 {G : zv_G} {X : zv_X} {Q : zv_St → Prop} {kk2 : Int32 → Int32 → Int32 → zv_St → Prop} {kk182 : Int32 → Int32 → Int32 → Int32 → zv_St → Prop} (hC : zv_C G X M_X11_mayAll) (hR : zv_R G X M_X11_mayAll (zv_qv Q)) (hk2 : ∀ (x1 : Int32) (x2 : Int32) (x3 : Int32) (σ : zv_St), kk2 x1 x2 x3 σ → zv_V G X M_X11_mayAll 2 [(0, .ref (G.2.2.1 45)), (1, .int x1), (2, .int x2), (3, .int x3)] [] σ) (hk182 : ∀ (x1 : Int32) (x2 : Int32) (x3 : Int32) (x5 : Int32) (σ : zv_St), kk182 x1 x2 x3 x5 σ → zv_V G X M_X11_mayAll 182 [(0, .ref (G.2.2.1 45)), (1, .int x1), (2, .int x2), (3, .int x3), (5, .int x5)] [] σ) {x1 : Int32} {x2 : Int32} {x3 : Int32} {x5 : Int32} {y1 : Int32} {σ : zv_St} (h : B_X11_mayAll_227 Q kk2 kk182 x1 x2 x3 x5 y1 σ) : zv_V G X M_X11_mayAll 227 [(0, .ref (G.2.2.1 45)), (1, .int x1), (2, .int x2), (3, .int x3), (5, .int x5)] [.int y1, .ref (G.2.2.1 63)] σ := by
  unfold B_X11_mayAll_227 at h
  refine zv_iconst (v := 1) hC dX11_mayAll_227 (by decide) ?_
  refine zv_goto (tgt := 232) hC dX11_mayAll_228 (by decide) ?_
  exact zv_go (k_X11_mayAll_232 hC hR hk2 hk182 h) ⟨rfl, rfl, rfl, rfl, rfl, trivial⟩
def L_X11_mayAll_182 (Q : zv_St → Prop) (kk2 : Int32 → Int32 → Int32 → zv_St → Prop) : Nat → (Int32 → Int32 → Int32 → Int32 → zv_St → Prop)
  | 0 => fun _ _ _ _ _ => False
  | u + 1 => fun x1 x2 x3 x5 σ => 
    vp_in x3 80 ∧ ((σ.1 51 x3.toNatClampNeg) ≤ x5 → (B_X11_mayAll_364 Q kk2 x1 x2 x3 σ)) ∧ (¬ (σ.1 51 x3.toNatClampNeg) ≤ x5 → (vp_in x3 80 ∧ (¬ (σ.1 63 x3.toNatClampNeg) = 0 → (B_X11_mayAll_227 Q kk2 (L_X11_mayAll_182 Q kk2 u) x1 x2 x3 x5 x3 σ)) ∧ ((σ.1 63 x3.toNatClampNeg) = 0 → (vp_in ((8 * x3) + x5) 640 ∧ vp_in (σ.1 53 ((8 * x3) + x5).toNatClampNeg) 80 ∧ ((σ.1 63 (σ.1 53 ((8 * x3) + x5).toNatClampNeg).toNatClampNeg) = 0 → (B_X11_mayAll_232 Q kk2 (L_X11_mayAll_182 Q kk2 u) x1 x2 x3 x5 x3 0 σ)) ∧ (¬ (σ.1 63 (σ.1 53 ((8 * x3) + x5).toNatClampNeg).toNatClampNeg) = 0 → (B_X11_mayAll_227 Q kk2 (L_X11_mayAll_182 Q kk2 u) x1 x2 x3 x5 x3 σ))))))
set_option maxRecDepth 20000 in
set_option maxHeartbeats 2000000 in
theorem kL_X11_mayAll_182 {G : zv_G} {X : zv_X} {Q : zv_St → Prop} {kk2 : Int32 → Int32 → Int32 → zv_St → Prop} (hC : zv_C G X M_X11_mayAll) (hR : zv_R G X M_X11_mayAll (zv_qv Q)) (hk2 : ∀ (x1 : Int32) (x2 : Int32) (x3 : Int32) (σ : zv_St), kk2 x1 x2 x3 σ → zv_V G X M_X11_mayAll 2 [(0, .ref (G.2.2.1 45)), (1, .int x1), (2, .int x2), (3, .int x3)] [] σ) : ∀ (n : Nat) (x1 : Int32) (x2 : Int32) (x3 : Int32) (x5 : Int32) (σ : zv_St), L_X11_mayAll_182 Q kk2 n x1 x2 x3 x5 σ → zv_V G X M_X11_mayAll 182 [(0, .ref (G.2.2.1 45)), (1, .int x1), (2, .int x2), (3, .int x3), (5, .int x5)] [] σ := by
  intro n
  induction n with
  | zero => intro x1 x2 x3 x5 σ h; exact h.elim
  | succ n hk182 =>
    intro x1 x2 x3 x5 σ h
    unfold L_X11_mayAll_182 at h
    refine zv_iload hC dX11_mayAll_182 rfl ?_
    refine zv_aload_n hC dX11_mayAll_184 rfl ?_
    refine zv_getR (j := 51) hC fl_X11_25 dX11_mayAll_185 rfl rfl ?_
    refine zv_iload_n hC dX11_mayAll_188 rfl ?_
    refine zv_iald hC dX11_mayAll_189 rfl h.1 ?_
    replace h := h.2
    refine zv_icmp_ge (tgt := 279) hC dX11_mayAll_190 (by decide) (fun c => ?_) (fun c => ?_)
    · replace h := h.1 c
      refine zv_goto (tgt := 364) hC dX11_mayAll_279 (by decide) ?_
      exact zv_go (k_X11_mayAll_364 hC hR hk2 h) ⟨rfl, rfl, rfl, rfl, trivial⟩
    · replace h := h.2 c
      refine zv_aload_n hC dX11_mayAll_193 rfl ?_
      refine zv_getR (j := 63) hC fl_X11_63 dX11_mayAll_194 rfl rfl ?_
      refine zv_iload_n hC dX11_mayAll_197 rfl ?_
      refine zv_aload_n hC dX11_mayAll_198 rfl ?_
      refine zv_getR (j := 63) hC fl_X11_63 dX11_mayAll_199 rfl rfl ?_
      refine zv_iload_n hC dX11_mayAll_202 rfl ?_
      refine zv_zald hC dX11_mayAll_203 rfl h.1 ?_
      replace h := h.2
      refine zv_if_ne (tgt := 227) hC dX11_mayAll_204 (by decide) (fun c => ?_) (fun c => ?_)
      · replace h := h.1 c
        exact zv_go (k_X11_mayAll_227 hC hR hk2 hk182 h) ⟨rfl, rfl, rfl, rfl, rfl, trivial⟩
      · replace h := h.2 c
        refine zv_aload_n hC dX11_mayAll_207 rfl ?_
        refine zv_getR (j := 63) hC fl_X11_63 dX11_mayAll_208 rfl rfl ?_
        refine zv_aload_n hC dX11_mayAll_211 rfl ?_
        refine zv_getR (j := 53) hC fl_X11_31 dX11_mayAll_212 rfl rfl ?_
        refine zv_bipush (v := 8) hC dX11_mayAll_215 (by decide) ?_
        refine zv_iload_n hC dX11_mayAll_217 rfl ?_
        refine zv_imul hC dX11_mayAll_218 ?_
        refine zv_iload hC dX11_mayAll_219 rfl ?_
        refine zv_iadd hC dX11_mayAll_221 ?_
        refine zv_iald hC dX11_mayAll_222 rfl h.1 ?_
        replace h := h.2
        refine zv_zald hC dX11_mayAll_223 rfl h.1 ?_
        replace h := h.2
        refine zv_if_eq (tgt := 231) hC dX11_mayAll_224 (by decide) (fun c => ?_) (fun c => ?_)
        · replace h := h.1 c
          refine zv_iconst (v := 0) hC dX11_mayAll_231 (by decide) ?_
          exact zv_go (k_X11_mayAll_232 hC hR hk2 hk182 h) ⟨rfl, rfl, rfl, rfl, rfl, trivial⟩
        · replace h := h.2 c
          exact zv_go (k_X11_mayAll_227 hC hR hk2 hk182 h) ⟨rfl, rfl, rfl, rfl, rfl, trivial⟩
def B_X11_mayAll_363 (Q : zv_St → Prop) (kk2 : Int32 → Int32 → Int32 → zv_St → Prop) (x1 : Int32) (x2 : Int32) (x3 : Int32) (y1 : Int32) (y2 : Int32) (σ : zv_St) : Prop :=
  vp_in y1 80 ∧ ∀ σ_1 : zv_St, σ_1 = zv_wi σ 64 y1.toNatClampNeg (vp_nar .boolean y2) → B_X11_mayAll_364 Q kk2 x1 x2 x3 σ_1
set_option maxRecDepth 20000 in
set_option maxHeartbeats 2000000 in
theorem k_X11_mayAll_363 {G : zv_G} {X : zv_X} {Q : zv_St → Prop} {kk2 : Int32 → Int32 → Int32 → zv_St → Prop} (hC : zv_C G X M_X11_mayAll) (hR : zv_R G X M_X11_mayAll (zv_qv Q)) (hk2 : ∀ (x1 : Int32) (x2 : Int32) (x3 : Int32) (σ : zv_St), kk2 x1 x2 x3 σ → zv_V G X M_X11_mayAll 2 [(0, .ref (G.2.2.1 45)), (1, .int x1), (2, .int x2), (3, .int x3)] [] σ) {x1 : Int32} {x2 : Int32} {x3 : Int32} {y1 : Int32} {y2 : Int32} {σ : zv_St} (h : B_X11_mayAll_363 Q kk2 x1 x2 x3 y1 y2 σ) : zv_V G X M_X11_mayAll 363 [(0, .ref (G.2.2.1 45)), (1, .int x1), (2, .int x2), (3, .int x3)] [.int y2, .int y1, .ref (G.2.2.1 64)] σ := by
  unfold B_X11_mayAll_363 at h
  refine zv_zast hC dX11_mayAll_363 rfl h.1 ?_
  replace h := h.2 _ rfl
  exact zv_go (k_X11_mayAll_364 hC hR hk2 h) ⟨rfl, rfl, rfl, rfl, trivial⟩
def B_X11_mayAll_362 (Q : zv_St → Prop) (kk2 : Int32 → Int32 → Int32 → zv_St → Prop) (x1 : Int32) (x2 : Int32) (x3 : Int32) (y1 : Int32) (σ : zv_St) : Prop :=
  B_X11_mayAll_363 Q kk2 x1 x2 x3 y1 0 σ
set_option maxRecDepth 20000 in
set_option maxHeartbeats 2000000 in
theorem k_X11_mayAll_362 {G : zv_G} {X : zv_X} {Q : zv_St → Prop} {kk2 : Int32 → Int32 → Int32 → zv_St → Prop} (hC : zv_C G X M_X11_mayAll) (hR : zv_R G X M_X11_mayAll (zv_qv Q)) (hk2 : ∀ (x1 : Int32) (x2 : Int32) (x3 : Int32) (σ : zv_St), kk2 x1 x2 x3 σ → zv_V G X M_X11_mayAll 2 [(0, .ref (G.2.2.1 45)), (1, .int x1), (2, .int x2), (3, .int x3)] [] σ) {x1 : Int32} {x2 : Int32} {x3 : Int32} {y1 : Int32} {σ : zv_St} (h : B_X11_mayAll_362 Q kk2 x1 x2 x3 y1 σ) : zv_V G X M_X11_mayAll 362 [(0, .ref (G.2.2.1 45)), (1, .int x1), (2, .int x2), (3, .int x3)] [.int y1, .ref (G.2.2.1 64)] σ := by
  unfold B_X11_mayAll_362 at h
  refine zv_iconst (v := 0) hC dX11_mayAll_362 (by decide) ?_
  exact zv_go (k_X11_mayAll_363 hC hR hk2 h) ⟨rfl, rfl, rfl, rfl, trivial⟩
def B_X11_mayAll_312 (Q : zv_St → Prop) (kk2 : Int32 → Int32 → Int32 → zv_St → Prop) (x1 : Int32) (x2 : Int32) (x3 : Int32) (σ : zv_St) : Prop :=
  vp_in x3 80 ∧ vp_in (σ.1 49 x3.toNatClampNeg) 80 ∧ vp_in x3 80 ∧ ∀ σ_1 : zv_St, σ_1 = zv_wi σ 63 x3.toNatClampNeg (vp_nar .boolean (σ.1 63 (σ.1 49 x3.toNatClampNeg).toNatClampNeg)) → vp_in x3 80 ∧ ((σ_1.1 48 x3.toNatClampNeg) = 5 → (B_X11_mayAll_362 Q kk2 x1 x2 x3 x3 σ_1)) ∧ (¬ (σ_1.1 48 x3.toNatClampNeg) = 5 → (vp_in x3 80 ∧ vp_in (σ_1.1 49 x3.toNatClampNeg) 80 ∧ ((σ_1.1 64 (σ_1.1 49 x3.toNatClampNeg).toNatClampNeg) = 0 → (B_X11_mayAll_362 Q kk2 x1 x2 x3 x3 σ_1)) ∧ (¬ (σ_1.1 64 (σ_1.1 49 x3.toNatClampNeg).toNatClampNeg) = 0 → (B_X11_mayAll_363 Q kk2 x1 x2 x3 x3 1 σ_1))))
set_option maxRecDepth 20000 in
set_option maxHeartbeats 2000000 in
theorem k_X11_mayAll_312 {G : zv_G} {X : zv_X} {Q : zv_St → Prop} {kk2 : Int32 → Int32 → Int32 → zv_St → Prop} (hC : zv_C G X M_X11_mayAll) (hR : zv_R G X M_X11_mayAll (zv_qv Q)) (hk2 : ∀ (x1 : Int32) (x2 : Int32) (x3 : Int32) (σ : zv_St), kk2 x1 x2 x3 σ → zv_V G X M_X11_mayAll 2 [(0, .ref (G.2.2.1 45)), (1, .int x1), (2, .int x2), (3, .int x3)] [] σ) {x1 : Int32} {x2 : Int32} {x3 : Int32} {σ : zv_St} (h : B_X11_mayAll_312 Q kk2 x1 x2 x3 σ) : zv_V G X M_X11_mayAll 312 [(0, .ref (G.2.2.1 45)), (1, .int x1), (2, .int x2), (3, .int x3)] [] σ := by
  unfold B_X11_mayAll_312 at h
  refine zv_aload_n hC dX11_mayAll_312 rfl ?_
  refine zv_getR (j := 63) hC fl_X11_63 dX11_mayAll_313 rfl rfl ?_
  refine zv_iload_n hC dX11_mayAll_316 rfl ?_
  refine zv_aload_n hC dX11_mayAll_317 rfl ?_
  refine zv_getR (j := 63) hC fl_X11_63 dX11_mayAll_318 rfl rfl ?_
  refine zv_aload_n hC dX11_mayAll_321 rfl ?_
  refine zv_getR (j := 49) hC fl_X11_19 dX11_mayAll_322 rfl rfl ?_
  refine zv_iload_n hC dX11_mayAll_325 rfl ?_
  refine zv_iald hC dX11_mayAll_326 rfl h.1 ?_
  replace h := h.2
  refine zv_zald hC dX11_mayAll_327 rfl h.1 ?_
  replace h := h.2
  refine zv_zast hC dX11_mayAll_328 rfl h.1 ?_
  replace h := h.2 _ rfl
  refine zv_aload_n hC dX11_mayAll_329 rfl ?_
  refine zv_getR (j := 64) hC fl_X11_66 dX11_mayAll_330 rfl rfl ?_
  refine zv_iload_n hC dX11_mayAll_333 rfl ?_
  refine zv_aload_n hC dX11_mayAll_334 rfl ?_
  refine zv_getR (j := 48) hC fl_X11_16 dX11_mayAll_335 rfl rfl ?_
  refine zv_iload_n hC dX11_mayAll_338 rfl ?_
  refine zv_iald hC dX11_mayAll_339 rfl h.1 ?_
  replace h := h.2
  refine zv_iconst (v := 5) hC dX11_mayAll_340 (by decide) ?_
  refine zv_icmp_eq (tgt := 362) hC dX11_mayAll_341 (by decide) (fun c => ?_) (fun c => ?_)
  · replace h := h.1 c
    exact zv_go (k_X11_mayAll_362 hC hR hk2 h) ⟨rfl, rfl, rfl, rfl, trivial⟩
  · replace h := h.2 c
    refine zv_aload_n hC dX11_mayAll_344 rfl ?_
    refine zv_getR (j := 64) hC fl_X11_66 dX11_mayAll_345 rfl rfl ?_
    refine zv_aload_n hC dX11_mayAll_348 rfl ?_
    refine zv_getR (j := 49) hC fl_X11_19 dX11_mayAll_349 rfl rfl ?_
    refine zv_iload_n hC dX11_mayAll_352 rfl ?_
    refine zv_iald hC dX11_mayAll_353 rfl h.1 ?_
    replace h := h.2
    refine zv_zald hC dX11_mayAll_354 rfl h.1 ?_
    replace h := h.2
    refine zv_if_eq (tgt := 362) hC dX11_mayAll_355 (by decide) (fun c => ?_) (fun c => ?_)
    · replace h := h.1 c
      exact zv_go (k_X11_mayAll_362 hC hR hk2 h) ⟨rfl, rfl, rfl, rfl, trivial⟩
    · replace h := h.2 c
      refine zv_iconst (v := 1) hC dX11_mayAll_358 (by decide) ?_
      refine zv_goto (tgt := 363) hC dX11_mayAll_359 (by decide) ?_
      exact zv_go (k_X11_mayAll_363 hC hR hk2 h) ⟨rfl, rfl, rfl, rfl, trivial⟩
def B_X11_mayAll_116 (Q : zv_St → Prop) (kk2 : Int32 → Int32 → Int32 → zv_St → Prop) (x1 : Int32) (x2 : Int32) (x3 : Int32) (x4 : Int32) (σ : zv_St) : Prop :=
  vp_in x3 80 ∧ ∀ σ_1 : zv_St, σ_1 = zv_wi σ 63 x3.toNatClampNeg (vp_nar .boolean x4) → vp_in x3 80 ∧ ∀ σ_2 : zv_St, σ_2 = zv_wi σ_1 64 x3.toNatClampNeg (vp_nar .boolean x4) → vp_in x3 80 ∧ (¬ (σ_2.1 48 x3.toNatClampNeg) = 2 → (vp_in x3 80 ∧ (¬ (σ_2.1 48 x3.toNatClampNeg) = 3 → (vp_in x3 80 ∧ ((σ_2.1 51 x3.toNatClampNeg) ≤ 0 → (B_X11_mayAll_364 Q kk2 x1 x2 x3 σ_2)) ∧ (¬ (σ_2.1 51 x3.toNatClampNeg) ≤ 0 → (vp_in x3 80 ∧ (¬ (σ_2.1 48 x3.toNatClampNeg) = 6 → (B_X11_mayAll_312 Q kk2 x1 x2 x3 σ_2)) ∧ ((σ_2.1 48 x3.toNatClampNeg) = 6 → (vp_in x3 80 ∧ (¬ (σ_2.1 55 x3.toNatClampNeg) = (-1) → (B_X11_mayAll_364 Q kk2 x1 x2 x3 σ_2)) ∧ ((σ_2.1 55 x3.toNatClampNeg) = (-1) → (B_X11_mayAll_312 Q kk2 x1 x2 x3 σ_2)))))))) ∧ ((σ_2.1 48 x3.toNatClampNeg) = 3 → (∃ n182, L_X11_mayAll_182 Q kk2 n182 x1 x2 x3 0 σ_2)))) ∧ ((σ_2.1 48 x3.toNatClampNeg) = 2 → (B_X11_fits (fun r_4 σ_3 => vp_in x3 80 ∧ ∀ σ_5 : zv_St, σ_5 = zv_wi σ_3 63 x3.toNatClampNeg (vp_nar .boolean r_4) → B_X11_fits (fun r_7 σ_6 => vp_in x3 80 ∧ ∀ σ_8 : zv_St, σ_8 = zv_wi σ_6 64 x3.toNatClampNeg (vp_nar .boolean r_7) → B_X11_mayAll_364 Q kk2 x1 x2 x3 σ_8) x3 1 σ_5) x3 0 σ_2))
set_option maxRecDepth 20000 in
set_option maxHeartbeats 2000000 in
theorem k_X11_mayAll_116 {G : zv_G} {X : zv_X} {Q : zv_St → Prop} {kk2 : Int32 → Int32 → Int32 → zv_St → Prop} (hC : zv_C G X M_X11_mayAll) (hR : zv_R G X M_X11_mayAll (zv_qv Q)) (hk2 : ∀ (x1 : Int32) (x2 : Int32) (x3 : Int32) (σ : zv_St), kk2 x1 x2 x3 σ → zv_V G X M_X11_mayAll 2 [(0, .ref (G.2.2.1 45)), (1, .int x1), (2, .int x2), (3, .int x3)] [] σ) {x1 : Int32} {x2 : Int32} {x3 : Int32} {x4 : Int32} {σ : zv_St} (h : B_X11_mayAll_116 Q kk2 x1 x2 x3 x4 σ) : zv_V G X M_X11_mayAll 116 [(0, .ref (G.2.2.1 45)), (1, .int x1), (2, .int x2), (3, .int x3), (4, .int x4)] [] σ := by
  unfold B_X11_mayAll_116 at h
  refine zv_aload_n hC dX11_mayAll_116 rfl ?_
  refine zv_getR (j := 63) hC fl_X11_63 dX11_mayAll_117 rfl rfl ?_
  refine zv_iload_n hC dX11_mayAll_120 rfl ?_
  refine zv_iload hC dX11_mayAll_121 rfl ?_
  refine zv_zast hC dX11_mayAll_123 rfl h.1 ?_
  replace h := h.2 _ rfl
  refine zv_aload_n hC dX11_mayAll_124 rfl ?_
  refine zv_getR (j := 64) hC fl_X11_66 dX11_mayAll_125 rfl rfl ?_
  refine zv_iload_n hC dX11_mayAll_128 rfl ?_
  refine zv_iload hC dX11_mayAll_129 rfl ?_
  refine zv_zast hC dX11_mayAll_131 rfl h.1 ?_
  replace h := h.2 _ rfl
  refine zv_aload_n hC dX11_mayAll_132 rfl ?_
  refine zv_getR (j := 48) hC fl_X11_16 dX11_mayAll_133 rfl rfl ?_
  refine zv_iload_n hC dX11_mayAll_136 rfl ?_
  refine zv_iald hC dX11_mayAll_137 rfl h.1 ?_
  replace h := h.2
  refine zv_iconst (v := 2) hC dX11_mayAll_138 (by decide) ?_
  refine zv_icmp_ne (tgt := 169) hC dX11_mayAll_139 (by decide) (fun c => ?_) (fun c => ?_)
  · replace h := h.1 c
    refine zv_aload_n hC dX11_mayAll_169 rfl ?_
    refine zv_getR (j := 48) hC fl_X11_16 dX11_mayAll_170 rfl rfl ?_
    refine zv_iload_n hC dX11_mayAll_173 rfl ?_
    refine zv_iald hC dX11_mayAll_174 rfl h.1 ?_
    replace h := h.2
    refine zv_iconst (v := 3) hC dX11_mayAll_175 (by decide) ?_
    refine zv_icmp_ne (tgt := 282) hC dX11_mayAll_176 (by decide) (fun c => ?_) (fun c => ?_)
    · replace h := h.1 c
      refine zv_aload_n hC dX11_mayAll_282 rfl ?_
      refine zv_getR (j := 51) hC fl_X11_25 dX11_mayAll_283 rfl rfl ?_
      refine zv_iload_n hC dX11_mayAll_286 rfl ?_
      refine zv_iald hC dX11_mayAll_287 rfl h.1 ?_
      replace h := h.2
      refine zv_if_le (tgt := 364) hC dX11_mayAll_288 (by decide) (fun c => ?_) (fun c => ?_)
      · replace h := h.1 c
        exact zv_go (k_X11_mayAll_364 hC hR hk2 h) ⟨rfl, rfl, rfl, rfl, trivial⟩
      · replace h := h.2 c
        refine zv_aload_n hC dX11_mayAll_291 rfl ?_
        refine zv_getR (j := 48) hC fl_X11_16 dX11_mayAll_292 rfl rfl ?_
        refine zv_iload_n hC dX11_mayAll_295 rfl ?_
        refine zv_iald hC dX11_mayAll_296 rfl h.1 ?_
        replace h := h.2
        refine zv_bipush (v := 6) hC dX11_mayAll_297 (by decide) ?_
        refine zv_icmp_ne (tgt := 312) hC dX11_mayAll_299 (by decide) (fun c => ?_) (fun c => ?_)
        · replace h := h.1 c
          exact zv_go (k_X11_mayAll_312 hC hR hk2 h) ⟨rfl, rfl, rfl, rfl, trivial⟩
        · replace h := h.2 c
          refine zv_aload_n hC dX11_mayAll_302 rfl ?_
          refine zv_getR (j := 55) hC fl_X11_37 dX11_mayAll_303 rfl rfl ?_
          refine zv_iload_n hC dX11_mayAll_306 rfl ?_
          refine zv_iald hC dX11_mayAll_307 rfl h.1 ?_
          replace h := h.2
          refine zv_iconst (v := (-1)) hC dX11_mayAll_308 (by decide) ?_
          refine zv_icmp_ne (tgt := 364) hC dX11_mayAll_309 (by decide) (fun c => ?_) (fun c => ?_)
          · replace h := h.1 c
            exact zv_go (k_X11_mayAll_364 hC hR hk2 h) ⟨rfl, rfl, rfl, rfl, trivial⟩
          · replace h := h.2 c
            exact zv_go (k_X11_mayAll_312 hC hR hk2 h) ⟨rfl, rfl, rfl, rfl, trivial⟩
    · replace h := h.2 c
      refine zv_iconst (v := 0) hC dX11_mayAll_179 (by decide) ?_
      refine zv_istore hC dX11_mayAll_180 (by decide) ?_
      obtain ⟨n, h⟩ := h
      exact zv_go (kL_X11_mayAll_182 hC hR hk2 n _ _ _ _ _ h) ⟨rfl, rfl, rfl, rfl, rfl, trivial⟩
  · replace h := h.2 c
    refine zv_aload_n hC dX11_mayAll_142 rfl ?_
    refine zv_getR (j := 63) hC fl_X11_63 dX11_mayAll_143 rfl rfl ?_
    refine zv_iload_n hC dX11_mayAll_146 rfl ?_
    refine zv_aload_n hC dX11_mayAll_147 rfl ?_
    refine zv_iload_n hC dX11_mayAll_148 rfl ?_
    refine zv_iconst (v := 0) hC dX11_mayAll_149 (by decide) ?_
    refine zv_callVi (As := [_, _]) hC dX11_mayAll_150 Y_X11_fits lk_X11_141 (by decide) rfl rfl rfl (Nat.le_of_ble_eq_true rfl) (ok_X11_fits G h) ?_
    intro r_4 σ_3 h
    refine zv_zast hC dX11_mayAll_153 rfl h.1 ?_
    replace h := h.2 _ rfl
    refine zv_aload_n hC dX11_mayAll_154 rfl ?_
    refine zv_getR (j := 64) hC fl_X11_66 dX11_mayAll_155 rfl rfl ?_
    refine zv_iload_n hC dX11_mayAll_158 rfl ?_
    refine zv_aload_n hC dX11_mayAll_159 rfl ?_
    refine zv_iload_n hC dX11_mayAll_160 rfl ?_
    refine zv_iconst (v := 1) hC dX11_mayAll_161 (by decide) ?_
    refine zv_callVi (As := [_, _]) hC dX11_mayAll_162 Y_X11_fits lk_X11_141 (by decide) rfl rfl rfl (Nat.le_of_ble_eq_true rfl) (ok_X11_fits G h) ?_
    intro r_7 σ_6 h
    refine zv_zast hC dX11_mayAll_165 rfl h.1 ?_
    replace h := h.2 _ rfl
    refine zv_goto (tgt := 364) hC dX11_mayAll_166 (by decide) ?_
    exact zv_go (k_X11_mayAll_364 hC hR hk2 h) ⟨rfl, rfl, rfl, rfl, trivial⟩
def B_X11_mayAll_79 (Q : zv_St → Prop) (kk2 : Int32 → Int32 → Int32 → zv_St → Prop) (x1 : Int32) (x2 : Int32) (x3 : Int32) (y0 : Int32) (σ : zv_St) : Prop :=
  vp_in x3 80 ∧ (¬ (σ.1 48 x3.toNatClampNeg) = 6 → (B_X11_mayAll_116 Q kk2 x1 x2 x3 y0 σ)) ∧ ((σ.1 48 x3.toNatClampNeg) = 6 → (vp_in x3 80 ∧ ((σ.1 55 x3.toNatClampNeg) = (-1) → (B_X11_mayAll_116 Q kk2 x1 x2 x3 y0 σ)) ∧ (¬ (σ.1 55 x3.toNatClampNeg) = (-1) → (vp_in ((512 * x3) + x1) 40960 ∧ ∀ v_1 : Int32, v_1 = (σ.1 56 ((512 * x3) + x1).toNatClampNeg) → B_X11_mayAll_116 Q kk2 x1 x2 x3 v_1 σ))))
set_option maxRecDepth 20000 in
set_option maxHeartbeats 2000000 in
theorem k_X11_mayAll_79 {G : zv_G} {X : zv_X} {Q : zv_St → Prop} {kk2 : Int32 → Int32 → Int32 → zv_St → Prop} (hC : zv_C G X M_X11_mayAll) (hR : zv_R G X M_X11_mayAll (zv_qv Q)) (hk2 : ∀ (x1 : Int32) (x2 : Int32) (x3 : Int32) (σ : zv_St), kk2 x1 x2 x3 σ → zv_V G X M_X11_mayAll 2 [(0, .ref (G.2.2.1 45)), (1, .int x1), (2, .int x2), (3, .int x3)] [] σ) {x1 : Int32} {x2 : Int32} {x3 : Int32} {y0 : Int32} {σ : zv_St} (h : B_X11_mayAll_79 Q kk2 x1 x2 x3 y0 σ) : zv_V G X M_X11_mayAll 79 [(0, .ref (G.2.2.1 45)), (1, .int x1), (2, .int x2), (3, .int x3)] [.int y0] σ := by
  unfold B_X11_mayAll_79 at h
  refine zv_istore hC dX11_mayAll_79 (by decide) ?_
  refine zv_aload_n hC dX11_mayAll_81 rfl ?_
  refine zv_getR (j := 48) hC fl_X11_16 dX11_mayAll_82 rfl rfl ?_
  refine zv_iload_n hC dX11_mayAll_85 rfl ?_
  refine zv_iald hC dX11_mayAll_86 rfl h.1 ?_
  replace h := h.2
  refine zv_bipush (v := 6) hC dX11_mayAll_87 (by decide) ?_
  refine zv_icmp_ne (tgt := 116) hC dX11_mayAll_89 (by decide) (fun c => ?_) (fun c => ?_)
  · replace h := h.1 c
    exact zv_go (k_X11_mayAll_116 hC hR hk2 h) ⟨rfl, rfl, rfl, rfl, rfl, trivial⟩
  · replace h := h.2 c
    refine zv_aload_n hC dX11_mayAll_92 rfl ?_
    refine zv_getR (j := 55) hC fl_X11_37 dX11_mayAll_93 rfl rfl ?_
    refine zv_iload_n hC dX11_mayAll_96 rfl ?_
    refine zv_iald hC dX11_mayAll_97 rfl h.1 ?_
    replace h := h.2
    refine zv_iconst (v := (-1)) hC dX11_mayAll_98 (by decide) ?_
    refine zv_icmp_eq (tgt := 116) hC dX11_mayAll_99 (by decide) (fun c => ?_) (fun c => ?_)
    · replace h := h.1 c
      exact zv_go (k_X11_mayAll_116 hC hR hk2 h) ⟨rfl, rfl, rfl, rfl, rfl, trivial⟩
    · replace h := h.2 c
      refine zv_aload_n hC dX11_mayAll_102 rfl ?_
      refine zv_getR (j := 56) hC fl_X11_41 dX11_mayAll_103 rfl rfl ?_
      refine zv_sipush (v := 512) hC dX11_mayAll_106 (by decide) ?_
      refine zv_iload_n hC dX11_mayAll_109 rfl ?_
      refine zv_imul hC dX11_mayAll_110 ?_
      refine zv_iload_n hC dX11_mayAll_111 rfl ?_
      refine zv_iadd hC dX11_mayAll_112 ?_
      refine zv_zald hC dX11_mayAll_113 rfl h.1 ?_
      replace h := h.2
      replace h := h _ rfl
      refine zv_istore hC dX11_mayAll_114 (by decide) ?_
      exact zv_go (k_X11_mayAll_116 hC hR hk2 h) ⟨rfl, rfl, rfl, rfl, rfl, trivial⟩
def B_X11_mayAll_78 (Q : zv_St → Prop) (kk2 : Int32 → Int32 → Int32 → zv_St → Prop) (x1 : Int32) (x2 : Int32) (x3 : Int32) (σ : zv_St) : Prop :=
  B_X11_mayAll_79 Q kk2 x1 x2 x3 0 σ
set_option maxRecDepth 20000 in
set_option maxHeartbeats 2000000 in
theorem k_X11_mayAll_78 {G : zv_G} {X : zv_X} {Q : zv_St → Prop} {kk2 : Int32 → Int32 → Int32 → zv_St → Prop} (hC : zv_C G X M_X11_mayAll) (hR : zv_R G X M_X11_mayAll (zv_qv Q)) (hk2 : ∀ (x1 : Int32) (x2 : Int32) (x3 : Int32) (σ : zv_St), kk2 x1 x2 x3 σ → zv_V G X M_X11_mayAll 2 [(0, .ref (G.2.2.1 45)), (1, .int x1), (2, .int x2), (3, .int x3)] [] σ) {x1 : Int32} {x2 : Int32} {x3 : Int32} {σ : zv_St} (h : B_X11_mayAll_78 Q kk2 x1 x2 x3 σ) : zv_V G X M_X11_mayAll 78 [(0, .ref (G.2.2.1 45)), (1, .int x1), (2, .int x2), (3, .int x3)] [] σ := by
  unfold B_X11_mayAll_78 at h
  refine zv_iconst (v := 0) hC dX11_mayAll_78 (by decide) ?_
  exact zv_go (k_X11_mayAll_79 hC hR hk2 h) ⟨rfl, rfl, rfl, rfl, trivial⟩
def L_X11_mayAll_2 (Q : zv_St → Prop) : Nat → (Int32 → Int32 → Int32 → zv_St → Prop)
  | 0 => fun _ _ _ _ => False
  | u + 1 => fun x1 x2 x3 σ => 
    (x2 < x3 → (Q σ)) ∧ (¬ x2 < x3 → (vp_in x3 80 ∧ (¬ (σ.1 48 x3.toNatClampNeg) = 0 → (vp_in x3 80 ∧ (¬ (σ.1 48 x3.toNatClampNeg) = 1 → (B_X11_mayAll_78 Q (L_X11_mayAll_2 Q u) x1 x2 x3 σ)) ∧ ((σ.1 48 x3.toNatClampNeg) = 1 → (vp_in x3 80 ∧ vp_in x3 80 ∧ B_X11_in (fun r_2 σ_1 => (r_2 = 0 → (B_X11_mayAll_78 Q (L_X11_mayAll_2 Q u) x1 x2 x3 σ_1)) ∧ (¬ r_2 = 0 → (B_X11_mayAll_79 Q (L_X11_mayAll_2 Q u) x1 x2 x3 1 σ_1))) x1 (σ.1 49 x3.toNatClampNeg) (σ.1 50 x3.toNatClampNeg) σ)))) ∧ ((σ.1 48 x3.toNatClampNeg) = 0 → (vp_in x3 80 ∧ vp_in ((512 * (σ.1 49 x3.toNatClampNeg)) + x1) 8192 ∧ ((σ.1 46 ((512 * (σ.1 49 x3.toNatClampNeg)) + x1).toNatClampNeg) = (-1) → (B_X11_mayAll_79 Q (L_X11_mayAll_2 Q u) x1 x2 x3 0 σ)) ∧ (¬ (σ.1 46 ((512 * (σ.1 49 x3.toNatClampNeg)) + x1).toNatClampNeg) = (-1) → (B_X11_mayAll_79 Q (L_X11_mayAll_2 Q u) x1 x2 x3 1 σ))))))
set_option maxRecDepth 20000 in
set_option maxHeartbeats 2000000 in
theorem kL_X11_mayAll_2 {G : zv_G} {X : zv_X} {Q : zv_St → Prop}  (hC : zv_C G X M_X11_mayAll) (hR : zv_R G X M_X11_mayAll (zv_qv Q))  : ∀ (n : Nat) (x1 : Int32) (x2 : Int32) (x3 : Int32) (σ : zv_St), L_X11_mayAll_2 Q  n x1 x2 x3 σ → zv_V G X M_X11_mayAll 2 [(0, .ref (G.2.2.1 45)), (1, .int x1), (2, .int x2), (3, .int x3)] [] σ := by
  intro n
  induction n with
  | zero => intro x1 x2 x3 σ h; exact h.elim
  | succ n hk2 =>
    intro x1 x2 x3 σ h
    unfold L_X11_mayAll_2 at h
    refine zv_iload_n hC dX11_mayAll_2 rfl ?_
    refine zv_iload_n hC dX11_mayAll_3 rfl ?_
    refine zv_icmp_gt (tgt := 370) hC dX11_mayAll_4 (by decide) (fun c => ?_) (fun c => ?_)
    · replace h := h.1 c
      exact (hR _ _ _).2.2.2.1 rfl dX11_mayAll_370 ⟨rfl, h⟩
    · replace h := h.2 c
      refine zv_aload_n hC dX11_mayAll_7 rfl ?_
      refine zv_getR (j := 48) hC fl_X11_16 dX11_mayAll_8 rfl rfl ?_
      refine zv_iload_n hC dX11_mayAll_11 rfl ?_
      refine zv_iald hC dX11_mayAll_12 rfl h.1 ?_
      replace h := h.2
      refine zv_if_ne (tgt := 45) hC dX11_mayAll_13 (by decide) (fun c => ?_) (fun c => ?_)
      · replace h := h.1 c
        refine zv_aload_n hC dX11_mayAll_45 rfl ?_
        refine zv_getR (j := 48) hC fl_X11_16 dX11_mayAll_46 rfl rfl ?_
        refine zv_iload_n hC dX11_mayAll_49 rfl ?_
        refine zv_iald hC dX11_mayAll_50 rfl h.1 ?_
        replace h := h.2
        refine zv_iconst (v := 1) hC dX11_mayAll_51 (by decide) ?_
        refine zv_icmp_ne (tgt := 78) hC dX11_mayAll_52 (by decide) (fun c => ?_) (fun c => ?_)
        · replace h := h.1 c
          exact zv_go (k_X11_mayAll_78 hC hR hk2 h) ⟨rfl, rfl, rfl, rfl, trivial⟩
        · replace h := h.2 c
          refine zv_iload_n hC dX11_mayAll_55 rfl ?_
          refine zv_aload_n hC dX11_mayAll_56 rfl ?_
          refine zv_getR (j := 49) hC fl_X11_19 dX11_mayAll_57 rfl rfl ?_
          refine zv_iload_n hC dX11_mayAll_60 rfl ?_
          refine zv_iald hC dX11_mayAll_61 rfl h.1 ?_
          replace h := h.2
          refine zv_aload_n hC dX11_mayAll_62 rfl ?_
          refine zv_getR (j := 50) hC fl_X11_22 dX11_mayAll_63 rfl rfl ?_
          refine zv_iload_n hC dX11_mayAll_66 rfl ?_
          refine zv_iald hC dX11_mayAll_67 rfl h.1 ?_
          replace h := h.2
          refine zv_callSi (As := [_, _, _]) hC dX11_mayAll_68 Y_X11_in lk_X11_103 (by decide) rfl rfl (Nat.le_of_ble_eq_true rfl) (ok_X11_in G h) ?_
          intro r_2 σ_1 h
          refine zv_if_eq (tgt := 78) hC dX11_mayAll_71 (by decide) (fun c => ?_) (fun c => ?_)
          · replace h := h.1 c
            exact zv_go (k_X11_mayAll_78 hC hR hk2 h) ⟨rfl, rfl, rfl, rfl, trivial⟩
          · replace h := h.2 c
            refine zv_iconst (v := 1) hC dX11_mayAll_74 (by decide) ?_
            refine zv_goto (tgt := 79) hC dX11_mayAll_75 (by decide) ?_
            exact zv_go (k_X11_mayAll_79 hC hR hk2 h) ⟨rfl, rfl, rfl, rfl, trivial⟩
      · replace h := h.2 c
        refine zv_aload_n hC dX11_mayAll_16 rfl ?_
        refine zv_getR (j := 46) hC fl_X11_7 dX11_mayAll_17 rfl rfl ?_
        refine zv_sipush (v := 512) hC dX11_mayAll_20 (by decide) ?_
        refine zv_aload_n hC dX11_mayAll_23 rfl ?_
        refine zv_getR (j := 49) hC fl_X11_19 dX11_mayAll_24 rfl rfl ?_
        refine zv_iload_n hC dX11_mayAll_27 rfl ?_
        refine zv_iald hC dX11_mayAll_28 rfl h.1 ?_
        replace h := h.2
        refine zv_imul hC dX11_mayAll_29 ?_
        refine zv_iload_n hC dX11_mayAll_30 rfl ?_
        refine zv_iadd hC dX11_mayAll_31 ?_
        refine zv_iald hC dX11_mayAll_32 rfl h.1 ?_
        replace h := h.2
        refine zv_iconst (v := (-1)) hC dX11_mayAll_33 (by decide) ?_
        refine zv_icmp_eq (tgt := 41) hC dX11_mayAll_34 (by decide) (fun c => ?_) (fun c => ?_)
        · replace h := h.1 c
          refine zv_iconst (v := 0) hC dX11_mayAll_41 (by decide) ?_
          refine zv_goto (tgt := 79) hC dX11_mayAll_42 (by decide) ?_
          exact zv_go (k_X11_mayAll_79 hC hR hk2 h) ⟨rfl, rfl, rfl, rfl, trivial⟩
        · replace h := h.2 c
          refine zv_iconst (v := 1) hC dX11_mayAll_37 (by decide) ?_
          refine zv_goto (tgt := 79) hC dX11_mayAll_38 (by decide) ?_
          exact zv_go (k_X11_mayAll_79 hC hR hk2 h) ⟨rfl, rfl, rfl, rfl, trivial⟩
def B_X11_mayAll (Q : zv_St → Prop) (x1 : Int32) (x2 : Int32) (σ : zv_St) : Prop :=
  ∃ n2, L_X11_mayAll_2 Q n2 x1 x2 0 σ
set_option maxRecDepth 20000 in
set_option maxHeartbeats 2000000 in
theorem k_X11_mayAll_0 {G : zv_G} {X : zv_X} {Q : zv_St → Prop}  (hC : zv_C G X M_X11_mayAll) (hR : zv_R G X M_X11_mayAll (zv_qv Q))  {x1 : Int32} {x2 : Int32} {σ : zv_St} (h : B_X11_mayAll Q  x1 x2 σ) : zv_V G X M_X11_mayAll 0 [(0, .ref (G.2.2.1 45)), (1, .int x1), (2, .int x2)] [] σ := by
  unfold B_X11_mayAll at h
  refine zv_iconst (v := 0) hC dX11_mayAll_0 (by decide) ?_
  refine zv_istore_n hC dX11_mayAll_1 (by decide) ?_
  obtain ⟨n, h⟩ := h
  exact zv_go (kL_X11_mayAll_2 hC hR  n _ _ _ _ h) ⟨rfl, rfl, rfl, rfl, trivial⟩
theorem ok_X11_mayAll (G : zv_G) {Q : zv_St → Prop} {x1 : Int32} {x2 : Int32} {σ : zv_St} (h : B_X11_mayAll Q x1 x2 σ) : zv_OK G M_X11_mayAll yX11_mayAll [.ref (G.2.2.1 45), .int x1, .int x2] σ (zv_qv Q) := zv_ok G _ _ _ _ _ (by decide +kernel) rfl (Nat.le_of_ble_eq_true rfl) (fun X hC hR => zv_go (k_X11_mayAll_0 hC hR h) ⟨rfl, rfl, rfl, trivial⟩)
