-- X11_sum
def L_X11_sum_43 (Q : Int32 → zv_St → Prop) : Nat → (Int32 → Int32 → zv_St → Prop)
  | 0 => fun _ _ _ => False
  | u + 1 => fun x2 x3 σ => 
    (16 ≤ x3 → (Q x2 σ)) ∧ (¬ 16 ≤ x3 → (vp_in x3 16 ∧ ∀ v_1 : Int32, v_1 = (x2 + (σ.1 47 x3.toNatClampNeg)) → (L_X11_sum_43 Q u) v_1 (x3 + 1) σ))
set_option maxRecDepth 20000 in
set_option maxHeartbeats 2000000 in
theorem kL_X11_sum_43 {G : zv_G} {X : zv_X} {Q : Int32 → zv_St → Prop}  (hC : zv_C G X M_X11_sum) (hR : zv_R G X M_X11_sum (zv_qi Q))  : ∀ (n : Nat) (x2 : Int32) (x3 : Int32) (σ : zv_St), L_X11_sum_43 Q  n x2 x3 σ → zv_V G X M_X11_sum 43 [(0, .ref (G.2.2.1 45)), (2, .int x2), (3, .int x3)] [] σ := by
  intro n
  induction n with
  | zero => intro x2 x3 σ h; exact h.elim
  | succ n hk43 =>
    intro x2 x3 σ h
    unfold L_X11_sum_43 at h
    refine zv_iload_n hC dX11_sum_43 rfl ?_
    refine zv_bipush (v := 16) hC dX11_sum_44 (by decide) ?_
    refine zv_icmp_ge (tgt := 64) hC dX11_sum_46 (by decide) (fun c => ?_) (fun c => ?_)
    · replace h := h.1 c
      refine zv_iload_n hC dX11_sum_64 rfl ?_
      exact (hR _ _ _).1 _ rfl dX11_sum_65 ⟨_, rfl, h⟩
    · replace h := h.2 c
      refine zv_iload_n hC dX11_sum_49 rfl ?_
      refine zv_aload_n hC dX11_sum_50 rfl ?_
      refine zv_getR (j := 47) hC fl_X11_13 dX11_sum_51 rfl rfl ?_
      refine zv_iload_n hC dX11_sum_54 rfl ?_
      refine zv_iald hC dX11_sum_55 rfl h.1 ?_
      replace h := h.2
      refine zv_iadd hC dX11_sum_56 ?_
      replace h := h _ rfl
      refine zv_istore_n hC dX11_sum_57 (by decide) ?_
      refine zv_iinc (v := 1) hC dX11_sum_58 rfl (by decide) (by decide) ?_
      refine zv_goto (tgt := 43) hC dX11_sum_61 (by decide) ?_
      exact zv_go (hk43 _ _ _ h) ⟨rfl, rfl, rfl, trivial⟩
def B_X11_sum_95 (Q : Int32 → zv_St → Prop) (kk73 : Int32 → Int32 → zv_St → Prop) (x3 : Int32) (y0 : Int32) (y1 : Int32) (σ : zv_St) : Prop :=
  kk73 (y0 + y1) (x3 + 1) σ
set_option maxRecDepth 20000 in
set_option maxHeartbeats 2000000 in
theorem k_X11_sum_95 {G : zv_G} {X : zv_X} {Q : Int32 → zv_St → Prop} {kk73 : Int32 → Int32 → zv_St → Prop} (hC : zv_C G X M_X11_sum) (hR : zv_R G X M_X11_sum (zv_qi Q)) (hk73 : ∀ (x2 : Int32) (x3 : Int32) (σ : zv_St), kk73 x2 x3 σ → zv_V G X M_X11_sum 73 [(0, .ref (G.2.2.1 45)), (2, .int x2), (3, .int x3)] [] σ) {x3 : Int32} {y0 : Int32} {y1 : Int32} {σ : zv_St} (h : B_X11_sum_95 Q kk73 x3 y0 y1 σ) : zv_V G X M_X11_sum 95 [(0, .ref (G.2.2.1 45)), (3, .int x3)] [.int y1, .int y0] σ := by
  unfold B_X11_sum_95 at h
  refine zv_iadd hC dX11_sum_95 ?_
  refine zv_istore_n hC dX11_sum_96 (by decide) ?_
  refine zv_iinc (v := 1) hC dX11_sum_97 rfl (by decide) (by decide) ?_
  refine zv_goto (tgt := 73) hC dX11_sum_100 (by decide) ?_
  exact zv_go (hk73 _ _ _ h) ⟨rfl, rfl, rfl, trivial⟩
def L_X11_sum_73 (Q : Int32 → zv_St → Prop) : Nat → (Int32 → Int32 → zv_St → Prop)
  | 0 => fun _ _ _ => False
  | u + 1 => fun x2 x3 σ => 
    (8 ≤ x3 → (Q x2 σ)) ∧ (¬ 8 ≤ x3 → (vp_in x3 8 ∧ ((σ.1 57 x3.toNatClampNeg) = (-1) → (B_X11_sum_95 Q (L_X11_sum_73 Q u) x3 x2 0 σ)) ∧ (¬ (σ.1 57 x3.toNatClampNeg) = (-1) → (B_X11_sum_95 Q (L_X11_sum_73 Q u) x3 x2 1 σ))))
set_option maxRecDepth 20000 in
set_option maxHeartbeats 2000000 in
theorem kL_X11_sum_73 {G : zv_G} {X : zv_X} {Q : Int32 → zv_St → Prop}  (hC : zv_C G X M_X11_sum) (hR : zv_R G X M_X11_sum (zv_qi Q))  : ∀ (n : Nat) (x2 : Int32) (x3 : Int32) (σ : zv_St), L_X11_sum_73 Q  n x2 x3 σ → zv_V G X M_X11_sum 73 [(0, .ref (G.2.2.1 45)), (2, .int x2), (3, .int x3)] [] σ := by
  intro n
  induction n with
  | zero => intro x2 x3 σ h; exact h.elim
  | succ n hk73 =>
    intro x2 x3 σ h
    unfold L_X11_sum_73 at h
    refine zv_iload_n hC dX11_sum_73 rfl ?_
    refine zv_bipush (v := 8) hC dX11_sum_74 (by decide) ?_
    refine zv_icmp_ge (tgt := 103) hC dX11_sum_76 (by decide) (fun c => ?_) (fun c => ?_)
    · replace h := h.1 c
      refine zv_iload_n hC dX11_sum_103 rfl ?_
      exact (hR _ _ _).1 _ rfl dX11_sum_104 ⟨_, rfl, h⟩
    · replace h := h.2 c
      refine zv_iload_n hC dX11_sum_79 rfl ?_
      refine zv_aload_n hC dX11_sum_80 rfl ?_
      refine zv_getR (j := 57) hC fl_X11_45 dX11_sum_81 rfl rfl ?_
      refine zv_iload_n hC dX11_sum_84 rfl ?_
      refine zv_iald hC dX11_sum_85 rfl h.1 ?_
      replace h := h.2
      refine zv_iconst (v := (-1)) hC dX11_sum_86 (by decide) ?_
      refine zv_icmp_eq (tgt := 94) hC dX11_sum_87 (by decide) (fun c => ?_) (fun c => ?_)
      · replace h := h.1 c
        refine zv_iconst (v := 0) hC dX11_sum_94 (by decide) ?_
        exact zv_go (k_X11_sum_95 hC hR hk73 h) ⟨rfl, rfl, trivial⟩
      · replace h := h.2 c
        refine zv_iconst (v := 1) hC dX11_sum_90 (by decide) ?_
        refine zv_goto (tgt := 95) hC dX11_sum_91 (by decide) ?_
        exact zv_go (k_X11_sum_95 hC hR hk73 h) ⟨rfl, rfl, trivial⟩
def B_X11_sum_131 (Q : Int32 → zv_St → Prop) (kk107 : Int32 → Int32 → zv_St → Prop) (x3 : Int32) (y0 : Int32) (y1 : Int32) (σ : zv_St) : Prop :=
  kk107 (y0 + y1) (x3 + 1) σ
set_option maxRecDepth 20000 in
set_option maxHeartbeats 2000000 in
theorem k_X11_sum_131 {G : zv_G} {X : zv_X} {Q : Int32 → zv_St → Prop} {kk107 : Int32 → Int32 → zv_St → Prop} (hC : zv_C G X M_X11_sum) (hR : zv_R G X M_X11_sum (zv_qi Q)) (hk107 : ∀ (x2 : Int32) (x3 : Int32) (σ : zv_St), kk107 x2 x3 σ → zv_V G X M_X11_sum 107 [(0, .ref (G.2.2.1 45)), (2, .int x2), (3, .int x3)] [] σ) {x3 : Int32} {y0 : Int32} {y1 : Int32} {σ : zv_St} (h : B_X11_sum_131 Q kk107 x3 y0 y1 σ) : zv_V G X M_X11_sum 131 [(0, .ref (G.2.2.1 45)), (3, .int x3)] [.int y1, .int y0] σ := by
  unfold B_X11_sum_131 at h
  refine zv_iadd hC dX11_sum_131 ?_
  refine zv_istore_n hC dX11_sum_132 (by decide) ?_
  refine zv_iinc (v := 1) hC dX11_sum_133 rfl (by decide) (by decide) ?_
  refine zv_goto (tgt := 107) hC dX11_sum_136 (by decide) ?_
  exact zv_go (hk107 _ _ _ h) ⟨rfl, rfl, rfl, trivial⟩
def L_X11_sum_107 (Q : Int32 → zv_St → Prop) : Nat → (Int32 → Int32 → zv_St → Prop)
  | 0 => fun _ _ _ => False
  | u + 1 => fun x2 x3 σ => 
    ((σ.1 45 2) ≤ x3 → (Q x2 σ)) ∧ (¬ (σ.1 45 2) ≤ x3 → (vp_in x3 80 ∧ ((σ.1 55 x3.toNatClampNeg) = (-1) → (B_X11_sum_131 Q (L_X11_sum_107 Q u) x3 x2 0 σ)) ∧ (¬ (σ.1 55 x3.toNatClampNeg) = (-1) → (B_X11_sum_131 Q (L_X11_sum_107 Q u) x3 x2 1 σ))))
set_option maxRecDepth 20000 in
set_option maxHeartbeats 2000000 in
theorem kL_X11_sum_107 {G : zv_G} {X : zv_X} {Q : Int32 → zv_St → Prop}  (hC : zv_C G X M_X11_sum) (hR : zv_R G X M_X11_sum (zv_qi Q))  : ∀ (n : Nat) (x2 : Int32) (x3 : Int32) (σ : zv_St), L_X11_sum_107 Q  n x2 x3 σ → zv_V G X M_X11_sum 107 [(0, .ref (G.2.2.1 45)), (2, .int x2), (3, .int x3)] [] σ := by
  intro n
  induction n with
  | zero => intro x2 x3 σ h; exact h.elim
  | succ n hk107 =>
    intro x2 x3 σ h
    unfold L_X11_sum_107 at h
    refine zv_iload_n hC dX11_sum_107 rfl ?_
    refine zv_aload_n hC dX11_sum_108 rfl ?_
    refine zv_getI hC fl_X11_107 dX11_sum_109 rfl rfl ?_
    refine zv_icmp_ge (tgt := 139) hC dX11_sum_112 (by decide) (fun c => ?_) (fun c => ?_)
    · replace h := h.1 c
      refine zv_iload_n hC dX11_sum_139 rfl ?_
      exact (hR _ _ _).1 _ rfl dX11_sum_140 ⟨_, rfl, h⟩
    · replace h := h.2 c
      refine zv_iload_n hC dX11_sum_115 rfl ?_
      refine zv_aload_n hC dX11_sum_116 rfl ?_
      refine zv_getR (j := 55) hC fl_X11_37 dX11_sum_117 rfl rfl ?_
      refine zv_iload_n hC dX11_sum_120 rfl ?_
      refine zv_iald hC dX11_sum_121 rfl h.1 ?_
      replace h := h.2
      refine zv_iconst (v := (-1)) hC dX11_sum_122 (by decide) ?_
      refine zv_icmp_eq (tgt := 130) hC dX11_sum_123 (by decide) (fun c => ?_) (fun c => ?_)
      · replace h := h.1 c
        refine zv_iconst (v := 0) hC dX11_sum_130 (by decide) ?_
        exact zv_go (k_X11_sum_131 hC hR hk107 h) ⟨rfl, rfl, trivial⟩
      · replace h := h.2 c
        refine zv_iconst (v := 1) hC dX11_sum_126 (by decide) ?_
        refine zv_goto (tgt := 131) hC dX11_sum_127 (by decide) ?_
        exact zv_go (k_X11_sum_131 hC hR hk107 h) ⟨rfl, rfl, trivial⟩
def B_X11_sum (Q : Int32 → zv_St → Prop) (x1 : Int32) (σ : zv_St) : Prop :=
  (x1 = 0 → (Q (σ.1 45 2) σ)) ∧ (x1 = 1 → (∃ n43, L_X11_sum_43 Q n43 0 0 σ)) ∧ (x1 = 2 → (Q (σ.1 45 10) σ)) ∧ (x1 = 3 → (∃ n73, L_X11_sum_73 Q n73 0 0 σ)) ∧ (x1 = 4 → (∃ n107, L_X11_sum_107 Q n107 0 0 σ)) ∧ (Int32.toInt x1 < 0 ∨ 4 < Int32.toInt x1 → (Q (-2) σ))
set_option maxRecDepth 20000 in
set_option maxHeartbeats 2000000 in
theorem k_X11_sum_0 {G : zv_G} {X : zv_X} {Q : Int32 → zv_St → Prop}  (hC : zv_C G X M_X11_sum) (hR : zv_R G X M_X11_sum (zv_qi Q))  {x1 : Int32} {σ : zv_St} (h : B_X11_sum Q  x1 σ) : zv_V G X M_X11_sum 0 [(0, .ref (G.2.2.1 45)), (1, .int x1)] [] σ := by
  unfold B_X11_sum at h
  refine zv_iconst (v := 0) hC dX11_sum_0 (by decide) ?_
  refine zv_istore_n hC dX11_sum_1 (by decide) ?_
  refine zv_iload_n hC dX11_sum_2 rfl ?_
  refine zv_swV (zv_sw_0_4) ?_
  rintro (c | c | c | c | c | c)
  · replace h := h.1 c
    refine zv_table (off := 33) (tgt := 36) hC dX11_sum_3 (by rw [c]; decide) (by rw [c]; decide) (by rw [c]; rfl) (by decide) ?_
    refine zv_aload_n hC dX11_sum_36 rfl ?_
    refine zv_getI hC fl_X11_107 dX11_sum_37 rfl rfl ?_
    exact (hR _ _ _).1 _ rfl dX11_sum_40 ⟨_, rfl, h⟩
  · replace h := h.2.1 c
    refine zv_table (off := 38) (tgt := 41) hC dX11_sum_3 (by rw [c]; decide) (by rw [c]; decide) (by rw [c]; rfl) (by decide) ?_
    refine zv_iconst (v := 0) hC dX11_sum_41 (by decide) ?_
    refine zv_istore_n hC dX11_sum_42 (by decide) ?_
    obtain ⟨n, h⟩ := h
    exact zv_go (kL_X11_sum_43 hC hR  n _ _ _ h) ⟨rfl, rfl, rfl, trivial⟩
  · replace h := h.2.2.1 c
    refine zv_table (off := 63) (tgt := 66) hC dX11_sum_3 (by rw [c]; decide) (by rw [c]; decide) (by rw [c]; rfl) (by decide) ?_
    refine zv_aload_n hC dX11_sum_66 rfl ?_
    refine zv_getI hC fl_X11_167 dX11_sum_67 rfl rfl ?_
    exact (hR _ _ _).1 _ rfl dX11_sum_70 ⟨_, rfl, h⟩
  · replace h := h.2.2.2.1 c
    refine zv_table (off := 68) (tgt := 71) hC dX11_sum_3 (by rw [c]; decide) (by rw [c]; decide) (by rw [c]; rfl) (by decide) ?_
    refine zv_iconst (v := 0) hC dX11_sum_71 (by decide) ?_
    refine zv_istore_n hC dX11_sum_72 (by decide) ?_
    obtain ⟨n, h⟩ := h
    exact zv_go (kL_X11_sum_73 hC hR  n _ _ _ h) ⟨rfl, rfl, rfl, trivial⟩
  · replace h := h.2.2.2.2.1 c
    refine zv_table (off := 102) (tgt := 105) hC dX11_sum_3 (by rw [c]; decide) (by rw [c]; decide) (by rw [c]; rfl) (by decide) ?_
    refine zv_iconst (v := 0) hC dX11_sum_105 (by decide) ?_
    refine zv_istore_n hC dX11_sum_106 (by decide) ?_
    obtain ⟨n, h⟩ := h
    exact zv_go (kL_X11_sum_107 hC hR  n _ _ _ h) ⟨rfl, rfl, rfl, trivial⟩
  · replace h := h.2.2.2.2.2 c
    refine zv_tableD (tgt := 141) hC dX11_sum_3 c (by decide) ?_
    refine zv_bipush (v := (-2)) hC dX11_sum_141 (by decide) ?_
    exact (hR _ _ _).1 _ rfl dX11_sum_143 ⟨_, rfl, h⟩
theorem ok_X11_sum (G : zv_G) {Q : Int32 → zv_St → Prop} {x1 : Int32} {σ : zv_St} (h : B_X11_sum Q x1 σ) : zv_OK G M_X11_sum yX11_sum [.ref (G.2.2.1 45), .int x1] σ (zv_qi Q) := zv_ok G _ _ _ _ _ (by decide +kernel) rfl (Nat.le_of_ble_eq_true rfl) (fun X hC hR => zv_go (k_X11_sum_0 hC hR h) ⟨rfl, rfl, trivial⟩)
