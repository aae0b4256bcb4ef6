-- X10_modulusOf
def B_X10_modulusOf (Q : Int32 → zv_St → Prop) (x0 : Int32) (σ : zv_St) : Prop :=
  Q ((x0 / 1000) - (x0 / 1000) / 1000 * 1000) σ
set_option maxRecDepth 20000 in
set_option maxHeartbeats 2000000 in
theorem k_X10_modulusOf_0 {G : zv_G} {X : zv_X} {Q : Int32 → zv_St → Prop}  (hC : zv_C G X M_X10_modulusOf) (hR : zv_R G X M_X10_modulusOf (zv_qi Q))  {x0 : Int32} {σ : zv_St} (h : B_X10_modulusOf Q  x0 σ) : zv_V G X M_X10_modulusOf 0 [(0, .int x0)] [] σ := by
  unfold B_X10_modulusOf at h
  refine zv_iload_n hC dX10_modulusOf_0 rfl ?_
  refine zv_sipush (v := 1000) hC dX10_modulusOf_1 (by decide) ?_
  refine zv_idiv hC dX10_modulusOf_4 (by decide) ?_
  refine zv_sipush (v := 1000) hC dX10_modulusOf_5 (by decide) ?_
  refine zv_irem hC dX10_modulusOf_8 (by decide) ?_
  exact (hR _ _ _).1 _ rfl dX10_modulusOf_9 ⟨_, rfl, h⟩
theorem ok_X10_modulusOf (G : zv_G) {Q : Int32 → zv_St → Prop} {x0 : Int32} {σ : zv_St} (h : B_X10_modulusOf Q x0 σ) : zv_OK G M_X10_modulusOf yX10_modulusOf [.int x0] σ (zv_qi Q) := zv_ok G _ _ _ _ _ (by decide +kernel) rfl (Nat.le_of_ble_eq_true rfl) (fun X hC hR => zv_go (k_X10_modulusOf_0 hC hR h) ⟨rfl, trivial⟩)
-- X10_areNumbersOf
def B_X10_areNumbersOf_77 (Q : Int32 → zv_St → Prop) (y0 : Int32) (σ : zv_St) : Prop :=
  narrow .boolean (.int y0) = .int y0 ∧ Q y0 σ
set_option maxRecDepth 20000 in
set_option maxHeartbeats 2000000 in
theorem k_X10_areNumbersOf_77 {G : zv_G} {X : zv_X} {Q : Int32 → zv_St → Prop}  (hC : zv_C G X M_X10_areNumbersOf) (hR : zv_R G X M_X10_areNumbersOf (zv_qi Q))  {y0 : Int32} {σ : zv_St} (h : B_X10_areNumbersOf_77 Q  y0 σ) : zv_V G X M_X10_areNumbersOf 77 [] [.int y0] σ := by
  unfold B_X10_areNumbersOf_77 at h
  exact (hR _ _ _).2.1 _ rfl h.1 dX10_areNumbersOf_77 ⟨_, rfl, h.2⟩
def B_X10_areNumbersOf_76 (Q : Int32 → zv_St → Prop) (σ : zv_St) : Prop :=
  B_X10_areNumbersOf_77 Q 0 σ
set_option maxRecDepth 20000 in
set_option maxHeartbeats 2000000 in
theorem k_X10_areNumbersOf_76 {G : zv_G} {X : zv_X} {Q : Int32 → zv_St → Prop}  (hC : zv_C G X M_X10_areNumbersOf) (hR : zv_R G X M_X10_areNumbersOf (zv_qi Q))   {σ : zv_St} (h : B_X10_areNumbersOf_76 Q   σ) : zv_V G X M_X10_areNumbersOf 76 [] [] σ := by
  unfold B_X10_areNumbersOf_76 at h
  refine zv_iconst (v := 0) hC dX10_areNumbersOf_76 (by decide) ?_
  exact zv_go (k_X10_areNumbersOf_77 hC hR  h) trivial
def B_X10_areNumbersOf_117 (Q : Int32 → zv_St → Prop) (y0 : Int32) (σ : zv_St) : Prop :=
  narrow .boolean (.int y0) = .int y0 ∧ Q y0 σ
set_option maxRecDepth 20000 in
set_option maxHeartbeats 2000000 in
theorem k_X10_areNumbersOf_117 {G : zv_G} {X : zv_X} {Q : Int32 → zv_St → Prop}  (hC : zv_C G X M_X10_areNumbersOf) (hR : zv_R G X M_X10_areNumbersOf (zv_qi Q))  {y0 : Int32} {σ : zv_St} (h : B_X10_areNumbersOf_117 Q  y0 σ) : zv_V G X M_X10_areNumbersOf 117 [] [.int y0] σ := by
  unfold B_X10_areNumbersOf_117 at h
  exact (hR _ _ _).2.1 _ rfl h.1 dX10_areNumbersOf_117 ⟨_, rfl, h.2⟩
def B_X10_areNumbersOf_116 (Q : Int32 → zv_St → Prop) (σ : zv_St) : Prop :=
  B_X10_areNumbersOf_117 Q 0 σ
set_option maxRecDepth 20000 in
set_option maxHeartbeats 2000000 in
theorem k_X10_areNumbersOf_116 {G : zv_G} {X : zv_X} {Q : Int32 → zv_St → Prop}  (hC : zv_C G X M_X10_areNumbersOf) (hR : zv_R G X M_X10_areNumbersOf (zv_qi Q))   {σ : zv_St} (h : B_X10_areNumbersOf_116 Q   σ) : zv_V G X M_X10_areNumbersOf 116 [] [] σ := by
  unfold B_X10_areNumbersOf_116 at h
  refine zv_iconst (v := 0) hC dX10_areNumbersOf_116 (by decide) ?_
  exact zv_go (k_X10_areNumbersOf_117 hC hR  h) trivial
def B_X10_areNumbersOf_150 (Q : Int32 → zv_St → Prop) (y0 : Int32) (σ : zv_St) : Prop :=
  narrow .boolean (.int y0) = .int y0 ∧ Q y0 σ
set_option maxRecDepth 20000 in
set_option maxHeartbeats 2000000 in
theorem k_X10_areNumbersOf_150 {G : zv_G} {X : zv_X} {Q : Int32 → zv_St → Prop}  (hC : zv_C G X M_X10_areNumbersOf) (hR : zv_R G X M_X10_areNumbersOf (zv_qi Q))  {y0 : Int32} {σ : zv_St} (h : B_X10_areNumbersOf_150 Q  y0 σ) : zv_V G X M_X10_areNumbersOf 150 [] [.int y0] σ := by
  unfold B_X10_areNumbersOf_150 at h
  exact (hR _ _ _).2.1 _ rfl h.1 dX10_areNumbersOf_150 ⟨_, rfl, h.2⟩
def B_X10_areNumbersOf_149 (Q : Int32 → zv_St → Prop) (σ : zv_St) : Prop :=
  B_X10_areNumbersOf_150 Q 0 σ
set_option maxRecDepth 20000 in
set_option maxHeartbeats 2000000 in
theorem k_X10_areNumbersOf_149 {G : zv_G} {X : zv_X} {Q : Int32 → zv_St → Prop}  (hC : zv_C G X M_X10_areNumbersOf) (hR : zv_R G X M_X10_areNumbersOf (zv_qi Q))   {σ : zv_St} (h : B_X10_areNumbersOf_149 Q   σ) : zv_V G X M_X10_areNumbersOf 149 [] [] σ := by
  unfold B_X10_areNumbersOf_149 at h
  refine zv_iconst (v := 0) hC dX10_areNumbersOf_149 (by decide) ?_
  exact zv_go (k_X10_areNumbersOf_150 hC hR  h) trivial
def B_X10_areNumbersOf (Q : Int32 → zv_St → Prop) (x1 : Int32) (x2 : Int32) (x3 : Int32) (σ : zv_St) : Prop :=
  (x1 = 0 → (B_X10_isList (fun r_2 σ_1 => narrow .boolean (.int r_2) = .int r_2 ∧ Q r_2 σ_1) x2 σ)) ∧ (x1 = 1 → (B_X10_isObject (fun r_4 σ_3 => (r_4 = 0 → (B_X10_areNumbersOf_76 Q σ_3)) ∧ (¬ r_4 = 0 → (B_X10_isObject (fun r_6 σ_5 => (r_6 = 0 → (B_X10_areNumbersOf_76 Q σ_5)) ∧ (¬ r_6 = 0 → ((x3 < x2 → (B_X10_areNumbersOf_76 Q σ_5)) ∧ (¬ x3 < x2 → (B_X10_areNumbersOf_77 Q 1 σ_5))))) x3 σ_3))) x2 σ)) ∧ (x1 = 2 → (B_X10_isWithin (fun r_8 σ_7 => narrow .boolean (.int r_8) = .int r_8 ∧ Q r_8 σ_7) x2 8 σ)) ∧ (x1 = 3 → (B_X10_isWithin (fun r_10 σ_9 => narrow .boolean (.int r_10) = .int r_10 ∧ Q r_10 σ_9) x2 100 σ)) ∧ (x1 = 4 → (B_X5_has (fun r_12 σ_11 => (r_12 = 0 → (B_X10_areNumbersOf_116 Q σ_11)) ∧ (¬ r_12 = 0 → (B_X10_isWithin (fun r_14 σ_13 => (r_14 = 0 → (B_X10_areNumbersOf_116 Q σ_13)) ∧ (¬ r_14 = 0 → (B_X10_areNumbersOf_117 Q 1 σ_13))) x3 1000000 σ_11))) x2 σ)) ∧ (x1 = 5 → (B_X5_has (fun r_16 σ_15 => (r_16 = 0 → (B_X10_areNumbersOf_149 Q σ_15)) ∧ (¬ r_16 = 0 → (B_X10_isWithin (fun r_18 σ_17 => (r_18 = 0 → (B_X10_areNumbersOf_149 Q σ_17)) ∧ (¬ r_18 = 0 → (B_X10_modulusOf (fun r_20 σ_19 => (r_20 ≤ 0 → (B_X10_areNumbersOf_149 Q σ_19)) ∧ (¬ r_20 ≤ 0 → (B_X10_areNumbersOf_150 Q 1 σ_19))) x3 σ_17))) x3 999999999 σ_15))) x2 σ)) ∧ (x1 = 6 → (B_X5_has (fun r_22 σ_21 => narrow .boolean (.int r_22) = .int r_22 ∧ Q r_22 σ_21) x2 σ)) ∧ (x1 = 7 → (Q 1 σ)) ∧ (Int32.toInt x1 < 0 ∨ 7 < Int32.toInt x1 → (Q 0 σ))
set_option maxRecDepth 20000 in
set_option maxHeartbeats 2000000 in
theorem k_X10_areNumbersOf_0 {G : zv_G} {X : zv_X} {Q : Int32 → zv_St → Prop}  (hC : zv_C G X M_X10_areNumbersOf) (hR : zv_R G X M_X10_areNumbersOf (zv_qi Q))  {x1 : Int32} {x2 : Int32} {x3 : Int32} {σ : zv_St} (h : B_X10_areNumbersOf Q  x1 x2 x3 σ) : zv_V G X M_X10_areNumbersOf 0 [(0, .ref (G.2.2.1 0)), (1, .int x1), (2, .int x2), (3, .int x3)] [] σ := by
  unfold B_X10_areNumbersOf at h
  refine zv_iload_n hC dX10_areNumbersOf_0 rfl ?_
  refine zv_swV (zv_sw_0_7) ?_
  rintro (c | c | c | c | c | c | c | c | c)
  · replace h := h.1 c
    refine zv_table (off := 47) (tgt := 48) hC dX10_areNumbersOf_1 (by rw [c]; decide) (by rw [c]; decide) (by rw [c]; rfl) (by decide) ?_
    refine zv_iload_n hC dX10_areNumbersOf_48 rfl ?_
    refine zv_callSi (As := [_]) hC dX10_areNumbersOf_49 Y_X10_isList lk_X10_73 (by decide) rfl rfl (Nat.le_of_ble_eq_true rfl) (ok_X10_isList G h) ?_
    intro r_2 σ_1 h
    exact (hR _ _ _).2.1 _ rfl h.1 dX10_areNumbersOf_52 ⟨_, rfl, h.2⟩
  · replace h := h.2.1 c
    refine zv_table (off := 52) (tgt := 53) hC dX10_areNumbersOf_1 (by rw [c]; decide) (by rw [c]; decide) (by rw [c]; rfl) (by decide) ?_
    refine zv_iload_n hC dX10_areNumbersOf_53 rfl ?_
    refine zv_callSi (As := [_]) hC dX10_areNumbersOf_54 Y_X10_isObject lk_X10_77 (by decide) rfl rfl (Nat.le_of_ble_eq_true rfl) (ok_X10_isObject G h) ?_
    intro r_4 σ_3 h
    refine zv_if_eq (tgt := 76) hC dX10_areNumbersOf_57 (by decide) (fun c => ?_) (fun c => ?_)
    · replace h := h.1 c
      exact zv_go (k_X10_areNumbersOf_76 hC hR  h) trivial
    · replace h := h.2 c
      refine zv_iload_n hC dX10_areNumbersOf_60 rfl ?_
      refine zv_callSi (As := [_]) hC dX10_areNumbersOf_61 Y_X10_isObject lk_X10_77 (by decide) rfl rfl (Nat.le_of_ble_eq_true rfl) (ok_X10_isObject G h) ?_
      intro r_6 σ_5 h
      refine zv_if_eq (tgt := 76) hC dX10_areNumbersOf_64 (by decide) (fun c => ?_) (fun c => ?_)
      · replace h := h.1 c
        exact zv_go (k_X10_areNumbersOf_76 hC hR  h) trivial
      · replace h := h.2 c
        refine zv_iload_n hC dX10_areNumbersOf_67 rfl ?_
        refine zv_iload_n hC dX10_areNumbersOf_68 rfl ?_
        refine zv_icmp_gt (tgt := 76) hC dX10_areNumbersOf_69 (by decide) (fun c => ?_) (fun c => ?_)
        · replace h := h.1 c
          exact zv_go (k_X10_areNumbersOf_76 hC hR  h) trivial
        · replace h := h.2 c
          refine zv_iconst (v := 1) hC dX10_areNumbersOf_72 (by decide) ?_
          refine zv_goto (tgt := 77) hC dX10_areNumbersOf_73 (by decide) ?_
          exact zv_go (k_X10_areNumbersOf_77 hC hR  h) trivial
  · replace h := h.2.2.1 c
    refine zv_table (off := 77) (tgt := 78) hC dX10_areNumbersOf_1 (by rw [c]; decide) (by rw [c]; decide) (by rw [c]; rfl) (by decide) ?_
    refine zv_iload_n hC dX10_areNumbersOf_78 rfl ?_
    refine zv_bipush (v := 8) hC dX10_areNumbersOf_79 (by decide) ?_
    refine zv_callSi (As := [_, _]) hC dX10_areNumbersOf_81 Y_X10_isWithin lk_X10_81 (by decide) rfl rfl (Nat.le_of_ble_eq_true rfl) (ok_X10_isWithin G h) ?_
    intro r_8 σ_7 h
    exact (hR _ _ _).2.1 _ rfl h.1 dX10_areNumbersOf_84 ⟨_, rfl, h.2⟩
  · replace h := h.2.2.2.1 c
    refine zv_table (off := 84) (tgt := 85) hC dX10_areNumbersOf_1 (by rw [c]; decide) (by rw [c]; decide) (by rw [c]; rfl) (by decide) ?_
    refine zv_iload_n hC dX10_areNumbersOf_85 rfl ?_
    refine zv_bipush (v := 100) hC dX10_areNumbersOf_86 (by decide) ?_
    refine zv_callSi (As := [_, _]) hC dX10_areNumbersOf_88 Y_X10_isWithin lk_X10_81 (by decide) rfl rfl (Nat.le_of_ble_eq_true rfl) (ok_X10_isWithin G h) ?_
    intro r_10 σ_9 h
    exact (hR _ _ _).2.1 _ rfl h.1 dX10_areNumbersOf_91 ⟨_, rfl, h.2⟩
  · replace h := h.2.2.2.2.1 c
    refine zv_table (off := 91) (tgt := 92) hC dX10_areNumbersOf_1 (by rw [c]; decide) (by rw [c]; decide) (by rw [c]; rfl) (by decide) ?_
    refine zv_aload_n hC dX10_areNumbersOf_92 rfl ?_
    refine zv_getR (j := 5) hC fl_X10_19 dX10_areNumbersOf_93 rfl rfl ?_
    refine zv_iload_n hC dX10_areNumbersOf_96 rfl ?_
    refine zv_callVi (As := [_]) hC dX10_areNumbersOf_97 Y_X5_has lk_X10_118 (by decide) rfl rfl rfl (Nat.le_of_ble_eq_true rfl) (ok_X5_has G h) ?_
    intro r_12 σ_11 h
    refine zv_if_eq (tgt := 116) hC dX10_areNumbersOf_100 (by decide) (fun c => ?_) (fun c => ?_)
    · replace h := h.1 c
      exact zv_go (k_X10_areNumbersOf_116 hC hR  h) trivial
    · replace h := h.2 c
      refine zv_iload_n hC dX10_areNumbersOf_103 rfl ?_
      refine zv_ldc hC dX10_areNumbersOf_104 cst_X10_80 ?_
      refine zv_callSi (As := [_, _]) hC dX10_areNumbersOf_106 Y_X10_isWithin lk_X10_81 (by decide) rfl rfl (Nat.le_of_ble_eq_true rfl) (ok_X10_isWithin G h) ?_
      intro r_14 σ_13 h
      refine zv_if_eq (tgt := 116) hC dX10_areNumbersOf_109 (by decide) (fun c => ?_) (fun c => ?_)
      · replace h := h.1 c
        exact zv_go (k_X10_areNumbersOf_116 hC hR  h) trivial
      · replace h := h.2 c
        refine zv_iconst (v := 1) hC dX10_areNumbersOf_112 (by decide) ?_
        refine zv_goto (tgt := 117) hC dX10_areNumbersOf_113 (by decide) ?_
        exact zv_go (k_X10_areNumbersOf_117 hC hR  h) trivial
  · replace h := h.2.2.2.2.2.1 c
    refine zv_table (off := 117) (tgt := 118) hC dX10_areNumbersOf_1 (by rw [c]; decide) (by rw [c]; decide) (by rw [c]; rfl) (by decide) ?_
    refine zv_aload_n hC dX10_areNumbersOf_118 rfl ?_
    refine zv_getR (j := 5) hC fl_X10_19 dX10_areNumbersOf_119 rfl rfl ?_
    refine zv_iload_n hC dX10_areNumbersOf_122 rfl ?_
    refine zv_callVi (As := [_]) hC dX10_areNumbersOf_123 Y_X5_has lk_X10_118 (by decide) rfl rfl rfl (Nat.le_of_ble_eq_true rfl) (ok_X5_has G h) ?_
    intro r_16 σ_15 h
    refine zv_if_eq (tgt := 149) hC dX10_areNumbersOf_126 (by decide) (fun c => ?_) (fun c => ?_)
    · replace h := h.1 c
      exact zv_go (k_X10_areNumbersOf_149 hC hR  h) trivial
    · replace h := h.2 c
      refine zv_iload_n hC dX10_areNumbersOf_129 rfl ?_
      refine zv_ldc hC dX10_areNumbersOf_130 cst_X10_245 ?_
      refine zv_callSi (As := [_, _]) hC dX10_areNumbersOf_132 Y_X10_isWithin lk_X10_81 (by decide) rfl rfl (Nat.le_of_ble_eq_true rfl) (ok_X10_isWithin G h) ?_
      intro r_18 σ_17 h
      refine zv_if_eq (tgt := 149) hC dX10_areNumbersOf_135 (by decide) (fun c => ?_) (fun c => ?_)
      · replace h := h.1 c
        exact zv_go (k_X10_areNumbersOf_149 hC hR  h) trivial
      · replace h := h.2 c
        refine zv_iload_n hC dX10_areNumbersOf_138 rfl ?_
        refine zv_callSi (As := [_]) hC dX10_areNumbersOf_139 Y_X10_modulusOf lk_X10_246 (by decide) rfl rfl (Nat.le_of_ble_eq_true rfl) (ok_X10_modulusOf G h) ?_
        intro r_20 σ_19 h
        refine zv_if_le (tgt := 149) hC dX10_areNumbersOf_142 (by decide) (fun c => ?_) (fun c => ?_)
        · replace h := h.1 c
          exact zv_go (k_X10_areNumbersOf_149 hC hR  h) trivial
        · replace h := h.2 c
          refine zv_iconst (v := 1) hC dX10_areNumbersOf_145 (by decide) ?_
          refine zv_goto (tgt := 150) hC dX10_areNumbersOf_146 (by decide) ?_
          exact zv_go (k_X10_areNumbersOf_150 hC hR  h) trivial
  · replace h := h.2.2.2.2.2.2.1 c
    refine zv_table (off := 150) (tgt := 151) hC dX10_areNumbersOf_1 (by rw [c]; decide) (by rw [c]; decide) (by rw [c]; rfl) (by decide) ?_
    refine zv_aload_n hC dX10_areNumbersOf_151 rfl ?_
    refine zv_getR (j := 5) hC fl_X10_19 dX10_areNumbersOf_152 rfl rfl ?_
    refine zv_iload_n hC dX10_areNumbersOf_155 rfl ?_
    refine zv_callVi (As := [_]) hC dX10_areNumbersOf_156 Y_X5_has lk_X10_118 (by decide) rfl rfl rfl (Nat.le_of_ble_eq_true rfl) (ok_X5_has G h) ?_
    intro r_22 σ_21 h
    exact (hR _ _ _).2.1 _ rfl h.1 dX10_areNumbersOf_159 ⟨_, rfl, h.2⟩
  · replace h := h.2.2.2.2.2.2.2.1 c
    refine zv_table (off := 159) (tgt := 160) hC dX10_areNumbersOf_1 (by rw [c]; decide) (by rw [c]; decide) (by rw [c]; rfl) (by decide) ?_
    refine zv_iconst (v := 1) hC dX10_areNumbersOf_160 (by decide) ?_
    exact (hR _ _ _).2.1 _ rfl rfl dX10_areNumbersOf_161 ⟨_, rfl, h⟩
  · replace h := h.2.2.2.2.2.2.2.2 c
    refine zv_tableD (tgt := 162) hC dX10_areNumbersOf_1 c (by decide) ?_
    refine zv_iconst (v := 0) hC dX10_areNumbersOf_162 (by decide) ?_
    exact (hR _ _ _).2.1 _ rfl rfl dX10_areNumbersOf_163 ⟨_, rfl, h⟩
theorem ok_X10_areNumbersOf (G : zv_G) {Q : Int32 → zv_St → Prop} {x1 : Int32} {x2 : Int32} {x3 : Int32} {σ : zv_St} (h : B_X10_areNumbersOf Q x1 x2 x3 σ) : zv_OK G M_X10_areNumbersOf yX10_areNumbersOf [.ref (G.2.2.1 0), .int x1, .int x2, .int x3] σ (zv_qi Q) := zv_ok G _ _ _ _ _ (by decide +kernel) rfl (Nat.le_of_ble_eq_true rfl) (fun X hC hR => zv_go (k_X10_areNumbersOf_0 hC hR h) ⟨rfl, rfl, rfl, rfl, trivial⟩)
-- X10_hasSecondNumber
def B_X10_hasSecondNumber_20 (Q : Int32 → zv_St → Prop) (y0 : Int32) (σ : zv_St) : Prop :=
  narrow .boolean (.int y0) = .int y0 ∧ Q y0 σ
set_option maxRecDepth 20000 in
set_option maxHeartbeats 2000000 in
theorem k_X10_hasSecondNumber_20 {G : zv_G} {X : zv_X} {Q : Int32 → zv_St → Prop}  (hC : zv_C G X M_X10_hasSecondNumber) (hR : zv_R G X M_X10_hasSecondNumber (zv_qi Q))  {y0 : Int32} {σ : zv_St} (h : B_X10_hasSecondNumber_20 Q  y0 σ) : zv_V G X M_X10_hasSecondNumber 20 [] [.int y0] σ := by
  unfold B_X10_hasSecondNumber_20 at h
  exact (hR _ _ _).2.1 _ rfl h.1 dX10_hasSecondNumber_20 ⟨_, rfl, h.2⟩
def B_X10_hasSecondNumber_15 (Q : Int32 → zv_St → Prop) (σ : zv_St) : Prop :=
  B_X10_hasSecondNumber_20 Q 1 σ
set_option maxRecDepth 20000 in
set_option maxHeartbeats 2000000 in
theorem k_X10_hasSecondNumber_15 {G : zv_G} {X : zv_X} {Q : Int32 → zv_St → Prop}  (hC : zv_C G X M_X10_hasSecondNumber) (hR : zv_R G X M_X10_hasSecondNumber (zv_qi Q))   {σ : zv_St} (h : B_X10_hasSecondNumber_15 Q   σ) : zv_V G X M_X10_hasSecondNumber 15 [] [] σ := by
  unfold B_X10_hasSecondNumber_15 at h
  refine zv_iconst (v := 1) hC dX10_hasSecondNumber_15 (by decide) ?_
  refine zv_goto (tgt := 20) hC dX10_hasSecondNumber_16 (by decide) ?_
  exact zv_go (k_X10_hasSecondNumber_20 hC hR  h) trivial
def B_X10_hasSecondNumber (Q : Int32 → zv_St → Prop) (x0 : Int32) (σ : zv_St) : Prop :=
  (x0 = 1 → (B_X10_hasSecondNumber_15 Q σ)) ∧ (¬ x0 = 1 → ((x0 = 4 → (B_X10_hasSecondNumber_15 Q σ)) ∧ (¬ x0 = 4 → ((¬ x0 = 5 → (B_X10_hasSecondNumber_20 Q 0 σ)) ∧ (x0 = 5 → (B_X10_hasSecondNumber_15 Q σ))))))
set_option maxRecDepth 20000 in
set_option maxHeartbeats 2000000 in
theorem k_X10_hasSecondNumber_0 {G : zv_G} {X : zv_X} {Q : Int32 → zv_St → Prop}  (hC : zv_C G X M_X10_hasSecondNumber) (hR : zv_R G X M_X10_hasSecondNumber (zv_qi Q))  {x0 : Int32} {σ : zv_St} (h : B_X10_hasSecondNumber Q  x0 σ) : zv_V G X M_X10_hasSecondNumber 0 [(0, .int x0)] [] σ := by
  unfold B_X10_hasSecondNumber at h
  refine zv_iload_n hC dX10_hasSecondNumber_0 rfl ?_
  refine zv_iconst (v := 1) hC dX10_hasSecondNumber_1 (by decide) ?_
  refine zv_icmp_eq (tgt := 15) hC dX10_hasSecondNumber_2 (by decide) (fun c => ?_) (fun c => ?_)
  · replace h := h.1 c
    exact zv_go (k_X10_hasSecondNumber_15 hC hR  h) trivial
  · replace h := h.2 c
    refine zv_iload_n hC dX10_hasSecondNumber_5 rfl ?_
    refine zv_iconst (v := 4) hC dX10_hasSecondNumber_6 (by decide) ?_
    refine zv_icmp_eq (tgt := 15) hC dX10_hasSecondNumber_7 (by decide) (fun c => ?_) (fun c => ?_)
    · replace h := h.1 c
      exact zv_go (k_X10_hasSecondNumber_15 hC hR  h) trivial
    · replace h := h.2 c
      refine zv_iload_n hC dX10_hasSecondNumber_10 rfl ?_
      refine zv_iconst (v := 5) hC dX10_hasSecondNumber_11 (by decide) ?_
      refine zv_icmp_ne (tgt := 19) hC dX10_hasSecondNumber_12 (by decide) (fun c => ?_) (fun c => ?_)
      · replace h := h.1 c
        refine zv_iconst (v := 0) hC dX10_hasSecondNumber_19 (by decide) ?_
        exact zv_go (k_X10_hasSecondNumber_20 hC hR  h) trivial
      · replace h := h.2 c
        exact zv_go (k_X10_hasSecondNumber_15 hC hR  h) trivial
theorem ok_X10_hasSecondNumber (G : zv_G) {Q : Int32 → zv_St → Prop} {x0 : Int32} {σ : zv_St} (h : B_X10_hasSecondNumber Q x0 σ) : zv_OK G M_X10_hasSecondNumber yX10_hasSecondNumber [.int x0] σ (zv_qi Q) := zv_ok G _ _ _ _ _ (by decide +kernel) rfl (Nat.le_of_ble_eq_true rfl) (fun X hC hR => zv_go (k_X10_hasSecondNumber_0 hC hR h) ⟨rfl, trivial⟩)
-- X5_add
def B_X5_add (Q : Int32 → zv_St → Prop) (x1 : Int32) (x2 : Int32) (x3 : Int32) (σ : zv_St) : Prop :=
  vp_in x1 80 ∧ ((σ.1 10 x1.toNatClampNeg) < 8 → (vp_in x1 80 ∧ ∀ v_1 : Int32, v_1 = ((x1 * 8) + (σ.1 10 x1.toNatClampNeg)) → vp_in v_1 640 ∧ ∀ σ_2 : zv_St, σ_2 = zv_wi σ 11 v_1.toNatClampNeg x2 → vp_in v_1 640 ∧ ∀ σ_3 : zv_St, σ_3 = zv_wi σ_2 12 v_1.toNatClampNeg x3 → vp_in x1 80 ∧ vp_in x1 80 ∧ ∀ σ_4 : zv_St, σ_4 = zv_wi σ_3 10 x1.toNatClampNeg ((σ_3.1 10 x1.toNatClampNeg) + 1) → Q 1 σ_4)) ∧ (¬ (σ.1 10 x1.toNatClampNeg) < 8 → (Q 0 σ))
set_option maxRecDepth 20000 in
set_option maxHeartbeats 2000000 in
theorem k_X5_add_0 {G : zv_G} {X : zv_X} {Q : Int32 → zv_St → Prop}  (hC : zv_C G X M_X5_add) (hR : zv_R G X M_X5_add (zv_qi Q))  {x1 : Int32} {x2 : Int32} {x3 : Int32} {σ : zv_St} (h : B_X5_add Q  x1 x2 x3 σ) : zv_V G X M_X5_add 0 [(0, .ref (G.2.2.1 5)), (1, .int x1), (2, .int x2), (3, .int x3)] [] σ := by
  unfold B_X5_add at h
  refine zv_aload_n hC dX5_add_0 rfl ?_
  refine zv_getR (j := 10) hC fl_X5_24 dX5_add_1 rfl rfl ?_
  refine zv_iload_n hC dX5_add_4 rfl ?_
  refine zv_iald hC dX5_add_5 rfl h.1 ?_
  replace h := h.2
  refine zv_bipush (v := 8) hC dX5_add_6 (by decide) ?_
  refine zv_icmp_lt (tgt := 13) hC dX5_add_8 (by decide) (fun c => ?_) (fun c => ?_)
  · replace h := h.1 c
    refine zv_iload_n hC dX5_add_13 rfl ?_
    refine zv_bipush (v := 8) hC dX5_add_14 (by decide) ?_
    refine zv_imul hC dX5_add_16 ?_
    refine zv_aload_n hC dX5_add_17 rfl ?_
    refine zv_getR (j := 10) hC fl_X5_24 dX5_add_18 rfl rfl ?_
    refine zv_iload_n hC dX5_add_21 rfl ?_
    refine zv_iald hC dX5_add_22 rfl h.1 ?_
    replace h := h.2
    refine zv_iadd hC dX5_add_23 ?_
    replace h := h _ rfl
    refine zv_istore hC dX5_add_24 (by decide) ?_
    refine zv_aload_n hC dX5_add_26 rfl ?_
    refine zv_getR (j := 11) hC fl_X5_27 dX5_add_27 rfl rfl ?_
    refine zv_iload hC dX5_add_30 rfl ?_
    refine zv_iload_n hC dX5_add_32 rfl ?_
    refine zv_iast hC dX5_add_33 rfl h.1 ?_
    replace h := h.2 _ rfl
    refine zv_aload_n hC dX5_add_34 rfl ?_
    refine zv_getR (j := 12) hC fl_X5_30 dX5_add_35 rfl rfl ?_
    refine zv_iload hC dX5_add_38 rfl ?_
    refine zv_iload_n hC dX5_add_40 rfl ?_
    refine zv_iast hC dX5_add_41 rfl h.1 ?_
    replace h := h.2 _ rfl
    refine zv_aload_n hC dX5_add_42 rfl ?_
    refine zv_getR (j := 10) hC fl_X5_24 dX5_add_43 rfl rfl ?_
    refine zv_iload_n hC dX5_add_46 rfl ?_
    refine zv_dup2 hC dX5_add_47 rfl rfl ?_
    refine zv_iald hC dX5_add_48 rfl h.1 ?_
    replace h := h.2
    refine zv_iconst (v := 1) hC dX5_add_49 (by decide) ?_
    refine zv_iadd hC dX5_add_50 ?_
    refine zv_iast hC dX5_add_51 rfl h.1 ?_
    replace h := h.2 _ rfl
    refine zv_iconst (v := 1) hC dX5_add_52 (by decide) ?_
    exact (hR _ _ _).2.1 _ rfl rfl dX5_add_53 ⟨_, rfl, h⟩
  · replace h := h.2 c
    refine zv_iconst (v := 0) hC dX5_add_11 (by decide) ?_
    exact (hR _ _ _).2.1 _ rfl rfl dX5_add_12 ⟨_, rfl, h⟩
theorem ok_X5_add (G : zv_G) {Q : Int32 → zv_St → Prop} {x1 : Int32} {x2 : Int32} {x3 : Int32} {σ : zv_St} (h : B_X5_add Q x1 x2 x3 σ) : zv_OK G M_X5_add yX5_add [.ref (G.2.2.1 5), .int x1, .int x2, .int x3] σ (zv_qi Q) := zv_ok G _ _ _ _ _ (by decide +kernel) rfl (Nat.le_of_ble_eq_true rfl) (fun X hC hR => zv_go (k_X5_add_0 hC hR h) ⟨rfl, rfl, rfl, rfl, trivial⟩)
-- X5_make
def B_X5_make_93 (Q : Int32 → zv_St → Prop) (x4 : Int32) (σ : zv_St) : Prop :=
  Q x4 σ
set_option maxRecDepth 20000 in
set_option maxHeartbeats 2000000 in
theorem k_X5_make_93 {G : zv_G} {X : zv_X} {Q : Int32 → zv_St → Prop}  (hC : zv_C G X M_X5_make) (hR : zv_R G X M_X5_make (zv_qi Q))  {x4 : Int32} {σ : zv_St} (h : B_X5_make_93 Q  x4 σ) : zv_V G X M_X5_make 93 [(4, .int x4)] [] σ := by
  unfold B_X5_make_93 at h
  refine zv_iload hC dX5_make_93 rfl ?_
  exact (hR _ _ _).1 _ rfl dX5_make_95 ⟨_, rfl, h⟩
def B_X5_make_84 (Q : Int32 → zv_St → Prop) (x2 : Int32) (x4 : Int32) (σ : zv_St) : Prop :=
  B_X5_add (fun r_2 σ_1 => B_X5_make_93 Q x4 σ_1) x4 0 x2 σ
set_option maxRecDepth 20000 in
set_option maxHeartbeats 2000000 in
theorem k_X5_make_84 {G : zv_G} {X : zv_X} {Q : Int32 → zv_St → Prop}  (hC : zv_C G X M_X5_make) (hR : zv_R G X M_X5_make (zv_qi Q))  {x2 : Int32} {x4 : Int32} {σ : zv_St} (h : B_X5_make_84 Q  x2 x4 σ) : zv_V G X M_X5_make 84 [(0, .ref (G.2.2.1 5)), (2, .int x2), (4, .int x4)] [] σ := by
  unfold B_X5_make_84 at h
  refine zv_aload_n hC dX5_make_84 rfl ?_
  refine zv_iload hC dX5_make_85 rfl ?_
  refine zv_iconst (v := 0) hC dX5_make_87 (by decide) ?_
  refine zv_iload_n hC dX5_make_88 rfl ?_
  refine zv_callVi (As := [_, _, _]) hC dX5_make_89 Y_X5_add lk_X5_37 (by decide) rfl rfl rfl (Nat.le_of_ble_eq_true rfl) (ok_X5_add G h) ?_
  intro r_2 σ_1 h
  refine zv_pop hC dX5_make_92 rfl ?_
  exact zv_go (k_X5_make_93 hC hR  h) ⟨rfl, trivial⟩
def B_X5_make (Q : Int32 → zv_St → Prop) (x1 : Int32) (x2 : Int32) (x3 : Int32) (σ : zv_St) : Prop :=
  ((σ.1 5 0) < 80 → (∀ σ_1 : zv_St, σ_1 = zv_wi σ 5 0 ((σ.1 5 0) + 1) → vp_in (σ.1 5 0) 80 ∧ ∀ σ_2 : zv_St, σ_2 = zv_wi σ_1 6 (σ.1 5 0).toNatClampNeg x1 → vp_in (σ.1 5 0) 80 ∧ ∀ σ_3 : zv_St, σ_3 = zv_wi σ_2 7 (σ.1 5 0).toNatClampNeg x2 → vp_in (σ.1 5 0) 80 ∧ ∀ σ_4 : zv_St, σ_4 = zv_wi σ_3 8 (σ.1 5 0).toNatClampNeg x3 → vp_in (σ.1 5 0) 80 ∧ ∀ σ_5 : zv_St, σ_5 = zv_wi σ_4 9 (σ.1 5 0).toNatClampNeg 0 → vp_in (σ.1 5 0) 80 ∧ ∀ σ_6 : zv_St, σ_6 = zv_wi σ_5 10 (σ.1 5 0).toNatClampNeg 0 → (x1 = 4 → (B_X5_make_84 Q x2 (σ.1 5 0) σ_6)) ∧ (¬ x1 = 4 → ((x1 = 5 → (B_X5_make_84 Q x2 (σ.1 5 0) σ_6)) ∧ (¬ x1 = 5 → ((¬ x1 = 6 → (B_X5_make_93 Q (σ.1 5 0) σ_6)) ∧ (x1 = 6 → (B_X5_make_84 Q x2 (σ.1 5 0) σ_6)))))))) ∧ (¬ (σ.1 5 0) < 80 → (Q (-3) σ))
set_option maxRecDepth 20000 in
set_option maxHeartbeats 2000000 in
theorem k_X5_make_0 {G : zv_G} {X : zv_X} {Q : Int32 → zv_St → Prop}  (hC : zv_C G X M_X5_make) (hR : zv_R G X M_X5_make (zv_qi Q))  {x1 : Int32} {x2 : Int32} {x3 : Int32} {σ : zv_St} (h : B_X5_make Q  x1 x2 x3 σ) : zv_V G X M_X5_make 0 [(0, .ref (G.2.2.1 5)), (1, .int x1), (2, .int x2), (3, .int x3)] [] σ := by
  unfold B_X5_make at h
  refine zv_aload_n hC dX5_make_0 rfl ?_
  refine zv_getI hC fl_X5_33 dX5_make_1 rfl rfl ?_
  refine zv_bipush (v := 80) hC dX5_make_4 (by decide) ?_
  refine zv_icmp_lt (tgt := 12) hC dX5_make_6 (by decide) (fun c => ?_) (fun c => ?_)
  · replace h := h.1 c
    refine zv_aload_n hC dX5_make_12 rfl ?_
    refine zv_getI hC fl_X5_33 dX5_make_13 rfl rfl ?_
    refine zv_istore hC dX5_make_16 (by decide) ?_
    refine zv_aload_n hC dX5_make_18 rfl ?_
    refine zv_dup hC dX5_make_19 rfl ?_
    refine zv_getI hC fl_X5_33 dX5_make_20 rfl rfl ?_
    refine zv_iconst (v := 1) hC dX5_make_23 (by decide) ?_
    refine zv_iadd hC dX5_make_24 ?_
    refine zv_putI hC fp_X5_33 dX5_make_25 rfl rfl rfl rfl ?_
    replace h := h _ rfl
    refine zv_aload_n hC dX5_make_28 rfl ?_
    refine zv_getR (j := 6) hC fl_X5_9 dX5_make_29 rfl rfl ?_
    refine zv_iload hC dX5_make_32 rfl ?_
    refine zv_iload_n hC dX5_make_34 rfl ?_
    refine zv_iast hC dX5_make_35 rfl h.1 ?_
    replace h := h.2 _ rfl
    refine zv_aload_n hC dX5_make_36 rfl ?_
    refine zv_getR (j := 7) hC fl_X5_15 dX5_make_37 rfl rfl ?_
    refine zv_iload hC dX5_make_40 rfl ?_
    refine zv_iload_n hC dX5_make_42 rfl ?_
    refine zv_iast hC dX5_make_43 rfl h.1 ?_
    replace h := h.2 _ rfl
    refine zv_aload_n hC dX5_make_44 rfl ?_
    refine zv_getR (j := 8) hC fl_X5_18 dX5_make_45 rfl rfl ?_
    refine zv_iload hC dX5_make_48 rfl ?_
    refine zv_iload_n hC dX5_make_50 rfl ?_
    refine zv_iast hC dX5_make_51 rfl h.1 ?_
    replace h := h.2 _ rfl
    refine zv_aload_n hC dX5_make_52 rfl ?_
    refine zv_getR (j := 9) hC fl_X5_21 dX5_make_53 rfl rfl ?_
    refine zv_iload hC dX5_make_56 rfl ?_
    refine zv_iconst (v := 0) hC dX5_make_58 (by decide) ?_
    refine zv_iast hC dX5_make_59 rfl h.1 ?_
    replace h := h.2 _ rfl
    refine zv_aload_n hC dX5_make_60 rfl ?_
    refine zv_getR (j := 10) hC fl_X5_24 dX5_make_61 rfl rfl ?_
    refine zv_iload hC dX5_make_64 rfl ?_
    refine zv_iconst (v := 0) hC dX5_make_66 (by decide) ?_
    refine zv_iast hC dX5_make_67 rfl h.1 ?_
    replace h := h.2 _ rfl
    refine zv_iload_n hC dX5_make_68 rfl ?_
    refine zv_iconst (v := 4) hC dX5_make_69 (by decide) ?_
    refine zv_icmp_eq (tgt := 84) hC dX5_make_70 (by decide) (fun c => ?_) (fun c => ?_)
    · replace h := h.1 c
      exact zv_go (k_X5_make_84 hC hR  h) ⟨rfl, rfl, rfl, trivial⟩
    · replace h := h.2 c
      refine zv_iload_n hC dX5_make_73 rfl ?_
      refine zv_iconst (v := 5) hC dX5_make_74 (by decide) ?_
      refine zv_icmp_eq (tgt := 84) hC dX5_make_75 (by decide) (fun c => ?_) (fun c => ?_)
      · replace h := h.1 c
        exact zv_go (k_X5_make_84 hC hR  h) ⟨rfl, rfl, rfl, trivial⟩
      · replace h := h.2 c
        refine zv_iload_n hC dX5_make_78 rfl ?_
        refine zv_bipush (v := 6) hC dX5_make_79 (by decide) ?_
        refine zv_icmp_ne (tgt := 93) hC dX5_make_81 (by decide) (fun c => ?_) (fun c => ?_)
        · replace h := h.1 c
          exact zv_go (k_X5_make_93 hC hR  h) ⟨rfl, trivial⟩
        · replace h := h.2 c
          exact zv_go (k_X5_make_84 hC hR  h) ⟨rfl, rfl, rfl, trivial⟩
  · replace h := h.2 c
    refine zv_bipush (v := (-3)) hC dX5_make_9 (by decide) ?_
    exact (hR _ _ _).1 _ rfl dX5_make_11 ⟨_, rfl, h⟩
theorem ok_X5_make (G : zv_G) {Q : Int32 → zv_St → Prop} {x1 : Int32} {x2 : Int32} {x3 : Int32} {σ : zv_St} (h : B_X5_make Q x1 x2 x3 σ) : zv_OK G M_X5_make yX5_make [.ref (G.2.2.1 5), .int x1, .int x2, .int x3] σ (zv_qi Q) := zv_ok G _ _ _ _ _ (by decide +kernel) rfl (Nat.le_of_ble_eq_true rfl) (fun X hC hR => zv_go (k_X5_make_0 hC hR h) ⟨rfl, rfl, rfl, rfl, trivial⟩)
-- X10_node
def B_X10_node_41 (Q : Int32 → zv_St → Prop) (y1 : Int32) (y2 : Int32) (y3 : Int32) (σ : zv_St) : Prop :=
  B_X5_make (fun r_2 σ_1 => Q r_2 σ_1) y1 y2 y3 σ
set_option maxRecDepth 20000 in
set_option maxHeartbeats 2000000 in
theorem k_X10_node_41 {G : zv_G} {X : zv_X} {Q : Int32 → zv_St → Prop}  (hC : zv_C G X M_X10_node) (hR : zv_R G X M_X10_node (zv_qi Q))  {y1 : Int32} {y2 : Int32} {y3 : Int32} {σ : zv_St} (h : B_X10_node_41 Q  y1 y2 y3 σ) : zv_V G X M_X10_node 41 [] [.int y3, .int y2, .int y1, .ref (G.2.2.1 5)] σ := by
  unfold B_X10_node_41 at h
  refine zv_callVi (As := [_, _, _]) hC dX10_node_41 Y_X5_make lk_X10_114 (by decide) rfl rfl rfl (Nat.le_of_ble_eq_true rfl) (ok_X5_make G h) ?_
  intro r_2 σ_1 h
  exact (hR _ _ _).1 _ rfl dX10_node_44 ⟨_, rfl, h⟩
def B_X10_node_29 (Q : Int32 → zv_St → Prop) (x1 : Int32) (x3 : Int32) (y1 : Int32) (y2 : Int32) (σ : zv_St) : Prop :=
  B_X10_hasSecondNumber (fun r_2 σ_1 => (r_2 = 0 → (B_X10_node_41 Q y1 y2 0 σ_1)) ∧ (¬ r_2 = 0 → (B_X10_node_41 Q y1 y2 x3 σ_1))) x1 σ
set_option maxRecDepth 20000 in
set_option maxHeartbeats 2000000 in
theorem k_X10_node_29 {G : zv_G} {X : zv_X} {Q : Int32 → zv_St → Prop}  (hC : zv_C G X M_X10_node) (hR : zv_R G X M_X10_node (zv_qi Q))  {x1 : Int32} {x3 : Int32} {y1 : Int32} {y2 : Int32} {σ : zv_St} (h : B_X10_node_29 Q  x1 x3 y1 y2 σ) : zv_V G X M_X10_node 29 [(1, .int x1), (3, .int x3)] [.int y2, .int y1, .ref (G.2.2.1 5)] σ := by
  unfold B_X10_node_29 at h
  refine zv_iload_n hC dX10_node_29 rfl ?_
  refine zv_callSi (As := [_]) hC dX10_node_30 Y_X10_hasSecondNumber lk_X10_111 (by decide) rfl rfl (Nat.le_of_ble_eq_true rfl) (ok_X10_hasSecondNumber G h) ?_
  intro r_2 σ_1 h
  refine zv_if_eq (tgt := 40) hC dX10_node_33 (by decide) (fun c => ?_) (fun c => ?_)
  · replace h := h.1 c
    refine zv_iconst (v := 0) hC dX10_node_40 (by decide) ?_
    exact zv_go (k_X10_node_41 hC hR  h) trivial
  · replace h := h.2 c
    refine zv_iload_n hC dX10_node_36 rfl ?_
    refine zv_goto (tgt := 41) hC dX10_node_37 (by decide) ?_
    exact zv_go (k_X10_node_41 hC hR  h) trivial
def B_X10_node (Q : Int32 → zv_St → Prop) (x1 : Int32) (x2 : Int32) (x3 : Int32) (σ : zv_St) : Prop :=
  B_X10_areNumbersOf (fun r_2 σ_1 => (¬ r_2 = 0 → ((¬ x1 = 7 → (B_X10_node_29 Q x1 x3 x1 x2 σ_1)) ∧ (x1 = 7 → (B_X10_node_29 Q x1 x3 x1 0 σ_1)))) ∧ (r_2 = 0 → (Q (-2) σ_1))) x1 x2 x3 σ
set_option maxRecDepth 20000 in
set_option maxHeartbeats 2000000 in
theorem k_X10_node_0 {G : zv_G} {X : zv_X} {Q : Int32 → zv_St → Prop}  (hC : zv_C G X M_X10_node) (hR : zv_R G X M_X10_node (zv_qi Q))  {x1 : Int32} {x2 : Int32} {x3 : Int32} {σ : zv_St} (h : B_X10_node Q  x1 x2 x3 σ) : zv_V G X M_X10_node 0 [(0, .ref (G.2.2.1 0)), (1, .int x1), (2, .int x2), (3, .int x3)] [] σ := by
  unfold B_X10_node at h
  refine zv_aload_n hC dX10_node_0 rfl ?_
  refine zv_iload_n hC dX10_node_1 rfl ?_
  refine zv_iload_n hC dX10_node_2 rfl ?_
  refine zv_iload_n hC dX10_node_3 rfl ?_
  refine zv_callVi (As := [_, _, _]) hC dX10_node_4 Y_X10_areNumbersOf lk_X10_108 (by decide) rfl rfl rfl (Nat.le_of_ble_eq_true rfl) (ok_X10_areNumbersOf G h) ?_
  intro r_2 σ_1 h
  refine zv_if_ne (tgt := 13) hC dX10_node_7 (by decide) (fun c => ?_) (fun c => ?_)
  · replace h := h.1 c
    refine zv_aload_n hC dX10_node_13 rfl ?_
    refine zv_getR (j := 5) hC fl_X10_19 dX10_node_14 rfl rfl ?_
    refine zv_iload_n hC dX10_node_17 rfl ?_
    refine zv_iload_n hC dX10_node_18 rfl ?_
    refine zv_bipush (v := 7) hC dX10_node_19 (by decide) ?_
    refine zv_icmp_ne (tgt := 28) hC dX10_node_21 (by decide) (fun c => ?_) (fun c => ?_)
    · replace h := h.1 c
      refine zv_iload_n hC dX10_node_28 rfl ?_
      exact zv_go (k_X10_node_29 hC hR  h) ⟨rfl, rfl, trivial⟩
    · replace h := h.2 c
      refine zv_iconst (v := 0) hC dX10_node_24 (by decide) ?_
      refine zv_goto (tgt := 29) hC dX10_node_25 (by decide) ?_
      exact zv_go (k_X10_node_29 hC hR  h) ⟨rfl, rfl, trivial⟩
  · replace h := h.2 c
    refine zv_bipush (v := (-2)) hC dX10_node_10 (by decide) ?_
    exact (hR _ _ _).1 _ rfl dX10_node_12 ⟨_, rfl, h⟩
theorem ok_X10_node (G : zv_G) {Q : Int32 → zv_St → Prop} {x1 : Int32} {x2 : Int32} {x3 : Int32} {σ : zv_St} (h : B_X10_node Q x1 x2 x3 σ) : zv_OK G M_X10_node yX10_node [.ref (G.2.2.1 0), .int x1, .int x2, .int x3] σ (zv_qi Q) := zv_ok G _ _ _ _ _ (by decide +kernel) rfl (Nat.le_of_ble_eq_true rfl) (fun X hC hR => zv_go (k_X10_node_0 hC hR h) ⟨rfl, rfl, rfl, rfl, trivial⟩)
-- X5_kind
def B_X5_kind (Q : Int32 → zv_St → Prop) (x1 : Int32) (σ : zv_St) : Prop :=
  vp_in x1 80 ∧ Q (σ.1 6 x1.toNatClampNeg) σ
set_option maxRecDepth 20000 in
set_option maxHeartbeats 2000000 in
theorem k_X5_kind_0 {G : zv_G} {X : zv_X} {Q : Int32 → zv_St → Prop}  (hC : zv_C G X M_X5_kind) (hR : zv_R G X M_X5_kind (zv_qi Q))  {x1 : Int32} {σ : zv_St} (h : B_X5_kind Q  x1 σ) : zv_V G X M_X5_kind 0 [(0, .ref (G.2.2.1 5)), (1, .int x1)] [] σ := by
  unfold B_X5_kind at h
  refine zv_aload_n hC dX5_kind_0 rfl ?_
  refine zv_getR (j := 6) hC fl_X5_9 dX5_kind_1 rfl rfl ?_
  refine zv_iload_n hC dX5_kind_4 rfl ?_
  refine zv_iald hC dX5_kind_5 rfl h.1 ?_
  replace h := h.2
  exact (hR _ _ _).1 _ rfl dX5_kind_6 ⟨_, rfl, h⟩
theorem ok_X5_kind (G : zv_G) {Q : Int32 → zv_St → Prop} {x1 : Int32} {σ : zv_St} (h : B_X5_kind Q x1 σ) : zv_OK G M_X5_kind yX5_kind [.ref (G.2.2.1 5), .int x1] σ (zv_qi Q) := zv_ok G _ _ _ _ _ (by decide +kernel) rfl (Nat.le_of_ble_eq_true rfl) (fun X hC hR => zv_go (k_X5_kind_0 hC hR h) ⟨rfl, rfl, trivial⟩)
-- X10_isRoleOf
def B_X10_isRoleOf_28 (Q : Int32 → zv_St → Prop) (y0 : Int32) (σ : zv_St) : Prop :=
  narrow .boolean (.int y0) = .int y0 ∧ Q y0 σ
set_option maxRecDepth 20000 in
set_option maxHeartbeats 2000000 in
theorem k_X10_isRoleOf_28 {G : zv_G} {X : zv_X} {Q : Int32 → zv_St → Prop}  (hC : zv_C G X M_X10_isRoleOf) (hR : zv_R G X M_X10_isRoleOf (zv_qi Q))  {y0 : Int32} {σ : zv_St} (h : B_X10_isRoleOf_28 Q  y0 σ) : zv_V G X M_X10_isRoleOf 28 [] [.int y0] σ := by
  unfold B_X10_isRoleOf_28 at h
  exact (hR _ _ _).2.1 _ rfl h.1 dX10_isRoleOf_28 ⟨_, rfl, h.2⟩
def B_X10_isRoleOf_27 (Q : Int32 → zv_St → Prop) (σ : zv_St) : Prop :=
  B_X10_isRoleOf_28 Q 0 σ
set_option maxRecDepth 20000 in
set_option maxHeartbeats 2000000 in
theorem k_X10_isRoleOf_27 {G : zv_G} {X : zv_X} {Q : Int32 → zv_St → Prop}  (hC : zv_C G X M_X10_isRoleOf) (hR : zv_R G X M_X10_isRoleOf (zv_qi Q))   {σ : zv_St} (h : B_X10_isRoleOf_27 Q   σ) : zv_V G X M_X10_isRoleOf 27 [] [] σ := by
  unfold B_X10_isRoleOf_27 at h
  refine zv_iconst (v := 0) hC dX10_isRoleOf_27 (by decide) ?_
  exact zv_go (k_X10_isRoleOf_28 hC hR  h) trivial
def B_X10_isRoleOf_23 (Q : Int32 → zv_St → Prop) (σ : zv_St) : Prop :=
  B_X10_isRoleOf_28 Q 1 σ
set_option maxRecDepth 20000 in
set_option maxHeartbeats 2000000 in
theorem k_X10_isRoleOf_23 {G : zv_G} {X : zv_X} {Q : Int32 → zv_St → Prop}  (hC : zv_C G X M_X10_isRoleOf) (hR : zv_R G X M_X10_isRoleOf (zv_qi Q))   {σ : zv_St} (h : B_X10_isRoleOf_23 Q   σ) : zv_V G X M_X10_isRoleOf 23 [] [] σ := by
  unfold B_X10_isRoleOf_23 at h
  refine zv_iconst (v := 1) hC dX10_isRoleOf_23 (by decide) ?_
  refine zv_goto (tgt := 28) hC dX10_isRoleOf_24 (by decide) ?_
  exact zv_go (k_X10_isRoleOf_28 hC hR  h) trivial
def B_X10_isRoleOf_13 (Q : Int32 → zv_St → Prop) (x0 : Int32) (x1 : Int32) (σ : zv_St) : Prop :=
  (¬ x0 = 3 → (B_X10_isRoleOf_27 Q σ)) ∧ (x0 = 3 → ((¬ x1 = 3 → (B_X10_isRoleOf_27 Q σ)) ∧ (x1 = 3 → (B_X10_isRoleOf_23 Q σ))))
set_option maxRecDepth 20000 in
set_option maxHeartbeats 2000000 in
theorem k_X10_isRoleOf_13 {G : zv_G} {X : zv_X} {Q : Int32 → zv_St → Prop}  (hC : zv_C G X M_X10_isRoleOf) (hR : zv_R G X M_X10_isRoleOf (zv_qi Q))  {x0 : Int32} {x1 : Int32} {σ : zv_St} (h : B_X10_isRoleOf_13 Q  x0 x1 σ) : zv_V G X M_X10_isRoleOf 13 [(0, .int x0), (1, .int x1)] [] σ := by
  unfold B_X10_isRoleOf_13 at h
  refine zv_iload_n hC dX10_isRoleOf_13 rfl ?_
  refine zv_iconst (v := 3) hC dX10_isRoleOf_14 (by decide) ?_
  refine zv_icmp_ne (tgt := 27) hC dX10_isRoleOf_15 (by decide) (fun c => ?_) (fun c => ?_)
  · replace h := h.1 c
    exact zv_go (k_X10_isRoleOf_27 hC hR  h) trivial
  · replace h := h.2 c
    refine zv_iload_n hC dX10_isRoleOf_18 rfl ?_
    refine zv_iconst (v := 3) hC dX10_isRoleOf_19 (by decide) ?_
    refine zv_icmp_ne (tgt := 27) hC dX10_isRoleOf_20 (by decide) (fun c => ?_) (fun c => ?_)
    · replace h := h.1 c
      exact zv_go (k_X10_isRoleOf_27 hC hR  h) trivial
    · replace h := h.2 c
      exact zv_go (k_X10_isRoleOf_23 hC hR  h) trivial
def B_X10_isRoleOf (Q : Int32 → zv_St → Prop) (x0 : Int32) (x1 : Int32) (σ : zv_St) : Prop :=
  (¬ x0 = 2 → (B_X10_isRoleOf_13 Q x0 x1 σ)) ∧ (x0 = 2 → (B_X10_isWithin (fun r_2 σ_1 => (¬ r_2 = 0 → (B_X10_isRoleOf_23 Q σ_1)) ∧ (r_2 = 0 → (B_X10_isRoleOf_13 Q x0 x1 σ_1))) x1 3 σ))
set_option maxRecDepth 20000 in
set_option maxHeartbeats 2000000 in
theorem k_X10_isRoleOf_0 {G : zv_G} {X : zv_X} {Q : Int32 → zv_St → Prop}  (hC : zv_C G X M_X10_isRoleOf) (hR : zv_R G X M_X10_isRoleOf (zv_qi Q))  {x0 : Int32} {x1 : Int32} {σ : zv_St} (h : B_X10_isRoleOf Q  x0 x1 σ) : zv_V G X M_X10_isRoleOf 0 [(0, .int x0), (1, .int x1)] [] σ := by
  unfold B_X10_isRoleOf at h
  refine zv_iload_n hC dX10_isRoleOf_0 rfl ?_
  refine zv_iconst (v := 2) hC dX10_isRoleOf_1 (by decide) ?_
  refine zv_icmp_ne (tgt := 13) hC dX10_isRoleOf_2 (by decide) (fun c => ?_) (fun c => ?_)
  · replace h := h.1 c
    exact zv_go (k_X10_isRoleOf_13 hC hR  h) ⟨rfl, rfl, trivial⟩
  · replace h := h.2 c
    refine zv_iload_n hC dX10_isRoleOf_5 rfl ?_
    refine zv_iconst (v := 3) hC dX10_isRoleOf_6 (by decide) ?_
    refine zv_callSi (As := [_, _]) hC dX10_isRoleOf_7 Y_X10_isWithin lk_X10_81 (by decide) rfl rfl (Nat.le_of_ble_eq_true rfl) (ok_X10_isWithin G h) ?_
    intro r_2 σ_1 h
    refine zv_if_ne (tgt := 23) hC dX10_isRoleOf_10 (by decide) (fun c => ?_) (fun c => ?_)
    · replace h := h.1 c
      exact zv_go (k_X10_isRoleOf_23 hC hR  h) trivial
    · replace h := h.2 c
      exact zv_go (k_X10_isRoleOf_13 hC hR  h) ⟨rfl, rfl, trivial⟩
theorem ok_X10_isRoleOf (G : zv_G) {Q : Int32 → zv_St → Prop} {x0 : Int32} {x1 : Int32} {σ : zv_St} (h : B_X10_isRoleOf Q x0 x1 σ) : zv_OK G M_X10_isRoleOf yX10_isRoleOf [.int x0, .int x1] σ (zv_qi Q) := zv_ok G _ _ _ _ _ (by decide +kernel) rfl (Nat.le_of_ble_eq_true rfl) (fun X hC hR => zv_go (k_X10_isRoleOf_0 hC hR h) ⟨rfl, rfl, trivial⟩)
-- X9_dropThoseAbove
def B_X9_dropThoseAbove_65 (Q : zv_St → Prop) (kk2 : Int32 → Int32 → zv_St → Prop) (x1 : Int32) (x2 : Int32) (y1 : Int32) (y2 : Int32) (σ : zv_St) : Prop :=
  vp_in y1 80 ∧ ∀ σ_1 : zv_St, σ_1 = zv_wi σ 16 y1.toNatClampNeg (vp_nar .boolean y2) → kk2 x1 (x2 + 1) σ_1
set_option maxRecDepth 20000 in
set_option maxHeartbeats 2000000 in
theorem k_X9_dropThoseAbove_65 {G : zv_G} {X : zv_X} {Q : zv_St → Prop} {kk2 : Int32 → Int32 → zv_St → Prop} (hC : zv_C G X M_X9_dropThoseAbove) (hR : zv_R G X M_X9_dropThoseAbove (zv_qv Q)) (hk2 : ∀ (x1 : Int32) (x2 : Int32) (σ : zv_St), kk2 x1 x2 σ → zv_V G X M_X9_dropThoseAbove 2 [(0, .ref (G.2.2.1 13)), (1, .int x1), (2, .int x2)] [] σ) {x1 : Int32} {x2 : Int32} {y1 : Int32} {y2 : Int32} {σ : zv_St} (h : B_X9_dropThoseAbove_65 Q kk2 x1 x2 y1 y2 σ) : zv_V G X M_X9_dropThoseAbove 65 [(0, .ref (G.2.2.1 13)), (1, .int x1), (2, .int x2)] [.int y2, .int y1, .ref (G.2.2.1 16)] σ := by
  unfold B_X9_dropThoseAbove_65 at h
  refine zv_zast hC dX9_dropThoseAbove_65 rfl h.1 ?_
  replace h := h.2 _ rfl
  refine zv_iinc (v := 1) hC dX9_dropThoseAbove_66 rfl (by decide) (by decide) ?_
  refine zv_goto (tgt := 2) hC dX9_dropThoseAbove_69 (by decide) ?_
  exact zv_go (hk2 _ _ _ h) ⟨rfl, rfl, rfl, trivial⟩
def B_X9_dropThoseAbove_64 (Q : zv_St → Prop) (kk2 : Int32 → Int32 → zv_St → Prop) (x1 : Int32) (x2 : Int32) (y1 : Int32) (σ : zv_St) : Prop :=
  B_X9_dropThoseAbove_65 Q kk2 x1 x2 y1 0 σ
set_option maxRecDepth 20000 in
set_option maxHeartbeats 2000000 in
theorem k_X9_dropThoseAbove_64 {G : zv_G} {X : zv_X} {Q : zv_St → Prop} {kk2 : Int32 → Int32 → zv_St → Prop} (hC : zv_C G X M_X9_dropThoseAbove) (hR : zv_R G X M_X9_dropThoseAbove (zv_qv Q)) (hk2 : ∀ (x1 : Int32) (x2 : Int32) (σ : zv_St), kk2 x1 x2 σ → zv_V G X M_X9_dropThoseAbove 2 [(0, .ref (G.2.2.1 13)), (1, .int x1), (2, .int x2)] [] σ) {x1 : Int32} {x2 : Int32} {y1 : Int32} {σ : zv_St} (h : B_X9_dropThoseAbove_64 Q kk2 x1 x2 y1 σ) : zv_V G X M_X9_dropThoseAbove 64 [(0, .ref (G.2.2.1 13)), (1, .int x1), (2, .int x2)] [.int y1, .ref (G.2.2.1 16)] σ := by
  unfold B_X9_dropThoseAbove_64 at h
  refine zv_iconst (v := 0) hC dX9_dropThoseAbove_64 (by decide) ?_
  exact zv_go (k_X9_dropThoseAbove_65 hC hR hk2 h) ⟨rfl, rfl, rfl, trivial⟩
def B_X9_dropThoseAbove_36 (Q : zv_St → Prop) (kk2 : Int32 → Int32 → zv_St → Prop) (x1 : Int32) (x2 : Int32) (y1 : Int32) (y2 : Int32) (σ : zv_St) : Prop :=
  vp_in y1 80 ∧ ∀ σ_1 : zv_St, σ_1 = zv_wi σ 18 y1.toNatClampNeg (vp_nar .boolean y2) → vp_in x2 80 ∧ ((σ_1.1 16 x2.toNatClampNeg) = 0 → (B_X9_dropThoseAbove_64 Q kk2 x1 x2 x2 σ_1)) ∧ (¬ (σ_1.1 16 x2.toNatClampNeg) = 0 → (vp_in x2 80 ∧ (¬ (σ_1.1 18 x2.toNatClampNeg) = 0 → (B_X9_dropThoseAbove_64 Q kk2 x1 x2 x2 σ_1)) ∧ ((σ_1.1 18 x2.toNatClampNeg) = 0 → (B_X9_dropThoseAbove_65 Q kk2 x1 x2 x2 1 σ_1))))
set_option maxRecDepth 20000 in
set_option maxHeartbeats 2000000 in
theorem k_X9_dropThoseAbove_36 {G : zv_G} {X : zv_X} {Q : zv_St → Prop} {kk2 : Int32 → Int32 → zv_St → Prop} (hC : zv_C G X M_X9_dropThoseAbove) (hR : zv_R G X M_X9_dropThoseAbove (zv_qv Q)) (hk2 : ∀ (x1 : Int32) (x2 : Int32) (σ : zv_St), kk2 x1 x2 σ → zv_V G X M_X9_dropThoseAbove 2 [(0, .ref (G.2.2.1 13)), (1, .int x1), (2, .int x2)] [] σ) {x1 : Int32} {x2 : Int32} {y1 : Int32} {y2 : Int32} {σ : zv_St} (h : B_X9_dropThoseAbove_36 Q kk2 x1 x2 y1 y2 σ) : zv_V G X M_X9_dropThoseAbove 36 [(0, .ref (G.2.2.1 13)), (1, .int x1), (2, .int x2)] [.int y2, .int y1, .ref (G.2.2.1 18)] σ := by
  unfold B_X9_dropThoseAbove_36 at h
  refine zv_zast hC dX9_dropThoseAbove_36 rfl h.1 ?_
  replace h := h.2 _ rfl
  refine zv_aload_n hC dX9_dropThoseAbove_37 rfl ?_
  refine zv_getR (j := 16) hC fl_X9_18 dX9_dropThoseAbove_38 rfl rfl ?_
  refine zv_iload_n hC dX9_dropThoseAbove_41 rfl ?_
  refine zv_aload_n hC dX9_dropThoseAbove_42 rfl ?_
  refine zv_getR (j := 16) hC fl_X9_18 dX9_dropThoseAbove_43 rfl rfl ?_
  refine zv_iload_n hC dX9_dropThoseAbove_46 rfl ?_
  refine zv_zald hC dX9_dropThoseAbove_47 rfl h.1 ?_
  replace h := h.2
  refine zv_if_eq (tgt := 64) hC dX9_dropThoseAbove_48 (by decide) (fun c => ?_) (fun c => ?_)
  · replace h := h.1 c
    exact zv_go (k_X9_dropThoseAbove_64 hC hR hk2 h) ⟨rfl, rfl, rfl, trivial⟩
  · replace h := h.2 c
    refine zv_aload_n hC dX9_dropThoseAbove_51 rfl ?_
    refine zv_getR (j := 18) hC fl_X9_26 dX9_dropThoseAbove_52 rfl rfl ?_
    refine zv_iload_n hC dX9_dropThoseAbove_55 rfl ?_
    refine zv_zald hC dX9_dropThoseAbove_56 rfl h.1 ?_
    replace h := h.2
    refine zv_if_ne (tgt := 64) hC dX9_dropThoseAbove_57 (by decide) (fun c => ?_) (fun c => ?_)
    · replace h := h.1 c
      exact zv_go (k_X9_dropThoseAbove_64 hC hR hk2 h) ⟨rfl, rfl, rfl, trivial⟩
    · replace h := h.2 c
      refine zv_iconst (v := 1) hC dX9_dropThoseAbove_60 (by decide) ?_
      refine zv_goto (tgt := 65) hC dX9_dropThoseAbove_61 (by decide) ?_
      exact zv_go (k_X9_dropThoseAbove_65 hC hR hk2 h) ⟨rfl, rfl, rfl, trivial⟩
def B_X9_dropThoseAbove_31 (Q : zv_St → Prop) (kk2 : Int32 → Int32 → zv_St → Prop) (x1 : Int32) (x2 : Int32) (y1 : Int32) (σ : zv_St) : Prop :=
  B_X9_dropThoseAbove_36 Q kk2 x1 x2 y1 1 σ
set_option maxRecDepth 20000 in
set_option maxHeartbeats 2000000 in
theorem k_X9_dropThoseAbove_31 {G : zv_G} {X : zv_X} {Q : zv_St → Prop} {kk2 : Int32 → Int32 → zv_St → Prop} (hC : zv_C G X M_X9_dropThoseAbove) (hR : zv_R G X M_X9_dropThoseAbove (zv_qv Q)) (hk2 : ∀ (x1 : Int32) (x2 : Int32) (σ : zv_St), kk2 x1 x2 σ → zv_V G X M_X9_dropThoseAbove 2 [(0, .ref (G.2.2.1 13)), (1, .int x1), (2, .int x2)] [] σ) {x1 : Int32} {x2 : Int32} {y1 : Int32} {σ : zv_St} (h : B_X9_dropThoseAbove_31 Q kk2 x1 x2 y1 σ) : zv_V G X M_X9_dropThoseAbove 31 [(0, .ref (G.2.2.1 13)), (1, .int x1), (2, .int x2)] [.int y1, .ref (G.2.2.1 18)] σ := by
  unfold B_X9_dropThoseAbove_31 at h
  refine zv_iconst (v := 1) hC dX9_dropThoseAbove_31 (by decide) ?_
  refine zv_goto (tgt := 36) hC dX9_dropThoseAbove_32 (by decide) ?_
  exact zv_go (k_X9_dropThoseAbove_36 hC hR hk2 h) ⟨rfl, rfl, rfl, trivial⟩
def L_X9_dropThoseAbove_2 (Q : zv_St → Prop) : Nat → (Int32 → Int32 → zv_St → Prop)
  | 0 => fun _ _ _ => False
  | u + 1 => fun x1 x2 σ => 
    B_X5_count (fun r_2 σ_1 => (r_2 ≤ x2 → (Q σ_1)) ∧ (¬ r_2 ≤ x2 → ((x2 = x1 → (B_X9_dropThoseAbove_31 Q (L_X9_dropThoseAbove_2 Q u) x1 x2 x2 σ_1)) ∧ (¬ x2 = x1 → (B_X9_touchesByParts (fun r_4 σ_3 => (r_4 = 0 → (B_X9_dropThoseAbove_36 Q (L_X9_dropThoseAbove_2 Q u) x1 x2 x2 0 σ_3)) ∧ (¬ r_4 = 0 → (B_X9_dropThoseAbove_31 Q (L_X9_dropThoseAbove_2 Q u) x1 x2 x2 σ_3))) x2 σ_1))))) σ
set_option maxRecDepth 20000 in
set_option maxHeartbeats 2000000 in
theorem kL_X9_dropThoseAbove_2 {G : zv_G} {X : zv_X} {Q : zv_St → Prop}  (hC : zv_C G X M_X9_dropThoseAbove) (hR : zv_R G X M_X9_dropThoseAbove (zv_qv Q))  : ∀ (n : Nat) (x1 : Int32) (x2 : Int32) (σ : zv_St), L_X9_dropThoseAbove_2 Q  n x1 x2 σ → zv_V G X M_X9_dropThoseAbove 2 [(0, .ref (G.2.2.1 13)), (1, .int x1), (2, .int x2)] [] σ := by
  intro n
  induction n with
  | zero => intro x1 x2 σ h; exact h.elim
  | succ n hk2 =>
    intro x1 x2 σ h
    unfold L_X9_dropThoseAbove_2 at h
    refine zv_iload_n hC dX9_dropThoseAbove_2 rfl ?_
    refine zv_aload_n hC dX9_dropThoseAbove_3 rfl ?_
    refine zv_getR (j := 5) hC fl_X9_29 dX9_dropThoseAbove_4 rfl rfl ?_
    refine zv_callVi (As := []) hC dX9_dropThoseAbove_7 Y_X5_count lk_X9_41 (by decide) rfl rfl rfl (Nat.le_of_ble_eq_true rfl) (ok_X5_count G h) ?_
    intro r_2 σ_1 h
    refine zv_icmp_ge (tgt := 72) hC dX9_dropThoseAbove_10 (by decide) (fun c => ?_) (fun c => ?_)
    · replace h := h.1 c
      exact (hR _ _ _).2.2.2.1 rfl dX9_dropThoseAbove_72 ⟨rfl, h⟩
    · replace h := h.2 c
      refine zv_aload_n hC dX9_dropThoseAbove_13 rfl ?_
      refine zv_getR (j := 18) hC fl_X9_26 dX9_dropThoseAbove_14 rfl rfl ?_
      refine zv_iload_n hC dX9_dropThoseAbove_17 rfl ?_
      refine zv_iload_n hC dX9_dropThoseAbove_18 rfl ?_
      refine zv_iload_n hC dX9_dropThoseAbove_19 rfl ?_
      refine zv_icmp_eq (tgt := 31) hC dX9_dropThoseAbove_20 (by decide) (fun c => ?_) (fun c => ?_)
      · replace h := h.1 c
        exact zv_go (k_X9_dropThoseAbove_31 hC hR hk2 h) ⟨rfl, rfl, rfl, trivial⟩
      · replace h := h.2 c
        refine zv_aload_n hC dX9_dropThoseAbove_23 rfl ?_
        refine zv_iload_n hC dX9_dropThoseAbove_24 rfl ?_
        refine zv_callVi (As := [_]) hC dX9_dropThoseAbove_25 Y_X9_touchesByParts lk_X9_47 (by decide) rfl rfl rfl (Nat.le_of_ble_eq_true rfl) (ok_X9_touchesByParts G h) ?_
        intro r_4 σ_3 h
        refine zv_if_eq (tgt := 35) hC dX9_dropThoseAbove_28 (by decide) (fun c => ?_) (fun c => ?_)
        · replace h := h.1 c
          refine zv_iconst (v := 0) hC dX9_dropThoseAbove_35 (by decide) ?_
          exact zv_go (k_X9_dropThoseAbove_36 hC hR hk2 h) ⟨rfl, rfl, rfl, trivial⟩
        · replace h := h.2 c
          exact zv_go (k_X9_dropThoseAbove_31 hC hR hk2 h) ⟨rfl, rfl, rfl, trivial⟩
def B_X9_dropThoseAbove (Q : zv_St → Prop) (x1 : Int32) (σ : zv_St) : Prop :=
  ∃ n2, L_X9_dropThoseAbove_2 Q n2 x1 0 σ
set_option maxRecDepth 20000 in
set_option maxHeartbeats 2000000 in
theorem k_X9_dropThoseAbove_0 {G : zv_G} {X : zv_X} {Q : zv_St → Prop}  (hC : zv_C G X M_X9_dropThoseAbove) (hR : zv_R G X M_X9_dropThoseAbove (zv_qv Q))  {x1 : Int32} {σ : zv_St} (h : B_X9_dropThoseAbove Q  x1 σ) : zv_V G X M_X9_dropThoseAbove 0 [(0, .ref (G.2.2.1 13)), (1, .int x1)] [] σ := by
  unfold B_X9_dropThoseAbove at h
  refine zv_iconst (v := 0) hC dX9_dropThoseAbove_0 (by decide) ?_
  refine zv_istore_n hC dX9_dropThoseAbove_1 (by decide) ?_
  obtain ⟨n, h⟩ := h
  exact zv_go (kL_X9_dropThoseAbove_2 hC hR  n _ _ _ h) ⟨rfl, rfl, rfl, trivial⟩
theorem ok_X9_dropThoseAbove (G : zv_G) {Q : zv_St → Prop} {x1 : Int32} {σ : zv_St} (h : B_X9_dropThoseAbove Q x1 σ) : zv_OK G M_X9_dropThoseAbove yX9_dropThoseAbove [.ref (G.2.2.1 13), .int x1] σ (zv_qv Q) := zv_ok G _ _ _ _ _ (by decide +kernel) rfl (Nat.le_of_ble_eq_true rfl) (fun X hC hR => zv_go (k_X9_dropThoseAbove_0 hC hR h) ⟨rfl, rfl, trivial⟩)
-- X10_part
def B_X10_part_35 (Q : Int32 → zv_St → Prop) (σ : zv_St) : Prop :=
  Q (-2) σ
set_option maxRecDepth 20000 in
set_option maxHeartbeats 2000000 in
theorem k_X10_part_35 {G : zv_G} {X : zv_X} {Q : Int32 → zv_St → Prop}  (hC : zv_C G X M_X10_part) (hR : zv_R G X M_X10_part (zv_qi Q))   {σ : zv_St} (h : B_X10_part_35 Q   σ) : zv_V G X M_X10_part 35 [] [] σ := by
  unfold B_X10_part_35 at h
  refine zv_bipush (v := (-2)) hC dX10_part_35 (by decide) ?_
  exact (hR _ _ _).1 _ rfl dX10_part_37 ⟨_, rfl, h⟩
def B_X10_part (Q : Int32 → zv_St → Prop) (x1 : Int32) (x2 : Int32) (x3 : Int32) (σ : zv_St) : Prop :=
  B_X5_has (fun r_2 σ_1 => (r_2 = 0 → (B_X10_part_35 Q σ_1)) ∧ (¬ r_2 = 0 → (B_X5_kind (fun r_4 σ_3 => B_X10_isRoleOf (fun r_6 σ_5 => (r_6 = 0 → (B_X10_part_35 Q σ_5)) ∧ (¬ r_6 = 0 → ((x3 < 0 → (B_X10_part_35 Q σ_5)) ∧ (¬ x3 < 0 → ((x3 < x1 → (B_X5_add (fun r_8 σ_7 => (¬ r_8 = 0 → (B_X9_dropThoseAbove (fun σ_9 => B_X0_forgetFrom (fun σ_10 => B_X5_size (fun r_12 σ_11 => Q r_12 σ_11) x1 σ_10) x1 σ_9) x1 σ_7)) ∧ (r_8 = 0 → (Q (-3) σ_7))) x1 x2 x3 σ_5)) ∧ (¬ x3 < x1 → (B_X10_part_35 Q σ_5))))))) r_4 x2 σ_3) x1 σ_1))) x1 σ
set_option maxRecDepth 20000 in
set_option maxHeartbeats 2000000 in
theorem k_X10_part_0 {G : zv_G} {X : zv_X} {Q : Int32 → zv_St → Prop}  (hC : zv_C G X M_X10_part) (hR : zv_R G X M_X10_part (zv_qi Q))  {x1 : Int32} {x2 : Int32} {x3 : Int32} {σ : zv_St} (h : B_X10_part Q  x1 x2 x3 σ) : zv_V G X M_X10_part 0 [(0, .ref (G.2.2.1 0)), (1, .int x1), (2, .int x2), (3, .int x3)] [] σ := by
  unfold B_X10_part at h
  refine zv_aload_n hC dX10_part_0 rfl ?_
  refine zv_getR (j := 5) hC fl_X10_19 dX10_part_1 rfl rfl ?_
  refine zv_iload_n hC dX10_part_4 rfl ?_
  refine zv_callVi (As := [_]) hC dX10_part_5 Y_X5_has lk_X10_118 (by decide) rfl rfl rfl (Nat.le_of_ble_eq_true rfl) (ok_X5_has G h) ?_
  intro r_2 σ_1 h
  refine zv_if_eq (tgt := 35) hC dX10_part_8 (by decide) (fun c => ?_) (fun c => ?_)
  · replace h := h.1 c
    exact zv_go (k_X10_part_35 hC hR  h) trivial
  · replace h := h.2 c
    refine zv_aload_n hC dX10_part_11 rfl ?_
    refine zv_getR (j := 5) hC fl_X10_19 dX10_part_12 rfl rfl ?_
    refine zv_iload_n hC dX10_part_15 rfl ?_
    refine zv_callVi (As := [_]) hC dX10_part_16 Y_X5_kind lk_X10_121 (by decide) rfl rfl rfl (Nat.le_of_ble_eq_true rfl) (ok_X5_kind G h) ?_
    intro r_4 σ_3 h
    refine zv_iload_n hC dX10_part_19 rfl ?_
    refine zv_callSi (As := [_, _]) hC dX10_part_20 Y_X10_isRoleOf lk_X10_124 (by decide) rfl rfl (Nat.le_of_ble_eq_true rfl) (ok_X10_isRoleOf G h) ?_
    intro r_6 σ_5 h
    refine zv_if_eq (tgt := 35) hC dX10_part_23 (by decide) (fun c => ?_) (fun c => ?_)
    · replace h := h.1 c
      exact zv_go (k_X10_part_35 hC hR  h) trivial
    · replace h := h.2 c
      refine zv_iload_n hC dX10_part_26 rfl ?_
      refine zv_if_lt (tgt := 35) hC dX10_part_27 (by decide) (fun c => ?_) (fun c => ?_)
      · replace h := h.1 c
        exact zv_go (k_X10_part_35 hC hR  h) trivial
      · replace h := h.2 c
        refine zv_iload_n hC dX10_part_30 rfl ?_
        refine zv_iload_n hC dX10_part_31 rfl ?_
        refine zv_icmp_lt (tgt := 38) hC dX10_part_32 (by decide) (fun c => ?_) (fun c => ?_)
        · replace h := h.1 c
          refine zv_aload_n hC dX10_part_38 rfl ?_
          refine zv_getR (j := 5) hC fl_X10_19 dX10_part_39 rfl rfl ?_
          refine zv_iload_n hC dX10_part_42 rfl ?_
          refine zv_iload_n hC dX10_part_43 rfl ?_
          refine zv_iload_n hC dX10_part_44 rfl ?_
          refine zv_callVi (As := [_, _, _]) hC dX10_part_45 Y_X5_add lk_X10_127 (by decide) rfl rfl rfl (Nat.le_of_ble_eq_true rfl) (ok_X5_add G h) ?_
          intro r_8 σ_7 h
          refine zv_if_ne (tgt := 54) hC dX10_part_48 (by decide) (fun c => ?_) (fun c => ?_)
          · replace h := h.1 c
            refine zv_aload_n hC dX10_part_54 rfl ?_
            refine zv_getR (j := 13) hC fl_X10_28 dX10_part_55 rfl rfl ?_
            refine zv_iload_n hC dX10_part_58 rfl ?_
            refine zv_callVv (As := [_]) hC dX10_part_59 Y_X9_dropThoseAbove lk_X10_130 (by decide) rfl rfl rfl (Nat.le_of_ble_eq_true rfl) (ok_X9_dropThoseAbove G h) ?_
            intro σ_9 h
            refine zv_aload_n hC dX10_part_62 rfl ?_
            refine zv_getR (j := 19) hC fl_X10_37 dX10_part_63 rfl rfl ?_
            refine zv_iload_n hC dX10_part_66 rfl ?_
            refine zv_callVv (As := [_]) hC dX10_part_67 Y_X0_forgetFrom lk_X10_133 (by decide) rfl rfl rfl (Nat.le_of_ble_eq_true rfl) (ok_X0_forgetFrom G h) ?_
            intro σ_10 h
            refine zv_aload_n hC dX10_part_70 rfl ?_
            refine zv_getR (j := 5) hC fl_X10_19 dX10_part_71 rfl rfl ?_
            refine zv_iload_n hC dX10_part_74 rfl ?_
            refine zv_callVi (As := [_]) hC dX10_part_75 Y_X5_size lk_X10_136 (by decide) rfl rfl rfl (Nat.le_of_ble_eq_true rfl) (ok_X5_size G h) ?_
            intro r_12 σ_11 h
            exact (hR _ _ _).1 _ rfl dX10_part_78 ⟨_, rfl, h⟩
          · replace h := h.2 c
            refine zv_bipush (v := (-3)) hC dX10_part_51 (by decide) ?_
            exact (hR _ _ _).1 _ rfl dX10_part_53 ⟨_, rfl, h⟩
        · replace h := h.2 c
          exact zv_go (k_X10_part_35 hC hR  h) trivial
theorem ok_X10_part (G : zv_G) {Q : Int32 → zv_St → Prop} {x1 : Int32} {x2 : Int32} {x3 : Int32} {σ : zv_St} (h : B_X10_part Q x1 x2 x3 σ) : zv_OK G M_X10_part yX10_part [.ref (G.2.2.1 0), .int x1, .int x2, .int x3] σ (zv_qi Q) := zv_ok G _ _ _ _ _ (by decide +kernel) rfl (Nat.le_of_ble_eq_true rfl) (fun X hC hR => zv_go (k_X10_part_0 hC hR h) ⟨rfl, rfl, rfl, rfl, trivial⟩)
-- X9_isThere
def B_X9_isThere (Q : Int32 → zv_St → Prop) (x1 : Int32) (σ : zv_St) : Prop :=
  vp_in x1 80 ∧ narrow .boolean (.int (σ.1 16 x1.toNatClampNeg)) = .int (σ.1 16 x1.toNatClampNeg) ∧ Q (σ.1 16 x1.toNatClampNeg) σ
set_option maxRecDepth 20000 in
set_option maxHeartbeats 2000000 in
theorem k_X9_isThere_0 {G : zv_G} {X : zv_X} {Q : Int32 → zv_St → Prop}  (hC : zv_C G X M_X9_isThere) (hR : zv_R G X M_X9_isThere (zv_qi Q))  {x1 : Int32} {σ : zv_St} (h : B_X9_isThere Q  x1 σ) : zv_V G X M_X9_isThere 0 [(0, .ref (G.2.2.1 13)), (1, .int x1)] [] σ := by
  unfold B_X9_isThere at h
  refine zv_aload_n hC dX9_isThere_0 rfl ?_
  refine zv_getR (j := 16) hC fl_X9_18 dX9_isThere_1 rfl rfl ?_
  refine zv_iload_n hC dX9_isThere_4 rfl ?_
  refine zv_zald hC dX9_isThere_5 rfl h.1 ?_
  replace h := h.2
  exact (hR _ _ _).2.1 _ rfl h.1 dX9_isThere_6 ⟨_, rfl, h.2⟩
theorem ok_X9_isThere (G : zv_G) {Q : Int32 → zv_St → Prop} {x1 : Int32} {σ : zv_St} (h : B_X9_isThere Q x1 σ) : zv_OK G M_X9_isThere yX9_isThere [.ref (G.2.2.1 13), .int x1] σ (zv_qi Q) := zv_ok G _ _ _ _ _ (by decide +kernel) rfl (Nat.le_of_ble_eq_true rfl) (fun X hC hR => zv_go (k_X9_isThere_0 hC hR h) ⟨rfl, rfl, trivial⟩)
-- X9_size
def B_X9_size (Q : Int32 → zv_St → Prop) (x1 : Int32) (σ : zv_St) : Prop :=
  vp_in x1 80 ∧ Q (σ.1 17 x1.toNatClampNeg) σ
set_option maxRecDepth 20000 in
set_option maxHeartbeats 2000000 in
theorem k_X9_size_0 {G : zv_G} {X : zv_X} {Q : Int32 → zv_St → Prop}  (hC : zv_C G X M_X9_size) (hR : zv_R G X M_X9_size (zv_qi Q))  {x1 : Int32} {σ : zv_St} (h : B_X9_size Q  x1 σ) : zv_V G X M_X9_size 0 [(0, .ref (G.2.2.1 13)), (1, .int x1)] [] σ := by
  unfold B_X9_size at h
  refine zv_aload_n hC dX9_size_0 rfl ?_
  refine zv_getR (j := 17) hC fl_X9_22 dX9_size_1 rfl rfl ?_
  refine zv_iload_n hC dX9_size_4 rfl ?_
  refine zv_iald hC dX9_size_5 rfl h.1 ?_
  replace h := h.2
  exact (hR _ _ _).1 _ rfl dX9_size_6 ⟨_, rfl, h⟩
theorem ok_X9_size (G : zv_G) {Q : Int32 → zv_St → Prop} {x1 : Int32} {σ : zv_St} (h : B_X9_size Q x1 σ) : zv_OK G M_X9_size yX9_size [.ref (G.2.2.1 13), .int x1] σ (zv_qi Q) := zv_ok G _ _ _ _ _ (by decide +kernel) rfl (Nat.le_of_ble_eq_true rfl) (fun X hC hR => zv_go (k_X9_size_0 hC hR h) ⟨rfl, rfl, trivial⟩)
-- X5_asked
def B_X5_asked (Q : Int32 → zv_St → Prop) (x1 : Int32) (σ : zv_St) : Prop :=
  vp_in x1 80 ∧ Q (σ.1 9 x1.toNatClampNeg) σ
set_option maxRecDepth 20000 in
set_option maxHeartbeats 2000000 in
theorem k_X5_asked_0 {G : zv_G} {X : zv_X} {Q : Int32 → zv_St → Prop}  (hC : zv_C G X M_X5_asked) (hR : zv_R G X M_X5_asked (zv_qi Q))  {x1 : Int32} {σ : zv_St} (h : B_X5_asked Q  x1 σ) : zv_V G X M_X5_asked 0 [(0, .ref (G.2.2.1 5)), (1, .int x1)] [] σ := by
  unfold B_X5_asked at h
  refine zv_aload_n hC dX5_asked_0 rfl ?_
  refine zv_getR (j := 9) hC fl_X5_21 dX5_asked_1 rfl rfl ?_
  refine zv_iload_n hC dX5_asked_4 rfl ?_
  refine zv_iald hC dX5_asked_5 rfl h.1 ?_
  replace h := h.2
  exact (hR _ _ _).1 _ rfl dX5_asked_6 ⟨_, rfl, h⟩
theorem ok_X5_asked (G : zv_G) {Q : Int32 → zv_St → Prop} {x1 : Int32} {σ : zv_St} (h : B_X5_asked Q x1 σ) : zv_OK G M_X5_asked yX5_asked [.ref (G.2.2.1 5), .int x1] σ (zv_qi Q) := zv_ok G _ _ _ _ _ (by decide +kernel) rfl (Nat.le_of_ble_eq_true rfl) (fun X hC hR => zv_go (k_X5_asked_0 hC hR h) ⟨rfl, rfl, trivial⟩)
-- X8_clear_20
def L_X8_clear_20_2 (Q : zv_St → Prop) : Nat → (Int32 → Int32 → zv_St → Prop)
  | 0 => fun _ _ _ => False
  | u + 1 => fun x1 x2 σ => 
    (8 ≤ x2 → (Q σ)) ∧ (¬ 8 ≤ x2 → (vp_in ((x1 * 8) + x2) 640 ∧ ∀ σ_1 : zv_St, σ_1 = zv_wl σ 21 ((x1 * 8) + x2).toNatClampNeg 0 → (L_X8_clear_20_2 Q u) x1 (x2 + 1) σ_1))
set_option maxRecDepth 20000 in
set_option maxHeartbeats 2000000 in
theorem kL_X8_clear_20_2 {G : zv_G} {X : zv_X} {Q : zv_St → Prop}  (hC : zv_C G X M_X8_clear_20) (hR : zv_R G X M_X8_clear_20 (zv_qv Q))  : ∀ (n : Nat) (x1 : Int32) (x2 : Int32) (σ : zv_St), L_X8_clear_20_2 Q  n x1 x2 σ → zv_V G X M_X8_clear_20 2 [(0, .ref (G.2.2.1 20)), (1, .int x1), (2, .int x2)] [] σ := by
  intro n
  induction n with
  | zero => intro x1 x2 σ h; exact h.elim
  | succ n hk2 =>
    intro x1 x2 σ h
    unfold L_X8_clear_20_2 at h
    refine zv_iload_n hC dX8_clear_2 rfl ?_
    refine zv_bipush (v := 8) hC dX8_clear_3 (by decide) ?_
    refine zv_icmp_ge (tgt := 26) hC dX8_clear_5 (by decide) (fun c => ?_) (fun c => ?_)
    · replace h := h.1 c
      exact (hR _ _ _).2.2.2.1 rfl dX8_clear_26 ⟨rfl, h⟩
    · replace h := h.2 c
      refine zv_aload_n hC dX8_clear_8 rfl ?_
      refine zv_getR (j := 21) hC fl_X8_9 dX8_clear_9 rfl rfl ?_
      refine zv_iload_n hC dX8_clear_12 rfl ?_
      refine zv_bipush (v := 8) hC dX8_clear_13 (by decide) ?_
      refine zv_imul hC dX8_clear_15 ?_
      refine zv_iload_n hC dX8_clear_16 rfl ?_
      refine zv_iadd hC dX8_clear_17 ?_
      refine zv_lconst (v := 0) hC dX8_clear_18 (by decide) ?_
      refine zv_last hC dX8_clear_19 rfl h.1 ?_
      replace h := h.2 _ rfl
      refine zv_iinc (v := 1) hC dX8_clear_20 rfl (by decide) (by decide) ?_
      refine zv_goto (tgt := 2) hC dX8_clear_23 (by decide) ?_
      exact zv_go (hk2 _ _ _ h) ⟨rfl, rfl, rfl, trivial⟩
def B_X8_clear_20 (Q : zv_St → Prop) (x1 : Int32) (σ : zv_St) : Prop :=
  ∃ n2, L_X8_clear_20_2 Q n2 x1 0 σ
set_option maxRecDepth 20000 in
set_option maxHeartbeats 2000000 in
theorem k_X8_clear_20_0 {G : zv_G} {X : zv_X} {Q : zv_St → Prop}  (hC : zv_C G X M_X8_clear_20) (hR : zv_R G X M_X8_clear_20 (zv_qv Q))  {x1 : Int32} {σ : zv_St} (h : B_X8_clear_20 Q  x1 σ) : zv_V G X M_X8_clear_20 0 [(0, .ref (G.2.2.1 20)), (1, .int x1)] [] σ := by
  unfold B_X8_clear_20 at h
  refine zv_iconst (v := 0) hC dX8_clear_0 (by decide) ?_
  refine zv_istore_n hC dX8_clear_1 (by decide) ?_
  obtain ⟨n, h⟩ := h
  exact zv_go (kL_X8_clear_20_2 hC hR  n _ _ _ h) ⟨rfl, rfl, rfl, trivial⟩
theorem ok_X8_clear_20 (G : zv_G) {Q : zv_St → Prop} {x1 : Int32} {σ : zv_St} (h : B_X8_clear_20 Q x1 σ) : zv_OK G M_X8_clear_20 yX8_clear [.ref (G.2.2.1 20), .int x1] σ (zv_qv Q) := zv_ok G _ _ _ _ _ (by decide +kernel) rfl (Nat.le_of_ble_eq_true rfl) (fun X hC hR => zv_go (k_X8_clear_20_0 hC hR h) ⟨rfl, rfl, trivial⟩)
