-- X7_newOfBest
def B_X7_newOfBest_111 (Q : Int32 → zv_St → Prop) (y0 : Int32) (σ : zv_St) : Prop :=
  Q y0 σ
set_option maxRecDepth 20000 in
set_option maxHeartbeats 2000000 in
theorem k_X7_newOfBest_111 {G : zv_G} {X : zv_X} {Q : Int32 → zv_St → Prop}  (hC : zv_C G X M_X7_newOfBest) (hR : zv_R G X M_X7_newOfBest (zv_qi Q))  {y0 : Int32} {σ : zv_St} (h : B_X7_newOfBest_111 Q  y0 σ) : zv_V G X M_X7_newOfBest 111 [] [.int y0] σ := by
  unfold B_X7_newOfBest_111 at h
  exact (hR _ _ _).1 _ rfl dX7_newOfBest_111 ⟨_, rfl, h⟩
def B_X7_newOfBest_58 (Q : Int32 → zv_St → Prop) (kk9 : Int32 → Int32 → zv_St → Prop) (x1 : Int32) (x2 : Int32) (σ : zv_St) : Prop :=
  kk9 x1 (x2 + 1) σ
set_option maxRecDepth 20000 in
set_option maxHeartbeats 2000000 in
theorem k_X7_newOfBest_58 {G : zv_G} {X : zv_X} {Q : Int32 → zv_St → Prop} {kk9 : Int32 → Int32 → zv_St → Prop} (hC : zv_C G X M_X7_newOfBest) (hR : zv_R G X M_X7_newOfBest (zv_qi Q)) (hk9 : ∀ (x1 : Int32) (x2 : Int32) (σ : zv_St), kk9 x1 x2 σ → zv_V G X M_X7_newOfBest 9 [(0, .ref (G.2.2.1 39)), (1, .int x1), (2, .int x2)] [] σ) {x1 : Int32} {x2 : Int32} {σ : zv_St} (h : B_X7_newOfBest_58 Q kk9 x1 x2 σ) : zv_V G X M_X7_newOfBest 58 [(0, .ref (G.2.2.1 39)), (1, .int x1), (2, .int x2)] [] σ := by
  unfold B_X7_newOfBest_58 at h
  refine zv_iinc (v := 1) hC dX7_newOfBest_58 rfl (by decide) (by decide) ?_
  refine zv_goto (tgt := 9) hC dX7_newOfBest_61 (by decide) ?_
  exact zv_go (hk9 _ _ _ h) ⟨rfl, rfl, rfl, trivial⟩
def L_X7_newOfBest_9 (Q : Int32 → zv_St → Prop) : Nat → (Int32 → Int32 → zv_St → Prop)
  | 0 => fun _ _ _ => False
  | u + 1 => fun x1 x2 σ => 
    B_X5_size (fun r_2 σ_1 => (r_2 ≤ x2 → (B_X6_size (fun r_4 σ_3 => (¬ r_4 = 0 → (B_X6_size (fun r_6 σ_5 => (¬ r_6 = 1 → (B_X5_first (fun r_8 σ_7 => B_X7_thatIsSoWithRow (fun r_10 σ_9 => B_X7_newOfBest_111 Q r_10 σ_9) 3 r_8 σ_7) x1 σ_5)) ∧ (r_6 = 1 → (B_X6_partAt (fun r_12 σ_11 => B_X7_newOfBest_111 Q r_12 σ_11) 0 σ_5))) σ_3)) ∧ (r_4 = 0 → (Q (-1) σ_3))) σ_1)) ∧ (¬ r_2 ≤ x2 → (B_X5_partAt (fun r_14 σ_13 => vp_in r_14 80 ∧ ∀ v_15 : Int32, v_15 = (σ_13.1 41 r_14.toNatClampNeg) → B_X5_kind (fun r_17 σ_16 => (r_17 = 7 → (B_X7_newOfBest_58 Q (L_X7_newOfBest_9 Q u) x1 x2 σ_16)) ∧ (¬ r_17 = 7 → (B_X6_add (fun σ_18 => B_X7_newOfBest_58 Q (L_X7_newOfBest_9 Q u) x1 x2 σ_18) 3 v_15 σ_16))) v_15 σ_13) x1 x2 σ_1))) x1 σ
set_option maxRecDepth 20000 in
set_option maxHeartbeats 2000000 in
theorem kL_X7_newOfBest_9 {G : zv_G} {X : zv_X} {Q : Int32 → zv_St → Prop}  (hC : zv_C G X M_X7_newOfBest) (hR : zv_R G X M_X7_newOfBest (zv_qi Q))  : ∀ (n : Nat) (x1 : Int32) (x2 : Int32) (σ : zv_St), L_X7_newOfBest_9 Q  n x1 x2 σ → zv_V G X M_X7_newOfBest 9 [(0, .ref (G.2.2.1 39)), (1, .int x1), (2, .int x2)] [] σ := by
  intro n
  induction n with
  | zero => intro x1 x2 σ h; exact h.elim
  | succ n hk9 =>
    intro x1 x2 σ h
    unfold L_X7_newOfBest_9 at h
    refine zv_iload_n hC dX7_newOfBest_9 rfl ?_
    refine zv_aload_n hC dX7_newOfBest_10 rfl ?_
    refine zv_getR (j := 5) hC fl_X7_30 dX7_newOfBest_11 rfl rfl ?_
    refine zv_iload_n hC dX7_newOfBest_14 rfl ?_
    refine zv_callVi (As := [_]) hC dX7_newOfBest_15 Y_X5_size lk_X7_55 (by decide) rfl rfl rfl (Nat.le_of_ble_eq_true rfl) (ok_X5_size G h) ?_
    intro r_2 σ_1 h
    refine zv_icmp_ge (tgt := 64) hC dX7_newOfBest_18 (by decide) (fun c => ?_) (fun c => ?_)
    · replace h := h.1 c
      refine zv_aload_n hC dX7_newOfBest_64 rfl ?_
      refine zv_getR (j := 42) hC fl_X7_22 dX7_newOfBest_65 rfl rfl ?_
      refine zv_callVi (As := []) hC dX7_newOfBest_68 Y_X6_size lk_X7_94 (by decide) rfl rfl rfl (Nat.le_of_ble_eq_true rfl) (ok_X6_size G h) ?_
      intro r_4 σ_3 h
      refine zv_if_ne (tgt := 76) hC dX7_newOfBest_71 (by decide) (fun c => ?_) (fun c => ?_)
      · replace h := h.1 c
        refine zv_aload_n hC dX7_newOfBest_76 rfl ?_
        refine zv_getR (j := 42) hC fl_X7_22 dX7_newOfBest_77 rfl rfl ?_
        refine zv_callVi (As := []) hC dX7_newOfBest_80 Y_X6_size lk_X7_94 (by decide) rfl rfl rfl (Nat.le_of_ble_eq_true rfl) (ok_X6_size G h) ?_
        intro r_6 σ_5 h
        refine zv_iconst (v := 1) hC dX7_newOfBest_83 (by decide) ?_
        refine zv_icmp_ne (tgt := 98) hC dX7_newOfBest_84 (by decide) (fun c => ?_) (fun c => ?_)
        · replace h := h.1 c
          refine zv_aload_n hC dX7_newOfBest_98 rfl ?_
          refine zv_iconst (v := 3) hC dX7_newOfBest_99 (by decide) ?_
          refine zv_aload_n hC dX7_newOfBest_100 rfl ?_
          refine zv_getR (j := 5) hC fl_X7_30 dX7_newOfBest_101 rfl rfl ?_
          refine zv_iload_n hC dX7_newOfBest_104 rfl ?_
          refine zv_callVi (As := [_]) hC dX7_newOfBest_105 Y_X5_first lk_X7_65 (by decide) rfl rfl rfl (Nat.le_of_ble_eq_true rfl) (ok_X5_first G h) ?_
          intro r_8 σ_7 h
          refine zv_callVi (As := [_, _]) hC dX7_newOfBest_108 Y_X7_thatIsSoWithRow lk_X7_98 (by decide) rfl rfl rfl (Nat.le_of_ble_eq_true rfl) (ok_X7_thatIsSoWithRow G h) ?_
          intro r_10 σ_9 h
          exact zv_go (k_X7_newOfBest_111 hC hR  h) trivial
        · replace h := h.2 c
          refine zv_aload_n hC dX7_newOfBest_87 rfl ?_
          refine zv_getR (j := 42) hC fl_X7_22 dX7_newOfBest_88 rfl rfl ?_
          refine zv_iconst (v := 0) hC dX7_newOfBest_91 (by decide) ?_
          refine zv_callVi (As := [_]) hC dX7_newOfBest_92 Y_X6_partAt lk_X7_96 (by decide) rfl rfl rfl (Nat.le_of_ble_eq_true rfl) (ok_X6_partAt G h) ?_
          intro r_12 σ_11 h
          refine zv_goto (tgt := 111) hC dX7_newOfBest_95 (by decide) ?_
          exact zv_go (k_X7_newOfBest_111 hC hR  h) trivial
      · replace h := h.2 c
        refine zv_iconst (v := (-1)) hC dX7_newOfBest_74 (by decide) ?_
        exact (hR _ _ _).1 _ rfl dX7_newOfBest_75 ⟨_, rfl, h⟩
    · replace h := h.2 c
      refine zv_aload_n hC dX7_newOfBest_21 rfl ?_
      refine zv_getR (j := 41) hC fl_X7_15 dX7_newOfBest_22 rfl rfl ?_
      refine zv_aload_n hC dX7_newOfBest_25 rfl ?_
      refine zv_getR (j := 5) hC fl_X7_30 dX7_newOfBest_26 rfl rfl ?_
      refine zv_iload_n hC dX7_newOfBest_29 rfl ?_
      refine zv_iload_n hC dX7_newOfBest_30 rfl ?_
      refine zv_callVi (As := [_, _]) hC dX7_newOfBest_31 Y_X5_partAt lk_X7_58 (by decide) rfl rfl rfl (Nat.le_of_ble_eq_true rfl) (ok_X5_partAt G h) ?_
      intro r_14 σ_13 h
      refine zv_iald hC dX7_newOfBest_34 rfl h.1 ?_
      replace h := h.2
      replace h := h _ rfl
      refine zv_istore_n hC dX7_newOfBest_35 (by decide) ?_
      refine zv_aload_n hC dX7_newOfBest_36 rfl ?_
      refine zv_getR (j := 5) hC fl_X7_30 dX7_newOfBest_37 rfl rfl ?_
      refine zv_iload_n hC dX7_newOfBest_40 rfl ?_
      refine zv_callVi (As := [_]) hC dX7_newOfBest_41 Y_X5_kind lk_X7_62 (by decide) rfl rfl rfl (Nat.le_of_ble_eq_true rfl) (ok_X5_kind G h) ?_
      intro r_17 σ_16 h
      refine zv_bipush (v := 7) hC dX7_newOfBest_44 (by decide) ?_
      refine zv_icmp_eq (tgt := 58) hC dX7_newOfBest_46 (by decide) (fun c => ?_) (fun c => ?_)
      · replace h := h.1 c
        exact zv_go (k_X7_newOfBest_58 hC hR hk9 h) ⟨rfl, rfl, rfl, trivial⟩
      · replace h := h.2 c
        refine zv_aload_n hC dX7_newOfBest_49 rfl ?_
        refine zv_getR (j := 42) hC fl_X7_22 dX7_newOfBest_50 rfl rfl ?_
        refine zv_iconst (v := 3) hC dX7_newOfBest_53 (by decide) ?_
        refine zv_iload_n hC dX7_newOfBest_54 rfl ?_
        refine zv_callVv (As := [_, _]) hC dX7_newOfBest_55 Y_X6_add lk_X7_90 (by decide) rfl rfl rfl (Nat.le_of_ble_eq_true rfl) (ok_X6_add G h) ?_
        intro σ_18 h
        exact zv_go (k_X7_newOfBest_58 hC hR hk9 h) ⟨rfl, rfl, rfl, trivial⟩
def B_X7_newOfBest (Q : Int32 → zv_St → Prop) (x1 : Int32) (σ : zv_St) : Prop :=
  B_X6_clear (fun σ_1 => ∃ n9, L_X7_newOfBest_9 Q n9 x1 0 σ_1) σ
set_option maxRecDepth 20000 in
set_option maxHeartbeats 2000000 in
theorem k_X7_newOfBest_0 {G : zv_G} {X : zv_X} {Q : Int32 → zv_St → Prop}  (hC : zv_C G X M_X7_newOfBest) (hR : zv_R G X M_X7_newOfBest (zv_qi Q))  {x1 : Int32} {σ : zv_St} (h : B_X7_newOfBest Q  x1 σ) : zv_V G X M_X7_newOfBest 0 [(0, .ref (G.2.2.1 39)), (1, .int x1)] [] σ := by
  unfold B_X7_newOfBest at h
  refine zv_aload_n hC dX7_newOfBest_0 rfl ?_
  refine zv_getR (j := 42) hC fl_X7_22 dX7_newOfBest_1 rfl rfl ?_
  refine zv_callVv (As := []) hC dX7_newOfBest_4 Y_X6_clear lk_X7_87 (by decide) rfl rfl rfl (Nat.le_of_ble_eq_true rfl) (ok_X6_clear G h) ?_
  intro σ_1 h
  refine zv_iconst (v := 0) hC dX7_newOfBest_7 (by decide) ?_
  refine zv_istore_n hC dX7_newOfBest_8 (by decide) ?_
  obtain ⟨n, h⟩ := h
  exact zv_go (kL_X7_newOfBest_9 hC hR  n _ _ _ h) ⟨rfl, rfl, rfl, trivial⟩
theorem ok_X7_newOfBest (G : zv_G) {Q : Int32 → zv_St → Prop} {x1 : Int32} {σ : zv_St} (h : B_X7_newOfBest Q x1 σ) : zv_OK G M_X7_newOfBest yX7_newOfBest [.ref (G.2.2.1 39), .int x1] σ (zv_qi Q) := zv_ok G _ _ _ _ _ (by decide +kernel) rfl (Nat.le_of_ble_eq_true rfl) (fun X hC hR => zv_go (k_X7_newOfBest_0 hC hR h) ⟨rfl, rfl, trivial⟩)
-- X7_canDissolve
def B_X7_canDissolve_17 (Q : Int32 → zv_St → Prop) (σ : zv_St) : Prop :=
  Q 0 σ
set_option maxRecDepth 20000 in
set_option maxHeartbeats 2000000 in
theorem k_X7_canDissolve_17 {G : zv_G} {X : zv_X} {Q : Int32 → zv_St → Prop}  (hC : zv_C G X M_X7_canDissolve) (hR : zv_R G X M_X7_canDissolve (zv_qi Q))   {σ : zv_St} (h : B_X7_canDissolve_17 Q   σ) : zv_V G X M_X7_canDissolve 17 [] [] σ := by
  unfold B_X7_canDissolve_17 at h
  refine zv_iconst (v := 0) hC dX7_canDissolve_17 (by decide) ?_
  exact (hR _ _ _).2.1 _ rfl rfl dX7_canDissolve_18 ⟨_, rfl, h⟩
def B_X7_canDissolve_90 (Q : Int32 → zv_St → Prop) (y0 : Int32) (σ : zv_St) : Prop :=
  narrow .boolean (.int y0) = .int y0 ∧ Q y0 σ
set_option maxRecDepth 20000 in
set_option maxHeartbeats 2000000 in
theorem k_X7_canDissolve_90 {G : zv_G} {X : zv_X} {Q : Int32 → zv_St → Prop}  (hC : zv_C G X M_X7_canDissolve) (hR : zv_R G X M_X7_canDissolve (zv_qi Q))  {y0 : Int32} {σ : zv_St} (h : B_X7_canDissolve_90 Q  y0 σ) : zv_V G X M_X7_canDissolve 90 [] [.int y0] σ := by
  unfold B_X7_canDissolve_90 at h
  exact (hR _ _ _).2.1 _ rfl h.1 dX7_canDissolve_90 ⟨_, rfl, h.2⟩
def B_X7_canDissolve_89 (Q : Int32 → zv_St → Prop) (σ : zv_St) : Prop :=
  B_X7_canDissolve_90 Q 0 σ
set_option maxRecDepth 20000 in
set_option maxHeartbeats 2000000 in
theorem k_X7_canDissolve_89 {G : zv_G} {X : zv_X} {Q : Int32 → zv_St → Prop}  (hC : zv_C G X M_X7_canDissolve) (hR : zv_R G X M_X7_canDissolve (zv_qi Q))   {σ : zv_St} (h : B_X7_canDissolve_89 Q   σ) : zv_V G X M_X7_canDissolve 89 [] [] σ := by
  unfold B_X7_canDissolve_89 at h
  refine zv_iconst (v := 0) hC dX7_canDissolve_89 (by decide) ?_
  exact zv_go (k_X7_canDissolve_90 hC hR  h) trivial
def B_X7_canDissolve_74 (Q : Int32 → zv_St → Prop) (y0 : Int32) (σ : zv_St) : Prop :=
  narrow .boolean (.int y0) = .int y0 ∧ Q y0 σ
set_option maxRecDepth 20000 in
set_option maxHeartbeats 2000000 in
theorem k_X7_canDissolve_74 {G : zv_G} {X : zv_X} {Q : Int32 → zv_St → Prop}  (hC : zv_C G X M_X7_canDissolve) (hR : zv_R G X M_X7_canDissolve (zv_qi Q))  {y0 : Int32} {σ : zv_St} (h : B_X7_canDissolve_74 Q  y0 σ) : zv_V G X M_X7_canDissolve 74 [] [.int y0] σ := by
  unfold B_X7_canDissolve_74 at h
  exact (hR _ _ _).2.1 _ rfl h.1 dX7_canDissolve_74 ⟨_, rfl, h.2⟩
def B_X7_canDissolve_73 (Q : Int32 → zv_St → Prop) (σ : zv_St) : Prop :=
  B_X7_canDissolve_74 Q 0 σ
set_option maxRecDepth 20000 in
set_option maxHeartbeats 2000000 in
theorem k_X7_canDissolve_73 {G : zv_G} {X : zv_X} {Q : Int32 → zv_St → Prop}  (hC : zv_C G X M_X7_canDissolve) (hR : zv_R G X M_X7_canDissolve (zv_qi Q))   {σ : zv_St} (h : B_X7_canDissolve_73 Q   σ) : zv_V G X M_X7_canDissolve 73 [] [] σ := by
  unfold B_X7_canDissolve_73 at h
  refine zv_iconst (v := 0) hC dX7_canDissolve_73 (by decide) ?_
  exact zv_go (k_X7_canDissolve_74 hC hR  h) trivial
def B_X7_canDissolve (Q : Int32 → zv_St → Prop) (x1 : Int32) (x2 : Int32) (x3 : Int32) (σ : zv_St) : Prop :=
  B_X5_kind (fun r_2 σ_1 => (¬ r_2 = 2 → (B_X7_canDissolve_17 Q σ_1)) ∧ (r_2 = 2 → ((¬ x1 = 2 → (B_X5_first (fun r_4 σ_3 => B_X5_countOf (fun r_6 σ_5 => (¬ x1 = 3 → ((¬ r_4 = 0 → (B_X7_canDissolve_89 Q σ_5)) ∧ (r_4 = 0 → ((¬ r_6 = 0 → (B_X7_canDissolve_89 Q σ_5)) ∧ (r_6 = 0 → (B_X7_canDissolve_90 Q 1 σ_5)))))) ∧ (x1 = 3 → ((1 < x3 → (B_X7_canDissolve_73 Q σ_5)) ∧ (¬ 1 < x3 → ((1 < r_4 → (B_X7_canDissolve_73 Q σ_5)) ∧ (¬ 1 < r_4 → (B_X5_size (fun r_8 σ_7 => (¬ r_6 = r_8 → (B_X7_canDissolve_73 Q σ_7)) ∧ (r_6 = r_8 → (B_X7_canDissolve_74 Q 1 σ_7))) x2 σ_5))))))) x2 3 σ_3) x2 σ_1)) ∧ (x1 = 2 → (B_X7_canDissolve_17 Q σ_1))))) x2 σ
set_option maxRecDepth 20000 in
set_option maxHeartbeats 2000000 in
theorem k_X7_canDissolve_0 {G : zv_G} {X : zv_X} {Q : Int32 → zv_St → Prop}  (hC : zv_C G X M_X7_canDissolve) (hR : zv_R G X M_X7_canDissolve (zv_qi Q))  {x1 : Int32} {x2 : Int32} {x3 : Int32} {σ : zv_St} (h : B_X7_canDissolve Q  x1 x2 x3 σ) : zv_V G X M_X7_canDissolve 0 [(0, .ref (G.2.2.1 39)), (1, .int x1), (2, .int x2), (3, .int x3)] [] σ := by
  unfold B_X7_canDissolve at h
  refine zv_aload_n hC dX7_canDissolve_0 rfl ?_
  refine zv_getR (j := 5) hC fl_X7_30 dX7_canDissolve_1 rfl rfl ?_
  refine zv_iload_n hC dX7_canDissolve_4 rfl ?_
  refine zv_callVi (As := [_]) hC dX7_canDissolve_5 Y_X5_kind lk_X7_62 (by decide) rfl rfl rfl (Nat.le_of_ble_eq_true rfl) (ok_X5_kind G h) ?_
  intro r_2 σ_1 h
  refine zv_iconst (v := 2) hC dX7_canDissolve_8 (by decide) ?_
  refine zv_icmp_ne (tgt := 17) hC dX7_canDissolve_9 (by decide) (fun c => ?_) (fun c => ?_)
  · replace h := h.1 c
    exact zv_go (k_X7_canDissolve_17 hC hR  h) trivial
  · replace h := h.2 c
    refine zv_iload_n hC dX7_canDissolve_12 rfl ?_
    refine zv_iconst (v := 2) hC dX7_canDissolve_13 (by decide) ?_
    refine zv_icmp_ne (tgt := 19) hC dX7_canDissolve_14 (by decide) (fun c => ?_) (fun c => ?_)
    · replace h := h.1 c
      refine zv_aload_n hC dX7_canDissolve_19 rfl ?_
      refine zv_getR (j := 5) hC fl_X7_30 dX7_canDissolve_20 rfl rfl ?_
      refine zv_iload_n hC dX7_canDissolve_23 rfl ?_
      refine zv_callVi (As := [_]) hC dX7_canDissolve_24 Y_X5_first lk_X7_65 (by decide) rfl rfl rfl (Nat.le_of_ble_eq_true rfl) (ok_X5_first G h) ?_
      intro r_4 σ_3 h
      refine zv_istore hC dX7_canDissolve_27 (by decide) ?_
      refine zv_aload_n hC dX7_canDissolve_29 rfl ?_
      refine zv_getR (j := 5) hC fl_X7_30 dX7_canDissolve_30 rfl rfl ?_
      refine zv_iload_n hC dX7_canDissolve_33 rfl ?_
      refine zv_iconst (v := 3) hC dX7_canDissolve_34 (by decide) ?_
      refine zv_callVi (As := [_, _]) hC dX7_canDissolve_35 Y_X5_countOf lk_X7_114 (by decide) rfl rfl rfl (Nat.le_of_ble_eq_true rfl) (ok_X5_countOf G h) ?_
      intro r_6 σ_5 h
      refine zv_istore hC dX7_canDissolve_38 (by decide) ?_
      refine zv_iload_n hC dX7_canDissolve_40 rfl ?_
      refine zv_iconst (v := 3) hC dX7_canDissolve_41 (by decide) ?_
      refine zv_icmp_ne (tgt := 75) hC dX7_canDissolve_42 (by decide) (fun c => ?_) (fun c => ?_)
      · replace h := h.1 c
        refine zv_iload hC dX7_canDissolve_75 rfl ?_
        refine zv_if_ne (tgt := 89) hC dX7_canDissolve_77 (by decide) (fun c => ?_) (fun c => ?_)
        · replace h := h.1 c
          exact zv_go (k_X7_canDissolve_89 hC hR  h) trivial
        · replace h := h.2 c
          refine zv_iload hC dX7_canDissolve_80 rfl ?_
          refine zv_if_ne (tgt := 89) hC dX7_canDissolve_82 (by decide) (fun c => ?_) (fun c => ?_)
          · replace h := h.1 c
            exact zv_go (k_X7_canDissolve_89 hC hR  h) trivial
          · replace h := h.2 c
            refine zv_iconst (v := 1) hC dX7_canDissolve_85 (by decide) ?_
            refine zv_goto (tgt := 90) hC dX7_canDissolve_86 (by decide) ?_
            exact zv_go (k_X7_canDissolve_90 hC hR  h) trivial
      · replace h := h.2 c
        refine zv_iload_n hC dX7_canDissolve_45 rfl ?_
        refine zv_iconst (v := 1) hC dX7_canDissolve_46 (by decide) ?_
        refine zv_icmp_gt (tgt := 73) hC dX7_canDissolve_47 (by decide) (fun c => ?_) (fun c => ?_)
        · replace h := h.1 c
          exact zv_go (k_X7_canDissolve_73 hC hR  h) trivial
        · replace h := h.2 c
          refine zv_iload hC dX7_canDissolve_50 rfl ?_
          refine zv_iconst (v := 1) hC dX7_canDissolve_52 (by decide) ?_
          refine zv_icmp_gt (tgt := 73) hC dX7_canDissolve_53 (by decide) (fun c => ?_) (fun c => ?_)
          · replace h := h.1 c
            exact zv_go (k_X7_canDissolve_73 hC hR  h) trivial
          · replace h := h.2 c
            refine zv_iload hC dX7_canDissolve_56 rfl ?_
            refine zv_aload_n hC dX7_canDissolve_58 rfl ?_
            refine zv_getR (j := 5) hC fl_X7_30 dX7_canDissolve_59 rfl rfl ?_
            refine zv_iload_n hC dX7_canDissolve_62 rfl ?_
            refine zv_callVi (As := [_]) hC dX7_canDissolve_63 Y_X5_size lk_X7_55 (by decide) rfl rfl rfl (Nat.le_of_ble_eq_true rfl) (ok_X5_size G h) ?_
            intro r_8 σ_7 h
            refine zv_icmp_ne (tgt := 73) hC dX7_canDissolve_66 (by decide) (fun c => ?_) (fun c => ?_)
            · replace h := h.1 c
              exact zv_go (k_X7_canDissolve_73 hC hR  h) trivial
            · replace h := h.2 c
              refine zv_iconst (v := 1) hC dX7_canDissolve_69 (by decide) ?_
              refine zv_goto (tgt := 74) hC dX7_canDissolve_70 (by decide) ?_
              exact zv_go (k_X7_canDissolve_74 hC hR  h) trivial
    · replace h := h.2 c
      exact zv_go (k_X7_canDissolve_17 hC hR  h) trivial
theorem ok_X7_canDissolve (G : zv_G) {Q : Int32 → zv_St → Prop} {x1 : Int32} {x2 : Int32} {x3 : Int32} {σ : zv_St} (h : B_X7_canDissolve Q x1 x2 x3 σ) : zv_OK G M_X7_canDissolve yX7_canDissolve [.ref (G.2.2.1 39), .int x1, .int x2, .int x3] σ (zv_qi Q) := zv_ok G _ _ _ _ _ (by decide +kernel) rfl (Nat.le_of_ble_eq_true rfl) (fun X hC hR => zv_go (k_X7_canDissolve_0 hC hR h) ⟨rfl, rfl, rfl, rfl, trivial⟩)
-- X7_dissolve
def B_X7_dissolve_45 (Q : zv_St → Prop) (kk2 : Int32 → Int32 → Int32 → zv_St → Prop) (x1 : Int32) (x2 : Int32) (x3 : Int32) (y1 : Int32) (σ : zv_St) : Prop :=
  B_X5_partAt (fun r_2 σ_1 => B_X6_add (fun σ_3 => kk2 x1 x2 (x3 + 1) σ_3) y1 r_2 σ_1) x2 x3 σ
set_option maxRecDepth 20000 in
set_option maxHeartbeats 2000000 in
theorem k_X7_dissolve_45 {G : zv_G} {X : zv_X} {Q : zv_St → Prop} {kk2 : Int32 → Int32 → Int32 → zv_St → Prop} (hC : zv_C G X M_X7_dissolve) (hR : zv_R G X M_X7_dissolve (zv_qv Q)) (hk2 : ∀ (x1 : Int32) (x2 : Int32) (x3 : Int32) (σ : zv_St), kk2 x1 x2 x3 σ → zv_V G X M_X7_dissolve 2 [(0, .ref (G.2.2.1 39)), (1, .int x1), (2, .int x2), (3, .int x3)] [] σ) {x1 : Int32} {x2 : Int32} {x3 : Int32} {y1 : Int32} {σ : zv_St} (h : B_X7_dissolve_45 Q kk2 x1 x2 x3 y1 σ) : zv_V G X M_X7_dissolve 45 [(0, .ref (G.2.2.1 39)), (1, .int x1), (2, .int x2), (3, .int x3)] [.int y1, .ref (G.2.2.1 42)] σ := by
  unfold B_X7_dissolve_45 at h
  refine zv_aload_n hC dX7_dissolve_45 rfl ?_
  refine zv_getR (j := 5) hC fl_X7_30 dX7_dissolve_46 rfl rfl ?_
  refine zv_iload_n hC dX7_dissolve_49 rfl ?_
  refine zv_iload_n hC dX7_dissolve_50 rfl ?_
  refine zv_callVi (As := [_, _]) hC dX7_dissolve_51 Y_X5_partAt lk_X7_58 (by decide) rfl rfl rfl (Nat.le_of_ble_eq_true rfl) (ok_X5_partAt G h) ?_
  intro r_2 σ_1 h
  refine zv_callVv (As := [_, _]) hC dX7_dissolve_54 Y_X6_add lk_X7_90 (by decide) rfl rfl rfl (Nat.le_of_ble_eq_true rfl) (ok_X6_add G h) ?_
  intro σ_3 h
  refine zv_iinc (v := 1) hC dX7_dissolve_57 rfl (by decide) (by decide) ?_
  refine zv_goto (tgt := 2) hC dX7_dissolve_60 (by decide) ?_
  exact zv_go (hk2 _ _ _ _ h) ⟨rfl, rfl, rfl, rfl, trivial⟩
def B_X7_dissolve_43 (Q : zv_St → Prop) (kk2 : Int32 → Int32 → Int32 → zv_St → Prop) (x1 : Int32) (x2 : Int32) (x3 : Int32) (x4 : Int32) (σ : zv_St) : Prop :=
  B_X7_dissolve_45 Q kk2 x1 x2 x3 x4 σ
set_option maxRecDepth 20000 in
set_option maxHeartbeats 2000000 in
theorem k_X7_dissolve_43 {G : zv_G} {X : zv_X} {Q : zv_St → Prop} {kk2 : Int32 → Int32 → Int32 → zv_St → Prop} (hC : zv_C G X M_X7_dissolve) (hR : zv_R G X M_X7_dissolve (zv_qv Q)) (hk2 : ∀ (x1 : Int32) (x2 : Int32) (x3 : Int32) (σ : zv_St), kk2 x1 x2 x3 σ → zv_V G X M_X7_dissolve 2 [(0, .ref (G.2.2.1 39)), (1, .int x1), (2, .int x2), (3, .int x3)] [] σ) {x1 : Int32} {x2 : Int32} {x3 : Int32} {x4 : Int32} {σ : zv_St} (h : B_X7_dissolve_43 Q kk2 x1 x2 x3 x4 σ) : zv_V G X M_X7_dissolve 43 [(0, .ref (G.2.2.1 39)), (1, .int x1), (2, .int x2), (3, .int x3), (4, .int x4)] [.ref (G.2.2.1 42)] σ := by
  unfold B_X7_dissolve_43 at h
  refine zv_iload hC dX7_dissolve_43 rfl ?_
  exact zv_go (k_X7_dissolve_45 hC hR hk2 h) ⟨rfl, rfl, rfl, rfl, trivial⟩
def L_X7_dissolve_2 (Q : zv_St → Prop) : Nat → (Int32 → Int32 → Int32 → zv_St → Prop)
  | 0 => fun _ _ _ _ => False
  | u + 1 => fun x1 x2 x3 σ => 
    B_X5_size (fun r_2 σ_1 => (r_2 ≤ x3 → (Q σ_1)) ∧ (¬ r_2 ≤ x3 → (B_X5_roleAt (fun r_4 σ_3 => (¬ x1 = 1 → (B_X7_dissolve_43 Q (L_X7_dissolve_2 Q u) x1 x2 x3 r_4 σ_3)) ∧ (x1 = 1 → ((¬ r_4 = 0 → (B_X7_dissolve_43 Q (L_X7_dissolve_2 Q u) x1 x2 x3 r_4 σ_3)) ∧ (r_4 = 0 → (B_X7_dissolve_45 Q (L_X7_dissolve_2 Q u) x1 x2 x3 1 σ_3))))) x2 x3 σ_1))) x2 σ
set_option maxRecDepth 20000 in
set_option maxHeartbeats 2000000 in
theorem kL_X7_dissolve_2 {G : zv_G} {X : zv_X} {Q : zv_St → Prop}  (hC : zv_C G X M_X7_dissolve) (hR : zv_R G X M_X7_dissolve (zv_qv Q))  : ∀ (n : Nat) (x1 : Int32) (x2 : Int32) (x3 : Int32) (σ : zv_St), L_X7_dissolve_2 Q  n x1 x2 x3 σ → zv_V G X M_X7_dissolve 2 [(0, .ref (G.2.2.1 39)), (1, .int x1), (2, .int x2), (3, .int x3)] [] σ := by
  intro n
  induction n with
  | zero => intro x1 x2 x3 σ h; exact h.elim
  | succ n hk2 =>
    intro x1 x2 x3 σ h
    unfold L_X7_dissolve_2 at h
    refine zv_iload_n hC dX7_dissolve_2 rfl ?_
    refine zv_aload_n hC dX7_dissolve_3 rfl ?_
    refine zv_getR (j := 5) hC fl_X7_30 dX7_dissolve_4 rfl rfl ?_
    refine zv_iload_n hC dX7_dissolve_7 rfl ?_
    refine zv_callVi (As := [_]) hC dX7_dissolve_8 Y_X5_size lk_X7_55 (by decide) rfl rfl rfl (Nat.le_of_ble_eq_true rfl) (ok_X5_size G h) ?_
    intro r_2 σ_1 h
    refine zv_icmp_ge (tgt := 63) hC dX7_dissolve_11 (by decide) (fun c => ?_) (fun c => ?_)
    · replace h := h.1 c
      exact (hR _ _ _).2.2.2.1 rfl dX7_dissolve_63 ⟨rfl, h⟩
    · replace h := h.2 c
      refine zv_aload_n hC dX7_dissolve_14 rfl ?_
      refine zv_getR (j := 5) hC fl_X7_30 dX7_dissolve_15 rfl rfl ?_
      refine zv_iload_n hC dX7_dissolve_18 rfl ?_
      refine zv_iload_n hC dX7_dissolve_19 rfl ?_
      refine zv_callVi (As := [_, _]) hC dX7_dissolve_20 Y_X5_roleAt lk_X7_101 (by decide) rfl rfl rfl (Nat.le_of_ble_eq_true rfl) (ok_X5_roleAt G h) ?_
      intro r_4 σ_3 h
      refine zv_istore hC dX7_dissolve_23 (by decide) ?_
      refine zv_aload_n hC dX7_dissolve_25 rfl ?_
      refine zv_getR (j := 42) hC fl_X7_22 dX7_dissolve_26 rfl rfl ?_
      refine zv_iload_n hC dX7_dissolve_29 rfl ?_
      refine zv_iconst (v := 1) hC dX7_dissolve_30 (by decide) ?_
      refine zv_icmp_ne (tgt := 43) hC dX7_dissolve_31 (by decide) (fun c => ?_) (fun c => ?_)
      · replace h := h.1 c
        exact zv_go (k_X7_dissolve_43 hC hR hk2 h) ⟨rfl, rfl, rfl, rfl, rfl, trivial⟩
      · replace h := h.2 c
        refine zv_iload hC dX7_dissolve_34 rfl ?_
        refine zv_if_ne (tgt := 43) hC dX7_dissolve_36 (by decide) (fun c => ?_) (fun c => ?_)
        · replace h := h.1 c
          exact zv_go (k_X7_dissolve_43 hC hR hk2 h) ⟨rfl, rfl, rfl, rfl, rfl, trivial⟩
        · replace h := h.2 c
          refine zv_iconst (v := 1) hC dX7_dissolve_39 (by decide) ?_
          refine zv_goto (tgt := 45) hC dX7_dissolve_40 (by decide) ?_
          exact zv_go (k_X7_dissolve_45 hC hR hk2 h) ⟨rfl, rfl, rfl, rfl, trivial⟩
def B_X7_dissolve (Q : zv_St → Prop) (x1 : Int32) (x2 : Int32) (σ : zv_St) : Prop :=
  ∃ n2, L_X7_dissolve_2 Q n2 x1 x2 0 σ
set_option maxRecDepth 20000 in
set_option maxHeartbeats 2000000 in
theorem k_X7_dissolve_0 {G : zv_G} {X : zv_X} {Q : zv_St → Prop}  (hC : zv_C G X M_X7_dissolve) (hR : zv_R G X M_X7_dissolve (zv_qv Q))  {x1 : Int32} {x2 : Int32} {σ : zv_St} (h : B_X7_dissolve Q  x1 x2 σ) : zv_V G X M_X7_dissolve 0 [(0, .ref (G.2.2.1 39)), (1, .int x1), (2, .int x2)] [] σ := by
  unfold B_X7_dissolve at h
  refine zv_iconst (v := 0) hC dX7_dissolve_0 (by decide) ?_
  refine zv_istore_n hC dX7_dissolve_1 (by decide) ?_
  obtain ⟨n, h⟩ := h
  exact zv_go (kL_X7_dissolve_2 hC hR  n _ _ _ _ h) ⟨rfl, rfl, rfl, rfl, trivial⟩
theorem ok_X7_dissolve (G : zv_G) {Q : zv_St → Prop} {x1 : Int32} {x2 : Int32} {σ : zv_St} (h : B_X7_dissolve Q x1 x2 σ) : zv_OK G M_X7_dissolve yX7_dissolve [.ref (G.2.2.1 39), .int x1, .int x2] σ (zv_qv Q) := zv_ok G _ _ _ _ _ (by decide +kernel) rfl (Nat.le_of_ble_eq_true rfl) (fun X hC hR => zv_go (k_X7_dissolve_0 hC hR h) ⟨rfl, rfl, rfl, trivial⟩)
-- X7_gatherBool
def B_X7_gatherBool_147 (Q : Int32 → zv_St → Prop) (kk9 : Int32 → Int32 → zv_St → Prop) (x1 : Int32) (x2 : Int32) (σ : zv_St) : Prop :=
  kk9 x1 (x2 + 1) σ
set_option maxRecDepth 20000 in
set_option maxHeartbeats 2000000 in
theorem k_X7_gatherBool_147 {G : zv_G} {X : zv_X} {Q : Int32 → zv_St → Prop} {kk9 : Int32 → Int32 → zv_St → Prop} (hC : zv_C G X M_X7_gatherBool) (hR : zv_R G X M_X7_gatherBool (zv_qi Q)) (hk9 : ∀ (x1 : Int32) (x2 : Int32) (σ : zv_St), kk9 x1 x2 σ → zv_V G X M_X7_gatherBool 9 [(0, .ref (G.2.2.1 39)), (1, .int x1), (2, .int x2)] [] σ) {x1 : Int32} {x2 : Int32} {σ : zv_St} (h : B_X7_gatherBool_147 Q kk9 x1 x2 σ) : zv_V G X M_X7_gatherBool 147 [(0, .ref (G.2.2.1 39)), (1, .int x1), (2, .int x2)] [] σ := by
  unfold B_X7_gatherBool_147 at h
  refine zv_iinc (v := 1) hC dX7_gatherBool_147 rfl (by decide) (by decide) ?_
  refine zv_goto (tgt := 9) hC dX7_gatherBool_150 (by decide) ?_
  exact zv_go (hk9 _ _ _ h) ⟨rfl, rfl, rfl, trivial⟩
def B_X7_gatherBool_137 (Q : Int32 → zv_St → Prop) (kk9 : Int32 → Int32 → zv_St → Prop) (x1 : Int32) (x2 : Int32) (x3 : Int32) (x4 : Int32) (σ : zv_St) : Prop :=
  B_X6_add (fun σ_1 => B_X7_gatherBool_147 Q kk9 x1 x2 σ_1) x3 x4 σ
set_option maxRecDepth 20000 in
set_option maxHeartbeats 2000000 in
theorem k_X7_gatherBool_137 {G : zv_G} {X : zv_X} {Q : Int32 → zv_St → Prop} {kk9 : Int32 → Int32 → zv_St → Prop} (hC : zv_C G X M_X7_gatherBool) (hR : zv_R G X M_X7_gatherBool (zv_qi Q)) (hk9 : ∀ (x1 : Int32) (x2 : Int32) (σ : zv_St), kk9 x1 x2 σ → zv_V G X M_X7_gatherBool 9 [(0, .ref (G.2.2.1 39)), (1, .int x1), (2, .int x2)] [] σ) {x1 : Int32} {x2 : Int32} {x3 : Int32} {x4 : Int32} {σ : zv_St} (h : B_X7_gatherBool_137 Q kk9 x1 x2 x3 x4 σ) : zv_V G X M_X7_gatherBool 137 [(0, .ref (G.2.2.1 39)), (1, .int x1), (2, .int x2), (3, .int x3), (4, .int x4)] [] σ := by
  unfold B_X7_gatherBool_137 at h
  refine zv_aload_n hC dX7_gatherBool_137 rfl ?_
  refine zv_getR (j := 42) hC fl_X7_22 dX7_gatherBool_138 rfl rfl ?_
  refine zv_iload_n hC dX7_gatherBool_141 rfl ?_
  refine zv_iload hC dX7_gatherBool_142 rfl ?_
  refine zv_callVv (As := [_, _]) hC dX7_gatherBool_144 Y_X6_add lk_X7_90 (by decide) rfl rfl rfl (Nat.le_of_ble_eq_true rfl) (ok_X6_add G h) ?_
  intro σ_1 h
  exact zv_go (k_X7_gatherBool_147 hC hR hk9 h) ⟨rfl, rfl, rfl, trivial⟩
def L_X7_gatherBool_9 (Q : Int32 → zv_St → Prop) : Nat → (Int32 → Int32 → zv_St → Prop)
  | 0 => fun _ _ _ => False
  | u + 1 => fun x1 x2 σ => 
    B_X5_size (fun r_2 σ_1 => (r_2 ≤ x2 → (Q 1 σ_1)) ∧ (¬ r_2 ≤ x2 → (B_X5_roleAt (fun r_4 σ_3 => B_X5_partAt (fun r_6 σ_5 => vp_in r_6 80 ∧ ∀ v_7 : Int32, v_7 = (σ_5.1 41 r_6.toNatClampNeg) → B_X5_size (fun r_9 σ_8 => B_X5_kind (fun r_11 σ_10 => (¬ r_11 = 7 → (B_X5_first (fun r_13 σ_12 => B_X7_canDissolve (fun r_15 σ_14 => (r_15 = 0 → (B_X7_gatherBool_137 Q (L_X7_gatherBool_9 Q u) x1 x2 r_4 v_7 σ_14)) ∧ (¬ r_15 = 0 → (B_X6_size (fun r_17 σ_16 => B_X5_size (fun r_19 σ_18 => (8 < ((r_17 + r_19) + ((r_9 - x2) - 1)) → (B_X7_gatherBool_137 Q (L_X7_gatherBool_9 Q u) x1 x2 r_4 v_7 σ_18)) ∧ (¬ 8 < ((r_17 + r_19) + ((r_9 - x2) - 1)) → (B_X7_dissolve (fun σ_20 => B_X7_gatherBool_147 Q (L_X7_gatherBool_9 Q u) x1 x2 σ_20) r_4 v_7 σ_18))) v_7 σ_16) σ_14))) r_4 v_7 r_13 σ_12) x1 σ_10)) ∧ (r_11 = 7 → (B_X10_isNeeded (fun r_22 σ_21 => (r_22 = 0 → (B_X7_gatherBool_147 Q (L_X7_gatherBool_9 Q u) x1 x2 σ_21)) ∧ (¬ r_22 = 0 → (Q 0 σ_21))) r_4 σ_10))) v_7 σ_8) x1 σ_5) x1 x2 σ_3) x1 x2 σ_1))) x1 σ
set_option maxRecDepth 20000 in
set_option maxHeartbeats 2000000 in
theorem kL_X7_gatherBool_9 {G : zv_G} {X : zv_X} {Q : Int32 → zv_St → Prop}  (hC : zv_C G X M_X7_gatherBool) (hR : zv_R G X M_X7_gatherBool (zv_qi Q))  : ∀ (n : Nat) (x1 : Int32) (x2 : Int32) (σ : zv_St), L_X7_gatherBool_9 Q  n x1 x2 σ → zv_V G X M_X7_gatherBool 9 [(0, .ref (G.2.2.1 39)), (1, .int x1), (2, .int x2)] [] σ := by
  intro n
  induction n with
  | zero => intro x1 x2 σ h; exact h.elim
  | succ n hk9 =>
    intro x1 x2 σ h
    unfold L_X7_gatherBool_9 at h
    refine zv_iload_n hC dX7_gatherBool_9 rfl ?_
    refine zv_aload_n hC dX7_gatherBool_10 rfl ?_
    refine zv_getR (j := 5) hC fl_X7_30 dX7_gatherBool_11 rfl rfl ?_
    refine zv_iload_n hC dX7_gatherBool_14 rfl ?_
    refine zv_callVi (As := [_]) hC dX7_gatherBool_15 Y_X5_size lk_X7_55 (by decide) rfl rfl rfl (Nat.le_of_ble_eq_true rfl) (ok_X5_size G h) ?_
    intro r_2 σ_1 h
    refine zv_icmp_ge (tgt := 153) hC dX7_gatherBool_18 (by decide) (fun c => ?_) (fun c => ?_)
    · replace h := h.1 c
      refine zv_iconst (v := 1) hC dX7_gatherBool_153 (by decide) ?_
      exact (hR _ _ _).2.1 _ rfl rfl dX7_gatherBool_154 ⟨_, rfl, h⟩
    · replace h := h.2 c
      refine zv_aload_n hC dX7_gatherBool_21 rfl ?_
      refine zv_getR (j := 5) hC fl_X7_30 dX7_gatherBool_22 rfl rfl ?_
      refine zv_iload_n hC dX7_gatherBool_25 rfl ?_
      refine zv_iload_n hC dX7_gatherBool_26 rfl ?_
      refine zv_callVi (As := [_, _]) hC dX7_gatherBool_27 Y_X5_roleAt lk_X7_101 (by decide) rfl rfl rfl (Nat.le_of_ble_eq_true rfl) (ok_X5_roleAt G h) ?_
      intro r_4 σ_3 h
      refine zv_istore_n hC dX7_gatherBool_30 (by decide) ?_
      refine zv_aload_n hC dX7_gatherBool_31 rfl ?_
      refine zv_getR (j := 41) hC fl_X7_15 dX7_gatherBool_32 rfl rfl ?_
      refine zv_aload_n hC dX7_gatherBool_35 rfl ?_
      refine zv_getR (j := 5) hC fl_X7_30 dX7_gatherBool_36 rfl rfl ?_
      refine zv_iload_n hC dX7_gatherBool_39 rfl ?_
      refine zv_iload_n hC dX7_gatherBool_40 rfl ?_
      refine zv_callVi (As := [_, _]) hC dX7_gatherBool_41 Y_X5_partAt lk_X7_58 (by decide) rfl rfl rfl (Nat.le_of_ble_eq_true rfl) (ok_X5_partAt G h) ?_
      intro r_6 σ_5 h
      refine zv_iald hC dX7_gatherBool_44 rfl h.1 ?_
      replace h := h.2
      replace h := h _ rfl
      refine zv_istore hC dX7_gatherBool_45 (by decide) ?_
      refine zv_aload_n hC dX7_gatherBool_47 rfl ?_
      refine zv_getR (j := 5) hC fl_X7_30 dX7_gatherBool_48 rfl rfl ?_
      refine zv_iload_n hC dX7_gatherBool_51 rfl ?_
      refine zv_callVi (As := [_]) hC dX7_gatherBool_52 Y_X5_size lk_X7_55 (by decide) rfl rfl rfl (Nat.le_of_ble_eq_true rfl) (ok_X5_size G h) ?_
      intro r_9 σ_8 h
      refine zv_iload_n hC dX7_gatherBool_55 rfl ?_
      refine zv_isub hC dX7_gatherBool_56 ?_
      refine zv_iconst (v := 1) hC dX7_gatherBool_57 (by decide) ?_
      refine zv_isub hC dX7_gatherBool_58 ?_
      refine zv_istore hC dX7_gatherBool_59 (by decide) ?_
      refine zv_aload_n hC dX7_gatherBool_61 rfl ?_
      refine zv_getR (j := 5) hC fl_X7_30 dX7_gatherBool_62 rfl rfl ?_
      refine zv_iload hC dX7_gatherBool_65 rfl ?_
      refine zv_callVi (As := [_]) hC dX7_gatherBool_67 Y_X5_kind lk_X7_62 (by decide) rfl rfl rfl (Nat.le_of_ble_eq_true rfl) (ok_X5_kind G h) ?_
      intro r_11 σ_10 h
      refine zv_bipush (v := 7) hC dX7_gatherBool_70 (by decide) ?_
      refine zv_icmp_ne (tgt := 84) hC dX7_gatherBool_72 (by decide) (fun c => ?_) (fun c => ?_)
      · replace h := h.1 c
        refine zv_aload_n hC dX7_gatherBool_84 rfl ?_
        refine zv_iload_n hC dX7_gatherBool_85 rfl ?_
        refine zv_iload hC dX7_gatherBool_86 rfl ?_
        refine zv_aload_n hC dX7_gatherBool_88 rfl ?_
        refine zv_getR (j := 5) hC fl_X7_30 dX7_gatherBool_89 rfl rfl ?_
        refine zv_iload_n hC dX7_gatherBool_92 rfl ?_
        refine zv_callVi (As := [_]) hC dX7_gatherBool_93 Y_X5_first lk_X7_65 (by decide) rfl rfl rfl (Nat.le_of_ble_eq_true rfl) (ok_X5_first G h) ?_
        intro r_13 σ_12 h
        refine zv_callVi (As := [_, _, _]) hC dX7_gatherBool_96 Y_X7_canDissolve lk_X7_107 (by decide) rfl rfl rfl (Nat.le_of_ble_eq_true rfl) (ok_X7_canDissolve G h) ?_
        intro r_15 σ_14 h
        refine zv_if_eq (tgt := 137) hC dX7_gatherBool_99 (by decide) (fun c => ?_) (fun c => ?_)
        · replace h := h.1 c
          exact zv_go (k_X7_gatherBool_137 hC hR hk9 h) ⟨rfl, rfl, rfl, rfl, rfl, trivial⟩
        · replace h := h.2 c
          refine zv_aload_n hC dX7_gatherBool_102 rfl ?_
          refine zv_getR (j := 42) hC fl_X7_22 dX7_gatherBool_103 rfl rfl ?_
          refine zv_callVi (As := []) hC dX7_gatherBool_106 Y_X6_size lk_X7_94 (by decide) rfl rfl rfl (Nat.le_of_ble_eq_true rfl) (ok_X6_size G h) ?_
          intro r_17 σ_16 h
          refine zv_aload_n hC dX7_gatherBool_109 rfl ?_
          refine zv_getR (j := 5) hC fl_X7_30 dX7_gatherBool_110 rfl rfl ?_
          refine zv_iload hC dX7_gatherBool_113 rfl ?_
          refine zv_callVi (As := [_]) hC dX7_gatherBool_115 Y_X5_size lk_X7_55 (by decide) rfl rfl rfl (Nat.le_of_ble_eq_true rfl) (ok_X5_size G h) ?_
          intro r_19 σ_18 h
          refine zv_iadd hC dX7_gatherBool_118 ?_
          refine zv_iload hC dX7_gatherBool_119 rfl ?_
          refine zv_iadd hC dX7_gatherBool_121 ?_
          refine zv_bipush (v := 8) hC dX7_gatherBool_122 (by decide) ?_
          refine zv_icmp_gt (tgt := 137) hC dX7_gatherBool_124 (by decide) (fun c => ?_) (fun c => ?_)
          · replace h := h.1 c
            exact zv_go (k_X7_gatherBool_137 hC hR hk9 h) ⟨rfl, rfl, rfl, rfl, rfl, trivial⟩
          · replace h := h.2 c
            refine zv_aload_n hC dX7_gatherBool_127 rfl ?_
            refine zv_iload_n hC dX7_gatherBool_128 rfl ?_
            refine zv_iload hC dX7_gatherBool_129 rfl ?_
            refine zv_callVv (As := [_, _]) hC dX7_gatherBool_131 Y_X7_dissolve lk_X7_111 (by decide) rfl rfl rfl (Nat.le_of_ble_eq_true rfl) (ok_X7_dissolve G h) ?_
            intro σ_20 h
            refine zv_goto (tgt := 147) hC dX7_gatherBool_134 (by decide) ?_
            exact zv_go (k_X7_gatherBool_147 hC hR hk9 h) ⟨rfl, rfl, rfl, trivial⟩
      · replace h := h.2 c
        refine zv_iload_n hC dX7_gatherBool_75 rfl ?_
        refine zv_callSNi (As := [_]) hC dX7_gatherBool_76 Y_X10_isNeeded lk_X7_104 (by decide) rfl rfl (Nat.le_of_ble_eq_true rfl) (ok_X10_isNeeded G h) ?_
        intro r_22 σ_21 h
        refine zv_if_eq (tgt := 147) hC dX7_gatherBool_79 (by decide) (fun c => ?_) (fun c => ?_)
        · replace h := h.1 c
          exact zv_go (k_X7_gatherBool_147 hC hR hk9 h) ⟨rfl, rfl, rfl, trivial⟩
        · replace h := h.2 c
          refine zv_iconst (v := 0) hC dX7_gatherBool_82 (by decide) ?_
          exact (hR _ _ _).2.1 _ rfl rfl dX7_gatherBool_83 ⟨_, rfl, h⟩
def B_X7_gatherBool (Q : Int32 → zv_St → Prop) (x1 : Int32) (σ : zv_St) : Prop :=
  B_X6_clear (fun σ_1 => ∃ n9, L_X7_gatherBool_9 Q n9 x1 0 σ_1) σ
set_option maxRecDepth 20000 in
set_option maxHeartbeats 2000000 in
theorem k_X7_gatherBool_0 {G : zv_G} {X : zv_X} {Q : Int32 → zv_St → Prop}  (hC : zv_C G X M_X7_gatherBool) (hR : zv_R G X M_X7_gatherBool (zv_qi Q))  {x1 : Int32} {σ : zv_St} (h : B_X7_gatherBool Q  x1 σ) : zv_V G X M_X7_gatherBool 0 [(0, .ref (G.2.2.1 39)), (1, .int x1)] [] σ := by
  unfold B_X7_gatherBool at h
  refine zv_aload_n hC dX7_gatherBool_0 rfl ?_
  refine zv_getR (j := 42) hC fl_X7_22 dX7_gatherBool_1 rfl rfl ?_
  refine zv_callVv (As := []) hC dX7_gatherBool_4 Y_X6_clear lk_X7_87 (by decide) rfl rfl rfl (Nat.le_of_ble_eq_true rfl) (ok_X6_clear G h) ?_
  intro σ_1 h
  refine zv_iconst (v := 0) hC dX7_gatherBool_7 (by decide) ?_
  refine zv_istore_n hC dX7_gatherBool_8 (by decide) ?_
  obtain ⟨n, h⟩ := h
  exact zv_go (kL_X7_gatherBool_9 hC hR  n _ _ _ h) ⟨rfl, rfl, rfl, trivial⟩
theorem ok_X7_gatherBool (G : zv_G) {Q : Int32 → zv_St → Prop} {x1 : Int32} {σ : zv_St} (h : B_X7_gatherBool Q x1 σ) : zv_OK G M_X7_gatherBool yX7_gatherBool [.ref (G.2.2.1 39), .int x1] σ (zv_qi Q) := zv_ok G _ _ _ _ _ (by decide +kernel) rfl (Nat.le_of_ble_eq_true rfl) (fun X hC hR => zv_go (k_X7_gatherBool_0 hC hR h) ⟨rfl, rfl, trivial⟩)
-- X6_countOf
def B_X6_countOf_25 (Q : Int32 → zv_St → Prop) (kk4 : Int32 → Int32 → Int32 → zv_St → Prop) (x1 : Int32) (x2 : Int32) (x3 : Int32) (σ : zv_St) : Prop :=
  kk4 x1 x2 (x3 + 1) σ
set_option maxRecDepth 20000 in
set_option maxHeartbeats 2000000 in
theorem k_X6_countOf_25 {G : zv_G} {X : zv_X} {Q : Int32 → zv_St → Prop} {kk4 : Int32 → Int32 → Int32 → zv_St → Prop} (hC : zv_C G X M_X6_countOf) (hR : zv_R G X M_X6_countOf (zv_qi Q)) (hk4 : ∀ (x1 : Int32) (x2 : Int32) (x3 : Int32) (σ : zv_St), kk4 x1 x2 x3 σ → zv_V G X M_X6_countOf 4 [(0, .ref (G.2.2.1 42)), (1, .int x1), (2, .int x2), (3, .int x3)] [] σ) {x1 : Int32} {x2 : Int32} {x3 : Int32} {σ : zv_St} (h : B_X6_countOf_25 Q kk4 x1 x2 x3 σ) : zv_V G X M_X6_countOf 25 [(0, .ref (G.2.2.1 42)), (1, .int x1), (2, .int x2), (3, .int x3)] [] σ := by
  unfold B_X6_countOf_25 at h
  refine zv_iinc (v := 1) hC dX6_countOf_25 rfl (by decide) (by decide) ?_
  refine zv_goto (tgt := 4) hC dX6_countOf_28 (by decide) ?_
  exact zv_go (hk4 _ _ _ _ h) ⟨rfl, rfl, rfl, rfl, trivial⟩
def L_X6_countOf_4 (Q : Int32 → zv_St → Prop) : Nat → (Int32 → Int32 → Int32 → zv_St → Prop)
  | 0 => fun _ _ _ _ => False
  | u + 1 => fun x1 x2 x3 σ => 
    ((σ.1 42 2) ≤ x3 → (Q x2 σ)) ∧ (¬ (σ.1 42 2) ≤ x3 → (vp_in x3 8 ∧ (¬ (σ.1 43 x3.toNatClampNeg) = x1 → (B_X6_countOf_25 Q (L_X6_countOf_4 Q u) x1 x2 x3 σ)) ∧ ((σ.1 43 x3.toNatClampNeg) = x1 → (B_X6_countOf_25 Q (L_X6_countOf_4 Q u) x1 (x2 + 1) x3 σ))))
set_option maxRecDepth 20000 in
set_option maxHeartbeats 2000000 in
theorem kL_X6_countOf_4 {G : zv_G} {X : zv_X} {Q : Int32 → zv_St → Prop}  (hC : zv_C G X M_X6_countOf) (hR : zv_R G X M_X6_countOf (zv_qi Q))  : ∀ (n : Nat) (x1 : Int32) (x2 : Int32) (x3 : Int32) (σ : zv_St), L_X6_countOf_4 Q  n x1 x2 x3 σ → zv_V G X M_X6_countOf 4 [(0, .ref (G.2.2.1 42)), (1, .int x1), (2, .int x2), (3, .int x3)] [] σ := by
  intro n
  induction n with
  | zero => intro x1 x2 x3 σ h; exact h.elim
  | succ n hk4 =>
    intro x1 x2 x3 σ h
    unfold L_X6_countOf_4 at h
    refine zv_iload_n hC dX6_countOf_4 rfl ?_
    refine zv_aload_n hC dX6_countOf_5 rfl ?_
    refine zv_getI hC fl_X6_18 dX6_countOf_6 rfl rfl ?_
    refine zv_icmp_ge (tgt := 31) hC dX6_countOf_9 (by decide) (fun c => ?_) (fun c => ?_)
    · replace h := h.1 c
      refine zv_iload_n hC dX6_countOf_31 rfl ?_
      exact (hR _ _ _).1 _ rfl dX6_countOf_32 ⟨_, rfl, h⟩
    · replace h := h.2 c
      refine zv_aload_n hC dX6_countOf_12 rfl ?_
      refine zv_getR (j := 43) hC fl_X6_9 dX6_countOf_13 rfl rfl ?_
      refine zv_iload_n hC dX6_countOf_16 rfl ?_
      refine zv_iald hC dX6_countOf_17 rfl h.1 ?_
      replace h := h.2
      refine zv_iload_n hC dX6_countOf_18 rfl ?_
      refine zv_icmp_ne (tgt := 25) hC dX6_countOf_19 (by decide) (fun c => ?_) (fun c => ?_)
      · replace h := h.1 c
        exact zv_go (k_X6_countOf_25 hC hR hk4 h) ⟨rfl, rfl, rfl, rfl, trivial⟩
      · replace h := h.2 c
        refine zv_iinc (v := 1) hC dX6_countOf_22 rfl (by decide) (by decide) ?_
        exact zv_go (k_X6_countOf_25 hC hR hk4 h) ⟨rfl, rfl, rfl, rfl, trivial⟩
def B_X6_countOf (Q : Int32 → zv_St → Prop) (x1 : Int32) (σ : zv_St) : Prop :=
  ∃ n4, L_X6_countOf_4 Q n4 x1 0 0 σ
set_option maxRecDepth 20000 in
set_option maxHeartbeats 2000000 in
theorem k_X6_countOf_0 {G : zv_G} {X : zv_X} {Q : Int32 → zv_St → Prop}  (hC : zv_C G X M_X6_countOf) (hR : zv_R G X M_X6_countOf (zv_qi Q))  {x1 : Int32} {σ : zv_St} (h : B_X6_countOf Q  x1 σ) : zv_V G X M_X6_countOf 0 [(0, .ref (G.2.2.1 42)), (1, .int x1)] [] σ := by
  unfold B_X6_countOf at h
  refine zv_iconst (v := 0) hC dX6_countOf_0 (by decide) ?_
  refine zv_istore_n hC dX6_countOf_1 (by decide) ?_
  refine zv_iconst (v := 0) hC dX6_countOf_2 (by decide) ?_
  refine zv_istore_n hC dX6_countOf_3 (by decide) ?_
  obtain ⟨n, h⟩ := h
  exact zv_go (kL_X6_countOf_4 hC hR  n _ _ _ _ h) ⟨rfl, rfl, rfl, rfl, trivial⟩
theorem ok_X6_countOf (G : zv_G) {Q : Int32 → zv_St → Prop} {x1 : Int32} {σ : zv_St} (h : B_X6_countOf Q x1 σ) : zv_OK G M_X6_countOf yX6_countOf [.ref (G.2.2.1 42), .int x1] σ (zv_qi Q) := zv_ok G _ _ _ _ _ (by decide +kernel) rfl (Nat.le_of_ble_eq_true rfl) (fun X hC hR => zv_go (k_X6_countOf_0 hC hR h) ⟨rfl, rfl, trivial⟩)
-- X6_makeShouldsMusts
def B_X6_makeShouldsMusts_27 (Q : zv_St → Prop) (kk2 : Int32 → zv_St → Prop) (x1 : Int32) (σ : zv_St) : Prop :=
  kk2 (x1 + 1) σ
set_option maxRecDepth 20000 in
set_option maxHeartbeats 2000000 in
theorem k_X6_makeShouldsMusts_27 {G : zv_G} {X : zv_X} {Q : zv_St → Prop} {kk2 : Int32 → zv_St → Prop} (hC : zv_C G X M_X6_makeShouldsMusts) (hR : zv_R G X M_X6_makeShouldsMusts (zv_qv Q)) (hk2 : ∀ (x1 : Int32) (σ : zv_St), kk2 x1 σ → zv_V G X M_X6_makeShouldsMusts 2 [(0, .ref (G.2.2.1 42)), (1, .int x1)] [] σ) {x1 : Int32} {σ : zv_St} (h : B_X6_makeShouldsMusts_27 Q kk2 x1 σ) : zv_V G X M_X6_makeShouldsMusts 27 [(0, .ref (G.2.2.1 42)), (1, .int x1)] [] σ := by
  unfold B_X6_makeShouldsMusts_27 at h
  refine zv_iinc (v := 1) hC dX6_makeShouldsMusts_27 rfl (by decide) (by decide) ?_
  refine zv_goto (tgt := 2) hC dX6_makeShouldsMusts_30 (by decide) ?_
  exact zv_go (hk2 _ _ h) ⟨rfl, rfl, trivial⟩
def L_X6_makeShouldsMusts_2 (Q : zv_St → Prop) : Nat → (Int32 → zv_St → Prop)
  | 0 => fun _ _ => False
  | u + 1 => fun x1 σ => 
    ((σ.1 42 2) ≤ x1 → (Q σ)) ∧ (¬ (σ.1 42 2) ≤ x1 → (vp_in x1 8 ∧ (¬ (σ.1 43 x1.toNatClampNeg) = 3 → (B_X6_makeShouldsMusts_27 Q (L_X6_makeShouldsMusts_2 Q u) x1 σ)) ∧ ((σ.1 43 x1.toNatClampNeg) = 3 → (vp_in x1 8 ∧ ∀ σ_1 : zv_St, σ_1 = zv_wi σ 43 x1.toNatClampNeg 0 → B_X6_makeShouldsMusts_27 Q (L_X6_makeShouldsMusts_2 Q u) x1 σ_1))))
set_option maxRecDepth 20000 in
set_option maxHeartbeats 2000000 in
theorem kL_X6_makeShouldsMusts_2 {G : zv_G} {X : zv_X} {Q : zv_St → Prop}  (hC : zv_C G X M_X6_makeShouldsMusts) (hR : zv_R G X M_X6_makeShouldsMusts (zv_qv Q))  : ∀ (n : Nat) (x1 : Int32) (σ : zv_St), L_X6_makeShouldsMusts_2 Q  n x1 σ → zv_V G X M_X6_makeShouldsMusts 2 [(0, .ref (G.2.2.1 42)), (1, .int x1)] [] σ := by
  intro n
  induction n with
  | zero => intro x1 σ h; exact h.elim
  | succ n hk2 =>
    intro x1 σ h
    unfold L_X6_makeShouldsMusts_2 at h
    refine zv_iload_n hC dX6_makeShouldsMusts_2 rfl ?_
    refine zv_aload_n hC dX6_makeShouldsMusts_3 rfl ?_
    refine zv_getI hC fl_X6_18 dX6_makeShouldsMusts_4 rfl rfl ?_
    refine zv_icmp_ge (tgt := 33) hC dX6_makeShouldsMusts_7 (by decide) (fun c => ?_) (fun c => ?_)
    · replace h := h.1 c
      exact (hR _ _ _).2.2.2.1 rfl dX6_makeShouldsMusts_33 ⟨rfl, h⟩
    · replace h := h.2 c
      refine zv_aload_n hC dX6_makeShouldsMusts_10 rfl ?_
      refine zv_getR (j := 43) hC fl_X6_9 dX6_makeShouldsMusts_11 rfl rfl ?_
      refine zv_iload_n hC dX6_makeShouldsMusts_14 rfl ?_
      refine zv_iald hC dX6_makeShouldsMusts_15 rfl h.1 ?_
      replace h := h.2
      refine zv_iconst (v := 3) hC dX6_makeShouldsMusts_16 (by decide) ?_
      refine zv_icmp_ne (tgt := 27) hC dX6_makeShouldsMusts_17 (by decide) (fun c => ?_) (fun c => ?_)
      · replace h := h.1 c
        exact zv_go (k_X6_makeShouldsMusts_27 hC hR hk2 h) ⟨rfl, rfl, trivial⟩
      · replace h := h.2 c
        refine zv_aload_n hC dX6_makeShouldsMusts_20 rfl ?_
        refine zv_getR (j := 43) hC fl_X6_9 dX6_makeShouldsMusts_21 rfl rfl ?_
        refine zv_iload_n hC dX6_makeShouldsMusts_24 rfl ?_
        refine zv_iconst (v := 0) hC dX6_makeShouldsMusts_25 (by decide) ?_
        refine zv_iast hC dX6_makeShouldsMusts_26 rfl h.1 ?_
        replace h := h.2 _ rfl
        exact zv_go (k_X6_makeShouldsMusts_27 hC hR hk2 h) ⟨rfl, rfl, trivial⟩
def B_X6_makeShouldsMusts (Q : zv_St → Prop) (σ : zv_St) : Prop :=
  ∃ n2, L_X6_makeShouldsMusts_2 Q n2 0 σ
set_option maxRecDepth 20000 in
set_option maxHeartbeats 2000000 in
theorem k_X6_makeShouldsMusts_0 {G : zv_G} {X : zv_X} {Q : zv_St → Prop}  (hC : zv_C G X M_X6_makeShouldsMusts) (hR : zv_R G X M_X6_makeShouldsMusts (zv_qv Q))   {σ : zv_St} (h : B_X6_makeShouldsMusts Q   σ) : zv_V G X M_X6_makeShouldsMusts 0 [(0, .ref (G.2.2.1 42))] [] σ := by
  unfold B_X6_makeShouldsMusts at h
  refine zv_iconst (v := 0) hC dX6_makeShouldsMusts_0 (by decide) ?_
  refine zv_istore_n hC dX6_makeShouldsMusts_1 (by decide) ?_
  obtain ⟨n, h⟩ := h
  exact zv_go (kL_X6_makeShouldsMusts_2 hC hR  n _ _ h) ⟨rfl, rfl, trivial⟩
theorem ok_X6_makeShouldsMusts (G : zv_G) {Q : zv_St → Prop}  {σ : zv_St} (h : B_X6_makeShouldsMusts Q  σ) : zv_OK G M_X6_makeShouldsMusts yX6_makeShouldsMusts [.ref (G.2.2.1 42)] σ (zv_qv Q) := zv_ok G _ _ _ _ _ (by decide +kernel) rfl (Nat.le_of_ble_eq_true rfl) (fun X hC hR => zv_go (k_X6_makeShouldsMusts_0 hC hR h) ⟨rfl, trivial⟩)
-- X6_hasAhead
def B_X6_hasAhead_33 (Q : Int32 → zv_St → Prop) (kk3 : Int32 → Int32 → Int32 → Int32 → zv_St → Prop) (x1 : Int32) (x2 : Int32) (x3 : Int32) (x4 : Int32) (σ : zv_St) : Prop :=
  kk3 x1 x2 x3 (x4 + 1) σ
set_option maxRecDepth 20000 in
set_option maxHeartbeats 2000000 in
theorem k_X6_hasAhead_33 {G : zv_G} {X : zv_X} {Q : Int32 → zv_St → Prop} {kk3 : Int32 → Int32 → Int32 → Int32 → zv_St → Prop} (hC : zv_C G X M_X6_hasAhead) (hR : zv_R G X M_X6_hasAhead (zv_qi Q)) (hk3 : ∀ (x1 : Int32) (x2 : Int32) (x3 : Int32) (x4 : Int32) (σ : zv_St), kk3 x1 x2 x3 x4 σ → zv_V G X M_X6_hasAhead 3 [(0, .ref (G.2.2.1 42)), (1, .int x1), (2, .int x2), (3, .int x3), (4, .int x4)] [] σ) {x1 : Int32} {x2 : Int32} {x3 : Int32} {x4 : Int32} {σ : zv_St} (h : B_X6_hasAhead_33 Q kk3 x1 x2 x3 x4 σ) : zv_V G X M_X6_hasAhead 33 [(0, .ref (G.2.2.1 42)), (1, .int x1), (2, .int x2), (3, .int x3), (4, .int x4)] [] σ := by
  unfold B_X6_hasAhead_33 at h
  refine zv_iinc (v := 1) hC dX6_hasAhead_33 rfl (by decide) (by decide) ?_
  refine zv_goto (tgt := 3) hC dX6_hasAhead_36 (by decide) ?_
  exact zv_go (hk3 _ _ _ _ _ h) ⟨rfl, rfl, rfl, rfl, rfl, trivial⟩
def L_X6_hasAhead_3 (Q : Int32 → zv_St → Prop) : Nat → (Int32 → Int32 → Int32 → Int32 → zv_St → Prop)
  | 0 => fun _ _ _ _ _ => False
  | u + 1 => fun x1 x2 x3 x4 σ => 
    (x1 ≤ x4 → (Q 0 σ)) ∧ (¬ x1 ≤ x4 → (vp_in x4 8 ∧ (¬ (σ.1 43 x4.toNatClampNeg) = x2 → (B_X6_hasAhead_33 Q (L_X6_hasAhead_3 Q u) x1 x2 x3 x4 σ)) ∧ ((σ.1 43 x4.toNatClampNeg) = x2 → (vp_in x4 8 ∧ (¬ (σ.1 44 x4.toNatClampNeg) = x3 → (B_X6_hasAhead_33 Q (L_X6_hasAhead_3 Q u) x1 x2 x3 x4 σ)) ∧ ((σ.1 44 x4.toNatClampNeg) = x3 → (Q 1 σ))))))
set_option maxRecDepth 20000 in
set_option maxHeartbeats 2000000 in
theorem kL_X6_hasAhead_3 {G : zv_G} {X : zv_X} {Q : Int32 → zv_St → Prop}  (hC : zv_C G X M_X6_hasAhead) (hR : zv_R G X M_X6_hasAhead (zv_qi Q))  : ∀ (n : Nat) (x1 : Int32) (x2 : Int32) (x3 : Int32) (x4 : Int32) (σ : zv_St), L_X6_hasAhead_3 Q  n x1 x2 x3 x4 σ → zv_V G X M_X6_hasAhead 3 [(0, .ref (G.2.2.1 42)), (1, .int x1), (2, .int x2), (3, .int x3), (4, .int x4)] [] σ := by
  intro n
  induction n with
  | zero => intro x1 x2 x3 x4 σ h; exact h.elim
  | succ n hk3 =>
    intro x1 x2 x3 x4 σ h
    unfold L_X6_hasAhead_3 at h
    refine zv_iload hC dX6_hasAhead_3 rfl ?_
    refine zv_iload_n hC dX6_hasAhead_5 rfl ?_
    refine zv_icmp_ge (tgt := 39) hC dX6_hasAhead_6 (by decide) (fun c => ?_) (fun c => ?_)
    · replace h := h.1 c
      refine zv_iconst (v := 0) hC dX6_hasAhead_39 (by decide) ?_
      exact (hR _ _ _).2.1 _ rfl rfl dX6_hasAhead_40 ⟨_, rfl, h⟩
    · replace h := h.2 c
      refine zv_aload_n hC dX6_hasAhead_9 rfl ?_
      refine zv_getR (j := 43) hC fl_X6_9 dX6_hasAhead_10 rfl rfl ?_
      refine zv_iload hC dX6_hasAhead_13 rfl ?_
      refine zv_iald hC dX6_hasAhead_15 rfl h.1 ?_
      replace h := h.2
      refine zv_iload_n hC dX6_hasAhead_16 rfl ?_
      refine zv_icmp_ne (tgt := 33) hC dX6_hasAhead_17 (by decide) (fun c => ?_) (fun c => ?_)
      · replace h := h.1 c
        exact zv_go (k_X6_hasAhead_33 hC hR hk3 h) ⟨rfl, rfl, rfl, rfl, rfl, trivial⟩
      · replace h := h.2 c
        refine zv_aload_n hC dX6_hasAhead_20 rfl ?_
        refine zv_getR (j := 44) hC fl_X6_15 dX6_hasAhead_21 rfl rfl ?_
        refine zv_iload hC dX6_hasAhead_24 rfl ?_
        refine zv_iald hC dX6_hasAhead_26 rfl h.1 ?_
        replace h := h.2
        refine zv_iload_n hC dX6_hasAhead_27 rfl ?_
        refine zv_icmp_ne (tgt := 33) hC dX6_hasAhead_28 (by decide) (fun c => ?_) (fun c => ?_)
        · replace h := h.1 c
          exact zv_go (k_X6_hasAhead_33 hC hR hk3 h) ⟨rfl, rfl, rfl, rfl, rfl, trivial⟩
        · replace h := h.2 c
          refine zv_iconst (v := 1) hC dX6_hasAhead_31 (by decide) ?_
          exact (hR _ _ _).2.1 _ rfl rfl dX6_hasAhead_32 ⟨_, rfl, h⟩
def B_X6_hasAhead (Q : Int32 → zv_St → Prop) (x1 : Int32) (x2 : Int32) (x3 : Int32) (σ : zv_St) : Prop :=
  ∃ n3, L_X6_hasAhead_3 Q n3 x1 x2 x3 0 σ
set_option maxRecDepth 20000 in
set_option maxHeartbeats 2000000 in
theorem k_X6_hasAhead_0 {G : zv_G} {X : zv_X} {Q : Int32 → zv_St → Prop}  (hC : zv_C G X M_X6_hasAhead) (hR : zv_R G X M_X6_hasAhead (zv_qi Q))  {x1 : Int32} {x2 : Int32} {x3 : Int32} {σ : zv_St} (h : B_X6_hasAhead Q  x1 x2 x3 σ) : zv_V G X M_X6_hasAhead 0 [(0, .ref (G.2.2.1 42)), (1, .int x1), (2, .int x2), (3, .int x3)] [] σ := by
  unfold B_X6_hasAhead at h
  refine zv_iconst (v := 0) hC dX6_hasAhead_0 (by decide) ?_
  refine zv_istore hC dX6_hasAhead_1 (by decide) ?_
  obtain ⟨n, h⟩ := h
  exact zv_go (kL_X6_hasAhead_3 hC hR  n _ _ _ _ _ h) ⟨rfl, rfl, rfl, rfl, rfl, trivial⟩
theorem ok_X6_hasAhead (G : zv_G) {Q : Int32 → zv_St → Prop} {x1 : Int32} {x2 : Int32} {x3 : Int32} {σ : zv_St} (h : B_X6_hasAhead Q x1 x2 x3 σ) : zv_OK G M_X6_hasAhead yX6_hasAhead [.ref (G.2.2.1 42), .int x1, .int x2, .int x3] σ (zv_qi Q) := zv_ok G _ _ _ _ _ (by decide +kernel) rfl (Nat.le_of_ble_eq_true rfl) (fun X hC hR => zv_go (k_X6_hasAhead_0 hC hR h) ⟨rfl, rfl, rfl, rfl, trivial⟩)
-- X6_contradictsItself
def B_X6_contradictsItself_58 (Q : Int32 → zv_St → Prop) (kk2 : Int32 → zv_St → Prop) (x1 : Int32) (σ : zv_St) : Prop :=
  kk2 (x1 + 1) σ
set_option maxRecDepth 20000 in
set_option maxHeartbeats 2000000 in
theorem k_X6_contradictsItself_58 {G : zv_G} {X : zv_X} {Q : Int32 → zv_St → Prop} {kk2 : Int32 → zv_St → Prop} (hC : zv_C G X M_X6_contradictsItself) (hR : zv_R G X M_X6_contradictsItself (zv_qi Q)) (hk2 : ∀ (x1 : Int32) (σ : zv_St), kk2 x1 σ → zv_V G X M_X6_contradictsItself 2 [(0, .ref (G.2.2.1 42)), (1, .int x1)] [] σ) {x1 : Int32} {σ : zv_St} (h : B_X6_contradictsItself_58 Q kk2 x1 σ) : zv_V G X M_X6_contradictsItself 58 [(0, .ref (G.2.2.1 42)), (1, .int x1)] [] σ := by
  unfold B_X6_contradictsItself_58 at h
  refine zv_iinc (v := 1) hC dX6_contradictsItself_58 rfl (by decide) (by decide) ?_
  refine zv_goto (tgt := 2) hC dX6_contradictsItself_61 (by decide) ?_
  exact zv_go (hk2 _ _ h) ⟨rfl, rfl, trivial⟩
def B_X6_contradictsItself_56 (Q : Int32 → zv_St → Prop) (σ : zv_St) : Prop :=
  Q 1 σ
set_option maxRecDepth 20000 in
set_option maxHeartbeats 2000000 in
theorem k_X6_contradictsItself_56 {G : zv_G} {X : zv_X} {Q : Int32 → zv_St → Prop}  (hC : zv_C G X M_X6_contradictsItself) (hR : zv_R G X M_X6_contradictsItself (zv_qi Q))   {σ : zv_St} (h : B_X6_contradictsItself_56 Q   σ) : zv_V G X M_X6_contradictsItself 56 [] [] σ := by
  unfold B_X6_contradictsItself_56 at h
  refine zv_iconst (v := 1) hC dX6_contradictsItself_56 (by decide) ?_
  exact (hR _ _ _).2.1 _ rfl rfl dX6_contradictsItself_57 ⟨_, rfl, h⟩
def L_X6_contradictsItself_2 (Q : Int32 → zv_St → Prop) : Nat → (Int32 → zv_St → Prop)
  | 0 => fun _ _ => False
  | u + 1 => fun x1 σ => 
    ((σ.1 42 2) ≤ x1 → (Q 0 σ)) ∧ (¬ (σ.1 42 2) ≤ x1 → (vp_in x1 8 ∧ (¬ (σ.1 43 x1.toNatClampNeg) = 2 → (B_X6_contradictsItself_58 Q (L_X6_contradictsItself_2 Q u) x1 σ)) ∧ ((σ.1 43 x1.toNatClampNeg) = 2 → (vp_in x1 8 ∧ B_X6_hasAhead (fun r_2 σ_1 => (¬ r_2 = 0 → (B_X6_contradictsItself_56 Q σ_1)) ∧ (r_2 = 0 → (vp_in x1 8 ∧ B_X6_hasAhead (fun r_4 σ_3 => (r_4 = 0 → (B_X6_contradictsItself_58 Q (L_X6_contradictsItself_2 Q u) x1 σ_3)) ∧ (¬ r_4 = 0 → (B_X6_contradictsItself_56 Q σ_3))) (σ_1.1 42 2) 1 (σ_1.1 44 x1.toNatClampNeg) σ_1))) (σ.1 42 2) 0 (σ.1 44 x1.toNatClampNeg) σ))))
set_option maxRecDepth 20000 in
set_option maxHeartbeats 2000000 in
theorem kL_X6_contradictsItself_2 {G : zv_G} {X : zv_X} {Q : Int32 → zv_St → Prop}  (hC : zv_C G X M_X6_contradictsItself) (hR : zv_R G X M_X6_contradictsItself (zv_qi Q))  : ∀ (n : Nat) (x1 : Int32) (σ : zv_St), L_X6_contradictsItself_2 Q  n x1 σ → zv_V G X M_X6_contradictsItself 2 [(0, .ref (G.2.2.1 42)), (1, .int x1)] [] σ := by
  intro n
  induction n with
  | zero => intro x1 σ h; exact h.elim
  | succ n hk2 =>
    intro x1 σ h
    unfold L_X6_contradictsItself_2 at h
    refine zv_iload_n hC dX6_contradictsItself_2 rfl ?_
    refine zv_aload_n hC dX6_contradictsItself_3 rfl ?_
    refine zv_getI hC fl_X6_18 dX6_contradictsItself_4 rfl rfl ?_
    refine zv_icmp_ge (tgt := 64) hC dX6_contradictsItself_7 (by decide) (fun c => ?_) (fun c => ?_)
    · replace h := h.1 c
      refine zv_iconst (v := 0) hC dX6_contradictsItself_64 (by decide) ?_
      exact (hR _ _ _).2.1 _ rfl rfl dX6_contradictsItself_65 ⟨_, rfl, h⟩
    · replace h := h.2 c
      refine zv_aload_n hC dX6_contradictsItself_10 rfl ?_
      refine zv_getR (j := 43) hC fl_X6_9 dX6_contradictsItself_11 rfl rfl ?_
      refine zv_iload_n hC dX6_contradictsItself_14 rfl ?_
      refine zv_iald hC dX6_contradictsItself_15 rfl h.1 ?_
      replace h := h.2
      refine zv_iconst (v := 2) hC dX6_contradictsItself_16 (by decide) ?_
      refine zv_icmp_ne (tgt := 58) hC dX6_contradictsItself_17 (by decide) (fun c => ?_) (fun c => ?_)
      · replace h := h.1 c
        exact zv_go (k_X6_contradictsItself_58 hC hR hk2 h) ⟨rfl, rfl, trivial⟩
      · replace h := h.2 c
        refine zv_aload_n hC dX6_contradictsItself_20 rfl ?_
        refine zv_aload_n hC dX6_contradictsItself_21 rfl ?_
        refine zv_getI hC fl_X6_18 dX6_contradictsItself_22 rfl rfl ?_
        refine zv_iconst (v := 0) hC dX6_contradictsItself_25 (by decide) ?_
        refine zv_aload_n hC dX6_contradictsItself_26 rfl ?_
        refine zv_getR (j := 44) hC fl_X6_15 dX6_contradictsItself_27 rfl rfl ?_
        refine zv_iload_n hC dX6_contradictsItself_30 rfl ?_
        refine zv_iald hC dX6_contradictsItself_31 rfl h.1 ?_
        replace h := h.2
        refine zv_callVi (As := [_, _, _]) hC dX6_contradictsItself_32 Y_X6_hasAhead lk_X6_22 (by decide) rfl rfl rfl (Nat.le_of_ble_eq_true rfl) (ok_X6_hasAhead G h) ?_
        intro r_2 σ_1 h
        refine zv_if_ne (tgt := 56) hC dX6_contradictsItself_35 (by decide) (fun c => ?_) (fun c => ?_)
        · replace h := h.1 c
          exact zv_go (k_X6_contradictsItself_56 hC hR  h) trivial
        · replace h := h.2 c
          refine zv_aload_n hC dX6_contradictsItself_38 rfl ?_
          refine zv_aload_n hC dX6_contradictsItself_39 rfl ?_
          refine zv_getI hC fl_X6_18 dX6_contradictsItself_40 rfl rfl ?_
          refine zv_iconst (v := 1) hC dX6_contradictsItself_43 (by decide) ?_
          refine zv_aload_n hC dX6_contradictsItself_44 rfl ?_
          refine zv_getR (j := 44) hC fl_X6_15 dX6_contradictsItself_45 rfl rfl ?_
          refine zv_iload_n hC dX6_contradictsItself_48 rfl ?_
          refine zv_iald hC dX6_contradictsItself_49 rfl h.1 ?_
          replace h := h.2
          refine zv_callVi (As := [_, _, _]) hC dX6_contradictsItself_50 Y_X6_hasAhead lk_X6_22 (by decide) rfl rfl rfl (Nat.le_of_ble_eq_true rfl) (ok_X6_hasAhead G h) ?_
          intro r_4 σ_3 h
          refine zv_if_eq (tgt := 58) hC dX6_contradictsItself_53 (by decide) (fun c => ?_) (fun c => ?_)
          · replace h := h.1 c
            exact zv_go (k_X6_contradictsItself_58 hC hR hk2 h) ⟨rfl, rfl, trivial⟩
          · replace h := h.2 c
            exact zv_go (k_X6_contradictsItself_56 hC hR  h) trivial
def B_X6_contradictsItself (Q : Int32 → zv_St → Prop) (σ : zv_St) : Prop :=
  ∃ n2, L_X6_contradictsItself_2 Q n2 0 σ
set_option maxRecDepth 20000 in
set_option maxHeartbeats 2000000 in
theorem k_X6_contradictsItself_0 {G : zv_G} {X : zv_X} {Q : Int32 → zv_St → Prop}  (hC : zv_C G X M_X6_contradictsItself) (hR : zv_R G X M_X6_contradictsItself (zv_qi Q))   {σ : zv_St} (h : B_X6_contradictsItself Q   σ) : zv_V G X M_X6_contradictsItself 0 [(0, .ref (G.2.2.1 42))] [] σ := by
  unfold B_X6_contradictsItself at h
  refine zv_iconst (v := 0) hC dX6_contradictsItself_0 (by decide) ?_
  refine zv_istore_n hC dX6_contradictsItself_1 (by decide) ?_
  obtain ⟨n, h⟩ := h
  exact zv_go (kL_X6_contradictsItself_2 hC hR  n _ _ h) ⟨rfl, rfl, trivial⟩
theorem ok_X6_contradictsItself (G : zv_G) {Q : Int32 → zv_St → Prop}  {σ : zv_St} (h : B_X6_contradictsItself Q  σ) : zv_OK G M_X6_contradictsItself yX6_contradictsItself [.ref (G.2.2.1 42)] σ (zv_qi Q) := zv_ok G _ _ _ _ _ (by decide +kernel) rfl (Nat.le_of_ble_eq_true rfl) (fun X hC hR => zv_go (k_X6_contradictsItself_0 hC hR h) ⟨rfl, trivial⟩)
-- X6_hasBehind
def B_X6_hasBehind_38 (Q : Int32 → zv_St → Prop) (kk5 : Int32 → Int32 → Int32 → zv_St → Prop) (x2 : Int32) (x3 : Int32) (x4 : Int32) (σ : zv_St) : Prop :=
  kk5 x2 x3 (x4 + 1) σ
set_option maxRecDepth 20000 in
set_option maxHeartbeats 2000000 in
theorem k_X6_hasBehind_38 {G : zv_G} {X : zv_X} {Q : Int32 → zv_St → Prop} {kk5 : Int32 → Int32 → Int32 → zv_St → Prop} (hC : zv_C G X M_X6_hasBehind) (hR : zv_R G X M_X6_hasBehind (zv_qi Q)) (hk5 : ∀ (x2 : Int32) (x3 : Int32) (x4 : Int32) (σ : zv_St), kk5 x2 x3 x4 σ → zv_V G X M_X6_hasBehind 5 [(0, .ref (G.2.2.1 42)), (2, .int x2), (3, .int x3), (4, .int x4)] [] σ) {x2 : Int32} {x3 : Int32} {x4 : Int32} {σ : zv_St} (h : B_X6_hasBehind_38 Q kk5 x2 x3 x4 σ) : zv_V G X M_X6_hasBehind 38 [(0, .ref (G.2.2.1 42)), (2, .int x2), (3, .int x3), (4, .int x4)] [] σ := by
  unfold B_X6_hasBehind_38 at h
  refine zv_iinc (v := 1) hC dX6_hasBehind_38 rfl (by decide) (by decide) ?_
  refine zv_goto (tgt := 5) hC dX6_hasBehind_41 (by decide) ?_
  exact zv_go (hk5 _ _ _ _ h) ⟨rfl, rfl, rfl, rfl, trivial⟩
def L_X6_hasBehind_5 (Q : Int32 → zv_St → Prop) : Nat → (Int32 → Int32 → Int32 → zv_St → Prop)
  | 0 => fun _ _ _ _ => False
  | u + 1 => fun x2 x3 x4 σ => 
    ((σ.1 42 2) ≤ x4 → (Q 0 σ)) ∧ (¬ (σ.1 42 2) ≤ x4 → (vp_in x4 8 ∧ (¬ (σ.1 43 x4.toNatClampNeg) = x2 → (B_X6_hasBehind_38 Q (L_X6_hasBehind_5 Q u) x2 x3 x4 σ)) ∧ ((σ.1 43 x4.toNatClampNeg) = x2 → (vp_in x4 8 ∧ (¬ (σ.1 44 x4.toNatClampNeg) = x3 → (B_X6_hasBehind_38 Q (L_X6_hasBehind_5 Q u) x2 x3 x4 σ)) ∧ ((σ.1 44 x4.toNatClampNeg) = x3 → (Q 1 σ))))))
set_option maxRecDepth 20000 in
set_option maxHeartbeats 2000000 in
theorem kL_X6_hasBehind_5 {G : zv_G} {X : zv_X} {Q : Int32 → zv_St → Prop}  (hC : zv_C G X M_X6_hasBehind) (hR : zv_R G X M_X6_hasBehind (zv_qi Q))  : ∀ (n : Nat) (x2 : Int32) (x3 : Int32) (x4 : Int32) (σ : zv_St), L_X6_hasBehind_5 Q  n x2 x3 x4 σ → zv_V G X M_X6_hasBehind 5 [(0, .ref (G.2.2.1 42)), (2, .int x2), (3, .int x3), (4, .int x4)] [] σ := by
  intro n
  induction n with
  | zero => intro x2 x3 x4 σ h; exact h.elim
  | succ n hk5 =>
    intro x2 x3 x4 σ h
    unfold L_X6_hasBehind_5 at h
    refine zv_iload hC dX6_hasBehind_5 rfl ?_
    refine zv_aload_n hC dX6_hasBehind_7 rfl ?_
    refine zv_getI hC fl_X6_18 dX6_hasBehind_8 rfl rfl ?_
    refine zv_icmp_ge (tgt := 44) hC dX6_hasBehind_11 (by decide) (fun c => ?_) (fun c => ?_)
    · replace h := h.1 c
      refine zv_iconst (v := 0) hC dX6_hasBehind_44 (by decide) ?_
      exact (hR _ _ _).2.1 _ rfl rfl dX6_hasBehind_45 ⟨_, rfl, h⟩
    · replace h := h.2 c
      refine zv_aload_n hC dX6_hasBehind_14 rfl ?_
      refine zv_getR (j := 43) hC fl_X6_9 dX6_hasBehind_15 rfl rfl ?_
      refine zv_iload hC dX6_hasBehind_18 rfl ?_
      refine zv_iald hC dX6_hasBehind_20 rfl h.1 ?_
      replace h := h.2
      refine zv_iload_n hC dX6_hasBehind_21 rfl ?_
      refine zv_icmp_ne (tgt := 38) hC dX6_hasBehind_22 (by decide) (fun c => ?_) (fun c => ?_)
      · replace h := h.1 c
        exact zv_go (k_X6_hasBehind_38 hC hR hk5 h) ⟨rfl, rfl, rfl, rfl, trivial⟩
      · replace h := h.2 c
        refine zv_aload_n hC dX6_hasBehind_25 rfl ?_
        refine zv_getR (j := 44) hC fl_X6_15 dX6_hasBehind_26 rfl rfl ?_
        refine zv_iload hC dX6_hasBehind_29 rfl ?_
        refine zv_iald hC dX6_hasBehind_31 rfl h.1 ?_
        replace h := h.2
        refine zv_iload_n hC dX6_hasBehind_32 rfl ?_
        refine zv_icmp_ne (tgt := 38) hC dX6_hasBehind_33 (by decide) (fun c => ?_) (fun c => ?_)
        · replace h := h.1 c
          exact zv_go (k_X6_hasBehind_38 hC hR hk5 h) ⟨rfl, rfl, rfl, rfl, trivial⟩
        · replace h := h.2 c
          refine zv_iconst (v := 1) hC dX6_hasBehind_36 (by decide) ?_
          exact (hR _ _ _).2.1 _ rfl rfl dX6_hasBehind_37 ⟨_, rfl, h⟩
def B_X6_hasBehind (Q : Int32 → zv_St → Prop) (x1 : Int32) (x2 : Int32) (x3 : Int32) (σ : zv_St) : Prop :=
  ∃ n5, L_X6_hasBehind_5 Q n5 x2 x3 (x1 + 1) σ
set_option maxRecDepth 20000 in
set_option maxHeartbeats 2000000 in
theorem k_X6_hasBehind_0 {G : zv_G} {X : zv_X} {Q : Int32 → zv_St → Prop}  (hC : zv_C G X M_X6_hasBehind) (hR : zv_R G X M_X6_hasBehind (zv_qi Q))  {x1 : Int32} {x2 : Int32} {x3 : Int32} {σ : zv_St} (h : B_X6_hasBehind Q  x1 x2 x3 σ) : zv_V G X M_X6_hasBehind 0 [(0, .ref (G.2.2.1 42)), (1, .int x1), (2, .int x2), (3, .int x3)] [] σ := by
  unfold B_X6_hasBehind at h
  refine zv_iload_n hC dX6_hasBehind_0 rfl ?_
  refine zv_iconst (v := 1) hC dX6_hasBehind_1 (by decide) ?_
  refine zv_iadd hC dX6_hasBehind_2 ?_
  refine zv_istore hC dX6_hasBehind_3 (by decide) ?_
  obtain ⟨n, h⟩ := h
  exact zv_go (kL_X6_hasBehind_5 hC hR  n _ _ _ _ h) ⟨rfl, rfl, rfl, rfl, trivial⟩
theorem ok_X6_hasBehind (G : zv_G) {Q : Int32 → zv_St → Prop} {x1 : Int32} {x2 : Int32} {x3 : Int32} {σ : zv_St} (h : B_X6_hasBehind Q x1 x2 x3 σ) : zv_OK G M_X6_hasBehind yX6_hasBehind [.ref (G.2.2.1 42), .int x1, .int x2, .int x3] σ (zv_qi Q) := zv_ok G _ _ _ _ _ (by decide +kernel) rfl (Nat.le_of_ble_eq_true rfl) (fun X hC hR => zv_go (k_X6_hasBehind_0 hC hR h) ⟨rfl, rfl, rfl, rfl, trivial⟩)
