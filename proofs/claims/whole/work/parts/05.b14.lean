-- X11_come
def B_X11_come_50 (Q : zv_St → Prop) (x1 : Int32) (σ : zv_St) : Prop :=
  vp_in (σ.1 45 26) 90 ∧ ∀ σ_1 : zv_St, σ_1 = zv_wi σ 69 (σ.1 45 26).toNatClampNeg x1 → ∀ σ_2 : zv_St, σ_2 = zv_wi σ_1 45 26 ((σ_1.1 45 26) + 1) → Q σ_2
set_option maxRecDepth 20000 in
set_option maxHeartbeats 2000000 in
theorem k_X11_come_50 {G : zv_G} {X : zv_X} {Q : zv_St → Prop}  (hC : zv_C G X M_X11_come) (hR : zv_R G X M_X11_come (zv_qv Q))  {x1 : Int32} {σ : zv_St} (h : B_X11_come_50 Q  x1 σ) : zv_V G X M_X11_come 50 [(0, .ref (G.2.2.1 45)), (1, .int x1)] [] σ := by
  unfold B_X11_come_50 at h
  refine zv_aload_n hC dX11_come_50 rfl ?_
  refine zv_getR (j := 69) hC fl_X11_82 dX11_come_51 rfl rfl ?_
  refine zv_aload_n hC dX11_come_54 rfl ?_
  refine zv_getI hC fl_X11_152 dX11_come_55 rfl rfl ?_
  refine zv_iload_n hC dX11_come_58 rfl ?_
  refine zv_iast hC dX11_come_59 rfl h.1 ?_
  replace h := h.2 _ rfl
  refine zv_aload_n hC dX11_come_60 rfl ?_
  refine zv_dup hC dX11_come_61 rfl ?_
  refine zv_getI hC fl_X11_152 dX11_come_62 rfl rfl ?_
  refine zv_iconst (v := 1) hC dX11_come_65 (by decide) ?_
  refine zv_iadd hC dX11_come_66 ?_
  refine zv_putI hC fp_X11_152 dX11_come_67 rfl rfl rfl rfl ?_
  replace h := h _ rfl
  exact (hR _ _ _).2.2.2.1 rfl dX11_come_70 ⟨rfl, h⟩
def B_X11_come (Q : zv_St → Prop) (x1 : Int32) (σ : zv_St) : Prop :=
  vp_in x1 80 ∧ ((σ.1 65 x1.toNatClampNeg) = (-1) → (vp_in x1 80 ∧ (¬ (σ.1 63 x1.toNatClampNeg) = 0 → (vp_in x1 80 ∧ ∀ σ_1 : zv_St, σ_1 = zv_wi σ 68 x1.toNatClampNeg 0 → vp_in x1 80 ∧ (¬ (σ_1.1 48 x1.toNatClampNeg) = 2 → (B_X11_come_50 Q x1 σ_1)) ∧ ((σ_1.1 48 x1.toNatClampNeg) = 2 → (B_X11_sort (fun σ_2 => B_X11_come_50 Q x1 σ_2) x1 σ_1)))) ∧ ((σ.1 63 x1.toNatClampNeg) = 0 → (vp_in x1 80 ∧ ∀ σ_3 : zv_St, σ_3 = zv_wi σ 65 x1.toNatClampNeg 0 → Q σ_3)))) ∧ (¬ (σ.1 65 x1.toNatClampNeg) = (-1) → (Q σ))
set_option maxRecDepth 20000 in
set_option maxHeartbeats 2000000 in
theorem k_X11_come_0 {G : zv_G} {X : zv_X} {Q : zv_St → Prop}  (hC : zv_C G X M_X11_come) (hR : zv_R G X M_X11_come (zv_qv Q))  {x1 : Int32} {σ : zv_St} (h : B_X11_come Q  x1 σ) : zv_V G X M_X11_come 0 [(0, .ref (G.2.2.1 45)), (1, .int x1)] [] σ := by
  unfold B_X11_come at h
  refine zv_aload_n hC dX11_come_0 rfl ?_
  refine zv_getR (j := 65) hC fl_X11_69 dX11_come_1 rfl rfl ?_
  refine zv_iload_n hC dX11_come_4 rfl ?_
  refine zv_iald hC dX11_come_5 rfl h.1 ?_
  replace h := h.2
  refine zv_iconst (v := (-1)) hC dX11_come_6 (by decide) ?_
  refine zv_icmp_eq (tgt := 11) hC dX11_come_7 (by decide) (fun c => ?_) (fun c => ?_)
  · replace h := h.1 c
    refine zv_aload_n hC dX11_come_11 rfl ?_
    refine zv_getR (j := 63) hC fl_X11_63 dX11_come_12 rfl rfl ?_
    refine zv_iload_n hC dX11_come_15 rfl ?_
    refine zv_zald hC dX11_come_16 rfl h.1 ?_
    replace h := h.2
    refine zv_if_ne (tgt := 28) hC dX11_come_17 (by decide) (fun c => ?_) (fun c => ?_)
    · replace h := h.1 c
      refine zv_aload_n hC dX11_come_28 rfl ?_
      refine zv_getR (j := 68) hC fl_X11_79 dX11_come_29 rfl rfl ?_
      refine zv_iload_n hC dX11_come_32 rfl ?_
      refine zv_iconst (v := 0) hC dX11_come_33 (by decide) ?_
      refine zv_iast hC dX11_come_34 rfl h.1 ?_
      replace h := h.2 _ rfl
      refine zv_aload_n hC dX11_come_35 rfl ?_
      refine zv_getR (j := 48) hC fl_X11_16 dX11_come_36 rfl rfl ?_
      refine zv_iload_n hC dX11_come_39 rfl ?_
      refine zv_iald hC dX11_come_40 rfl h.1 ?_
      replace h := h.2
      refine zv_iconst (v := 2) hC dX11_come_41 (by decide) ?_
      refine zv_icmp_ne (tgt := 50) hC dX11_come_42 (by decide) (fun c => ?_) (fun c => ?_)
      · replace h := h.1 c
        exact zv_go (k_X11_come_50 hC hR  h) ⟨rfl, rfl, trivial⟩
      · replace h := h.2 c
        refine zv_aload_n hC dX11_come_45 rfl ?_
        refine zv_iload_n hC dX11_come_46 rfl ?_
        refine zv_callVv (As := [_]) hC dX11_come_47 Y_X11_sort lk_X11_149 (by decide) rfl rfl rfl (Nat.le_of_ble_eq_true rfl) (ok_X11_sort G h) ?_
        intro σ_2 h
        exact zv_go (k_X11_come_50 hC hR  h) ⟨rfl, rfl, trivial⟩
    · replace h := h.2 c
      refine zv_aload_n hC dX11_come_20 rfl ?_
      refine zv_getR (j := 65) hC fl_X11_69 dX11_come_21 rfl rfl ?_
      refine zv_iload_n hC dX11_come_24 rfl ?_
      refine zv_iconst (v := 0) hC dX11_come_25 (by decide) ?_
      refine zv_iast hC dX11_come_26 rfl h.1 ?_
      replace h := h.2 _ rfl
      exact (hR _ _ _).2.2.2.1 rfl dX11_come_27 ⟨rfl, h⟩
  · replace h := h.2 c
    exact (hR _ _ _).2.2.2.1 rfl dX11_come_10 ⟨rfl, h⟩
theorem ok_X11_come (G : zv_G) {Q : zv_St → Prop} {x1 : Int32} {σ : zv_St} (h : B_X11_come Q x1 σ) : zv_OK G M_X11_come yX11_come [.ref (G.2.2.1 45), .int x1] σ (zv_qv Q) := zv_ok G _ _ _ _ _ (by decide +kernel) rfl (Nat.le_of_ble_eq_true rfl) (fun X hC hR => zv_go (k_X11_come_0 hC hR h) ⟨rfl, rfl, trivial⟩)
-- X11_goBool
def B_X11_goBool_334 (Q : zv_St → Prop) (x1 : Int32) (x4 : Int64) (y1 : Int32) (y2 : Int32) (σ : zv_St) : Prop :=
  vp_in y1 80 ∧ ∀ σ_1 : zv_St, σ_1 = zv_wi σ 65 y1.toNatClampNeg y2 → vp_in x1 80 ∧ ∀ σ_2 : zv_St, σ_2 = zv_wl σ_1 66 x1.toNatClampNeg x4 → Q σ_2
set_option maxRecDepth 20000 in
set_option maxHeartbeats 2000000 in
theorem k_X11_goBool_334 {G : zv_G} {X : zv_X} {Q : zv_St → Prop}  (hC : zv_C G X M_X11_goBool) (hR : zv_R G X M_X11_goBool (zv_qv Q))  {x1 : Int32} {x4 : Int64} {y1 : Int32} {y2 : Int32} {σ : zv_St} (h : B_X11_goBool_334 Q  x1 x4 y1 y2 σ) : zv_V G X M_X11_goBool 334 [(0, .ref (G.2.2.1 45)), (1, .int x1), (4, .long x4)] [.int y2, .int y1, .ref (G.2.2.1 65)] σ := by
  unfold B_X11_goBool_334 at h
  refine zv_iast hC dX11_goBool_334 rfl h.1 ?_
  replace h := h.2 _ rfl
  refine zv_aload_n hC dX11_goBool_335 rfl ?_
  refine zv_getR (j := 66) hC fl_X11_72 dX11_goBool_336 rfl rfl ?_
  refine zv_iload_n hC dX11_goBool_339 rfl ?_
  refine zv_lload hC dX11_goBool_340 rfl ?_
  refine zv_last hC dX11_goBool_342 rfl h.1 ?_
  replace h := h.2 _ rfl
  exact (hR _ _ _).2.2.2.1 rfl dX11_goBool_343 ⟨rfl, h⟩
def B_X11_goBool_333 (Q : zv_St → Prop) (x1 : Int32) (x4 : Int64) (y1 : Int32) (σ : zv_St) : Prop :=
  B_X11_goBool_334 Q x1 x4 y1 0 σ
set_option maxRecDepth 20000 in
set_option maxHeartbeats 2000000 in
theorem k_X11_goBool_333 {G : zv_G} {X : zv_X} {Q : zv_St → Prop}  (hC : zv_C G X M_X11_goBool) (hR : zv_R G X M_X11_goBool (zv_qv Q))  {x1 : Int32} {x4 : Int64} {y1 : Int32} {σ : zv_St} (h : B_X11_goBool_333 Q  x1 x4 y1 σ) : zv_V G X M_X11_goBool 333 [(0, .ref (G.2.2.1 45)), (1, .int x1), (4, .long x4)] [.int y1, .ref (G.2.2.1 65)] σ := by
  unfold B_X11_goBool_333 at h
  refine zv_iconst (v := 0) hC dX11_goBool_333 (by decide) ?_
  exact zv_go (k_X11_goBool_334 hC hR  h) ⟨rfl, rfl, rfl, trivial⟩
def B_X11_goBool_301 (Q : zv_St → Prop) (kk179 : Int32 → Int32 → Int32 → Int64 → Int32 → zv_St → Prop) (x1 : Int32) (x2 : Int32) (x3 : Int32) (x6 : Int32) (y0 : Int64) (y1 : Int64) (σ : zv_St) : Prop :=
  kk179 x1 x2 x3 (y0 + y1) (x6 + 1) σ
set_option maxRecDepth 20000 in
set_option maxHeartbeats 2000000 in
theorem k_X11_goBool_301 {G : zv_G} {X : zv_X} {Q : zv_St → Prop} {kk179 : Int32 → Int32 → Int32 → Int64 → Int32 → zv_St → Prop} (hC : zv_C G X M_X11_goBool) (hR : zv_R G X M_X11_goBool (zv_qv Q)) (hk179 : ∀ (x1 : Int32) (x2 : Int32) (x3 : Int32) (x4 : Int64) (x6 : Int32) (σ : zv_St), kk179 x1 x2 x3 x4 x6 σ → zv_V G X M_X11_goBool 179 [(0, .ref (G.2.2.1 45)), (1, .int x1), (2, .int x2), (3, .int x3), (4, .long x4), (6, .int x6)] [] σ) {x1 : Int32} {x2 : Int32} {x3 : Int32} {x6 : Int32} {y0 : Int64} {y1 : Int64} {σ : zv_St} (h : B_X11_goBool_301 Q kk179 x1 x2 x3 x6 y0 y1 σ) : zv_V G X M_X11_goBool 301 [(0, .ref (G.2.2.1 45)), (1, .int x1), (2, .int x2), (3, .int x3), (6, .int x6)] [.long y1, .long y0] σ := by
  unfold B_X11_goBool_301 at h
  refine zv_ladd hC dX11_goBool_301 ?_
  refine zv_lstore hC dX11_goBool_302 (by decide) ?_
  refine zv_iinc (v := 1) hC dX11_goBool_304 rfl (by decide) (by decide) ?_
  refine zv_goto (tgt := 179) hC dX11_goBool_307 (by decide) ?_
  exact zv_go (hk179 _ _ _ _ _ _ h) ⟨rfl, rfl, rfl, rfl, rfl, rfl, trivial⟩
def B_X11_goBool_285 (Q : zv_St → Prop) (kk179 : Int32 → Int32 → Int32 → Int64 → Int32 → zv_St → Prop) (x1 : Int32) (x2 : Int32) (x3 : Int32) (x6 : Int32) (y0 : Int64) (σ : zv_St) : Prop :=
  vp_in x6 640 ∧ vp_in (σ.1 53 x6.toNatClampNeg) 80 ∧ B_X11_goBool_301 Q kk179 x1 x2 x3 x6 y0 (σ.2 66 (σ.1 53 x6.toNatClampNeg).toNatClampNeg) σ
set_option maxRecDepth 20000 in
set_option maxHeartbeats 2000000 in
theorem k_X11_goBool_285 {G : zv_G} {X : zv_X} {Q : zv_St → Prop} {kk179 : Int32 → Int32 → Int32 → Int64 → Int32 → zv_St → Prop} (hC : zv_C G X M_X11_goBool) (hR : zv_R G X M_X11_goBool (zv_qv Q)) (hk179 : ∀ (x1 : Int32) (x2 : Int32) (x3 : Int32) (x4 : Int64) (x6 : Int32) (σ : zv_St), kk179 x1 x2 x3 x4 x6 σ → zv_V G X M_X11_goBool 179 [(0, .ref (G.2.2.1 45)), (1, .int x1), (2, .int x2), (3, .int x3), (4, .long x4), (6, .int x6)] [] σ) {x1 : Int32} {x2 : Int32} {x3 : Int32} {x6 : Int32} {y0 : Int64} {σ : zv_St} (h : B_X11_goBool_285 Q kk179 x1 x2 x3 x6 y0 σ) : zv_V G X M_X11_goBool 285 [(0, .ref (G.2.2.1 45)), (1, .int x1), (2, .int x2), (3, .int x3), (6, .int x6)] [.long y0] σ := by
  unfold B_X11_goBool_285 at h
  refine zv_aload_n hC dX11_goBool_285 rfl ?_
  refine zv_getR (j := 66) hC fl_X11_72 dX11_goBool_286 rfl rfl ?_
  refine zv_aload_n hC dX11_goBool_289 rfl ?_
  refine zv_getR (j := 53) hC fl_X11_31 dX11_goBool_290 rfl rfl ?_
  refine zv_iload hC dX11_goBool_293 rfl ?_
  refine zv_iald hC dX11_goBool_295 rfl h.1 ?_
  replace h := h.2
  refine zv_lald hC dX11_goBool_296 rfl h.1 ?_
  replace h := h.2
  refine zv_goto (tgt := 301) hC dX11_goBool_297 (by decide) ?_
  exact zv_go (k_X11_goBool_301 hC hR hk179 h) ⟨rfl, rfl, rfl, rfl, rfl, trivial⟩
def B_X11_goBool_267 (Q : zv_St → Prop) (kk179 : Int32 → Int32 → Int32 → Int64 → Int32 → zv_St → Prop) (x1 : Int32) (x2 : Int32) (x4 : Int64) (x6 : Int32) (x7 : Int32) (y0 : Int32) (σ : zv_St) : Prop :=
  (¬ x7 = 0 → (B_X11_goBool_285 Q kk179 x1 x2 y0 x6 x4 σ)) ∧ (x7 = 0 → (vp_in x6 640 ∧ (¬ (σ.1 52 x6.toNatClampNeg) = 0 → (B_X11_goBool_301 Q kk179 x1 x2 y0 x6 x4 0 σ)) ∧ ((σ.1 52 x6.toNatClampNeg) = 0 → (B_X11_goBool_285 Q kk179 x1 x2 y0 x6 x4 σ))))
set_option maxRecDepth 20000 in
set_option maxHeartbeats 2000000 in
theorem k_X11_goBool_267 {G : zv_G} {X : zv_X} {Q : zv_St → Prop} {kk179 : Int32 → Int32 → Int32 → Int64 → Int32 → zv_St → Prop} (hC : zv_C G X M_X11_goBool) (hR : zv_R G X M_X11_goBool (zv_qv Q)) (hk179 : ∀ (x1 : Int32) (x2 : Int32) (x3 : Int32) (x4 : Int64) (x6 : Int32) (σ : zv_St), kk179 x1 x2 x3 x4 x6 σ → zv_V G X M_X11_goBool 179 [(0, .ref (G.2.2.1 45)), (1, .int x1), (2, .int x2), (3, .int x3), (4, .long x4), (6, .int x6)] [] σ) {x1 : Int32} {x2 : Int32} {x4 : Int64} {x6 : Int32} {x7 : Int32} {y0 : Int32} {σ : zv_St} (h : B_X11_goBool_267 Q kk179 x1 x2 x4 x6 x7 y0 σ) : zv_V G X M_X11_goBool 267 [(0, .ref (G.2.2.1 45)), (1, .int x1), (2, .int x2), (4, .long x4), (6, .int x6), (7, .int x7)] [.int y0] σ := by
  unfold B_X11_goBool_267 at h
  refine zv_istore_n hC dX11_goBool_267 (by decide) ?_
  refine zv_lload hC dX11_goBool_268 rfl ?_
  refine zv_iload hC dX11_goBool_270 rfl ?_
  refine zv_if_ne (tgt := 285) hC dX11_goBool_272 (by decide) (fun c => ?_) (fun c => ?_)
  · replace h := h.1 c
    exact zv_go (k_X11_goBool_285 hC hR hk179 h) ⟨rfl, rfl, rfl, rfl, rfl, trivial⟩
  · replace h := h.2 c
    refine zv_aload_n hC dX11_goBool_275 rfl ?_
    refine zv_getR (j := 52) hC fl_X11_28 dX11_goBool_276 rfl rfl ?_
    refine zv_iload hC dX11_goBool_279 rfl ?_
    refine zv_iald hC dX11_goBool_281 rfl h.1 ?_
    replace h := h.2
    refine zv_if_ne (tgt := 300) hC dX11_goBool_282 (by decide) (fun c => ?_) (fun c => ?_)
    · replace h := h.1 c
      refine zv_lconst (v := 0) hC dX11_goBool_300 (by decide) ?_
      exact zv_go (k_X11_goBool_301 hC hR hk179 h) ⟨rfl, rfl, rfl, rfl, rfl, trivial⟩
    · replace h := h.2 c
      exact zv_go (k_X11_goBool_285 hC hR hk179 h) ⟨rfl, rfl, rfl, rfl, rfl, trivial⟩
def B_X11_goBool_262 (Q : zv_St → Prop) (kk179 : Int32 → Int32 → Int32 → Int64 → Int32 → zv_St → Prop) (x1 : Int32) (x2 : Int32) (x4 : Int64) (x6 : Int32) (x7 : Int32) (σ : zv_St) : Prop :=
  B_X11_goBool_267 Q kk179 x1 x2 x4 x6 x7 1 σ
set_option maxRecDepth 20000 in
set_option maxHeartbeats 2000000 in
theorem k_X11_goBool_262 {G : zv_G} {X : zv_X} {Q : zv_St → Prop} {kk179 : Int32 → Int32 → Int32 → Int64 → Int32 → zv_St → Prop} (hC : zv_C G X M_X11_goBool) (hR : zv_R G X M_X11_goBool (zv_qv Q)) (hk179 : ∀ (x1 : Int32) (x2 : Int32) (x3 : Int32) (x4 : Int64) (x6 : Int32) (σ : zv_St), kk179 x1 x2 x3 x4 x6 σ → zv_V G X M_X11_goBool 179 [(0, .ref (G.2.2.1 45)), (1, .int x1), (2, .int x2), (3, .int x3), (4, .long x4), (6, .int x6)] [] σ) {x1 : Int32} {x2 : Int32} {x4 : Int64} {x6 : Int32} {x7 : Int32} {σ : zv_St} (h : B_X11_goBool_262 Q kk179 x1 x2 x4 x6 x7 σ) : zv_V G X M_X11_goBool 262 [(0, .ref (G.2.2.1 45)), (1, .int x1), (2, .int x2), (4, .long x4), (6, .int x6), (7, .int x7)] [] σ := by
  unfold B_X11_goBool_262 at h
  refine zv_iconst (v := 1) hC dX11_goBool_262 (by decide) ?_
  refine zv_goto (tgt := 267) hC dX11_goBool_263 (by decide) ?_
  exact zv_go (k_X11_goBool_267 hC hR hk179 h) ⟨rfl, rfl, rfl, rfl, rfl, rfl, trivial⟩
def B_X11_goBool_240 (Q : zv_St → Prop) (kk179 : Int32 → Int32 → Int32 → Int64 → Int32 → zv_St → Prop) (x1 : Int32) (x3 : Int32) (x4 : Int64) (x6 : Int32) (x7 : Int32) (y0 : Int32) (y1 : Int32) (σ : zv_St) : Prop :=
  (¬ x3 = 0 → (B_X11_goBool_262 Q kk179 x1 (y0 + y1) x4 x6 x7 σ)) ∧ (x3 = 0 → ((¬ x7 = 0 → (B_X11_goBool_262 Q kk179 x1 (y0 + y1) x4 x6 x7 σ)) ∧ (x7 = 0 → (vp_in x6 640 ∧ (2 ≤ (σ.1 52 x6.toNatClampNeg) → (B_X11_goBool_267 Q kk179 x1 (y0 + y1) x4 x6 x7 0 σ)) ∧ (¬ 2 ≤ (σ.1 52 x6.toNatClampNeg) → (B_X11_goBool_262 Q kk179 x1 (y0 + y1) x4 x6 x7 σ))))))
set_option maxRecDepth 20000 in
set_option maxHeartbeats 2000000 in
theorem k_X11_goBool_240 {G : zv_G} {X : zv_X} {Q : zv_St → Prop} {kk179 : Int32 → Int32 → Int32 → Int64 → Int32 → zv_St → Prop} (hC : zv_C G X M_X11_goBool) (hR : zv_R G X M_X11_goBool (zv_qv Q)) (hk179 : ∀ (x1 : Int32) (x2 : Int32) (x3 : Int32) (x4 : Int64) (x6 : Int32) (σ : zv_St), kk179 x1 x2 x3 x4 x6 σ → zv_V G X M_X11_goBool 179 [(0, .ref (G.2.2.1 45)), (1, .int x1), (2, .int x2), (3, .int x3), (4, .long x4), (6, .int x6)] [] σ) {x1 : Int32} {x3 : Int32} {x4 : Int64} {x6 : Int32} {x7 : Int32} {y0 : Int32} {y1 : Int32} {σ : zv_St} (h : B_X11_goBool_240 Q kk179 x1 x3 x4 x6 x7 y0 y1 σ) : zv_V G X M_X11_goBool 240 [(0, .ref (G.2.2.1 45)), (1, .int x1), (3, .int x3), (4, .long x4), (6, .int x6), (7, .int x7)] [.int y1, .int y0] σ := by
  unfold B_X11_goBool_240 at h
  refine zv_iadd hC dX11_goBool_240 ?_
  refine zv_istore_n hC dX11_goBool_241 (by decide) ?_
  refine zv_iload_n hC dX11_goBool_242 rfl ?_
  refine zv_if_ne (tgt := 262) hC dX11_goBool_243 (by decide) (fun c => ?_) (fun c => ?_)
  · replace h := h.1 c
    exact zv_go (k_X11_goBool_262 hC hR hk179 h) ⟨rfl, rfl, rfl, rfl, rfl, rfl, trivial⟩
  · replace h := h.2 c
    refine zv_iload hC dX11_goBool_246 rfl ?_
    refine zv_if_ne (tgt := 262) hC dX11_goBool_248 (by decide) (fun c => ?_) (fun c => ?_)
    · replace h := h.1 c
      exact zv_go (k_X11_goBool_262 hC hR hk179 h) ⟨rfl, rfl, rfl, rfl, rfl, rfl, trivial⟩
    · replace h := h.2 c
      refine zv_aload_n hC dX11_goBool_251 rfl ?_
      refine zv_getR (j := 52) hC fl_X11_28 dX11_goBool_252 rfl rfl ?_
      refine zv_iload hC dX11_goBool_255 rfl ?_
      refine zv_iald hC dX11_goBool_257 rfl h.1 ?_
      replace h := h.2
      refine zv_iconst (v := 2) hC dX11_goBool_258 (by decide) ?_
      refine zv_icmp_ge (tgt := 266) hC dX11_goBool_259 (by decide) (fun c => ?_) (fun c => ?_)
      · replace h := h.1 c
        refine zv_iconst (v := 0) hC dX11_goBool_266 (by decide) ?_
        exact zv_go (k_X11_goBool_267 hC hR hk179 h) ⟨rfl, rfl, rfl, rfl, rfl, rfl, trivial⟩
      · replace h := h.2 c
        exact zv_go (k_X11_goBool_262 hC hR hk179 h) ⟨rfl, rfl, rfl, rfl, rfl, rfl, trivial⟩
def B_X11_goBool_227 (Q : zv_St → Prop) (kk179 : Int32 → Int32 → Int32 → Int64 → Int32 → zv_St → Prop) (x1 : Int32) (x2 : Int32) (x3 : Int32) (x4 : Int64) (x6 : Int32) (y0 : Int32) (σ : zv_St) : Prop :=
  (y0 = 0 → (B_X11_goBool_240 Q kk179 x1 x3 x4 x6 y0 x2 0 σ)) ∧ (¬ y0 = 0 → (B_X11_goBool_240 Q kk179 x1 x3 x4 x6 y0 x2 1 σ))
set_option maxRecDepth 20000 in
set_option maxHeartbeats 2000000 in
theorem k_X11_goBool_227 {G : zv_G} {X : zv_X} {Q : zv_St → Prop} {kk179 : Int32 → Int32 → Int32 → Int64 → Int32 → zv_St → Prop} (hC : zv_C G X M_X11_goBool) (hR : zv_R G X M_X11_goBool (zv_qv Q)) (hk179 : ∀ (x1 : Int32) (x2 : Int32) (x3 : Int32) (x4 : Int64) (x6 : Int32) (σ : zv_St), kk179 x1 x2 x3 x4 x6 σ → zv_V G X M_X11_goBool 179 [(0, .ref (G.2.2.1 45)), (1, .int x1), (2, .int x2), (3, .int x3), (4, .long x4), (6, .int x6)] [] σ) {x1 : Int32} {x2 : Int32} {x3 : Int32} {x4 : Int64} {x6 : Int32} {y0 : Int32} {σ : zv_St} (h : B_X11_goBool_227 Q kk179 x1 x2 x3 x4 x6 y0 σ) : zv_V G X M_X11_goBool 227 [(0, .ref (G.2.2.1 45)), (1, .int x1), (2, .int x2), (3, .int x3), (4, .long x4), (6, .int x6)] [.int y0] σ := by
  unfold B_X11_goBool_227 at h
  refine zv_istore hC dX11_goBool_227 (by decide) ?_
  refine zv_iload_n hC dX11_goBool_229 rfl ?_
  refine zv_iload hC dX11_goBool_230 rfl ?_
  refine zv_if_eq (tgt := 239) hC dX11_goBool_232 (by decide) (fun c => ?_) (fun c => ?_)
  · replace h := h.1 c
    refine zv_iconst (v := 0) hC dX11_goBool_239 (by decide) ?_
    exact zv_go (k_X11_goBool_240 hC hR hk179 h) ⟨rfl, rfl, rfl, rfl, rfl, rfl, trivial⟩
  · replace h := h.2 c
    refine zv_iconst (v := 1) hC dX11_goBool_235 (by decide) ?_
    refine zv_goto (tgt := 240) hC dX11_goBool_236 (by decide) ?_
    exact zv_go (k_X11_goBool_240 hC hR hk179 h) ⟨rfl, rfl, rfl, rfl, rfl, rfl, trivial⟩
def B_X11_goBool_226 (Q : zv_St → Prop) (kk179 : Int32 → Int32 → Int32 → Int64 → Int32 → zv_St → Prop) (x1 : Int32) (x2 : Int32) (x3 : Int32) (x4 : Int64) (x6 : Int32) (σ : zv_St) : Prop :=
  B_X11_goBool_227 Q kk179 x1 x2 x3 x4 x6 0 σ
set_option maxRecDepth 20000 in
set_option maxHeartbeats 2000000 in
theorem k_X11_goBool_226 {G : zv_G} {X : zv_X} {Q : zv_St → Prop} {kk179 : Int32 → Int32 → Int32 → Int64 → Int32 → zv_St → Prop} (hC : zv_C G X M_X11_goBool) (hR : zv_R G X M_X11_goBool (zv_qv Q)) (hk179 : ∀ (x1 : Int32) (x2 : Int32) (x3 : Int32) (x4 : Int64) (x6 : Int32) (σ : zv_St), kk179 x1 x2 x3 x4 x6 σ → zv_V G X M_X11_goBool 179 [(0, .ref (G.2.2.1 45)), (1, .int x1), (2, .int x2), (3, .int x3), (4, .long x4), (6, .int x6)] [] σ) {x1 : Int32} {x2 : Int32} {x3 : Int32} {x4 : Int64} {x6 : Int32} {σ : zv_St} (h : B_X11_goBool_226 Q kk179 x1 x2 x3 x4 x6 σ) : zv_V G X M_X11_goBool 226 [(0, .ref (G.2.2.1 45)), (1, .int x1), (2, .int x2), (3, .int x3), (4, .long x4), (6, .int x6)] [] σ := by
  unfold B_X11_goBool_226 at h
  refine zv_iconst (v := 0) hC dX11_goBool_226 (by decide) ?_
  exact zv_go (k_X11_goBool_227 hC hR hk179 h) ⟨rfl, rfl, rfl, rfl, rfl, rfl, trivial⟩
def L_X11_goBool_179 (Q : zv_St → Prop) : Nat → (Int32 → Int32 → Int32 → Int64 → Int32 → zv_St → Prop)
  | 0 => fun _ _ _ _ _ _ => False
  | u + 1 => fun x1 x2 x3 x4 x6 σ => 
    vp_in x1 80 ∧ (((8 * x1) + (σ.1 51 x1.toNatClampNeg)) ≤ x6 → ((x3 = 0 → (B_X11_goBool_333 Q x1 x4 x1 σ)) ∧ (¬ x3 = 0 → (vp_in x1 80 ∧ (x2 < (σ.1 49 x1.toNatClampNeg) → (B_X11_goBool_333 Q x1 x4 x1 σ)) ∧ (¬ x2 < (σ.1 49 x1.toNatClampNeg) → (B_X11_goBool_334 Q x1 x4 x1 1 σ)))))) ∧ (¬ ((8 * x1) + (σ.1 51 x1.toNatClampNeg)) ≤ x6 → (vp_in x6 640 ∧ (¬ (σ.1 52 x6.toNatClampNeg) = 3 → (B_X11_goBool_226 Q (L_X11_goBool_179 Q u) x1 x2 x3 x4 x6 σ)) ∧ ((σ.1 52 x6.toNatClampNeg) = 3 → (vp_in x6 640 ∧ vp_in (σ.1 53 x6.toNatClampNeg) 80 ∧ (¬ (σ.1 65 (σ.1 53 x6.toNatClampNeg).toNatClampNeg) = 1 → (B_X11_goBool_226 Q (L_X11_goBool_179 Q u) x1 x2 x3 x4 x6 σ)) ∧ ((σ.1 65 (σ.1 53 x6.toNatClampNeg).toNatClampNeg) = 1 → (B_X11_goBool_227 Q (L_X11_goBool_179 Q u) x1 x2 x3 x4 x6 1 σ))))))
set_option maxRecDepth 20000 in
set_option maxHeartbeats 2000000 in
theorem kL_X11_goBool_179 {G : zv_G} {X : zv_X} {Q : zv_St → Prop}  (hC : zv_C G X M_X11_goBool) (hR : zv_R G X M_X11_goBool (zv_qv Q))  : ∀ (n : Nat) (x1 : Int32) (x2 : Int32) (x3 : Int32) (x4 : Int64) (x6 : Int32) (σ : zv_St), L_X11_goBool_179 Q  n x1 x2 x3 x4 x6 σ → zv_V G X M_X11_goBool 179 [(0, .ref (G.2.2.1 45)), (1, .int x1), (2, .int x2), (3, .int x3), (4, .long x4), (6, .int x6)] [] σ := by
  intro n
  induction n with
  | zero => intro x1 x2 x3 x4 x6 σ h; exact h.elim
  | succ n hk179 =>
    intro x1 x2 x3 x4 x6 σ h
    unfold L_X11_goBool_179 at h
    refine zv_iload hC dX11_goBool_179 rfl ?_
    refine zv_bipush (v := 8) hC dX11_goBool_181 (by decide) ?_
    refine zv_iload_n hC dX11_goBool_183 rfl ?_
    refine zv_imul hC dX11_goBool_184 ?_
    refine zv_aload_n hC dX11_goBool_185 rfl ?_
    refine zv_getR (j := 51) hC fl_X11_25 dX11_goBool_186 rfl rfl ?_
    refine zv_iload_n hC dX11_goBool_189 rfl ?_
    refine zv_iald hC dX11_goBool_190 rfl h.1 ?_
    replace h := h.2
    refine zv_iadd hC dX11_goBool_191 ?_
    refine zv_icmp_ge (tgt := 310) hC dX11_goBool_192 (by decide) (fun c => ?_) (fun c => ?_)
    · replace h := h.1 c
      refine zv_aload_n hC dX11_goBool_310 rfl ?_
      refine zv_getR (j := 65) hC fl_X11_69 dX11_goBool_311 rfl rfl ?_
      refine zv_iload_n hC dX11_goBool_314 rfl ?_
      refine zv_iload_n hC dX11_goBool_315 rfl ?_
      refine zv_if_eq (tgt := 333) hC dX11_goBool_316 (by decide) (fun c => ?_) (fun c => ?_)
      · replace h := h.1 c
        exact zv_go (k_X11_goBool_333 hC hR  h) ⟨rfl, rfl, rfl, trivial⟩
      · replace h := h.2 c
        refine zv_iload_n hC dX11_goBool_319 rfl ?_
        refine zv_aload_n hC dX11_goBool_320 rfl ?_
        refine zv_getR (j := 49) hC fl_X11_19 dX11_goBool_321 rfl rfl ?_
        refine zv_iload_n hC dX11_goBool_324 rfl ?_
        refine zv_iald hC dX11_goBool_325 rfl h.1 ?_
        replace h := h.2
        refine zv_icmp_lt (tgt := 333) hC dX11_goBool_326 (by decide) (fun c => ?_) (fun c => ?_)
        · replace h := h.1 c
          exact zv_go (k_X11_goBool_333 hC hR  h) ⟨rfl, rfl, rfl, trivial⟩
        · replace h := h.2 c
          refine zv_iconst (v := 1) hC dX11_goBool_329 (by decide) ?_
          refine zv_goto (tgt := 334) hC dX11_goBool_330 (by decide) ?_
          exact zv_go (k_X11_goBool_334 hC hR  h) ⟨rfl, rfl, rfl, trivial⟩
    · replace h := h.2 c
      refine zv_aload_n hC dX11_goBool_195 rfl ?_
      refine zv_getR (j := 52) hC fl_X11_28 dX11_goBool_196 rfl rfl ?_
      refine zv_iload hC dX11_goBool_199 rfl ?_
      refine zv_iald hC dX11_goBool_201 rfl h.1 ?_
      replace h := h.2
      refine zv_iconst (v := 3) hC dX11_goBool_202 (by decide) ?_
      refine zv_icmp_ne (tgt := 226) hC dX11_goBool_203 (by decide) (fun c => ?_) (fun c => ?_)
      · replace h := h.1 c
        exact zv_go (k_X11_goBool_226 hC hR hk179 h) ⟨rfl, rfl, rfl, rfl, rfl, rfl, trivial⟩
      · replace h := h.2 c
        refine zv_aload_n hC dX11_goBool_206 rfl ?_
        refine zv_getR (j := 65) hC fl_X11_69 dX11_goBool_207 rfl rfl ?_
        refine zv_aload_n hC dX11_goBool_210 rfl ?_
        refine zv_getR (j := 53) hC fl_X11_31 dX11_goBool_211 rfl rfl ?_
        refine zv_iload hC dX11_goBool_214 rfl ?_
        refine zv_iald hC dX11_goBool_216 rfl h.1 ?_
        replace h := h.2
        refine zv_iald hC dX11_goBool_217 rfl h.1 ?_
        replace h := h.2
        refine zv_iconst (v := 1) hC dX11_goBool_218 (by decide) ?_
        refine zv_icmp_ne (tgt := 226) hC dX11_goBool_219 (by decide) (fun c => ?_) (fun c => ?_)
        · replace h := h.1 c
          exact zv_go (k_X11_goBool_226 hC hR hk179 h) ⟨rfl, rfl, rfl, rfl, rfl, rfl, trivial⟩
        · replace h := h.2 c
          refine zv_iconst (v := 1) hC dX11_goBool_222 (by decide) ?_
          refine zv_goto (tgt := 227) hC dX11_goBool_223 (by decide) ?_
          exact zv_go (k_X11_goBool_227 hC hR hk179 h) ⟨rfl, rfl, rfl, rfl, rfl, rfl, trivial⟩
def B_X11_goBool_153 (Q : zv_St → Prop) (kk0 : Int32 → zv_St → Prop) (x1 : Int32) (σ : zv_St) : Prop :=
  vp_in x1 80 ∧ vp_in x1 80 ∧ ∀ σ_1 : zv_St, σ_1 = zv_wi σ 68 x1.toNatClampNeg ((σ.1 68 x1.toNatClampNeg) + 1) → kk0 x1 σ_1
set_option maxRecDepth 20000 in
set_option maxHeartbeats 2000000 in
theorem k_X11_goBool_153 {G : zv_G} {X : zv_X} {Q : zv_St → Prop} {kk0 : Int32 → zv_St → Prop} (hC : zv_C G X M_X11_goBool) (hR : zv_R G X M_X11_goBool (zv_qv Q)) (hk0 : ∀ (x1 : Int32) (σ : zv_St), kk0 x1 σ → zv_V G X M_X11_goBool 0 [(0, .ref (G.2.2.1 45)), (1, .int x1)] [] σ) {x1 : Int32} {σ : zv_St} (h : B_X11_goBool_153 Q kk0 x1 σ) : zv_V G X M_X11_goBool 153 [(0, .ref (G.2.2.1 45)), (1, .int x1)] [] σ := by
  unfold B_X11_goBool_153 at h
  refine zv_aload_n hC dX11_goBool_153 rfl ?_
  refine zv_getR (j := 68) hC fl_X11_79 dX11_goBool_154 rfl rfl ?_
  refine zv_iload_n hC dX11_goBool_157 rfl ?_
  refine zv_dup2 hC dX11_goBool_158 rfl rfl ?_
  refine zv_iald hC dX11_goBool_159 rfl h.1 ?_
  replace h := h.2
  refine zv_iconst (v := 1) hC dX11_goBool_160 (by decide) ?_
  refine zv_iadd hC dX11_goBool_161 ?_
  refine zv_iast hC dX11_goBool_162 rfl h.1 ?_
  replace h := h.2 _ rfl
  refine zv_goto (tgt := 0) hC dX11_goBool_163 (by decide) ?_
  exact zv_go (hk0 _ _ h) ⟨rfl, rfl, trivial⟩
def B_X11_goBool_145 (Q : zv_St → Prop) (x1 : Int32) (σ : zv_St) : Prop :=
  vp_in x1 80 ∧ ∀ σ_1 : zv_St, σ_1 = zv_wi σ 65 x1.toNatClampNeg 0 → Q σ_1
set_option maxRecDepth 20000 in
set_option maxHeartbeats 2000000 in
theorem k_X11_goBool_145 {G : zv_G} {X : zv_X} {Q : zv_St → Prop}  (hC : zv_C G X M_X11_goBool) (hR : zv_R G X M_X11_goBool (zv_qv Q))  {x1 : Int32} {σ : zv_St} (h : B_X11_goBool_145 Q  x1 σ) : zv_V G X M_X11_goBool 145 [(0, .ref (G.2.2.1 45)), (1, .int x1)] [] σ := by
  unfold B_X11_goBool_145 at h
  refine zv_aload_n hC dX11_goBool_145 rfl ?_
  refine zv_getR (j := 65) hC fl_X11_69 dX11_goBool_146 rfl rfl ?_
  refine zv_iload_n hC dX11_goBool_149 rfl ?_
  refine zv_iconst (v := 0) hC dX11_goBool_150 (by decide) ?_
  refine zv_iast hC dX11_goBool_151 rfl h.1 ?_
  replace h := h.2 _ rfl
  exact (hR _ _ _).2.2.2.1 rfl dX11_goBool_152 ⟨rfl, h⟩
def B_X11_goBool_134 (Q : zv_St → Prop) (kk0 : Int32 → zv_St → Prop) (x1 : Int32) (x4 : Int32) (x6 : Int32) (σ : zv_St) : Prop :=
  (¬ x4 = 2 → (B_X11_goBool_153 Q kk0 x1 σ)) ∧ (x4 = 2 → ((x6 = 0 → (B_X11_goBool_153 Q kk0 x1 σ)) ∧ (¬ x6 = 0 → (B_X11_goBool_145 Q x1 σ))))
set_option maxRecDepth 20000 in
set_option maxHeartbeats 2000000 in
theorem k_X11_goBool_134 {G : zv_G} {X : zv_X} {Q : zv_St → Prop} {kk0 : Int32 → zv_St → Prop} (hC : zv_C G X M_X11_goBool) (hR : zv_R G X M_X11_goBool (zv_qv Q)) (hk0 : ∀ (x1 : Int32) (σ : zv_St), kk0 x1 σ → zv_V G X M_X11_goBool 0 [(0, .ref (G.2.2.1 45)), (1, .int x1)] [] σ) {x1 : Int32} {x4 : Int32} {x6 : Int32} {σ : zv_St} (h : B_X11_goBool_134 Q kk0 x1 x4 x6 σ) : zv_V G X M_X11_goBool 134 [(0, .ref (G.2.2.1 45)), (1, .int x1), (4, .int x4), (6, .int x6)] [] σ := by
  unfold B_X11_goBool_134 at h
  refine zv_iload hC dX11_goBool_134 rfl ?_
  refine zv_iconst (v := 2) hC dX11_goBool_136 (by decide) ?_
  refine zv_icmp_ne (tgt := 153) hC dX11_goBool_137 (by decide) (fun c => ?_) (fun c => ?_)
  · replace h := h.1 c
    exact zv_go (k_X11_goBool_153 hC hR hk0 h) ⟨rfl, rfl, trivial⟩
  · replace h := h.2 c
    refine zv_iload hC dX11_goBool_140 rfl ?_
    refine zv_if_eq (tgt := 153) hC dX11_goBool_142 (by decide) (fun c => ?_) (fun c => ?_)
    · replace h := h.1 c
      exact zv_go (k_X11_goBool_153 hC hR hk0 h) ⟨rfl, rfl, trivial⟩
    · replace h := h.2 c
      exact zv_go (k_X11_goBool_145 hC hR  h) ⟨rfl, rfl, trivial⟩
def B_X11_goBool_121 (Q : zv_St → Prop) (kk0 : Int32 → zv_St → Prop) (x1 : Int32) (x4 : Int32) (y0 : Int32) (σ : zv_St) : Prop :=
  (2 ≤ x4 → (B_X11_goBool_134 Q kk0 x1 x4 y0 σ)) ∧ (¬ 2 ≤ x4 → ((y0 = 0 → (B_X11_goBool_145 Q x1 σ)) ∧ (¬ y0 = 0 → (B_X11_goBool_134 Q kk0 x1 x4 y0 σ))))
set_option maxRecDepth 20000 in
set_option maxHeartbeats 2000000 in
theorem k_X11_goBool_121 {G : zv_G} {X : zv_X} {Q : zv_St → Prop} {kk0 : Int32 → zv_St → Prop} (hC : zv_C G X M_X11_goBool) (hR : zv_R G X M_X11_goBool (zv_qv Q)) (hk0 : ∀ (x1 : Int32) (σ : zv_St), kk0 x1 σ → zv_V G X M_X11_goBool 0 [(0, .ref (G.2.2.1 45)), (1, .int x1)] [] σ) {x1 : Int32} {x4 : Int32} {y0 : Int32} {σ : zv_St} (h : B_X11_goBool_121 Q kk0 x1 x4 y0 σ) : zv_V G X M_X11_goBool 121 [(0, .ref (G.2.2.1 45)), (1, .int x1), (4, .int x4)] [.int y0] σ := by
  unfold B_X11_goBool_121 at h
  refine zv_istore hC dX11_goBool_121 (by decide) ?_
  refine zv_iload hC dX11_goBool_123 rfl ?_
  refine zv_iconst (v := 2) hC dX11_goBool_125 (by decide) ?_
  refine zv_icmp_ge (tgt := 134) hC dX11_goBool_126 (by decide) (fun c => ?_) (fun c => ?_)
  · replace h := h.1 c
    exact zv_go (k_X11_goBool_134 hC hR hk0 h) ⟨rfl, rfl, rfl, rfl, trivial⟩
  · replace h := h.2 c
    refine zv_iload hC dX11_goBool_129 rfl ?_
    refine zv_if_eq (tgt := 145) hC dX11_goBool_131 (by decide) (fun c => ?_) (fun c => ?_)
    · replace h := h.1 c
      exact zv_go (k_X11_goBool_145 hC hR  h) ⟨rfl, rfl, trivial⟩
    · replace h := h.2 c
      exact zv_go (k_X11_goBool_134 hC hR hk0 h) ⟨rfl, rfl, rfl, rfl, trivial⟩
def B_X11_goBool_116 (Q : zv_St → Prop) (kk0 : Int32 → zv_St → Prop) (x1 : Int32) (x4 : Int32) (σ : zv_St) : Prop :=
  B_X11_goBool_121 Q kk0 x1 x4 1 σ
set_option maxRecDepth 20000 in
set_option maxHeartbeats 2000000 in
theorem k_X11_goBool_116 {G : zv_G} {X : zv_X} {Q : zv_St → Prop} {kk0 : Int32 → zv_St → Prop} (hC : zv_C G X M_X11_goBool) (hR : zv_R G X M_X11_goBool (zv_qv Q)) (hk0 : ∀ (x1 : Int32) (σ : zv_St), kk0 x1 σ → zv_V G X M_X11_goBool 0 [(0, .ref (G.2.2.1 45)), (1, .int x1)] [] σ) {x1 : Int32} {x4 : Int32} {σ : zv_St} (h : B_X11_goBool_116 Q kk0 x1 x4 σ) : zv_V G X M_X11_goBool 116 [(0, .ref (G.2.2.1 45)), (1, .int x1), (4, .int x4)] [] σ := by
  unfold B_X11_goBool_116 at h
  refine zv_iconst (v := 1) hC dX11_goBool_116 (by decide) ?_
  refine zv_goto (tgt := 121) hC dX11_goBool_117 (by decide) ?_
  exact zv_go (k_X11_goBool_121 hC hR hk0 h) ⟨rfl, rfl, rfl, trivial⟩
def B_X11_goBool_101 (Q : zv_St → Prop) (kk0 : Int32 → zv_St → Prop) (x1 : Int32) (x3 : Int32) (x4 : Int32) (x5 : Int32) (σ : zv_St) : Prop :=
  (¬ x5 = 0 → (B_X11_goBool_116 Q kk0 x1 x4 σ)) ∧ (x5 = 0 → (vp_in x3 80 ∧ (¬ (σ.1 65 x3.toNatClampNeg) = 1 → (B_X11_goBool_121 Q kk0 x1 x4 0 σ)) ∧ ((σ.1 65 x3.toNatClampNeg) = 1 → (B_X11_goBool_116 Q kk0 x1 x4 σ))))
set_option maxRecDepth 20000 in
set_option maxHeartbeats 2000000 in
theorem k_X11_goBool_101 {G : zv_G} {X : zv_X} {Q : zv_St → Prop} {kk0 : Int32 → zv_St → Prop} (hC : zv_C G X M_X11_goBool) (hR : zv_R G X M_X11_goBool (zv_qv Q)) (hk0 : ∀ (x1 : Int32) (σ : zv_St), kk0 x1 σ → zv_V G X M_X11_goBool 0 [(0, .ref (G.2.2.1 45)), (1, .int x1)] [] σ) {x1 : Int32} {x3 : Int32} {x4 : Int32} {x5 : Int32} {σ : zv_St} (h : B_X11_goBool_101 Q kk0 x1 x3 x4 x5 σ) : zv_V G X M_X11_goBool 101 [(0, .ref (G.2.2.1 45)), (1, .int x1), (3, .int x3), (4, .int x4), (5, .int x5)] [] σ := by
  unfold B_X11_goBool_101 at h
  refine zv_iload hC dX11_goBool_101 rfl ?_
  refine zv_if_ne (tgt := 116) hC dX11_goBool_103 (by decide) (fun c => ?_) (fun c => ?_)
  · replace h := h.1 c
    exact zv_go (k_X11_goBool_116 hC hR hk0 h) ⟨rfl, rfl, rfl, trivial⟩
  · replace h := h.2 c
    refine zv_aload_n hC dX11_goBool_106 rfl ?_
    refine zv_getR (j := 65) hC fl_X11_69 dX11_goBool_107 rfl rfl ?_
    refine zv_iload_n hC dX11_goBool_110 rfl ?_
    refine zv_iald hC dX11_goBool_111 rfl h.1 ?_
    replace h := h.2
    refine zv_iconst (v := 1) hC dX11_goBool_112 (by decide) ?_
    refine zv_icmp_ne (tgt := 120) hC dX11_goBool_113 (by decide) (fun c => ?_) (fun c => ?_)
    · replace h := h.1 c
      refine zv_iconst (v := 0) hC dX11_goBool_120 (by decide) ?_
      exact zv_go (k_X11_goBool_121 hC hR hk0 h) ⟨rfl, rfl, rfl, trivial⟩
    · replace h := h.2 c
      exact zv_go (k_X11_goBool_116 hC hR hk0 h) ⟨rfl, rfl, rfl, trivial⟩
def B_X11_goBool_78 (Q : zv_St → Prop) (kk0 : Int32 → zv_St → Prop) (x1 : Int32) (x3 : Int32) (x4 : Int32) (y0 : Int32) (σ : zv_St) : Prop :=
  (¬ y0 = 0 → (B_X11_goBool_101 Q kk0 x1 x3 x4 y0 σ)) ∧ (y0 = 0 → (B_X11_come (fun σ_1 => vp_in x3 80 ∧ (¬ (σ_1.1 65 x3.toNatClampNeg) = (-1) → (B_X11_goBool_101 Q kk0 x1 x3 x4 y0 σ_1)) ∧ ((σ_1.1 65 x3.toNatClampNeg) = (-1) → (Q σ_1))) x3 σ))
set_option maxRecDepth 20000 in
set_option maxHeartbeats 2000000 in
theorem k_X11_goBool_78 {G : zv_G} {X : zv_X} {Q : zv_St → Prop} {kk0 : Int32 → zv_St → Prop} (hC : zv_C G X M_X11_goBool) (hR : zv_R G X M_X11_goBool (zv_qv Q)) (hk0 : ∀ (x1 : Int32) (σ : zv_St), kk0 x1 σ → zv_V G X M_X11_goBool 0 [(0, .ref (G.2.2.1 45)), (1, .int x1)] [] σ) {x1 : Int32} {x3 : Int32} {x4 : Int32} {y0 : Int32} {σ : zv_St} (h : B_X11_goBool_78 Q kk0 x1 x3 x4 y0 σ) : zv_V G X M_X11_goBool 78 [(0, .ref (G.2.2.1 45)), (1, .int x1), (3, .int x3), (4, .int x4)] [.int y0] σ := by
  unfold B_X11_goBool_78 at h
  refine zv_istore hC dX11_goBool_78 (by decide) ?_
  refine zv_iload hC dX11_goBool_80 rfl ?_
  refine zv_if_ne (tgt := 101) hC dX11_goBool_82 (by decide) (fun c => ?_) (fun c => ?_)
  · replace h := h.1 c
    exact zv_go (k_X11_goBool_101 hC hR hk0 h) ⟨rfl, rfl, rfl, rfl, rfl, trivial⟩
  · replace h := h.2 c
    refine zv_aload_n hC dX11_goBool_85 rfl ?_
    refine zv_iload_n hC dX11_goBool_86 rfl ?_
    refine zv_callVv (As := [_]) hC dX11_goBool_87 Y_X11_come lk_X11_155 (by decide) rfl rfl rfl (Nat.le_of_ble_eq_true rfl) (ok_X11_come G h) ?_
    intro σ_1 h
    refine zv_aload_n hC dX11_goBool_90 rfl ?_
    refine zv_getR (j := 65) hC fl_X11_69 dX11_goBool_91 rfl rfl ?_
    refine zv_iload_n hC dX11_goBool_94 rfl ?_
    refine zv_iald hC dX11_goBool_95 rfl h.1 ?_
    replace h := h.2
    refine zv_iconst (v := (-1)) hC dX11_goBool_96 (by decide) ?_
    refine zv_icmp_ne (tgt := 101) hC dX11_goBool_97 (by decide) (fun c => ?_) (fun c => ?_)
    · replace h := h.1 c
      exact zv_go (k_X11_goBool_101 hC hR hk0 h) ⟨rfl, rfl, rfl, rfl, rfl, trivial⟩
    · replace h := h.2 c
      exact (hR _ _ _).2.2.2.1 rfl dX11_goBool_100 ⟨rfl, h⟩
def B_X11_goBool_77 (Q : zv_St → Prop) (kk0 : Int32 → zv_St → Prop) (x1 : Int32) (x3 : Int32) (x4 : Int32) (σ : zv_St) : Prop :=
  B_X11_goBool_78 Q kk0 x1 x3 x4 0 σ
set_option maxRecDepth 20000 in
set_option maxHeartbeats 2000000 in
theorem k_X11_goBool_77 {G : zv_G} {X : zv_X} {Q : zv_St → Prop} {kk0 : Int32 → zv_St → Prop} (hC : zv_C G X M_X11_goBool) (hR : zv_R G X M_X11_goBool (zv_qv Q)) (hk0 : ∀ (x1 : Int32) (σ : zv_St), kk0 x1 σ → zv_V G X M_X11_goBool 0 [(0, .ref (G.2.2.1 45)), (1, .int x1)] [] σ) {x1 : Int32} {x3 : Int32} {x4 : Int32} {σ : zv_St} (h : B_X11_goBool_77 Q kk0 x1 x3 x4 σ) : zv_V G X M_X11_goBool 77 [(0, .ref (G.2.2.1 45)), (1, .int x1), (3, .int x3), (4, .int x4)] [] σ := by
  unfold B_X11_goBool_77 at h
  refine zv_iconst (v := 0) hC dX11_goBool_77 (by decide) ?_
  exact zv_go (k_X11_goBool_78 hC hR hk0 h) ⟨rfl, rfl, rfl, rfl, trivial⟩
def B_X11_goBool_64 (Q : zv_St → Prop) (kk0 : Int32 → zv_St → Prop) (x1 : Int32) (x3 : Int32) (x4 : Int32) (σ : zv_St) : Prop :=
  vp_in x3 80 ∧ ((σ.1 64 x3.toNatClampNeg) = 0 → (B_X11_goBool_77 Q kk0 x1 x3 x4 σ)) ∧ (¬ (σ.1 64 x3.toNatClampNeg) = 0 → (B_X11_goBool_78 Q kk0 x1 x3 x4 1 σ))
set_option maxRecDepth 20000 in
set_option maxHeartbeats 2000000 in
theorem k_X11_goBool_64 {G : zv_G} {X : zv_X} {Q : zv_St → Prop} {kk0 : Int32 → zv_St → Prop} (hC : zv_C G X M_X11_goBool) (hR : zv_R G X M_X11_goBool (zv_qv Q)) (hk0 : ∀ (x1 : Int32) (σ : zv_St), kk0 x1 σ → zv_V G X M_X11_goBool 0 [(0, .ref (G.2.2.1 45)), (1, .int x1)] [] σ) {x1 : Int32} {x3 : Int32} {x4 : Int32} {σ : zv_St} (h : B_X11_goBool_64 Q kk0 x1 x3 x4 σ) : zv_V G X M_X11_goBool 64 [(0, .ref (G.2.2.1 45)), (1, .int x1), (3, .int x3), (4, .int x4)] [] σ := by
  unfold B_X11_goBool_64 at h
  refine zv_aload_n hC dX11_goBool_64 rfl ?_
  refine zv_getR (j := 64) hC fl_X11_66 dX11_goBool_65 rfl rfl ?_
  refine zv_iload_n hC dX11_goBool_68 rfl ?_
  refine zv_zald hC dX11_goBool_69 rfl h.1 ?_
  replace h := h.2
  refine zv_if_eq (tgt := 77) hC dX11_goBool_70 (by decide) (fun c => ?_) (fun c => ?_)
  · replace h := h.1 c
    exact zv_go (k_X11_goBool_77 hC hR hk0 h) ⟨rfl, rfl, rfl, rfl, trivial⟩
  · replace h := h.2 c
    refine zv_iconst (v := 1) hC dX11_goBool_73 (by decide) ?_
    refine zv_goto (tgt := 78) hC dX11_goBool_74 (by decide) ?_
    exact zv_go (k_X11_goBool_78 hC hR hk0 h) ⟨rfl, rfl, rfl, rfl, trivial⟩
def L_X11_goBool_0 (Q : zv_St → Prop) : Nat → (Int32 → zv_St → Prop)
  | 0 => fun _ _ => False
  | u + 1 => fun x1 σ => 
    vp_in x1 80 ∧ vp_in x1 80 ∧ ((σ.1 51 x1.toNatClampNeg) ≤ (σ.1 68 x1.toNatClampNeg) → (∃ n179, L_X11_goBool_179 Q n179 x1 0 0 0 (8 * x1) σ)) ∧ (¬ (σ.1 51 x1.toNatClampNeg) ≤ (σ.1 68 x1.toNatClampNeg) → (vp_in x1 80 ∧ vp_in ((8 * x1) + (σ.1 68 x1.toNatClampNeg)) 640 ∧ ∀ v_1 : Int32, v_1 = ((8 * x1) + (σ.1 67 ((8 * x1) + (σ.1 68 x1.toNatClampNeg)).toNatClampNeg)) → vp_in v_1 640 ∧ ∀ v_2 : Int32, v_2 = (σ.1 53 v_1.toNatClampNeg) → vp_in v_1 640 ∧ ∀ v_3 : Int32, v_3 = (σ.1 52 v_1.toNatClampNeg) → (v_3 = 1 → (B_X11_goBool_64 Q (L_X11_goBool_0 Q u) x1 v_2 v_3 σ)) ∧ (¬ v_3 = 1 → ((¬ v_3 = 2 → (B_X11_goBool_77 Q (L_X11_goBool_0 Q u) x1 v_2 v_3 σ)) ∧ (v_3 = 2 → (B_X11_goBool_64 Q (L_X11_goBool_0 Q u) x1 v_2 v_3 σ))))))
set_option maxRecDepth 20000 in
set_option maxHeartbeats 2000000 in
theorem kL_X11_goBool_0 {G : zv_G} {X : zv_X} {Q : zv_St → Prop}  (hC : zv_C G X M_X11_goBool) (hR : zv_R G X M_X11_goBool (zv_qv Q))  : ∀ (n : Nat) (x1 : Int32) (σ : zv_St), L_X11_goBool_0 Q  n x1 σ → zv_V G X M_X11_goBool 0 [(0, .ref (G.2.2.1 45)), (1, .int x1)] [] σ := by
  intro n
  induction n with
  | zero => intro x1 σ h; exact h.elim
  | succ n hk0 =>
    intro x1 σ h
    unfold L_X11_goBool_0 at h
    refine zv_aload_n hC dX11_goBool_0 rfl ?_
    refine zv_getR (j := 68) hC fl_X11_79 dX11_goBool_1 rfl rfl ?_
    refine zv_iload_n hC dX11_goBool_4 rfl ?_
    refine zv_iald hC dX11_goBool_5 rfl h.1 ?_
    replace h := h.2
    refine zv_aload_n hC dX11_goBool_6 rfl ?_
    refine zv_getR (j := 51) hC fl_X11_25 dX11_goBool_7 rfl rfl ?_
    refine zv_iload_n hC dX11_goBool_10 rfl ?_
    refine zv_iald hC dX11_goBool_11 rfl h.1 ?_
    replace h := h.2
    refine zv_icmp_ge (tgt := 166) hC dX11_goBool_12 (by decide) (fun c => ?_) (fun c => ?_)
    · replace h := h.1 c
      refine zv_iconst (v := 0) hC dX11_goBool_166 (by decide) ?_
      refine zv_istore_n hC dX11_goBool_167 (by decide) ?_
      refine zv_iconst (v := 0) hC dX11_goBool_168 (by decide) ?_
      refine zv_istore_n hC dX11_goBool_169 (by decide) ?_
      refine zv_lconst (v := 0) hC dX11_goBool_170 (by decide) ?_
      refine zv_lstore hC dX11_goBool_171 (by decide) ?_
      refine zv_bipush (v := 8) hC dX11_goBool_173 (by decide) ?_
      refine zv_iload_n hC dX11_goBool_175 rfl ?_
      refine zv_imul hC dX11_goBool_176 ?_
      refine zv_istore hC dX11_goBool_177 (by decide) ?_
      obtain ⟨n, h⟩ := h
      exact zv_go (kL_X11_goBool_179 hC hR  n _ _ _ _ _ _ h) ⟨rfl, rfl, rfl, rfl, rfl, rfl, trivial⟩
    · replace h := h.2 c
      refine zv_bipush (v := 8) hC dX11_goBool_15 (by decide) ?_
      refine zv_iload_n hC dX11_goBool_17 rfl ?_
      refine zv_imul hC dX11_goBool_18 ?_
      refine zv_aload_n hC dX11_goBool_19 rfl ?_
      refine zv_getR (j := 67) hC fl_X11_76 dX11_goBool_20 rfl rfl ?_
      refine zv_bipush (v := 8) hC dX11_goBool_23 (by decide) ?_
      refine zv_iload_n hC dX11_goBool_25 rfl ?_
      refine zv_imul hC dX11_goBool_26 ?_
      refine zv_aload_n hC dX11_goBool_27 rfl ?_
      refine zv_getR (j := 68) hC fl_X11_79 dX11_goBool_28 rfl rfl ?_
      refine zv_iload_n hC dX11_goBool_31 rfl ?_
      refine zv_iald hC dX11_goBool_32 rfl h.1 ?_
      replace h := h.2
      refine zv_iadd hC dX11_goBool_33 ?_
      refine zv_iald hC dX11_goBool_34 rfl h.1 ?_
      replace h := h.2
      refine zv_iadd hC dX11_goBool_35 ?_
      replace h := h _ rfl
      refine zv_istore_n hC dX11_goBool_36 (by decide) ?_
      refine zv_aload_n hC dX11_goBool_37 rfl ?_
      refine zv_getR (j := 53) hC fl_X11_31 dX11_goBool_38 rfl rfl ?_
      refine zv_iload_n hC dX11_goBool_41 rfl ?_
      refine zv_iald hC dX11_goBool_42 rfl h.1 ?_
      replace h := h.2
      replace h := h _ rfl
      refine zv_istore_n hC dX11_goBool_43 (by decide) ?_
      refine zv_aload_n hC dX11_goBool_44 rfl ?_
      refine zv_getR (j := 52) hC fl_X11_28 dX11_goBool_45 rfl rfl ?_
      refine zv_iload_n hC dX11_goBool_48 rfl ?_
      refine zv_iald hC dX11_goBool_49 rfl h.1 ?_
      replace h := h.2
      replace h := h _ rfl
      refine zv_istore hC dX11_goBool_50 (by decide) ?_
      refine zv_iload hC dX11_goBool_52 rfl ?_
      refine zv_iconst (v := 1) hC dX11_goBool_54 (by decide) ?_
      refine zv_icmp_eq (tgt := 64) hC dX11_goBool_55 (by decide) (fun c => ?_) (fun c => ?_)
      · replace h := h.1 c
        exact zv_go (k_X11_goBool_64 hC hR hk0 h) ⟨rfl, rfl, rfl, rfl, trivial⟩
      · replace h := h.2 c
        refine zv_iload hC dX11_goBool_58 rfl ?_
        refine zv_iconst (v := 2) hC dX11_goBool_60 (by decide) ?_
        refine zv_icmp_ne (tgt := 77) hC dX11_goBool_61 (by decide) (fun c => ?_) (fun c => ?_)
        · replace h := h.1 c
          exact zv_go (k_X11_goBool_77 hC hR hk0 h) ⟨rfl, rfl, rfl, rfl, trivial⟩
        · replace h := h.2 c
          exact zv_go (k_X11_goBool_64 hC hR hk0 h) ⟨rfl, rfl, rfl, rfl, trivial⟩
def B_X11_goBool (Q : zv_St → Prop) (x1 : Int32) (σ : zv_St) : Prop := ∃ n, L_X11_goBool_0 Q n x1 σ
theorem ok_X11_goBool (G : zv_G) {Q : zv_St → Prop} {x1 : Int32} {σ : zv_St} (h : B_X11_goBool Q x1 σ) : zv_OK G M_X11_goBool yX11_goBool [.ref (G.2.2.1 45), .int x1] σ (zv_qv Q) := zv_ok G _ _ _ _ _ (by decide +kernel) rfl (Nat.le_of_ble_eq_true rfl) (fun X hC hR => (by obtain ⟨n, h⟩ := h; exact zv_go (kL_X11_goBool_0 hC hR n _ _ h) ⟨rfl, rfl, trivial⟩))
-- X11_goBest
def B_X11_goBest_169 (Q : zv_St → Prop) (x1 : Int32) (x3 : Int64) (x5 : Int64) (y1 : Int32) (y2 : Int32) (σ : zv_St) : Prop :=
  vp_in y1 80 ∧ ∀ σ_1 : zv_St, σ_1 = zv_wi σ 65 y1.toNatClampNeg y2 → vp_in x1 80 ∧ vp_in x1 80 ∧ ∀ σ_2 : zv_St, σ_2 = zv_wl σ_1 66 x1.toNatClampNeg (x3 + (((x5 - x3) * (Int32.toInt64 (σ_1.1 49 x1.toNatClampNeg))) / 100)) → Q σ_2
set_option maxRecDepth 20000 in
set_option maxHeartbeats 2000000 in
theorem k_X11_goBest_169 {G : zv_G} {X : zv_X} {Q : zv_St → Prop}  (hC : zv_C G X M_X11_goBest) (hR : zv_R G X M_X11_goBest (zv_qv Q))  {x1 : Int32} {x3 : Int64} {x5 : Int64} {y1 : Int32} {y2 : Int32} {σ : zv_St} (h : B_X11_goBest_169 Q  x1 x3 x5 y1 y2 σ) : zv_V G X M_X11_goBest 169 [(0, .ref (G.2.2.1 45)), (1, .int x1), (3, .long x3), (5, .long x5)] [.int y2, .int y1, .ref (G.2.2.1 65)] σ := by
  unfold B_X11_goBest_169 at h
  refine zv_iast hC dX11_goBest_169 rfl h.1 ?_
  replace h := h.2 _ rfl
  refine zv_aload_n hC dX11_goBest_170 rfl ?_
  refine zv_getR (j := 66) hC fl_X11_72 dX11_goBest_171 rfl rfl ?_
  refine zv_iload_n hC dX11_goBest_174 rfl ?_
  refine zv_lload_n hC dX11_goBest_175 rfl ?_
  refine zv_lload hC dX11_goBest_176 rfl ?_
  refine zv_lload_n hC dX11_goBest_178 rfl ?_
  refine zv_lsub hC dX11_goBest_179 ?_
  refine zv_aload_n hC dX11_goBest_180 rfl ?_
  refine zv_getR (j := 49) hC fl_X11_19 dX11_goBest_181 rfl rfl ?_
  refine zv_iload_n hC dX11_goBest_184 rfl ?_
  refine zv_iald hC dX11_goBest_185 rfl h.1 ?_
  replace h := h.2
  refine zv_i2l hC dX11_goBest_186 ?_
  refine zv_lmul hC dX11_goBest_187 ?_
  refine zv_ldc2 hC dX11_goBest_188 cst_X11_170 ?_
  refine zv_ldiv hC dX11_goBest_191 (by decide) ?_
  refine zv_ladd hC dX11_goBest_192 ?_
  refine zv_last hC dX11_goBest_193 rfl h.1 ?_
  replace h := h.2 _ rfl
  exact (hR _ _ _).2.2.2.1 rfl dX11_goBest_194 ⟨rfl, h⟩
def B_X11_goBest_149 (Q : zv_St → Prop) (kk71 : Int32 → Int32 → Int64 → Int64 → Int32 → zv_St → Prop) (x1 : Int32) (x2 : Int32) (x3 : Int64) (x5 : Int64) (x7 : Int32) (σ : zv_St) : Prop :=
  kk71 x1 x2 x3 x5 (x7 + 1) σ
set_option maxRecDepth 20000 in
set_option maxHeartbeats 2000000 in
theorem k_X11_goBest_149 {G : zv_G} {X : zv_X} {Q : zv_St → Prop} {kk71 : Int32 → Int32 → Int64 → Int64 → Int32 → zv_St → Prop} (hC : zv_C G X M_X11_goBest) (hR : zv_R G X M_X11_goBest (zv_qv Q)) (hk71 : ∀ (x1 : Int32) (x2 : Int32) (x3 : Int64) (x5 : Int64) (x7 : Int32) (σ : zv_St), kk71 x1 x2 x3 x5 x7 σ → zv_V G X M_X11_goBest 71 [(0, .ref (G.2.2.1 45)), (1, .int x1), (2, .int x2), (3, .long x3), (5, .long x5), (7, .int x7)] [] σ) {x1 : Int32} {x2 : Int32} {x3 : Int64} {x5 : Int64} {x7 : Int32} {σ : zv_St} (h : B_X11_goBest_149 Q kk71 x1 x2 x3 x5 x7 σ) : zv_V G X M_X11_goBest 149 [(0, .ref (G.2.2.1 45)), (1, .int x1), (2, .int x2), (3, .long x3), (5, .long x5), (7, .int x7)] [] σ := by
  unfold B_X11_goBest_149 at h
  refine zv_iinc (v := 1) hC dX11_goBest_149 rfl (by decide) (by decide) ?_
  refine zv_goto (tgt := 71) hC dX11_goBest_152 (by decide) ?_
  exact zv_go (hk71 _ _ _ _ _ _ h) ⟨rfl, rfl, rfl, rfl, rfl, rfl, trivial⟩
def B_X11_goBest_134 (Q : zv_St → Prop) (kk71 : Int32 → Int32 → Int64 → Int64 → Int32 → zv_St → Prop) (x1 : Int32) (x5 : Int64) (x7 : Int32) (x8 : Int32) (y0 : Int64) (σ : zv_St) : Prop :=
  vp_in x8 80 ∧ ∀ v_1 : Int64, v_1 = (x5 + (σ.2 66 x8.toNatClampNeg)) → B_X11_goBest_149 Q kk71 x1 1 y0 v_1 x7 σ
set_option maxRecDepth 20000 in
set_option maxHeartbeats 2000000 in
theorem k_X11_goBest_134 {G : zv_G} {X : zv_X} {Q : zv_St → Prop} {kk71 : Int32 → Int32 → Int64 → Int64 → Int32 → zv_St → Prop} (hC : zv_C G X M_X11_goBest) (hR : zv_R G X M_X11_goBest (zv_qv Q)) (hk71 : ∀ (x1 : Int32) (x2 : Int32) (x3 : Int64) (x5 : Int64) (x7 : Int32) (σ : zv_St), kk71 x1 x2 x3 x5 x7 σ → zv_V G X M_X11_goBest 71 [(0, .ref (G.2.2.1 45)), (1, .int x1), (2, .int x2), (3, .long x3), (5, .long x5), (7, .int x7)] [] σ) {x1 : Int32} {x5 : Int64} {x7 : Int32} {x8 : Int32} {y0 : Int64} {σ : zv_St} (h : B_X11_goBest_134 Q kk71 x1 x5 x7 x8 y0 σ) : zv_V G X M_X11_goBest 134 [(0, .ref (G.2.2.1 45)), (1, .int x1), (5, .long x5), (7, .int x7), (8, .int x8)] [.long y0] σ := by
  unfold B_X11_goBest_134 at h
  refine zv_lstore_n hC dX11_goBest_134 (by decide) ?_
  refine zv_lload hC dX11_goBest_135 rfl ?_
  refine zv_aload_n hC dX11_goBest_137 rfl ?_
  refine zv_getR (j := 66) hC fl_X11_72 dX11_goBest_138 rfl rfl ?_
  refine zv_iload hC dX11_goBest_141 rfl ?_
  refine zv_lald hC dX11_goBest_143 rfl h.1 ?_
  replace h := h.2
  refine zv_ladd hC dX11_goBest_144 ?_
  replace h := h _ rfl
  refine zv_lstore hC dX11_goBest_145 (by decide) ?_
  refine zv_iconst (v := 1) hC dX11_goBest_147 (by decide) ?_
  refine zv_istore_n hC dX11_goBest_148 (by decide) ?_
  exact zv_go (k_X11_goBest_149 hC hR hk71 h) ⟨rfl, rfl, rfl, rfl, rfl, rfl, trivial⟩
def B_X11_goBest_123 (Q : zv_St → Prop) (kk71 : Int32 → Int32 → Int64 → Int64 → Int32 → zv_St → Prop) (x1 : Int32) (x5 : Int64) (x7 : Int32) (x8 : Int32) (σ : zv_St) : Prop :=
  vp_in x8 80 ∧ B_X11_goBest_134 Q kk71 x1 x5 x7 x8 (σ.2 66 x8.toNatClampNeg) σ
set_option maxRecDepth 20000 in
set_option maxHeartbeats 2000000 in
theorem k_X11_goBest_123 {G : zv_G} {X : zv_X} {Q : zv_St → Prop} {kk71 : Int32 → Int32 → Int64 → Int64 → Int32 → zv_St → Prop} (hC : zv_C G X M_X11_goBest) (hR : zv_R G X M_X11_goBest (zv_qv Q)) (hk71 : ∀ (x1 : Int32) (x2 : Int32) (x3 : Int64) (x5 : Int64) (x7 : Int32) (σ : zv_St), kk71 x1 x2 x3 x5 x7 σ → zv_V G X M_X11_goBest 71 [(0, .ref (G.2.2.1 45)), (1, .int x1), (2, .int x2), (3, .long x3), (5, .long x5), (7, .int x7)] [] σ) {x1 : Int32} {x5 : Int64} {x7 : Int32} {x8 : Int32} {σ : zv_St} (h : B_X11_goBest_123 Q kk71 x1 x5 x7 x8 σ) : zv_V G X M_X11_goBest 123 [(0, .ref (G.2.2.1 45)), (1, .int x1), (5, .long x5), (7, .int x7), (8, .int x8)] [] σ := by
  unfold B_X11_goBest_123 at h
  refine zv_aload_n hC dX11_goBest_123 rfl ?_
  refine zv_getR (j := 66) hC fl_X11_72 dX11_goBest_124 rfl rfl ?_
  refine zv_iload hC dX11_goBest_127 rfl ?_
  refine zv_lald hC dX11_goBest_129 rfl h.1 ?_
  replace h := h.2
  refine zv_goto (tgt := 134) hC dX11_goBest_130 (by decide) ?_
  exact zv_go (k_X11_goBest_134 hC hR hk71 h) ⟨rfl, rfl, rfl, rfl, rfl, trivial⟩
def L_X11_goBest_71 (Q : zv_St → Prop) : Nat → (Int32 → Int32 → Int64 → Int64 → Int32 → zv_St → Prop)
  | 0 => fun _ _ _ _ _ _ => False
  | u + 1 => fun x1 x2 x3 x5 x7 σ => 
    vp_in x1 80 ∧ ((σ.1 51 x1.toNatClampNeg) ≤ x7 → ((x2 = 0 → (B_X11_goBest_169 Q x1 x3 x5 x1 0 σ)) ∧ (¬ x2 = 0 → (B_X11_goBest_169 Q x1 x3 x5 x1 1 σ)))) ∧ (¬ (σ.1 51 x1.toNatClampNeg) ≤ x7 → (vp_in ((8 * x1) + x7) 640 ∧ ∀ v_1 : Int32, v_1 = (σ.1 53 ((8 * x1) + x7).toNatClampNeg) → vp_in v_1 80 ∧ (¬ (σ.1 65 v_1.toNatClampNeg) = 1 → (B_X11_goBest_149 Q (L_X11_goBest_71 Q u) x1 x2 x3 x5 x7 σ)) ∧ ((σ.1 65 v_1.toNatClampNeg) = 1 → ((x2 = 0 → (B_X11_goBest_123 Q (L_X11_goBest_71 Q u) x1 x5 x7 v_1 σ)) ∧ (¬ x2 = 0 → (vp_in v_1 80 ∧ ((lg_cmp (σ.2 66 v_1.toNatClampNeg) x3) ≤ 0 → (B_X11_goBest_134 Q (L_X11_goBest_71 Q u) x1 x5 x7 v_1 x3 σ)) ∧ (¬ (lg_cmp (σ.2 66 v_1.toNatClampNeg) x3) ≤ 0 → (B_X11_goBest_123 Q (L_X11_goBest_71 Q u) x1 x5 x7 v_1 σ))))))))
set_option maxRecDepth 20000 in
set_option maxHeartbeats 2000000 in
theorem kL_X11_goBest_71 {G : zv_G} {X : zv_X} {Q : zv_St → Prop}  (hC : zv_C G X M_X11_goBest) (hR : zv_R G X M_X11_goBest (zv_qv Q))  : ∀ (n : Nat) (x1 : Int32) (x2 : Int32) (x3 : Int64) (x5 : Int64) (x7 : Int32) (σ : zv_St), L_X11_goBest_71 Q  n x1 x2 x3 x5 x7 σ → zv_V G X M_X11_goBest 71 [(0, .ref (G.2.2.1 45)), (1, .int x1), (2, .int x2), (3, .long x3), (5, .long x5), (7, .int x7)] [] σ := by
  intro n
  induction n with
  | zero => intro x1 x2 x3 x5 x7 σ h; exact h.elim
  | succ n hk71 =>
    intro x1 x2 x3 x5 x7 σ h
    unfold L_X11_goBest_71 at h
    refine zv_iload hC dX11_goBest_71 rfl ?_
    refine zv_aload_n hC dX11_goBest_73 rfl ?_
    refine zv_getR (j := 51) hC fl_X11_25 dX11_goBest_74 rfl rfl ?_
    refine zv_iload_n hC dX11_goBest_77 rfl ?_
    refine zv_iald hC dX11_goBest_78 rfl h.1 ?_
    replace h := h.2
    refine zv_icmp_ge (tgt := 155) hC dX11_goBest_79 (by decide) (fun c => ?_) (fun c => ?_)
    · replace h := h.1 c
      refine zv_aload_n hC dX11_goBest_155 rfl ?_
      refine zv_getR (j := 65) hC fl_X11_69 dX11_goBest_156 rfl rfl ?_
      refine zv_iload_n hC dX11_goBest_159 rfl ?_
      refine zv_iload_n hC dX11_goBest_160 rfl ?_
      refine zv_if_eq (tgt := 168) hC dX11_goBest_161 (by decide) (fun c => ?_) (fun c => ?_)
      · replace h := h.1 c
        refine zv_iconst (v := 0) hC dX11_goBest_168 (by decide) ?_
        exact zv_go (k_X11_goBest_169 hC hR  h) ⟨rfl, rfl, rfl, rfl, trivial⟩
      · replace h := h.2 c
        refine zv_iconst (v := 1) hC dX11_goBest_164 (by decide) ?_
        refine zv_goto (tgt := 169) hC dX11_goBest_165 (by decide) ?_
        exact zv_go (k_X11_goBest_169 hC hR  h) ⟨rfl, rfl, rfl, rfl, trivial⟩
    · replace h := h.2 c
      refine zv_aload_n hC dX11_goBest_82 rfl ?_
      refine zv_getR (j := 53) hC fl_X11_31 dX11_goBest_83 rfl rfl ?_
      refine zv_bipush (v := 8) hC dX11_goBest_86 (by decide) ?_
      refine zv_iload_n hC dX11_goBest_88 rfl ?_
      refine zv_imul hC dX11_goBest_89 ?_
      refine zv_iload hC dX11_goBest_90 rfl ?_
      refine zv_iadd hC dX11_goBest_92 ?_
      refine zv_iald hC dX11_goBest_93 rfl h.1 ?_
      replace h := h.2
      replace h := h _ rfl
      refine zv_istore hC dX11_goBest_94 (by decide) ?_
      refine zv_aload_n hC dX11_goBest_96 rfl ?_
      refine zv_getR (j := 65) hC fl_X11_69 dX11_goBest_97 rfl rfl ?_
      refine zv_iload hC dX11_goBest_100 rfl ?_
      refine zv_iald hC dX11_goBest_102 rfl h.1 ?_
      replace h := h.2
      refine zv_iconst (v := 1) hC dX11_goBest_103 (by decide) ?_
      refine zv_icmp_ne (tgt := 149) hC dX11_goBest_104 (by decide) (fun c => ?_) (fun c => ?_)
      · replace h := h.1 c
        exact zv_go (k_X11_goBest_149 hC hR hk71 h) ⟨rfl, rfl, rfl, rfl, rfl, rfl, trivial⟩
      · replace h := h.2 c
        refine zv_iload_n hC dX11_goBest_107 rfl ?_
        refine zv_if_eq (tgt := 123) hC dX11_goBest_108 (by decide) (fun c => ?_) (fun c => ?_)
        · replace h := h.1 c
          exact zv_go (k_X11_goBest_123 hC hR hk71 h) ⟨rfl, rfl, rfl, rfl, rfl, trivial⟩
        · replace h := h.2 c
          refine zv_aload_n hC dX11_goBest_111 rfl ?_
          refine zv_getR (j := 66) hC fl_X11_72 dX11_goBest_112 rfl rfl ?_
          refine zv_iload hC dX11_goBest_115 rfl ?_
          refine zv_lald hC dX11_goBest_117 rfl h.1 ?_
          replace h := h.2
          refine zv_lload_n hC dX11_goBest_118 rfl ?_
          refine zv_lcmp hC dX11_goBest_119 ?_
          refine zv_if_le (tgt := 133) hC dX11_goBest_120 (by decide) (fun c => ?_) (fun c => ?_)
          · replace h := h.1 c
            refine zv_lload_n hC dX11_goBest_133 rfl ?_
            exact zv_go (k_X11_goBest_134 hC hR hk71 h) ⟨rfl, rfl, rfl, rfl, rfl, trivial⟩
          · replace h := h.2 c
            exact zv_go (k_X11_goBest_123 hC hR hk71 h) ⟨rfl, rfl, rfl, rfl, rfl, trivial⟩
def L_X11_goBest_0 (Q : zv_St → Prop) : Nat → (Int32 → zv_St → Prop)
  | 0 => fun _ _ => False
  | u + 1 => fun x1 σ => 
    vp_in x1 80 ∧ vp_in x1 80 ∧ ((σ.1 51 x1.toNatClampNeg) ≤ (σ.1 68 x1.toNatClampNeg) → (∃ n71, L_X11_goBest_71 Q n71 x1 0 0 0 0 σ)) ∧ (¬ (σ.1 51 x1.toNatClampNeg) ≤ (σ.1 68 x1.toNatClampNeg) → (vp_in x1 80 ∧ vp_in ((8 * x1) + (σ.1 68 x1.toNatClampNeg)) 640 ∧ ∀ v_1 : Int32, v_1 = (σ.1 53 ((8 * x1) + (σ.1 68 x1.toNatClampNeg)).toNatClampNeg) → B_X11_come (fun σ_2 => vp_in v_1 80 ∧ (¬ (σ_2.1 65 v_1.toNatClampNeg) = (-1) → (vp_in x1 80 ∧ vp_in x1 80 ∧ ∀ σ_3 : zv_St, σ_3 = zv_wi σ_2 68 x1.toNatClampNeg ((σ_2.1 68 x1.toNatClampNeg) + 1) → (L_X11_goBest_0 Q u) x1 σ_3)) ∧ ((σ_2.1 65 v_1.toNatClampNeg) = (-1) → (Q σ_2))) v_1 σ))
set_option maxRecDepth 20000 in
set_option maxHeartbeats 2000000 in
theorem kL_X11_goBest_0 {G : zv_G} {X : zv_X} {Q : zv_St → Prop}  (hC : zv_C G X M_X11_goBest) (hR : zv_R G X M_X11_goBest (zv_qv Q))  : ∀ (n : Nat) (x1 : Int32) (σ : zv_St), L_X11_goBest_0 Q  n x1 σ → zv_V G X M_X11_goBest 0 [(0, .ref (G.2.2.1 45)), (1, .int x1)] [] σ := by
  intro n
  induction n with
  | zero => intro x1 σ h; exact h.elim
  | succ n hk0 =>
    intro x1 σ h
    unfold L_X11_goBest_0 at h
    refine zv_aload_n hC dX11_goBest_0 rfl ?_
    refine zv_getR (j := 68) hC fl_X11_79 dX11_goBest_1 rfl rfl ?_
    refine zv_iload_n hC dX11_goBest_4 rfl ?_
    refine zv_iald hC dX11_goBest_5 rfl h.1 ?_
    replace h := h.2
    refine zv_aload_n hC dX11_goBest_6 rfl ?_
    refine zv_getR (j := 51) hC fl_X11_25 dX11_goBest_7 rfl rfl ?_
    refine zv_iload_n hC dX11_goBest_10 rfl ?_
    refine zv_iald hC dX11_goBest_11 rfl h.1 ?_
    replace h := h.2
    refine zv_icmp_ge (tgt := 61) hC dX11_goBest_12 (by decide) (fun c => ?_) (fun c => ?_)
    · replace h := h.1 c
      refine zv_iconst (v := 0) hC dX11_goBest_61 (by decide) ?_
      refine zv_istore_n hC dX11_goBest_62 (by decide) ?_
      refine zv_lconst (v := 0) hC dX11_goBest_63 (by decide) ?_
      refine zv_lstore_n hC dX11_goBest_64 (by decide) ?_
      refine zv_lconst (v := 0) hC dX11_goBest_65 (by decide) ?_
      refine zv_lstore hC dX11_goBest_66 (by decide) ?_
      refine zv_iconst (v := 0) hC dX11_goBest_68 (by decide) ?_
      refine zv_istore hC dX11_goBest_69 (by decide) ?_
      obtain ⟨n, h⟩ := h
      exact zv_go (kL_X11_goBest_71 hC hR  n _ _ _ _ _ _ h) ⟨rfl, rfl, rfl, rfl, rfl, rfl, trivial⟩
    · replace h := h.2 c
      refine zv_aload_n hC dX11_goBest_15 rfl ?_
      refine zv_getR (j := 53) hC fl_X11_31 dX11_goBest_16 rfl rfl ?_
      refine zv_bipush (v := 8) hC dX11_goBest_19 (by decide) ?_
      refine zv_iload_n hC dX11_goBest_21 rfl ?_
      refine zv_imul hC dX11_goBest_22 ?_
      refine zv_aload_n hC dX11_goBest_23 rfl ?_
      refine zv_getR (j := 68) hC fl_X11_79 dX11_goBest_24 rfl rfl ?_
      refine zv_iload_n hC dX11_goBest_27 rfl ?_
      refine zv_iald hC dX11_goBest_28 rfl h.1 ?_
      replace h := h.2
      refine zv_iadd hC dX11_goBest_29 ?_
      refine zv_iald hC dX11_goBest_30 rfl h.1 ?_
      replace h := h.2
      replace h := h _ rfl
      refine zv_istore_n hC dX11_goBest_31 (by decide) ?_
      refine zv_aload_n hC dX11_goBest_32 rfl ?_
      refine zv_iload_n hC dX11_goBest_33 rfl ?_
      refine zv_callVv (As := [_]) hC dX11_goBest_34 Y_X11_come lk_X11_155 (by decide) rfl rfl rfl (Nat.le_of_ble_eq_true rfl) (ok_X11_come G h) ?_
      intro σ_2 h
      refine zv_aload_n hC dX11_goBest_37 rfl ?_
      refine zv_getR (j := 65) hC fl_X11_69 dX11_goBest_38 rfl rfl ?_
      refine zv_iload_n hC dX11_goBest_41 rfl ?_
      refine zv_iald hC dX11_goBest_42 rfl h.1 ?_
      replace h := h.2
      refine zv_iconst (v := (-1)) hC dX11_goBest_43 (by decide) ?_
      refine zv_icmp_ne (tgt := 48) hC dX11_goBest_44 (by decide) (fun c => ?_) (fun c => ?_)
      · replace h := h.1 c
        refine zv_aload_n hC dX11_goBest_48 rfl ?_
        refine zv_getR (j := 68) hC fl_X11_79 dX11_goBest_49 rfl rfl ?_
        refine zv_iload_n hC dX11_goBest_52 rfl ?_
        refine zv_dup2 hC dX11_goBest_53 rfl rfl ?_
        refine zv_iald hC dX11_goBest_54 rfl h.1 ?_
        replace h := h.2
        refine zv_iconst (v := 1) hC dX11_goBest_55 (by decide) ?_
        refine zv_iadd hC dX11_goBest_56 ?_
        refine zv_iast hC dX11_goBest_57 rfl h.1 ?_
        replace h := h.2 _ rfl
        refine zv_goto (tgt := 0) hC dX11_goBest_58 (by decide) ?_
        exact zv_go (hk0 _ _ h) ⟨rfl, rfl, trivial⟩
      · replace h := h.2 c
        exact (hR _ _ _).2.2.2.1 rfl dX11_goBest_47 ⟨rfl, h⟩
def B_X11_goBest (Q : zv_St → Prop) (x1 : Int32) (σ : zv_St) : Prop := ∃ n, L_X11_goBest_0 Q n x1 σ
theorem ok_X11_goBest (G : zv_G) {Q : zv_St → Prop} {x1 : Int32} {σ : zv_St} (h : B_X11_goBest Q x1 σ) : zv_OK G M_X11_goBest yX11_goBest [.ref (G.2.2.1 45), .int x1] σ (zv_qv Q) := zv_ok G _ _ _ _ _ (by decide +kernel) rfl (Nat.le_of_ble_eq_true rfl) (fun X hC hR => (by obtain ⟨n, h⟩ := h; exact zv_go (kL_X11_goBest_0 hC hR n _ _ h) ⟨rfl, rfl, trivial⟩))
-- X11_goOne
def B_X11_goOne_166 (Q : zv_St → Prop) (y1 : Int32) (y2 : Int64) (σ : zv_St) : Prop :=
  vp_in y1 80 ∧ ∀ σ_1 : zv_St, σ_1 = zv_wl σ 66 y1.toNatClampNeg y2 → Q σ_1
set_option maxRecDepth 20000 in
set_option maxHeartbeats 2000000 in
theorem k_X11_goOne_166 {G : zv_G} {X : zv_X} {Q : zv_St → Prop}  (hC : zv_C G X M_X11_goOne) (hR : zv_R G X M_X11_goOne (zv_qv Q))  {y1 : Int32} {y2 : Int64} {σ : zv_St} (h : B_X11_goOne_166 Q  y1 y2 σ) : zv_V G X M_X11_goOne 166 [] [.long y2, .int y1, .ref (G.2.2.1 66)] σ := by
  unfold B_X11_goOne_166 at h
  refine zv_last hC dX11_goOne_166 rfl h.1 ?_
  replace h := h.2 _ rfl
  exact (hR _ _ _).2.2.2.1 rfl dX11_goOne_167 ⟨rfl, h⟩
def B_X11_goOne_113 (Q : zv_St → Prop) (x1 : Int32) (x3 : Int32) (x4 : Int32) (σ : zv_St) : Prop :=
  vp_in x1 80 ∧ ∀ σ_1 : zv_St, σ_1 = zv_wi σ 65 x1.toNatClampNeg x4 → vp_in x1 80 ∧ (¬ (σ_1.1 48 x1.toNatClampNeg) = 4 → (vp_in x1 80 ∧ (¬ (σ_1.1 48 x1.toNatClampNeg) = 5 → (B_X11_goOne_166 Q x1 0 σ_1)) ∧ ((σ_1.1 48 x1.toNatClampNeg) = 5 → (vp_in x3 80 ∧ B_X11_goOne_166 Q x1 (σ_1.2 66 x3.toNatClampNeg) σ_1)))) ∧ ((σ_1.1 48 x1.toNatClampNeg) = 4 → (vp_in x1 80 ∧ B_X11_goOne_166 Q x1 (Int32.toInt64 (σ_1.1 50 x1.toNatClampNeg)) σ_1))
set_option maxRecDepth 20000 in
set_option maxHeartbeats 2000000 in
theorem k_X11_goOne_113 {G : zv_G} {X : zv_X} {Q : zv_St → Prop}  (hC : zv_C G X M_X11_goOne) (hR : zv_R G X M_X11_goOne (zv_qv Q))  {x1 : Int32} {x3 : Int32} {x4 : Int32} {σ : zv_St} (h : B_X11_goOne_113 Q  x1 x3 x4 σ) : zv_V G X M_X11_goOne 113 [(0, .ref (G.2.2.1 45)), (1, .int x1), (3, .int x3), (4, .int x4)] [] σ := by
  unfold B_X11_goOne_113 at h
  refine zv_aload_n hC dX11_goOne_113 rfl ?_
  refine zv_getR (j := 65) hC fl_X11_69 dX11_goOne_114 rfl rfl ?_
  refine zv_iload_n hC dX11_goOne_117 rfl ?_
  refine zv_iload hC dX11_goOne_118 rfl ?_
  refine zv_iast hC dX11_goOne_120 rfl h.1 ?_
  replace h := h.2 _ rfl
  refine zv_aload_n hC dX11_goOne_121 rfl ?_
  refine zv_getR (j := 66) hC fl_X11_72 dX11_goOne_122 rfl rfl ?_
  refine zv_iload_n hC dX11_goOne_125 rfl ?_
  refine zv_aload_n hC dX11_goOne_126 rfl ?_
  refine zv_getR (j := 48) hC fl_X11_16 dX11_goOne_127 rfl rfl ?_
  refine zv_iload_n hC dX11_goOne_130 rfl ?_
  refine zv_iald hC dX11_goOne_131 rfl h.1 ?_
  replace h := h.2
  refine zv_iconst (v := 4) hC dX11_goOne_132 (by decide) ?_
  refine zv_icmp_ne (tgt := 146) hC dX11_goOne_133 (by decide) (fun c => ?_) (fun c => ?_)
  · replace h := h.1 c
    refine zv_aload_n hC dX11_goOne_146 rfl ?_
    refine zv_getR (j := 48) hC fl_X11_16 dX11_goOne_147 rfl rfl ?_
    refine zv_iload_n hC dX11_goOne_150 rfl ?_
    refine zv_iald hC dX11_goOne_151 rfl h.1 ?_
    replace h := h.2
    refine zv_iconst (v := 5) hC dX11_goOne_152 (by decide) ?_
    refine zv_icmp_ne (tgt := 165) hC dX11_goOne_153 (by decide) (fun c => ?_) (fun c => ?_)
    · replace h := h.1 c
      refine zv_lconst (v := 0) hC dX11_goOne_165 (by decide) ?_
      exact zv_go (k_X11_goOne_166 hC hR  h) trivial
    · replace h := h.2 c
      refine zv_aload_n hC dX11_goOne_156 rfl ?_
      refine zv_getR (j := 66) hC fl_X11_72 dX11_goOne_157 rfl rfl ?_
      refine zv_iload_n hC dX11_goOne_160 rfl ?_
      refine zv_lald hC dX11_goOne_161 rfl h.1 ?_
      replace h := h.2
      refine zv_goto (tgt := 166) hC dX11_goOne_162 (by decide) ?_
      exact zv_go (k_X11_goOne_166 hC hR  h) trivial
  · replace h := h.2 c
    refine zv_aload_n hC dX11_goOne_136 rfl ?_
    refine zv_getR (j := 50) hC fl_X11_22 dX11_goOne_137 rfl rfl ?_
    refine zv_iload_n hC dX11_goOne_140 rfl ?_
    refine zv_iald hC dX11_goOne_141 rfl h.1 ?_
    replace h := h.2
    refine zv_i2l hC dX11_goOne_142 ?_
    refine zv_goto (tgt := 166) hC dX11_goOne_143 (by decide) ?_
    exact zv_go (k_X11_goOne_166 hC hR  h) trivial
def B_X11_goOne_111 (Q : zv_St → Prop) (x1 : Int32) (x3 : Int32) (y0 : Int32) (σ : zv_St) : Prop :=
  B_X11_goOne_113 Q x1 x3 y0 σ
set_option maxRecDepth 20000 in
set_option maxHeartbeats 2000000 in
theorem k_X11_goOne_111 {G : zv_G} {X : zv_X} {Q : zv_St → Prop}  (hC : zv_C G X M_X11_goOne) (hR : zv_R G X M_X11_goOne (zv_qv Q))  {x1 : Int32} {x3 : Int32} {y0 : Int32} {σ : zv_St} (h : B_X11_goOne_111 Q  x1 x3 y0 σ) : zv_V G X M_X11_goOne 111 [(0, .ref (G.2.2.1 45)), (1, .int x1), (3, .int x3)] [.int y0] σ := by
  unfold B_X11_goOne_111 at h
  refine zv_istore hC dX11_goOne_111 (by decide) ?_
  exact zv_go (k_X11_goOne_113 hC hR  h) ⟨rfl, rfl, rfl, rfl, trivial⟩
def B_X11_goOne (Q : zv_St → Prop) (x1 : Int32) (x2 : Int32) (σ : zv_St) : Prop :=
  vp_in x1 80 ∧ ∀ v_1 : Int32, v_1 = (σ.1 49 x1.toNatClampNeg) → B_X11_come (fun σ_2 => vp_in v_1 80 ∧ (¬ (σ_2.1 65 v_1.toNatClampNeg) = (-1) → (vp_in v_1 80 ∧ ∀ v_3 : Int32, v_3 = (σ_2.1 65 v_1.toNatClampNeg) → vp_in x1 80 ∧ (¬ (σ_2.1 48 x1.toNatClampNeg) = 5 → (B_X11_goOne_113 Q x1 v_1 v_3 σ_2)) ∧ ((σ_2.1 48 x1.toNatClampNeg) = 5 → ((¬ v_3 = 1 → (B_X11_goOne_113 Q x1 v_1 v_3 σ_2)) ∧ (v_3 = 1 → (vp_in x1 80 ∧ vp_in x1 80 ∧ ∀ σ_4 : zv_St, σ_4 = zv_wi σ_2 54 x1.toNatClampNeg ((σ_2.1 54 x1.toNatClampNeg) + 1) → ∀ σ_5 : zv_St, σ_5 = zv_wi σ_4 45 10 ((σ_4.1 45 10) + 1) → vp_in x1 80 ∧ vp_in x1 80 ∧ ¬ (((σ_5.1 50 x1.toNatClampNeg) / 1000) - ((σ_5.1 50 x1.toNatClampNeg) / 1000) / 1000 * 1000) = 0 ∧ vp_in x1 80 ∧ (((σ_5.1 50 x1.toNatClampNeg) - (σ_5.1 50 x1.toNatClampNeg) / 1000 * 1000) ≤ ((((σ_5.1 50 x1.toNatClampNeg) / 1000000) * x2) - (((σ_5.1 50 x1.toNatClampNeg) / 1000000) * x2) / (((σ_5.1 50 x1.toNatClampNeg) / 1000) - ((σ_5.1 50 x1.toNatClampNeg) / 1000) / 1000 * 1000) * (((σ_5.1 50 x1.toNatClampNeg) / 1000) - ((σ_5.1 50 x1.toNatClampNeg) / 1000) / 1000 * 1000)) → (B_X11_goOne_111 Q x1 v_1 0 σ_5)) ∧ (¬ ((σ_5.1 50 x1.toNatClampNeg) - (σ_5.1 50 x1.toNatClampNeg) / 1000 * 1000) ≤ ((((σ_5.1 50 x1.toNatClampNeg) / 1000000) * x2) - (((σ_5.1 50 x1.toNatClampNeg) / 1000000) * x2) / (((σ_5.1 50 x1.toNatClampNeg) / 1000) - ((σ_5.1 50 x1.toNatClampNeg) / 1000) / 1000 * 1000) * (((σ_5.1 50 x1.toNatClampNeg) / 1000) - ((σ_5.1 50 x1.toNatClampNeg) / 1000) / 1000 * 1000)) → (B_X11_goOne_111 Q x1 v_1 1 σ_5)))))))) ∧ ((σ_2.1 65 v_1.toNatClampNeg) = (-1) → (Q σ_2))) v_1 σ
set_option maxRecDepth 20000 in
set_option maxHeartbeats 2000000 in
theorem k_X11_goOne_0 {G : zv_G} {X : zv_X} {Q : zv_St → Prop}  (hC : zv_C G X M_X11_goOne) (hR : zv_R G X M_X11_goOne (zv_qv Q))  {x1 : Int32} {x2 : Int32} {σ : zv_St} (h : B_X11_goOne Q  x1 x2 σ) : zv_V G X M_X11_goOne 0 [(0, .ref (G.2.2.1 45)), (1, .int x1), (2, .int x2)] [] σ := by
  unfold B_X11_goOne at h
  refine zv_aload_n hC dX11_goOne_0 rfl ?_
  refine zv_getR (j := 49) hC fl_X11_19 dX11_goOne_1 rfl rfl ?_
  refine zv_iload_n hC dX11_goOne_4 rfl ?_
  refine zv_iald hC dX11_goOne_5 rfl h.1 ?_
  replace h := h.2
  replace h := h _ rfl
  refine zv_istore_n hC dX11_goOne_6 (by decide) ?_
  refine zv_aload_n hC dX11_goOne_7 rfl ?_
  refine zv_iload_n hC dX11_goOne_8 rfl ?_
  refine zv_callVv (As := [_]) hC dX11_goOne_9 Y_X11_come lk_X11_155 (by decide) rfl rfl rfl (Nat.le_of_ble_eq_true rfl) (ok_X11_come G h) ?_
  intro σ_2 h
  refine zv_aload_n hC dX11_goOne_12 rfl ?_
  refine zv_getR (j := 65) hC fl_X11_69 dX11_goOne_13 rfl rfl ?_
  refine zv_iload_n hC dX11_goOne_16 rfl ?_
  refine zv_iald hC dX11_goOne_17 rfl h.1 ?_
  replace h := h.2
  refine zv_iconst (v := (-1)) hC dX11_goOne_18 (by decide) ?_
  refine zv_icmp_ne (tgt := 23) hC dX11_goOne_19 (by decide) (fun c => ?_) (fun c => ?_)
  · replace h := h.1 c
    refine zv_aload_n hC dX11_goOne_23 rfl ?_
    refine zv_getR (j := 65) hC fl_X11_69 dX11_goOne_24 rfl rfl ?_
    refine zv_iload_n hC dX11_goOne_27 rfl ?_
    refine zv_iald hC dX11_goOne_28 rfl h.1 ?_
    replace h := h.2
    replace h := h _ rfl
    refine zv_istore hC dX11_goOne_29 (by decide) ?_
    refine zv_aload_n hC dX11_goOne_31 rfl ?_
    refine zv_getR (j := 48) hC fl_X11_16 dX11_goOne_32 rfl rfl ?_
    refine zv_iload_n hC dX11_goOne_35 rfl ?_
    refine zv_iald hC dX11_goOne_36 rfl h.1 ?_
    replace h := h.2
    refine zv_iconst (v := 5) hC dX11_goOne_37 (by decide) ?_
    refine zv_icmp_ne (tgt := 113) hC dX11_goOne_38 (by decide) (fun c => ?_) (fun c => ?_)
    · replace h := h.1 c
      exact zv_go (k_X11_goOne_113 hC hR  h) ⟨rfl, rfl, rfl, rfl, trivial⟩
    · replace h := h.2 c
      refine zv_iload hC dX11_goOne_41 rfl ?_
      refine zv_iconst (v := 1) hC dX11_goOne_43 (by decide) ?_
      refine zv_icmp_ne (tgt := 113) hC dX11_goOne_44 (by decide) (fun c => ?_) (fun c => ?_)
      · replace h := h.1 c
        exact zv_go (k_X11_goOne_113 hC hR  h) ⟨rfl, rfl, rfl, rfl, trivial⟩
      · replace h := h.2 c
        refine zv_aload_n hC dX11_goOne_47 rfl ?_
        refine zv_getR (j := 54) hC fl_X11_34 dX11_goOne_48 rfl rfl ?_
        refine zv_iload_n hC dX11_goOne_51 rfl ?_
        refine zv_dup2 hC dX11_goOne_52 rfl rfl ?_
        refine zv_iald hC dX11_goOne_53 rfl h.1 ?_
        replace h := h.2
        refine zv_iconst (v := 1) hC dX11_goOne_54 (by decide) ?_
        refine zv_iadd hC dX11_goOne_55 ?_
        refine zv_iast hC dX11_goOne_56 rfl h.1 ?_
        replace h := h.2 _ rfl
        refine zv_aload_n hC dX11_goOne_57 rfl ?_
        refine zv_dup hC dX11_goOne_58 rfl ?_
        refine zv_getI hC fl_X11_167 dX11_goOne_59 rfl rfl ?_
        refine zv_iconst (v := 1) hC dX11_goOne_62 (by decide) ?_
        refine zv_iadd hC dX11_goOne_63 ?_
        refine zv_putI hC fp_X11_167 dX11_goOne_64 rfl rfl rfl rfl ?_
        replace h := h _ rfl
        refine zv_aload_n hC dX11_goOne_67 rfl ?_
        refine zv_getR (j := 50) hC fl_X11_22 dX11_goOne_68 rfl rfl ?_
        refine zv_iload_n hC dX11_goOne_71 rfl ?_
        refine zv_iald hC dX11_goOne_72 rfl h.1 ?_
        replace h := h.2
        refine zv_ldc hC dX11_goOne_73 cst_X11_119 ?_
        refine zv_idiv hC dX11_goOne_75 (by decide) ?_
        refine zv_iload_n hC dX11_goOne_76 rfl ?_
        refine zv_imul hC dX11_goOne_77 ?_
        refine zv_aload_n hC dX11_goOne_78 rfl ?_
        refine zv_getR (j := 50) hC fl_X11_22 dX11_goOne_79 rfl rfl ?_
        refine zv_iload_n hC dX11_goOne_82 rfl ?_
        refine zv_iald hC dX11_goOne_83 rfl h.1 ?_
        replace h := h.2
        refine zv_sipush (v := 1000) hC dX11_goOne_84 (by decide) ?_
        refine zv_idiv hC dX11_goOne_87 (by decide) ?_
        refine zv_sipush (v := 1000) hC dX11_goOne_88 (by decide) ?_
        refine zv_irem hC dX11_goOne_91 (by decide) ?_
        refine zv_irem hC dX11_goOne_92 h.1 ?_
        replace h := h.2
        refine zv_aload_n hC dX11_goOne_93 rfl ?_
        refine zv_getR (j := 50) hC fl_X11_22 dX11_goOne_94 rfl rfl ?_
        refine zv_iload_n hC dX11_goOne_97 rfl ?_
        refine zv_iald hC dX11_goOne_98 rfl h.1 ?_
        replace h := h.2
        refine zv_sipush (v := 1000) hC dX11_goOne_99 (by decide) ?_
        refine zv_irem hC dX11_goOne_102 (by decide) ?_
        refine zv_icmp_ge (tgt := 110) hC dX11_goOne_103 (by decide) (fun c => ?_) (fun c => ?_)
        · replace h := h.1 c
          refine zv_iconst (v := 0) hC dX11_goOne_110 (by decide) ?_
          exact zv_go (k_X11_goOne_111 hC hR  h) ⟨rfl, rfl, rfl, trivial⟩
        · replace h := h.2 c
          refine zv_iconst (v := 1) hC dX11_goOne_106 (by decide) ?_
          refine zv_goto (tgt := 111) hC dX11_goOne_107 (by decide) ?_
          exact zv_go (k_X11_goOne_111 hC hR  h) ⟨rfl, rfl, rfl, trivial⟩
  · replace h := h.2 c
    exact (hR _ _ _).2.2.2.1 rfl dX11_goOne_22 ⟨rfl, h⟩
theorem ok_X11_goOne (G : zv_G) {Q : zv_St → Prop} {x1 : Int32} {x2 : Int32} {σ : zv_St} (h : B_X11_goOne Q x1 x2 σ) : zv_OK G M_X11_goOne yX11_goOne [.ref (G.2.2.1 45), .int x1, .int x2] σ (zv_qv Q) := zv_ok G _ _ _ _ _ (by decide +kernel) rfl (Nat.le_of_ble_eq_true rfl) (fun X hC hR => zv_go (k_X11_goOne_0 hC hR h) ⟨rfl, rfl, rfl, trivial⟩)
