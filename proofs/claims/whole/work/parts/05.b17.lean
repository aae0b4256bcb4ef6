-- X11_newBool
def B_X11_newBool_218 (Q : Int32 → zv_St → Prop) (σ : zv_St) : Prop :=
  B_X11_so (fun r_2 σ_1 => Q r_2 σ_1) 7 0 0 σ
set_option maxRecDepth 20000 in
set_option maxHeartbeats 2000000 in
theorem k_X11_newBool_218 {G : zv_G} {X : zv_X} {Q : Int32 → zv_St → Prop}  (hC : zv_C G X M_X11_newBool) (hR : zv_R G X M_X11_newBool (zv_qi Q))   {σ : zv_St} (h : B_X11_newBool_218 Q   σ) : zv_V G X M_X11_newBool 218 [(0, .ref (G.2.2.1 45))] [] σ := by
  unfold B_X11_newBool_218 at h
  refine zv_aload_n hC dX11_newBool_218 rfl ?_
  refine zv_bipush (v := 7) hC dX11_newBool_219 (by decide) ?_
  refine zv_iconst (v := 0) hC dX11_newBool_221 (by decide) ?_
  refine zv_iconst (v := 0) hC dX11_newBool_222 (by decide) ?_
  refine zv_callVi (As := [_, _, _]) hC dX11_newBool_223 Y_X11_so lk_X11_202 (by decide) rfl rfl rfl (Nat.le_of_ble_eq_true rfl) (ok_X11_so G h) ?_
  intro r_2 σ_1 h
  exact (hR _ _ _).1 _ rfl dX11_newBool_226 ⟨_, rfl, h⟩
def B_X11_newBool_358 (Q : Int32 → zv_St → Prop) (y0 : Int32) (σ : zv_St) : Prop :=
  Q y0 σ
set_option maxRecDepth 20000 in
set_option maxHeartbeats 2000000 in
theorem k_X11_newBool_358 {G : zv_G} {X : zv_X} {Q : Int32 → zv_St → Prop}  (hC : zv_C G X M_X11_newBool) (hR : zv_R G X M_X11_newBool (zv_qi Q))  {y0 : Int32} {σ : zv_St} (h : B_X11_newBool_358 Q  y0 σ) : zv_V G X M_X11_newBool 358 [] [.int y0] σ := by
  unfold B_X11_newBool_358 at h
  exact (hR _ _ _).1 _ rfl dX11_newBool_358 ⟨_, rfl, h⟩
def B_X11_newBool_351 (Q : Int32 → zv_St → Prop) (x2 : Int32) (σ : zv_St) : Prop :=
  B_X11_so (fun r_2 σ_1 => B_X11_newBool_358 Q r_2 σ_1) 2 x2 0 σ
set_option maxRecDepth 20000 in
set_option maxHeartbeats 2000000 in
theorem k_X11_newBool_351 {G : zv_G} {X : zv_X} {Q : Int32 → zv_St → Prop}  (hC : zv_C G X M_X11_newBool) (hR : zv_R G X M_X11_newBool (zv_qi Q))  {x2 : Int32} {σ : zv_St} (h : B_X11_newBool_351 Q  x2 σ) : zv_V G X M_X11_newBool 351 [(0, .ref (G.2.2.1 45)), (2, .int x2)] [] σ := by
  unfold B_X11_newBool_351 at h
  refine zv_aload_n hC dX11_newBool_351 rfl ?_
  refine zv_iconst (v := 2) hC dX11_newBool_352 (by decide) ?_
  refine zv_iload_n hC dX11_newBool_353 rfl ?_
  refine zv_iconst (v := 0) hC dX11_newBool_354 (by decide) ?_
  refine zv_callVi (As := [_, _, _]) hC dX11_newBool_355 Y_X11_so lk_X11_202 (by decide) rfl rfl rfl (Nat.le_of_ble_eq_true rfl) (ok_X11_so G h) ?_
  intro r_2 σ_1 h
  exact zv_go (k_X11_newBool_358 hC hR  h) trivial
def B_X11_newBool_309 (Q : Int32 → zv_St → Prop) (x2 : Int32) (σ : zv_St) : Prop :=
  B_X11_thin (fun r_2 σ_1 => (¬ r_2 = 0 → ((¬ (σ_1.1 45 34) = 1 → (B_X11_newBool_351 Q x2 σ_1)) ∧ ((σ_1.1 45 34) = 1 → (vp_in 0 80 ∧ (¬ (σ_1.1 73 (0 : Int32).toNatClampNeg) = 0 → (B_X11_newBool_351 Q x2 σ_1)) ∧ ((σ_1.1 73 (0 : Int32).toNatClampNeg) = 0 → (vp_in 0 80 ∧ B_X11_newBool_358 Q (σ_1.1 74 (0 : Int32).toNatClampNeg) σ_1)))))) ∧ (r_2 = 0 → (B_X11_so (fun r_4 σ_3 => Q r_4 σ_3) 7 0 0 σ_1))) σ
set_option maxRecDepth 20000 in
set_option maxHeartbeats 2000000 in
theorem k_X11_newBool_309 {G : zv_G} {X : zv_X} {Q : Int32 → zv_St → Prop}  (hC : zv_C G X M_X11_newBool) (hR : zv_R G X M_X11_newBool (zv_qi Q))  {x2 : Int32} {σ : zv_St} (h : B_X11_newBool_309 Q  x2 σ) : zv_V G X M_X11_newBool 309 [(0, .ref (G.2.2.1 45)), (2, .int x2)] [] σ := by
  unfold B_X11_newBool_309 at h
  refine zv_aload_n hC dX11_newBool_309 rfl ?_
  refine zv_callVi (As := []) hC dX11_newBool_310 Y_X11_thin lk_X11_216 (by decide) rfl rfl rfl (Nat.le_of_ble_eq_true rfl) (ok_X11_thin G h) ?_
  intro r_2 σ_1 h
  refine zv_if_ne (tgt := 325) hC dX11_newBool_313 (by decide) (fun c => ?_) (fun c => ?_)
  · replace h := h.1 c
    refine zv_aload_n hC dX11_newBool_325 rfl ?_
    refine zv_getI hC fl_X11_199 dX11_newBool_326 rfl rfl ?_
    refine zv_iconst (v := 1) hC dX11_newBool_329 (by decide) ?_
    refine zv_icmp_ne (tgt := 351) hC dX11_newBool_330 (by decide) (fun c => ?_) (fun c => ?_)
    · replace h := h.1 c
      exact zv_go (k_X11_newBool_351 hC hR  h) ⟨rfl, rfl, trivial⟩
    · replace h := h.2 c
      refine zv_aload_n hC dX11_newBool_333 rfl ?_
      refine zv_getR (j := 73) hC fl_X11_94 dX11_newBool_334 rfl rfl ?_
      refine zv_iconst (v := 0) hC dX11_newBool_337 (by decide) ?_
      refine zv_iald hC dX11_newBool_338 rfl h.1 ?_
      replace h := h.2
      refine zv_if_ne (tgt := 351) hC dX11_newBool_339 (by decide) (fun c => ?_) (fun c => ?_)
      · replace h := h.1 c
        exact zv_go (k_X11_newBool_351 hC hR  h) ⟨rfl, rfl, trivial⟩
      · replace h := h.2 c
        refine zv_aload_n hC dX11_newBool_342 rfl ?_
        refine zv_getR (j := 74) hC fl_X11_97 dX11_newBool_343 rfl rfl ?_
        refine zv_iconst (v := 0) hC dX11_newBool_346 (by decide) ?_
        refine zv_iald hC dX11_newBool_347 rfl h.1 ?_
        replace h := h.2
        refine zv_goto (tgt := 358) hC dX11_newBool_348 (by decide) ?_
        exact zv_go (k_X11_newBool_358 hC hR  h) trivial
  · replace h := h.2 c
    refine zv_aload_n hC dX11_newBool_316 rfl ?_
    refine zv_bipush (v := 7) hC dX11_newBool_317 (by decide) ?_
    refine zv_iconst (v := 0) hC dX11_newBool_319 (by decide) ?_
    refine zv_iconst (v := 0) hC dX11_newBool_320 (by decide) ?_
    refine zv_callVi (As := [_, _, _]) hC dX11_newBool_321 Y_X11_so lk_X11_202 (by decide) rfl rfl rfl (Nat.le_of_ble_eq_true rfl) (ok_X11_so G h) ?_
    intro r_4 σ_3 h
    exact (hR _ _ _).1 _ rfl dX11_newBool_324 ⟨_, rfl, h⟩
def B_X11_newBool_302 (Q : Int32 → zv_St → Prop) (kk265 : Int32 → Int32 → zv_St → Prop) (x2 : Int32) (x4 : Int32) (y1 : Int32) (y2 : Int32) (σ : zv_St) : Prop :=
  vp_in y1 80 ∧ ∀ σ_1 : zv_St, σ_1 = zv_wi σ 73 y1.toNatClampNeg y2 → kk265 x2 (x4 + 1) σ_1
set_option maxRecDepth 20000 in
set_option maxHeartbeats 2000000 in
theorem k_X11_newBool_302 {G : zv_G} {X : zv_X} {Q : Int32 → zv_St → Prop} {kk265 : Int32 → Int32 → zv_St → Prop} (hC : zv_C G X M_X11_newBool) (hR : zv_R G X M_X11_newBool (zv_qi Q)) (hk265 : ∀ (x2 : Int32) (x4 : Int32) (σ : zv_St), kk265 x2 x4 σ → zv_V G X M_X11_newBool 265 [(0, .ref (G.2.2.1 45)), (2, .int x2), (4, .int x4)] [] σ) {x2 : Int32} {x4 : Int32} {y1 : Int32} {y2 : Int32} {σ : zv_St} (h : B_X11_newBool_302 Q kk265 x2 x4 y1 y2 σ) : zv_V G X M_X11_newBool 302 [(0, .ref (G.2.2.1 45)), (2, .int x2), (4, .int x4)] [.int y2, .int y1, .ref (G.2.2.1 73)] σ := by
  unfold B_X11_newBool_302 at h
  refine zv_iast hC dX11_newBool_302 rfl h.1 ?_
  replace h := h.2 _ rfl
  refine zv_iinc (v := 1) hC dX11_newBool_303 rfl (by decide) (by decide) ?_
  refine zv_goto (tgt := 265) hC dX11_newBool_306 (by decide) ?_
  exact zv_go (hk265 _ _ _ h) ⟨rfl, rfl, rfl, trivial⟩
def L_X11_newBool_265 (Q : Int32 → zv_St → Prop) : Nat → (Int32 → Int32 → zv_St → Prop)
  | 0 => fun _ _ _ => False
  | u + 1 => fun x2 x4 σ => 
    ((σ.1 45 34) ≤ x4 → (B_X11_newBool_309 Q x2 σ)) ∧ (¬ (σ.1 45 34) ≤ x4 → (vp_in x4 80 ∧ (¬ (σ.1 73 x4.toNatClampNeg) = 3 → (vp_in x4 80 ∧ B_X11_newBool_302 Q (L_X11_newBool_265 Q u) x2 x4 x4 (σ.1 73 x4.toNatClampNeg) σ)) ∧ ((σ.1 73 x4.toNatClampNeg) = 3 → (B_X11_newBool_302 Q (L_X11_newBool_265 Q u) x2 x4 x4 0 σ))))
set_option maxRecDepth 20000 in
set_option maxHeartbeats 2000000 in
theorem kL_X11_newBool_265 {G : zv_G} {X : zv_X} {Q : Int32 → zv_St → Prop}  (hC : zv_C G X M_X11_newBool) (hR : zv_R G X M_X11_newBool (zv_qi Q))  : ∀ (n : Nat) (x2 : Int32) (x4 : Int32) (σ : zv_St), L_X11_newBool_265 Q  n x2 x4 σ → zv_V G X M_X11_newBool 265 [(0, .ref (G.2.2.1 45)), (2, .int x2), (4, .int x4)] [] σ := by
  intro n
  induction n with
  | zero => intro x2 x4 σ h; exact h.elim
  | succ n hk265 =>
    intro x2 x4 σ h
    unfold L_X11_newBool_265 at h
    refine zv_iload hC dX11_newBool_265 rfl ?_
    refine zv_aload_n hC dX11_newBool_267 rfl ?_
    refine zv_getI hC fl_X11_199 dX11_newBool_268 rfl rfl ?_
    refine zv_icmp_ge (tgt := 309) hC dX11_newBool_271 (by decide) (fun c => ?_) (fun c => ?_)
    · replace h := h.1 c
      exact zv_go (k_X11_newBool_309 hC hR  h) ⟨rfl, rfl, trivial⟩
    · replace h := h.2 c
      refine zv_aload_n hC dX11_newBool_274 rfl ?_
      refine zv_getR (j := 73) hC fl_X11_94 dX11_newBool_275 rfl rfl ?_
      refine zv_iload hC dX11_newBool_278 rfl ?_
      refine zv_aload_n hC dX11_newBool_280 rfl ?_
      refine zv_getR (j := 73) hC fl_X11_94 dX11_newBool_281 rfl rfl ?_
      refine zv_iload hC dX11_newBool_284 rfl ?_
      refine zv_iald hC dX11_newBool_286 rfl h.1 ?_
      replace h := h.2
      refine zv_iconst (v := 3) hC dX11_newBool_287 (by decide) ?_
      refine zv_icmp_ne (tgt := 295) hC dX11_newBool_288 (by decide) (fun c => ?_) (fun c => ?_)
      · replace h := h.1 c
        refine zv_aload_n hC dX11_newBool_295 rfl ?_
        refine zv_getR (j := 73) hC fl_X11_94 dX11_newBool_296 rfl rfl ?_
        refine zv_iload hC dX11_newBool_299 rfl ?_
        refine zv_iald hC dX11_newBool_301 rfl h.1 ?_
        replace h := h.2
        exact zv_go (k_X11_newBool_302 hC hR hk265 h) ⟨rfl, rfl, rfl, trivial⟩
      · replace h := h.2 c
        refine zv_iconst (v := 0) hC dX11_newBool_291 (by decide) ?_
        refine zv_goto (tgt := 302) hC dX11_newBool_292 (by decide) ?_
        exact zv_go (k_X11_newBool_302 hC hR hk265 h) ⟨rfl, rfl, rfl, trivial⟩
def B_X11_newBool_250 (Q : Int32 → zv_St → Prop) (x3 : Int32) (y0 : Int32) (σ : zv_St) : Prop :=
  (y0 ≤ 0 → (B_X11_newBool_309 Q y0 σ)) ∧ (¬ y0 ≤ 0 → ((¬ y0 = x3 → (B_X11_newBool_309 Q y0 σ)) ∧ (y0 = x3 → (∃ n265, L_X11_newBool_265 Q n265 0 0 σ))))
set_option maxRecDepth 20000 in
set_option maxHeartbeats 2000000 in
theorem k_X11_newBool_250 {G : zv_G} {X : zv_X} {Q : Int32 → zv_St → Prop}  (hC : zv_C G X M_X11_newBool) (hR : zv_R G X M_X11_newBool (zv_qi Q))  {x3 : Int32} {y0 : Int32} {σ : zv_St} (h : B_X11_newBool_250 Q  x3 y0 σ) : zv_V G X M_X11_newBool 250 [(0, .ref (G.2.2.1 45)), (3, .int x3)] [.int y0] σ := by
  unfold B_X11_newBool_250 at h
  refine zv_istore_n hC dX11_newBool_250 (by decide) ?_
  refine zv_iload_n hC dX11_newBool_251 rfl ?_
  refine zv_if_le (tgt := 309) hC dX11_newBool_252 (by decide) (fun c => ?_) (fun c => ?_)
  · replace h := h.1 c
    exact zv_go (k_X11_newBool_309 hC hR  h) ⟨rfl, rfl, trivial⟩
  · replace h := h.2 c
    refine zv_iload_n hC dX11_newBool_255 rfl ?_
    refine zv_iload_n hC dX11_newBool_256 rfl ?_
    refine zv_icmp_ne (tgt := 309) hC dX11_newBool_257 (by decide) (fun c => ?_) (fun c => ?_)
    · replace h := h.1 c
      exact zv_go (k_X11_newBool_309 hC hR  h) ⟨rfl, rfl, trivial⟩
    · replace h := h.2 c
      refine zv_iconst (v := 0) hC dX11_newBool_260 (by decide) ?_
      refine zv_istore_n hC dX11_newBool_261 (by decide) ?_
      refine zv_iconst (v := 0) hC dX11_newBool_262 (by decide) ?_
      refine zv_istore hC dX11_newBool_263 (by decide) ?_
      obtain ⟨n, h⟩ := h
      exact zv_go (kL_X11_newBool_265 hC hR  n _ _ _ h) ⟨rfl, rfl, rfl, trivial⟩
def B_X11_newBool_249 (Q : Int32 → zv_St → Prop) (x2 : Int32) (x3 : Int32) (σ : zv_St) : Prop :=
  B_X11_newBool_250 Q x3 x2 σ
set_option maxRecDepth 20000 in
set_option maxHeartbeats 2000000 in
theorem k_X11_newBool_249 {G : zv_G} {X : zv_X} {Q : Int32 → zv_St → Prop}  (hC : zv_C G X M_X11_newBool) (hR : zv_R G X M_X11_newBool (zv_qi Q))  {x2 : Int32} {x3 : Int32} {σ : zv_St} (h : B_X11_newBool_249 Q  x2 x3 σ) : zv_V G X M_X11_newBool 249 [(0, .ref (G.2.2.1 45)), (2, .int x2), (3, .int x3)] [] σ := by
  unfold B_X11_newBool_249 at h
  refine zv_iload_n hC dX11_newBool_249 rfl ?_
  exact zv_go (k_X11_newBool_250 hC hR  h) ⟨rfl, rfl, trivial⟩
def B_X11_newBool_185 (Q : Int32 → zv_St → Prop) (kk14 : Int32 → Int32 → Int32 → zv_St → Prop) (x1 : Int32) (x2 : Int32) (x3 : Int32) (σ : zv_St) : Prop :=
  kk14 x1 x2 (x3 + 1) σ
set_option maxRecDepth 20000 in
set_option maxHeartbeats 2000000 in
theorem k_X11_newBool_185 {G : zv_G} {X : zv_X} {Q : Int32 → zv_St → Prop} {kk14 : Int32 → Int32 → Int32 → zv_St → Prop} (hC : zv_C G X M_X11_newBool) (hR : zv_R G X M_X11_newBool (zv_qi Q)) (hk14 : ∀ (x1 : Int32) (x2 : Int32) (x3 : Int32) (σ : zv_St), kk14 x1 x2 x3 σ → zv_V G X M_X11_newBool 14 [(0, .ref (G.2.2.1 45)), (1, .int x1), (2, .int x2), (3, .int x3)] [] σ) {x1 : Int32} {x2 : Int32} {x3 : Int32} {σ : zv_St} (h : B_X11_newBool_185 Q kk14 x1 x2 x3 σ) : zv_V G X M_X11_newBool 185 [(0, .ref (G.2.2.1 45)), (1, .int x1), (2, .int x2), (3, .int x3)] [] σ := by
  unfold B_X11_newBool_185 at h
  refine zv_iinc (v := 1) hC dX11_newBool_185 rfl (by decide) (by decide) ?_
  refine zv_goto (tgt := 14) hC dX11_newBool_188 (by decide) ?_
  exact zv_go (hk14 _ _ _ _ h) ⟨rfl, rfl, rfl, rfl, trivial⟩
def B_X11_newBool_152 (Q : Int32 → zv_St → Prop) (kk14 : Int32 → Int32 → Int32 → zv_St → Prop) (kk107 : Int32 → Int32 → Int32 → Int32 → Int32 → Int32 → zv_St → Prop) (x1 : Int32) (x2 : Int32) (x3 : Int32) (x4 : Int32) (x5 : Int32) (x6 : Int32) (y1 : Int32) (σ : zv_St) : Prop :=
  vp_in ((8 * x5) + x6) 640 ∧ B_X11_lay (fun σ_1 => kk107 x1 x2 x3 x4 x5 (x6 + 1) σ_1) y1 (σ.1 53 ((8 * x5) + x6).toNatClampNeg) σ
set_option maxRecDepth 20000 in
set_option maxHeartbeats 2000000 in
theorem k_X11_newBool_152 {G : zv_G} {X : zv_X} {Q : Int32 → zv_St → Prop} {kk14 : Int32 → Int32 → Int32 → zv_St → Prop} {kk107 : Int32 → Int32 → Int32 → Int32 → Int32 → Int32 → zv_St → Prop} (hC : zv_C G X M_X11_newBool) (hR : zv_R G X M_X11_newBool (zv_qi Q)) (hk14 : ∀ (x1 : Int32) (x2 : Int32) (x3 : Int32) (σ : zv_St), kk14 x1 x2 x3 σ → zv_V G X M_X11_newBool 14 [(0, .ref (G.2.2.1 45)), (1, .int x1), (2, .int x2), (3, .int x3)] [] σ) (hk107 : ∀ (x1 : Int32) (x2 : Int32) (x3 : Int32) (x4 : Int32) (x5 : Int32) (x6 : Int32) (σ : zv_St), kk107 x1 x2 x3 x4 x5 x6 σ → zv_V G X M_X11_newBool 107 [(0, .ref (G.2.2.1 45)), (1, .int x1), (2, .int x2), (3, .int x3), (4, .int x4), (5, .int x5), (6, .int x6)] [] σ) {x1 : Int32} {x2 : Int32} {x3 : Int32} {x4 : Int32} {x5 : Int32} {x6 : Int32} {y1 : Int32} {σ : zv_St} (h : B_X11_newBool_152 Q kk14 kk107 x1 x2 x3 x4 x5 x6 y1 σ) : zv_V G X M_X11_newBool 152 [(0, .ref (G.2.2.1 45)), (1, .int x1), (2, .int x2), (3, .int x3), (4, .int x4), (5, .int x5), (6, .int x6)] [.int y1, .ref (G.2.2.1 45)] σ := by
  unfold B_X11_newBool_152 at h
  refine zv_aload_n hC dX11_newBool_152 rfl ?_
  refine zv_getR (j := 53) hC fl_X11_31 dX11_newBool_153 rfl rfl ?_
  refine zv_bipush (v := 8) hC dX11_newBool_156 (by decide) ?_
  refine zv_iload hC dX11_newBool_158 rfl ?_
  refine zv_imul hC dX11_newBool_160 ?_
  refine zv_iload hC dX11_newBool_161 rfl ?_
  refine zv_iadd hC dX11_newBool_163 ?_
  refine zv_iald hC dX11_newBool_164 rfl h.1 ?_
  replace h := h.2
  refine zv_callVv (As := [_, _]) hC dX11_newBool_165 Y_X11_lay lk_X11_206 (by decide) rfl rfl rfl (Nat.le_of_ble_eq_true rfl) (ok_X11_lay G h) ?_
  intro σ_1 h
  refine zv_iinc (v := 1) hC dX11_newBool_168 rfl (by decide) (by decide) ?_
  refine zv_goto (tgt := 107) hC dX11_newBool_171 (by decide) ?_
  exact zv_go (hk107 _ _ _ _ _ _ _ h) ⟨rfl, rfl, rfl, rfl, rfl, rfl, rfl, trivial⟩
def B_X11_newBool_150 (Q : Int32 → zv_St → Prop) (kk14 : Int32 → Int32 → Int32 → zv_St → Prop) (kk107 : Int32 → Int32 → Int32 → Int32 → Int32 → Int32 → zv_St → Prop) (x1 : Int32) (x2 : Int32) (x3 : Int32) (x4 : Int32) (x5 : Int32) (x6 : Int32) (x7 : Int32) (σ : zv_St) : Prop :=
  B_X11_newBool_152 Q kk14 kk107 x1 x2 x3 x4 x5 x6 x7 σ
set_option maxRecDepth 20000 in
set_option maxHeartbeats 2000000 in
theorem k_X11_newBool_150 {G : zv_G} {X : zv_X} {Q : Int32 → zv_St → Prop} {kk14 : Int32 → Int32 → Int32 → zv_St → Prop} {kk107 : Int32 → Int32 → Int32 → Int32 → Int32 → Int32 → zv_St → Prop} (hC : zv_C G X M_X11_newBool) (hR : zv_R G X M_X11_newBool (zv_qi Q)) (hk14 : ∀ (x1 : Int32) (x2 : Int32) (x3 : Int32) (σ : zv_St), kk14 x1 x2 x3 σ → zv_V G X M_X11_newBool 14 [(0, .ref (G.2.2.1 45)), (1, .int x1), (2, .int x2), (3, .int x3)] [] σ) (hk107 : ∀ (x1 : Int32) (x2 : Int32) (x3 : Int32) (x4 : Int32) (x5 : Int32) (x6 : Int32) (σ : zv_St), kk107 x1 x2 x3 x4 x5 x6 σ → zv_V G X M_X11_newBool 107 [(0, .ref (G.2.2.1 45)), (1, .int x1), (2, .int x2), (3, .int x3), (4, .int x4), (5, .int x5), (6, .int x6)] [] σ) {x1 : Int32} {x2 : Int32} {x3 : Int32} {x4 : Int32} {x5 : Int32} {x6 : Int32} {x7 : Int32} {σ : zv_St} (h : B_X11_newBool_150 Q kk14 kk107 x1 x2 x3 x4 x5 x6 x7 σ) : zv_V G X M_X11_newBool 150 [(0, .ref (G.2.2.1 45)), (1, .int x1), (2, .int x2), (3, .int x3), (4, .int x4), (5, .int x5), (6, .int x6), (7, .int x7)] [.ref (G.2.2.1 45)] σ := by
  unfold B_X11_newBool_150 at h
  refine zv_iload hC dX11_newBool_150 rfl ?_
  exact zv_go (k_X11_newBool_152 hC hR hk14 hk107 h) ⟨rfl, rfl, rfl, rfl, rfl, rfl, rfl, trivial⟩
def L_X11_newBool_107 (Q : Int32 → zv_St → Prop) (kk14 : Int32 → Int32 → Int32 → zv_St → Prop) : Nat → (Int32 → Int32 → Int32 → Int32 → Int32 → Int32 → zv_St → Prop)
  | 0 => fun _ _ _ _ _ _ _ => False
  | u + 1 => fun x1 x2 x3 x4 x5 x6 σ => 
    vp_in x5 80 ∧ ((σ.1 51 x5.toNatClampNeg) ≤ x6 → (B_X11_newBool_185 Q kk14 x1 x2 x3 σ)) ∧ (¬ (σ.1 51 x5.toNatClampNeg) ≤ x6 → (vp_in ((8 * x5) + x6) 640 ∧ ∀ v_1 : Int32, v_1 = (σ.1 52 ((8 * x5) + x6).toNatClampNeg) → (¬ x4 = 1 → (B_X11_newBool_150 Q kk14 (L_X11_newBool_107 Q kk14 u) x1 x2 x3 x4 x5 x6 v_1 σ)) ∧ (x4 = 1 → ((¬ v_1 = 0 → (B_X11_newBool_150 Q kk14 (L_X11_newBool_107 Q kk14 u) x1 x2 x3 x4 x5 x6 v_1 σ)) ∧ (v_1 = 0 → (B_X11_newBool_152 Q kk14 (L_X11_newBool_107 Q kk14 u) x1 x2 x3 x4 x5 x6 1 σ))))))
set_option maxRecDepth 20000 in
set_option maxHeartbeats 2000000 in
theorem kL_X11_newBool_107 {G : zv_G} {X : zv_X} {Q : Int32 → zv_St → Prop} {kk14 : Int32 → Int32 → Int32 → zv_St → Prop} (hC : zv_C G X M_X11_newBool) (hR : zv_R G X M_X11_newBool (zv_qi Q)) (hk14 : ∀ (x1 : Int32) (x2 : Int32) (x3 : Int32) (σ : zv_St), kk14 x1 x2 x3 σ → zv_V G X M_X11_newBool 14 [(0, .ref (G.2.2.1 45)), (1, .int x1), (2, .int x2), (3, .int x3)] [] σ) : ∀ (n : Nat) (x1 : Int32) (x2 : Int32) (x3 : Int32) (x4 : Int32) (x5 : Int32) (x6 : Int32) (σ : zv_St), L_X11_newBool_107 Q kk14 n x1 x2 x3 x4 x5 x6 σ → zv_V G X M_X11_newBool 107 [(0, .ref (G.2.2.1 45)), (1, .int x1), (2, .int x2), (3, .int x3), (4, .int x4), (5, .int x5), (6, .int x6)] [] σ := by
  intro n
  induction n with
  | zero => intro x1 x2 x3 x4 x5 x6 σ h; exact h.elim
  | succ n hk107 =>
    intro x1 x2 x3 x4 x5 x6 σ h
    unfold L_X11_newBool_107 at h
    refine zv_iload hC dX11_newBool_107 rfl ?_
    refine zv_aload_n hC dX11_newBool_109 rfl ?_
    refine zv_getR (j := 51) hC fl_X11_25 dX11_newBool_110 rfl rfl ?_
    refine zv_iload hC dX11_newBool_113 rfl ?_
    refine zv_iald hC dX11_newBool_115 rfl h.1 ?_
    replace h := h.2
    refine zv_icmp_ge (tgt := 174) hC dX11_newBool_116 (by decide) (fun c => ?_) (fun c => ?_)
    · replace h := h.1 c
      refine zv_goto (tgt := 185) hC dX11_newBool_174 (by decide) ?_
      exact zv_go (k_X11_newBool_185 hC hR hk14 h) ⟨rfl, rfl, rfl, rfl, trivial⟩
    · replace h := h.2 c
      refine zv_aload_n hC dX11_newBool_119 rfl ?_
      refine zv_getR (j := 52) hC fl_X11_28 dX11_newBool_120 rfl rfl ?_
      refine zv_bipush (v := 8) hC dX11_newBool_123 (by decide) ?_
      refine zv_iload hC dX11_newBool_125 rfl ?_
      refine zv_imul hC dX11_newBool_127 ?_
      refine zv_iload hC dX11_newBool_128 rfl ?_
      refine zv_iadd hC dX11_newBool_130 ?_
      refine zv_iald hC dX11_newBool_131 rfl h.1 ?_
      replace h := h.2
      replace h := h _ rfl
      refine zv_istore hC dX11_newBool_132 (by decide) ?_
      refine zv_aload_n hC dX11_newBool_134 rfl ?_
      refine zv_iload hC dX11_newBool_135 rfl ?_
      refine zv_iconst (v := 1) hC dX11_newBool_137 (by decide) ?_
      refine zv_icmp_ne (tgt := 150) hC dX11_newBool_138 (by decide) (fun c => ?_) (fun c => ?_)
      · replace h := h.1 c
        exact zv_go (k_X11_newBool_150 hC hR hk14 hk107 h) ⟨rfl, rfl, rfl, rfl, rfl, rfl, rfl, rfl, trivial⟩
      · replace h := h.2 c
        refine zv_iload hC dX11_newBool_141 rfl ?_
        refine zv_if_ne (tgt := 150) hC dX11_newBool_143 (by decide) (fun c => ?_) (fun c => ?_)
        · replace h := h.1 c
          exact zv_go (k_X11_newBool_150 hC hR hk14 hk107 h) ⟨rfl, rfl, rfl, rfl, rfl, rfl, rfl, rfl, trivial⟩
        · replace h := h.2 c
          refine zv_iconst (v := 1) hC dX11_newBool_146 (by decide) ?_
          refine zv_goto (tgt := 152) hC dX11_newBool_147 (by decide) ?_
          exact zv_go (k_X11_newBool_152 hC hR hk14 hk107 h) ⟨rfl, rfl, rfl, rfl, rfl, rfl, rfl, trivial⟩
def L_X11_newBool_14 (Q : Int32 → zv_St → Prop) : Nat → (Int32 → Int32 → Int32 → zv_St → Prop)
  | 0 => fun _ _ _ _ => False
  | u + 1 => fun x1 x2 x3 σ => 
    vp_in x1 80 ∧ ((σ.1 51 x1.toNatClampNeg) ≤ x3 → (B_X11_count (fun r_2 σ_1 => (r_2 < x2 → (B_X11_newBool_218 Q σ_1)) ∧ (¬ r_2 < x2 → (B_X11_count (fun r_4 σ_3 => B_X11_count (fun r_6 σ_5 => (¬ ((r_4 + r_6) + r_2) = 0 → (B_X11_count (fun r_8 σ_7 => B_X11_count (fun r_10 σ_9 => (¬ (r_8 + r_10) = 0 → (B_X11_newBool_249 Q x2 r_2 σ_9)) ∧ ((r_8 + r_10) = 0 → ((¬ x2 = 0 → (B_X11_newBool_249 Q x2 r_2 σ_9)) ∧ (x2 = 0 → (B_X11_newBool_250 Q r_2 1 σ_9))))) 1 σ_7) 0 σ_5)) ∧ (((r_4 + r_6) + r_2) = 0 → (B_X11_newBool_218 Q σ_5))) 1 σ_3) 0 σ_1))) 3 σ)) ∧ (¬ (σ.1 51 x1.toNatClampNeg) ≤ x3 → (vp_in ((8 * x1) + x3) 640 ∧ ∀ v_11 : Int32, v_11 = (σ.1 52 ((8 * x1) + x3).toNatClampNeg) → vp_in ((8 * x1) + x3) 640 ∧ vp_in (σ.1 53 ((8 * x1) + x3).toNatClampNeg) 80 ∧ ∀ v_12 : Int32, v_12 = (σ.1 72 (σ.1 53 ((8 * x1) + x3).toNatClampNeg).toNatClampNeg) → vp_in v_12 80 ∧ (¬ (σ.1 48 v_12.toNatClampNeg) = 7 → (vp_in x1 80 ∧ B_X11_opens (fun r_14 σ_13 => (r_14 = 0 → (B_X11_lay (fun σ_15 => B_X11_newBool_185 Q (L_X11_newBool_14 Q u) x1 x2 x3 σ_15) v_11 v_12 σ_13)) ∧ (¬ r_14 = 0 → (∃ n107, L_X11_newBool_107 Q (L_X11_newBool_14 Q u) n107 x1 x2 x3 v_11 v_12 0 σ_13))) x2 v_11 v_12 (((σ.1 51 x1.toNatClampNeg) - x3) - 1) σ)) ∧ ((σ.1 48 v_12.toNatClampNeg) = 7 → ((2 ≤ v_11 → (B_X11_newBool_185 Q (L_X11_newBool_14 Q u) x1 x2 x3 σ)) ∧ (¬ 2 ≤ v_11 → (B_X11_so (fun r_17 σ_16 => Q r_17 σ_16) 7 0 0 σ))))))
set_option maxRecDepth 20000 in
set_option maxHeartbeats 2000000 in
theorem kL_X11_newBool_14 {G : zv_G} {X : zv_X} {Q : Int32 → zv_St → Prop}  (hC : zv_C G X M_X11_newBool) (hR : zv_R G X M_X11_newBool (zv_qi Q))  : ∀ (n : Nat) (x1 : Int32) (x2 : Int32) (x3 : Int32) (σ : zv_St), L_X11_newBool_14 Q  n x1 x2 x3 σ → zv_V G X M_X11_newBool 14 [(0, .ref (G.2.2.1 45)), (1, .int x1), (2, .int x2), (3, .int x3)] [] σ := by
  intro n
  induction n with
  | zero => intro x1 x2 x3 σ h; exact h.elim
  | succ n hk14 =>
    intro x1 x2 x3 σ h
    unfold L_X11_newBool_14 at h
    refine zv_iload_n hC dX11_newBool_14 rfl ?_
    refine zv_aload_n hC dX11_newBool_15 rfl ?_
    refine zv_getR (j := 51) hC fl_X11_25 dX11_newBool_16 rfl rfl ?_
    refine zv_iload_n hC dX11_newBool_19 rfl ?_
    refine zv_iald hC dX11_newBool_20 rfl h.1 ?_
    replace h := h.2
    refine zv_icmp_ge (tgt := 191) hC dX11_newBool_21 (by decide) (fun c => ?_) (fun c => ?_)
    · replace h := h.1 c
      refine zv_aload_n hC dX11_newBool_191 rfl ?_
      refine zv_iconst (v := 3) hC dX11_newBool_192 (by decide) ?_
      refine zv_callVi (As := [_]) hC dX11_newBool_193 Y_X11_count lk_X11_213 (by decide) rfl rfl rfl (Nat.le_of_ble_eq_true rfl) (ok_X11_count G h) ?_
      intro r_2 σ_1 h
      refine zv_istore_n hC dX11_newBool_196 (by decide) ?_
      refine zv_iload_n hC dX11_newBool_197 rfl ?_
      refine zv_iload_n hC dX11_newBool_198 rfl ?_
      refine zv_icmp_gt (tgt := 218) hC dX11_newBool_199 (by decide) (fun c => ?_) (fun c => ?_)
      · replace h := h.1 c
        exact zv_go (k_X11_newBool_218 hC hR  h) ⟨rfl, trivial⟩
      · replace h := h.2 c
        refine zv_aload_n hC dX11_newBool_202 rfl ?_
        refine zv_iconst (v := 0) hC dX11_newBool_203 (by decide) ?_
        refine zv_callVi (As := [_]) hC dX11_newBool_204 Y_X11_count lk_X11_213 (by decide) rfl rfl rfl (Nat.le_of_ble_eq_true rfl) (ok_X11_count G h) ?_
        intro r_4 σ_3 h
        refine zv_aload_n hC dX11_newBool_207 rfl ?_
        refine zv_iconst (v := 1) hC dX11_newBool_208 (by decide) ?_
        refine zv_callVi (As := [_]) hC dX11_newBool_209 Y_X11_count lk_X11_213 (by decide) rfl rfl rfl (Nat.le_of_ble_eq_true rfl) (ok_X11_count G h) ?_
        intro r_6 σ_5 h
        refine zv_iadd hC dX11_newBool_212 ?_
        refine zv_iload_n hC dX11_newBool_213 rfl ?_
        refine zv_iadd hC dX11_newBool_214 ?_
        refine zv_if_ne (tgt := 227) hC dX11_newBool_215 (by decide) (fun c => ?_) (fun c => ?_)
        · replace h := h.1 c
          refine zv_aload_n hC dX11_newBool_227 rfl ?_
          refine zv_iconst (v := 0) hC dX11_newBool_228 (by decide) ?_
          refine zv_callVi (As := [_]) hC dX11_newBool_229 Y_X11_count lk_X11_213 (by decide) rfl rfl rfl (Nat.le_of_ble_eq_true rfl) (ok_X11_count G h) ?_
          intro r_8 σ_7 h
          refine zv_aload_n hC dX11_newBool_232 rfl ?_
          refine zv_iconst (v := 1) hC dX11_newBool_233 (by decide) ?_
          refine zv_callVi (As := [_]) hC dX11_newBool_234 Y_X11_count lk_X11_213 (by decide) rfl rfl rfl (Nat.le_of_ble_eq_true rfl) (ok_X11_count G h) ?_
          intro r_10 σ_9 h
          refine zv_iadd hC dX11_newBool_237 ?_
          refine zv_if_ne (tgt := 249) hC dX11_newBool_238 (by decide) (fun c => ?_) (fun c => ?_)
          · replace h := h.1 c
            exact zv_go (k_X11_newBool_249 hC hR  h) ⟨rfl, rfl, rfl, trivial⟩
          · replace h := h.2 c
            refine zv_iload_n hC dX11_newBool_241 rfl ?_
            refine zv_if_ne (tgt := 249) hC dX11_newBool_242 (by decide) (fun c => ?_) (fun c => ?_)
            · replace h := h.1 c
              exact zv_go (k_X11_newBool_249 hC hR  h) ⟨rfl, rfl, rfl, trivial⟩
            · replace h := h.2 c
              refine zv_iconst (v := 1) hC dX11_newBool_245 (by decide) ?_
              refine zv_goto (tgt := 250) hC dX11_newBool_246 (by decide) ?_
              exact zv_go (k_X11_newBool_250 hC hR  h) ⟨rfl, rfl, trivial⟩
        · replace h := h.2 c
          exact zv_go (k_X11_newBool_218 hC hR  h) ⟨rfl, trivial⟩
    · replace h := h.2 c
      refine zv_aload_n hC dX11_newBool_24 rfl ?_
      refine zv_getR (j := 52) hC fl_X11_28 dX11_newBool_25 rfl rfl ?_
      refine zv_bipush (v := 8) hC dX11_newBool_28 (by decide) ?_
      refine zv_iload_n hC dX11_newBool_30 rfl ?_
      refine zv_imul hC dX11_newBool_31 ?_
      refine zv_iload_n hC dX11_newBool_32 rfl ?_
      refine zv_iadd hC dX11_newBool_33 ?_
      refine zv_iald hC dX11_newBool_34 rfl h.1 ?_
      replace h := h.2
      replace h := h _ rfl
      refine zv_istore hC dX11_newBool_35 (by decide) ?_
      refine zv_aload_n hC dX11_newBool_37 rfl ?_
      refine zv_getR (j := 72) hC fl_X11_91 dX11_newBool_38 rfl rfl ?_
      refine zv_aload_n hC dX11_newBool_41 rfl ?_
      refine zv_getR (j := 53) hC fl_X11_31 dX11_newBool_42 rfl rfl ?_
      refine zv_bipush (v := 8) hC dX11_newBool_45 (by decide) ?_
      refine zv_iload_n hC dX11_newBool_47 rfl ?_
      refine zv_imul hC dX11_newBool_48 ?_
      refine zv_iload_n hC dX11_newBool_49 rfl ?_
      refine zv_iadd hC dX11_newBool_50 ?_
      refine zv_iald hC dX11_newBool_51 rfl h.1 ?_
      replace h := h.2
      refine zv_iald hC dX11_newBool_52 rfl h.1 ?_
      replace h := h.2
      replace h := h _ rfl
      refine zv_istore hC dX11_newBool_53 (by decide) ?_
      refine zv_aload_n hC dX11_newBool_55 rfl ?_
      refine zv_getR (j := 48) hC fl_X11_16 dX11_newBool_56 rfl rfl ?_
      refine zv_iload hC dX11_newBool_59 rfl ?_
      refine zv_iald hC dX11_newBool_61 rfl h.1 ?_
      replace h := h.2
      refine zv_bipush (v := 7) hC dX11_newBool_62 (by decide) ?_
      refine zv_icmp_ne (tgt := 82) hC dX11_newBool_64 (by decide) (fun c => ?_) (fun c => ?_)
      · replace h := h.1 c
        refine zv_aload_n hC dX11_newBool_82 rfl ?_
        refine zv_iload_n hC dX11_newBool_83 rfl ?_
        refine zv_iload hC dX11_newBool_84 rfl ?_
        refine zv_iload hC dX11_newBool_86 rfl ?_
        refine zv_aload_n hC dX11_newBool_88 rfl ?_
        refine zv_getR (j := 51) hC fl_X11_25 dX11_newBool_89 rfl rfl ?_
        refine zv_iload_n hC dX11_newBool_92 rfl ?_
        refine zv_iald hC dX11_newBool_93 rfl h.1 ?_
        replace h := h.2
        refine zv_iload_n hC dX11_newBool_94 rfl ?_
        refine zv_isub hC dX11_newBool_95 ?_
        refine zv_iconst (v := 1) hC dX11_newBool_96 (by decide) ?_
        refine zv_isub hC dX11_newBool_97 ?_
        refine zv_callVi (As := [_, _, _, _]) hC dX11_newBool_98 Y_X11_opens lk_X11_209 (by decide) rfl rfl rfl (Nat.le_of_ble_eq_true rfl) (ok_X11_opens G h) ?_
        intro r_14 σ_13 h
        refine zv_if_eq (tgt := 177) hC dX11_newBool_101 (by decide) (fun c => ?_) (fun c => ?_)
        · replace h := h.1 c
          refine zv_aload_n hC dX11_newBool_177 rfl ?_
          refine zv_iload hC dX11_newBool_178 rfl ?_
          refine zv_iload hC dX11_newBool_180 rfl ?_
          refine zv_callVv (As := [_, _]) hC dX11_newBool_182 Y_X11_lay lk_X11_206 (by decide) rfl rfl rfl (Nat.le_of_ble_eq_true rfl) (ok_X11_lay G h) ?_
          intro σ_15 h
          exact zv_go (k_X11_newBool_185 hC hR hk14 h) ⟨rfl, rfl, rfl, rfl, trivial⟩
        · replace h := h.2 c
          refine zv_iconst (v := 0) hC dX11_newBool_104 (by decide) ?_
          refine zv_istore hC dX11_newBool_105 (by decide) ?_
          obtain ⟨n, h⟩ := h
          exact zv_go (kL_X11_newBool_107 hC hR hk14 n _ _ _ _ _ _ _ h) ⟨rfl, rfl, rfl, rfl, rfl, rfl, rfl, trivial⟩
      · replace h := h.2 c
        refine zv_iload hC dX11_newBool_67 rfl ?_
        refine zv_iconst (v := 2) hC dX11_newBool_69 (by decide) ?_
        refine zv_icmp_ge (tgt := 185) hC dX11_newBool_70 (by decide) (fun c => ?_) (fun c => ?_)
        · replace h := h.1 c
          exact zv_go (k_X11_newBool_185 hC hR hk14 h) ⟨rfl, rfl, rfl, rfl, trivial⟩
        · replace h := h.2 c
          refine zv_aload_n hC dX11_newBool_73 rfl ?_
          refine zv_bipush (v := 7) hC dX11_newBool_74 (by decide) ?_
          refine zv_iconst (v := 0) hC dX11_newBool_76 (by decide) ?_
          refine zv_iconst (v := 0) hC dX11_newBool_77 (by decide) ?_
          refine zv_callVi (As := [_, _, _]) hC dX11_newBool_78 Y_X11_so lk_X11_202 (by decide) rfl rfl rfl (Nat.le_of_ble_eq_true rfl) (ok_X11_so G h) ?_
          intro r_17 σ_16 h
          exact (hR _ _ _).1 _ rfl dX11_newBool_81 ⟨_, rfl, h⟩
def B_X11_newBool (Q : Int32 → zv_St → Prop) (x1 : Int32) (σ : zv_St) : Prop :=
  vp_in x1 80 ∧ ∀ v_1 : Int32, v_1 = (σ.1 49 x1.toNatClampNeg) → ∀ σ_2 : zv_St, σ_2 = zv_wi σ 45 34 0 → ∃ n14, L_X11_newBool_14 Q n14 x1 v_1 0 σ_2
set_option maxRecDepth 20000 in
set_option maxHeartbeats 2000000 in
theorem k_X11_newBool_0 {G : zv_G} {X : zv_X} {Q : Int32 → zv_St → Prop}  (hC : zv_C G X M_X11_newBool) (hR : zv_R G X M_X11_newBool (zv_qi Q))  {x1 : Int32} {σ : zv_St} (h : B_X11_newBool Q  x1 σ) : zv_V G X M_X11_newBool 0 [(0, .ref (G.2.2.1 45)), (1, .int x1)] [] σ := by
  unfold B_X11_newBool at h
  refine zv_aload_n hC dX11_newBool_0 rfl ?_
  refine zv_getR (j := 49) hC fl_X11_19 dX11_newBool_1 rfl rfl ?_
  refine zv_iload_n hC dX11_newBool_4 rfl ?_
  refine zv_iald hC dX11_newBool_5 rfl h.1 ?_
  replace h := h.2
  replace h := h _ rfl
  refine zv_istore_n hC dX11_newBool_6 (by decide) ?_
  refine zv_aload_n hC dX11_newBool_7 rfl ?_
  refine zv_iconst (v := 0) hC dX11_newBool_8 (by decide) ?_
  refine zv_putI hC fp_X11_199 dX11_newBool_9 rfl rfl rfl rfl ?_
  replace h := h _ rfl
  refine zv_iconst (v := 0) hC dX11_newBool_12 (by decide) ?_
  refine zv_istore_n hC dX11_newBool_13 (by decide) ?_
  obtain ⟨n, h⟩ := h
  exact zv_go (kL_X11_newBool_14 hC hR  n _ _ _ _ h) ⟨rfl, rfl, rfl, rfl, trivial⟩
theorem ok_X11_newBool (G : zv_G) {Q : Int32 → zv_St → Prop} {x1 : Int32} {σ : zv_St} (h : B_X11_newBool Q x1 σ) : zv_OK G M_X11_newBool yX11_newBool [.ref (G.2.2.1 45), .int x1] σ (zv_qi Q) := zv_ok G _ _ _ _ _ (by decide +kernel) rfl (Nat.le_of_ble_eq_true rfl) (fun X hC hR => zv_go (k_X11_newBool_0 hC hR h) ⟨rfl, rfl, trivial⟩)
-- X11_newBest
def B_X11_newBest_104 (Q : Int32 → zv_St → Prop) (y0 : Int32) (σ : zv_St) : Prop :=
  Q y0 σ
set_option maxRecDepth 20000 in
set_option maxHeartbeats 2000000 in
theorem k_X11_newBest_104 {G : zv_G} {X : zv_X} {Q : Int32 → zv_St → Prop}  (hC : zv_C G X M_X11_newBest) (hR : zv_R G X M_X11_newBest (zv_qi Q))  {y0 : Int32} {σ : zv_St} (h : B_X11_newBest_104 Q  y0 σ) : zv_V G X M_X11_newBest 104 [] [.int y0] σ := by
  unfold B_X11_newBest_104 at h
  exact (hR _ _ _).1 _ rfl dX11_newBest_104 ⟨_, rfl, h⟩
def B_X11_newBest_51 (Q : Int32 → zv_St → Prop) (kk7 : Int32 → Int32 → zv_St → Prop) (x1 : Int32) (x2 : Int32) (σ : zv_St) : Prop :=
  kk7 x1 (x2 + 1) σ
set_option maxRecDepth 20000 in
set_option maxHeartbeats 2000000 in
theorem k_X11_newBest_51 {G : zv_G} {X : zv_X} {Q : Int32 → zv_St → Prop} {kk7 : Int32 → Int32 → zv_St → Prop} (hC : zv_C G X M_X11_newBest) (hR : zv_R G X M_X11_newBest (zv_qi Q)) (hk7 : ∀ (x1 : Int32) (x2 : Int32) (σ : zv_St), kk7 x1 x2 σ → zv_V G X M_X11_newBest 7 [(0, .ref (G.2.2.1 45)), (1, .int x1), (2, .int x2)] [] σ) {x1 : Int32} {x2 : Int32} {σ : zv_St} (h : B_X11_newBest_51 Q kk7 x1 x2 σ) : zv_V G X M_X11_newBest 51 [(0, .ref (G.2.2.1 45)), (1, .int x1), (2, .int x2)] [] σ := by
  unfold B_X11_newBest_51 at h
  refine zv_iinc (v := 1) hC dX11_newBest_51 rfl (by decide) (by decide) ?_
  refine zv_goto (tgt := 7) hC dX11_newBest_54 (by decide) ?_
  exact zv_go (hk7 _ _ _ h) ⟨rfl, rfl, rfl, trivial⟩
def L_X11_newBest_7 (Q : Int32 → zv_St → Prop) : Nat → (Int32 → Int32 → zv_St → Prop)
  | 0 => fun _ _ _ => False
  | u + 1 => fun x1 x2 σ => 
    vp_in x1 80 ∧ ((σ.1 51 x1.toNatClampNeg) ≤ x2 → ((¬ (σ.1 45 34) = 0 → ((¬ (σ.1 45 34) = 1 → (vp_in x1 80 ∧ B_X11_so (fun r_2 σ_1 => B_X11_newBest_104 Q r_2 σ_1) 3 (σ.1 49 x1.toNatClampNeg) 0 σ)) ∧ ((σ.1 45 34) = 1 → (vp_in 0 80 ∧ B_X11_newBest_104 Q (σ.1 74 (0 : Int32).toNatClampNeg) σ)))) ∧ ((σ.1 45 34) = 0 → (B_X11_so (fun r_4 σ_3 => B_X11_newBest_104 Q r_4 σ_3) 7 0 0 σ)))) ∧ (¬ (σ.1 51 x1.toNatClampNeg) ≤ x2 → (vp_in ((8 * x1) + x2) 640 ∧ vp_in (σ.1 53 ((8 * x1) + x2).toNatClampNeg) 80 ∧ ∀ v_5 : Int32, v_5 = (σ.1 72 (σ.1 53 ((8 * x1) + x2).toNatClampNeg).toNatClampNeg) → vp_in v_5 80 ∧ ((σ.1 48 v_5.toNatClampNeg) = 7 → (B_X11_newBest_51 Q (L_X11_newBest_7 Q u) x1 x2 σ)) ∧ (¬ (σ.1 48 v_5.toNatClampNeg) = 7 → (B_X11_lay (fun σ_6 => B_X11_newBest_51 Q (L_X11_newBest_7 Q u) x1 x2 σ_6) 3 v_5 σ))))
set_option maxRecDepth 20000 in
set_option maxHeartbeats 2000000 in
theorem kL_X11_newBest_7 {G : zv_G} {X : zv_X} {Q : Int32 → zv_St → Prop}  (hC : zv_C G X M_X11_newBest) (hR : zv_R G X M_X11_newBest (zv_qi Q))  : ∀ (n : Nat) (x1 : Int32) (x2 : Int32) (σ : zv_St), L_X11_newBest_7 Q  n x1 x2 σ → zv_V G X M_X11_newBest 7 [(0, .ref (G.2.2.1 45)), (1, .int x1), (2, .int x2)] [] σ := by
  intro n
  induction n with
  | zero => intro x1 x2 σ h; exact h.elim
  | succ n hk7 =>
    intro x1 x2 σ h
    unfold L_X11_newBest_7 at h
    refine zv_iload_n hC dX11_newBest_7 rfl ?_
    refine zv_aload_n hC dX11_newBest_8 rfl ?_
    refine zv_getR (j := 51) hC fl_X11_25 dX11_newBest_9 rfl rfl ?_
    refine zv_iload_n hC dX11_newBest_12 rfl ?_
    refine zv_iald hC dX11_newBest_13 rfl h.1 ?_
    replace h := h.2
    refine zv_icmp_ge (tgt := 57) hC dX11_newBest_14 (by decide) (fun c => ?_) (fun c => ?_)
    · replace h := h.1 c
      refine zv_aload_n hC dX11_newBest_57 rfl ?_
      refine zv_getI hC fl_X11_199 dX11_newBest_58 rfl rfl ?_
      refine zv_if_ne (tgt := 75) hC dX11_newBest_61 (by decide) (fun c => ?_) (fun c => ?_)
      · replace h := h.1 c
        refine zv_aload_n hC dX11_newBest_75 rfl ?_
        refine zv_getI hC fl_X11_199 dX11_newBest_76 rfl rfl ?_
        refine zv_iconst (v := 1) hC dX11_newBest_79 (by decide) ?_
        refine zv_icmp_ne (tgt := 92) hC dX11_newBest_80 (by decide) (fun c => ?_) (fun c => ?_)
        · replace h := h.1 c
          refine zv_aload_n hC dX11_newBest_92 rfl ?_
          refine zv_iconst (v := 3) hC dX11_newBest_93 (by decide) ?_
          refine zv_aload_n hC dX11_newBest_94 rfl ?_
          refine zv_getR (j := 49) hC fl_X11_19 dX11_newBest_95 rfl rfl ?_
          refine zv_iload_n hC dX11_newBest_98 rfl ?_
          refine zv_iald hC dX11_newBest_99 rfl h.1 ?_
          replace h := h.2
          refine zv_iconst (v := 0) hC dX11_newBest_100 (by decide) ?_
          refine zv_callVi (As := [_, _, _]) hC dX11_newBest_101 Y_X11_so lk_X11_202 (by decide) rfl rfl rfl (Nat.le_of_ble_eq_true rfl) (ok_X11_so G h) ?_
          intro r_2 σ_1 h
          exact zv_go (k_X11_newBest_104 hC hR  h) trivial
        · replace h := h.2 c
          refine zv_aload_n hC dX11_newBest_83 rfl ?_
          refine zv_getR (j := 74) hC fl_X11_97 dX11_newBest_84 rfl rfl ?_
          refine zv_iconst (v := 0) hC dX11_newBest_87 (by decide) ?_
          refine zv_iald hC dX11_newBest_88 rfl h.1 ?_
          replace h := h.2
          refine zv_goto (tgt := 104) hC dX11_newBest_89 (by decide) ?_
          exact zv_go (k_X11_newBest_104 hC hR  h) trivial
      · replace h := h.2 c
        refine zv_aload_n hC dX11_newBest_64 rfl ?_
        refine zv_bipush (v := 7) hC dX11_newBest_65 (by decide) ?_
        refine zv_iconst (v := 0) hC dX11_newBest_67 (by decide) ?_
        refine zv_iconst (v := 0) hC dX11_newBest_68 (by decide) ?_
        refine zv_callVi (As := [_, _, _]) hC dX11_newBest_69 Y_X11_so lk_X11_202 (by decide) rfl rfl rfl (Nat.le_of_ble_eq_true rfl) (ok_X11_so G h) ?_
        intro r_4 σ_3 h
        refine zv_goto (tgt := 104) hC dX11_newBest_72 (by decide) ?_
        exact zv_go (k_X11_newBest_104 hC hR  h) trivial
    · replace h := h.2 c
      refine zv_aload_n hC dX11_newBest_17 rfl ?_
      refine zv_getR (j := 72) hC fl_X11_91 dX11_newBest_18 rfl rfl ?_
      refine zv_aload_n hC dX11_newBest_21 rfl ?_
      refine zv_getR (j := 53) hC fl_X11_31 dX11_newBest_22 rfl rfl ?_
      refine zv_bipush (v := 8) hC dX11_newBest_25 (by decide) ?_
      refine zv_iload_n hC dX11_newBest_27 rfl ?_
      refine zv_imul hC dX11_newBest_28 ?_
      refine zv_iload_n hC dX11_newBest_29 rfl ?_
      refine zv_iadd hC dX11_newBest_30 ?_
      refine zv_iald hC dX11_newBest_31 rfl h.1 ?_
      replace h := h.2
      refine zv_iald hC dX11_newBest_32 rfl h.1 ?_
      replace h := h.2
      replace h := h _ rfl
      refine zv_istore_n hC dX11_newBest_33 (by decide) ?_
      refine zv_aload_n hC dX11_newBest_34 rfl ?_
      refine zv_getR (j := 48) hC fl_X11_16 dX11_newBest_35 rfl rfl ?_
      refine zv_iload_n hC dX11_newBest_38 rfl ?_
      refine zv_iald hC dX11_newBest_39 rfl h.1 ?_
      replace h := h.2
      refine zv_bipush (v := 7) hC dX11_newBest_40 (by decide) ?_
      refine zv_icmp_eq (tgt := 51) hC dX11_newBest_42 (by decide) (fun c => ?_) (fun c => ?_)
      · replace h := h.1 c
        exact zv_go (k_X11_newBest_51 hC hR hk7 h) ⟨rfl, rfl, rfl, trivial⟩
      · replace h := h.2 c
        refine zv_aload_n hC dX11_newBest_45 rfl ?_
        refine zv_iconst (v := 3) hC dX11_newBest_46 (by decide) ?_
        refine zv_iload_n hC dX11_newBest_47 rfl ?_
        refine zv_callVv (As := [_, _]) hC dX11_newBest_48 Y_X11_lay lk_X11_206 (by decide) rfl rfl rfl (Nat.le_of_ble_eq_true rfl) (ok_X11_lay G h) ?_
        intro σ_6 h
        exact zv_go (k_X11_newBest_51 hC hR hk7 h) ⟨rfl, rfl, rfl, trivial⟩
def B_X11_newBest (Q : Int32 → zv_St → Prop) (x1 : Int32) (σ : zv_St) : Prop :=
  ∀ σ_1 : zv_St, σ_1 = zv_wi σ 45 34 0 → ∃ n7, L_X11_newBest_7 Q n7 x1 0 σ_1
set_option maxRecDepth 20000 in
set_option maxHeartbeats 2000000 in
theorem k_X11_newBest_0 {G : zv_G} {X : zv_X} {Q : Int32 → zv_St → Prop}  (hC : zv_C G X M_X11_newBest) (hR : zv_R G X M_X11_newBest (zv_qi Q))  {x1 : Int32} {σ : zv_St} (h : B_X11_newBest Q  x1 σ) : zv_V G X M_X11_newBest 0 [(0, .ref (G.2.2.1 45)), (1, .int x1)] [] σ := by
  unfold B_X11_newBest at h
  refine zv_aload_n hC dX11_newBest_0 rfl ?_
  refine zv_iconst (v := 0) hC dX11_newBest_1 (by decide) ?_
  refine zv_putI hC fp_X11_199 dX11_newBest_2 rfl rfl rfl rfl ?_
  replace h := h _ rfl
  refine zv_iconst (v := 0) hC dX11_newBest_5 (by decide) ?_
  refine zv_istore_n hC dX11_newBest_6 (by decide) ?_
  obtain ⟨n, h⟩ := h
  exact zv_go (kL_X11_newBest_7 hC hR  n _ _ _ h) ⟨rfl, rfl, rfl, trivial⟩
theorem ok_X11_newBest (G : zv_G) {Q : Int32 → zv_St → Prop} {x1 : Int32} {σ : zv_St} (h : B_X11_newBest Q x1 σ) : zv_OK G M_X11_newBest yX11_newBest [.ref (G.2.2.1 45), .int x1] σ (zv_qi Q) := zv_ok G _ _ _ _ _ (by decide +kernel) rfl (Nat.le_of_ble_eq_true rfl) (fun X hC hR => zv_go (k_X11_newBest_0 hC hR h) ⟨rfl, rfl, trivial⟩)
-- X11_newOther
def B_X11_newOther_64 (Q : Int32 → zv_St → Prop) (y0 : Int32) (σ : zv_St) : Prop :=
  Q y0 σ
set_option maxRecDepth 20000 in
set_option maxHeartbeats 2000000 in
theorem k_X11_newOther_64 {G : zv_G} {X : zv_X} {Q : Int32 → zv_St → Prop}  (hC : zv_C G X M_X11_newOther) (hR : zv_R G X M_X11_newOther (zv_qi Q))  {y0 : Int32} {σ : zv_St} (h : B_X11_newOther_64 Q  y0 σ) : zv_V G X M_X11_newOther 64 [] [.int y0] σ := by
  unfold B_X11_newOther_64 at h
  exact (hR _ _ _).1 _ rfl dX11_newOther_64 ⟨_, rfl, h⟩
def B_X11_newOther_47 (Q : Int32 → zv_St → Prop) (x1 : Int32) (x2 : Int32) (σ : zv_St) : Prop :=
  vp_in x1 80 ∧ vp_in x1 80 ∧ B_X11_so (fun r_2 σ_1 => B_X11_newOther_64 Q r_2 σ_1) x2 (σ.1 49 x1.toNatClampNeg) (σ.1 50 x1.toNatClampNeg) σ
set_option maxRecDepth 20000 in
set_option maxHeartbeats 2000000 in
theorem k_X11_newOther_47 {G : zv_G} {X : zv_X} {Q : Int32 → zv_St → Prop}  (hC : zv_C G X M_X11_newOther) (hR : zv_R G X M_X11_newOther (zv_qi Q))  {x1 : Int32} {x2 : Int32} {σ : zv_St} (h : B_X11_newOther_47 Q  x1 x2 σ) : zv_V G X M_X11_newOther 47 [(0, .ref (G.2.2.1 45)), (1, .int x1), (2, .int x2)] [] σ := by
  unfold B_X11_newOther_47 at h
  refine zv_aload_n hC dX11_newOther_47 rfl ?_
  refine zv_iload_n hC dX11_newOther_48 rfl ?_
  refine zv_aload_n hC dX11_newOther_49 rfl ?_
  refine zv_getR (j := 49) hC fl_X11_19 dX11_newOther_50 rfl rfl ?_
  refine zv_iload_n hC dX11_newOther_53 rfl ?_
  refine zv_iald hC dX11_newOther_54 rfl h.1 ?_
  replace h := h.2
  refine zv_aload_n hC dX11_newOther_55 rfl ?_
  refine zv_getR (j := 50) hC fl_X11_22 dX11_newOther_56 rfl rfl ?_
  refine zv_iload_n hC dX11_newOther_59 rfl ?_
  refine zv_iald hC dX11_newOther_60 rfl h.1 ?_
  replace h := h.2
  refine zv_callVi (As := [_, _, _]) hC dX11_newOther_61 Y_X11_so lk_X11_202 (by decide) rfl rfl rfl (Nat.le_of_ble_eq_true rfl) (ok_X11_so G h) ?_
  intro r_2 σ_1 h
  exact zv_go (k_X11_newOther_64 hC hR  h) trivial
def B_X11_newOther_18 (Q : Int32 → zv_St → Prop) (x1 : Int32) (x2 : Int32) (σ : zv_St) : Prop :=
  (¬ x2 = 0 → (B_X11_newOther_47 Q x1 x2 σ)) ∧ (x2 = 0 → (vp_in x1 80 ∧ vp_in (σ.1 49 x1.toNatClampNeg) 16 ∧ (¬ (σ.1 47 (σ.1 49 x1.toNatClampNeg).toNatClampNeg) = 0 → (B_X11_newOther_47 Q x1 x2 σ)) ∧ ((σ.1 47 (σ.1 49 x1.toNatClampNeg).toNatClampNeg) = 0 → (B_X11_so (fun r_2 σ_1 => B_X11_newOther_64 Q r_2 σ_1) 7 0 0 σ))))
set_option maxRecDepth 20000 in
set_option maxHeartbeats 2000000 in
theorem k_X11_newOther_18 {G : zv_G} {X : zv_X} {Q : Int32 → zv_St → Prop}  (hC : zv_C G X M_X11_newOther) (hR : zv_R G X M_X11_newOther (zv_qi Q))  {x1 : Int32} {x2 : Int32} {σ : zv_St} (h : B_X11_newOther_18 Q  x1 x2 σ) : zv_V G X M_X11_newOther 18 [(0, .ref (G.2.2.1 45)), (1, .int x1), (2, .int x2)] [] σ := by
  unfold B_X11_newOther_18 at h
  refine zv_iload_n hC dX11_newOther_18 rfl ?_
  refine zv_if_ne (tgt := 47) hC dX11_newOther_19 (by decide) (fun c => ?_) (fun c => ?_)
  · replace h := h.1 c
    exact zv_go (k_X11_newOther_47 hC hR  h) ⟨rfl, rfl, rfl, trivial⟩
  · replace h := h.2 c
    refine zv_aload_n hC dX11_newOther_22 rfl ?_
    refine zv_getR (j := 47) hC fl_X11_13 dX11_newOther_23 rfl rfl ?_
    refine zv_aload_n hC dX11_newOther_26 rfl ?_
    refine zv_getR (j := 49) hC fl_X11_19 dX11_newOther_27 rfl rfl ?_
    refine zv_iload_n hC dX11_newOther_30 rfl ?_
    refine zv_iald hC dX11_newOther_31 rfl h.1 ?_
    replace h := h.2
    refine zv_iald hC dX11_newOther_32 rfl h.1 ?_
    replace h := h.2
    refine zv_if_ne (tgt := 47) hC dX11_newOther_33 (by decide) (fun c => ?_) (fun c => ?_)
    · replace h := h.1 c
      exact zv_go (k_X11_newOther_47 hC hR  h) ⟨rfl, rfl, rfl, trivial⟩
    · replace h := h.2 c
      refine zv_aload_n hC dX11_newOther_36 rfl ?_
      refine zv_bipush (v := 7) hC dX11_newOther_37 (by decide) ?_
      refine zv_iconst (v := 0) hC dX11_newOther_39 (by decide) ?_
      refine zv_iconst (v := 0) hC dX11_newOther_40 (by decide) ?_
      refine zv_callVi (As := [_, _, _]) hC dX11_newOther_41 Y_X11_so lk_X11_202 (by decide) rfl rfl rfl (Nat.le_of_ble_eq_true rfl) (ok_X11_so G h) ?_
      intro r_2 σ_1 h
      refine zv_goto (tgt := 64) hC dX11_newOther_44 (by decide) ?_
      exact zv_go (k_X11_newOther_64 hC hR  h) trivial
def B_X11_newOther_105 (Q : Int32 → zv_St → Prop) (x3 : Int32) (σ : zv_St) : Prop :=
  Q x3 σ
set_option maxRecDepth 20000 in
set_option maxHeartbeats 2000000 in
theorem k_X11_newOther_105 {G : zv_G} {X : zv_X} {Q : Int32 → zv_St → Prop}  (hC : zv_C G X M_X11_newOther) (hR : zv_R G X M_X11_newOther (zv_qi Q))  {x3 : Int32} {σ : zv_St} (h : B_X11_newOther_105 Q  x3 σ) : zv_V G X M_X11_newOther 105 [(3, .int x3)] [] σ := by
  unfold B_X11_newOther_105 at h
  refine zv_iload_n hC dX11_newOther_105 rfl ?_
  exact (hR _ _ _).1 _ rfl dX11_newOther_106 ⟨_, rfl, h⟩
def B_X11_newOther_146 (Q : Int32 → zv_St → Prop) (x1 : Int32) (y1 : Int32) (y2 : Int32) (σ : zv_St) : Prop :=
  vp_in x1 80 ∧ B_X11_so (fun r_2 σ_1 => Q r_2 σ_1) y1 y2 (σ.1 50 x1.toNatClampNeg) σ
set_option maxRecDepth 20000 in
set_option maxHeartbeats 2000000 in
theorem k_X11_newOther_146 {G : zv_G} {X : zv_X} {Q : Int32 → zv_St → Prop}  (hC : zv_C G X M_X11_newOther) (hR : zv_R G X M_X11_newOther (zv_qi Q))  {x1 : Int32} {y1 : Int32} {y2 : Int32} {σ : zv_St} (h : B_X11_newOther_146 Q  x1 y1 y2 σ) : zv_V G X M_X11_newOther 146 [(0, .ref (G.2.2.1 45)), (1, .int x1)] [.int y2, .int y1, .ref (G.2.2.1 45)] σ := by
  unfold B_X11_newOther_146 at h
  refine zv_aload_n hC dX11_newOther_146 rfl ?_
  refine zv_getR (j := 50) hC fl_X11_22 dX11_newOther_147 rfl rfl ?_
  refine zv_iload_n hC dX11_newOther_150 rfl ?_
  refine zv_iald hC dX11_newOther_151 rfl h.1 ?_
  replace h := h.2
  refine zv_callVi (As := [_, _, _]) hC dX11_newOther_152 Y_X11_so lk_X11_202 (by decide) rfl rfl rfl (Nat.le_of_ble_eq_true rfl) (ok_X11_so G h) ?_
  intro r_2 σ_1 h
  exact (hR _ _ _).1 _ rfl dX11_newOther_155 ⟨_, rfl, h⟩
def B_X11_newOther_127 (Q : Int32 → zv_St → Prop) (x1 : Int32) (x2 : Int32) (x3 : Int32) (y0 : Int32) (σ : zv_St) : Prop :=
  (y0 = 0 → (B_X11_newOther_146 Q x1 x2 x3 σ)) ∧ (¬ y0 = 0 → (vp_in x3 80 ∧ B_X11_newOther_146 Q x1 x2 (σ.1 49 x3.toNatClampNeg) σ))
set_option maxRecDepth 20000 in
set_option maxHeartbeats 2000000 in
theorem k_X11_newOther_127 {G : zv_G} {X : zv_X} {Q : Int32 → zv_St → Prop}  (hC : zv_C G X M_X11_newOther) (hR : zv_R G X M_X11_newOther (zv_qi Q))  {x1 : Int32} {x2 : Int32} {x3 : Int32} {y0 : Int32} {σ : zv_St} (h : B_X11_newOther_127 Q  x1 x2 x3 y0 σ) : zv_V G X M_X11_newOther 127 [(0, .ref (G.2.2.1 45)), (1, .int x1), (2, .int x2), (3, .int x3)] [.int y0] σ := by
  unfold B_X11_newOther_127 at h
  refine zv_istore hC dX11_newOther_127 (by decide) ?_
  refine zv_aload_n hC dX11_newOther_129 rfl ?_
  refine zv_iload_n hC dX11_newOther_130 rfl ?_
  refine zv_iload hC dX11_newOther_131 rfl ?_
  refine zv_if_eq (tgt := 145) hC dX11_newOther_133 (by decide) (fun c => ?_) (fun c => ?_)
  · replace h := h.1 c
    refine zv_iload_n hC dX11_newOther_145 rfl ?_
    exact zv_go (k_X11_newOther_146 hC hR  h) ⟨rfl, rfl, trivial⟩
  · replace h := h.2 c
    refine zv_aload_n hC dX11_newOther_136 rfl ?_
    refine zv_getR (j := 49) hC fl_X11_19 dX11_newOther_137 rfl rfl ?_
    refine zv_iload_n hC dX11_newOther_140 rfl ?_
    refine zv_iald hC dX11_newOther_141 rfl h.1 ?_
    replace h := h.2
    refine zv_goto (tgt := 146) hC dX11_newOther_142 (by decide) ?_
    exact zv_go (k_X11_newOther_146 hC hR  h) ⟨rfl, rfl, trivial⟩
def B_X11_newOther_126 (Q : Int32 → zv_St → Prop) (x1 : Int32) (x2 : Int32) (x3 : Int32) (σ : zv_St) : Prop :=
  B_X11_newOther_127 Q x1 x2 x3 0 σ
set_option maxRecDepth 20000 in
set_option maxHeartbeats 2000000 in
theorem k_X11_newOther_126 {G : zv_G} {X : zv_X} {Q : Int32 → zv_St → Prop}  (hC : zv_C G X M_X11_newOther) (hR : zv_R G X M_X11_newOther (zv_qi Q))  {x1 : Int32} {x2 : Int32} {x3 : Int32} {σ : zv_St} (h : B_X11_newOther_126 Q  x1 x2 x3 σ) : zv_V G X M_X11_newOther 126 [(0, .ref (G.2.2.1 45)), (1, .int x1), (2, .int x2), (3, .int x3)] [] σ := by
  unfold B_X11_newOther_126 at h
  refine zv_iconst (v := 0) hC dX11_newOther_126 (by decide) ?_
  exact zv_go (k_X11_newOther_127 hC hR  h) ⟨rfl, rfl, rfl, rfl, trivial⟩
def B_X11_newOther_107 (Q : Int32 → zv_St → Prop) (x1 : Int32) (x2 : Int32) (x3 : Int32) (σ : zv_St) : Prop :=
  vp_in x3 80 ∧ (¬ (σ.1 48 x3.toNatClampNeg) = 4 → (B_X11_newOther_126 Q x1 x2 x3 σ)) ∧ ((σ.1 48 x3.toNatClampNeg) = 4 → ((x2 = 5 → (B_X11_newOther_126 Q x1 x2 x3 σ)) ∧ (¬ x2 = 5 → (B_X11_newOther_127 Q x1 x2 x3 1 σ))))
set_option maxRecDepth 20000 in
set_option maxHeartbeats 2000000 in
theorem k_X11_newOther_107 {G : zv_G} {X : zv_X} {Q : Int32 → zv_St → Prop}  (hC : zv_C G X M_X11_newOther) (hR : zv_R G X M_X11_newOther (zv_qi Q))  {x1 : Int32} {x2 : Int32} {x3 : Int32} {σ : zv_St} (h : B_X11_newOther_107 Q  x1 x2 x3 σ) : zv_V G X M_X11_newOther 107 [(0, .ref (G.2.2.1 45)), (1, .int x1), (2, .int x2), (3, .int x3)] [] σ := by
  unfold B_X11_newOther_107 at h
  refine zv_aload_n hC dX11_newOther_107 rfl ?_
  refine zv_getR (j := 48) hC fl_X11_16 dX11_newOther_108 rfl rfl ?_
  refine zv_iload_n hC dX11_newOther_111 rfl ?_
  refine zv_iald hC dX11_newOther_112 rfl h.1 ?_
  replace h := h.2
  refine zv_iconst (v := 4) hC dX11_newOther_113 (by decide) ?_
  refine zv_icmp_ne (tgt := 126) hC dX11_newOther_114 (by decide) (fun c => ?_) (fun c => ?_)
  · replace h := h.1 c
    exact zv_go (k_X11_newOther_126 hC hR  h) ⟨rfl, rfl, rfl, rfl, trivial⟩
  · replace h := h.2 c
    refine zv_iload_n hC dX11_newOther_117 rfl ?_
    refine zv_iconst (v := 5) hC dX11_newOther_118 (by decide) ?_
    refine zv_icmp_eq (tgt := 126) hC dX11_newOther_119 (by decide) (fun c => ?_) (fun c => ?_)
    · replace h := h.1 c
      exact zv_go (k_X11_newOther_126 hC hR  h) ⟨rfl, rfl, rfl, rfl, trivial⟩
    · replace h := h.2 c
      refine zv_iconst (v := 1) hC dX11_newOther_122 (by decide) ?_
      refine zv_goto (tgt := 127) hC dX11_newOther_123 (by decide) ?_
      exact zv_go (k_X11_newOther_127 hC hR  h) ⟨rfl, rfl, rfl, rfl, trivial⟩
def B_X11_newOther (Q : Int32 → zv_St → Prop) (x1 : Int32) (σ : zv_St) : Prop :=
  vp_in x1 80 ∧ ∀ v_1 : Int32, v_1 = (σ.1 48 x1.toNatClampNeg) → (v_1 < 2 → (B_X11_newOther_18 Q x1 v_1 σ)) ∧ (¬ v_1 < 2 → ((¬ v_1 = 7 → (vp_in x1 80 ∧ vp_in (σ.1 49 x1.toNatClampNeg) 80 ∧ ∀ v_2 : Int32, v_2 = (σ.1 72 (σ.1 49 x1.toNatClampNeg).toNatClampNeg) → vp_in v_2 80 ∧ ((σ.1 48 v_2.toNatClampNeg) = 7 → (B_X11_newOther_105 Q v_2 σ)) ∧ (¬ (σ.1 48 v_2.toNatClampNeg) = 7 → ((¬ v_1 = 6 → (B_X11_newOther_107 Q x1 v_1 v_2 σ)) ∧ (v_1 = 6 → (vp_in v_2 80 ∧ (¬ (σ.1 48 v_2.toNatClampNeg) = 6 → (B_X11_newOther_107 Q x1 v_1 v_2 σ)) ∧ ((σ.1 48 v_2.toNatClampNeg) = 6 → (B_X11_newOther_105 Q v_2 σ)))))))) ∧ (v_1 = 7 → (B_X11_newOther_18 Q x1 v_1 σ))))
set_option maxRecDepth 20000 in
set_option maxHeartbeats 2000000 in
theorem k_X11_newOther_0 {G : zv_G} {X : zv_X} {Q : Int32 → zv_St → Prop}  (hC : zv_C G X M_X11_newOther) (hR : zv_R G X M_X11_newOther (zv_qi Q))  {x1 : Int32} {σ : zv_St} (h : B_X11_newOther Q  x1 σ) : zv_V G X M_X11_newOther 0 [(0, .ref (G.2.2.1 45)), (1, .int x1)] [] σ := by
  unfold B_X11_newOther at h
  refine zv_aload_n hC dX11_newOther_0 rfl ?_
  refine zv_getR (j := 48) hC fl_X11_16 dX11_newOther_1 rfl rfl ?_
  refine zv_iload_n hC dX11_newOther_4 rfl ?_
  refine zv_iald hC dX11_newOther_5 rfl h.1 ?_
  replace h := h.2
  replace h := h _ rfl
  refine zv_istore_n hC dX11_newOther_6 (by decide) ?_
  refine zv_iload_n hC dX11_newOther_7 rfl ?_
  refine zv_iconst (v := 2) hC dX11_newOther_8 (by decide) ?_
  refine zv_icmp_lt (tgt := 18) hC dX11_newOther_9 (by decide) (fun c => ?_) (fun c => ?_)
  · replace h := h.1 c
    exact zv_go (k_X11_newOther_18 hC hR  h) ⟨rfl, rfl, rfl, trivial⟩
  · replace h := h.2 c
    refine zv_iload_n hC dX11_newOther_12 rfl ?_
    refine zv_bipush (v := 7) hC dX11_newOther_13 (by decide) ?_
    refine zv_icmp_ne (tgt := 65) hC dX11_newOther_15 (by decide) (fun c => ?_) (fun c => ?_)
    · replace h := h.1 c
      refine zv_aload_n hC dX11_newOther_65 rfl ?_
      refine zv_getR (j := 72) hC fl_X11_91 dX11_newOther_66 rfl rfl ?_
      refine zv_aload_n hC dX11_newOther_69 rfl ?_
      refine zv_getR (j := 49) hC fl_X11_19 dX11_newOther_70 rfl rfl ?_
      refine zv_iload_n hC dX11_newOther_73 rfl ?_
      refine zv_iald hC dX11_newOther_74 rfl h.1 ?_
      replace h := h.2
      refine zv_iald hC dX11_newOther_75 rfl h.1 ?_
      replace h := h.2
      replace h := h _ rfl
      refine zv_istore_n hC dX11_newOther_76 (by decide) ?_
      refine zv_aload_n hC dX11_newOther_77 rfl ?_
      refine zv_getR (j := 48) hC fl_X11_16 dX11_newOther_78 rfl rfl ?_
      refine zv_iload_n hC dX11_newOther_81 rfl ?_
      refine zv_iald hC dX11_newOther_82 rfl h.1 ?_
      replace h := h.2
      refine zv_bipush (v := 7) hC dX11_newOther_83 (by decide) ?_
      refine zv_icmp_eq (tgt := 105) hC dX11_newOther_85 (by decide) (fun c => ?_) (fun c => ?_)
      · replace h := h.1 c
        exact zv_go (k_X11_newOther_105 hC hR  h) ⟨rfl, trivial⟩
      · replace h := h.2 c
        refine zv_iload_n hC dX11_newOther_88 rfl ?_
        refine zv_bipush (v := 6) hC dX11_newOther_89 (by decide) ?_
        refine zv_icmp_ne (tgt := 107) hC dX11_newOther_91 (by decide) (fun c => ?_) (fun c => ?_)
        · replace h := h.1 c
          exact zv_go (k_X11_newOther_107 hC hR  h) ⟨rfl, rfl, rfl, rfl, trivial⟩
        · replace h := h.2 c
          refine zv_aload_n hC dX11_newOther_94 rfl ?_
          refine zv_getR (j := 48) hC fl_X11_16 dX11_newOther_95 rfl rfl ?_
          refine zv_iload_n hC dX11_newOther_98 rfl ?_
          refine zv_iald hC dX11_newOther_99 rfl h.1 ?_
          replace h := h.2
          refine zv_bipush (v := 6) hC dX11_newOther_100 (by decide) ?_
          refine zv_icmp_ne (tgt := 107) hC dX11_newOther_102 (by decide) (fun c => ?_) (fun c => ?_)
          · replace h := h.1 c
            exact zv_go (k_X11_newOther_107 hC hR  h) ⟨rfl, rfl, rfl, rfl, trivial⟩
          · replace h := h.2 c
            exact zv_go (k_X11_newOther_105 hC hR  h) ⟨rfl, trivial⟩
    · replace h := h.2 c
      exact zv_go (k_X11_newOther_18 hC hR  h) ⟨rfl, rfl, rfl, trivial⟩
theorem ok_X11_newOther (G : zv_G) {Q : Int32 → zv_St → Prop} {x1 : Int32} {σ : zv_St} (h : B_X11_newOther Q x1 σ) : zv_OK G M_X11_newOther yX11_newOther [.ref (G.2.2.1 45), .int x1] σ (zv_qi Q) := zv_ok G _ _ _ _ _ (by decide +kernel) rfl (Nat.le_of_ble_eq_true rfl) (fun X hC hR => zv_go (k_X11_newOther_0 hC hR h) ⟨rfl, rfl, trivial⟩)
-- X11_rewrite
def B_X11_rewrite_185 (Q : Int32 → zv_St → Prop) (x1 : Int32) (x2 : Int32) (σ : zv_St) : Prop :=
  ((σ.1 45 35) = 0 → (vp_in x1 80 ∧ Q (σ.1 72 x1.toNatClampNeg) σ)) ∧ (¬ (σ.1 45 35) = 0 → (∀ σ_1 : zv_St, σ_1 = zv_wi σ 45 2 x2 → Q (-3) σ_1))
set_option maxRecDepth 20000 in
set_option maxHeartbeats 2000000 in
theorem k_X11_rewrite_185 {G : zv_G} {X : zv_X} {Q : Int32 → zv_St → Prop}  (hC : zv_C G X M_X11_rewrite) (hR : zv_R G X M_X11_rewrite (zv_qi Q))  {x1 : Int32} {x2 : Int32} {σ : zv_St} (h : B_X11_rewrite_185 Q  x1 x2 σ) : zv_V G X M_X11_rewrite 185 [(0, .ref (G.2.2.1 45)), (1, .int x1), (2, .int x2)] [] σ := by
  unfold B_X11_rewrite_185 at h
  refine zv_aload_n hC dX11_rewrite_185 rfl ?_
  refine zv_getI hC fl_X11_186 dX11_rewrite_186 rfl rfl ?_
  refine zv_if_eq (tgt := 200) hC dX11_rewrite_189 (by decide) (fun c => ?_) (fun c => ?_)
  · replace h := h.1 c
    refine zv_aload_n hC dX11_rewrite_200 rfl ?_
    refine zv_getR (j := 72) hC fl_X11_91 dX11_rewrite_201 rfl rfl ?_
    refine zv_iload_n hC dX11_rewrite_204 rfl ?_
    refine zv_iald hC dX11_rewrite_205 rfl h.1 ?_
    replace h := h.2
    exact (hR _ _ _).1 _ rfl dX11_rewrite_206 ⟨_, rfl, h⟩
  · replace h := h.2 c
    refine zv_aload_n hC dX11_rewrite_192 rfl ?_
    refine zv_iload_n hC dX11_rewrite_193 rfl ?_
    refine zv_putI hC fp_X11_107 dX11_rewrite_194 rfl rfl rfl rfl ?_
    replace h := h _ rfl
    refine zv_bipush (v := (-3)) hC dX11_rewrite_197 (by decide) ?_
    exact (hR _ _ _).1 _ rfl dX11_rewrite_199 ⟨_, rfl, h⟩
def B_X11_rewrite_179 (Q : Int32 → zv_St → Prop) (kk111 : Int32 → Int32 → Int32 → zv_St → Prop) (x1 : Int32) (x2 : Int32) (x3 : Int32) (σ : zv_St) : Prop :=
  kk111 x1 x2 (x3 + 1) σ
set_option maxRecDepth 20000 in
set_option maxHeartbeats 2000000 in
theorem k_X11_rewrite_179 {G : zv_G} {X : zv_X} {Q : Int32 → zv_St → Prop} {kk111 : Int32 → Int32 → Int32 → zv_St → Prop} (hC : zv_C G X M_X11_rewrite) (hR : zv_R G X M_X11_rewrite (zv_qi Q)) (hk111 : ∀ (x1 : Int32) (x2 : Int32) (x3 : Int32) (σ : zv_St), kk111 x1 x2 x3 σ → zv_V G X M_X11_rewrite 111 [(0, .ref (G.2.2.1 45)), (1, .int x1), (2, .int x2), (3, .int x3)] [] σ) {x1 : Int32} {x2 : Int32} {x3 : Int32} {σ : zv_St} (h : B_X11_rewrite_179 Q kk111 x1 x2 x3 σ) : zv_V G X M_X11_rewrite 179 [(0, .ref (G.2.2.1 45)), (1, .int x1), (2, .int x2), (3, .int x3)] [] σ := by
  unfold B_X11_rewrite_179 at h
  refine zv_iinc (v := 1) hC dX11_rewrite_179 rfl (by decide) (by decide) ?_
  refine zv_goto (tgt := 111) hC dX11_rewrite_182 (by decide) ?_
  exact zv_go (hk111 _ _ _ _ h) ⟨rfl, rfl, rfl, rfl, trivial⟩
def B_X11_rewrite_178 (Q : Int32 → zv_St → Prop) (kk111 : Int32 → Int32 → Int32 → zv_St → Prop) (x1 : Int32) (x2 : Int32) (x3 : Int32) (y1 : Int32) (y2 : Int32) (σ : zv_St) : Prop :=
  vp_in y1 80 ∧ ∀ σ_1 : zv_St, σ_1 = zv_wi σ 72 y1.toNatClampNeg y2 → B_X11_rewrite_179 Q kk111 x1 x2 x3 σ_1
set_option maxRecDepth 20000 in
set_option maxHeartbeats 2000000 in
theorem k_X11_rewrite_178 {G : zv_G} {X : zv_X} {Q : Int32 → zv_St → Prop} {kk111 : Int32 → Int32 → Int32 → zv_St → Prop} (hC : zv_C G X M_X11_rewrite) (hR : zv_R G X M_X11_rewrite (zv_qi Q)) (hk111 : ∀ (x1 : Int32) (x2 : Int32) (x3 : Int32) (σ : zv_St), kk111 x1 x2 x3 σ → zv_V G X M_X11_rewrite 111 [(0, .ref (G.2.2.1 45)), (1, .int x1), (2, .int x2), (3, .int x3)] [] σ) {x1 : Int32} {x2 : Int32} {x3 : Int32} {y1 : Int32} {y2 : Int32} {σ : zv_St} (h : B_X11_rewrite_178 Q kk111 x1 x2 x3 y1 y2 σ) : zv_V G X M_X11_rewrite 178 [(0, .ref (G.2.2.1 45)), (1, .int x1), (2, .int x2), (3, .int x3)] [.int y2, .int y1, .ref (G.2.2.1 72)] σ := by
  unfold B_X11_rewrite_178 at h
  refine zv_iast hC dX11_rewrite_178 rfl h.1 ?_
  replace h := h.2 _ rfl
  exact zv_go (k_X11_rewrite_179 hC hR hk111 h) ⟨rfl, rfl, rfl, rfl, trivial⟩
def L_X11_rewrite_111 (Q : Int32 → zv_St → Prop) : Nat → (Int32 → Int32 → Int32 → zv_St → Prop)
  | 0 => fun _ _ _ _ => False
  | u + 1 => fun x1 x2 x3 σ => 
    (x1 < x3 → (B_X11_rewrite_185 Q x1 x2 σ)) ∧ (¬ x1 < x3 → ((¬ (σ.1 45 35) = 0 → (B_X11_rewrite_185 Q x1 x2 σ)) ∧ ((σ.1 45 35) = 0 → (vp_in x3 80 ∧ ((σ.1 61 x3.toNatClampNeg) = 0 → (B_X11_rewrite_179 Q (L_X11_rewrite_111 Q u) x1 x2 x3 σ)) ∧ (¬ (σ.1 61 x3.toNatClampNeg) = 0 → (vp_in x3 80 ∧ (¬ (σ.1 48 x3.toNatClampNeg) = 2 → (vp_in x3 80 ∧ (¬ (σ.1 48 x3.toNatClampNeg) = 3 → (B_X11_newOther (fun r_2 σ_1 => B_X11_rewrite_178 Q (L_X11_rewrite_111 Q u) x1 x2 x3 x3 r_2 σ_1) x3 σ)) ∧ ((σ.1 48 x3.toNatClampNeg) = 3 → (B_X11_newBest (fun r_4 σ_3 => B_X11_rewrite_178 Q (L_X11_rewrite_111 Q u) x1 x2 x3 x3 r_4 σ_3) x3 σ)))) ∧ ((σ.1 48 x3.toNatClampNeg) = 2 → (B_X11_newBool (fun r_6 σ_5 => B_X11_rewrite_178 Q (L_X11_rewrite_111 Q u) x1 x2 x3 x3 r_6 σ_5) x3 σ))))))))
set_option maxRecDepth 20000 in
set_option maxHeartbeats 2000000 in
theorem kL_X11_rewrite_111 {G : zv_G} {X : zv_X} {Q : Int32 → zv_St → Prop}  (hC : zv_C G X M_X11_rewrite) (hR : zv_R G X M_X11_rewrite (zv_qi Q))  : ∀ (n : Nat) (x1 : Int32) (x2 : Int32) (x3 : Int32) (σ : zv_St), L_X11_rewrite_111 Q  n x1 x2 x3 σ → zv_V G X M_X11_rewrite 111 [(0, .ref (G.2.2.1 45)), (1, .int x1), (2, .int x2), (3, .int x3)] [] σ := by
  intro n
  induction n with
  | zero => intro x1 x2 x3 σ h; exact h.elim
  | succ n hk111 =>
    intro x1 x2 x3 σ h
    unfold L_X11_rewrite_111 at h
    refine zv_iload_n hC dX11_rewrite_111 rfl ?_
    refine zv_iload_n hC dX11_rewrite_112 rfl ?_
    refine zv_icmp_gt (tgt := 185) hC dX11_rewrite_113 (by decide) (fun c => ?_) (fun c => ?_)
    · replace h := h.1 c
      exact zv_go (k_X11_rewrite_185 hC hR  h) ⟨rfl, rfl, rfl, trivial⟩
    · replace h := h.2 c
      refine zv_aload_n hC dX11_rewrite_116 rfl ?_
      refine zv_getI hC fl_X11_186 dX11_rewrite_117 rfl rfl ?_
      refine zv_if_ne (tgt := 185) hC dX11_rewrite_120 (by decide) (fun c => ?_) (fun c => ?_)
      · replace h := h.1 c
        exact zv_go (k_X11_rewrite_185 hC hR  h) ⟨rfl, rfl, rfl, trivial⟩
      · replace h := h.2 c
        refine zv_aload_n hC dX11_rewrite_123 rfl ?_
        refine zv_getR (j := 61) hC fl_X11_57 dX11_rewrite_124 rfl rfl ?_
        refine zv_iload_n hC dX11_rewrite_127 rfl ?_
        refine zv_zald hC dX11_rewrite_128 rfl h.1 ?_
        replace h := h.2
        refine zv_if_eq (tgt := 179) hC dX11_rewrite_129 (by decide) (fun c => ?_) (fun c => ?_)
        · replace h := h.1 c
          exact zv_go (k_X11_rewrite_179 hC hR hk111 h) ⟨rfl, rfl, rfl, rfl, trivial⟩
        · replace h := h.2 c
          refine zv_aload_n hC dX11_rewrite_132 rfl ?_
          refine zv_getR (j := 72) hC fl_X11_91 dX11_rewrite_133 rfl rfl ?_
          refine zv_iload_n hC dX11_rewrite_136 rfl ?_
          refine zv_aload_n hC dX11_rewrite_137 rfl ?_
          refine zv_getR (j := 48) hC fl_X11_16 dX11_rewrite_138 rfl rfl ?_
          refine zv_iload_n hC dX11_rewrite_141 rfl ?_
          refine zv_iald hC dX11_rewrite_142 rfl h.1 ?_
          replace h := h.2
          refine zv_iconst (v := 2) hC dX11_rewrite_143 (by decide) ?_
          refine zv_icmp_ne (tgt := 155) hC dX11_rewrite_144 (by decide) (fun c => ?_) (fun c => ?_)
          · replace h := h.1 c
            refine zv_aload_n hC dX11_rewrite_155 rfl ?_
            refine zv_getR (j := 48) hC fl_X11_16 dX11_rewrite_156 rfl rfl ?_
            refine zv_iload_n hC dX11_rewrite_159 rfl ?_
            refine zv_iald hC dX11_rewrite_160 rfl h.1 ?_
            replace h := h.2
            refine zv_iconst (v := 3) hC dX11_rewrite_161 (by decide) ?_
            refine zv_icmp_ne (tgt := 173) hC dX11_rewrite_162 (by decide) (fun c => ?_) (fun c => ?_)
            · replace h := h.1 c
              refine zv_aload_n hC dX11_rewrite_173 rfl ?_
              refine zv_iload_n hC dX11_rewrite_174 rfl ?_
              refine zv_callVi (As := [_]) hC dX11_rewrite_175 Y_X11_newOther lk_X11_196 (by decide) rfl rfl rfl (Nat.le_of_ble_eq_true rfl) (ok_X11_newOther G h) ?_
              intro r_2 σ_1 h
              exact zv_go (k_X11_rewrite_178 hC hR hk111 h) ⟨rfl, rfl, rfl, rfl, trivial⟩
            · replace h := h.2 c
              refine zv_aload_n hC dX11_rewrite_165 rfl ?_
              refine zv_iload_n hC dX11_rewrite_166 rfl ?_
              refine zv_callVi (As := [_]) hC dX11_rewrite_167 Y_X11_newBest lk_X11_193 (by decide) rfl rfl rfl (Nat.le_of_ble_eq_true rfl) (ok_X11_newBest G h) ?_
              intro r_4 σ_3 h
              refine zv_goto (tgt := 178) hC dX11_rewrite_170 (by decide) ?_
              exact zv_go (k_X11_rewrite_178 hC hR hk111 h) ⟨rfl, rfl, rfl, rfl, trivial⟩
          · replace h := h.2 c
            refine zv_aload_n hC dX11_rewrite_147 rfl ?_
            refine zv_iload_n hC dX11_rewrite_148 rfl ?_
            refine zv_callVi (As := [_]) hC dX11_rewrite_149 Y_X11_newBool lk_X11_190 (by decide) rfl rfl rfl (Nat.le_of_ble_eq_true rfl) (ok_X11_newBool G h) ?_
            intro r_6 σ_5 h
            refine zv_goto (tgt := 178) hC dX11_rewrite_152 (by decide) ?_
            exact zv_go (k_X11_rewrite_178 hC hR hk111 h) ⟨rfl, rfl, rfl, rfl, trivial⟩
def B_X11_rewrite_103 (Q : Int32 → zv_St → Prop) (kk52 : Int32 → Int32 → Int32 → zv_St → Prop) (x1 : Int32) (x2 : Int32) (x3 : Int32) (σ : zv_St) : Prop :=
  kk52 x1 x2 (x3 + (-1)) σ
set_option maxRecDepth 20000 in
set_option maxHeartbeats 2000000 in
theorem k_X11_rewrite_103 {G : zv_G} {X : zv_X} {Q : Int32 → zv_St → Prop} {kk52 : Int32 → Int32 → Int32 → zv_St → Prop} (hC : zv_C G X M_X11_rewrite) (hR : zv_R G X M_X11_rewrite (zv_qi Q)) (hk52 : ∀ (x1 : Int32) (x2 : Int32) (x3 : Int32) (σ : zv_St), kk52 x1 x2 x3 σ → zv_V G X M_X11_rewrite 52 [(0, .ref (G.2.2.1 45)), (1, .int x1), (2, .int x2), (3, .int x3)] [] σ) {x1 : Int32} {x2 : Int32} {x3 : Int32} {σ : zv_St} (h : B_X11_rewrite_103 Q kk52 x1 x2 x3 σ) : zv_V G X M_X11_rewrite 103 [(0, .ref (G.2.2.1 45)), (1, .int x1), (2, .int x2), (3, .int x3)] [] σ := by
  unfold B_X11_rewrite_103 at h
  refine zv_iinc (v := (-1)) hC dX11_rewrite_103 rfl (by decide) (by decide) ?_
  refine zv_goto (tgt := 52) hC dX11_rewrite_106 (by decide) ?_
  exact zv_go (hk52 _ _ _ _ h) ⟨rfl, rfl, rfl, rfl, trivial⟩
def L_X11_rewrite_59 (Q : Int32 → zv_St → Prop) (kk52 : Int32 → Int32 → Int32 → zv_St → Prop) : Nat → (Int32 → Int32 → Int32 → Int32 → zv_St → Prop)
  | 0 => fun _ _ _ _ _ => False
  | u + 1 => fun x1 x2 x3 x4 σ => 
    vp_in x3 80 ∧ ((σ.1 51 x3.toNatClampNeg) ≤ x4 → (B_X11_rewrite_103 Q kk52 x1 x2 x3 σ)) ∧ (¬ (σ.1 51 x3.toNatClampNeg) ≤ x4 → (vp_in x3 80 ∧ ((σ.1 61 x3.toNatClampNeg) = 0 → (B_X11_rewrite_103 Q kk52 x1 x2 x3 σ)) ∧ (¬ (σ.1 61 x3.toNatClampNeg) = 0 → (vp_in ((8 * x3) + x4) 640 ∧ vp_in (σ.1 53 ((8 * x3) + x4).toNatClampNeg) 80 ∧ ∀ σ_1 : zv_St, σ_1 = zv_wi σ 61 (σ.1 53 ((8 * x3) + x4).toNatClampNeg).toNatClampNeg (vp_nar .boolean 1) → (L_X11_rewrite_59 Q kk52 u) x1 x2 x3 (x4 + 1) σ_1))))
set_option maxRecDepth 20000 in
set_option maxHeartbeats 2000000 in
theorem kL_X11_rewrite_59 {G : zv_G} {X : zv_X} {Q : Int32 → zv_St → Prop} {kk52 : Int32 → Int32 → Int32 → zv_St → Prop} (hC : zv_C G X M_X11_rewrite) (hR : zv_R G X M_X11_rewrite (zv_qi Q)) (hk52 : ∀ (x1 : Int32) (x2 : Int32) (x3 : Int32) (σ : zv_St), kk52 x1 x2 x3 σ → zv_V G X M_X11_rewrite 52 [(0, .ref (G.2.2.1 45)), (1, .int x1), (2, .int x2), (3, .int x3)] [] σ) : ∀ (n : Nat) (x1 : Int32) (x2 : Int32) (x3 : Int32) (x4 : Int32) (σ : zv_St), L_X11_rewrite_59 Q kk52 n x1 x2 x3 x4 σ → zv_V G X M_X11_rewrite 59 [(0, .ref (G.2.2.1 45)), (1, .int x1), (2, .int x2), (3, .int x3), (4, .int x4)] [] σ := by
  intro n
  induction n with
  | zero => intro x1 x2 x3 x4 σ h; exact h.elim
  | succ n hk59 =>
    intro x1 x2 x3 x4 σ h
    unfold L_X11_rewrite_59 at h
    refine zv_iload hC dX11_rewrite_59 rfl ?_
    refine zv_aload_n hC dX11_rewrite_61 rfl ?_
    refine zv_getR (j := 51) hC fl_X11_25 dX11_rewrite_62 rfl rfl ?_
    refine zv_iload_n hC dX11_rewrite_65 rfl ?_
    refine zv_iald hC dX11_rewrite_66 rfl h.1 ?_
    replace h := h.2
    refine zv_icmp_ge (tgt := 103) hC dX11_rewrite_67 (by decide) (fun c => ?_) (fun c => ?_)
    · replace h := h.1 c
      exact zv_go (k_X11_rewrite_103 hC hR hk52 h) ⟨rfl, rfl, rfl, rfl, trivial⟩
    · replace h := h.2 c
      refine zv_aload_n hC dX11_rewrite_70 rfl ?_
      refine zv_getR (j := 61) hC fl_X11_57 dX11_rewrite_71 rfl rfl ?_
      refine zv_iload_n hC dX11_rewrite_74 rfl ?_
      refine zv_zald hC dX11_rewrite_75 rfl h.1 ?_
      replace h := h.2
      refine zv_if_eq (tgt := 103) hC dX11_rewrite_76 (by decide) (fun c => ?_) (fun c => ?_)
      · replace h := h.1 c
        exact zv_go (k_X11_rewrite_103 hC hR hk52 h) ⟨rfl, rfl, rfl, rfl, trivial⟩
      · replace h := h.2 c
        refine zv_aload_n hC dX11_rewrite_79 rfl ?_
        refine zv_getR (j := 61) hC fl_X11_57 dX11_rewrite_80 rfl rfl ?_
        refine zv_aload_n hC dX11_rewrite_83 rfl ?_
        refine zv_getR (j := 53) hC fl_X11_31 dX11_rewrite_84 rfl rfl ?_
        refine zv_bipush (v := 8) hC dX11_rewrite_87 (by decide) ?_
        refine zv_iload_n hC dX11_rewrite_89 rfl ?_
        refine zv_imul hC dX11_rewrite_90 ?_
        refine zv_iload hC dX11_rewrite_91 rfl ?_
        refine zv_iadd hC dX11_rewrite_93 ?_
        refine zv_iald hC dX11_rewrite_94 rfl h.1 ?_
        replace h := h.2
        refine zv_iconst (v := 1) hC dX11_rewrite_95 (by decide) ?_
        refine zv_zast hC dX11_rewrite_96 rfl h.1 ?_
        replace h := h.2 _ rfl
        refine zv_iinc (v := 1) hC dX11_rewrite_97 rfl (by decide) (by decide) ?_
        refine zv_goto (tgt := 59) hC dX11_rewrite_100 (by decide) ?_
        exact zv_go (hk59 _ _ _ _ _ h) ⟨rfl, rfl, rfl, rfl, rfl, trivial⟩
def L_X11_rewrite_52 (Q : Int32 → zv_St → Prop) : Nat → (Int32 → Int32 → Int32 → zv_St → Prop)
  | 0 => fun _ _ _ _ => False
  | u + 1 => fun x1 x2 x3 σ => 
    (x3 < 0 → (∃ n111, L_X11_rewrite_111 Q n111 x1 x2 0 σ)) ∧ (¬ x3 < 0 → (∃ n59, L_X11_rewrite_59 Q (L_X11_rewrite_52 Q u) n59 x1 x2 x3 0 σ))
set_option maxRecDepth 20000 in
set_option maxHeartbeats 2000000 in
theorem kL_X11_rewrite_52 {G : zv_G} {X : zv_X} {Q : Int32 → zv_St → Prop}  (hC : zv_C G X M_X11_rewrite) (hR : zv_R G X M_X11_rewrite (zv_qi Q))  : ∀ (n : Nat) (x1 : Int32) (x2 : Int32) (x3 : Int32) (σ : zv_St), L_X11_rewrite_52 Q  n x1 x2 x3 σ → zv_V G X M_X11_rewrite 52 [(0, .ref (G.2.2.1 45)), (1, .int x1), (2, .int x2), (3, .int x3)] [] σ := by
  intro n
  induction n with
  | zero => intro x1 x2 x3 σ h; exact h.elim
  | succ n hk52 =>
    intro x1 x2 x3 σ h
    unfold L_X11_rewrite_52 at h
    refine zv_iload_n hC dX11_rewrite_52 rfl ?_
    refine zv_if_lt (tgt := 109) hC dX11_rewrite_53 (by decide) (fun c => ?_) (fun c => ?_)
    · replace h := h.1 c
      refine zv_iconst (v := 0) hC dX11_rewrite_109 (by decide) ?_
      refine zv_istore_n hC dX11_rewrite_110 (by decide) ?_
      obtain ⟨n, h⟩ := h
      exact zv_go (kL_X11_rewrite_111 hC hR  n _ _ _ _ h) ⟨rfl, rfl, rfl, rfl, trivial⟩
    · replace h := h.2 c
      refine zv_iconst (v := 0) hC dX11_rewrite_56 (by decide) ?_
      refine zv_istore hC dX11_rewrite_57 (by decide) ?_
      obtain ⟨n, h⟩ := h
      exact zv_go (kL_X11_rewrite_59 hC hR hk52 n _ _ _ _ _ h) ⟨rfl, rfl, rfl, rfl, rfl, trivial⟩
def B_X11_rewrite_43 (Q : Int32 → zv_St → Prop) (kk23 : Int32 → Int32 → Int32 → zv_St → Prop) (x1 : Int32) (x2 : Int32) (x3 : Int32) (y1 : Int32) (y2 : Int32) (σ : zv_St) : Prop :=
  vp_in y1 80 ∧ ∀ σ_1 : zv_St, σ_1 = zv_wi σ 61 y1.toNatClampNeg (vp_nar .boolean y2) → kk23 x1 x2 (x3 + 1) σ_1
set_option maxRecDepth 20000 in
set_option maxHeartbeats 2000000 in
theorem k_X11_rewrite_43 {G : zv_G} {X : zv_X} {Q : Int32 → zv_St → Prop} {kk23 : Int32 → Int32 → Int32 → zv_St → Prop} (hC : zv_C G X M_X11_rewrite) (hR : zv_R G X M_X11_rewrite (zv_qi Q)) (hk23 : ∀ (x1 : Int32) (x2 : Int32) (x3 : Int32) (σ : zv_St), kk23 x1 x2 x3 σ → zv_V G X M_X11_rewrite 23 [(0, .ref (G.2.2.1 45)), (1, .int x1), (2, .int x2), (3, .int x3)] [] σ) {x1 : Int32} {x2 : Int32} {x3 : Int32} {y1 : Int32} {y2 : Int32} {σ : zv_St} (h : B_X11_rewrite_43 Q kk23 x1 x2 x3 y1 y2 σ) : zv_V G X M_X11_rewrite 43 [(0, .ref (G.2.2.1 45)), (1, .int x1), (2, .int x2), (3, .int x3)] [.int y2, .int y1, .ref (G.2.2.1 61)] σ := by
  unfold B_X11_rewrite_43 at h
  refine zv_zast hC dX11_rewrite_43 rfl h.1 ?_
  replace h := h.2 _ rfl
  refine zv_iinc (v := 1) hC dX11_rewrite_44 rfl (by decide) (by decide) ?_
  refine zv_goto (tgt := 23) hC dX11_rewrite_47 (by decide) ?_
  exact zv_go (hk23 _ _ _ _ h) ⟨rfl, rfl, rfl, rfl, trivial⟩
def L_X11_rewrite_23 (Q : Int32 → zv_St → Prop) : Nat → (Int32 → Int32 → Int32 → zv_St → Prop)
  | 0 => fun _ _ _ _ => False
  | u + 1 => fun x1 x2 x3 σ => 
    (x1 < x3 → (∃ n52, L_X11_rewrite_52 Q n52 x1 x2 x1 σ)) ∧ (¬ x1 < x3 → ((¬ x3 = x1 → (B_X11_rewrite_43 Q (L_X11_rewrite_23 Q u) x1 x2 x3 x3 0 σ)) ∧ (x3 = x1 → (B_X11_rewrite_43 Q (L_X11_rewrite_23 Q u) x1 x2 x3 x3 1 σ))))
set_option maxRecDepth 20000 in
set_option maxHeartbeats 2000000 in
theorem kL_X11_rewrite_23 {G : zv_G} {X : zv_X} {Q : Int32 → zv_St → Prop}  (hC : zv_C G X M_X11_rewrite) (hR : zv_R G X M_X11_rewrite (zv_qi Q))  : ∀ (n : Nat) (x1 : Int32) (x2 : Int32) (x3 : Int32) (σ : zv_St), L_X11_rewrite_23 Q  n x1 x2 x3 σ → zv_V G X M_X11_rewrite 23 [(0, .ref (G.2.2.1 45)), (1, .int x1), (2, .int x2), (3, .int x3)] [] σ := by
  intro n
  induction n with
  | zero => intro x1 x2 x3 σ h; exact h.elim
  | succ n hk23 =>
    intro x1 x2 x3 σ h
    unfold L_X11_rewrite_23 at h
    refine zv_iload_n hC dX11_rewrite_23 rfl ?_
    refine zv_iload_n hC dX11_rewrite_24 rfl ?_
    refine zv_icmp_gt (tgt := 50) hC dX11_rewrite_25 (by decide) (fun c => ?_) (fun c => ?_)
    · replace h := h.1 c
      refine zv_iload_n hC dX11_rewrite_50 rfl ?_
      refine zv_istore_n hC dX11_rewrite_51 (by decide) ?_
      obtain ⟨n, h⟩ := h
      exact zv_go (kL_X11_rewrite_52 hC hR  n _ _ _ _ h) ⟨rfl, rfl, rfl, rfl, trivial⟩
    · replace h := h.2 c
      refine zv_aload_n hC dX11_rewrite_28 rfl ?_
      refine zv_getR (j := 61) hC fl_X11_57 dX11_rewrite_29 rfl rfl ?_
      refine zv_iload_n hC dX11_rewrite_32 rfl ?_
      refine zv_iload_n hC dX11_rewrite_33 rfl ?_
      refine zv_iload_n hC dX11_rewrite_34 rfl ?_
      refine zv_icmp_ne (tgt := 42) hC dX11_rewrite_35 (by decide) (fun c => ?_) (fun c => ?_)
      · replace h := h.1 c
        refine zv_iconst (v := 0) hC dX11_rewrite_42 (by decide) ?_
        exact zv_go (k_X11_rewrite_43 hC hR hk23 h) ⟨rfl, rfl, rfl, rfl, trivial⟩
      · replace h := h.2 c
        refine zv_iconst (v := 1) hC dX11_rewrite_38 (by decide) ?_
        refine zv_goto (tgt := 43) hC dX11_rewrite_39 (by decide) ?_
        exact zv_go (k_X11_rewrite_43 hC hR hk23 h) ⟨rfl, rfl, rfl, rfl, trivial⟩
def B_X11_rewrite (Q : Int32 → zv_St → Prop) (x1 : Int32) (σ : zv_St) : Prop :=
  B_X11_isNode (fun r_2 σ_1 => (¬ r_2 = 0 → (∀ σ_3 : zv_St, σ_3 = zv_wi σ_1 45 35 0 → ∃ n23, L_X11_rewrite_23 Q n23 x1 (σ_1.1 45 2) 0 σ_3)) ∧ (r_2 = 0 → (Q (-2) σ_1))) x1 σ
set_option maxRecDepth 20000 in
set_option maxHeartbeats 2000000 in
theorem k_X11_rewrite_0 {G : zv_G} {X : zv_X} {Q : Int32 → zv_St → Prop}  (hC : zv_C G X M_X11_rewrite) (hR : zv_R G X M_X11_rewrite (zv_qi Q))  {x1 : Int32} {σ : zv_St} (h : B_X11_rewrite Q  x1 σ) : zv_V G X M_X11_rewrite 0 [(0, .ref (G.2.2.1 45)), (1, .int x1)] [] σ := by
  unfold B_X11_rewrite at h
  refine zv_aload_n hC dX11_rewrite_0 rfl ?_
  refine zv_iload_n hC dX11_rewrite_1 rfl ?_
  refine zv_callVi (As := [_]) hC dX11_rewrite_2 Y_X11_isNode lk_X11_123 (by decide) rfl rfl rfl (Nat.le_of_ble_eq_true rfl) (ok_X11_isNode G h) ?_
  intro r_2 σ_1 h
  refine zv_if_ne (tgt := 11) hC dX11_rewrite_5 (by decide) (fun c => ?_) (fun c => ?_)
  · replace h := h.1 c
    refine zv_aload_n hC dX11_rewrite_11 rfl ?_
    refine zv_getI hC fl_X11_107 dX11_rewrite_12 rfl rfl ?_
    refine zv_istore_n hC dX11_rewrite_15 (by decide) ?_
    refine zv_aload_n hC dX11_rewrite_16 rfl ?_
    refine zv_iconst (v := 0) hC dX11_rewrite_17 (by decide) ?_
    refine zv_putI hC fp_X11_186 dX11_rewrite_18 rfl rfl rfl rfl ?_
    replace h := h _ rfl
    refine zv_iconst (v := 0) hC dX11_rewrite_21 (by decide) ?_
    refine zv_istore_n hC dX11_rewrite_22 (by decide) ?_
    obtain ⟨n, h⟩ := h
    exact zv_go (kL_X11_rewrite_23 hC hR  n _ _ _ _ h) ⟨rfl, rfl, rfl, rfl, trivial⟩
  · replace h := h.2 c
    refine zv_bipush (v := (-2)) hC dX11_rewrite_8 (by decide) ?_
    exact (hR _ _ _).1 _ rfl dX11_rewrite_10 ⟨_, rfl, h⟩
theorem ok_X11_rewrite (G : zv_G) {Q : Int32 → zv_St → Prop} {x1 : Int32} {σ : zv_St} (h : B_X11_rewrite Q x1 σ) : zv_OK G M_X11_rewrite yX11_rewrite [.ref (G.2.2.1 45), .int x1] σ (zv_qi Q) := zv_ok G _ _ _ _ _ (by decide +kernel) rfl (Nat.le_of_ble_eq_true rfl) (fun X hC hR => zv_go (k_X11_rewrite_0 hC hR h) ⟨rfl, rfl, trivial⟩)
