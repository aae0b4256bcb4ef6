-- X11_mayAll
def B_X11_mayAll_364 (Q : zv_St → Prop) (kk2 : Int32 → Int32 → Int32 → zv_St → Prop) (x1 : Int32) (x2 : Int32) (x3 : Int32) (σ : zv_St) : Prop :=
  kk2 x1 x2 (x3 + 1) σ
set_option maxRecDepth 20000 in
set_option maxHeartbeats 2000000 in
theorem k_X11_mayAll_364 {G : zv_G} {X : zv_X} {Q : zv_St → Prop} {kk2 : Int32 → Int32 → Int32 → zv_St → Prop} (hC : zv_C G X M_X11_mayAll) (hR : zv_R G X M_X11_mayAll (zv_qv Q)) (hk2 : ∀ (x1 : Int32) (x2 : Int32) (x3 : Int32) (σ : zv_St), kk2 x1 x2 x3 σ → zv_V G X M_X11_mayAll 2 [(0, .ref (G.2.2.1 45)), (1, .int x1), (2, .int x2), (3, .int x3)] [] σ) {x1 : Int32} {x2 : Int32} {x3 : Int32} {σ : zv_St} (h : B_X11_mayAll_364 Q kk2 x1 x2 x3 σ) : zv_V G X M_X11_mayAll 364 [(0, .ref (G.2.2.1 45)), (1, .int x1), (2, .int x2), (3, .int x3)] [] σ := by
  unfold B_X11_mayAll_364 at h
  refine zv_iinc (v := 1) hC dX11_mayAll_364 rfl (by decide) (by decide) ?_
  refine zv_goto (tgt := 2) hC dX11_mayAll_367 (by decide) ?_
  exact zv_go (hk2 _ _ _ _ h) ⟨rfl, rfl, rfl, rfl, trivial⟩
def B_X11_mayAll_272 (Q : zv_St → Prop) (kk2 : Int32 → Int32 → Int32 → zv_St → Prop) (kk182 : Int32 → Int32 → Int32 → Int32 → zv_St → Prop) (x1 : Int32) (x2 : Int32) (x3 : Int32) (x5 : Int32) (y1 : Int32) (y2 : Int32) (σ : zv_St) : Prop :=
  vp_in y1 80 ∧ ∀ σ_1 : zv_St, σ_1 = zv_wi σ 64 y1.toNatClampNeg (vp_nar .boolean y2) → kk182 x1 x2 x3 (x5 + 1) σ_1
set_option maxRecDepth 20000 in
set_option maxHeartbeats 2000000 in
theorem k_X11_mayAll_272 {G : zv_G} {X : zv_X} {Q : zv_St → Prop} {kk2 : Int32 → Int32 → Int32 → zv_St → Prop} {kk182 : Int32 → Int32 → Int32 → Int32 → zv_St → Prop} (hC : zv_C G X M_X11_mayAll) (hR : zv_R G X M_X11_mayAll (zv_qv Q)) (hk2 : ∀ (x1 : Int32) (x2 : Int32) (x3 : Int32) (σ : zv_St), kk2 x1 x2 x3 σ → zv_V G X M_X11_mayAll 2 [(0, .ref (G.2.2.1 45)), (1, .int x1), (2, .int x2), (3, .int x3)] [] σ) (hk182 : ∀ (x1 : Int32) (x2 : Int32) (x3 : Int32) (x5 : Int32) (σ : zv_St), kk182 x1 x2 x3 x5 σ → zv_V G X M_X11_mayAll 182 [(0, .ref (G.2.2.1 45)), (1, .int x1), (2, .int x2), (3, .int x3), (5, .int x5)] [] σ) {x1 : Int32} {x2 : Int32} {x3 : Int32} {x5 : Int32} {y1 : Int32} {y2 : Int32} {σ : zv_St} (h : B_X11_mayAll_272 Q kk2 kk182 x1 x2 x3 x5 y1 y2 σ) : zv_V G X M_X11_mayAll 272 [(0, .ref (G.2.2.1 45)), (1, .int x1), (2, .int x2), (3, .int x3), (5, .int x5)] [.int y2, .int y1, .ref (G.2.2.1 64)] σ := by
  unfold B_X11_mayAll_272 at h
  refine zv_zast hC dX11_mayAll_272 rfl h.1 ?_
  replace h := h.2 _ rfl
  refine zv_iinc (v := 1) hC dX11_mayAll_273 rfl (by decide) (by decide) ?_
  refine zv_goto (tgt := 182) hC dX11_mayAll_276 (by decide) ?_
  exact zv_go (hk182 _ _ _ _ _ h) ⟨rfl, rfl, rfl, rfl, rfl, trivial⟩
def B_X11_mayAll_267 (Q : zv_St → Prop) (kk2 : Int32 → Int32 → Int32 → zv_St → Prop) (kk182 : Int32 → Int32 → Int32 → Int32 → zv_St → Prop) (x1 : Int32) (x2 : Int32) (x3 : Int32) (x5 : Int32) (y1 : Int32) (σ : zv_St) : Prop :=
  B_X11_mayAll_272 Q kk2 kk182 x1 x2 x3 x5 y1 1 σ
set_option maxRecDepth 20000 in
set_option maxHeartbeats 2000000 in
theorem k_X11_mayAll_267 {G : zv_G} {X : zv_X} {Q : zv_St → Prop} {kk2 : Int32 → Int32 → Int32 → zv_St → Prop} {kk182 : Int32 → Int32 → Int32 → Int32 → zv_St → Prop} (hC : zv_C G X M_X11_mayAll) (hR : zv_R G X M_X11_mayAll (zv_qv Q)) (hk2 : ∀ (x1 : Int32) (x2 : Int32) (x3 : Int32) (σ : zv_St), kk2 x1 x2 x3 σ → zv_V G X M_X11_mayAll 2 [(0, .ref (G.2.2.1 45)), (1, .int x1), (2, .int x2), (3, .int x3)] [] σ) (hk182 : ∀ (x1 : Int32) (x2 : Int32) (x3 : Int32) (x5 : Int32) (σ : zv_St), kk182 x1 x2 x3 x5 σ → zv_V G X M_X11_mayAll 182 [(0, .ref (G.2.2.1 45)), (1, .int x1), (2, .int x2), (3, .int x3), (5, .int x5)] [] σ) {x1 : Int32} {x2 : Int32} {x3 : Int32} {x5 : Int32} {y1 : Int32} {σ : zv_St} (h : B_X11_mayAll_267 Q kk2 kk182 x1 x2 x3 x5 y1 σ) : zv_V G X M_X11_mayAll 267 [(0, .ref (G.2.2.1 45)), (1, .int x1), (2, .int x2), (3, .int x3), (5, .int x5)] [.int y1, .ref (G.2.2.1 64)] σ := by
  unfold B_X11_mayAll_267 at h
  refine zv_iconst (v := 1) hC dX11_mayAll_267 (by decide) ?_
  refine zv_goto (tgt := 272) hC dX11_mayAll_268 (by decide) ?_
  exact zv_go (k_X11_mayAll_272 hC hR hk2 hk182 h) ⟨rfl, rfl, rfl, rfl, rfl, trivial⟩
def B_X11_mayAll_232 (Q : zv_St → Prop) (kk2 : Int32 → Int32 → Int32 → zv_St → Prop) (kk182 : Int32 → Int32 → Int32 → Int32 → zv_St → Prop) (x1 : Int32) (x2 : Int32) (x3 : Int32) (x5 : Int32) (y1 : Int32) (y2 : Int32) (σ : zv_St) : Prop :=
  vp_in y1 80 ∧ ∀ σ_1 : zv_St, σ_1 = zv_wi σ 63 y1.toNatClampNeg (vp_nar .boolean y2) → vp_in x3 80 ∧ (¬ (σ_1.1 64 x3.toNatClampNeg) = 0 → (B_X11_mayAll_267 Q kk2 kk182 x1 x2 x3 x5 x3 σ_1)) ∧ ((σ_1.1 64 x3.toNatClampNeg) = 0 → (vp_in ((8 * x3) + x5) 640 ∧ vp_in (σ_1.1 53 ((8 * x3) + x5).toNatClampNeg) 80 ∧ ((σ_1.1 64 (σ_1.1 53 ((8 * x3) + x5).toNatClampNeg).toNatClampNeg) = 0 → (B_X11_mayAll_272 Q kk2 kk182 x1 x2 x3 x5 x3 0 σ_1)) ∧ (¬ (σ_1.1 64 (σ_1.1 53 ((8 * x3) + x5).toNatClampNeg).toNatClampNeg) = 0 → (B_X11_mayAll_267 Q kk2 kk182 x1 x2 x3 x5 x3 σ_1))))
set_option maxRecDepth 20000 in
set_option maxHeartbeats 2000000 in
theorem k_X11_mayAll_232 {G : zv_G} {X : zv_X} {Q : zv_St → Prop} {kk2 : Int32 → Int32 → Int32 → zv_St → Prop} {kk182 : Int32 → Int32 → Int32 → Int32 → zv_St → Prop} (hC : zv_C G X M_X11_mayAll) (hR : zv_R G X M_X11_mayAll (zv_qv Q)) (hk2 : ∀ (x1 : Int32) (x2 : Int32) (x3 : Int32) (σ : zv_St), kk2 x1 x2 x3 σ → zv_V G X M_X11_mayAll 2 [(0, .ref (G.2.2.1 45)), (1, .int x1), (2, .int x2), (3, .int x3)] [] σ) (hk182 : ∀ (x1 : Int32) (x2 : Int32) (x3 : Int32) (x5 : Int32) (σ : zv_St), kk182 x1 x2 x3 x5 σ → zv_V G X M_X11_mayAll 182 [(0, .ref (G.2.2.1 45)), (1, .int x1), (2, .int x2), (3, .int x3), (5, .int x5)] [] σ) {x1 : Int32} {x2 : Int32} {x3 : Int32} {x5 : Int32} {y1 : Int32} {y2 : Int32} {σ : zv_St} (h : B_X11_mayAll_232 Q kk2 kk182 x1 x2 x3 x5 y1 y2 σ) : zv_V G X M_X11_mayAll 232 [(0, .ref (G.2.2.1 45)), (1, .int x1), (2, .int x2), (3, .int x3), (5, .int x5)] [.int y2, .int y1, .ref (G.2.2.1 63)] σ := by
  unfold B_X11_mayAll_232 at h
  refine zv_zast hC dX11_mayAll_232 rfl h.1 ?_
  replace h := h.2 _ rfl
  refine zv_aload_n hC dX11_mayAll_233 rfl ?_
  refine zv_getR (j := 64) hC fl_X11_66 dX11_mayAll_234 rfl rfl ?_
  refine zv_iload_n hC dX11_mayAll_237 rfl ?_
  refine zv_aload_n hC dX11_mayAll_238 rfl ?_
  refine zv_getR (j := 64) hC fl_X11_66 dX11_mayAll_239 rfl rfl ?_
  refine zv_iload_n hC dX11_mayAll_242 rfl ?_
  refine zv_zald hC dX11_mayAll_243 rfl h.1 ?_
  replace h := h.2
  refine zv_if_ne (tgt := 267) hC dX11_mayAll_244 (by decide) (fun c => ?_) (fun c => ?_)
  · replace h := h.1 c
    exact zv_go (k_X11_mayAll_267 hC hR hk2 hk182 h) ⟨rfl, rfl, rfl, rfl, rfl, trivial⟩
  · replace h := h.2 c
    refine zv_aload_n hC dX11_mayAll_247 rfl ?_
    refine zv_getR (j := 64) hC fl_X11_66 dX11_mayAll_248 rfl rfl ?_
    refine zv_aload_n hC dX11_mayAll_251 rfl ?_
    refine zv_getR (j := 53) hC fl_X11_31 dX11_mayAll_252 rfl rfl ?_
    refine zv_bipush (v := 8) hC dX11_mayAll_255 (by decide) ?_
    refine zv_iload_n hC dX11_mayAll_257 rfl ?_
    refine zv_imul hC dX11_mayAll_258 ?_
    refine zv_iload hC dX11_mayAll_259 rfl ?_
    refine zv_iadd hC dX11_mayAll_261 ?_
    refine zv_iald hC dX11_mayAll_262 rfl h.1 ?_
    replace h := h.2
    refine zv_zald hC dX11_mayAll_263 rfl h.1 ?_
    replace h := h.2
    refine zv_if_eq (tgt := 271) hC dX11_mayAll_264 (by decide) (fun c => ?_) (fun c => ?_)
    · replace h := h.1 c
      refine zv_iconst (v := 0) hC dX11_mayAll_271 (by decide) ?_
      exact zv_go (k_X11_mayAll_272 hC hR hk2 hk182 h) ⟨rfl, rfl, rfl, rfl, rfl, trivial⟩
    · replace h := h.2 c
      exact zv_go (k_X11_mayAll_267 hC hR hk2 hk182 h) ⟨rfl, rfl, rfl, rfl, rfl, trivial⟩
def B_X11_mayAll_227 (Q : zv_St → Prop) (kk2 : Int32 → Int32 → Int32 → zv_St → Prop) (kk182 : Int32 → Int32 → Int32 → Int32 → zv_St → Prop) (x1 : Int32) (x2 : Int32) (x3 : Int32) (x5 : Int32) (y1 : Int32) (σ : zv_St) : Prop :=
  B_X11_mayAll_232 Q kk2 kk182 x1 x2 x3 x5 y1 1 σ
set_option maxRecDepth 20000 in
set_option maxHeartbeats 2000000 in
theorem k_X11_mayAll_227 {G : zv_G} {X : zv_X} {Q : zv_St → Prop} {kk2 : Int32 → Int32 → Int32 → zv_St → Prop} {kk182 : Int32 → Int32 → Int32 → Int32 → zv_St → Prop} (hC : zv_C G X M_X11_mayAll) (hR : zv_R G X M_X11_mayAll (zv_qv Q)) (hk2 : ∀ (x1 : Int32) (x2 : Int32) (x3 : Int32) (σ : zv_St), kk2 x1 x2 x3 σ → zv_V G X M_X11_mayAll 2 [(0, .ref (G.2.2.1 45)), (1, .int x1), (2, .int x2), (3, .int x3)] [] σ) (hk182 : ∀ (x1 : Int32) (x2 : Int32) (x3 : Int32) (x5 : Int32) (σ : zv_St), kk182 x1 x2 x3 x5 σ → zv_V G X M_X11_mayAll 182 [(0, .ref (G.2.2.1 45)), (1, .int x1), (2, .int x2), (3, .int x3), (5, .int x5)] [] σ) {x1 : Int32} {x2 : Int32} {x3 : Int32} {x5 : Int32} {y1 : Int32} {σ : zv_St} (h : B_X11_mayAll_227 Q kk2 kk182 x1 x2 x3 x5 y1 σ) : zv_V G X M_X11_mayAll 227 [(0, .ref (G.2.2.1 45)), (1, .int x1), (2, .int x2), (3, .int x3), (5, .int x5)] [.int y1, .ref (G.2.2.1 63)] σ := by
  unfold B_X11_mayAll_227 at h
  refine zv_iconst (v := 1) hC dX11_mayAll_227 (by decide) ?_
  refine zv_goto (tgt := 232) hC dX11_mayAll_228 (by decide) ?_
  exact zv_go (k_X11_mayAll_232 hC hR hk2 hk182 h) ⟨rfl, rfl, rfl, rfl, rfl, trivial⟩
def L_X11_mayAll_182 (Q : zv_St → Prop) (kk2 : Int32 → Int32 → Int32 → zv_St → Prop) : Nat → (Int32 → Int32 → Int32 → Int32 → zv_St → Prop)
  | 0 => fun _ _ _ _ _ => False
  | u + 1 => fun x1 x2 x3 x5 σ => 
    vp_in x3 80 ∧ ((σ.1 51 x3.toNatClampNeg) ≤ x5 → (B_X11_mayAll_364 Q kk2 x1 x2 x3 σ)) ∧ (¬ (σ.1 51 x3.toNatClampNeg) ≤ x5 → (vp_in x3 80 ∧ (¬ (σ.1 63 x3.toNatClampNeg) = 0 → (B_X11_mayAll_227 Q kk2 (L_X11_mayAll_182 Q kk2 u) x1 x2 x3 x5 x3 σ)) ∧ ((σ.1 63 x3.toNatClampNeg) = 0 → (vp_in ((8 * x3) + x5) 640 ∧ vp_in (σ.1 53 ((8 * x3) + x5).toNatClampNeg) 80 ∧ ((σ.1 63 (σ.1 53 ((8 * x3) + x5).toNatClampNeg).toNatClampNeg) = 0 → (B_X11_mayAll_232 Q kk2 (L_X11_mayAll_182 Q kk2 u) x1 x2 x3 x5 x3 0 σ)) ∧ (¬ (σ.1 63 (σ.1 53 ((8 * x3) + x5).toNatClampNeg).toNatClampNeg) = 0 → (B_X11_mayAll_227 Q kk2 (L_X11_mayAll_182 Q kk2 u) x1 x2 x3 x5 x3 σ))))))
set_option maxRecDepth 20000 in
set_option maxHeartbeats 2000000 in
theorem kL_X11_mayAll_182 {G : zv_G} {X : zv_X} {Q : zv_St → Prop} {kk2 : Int32 → Int32 → Int32 → zv_St → Prop} (hC : zv_C G X M_X11_mayAll) (hR : zv_R G X M_X11_mayAll (zv_qv Q)) (hk2 : ∀ (x1 : Int32) (x2 : Int32) (x3 : Int32) (σ : zv_St), kk2 x1 x2 x3 σ → zv_V G X M_X11_mayAll 2 [(0, .ref (G.2.2.1 45)), (1, .int x1), (2, .int x2), (3, .int x3)] [] σ) : ∀ (n : Nat) (x1 : Int32) (x2 : Int32) (x3 : Int32) (x5 : Int32) (σ : zv_St), L_X11_mayAll_182 Q kk2 n x1 x2 x3 x5 σ → zv_V G X M_X11_mayAll 182 [(0, .ref (G.2.2.1 45)), (1, .int x1), (2, .int x2), (3, .int x3), (5, .int x5)] [] σ := by
  intro n
  induction n with
  | zero => intro x1 x2 x3 x5 σ h; exact h.elim
  | succ n hk182 =>
    intro x1 x2 x3 x5 σ h
    unfold L_X11_mayAll_182 at h
    refine zv_iload hC dX11_mayAll_182 rfl ?_
    refine zv_aload_n hC dX11_mayAll_184 rfl ?_
    refine zv_getR (j := 51) hC fl_X11_25 dX11_mayAll_185 rfl rfl ?_
    refine zv_iload_n hC dX11_mayAll_188 rfl ?_
    refine zv_iald hC dX11_mayAll_189 rfl h.1 ?_
    replace h := h.2
    refine zv_icmp_ge (tgt := 279) hC dX11_mayAll_190 (by decide) (fun c => ?_) (fun c => ?_)
    · replace h := h.1 c
      refine zv_goto (tgt := 364) hC dX11_mayAll_279 (by decide) ?_
      exact zv_go (k_X11_mayAll_364 hC hR hk2 h) ⟨rfl, rfl, rfl, rfl, trivial⟩
    · replace h := h.2 c
      refine zv_aload_n hC dX11_mayAll_193 rfl ?_
      refine zv_getR (j := 63) hC fl_X11_63 dX11_mayAll_194 rfl rfl ?_
      refine zv_iload_n hC dX11_mayAll_197 rfl ?_
      refine zv_aload_n hC dX11_mayAll_198 rfl ?_
      refine zv_getR (j := 63) hC fl_X11_63 dX11_mayAll_199 rfl rfl ?_
      refine zv_iload_n hC dX11_mayAll_202 rfl ?_
      refine zv_zald hC dX11_mayAll_203 rfl h.1 ?_
      replace h := h.2
      refine zv_if_ne (tgt := 227) hC dX11_mayAll_204 (by decide) (fun c => ?_) (fun c => ?_)
      · replace h := h.1 c
        exact zv_go (k_X11_mayAll_227 hC hR hk2 hk182 h) ⟨rfl, rfl, rfl, rfl, rfl, trivial⟩
      · replace h := h.2 c
        refine zv_aload_n hC dX11_mayAll_207 rfl ?_
        refine zv_getR (j := 63) hC fl_X11_63 dX11_mayAll_208 rfl rfl ?_
        refine zv_aload_n hC dX11_mayAll_211 rfl ?_
        refine zv_getR (j := 53) hC fl_X11_31 dX11_mayAll_212 rfl rfl ?_
        refine zv_bipush (v := 8) hC dX11_mayAll_215 (by decide) ?_
        refine zv_iload_n hC dX11_mayAll_217 rfl ?_
        refine zv_imul hC dX11_mayAll_218 ?_
        refine zv_iload hC dX11_mayAll_219 rfl ?_
        refine zv_iadd hC dX11_mayAll_221 ?_
        refine zv_iald hC dX11_mayAll_222 rfl h.1 ?_
        replace h := h.2
        refine zv_zald hC dX11_mayAll_223 rfl h.1 ?_
        replace h := h.2
        refine zv_if_eq (tgt := 231) hC dX11_mayAll_224 (by decide) (fun c => ?_) (fun c => ?_)
        · replace h := h.1 c
          refine zv_iconst (v := 0) hC dX11_mayAll_231 (by decide) ?_
          exact zv_go (k_X11_mayAll_232 hC hR hk2 hk182 h) ⟨rfl, rfl, rfl, rfl, rfl, trivial⟩
        · replace h := h.2 c
          exact zv_go (k_X11_mayAll_227 hC hR hk2 hk182 h) ⟨rfl, rfl, rfl, rfl, rfl, trivial⟩
def B_X11_mayAll_363 (Q : zv_St → Prop) (kk2 : Int32 → Int32 → Int32 → zv_St → Prop) (x1 : Int32) (x2 : Int32) (x3 : Int32) (y1 : Int32) (y2 : Int32) (σ : zv_St) : Prop :=
  vp_in y1 80 ∧ ∀ σ_1 : zv_St, σ_1 = zv_wi σ 64 y1.toNatClampNeg (vp_nar .boolean y2) → B_X11_mayAll_364 Q kk2 x1 x2 x3 σ_1
set_option maxRecDepth 20000 in
set_option maxHeartbeats 2000000 in
theorem k_X11_mayAll_363 {G : zv_G} {X : zv_X} {Q : zv_St → Prop} {kk2 : Int32 → Int32 → Int32 → zv_St → Prop} (hC : zv_C G X M_X11_mayAll) (hR : zv_R G X M_X11_mayAll (zv_qv Q)) (hk2 : ∀ (x1 : Int32) (x2 : Int32) (x3 : Int32) (σ : zv_St), kk2 x1 x2 x3 σ → zv_V G X M_X11_mayAll 2 [(0, .ref (G.2.2.1 45)), (1, .int x1), (2, .int x2), (3, .int x3)] [] σ) {x1 : Int32} {x2 : Int32} {x3 : Int32} {y1 : Int32} {y2 : Int32} {σ : zv_St} (h : B_X11_mayAll_363 Q kk2 x1 x2 x3 y1 y2 σ) : zv_V G X M_X11_mayAll 363 [(0, .ref (G.2.2.1 45)), (1, .int x1), (2, .int x2), (3, .int x3)] [.int y2, .int y1, .ref (G.2.2.1 64)] σ := by
  unfold B_X11_mayAll_363 at h
  refine zv_zast hC dX11_mayAll_363 rfl h.1 ?_
  replace h := h.2 _ rfl
  exact zv_go (k_X11_mayAll_364 hC hR hk2 h) ⟨rfl, rfl, rfl, rfl, trivial⟩
def B_X11_mayAll_362 (Q : zv_St → Prop) (kk2 : Int32 → Int32 → Int32 → zv_St → Prop) (x1 : Int32) (x2 : Int32) (x3 : Int32) (y1 : Int32) (σ : zv_St) : Prop :=
  B_X11_mayAll_363 Q kk2 x1 x2 x3 y1 0 σ
set_option maxRecDepth 20000 in
set_option maxHeartbeats 2000000 in
theorem k_X11_mayAll_362 {G : zv_G} {X : zv_X} {Q : zv_St → Prop} {kk2 : Int32 → Int32 → Int32 → zv_St → Prop} (hC : zv_C G X M_X11_mayAll) (hR : zv_R G X M_X11_mayAll (zv_qv Q)) (hk2 : ∀ (x1 : Int32) (x2 : Int32) (x3 : Int32) (σ : zv_St), kk2 x1 x2 x3 σ → zv_V G X M_X11_mayAll 2 [(0, .ref (G.2.2.1 45)), (1, .int x1), (2, .int x2), (3, .int x3)] [] σ) {x1 : Int32} {x2 : Int32} {x3 : Int32} {y1 : Int32} {σ : zv_St} (h : B_X11_mayAll_362 Q kk2 x1 x2 x3 y1 σ) : zv_V G X M_X11_mayAll 362 [(0, .ref (G.2.2.1 45)), (1, .int x1), (2, .int x2), (3, .int x3)] [.int y1, .ref (G.2.2.1 64)] σ := by
  unfold B_X11_mayAll_362 at h
  refine zv_iconst (v := 0) hC dX11_mayAll_362 (by decide) ?_
  exact zv_go (k_X11_mayAll_363 hC hR hk2 h) ⟨rfl, rfl, rfl, rfl, trivial⟩
def B_X11_mayAll_312 (Q : zv_St → Prop) (kk2 : Int32 → Int32 → Int32 → zv_St → Prop) (x1 : Int32) (x2 : Int32) (x3 : Int32) (σ : zv_St) : Prop :=
  vp_in x3 80 ∧ vp_in (σ.1 49 x3.toNatClampNeg) 80 ∧ vp_in x3 80 ∧ ∀ σ_1 : zv_St, σ_1 = zv_wi σ 63 x3.toNatClampNeg (vp_nar .boolean (σ.1 63 (σ.1 49 x3.toNatClampNeg).toNatClampNeg)) → vp_in x3 80 ∧ ((σ_1.1 48 x3.toNatClampNeg) = 5 → (B_X11_mayAll_362 Q kk2 x1 x2 x3 x3 σ_1)) ∧ (¬ (σ_1.1 48 x3.toNatClampNeg) = 5 → (vp_in x3 80 ∧ vp_in (σ_1.1 49 x3.toNatClampNeg) 80 ∧ ((σ_1.1 64 (σ_1.1 49 x3.toNatClampNeg).toNatClampNeg) = 0 → (B_X11_mayAll_362 Q kk2 x1 x2 x3 x3 σ_1)) ∧ (¬ (σ_1.1 64 (σ_1.1 49 x3.toNatClampNeg).toNatClampNeg) = 0 → (B_X11_mayAll_363 Q kk2 x1 x2 x3 x3 1 σ_1))))
set_option maxRecDepth 20000 in
set_option maxHeartbeats 2000000 in
theorem k_X11_mayAll_312 {G : zv_G} {X : zv_X} {Q : zv_St → Prop} {kk2 : Int32 → Int32 → Int32 → zv_St → Prop} (hC : zv_C G X M_X11_mayAll) (hR : zv_R G X M_X11_mayAll (zv_qv Q)) (hk2 : ∀ (x1 : Int32) (x2 : Int32) (x3 : Int32) (σ : zv_St), kk2 x1 x2 x3 σ → zv_V G X M_X11_mayAll 2 [(0, .ref (G.2.2.1 45)), (1, .int x1), (2, .int x2), (3, .int x3)] [] σ) {x1 : Int32} {x2 : Int32} {x3 : Int32} {σ : zv_St} (h : B_X11_mayAll_312 Q kk2 x1 x2 x3 σ) : zv_V G X M_X11_mayAll 312 [(0, .ref (G.2.2.1 45)), (1, .int x1), (2, .int x2), (3, .int x3)] [] σ := by
  unfold B_X11_mayAll_312 at h
  refine zv_aload_n hC dX11_mayAll_312 rfl ?_
  refine zv_getR (j := 63) hC fl_X11_63 dX11_mayAll_313 rfl rfl ?_
  refine zv_iload_n hC dX11_mayAll_316 rfl ?_
  refine zv_aload_n hC dX11_mayAll_317 rfl ?_
  refine zv_getR (j := 63) hC fl_X11_63 dX11_mayAll_318 rfl rfl ?_
  refine zv_aload_n hC dX11_mayAll_321 rfl ?_
  refine zv_getR (j := 49) hC fl_X11_19 dX11_mayAll_322 rfl rfl ?_
  refine zv_iload_n hC dX11_mayAll_325 rfl ?_
  refine zv_iald hC dX11_mayAll_326 rfl h.1 ?_
  replace h := h.2
  refine zv_zald hC dX11_mayAll_327 rfl h.1 ?_
  replace h := h.2
  refine zv_zast hC dX11_mayAll_328 rfl h.1 ?_
  replace h := h.2 _ rfl
  refine zv_aload_n hC dX11_mayAll_329 rfl ?_
  refine zv_getR (j := 64) hC fl_X11_66 dX11_mayAll_330 rfl rfl ?_
  refine zv_iload_n hC dX11_mayAll_333 rfl ?_
  refine zv_aload_n hC dX11_mayAll_334 rfl ?_
  refine zv_getR (j := 48) hC fl_X11_16 dX11_mayAll_335 rfl rfl ?_
  refine zv_iload_n hC dX11_mayAll_338 rfl ?_
  refine zv_iald hC dX11_mayAll_339 rfl h.1 ?_
  replace h := h.2
  refine zv_iconst (v := 5) hC dX11_mayAll_340 (by decide) ?_
  refine zv_icmp_eq (tgt := 362) hC dX11_mayAll_341 (by decide) (fun c => ?_) (fun c => ?_)
  · replace h := h.1 c
    exact zv_go (k_X11_mayAll_362 hC hR hk2 h) ⟨rfl, rfl, rfl, rfl, trivial⟩
  · replace h := h.2 c
    refine zv_aload_n hC dX11_mayAll_344 rfl ?_
    refine zv_getR (j := 64) hC fl_X11_66 dX11_mayAll_345 rfl rfl ?_
    refine zv_aload_n hC dX11_mayAll_348 rfl ?_
    refine zv_getR (j := 49) hC fl_X11_19 dX11_mayAll_349 rfl rfl ?_
    refine zv_iload_n hC dX11_mayAll_352 rfl ?_
    refine zv_iald hC dX11_mayAll_353 rfl h.1 ?_
    replace h := h.2
    refine zv_zald hC dX11_mayAll_354 rfl h.1 ?_
    replace h := h.2
    refine zv_if_eq (tgt := 362) hC dX11_mayAll_355 (by decide) (fun c => ?_) (fun c => ?_)
    · replace h := h.1 c
      exact zv_go (k_X11_mayAll_362 hC hR hk2 h) ⟨rfl, rfl, rfl, rfl, trivial⟩
    · replace h := h.2 c
      refine zv_iconst (v := 1) hC dX11_mayAll_358 (by decide) ?_
      refine zv_goto (tgt := 363) hC dX11_mayAll_359 (by decide) ?_
      exact zv_go (k_X11_mayAll_363 hC hR hk2 h) ⟨rfl, rfl, rfl, rfl, trivial⟩
def B_X11_mayAll_116 (Q : zv_St → Prop) (kk2 : Int32 → Int32 → Int32 → zv_St → Prop) (x1 : Int32) (x2 : Int32) (x3 : Int32) (x4 : Int32) (σ : zv_St) : Prop :=
  vp_in x3 80 ∧ ∀ σ_1 : zv_St, σ_1 = zv_wi σ 63 x3.toNatClampNeg (vp_nar .boolean x4) → vp_in x3 80 ∧ ∀ σ_2 : zv_St, σ_2 = zv_wi σ_1 64 x3.toNatClampNeg (vp_nar .boolean x4) → vp_in x3 80 ∧ (¬ (σ_2.1 48 x3.toNatClampNeg) = 2 → (vp_in x3 80 ∧ (¬ (σ_2.1 48 x3.toNatClampNeg) = 3 → (vp_in x3 80 ∧ ((σ_2.1 51 x3.toNatClampNeg) ≤ 0 → (B_X11_mayAll_364 Q kk2 x1 x2 x3 σ_2)) ∧ (¬ (σ_2.1 51 x3.toNatClampNeg) ≤ 0 → (vp_in x3 80 ∧ (¬ (σ_2.1 48 x3.toNatClampNeg) = 6 → (B_X11_mayAll_312 Q kk2 x1 x2 x3 σ_2)) ∧ ((σ_2.1 48 x3.toNatClampNeg) = 6 → (vp_in x3 80 ∧ (¬ (σ_2.1 55 x3.toNatClampNeg) = (-1) → (B_X11_mayAll_364 Q kk2 x1 x2 x3 σ_2)) ∧ ((σ_2.1 55 x3.toNatClampNeg) = (-1) → (B_X11_mayAll_312 Q kk2 x1 x2 x3 σ_2)))))))) ∧ ((σ_2.1 48 x3.toNatClampNeg) = 3 → (∃ n182, L_X11_mayAll_182 Q kk2 n182 x1 x2 x3 0 σ_2)))) ∧ ((σ_2.1 48 x3.toNatClampNeg) = 2 → (B_X11_fits (fun r_4 σ_3 => vp_in x3 80 ∧ ∀ σ_5 : zv_St, σ_5 = zv_wi σ_3 63 x3.toNatClampNeg (vp_nar .boolean r_4) → B_X11_fits (fun r_7 σ_6 => vp_in x3 80 ∧ ∀ σ_8 : zv_St, σ_8 = zv_wi σ_6 64 x3.toNatClampNeg (vp_nar .boolean r_7) → B_X11_mayAll_364 Q kk2 x1 x2 x3 σ_8) x3 1 σ_5) x3 0 σ_2))
set_option maxRecDepth 20000 in
set_option maxHeartbeats 2000000 in
theorem k_X11_mayAll_116 {G : zv_G} {X : zv_X} {Q : zv_St → Prop} {kk2 : Int32 → Int32 → Int32 → zv_St → Prop} (hC : zv_C G X M_X11_mayAll) (hR : zv_R G X M_X11_mayAll (zv_qv Q)) (hk2 : ∀ (x1 : Int32) (x2 : Int32) (x3 : Int32) (σ : zv_St), kk2 x1 x2 x3 σ → zv_V G X M_X11_mayAll 2 [(0, .ref (G.2.2.1 45)), (1, .int x1), (2, .int x2), (3, .int x3)] [] σ) {x1 : Int32} {x2 : Int32} {x3 : Int32} {x4 : Int32} {σ : zv_St} (h : B_X11_mayAll_116 Q kk2 x1 x2 x3 x4 σ) : zv_V G X M_X11_mayAll 116 [(0, .ref (G.2.2.1 45)), (1, .int x1), (2, .int x2), (3, .int x3), (4, .int x4)] [] σ := by
  unfold B_X11_mayAll_116 at h
  refine zv_aload_n hC dX11_mayAll_116 rfl ?_
  refine zv_getR (j := 63) hC fl_X11_63 dX11_mayAll_117 rfl rfl ?_
  refine zv_iload_n hC dX11_mayAll_120 rfl ?_
  refine zv_iload hC dX11_mayAll_121 rfl ?_
  refine zv_zast hC dX11_mayAll_123 rfl h.1 ?_
  replace h := h.2 _ rfl
  refine zv_aload_n hC dX11_mayAll_124 rfl ?_
  refine zv_getR (j := 64) hC fl_X11_66 dX11_mayAll_125 rfl rfl ?_
  refine zv_iload_n hC dX11_mayAll_128 rfl ?_
  refine zv_iload hC dX11_mayAll_129 rfl ?_
  refine zv_zast hC dX11_mayAll_131 rfl h.1 ?_
  replace h := h.2 _ rfl
  refine zv_aload_n hC dX11_mayAll_132 rfl ?_
  refine zv_getR (j := 48) hC fl_X11_16 dX11_mayAll_133 rfl rfl ?_
  refine zv_iload_n hC dX11_mayAll_136 rfl ?_
  refine zv_iald hC dX11_mayAll_137 rfl h.1 ?_
  replace h := h.2
  refine zv_iconst (v := 2) hC dX11_mayAll_138 (by decide) ?_
  refine zv_icmp_ne (tgt := 169) hC dX11_mayAll_139 (by decide) (fun c => ?_) (fun c => ?_)
  · replace h := h.1 c
    refine zv_aload_n hC dX11_mayAll_169 rfl ?_
    refine zv_getR (j := 48) hC fl_X11_16 dX11_mayAll_170 rfl rfl ?_
    refine zv_iload_n hC dX11_mayAll_173 rfl ?_
    refine zv_iald hC dX11_mayAll_174 rfl h.1 ?_
    replace h := h.2
    refine zv_iconst (v := 3) hC dX11_mayAll_175 (by decide) ?_
    refine zv_icmp_ne (tgt := 282) hC dX11_mayAll_176 (by decide) (fun c => ?_) (fun c => ?_)
    · replace h := h.1 c
      refine zv_aload_n hC dX11_mayAll_282 rfl ?_
      refine zv_getR (j := 51) hC fl_X11_25 dX11_mayAll_283 rfl rfl ?_
      refine zv_iload_n hC dX11_mayAll_286 rfl ?_
      refine zv_iald hC dX11_mayAll_287 rfl h.1 ?_
      replace h := h.2
      refine zv_if_le (tgt := 364) hC dX11_mayAll_288 (by decide) (fun c => ?_) (fun c => ?_)
      · replace h := h.1 c
        exact zv_go (k_X11_mayAll_364 hC hR hk2 h) ⟨rfl, rfl, rfl, rfl, trivial⟩
      · replace h := h.2 c
        refine zv_aload_n hC dX11_mayAll_291 rfl ?_
        refine zv_getR (j := 48) hC fl_X11_16 dX11_mayAll_292 rfl rfl ?_
        refine zv_iload_n hC dX11_mayAll_295 rfl ?_
        refine zv_iald hC dX11_mayAll_296 rfl h.1 ?_
        replace h := h.2
        refine zv_bipush (v := 6) hC dX11_mayAll_297 (by decide) ?_
        refine zv_icmp_ne (tgt := 312) hC dX11_mayAll_299 (by decide) (fun c => ?_) (fun c => ?_)
        · replace h := h.1 c
          exact zv_go (k_X11_mayAll_312 hC hR hk2 h) ⟨rfl, rfl, rfl, rfl, trivial⟩
        · replace h := h.2 c
          refine zv_aload_n hC dX11_mayAll_302 rfl ?_
          refine zv_getR (j := 55) hC fl_X11_37 dX11_mayAll_303 rfl rfl ?_
          refine zv_iload_n hC dX11_mayAll_306 rfl ?_
          refine zv_iald hC dX11_mayAll_307 rfl h.1 ?_
          replace h := h.2
          refine zv_iconst (v := (-1)) hC dX11_mayAll_308 (by decide) ?_
          refine zv_icmp_ne (tgt := 364) hC dX11_mayAll_309 (by decide) (fun c => ?_) (fun c => ?_)
          · replace h := h.1 c
            exact zv_go (k_X11_mayAll_364 hC hR hk2 h) ⟨rfl, rfl, rfl, rfl, trivial⟩
          · replace h := h.2 c
            exact zv_go (k_X11_mayAll_312 hC hR hk2 h) ⟨rfl, rfl, rfl, rfl, trivial⟩
    · replace h := h.2 c
      refine zv_iconst (v := 0) hC dX11_mayAll_179 (by decide) ?_
      refine zv_istore hC dX11_mayAll_180 (by decide) ?_
      obtain ⟨n, h⟩ := h
      exact zv_go (kL_X11_mayAll_182 hC hR hk2 n _ _ _ _ _ h) ⟨rfl, rfl, rfl, rfl, rfl, trivial⟩
  · replace h := h.2 c
    refine zv_aload_n hC dX11_mayAll_142 rfl ?_
    refine zv_getR (j := 63) hC fl_X11_63 dX11_mayAll_143 rfl rfl ?_
    refine zv_iload_n hC dX11_mayAll_146 rfl ?_
    refine zv_aload_n hC dX11_mayAll_147 rfl ?_
    refine zv_iload_n hC dX11_mayAll_148 rfl ?_
    refine zv_iconst (v := 0) hC dX11_mayAll_149 (by decide) ?_
    refine zv_callVi (As := [_, _]) hC dX11_mayAll_150 Y_X11_fits lk_X11_141 (by decide) rfl rfl rfl (Nat.le_of_ble_eq_true rfl) (ok_X11_fits G h) ?_
    intro r_4 σ_3 h
    refine zv_zast hC dX11_mayAll_153 rfl h.1 ?_
    replace h := h.2 _ rfl
    refine zv_aload_n hC dX11_mayAll_154 rfl ?_
    refine zv_getR (j := 64) hC fl_X11_66 dX11_mayAll_155 rfl rfl ?_
    refine zv_iload_n hC dX11_mayAll_158 rfl ?_
    refine zv_aload_n hC dX11_mayAll_159 rfl ?_
    refine zv_iload_n hC dX11_mayAll_160 rfl ?_
    refine zv_iconst (v := 1) hC dX11_mayAll_161 (by decide) ?_
    refine zv_callVi (As := [_, _]) hC dX11_mayAll_162 Y_X11_fits lk_X11_141 (by decide) rfl rfl rfl (Nat.le_of_ble_eq_true rfl) (ok_X11_fits G h) ?_
    intro r_7 σ_6 h
    refine zv_zast hC dX11_mayAll_165 rfl h.1 ?_
    replace h := h.2 _ rfl
    refine zv_goto (tgt := 364) hC dX11_mayAll_166 (by decide) ?_
    exact zv_go (k_X11_mayAll_364 hC hR hk2 h) ⟨rfl, rfl, rfl, rfl, trivial⟩
def B_X11_mayAll_79 (Q : zv_St → Prop) (kk2 : Int32 → Int32 → Int32 → zv_St → Prop) (x1 : Int32) (x2 : Int32) (x3 : Int32) (y0 : Int32) (σ : zv_St) : Prop :=
  vp_in x3 80 ∧ (¬ (σ.1 48 x3.toNatClampNeg) = 6 → (B_X11_mayAll_116 Q kk2 x1 x2 x3 y0 σ)) ∧ ((σ.1 48 x3.toNatClampNeg) = 6 → (vp_in x3 80 ∧ ((σ.1 55 x3.toNatClampNeg) = (-1) → (B_X11_mayAll_116 Q kk2 x1 x2 x3 y0 σ)) ∧ (¬ (σ.1 55 x3.toNatClampNeg) = (-1) → (vp_in ((512 * x3) + x1) 40960 ∧ ∀ v_1 : Int32, v_1 = (σ.1 56 ((512 * x3) + x1).toNatClampNeg) → B_X11_mayAll_116 Q kk2 x1 x2 x3 v_1 σ))))
set_option maxRecDepth 20000 in
set_option maxHeartbeats 2000000 in
theorem k_X11_mayAll_79 {G : zv_G} {X : zv_X} {Q : zv_St → Prop} {kk2 : Int32 → Int32 → Int32 → zv_St → Prop} (hC : zv_C G X M_X11_mayAll) (hR : zv_R G X M_X11_mayAll (zv_qv Q)) (hk2 : ∀ (x1 : Int32) (x2 : Int32) (x3 : Int32) (σ : zv_St), kk2 x1 x2 x3 σ → zv_V G X M_X11_mayAll 2 [(0, .ref (G.2.2.1 45)), (1, .int x1), (2, .int x2), (3, .int x3)] [] σ) {x1 : Int32} {x2 : Int32} {x3 : Int32} {y0 : Int32} {σ : zv_St} (h : B_X11_mayAll_79 Q kk2 x1 x2 x3 y0 σ) : zv_V G X M_X11_mayAll 79 [(0, .ref (G.2.2.1 45)), (1, .int x1), (2, .int x2), (3, .int x3)] [.int y0] σ := by
  unfold B_X11_mayAll_79 at h
  refine zv_istore hC dX11_mayAll_79 (by decide) ?_
  refine zv_aload_n hC dX11_mayAll_81 rfl ?_
  refine zv_getR (j := 48) hC fl_X11_16 dX11_mayAll_82 rfl rfl ?_
  refine zv_iload_n hC dX11_mayAll_85 rfl ?_
  refine zv_iald hC dX11_mayAll_86 rfl h.1 ?_
  replace h := h.2
  refine zv_bipush (v := 6) hC dX11_mayAll_87 (by decide) ?_
  refine zv_icmp_ne (tgt := 116) hC dX11_mayAll_89 (by decide) (fun c => ?_) (fun c => ?_)
  · replace h := h.1 c
    exact zv_go (k_X11_mayAll_116 hC hR hk2 h) ⟨rfl, rfl, rfl, rfl, rfl, trivial⟩
  · replace h := h.2 c
    refine zv_aload_n hC dX11_mayAll_92 rfl ?_
    refine zv_getR (j := 55) hC fl_X11_37 dX11_mayAll_93 rfl rfl ?_
    refine zv_iload_n hC dX11_mayAll_96 rfl ?_
    refine zv_iald hC dX11_mayAll_97 rfl h.1 ?_
    replace h := h.2
    refine zv_iconst (v := (-1)) hC dX11_mayAll_98 (by decide) ?_
    refine zv_icmp_eq (tgt := 116) hC dX11_mayAll_99 (by decide) (fun c => ?_) (fun c => ?_)
    · replace h := h.1 c
      exact zv_go (k_X11_mayAll_116 hC hR hk2 h) ⟨rfl, rfl, rfl, rfl, rfl, trivial⟩
    · replace h := h.2 c
      refine zv_aload_n hC dX11_mayAll_102 rfl ?_
      refine zv_getR (j := 56) hC fl_X11_41 dX11_mayAll_103 rfl rfl ?_
      refine zv_sipush (v := 512) hC dX11_mayAll_106 (by decide) ?_
      refine zv_iload_n hC dX11_mayAll_109 rfl ?_
      refine zv_imul hC dX11_mayAll_110 ?_
      refine zv_iload_n hC dX11_mayAll_111 rfl ?_
      refine zv_iadd hC dX11_mayAll_112 ?_
      refine zv_zald hC dX11_mayAll_113 rfl h.1 ?_
      replace h := h.2
      replace h := h _ rfl
      refine zv_istore hC dX11_mayAll_114 (by decide) ?_
      exact zv_go (k_X11_mayAll_116 hC hR hk2 h) ⟨rfl, rfl, rfl, rfl, rfl, trivial⟩
def B_X11_mayAll_78 (Q : zv_St → Prop) (kk2 : Int32 → Int32 → Int32 → zv_St → Prop) (x1 : Int32) (x2 : Int32) (x3 : Int32) (σ : zv_St) : Prop :=
  B_X11_mayAll_79 Q kk2 x1 x2 x3 0 σ
set_option maxRecDepth 20000 in
set_option maxHeartbeats 2000000 in
theorem k_X11_mayAll_78 {G : zv_G} {X : zv_X} {Q : zv_St → Prop} {kk2 : Int32 → Int32 → Int32 → zv_St → Prop} (hC : zv_C G X M_X11_mayAll) (hR : zv_R G X M_X11_mayAll (zv_qv Q)) (hk2 : ∀ (x1 : Int32) (x2 : Int32) (x3 : Int32) (σ : zv_St), kk2 x1 x2 x3 σ → zv_V G X M_X11_mayAll 2 [(0, .ref (G.2.2.1 45)), (1, .int x1), (2, .int x2), (3, .int x3)] [] σ) {x1 : Int32} {x2 : Int32} {x3 : Int32} {σ : zv_St} (h : B_X11_mayAll_78 Q kk2 x1 x2 x3 σ) : zv_V G X M_X11_mayAll 78 [(0, .ref (G.2.2.1 45)), (1, .int x1), (2, .int x2), (3, .int x3)] [] σ := by
  unfold B_X11_mayAll_78 at h
  refine zv_iconst (v := 0) hC dX11_mayAll_78 (by decide) ?_
  exact zv_go (k_X11_mayAll_79 hC hR hk2 h) ⟨rfl, rfl, rfl, rfl, trivial⟩
def L_X11_mayAll_2 (Q : zv_St → Prop) : Nat → (Int32 → Int32 → Int32 → zv_St → Prop)
  | 0 => fun _ _ _ _ => False
  | u + 1 => fun x1 x2 x3 σ => 
    (x2 < x3 → (Q σ)) ∧ (¬ x2 < x3 → (vp_in x3 80 ∧ (¬ (σ.1 48 x3.toNatClampNeg) = 0 → (vp_in x3 80 ∧ (¬ (σ.1 48 x3.toNatClampNeg) = 1 → (B_X11_mayAll_78 Q (L_X11_mayAll_2 Q u) x1 x2 x3 σ)) ∧ ((σ.1 48 x3.toNatClampNeg) = 1 → (vp_in x3 80 ∧ vp_in x3 80 ∧ B_X11_in (fun r_2 σ_1 => (r_2 = 0 → (B_X11_mayAll_78 Q (L_X11_mayAll_2 Q u) x1 x2 x3 σ_1)) ∧ (¬ r_2 = 0 → (B_X11_mayAll_79 Q (L_X11_mayAll_2 Q u) x1 x2 x3 1 σ_1))) x1 (σ.1 49 x3.toNatClampNeg) (σ.1 50 x3.toNatClampNeg) σ)))) ∧ ((σ.1 48 x3.toNatClampNeg) = 0 → (vp_in x3 80 ∧ vp_in ((512 * (σ.1 49 x3.toNatClampNeg)) + x1) 8192 ∧ ((σ.1 46 ((512 * (σ.1 49 x3.toNatClampNeg)) + x1).toNatClampNeg) = (-1) → (B_X11_mayAll_79 Q (L_X11_mayAll_2 Q u) x1 x2 x3 0 σ)) ∧ (¬ (σ.1 46 ((512 * (σ.1 49 x3.toNatClampNeg)) + x1).toNatClampNeg) = (-1) → (B_X11_mayAll_79 Q (L_X11_mayAll_2 Q u) x1 x2 x3 1 σ))))))
set_option maxRecDepth 20000 in
set_option maxHeartbeats 2000000 in
theorem kL_X11_mayAll_2 {G : zv_G} {X : zv_X} {Q : zv_St → Prop}  (hC : zv_C G X M_X11_mayAll) (hR : zv_R G X M_X11_mayAll (zv_qv Q))  : ∀ (n : Nat) (x1 : Int32) (x2 : Int32) (x3 : Int32) (σ : zv_St), L_X11_mayAll_2 Q  n x1 x2 x3 σ → zv_V G X M_X11_mayAll 2 [(0, .ref (G.2.2.1 45)), (1, .int x1), (2, .int x2), (3, .int x3)] [] σ := by
  intro n
  induction n with
  | zero => intro x1 x2 x3 σ h; exact h.elim
  | succ n hk2 =>
    intro x1 x2 x3 σ h
    unfold L_X11_mayAll_2 at h
    refine zv_iload_n hC dX11_mayAll_2 rfl ?_
    refine zv_iload_n hC dX11_mayAll_3 rfl ?_
    refine zv_icmp_gt (tgt := 370) hC dX11_mayAll_4 (by decide) (fun c => ?_) (fun c => ?_)
    · replace h := h.1 c
      exact (hR _ _ _).2.2.2.1 rfl dX11_mayAll_370 ⟨rfl, h⟩
    · replace h := h.2 c
      refine zv_aload_n hC dX11_mayAll_7 rfl ?_
      refine zv_getR (j := 48) hC fl_X11_16 dX11_mayAll_8 rfl rfl ?_
      refine zv_iload_n hC dX11_mayAll_11 rfl ?_
      refine zv_iald hC dX11_mayAll_12 rfl h.1 ?_
      replace h := h.2
      refine zv_if_ne (tgt := 45) hC dX11_mayAll_13 (by decide) (fun c => ?_) (fun c => ?_)
      · replace h := h.1 c
        refine zv_aload_n hC dX11_mayAll_45 rfl ?_
        refine zv_getR (j := 48) hC fl_X11_16 dX11_mayAll_46 rfl rfl ?_
        refine zv_iload_n hC dX11_mayAll_49 rfl ?_
        refine zv_iald hC dX11_mayAll_50 rfl h.1 ?_
        replace h := h.2
        refine zv_iconst (v := 1) hC dX11_mayAll_51 (by decide) ?_
        refine zv_icmp_ne (tgt := 78) hC dX11_mayAll_52 (by decide) (fun c => ?_) (fun c => ?_)
        · replace h := h.1 c
          exact zv_go (k_X11_mayAll_78 hC hR hk2 h) ⟨rfl, rfl, rfl, rfl, trivial⟩
        · replace h := h.2 c
          refine zv_iload_n hC dX11_mayAll_55 rfl ?_
          refine zv_aload_n hC dX11_mayAll_56 rfl ?_
          refine zv_getR (j := 49) hC fl_X11_19 dX11_mayAll_57 rfl rfl ?_
          refine zv_iload_n hC dX11_mayAll_60 rfl ?_
          refine zv_iald hC dX11_mayAll_61 rfl h.1 ?_
          replace h := h.2
          refine zv_aload_n hC dX11_mayAll_62 rfl ?_
          refine zv_getR (j := 50) hC fl_X11_22 dX11_mayAll_63 rfl rfl ?_
          refine zv_iload_n hC dX11_mayAll_66 rfl ?_
          refine zv_iald hC dX11_mayAll_67 rfl h.1 ?_
          replace h := h.2
          refine zv_callSi (As := [_, _, _]) hC dX11_mayAll_68 Y_X11_in lk_X11_103 (by decide) rfl rfl (Nat.le_of_ble_eq_true rfl) (ok_X11_in G h) ?_
          intro r_2 σ_1 h
          refine zv_if_eq (tgt := 78) hC dX11_mayAll_71 (by decide) (fun c => ?_) (fun c => ?_)
          · replace h := h.1 c
            exact zv_go (k_X11_mayAll_78 hC hR hk2 h) ⟨rfl, rfl, rfl, rfl, trivial⟩
          · replace h := h.2 c
            refine zv_iconst (v := 1) hC dX11_mayAll_74 (by decide) ?_
            refine zv_goto (tgt := 79) hC dX11_mayAll_75 (by decide) ?_
            exact zv_go (k_X11_mayAll_79 hC hR hk2 h) ⟨rfl, rfl, rfl, rfl, trivial⟩
      · replace h := h.2 c
        refine zv_aload_n hC dX11_mayAll_16 rfl ?_
        refine zv_getR (j := 46) hC fl_X11_7 dX11_mayAll_17 rfl rfl ?_
        refine zv_sipush (v := 512) hC dX11_mayAll_20 (by decide) ?_
        refine zv_aload_n hC dX11_mayAll_23 rfl ?_
        refine zv_getR (j := 49) hC fl_X11_19 dX11_mayAll_24 rfl rfl ?_
        refine zv_iload_n hC dX11_mayAll_27 rfl ?_
        refine zv_iald hC dX11_mayAll_28 rfl h.1 ?_
        replace h := h.2
        refine zv_imul hC dX11_mayAll_29 ?_
        refine zv_iload_n hC dX11_mayAll_30 rfl ?_
        refine zv_iadd hC dX11_mayAll_31 ?_
        refine zv_iald hC dX11_mayAll_32 rfl h.1 ?_
        replace h := h.2
        refine zv_iconst (v := (-1)) hC dX11_mayAll_33 (by decide) ?_
        refine zv_icmp_eq (tgt := 41) hC dX11_mayAll_34 (by decide) (fun c => ?_) (fun c => ?_)
        · replace h := h.1 c
          refine zv_iconst (v := 0) hC dX11_mayAll_41 (by decide) ?_
          refine zv_goto (tgt := 79) hC dX11_mayAll_42 (by decide) ?_
          exact zv_go (k_X11_mayAll_79 hC hR hk2 h) ⟨rfl, rfl, rfl, rfl, trivial⟩
        · replace h := h.2 c
          refine zv_iconst (v := 1) hC dX11_mayAll_37 (by decide) ?_
          refine zv_goto (tgt := 79) hC dX11_mayAll_38 (by decide) ?_
          exact zv_go (k_X11_mayAll_79 hC hR hk2 h) ⟨rfl, rfl, rfl, rfl, trivial⟩
def B_X11_mayAll (Q : zv_St → Prop) (x1 : Int32) (x2 : Int32) (σ : zv_St) : Prop :=
  ∃ n2, L_X11_mayAll_2 Q n2 x1 x2 0 σ
set_option maxRecDepth 20000 in
set_option maxHeartbeats 2000000 in
theorem k_X11_mayAll_0 {G : zv_G} {X : zv_X} {Q : zv_St → Prop}  (hC : zv_C G X M_X11_mayAll) (hR : zv_R G X M_X11_mayAll (zv_qv Q))  {x1 : Int32} {x2 : Int32} {σ : zv_St} (h : B_X11_mayAll Q  x1 x2 σ) : zv_V G X M_X11_mayAll 0 [(0, .ref (G.2.2.1 45)), (1, .int x1), (2, .int x2)] [] σ := by
  unfold B_X11_mayAll at h
  refine zv_iconst (v := 0) hC dX11_mayAll_0 (by decide) ?_
  refine zv_istore_n hC dX11_mayAll_1 (by decide) ?_
  obtain ⟨n, h⟩ := h
  exact zv_go (kL_X11_mayAll_2 hC hR  n _ _ _ _ h) ⟨rfl, rfl, rfl, rfl, trivial⟩
theorem ok_X11_mayAll (G : zv_G) {Q : zv_St → Prop} {x1 : Int32} {x2 : Int32} {σ : zv_St} (h : B_X11_mayAll Q x1 x2 σ) : zv_OK G M_X11_mayAll yX11_mayAll [.ref (G.2.2.1 45), .int x1, .int x2] σ (zv_qv Q) := zv_ok G _ _ _ _ _ (by decide +kernel) rfl (Nat.le_of_ble_eq_true rfl) (fun X hC hR => zv_go (k_X11_mayAll_0 hC hR h) ⟨rfl, rfl, rfl, trivial⟩)
-- X11_may
def B_X11_may_15 (Q : Int32 → zv_St → Prop) (σ : zv_St) : Prop :=
  Q 0 σ
set_option maxRecDepth 20000 in
set_option maxHeartbeats 2000000 in
theorem k_X11_may_15 {G : zv_G} {X : zv_X} {Q : Int32 → zv_St → Prop}  (hC : zv_C G X M_X11_may) (hR : zv_R G X M_X11_may (zv_qi Q))   {σ : zv_St} (h : B_X11_may_15 Q   σ) : zv_V G X M_X11_may 15 [] [] σ := by
  unfold B_X11_may_15 at h
  refine zv_iconst (v := 0) hC dX11_may_15 (by decide) ?_
  exact (hR _ _ _).2.1 _ rfl rfl dX11_may_16 ⟨_, rfl, h⟩
def B_X11_may (Q : Int32 → zv_St → Prop) (x1 : Int32) (x2 : Int32) (σ : zv_St) : Prop :=
  B_X11_isNode (fun r_2 σ_1 => (r_2 = 0 → (B_X11_may_15 Q σ_1)) ∧ (¬ r_2 = 0 → (B_X11_isObject (fun r_4 σ_3 => (¬ r_4 = 0 → (B_X11_mayAll (fun σ_5 => vp_in x1 80 ∧ narrow .boolean (.int (σ_5.1 63 x1.toNatClampNeg)) = .int (σ_5.1 63 x1.toNatClampNeg) ∧ Q (σ_5.1 63 x1.toNatClampNeg) σ_5) x2 x1 σ_3)) ∧ (r_4 = 0 → (B_X11_may_15 Q σ_3))) x2 σ_1))) x1 σ
set_option maxRecDepth 20000 in
set_option maxHeartbeats 2000000 in
theorem k_X11_may_0 {G : zv_G} {X : zv_X} {Q : Int32 → zv_St → Prop}  (hC : zv_C G X M_X11_may) (hR : zv_R G X M_X11_may (zv_qi Q))  {x1 : Int32} {x2 : Int32} {σ : zv_St} (h : B_X11_may Q  x1 x2 σ) : zv_V G X M_X11_may 0 [(0, .ref (G.2.2.1 45)), (1, .int x1), (2, .int x2)] [] σ := by
  unfold B_X11_may at h
  refine zv_aload_n hC dX11_may_0 rfl ?_
  refine zv_iload_n hC dX11_may_1 rfl ?_
  refine zv_callVi (As := [_]) hC dX11_may_2 Y_X11_isNode lk_X11_123 (by decide) rfl rfl rfl (Nat.le_of_ble_eq_true rfl) (ok_X11_isNode G h) ?_
  intro r_2 σ_1 h
  refine zv_if_eq (tgt := 15) hC dX11_may_5 (by decide) (fun c => ?_) (fun c => ?_)
  · replace h := h.1 c
    exact zv_go (k_X11_may_15 hC hR  h) trivial
  · replace h := h.2 c
    refine zv_iload_n hC dX11_may_8 rfl ?_
    refine zv_callSi (As := [_]) hC dX11_may_9 Y_X11_isObject lk_X11_115 (by decide) rfl rfl (Nat.le_of_ble_eq_true rfl) (ok_X11_isObject G h) ?_
    intro r_4 σ_3 h
    refine zv_if_ne (tgt := 17) hC dX11_may_12 (by decide) (fun c => ?_) (fun c => ?_)
    · replace h := h.1 c
      refine zv_aload_n hC dX11_may_17 rfl ?_
      refine zv_iload_n hC dX11_may_18 rfl ?_
      refine zv_iload_n hC dX11_may_19 rfl ?_
      refine zv_callVv (As := [_, _]) hC dX11_may_20 Y_X11_mayAll lk_X11_145 (by decide) rfl rfl rfl (Nat.le_of_ble_eq_true rfl) (ok_X11_mayAll G h) ?_
      intro σ_5 h
      refine zv_aload_n hC dX11_may_23 rfl ?_
      refine zv_getR (j := 63) hC fl_X11_63 dX11_may_24 rfl rfl ?_
      refine zv_iload_n hC dX11_may_27 rfl ?_
      refine zv_zald hC dX11_may_28 rfl h.1 ?_
      replace h := h.2
      exact (hR _ _ _).2.1 _ rfl h.1 dX11_may_29 ⟨_, rfl, h.2⟩
    · replace h := h.2 c
      exact zv_go (k_X11_may_15 hC hR  h) trivial
theorem ok_X11_may (G : zv_G) {Q : Int32 → zv_St → Prop} {x1 : Int32} {x2 : Int32} {σ : zv_St} (h : B_X11_may Q x1 x2 σ) : zv_OK G M_X11_may yX11_may [.ref (G.2.2.1 45), .int x1, .int x2] σ (zv_qi Q) := zv_ok G _ _ _ _ _ (by decide +kernel) rfl (Nat.le_of_ble_eq_true rfl) (fun X hC hR => zv_go (k_X11_may_0 hC hR h) ⟨rfl, rfl, rfl, trivial⟩)
-- X11_sure
def B_X11_sure_15 (Q : Int32 → zv_St → Prop) (σ : zv_St) : Prop :=
  Q 0 σ
set_option maxRecDepth 20000 in
set_option maxHeartbeats 2000000 in
theorem k_X11_sure_15 {G : zv_G} {X : zv_X} {Q : Int32 → zv_St → Prop}  (hC : zv_C G X M_X11_sure) (hR : zv_R G X M_X11_sure (zv_qi Q))   {σ : zv_St} (h : B_X11_sure_15 Q   σ) : zv_V G X M_X11_sure 15 [] [] σ := by
  unfold B_X11_sure_15 at h
  refine zv_iconst (v := 0) hC dX11_sure_15 (by decide) ?_
  exact (hR _ _ _).2.1 _ rfl rfl dX11_sure_16 ⟨_, rfl, h⟩
def B_X11_sure (Q : Int32 → zv_St → Prop) (x1 : Int32) (x2 : Int32) (σ : zv_St) : Prop :=
  B_X11_isNode (fun r_2 σ_1 => (r_2 = 0 → (B_X11_sure_15 Q σ_1)) ∧ (¬ r_2 = 0 → (B_X11_isObject (fun r_4 σ_3 => (¬ r_4 = 0 → (B_X11_mayAll (fun σ_5 => vp_in x1 80 ∧ narrow .boolean (.int (σ_5.1 64 x1.toNatClampNeg)) = .int (σ_5.1 64 x1.toNatClampNeg) ∧ Q (σ_5.1 64 x1.toNatClampNeg) σ_5) x2 x1 σ_3)) ∧ (r_4 = 0 → (B_X11_sure_15 Q σ_3))) x2 σ_1))) x1 σ
set_option maxRecDepth 20000 in
set_option maxHeartbeats 2000000 in
theorem k_X11_sure_0 {G : zv_G} {X : zv_X} {Q : Int32 → zv_St → Prop}  (hC : zv_C G X M_X11_sure) (hR : zv_R G X M_X11_sure (zv_qi Q))  {x1 : Int32} {x2 : Int32} {σ : zv_St} (h : B_X11_sure Q  x1 x2 σ) : zv_V G X M_X11_sure 0 [(0, .ref (G.2.2.1 45)), (1, .int x1), (2, .int x2)] [] σ := by
  unfold B_X11_sure at h
  refine zv_aload_n hC dX11_sure_0 rfl ?_
  refine zv_iload_n hC dX11_sure_1 rfl ?_
  refine zv_callVi (As := [_]) hC dX11_sure_2 Y_X11_isNode lk_X11_123 (by decide) rfl rfl rfl (Nat.le_of_ble_eq_true rfl) (ok_X11_isNode G h) ?_
  intro r_2 σ_1 h
  refine zv_if_eq (tgt := 15) hC dX11_sure_5 (by decide) (fun c => ?_) (fun c => ?_)
  · replace h := h.1 c
    exact zv_go (k_X11_sure_15 hC hR  h) trivial
  · replace h := h.2 c
    refine zv_iload_n hC dX11_sure_8 rfl ?_
    refine zv_callSi (As := [_]) hC dX11_sure_9 Y_X11_isObject lk_X11_115 (by decide) rfl rfl (Nat.le_of_ble_eq_true rfl) (ok_X11_isObject G h) ?_
    intro r_4 σ_3 h
    refine zv_if_ne (tgt := 17) hC dX11_sure_12 (by decide) (fun c => ?_) (fun c => ?_)
    · replace h := h.1 c
      refine zv_aload_n hC dX11_sure_17 rfl ?_
      refine zv_iload_n hC dX11_sure_18 rfl ?_
      refine zv_iload_n hC dX11_sure_19 rfl ?_
      refine zv_callVv (As := [_, _]) hC dX11_sure_20 Y_X11_mayAll lk_X11_145 (by decide) rfl rfl rfl (Nat.le_of_ble_eq_true rfl) (ok_X11_mayAll G h) ?_
      intro σ_5 h
      refine zv_aload_n hC dX11_sure_23 rfl ?_
      refine zv_getR (j := 64) hC fl_X11_66 dX11_sure_24 rfl rfl ?_
      refine zv_iload_n hC dX11_sure_27 rfl ?_
      refine zv_zald hC dX11_sure_28 rfl h.1 ?_
      replace h := h.2
      exact (hR _ _ _).2.1 _ rfl h.1 dX11_sure_29 ⟨_, rfl, h.2⟩
    · replace h := h.2 c
      exact zv_go (k_X11_sure_15 hC hR  h) trivial
theorem ok_X11_sure (G : zv_G) {Q : Int32 → zv_St → Prop} {x1 : Int32} {x2 : Int32} {σ : zv_St} (h : B_X11_sure Q x1 x2 σ) : zv_OK G M_X11_sure yX11_sure [.ref (G.2.2.1 45), .int x1, .int x2] σ (zv_qi Q) := zv_ok G _ _ _ _ _ (by decide +kernel) rfl (Nat.le_of_ble_eq_true rfl) (fun X hC hR => zv_go (k_X11_sure_0 hC hR h) ⟨rfl, rfl, rfl, trivial⟩)
-- X11_sort
def B_X11_sort_196 (Q : zv_St → Prop) (kk145 : Int32 → Int32 → Int32 → zv_St → Prop) (kk153 : Int32 → Int32 → Int32 → Int32 → zv_St → Prop) (x1 : Int32) (x2 : Int32) (x3 : Int32) (x4 : Int32) (σ : zv_St) : Prop :=
  kk153 x1 x2 x3 (x4 + 1) σ
set_option maxRecDepth 20000 in
set_option maxHeartbeats 2000000 in
theorem k_X11_sort_196 {G : zv_G} {X : zv_X} {Q : zv_St → Prop} {kk145 : Int32 → Int32 → Int32 → zv_St → Prop} {kk153 : Int32 → Int32 → Int32 → Int32 → zv_St → Prop} (hC : zv_C G X M_X11_sort) (hR : zv_R G X M_X11_sort (zv_qv Q)) (hk145 : ∀ (x1 : Int32) (x2 : Int32) (x3 : Int32) (σ : zv_St), kk145 x1 x2 x3 σ → zv_V G X M_X11_sort 145 [(0, .ref (G.2.2.1 45)), (1, .int x1), (2, .int x2), (3, .int x3)] [] σ) (hk153 : ∀ (x1 : Int32) (x2 : Int32) (x3 : Int32) (x4 : Int32) (σ : zv_St), kk153 x1 x2 x3 x4 σ → zv_V G X M_X11_sort 153 [(0, .ref (G.2.2.1 45)), (1, .int x1), (2, .int x2), (3, .int x3), (4, .int x4)] [] σ) {x1 : Int32} {x2 : Int32} {x3 : Int32} {x4 : Int32} {σ : zv_St} (h : B_X11_sort_196 Q kk145 kk153 x1 x2 x3 x4 σ) : zv_V G X M_X11_sort 196 [(0, .ref (G.2.2.1 45)), (1, .int x1), (2, .int x2), (3, .int x3), (4, .int x4)] [] σ := by
  unfold B_X11_sort_196 at h
  refine zv_iinc (v := 1) hC dX11_sort_196 rfl (by decide) (by decide) ?_
  refine zv_goto (tgt := 153) hC dX11_sort_199 (by decide) ?_
  exact zv_go (hk153 _ _ _ _ _ h) ⟨rfl, rfl, rfl, rfl, rfl, trivial⟩
def L_X11_sort_153 (Q : zv_St → Prop) (kk145 : Int32 → Int32 → Int32 → zv_St → Prop) : Nat → (Int32 → Int32 → Int32 → Int32 → zv_St → Prop)
  | 0 => fun _ _ _ _ _ => False
  | u + 1 => fun x1 x2 x3 x4 σ => 
    vp_in x1 80 ∧ ((σ.1 51 x1.toNatClampNeg) ≤ x4 → (kk145 x1 x2 (x3 + 1) σ)) ∧ (¬ (σ.1 51 x1.toNatClampNeg) ≤ x4 → (vp_in ((8 * x1) + x4) 640 ∧ (¬ (σ.1 52 ((8 * x1) + x4).toNatClampNeg) = x3 → (B_X11_sort_196 Q kk145 (L_X11_sort_153 Q kk145 u) x1 x2 x3 x4 σ)) ∧ ((σ.1 52 ((8 * x1) + x4).toNatClampNeg) = x3 → (vp_in ((8 * x1) + x2) 640 ∧ ∀ σ_1 : zv_St, σ_1 = zv_wi σ 67 ((8 * x1) + x2).toNatClampNeg x4 → B_X11_sort_196 Q kk145 (L_X11_sort_153 Q kk145 u) x1 (x2 + 1) x3 x4 σ_1))))
set_option maxRecDepth 20000 in
set_option maxHeartbeats 2000000 in
theorem kL_X11_sort_153 {G : zv_G} {X : zv_X} {Q : zv_St → Prop} {kk145 : Int32 → Int32 → Int32 → zv_St → Prop} (hC : zv_C G X M_X11_sort) (hR : zv_R G X M_X11_sort (zv_qv Q)) (hk145 : ∀ (x1 : Int32) (x2 : Int32) (x3 : Int32) (σ : zv_St), kk145 x1 x2 x3 σ → zv_V G X M_X11_sort 145 [(0, .ref (G.2.2.1 45)), (1, .int x1), (2, .int x2), (3, .int x3)] [] σ) : ∀ (n : Nat) (x1 : Int32) (x2 : Int32) (x3 : Int32) (x4 : Int32) (σ : zv_St), L_X11_sort_153 Q kk145 n x1 x2 x3 x4 σ → zv_V G X M_X11_sort 153 [(0, .ref (G.2.2.1 45)), (1, .int x1), (2, .int x2), (3, .int x3), (4, .int x4)] [] σ := by
  intro n
  induction n with
  | zero => intro x1 x2 x3 x4 σ h; exact h.elim
  | succ n hk153 =>
    intro x1 x2 x3 x4 σ h
    unfold L_X11_sort_153 at h
    refine zv_iload hC dX11_sort_153 rfl ?_
    refine zv_aload_n hC dX11_sort_155 rfl ?_
    refine zv_getR (j := 51) hC fl_X11_25 dX11_sort_156 rfl rfl ?_
    refine zv_iload_n hC dX11_sort_159 rfl ?_
    refine zv_iald hC dX11_sort_160 rfl h.1 ?_
    replace h := h.2
    refine zv_icmp_ge (tgt := 202) hC dX11_sort_161 (by decide) (fun c => ?_) (fun c => ?_)
    · replace h := h.1 c
      refine zv_iinc (v := 1) hC dX11_sort_202 rfl (by decide) (by decide) ?_
      refine zv_goto (tgt := 145) hC dX11_sort_205 (by decide) ?_
      exact zv_go (hk145 _ _ _ _ h) ⟨rfl, rfl, rfl, rfl, trivial⟩
    · replace h := h.2 c
      refine zv_aload_n hC dX11_sort_164 rfl ?_
      refine zv_getR (j := 52) hC fl_X11_28 dX11_sort_165 rfl rfl ?_
      refine zv_bipush (v := 8) hC dX11_sort_168 (by decide) ?_
      refine zv_iload_n hC dX11_sort_170 rfl ?_
      refine zv_imul hC dX11_sort_171 ?_
      refine zv_iload hC dX11_sort_172 rfl ?_
      refine zv_iadd hC dX11_sort_174 ?_
      refine zv_iald hC dX11_sort_175 rfl h.1 ?_
      replace h := h.2
      refine zv_iload_n hC dX11_sort_176 rfl ?_
      refine zv_icmp_ne (tgt := 196) hC dX11_sort_177 (by decide) (fun c => ?_) (fun c => ?_)
      · replace h := h.1 c
        exact zv_go (k_X11_sort_196 hC hR hk145 hk153 h) ⟨rfl, rfl, rfl, rfl, rfl, trivial⟩
      · replace h := h.2 c
        refine zv_aload_n hC dX11_sort_180 rfl ?_
        refine zv_getR (j := 67) hC fl_X11_76 dX11_sort_181 rfl rfl ?_
        refine zv_bipush (v := 8) hC dX11_sort_184 (by decide) ?_
        refine zv_iload_n hC dX11_sort_186 rfl ?_
        refine zv_imul hC dX11_sort_187 ?_
        refine zv_iload_n hC dX11_sort_188 rfl ?_
        refine zv_iadd hC dX11_sort_189 ?_
        refine zv_iload hC dX11_sort_190 rfl ?_
        refine zv_iast hC dX11_sort_192 rfl h.1 ?_
        replace h := h.2 _ rfl
        refine zv_iinc (v := 1) hC dX11_sort_193 rfl (by decide) (by decide) ?_
        exact zv_go (k_X11_sort_196 hC hR hk145 hk153 h) ⟨rfl, rfl, rfl, rfl, rfl, trivial⟩
def L_X11_sort_145 (Q : zv_St → Prop) : Nat → (Int32 → Int32 → Int32 → zv_St → Prop)
  | 0 => fun _ _ _ _ => False
  | u + 1 => fun x1 x2 x3 σ => 
    (3 < x3 → (Q σ)) ∧ (¬ 3 < x3 → (∃ n153, L_X11_sort_153 Q (L_X11_sort_145 Q u) n153 x1 x2 x3 0 σ))
set_option maxRecDepth 20000 in
set_option maxHeartbeats 2000000 in
theorem kL_X11_sort_145 {G : zv_G} {X : zv_X} {Q : zv_St → Prop}  (hC : zv_C G X M_X11_sort) (hR : zv_R G X M_X11_sort (zv_qv Q))  : ∀ (n : Nat) (x1 : Int32) (x2 : Int32) (x3 : Int32) (σ : zv_St), L_X11_sort_145 Q  n x1 x2 x3 σ → zv_V G X M_X11_sort 145 [(0, .ref (G.2.2.1 45)), (1, .int x1), (2, .int x2), (3, .int x3)] [] σ := by
  intro n
  induction n with
  | zero => intro x1 x2 x3 σ h; exact h.elim
  | succ n hk145 =>
    intro x1 x2 x3 σ h
    unfold L_X11_sort_145 at h
    refine zv_iload_n hC dX11_sort_145 rfl ?_
    refine zv_iconst (v := 3) hC dX11_sort_146 (by decide) ?_
    refine zv_icmp_gt (tgt := 208) hC dX11_sort_147 (by decide) (fun c => ?_) (fun c => ?_)
    · replace h := h.1 c
      exact (hR _ _ _).2.2.2.1 rfl dX11_sort_208 ⟨rfl, h⟩
    · replace h := h.2 c
      refine zv_iconst (v := 0) hC dX11_sort_150 (by decide) ?_
      refine zv_istore hC dX11_sort_151 (by decide) ?_
      obtain ⟨n, h⟩ := h
      exact zv_go (kL_X11_sort_153 hC hR hk145 n _ _ _ _ _ h) ⟨rfl, rfl, rfl, rfl, rfl, trivial⟩
def B_X11_sort_137 (Q : zv_St → Prop) (kk4 : Int32 → Int32 → Int32 → zv_St → Prop) (x1 : Int32) (x2 : Int32) (x3 : Int32) (σ : zv_St) : Prop :=
  kk4 x1 x2 (x3 + 1) σ
set_option maxRecDepth 20000 in
set_option maxHeartbeats 2000000 in
theorem k_X11_sort_137 {G : zv_G} {X : zv_X} {Q : zv_St → Prop} {kk4 : Int32 → Int32 → Int32 → zv_St → Prop} (hC : zv_C G X M_X11_sort) (hR : zv_R G X M_X11_sort (zv_qv Q)) (hk4 : ∀ (x1 : Int32) (x2 : Int32) (x3 : Int32) (σ : zv_St), kk4 x1 x2 x3 σ → zv_V G X M_X11_sort 4 [(0, .ref (G.2.2.1 45)), (1, .int x1), (2, .int x2), (3, .int x3)] [] σ) {x1 : Int32} {x2 : Int32} {x3 : Int32} {σ : zv_St} (h : B_X11_sort_137 Q kk4 x1 x2 x3 σ) : zv_V G X M_X11_sort 137 [(0, .ref (G.2.2.1 45)), (1, .int x1), (2, .int x2), (3, .int x3)] [] σ := by
  unfold B_X11_sort_137 at h
  refine zv_iinc (v := 1) hC dX11_sort_137 rfl (by decide) (by decide) ?_
  refine zv_goto (tgt := 4) hC dX11_sort_140 (by decide) ?_
  exact zv_go (hk4 _ _ _ _ h) ⟨rfl, rfl, rfl, rfl, trivial⟩
def B_X11_sort_121 (Q : zv_St → Prop) (kk4 : Int32 → Int32 → Int32 → zv_St → Prop) (x1 : Int32) (x2 : Int32) (x3 : Int32) (x5 : Int32) (σ : zv_St) : Prop :=
  vp_in ((8 * x1) + x5) 640 ∧ ∀ σ_1 : zv_St, σ_1 = zv_wi σ 67 ((8 * x1) + x5).toNatClampNeg x3 → B_X11_sort_137 Q kk4 x1 (x2 + 1) x3 σ_1
set_option maxRecDepth 20000 in
set_option maxHeartbeats 2000000 in
theorem k_X11_sort_121 {G : zv_G} {X : zv_X} {Q : zv_St → Prop} {kk4 : Int32 → Int32 → Int32 → zv_St → Prop} (hC : zv_C G X M_X11_sort) (hR : zv_R G X M_X11_sort (zv_qv Q)) (hk4 : ∀ (x1 : Int32) (x2 : Int32) (x3 : Int32) (σ : zv_St), kk4 x1 x2 x3 σ → zv_V G X M_X11_sort 4 [(0, .ref (G.2.2.1 45)), (1, .int x1), (2, .int x2), (3, .int x3)] [] σ) {x1 : Int32} {x2 : Int32} {x3 : Int32} {x5 : Int32} {σ : zv_St} (h : B_X11_sort_121 Q kk4 x1 x2 x3 x5 σ) : zv_V G X M_X11_sort 121 [(0, .ref (G.2.2.1 45)), (1, .int x1), (2, .int x2), (3, .int x3), (5, .int x5)] [] σ := by
  unfold B_X11_sort_121 at h
  refine zv_aload_n hC dX11_sort_121 rfl ?_
  refine zv_getR (j := 67) hC fl_X11_76 dX11_sort_122 rfl rfl ?_
  refine zv_bipush (v := 8) hC dX11_sort_125 (by decide) ?_
  refine zv_iload_n hC dX11_sort_127 rfl ?_
  refine zv_imul hC dX11_sort_128 ?_
  refine zv_iload hC dX11_sort_129 rfl ?_
  refine zv_iadd hC dX11_sort_131 ?_
  refine zv_iload_n hC dX11_sort_132 rfl ?_
  refine zv_iast hC dX11_sort_133 rfl h.1 ?_
  replace h := h.2 _ rfl
  refine zv_iinc (v := 1) hC dX11_sort_134 rfl (by decide) (by decide) ?_
  exact zv_go (k_X11_sort_137 hC hR hk4 h) ⟨rfl, rfl, rfl, rfl, trivial⟩
def L_X11_sort_50 (Q : zv_St → Prop) (kk4 : Int32 → Int32 → Int32 → zv_St → Prop) : Nat → (Int32 → Int32 → Int32 → Int32 → Int32 → zv_St → Prop)
  | 0 => fun _ _ _ _ _ _ => False
  | u + 1 => fun x1 x2 x3 x4 x5 σ => 
    (x5 ≤ 0 → (B_X11_sort_121 Q kk4 x1 x2 x3 x5 σ)) ∧ (¬ x5 ≤ 0 → (vp_in (((8 * x1) + x5) - 1) 640 ∧ vp_in ((8 * x1) + (σ.1 67 (((8 * x1) + x5) - 1).toNatClampNeg)) 640 ∧ vp_in (σ.1 53 ((8 * x1) + (σ.1 67 (((8 * x1) + x5) - 1).toNatClampNeg)).toNatClampNeg) 80 ∧ ((σ.1 62 (σ.1 53 ((8 * x1) + (σ.1 67 (((8 * x1) + x5) - 1).toNatClampNeg)).toNatClampNeg).toNatClampNeg) ≤ x4 → (B_X11_sort_121 Q kk4 x1 x2 x3 x5 σ)) ∧ (¬ (σ.1 62 (σ.1 53 ((8 * x1) + (σ.1 67 (((8 * x1) + x5) - 1).toNatClampNeg)).toNatClampNeg).toNatClampNeg) ≤ x4 → (vp_in (((8 * x1) + x5) - 1) 640 ∧ vp_in ((8 * x1) + x5) 640 ∧ ∀ σ_1 : zv_St, σ_1 = zv_wi σ 67 ((8 * x1) + x5).toNatClampNeg (σ.1 67 (((8 * x1) + x5) - 1).toNatClampNeg) → (L_X11_sort_50 Q kk4 u) x1 x2 x3 x4 (x5 + (-1)) σ_1))))
set_option maxRecDepth 20000 in
set_option maxHeartbeats 2000000 in
theorem kL_X11_sort_50 {G : zv_G} {X : zv_X} {Q : zv_St → Prop} {kk4 : Int32 → Int32 → Int32 → zv_St → Prop} (hC : zv_C G X M_X11_sort) (hR : zv_R G X M_X11_sort (zv_qv Q)) (hk4 : ∀ (x1 : Int32) (x2 : Int32) (x3 : Int32) (σ : zv_St), kk4 x1 x2 x3 σ → zv_V G X M_X11_sort 4 [(0, .ref (G.2.2.1 45)), (1, .int x1), (2, .int x2), (3, .int x3)] [] σ) : ∀ (n : Nat) (x1 : Int32) (x2 : Int32) (x3 : Int32) (x4 : Int32) (x5 : Int32) (σ : zv_St), L_X11_sort_50 Q kk4 n x1 x2 x3 x4 x5 σ → zv_V G X M_X11_sort 50 [(0, .ref (G.2.2.1 45)), (1, .int x1), (2, .int x2), (3, .int x3), (4, .int x4), (5, .int x5)] [] σ := by
  intro n
  induction n with
  | zero => intro x1 x2 x3 x4 x5 σ h; exact h.elim
  | succ n hk50 =>
    intro x1 x2 x3 x4 x5 σ h
    unfold L_X11_sort_50 at h
    refine zv_iload hC dX11_sort_50 rfl ?_
    refine zv_if_le (tgt := 121) hC dX11_sort_52 (by decide) (fun c => ?_) (fun c => ?_)
    · replace h := h.1 c
      exact zv_go (k_X11_sort_121 hC hR hk4 h) ⟨rfl, rfl, rfl, rfl, rfl, trivial⟩
    · replace h := h.2 c
      refine zv_aload_n hC dX11_sort_55 rfl ?_
      refine zv_getR (j := 62) hC fl_X11_60 dX11_sort_56 rfl rfl ?_
      refine zv_aload_n hC dX11_sort_59 rfl ?_
      refine zv_getR (j := 53) hC fl_X11_31 dX11_sort_60 rfl rfl ?_
      refine zv_bipush (v := 8) hC dX11_sort_63 (by decide) ?_
      refine zv_iload_n hC dX11_sort_65 rfl ?_
      refine zv_imul hC dX11_sort_66 ?_
      refine zv_aload_n hC dX11_sort_67 rfl ?_
      refine zv_getR (j := 67) hC fl_X11_76 dX11_sort_68 rfl rfl ?_
      refine zv_bipush (v := 8) hC dX11_sort_71 (by decide) ?_
      refine zv_iload_n hC dX11_sort_73 rfl ?_
      refine zv_imul hC dX11_sort_74 ?_
      refine zv_iload hC dX11_sort_75 rfl ?_
      refine zv_iadd hC dX11_sort_77 ?_
      refine zv_iconst (v := 1) hC dX11_sort_78 (by decide) ?_
      refine zv_isub hC dX11_sort_79 ?_
      refine zv_iald hC dX11_sort_80 rfl h.1 ?_
      replace h := h.2
      refine zv_iadd hC dX11_sort_81 ?_
      refine zv_iald hC dX11_sort_82 rfl h.1 ?_
      replace h := h.2
      refine zv_iald hC dX11_sort_83 rfl h.1 ?_
      replace h := h.2
      refine zv_iload hC dX11_sort_84 rfl ?_
      refine zv_icmp_le (tgt := 121) hC dX11_sort_86 (by decide) (fun c => ?_) (fun c => ?_)
      · replace h := h.1 c
        exact zv_go (k_X11_sort_121 hC hR hk4 h) ⟨rfl, rfl, rfl, rfl, rfl, trivial⟩
      · replace h := h.2 c
        refine zv_aload_n hC dX11_sort_89 rfl ?_
        refine zv_getR (j := 67) hC fl_X11_76 dX11_sort_90 rfl rfl ?_
        refine zv_bipush (v := 8) hC dX11_sort_93 (by decide) ?_
        refine zv_iload_n hC dX11_sort_95 rfl ?_
        refine zv_imul hC dX11_sort_96 ?_
        refine zv_iload hC dX11_sort_97 rfl ?_
        refine zv_iadd hC dX11_sort_99 ?_
        refine zv_aload_n hC dX11_sort_100 rfl ?_
        refine zv_getR (j := 67) hC fl_X11_76 dX11_sort_101 rfl rfl ?_
        refine zv_bipush (v := 8) hC dX11_sort_104 (by decide) ?_
        refine zv_iload_n hC dX11_sort_106 rfl ?_
        refine zv_imul hC dX11_sort_107 ?_
        refine zv_iload hC dX11_sort_108 rfl ?_
        refine zv_iadd hC dX11_sort_110 ?_
        refine zv_iconst (v := 1) hC dX11_sort_111 (by decide) ?_
        refine zv_isub hC dX11_sort_112 ?_
        refine zv_iald hC dX11_sort_113 rfl h.1 ?_
        replace h := h.2
        refine zv_iast hC dX11_sort_114 rfl h.1 ?_
        replace h := h.2 _ rfl
        refine zv_iinc (v := (-1)) hC dX11_sort_115 rfl (by decide) (by decide) ?_
        refine zv_goto (tgt := 50) hC dX11_sort_118 (by decide) ?_
        exact zv_go (hk50 _ _ _ _ _ _ h) ⟨rfl, rfl, rfl, rfl, rfl, rfl, trivial⟩
def L_X11_sort_4 (Q : zv_St → Prop) : Nat → (Int32 → Int32 → Int32 → zv_St → Prop)
  | 0 => fun _ _ _ _ => False
  | u + 1 => fun x1 x2 x3 σ => 
    vp_in x1 80 ∧ ((σ.1 51 x1.toNatClampNeg) ≤ x3 → (∃ n145, L_X11_sort_145 Q n145 x1 x2 2 σ)) ∧ (¬ (σ.1 51 x1.toNatClampNeg) ≤ x3 → (vp_in ((8 * x1) + x3) 640 ∧ (2 ≤ (σ.1 52 ((8 * x1) + x3).toNatClampNeg) → (B_X11_sort_137 Q (L_X11_sort_4 Q u) x1 x2 x3 σ)) ∧ (¬ 2 ≤ (σ.1 52 ((8 * x1) + x3).toNatClampNeg) → (vp_in ((8 * x1) + x3) 640 ∧ vp_in (σ.1 53 ((8 * x1) + x3).toNatClampNeg) 80 ∧ ∀ v_1 : Int32, v_1 = (σ.1 62 (σ.1 53 ((8 * x1) + x3).toNatClampNeg).toNatClampNeg) → ∃ n50, L_X11_sort_50 Q (L_X11_sort_4 Q u) n50 x1 x2 x3 v_1 x2 σ))))
set_option maxRecDepth 20000 in
set_option maxHeartbeats 2000000 in
theorem kL_X11_sort_4 {G : zv_G} {X : zv_X} {Q : zv_St → Prop}  (hC : zv_C G X M_X11_sort) (hR : zv_R G X M_X11_sort (zv_qv Q))  : ∀ (n : Nat) (x1 : Int32) (x2 : Int32) (x3 : Int32) (σ : zv_St), L_X11_sort_4 Q  n x1 x2 x3 σ → zv_V G X M_X11_sort 4 [(0, .ref (G.2.2.1 45)), (1, .int x1), (2, .int x2), (3, .int x3)] [] σ := by
  intro n
  induction n with
  | zero => intro x1 x2 x3 σ h; exact h.elim
  | succ n hk4 =>
    intro x1 x2 x3 σ h
    unfold L_X11_sort_4 at h
    refine zv_iload_n hC dX11_sort_4 rfl ?_
    refine zv_aload_n hC dX11_sort_5 rfl ?_
    refine zv_getR (j := 51) hC fl_X11_25 dX11_sort_6 rfl rfl ?_
    refine zv_iload_n hC dX11_sort_9 rfl ?_
    refine zv_iald hC dX11_sort_10 rfl h.1 ?_
    replace h := h.2
    refine zv_icmp_ge (tgt := 143) hC dX11_sort_11 (by decide) (fun c => ?_) (fun c => ?_)
    · replace h := h.1 c
      refine zv_iconst (v := 2) hC dX11_sort_143 (by decide) ?_
      refine zv_istore_n hC dX11_sort_144 (by decide) ?_
      obtain ⟨n, h⟩ := h
      exact zv_go (kL_X11_sort_145 hC hR  n _ _ _ _ h) ⟨rfl, rfl, rfl, rfl, trivial⟩
    · replace h := h.2 c
      refine zv_aload_n hC dX11_sort_14 rfl ?_
      refine zv_getR (j := 52) hC fl_X11_28 dX11_sort_15 rfl rfl ?_
      refine zv_bipush (v := 8) hC dX11_sort_18 (by decide) ?_
      refine zv_iload_n hC dX11_sort_20 rfl ?_
      refine zv_imul hC dX11_sort_21 ?_
      refine zv_iload_n hC dX11_sort_22 rfl ?_
      refine zv_iadd hC dX11_sort_23 ?_
      refine zv_iald hC dX11_sort_24 rfl h.1 ?_
      replace h := h.2
      refine zv_iconst (v := 2) hC dX11_sort_25 (by decide) ?_
      refine zv_icmp_ge (tgt := 137) hC dX11_sort_26 (by decide) (fun c => ?_) (fun c => ?_)
      · replace h := h.1 c
        exact zv_go (k_X11_sort_137 hC hR hk4 h) ⟨rfl, rfl, rfl, rfl, trivial⟩
      · replace h := h.2 c
        refine zv_aload_n hC dX11_sort_29 rfl ?_
        refine zv_getR (j := 62) hC fl_X11_60 dX11_sort_30 rfl rfl ?_
        refine zv_aload_n hC dX11_sort_33 rfl ?_
        refine zv_getR (j := 53) hC fl_X11_31 dX11_sort_34 rfl rfl ?_
        refine zv_bipush (v := 8) hC dX11_sort_37 (by decide) ?_
        refine zv_iload_n hC dX11_sort_39 rfl ?_
        refine zv_imul hC dX11_sort_40 ?_
        refine zv_iload_n hC dX11_sort_41 rfl ?_
        refine zv_iadd hC dX11_sort_42 ?_
        refine zv_iald hC dX11_sort_43 rfl h.1 ?_
        replace h := h.2
        refine zv_iald hC dX11_sort_44 rfl h.1 ?_
        replace h := h.2
        replace h := h _ rfl
        refine zv_istore hC dX11_sort_45 (by decide) ?_
        refine zv_iload_n hC dX11_sort_47 rfl ?_
        refine zv_istore hC dX11_sort_48 (by decide) ?_
        obtain ⟨n, h⟩ := h
        exact zv_go (kL_X11_sort_50 hC hR hk4 n _ _ _ _ _ _ h) ⟨rfl, rfl, rfl, rfl, rfl, rfl, trivial⟩
def B_X11_sort (Q : zv_St → Prop) (x1 : Int32) (σ : zv_St) : Prop :=
  ∃ n4, L_X11_sort_4 Q n4 x1 0 0 σ
set_option maxRecDepth 20000 in
set_option maxHeartbeats 2000000 in
theorem k_X11_sort_0 {G : zv_G} {X : zv_X} {Q : zv_St → Prop}  (hC : zv_C G X M_X11_sort) (hR : zv_R G X M_X11_sort (zv_qv Q))  {x1 : Int32} {σ : zv_St} (h : B_X11_sort Q  x1 σ) : zv_V G X M_X11_sort 0 [(0, .ref (G.2.2.1 45)), (1, .int x1)] [] σ := by
  unfold B_X11_sort at h
  refine zv_iconst (v := 0) hC dX11_sort_0 (by decide) ?_
  refine zv_istore_n hC dX11_sort_1 (by decide) ?_
  refine zv_iconst (v := 0) hC dX11_sort_2 (by decide) ?_
  refine zv_istore_n hC dX11_sort_3 (by decide) ?_
  obtain ⟨n, h⟩ := h
  exact zv_go (kL_X11_sort_4 hC hR  n _ _ _ _ h) ⟨rfl, rfl, rfl, rfl, trivial⟩
theorem ok_X11_sort (G : zv_G) {Q : zv_St → Prop} {x1 : Int32} {σ : zv_St} (h : B_X11_sort Q x1 σ) : zv_OK G M_X11_sort yX11_sort [.ref (G.2.2.1 45), .int x1] σ (zv_qv Q) := zv_ok G _ _ _ _ _ (by decide +kernel) rfl (Nat.le_of_ble_eq_true rfl) (fun X hC hR => zv_go (k_X11_sort_0 hC hR h) ⟨rfl, rfl, trivial⟩)
