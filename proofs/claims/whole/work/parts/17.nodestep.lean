section MKR
variable {σ : zv_St} {n kd fs sc : Nat} {S : zp_S}
theorem zp_NR_add {σ' : zv_St} (hn : n < 80) (hw : zp_wf n S) (hN : zp_NR σ n S) (e5 : σ'.1 45 2 = nI (n + 1)) (e6 : ∀ j, σ'.1 48 j = if j = n then nI kd else σ.1 48 j) (e7 : ∀ j, σ'.1 49 j = if j = n then nI fs else σ.1 49 j) (e8 : ∀ j, σ'.1 50 j = if j = n then nI sc else σ.1 50 j) (e10 : ∀ j, σ'.1 51 j = if j = n then nI (if zp_own kd = true then 1 else 0) else σ.1 51 j) (e11 : ∀ j, σ'.1 52 j = if j = n * 8 then nI 0 else σ.1 52 j) (e12 : ∀ j, σ'.1 53 j = if j = n * 8 then nI fs else σ.1 53 j) : zp_NR σ' (n + 1) (zp_addN S n kd fs sc) := by
  refine ⟨e5, fun k hk => ?_⟩
  by_cases hkn : k = n
  · subst hkn
    refine ⟨by rw [e6, if_pos rfl]; simp [zp_addN], by rw [e7, if_pos rfl]; simp [zp_addN], by rw [e8, if_pos rfl]; simp [zp_addN], by rw [e10, if_pos rfl]; simp [zp_addN], fun i hi => ?_⟩
    have hi2 : i < (if zp_own kd = true then 1 else 0) := by simpa [zp_addN] using hi
    by_cases ho : zp_own kd = true
    · rw [if_pos ho] at hi2
      have hi0 : i = 0 := by omega
      subst hi0
      refine ⟨?_, ?_⟩
      · rw [e11, if_pos (by omega)]; simp [zp_addN]
      · rw [e12, if_pos (by omega)]; simp [zp_addN]
    · rw [if_neg ho] at hi2
      omega
  · obtain ⟨a1, a2, a3, a4, a5⟩ := hN.2 k (by omega)
    obtain ⟨s0, s1, s2, s3, s4⟩ := zp_addN_same (S := S) (n := n) (kd := kd) (fs := fs) (sc := sc) (k := k) (by omega) (hw.2 k (by omega)).2.1
    have hm := (hw.2 k (by omega)).2.1
    refine ⟨?_, ?_, ?_, ?_, fun i hi => ?_⟩
    · rw [e6, if_neg hkn, a1]; exact congrArg nI s0.symm
    · rw [e7, if_neg hkn, a2]; exact congrArg nI s1.symm
    · rw [e8, if_neg hkn, a3]; exact congrArg nI s2.symm
    · rw [e10, if_neg hkn, a4]; exact congrArg nI s3.symm
    · have hi' : i < S 3 k := by rw [← s3]; exact hi
      have hm' : S 3 k ≤ 8 := hm
      obtain ⟨b1, b2⟩ := a5 i hi'
      have hne : ¬ (k * 8 + i = n * 8) := by omega
      refine ⟨?_, ?_⟩
      · rw [e11, if_neg hne, b1]; exact congrArg nI (s4 i hi').1.symm
      · rw [e12, if_neg hne, b2]; exact congrArg nI (s4 i hi').2.symm
theorem zp_makeR {Q : zv_St → Prop} (hn : n < 80) (hw : zp_wf n S) (hN : zp_NR σ n S) (ok : zp_newok n kd fs sc)
    (q : ∀ σ', zp_ch [45, 48, 49, 50, 51, 52, 53, 54, 55] σ σ' → σ'.2 = σ.2 → zp_NR σ' (n + 1) (zp_addN S n kd fs sc) → (∀ j, σ'.1 54 j = if j = n then 0 else σ.1 54 j) → (∀ j, σ'.1 55 j = if j = n then -1 else σ.1 55 j) → (∀ j, j ≠ 2 → σ'.1 45 j = σ.1 45 j) → Q σ') : B_X11_make Q (nI kd) (nI fs) (nI sc) σ := by
  obtain ⟨k1, k2, k3⟩ := ok.small (by omega)
  unfold B_X11_make
  rw [hN.1]
  refine ⟨vp_in_nI hn (by decide), ?_⟩
  rw [nI_clamp (by omega)]
  rintro σ1 rfl
  rw [zp_rn _ _ _ _ (by decide), hN.1]
  refine ⟨vp_in_nI hn (by decide), ?_⟩
  rw [nI_clamp (by omega)]
  rintro σ2 rfl
  rw [zp_rn _ _ _ _ (by decide), zp_rn _ _ _ _ (by decide), hN.1]
  refine ⟨vp_in_nI hn (by decide), ?_⟩
  rw [nI_clamp (by omega)]
  rintro σ3 rfl
  rw [zp_rn _ _ _ _ (by decide), zp_rn _ _ _ _ (by decide), zp_rn _ _ _ _ (by decide), hN.1]
  have hall : ∀ m : Nat, m = (if zp_own kd = true then 1 else 0) → B_X11_make_59 Q (nI fs) (nI n) (nI m) (zv_wi (zv_wi (zv_wi σ 48 n (nI kd)) 49 n (nI fs)) 50 n (nI sc)) := by
    intro m hm
    refine ⟨vp_in_nI hn (by decide), ?_⟩
    rw [nI_clamp (by omega)]
    rintro τ1 rfl
    have e1 : ∀ (a : Int32) (j : Nat), (zv_wi (zv_wi (zv_wi (zv_wi σ 48 n (nI kd)) 49 n (nI fs)) 50 n (nI sc)) 51 j a).1 45 2 = nI n := fun a j => by
      rw [zp_rn _ _ _ _ (by decide), zp_rn _ _ _ _ (by decide), zp_rn _ _ _ _ (by decide), zp_rn _ _ _ _ (by decide), hN.1]
    rw [e1, zp_8m]
    refine ⟨vp_in_nI (by omega) (by decide), ?_⟩
    rw [nI_clamp (by omega)]
    rintro τ2 rfl
    rw [zp_rn _ _ _ _ (by decide), e1, zp_8m]
    refine ⟨vp_in_nI (by omega) (by decide), ?_⟩
    rw [nI_clamp (by omega)]
    rintro τ3 rfl
    rw [zp_rn _ _ _ _ (by decide), zp_rn _ _ _ _ (by decide), e1]
    refine ⟨vp_in_nI hn (by decide), ?_⟩
    rw [nI_clamp (by omega)]
    rintro τ4 rfl
    rw [zp_rn _ _ _ _ (by decide), zp_rn _ _ _ _ (by decide), zp_rn _ _ _ _ (by decide), e1]
    refine ⟨vp_in_nI hn (by decide), ?_⟩
    rw [nI_clamp (by omega)]
    rintro τ5 rfl
    rw [zp_rn _ _ _ _ (by decide), zp_rn _ _ _ _ (by decide), zp_rn _ _ _ _ (by decide), zp_rn _ _ _ _ (by decide), e1, nI_1]
    rintro τ6 rfl
    refine q _ ?_ rfl (zp_NR_add hn hw hN ?_ ?_ ?_ ?_ ?_ ?_ ?_) ?_ ?_ ?_
    · exact ((((((((zp_ch.wi (by decide)).tr (zp_ch.wi (by decide))).tr (zp_ch.wi (by decide))).tr (zp_ch.wi (by decide))).tr (zp_ch.wi (by decide))).tr (zp_ch.wi (by decide))).tr (zp_ch.wi (by decide))).tr (zp_ch.wi (by decide))).tr (zp_ch.wi (by decide))
    · simp [zp_ri]
    · intro j; simp [zp_ri]
    · intro j; simp [zp_ri]
    · intro j; simp [zp_ri]
    · intro j; rw [← hm]; simp [zp_ri]
    · intro j; simp [zp_ri]; rfl
    · intro j; simp [zp_ri]
    · intro j; simp [zp_ri]
    · intro j; simp [zp_ri]
    · intro j hj; simp [zp_ri, hj]
  have hkd : kd ≤ 7 := ok.1
  rcases (show kd = 0 ∨ kd = 1 ∨ kd = 2 ∨ kd = 3 ∨ kd = 4 ∨ kd = 5 ∨ kd = 6 ∨ kd = 7 by omega) with e | e | e | e | e | e | e | e <;> subst e
  · exact zp_f (by decide) (zp_f (by decide) (zp_nt (by decide) (hall 0 rfl)))
  · exact zp_f (by decide) (zp_f (by decide) (zp_nt (by decide) (hall 0 rfl)))
  · exact zp_f (by decide) (zp_f (by decide) (zp_nt (by decide) (hall 0 rfl)))
  · exact zp_f (by decide) (zp_f (by decide) (zp_nt (by decide) (hall 0 rfl)))
  · exact zp_t rfl (hall 1 rfl)
  · exact zp_f (by decide) (zp_t rfl (hall 1 rfl))
  · exact zp_f (by decide) (zp_f (by decide) (zp_nf rfl (hall 1 rfl)))
  · exact zp_f (by decide) (zp_f (by decide) (zp_nt (by decide) (hall 0 rfl)))
end MKR
def zp_addE (E : zp_E) (n kd fs sc : Nat) : zp_E := (zp_addN E.1 n kd fs sc, E.2.1, E.2.2.1, fun k => if k = n then none else E.2.2.2 k)
theorem zp_addE_same {E : zp_E} {n kd fs sc : Nat} (hw : zp_wf n E.1) : zp_sameE n E (zp_addE E n kd fs sc) :=
  ⟨fun k hk => ⟨zp_addN_same hk (hw.2 k hk).2.1, by simp [zp_addE, show ¬ k = n by omega]⟩, fun _ _ => rfl, fun _ => rfl⟩
/-- one NODE more on both sides, all else as it was -/
theorem zp_J_add {σ σ' : zv_St} {n kd fs sc : Nat} {E : zp_E} (hn : n < 80) (h : zp_J σ n E) (ok : zp_newok n kd fs sc) (hc : zp_ch [5, 6, 7, 8, 9, 10, 11, 12, 45, 48, 49, 50, 51, 52, 53, 54, 55] σ σ') (h2 : σ'.2 = σ.2) (hN : zp_NC σ' (n + 1) (zp_addN E.1 n kd fs sc)) (hM : zp_NR σ' (n + 1) (zp_addN E.1 n kd fs sc)) (e9 : ∀ j, σ'.1 9 j = if j = n then 0 else σ.1 9 j) (e54 : ∀ j, σ'.1 54 j = if j = n then 0 else σ.1 54 j) (e55 : ∀ j, σ'.1 55 j = if j = n then -1 else σ.1 55 j) (e45 : ∀ j, j ≠ 2 → σ'.1 45 j = σ.1 45 j) : zp_J σ' (n + 1) (zp_addE E n kd fs sc) := by
  obtain ⟨hw, -, -, hLW, hLR, hLC, hKW, hKR, hKC, hBC, hFI, hIT, hAS⟩ := h
  refine ⟨zp_addN_wf hn hw ok, hN, hM, hLW, hLR.ch hc (by decide), hLC.ch hc (by decide), ?_, ?_, ?_, ?_, hFI.ch hc (by decide) (e45 30 (by decide)) (by rw [h2]), ?_, ?_⟩
  · intro k hk hne
    by_cases e : k = n
    · subst e; simp [zp_addE] at hne
    · have h1 : E.2.2.2 k ≠ none := by simpa [zp_addE, e] using hne
      have := hKW k (by omega) h1
      show (zp_addN E.1 n kd fs sc) 0 k = 6
      rw [(zp_addN_same (kd := kd) (fs := fs) (sc := sc) (show k < n by omega) (hw.2 k (by omega)).2.1).1]
      exact this
  · intro k hk
    by_cases e : k = n
    · subst e
      show match (if k = k then none else E.2.2.2 k) with | none => _ | some q => _
      rw [if_pos rfl]
      show σ'.1 55 k = -1
      rw [e55, if_pos rfl]
    · have := hKR k (by omega)
      show match (if k = n then none else E.2.2.2 k) with | none => _ | some q => _
      rw [if_neg e, e55, if_neg e, (hc 56 (by decide)).1]
      exact this
  · refine ⟨fun k hk => ?_, fun k h1 h3 => ?_⟩
    · by_cases e : k = n
      · subst e
        show match (if k = k then none else E.2.2.2 k) with | none => _ | some q => _
        rw [if_pos rfl]
        show σ'.1 16 k = 0
        rw [(hc 16 (by decide)).1]
        exact hKC.2 k (Nat.le_refl _) hn
      · have := hKC.1 k (by omega)
        show match (if k = n then none else E.2.2.2 k) with | none => _ | some q => _
        rw [if_neg e, (hc 16 (by decide)).1, (hc 17 (by decide)).1, h2]
        exact this
    · rw [(hc 16 (by decide)).1]
      exact hKC.2 k (by omega) h3
  · exact (hBC.same hw.2 (zp_addE_same hw) (by omega)).ch hc (by decide)
  · intro i hi
    rcases hIT.ch hc (by decide) i hi with q | ⟨q1, k, q2, q3⟩
    · exact Or.inl q
    · exact Or.inr ⟨q1, k, by omega, q3⟩
  · refine ⟨fun k hk => ?_, ?_⟩
    · rw [e9, e54]
      by_cases e : k = n
      · rw [if_pos e, if_pos e]
      · rw [if_neg e, if_neg e]; exact hAS.1 k (by omega)
    · rw [e45 10 (by decide), hAS.2]
      show _ = zp_asum (σ'.1 9) n + σ'.1 9 n
      rw [e9 n, if_pos rfl, Int32.add_zero]
      exact zp_asum_congr (fun i hi => by rw [e9, if_neg (by omega)])
theorem zp_step_node {σ : zv_St} (h : zp_Inv σ) (a b c : Int32) (R : Int32 → zv_St → Prop) (hR : ∀ r σ1, (∀ K : Int32 → zv_St → Prop, (∀ σ2, zp_Inv σ2 → K r σ2) → B_X11_node K a b c σ1) → R r σ1) : B_X10_node R a b c σ := by
  have h1 := h
  obtain ⟨n, E, hJ⟩ := h1
  have hJ' := hJ
  obtain ⟨hw, hN, hM, -⟩ := hJ'
  rcases zp_nums hw.1 hN.1 a b c with ⟨m1, m2⟩ | ⟨kd, fs, sc, ok, e1, e2, e3, m1, m2⟩
  · refine m1 _ (zp_nf rfl (hR _ σ (fun K hK => ?_)))
    exact m2 _ σ hM.1 (zp_nf rfl (hK σ h))
  · refine m1 _ (zp_nt (by decide) ?_)
    subst e1
    have hkd : kd ≤ 7 := ok.1
    have fin : ∀ (x y : Int32), x = nI fs → y = nI sc → B_X5_make (fun r_2 σ_1 => R r_2 σ_1) (nI kd) x y σ := by
      rintro _ _ rfl rfl
      by_cases hn : n < 80
      · refine zp_makeC hn hw hN ok (fun σ1 c1 c2 c3 c4 => hR _ _ (fun K hK => ?_))
        refine m2 _ σ1 (by rw [(c1 45 (by decide)).1]; exact hM.1) (zp_nt (by decide) ?_)
        rw [(c1 45 (by decide)).1, hM.1]
        refine zp_nt (fun q => absurd (zp_ninj (b := 80) (by omega) (by decide) q) (by omega)) ?_
        have hMc : zp_NR σ1 n E.1 := hM.ch c1 (by decide) (by rw [(c1 45 (by decide)).1])
        have mk : ∀ (x y : Int32), x = nI fs → y = nI sc → B_X11_node_70 K (nI kd) x y σ1 := by
          rintro _ _ rfl rfl
          refine zp_makeR hn hw hMc ok (fun σ2 d1 d2 d3 d4 d5 d6 => ?_)
          rw [d3.1, nI_pred]
          refine hK σ2 ⟨n + 1, zp_addE E n kd fs sc, zp_J_add hn hJ ok ((c1.mono (by decide)).tr (d1.mono (by decide))) (d2.trans c2) (c3.ch d1 (by decide)) d3 (fun j => by rw [(d1 9 (by decide)).1]; exact c4 j) (fun j => by rw [d4, (c1 54 (by decide)).1]) (fun j => by rw [d5, (c1 55 (by decide)).1]) (fun j hj => by rw [d6 j hj, (c1 45 (by decide)).1])⟩
        rcases (show kd = 0 ∨ kd = 1 ∨ kd = 2 ∨ kd = 3 ∨ kd = 4 ∨ kd = 5 ∨ kd = 6 ∨ kd = 7 by omega) with e | e | e | e | e | e | e | e <;> subst e
        · exact zp_f (by decide) (zp_f (by decide) (zp_nt (by decide) (zp_nt (by decide) (zp_t rfl (mk _ _ e2 (by rw [show sc = 0 from e3]; rfl))))))
        · exact zp_t rfl (zp_nt (by decide) (zp_f (by decide) (mk _ _ e2 e3)))
        · exact zp_f (by decide) (zp_f (by decide) (zp_nt (by decide) (zp_nt (by decide) (zp_t rfl (mk _ _ e2 (by rw [show sc = 0 from e3]; rfl))))))
        · exact zp_f (by decide) (zp_f (by decide) (zp_nt (by decide) (zp_nt (by decide) (zp_t rfl (mk _ _ e2 (by rw [show sc = 0 from e3]; rfl))))))
        · exact zp_f (by decide) (zp_t rfl (zp_nt (by decide) (zp_f (by decide) (mk _ _ e2 e3))))
        · exact zp_f (by decide) (zp_f (by decide) (zp_nf rfl (zp_nt (by decide) (zp_f (by decide) (mk _ _ e2 e3)))))
        · exact zp_f (by decide) (zp_f (by decide) (zp_nt (by decide) (zp_nt (by decide) (zp_t rfl (mk _ _ e2 (by rw [show sc = 0 from e3]; rfl))))))
        · exact zp_f (by decide) (zp_f (by decide) (zp_nt (by decide) (zp_nf rfl (zp_t rfl (mk _ _ (by rw [show fs = 0 from e2]; rfl) (by rw [show sc = 0 from e3]; rfl))))))
      · have hn80 : n = 80 := by have := hw.1; omega
        subst hn80
        unfold B_X5_make
        rw [hN.1]
        refine zp_f (by decide) (hR _ σ (fun K hK => ?_))
        refine m2 _ σ hM.1 (zp_nt (by decide) ?_)
        rw [hM.1]
        exact zp_nf rfl (hK σ h)
    rcases (show kd = 0 ∨ kd = 1 ∨ kd = 2 ∨ kd = 3 ∨ kd = 4 ∨ kd = 5 ∨ kd = 6 ∨ kd = 7 by omega) with e | e | e | e | e | e | e | e <;> subst e
    · exact zp_nt (by decide) (zp_f (by decide) (zp_f (by decide) (zp_nt (by decide) ⟨rfl, zp_t rfl (fin _ _ e2 (by rw [show sc = 0 from e3]; rfl))⟩)))
    · exact zp_nt (by decide) (zp_t rfl ⟨rfl, zp_f (by decide) (fin _ _ e2 e3)⟩)
    · exact zp_nt (by decide) (zp_f (by decide) (zp_f (by decide) (zp_nt (by decide) ⟨rfl, zp_t rfl (fin _ _ e2 (by rw [show sc = 0 from e3]; rfl))⟩)))
    · exact zp_nt (by decide) (zp_f (by decide) (zp_f (by decide) (zp_nt (by decide) ⟨rfl, zp_t rfl (fin _ _ e2 (by rw [show sc = 0 from e3]; rfl))⟩)))
    · exact zp_nt (by decide) (zp_f (by decide) (zp_t rfl ⟨rfl, zp_f (by decide) (fin _ _ e2 e3)⟩))
    · exact zp_nt (by decide) (zp_f (by decide) (zp_f (by decide) (zp_nf rfl ⟨rfl, zp_f (by decide) (fin _ _ e2 e3)⟩)))
    · exact zp_nt (by decide) (zp_f (by decide) (zp_f (by decide) (zp_nt (by decide) ⟨rfl, zp_t rfl (fin _ _ e2 (by rw [show sc = 0 from e3]; rfl))⟩)))
    · exact zp_nf rfl (zp_f (by decide) (zp_f (by decide) (zp_nt (by decide) ⟨rfl, zp_t rfl (fin _ _ (by rw [show fs = 0 from e2]; rfl) (by rw [show sc = 0 from e3]; rfl))⟩)))
