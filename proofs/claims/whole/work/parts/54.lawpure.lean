/-! The law's loop: the two sides answer alike, call by call. -/
theorem zp_law (L : Nat) (xs : Nat → Int32) (hL : L ≤ 2048) : ∀ m p σ, zp_Inv σ → L ≤ p + m → p ≤ L → L_L_law_18 L xs (m + 1) (nI p) σ := by
  have hend : ∀ u p σ, p ≤ L → L < p + 4 → L_L_law_18 L xs (u + 1) (nI p) σ := by
    intro u p σ hp h4
    refine zp_t ?_ trivial
    by_cases c : 4 ≤ L
    · rw [show (Int32.ofNat L) - 4 = nI (L - 4) from zp_nsb (b := 4) c (by omega)]
      exact nI_lt (by omega) (by omega)
    · have hneg : ((Int32.ofNat L) - 4).toInt < 0 := by
        rcases (show L = 0 ∨ L = 1 ∨ L = 2 ∨ L = 3 by omega) with e | e | e | e <;> subst e <;> decide
      rw [Int32.lt_iff_toInt_lt, nI_toInt (by omega)]
      omega
  intro m
  induction m with
  | zero => intro p σ hI h1 h2; exact hend 0 p σ h2 (by omega)
  | succ m ih =>
    intro p σ hI h1 h2
    by_cases c : p + 4 ≤ L
    · have go : ∀ σ2, zp_Inv σ2 → B_L_law_693 L xs (L_L_law_18 L xs (m + 1)) (nI p) σ2 := fun σ2 i => by
        unfold B_L_law_693
        rw [show nI p + 4 = nI (p + 4) from nI_add p 4]
        exact ih (p + 4) σ2 i (by omega) (by omega)
      have i0 : vp_in (nI p) L := vp_in_nI (by omega) (by omega)
      have i1 : vp_in (nI p + 1) L := by
        rw [show nI p + 1 = nI (p + 1) from nI_add p 1]; exact vp_in_nI (by omega) (by omega)
      have i2 : vp_in (nI p + 2) L := by
        rw [show nI p + 2 = nI (p + 2) from nI_add p 2]; exact vp_in_nI (by omega) (by omega)
      have i3 : vp_in (nI p + 3) L := by
        rw [show nI p + 3 = nI (p + 3) from nI_add p 3]; exact vp_in_nI (by omega) (by omega)
      refine zp_f ?_ ⟨i0, ?_, ?_, ?_, ?_, ?_, ?_, ?_, ?_, ?_, ?_, ?_, ?_, ?_, ?_, ?_, ?_, ?_, ?_, ?_, ?_⟩
      · rw [show (Int32.ofNat L) - 4 = nI (L - 4) from zp_nsb (b := 4) (by omega) (by omega)]
        exact nI_nlt (by omega) (by omega)
      · exact fun _ => ⟨i1, i2, i3, zp_step_put hI _ _ _ _ (fun r σ1 hk => ⟨i1, i2, i3, hk _ (fun σ2 j2 => zp_t rfl (go σ2 j2))⟩)⟩
      · exact fun _ => ⟨i1, i2, zp_step_take hI _ _ _ (fun r σ1 hk => ⟨i1, i2, hk _ (fun σ2 j2 => zp_t rfl (go σ2 j2))⟩)⟩
      · exact fun _ => ⟨i1, i2, i3, zp_step_node hI _ _ _ _ (fun r σ1 hk => ⟨i1, i2, i3, hk _ (fun σ2 j2 => zp_t rfl (go σ2 j2))⟩)⟩
      · exact fun _ => ⟨i1, i2, i3, zp_step_part hI _ _ _ _ (fun r σ1 hk => ⟨i1, i2, i3, hk _ (fun σ2 j2 => zp_t rfl (go σ2 j2))⟩)⟩
      · exact fun _ => ⟨i1, i2, zp_step_told hI _ _ _ (fun r σ1 hk => ⟨i1, i2, hk _ (fun σ2 j2 => zp_t rfl (go σ2 j2))⟩)⟩
      · exact fun _ => ⟨i1, i2, i3, zp_step_partOf hI _ _ _ _ (fun r σ1 hk => ⟨i1, i2, i3, hk _ (fun σ2 j2 => zp_t rfl (go σ2 j2))⟩)⟩
      · exact fun _ => ⟨i1, i2, zp_step_may hI _ _ _ (fun r σ1 hk => ⟨i1, i2, hk _ (fun σ2 j2 => zp_t rfl (go σ2 j2))⟩)⟩
      · exact fun _ => ⟨i1, i2, zp_step_sure hI _ _ _ (fun r σ1 hk => ⟨i1, i2, hk _ (fun σ2 j2 => zp_t rfl (go σ2 j2))⟩)⟩
      · exact fun _ => ⟨i1, i2, zp_step_look hI _ _ _ (fun r σ1 hk => ⟨i1, i2, hk _ (fun σ2 j2 => zp_t rfl (go σ2 j2))⟩)⟩
      · exact fun _ => zp_step_scored hI _ (fun r σ1 hk => hk _ (fun σ2 j2 => zp_t ((lg_cmp_eq _ _).mpr rfl) (go σ2 j2)))
      · exact fun _ => ⟨i1, zp_step_run hI _ _ (fun r σ1 hk => ⟨i1, hk _ (fun σ2 j2 => zp_t rfl (go σ2 j2))⟩)⟩
      · exact fun _ => ⟨i1, zp_step_found hI _ _ (fun r σ1 hk => ⟨i1, hk _ (fun σ2 j2 => zp_t rfl (go σ2 j2))⟩)⟩
      · exact fun _ => ⟨i1, zp_step_score hI _ _ (fun r σ1 hk => ⟨i1, hk _ (fun σ2 j2 => zp_t ((lg_cmp_eq _ _).mpr rfl) (go σ2 j2))⟩)⟩
      · exact fun _ => ⟨i1, zp_step_keep hI _ _ (fun r σ1 hk => ⟨i1, hk _ (fun σ2 j2 => zp_t rfl (go σ2 j2))⟩)⟩
      · exact fun _ => ⟨i1, zp_step_open hI _ _ (fun r σ1 hk => ⟨i1, hk _ (fun σ2 j2 => zp_t rfl (go σ2 j2))⟩)⟩
      · exact fun _ => ⟨i1, i2, zp_step_next hI _ _ _ (fun r σ1 hk => ⟨i1, i2, hk _ (fun σ2 j2 => zp_t rfl (go σ2 j2))⟩)⟩
      · exact fun _ => ⟨i1, zp_step_close hI _ _ (fun r σ1 hk => ⟨i1, hk _ (fun σ2 j2 => zp_t rfl (go σ2 j2))⟩)⟩
      · exact fun _ => ⟨i1, zp_step_rewrite hI _ _ (fun r σ1 hk => ⟨i1, hk _ (fun σ2 j2 => zp_t rfl (go σ2 j2))⟩)⟩
      · exact fun _ => ⟨i1, zp_step_sum hI _ _ (fun r σ1 hk => ⟨i1, hk _ (fun σ2 j2 => zp_t rfl (go σ2 j2))⟩)⟩
      · exact fun _ => go σ hI
    · exact hend (m + 1) p σ h2 (by omega)
theorem zp_pure : ∀ (L : Nat) (xs : Nat → Int32), L ≤ 2048 → ∃ n, L_L_law_18 L xs n 0 zs_0 := fun L xs hL => ⟨L + 1, zp_law L xs hL L 0 zs_0 zp_Inv0 (by omega) (by omega)⟩
