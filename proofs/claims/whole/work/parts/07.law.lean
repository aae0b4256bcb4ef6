/-! The law's loop, from its head, decompiled. -/
abbrev M_L_law : zv_M := (code, 4, RL, ret, 8)
def zl_S (X : zv_X) (b L : Nat) (xs : Nat → Int32) : Prop := match X with
  | (_, _, s, _, _, _, _, _, _, _, _, _, A) => va_X b L xs s s.heap ∧ b < s.heap.size ∧ ¬ A b
def zl_R (G : zv_G) (X : zv_X) (M : zv_M) : Prop := ∀ (pc : Nat) (lv : List (Nat × Value)) (σ : zv_St), decode M.1 pc = .ok (.ireturn, 1) → zv_V G X M pc lv [.int 1] σ
section ZL
variable {G : zv_G} {X : zv_X} {M : zv_M} {pc : Nat} {lv : List (Nat × Value)} {st : List Value} {σ : zv_St}
theorem zl_sld (hC : zv_C G X M) {b L : Nat} {xs : Nat → Int32} (hs : zl_S X b L xs) {i : Int32} (hin : vp_in i L) (hd : decode M.1 pc = .ok (.iaload, 1)) (kk : zv_V G X M (pc + 1) lv (.int (xs i.toNatClampNeg) :: st) σ) : zv_V G X M pc lv (.int i :: .ref b :: st) σ := by
  obtain ⟨p, e, s, m, args, below, meth, c, R, cells, slots, QQ, A⟩ := X
  obtain ⟨hx, hb, hml, hown, hts, hK, hI, hA, hc1, hc2, hf1, hf2, hlk, hrt, hnt⟩ := hC
  obtain ⟨h1, h2, h3⟩ := hs
  intro H locs ls hP hS hl
  exact va_sld hx hb h1 h2 h3 hS hin hd (kk H locs ls hP hS hl)
theorem zl_slen (hC : zv_C G X M) {b L : Nat} {xs : Nat → Int32} (hs : zl_S X b L xs) (hd : decode M.1 pc = .ok (.arraylength, 1)) (kk : zv_V G X M (pc + 1) lv (.int (Int32.ofNat L) :: st) σ) : zv_V G X M pc lv (.ref b :: st) σ := by
  obtain ⟨p, e, s, m, args, below, meth, c, R, cells, slots, QQ, A⟩ := X
  obtain ⟨hx, hb, hml, hown, hts, hK, hI, hA, hc1, hc2, hf1, hf2, hlk, hrt, hnt⟩ := hC
  obtain ⟨h1, h2, h3⟩ := hs
  intro H locs ls hP hS hl
  exact va_slen hx hb h1 h2 h3 hS hd (kk H locs ls hP hS hl)
end ZL
theorem lk_L_13 : Cond.methodLink RL 13 yX10_put ∈ zv_tb := zv_in 335 (by decide +kernel) rfl
theorem lk_L_17 : Cond.methodLink RL 17 yX11_put ∈ zv_tb := zv_in 1062 (by decide +kernel) rfl
theorem lk_L_18 : Cond.methodLink RL 18 yX10_take ∈ zv_tb := zv_in 396 (by decide +kernel) rfl
theorem lk_L_22 : Cond.methodLink RL 22 yX11_take ∈ zv_tb := zv_in 1081 (by decide +kernel) rfl
theorem lk_L_23 : Cond.methodLink RL 23 yX10_node ∈ zv_tb := zv_in 409 (by decide +kernel) rfl
theorem lk_L_26 : Cond.methodLink RL 26 yX11_node ∈ zv_tb := zv_in 1085 (by decide +kernel) rfl
theorem lk_L_27 : Cond.methodLink RL 27 yX10_part ∈ zv_tb := zv_in 436 (by decide +kernel) rfl
theorem lk_L_30 : Cond.methodLink RL 30 yX11_part ∈ zv_tb := zv_in 1102 (by decide +kernel) rfl
theorem lk_L_31 : Cond.methodLink RL 31 yX10_told ∈ zv_tb := zv_in 453 (by decide +kernel) rfl
theorem lk_L_34 : Cond.methodLink RL 34 yX11_told ∈ zv_tb := zv_in 1106 (by decide +kernel) rfl
theorem lk_L_35 : Cond.methodLink RL 35 yX10_partOf ∈ zv_tb := zv_in 601 (by decide +kernel) rfl
theorem lk_L_38 : Cond.methodLink RL 38 yX11_partOf ∈ zv_tb := zv_in 1118 (by decide +kernel) rfl
theorem lk_L_39 : Cond.methodLink RL 39 yX10_may ∈ zv_tb := zv_in 607 (by decide +kernel) rfl
theorem lk_L_43 : Cond.methodLink RL 43 yX11_may ∈ zv_tb := zv_in 1122 (by decide +kernel) rfl
theorem lk_L_44 : Cond.methodLink RL 44 yX10_sure ∈ zv_tb := zv_in 619 (by decide +kernel) rfl
theorem lk_L_47 : Cond.methodLink RL 47 yX11_sure ∈ zv_tb := zv_in 1134 (by decide +kernel) rfl
theorem lk_L_48 : Cond.methodLink RL 48 yX10_look ∈ zv_tb := zv_in 627 (by decide +kernel) rfl
theorem lk_L_51 : Cond.methodLink RL 51 yX11_look ∈ zv_tb := zv_in 1138 (by decide +kernel) rfl
theorem lk_L_52 : Cond.methodLink RL 52 yX10_scored ∈ zv_tb := zv_in 708 (by decide +kernel) rfl
theorem lk_L_56 : Cond.methodLink RL 56 yX11_scored ∈ zv_tb := zv_in 1167 (by decide +kernel) rfl
theorem lk_L_57 : Cond.methodLink RL 57 yX10_run ∈ zv_tb := zv_in 712 (by decide +kernel) rfl
theorem lk_L_61 : Cond.methodLink RL 61 yX11_run ∈ zv_tb := zv_in 1171 (by decide +kernel) rfl
theorem lk_L_62 : Cond.methodLink RL 62 yX10_found ∈ zv_tb := zv_in 728 (by decide +kernel) rfl
theorem lk_L_65 : Cond.methodLink RL 65 yX11_found ∈ zv_tb := zv_in 1175 (by decide +kernel) rfl
theorem lk_L_66 : Cond.methodLink RL 66 yX10_score ∈ zv_tb := zv_in 740 (by decide +kernel) rfl
theorem lk_L_70 : Cond.methodLink RL 70 yX11_score ∈ zv_tb := zv_in 1179 (by decide +kernel) rfl
theorem lk_L_71 : Cond.methodLink RL 71 yX10_keep ∈ zv_tb := zv_in 748 (by decide +kernel) rfl
theorem lk_L_74 : Cond.methodLink RL 74 yX11_keep ∈ zv_tb := zv_in 1183 (by decide +kernel) rfl
theorem lk_L_75 : Cond.methodLink RL 75 yX10_open ∈ zv_tb := zv_in 762 (by decide +kernel) rfl
theorem lk_L_78 : Cond.methodLink RL 78 yX11_open ∈ zv_tb := zv_in 1187 (by decide +kernel) rfl
theorem lk_L_79 : Cond.methodLink RL 79 yX10_next ∈ zv_tb := zv_in 770 (by decide +kernel) rfl
theorem lk_L_82 : Cond.methodLink RL 82 yX11_next ∈ zv_tb := zv_in 1191 (by decide +kernel) rfl
theorem lk_L_83 : Cond.methodLink RL 83 yX10_close ∈ zv_tb := zv_in 796 (by decide +kernel) rfl
theorem lk_L_86 : Cond.methodLink RL 86 yX11_close ∈ zv_tb := zv_in 1199 (by decide +kernel) rfl
theorem lk_L_87 : Cond.methodLink RL 87 yX10_rewrite ∈ zv_tb := zv_in 804 (by decide +kernel) rfl
theorem lk_L_90 : Cond.methodLink RL 90 yX11_rewrite ∈ zv_tb := zv_in 1203 (by decide +kernel) rfl
theorem lk_L_91 : Cond.methodLink RL 91 yX10_sum ∈ zv_tb := zv_in 922 (by decide +kernel) rfl
theorem lk_L_94 : Cond.methodLink RL 94 yX11_sum ∈ zv_tb := zv_in 1239 (by decide +kernel) rfl
def B_L_law_693 (L : Nat) (xs : Nat → Int32) (kk18 : Int32 → zv_St → Prop) (x3 : Int32) (σ : zv_St) : Prop :=
  kk18 (x3 + 4) σ
set_option maxRecDepth 20000 in
set_option maxHeartbeats 2000000 in
theorem k_L_law_693 {G : zv_G} {X : zv_X} {b L : Nat} {xs : Nat → Int32} {kk18 : Int32 → zv_St → Prop} (hC : zv_C G X M_L_law) (hS : zl_S X b L xs) (hR : zl_R G X M_L_law) (hk18 : ∀ (x3 : Int32) (σ : zv_St), kk18 x3 σ → zv_V G X M_L_law 18 [(0, .ref b), (1, .ref (G.2.2.1 0)), (2, .ref (G.2.2.1 45)), (3, .int x3)] [] σ) {x3 : Int32} {σ : zv_St} (h : B_L_law_693 L xs kk18 x3 σ) : zv_V G X M_L_law 693 [(0, .ref b), (1, .ref (G.2.2.1 0)), (2, .ref (G.2.2.1 45)), (3, .int x3)] [] σ := by
  unfold B_L_law_693 at h
  refine zv_iinc (v := 4) hC dL_law_693 rfl (by decide) (by decide) ?_
  refine zv_goto (tgt := 18) hC dL_law_696 (by decide) ?_
  exact zv_go (hk18 _ _ h) ⟨rfl, rfl, rfl, rfl, trivial⟩
def L_L_law_18 (L : Nat) (xs : Nat → Int32) : Nat → (Int32 → zv_St → Prop)
  | 0 => fun _ _ => False
  | u + 1 => fun x3 σ => 
    (((Int32.ofNat L) - 4) < x3 → (True)) ∧ (¬ ((Int32.ofNat L) - 4) < x3 → (vp_in x3 L ∧ (((xs x3.toNatClampNeg) &&& 31) = 0 → (vp_in (x3 + 1) L ∧ vp_in (x3 + 2) L ∧ vp_in (x3 + 3) L ∧ B_X10_put (fun r_2 σ_1 => vp_in (x3 + 1) L ∧ vp_in (x3 + 2) L ∧ vp_in (x3 + 3) L ∧ B_X11_put (fun r_4 σ_3 => (r_2 = r_4 → (B_L_law_693 L xs (L_L_law_18 L xs u) x3 σ_3)) ∧ (¬ r_2 = r_4 → (False))) (xs (x3 + 1).toNatClampNeg) (xs (x3 + 2).toNatClampNeg) (xs (x3 + 3).toNatClampNeg) σ_1) (xs (x3 + 1).toNatClampNeg) (xs (x3 + 2).toNatClampNeg) (xs (x3 + 3).toNatClampNeg) σ)) ∧ (((xs x3.toNatClampNeg) &&& 31) = 1 → (vp_in (x3 + 1) L ∧ vp_in (x3 + 2) L ∧ B_X10_take (fun r_6 σ_5 => vp_in (x3 + 1) L ∧ vp_in (x3 + 2) L ∧ B_X11_take (fun r_8 σ_7 => (r_6 = r_8 → (B_L_law_693 L xs (L_L_law_18 L xs u) x3 σ_7)) ∧ (¬ r_6 = r_8 → (False))) (xs (x3 + 1).toNatClampNeg) (xs (x3 + 2).toNatClampNeg) σ_5) (xs (x3 + 1).toNatClampNeg) (xs (x3 + 2).toNatClampNeg) σ)) ∧ (((xs x3.toNatClampNeg) &&& 31) = 2 → (vp_in (x3 + 1) L ∧ vp_in (x3 + 2) L ∧ vp_in (x3 + 3) L ∧ B_X10_node (fun r_10 σ_9 => vp_in (x3 + 1) L ∧ vp_in (x3 + 2) L ∧ vp_in (x3 + 3) L ∧ B_X11_node (fun r_12 σ_11 => (r_10 = r_12 → (B_L_law_693 L xs (L_L_law_18 L xs u) x3 σ_11)) ∧ (¬ r_10 = r_12 → (False))) (xs (x3 + 1).toNatClampNeg) (xs (x3 + 2).toNatClampNeg) (xs (x3 + 3).toNatClampNeg) σ_9) (xs (x3 + 1).toNatClampNeg) (xs (x3 + 2).toNatClampNeg) (xs (x3 + 3).toNatClampNeg) σ)) ∧ (((xs x3.toNatClampNeg) &&& 31) = 3 → (vp_in (x3 + 1) L ∧ vp_in (x3 + 2) L ∧ vp_in (x3 + 3) L ∧ B_X10_part (fun r_14 σ_13 => vp_in (x3 + 1) L ∧ vp_in (x3 + 2) L ∧ vp_in (x3 + 3) L ∧ B_X11_part (fun r_16 σ_15 => (r_14 = r_16 → (B_L_law_693 L xs (L_L_law_18 L xs u) x3 σ_15)) ∧ (¬ r_14 = r_16 → (False))) (xs (x3 + 1).toNatClampNeg) (xs (x3 + 2).toNatClampNeg) (xs (x3 + 3).toNatClampNeg) σ_13) (xs (x3 + 1).toNatClampNeg) (xs (x3 + 2).toNatClampNeg) (xs (x3 + 3).toNatClampNeg) σ)) ∧ (((xs x3.toNatClampNeg) &&& 31) = 4 → (vp_in (x3 + 1) L ∧ vp_in (x3 + 2) L ∧ B_X10_told (fun r_18 σ_17 => vp_in (x3 + 1) L ∧ vp_in (x3 + 2) L ∧ B_X11_told (fun r_20 σ_19 => (r_18 = r_20 → (B_L_law_693 L xs (L_L_law_18 L xs u) x3 σ_19)) ∧ (¬ r_18 = r_20 → (False))) (xs (x3 + 1).toNatClampNeg) (xs (x3 + 2).toNatClampNeg) σ_17) (xs (x3 + 1).toNatClampNeg) (xs (x3 + 2).toNatClampNeg) σ)) ∧ (((xs x3.toNatClampNeg) &&& 31) = 5 → (vp_in (x3 + 1) L ∧ vp_in (x3 + 2) L ∧ vp_in (x3 + 3) L ∧ B_X10_partOf (fun r_22 σ_21 => vp_in (x3 + 1) L ∧ vp_in (x3 + 2) L ∧ vp_in (x3 + 3) L ∧ B_X11_partOf (fun r_24 σ_23 => (r_22 = r_24 → (B_L_law_693 L xs (L_L_law_18 L xs u) x3 σ_23)) ∧ (¬ r_22 = r_24 → (False))) (xs (x3 + 1).toNatClampNeg) (xs (x3 + 2).toNatClampNeg) (xs (x3 + 3).toNatClampNeg) σ_21) (xs (x3 + 1).toNatClampNeg) (xs (x3 + 2).toNatClampNeg) (xs (x3 + 3).toNatClampNeg) σ)) ∧ (((xs x3.toNatClampNeg) &&& 31) = 6 → (vp_in (x3 + 1) L ∧ vp_in (x3 + 2) L ∧ B_X10_may (fun r_26 σ_25 => vp_in (x3 + 1) L ∧ vp_in (x3 + 2) L ∧ B_X11_may (fun r_28 σ_27 => (r_26 = r_28 → (B_L_law_693 L xs (L_L_law_18 L xs u) x3 σ_27)) ∧ (¬ r_26 = r_28 → (False))) (xs (x3 + 1).toNatClampNeg) (xs (x3 + 2).toNatClampNeg) σ_25) (xs (x3 + 1).toNatClampNeg) (xs (x3 + 2).toNatClampNeg) σ)) ∧ (((xs x3.toNatClampNeg) &&& 31) = 7 → (vp_in (x3 + 1) L ∧ vp_in (x3 + 2) L ∧ B_X10_sure (fun r_30 σ_29 => vp_in (x3 + 1) L ∧ vp_in (x3 + 2) L ∧ B_X11_sure (fun r_32 σ_31 => (r_30 = r_32 → (B_L_law_693 L xs (L_L_law_18 L xs u) x3 σ_31)) ∧ (¬ r_30 = r_32 → (False))) (xs (x3 + 1).toNatClampNeg) (xs (x3 + 2).toNatClampNeg) σ_29) (xs (x3 + 1).toNatClampNeg) (xs (x3 + 2).toNatClampNeg) σ)) ∧ (((xs x3.toNatClampNeg) &&& 31) = 8 → (vp_in (x3 + 1) L ∧ vp_in (x3 + 2) L ∧ B_X10_look (fun r_34 σ_33 => vp_in (x3 + 1) L ∧ vp_in (x3 + 2) L ∧ B_X11_look (fun r_36 σ_35 => (r_34 = r_36 → (B_L_law_693 L xs (L_L_law_18 L xs u) x3 σ_35)) ∧ (¬ r_34 = r_36 → (False))) (xs (x3 + 1).toNatClampNeg) (xs (x3 + 2).toNatClampNeg) σ_33) (xs (x3 + 1).toNatClampNeg) (xs (x3 + 2).toNatClampNeg) σ)) ∧ (((xs x3.toNatClampNeg) &&& 31) = 9 → (B_X10_scored (fun r_38 σ_37 => B_X11_scored (fun r_40 σ_39 => ((lg_cmp r_38 r_40) = 0 → (B_L_law_693 L xs (L_L_law_18 L xs u) x3 σ_39)) ∧ (¬ (lg_cmp r_38 r_40) = 0 → (False))) σ_37) σ)) ∧ (((xs x3.toNatClampNeg) &&& 31) = 10 → (vp_in (x3 + 1) L ∧ B_X10_run (fun r_42 σ_41 => vp_in (x3 + 1) L ∧ B_X11_run (fun r_44 σ_43 => (r_42 = r_44 → (B_L_law_693 L xs (L_L_law_18 L xs u) x3 σ_43)) ∧ (¬ r_42 = r_44 → (False))) (xs (x3 + 1).toNatClampNeg) σ_41) (xs (x3 + 1).toNatClampNeg) σ)) ∧ (((xs x3.toNatClampNeg) &&& 31) = 11 → (vp_in (x3 + 1) L ∧ B_X10_found (fun r_46 σ_45 => vp_in (x3 + 1) L ∧ B_X11_found (fun r_48 σ_47 => (r_46 = r_48 → (B_L_law_693 L xs (L_L_law_18 L xs u) x3 σ_47)) ∧ (¬ r_46 = r_48 → (False))) (xs (x3 + 1).toNatClampNeg) σ_45) (xs (x3 + 1).toNatClampNeg) σ)) ∧ (((xs x3.toNatClampNeg) &&& 31) = 12 → (vp_in (x3 + 1) L ∧ B_X10_score (fun r_50 σ_49 => vp_in (x3 + 1) L ∧ B_X11_score (fun r_52 σ_51 => ((lg_cmp r_50 r_52) = 0 → (B_L_law_693 L xs (L_L_law_18 L xs u) x3 σ_51)) ∧ (¬ (lg_cmp r_50 r_52) = 0 → (False))) (xs (x3 + 1).toNatClampNeg) σ_49) (xs (x3 + 1).toNatClampNeg) σ)) ∧ (((xs x3.toNatClampNeg) &&& 31) = 13 → (vp_in (x3 + 1) L ∧ B_X10_keep (fun r_54 σ_53 => vp_in (x3 + 1) L ∧ B_X11_keep (fun r_56 σ_55 => (r_54 = r_56 → (B_L_law_693 L xs (L_L_law_18 L xs u) x3 σ_55)) ∧ (¬ r_54 = r_56 → (False))) (xs (x3 + 1).toNatClampNeg) σ_53) (xs (x3 + 1).toNatClampNeg) σ)) ∧ (((xs x3.toNatClampNeg) &&& 31) = 14 → (vp_in (x3 + 1) L ∧ B_X10_open (fun r_58 σ_57 => vp_in (x3 + 1) L ∧ B_X11_open (fun r_60 σ_59 => (r_58 = r_60 → (B_L_law_693 L xs (L_L_law_18 L xs u) x3 σ_59)) ∧ (¬ r_58 = r_60 → (False))) (xs (x3 + 1).toNatClampNeg) σ_57) (xs (x3 + 1).toNatClampNeg) σ)) ∧ (((xs x3.toNatClampNeg) &&& 31) = 15 → (vp_in (x3 + 1) L ∧ vp_in (x3 + 2) L ∧ B_X10_next (fun r_62 σ_61 => vp_in (x3 + 1) L ∧ vp_in (x3 + 2) L ∧ B_X11_next (fun r_64 σ_63 => (r_62 = r_64 → (B_L_law_693 L xs (L_L_law_18 L xs u) x3 σ_63)) ∧ (¬ r_62 = r_64 → (False))) (xs (x3 + 1).toNatClampNeg) (xs (x3 + 2).toNatClampNeg) σ_61) (xs (x3 + 1).toNatClampNeg) (xs (x3 + 2).toNatClampNeg) σ)) ∧ (((xs x3.toNatClampNeg) &&& 31) = 16 → (vp_in (x3 + 1) L ∧ B_X10_close (fun r_66 σ_65 => vp_in (x3 + 1) L ∧ B_X11_close (fun r_68 σ_67 => (r_66 = r_68 → (B_L_law_693 L xs (L_L_law_18 L xs u) x3 σ_67)) ∧ (¬ r_66 = r_68 → (False))) (xs (x3 + 1).toNatClampNeg) σ_65) (xs (x3 + 1).toNatClampNeg) σ)) ∧ (((xs x3.toNatClampNeg) &&& 31) = 17 → (vp_in (x3 + 1) L ∧ B_X10_rewrite (fun r_70 σ_69 => vp_in (x3 + 1) L ∧ B_X11_rewrite (fun r_72 σ_71 => (r_70 = r_72 → (B_L_law_693 L xs (L_L_law_18 L xs u) x3 σ_71)) ∧ (¬ r_70 = r_72 → (False))) (xs (x3 + 1).toNatClampNeg) σ_69) (xs (x3 + 1).toNatClampNeg) σ)) ∧ (((xs x3.toNatClampNeg) &&& 31) = 18 → (vp_in (x3 + 1) L ∧ B_X10_sum (fun r_74 σ_73 => vp_in (x3 + 1) L ∧ B_X11_sum (fun r_76 σ_75 => (r_74 = r_76 → (B_L_law_693 L xs (L_L_law_18 L xs u) x3 σ_75)) ∧ (¬ r_74 = r_76 → (False))) (xs (x3 + 1).toNatClampNeg) σ_73) (xs (x3 + 1).toNatClampNeg) σ)) ∧ (Int32.toInt ((xs x3.toNatClampNeg) &&& 31) < 0 ∨ 18 < Int32.toInt ((xs x3.toNatClampNeg) &&& 31) → (B_L_law_693 L xs (L_L_law_18 L xs u) x3 σ))))
set_option maxRecDepth 20000 in
set_option maxHeartbeats 2000000 in
theorem kL_L_law_18 {G : zv_G} {X : zv_X} {b L : Nat} {xs : Nat → Int32}  (hC : zv_C G X M_L_law) (hS : zl_S X b L xs) (hR : zl_R G X M_L_law)  : ∀ (n : Nat) (x3 : Int32) (σ : zv_St), L_L_law_18 L xs  n x3 σ → zv_V G X M_L_law 18 [(0, .ref b), (1, .ref (G.2.2.1 0)), (2, .ref (G.2.2.1 45)), (3, .int x3)] [] σ := by
  intro n
  induction n with
  | zero => intro x3 σ h; exact h.elim
  | succ n hk18 =>
    intro x3 σ h
    unfold L_L_law_18 at h
    refine zv_iload_n hC dL_law_18 rfl ?_
    refine zv_aload_n hC dL_law_19 rfl ?_
    refine zl_slen hC hS dL_law_20 ?_
    refine zv_iconst (v := 4) hC dL_law_21 (by decide) ?_
    refine zv_isub hC dL_law_22 ?_
    refine zv_icmp_gt (tgt := 699) hC dL_law_23 (by decide) (fun c => ?_) (fun c => ?_)
    · replace h := h.1 c
      refine zv_iconst (v := 1) hC dL_law_699 (by decide) ?_
      exact hR _ _ _ dL_law_700
    · replace h := h.2 c
      refine zv_aload_n hC dL_law_26 rfl ?_
      refine zv_iload_n hC dL_law_27 rfl ?_
      refine zl_sld hC hS h.1 dL_law_28 ?_
      replace h := h.2
      refine zv_bipush (v := 31) hC dL_law_29 (by decide) ?_
      refine zv_iand hC dL_law_31 ?_
      refine zv_swV (zv_sw_0_18) ?_
      rintro (c | c | c | c | c | c | c | c | c | c | c | c | c | c | c | c | c | c | c | c)
      · replace h := h.1 c
        refine zv_table (off := 92) (tgt := 124) hC dL_law_32 (by rw [c]; decide) (by rw [c]; decide) (by rw [c]; rfl) (by decide) ?_
        refine zv_aload_n hC dL_law_124 rfl ?_
        refine zv_aload_n hC dL_law_125 rfl ?_
        refine zv_iload_n hC dL_law_126 rfl ?_
        refine zv_iconst (v := 1) hC dL_law_127 (by decide) ?_
        refine zv_iadd hC dL_law_128 ?_
        refine zl_sld hC hS h.1 dL_law_129 ?_
        replace h := h.2
        refine zv_aload_n hC dL_law_130 rfl ?_
        refine zv_iload_n hC dL_law_131 rfl ?_
        refine zv_iconst (v := 2) hC dL_law_132 (by decide) ?_
        refine zv_iadd hC dL_law_133 ?_
        refine zl_sld hC hS h.1 dL_law_134 ?_
        replace h := h.2
        refine zv_aload_n hC dL_law_135 rfl ?_
        refine zv_iload_n hC dL_law_136 rfl ?_
        refine zv_iconst (v := 3) hC dL_law_137 (by decide) ?_
        refine zv_iadd hC dL_law_138 ?_
        refine zl_sld hC hS h.1 dL_law_139 ?_
        replace h := h.2
        refine zv_callVi (As := [_, _, _]) hC dL_law_140 Y_X10_put lk_L_13 (by decide) rfl rfl rfl (Nat.le_of_ble_eq_true rfl) (ok_X10_put G h) ?_
        intro r_2 σ_1 h
        refine zv_aload_n hC dL_law_143 rfl ?_
        refine zv_aload_n hC dL_law_144 rfl ?_
        refine zv_iload_n hC dL_law_145 rfl ?_
        refine zv_iconst (v := 1) hC dL_law_146 (by decide) ?_
        refine zv_iadd hC dL_law_147 ?_
        refine zl_sld hC hS h.1 dL_law_148 ?_
        replace h := h.2
        refine zv_aload_n hC dL_law_149 rfl ?_
        refine zv_iload_n hC dL_law_150 rfl ?_
        refine zv_iconst (v := 2) hC dL_law_151 (by decide) ?_
        refine zv_iadd hC dL_law_152 ?_
        refine zl_sld hC hS h.1 dL_law_153 ?_
        replace h := h.2
        refine zv_aload_n hC dL_law_154 rfl ?_
        refine zv_iload_n hC dL_law_155 rfl ?_
        refine zv_iconst (v := 3) hC dL_law_156 (by decide) ?_
        refine zv_iadd hC dL_law_157 ?_
        refine zl_sld hC hS h.1 dL_law_158 ?_
        replace h := h.2
        refine zv_callVi (As := [_, _, _]) hC dL_law_159 Y_X11_put lk_L_17 (by decide) rfl rfl rfl (Nat.le_of_ble_eq_true rfl) (ok_X11_put G h) ?_
        intro r_4 σ_3 h
        refine zv_icmp_eq (tgt := 693) hC dL_law_162 (by decide) (fun c => ?_) (fun c => ?_)
        · replace h := h.1 c
          exact zv_go (k_L_law_693 hC hS hR hk18 h) ⟨rfl, rfl, rfl, rfl, trivial⟩
        · replace h := h.2 c
          refine zv_iconst (v := 0) hC dL_law_165 (by decide) ?_
          exact h.elim
      · replace h := h.2.1 c
        refine zv_table (off := 135) (tgt := 167) hC dL_law_32 (by rw [c]; decide) (by rw [c]; decide) (by rw [c]; rfl) (by decide) ?_
        refine zv_aload_n hC dL_law_167 rfl ?_
        refine zv_aload_n hC dL_law_168 rfl ?_
        refine zv_iload_n hC dL_law_169 rfl ?_
        refine zv_iconst (v := 1) hC dL_law_170 (by decide) ?_
        refine zv_iadd hC dL_law_171 ?_
        refine zl_sld hC hS h.1 dL_law_172 ?_
        replace h := h.2
        refine zv_aload_n hC dL_law_173 rfl ?_
        refine zv_iload_n hC dL_law_174 rfl ?_
        refine zv_iconst (v := 2) hC dL_law_175 (by decide) ?_
        refine zv_iadd hC dL_law_176 ?_
        refine zl_sld hC hS h.1 dL_law_177 ?_
        replace h := h.2
        refine zv_callVi (As := [_, _]) hC dL_law_178 Y_X10_take lk_L_18 (by decide) rfl rfl rfl (Nat.le_of_ble_eq_true rfl) (ok_X10_take G h) ?_
        intro r_6 σ_5 h
        refine zv_aload_n hC dL_law_181 rfl ?_
        refine zv_aload_n hC dL_law_182 rfl ?_
        refine zv_iload_n hC dL_law_183 rfl ?_
        refine zv_iconst (v := 1) hC dL_law_184 (by decide) ?_
        refine zv_iadd hC dL_law_185 ?_
        refine zl_sld hC hS h.1 dL_law_186 ?_
        replace h := h.2
        refine zv_aload_n hC dL_law_187 rfl ?_
        refine zv_iload_n hC dL_law_188 rfl ?_
        refine zv_iconst (v := 2) hC dL_law_189 (by decide) ?_
        refine zv_iadd hC dL_law_190 ?_
        refine zl_sld hC hS h.1 dL_law_191 ?_
        replace h := h.2
        refine zv_callVi (As := [_, _]) hC dL_law_192 Y_X11_take lk_L_22 (by decide) rfl rfl rfl (Nat.le_of_ble_eq_true rfl) (ok_X11_take G h) ?_
        intro r_8 σ_7 h
        refine zv_icmp_eq (tgt := 693) hC dL_law_195 (by decide) (fun c => ?_) (fun c => ?_)
        · replace h := h.1 c
          exact zv_go (k_L_law_693 hC hS hR hk18 h) ⟨rfl, rfl, rfl, rfl, trivial⟩
        · replace h := h.2 c
          refine zv_iconst (v := 0) hC dL_law_198 (by decide) ?_
          exact h.elim
      · replace h := h.2.2.1 c
        refine zv_table (off := 168) (tgt := 200) hC dL_law_32 (by rw [c]; decide) (by rw [c]; decide) (by rw [c]; rfl) (by decide) ?_
        refine zv_aload_n hC dL_law_200 rfl ?_
        refine zv_aload_n hC dL_law_201 rfl ?_
        refine zv_iload_n hC dL_law_202 rfl ?_
        refine zv_iconst (v := 1) hC dL_law_203 (by decide) ?_
        refine zv_iadd hC dL_law_204 ?_
        refine zl_sld hC hS h.1 dL_law_205 ?_
        replace h := h.2
        refine zv_aload_n hC dL_law_206 rfl ?_
        refine zv_iload_n hC dL_law_207 rfl ?_
        refine zv_iconst (v := 2) hC dL_law_208 (by decide) ?_
        refine zv_iadd hC dL_law_209 ?_
        refine zl_sld hC hS h.1 dL_law_210 ?_
        replace h := h.2
        refine zv_aload_n hC dL_law_211 rfl ?_
        refine zv_iload_n hC dL_law_212 rfl ?_
        refine zv_iconst (v := 3) hC dL_law_213 (by decide) ?_
        refine zv_iadd hC dL_law_214 ?_
        refine zl_sld hC hS h.1 dL_law_215 ?_
        replace h := h.2
        refine zv_callVi (As := [_, _, _]) hC dL_law_216 Y_X10_node lk_L_23 (by decide) rfl rfl rfl (Nat.le_of_ble_eq_true rfl) (ok_X10_node G h) ?_
        intro r_10 σ_9 h
        refine zv_aload_n hC dL_law_219 rfl ?_
        refine zv_aload_n hC dL_law_220 rfl ?_
        refine zv_iload_n hC dL_law_221 rfl ?_
        refine zv_iconst (v := 1) hC dL_law_222 (by decide) ?_
        refine zv_iadd hC dL_law_223 ?_
        refine zl_sld hC hS h.1 dL_law_224 ?_
        replace h := h.2
        refine zv_aload_n hC dL_law_225 rfl ?_
        refine zv_iload_n hC dL_law_226 rfl ?_
        refine zv_iconst (v := 2) hC dL_law_227 (by decide) ?_
        refine zv_iadd hC dL_law_228 ?_
        refine zl_sld hC hS h.1 dL_law_229 ?_
        replace h := h.2
        refine zv_aload_n hC dL_law_230 rfl ?_
        refine zv_iload_n hC dL_law_231 rfl ?_
        refine zv_iconst (v := 3) hC dL_law_232 (by decide) ?_
        refine zv_iadd hC dL_law_233 ?_
        refine zl_sld hC hS h.1 dL_law_234 ?_
        replace h := h.2
        refine zv_callVi (As := [_, _, _]) hC dL_law_235 Y_X11_node lk_L_26 (by decide) rfl rfl rfl (Nat.le_of_ble_eq_true rfl) (ok_X11_node G h) ?_
        intro r_12 σ_11 h
        refine zv_icmp_eq (tgt := 693) hC dL_law_238 (by decide) (fun c => ?_) (fun c => ?_)
        · replace h := h.1 c
          exact zv_go (k_L_law_693 hC hS hR hk18 h) ⟨rfl, rfl, rfl, rfl, trivial⟩
        · replace h := h.2 c
          refine zv_iconst (v := 0) hC dL_law_241 (by decide) ?_
          exact h.elim
      · replace h := h.2.2.2.1 c
        refine zv_table (off := 211) (tgt := 243) hC dL_law_32 (by rw [c]; decide) (by rw [c]; decide) (by rw [c]; rfl) (by decide) ?_
        refine zv_aload_n hC dL_law_243 rfl ?_
        refine zv_aload_n hC dL_law_244 rfl ?_
        refine zv_iload_n hC dL_law_245 rfl ?_
        refine zv_iconst (v := 1) hC dL_law_246 (by decide) ?_
        refine zv_iadd hC dL_law_247 ?_
        refine zl_sld hC hS h.1 dL_law_248 ?_
        replace h := h.2
        refine zv_aload_n hC dL_law_249 rfl ?_
        refine zv_iload_n hC dL_law_250 rfl ?_
        refine zv_iconst (v := 2) hC dL_law_251 (by decide) ?_
        refine zv_iadd hC dL_law_252 ?_
        refine zl_sld hC hS h.1 dL_law_253 ?_
        replace h := h.2
        refine zv_aload_n hC dL_law_254 rfl ?_
        refine zv_iload_n hC dL_law_255 rfl ?_
        refine zv_iconst (v := 3) hC dL_law_256 (by decide) ?_
        refine zv_iadd hC dL_law_257 ?_
        refine zl_sld hC hS h.1 dL_law_258 ?_
        replace h := h.2
        refine zv_callVi (As := [_, _, _]) hC dL_law_259 Y_X10_part lk_L_27 (by decide) rfl rfl rfl (Nat.le_of_ble_eq_true rfl) (ok_X10_part G h) ?_
        intro r_14 σ_13 h
        refine zv_aload_n hC dL_law_262 rfl ?_
        refine zv_aload_n hC dL_law_263 rfl ?_
        refine zv_iload_n hC dL_law_264 rfl ?_
        refine zv_iconst (v := 1) hC dL_law_265 (by decide) ?_
        refine zv_iadd hC dL_law_266 ?_
        refine zl_sld hC hS h.1 dL_law_267 ?_
        replace h := h.2
        refine zv_aload_n hC dL_law_268 rfl ?_
        refine zv_iload_n hC dL_law_269 rfl ?_
        refine zv_iconst (v := 2) hC dL_law_270 (by decide) ?_
        refine zv_iadd hC dL_law_271 ?_
        refine zl_sld hC hS h.1 dL_law_272 ?_
        replace h := h.2
        refine zv_aload_n hC dL_law_273 rfl ?_
        refine zv_iload_n hC dL_law_274 rfl ?_
        refine zv_iconst (v := 3) hC dL_law_275 (by decide) ?_
        refine zv_iadd hC dL_law_276 ?_
        refine zl_sld hC hS h.1 dL_law_277 ?_
        replace h := h.2
        refine zv_callVi (As := [_, _, _]) hC dL_law_278 Y_X11_part lk_L_30 (by decide) rfl rfl rfl (Nat.le_of_ble_eq_true rfl) (ok_X11_part G h) ?_
        intro r_16 σ_15 h
        refine zv_icmp_eq (tgt := 693) hC dL_law_281 (by decide) (fun c => ?_) (fun c => ?_)
        · replace h := h.1 c
          exact zv_go (k_L_law_693 hC hS hR hk18 h) ⟨rfl, rfl, rfl, rfl, trivial⟩
        · replace h := h.2 c
          refine zv_iconst (v := 0) hC dL_law_284 (by decide) ?_
          exact h.elim
      · replace h := h.2.2.2.2.1 c
        refine zv_table (off := 254) (tgt := 286) hC dL_law_32 (by rw [c]; decide) (by rw [c]; decide) (by rw [c]; rfl) (by decide) ?_
        refine zv_aload_n hC dL_law_286 rfl ?_
        refine zv_aload_n hC dL_law_287 rfl ?_
        refine zv_iload_n hC dL_law_288 rfl ?_
        refine zv_iconst (v := 1) hC dL_law_289 (by decide) ?_
        refine zv_iadd hC dL_law_290 ?_
        refine zl_sld hC hS h.1 dL_law_291 ?_
        replace h := h.2
        refine zv_aload_n hC dL_law_292 rfl ?_
        refine zv_iload_n hC dL_law_293 rfl ?_
        refine zv_iconst (v := 2) hC dL_law_294 (by decide) ?_
        refine zv_iadd hC dL_law_295 ?_
        refine zl_sld hC hS h.1 dL_law_296 ?_
        replace h := h.2
        refine zv_callVi (As := [_, _]) hC dL_law_297 Y_X10_told lk_L_31 (by decide) rfl rfl rfl (Nat.le_of_ble_eq_true rfl) (ok_X10_told G h) ?_
        intro r_18 σ_17 h
        refine zv_aload_n hC dL_law_300 rfl ?_
        refine zv_aload_n hC dL_law_301 rfl ?_
        refine zv_iload_n hC dL_law_302 rfl ?_
        refine zv_iconst (v := 1) hC dL_law_303 (by decide) ?_
        refine zv_iadd hC dL_law_304 ?_
        refine zl_sld hC hS h.1 dL_law_305 ?_
        replace h := h.2
        refine zv_aload_n hC dL_law_306 rfl ?_
        refine zv_iload_n hC dL_law_307 rfl ?_
        refine zv_iconst (v := 2) hC dL_law_308 (by decide) ?_
        refine zv_iadd hC dL_law_309 ?_
        refine zl_sld hC hS h.1 dL_law_310 ?_
        replace h := h.2
        refine zv_callVi (As := [_, _]) hC dL_law_311 Y_X11_told lk_L_34 (by decide) rfl rfl rfl (Nat.le_of_ble_eq_true rfl) (ok_X11_told G h) ?_
        intro r_20 σ_19 h
        refine zv_icmp_eq (tgt := 693) hC dL_law_314 (by decide) (fun c => ?_) (fun c => ?_)
        · replace h := h.1 c
          exact zv_go (k_L_law_693 hC hS hR hk18 h) ⟨rfl, rfl, rfl, rfl, trivial⟩
        · replace h := h.2 c
          refine zv_iconst (v := 0) hC dL_law_317 (by decide) ?_
          exact h.elim
      · replace h := h.2.2.2.2.2.1 c
        refine zv_table (off := 287) (tgt := 319) hC dL_law_32 (by rw [c]; decide) (by rw [c]; decide) (by rw [c]; rfl) (by decide) ?_
        refine zv_aload_n hC dL_law_319 rfl ?_
        refine zv_aload_n hC dL_law_320 rfl ?_
        refine zv_iload_n hC dL_law_321 rfl ?_
        refine zv_iconst (v := 1) hC dL_law_322 (by decide) ?_
        refine zv_iadd hC dL_law_323 ?_
        refine zl_sld hC hS h.1 dL_law_324 ?_
        replace h := h.2
        refine zv_aload_n hC dL_law_325 rfl ?_
        refine zv_iload_n hC dL_law_326 rfl ?_
        refine zv_iconst (v := 2) hC dL_law_327 (by decide) ?_
        refine zv_iadd hC dL_law_328 ?_
        refine zl_sld hC hS h.1 dL_law_329 ?_
        replace h := h.2
        refine zv_aload_n hC dL_law_330 rfl ?_
        refine zv_iload_n hC dL_law_331 rfl ?_
        refine zv_iconst (v := 3) hC dL_law_332 (by decide) ?_
        refine zv_iadd hC dL_law_333 ?_
        refine zl_sld hC hS h.1 dL_law_334 ?_
        replace h := h.2
        refine zv_callVi (As := [_, _, _]) hC dL_law_335 Y_X10_partOf lk_L_35 (by decide) rfl rfl rfl (Nat.le_of_ble_eq_true rfl) (ok_X10_partOf G h) ?_
        intro r_22 σ_21 h
        refine zv_aload_n hC dL_law_338 rfl ?_
        refine zv_aload_n hC dL_law_339 rfl ?_
        refine zv_iload_n hC dL_law_340 rfl ?_
        refine zv_iconst (v := 1) hC dL_law_341 (by decide) ?_
        refine zv_iadd hC dL_law_342 ?_
        refine zl_sld hC hS h.1 dL_law_343 ?_
        replace h := h.2
        refine zv_aload_n hC dL_law_344 rfl ?_
        refine zv_iload_n hC dL_law_345 rfl ?_
        refine zv_iconst (v := 2) hC dL_law_346 (by decide) ?_
        refine zv_iadd hC dL_law_347 ?_
        refine zl_sld hC hS h.1 dL_law_348 ?_
        replace h := h.2
        refine zv_aload_n hC dL_law_349 rfl ?_
        refine zv_iload_n hC dL_law_350 rfl ?_
        refine zv_iconst (v := 3) hC dL_law_351 (by decide) ?_
        refine zv_iadd hC dL_law_352 ?_
        refine zl_sld hC hS h.1 dL_law_353 ?_
        replace h := h.2
        refine zv_callVi (As := [_, _, _]) hC dL_law_354 Y_X11_partOf lk_L_38 (by decide) rfl rfl rfl (Nat.le_of_ble_eq_true rfl) (ok_X11_partOf G h) ?_
        intro r_24 σ_23 h
        refine zv_icmp_eq (tgt := 693) hC dL_law_357 (by decide) (fun c => ?_) (fun c => ?_)
        · replace h := h.1 c
          exact zv_go (k_L_law_693 hC hS hR hk18 h) ⟨rfl, rfl, rfl, rfl, trivial⟩
        · replace h := h.2 c
          refine zv_iconst (v := 0) hC dL_law_360 (by decide) ?_
          exact h.elim
      · replace h := h.2.2.2.2.2.2.1 c
        refine zv_table (off := 330) (tgt := 362) hC dL_law_32 (by rw [c]; decide) (by rw [c]; decide) (by rw [c]; rfl) (by decide) ?_
        refine zv_aload_n hC dL_law_362 rfl ?_
        refine zv_aload_n hC dL_law_363 rfl ?_
        refine zv_iload_n hC dL_law_364 rfl ?_
        refine zv_iconst (v := 1) hC dL_law_365 (by decide) ?_
        refine zv_iadd hC dL_law_366 ?_
        refine zl_sld hC hS h.1 dL_law_367 ?_
        replace h := h.2
        refine zv_aload_n hC dL_law_368 rfl ?_
        refine zv_iload_n hC dL_law_369 rfl ?_
        refine zv_iconst (v := 2) hC dL_law_370 (by decide) ?_
        refine zv_iadd hC dL_law_371 ?_
        refine zl_sld hC hS h.1 dL_law_372 ?_
        replace h := h.2
        refine zv_callVi (As := [_, _]) hC dL_law_373 Y_X10_may lk_L_39 (by decide) rfl rfl rfl (Nat.le_of_ble_eq_true rfl) (ok_X10_may G h) ?_
        intro r_26 σ_25 h
        refine zv_aload_n hC dL_law_376 rfl ?_
        refine zv_aload_n hC dL_law_377 rfl ?_
        refine zv_iload_n hC dL_law_378 rfl ?_
        refine zv_iconst (v := 1) hC dL_law_379 (by decide) ?_
        refine zv_iadd hC dL_law_380 ?_
        refine zl_sld hC hS h.1 dL_law_381 ?_
        replace h := h.2
        refine zv_aload_n hC dL_law_382 rfl ?_
        refine zv_iload_n hC dL_law_383 rfl ?_
        refine zv_iconst (v := 2) hC dL_law_384 (by decide) ?_
        refine zv_iadd hC dL_law_385 ?_
        refine zl_sld hC hS h.1 dL_law_386 ?_
        replace h := h.2
        refine zv_callVi (As := [_, _]) hC dL_law_387 Y_X11_may lk_L_43 (by decide) rfl rfl rfl (Nat.le_of_ble_eq_true rfl) (ok_X11_may G h) ?_
        intro r_28 σ_27 h
        refine zv_icmp_eq (tgt := 693) hC dL_law_390 (by decide) (fun c => ?_) (fun c => ?_)
        · replace h := h.1 c
          exact zv_go (k_L_law_693 hC hS hR hk18 h) ⟨rfl, rfl, rfl, rfl, trivial⟩
        · replace h := h.2 c
          refine zv_iconst (v := 0) hC dL_law_393 (by decide) ?_
          exact h.elim
      · replace h := h.2.2.2.2.2.2.2.1 c
        refine zv_table (off := 363) (tgt := 395) hC dL_law_32 (by rw [c]; decide) (by rw [c]; decide) (by rw [c]; rfl) (by decide) ?_
        refine zv_aload_n hC dL_law_395 rfl ?_
        refine zv_aload_n hC dL_law_396 rfl ?_
        refine zv_iload_n hC dL_law_397 rfl ?_
        refine zv_iconst (v := 1) hC dL_law_398 (by decide) ?_
        refine zv_iadd hC dL_law_399 ?_
        refine zl_sld hC hS h.1 dL_law_400 ?_
        replace h := h.2
        refine zv_aload_n hC dL_law_401 rfl ?_
        refine zv_iload_n hC dL_law_402 rfl ?_
        refine zv_iconst (v := 2) hC dL_law_403 (by decide) ?_
        refine zv_iadd hC dL_law_404 ?_
        refine zl_sld hC hS h.1 dL_law_405 ?_
        replace h := h.2
        refine zv_callVi (As := [_, _]) hC dL_law_406 Y_X10_sure lk_L_44 (by decide) rfl rfl rfl (Nat.le_of_ble_eq_true rfl) (ok_X10_sure G h) ?_
        intro r_30 σ_29 h
        refine zv_aload_n hC dL_law_409 rfl ?_
        refine zv_aload_n hC dL_law_410 rfl ?_
        refine zv_iload_n hC dL_law_411 rfl ?_
        refine zv_iconst (v := 1) hC dL_law_412 (by decide) ?_
        refine zv_iadd hC dL_law_413 ?_
        refine zl_sld hC hS h.1 dL_law_414 ?_
        replace h := h.2
        refine zv_aload_n hC dL_law_415 rfl ?_
        refine zv_iload_n hC dL_law_416 rfl ?_
        refine zv_iconst (v := 2) hC dL_law_417 (by decide) ?_
        refine zv_iadd hC dL_law_418 ?_
        refine zl_sld hC hS h.1 dL_law_419 ?_
        replace h := h.2
        refine zv_callVi (As := [_, _]) hC dL_law_420 Y_X11_sure lk_L_47 (by decide) rfl rfl rfl (Nat.le_of_ble_eq_true rfl) (ok_X11_sure G h) ?_
        intro r_32 σ_31 h
        refine zv_icmp_eq (tgt := 693) hC dL_law_423 (by decide) (fun c => ?_) (fun c => ?_)
        · replace h := h.1 c
          exact zv_go (k_L_law_693 hC hS hR hk18 h) ⟨rfl, rfl, rfl, rfl, trivial⟩
        · replace h := h.2 c
          refine zv_iconst (v := 0) hC dL_law_426 (by decide) ?_
          exact h.elim
      · replace h := h.2.2.2.2.2.2.2.2.1 c
        refine zv_table (off := 396) (tgt := 428) hC dL_law_32 (by rw [c]; decide) (by rw [c]; decide) (by rw [c]; rfl) (by decide) ?_
        refine zv_aload_n hC dL_law_428 rfl ?_
        refine zv_aload_n hC dL_law_429 rfl ?_
        refine zv_iload_n hC dL_law_430 rfl ?_
        refine zv_iconst (v := 1) hC dL_law_431 (by decide) ?_
        refine zv_iadd hC dL_law_432 ?_
        refine zl_sld hC hS h.1 dL_law_433 ?_
        replace h := h.2
        refine zv_aload_n hC dL_law_434 rfl ?_
        refine zv_iload_n hC dL_law_435 rfl ?_
        refine zv_iconst (v := 2) hC dL_law_436 (by decide) ?_
        refine zv_iadd hC dL_law_437 ?_
        refine zl_sld hC hS h.1 dL_law_438 ?_
        replace h := h.2
        refine zv_callVi (As := [_, _]) hC dL_law_439 Y_X10_look lk_L_48 (by decide) rfl rfl rfl (Nat.le_of_ble_eq_true rfl) (ok_X10_look G h) ?_
        intro r_34 σ_33 h
        refine zv_aload_n hC dL_law_442 rfl ?_
        refine zv_aload_n hC dL_law_443 rfl ?_
        refine zv_iload_n hC dL_law_444 rfl ?_
        refine zv_iconst (v := 1) hC dL_law_445 (by decide) ?_
        refine zv_iadd hC dL_law_446 ?_
        refine zl_sld hC hS h.1 dL_law_447 ?_
        replace h := h.2
        refine zv_aload_n hC dL_law_448 rfl ?_
        refine zv_iload_n hC dL_law_449 rfl ?_
        refine zv_iconst (v := 2) hC dL_law_450 (by decide) ?_
        refine zv_iadd hC dL_law_451 ?_
        refine zl_sld hC hS h.1 dL_law_452 ?_
        replace h := h.2
        refine zv_callVi (As := [_, _]) hC dL_law_453 Y_X11_look lk_L_51 (by decide) rfl rfl rfl (Nat.le_of_ble_eq_true rfl) (ok_X11_look G h) ?_
        intro r_36 σ_35 h
        refine zv_icmp_eq (tgt := 693) hC dL_law_456 (by decide) (fun c => ?_) (fun c => ?_)
        · replace h := h.1 c
          exact zv_go (k_L_law_693 hC hS hR hk18 h) ⟨rfl, rfl, rfl, rfl, trivial⟩
        · replace h := h.2 c
          refine zv_iconst (v := 0) hC dL_law_459 (by decide) ?_
          exact h.elim
      · replace h := h.2.2.2.2.2.2.2.2.2.1 c
        refine zv_table (off := 429) (tgt := 461) hC dL_law_32 (by rw [c]; decide) (by rw [c]; decide) (by rw [c]; rfl) (by decide) ?_
        refine zv_aload_n hC dL_law_461 rfl ?_
        refine zv_callVl (As := []) hC dL_law_462 Y_X10_scored lk_L_52 (by decide) rfl rfl rfl (Nat.le_of_ble_eq_true rfl) (ok_X10_scored G h) ?_
        intro r_38 σ_37 h
        refine zv_aload_n hC dL_law_465 rfl ?_
        refine zv_callVl (As := []) hC dL_law_466 Y_X11_scored lk_L_56 (by decide) rfl rfl rfl (Nat.le_of_ble_eq_true rfl) (ok_X11_scored G h) ?_
        intro r_40 σ_39 h
        refine zv_lcmp hC dL_law_469 ?_
        refine zv_if_eq (tgt := 693) hC dL_law_470 (by decide) (fun c => ?_) (fun c => ?_)
        · replace h := h.1 c
          exact zv_go (k_L_law_693 hC hS hR hk18 h) ⟨rfl, rfl, rfl, rfl, trivial⟩
        · replace h := h.2 c
          refine zv_iconst (v := 0) hC dL_law_473 (by decide) ?_
          exact h.elim
      · replace h := h.2.2.2.2.2.2.2.2.2.2.1 c
        refine zv_table (off := 443) (tgt := 475) hC dL_law_32 (by rw [c]; decide) (by rw [c]; decide) (by rw [c]; rfl) (by decide) ?_
        refine zv_aload_n hC dL_law_475 rfl ?_
        refine zv_aload_n hC dL_law_476 rfl ?_
        refine zv_iload_n hC dL_law_477 rfl ?_
        refine zv_iconst (v := 1) hC dL_law_478 (by decide) ?_
        refine zv_iadd hC dL_law_479 ?_
        refine zl_sld hC hS h.1 dL_law_480 ?_
        replace h := h.2
        refine zv_callVi (As := [_]) hC dL_law_481 Y_X10_run lk_L_57 (by decide) rfl rfl rfl (Nat.le_of_ble_eq_true rfl) (ok_X10_run G h) ?_
        intro r_42 σ_41 h
        refine zv_aload_n hC dL_law_484 rfl ?_
        refine zv_aload_n hC dL_law_485 rfl ?_
        refine zv_iload_n hC dL_law_486 rfl ?_
        refine zv_iconst (v := 1) hC dL_law_487 (by decide) ?_
        refine zv_iadd hC dL_law_488 ?_
        refine zl_sld hC hS h.1 dL_law_489 ?_
        replace h := h.2
        refine zv_callVi (As := [_]) hC dL_law_490 Y_X11_run lk_L_61 (by decide) rfl rfl rfl (Nat.le_of_ble_eq_true rfl) (ok_X11_run G h) ?_
        intro r_44 σ_43 h
        refine zv_icmp_eq (tgt := 693) hC dL_law_493 (by decide) (fun c => ?_) (fun c => ?_)
        · replace h := h.1 c
          exact zv_go (k_L_law_693 hC hS hR hk18 h) ⟨rfl, rfl, rfl, rfl, trivial⟩
        · replace h := h.2 c
          refine zv_iconst (v := 0) hC dL_law_496 (by decide) ?_
          exact h.elim
      · replace h := h.2.2.2.2.2.2.2.2.2.2.2.1 c
        refine zv_table (off := 466) (tgt := 498) hC dL_law_32 (by rw [c]; decide) (by rw [c]; decide) (by rw [c]; rfl) (by decide) ?_
        refine zv_aload_n hC dL_law_498 rfl ?_
        refine zv_aload_n hC dL_law_499 rfl ?_
        refine zv_iload_n hC dL_law_500 rfl ?_
        refine zv_iconst (v := 1) hC dL_law_501 (by decide) ?_
        refine zv_iadd hC dL_law_502 ?_
        refine zl_sld hC hS h.1 dL_law_503 ?_
        replace h := h.2
        refine zv_callVi (As := [_]) hC dL_law_504 Y_X10_found lk_L_62 (by decide) rfl rfl rfl (Nat.le_of_ble_eq_true rfl) (ok_X10_found G h) ?_
        intro r_46 σ_45 h
        refine zv_aload_n hC dL_law_507 rfl ?_
        refine zv_aload_n hC dL_law_508 rfl ?_
        refine zv_iload_n hC dL_law_509 rfl ?_
        refine zv_iconst (v := 1) hC dL_law_510 (by decide) ?_
        refine zv_iadd hC dL_law_511 ?_
        refine zl_sld hC hS h.1 dL_law_512 ?_
        replace h := h.2
        refine zv_callVi (As := [_]) hC dL_law_513 Y_X11_found lk_L_65 (by decide) rfl rfl rfl (Nat.le_of_ble_eq_true rfl) (ok_X11_found G h) ?_
        intro r_48 σ_47 h
        refine zv_icmp_eq (tgt := 693) hC dL_law_516 (by decide) (fun c => ?_) (fun c => ?_)
        · replace h := h.1 c
          exact zv_go (k_L_law_693 hC hS hR hk18 h) ⟨rfl, rfl, rfl, rfl, trivial⟩
        · replace h := h.2 c
          refine zv_iconst (v := 0) hC dL_law_519 (by decide) ?_
          exact h.elim
      · replace h := h.2.2.2.2.2.2.2.2.2.2.2.2.1 c
        refine zv_table (off := 489) (tgt := 521) hC dL_law_32 (by rw [c]; decide) (by rw [c]; decide) (by rw [c]; rfl) (by decide) ?_
        refine zv_aload_n hC dL_law_521 rfl ?_
        refine zv_aload_n hC dL_law_522 rfl ?_
        refine zv_iload_n hC dL_law_523 rfl ?_
        refine zv_iconst (v := 1) hC dL_law_524 (by decide) ?_
        refine zv_iadd hC dL_law_525 ?_
        refine zl_sld hC hS h.1 dL_law_526 ?_
        replace h := h.2
        refine zv_callVl (As := [_]) hC dL_law_527 Y_X10_score lk_L_66 (by decide) rfl rfl rfl (Nat.le_of_ble_eq_true rfl) (ok_X10_score G h) ?_
        intro r_50 σ_49 h
        refine zv_aload_n hC dL_law_530 rfl ?_
        refine zv_aload_n hC dL_law_531 rfl ?_
        refine zv_iload_n hC dL_law_532 rfl ?_
        refine zv_iconst (v := 1) hC dL_law_533 (by decide) ?_
        refine zv_iadd hC dL_law_534 ?_
        refine zl_sld hC hS h.1 dL_law_535 ?_
        replace h := h.2
        refine zv_callVl (As := [_]) hC dL_law_536 Y_X11_score lk_L_70 (by decide) rfl rfl rfl (Nat.le_of_ble_eq_true rfl) (ok_X11_score G h) ?_
        intro r_52 σ_51 h
        refine zv_lcmp hC dL_law_539 ?_
        refine zv_if_eq (tgt := 693) hC dL_law_540 (by decide) (fun c => ?_) (fun c => ?_)
        · replace h := h.1 c
          exact zv_go (k_L_law_693 hC hS hR hk18 h) ⟨rfl, rfl, rfl, rfl, trivial⟩
        · replace h := h.2 c
          refine zv_iconst (v := 0) hC dL_law_543 (by decide) ?_
          exact h.elim
      · replace h := h.2.2.2.2.2.2.2.2.2.2.2.2.2.1 c
        refine zv_table (off := 513) (tgt := 545) hC dL_law_32 (by rw [c]; decide) (by rw [c]; decide) (by rw [c]; rfl) (by decide) ?_
        refine zv_aload_n hC dL_law_545 rfl ?_
        refine zv_aload_n hC dL_law_546 rfl ?_
        refine zv_iload_n hC dL_law_547 rfl ?_
        refine zv_iconst (v := 1) hC dL_law_548 (by decide) ?_
        refine zv_iadd hC dL_law_549 ?_
        refine zl_sld hC hS h.1 dL_law_550 ?_
        replace h := h.2
        refine zv_callVi (As := [_]) hC dL_law_551 Y_X10_keep lk_L_71 (by decide) rfl rfl rfl (Nat.le_of_ble_eq_true rfl) (ok_X10_keep G h) ?_
        intro r_54 σ_53 h
        refine zv_aload_n hC dL_law_554 rfl ?_
        refine zv_aload_n hC dL_law_555 rfl ?_
        refine zv_iload_n hC dL_law_556 rfl ?_
        refine zv_iconst (v := 1) hC dL_law_557 (by decide) ?_
        refine zv_iadd hC dL_law_558 ?_
        refine zl_sld hC hS h.1 dL_law_559 ?_
        replace h := h.2
        refine zv_callVi (As := [_]) hC dL_law_560 Y_X11_keep lk_L_74 (by decide) rfl rfl rfl (Nat.le_of_ble_eq_true rfl) (ok_X11_keep G h) ?_
        intro r_56 σ_55 h
        refine zv_icmp_eq (tgt := 693) hC dL_law_563 (by decide) (fun c => ?_) (fun c => ?_)
        · replace h := h.1 c
          exact zv_go (k_L_law_693 hC hS hR hk18 h) ⟨rfl, rfl, rfl, rfl, trivial⟩
        · replace h := h.2 c
          refine zv_iconst (v := 0) hC dL_law_566 (by decide) ?_
          exact h.elim
      · replace h := h.2.2.2.2.2.2.2.2.2.2.2.2.2.2.1 c
        refine zv_table (off := 536) (tgt := 568) hC dL_law_32 (by rw [c]; decide) (by rw [c]; decide) (by rw [c]; rfl) (by decide) ?_
        refine zv_aload_n hC dL_law_568 rfl ?_
        refine zv_aload_n hC dL_law_569 rfl ?_
        refine zv_iload_n hC dL_law_570 rfl ?_
        refine zv_iconst (v := 1) hC dL_law_571 (by decide) ?_
        refine zv_iadd hC dL_law_572 ?_
        refine zl_sld hC hS h.1 dL_law_573 ?_
        replace h := h.2
        refine zv_callVi (As := [_]) hC dL_law_574 Y_X10_open lk_L_75 (by decide) rfl rfl rfl (Nat.le_of_ble_eq_true rfl) (ok_X10_open G h) ?_
        intro r_58 σ_57 h
        refine zv_aload_n hC dL_law_577 rfl ?_
        refine zv_aload_n hC dL_law_578 rfl ?_
        refine zv_iload_n hC dL_law_579 rfl ?_
        refine zv_iconst (v := 1) hC dL_law_580 (by decide) ?_
        refine zv_iadd hC dL_law_581 ?_
        refine zl_sld hC hS h.1 dL_law_582 ?_
        replace h := h.2
        refine zv_callVi (As := [_]) hC dL_law_583 Y_X11_open lk_L_78 (by decide) rfl rfl rfl (Nat.le_of_ble_eq_true rfl) (ok_X11_open G h) ?_
        intro r_60 σ_59 h
        refine zv_icmp_eq (tgt := 693) hC dL_law_586 (by decide) (fun c => ?_) (fun c => ?_)
        · replace h := h.1 c
          exact zv_go (k_L_law_693 hC hS hR hk18 h) ⟨rfl, rfl, rfl, rfl, trivial⟩
        · replace h := h.2 c
          refine zv_iconst (v := 0) hC dL_law_589 (by decide) ?_
          exact h.elim
      · replace h := h.2.2.2.2.2.2.2.2.2.2.2.2.2.2.2.1 c
        refine zv_table (off := 559) (tgt := 591) hC dL_law_32 (by rw [c]; decide) (by rw [c]; decide) (by rw [c]; rfl) (by decide) ?_
        refine zv_aload_n hC dL_law_591 rfl ?_
        refine zv_aload_n hC dL_law_592 rfl ?_
        refine zv_iload_n hC dL_law_593 rfl ?_
        refine zv_iconst (v := 1) hC dL_law_594 (by decide) ?_
        refine zv_iadd hC dL_law_595 ?_
        refine zl_sld hC hS h.1 dL_law_596 ?_
        replace h := h.2
        refine zv_aload_n hC dL_law_597 rfl ?_
        refine zv_iload_n hC dL_law_598 rfl ?_
        refine zv_iconst (v := 2) hC dL_law_599 (by decide) ?_
        refine zv_iadd hC dL_law_600 ?_
        refine zl_sld hC hS h.1 dL_law_601 ?_
        replace h := h.2
        refine zv_callVi (As := [_, _]) hC dL_law_602 Y_X10_next lk_L_79 (by decide) rfl rfl rfl (Nat.le_of_ble_eq_true rfl) (ok_X10_next G h) ?_
        intro r_62 σ_61 h
        refine zv_aload_n hC dL_law_605 rfl ?_
        refine zv_aload_n hC dL_law_606 rfl ?_
        refine zv_iload_n hC dL_law_607 rfl ?_
        refine zv_iconst (v := 1) hC dL_law_608 (by decide) ?_
        refine zv_iadd hC dL_law_609 ?_
        refine zl_sld hC hS h.1 dL_law_610 ?_
        replace h := h.2
        refine zv_aload_n hC dL_law_611 rfl ?_
        refine zv_iload_n hC dL_law_612 rfl ?_
        refine zv_iconst (v := 2) hC dL_law_613 (by decide) ?_
        refine zv_iadd hC dL_law_614 ?_
        refine zl_sld hC hS h.1 dL_law_615 ?_
        replace h := h.2
        refine zv_callVi (As := [_, _]) hC dL_law_616 Y_X11_next lk_L_82 (by decide) rfl rfl rfl (Nat.le_of_ble_eq_true rfl) (ok_X11_next G h) ?_
        intro r_64 σ_63 h
        refine zv_icmp_eq (tgt := 693) hC dL_law_619 (by decide) (fun c => ?_) (fun c => ?_)
        · replace h := h.1 c
          exact zv_go (k_L_law_693 hC hS hR hk18 h) ⟨rfl, rfl, rfl, rfl, trivial⟩
        · replace h := h.2 c
          refine zv_iconst (v := 0) hC dL_law_622 (by decide) ?_
          exact h.elim
      · replace h := h.2.2.2.2.2.2.2.2.2.2.2.2.2.2.2.2.1 c
        refine zv_table (off := 592) (tgt := 624) hC dL_law_32 (by rw [c]; decide) (by rw [c]; decide) (by rw [c]; rfl) (by decide) ?_
        refine zv_aload_n hC dL_law_624 rfl ?_
        refine zv_aload_n hC dL_law_625 rfl ?_
        refine zv_iload_n hC dL_law_626 rfl ?_
        refine zv_iconst (v := 1) hC dL_law_627 (by decide) ?_
        refine zv_iadd hC dL_law_628 ?_
        refine zl_sld hC hS h.1 dL_law_629 ?_
        replace h := h.2
        refine zv_callVi (As := [_]) hC dL_law_630 Y_X10_close lk_L_83 (by decide) rfl rfl rfl (Nat.le_of_ble_eq_true rfl) (ok_X10_close G h) ?_
        intro r_66 σ_65 h
        refine zv_aload_n hC dL_law_633 rfl ?_
        refine zv_aload_n hC dL_law_634 rfl ?_
        refine zv_iload_n hC dL_law_635 rfl ?_
        refine zv_iconst (v := 1) hC dL_law_636 (by decide) ?_
        refine zv_iadd hC dL_law_637 ?_
        refine zl_sld hC hS h.1 dL_law_638 ?_
        replace h := h.2
        refine zv_callVi (As := [_]) hC dL_law_639 Y_X11_close lk_L_86 (by decide) rfl rfl rfl (Nat.le_of_ble_eq_true rfl) (ok_X11_close G h) ?_
        intro r_68 σ_67 h
        refine zv_icmp_eq (tgt := 693) hC dL_law_642 (by decide) (fun c => ?_) (fun c => ?_)
        · replace h := h.1 c
          exact zv_go (k_L_law_693 hC hS hR hk18 h) ⟨rfl, rfl, rfl, rfl, trivial⟩
        · replace h := h.2 c
          refine zv_iconst (v := 0) hC dL_law_645 (by decide) ?_
          exact h.elim
      · replace h := h.2.2.2.2.2.2.2.2.2.2.2.2.2.2.2.2.2.1 c
        refine zv_table (off := 615) (tgt := 647) hC dL_law_32 (by rw [c]; decide) (by rw [c]; decide) (by rw [c]; rfl) (by decide) ?_
        refine zv_aload_n hC dL_law_647 rfl ?_
        refine zv_aload_n hC dL_law_648 rfl ?_
        refine zv_iload_n hC dL_law_649 rfl ?_
        refine zv_iconst (v := 1) hC dL_law_650 (by decide) ?_
        refine zv_iadd hC dL_law_651 ?_
        refine zl_sld hC hS h.1 dL_law_652 ?_
        replace h := h.2
        refine zv_callVi (As := [_]) hC dL_law_653 Y_X10_rewrite lk_L_87 (by decide) rfl rfl rfl (Nat.le_of_ble_eq_true rfl) (ok_X10_rewrite G h) ?_
        intro r_70 σ_69 h
        refine zv_aload_n hC dL_law_656 rfl ?_
        refine zv_aload_n hC dL_law_657 rfl ?_
        refine zv_iload_n hC dL_law_658 rfl ?_
        refine zv_iconst (v := 1) hC dL_law_659 (by decide) ?_
        refine zv_iadd hC dL_law_660 ?_
        refine zl_sld hC hS h.1 dL_law_661 ?_
        replace h := h.2
        refine zv_callVi (As := [_]) hC dL_law_662 Y_X11_rewrite lk_L_90 (by decide) rfl rfl rfl (Nat.le_of_ble_eq_true rfl) (ok_X11_rewrite G h) ?_
        intro r_72 σ_71 h
        refine zv_icmp_eq (tgt := 693) hC dL_law_665 (by decide) (fun c => ?_) (fun c => ?_)
        · replace h := h.1 c
          exact zv_go (k_L_law_693 hC hS hR hk18 h) ⟨rfl, rfl, rfl, rfl, trivial⟩
        · replace h := h.2 c
          refine zv_iconst (v := 0) hC dL_law_668 (by decide) ?_
          exact h.elim
      · replace h := h.2.2.2.2.2.2.2.2.2.2.2.2.2.2.2.2.2.2.1 c
        refine zv_table (off := 638) (tgt := 670) hC dL_law_32 (by rw [c]; decide) (by rw [c]; decide) (by rw [c]; rfl) (by decide) ?_
        refine zv_aload_n hC dL_law_670 rfl ?_
        refine zv_aload_n hC dL_law_671 rfl ?_
        refine zv_iload_n hC dL_law_672 rfl ?_
        refine zv_iconst (v := 1) hC dL_law_673 (by decide) ?_
        refine zv_iadd hC dL_law_674 ?_
        refine zl_sld hC hS h.1 dL_law_675 ?_
        replace h := h.2
        refine zv_callVi (As := [_]) hC dL_law_676 Y_X10_sum lk_L_91 (by decide) rfl rfl rfl (Nat.le_of_ble_eq_true rfl) (ok_X10_sum G h) ?_
        intro r_74 σ_73 h
        refine zv_aload_n hC dL_law_679 rfl ?_
        refine zv_aload_n hC dL_law_680 rfl ?_
        refine zv_iload_n hC dL_law_681 rfl ?_
        refine zv_iconst (v := 1) hC dL_law_682 (by decide) ?_
        refine zv_iadd hC dL_law_683 ?_
        refine zl_sld hC hS h.1 dL_law_684 ?_
        replace h := h.2
        refine zv_callVi (As := [_]) hC dL_law_685 Y_X11_sum lk_L_94 (by decide) rfl rfl rfl (Nat.le_of_ble_eq_true rfl) (ok_X11_sum G h) ?_
        intro r_76 σ_75 h
        refine zv_icmp_eq (tgt := 693) hC dL_law_688 (by decide) (fun c => ?_) (fun c => ?_)
        · replace h := h.1 c
          exact zv_go (k_L_law_693 hC hS hR hk18 h) ⟨rfl, rfl, rfl, rfl, trivial⟩
        · replace h := h.2 c
          refine zv_iconst (v := 0) hC dL_law_691 (by decide) ?_
          exact h.elim
      · replace h := h.2.2.2.2.2.2.2.2.2.2.2.2.2.2.2.2.2.2.2 c
        refine zv_tableD (tgt := 693) hC dL_law_32 c (by decide) ?_
        exact zv_go (k_L_law_693 hC hS hR hk18 h) ⟨rfl, rfl, rfl, rfl, trivial⟩
