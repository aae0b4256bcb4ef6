/-! node. -/
def zp_newok (n kd fs sc : Nat) : Prop := kd ≤ 7 ∧ (kd = 0 → fs < 16 ∧ sc = 0) ∧ (kd = 1 → fs ≤ sc ∧ sc < 512) ∧ (kd = 2 → fs ≤ 8 ∧ sc = 0) ∧ (kd = 3 → fs ≤ 100 ∧ sc = 0) ∧ (kd = 4 → fs < n ∧ sc ≤ 1000000) ∧ (kd = 5 → fs < n ∧ sc ≤ 999999999 ∧ 0 < sc / 1000 % 1000) ∧ (kd = 6 → fs < n ∧ sc = 0) ∧ (kd = 7 → fs = 0 ∧ sc = 0)
theorem zp_newok.small {n kd fs sc : Nat} (h : zp_newok n kd fs sc) (hn : n ≤ 80) : kd < 2 ^ 31 ∧ fs < 2 ^ 31 ∧ sc < 2 ^ 31 := by
  obtain ⟨h, h0, h1, h2, h3, h4, h5, h6, h7⟩ := h
  rcases (show kd = 0 ∨ kd = 1 ∨ kd = 2 ∨ kd = 3 ∨ kd = 4 ∨ kd = 5 ∨ kd = 6 ∨ kd = 7 by omega) with e | e | e | e | e | e | e | e
  · have := h0 e; omega
  · have := h1 e; omega
  · have := h2 e; omega
  · have := h3 e; omega
  · have := h4 e; omega
  · have := h5 e; omega
  · have := h6 e; omega
  · have := h7 e; omega
theorem zp_modulus {b : Nat} (hb : b ≤ 999999999) : (nI b / 1000) - (nI b / 1000) / 1000 * 1000 = nI (b / 1000 % 1000) := by
  have e1 : nI b / 1000 = nI (b / 1000) := pk_div (d := 1000) (by omega) (by decide) (by decide)
  rw [e1]
  exact pk_rem (d := 1000) (by omega) (by decide) (by decide)
/-- the numbers of a NODE: both sides judge them alike -/
theorem zp_nums {σ : zv_St} {n : Nat} (hn : n ≤ 80) (hs : σ.1 5 0 = nI n) (x1 x2 x3 : Int32) :
    ((∀ Q : Int32 → zv_St → Prop, Q 0 σ → B_X10_areNumbersOf Q x1 x2 x3 σ) ∧ (∀ (Q : Int32 → zv_St → Prop) (σ' : zv_St), σ'.1 45 2 = nI n → Q 0 σ' → B_X11_isToldSo Q x1 x2 x3 σ')) ∨
    ∃ kd fs sc, zp_newok n kd fs sc ∧ x1 = nI kd ∧ (if kd = 7 then fs = 0 else x2 = nI fs) ∧ (if kd = 1 ∨ kd = 4 ∨ kd = 5 then x3 = nI sc else sc = 0) ∧
      (∀ Q : Int32 → zv_St → Prop, Q 1 σ → B_X10_areNumbersOf Q x1 x2 x3 σ) ∧ (∀ (Q : Int32 → zv_St → Prop) (σ' : zv_St), σ'.1 45 2 = nI n → Q 1 σ' → B_X11_isToldSo Q x1 x2 x3 σ') := by
  rcases zv_sw_0_7 x1 with c | c | c | c | c | c | c | c | c
  · -- LIST
    subst c
    rcases zp_rng x2 (m := 15) (by decide) with ⟨a, ha, rfl⟩ | h
    · refine Or.inr ⟨0, a, 0, by unfold zp_newok; omega, rfl, rfl, rfl, fun Q q => ⟨fun _ => zp_isList_t (by omega) ⟨rfl, q⟩, fun e => absurd e (by decide), fun e => absurd e (by decide), fun e => absurd e (by decide), fun e => absurd e (by decide), fun e => absurd e (by decide), fun e => absurd e (by decide), fun e => absurd e (by decide), fun e => absurd e (by decide)⟩, fun Q σ' hσ q => ⟨fun _ => zp_in_t (m := 15) rfl ha (by decide) ⟨rfl, q⟩, fun e => absurd e (by decide), fun e => absurd e (by decide), fun e => absurd e (by decide), fun e => absurd e (by decide), fun e => absurd e (by decide), fun e => absurd e (by decide), fun e => absurd e (by decide), fun e => absurd e (by decide)⟩⟩
    · exact Or.inl ⟨fun Q q => ⟨fun _ => zp_isList_f h ⟨rfl, q⟩, fun e => absurd e (by decide), fun e => absurd e (by decide), fun e => absurd e (by decide), fun e => absurd e (by decide), fun e => absurd e (by decide), fun e => absurd e (by decide), fun e => absurd e (by decide), fun e => absurd e (by decide)⟩, fun Q σ' hσ q => ⟨fun _ => zp_in_f (m := 15) rfl h ⟨rfl, q⟩, fun e => absurd e (by decide), fun e => absurd e (by decide), fun e => absurd e (by decide), fun e => absurd e (by decide), fun e => absurd e (by decide), fun e => absurd e (by decide), fun e => absurd e (by decide), fun e => absurd e (by decide)⟩⟩
  · -- RANGE
    subst c
    have mk : ∀ v : Int32, ((∀ Q : Int32 → zv_St → Prop, Q v σ → B_X10_isObject (fun r_4 σ_3 => (r_4 = 0 → (B_X10_areNumbersOf_76 Q σ_3)) ∧ (¬ r_4 = 0 → (B_X10_isObject (fun r_6 σ_5 => (r_6 = 0 → (B_X10_areNumbersOf_76 Q σ_5)) ∧ (¬ r_6 = 0 → ((x3 < x2 → (B_X10_areNumbersOf_76 Q σ_5)) ∧ (¬ x3 < x2 → (B_X10_areNumbersOf_77 Q 1 σ_5))))) x3 σ_3))) x2 σ) ∧ (∀ (Q : Int32 → zv_St → Prop) (σ' : zv_St), σ'.1 45 2 = nI n → Q v σ' → B_X11_isObject (fun r_4 σ_3 => (r_4 = 0 → (B_X11_isToldSo_79 Q σ_3)) ∧ (¬ r_4 = 0 → (B_X11_isObject (fun r_6 σ_5 => (r_6 = 0 → (B_X11_isToldSo_79 Q σ_5)) ∧ (¬ r_6 = 0 → ((x3 < x2 → (B_X11_isToldSo_79 Q σ_5)) ∧ (¬ x3 < x2 → (B_X11_isToldSo_80 Q 1 σ_5))))) x3 σ_3))) x2 σ')) → (∀ Q : Int32 → zv_St → Prop, Q v σ → B_X10_areNumbersOf Q 1 x2 x3 σ) ∧ (∀ (Q : Int32 → zv_St → Prop) (σ' : zv_St), σ'.1 45 2 = nI n → Q v σ' → B_X11_isToldSo Q 1 x2 x3 σ') := fun v hv => ⟨fun Q q => ⟨fun e => absurd e (by decide), fun _ => hv.1 Q q, fun e => absurd e (by decide), fun e => absurd e (by decide), fun e => absurd e (by decide), fun e => absurd e (by decide), fun e => absurd e (by decide), fun e => absurd e (by decide), fun e => absurd e (by decide)⟩, fun Q σ' hσ q => ⟨fun e => absurd e (by decide), fun _ => hv.2 Q σ' hσ q, fun e => absurd e (by decide), fun e => absurd e (by decide), fun e => absurd e (by decide), fun e => absurd e (by decide), fun e => absurd e (by decide), fun e => absurd e (by decide), fun e => absurd e (by decide)⟩⟩
    rcases zp_rng x2 (m := 511) (by decide) with ⟨a, ha, rfl⟩ | h
    · rcases zp_rng x3 (m := 511) (by decide) with ⟨b, hb, rfl⟩ | h2
      · by_cases hab : a ≤ b
        · obtain ⟨m1, m2⟩ := mk 1 ⟨fun Q q => zp_isObject_t (by omega) (zp_f (by decide) (zp_isObject_t (by omega) (zp_f (by decide) (zp_f (nI_nlt hab (by omega)) ⟨rfl, q⟩)))), fun Q σ' hσ q => zp_isObjectR_t (by omega) (zp_f (by decide) (zp_isObjectR_t (by omega) (zp_f (by decide) (zp_f (nI_nlt hab (by omega)) ⟨rfl, q⟩))))⟩
          exact Or.inr ⟨1, a, b, by unfold zp_newok; omega, rfl, rfl, rfl, m1, m2⟩
        · have hlt : nI b < nI a := nI_lt (by omega) (by omega)
          exact Or.inl (mk 0 ⟨fun Q q => zp_isObject_t (by omega) (zp_f (by decide) (zp_isObject_t (by omega) (zp_f (by decide) (zp_t hlt ⟨rfl, q⟩)))), fun Q σ' hσ q => zp_isObjectR_t (by omega) (zp_f (by decide) (zp_isObjectR_t (by omega) (zp_f (by decide) (zp_t hlt ⟨rfl, q⟩))))⟩)
      · exact Or.inl (mk 0 ⟨fun Q q => zp_isObject_t (by omega) (zp_f (by decide) (zp_isObject_f h2 (zp_t rfl ⟨rfl, q⟩))), fun Q σ' hσ q => zp_isObjectR_t (by omega) (zp_f (by decide) (zp_isObjectR_f h2 (zp_t rfl ⟨rfl, q⟩)))⟩)
    · exact Or.inl (mk 0 ⟨fun Q q => zp_isObject_f h (zp_t rfl ⟨rfl, q⟩), fun Q σ' hσ q => zp_isObjectR_f h (zp_t rfl ⟨rfl, q⟩)⟩)
  · -- BOOL
    subst c
    rcases zp_rng x2 (m := 8) (by decide) with ⟨a, ha, rfl⟩ | h
    · refine Or.inr ⟨2, a, 0, by unfold zp_newok; omega, rfl, rfl, rfl, fun Q q => ⟨fun e => absurd e (by decide), fun e => absurd e (by decide), fun _ => zp_within_t (m := 8) rfl ha (by decide) ⟨rfl, q⟩, fun e => absurd e (by decide), fun e => absurd e (by decide), fun e => absurd e (by decide), fun e => absurd e (by decide), fun e => absurd e (by decide), fun e => absurd e (by decide)⟩, fun Q σ' hσ q => ⟨fun e => absurd e (by decide), fun e => absurd e (by decide), fun _ => zp_in_t (m := 8) rfl ha (by decide) ⟨rfl, q⟩, fun e => absurd e (by decide), fun e => absurd e (by decide), fun e => absurd e (by decide), fun e => absurd e (by decide), fun e => absurd e (by decide), fun e => absurd e (by decide)⟩⟩
    · exact Or.inl ⟨fun Q q => ⟨fun e => absurd e (by decide), fun e => absurd e (by decide), fun _ => zp_within_f (m := 8) rfl h ⟨rfl, q⟩, fun e => absurd e (by decide), fun e => absurd e (by decide), fun e => absurd e (by decide), fun e => absurd e (by decide), fun e => absurd e (by decide), fun e => absurd e (by decide)⟩, fun Q σ' hσ q => ⟨fun e => absurd e (by decide), fun e => absurd e (by decide), fun _ => zp_in_f (m := 8) rfl h ⟨rfl, q⟩, fun e => absurd e (by decide), fun e => absurd e (by decide), fun e => absurd e (by decide), fun e => absurd e (by decide), fun e => absurd e (by decide), fun e => absurd e (by decide)⟩⟩
  · -- BEST
    subst c
    rcases zp_rng x2 (m := 100) (by decide) with ⟨a, ha, rfl⟩ | h
    · refine Or.inr ⟨3, a, 0, by unfold zp_newok; omega, rfl, rfl, rfl, fun Q q => ⟨fun e => absurd e (by decide), fun e => absurd e (by decide), fun e => absurd e (by decide), fun _ => zp_within_t (m := 100) rfl ha (by decide) ⟨rfl, q⟩, fun e => absurd e (by decide), fun e => absurd e (by decide), fun e => absurd e (by decide), fun e => absurd e (by decide), fun e => absurd e (by decide)⟩, fun Q σ' hσ q => ⟨fun e => absurd e (by decide), fun e => absurd e (by decide), fun e => absurd e (by decide), fun _ => zp_in_t (m := 100) rfl ha (by decide) ⟨rfl, q⟩, fun e => absurd e (by decide), fun e => absurd e (by decide), fun e => absurd e (by decide), fun e => absurd e (by decide), fun e => absurd e (by decide)⟩⟩
    · exact Or.inl ⟨fun Q q => ⟨fun e => absurd e (by decide), fun e => absurd e (by decide), fun e => absurd e (by decide), fun _ => zp_within_f (m := 100) rfl h ⟨rfl, q⟩, fun e => absurd e (by decide), fun e => absurd e (by decide), fun e => absurd e (by decide), fun e => absurd e (by decide), fun e => absurd e (by decide)⟩, fun Q σ' hσ q => ⟨fun e => absurd e (by decide), fun e => absurd e (by decide), fun e => absurd e (by decide), fun _ => zp_in_f (m := 100) rfl h ⟨rfl, q⟩, fun e => absurd e (by decide), fun e => absurd e (by decide), fun e => absurd e (by decide), fun e => absurd e (by decide), fun e => absurd e (by decide)⟩⟩
  · -- CONSTANT
    subst c
    rcases zp_nodeq x2 hn with ⟨a, ha, rfl⟩ | h
    · rcases zp_rng x3 (m := 1000000) (by decide) with ⟨b, hb, rfl⟩ | h2
      · refine Or.inr ⟨4, a, b, by unfold zp_newok; omega, rfl, rfl, rfl, fun Q q => ⟨fun e => absurd e (by decide), fun e => absurd e (by decide), fun e => absurd e (by decide), fun e => absurd e (by decide), fun _ => zp_has_t hs hn ha (zp_f (by decide) (zp_within_t (m := 1000000) rfl hb (by decide) (zp_f (by decide) ⟨rfl, q⟩))), fun e => absurd e (by decide), fun e => absurd e (by decide), fun e => absurd e (by decide), fun e => absurd e (by decide)⟩, fun Q σ' hσ q => ⟨fun e => absurd e (by decide), fun e => absurd e (by decide), fun e => absurd e (by decide), fun e => absurd e (by decide), fun _ => zp_isNode_t hσ hn ha (zp_f (by decide) (zp_in_t (m := 1000000) rfl hb (by decide) (zp_f (by decide) ⟨rfl, q⟩))), fun e => absurd e (by decide), fun e => absurd e (by decide), fun e => absurd e (by decide), fun e => absurd e (by decide)⟩⟩
      · exact Or.inl ⟨fun Q q => ⟨fun e => absurd e (by decide), fun e => absurd e (by decide), fun e => absurd e (by decide), fun e => absurd e (by decide), fun _ => zp_has_t hs hn ha (zp_f (by decide) (zp_within_f (m := 1000000) rfl h2 (zp_t rfl ⟨rfl, q⟩))), fun e => absurd e (by decide), fun e => absurd e (by decide), fun e => absurd e (by decide), fun e => absurd e (by decide)⟩, fun Q σ' hσ q => ⟨fun e => absurd e (by decide), fun e => absurd e (by decide), fun e => absurd e (by decide), fun e => absurd e (by decide), fun _ => zp_isNode_t hσ hn ha (zp_f (by decide) (zp_in_f (m := 1000000) rfl h2 (zp_t rfl ⟨rfl, q⟩))), fun e => absurd e (by decide), fun e => absurd e (by decide), fun e => absurd e (by decide), fun e => absurd e (by decide)⟩⟩
    · exact Or.inl ⟨fun Q q => ⟨fun e => absurd e (by decide), fun e => absurd e (by decide), fun e => absurd e (by decide), fun e => absurd e (by decide), fun _ => zp_has_f hs h (zp_t rfl ⟨rfl, q⟩), fun e => absurd e (by decide), fun e => absurd e (by decide), fun e => absurd e (by decide), fun e => absurd e (by decide)⟩, fun Q σ' hσ q => ⟨fun e => absurd e (by decide), fun e => absurd e (by decide), fun e => absurd e (by decide), fun e => absurd e (by decide), fun _ => zp_isNode_f hσ hn h (zp_t rfl ⟨rfl, q⟩), fun e => absurd e (by decide), fun e => absurd e (by decide), fun e => absurd e (by decide), fun e => absurd e (by decide)⟩⟩
  · -- TEST
    subst c
    rcases zp_nodeq x2 hn with ⟨a, ha, rfl⟩ | h
    · rcases zp_rng x3 (m := 999999999) (by decide) with ⟨b, hb, rfl⟩ | h2
      · have em := zp_modulus hb
        by_cases hm : 0 < b / 1000 % 1000
        · have h0 : ¬ nI (b / 1000 % 1000) ≤ 0 := nI_nle hm (by omega)
          refine Or.inr ⟨5, a, b, by unfold zp_newok; omega, rfl, rfl, rfl, fun Q q => ⟨fun e => absurd e (by decide), fun e => absurd e (by decide), fun e => absurd e (by decide), fun e => absurd e (by decide), fun e => absurd e (by decide), fun _ => zp_has_t hs hn ha (zp_f (by decide) (zp_within_t (m := 999999999) rfl hb (by decide) (zp_f (by decide) ?_))), fun e => absurd e (by decide), fun e => absurd e (by decide), fun e => absurd e (by decide)⟩, fun Q σ' hσ q => ⟨fun e => absurd e (by decide), fun e => absurd e (by decide), fun e => absurd e (by decide), fun e => absurd e (by decide), fun e => absurd e (by decide), fun _ => zp_isNode_t hσ hn ha (zp_f (by decide) (zp_in_t (m := 999999999) rfl hb (by decide) (zp_f (by decide) ?_))), fun e => absurd e (by decide), fun e => absurd e (by decide), fun e => absurd e (by decide)⟩⟩
          · unfold B_X10_modulusOf
            rw [em]
            exact zp_f h0 ⟨rfl, q⟩
          · rw [em]
            exact zp_f h0 ⟨rfl, q⟩
        · have e0 : b / 1000 % 1000 = 0 := by omega
          have h0 : nI (b / 1000 % 1000) ≤ 0 := by rw [e0]; decide
          refine Or.inl ⟨fun Q q => ⟨fun e => absurd e (by decide), fun e => absurd e (by decide), fun e => absurd e (by decide), fun e => absurd e (by decide), fun e => absurd e (by decide), fun _ => zp_has_t hs hn ha (zp_f (by decide) (zp_within_t (m := 999999999) rfl hb (by decide) (zp_f (by decide) ?_))), fun e => absurd e (by decide), fun e => absurd e (by decide), fun e => absurd e (by decide)⟩, fun Q σ' hσ q => ⟨fun e => absurd e (by decide), fun e => absurd e (by decide), fun e => absurd e (by decide), fun e => absurd e (by decide), fun e => absurd e (by decide), fun _ => zp_isNode_t hσ hn ha (zp_f (by decide) (zp_in_t (m := 999999999) rfl hb (by decide) (zp_f (by decide) ?_))), fun e => absurd e (by decide), fun e => absurd e (by decide), fun e => absurd e (by decide)⟩⟩
          · unfold B_X10_modulusOf
            rw [em]
            exact zp_t h0 ⟨rfl, q⟩
          · rw [em]
            exact zp_t h0 ⟨rfl, q⟩
      · exact Or.inl ⟨fun Q q => ⟨fun e => absurd e (by decide), fun e => absurd e (by decide), fun e => absurd e (by decide), fun e => absurd e (by decide), fun e => absurd e (by decide), fun _ => zp_has_t hs hn ha (zp_f (by decide) (zp_within_f (m := 999999999) rfl h2 (zp_t rfl ⟨rfl, q⟩))), fun e => absurd e (by decide), fun e => absurd e (by decide), fun e => absurd e (by decide)⟩, fun Q σ' hσ q => ⟨fun e => absurd e (by decide), fun e => absurd e (by decide), fun e => absurd e (by decide), fun e => absurd e (by decide), fun e => absurd e (by decide), fun _ => zp_isNode_t hσ hn ha (zp_f (by decide) (zp_in_f (m := 999999999) rfl h2 (zp_t rfl ⟨rfl, q⟩))), fun e => absurd e (by decide), fun e => absurd e (by decide), fun e => absurd e (by decide)⟩⟩
    · exact Or.inl ⟨fun Q q => ⟨fun e => absurd e (by decide), fun e => absurd e (by decide), fun e => absurd e (by decide), fun e => absurd e (by decide), fun e => absurd e (by decide), fun _ => zp_has_f hs h (zp_t rfl ⟨rfl, q⟩), fun e => absurd e (by decide), fun e => absurd e (by decide), fun e => absurd e (by decide)⟩, fun Q σ' hσ q => ⟨fun e => absurd e (by decide), fun e => absurd e (by decide), fun e => absurd e (by decide), fun e => absurd e (by decide), fun e => absurd e (by decide), fun _ => zp_isNode_f hσ hn h (zp_t rfl ⟨rfl, q⟩), fun e => absurd e (by decide), fun e => absurd e (by decide), fun e => absurd e (by decide)⟩⟩
  · -- KEPT
    subst c
    rcases zp_nodeq x2 hn with ⟨a, ha, rfl⟩ | h
    · refine Or.inr ⟨6, a, 0, by unfold zp_newok; omega, rfl, rfl, rfl, fun Q q => ⟨fun e => absurd e (by decide), fun e => absurd e (by decide), fun e => absurd e (by decide), fun e => absurd e (by decide), fun e => absurd e (by decide), fun e => absurd e (by decide), fun _ => zp_has_t hs hn ha ⟨rfl, q⟩, fun e => absurd e (by decide), fun e => absurd e (by decide)⟩, fun Q σ' hσ q => ⟨fun e => absurd e (by decide), fun e => absurd e (by decide), fun e => absurd e (by decide), fun e => absurd e (by decide), fun e => absurd e (by decide), fun e => absurd e (by decide), fun _ => zp_isNode_t hσ hn ha ⟨rfl, q⟩, fun e => absurd e (by decide), fun e => absurd e (by decide)⟩⟩
    · exact Or.inl ⟨fun Q q => ⟨fun e => absurd e (by decide), fun e => absurd e (by decide), fun e => absurd e (by decide), fun e => absurd e (by decide), fun e => absurd e (by decide), fun e => absurd e (by decide), fun _ => zp_has_f hs h ⟨rfl, q⟩, fun e => absurd e (by decide), fun e => absurd e (by decide)⟩, fun Q σ' hσ q => ⟨fun e => absurd e (by decide), fun e => absurd e (by decide), fun e => absurd e (by decide), fun e => absurd e (by decide), fun e => absurd e (by decide), fun e => absurd e (by decide), fun _ => zp_isNode_f hσ hn h ⟨rfl, q⟩, fun e => absurd e (by decide), fun e => absurd e (by decide)⟩⟩
  · -- NOTHING
    subst c
    exact Or.inr ⟨7, 0, 0, by unfold zp_newok; omega, rfl, rfl, rfl, fun Q q => ⟨fun e => absurd e (by decide), fun e => absurd e (by decide), fun e => absurd e (by decide), fun e => absurd e (by decide), fun e => absurd e (by decide), fun e => absurd e (by decide), fun e => absurd e (by decide), fun _ => q, fun e => absurd e (by decide)⟩, fun Q σ' hσ q => ⟨fun e => absurd e (by decide), fun e => absurd e (by decide), fun e => absurd e (by decide), fun e => absurd e (by decide), fun e => absurd e (by decide), fun e => absurd e (by decide), fun e => absurd e (by decide), fun _ => q, fun e => absurd e (by decide)⟩⟩
  · refine Or.inl ⟨fun Q q => ⟨?_, ?_, ?_, ?_, ?_, ?_, ?_, ?_, fun _ => q⟩, fun Q σ' hσ q => ⟨?_, ?_, ?_, ?_, ?_, ?_, ?_, ?_, fun _ => q⟩⟩ <;> (intro e; rw [e] at c; exact absurd c (by decide))
