/-! Pure tools: no machine from here on. -/
theorem zp_t {c A B : Prop} (h : c) (a : A) : (c → A) ∧ (¬ c → B) := ⟨fun _ => a, fun n => absurd h n⟩
theorem zp_f {c A B : Prop} (h : ¬ c) (b : B) : (c → A) ∧ (¬ c → B) := ⟨fun n => absurd n h, fun _ => b⟩
theorem zp_nt {c A B : Prop} (h : ¬ c) (a : A) : (¬ c → A) ∧ (c → B) := ⟨fun _ => a, fun n => absurd n h⟩
theorem zp_nf {c A B : Prop} (h : c) (b : B) : (¬ c → A) ∧ (c → B) := ⟨fun n => absurd h n, fun _ => b⟩
theorem zp_by {c A B : Prop} (a : c → A) (b : ¬ c → B) : (c → A) ∧ (¬ c → B) := ⟨a, b⟩
theorem zp_nb {c A B : Prop} (a : ¬ c → A) (b : c → B) : (¬ c → A) ∧ (c → B) := ⟨a, b⟩
theorem zp_m8 (a : Nat) : nI a * 8 = nI (a * 8) := pk_mul a 8
theorem zp_8m (a : Nat) : 8 * nI a = nI (a * 8) := by rw [show (8 : Int32) = nI 8 from rfl, pk_mul, Nat.mul_comm]
theorem zp_m60 (a : Nat) : nI a * 60 = nI (a * 60) := pk_mul a 60
theorem zp_512m (a : Nat) : 512 * nI a = nI (a * 512) := by rw [show (512 : Int32) = nI 512 from rfl, pk_mul, Nat.mul_comm]
theorem zp_n1 {a : Nat} (h : 0 < a) : nI a - 1 = nI (a - 1) := by
  obtain ⟨b, rfl⟩ : ∃ b, a = b + 1 := ⟨a - 1, by omega⟩
  rw [nI_pred]; rfl
theorem zp_bool0 : narrow .boolean (.int 0) = .int 0 := rfl
theorem zp_bool1 : narrow .boolean (.int 1) = .int 1 := rfl
theorem zp_nar0 : vp_nar .boolean 0 = 0 := rfl
theorem zp_nar1 : vp_nar .boolean 1 = 1 := rfl
theorem zp_lt_toInt {a : Nat} (h : a < 2 ^ 31) : (nI a).toInt = a := nI_toInt h
/-- an int is in 0 .. m, or it isn't -/
theorem zp_rng (x : Int32) {m : Nat} (hm : m < 2 ^ 31) : (∃ o, o ≤ m ∧ x = nI o) ∨ (x < 0 ∨ nI m < x) := by
  by_cases h0 : x < 0
  · exact Or.inr (Or.inl h0)
  · obtain ⟨j, hj, rfl⟩ := nI_of h0
    by_cases hjm : j ≤ m
    · exact Or.inl ⟨j, hjm, rfl⟩
    · exact Or.inr (Or.inr (nI_lt (by omega) hj))
theorem zp_nneg {o : Nat} (h : o < 2 ^ 31) : ¬ nI o < 0 := nI_pos h
theorem zp_neg1 {o : Nat} (h : o < 2 ^ 31) : ¬ nI o = -1 := by
  intro e
  have h1 := congrArg Int32.toInt e
  rw [nI_toInt h] at h1
  have h2 : (-1 : Int32).toInt = -1 := by decide
  rw [h2] at h1
  omega
theorem zp_ninj {a b : Nat} (ha : a < 2 ^ 31) (hb : b < 2 ^ 31) (h : nI a = nI b) : a = b := (nI_eq ha hb).mp h
/-- reads behind writes -/
theorem zp_ri (σ : zv_St) (k i : Nat) (x : Int32) (c j : Nat) : (zv_wi σ k i x).1 c j = if c = k ∧ j = i then x else σ.1 c j := by
  by_cases hc : c = k
  · subst hc
    by_cases hj : j = i
    · simp [zv_wi, upd, hj]
    · simp [zv_wi, upd, hj]
  · simp [zv_wi, hc]
theorem zp_rl (σ : zv_St) (k i : Nat) (x : Int64) (c j : Nat) : (zv_wl σ k i x).2 c j = if c = k ∧ j = i then x else σ.2 c j := by
  by_cases hc : c = k
  · subst hc
    by_cases hj : j = i
    · simp [zv_wl, vp_updL, hj]
    · simp [zv_wl, vp_updL, hj]
  · simp [zv_wl, hc]
theorem zp_ri2 (σ : zv_St) (k i : Nat) (x : Int32) : (zv_wi σ k i x).2 = σ.2 := rfl
theorem zp_rl1 (σ : zv_St) (k i : Nat) (x : Int64) : (zv_wl σ k i x).1 = σ.1 := rfl
theorem zp_rs (σ : zv_St) (k i : Nat) (x : Int32) : (zv_wi σ k i x).1 k i = x := by rw [zp_ri, if_pos ⟨rfl, rfl⟩]
theorem zp_rn (σ : zv_St) {k c : Nat} (i : Nat) (x : Int32) (j : Nat) (h : c ≠ k) : (zv_wi σ k i x).1 c j = σ.1 c j := by rw [zp_ri, if_neg (fun q => h q.1)]
theorem zp_rj (σ : zv_St) {k i j : Nat} (x : Int32) (h : j ≠ i) : (zv_wi σ k i x).1 k j = σ.1 k j := by rw [zp_ri, if_neg (fun q => h q.2)]
/-- the two small tests -/
theorem zp_within_t {Q : Int32 → zv_St → Prop} {o m : Nat} {M : Int32} {σ : zv_St} (hM : M = nI m) (h : o ≤ m) (hm : m < 2 ^ 31) (q : Q 1 σ) : B_X10_isWithin Q (nI o) M σ := by
  subst hM
  exact zp_f (zp_nneg (by omega)) (zp_f (nI_nlt h (by omega)) ⟨rfl, q⟩)
theorem zp_within_f {Q : Int32 → zv_St → Prop} {x : Int32} {m : Nat} {M : Int32} {σ : zv_St} (hM : M = nI m) (h : x < 0 ∨ nI m < x) (q : Q 0 σ) : B_X10_isWithin Q x M σ := by
  subst hM
  refine zp_by (fun _ => ⟨rfl, q⟩) (fun h0 => ?_)
  rcases h with h | h
  · exact absurd h h0
  · exact zp_t h ⟨rfl, q⟩
theorem zp_in_t {Q : Int32 → zv_St → Prop} {o m : Nat} {M : Int32} {σ : zv_St} (hM : M = nI m) (h : o ≤ m) (hm : m < 2 ^ 31) (q : Q 1 σ) : B_X11_in Q (nI o) 0 M σ := by
  subst hM
  exact zp_f (zp_nneg (by omega)) (zp_f (nI_nlt h (by omega)) ⟨rfl, q⟩)
theorem zp_in_f {Q : Int32 → zv_St → Prop} {x : Int32} {m : Nat} {M : Int32} {σ : zv_St} (hM : M = nI m) (h : x < 0 ∨ nI m < x) (q : Q 0 σ) : B_X11_in Q x 0 M σ := by
  subst hM
  refine zp_by (fun _ => ⟨rfl, q⟩) (fun h0 => ?_)
  rcases h with h | h
  · exact absurd h h0
  · exact zp_t h ⟨rfl, q⟩
theorem zp_isObject_t {Q : Int32 → zv_St → Prop} {o : Nat} {σ : zv_St} (h : o < 512) (q : Q 1 σ) : B_X10_isObject Q (nI o) σ := zp_within_t (m := 511) rfl (by omega) (by decide) ⟨rfl, q⟩
theorem zp_isObject_f {Q : Int32 → zv_St → Prop} {x : Int32} {σ : zv_St} (h : x < 0 ∨ nI 511 < x) (q : Q 0 σ) : B_X10_isObject Q x σ := zp_within_f (m := 511) rfl h ⟨rfl, q⟩
theorem zp_isList_t {Q : Int32 → zv_St → Prop} {o : Nat} {σ : zv_St} (h : o < 16) (q : Q 1 σ) : B_X10_isList Q (nI o) σ := zp_within_t (m := 15) rfl (by omega) (by decide) ⟨rfl, q⟩
theorem zp_isList_f {Q : Int32 → zv_St → Prop} {x : Int32} {σ : zv_St} (h : x < 0 ∨ nI 15 < x) (q : Q 0 σ) : B_X10_isList Q x σ := zp_within_f (m := 15) rfl h ⟨rfl, q⟩
theorem zp_isObjectR_t {Q : Int32 → zv_St → Prop} {o : Nat} {σ : zv_St} (h : o < 512) (q : Q 1 σ) : B_X11_isObject Q (nI o) σ := zp_in_t (m := 511) rfl (by omega) (by decide) ⟨rfl, q⟩
theorem zp_isObjectR_f {Q : Int32 → zv_St → Prop} {x : Int32} {σ : zv_St} (h : x < 0 ∨ nI 511 < x) (q : Q 0 σ) : B_X11_isObject Q x σ := zp_in_f (m := 511) rfl h ⟨rfl, q⟩
/-- is it a NODE: both sides, with n of them -/
theorem zp_nodeq (x : Int32) {n : Nat} (hn : n ≤ 80) : (∃ k, k < n ∧ x = nI k) ∨ (x < 0 ∨ nI n ≤ x) := by
  by_cases h0 : x < 0
  · exact Or.inr (Or.inl h0)
  · obtain ⟨j, hj, rfl⟩ := nI_of h0
    by_cases hjm : j < n
    · exact Or.inl ⟨j, hjm, rfl⟩
    · exact Or.inr (Or.inr (nI_le (by omega) hj))
theorem zp_has_t {Q : Int32 → zv_St → Prop} {k n : Nat} {σ : zv_St} (hs : σ.1 5 0 = nI n) (hn : n ≤ 80) (h : k < n) (q : Q 1 σ) : B_X5_has Q (nI k) σ := by
  refine zp_f (zp_nneg (by omega)) ?_
  rw [hs]
  exact zp_f (nI_ge h (by omega)) ⟨rfl, q⟩
theorem zp_has_f {Q : Int32 → zv_St → Prop} {x : Int32} {n : Nat} {σ : zv_St} (hs : σ.1 5 0 = nI n) (h : x < 0 ∨ nI n ≤ x) (q : Q 0 σ) : B_X5_has Q x σ := by
  refine zp_by (fun _ => ⟨rfl, q⟩) (fun h0 => ?_)
  rw [hs]
  rcases h with h | h
  · exact absurd h h0
  · exact zp_t h ⟨rfl, q⟩
theorem zp_inm_t {Q : Int32 → zv_St → Prop} {j m : Nat} {σ : zv_St} (h : j < m) (hm : m < 2 ^ 31) (q : Q 1 σ) : B_X11_in Q (nI j) 0 (nI m - 1) σ := by
  rw [zp_n1 (by omega)]
  exact zp_in_t (m := m - 1) rfl (by omega) (by omega) q
theorem zp_inm_f {Q : Int32 → zv_St → Prop} {x : Int32} {m : Nat} {σ : zv_St} (hm : m < 2 ^ 31) (h : x < 0 ∨ nI m ≤ x) (q : Q 0 σ) : B_X11_in Q x 0 (nI m - 1) σ := by
  by_cases h0 : x < 0
  · exact zp_t h0 ⟨rfl, q⟩
  · rcases h with h | h
    · exact absurd h h0
    · refine zp_f h0 (zp_t ?_ ⟨rfl, q⟩)
      obtain ⟨j, hj, rfl⟩ := nI_of h0
      by_cases hm0 : m = 0
      · subst hm0
        rw [Int32.lt_iff_toInt_lt, nI_toInt hj, show (nI 0 - 1 : Int32).toInt = -1 from by decide]
        omega
      · rw [zp_n1 (by omega)]
        have := (nI_leI hm hj).mp h
        exact nI_lt (by omega) hj
theorem zp_isNode_t {Q : Int32 → zv_St → Prop} {k n : Nat} {σ : zv_St} (hs : σ.1 45 2 = nI n) (hn : n ≤ 80) (h : k < n) (q : Q 1 σ) : B_X11_isNode Q (nI k) σ := by
  unfold B_X11_isNode
  rw [hs]
  exact zp_inm_t h (by omega) ⟨rfl, q⟩
theorem zp_isNode_f {Q : Int32 → zv_St → Prop} {x : Int32} {n : Nat} {σ : zv_St} (hs : σ.1 45 2 = nI n) (hn : n ≤ 80) (h : x < 0 ∨ nI n ≤ x) (q : Q 0 σ) : B_X11_isNode Q x σ := by
  unfold B_X11_isNode
  rw [hs]
  exact zp_inm_f (by omega) h ⟨rfl, q⟩
/-- an int below m, or not -/
theorem zp_below (x : Int32) {m : Nat} (hm : m < 2 ^ 31) : (∃ j, j < m ∧ x = nI j) ∨ (x < 0 ∨ nI m ≤ x) := by
  by_cases h0 : x < 0
  · exact Or.inr (Or.inl h0)
  · obtain ⟨j, hj, rfl⟩ := nI_of h0
    by_cases hjm : j < m
    · exact Or.inl ⟨j, hjm, rfl⟩
    · exact Or.inr (Or.inr (nI_le (by omega) hj))
