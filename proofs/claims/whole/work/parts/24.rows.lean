/-! Bits, rows of bits, small accesses, loops. -/
theorem zp_iter {α : Type} {L : Nat → α → Prop} (I : Nat → α → Prop) (step : ∀ m u a, I m a → (∀ b, 0 < m → I (m - 1) b → L u b) → L (u + 1) a) : ∀ m a, I m a → L (m + 1) a := by
  intro m
  induction m with
  | zero => intro a h; exact step 0 0 a h (fun b h0 _ => absurd h0 (Nat.lt_irrefl _))
  | succ m ih => intro a h; exact step (m + 1) (m + 1) a h (fun b _ hb => ih b hb)
theorem zp_for {α : Type} {L : Nat → Nat → α → Prop} (N : Nat) (I : Nat → α → Prop) (he : ∀ u a, I N a → L (u + 1) N a) (hs : ∀ u i a, i < N → I i a → (∀ b, I (i + 1) b → L u (i + 1) b) → L (u + 1) i a) (i : Nat) (a : α) (h0 : I i a) (hi : i ≤ N) : ∃ n, L n i a := by
  have key : ∀ m i a, i + m = N → I i a → L (m + 1) i a := by
    intro m
    induction m with
    | zero => intro i a e h; have : i = N := by omega
              subst this; exact he 0 a h
    | succ m ih => intro i a e h; exact hs (m + 1) i a (by omega) h (fun b hb => ih (i + 1) b (by omega) hb)
  exact ⟨_, key (N - i) i a (by omega) h0⟩
def zp_bt (x : Int64) (i : Nat) : Bool := x.toBitVec.getLsbD i
theorem zp_bit_bt (w : Nat → Int64) (k o : Nat) : zp_bit w k o = zp_bt (w (k * 8 + o / 64)) (o % 64) := rfl
theorem zp_bt_or (x y : Int64) (i : Nat) : zp_bt (x ||| y) i = (zp_bt x i || zp_bt y i) := by unfold zp_bt; rw [Int64.toBitVec_or, BitVec.getLsbD_or]
theorem zp_bt_and (x y : Int64) (i : Nat) : zp_bt (x &&& y) i = (zp_bt x i && zp_bt y i) := by unfold zp_bt; rw [Int64.toBitVec_and, BitVec.getLsbD_and]
theorem zp_bt_0 (i : Nat) : zp_bt 0 i = false := BitVec.getLsbD_zero
theorem zp_bt_m1 : ∀ i, i < 64 → zp_bt (-1) i = true := by decide +kernel
theorem zp_bt_not (x : Int64) {i : Nat} (hi : i < 64) : zp_bt (x ^^^ (-1)) i = !(zp_bt x i) := by
  have h := zp_bt_m1 i hi
  unfold zp_bt at h ⊢
  rw [Int64.toBitVec_xor, BitVec.getLsbD_xor, h, Bool.xor_true]
theorem zp_bt_tp : ∀ m, m < 64 → ((1 : Int64) <<< (Int32.toInt64 (nI m) &&& 63)).toBitVec = BitVec.twoPow 64 m := by decide +kernel
theorem zp_bt_one {m i : Nat} (hm : m < 64) (hi : i < 64) : zp_bt ((1 : Int64) <<< (Int32.toInt64 (nI m) &&& 63)) i = decide (i = m) := by
  unfold zp_bt
  rw [zp_bt_tp m hm, BitVec.getLsbD_twoPow]
  by_cases e : i = m
  · subst e; simp [hi]
  · have e2 : ¬ m = i := fun q => e q.symm
    simp [e, e2]
theorem zp_sh6 {o : Nat} (h : o < 512) : nI o >>> ((6 : Int32) &&& 31) = nI (o / 64) := pk_shrN (by omega) _ 6 (by decide)
theorem zp_a63 {o : Nat} (h : o < 512) : nI o &&& 63 = nI (o % 64) := pk_andN (by omega) 6 (by decide)
theorem zp_cu : ∀ k, k < 64 → ((nI k).toInt64.toUInt64 &&& Int64.toUInt64 63).toNat = k := by decide +kernel
theorem zp_tb {w : Int64} {s : UInt64} {j : Nat} (hj : j < 64) (hs : s.toNat = j) : ((w.toUInt64 >>> s).toInt64 &&& 1) = 0 ↔ zp_bt w j = false := by
  have e : (w.toUInt64 >>> s).toInt64.toBitVec = w.toBitVec >>> j := by
    apply BitVec.eq_of_toNat_eq
    show (w.toUInt64 >>> s).toNat = _
    rw [UInt64.toNat_shiftRight, hs, Nat.mod_eq_of_lt hj, BitVec.toNat_ushiftRight]
    rfl
  rw [← Int64.toBitVec_inj, Int64.toBitVec_and, e]
  show w.toBitVec >>> j &&& 1#64 = 0#64 ↔ w.toBitVec.getLsbD j = false
  constructor
  · intro h
    have t := congrArg (fun x => x.getLsbD 0) h
    simpa using t
  · intro h
    apply BitVec.eq_of_getLsbD_eq
    intro i hi
    cases i with
    | zero => simp [h]
    | succ i => simp
abbrev zp_bi (b : Bool) : Int32 := if b = true then 1 else 0
/-- row k of the long cell c is now f, all else is as it was -/
def zp_rw (c k : Nat) (f : Nat → Bool) (σ σ' : zv_St) : Prop := zp_ch [c] σ σ' ∧ (∀ j, j / 8 ≠ k → σ'.2 c j = σ.2 c j) ∧ ∀ o, o < 512 → zp_bit (σ'.2 c) k o = f o
theorem zp_rw.tr {c k : Nat} {f g : Nat → Bool} {σ σ1 σ2 : zv_St} (h1 : zp_rw c k f σ σ1) (h2 : zp_rw c k g σ1 σ2) : zp_rw c k g σ σ2 := ⟨h1.1.tr h2.1, fun j hj => (h2.2.1 j hj).trans (h1.2.1 j hj), h2.2.2⟩
theorem zp_rw.bit {c k : Nat} {f : Nat → Bool} {σ σ' : zv_St} (h : zp_rw c k f σ σ') {j o : Nat} (hj : j ≠ k) (ho : o < 512) : zp_bit (σ'.2 c) j o = zp_bit (σ.2 c) j o := by
  rw [zp_bit_bt, zp_bit_bt, h.2.1 _ (by omega)]
/-- one word -/
theorem zp_rw_word {σ : zv_St} {c k w : Nat} {x : Int64} (hw : w < 8) : zp_ch [c] σ (zv_wl σ c (k * 8 + w) x) ∧ (∀ j, j / 8 ≠ k → (zv_wl σ c (k * 8 + w) x).2 c j = σ.2 c j) ∧ ∀ o, o < 512 → zp_bit ((zv_wl σ c (k * 8 + w) x).2 c) k o = if o / 64 = w then zp_bt x (o % 64) else zp_bit (σ.2 c) k o := by
  refine ⟨zp_ch.wl (List.mem_cons_self ..), fun j hj => ?_, fun o ho => ?_⟩
  · rw [zp_rl, if_neg (by omega)]
  · rw [zp_bit_bt, zp_rl]
    by_cases e : o / 64 = w
    · rw [if_pos ⟨rfl, by omega⟩, if_pos e]
    · rw [if_neg (by omega), if_neg e]; rfl

section ACC
variable {σ : zv_St} {Q : Int32 → zv_St → Prop} {k i v : Nat}
theorem zp_a_size (hk : k < 80) (h : σ.1 10 k = nI v) (q : Q (nI v) σ) : B_X5_size Q (nI k) σ := by
  refine ⟨vp_in_nI hk (by decide), ?_⟩
  rw [nI_clamp (by omega), h]; exact q
theorem zp_a_kind (hk : k < 80) (h : σ.1 6 k = nI v) (q : Q (nI v) σ) : B_X5_kind Q (nI k) σ := by
  refine ⟨vp_in_nI hk (by decide), ?_⟩
  rw [nI_clamp (by omega), h]; exact q
theorem zp_a_first (hk : k < 80) (h : σ.1 7 k = nI v) (q : Q (nI v) σ) : B_X5_first Q (nI k) σ := by
  refine ⟨vp_in_nI hk (by decide), ?_⟩
  rw [nI_clamp (by omega), h]; exact q
theorem zp_a_second (hk : k < 80) (h : σ.1 8 k = nI v) (q : Q (nI v) σ) : B_X5_second Q (nI k) σ := by
  refine ⟨vp_in_nI hk (by decide), ?_⟩
  rw [nI_clamp (by omega), h]; exact q
theorem zp_a_asked (hk : k < 80) (h : σ.1 9 k = nI v) (q : Q (nI v) σ) : B_X5_asked Q (nI k) σ := by
  refine ⟨vp_in_nI hk (by decide), ?_⟩
  rw [nI_clamp (by omega), h]; exact q
theorem zp_a_partAt (hk : k < 80) (hi : i < 8) (h : σ.1 12 (k * 8 + i) = nI v) (q : Q (nI v) σ) : B_X5_partAt Q (nI k) (nI i) σ := by
  unfold B_X5_partAt
  rw [zp_m8, nI_add]
  refine ⟨vp_in_nI (by omega) (by decide), ?_⟩
  rw [nI_clamp (by omega), h]; exact q
theorem zp_a_roleAt (hk : k < 80) (hi : i < 8) (h : σ.1 11 (k * 8 + i) = nI v) (q : Q (nI v) σ) : B_X5_roleAt Q (nI k) (nI i) σ := by
  unfold B_X5_roleAt
  rw [zp_m8, nI_add]
  refine ⟨vp_in_nI (by omega) (by decide), ?_⟩
  rw [nI_clamp (by omega), h]; exact q
theorem zp_a_lsize (hk : k < 16) (h : σ.1 4 k = nI v) (q : Q (nI v) σ) : B_X3_size Q (nI k) σ := by
  refine ⟨vp_in_nI hk (by decide), ?_⟩
  rw [nI_clamp (by omega), h]; exact q
theorem zp_a_ssize (hk : k < 80) (h : σ.1 17 k = nI v) (q : Q (nI v) σ) : B_X9_size Q (nI k) σ := by
  refine ⟨vp_in_nI hk (by decide), ?_⟩
  rw [nI_clamp (by omega), h]; exact q
theorem zp_a_isThere (hk : k < 80) {b : Bool} (h : σ.1 16 k = zp_bi b) (q : Q (zp_bi b) σ) : B_X9_isThere Q (nI k) σ := by
  refine ⟨vp_in_nI hk (by decide), ?_⟩
  rw [nI_clamp (by omega), h]
  refine ⟨?_, q⟩
  cases b <;> rfl
theorem zp_a_needed {r : Nat} (hr : r ≤ 3) (q : Q (zp_bi (decide (r < 2))) σ) : B_X10_isNeeded Q (nI r) σ := by
  rcases (show r = 0 ∨ r = 1 ∨ r = 2 ∨ r = 3 by omega) with rfl | rfl | rfl | rfl
  · exact zp_t rfl ⟨rfl, q⟩
  · exact zp_f (by decide) (zp_nf rfl ⟨rfl, q⟩)
  · exact zp_f (by decide) (zp_nt (by decide) ⟨rfl, q⟩)
  · exact zp_f (by decide) (zp_nt (by decide) ⟨rfl, q⟩)
end ACC
section ROWS
variable {σ : zv_St} {Q : zv_St → Prop} {k o p : Nat}
theorem zp_clear_20 (hk : k < 80) (q : ∀ σ', zp_rw 21 k (fun _ => false) σ σ' → Q σ') : B_X8_clear_20 Q (nI k) σ := by
  refine zp_for (L := fun u i σ' => L_X8_clear_20_2 Q u (nI k) (nI i) σ') 8 (fun i σ' => zp_ch [21] σ σ' ∧ (∀ j, j / 8 ≠ k → σ'.2 21 j = σ.2 21 j) ∧ ∀ o, o < 512 → o / 64 < i → zp_bit (σ'.2 21) k o = false) (fun u σ' h => zp_t (by decide) (q σ' ⟨h.1, h.2.1, fun o ho => h.2.2 o ho (by omega)⟩)) (fun u i σ' hi h ih => ?_) 0 σ ⟨zp_ch.rf, fun _ _ => rfl, fun o ho h => by omega⟩ (by decide)
  refine zp_f (nI_ge (b := 8) hi (by decide)) ?_
  rw [zp_m8, nI_add]
  refine ⟨vp_in_nI (by omega) (by decide), ?_⟩
  rw [nI_clamp (by omega), nI_1]
  rintro σ1 rfl
  obtain ⟨w1, w2, w3⟩ := zp_rw_word (σ := σ') (c := 21) (k := k) (w := i) (x := 0) hi
  refine ih _ ⟨h.1.tr w1, fun j hj => (w2 j hj).trans (h.2.1 j hj), fun o ho hoi => ?_⟩
  rw [w3 o ho]
  by_cases e : o / 64 = i
  · rw [if_pos e, zp_bt_0]
  · rw [if_neg e]; exact h.2.2 o ho (by omega)
theorem zp_add_20 (hk : k < 80) (ho : o < 512) (q : ∀ σ', zp_rw 21 k (fun o' => zp_bit (σ.2 21) k o' || decide (o' = o)) σ σ' → Q σ') : B_X8_add_20 Q (nI k) (nI o) σ := by
  unfold B_X8_add_20
  rw [zp_sh6 ho, zp_a63 ho, zp_m8, nI_add]
  refine ⟨vp_in_nI (by omega) (by decide), vp_in_nI (by omega) (by decide), ?_⟩
  rw [nI_clamp (by omega)]
  rintro σ1 rfl
  obtain ⟨w1, w2, w3⟩ := zp_rw_word (σ := σ) (c := 21) (k := k) (w := o / 64) (x := σ.2 21 (k * 8 + o / 64) ||| ((1 : Int64) <<< (Int32.toInt64 (nI (o % 64)) &&& 63))) (by omega)
  refine q _ ⟨w1, w2, fun o' ho' => ?_⟩
  show _ = (zp_bit (σ.2 21) k o' || decide (o' = o))
  rw [w3 o' ho']
  by_cases e : o' / 64 = o / 64
  · rw [if_pos e, zp_bt_or, zp_bt_one (by omega) (by omega), ← e, zp_bit_bt]
    congr 1
    exact decide_eq_decide.mpr (by omega)
  · rw [if_neg e, decide_eq_false (by omega), Bool.or_false]
theorem zp_clear_22 (hk : k < 80) (q : ∀ σ', zp_rw 23 k (fun _ => false) σ σ' → Q σ') : B_X8_clear_22 Q (nI k) σ := by
  refine zp_for (L := fun u i σ' => L_X8_clear_22_2 Q u (nI k) (nI i) σ') 8 (fun i σ' => zp_ch [23] σ σ' ∧ (∀ j, j / 8 ≠ k → σ'.2 23 j = σ.2 23 j) ∧ ∀ o, o < 512 → o / 64 < i → zp_bit (σ'.2 23) k o = false) (fun u σ' h => zp_t (by decide) (q σ' ⟨h.1, h.2.1, fun o ho => h.2.2 o ho (by omega)⟩)) (fun u i σ' hi h ih => ?_) 0 σ ⟨zp_ch.rf, fun _ _ => rfl, fun o ho h => by omega⟩ (by decide)
  refine zp_f (nI_ge (b := 8) hi (by decide)) ?_
  rw [zp_m8, nI_add]
  refine ⟨vp_in_nI (by omega) (by decide), ?_⟩
  rw [nI_clamp (by omega), nI_1]
  rintro σ1 rfl
  obtain ⟨w1, w2, w3⟩ := zp_rw_word (σ := σ') (c := 23) (k := k) (w := i) (x := 0) hi
  refine ih _ ⟨h.1.tr w1, fun j hj => (w2 j hj).trans (h.2.1 j hj), fun o ho hoi => ?_⟩
  rw [w3 o ho]
  by_cases e : o / 64 = i
  · rw [if_pos e, zp_bt_0]
  · rw [if_neg e]; exact h.2.2 o ho (by omega)
theorem zp_add_22 (hk : k < 80) (ho : o < 512) (q : ∀ σ', zp_rw 23 k (fun o' => zp_bit (σ.2 23) k o' || decide (o' = o)) σ σ' → Q σ') : B_X8_add_22 Q (nI k) (nI o) σ := by
  unfold B_X8_add_22
  rw [zp_sh6 ho, zp_a63 ho, zp_m8, nI_add]
  refine ⟨vp_in_nI (by omega) (by decide), vp_in_nI (by omega) (by decide), ?_⟩
  rw [nI_clamp (by omega)]
  rintro σ1 rfl
  obtain ⟨w1, w2, w3⟩ := zp_rw_word (σ := σ) (c := 23) (k := k) (w := o / 64) (x := σ.2 23 (k * 8 + o / 64) ||| ((1 : Int64) <<< (Int32.toInt64 (nI (o % 64)) &&& 63))) (by omega)
  refine q _ ⟨w1, w2, fun o' ho' => ?_⟩
  show _ = (zp_bit (σ.2 23) k o' || decide (o' = o))
  rw [w3 o' ho']
  by_cases e : o' / 64 = o / 64
  · rw [if_pos e, zp_bt_or, zp_bt_one (by omega) (by omega), ← e, zp_bit_bt]
    congr 1
    exact decide_eq_decide.mpr (by omega)
  · rw [if_neg e, decide_eq_false (by omega), Bool.or_false]
theorem zp_clear_14 (hk : k < 80) (q : ∀ σ', zp_rw 15 k (fun _ => false) σ σ' → Q σ') : B_X8_clear_14 Q (nI k) σ := by
  refine zp_for (L := fun u i σ' => L_X8_clear_14_2 Q u (nI k) (nI i) σ') 8 (fun i σ' => zp_ch [15] σ σ' ∧ (∀ j, j / 8 ≠ k → σ'.2 15 j = σ.2 15 j) ∧ ∀ o, o < 512 → o / 64 < i → zp_bit (σ'.2 15) k o = false) (fun u σ' h => zp_t (by decide) (q σ' ⟨h.1, h.2.1, fun o ho => h.2.2 o ho (by omega)⟩)) (fun u i σ' hi h ih => ?_) 0 σ ⟨zp_ch.rf, fun _ _ => rfl, fun o ho h => by omega⟩ (by decide)
  refine zp_f (nI_ge (b := 8) hi (by decide)) ?_
  rw [zp_m8, nI_add]
  refine ⟨vp_in_nI (by omega) (by decide), ?_⟩
  rw [nI_clamp (by omega), nI_1]
  rintro σ1 rfl
  obtain ⟨w1, w2, w3⟩ := zp_rw_word (σ := σ') (c := 15) (k := k) (w := i) (x := 0) hi
  refine ih _ ⟨h.1.tr w1, fun j hj => (w2 j hj).trans (h.2.1 j hj), fun o ho hoi => ?_⟩
  rw [w3 o ho]
  by_cases e : o / 64 = i
  · rw [if_pos e, zp_bt_0]
  · rw [if_neg e]; exact h.2.2 o ho (by omega)
theorem zp_add_14 (hk : k < 80) (ho : o < 512) (q : ∀ σ', zp_rw 15 k (fun o' => zp_bit (σ.2 15) k o' || decide (o' = o)) σ σ' → Q σ') : B_X8_add_14 Q (nI k) (nI o) σ := by
  unfold B_X8_add_14
  rw [zp_sh6 ho, zp_a63 ho, zp_m8, nI_add]
  refine ⟨vp_in_nI (by omega) (by decide), vp_in_nI (by omega) (by decide), ?_⟩
  rw [nI_clamp (by omega)]
  rintro σ1 rfl
  obtain ⟨w1, w2, w3⟩ := zp_rw_word (σ := σ) (c := 15) (k := k) (w := o / 64) (x := σ.2 15 (k * 8 + o / 64) ||| ((1 : Int64) <<< (Int32.toInt64 (nI (o % 64)) &&& 63))) (by omega)
  refine q _ ⟨w1, w2, fun o' ho' => ?_⟩
  show _ = (zp_bit (σ.2 15) k o' || decide (o' = o))
  rw [w3 o' ho']
  by_cases e : o' / 64 = o / 64
  · rw [if_pos e, zp_bt_or, zp_bt_one (by omega) (by omega), ← e, zp_bit_bt]
    congr 1
    exact decide_eq_decide.mpr (by omega)
  · rw [if_neg e, decide_eq_false (by omega), Bool.or_false]
theorem zp_join_20_14 (hk : k < 80) (hp : p < 80) (q : ∀ σ', zp_rw 21 k (fun o => zp_bit (σ.2 21) k o || zp_bit (σ.2 15) p o) σ σ' → Q σ') : B_X8_join_20_14 Q (nI k) (nI p) σ := by
  refine zp_for (L := fun u i σ' => L_X8_join_20_14_3 Q u (nI k) (nI p) (nI i) σ') 8 (fun i σ' => zp_ch [21] σ σ' ∧ (∀ j, j / 8 ≠ k → σ'.2 21 j = σ.2 21 j) ∧ ∀ o, o < 512 → zp_bit (σ'.2 21) k o = if o / 64 < i then zp_bit (σ.2 21) k o || zp_bit (σ.2 15) p o else zp_bit (σ.2 21) k o) (fun u σ' h => zp_t (by decide) (q σ' ⟨h.1, h.2.1, fun o ho => by rw [h.2.2 o ho, if_pos (by omega)]⟩)) (fun u i σ' hi h ih => ?_) 0 σ ⟨zp_ch.rf, fun _ _ => rfl, fun o ho => by rw [if_neg (by omega)]⟩ (by decide)
  refine zp_f (nI_ge (b := 8) hi (by decide)) ?_
  rw [zp_m8, zp_m8, nI_add, nI_add]
  refine ⟨vp_in_nI (by omega) (by decide), vp_in_nI (by omega) (by decide), vp_in_nI (by omega) (by decide), ?_⟩
  rw [nI_clamp (n := k * 8 + i) (by omega), nI_clamp (n := p * 8 + i) (by omega), nI_1]
  rintro σ1 rfl
  have hsrc : σ'.2 15 (p * 8 + i) = σ.2 15 (p * 8 + i) := congrFun (h.1 15 (by decide)).2 _
  obtain ⟨w1, w2, w3⟩ := zp_rw_word (σ := σ') (c := 21) (k := k) (w := i) (x := σ'.2 21 (k * 8 + i) ||| σ'.2 15 (p * 8 + i)) hi
  refine ih _ ⟨h.1.tr w1, fun j hj => (w2 j hj).trans (h.2.1 j hj), fun o ho => ?_⟩
  rw [w3 o ho]
  by_cases e : o / 64 = i
  · have h3 := h.2.2 o ho
    rw [if_neg (by omega)] at h3
    rw [if_pos e, zp_bt_or, hsrc, if_pos (by omega), ← h3, zp_bit_bt, zp_bit_bt, e]
  · rw [if_neg e, h.2.2 o ho]
    by_cases e2 : o / 64 < i
    · rw [if_pos e2, if_pos (by omega)]
    · rw [if_neg e2, if_neg (by omega)]
theorem zp_join_22_14 (hk : k < 80) (hp : p < 80) (q : ∀ σ', zp_rw 23 k (fun o => zp_bit (σ.2 23) k o || zp_bit (σ.2 15) p o) σ σ' → Q σ') : B_X8_join_22_14 Q (nI k) (nI p) σ := by
  refine zp_for (L := fun u i σ' => L_X8_join_22_14_3 Q u (nI k) (nI p) (nI i) σ') 8 (fun i σ' => zp_ch [23] σ σ' ∧ (∀ j, j / 8 ≠ k → σ'.2 23 j = σ.2 23 j) ∧ ∀ o, o < 512 → zp_bit (σ'.2 23) k o = if o / 64 < i then zp_bit (σ.2 23) k o || zp_bit (σ.2 15) p o else zp_bit (σ.2 23) k o) (fun u σ' h => zp_t (by decide) (q σ' ⟨h.1, h.2.1, fun o ho => by rw [h.2.2 o ho, if_pos (by omega)]⟩)) (fun u i σ' hi h ih => ?_) 0 σ ⟨zp_ch.rf, fun _ _ => rfl, fun o ho => by rw [if_neg (by omega)]⟩ (by decide)
  refine zp_f (nI_ge (b := 8) hi (by decide)) ?_
  rw [zp_m8, zp_m8, nI_add, nI_add]
  refine ⟨vp_in_nI (by omega) (by decide), vp_in_nI (by omega) (by decide), vp_in_nI (by omega) (by decide), ?_⟩
  rw [nI_clamp (n := k * 8 + i) (by omega), nI_clamp (n := p * 8 + i) (by omega), nI_1]
  rintro σ1 rfl
  have hsrc : σ'.2 15 (p * 8 + i) = σ.2 15 (p * 8 + i) := congrFun (h.1 15 (by decide)).2 _
  obtain ⟨w1, w2, w3⟩ := zp_rw_word (σ := σ') (c := 23) (k := k) (w := i) (x := σ'.2 23 (k * 8 + i) ||| σ'.2 15 (p * 8 + i)) hi
  refine ih _ ⟨h.1.tr w1, fun j hj => (w2 j hj).trans (h.2.1 j hj), fun o ho => ?_⟩
  rw [w3 o ho]
  by_cases e : o / 64 = i
  · have h3 := h.2.2 o ho
    rw [if_neg (by omega)] at h3
    rw [if_pos e, zp_bt_or, hsrc, if_pos (by omega), ← h3, zp_bit_bt, zp_bit_bt, e]
  · rw [if_neg e, h.2.2 o ho]
    by_cases e2 : o / 64 < i
    · rw [if_pos e2, if_pos (by omega)]
    · rw [if_neg e2, if_neg (by omega)]
theorem zp_join_20_20 (hk : k < 80) (hp : p < 80) (hpk : p ≠ k) (q : ∀ σ', zp_rw 21 k (fun o => zp_bit (σ.2 21) k o || zp_bit (σ.2 21) p o) σ σ' → Q σ') : B_X8_join_20_20 Q (nI k) (nI p) σ := by
  refine zp_for (L := fun u i σ' => L_X8_join_20_20_3 Q u (nI k) (nI p) (nI i) σ') 8 (fun i σ' => zp_ch [21] σ σ' ∧ (∀ j, j / 8 ≠ k → σ'.2 21 j = σ.2 21 j) ∧ ∀ o, o < 512 → zp_bit (σ'.2 21) k o = if o / 64 < i then zp_bit (σ.2 21) k o || zp_bit (σ.2 21) p o else zp_bit (σ.2 21) k o) (fun u σ' h => zp_t (by decide) (q σ' ⟨h.1, h.2.1, fun o ho => by rw [h.2.2 o ho, if_pos (by omega)]⟩)) (fun u i σ' hi h ih => ?_) 0 σ ⟨zp_ch.rf, fun _ _ => rfl, fun o ho => by rw [if_neg (by omega)]⟩ (by decide)
  refine zp_f (nI_ge (b := 8) hi (by decide)) ?_
  rw [zp_m8, zp_m8, nI_add, nI_add]
  refine ⟨vp_in_nI (by omega) (by decide), vp_in_nI (by omega) (by decide), vp_in_nI (by omega) (by decide), ?_⟩
  rw [nI_clamp (n := k * 8 + i) (by omega), nI_clamp (n := p * 8 + i) (by omega), nI_1]
  rintro σ1 rfl
  have hsrc : σ'.2 21 (p * 8 + i) = σ.2 21 (p * 8 + i) := h.2.1 _ (by omega)
  obtain ⟨w1, w2, w3⟩ := zp_rw_word (σ := σ') (c := 21) (k := k) (w := i) (x := σ'.2 21 (k * 8 + i) ||| σ'.2 21 (p * 8 + i)) hi
  refine ih _ ⟨h.1.tr w1, fun j hj => (w2 j hj).trans (h.2.1 j hj), fun o ho => ?_⟩
  rw [w3 o ho]
  by_cases e : o / 64 = i
  · have h3 := h.2.2 o ho
    rw [if_neg (by omega)] at h3
    rw [if_pos e, zp_bt_or, hsrc, if_pos (by omega), ← h3, zp_bit_bt, zp_bit_bt, e]
  · rw [if_neg e, h.2.2 o ho]
    by_cases e2 : o / 64 < i
    · rw [if_pos e2, if_pos (by omega)]
    · rw [if_neg e2, if_neg (by omega)]
theorem zp_join_22_22 (hk : k < 80) (hp : p < 80) (hpk : p ≠ k) (q : ∀ σ', zp_rw 23 k (fun o => zp_bit (σ.2 23) k o || zp_bit (σ.2 23) p o) σ σ' → Q σ') : B_X8_join_22_22 Q (nI k) (nI p) σ := by
  refine zp_for (L := fun u i σ' => L_X8_join_22_22_3 Q u (nI k) (nI p) (nI i) σ') 8 (fun i σ' => zp_ch [23] σ σ' ∧ (∀ j, j / 8 ≠ k → σ'.2 23 j = σ.2 23 j) ∧ ∀ o, o < 512 → zp_bit (σ'.2 23) k o = if o / 64 < i then zp_bit (σ.2 23) k o || zp_bit (σ.2 23) p o else zp_bit (σ.2 23) k o) (fun u σ' h => zp_t (by decide) (q σ' ⟨h.1, h.2.1, fun o ho => by rw [h.2.2 o ho, if_pos (by omega)]⟩)) (fun u i σ' hi h ih => ?_) 0 σ ⟨zp_ch.rf, fun _ _ => rfl, fun o ho => by rw [if_neg (by omega)]⟩ (by decide)
  refine zp_f (nI_ge (b := 8) hi (by decide)) ?_
  rw [zp_m8, zp_m8, nI_add, nI_add]
  refine ⟨vp_in_nI (by omega) (by decide), vp_in_nI (by omega) (by decide), vp_in_nI (by omega) (by decide), ?_⟩
  rw [nI_clamp (n := k * 8 + i) (by omega), nI_clamp (n := p * 8 + i) (by omega), nI_1]
  rintro σ1 rfl
  have hsrc : σ'.2 23 (p * 8 + i) = σ.2 23 (p * 8 + i) := h.2.1 _ (by omega)
  obtain ⟨w1, w2, w3⟩ := zp_rw_word (σ := σ') (c := 23) (k := k) (w := i) (x := σ'.2 23 (k * 8 + i) ||| σ'.2 23 (p * 8 + i)) hi
  refine ih _ ⟨h.1.tr w1, fun j hj => (w2 j hj).trans (h.2.1 j hj), fun o ho => ?_⟩
  rw [w3 o ho]
  by_cases e : o / 64 = i
  · have h3 := h.2.2 o ho
    rw [if_neg (by omega)] at h3
    rw [if_pos e, zp_bt_or, hsrc, if_pos (by omega), ← h3, zp_bit_bt, zp_bit_bt, e]
  · rw [if_neg e, h.2.2 o ho]
    by_cases e2 : o / 64 < i
    · rw [if_pos e2, if_pos (by omega)]
    · rw [if_neg e2, if_neg (by omega)]
end ROWS
theorem zp_has_20 {σ : zv_St} {Q : Int32 → zv_St → Prop} {k o : Nat} (hk : k < 80) (ho : o < 512) {b : Bool} (hb : zp_bit (σ.2 21) k o = b) (q : Q (zp_bi b) σ) : B_X8_has_20 Q (nI k) (nI o) σ := by
  unfold B_X8_has_20
  rw [zp_sh6 ho, zp_a63 ho, zp_m8, nI_add]
  refine ⟨vp_in_nI (by omega) (by decide), ?_⟩
  rw [nI_clamp (by omega), lg_cmp_eq, zp_tb (j := o % 64) (by omega) (zp_cu _ (by omega)), ← zp_bit_bt, hb]
  cases b
  · exact zp_t rfl ⟨rfl, q⟩
  · exact zp_f (by decide) ⟨rfl, q⟩
theorem zp_word_20 {σ : zv_St} {Q : Int64 → zv_St → Prop} {k w : Nat} (hk : k < 80) (hw : w < 8) (q : Q (σ.2 21 (k * 8 + w)) σ) : B_X8_word_20 Q (nI k) (nI w) σ := by
  unfold B_X8_word_20
  rw [zp_m8, nI_add]
  refine ⟨vp_in_nI (by omega) (by decide), ?_⟩
  rw [nI_clamp (by omega)]; exact q
theorem zp_setWord_20 {σ : zv_St} {Q : zv_St → Prop} {k w : Nat} {x : Int64} (hk : k < 80) (hw : w < 8) (q : Q (zv_wl σ 21 (k * 8 + w) x)) : B_X8_setWord_20 Q (nI k) (nI w) x σ := by
  unfold B_X8_setWord_20
  rw [zp_m8, nI_add]
  refine ⟨vp_in_nI (by omega) (by decide), ?_⟩
  rw [nI_clamp (by omega)]
  rintro σ1 rfl
  exact q
theorem zp_has_22 {σ : zv_St} {Q : Int32 → zv_St → Prop} {k o : Nat} (hk : k < 80) (ho : o < 512) {b : Bool} (hb : zp_bit (σ.2 23) k o = b) (q : Q (zp_bi b) σ) : B_X8_has_22 Q (nI k) (nI o) σ := by
  unfold B_X8_has_22
  rw [zp_sh6 ho, zp_a63 ho, zp_m8, nI_add]
  refine ⟨vp_in_nI (by omega) (by decide), ?_⟩
  rw [nI_clamp (by omega), lg_cmp_eq, zp_tb (j := o % 64) (by omega) (zp_cu _ (by omega)), ← zp_bit_bt, hb]
  cases b
  · exact zp_t rfl ⟨rfl, q⟩
  · exact zp_f (by decide) ⟨rfl, q⟩
theorem zp_word_22 {σ : zv_St} {Q : Int64 → zv_St → Prop} {k w : Nat} (hk : k < 80) (hw : w < 8) (q : Q (σ.2 23 (k * 8 + w)) σ) : B_X8_word_22 Q (nI k) (nI w) σ := by
  unfold B_X8_word_22
  rw [zp_m8, nI_add]
  refine ⟨vp_in_nI (by omega) (by decide), ?_⟩
  rw [nI_clamp (by omega)]; exact q
theorem zp_setWord_22 {σ : zv_St} {Q : zv_St → Prop} {k w : Nat} {x : Int64} (hk : k < 80) (hw : w < 8) (q : Q (zv_wl σ 23 (k * 8 + w) x)) : B_X8_setWord_22 Q (nI k) (nI w) x σ := by
  unfold B_X8_setWord_22
  rw [zp_m8, nI_add]
  refine ⟨vp_in_nI (by omega) (by decide), ?_⟩
  rw [nI_clamp (by omega)]
  rintro σ1 rfl
  exact q
