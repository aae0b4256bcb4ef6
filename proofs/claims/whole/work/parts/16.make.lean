/-! A NODE is made. -/
def zp_own (kd : Nat) : Bool := kd == 4 || kd == 5 || kd == 6
def zp_addN (S : zp_S) (n kd fs sc : Nat) : zp_S := fun c j => match c with
  | 0 => if j = n then kd else S 0 j
  | 1 => if j = n then fs else S 1 j
  | 2 => if j = n then sc else S 2 j
  | 3 => if j = n then (if zp_own kd = true then 1 else 0) else S 3 j
  | 4 => if j = n * 8 then 0 else S 4 j
  | 5 => if j = n * 8 then fs else S 5 j
  | c => S c j
theorem zp_addN_same {S : zp_S} {n kd fs sc k : Nat} (hk : k < n) (hm : S 3 k ≤ 8) : zp_sameN S (zp_addN S n kd fs sc) k := by
  have h1 : ¬ k = n := by omega
  refine ⟨by simp [zp_addN, h1], by simp [zp_addN, h1], by simp [zp_addN, h1], by simp [zp_addN, h1], fun i hi => ?_⟩
  have h2 : ¬ k * 8 + i = n * 8 := by omega
  exact ⟨by simp [zp_addN, h2], by simp [zp_addN, h2]⟩
theorem zp_wf1_same {S S' : zp_S} {k : Nat} (h : zp_sameN S S' k) (hw : zp_wf1 S k) : zp_wf1 S' k := by
  obtain ⟨e0, e1, e2, e3, e45⟩ := h
  obtain ⟨w0, w1, w2, w3, w4, w5, w6, w7, w8, w9, w10⟩ := hw
  unfold zp_wf1
  have k0 : zp_kd S' k = zp_kd S k := e0
  have k1 : zp_fs S' k = zp_fs S k := e1
  have k2 : zp_sc S' k = zp_sc S k := e2
  have k3 : zp_mn S' k = zp_mn S k := e3
  rw [k0, k1, k2, k3]
  have kr : ∀ i, i < zp_mn S k → zp_ro S' k i = zp_ro S k i ∧ zp_pt S' k i = zp_pt S k i := fun i hi => e45 i hi
  refine ⟨w0, w1, fun i hi => by rw [(kr i hi).1, (kr i hi).2]; exact w2 i hi, w3, w4, w5, fun h => ⟨(w6 h).1, (w6 h).2.1, fun i hi => by rw [(kr i hi).1]; exact (w6 h).2.2 i hi⟩, fun h => ?_, fun h => ?_, fun h => ?_, w10⟩
  · obtain ⟨a1, a2, a3, a4⟩ := w7 h
    have := kr 0 (by omega)
    exact ⟨a1, a2, this.2.trans a3, this.1.trans a4⟩
  · obtain ⟨a1, a2, a3, a4, a5⟩ := w8 h
    have := kr 0 (by omega)
    exact ⟨a1, a2, a3, this.2.trans a4, this.1.trans a5⟩
  · obtain ⟨a1, a2, a3, a4⟩ := w9 h
    have := kr 0 (by omega)
    exact ⟨a1, a2, this.2.trans a3, this.1.trans a4⟩
theorem zp_addN_wf {S : zp_S} {n kd fs sc : Nat} (hn : n < 80) (h : zp_wf n S) (ok : zp_newok n kd fs sc) : zp_wf (n + 1) (zp_addN S n kd fs sc) := by
  refine ⟨by omega, fun k hk => ?_⟩
  by_cases e : k = n
  · subst e
    obtain ⟨o, o0, o1, o2, o3, o4, o5, o6, o7⟩ := ok
    have f0 : zp_kd (zp_addN S k kd fs sc) k = kd := by simp [zp_addN]
    have f1 : zp_fs (zp_addN S k kd fs sc) k = fs := by simp [zp_addN]
    have f2 : zp_sc (zp_addN S k kd fs sc) k = sc := by simp [zp_addN]
    have f3 : zp_mn (zp_addN S k kd fs sc) k = if zp_own kd = true then 1 else 0 := by simp [zp_addN]
    have f4 : zp_ro (zp_addN S k kd fs sc) k 0 = 0 := by simp [zp_addN]
    have f5 : zp_pt (zp_addN S k kd fs sc) k 0 = fs := by simp [zp_addN]
    unfold zp_wf1
    rw [f0, f1, f2, f3, f4, f5]
    rcases (show kd = 0 ∨ kd = 1 ∨ kd = 2 ∨ kd = 3 ∨ kd = 4 ∨ kd = 5 ∨ kd = 6 ∨ kd = 7 by omega) with e | e | e | e | e | e | e | e <;> subst e
    · have hh : zp_own 0 = false := rfl
      simp only [hh]
      have := o0 rfl
      refine ⟨by omega, by simp, fun i hi => by simp at hi, fun _ => ⟨by omega, by omega, by simp⟩, ?_, ?_, ?_, ?_, ?_, ?_, ?_⟩ <;> intro hc <;> exact absurd hc (by decide)
    · have hh : zp_own 1 = false := rfl
      simp only [hh]
      have := o1 rfl
      refine ⟨by omega, by simp, fun i hi => by simp at hi, ?_, fun _ => ⟨by omega, by omega, by simp⟩, ?_, ?_, ?_, ?_, ?_, ?_⟩ <;> intro hc <;> exact absurd hc (by decide)
    · have hh : zp_own 2 = false := rfl
      simp only [hh]
      have := o2 rfl
      refine ⟨by omega, by simp, fun i hi => by simp at hi, ?_, ?_, fun _ => ⟨by omega, by omega⟩, ?_, ?_, ?_, ?_, ?_⟩ <;> intro hc <;> exact absurd hc (by decide)
    · have hh : zp_own 3 = false := rfl
      simp only [hh]
      have := o3 rfl
      refine ⟨by omega, by simp, fun i hi => by simp at hi, ?_, ?_, ?_, fun _ => ⟨by omega, by omega, fun i hi => by simp at hi⟩, ?_, ?_, ?_, ?_⟩ <;> intro hc <;> exact absurd hc (by decide)
    · have hh : zp_own 4 = true := rfl
      simp only [hh]
      have := o4 rfl
      refine ⟨by omega, by simp, fun i hi => ?_, ?_, ?_, ?_, ?_, fun _ => ⟨by omega, by simp, by simp, by simp⟩, ?_, ?_, ?_⟩
      · have hi0 : i = 0 := by simp at hi; omega
        subst hi0
        rw [f4, f5]
        omega
      all_goals (intro hc; exact absurd hc (by decide))
    · have hh : zp_own 5 = true := rfl
      simp only [hh]
      have := o5 rfl
      refine ⟨by omega, by simp, fun i hi => ?_, ?_, ?_, ?_, ?_, ?_, fun _ => ⟨by omega, by omega, by simp, by simp, by simp⟩, ?_, ?_⟩
      · have hi0 : i = 0 := by simp at hi; omega
        subst hi0
        rw [f4, f5]
        omega
      all_goals (intro hc; exact absurd hc (by decide))
    · have hh : zp_own 6 = true := rfl
      simp only [hh]
      have := o6 rfl
      refine ⟨by omega, by simp, fun i hi => ?_, ?_, ?_, ?_, ?_, ?_, ?_, fun _ => ⟨by omega, by simp, by simp, by simp⟩, ?_⟩
      · have hi0 : i = 0 := by simp at hi; omega
        subst hi0
        rw [f4, f5]
        omega
      all_goals (intro hc; exact absurd hc (by decide))
    · have hh : zp_own 7 = false := rfl
      simp only [hh]
      have := o7 rfl
      refine ⟨by omega, by simp, fun i hi => by simp at hi, ?_, ?_, ?_, ?_, ?_, ?_, ?_, fun _ => ⟨by omega, by omega, by simp⟩⟩ <;> intro hc <;> exact absurd hc (by decide)
  · exact zp_wf1_same (zp_addN_same (by omega) (h.2 k (by omega)).2.1) (h.2 k (by omega))
section MK
variable {σ : zv_St} {n kd fs sc : Nat} {S : zp_S}
/-- the component's cells behind it -/
theorem zp_NC_add {σ' : zv_St} (hn : n < 80) (hw : zp_wf n S) (hN : zp_NC σ n S) (e5 : σ'.1 5 0 = nI (n + 1)) (e6 : ∀ j, σ'.1 6 j = if j = n then nI kd else σ.1 6 j) (e7 : ∀ j, σ'.1 7 j = if j = n then nI fs else σ.1 7 j) (e8 : ∀ j, σ'.1 8 j = if j = n then nI sc else σ.1 8 j) (e10 : ∀ j, σ'.1 10 j = if j = n then nI (if zp_own kd = true then 1 else 0) else σ.1 10 j) (e11 : ∀ j, σ'.1 11 j = if zp_own kd = true ∧ j = n * 8 then nI 0 else σ.1 11 j) (e12 : ∀ j, σ'.1 12 j = if zp_own kd = true ∧ j = n * 8 then nI fs else σ.1 12 j) : zp_NC σ' (n + 1) (zp_addN S n kd fs sc) := by
  refine ⟨e5, fun k hk => ?_⟩
  by_cases hkn : k = n
  · subst hkn
    refine ⟨by rw [e6, if_pos rfl]; simp [zp_addN], by rw [e7, if_pos rfl]; simp [zp_addN], by rw [e8, if_pos rfl]; simp [zp_addN], by rw [e10, if_pos rfl]; simp [zp_addN], fun i hi => ?_⟩
    have hi2 : i < (if zp_own kd = true then 1 else 0) := by simpa [zp_addN] using hi
    by_cases ho : zp_own kd = true
    · rw [if_pos ho] at hi2
      have hi0 : i = 0 := by omega
      subst hi0
      refine ⟨?_, ?_⟩
      · rw [e11, if_pos ⟨ho, rfl⟩]; simp [zp_addN]
      · rw [e12, if_pos ⟨ho, rfl⟩]; simp [zp_addN]
    · rw [if_neg ho] at hi2
      omega
  · obtain ⟨a1, a2, a3, a4, a5⟩ := hN.2 k (by omega)
    obtain ⟨s0, s1, s2, s3, s4⟩ := zp_addN_same (S := S) (n := n) (kd := kd) (fs := fs) (sc := sc) (k := k) (by omega) (hw.2 k (by omega)).2.1
    have hm := (hw.2 k (by omega)).2.1
    refine ⟨?_, ?_, ?_, ?_, fun i hi => ?_⟩
    · rw [e6, if_neg hkn, a1]; exact congrArg nI s0.symm
    · rw [e7, if_neg hkn, a2]; exact congrArg nI s1.symm
    · rw [e8, if_neg hkn, a3]; exact congrArg nI s2.symm
    · rw [e10, if_neg hkn, a4]; exact congrArg nI s3.symm
    · have hi' : i < S 3 k := by rw [← s3]; exact hi
      have hm' : S 3 k ≤ 8 := hm
      obtain ⟨b1, b2⟩ := a5 i hi'
      have hne : ¬ (k * 8 + i = n * 8) := by omega
      refine ⟨?_, ?_⟩
      · rw [e11, if_neg (fun q => hne q.2), b1]; exact congrArg nI (s4 i hi').1.symm
      · rw [e12, if_neg (fun q => hne q.2), b2]; exact congrArg nI (s4 i hi').2.symm
theorem zp_makeC {Q : Int32 → zv_St → Prop} (hn : n < 80) (hw : zp_wf n S) (hN : zp_NC σ n S) (ok : zp_newok n kd fs sc)
    (q : ∀ σ', zp_ch [5, 6, 7, 8, 9, 10, 11, 12] σ σ' → σ'.2 = σ.2 → zp_NC σ' (n + 1) (zp_addN S n kd fs sc) → (∀ j, σ'.1 9 j = if j = n then 0 else σ.1 9 j) → Q (nI n) σ') : B_X5_make Q (nI kd) (nI fs) (nI sc) σ := by
  obtain ⟨k1, k2, k3⟩ := ok.small (by omega)
  unfold B_X5_make
  rw [hN.1]
  refine zp_t (nI_lt (b := 80) hn (by decide)) ?_
  rintro σ1 rfl
  refine ⟨vp_in_nI hn (by decide), ?_⟩
  rw [nI_clamp (by omega), nI_1]
  rintro σ2 rfl
  refine ⟨vp_in_nI hn (by decide), ?_⟩
  rintro σ3 rfl
  refine ⟨vp_in_nI hn (by decide), ?_⟩
  rintro σ4 rfl
  refine ⟨vp_in_nI hn (by decide), ?_⟩
  rintro σ5 rfl
  refine ⟨vp_in_nI hn (by decide), ?_⟩
  rintro σ6 rfl
  have hone : zp_own kd = true → B_X5_make_84 Q (nI fs) (nI n) (zv_wi (zv_wi (zv_wi (zv_wi (zv_wi (zv_wi σ 5 0 (nI (n + 1))) 6 n (nI kd)) 7 n (nI fs)) 8 n (nI sc)) 9 n 0) 10 n 0) := by
    intro ho
    refine ⟨vp_in_nI hn (by decide), ?_⟩
    rw [nI_clamp (by omega), zp_rs]
    refine zp_t (by decide) ⟨vp_in_nI hn (by decide), ?_⟩
    rintro v rfl
    rw [zp_m8, show nI (n * 8) + 0 = nI (n * 8) from by rw [show (0 : Int32) = nI 0 from rfl, nI_add]; rfl]
    refine ⟨vp_in_nI (by omega) (by decide), ?_⟩
    rw [nI_clamp (by omega)]
    rintro τ1 rfl
    refine ⟨vp_in_nI (by omega) (by decide), ?_⟩
    rintro τ2 rfl
    refine ⟨vp_in_nI hn (by decide), vp_in_nI hn (by decide), ?_⟩
    rintro τ3 rfl
    refine q _ ?_ rfl (zp_NC_add hn hw hN ?_ ?_ ?_ ?_ ?_ ?_ ?_) ?_
    · exact ((((((((zp_ch.wi (by decide)).tr (zp_ch.wi (by decide))).tr (zp_ch.wi (by decide))).tr (zp_ch.wi (by decide))).tr (zp_ch.wi (by decide))).tr (zp_ch.wi (by decide))).tr (zp_ch.wi (by decide))).tr (zp_ch.wi (by decide))).tr (zp_ch.wi (by decide))
    · simp [zp_ri]
    · intro j; simp [zp_ri]
    · intro j; simp [zp_ri]
    · intro j; simp [zp_ri]
    · intro j
      by_cases hj : j = n
      · subst hj
        rw [if_pos rfl, if_pos ho, zp_rs, zp_rn _ _ _ _ (by decide), zp_rn _ _ _ _ (by decide), zp_rs]
        rfl
      · rw [if_neg hj]
        simp [zp_ri, hj]
    · intro j; simp [zp_ri, ho]; rfl
    · intro j; simp [zp_ri, ho]
    · intro j; simp [zp_ri]
  have hnone : zp_own kd = false → Q (nI n) (zv_wi (zv_wi (zv_wi (zv_wi (zv_wi (zv_wi σ 5 0 (nI (n + 1))) 6 n (nI kd)) 7 n (nI fs)) 8 n (nI sc)) 9 n 0) 10 n 0) := by
    intro ho
    refine q _ ?_ rfl (zp_NC_add hn hw hN ?_ ?_ ?_ ?_ ?_ ?_ ?_) ?_
    · exact (((((zp_ch.wi (by decide)).tr (zp_ch.wi (by decide))).tr (zp_ch.wi (by decide))).tr (zp_ch.wi (by decide))).tr (zp_ch.wi (by decide))).tr (zp_ch.wi (by decide))
    · simp [zp_ri]
    · intro j; simp [zp_ri]
    · intro j; simp [zp_ri]
    · intro j; simp [zp_ri]
    · intro j; simp [zp_ri, ho]; rfl
    · intro j; simp [zp_ri, ho]
    · intro j; simp [zp_ri, ho]
    · intro j; simp [zp_ri]
  have hkd : kd ≤ 7 := ok.1
  rcases (show kd = 0 ∨ kd = 1 ∨ kd = 2 ∨ kd = 3 ∨ kd = 4 ∨ kd = 5 ∨ kd = 6 ∨ kd = 7 by omega) with e | e | e | e | e | e | e | e <;> subst e
  · exact zp_f (by decide) (zp_f (by decide) (zp_nt (by decide) (hnone rfl)))
  · exact zp_f (by decide) (zp_f (by decide) (zp_nt (by decide) (hnone rfl)))
  · exact zp_f (by decide) (zp_f (by decide) (zp_nt (by decide) (hnone rfl)))
  · exact zp_f (by decide) (zp_f (by decide) (zp_nt (by decide) (hnone rfl)))
  · exact zp_t rfl (hone rfl)
  · exact zp_f (by decide) (zp_t rfl (hone rfl))
  · exact zp_f (by decide) (zp_f (by decide) (zp_nf rfl (hone rfl)))
  · exact zp_f (by decide) (zp_f (by decide) (zp_nt (by decide) (hnone rfl)))
end MK
