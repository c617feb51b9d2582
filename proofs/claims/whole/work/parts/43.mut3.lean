/-! the pairs of calls that change: ask -/
def askX (M : Mem) (i t s : Int) : Mem := mset (begX M i t (mi M 0 6) s) 0 10 (M 0 10 + zI 1)
theorem askX_o (M : Mem) (i t s : Int) {a : Nat} (h0 : a ≠ 0) (h1 : a ≠ 22) (h2 : a ≠ 23) : askX M i t s a = M a := by
  unfold askX begX
  rw [mset_other _ _ _ h0, mfill_ne _ _ h2, mset_other _ _ _ h1, mset_other _ _ _ h1, mset_other _ _ _ h1, mset_other _ _ _ h1, mset_other _ _ _ h1, mset_other _ _ _ h1]
theorem askX_0 (M : Mem) (i t s : Int) {b : Nat} (h0 : b ≠ 10) : askX M i t s 0 b = M 0 b := by
  unfold askX begX
  rw [mset_ne _ _ (Or.inr h0), mfill_ne _ _ (by decide), mset_other _ _ _ (by decide), mset_other _ _ _ (by decide), mset_other _ _ _ (by decide), mset_other _ _ _ (by decide), mset_other _ _ _ (by decide), mset_other _ _ _ (by decide)]
theorem askX_10 (M : Mem) (i t s : Int) : askX M i t s 0 10 = M 0 10 + zI 1 := by
  unfold askX
  rw [mset_same]
theorem askX_22 (M : Mem) (i t s : Int) : askX M i t s 22 2 = zI 1 ∧ askX M i t s 22 3 = zI 0 ∧ askX M i t s 22 4 = zI i ∧ askX M i t s 22 5 = zI t ∧ askX M i t s 22 6 = zI (mi M 0 6) ∧ askX M i t s 22 7 = zI (mi M 0 6 * t) := by
  have e : askX M i t s 22 = mset (mset (mset (mset (mset (mset M 22 2 (zI 1)) 22 3 (zI 0)) 22 4 (zI i)) 22 5 (zI t)) 22 6 (zI (mi M 0 6))) 22 7 (zI (mi M 0 6 * t)) 22 := by
    unfold askX begX
    rw [mset_other _ _ _ (by decide), mfill_ne _ _ (by decide)]
  rw [e]
  refine ⟨?_, ?_, ?_, ?_, ?_, ?_⟩ <;> simp [mset]
theorem askX_23 (M : Mem) (i t s : Int) (q : Nat) : askX M i t s 23 q = if q < (mi M 0 6 * t).toNat then zI (lotS s q) else M 23 q := by
  unfold askX begX
  rw [mset_other _ _ _ (by decide)]
  by_cases h : q < (mi M 0 6 * t).toNat
  · rw [mfill_in _ _ h, if_pos h]
  · rw [if_neg h]
    unfold mfill
    rw [if_neg (fun z => h z.2)]
    simp only [mset_other _ _ _ (show (23 : Nat) ≠ 22 by decide)]
theorem WX.ask {M : Mem} (h : WX M) {i t s : Int} (hi : 0 ≤ i ∧ i < 2 ^ xm M) (ht : 1 ≤ t ∧ t ≤ 2) : WX (askX M i t s) := by
  obtain ⟨hm1, hm2, hm6, -⟩ := h.m
  have h8 := p2_8 hm1 hm2
  have hm := h.1
  obtain ⟨a2, a3, a4, a5, a6, a7⟩ := askX_22 M i t s
  have mt : 1 ≤ mi M 0 6 * t ∧ mi M 0 6 * t ≤ 6 := by
    rcases (by omega : t = 1 ∨ t = 2) with rfl | rfl <;> omega
  have i8 : i < 8 := by
    have : (2 : Int) ^ xm M ≤ 8 := by
      rcases (by omega : xm M = 1 ∨ xm M = 2 ∨ xm M = 3) with e | e | e <;> rw [e] <;> decide
    omega
  have m0 : mi (askX M i t s) 0 6 = mi M 0 6 := by unfold mi; rw [askX_0 _ _ _ _ (by decide)]
  have m7 : mi (askX M i t s) 0 7 = mi M 0 7 := by unfold mi; rw [askX_0 _ _ _ _ (by decide)]
  have m2 : mi (askX M i t s) 22 2 = 1 := by unfold mi; rw [a2]; rfl
  have m3 : mi (askX M i t s) 22 3 = 0 := by unfold mi; rw [a3]; rfl
  have m4 : mi (askX M i t s) 22 4 = i := by unfold mi; rw [a4, zI_toInt (by omega) (by omega)]
  have m5 : mi (askX M i t s) 22 5 = t := by unfold mi; rw [a5, zI_toInt (by omega) (by omega)]
  have m6 : mi (askX M i t s) 22 6 = mi M 0 6 := by unfold mi; rw [a6]; rw [mi_z]
  have m77 : mi (askX M i t s) 22 7 = mi M 0 6 * t := by unfold mi at mt ⊢; rw [a7]; exact zI_toInt (by unfold mi; omega) (by unfold mi; omega)
  have ew : (2 : Int) ^ xm M = 2 ^ (mi M 0 6).toNat := rfl
  refine ⟨by rw [m0]; exact hm, fun i hi => ?_, fun j h1 h2 => ?_, fun j h1 h2 i hi => ?_, Or.inr m2, Or.inl m3, by rw [m4]; omega, by rw [m5]; exact ht, by rw [m6]; exact hm, by rw [m77, m6, m5], fun q hq => ?_, fun q hq => ?_, fun _ => ⟨by rw [m6, m0], by rw [m4, m0]; omega⟩, by rw [m7]; exact h.ca⟩
  · unfold mi
    rw [askX_o _ _ _ _ (by decide) (by decide) (by decide)]
    exact h.num i hi
  · unfold mi
    rw [askX_o _ _ _ _ (by omega) (by omega) (by omega)]
    exact h.st j h1 h2
  · unfold mi
    rw [askX_o _ _ _ _ (by omega) (by omega) (by omega)]
    exact h.kp j h1 h2 i hi
  · unfold mi
    rw [askX_23]
    split
    · have := lotS_bd s q
      rw [zI_toInt (by omega) (by omega)]
      exact this
    · exact h.lt q hq
  · unfold mi
    rw [askX_o _ _ _ _ (by decide) (by decide) (by decide)]
    exact h.vs q hq
theorem keep_ask {M M2 : Mem} (h : Inv M) {i t : Int32} {s : Int} (hi : okR M i) (ht : 1 ≤ t.toInt ∧ t.toInt ≤ 2) (hA : AskP (askB (thM (askX M i.toInt t.toInt s)) i t) s t.toInt.toNat (xm M) 0 M2) : Inv M2 := by
  obtain ⟨hm1, hm2, hm6, -⟩ := h.1.m
  obtain ⟨p1, p2, p3⟩ := hA
  obtain ⟨a2, a3, a4, a5, a6, a7⟩ := askX_22 M i.toInt t.toInt s
  have e : ∀ a, a ≠ 31 → a ≠ 36 → M2 a = askX M i.toInt t.toInt s a := fun a h1 h2 => by
    rw [p1 a h2]
    unfold askB thM
    simp only [mset_other _ _ _ h1]
  have eo : ∀ a, a ≠ 0 → a ≠ 22 → a ≠ 23 → a ≠ 31 → a ≠ 36 → M2 a = M a := fun a h1 h2 h3 h4 h5 => by rw [e a h4 h5, askX_o _ _ _ _ h1 h2 h3]
  have r31 : ∀ b, M2 31 b = if b = 15 then M 31 15 + zI 1 else if b = 8 then t else if b = 7 then i else if b = 10 then zI 0 else if b = 6 then zI 1 else if b = 0 then zI 0 else M 31 b := fun b => by
    rw [p1 31 (by decide)]
    have q : ∀ b, b ≠ 0 → thM (askX M i.toInt t.toInt s) 31 b = M 31 b := fun b hb => by
      unfold thM
      rw [mset_ne _ _ (Or.inr hb), askX_o _ _ _ _ (by decide) (by decide) (by decide)]
    unfold askB
    rw [q 15 (by decide)]
    by_cases b0 : b = 0
    · subst b0
      simp [mset, thM]
    · simp [mset, b0, q b b0]
  have x0 : ∀ b, b ≠ 10 → M2 0 b = M 0 b := fun b hb => by rw [e 0 (by decide) (by decide), askX_0 _ _ _ _ hb]
  have exm : xm M2 = xm M := by unfold xm mi; rw [x0 6 (by decide)]
  have m5 : mi M2 22 5 = t.toInt := by unfold mi; rw [e 22 (by decide) (by decide), a5, zI_of]
  have m3 : mi M2 22 3 = 0 := by unfold mi; rw [e 22 (by decide) (by decide), a3]; rfl
  obtain ⟨s1, s2, s3⟩ := InvQ.stc h.2.1 (M' := M2) (eo 33 (by decide) (by decide) (by decide) (by decide) (by decide)) (eo 34 (by decide) (by decide) (by decide) (by decide) (by decide)) (eo 35 (by decide) (by decide) (by decide) (by decide) (by decide)) (fun a h1 h2 => eo a (by omega) (by omega) (by omega) (by omega) (by omega))
  refine ⟨(WX.ask h.1 (i := i.toInt) (t := t.toInt) (s := s) hi ht).sax (fun a h1 h2 => e a (by omega) (by omega)), ⟨?_, fun i hi => ?_, s1, s2, s3, ?_, p3, fun _ => ⟨?_, ?_, fun k e9 hk he => ?_, ?_, fun q => ?_⟩⟩, ⟨?_, ?_, ?_, fun j hj => ?_⟩⟩
  · rw [r31 1, x0 6 (by decide)]
    exact h.2.1.dg
  · rw [eo 32 (by decide) (by decide) (by decide) (by decide) (by decide), eo 1 (by decide) (by decide) (by decide) (by decide) (by decide)]
    exact h.2.1.num i hi
  · rw [r31 6, e 22 (by decide) (by decide), a2]
    rfl
  · rw [r31 7, e 22 (by decide) (by decide), a4, zI_of]
    rfl
  · rw [r31 8, e 22 (by decide) (by decide), a5, zI_of]
    rfl
  · rw [exm] at hk
    rw [m5] at he ⊢
    rw [p2 k e9 he (Or.inl hk), e 23 (by decide) (by decide), askX_23]
    have hlt : k * t.toInt.toNat + e9 < (mi M 0 6 * t.toInt).toNat := by
      have e1 : (mi M 0 6 * t.toInt).toNat = xm M * t.toInt.toNat := by
        have : mi M 0 6 * t.toInt = ((xm M * t.toInt.toNat : Nat) : Int) := by
          rw [hm6, Int.natCast_mul, Int.toNat_of_nonneg (by omega)]
        rw [this]
        rfl
      have h3 := Nat.mul_le_mul_right t.toInt.toNat (show k + 1 ≤ xm M by omega)
      rw [Nat.succ_mul] at h3
      omega
    rw [if_pos hlt]
  · rw [r31 10, e 22 (by decide) (by decide), a3]
    rfl
  · rw [m3] at q
    exact absurd q (by decide)
  · rw [r31 13, x0 8 (by decide)]
    exact h.2.2.1
  · rw [r31 14, x0 9 (by decide)]
    exact h.2.2.2.1
  · rw [r31 15, e 0 (by decide) (by decide), askX_10, ← h.2.2.2.2.1]
    rfl
  · unfold mi
    rw [eo 38 (by decide) (by decide) (by decide) (by decide) (by decide), x0 7 (by decide)]
    exact h.2.2.2.2.2 j hj
theorem pr_ask {M : Mem} (h : Inv M) (i t s : Int32) : PairI yX4_ask cX4_ask 4 2 [.ref 0, .int i, .int t, .int s] yX5_ask cX5_ask 8 2 [.ref 31, .int i, .int t, .int s] M := by
  refine ⟨_, ev_X4_ask h.1 i t s, fun r M1 q => ?_⟩
  obtain ⟨rfl, rfl⟩ := q
  have hm := mx_m h.1 h.2.1
  by_cases hc : okR M i ∧ okA t s
  · rw [if_pos hc, if_pos hc.1, if_pos hc.2]
    have hr : okR (thM (askX M i.toInt t.toInt s.toInt)) i := by
      show 0 ≤ i.toInt ∧ i.toInt < 2 ^ xm (thM (askX M i.toInt t.toInt s.toInt))
      have : xm (thM (askX M i.toInt t.toInt s.toInt)) = xm M := by
        unfold xm mi thM
        rw [mset_other _ _ _ (by decide), askX_0 _ _ _ _ (by decide)]
      rw [this]
      exact hc.1
    have hr2 : okR (thM (askX M i.toInt t.toInt s.toInt)) i ∧ okA t s := ⟨hr, hc.2⟩
    have hx : xm (thM (askX M i.toInt t.toInt s.toInt)) = xm M := by
      unfold xm mi thM
      rw [mset_other _ _ _ (by decide), askX_0 _ _ _ _ (by decide)]
    have hw : WX (thM (askX M i.toInt t.toInt s.toInt)) := (WX.ask h.1 (i := i.toInt) (t := t.toInt) (s := s.toInt) hc.1 hc.2.1).sax (thM_sak _).sax
    refine ⟨_, rfl, _, ev_X5_ask hw ?_ ?_ i t s, fun r' M2 q2 => ?_⟩
    · rw [hx]
      unfold thM
      rw [mset_ne _ _ (Or.inr (by decide)), askX_o _ _ _ _ (by decide) (by decide) (by decide)]
      exact hm
    · unfold mi thM
      rw [mset_other _ _ _ (by decide), askX_o _ _ _ _ (by decide) (by decide) (by decide)]
      exact h.2.1.lb
    · obtain ⟨rfl, -, q3⟩ := q2
      have q3 := q3 hr2
      rw [hx] at q3
      refine ⟨?_, keep_ask h hc.1 hc.2.1 q3⟩
      rw [if_pos hr, if_pos hc.2]
      unfold mi thM
      rw [mset_other _ _ _ (by decide), askX_0 _ _ _ _ (by decide)]
  · rw [if_neg hc]
    have hi := h.sak (thM_sak M)
    have hr : okR (thM M) i ↔ okR M i := okR_say (thM_sak M).sax.say i
    refine ⟨_, rfl, _, ev_X5_ask hi.1 (mx_m hi.1 hi.2.1) hi.2.1.lb i t s, fun r' M2 q2 => ?_⟩
    obtain ⟨rfl, q3, -⟩ := q2
    have hc2 : ¬ (okR (thM M) i ∧ okA t s) := hc
    obtain rfl := q3 hc2
    refine ⟨?_, hi⟩
    by_cases h1 : okR M i
    · rw [if_pos h1, if_pos (hr.mpr h1), if_neg (fun q => hc ⟨h1, q⟩), if_neg (fun q => hc ⟨h1, q⟩)]
    · rw [if_neg h1, if_neg (fun q => h1 (hr.mp q))]
