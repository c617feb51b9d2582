/-! the pairs of calls that change: put, records -/
theorem InvQ.stc {M M' : Mem} (h : InvQ M) (e3 : M' 33 = M 33) (e4 : M' 34 = M 34) (e5 : M' 35 = M 35) (eS : ∀ a, 4 ≤ a → a < 22 → M' a = M a) :
    (∀ j, 1 ≤ j → j < 10 → M' 33 j = M' (3 + j) 1) ∧ (∀ j, 1 ≤ j → j < 10 → (mi M' (3 + j) 1 = 1 → M' 34 j = M' (3 + j) 2) ∧ (¬ mi M' (3 + j) 1 = 1 → M' (3 + j) 2 = zI 0)) ∧ (∀ j, 1 ≤ j → j < 10 → mi M' (3 + j) 1 = 2 → ∀ i, i < 8 → M' 35 (8 * j + i) = M' (12 + j) i) := by
  refine ⟨fun j h1 h2 => ?_, fun j h1 h2 => ?_, fun j h1 h2 => ?_⟩
  · rw [e3, eS (3 + j) (by omega) (by omega)]
    exact h.kd j h1 h2
  · unfold mi
    rw [e4, eS (3 + j) (by omega) (by omega)]
    exact h.ly j h1 h2
  · unfold mi
    rw [e5, eS (3 + j) (by omega) (by omega), eS (12 + j) (by omega) (by omega)]
    exact h.kp j h1 h2
theorem InvQ.qsc {M M' : Mem} (h : InvQ M) (e0 : M' 0 6 = M 0 6) (e22 : M' 22 = M 22) (e23 : M' 23 = M 23) (e24 : M' 24 = M 24) (e6 : M' 36 = M 36) (e7 : M' 37 = M 37) (a7 : M' 31 7 = M 31 7) (a8 : M' 31 8 = M 31 8) (a10 : M' 31 10 = M 31 10) :
    mi M' 22 2 = 1 → M' 31 7 = M' 22 4 ∧ M' 31 8 = M' 22 5 ∧ (∀ k e, k < xm M' → e < (mi M' 22 5).toNat → M' 36 (2 * k + e) = M' 23 (k * (mi M' 22 5).toNat + e)) ∧ M' 31 10 = M' 22 3 ∧ (mi M' 22 3 = 1 → ∀ e, e < (mi M' 22 7).toNat → M' 37 (e + 1) = M' 24 e) := by
  have ex : xm M' = xm M := by unfold xm mi; rw [e0]
  unfold mi
  rw [e22, e23, e24, e6, e7, a7, a8, a10, ex]
  exact h.qs
theorem WX.row {M M' : Mem} (h : WX M) (e0 : M' 0 6 = M 0 6) (e07 : 0 ≤ mi M' 0 7 ∧ mi M' 0 7 < 1024) (e : ∀ a, 1 ≤ a → a < 25 → a ≠ 2 → M' a = M a) : WX M' := by
  have q := h
  unfold WX at q ⊢
  refine ⟨?_, ?_, fun j h1 h2 => ?_, fun j h1 h2 => ?_, ?_⟩
  · unfold mi
    rw [e0]
    exact h.1
  · unfold mi
    rw [e 1 (by decide) (by decide) (by decide)]
    exact h.num
  · unfold mi
    rw [e (3 + j) (by omega) (by omega) (by omega)]
    exact h.st j h1 h2
  · unfold mi
    rw [e (12 + j) (by omega) (by omega) (by omega)]
    exact h.kp j h1 h2
  · unfold mi at q e07 ⊢
    rw [e 22 (by decide) (by decide) (by decide), e 23 (by decide) (by decide) (by decide), e 24 (by decide) (by decide) (by decide), e0]
    exact ⟨q.2.2.2.2.1, q.2.2.2.2.2.1, q.2.2.2.2.2.2.1, q.2.2.2.2.2.2.2.1, q.2.2.2.2.2.2.2.2.1, q.2.2.2.2.2.2.2.2.2.1, q.2.2.2.2.2.2.2.2.2.2.1, q.2.2.2.2.2.2.2.2.2.2.2.1, q.2.2.2.2.2.2.2.2.2.2.2.2.1, e07⟩
theorem InvC.row {M M' : Mem} (h : InvC M) (e0 : ∀ b, 7 ≤ b → b < 11 → M' 0 b = M 0 b) (e1 : ∀ b, 13 ≤ b → b < 16 → M' 31 b = M 31 b) (e38 : M' 38 = M 38) : InvC M' := by
  have hm : mi M' 0 7 = mi M 0 7 := by unfold mi; rw [e0 7 (by decide) (by decide)]
  refine ⟨?_, ?_, ?_, fun j hj => ?_⟩
  · rw [e1 13 (by decide) (by decide), e0 8 (by decide) (by decide)]
    exact h.1
  · rw [e1 14 (by decide) (by decide), e0 9 (by decide) (by decide)]
    exact h.2.1
  · rw [e1 15 (by decide) (by decide), e0 10 (by decide) (by decide)]
    exact h.2.2.1
  · rw [e38, hm]
    exact h.2.2.2 j hj
theorem WX.put {M : Mem} (h : WX M) {n : Nat} {v : Int32} (hv : okN v) : WX (mset M 1 n v) := by
  have e : ∀ a, a ≠ 1 → mset M 1 n v a = M a := fun a ha => mset_other _ _ _ ha
  refine ⟨h.1, fun i hi => ?_, fun j h1 h2 => ?_, fun j h1 h2 => ?_, h.2.2.2.2⟩
  · unfold mi
    by_cases hin : i = n
    · rw [hin, mset_same]
      exact hv
    · rw [mset_ne _ _ (Or.inr hin)]
      exact h.num i hi
  · unfold mi
    rw [e (3 + j) (by omega)]
    exact h.st j h1 h2
  · unfold mi
    rw [e (12 + j) (by omega)]
    exact h.kp j h1 h2
theorem keep_put {M : Mem} (h : Inv M) {n : Nat} {v : Int32} (hv : okN v) : Inv (mset (thM (mset M 1 n v)) 32 n v) := by
  have e : ∀ a, a ≠ 1 → a ≠ 31 → a ≠ 32 → mset (thM (mset M 1 n v)) 32 n v a = M a := fun a h1 h2 h3 => by
    unfold thM
    rw [mset_other _ _ _ h3, mset_other _ _ _ h2, mset_other _ _ _ h1]
  have e31 : ∀ b, b ≠ 0 → mset (thM (mset M 1 n v)) 32 n v 31 b = M 31 b := fun b hb => by
    unfold thM
    rw [mset_other _ _ _ (by decide), mset_ne _ _ (Or.inr hb), mset_other _ _ _ (by decide)]
  obtain ⟨s1, s2, s3⟩ := InvQ.stc h.2.1 (M' := mset (thM (mset M 1 n v)) 32 n v) (e 33 (by decide) (by decide) (by decide)) (e 34 (by decide) (by decide) (by decide)) (e 35 (by decide) (by decide) (by decide)) (fun a h1 h2 => e a (by omega) (by omega) (by omega))
  refine ⟨(WX.put h.1 (n := n) hv).sax (fun a h1 h2 => ?_), ⟨?_, fun i hi => ?_, s1, s2, s3, ?_, ?_, ?_⟩, ?_⟩
  · unfold thM
    rw [mset_other _ _ _ (by omega), mset_other _ _ _ (by omega)]
  · rw [e31 1 (by decide), e 0 (by decide) (by decide) (by decide)]
    exact h.2.1.dg
  · by_cases hin : i = n
    · rw [hin, mset_same, mset_other _ _ _ (by decide)]
      unfold thM
      rw [mset_other _ _ _ (by decide), mset_same]
    · rw [mset_ne _ _ (Or.inr hin), mset_other _ _ _ (by decide)]
      unfold thM
      rw [mset_other _ _ _ (by decide), mset_other _ _ _ (by decide), mset_other _ _ _ (by decide), mset_ne _ _ (Or.inr hin)]
      exact h.2.1.num i hi
  · rw [e31 6 (by decide), e 22 (by decide) (by decide) (by decide)]
    exact h.2.1.as
  · unfold mi
    rw [e 36 (by decide) (by decide) (by decide)]
    exact h.2.1.lb
  · exact h.2.1.qsc (by rw [e 0 (by decide) (by decide) (by decide)]) (e 22 (by decide) (by decide) (by decide)) (e 23 (by decide) (by decide) (by decide)) (e 24 (by decide) (by decide) (by decide)) (e 36 (by decide) (by decide) (by decide)) (e 37 (by decide) (by decide) (by decide)) (e31 7 (by decide)) (e31 8 (by decide)) (e31 10 (by decide))
  · exact h.2.2.row (fun b _ _ => by rw [e 0 (by decide) (by decide) (by decide)]) (fun b h1 _ => e31 b (by omega)) (e 38 (by decide) (by decide) (by decide))
theorem pr_put {M : Mem} (h : Inv M) (i v : Int32) : PairI yX4_put cX4_put 4 2 [.ref 0, .int i, .int v] yX5_put cX5_put 4 2 [.ref 31, .int i, .int v] M := by
  refine ⟨_, ev_X4_put h.1 i v, fun r M1 q => ?_⟩
  obtain ⟨rfl, rfl⟩ := q
  by_cases hc : okR M i ∧ okN v
  · rw [if_pos hc, if_pos hc.1, if_pos hc.2]
    have hn : i.toInt.toNat < 8 := by
      obtain ⟨n, -, hn, rfl⟩ := okR_n h.1 hc.1
      rw [tnN (by omega)]
      exact hn
    have hw : WX (thM (mset M 1 i.toInt.toNat v)) := (WX.put h.1 hc.2).sax (thM_sak _).sax
    have hr : okR (thM (mset M 1 i.toInt.toNat v)) i := hc.1
    refine ⟨_, rfl, _, ev_X5_put hw ?_ i v, fun r' M2 q2 => ?_⟩
    · show M 31 1 = zI (xm M)
      exact mx_m h.1 h.2.1
    · obtain ⟨rfl, rfl⟩ := q2
      have hr2 : okR (thM (mset M 1 i.toInt.toNat v)) i ∧ okN v := ⟨hr, hc.2⟩
      rw [if_pos hr2, if_pos hr, if_pos hc.2]
      refine ⟨?_, keep_put h hc.2⟩
      rw [show thM (mset M 1 i.toInt.toNat v) 32 i.toInt.toNat = M 32 i.toInt.toNat from rfl, h.2.1.num _ hn]
  · rw [if_neg hc]
    have hi := h.sak (thM_sak M)
    have hr : okR (thM M) i ↔ okR M i := okR_say (thM_sak M).sax.say i
    refine ⟨_, rfl, _, ev_X5_put hi.1 (mx_m hi.1 hi.2.1) i v, fun r' M2 q2 => ?_⟩
    obtain ⟨rfl, rfl⟩ := q2
    have hc2 : ¬ (okR (thM M) i ∧ okN v) := hc
    rw [if_neg hc2]
    refine ⟨?_, hi⟩
    by_cases h1 : okR M i
    · rw [if_pos h1, if_pos (hr.mpr h1), if_neg (fun q => hc ⟨h1, q⟩), if_neg (fun q => hc ⟨h1, q⟩)]
    · rw [if_neg h1, if_neg (fun q => h1 (hr.mp q))]

theorem recX_o (M : Mem) (m : Int32) {a : Nat} (h0 : a ≠ 0) (h1 : a ≠ 1) (h2 : ¬ (4 ≤ a ∧ a ≤ 12)) : recX M m 9 a = M a := by
  funext b
  unfold recX
  rw [if_neg (fun q => h0 q.1), if_neg (fun q => h1 q.1), if_neg (fun q => h2 ⟨q.1, by omega⟩)]
theorem recX_06 (M : Mem) (m : Int32) : recX M m 9 0 6 = m := by
  unfold recX
  rw [if_pos ⟨rfl, rfl⟩]
theorem recX_0b (M : Mem) (m : Int32) {b : Nat} (h : b ≠ 6) : recX M m 9 0 b = M 0 b := by
  unfold recX
  rw [if_neg (fun q => h q.2), if_neg (by omega), if_neg (by omega)]
theorem recX_1 (M : Mem) (m : Int32) {i : Nat} (h : i < 8) : recX M m 9 1 i = zI 0 := by
  unfold recX
  rw [if_neg (by omega), if_pos ⟨rfl, h⟩]
theorem recX_S (M : Mem) (m : Int32) {j b : Nat} (h1 : 1 ≤ j) (h2 : j < 10) (h : b = 1 ∨ b = 2) : recX M m 9 (3 + j) b = zI 0 := by
  unfold recX
  rw [if_neg (by omega), if_neg (by omega), if_pos ⟨by omega, by omega, h⟩]
def recM (M : Mem) (m : Int32) : Mem := mset (mset (mfill (mfill (mset (thM (mset (recX M m 9) 22 2 (zI 0))) 31 1 m) 32 8 (fun _ => zI 0)) 33 10 (fun _ => zI 0)) 31 6 (zI 0)) 31 10 (zI 0)
theorem recM_o (M : Mem) (m : Int32) {a : Nat} (h1 : a ≠ 31) (h2 : a ≠ 32) (h3 : a ≠ 33) : recM M m a = mset (recX M m 9) 22 2 (zI 0) a := by
  unfold recM thM
  rw [mset_other _ _ _ h1, mset_other _ _ _ h1, mfill_ne _ _ h3, mfill_ne _ _ h2, mset_other _ _ _ h1, mset_other _ _ _ h1]
theorem recM_31 (M : Mem) (m : Int32) {b : Nat} (h0 : b ≠ 0) (h1 : b ≠ 1) (h2 : b ≠ 6) (h3 : b ≠ 10) : recM M m 31 b = M 31 b := by
  unfold recM thM
  rw [mset_ne _ _ (Or.inr h3), mset_ne _ _ (Or.inr h2), mfill_ne _ _ (by decide), mfill_ne _ _ (by decide), mset_ne _ _ (Or.inr h1), mset_ne _ _ (Or.inr h0), mset_other _ _ _ (by decide), recX_o _ _ (by decide) (by decide) (by decide)]
theorem WX.rec {M : Mem} (h : WX M) {m : Int32} (hm : 1 ≤ m.toInt ∧ m.toInt ≤ 3) : WX (mset (recX M m 9) 22 2 (zI 0)) := by
  have z0 : (zI 0).toInt = 0 := rfl
  have e : ∀ a, a ≠ 0 → a ≠ 1 → ¬ (4 ≤ a ∧ a ≤ 12) → a ≠ 22 → mset (recX M m 9) 22 2 (zI 0) a = M a := fun a h1 h2 h3 h4 => by
    rw [mset_other _ _ _ h4, recX_o _ _ h1 h2 h3]
  have e22 : ∀ b, b ≠ 2 → mset (recX M m 9) 22 2 (zI 0) 22 b = M 22 b := fun b hb => by
    rw [mset_ne _ _ (Or.inr hb), recX_o _ _ (by decide) (by decide) (by decide)]
  have e222 : mi (mset (recX M m 9) 22 2 (zI 0)) 22 2 = 0 := by unfold mi; rw [mset_same]; rfl
  have em : ∀ b, b ≠ 2 → mi (mset (recX M m 9) 22 2 (zI 0)) 22 b = mi M 22 b := fun b hb => by unfold mi; rw [e22 b hb]
  have e23 : ∀ b, mi (mset (recX M m 9) 22 2 (zI 0)) 23 b = mi M 23 b := fun b => by unfold mi; rw [e 23 (by decide) (by decide) (by decide) (by decide)]
  have e24 : ∀ b, mi (mset (recX M m 9) 22 2 (zI 0)) 24 b = mi M 24 b := fun b => by unfold mi; rw [e 24 (by decide) (by decide) (by decide) (by decide)]
  have e06 : mi (mset (recX M m 9) 22 2 (zI 0)) 0 6 = m.toInt := by
    unfold mi
    rw [mset_other _ _ _ (by decide), recX_06]
  have e07 : mi (mset (recX M m 9) 22 2 (zI 0)) 0 7 = mi M 0 7 := by
    unfold mi
    rw [mset_other _ _ _ (by decide), recX_0b _ _ (by decide)]
  refine ⟨by rw [e06]; exact hm, fun i hi => ?_, fun j h1 h2 => ?_, fun j h1 h2 i hi => ?_, Or.inl e222, ?_, ?_, ?_, ?_, ?_, ?_, ?_, ?_, ?_⟩
  · unfold mi
    rw [mset_other _ _ _ (by decide), recX_1 _ _ hi, z0]
    decide
  · unfold mi
    rw [mset_other _ _ _ (by omega), recX_S _ _ h1 h2 (Or.inl rfl), recX_S _ _ h1 h2 (Or.inr rfl), z0]
    decide
  · unfold mi
    rw [e (12 + j) (by omega) (by omega) (by omega) (by omega)]
    exact h.kp j h1 h2 i hi
  · rw [em 3 (by decide)]
    exact h.vl
  · rw [em 4 (by decide)]
    exact h.wa
  · rw [em 5 (by decide)]
    exact h.kf
  · rw [em 6 (by decide)]
    exact h.qb
  · rw [em 7 (by decide), em 6 (by decide), em 5 (by decide)]
    exact h.dg
  · intro q hq
    rw [e23]
    exact h.lt q hq
  · intro q hq
    rw [e24]
    exact h.vs q hq
  · intro q
    rw [e222] at q
    exact absurd q (by decide)
  · rw [e07]
    exact h.ca
theorem keep_rec {M : Mem} (h : Inv M) {m : Int32} (hm : 1 ≤ m.toInt ∧ m.toInt ≤ 3) : Inv (recM M m) := by
  have hmm : mset (recX M m 9) 22 2 (zI 0) 0 6 = m := by rw [mset_other _ _ _ (by decide), recX_06]
  have z0 : (zI 0).toInt = 0 := rfl
  have e222 : recM M m 22 2 = zI 0 := by rw [recM_o _ _ (by decide) (by decide) (by decide), mset_same]
  have eS : ∀ j, 1 ≤ j → j < 10 → ∀ b, (b = 1 ∨ b = 2) → recM M m (3 + j) b = zI 0 := fun j h1 h2 b hb => by
    rw [recM_o _ _ (by omega) (by omega) (by omega), mset_other _ _ _ (by omega), recX_S _ _ h1 h2 hb]
  refine ⟨(WX.rec h.1 hm).sax (fun a h1 h2 => recM_o _ _ (by omega) (by omega) (by omega)), ⟨?_, fun i hi => ?_, fun j h1 h2 => ?_, fun j h1 h2 => ⟨fun q => ?_, fun _ => eS j h1 h2 2 (Or.inr rfl)⟩, fun j h1 h2 q => ?_, ?_, fun q hq => ?_, fun q => ?_⟩, ?_⟩
  · rw [recM_o _ _ (show (0 : Nat) ≠ 31 by decide) (by decide) (by decide), hmm]
    unfold recM
    rw [mset_ne _ _ (Or.inr (by decide)), mset_ne _ _ (Or.inr (by decide)), mfill_ne _ _ (by decide), mfill_ne _ _ (by decide), mset_same]
  · rw [recM_o _ _ (show (1 : Nat) ≠ 31 by decide) (by decide) (by decide), mset_other _ _ _ (by decide), recX_1 _ _ hi]
    unfold recM
    rw [mset_other _ _ _ (by decide), mset_other _ _ _ (by decide), mfill_ne _ _ (by decide), mfill_in _ _ hi]
  · rw [eS j h1 h2 1 (Or.inl rfl)]
    unfold recM
    rw [mset_other _ _ _ (by decide), mset_other _ _ _ (by decide), mfill_in _ _ h2]
  · unfold mi at q
    rw [eS j h1 h2 1 (Or.inl rfl), z0] at q
    exact absurd q (by decide)
  · unfold mi at q
    rw [eS j h1 h2 1 (Or.inl rfl), z0] at q
    exact absurd q (by decide)
  · rw [e222]
    unfold recM
    rw [mset_ne _ _ (Or.inr (by decide)), mset_same]
  · unfold mi
    rw [recM_o _ _ (by decide) (by decide) (by decide), mset_other _ _ _ (by decide), recX_o _ _ (by decide) (by decide) (by decide)]
    exact h.2.1.lb q hq
  · unfold mi at q
    rw [e222, z0] at q
    exact absurd q (by decide)
  · refine h.2.2.row (fun b h1 h2 => ?_) (fun b h1 h2 => recM_31 _ _ (by omega) (by omega) (by omega) (by omega)) ?_
    · rw [recM_o _ _ (by decide) (by decide) (by decide), mset_other _ _ _ (by decide), recX_0b _ _ (by omega)]
    · rw [recM_o _ _ (by decide) (by decide) (by decide), mset_other _ _ _ (by decide), recX_o _ _ (by decide) (by decide) (by decide)]
theorem pr_records {M : Mem} (h : Inv M) (m : Int32) : PairI yX4_records cX4_records 4 2 [.ref 0, .int m] yX5_records cX5_records 4 2 [.ref 31, .int m] M := by
  obtain ⟨hm1, hm2, -, -⟩ := h.1.m
  refine ⟨_, ev_X4_records h.1 m, fun r M1 q => ?_⟩
  obtain ⟨rfl, rfl⟩ := q
  have h31 : M 31 1 = zI (xm M) := mx_m h.1 h.2.1
  by_cases hc : 1 ≤ m.toInt ∧ m.toInt ≤ 3
  · rw [if_pos hc, if_pos hc]
    refine ⟨_, rfl, _, ev_X5_records (m0 := xm M) hm1 hm2 ?_ m, fun r' M2 q2 => ?_⟩
    · rw [← h31]
      unfold thM
      rw [mset_ne _ _ (Or.inr (by decide)), mset_other _ _ _ (by decide), recX_o _ _ (by decide) (by decide) (by decide)]
    · obtain ⟨rfl, rfl⟩ := q2
      rw [if_pos hc, if_pos hc]
      exact ⟨rfl, keep_rec h hc⟩
  · rw [if_neg hc, if_neg hc]
    refine ⟨_, rfl, _, ev_X5_records (m0 := xm M) hm1 hm2 h31 m, fun r' M2 q2 => ?_⟩
    obtain ⟨rfl, rfl⟩ := q2
    rw [if_neg hc, if_neg hc]
    exact ⟨rfl, h.sak (thM_sak M)⟩
