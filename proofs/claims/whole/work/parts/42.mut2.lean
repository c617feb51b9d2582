/-! the pairs of calls that change: store, ask -/
theorem becX_o (M : Mem) (kd d : Int32) {n a : Nat} (h1 : a ≠ 3 + n) (h2 : a ≠ 12 + n) : becX M n kd d a = M a := by
  unfold becX
  split
  · rw [mfill_ne _ _ h2, mset_other _ _ _ h1, mset_other _ _ _ h1]
  · rw [mset_other _ _ _ h1, mset_other _ _ _ h1]
theorem becX_1 (M : Mem) (kd d : Int32) (n : Nat) : becX M n kd d (3 + n) 1 = kd := by
  unfold becX
  split
  · rw [mfill_ne _ _ (by omega), mset_ne _ _ (Or.inr (by decide)), mset_same]
  · rw [mset_ne _ _ (Or.inr (by decide)), mset_same]
theorem becX_2 (M : Mem) (kd d : Int32) (n : Nat) : becX M n kd d (3 + n) 2 = if kd = zI 1 then d else zI 0 := by
  unfold becX
  split
  · rename_i h
    rw [mfill_ne _ _ (by omega), mset_same, h]
    rfl
  · rw [mset_same]
theorem becX_k (M : Mem) (kd d : Int32) (n : Nat) {i : Nat} (hi : i < 8) : becX M n kd d (12 + n) i = if kd = zI 2 then M 1 i else M (12 + n) i := by
  unfold becX
  split
  · rw [mfill_in _ _ hi]
  · rw [mset_other _ _ _ (by omega), mset_other _ _ _ (by omega)]
theorem stM_o (M : Mem) (kd d : Int32) {n a : Nat} (h1 : a ≠ 33) (h2 : a ≠ 34) (h3 : a ≠ 35) : stM M n kd d 8 a = M a := by
  funext b
  unfold stM
  rw [if_neg (fun q => h1 q.1), if_neg (fun q => h2 q.1), if_neg (fun q => h3 q.1)]
theorem stM_33 (M : Mem) (kd d : Int32) (n b : Nat) : stM M n kd d 8 33 b = if b = n then kd else M 33 b := by
  unfold stM
  by_cases h : b = n
  · rw [if_pos ⟨rfl, h⟩, if_pos h]
  · rw [if_neg (fun q => h q.2), if_neg (fun q => absurd q.1 (by decide)), if_neg (fun q => absurd q.1 (by decide)), if_neg h]
theorem stM_34 (M : Mem) (kd d : Int32) (n b : Nat) : stM M n kd d 8 34 b = if b = n then d else M 34 b := by
  unfold stM
  rw [if_neg (fun q => absurd q.1 (by decide))]
  by_cases h : b = n
  · rw [if_pos ⟨rfl, h⟩, if_pos h]
  · rw [if_neg (fun q => h q.2), if_neg (fun q => absurd q.1 (by decide)), if_neg h]
theorem stM_35 (M : Mem) (kd d : Int32) (n j i : Nat) (hi : i < 8) : stM M n kd d 8 35 (8 * j + i) = if j = n then M 32 i else M 35 (8 * j + i) := by
  unfold stM
  rw [if_neg (fun q => absurd q.1 (by decide)), if_neg (fun q => absurd q.1 (by decide))]
  by_cases h : j = n
  · subst h
    rw [if_pos ⟨rfl, by omega, by omega⟩, if_pos rfl, Nat.add_sub_cancel_left]
  · rw [if_neg (by omega), if_neg h]
theorem WX.sto {M : Mem} (h : WX M) {n : Nat} {kd d : Int32} (hn1 : 1 ≤ n) (hn2 : n < 10) (hk : okK kd d) : WX (becX M n kd d) := by
  have e : ∀ a, ¬ (4 ≤ a ∧ a ≤ 21) → becX M n kd d a = M a := fun a ha => becX_o _ _ _ (by omega) (by omega)
  have q := h
  unfold WX at q ⊢
  unfold mi at q ⊢
  rw [e 0 (by decide), e 1 (by decide), e 22 (by decide), e 23 (by decide), e 24 (by decide)]
  refine ⟨q.1, q.2.1, fun j h1 h2 => ?_, fun j h1 h2 i hi => ?_, q.2.2.2.2⟩
  · by_cases hj : j = n
    · subst hj
      rw [becX_1, becX_2]
      refine ⟨hk.1.1, hk.1.2, ?_⟩
      split
      · rename_i h1
        have := hk.2 h1
        omega
      · decide
    · rw [becX_o _ _ _ (by omega) (by omega)]
      exact h.st j h1 h2
  · by_cases hj : j = n
    · subst hj
      rw [becX_k _ _ _ _ hi]
      split
      · exact h.num i hi
      · exact h.kp j h1 h2 i hi
    · rw [becX_o _ _ _ (by omega) (by omega)]
      exact h.kp j h1 h2 i hi
theorem keep_sto {M : Mem} (h : Inv M) {n : Nat} {kd d : Int32} (hn1 : 1 ≤ n) (hn2 : n < 10) (hk : okK kd d) : Inv (stM (thM (becX M n kd d)) n kd d 8) := by
  have e : ∀ a, a < 33 ∨ 36 ≤ a → a ≠ 31 → stM (thM (becX M n kd d)) n kd d 8 a = becX M n kd d a := fun a h1 h2 => by
    rw [stM_o _ _ _ (by omega) (by omega) (by omega)]
    unfold thM
    rw [mset_other _ _ _ h2]
  have e2 : ∀ a, ¬ (4 ≤ a ∧ a ≤ 21) → a < 33 ∨ 36 ≤ a → a ≠ 31 → stM (thM (becX M n kd d)) n kd d 8 a = M a := fun a h0 h1 h2 => by
    rw [e a h1 h2, becX_o _ _ _ (by omega) (by omega)]
  have eT : ∀ a, ¬ (4 ≤ a ∧ a ≤ 21) → a ≠ 31 → thM (becX M n kd d) a = M a := fun a h0 h1 => by
    unfold thM
    rw [mset_other _ _ _ h1, becX_o _ _ _ (by omega) (by omega)]
  have e31 : ∀ b, b ≠ 0 → stM (thM (becX M n kd d)) n kd d 8 31 b = M 31 b := fun b hb => by
    rw [stM_o _ _ _ (by decide) (by decide) (by decide)]
    unfold thM
    rw [mset_ne _ _ (Or.inr hb), becX_o _ _ _ (by omega) (by omega)]
  refine ⟨(WX.sto h.1 hn1 hn2 hk).sax (fun a h1 h2 => e a (by omega) (by omega)), ⟨?_, fun i hi => ?_, fun j h1 h2 => ?_, fun j h1 h2 => ?_, fun j h1 h2 => ?_, ?_, fun q hq => ?_, ?_⟩, ?_⟩
  · rw [e31 1 (by decide), e2 0 (by decide) (by decide) (by decide)]
    exact h.2.1.dg
  · rw [e2 32 (by decide) (by decide) (by decide), e2 1 (by decide) (by decide) (by decide)]
    exact h.2.1.num i hi
  · rw [stM_33, e (3 + j) (by omega) (by omega)]
    by_cases hj : j = n
    · subst hj
      rw [if_pos rfl, becX_1]
    · rw [if_neg hj, eT 33 (by decide) (by decide), becX_o _ _ _ (by omega) (by omega)]
      exact h.2.1.kd j h1 h2
  · unfold mi
    rw [stM_34, e (3 + j) (by omega) (by omega)]
    by_cases hj : j = n
    · subst hj
      rw [if_pos rfl, becX_1, becX_2]
      have hz : kd = zI 1 ↔ kd.toInt = 1 := by
        rw [i_eq]
        exact Iff.rfl
      refine ⟨fun q => ?_, fun q => ?_⟩
      · rw [if_pos (hz.mpr q)]
      · rw [if_neg (fun z => q (hz.mp z))]
    · rw [if_neg hj, eT 34 (by decide) (by decide), becX_o _ _ _ (by omega) (by omega)]
      exact h.2.1.ly j h1 h2
  · unfold mi
    rw [e (3 + j) (by omega) (by omega), e (12 + j) (by omega) (by omega)]
    intro q i hi
    rw [stM_35 _ _ _ _ _ _ hi]
    by_cases hj : j = n
    · subst hj
      rw [becX_1] at q
      have hz : kd = zI 2 := by
        rw [i_eq]
        exact q
      rw [if_pos rfl, eT 32 (by decide) (by decide), becX_k _ _ _ _ hi, if_pos hz]
      exact h.2.1.num i hi
    · rw [becX_o _ _ _ (by omega) (by omega)] at q
      rw [if_neg hj, eT 35 (by decide) (by decide), becX_o _ _ _ (by omega) (by omega)]
      exact h.2.1.kp j h1 h2 q i hi
  · rw [e31 6 (by decide), e2 22 (by decide) (by decide) (by decide)]
    exact h.2.1.as
  · unfold mi
    rw [e2 36 (by decide) (by decide) (by decide)]
    exact h.2.1.lb q hq
  · exact h.2.1.qsc (by rw [e2 0 (by decide) (by decide) (by decide)]) (e2 22 (by decide) (by decide) (by decide)) (e2 23 (by decide) (by decide) (by decide)) (e2 24 (by decide) (by decide) (by decide)) (e2 36 (by decide) (by decide) (by decide)) (e2 37 (by decide) (by decide) (by decide)) (e31 7 (by decide)) (e31 8 (by decide)) (e31 10 (by decide))
  · exact h.2.2.row (fun b _ _ => by rw [e2 0 (by decide) (by decide) (by decide)]) (fun b h1 _ => e31 b (by omega)) (e2 38 (by decide) (by decide) (by decide))
theorem pr_store {M : Mem} (h : Inv M) (j kd d : Int32) : PairI yX4_store cX4_store 6 2 [.ref 0, .int j, .int kd, .int d] yX5_store cX5_store 6 2 [.ref 31, .int j, .int kd, .int d] M := by
  refine ⟨_, ev_X4_store j kd d, fun r M1 q => ?_⟩
  obtain ⟨rfl, rfl⟩ := q
  refine ⟨_, rfl, _, ev_X5_store j kd d, fun r' M2 q2 => ?_⟩
  obtain ⟨rfl, rfl⟩ := q2
  by_cases hc : okS j ∧ okK kd d
  · rw [if_pos hc, if_pos hc, if_pos hc.1, if_pos hc.1, if_pos hc.2, if_pos hc.2]
    obtain ⟨n, hn1, hn2, rfl⟩ := okS_n hc.1
    rw [tnN (by omega)]
    refine ⟨?_, keep_sto h (by omega) (by omega) hc.2⟩
    unfold thM
    rw [mset_other _ _ _ (by decide), becX_o _ _ _ (by omega) (by omega), h.2.1.kd n (by omega) (by omega)]
  · rw [if_neg hc, if_neg hc]
    refine ⟨?_, h.sak (thM_sak M)⟩
    by_cases h1 : okS j
    · rw [if_pos h1, if_pos h1, if_neg (fun q => hc ⟨h1, q⟩), if_neg (fun q => hc ⟨h1, q⟩)]
    · rw [if_neg h1, if_neg h1]
