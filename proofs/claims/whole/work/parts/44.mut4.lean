/-! the pairs of calls that change: veil, fetch; the pair that counts ways -/
theorem vebX_o (M : Mem) (s : Int) {a : Nat} (h1 : a ≠ 22) (h2 : a ≠ 24) : vebX M s a = M a := by
  unfold vebX
  split
  · rw [mset_other _ _ _ h1]
  · rw [mfill_ne _ _ h2, mset_other _ _ _ h1]
theorem vebX_22 (M : Mem) (s : Int) {b : Nat} (h : b ≠ 3) : vebX M s 22 b = M 22 b := by
  unfold vebX
  split
  · rw [mset_ne _ _ (Or.inr h)]
  · rw [mfill_ne _ _ (by decide), mset_ne _ _ (Or.inr h)]
theorem vebX_3 (M : Mem) (s : Int) : vebX M s 22 3 = if s = -9 then zI 0 else zI 1 := by
  unfold vebX
  split
  · rw [mset_same]
  · rw [mfill_ne _ _ (by decide), mset_same]
theorem vebX_24 (M : Mem) (s : Int) (q : Nat) : vebX M s 24 q = if ¬ s = -9 ∧ q < (mi M 22 7).toNat then zI (lotS s q) else M 24 q := by
  unfold vebX
  by_cases h : s = -9
  · rw [if_pos h, if_neg (fun z => z.1 h), mset_other _ _ _ (by decide)]
  · rw [if_neg h]
    by_cases hq : q < (mi M 22 7).toNat
    · rw [mfill_in _ _ hq, if_pos ⟨h, hq⟩]
    · rw [if_neg (fun z => hq z.2)]
      unfold mfill
      rw [if_neg (fun z => hq z.2), mset_other _ _ _ (by decide)]
theorem WX.vei {M : Mem} (h : WX M) (s : Int) : WX (vebX M s) := by
  have q := h
  unfold WX at q ⊢
  have e : ∀ a b, a ≠ 22 → a ≠ 24 → mi (vebX M s) a b = mi M a b := fun a b h1 h2 => by unfold mi; rw [vebX_o _ _ h1 h2]
  have e22 : ∀ b, b ≠ 3 → mi (vebX M s) 22 b = mi M 22 b := fun b hb => by unfold mi; rw [vebX_22 _ _ hb]
  rw [e 0 6 (by decide) (by decide), e 0 7 (by decide) (by decide), e22 2 (by decide), e22 4 (by decide), e22 5 (by decide), e22 6 (by decide), e22 7 (by decide)]
  refine ⟨q.1, fun i hi => ?_, fun j h1 h2 => ?_, fun j h1 h2 i hi => ?_, q.2.2.2.2.1, ?_, q.2.2.2.2.2.2.1, q.2.2.2.2.2.2.2.1, q.2.2.2.2.2.2.2.2.1, q.2.2.2.2.2.2.2.2.2.1, fun a ha => ?_, fun a ha => ?_, q.2.2.2.2.2.2.2.2.2.2.2.2⟩
  · rw [e 1 _ (by decide) (by decide)]
    exact h.num i hi
  · rw [e (3 + j) _ (by omega) (by omega), e (3 + j) _ (by omega) (by omega)]
    exact h.st j h1 h2
  · rw [e (12 + j) _ (by omega) (by omega)]
    exact h.kp j h1 h2 i hi
  · unfold mi
    rw [vebX_3]
    split
    · exact Or.inl rfl
    · exact Or.inr rfl
  · rw [e 23 _ (by decide) (by decide)]
    exact h.lt a ha
  · unfold mi
    rw [vebX_24]
    split
    · have := lotS_bd s a
      rw [zI_toInt (by omega) (by omega)]
      exact this
    · exact h.vs a ha
theorem keep_vei {M M2 : Mem} (h : Inv M) {s : Int} (hA : VeiM (thM (vebX M s)) M2 s (mi M 22 7).toNat) : Inv M2 := by
  obtain ⟨p1, p2, p3, p4⟩ := hA
  have e : ∀ a, a ≠ 31 → a ≠ 37 → M2 a = vebX M s a := fun a h1 h2 => by
    rw [p1 a h1 h2]
    unfold thM
    rw [mset_other _ _ _ h1]
  have eo : ∀ a, a ≠ 22 → a ≠ 24 → a ≠ 31 → a ≠ 37 → M2 a = M a := fun a h1 h2 h3 h4 => by rw [e a h3 h4, vebX_o _ _ h1 h2]
  have r31 : ∀ b, b ≠ 10 → b ≠ 0 → M2 31 b = M 31 b := fun b hb h0 => by
    rw [p2 b hb]
    unfold thM
    rw [mset_ne _ _ (Or.inr h0), vebX_o _ _ (by decide) (by decide)]
  have e22 : ∀ b, b ≠ 3 → M2 22 b = M 22 b := fun b hb => by rw [e 22 (by decide) (by decide), vebX_22 _ _ hb]
  have exm : xm M2 = xm M := by unfold xm mi; rw [eo 0 (by decide) (by decide) (by decide) (by decide)]
  have m5 : mi M2 22 5 = mi M 22 5 := by unfold mi; rw [e22 5 (by decide)]
  have m7 : mi M2 22 7 = mi M 22 7 := by unfold mi; rw [e22 7 (by decide)]
  have m2 : mi M2 22 2 = mi M 22 2 := by unfold mi; rw [e22 2 (by decide)]
  obtain ⟨s1, s2, s3⟩ := InvQ.stc h.2.1 (M' := M2) (eo 33 (by decide) (by decide) (by decide) (by decide)) (eo 34 (by decide) (by decide) (by decide) (by decide)) (eo 35 (by decide) (by decide) (by decide) (by decide)) (fun a h1 h2 => eo a (by omega) (by omega) (by omega) (by omega))
  refine ⟨(WX.vei h.1 s).sax (fun a h1 h2 => e a (by omega) (by omega)), ⟨?_, fun i hi => ?_, s1, s2, s3, ?_, ?_, fun q => ?_⟩, ?_⟩
  · rw [r31 1 (by decide) (by decide), eo 0 (by decide) (by decide) (by decide) (by decide)]
    exact h.2.1.dg
  · rw [eo 32 (by decide) (by decide) (by decide) (by decide), eo 1 (by decide) (by decide) (by decide) (by decide)]
    exact h.2.1.num i hi
  · rw [r31 6 (by decide) (by decide), e22 2 (by decide)]
    exact h.2.1.as
  · unfold mi
    rw [eo 36 (by decide) (by decide) (by decide) (by decide)]
    exact h.2.1.lb
  · rw [m2] at q
    obtain ⟨q1, q2, q3, -, -⟩ := h.2.1.qs q
    rw [m5, m7, exm]
    refine ⟨?_, ?_, fun k e9 hk he => ?_, ?_, fun h3 e9 he => ?_⟩
    · rw [r31 7 (by decide) (by decide), e22 4 (by decide)]
      exact q1
    · rw [r31 8 (by decide) (by decide), e22 5 (by decide)]
      exact q2
    · rw [eo 36 (by decide) (by decide) (by decide) (by decide), eo 23 (by decide) (by decide) (by decide) (by decide)]
      exact q3 k e9 hk he
    · rw [e 22 (by decide) (by decide), vebX_3]
      by_cases hs : s = -9
      · rw [if_pos hs, p3 hs]
      · rw [if_neg hs, (p4 hs).1]
    · unfold mi at h3
      rw [e 22 (by decide) (by decide), vebX_3] at h3
      by_cases hs : s = -9
      · rw [if_pos hs] at h3
        exact absurd h3 (by decide)
      · rw [(p4 hs).2 e9 he, e 24 (by decide) (by decide), vebX_24, if_pos ⟨hs, he⟩]
  · exact h.2.2.row (fun b _ _ => by rw [eo 0 (by decide) (by decide) (by decide) (by decide)]) (fun b h1 _ => r31 b (by omega) (by omega)) (eo 38 (by decide) (by decide) (by decide) (by decide))
theorem pr_veil {M : Mem} (h : Inv M) (s : Int32) : PairI yX4_veil cX4_veil 3 2 [.ref 0, .int s] yX5_veil cX5_veil 6 2 [.ref 31, .int s] M := by
  refine ⟨_, ev_X4_veil h.1 s, fun r M1 q => ?_⟩
  obtain ⟨rfl, rfl⟩ := q
  have hg := h.1.dgb
  have hd : ∀ M1 : Mem, (∀ b, b ≠ 0 → M1 31 b = M 31 b) → ¬ M1 31 6 = 0 → M1 31 1 = zI (xm M) ∧ M1 31 8 = zI (mi M 22 5) ∧ (xm M : Nat) * mi M 22 5 = ((mi M 22 7).toNat : Nat) := by
    intro M1 e hz
    rw [e 6 (by decide), h.2.1.as] at hz
    have ha : mi M 22 2 = 1 := Classical.byContradiction fun q => hz ((asked_iff h.1).mpr q)
    obtain ⟨-, h8, -, -, -⟩ := h.2.1.qs ha
    refine ⟨by rw [e 1 (by decide)]; exact mx_m h.1 h.2.1, by rw [e 8 (by decide), h8, mi_z], ?_⟩
    rw [← h.1.m.2.2.1, ← (h.1.aq ha).1, ← h.1.dg]
    omega
  by_cases hc : okV s ∧ ¬ M 22 2 = 0
  · rw [if_pos hc, if_pos hc.1, if_neg hc.2]
    have e31 : ∀ b, b ≠ 0 → thM (vebX M s.toInt) 31 b = M 31 b := fun b hb => by
      unfold thM
      rw [mset_ne _ _ (Or.inr hb), vebX_o _ _ (by decide) (by decide)]
    have h6 : ¬ thM (vebX M s.toInt) 31 6 = 0 := by
      rw [e31 6 (by decide), h.2.1.as]
      exact hc.2
    refine ⟨_, rfl, _, ev_X5_veil (g := (mi M 22 7).toNat) (by omega) (hd _ e31) s, fun r' M2 q2 => ?_⟩
    obtain ⟨rfl, -, q3⟩ := q2
    refine ⟨?_, keep_vei h (q3 ⟨hc.1, h6⟩)⟩
    have ha : mi M 22 2 = 1 := Classical.byContradiction fun q => hc.2 ((asked_iff h.1).mpr q)
    rw [if_pos hc.1, if_neg h6, e31 10 (by decide), (h.2.1.qs ha).2.2.2.1]
  · rw [if_neg hc]
    have e31 : ∀ b, b ≠ 0 → thM M 31 b = M 31 b := fun b hb => by
      unfold thM
      rw [mset_ne _ _ (Or.inr hb)]
    refine ⟨_, rfl, _, ev_X5_veil (g := (mi M 22 7).toNat) (by omega) (hd _ e31) s, fun r' M2 q2 => ?_⟩
    obtain ⟨rfl, q3, -⟩ := q2
    have e6 : thM M 31 6 = M 22 2 := by rw [e31 6 (by decide), h.2.1.as]
    obtain rfl := q3 (fun z => hc ⟨z.1, by rw [← e6]; exact z.2⟩)
    refine ⟨?_, h.sak (thM_sak M)⟩
    by_cases h1 : okV s
    · have h2 : M 22 2 = 0 := Classical.byContradiction fun z => hc ⟨h1, z⟩
      rw [if_pos h1, if_pos h1, e6, if_pos h2, if_pos h2]
    · rw [if_neg h1, if_neg h1]
def PairL (y1 : MethodName) (b1 : ByteArray) (n1 h1 : Nat) (a1 : List Value) (y2 : MethodName) (b2 : ByteArray) (n2 h2 : Nat) (a2 : List Value) (M : Mem) : Prop :=
  ∃ Q1, Ev y1 b1 n1 (some .long) h1 a1 M Q1 ∧ ∀ r M1, Q1 r M1 → ∃ w : Int64, r = some (.long w) ∧ ∃ Q2, Ev y2 b2 n2 (some .long) h2 a2 M1 Q2 ∧ ∀ r' M2, Q2 r' M2 → r' = some (.long w) ∧ Inv M2
theorem pr_ways {M : Mem} (h : Inv M) (s i : Int32) : PairL yX4_ways cX4_ways 4 2 [.ref 0, .int s, .int i] yX5_ways cX5_ways 3 4 [.ref 31, .int s, .int i] M := by
  refine ⟨_, ev_X4_ways h.1 s i, fun r M1 q => ?_⟩
  obtain ⟨rfl, rfl⟩ := q
  have hi := h.sak (thM_sak M)
  have hs := (thM_sak M).sax.say
  refine ⟨_, rfl, _, ev_X5_ways hi.1 hi.2.1 s i, fun r' M2 q2 => ?_⟩
  obtain ⟨rfl, rfl⟩ := q2
  refine ⟨?_, hi⟩
  simp only [rosX_say hs, okR_say hs, cwX_say hs]
theorem ftmX_o (M : Mem) (n : Nat) {a : Nat} (h : a ≠ 0) : ftmX M n a = M a := by
  unfold ftmX
  cases fndX M n with
  | none =>
    show mset (mset M 0 8 _) 0 9 _ a = M a
    rw [mset_other _ _ _ h, mset_other _ _ _ h]
  | some p =>
    show mset (mset (mset M 0 8 _) 0 9 _) 0 7 _ a = M a
    rw [mset_other _ _ _ h, mset_other _ _ _ h, mset_other _ _ _ h]
theorem ftmX_0 (M : Mem) (n : Nat) {b : Nat} (h7 : b ≠ 7) (h8 : b ≠ 8) (h9 : b ≠ 9) : ftmX M n 0 b = M 0 b := by
  unfold ftmX
  cases fndX M n with
  | none =>
    show mset (mset M 0 8 _) 0 9 _ 0 b = M 0 b
    rw [mset_ne _ _ (Or.inr h9), mset_ne _ _ (Or.inr h8)]
  | some p =>
    show mset (mset (mset M 0 8 _) 0 9 _) 0 7 _ 0 b = M 0 b
    rw [mset_ne _ _ (Or.inr h7), mset_ne _ _ (Or.inr h9), mset_ne _ _ (Or.inr h8)]
theorem ftmX_8 (M : Mem) (n : Nat) : ftmX M n 0 8 = M 0 8 + zI n * M 0 6 ∧ ftmX M n 0 9 = M 0 9 + zI (rowX M n).length := by
  unfold ftmX
  cases fndX M n with
  | none =>
    show mset (mset M 0 8 _) 0 9 _ 0 8 = _ ∧ mset (mset M 0 8 _) 0 9 _ 0 9 = _
    rw [mset_ne _ _ (Or.inr (by decide)), mset_same, mset_same]
    exact ⟨rfl, rfl⟩
  | some p =>
    show mset (mset (mset M 0 8 _) 0 9 _) 0 7 _ 0 8 = _ ∧ mset (mset (mset M 0 8 _) 0 9 _) 0 7 _ 0 9 = _
    rw [mset_ne _ _ (Or.inr (by decide)), mset_ne _ _ (Or.inr (by decide)), mset_same, mset_ne _ _ (Or.inr (by decide)), mset_same]
    exact ⟨rfl, rfl⟩
theorem offS_ten (on : Nat × Int → Bool) (M : Mem) {n : Nat} (h : n < 10) : offS on (rowX M n) (rowX M n).length < 1024 :=
  offS_top on (rowX M n) (B := 10) _ (fun i hi => by
    have := (rowX_ok M h) ((rowX M n).getD i (0, 0)) (by rw [List.getD_eq_getElem?_getD, List.getElem?_eq_getElem hi]; exact List.getElem_mem hi)
    omega)
theorem ftmX_7 (M : Mem) {n : Nat} (h : n < 10) : mi (ftmX M n) 0 7 = match fndX M n with
    | none => mi M 0 7
    | some p => (offS (onX (curX M n p)) (rowX M n) (rowX M n).length : Nat) := by
  unfold ftmX mi
  cases fndX M n with
  | none =>
    show (mset (mset M 0 8 _) 0 9 _ 0 7).toInt = (M 0 7).toInt
    rw [mset_ne _ _ (Or.inr (by decide)), mset_ne _ _ (Or.inr (by decide))]
  | some p =>
    have hb := offS_ten (onX (curX M n p)) M h
    show (mset (mset (mset M 0 8 _) 0 9 _) 0 7 (zI (offS (onX (curX M n p)) (rowX M n) (rowX M n).length : Nat)) 0 7).toInt = (offS (onX (curX M n p)) (rowX M n) (rowX M n).length : Nat)
    rw [mset_same, zI_toInt (by omega) (by omega)]
/-- InvQ says nothing of what was caught or counted -/
theorem InvQ.sakn {M M' : Mem} (h : InvQ M) (hs : ∀ a b, ¬ (38 ≤ a ∧ a ≤ 41 ∨ a = 31 ∧ (b = 0 ∨ b = 13 ∨ b = 14 ∨ b = 16)) → M' a b = M a b) : InvQ M' := by
  have e : ∀ a, a ≠ 31 → a < 38 → M' a = M a := fun a h1 h2 => funext fun b => hs a b (by omega)
  obtain ⟨s1, s2, s3⟩ := InvQ.stc h (M' := M') (e 33 (by decide) (by decide)) (e 34 (by decide) (by decide)) (e 35 (by decide) (by decide)) (fun a h1 h2 => e a (by omega) (by omega))
  refine ⟨?_, fun i hi => ?_, s1, s2, s3, ?_, ?_, ?_⟩
  · rw [hs 31 1 (by omega), e 0 (by decide) (by decide)]
    exact h.dg
  · rw [e 32 (by decide) (by decide), e 1 (by decide) (by decide)]
    exact h.num i hi
  · rw [hs 31 6 (by omega), e 22 (by decide) (by decide)]
    exact h.as
  · unfold mi
    rw [e 36 (by decide) (by decide)]
    exact h.lb
  · exact h.qsc (by rw [e 0 (by decide) (by decide)]) (e 22 (by decide) (by decide)) (e 23 (by decide) (by decide)) (e 24 (by decide) (by decide)) (e 36 (by decide) (by decide)) (e 37 (by decide) (by decide)) (hs 31 7 (by omega)) (hs 31 8 (by omega)) (hs 31 10 (by omega))
theorem pr_fetch {M : Mem} (h : Inv M) (s : Int32) : PairI yX4_fetch cX4_fetch 3 4 [.ref 0, .int s] yX5_fetch cX5_fetch 5 4 [.ref 31, .int s] M := by
  refine ⟨_, ev_X4_fetch h.1 s, fun r M1 q => ?_⟩
  obtain ⟨rfl, hS⟩ := q
  by_cases hr : rofX M s = 0
  · rw [if_pos hr] at hS
    rw [if_pos hr]
    have ho := (rofX_0 hr).1
    obtain ⟨n, hn⟩ : ∃ n, s.toInt.toNat = n := ⟨_, rfl⟩
    have h10 : n < 10 := by rw [← hn]; exact okS_lt ho
    rw [hn] at hS ⊢
    have hk : Sak (ftmX M n) (thM M1) := hS.sak.t (thM_sak M1)
    have e0 : ∀ b, thM M1 0 b = ftmX M n 0 b := fun b => hk 0 b (by omega)
    have eo : ∀ a b, a ≠ 0 → (a < 25 ∧ a ≠ 2 ∨ 31 ≤ a ∧ a < 39 ∧ ¬ (a = 31 ∧ (b = 0 ∨ b = 16))) → thM M1 a b = M a b := fun a b h1 h2 => by rw [hk a b h2, ftmX_o _ _ h1]
    have er : ∀ a, 1 ≤ a → a < 25 → a ≠ 2 → thM M1 a = M a := fun a h1 h2 h3 => funext fun b => eo a b (by omega) (by omega)
    have hs : Say M (thM M1) := ⟨by rw [e0 6, ftmX_0 _ _ (by decide) (by decide) (by decide)], er⟩
    have e7 : mi (thM M1) 0 7 = mi (ftmX M n) 0 7 := by unfold mi; rw [e0 7]
    have hw : WX (thM M1) := by
      refine h.1.row hs.1 ?_ er
      rw [e7, ftmX_7 M h10]
      cases hf : fndX M n with
      | none => exact h.1.ca
      | some p =>
        have := offS_ten (onX (curX M n p)) M h10
        show 0 ≤ ((offS (onX (curX M n p)) (rowX M n) (rowX M n).length : Nat) : Int) ∧ ((offS (onX (curX M n p)) (rowX M n) (rowX M n).length : Nat) : Int) < 1024
        omega
    have r33 : ∀ a, 32 ≤ a → a < 39 → thM M1 a = M a := fun a h1 h2 => funext fun b => eo a b (by omega) (by omega)
    obtain ⟨s1, s2, s3⟩ := InvQ.stc h.2.1 (M' := thM M1) (r33 33 (by decide) (by decide)) (r33 34 (by decide) (by decide)) (r33 35 (by decide) (by decide)) (fun a h1 h2 => er a (by omega) (by omega) (by omega))
    have hI : InvQ (thM M1) := by
      refine ⟨?_, fun i hi => ?_, s1, s2, s3, ?_, ?_, ?_⟩
      · rw [eo 31 1 (by decide) (by omega), hs.1]
        exact h.2.1.dg
      · rw [r33 32 (by decide) (by decide), er 1 (by decide) (by decide) (by decide)]
        exact h.2.1.num i hi
      · rw [eo 31 6 (by decide) (by omega), er 22 (by decide) (by decide) (by decide)]
        exact h.2.1.as
      · unfold mi
        rw [r33 36 (by decide) (by decide)]
        exact h.2.1.lb
      · exact h.2.1.qsc hs.1 (er 22 (by decide) (by decide) (by decide)) (er 23 (by decide) (by decide) (by decide)) (er 24 (by decide) (by decide) (by decide)) (r33 36 (by decide) (by decide)) (r33 37 (by decide) (by decide)) (eo 31 7 (by decide) (by omega)) (eo 31 8 (by decide) (by omega)) (eo 31 10 (by decide) (by omega))
    refine ⟨_, rfl, _, ev_X5_fetch hw hI s, fun r' M2 q2 => ?_⟩
    obtain ⟨rfl, -, q3⟩ := q2
    have hr2 : rofX (thM M1) s = 0 := by rw [rofX_say hs]; exact hr
    have q3 := q3 hr2
    rw [hn] at q3
    rw [if_pos hr2, hn, ftvX_say hs h10]
    refine ⟨rfl, ?_⟩
    obtain ⟨f1, f2, f3, f4⟩ := q3
    refine ⟨hw.sax (fun a h1 h2 => funext fun b => f1 a b (by omega)), hI.sakn f1, ?_, ?_, ?_, fun j hj => ?_⟩
    · rw [f2, f1 0 8 (by omega), e0 8, (ftmX_8 M n).1, eo 31 13 (by decide) (by omega), eo 31 1 (by decide) (by omega), h.2.2.1, h.2.1.dg, Int32.mul_comm]
    · rw [f3, f1 0 9 (by omega), e0 9, (ftmX_8 M n).2, eo 31 14 (by decide) (by omega), h.2.2.2.1, rowX_say hs h10]
    · rw [f1 31 15 (by omega), f1 0 10 (by omega), e0 10, ftmX_0 _ _ (by decide) (by decide) (by decide), eo 31 15 (by decide) (by omega)]
      exact h.2.2.2.2.1
    · rw [f4 j hj]
      have m7 : mi M2 0 7 = mi (ftmX M n) 0 7 := by unfold mi; rw [f1 0 7 (by omega), e0 7]
      rw [m7, ftmX_7 M h10, fndX_say hs h10]
      cases hf : fndX M n with
      | none =>
        show thM M1 38 j = zI (mi M 0 7 / 2 ^ j % 2)
        rw [r33 38 (by decide) (by decide)]
        exact h.2.2.2.2.2 j hj
      | some p =>
        show zI ((offS (onX (curX (thM M1) n p)) (rowX (thM M1) n) (rowX (thM M1) n).length / 2 ^ j % 2 : Nat)) = zI (((offS (onX (curX M n p)) (rowX M n) (rowX M n).length : Nat) : Int) / 2 ^ j % 2)
        rw [curX_say hs h10, rowX_say hs h10]
        congr 1
  · rw [if_neg hr] at hS
    rw [if_neg hr]
    have hk := hS.sak.t (thM_sak M1)
    have hi := h.sak hk
    have hs := hk.sax.say
    refine ⟨_, rfl, _, ev_X5_fetch hi.1 hi.2.1 s, fun r' M2 q2 => ?_⟩
    obtain ⟨rfl, q3, -⟩ := q2
    have hr2 : ¬ rofX (thM M1) s = 0 := by rw [rofX_say hs]; exact hr
    rw [if_neg hr2, rofX_say hs]
    exact ⟨rfl, hi.sak (q3 hr2).sak⟩
