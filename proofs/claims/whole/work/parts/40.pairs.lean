/-! the pairs of calls that ask -/
theorem pr_record {M : Mem} (h : Inv M) (i : Int32) : PairI yX4_record cX4_record 2 2 [.ref 0, .int i] yX5_record cX5_record 2 2 [.ref 31, .int i] M := by
  refine PairI.q h _ (ev_X4_record h.1 i) (eF1 (Sam.r M)) _ (fun M1 hI => (ev_X5_record hI.1 hI.2.1 i)) (fun M1 r M2 hs q => eF2 ?_ q)
  simp only [okR_say hs.say, hs 1 (by decide) (by decide)]
theorem pr_taken {M : Mem} (h : Inv M) (j kd w : Int32) : PairI yX4_taken cX4_taken 5 2 [.ref 0, .int j, .int kd, .int w] yX5_taken cX5_taken 4 2 [.ref 31, .int j, .int kd, .int w] M := by
  refine PairI.q h _ (ev_X4_taken j kd w) (eF1 (Sam.r M)) _ (fun M1 hI => (ev_X5_taken hI.2.1 j kd w)) (fun M1 r M2 hs q => eF2 ?_ q)
  by_cases hj : okS j
  · simp only [if_pos hj, takX_say hs.say (okS_lt hj)]
  · rw [if_neg hj, if_neg hj]
theorem pr_copy {M : Mem} (h : Inv M) (j i : Int32) : PairI yX4_copy cX4_copy 3 2 [.ref 0, .int j, .int i] yX5_copy cX5_copy 3 2 [.ref 31, .int j, .int i] M := by
  refine PairI.q h _ (ev_X4_copy h.1 j i) (eF1 (Sam.r M)) _ (fun M1 hI => (ev_X5_copy hI.1 hI.2.1 j i)) (fun M1 r M2 hs q => eF2 ?_ q)
  by_cases hj : okS j
  · simp only [okR_say hs.say, copX_say hs.say (okS_lt hj)]
  · rw [if_neg (fun q => hj q.1), if_neg (fun q => hj q.1)]
theorem pr_sum {M : Mem} (h : Inv M) (x0 x1 x2 : Int32) : PairI yX4_sum cX4_sum 5 2 [.ref 0, .int x0, .int x1, .int x2] yX5_sum cX5_sum 4 2 [.ref 31, .int x0, .int x1, .int x2] M := by
  refine PairI.q h _ (ev_X4_sum h.1 x0 x1 x2) (eF1 (plM_sam M x0 x1 x2)) _ (fun M1 hI => (ev_X5_sum hI.1 hI.2.1 x0 x1 x2)) (fun M1 r M2 hs q => eF2 ?_ q)
  have e1 : mi (thM M1) 1 = mi M 1 := funext fun q => hs.m (by decide) (by decide) q
  simp only [xm_say hs.say, e1]
theorem pr_point {M : Mem} (h : Inv M) (j k : Int32) : PairI yX4_point cX4_point 3 2 [.ref 0, .int j, .int k] yX5_point cX5_point 3 2 [.ref 31, .int j, .int k] M := by
  refine PairI.q h _ (ev_X4_point h.1 j k) (eF1 (Sam.r M)) _ (fun M1 hI => (ev_X5_point hI.1 hI.2.1 j k)) (fun M1 r M2 hs q => eF2 ?_ q)
  simp only [hs 22 (by decide) (by decide), ptX_say hs.say, xmi_say hs.say]
theorem pr_answer {M : Mem} (h : Inv M) (j : Int32) : PairI yX4_answer cX4_answer 2 3 [.ref 0, .int j] yX5_answer cX5_answer 2 3 [.ref 31, .int j] M := by
  refine PairI.q h _ (ev_X4_answer h.1 j) (fun _ _ q => q) _ (fun M1 hI => (ev_X5_answer hI.1 hI.2.1 j)) (fun M1 r M2 hs q => eF2 ?_ q)
  by_cases hj : okS j
  · have h10 := okS_lt hj
    simp only [hs 22 (by decide) (by decide), ansX_say hs.say h10, hs.say.m (a := 3 + j.toInt.toNat) (by omega) (by omega) (by omega)]
  · rw [if_neg hj, if_neg hj]
theorem pr_needed {M : Mem} (h : Inv M) (m t l : Int32) : PairI yX4_needed cX4_needed 4 1 [.ref 0, .int m, .int t, .int l] yX5_needed cX5_needed 4 1 [.ref 31, .int m, .int t, .int l] M := by
  refine PairI.q h _ (ev_X4_needed M m t l) (eF1 (Sam.r M)) _ (fun M1 hI => (ev_X5_needed M1 m t l)) (fun M1 r M2 hs q => eF2 ?_ q)
  rfl
theorem pr_caught {M : Mem} (h : Inv M) (j : Int32) : PairI yX4_caught cX4_caught 2 1 [.ref 0, .int j] yX5_caught cX5_caught 2 2 [.ref 31, .int j] M := by
  refine PairI.q h _ (ev_X4_caught h.1 j) (eF1 (Sam.r M)) _ (fun M1 hI => (ev_X5_caught hI.2.2.2.2.2 j)) (fun M1 r M2 hs q => eF2 ?_ q)
  rw [hs.m (by decide) (by decide)]
theorem pr_mends {M : Mem} (h : Inv M) (s : Int32) : PairI yX4_mends cX4_mends 3 3 [.ref 0, .int s] yX5_mends cX5_mends 2 4 [.ref 31, .int s] M := by
  refine PairI.q h _ (ev_X4_mends h.1 s) (eF1 (Sam.r M)) _ (fun M1 hI => (ev_X5_mends hI.1 hI.2.1 s)) (fun M1 r M2 hs q => eF3 ?_ q)
  by_cases ho : okS s
  · rw [rofX_say hs.say, cntT_say hs.say (okS_lt ho), hs.say.m (by decide) (by decide) (by decide)]
  · have e : ∀ M, ¬ rofX M s = 0 := fun M q => ho (rofX_0 q).1
    rw [if_neg (e _), if_neg (e _), rofX_say hs.say]
theorem pr_might {M : Mem} (h : Inv M) (s : Int32) : PairI yX4_might cX4_might 5 2 [.ref 0, .int s] yX5_might cX5_might 4 4 [.ref 31, .int s] M := by
  refine PairI.q h _ (ev_X4_might h.1 s) (eF1 (Sam.r M)) _ (fun M1 hI => (ev_X5_might hI.1 hI.2.1 s)) (fun M1 r M2 hs q => eF2 ?_ q)
  simp only [rosX_say hs.say, cwX_say hs.say, xm_say hs.say]
theorem pr_learns {M : Mem} (h : Inv M) (s : Int32) : PairI yX4_learns cX4_learns 3 3 [.ref 0, .int s] yX5_learns cX5_learns 2 5 [.ref 31, .int s] M := by
  refine PairI.q h _ (ev_X4_learns h.1 s) (eF1 (Sam.r M)) _ (fun M1 hI => (ev_X5_learns hI.1 hI.2.1 s)) (fun M1 r M2 hs q => eF2 ?_ q)
  simp only [rosX_say hs.say, appX_say hs.say]
theorem pr_least {M : Mem} (h : Inv M) : PairI yX4_least cX4_least 2 3 [.ref 0] yX5_least cX5_least 2 5 [.ref 31] M := by
  refine PairI.q h _ (ev_X4_least h.1) (eF1 (Sam.r M)) _ (fun M1 hI => (ev_X5_least hI.1 hI.2.1)) (fun M1 r M2 hs q => eF2 ?_ q)
  simp only [hs 22 (by decide) (by decide), leaX_say hs.say]
theorem pr_fits {M : Mem} (h : Inv M) (s v : Int32) : PairI yX4_fits cX4_fits 4 4 [.ref 0, .int s, .int v] yX5_fits cX5_fits 3 4 [.ref 31, .int s, .int v] M := by
  refine PairI.q h _ (ev_X4_fits h.1 s v) (fun _ _ q => q) _ (fun M1 hI => (ev_X5_fits hI.1 hI.2.1 s v)) (fun M1 r M2 hs q => eF3 ?_ q)
  by_cases ho : okS s
  · simp only [rofX_say hs.say, fitB_say hs.say (okS_lt ho)]
  · rw [if_neg (fun q => ho q.1), if_neg (fun q => ho q.1)]
theorem pr_both {M : Mem} (h : Inv M) (j z : Int32) : PairI yX4_both cX4_both 4 2 [.ref 0, .int j, .int z] yX5_both cX5_both 3 2 [.ref 31, .int j, .int z] M := by
  refine PairI.q h _ (ev_X4_both h.1 j z) (eF1 (Sam.r M)) _ (fun M1 hI => (ev_X5_both hI.1 hI.2.1 j z)) (fun M1 r M2 hs q => eF2 ?_ q)
  by_cases hj : okS j
  · have h10 := okS_lt hj
    simp only [okB_say hs.say, tosX_say hs.say h10, hs.say.m (a := 3 + j.toInt.toNat) (by omega) (by omega) (by omega)]
  · rw [if_neg hj, if_neg hj]
theorem pr_pair {M : Mem} (h : Inv M) (a b z i : Int32) : PairI yX4_pair cX4_pair 7 2 [.ref 0, .int a, .int b, .int z, .int i] yX5_pair cX5_pair 5 2 [.ref 31, .int a, .int b, .int z, .int i] M := by
  refine PairI.q h _ (ev_X4_pair h.1 a b z i) (eF1 (Sam.r M)) _ (fun M1 hI => (ev_X5_pair hI.1 hI.2.1 a b z i)) (fun M1 r M2 hs q => eF2 ?_ q)
  by_cases hj : okS a ∧ okS b
  · simp only [okR_say hs.say, okB_say hs.say, paiX_say hs.say (okS_lt hj.1) (okS_lt hj.2)]
  · rw [if_neg (fun q => hj ⟨q.1, q.2.1⟩), if_neg (fun q => hj ⟨q.1, q.2.1⟩)]
theorem pr_total {M : Mem} (h : Inv M) (w : Int32) : PairI yX4_total cX4_total 2 2 [.ref 0, .int w] yX5_total cX5_total 4 2 [.ref 31, .int w] M := by
  refine PairI.q h _ (ev_X4_total h.1 w) (eF1 (Sam.r M)) _ (fun M1 hI => (ev_X5_total hI.1 hI.2.1 hI.2.2.1 hI.2.2.2.1 hI.2.2.2.2.1 w)) (fun M1 r M2 hs q => eF2 ?_ q)
  rw [totX_sax hs]
