/-! what every pair of calls keeps; what questions answer depends on but some cells -/
def Say (M M' : Mem) : Prop := M' 0 6 = M 0 6 ∧ ∀ a, 1 ≤ a → a < 25 → a ≠ 2 → M' a = M a
theorem Sax.say {M M' : Mem} (h : Sax M M') : Say M M' := ⟨by rw [h 0 (by decide) (by decide)], fun a _ h2 h3 => h a h2 h3⟩
theorem Say.m {M M' : Mem} (h : Say M M') {a : Nat} (h0 : 1 ≤ a) (h1 : a < 25) (h2 : a ≠ 2) (b : Nat) : mi M' a b = mi M a b := by unfold mi; rw [h.2 a h0 h1 h2]
theorem hc_say {M M' : Mem} (hs : Say M M') {j : Nat} (h2 : j < 10) : hc M' j = hc M j := by
  unfold hc
  rw [hs.m (by omega) (by omega) (by omega)]
theorem hcr_say {M M' : Mem} (hs : Say M M') {j : Nat} (h2 : j < 10) : M' (hc M' j) = M (hc M j) := by
  rw [hc_say hs h2]
  exact hs.2 _ (by unfold hc; split <;> omega) (by unfold hc; split <;> omega) (by unfold hc; split <;> omega)
theorem hcm_say {M M' : Mem} (hs : Say M M') {j : Nat} (h2 : j < 10) : mi M' (hc M' j) = mi M (hc M j) := by
  funext q
  unfold mi
  rw [hcr_say hs h2]
theorem ptX_say {M M' : Mem} (hs : Say M M') (j : Nat) : ptX M' j = ptX M j := by
  have e : mi M' 23 = mi M 23 := funext fun q => hs.m (by decide) (by decide) (by decide) q
  funext k
  unfold ptX
  rw [hs.m (by decide) (by decide) (by decide), hs.m (by decide) (by decide) (by decide), e]
theorem vlS_say {M M' : Mem} (hs : Say M M') (j : Nat) : vlS M' j = vlS M j := by
  have e : mi M' 24 = mi M 24 := funext fun q => hs.m (by decide) (by decide) (by decide) q
  unfold vlS
  rw [hs.2 22 (by decide) (by decide) (by decide), hs.m (by decide) (by decide) (by decide), e]
theorem xmi_say {M M' : Mem} (hs : Say M M') : mi M' 0 6 = mi M 0 6 := by
  unfold mi
  rw [hs.1]
theorem xm_say {M M' : Mem} (hs : Say M M') : xm M' = xm M := by
  unfold xm
  rw [xmi_say hs]
theorem ansX_say {M M' : Mem} (hs : Say M M') {j : Nat} (h2 : j < 10) : ansX M' j = ansX M j := by
  unfold ansX
  rw [hcm_say hs h2, ptX_say hs, vlS_say hs, xm_say hs, hs.m (by omega) (by omega) (by omega)]
theorem tells_say {M M' : Mem} (hs : Say M M') {j : Nat} (h2 : j < 10) : tells M' j = tells M j := by
  unfold tells
  rw [hs.m (by omega) (by omega) (by omega)]
theorem cntT_say {M M' : Mem} (hs : Say M M') {n : Nat} (h2 : n < 10) : cnt (tells M') n = cnt (tells M) n := cnt_ext n (fun j _ hj => tells_say hs (by omega))
theorem rowX_say {M M' : Mem} (hs : Say M M') {n : Nat} (h2 : n < 10) : rowX M' n = rowX M n := hearL_ext n (fun j _ hj => ⟨tells_say hs (by omega), ansX_say hs (by omega)⟩)
theorem okS_lt {s : Int32} (h : okS s) : s.toInt.toNat < 10 := by have := h; omega
theorem rofX_say {M M' : Mem} (hs : Say M M') (s : Int32) : rofX M' s = rofX M s := by
  unfold rofX
  by_cases h : okS s
  · rw [if_pos h, if_pos h, hs.2 22 (by decide) (by decide) (by decide), hs.m (by decide) (by decide) (by decide), cntT_say hs (okS_lt h)]
  · rw [if_neg h, if_neg h]
theorem fndX_say {M M' : Mem} (hs : Say M M') {n : Nat} (h2 : n < 10) : fndX M' n = fndX M n := by
  unfold fndX enoX
  rw [rowX_say hs h2, hs.m (by decide) (by decide) (by decide)]
theorem curX_say {M M' : Mem} (hs : Say M M') {n : Nat} (h2 : n < 10) (p : Nat) : curX M' n p = curX M n p := by
  unfold curX
  rw [rowX_say hs h2]
theorem ftvX_say {M M' : Mem} (hs : Say M M') {n : Nat} (h2 : n < 10) : ftvX M' n = ftvX M n := by
  unfold ftvX
  rw [fndX_say hs h2]
  cases fndX M n with
  | none => rfl
  | some p => show zI (newt (curX M' n p) 0) = zI (newt (curX M n p) 0); rw [curX_say hs h2]
theorem rosX_say {M M' : Mem} (hs : Say M M') (s : Int32) : rosX M' s = rosX M s := by
  unfold rosX
  rw [hs.2 22 (by decide) (by decide) (by decide)]
theorem cwX_say {M M' : Mem} (hs : Say M M') (n : Nat) (i : Int) : cwX M' n i = cwX M n i := by
  unfold cwX
  rw [hs.m (by decide) (by decide) (by decide), hs.m (by decide) (by decide) (by decide), hs.m (by decide) (by decide) (by decide)]
theorem appX_say {M M' : Mem} (hs : Say M M') (n : Nat) : appX M' n = appX M n := by
  unfold appX
  rw [xm_say hs]
  simp only [cwX_say hs]
theorem leaX_say {M M' : Mem} (hs : Say M M') : leaX M' = leaX M := by
  unfold leaX
  simp only [appX_say hs]
theorem fitB_say {M M' : Mem} (hs : Say M M') {n : Nat} (h2 : n < 10) (v : Int32) : fitB M' n v = fitB M n v := by
  unfold fitB
  rw [rowX_say hs h2, curX_say hs h2, hs.m (by decide) (by decide) (by decide)]
theorem takX_say {M M' : Mem} (hs : Say M M') {j : Nat} (h2 : j < 10) (kd w : Int32) : takX M' j kd w = takX M j kd w := by
  unfold takX
  rw [hcr_say hs h2, hs.m (by omega) (by omega) (by omega), hs.2 (3 + j) (by omega) (by omega) (by omega)]
theorem copX_say {M M' : Mem} (hs : Say M M') {j : Nat} (h2 : j < 10) (i : Nat) : copX M' j i = copX M j i := by
  unfold copX
  rw [hcr_say hs h2, hs.m (by omega) (by omega) (by omega)]
theorem tosX_say {M M' : Mem} (hs : Say M M') {j : Nat} (h2 : j < 10) (z : Int) : tosX M' j z = tosX M j z := by
  unfold tosX
  rw [hcm_say hs h2, hs.m (by omega) (by omega) (by omega), xm_say hs]
theorem paiX_say {M M' : Mem} (hs : Say M M') {a b : Nat} (h1 : a < 10) (h2 : b < 10) (z : Int32) (i : Nat) : paiX M' a b z i = paiX M a b z i := by
  unfold paiX
  rw [tosX_say hs h1, tosX_say hs h2, hs.m (by omega) (by omega) (by omega), hs.m (by omega) (by omega) (by omega)]
theorem okR_say {M M' : Mem} (hs : Say M M') (i : Int32) : okR M' i ↔ okR M i := by
  unfold okR
  rw [xm_say hs]
theorem okB_say {M M' : Mem} (hs : Say M M') (i : Int32) : okB M' i ↔ okB M i := by
  unfold okB
  rw [xm_say hs]
theorem totX_sax {M M' : Mem} (hs : Sax M M') (w : Int32) : totX M' w = totX M w := by
  have e : cnt (fun j => decide (mi M' (3 + j) 1 = 0)) 9 = cnt (fun j => decide (mi M (3 + j) 1 = 0)) 9 := cnt_ext 9 (fun j _ hj => by
    show decide (mi M' (3 + j) 1 = 0) = decide (mi M (3 + j) 1 = 0)
    rw [hs.m (by omega) (by omega)])
  unfold totX
  rw [e, hs 0 (by decide) (by decide), hs 22 (by decide) (by decide), xm_sax hs]
/-! the invariant -/
def InvC (M : Mem) : Prop := M 31 13 = M 0 8 ∧ M 31 14 = M 0 9 ∧ M 31 15 = M 0 10 ∧ ∀ j, j < 10 → M 38 j = zI (mi M 0 7 / 2 ^ j % 2)
def Inv (M : Mem) : Prop := WX M ∧ InvQ M ∧ InvC M
/-- but for scratch of both sides nothing changed -/
def Sak (M M' : Mem) : Prop := ∀ a b, (a < 25 ∧ a ≠ 2 ∨ 31 ≤ a ∧ a < 39 ∧ ¬ (a = 31 ∧ (b = 0 ∨ b = 16))) → M' a b = M a b
theorem Sak.r (M : Mem) : Sak M M := fun _ _ _ => rfl
theorem Sak.t {M M1 M2 : Mem} (h : Sak M M1) (h2 : Sak M1 M2) : Sak M M2 := fun a b hab => (h2 a b hab).trans (h a b hab)
theorem Sam.sak {M M' : Mem} (h : Sam M M') : Sak M M' := fun a b hab => by rw [h a (by omega)]
theorem SamM.sak {M M' : Mem} (h : SamM M M') : Sak M M' := fun a b hab => h a b (by omega)
theorem thM_sak (M : Mem) : Sak M (thM M) := ((SamM.r M).ms _ (Or.inr ⟨rfl, Or.inl rfl⟩)).sak
theorem Sak.sax {M M' : Mem} (h : Sak M M') : Sax M M' := fun a h1 h2 => funext fun b => h a b (Or.inl ⟨h1, h2⟩)
theorem InvQ.sak {M M' : Mem} (h : InvQ M) (hs : Sak M M') : InvQ M' := by
  have hx := hs.sax
  have e : ∀ a b, a < 25 → a ≠ 2 → M' a b = M a b := fun a b h1 h2 => hs a b (by omega)
  have em : ∀ a b, a < 25 → a ≠ 2 → mi M' a b = mi M a b := fun a b h1 h2 => by unfold mi; rw [e a b h1 h2]
  have ex := xm_sax hx
  refine ⟨?_, fun i hi => ?_, fun j h1 h2 => ?_, fun j h1 h2 => ?_, fun j h1 h2 => ?_, ?_, fun q hq => ?_, ?_⟩
  · rw [hs 31 1 (by omega), e 0 6 (by decide) (by decide)]
    exact h.dg
  · rw [hs 32 i (by omega), e 1 i (by decide) (by decide)]
    exact h.num i hi
  · rw [hs 33 j (by omega), e (3 + j) 1 (by omega) (by omega)]
    exact h.kd j h1 h2
  · rw [em (3 + j) 1 (by omega) (by omega), hs 34 j (by omega), e (3 + j) 2 (by omega) (by omega)]
    exact h.ly j h1 h2
  · rw [em (3 + j) 1 (by omega) (by omega)]
    intro h3 i hi
    rw [hs 35 _ (by omega), e (12 + j) i (by omega) (by omega)]
    exact h.kp j h1 h2 h3 i hi
  · rw [hs 31 6 (by omega), e 22 2 (by decide) (by decide)]
    exact h.as
  · have := h.lb q hq
    unfold mi at this ⊢
    rw [hs 36 q (by omega)]
    exact this
  · rw [em 22 2 (by decide) (by decide)]
    intro h1
    obtain ⟨q1, q2, q3, q4, q5⟩ := h.qs h1
    rw [hs 31 7 (by omega), hs 31 8 (by omega), hs 31 10 (by omega), e 22 4 (by decide) (by decide), e 22 5 (by decide) (by decide), e 22 3 (by decide) (by decide), em 22 5 (by decide) (by decide), em 22 3 (by decide) (by decide), em 22 7 (by decide) (by decide), ex]
    refine ⟨q1, q2, fun k e9 hk he => ?_, q4, fun h3 e9 he => ?_⟩
    · rw [hs 36 _ (by omega), e 23 _ (by decide) (by decide)]
      exact q3 k e9 hk he
    · rw [hs 37 _ (by omega), e 24 _ (by decide) (by decide)]
      exact q5 h3 e9 he
theorem InvC.sak {M M' : Mem} (h : InvC M) (hs : Sak M M') : InvC M' := by
  have hm : mi M' 0 7 = mi M 0 7 := by unfold mi; rw [hs 0 7 (by omega)]
  refine ⟨?_, ?_, ?_, fun j hj => ?_⟩
  · rw [hs 31 13 (by omega), hs 0 8 (by omega)]
    exact h.1
  · rw [hs 31 14 (by omega), hs 0 9 (by omega)]
    exact h.2.1
  · rw [hs 31 15 (by omega), hs 0 10 (by omega)]
    exact h.2.2.1
  · rw [hs 38 j (by omega), hm]
    exact h.2.2.2 j hj
theorem Inv.sak {M M' : Mem} (h : Inv M) (hs : Sak M M') : Inv M' := ⟨h.1.sax hs.sax, h.2.1.sak hs, h.2.2.sak hs⟩
/-- a pair of calls, first the class's, then the reference's: both answer the same int, and the invariant holds again -/
def PairI (y1 : MethodName) (b1 : ByteArray) (n1 h1 : Nat) (a1 : List Value) (y2 : MethodName) (b2 : ByteArray) (n2 h2 : Nat) (a2 : List Value) (M : Mem) : Prop :=
  ∃ Q1, Ev y1 b1 n1 (some .int) h1 a1 M Q1 ∧ ∀ r M1, Q1 r M1 → ∃ w : Int32, r = some (.int w) ∧ ∃ Q2, Ev y2 b2 n2 (some .int) h2 a2 M1 Q2 ∧ ∀ r' M2, Q2 r' M2 → r' = some (.int w) ∧ Inv M2
theorem PairI.q {y1 : MethodName} {b1 : ByteArray} {n1 h1 : Nat} {a1 : List Value} {y2 : MethodName} {b2 : ByteArray} {n2 h2 : Nat} {a2 : List Value} {M : Mem} {Q1 : Option Value → Mem → Prop} (h : Inv M) (w : Int32) (hx : Ev y1 b1 n1 (some .int) h1 a1 M Q1) (hx2 : ∀ r M1, Q1 r M1 → some (.int w) = r ∧ Sam M M1)
    (Q2 : Mem → Option Value → Mem → Prop) (hm : ∀ M1, Inv (thM M1) → Ev y2 b2 n2 (some .int) h2 a2 M1 (Q2 M1)) (hm2 : ∀ M1 r M2, Sax M (thM M1) → Q2 M1 r M2 → some (.int w) = r ∧ SamM (thM M1) M2) : PairI y1 b1 n1 h1 a1 y2 b2 n2 h2 a2 M := by
  refine ⟨Q1, hx, fun r M1 q => ?_⟩
  obtain ⟨rfl, hs⟩ := hx2 r M1 q
  have hk := hs.sak.t (thM_sak M1)
  refine ⟨w, rfl, Q2 M1, hm M1 (h.sak hk), fun r' M2 q2 => ?_⟩
  obtain ⟨rfl, hs2⟩ := hm2 M1 r' M2 hk.sax q2
  exact ⟨rfl, h.sak (hk.t hs2.sak)⟩
theorem eF1 {M M' : Mem} {v : Option Value} (hs : Sam M M') : ∀ r M1, (v = r ∧ M' = M1) → v = r ∧ Sam M M1 := fun _ _ q => ⟨q.1, q.2 ▸ hs⟩
theorem eF2 {M M' : Mem} {w w' : Int32} {r : Option Value} (e : w' = w) (q : some (.int w') = r ∧ M = M') : some (Value.int w) = r ∧ SamM M M' := ⟨by rw [← e]; exact q.1, q.2 ▸ SamM.r _⟩
theorem eF3 {M M' : Mem} {w w' : Int32} {r : Option Value} (e : w' = w) (q : some (.int w') = r ∧ SamM M M') : some (Value.int w) = r ∧ SamM M M' := ⟨by rw [← e]; exact q.1, q.2⟩
