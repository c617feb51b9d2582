/-! choices in falling picks are choices as rows of numbers -/
def posL (n p : Nat) : List Nat := (List.range n).filter (fun q => p / 2 ^ (n - 1 - q) % 2 == 1)
def cF (n p : Nat) (a : Nat) : Nat := (posL n p).getD a 0
def prv (g : Nat) : Nat → Option Nat
  | 0 => none
  | q + 1 => if popN q = g + 1 then some q else prv g q
def chkN (n g p : Nat) : Bool := match fndA n g (cF n p) (g + 1) with
  | none => (prv g p).isNone
  | some a => match prv g p with
    | none => false
    | some p' => (List.range (g + 1)).all (fun b => nxtC (cF n p) a b == cF n p' b)
set_option maxRecDepth 100000 in
theorem pos_len : ∀ n, n < 10 → ∀ p, p < 512 → p < 2 ^ n → (posL n p).length = popN p := by decide +kernel
set_option maxRecDepth 100000 in
theorem nx_all : ∀ n, n < 10 → ∀ p, p < 512 → p < 2 ^ n → 1 ≤ popN p → popN p ≤ 7 → chkN n (popN p - 1) p = true := by decide +kernel
set_option maxRecDepth 100000 in
theorem fst_all : ∀ n, n < 10 → ∀ g, g < 7 → g + 1 ≤ n → prv g (2 ^ n) = some (fpS n g) ∧ (List.range (g + 1)).all (fun a => cF n (fpS n g) a == a) = true := by decide +kernel
theorem prv_ok {g : Nat} : ∀ q p, prv g q = some p → popN p = g + 1 ∧ p < q
  | 0, p, h => by cases h
  | q + 1, p, h => by
    unfold prv at h
    by_cases hc : popN q = g + 1
    · rw [if_pos hc] at h
      cases h
      exact ⟨hc, by omega⟩
    · rw [if_neg hc] at h
      have := prv_ok q p h
      exact ⟨this.1, by omega⟩
theorem pop_0 : popN 0 = 0 := by decide +kernel
theorem findS_prv (l : List (Nat × Int)) (g : Nat) (e : Int) : ∀ q, findS l g e q = match prv g (q + 1) with
    | none => none
    | some p => findS l g e p
  | 0 => by
    have h : prv g 1 = none := by
      unfold prv
      rw [pop_0, if_neg (by omega)]
      rfl
    rw [h]
    rfl
  | q + 1 => by
    have ih := findS_prv l g e q
    by_cases hc : popN (q + 1) = g + 1
    · have h : prv g (q + 1 + 1) = some (q + 1) := by
        rw [prv, if_pos hc]
      rw [h]
    · have h : prv g (q + 1 + 1) = prv g (q + 1) := by
        rw [prv, if_neg hc]
      rw [h, ← ih, findS, if_neg (fun z => hc z.1)]
theorem pk_pos (l : List (Nat × Int)) (n p : Nat) : ∀ q, pkS l n p q = ((List.range q).filter (fun q => p / 2 ^ (n - 1 - q) % 2 == 1)).map (fun q => l.getD q (0, 0))
  | 0 => rfl
  | q + 1 => by
    rw [pkS, pk_pos l n p q, List.range_succ, List.filter_append, List.map_append]
    congr 1
    by_cases h : p / 2 ^ (n - 1 - q) % 2 = 1
    · rw [if_pos h]
      simp [h]
    · rw [if_neg h]
      simp [h]
theorem pk_get (l : List (Nat × Int)) (n p : Nat) {a : Nat} (h : a < (posL n p).length) : (pkS l n p n).getD a (0, 0) = l.getD (cF n p a) (0, 0) := by
  rw [pk_pos]
  unfold cF
  show ((posL n p).map (fun q => l.getD q (0, 0))).getD a (0, 0) = _
  have e : (posL n p).getD a 0 = (posL n p)[a] := by
    rw [List.getD_eq_getElem?_getD, List.getElem?_eq_getElem h]
    rfl
  rw [e, List.getD_eq_getElem?_getD, List.getElem?_map, List.getElem?_eq_getElem h]
  rfl
theorem pos_asc (n p : Nat) : ∀ i j, i < j → j < (posL n p).length → cF n p i < cF n p j := by
  intro i j hij hj
  have h1 : List.Pairwise (fun a b => a < b) (posL n p) := List.Pairwise.filter _ List.pairwise_lt_range
  have h2 := List.pairwise_iff_getElem.mp h1 i j (by omega) hj hij
  unfold cF
  rw [List.getD_eq_getElem?_getD, List.getD_eq_getElem?_getD, List.getElem?_eq_getElem (by omega), List.getElem?_eq_getElem hj]
  exact h2
theorem pos_lt (n p : Nat) {a : Nat} (h : a < (posL n p).length) : cF n p a < n := by
  unfold cF
  rw [List.getD_eq_getElem?_getD, List.getElem?_eq_getElem h]
  have := List.mem_filter.mp (List.getElem_mem h)
  exact List.mem_range.mp this.1
theorem pk_asc {l : List (Nat × Int)} (hasc : ascR l) (p : Nat) : ascR (pkS l l.length p l.length) := by
  intro i j hij hj
  have hlen : (pkS l l.length p l.length).length = (posL l.length p).length := by
    rw [pk_pos, List.length_map]
    rfl
  rw [hlen] at hj
  rw [pk_get l l.length p (by omega), pk_get l l.length p hj]
  exact hasc _ _ (pos_asc _ _ i j hij hj) (pos_lt _ _ hj)
theorem hear_asc (tl : Nat → Bool) (an : Nat → Int) : ∀ s, ascR (hearL tl an s)
  | 0 => fun i j _ hj => absurd hj (Nat.not_lt_zero _)
  | s + 1 => by
    have ih := hear_asc tl an s
    rw [hearL]
    by_cases ht : tl (s + 1) = true
    · rw [if_pos ht]
      intro i j hij hj
      rw [List.length_append, List.length_singleton] at hj
      have hi : ((hearL tl an s ++ [(s + 1, an (s + 1))]).getD i (0, 0)) = (hearL tl an s).getD i (0, 0) := by
        rw [List.getD_eq_getElem?_getD, List.getD_eq_getElem?_getD, List.getElem?_append_left (by omega)]
      rw [hi]
      by_cases hjl : j < (hearL tl an s).length
      · have hj2 : ((hearL tl an s ++ [(s + 1, an (s + 1))]).getD j (0, 0)) = (hearL tl an s).getD j (0, 0) := by
          rw [List.getD_eq_getElem?_getD, List.getD_eq_getElem?_getD, List.getElem?_append_left hjl]
        rw [hj2]
        exact ih i j hij hjl
      · have hj2 : ((hearL tl an s ++ [(s + 1, an (s + 1))]).getD j (0, 0)) = (s + 1, an (s + 1)) := by
          rw [List.getD_eq_getElem?_getD, List.getElem?_append_right (by omega), show j - (hearL tl an s).length = 0 by omega]
          rfl
        rw [hj2, List.getD_eq_getElem?_getD, List.getElem?_eq_getElem (by omega)]
        have := hearL_in tl an s _ (List.getElem_mem (show i < (hearL tl an s).length by omega))
        show ((hearL tl an s)[i]).1 < s + 1
        omega
    · rw [if_neg ht, List.append_nil]
      exact ih
theorem lagS_ext {X X' Y Y' : Nat → Int} {z : Int} {n : Nat} (hX : ∀ a, a < n → X a = X' a) (hY : ∀ a, a < n → Y a = Y' a) : ∀ a, a ≤ n → lagS X Y z n a = lagS X' Y' z n a
  | 0, _ => rfl
  | a + 1, h => by
    have hp : ∀ (w w' : Int), w = w' → ∀ b, b ≤ n → prodD X a w b = prodD X' a w' b := by
      intro w w' hww b
      subst hww
      induction b with
      | zero => intro _; rfl
      | succ b ih =>
        intro hb
        rw [prodD, prodD, ih (by omega), hX b (by omega)]
    rw [lagS, lagS, lagS_ext hX hY a (by omega), hY a (by omega), hp z z rfl n (Nat.le_refl _)]
    unfold ivD
    rw [hp (X a) (X' a) (hX a (by omega)) n (Nat.le_refl _)]
/-- what the reference finds on the curve through the chosen is what the class finds -/
theorem lag_cur {l : List (Nat × Int)} (hok : rowOk l) (hasc : ascR l) {g p : Nat} (hlen : (posL l.length p).length = g + 1) (z : Int) : lagV (cX l (cF l.length p)) (cY l (cF l.length p)) (g + 1) z = newt (layP (pkS l l.length p l.length)) z := by
  have hpk := pkS_ok hok l.length p l.length (Nat.le_refl _)
  have hl2 : (pkS l l.length p l.length).length = g + 1 := by
    rw [pk_pos, List.length_map]
    exact hlen
  rw [newt_lag hpk (pk_asc hasc p), hl2]
  unfold lagV
  rw [lagS_ext (fun a ha => ?_) (fun a ha => ?_) (g + 1) (Nat.le_refl _)]
  · rw [pk_get l l.length p (by omega)]
    rfl
  · rw [pk_get l l.length p (by omega)]
    rfl
theorem cur_nz {l : List (Nat × Int)} (hok : rowOk l) (hasc : ascR l) {g p : Nat} (hlen : (posL l.length p).length = g + 1) : ∀ a, a ≤ g → ¬ prodD (cX l (cF l.length p)) a (cX l (cF l.length p) a) (g + 1) % 97 = 0 := by
  intro a ha q
  have hpk := pkS_ok hok l.length p l.length (Nat.le_refl _)
  have hl2 : (pkS l l.length p l.length).length = g + 1 := by
    rw [pk_pos, List.length_map]
    exact hlen
  have hap := asc_apart hpk (pk_asc hasc p)
  refine prodD_nz (cX l (cF l.length p)) a (g + 1) (fun b hb hba => ?_) (by unfold cgr; omega)
  have := hap a b (by omega) (by omega) (fun e => hba e.symm)
  rw [pk_get l l.length p (by omega), pk_get l l.length p (by omega)] at this
  exact this
theorem on_cur {l : List (Nat × Int)} (hok : rowOk l) (hasc : ascR l) {g p : Nat} (hlen : (posL l.length p).length = g + 1) : onM l (cF l.length p) g = onX (layP (pkS l l.length p l.length)) := by
  funext e
  unfold onM onX
  rw [lag_cur hok hasc hlen]
