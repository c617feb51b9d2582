/-! Newton's curve is Lagrange's: polynomials modulo 97 by their numbers, roots counted -/
def evP : List Int → Int → Int
  | [], _ => 0
  | c :: cs, z => c + z * evP cs z
def addP : List Int → List Int → List Int
  | [], b => b
  | a, [] => a
  | x :: a, y :: b => (x + y) :: addP a b
theorem addP_ev : ∀ (a b : List Int) (z : Int), evP (addP a b) z = evP a z + evP b z
  | [], b, z => by simp [addP, evP]
  | x :: a, [], z => by simp [addP, evP]
  | x :: a, y :: b, z => by
    rw [addP, evP, evP, evP, addP_ev a b z]
    grind
theorem addP_len : ∀ (a b : List Int) (n : Nat), a.length ≤ n → b.length ≤ n → (addP a b).length ≤ n
  | [], b, n, _, h => by rw [addP]; exact h
  | x :: a, [], n, h, _ => by rw [addP]; exact h; simp
  | x :: a, y :: b, n, h1, h2 => by
    rw [addP, List.length_cons]
    rw [List.length_cons] at h1 h2
    have := addP_len a b (n - 1) (by omega) (by omega)
    omega
theorem mapP_ev (k : Int) : ∀ (a : List Int) (z : Int), evP (a.map (fun x => k * x)) z = k * evP a z
  | [], z => by simp [evP]
  | x :: a, z => by
    rw [List.map_cons, evP, evP, mapP_ev k a z]
    grind
def PolyLt (n : Nat) (f : Int → Int) : Prop := ∃ cs : List Int, cs.length ≤ n ∧ ∀ z, cgr (f z) (evP cs z)
theorem PolyLt.mono {n m : Nat} {f : Int → Int} (h : PolyLt n f) (hm : n ≤ m) : PolyLt m f := by
  obtain ⟨cs, h1, h2⟩ := h
  exact ⟨cs, by omega, h2⟩
theorem PolyLt.congr {n : Nat} {f g : Int → Int} (h : PolyLt n f) (hfg : ∀ z, cgr (g z) (f z)) : PolyLt n g := by
  obtain ⟨cs, h1, h2⟩ := h
  exact ⟨cs, h1, fun z => cg_t (hfg z) (h2 z)⟩
theorem PolyLt.zero (n : Nat) : PolyLt n (fun _ => 0) := ⟨[], by simp, fun z => cg_r _⟩
theorem PolyLt.const (c : Int) : PolyLt 1 (fun _ => c) := ⟨[c], by simp, fun z => by
  show cgr c (c + z * 0)
  rw [Int.mul_zero, Int.add_zero]
  exact cg_r _⟩
theorem PolyLt.add {n : Nat} {f g : Int → Int} (hf : PolyLt n f) (hg : PolyLt n g) : PolyLt n (fun z => f z + g z) := by
  obtain ⟨a, h1, h2⟩ := hf
  obtain ⟨b, h3, h4⟩ := hg
  exact ⟨addP a b, addP_len a b n h1 h3, fun z => by rw [addP_ev]; exact cg_a (h2 z) (h4 z)⟩
theorem PolyLt.smul {n : Nat} {f : Int → Int} (k : Int) (hf : PolyLt n f) : PolyLt n (fun z => k * f z) := by
  obtain ⟨a, h1, h2⟩ := hf
  exact ⟨a.map (fun x => k * x), by rw [List.length_map]; exact h1, fun z => by rw [mapP_ev]; exact cg_x (cg_r k) (h2 z)⟩
theorem PolyLt.lin {n : Nat} {f : Int → Int} (t : Int) (hf : PolyLt n f) : PolyLt (n + 1) (fun z => f z * (z - t)) := by
  obtain ⟨a, h1, h2⟩ := hf
  refine ⟨addP (0 :: a) (a.map (fun x => (-t) * x)), addP_len _ _ _ (by rw [List.length_cons]; omega) (by rw [List.length_map]; omega), fun z => ?_⟩
  rw [addP_ev, mapP_ev, evP]
  have e : 0 + z * evP a z + -t * evP a z = evP a z * (z - t) := by grind
  rw [e]
  exact cg_x (h2 z) (cg_r _)
theorem synth (t : Int) : ∀ cs : List Int, ∃ qs : List Int, qs.length = cs.length - 1 ∧ ∀ z, evP cs z = (z - t) * evP qs z + evP cs t
  | [] => ⟨[], rfl, fun z => by simp [evP]⟩
  | [c] => ⟨[], rfl, fun z => by simp [evP]⟩
  | c :: d :: cs => by
    obtain ⟨qs, h1, h2⟩ := synth t (d :: cs)
    refine ⟨evP (d :: cs) t :: qs, by rw [List.length_cons, h1]; simp, fun z => ?_⟩
    have h3 := h2 z
    generalize hE : evP (d :: cs) t = E at h3 ⊢
    have e1 : evP (c :: d :: cs) z = c + z * evP (d :: cs) z := rfl
    have e2 : evP (c :: d :: cs) t = c + t * E := by rw [← hE]; rfl
    have e3 : evP (E :: qs) z = E + z * evP qs z := rfl
    rw [e1, e2, e3, h3]
    grind
/-- a polynomial of n numbers that is 0 at n places that are apart is 0 -/
theorem roots : ∀ (n : Nat) (cs : List Int), cs.length ≤ n → ∀ X : Nat → Int, (∀ i j, i < n → j < n → i ≠ j → ¬ cgr (X i - X j) 0) → (∀ i, i < n → cgr (evP cs (X i)) 0) → ∀ z, cgr (evP cs z) 0
  | 0, cs, h, X, _, _, z => by
    rw [List.length_eq_zero_iff.mp (Nat.le_zero.mp h)]
    exact cg_r _
  | n + 1, cs, h, X, hX, h0, z => by
    obtain ⟨qs, h1, h2⟩ := synth (X n) cs
    have hq : ∀ z, cgr (evP qs z) 0 := by
      refine roots n qs (by omega) X (fun i j hi hj hij => hX i j (by omega) (by omega) hij) (fun i hi => ?_)
      have h3 := h0 i (by omega)
      rw [h2 (X i)] at h3
      have h4 : cgr ((X i - X n) * evP qs (X i)) 0 := by
        have := h0 n (by omega)
        unfold cgr at this h3 ⊢
        omega
      rcases cg_prime h4 with h5 | h5
      · exact absurd h5 (hX i n (by omega) (by omega) (by omega))
      · exact h5
    rw [h2 z]
    have h5 := cg_a (cg_x (cg_r (z - X n)) (hq z)) (h0 n (by omega))
    rw [Int.mul_zero] at h5
    exact h5
theorem PolyLt.same {n : Nat} {f g : Int → Int} (hf : PolyLt n f) (hg : PolyLt n g) {X : Nat → Int} (hX : ∀ i j, i < n → j < n → i ≠ j → ¬ cgr (X i - X j) 0) (h : ∀ i, i < n → cgr (f (X i)) (g (X i))) : ∀ z, cgr (f z) (g z) := by
  obtain ⟨cs, h1, h2⟩ := hf.add (hg.smul (-1))
  have h2 : ∀ z, cgr (f z + -1 * g z) (evP cs z) := h2
  intro z
  have h3 := roots n cs h1 X hX (fun i hi => by
    refine cg_t (cg_s (h2 (X i))) ?_
    have := h i hi
    unfold cgr at this ⊢
    omega) z
  have h4 := cg_t (h2 z) h3
  unfold cgr at h4 ⊢
  omega
theorem newt_lin (e : Int × Int) (l : List (Int × Int)) (z : Int) : cgr (newt (e :: l) z) (newt l z * (z - e.1) + e.2) := by
  rw [newt]
  refine cg_t (cg_m _) (cg_a ?_ (cg_r _))
  exact cg_x (cg_r _) (by unfold cgr; omega)
theorem newt_poly : ∀ l : List (Int × Int), PolyLt l.length (newt l)
  | [] => PolyLt.zero 0
  | e :: l => by
    rw [List.length_cons]
    exact (((newt_poly l).lin e.1).add ((PolyLt.const e.2).mono (by omega))).congr (newt_lin e l)
def wP : List (Int × Int) → Int → Int
  | [], _ => 1
  | e :: l, z => (z - e.1) * wP l z
theorem newt_app (x c : Int) : ∀ (l : List (Int × Int)) (z : Int), cgr (newt (l ++ [(x, c)]) z) (newt l z + c * wP l z)
  | [], z => by
    show cgr ((0 * (z - x + 97) + c) % 97) (0 + c * 1)
    rw [Int.zero_mul, Int.mul_one]
    exact cg_m _
  | e :: l, z => by
    have h1 := newt_app x c l z
    refine cg_t (newt_lin e (l ++ [(x, c)]) z) ?_
    refine cg_t (cg_a (cg_x h1 (cg_r _)) (cg_r _)) ?_
    have e1 : (newt l z + c * wP l z) * (z - e.1) + e.2 = (newt l z * (z - e.1) + e.2) + c * ((z - e.1) * wP l z) := by grind
    rw [e1]
    exact cg_a (cg_s (newt_lin e l z)) (cg_r _)
theorem wP_zero : ∀ (l : List (Int × Int)) (e : Int × Int), e ∈ l → wP l e.1 = 0
  | d :: l, e, h => by
    rw [wP]
    rcases List.mem_cons.mp h with h | h
    · rw [h, Int.sub_self, Int.zero_mul]
    · rw [wP_zero l e h, Int.mul_zero]
theorem inv_ok : ∀ d : Nat, d < 9 → 1 ≤ d → invN d * d % 97 = 1 := by decide +kernel
theorem cof_w : ∀ (l : List (Int × Int)) (x f : Int), (∀ e ∈ l, 1 ≤ x - e.1 ∧ x - e.1 ≤ 8) → cgr (cofS l x f * wP l x) f
  | [], x, f, _ => by
    show cgr (f * 1) f
    rw [Int.mul_one]
    exact cg_r _
  | e :: l, x, f, h => by
    have h1 := cof_w l x (f * invN (x - e.1) % 97) (fun d hd => h d (List.mem_cons_of_mem _ hd))
    have h2 := h e List.mem_cons_self
    have e1 : cofS (e :: l) x f = cofS l x (f * invN (x - e.1) % 97) := rfl
    have e2 : cofS l x (f * invN (x - e.1) % 97) * ((x - e.1) * wP l x) = cofS l x (f * invN (x - e.1) % 97) * wP l x * (x - e.1) := by grind
    rw [e1, wP, e2]
    refine cg_t (cg_x h1 (cg_r _)) (cg_t (cg_x (cg_m _) (cg_r _)) ?_)
    rw [Int.mul_assoc]
    have h3 := inv_ok (x - e.1).toNat (by omega) (by omega)
    rw [Int.toNat_of_nonneg (by omega)] at h3
    have h4 : cgr (f * (invN (x - e.1) * (x - e.1))) (f * 1) := cg_x (cg_r f) (by unfold cgr; omega)
    rw [Int.mul_one] at h4
    exact h4
def ascR (pl : List (Nat × Int)) : Prop := ∀ i j, i < j → j < pl.length → (pl.getD i (0, 0)).1 < (pl.getD j (0, 0)).1
theorem layP_fst : ∀ n (pl : List (Nat × Int)), pl.length = n → (layP pl).map (fun e => e.1) = pl.map (fun e => (e.1 : Int)) := by
  intro n
  induction n with
  | zero =>
    intro pl h
    rw [List.length_eq_zero_iff.mp h]
    rfl
  | succ n ih =>
    intro pl h
    have hne : pl ≠ [] := fun q => by rw [q] at h; cases h
    have he := List.dropLast_concat_getLast hne
    have h1 := ih pl.dropLast (by rw [List.length_dropLast]; omega)
    rw [← he, layP_add, bendL, List.map_append, List.map_append, h1]
    rfl
theorem newt_at : ∀ n (pl : List (Nat × Int)), pl.length = n → rowOk pl → ascR pl → ∀ i, i < n → cgr (newt (layP pl) ((pl.getD i (0, 0)).1 : Nat)) (pl.getD i (0, 0)).2 := by
  intro n
  induction n with
  | zero => intro pl h _ _ i hi; omega
  | succ n ih =>
    intro pl h hok hasc i hi
    have hne : pl ≠ [] := fun q => by rw [q] at h; cases h
    have he := List.dropLast_concat_getLast hne
    have hd : pl.dropLast.length = n := by rw [List.length_dropLast]; omega
    generalize hp : pl.dropLast = pp at he hd
    generalize hx : pl.getLast hne = e at he
    have hge : ∀ q, q < n → (pp ++ [e]).getD q (0, 0) = pp.getD q (0, 0) := fun q hq => by
      rw [List.getD_eq_getElem?_getD, List.getD_eq_getElem?_getD, List.getElem?_append_left (by omega)]
    have hgl : (pp ++ [e]).getD n (0, 0) = e := by
      rw [List.getD_eq_getElem?_getD, List.getElem?_append_right (by omega), hd, Nat.sub_self]
      rfl
    rw [← he] at hok hasc h ⊢
    have hokp : rowOk pp := fun d hd => hok d (List.mem_append_left _ hd)
    have hascp : ascR pp := fun a b hab hb => by
      have := hasc a b hab (by omega)
      rw [hge a (by omega), hge b (by omega)] at this
      exact this
    have ih := ih pp hd hokp hascp
    have hfst := layP_fst n pp hd
    rw [layP_add, bendL]
    refine cg_t (newt_app _ _ _ _) ?_
    by_cases hin : i = n
    · subst hin
      rw [hgl]
      have hall : ∀ d ∈ layP pp, 1 ≤ (e.1 : Int) - d.1 ∧ (e.1 : Int) - d.1 ≤ 8 := by
        intro d hdm
        have h1 : d.1 ∈ (layP pp).map (fun e => e.1) := List.mem_map.mpr ⟨d, hdm, rfl⟩
        rw [hfst] at h1
        obtain ⟨u, hu, hue⟩ := List.mem_map.mp h1
        obtain ⟨q, hq, hqe⟩ := List.getElem_of_mem hu
        have h2 := hasc q i (by omega) (by omega)
        rw [hgl, hge q (by omega), List.getD_eq_getElem?_getD, List.getElem?_eq_getElem hq] at h2
        have h3 := hok e (List.mem_append_right _ (List.mem_singleton.mpr rfl))
        have h4 := hokp u hu
        have h5 : (pp[q]).1 < e.1 := h2
        rw [hqe] at h5
        omega
      have hc := cof_w (layP pp) (e.1 : Nat) (e.2 - newt (layP pp) (e.1 : Nat) + 97) hall
      have h6 := cg_t (cg_x (cg_m (cofS (layP pp) (e.1 : Nat) (e.2 - newt (layP pp) (e.1 : Nat) + 97))) (cg_r (wP (layP pp) (e.1 : Nat)))) hc
      unfold cgr at h6 ⊢
      omega
    · have hlt : i < n := by omega
      rw [hge i hlt]
      have hmem : ((pp.getD i (0, 0)).1 : Int) ∈ (layP pp).map (fun e => e.1) := by
        rw [hfst, List.getD_eq_getElem?_getD, List.getElem?_eq_getElem (by omega)]
        exact List.mem_map.mpr ⟨_, List.getElem_mem (by omega), rfl⟩
      obtain ⟨d, hdm, hde⟩ := List.mem_map.mp hmem
      have hw0 : wP (layP pp) ((pp.getD i (0, 0)).1 : Nat) = 0 := by
        rw [← hde]
        exact wP_zero _ d hdm
      rw [hw0, Int.mul_zero, Int.add_zero]
      exact ih i hlt
theorem prodD_poly (X : Nat → Int) (a : Nat) : ∀ b, PolyLt (if a < b then b else b + 1) (fun z => prodD X a z b)
  | 0 => by
    rw [if_neg (by omega)]
    exact PolyLt.const 1
  | b + 1 => by
    have ih := prodD_poly X a b
    by_cases hb : b = a
    · rw [if_neg (by omega)] at ih
      rw [if_pos (by omega)]
      refine ih.congr (fun z => ?_)
      rw [prodD, if_pos hb]
      exact cg_r _
    · have h2 := (ih.lin (X b)).congr (g := fun z => prodD X a z (b + 1)) (fun z => by
        rw [prodD, if_neg hb]
        exact cg_r _)
      refine h2.mono ?_
      by_cases hab : a < b
      · rw [if_pos hab, if_pos (by omega)]
        omega
      · rw [if_neg hab, if_neg (by omega)]
        omega
theorem lagS_poly (X Y : Nat → Int) (n : Nat) : ∀ a, a ≤ n → PolyLt n (fun z => lagS X Y z n a)
  | 0, _ => PolyLt.zero n
  | a + 1, h => by
    have h1 := lagS_poly X Y n a (by omega)
    have h2 := prodD_poly X a n
    rw [if_pos (by omega)] at h2
    refine (h1.add (h2.smul (Y a * ivD X a n))).congr (fun z => ?_)
    rw [lagS]
    have e : Y a * prodD X a z n * ivD X a n = Y a * ivD X a n * prodD X a z n := by grind
    rw [e]
    exact cg_r _
theorem prodD_zero (X : Nat → Int) {a i : Nat} (h : i ≠ a) : ∀ n, i < n → prodD X a (X i) n = 0
  | 0, hi => by omega
  | n + 1, hi => by
    rw [prodD]
    by_cases e : n = a
    · rw [if_pos e]
      exact prodD_zero X h n (by omega)
    · rw [if_neg e]
      by_cases e2 : i = n
      · rw [e2, Int.sub_self, Int.mul_zero]
      · rw [prodD_zero X h n (by omega), Int.zero_mul]
theorem prodD_nz (X : Nat → Int) (a : Nat) : ∀ n, (∀ b, b < n → b ≠ a → ¬ cgr (X a - X b) 0) → ¬ cgr (prodD X a (X a) n) 0
  | 0, _ => by
    show ¬ cgr 1 0
    unfold cgr
    decide
  | n + 1, h => by
    have ih := prodD_nz X a n (fun b hb => h b (by omega))
    rw [prodD]
    by_cases e : n = a
    · rw [if_pos e]
      exact ih
    · rw [if_neg e]
      intro q
      rcases cg_prime q with q | q
      · exact ih q
      · exact h n (by omega) e q
theorem ivD_ok (X : Nat → Int) {a n : Nat} (h : ¬ cgr (prodD X a (X a) n) 0) : cgr (prodD X a (X a) n * ivD X a n) 1 := by
  unfold ivD
  have hb := md_bd (prodD X a (X a) n)
  have hnz : ¬ prodD X a (X a) n % 97 = 0 := fun q => h (by unfold cgr; omega)
  have hv := iv_all (prodD X a (X a) n % 97).toNat (by omega) (by omega)
  refine cg_t (cg_x (cg_s (cg_m _)) (cg_r _)) ?_
  have e : prodD X a (X a) n % 97 = ((prodD X a (X a) n % 97).toNat : Int) := by omega
  generalize (prodD X a (X a) n % 97).toNat = u at hv e ⊢
  rw [e, Int.mul_comm]
  unfold cgr
  have := hv.2.2
  omega
theorem lagS_at (X Y : Nat → Int) {n i : Nat} (hi : i < n) (hX : ∀ i j, i < n → j < n → i ≠ j → ¬ cgr (X i - X j) 0) : ∀ a, a ≤ n → cgr (lagS X Y (X i) n a) (if i < a then Y i else 0)
  | 0, _ => by
    rw [if_neg (by omega)]
    exact cg_r _
  | a + 1, h => by
    have ih := lagS_at X Y hi hX a (by omega)
    rw [lagS]
    by_cases e : i = a
    · subst e
      rw [if_neg (by omega)] at ih
      rw [if_pos (by omega)]
      have h1 := ivD_ok X (prodD_nz X i n (fun b hb hne => hX i b hi hb (fun q => hne q.symm)))
      have h2 := cg_x (cg_r (Y i)) h1
      rw [Int.mul_one, ← Int.mul_assoc] at h2
      have h3 := cg_a ih h2
      rw [Int.zero_add] at h3
      exact h3
    · rw [prodD_zero X e n hi, Int.mul_zero, Int.zero_mul, Int.add_zero]
      by_cases h2 : i < a
      · rw [if_pos h2] at ih
        rw [if_pos (by omega)]
        exact ih
      · rw [if_neg h2] at ih
        rw [if_neg (by omega)]
        exact ih
theorem asc_apart {pl : List (Nat × Int)} (hok : rowOk pl) (hasc : ascR pl) : ∀ i j, i < pl.length → j < pl.length → i ≠ j → ¬ cgr (((pl.getD i (0, 0)).1 : Int) - ((pl.getD j (0, 0)).1 : Nat)) 0 := by
  intro i j hi hj hij
  have hb : ∀ q, q < pl.length → 1 ≤ (pl.getD q (0, 0)).1 ∧ (pl.getD q (0, 0)).1 ≤ 9 := fun q hq => by
    rw [List.getD_eq_getElem?_getD, List.getElem?_eq_getElem hq]
    have := hok pl[q] (List.getElem_mem hq)
    exact ⟨this.1, this.2.1⟩
  have h1 := hb i hi
  have h2 := hb j hj
  refine nz_sm ?_ (by omega) (by omega)
  rcases Nat.lt_or_ge i j with h | h
  · have := hasc i j h hj
    omega
  · have := hasc j i (by omega) hi
    omega
/-- Newton's number is Lagrange's -/
theorem newt_lag {pl : List (Nat × Int)} (hok : rowOk pl) (hasc : ascR pl) (z : Int) : newt (layP pl) z = lagV (fun a => ((pl.getD a (0, 0)).1 : Nat)) (fun a => (pl.getD a (0, 0)).2) pl.length z := by
  have hap := asc_apart hok hasc
  have h1 := newt_poly (layP pl)
  rw [layP_len hok] at h1
  have h2 := lagS_poly (fun a => ((pl.getD a (0, 0)).1 : Nat)) (fun a => (pl.getD a (0, 0)).2) pl.length pl.length (Nat.le_refl _)
  have h3 := h1.same h2 (X := fun a => ((pl.getD a (0, 0)).1 : Nat)) hap (fun i hi => by
    have h4 := newt_at pl.length pl rfl hok hasc i hi
    have h5 := lagS_at (fun a => ((pl.getD a (0, 0)).1 : Nat)) (fun a => (pl.getD a (0, 0)).2) hi hap pl.length (Nat.le_refl _)
    rw [if_pos hi] at h5
    exact cg_t h4 (cg_s h5)) z
  have hb := newt_bd (layP pl) z
  unfold lagV
  exact cg_lt h3 hb.1 hb.2
