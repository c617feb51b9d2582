/-! stores: store j is the cell 3 + j, what it keeps is the cell 12 + j -/
theorem rf3 : ∀ j, j < 10 → 1 ≤ j → rf 3 (j - 1) = some (3 + j) := by decide +kernel
theorem shS : ∀ j, j < 10 → 1 ≤ j → shK (3 + j) = 3 := by decide +kernel
theorem rfS : ∀ j, j < 10 → 1 ≤ j → rf (3 + j) 0 = some (12 + j) := by decide +kernel
theorem shSK : ∀ j, j < 10 → 1 ≤ j → shK (12 + j) = 6 := by decide +kernel
theorem shSN : ∀ j, j < 10 → 1 ≤ j → shN (12 + j) = 8 := by decide +kernel
theorem eqz_mi {M : Mem} {a b : Nat} {c : Int} (h1 : -2147483648 ≤ c) (h2 : c < 2147483648) : M a b = zI c ↔ mi M a b = c := by
  rw [i_eq, zI_toInt h1 h2]
  exact Iff.rfl
/-- the cell that a store's copy is -/
def hc (M : Mem) (j : Nat) : Nat := if mi M (3 + j) 1 = 2 then 12 + j else 1
theorem hc_lt (M : Mem) {j : Nat} (h : j < 10) : hc M j < 42 := by unfold hc; split <;> omega
theorem hc_sh (M : Mem) {j : Nat} (h : j < 10) (h1 : 1 ≤ j) : shK (hc M j) = 6 := by
  unfold hc
  split
  · exact shSK j h h1
  · rfl
theorem hc_n (M : Mem) {j : Nat} (h : j < 10) (h1 : 1 ≤ j) : shN (hc M j) = 8 := by
  unfold hc
  split
  · exact shSN j h h1
  · rfl
/-- how many of 1 .. s have p -/
def cnt (p : Nat → Bool) : Nat → Nat
  | 0 => 0
  | s + 1 => cnt p s + (if p (s + 1) = true then 1 else 0)
theorem cnt_le (p : Nat → Bool) : ∀ s, cnt p s ≤ s
  | 0 => Nat.le_refl _
  | s + 1 => by
    have := cnt_le p s
    unfold cnt
    split <;> omega
theorem cnt_ext {p q : Nat → Bool} : ∀ s, (∀ j, 1 ≤ j → j ≤ s → p j = q j) → cnt p s = cnt q s
  | 0, _ => rfl
  | s + 1, h => by rw [cnt, cnt, cnt_ext s (fun j h1 h2 => h j h1 (by omega)), h (s + 1) (by omega) (by omega)]
/-! longs as numbers -/
def zL (z : Int) : Int64 := Int64.ofInt z
theorem zL_add (a b : Int) : zL a + zL b = zL (a + b) := (Int64.ofInt_add a b).symm
theorem zL_mul (a b : Int) : zL a * zL b = zL (a * b) := (Int64.ofInt_mul a b).symm
theorem zL_sub (a b : Int) : zL a - zL b = zL (a - b) := (Int64.ofInt_sub a b).symm
theorem zL_toInt {a : Int} (h : -9223372036854775808 ≤ a) (h2 : a < 9223372036854775808) : (zL a).toInt = a := Int64.toInt_ofInt_of_le h h2
theorem zL_div {a d : Int} (h1 : 0 ≤ a) (h2 : a < 9223372036854775808) (h3 : 0 < d) (h4 : d < 9223372036854775808) : zL a / zL d = zL (a / d) := by
  have e : zL a / zL d = zL (a.tdiv d) := (Int64.ofInt_tdiv (a := a) (b := d) (by show (-9223372036854775808 : Int) ≤ a; omega) (Int.le_of_lt_add_one h2) (by show (-9223372036854775808 : Int) ≤ d; omega) (Int.le_of_lt_add_one h4)).symm
  rw [e, Int.tdiv_eq_ediv_of_nonneg h1]
theorem zL_rem {a d : Int} (h1 : 0 ≤ a) (h2 : a < 9223372036854775808) (h3 : 0 < d) (h4 : d < 9223372036854775808) : zL a - zL a / zL d * zL d = zL (a % d) := by
  rw [zL_div h1 h2 h3 h4, zL_mul, zL_sub]
  congr 1
  have := Int.emod_add_ediv_mul a d
  omega
theorem zI_l {a : Int} (h : -2147483648 ≤ a) (h2 : a < 2147483648) : (zI a).toInt64 = zL a := by
  apply Int64.toInt_inj.mp
  rw [Int32.toInt_toInt64, zI_toInt h h2, zL_toInt (by omega) (by omega)]
theorem zL_i (a : Int) : (zL a).toInt32 = zI a := by
  apply Int32.toInt_inj.mp
  unfold zL zI
  rw [Int64.toInt_toInt32, Int64.toInt_ofInt, Int32.toInt_ofInt]
  exact Int.bmod_bmod_of_dvd (by decide)
/-! memory filled from place 0 on -/
def mfill (M : Mem) (k n : Nat) (f : Nat → Int32) : Mem := fun a b => if a = k ∧ b < n then f b else M a b
theorem mfill_0 (M : Mem) (k : Nat) (f : Nat → Int32) : mfill M k 0 f = M := by
  funext a b
  simp [mfill]
theorem mfill_s (M : Mem) (k n : Nat) (f : Nat → Int32) : mset (mfill M k n f) k n (f n) = mfill M k (n + 1) f := by
  funext a b
  unfold mset mfill
  by_cases ha : a = k
  · subst ha
    by_cases hb : b = n
    · subst hb
      rw [if_pos rfl, if_pos rfl, if_pos ⟨rfl, by omega⟩]
    · rw [if_pos rfl, if_neg hb]
      by_cases h : b < n
      · rw [if_pos ⟨rfl, h⟩, if_pos ⟨rfl, by omega⟩]
      · rw [if_neg (fun q => h q.2), if_neg (fun q => h (by omega))]
  · rw [if_neg ha, if_neg (fun q => ha q.1), if_neg (fun q => ha q.1)]
theorem mfill_in (M : Mem) {k n b : Nat} (f : Nat → Int32) (h : b < n) : mfill M k n f k b = f b := by
  unfold mfill
  rw [if_pos ⟨rfl, h⟩]
theorem mfill_ne (M : Mem) {k n a : Nat} (f : Nat → Int32) (h : a ≠ k) : mfill M k n f a = M a := by
  funext b
  unfold mfill
  rw [if_neg (fun q => h q.1)]
theorem mfill_ex (M : Mem) {k n : Nat} {f g : Nat → Int32} (h : ∀ q, q < n → f q = g q) : mfill M k n f = mfill M k n g := by
  funext a b
  unfold mfill
  by_cases hq : a = k ∧ b < n
  · rw [if_pos hq, if_pos hq, h b hq.2]
  · rw [if_neg hq, if_neg hq]
/-! the lots that a seed draws -/
def lcg (z : Int) : Int := (1103515245 * z + 12345) % 2147483648
def lcgs (s : Int) : Nat → Int
  | 0 => s
  | n + 1 => lcg (lcgs s n)
def lotS (s : Int) (q : Nat) : Int := lcgs s (q + 1) / 256 % 97
theorem lcgs_bd {s : Int} (h : 0 ≤ s) (h2 : s < 2147483648) : ∀ n, 0 ≤ lcgs s n ∧ lcgs s n < 2147483648
  | 0 => ⟨h, h2⟩
  | n + 1 => by
    unfold lcgs lcg
    omega
theorem lotS_bd (s : Int) (q : Nat) : 0 ≤ lotS s q ∧ lotS s q < 97 := md_bd _
theorem zL_lcg {z : Int} (h : 0 ≤ z) (h2 : z < 2147483648) : zL 1103515245 * zL z + zL 12345 - (zL 1103515245 * zL z + zL 12345) / zL 2147483648 * zL 2147483648 = zL (lcg z) := by
  rw [zL_mul, zL_add, zL_rem (by omega) (by omega) (by decide) (by decide)]
  rfl
theorem zL_lot {z : Int} (h : 0 ≤ z) (h2 : z < 2147483648) : (zL z / zL 256 - zL z / zL 256 / zL 97 * zL 97).toInt32 = zI (z / 256 % 97) := by
  rw [zL_div h (by omega) (by decide) (by decide), zL_rem (by omega) (by omega) (by decide) (by decide), zL_i]
