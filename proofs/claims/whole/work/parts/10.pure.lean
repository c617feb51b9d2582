/-! the numbers behind: sums at a point, lots as polynomials, all modulo 97 -/
def mi (M : Mem) (k j : Nat) : Int := (M k j).toInt
theorem mi_z (M : Mem) (k j : Nat) : zI (mi M k j) = M k j := zI_of _
theorem ld_m (M : Mem) (k : Nat) {q : Nat} (h : q < 2147483648) : M k (zI (q : Int)).toNatClampNeg = zI (mi M k q) := by
  rw [zI_clamp (by omega) (by omega), mi_z]
  rfl
def cgr (a b : Int) : Prop := a % 97 = b % 97
theorem cg_r (a : Int) : cgr a a := rfl
theorem cg_s {a b : Int} (h : cgr a b) : cgr b a := Eq.symm h
theorem cg_t {a b c : Int} (h : cgr a b) (h2 : cgr b c) : cgr a c := Eq.trans h h2
theorem cg_m (a : Int) : cgr (a % 97) a := by unfold cgr; omega
theorem cg_a {a b c d : Int} (h : cgr a b) (h2 : cgr c d) : cgr (a + c) (b + d) := by unfold cgr at *; omega
theorem cg_b {a b c d : Int} (h : cgr a b) (h2 : cgr c d) : cgr (a - c) (b - d) := by unfold cgr at *; omega
theorem cg_x {a b c d : Int} (h : cgr a b) (h2 : cgr c d) : cgr (a * c) (b * d) := by
  unfold cgr at *
  rw [Int.mul_emod, h, h2, ← Int.mul_emod]
theorem cg_e {a b : Int} (h : cgr a b) : a % 97 = b % 97 := h
theorem cg_lt {a b : Int} (h : cgr a b) (h1 : 0 ≤ a) (h2 : a < 97) : a = b % 97 := by unfold cgr at h; omega
theorem md_bd (a : Int) : 0 ≤ a % 97 ∧ a % 97 < 97 := by omega
theorem mul_bd {a b : Int} (h1 : 0 ≤ a) (h2 : a < 97) (h3 : 0 ≤ b) (h4 : b < 200) : 0 ≤ a * b ∧ a * b < 20000 := by
  refine ⟨Int.mul_nonneg h1 h3, ?_⟩
  have := Int.mul_le_mul (show a ≤ 96 by omega) (show b ≤ 199 by omega) h3 (by omega)
  omega
/-- the product over the first k places of what bit k of i picks -/
def prodW (x : Nat → Int) (i : Nat) : Nat → Int
  | 0 => 1
  | k + 1 => prodW x i k * (if (i : Int) / 2 ^ k % 2 = 1 then x k else 1 - x k)
/-- the sum over the first i records -/
def sumW (cp x : Nat → Int) (m : Nat) : Nat → Int
  | 0 => 0
  | i + 1 => sumW cp x m i + cp i * prodW x i m
/-- f 0 j + f 1 j j + .. + f (n - 1) j^n -/
def polS (f : Nat → Int) (j : Int) : Nat → Int
  | 0 => 0
  | n + 1 => polS f j n + f n * j ^ (n + 1)
theorem polS_shift (f : Nat → Int) (j : Int) : ∀ n, polS f j (n + 1) = (f 0 + polS (fun e => f (e + 1)) j n) * j
  | 0 => by simp [polS, Int.pow_succ]
  | n + 1 => by
    rw [polS, polS_shift f j n, polS, Int.pow_succ, ← Int.mul_assoc, ← Int.add_mul, Int.add_assoc]
theorem prodW_ext {x y : Nat → Int} {i : Nat} : ∀ k, (∀ q, q < k → x q = y q) → prodW x i k = prodW y i k
  | 0, _ => rfl
  | k + 1, h => by rw [prodW, prodW, prodW_ext k (fun q hq => h q (by omega)), h k (by omega)]
theorem sumW_ext {c d x y : Nat → Int} {m : Nat} (hx : ∀ q, q < m → x q = y q) : ∀ n, (∀ i, i < n → c i = d i) → sumW c x m n = sumW d y m n
  | 0, _ => rfl
  | n + 1, h => by rw [sumW, sumW, sumW_ext hx n (fun i hi => h i (by omega)), h n (by omega), prodW_ext m hx]
theorem polS_ext {f g : Nat → Int} (j : Int) : ∀ n, (∀ q, q < n → f q = g q) → polS f j n = polS g j n
  | 0, _ => rfl
  | n + 1, h => by rw [polS, polS, polS_ext j n (fun q hq => h q (by omega)), h n (by omega)]
