/-! the reference: in how many ways -/
set_option maxRecDepth 100000 in
theorem pr97 : ∀ a, a < 97 → ∀ b, b < 97 → a * b % 97 = 0 → a = 0 ∨ b = 0 := by decide +kernel
theorem cg_prime {x y : Int} (h : cgr (x * y) 0) : cgr x 0 ∨ cgr y 0 := by
  have hx := md_bd x
  have hy := md_bd y
  have h1 : cgr (x % 97 * (y % 97)) 0 := cg_t (cg_x (cg_m x) (cg_m y)) h
  have h2 : ((x % 97).toNat * (y % 97).toNat) % 97 = 0 := by
    have e : (((x % 97).toNat * (y % 97).toNat : Nat) : Int) = x % 97 * (y % 97) := by rw [Int.natCast_mul, Int.toNat_of_nonneg hx.1, Int.toNat_of_nonneg hy.1]
    unfold cgr at h1
    omega
  rcases pr97 _ (by omega) _ (by omega) h2 with e | e
  · exact Or.inl (by unfold cgr; omega)
  · exact Or.inr (by unfold cgr; omega)
theorem cg_cancel {u x y : Int} (hu : ¬ cgr u 0) (h : cgr (u * x) (u * y)) : cgr x y := by
  have h1 : cgr (u * (x - y)) 0 := by
    have := cg_b h (cg_r (u * y))
    rw [Int.mul_sub]
    unfold cgr at this ⊢
    omega
  rcases cg_prime h1 with h2 | h2
  · exact absurd h2 hu
  · unfold cgr at h2 ⊢
    omega
theorem cg_mul_l {x y : Int} (u : Int) (h : cgr x y) : cgr (u * x) (u * y) := cg_x (cg_r u) h
/-- with one other store: the check at j -/
theorem way1 {o j bit wb l0 iv a P : Int} (hiv : cgr (iv * o) 1) (ha : cgr a ((P - bit) * iv)) (hP : cgr P (wb + l0 * o)) : cgr (o * (bit + a * j)) (o * (wb + l0 * j) + (wb - bit) * (j - o)) := by
  have h1 : cgr (a * o) (P - bit) := by
    refine cg_t (cg_x ha (cg_r o)) ?_
    rw [Int.mul_assoc]
    have := cg_x (cg_r (P - bit)) hiv
    rw [Int.mul_one] at this
    exact this
  have h2 : cgr (o * bit + a * o * j) (o * bit + (wb + l0 * o - bit) * j) := cg_a (cg_r _) (cg_x (cg_t h1 (cg_b hP (cg_r bit))) (cg_r j))
  have e1 : o * (bit + a * j) = o * bit + a * o * j := by grind
  have e2 : o * (wb + l0 * j) + (wb - bit) * (j - o) = o * bit + (wb + l0 * o - bit) * j := by grind
  rw [e1, e2]
  exact h2
theorem way2 {o t j bit wb l0 l1 i1 i2 i3 a a' ot b P1 P2 : Int} (h1 : cgr (i1 * o) 1) (h2 : cgr (i2 * t) 1) (h3 : cgr (i3 * (o - t)) 1) (ha' : cgr a' ((P1 - bit) * i1)) (hot : cgr ot ((P2 - bit) * i2)) (hb : cgr b ((a' - ot) * i3)) (ha : cgr a (a' - b * o)) (hP1 : cgr P1 (wb + l0 * o + l1 * (o * o))) (hP2 : cgr P2 (wb + l0 * t + l1 * (t * t))) :
    cgr ((o - t) * (o * t) * (bit + a * j + b * j * j)) ((o - t) * (o * t) * (wb + l0 * j + l1 * (j * j)) - (o - t) * ((wb - bit) * ((j - o) * (j - t)))) := by
  have k1 : cgr (a' * o) (P1 - bit) := by
    refine cg_t (cg_x ha' (cg_r o)) ?_
    rw [Int.mul_assoc]
    have := cg_x (cg_r (P1 - bit)) h1
    rw [Int.mul_one] at this
    exact this
  have k2 : cgr (ot * t) (P2 - bit) := by
    refine cg_t (cg_x hot (cg_r t)) ?_
    rw [Int.mul_assoc]
    have := cg_x (cg_r (P2 - bit)) h2
    rw [Int.mul_one] at this
    exact this
  have k3 : cgr (b * (o - t)) (a' - ot) := by
    refine cg_t (cg_x hb (cg_r (o - t))) ?_
    rw [Int.mul_assoc]
    have := cg_x (cg_r (a' - ot)) h3
    rw [Int.mul_one] at this
    exact this
  have q1 := cg_b hP1 (cg_r bit)
  have q2 := cg_b hP2 (cg_r bit)
  have k4 : cgr (b * (o - t) * (o * t)) (t * (wb + l0 * o + l1 * (o * o) - bit) - o * (wb + l0 * t + l1 * (t * t) - bit)) := by
    refine cg_t (cg_x k3 (cg_r (o * t))) ?_
    have e : (a' - ot) * (o * t) = t * (a' * o) - o * (ot * t) := by grind
    rw [e]
    exact cg_b (cg_x (cg_r t) (cg_t k1 q1)) (cg_x (cg_r o) (cg_t k2 q2))
  have k5 : cgr ((o - t) * (o * t) * a) ((o - t) * t * (wb + l0 * o + l1 * (o * o) - bit) - (t * (wb + l0 * o + l1 * (o * o) - bit) - o * (wb + l0 * t + l1 * (t * t) - bit)) * o) := by
    refine cg_t (cg_x (cg_r _) ha) ?_
    have e : (o - t) * (o * t) * (a' - b * o) = (o - t) * t * (a' * o) - b * (o - t) * (o * t) * o := by grind
    rw [e]
    exact cg_b (cg_x (cg_r _) (cg_t k1 q1)) (cg_x k4 (cg_r o))
  have e1 : (o - t) * (o * t) * (bit + a * j + b * j * j) = (o - t) * (o * t) * bit + (o - t) * (o * t) * a * j + b * (o - t) * (o * t) * (j * j) := by grind
  have e2 : (o - t) * (o * t) * (wb + l0 * j + l1 * (j * j)) - (o - t) * ((wb - bit) * ((j - o) * (j - t))) = (o - t) * (o * t) * bit + ((o - t) * t * (wb + l0 * o + l1 * (o * o) - bit) - (t * (wb + l0 * o + l1 * (o * o) - bit) - o * (wb + l0 * t + l1 * (t * t) - bit)) * o) * j + (t * (wb + l0 * o + l1 * (o * o) - bit) - o * (wb + l0 * t + l1 * (t * t) - bit)) * (j * j) := by grind
  rw [e1, e2]
  exact cg_a (cg_a (cg_r _) (cg_x k5 (cg_r j))) (cg_x k4 (cg_r (j * j)))
