/-! ints as numbers -/
theorem zI_toInt {a : Int} (h : -2147483648 ≤ a) (h2 : a < 2147483648) : (zI a).toInt = a := Int32.toInt_ofInt_of_le h h2
theorem zI_of (x : Int32) : zI x.toInt = x := Int32.ofInt_toInt x
theorem zI_add (a b : Int) : zI a + zI b = zI (a + b) := (Int32.ofInt_add a b).symm
theorem zI_sub (a b : Int) : zI a - zI b = zI (a - b) := (Int32.ofInt_sub a b).symm
theorem zI_mul (a b : Int) : zI a * zI b = zI (a * b) := (Int32.ofInt_mul a b).symm
theorem zI_zero : (0 : Int32) = zI 0 := rfl
theorem zI_nI (n : Nat) : zI (n : Int) = nI n := Int32.ofInt_eq_ofNat
theorem zI_toNat {a : Int} (h : 0 ≤ a) : zI a = nI a.toNat := by
  rw [← zI_nI, Int.toNat_of_nonneg h]
theorem i_lt {x y : Int32} : x < y ↔ x.toInt < y.toInt := Int32.lt_iff_toInt_lt
theorem i_le {x y : Int32} : x ≤ y ↔ x.toInt ≤ y.toInt := Int32.le_iff_toInt_le
theorem i_eq {x y : Int32} : x = y ↔ x.toInt = y.toInt := Int32.toInt_inj.symm
theorem i_0 : (0 : Int32).toInt = 0 := rfl
theorem i_bd (x : Int32) : -2147483648 ≤ x.toInt ∧ x.toInt < 2147483648 := ⟨x.le_toInt, x.toInt_lt⟩
theorem zI_eqz {a b : Int} (h1 : -2147483648 ≤ a) (h2 : a < 2147483648) (h3 : -2147483648 ≤ b) (h4 : b < 2147483648) : zI a = zI b ↔ a = b := by
  rw [i_eq, zI_toInt h1 h2, zI_toInt h3 h4]
theorem zI_clamp {a : Int} (h : 0 ≤ a) (h2 : a < 2147483648) : (zI a).toNatClampNeg = a.toNat := by
  rw [zI_toNat h, nI_clamp (by omega)]
theorem i_clamp (x : Int32) : x.toNatClampNeg = x.toInt.toNat := rfl
theorem zI_in {a : Int} {n : Nat} (h : 0 ≤ a) (h2 : a < n) (hn : n < 2147483648) : vp_in (zI a) n := vp_in_iff.mpr ⟨by rw [zI_toInt (by omega) (by omega)]; exact h, by rw [zI_toInt (by omega) (by omega)]; exact h2⟩
theorem i_in {x : Int32} {n : Nat} (h : 0 ≤ x.toInt) (h2 : x.toInt < n) : vp_in x n := vp_in_iff.mpr ⟨h, h2⟩
theorem zI_rem {a d : Int} (h1 : -2147483648 ≤ a) (h2 : a < 2147483648) (h3 : 0 < d) (h4 : d < 2147483648) : zI a - zI a / zI d * zI d = zI (a.tmod d) := by
  have e : zI a / zI d = zI (a.tdiv d) := (Int32.ofInt_tdiv (a := a) (b := d) h1 (Int.le_of_lt_add_one h2) (by show (-2147483648 : Int) ≤ d; omega) (Int.le_of_lt_add_one h4)).symm
  rw [e, zI_mul, zI_sub]
  congr 1
  have := Int.tmod_add_tdiv_mul a d
  omega
theorem zI_remN {a d : Int} (h1 : 0 ≤ a) (h2 : a < 2147483648) (h3 : 0 < d) (h4 : d < 2147483648) : zI a - zI a / zI d * zI d = zI (a % d) := by
  rw [zI_rem (by omega) h2 h3 h4, Int.tmod_eq_emod_of_nonneg h1]
theorem zI_div {a d : Int} (h1 : 0 ≤ a) (h2 : a < 2147483648) (h3 : 0 < d) (h4 : d < 2147483648) : zI a / zI d = zI (a / d) := by
  have e : zI a / zI d = zI (a.tdiv d) := (Int32.ofInt_tdiv (a := a) (b := d) (by show (-2147483648 : Int) ≤ a; omega) (Int.le_of_lt_add_one h2) (by show (-2147483648 : Int) ≤ d; omega) (Int.le_of_lt_add_one h4)).symm
  rw [e, Int.tdiv_eq_ediv_of_nonneg h1]
theorem zI_ne0 {d : Int} (h3 : 0 < d) (h4 : d < 2147483648) : ¬ zI d = 0 := by
  rw [zI_zero, zI_eqz (by omega) (by omega) (by omega) (by omega)]
  omega
theorem zI_and31 {k : Nat} (h : k < 32) : zI k &&& 31 = zI k := by
  rw [zI_nI, pk_andN (by omega) 5 (by decide)]
  exact congrArg nI (Nat.mod_eq_of_lt h)
theorem sm_k : ∀ k, k < 32 → ((nI k).toBitVec.smod 32).toNat = k := by decide +kernel
theorem zI_shr {a : Int} {k : Nat} (h : 0 ≤ a) (h2 : a < 2147483648) (hk : k < 32) : zI a >>> (zI k &&& 31) = zI (a / 2 ^ k) := by
  rw [zI_and31 hk, zI_toNat h, zI_nI, pk_shrN (by omega) _ k (sm_k k hk), ← zI_nI]
  congr 1
  rw [Int.natCast_ediv, Int.toNat_of_nonneg h]
  rfl
theorem zI_shl {a : Int} {k : Nat} (h : 0 ≤ a) (hk : k < 32) (h2 : a * 2 ^ k < 2147483648) : zI a <<< (zI k &&& 31) = zI (a * 2 ^ k) := by
  have h3 : a.toNat * 2 ^ k < 2 ^ 32 := by
    have e : ((a.toNat * 2 ^ k : Nat) : Int) = a * 2 ^ k := by
      rw [Int.natCast_mul, Int.toNat_of_nonneg h]
      rfl
    omega
  rw [zI_and31 hk, zI_toNat h, zI_nI, pk_shlN _ k (sm_k k hk) h3, ← zI_nI]
  congr 1
  rw [Int.natCast_mul, Int.toNat_of_nonneg h]
  rfl
theorem zI_and1 {a : Int} (h : 0 ≤ a) (h2 : a < 2147483648) : zI a &&& zI 1 = zI (a % 2) := by
  rw [zI_toNat h, pk_andN (by omega) 1 (by decide), ← zI_nI]
  congr 1
  rw [Int.natCast_emod, Int.toNat_of_nonneg h]
  rfl
def bI (c : Bool) : Int32 := bif c then zI 1 else zI 0
theorem bI_0 {c : Bool} : bI c = 0 ↔ c = false := by cases c <;> decide
theorem bI_n0 {c : Bool} : ¬ bI c = 0 ↔ c = true := by cases c <;> decide
theorem bI_nar (c : Bool) : narrow .boolean (.int (bI c)) = .int (bI c) := by cases c <;> rfl
theorem bI_t {c : Bool} (h : c = true) : bI c = zI 1 := by rw [h]; rfl
theorem bI_f {c : Bool} (h : c = false) : bI c = zI 0 := by rw [h]; rfl
/-- a contract that says just what is returned and what the memory is then -/
def EvF (y : MethodName) (b : ByteArray) (nL : Nat) (ret : Option FieldType) (h : Nat) (avs : List Value) (M : Mem) (v : Option Value) (M' : Mem) : Prop := Ev y b nL ret h avs M (fun r M1 => v = r ∧ M' = M1)
theorem EvF.of {y : MethodName} {b : ByteArray} {nL : Nat} {ret : Option FieldType} {h : Nat} {avs : List Value} {M M' : Mem} {v : Option Value} (hy : plainName y.cls = true) (hn : (lg_sl avs).length ≤ nL) (hG : ∀ Q : Option Value → Mem → Prop, Q v M' → G y.cls b nL ret (gE h Q) 0 (lv_args 0 avs) [] M) : EvF y b nL ret h avs M v M' :=
  Ev.of_G hy hn (hG _ ⟨rfl, rfl⟩)
theorem Ev.of {y : MethodName} {b : ByteArray} {nL : Nat} {ret : Option FieldType} {h : Nat} {avs : List Value} {M : Mem} {Q' : Option Value → Mem → Prop} (hy : plainName y.cls = true) (hn : (lg_sl avs).length ≤ nL) (hG : ∀ Q : Option Value → Mem → Prop, (∀ r M', Q' r M' → Q r M') → G y.cls b nL ret (gE h Q) 0 (lv_args 0 avs) [] M) : Ev y b nL ret h avs M Q' :=
  Ev.of_G hy hn (hG _ (fun _ _ q => q))
theorem n_lt_of {a b : Int} {P : Prop} (h : ¬ zI a ≤ zI b) (h1 : 0 ≤ a) (h2 : a < 2147483648) (h3 : 0 ≤ b) (h4 : b < 2147483648) (hab : a ≤ b) : P := by
  rw [i_le, zI_toInt (by omega) h2, zI_toInt (by omega) h4] at h
  exact absurd hab h
theorem n_le_of {a b : Int} {P : Prop} (h : zI a ≤ zI b) (h1 : 0 ≤ a) (h2 : a < 2147483648) (h3 : 0 ≤ b) (h4 : b < 2147483648) (hab : b < a) : P := by
  rw [i_le, zI_toInt (by omega) h2, zI_toInt (by omega) h4] at h
  exact absurd hab (Int.not_lt.mpr h)
