/-! the reference: its small checks and reckonings -/
theorem gz_X5_88 : Cond.constantLong RX5 88 (zL (3)) ∈ tb := gl_X5_88
theorem gz_X5_61 : Cond.constantLong RX5 61 (zL (96)) ∈ tb := gl_X5_61
theorem gz_X5_51 : Cond.constantLong RX5 51 (zL (9)) ∈ tb := gl_X5_51
theorem gz_X5_103 : Cond.constantLong RX5 103 (zL (2)) ∈ tb := gl_X5_103
theorem gz_X5_105 : Cond.constantLong RX5 105 (zL (1103515245)) ∈ tb := gl_X5_105
theorem gz_X5_107 : Cond.constantLong RX5 107 (zL (12345)) ∈ tb := gl_X5_107
theorem gz_X5_109 : Cond.constantLong RX5 109 (zL (2147483648)) ∈ tb := gl_X5_109
theorem gz_X5_111 : Cond.constantLong RX5 111 (zL (256)) ∈ tb := gl_X5_111
theorem gz_X5_113 : Cond.constantLong RX5 113 (zL (97)) ∈ tb := gl_X5_113
theorem gz_X5_129 : Cond.constantLong RX5 129 (zL (4)) ∈ tb := gl_X5_129
theorem gz_X5_166 : Cond.constantLong RX5 166 (zL (-3)) ∈ tb := gl_X5_166
theorem gz_X5_160 : Cond.constantLong RX5 160 (zL (1022)) ∈ tb := gl_X5_160
theorem gz_X5_171 : Cond.constantLong RX5 171 (zL (-2)) ∈ tb := gl_X5_171
theorem gz_X5_173 : Cond.constantLong RX5 173 (zL (-1)) ∈ tb := gl_X5_173
theorem lgc_n {a b : Int} (h1 : -10000000000 ≤ a) (h2 : a < 10000000000) (h3 : -10000000000 ≤ b) (h4 : b < 10000000000) : (lg_cmp (zL a) (zL b) < 0 ↔ a < b) ∧ (0 < lg_cmp (zL a) (zL b) ↔ b < a) := by
  have hlt : zL b < zL a ↔ b < a := by rw [Int64.lt_iff_toInt_lt, zL_toInt (by omega) (by omega), zL_toInt (by omega) (by omega)]
  have heq : zL a = zL b ↔ a = b := by rw [← Int64.toInt_inj, zL_toInt (by omega) (by omega), zL_toInt (by omega) (by omega)]
  unfold lg_cmp
  by_cases c1 : b < a
  · rw [if_pos (hlt.mpr c1)]
    exact ⟨⟨fun q => absurd q (by decide), fun q => by omega⟩, fun _ => c1, fun _ => by decide⟩
  · rw [if_neg (fun q => c1 (hlt.mp q))]
    by_cases c2 : a = b
    · rw [if_pos (heq.mpr c2)]
      exact ⟨⟨fun q => absurd q (by decide), fun q => by omega⟩, fun q => absurd q (by decide), fun q => absurd q c1⟩
    · rw [if_neg (fun q => c2 (heq.mp q))]
      exact ⟨⟨fun q => by omega, fun q => by decide⟩, fun q => absurd q (by decide), fun q => absurd q c1⟩
theorem ev_X5_in {v lo hi : Int} (h1 : -10000000000 ≤ v) (h2 : v < 10000000000) (h3 : -10000000000 ≤ lo) (h4 : lo < 10000000000) (h5 : -10000000000 ≤ hi) (h6 : hi < 10000000000) (M : Mem) : EvF yX5_in cX5_in 6 (some .boolean) 0 [.long (zL v), .long (zL lo), .long (zL hi)] M (some (.int (bI (decide (lo ≤ v ∧ v ≤ hi))))) M := by
  refine EvF.of (by decide +kernel) (Nat.le_of_ble_eq_true rfl) (fun Q hQ => ?_)
  have e1 := lgc_n h1 h2 h3 h4
  have e2 := lgc_n h1 h2 h5 h6
  refine g_lload_n rfl dX5_in_0 ?_
  refine g_lload_n rfl dX5_in_1 ?_
  refine g_lcmp dX5_in_2 ?_
  refine g_if_lt (tgt := 17) dX5_in_3 (by decide) (fun c3 => ?_) (fun c3 => ?_)
  · refine g_iconst dX5_in_17 ?_
    refine g_zreturn rfl rfl dX5_in_18 ?_
    rw [e1.1] at c3
    rw [bI_f (decide_eq_false (by omega))] at hQ
    exact hQ
  · refine g_lload_n rfl dX5_in_6 ?_
    refine g_lload rfl dX5_in_7 ?_
    refine g_lcmp dX5_in_9 ?_
    refine g_if_gt (tgt := 17) dX5_in_10 (by decide) (fun c10 => ?_) (fun c10 => ?_)
    · refine g_iconst dX5_in_17 ?_
      refine g_zreturn rfl rfl dX5_in_18 ?_
      rw [e2.2] at c10
      rw [bI_f (decide_eq_false (by omega))] at hQ
      exact hQ
    · refine g_iconst dX5_in_13 ?_
      refine g_goto (tgt := 18) dX5_in_14 (by decide) ?_
      refine g_zreturn rfl rfl dX5_in_18 ?_
      rw [e1.1] at c3
      rw [e2.2] at c10
      rw [bI_t (decide_eq_true (by omega))] at hQ
      exact hQ
theorem ev_X5_mod {z : Int} (h1 : -2147483648 ≤ z) (h2 : z < 2147483648) (M : Mem) : EvF yX5_mod cX5_mod 2 (some .int) 0 [.int (zI z)] M (some (.int (zI (z % 97)))) M := by
  refine EvF.of (by decide +kernel) (Nat.le_of_ble_eq_true rfl) (fun Q hQ => ?_)
  have ht : z.tmod 97 = z % 97 ∧ (0 ≤ z ∨ z % 97 = 0) ∨ z.tmod 97 = z % 97 - 97 ∧ 0 < z % 97 := by
    rcases Int.le_total 0 z with h | h
    · exact Or.inl ⟨Int.tmod_eq_emod_of_nonneg h, Or.inl h⟩
    · have e : z.tmod 97 = -((-z).tmod 97) := by rw [Int.neg_tmod, Int.neg_neg]
      rw [e, Int.tmod_eq_emod_of_nonneg (by omega)]
      omega
  have hb : -97 < z.tmod 97 ∧ z.tmod 97 < 97 := by
    rcases ht with e | e <;> omega
  refine g_iload_n rfl dX5_mod_0 ?_
  refine g_bipush (by decide) dX5_mod_1 ?_
  refine g_irem (by decide) dX5_mod_3 ?_
  rw [zI_rem h1 h2 (by decide) (by decide)]
  refine g_istore_n (L2 := [(0, _), (1, _)]) (by decide) rfl dX5_mod_4 ?_
  refine g_iload_n rfl dX5_mod_5 ?_
  refine g_if_ge (tgt := 16) dX5_mod_6 (by decide) (fun c6 => ?_) (fun c6 => ?_)
  · refine g_iload_n rfl dX5_mod_16 ?_
    refine g_ireturn rfl dX5_mod_17 ?_
    simp (disch := omega) only [i_le, zI_toInt, i_0] at c6
    rw [show z.tmod 97 = z % 97 by omega]
    exact hQ
  · refine g_iload_n rfl dX5_mod_9 ?_
    refine g_bipush (by decide) dX5_mod_10 ?_
    refine g_iadd dX5_mod_12 ?_
    refine g_goto (tgt := 17) dX5_mod_13 (by decide) ?_
    refine g_ireturn rfl dX5_mod_17 ?_
    simp (disch := omega) only [i_le, zI_toInt, i_0] at c6
    rw [zI_add, show z.tmod 97 + 97 = z % 97 by omega]
    exact hQ
/-- the least inverse -/
def ivS (v : Nat) : Nat := (fstF (fun r => decide (r * v % 97 = 1)) 96 1).getD 0
theorem iv_all : ∀ v, v < 97 → 1 ≤ v → 1 ≤ ivS v ∧ ivS v < 97 ∧ ivS v * v % 97 = 1 := by decide +kernel
theorem iv_is : ∀ v, v < 97 → 1 ≤ v → (fstF (fun r => decide (r * v % 97 = 1)) 96 1).isSome = true := by decide +kernel
theorem ev_X5_inverse {v : Nat} (h1 : 1 ≤ v) (h2 : v < 97) (M : Mem) : EvF yX5_inverse cX5_inverse 2 (some .int) 0 [.int (zI v)] M (some (.int (zI (ivS v : Nat)))) M := by
  refine EvF.of (by decide +kernel) (Nat.le_of_ble_eq_true rfl) (fun Q hQ => ?_)
  have loop : ∀ (d r : Nat), d + r = 97 → (fstF (fun r => decide (r * v % 97 = 1)) d r).isSome = true → Q (some (.int (zI ((fstF (fun r => decide (r * v % 97 = 1)) d r).getD 0 : Nat)))) M → G yX5_inverse.cls cX5_inverse 2 (some .int) (gE 0 Q) 2 [(0, .int (zI v)), (1, .int (zI r))] [] M := by
    intro d
    induction d with
    | zero =>
      intro r hr hs
      cases hs
    | succ d ih =>
      intro r hr hs hQ
      have hb := Nat.mul_le_mul (show r ≤ 97 by omega) (show v ≤ 97 by omega)
      rw [fstF] at hs hQ
      refine g_iload_n rfl dX5_inverse_2 ?_
      refine g_iload_n rfl dX5_inverse_3 ?_
      refine g_imul dX5_inverse_4 ?_
      refine g_bipush (by decide) dX5_inverse_5 ?_
      refine g_irem (by decide) dX5_inverse_7 ?_
      rw [zI_mul, ← Int.natCast_mul, zI_remN (by omega) (by omega) (by decide) (by decide)]
      refine g_iconst dX5_inverse_8 ?_
      refine g_icmp_eq (tgt := 18) dX5_inverse_9 (by decide) (fun c9 => ?_) (fun c9 => ?_)
      · refine g_iload_n rfl dX5_inverse_18 ?_
        refine g_ireturn rfl dX5_inverse_19 ?_
        rw [zI_eqz (by omega) (by omega) (by decide) (by decide)] at c9
        rw [if_pos (by simp; omega)] at hQ
        exact hQ
      · refine g_iinc (L2 := [(0, _), (1, _)]) rfl (by decide) rfl dX5_inverse_12 ?_
        refine g_goto (tgt := 2) dX5_inverse_15 (by decide) ?_
        rw [zI_eqz (by omega) (by omega) (by decide) (by decide)] at c9
        rw [if_neg (by simp; omega)] at hQ hs
        rw [zI_add]
        exact ih (r + 1) (by omega) hs hQ
  refine g_iconst dX5_inverse_0 ?_
  refine g_istore_n (L2 := [(0, _), (1, _)]) (by decide) rfl dX5_inverse_1 ?_
  exact loop 96 1 (by omega) (iv_is v h2 h1) hQ
theorem ev_X5_size {M : Mem} {m : Nat} (h1 : 1 ≤ m) (h2 : m ≤ 3) (hm : M 31 1 = zI m) : EvF yX5_size cX5_size 1 (some .int) 0 [.ref 31] M (some (.int (zI (2 ^ m)))) M := by
  refine EvF.of (by decide +kernel) (Nat.le_of_ble_eq_true rfl) (fun Q hQ => ?_)
  have h3 : (1 : Int) * 2 ^ m < 2147483648 := by
    rcases (by omega : m = 1 ∨ m = 2 ∨ m = 3) with rfl | rfl | rfl <;> decide
  refine g_iconst dX5_size_0 ?_
  refine g_aload_n rfl dX5_size_1 ?_
  refine gf_X5_7 (by decide) rfl dX5_size_2 ?_
  refine g_ishl dX5_size_5 ?_
  refine g_ireturn rfl dX5_size_6 ?_
  rw [hm, zI_shl (by decide) (by omega) h3, Int.one_mul]
  exact hQ
theorem ev_X5_degree {M : Mem} {m t : Int} (hm : M 31 1 = zI m) (ht : M 31 8 = zI t) : EvF yX5_degree cX5_degree 1 (some .int) 0 [.ref 31] M (some (.int (zI (m * t)))) M := by
  refine EvF.of (by decide +kernel) (Nat.le_of_ble_eq_true rfl) (fun Q hQ => ?_)
  refine g_aload_n rfl dX5_degree_0 ?_
  refine gf_X5_7 (by decide) rfl dX5_degree_1 ?_
  refine g_aload_n rfl dX5_degree_4 ?_
  refine gf_X5_48 (by decide) rfl dX5_degree_5 ?_
  refine g_imul dX5_degree_8 ?_
  refine g_ireturn rfl dX5_degree_9 ?_
  rw [hm, ht, zI_mul]
  exact hQ
theorem ev_X5_isStore (j : Int32) (M : Mem) : EvF yX5_isStore cX5_isStore 1 (some .boolean) 1 [.int j] M (some (.int (bI (decide (okS j))))) M := by
  refine EvF.of (by decide +kernel) (Nat.le_of_ble_eq_true rfl) (fun Q hQ => ?_)
  have hj := i_bd j
  have ej : j.toInt64 = zL j.toInt := by rw [← zI_l hj.1 hj.2, zI_of]
  refine g_iload_n rfl dX5_isStore_0 ?_
  refine g_i2l dX5_isStore_1 ?_
  rw [ej]
  refine g_lconst (v := zL 1) (by decide) dX5_isStore_2 ?_
  refine g_ldc2 gz_X5_51 dX5_isStore_3 ?_
  refine gi_X5_53 (ev_X5_in (v := j.toInt) (lo := 1) (hi := 9) (by omega) (by omega) (by decide) (by decide) (by decide) (by decide) M) rfl rfl ⟨Nat.le_of_ble_eq_true rfl, Nat.le_of_ble_eq_true rfl, Nat.le_of_ble_eq_true rfl, Nat.le_of_ble_eq_true rfl⟩ (Nat.le_of_ble_eq_true rfl) dX5_isStore_6 (fun r6 M6 hq6 => ?_)
  obtain ⟨rfl, rfl⟩ := hq6
  refine g_zreturn rfl (bI_nar _) dX5_isStore_9 ?_
  exact hQ
theorem ev_X5_isNumber (j : Int32) (M : Mem) : EvF yX5_isNumber cX5_isNumber 1 (some .boolean) 1 [.int j] M (some (.int (bI (decide (okN j))))) M := by
  refine EvF.of (by decide +kernel) (Nat.le_of_ble_eq_true rfl) (fun Q hQ => ?_)
  have hj := i_bd j
  have ej : j.toInt64 = zL j.toInt := by rw [← zI_l hj.1 hj.2, zI_of]
  have e : decide (0 ≤ j.toInt ∧ j.toInt ≤ 96) = decide (okN j) := decide_eq_decide.mpr ⟨fun q => ⟨q.1, by omega⟩, fun q => ⟨q.1, by omega⟩⟩
  refine g_iload_n rfl dX5_isNumber_0 ?_
  refine g_i2l dX5_isNumber_1 ?_
  rw [ej]
  refine g_lconst (v := zL 0) (by decide) dX5_isNumber_2 ?_
  refine g_ldc2 gz_X5_61 dX5_isNumber_3 ?_
  refine gi_X5_53 (ev_X5_in (v := j.toInt) (lo := 0) (hi := 96) (by omega) (by omega) (by decide) (by decide) (by decide) (by decide) M) rfl rfl ⟨Nat.le_of_ble_eq_true rfl, Nat.le_of_ble_eq_true rfl, Nat.le_of_ble_eq_true rfl, Nat.le_of_ble_eq_true rfl⟩ (Nat.le_of_ble_eq_true rfl) dX5_isNumber_6 (fun r6 M6 hq6 => ?_)
  obtain ⟨rfl, rfl⟩ := hq6
  refine g_zreturn rfl (bI_nar _) dX5_isNumber_9 ?_
  rw [e]
  exact hQ
theorem ev_X5_isRecord {M : Mem} (hw : WX M) (hm : M 31 1 = zI (xm M)) (i : Int32) : EvF yX5_isRecord cX5_isRecord 2 (some .boolean) 1 [.ref 31, .int i] M (some (.int (bI (decide (okR M i))))) M := by
  refine EvF.of (by decide +kernel) (Nat.le_of_ble_eq_true rfl) (fun Q hQ => ?_)
  have hj := i_bd i
  have ej : i.toInt64 = zL i.toInt := by rw [← zI_l hj.1 hj.2, zI_of]
  obtain ⟨hm1, hm2, -, -⟩ := hw.m
  have h8 := p2_8 hm1 hm2
  have hz := p2_z (xm M)
  have e : decide (0 ≤ i.toInt ∧ i.toInt ≤ 2 ^ xm M - 1) = decide (okR M i) := decide_eq_decide.mpr ⟨fun q => ⟨q.1, by omega⟩, fun q => ⟨q.1, by omega⟩⟩
  refine g_iload_n rfl dX5_isRecord_0 ?_
  refine g_i2l dX5_isRecord_1 ?_
  rw [ej]
  refine g_lconst (v := zL 0) (by decide) dX5_isRecord_2 ?_
  refine g_aload_n rfl dX5_isRecord_3 ?_
  refine gi_X5_57 (by decide) rfl (ev_X5_size hm1 hm2 hm) rfl rfl ⟨Nat.le_of_ble_eq_true rfl, Nat.le_of_ble_eq_true rfl, Nat.le_of_ble_eq_true rfl, Nat.le_of_ble_eq_true rfl⟩ (Nat.le_of_ble_eq_true rfl) dX5_isRecord_4 (fun r4 M4 hq4 => ?_)
  obtain ⟨rfl, rfl⟩ := hq4
  refine g_iconst dX5_isRecord_7 ?_
  refine g_isub dX5_isRecord_8 ?_
  refine g_i2l dX5_isRecord_9 ?_
  rw [zI_sub, zI_l (by omega) (by omega)]
  refine gi_X5_53 (ev_X5_in (v := i.toInt) (lo := 0) (hi := 2 ^ xm M - 1) (by omega) (by omega) (by decide) (by decide) (by omega) (by omega) M) rfl rfl ⟨Nat.le_of_ble_eq_true rfl, Nat.le_of_ble_eq_true rfl, Nat.le_of_ble_eq_true rfl, Nat.le_of_ble_eq_true rfl⟩ (Nat.le_of_ble_eq_true rfl) dX5_isRecord_10 (fun r10 M10 hq10 => ?_)
  obtain ⟨rfl, rfl⟩ := hq10
  refine g_zreturn rfl (bI_nar _) dX5_isRecord_13 ?_
  rw [e]
  exact hQ
theorem ev_X5_next {z : Int} (h : 0 ≤ z) (h2 : z < 2147483648) (M : Mem) : EvF yX5_next cX5_next 2 (some .long) 0 [.long (zL z)] M (some (.long (zL (lcg z)))) M := by
  refine EvF.of (by decide +kernel) (Nat.le_of_ble_eq_true rfl) (fun Q hQ => ?_)
  rw [← zL_lcg h h2] at hQ
  refine g_ldc2 gz_X5_105 dX5_next_0 ?_
  refine g_lload_n rfl dX5_next_3 ?_
  refine g_lmul dX5_next_4 ?_
  refine g_ldc2 gz_X5_107 dX5_next_5 ?_
  refine g_ladd dX5_next_8 ?_
  refine g_ldc2 gz_X5_109 dX5_next_9 ?_
  refine g_lrem (by decide) dX5_next_12 ?_
  refine g_lreturn rfl dX5_next_13 ?_
  exact hQ
theorem ev_X5_lotOf {z : Int} (h : 0 ≤ z) (h2 : z < 2147483648) (M : Mem) : EvF yX5_lotOf cX5_lotOf 2 (some .int) 0 [.long (zL z)] M (some (.int (zI (z / 256 % 97)))) M := by
  refine EvF.of (by decide +kernel) (Nat.le_of_ble_eq_true rfl) (fun Q hQ => ?_)
  rw [← zL_lot h h2] at hQ
  refine g_lload_n rfl dX5_lotOf_0 ?_
  refine g_ldc2 gz_X5_111 dX5_lotOf_1 ?_
  refine g_ldiv (by decide) dX5_lotOf_4 ?_
  refine g_ldc2 gz_X5_113 dX5_lotOf_5 ?_
  refine g_lrem (by decide) dX5_lotOf_8 ?_
  refine g_l2i dX5_lotOf_9 ?_
  refine g_ireturn rfl dX5_lotOf_10 ?_
  exact hQ
theorem ev_X5_isSet (s : Int32) (M : Mem) : EvF yX5_isSet cX5_isSet 1 (some .boolean) 1 [.int s] M (some (.int (bI (decide (2 ≤ s.toInt ∧ s.toInt ≤ 1022 ∧ s.toInt % 2 = 0))))) M := by
  refine EvF.of (by decide +kernel) (Nat.le_of_ble_eq_true rfl) (fun Q hQ => ?_)
  have hj := i_bd s
  have ej : s.toInt64 = zL s.toInt := by rw [← zI_l hj.1 hj.2, zI_of]
  refine g_iload_n rfl dX5_isSet_0 ?_
  refine g_i2l dX5_isSet_1 ?_
  rw [ej]
  refine g_ldc2 gz_X5_103 dX5_isSet_2 ?_
  refine g_ldc2 gz_X5_160 dX5_isSet_5 ?_
  refine gi_X5_53 (ev_X5_in (v := s.toInt) (lo := 2) (hi := 1022) (by omega) (by omega) (by decide) (by decide) (by decide) (by decide) M) rfl rfl ⟨Nat.le_of_ble_eq_true rfl, Nat.le_of_ble_eq_true rfl, Nat.le_of_ble_eq_true rfl, Nat.le_of_ble_eq_true rfl⟩ (Nat.le_of_ble_eq_true rfl) dX5_isSet_8 (fun r8 M8 hq8 => ?_)
  obtain ⟨rfl, rfl⟩ := hq8
  refine g_if_eq (tgt := 24) dX5_isSet_11 (by decide) (fun c11 => ?_) (fun c11 => ?_)
  · refine g_iconst dX5_isSet_24 ?_
    refine g_zreturn rfl rfl dX5_isSet_25 ?_
    rw [bI_d0] at c11
    rw [bI_f (decide_eq_false (by omega))] at hQ
    exact hQ
  · rw [bI_dn] at c11
    refine g_iload_n rfl dX5_isSet_14 ?_
    refine g_iconst dX5_isSet_15 ?_
    refine g_iand dX5_isSet_16 ?_
    rw [← zI_of s, zI_and1 (by omega) (by omega)]
    refine g_if_ne (tgt := 24) dX5_isSet_17 (by decide) (fun c17 => ?_) (fun c17 => ?_)
    · refine g_iconst dX5_isSet_24 ?_
      refine g_zreturn rfl rfl dX5_isSet_25 ?_
      rw [zI_zero, zI_eqz (by omega) (by omega) (by decide) (by decide)] at c17
      rw [bI_f (decide_eq_false (by omega))] at hQ
      exact hQ
    · refine g_iconst dX5_isSet_20 ?_
      refine g_goto (tgt := 25) dX5_isSet_21 (by decide) ?_
      refine g_zreturn rfl rfl dX5_isSet_25 ?_
      rw [zI_zero, zI_eqz (by omega) (by omega) (by decide) (by decide)] at c17
      rw [bI_t (decide_eq_true (by omega))] at hQ
      exact hQ
theorem ev_X5_isSum {M : Mem} (hw : WX M) (hm : M 31 1 = zI (xm M)) (s : Int32) : EvF yX5_isSum cX5_isSum 2 (some .boolean) 1 [.ref 31, .int s] M (some (.int (bI (decide (okB M s))))) M := by
  refine EvF.of (by decide +kernel) (Nat.le_of_ble_eq_true rfl) (fun Q hQ => ?_)
  have hj := i_bd s
  obtain ⟨hm1, hm2, -, -⟩ := hw.m
  have h8 := p2_8 hm1 hm2
  have hz := p2_z (xm M)
  have h2 : ∀ a : Int, 0 ≤ a → a < 2147483648 → (a / 2 ^ (2 ^ xm M) = 0 ↔ a < 2 ^ (2 ^ xm M)) ∧ 0 ≤ a / 2 ^ (2 ^ xm M) ∧ a / 2 ^ (2 ^ xm M) ≤ a := by
    rcases (by omega : xm M = 1 ∨ xm M = 2 ∨ xm M = 3) with e | e | e <;> rw [e] <;> intro a h1 h2 <;> simp <;> omega
  refine g_iload_n rfl dX5_isSum_0 ?_
  refine g_if_lt (tgt := 17) dX5_isSum_1 (by decide) (fun c1 => ?_) (fun c1 => ?_)
  · refine g_iconst dX5_isSum_17 ?_
    refine g_zreturn rfl rfl dX5_isSum_18 ?_
    simp (disch := omega) only [i_lt, zI_toInt, i_0] at c1
    rw [bI_f (decide_eq_false (fun q => by have := q.1; omega))] at hQ
    exact hQ
  · simp (disch := omega) only [i_lt, zI_toInt, i_0] at c1
    have h3 := h2 s.toInt (by omega) hj.2
    refine g_iload_n rfl dX5_isSum_4 ?_
    refine g_aload_n rfl dX5_isSum_5 ?_
    refine gi_X5_57 (by decide) rfl (ev_X5_size hm1 hm2 hm) rfl rfl ⟨Nat.le_of_ble_eq_true rfl, Nat.le_of_ble_eq_true rfl, Nat.le_of_ble_eq_true rfl, Nat.le_of_ble_eq_true rfl⟩ (Nat.le_of_ble_eq_true rfl) dX5_isSum_6 (fun r6 M6 hq6 => ?_)
    obtain ⟨rfl, rfl⟩ := hq6
    refine g_ishr dX5_isSum_9 ?_
    rw [← zI_of s, hz, zI_shr (by omega) (by omega) (by omega), zI_of]
    refine g_if_ne (tgt := 17) dX5_isSum_10 (by decide) (fun c10 => ?_) (fun c10 => ?_)
    · refine g_iconst dX5_isSum_17 ?_
      refine g_zreturn rfl rfl dX5_isSum_18 ?_
      rw [zI_zero, zI_eqz (by omega) (by omega) (by decide) (by decide)] at c10
      rw [bI_f (decide_eq_false (fun q => c10 (h3.1.mpr q.2)))] at hQ
      exact hQ
    · refine g_iconst dX5_isSum_13 ?_
      refine g_goto (tgt := 18) dX5_isSum_14 (by decide) ?_
      refine g_zreturn rfl rfl dX5_isSum_18 ?_
      rw [zI_zero, zI_eqz (by omega) (by omega) (by decide) (by decide)] at c10
      rw [bI_t (decide_eq_true ⟨by omega, h3.1.mp c10⟩)] at hQ
      exact hQ
