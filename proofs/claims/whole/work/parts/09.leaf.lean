/-! class SilentAsking: the small checks -/
theorem ev_X4_isStore (j : Int32) (M : Mem) : EvF yX4_isStore cX4_isStore 1 (some .boolean) 0 [.int j] M (some (.int (bI (decide (1 ≤ j.toInt ∧ j.toInt ≤ 9))))) M := by
  refine EvF.of (by decide +kernel) (Nat.le_of_ble_eq_true rfl) (fun Q hQ => ?_)
  refine g_iload_n rfl dX4_isStore_0 ?_
  refine g_iconst dX4_isStore_1 ?_
  refine g_icmp_lt (tgt := 15) dX4_isStore_2 (by decide) (fun c2 => ?_) (fun c2 => ?_)
  · refine g_iconst dX4_isStore_15 ?_
    refine g_zreturn rfl rfl dX4_isStore_16 ?_
    simp (disch := omega) only [i_lt, i_le, i_eq, zI_toInt, i_0] at c2
    first | (rw [bI_f (decide_eq_false (by omega))] at hQ; exact hQ) | (rw [bI_t (decide_eq_true (by omega))] at hQ; exact hQ)
  · refine g_iload_n rfl dX4_isStore_5 ?_
    refine g_bipush (by decide) dX4_isStore_6 ?_
    refine g_icmp_gt (tgt := 15) dX4_isStore_8 (by decide) (fun c8 => ?_) (fun c8 => ?_)
    · refine g_iconst dX4_isStore_15 ?_
      refine g_zreturn rfl rfl dX4_isStore_16 ?_
      simp (disch := omega) only [i_lt, i_le, i_eq, zI_toInt, i_0] at c2 c8
      first | (rw [bI_f (decide_eq_false (by omega))] at hQ; exact hQ) | (rw [bI_t (decide_eq_true (by omega))] at hQ; exact hQ)
    · refine g_iconst dX4_isStore_11 ?_
      refine g_goto (tgt := 16) dX4_isStore_12 (by decide) ?_
      refine g_zreturn rfl rfl dX4_isStore_16 ?_
      simp (disch := omega) only [i_lt, i_le, i_eq, zI_toInt, i_0] at c2 c8
      first | (rw [bI_f (decide_eq_false (by omega))] at hQ; exact hQ) | (rw [bI_t (decide_eq_true (by omega))] at hQ; exact hQ)
theorem ev_X4_isNumber (j : Int32) (M : Mem) : EvF yX4_isNumber cX4_isNumber 1 (some .boolean) 0 [.int j] M (some (.int (bI (decide (0 ≤ j.toInt ∧ j.toInt < 97))))) M := by
  refine EvF.of (by decide +kernel) (Nat.le_of_ble_eq_true rfl) (fun Q hQ => ?_)
  refine g_iload_n rfl dX4_isNumber_0 ?_
  refine g_if_lt (tgt := 14) dX4_isNumber_1 (by decide) (fun c1 => ?_) (fun c1 => ?_)
  · refine g_iconst dX4_isNumber_14 ?_
    refine g_zreturn rfl rfl dX4_isNumber_15 ?_
    simp (disch := omega) only [i_lt, i_le, i_eq, zI_toInt, i_0] at c1
    first | (rw [bI_f (decide_eq_false (by omega))] at hQ; exact hQ) | (rw [bI_t (decide_eq_true (by omega))] at hQ; exact hQ)
  · refine g_iload_n rfl dX4_isNumber_4 ?_
    refine g_bipush (by decide) dX4_isNumber_5 ?_
    refine g_icmp_ge (tgt := 14) dX4_isNumber_7 (by decide) (fun c7 => ?_) (fun c7 => ?_)
    · refine g_iconst dX4_isNumber_14 ?_
      refine g_zreturn rfl rfl dX4_isNumber_15 ?_
      simp (disch := omega) only [i_lt, i_le, i_eq, zI_toInt, i_0] at c1 c7
      first | (rw [bI_f (decide_eq_false (by omega))] at hQ; exact hQ) | (rw [bI_t (decide_eq_true (by omega))] at hQ; exact hQ)
    · refine g_iconst dX4_isNumber_10 ?_
      refine g_goto (tgt := 15) dX4_isNumber_11 (by decide) ?_
      refine g_zreturn rfl rfl dX4_isNumber_15 ?_
      simp (disch := omega) only [i_lt, i_le, i_eq, zI_toInt, i_0] at c1 c7
      first | (rw [bI_f (decide_eq_false (by omega))] at hQ; exact hQ) | (rw [bI_t (decide_eq_true (by omega))] at hQ; exact hQ)
theorem ev_X4_isKind (j : Int32) (M : Mem) : EvF yX4_isKind cX4_isKind 1 (some .boolean) 0 [.int j] M (some (.int (bI (decide (0 ≤ j.toInt ∧ j.toInt ≤ 3))))) M := by
  refine EvF.of (by decide +kernel) (Nat.le_of_ble_eq_true rfl) (fun Q hQ => ?_)
  refine g_iload_n rfl dX4_isKind_0 ?_
  refine g_if_lt (tgt := 13) dX4_isKind_1 (by decide) (fun c1 => ?_) (fun c1 => ?_)
  · refine g_iconst dX4_isKind_13 ?_
    refine g_zreturn rfl rfl dX4_isKind_14 ?_
    simp (disch := omega) only [i_lt, i_le, i_eq, zI_toInt, i_0] at c1
    first | (rw [bI_f (decide_eq_false (by omega))] at hQ; exact hQ) | (rw [bI_t (decide_eq_true (by omega))] at hQ; exact hQ)
  · refine g_iload_n rfl dX4_isKind_4 ?_
    refine g_iconst dX4_isKind_5 ?_
    refine g_icmp_gt (tgt := 13) dX4_isKind_6 (by decide) (fun c6 => ?_) (fun c6 => ?_)
    · refine g_iconst dX4_isKind_13 ?_
      refine g_zreturn rfl rfl dX4_isKind_14 ?_
      simp (disch := omega) only [i_lt, i_le, i_eq, zI_toInt, i_0] at c1 c6
      first | (rw [bI_f (decide_eq_false (by omega))] at hQ; exact hQ) | (rw [bI_t (decide_eq_true (by omega))] at hQ; exact hQ)
    · refine g_iconst dX4_isKind_9 ?_
      refine g_goto (tgt := 14) dX4_isKind_10 (by decide) ?_
      refine g_zreturn rfl rfl dX4_isKind_14 ?_
      simp (disch := omega) only [i_lt, i_le, i_eq, zI_toInt, i_0] at c1 c6
      first | (rw [bI_f (decide_eq_false (by omega))] at hQ; exact hQ) | (rw [bI_t (decide_eq_true (by omega))] at hQ; exact hQ)
theorem ev_X4_isLie (j : Int32) (M : Mem) : EvF yX4_isLie cX4_isLie 1 (some .boolean) 0 [.int j] M (some (.int (bI (decide (1 ≤ j.toInt ∧ j.toInt < 97))))) M := by
  refine EvF.of (by decide +kernel) (Nat.le_of_ble_eq_true rfl) (fun Q hQ => ?_)
  refine g_iload_n rfl dX4_isLie_0 ?_
  refine g_iconst dX4_isLie_1 ?_
  refine g_icmp_lt (tgt := 15) dX4_isLie_2 (by decide) (fun c2 => ?_) (fun c2 => ?_)
  · refine g_iconst dX4_isLie_15 ?_
    refine g_zreturn rfl rfl dX4_isLie_16 ?_
    simp (disch := omega) only [i_lt, i_le, i_eq, zI_toInt, i_0] at c2
    first | (rw [bI_f (decide_eq_false (by omega))] at hQ; exact hQ) | (rw [bI_t (decide_eq_true (by omega))] at hQ; exact hQ)
  · refine g_iload_n rfl dX4_isLie_5 ?_
    refine g_bipush (by decide) dX4_isLie_6 ?_
    refine g_icmp_ge (tgt := 15) dX4_isLie_8 (by decide) (fun c8 => ?_) (fun c8 => ?_)
    · refine g_iconst dX4_isLie_15 ?_
      refine g_zreturn rfl rfl dX4_isLie_16 ?_
      simp (disch := omega) only [i_lt, i_le, i_eq, zI_toInt, i_0] at c2 c8
      first | (rw [bI_f (decide_eq_false (by omega))] at hQ; exact hQ) | (rw [bI_t (decide_eq_true (by omega))] at hQ; exact hQ)
    · refine g_iconst dX4_isLie_11 ?_
      refine g_goto (tgt := 16) dX4_isLie_12 (by decide) ?_
      refine g_zreturn rfl rfl dX4_isLie_16 ?_
      simp (disch := omega) only [i_lt, i_le, i_eq, zI_toInt, i_0] at c2 c8
      first | (rw [bI_f (decide_eq_false (by omega))] at hQ; exact hQ) | (rw [bI_t (decide_eq_true (by omega))] at hQ; exact hQ)
theorem ev_X4_isKeptFrom (j : Int32) (M : Mem) : EvF yX4_isKeptFrom cX4_isKeptFrom 1 (some .boolean) 0 [.int j] M (some (.int (bI (decide (1 ≤ j.toInt ∧ j.toInt ≤ 2))))) M := by
  refine EvF.of (by decide +kernel) (Nat.le_of_ble_eq_true rfl) (fun Q hQ => ?_)
  refine g_iload_n rfl dX4_isKeptFrom_0 ?_
  refine g_iconst dX4_isKeptFrom_1 ?_
  refine g_icmp_lt (tgt := 14) dX4_isKeptFrom_2 (by decide) (fun c2 => ?_) (fun c2 => ?_)
  · refine g_iconst dX4_isKeptFrom_14 ?_
    refine g_zreturn rfl rfl dX4_isKeptFrom_15 ?_
    simp (disch := omega) only [i_lt, i_le, i_eq, zI_toInt, i_0] at c2
    first | (rw [bI_f (decide_eq_false (by omega))] at hQ; exact hQ) | (rw [bI_t (decide_eq_true (by omega))] at hQ; exact hQ)
  · refine g_iload_n rfl dX4_isKeptFrom_5 ?_
    refine g_iconst dX4_isKeptFrom_6 ?_
    refine g_icmp_gt (tgt := 14) dX4_isKeptFrom_7 (by decide) (fun c7 => ?_) (fun c7 => ?_)
    · refine g_iconst dX4_isKeptFrom_14 ?_
      refine g_zreturn rfl rfl dX4_isKeptFrom_15 ?_
      simp (disch := omega) only [i_lt, i_le, i_eq, zI_toInt, i_0] at c2 c7
      first | (rw [bI_f (decide_eq_false (by omega))] at hQ; exact hQ) | (rw [bI_t (decide_eq_true (by omega))] at hQ; exact hQ)
    · refine g_iconst dX4_isKeptFrom_10 ?_
      refine g_goto (tgt := 15) dX4_isKeptFrom_11 (by decide) ?_
      refine g_zreturn rfl rfl dX4_isKeptFrom_15 ?_
      simp (disch := omega) only [i_lt, i_le, i_eq, zI_toInt, i_0] at c2 c7
      first | (rw [bI_f (decide_eq_false (by omega))] at hQ; exact hQ) | (rw [bI_t (decide_eq_true (by omega))] at hQ; exact hQ)
theorem ev_X4_isSeed (j : Int32) (M : Mem) : EvF yX4_isSeed cX4_isSeed 1 (some .boolean) 0 [.int j] M (some (.int (bI (decide (0 ≤ j.toInt))))) M := by
  refine EvF.of (by decide +kernel) (Nat.le_of_ble_eq_true rfl) (fun Q hQ => ?_)
  refine g_iload_n rfl dX4_isSeed_0 ?_
  refine g_if_lt (tgt := 8) dX4_isSeed_1 (by decide) (fun c1 => ?_) (fun c1 => ?_)
  · refine g_iconst dX4_isSeed_8 ?_
    refine g_zreturn rfl rfl dX4_isSeed_9 ?_
    simp (disch := omega) only [i_lt, i_le, i_eq, zI_toInt, i_0] at c1
    first | (rw [bI_f (decide_eq_false (by omega))] at hQ; exact hQ) | (rw [bI_t (decide_eq_true (by omega))] at hQ; exact hQ)
  · refine g_iconst dX4_isSeed_4 ?_
    refine g_goto (tgt := 9) dX4_isSeed_5 (by decide) ?_
    refine g_zreturn rfl rfl dX4_isSeed_9 ?_
    simp (disch := omega) only [i_lt, i_le, i_eq, zI_toInt, i_0] at c1
    first | (rw [bI_f (decide_eq_false (by omega))] at hQ; exact hQ) | (rw [bI_t (decide_eq_true (by omega))] at hQ; exact hQ)
theorem ev_X4_bit {a : Int} {k : Nat} (h : 0 ≤ a) (h2 : a < 2147483648) (hk : k < 32) (M : Mem) : EvF yX4_bit cX4_bit 2 (some .int) 0 [.int (zI a), .int (zI k)] M (some (.int (zI (a / 2 ^ k % 2)))) M := by
  refine EvF.of (by decide +kernel) (Nat.le_of_ble_eq_true rfl) (fun Q hQ => ?_)
  have h4 : 0 ≤ a / 2 ^ k := Int.ediv_nonneg h (by exact Int.le_of_lt (Int.pow_pos (by decide)))
  have h5 : a / 2 ^ k ≤ a := Int.ediv_le_self _ h
  refine g_iload_n rfl dX4_bit_0 ?_
  refine g_iload_n rfl dX4_bit_1 ?_
  refine g_ishr dX4_bit_2 ?_
  refine g_iconst dX4_bit_3 ?_
  refine g_iand dX4_bit_4 ?_
  refine g_ireturn rfl dX4_bit_5 ?_
  rw [zI_shr h h2 hk, zI_and1 h4 (by omega)]
  exact hQ
theorem ev_X4_liesMended {t g : Int} {M : Mem} (h1 : 0 ≤ t) (h2 : t ≤ 9) (h3 : 1 ≤ g) (h4 : g ≤ 6) (hg : M 22 7 = zI g) (h5 : g < t) : EvF yX4_liesMended cX4_liesMended 2 (some .int) 0 [.ref 0, .int (zI t)] M (some (.int (zI ((t - g - 1) / 2)))) M := by
  refine EvF.of (by decide +kernel) (Nat.le_of_ble_eq_true rfl) (fun Q hQ => ?_)
  refine g_iload_n rfl dX4_liesMended_0 ?_
  refine g_aload_n rfl dX4_liesMended_1 ?_
  refine gf_X4_25 (by decide) rfl rfl dX4_liesMended_2 ?_
  refine gf_X4_116 (by decide) rfl dX4_liesMended_5 ?_
  refine g_isub dX4_liesMended_8 ?_
  refine g_iconst dX4_liesMended_9 ?_
  refine g_isub dX4_liesMended_10 ?_
  refine g_iconst dX4_liesMended_11 ?_
  refine g_idiv (by decide) dX4_liesMended_12 ?_
  refine g_ireturn rfl dX4_liesMended_13 ?_
  rw [hg, zI_sub, zI_sub, zI_div (by omega) (by omega) (by omega) (by omega)]
  exact hQ
theorem ev_X4_count {M : Mem} {m : Nat} (h1 : 1 ≤ m) (h2 : m ≤ 3) (hm : M 0 6 = zI m) : EvF yX4_count cX4_count 1 (some .int) 0 [.ref 0] M (some (.int (zI (2 ^ m)))) M := by
  refine EvF.of (by decide +kernel) (Nat.le_of_ble_eq_true rfl) (fun Q hQ => ?_)
  have h3 : (1 : Int) * 2 ^ m < 2147483648 := by
    rcases (by omega : m = 1 ∨ m = 2 ∨ m = 3) with rfl | rfl | rfl <;> decide
  refine g_iconst dX4_count_0 ?_
  refine g_aload_n rfl dX4_count_1 ?_
  refine gf_X4_43 (by decide) rfl dX4_count_2 ?_
  refine g_ishl dX4_count_5 ?_
  refine g_ireturn rfl dX4_count_6 ?_
  rw [hm, zI_shl (by decide) (by omega) h3, Int.one_mul]
  exact hQ
theorem ev_X4_inverse (x : Int32) (M : Mem) : EvF yX4_inverse cX4_inverse 1 (some .int) 0 [.int x] M (some (.int (invL.getD x.toInt.toNat 0))) M := by
  refine EvF.of (by decide +kernel) (Nat.le_of_ble_eq_true rfl) (fun Q hQ => ?_)
  refine g_iload_n rfl dX4_inverse_0 ?_
  refine g_if_le (tgt := 20) dX4_inverse_1 (by decide) (fun c1 => ?_) (fun c1 => ?_)
  · refine g_iconst dX4_inverse_20 ?_
    refine g_ireturn rfl dX4_inverse_21 ?_
    simp (disch := omega) only [i_lt, i_le, i_eq, zI_toInt, i_0] at c1
    rw [show x.toInt.toNat = 0 by omega] at hQ
    exact hQ
  · refine g_iload_n rfl dX4_inverse_4 ?_
    refine g_gets wf_X4_200 dX4_inverse_5 ?_
    refine g_alenT dX4_inverse_8 ?_
    refine g_icmp_ge (tgt := 20) dX4_inverse_9 (by decide) (fun c9 => ?_) (fun c9 => ?_)
    · refine g_iconst dX4_inverse_20 ?_
      refine g_ireturn rfl dX4_inverse_21 ?_
      simp (disch := omega) only [i_lt, i_le, i_eq, zI_toInt, i_0] at c1 c9
      rw [List.getD_eq_getElem?_getD, List.getElem?_eq_none (by show 9 ≤ _; omega)] at hQ
      exact hQ
    · refine g_gets wf_X4_200 dX4_inverse_12 ?_
      refine g_iload_n rfl dX4_inverse_15 ?_
      simp (disch := omega) only [i_lt, i_le, i_eq, zI_toInt, i_0] at c1 c9
      refine g_ialdT (i_in (n := 9) (by omega) (by omega)) rfl dX4_inverse_16 ?_
      refine g_goto (tgt := 21) dX4_inverse_17 (by decide) ?_
      refine g_ireturn rfl dX4_inverse_21 ?_
      exact hQ
