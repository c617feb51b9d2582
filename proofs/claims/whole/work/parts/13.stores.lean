/-! class SilentAsking: stores, lots, points -/
theorem ev_X4_storeOf {j : Nat} (h1 : 1 ≤ j) (h2 : j < 10) (M : Mem) : EvF yX4_storeOf cX4_storeOf 2 (Option.some (FieldType.object "SilentAsking$Store")) 0 [.ref 0, .int (zI j)] M (some (.ref (3 + j))) M := by
  refine EvF.of (by decide +kernel) (Nat.le_of_ble_eq_true rfl) (fun Q hQ => ?_)
  have e : zI (j : Int) - zI 1 = zI ((j - 1 : Nat) : Int) := by
    rw [zI_sub]
    congr 1
    omega
  refine g_aload_n rfl dX4_storeOf_0 ?_
  refine gf_X4_18 (by decide) rfl rfl dX4_storeOf_1 ?_
  refine g_iload_n rfl dX4_storeOf_4 ?_
  refine g_iconst dX4_storeOf_5 ?_
  refine g_isub dX4_storeOf_6 ?_
  rw [e]
  refine g_aald (n := 9) (r := 3 + j) (by decide) rfl rfl (zI_in (by omega) (by omega) (by decide)) (by rw [zI_clamp (by omega) (by omega)]; exact rf3 j h2 h1) dX4_storeOf_7 ?_
  refine g_areturn rfl (Or.inl ⟨_, rfl⟩) dX4_storeOf_8 ?_
  exact hQ
theorem ev_X3_held {j : Nat} (h1 : 1 ≤ j) (h2 : j < 10) (M : Mem) : EvF yX3_held cX3_held 2 (Option.some (FieldType.array FieldType.int)) 0 [.ref (3 + j), .ref 1] M (some (.ref (hc M j))) M := by
  refine EvF.of (by decide +kernel) (Nat.le_of_ble_eq_true rfl) (fun Q hQ => ?_)
  refine g_aload_n rfl dX3_held_0 ?_
  refine gf_X3_15 (by omega) (shS j h2 h1) dX3_held_1 ?_
  refine g_iconst dX3_held_4 ?_
  refine g_icmp_ne (tgt := 15) dX3_held_5 (by decide) (fun c5 => ?_) (fun c5 => ?_)
  · refine g_aload_n rfl dX3_held_15 ?_
    refine g_areturn rfl (Or.inr ⟨_, rfl⟩) dX3_held_16 ?_
    rw [eqz_mi (by decide) (by decide)] at c5
    rw [hc, if_neg c5] at hQ
    exact hQ
  · refine g_aload_n rfl dX3_held_8 ?_
    refine gf_X3_9 (by omega) (shS j h2 h1) (rfS j h2 h1) dX3_held_9 ?_
    refine g_goto (tgt := 16) dX3_held_12 (by decide) ?_
    refine g_areturn rfl (Or.inr ⟨_, rfl⟩) dX3_held_16 ?_
    rw [eqz_mi (by decide) (by decide)] at c5
    rw [hc, if_pos c5] at hQ
    exact hQ
theorem ev_X4_copied {j i : Nat} (h1 : 1 ≤ j) (h2 : j < 10) (hi : i < 8) (M : Mem) : EvF yX4_copied cX4_copied 3 (some .int) 1 [.ref 0, .ref (3 + j), .int (zI i)] M (some (.int (if mi M (3 + j) 1 = 3 then zI (-9) else M (hc M j) i))) M := by
  refine EvF.of (by decide +kernel) (Nat.le_of_ble_eq_true rfl) (fun Q hQ => ?_)
  refine g_aload_n rfl dX4_copied_0 ?_
  refine gf_X4_92 (by omega) (shS j h2 h1) dX4_copied_1 ?_
  refine g_iconst dX4_copied_4 ?_
  refine g_icmp_ne (tgt := 13) dX4_copied_5 (by decide) (fun c5 => ?_) (fun c5 => ?_)
  · refine g_aload_n rfl dX4_copied_13 ?_
    refine g_aload_n rfl dX4_copied_14 ?_
    refine gf_X4_9 (by decide) rfl rfl dX4_copied_15 ?_
    refine gi_X4_193 (by omega) (shS j h2 h1) (ev_X3_held h1 h2 M) rfl rfl ⟨Nat.le_of_ble_eq_true rfl, Nat.le_of_ble_eq_true rfl, Nat.le_of_ble_eq_true rfl, Nat.le_of_ble_eq_true rfl⟩ (Nat.le_of_ble_eq_true rfl) dX4_copied_18 (fun r18 M18 hq18 => ?_)
    obtain ⟨rfl, rfl⟩ := hq18
    refine g_iload_n rfl dX4_copied_21 ?_
    refine g_iald (n := 8)  (hc_lt M h2) (hc_sh M h2 h1) (hc_n M h2 h1) (zI_in (by omega) (by omega) (by decide)) dX4_copied_22 ?_
    refine g_ireturn rfl dX4_copied_23 ?_
    rw [eqz_mi (by decide) (by decide)] at c5
    rw [if_neg c5] at hQ
    rw [ld_m M (hc M j) (by omega), mi_z]
    exact hQ
  · refine g_bipush (by decide) dX4_copied_8 ?_
    refine g_goto (tgt := 23) dX4_copied_10 (by decide) ?_
    refine g_ireturn rfl dX4_copied_23 ?_
    rw [eqz_mi (by decide) (by decide)] at c5
    rw [if_pos c5] at hQ
    exact hQ
theorem ev_X4_trueStores (M : Mem) : EvF yX4_trueStores cX4_trueStores 3 (some .int) 1 [.ref 0] M (some (.int (zI (cnt (fun j => decide (mi M (3 + j) 1 = 0)) 9)))) M := by
  refine EvF.of (by decide +kernel) (Nat.le_of_ble_eq_true rfl) (fun Q hQ => ?_)
  have loop : ∀ (d j : Nat), d + j = 9 → G yX4_trueStores.cls cX4_trueStores 3 (some .int) (gE 1 Q) 4 [(0, .ref 0), (1, .int (zI (cnt (fun j => decide (mi M (3 + j) 1 = 0)) j))), (2, .int (zI ((j + 1 : Nat) : Int)))] [] M := by
    intro d
    induction d with
    | zero =>
      intro j hj
      refine g_iload_n rfl dX4_trueStores_4 ?_
      refine g_bipush (by decide) dX4_trueStores_5 ?_
      refine g_icmp_gt (tgt := 30) dX4_trueStores_7 (by decide) (fun c7 => ?_) (fun c7 => ?_)
      · refine g_iload_n rfl dX4_trueStores_30 ?_
        refine g_ireturn rfl dX4_trueStores_31 ?_
        obtain rfl : j = 9 := by omega
        exact hQ
      · simp (disch := omega) only [i_lt, zI_toInt] at c7
        omega
    | succ d ih =>
      intro j hj
      refine g_iload_n rfl dX4_trueStores_4 ?_
      refine g_bipush (by decide) dX4_trueStores_5 ?_
      refine g_icmp_gt (tgt := 30) dX4_trueStores_7 (by decide) (fun c7 => ?_) (fun c7 => ?_)
      · simp (disch := omega) only [i_lt, zI_toInt] at c7
        omega
      · refine g_aload_n rfl dX4_trueStores_10 ?_
        refine g_iload_n rfl dX4_trueStores_11 ?_
        refine gi_X4_64 (by decide) rfl (ev_X4_storeOf (j := j + 1) (by omega) (by omega) M) rfl rfl ⟨Nat.le_of_ble_eq_true rfl, Nat.le_of_ble_eq_true rfl, Nat.le_of_ble_eq_true rfl, Nat.le_of_ble_eq_true rfl⟩ (Nat.le_of_ble_eq_true rfl) dX4_trueStores_12 (fun r12 M12 hq12 => ?_)
        obtain ⟨rfl, rfl⟩ := hq12
        refine gf_X4_92 (by omega) (shS (j + 1) (by omega) (by omega)) dX4_trueStores_15 ?_
        refine g_if_ne (tgt := 24) dX4_trueStores_18 (by decide) (fun c18 => ?_) (fun c18 => ?_)
        · refine g_iinc (L2 := [(0, _), (1, _), (2, _)]) rfl (by decide) rfl dX4_trueStores_24 ?_
          refine g_goto (tgt := 4) dX4_trueStores_27 (by decide) ?_
          have e : cnt (fun j => decide (mi M (3 + j) 1 = 0)) (j + 1) = cnt (fun j => decide (mi M (3 + j) 1 = 0)) j := by
            rw [zI_zero, eqz_mi (by decide) (by decide)] at c18
            simp [cnt, c18]
          rw [zI_add, ← e]
          exact ih (j + 1) (by omega)
        · refine g_iinc (L2 := [(0, _), (1, _), (2, _)]) rfl (by decide) rfl dX4_trueStores_21 ?_
          refine g_iinc (L2 := [(0, _), (1, _), (2, _)]) rfl (by decide) rfl dX4_trueStores_24 ?_
          refine g_goto (tgt := 4) dX4_trueStores_27 (by decide) ?_
          have e : ((cnt (fun j => decide (mi M (3 + j) 1 = 0)) j : Nat) : Int) + 1 = (cnt (fun j => decide (mi M (3 + j) 1 = 0)) (j + 1) : Nat) := by
            rw [zI_zero, eqz_mi (by decide) (by decide)] at c18
            simp [cnt, c18]
          rw [zI_add, zI_add, e]
          exact ih (j + 1) (by omega)
  refine g_iconst dX4_trueStores_0 ?_
  refine g_istore_n (L2 := [(0, _), (1, _)]) (by decide) rfl dX4_trueStores_1 ?_
  refine g_iconst dX4_trueStores_2 ?_
  refine g_istore_n (L2 := [(0, _), (1, _), (2, _)]) (by decide) rfl dX4_trueStores_3 ?_
  exact loop 9 0 (by omega)
/-- who tells -/
def tells (M : Mem) (j : Nat) : Bool := decide (¬ mi M (3 + j) 1 = 3)
theorem ev_X4_tellingStores {s : Nat} (h2 : s < 10) (M : Mem) : EvF yX4_tellingStores cX4_tellingStores 4 (some .int) 1 [.ref 0, .int (zI s)] M (some (.int (zI (cnt (tells M) s)))) M := by
  refine EvF.of (by decide +kernel) (Nat.le_of_ble_eq_true rfl) (fun Q hQ => ?_)
  have loop : ∀ (d j : Nat), d + j = s → G yX4_tellingStores.cls cX4_tellingStores 4 (some .int) (gE 1 Q) 4 [(0, .ref 0), (1, .int (zI s)), (2, .int (zI (cnt (tells M) j))), (3, .int (zI ((j + 1 : Nat) : Int)))] [] M := by
    intro d
    induction d with
    | zero =>
      intro j hj
      refine g_iload_n rfl dX4_tellingStores_4 ?_
      refine g_iload_n rfl dX4_tellingStores_5 ?_
      refine g_icmp_gt (tgt := 30) dX4_tellingStores_6 (by decide) (fun c6 => ?_) (fun c6 => ?_)
      · refine g_iload_n rfl dX4_tellingStores_30 ?_
        refine g_ireturn rfl dX4_tellingStores_31 ?_
        obtain rfl : j = s := by omega
        exact hQ
      · simp (disch := omega) only [i_lt, zI_toInt] at c6
        omega
    | succ d ih =>
      intro j hj
      refine g_iload_n rfl dX4_tellingStores_4 ?_
      refine g_iload_n rfl dX4_tellingStores_5 ?_
      refine g_icmp_gt (tgt := 30) dX4_tellingStores_6 (by decide) (fun c6 => ?_) (fun c6 => ?_)
      · simp (disch := omega) only [i_lt, zI_toInt] at c6
        omega
      · refine g_aload_n rfl dX4_tellingStores_9 ?_
        refine g_iload_n rfl dX4_tellingStores_10 ?_
        refine gi_X4_64 (by decide) rfl (ev_X4_storeOf (j := j + 1) (by omega) (by omega) M) rfl rfl ⟨Nat.le_of_ble_eq_true rfl, Nat.le_of_ble_eq_true rfl, Nat.le_of_ble_eq_true rfl, Nat.le_of_ble_eq_true rfl⟩ (Nat.le_of_ble_eq_true rfl) dX4_tellingStores_11 (fun r11 M11 hq11 => ?_)
        obtain ⟨rfl, rfl⟩ := hq11
        refine gf_X4_92 (by omega) (shS (j + 1) (by omega) (by omega)) dX4_tellingStores_14 ?_
        refine g_iconst dX4_tellingStores_17 ?_
        refine g_icmp_eq (tgt := 24) dX4_tellingStores_18 (by decide) (fun c18 => ?_) (fun c18 => ?_)
        · refine g_iinc (L2 := [(0, _), (1, _), (2, _), (3, _)]) rfl (by decide) rfl dX4_tellingStores_24 ?_
          refine g_goto (tgt := 4) dX4_tellingStores_27 (by decide) ?_
          have e : cnt (tells M) (j + 1) = cnt (tells M) j := by
            rw [eqz_mi (by decide) (by decide)] at c18
            simp [cnt, tells, c18]
          rw [zI_add, ← e]
          exact ih (j + 1) (by omega)
        · refine g_iinc (L2 := [(0, _), (1, _), (2, _), (3, _)]) rfl (by decide) rfl dX4_tellingStores_21 ?_
          refine g_iinc (L2 := [(0, _), (1, _), (2, _), (3, _)]) rfl (by decide) rfl dX4_tellingStores_24 ?_
          refine g_goto (tgt := 4) dX4_tellingStores_27 (by decide) ?_
          have e : ((cnt (tells M) j : Nat) : Int) + 1 = (cnt (tells M) (j + 1) : Nat) := by
            rw [eqz_mi (by decide) (by decide)] at c18
            simp [cnt, tells, c18]
          rw [zI_add, zI_add, e]
          exact ih (j + 1) (by omega)
  refine g_iconst dX4_tellingStores_0 ?_
  refine g_istore_n (L2 := [(0, _), (1, _), (2, _)]) (by decide) rfl dX4_tellingStores_1 ?_
  refine g_iconst dX4_tellingStores_2 ?_
  refine g_istore_n (L2 := [(0, _), (1, _), (2, _), (3, _)]) (by decide) rfl dX4_tellingStores_3 ?_
  exact loop s 0 (by omega)
theorem ev_X4_isRecord {M : Mem} {m : Nat} (h1 : 1 ≤ m) (h2 : m ≤ 3) (hm : M 0 6 = zI m) (i : Int32) : EvF yX4_isRecord cX4_isRecord 2 (some .boolean) 1 [.ref 0, .int i] M (some (.int (bI (decide (0 ≤ i.toInt ∧ i.toInt < 2 ^ m))))) M := by
  refine EvF.of (by decide +kernel) (Nat.le_of_ble_eq_true rfl) (fun Q hQ => ?_)
  have h8 := p2_8 h1 h2
  have hz := p2_z m
  refine g_iload_n rfl dX4_isRecord_0 ?_
  refine g_if_lt (tgt := 16) dX4_isRecord_1 (by decide) (fun c1 => ?_) (fun c1 => ?_)
  · refine g_iconst dX4_isRecord_16 ?_
    refine g_zreturn rfl rfl dX4_isRecord_17 ?_
    simp (disch := omega) only [i_lt, i_le, i_eq, zI_toInt, i_0] at c1
    first | (rw [bI_f (decide_eq_false (by omega))] at hQ; exact hQ) | (rw [bI_t (decide_eq_true (by omega))] at hQ; exact hQ)
  · refine g_iload_n rfl dX4_isRecord_4 ?_
    refine g_aload_n rfl dX4_isRecord_5 ?_
    refine gi_X4_60 (by decide) rfl (ev_X4_count h1 h2 hm) rfl rfl ⟨Nat.le_of_ble_eq_true rfl, Nat.le_of_ble_eq_true rfl, Nat.le_of_ble_eq_true rfl, Nat.le_of_ble_eq_true rfl⟩ (Nat.le_of_ble_eq_true rfl) dX4_isRecord_6 (fun r6 M6 hq6 => ?_)
    obtain ⟨rfl, rfl⟩ := hq6
    refine g_icmp_ge (tgt := 16) dX4_isRecord_9 (by decide) (fun c9 => ?_) (fun c9 => ?_)
    · refine g_iconst dX4_isRecord_16 ?_
      refine g_zreturn rfl rfl dX4_isRecord_17 ?_
      simp (disch := omega) only [i_lt, i_le, i_eq, zI_toInt, i_0] at c1 c9
      first | (rw [bI_f (decide_eq_false (by omega))] at hQ; exact hQ) | (rw [bI_t (decide_eq_true (by omega))] at hQ; exact hQ)
    · refine g_iconst dX4_isRecord_12 ?_
      refine g_goto (tgt := 17) dX4_isRecord_13 (by decide) ?_
      refine g_zreturn rfl rfl dX4_isRecord_17 ?_
      simp (disch := omega) only [i_lt, i_le, i_eq, zI_toInt, i_0] at c1 c9
      first | (rw [bI_f (decide_eq_false (by omega))] at hQ; exact hQ) | (rw [bI_t (decide_eq_true (by omega))] at hQ; exact hQ)
theorem ev_X4_isRecordSet {M : Mem} {m : Nat} (h1 : 1 ≤ m) (h2 : m ≤ 3) (hm : M 0 6 = zI m) (i : Int32) : EvF yX4_isRecordSet cX4_isRecordSet 2 (some .boolean) 1 [.ref 0, .int i] M (some (.int (bI (decide (0 ≤ i.toInt ∧ i.toInt < 2 ^ (2 ^ m)))))) M := by
  refine EvF.of (by decide +kernel) (Nat.le_of_ble_eq_true rfl) (fun Q hQ => ?_)
  have h8 := p2_8 h1 h2
  have hz := p2_z m
  have hb : (4 : Int) ≤ 2 ^ (2 ^ m) ∧ (2 : Int) ^ (2 ^ m) ≤ 256 := by rcases (by omega : m = 1 ∨ m = 2 ∨ m = 3) with rfl | rfl | rfl <;> decide
  refine g_iload_n rfl dX4_isRecordSet_0 ?_
  refine g_if_lt (tgt := 18) dX4_isRecordSet_1 (by decide) (fun c1 => ?_) (fun c1 => ?_)
  · refine g_iconst dX4_isRecordSet_18 ?_
    refine g_zreturn rfl rfl dX4_isRecordSet_19 ?_
    simp (disch := omega) only [i_lt, i_le, i_eq, zI_toInt, i_0] at c1
    first | (rw [bI_f (decide_eq_false (by omega))] at hQ; exact hQ) | (rw [bI_t (decide_eq_true (by omega))] at hQ; exact hQ)
  · refine g_iload_n rfl dX4_isRecordSet_4 ?_
    refine g_iconst dX4_isRecordSet_5 ?_
    refine g_aload_n rfl dX4_isRecordSet_6 ?_
    refine gi_X4_60 (by decide) rfl (ev_X4_count h1 h2 hm) rfl rfl ⟨Nat.le_of_ble_eq_true rfl, Nat.le_of_ble_eq_true rfl, Nat.le_of_ble_eq_true rfl, Nat.le_of_ble_eq_true rfl⟩ (Nat.le_of_ble_eq_true rfl) dX4_isRecordSet_7 (fun r7 M7 hq7 => ?_)
    obtain ⟨rfl, rfl⟩ := hq7
    refine g_ishl dX4_isRecordSet_10 ?_
    rw [hz, zI_shl (by decide) (by omega) (by omega), Int.one_mul]
    refine g_icmp_ge (tgt := 18) dX4_isRecordSet_11 (by decide) (fun c11 => ?_) (fun c11 => ?_)
    · refine g_iconst dX4_isRecordSet_18 ?_
      refine g_zreturn rfl rfl dX4_isRecordSet_19 ?_
      simp (disch := omega) only [i_lt, i_le, i_eq, zI_toInt, i_0] at c1 c11
      first | (rw [bI_f (decide_eq_false (by omega))] at hQ; exact hQ) | (rw [bI_t (decide_eq_true (by omega))] at hQ; exact hQ)
    · refine g_iconst dX4_isRecordSet_14 ?_
      refine g_goto (tgt := 19) dX4_isRecordSet_15 (by decide) ?_
      refine g_zreturn rfl rfl dX4_isRecordSet_19 ?_
      simp (disch := omega) only [i_lt, i_le, i_eq, zI_toInt, i_0] at c1 c11
      first | (rw [bI_f (decide_eq_false (by omega))] at hQ; exact hQ) | (rw [bI_t (decide_eq_true (by omega))] at hQ; exact hQ)
theorem ev_X4_refusalOfSet {M : Mem} (s : Int32) : EvF yX4_refusalOfSet cX4_refusalOfSet 2 (some .int) 0 [.ref 0, .int s] M (some (.int (if M 22 2 = 0 then zI (-3) else if s = 0 ∨ ¬ s &&& zI (-1023) = 0 then zI (-2) else zI 0))) M := by
  refine EvF.of (by decide +kernel) (Nat.le_of_ble_eq_true rfl) (fun Q hQ => ?_)
  refine g_aload_n rfl dX4_refusalOfSet_0 ?_
  refine gf_X4_25 (by decide) rfl rfl dX4_refusalOfSet_1 ?_
  refine gf_X4_72 (by decide) rfl dX4_refusalOfSet_4 ?_
  refine g_if_ne (tgt := 13) dX4_refusalOfSet_7 (by decide) (fun c7 => ?_) (fun c7 => ?_)
  · refine g_iload_n rfl dX4_refusalOfSet_13 ?_
    refine g_if_eq (tgt := 25) dX4_refusalOfSet_14 (by decide) (fun c14 => ?_) (fun c14 => ?_)
    · refine g_bipush (by decide) dX4_refusalOfSet_25 ?_
      refine g_goto (tgt := 31) dX4_refusalOfSet_27 (by decide) ?_
      refine g_ireturn rfl dX4_refusalOfSet_31 ?_
      rw [if_neg c7, if_pos (Or.inl c14)] at hQ
      exact hQ
    · refine g_iload_n rfl dX4_refusalOfSet_17 ?_
      refine g_sipush (by decide) dX4_refusalOfSet_18 ?_
      refine g_iand dX4_refusalOfSet_21 ?_
      refine g_if_eq (tgt := 30) dX4_refusalOfSet_22 (by decide) (fun c22 => ?_) (fun c22 => ?_)
      · refine g_iconst dX4_refusalOfSet_30 ?_
        refine g_ireturn rfl dX4_refusalOfSet_31 ?_
        rw [if_neg c7, if_neg (fun q => q.elim c14 (fun z => z c22))] at hQ
        exact hQ
      · refine g_bipush (by decide) dX4_refusalOfSet_25 ?_
        refine g_goto (tgt := 31) dX4_refusalOfSet_27 (by decide) ?_
        refine g_ireturn rfl dX4_refusalOfSet_31 ?_
        rw [if_neg c7, if_pos (Or.inr c22)] at hQ
        exact hQ
  · refine g_bipush (by decide) dX4_refusalOfSet_10 ?_
    refine g_ireturn rfl dX4_refusalOfSet_12 ?_
    rw [if_pos c7] at hQ
    exact hQ
theorem mul_bd2 {a b : Int} (h1 : 0 ≤ a) (h2 : a < 200) (h3 : 0 ≤ b) (h4 : b < 97) : 0 ≤ a * b ∧ a * b < 20000 := by
  rw [Int.mul_comm]
  exact mul_bd h3 h4 h1 h2
/-- Horner's way -/
theorem ev_X1_risen {M : Mem} {k first many j n : Nat} (hk : k < 42) (hs : shK k = 6) (hN : shN k = n) (hn : n ≤ 100) (hf : first + many ≤ n) (hj : j < 10) (hx : ∀ q, q < first + many → 0 ≤ mi M k q ∧ mi M k q < 97) :
    EvF yX1_risen cX1_risen 6 (some .int) 0 [.ref k, .int (zI first), .int (zI many), .int (zI j)] M (some (.int (zI (polS (fun e => mi M k (first + e)) j many % 97)))) M := by
  refine EvF.of (by decide +kernel) (Nat.le_of_ble_eq_true rfl) (fun Q hQ => ?_)
  have loop : ∀ (r : Nat), r ≤ many → ∀ v : Int, 0 ≤ v → v < 97 → cgr v (polS (fun e => mi M k (first + r + e)) j (many - r)) →
      G yX1_risen.cls cX1_risen 6 (some .int) (gE 0 Q) 10 [(0, .ref k), (1, .int (zI first)), (2, .int (zI many)), (3, .int (zI j)), (4, .int (zI v)), (5, .int (zI ((first : Int) + r - 1)))] [] M := by
    intro r
    induction r with
    | zero =>
      intro hr v hv1 hv2 hv
      refine g_iload rfl dX1_risen_10 ?_
      refine g_iload_n rfl dX1_risen_12 ?_
      refine g_icmp_lt (tgt := 36) dX1_risen_13 (by decide) (fun c13 => ?_) (fun c13 => ?_)
      · refine g_iload rfl dX1_risen_36 ?_
        refine g_ireturn rfl dX1_risen_38 ?_
        rw [cg_lt hv hv1 hv2]
        exact hQ
      · simp (disch := omega) only [i_lt, zI_toInt] at c13
        omega
    | succ r ih =>
      intro hr v hv1 hv2 hv
      have hxr := hx (first + r) (by omega)
      have e5 : (first : Int) + (r + 1 : Nat) - 1 = ((first + r : Nat) : Int) := by omega
      rw [e5]
      refine g_iload rfl dX1_risen_10 ?_
      refine g_iload_n rfl dX1_risen_12 ?_
      refine g_icmp_lt (tgt := 36) dX1_risen_13 (by decide) (fun c13 => ?_) (fun c13 => ?_)
      · simp (disch := omega) only [i_lt, zI_toInt] at c13
        omega
      · refine g_iload rfl dX1_risen_16 ?_
        refine g_aload_n rfl dX1_risen_18 ?_
        refine g_iload rfl dX1_risen_19 ?_
        refine g_iald  hk hs hN (zI_in (by omega) (by omega) (by omega)) dX1_risen_21 ?_
        rw [ld_m M k (by omega)]
        refine g_iadd dX1_risen_22 ?_
        refine g_iload_n rfl dX1_risen_23 ?_
        refine g_imul dX1_risen_24 ?_
        refine g_bipush (by decide) dX1_risen_25 ?_
        refine g_irem (by decide) dX1_risen_27 ?_
        refine g_istore (L2 := [(0, _), (1, _), (2, _), (3, _), (4, _), (5, _)]) (by decide) rfl dX1_risen_28 ?_
        refine g_iinc (L2 := [(0, _), (1, _), (2, _), (3, _), (4, _), (5, _)]) rfl (by decide) rfl dX1_risen_30 ?_
        refine g_goto (tgt := 10) dX1_risen_33 (by decide) ?_
        have hb := mul_bd2 (show 0 ≤ v + mi M k (first + r) by omega) (by omega) (show 0 ≤ (j : Int) by omega) (by omega)
        rw [zI_add, zI_mul, zI_remN hb.1 (by omega) (by decide) (by decide), zI_add]
        have e6 : ((first + r : Nat) : Int) + -1 = (first : Int) + r - 1 := by omega
        rw [e6]
        refine ih (by omega) _ (md_bd _).1 (md_bd _).2 ?_
        rw [show many - r = (many - (r + 1)) + 1 by omega, polS_shift]
        refine cg_t (cg_m _) (cg_x ?_ (cg_r _))
        rw [Int.add_comm]
        refine cg_a (cg_r _) ?_
        have e7 : (fun e => mi M k (first + r + (e + 1))) = (fun e => mi M k (first + (r + 1) + e)) := by
          funext e
          congr 1
          omega
        rw [e7]
        exact hv
  refine g_iconst dX1_risen_0 ?_
  refine g_istore (L2 := [(0, _), (1, _), (2, _), (3, _), (4, _)]) (by decide) rfl dX1_risen_1 ?_
  refine g_iload_n rfl dX1_risen_3 ?_
  refine g_iload_n rfl dX1_risen_4 ?_
  refine g_iadd dX1_risen_5 ?_
  refine g_iconst dX1_risen_6 ?_
  refine g_isub dX1_risen_7 ?_
  refine g_istore (L2 := [(0, _), (1, _), (2, _), (3, _), (4, _), (5, _)]) (by decide) rfl dX1_risen_8 ?_
  have e := loop many (Nat.le_refl _) 0 (by decide) (by decide) (by rw [Nat.sub_self]; exact cg_r _)
  rw [zI_add, zI_sub]
  exact e
/-- number k of the point of store j -/
def pntS (w t : Int) (lt : Nat → Int) (j k : Nat) : Int := (w / 2 ^ k % 2 + polS (fun e => lt (k * t.toNat + e)) j t.toNat) % 97
theorem pntS_bd (w t : Int) (lt : Nat → Int) (j k : Nat) : 0 ≤ pntS w t lt j k ∧ pntS w t lt j k < 97 := md_bd _
theorem ev_X1_pointNumber {M : Mem} {j k t : Nat} (hk : k < 3) (hj : j < 10) (ht : t ≤ 2) (hw : 0 ≤ mi M 22 4 ∧ mi M 22 4 < 8) (hT : mi M 22 5 = t) (hx : ∀ q, q < 6 → 0 ≤ mi M 23 q ∧ mi M 23 q < 97) :
    EvF yX1_pointNumber cX1_pointNumber 3 (some .int) 1 [.ref 22, .int (zI j), .int (zI k)] M (some (.int (zI (pntS (mi M 22 4) (mi M 22 5) (mi M 23) j k)))) M := by
  refine EvF.of (by decide +kernel) (Nat.le_of_ble_eq_true rfl) (fun Q hQ => ?_)
  have hkt : k * t ≤ 4 := by
    have := Nat.mul_le_mul (show k ≤ 2 by omega) ht
    omega
  have hz : zI (k : Int) * zI (t : Int) = zI ((k * t : Nat) : Int) := by rw [zI_mul, Int.natCast_mul]
  have eT : M 22 5 = zI (t : Int) := by rw [← hT, mi_z]
  refine g_aload_n rfl dX1_pointNumber_0 ?_
  refine gf_X1_25 (by decide) rfl dX1_pointNumber_1 ?_
  rw [← mi_z M 22 4]
  refine g_iload_n rfl dX1_pointNumber_4 ?_
  refine gi_X1_52 (ev_X4_bit (a := mi M 22 4) (k := k) hw.1 (by omega) (by omega) M) rfl rfl ⟨Nat.le_of_ble_eq_true rfl, Nat.le_of_ble_eq_true rfl, Nat.le_of_ble_eq_true rfl, Nat.le_of_ble_eq_true rfl⟩ (Nat.le_of_ble_eq_true rfl) dX1_pointNumber_5 (fun r5 M5 hq5 => ?_)
  obtain ⟨rfl, rfl⟩ := hq5
  refine g_aload_n rfl dX1_pointNumber_8 ?_
  refine gf_X1_9 (by decide) rfl rfl dX1_pointNumber_9 ?_
  refine g_iload_n rfl dX1_pointNumber_12 ?_
  refine g_aload_n rfl dX1_pointNumber_13 ?_
  refine gf_X1_29 (by decide) rfl dX1_pointNumber_14 ?_
  rw [eT]
  refine g_imul dX1_pointNumber_17 ?_
  rw [hz]
  refine g_aload_n rfl dX1_pointNumber_18 ?_
  refine gf_X1_29 (by decide) rfl dX1_pointNumber_19 ?_
  rw [eT]
  refine g_iload_n rfl dX1_pointNumber_22 ?_
  refine gi_X1_56 (ev_X1_risen (M := M) (k := 23) (first := k * t) (many := t) (j := j) (n := 6) (by decide) rfl rfl (by decide) (by omega) hj (fun q hq => hx q (by omega))) rfl rfl ⟨Nat.le_of_ble_eq_true rfl, Nat.le_of_ble_eq_true rfl, Nat.le_of_ble_eq_true rfl, Nat.le_of_ble_eq_true rfl⟩ (Nat.le_of_ble_eq_true rfl) dX1_pointNumber_23 (fun r23 M23 hq23 => ?_)
  obtain ⟨rfl, rfl⟩ := hq23
  refine g_iadd dX1_pointNumber_26 ?_
  refine g_bipush (by decide) dX1_pointNumber_27 ?_
  refine g_irem (by decide) dX1_pointNumber_29 ?_
  refine g_ireturn rfl dX1_pointNumber_30 ?_
  have h1 : 0 ≤ mi M 22 4 / 2 ^ k % 2 := Int.emod_nonneg _ (by decide)
  have h2 : mi M 22 4 / 2 ^ k % 2 < 2 := Int.emod_lt_of_pos _ (by decide)
  have h3 := md_bd (polS (fun e => mi M 23 (k * t + e)) j t)
  rw [zI_add, zI_remN (by omega) (by omega) (by decide) (by decide), cg_e (cg_a (cg_r _) (cg_m _))]
  rw [pntS, hT] at hQ
  exact hQ
def vlS (M : Mem) (j : Nat) : Int := if M 22 3 = 0 then 0 else polS (mi M 24) j (mi M 22 7).toNat % 97
theorem vlS_bd (M : Mem) (j : Nat) : 0 ≤ vlS M j ∧ vlS M j < 97 := by
  unfold vlS
  split
  · decide
  · exact md_bd _
theorem ev_X1_veilAt {M : Mem} {j g : Nat} (hj : j < 10) (hg : mi M 22 7 = g) (hg6 : g ≤ 6) (hx : ∀ q, q < 6 → 0 ≤ mi M 24 q ∧ mi M 24 q < 97) :
    EvF yX1_veilAt cX1_veilAt 2 (some .int) 1 [.ref 22, .int (zI j)] M (some (.int (zI (vlS M j)))) M := by
  refine EvF.of (by decide +kernel) (Nat.le_of_ble_eq_true rfl) (fun Q hQ => ?_)
  have eg : M 22 7 = zI (g : Int) := by rw [← hg, mi_z]
  refine g_aload_n rfl dX1_veilAt_0 ?_
  refine gf_X1_22 (by decide) rfl dX1_veilAt_1 ?_
  refine g_if_eq (tgt := 23) dX1_veilAt_4 (by decide) (fun c4 => ?_) (fun c4 => ?_)
  · refine g_iconst dX1_veilAt_23 ?_
    refine g_ireturn rfl dX1_veilAt_24 ?_
    rw [vlS, if_pos c4] at hQ
    exact hQ
  · refine g_aload_n rfl dX1_veilAt_7 ?_
    refine gf_X1_15 (by decide) rfl rfl dX1_veilAt_8 ?_
    refine g_iconst dX1_veilAt_11 ?_
    refine g_aload_n rfl dX1_veilAt_12 ?_
    refine gf_X1_35 (by decide) rfl dX1_veilAt_13 ?_
    rw [eg]
    refine g_iload_n rfl dX1_veilAt_16 ?_
    refine gi_X1_56 (ev_X1_risen (M := M) (k := 24) (first := 0) (many := g) (j := j) (n := 6) (by decide) rfl rfl (by decide) (by omega) hj (fun q hq => hx q (by omega))) rfl rfl ⟨Nat.le_of_ble_eq_true rfl, Nat.le_of_ble_eq_true rfl, Nat.le_of_ble_eq_true rfl, Nat.le_of_ble_eq_true rfl⟩ (Nat.le_of_ble_eq_true rfl) dX1_veilAt_17 (fun r17 M17 hq17 => ?_)
    obtain ⟨rfl, rfl⟩ := hq17
    refine g_goto (tgt := 24) dX1_veilAt_20 (by decide) ?_
    refine g_ireturn rfl dX1_veilAt_24 ?_
    rw [vlS, if_neg c4, hg] at hQ
    simp only [Nat.zero_add]
    exact hQ
theorem ev_X1_drawLots {M : Mem} {k g : Nat} {s : Int} (hk : k < 42) (hs : shK k = 6) (hN : shN k = 6) (hg : mi M 22 7 = g) (hg6 : g ≤ 6) (hk2 : k ≠ 22) (hs1 : 0 ≤ s) (hs2 : s < 2147483648) :
    EvF yX1_drawLots cX1_drawLots 6 none 0 [.ref 22, .ref k, .int (zI s)] M none (mfill M k g (fun q => zI (lotS s q))) := by
  refine EvF.of (by decide +kernel) (Nat.le_of_ble_eq_true rfl) (fun Q hQ => ?_)
  have eg : M 22 7 = zI (g : Int) := by rw [← hg, mi_z]
  have loop : ∀ (d q : Nat), d + q = g → G yX1_drawLots.cls cX1_drawLots 6 none (gE 0 Q) 6 [(0, .ref 22), (1, .ref k), (2, .int (zI s)), (3, .long (zL (lcgs s q))), (5, .int (zI q))] [] (mfill M k q (fun q => zI (lotS s q))) := by
    intro d
    induction d with
    | zero =>
      intro q hq
      refine g_iload rfl dX1_drawLots_6 ?_
      refine g_aload_n rfl dX1_drawLots_8 ?_
      refine gf_X1_35 (by decide) rfl dX1_drawLots_9 ?_
      rw [mfill_ne M _ (Ne.symm hk2), eg]
      refine g_icmp_ge (tgt := 49) dX1_drawLots_12 (by decide) (fun c12 => ?_) (fun c12 => ?_)
      · refine g_return rfl dX1_drawLots_49 ?_
        obtain rfl : q = g := by omega
        exact hQ
      · simp (disch := omega) only [i_le, zI_toInt] at c12
        omega
    | succ d ih =>
      intro q hq
      have hb := lcgs_bd hs1 hs2 q
      have hb2 := lcgs_bd hs1 hs2 (q + 1)
      refine g_iload rfl dX1_drawLots_6 ?_
      refine g_aload_n rfl dX1_drawLots_8 ?_
      refine gf_X1_35 (by decide) rfl dX1_drawLots_9 ?_
      rw [mfill_ne M _ (Ne.symm hk2), eg]
      refine g_icmp_ge (tgt := 49) dX1_drawLots_12 (by decide) (fun c12 => ?_) (fun c12 => ?_)
      · simp (disch := omega) only [i_le, zI_toInt] at c12
        omega
      · refine g_ldc2 gl_X1_42 dX1_drawLots_15 ?_
        refine g_lload_n rfl dX1_drawLots_18 ?_
        refine g_lmul dX1_drawLots_19 ?_
        refine g_ldc2 gl_X1_44 dX1_drawLots_20 ?_
        refine g_ladd dX1_drawLots_23 ?_
        refine g_ldc2 gl_X1_46 dX1_drawLots_24 ?_
        refine g_lrem (by decide) dX1_drawLots_27 ?_
        rw [show (1103515245 : Int64) = zL 1103515245 from rfl, show (12345 : Int64) = zL 12345 from rfl, show (2147483648 : Int64) = zL 2147483648 from rfl, zL_lcg hb.1 hb.2]
        refine g_lstore_n (L2 := [(0, _), (1, _), (2, _), (3, _), (5, _)]) (by decide) rfl dX1_drawLots_28 ?_
        refine g_aload_n rfl dX1_drawLots_29 ?_
        refine g_iload rfl dX1_drawLots_30 ?_
        refine g_lload_n rfl dX1_drawLots_32 ?_
        refine g_ldc2 gl_X1_48 dX1_drawLots_33 ?_
        refine g_ldiv (by decide) dX1_drawLots_36 ?_
        refine g_ldc2 gl_X1_50 dX1_drawLots_37 ?_
        refine g_lrem (by decide) dX1_drawLots_40 ?_
        refine g_l2i dX1_drawLots_41 ?_
        rw [show (256 : Int64) = zL 256 from rfl, show (97 : Int64) = zL 97 from rfl, show lcg (lcgs s q) = lcgs s (q + 1) from rfl, zL_lot hb2.1 hb2.2]
        refine g_iast  hk hs hN (zI_in (by omega) (by omega) (by decide)) dX1_drawLots_42 ?_
        refine g_iinc (L2 := [(0, _), (1, _), (2, _), (3, _), (5, _)]) rfl (by decide) rfl dX1_drawLots_43 ?_
        refine g_goto (tgt := 6) dX1_drawLots_46 (by decide) ?_
        rw [zI_clamp (by omega) (by omega), zI_add]
        have e := ih (q + 1) (by omega)
        rw [← mfill_s] at e
        exact e
  refine g_iload_n rfl dX1_drawLots_0 ?_
  refine g_i2l dX1_drawLots_1 ?_
  rw [zI_l (by omega) hs2]
  refine g_lstore_n (L2 := [(0, _), (1, _), (2, _), (3, _)]) (by decide) rfl dX1_drawLots_2 ?_
  refine g_iconst dX1_drawLots_3 ?_
  refine g_istore (L2 := [(0, _), (1, _), (2, _), (3, _), (5, _)]) (by decide) rfl dX1_drawLots_4 ?_
  have e := loop g 0 (by omega)
  rw [mfill_0] at e
  exact e
