/-! class SilentAsking: its calls, on -/
def recX (M : Mem) (m : Int32) (n : Nat) : Mem := fun a b => if a = 0 ∧ b = 6 then m else if a = 1 ∧ b < 8 then zI 0 else if 4 ≤ a ∧ a ≤ 3 + n ∧ (b = 1 ∨ b = 2) then zI 0 else M a b
theorem recX_0 (M : Mem) (m : Int32) : mfill (mset M 0 6 m) 1 8 (fun _ => zI 0) = recX M m 0 := by
  funext a b
  unfold mfill mset recX
  by_cases h1 : a = 1
  · subst h1
    rw [if_neg (show ¬ ((1 : Nat) = 0 ∧ b = 6) by omega), if_neg (show ¬ (1 : Nat) = 0 by omega)]
    by_cases hb : b < 8
    · rw [if_pos ⟨rfl, hb⟩, if_pos ⟨rfl, hb⟩]
    · rw [if_neg (fun q => hb q.2), if_neg (fun q => hb q.2), if_neg (by omega)]
  · rw [if_neg (fun q => h1 q.1), if_neg (fun (q : a = 1 ∧ b < 8) => h1 q.1), if_neg (show ¬ (4 ≤ a ∧ a ≤ 3 + 0 ∧ (b = 1 ∨ b = 2)) by omega)]
    by_cases h0 : a = 0
    · subst h0
      by_cases hb : b = 6
      · rw [if_pos rfl, if_pos hb, if_pos ⟨rfl, hb⟩]
      · rw [if_pos rfl, if_neg hb, if_neg (fun q => hb q.2)]
    · rw [if_neg h0, if_neg (fun q => h0 q.1)]
theorem recX_s (M : Mem) (m : Int32) (n : Nat) : becX (recX M m n) (n + 1) (zI 0) (zI 0) = recX M m (n + 1) := by
  unfold becX
  rw [if_neg (by decide), if_neg (by decide)]
  funext a b
  unfold mset recX
  by_cases ha : a = 3 + (n + 1)
  · subst ha
    by_cases h1 : b = 1
    · subst h1
      rw [if_pos rfl, if_neg (by omega), if_pos rfl, if_pos rfl, if_neg (by omega), if_neg (by omega), if_pos ⟨by omega, by omega, Or.inl rfl⟩]
    · by_cases h2 : b = 2
      · subst h2
        rw [if_pos rfl, if_pos rfl, if_neg (by omega), if_neg (by omega), if_pos ⟨by omega, by omega, Or.inr rfl⟩]
      · rw [if_pos rfl, if_neg h2, if_pos rfl, if_neg h1, if_neg (by omega), if_neg (by omega), if_neg (by omega), if_neg (by omega), if_neg (by omega), if_neg (by omega)]
  · rw [if_neg ha, if_neg ha]
    by_cases h : 4 ≤ a ∧ a ≤ 3 + n ∧ (b = 1 ∨ b = 2)
    · rw [if_pos h, if_pos (show 4 ≤ a ∧ a ≤ 3 + (n + 1) ∧ (b = 1 ∨ b = 2) by omega)]
    · rw [if_neg h, if_neg (show ¬ (4 ≤ a ∧ a ≤ 3 + (n + 1) ∧ (b = 1 ∨ b = 2)) by omega)]
theorem ev_X4_records {M : Mem} (hw : WX M) (m : Int32) : EvF yX4_records cX4_records 4 (some .int) 2 [.ref 0, .int m] M (some (.int (if 1 ≤ m.toInt ∧ m.toInt ≤ 3 then zI (2 ^ xm M) else zI (-2)))) (if 1 ≤ m.toInt ∧ m.toInt ≤ 3 then mset (recX M m 9) 22 2 (zI 0) else M) := by
  refine EvF.of (by decide +kernel) (Nat.le_of_ble_eq_true rfl) (fun Q hQ => ?_)
  obtain ⟨hm1, hm2, -, hm⟩ := hw.m
  have loop2 : ∀ (d j : Nat), d + j = 9 → Q (some (.int (zI (2 ^ xm M)))) (mset (recX M m 9) 22 2 (zI 0)) → G yX4_records.cls cX4_records 4 (some .int) (gE 2 Q) 46 [(0, .ref 0), (1, .int m), (2, .int (zI (2 ^ xm M))), (3, .int (zI ((j + 1 : Nat) : Int)))] [] (recX M m j) := by
    intro d
    induction d with
    | zero =>
      intro j hj hQ
      obtain rfl : j = 9 := by omega
      refine g_iload_n rfl dX4_records_46 ?_
      refine g_bipush (by decide) dX4_records_47 ?_
      refine g_icmp_gt (tgt := 72) dX4_records_49 (by decide) (fun c49 => ?_) (fun c49 => ?_)
      · refine g_aload_n rfl dX4_records_72 ?_
        refine gf_X4_25 (by decide) rfl rfl dX4_records_73 ?_
        refine g_iconst dX4_records_76 ?_
        refine gp_X4_72 (by decide) rfl rfl rfl dX4_records_77 ?_
        refine g_iload_n rfl dX4_records_80 ?_
        refine g_ireturn rfl dX4_records_81 ?_
        exact hQ
      · simp (disch := omega) only [i_lt, zI_toInt] at c49
        omega
    | succ d ih =>
      intro j hj hQ
      have ih := ih (j + 1) (by omega) hQ
      rw [← recX_s] at ih
      refine g_iload_n rfl dX4_records_46 ?_
      refine g_bipush (by decide) dX4_records_47 ?_
      refine g_icmp_gt (tgt := 72) dX4_records_49 (by decide) (fun c49 => ?_) (fun c49 => ?_)
      · simp (disch := omega) only [i_lt, zI_toInt] at c49
        omega
      · refine g_aload_n rfl dX4_records_52 ?_
        refine g_iload_n rfl dX4_records_53 ?_
        refine gi_X4_64 (by decide) rfl (ev_X4_storeOf (j := j + 1) (by omega) (by omega) (recX M m j)) rfl rfl ⟨Nat.le_of_ble_eq_true rfl, Nat.le_of_ble_eq_true rfl, Nat.le_of_ble_eq_true rfl, Nat.le_of_ble_eq_true rfl⟩ (Nat.le_of_ble_eq_true rfl) dX4_records_54 (fun r54 M54 hq54 => ?_)
        obtain ⟨rfl, rfl⟩ := hq54
        refine g_iconst dX4_records_57 ?_
        refine g_iconst dX4_records_58 ?_
        refine g_aload_n rfl dX4_records_59 ?_
        refine gf_X4_9 (by decide) rfl rfl dX4_records_60 ?_
        refine gi_X4_68 (by omega) (shS (j + 1) (by omega) (by omega)) (ev_X3_become (j := j + 1) (by omega) (by omega) (zI 0) (zI 0) (recX M m j)) rfl rfl ⟨Nat.le_of_ble_eq_true rfl, Nat.le_of_ble_eq_true rfl, Nat.le_of_ble_eq_true rfl, Nat.le_of_ble_eq_true rfl⟩ (Nat.le_of_ble_eq_true rfl) dX4_records_63 (fun r63 M63 hq63 => ?_)
        obtain ⟨rfl, rfl⟩ := hq63
        refine g_iinc (L2 := [(0, _), (1, _), (2, _), (3, _)]) rfl (by decide) rfl dX4_records_66 ?_
        refine g_goto (tgt := 46) dX4_records_69 (by decide) ?_
        rw [zI_add]
        exact ih
  have loop1 : ∀ (d q : Nat), d + q = 8 → Q (some (.int (zI (2 ^ xm M)))) (mset (recX M m 9) 22 2 (zI 0)) → G yX4_records.cls cX4_records 4 (some .int) (gE 2 Q) 25 [(0, .ref 0), (1, .int m), (2, .int (zI (2 ^ xm M))), (3, .int (zI q))] [] (mfill (mset M 0 6 m) 1 q (fun _ => zI 0)) := by
    intro d
    induction d with
    | zero =>
      intro q hq hQ
      obtain rfl : q = 8 := by omega
      refine g_iload_n rfl dX4_records_25 ?_
      refine g_bipush (by decide) dX4_records_26 ?_
      refine g_icmp_ge (tgt := 44) dX4_records_28 (by decide) (fun c28 => ?_) (fun c28 => ?_)
      · refine g_iconst dX4_records_44 ?_
        refine g_istore_n (L2 := [(0, _), (1, _), (2, _), (3, _)]) (by decide) rfl dX4_records_45 ?_
        rw [recX_0]
        exact loop2 9 0 (by omega) hQ
      · simp (disch := omega) only [i_le, zI_toInt] at c28
        omega
    | succ d ih =>
      intro q hq hQ
      have ih := ih (q + 1) (by omega) hQ
      rw [← mfill_s] at ih
      refine g_iload_n rfl dX4_records_25 ?_
      refine g_bipush (by decide) dX4_records_26 ?_
      refine g_icmp_ge (tgt := 44) dX4_records_28 (by decide) (fun c28 => ?_) (fun c28 => ?_)
      · simp (disch := omega) only [i_le, zI_toInt] at c28
        omega
      · refine g_aload_n rfl dX4_records_31 ?_
        refine gf_X4_9 (by decide) rfl rfl dX4_records_32 ?_
        refine g_iload_n rfl dX4_records_35 ?_
        refine g_iconst dX4_records_36 ?_
        refine g_iast (n := 8) (by decide) rfl rfl (zI_in (by omega) (by omega) (by decide)) dX4_records_37 ?_
        rw [zI_clamp (by omega) (by omega), show ((q : Nat) : Int).toNat = q from rfl]
        refine g_iinc (L2 := [(0, _), (1, _), (2, _), (3, _)]) rfl (by decide) rfl dX4_records_38 ?_
        refine g_goto (tgt := 25) dX4_records_41 (by decide) ?_
        rw [zI_add]
        exact ih
  refine g_iload_n rfl dX4_records_0 ?_
  refine g_iconst dX4_records_1 ?_
  refine g_icmp_lt (tgt := 10) dX4_records_2 (by decide) (fun c2 => ?_) (fun c2 => ?_)
  · refine g_bipush (by decide) dX4_records_10 ?_
    refine g_ireturn rfl dX4_records_12 ?_
    simp (disch := omega) only [i_lt, zI_toInt] at c2
    rw [if_neg (by omega), if_neg (by omega)] at hQ
    exact hQ
  · refine g_iload_n rfl dX4_records_5 ?_
    refine g_iconst dX4_records_6 ?_
    refine g_icmp_le (tgt := 13) dX4_records_7 (by decide) (fun c7 => ?_) (fun c7 => ?_)
    · refine g_aload_n rfl dX4_records_13 ?_
      refine gi_X4_60 (by decide) rfl (ev_X4_count hm1 hm2 hm) rfl rfl ⟨Nat.le_of_ble_eq_true rfl, Nat.le_of_ble_eq_true rfl, Nat.le_of_ble_eq_true rfl, Nat.le_of_ble_eq_true rfl⟩ (Nat.le_of_ble_eq_true rfl) dX4_records_14 (fun r14 M14 hq14 => ?_)
      obtain ⟨rfl, rfl⟩ := hq14
      refine g_istore_n (L2 := [(0, _), (1, _), (2, _)]) (by decide) rfl dX4_records_17 ?_
      refine g_aload_n rfl dX4_records_18 ?_
      refine g_iload_n rfl dX4_records_19 ?_
      refine gp_X4_43 (by decide) rfl dX4_records_20 ?_
      refine g_iconst dX4_records_23 ?_
      refine g_istore_n (L2 := [(0, _), (1, _), (2, _), (3, _)]) (by decide) rfl dX4_records_24 ?_
      simp (disch := omega) only [i_lt, i_le, zI_toInt] at c2 c7
      rw [if_pos ⟨by omega, by omega⟩, if_pos ⟨by omega, by omega⟩] at hQ
      have e := loop1 8 0 (by omega) hQ
      rw [mfill_0] at e
      exact e
    · refine g_bipush (by decide) dX4_records_10 ?_
      refine g_ireturn rfl dX4_records_12 ?_
      simp (disch := omega) only [i_lt, i_le, zI_toInt] at c2 c7
      rw [if_neg (by omega), if_neg (by omega)] at hQ
      exact hQ
def pt3 (x0 x1 x2 : Int32) (k : Nat) : Int32 := if k = 0 then x0 else if k = 1 then x1 else x2
def plM (M : Mem) (x0 x1 x2 : Int32) : Mem := mset (mset (mset M 2 0 x0) 2 1 x1) 2 2 x2
theorem plM_at (M : Mem) (x0 x1 x2 : Int32) : ∀ k, k < 3 → plM M x0 x1 x2 2 k = pt3 x0 x1 x2 k := by
  intro k hk
  rcases (by omega : k = 0 ∨ k = 1 ∨ k = 2) with rfl | rfl | rfl <;> rfl
theorem plM_sam (M : Mem) (x0 x1 x2 : Int32) : Sam M (plM M x0 x1 x2) := (((Sam.r M).ms _ (Or.inl rfl)).ms _ (Or.inl rfl)).ms _ (Or.inl rfl)
theorem ev_X4_sum {M : Mem} (hw : WX M) (x0 x1 x2 : Int32) : EvF yX4_sum cX4_sum 5 (some .int) 2 [.ref 0, .int x0, .int x1, .int x2] M (some (.int (if ∀ k, k < xm M → okN (pt3 x0 x1 x2 k) then zI (sumW (mi M 1) (fun k => (pt3 x0 x1 x2 k).toInt) (xm M) (2 ^ xm M) % 97) else zI (-2)))) (plM M x0 x1 x2) := by
  refine EvF.of (by decide +kernel) (Nat.le_of_ble_eq_true rfl) (fun Q hQ => ?_)
  obtain ⟨hm1, hm2, -, hm⟩ := hw.m
  have hs := plM_sam M x0 x1 x2
  have hat := plM_at M x0 x1 x2
  have hw1 := hw.sam hs
  have loop : ∀ (d q : Nat), d + q = xm M → (∀ k, k < q → okN (pt3 x0 x1 x2 k)) → G yX4_sum.cls cX4_sum 5 (some .int) (gE 2 Q) 24 [(0, .ref 0), (1, .int x0), (2, .int x1), (3, .int x2), (4, .int (zI q))] [] (plM M x0 x1 x2) := by
    intro d
    induction d with
    | zero =>
      intro q hq hk
      obtain rfl : q = xm M := by omega
      have hmi : ∀ k, k < xm M → mi (plM M x0 x1 x2) 2 k = (pt3 x0 x1 x2 k).toInt := fun k h => by unfold mi; rw [hat k (by omega)]
      have e1 : mi (plM M x0 x1 x2) 1 = mi M 1 := funext fun q => hs.m (Or.inl (by decide)) q
      rw [if_pos hk] at hQ
      refine g_iload rfl dX4_sum_24 ?_
      refine g_aload_n rfl dX4_sum_26 ?_
      refine gf_X4_43 (by decide) rfl dX4_sum_27 ?_
      rw [hs 0 (Or.inl (by decide)), hm]
      refine g_icmp_ge (tgt := 55) dX4_sum_30 (by decide) (fun c30 => ?_) (fun c30 => ?_)
      · refine g_aload_n rfl dX4_sum_55 ?_
        refine g_aload_n rfl dX4_sum_56 ?_
        refine gf_X4_9 (by decide) rfl rfl dX4_sum_57 ?_
        refine gi_X4_102 (by decide) rfl (ev_X4_sumAtPlace (M := plM M x0 x1 x2) (m := xm M) (k := 1) hm1 hm2 (by rw [hs 0 (Or.inl (by decide)), hm]) (by decide) rfl rfl hw1.num (fun q hq => by rw [hmi q hq]; exact hk q hq)) rfl rfl ⟨Nat.le_of_ble_eq_true rfl, Nat.le_of_ble_eq_true rfl, Nat.le_of_ble_eq_true rfl, Nat.le_of_ble_eq_true rfl⟩ (Nat.le_of_ble_eq_true rfl) dX4_sum_60 (fun r60 M60 hq60 => ?_)
        obtain ⟨rfl, rfl⟩ := hq60
        refine g_ireturn rfl dX4_sum_63 ?_
        rw [sumW_ext hmi _ (fun i _ => congrFun e1 i)]
        exact hQ
      · simp (disch := omega) only [i_le, zI_toInt] at c30
        omega
    | succ d ih =>
      intro q hq hk
      refine g_iload rfl dX4_sum_24 ?_
      refine g_aload_n rfl dX4_sum_26 ?_
      refine gf_X4_43 (by decide) rfl dX4_sum_27 ?_
      rw [hs 0 (Or.inl (by decide)), hm]
      refine g_icmp_ge (tgt := 55) dX4_sum_30 (by decide) (fun c30 => ?_) (fun c30 => ?_)
      · simp (disch := omega) only [i_le, zI_toInt] at c30
        omega
      · refine g_aload_n rfl dX4_sum_33 ?_
        refine gf_X4_13 (by decide) rfl rfl dX4_sum_34 ?_
        refine g_iload rfl dX4_sum_37 ?_
        refine g_iald (n := 3) (by decide) rfl rfl (zI_in (by omega) (by omega) (by decide)) dX4_sum_39 ?_
        rw [zI_clamp (by omega) (by omega), show ((q : Nat) : Int).toNat = q from rfl, hat q (by omega)]
        refine gi_X4_80 (ev_X4_isNumber (pt3 x0 x1 x2 q) (plM M x0 x1 x2)) rfl rfl ⟨Nat.le_of_ble_eq_true rfl, Nat.le_of_ble_eq_true rfl, Nat.le_of_ble_eq_true rfl, Nat.le_of_ble_eq_true rfl⟩ (Nat.le_of_ble_eq_true rfl) dX4_sum_40 (fun r40 M40 hq40 => ?_)
        obtain ⟨rfl, rfl⟩ := hq40
        refine g_if_ne (tgt := 49) dX4_sum_43 (by decide) (fun c43 => ?_) (fun c43 => ?_)
        · refine g_iinc (L2 := [(0, _), (1, _), (2, _), (3, _), (4, _)]) rfl (by decide) rfl dX4_sum_49 ?_
          refine g_goto (tgt := 24) dX4_sum_52 (by decide) ?_
          rw [bI_dn] at c43
          rw [zI_add]
          refine ih (q + 1) (by omega) (fun k hk1 => ?_)
          by_cases hkq : k = q
          · rw [hkq]
            exact c43
          · exact hk k (by omega)
        · refine g_bipush (by decide) dX4_sum_46 ?_
          refine g_ireturn rfl dX4_sum_48 ?_
          rw [bI_d0] at c43
          rw [if_neg (fun z => c43 (z q (by omega)))] at hQ
          exact hQ
  refine g_aload_n rfl dX4_sum_0 ?_
  refine gf_X4_13 (by decide) rfl rfl dX4_sum_1 ?_
  refine g_iconst dX4_sum_4 ?_
  refine g_iload_n rfl dX4_sum_5 ?_
  refine g_iast (n := 3) (by decide) rfl rfl (zI_in (by omega) (by omega) (by decide)) dX4_sum_6 ?_
  refine g_aload_n rfl dX4_sum_7 ?_
  refine gf_X4_13 (by decide) rfl rfl dX4_sum_8 ?_
  refine g_iconst dX4_sum_11 ?_
  refine g_iload_n rfl dX4_sum_12 ?_
  refine g_iast (n := 3) (by decide) rfl rfl (zI_in (by omega) (by omega) (by decide)) dX4_sum_13 ?_
  refine g_aload_n rfl dX4_sum_14 ?_
  refine gf_X4_13 (by decide) rfl rfl dX4_sum_15 ?_
  refine g_iconst dX4_sum_18 ?_
  refine g_iload_n rfl dX4_sum_19 ?_
  refine g_iast (n := 3) (by decide) rfl rfl (zI_in (by omega) (by omega) (by decide)) dX4_sum_20 ?_
  refine g_iconst dX4_sum_21 ?_
  refine g_istore (L2 := [(0, _), (1, _), (2, _), (3, _), (4, _)]) (by decide) rfl dX4_sum_22 ?_
  exact loop (xm M) 0 (by omega) (fun k hk => absurd hk (by omega))
abbrev okA (t s : Int32) : Prop := (1 ≤ t.toInt ∧ t.toInt ≤ 2) ∧ 0 ≤ s.toInt
theorem ev_X4_ask {M : Mem} (hw : WX M) (i t s : Int32) : EvF yX4_ask cX4_ask 4 (some .int) 2 [.ref 0, .int i, .int t, .int s] M (some (.int (if okR M i then (if okA t s then zI (mi M 0 6 * t.toInt) else zI (-2)) else zI (-1)))) (if okR M i ∧ okA t s then mset (begX M i.toInt t.toInt (mi M 0 6) s.toInt) 0 10 (M 0 10 + zI 1) else M) := by
  refine EvF.of (by decide +kernel) (Nat.le_of_ble_eq_true rfl) (fun Q hQ => ?_)
  obtain ⟨hm1, hm2, -, hm⟩ := hw.m
  have hms := hw.1
  have h810 : begX M i.toInt t.toInt (mi M 0 6) s.toInt 0 10 = M 0 10 := by
    unfold begX
    rw [mfill_ne _ _ (by decide)]
    simp only [mset_other _ _ _ (show (0 : Nat) ≠ 22 by decide)]
  have h227 : begX M i.toInt t.toInt (mi M 0 6) s.toInt 22 7 = zI (mi M 0 6 * t.toInt) := by
    unfold begX
    rw [mfill_ne _ _ (by decide), mset_same]
  refine g_aload_n rfl dX4_ask_0 ?_
  refine g_iload_n rfl dX4_ask_1 ?_
  refine gi_X4_76 (by decide) rfl (ev_X4_isRecord hm1 hm2 hm i) rfl rfl ⟨Nat.le_of_ble_eq_true rfl, Nat.le_of_ble_eq_true rfl, Nat.le_of_ble_eq_true rfl, Nat.le_of_ble_eq_true rfl⟩ (Nat.le_of_ble_eq_true rfl) dX4_ask_2 (fun r2 M2 hq2 => ?_)
  obtain ⟨rfl, rfl⟩ := hq2
  refine g_if_ne (tgt := 10) dX4_ask_5 (by decide) (fun c5 => ?_) (fun c5 => ?_)
  · refine g_iload_n rfl dX4_ask_10 ?_
    refine gi_X4_106 (ev_X4_isKeptFrom t M) rfl rfl ⟨Nat.le_of_ble_eq_true rfl, Nat.le_of_ble_eq_true rfl, Nat.le_of_ble_eq_true rfl, Nat.le_of_ble_eq_true rfl⟩ (Nat.le_of_ble_eq_true rfl) dX4_ask_11 (fun r11 M11 hq11 => ?_)
    obtain ⟨rfl, rfl⟩ := hq11
    refine g_if_eq (tgt := 24) dX4_ask_14 (by decide) (fun c14 => ?_) (fun c14 => ?_)
    · rw [bI_dn] at c5
      have ck : ¬ okA t s := by
        first
        | (rw [bI_d0] at c14
           exact fun q => c14 q.1)
        | (rw [bI_d0] at c21
           exact fun q => c21 q.2)
      rw [if_pos c5, if_neg ck, if_neg (fun q => ck q.2)] at hQ
      refine g_bipush (by decide) dX4_ask_24 ?_
      refine g_ireturn rfl dX4_ask_26 ?_
      exact hQ
    · refine g_iload_n rfl dX4_ask_17 ?_
      refine gi_X4_109 (ev_X4_isSeed s M) rfl rfl ⟨Nat.le_of_ble_eq_true rfl, Nat.le_of_ble_eq_true rfl, Nat.le_of_ble_eq_true rfl, Nat.le_of_ble_eq_true rfl⟩ (Nat.le_of_ble_eq_true rfl) dX4_ask_18 (fun r18 M18 hq18 => ?_)
      obtain ⟨rfl, rfl⟩ := hq18
      refine g_if_ne (tgt := 27) dX4_ask_21 (by decide) (fun c21 => ?_) (fun c21 => ?_)
      · rw [bI_dn] at c5 c14 c21
        rw [if_pos c5, if_pos ⟨c14, c21⟩, if_pos ⟨c5, c14, c21⟩] at hQ
        refine g_aload_n rfl dX4_ask_27 ?_
        refine gf_X4_25 (by decide) rfl rfl dX4_ask_28 ?_
        refine g_iload_n rfl dX4_ask_31 ?_
        refine g_iload_n rfl dX4_ask_32 ?_
        refine g_aload_n rfl dX4_ask_33 ?_
        refine gf_X4_43 (by decide) rfl dX4_ask_34 ?_
        rw [← mi_z M 0 6, ← zI_of i, ← zI_of t, ← zI_of s]
        refine g_iload_n rfl dX4_ask_37 ?_
        refine gi_X4_112 (by decide) rfl (ev_X1_begin (M := M) (i := i.toInt) (t := t.toInt) (m := mi M 0 6) (s := s.toInt) c14.1 c14.2 hms.1 hms.2 c21 (i_bd s).2) rfl rfl ⟨Nat.le_of_ble_eq_true rfl, Nat.le_of_ble_eq_true rfl, Nat.le_of_ble_eq_true rfl, Nat.le_of_ble_eq_true rfl⟩ (Nat.le_of_ble_eq_true rfl) dX4_ask_38 (fun r38 M38 hq38 => ?_)
        obtain ⟨rfl, rfl⟩ := hq38
        refine g_aload_n rfl dX4_ask_41 ?_
        refine g_dup rfl dX4_ask_42 ?_
        refine gf_X4_56 (by decide) rfl dX4_ask_43 ?_
        refine g_iconst dX4_ask_46 ?_
        refine g_iadd dX4_ask_47 ?_
        refine gp_X4_56 (by decide) rfl dX4_ask_48 ?_
        refine g_aload_n rfl dX4_ask_51 ?_
        refine gf_X4_25 (by decide) rfl rfl dX4_ask_52 ?_
        refine gf_X4_116 (by decide) rfl dX4_ask_55 ?_
        refine g_ireturn rfl dX4_ask_58 ?_
        exact hQ
      · rw [bI_dn] at c5
        have ck : ¬ okA t s := by
          first
          | (rw [bI_d0] at c14
             exact fun q => c14 q.1)
          | (rw [bI_d0] at c21
             exact fun q => c21 q.2)
        rw [if_pos c5, if_neg ck, if_neg (fun q => ck q.2)] at hQ
        refine g_bipush (by decide) dX4_ask_24 ?_
        refine g_ireturn rfl dX4_ask_26 ?_
        exact hQ
  · refine g_iconst dX4_ask_8 ?_
    refine g_ireturn rfl dX4_ask_9 ?_
    rw [bI_d0] at c5
    rw [if_neg c5, if_neg (fun q => c5 q.1)] at hQ
    exact hQ
