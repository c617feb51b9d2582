/-! class SilentAsking: its calls -/
theorem bI_d0 {P : Prop} [Decidable P] : bI (decide P) = 0 ↔ ¬ P := by rw [bI_0, decide_eq_false_iff_not]
theorem bI_dn {P : Prop} [Decidable P] : ¬ bI (decide P) = 0 ↔ P := by rw [bI_n0, decide_eq_true_eq]
abbrev okR (M : Mem) (i : Int32) : Prop := 0 ≤ i.toInt ∧ i.toInt < 2 ^ xm M
abbrev okS (j : Int32) : Prop := 1 ≤ j.toInt ∧ j.toInt ≤ 9
abbrev okN (v : Int32) : Prop := 0 ≤ v.toInt ∧ v.toInt < 97
theorem tiN {n : Nat} (h : n < 2147483648) : (zI (n : Int)).toInt = n := zI_toInt (by omega) (by omega)
theorem tnN {n : Nat} (h : n < 2147483648) : (zI (n : Int)).toInt.toNat = n := by rw [tiN h]; rfl
theorem okS_n {j : Int32} (h : okS j) : ∃ n : Nat, 1 ≤ n ∧ n < 10 ∧ j = zI n := ⟨j.toInt.toNat, by omega, by omega, by rw [Int.toNat_of_nonneg (by omega), zI_of]⟩
theorem okR_n {M : Mem} (hw : WX M) {i : Int32} (h : okR M i) : ∃ n : Nat, n < 2 ^ xm M ∧ n < 8 ∧ i = zI n := by
  have h8 := p2_8 hw.m.1 hw.m.2.1
  have hz := p2_z (xm M)
  exact ⟨i.toInt.toNat, by omega, by omega, by rw [Int.toNat_of_nonneg (by omega), zI_of]⟩
theorem okN_n {v : Int32} (h : okN v) : ∃ n : Nat, n < 97 ∧ v = zI n := ⟨v.toInt.toNat, by omega, by rw [Int.toNat_of_nonneg (by omega), zI_of]⟩
theorem ev_X4_put {M : Mem} (hw : WX M) (i v : Int32) : EvF yX4_put cX4_put 4 (some .int) 2 [.ref 0, .int i, .int v] M (some (.int (if okR M i then (if okN v then M 1 i.toInt.toNat else zI (-2)) else zI (-1)))) (if okR M i ∧ okN v then mset M 1 i.toInt.toNat v else M) := by
  refine EvF.of (by decide +kernel) (Nat.le_of_ble_eq_true rfl) (fun Q hQ => ?_)
  obtain ⟨hm1, hm2, -, hm⟩ := hw.m
  refine g_aload_n rfl dX4_put_0 ?_
  refine g_iload_n rfl dX4_put_1 ?_
  refine gi_X4_76 (by decide) rfl (ev_X4_isRecord hm1 hm2 hm i) rfl rfl ⟨Nat.le_of_ble_eq_true rfl, Nat.le_of_ble_eq_true rfl, Nat.le_of_ble_eq_true rfl, Nat.le_of_ble_eq_true rfl⟩ (Nat.le_of_ble_eq_true rfl) dX4_put_2 (fun r2 M2 hq2 => ?_)
  obtain ⟨rfl, rfl⟩ := hq2
  refine g_if_ne (tgt := 10) dX4_put_5 (by decide) (fun c5 => ?_) (fun c5 => ?_)
  · refine g_iload_n rfl dX4_put_10 ?_
    refine gi_X4_80 (ev_X4_isNumber v M) rfl rfl ⟨Nat.le_of_ble_eq_true rfl, Nat.le_of_ble_eq_true rfl, Nat.le_of_ble_eq_true rfl, Nat.le_of_ble_eq_true rfl⟩ (Nat.le_of_ble_eq_true rfl) dX4_put_11 (fun r11 M11 hq11 => ?_)
    obtain ⟨rfl, rfl⟩ := hq11
    refine g_if_ne (tgt := 20) dX4_put_14 (by decide) (fun c14 => ?_) (fun c14 => ?_)
    · rw [bI_dn] at c5 c14
      rw [if_pos c5, if_pos c14, if_pos ⟨c5, c14⟩] at hQ
      obtain ⟨n, hn1, hn2, rfl⟩ := okR_n hw c5
      rw [tnN (by omega)] at hQ
      refine g_aload_n rfl dX4_put_20 ?_
      refine gf_X4_9 (by decide) rfl rfl dX4_put_21 ?_
      refine g_iload_n rfl dX4_put_24 ?_
      refine g_iald (n := 8) (by decide) rfl rfl (zI_in (by omega) (by omega) (by decide)) dX4_put_25 ?_
      rw [zI_clamp (by omega) (by omega), show ((n : Nat) : Int).toNat = n from rfl]
      refine g_istore_n (L2 := [(0, _), (1, _), (2, _), (3, _)]) (by decide) rfl dX4_put_26 ?_
      refine g_aload_n rfl dX4_put_27 ?_
      refine gf_X4_9 (by decide) rfl rfl dX4_put_28 ?_
      refine g_iload_n rfl dX4_put_31 ?_
      refine g_iload_n rfl dX4_put_32 ?_
      refine g_iast (n := 8) (by decide) rfl rfl (zI_in (by omega) (by omega) (by decide)) dX4_put_33 ?_
      rw [zI_clamp (by omega) (by omega), show ((n : Nat) : Int).toNat = n from rfl]
      refine g_iload_n rfl dX4_put_34 ?_
      refine g_ireturn rfl dX4_put_35 ?_
      exact hQ
    · refine g_bipush (by decide) dX4_put_17 ?_
      refine g_ireturn rfl dX4_put_19 ?_
      rw [bI_dn] at c5
      rw [bI_d0] at c14
      rw [if_pos c5, if_neg c14, if_neg (fun q => c14 q.2)] at hQ
      exact hQ
  · refine g_iconst dX4_put_8 ?_
    refine g_ireturn rfl dX4_put_9 ?_
    rw [bI_d0] at c5
    rw [if_neg c5, if_neg (fun q => c5 q.1)] at hQ
    exact hQ
theorem ev_X4_record {M : Mem} (hw : WX M) (i : Int32) : EvF yX4_record cX4_record 2 (some .int) 2 [.ref 0, .int i] M (some (.int (if okR M i then M 1 i.toInt.toNat else zI (-1)))) M := by
  refine EvF.of (by decide +kernel) (Nat.le_of_ble_eq_true rfl) (fun Q hQ => ?_)
  obtain ⟨hm1, hm2, -, hm⟩ := hw.m
  refine g_aload_n rfl dX4_record_0 ?_
  refine g_iload_n rfl dX4_record_1 ?_
  refine gi_X4_76 (by decide) rfl (ev_X4_isRecord hm1 hm2 hm i) rfl rfl ⟨Nat.le_of_ble_eq_true rfl, Nat.le_of_ble_eq_true rfl, Nat.le_of_ble_eq_true rfl, Nat.le_of_ble_eq_true rfl⟩ (Nat.le_of_ble_eq_true rfl) dX4_record_2 (fun r2 M2 hq2 => ?_)
  obtain ⟨rfl, rfl⟩ := hq2
  refine g_if_eq (tgt := 17) dX4_record_5 (by decide) (fun c5 => ?_) (fun c5 => ?_)
  · refine g_iconst dX4_record_17 ?_
    refine g_ireturn rfl dX4_record_18 ?_
    rw [bI_d0] at c5
    rw [if_neg c5] at hQ
    exact hQ
  · rw [bI_dn] at c5
    rw [if_pos c5] at hQ
    obtain ⟨n, hn1, hn2, rfl⟩ := okR_n hw c5
    rw [tnN (by omega)] at hQ
    refine g_aload_n rfl dX4_record_8 ?_
    refine gf_X4_9 (by decide) rfl rfl dX4_record_9 ?_
    refine g_iload_n rfl dX4_record_12 ?_
    refine g_iald (n := 8) (by decide) rfl rfl (zI_in (by omega) (by omega) (by decide)) dX4_record_13 ?_
    rw [zI_clamp (by omega) (by omega), show ((n : Nat) : Int).toNat = n from rfl]
    refine g_goto (tgt := 18) dX4_record_14 (by decide) ?_
    refine g_ireturn rfl dX4_record_18 ?_
    exact hQ
abbrev okK (kd d : Int32) : Prop := (0 ≤ kd.toInt ∧ kd.toInt ≤ 3) ∧ (kd = zI 1 → 1 ≤ d.toInt ∧ d.toInt < 97)
theorem ev_X4_store {M : Mem} (j kd d : Int32) : EvF yX4_store cX4_store 6 (some .int) 2 [.ref 0, .int j, .int kd, .int d] M (some (.int (if okS j then (if okK kd d then M (3 + j.toInt.toNat) 1 else zI (-2)) else zI (-1)))) (if okS j ∧ okK kd d then becX M j.toInt.toNat kd d else M) := by
  refine EvF.of (by decide +kernel) (Nat.le_of_ble_eq_true rfl) (fun Q hQ => ?_)
  refine g_iload_n rfl dX4_store_0 ?_
  refine gi_X4_83 (ev_X4_isStore j M) rfl rfl ⟨Nat.le_of_ble_eq_true rfl, Nat.le_of_ble_eq_true rfl, Nat.le_of_ble_eq_true rfl, Nat.le_of_ble_eq_true rfl⟩ (Nat.le_of_ble_eq_true rfl) dX4_store_1 (fun r1 M1 hq1 => ?_)
  obtain ⟨rfl, rfl⟩ := hq1
  refine g_if_ne (tgt := 9) dX4_store_4 (by decide) (fun c4 => ?_) (fun c4 => ?_)
  · refine g_iload_n rfl dX4_store_9 ?_
    refine gi_X4_86 (ev_X4_isKind kd M) rfl rfl ⟨Nat.le_of_ble_eq_true rfl, Nat.le_of_ble_eq_true rfl, Nat.le_of_ble_eq_true rfl, Nat.le_of_ble_eq_true rfl⟩ (Nat.le_of_ble_eq_true rfl) dX4_store_10 (fun r10 M10 hq10 => ?_)
    obtain ⟨rfl, rfl⟩ := hq10
    refine g_if_eq (tgt := 28) dX4_store_13 (by decide) (fun c13 => ?_) (fun c13 => ?_)
    · rw [bI_dn] at c4
      rw [bI_d0] at c13
      rw [if_pos c4, if_neg (fun q => c13 q.1), if_neg (fun q => c13 q.2.1)] at hQ
      refine g_bipush (by decide) dX4_store_28 ?_
      refine g_ireturn rfl dX4_store_30 ?_
      exact hQ
    · refine g_iload_n rfl dX4_store_16 ?_
      refine g_iconst dX4_store_17 ?_
      refine g_icmp_ne (tgt := 31) dX4_store_18 (by decide) (fun c18 => ?_) (fun c18 => ?_)
      · rw [bI_dn] at c4 c13
        have ck : okK kd d := by
          first
          | exact ⟨c13, fun q => absurd q c18⟩
          | (rw [bI_dn] at c25
             exact ⟨c13, fun _ => c25⟩)
        rw [if_pos c4, if_pos ck, if_pos ⟨c4, ck⟩] at hQ
        obtain ⟨n, hn1, hn2, rfl⟩ := okS_n c4
        rw [tnN (by omega)] at hQ
        refine g_aload_n rfl dX4_store_31 ?_
        refine g_iload_n rfl dX4_store_32 ?_
        refine gi_X4_64 (by decide) rfl (ev_X4_storeOf hn1 hn2 M) rfl rfl ⟨Nat.le_of_ble_eq_true rfl, Nat.le_of_ble_eq_true rfl, Nat.le_of_ble_eq_true rfl, Nat.le_of_ble_eq_true rfl⟩ (Nat.le_of_ble_eq_true rfl) dX4_store_33 (fun r33 M33 hq33 => ?_)
        obtain ⟨rfl, rfl⟩ := hq33
        refine g_astore (L2 := [(0, _), (1, _), (2, _), (3, _), (4, _)]) (by decide) rfl dX4_store_36 ?_
        refine g_aload rfl dX4_store_38 ?_
        refine gf_X4_92 (by omega) (shS n hn2 hn1) dX4_store_40 ?_
        refine g_istore (L2 := [(0, _), (1, _), (2, _), (3, _), (4, _), (5, _)]) (by decide) rfl dX4_store_43 ?_
        refine g_aload rfl dX4_store_45 ?_
        refine g_iload_n rfl dX4_store_47 ?_
        refine g_iload_n rfl dX4_store_48 ?_
        refine g_aload_n rfl dX4_store_49 ?_
        refine gf_X4_9 (by decide) rfl rfl dX4_store_50 ?_
        refine gi_X4_68 (by omega) (shS n hn2 hn1) (ev_X3_become hn1 hn2 kd d M) rfl rfl ⟨Nat.le_of_ble_eq_true rfl, Nat.le_of_ble_eq_true rfl, Nat.le_of_ble_eq_true rfl, Nat.le_of_ble_eq_true rfl⟩ (Nat.le_of_ble_eq_true rfl) dX4_store_53 (fun r53 M53 hq53 => ?_)
        obtain ⟨rfl, rfl⟩ := hq53
        refine g_iload rfl dX4_store_56 ?_
        refine g_ireturn rfl dX4_store_58 ?_
        exact hQ
      · refine g_iload_n rfl dX4_store_21 ?_
        refine gi_X4_89 (ev_X4_isLie d M) rfl rfl ⟨Nat.le_of_ble_eq_true rfl, Nat.le_of_ble_eq_true rfl, Nat.le_of_ble_eq_true rfl, Nat.le_of_ble_eq_true rfl⟩ (Nat.le_of_ble_eq_true rfl) dX4_store_22 (fun r22 M22 hq22 => ?_)
        obtain ⟨rfl, rfl⟩ := hq22
        refine g_if_ne (tgt := 31) dX4_store_25 (by decide) (fun c25 => ?_) (fun c25 => ?_)
        · rw [bI_dn] at c4 c13
          have ck : okK kd d := by
            first
            | exact ⟨c13, fun q => absurd q c18⟩
            | (rw [bI_dn] at c25
               exact ⟨c13, fun _ => c25⟩)
          rw [if_pos c4, if_pos ck, if_pos ⟨c4, ck⟩] at hQ
          obtain ⟨n, hn1, hn2, rfl⟩ := okS_n c4
          rw [tnN (by omega)] at hQ
          refine g_aload_n rfl dX4_store_31 ?_
          refine g_iload_n rfl dX4_store_32 ?_
          refine gi_X4_64 (by decide) rfl (ev_X4_storeOf hn1 hn2 M) rfl rfl ⟨Nat.le_of_ble_eq_true rfl, Nat.le_of_ble_eq_true rfl, Nat.le_of_ble_eq_true rfl, Nat.le_of_ble_eq_true rfl⟩ (Nat.le_of_ble_eq_true rfl) dX4_store_33 (fun r33 M33 hq33 => ?_)
          obtain ⟨rfl, rfl⟩ := hq33
          refine g_astore (L2 := [(0, _), (1, _), (2, _), (3, _), (4, _)]) (by decide) rfl dX4_store_36 ?_
          refine g_aload rfl dX4_store_38 ?_
          refine gf_X4_92 (by omega) (shS n hn2 hn1) dX4_store_40 ?_
          refine g_istore (L2 := [(0, _), (1, _), (2, _), (3, _), (4, _), (5, _)]) (by decide) rfl dX4_store_43 ?_
          refine g_aload rfl dX4_store_45 ?_
          refine g_iload_n rfl dX4_store_47 ?_
          refine g_iload_n rfl dX4_store_48 ?_
          refine g_aload_n rfl dX4_store_49 ?_
          refine gf_X4_9 (by decide) rfl rfl dX4_store_50 ?_
          refine gi_X4_68 (by omega) (shS n hn2 hn1) (ev_X3_become hn1 hn2 kd d M) rfl rfl ⟨Nat.le_of_ble_eq_true rfl, Nat.le_of_ble_eq_true rfl, Nat.le_of_ble_eq_true rfl, Nat.le_of_ble_eq_true rfl⟩ (Nat.le_of_ble_eq_true rfl) dX4_store_53 (fun r53 M53 hq53 => ?_)
          obtain ⟨rfl, rfl⟩ := hq53
          refine g_iload rfl dX4_store_56 ?_
          refine g_ireturn rfl dX4_store_58 ?_
          exact hQ
        · rw [bI_dn] at c4 c13
          rw [bI_d0] at c25
          rw [if_pos c4, if_neg (fun q => c25 (q.2 c18)), if_neg (fun q => c25 (q.2.2 c18))] at hQ
          refine g_bipush (by decide) dX4_store_28 ?_
          refine g_ireturn rfl dX4_store_30 ?_
          exact hQ
  · refine g_iconst dX4_store_7 ?_
    refine g_ireturn rfl dX4_store_8 ?_
    rw [bI_d0] at c4
    rw [if_neg c4, if_neg (fun q => c4 q.1)] at hQ
    exact hQ
abbrev okT (kd w : Int32) : Prop := (0 ≤ kd.toInt ∧ kd.toInt ≤ 3) ∧ 0 ≤ w.toInt ∧ w.toInt ≤ 2
def takX (M : Mem) (j : Nat) (kd w : Int32) : Int32 :=
  if ¬ kd = 0 ∧ ¬ kd = M (3 + j) 1 then zI (-13) else if w = 0 then M (3 + j) 1 else if w = zI 1 then (if M (3 + j) 1 = zI 1 then M (3 + j) 2 else zI (-9)) else if mi M (3 + j) 1 = 3 then zI (-9) else M (hc M j) 0
theorem ev_X4_taken {M : Mem} (j kd w : Int32) : EvF yX4_taken cX4_taken 5 (some .int) 2 [.ref 0, .int j, .int kd, .int w] M (some (.int (if okS j then (if okT kd w then takX M j.toInt.toNat kd w else zI (-2)) else zI (-1)))) M := by
  refine EvF.of (by decide +kernel) (Nat.le_of_ble_eq_true rfl) (fun Q hQ => ?_)
  refine g_iload_n rfl dX4_taken_0 ?_
  refine gi_X4_83 (ev_X4_isStore j M) rfl rfl ⟨Nat.le_of_ble_eq_true rfl, Nat.le_of_ble_eq_true rfl, Nat.le_of_ble_eq_true rfl, Nat.le_of_ble_eq_true rfl⟩ (Nat.le_of_ble_eq_true rfl) dX4_taken_1 (fun r1 M1 hq1 => ?_)
  obtain ⟨rfl, rfl⟩ := hq1
  refine g_if_ne (tgt := 9) dX4_taken_4 (by decide) (fun c4 => ?_) (fun c4 => ?_)
  · refine g_iload_n rfl dX4_taken_9 ?_
    refine gi_X4_86 (ev_X4_isKind kd M) rfl rfl ⟨Nat.le_of_ble_eq_true rfl, Nat.le_of_ble_eq_true rfl, Nat.le_of_ble_eq_true rfl, Nat.le_of_ble_eq_true rfl⟩ (Nat.le_of_ble_eq_true rfl) dX4_taken_10 (fun r10 M10 hq10 => ?_)
    obtain ⟨rfl, rfl⟩ := hq10
    refine g_if_eq (tgt := 25) dX4_taken_13 (by decide) (fun c13 => ?_) (fun c13 => ?_)
    · rw [bI_dn] at c4
      have ck : ¬ okT kd w := by
        first
        | (rw [bI_d0] at c13
           exact fun q => c13 q.1)
        | (simp (disch := omega) only [i_lt, i_le, zI_toInt, i_0] at c17
           exact fun q => absurd q.2.1 (by omega))
        | (simp (disch := omega) only [i_lt, i_le, zI_toInt, i_0] at c22
           exact fun q => absurd q.2.2 (by omega))
      rw [if_pos c4, if_neg ck] at hQ
      refine g_bipush (by decide) dX4_taken_25 ?_
      refine g_ireturn rfl dX4_taken_27 ?_
      exact hQ
    · refine g_iload_n rfl dX4_taken_16 ?_
      refine g_if_lt (tgt := 25) dX4_taken_17 (by decide) (fun c17 => ?_) (fun c17 => ?_)
      · rw [bI_dn] at c4
        have ck : ¬ okT kd w := by
          first
          | (rw [bI_d0] at c13
             exact fun q => c13 q.1)
          | (simp (disch := omega) only [i_lt, i_le, zI_toInt, i_0] at c17
             exact fun q => absurd q.2.1 (by omega))
          | (simp (disch := omega) only [i_lt, i_le, zI_toInt, i_0] at c22
             exact fun q => absurd q.2.2 (by omega))
        rw [if_pos c4, if_neg ck] at hQ
        refine g_bipush (by decide) dX4_taken_25 ?_
        refine g_ireturn rfl dX4_taken_27 ?_
        exact hQ
      · refine g_iload_n rfl dX4_taken_20 ?_
        refine g_iconst dX4_taken_21 ?_
        refine g_icmp_le (tgt := 28) dX4_taken_22 (by decide) (fun c22 => ?_) (fun c22 => ?_)
        · rw [bI_dn] at c4 c13
          simp (disch := omega) only [i_lt, i_le, zI_toInt, i_0] at c17 c22
          rw [if_pos c4, if_pos ⟨c13, by omega, by omega⟩] at hQ
          obtain ⟨n, hn1, hn2, rfl⟩ := okS_n c4
          rw [tnN (by omega), takX] at hQ
          refine g_aload_n rfl dX4_taken_28 ?_
          refine g_iload_n rfl dX4_taken_29 ?_
          refine gi_X4_64 (by decide) rfl (ev_X4_storeOf hn1 hn2 M) rfl rfl ⟨Nat.le_of_ble_eq_true rfl, Nat.le_of_ble_eq_true rfl, Nat.le_of_ble_eq_true rfl, Nat.le_of_ble_eq_true rfl⟩ (Nat.le_of_ble_eq_true rfl) dX4_taken_30 (fun r30 M30 hq30 => ?_)
          obtain ⟨rfl, rfl⟩ := hq30
          refine g_astore (L2 := [(0, _), (1, _), (2, _), (3, _), (4, _)]) (by decide) rfl dX4_taken_33 ?_
          refine g_iload_n rfl dX4_taken_35 ?_
          refine g_if_eq (tgt := 51) dX4_taken_36 (by decide) (fun c36 => ?_) (fun c36 => ?_)
          · have ck : ¬ (¬ kd = 0 ∧ ¬ kd = M (3 + n) 1) := by
              first
              | exact fun q => q.1 c36
              | exact fun q => q.2 c45
            rw [if_neg ck] at hQ
            refine g_iload_n rfl dX4_taken_51 ?_
            refine g_if_ne (tgt := 61) dX4_taken_52 (by decide) (fun c52 => ?_) (fun c52 => ?_)
            · refine g_iload_n rfl dX4_taken_61 ?_
              refine g_iconst dX4_taken_62 ?_
              refine g_icmp_ne (tgt := 86) dX4_taken_63 (by decide) (fun c63 => ?_) (fun c63 => ?_)
              · refine g_aload_n rfl dX4_taken_86 ?_
                refine g_aload rfl dX4_taken_87 ?_
                refine g_iconst dX4_taken_89 ?_
                refine gi_X4_98 (by decide) rfl (ev_X4_copied (j := n) (i := 0) hn1 hn2 (by decide) M) rfl rfl ⟨Nat.le_of_ble_eq_true rfl, Nat.le_of_ble_eq_true rfl, Nat.le_of_ble_eq_true rfl, Nat.le_of_ble_eq_true rfl⟩ (Nat.le_of_ble_eq_true rfl) dX4_taken_90 (fun r90 M90 hq90 => ?_)
                obtain ⟨rfl, rfl⟩ := hq90
                refine g_ireturn rfl dX4_taken_93 ?_
                rw [if_neg c52, if_neg c63] at hQ
                exact hQ
              · refine g_aload rfl dX4_taken_66 ?_
                refine gf_X4_92 (by omega) (shS n hn2 hn1) dX4_taken_68 ?_
                refine g_iconst dX4_taken_71 ?_
                refine g_icmp_ne (tgt := 83) dX4_taken_72 (by decide) (fun c72 => ?_) (fun c72 => ?_)
                · refine g_bipush (by decide) dX4_taken_83 ?_
                  refine g_ireturn rfl dX4_taken_85 ?_
                  rw [if_neg c52, if_pos c63, if_neg c72] at hQ
                  exact hQ
                · refine g_aload rfl dX4_taken_75 ?_
                  refine gf_X4_95 (by omega) (shS n hn2 hn1) dX4_taken_77 ?_
                  refine g_goto (tgt := 85) dX4_taken_80 (by decide) ?_
                  refine g_ireturn rfl dX4_taken_85 ?_
                  rw [if_neg c52, if_pos c63, if_pos c72] at hQ
                  exact hQ
            · refine g_aload rfl dX4_taken_55 ?_
              refine gf_X4_92 (by omega) (shS n hn2 hn1) dX4_taken_57 ?_
              refine g_ireturn rfl dX4_taken_60 ?_
              rw [if_pos c52] at hQ
              exact hQ
          · refine g_iload_n rfl dX4_taken_39 ?_
            refine g_aload rfl dX4_taken_40 ?_
            refine gf_X4_92 (by omega) (shS n hn2 hn1) dX4_taken_42 ?_
            refine g_icmp_eq (tgt := 51) dX4_taken_45 (by decide) (fun c45 => ?_) (fun c45 => ?_)
            · have ck : ¬ (¬ kd = 0 ∧ ¬ kd = M (3 + n) 1) := by
                first
                | exact fun q => q.1 c36
                | exact fun q => q.2 c45
              rw [if_neg ck] at hQ
              refine g_iload_n rfl dX4_taken_51 ?_
              refine g_if_ne (tgt := 61) dX4_taken_52 (by decide) (fun c52 => ?_) (fun c52 => ?_)
              · refine g_iload_n rfl dX4_taken_61 ?_
                refine g_iconst dX4_taken_62 ?_
                refine g_icmp_ne (tgt := 86) dX4_taken_63 (by decide) (fun c63 => ?_) (fun c63 => ?_)
                · refine g_aload_n rfl dX4_taken_86 ?_
                  refine g_aload rfl dX4_taken_87 ?_
                  refine g_iconst dX4_taken_89 ?_
                  refine gi_X4_98 (by decide) rfl (ev_X4_copied (j := n) (i := 0) hn1 hn2 (by decide) M) rfl rfl ⟨Nat.le_of_ble_eq_true rfl, Nat.le_of_ble_eq_true rfl, Nat.le_of_ble_eq_true rfl, Nat.le_of_ble_eq_true rfl⟩ (Nat.le_of_ble_eq_true rfl) dX4_taken_90 (fun r90 M90 hq90 => ?_)
                  obtain ⟨rfl, rfl⟩ := hq90
                  refine g_ireturn rfl dX4_taken_93 ?_
                  rw [if_neg c52, if_neg c63] at hQ
                  exact hQ
                · refine g_aload rfl dX4_taken_66 ?_
                  refine gf_X4_92 (by omega) (shS n hn2 hn1) dX4_taken_68 ?_
                  refine g_iconst dX4_taken_71 ?_
                  refine g_icmp_ne (tgt := 83) dX4_taken_72 (by decide) (fun c72 => ?_) (fun c72 => ?_)
                  · refine g_bipush (by decide) dX4_taken_83 ?_
                    refine g_ireturn rfl dX4_taken_85 ?_
                    rw [if_neg c52, if_pos c63, if_neg c72] at hQ
                    exact hQ
                  · refine g_aload rfl dX4_taken_75 ?_
                    refine gf_X4_95 (by omega) (shS n hn2 hn1) dX4_taken_77 ?_
                    refine g_goto (tgt := 85) dX4_taken_80 (by decide) ?_
                    refine g_ireturn rfl dX4_taken_85 ?_
                    rw [if_neg c52, if_pos c63, if_pos c72] at hQ
                    exact hQ
              · refine g_aload rfl dX4_taken_55 ?_
                refine gf_X4_92 (by omega) (shS n hn2 hn1) dX4_taken_57 ?_
                refine g_ireturn rfl dX4_taken_60 ?_
                rw [if_pos c52] at hQ
                exact hQ
            · refine g_bipush (by decide) dX4_taken_48 ?_
              refine g_ireturn rfl dX4_taken_50 ?_
              rw [if_pos ⟨c36, c45⟩] at hQ
              exact hQ
        · rw [bI_dn] at c4
          have ck : ¬ okT kd w := by
            first
            | (rw [bI_d0] at c13
               exact fun q => c13 q.1)
            | (simp (disch := omega) only [i_lt, i_le, zI_toInt, i_0] at c17
               exact fun q => absurd q.2.1 (by omega))
            | (simp (disch := omega) only [i_lt, i_le, zI_toInt, i_0] at c22
               exact fun q => absurd q.2.2 (by omega))
          rw [if_pos c4, if_neg ck] at hQ
          refine g_bipush (by decide) dX4_taken_25 ?_
          refine g_ireturn rfl dX4_taken_27 ?_
          exact hQ
  · refine g_iconst dX4_taken_7 ?_
    refine g_ireturn rfl dX4_taken_8 ?_
    rw [bI_d0] at c4
    rw [if_neg c4] at hQ
    exact hQ
def copX (M : Mem) (j i : Nat) : Int32 := if mi M (3 + j) 1 = 3 then zI (-9) else M (hc M j) i
theorem ev_X4_copy {M : Mem} (hw : WX M) (j i : Int32) : EvF yX4_copy cX4_copy 3 (some .int) 2 [.ref 0, .int j, .int i] M (some (.int (if okS j ∧ okR M i then copX M j.toInt.toNat i.toInt.toNat else zI (-1)))) M := by
  refine EvF.of (by decide +kernel) (Nat.le_of_ble_eq_true rfl) (fun Q hQ => ?_)
  obtain ⟨hm1, hm2, -, hm⟩ := hw.m
  refine g_iload_n rfl dX4_copy_0 ?_
  refine gi_X4_83 (ev_X4_isStore j M) rfl rfl ⟨Nat.le_of_ble_eq_true rfl, Nat.le_of_ble_eq_true rfl, Nat.le_of_ble_eq_true rfl, Nat.le_of_ble_eq_true rfl⟩ (Nat.le_of_ble_eq_true rfl) dX4_copy_1 (fun r1 M1 hq1 => ?_)
  obtain ⟨rfl, rfl⟩ := hq1
  refine g_if_eq (tgt := 15) dX4_copy_4 (by decide) (fun c4 => ?_) (fun c4 => ?_)
  · refine g_iconst dX4_copy_15 ?_
    refine g_ireturn rfl dX4_copy_16 ?_
    rw [bI_d0] at c4
    rw [if_neg (fun q => c4 q.1)] at hQ
    exact hQ
  · refine g_aload_n rfl dX4_copy_7 ?_
    refine g_iload_n rfl dX4_copy_8 ?_
    refine gi_X4_76 (by decide) rfl (ev_X4_isRecord hm1 hm2 hm i) rfl rfl ⟨Nat.le_of_ble_eq_true rfl, Nat.le_of_ble_eq_true rfl, Nat.le_of_ble_eq_true rfl, Nat.le_of_ble_eq_true rfl⟩ (Nat.le_of_ble_eq_true rfl) dX4_copy_9 (fun r9 M9 hq9 => ?_)
    obtain ⟨rfl, rfl⟩ := hq9
    refine g_if_ne (tgt := 17) dX4_copy_12 (by decide) (fun c12 => ?_) (fun c12 => ?_)
    · rw [bI_dn] at c4 c12
      rw [if_pos ⟨c4, c12⟩] at hQ
      obtain ⟨n, hn1, hn2, rfl⟩ := okS_n c4
      obtain ⟨r, hr1, hr2, rfl⟩ := okR_n hw c12
      rw [tnN (by omega), tnN (by omega), copX] at hQ
      refine g_aload_n rfl dX4_copy_17 ?_
      refine g_aload_n rfl dX4_copy_18 ?_
      refine g_iload_n rfl dX4_copy_19 ?_
      refine gi_X4_64 (by decide) rfl (ev_X4_storeOf hn1 hn2 M) rfl rfl ⟨Nat.le_of_ble_eq_true rfl, Nat.le_of_ble_eq_true rfl, Nat.le_of_ble_eq_true rfl, Nat.le_of_ble_eq_true rfl⟩ (Nat.le_of_ble_eq_true rfl) dX4_copy_20 (fun r20 M20 hq20 => ?_)
      obtain ⟨rfl, rfl⟩ := hq20
      refine g_iload_n rfl dX4_copy_23 ?_
      refine gi_X4_98 (by decide) rfl (ev_X4_copied (j := n) (i := r) hn1 hn2 hr2 M) rfl rfl ⟨Nat.le_of_ble_eq_true rfl, Nat.le_of_ble_eq_true rfl, Nat.le_of_ble_eq_true rfl, Nat.le_of_ble_eq_true rfl⟩ (Nat.le_of_ble_eq_true rfl) dX4_copy_24 (fun r24 M24 hq24 => ?_)
      obtain ⟨rfl, rfl⟩ := hq24
      refine g_ireturn rfl dX4_copy_27 ?_
      exact hQ
    · refine g_iconst dX4_copy_15 ?_
      refine g_ireturn rfl dX4_copy_16 ?_
      rw [bI_d0] at c12
      rw [if_neg (fun q => c12 q.2)] at hQ
      exact hQ
