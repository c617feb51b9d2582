/-! class SilentAsking: its calls, on -/
theorem asked_iff {M : Mem} (hw : WX M) : M 22 2 = 0 ↔ ¬ mi M 22 2 = 1 := by
  rw [zI_zero, eqz_mi (by decide) (by decide)]
  have := hw.as
  omega
abbrev okV (s : Int32) : Prop := s = zI (-9) ∨ 0 ≤ s.toInt
theorem ev_X4_veil {M : Mem} (hw : WX M) (s : Int32) : EvF yX4_veil cX4_veil 3 (some .int) 2 [.ref 0, .int s] M (some (.int (if okV s then (if M 22 2 = 0 then zI (-3) else if M 22 3 = 0 then zI 0 else zI 1) else zI (-2)))) (if okV s ∧ ¬ M 22 2 = 0 then vebX M s.toInt else M) := by
  refine EvF.of (by decide +kernel) (Nat.le_of_ble_eq_true rfl) (fun Q hQ => ?_)
  have hv9 : okV s → s.toInt = -9 ∨ 0 ≤ s.toInt := fun h => h.imp (fun q => by rw [q]; decide) id
  refine g_iload_n rfl dX4_veil_0 ?_
  refine g_bipush (by decide) dX4_veil_1 ?_
  refine g_icmp_eq (tgt := 16) dX4_veil_3 (by decide) (fun c3 => ?_) (fun c3 => ?_)
  · have ck : okV s := by
      first
      | exact Or.inl c3
      | (rw [bI_dn] at c10
         exact Or.inr c10)
    rw [if_pos ck] at hQ
    refine g_aload_n rfl dX4_veil_16 ?_
    refine gf_X4_25 (by decide) rfl rfl dX4_veil_17 ?_
    refine gf_X4_72 (by decide) rfl dX4_veil_20 ?_
    refine g_if_ne (tgt := 29) dX4_veil_23 (by decide) (fun c23 => ?_) (fun c23 => ?_)
    · refine g_aload_n rfl dX4_veil_29 ?_
      refine gf_X4_25 (by decide) rfl rfl dX4_veil_30 ?_
      refine gf_X4_119 (by decide) rfl dX4_veil_33 ?_
      refine g_if_eq (tgt := 43) dX4_veil_36 (by decide) (fun c36 => ?_) (fun c36 => ?_)
      · refine g_iconst dX4_veil_43 ?_
        refine g_istore_n (L2 := [(0, _), (1, _), (2, _)]) (by decide) rfl dX4_veil_44 ?_
        have ck2 : okV s ∧ ¬ M 22 2 = 0 := ⟨ck, c23⟩
        rw [if_neg c23, if_pos ck2] at hQ
        first
        | rw [if_pos c36] at hQ
        | rw [if_neg c36] at hQ
        refine g_aload_n rfl dX4_veil_45 ?_
        refine gf_X4_25 (by decide) rfl rfl dX4_veil_46 ?_
        refine g_iload_n rfl dX4_veil_49 ?_
        rw [← zI_of s]
        refine gi_X4_122 (by decide) rfl (ev_X1_veilBy (M := M) (s := s.toInt) hw.dgb (hv9 ck) (i_bd s).2) rfl rfl ⟨Nat.le_of_ble_eq_true rfl, Nat.le_of_ble_eq_true rfl, Nat.le_of_ble_eq_true rfl, Nat.le_of_ble_eq_true rfl⟩ (Nat.le_of_ble_eq_true rfl) dX4_veil_50 (fun r50 M50 hq50 => ?_)
        obtain ⟨rfl, rfl⟩ := hq50
        refine g_iload_n rfl dX4_veil_53 ?_
        refine g_ireturn rfl dX4_veil_54 ?_
        exact hQ
      · refine g_iconst dX4_veil_39 ?_
        refine g_goto (tgt := 44) dX4_veil_40 (by decide) ?_
        refine g_istore_n (L2 := [(0, _), (1, _), (2, _)]) (by decide) rfl dX4_veil_44 ?_
        have ck2 : okV s ∧ ¬ M 22 2 = 0 := ⟨ck, c23⟩
        rw [if_neg c23, if_pos ck2] at hQ
        first
        | rw [if_pos c36] at hQ
        | rw [if_neg c36] at hQ
        refine g_aload_n rfl dX4_veil_45 ?_
        refine gf_X4_25 (by decide) rfl rfl dX4_veil_46 ?_
        refine g_iload_n rfl dX4_veil_49 ?_
        rw [← zI_of s]
        refine gi_X4_122 (by decide) rfl (ev_X1_veilBy (M := M) (s := s.toInt) hw.dgb (hv9 ck) (i_bd s).2) rfl rfl ⟨Nat.le_of_ble_eq_true rfl, Nat.le_of_ble_eq_true rfl, Nat.le_of_ble_eq_true rfl, Nat.le_of_ble_eq_true rfl⟩ (Nat.le_of_ble_eq_true rfl) dX4_veil_50 (fun r50 M50 hq50 => ?_)
        obtain ⟨rfl, rfl⟩ := hq50
        refine g_iload_n rfl dX4_veil_53 ?_
        refine g_ireturn rfl dX4_veil_54 ?_
        exact hQ
    · refine g_bipush (by decide) dX4_veil_26 ?_
      refine g_ireturn rfl dX4_veil_28 ?_
      rw [if_pos c23, if_neg (fun q => q.2 c23)] at hQ
      exact hQ
  · refine g_iload_n rfl dX4_veil_6 ?_
    refine gi_X4_109 (ev_X4_isSeed s M) rfl rfl ⟨Nat.le_of_ble_eq_true rfl, Nat.le_of_ble_eq_true rfl, Nat.le_of_ble_eq_true rfl, Nat.le_of_ble_eq_true rfl⟩ (Nat.le_of_ble_eq_true rfl) dX4_veil_7 (fun r7 M7 hq7 => ?_)
    obtain ⟨rfl, rfl⟩ := hq7
    refine g_if_ne (tgt := 16) dX4_veil_10 (by decide) (fun c10 => ?_) (fun c10 => ?_)
    · have ck : okV s := by
        first
        | exact Or.inl c3
        | (rw [bI_dn] at c10
           exact Or.inr c10)
      rw [if_pos ck] at hQ
      refine g_aload_n rfl dX4_veil_16 ?_
      refine gf_X4_25 (by decide) rfl rfl dX4_veil_17 ?_
      refine gf_X4_72 (by decide) rfl dX4_veil_20 ?_
      refine g_if_ne (tgt := 29) dX4_veil_23 (by decide) (fun c23 => ?_) (fun c23 => ?_)
      · refine g_aload_n rfl dX4_veil_29 ?_
        refine gf_X4_25 (by decide) rfl rfl dX4_veil_30 ?_
        refine gf_X4_119 (by decide) rfl dX4_veil_33 ?_
        refine g_if_eq (tgt := 43) dX4_veil_36 (by decide) (fun c36 => ?_) (fun c36 => ?_)
        · refine g_iconst dX4_veil_43 ?_
          refine g_istore_n (L2 := [(0, _), (1, _), (2, _)]) (by decide) rfl dX4_veil_44 ?_
          have ck2 : okV s ∧ ¬ M 22 2 = 0 := ⟨ck, c23⟩
          rw [if_neg c23, if_pos ck2] at hQ
          first
          | rw [if_pos c36] at hQ
          | rw [if_neg c36] at hQ
          refine g_aload_n rfl dX4_veil_45 ?_
          refine gf_X4_25 (by decide) rfl rfl dX4_veil_46 ?_
          refine g_iload_n rfl dX4_veil_49 ?_
          rw [← zI_of s]
          refine gi_X4_122 (by decide) rfl (ev_X1_veilBy (M := M) (s := s.toInt) hw.dgb (hv9 ck) (i_bd s).2) rfl rfl ⟨Nat.le_of_ble_eq_true rfl, Nat.le_of_ble_eq_true rfl, Nat.le_of_ble_eq_true rfl, Nat.le_of_ble_eq_true rfl⟩ (Nat.le_of_ble_eq_true rfl) dX4_veil_50 (fun r50 M50 hq50 => ?_)
          obtain ⟨rfl, rfl⟩ := hq50
          refine g_iload_n rfl dX4_veil_53 ?_
          refine g_ireturn rfl dX4_veil_54 ?_
          exact hQ
        · refine g_iconst dX4_veil_39 ?_
          refine g_goto (tgt := 44) dX4_veil_40 (by decide) ?_
          refine g_istore_n (L2 := [(0, _), (1, _), (2, _)]) (by decide) rfl dX4_veil_44 ?_
          have ck2 : okV s ∧ ¬ M 22 2 = 0 := ⟨ck, c23⟩
          rw [if_neg c23, if_pos ck2] at hQ
          first
          | rw [if_pos c36] at hQ
          | rw [if_neg c36] at hQ
          refine g_aload_n rfl dX4_veil_45 ?_
          refine gf_X4_25 (by decide) rfl rfl dX4_veil_46 ?_
          refine g_iload_n rfl dX4_veil_49 ?_
          rw [← zI_of s]
          refine gi_X4_122 (by decide) rfl (ev_X1_veilBy (M := M) (s := s.toInt) hw.dgb (hv9 ck) (i_bd s).2) rfl rfl ⟨Nat.le_of_ble_eq_true rfl, Nat.le_of_ble_eq_true rfl, Nat.le_of_ble_eq_true rfl, Nat.le_of_ble_eq_true rfl⟩ (Nat.le_of_ble_eq_true rfl) dX4_veil_50 (fun r50 M50 hq50 => ?_)
          obtain ⟨rfl, rfl⟩ := hq50
          refine g_iload_n rfl dX4_veil_53 ?_
          refine g_ireturn rfl dX4_veil_54 ?_
          exact hQ
      · refine g_bipush (by decide) dX4_veil_26 ?_
        refine g_ireturn rfl dX4_veil_28 ?_
        rw [if_pos c23, if_neg (fun q => q.2 c23)] at hQ
        exact hQ
    · refine g_bipush (by decide) dX4_veil_13 ?_
      refine g_ireturn rfl dX4_veil_15 ?_
      rw [bI_d0] at c10
      have ck : ¬ okV s := fun q => q.elim c3 c10
      rw [if_neg ck, if_neg (fun q => ck q.1)] at hQ
      exact hQ
theorem ev_X4_point {M : Mem} (hw : WX M) (j k : Int32) : EvF yX4_point cX4_point 3 (some .int) 2 [.ref 0, .int j, .int k] M (some (.int (if okS j then (if M 22 2 = 0 then zI (-3) else if 0 ≤ k.toInt ∧ k.toInt < mi M 0 6 then zI (ptX M j.toInt.toNat k.toInt.toNat) else zI (-2)) else zI (-1)))) M := by
  refine EvF.of (by decide +kernel) (Nat.le_of_ble_eq_true rfl) (fun Q hQ => ?_)
  obtain ⟨hm1, hm2, hm3, hm⟩ := hw.m
  have hkf := hw.kf
  refine g_iload_n rfl dX4_point_0 ?_
  refine gi_X4_83 (ev_X4_isStore j M) rfl rfl ⟨Nat.le_of_ble_eq_true rfl, Nat.le_of_ble_eq_true rfl, Nat.le_of_ble_eq_true rfl, Nat.le_of_ble_eq_true rfl⟩ (Nat.le_of_ble_eq_true rfl) dX4_point_1 (fun r1 M1 hq1 => ?_)
  obtain ⟨rfl, rfl⟩ := hq1
  refine g_if_ne (tgt := 9) dX4_point_4 (by decide) (fun c4 => ?_) (fun c4 => ?_)
  · refine g_aload_n rfl dX4_point_9 ?_
    refine gf_X4_25 (by decide) rfl rfl dX4_point_10 ?_
    refine gf_X4_72 (by decide) rfl dX4_point_13 ?_
    refine g_if_ne (tgt := 22) dX4_point_16 (by decide) (fun c16 => ?_) (fun c16 => ?_)
    · refine g_iload_n rfl dX4_point_22 ?_
      refine g_if_lt (tgt := 34) dX4_point_23 (by decide) (fun c23 => ?_) (fun c23 => ?_)
      · rw [bI_dn] at c4
        have ck : ¬ (0 ≤ k.toInt ∧ k.toInt < mi M 0 6) := by
          first
          | (simp (disch := omega) only [i_lt, i_le, zI_toInt, i_0] at c23
             omega)
          | (rw [i_lt] at c31
             exact fun q => c31 q.2)
        rw [if_pos c4, if_neg c16, if_neg ck] at hQ
        refine g_bipush (by decide) dX4_point_34 ?_
        refine g_ireturn rfl dX4_point_36 ?_
        exact hQ
      · refine g_iload_n rfl dX4_point_26 ?_
        refine g_aload_n rfl dX4_point_27 ?_
        refine gf_X4_43 (by decide) rfl dX4_point_28 ?_
        refine g_icmp_lt (tgt := 37) dX4_point_31 (by decide) (fun c31 => ?_) (fun c31 => ?_)
        · rw [bI_dn] at c4
          simp (disch := omega) only [i_lt, i_le, zI_toInt, i_0] at c23
          rw [i_lt] at c31
          have ck : 0 ≤ k.toInt ∧ k.toInt < mi M 0 6 := ⟨by omega, c31⟩
          rw [if_pos c4, if_neg c16, if_pos ck] at hQ
          obtain ⟨n, hn1, hn2, rfl⟩ := okS_n c4
          obtain ⟨r, hr, rfl⟩ : ∃ r : Nat, r < 3 ∧ k = zI r := ⟨k.toInt.toNat, by omega, by rw [Int.toNat_of_nonneg (by omega), zI_of]⟩
          rw [tnN (by omega), tnN (by omega)] at hQ
          refine g_aload_n rfl dX4_point_37 ?_
          refine gf_X4_25 (by decide) rfl rfl dX4_point_38 ?_
          refine g_iload_n rfl dX4_point_41 ?_
          refine g_iload_n rfl dX4_point_42 ?_
          refine gi_X4_126 (by decide) rfl (ev_X1_pointNumber (M := M) (j := n) (k := r) (t := (mi M 22 5).toNat) (by omega) hn2 (by omega) hw.wa (by omega) hw.lt) rfl rfl ⟨Nat.le_of_ble_eq_true rfl, Nat.le_of_ble_eq_true rfl, Nat.le_of_ble_eq_true rfl, Nat.le_of_ble_eq_true rfl⟩ (Nat.le_of_ble_eq_true rfl) dX4_point_43 (fun r43 M43 hq43 => ?_)
          obtain ⟨rfl, rfl⟩ := hq43
          refine g_ireturn rfl dX4_point_46 ?_
          exact hQ
        · rw [bI_dn] at c4
          have ck : ¬ (0 ≤ k.toInt ∧ k.toInt < mi M 0 6) := by
            first
            | (simp (disch := omega) only [i_lt, i_le, zI_toInt, i_0] at c23
               omega)
            | (rw [i_lt] at c31
               exact fun q => c31 q.2)
          rw [if_pos c4, if_neg c16, if_neg ck] at hQ
          refine g_bipush (by decide) dX4_point_34 ?_
          refine g_ireturn rfl dX4_point_36 ?_
          exact hQ
    · refine g_bipush (by decide) dX4_point_19 ?_
      refine g_ireturn rfl dX4_point_21 ?_
      rw [bI_dn] at c4
      rw [if_pos c4, if_pos c16] at hQ
      exact hQ
  · refine g_iconst dX4_point_7 ?_
    refine g_ireturn rfl dX4_point_8 ?_
    rw [bI_d0] at c4
    rw [if_neg c4] at hQ
    exact hQ
theorem ev_X4_answer {M : Mem} (hw : WX M) (j : Int32) : Ev yX4_answer cX4_answer 2 (some .int) 3 [.ref 0, .int j] M (fun r M1 => some (.int (if okS j then (if M 22 2 = 0 then zI (-3) else if mi M (3 + j.toInt.toNat) 1 = 3 then zI (-9) else zI (ansX M j.toInt.toNat)) else zI (-1))) = r ∧ Sam M M1) := by
  refine Ev.of (by decide +kernel) (Nat.le_of_ble_eq_true rfl) (fun Q hQ => ?_)
  refine g_iload_n rfl dX4_answer_0 ?_
  refine gi_X4_83 (ev_X4_isStore j M) rfl rfl ⟨Nat.le_of_ble_eq_true rfl, Nat.le_of_ble_eq_true rfl, Nat.le_of_ble_eq_true rfl, Nat.le_of_ble_eq_true rfl⟩ (Nat.le_of_ble_eq_true rfl) dX4_answer_1 (fun r1 M1 hq1 => ?_)
  obtain ⟨rfl, rfl⟩ := hq1
  refine g_if_ne (tgt := 9) dX4_answer_4 (by decide) (fun c4 => ?_) (fun c4 => ?_)
  · refine g_aload_n rfl dX4_answer_9 ?_
    refine gf_X4_25 (by decide) rfl rfl dX4_answer_10 ?_
    refine gf_X4_72 (by decide) rfl dX4_answer_13 ?_
    refine g_if_ne (tgt := 22) dX4_answer_16 (by decide) (fun c16 => ?_) (fun c16 => ?_)
    · rw [bI_dn] at c4
      obtain ⟨n, hn1, hn2, rfl⟩ := okS_n c4
      rw [tnN (by omega)] at hQ
      refine g_aload_n rfl dX4_answer_22 ?_
      refine g_iload_n rfl dX4_answer_23 ?_
      refine gi_X4_64 (by decide) rfl (ev_X4_storeOf hn1 hn2 M) rfl rfl ⟨Nat.le_of_ble_eq_true rfl, Nat.le_of_ble_eq_true rfl, Nat.le_of_ble_eq_true rfl, Nat.le_of_ble_eq_true rfl⟩ (Nat.le_of_ble_eq_true rfl) dX4_answer_24 (fun r24 M24 hq24 => ?_)
      obtain ⟨rfl, rfl⟩ := hq24
      refine gf_X4_92 (by omega) (shS n hn2 hn1) dX4_answer_27 ?_
      refine g_iconst dX4_answer_30 ?_
      refine g_icmp_ne (tgt := 39) dX4_answer_31 (by decide) (fun c31 => ?_) (fun c31 => ?_)
      · refine g_aload_n rfl dX4_answer_39 ?_
        refine g_iload_n rfl dX4_answer_40 ?_
        refine gi_X4_130 (by decide) rfl (ev_X4_toldBy hw hn1 hn2) rfl rfl ⟨Nat.le_of_ble_eq_true rfl, Nat.le_of_ble_eq_true rfl, Nat.le_of_ble_eq_true rfl, Nat.le_of_ble_eq_true rfl⟩ (Nat.le_of_ble_eq_true rfl) dX4_answer_41 (fun r41 M41 hq41 => ?_)
        obtain ⟨rfl, rfl⟩ := hq41
        refine g_ireturn rfl dX4_answer_44 ?_
        rw [eqz_mi (by decide) (by decide)] at c31
        exact hQ _ _ ⟨by rw [if_pos c4, if_neg c16, if_neg c31], (Sam.r M).mf _ (Or.inl rfl)⟩
      · refine g_bipush (by decide) dX4_answer_34 ?_
        refine g_goto (tgt := 44) dX4_answer_36 (by decide) ?_
        refine g_ireturn rfl dX4_answer_44 ?_
        rw [eqz_mi (by decide) (by decide)] at c31
        exact hQ _ _ ⟨by rw [if_pos c4, if_neg c16, if_pos c31], Sam.r M⟩
    · refine g_bipush (by decide) dX4_answer_19 ?_
      refine g_ireturn rfl dX4_answer_21 ?_
      rw [bI_dn] at c4
      exact hQ _ _ ⟨by rw [if_pos c4, if_pos c16], Sam.r M⟩
  · refine g_iconst dX4_answer_7 ?_
    refine g_ireturn rfl dX4_answer_8 ?_
    rw [bI_d0] at c4
    exact hQ _ _ ⟨by rw [if_neg c4], Sam.r M⟩
abbrev okD (m t l : Int32) : Prop := (1 ≤ m.toInt ∧ m.toInt ≤ 3) ∧ (1 ≤ t.toInt ∧ t.toInt ≤ 2) ∧ 0 ≤ l.toInt ∧ l.toInt ≤ 4
theorem ev_X4_needed (M : Mem) (m t l : Int32) : EvF yX4_needed cX4_needed 4 (some .int) 1 [.ref 0, .int m, .int t, .int l] M (some (.int (if okD m t l then m * t + zI 1 + zI 2 * l else zI (-2)))) M := by
  refine EvF.of (by decide +kernel) (Nat.le_of_ble_eq_true rfl) (fun Q hQ => ?_)
  refine g_iload_n rfl dX4_needed_0 ?_
  refine g_iconst dX4_needed_1 ?_
  refine g_icmp_lt (tgt := 26) dX4_needed_2 (by decide) (fun c2 => ?_) (fun c2 => ?_)
  · have ck : ¬ okD m t l := by
      first
      | (simp (disch := omega) only [i_lt, i_le, zI_toInt, i_0] at c2
         exact fun q => absurd q.1.1 (by omega))
      | (simp (disch := omega) only [i_lt, i_le, zI_toInt, i_0] at c7
         exact fun q => absurd q.1.2 (by omega))
      | (rw [bI_d0] at c14
         exact fun q => c14 q.2.1)
      | (simp (disch := omega) only [i_lt, i_le, zI_toInt, i_0] at c18
         exact fun q => absurd q.2.2.1 (by omega))
      | (simp (disch := omega) only [i_lt, i_le, zI_toInt, i_0] at c23
         exact fun q => absurd q.2.2.2 (by omega))
    rw [if_neg ck] at hQ
    refine g_bipush (by decide) dX4_needed_26 ?_
    refine g_ireturn rfl dX4_needed_28 ?_
    exact hQ
  · refine g_iload_n rfl dX4_needed_5 ?_
    refine g_iconst dX4_needed_6 ?_
    refine g_icmp_gt (tgt := 26) dX4_needed_7 (by decide) (fun c7 => ?_) (fun c7 => ?_)
    · have ck : ¬ okD m t l := by
        first
        | (simp (disch := omega) only [i_lt, i_le, zI_toInt, i_0] at c2
           exact fun q => absurd q.1.1 (by omega))
        | (simp (disch := omega) only [i_lt, i_le, zI_toInt, i_0] at c7
           exact fun q => absurd q.1.2 (by omega))
        | (rw [bI_d0] at c14
           exact fun q => c14 q.2.1)
        | (simp (disch := omega) only [i_lt, i_le, zI_toInt, i_0] at c18
           exact fun q => absurd q.2.2.1 (by omega))
        | (simp (disch := omega) only [i_lt, i_le, zI_toInt, i_0] at c23
           exact fun q => absurd q.2.2.2 (by omega))
      rw [if_neg ck] at hQ
      refine g_bipush (by decide) dX4_needed_26 ?_
      refine g_ireturn rfl dX4_needed_28 ?_
      exact hQ
    · refine g_iload_n rfl dX4_needed_10 ?_
      refine gi_X4_106 (ev_X4_isKeptFrom t M) rfl rfl ⟨Nat.le_of_ble_eq_true rfl, Nat.le_of_ble_eq_true rfl, Nat.le_of_ble_eq_true rfl, Nat.le_of_ble_eq_true rfl⟩ (Nat.le_of_ble_eq_true rfl) dX4_needed_11 (fun r11 M11 hq11 => ?_)
      obtain ⟨rfl, rfl⟩ := hq11
      refine g_if_eq (tgt := 26) dX4_needed_14 (by decide) (fun c14 => ?_) (fun c14 => ?_)
      · have ck : ¬ okD m t l := by
          first
          | (simp (disch := omega) only [i_lt, i_le, zI_toInt, i_0] at c2
             exact fun q => absurd q.1.1 (by omega))
          | (simp (disch := omega) only [i_lt, i_le, zI_toInt, i_0] at c7
             exact fun q => absurd q.1.2 (by omega))
          | (rw [bI_d0] at c14
             exact fun q => c14 q.2.1)
          | (simp (disch := omega) only [i_lt, i_le, zI_toInt, i_0] at c18
             exact fun q => absurd q.2.2.1 (by omega))
          | (simp (disch := omega) only [i_lt, i_le, zI_toInt, i_0] at c23
             exact fun q => absurd q.2.2.2 (by omega))
        rw [if_neg ck] at hQ
        refine g_bipush (by decide) dX4_needed_26 ?_
        refine g_ireturn rfl dX4_needed_28 ?_
        exact hQ
      · refine g_iload_n rfl dX4_needed_17 ?_
        refine g_if_lt (tgt := 26) dX4_needed_18 (by decide) (fun c18 => ?_) (fun c18 => ?_)
        · have ck : ¬ okD m t l := by
            first
            | (simp (disch := omega) only [i_lt, i_le, zI_toInt, i_0] at c2
               exact fun q => absurd q.1.1 (by omega))
            | (simp (disch := omega) only [i_lt, i_le, zI_toInt, i_0] at c7
               exact fun q => absurd q.1.2 (by omega))
            | (rw [bI_d0] at c14
               exact fun q => c14 q.2.1)
            | (simp (disch := omega) only [i_lt, i_le, zI_toInt, i_0] at c18
               exact fun q => absurd q.2.2.1 (by omega))
            | (simp (disch := omega) only [i_lt, i_le, zI_toInt, i_0] at c23
               exact fun q => absurd q.2.2.2 (by omega))
          rw [if_neg ck] at hQ
          refine g_bipush (by decide) dX4_needed_26 ?_
          refine g_ireturn rfl dX4_needed_28 ?_
          exact hQ
        · refine g_iload_n rfl dX4_needed_21 ?_
          refine g_iconst dX4_needed_22 ?_
          refine g_icmp_le (tgt := 29) dX4_needed_23 (by decide) (fun c23 => ?_) (fun c23 => ?_)
          · rw [bI_dn] at c14
            simp (disch := omega) only [i_lt, i_le, zI_toInt, i_0] at c2 c7 c18 c23
            rw [if_pos ⟨⟨by omega, by omega⟩, c14, by omega, by omega⟩] at hQ
            refine g_iload_n rfl dX4_needed_29 ?_
            refine g_iload_n rfl dX4_needed_30 ?_
            refine g_imul dX4_needed_31 ?_
            refine g_iconst dX4_needed_32 ?_
            refine g_iadd dX4_needed_33 ?_
            refine g_iconst dX4_needed_34 ?_
            refine g_iload_n rfl dX4_needed_35 ?_
            refine g_imul dX4_needed_36 ?_
            refine g_iadd dX4_needed_37 ?_
            refine g_ireturn rfl dX4_needed_38 ?_
            exact hQ
          · have ck : ¬ okD m t l := by
              first
              | (simp (disch := omega) only [i_lt, i_le, zI_toInt, i_0] at c2
                 exact fun q => absurd q.1.1 (by omega))
              | (simp (disch := omega) only [i_lt, i_le, zI_toInt, i_0] at c7
                 exact fun q => absurd q.1.2 (by omega))
              | (rw [bI_d0] at c14
                 exact fun q => c14 q.2.1)
              | (simp (disch := omega) only [i_lt, i_le, zI_toInt, i_0] at c18
                 exact fun q => absurd q.2.2.1 (by omega))
              | (simp (disch := omega) only [i_lt, i_le, zI_toInt, i_0] at c23
                 exact fun q => absurd q.2.2.2 (by omega))
            rw [if_neg ck] at hQ
            refine g_bipush (by decide) dX4_needed_26 ?_
            refine g_ireturn rfl dX4_needed_28 ?_
            exact hQ
abbrev okB (M : Mem) (set : Int32) : Prop := 0 ≤ set.toInt ∧ set.toInt < 2 ^ (2 ^ xm M)
theorem ev_X4_both {M : Mem} (hw : WX M) (j set : Int32) : EvF yX4_both cX4_both 4 (some .int) 2 [.ref 0, .int j, .int set] M (some (.int (if okS j then (if okB M set then (if mi M (3 + j.toInt.toNat) 1 = 3 then zI (-9) else zI (tosX M j.toInt.toNat set.toInt)) else zI (-2)) else zI (-1)))) M := by
  refine EvF.of (by decide +kernel) (Nat.le_of_ble_eq_true rfl) (fun Q hQ => ?_)
  obtain ⟨hm1, hm2, hm3, hm⟩ := hw.m
  refine g_iload_n rfl dX4_both_0 ?_
  refine gi_X4_83 (ev_X4_isStore j M) rfl rfl ⟨Nat.le_of_ble_eq_true rfl, Nat.le_of_ble_eq_true rfl, Nat.le_of_ble_eq_true rfl, Nat.le_of_ble_eq_true rfl⟩ (Nat.le_of_ble_eq_true rfl) dX4_both_1 (fun r1 M1 hq1 => ?_)
  obtain ⟨rfl, rfl⟩ := hq1
  refine g_if_ne (tgt := 9) dX4_both_4 (by decide) (fun c4 => ?_) (fun c4 => ?_)
  · refine g_aload_n rfl dX4_both_9 ?_
    refine g_iload_n rfl dX4_both_10 ?_
    refine gi_X4_184 (by decide) rfl (ev_X4_isRecordSet hm1 hm2 hm set) rfl rfl ⟨Nat.le_of_ble_eq_true rfl, Nat.le_of_ble_eq_true rfl, Nat.le_of_ble_eq_true rfl, Nat.le_of_ble_eq_true rfl⟩ (Nat.le_of_ble_eq_true rfl) dX4_both_11 (fun r11 M11 hq11 => ?_)
    obtain ⟨rfl, rfl⟩ := hq11
    refine g_if_ne (tgt := 20) dX4_both_14 (by decide) (fun c14 => ?_) (fun c14 => ?_)
    · rw [bI_dn] at c4 c14
      rw [if_pos c4, if_pos c14] at hQ
      obtain ⟨n, hn1, hn2, rfl⟩ := okS_n c4
      rw [tnN (by omega)] at hQ
      refine g_aload_n rfl dX4_both_20 ?_
      refine g_iload_n rfl dX4_both_21 ?_
      refine gi_X4_64 (by decide) rfl (ev_X4_storeOf hn1 hn2 M) rfl rfl ⟨Nat.le_of_ble_eq_true rfl, Nat.le_of_ble_eq_true rfl, Nat.le_of_ble_eq_true rfl, Nat.le_of_ble_eq_true rfl⟩ (Nat.le_of_ble_eq_true rfl) dX4_both_22 (fun r22 M22 hq22 => ?_)
      obtain ⟨rfl, rfl⟩ := hq22
      refine g_astore_n (L2 := [(0, _), (1, _), (2, _), (3, _)]) (by decide) rfl dX4_both_25 ?_
      refine g_aload_n rfl dX4_both_26 ?_
      refine gf_X4_92 (by omega) (shS n hn2 hn1) dX4_both_27 ?_
      refine g_iconst dX4_both_30 ?_
      refine g_icmp_ne (tgt := 39) dX4_both_31 (by decide) (fun c31 => ?_) (fun c31 => ?_)
      · refine g_aload_n rfl dX4_both_39 ?_
        refine g_aload_n rfl dX4_both_40 ?_
        refine g_iload_n rfl dX4_both_41 ?_
        rw [← zI_of set]
        refine gi_X4_187 (by decide) rfl (ev_X4_toldOfSet hw hn1 hn2 c14.1 (i_bd set).2) rfl rfl ⟨Nat.le_of_ble_eq_true rfl, Nat.le_of_ble_eq_true rfl, Nat.le_of_ble_eq_true rfl, Nat.le_of_ble_eq_true rfl⟩ (Nat.le_of_ble_eq_true rfl) dX4_both_42 (fun r42 M42 hq42 => ?_)
        obtain ⟨rfl, rfl⟩ := hq42
        refine g_ireturn rfl dX4_both_45 ?_
        rw [eqz_mi (by decide) (by decide)] at c31
        rw [if_neg c31] at hQ
        exact hQ
      · refine g_bipush (by decide) dX4_both_34 ?_
        refine g_goto (tgt := 45) dX4_both_36 (by decide) ?_
        refine g_ireturn rfl dX4_both_45 ?_
        rw [eqz_mi (by decide) (by decide)] at c31
        rw [if_pos c31] at hQ
        exact hQ
    · refine g_bipush (by decide) dX4_both_17 ?_
      refine g_ireturn rfl dX4_both_19 ?_
      rw [bI_dn] at c4
      rw [bI_d0] at c14
      rw [if_pos c4, if_neg c14] at hQ
      exact hQ
  · refine g_iconst dX4_both_7 ?_
    refine g_ireturn rfl dX4_both_8 ?_
    rw [bI_d0] at c4
    rw [if_neg c4] at hQ
    exact hQ
def flip (set : Int32) (i : Nat) : Int := ((set.toInt.toNat ^^^ 2 ^ i : Nat) : Int)
def paiX (M : Mem) (a b : Nat) (set : Int32) (i : Nat) : Int32 := if mi M (3 + a) 1 = 3 ∨ mi M (3 + b) 1 = 3 then zI (-9) else zI (tosX M a set.toInt) ^^^ zI (tosX M b (flip set i))
theorem ev_X4_pair {M : Mem} (hw : WX M) (a b set i : Int32) : EvF yX4_pair cX4_pair 7 (some .int) 2 [.ref 0, .int a, .int b, .int set, .int i] M (some (.int (if okS a ∧ okS b ∧ okR M i then (if a = b then zI (-3) else if okB M set then paiX M a.toInt.toNat b.toInt.toNat set i.toInt.toNat else zI (-2)) else zI (-1)))) M := by
  refine EvF.of (by decide +kernel) (Nat.le_of_ble_eq_true rfl) (fun Q hQ => ?_)
  obtain ⟨hm1, hm2, hm3, hm⟩ := hw.m
  have hb8 : (2 : Int) ^ (2 ^ xm M) ≤ 256 := by rcases (by omega : xm M = 1 ∨ xm M = 2 ∨ xm M = 3) with e | e | e <;> rw [e] <;> decide
  refine g_iload_n rfl dX4_pair_0 ?_
  refine gi_X4_83 (ev_X4_isStore a M) rfl rfl ⟨Nat.le_of_ble_eq_true rfl, Nat.le_of_ble_eq_true rfl, Nat.le_of_ble_eq_true rfl, Nat.le_of_ble_eq_true rfl⟩ (Nat.le_of_ble_eq_true rfl) dX4_pair_1 (fun r1 M1 hq1 => ?_)
  obtain ⟨rfl, rfl⟩ := hq1
  refine g_if_eq (tgt := 23) dX4_pair_4 (by decide) (fun c4 => ?_) (fun c4 => ?_)
  · have ck : ¬ (okS a ∧ okS b ∧ okR M i) := by
      first
      | (rw [bI_d0] at c4
         exact fun q => c4 q.1)
      | (rw [bI_d0] at c11
         exact fun q => c11 q.2.1)
      | (rw [bI_d0] at c20
         exact fun q => c20 q.2.2)
    rw [if_neg ck] at hQ
    refine g_iconst dX4_pair_23 ?_
    refine g_ireturn rfl dX4_pair_24 ?_
    exact hQ
  · refine g_iload_n rfl dX4_pair_7 ?_
    refine gi_X4_83 (ev_X4_isStore b M) rfl rfl ⟨Nat.le_of_ble_eq_true rfl, Nat.le_of_ble_eq_true rfl, Nat.le_of_ble_eq_true rfl, Nat.le_of_ble_eq_true rfl⟩ (Nat.le_of_ble_eq_true rfl) dX4_pair_8 (fun r8 M8 hq8 => ?_)
    obtain ⟨rfl, rfl⟩ := hq8
    refine g_if_eq (tgt := 23) dX4_pair_11 (by decide) (fun c11 => ?_) (fun c11 => ?_)
    · have ck : ¬ (okS a ∧ okS b ∧ okR M i) := by
        first
        | (rw [bI_d0] at c4
           exact fun q => c4 q.1)
        | (rw [bI_d0] at c11
           exact fun q => c11 q.2.1)
        | (rw [bI_d0] at c20
           exact fun q => c20 q.2.2)
      rw [if_neg ck] at hQ
      refine g_iconst dX4_pair_23 ?_
      refine g_ireturn rfl dX4_pair_24 ?_
      exact hQ
    · refine g_aload_n rfl dX4_pair_14 ?_
      refine g_iload rfl dX4_pair_15 ?_
      refine gi_X4_76 (by decide) rfl (ev_X4_isRecord hm1 hm2 hm i) rfl rfl ⟨Nat.le_of_ble_eq_true rfl, Nat.le_of_ble_eq_true rfl, Nat.le_of_ble_eq_true rfl, Nat.le_of_ble_eq_true rfl⟩ (Nat.le_of_ble_eq_true rfl) dX4_pair_17 (fun r17 M17 hq17 => ?_)
      obtain ⟨rfl, rfl⟩ := hq17
      refine g_if_ne (tgt := 25) dX4_pair_20 (by decide) (fun c20 => ?_) (fun c20 => ?_)
      · rw [bI_dn] at c4 c11 c20
        rw [if_pos ⟨c4, c11, c20⟩] at hQ
        refine g_iload_n rfl dX4_pair_25 ?_
        refine g_iload_n rfl dX4_pair_26 ?_
        refine g_icmp_ne (tgt := 33) dX4_pair_27 (by decide) (fun c27 => ?_) (fun c27 => ?_)
        · refine g_aload_n rfl dX4_pair_33 ?_
          refine g_iload_n rfl dX4_pair_34 ?_
          refine gi_X4_184 (by decide) rfl (ev_X4_isRecordSet hm1 hm2 hm set) rfl rfl ⟨Nat.le_of_ble_eq_true rfl, Nat.le_of_ble_eq_true rfl, Nat.le_of_ble_eq_true rfl, Nat.le_of_ble_eq_true rfl⟩ (Nat.le_of_ble_eq_true rfl) dX4_pair_35 (fun r35 M35 hq35 => ?_)
          obtain ⟨rfl, rfl⟩ := hq35
          refine g_if_ne (tgt := 44) dX4_pair_38 (by decide) (fun c38 => ?_) (fun c38 => ?_)
          · rw [bI_dn] at c38
            rw [if_neg c27, if_pos c38, paiX] at hQ
            obtain ⟨n, hn1, hn2, rfl⟩ := okS_n c4
            obtain ⟨u, hu1, hu2, rfl⟩ := okS_n c11
            obtain ⟨r, hr1, hr2, rfl⟩ := okR_n hw c20
            have hp : 2 ^ r < 2 ^ 8 := Nat.pow_lt_pow_right (by decide) hr2
            have hx : set.toInt.toNat ^^^ 2 ^ r < 2 ^ 8 := Nat.xor_lt_two_pow (by omega) hp
            have hpz := p2_z r
            have eset : set = zI ((set.toInt.toNat : Nat) : Int) := by rw [Int.toNat_of_nonneg c38.1, zI_of]
            rw [tnN (by omega), tnN (by omega), tnN (by omega)] at hQ
            refine g_aload_n rfl dX4_pair_44 ?_
            refine g_iload_n rfl dX4_pair_45 ?_
            refine gi_X4_64 (by decide) rfl (ev_X4_storeOf hn1 hn2 M) rfl rfl ⟨Nat.le_of_ble_eq_true rfl, Nat.le_of_ble_eq_true rfl, Nat.le_of_ble_eq_true rfl, Nat.le_of_ble_eq_true rfl⟩ (Nat.le_of_ble_eq_true rfl) dX4_pair_46 (fun r46 M46 hq46 => ?_)
            obtain ⟨rfl, rfl⟩ := hq46
            refine g_astore (L2 := [(0, _), (1, _), (2, _), (3, _), (4, _), (5, _)]) (by decide) rfl dX4_pair_49 ?_
            refine g_aload_n rfl dX4_pair_51 ?_
            refine g_iload_n rfl dX4_pair_52 ?_
            refine gi_X4_64 (by decide) rfl (ev_X4_storeOf hu1 hu2 M) rfl rfl ⟨Nat.le_of_ble_eq_true rfl, Nat.le_of_ble_eq_true rfl, Nat.le_of_ble_eq_true rfl, Nat.le_of_ble_eq_true rfl⟩ (Nat.le_of_ble_eq_true rfl) dX4_pair_53 (fun r53 M53 hq53 => ?_)
            obtain ⟨rfl, rfl⟩ := hq53
            refine g_astore (L2 := [(0, _), (1, _), (2, _), (3, _), (4, _), (5, _), (6, _)]) (by decide) rfl dX4_pair_56 ?_
            refine g_aload rfl dX4_pair_58 ?_
            refine gf_X4_92 (by omega) (shS n hn2 hn1) dX4_pair_60 ?_
            refine g_iconst dX4_pair_63 ?_
            refine g_icmp_eq (tgt := 76) dX4_pair_64 (by decide) (fun c64 => ?_) (fun c64 => ?_)
            · have ck : mi M (3 + n) 1 = 3 ∨ mi M (3 + u) 1 = 3 := by
                first
                | exact Or.inl ((eqz_mi (by decide) (by decide)).mp c64)
                | exact Or.inr ((eqz_mi (by decide) (by decide)).mp c73)
              rw [if_pos ck] at hQ
              refine g_bipush (by decide) dX4_pair_76 ?_
              refine g_ireturn rfl dX4_pair_78 ?_
              exact hQ
            · refine g_aload rfl dX4_pair_67 ?_
              refine gf_X4_92 (by omega) (shS u hu2 hu1) dX4_pair_69 ?_
              refine g_iconst dX4_pair_72 ?_
              refine g_icmp_ne (tgt := 79) dX4_pair_73 (by decide) (fun c73 => ?_) (fun c73 => ?_)
              · refine g_aload_n rfl dX4_pair_79 ?_
                refine g_aload rfl dX4_pair_80 ?_
                refine g_iload_n rfl dX4_pair_82 ?_
                rw [← zI_of set]
                refine gi_X4_187 (by decide) rfl (ev_X4_toldOfSet hw hn1 hn2 c38.1 (i_bd set).2) rfl rfl ⟨Nat.le_of_ble_eq_true rfl, Nat.le_of_ble_eq_true rfl, Nat.le_of_ble_eq_true rfl, Nat.le_of_ble_eq_true rfl⟩ (Nat.le_of_ble_eq_true rfl) dX4_pair_83 (fun r83 M83 hq83 => ?_)
                obtain ⟨rfl, rfl⟩ := hq83
                refine g_aload_n rfl dX4_pair_86 ?_
                refine g_aload rfl dX4_pair_87 ?_
                refine g_iload_n rfl dX4_pair_89 ?_
                refine g_iconst dX4_pair_90 ?_
                refine g_iload rfl dX4_pair_91 ?_
                refine g_ishl dX4_pair_93 ?_
                rw [zI_shl (by decide) (by omega) (by omega), Int.one_mul, hpz]
                refine g_ixor dX4_pair_94 ?_
                rw [zI_of set, show set ^^^ zI ((2 ^ r : Nat) : Int) = zI (flip set r) by
                rw [flip, ← zI_xor (by omega) (by omega), ← eset]]
                refine gi_X4_187 (by decide) rfl (ev_X4_toldOfSet (set := flip set r) hw hu1 hu2 (by unfold flip; omega) (by unfold flip; omega)) rfl rfl ⟨Nat.le_of_ble_eq_true rfl, Nat.le_of_ble_eq_true rfl, Nat.le_of_ble_eq_true rfl, Nat.le_of_ble_eq_true rfl⟩ (Nat.le_of_ble_eq_true rfl) dX4_pair_95 (fun r95 M95 hq95 => ?_)
                obtain ⟨rfl, rfl⟩ := hq95
                refine g_ixor dX4_pair_98 ?_
                refine g_ireturn rfl dX4_pair_99 ?_
                rw [eqz_mi (by decide) (by decide)] at c64 c73
                rw [if_neg (fun q => q.elim c64 c73)] at hQ
                exact hQ
              · have ck : mi M (3 + n) 1 = 3 ∨ mi M (3 + u) 1 = 3 := by
                  first
                  | exact Or.inl ((eqz_mi (by decide) (by decide)).mp c64)
                  | exact Or.inr ((eqz_mi (by decide) (by decide)).mp c73)
                rw [if_pos ck] at hQ
                refine g_bipush (by decide) dX4_pair_76 ?_
                refine g_ireturn rfl dX4_pair_78 ?_
                exact hQ
          · refine g_bipush (by decide) dX4_pair_41 ?_
            refine g_ireturn rfl dX4_pair_43 ?_
            rw [bI_d0] at c38
            rw [if_neg c27, if_neg c38] at hQ
            exact hQ
        · refine g_bipush (by decide) dX4_pair_30 ?_
          refine g_ireturn rfl dX4_pair_32 ?_
          rw [if_pos c27] at hQ
          exact hQ
      · have ck : ¬ (okS a ∧ okS b ∧ okR M i) := by
          first
          | (rw [bI_d0] at c4
             exact fun q => c4 q.1)
          | (rw [bI_d0] at c11
             exact fun q => c11 q.2.1)
          | (rw [bI_d0] at c20
             exact fun q => c20 q.2.2)
        rw [if_neg ck] at hQ
        refine g_iconst dX4_pair_23 ?_
        refine g_ireturn rfl dX4_pair_24 ?_
        exact hQ
def totX (M : Mem) (w : Int32) : Int32 := if w = zI 0 then zI (2 ^ xm M) else if w = zI 1 then M 0 8 else if w = zI 2 then M 0 9 else if w = zI 3 then M 0 10 else if w = zI 4 then zI (cnt (fun j => decide (mi M (3 + j) 1 = 0)) 9) else if w = zI 5 then (if M 22 2 = 0 then zI 0 else zI 1) else if w = zI 6 then (if M 22 2 = 0 then zI (-9) else M 22 7) else zI (-2)
theorem ev_X4_total {M : Mem} (hw : WX M) (w : Int32) : EvF yX4_total cX4_total 2 (some .int) 2 [.ref 0, .int w] M (some (.int (totX M w))) M := by
  refine EvF.of (by decide +kernel) (Nat.le_of_ble_eq_true rfl) (fun Q hQ => ?_)
  obtain ⟨hm1, hm2, hm3, hm⟩ := hw.m
  refine g_iload_n rfl dX4_total_0 ?_
  by_cases hin : 0 ≤ w.toInt ∧ w.toInt ≤ 6
  · obtain ⟨n, hn, rfl⟩ : ∃ n : Nat, n < 7 ∧ w = zI n := ⟨w.toInt.toNat, by omega, by rw [Int.toNat_of_nonneg hin.1, zI_of]⟩
    rcases (by omega : n = 0 ∨ n = 1 ∨ n = 2 ∨ n = 3 ∨ n = 4 ∨ n = 5 ∨ n = 6) with rfl | rfl | rfl | rfl | rfl | rfl | rfl
    · refine g_tableIn (off := 43) (tgt := 44) dX4_total_1 (by decide) (by decide) (by decide +kernel) (by decide) ?_
      refine g_aload_n rfl dX4_total_44 ?_
      refine gi_X4_60 (by decide) rfl (ev_X4_count hm1 hm2 hm) rfl rfl ⟨Nat.le_of_ble_eq_true rfl, Nat.le_of_ble_eq_true rfl, Nat.le_of_ble_eq_true rfl, Nat.le_of_ble_eq_true rfl⟩ (Nat.le_of_ble_eq_true rfl) dX4_total_45 (fun r45 M45 hq45 => ?_)
      obtain ⟨rfl, rfl⟩ := hq45
      refine g_ireturn rfl dX4_total_48 ?_
      exact hQ
    · refine g_tableIn (off := 48) (tgt := 49) dX4_total_1 (by decide) (by decide) (by decide +kernel) (by decide) ?_
      refine g_aload_n rfl dX4_total_49 ?_
      refine gf_X4_50 (by decide) rfl dX4_total_50 ?_
      refine g_ireturn rfl dX4_total_53 ?_
      exact hQ
    · refine g_tableIn (off := 53) (tgt := 54) dX4_total_1 (by decide) (by decide) (by decide +kernel) (by decide) ?_
      refine g_aload_n rfl dX4_total_54 ?_
      refine gf_X4_53 (by decide) rfl dX4_total_55 ?_
      refine g_ireturn rfl dX4_total_58 ?_
      exact hQ
    · refine g_tableIn (off := 58) (tgt := 59) dX4_total_1 (by decide) (by decide) (by decide +kernel) (by decide) ?_
      refine g_aload_n rfl dX4_total_59 ?_
      refine gf_X4_56 (by decide) rfl dX4_total_60 ?_
      refine g_ireturn rfl dX4_total_63 ?_
      exact hQ
    · refine g_tableIn (off := 63) (tgt := 64) dX4_total_1 (by decide) (by decide) (by decide +kernel) (by decide) ?_
      refine g_aload_n rfl dX4_total_64 ?_
      refine gi_X4_190 (by decide) rfl (ev_X4_trueStores M) rfl rfl ⟨Nat.le_of_ble_eq_true rfl, Nat.le_of_ble_eq_true rfl, Nat.le_of_ble_eq_true rfl, Nat.le_of_ble_eq_true rfl⟩ (Nat.le_of_ble_eq_true rfl) dX4_total_65 (fun r65 M65 hq65 => ?_)
      obtain ⟨rfl, rfl⟩ := hq65
      refine g_ireturn rfl dX4_total_68 ?_
      exact hQ
    · refine g_tableIn (off := 68) (tgt := 69) dX4_total_1 (by decide) (by decide) (by decide +kernel) (by decide) ?_
      have e : totX M (zI ((5 : Nat) : Int)) = if M 22 2 = 0 then zI 0 else zI 1 := rfl
      rw [e] at hQ
      refine g_aload_n rfl dX4_total_69 ?_
      refine gf_X4_25 (by decide) rfl rfl dX4_total_70 ?_
      refine gf_X4_72 (by decide) rfl dX4_total_73 ?_
      refine g_if_eq (tgt := 83) dX4_total_76 (by decide) (fun c76 => ?_) (fun c76 => ?_)
      · refine g_iconst dX4_total_83 ?_
        refine g_ireturn rfl dX4_total_84 ?_
        rw [if_pos c76] at hQ
        exact hQ
      · refine g_iconst dX4_total_79 ?_
        refine g_goto (tgt := 84) dX4_total_80 (by decide) ?_
        refine g_ireturn rfl dX4_total_84 ?_
        rw [if_neg c76] at hQ
        exact hQ
    · refine g_tableIn (off := 84) (tgt := 85) dX4_total_1 (by decide) (by decide) (by decide +kernel) (by decide) ?_
      have e : totX M (zI ((6 : Nat) : Int)) = if M 22 2 = 0 then zI (-9) else M 22 7 := rfl
      rw [e] at hQ
      refine g_aload_n rfl dX4_total_85 ?_
      refine gf_X4_25 (by decide) rfl rfl dX4_total_86 ?_
      refine gf_X4_72 (by decide) rfl dX4_total_89 ?_
      refine g_if_eq (tgt := 105) dX4_total_92 (by decide) (fun c92 => ?_) (fun c92 => ?_)
      · refine g_bipush (by decide) dX4_total_105 ?_
        refine g_ireturn rfl dX4_total_107 ?_
        rw [if_pos c92] at hQ
        exact hQ
      · refine g_aload_n rfl dX4_total_95 ?_
        refine gf_X4_25 (by decide) rfl rfl dX4_total_96 ?_
        refine gf_X4_116 (by decide) rfl dX4_total_99 ?_
        refine g_goto (tgt := 107) dX4_total_102 (by decide) ?_
        refine g_ireturn rfl dX4_total_107 ?_
        rw [if_neg c92] at hQ
        exact hQ
  · refine g_tableOut (tgt := 108) dX4_total_1 (by omega) (by decide) ?_
    have hne : ∀ n : Int, 0 ≤ n → n ≤ 6 → ¬ w = zI n := fun n h1 h2 q => hin (by rw [q, zI_toInt (by omega) (by omega)]; exact ⟨h1, h2⟩)
    rw [totX, if_neg (hne 0 (by decide) (by decide)), if_neg (hne 1 (by decide) (by decide)), if_neg (hne 2 (by decide) (by decide)), if_neg (hne 3 (by decide) (by decide)), if_neg (hne 4 (by decide) (by decide)), if_neg (hne 5 (by decide) (by decide)), if_neg (hne 6 (by decide) (by decide))] at hQ
    refine g_bipush (by decide) dX4_total_108 ?_
    refine g_ireturn rfl dX4_total_110 ?_
    exact hQ
