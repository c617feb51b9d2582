/-! the reference: its calls that ask -/
def thM (M : Mem) : Mem := mset M 31 0 (zI 0)
theorem mx_m {M : Mem} (hw : WX M) (hI : InvQ M) : M 31 1 = zI (xm M) := hI.dg.trans hw.m.2.2.2
theorem ev_X5_record {M : Mem} (hw : WX (thM M)) (hI : InvQ (thM M)) (i : Int32) : EvF yX5_record cX5_record 2 (some .int) 2 [.ref 31, .int i] M (some (.int (if okR (thM M) i then (thM M) 1 i.toInt.toNat else zI (-1)))) (thM M) := by
  refine EvF.of (by decide +kernel) (Nat.le_of_ble_eq_true rfl) (fun Q hQ => ?_)
  generalize hM0 : thM M = M0 at hw hI hQ
  have hm := mx_m hw hI
  refine g_aload_n rfl dX5_record_0 ?_
  refine g_iconst dX5_record_1 ?_
  refine gp_X5_45 (by decide) rfl dX5_record_2 ?_
  refine g_mem hM0 ?_
  refine g_aload_n rfl dX5_record_5 ?_
  refine g_iload_n rfl dX5_record_6 ?_
  refine gi_X5_93 (by decide) rfl (ev_X5_isRecord hw hm i) rfl rfl ⟨Nat.le_of_ble_eq_true rfl, Nat.le_of_ble_eq_true rfl, Nat.le_of_ble_eq_true rfl, Nat.le_of_ble_eq_true rfl⟩ (Nat.le_of_ble_eq_true rfl) dX5_record_7 (fun r7 M7 hq7 => ?_)
  obtain ⟨rfl, rfl⟩ := hq7
  refine g_if_eq (tgt := 22) dX5_record_10 (by decide) (fun c10 => ?_) (fun c10 => ?_)
  · refine g_iconst dX5_record_22 ?_
    refine g_ireturn rfl dX5_record_23 ?_
    rw [bI_d0] at c10
    rw [if_neg c10] at hQ
    exact hQ
  · rw [bI_dn] at c10
    rw [if_pos c10] at hQ
    obtain ⟨n, hn1, hn2, rfl⟩ := okR_n hw c10
    rw [tnN (by omega)] at hQ
    refine g_aload_n rfl dX5_record_13 ?_
    refine gf_X5_13 (by decide) rfl rfl dX5_record_14 ?_
    refine g_iload_n rfl dX5_record_17 ?_
    refine g_iald (n := 8) (by decide) rfl rfl (zI_in (by omega) (by omega) (by decide)) dX5_record_18 ?_
    rw [zI_clamp (by omega) (by omega), show ((n : Nat) : Int).toNat = n from rfl, hI.num n hn2]
    refine g_goto (tgt := 23) dX5_record_19 (by decide) ?_
    refine g_ireturn rfl dX5_record_23 ?_
    exact hQ
theorem i32l (x : Int32) : x.toInt64 = zL x.toInt := by rw [← zI_l (i_bd x).1 (i_bd x).2, zI_of]
theorem ev_X5_taken {M : Mem} (hI : InvQ (thM M)) (j kd w : Int32) : EvF yX5_taken cX5_taken 4 (some .int) 2 [.ref 31, .int j, .int kd, .int w] M (some (.int (if okS j then (if okT kd w then takX (thM M) j.toInt.toNat kd w else zI (-2)) else zI (-1)))) (thM M) := by
  refine EvF.of (by decide +kernel) (Nat.le_of_ble_eq_true rfl) (fun Q hQ => ?_)
  generalize hM0 : thM M = M0 at hI hQ
  have hk := i_bd kd
  have hwb := i_bd w
  refine g_aload_n rfl dX5_taken_0 ?_
  refine g_iconst dX5_taken_1 ?_
  refine gp_X5_45 (by decide) rfl dX5_taken_2 ?_
  refine g_mem hM0 ?_
  refine g_iload_n rfl dX5_taken_5 ?_
  refine gi_X5_100 (ev_X5_isStore j M0) rfl rfl ⟨Nat.le_of_ble_eq_true rfl, Nat.le_of_ble_eq_true rfl, Nat.le_of_ble_eq_true rfl, Nat.le_of_ble_eq_true rfl⟩ (Nat.le_of_ble_eq_true rfl) dX5_taken_6 (fun r6 M6 hq6 => ?_)
  obtain ⟨rfl, rfl⟩ := hq6
  refine g_if_ne (tgt := 14) dX5_taken_9 (by decide) (fun c9 => ?_) (fun c9 => ?_)
  · refine g_iload_n rfl dX5_taken_14 ?_
    refine g_i2l dX5_taken_15 ?_
    rw [i32l]
    refine g_lconst (v := zL 0) (by decide) dX5_taken_16 ?_
    refine g_ldc2 gz_X5_88 dX5_taken_17 ?_
    refine gi_X5_53 (ev_X5_in (v := kd.toInt) (lo := 0) (hi := 3) (by omega) (by omega) (by decide) (by decide) (by decide) (by decide) M0) rfl rfl ⟨Nat.le_of_ble_eq_true rfl, Nat.le_of_ble_eq_true rfl, Nat.le_of_ble_eq_true rfl, Nat.le_of_ble_eq_true rfl⟩ (Nat.le_of_ble_eq_true rfl) dX5_taken_20 (fun r20 M20 hq20 => ?_)
    obtain ⟨rfl, rfl⟩ := hq20
    refine g_if_eq (tgt := 38) dX5_taken_23 (by decide) (fun c23 => ?_) (fun c23 => ?_)
    · rw [bI_dn] at c9
      have ck : ¬ okT kd w := by
        first
        | (rw [bI_d0] at c23
           exact fun q => c23 q.1)
        | (rw [bI_d0] at c35
           exact fun q => c35 q.2)
      rw [if_pos c9, if_neg ck] at hQ
      refine g_bipush (by decide) dX5_taken_38 ?_
      refine g_ireturn rfl dX5_taken_40 ?_
      exact hQ
    · refine g_iload_n rfl dX5_taken_26 ?_
      refine g_i2l dX5_taken_27 ?_
      rw [i32l]
      refine g_lconst (v := zL 0) (by decide) dX5_taken_28 ?_
      refine g_ldc2 gz_X5_103 dX5_taken_29 ?_
      refine gi_X5_53 (ev_X5_in (v := w.toInt) (lo := 0) (hi := 2) (by omega) (by omega) (by decide) (by decide) (by decide) (by decide) M0) rfl rfl ⟨Nat.le_of_ble_eq_true rfl, Nat.le_of_ble_eq_true rfl, Nat.le_of_ble_eq_true rfl, Nat.le_of_ble_eq_true rfl⟩ (Nat.le_of_ble_eq_true rfl) dX5_taken_32 (fun r32 M32 hq32 => ?_)
      obtain ⟨rfl, rfl⟩ := hq32
      refine g_if_ne (tgt := 41) dX5_taken_35 (by decide) (fun c35 => ?_) (fun c35 => ?_)
      · rw [bI_dn] at c9 c23 c35
        rw [if_pos c9, if_pos ⟨c23, c35⟩] at hQ
        obtain ⟨n, hn1, hn2, rfl⟩ := okS_n c9
        rw [tnN (by omega), takX] at hQ
        have hkd := hI.kd n hn1 hn2
        have hly := hI.ly n hn1 hn2
        refine g_iload_n rfl dX5_taken_41 ?_
        refine g_if_eq (tgt := 58) dX5_taken_42 (by decide) (fun c42 => ?_) (fun c42 => ?_)
        · have ck : ¬ (¬ kd = 0 ∧ ¬ kd = M0 (3 + n) 1) := by
            first
            | exact fun q => q.1 c42
            | exact fun q => q.2 c52.symm
          rw [if_neg ck] at hQ
          refine g_iload_n rfl dX5_taken_58 ?_
          refine g_if_ne (tgt := 71) dX5_taken_59 (by decide) (fun c59 => ?_) (fun c59 => ?_)
          · refine g_iload_n rfl dX5_taken_71 ?_
            refine g_iconst dX5_taken_72 ?_
            refine g_icmp_ne (tgt := 100) dX5_taken_73 (by decide) (fun c73 => ?_) (fun c73 => ?_)
            · refine g_aload_n rfl dX5_taken_100 ?_
              refine gf_X5_17 (by decide) rfl rfl dX5_taken_101 ?_
              refine g_iload_n rfl dX5_taken_104 ?_
              refine g_iald (n := 10) (by decide) rfl rfl (zI_in (by omega) (by omega) (by decide)) dX5_taken_105 ?_
              rw [zI_clamp (by omega) (by omega), show ((n : Nat) : Int).toNat = n from rfl, hkd]
              refine g_iconst dX5_taken_106 ?_
              refine g_icmp_ne (tgt := 115) dX5_taken_107 (by decide) (fun c107 => ?_) (fun c107 => ?_)
              · refine g_aload_n rfl dX5_taken_115 ?_
                refine g_iload_n rfl dX5_taken_116 ?_
                refine g_iconst dX5_taken_117 ?_
                refine gi_X5_63 (by decide) rfl (ev_X5_copyOf (i := 0) hI hn1 hn2 (by decide)) rfl rfl ⟨Nat.le_of_ble_eq_true rfl, Nat.le_of_ble_eq_true rfl, Nat.le_of_ble_eq_true rfl, Nat.le_of_ble_eq_true rfl⟩ (Nat.le_of_ble_eq_true rfl) dX5_taken_118 (fun r118 M118 hq118 => ?_)
                obtain ⟨rfl, rfl⟩ := hq118
                refine g_ireturn rfl dX5_taken_121 ?_
                rw [if_neg c59, if_neg c73, if_neg (fun q => c107 ((eqz_mi (by decide) (by decide)).mpr q))] at hQ
                exact hQ
              · refine g_bipush (by decide) dX5_taken_110 ?_
                refine g_goto (tgt := 121) dX5_taken_112 (by decide) ?_
                refine g_ireturn rfl dX5_taken_121 ?_
                rw [if_neg c59, if_neg c73, if_pos ((eqz_mi (by decide) (by decide)).mp c107)] at hQ
                exact hQ
            · refine g_aload_n rfl dX5_taken_76 ?_
              refine gf_X5_17 (by decide) rfl rfl dX5_taken_77 ?_
              refine g_iload_n rfl dX5_taken_80 ?_
              refine g_iald (n := 10) (by decide) rfl rfl (zI_in (by omega) (by omega) (by decide)) dX5_taken_81 ?_
              rw [zI_clamp (by omega) (by omega), show ((n : Nat) : Int).toNat = n from rfl, hkd]
              refine g_iconst dX5_taken_82 ?_
              refine g_icmp_ne (tgt := 95) dX5_taken_83 (by decide) (fun c83 => ?_) (fun c83 => ?_)
              · refine g_bipush (by decide) dX5_taken_95 ?_
                refine g_goto (tgt := 121) dX5_taken_97 (by decide) ?_
                refine g_ireturn rfl dX5_taken_121 ?_
                rw [if_neg c59, if_pos c73, if_neg c83] at hQ
                exact hQ
              · refine g_aload_n rfl dX5_taken_86 ?_
                refine gf_X5_20 (by decide) rfl rfl dX5_taken_87 ?_
                refine g_iload_n rfl dX5_taken_90 ?_
                refine g_iald (n := 10) (by decide) rfl rfl (zI_in (by omega) (by omega) (by decide)) dX5_taken_91 ?_
                rw [zI_clamp (by omega) (by omega), show ((n : Nat) : Int).toNat = n from rfl]
                refine g_goto (tgt := 121) dX5_taken_92 (by decide) ?_
                refine g_ireturn rfl dX5_taken_121 ?_
                rw [if_neg c59, if_pos c73, if_pos c83] at hQ
                rw [hly.1 ((eqz_mi (by decide) (by decide)).mp c83)]
                exact hQ
          · refine g_aload_n rfl dX5_taken_62 ?_
            refine gf_X5_17 (by decide) rfl rfl dX5_taken_63 ?_
            refine g_iload_n rfl dX5_taken_66 ?_
            refine g_iald (n := 10) (by decide) rfl rfl (zI_in (by omega) (by omega) (by decide)) dX5_taken_67 ?_
            rw [zI_clamp (by omega) (by omega), show ((n : Nat) : Int).toNat = n from rfl, hkd]
            refine g_goto (tgt := 121) dX5_taken_68 (by decide) ?_
            refine g_ireturn rfl dX5_taken_121 ?_
            rw [if_pos c59] at hQ
            exact hQ
        · refine g_aload_n rfl dX5_taken_45 ?_
          refine gf_X5_17 (by decide) rfl rfl dX5_taken_46 ?_
          refine g_iload_n rfl dX5_taken_49 ?_
          refine g_iald (n := 10) (by decide) rfl rfl (zI_in (by omega) (by omega) (by decide)) dX5_taken_50 ?_
          rw [zI_clamp (by omega) (by omega), show ((n : Nat) : Int).toNat = n from rfl, hkd]
          refine g_iload_n rfl dX5_taken_51 ?_
          refine g_icmp_eq (tgt := 58) dX5_taken_52 (by decide) (fun c52 => ?_) (fun c52 => ?_)
          · have ck : ¬ (¬ kd = 0 ∧ ¬ kd = M0 (3 + n) 1) := by
              first
              | exact fun q => q.1 c42
              | exact fun q => q.2 c52.symm
            rw [if_neg ck] at hQ
            refine g_iload_n rfl dX5_taken_58 ?_
            refine g_if_ne (tgt := 71) dX5_taken_59 (by decide) (fun c59 => ?_) (fun c59 => ?_)
            · refine g_iload_n rfl dX5_taken_71 ?_
              refine g_iconst dX5_taken_72 ?_
              refine g_icmp_ne (tgt := 100) dX5_taken_73 (by decide) (fun c73 => ?_) (fun c73 => ?_)
              · refine g_aload_n rfl dX5_taken_100 ?_
                refine gf_X5_17 (by decide) rfl rfl dX5_taken_101 ?_
                refine g_iload_n rfl dX5_taken_104 ?_
                refine g_iald (n := 10) (by decide) rfl rfl (zI_in (by omega) (by omega) (by decide)) dX5_taken_105 ?_
                rw [zI_clamp (by omega) (by omega), show ((n : Nat) : Int).toNat = n from rfl, hkd]
                refine g_iconst dX5_taken_106 ?_
                refine g_icmp_ne (tgt := 115) dX5_taken_107 (by decide) (fun c107 => ?_) (fun c107 => ?_)
                · refine g_aload_n rfl dX5_taken_115 ?_
                  refine g_iload_n rfl dX5_taken_116 ?_
                  refine g_iconst dX5_taken_117 ?_
                  refine gi_X5_63 (by decide) rfl (ev_X5_copyOf (i := 0) hI hn1 hn2 (by decide)) rfl rfl ⟨Nat.le_of_ble_eq_true rfl, Nat.le_of_ble_eq_true rfl, Nat.le_of_ble_eq_true rfl, Nat.le_of_ble_eq_true rfl⟩ (Nat.le_of_ble_eq_true rfl) dX5_taken_118 (fun r118 M118 hq118 => ?_)
                  obtain ⟨rfl, rfl⟩ := hq118
                  refine g_ireturn rfl dX5_taken_121 ?_
                  rw [if_neg c59, if_neg c73, if_neg (fun q => c107 ((eqz_mi (by decide) (by decide)).mpr q))] at hQ
                  exact hQ
                · refine g_bipush (by decide) dX5_taken_110 ?_
                  refine g_goto (tgt := 121) dX5_taken_112 (by decide) ?_
                  refine g_ireturn rfl dX5_taken_121 ?_
                  rw [if_neg c59, if_neg c73, if_pos ((eqz_mi (by decide) (by decide)).mp c107)] at hQ
                  exact hQ
              · refine g_aload_n rfl dX5_taken_76 ?_
                refine gf_X5_17 (by decide) rfl rfl dX5_taken_77 ?_
                refine g_iload_n rfl dX5_taken_80 ?_
                refine g_iald (n := 10) (by decide) rfl rfl (zI_in (by omega) (by omega) (by decide)) dX5_taken_81 ?_
                rw [zI_clamp (by omega) (by omega), show ((n : Nat) : Int).toNat = n from rfl, hkd]
                refine g_iconst dX5_taken_82 ?_
                refine g_icmp_ne (tgt := 95) dX5_taken_83 (by decide) (fun c83 => ?_) (fun c83 => ?_)
                · refine g_bipush (by decide) dX5_taken_95 ?_
                  refine g_goto (tgt := 121) dX5_taken_97 (by decide) ?_
                  refine g_ireturn rfl dX5_taken_121 ?_
                  rw [if_neg c59, if_pos c73, if_neg c83] at hQ
                  exact hQ
                · refine g_aload_n rfl dX5_taken_86 ?_
                  refine gf_X5_20 (by decide) rfl rfl dX5_taken_87 ?_
                  refine g_iload_n rfl dX5_taken_90 ?_
                  refine g_iald (n := 10) (by decide) rfl rfl (zI_in (by omega) (by omega) (by decide)) dX5_taken_91 ?_
                  rw [zI_clamp (by omega) (by omega), show ((n : Nat) : Int).toNat = n from rfl]
                  refine g_goto (tgt := 121) dX5_taken_92 (by decide) ?_
                  refine g_ireturn rfl dX5_taken_121 ?_
                  rw [if_neg c59, if_pos c73, if_pos c83] at hQ
                  rw [hly.1 ((eqz_mi (by decide) (by decide)).mp c83)]
                  exact hQ
            · refine g_aload_n rfl dX5_taken_62 ?_
              refine gf_X5_17 (by decide) rfl rfl dX5_taken_63 ?_
              refine g_iload_n rfl dX5_taken_66 ?_
              refine g_iald (n := 10) (by decide) rfl rfl (zI_in (by omega) (by omega) (by decide)) dX5_taken_67 ?_
              rw [zI_clamp (by omega) (by omega), show ((n : Nat) : Int).toNat = n from rfl, hkd]
              refine g_goto (tgt := 121) dX5_taken_68 (by decide) ?_
              refine g_ireturn rfl dX5_taken_121 ?_
              rw [if_pos c59] at hQ
              exact hQ
          · refine g_bipush (by decide) dX5_taken_55 ?_
            refine g_ireturn rfl dX5_taken_57 ?_
            rw [if_pos ⟨c42, fun q => c52 q.symm⟩] at hQ
            exact hQ
      · rw [bI_dn] at c9
        have ck : ¬ okT kd w := by
          first
          | (rw [bI_d0] at c23
             exact fun q => c23 q.1)
          | (rw [bI_d0] at c35
             exact fun q => c35 q.2)
        rw [if_pos c9, if_neg ck] at hQ
        refine g_bipush (by decide) dX5_taken_38 ?_
        refine g_ireturn rfl dX5_taken_40 ?_
        exact hQ
  · refine g_iconst dX5_taken_12 ?_
    refine g_ireturn rfl dX5_taken_13 ?_
    rw [bI_d0] at c9
    rw [if_neg c9] at hQ
    exact hQ
theorem ev_X5_copy {M : Mem} (hw : WX (thM M)) (hI : InvQ (thM M)) (j i : Int32) : EvF yX5_copy cX5_copy 3 (some .int) 2 [.ref 31, .int j, .int i] M (some (.int (if okS j ∧ okR (thM M) i then copX (thM M) j.toInt.toNat i.toInt.toNat else zI (-1)))) (thM M) := by
  refine EvF.of (by decide +kernel) (Nat.le_of_ble_eq_true rfl) (fun Q hQ => ?_)
  generalize hM0 : thM M = M0 at hw hI hQ
  have hm := mx_m hw hI
  refine g_aload_n rfl dX5_copy_0 ?_
  refine g_iconst dX5_copy_1 ?_
  refine gp_X5_45 (by decide) rfl dX5_copy_2 ?_
  refine g_mem hM0 ?_
  refine g_iload_n rfl dX5_copy_5 ?_
  refine gi_X5_100 (ev_X5_isStore j M0) rfl rfl ⟨Nat.le_of_ble_eq_true rfl, Nat.le_of_ble_eq_true rfl, Nat.le_of_ble_eq_true rfl, Nat.le_of_ble_eq_true rfl⟩ (Nat.le_of_ble_eq_true rfl) dX5_copy_6 (fun r6 M6 hq6 => ?_)
  obtain ⟨rfl, rfl⟩ := hq6
  refine g_if_eq (tgt := 20) dX5_copy_9 (by decide) (fun c9 => ?_) (fun c9 => ?_)
  · refine g_iconst dX5_copy_20 ?_
    refine g_goto (tgt := 45) dX5_copy_21 (by decide) ?_
    refine g_ireturn rfl dX5_copy_45 ?_
    rw [bI_d0] at c9
    rw [if_neg (fun q => c9 q.1)] at hQ
    exact hQ
  · refine g_aload_n rfl dX5_copy_12 ?_
    refine g_iload_n rfl dX5_copy_13 ?_
    refine gi_X5_93 (by decide) rfl (ev_X5_isRecord hw hm i) rfl rfl ⟨Nat.le_of_ble_eq_true rfl, Nat.le_of_ble_eq_true rfl, Nat.le_of_ble_eq_true rfl, Nat.le_of_ble_eq_true rfl⟩ (Nat.le_of_ble_eq_true rfl) dX5_copy_14 (fun r14 M14 hq14 => ?_)
    obtain ⟨rfl, rfl⟩ := hq14
    refine g_if_ne (tgt := 24) dX5_copy_17 (by decide) (fun c17 => ?_) (fun c17 => ?_)
    · rw [bI_dn] at c9 c17
      rw [if_pos ⟨c9, c17⟩] at hQ
      obtain ⟨n, hn1, hn2, rfl⟩ := okS_n c9
      obtain ⟨r, hr1, hr2, rfl⟩ := okR_n hw c17
      rw [tnN (by omega), tnN (by omega), copX] at hQ
      have hkd := hI.kd n hn1 hn2
      refine g_aload_n rfl dX5_copy_24 ?_
      refine gf_X5_17 (by decide) rfl rfl dX5_copy_25 ?_
      refine g_iload_n rfl dX5_copy_28 ?_
      refine g_iald (n := 10) (by decide) rfl rfl (zI_in (by omega) (by omega) (by decide)) dX5_copy_29 ?_
      rw [zI_clamp (by omega) (by omega), show ((n : Nat) : Int).toNat = n from rfl, hkd]
      refine g_iconst dX5_copy_30 ?_
      refine g_icmp_ne (tgt := 39) dX5_copy_31 (by decide) (fun c31 => ?_) (fun c31 => ?_)
      · refine g_aload_n rfl dX5_copy_39 ?_
        refine g_iload_n rfl dX5_copy_40 ?_
        refine g_iload_n rfl dX5_copy_41 ?_
        refine gi_X5_63 (by decide) rfl (ev_X5_copyOf (i := r) hI hn1 hn2 hr2) rfl rfl ⟨Nat.le_of_ble_eq_true rfl, Nat.le_of_ble_eq_true rfl, Nat.le_of_ble_eq_true rfl, Nat.le_of_ble_eq_true rfl⟩ (Nat.le_of_ble_eq_true rfl) dX5_copy_42 (fun r42 M42 hq42 => ?_)
        obtain ⟨rfl, rfl⟩ := hq42
        refine g_ireturn rfl dX5_copy_45 ?_
        rw [if_neg (fun q => c31 ((eqz_mi (by decide) (by decide)).mpr q))] at hQ
        exact hQ
      · refine g_bipush (by decide) dX5_copy_34 ?_
        refine g_goto (tgt := 45) dX5_copy_36 (by decide) ?_
        refine g_ireturn rfl dX5_copy_45 ?_
        rw [if_pos ((eqz_mi (by decide) (by decide)).mp c31)] at hQ
        exact hQ
    · refine g_iconst dX5_copy_20 ?_
      refine g_goto (tgt := 45) dX5_copy_21 (by decide) ?_
      refine g_ireturn rfl dX5_copy_45 ?_
      rw [bI_d0] at c17
      rw [if_neg (fun q => c17 q.2)] at hQ
      exact hQ
theorem ev_X5_sum {M : Mem} (hw : WX (thM M)) (hI : InvQ (thM M)) (x0 x1 x2 : Int32) : EvF yX5_sum cX5_sum 4 (some .int) 2 [.ref 31, .int x0, .int x1, .int x2] M (some (.int (if ∀ k, k < xm (thM M) → okN (pt3 x0 x1 x2 k) then zI (sumW (mi (thM M) 1) (fun k => (pt3 x0 x1 x2 k).toInt) (xm (thM M)) (2 ^ xm (thM M)) % 97) else zI (-2)))) (thM M) := by
  refine EvF.of (by decide +kernel) (Nat.le_of_ble_eq_true rfl) (fun Q hQ => ?_)
  generalize hM0 : thM M = M0 at hw hI hQ
  have hm := mx_m hw hI
  obtain ⟨hm1, hm2, -, -⟩ := hw.m
  refine g_aload_n rfl dX5_sum_0 ?_
  refine g_iconst dX5_sum_1 ?_
  refine gp_X5_45 (by decide) rfl dX5_sum_2 ?_
  refine g_mem hM0 ?_
  refine g_iload_n rfl dX5_sum_5 ?_
  refine gi_X5_97 (ev_X5_isNumber x0 M0) rfl rfl ⟨Nat.le_of_ble_eq_true rfl, Nat.le_of_ble_eq_true rfl, Nat.le_of_ble_eq_true rfl, Nat.le_of_ble_eq_true rfl⟩ (Nat.le_of_ble_eq_true rfl) dX5_sum_6 (fun r6 M6 hq6 => ?_)
  obtain ⟨rfl, rfl⟩ := hq6
  refine g_if_eq (tgt := 42) dX5_sum_9 (by decide) (fun c9 => ?_) (fun c9 => ?_)
  · have ck : ¬ ∀ k, k < xm M0 → okN (pt3 x0 x1 x2 k) := by
      first
      | (rw [bI_d0] at c9
         exact fun q => c9 (q 0 (by omega)))
      | (rw [bI_d0] at c24
         simp (disch := omega) only [i_le, zI_toInt] at c17
         exact fun q => c24 (q 1 (by omega)))
      | (rw [bI_d0] at c39
         simp (disch := omega) only [i_le, zI_toInt] at c32
         exact fun q => c39 (q 2 (by omega)))
    rw [if_neg ck] at hQ
    refine g_bipush (by decide) dX5_sum_42 ?_
    refine g_ireturn rfl dX5_sum_44 ?_
    exact hQ
  · refine g_aload_n rfl dX5_sum_12 ?_
    refine gf_X5_7 (by decide) rfl dX5_sum_13 ?_
    rw [hm]
    refine g_iconst dX5_sum_16 ?_
    refine g_icmp_le (tgt := 27) dX5_sum_17 (by decide) (fun c17 => ?_) (fun c17 => ?_)
    · refine g_aload_n rfl dX5_sum_27 ?_
      refine gf_X5_7 (by decide) rfl dX5_sum_28 ?_
      rw [hm]
      refine g_iconst dX5_sum_31 ?_
      refine g_icmp_le (tgt := 45) dX5_sum_32 (by decide) (fun c32 => ?_) (fun c32 => ?_)
      · have ck : ∀ k, k < xm M0 → okN (pt3 x0 x1 x2 k) := by
          rw [bI_dn] at c9
          intro k hk
          rcases (by omega : k = 0 ∨ k = 1 ∨ k = 2) with rfl | rfl | rfl
          · exact c9
          · first
            | (simp (disch := omega) only [i_le, zI_toInt] at c17
               exact absurd c17 (by omega))
            | (rw [bI_dn] at c24
               exact c24)
          · first
            | (simp (disch := omega) only [i_le, zI_toInt] at c32
               exact absurd c32 (by omega))
            | (rw [bI_dn] at c39
               exact c39)
            | (simp (disch := omega) only [i_le, zI_toInt] at c17
               exact absurd c17 (by omega))
        rw [if_pos ck] at hQ
        refine g_aload_n rfl dX5_sum_45 ?_
        refine g_iconst dX5_sum_46 ?_
        refine g_iload_n rfl dX5_sum_47 ?_
        refine g_iload_n rfl dX5_sum_48 ?_
        refine g_iload_n rfl dX5_sum_49 ?_
        refine gi_X5_77 (by decide) rfl (ev_X5_sumOf (j := 0) hw hI (by decide) ck) rfl rfl ⟨Nat.le_of_ble_eq_true rfl, Nat.le_of_ble_eq_true rfl, Nat.le_of_ble_eq_true rfl, Nat.le_of_ble_eq_true rfl⟩ (Nat.le_of_ble_eq_true rfl) dX5_sum_50 (fun r50 M50 hq50 => ?_)
        obtain ⟨rfl, rfl⟩ := hq50
        refine g_ireturn rfl dX5_sum_53 ?_
        exact hQ
      · refine g_iload_n rfl dX5_sum_35 ?_
        refine gi_X5_97 (ev_X5_isNumber x2 M0) rfl rfl ⟨Nat.le_of_ble_eq_true rfl, Nat.le_of_ble_eq_true rfl, Nat.le_of_ble_eq_true rfl, Nat.le_of_ble_eq_true rfl⟩ (Nat.le_of_ble_eq_true rfl) dX5_sum_36 (fun r36 M36 hq36 => ?_)
        obtain ⟨rfl, rfl⟩ := hq36
        refine g_if_ne (tgt := 45) dX5_sum_39 (by decide) (fun c39 => ?_) (fun c39 => ?_)
        · have ck : ∀ k, k < xm M0 → okN (pt3 x0 x1 x2 k) := by
            rw [bI_dn] at c9
            intro k hk
            rcases (by omega : k = 0 ∨ k = 1 ∨ k = 2) with rfl | rfl | rfl
            · exact c9
            · first
              | (simp (disch := omega) only [i_le, zI_toInt] at c17
                 exact absurd c17 (by omega))
              | (rw [bI_dn] at c24
                 exact c24)
            · first
              | (simp (disch := omega) only [i_le, zI_toInt] at c32
                 exact absurd c32 (by omega))
              | (rw [bI_dn] at c39
                 exact c39)
              | (simp (disch := omega) only [i_le, zI_toInt] at c17
                 exact absurd c17 (by omega))
          rw [if_pos ck] at hQ
          refine g_aload_n rfl dX5_sum_45 ?_
          refine g_iconst dX5_sum_46 ?_
          refine g_iload_n rfl dX5_sum_47 ?_
          refine g_iload_n rfl dX5_sum_48 ?_
          refine g_iload_n rfl dX5_sum_49 ?_
          refine gi_X5_77 (by decide) rfl (ev_X5_sumOf (j := 0) hw hI (by decide) ck) rfl rfl ⟨Nat.le_of_ble_eq_true rfl, Nat.le_of_ble_eq_true rfl, Nat.le_of_ble_eq_true rfl, Nat.le_of_ble_eq_true rfl⟩ (Nat.le_of_ble_eq_true rfl) dX5_sum_50 (fun r50 M50 hq50 => ?_)
          obtain ⟨rfl, rfl⟩ := hq50
          refine g_ireturn rfl dX5_sum_53 ?_
          exact hQ
        · have ck : ¬ ∀ k, k < xm M0 → okN (pt3 x0 x1 x2 k) := by
            first
            | (rw [bI_d0] at c9
               exact fun q => c9 (q 0 (by omega)))
            | (rw [bI_d0] at c24
               simp (disch := omega) only [i_le, zI_toInt] at c17
               exact fun q => c24 (q 1 (by omega)))
            | (rw [bI_d0] at c39
               simp (disch := omega) only [i_le, zI_toInt] at c32
               exact fun q => c39 (q 2 (by omega)))
          rw [if_neg ck] at hQ
          refine g_bipush (by decide) dX5_sum_42 ?_
          refine g_ireturn rfl dX5_sum_44 ?_
          exact hQ
    · refine g_iload_n rfl dX5_sum_20 ?_
      refine gi_X5_97 (ev_X5_isNumber x1 M0) rfl rfl ⟨Nat.le_of_ble_eq_true rfl, Nat.le_of_ble_eq_true rfl, Nat.le_of_ble_eq_true rfl, Nat.le_of_ble_eq_true rfl⟩ (Nat.le_of_ble_eq_true rfl) dX5_sum_21 (fun r21 M21 hq21 => ?_)
      obtain ⟨rfl, rfl⟩ := hq21
      refine g_if_eq (tgt := 42) dX5_sum_24 (by decide) (fun c24 => ?_) (fun c24 => ?_)
      · have ck : ¬ ∀ k, k < xm M0 → okN (pt3 x0 x1 x2 k) := by
          first
          | (rw [bI_d0] at c9
             exact fun q => c9 (q 0 (by omega)))
          | (rw [bI_d0] at c24
             simp (disch := omega) only [i_le, zI_toInt] at c17
             exact fun q => c24 (q 1 (by omega)))
          | (rw [bI_d0] at c39
             simp (disch := omega) only [i_le, zI_toInt] at c32
             exact fun q => c39 (q 2 (by omega)))
        rw [if_neg ck] at hQ
        refine g_bipush (by decide) dX5_sum_42 ?_
        refine g_ireturn rfl dX5_sum_44 ?_
        exact hQ
      · refine g_aload_n rfl dX5_sum_27 ?_
        refine gf_X5_7 (by decide) rfl dX5_sum_28 ?_
        rw [hm]
        refine g_iconst dX5_sum_31 ?_
        refine g_icmp_le (tgt := 45) dX5_sum_32 (by decide) (fun c32 => ?_) (fun c32 => ?_)
        · have ck : ∀ k, k < xm M0 → okN (pt3 x0 x1 x2 k) := by
            rw [bI_dn] at c9
            intro k hk
            rcases (by omega : k = 0 ∨ k = 1 ∨ k = 2) with rfl | rfl | rfl
            · exact c9
            · first
              | (simp (disch := omega) only [i_le, zI_toInt] at c17
                 exact absurd c17 (by omega))
              | (rw [bI_dn] at c24
                 exact c24)
            · first
              | (simp (disch := omega) only [i_le, zI_toInt] at c32
                 exact absurd c32 (by omega))
              | (rw [bI_dn] at c39
                 exact c39)
              | (simp (disch := omega) only [i_le, zI_toInt] at c17
                 exact absurd c17 (by omega))
          rw [if_pos ck] at hQ
          refine g_aload_n rfl dX5_sum_45 ?_
          refine g_iconst dX5_sum_46 ?_
          refine g_iload_n rfl dX5_sum_47 ?_
          refine g_iload_n rfl dX5_sum_48 ?_
          refine g_iload_n rfl dX5_sum_49 ?_
          refine gi_X5_77 (by decide) rfl (ev_X5_sumOf (j := 0) hw hI (by decide) ck) rfl rfl ⟨Nat.le_of_ble_eq_true rfl, Nat.le_of_ble_eq_true rfl, Nat.le_of_ble_eq_true rfl, Nat.le_of_ble_eq_true rfl⟩ (Nat.le_of_ble_eq_true rfl) dX5_sum_50 (fun r50 M50 hq50 => ?_)
          obtain ⟨rfl, rfl⟩ := hq50
          refine g_ireturn rfl dX5_sum_53 ?_
          exact hQ
        · refine g_iload_n rfl dX5_sum_35 ?_
          refine gi_X5_97 (ev_X5_isNumber x2 M0) rfl rfl ⟨Nat.le_of_ble_eq_true rfl, Nat.le_of_ble_eq_true rfl, Nat.le_of_ble_eq_true rfl, Nat.le_of_ble_eq_true rfl⟩ (Nat.le_of_ble_eq_true rfl) dX5_sum_36 (fun r36 M36 hq36 => ?_)
          obtain ⟨rfl, rfl⟩ := hq36
          refine g_if_ne (tgt := 45) dX5_sum_39 (by decide) (fun c39 => ?_) (fun c39 => ?_)
          · have ck : ∀ k, k < xm M0 → okN (pt3 x0 x1 x2 k) := by
              rw [bI_dn] at c9
              intro k hk
              rcases (by omega : k = 0 ∨ k = 1 ∨ k = 2) with rfl | rfl | rfl
              · exact c9
              · first
                | (simp (disch := omega) only [i_le, zI_toInt] at c17
                   exact absurd c17 (by omega))
                | (rw [bI_dn] at c24
                   exact c24)
              · first
                | (simp (disch := omega) only [i_le, zI_toInt] at c32
                   exact absurd c32 (by omega))
                | (rw [bI_dn] at c39
                   exact c39)
                | (simp (disch := omega) only [i_le, zI_toInt] at c17
                   exact absurd c17 (by omega))
            rw [if_pos ck] at hQ
            refine g_aload_n rfl dX5_sum_45 ?_
            refine g_iconst dX5_sum_46 ?_
            refine g_iload_n rfl dX5_sum_47 ?_
            refine g_iload_n rfl dX5_sum_48 ?_
            refine g_iload_n rfl dX5_sum_49 ?_
            refine gi_X5_77 (by decide) rfl (ev_X5_sumOf (j := 0) hw hI (by decide) ck) rfl rfl ⟨Nat.le_of_ble_eq_true rfl, Nat.le_of_ble_eq_true rfl, Nat.le_of_ble_eq_true rfl, Nat.le_of_ble_eq_true rfl⟩ (Nat.le_of_ble_eq_true rfl) dX5_sum_50 (fun r50 M50 hq50 => ?_)
            obtain ⟨rfl, rfl⟩ := hq50
            refine g_ireturn rfl dX5_sum_53 ?_
            exact hQ
          · have ck : ¬ ∀ k, k < xm M0 → okN (pt3 x0 x1 x2 k) := by
              first
              | (rw [bI_d0] at c9
                 exact fun q => c9 (q 0 (by omega)))
              | (rw [bI_d0] at c24
                 simp (disch := omega) only [i_le, zI_toInt] at c17
                 exact fun q => c24 (q 1 (by omega)))
              | (rw [bI_d0] at c39
                 simp (disch := omega) only [i_le, zI_toInt] at c32
                 exact fun q => c39 (q 2 (by omega)))
            rw [if_neg ck] at hQ
            refine g_bipush (by decide) dX5_sum_42 ?_
            refine g_ireturn rfl dX5_sum_44 ?_
            exact hQ
theorem ev_X5_point {M : Mem} (hw : WX (thM M)) (hI : InvQ (thM M)) (j k : Int32) : EvF yX5_point cX5_point 3 (some .int) 2 [.ref 31, .int j, .int k] M (some (.int (if okS j then (if (thM M) 22 2 = 0 then zI (-3) else if 0 ≤ k.toInt ∧ k.toInt < mi (thM M) 0 6 then zI (ptX (thM M) j.toInt.toNat k.toInt.toNat) else zI (-2)) else zI (-1)))) (thM M) := by
  refine EvF.of (by decide +kernel) (Nat.le_of_ble_eq_true rfl) (fun Q hQ => ?_)
  generalize hM0 : thM M = M0 at hw hI hQ
  have hm := mx_m hw hI
  obtain ⟨hm1, hm2, hm3, -⟩ := hw.m
  have hk := i_bd k
  refine g_aload_n rfl dX5_point_0 ?_
  refine g_iconst dX5_point_1 ?_
  refine gp_X5_45 (by decide) rfl dX5_point_2 ?_
  refine g_mem hM0 ?_
  refine g_iload_n rfl dX5_point_5 ?_
  refine gi_X5_100 (ev_X5_isStore j M0) rfl rfl ⟨Nat.le_of_ble_eq_true rfl, Nat.le_of_ble_eq_true rfl, Nat.le_of_ble_eq_true rfl, Nat.le_of_ble_eq_true rfl⟩ (Nat.le_of_ble_eq_true rfl) dX5_point_6 (fun r6 M6 hq6 => ?_)
  obtain ⟨rfl, rfl⟩ := hq6
  refine g_if_ne (tgt := 14) dX5_point_9 (by decide) (fun c9 => ?_) (fun c9 => ?_)
  · rw [bI_dn] at c9
    rw [if_pos c9] at hQ
    obtain ⟨n, hn1, hn2, rfl⟩ := okS_n c9
    rw [tnN (by omega)] at hQ
    refine g_aload_n rfl dX5_point_14 ?_
    refine gf_X5_90 (by decide) rfl dX5_point_15 ?_
    rw [hI.as]
    refine g_if_ne (tgt := 24) dX5_point_18 (by decide) (fun c18 => ?_) (fun c18 => ?_)
    · have ha : mi M0 22 2 = 1 := Classical.byContradiction fun q => c18 ((asked_iff hw).mpr q)
      rw [if_neg c18] at hQ
      refine g_iload_n rfl dX5_point_24 ?_
      refine g_i2l dX5_point_25 ?_
      rw [i32l]
      refine g_lconst (v := zL 0) (by decide) dX5_point_26 ?_
      refine g_aload_n rfl dX5_point_27 ?_
      refine gf_X5_7 (by decide) rfl dX5_point_28 ?_
      rw [hm]
      refine g_iconst dX5_point_31 ?_
      refine g_isub dX5_point_32 ?_
      refine g_i2l dX5_point_33 ?_
      rw [zI_sub, zI_l (by omega) (by omega)]
      refine gi_X5_53 (ev_X5_in (v := k.toInt) (lo := 0) (hi := (xm M0 : Int) - 1) (by omega) (by omega) (by decide) (by decide) (by omega) (by omega) M0) rfl rfl ⟨Nat.le_of_ble_eq_true rfl, Nat.le_of_ble_eq_true rfl, Nat.le_of_ble_eq_true rfl, Nat.le_of_ble_eq_true rfl⟩ (Nat.le_of_ble_eq_true rfl) dX5_point_34 (fun r34 M34 hq34 => ?_)
      obtain ⟨rfl, rfl⟩ := hq34
      refine g_if_eq (tgt := 49) dX5_point_37 (by decide) (fun c37 => ?_) (fun c37 => ?_)
      · refine g_bipush (by decide) dX5_point_49 ?_
        refine g_ireturn rfl dX5_point_51 ?_
        rw [bI_d0] at c37
        rw [if_neg (fun q => c37 ⟨q.1, by omega⟩)] at hQ
        exact hQ
      · rw [bI_dn] at c37
        have ck : 0 ≤ k.toInt ∧ k.toInt < mi M0 0 6 := ⟨c37.1, by omega⟩
        rw [if_pos ck] at hQ
        obtain ⟨r, hr, rfl⟩ : ∃ r : Nat, r < xm M0 ∧ k = zI r := ⟨k.toInt.toNat, by omega, by rw [Int.toNat_of_nonneg (by omega), zI_of]⟩
        rw [tnN (by omega)] at hQ
        refine g_aload_n rfl dX5_point_40 ?_
        refine g_iload_n rfl dX5_point_41 ?_
        refine g_iload_n rfl dX5_point_42 ?_
        refine gi_X5_74 (by decide) rfl (ev_pt hw hI ha (j := n) (k := r) hn2 hr) rfl rfl ⟨Nat.le_of_ble_eq_true rfl, Nat.le_of_ble_eq_true rfl, Nat.le_of_ble_eq_true rfl, Nat.le_of_ble_eq_true rfl⟩ (Nat.le_of_ble_eq_true rfl) dX5_point_43 (fun r43 M43 hq43 => ?_)
        obtain ⟨rfl, rfl⟩ := hq43
        refine g_goto (tgt := 51) dX5_point_46 (by decide) ?_
        refine g_ireturn rfl dX5_point_51 ?_
        exact hQ
    · refine g_bipush (by decide) dX5_point_21 ?_
      refine g_ireturn rfl dX5_point_23 ?_
      rw [if_pos c18] at hQ
      exact hQ
  · refine g_iconst dX5_point_12 ?_
    refine g_ireturn rfl dX5_point_13 ?_
    rw [bI_d0] at c9
    rw [if_neg c9] at hQ
    exact hQ
theorem ev_X5_answer {M : Mem} (hw : WX (thM M)) (hI : InvQ (thM M)) (j : Int32) : EvF yX5_answer cX5_answer 2 (some .int) 3 [.ref 31, .int j] M (some (.int (if okS j then (if (thM M) 22 2 = 0 then zI (-3) else if mi (thM M) (3 + j.toInt.toNat) 1 = 3 then zI (-9) else zI (ansX (thM M) j.toInt.toNat)) else zI (-1)))) (thM M) := by
  refine EvF.of (by decide +kernel) (Nat.le_of_ble_eq_true rfl) (fun Q hQ => ?_)
  generalize hM0 : thM M = M0 at hw hI hQ
  refine g_aload_n rfl dX5_answer_0 ?_
  refine g_iconst dX5_answer_1 ?_
  refine gp_X5_45 (by decide) rfl dX5_answer_2 ?_
  refine g_mem hM0 ?_
  refine g_iload_n rfl dX5_answer_5 ?_
  refine gi_X5_100 (ev_X5_isStore j M0) rfl rfl ⟨Nat.le_of_ble_eq_true rfl, Nat.le_of_ble_eq_true rfl, Nat.le_of_ble_eq_true rfl, Nat.le_of_ble_eq_true rfl⟩ (Nat.le_of_ble_eq_true rfl) dX5_answer_6 (fun r6 M6 hq6 => ?_)
  obtain ⟨rfl, rfl⟩ := hq6
  refine g_if_ne (tgt := 16) dX5_answer_9 (by decide) (fun c9 => ?_) (fun c9 => ?_)
  · rw [bI_dn] at c9
    rw [if_pos c9] at hQ
    obtain ⟨n, hn1, hn2, rfl⟩ := okS_n c9
    rw [tnN (by omega)] at hQ
    have hkd := hI.kd n hn1 hn2
    refine g_aload_n rfl dX5_answer_16 ?_
    refine gf_X5_90 (by decide) rfl dX5_answer_17 ?_
    rw [hI.as]
    refine g_if_ne (tgt := 28) dX5_answer_20 (by decide) (fun c20 => ?_) (fun c20 => ?_)
    · have ha : mi M0 22 2 = 1 := Classical.byContradiction fun q => c20 ((asked_iff hw).mpr q)
      rw [if_neg c20] at hQ
      refine g_aload_n rfl dX5_answer_28 ?_
      refine gf_X5_17 (by decide) rfl rfl dX5_answer_29 ?_
      refine g_iload_n rfl dX5_answer_32 ?_
      refine g_iald (n := 10) (by decide) rfl rfl (zI_in (by omega) (by omega) (by decide)) dX5_answer_33 ?_
      rw [zI_clamp (by omega) (by omega), show ((n : Nat) : Int).toNat = n from rfl, hkd]
      refine g_iconst dX5_answer_34 ?_
      refine g_icmp_ne (tgt := 43) dX5_answer_35 (by decide) (fun c35 => ?_) (fun c35 => ?_)
      · refine g_aload_n rfl dX5_answer_43 ?_
        refine g_iload_n rfl dX5_answer_44 ?_
        refine gi_X5_126 (by decide) rfl (ev_X5_answerOf hw hI ha hn1 hn2) rfl rfl ⟨Nat.le_of_ble_eq_true rfl, Nat.le_of_ble_eq_true rfl, Nat.le_of_ble_eq_true rfl, Nat.le_of_ble_eq_true rfl⟩ (Nat.le_of_ble_eq_true rfl) dX5_answer_45 (fun r45 M45 hq45 => ?_)
        obtain ⟨rfl, rfl⟩ := hq45
        refine g_ireturn rfl dX5_answer_48 ?_
        rw [if_neg (fun q => c35 ((eqz_mi (by decide) (by decide)).mpr q))] at hQ
        exact hQ
      · refine g_bipush (by decide) dX5_answer_38 ?_
        refine g_goto (tgt := 48) dX5_answer_40 (by decide) ?_
        refine g_ireturn rfl dX5_answer_48 ?_
        rw [if_pos ((eqz_mi (by decide) (by decide)).mp c35)] at hQ
        exact hQ
    · refine g_bipush (by decide) dX5_answer_23 ?_
      refine g_goto (tgt := 48) dX5_answer_25 (by decide) ?_
      refine g_ireturn rfl dX5_answer_48 ?_
      rw [if_pos c20] at hQ
      exact hQ
  · refine g_iconst dX5_answer_12 ?_
    refine g_goto (tgt := 48) dX5_answer_13 (by decide) ?_
    refine g_ireturn rfl dX5_answer_48 ?_
    rw [bI_d0] at c9
    rw [if_neg c9] at hQ
    exact hQ
theorem ev_X5_needed (M : Mem) (m t l : Int32) : EvF yX5_needed cX5_needed 4 (some .int) 1 [.ref 31, .int m, .int t, .int l] M (some (.int (if okD m t l then m * t + zI 1 + zI 2 * l else zI (-2)))) (thM M) := by
  refine EvF.of (by decide +kernel) (Nat.le_of_ble_eq_true rfl) (fun Q hQ => ?_)
  generalize hM0 : thM M = M0 at hQ
  have b1 := i_bd m
  have b2 := i_bd t
  have b3 := i_bd l
  refine g_aload_n rfl dX5_needed_0 ?_
  refine g_iconst dX5_needed_1 ?_
  refine gp_X5_45 (by decide) rfl dX5_needed_2 ?_
  refine g_mem hM0 ?_
  refine g_iload_n rfl dX5_needed_5 ?_
  refine g_i2l dX5_needed_6 ?_
  rw [i32l]
  refine g_lconst (v := zL 1) (by decide) dX5_needed_7 ?_
  refine g_ldc2 gz_X5_88 dX5_needed_8 ?_
  refine gi_X5_53 (ev_X5_in (v := m.toInt) (lo := 1) (hi := 3) (by omega) (by omega) (by decide) (by decide) (by decide) (by decide) M0) rfl rfl ⟨Nat.le_of_ble_eq_true rfl, Nat.le_of_ble_eq_true rfl, Nat.le_of_ble_eq_true rfl, Nat.le_of_ble_eq_true rfl⟩ (Nat.le_of_ble_eq_true rfl) dX5_needed_11 (fun r11 M11 hq11 => ?_)
  obtain ⟨rfl, rfl⟩ := hq11
  refine g_if_eq (tgt := 41) dX5_needed_14 (by decide) (fun c14 => ?_) (fun c14 => ?_)
  · have ck : ¬ okD m t l := by
      first
      | (rw [bI_d0] at c14
         exact fun q => c14 q.1)
      | (rw [bI_d0] at c26
         exact fun q => c26 q.2.1)
      | (rw [bI_d0] at c38
         exact fun q => c38 q.2.2)
    rw [if_neg ck] at hQ
    refine g_bipush (by decide) dX5_needed_41 ?_
    refine g_goto (tgt := 55) dX5_needed_43 (by decide) ?_
    refine g_ireturn rfl dX5_needed_55 ?_
    exact hQ
  · refine g_iload_n rfl dX5_needed_17 ?_
    refine g_i2l dX5_needed_18 ?_
    rw [i32l]
    refine g_lconst (v := zL 1) (by decide) dX5_needed_19 ?_
    refine g_ldc2 gz_X5_103 dX5_needed_20 ?_
    refine gi_X5_53 (ev_X5_in (v := t.toInt) (lo := 1) (hi := 2) (by omega) (by omega) (by decide) (by decide) (by decide) (by decide) M0) rfl rfl ⟨Nat.le_of_ble_eq_true rfl, Nat.le_of_ble_eq_true rfl, Nat.le_of_ble_eq_true rfl, Nat.le_of_ble_eq_true rfl⟩ (Nat.le_of_ble_eq_true rfl) dX5_needed_23 (fun r23 M23 hq23 => ?_)
    obtain ⟨rfl, rfl⟩ := hq23
    refine g_if_eq (tgt := 41) dX5_needed_26 (by decide) (fun c26 => ?_) (fun c26 => ?_)
    · have ck : ¬ okD m t l := by
        first
        | (rw [bI_d0] at c14
           exact fun q => c14 q.1)
        | (rw [bI_d0] at c26
           exact fun q => c26 q.2.1)
        | (rw [bI_d0] at c38
           exact fun q => c38 q.2.2)
      rw [if_neg ck] at hQ
      refine g_bipush (by decide) dX5_needed_41 ?_
      refine g_goto (tgt := 55) dX5_needed_43 (by decide) ?_
      refine g_ireturn rfl dX5_needed_55 ?_
      exact hQ
    · refine g_iload_n rfl dX5_needed_29 ?_
      refine g_i2l dX5_needed_30 ?_
      rw [i32l]
      refine g_lconst (v := zL 0) (by decide) dX5_needed_31 ?_
      refine g_ldc2 gz_X5_129 dX5_needed_32 ?_
      refine gi_X5_53 (ev_X5_in (v := l.toInt) (lo := 0) (hi := 4) (by omega) (by omega) (by decide) (by decide) (by decide) (by decide) M0) rfl rfl ⟨Nat.le_of_ble_eq_true rfl, Nat.le_of_ble_eq_true rfl, Nat.le_of_ble_eq_true rfl, Nat.le_of_ble_eq_true rfl⟩ (Nat.le_of_ble_eq_true rfl) dX5_needed_35 (fun r35 M35 hq35 => ?_)
      obtain ⟨rfl, rfl⟩ := hq35
      refine g_if_ne (tgt := 46) dX5_needed_38 (by decide) (fun c38 => ?_) (fun c38 => ?_)
      · refine g_iload_n rfl dX5_needed_46 ?_
        refine g_iload_n rfl dX5_needed_47 ?_
        refine g_imul dX5_needed_48 ?_
        refine g_iconst dX5_needed_49 ?_
        refine g_iadd dX5_needed_50 ?_
        refine g_iconst dX5_needed_51 ?_
        refine g_iload_n rfl dX5_needed_52 ?_
        refine g_imul dX5_needed_53 ?_
        refine g_iadd dX5_needed_54 ?_
        refine g_ireturn rfl dX5_needed_55 ?_
        rw [bI_dn] at c14 c26 c38
        rw [if_pos ⟨c14, c26, c38⟩] at hQ
        exact hQ
      · have ck : ¬ okD m t l := by
          first
          | (rw [bI_d0] at c14
             exact fun q => c14 q.1)
          | (rw [bI_d0] at c26
             exact fun q => c26 q.2.1)
          | (rw [bI_d0] at c38
             exact fun q => c38 q.2.2)
        rw [if_neg ck] at hQ
        refine g_bipush (by decide) dX5_needed_41 ?_
        refine g_goto (tgt := 55) dX5_needed_43 (by decide) ?_
        refine g_ireturn rfl dX5_needed_55 ?_
        exact hQ
theorem ev_X5_caught {M : Mem} (hcb : ∀ j, j < 10 → (thM M) 38 j = zI (mi (thM M) 0 7 / 2 ^ j % 2)) (j : Int32) : EvF yX5_caught cX5_caught 2 (some .int) 2 [.ref 31, .int j] M (some (.int (if okS j then zI (mi (thM M) 0 7 / 2 ^ j.toInt.toNat % 2) else zI (-1)))) (thM M) := by
  refine EvF.of (by decide +kernel) (Nat.le_of_ble_eq_true rfl) (fun Q hQ => ?_)
  generalize hM0 : thM M = M0 at hcb hQ
  refine g_aload_n rfl dX5_caught_0 ?_
  refine g_iconst dX5_caught_1 ?_
  refine gp_X5_45 (by decide) rfl dX5_caught_2 ?_
  refine g_mem hM0 ?_
  refine g_iload_n rfl dX5_caught_5 ?_
  refine gi_X5_100 (ev_X5_isStore j M0) rfl rfl ⟨Nat.le_of_ble_eq_true rfl, Nat.le_of_ble_eq_true rfl, Nat.le_of_ble_eq_true rfl, Nat.le_of_ble_eq_true rfl⟩ (Nat.le_of_ble_eq_true rfl) dX5_caught_6 (fun r6 M6 hq6 => ?_)
  obtain ⟨rfl, rfl⟩ := hq6
  refine g_if_ne (tgt := 16) dX5_caught_9 (by decide) (fun c9 => ?_) (fun c9 => ?_)
  · rw [bI_dn] at c9
    rw [if_pos c9] at hQ
    obtain ⟨n, hn1, hn2, rfl⟩ := okS_n c9
    rw [tnN (by omega)] at hQ
    refine g_aload_n rfl dX5_caught_16 ?_
    refine gf_X5_32 (by decide) rfl rfl dX5_caught_17 ?_
    refine g_iload_n rfl dX5_caught_20 ?_
    refine g_zald (n := 10) (by decide) rfl rfl (zI_in (by omega) (by omega) (by decide)) dX5_caught_21 ?_
    rw [zI_clamp (by omega) (by omega), show ((n : Nat) : Int).toNat = n from rfl, hcb n hn2]
    refine g_if_eq (tgt := 29) dX5_caught_22 (by decide) (fun c22 => ?_) (fun c22 => ?_)
    · refine g_iconst dX5_caught_29 ?_
      refine g_ireturn rfl dX5_caught_30 ?_
      have hb := hcb n hn2
      rw [zI_zero, zI_eqz (by have := Int.emod_nonneg (mi M0 0 7 / 2 ^ n) (show (2 : Int) ≠ 0 by decide); omega) (by have := Int.emod_lt_of_pos (mi M0 0 7 / 2 ^ n) (show (0 : Int) < 2 by decide); omega) (by decide) (by decide)] at c22
      rw [c22] at hQ
      exact hQ
    · refine g_iconst dX5_caught_25 ?_
      refine g_goto (tgt := 30) dX5_caught_26 (by decide) ?_
      refine g_ireturn rfl dX5_caught_30 ?_
      have h1 := Int.emod_nonneg (mi M0 0 7 / 2 ^ n) (show (2 : Int) ≠ 0 by decide)
      have h2 := Int.emod_lt_of_pos (mi M0 0 7 / 2 ^ n) (show (0 : Int) < 2 by decide)
      rw [zI_zero, zI_eqz (by omega) (by omega) (by decide) (by decide)] at c22
      rw [show mi M0 0 7 / 2 ^ n % 2 = 1 by omega] at hQ
      exact hQ
  · refine g_iconst dX5_caught_12 ?_
    refine g_goto (tgt := 30) dX5_caught_13 (by decide) ?_
    refine g_ireturn rfl dX5_caught_30 ?_
    rw [bI_d0] at c9
    rw [if_neg c9] at hQ
    exact hQ
theorem ev_X5_both {M : Mem} (hw : WX (thM M)) (hI : InvQ (thM M)) (j set : Int32) : EvF yX5_both cX5_both 3 (some .int) 2 [.ref 31, .int j, .int set] M (some (.int (if okS j then (if okB (thM M) set then (if mi (thM M) (3 + j.toInt.toNat) 1 = 3 then zI (-9) else zI (tosX (thM M) j.toInt.toNat set.toInt)) else zI (-2)) else zI (-1)))) (thM M) := by
  refine EvF.of (by decide +kernel) (Nat.le_of_ble_eq_true rfl) (fun Q hQ => ?_)
  generalize hM0 : thM M = M0 at hw hI hQ
  have hm := mx_m hw hI
  refine g_aload_n rfl dX5_both_0 ?_
  refine g_iconst dX5_both_1 ?_
  refine gp_X5_45 (by decide) rfl dX5_both_2 ?_
  refine g_mem hM0 ?_
  refine g_iload_n rfl dX5_both_5 ?_
  refine gi_X5_100 (ev_X5_isStore j M0) rfl rfl ⟨Nat.le_of_ble_eq_true rfl, Nat.le_of_ble_eq_true rfl, Nat.le_of_ble_eq_true rfl, Nat.le_of_ble_eq_true rfl⟩ (Nat.le_of_ble_eq_true rfl) dX5_both_6 (fun r6 M6 hq6 => ?_)
  obtain ⟨rfl, rfl⟩ := hq6
  refine g_if_ne (tgt := 14) dX5_both_9 (by decide) (fun c9 => ?_) (fun c9 => ?_)
  · rw [bI_dn] at c9
    rw [if_pos c9] at hQ
    obtain ⟨n, hn1, hn2, rfl⟩ := okS_n c9
    rw [tnN (by omega)] at hQ
    have hkd := hI.kd n hn1 hn2
    refine g_aload_n rfl dX5_both_14 ?_
    refine g_iload_n rfl dX5_both_15 ?_
    refine gi_X5_182 (by decide) rfl (ev_X5_isSum hw hm set) rfl rfl ⟨Nat.le_of_ble_eq_true rfl, Nat.le_of_ble_eq_true rfl, Nat.le_of_ble_eq_true rfl, Nat.le_of_ble_eq_true rfl⟩ (Nat.le_of_ble_eq_true rfl) dX5_both_16 (fun r16 M16 hq16 => ?_)
    obtain ⟨rfl, rfl⟩ := hq16
    refine g_if_ne (tgt := 27) dX5_both_19 (by decide) (fun c19 => ?_) (fun c19 => ?_)
    · rw [bI_dn] at c19
      rw [if_pos c19] at hQ
      refine g_aload_n rfl dX5_both_27 ?_
      refine gf_X5_17 (by decide) rfl rfl dX5_both_28 ?_
      refine g_iload_n rfl dX5_both_31 ?_
      refine g_iald (n := 10) (by decide) rfl rfl (zI_in (by omega) (by omega) (by decide)) dX5_both_32 ?_
      rw [zI_clamp (by omega) (by omega), show ((n : Nat) : Int).toNat = n from rfl, hkd]
      refine g_iconst dX5_both_33 ?_
      refine g_icmp_ne (tgt := 42) dX5_both_34 (by decide) (fun c34 => ?_) (fun c34 => ?_)
      · refine g_aload_n rfl dX5_both_42 ?_
        refine g_iload_n rfl dX5_both_43 ?_
        refine g_iload_n rfl dX5_both_44 ?_
        rw [← zI_of set]
        refine gi_X5_185 (by decide) rfl (ev_X5_bothOf hw hI hn1 hn2 c19.1 (i_bd set).2) rfl rfl ⟨Nat.le_of_ble_eq_true rfl, Nat.le_of_ble_eq_true rfl, Nat.le_of_ble_eq_true rfl, Nat.le_of_ble_eq_true rfl⟩ (Nat.le_of_ble_eq_true rfl) dX5_both_45 (fun r45 M45 hq45 => ?_)
        obtain ⟨rfl, rfl⟩ := hq45
        refine g_ireturn rfl dX5_both_48 ?_
        rw [if_neg (fun q => c34 ((eqz_mi (by decide) (by decide)).mpr q))] at hQ
        exact hQ
      · refine g_bipush (by decide) dX5_both_37 ?_
        refine g_goto (tgt := 48) dX5_both_39 (by decide) ?_
        refine g_ireturn rfl dX5_both_48 ?_
        rw [if_pos ((eqz_mi (by decide) (by decide)).mp c34)] at hQ
        exact hQ
    · refine g_bipush (by decide) dX5_both_22 ?_
      refine g_goto (tgt := 48) dX5_both_24 (by decide) ?_
      refine g_ireturn rfl dX5_both_48 ?_
      rw [bI_d0] at c19
      rw [if_neg c19] at hQ
      exact hQ
  · refine g_iconst dX5_both_12 ?_
    refine g_ireturn rfl dX5_both_13 ?_
    rw [bI_d0] at c9
    rw [if_neg c9] at hQ
    exact hQ
theorem ev_X5_pair {M : Mem} (hw : WX (thM M)) (hI : InvQ (thM M)) (a b set i : Int32) : EvF yX5_pair cX5_pair 5 (some .int) 2 [.ref 31, .int a, .int b, .int set, .int i] M (some (.int (if okS a ∧ okS b ∧ okR (thM M) i then (if a = b then zI (-3) else if okB (thM M) set then paiX (thM M) a.toInt.toNat b.toInt.toNat set i.toInt.toNat else zI (-2)) else zI (-1)))) (thM M) := by
  refine EvF.of (by decide +kernel) (Nat.le_of_ble_eq_true rfl) (fun Q hQ => ?_)
  generalize hM0 : thM M = M0 at hw hI hQ
  have hm := mx_m hw hI
  obtain ⟨hm1, hm2, -, -⟩ := hw.m
  have hb8 : (2 : Int) ^ (2 ^ xm M0) ≤ 256 := by rcases (by omega : xm M0 = 1 ∨ xm M0 = 2 ∨ xm M0 = 3) with e | e | e <;> rw [e] <;> decide
  refine g_aload_n rfl dX5_pair_0 ?_
  refine g_iconst dX5_pair_1 ?_
  refine gp_X5_45 (by decide) rfl dX5_pair_2 ?_
  refine g_mem hM0 ?_
  refine g_iload_n rfl dX5_pair_5 ?_
  refine gi_X5_100 (ev_X5_isStore a M0) rfl rfl ⟨Nat.le_of_ble_eq_true rfl, Nat.le_of_ble_eq_true rfl, Nat.le_of_ble_eq_true rfl, Nat.le_of_ble_eq_true rfl⟩ (Nat.le_of_ble_eq_true rfl) dX5_pair_6 (fun r6 M6 hq6 => ?_)
  obtain ⟨rfl, rfl⟩ := hq6
  refine g_if_eq (tgt := 28) dX5_pair_9 (by decide) (fun c9 => ?_) (fun c9 => ?_)
  · have ck : ¬ (okS a ∧ okS b ∧ okR M0 i) := by
      first
      | (rw [bI_d0] at c9
         exact fun q => c9 q.1)
      | (rw [bI_d0] at c16
         exact fun q => c16 q.2.1)
      | (rw [bI_d0] at c25
         exact fun q => c25 q.2.2)
    rw [if_neg ck] at hQ
    refine g_iconst dX5_pair_28 ?_
    refine g_ireturn rfl dX5_pair_29 ?_
    exact hQ
  · refine g_iload_n rfl dX5_pair_12 ?_
    refine gi_X5_100 (ev_X5_isStore b M0) rfl rfl ⟨Nat.le_of_ble_eq_true rfl, Nat.le_of_ble_eq_true rfl, Nat.le_of_ble_eq_true rfl, Nat.le_of_ble_eq_true rfl⟩ (Nat.le_of_ble_eq_true rfl) dX5_pair_13 (fun r13 M13 hq13 => ?_)
    obtain ⟨rfl, rfl⟩ := hq13
    refine g_if_eq (tgt := 28) dX5_pair_16 (by decide) (fun c16 => ?_) (fun c16 => ?_)
    · have ck : ¬ (okS a ∧ okS b ∧ okR M0 i) := by
        first
        | (rw [bI_d0] at c9
           exact fun q => c9 q.1)
        | (rw [bI_d0] at c16
           exact fun q => c16 q.2.1)
        | (rw [bI_d0] at c25
           exact fun q => c25 q.2.2)
      rw [if_neg ck] at hQ
      refine g_iconst dX5_pair_28 ?_
      refine g_ireturn rfl dX5_pair_29 ?_
      exact hQ
    · refine g_aload_n rfl dX5_pair_19 ?_
      refine g_iload rfl dX5_pair_20 ?_
      refine gi_X5_93 (by decide) rfl (ev_X5_isRecord hw hm i) rfl rfl ⟨Nat.le_of_ble_eq_true rfl, Nat.le_of_ble_eq_true rfl, Nat.le_of_ble_eq_true rfl, Nat.le_of_ble_eq_true rfl⟩ (Nat.le_of_ble_eq_true rfl) dX5_pair_22 (fun r22 M22 hq22 => ?_)
      obtain ⟨rfl, rfl⟩ := hq22
      refine g_if_ne (tgt := 30) dX5_pair_25 (by decide) (fun c25 => ?_) (fun c25 => ?_)
      · rw [bI_dn] at c9 c16 c25
        rw [if_pos ⟨c9, c16, c25⟩] at hQ
        refine g_iload_n rfl dX5_pair_30 ?_
        refine g_iload_n rfl dX5_pair_31 ?_
        refine g_icmp_ne (tgt := 38) dX5_pair_32 (by decide) (fun c32 => ?_) (fun c32 => ?_)
        · refine g_aload_n rfl dX5_pair_38 ?_
          refine g_iload_n rfl dX5_pair_39 ?_
          refine gi_X5_182 (by decide) rfl (ev_X5_isSum hw hm set) rfl rfl ⟨Nat.le_of_ble_eq_true rfl, Nat.le_of_ble_eq_true rfl, Nat.le_of_ble_eq_true rfl, Nat.le_of_ble_eq_true rfl⟩ (Nat.le_of_ble_eq_true rfl) dX5_pair_40 (fun r40 M40 hq40 => ?_)
          obtain ⟨rfl, rfl⟩ := hq40
          refine g_if_ne (tgt := 49) dX5_pair_43 (by decide) (fun c43 => ?_) (fun c43 => ?_)
          · rw [bI_dn] at c43
            rw [if_neg c32, if_pos c43, paiX] at hQ
            obtain ⟨n, hn1, hn2, rfl⟩ := okS_n c9
            obtain ⟨u, hu1, hu2, rfl⟩ := okS_n c16
            obtain ⟨r, hr1, hr2, rfl⟩ := okR_n hw c25
            have hp : 2 ^ r < 2 ^ 8 := Nat.pow_lt_pow_right (by decide) hr2
            have hx : set.toInt.toNat ^^^ 2 ^ r < 2 ^ 8 := Nat.xor_lt_two_pow (by omega) hp
            have hpz := p2_z r
            have eset : set = zI ((set.toInt.toNat : Nat) : Int) := by rw [Int.toNat_of_nonneg c43.1, zI_of]
            rw [tnN (by omega), tnN (by omega), tnN (by omega)] at hQ
            have hkd := hI.kd n hn1 hn2
            have hkd2 := hI.kd u hu1 hu2
            refine g_aload_n rfl dX5_pair_49 ?_
            refine gf_X5_17 (by decide) rfl rfl dX5_pair_50 ?_
            refine g_iload_n rfl dX5_pair_53 ?_
            refine g_iald (n := 10) (by decide) rfl rfl (zI_in (by omega) (by omega) (by decide)) dX5_pair_54 ?_
            rw [zI_clamp (by omega) (by omega), show ((n : Nat) : Int).toNat = n from rfl, hkd]
            refine g_iconst dX5_pair_55 ?_
            refine g_icmp_eq (tgt := 69) dX5_pair_56 (by decide) (fun c56 => ?_) (fun c56 => ?_)
            · have ck : mi M0 (3 + n) 1 = 3 ∨ mi M0 (3 + u) 1 = 3 := by
                first
                | exact Or.inl ((eqz_mi (by decide) (by decide)).mp c56)
                | exact Or.inr ((eqz_mi (by decide) (by decide)).mp c66)
              rw [if_pos ck] at hQ
              refine g_bipush (by decide) dX5_pair_69 ?_
              refine g_goto (tgt := 92) dX5_pair_71 (by decide) ?_
              refine g_ireturn rfl dX5_pair_92 ?_
              exact hQ
            · refine g_aload_n rfl dX5_pair_59 ?_
              refine gf_X5_17 (by decide) rfl rfl dX5_pair_60 ?_
              refine g_iload_n rfl dX5_pair_63 ?_
              refine g_iald (n := 10) (by decide) rfl rfl (zI_in (by omega) (by omega) (by decide)) dX5_pair_64 ?_
              rw [zI_clamp (by omega) (by omega), show ((u : Nat) : Int).toNat = u from rfl, hkd2]
              refine g_iconst dX5_pair_65 ?_
              refine g_icmp_ne (tgt := 74) dX5_pair_66 (by decide) (fun c66 => ?_) (fun c66 => ?_)
              · refine g_aload_n rfl dX5_pair_74 ?_
                refine g_iload_n rfl dX5_pair_75 ?_
                refine g_iload_n rfl dX5_pair_76 ?_
                rw [← zI_of set]
                refine gi_X5_185 (by decide) rfl (ev_X5_bothOf hw hI hn1 hn2 c43.1 (i_bd set).2) rfl rfl ⟨Nat.le_of_ble_eq_true rfl, Nat.le_of_ble_eq_true rfl, Nat.le_of_ble_eq_true rfl, Nat.le_of_ble_eq_true rfl⟩ (Nat.le_of_ble_eq_true rfl) dX5_pair_77 (fun r77 M77 hq77 => ?_)
                obtain ⟨rfl, rfl⟩ := hq77
                refine g_aload_n rfl dX5_pair_80 ?_
                refine g_iload_n rfl dX5_pair_81 ?_
                refine g_iload_n rfl dX5_pair_82 ?_
                refine g_iconst dX5_pair_83 ?_
                refine g_iload rfl dX5_pair_84 ?_
                refine g_ishl dX5_pair_86 ?_
                rw [zI_shl (by decide) (by omega) (by omega), Int.one_mul, hpz]
                refine g_ixor dX5_pair_87 ?_
                rw [zI_of set, show set ^^^ zI ((2 ^ r : Nat) : Int) = zI (flip set r) by
                rw [flip, ← zI_xor (by omega) (by omega), ← eset]]
                refine gi_X5_185 (by decide) rfl (ev_X5_bothOf (set := flip set r) hw hI hu1 hu2 (by unfold flip; omega) (by unfold flip; omega)) rfl rfl ⟨Nat.le_of_ble_eq_true rfl, Nat.le_of_ble_eq_true rfl, Nat.le_of_ble_eq_true rfl, Nat.le_of_ble_eq_true rfl⟩ (Nat.le_of_ble_eq_true rfl) dX5_pair_88 (fun r88 M88 hq88 => ?_)
                obtain ⟨rfl, rfl⟩ := hq88
                refine g_ixor dX5_pair_91 ?_
                refine g_ireturn rfl dX5_pair_92 ?_
                rw [eqz_mi (by decide) (by decide)] at c56 c66
                rw [if_neg (fun q => q.elim c56 c66)] at hQ
                exact hQ
              · have ck : mi M0 (3 + n) 1 = 3 ∨ mi M0 (3 + u) 1 = 3 := by
                  first
                  | exact Or.inl ((eqz_mi (by decide) (by decide)).mp c56)
                  | exact Or.inr ((eqz_mi (by decide) (by decide)).mp c66)
                rw [if_pos ck] at hQ
                refine g_bipush (by decide) dX5_pair_69 ?_
                refine g_goto (tgt := 92) dX5_pair_71 (by decide) ?_
                refine g_ireturn rfl dX5_pair_92 ?_
                exact hQ
          · refine g_bipush (by decide) dX5_pair_46 ?_
            refine g_ireturn rfl dX5_pair_48 ?_
            rw [bI_d0] at c43
            rw [if_neg c32, if_neg c43] at hQ
            exact hQ
        · refine g_bipush (by decide) dX5_pair_35 ?_
          refine g_ireturn rfl dX5_pair_37 ?_
          rw [if_pos c32] at hQ
          exact hQ
      · have ck : ¬ (okS a ∧ okS b ∧ okR M0 i) := by
          first
          | (rw [bI_d0] at c9
             exact fun q => c9 q.1)
          | (rw [bI_d0] at c16
             exact fun q => c16 q.2.1)
          | (rw [bI_d0] at c25
             exact fun q => c25 q.2.2)
        rw [if_neg ck] at hQ
        refine g_iconst dX5_pair_28 ?_
        refine g_ireturn rfl dX5_pair_29 ?_
        exact hQ
