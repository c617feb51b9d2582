/-! the reference: ways, its methods -/
theorem ev_X5_waysOf {M : Mem} (hw : WX M) (hI : InvQ M) (ha : mi M 22 2 = 1) {n k : Nat} (hn : n < 1024) (hn2 : 2 ≤ n) (he : n % 2 = 0) (hk : k < xm M) {bit : Int} (hb1 : 0 ≤ bit) (hb2 : bit ≤ 1) : EvF yX5_waysOf cX5_waysOf 9 (some .int) 2 [.ref 31, .int (zI n), .int (zI k), .int (zI bit)] M (some (.int (zI (wvX M n k bit)))) M := by
  refine EvF.of (by decide +kernel) (Nat.le_of_ble_eq_true rfl) (fun Q hQ => ?_)
  obtain ⟨q1, q2, q3, q4, q5⟩ := hI.qs ha
  have hkf := hw.kf
  have e8 : M 31 8 = zI (mi M 22 5) := by rw [q2, mi_z]
  obtain ⟨o1, o2, o3⟩ := scn_1 n hn hn2 he
  have s2 := scn_2 n hn hn2 he
  have s3 := scn_3 n hn hn2 he
  have hpb : ∀ j, 0 ≤ ptX M j k ∧ ptX M j k < 97 := fun j => pntS_bd _ _ _ _ _
  have loop : ∀ (d q : Nat), d + q = 9 → G yX5_waysOf.cls cX5_waysOf 9 (some .int) (gE 2 Q) 40 [(0, .ref 31), (1, .int (zI n)), (2, .int (zI k)), (3, .int (zI bit)), (4, .int (zI ((scn n 9).1 : Nat))), (5, .int (zI ((scn n 9).2 : Nat)))] [] M → G yX5_waysOf.cls cX5_waysOf 9 (some .int) (gE 2 Q) 10 [(0, .ref 31), (1, .int (zI n)), (2, .int (zI k)), (3, .int (zI bit)), (4, .int (zI ((scn n q).1 : Nat))), (5, .int (zI ((scn n q).2 : Nat))), (6, .int (zI ((9 - q : Nat) : Int)))] [] M := by
    intro d
    induction d with
    | zero =>
      intro q hq K
      obtain rfl : q = 9 := by omega
      refine g_iload rfl dX5_waysOf_10 ?_
      refine g_iconst dX5_waysOf_12 ?_
      refine g_icmp_lt (tgt := 40) dX5_waysOf_13 (by decide) (fun c13 => ?_) (fun c13 => ?_)
      · exact g_locp [0, 1, 2, 3, 4, 5] rfl K
      · simp (disch := omega) only [i_lt, zI_toInt] at c13
        omega
    | succ d ih =>
      intro q hq K
      have ih := ih (q + 1) (by omega) K
      have h4 : 0 ≤ (n : Int) / 2 ^ (9 - q) := Int.ediv_nonneg (by omega) (by exact Int.le_of_lt (Int.pow_pos (by decide)))
      have h5 : (n : Int) / 2 ^ (9 - q) ≤ n := Int.ediv_le_self _ (by omega)
      have hn3 : (n : Int) / 2 ^ (9 - q) % 2 = ((n / 2 ^ (9 - q) % 2 : Nat) : Int) := by
        rw [Int.natCast_emod, Int.natCast_ediv]
        simp
      refine g_iload rfl dX5_waysOf_10 ?_
      refine g_iconst dX5_waysOf_12 ?_
      refine g_icmp_lt (tgt := 40) dX5_waysOf_13 (by decide) (fun c13 => ?_) (fun c13 => ?_)
      · simp (disch := omega) only [i_lt, zI_toInt] at c13
        omega
      · refine g_iload_n rfl dX5_waysOf_16 ?_
        refine g_iload rfl dX5_waysOf_17 ?_
        refine g_ishr dX5_waysOf_19 ?_
        refine g_iconst dX5_waysOf_20 ?_
        refine g_iand dX5_waysOf_21 ?_
        rw [zI_shr (by omega) (by omega) (by omega), zI_and1 h4 (by omega), hn3]
        refine g_iconst dX5_waysOf_22 ?_
        refine g_icmp_ne (tgt := 34) dX5_waysOf_23 (by decide) (fun c23 => ?_) (fun c23 => ?_)
        · refine g_iinc (L2 := [(0, _), (1, _), (2, _), (3, _), (4, _), (5, _), (6, _)]) rfl (by decide) rfl dX5_waysOf_34 ?_
          refine g_goto (tgt := 10) dX5_waysOf_37 (by decide) ?_
          rw [zI_eqz (by omega) (by omega) (by decide) (by decide)] at c23
          rw [scn, if_neg (by omega)] at ih
          rw [zI_add, show ((9 - q : Nat) : Int) + -1 = ((9 - (q + 1) : Nat) : Int) by omega]
          exact ih
        · refine g_iload rfl dX5_waysOf_26 ?_
          refine g_istore (L2 := [(0, _), (1, _), (2, _), (3, _), (4, _), (5, _), (6, _)]) (by decide) rfl dX5_waysOf_28 ?_
          refine g_iload rfl dX5_waysOf_30 ?_
          refine g_istore (L2 := [(0, _), (1, _), (2, _), (3, _), (4, _), (5, _), (6, _)]) (by decide) rfl dX5_waysOf_32 ?_
          refine g_iinc (L2 := [(0, _), (1, _), (2, _), (3, _), (4, _), (5, _), (6, _)]) rfl (by decide) rfl dX5_waysOf_34 ?_
          refine g_goto (tgt := 10) dX5_waysOf_37 (by decide) ?_
          rw [zI_eqz (by omega) (by omega) (by decide) (by decide)] at c23
          rw [scn, if_pos (by omega)] at ih
          rw [zI_add, show ((9 - q : Nat) : Int) + -1 = ((9 - (q + 1) : Nat) : Int) by omega]
          exact ih
  refine g_iconst dX5_waysOf_0 ?_
  refine g_istore (L2 := [(0, _), (1, _), (2, _), (3, _), (4, _)]) (by decide) rfl dX5_waysOf_1 ?_
  refine g_iconst dX5_waysOf_3 ?_
  refine g_istore (L2 := [(0, _), (1, _), (2, _), (3, _), (4, _), (5, _)]) (by decide) rfl dX5_waysOf_4 ?_
  refine g_bipush (by decide) dX5_waysOf_6 ?_
  refine g_istore (L2 := [(0, _), (1, _), (2, _), (3, _), (4, _), (5, _), (6, _)]) (by decide) rfl dX5_waysOf_8 ?_
  refine loop 9 0 (by omega) ?_
  generalize hO : (scn n 9).1 = o at o1 o2 o3 s3
  generalize hTw : (scn n 9).2 = tw at s2 s3
  have hp1 := hpb o
  have hiv := iv_all o (by omega) o1
  have hm1 : -20000 < (ptX M o k - bit) * (ivS o : Nat) ∧ (ptX M o k - bit) * (ivS o : Nat) < 20000 := by
    have h1 := Int.mul_le_mul_of_nonneg_right (show ptX M o k - bit ≤ 97 by omega) (show (0 : Int) ≤ (ivS o : Nat) by omega)
    have h2 := Int.mul_le_mul_of_nonneg_right (show -1 ≤ ptX M o k - bit by omega) (show (0 : Int) ≤ (ivS o : Nat) by omega)
    omega
  refine g_aload_n rfl dX5_waysOf_40 ?_
  refine g_iload rfl dX5_waysOf_41 ?_
  refine g_iload_n rfl dX5_waysOf_43 ?_
  refine gi_X5_74 (by decide) rfl (ev_pt hw hI ha (j := o) (k := k) (by omega) hk) rfl rfl ⟨Nat.le_of_ble_eq_true rfl, Nat.le_of_ble_eq_true rfl, Nat.le_of_ble_eq_true rfl, Nat.le_of_ble_eq_true rfl⟩ (Nat.le_of_ble_eq_true rfl) dX5_waysOf_44 (fun r44 M44 hq44 => ?_)
  obtain ⟨rfl, rfl⟩ := hq44
  refine g_iload_n rfl dX5_waysOf_47 ?_
  refine g_isub dX5_waysOf_48 ?_
  rw [zI_sub]
  refine g_iload rfl dX5_waysOf_49 ?_
  refine gi_X5_134 (ev_X5_inverse (v := o) o1 (by omega) M) rfl rfl ⟨Nat.le_of_ble_eq_true rfl, Nat.le_of_ble_eq_true rfl, Nat.le_of_ble_eq_true rfl, Nat.le_of_ble_eq_true rfl⟩ (Nat.le_of_ble_eq_true rfl) dX5_waysOf_51 (fun r51 M51 hq51 => ?_)
  obtain ⟨rfl, rfl⟩ := hq51
  refine g_imul dX5_waysOf_54 ?_
  rw [zI_mul]
  refine gi_X5_67 (ev_X5_mod (z := (ptX M o k - bit) * (ivS o : Nat)) (by omega) (by omega) M) rfl rfl ⟨Nat.le_of_ble_eq_true rfl, Nat.le_of_ble_eq_true rfl, Nat.le_of_ble_eq_true rfl, Nat.le_of_ble_eq_true rfl⟩ (Nat.le_of_ble_eq_true rfl) dX5_waysOf_55 (fun r55 M55 hq55 => ?_)
  obtain ⟨rfl, rfl⟩ := hq55
  refine g_istore (L2 := [(0, _), (1, _), (2, _), (3, _), (4, _), (5, _), (6, _)]) (by decide) rfl dX5_waysOf_58 ?_
  refine g_iconst dX5_waysOf_60 ?_
  refine g_istore (L2 := [(0, _), (1, _), (2, _), (3, _), (4, _), (5, _), (6, _), (7, _)]) (by decide) rfl dX5_waysOf_61 ?_
  refine g_aload_n rfl dX5_waysOf_63 ?_
  refine gf_X5_48 (by decide) rfl dX5_waysOf_64 ?_
  rw [e8]
  refine g_iconst dX5_waysOf_67 ?_
  refine g_icmp_ne (tgt := 79) dX5_waysOf_68 (by decide) (fun c68 => ?_) (fun c68 => ?_)
  · rw [zI_eqz (by omega) (by omega) (by decide) (by decide)] at c68
    have hT : mi M 22 5 = 1 := by omega
    have hb := md_bd ((ptX M o k - bit) * (ivS o : Nat))
    have hx := exv1 hw hT (k := k) hn hn2 he hb1 hb2
    rw [hO] at hx
    rw [← hx] at hQ
    refine g_aload_n rfl dX5_waysOf_79 ?_
    refine gf_X5_48 (by decide) rfl dX5_waysOf_80 ?_
    rw [e8]
    refine g_iconst dX5_waysOf_83 ?_
    refine g_icmp_ne (tgt := 145) dX5_waysOf_84 (by decide) (fun c84 => ?_) (fun c84 => ?_)
    · exact ev_waysL hw hI ha hn hk hb1 hb2 hb.1 hb.2 (by decide) (by decide) hQ
    · rw [zI_eqz (by omega) (by omega) (by decide) (by decide)] at c84
      omega
  · refine g_iload rfl dX5_waysOf_71 ?_
    refine g_if_ne (tgt := 79) dX5_waysOf_73 (by decide) (fun c73 => ?_) (fun c73 => ?_)
    · rw [zI_eqz (by omega) (by omega) (by decide) (by decide)] at c68
      rw [zI_zero] at c73
      have htz : ¬ tw = 0 := by
        intro q
        rw [q] at c73
        exact c73 rfl
      obtain ⟨t1, t2, t3⟩ := s3 htz
      have hp2 := hpb tw
      have hiv2 := iv_all tw (by omega) (by omega)
      have hm2 : -20000 < (ptX M tw k - bit) * (ivS tw : Nat) ∧ (ptX M tw k - bit) * (ivS tw : Nat) < 20000 := by
        have h1 := Int.mul_le_mul_of_nonneg_right (show ptX M tw k - bit ≤ 97 by omega) (show (0 : Int) ≤ (ivS tw : Nat) by omega)
        have h2 := Int.mul_le_mul_of_nonneg_right (show -1 ≤ ptX M tw k - bit by omega) (show (0 : Int) ≤ (ivS tw : Nat) by omega)
        omega
      have b1 := md_bd ((ptX M o k - bit) * (ivS o : Nat))
      have b2 := md_bd ((ptX M tw k - bit) * (ivS tw : Nat))
      have hx := exv2 hw c68 (n := n) (k := k) hn hn2 he (by rw [hTw]; exact htz) hb1 hb2 rfl rfl rfl rfl
      rw [hO, hTw] at hx
      generalize hA : (ptX M o k - bit) * (ivS o : Nat) % 97 = a' at b1 hx
      generalize hOt : (ptX M tw k - bit) * (ivS tw : Nat) % 97 = ot at b2 hx
      have hu : (((o : Int) - tw) % 97).toNat < 97 ∧ 1 ≤ (((o : Int) - tw) % 97).toNat := by omega
      have hue : ((o : Int) - tw) % 97 = (((o : Int) - tw) % 97).toNat := by omega
      have hiv3 := iv_all _ hu.1 hu.2
      have b3 := md_bd (a' - ot)
      have hm3 := mul_bd b3.1 b3.2 (show (0 : Int) ≤ (ivS (((o : Int) - tw) % 97).toNat : Nat) by omega) (by omega)
      have b4 := md_bd ((a' - ot) % 97 * (ivS (((o : Int) - tw) % 97).toNat : Nat))
      have hm4 := sml b4.1 b4.2 (show (0 : Int) ≤ (o : Nat) by omega) (by omega)
      rw [← hx] at hQ
      refine g_aload_n rfl dX5_waysOf_79 ?_
      refine gf_X5_48 (by decide) rfl dX5_waysOf_80 ?_
      rw [e8]
      refine g_iconst dX5_waysOf_83 ?_
      refine g_icmp_ne (tgt := 145) dX5_waysOf_84 (by decide) (fun c84 => ?_) (fun c84 => ?_)
      · rw [zI_eqz (by omega) (by omega) (by decide) (by decide)] at c84
        omega
      · refine g_aload_n rfl dX5_waysOf_87 ?_
        refine g_iload rfl dX5_waysOf_88 ?_
        refine g_iload_n rfl dX5_waysOf_90 ?_
        refine gi_X5_74 (by decide) rfl (ev_pt hw hI ha (j := tw) (k := k) (by omega) hk) rfl rfl ⟨Nat.le_of_ble_eq_true rfl, Nat.le_of_ble_eq_true rfl, Nat.le_of_ble_eq_true rfl, Nat.le_of_ble_eq_true rfl⟩ (Nat.le_of_ble_eq_true rfl) dX5_waysOf_91 (fun r91 M91 hq91 => ?_)
        obtain ⟨rfl, rfl⟩ := hq91
        refine g_iload_n rfl dX5_waysOf_94 ?_
        refine g_isub dX5_waysOf_95 ?_
        rw [zI_sub]
        refine g_iload rfl dX5_waysOf_96 ?_
        refine gi_X5_134 (ev_X5_inverse (v := tw) (by omega) (by omega) M) rfl rfl ⟨Nat.le_of_ble_eq_true rfl, Nat.le_of_ble_eq_true rfl, Nat.le_of_ble_eq_true rfl, Nat.le_of_ble_eq_true rfl⟩ (Nat.le_of_ble_eq_true rfl) dX5_waysOf_98 (fun r98 M98 hq98 => ?_)
        obtain ⟨rfl, rfl⟩ := hq98
        refine g_imul dX5_waysOf_101 ?_
        rw [zI_mul]
        refine gi_X5_67 (ev_X5_mod (z := (ptX M tw k - bit) * (ivS tw : Nat)) (by omega) (by omega) M) rfl rfl ⟨Nat.le_of_ble_eq_true rfl, Nat.le_of_ble_eq_true rfl, Nat.le_of_ble_eq_true rfl, Nat.le_of_ble_eq_true rfl⟩ (Nat.le_of_ble_eq_true rfl) dX5_waysOf_102 (fun r102 M102 hq102 => ?_)
        obtain ⟨rfl, rfl⟩ := hq102
        rw [hOt]
        refine g_istore (L2 := [(0, _), (1, _), (2, _), (3, _), (4, _), (5, _), (6, _), (7, _), (8, _)]) (by decide) rfl dX5_waysOf_105 ?_
        refine g_iload rfl dX5_waysOf_107 ?_
        refine g_iload rfl dX5_waysOf_109 ?_
        refine g_isub dX5_waysOf_111 ?_
        rw [zI_sub]
        refine gi_X5_67 (ev_X5_mod (z := a' - ot) (by omega) (by omega) M) rfl rfl ⟨Nat.le_of_ble_eq_true rfl, Nat.le_of_ble_eq_true rfl, Nat.le_of_ble_eq_true rfl, Nat.le_of_ble_eq_true rfl⟩ (Nat.le_of_ble_eq_true rfl) dX5_waysOf_112 (fun r112 M112 hq112 => ?_)
        obtain ⟨rfl, rfl⟩ := hq112
        refine g_iload rfl dX5_waysOf_115 ?_
        refine g_iload rfl dX5_waysOf_117 ?_
        refine g_isub dX5_waysOf_119 ?_
        rw [zI_sub]
        refine gi_X5_67 (ev_X5_mod (z := (o : Int) - tw) (by omega) (by omega) M) rfl rfl ⟨Nat.le_of_ble_eq_true rfl, Nat.le_of_ble_eq_true rfl, Nat.le_of_ble_eq_true rfl, Nat.le_of_ble_eq_true rfl⟩ (Nat.le_of_ble_eq_true rfl) dX5_waysOf_120 (fun r120 M120 hq120 => ?_)
        obtain ⟨rfl, rfl⟩ := hq120
        rw [hue]
        refine gi_X5_134 (ev_X5_inverse (v := (((o : Int) - tw) % 97).toNat) hu.2 hu.1 M) rfl rfl ⟨Nat.le_of_ble_eq_true rfl, Nat.le_of_ble_eq_true rfl, Nat.le_of_ble_eq_true rfl, Nat.le_of_ble_eq_true rfl⟩ (Nat.le_of_ble_eq_true rfl) dX5_waysOf_123 (fun r123 M123 hq123 => ?_)
        obtain ⟨rfl, rfl⟩ := hq123
        refine g_imul dX5_waysOf_126 ?_
        rw [zI_mul]
        refine gi_X5_67 (ev_X5_mod (z := (a' - ot) % 97 * (ivS (((o : Int) - tw) % 97).toNat : Nat)) (by omega) (by omega) M) rfl rfl ⟨Nat.le_of_ble_eq_true rfl, Nat.le_of_ble_eq_true rfl, Nat.le_of_ble_eq_true rfl, Nat.le_of_ble_eq_true rfl⟩ (Nat.le_of_ble_eq_true rfl) dX5_waysOf_127 (fun r127 M127 hq127 => ?_)
        obtain ⟨rfl, rfl⟩ := hq127
        refine g_istore (L2 := [(0, _), (1, _), (2, _), (3, _), (4, _), (5, _), (6, _), (7, _), (8, _)]) (by decide) rfl dX5_waysOf_130 ?_
        refine g_iload rfl dX5_waysOf_132 ?_
        refine g_iload rfl dX5_waysOf_134 ?_
        refine g_iload rfl dX5_waysOf_136 ?_
        refine g_imul dX5_waysOf_138 ?_
        refine g_isub dX5_waysOf_139 ?_
        rw [zI_mul, zI_sub]
        refine gi_X5_67 (ev_X5_mod (z := a' - (a' - ot) % 97 * (ivS (((o : Int) - tw) % 97).toNat : Nat) % 97 * o) (by omega) (by omega) M) rfl rfl ⟨Nat.le_of_ble_eq_true rfl, Nat.le_of_ble_eq_true rfl, Nat.le_of_ble_eq_true rfl, Nat.le_of_ble_eq_true rfl⟩ (Nat.le_of_ble_eq_true rfl) dX5_waysOf_140 (fun r140 M140 hq140 => ?_)
        obtain ⟨rfl, rfl⟩ := hq140
        refine g_istore (L2 := [(0, _), (1, _), (2, _), (3, _), (4, _), (5, _), (6, _), (7, _), (8, _)]) (by decide) rfl dX5_waysOf_143 ?_
        refine g_locp [0, 1, 2, 3, 4, 5, 6, 7] rfl ?_
        have b5 := md_bd (a' - (a' - ot) % 97 * (ivS (((o : Int) - tw) % 97).toNat : Nat) % 97 * o)
        exact ev_waysL hw hI ha hn hk hb1 hb2 b5.1 b5.2 b4.1 b4.2 hQ
    · refine g_bipush (by decide) dX5_waysOf_76 ?_
      refine g_ireturn rfl dX5_waysOf_78 ?_
      rw [zI_eqz (by omega) (by omega) (by decide) (by decide)] at c68
      rw [zI_zero, zI_eqz (by omega) (by omega) (by decide) (by decide)] at c73
      rw [wvX, if_pos ⟨c68, s2.mp (by omega)⟩] at hQ
      exact hQ
def prS (f : Nat → Int) : Nat → Int
  | 0 => 1
  | k + 1 => prS f k * f k
theorem prS_ext {f g : Nat → Int} : ∀ n, (∀ k, k < n → f k = g k) → prS f n = prS g n
  | 0, _ => rfl
  | n + 1, h => by rw [prS, prS, prS_ext n (fun k hk => h k (by omega)), h n (by omega)]
theorem pr_bits : ∀ m, m < 4 → ∀ i, i < 8 → ∀ w, w < 8 → i < 2 ^ m → w < 2 ^ m → prS (fun k => if (i : Nat) / 2 ^ k % 2 = w / 2 ^ k % 2 then 1 else 0) m = if i = w then 1 else 0 := by decide +kernel
theorem pr_const (x : Int) : ∀ n, prS (fun _ => x) n = x ^ n
  | 0 => by rw [Int.pow_zero]; rfl
  | n + 1 => by rw [prS, pr_const x n, Int.pow_succ]
theorem wvX_bd (M : Mem) (n k : Nat) (bit : Int) : 0 ≤ wvX M n k bit ∧ wvX M n k bit ≤ 97 := by
  unfold wvX
  split
  · decide
  · split
    · decide
    · split <;> decide
theorem way_all {M : Mem} (hw : WX M) (ha : mi M 22 2 = 1) {n : Nat} (hn : n < 1024) (hn2 : 2 ≤ n) {i : Nat} (hi : i < 2 ^ xm M) : prS (fun k => wvX M n k ((i : Int) / 2 ^ k % 2)) (xm M) = cwX M n i := by
  have hkf := hw.kf
  have hpp := pop_pos n hn hn2
  obtain ⟨hm1, hm2, hm3, hm⟩ := hw.m
  have h8 := p2_8 hm1 hm2
  obtain ⟨hq6, hq4⟩ := hw.aq ha
  have hwa := hw.wa
  have hxm : (mi M 0 6).toNat = xm M := rfl
  rw [hxm, p2_z] at hq4
  unfold cwX
  by_cases hlt : mi M 22 5 < (popN n : Int)
  · rw [if_pos hlt]
    have e : prS (fun k => wvX M n k ((i : Int) / 2 ^ k % 2)) (xm M) = prS (fun k => if (i : Nat) / 2 ^ k % 2 = (mi M 22 4).toNat / 2 ^ k % 2 then 1 else 0) (xm M) := by
      refine prS_ext _ (fun k hk => ?_)
      have e1 : (i : Int) / 2 ^ k % 2 = ((i / 2 ^ k % 2 : Nat) : Int) := by
        rw [Int.natCast_emod, Int.natCast_ediv]
        simp
      have e2 : wbX M k = (((mi M 22 4).toNat / 2 ^ k % 2 : Nat) : Int) := by
        rw [Int.natCast_emod, Int.natCast_ediv, Int.toNat_of_nonneg hwa.1]
        unfold wbX
        simp
      unfold wvX
      rw [if_neg (by omega), if_neg (by omega), e1, e2]
      by_cases h : i / 2 ^ k % 2 = (mi M 22 4).toNat / 2 ^ k % 2
      · rw [if_pos h, if_pos (by rw [h])]
      · rw [if_neg h, if_neg (fun q => h (by omega))]
    rw [e, pr_bits (xm M) (by omega) i (by omega) (mi M 22 4).toNat (by omega) hi (by omega)]
    by_cases h : (i : Int) = mi M 22 4
    · rw [if_pos h, if_pos (by omega)]
    · rw [if_neg h, if_neg (by omega)]
  · rw [if_neg hlt]
    by_cases hp : mi M 22 5 = 2 ∧ popN n = 1
    · have e : prS (fun k => wvX M n k ((i : Int) / 2 ^ k % 2)) (xm M) = prS (fun _ => 97) (xm M) := prS_ext _ (fun k _ => by unfold wvX; rw [if_pos hp])
      rw [e, pr_const, hq6, hp.1, hp.2]
      congr 1
      unfold xm
      omega
    · have e : prS (fun k => wvX M n k ((i : Int) / 2 ^ k % 2)) (xm M) = prS (fun _ => 1) (xm M) := prS_ext _ (fun k _ => by unfold wvX; rw [if_neg hp, if_pos (by omega)])
      rw [e, pr_const, Int.one_pow, show mi M 22 5 - (popN n : Int) = 0 by omega, Int.zero_mul]
      rfl
theorem ev_X5_waysFor {M : Mem} (hw : WX M) (hI : InvQ M) (ha : mi M 22 2 = 1) {n : Nat} (hn : n < 1024) (hn2 : 2 ≤ n) (he : n % 2 = 0) {i : Nat} (hi : i < 2 ^ xm M) : EvF yX5_waysFor cX5_waysFor 6 (some .long) 3 [.ref 31, .int (zI n), .int (zI i)] M (some (.long (zL (cwX M n i)))) M := by
  refine EvF.of (by decide +kernel) (Nat.le_of_ble_eq_true rfl) (fun Q hQ => ?_)
  obtain ⟨hm1, hm2, hm3, hm⟩ := hw.m
  have hdg : M 31 1 = zI (xm M) := hI.dg.trans hm
  have h8 := p2_8 hm1 hm2
  rw [← way_all hw ha hn hn2 hi] at hQ
  have loop : ∀ (d q : Nat), d + q = xm M → G yX5_waysFor.cls cX5_waysFor 6 (some .long) (gE 3 Q) 5 [(0, .ref 31), (1, .int (zI n)), (2, .int (zI i)), (3, .long (zL (prS (fun k => wvX M n k ((i : Int) / 2 ^ k % 2)) q))), (5, .int (zI q))] [] M := by
    intro d
    induction d with
    | zero =>
      intro q hq
      refine g_iload rfl dX5_waysFor_5 ?_
      refine g_aload_n rfl dX5_waysFor_7 ?_
      refine gf_X5_7 (by decide) rfl dX5_waysFor_8 ?_
      rw [hdg]
      refine g_icmp_ge (tgt := 37) dX5_waysFor_11 (by decide) (fun c11 => ?_) (fun c11 => ?_)
      · refine g_lload_n rfl dX5_waysFor_37 ?_
        refine g_lreturn rfl dX5_waysFor_38 ?_
        obtain rfl : q = xm M := by omega
        exact hQ
      · exact n_lt_of c11 (by omega) (by omega) (by omega) (by omega) (by omega)
    | succ d ih =>
      intro q hq
      have ih := ih (q + 1) (by omega)
      have h4 : 0 ≤ (i : Int) / 2 ^ q := Int.ediv_nonneg (by omega) (by exact Int.le_of_lt (Int.pow_pos (by decide)))
      have h5 : (i : Int) / 2 ^ q ≤ i := Int.ediv_le_self _ (by omega)
      have hbb := wvX_bd M n q ((i : Int) / 2 ^ q % 2)
      refine g_iload rfl dX5_waysFor_5 ?_
      refine g_aload_n rfl dX5_waysFor_7 ?_
      refine gf_X5_7 (by decide) rfl dX5_waysFor_8 ?_
      rw [hdg]
      refine g_icmp_ge (tgt := 37) dX5_waysFor_11 (by decide) (fun c11 => ?_) (fun c11 => ?_)
      · exact n_le_of c11 (by omega) (by omega) (by omega) (by omega) (by omega)
      · refine g_lload_n rfl dX5_waysFor_14 ?_
        refine g_aload_n rfl dX5_waysFor_15 ?_
        refine g_iload_n rfl dX5_waysFor_16 ?_
        refine g_iload rfl dX5_waysFor_17 ?_
        refine g_iload_n rfl dX5_waysFor_19 ?_
        refine g_iload rfl dX5_waysFor_20 ?_
        refine g_ishr dX5_waysFor_22 ?_
        refine g_iconst dX5_waysFor_23 ?_
        refine g_iand dX5_waysFor_24 ?_
        rw [zI_shr (by omega) (by omega) (by omega), zI_and1 h4 (by omega)]
        refine gi_X5_162 (by decide) rfl (ev_X5_waysOf hw hI ha (n := n) (k := q) (bit := (i : Int) / 2 ^ q % 2) hn hn2 he (by omega) (Int.emod_nonneg _ (by decide)) (by have := Int.emod_lt_of_pos ((i : Int) / 2 ^ q) (show (0 : Int) < 2 by decide); omega)) rfl rfl ⟨Nat.le_of_ble_eq_true rfl, Nat.le_of_ble_eq_true rfl, Nat.le_of_ble_eq_true rfl, Nat.le_of_ble_eq_true rfl⟩ (Nat.le_of_ble_eq_true rfl) dX5_waysFor_25 (fun r25 M25 hq25 => ?_)
        obtain ⟨rfl, rfl⟩ := hq25
        refine g_i2l dX5_waysFor_28 ?_
        rw [zI_l (by omega) (by omega)]
        refine g_lmul dX5_waysFor_29 ?_
        refine g_lstore_n (L2 := [(0, _), (1, _), (2, _), (3, _), (5, _)]) (by decide) rfl dX5_waysFor_30 ?_
        refine g_iinc (L2 := [(0, _), (1, _), (2, _), (3, _), (5, _)]) rfl (by decide) rfl dX5_waysFor_31 ?_
        refine g_goto (tgt := 5) dX5_waysFor_34 (by decide) ?_
        rw [zI_add, zL_mul]
        exact ih
  refine g_lconst (v := zL 1) (by decide) dX5_waysFor_0 ?_
  refine g_lstore_n (L2 := [(0, _), (1, _), (2, _), (3, _)]) (by decide) rfl dX5_waysFor_1 ?_
  refine g_iconst dX5_waysFor_2 ?_
  refine g_istore (L2 := [(0, _), (1, _), (2, _), (3, _), (5, _)]) (by decide) rfl dX5_waysFor_3 ?_
  exact loop (xm M) 0 (by omega)
