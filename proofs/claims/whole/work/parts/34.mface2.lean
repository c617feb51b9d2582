/-! the reference: its calls on what is known, counts, fits -/
theorem cntz_bd (p : Nat → Bool) : ∀ n, cnz p n ≤ n
  | 0 => Nat.le_refl _
  | n + 1 => by
    have := cntz_bd p n
    unfold cnz
    split <;> omega
/-- heard: the reference's row, and whether there are enough -/
theorem ev_X5_mends {M : Mem} (hw : WX (thM M)) (hI : InvQ (thM M)) (s : Int32) : Ev yX5_mends cX5_mends 2 (some .int) 4 [.ref 31, .int s] M (fun r M1 => some (.int (if rofX (thM M) s = 0 then zI (((cnt (tells (thM M)) s.toInt.toNat : Nat) - mi (thM M) 22 7 - 1) / 2) else rofX (thM M) s)) = r ∧ SamM (thM M) M1) := by
  refine Ev.of (by decide +kernel) (Nat.le_of_ble_eq_true rfl) (fun Q hQ => ?_)
  generalize hM0 : thM M = M0 at hw hI hQ
  have hg := hw.dgb
  refine g_aload_n rfl dX5_mends_0 ?_
  refine g_iconst dX5_mends_1 ?_
  refine gp_X5_45 (by decide) rfl dX5_mends_2 ?_
  refine g_mem hM0 ?_
  refine g_iload_n rfl dX5_mends_5 ?_
  refine gi_X5_100 (ev_X5_isStore s M0) rfl rfl ⟨Nat.le_of_ble_eq_true rfl, Nat.le_of_ble_eq_true rfl, Nat.le_of_ble_eq_true rfl, Nat.le_of_ble_eq_true rfl⟩ (Nat.le_of_ble_eq_true rfl) dX5_mends_6 (fun r6 M6 hq6 => ?_)
  obtain ⟨rfl, rfl⟩ := hq6
  refine g_if_ne (tgt := 15) dX5_mends_9 (by decide) (fun c9 => ?_) (fun c9 => ?_)
  · rw [bI_dn] at c9
    obtain ⟨n, hn1, hn2, rfl⟩ := okS_n c9
    rw [tnN (by omega)] at hQ
    refine g_aload_n rfl dX5_mends_15 ?_
    refine gf_X5_90 (by decide) rfl dX5_mends_16 ?_
    rw [hI.as]
    refine g_if_ne (tgt := 25) dX5_mends_19 (by decide) (fun c19 => ?_) (fun c19 => ?_)
    · have ha : mi M0 22 2 = 1 := Classical.byContradiction fun q => c19 ((asked_iff hw).mpr q)
      have hlen := rowX_len M0 n
      have hcl := cnt_le (tells M0) n
      have hdg : mi M0 0 6 * mi M0 22 5 = mi M0 22 7 := by rw [hw.dg, (hw.aq ha).1]
      refine g_aload_n rfl dX5_mends_25 ?_
      refine g_iload_n rfl dX5_mends_26 ?_
      refine gi_X5_140 (by decide) rfl (ev_X5_hear hw hI ha hn2) rfl rfl ⟨Nat.le_of_ble_eq_true rfl, Nat.le_of_ble_eq_true rfl, Nat.le_of_ble_eq_true rfl, Nat.le_of_ble_eq_true rfl⟩ (Nat.le_of_ble_eq_true rfl) dX5_mends_27 (fun r27 M27 hq27 => ?_)
      obtain ⟨rfl, hs, hr⟩ := hq27
      have e1 : M27 31 1 = zI (mi M0 0 6) := by rw [hs 31 1 (by omega), hI.dg, mi_z]
      have e8 : M27 31 8 = zI (mi M0 22 5) := by rw [hs 31 8 (by omega), (hI.qs ha).2.1, mi_z]
      refine g_aload_n rfl dX5_mends_30 ?_
      refine gf_X5_131 (by decide) rfl dX5_mends_31 ?_
      rw [hr.1, hlen]
      refine g_aload_n rfl dX5_mends_34 ?_
      refine gi_X5_81 (by decide) rfl (ev_X5_degree e1 e8) rfl rfl ⟨Nat.le_of_ble_eq_true rfl, Nat.le_of_ble_eq_true rfl, Nat.le_of_ble_eq_true rfl, Nat.le_of_ble_eq_true rfl⟩ (Nat.le_of_ble_eq_true rfl) dX5_mends_35 (fun r35 M35 hq35 => ?_)
      obtain ⟨rfl, rfl⟩ := hq35
      rw [hdg]
      refine g_icmp_gt (tgt := 46) dX5_mends_38 (by decide) (fun c38 => ?_) (fun c38 => ?_)
      · refine g_aload_n rfl dX5_mends_46 ?_
        refine gf_X5_131 (by decide) rfl dX5_mends_47 ?_
        rw [hr.1, hlen]
        refine g_aload_n rfl dX5_mends_50 ?_
        refine gi_X5_81 (by decide) rfl (ev_X5_degree e1 e8) rfl rfl ⟨Nat.le_of_ble_eq_true rfl, Nat.le_of_ble_eq_true rfl, Nat.le_of_ble_eq_true rfl, Nat.le_of_ble_eq_true rfl⟩ (Nat.le_of_ble_eq_true rfl) dX5_mends_51 (fun r51 M51 hq51 => ?_)
        obtain ⟨rfl, rfl⟩ := hq51
        rw [hdg]
        refine g_isub dX5_mends_54 ?_
        refine g_iconst dX5_mends_55 ?_
        refine g_isub dX5_mends_56 ?_
        refine g_iconst dX5_mends_57 ?_
        refine g_idiv (by decide) dX5_mends_58 ?_
        refine g_ireturn rfl dX5_mends_59 ?_
        simp (disch := omega) only [i_lt, zI_toInt] at c38
        have e : rofX M0 (zI n) = zI 0 := by
          rw [rofX, if_pos c9, tnN (by omega), if_pos ⟨c19, by omega⟩]
        rw [e] at hQ
        rw [zI_sub, zI_sub, zI_div (by omega) (by omega) (by decide) (by decide)]
        exact hQ _ _ ⟨by rw [if_pos (by decide)], hs⟩
      · refine g_bipush (by decide) dX5_mends_41 ?_
        refine g_goto (tgt := 59) dX5_mends_43 (by decide) ?_
        refine g_ireturn rfl dX5_mends_59 ?_
        simp (disch := omega) only [i_lt, zI_toInt] at c38
        have e : rofX M0 (zI n) = zI (-3) := by
          rw [rofX, if_pos c9, tnN (by omega), if_neg (fun q => by have := q.2; omega)]
        rw [e] at hQ
        exact hQ _ _ ⟨by rw [if_neg (by decide)], hs⟩
    · refine g_bipush (by decide) dX5_mends_22 ?_
      refine g_ireturn rfl dX5_mends_24 ?_
      have e : rofX M0 (zI n) = zI (-3) := by rw [rofX, if_pos c9, if_neg (fun q => q.1 c19)]
      rw [e] at hQ
      exact hQ _ _ ⟨by rw [if_neg (by decide)], SamM.r M0⟩
  · refine g_bipush (by decide) dX5_mends_12 ?_
    refine g_ireturn rfl dX5_mends_14 ?_
    rw [bI_d0] at c9
    have e : rofX M0 s = zI (-2) := by rw [rofX, if_neg c9]
    rw [e] at hQ
    exact hQ _ _ ⟨by rw [if_neg (by decide)], SamM.r M0⟩
theorem ros_ok {M : Mem} (s : Int32) (ha : ¬ M 22 2 = 0) : rosX M s = if 2 ≤ s.toInt ∧ s.toInt ≤ 1022 ∧ s.toInt % 2 = 0 then zI 0 else zI (-2) := by
  rw [rosX, if_neg ha]
  have h := set_ok s
  by_cases hs : 2 ≤ s.toInt ∧ s.toInt ≤ 1022 ∧ s.toInt % 2 = 0
  · rw [if_pos hs, if_neg (fun q => (h.mp q) hs)]
  · rw [if_neg hs, if_pos (h.mpr hs)]
theorem ev_X5_ways {M : Mem} (hw : WX (thM M)) (hI : InvQ (thM M)) (s i : Int32) : EvF yX5_ways cX5_ways 3 (some .long) 4 [.ref 31, .int s, .int i] M (some (.long (if rosX (thM M) s = 0 then (if okR (thM M) i then zL (cwX (thM M) s.toInt.toNat i.toInt) else zL (-1)) else (rosX (thM M) s).toInt64))) (thM M) := by
  refine EvF.of (by decide +kernel) (Nat.le_of_ble_eq_true rfl) (fun Q hQ => ?_)
  generalize hM0 : thM M = M0 at hw hI hQ
  have hm := mx_m hw hI
  refine g_aload_n rfl dX5_ways_0 ?_
  refine g_iconst dX5_ways_1 ?_
  refine gp_X5_45 (by decide) rfl dX5_ways_2 ?_
  refine g_mem hM0 ?_
  refine g_aload_n rfl dX5_ways_5 ?_
  refine gf_X5_90 (by decide) rfl dX5_ways_6 ?_
  rw [hI.as]
  refine g_if_ne (tgt := 18) dX5_ways_9 (by decide) (fun c9 => ?_) (fun c9 => ?_)
  · have ha : mi M0 22 2 = 1 := Classical.byContradiction fun q => c9 ((asked_iff hw).mpr q)
    have hro := ros_ok s c9
    refine g_iload_n rfl dX5_ways_18 ?_
    refine gi_X5_168 (ev_X5_isSet s M0) rfl rfl ⟨Nat.le_of_ble_eq_true rfl, Nat.le_of_ble_eq_true rfl, Nat.le_of_ble_eq_true rfl, Nat.le_of_ble_eq_true rfl⟩ (Nat.le_of_ble_eq_true rfl) dX5_ways_19 (fun r19 M19 hq19 => ?_)
    obtain ⟨rfl, rfl⟩ := hq19
    refine g_if_ne (tgt := 31) dX5_ways_22 (by decide) (fun c22 => ?_) (fun c22 => ?_)
    · rw [bI_dn] at c22
      rw [if_pos c22] at hro
      rw [hro, if_pos (by decide)] at hQ
      obtain ⟨n, hn, rfl⟩ : ∃ n : Nat, n < 1024 ∧ s = zI n := ⟨s.toInt.toNat, by omega, by rw [Int.toNat_of_nonneg (by omega), zI_of]⟩
      rw [tiN (by omega)] at c22
      rw [tnN (by omega)] at hQ
      refine g_aload_n rfl dX5_ways_31 ?_
      refine g_iload_n rfl dX5_ways_32 ?_
      refine gi_X5_93 (by decide) rfl (ev_X5_isRecord hw hm i) rfl rfl ⟨Nat.le_of_ble_eq_true rfl, Nat.le_of_ble_eq_true rfl, Nat.le_of_ble_eq_true rfl, Nat.le_of_ble_eq_true rfl⟩ (Nat.le_of_ble_eq_true rfl) dX5_ways_33 (fun r33 M33 hq33 => ?_)
      obtain ⟨rfl, rfl⟩ := hq33
      refine g_if_ne (tgt := 45) dX5_ways_36 (by decide) (fun c36 => ?_) (fun c36 => ?_)
      · rw [bI_dn] at c36
        rw [if_pos c36] at hQ
        obtain ⟨r, hr1, hr2, rfl⟩ := okR_n hw c36
        rw [tiN (by omega)] at hQ
        refine g_aload_n rfl dX5_ways_45 ?_
        refine g_iload_n rfl dX5_ways_46 ?_
        refine g_iload_n rfl dX5_ways_47 ?_
        refine gi_X5_175 (by decide) rfl (ev_X5_waysFor hw hI ha (n := n) (i := r) hn (by omega) (by omega) hr1) rfl rfl ⟨Nat.le_of_ble_eq_true rfl, Nat.le_of_ble_eq_true rfl, Nat.le_of_ble_eq_true rfl, Nat.le_of_ble_eq_true rfl⟩ (Nat.le_of_ble_eq_true rfl) dX5_ways_48 (fun r48 M48 hq48 => ?_)
        obtain ⟨rfl, rfl⟩ := hq48
        refine g_lreturn rfl dX5_ways_51 ?_
        exact hQ
      · refine g_ldc2 gz_X5_173 dX5_ways_39 ?_
        refine g_goto (tgt := 51) dX5_ways_42 (by decide) ?_
        refine g_lreturn rfl dX5_ways_51 ?_
        rw [bI_d0] at c36
        rw [if_neg c36] at hQ
        exact hQ
    · refine g_ldc2 gz_X5_171 dX5_ways_25 ?_
      refine g_goto (tgt := 51) dX5_ways_28 (by decide) ?_
      refine g_lreturn rfl dX5_ways_51 ?_
      rw [bI_d0] at c22
      rw [if_neg c22] at hro
      rw [hro, if_neg (by decide)] at hQ
      exact hQ
  · refine g_ldc2 gz_X5_166 dX5_ways_12 ?_
    refine g_goto (tgt := 51) dX5_ways_15 (by decide) ?_
    refine g_lreturn rfl dX5_ways_51 ?_
    have hro : rosX M0 s = zI (-3) := by rw [rosX, if_pos c9]
    rw [hro, if_neg (by decide)] at hQ
    exact hQ
theorem ev_X5_might {M : Mem} (hw : WX (thM M)) (hI : InvQ (thM M)) (s : Int32) : EvF yX5_might cX5_might 4 (some .int) 4 [.ref 31, .int s] M (some (.int (if rosX (thM M) s = 0 then zI (cnz (fun i => decide (0 < cwX (thM M) s.toInt.toNat i)) (2 ^ xm (thM M)) : Nat) else rosX (thM M) s))) (thM M) := by
  refine EvF.of (by decide +kernel) (Nat.le_of_ble_eq_true rfl) (fun Q hQ => ?_)
  generalize hM0 : thM M = M0 at hw hI hQ
  have hm := mx_m hw hI
  obtain ⟨hm1, hm2, hm3, -⟩ := hw.m
  have h8 := p2_8 hm1 hm2
  have hz := p2_z (xm M0)
  refine g_aload_n rfl dX5_might_0 ?_
  refine g_iconst dX5_might_1 ?_
  refine gp_X5_45 (by decide) rfl dX5_might_2 ?_
  refine g_mem hM0 ?_
  refine g_aload_n rfl dX5_might_5 ?_
  refine gf_X5_90 (by decide) rfl dX5_might_6 ?_
  rw [hI.as]
  refine g_if_eq (tgt := 19) dX5_might_9 (by decide) (fun c9 => ?_) (fun c9 => ?_)
  · have hro : rosX M0 s = zI (-3) := by rw [rosX, if_pos c9]
    rw [hro, if_neg (by decide)] at hQ
    refine g_aload_n rfl dX5_might_19 ?_
    refine gf_X5_90 (by decide) rfl dX5_might_20 ?_
    rw [hI.as]
    refine g_if_eq (tgt := 31) dX5_might_23 (by decide) (fun c23 => ?_) (fun c23 => ?_)
    · refine g_bipush (by decide) dX5_might_31 ?_
      refine g_ireturn rfl dX5_might_33 ?_
      exact hQ
    · refine g_bipush (by decide) dX5_might_26 ?_
      refine g_goto (tgt := 33) dX5_might_28 (by decide) ?_
      refine g_ireturn rfl dX5_might_33 ?_
      exact absurd c9 c23
  · refine g_iload_n rfl dX5_might_12 ?_
    refine gi_X5_168 (ev_X5_isSet s M0) rfl rfl ⟨Nat.le_of_ble_eq_true rfl, Nat.le_of_ble_eq_true rfl, Nat.le_of_ble_eq_true rfl, Nat.le_of_ble_eq_true rfl⟩ (Nat.le_of_ble_eq_true rfl) dX5_might_13 (fun r13 M13 hq13 => ?_)
    obtain ⟨rfl, rfl⟩ := hq13
    refine g_if_ne (tgt := 34) dX5_might_16 (by decide) (fun c16 => ?_) (fun c16 => ?_)
    · rw [bI_dn] at c16
      have ha : mi M0 22 2 = 1 := Classical.byContradiction fun q => c9 ((asked_iff hw).mpr q)
      have hro := ros_ok s c9
      rw [if_pos c16] at hro
      rw [hro, if_pos (by decide)] at hQ
      obtain ⟨n, hn, rfl⟩ : ∃ n : Nat, n < 1024 ∧ s = zI n := ⟨s.toInt.toNat, by omega, by rw [Int.toNat_of_nonneg (by omega), zI_of]⟩
      rw [tiN (by omega)] at c16
      rw [tnN (by omega)] at hQ
      have hpp := pop_pos n hn (by omega)
      have loop : ∀ (d q : Nat), d + q = 2 ^ xm M0 → G yX5_might.cls cX5_might 4 (some .int) (gE 4 Q) 38 [(0, .ref 31), (1, .int (zI n)), (2, .int (zI (cnz (fun i => decide (0 < cwX M0 n i)) q : Nat))), (3, .int (zI q))] [] M0 := by
        intro d
        induction d with
        | zero =>
          intro q hq
          obtain rfl : q = 2 ^ xm M0 := by omega
          refine g_iload_n rfl dX5_might_38 ?_
          refine g_aload_n rfl dX5_might_39 ?_
          refine gi_X5_57 (by decide) rfl (ev_X5_size hm1 hm2 hm) rfl rfl ⟨Nat.le_of_ble_eq_true rfl, Nat.le_of_ble_eq_true rfl, Nat.le_of_ble_eq_true rfl, Nat.le_of_ble_eq_true rfl⟩ (Nat.le_of_ble_eq_true rfl) dX5_might_40 (fun r40 M40 hq40 => ?_)
          obtain ⟨rfl, rfl⟩ := hq40
          refine g_icmp_ge (tgt := 71) dX5_might_43 (by decide) (fun c43 => ?_) (fun c43 => ?_)
          · refine g_iload_n rfl dX5_might_71 ?_
            refine g_ireturn rfl dX5_might_72 ?_
            exact hQ
          · exact n_lt_of c43 (by omega) (by omega) (by omega) (by omega) (by omega)
        | succ d ih =>
          intro q hq
          have ih := ih (q + 1) (by omega)
          have hcb := cwX_bd hw hpp q
          refine g_iload_n rfl dX5_might_38 ?_
          refine g_aload_n rfl dX5_might_39 ?_
          refine gi_X5_57 (by decide) rfl (ev_X5_size hm1 hm2 hm) rfl rfl ⟨Nat.le_of_ble_eq_true rfl, Nat.le_of_ble_eq_true rfl, Nat.le_of_ble_eq_true rfl, Nat.le_of_ble_eq_true rfl⟩ (Nat.le_of_ble_eq_true rfl) dX5_might_40 (fun r40 M40 hq40 => ?_)
          obtain ⟨rfl, rfl⟩ := hq40
          refine g_icmp_ge (tgt := 71) dX5_might_43 (by decide) (fun c43 => ?_) (fun c43 => ?_)
          · exact n_le_of c43 (by omega) (by omega) (by omega) (by omega) (by omega)
          · refine g_iload_n rfl dX5_might_46 ?_
            refine g_aload_n rfl dX5_might_47 ?_
            refine g_iload_n rfl dX5_might_48 ?_
            refine g_iload_n rfl dX5_might_49 ?_
            refine gi_X5_175 (by decide) rfl (ev_X5_waysFor hw hI ha (n := n) (i := q) hn (by omega) (by omega) (by omega)) rfl rfl ⟨Nat.le_of_ble_eq_true rfl, Nat.le_of_ble_eq_true rfl, Nat.le_of_ble_eq_true rfl, Nat.le_of_ble_eq_true rfl⟩ (Nat.le_of_ble_eq_true rfl) dX5_might_50 (fun r50 M50 hq50 => ?_)
            obtain ⟨rfl, rfl⟩ := hq50
            refine g_lconst (v := zL 0) (by decide) dX5_might_53 ?_
            refine g_lcmp dX5_might_54 ?_
            refine g_if_le (tgt := 62) dX5_might_55 (by decide) (fun c55 => ?_) (fun c55 => ?_)
            · refine g_iconst dX5_might_62 ?_
              refine g_iadd dX5_might_63 ?_
              refine g_istore_n (L2 := [(0, _), (1, _), (2, _), (3, _)]) (by decide) rfl dX5_might_64 ?_
              refine g_iinc (L2 := [(0, _), (1, _), (2, _), (3, _)]) rfl (by decide) rfl dX5_might_65 ?_
              refine g_goto (tgt := 38) dX5_might_68 (by decide) ?_
              rw [lgc_p (by omega) (by omega) (by decide) (by decide)] at c55
              rw [cnz, if_neg (by simp; omega)] at ih
              rw [zI_add, zI_add, Int.add_zero]
              exact ih
            · refine g_iconst dX5_might_58 ?_
              refine g_goto (tgt := 63) dX5_might_59 (by decide) ?_
              refine g_iadd dX5_might_63 ?_
              refine g_istore_n (L2 := [(0, _), (1, _), (2, _), (3, _)]) (by decide) rfl dX5_might_64 ?_
              refine g_iinc (L2 := [(0, _), (1, _), (2, _), (3, _)]) rfl (by decide) rfl dX5_might_65 ?_
              refine g_goto (tgt := 38) dX5_might_68 (by decide) ?_
              rw [lgc_p (by omega) (by omega) (by decide) (by decide)] at c55
              rw [cnz, if_pos (by simp; omega)] at ih
              rw [zI_add, zI_add]
              exact ih
      refine g_iconst dX5_might_34 ?_
      refine g_istore_n (L2 := [(0, _), (1, _), (2, _)]) (by decide) rfl dX5_might_35 ?_
      refine g_iconst dX5_might_36 ?_
      refine g_istore_n (L2 := [(0, _), (1, _), (2, _), (3, _)]) (by decide) rfl dX5_might_37 ?_
      exact loop (2 ^ xm M0) 0 (by omega)
    · rw [bI_d0] at c16
      have hro := ros_ok s c9
      rw [if_neg c16] at hro
      rw [hro, if_neg (by decide)] at hQ
      refine g_aload_n rfl dX5_might_19 ?_
      refine gf_X5_90 (by decide) rfl dX5_might_20 ?_
      rw [hI.as]
      refine g_if_eq (tgt := 31) dX5_might_23 (by decide) (fun c23 => ?_) (fun c23 => ?_)
      · refine g_bipush (by decide) dX5_might_31 ?_
        refine g_ireturn rfl dX5_might_33 ?_
        exact absurd c23 c9
      · refine g_bipush (by decide) dX5_might_26 ?_
        refine g_goto (tgt := 33) dX5_might_28 (by decide) ?_
        refine g_ireturn rfl dX5_might_33 ?_
        exact hQ
theorem ev_X5_learnsOf {M : Mem} (hw : WX M) (hI : InvQ M) (ha : mi M 22 2 = 1) {n : Nat} (hn : n < 1024) (hn2 : 2 ≤ n) (he : n % 2 = 0) : EvF yX5_learnsOf cX5_learnsOf 4 (some .boolean) 4 [.ref 31, .int (zI n)] M (some (.int (bI (appX M n)))) M := by
  refine EvF.of (by decide +kernel) (Nat.le_of_ble_eq_true rfl) (fun Q hQ => ?_)
  have hm := mx_m hw hI
  obtain ⟨hm1, hm2, hm3, -⟩ := hw.m
  have h8 := p2_8 hm1 hm2
  have hz := p2_z (xm M)
  have hpp := pop_pos n hn hn2
  have hc0 := cwX_bd hw hpp 0
  have loop : ∀ (d q : Nat), d + q = 2 ^ xm M → 1 ≤ q → G yX5_learnsOf.cls cX5_learnsOf 4 (some .boolean) (gE 4 Q) 4 [(0, .ref 31), (1, .int (zI n)), (2, .int (bI (exB (fun i => decide (¬ cwX M n i = cwX M n 0)) q))), (3, .int (zI q))] [] M := by
    intro d
    induction d with
    | zero =>
      intro q hq h1
      obtain rfl : q = 2 ^ xm M := by omega
      refine g_iload_n rfl dX5_learnsOf_4 ?_
      refine g_aload_n rfl dX5_learnsOf_5 ?_
      refine gi_X5_57 (by decide) rfl (ev_X5_size hm1 hm2 hm) rfl rfl ⟨Nat.le_of_ble_eq_true rfl, Nat.le_of_ble_eq_true rfl, Nat.le_of_ble_eq_true rfl, Nat.le_of_ble_eq_true rfl⟩ (Nat.le_of_ble_eq_true rfl) dX5_learnsOf_6 (fun r6 M6 hq6 => ?_)
      obtain ⟨rfl, rfl⟩ := hq6
      refine g_icmp_ge (tgt := 44) dX5_learnsOf_9 (by decide) (fun c9 => ?_) (fun c9 => ?_)
      · refine g_iload_n rfl dX5_learnsOf_44 ?_
        refine g_zreturn rfl (bI_nar _) dX5_learnsOf_45 ?_
        exact hQ
      · exact n_lt_of c9 (by omega) (by omega) (by omega) (by omega) (by omega)
    | succ d ih =>
      intro q hq h1
      have ih := ih (q + 1) (by omega) (by omega)
      have hcq := cwX_bd hw hpp q
      rw [exB] at ih
      refine g_iload_n rfl dX5_learnsOf_4 ?_
      refine g_aload_n rfl dX5_learnsOf_5 ?_
      refine gi_X5_57 (by decide) rfl (ev_X5_size hm1 hm2 hm) rfl rfl ⟨Nat.le_of_ble_eq_true rfl, Nat.le_of_ble_eq_true rfl, Nat.le_of_ble_eq_true rfl, Nat.le_of_ble_eq_true rfl⟩ (Nat.le_of_ble_eq_true rfl) dX5_learnsOf_6 (fun r6 M6 hq6 => ?_)
      obtain ⟨rfl, rfl⟩ := hq6
      refine g_icmp_ge (tgt := 44) dX5_learnsOf_9 (by decide) (fun c9 => ?_) (fun c9 => ?_)
      · exact n_le_of c9 (by omega) (by omega) (by omega) (by omega) (by omega)
      · refine g_iload_n rfl dX5_learnsOf_12 ?_
        refine g_if_ne (tgt := 32) dX5_learnsOf_13 (by decide) (fun c13 => ?_) (fun c13 => ?_)
        · refine g_iconst dX5_learnsOf_32 ?_
          refine g_goto (tgt := 37) dX5_learnsOf_33 (by decide) ?_
          refine g_istore_n (L2 := [(0, _), (1, _), (2, _), (3, _)]) (by decide) rfl dX5_learnsOf_37 ?_
          refine g_iinc (L2 := [(0, _), (1, _), (2, _), (3, _)]) rfl (by decide) rfl dX5_learnsOf_38 ?_
          refine g_goto (tgt := 4) dX5_learnsOf_41 (by decide) ?_
          rw [bI_n0] at c13
          rw [c13, Bool.true_or] at ih
          rw [zI_add]
          exact ih
        · refine g_aload_n rfl dX5_learnsOf_16 ?_
          refine g_iload_n rfl dX5_learnsOf_17 ?_
          refine g_iload_n rfl dX5_learnsOf_18 ?_
          refine gi_X5_175 (by decide) rfl (ev_X5_waysFor hw hI ha (n := n) (i := q) hn hn2 he (by omega)) rfl rfl ⟨Nat.le_of_ble_eq_true rfl, Nat.le_of_ble_eq_true rfl, Nat.le_of_ble_eq_true rfl, Nat.le_of_ble_eq_true rfl⟩ (Nat.le_of_ble_eq_true rfl) dX5_learnsOf_19 (fun r19 M19 hq19 => ?_)
          obtain ⟨rfl, rfl⟩ := hq19
          refine g_aload_n rfl dX5_learnsOf_22 ?_
          refine g_iload_n rfl dX5_learnsOf_23 ?_
          refine g_iconst dX5_learnsOf_24 ?_
          refine gi_X5_175 (by decide) rfl (show EvF yX5_waysFor cX5_waysFor 6 (some .long) 3 [.ref 31, .int (zI n), .int (zI 0)] M (some (.long (zL (cwX M n 0)))) M from ev_X5_waysFor hw hI ha (n := n) (i := 0) hn hn2 he (by omega)) rfl rfl ⟨Nat.le_of_ble_eq_true rfl, Nat.le_of_ble_eq_true rfl, Nat.le_of_ble_eq_true rfl, Nat.le_of_ble_eq_true rfl⟩ (Nat.le_of_ble_eq_true rfl) dX5_learnsOf_25 (fun r25 M25 hq25 => ?_)
          obtain ⟨rfl, rfl⟩ := hq25
          refine g_lcmp dX5_learnsOf_28 ?_
          refine g_if_eq (tgt := 36) dX5_learnsOf_29 (by decide) (fun c29 => ?_) (fun c29 => ?_)
          · refine g_iconst dX5_learnsOf_36 ?_
            refine g_istore_n (L2 := [(0, _), (1, _), (2, _), (3, _)]) (by decide) rfl dX5_learnsOf_37 ?_
            refine g_iinc (L2 := [(0, _), (1, _), (2, _), (3, _)]) rfl (by decide) rfl dX5_learnsOf_38 ?_
            refine g_goto (tgt := 4) dX5_learnsOf_41 (by decide) ?_
            rw [bI_0] at c13
            rw [lgc_0 (by omega) (by omega) (by omega) (by omega)] at c29
            rw [c13, Bool.false_or, decide_eq_false (fun q => q c29)] at ih
            rw [zI_add]
            exact ih
          · refine g_iconst dX5_learnsOf_32 ?_
            refine g_goto (tgt := 37) dX5_learnsOf_33 (by decide) ?_
            refine g_istore_n (L2 := [(0, _), (1, _), (2, _), (3, _)]) (by decide) rfl dX5_learnsOf_37 ?_
            refine g_iinc (L2 := [(0, _), (1, _), (2, _), (3, _)]) rfl (by decide) rfl dX5_learnsOf_38 ?_
            refine g_goto (tgt := 4) dX5_learnsOf_41 (by decide) ?_
            rw [bI_0] at c13
            rw [lgc_0 (by omega) (by omega) (by omega) (by omega)] at c29
            rw [c13, Bool.false_or, decide_eq_true c29] at ih
            rw [zI_add]
            exact ih
  refine g_iconst dX5_learnsOf_0 ?_
  refine g_istore_n (L2 := [(0, _), (1, _), (2, _)]) (by decide) rfl dX5_learnsOf_1 ?_
  refine g_iconst dX5_learnsOf_2 ?_
  refine g_istore_n (L2 := [(0, _), (1, _), (2, _), (3, _)]) (by decide) rfl dX5_learnsOf_3 ?_
  have e := loop (2 ^ xm M - 1) 1 (by omega) (Nat.le_refl _)
  have e1 : exB (fun i => decide (¬ cwX M n i = cwX M n 0)) 1 = false := exB_f 1 (fun i hi => by
    obtain rfl : i = 0 := by omega
    simp)
  rw [e1] at e
  exact e
theorem ev_X5_learns {M : Mem} (hw : WX (thM M)) (hI : InvQ (thM M)) (s : Int32) : EvF yX5_learns cX5_learns 2 (some .int) 5 [.ref 31, .int s] M (some (.int (if rosX (thM M) s = 0 then bI (appX (thM M) s.toInt.toNat) else rosX (thM M) s))) (thM M) := by
  refine EvF.of (by decide +kernel) (Nat.le_of_ble_eq_true rfl) (fun Q hQ => ?_)
  generalize hM0 : thM M = M0 at hw hI hQ
  refine g_aload_n rfl dX5_learns_0 ?_
  refine g_iconst dX5_learns_1 ?_
  refine gp_X5_45 (by decide) rfl dX5_learns_2 ?_
  refine g_mem hM0 ?_
  refine g_aload_n rfl dX5_learns_5 ?_
  refine gf_X5_90 (by decide) rfl dX5_learns_6 ?_
  rw [hI.as]
  refine g_if_ne (tgt := 17) dX5_learns_9 (by decide) (fun c9 => ?_) (fun c9 => ?_)
  · have ha : mi M0 22 2 = 1 := Classical.byContradiction fun q => c9 ((asked_iff hw).mpr q)
    have hro := ros_ok s c9
    refine g_iload_n rfl dX5_learns_17 ?_
    refine gi_X5_168 (ev_X5_isSet s M0) rfl rfl ⟨Nat.le_of_ble_eq_true rfl, Nat.le_of_ble_eq_true rfl, Nat.le_of_ble_eq_true rfl, Nat.le_of_ble_eq_true rfl⟩ (Nat.le_of_ble_eq_true rfl) dX5_learns_18 (fun r18 M18 hq18 => ?_)
    obtain ⟨rfl, rfl⟩ := hq18
    refine g_if_ne (tgt := 29) dX5_learns_21 (by decide) (fun c21 => ?_) (fun c21 => ?_)
    · rw [bI_dn] at c21
      rw [if_pos c21] at hro
      rw [hro, if_pos (by decide)] at hQ
      obtain ⟨n, hn, rfl⟩ : ∃ n : Nat, n < 1024 ∧ s = zI n := ⟨s.toInt.toNat, by omega, by rw [Int.toNat_of_nonneg (by omega), zI_of]⟩
      rw [tiN (by omega)] at c21
      rw [tnN (by omega)] at hQ
      refine g_aload_n rfl dX5_learns_29 ?_
      refine g_iload_n rfl dX5_learns_30 ?_
      refine gi_X5_179 (by decide) rfl (ev_X5_learnsOf hw hI ha (n := n) hn (by omega) (by omega)) rfl rfl ⟨Nat.le_of_ble_eq_true rfl, Nat.le_of_ble_eq_true rfl, Nat.le_of_ble_eq_true rfl, Nat.le_of_ble_eq_true rfl⟩ (Nat.le_of_ble_eq_true rfl) dX5_learns_31 (fun r31 M31 hq31 => ?_)
      obtain ⟨rfl, rfl⟩ := hq31
      refine g_if_eq (tgt := 41) dX5_learns_34 (by decide) (fun c34 => ?_) (fun c34 => ?_)
      · refine g_iconst dX5_learns_41 ?_
        refine g_ireturn rfl dX5_learns_42 ?_
        rw [bI_0] at c34
        rw [c34] at hQ
        exact hQ
      · refine g_iconst dX5_learns_37 ?_
        refine g_goto (tgt := 42) dX5_learns_38 (by decide) ?_
        refine g_ireturn rfl dX5_learns_42 ?_
        rw [bI_n0] at c34
        rw [c34] at hQ
        exact hQ
    · refine g_bipush (by decide) dX5_learns_24 ?_
      refine g_goto (tgt := 42) dX5_learns_26 (by decide) ?_
      refine g_ireturn rfl dX5_learns_42 ?_
      rw [bI_d0] at c21
      rw [if_neg c21] at hro
      rw [hro, if_neg (by decide)] at hQ
      exact hQ
  · refine g_bipush (by decide) dX5_learns_12 ?_
    refine g_goto (tgt := 42) dX5_learns_14 (by decide) ?_
    refine g_ireturn rfl dX5_learns_42 ?_
    have hro : rosX M0 s = zI (-3) := by rw [rosX, if_pos c9]
    rw [hro, if_neg (by decide)] at hQ
    exact hQ
theorem ev_X5_least {M : Mem} (hw : WX (thM M)) (hI : InvQ (thM M)) : EvF yX5_least cX5_least 2 (some .int) 5 [.ref 31] M (some (.int (if (thM M) 22 2 = 0 then zI (-3) else leaX (thM M)))) (thM M) := by
  refine EvF.of (by decide +kernel) (Nat.le_of_ble_eq_true rfl) (fun Q hQ => ?_)
  generalize hM0 : thM M = M0 at hw hI hQ
  have loop : mi M0 22 2 = 1 → ∀ (d k : Nat), d + k = 512 → 1 ≤ k → Q (some (.int (match fstF (fun k => appX M0 (2 * k)) d k with | none => zI (-9) | some k => zI (2 * k : Nat)))) M0 → G yX5_least.cls cX5_least 2 (some .int) (gE 5 Q) 17 [(0, .ref 31), (1, .int (zI (2 * k : Nat)))] [] M0 := by
    intro ha d
    induction d with
    | zero =>
      intro k hk h1 hQ
      refine g_iload_n rfl dX5_least_17 ?_
      refine g_sipush (by decide) dX5_least_18 ?_
      refine g_icmp_gt (tgt := 40) dX5_least_21 (by decide) (fun c21 => ?_) (fun c21 => ?_)
      · refine g_bipush (by decide) dX5_least_40 ?_
        refine g_ireturn rfl dX5_least_42 ?_
        exact hQ
      · simp (disch := omega) only [i_lt, zI_toInt] at c21
        omega
    | succ d ih =>
      intro k hk h1 hQ
      rw [fstF] at hQ
      refine g_iload_n rfl dX5_least_17 ?_
      refine g_sipush (by decide) dX5_least_18 ?_
      refine g_icmp_gt (tgt := 40) dX5_least_21 (by decide) (fun c21 => ?_) (fun c21 => ?_)
      · simp (disch := omega) only [i_lt, zI_toInt] at c21
        omega
      · refine g_aload_n rfl dX5_least_24 ?_
        refine g_iload_n rfl dX5_least_25 ?_
        refine gi_X5_179 (by decide) rfl (ev_X5_learnsOf hw hI ha (n := 2 * k) (by omega) (by omega) (by omega)) rfl rfl ⟨Nat.le_of_ble_eq_true rfl, Nat.le_of_ble_eq_true rfl, Nat.le_of_ble_eq_true rfl, Nat.le_of_ble_eq_true rfl⟩ (Nat.le_of_ble_eq_true rfl) dX5_least_26 (fun r26 M26 hq26 => ?_)
        obtain ⟨rfl, rfl⟩ := hq26
        refine g_if_eq (tgt := 34) dX5_least_29 (by decide) (fun c29 => ?_) (fun c29 => ?_)
        · refine g_iinc (L2 := [(0, _), (1, _)]) rfl (by decide) rfl dX5_least_34 ?_
          refine g_goto (tgt := 17) dX5_least_37 (by decide) ?_
          rw [bI_0] at c29
          rw [if_neg (by rw [c29]; decide)] at hQ
          rw [zI_add, show ((2 * k : Nat) : Int) + 2 = (2 * (k + 1) : Nat) by omega]
          exact ih (k + 1) (by omega) (by omega) hQ
        · refine g_iload_n rfl dX5_least_32 ?_
          refine g_ireturn rfl dX5_least_33 ?_
          rw [bI_n0] at c29
          rw [if_pos c29] at hQ
          exact hQ
  refine g_aload_n rfl dX5_least_0 ?_
  refine g_iconst dX5_least_1 ?_
  refine gp_X5_45 (by decide) rfl dX5_least_2 ?_
  refine g_mem hM0 ?_
  refine g_aload_n rfl dX5_least_5 ?_
  refine gf_X5_90 (by decide) rfl dX5_least_6 ?_
  rw [hI.as]
  refine g_if_ne (tgt := 15) dX5_least_9 (by decide) (fun c9 => ?_) (fun c9 => ?_)
  · refine g_iconst dX5_least_15 ?_
    refine g_istore_n (L2 := [(0, _), (1, _)]) (by decide) rfl dX5_least_16 ?_
    rw [if_neg c9] at hQ
    exact loop (Classical.byContradiction fun q => c9 ((asked_iff hw).mpr q)) 511 1 (by omega) (by omega) hQ
  · refine g_bipush (by decide) dX5_least_12 ?_
    refine g_ireturn rfl dX5_least_14 ?_
    rw [if_pos c9] at hQ
    exact hQ
theorem ev_X5_total {M : Mem} (hw : WX (thM M)) (hI : InvQ (thM M)) (h13 : (thM M) 31 13 = (thM M) 0 8) (h14 : (thM M) 31 14 = (thM M) 0 9) (h15 : (thM M) 31 15 = (thM M) 0 10) (w : Int32) : EvF yX5_total cX5_total 4 (some .int) 2 [.ref 31, .int w] M (some (.int (totX (thM M) w))) (thM M) := by
  refine EvF.of (by decide +kernel) (Nat.le_of_ble_eq_true rfl) (fun Q hQ => ?_)
  generalize hM0 : thM M = M0 at hw hI hQ h13 h14 h15
  have hm := mx_m hw hI
  obtain ⟨hm1, hm2, hm3, -⟩ := hw.m
  have fin : G yX5_total.cls cX5_total 4 (some .int) (gE 2 Q) 38 [(0, .ref 31), (1, .int w), (2, .int (zI (cnt (fun j => decide (mi M0 (3 + j) 1 = 0)) 9 : Nat)))] [] M0 := by
    refine g_iload_n rfl dX5_total_38 ?_
    by_cases hin : 0 ≤ w.toInt ∧ w.toInt ≤ 6
    · obtain ⟨n, hn, rfl⟩ : ∃ n : Nat, n < 7 ∧ w = zI n := ⟨w.toInt.toNat, by omega, by rw [Int.toNat_of_nonneg hin.1, zI_of]⟩
      rcases (by omega : n = 0 ∨ n = 1 ∨ n = 2 ∨ n = 3 ∨ n = 4 ∨ n = 5 ∨ n = 6) with rfl | rfl | rfl | rfl | rfl | rfl | rfl
      · refine g_tableIn (off := 41) (tgt := 80) dX5_total_39 (by decide) (by decide) (by decide +kernel) (by decide) ?_
        refine g_aload_n rfl dX5_total_80 ?_
        refine gi_X5_57 (by decide) rfl (ev_X5_size hm1 hm2 hm) rfl rfl ⟨Nat.le_of_ble_eq_true rfl, Nat.le_of_ble_eq_true rfl, Nat.le_of_ble_eq_true rfl, Nat.le_of_ble_eq_true rfl⟩ (Nat.le_of_ble_eq_true rfl) dX5_total_81 (fun r81 M81 hq81 => ?_)
        obtain ⟨rfl, rfl⟩ := hq81
        refine g_ireturn rfl dX5_total_84 ?_
        exact hQ
      · refine g_tableIn (off := 46) (tgt := 85) dX5_total_39 (by decide) (by decide) (by decide +kernel) (by decide) ?_
        refine g_aload_n rfl dX5_total_85 ?_
        refine gf_X5_144 (by decide) rfl dX5_total_86 ?_
        refine g_ireturn rfl dX5_total_89 ?_
        rw [h13]
        exact hQ
      · refine g_tableIn (off := 51) (tgt := 90) dX5_total_39 (by decide) (by decide) (by decide +kernel) (by decide) ?_
        refine g_aload_n rfl dX5_total_90 ?_
        refine gf_X5_147 (by decide) rfl dX5_total_91 ?_
        refine g_ireturn rfl dX5_total_94 ?_
        rw [h14]
        exact hQ
      · refine g_tableIn (off := 56) (tgt := 95) dX5_total_39 (by decide) (by decide) (by decide +kernel) (by decide) ?_
        refine g_aload_n rfl dX5_total_95 ?_
        refine gf_X5_115 (by decide) rfl dX5_total_96 ?_
        refine g_ireturn rfl dX5_total_99 ?_
        rw [h15]
        exact hQ
      · refine g_tableIn (off := 61) (tgt := 100) dX5_total_39 (by decide) (by decide) (by decide +kernel) (by decide) ?_
        refine g_iload_n rfl dX5_total_100 ?_
        refine g_ireturn rfl dX5_total_101 ?_
        exact hQ
      · refine g_tableIn (off := 63) (tgt := 102) dX5_total_39 (by decide) (by decide) (by decide +kernel) (by decide) ?_
        have e : totX M0 (zI ((5 : Nat) : Int)) = if M0 22 2 = 0 then zI 0 else zI 1 := rfl
        rw [e] at hQ
        refine g_aload_n rfl dX5_total_102 ?_
        refine gf_X5_90 (by decide) rfl dX5_total_103 ?_
        rw [hI.as]
        refine g_if_eq (tgt := 113) dX5_total_106 (by decide) (fun c106 => ?_) (fun c106 => ?_)
        · refine g_iconst dX5_total_113 ?_
          refine g_ireturn rfl dX5_total_114 ?_
          rw [if_pos c106] at hQ
          exact hQ
        · refine g_iconst dX5_total_109 ?_
          refine g_goto (tgt := 114) dX5_total_110 (by decide) ?_
          refine g_ireturn rfl dX5_total_114 ?_
          rw [if_neg c106] at hQ
          exact hQ
      · refine g_tableIn (off := 76) (tgt := 115) dX5_total_39 (by decide) (by decide) (by decide +kernel) (by decide) ?_
        have e : totX M0 (zI ((6 : Nat) : Int)) = if M0 22 2 = 0 then zI (-9) else M0 22 7 := rfl
        rw [e] at hQ
        refine g_aload_n rfl dX5_total_115 ?_
        refine gf_X5_90 (by decide) rfl dX5_total_116 ?_
        rw [hI.as]
        refine g_if_eq (tgt := 129) dX5_total_119 (by decide) (fun c119 => ?_) (fun c119 => ?_)
        · refine g_bipush (by decide) dX5_total_129 ?_
          refine g_ireturn rfl dX5_total_131 ?_
          rw [if_pos c119] at hQ
          exact hQ
        · rw [if_neg c119] at hQ
          have ha : mi M0 22 2 = 1 := Classical.byContradiction fun q => c119 ((asked_iff hw).mpr q)
          have hdg : mi M0 0 6 * mi M0 22 5 = mi M0 22 7 := by rw [hw.dg, (hw.aq ha).1]
          refine g_aload_n rfl dX5_total_122 ?_
          refine gi_X5_81 (by decide) rfl (ev_X5_degree (m := mi M0 0 6) (t := mi M0 22 5) (by rw [hI.dg, mi_z]) (by rw [(hI.qs ha).2.1, mi_z])) rfl rfl ⟨Nat.le_of_ble_eq_true rfl, Nat.le_of_ble_eq_true rfl, Nat.le_of_ble_eq_true rfl, Nat.le_of_ble_eq_true rfl⟩ (Nat.le_of_ble_eq_true rfl) dX5_total_123 (fun r123 M123 hq123 => ?_)
          obtain ⟨rfl, rfl⟩ := hq123
          refine g_goto (tgt := 131) dX5_total_126 (by decide) ?_
          refine g_ireturn rfl dX5_total_131 ?_
          rw [hdg, mi_z]
          exact hQ
    · refine g_tableOut (tgt := 132) dX5_total_39 (by omega) (by decide) ?_
      have hne : ∀ n : Int, 0 ≤ n → n ≤ 6 → ¬ w = zI n := fun n h1 h2 q => hin (by rw [q, zI_toInt (by omega) (by omega)]; exact ⟨h1, h2⟩)
      rw [totX, if_neg (hne 0 (by decide) (by decide)), if_neg (hne 1 (by decide) (by decide)), if_neg (hne 2 (by decide) (by decide)), if_neg (hne 3 (by decide) (by decide)), if_neg (hne 4 (by decide) (by decide)), if_neg (hne 5 (by decide) (by decide)), if_neg (hne 6 (by decide) (by decide))] at hQ
      refine g_bipush (by decide) dX5_total_132 ?_
      refine g_ireturn rfl dX5_total_134 ?_
      exact hQ
  have loop : ∀ (d j : Nat), d + j = 9 → G yX5_total.cls cX5_total 4 (some .int) (gE 2 Q) 9 [(0, .ref 31), (1, .int w), (2, .int (zI (cnt (fun j => decide (mi M0 (3 + j) 1 = 0)) j : Nat))), (3, .int (zI ((j + 1 : Nat) : Int)))] [] M0 := by
    intro d
    induction d with
    | zero =>
      intro j hj
      obtain rfl : j = 9 := by omega
      refine g_iload_n rfl dX5_total_9 ?_
      refine g_bipush (by decide) dX5_total_10 ?_
      refine g_icmp_gt (tgt := 38) dX5_total_12 (by decide) (fun c12 => ?_) (fun c12 => ?_)
      · exact g_locp [0, 1, 2] rfl fin
      · simp (disch := omega) only [i_lt, zI_toInt] at c12
        omega
    | succ d ih =>
      intro j hj
      have hkd := hI.kd (j + 1) (by omega) (by omega)
      have ih := ih (j + 1) (by omega)
      refine g_iload_n rfl dX5_total_9 ?_
      refine g_bipush (by decide) dX5_total_10 ?_
      refine g_icmp_gt (tgt := 38) dX5_total_12 (by decide) (fun c12 => ?_) (fun c12 => ?_)
      · simp (disch := omega) only [i_lt, zI_toInt] at c12
        omega
      · refine g_iload_n rfl dX5_total_15 ?_
        refine g_aload_n rfl dX5_total_16 ?_
        refine gf_X5_17 (by decide) rfl rfl dX5_total_17 ?_
        refine g_iload_n rfl dX5_total_20 ?_
        refine g_iald (n := 10) (by decide) rfl rfl (zI_in (by omega) (by omega) (by decide)) dX5_total_21 ?_
        rw [zI_clamp (by omega) (by omega), show ((j + 1 : Nat) : Int).toNat = j + 1 from rfl, hkd]
        refine g_if_ne (tgt := 29) dX5_total_22 (by decide) (fun c22 => ?_) (fun c22 => ?_)
        · refine g_iconst dX5_total_29 ?_
          refine g_iadd dX5_total_30 ?_
          refine g_istore_n (L2 := [(0, _), (1, _), (2, _), (3, _)]) (by decide) rfl dX5_total_31 ?_
          refine g_iinc (L2 := [(0, _), (1, _), (2, _), (3, _)]) rfl (by decide) rfl dX5_total_32 ?_
          refine g_goto (tgt := 9) dX5_total_35 (by decide) ?_
          rw [zI_zero, eqz_mi (by decide) (by decide)] at c22
          rw [cnt, if_neg (by simp [c22])] at ih
          rw [zI_add, zI_add, Int.add_zero]
          exact ih
        · refine g_iconst dX5_total_25 ?_
          refine g_goto (tgt := 30) dX5_total_26 (by decide) ?_
          refine g_iadd dX5_total_30 ?_
          refine g_istore_n (L2 := [(0, _), (1, _), (2, _), (3, _)]) (by decide) rfl dX5_total_31 ?_
          refine g_iinc (L2 := [(0, _), (1, _), (2, _), (3, _)]) rfl (by decide) rfl dX5_total_32 ?_
          refine g_goto (tgt := 9) dX5_total_35 (by decide) ?_
          rw [zI_zero, eqz_mi (by decide) (by decide)] at c22
          rw [cnt, if_pos (by simp [c22])] at ih
          rw [zI_add, zI_add]
          exact ih
  refine g_aload_n rfl dX5_total_0 ?_
  refine g_iconst dX5_total_1 ?_
  refine gp_X5_45 (by decide) rfl dX5_total_2 ?_
  refine g_mem hM0 ?_
  refine g_iconst dX5_total_5 ?_
  refine g_istore_n (L2 := [(0, _), (1, _), (2, _)]) (by decide) rfl dX5_total_6 ?_
  refine g_iconst dX5_total_7 ?_
  refine g_istore_n (L2 := [(0, _), (1, _), (2, _), (3, _)]) (by decide) rfl dX5_total_8 ?_
  exact loop 9 0 (by omega)
