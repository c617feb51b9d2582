/-! the reference: fits and fetch -/
theorem ev_X5_fits {M : Mem} (hw : WX (thM M)) (hI : InvQ (thM M)) (s v : Int32) : Ev yX5_fits cX5_fits 3 (some .int) 4 [.ref 31, .int s, .int v] M (fun r M1 => some (.int (if okS s ∧ okN v then (if rofX (thM M) s = 0 then bI (fitB (thM M) s.toInt.toNat v) else rofX (thM M) s) else zI (-2))) = r ∧ SamM (thM M) M1) := by
  refine Ev.of (by decide +kernel) (Nat.le_of_ble_eq_true rfl) (fun Q hQ => ?_)
  generalize hM0 : thM M = M0 at hw hI hQ
  have hg := hw.dgb
  refine g_aload_n rfl dX5_fits_0 ?_
  refine g_iconst dX5_fits_1 ?_
  refine gp_X5_45 (by decide) rfl dX5_fits_2 ?_
  refine g_mem hM0 ?_
  refine g_iload_n rfl dX5_fits_5 ?_
  refine gi_X5_100 (ev_X5_isStore s M0) rfl rfl ⟨Nat.le_of_ble_eq_true rfl, Nat.le_of_ble_eq_true rfl, Nat.le_of_ble_eq_true rfl, Nat.le_of_ble_eq_true rfl⟩ (Nat.le_of_ble_eq_true rfl) dX5_fits_6 (fun r6 M6 hq6 => ?_)
  obtain ⟨rfl, rfl⟩ := hq6
  refine g_if_eq (tgt := 19) dX5_fits_9 (by decide) (fun c9 => ?_) (fun c9 => ?_)
  · have ck : ¬ (okS s ∧ okN v) := by
      first
      | (rw [bI_d0] at c9
         exact fun q => c9 q.1)
      | (rw [bI_d0] at c16
         exact fun q => c16 q.2)
    rw [if_neg ck] at hQ
    refine g_bipush (by decide) dX5_fits_19 ?_
    refine g_ireturn rfl dX5_fits_21 ?_
    exact hQ _ _ ⟨rfl, SamM.r M0⟩
  · refine g_iload_n rfl dX5_fits_12 ?_
    refine gi_X5_97 (ev_X5_isNumber v M0) rfl rfl ⟨Nat.le_of_ble_eq_true rfl, Nat.le_of_ble_eq_true rfl, Nat.le_of_ble_eq_true rfl, Nat.le_of_ble_eq_true rfl⟩ (Nat.le_of_ble_eq_true rfl) dX5_fits_13 (fun r13 M13 hq13 => ?_)
    obtain ⟨rfl, rfl⟩ := hq13
    refine g_if_ne (tgt := 22) dX5_fits_16 (by decide) (fun c16 => ?_) (fun c16 => ?_)
    · rw [bI_dn] at c9 c16
      rw [if_pos ⟨c9, c16⟩] at hQ
      obtain ⟨n, hn1, hn2, rfl⟩ := okS_n c9
      rw [tnN (by omega)] at hQ
      refine g_aload_n rfl dX5_fits_22 ?_
      refine gf_X5_90 (by decide) rfl dX5_fits_23 ?_
      rw [hI.as]
      refine g_if_ne (tgt := 32) dX5_fits_26 (by decide) (fun c26 => ?_) (fun c26 => ?_)
      · have ha : mi M0 22 2 = 1 := Classical.byContradiction fun q => c26 ((asked_iff hw).mpr q)
        have hlen := rowX_len M0 n
        have hcl := cnt_le (tells M0) n
        have hdg : mi M0 0 6 * mi M0 22 5 = mi M0 22 7 := by rw [hw.dg, (hw.aq ha).1]
        have hok := rowX_ok M0 hn2
        have hasc : ascR (rowX M0 n) := hear_asc _ _ _
        refine g_aload_n rfl dX5_fits_32 ?_
        refine g_iload_n rfl dX5_fits_33 ?_
        refine gi_X5_140 (by decide) rfl (ev_X5_hear hw hI ha hn2) rfl rfl ⟨Nat.le_of_ble_eq_true rfl, Nat.le_of_ble_eq_true rfl, Nat.le_of_ble_eq_true rfl, Nat.le_of_ble_eq_true rfl⟩ (Nat.le_of_ble_eq_true rfl) dX5_fits_34 (fun r34 M34 hq34 => ?_)
        obtain ⟨rfl, hs, hr⟩ := hq34
        have e1 : M34 31 1 = zI (mi M0 0 6) := by rw [hs 31 1 (by omega), hI.dg, mi_z]
        have e8 : M34 31 8 = zI (mi M0 22 5) := by rw [hs 31 8 (by omega), (hI.qs ha).2.1, mi_z]
        refine g_aload_n rfl dX5_fits_37 ?_
        refine gf_X5_131 (by decide) rfl dX5_fits_38 ?_
        rw [hr.1]
        refine g_aload_n rfl dX5_fits_41 ?_
        refine gi_X5_81 (by decide) rfl (ev_X5_degree e1 e8) rfl rfl ⟨Nat.le_of_ble_eq_true rfl, Nat.le_of_ble_eq_true rfl, Nat.le_of_ble_eq_true rfl, Nat.le_of_ble_eq_true rfl⟩ (Nat.le_of_ble_eq_true rfl) dX5_fits_42 (fun r42 M42 hq42 => ?_)
        obtain ⟨rfl, rfl⟩ := hq42
        rw [hdg]
        refine g_icmp_gt (tgt := 51) dX5_fits_45 (by decide) (fun c45 => ?_) (fun c45 => ?_)
        · simp (disch := omega) only [i_lt, zI_toInt] at c45
          have e : rofX M0 (zI n) = zI 0 := by
            rw [rofX, if_pos c9, tnN (by omega), if_pos ⟨c26, by omega⟩]
          rw [e, if_pos (by decide)] at hQ
          obtain ⟨hf1, hf2⟩ := fpS_ok (rowX M0 n).length (by omega) (mi M0 22 7).toNat (by omega) (by omega)
          have h512 : 2 ^ (rowX M0 n).length ≤ 2 ^ 9 := Nat.pow_le_pow_right (by decide) (by omega)
          have hpl := pos_len (rowX M0 n).length (by omega) (fpS (rowX M0 n).length (mi M0 22 7).toNat) (by omega) hf1
          rw [hf2] at hpl
          obtain ⟨hf3, hf4⟩ := fst_all (rowX M0 n).length (by omega) (mi M0 22 7).toNat (by omega) (by omega)
          have hcf : ∀ a, a ≤ (mi M0 22 7).toNat → cF (rowX M0 n).length (fpS (rowX M0 n).length (mi M0 22 7).toNat) a = a := fun a h9 => by
            have := List.all_eq_true.mp hf4 a (List.mem_range.mpr (by omega))
            simpa using this
          have hg3 : mi M0 0 6 * mi M0 22 5 = ((mi M0 22 7).toNat : Nat) := by omega
          have hcle := cnOn_le (onX (curX M0 n (fpS (rowX M0 n).length (mi M0 22 7).toNat))) (rowX M0 n) (rowX M0 n).length
          have hnb := newt_bd (curX M0 n (fpS (rowX M0 n).length (mi M0 22 7).toNat)) 0
          have hoc : onM (rowX M0 n) (cF (rowX M0 n).length (fpS (rowX M0 n).length (mi M0 22 7).toNat)) (mi M0 22 7).toNat = onX (curX M0 n (fpS (rowX M0 n).length (mi M0 22 7).toNat)) := on_cur hok hasc hpl
          have hlc : lagV (cX (rowX M0 n) (cF (rowX M0 n).length (fpS (rowX M0 n).length (mi M0 22 7).toNat))) (cY (rowX M0 n) (cF (rowX M0 n).length (fpS (rowX M0 n).length (mi M0 22 7).toNat))) ((mi M0 22 7).toNat + 1) 0 = newt (curX M0 n (fpS (rowX M0 n).length (mi M0 22 7).toNat)) 0 := lag_cur hok hasc hpl 0
          have hnz := cur_nz hok hasc hpl
          refine g_aload_n rfl dX5_fits_51 ?_
          refine gi_X5_150 (by decide) rfl (ev_X5_first (M := M34) (m := mi M0 0 6) (t := mi M0 22 5) (g := (mi M0 22 7).toNat) e1 e8 hg3 (by omega)) rfl rfl ⟨Nat.le_of_ble_eq_true rfl, Nat.le_of_ble_eq_true rfl, Nat.le_of_ble_eq_true rfl, Nat.le_of_ble_eq_true rfl⟩ (Nat.le_of_ble_eq_true rfl) dX5_fits_52 (fun r52 M52 hq52 => ?_)
          obtain ⟨rfl, hs5, hc5⟩ := hq52
          have hs6 : SamM M0 M52 := hs.t (fun a b hab => by rw [hs5 a (by omega)])
          have hr5 : RowM M52 (rowX M0 n) := ⟨by rw [hs5 31 (by decide)]; exact hr.1, fun p x hx => by rw [hs5 39 (by decide), hs5 40 (by decide)]; exact hr.2 p x hx⟩
          have hcu : CurM M52 (rowX M0 n) (mi M0 0 6) (mi M0 22 5) (mi M0 22 7).toNat (cF (rowX M0 n).length (fpS (rowX M0 n).length (mi M0 22 7).toNat)) := ⟨hr5, by omega, hok, fun a h9 => by rw [hcf a h9]; exact hc5 a h9, fun a h9 => by rw [hcf a h9]; omega, by rw [hs5 31 (by decide)]; exact e1, by rw [hs5 31 (by decide)]; exact e8, hg3, by omega, by omega⟩
          refine g_aload_n rfl dX5_fits_55 ?_
          refine gi_X5_153 (by decide) rfl (ev_X5_onCurve hcu hnz) rfl rfl ⟨Nat.le_of_ble_eq_true rfl, Nat.le_of_ble_eq_true rfl, Nat.le_of_ble_eq_true rfl, Nat.le_of_ble_eq_true rfl⟩ (Nat.le_of_ble_eq_true rfl) dX5_fits_56 (fun r56 M56 hq56 => ?_)
          obtain ⟨rfl, rfl⟩ := hq56
          rw [hoc]
          refine g_aload_n rfl dX5_fits_59 ?_
          refine gf_X5_131 (by decide) rfl dX5_fits_60 ?_
          rw [hr5.1]
          refine g_icmp_ne (tgt := 79) dX5_fits_63 (by decide) (fun c63 => ?_) (fun c63 => ?_)
          · refine g_iconst dX5_fits_79 ?_
            refine g_ireturn rfl dX5_fits_80 ?_
            rw [zI_eqz (by omega) (by omega) (by omega) (by omega)] at c63
            refine hQ _ _ ⟨?_, hs6⟩
            rw [fitB, decide_eq_false (by omega), Bool.false_and]
            rfl
          · refine g_aload_n rfl dX5_fits_66 ?_
            refine g_iconst dX5_fits_67 ?_
            refine gi_X5_137 (by decide) rfl (ev_X5_curveAt hcu hnz (z := 0) (by decide) (by decide)) rfl rfl ⟨Nat.le_of_ble_eq_true rfl, Nat.le_of_ble_eq_true rfl, Nat.le_of_ble_eq_true rfl, Nat.le_of_ble_eq_true rfl⟩ (Nat.le_of_ble_eq_true rfl) dX5_fits_68 (fun r68 M68 hq68 => ?_)
            obtain ⟨rfl, rfl⟩ := hq68
            rw [hlc]
            refine g_iload_n rfl dX5_fits_71 ?_
            refine g_icmp_ne (tgt := 79) dX5_fits_72 (by decide) (fun c72 => ?_) (fun c72 => ?_)
            · refine g_iconst dX5_fits_79 ?_
              refine g_ireturn rfl dX5_fits_80 ?_
              refine hQ _ _ ⟨?_, hs6⟩
              rw [fitB, decide_eq_false c72, Bool.and_false]
              rfl
            · refine g_iconst dX5_fits_75 ?_
              refine g_goto (tgt := 80) dX5_fits_76 (by decide) ?_
              refine g_ireturn rfl dX5_fits_80 ?_
              rw [zI_eqz (by omega) (by omega) (by omega) (by omega)] at c63
              refine hQ _ _ ⟨?_, hs6⟩
              rw [fitB, decide_eq_true (by omega), decide_eq_true c72]
              rfl
        · refine g_bipush (by decide) dX5_fits_48 ?_
          refine g_ireturn rfl dX5_fits_50 ?_
          simp (disch := omega) only [i_lt, zI_toInt] at c45
          have e : rofX M0 (zI n) = zI (-3) := by
            rw [rofX, if_pos c9, tnN (by omega), if_neg (fun q => by have := q.2; omega)]
          rw [e] at hQ
          exact hQ _ _ ⟨by rw [if_neg (by decide)], hs⟩
      · refine g_bipush (by decide) dX5_fits_29 ?_
        refine g_ireturn rfl dX5_fits_31 ?_
        have e : rofX M0 (zI n) = zI (-3) := by rw [rofX, if_pos c9, if_neg (fun q => q.1 c26)]
        rw [e] at hQ
        exact hQ _ _ ⟨by rw [if_neg (by decide)], SamM.r M0⟩
    · have ck : ¬ (okS s ∧ okN v) := by
        first
        | (rw [bI_d0] at c9
           exact fun q => c9 q.1)
        | (rw [bI_d0] at c16
           exact fun q => c16 q.2)
      rw [if_neg ck] at hQ
      refine g_bipush (by decide) dX5_fits_19 ?_
      refine g_ireturn rfl dX5_fits_21 ?_
      exact hQ _ _ ⟨rfl, SamM.r M0⟩
