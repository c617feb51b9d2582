/-! the reference: points, answers, sets, what it hears -/
theorem j_pow {j : Nat} (hj : j < 10) {p : Int} (h1 : 0 ≤ p) (h2 : p < 97) : 0 ≤ p * j ∧ p * j < 20000 := mul_bd h1 h2 (by omega) (by omega)
theorem ev_X5_pointOf {M : Mem} (hw : WX M) (hI : InvQ M) (ha : mi M 22 2 = 1) {j k : Nat} (hj : j < 10) (hk : k < 3) : ∃ v : Int, 0 ≤ v ∧ v < 97 ∧ (k < xm M → v = ptX M j k) ∧ EvF yX5_pointOf cX5_pointOf 6 (some .int) 1 [.ref 31, .int (zI j), .int (zI k)] M (some (.int (zI v))) M := by
  obtain ⟨q1, q2, q3, q4, q5⟩ := hI.qs ha
  have hwa := hw.wa
  have hkf := hw.kf
  have hlb := hI.lb
  have hm := hw.m
  have hT : ((mi M 22 5).toNat : Int) = mi M 22 5 := by omega
  generalize hT2 : (mi M 22 5).toNat = T at hT q3
  have hT3 : T ≤ 2 := by omega
  have e8 : M 31 8 = zI T := by rw [q2, ← mi_z M 22 5, ← hT]
  have hb0 : 0 ≤ mi M 22 4 / 2 ^ k ∧ mi M 22 4 / 2 ^ k ≤ mi M 22 4 := ⟨Int.ediv_nonneg hwa.1 (by exact Int.le_of_lt (Int.pow_pos (by decide))), Int.ediv_le_self _ hwa.1⟩
  have hbit : 0 ≤ mi M 22 4 / 2 ^ k % 2 ∧ mi M 22 4 / 2 ^ k % 2 < 2 := ⟨Int.emod_nonneg _ (by decide), Int.emod_lt_of_pos _ (by decide)⟩
  refine ⟨(mi M 22 4 / 2 ^ k % 2 + polS (fun e => mi M 36 (2 * k + e)) j T) % 97, (md_bd _).1, (md_bd _).2, fun hkm => ?_, ?_⟩
  · unfold ptX pntS
    rw [hT2]
    congr 2
    refine polS_ext _ _ (fun e he => ?_)
    unfold mi
    rw [q3 k e hkm he]
  · refine EvF.of (by decide +kernel) (Nat.le_of_ble_eq_true rfl) (fun Q hQ => ?_)
    have loop : ∀ (d e : Nat), d + e = T → ∀ v p : Int, 0 ≤ v → v < 97 → 0 ≤ p → p < 97 → cgr v (mi M 22 4 / 2 ^ k % 2 + polS (fun e => mi M 36 (2 * k + e)) j e) → cgr p ((j : Int) ^ e) →
        G yX5_pointOf.cls cX5_pointOf 6 (some .int) (gE 1 Q) 15 [(0, .ref 31), (1, .int (zI j)), (2, .int (zI k)), (3, .int (zI v)), (4, .int (zI p)), (5, .int (zI e))] [] M := by
      intro d
      induction d with
      | zero =>
        intro e he v p hv1 hv2 hp1 hp2 hv hp
        refine g_iload rfl dX5_pointOf_15 ?_
        refine g_aload_n rfl dX5_pointOf_17 ?_
        refine gf_X5_48 (by decide) rfl dX5_pointOf_18 ?_
        rw [e8]
        refine g_icmp_ge (tgt := 59) dX5_pointOf_21 (by decide) (fun c21 => ?_) (fun c21 => ?_)
        · refine g_iload_n rfl dX5_pointOf_59 ?_
          refine g_ireturn rfl dX5_pointOf_60 ?_
          obtain rfl : e = T := by omega
          rw [cg_lt hv hv1 hv2]
          exact hQ
        · exact n_lt_of c21 (by omega) (by omega) (by omega) (by omega) (by omega)
      | succ d ih =>
        intro e he v p hv1 hv2 hp1 hp2 hv hp
        have hpj := j_pow hj hp1 hp2
        have hl := hlb (2 * k + e) (by omega)
        have hpb := md_bd (p * j)
        have hmb := mul_bd hl.1 hl.2 hpb.1 (Int.lt_trans hpb.2 (by decide))
        refine g_iload rfl dX5_pointOf_15 ?_
        refine g_aload_n rfl dX5_pointOf_17 ?_
        refine gf_X5_48 (by decide) rfl dX5_pointOf_18 ?_
        rw [e8]
        refine g_icmp_ge (tgt := 59) dX5_pointOf_21 (by decide) (fun c21 => ?_) (fun c21 => ?_)
        · exact n_le_of c21 (by omega) (by omega) (by omega) (by omega) (by omega)
        · refine g_iload rfl dX5_pointOf_24 ?_
          refine g_iload_n rfl dX5_pointOf_26 ?_
          refine g_imul dX5_pointOf_27 ?_
          rw [zI_mul]
          refine gi_X5_67 (ev_X5_mod (z := p * j) (by omega) (by omega) M) rfl rfl ⟨Nat.le_of_ble_eq_true rfl, Nat.le_of_ble_eq_true rfl, Nat.le_of_ble_eq_true rfl, Nat.le_of_ble_eq_true rfl⟩ (Nat.le_of_ble_eq_true rfl) dX5_pointOf_28 (fun r28 M28 hq28 => ?_)
          obtain ⟨rfl, rfl⟩ := hq28
          refine g_istore (L2 := [(0, _), (1, _), (2, _), (3, _), (4, _), (5, _)]) (by decide) rfl dX5_pointOf_31 ?_
          refine g_iload_n rfl dX5_pointOf_33 ?_
          refine g_aload_n rfl dX5_pointOf_34 ?_
          refine gf_X5_26 (by decide) rfl rfl dX5_pointOf_35 ?_
          refine g_iconst dX5_pointOf_38 ?_
          refine g_iload_n rfl dX5_pointOf_39 ?_
          refine g_imul dX5_pointOf_40 ?_
          refine g_iload rfl dX5_pointOf_41 ?_
          refine g_iadd dX5_pointOf_43 ?_
          rw [zI_mul, zI_add, show (2 : Int) * (k : Nat) + (e : Nat) = ((2 * k + e : Nat) : Int) by omega]
          refine g_iald (n := 6) (by decide) rfl rfl (zI_in (by omega) (by omega) (by decide)) dX5_pointOf_44 ?_
          rw [ld_m M 36 (by omega)]
          refine g_iload rfl dX5_pointOf_45 ?_
          refine g_imul dX5_pointOf_47 ?_
          refine g_iadd dX5_pointOf_48 ?_
          rw [zI_mul, zI_add]
          refine gi_X5_67 (ev_X5_mod (z := v + mi M 36 (2 * k + e) * (p * j % 97)) (by omega) (by omega) M) rfl rfl ⟨Nat.le_of_ble_eq_true rfl, Nat.le_of_ble_eq_true rfl, Nat.le_of_ble_eq_true rfl, Nat.le_of_ble_eq_true rfl⟩ (Nat.le_of_ble_eq_true rfl) dX5_pointOf_49 (fun r49 M49 hq49 => ?_)
          obtain ⟨rfl, rfl⟩ := hq49
          refine g_istore_n (L2 := [(0, _), (1, _), (2, _), (3, _), (4, _), (5, _)]) (by decide) rfl dX5_pointOf_52 ?_
          refine g_iinc (L2 := [(0, _), (1, _), (2, _), (3, _), (4, _), (5, _)]) rfl (by decide) rfl dX5_pointOf_53 ?_
          refine g_goto (tgt := 15) dX5_pointOf_56 (by decide) ?_
          rw [zI_add]
          refine ih (e + 1) (by omega) _ _ (md_bd _).1 (md_bd _).2 (md_bd _).1 (md_bd _).2 ?_ ?_
          · rw [polS, ← Int.add_assoc]
            refine cg_t (cg_m _) (cg_a hv (cg_x (cg_r _) ?_))
            rw [Int.pow_succ]
            exact cg_t (cg_m _) (cg_x hp (cg_r _))
          · rw [Int.pow_succ]
            exact cg_t (cg_m _) (cg_x hp (cg_r _))
    refine g_aload_n rfl dX5_pointOf_0 ?_
    refine gf_X5_71 (by decide) rfl dX5_pointOf_1 ?_
    rw [q1, ← mi_z M 22 4]
    refine g_iload_n rfl dX5_pointOf_4 ?_
    refine g_ishr dX5_pointOf_5 ?_
    refine g_iconst dX5_pointOf_6 ?_
    refine g_iand dX5_pointOf_7 ?_
    rw [zI_shr hwa.1 (by omega) (by omega), zI_and1 hb0.1 (by omega)]
    refine g_istore_n (L2 := [(0, _), (1, _), (2, _), (3, _)]) (by decide) rfl dX5_pointOf_8 ?_
    refine g_iconst dX5_pointOf_9 ?_
    refine g_istore (L2 := [(0, _), (1, _), (2, _), (3, _), (4, _)]) (by decide) rfl dX5_pointOf_10 ?_
    refine g_iconst dX5_pointOf_12 ?_
    refine g_istore (L2 := [(0, _), (1, _), (2, _), (3, _), (4, _), (5, _)]) (by decide) rfl dX5_pointOf_13 ?_
    exact loop T 0 (by omega) _ 1 hbit.1 (by omega) (by decide) (by decide) (by rw [polS, Int.add_zero]; exact cg_r _) (by rw [Int.pow_zero]; exact cg_r _)
theorem ev_X5_answerOf {M : Mem} (hw : WX M) (hI : InvQ M) (ha : mi M 22 2 = 1) {j : Nat} (h1 : 1 ≤ j) (hj : j < 10) : EvF yX5_answerOf cX5_answerOf 5 (some .int) 2 [.ref 31, .int (zI j)] M (some (.int (zI (ansX M j)))) M := by
  refine EvF.of (by decide +kernel) (Nat.le_of_ble_eq_true rfl) (fun Q hQ => ?_)
  obtain ⟨q1, q2, q3, q4, q5⟩ := hI.qs ha
  obtain ⟨hm1, hm2, hm3, hm⟩ := hw.m
  obtain ⟨p0, p01, p02, p03, E0⟩ := ev_X5_pointOf hw hI ha (j := j) (k := 0) hj (by decide)
  obtain ⟨p1, p11, p12, p13, E1⟩ := ev_X5_pointOf hw hI ha (j := j) (k := 1) hj (by decide)
  obtain ⟨p2, p21, p22, p23, E2⟩ := ev_X5_pointOf hw hI ha (j := j) (k := 2) hj (by decide)
  have hst := hw.st j h1 hj
  have hly := hI.ly j h1 hj
  have hkd := hI.kd j h1 hj
  have hg := hw.dgb
  have hvs := hw.vs
  have hpt : ∀ k, k < xm M → (pt3 (zI p0) (zI p1) (zI p2) k).toInt = ptX M j k := by
    intro k hk
    rcases (by omega : k = 0 ∨ k = 1 ∨ k = 2) with rfl | rfl | rfl
    · rw [← p03 hk]; exact zI_toInt (by omega) (by omega)
    · rw [← p13 hk]; exact zI_toInt (by omega) (by omega)
    · rw [← p23 hk]; exact zI_toInt (by omega) (by omega)
  have hok : ∀ k, k < xm M → okN (pt3 (zI p0) (zI p1) (zI p2) k) := fun k hk => by
    unfold okN
    rw [hpt k hk]
    exact pntS_bd _ _ _ _ _
  have hcp : cpM M j = mi M (hc M j) := by unfold cpM; rw [if_neg (by omega)]
  have hsum : sumW (cpM M j) (fun k => (pt3 (zI p0) (zI p1) (zI p2) k).toInt) (xm M) (2 ^ xm M) = sumW (mi M (hc M j)) (ptX M j) (xm M) (2 ^ xm M) := by
    rw [hcp]
    exact sumW_ext hpt _ (fun _ _ => rfl)
  have e8 : M 31 8 = zI (mi M 22 5) := by rw [q2, mi_z]
  have e1 : M 31 1 = zI (mi M 0 6) := by rw [hI.dg, mi_z]
  have hdg : mi M 0 6 * mi M 22 5 = mi M 22 7 := by rw [hw.dg, (hw.aq ha).1]
  have hb1 := md_bd (sumW (mi M (hc M j)) (ptX M j) (xm M) (2 ^ xm M))
  generalize hS : sumW (mi M (hc M j)) (ptX M j) (xm M) (2 ^ xm M) % 97 = S at hb1
  have fin : ∀ v : Int, 0 ≤ v → v < 1000 → cgr v (S + vlS M j + mi M (3 + j) 2) → G yX5_answerOf.cls cX5_answerOf 5 (some .int) (gE 2 Q) 94 [(0, .ref 31), (1, .int (zI j)), (2, .int (zI v))] [] M := by
    intro v hv1 hv2 hv
    refine g_iload_n rfl dX5_answerOf_94 ?_
    refine gi_X5_67 (ev_X5_mod (z := v) (by omega) (by omega) M) rfl rfl ⟨Nat.le_of_ble_eq_true rfl, Nat.le_of_ble_eq_true rfl, Nat.le_of_ble_eq_true rfl, Nat.le_of_ble_eq_true rfl⟩ (Nat.le_of_ble_eq_true rfl) dX5_answerOf_95 (fun r95 M95 hq95 => ?_)
    obtain ⟨rfl, rfl⟩ := hq95
    refine g_ireturn rfl dX5_answerOf_98 ?_
    rw [cg_e hv]
    rw [ansX, hS] at hQ
    exact hQ
  have loop : ∀ (d e : Nat), d + e = (mi M 22 7).toNat → ∀ v p : Int, 0 ≤ v → v < 1000 → 0 ≤ p → p < 97 → (mi M 22 3 = 1 → cgr v (S + mi M (3 + j) 2 + polS (mi M 24) j e) ∧ cgr p ((j : Int) ^ e)) → (¬ mi M 22 3 = 1 → v = S + mi M (3 + j) 2) →
      G yX5_answerOf.cls cX5_answerOf 5 (some .int) (gE 2 Q) 50 [(0, .ref 31), (1, .int (zI j)), (2, .int (zI v)), (3, .int (zI p)), (4, .int (zI ((e + 1 : Nat) : Int)))] [] M := by
    intro d
    induction d with
    | zero =>
      intro e he v p hv1 hv2 hp1 hp2 hv hn
      refine g_iload rfl dX5_answerOf_50 ?_
      refine g_aload_n rfl dX5_answerOf_52 ?_
      refine gi_X5_81 (by decide) rfl (ev_X5_degree (m := mi M 0 6) (t := mi M 22 5) e1 e8) rfl rfl ⟨Nat.le_of_ble_eq_true rfl, Nat.le_of_ble_eq_true rfl, Nat.le_of_ble_eq_true rfl, Nat.le_of_ble_eq_true rfl⟩ (Nat.le_of_ble_eq_true rfl) dX5_answerOf_53 (fun r53 M53 hq53 => ?_)
      obtain ⟨rfl, rfl⟩ := hq53
      rw [hdg]
      refine g_icmp_gt (tgt := 94) dX5_answerOf_56 (by decide) (fun c56 => ?_) (fun c56 => ?_)
      · refine g_locp [0, 1, 2] rfl (fin v hv1 hv2 ?_)
        by_cases h3 : mi M 22 3 = 1
        · refine cg_t (hv h3).1 ?_
          obtain rfl : e = (mi M 22 7).toNat := by omega
          have hv0 : ¬ M 22 3 = 0 := by rw [zI_zero, eqz_mi (by decide) (by decide)]; omega
          rw [vlS, if_neg hv0]
          have := cg_m (polS (mi M 24) j (mi M 22 7).toNat)
          rw [Int.add_right_comm]
          exact cg_a (cg_a (cg_r _) (cg_s this)) (cg_r _)
        · have hv0 : M 22 3 = 0 := by
            rw [zI_zero, eqz_mi (by decide) (by decide)]
            have := hw.vl
            omega
          rw [hn h3, vlS, if_pos hv0, Int.add_zero]
          exact cg_r _
      · simp (disch := omega) only [i_lt, zI_toInt] at c56
        omega
    | succ d ih =>
      intro e he v p hv1 hv2 hp1 hp2 hv hn
      have hpj := j_pow hj hp1 hp2
      have hl := hvs e (by omega)
      have hpb := md_bd (p * j)
      have hmb := mul_bd hl.1 hl.2 hpb.1 (Int.lt_trans hpb.2 (by decide))
      refine g_iload rfl dX5_answerOf_50 ?_
      refine g_aload_n rfl dX5_answerOf_52 ?_
      refine gi_X5_81 (by decide) rfl (ev_X5_degree (m := mi M 0 6) (t := mi M 22 5) e1 e8) rfl rfl ⟨Nat.le_of_ble_eq_true rfl, Nat.le_of_ble_eq_true rfl, Nat.le_of_ble_eq_true rfl, Nat.le_of_ble_eq_true rfl⟩ (Nat.le_of_ble_eq_true rfl) dX5_answerOf_53 (fun r53 M53 hq53 => ?_)
      obtain ⟨rfl, rfl⟩ := hq53
      rw [hdg]
      refine g_icmp_gt (tgt := 94) dX5_answerOf_56 (by decide) (fun c56 => ?_) (fun c56 => ?_)
      · simp (disch := omega) only [i_lt, zI_toInt] at c56
        omega
      · refine g_aload_n rfl dX5_answerOf_59 ?_
        refine gf_X5_84 (by decide) rfl dX5_answerOf_60 ?_
        rw [q4]
        refine g_if_eq (tgt := 94) dX5_answerOf_63 (by decide) (fun c63 => ?_) (fun c63 => ?_)
        · have h3 : ¬ mi M 22 3 = 1 := by
            rw [zI_zero, eqz_mi (by decide) (by decide)] at c63
            omega
          refine g_locp [0, 1, 2] rfl (fin v hv1 hv2 ?_)
          rw [hn h3, vlS, if_pos c63, Int.add_zero]
          exact cg_r _
        · have h3 : mi M 22 3 = 1 := by
            rw [zI_zero, eqz_mi (by decide) (by decide)] at c63
            have := hw.vl
            omega
          obtain ⟨hv3, hp3⟩ := hv h3
          have e37 : M 37 (e + 1) = zI (mi M 24 e) := by rw [q5 h3 e (by omega), mi_z]
          refine g_iload_n rfl dX5_answerOf_66 ?_
          refine g_iload_n rfl dX5_answerOf_67 ?_
          refine g_imul dX5_answerOf_68 ?_
          rw [zI_mul]
          refine gi_X5_67 (ev_X5_mod (z := p * j) (by omega) (by omega) M) rfl rfl ⟨Nat.le_of_ble_eq_true rfl, Nat.le_of_ble_eq_true rfl, Nat.le_of_ble_eq_true rfl, Nat.le_of_ble_eq_true rfl⟩ (Nat.le_of_ble_eq_true rfl) dX5_answerOf_69 (fun r69 M69 hq69 => ?_)
          obtain ⟨rfl, rfl⟩ := hq69
          refine g_istore_n (L2 := [(0, _), (1, _), (2, _), (3, _), (4, _)]) (by decide) rfl dX5_answerOf_72 ?_
          refine g_iload_n rfl dX5_answerOf_73 ?_
          refine g_aload_n rfl dX5_answerOf_74 ?_
          refine gf_X5_29 (by decide) rfl rfl dX5_answerOf_75 ?_
          refine g_iload rfl dX5_answerOf_78 ?_
          refine g_iald (n := 7) (by decide) rfl rfl (zI_in (by omega) (by omega) (by decide)) dX5_answerOf_80 ?_
          rw [zI_clamp (by omega) (by omega), show ((e + 1 : Nat) : Int).toNat = e + 1 from rfl, e37]
          refine g_iload_n rfl dX5_answerOf_81 ?_
          refine g_imul dX5_answerOf_82 ?_
          refine g_iadd dX5_answerOf_83 ?_
          rw [zI_mul, zI_add]
          refine gi_X5_67 (ev_X5_mod (z := v + mi M 24 e * (p * j % 97)) (by omega) (by omega) M) rfl rfl ⟨Nat.le_of_ble_eq_true rfl, Nat.le_of_ble_eq_true rfl, Nat.le_of_ble_eq_true rfl, Nat.le_of_ble_eq_true rfl⟩ (Nat.le_of_ble_eq_true rfl) dX5_answerOf_84 (fun r84 M84 hq84 => ?_)
          obtain ⟨rfl, rfl⟩ := hq84
          refine g_istore_n (L2 := [(0, _), (1, _), (2, _), (3, _), (4, _)]) (by decide) rfl dX5_answerOf_87 ?_
          refine g_iinc (L2 := [(0, _), (1, _), (2, _), (3, _), (4, _)]) rfl (by decide) rfl dX5_answerOf_88 ?_
          refine g_goto (tgt := 50) dX5_answerOf_91 (by decide) ?_
          rw [zI_add]
          have hbv := md_bd (v + mi M 24 e * (p * j % 97))
          refine ih (e + 1) (by omega) _ _ hbv.1 (by omega) hpb.1 hpb.2 (fun _ => ⟨?_, ?_⟩) (fun q => absurd h3 q)
          · rw [polS, ← Int.add_assoc]
            refine cg_t (cg_m _) (cg_a hv3 (cg_x (cg_r _) ?_))
            rw [Int.pow_succ]
            exact cg_t (cg_m _) (cg_x hp3 (cg_r _))
          · rw [Int.pow_succ]
            exact cg_t (cg_m _) (cg_x hp3 (cg_r _))
  refine g_aload_n rfl dX5_answerOf_0 ?_
  refine g_iload_n rfl dX5_answerOf_1 ?_
  refine g_aload_n rfl dX5_answerOf_2 ?_
  refine g_iload_n rfl dX5_answerOf_3 ?_
  refine g_iconst dX5_answerOf_4 ?_
  refine gi_X5_74 (by decide) rfl E0 rfl rfl ⟨Nat.le_of_ble_eq_true rfl, Nat.le_of_ble_eq_true rfl, Nat.le_of_ble_eq_true rfl, Nat.le_of_ble_eq_true rfl⟩ (Nat.le_of_ble_eq_true rfl) dX5_answerOf_5 (fun r5 M5 hq5 => ?_)
  obtain ⟨rfl, rfl⟩ := hq5
  refine g_aload_n rfl dX5_answerOf_8 ?_
  refine g_iload_n rfl dX5_answerOf_9 ?_
  refine g_iconst dX5_answerOf_10 ?_
  refine gi_X5_74 (by decide) rfl E1 rfl rfl ⟨Nat.le_of_ble_eq_true rfl, Nat.le_of_ble_eq_true rfl, Nat.le_of_ble_eq_true rfl, Nat.le_of_ble_eq_true rfl⟩ (Nat.le_of_ble_eq_true rfl) dX5_answerOf_11 (fun r11 M11 hq11 => ?_)
  obtain ⟨rfl, rfl⟩ := hq11
  refine g_aload_n rfl dX5_answerOf_14 ?_
  refine g_iload_n rfl dX5_answerOf_15 ?_
  refine g_iconst dX5_answerOf_16 ?_
  refine gi_X5_74 (by decide) rfl E2 rfl rfl ⟨Nat.le_of_ble_eq_true rfl, Nat.le_of_ble_eq_true rfl, Nat.le_of_ble_eq_true rfl, Nat.le_of_ble_eq_true rfl⟩ (Nat.le_of_ble_eq_true rfl) dX5_answerOf_17 (fun r17 M17 hq17 => ?_)
  obtain ⟨rfl, rfl⟩ := hq17
  refine gi_X5_77 (by decide) rfl (ev_X5_sumOf hw hI (j := j) hj hok) rfl rfl ⟨Nat.le_of_ble_eq_true rfl, Nat.le_of_ble_eq_true rfl, Nat.le_of_ble_eq_true rfl, Nat.le_of_ble_eq_true rfl⟩ (Nat.le_of_ble_eq_true rfl) dX5_answerOf_20 (fun r20 M20 hq20 => ?_)
  obtain ⟨rfl, rfl⟩ := hq20
  rw [hsum, hS]
  refine g_aload_n rfl dX5_answerOf_23 ?_
  refine gf_X5_17 (by decide) rfl rfl dX5_answerOf_24 ?_
  refine g_iload_n rfl dX5_answerOf_27 ?_
  refine g_iald (n := 10) (by decide) rfl rfl (zI_in (by omega) (by omega) (by decide)) dX5_answerOf_28 ?_
  rw [zI_clamp (by omega) (by omega), show ((j : Nat) : Int).toNat = j from rfl, hkd]
  refine g_iconst dX5_answerOf_29 ?_
  refine g_icmp_ne (tgt := 42) dX5_answerOf_30 (by decide) (fun c30 => ?_) (fun c30 => ?_)
  · refine g_iconst dX5_answerOf_42 ?_
    refine g_iadd dX5_answerOf_43 ?_
    refine g_istore_n (L2 := [(0, _), (1, _), (2, _)]) (by decide) rfl dX5_answerOf_44 ?_
    refine g_iconst dX5_answerOf_45 ?_
    refine g_istore_n (L2 := [(0, _), (1, _), (2, _), (3, _)]) (by decide) rfl dX5_answerOf_46 ?_
    refine g_iconst dX5_answerOf_47 ?_
    refine g_istore (L2 := [(0, _), (1, _), (2, _), (3, _), (4, _)]) (by decide) rfl dX5_answerOf_48 ?_
    rw [eqz_mi (by decide) (by decide)] at c30
    have h0 := hly.2 c30
    have h00 : mi M (3 + j) 2 = 0 := (eqz_mi (by decide) (by decide)).mp h0
    rw [zI_add]
    exact loop (mi M 22 7).toNat 0 (by omega) _ 1 (by omega) (by omega) (by decide) (by decide) (fun _ => ⟨by rw [h00, polS, Int.add_zero, Int.add_zero]; exact cg_r _, by rw [Int.pow_zero]; exact cg_r _⟩) (fun _ => by rw [h00])
  · refine g_aload_n rfl dX5_answerOf_33 ?_
    refine gf_X5_20 (by decide) rfl rfl dX5_answerOf_34 ?_
    refine g_iload_n rfl dX5_answerOf_37 ?_
    refine g_iald (n := 10) (by decide) rfl rfl (zI_in (by omega) (by omega) (by decide)) dX5_answerOf_38 ?_
    rw [zI_clamp (by omega) (by omega), show ((j : Nat) : Int).toNat = j from rfl]
    refine g_goto (tgt := 43) dX5_answerOf_39 (by decide) ?_
    refine g_iadd dX5_answerOf_43 ?_
    refine g_istore_n (L2 := [(0, _), (1, _), (2, _)]) (by decide) rfl dX5_answerOf_44 ?_
    refine g_iconst dX5_answerOf_45 ?_
    refine g_istore_n (L2 := [(0, _), (1, _), (2, _), (3, _)]) (by decide) rfl dX5_answerOf_46 ?_
    refine g_iconst dX5_answerOf_47 ?_
    refine g_istore (L2 := [(0, _), (1, _), (2, _), (3, _), (4, _)]) (by decide) rfl dX5_answerOf_48 ?_
    rw [eqz_mi (by decide) (by decide)] at c30
    rw [hly.1 c30, ← mi_z M (3 + j) 2, zI_add]
    exact loop (mi M 22 7).toNat 0 (by omega) _ 1 (by omega) (by omega) (by decide) (by decide) (fun _ => ⟨by rw [polS, Int.add_zero]; exact cg_r _, by rw [Int.pow_zero]; exact cg_r _⟩) (fun _ => rfl)
theorem ev_X5_bothOf {M : Mem} (hw : WX M) (hI : InvQ M) {j : Nat} (h1 : 1 ≤ j) (hj : j < 10) {set : Int} (hs1 : 0 ≤ set) (hs2 : set < 2147483648) : EvF yX5_bothOf cX5_bothOf 5 (some .int) 1 [.ref 31, .int (zI j), .int (zI set)] M (some (.int (zI (tosX M j set)))) M := by
  refine EvF.of (by decide +kernel) (Nat.le_of_ble_eq_true rfl) (fun Q hQ => ?_)
  obtain ⟨hm1, hm2, -, hm⟩ := hw.m
  have hdg : M 31 1 = zI (xm M) := hI.dg.trans hm
  have h8 := p2_8 hm1 hm2
  have hz := p2_z (xm M)
  have hcb := hw.hcb h1 hj
  have hst := hw.st j h1 hj
  have hly := hI.ly j h1 hj
  have hkd := hI.kd j h1 hj
  have hxl : ∀ n, n ≤ 8 → xorN (fun i => (mi M (hc M j) i).toNat) (fun i => decide (set / 2 ^ i % 2 = 1)) n < 128 := fun n hn => xorN_lt _ n (fun i hi => by have := hcb i (by omega); omega)
  have loop : ∀ (d q : Nat), d + q = 2 ^ xm M → G yX5_bothOf.cls cX5_bothOf 5 (some .int) (gE 1 Q) 5 [(0, .ref 31), (1, .int (zI j)), (2, .int (zI set)), (3, .int (zI (xorN (fun i => (mi M (hc M j) i).toNat) (fun i => decide (set / 2 ^ i % 2 = 1)) q))), (4, .int (zI q))] [] M := by
    intro d
    induction d with
    | zero =>
      intro q hq
      obtain rfl : q = 2 ^ xm M := by omega
      have hx := hxl (2 ^ xm M) (by omega)
      rw [tosX] at hQ
      refine g_iload rfl dX5_bothOf_5 ?_
      refine g_aload_n rfl dX5_bothOf_7 ?_
      refine gi_X5_57 (by decide) rfl (ev_X5_size hm1 hm2 hdg) rfl rfl ⟨Nat.le_of_ble_eq_true rfl, Nat.le_of_ble_eq_true rfl, Nat.le_of_ble_eq_true rfl, Nat.le_of_ble_eq_true rfl⟩ (Nat.le_of_ble_eq_true rfl) dX5_bothOf_8 (fun r8 M8 hq8 => ?_)
      obtain ⟨rfl, rfl⟩ := hq8
      refine g_icmp_ge (tgt := 44) dX5_bothOf_11 (by decide) (fun c11 => ?_) (fun c11 => ?_)
      · refine g_aload_n rfl dX5_bothOf_44 ?_
        refine gf_X5_17 (by decide) rfl rfl dX5_bothOf_45 ?_
        refine g_iload_n rfl dX5_bothOf_48 ?_
        refine g_iald (n := 10) (by decide) rfl rfl (zI_in (by omega) (by omega) (by decide)) dX5_bothOf_49 ?_
        rw [zI_clamp (by omega) (by omega), show ((j : Nat) : Int).toNat = j from rfl, hkd]
        refine g_iconst dX5_bothOf_50 ?_
        refine g_icmp_ne (tgt := 69) dX5_bothOf_51 (by decide) (fun c51 => ?_) (fun c51 => ?_)
        · refine g_iload_n rfl dX5_bothOf_69 ?_
          refine g_ireturn rfl dX5_bothOf_70 ?_
          rw [eqz_mi (by decide) (by decide)] at c51
          rw [(eqz_mi (by decide) (by decide)).mp (hly.2 c51), Int.add_zero, Int.emod_eq_of_lt (by omega) (by omega)] at hQ
          exact hQ
        · refine g_iload_n rfl dX5_bothOf_54 ?_
          refine g_aload_n rfl dX5_bothOf_55 ?_
          refine gf_X5_20 (by decide) rfl rfl dX5_bothOf_56 ?_
          refine g_iload_n rfl dX5_bothOf_59 ?_
          refine g_iald (n := 10) (by decide) rfl rfl (zI_in (by omega) (by omega) (by decide)) dX5_bothOf_60 ?_
          rw [zI_clamp (by omega) (by omega), show ((j : Nat) : Int).toNat = j from rfl]
          refine g_iadd dX5_bothOf_61 ?_
          refine g_sipush (by decide) dX5_bothOf_62 ?_
          refine g_irem (by decide) dX5_bothOf_65 ?_
          refine g_goto (tgt := 70) dX5_bothOf_66 (by decide) ?_
          refine g_ireturn rfl dX5_bothOf_70 ?_
          rw [eqz_mi (by decide) (by decide)] at c51
          rw [hly.1 c51, ← mi_z M (3 + j) 2, zI_add, zI_remN (by omega) (by omega) (by decide) (by decide)]
          exact hQ
      · exact n_lt_of c11 (by omega) (by omega) (by omega) (by omega) (by omega)
    | succ d ih =>
      intro q hq
      have hx := hxl q (by omega)
      have hcq := hcb q (by omega)
      have ih := ih (q + 1) (by omega)
      have h4 : 0 ≤ set / 2 ^ q := Int.ediv_nonneg hs1 (by exact Int.le_of_lt (Int.pow_pos (by decide)))
      have h5 : set / 2 ^ q ≤ set := Int.ediv_le_self _ hs1
      refine g_iload rfl dX5_bothOf_5 ?_
      refine g_aload_n rfl dX5_bothOf_7 ?_
      refine gi_X5_57 (by decide) rfl (ev_X5_size hm1 hm2 hdg) rfl rfl ⟨Nat.le_of_ble_eq_true rfl, Nat.le_of_ble_eq_true rfl, Nat.le_of_ble_eq_true rfl, Nat.le_of_ble_eq_true rfl⟩ (Nat.le_of_ble_eq_true rfl) dX5_bothOf_8 (fun r8 M8 hq8 => ?_)
      obtain ⟨rfl, rfl⟩ := hq8
      refine g_icmp_ge (tgt := 44) dX5_bothOf_11 (by decide) (fun c11 => ?_) (fun c11 => ?_)
      · exact n_le_of c11 (by omega) (by omega) (by omega) (by omega) (by omega)
      · refine g_iload_n rfl dX5_bothOf_14 ?_
        refine g_iload_n rfl dX5_bothOf_15 ?_
        refine g_iload rfl dX5_bothOf_16 ?_
        refine g_ishr dX5_bothOf_18 ?_
        refine g_iconst dX5_bothOf_19 ?_
        refine g_iand dX5_bothOf_20 ?_
        rw [zI_shr hs1 hs2 (by omega), zI_and1 h4 (by omega)]
        refine g_iconst dX5_bothOf_21 ?_
        refine g_icmp_ne (tgt := 35) dX5_bothOf_22 (by decide) (fun c22 => ?_) (fun c22 => ?_)
        · refine g_iconst dX5_bothOf_35 ?_
          refine g_ixor dX5_bothOf_36 ?_
          refine g_istore_n (L2 := [(0, _), (1, _), (2, _), (3, _), (4, _)]) (by decide) rfl dX5_bothOf_37 ?_
          refine g_iinc (L2 := [(0, _), (1, _), (2, _), (3, _), (4, _)]) rfl (by decide) rfl dX5_bothOf_38 ?_
          refine g_goto (tgt := 5) dX5_bothOf_41 (by decide) ?_
          rw [zI_eqz (by omega) (by omega) (by decide) (by decide)] at c22
          rw [xorN, if_neg (by simp [c22])] at ih
          rw [show zI 0 = zI ((0 : Nat) : Int) from rfl, zI_xor (by omega) (by omega), Nat.xor_zero, zI_add]
          exact ih
        · refine g_aload_n rfl dX5_bothOf_25 ?_
          refine g_iload_n rfl dX5_bothOf_26 ?_
          refine g_iload rfl dX5_bothOf_27 ?_
          refine gi_X5_63 (by decide) rfl (ev_X5_copyOf (j := j) (i := q) hI h1 hj (by omega)) rfl rfl ⟨Nat.le_of_ble_eq_true rfl, Nat.le_of_ble_eq_true rfl, Nat.le_of_ble_eq_true rfl, Nat.le_of_ble_eq_true rfl⟩ (Nat.le_of_ble_eq_true rfl) dX5_bothOf_29 (fun r29 M29 hq29 => ?_)
          obtain ⟨rfl, rfl⟩ := hq29
          refine g_goto (tgt := 36) dX5_bothOf_32 (by decide) ?_
          refine g_ixor dX5_bothOf_36 ?_
          refine g_istore_n (L2 := [(0, _), (1, _), (2, _), (3, _), (4, _)]) (by decide) rfl dX5_bothOf_37 ?_
          refine g_iinc (L2 := [(0, _), (1, _), (2, _), (3, _), (4, _)]) rfl (by decide) rfl dX5_bothOf_38 ?_
          refine g_goto (tgt := 5) dX5_bothOf_41 (by decide) ?_
          rw [zI_eqz (by omega) (by omega) (by decide) (by decide)] at c22
          rw [xorN, if_pos (by simp [c22])] at ih
          rw [← mi_z M (hc M j) q, show mi M (hc M j) q = ((mi M (hc M j) q).toNat : Nat) by omega, zI_xor (by omega) (by omega), zI_add]
          exact ih
  refine g_iconst dX5_bothOf_0 ?_
  refine g_istore_n (L2 := [(0, _), (1, _), (2, _), (3, _)]) (by decide) rfl dX5_bothOf_1 ?_
  refine g_iconst dX5_bothOf_2 ?_
  refine g_istore (L2 := [(0, _), (1, _), (2, _), (3, _), (4, _)]) (by decide) rfl dX5_bothOf_3 ?_
  exact loop (2 ^ xm M) 0 (by omega)
/-- the reference's row (39, 40, and how many) holds l -/
def RowM (M : Mem) (l : List (Nat × Int)) : Prop := M 31 16 = zI l.length ∧ ∀ (p : Nat) (x : Nat × Int), l[p]? = some x → M 39 p = zI x.1 ∧ M 40 p = zI x.2
theorem RowM.add {M : Mem} {l : List (Nat × Int)} (h : RowM M l) (j : Nat) (v : Int) : RowM (mset (mset (mset M 39 l.length (zI j)) 40 l.length (zI v)) 31 16 (zI ((l.length + 1 : Nat) : Int))) (l ++ [(j, v)]) := by
  refine ⟨?_, fun p x hx => ?_⟩
  · rw [mset_same, List.length_append]
    rfl
  · have e6 : (mset (mset (mset M 39 l.length (zI j)) 40 l.length (zI v)) 31 16 (zI ((l.length + 1 : Nat) : Int))) 39 = upd (M 39) l.length (zI j) := by
      rw [mset_other _ _ _ (by decide), mset_other _ _ _ (by decide), mset_row]
    have e7 : (mset (mset (mset M 39 l.length (zI j)) 40 l.length (zI v)) 31 16 (zI ((l.length + 1 : Nat) : Int))) 40 = upd (M 40) l.length (zI v) := by
      rw [mset_other _ _ _ (by decide), mset_row, mset_other _ _ _ (by decide)]
    rw [e6, e7]
    unfold upd
    rcases Nat.lt_trichotomy p l.length with hp | hp | hp
    · rw [List.getElem?_append_left hp] at hx
      rw [if_neg (by omega), if_neg (by omega)]
      exact h.2 p x hx
    · subst hp
      rw [List.getElem?_append_right (Nat.le_refl _), Nat.sub_self] at hx
      cases hx
      rw [if_pos rfl, if_pos rfl]
      exact ⟨rfl, rfl⟩
    · rw [List.getElem?_eq_none (by rw [List.length_append]; simp; omega)] at hx
      cases hx
theorem ev_X5_hear {M : Mem} (hw : WX M) (hI : InvQ M) (ha : mi M 22 2 = 1) {s : Nat} (h2 : s < 10) : Ev yX5_hear cX5_hear 3 none 3 [.ref 31, .int (zI s)] M (fun r M1 => none = r ∧ SamM M M1 ∧ RowM M1 (rowX M s)) := by
  refine Ev.of (by decide +kernel) (Nat.le_of_ble_eq_true rfl) (fun Q hQ => ?_)
  have loop : ∀ (d j : Nat), d + j = s → ∀ M1 : Mem, SamM M M1 → RowM M1 (rowX M j) → G yX5_hear.cls cX5_hear 3 none (gE 3 Q) 7 [(0, .ref 31), (1, .int (zI s)), (2, .int (zI ((j + 1 : Nat) : Int)))] [] M1 := by
    intro d
    induction d with
    | zero =>
      intro j hj M1 hs hr
      refine g_iload_n rfl dX5_hear_7 ?_
      refine g_iload_n rfl dX5_hear_8 ?_
      refine g_icmp_gt (tgt := 62) dX5_hear_9 (by decide) (fun c9 => ?_) (fun c9 => ?_)
      · refine g_return rfl dX5_hear_62 ?_
        obtain rfl : j = s := by omega
        exact hQ _ _ ⟨rfl, hs, hr⟩
      · simp (disch := omega) only [i_lt, zI_toInt] at c9
        omega
    | succ d ih =>
      intro j hj M1 hs hr
      have hlen : (rowX M j).length ≤ j := by rw [rowX_len]; exact cnt_le _ _
      have hI1 := hI.sam hs
      have hkd := hI1.kd (j + 1) (by omega) (by omega)
      have h0 := hr.1
      have hs2 : SamM M (mset M1 39 (rowX M j).length (zI ((j + 1 : Nat) : Int))) := hs.ms _ (by omega)
      have hw2 := hw.sax hs2.sax
      have hI2 := hI.sam hs2
      have ha2 : mi (mset M1 39 (rowX M j).length (zI ((j + 1 : Nat) : Int))) 22 2 = 1 := by rw [hs2.sax.m (by decide) (by decide)]; exact ha
      have ean := ansX_sax hs2.sax (j := j + 1) (by omega)
      have emk : mi M1 (3 + (j + 1)) 1 = mi M (3 + (j + 1)) 1 := hs.sax.m (by omega) (by omega) 1
      have hrx : rowX M (j + 1) = rowX M j ++ (if tells M (j + 1) = true then [(j + 1, ansX M (j + 1))] else []) := rfl
      refine g_iload_n rfl dX5_hear_7 ?_
      refine g_iload_n rfl dX5_hear_8 ?_
      refine g_icmp_gt (tgt := 62) dX5_hear_9 (by decide) (fun c9 => ?_) (fun c9 => ?_)
      · simp (disch := omega) only [i_lt, zI_toInt] at c9
        omega
      · refine g_aload_n rfl dX5_hear_12 ?_
        refine gf_X5_17 (by decide) rfl rfl dX5_hear_13 ?_
        refine g_iload_n rfl dX5_hear_16 ?_
        refine g_iald (n := 10) (by decide) rfl rfl (zI_in (by omega) (by omega) (by decide)) dX5_hear_17 ?_
        rw [zI_clamp (by omega) (by omega), show ((j + 1 : Nat) : Int).toNat = j + 1 from rfl, hkd]
        refine g_iconst dX5_hear_18 ?_
        refine g_icmp_eq (tgt := 56) dX5_hear_19 (by decide) (fun c19 => ?_) (fun c19 => ?_)
        · refine g_iinc (L2 := [(0, _), (1, _), (2, _)]) rfl (by decide) rfl dX5_hear_56 ?_
          refine g_goto (tgt := 7) dX5_hear_59 (by decide) ?_
          rw [eqz_mi (by decide) (by decide), emk] at c19
          rw [zI_add]
          refine ih (j + 1) (by omega) M1 hs ?_
          rw [hrx, if_neg (by simp [tells, c19]), List.append_nil]
          exact hr
        · refine g_aload_n rfl dX5_hear_22 ?_
          refine gf_X5_36 (by decide) rfl rfl dX5_hear_23 ?_
          refine g_aload_n rfl dX5_hear_26 ?_
          refine gf_X5_131 (by decide) rfl dX5_hear_27 ?_
          rw [h0]
          refine g_iload_n rfl dX5_hear_30 ?_
          refine g_iast (n := 9) (by decide) rfl rfl (zI_in (by omega) (by omega) (by decide)) dX5_hear_31 ?_
          rw [zI_clamp (by omega) (by omega), show (((rowX M j).length : Nat) : Int).toNat = (rowX M j).length from rfl]
          refine g_aload_n rfl dX5_hear_32 ?_
          refine gf_X5_39 (by decide) rfl rfl dX5_hear_33 ?_
          refine g_aload_n rfl dX5_hear_36 ?_
          refine gf_X5_131 (by decide) rfl dX5_hear_37 ?_
          rw [mset_other _ _ _ (by decide), h0]
          refine g_aload_n rfl dX5_hear_40 ?_
          refine g_iload_n rfl dX5_hear_41 ?_
          refine gi_X5_126 (by decide) rfl (ev_X5_answerOf hw2 hI2 ha2 (j := j + 1) (by omega) (by omega)) rfl rfl ⟨Nat.le_of_ble_eq_true rfl, Nat.le_of_ble_eq_true rfl, Nat.le_of_ble_eq_true rfl, Nat.le_of_ble_eq_true rfl⟩ (Nat.le_of_ble_eq_true rfl) dX5_hear_42 (fun r42 M42 hq42 => ?_)
          obtain ⟨rfl, rfl⟩ := hq42
          rw [ean]
          refine g_iast (n := 9) (by decide) rfl rfl (zI_in (by omega) (by omega) (by decide)) dX5_hear_45 ?_
          rw [zI_clamp (by omega) (by omega), show (((rowX M j).length : Nat) : Int).toNat = (rowX M j).length from rfl]
          refine g_aload_n rfl dX5_hear_46 ?_
          refine g_dup rfl dX5_hear_47 ?_
          refine gf_X5_131 (by decide) rfl dX5_hear_48 ?_
          rw [mset_other _ _ _ (by decide), mset_other _ _ _ (by decide), h0]
          refine g_iconst dX5_hear_51 ?_
          refine g_iadd dX5_hear_52 ?_
          rw [zI_add]
          refine gp_X5_131 (by decide) rfl dX5_hear_53 ?_
          refine g_iinc (L2 := [(0, _), (1, _), (2, _)]) rfl (by decide) rfl dX5_hear_56 ?_
          refine g_goto (tgt := 7) dX5_hear_59 (by decide) ?_
          rw [eqz_mi (by decide) (by decide), emk] at c19
          rw [zI_add]
          refine ih (j + 1) (by omega) _ ((hs2.ms _ (by omega)).ms _ (by omega)) ?_
          rw [hrx, if_pos (by simp [tells, c19])]
          exact hr.add (j + 1) (ansX M (j + 1))
  refine g_aload_n rfl dX5_hear_0 ?_
  refine g_iconst dX5_hear_1 ?_
  refine gp_X5_131 (by decide) rfl dX5_hear_2 ?_
  refine g_iconst dX5_hear_5 ?_
  refine g_istore_n (L2 := [(0, _), (1, _), (2, _)]) (by decide) rfl dX5_hear_6 ?_
  exact loop s 0 (by omega) _ ((SamM.r M).ms _ (by omega)) ⟨mset_same _ _ _ _, fun p x hx => by cases hx⟩
