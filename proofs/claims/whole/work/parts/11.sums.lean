/-! class SilentAsking: sums at a point, lots -/
theorem p2_8 {m : Nat} (h1 : 1 ≤ m) (h2 : m ≤ 3) : 2 ≤ 2 ^ m ∧ 2 ^ m ≤ 8 := by rcases (by omega : m = 1 ∨ m = 2 ∨ m = 3) with rfl | rfl | rfl <;> decide
theorem p2_z (m : Nat) : (2 : Int) ^ m = ((2 ^ m : Nat) : Int) := by simp
set_option maxHeartbeats 4000000 in
theorem ev_X4_sumAtPlace {M : Mem} {m k : Nat} (h1 : 1 ≤ m) (h2 : m ≤ 3) (hm : M 0 6 = zI m) (hk : k < 42) (hs : shK k = 6) (hN : shN k = 8) (hc : ∀ i, i < 8 → 0 ≤ mi M k i ∧ mi M k i < 97) (hx : ∀ q, q < m → 0 ≤ mi M 2 q ∧ mi M 2 q < 97) :
    EvF yX4_sumAtPlace cX4_sumAtPlace 7 (some .int) 1 [.ref 0, .ref k] M (some (.int (zI (sumW (mi M k) (mi M 2) m (2 ^ m) % 97)))) M := by
  refine EvF.of (by decide +kernel) (Nat.le_of_ble_eq_true rfl) (fun Q hQ => ?_)
  have h8 := p2_8 h1 h2
  have hz := p2_z m
  have inner : ∀ (d q : Nat), d + q = m → ∀ (i : Nat) (w pt : Int), i < 2 ^ m → 0 ≤ pt → pt < 97 → cgr pt (mi M k i * prodW (mi M 2) i q) →
      (∀ pt' : Int, 0 ≤ pt' → pt' < 97 → cgr pt' (mi M k i * prodW (mi M 2) i m) → G yX4_sumAtPlace.cls cX4_sumAtPlace 7 (some .int) (gE 1 Q) 77 [(0, .ref 0), (1, .ref k), (2, .int (zI w)), (3, .int (zI i)), (4, .int (zI pt'))] [] M) →
      G yX4_sumAtPlace.cls cX4_sumAtPlace 7 (some .int) (gE 1 Q) 20 [(0, .ref 0), (1, .ref k), (2, .int (zI w)), (3, .int (zI i)), (4, .int (zI pt)), (5, .int (zI q))] [] M := by
    intro d
    induction d with
    | zero =>
      intro q hq i w pt hi hp1 hp2 hp K
      refine g_iload rfl dX4_sumAtPlace_20 ?_
      refine g_aload_n rfl dX4_sumAtPlace_22 ?_
      refine gf_X4_43 (by decide) rfl dX4_sumAtPlace_23 ?_
      refine g_icmp_ge (tgt := 77) dX4_sumAtPlace_26 (by decide) (fun c26 => ?_) (fun c26 => ?_)
      · refine g_locp [0, 1, 2, 3, 4] rfl ?_
        obtain rfl : q = m := by omega
        exact K pt hp1 hp2 hp
      · rw [hm] at c26
        exact n_lt_of c26 (by omega) (by omega) (by omega) (by omega) (by omega)
    | succ d ih =>
      intro q hq i w pt hi hp1 hp2 hp K
      have hxq := hx q (by omega)
      refine g_iload rfl dX4_sumAtPlace_20 ?_
      refine g_aload_n rfl dX4_sumAtPlace_22 ?_
      refine gf_X4_43 (by decide) rfl dX4_sumAtPlace_23 ?_
      refine g_icmp_ge (tgt := 77) dX4_sumAtPlace_26 (by decide) (fun c26 => ?_) (fun c26 => ?_)
      · rw [hm] at c26
        exact n_le_of c26 (by omega) (by omega) (by omega) (by omega) (by omega)
      · refine g_iload_n rfl dX4_sumAtPlace_29 ?_
        refine g_iload rfl dX4_sumAtPlace_30 ?_
        refine gi_X4_156 (ev_X4_bit (a := i) (k := q) (by omega) (by omega) (by omega) M) rfl rfl ⟨Nat.le_of_ble_eq_true rfl, Nat.le_of_ble_eq_true rfl, Nat.le_of_ble_eq_true rfl, Nat.le_of_ble_eq_true rfl⟩ (Nat.le_of_ble_eq_true rfl) dX4_sumAtPlace_32 (fun r32 M32 hq32 => ?_)
        obtain ⟨rfl, rfl⟩ := hq32
        refine g_iconst dX4_sumAtPlace_35 ?_
        refine g_icmp_ne (tgt := 49) dX4_sumAtPlace_36 (by decide) (fun c36 => ?_) (fun c36 => ?_)
        · refine g_bipush (by decide) dX4_sumAtPlace_49 ?_
          refine g_aload_n rfl dX4_sumAtPlace_51 ?_
          refine gf_X4_13 (by decide) rfl rfl dX4_sumAtPlace_52 ?_
          refine g_iload rfl dX4_sumAtPlace_55 ?_
          refine g_iald (n := 3) (by decide) rfl rfl (zI_in (by omega) (by omega) (by decide)) dX4_sumAtPlace_57 ?_
          rw [ld_m M 2 (by omega)]
          refine g_isub dX4_sumAtPlace_58 ?_
          refine g_istore (L2 := [(0, _), (1, _), (2, _), (3, _), (4, _), (5, _), (6, _)]) (by decide) rfl dX4_sumAtPlace_59 ?_
          refine g_iload rfl dX4_sumAtPlace_61 ?_
          refine g_iload rfl dX4_sumAtPlace_63 ?_
          refine g_imul dX4_sumAtPlace_65 ?_
          refine g_bipush (by decide) dX4_sumAtPlace_66 ?_
          refine g_irem (by decide) dX4_sumAtPlace_68 ?_
          refine g_istore (L2 := [(0, _), (1, _), (2, _), (3, _), (4, _), (5, _), (6, _)]) (by decide) rfl dX4_sumAtPlace_69 ?_
          refine g_iinc (L2 := [(0, _), (1, _), (2, _), (3, _), (4, _), (5, _), (6, _)]) rfl (by decide) rfl dX4_sumAtPlace_71 ?_
          refine g_goto (tgt := 20) dX4_sumAtPlace_74 (by decide) ?_
          refine g_locp [0, 1, 2, 3, 4, 5] rfl ?_
          have hb := mul_bd hp1 hp2 (show 0 ≤ 98 - mi M 2 q by omega) (by omega)
          have hb2 := md_bd (pt * (98 - mi M 2 q))
          rw [zI_sub, zI_mul, zI_remN hb.1 (by omega) (by decide) (by decide), zI_add]
          refine ih (q + 1) (by omega) i w _ hi hb2.1 hb2.2 ?_ K
          rw [zI_eqz (by omega) (by omega) (by omega) (by omega)] at c36
          rw [prodW, if_neg c36, ← Int.mul_assoc]
          exact cg_t (cg_m _) (cg_x hp (by unfold cgr; omega))
        · refine g_aload_n rfl dX4_sumAtPlace_39 ?_
          refine gf_X4_13 (by decide) rfl rfl dX4_sumAtPlace_40 ?_
          refine g_iload rfl dX4_sumAtPlace_43 ?_
          refine g_iald (n := 3) (by decide) rfl rfl (zI_in (by omega) (by omega) (by decide)) dX4_sumAtPlace_45 ?_
          rw [ld_m M 2 (by omega)]
          refine g_goto (tgt := 59) dX4_sumAtPlace_46 (by decide) ?_
          refine g_istore (L2 := [(0, _), (1, _), (2, _), (3, _), (4, _), (5, _), (6, _)]) (by decide) rfl dX4_sumAtPlace_59 ?_
          refine g_iload rfl dX4_sumAtPlace_61 ?_
          refine g_iload rfl dX4_sumAtPlace_63 ?_
          refine g_imul dX4_sumAtPlace_65 ?_
          refine g_bipush (by decide) dX4_sumAtPlace_66 ?_
          refine g_irem (by decide) dX4_sumAtPlace_68 ?_
          refine g_istore (L2 := [(0, _), (1, _), (2, _), (3, _), (4, _), (5, _), (6, _)]) (by decide) rfl dX4_sumAtPlace_69 ?_
          refine g_iinc (L2 := [(0, _), (1, _), (2, _), (3, _), (4, _), (5, _), (6, _)]) rfl (by decide) rfl dX4_sumAtPlace_71 ?_
          refine g_goto (tgt := 20) dX4_sumAtPlace_74 (by decide) ?_
          refine g_locp [0, 1, 2, 3, 4, 5] rfl ?_
          have hb := mul_bd hp1 hp2 hxq.1 (by omega)
          have hb2 := md_bd (pt * mi M 2 q)
          rw [zI_mul, zI_remN hb.1 (by omega) (by decide) (by decide), zI_add]
          refine ih (q + 1) (by omega) i w _ hi hb2.1 hb2.2 ?_ K
          rw [zI_eqz (by omega) (by omega) (by omega) (by omega)] at c36
          rw [prodW, if_pos c36, ← Int.mul_assoc]
          exact cg_t (cg_m _) (cg_x hp (cg_r _))
  have outer : ∀ (d i : Nat), d + i = 2 ^ m → ∀ (w : Int), 0 ≤ w → w ≤ 97 * i → cgr w (sumW (mi M k) (mi M 2) m i) →
      G yX4_sumAtPlace.cls cX4_sumAtPlace 7 (some .int) (gE 1 Q) 4 [(0, .ref 0), (1, .ref k), (2, .int (zI w)), (3, .int (zI i))] [] M := by
    intro d
    induction d with
    | zero =>
      intro i hi w hw1 hw2 hw
      refine g_iload_n rfl dX4_sumAtPlace_4 ?_
      refine g_aload_n rfl dX4_sumAtPlace_5 ?_
      refine gi_X4_60 (by decide) rfl (ev_X4_count h1 h2 hm) rfl rfl ⟨Nat.le_of_ble_eq_true rfl, Nat.le_of_ble_eq_true rfl, Nat.le_of_ble_eq_true rfl, Nat.le_of_ble_eq_true rfl⟩ (Nat.le_of_ble_eq_true rfl) dX4_sumAtPlace_6 (fun r6 M6 hq6 => ?_)
      obtain ⟨rfl, rfl⟩ := hq6
      refine g_icmp_ge (tgt := 88) dX4_sumAtPlace_9 (by decide) (fun c9 => ?_) (fun c9 => ?_)
      · refine g_iload_n rfl dX4_sumAtPlace_88 ?_
        refine g_bipush (by decide) dX4_sumAtPlace_89 ?_
        refine g_irem (by decide) dX4_sumAtPlace_91 ?_
        refine g_ireturn rfl dX4_sumAtPlace_92 ?_
        rw [zI_remN hw1 (by omega) (by decide) (by decide), cg_e hw]
        obtain rfl : i = 2 ^ m := by omega
        exact hQ
      · exact n_lt_of c9 (by omega) (by omega) (by omega) (by omega) (by omega)
    | succ d ih =>
      intro i hi w hw1 hw2 hw
      have hci := hc i (by omega)
      refine g_iload_n rfl dX4_sumAtPlace_4 ?_
      refine g_aload_n rfl dX4_sumAtPlace_5 ?_
      refine gi_X4_60 (by decide) rfl (ev_X4_count h1 h2 hm) rfl rfl ⟨Nat.le_of_ble_eq_true rfl, Nat.le_of_ble_eq_true rfl, Nat.le_of_ble_eq_true rfl, Nat.le_of_ble_eq_true rfl⟩ (Nat.le_of_ble_eq_true rfl) dX4_sumAtPlace_6 (fun r6 M6 hq6 => ?_)
      obtain ⟨rfl, rfl⟩ := hq6
      refine g_icmp_ge (tgt := 88) dX4_sumAtPlace_9 (by decide) (fun c9 => ?_) (fun c9 => ?_)
      · refine g_iload_n rfl dX4_sumAtPlace_88 ?_
        refine g_bipush (by decide) dX4_sumAtPlace_89 ?_
        refine g_irem (by decide) dX4_sumAtPlace_91 ?_
        refine g_ireturn rfl dX4_sumAtPlace_92 ?_
        exact n_le_of c9 (by omega) (by omega) (by omega) (by omega) (by omega)
      · refine g_aload_n rfl dX4_sumAtPlace_12 ?_
        refine g_iload_n rfl dX4_sumAtPlace_13 ?_
        refine g_iald (n := 8)  hk hs hN (zI_in (by omega) (by omega) (by decide)) dX4_sumAtPlace_14 ?_
        refine g_istore (L2 := [(0, _), (1, _), (2, _), (3, _), (4, _)]) (by decide) rfl dX4_sumAtPlace_15 ?_
        refine g_iconst dX4_sumAtPlace_17 ?_
        refine g_istore (L2 := [(0, _), (1, _), (2, _), (3, _), (4, _), (5, _)]) (by decide) rfl dX4_sumAtPlace_18 ?_
        rw [ld_m M k (by omega)]
        refine inner m 0 (by omega) i w _ (by omega) hci.1 hci.2 (by rw [prodW, Int.mul_one]; exact cg_r _) (fun pt' hp1 hp2 hp => ?_)
        refine g_iload_n rfl dX4_sumAtPlace_77 ?_
        refine g_iload rfl dX4_sumAtPlace_78 ?_
        refine g_iadd dX4_sumAtPlace_80 ?_
        refine g_istore_n (L2 := [(0, _), (1, _), (2, _), (3, _), (4, _)]) (by decide) rfl dX4_sumAtPlace_81 ?_
        refine g_iinc (L2 := [(0, _), (1, _), (2, _), (3, _), (4, _)]) rfl (by decide) rfl dX4_sumAtPlace_82 ?_
        refine g_goto (tgt := 4) dX4_sumAtPlace_85 (by decide) ?_
        refine g_locp [0, 1, 2, 3] rfl ?_
        rw [zI_add, zI_add]
        refine ih (i + 1) (by omega) _ (by omega) (by omega) ?_
        rw [sumW]
        exact cg_a hw hp
  refine g_iconst dX4_sumAtPlace_0 ?_
  refine g_istore_n (L2 := [(0, _), (1, _), (2, _)]) (by decide) rfl dX4_sumAtPlace_1 ?_
  refine g_iconst dX4_sumAtPlace_2 ?_
  refine g_istore_n (L2 := [(0, _), (1, _), (2, _), (3, _)]) (by decide) rfl dX4_sumAtPlace_3 ?_
  exact outer (2 ^ m) 0 (by omega) 0 (by omega) (by omega) (cg_r _)
