/-! the reference: its calls that change -/
theorem ev_X5_put {M : Mem} (hw : WX (thM M)) (hm : (thM M) 31 1 = zI (xm (thM M))) (i v : Int32) : EvF yX5_put cX5_put 4 (some .int) 2 [.ref 31, .int i, .int v] M (some (.int (if okR (thM M) i then (if okN v then (thM M) 32 i.toInt.toNat else zI (-2)) else zI (-1)))) (if okR (thM M) i ∧ okN v then mset (thM M) 32 i.toInt.toNat v else thM M) := by
  refine EvF.of (by decide +kernel) (Nat.le_of_ble_eq_true rfl) (fun Q hQ => ?_)
  generalize hM0 : thM M = M0 at hw hm hQ
  refine g_aload_n rfl dX5_put_0 ?_
  refine g_iconst dX5_put_1 ?_
  refine gp_X5_45 (by decide) rfl dX5_put_2 ?_
  refine g_mem hM0 ?_
  refine g_aload_n rfl dX5_put_5 ?_
  refine g_iload_n rfl dX5_put_6 ?_
  refine gi_X5_93 (by decide) rfl (ev_X5_isRecord hw hm i) rfl rfl ⟨Nat.le_of_ble_eq_true rfl, Nat.le_of_ble_eq_true rfl, Nat.le_of_ble_eq_true rfl, Nat.le_of_ble_eq_true rfl⟩ (Nat.le_of_ble_eq_true rfl) dX5_put_7 (fun r7 M7 hq7 => ?_)
  obtain ⟨rfl, rfl⟩ := hq7
  refine g_if_ne (tgt := 15) dX5_put_10 (by decide) (fun c10 => ?_) (fun c10 => ?_)
  · refine g_iload_n rfl dX5_put_15 ?_
    refine gi_X5_97 (ev_X5_isNumber v M0) rfl rfl ⟨Nat.le_of_ble_eq_true rfl, Nat.le_of_ble_eq_true rfl, Nat.le_of_ble_eq_true rfl, Nat.le_of_ble_eq_true rfl⟩ (Nat.le_of_ble_eq_true rfl) dX5_put_16 (fun r16 M16 hq16 => ?_)
    obtain ⟨rfl, rfl⟩ := hq16
    refine g_if_ne (tgt := 25) dX5_put_19 (by decide) (fun c19 => ?_) (fun c19 => ?_)
    · rw [bI_dn] at c10 c19
      rw [if_pos c10, if_pos c19, if_pos ⟨c10, c19⟩] at hQ
      obtain ⟨n, hn1, hn2, rfl⟩ := okR_n hw c10
      rw [tnN (by omega)] at hQ
      refine g_aload_n rfl dX5_put_25 ?_
      refine gf_X5_13 (by decide) rfl rfl dX5_put_26 ?_
      refine g_iload_n rfl dX5_put_29 ?_
      refine g_iald (n := 8) (by decide) rfl rfl (zI_in (by omega) (by omega) (by decide)) dX5_put_30 ?_
      rw [zI_clamp (by omega) (by omega), show ((n : Nat) : Int).toNat = n from rfl]
      refine g_istore_n (L2 := [(0, _), (1, _), (2, _), (3, _)]) (by decide) rfl dX5_put_31 ?_
      refine g_aload_n rfl dX5_put_32 ?_
      refine gf_X5_13 (by decide) rfl rfl dX5_put_33 ?_
      refine g_iload_n rfl dX5_put_36 ?_
      refine g_iload_n rfl dX5_put_37 ?_
      refine g_iast (n := 8) (by decide) rfl rfl (zI_in (by omega) (by omega) (by decide)) dX5_put_38 ?_
      rw [zI_clamp (by omega) (by omega), show ((n : Nat) : Int).toNat = n from rfl]
      refine g_iload_n rfl dX5_put_39 ?_
      refine g_ireturn rfl dX5_put_40 ?_
      exact hQ
    · refine g_bipush (by decide) dX5_put_22 ?_
      refine g_ireturn rfl dX5_put_24 ?_
      rw [bI_dn] at c10
      rw [bI_d0] at c19
      rw [if_pos c10, if_neg c19, if_neg (fun q => c19 q.2)] at hQ
      exact hQ
  · refine g_iconst dX5_put_13 ?_
    refine g_ireturn rfl dX5_put_14 ?_
    rw [bI_d0] at c10
    rw [if_neg c10, if_neg (fun q => c10 q.1)] at hQ
    exact hQ
def stM (M : Mem) (j : Nat) (k d : Int32) (q : Nat) : Mem := fun a b => if a = 33 ∧ b = j then k else if a = 34 ∧ b = j then d else if a = 35 ∧ 8 * j ≤ b ∧ b < 8 * j + q then M 32 (b - 8 * j) else M a b
theorem stM_0 (M : Mem) (j : Nat) (k d : Int32) : mset (mset M 33 j k) 34 j d = stM M j k d 0 := by
  funext a b
  unfold mset stM
  by_cases h1 : a = 33
  · subst h1
    by_cases hb : b = j
    · rw [if_neg (by decide), if_pos rfl, if_pos hb, if_pos ⟨rfl, hb⟩]
    · rw [if_neg (by decide), if_pos rfl, if_neg hb, if_neg (fun q => hb q.2), if_neg (by omega), if_neg (by omega)]
  · by_cases h2 : a = 34
    · subst h2
      by_cases hb : b = j
      · rw [if_pos rfl, if_pos hb, if_neg (by omega), if_pos ⟨rfl, hb⟩]
      · rw [if_pos rfl, if_neg hb, if_neg (by decide), if_neg (by omega), if_neg (fun q => hb q.2), if_neg (by omega)]
    · rw [if_neg h2, if_neg h1, if_neg (fun q => h1 q.1), if_neg (fun q => h2 q.1), if_neg (by omega)]
theorem stM_s (M : Mem) (j : Nat) (k d : Int32) (q : Nat) : mset (stM M j k d q) 35 (8 * j + q) (M 32 q) = stM M j k d (q + 1) := by
  funext a b
  unfold mset stM
  by_cases h1 : a = 35
  · subst h1
    by_cases hb : b = 8 * j + q
    · rw [if_pos rfl, if_pos hb, if_neg (by omega), if_neg (by omega), if_pos (by omega), hb, Nat.add_sub_cancel_left]
    · have n3 : ¬ ((35 : Nat) = 33 ∧ b = j) := by omega
      have n4 : ¬ ((35 : Nat) = 34 ∧ b = j) := by omega
      rw [if_pos rfl, if_neg hb]
      simp only [if_neg n3, if_neg n4]
      by_cases hc : 8 * j ≤ b ∧ b < 8 * j + q
      · rw [if_pos ⟨trivial, hc⟩, if_pos ⟨trivial, by omega⟩]
      · rw [if_neg (fun z => hc z.2), if_neg (by omega)]
  · rw [if_neg h1, if_neg (fun (z : a = 35 ∧ 8 * j ≤ b ∧ b < 8 * j + q) => h1 z.1), if_neg (fun (z : a = 35 ∧ 8 * j ≤ b ∧ b < 8 * j + (q + 1)) => h1 z.1)]
theorem ev_X5_store {M : Mem} (j kd d : Int32) : EvF yX5_store cX5_store 6 (some .int) 2 [.ref 31, .int j, .int kd, .int d] M (some (.int (if okS j then (if okK kd d then (thM M) 33 j.toInt.toNat else zI (-2)) else zI (-1)))) (if okS j ∧ okK kd d then stM (thM M) j.toInt.toNat kd d 8 else thM M) := by
  refine EvF.of (by decide +kernel) (Nat.le_of_ble_eq_true rfl) (fun Q hQ => ?_)
  generalize hM0 : thM M = M0 at hQ
  have b1 := i_bd kd
  have b2 := i_bd d
  refine g_aload_n rfl dX5_store_0 ?_
  refine g_iconst dX5_store_1 ?_
  refine gp_X5_45 (by decide) rfl dX5_store_2 ?_
  refine g_mem hM0 ?_
  refine g_iload_n rfl dX5_store_5 ?_
  refine gi_X5_100 (ev_X5_isStore j M0) rfl rfl ⟨Nat.le_of_ble_eq_true rfl, Nat.le_of_ble_eq_true rfl, Nat.le_of_ble_eq_true rfl, Nat.le_of_ble_eq_true rfl⟩ (Nat.le_of_ble_eq_true rfl) dX5_store_6 (fun r6 M6 hq6 => ?_)
  obtain ⟨rfl, rfl⟩ := hq6
  refine g_if_ne (tgt := 14) dX5_store_9 (by decide) (fun c9 => ?_) (fun c9 => ?_)
  · refine g_iload_n rfl dX5_store_14 ?_
    refine g_i2l dX5_store_15 ?_
    rw [i32l]
    refine g_lconst (v := zL 0) (by decide) dX5_store_16 ?_
    refine g_ldc2 gz_X5_88 dX5_store_17 ?_
    refine gi_X5_53 (ev_X5_in (v := kd.toInt) (lo := 0) (hi := 3) (by omega) (by omega) (by decide) (by decide) (by decide) (by decide) M0) rfl rfl ⟨Nat.le_of_ble_eq_true rfl, Nat.le_of_ble_eq_true rfl, Nat.le_of_ble_eq_true rfl, Nat.le_of_ble_eq_true rfl⟩ (Nat.le_of_ble_eq_true rfl) dX5_store_20 (fun r20 M20 hq20 => ?_)
    obtain ⟨rfl, rfl⟩ := hq20
    refine g_if_eq (tgt := 43) dX5_store_23 (by decide) (fun c23 => ?_) (fun c23 => ?_)
    · rw [bI_dn] at c9
      have ck : ¬ okK kd d := by
        first
        | (rw [bI_d0] at c23
           exact fun q => c23 q.1)
        | (rw [bI_d0] at c40
           exact fun q => c40 (by have := q.2 c28; omega))
      rw [if_pos c9, if_neg ck, if_neg (fun q => ck q.2)] at hQ
      refine g_bipush (by decide) dX5_store_43 ?_
      refine g_ireturn rfl dX5_store_45 ?_
      exact hQ
    · refine g_iload_n rfl dX5_store_26 ?_
      refine g_iconst dX5_store_27 ?_
      refine g_icmp_ne (tgt := 46) dX5_store_28 (by decide) (fun c28 => ?_) (fun c28 => ?_)
      · rw [bI_dn] at c9 c23
        have ck : okK kd d := by
          first
          | exact ⟨c23, fun q => absurd q c28⟩
          | (rw [bI_dn] at c40
             exact ⟨c23, fun _ => by omega⟩)
        rw [if_pos c9, if_pos ck, if_pos ⟨c9, ck⟩] at hQ
        obtain ⟨n, hn1, hn2, rfl⟩ := okS_n c9
        rw [tnN (by omega)] at hQ
        have loop : ∀ (w q : Nat), w + q = 8 → G yX5_store.cls cX5_store 6 (some .int) (gE 2 Q) 71 [(0, .ref 31), (1, .int (zI n)), (2, .int kd), (3, .int d), (4, .int (M0 33 n)), (5, .int (zI q))] [] (stM M0 n kd d q) := by
          intro w
          induction w with
          | zero =>
            intro q hq
            obtain rfl : q = 8 := by omega
            refine g_iload rfl dX5_store_71 ?_
            refine g_bipush (by decide) dX5_store_73 ?_
            refine g_icmp_ge (tgt := 103) dX5_store_75 (by decide) (fun c75 => ?_) (fun c75 => ?_)
            · refine g_iload rfl dX5_store_103 ?_
              refine g_ireturn rfl dX5_store_105 ?_
              exact hQ
            · simp (disch := omega) only [i_le, zI_toInt] at c75
              omega
          | succ w ih =>
            intro q hq
            have ih := ih (q + 1) (by omega)
            rw [← stM_s] at ih
            have e32 : stM M0 n kd d q 32 q = M0 32 q := by
              unfold stM
              rw [if_neg (by omega), if_neg (by omega), if_neg (by omega)]
            refine g_iload rfl dX5_store_71 ?_
            refine g_bipush (by decide) dX5_store_73 ?_
            refine g_icmp_ge (tgt := 103) dX5_store_75 (by decide) (fun c75 => ?_) (fun c75 => ?_)
            · simp (disch := omega) only [i_le, zI_toInt] at c75
              omega
            · refine g_aload_n rfl dX5_store_78 ?_
              refine gf_X5_23 (by decide) rfl rfl dX5_store_79 ?_
              refine g_bipush (by decide) dX5_store_82 ?_
              refine g_iload_n rfl dX5_store_84 ?_
              refine g_imul dX5_store_85 ?_
              refine g_iload rfl dX5_store_86 ?_
              refine g_iadd dX5_store_88 ?_
              rw [zI_mul, zI_add, show (8 : Int) * (n : Nat) + (q : Nat) = ((8 * n + q : Nat) : Int) by omega]
              refine g_aload_n rfl dX5_store_89 ?_
              refine gf_X5_13 (by decide) rfl rfl dX5_store_90 ?_
              refine g_iload rfl dX5_store_93 ?_
              refine g_iald (n := 8) (by decide) rfl rfl (zI_in (by omega) (by omega) (by decide)) dX5_store_95 ?_
              rw [zI_clamp (by omega) (by omega), show ((q : Nat) : Int).toNat = q from rfl, e32]
              refine g_iast (n := 80) (by decide) rfl rfl (zI_in (by omega) (by omega) (by decide)) dX5_store_96 ?_
              rw [zI_clamp (by omega) (by omega), show ((8 * n + q : Nat) : Int).toNat = 8 * n + q from rfl]
              refine g_iinc (L2 := [(0, _), (1, _), (2, _), (3, _), (4, _), (5, _)]) rfl (by decide) rfl dX5_store_97 ?_
              refine g_goto (tgt := 71) dX5_store_100 (by decide) ?_
              rw [zI_add]
              exact ih
        refine g_aload_n rfl dX5_store_46 ?_
        refine gf_X5_17 (by decide) rfl rfl dX5_store_47 ?_
        refine g_iload_n rfl dX5_store_50 ?_
        refine g_iald (n := 10) (by decide) rfl rfl (zI_in (by omega) (by omega) (by decide)) dX5_store_51 ?_
        rw [zI_clamp (by omega) (by omega), show ((n : Nat) : Int).toNat = n from rfl]
        refine g_istore (L2 := [(0, _), (1, _), (2, _), (3, _), (4, _)]) (by decide) rfl dX5_store_52 ?_
        refine g_aload_n rfl dX5_store_54 ?_
        refine gf_X5_17 (by decide) rfl rfl dX5_store_55 ?_
        refine g_iload_n rfl dX5_store_58 ?_
        refine g_iload_n rfl dX5_store_59 ?_
        refine g_iast (n := 10) (by decide) rfl rfl (zI_in (by omega) (by omega) (by decide)) dX5_store_60 ?_
        rw [zI_clamp (by omega) (by omega), show ((n : Nat) : Int).toNat = n from rfl]
        refine g_aload_n rfl dX5_store_61 ?_
        refine gf_X5_20 (by decide) rfl rfl dX5_store_62 ?_
        refine g_iload_n rfl dX5_store_65 ?_
        refine g_iload_n rfl dX5_store_66 ?_
        refine g_iast (n := 10) (by decide) rfl rfl (zI_in (by omega) (by omega) (by decide)) dX5_store_67 ?_
        rw [zI_clamp (by omega) (by omega), show ((n : Nat) : Int).toNat = n from rfl]
        refine g_iconst dX5_store_68 ?_
        refine g_istore (L2 := [(0, _), (1, _), (2, _), (3, _), (4, _), (5, _)]) (by decide) rfl dX5_store_69 ?_
        rw [stM_0]
        exact loop 8 0 (by omega)
      · refine g_iload_n rfl dX5_store_31 ?_
        refine g_i2l dX5_store_32 ?_
        rw [i32l]
        refine g_lconst (v := zL 1) (by decide) dX5_store_33 ?_
        refine g_ldc2 gz_X5_61 dX5_store_34 ?_
        refine gi_X5_53 (ev_X5_in (v := d.toInt) (lo := 1) (hi := 96) (by omega) (by omega) (by decide) (by decide) (by decide) (by decide) M0) rfl rfl ⟨Nat.le_of_ble_eq_true rfl, Nat.le_of_ble_eq_true rfl, Nat.le_of_ble_eq_true rfl, Nat.le_of_ble_eq_true rfl⟩ (Nat.le_of_ble_eq_true rfl) dX5_store_37 (fun r37 M37 hq37 => ?_)
        obtain ⟨rfl, rfl⟩ := hq37
        refine g_if_ne (tgt := 46) dX5_store_40 (by decide) (fun c40 => ?_) (fun c40 => ?_)
        · rw [bI_dn] at c9 c23
          have ck : okK kd d := by
            first
            | exact ⟨c23, fun q => absurd q c28⟩
            | (rw [bI_dn] at c40
               exact ⟨c23, fun _ => by omega⟩)
          rw [if_pos c9, if_pos ck, if_pos ⟨c9, ck⟩] at hQ
          obtain ⟨n, hn1, hn2, rfl⟩ := okS_n c9
          rw [tnN (by omega)] at hQ
          have loop : ∀ (w q : Nat), w + q = 8 → G yX5_store.cls cX5_store 6 (some .int) (gE 2 Q) 71 [(0, .ref 31), (1, .int (zI n)), (2, .int kd), (3, .int d), (4, .int (M0 33 n)), (5, .int (zI q))] [] (stM M0 n kd d q) := by
            intro w
            induction w with
            | zero =>
              intro q hq
              obtain rfl : q = 8 := by omega
              refine g_iload rfl dX5_store_71 ?_
              refine g_bipush (by decide) dX5_store_73 ?_
              refine g_icmp_ge (tgt := 103) dX5_store_75 (by decide) (fun c75 => ?_) (fun c75 => ?_)
              · refine g_iload rfl dX5_store_103 ?_
                refine g_ireturn rfl dX5_store_105 ?_
                exact hQ
              · simp (disch := omega) only [i_le, zI_toInt] at c75
                omega
            | succ w ih =>
              intro q hq
              have ih := ih (q + 1) (by omega)
              rw [← stM_s] at ih
              have e32 : stM M0 n kd d q 32 q = M0 32 q := by
                unfold stM
                rw [if_neg (by omega), if_neg (by omega), if_neg (by omega)]
              refine g_iload rfl dX5_store_71 ?_
              refine g_bipush (by decide) dX5_store_73 ?_
              refine g_icmp_ge (tgt := 103) dX5_store_75 (by decide) (fun c75 => ?_) (fun c75 => ?_)
              · simp (disch := omega) only [i_le, zI_toInt] at c75
                omega
              · refine g_aload_n rfl dX5_store_78 ?_
                refine gf_X5_23 (by decide) rfl rfl dX5_store_79 ?_
                refine g_bipush (by decide) dX5_store_82 ?_
                refine g_iload_n rfl dX5_store_84 ?_
                refine g_imul dX5_store_85 ?_
                refine g_iload rfl dX5_store_86 ?_
                refine g_iadd dX5_store_88 ?_
                rw [zI_mul, zI_add, show (8 : Int) * (n : Nat) + (q : Nat) = ((8 * n + q : Nat) : Int) by omega]
                refine g_aload_n rfl dX5_store_89 ?_
                refine gf_X5_13 (by decide) rfl rfl dX5_store_90 ?_
                refine g_iload rfl dX5_store_93 ?_
                refine g_iald (n := 8) (by decide) rfl rfl (zI_in (by omega) (by omega) (by decide)) dX5_store_95 ?_
                rw [zI_clamp (by omega) (by omega), show ((q : Nat) : Int).toNat = q from rfl, e32]
                refine g_iast (n := 80) (by decide) rfl rfl (zI_in (by omega) (by omega) (by decide)) dX5_store_96 ?_
                rw [zI_clamp (by omega) (by omega), show ((8 * n + q : Nat) : Int).toNat = 8 * n + q from rfl]
                refine g_iinc (L2 := [(0, _), (1, _), (2, _), (3, _), (4, _), (5, _)]) rfl (by decide) rfl dX5_store_97 ?_
                refine g_goto (tgt := 71) dX5_store_100 (by decide) ?_
                rw [zI_add]
                exact ih
          refine g_aload_n rfl dX5_store_46 ?_
          refine gf_X5_17 (by decide) rfl rfl dX5_store_47 ?_
          refine g_iload_n rfl dX5_store_50 ?_
          refine g_iald (n := 10) (by decide) rfl rfl (zI_in (by omega) (by omega) (by decide)) dX5_store_51 ?_
          rw [zI_clamp (by omega) (by omega), show ((n : Nat) : Int).toNat = n from rfl]
          refine g_istore (L2 := [(0, _), (1, _), (2, _), (3, _), (4, _)]) (by decide) rfl dX5_store_52 ?_
          refine g_aload_n rfl dX5_store_54 ?_
          refine gf_X5_17 (by decide) rfl rfl dX5_store_55 ?_
          refine g_iload_n rfl dX5_store_58 ?_
          refine g_iload_n rfl dX5_store_59 ?_
          refine g_iast (n := 10) (by decide) rfl rfl (zI_in (by omega) (by omega) (by decide)) dX5_store_60 ?_
          rw [zI_clamp (by omega) (by omega), show ((n : Nat) : Int).toNat = n from rfl]
          refine g_aload_n rfl dX5_store_61 ?_
          refine gf_X5_20 (by decide) rfl rfl dX5_store_62 ?_
          refine g_iload_n rfl dX5_store_65 ?_
          refine g_iload_n rfl dX5_store_66 ?_
          refine g_iast (n := 10) (by decide) rfl rfl (zI_in (by omega) (by omega) (by decide)) dX5_store_67 ?_
          rw [zI_clamp (by omega) (by omega), show ((n : Nat) : Int).toNat = n from rfl]
          refine g_iconst dX5_store_68 ?_
          refine g_istore (L2 := [(0, _), (1, _), (2, _), (3, _), (4, _), (5, _)]) (by decide) rfl dX5_store_69 ?_
          rw [stM_0]
          exact loop 8 0 (by omega)
        · rw [bI_dn] at c9
          have ck : ¬ okK kd d := by
            first
            | (rw [bI_d0] at c23
               exact fun q => c23 q.1)
            | (rw [bI_d0] at c40
               exact fun q => c40 (by have := q.2 c28; omega))
          rw [if_pos c9, if_neg ck, if_neg (fun q => ck q.2)] at hQ
          refine g_bipush (by decide) dX5_store_43 ?_
          refine g_ireturn rfl dX5_store_45 ?_
          exact hQ
  · refine g_iconst dX5_store_12 ?_
    refine g_ireturn rfl dX5_store_13 ?_
    rw [bI_d0] at c9
    rw [if_neg c9, if_neg (fun q => c9 q.1)] at hQ
    exact hQ
theorem ev_X5_records {M : Mem} {m0 : Nat} (h1 : 1 ≤ m0) (h2 : m0 ≤ 3) (hm : (thM M) 31 1 = zI m0) (m : Int32) : EvF yX5_records cX5_records 4 (some .int) 2 [.ref 31, .int m] M (some (.int (if 1 ≤ m.toInt ∧ m.toInt ≤ 3 then zI (2 ^ m0) else zI (-2)))) (if 1 ≤ m.toInt ∧ m.toInt ≤ 3 then mset (mset (mfill (mfill (mset (thM M) 31 1 m) 32 8 (fun _ => zI 0)) 33 10 (fun _ => zI 0)) 31 6 (zI 0)) 31 10 (zI 0) else thM M) := by
  refine EvF.of (by decide +kernel) (Nat.le_of_ble_eq_true rfl) (fun Q hQ => ?_)
  generalize hM0 : thM M = M0 at hm hQ
  have b1 := i_bd m
  have loop2 : ∀ (d q : Nat), d + q = 10 → Q (some (.int (zI (2 ^ m0)))) (mset (mset (mfill (mfill (mset M0 31 1 m) 32 8 (fun _ => zI 0)) 33 10 (fun _ => zI 0)) 31 6 (zI 0)) 31 10 (zI 0)) → G yX5_records.cls cX5_records 4 (some .int) (gE 2 Q) 53 [(0, .ref 31), (1, .int m), (2, .int (zI (2 ^ m0))), (3, .int (zI q))] [] (mfill (mfill (mset M0 31 1 m) 32 8 (fun _ => zI 0)) 33 q (fun _ => zI 0)) := by
    intro d
    induction d with
    | zero =>
      intro q hq hQ
      obtain rfl : q = 10 := by omega
      refine g_iload_n rfl dX5_records_53 ?_
      refine g_bipush (by decide) dX5_records_54 ?_
      refine g_icmp_ge (tgt := 72) dX5_records_56 (by decide) (fun c56 => ?_) (fun c56 => ?_)
      · refine g_aload_n rfl dX5_records_72 ?_
        refine g_iconst dX5_records_73 ?_
        refine gp_X5_90 (by decide) rfl rfl rfl dX5_records_74 ?_
        refine g_aload_n rfl dX5_records_77 ?_
        refine g_iconst dX5_records_78 ?_
        refine gp_X5_84 (by decide) rfl rfl rfl dX5_records_79 ?_
        refine g_iload_n rfl dX5_records_82 ?_
        refine g_ireturn rfl dX5_records_83 ?_
        exact hQ
      · simp (disch := omega) only [i_le, zI_toInt] at c56
        omega
    | succ d ih =>
      intro q hq hQ
      have ih := ih (q + 1) (by omega) hQ
      rw [← mfill_s] at ih
      refine g_iload_n rfl dX5_records_53 ?_
      refine g_bipush (by decide) dX5_records_54 ?_
      refine g_icmp_ge (tgt := 72) dX5_records_56 (by decide) (fun c56 => ?_) (fun c56 => ?_)
      · simp (disch := omega) only [i_le, zI_toInt] at c56
        omega
      · refine g_aload_n rfl dX5_records_59 ?_
        refine gf_X5_17 (by decide) rfl rfl dX5_records_60 ?_
        refine g_iload_n rfl dX5_records_63 ?_
        refine g_iconst dX5_records_64 ?_
        refine g_iast (n := 10) (by decide) rfl rfl (zI_in (by omega) (by omega) (by decide)) dX5_records_65 ?_
        rw [zI_clamp (by omega) (by omega), show ((q : Nat) : Int).toNat = q from rfl]
        refine g_iinc (L2 := [(0, _), (1, _), (2, _), (3, _)]) rfl (by decide) rfl dX5_records_66 ?_
        refine g_goto (tgt := 53) dX5_records_69 (by decide) ?_
        rw [zI_add]
        exact ih
  have loop1 : ∀ (d q : Nat), d + q = 8 → Q (some (.int (zI (2 ^ m0)))) (mset (mset (mfill (mfill (mset M0 31 1 m) 32 8 (fun _ => zI 0)) 33 10 (fun _ => zI 0)) 31 6 (zI 0)) 31 10 (zI 0)) → G yX5_records.cls cX5_records 4 (some .int) (gE 2 Q) 32 [(0, .ref 31), (1, .int m), (2, .int (zI (2 ^ m0))), (3, .int (zI q))] [] (mfill (mset M0 31 1 m) 32 q (fun _ => zI 0)) := by
    intro d
    induction d with
    | zero =>
      intro q hq hQ
      obtain rfl : q = 8 := by omega
      refine g_iload_n rfl dX5_records_32 ?_
      refine g_bipush (by decide) dX5_records_33 ?_
      refine g_icmp_ge (tgt := 51) dX5_records_35 (by decide) (fun c35 => ?_) (fun c35 => ?_)
      · refine g_iconst dX5_records_51 ?_
        refine g_istore_n (L2 := [(0, _), (1, _), (2, _), (3, _)]) (by decide) rfl dX5_records_52 ?_
        have e := loop2 10 0 (by omega) hQ
        rw [mfill_0] at e
        exact e
      · simp (disch := omega) only [i_le, zI_toInt] at c35
        omega
    | succ d ih =>
      intro q hq hQ
      have ih := ih (q + 1) (by omega) hQ
      rw [← mfill_s] at ih
      refine g_iload_n rfl dX5_records_32 ?_
      refine g_bipush (by decide) dX5_records_33 ?_
      refine g_icmp_ge (tgt := 51) dX5_records_35 (by decide) (fun c35 => ?_) (fun c35 => ?_)
      · simp (disch := omega) only [i_le, zI_toInt] at c35
        omega
      · refine g_aload_n rfl dX5_records_38 ?_
        refine gf_X5_13 (by decide) rfl rfl dX5_records_39 ?_
        refine g_iload_n rfl dX5_records_42 ?_
        refine g_iconst dX5_records_43 ?_
        refine g_iast (n := 8) (by decide) rfl rfl (zI_in (by omega) (by omega) (by decide)) dX5_records_44 ?_
        rw [zI_clamp (by omega) (by omega), show ((q : Nat) : Int).toNat = q from rfl]
        refine g_iinc (L2 := [(0, _), (1, _), (2, _), (3, _)]) rfl (by decide) rfl dX5_records_45 ?_
        refine g_goto (tgt := 32) dX5_records_48 (by decide) ?_
        rw [zI_add]
        exact ih
  refine g_aload_n rfl dX5_records_0 ?_
  refine g_iconst dX5_records_1 ?_
  refine gp_X5_45 (by decide) rfl dX5_records_2 ?_
  refine g_mem hM0 ?_
  refine g_iload_n rfl dX5_records_5 ?_
  refine g_i2l dX5_records_6 ?_
  rw [i32l]
  refine g_lconst (v := zL 1) (by decide) dX5_records_7 ?_
  refine g_ldc2 gz_X5_88 dX5_records_8 ?_
  refine gi_X5_53 (ev_X5_in (v := m.toInt) (lo := 1) (hi := 3) (by omega) (by omega) (by decide) (by decide) (by decide) (by decide) M0) rfl rfl ⟨Nat.le_of_ble_eq_true rfl, Nat.le_of_ble_eq_true rfl, Nat.le_of_ble_eq_true rfl, Nat.le_of_ble_eq_true rfl⟩ (Nat.le_of_ble_eq_true rfl) dX5_records_11 (fun r11 M11 hq11 => ?_)
  obtain ⟨rfl, rfl⟩ := hq11
  refine g_if_ne (tgt := 20) dX5_records_14 (by decide) (fun c14 => ?_) (fun c14 => ?_)
  · refine g_aload_n rfl dX5_records_20 ?_
    refine gi_X5_57 (by decide) rfl (ev_X5_size h1 h2 hm) rfl rfl ⟨Nat.le_of_ble_eq_true rfl, Nat.le_of_ble_eq_true rfl, Nat.le_of_ble_eq_true rfl, Nat.le_of_ble_eq_true rfl⟩ (Nat.le_of_ble_eq_true rfl) dX5_records_21 (fun r21 M21 hq21 => ?_)
    obtain ⟨rfl, rfl⟩ := hq21
    refine g_istore_n (L2 := [(0, _), (1, _), (2, _)]) (by decide) rfl dX5_records_24 ?_
    refine g_aload_n rfl dX5_records_25 ?_
    refine g_iload_n rfl dX5_records_26 ?_
    refine gp_X5_7 (by decide) rfl dX5_records_27 ?_
    refine g_iconst dX5_records_30 ?_
    refine g_istore_n (L2 := [(0, _), (1, _), (2, _), (3, _)]) (by decide) rfl dX5_records_31 ?_
    rw [bI_dn] at c14
    rw [if_pos c14, if_pos c14] at hQ
    have e := loop1 8 0 (by omega) hQ
    rw [mfill_0] at e
    exact e
  · refine g_bipush (by decide) dX5_records_17 ?_
    refine g_ireturn rfl dX5_records_19 ?_
    rw [bI_d0] at c14
    rw [if_neg c14, if_neg c14] at hQ
    exact hQ
