/-! class SilentAsking: sets of records, kinds of stores, questions, ways -/
theorem zI_xor {a b : Nat} (h : a < 2147483648) (h2 : b < 2147483648) : zI (a : Int) ^^^ zI (b : Int) = zI ((a ^^^ b : Nat) : Int) := by
  rw [zI_nI, zI_nI, zI_nI]
  apply Int32.toBitVec_inj.mp
  apply BitVec.eq_of_toNat_eq
  have hx : a ^^^ b < 2 ^ 31 := Nat.xor_lt_two_pow (by omega) (by omega)
  show ((nI a).toBitVec ^^^ (nI b).toBitVec).toNat = _
  rw [BitVec.toNat_xor, pk_tn (by omega), pk_tn (by omega), pk_tn (by omega)]
/-- the exclusive or of those of the first n that b picks -/
def xorN (cp : Nat → Nat) (b : Nat → Bool) : Nat → Nat
  | 0 => 0
  | i + 1 => if b i = true then xorN cp b i ^^^ cp i else xorN cp b i
theorem xorN_lt {cp : Nat → Nat} (b : Nat → Bool) : ∀ n, (∀ i, i < n → cp i < 128) → xorN cp b n < 128
  | 0, _ => by show 0 < 128; decide
  | n + 1, h => by
    have h1 := xorN_lt b n (fun i hi => h i (by omega))
    unfold xorN
    split
    · exact Nat.xor_lt_two_pow (n := 7) h1 (h n (by omega))
    · exact h1
theorem xorN_ext {c d : Nat → Nat} (b : Nat → Bool) : ∀ n, (∀ i, i < n → c i = d i) → xorN c b n = xorN d b n
  | 0, _ => rfl
  | n + 1, h => by rw [xorN, xorN, xorN_ext b n (fun i hi => h i (by omega)), h n (by omega)]
def tosX (M : Mem) (j : Nat) (set : Int) : Int := ((xorN (fun i => (mi M (hc M j) i).toNat) (fun i => decide (set / 2 ^ i % 2 = 1)) (2 ^ xm M) : Nat) + mi M (3 + j) 2) % 128
theorem ev_X4_toldOfSet {M : Mem} (hw : WX M) {j : Nat} (h1 : 1 ≤ j) (h2 : j < 10) {set : Int} (hs1 : 0 ≤ set) (hs2 : set < 2147483648) : EvF yX4_toldOfSet cX4_toldOfSet 6 (some .int) 1 [.ref 0, .ref (3 + j), .int (zI set)] M (some (.int (zI (tosX M j set)))) M := by
  refine EvF.of (by decide +kernel) (Nat.le_of_ble_eq_true rfl) (fun Q hQ => ?_)
  obtain ⟨hm1, hm2, -, hm⟩ := hw.m
  have hcb := hw.hcb h1 h2
  have h8 := p2_8 hm1 hm2
  have hz := p2_z (xm M)
  have hst := hw.st j h1 h2
  have hxl : ∀ n, n ≤ 8 → xorN (fun i => (mi M (hc M j) i).toNat) (fun i => decide (set / 2 ^ i % 2 = 1)) n < 128 := fun n hn => xorN_lt _ n (fun i hi => by have := hcb i (by omega); omega)
  have loop : ∀ (d q : Nat), d + q = 2 ^ xm M → G yX4_toldOfSet.cls cX4_toldOfSet 6 (some .int) (gE 1 Q) 15 [(0, .ref 0), (1, .ref (3 + j)), (2, .int (zI set)), (3, .ref (hc M j)), (4, .int (zI (xorN (fun i => (mi M (hc M j) i).toNat) (fun i => decide (set / 2 ^ i % 2 = 1)) q))), (5, .int (zI q))] [] M := by
    intro d
    induction d with
    | zero =>
      intro q hq
      obtain rfl : q = 2 ^ xm M := by omega
      have hx := hxl (2 ^ xm M) (by omega)
      refine g_iload rfl dX4_toldOfSet_15 ?_
      refine g_aload_n rfl dX4_toldOfSet_17 ?_
      refine gi_X4_60 (by decide) rfl (ev_X4_count hm1 hm2 hm) rfl rfl ⟨Nat.le_of_ble_eq_true rfl, Nat.le_of_ble_eq_true rfl, Nat.le_of_ble_eq_true rfl, Nat.le_of_ble_eq_true rfl⟩ (Nat.le_of_ble_eq_true rfl) dX4_toldOfSet_18 (fun r18 M18 hq18 => ?_)
      obtain ⟨rfl, rfl⟩ := hq18
      refine g_icmp_ge (tgt := 49) dX4_toldOfSet_21 (by decide) (fun c21 => ?_) (fun c21 => ?_)
      · refine g_iload rfl dX4_toldOfSet_49 ?_
        refine g_aload_n rfl dX4_toldOfSet_51 ?_
        refine gf_X4_95 (by omega) (shS j h2 h1) dX4_toldOfSet_52 ?_
        refine g_iadd dX4_toldOfSet_55 ?_
        refine g_sipush (by decide) dX4_toldOfSet_56 ?_
        refine g_irem (by decide) dX4_toldOfSet_59 ?_
        refine g_ireturn rfl dX4_toldOfSet_60 ?_
        rw [← mi_z M (3 + j) 2, zI_add, zI_remN (by omega) (by omega) (by decide) (by decide)]
        exact hQ
      · exact n_lt_of c21 (by omega) (by omega) (by omega) (by omega) (by omega)
    | succ d ih =>
      intro q hq
      have hx := hxl q (by omega)
      have hcq := hcb q (by omega)
      refine g_iload rfl dX4_toldOfSet_15 ?_
      refine g_aload_n rfl dX4_toldOfSet_17 ?_
      refine gi_X4_60 (by decide) rfl (ev_X4_count hm1 hm2 hm) rfl rfl ⟨Nat.le_of_ble_eq_true rfl, Nat.le_of_ble_eq_true rfl, Nat.le_of_ble_eq_true rfl, Nat.le_of_ble_eq_true rfl⟩ (Nat.le_of_ble_eq_true rfl) dX4_toldOfSet_18 (fun r18 M18 hq18 => ?_)
      obtain ⟨rfl, rfl⟩ := hq18
      refine g_icmp_ge (tgt := 49) dX4_toldOfSet_21 (by decide) (fun c21 => ?_) (fun c21 => ?_)
      · exact n_le_of c21 (by omega) (by omega) (by omega) (by omega) (by omega)
      · refine g_iload_n rfl dX4_toldOfSet_24 ?_
        refine g_iload rfl dX4_toldOfSet_25 ?_
        refine gi_X4_156 (ev_X4_bit (a := set) (k := q) hs1 hs2 (by omega) M) rfl rfl ⟨Nat.le_of_ble_eq_true rfl, Nat.le_of_ble_eq_true rfl, Nat.le_of_ble_eq_true rfl, Nat.le_of_ble_eq_true rfl⟩ (Nat.le_of_ble_eq_true rfl) dX4_toldOfSet_27 (fun r27 M27 hq27 => ?_)
        obtain ⟨rfl, rfl⟩ := hq27
        refine g_iconst dX4_toldOfSet_30 ?_
        refine g_icmp_ne (tgt := 43) dX4_toldOfSet_31 (by decide) (fun c31 => ?_) (fun c31 => ?_)
        · refine g_iinc (L2 := [(0, _), (1, _), (2, _), (3, _), (4, _), (5, _)]) rfl (by decide) rfl dX4_toldOfSet_43 ?_
          refine g_goto (tgt := 15) dX4_toldOfSet_46 (by decide) ?_
          rw [zI_eqz (by omega) (by omega) (by decide) (by decide)] at c31
          rw [zI_add]
          have ih := ih (q + 1) (by omega)
          rw [xorN, if_neg (by simp [c31])] at ih
          exact ih
        · refine g_iload rfl dX4_toldOfSet_34 ?_
          refine g_aload_n rfl dX4_toldOfSet_36 ?_
          refine g_iload rfl dX4_toldOfSet_37 ?_
          refine g_iald (n := 8)  (hc_lt M h2) (hc_sh M h2 h1) (hc_n M h2 h1) (zI_in (by omega) (by omega) (by decide)) dX4_toldOfSet_39 ?_
          refine g_ixor dX4_toldOfSet_40 ?_
          refine g_istore (L2 := [(0, _), (1, _), (2, _), (3, _), (4, _), (5, _)]) (by decide) rfl dX4_toldOfSet_41 ?_
          refine g_iinc (L2 := [(0, _), (1, _), (2, _), (3, _), (4, _), (5, _)]) rfl (by decide) rfl dX4_toldOfSet_43 ?_
          refine g_goto (tgt := 15) dX4_toldOfSet_46 (by decide) ?_
          rw [zI_eqz (by omega) (by omega) (by decide) (by decide)] at c31
          rw [zI_add, ld_m M (hc M j) (by omega), show mi M (hc M j) q = ((mi M (hc M j) q).toNat : Nat) by omega, zI_xor (by omega) (by omega)]
          have ih := ih (q + 1) (by omega)
          rw [xorN, if_pos (by simp [c31])] at ih
          exact ih
  refine g_aload_n rfl dX4_toldOfSet_0 ?_
  refine g_aload_n rfl dX4_toldOfSet_1 ?_
  refine gf_X4_9 (by decide) rfl rfl dX4_toldOfSet_2 ?_
  refine gi_X4_193 (by omega) (shS j h2 h1) (ev_X3_held h1 h2 M) rfl rfl ⟨Nat.le_of_ble_eq_true rfl, Nat.le_of_ble_eq_true rfl, Nat.le_of_ble_eq_true rfl, Nat.le_of_ble_eq_true rfl⟩ (Nat.le_of_ble_eq_true rfl) dX4_toldOfSet_5 (fun r5 M5 hq5 => ?_)
  obtain ⟨rfl, rfl⟩ := hq5
  refine g_astore_n (L2 := [(0, _), (1, _), (2, _), (3, _)]) (by decide) rfl dX4_toldOfSet_8 ?_
  refine g_iconst dX4_toldOfSet_9 ?_
  refine g_istore (L2 := [(0, _), (1, _), (2, _), (3, _), (4, _)]) (by decide) rfl dX4_toldOfSet_10 ?_
  refine g_iconst dX4_toldOfSet_12 ?_
  refine g_istore (L2 := [(0, _), (1, _), (2, _), (3, _), (4, _), (5, _)]) (by decide) rfl dX4_toldOfSet_13 ?_
  exact loop (2 ^ xm M) 0 (by omega)
/-- a store becomes of a kind -/
def becX (M : Mem) (j : Nat) (kd d : Int32) : Mem := if kd = zI 2 then mfill (mset (mset M (3 + j) 1 kd) (3 + j) 2 (zI 0)) (12 + j) 8 (M 1) else mset (mset M (3 + j) 1 kd) (3 + j) 2 (if kd = zI 1 then d else zI 0)
theorem ev_X3_become {j : Nat} (h1 : 1 ≤ j) (h2 : j < 10) (kd d : Int32) (M : Mem) : EvF yX3_become cX3_become 4 none 1 [.ref (3 + j), .int kd, .int d, .ref 1] M none (becX M j kd d) := by
  refine EvF.of (by decide +kernel) (Nat.le_of_ble_eq_true rfl) (fun Q hQ => ?_)
  refine g_aload_n rfl dX3_become_0 ?_
  refine g_iload_n rfl dX3_become_1 ?_
  refine gp_X3_15 (by omega) (shS j h2 h1) dX3_become_2 ?_
  refine g_aload_n rfl dX3_become_5 ?_
  refine g_iload_n rfl dX3_become_6 ?_
  refine g_iconst dX3_become_7 ?_
  refine g_icmp_ne (tgt := 15) dX3_become_8 (by decide) (fun c8 => ?_) (fun c8 => ?_)
  · refine g_iconst dX3_become_15 ?_
    refine gp_X3_19 (by omega) (shS j h2 h1) dX3_become_16 ?_
    refine g_iload_n rfl dX3_become_19 ?_
    refine g_iconst dX3_become_20 ?_
    refine g_icmp_ne (tgt := 36) dX3_become_21 (by decide) (fun c21 => ?_) (fun c21 => ?_)
    · refine g_return rfl dX3_become_36 ?_
      rw [becX, if_neg c21, if_neg c8] at hQ
      exact hQ
    · refine g_aload_n rfl dX3_become_24 ?_
      refine g_iconst dX3_become_25 ?_
      refine g_aload_n rfl dX3_become_26 ?_
      refine gf_X3_9 (by omega) (shS j h2 h1) (rfS j h2 h1) dX3_become_27 ?_
      refine g_iconst dX3_become_30 ?_
      refine g_bipush (by decide) dX3_become_31 ?_
      refine g_copy8 (k0 := 1) (k1 := 12 + j) (by decide) (by omega) rfl (shSK j h2 h1) rfl (shSN j h2 h1) dX3_become_33 ?_
      rw [mset_other _ _ _ (by omega), mset_other _ _ _ (by omega)]
      refine g_return rfl dX3_become_36 ?_
      rw [becX, if_pos c21] at hQ
      exact hQ
  · refine g_iload_n rfl dX3_become_11 ?_
    refine g_goto (tgt := 16) dX3_become_12 (by decide) ?_
    refine gp_X3_19 (by omega) (shS j h2 h1) dX3_become_16 ?_
    refine g_iload_n rfl dX3_become_19 ?_
    refine g_iconst dX3_become_20 ?_
    refine g_icmp_ne (tgt := 36) dX3_become_21 (by decide) (fun c21 => ?_) (fun c21 => ?_)
    · refine g_return rfl dX3_become_36 ?_
      rw [becX, if_neg c21, if_pos c8] at hQ
      exact hQ
    · refine g_aload_n rfl dX3_become_24 ?_
      refine g_iconst dX3_become_25 ?_
      refine g_aload_n rfl dX3_become_26 ?_
      refine gf_X3_9 (by omega) (shS j h2 h1) (rfS j h2 h1) dX3_become_27 ?_
      refine g_iconst dX3_become_30 ?_
      refine g_bipush (by decide) dX3_become_31 ?_
      refine g_copy8 (k0 := 1) (k1 := 12 + j) (by decide) (by omega) rfl (shSK j h2 h1) rfl (shSN j h2 h1) dX3_become_33 ?_
      rw [mset_other _ _ _ (by omega), mset_other _ _ _ (by omega)]
      refine g_return rfl dX3_become_36 ?_
      exact absurd (c8.symm.trans c21) (by decide)
/-- a question begins -/
def begX (M : Mem) (i t m s : Int) : Mem := mfill (mset (mset (mset (mset (mset (mset M 22 2 (zI 1)) 22 3 (zI 0)) 22 4 (zI i)) 22 5 (zI t)) 22 6 (zI m)) 22 7 (zI (m * t))) 23 (m * t).toNat (fun q => zI (lotS s q))
theorem ev_X1_begin {M : Mem} {i t m s : Int} (ht1 : 1 ≤ t) (ht2 : t ≤ 2) (hm1 : 1 ≤ m) (hm2 : m ≤ 3) (hs1 : 0 ≤ s) (hs2 : s < 2147483648) : EvF yX1_begin cX1_begin 5 none 1 [.ref 22, .int (zI i), .int (zI t), .int (zI m), .int (zI s)] M none (begX M i t m s) := by
  refine EvF.of (by decide +kernel) (Nat.le_of_ble_eq_true rfl) (fun Q hQ => ?_)
  have hmt : 1 ≤ m * t ∧ m * t ≤ 6 := by rcases (by omega : t = 1 ∨ t = 2) with rfl | rfl <;> omega
  have e : mi (mset (mset (mset (mset (mset (mset M 22 2 (zI 1)) 22 3 (zI 0)) 22 4 (zI i)) 22 5 (zI t)) 22 6 (zI m)) 22 7 (zI (m * t))) 22 7 = ((m * t).toNat : Int) := by
    unfold mi
    rw [mset_same, zI_toInt (by omega) (by omega)]
    omega
  refine g_aload_n rfl dX1_begin_0 ?_
  refine g_iconst dX1_begin_1 ?_
  refine gp_X1_18 (by decide) rfl rfl rfl dX1_begin_2 ?_
  refine g_aload_n rfl dX1_begin_5 ?_
  refine g_iconst dX1_begin_6 ?_
  refine gp_X1_22 (by decide) rfl rfl rfl dX1_begin_7 ?_
  refine g_aload_n rfl dX1_begin_10 ?_
  refine g_iload_n rfl dX1_begin_11 ?_
  refine gp_X1_25 (by decide) rfl dX1_begin_12 ?_
  refine g_aload_n rfl dX1_begin_15 ?_
  refine g_iload_n rfl dX1_begin_16 ?_
  refine gp_X1_29 (by decide) rfl dX1_begin_17 ?_
  refine g_aload_n rfl dX1_begin_20 ?_
  refine g_iload_n rfl dX1_begin_21 ?_
  refine gp_X1_32 (by decide) rfl dX1_begin_22 ?_
  refine g_aload_n rfl dX1_begin_25 ?_
  refine g_iload_n rfl dX1_begin_26 ?_
  refine g_iload_n rfl dX1_begin_27 ?_
  refine g_imul dX1_begin_28 ?_
  rw [zI_mul]
  refine gp_X1_35 (by decide) rfl dX1_begin_29 ?_
  refine g_aload_n rfl dX1_begin_32 ?_
  refine g_aload_n rfl dX1_begin_33 ?_
  refine gf_X1_9 (by decide) rfl rfl dX1_begin_34 ?_
  refine g_iload rfl dX1_begin_37 ?_
  refine gi_X1_38 (by decide) rfl (ev_X1_drawLots (k := 23) (g := (m * t).toNat) (s := s) (by decide) rfl rfl e (by omega) (by decide) hs1 hs2) rfl rfl ⟨Nat.le_of_ble_eq_true rfl, Nat.le_of_ble_eq_true rfl, Nat.le_of_ble_eq_true rfl, Nat.le_of_ble_eq_true rfl⟩ (Nat.le_of_ble_eq_true rfl) dX1_begin_39 (fun r39 M39 hq39 => ?_)
  obtain ⟨rfl, rfl⟩ := hq39
  refine g_return rfl dX1_begin_42 ?_
  exact hQ
def vebX (M : Mem) (s : Int) : Mem := if s = -9 then mset M 22 3 (zI 0) else mfill (mset M 22 3 (zI 1)) 24 (mi M 22 7).toNat (fun q => zI (lotS s q))
theorem ev_X1_veilBy {M : Mem} {s : Int} (hg : 1 ≤ mi M 22 7 ∧ mi M 22 7 ≤ 6) (hs : s = -9 ∨ 0 ≤ s) (hs2 : s < 2147483648) : EvF yX1_veilBy cX1_veilBy 2 none 1 [.ref 22, .int (zI s)] M none (vebX M s) := by
  refine EvF.of (by decide +kernel) (Nat.le_of_ble_eq_true rfl) (fun Q hQ => ?_)
  have e4 : zI s = zI (-9) ↔ s = -9 := zI_eqz (by omega) (by omega) (by decide) (by decide)
  have eg : mi (mset M 22 3 (zI 1)) 22 7 = ((mi M 22 7).toNat : Int) := by
    unfold mi
    rw [mset_ne _ _ (Or.inr (by decide))]
    show mi M 22 7 = ((mi M 22 7).toNat : Int)
    omega
  refine g_aload_n rfl dX1_veilBy_0 ?_
  refine g_iload_n rfl dX1_veilBy_1 ?_
  refine g_bipush (by decide) dX1_veilBy_2 ?_
  refine g_icmp_eq (tgt := 11) dX1_veilBy_4 (by decide) (fun c4 => ?_) (fun c4 => ?_)
  · refine g_iconst dX1_veilBy_11 ?_
    refine gp_X1_22 (by decide) rfl rfl rfl dX1_veilBy_12 ?_
    refine g_aload_n rfl dX1_veilBy_15 ?_
    refine gf_X1_22 (by decide) rfl dX1_veilBy_16 ?_
    rw [mset_same]
    refine g_if_eq (tgt := 31) dX1_veilBy_19 (by decide) (fun c19 => ?_) (fun c19 => ?_)
    · refine g_return rfl dX1_veilBy_31 ?_
      rw [e4] at c4
      rw [vebX, if_pos c4] at hQ
      exact hQ
    · exact absurd rfl c19
  · refine g_iconst dX1_veilBy_7 ?_
    refine g_goto (tgt := 12) dX1_veilBy_8 (by decide) ?_
    refine gp_X1_22 (by decide) rfl rfl rfl dX1_veilBy_12 ?_
    refine g_aload_n rfl dX1_veilBy_15 ?_
    refine gf_X1_22 (by decide) rfl dX1_veilBy_16 ?_
    rw [mset_same]
    refine g_if_eq (tgt := 31) dX1_veilBy_19 (by decide) (fun c19 => ?_) (fun c19 => ?_)
    · refine g_return rfl dX1_veilBy_31 ?_
      exact absurd c19 (by decide)
    · rw [e4] at c4
      rw [vebX, if_neg c4] at hQ
      have hs0 : 0 ≤ s := by omega
      refine g_aload_n rfl dX1_veilBy_22 ?_
      refine g_aload_n rfl dX1_veilBy_23 ?_
      refine gf_X1_15 (by decide) rfl rfl dX1_veilBy_24 ?_
      refine g_iload_n rfl dX1_veilBy_27 ?_
      refine gi_X1_38 (by decide) rfl (ev_X1_drawLots (k := 24) (g := (mi M 22 7).toNat) (s := s) (by decide) rfl rfl eg (by omega) (by decide) hs0 hs2) rfl rfl ⟨Nat.le_of_ble_eq_true rfl, Nat.le_of_ble_eq_true rfl, Nat.le_of_ble_eq_true rfl, Nat.le_of_ble_eq_true rfl⟩ (Nat.le_of_ble_eq_true rfl) dX1_veilBy_28 (fun r28 M28 hq28 => ?_)
      obtain ⟨rfl, rfl⟩ := hq28
      refine g_return rfl dX1_veilBy_31 ?_
      exact hQ
/-- how many of its ten bits are set -/
def popN (n : Nat) : Nat := cnt (fun j => decide (n / 2 ^ (j - 1) % 2 = 1)) 10
def bc1 (x : Int32) : Int32 := x - ((x.toUInt32 >>> ((zI 1).toUInt32 &&& Int32.toUInt32 31)).toInt32 &&& 1431655765)
def bc2 (x : Int32) : Int32 := (x &&& 858993459) + ((x.toUInt32 >>> ((zI 2).toUInt32 &&& Int32.toUInt32 31)).toInt32 &&& 858993459)
def bc3 (x : Int32) : Int32 := (x + (x.toUInt32 >>> ((zI 4).toUInt32 &&& Int32.toUInt32 31)).toInt32) &&& 252645135
def bc4 (x : Int32) : Int32 := x + (x.toUInt32 >>> ((zI 8).toUInt32 &&& Int32.toUInt32 31)).toInt32
def bc5 (x : Int32) : Int32 := x + (x.toUInt32 >>> ((zI 16).toUInt32 &&& Int32.toUInt32 31)).toInt32
set_option maxRecDepth 100000 in
theorem bc_all : ∀ n, n < 1024 → bc5 (bc4 (bc3 (bc2 (bc1 (zI (n : Nat)))))) &&& zI 63 = zI (popN n : Nat) := by decide +kernel
theorem ev_J6_bitCount {n : Nat} (h : n < 1024) (M : Mem) : EvF yJ6_bitCount_0f7a4 cJ6_bitCount_0f7a4 1 (some .int) 0 [.int (zI (n : Nat))] M (some (.int (zI (popN n : Nat)))) M := by
  refine EvF.of (by decide +kernel) (Nat.le_of_ble_eq_true rfl) (fun Q hQ => ?_)
  rw [← bc_all n h] at hQ
  refine g_iload_n rfl dJ6_bitCount_0f7a4_0 ?_
  refine g_iload_n rfl dJ6_bitCount_0f7a4_1 ?_
  refine g_iconst dJ6_bitCount_0f7a4_2 ?_
  refine g_iushr dJ6_bitCount_0f7a4_3 ?_
  refine g_ldcw gl_J6_265 dJ6_bitCount_0f7a4_4 ?_
  refine g_iand dJ6_bitCount_0f7a4_7 ?_
  refine g_isub dJ6_bitCount_0f7a4_8 ?_
  refine g_istore_n (L2 := [(0, _)]) (by decide) rfl dJ6_bitCount_0f7a4_9 ?_
  refine g_iload_n rfl dJ6_bitCount_0f7a4_10 ?_
  refine g_ldcw gl_J6_266 dJ6_bitCount_0f7a4_11 ?_
  refine g_iand dJ6_bitCount_0f7a4_14 ?_
  refine g_iload_n rfl dJ6_bitCount_0f7a4_15 ?_
  refine g_iconst dJ6_bitCount_0f7a4_16 ?_
  refine g_iushr dJ6_bitCount_0f7a4_17 ?_
  refine g_ldcw gl_J6_266 dJ6_bitCount_0f7a4_18 ?_
  refine g_iand dJ6_bitCount_0f7a4_21 ?_
  refine g_iadd dJ6_bitCount_0f7a4_22 ?_
  refine g_istore_n (L2 := [(0, _)]) (by decide) rfl dJ6_bitCount_0f7a4_23 ?_
  refine g_iload_n rfl dJ6_bitCount_0f7a4_24 ?_
  refine g_iload_n rfl dJ6_bitCount_0f7a4_25 ?_
  refine g_iconst dJ6_bitCount_0f7a4_26 ?_
  refine g_iushr dJ6_bitCount_0f7a4_27 ?_
  refine g_iadd dJ6_bitCount_0f7a4_28 ?_
  refine g_ldcw gl_J6_267 dJ6_bitCount_0f7a4_29 ?_
  refine g_iand dJ6_bitCount_0f7a4_32 ?_
  refine g_istore_n (L2 := [(0, _)]) (by decide) rfl dJ6_bitCount_0f7a4_33 ?_
  refine g_iload_n rfl dJ6_bitCount_0f7a4_34 ?_
  refine g_iload_n rfl dJ6_bitCount_0f7a4_35 ?_
  refine g_bipush (by decide) dJ6_bitCount_0f7a4_36 ?_
  refine g_iushr dJ6_bitCount_0f7a4_38 ?_
  refine g_iadd dJ6_bitCount_0f7a4_39 ?_
  refine g_istore_n (L2 := [(0, _)]) (by decide) rfl dJ6_bitCount_0f7a4_40 ?_
  refine g_iload_n rfl dJ6_bitCount_0f7a4_41 ?_
  refine g_iload_n rfl dJ6_bitCount_0f7a4_42 ?_
  refine g_bipush (by decide) dJ6_bitCount_0f7a4_43 ?_
  refine g_iushr dJ6_bitCount_0f7a4_45 ?_
  refine g_iadd dJ6_bitCount_0f7a4_46 ?_
  refine g_istore_n (L2 := [(0, _)]) (by decide) rfl dJ6_bitCount_0f7a4_47 ?_
  refine g_iload_n rfl dJ6_bitCount_0f7a4_48 ?_
  refine g_bipush (by decide) dJ6_bitCount_0f7a4_49 ?_
  refine g_iand dJ6_bitCount_0f7a4_51 ?_
  refine g_ireturn rfl dJ6_bitCount_0f7a4_52 ?_
  exact hQ
/-- in how many ways: none too few of stores fix the lots -/
def cwX (M : Mem) (set : Nat) (i : Int) : Int := if mi M 22 5 < popN set then (if i = mi M 22 4 then 1 else 0) else 97 ^ ((mi M 22 5 - popN set) * mi M 22 6).toNat
theorem ev_X1_countWays {M : Mem} (hw : WX M) {set : Nat} (hs : set < 1024) (hs1 : 1 ≤ popN set) {i : Int} (hi1 : 0 ≤ i) (hi2 : i < 8) : EvF yX1_countWays cX1_countWays 7 (some .long) 1 [.ref 22, .int (zI (set : Nat)), .int (zI i)] M (some (.long (zL (cwX M set i)))) M := by
  refine EvF.of (by decide +kernel) (Nat.le_of_ble_eq_true rfl) (fun Q hQ => ?_)
  have hkf := hw.kf
  have hqb := hw.qb
  have hwa := hw.wa
  have hpop : popN set ≤ 10 := cnt_le _ _
  have e5 : zI (mi M 22 5) - zI (popN set : Nat) = zI (mi M 22 5 - popN set) := zI_sub _ _
  generalize hf : mi M 22 5 - (popN set : Int) = f at e5
  have hf2 : f ≤ 1 := by omega
  have hfm : 0 ≤ f → 0 ≤ f * mi M 22 6 ∧ f * mi M 22 6 ≤ 3 := by
    intro h0
    rcases (by omega : f = 0 ∨ f = 1) with rfl | rfl <;> omega
  have hpow : ∀ q : Nat, q ≤ 3 → 0 < (97 : Int) ^ q ∧ (97 : Int) ^ q ≤ 912673 := by
    intro q hq
    rcases (by omega : q = 0 ∨ q = 1 ∨ q = 2 ∨ q = 3) with rfl | rfl | rfl | rfl <;> decide
  have loop : 0 ≤ f → ∀ (d q : Nat), d + q = (f * mi M 22 6).toNat → G yX1_countWays.cls cX1_countWays 7 (some .long) (gE 1 Q) 34 [(0, .ref 22), (1, .int (zI (set : Nat))), (2, .int (zI i)), (3, .int (zI f)), (4, .long (zL (97 ^ q))), (6, .int (zI q))] [] M := by
    intro h0 d
    have h1 := hfm h0
    induction d with
    | zero =>
      intro q hq
      refine g_iload rfl dX1_countWays_34 ?_
      refine g_iload_n rfl dX1_countWays_36 ?_
      refine g_aload_n rfl dX1_countWays_37 ?_
      refine gf_X1_32 (by decide) rfl dX1_countWays_38 ?_
      rw [← mi_z M 22 6]
      refine g_imul dX1_countWays_41 ?_
      rw [zI_mul]
      refine g_icmp_ge (tgt := 59) dX1_countWays_42 (by decide) (fun c42 => ?_) (fun c42 => ?_)
      · refine g_lload rfl dX1_countWays_59 ?_
        refine g_lreturn rfl dX1_countWays_61 ?_
        rw [cwX, if_neg (by omega), hf] at hQ
        rw [show q = (f * mi M 22 6).toNat by omega]
        exact hQ
      · simp (disch := omega) only [i_le, zI_toInt] at c42
        omega
    | succ d ih =>
      intro q hq
      have hp := hpow q (by omega)
      refine g_iload rfl dX1_countWays_34 ?_
      refine g_iload_n rfl dX1_countWays_36 ?_
      refine g_aload_n rfl dX1_countWays_37 ?_
      refine gf_X1_32 (by decide) rfl dX1_countWays_38 ?_
      rw [← mi_z M 22 6]
      refine g_imul dX1_countWays_41 ?_
      rw [zI_mul]
      refine g_icmp_ge (tgt := 59) dX1_countWays_42 (by decide) (fun c42 => ?_) (fun c42 => ?_)
      · simp (disch := omega) only [i_le, zI_toInt] at c42
        omega
      · refine g_lload rfl dX1_countWays_45 ?_
        refine g_ldc2 gl_X1_50 dX1_countWays_47 ?_
        refine g_lmul dX1_countWays_50 ?_
        rw [show (97 : Int64) = zL 97 from rfl, zL_mul, ← Int.pow_succ]
        refine g_lstore (L2 := [(0, _), (1, _), (2, _), (3, _), (4, _), (6, _)]) (by decide) rfl dX1_countWays_51 ?_
        refine g_iinc (L2 := [(0, _), (1, _), (2, _), (3, _), (4, _), (6, _)]) rfl (by decide) rfl dX1_countWays_53 ?_
        refine g_goto (tgt := 34) dX1_countWays_56 (by decide) ?_
        rw [zI_add]
        exact ih (q + 1) (by omega)
  refine g_aload_n rfl dX1_countWays_0 ?_
  refine gf_X1_29 (by decide) rfl dX1_countWays_1 ?_
  rw [← mi_z M 22 5]
  refine g_iload_n rfl dX1_countWays_4 ?_
  refine gi_X1_60 (ev_J6_bitCount hs M) rfl rfl ⟨Nat.le_of_ble_eq_true rfl, Nat.le_of_ble_eq_true rfl, Nat.le_of_ble_eq_true rfl, Nat.le_of_ble_eq_true rfl⟩ (Nat.le_of_ble_eq_true rfl) dX1_countWays_5 (fun r5 M5 hq5 => ?_)
  obtain ⟨rfl, rfl⟩ := hq5
  refine g_isub dX1_countWays_8 ?_
  rw [e5]
  refine g_istore_n (L2 := [(0, _), (1, _), (2, _), (3, _)]) (by decide) rfl dX1_countWays_9 ?_
  refine g_iload_n rfl dX1_countWays_10 ?_
  refine g_if_ge (tgt := 28) dX1_countWays_11 (by decide) (fun c11 => ?_) (fun c11 => ?_)
  · refine g_lconst (v := zL 1) (by decide) dX1_countWays_28 ?_
    refine g_lstore (L2 := [(0, _), (1, _), (2, _), (3, _), (4, _)]) (by decide) rfl dX1_countWays_29 ?_
    refine g_iconst dX1_countWays_31 ?_
    refine g_istore (L2 := [(0, _), (1, _), (2, _), (3, _), (4, _), (6, _)]) (by decide) rfl dX1_countWays_32 ?_
    simp (disch := omega) only [i_le, zI_toInt, i_0] at c11
    exact loop c11 (f * mi M 22 6).toNat 0 (by omega)
  · refine g_iload_n rfl dX1_countWays_14 ?_
    refine g_aload_n rfl dX1_countWays_15 ?_
    refine gf_X1_25 (by decide) rfl dX1_countWays_16 ?_
    rw [← mi_z M 22 4]
    refine g_icmp_ne (tgt := 26) dX1_countWays_19 (by decide) (fun c19 => ?_) (fun c19 => ?_)
    · refine g_lconst (v := zL 0) (by decide) dX1_countWays_26 ?_
      refine g_lreturn rfl dX1_countWays_27 ?_
      rw [zI_eqz (by omega) (by omega) (by omega) (by omega)] at c19
      simp (disch := omega) only [i_le, zI_toInt, i_0] at c11
      rw [cwX, if_pos (by omega), if_neg c19] at hQ
      exact hQ
    · refine g_lconst (v := zL 1) (by decide) dX1_countWays_22 ?_
      refine g_goto (tgt := 27) dX1_countWays_23 (by decide) ?_
      refine g_lreturn rfl dX1_countWays_27 ?_
      rw [zI_eqz (by omega) (by omega) (by omega) (by omega)] at c19
      simp (disch := omega) only [i_le, zI_toInt, i_0] at c11
      rw [cwX, if_pos (by omega), if_pos c19] at hQ
      exact hQ
