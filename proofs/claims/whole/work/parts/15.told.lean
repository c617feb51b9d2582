/-! class SilentAsking: what stores tell -/
/-- the class's part of memory is well formed -/
def WX (M : Mem) : Prop :=
  (1 ≤ mi M 0 6 ∧ mi M 0 6 ≤ 3) ∧ (∀ i, i < 8 → 0 ≤ mi M 1 i ∧ mi M 1 i < 97) ∧
  (∀ j, 1 ≤ j → j < 10 → 0 ≤ mi M (3 + j) 1 ∧ mi M (3 + j) 1 ≤ 3 ∧ 0 ≤ mi M (3 + j) 2 ∧ mi M (3 + j) 2 < 97) ∧
  (∀ j, 1 ≤ j → j < 10 → ∀ i, i < 8 → 0 ≤ mi M (12 + j) i ∧ mi M (12 + j) i < 97) ∧
  (mi M 22 2 = 0 ∨ mi M 22 2 = 1) ∧ (mi M 22 3 = 0 ∨ mi M 22 3 = 1) ∧ (0 ≤ mi M 22 4 ∧ mi M 22 4 < 8) ∧ (1 ≤ mi M 22 5 ∧ mi M 22 5 ≤ 2) ∧ (1 ≤ mi M 22 6 ∧ mi M 22 6 ≤ 3) ∧ mi M 22 7 = mi M 22 6 * mi M 22 5 ∧
  (∀ q, q < 6 → 0 ≤ mi M 23 q ∧ mi M 23 q < 97) ∧ (∀ q, q < 6 → 0 ≤ mi M 24 q ∧ mi M 24 q < 97) ∧
  (mi M 22 2 = 1 → mi M 22 6 = mi M 0 6 ∧ mi M 22 4 < 2 ^ (mi M 0 6).toNat) ∧ (0 ≤ mi M 0 7 ∧ mi M 0 7 < 1024)
def xm (M : Mem) : Nat := (mi M 0 6).toNat
theorem WX.m {M : Mem} (h : WX M) : 1 ≤ xm M ∧ xm M ≤ 3 ∧ mi M 0 6 = xm M ∧ M 0 6 = zI (xm M) := by
  have h1 := h.1
  have e : mi M 0 6 = (xm M : Int) := by unfold xm; omega
  exact ⟨by unfold xm; omega, by unfold xm; omega, e, by rw [← e, mi_z]⟩
theorem WX.num {M : Mem} (h : WX M) : ∀ i, i < 8 → 0 ≤ mi M 1 i ∧ mi M 1 i < 97 := h.2.1
theorem WX.st {M : Mem} (h : WX M) : ∀ j, 1 ≤ j → j < 10 → 0 ≤ mi M (3 + j) 1 ∧ mi M (3 + j) 1 ≤ 3 ∧ 0 ≤ mi M (3 + j) 2 ∧ mi M (3 + j) 2 < 97 := h.2.2.1
theorem WX.kp {M : Mem} (h : WX M) : ∀ j, 1 ≤ j → j < 10 → ∀ i, i < 8 → 0 ≤ mi M (12 + j) i ∧ mi M (12 + j) i < 97 := h.2.2.2.1
theorem WX.as {M : Mem} (h : WX M) : mi M 22 2 = 0 ∨ mi M 22 2 = 1 := h.2.2.2.2.1
theorem WX.vl {M : Mem} (h : WX M) : mi M 22 3 = 0 ∨ mi M 22 3 = 1 := h.2.2.2.2.2.1
theorem WX.wa {M : Mem} (h : WX M) : 0 ≤ mi M 22 4 ∧ mi M 22 4 < 8 := h.2.2.2.2.2.2.1
theorem WX.kf {M : Mem} (h : WX M) : 1 ≤ mi M 22 5 ∧ mi M 22 5 ≤ 2 := h.2.2.2.2.2.2.2.1
theorem WX.qb {M : Mem} (h : WX M) : 1 ≤ mi M 22 6 ∧ mi M 22 6 ≤ 3 := h.2.2.2.2.2.2.2.2.1
theorem WX.dg {M : Mem} (h : WX M) : mi M 22 7 = mi M 22 6 * mi M 22 5 := h.2.2.2.2.2.2.2.2.2.1
theorem WX.lt {M : Mem} (h : WX M) : ∀ q, q < 6 → 0 ≤ mi M 23 q ∧ mi M 23 q < 97 := h.2.2.2.2.2.2.2.2.2.2.1
theorem WX.vs {M : Mem} (h : WX M) : ∀ q, q < 6 → 0 ≤ mi M 24 q ∧ mi M 24 q < 97 := h.2.2.2.2.2.2.2.2.2.2.2.1
theorem WX.aq {M : Mem} (h : WX M) : mi M 22 2 = 1 → mi M 22 6 = mi M 0 6 ∧ mi M 22 4 < 2 ^ (mi M 0 6).toNat := h.2.2.2.2.2.2.2.2.2.2.2.2.1
theorem WX.ca {M : Mem} (h : WX M) : 0 ≤ mi M 0 7 ∧ mi M 0 7 < 1024 := h.2.2.2.2.2.2.2.2.2.2.2.2.2
theorem WX.dgb {M : Mem} (h : WX M) : 1 ≤ mi M 22 7 ∧ mi M 22 7 ≤ 6 := by
  rw [h.dg]
  have h1 := h.kf
  have h2 := h.qb
  rcases (by omega : mi M 22 5 = 1 ∨ mi M 22 5 = 2) with e | e <;> rw [e] <;> omega
theorem WX.sam {M M' : Mem} (h : WX M) (hs : Sam M M') : WX M' := by
  have e : ∀ a b, (a < 25 ∧ a ≠ 2) → mi M' a b = mi M a b := fun a b ha => hs.m (Or.inl ha) b
  unfold WX
  simp only [e 0 _ (by decide), e 1 _ (by decide), e 22 _ (by decide), e 23 _ (by decide), e 24 _ (by decide)]
  refine ⟨h.1, h.2.1, fun j h1 h2 => ?_, fun j h1 h2 i hi => ?_, h.2.2.2.2⟩
  · rw [e (3 + j) _ (by omega), e (3 + j) _ (by omega)]
    exact h.st j h1 h2
  · rw [e (12 + j) _ (by omega)]
    exact h.kp j h1 h2 i hi
theorem WX.hcb {M : Mem} (h : WX M) {j : Nat} (h1 : 1 ≤ j) (h2 : j < 10) : ∀ i, i < 8 → 0 ≤ mi M (hc M j) i ∧ mi M (hc M j) i < 97 := by
  unfold hc
  split
  · exact h.kp j h1 h2
  · exact h.num
def ptX (M : Mem) (j k : Nat) : Int := pntS (mi M 22 4) (mi M 22 5) (mi M 23) j k
def ansX (M : Mem) (j : Nat) : Int := (sumW (mi M (hc M j)) (ptX M j) (xm M) (2 ^ xm M) % 97 + vlS M j + mi M (3 + j) 2) % 97
theorem hc_sam {M M' : Mem} (hs : Sam M M') {j : Nat} (h2 : j < 10) : hc M' j = hc M j := by
  unfold hc
  rw [hs.m (Or.inl (by omega))]
theorem ptX_sam {M M' : Mem} (hs : Sam M M') (j : Nat) : ptX M' j = ptX M j := by
  have e : mi M' 23 = mi M 23 := funext fun q => hs.m (Or.inl (by decide)) q
  funext k
  unfold ptX
  rw [hs.m (Or.inl (by decide)), hs.m (Or.inl (by decide)), e]
theorem vlS_sam {M M' : Mem} (hs : Sam M M') (j : Nat) : vlS M' j = vlS M j := by
  have e : mi M' 24 = mi M 24 := funext fun q => hs.m (Or.inl (by decide)) q
  unfold vlS
  rw [hs 22 (Or.inl (by decide)), hs.m (Or.inl (by decide)), e]
theorem xm_sam {M M' : Mem} (hs : Sam M M') : xm M' = xm M := by
  unfold xm
  rw [hs.m (Or.inl (by decide))]
theorem ansX_sam {M M' : Mem} (hs : Sam M M') {j : Nat} (h2 : j < 10) : ansX M' j = ansX M j := by
  have e : mi M' (hc M j) = mi M (hc M j) := funext fun q => hs.m (Or.inl (by unfold hc; split <;> omega)) q
  unfold ansX
  rw [hc_sam hs h2, ptX_sam hs, vlS_sam hs, xm_sam hs, e, hs.m (Or.inl (by omega))]
theorem tells_sam {M M' : Mem} (hs : Sam M M') {j : Nat} (h2 : j < 10) : tells M' j = tells M j := by
  unfold tells
  rw [hs.m (Or.inl (by omega))]
theorem ev_X4_toldBy {M : Mem} (hw : WX M) {j : Nat} (h1 : 1 ≤ j) (h2 : j < 10) : EvF yX4_toldBy cX4_toldBy 3 (some .int) 2 [.ref 0, .int (zI j)] M (some (.int (zI (ansX M j)))) (mfill M 2 (xm M) (fun k => zI (ptX M j k))) := by
  refine EvF.of (by decide +kernel) (Nat.le_of_ble_eq_true rfl) (fun Q hQ => ?_)
  obtain ⟨hm1, hm2, -, hm⟩ := hw.m
  have hkf := hw.kf
  have loop : ∀ (d q : Nat), d + q = xm M → G yX4_toldBy.cls cX4_toldBy 3 (some .int) (gE 2 Q) 2 [(0, .ref 0), (1, .int (zI j)), (2, .int (zI q))] [] (mfill M 2 q (fun k => zI (ptX M j k))) := by
    intro d
    induction d with
    | zero =>
      intro q hq
      obtain rfl : q = xm M := by omega
      have hs : Sam M (mfill M 2 (xm M) (fun k => zI (ptX M j k))) := (Sam.r M).mf _ (Or.inl rfl)
      have hpt : ∀ q, q < xm M → mi (mfill M 2 (xm M) (fun k => zI (ptX M j k))) 2 q = ptX M j q := by
        intro q hq
        have := pntS_bd (mi M 22 4) (mi M 22 5) (mi M 23) j q
        unfold mi
        rw [mfill_in _ _ hq, zI_toInt (by unfold ptX; omega) (by unfold ptX; omega)]
      generalize hM1 : mfill M 2 (xm M) (fun k => zI (ptX M j k)) = M1 at hs hQ hpt
      have hw1 := hw.sam hs
      have hb1 := md_bd (sumW (mi M (hc M j)) (ptX M j) (xm M) (2 ^ xm M))
      have hb2 := vlS_bd M j
      have hb3 := hw.st j h1 h2
      have hsum : sumW (mi M1 (hc M1 j)) (mi M1 2) (xm M) (2 ^ xm M) = sumW (mi M (hc M j)) (ptX M j) (xm M) (2 ^ xm M) := by
        rw [hc_sam hs h2]
        refine sumW_ext hpt _ (fun i _ => hs.m (Or.inl (by unfold hc; split <;> omega)) i)
      have hg := hw1.dgb
      refine g_iload_n rfl dX4_toldBy_2 ?_
      refine g_aload_n rfl dX4_toldBy_3 ?_
      refine gf_X4_43 (by decide) rfl dX4_toldBy_4 ?_
      rw [hs 0 (Or.inl (by decide)), hm]
      refine g_icmp_ge (tgt := 31) dX4_toldBy_7 (by decide) (fun c7 => ?_) (fun c7 => ?_)
      · refine g_aload_n rfl dX4_toldBy_31 ?_
        refine g_iload_n rfl dX4_toldBy_32 ?_
        refine gi_X4_64 (by decide) rfl (ev_X4_storeOf (j := j) h1 h2 M1) rfl rfl ⟨Nat.le_of_ble_eq_true rfl, Nat.le_of_ble_eq_true rfl, Nat.le_of_ble_eq_true rfl, Nat.le_of_ble_eq_true rfl⟩ (Nat.le_of_ble_eq_true rfl) dX4_toldBy_33 (fun r33 M33 hq33 => ?_)
        obtain ⟨rfl, rfl⟩ := hq33
        refine g_astore_n (L2 := [(0, _), (1, _), (2, _)]) (by decide) rfl dX4_toldBy_36 ?_
        refine g_aload_n rfl dX4_toldBy_37 ?_
        refine g_aload_n rfl dX4_toldBy_38 ?_
        refine g_aload_n rfl dX4_toldBy_39 ?_
        refine gf_X4_9 (by decide) rfl rfl dX4_toldBy_40 ?_
        refine gi_X4_193 (by omega) (shS j h2 h1) (ev_X3_held h1 h2 M1) rfl rfl ⟨Nat.le_of_ble_eq_true rfl, Nat.le_of_ble_eq_true rfl, Nat.le_of_ble_eq_true rfl, Nat.le_of_ble_eq_true rfl⟩ (Nat.le_of_ble_eq_true rfl) dX4_toldBy_43 (fun r43 M43 hq43 => ?_)
        obtain ⟨rfl, rfl⟩ := hq43
        refine gi_X4_102 (by decide) rfl (ev_X4_sumAtPlace (M := M1) (m := xm M) (k := hc M1 j) hm1 hm2 (by rw [hs 0 (Or.inl (by decide)), hm]) (hc_lt M1 h2) (hc_sh M1 h2 h1) (hc_n M1 h2 h1) (hw1.hcb h1 h2) (fun q hq => by rw [hpt q hq]; exact pntS_bd _ _ _ _ _)) rfl rfl ⟨Nat.le_of_ble_eq_true rfl, Nat.le_of_ble_eq_true rfl, Nat.le_of_ble_eq_true rfl, Nat.le_of_ble_eq_true rfl⟩ (Nat.le_of_ble_eq_true rfl) dX4_toldBy_46 (fun r46 M46 hq46 => ?_)
        obtain ⟨rfl, rfl⟩ := hq46
        refine g_aload_n rfl dX4_toldBy_49 ?_
        refine gf_X4_25 (by decide) rfl rfl dX4_toldBy_50 ?_
        refine g_iload_n rfl dX4_toldBy_53 ?_
        refine gi_X4_197 (by decide) rfl (ev_X1_veilAt (M := M1) (j := j) (g := (mi M1 22 7).toNat) h2 (by omega) (by omega) hw1.vs) rfl rfl ⟨Nat.le_of_ble_eq_true rfl, Nat.le_of_ble_eq_true rfl, Nat.le_of_ble_eq_true rfl, Nat.le_of_ble_eq_true rfl⟩ (Nat.le_of_ble_eq_true rfl) dX4_toldBy_54 (fun r54 M54 hq54 => ?_)
        obtain ⟨rfl, rfl⟩ := hq54
        refine g_iadd dX4_toldBy_57 ?_
        refine g_aload_n rfl dX4_toldBy_58 ?_
        refine gf_X4_95 (by omega) (shS j h2 h1) dX4_toldBy_59 ?_
        refine g_iadd dX4_toldBy_62 ?_
        refine g_bipush (by decide) dX4_toldBy_63 ?_
        refine g_irem (by decide) dX4_toldBy_65 ?_
        refine g_ireturn rfl dX4_toldBy_66 ?_
        rw [hsum, vlS_sam hs, ← mi_z M1, hs.m (Or.inl (by omega)), zI_add, zI_add, zI_remN (by omega) (by omega) (by decide) (by decide)]
        exact hQ
      · simp (disch := omega) only [i_le, zI_toInt] at c7
        omega
    | succ d ih =>
      intro q hq
      have hs : Sam M (mfill M 2 q (fun k => zI (ptX M j k))) := (Sam.r M).mf _ (Or.inl rfl)
      have ih := ih (q + 1) (by omega)
      rw [← mfill_s] at ih
      generalize hM1 : mfill M 2 q (fun k => zI (ptX M j k)) = M1 at hs ih ⊢
      have hw1 := hw.sam hs
      have hkf1 := hw1.kf
      have hpp : pntS (mi M1 22 4) (mi M1 22 5) (mi M1 23) j q = ptX M j q := by
        have := congrFun (ptX_sam hs j) q
        exact this
      refine g_iload_n rfl dX4_toldBy_2 ?_
      refine g_aload_n rfl dX4_toldBy_3 ?_
      refine gf_X4_43 (by decide) rfl dX4_toldBy_4 ?_
      rw [hs 0 (Or.inl (by decide)), hm]
      refine g_icmp_ge (tgt := 31) dX4_toldBy_7 (by decide) (fun c7 => ?_) (fun c7 => ?_)
      · simp (disch := omega) only [i_le, zI_toInt] at c7
        omega
      · refine g_aload_n rfl dX4_toldBy_10 ?_
        refine gf_X4_13 (by decide) rfl rfl dX4_toldBy_11 ?_
        refine g_iload_n rfl dX4_toldBy_14 ?_
        refine g_aload_n rfl dX4_toldBy_15 ?_
        refine gf_X4_25 (by decide) rfl rfl dX4_toldBy_16 ?_
        refine g_iload_n rfl dX4_toldBy_19 ?_
        refine g_iload_n rfl dX4_toldBy_20 ?_
        refine gi_X4_126 (by decide) rfl (ev_X1_pointNumber (M := M1) (j := j) (k := q) (t := (mi M1 22 5).toNat) (by omega) h2 (by omega) hw1.wa (by omega) hw1.lt) rfl rfl ⟨Nat.le_of_ble_eq_true rfl, Nat.le_of_ble_eq_true rfl, Nat.le_of_ble_eq_true rfl, Nat.le_of_ble_eq_true rfl⟩ (Nat.le_of_ble_eq_true rfl) dX4_toldBy_21 (fun r21 M21 hq21 => ?_)
        obtain ⟨rfl, rfl⟩ := hq21
        refine g_iast (n := 3) (by decide) rfl rfl (zI_in (by omega) (by omega) (by decide)) dX4_toldBy_24 ?_
        refine g_iinc (L2 := [(0, _), (1, _), (2, _)]) rfl (by decide) rfl dX4_toldBy_25 ?_
        refine g_goto (tgt := 2) dX4_toldBy_28 (by decide) ?_
        rw [zI_clamp (by omega) (by omega), zI_add, hpp]
        exact ih
  refine g_iconst dX4_toldBy_0 ?_
  refine g_istore_n (L2 := [(0, _), (1, _), (2, _)]) (by decide) rfl dX4_toldBy_1 ?_
  have e := loop (xm M) 0 (by omega)
  rw [mfill_0] at e
  exact e
theorem ev_X2_add {M : Mem} {l : List (Nat × Int)} (h : RowIs M l) (hl : l.length < 9) (j : Nat) (v : Int) : EvF yX2_add cX2_add 3 none 0 [.ref 25, .int (zI j), .int (zI v)] M none (mset (mset (mset M 26 l.length (zI j)) 27 l.length (zI v)) 25 2 (zI ((l.length + 1 : Nat) : Int))) := by
  refine EvF.of (by decide +kernel) (Nat.le_of_ble_eq_true rfl) (fun Q hQ => ?_)
  have h0 := h.1
  refine g_aload_n rfl dX2_add_0 ?_
  refine gf_X2_18 (by decide) rfl dX2_add_1 ?_
  rw [h0]
  refine g_bipush (by decide) dX2_add_4 ?_
  refine g_icmp_ge (tgt := 39) dX2_add_6 (by decide) (fun c6 => ?_) (fun c6 => ?_)
  · refine g_return rfl dX2_add_39 ?_
    simp (disch := omega) only [i_le, zI_toInt] at c6
    omega
  · refine g_aload_n rfl dX2_add_9 ?_
    refine gf_X2_9 (by decide) rfl rfl dX2_add_10 ?_
    refine g_aload_n rfl dX2_add_13 ?_
    refine gf_X2_18 (by decide) rfl dX2_add_14 ?_
    rw [h0]
    refine g_iload_n rfl dX2_add_17 ?_
    refine g_iast (n := 9) (by decide) rfl rfl (zI_in (by omega) (by omega) (by decide)) dX2_add_18 ?_
    rw [zI_clamp (by omega) (by omega)]
    refine g_aload_n rfl dX2_add_19 ?_
    refine gf_X2_15 (by decide) rfl rfl dX2_add_20 ?_
    refine g_aload_n rfl dX2_add_23 ?_
    refine gf_X2_18 (by decide) rfl dX2_add_24 ?_
    rw [mset_ne _ _ (Or.inl (by decide)), h0]
    refine g_iload_n rfl dX2_add_27 ?_
    refine g_iast (n := 9) (by decide) rfl rfl (zI_in (by omega) (by omega) (by decide)) dX2_add_28 ?_
    rw [zI_clamp (by omega) (by omega)]
    refine g_aload_n rfl dX2_add_29 ?_
    refine g_dup rfl dX2_add_30 ?_
    refine gf_X2_18 (by decide) rfl dX2_add_31 ?_
    rw [mset_ne _ _ (Or.inl (by decide)), mset_ne _ _ (Or.inl (by decide)), h0]
    refine g_iconst dX2_add_34 ?_
    refine g_iadd dX2_add_35 ?_
    rw [zI_add]
    refine gp_X2_18 (by decide) rfl dX2_add_36 ?_
    refine g_return rfl dX2_add_39 ?_
    exact hQ
theorem ev_X4_hearStores {M : Mem} (hw : WX M) {s : Nat} (h2 : s < 10) : Ev yX4_hearStores cX4_hearStores 3 none 3 [.ref 0, .int (zI s)] M (fun r M1 => none = r ∧ Sam M M1 ∧ RowIs M1 (hearL (tells M) (ansX M) s)) := by
  refine Ev.of (by decide +kernel) (Nat.le_of_ble_eq_true rfl) (fun Q hQ => ?_)
  have loop : ∀ (d j : Nat), d + j = s → ∀ M1 : Mem, Sam M M1 → RowIs M1 (hearL (tells M) (ansX M) j) → G yX4_hearStores.cls cX4_hearStores 3 none (gE 3 Q) 10 [(0, .ref 0), (1, .int (zI s)), (2, .int (zI ((j + 1 : Nat) : Int)))] [] M1 := by
    intro d
    induction d with
    | zero =>
      intro j hj M1 hs hr
      refine g_iload_n rfl dX4_hearStores_10 ?_
      refine g_iload_n rfl dX4_hearStores_11 ?_
      refine g_icmp_gt (tgt := 46) dX4_hearStores_12 (by decide) (fun c12 => ?_) (fun c12 => ?_)
      · refine g_return rfl dX4_hearStores_46 ?_
        obtain rfl : j = s := by omega
        exact hQ _ _ ⟨rfl, hs, hr⟩
      · simp (disch := omega) only [i_lt, zI_toInt] at c12
        omega
    | succ d ih =>
      intro j hj M1 hs hr
      have hw1 := hw.sam hs
      have hlen : (hearL (tells M) (ansX M) j).length ≤ j := by rw [hearL_len]; exact cnt_le _ _
      have hs2 : Sam M (mfill M1 2 (xm M1) (fun k => zI (ptX M1 (j + 1) k))) := hs.mf _ (Or.inl rfl)
      have hr2 : RowIs (mfill M1 2 (xm M1) (fun k => zI (ptX M1 (j + 1) k))) (hearL (tells M) (ansX M) j) := hr.ext (mfill_ne _ _ (by decide)) (mfill_ne _ _ (by decide)) (mfill_ne _ _ (by decide))
      refine g_iload_n rfl dX4_hearStores_10 ?_
      refine g_iload_n rfl dX4_hearStores_11 ?_
      refine g_icmp_gt (tgt := 46) dX4_hearStores_12 (by decide) (fun c12 => ?_) (fun c12 => ?_)
      · simp (disch := omega) only [i_lt, zI_toInt] at c12
        omega
      · refine g_aload_n rfl dX4_hearStores_15 ?_
        refine g_iload_n rfl dX4_hearStores_16 ?_
        refine gi_X4_64 (by decide) rfl (ev_X4_storeOf (j := j + 1) (by omega) (by omega) M1) rfl rfl ⟨Nat.le_of_ble_eq_true rfl, Nat.le_of_ble_eq_true rfl, Nat.le_of_ble_eq_true rfl, Nat.le_of_ble_eq_true rfl⟩ (Nat.le_of_ble_eq_true rfl) dX4_hearStores_17 (fun r17 M17 hq17 => ?_)
        obtain ⟨rfl, rfl⟩ := hq17
        refine gf_X4_92 (by omega) (shS (j + 1) (by omega) (by omega)) dX4_hearStores_20 ?_
        refine g_iconst dX4_hearStores_23 ?_
        refine g_icmp_eq (tgt := 40) dX4_hearStores_24 (by decide) (fun c24 => ?_) (fun c24 => ?_)
        · refine g_iinc (L2 := [(0, _), (1, _), (2, _)]) rfl (by decide) rfl dX4_hearStores_40 ?_
          refine g_goto (tgt := 10) dX4_hearStores_43 (by decide) ?_
          rw [zI_add]
          rw [eqz_mi (by decide) (by decide), hs.m (Or.inl (by omega))] at c24
          refine ih (j + 1) (by omega) M1 hs ?_
          rw [hearL, if_neg (by simp [tells, c24]), List.append_nil]
          exact hr
        · refine g_aload_n rfl dX4_hearStores_27 ?_
          refine gf_X4_32 (by decide) rfl rfl dX4_hearStores_28 ?_
          refine g_iload_n rfl dX4_hearStores_31 ?_
          refine g_aload_n rfl dX4_hearStores_32 ?_
          refine g_iload_n rfl dX4_hearStores_33 ?_
          refine gi_X4_130 (by decide) rfl (ev_X4_toldBy hw1 (j := j + 1) (by omega) (by omega)) rfl rfl ⟨Nat.le_of_ble_eq_true rfl, Nat.le_of_ble_eq_true rfl, Nat.le_of_ble_eq_true rfl, Nat.le_of_ble_eq_true rfl⟩ (Nat.le_of_ble_eq_true rfl) dX4_hearStores_34 (fun r34 M34 hq34 => ?_)
          obtain ⟨rfl, rfl⟩ := hq34
          refine gi_X4_203 (by decide) rfl (ev_X2_add hr2 (by omega) (j + 1) (ansX M1 (j + 1))) rfl rfl ⟨Nat.le_of_ble_eq_true rfl, Nat.le_of_ble_eq_true rfl, Nat.le_of_ble_eq_true rfl, Nat.le_of_ble_eq_true rfl⟩ (Nat.le_of_ble_eq_true rfl) dX4_hearStores_37 (fun r37 M37 hq37 => ?_)
          obtain ⟨rfl, rfl⟩ := hq37
          refine g_iinc (L2 := [(0, _), (1, _), (2, _)]) rfl (by decide) rfl dX4_hearStores_40 ?_
          refine g_goto (tgt := 10) dX4_hearStores_43 (by decide) ?_
          rw [zI_add]
          rw [eqz_mi (by decide) (by decide), hs.m (Or.inl (by omega))] at c24
          refine ih (j + 1) (by omega) _ (((hs2.ms _ (Or.inr (by decide))).ms _ (Or.inr (by decide))).ms _ (Or.inr (by decide))) ?_
          rw [hearL, if_pos (by simp [tells, c24]), ansX_sam hs (by omega)]
          exact hr2.add (j + 1) (ansX M (j + 1))
  refine g_aload_n rfl dX4_hearStores_0 ?_
  refine gf_X4_32 (by decide) rfl rfl dX4_hearStores_1 ?_
  refine g_iconst dX4_hearStores_4 ?_
  refine gp_X4_140 (by decide) rfl dX4_hearStores_5 ?_
  refine g_iconst dX4_hearStores_8 ?_
  refine g_istore_n (L2 := [(0, _), (1, _), (2, _)]) (by decide) rfl dX4_hearStores_9 ?_
  exact loop s 0 (by omega) _ ((Sam.r M).ms _ (Or.inr (by decide))) ⟨mset_same _ _ _ _, fun p x hx => by cases hx⟩
