/-! the reference: its state is the class's; sums, points, answers -/
def Sax (M M' : Mem) : Prop := ∀ a, a < 25 → a ≠ 2 → M' a = M a
theorem Sax.m {M M' : Mem} (h : Sax M M') {a : Nat} (h1 : a < 25) (h2 : a ≠ 2) (b : Nat) : mi M' a b = mi M a b := by unfold mi; rw [h a h1 h2]
theorem Sam.sax {M M' : Mem} (h : Sam M M') : Sax M M' := fun a h1 h2 => h a (Or.inl ⟨h1, h2⟩)
theorem WX.sax {M M' : Mem} (h : WX M) (hs : Sax M M') : WX M' := by
  have e : ∀ a b, a < 25 → a ≠ 2 → mi M' a b = mi M a b := fun a b h1 h2 => hs.m h1 h2 b
  unfold WX
  simp only [e 0 _ (by decide) (by decide), e 1 _ (by decide) (by decide), e 22 _ (by decide) (by decide), e 23 _ (by decide) (by decide), e 24 _ (by decide) (by decide)]
  refine ⟨h.1, h.2.1, fun j h1 h2 => ?_, fun j h1 h2 i hi => ?_, h.2.2.2.2⟩
  · rw [e (3 + j) _ (by omega) (by omega), e (3 + j) _ (by omega) (by omega)]
    exact h.st j h1 h2
  · rw [e (12 + j) _ (by omega) (by omega)]
    exact h.kp j h1 h2 i hi
theorem hc_sax {M M' : Mem} (hs : Sax M M') {j : Nat} (h2 : j < 10) : hc M' j = hc M j := by
  unfold hc
  rw [hs.m (by omega) (by omega)]
theorem ptX_sax {M M' : Mem} (hs : Sax M M') (j : Nat) : ptX M' j = ptX M j := by
  have e : mi M' 23 = mi M 23 := funext fun q => hs.m (by decide) (by decide) q
  funext k
  unfold ptX
  rw [hs.m (by decide) (by decide), hs.m (by decide) (by decide), e]
theorem vlS_sax {M M' : Mem} (hs : Sax M M') (j : Nat) : vlS M' j = vlS M j := by
  have e : mi M' 24 = mi M 24 := funext fun q => hs.m (by decide) (by decide) q
  unfold vlS
  rw [hs 22 (by decide) (by decide), hs.m (by decide) (by decide), e]
theorem xm_sax {M M' : Mem} (hs : Sax M M') : xm M' = xm M := by
  unfold xm
  rw [hs.m (by decide) (by decide)]
theorem ansX_sax {M M' : Mem} (hs : Sax M M') {j : Nat} (h2 : j < 10) : ansX M' j = ansX M j := by
  have e : mi M' (hc M j) = mi M (hc M j) := funext fun q => hs.m (by unfold hc; split <;> omega) (by unfold hc; split <;> omega) q
  unfold ansX
  rw [hc_sax hs h2, ptX_sax hs, vlS_sax hs, xm_sax hs, e, hs.m (by omega) (by omega)]
theorem tells_sax {M M' : Mem} (hs : Sax M M') {j : Nat} (h2 : j < 10) : tells M' j = tells M j := by
  unfold tells
  rw [hs.m (by omega) (by omega)]
theorem rowX_sax {M M' : Mem} (hs : Sax M M') {n : Nat} (h2 : n < 10) : rowX M' n = rowX M n := hearL_ext n (fun j _ hj => ⟨tells_sax hs (by omega), ansX_sax hs (by omega)⟩)
/-- the reference's state is the class's, as far as questions ask -/
def InvQ (M : Mem) : Prop :=
  M 31 1 = M 0 6 ∧ (∀ i, i < 8 → M 32 i = M 1 i) ∧ (∀ j, 1 ≤ j → j < 10 → M 33 j = M (3 + j) 1) ∧
  (∀ j, 1 ≤ j → j < 10 → (mi M (3 + j) 1 = 1 → M 34 j = M (3 + j) 2) ∧ (¬ mi M (3 + j) 1 = 1 → M (3 + j) 2 = zI 0)) ∧
  (∀ j, 1 ≤ j → j < 10 → mi M (3 + j) 1 = 2 → ∀ i, i < 8 → M 35 (8 * j + i) = M (12 + j) i) ∧
  M 31 6 = M 22 2 ∧ (∀ q, q < 6 → 0 ≤ mi M 36 q ∧ mi M 36 q < 97) ∧
  (mi M 22 2 = 1 → M 31 7 = M 22 4 ∧ M 31 8 = M 22 5 ∧ (∀ k e, k < xm M → e < (mi M 22 5).toNat → M 36 (2 * k + e) = M 23 (k * (mi M 22 5).toNat + e)) ∧ M 31 10 = M 22 3 ∧ (mi M 22 3 = 1 → ∀ e, e < (mi M 22 7).toNat → M 37 (e + 1) = M 24 e))
theorem InvQ.dg {M : Mem} (h : InvQ M) : M 31 1 = M 0 6 := h.1
theorem InvQ.num {M : Mem} (h : InvQ M) : ∀ i, i < 8 → M 32 i = M 1 i := h.2.1
theorem InvQ.kd {M : Mem} (h : InvQ M) : ∀ j, 1 ≤ j → j < 10 → M 33 j = M (3 + j) 1 := h.2.2.1
theorem InvQ.ly {M : Mem} (h : InvQ M) : ∀ j, 1 ≤ j → j < 10 → (mi M (3 + j) 1 = 1 → M 34 j = M (3 + j) 2) ∧ (¬ mi M (3 + j) 1 = 1 → M (3 + j) 2 = zI 0) := h.2.2.2.1
theorem InvQ.kp {M : Mem} (h : InvQ M) : ∀ j, 1 ≤ j → j < 10 → mi M (3 + j) 1 = 2 → ∀ i, i < 8 → M 35 (8 * j + i) = M (12 + j) i := h.2.2.2.2.1
theorem InvQ.as {M : Mem} (h : InvQ M) : M 31 6 = M 22 2 := h.2.2.2.2.2.1
theorem InvQ.lb {M : Mem} (h : InvQ M) : ∀ q, q < 6 → 0 ≤ mi M 36 q ∧ mi M 36 q < 97 := h.2.2.2.2.2.2.1
theorem InvQ.qs {M : Mem} (h : InvQ M) : mi M 22 2 = 1 → M 31 7 = M 22 4 ∧ M 31 8 = M 22 5 ∧ (∀ k e, k < xm M → e < (mi M 22 5).toNat → M 36 (2 * k + e) = M 23 (k * (mi M 22 5).toNat + e)) ∧ M 31 10 = M 22 3 ∧ (mi M 22 3 = 1 → ∀ e, e < (mi M 22 7).toNat → M 37 (e + 1) = M 24 e) := h.2.2.2.2.2.2.2
/-- but for what the reference reckons with nothing changed -/
def SamM (M M' : Mem) : Prop := ∀ a b, ¬ (39 ≤ a ∧ a ≤ 41 ∨ a = 31 ∧ (b = 0 ∨ b = 16)) → M' a b = M a b
theorem SamM.r (M : Mem) : SamM M M := fun _ _ _ => rfl
theorem SamM.t {M M1 M2 : Mem} (h : SamM M M1) (h2 : SamM M1 M2) : SamM M M2 := fun a b hab => (h2 a b hab).trans (h a b hab)
theorem SamM.ms {M M' : Mem} (h : SamM M M') {k j : Nat} (v : Int32) (hk : 39 ≤ k ∧ k ≤ 41 ∨ k = 31 ∧ (j = 0 ∨ j = 16)) : SamM M (mset M' k j v) := fun a b hab => by
  rw [mset_ne M' v (by omega), h a b hab]
theorem SamM.sax {M M' : Mem} (h : SamM M M') : Sax M M' := fun a h1 _ => funext fun b => h a b (by omega)
theorem SamM.at {M M' : Mem} (h : SamM M M') {a : Nat} (ha : a < 39) (h31 : a ≠ 31) : M' a = M a := funext fun b => h a b (by omega)
theorem InvQ.sam {M M' : Mem} (h : InvQ M) (hs : SamM M M') : InvQ M' := by
  have e : ∀ a b, a < 31 → M' a b = M a b := fun a b ha => hs a b (by omega)
  have em : ∀ a b, a < 31 → mi M' a b = mi M a b := fun a b ha => by unfold mi; rw [e a b ha]
  have ex := xm_sax hs.sax
  refine ⟨?_, fun i hi => ?_, fun j h1 h2 => ?_, fun j h1 h2 => ?_, fun j h1 h2 => ?_, ?_, fun q hq => ?_, ?_⟩
  · rw [hs 31 1 (by omega), e 0 6 (by decide)]
    exact h.dg
  · rw [hs 32 i (by omega), e 1 i (by decide)]
    exact h.num i hi
  · rw [hs 33 j (by omega), e (3 + j) 1 (by omega)]
    exact h.kd j h1 h2
  · rw [em (3 + j) 1 (by omega), hs 34 j (by omega), e (3 + j) 2 (by omega)]
    exact h.ly j h1 h2
  · rw [em (3 + j) 1 (by omega)]
    intro h3 i hi
    rw [hs 35 _ (by omega), e (12 + j) i (by omega)]
    exact h.kp j h1 h2 h3 i hi
  · rw [hs 31 6 (by omega), e 22 2 (by decide)]
    exact h.as
  · have := h.lb q hq
    unfold mi at this ⊢
    rw [hs 36 q (by omega)]
    exact this
  · rw [em 22 2 (by decide)]
    intro h1
    obtain ⟨q1, q2, q3, q4, q5⟩ := h.qs h1
    rw [hs 31 7 (by omega), hs 31 8 (by omega), hs 31 10 (by omega), e 22 4 (by decide), e 22 5 (by decide), e 22 3 (by decide), em 22 5 (by decide), em 22 3 (by decide), em 22 7 (by decide), ex]
    refine ⟨q1, q2, fun k e9 hk he => ?_, q4, fun h3 e9 he => ?_⟩
    · rw [hs 36 _ (by omega), e 23 _ (by decide)]
      exact q3 k e9 hk he
    · rw [hs 37 _ (by omega), e 24 _ (by decide)]
      exact q5 h3 e9 he
theorem ev_X5_copyOf {M : Mem} (hI : InvQ M) {j i : Nat} (h1 : 1 ≤ j) (h2 : j < 10) (hi : i < 8) : EvF yX5_copyOf cX5_copyOf 3 (some .int) 0 [.ref 31, .int (zI j), .int (zI i)] M (some (.int (M (hc M j) i))) M := by
  refine EvF.of (by decide +kernel) (Nat.le_of_ble_eq_true rfl) (fun Q hQ => ?_)
  have hk := hI.kd j h1 h2
  refine g_aload_n rfl dX5_copyOf_0 ?_
  refine gf_X5_17 (by decide) rfl rfl dX5_copyOf_1 ?_
  refine g_iload_n rfl dX5_copyOf_4 ?_
  refine g_iald (n := 10) (by decide) rfl rfl (zI_in (by omega) (by omega) (by decide)) dX5_copyOf_5 ?_
  rw [zI_clamp (by omega) (by omega), show ((j : Nat) : Int).toNat = j from rfl, hk]
  refine g_iconst dX5_copyOf_6 ?_
  refine g_icmp_ne (tgt := 24) dX5_copyOf_7 (by decide) (fun c7 => ?_) (fun c7 => ?_)
  · refine g_aload_n rfl dX5_copyOf_24 ?_
    refine gf_X5_13 (by decide) rfl rfl dX5_copyOf_25 ?_
    refine g_iload_n rfl dX5_copyOf_28 ?_
    refine g_iald (n := 8) (by decide) rfl rfl (zI_in (by omega) (by omega) (by decide)) dX5_copyOf_29 ?_
    rw [zI_clamp (by omega) (by omega), show ((i : Nat) : Int).toNat = i from rfl, hI.num i hi]
    refine g_ireturn rfl dX5_copyOf_30 ?_
    rw [eqz_mi (by decide) (by decide)] at c7
    rw [hc, if_neg c7] at hQ
    exact hQ
  · refine g_aload_n rfl dX5_copyOf_10 ?_
    refine gf_X5_23 (by decide) rfl rfl dX5_copyOf_11 ?_
    refine g_bipush (by decide) dX5_copyOf_14 ?_
    refine g_iload_n rfl dX5_copyOf_16 ?_
    refine g_imul dX5_copyOf_17 ?_
    refine g_iload_n rfl dX5_copyOf_18 ?_
    refine g_iadd dX5_copyOf_19 ?_
    rw [zI_mul, zI_add, show (8 : Int) * (j : Nat) + (i : Nat) = ((8 * j + i : Nat) : Int) by omega]
    refine g_iald (n := 80) (by decide) rfl rfl (zI_in (by omega) (by omega) (by decide)) dX5_copyOf_20 ?_
    rw [zI_clamp (by omega) (by omega), show ((8 * j + i : Nat) : Int).toNat = 8 * j + i from rfl]
    refine g_goto (tgt := 30) dX5_copyOf_21 (by decide) ?_
    refine g_ireturn rfl dX5_copyOf_30 ?_
    rw [eqz_mi (by decide) (by decide)] at c7
    rw [hc, if_pos c7] at hQ
    rw [hI.kp j h1 h2 c7 i hi]
    exact hQ
/-- the copy that the reference sums: 0 means the records -/
def cpM (M : Mem) (j : Nat) : Nat → Int := if j = 0 then mi M 1 else mi M (hc M j)
theorem cpM_bd {M : Mem} (hw : WX M) {j : Nat} (h2 : j < 10) : ∀ i, i < 8 → 0 ≤ cpM M j i ∧ cpM M j i < 97 := by
  intro i hi
  unfold cpM
  split
  · exact hw.num i hi
  · exact hw.hcb (by omega) h2 i hi
theorem ev_X5_sumOf {M : Mem} (hw : WX M) (hI : InvQ M) {j : Nat} (h2 : j < 10) {x0 x1 x2 : Int32} (hx : ∀ k, k < xm M → okN (pt3 x0 x1 x2 k)) : EvF yX5_sumOf cX5_sumOf 10 (some .int) 1 [.ref 31, .int (zI j), .int x0, .int x1, .int x2] M (some (.int (zI (sumW (cpM M j) (fun k => (pt3 x0 x1 x2 k).toInt) (xm M) (2 ^ xm M) % 97)))) M := by
  refine EvF.of (by decide +kernel) (Nat.le_of_ble_eq_true rfl) (fun Q hQ => ?_)
  obtain ⟨hm1, hm2, -, hm⟩ := hw.m
  have hdg : M 31 1 = zI (xm M) := hI.dg.trans hm
  have h8 := p2_8 hm1 hm2
  have hz := p2_z (xm M)
  have hcb := cpM_bd hw h2
  have inner : ∀ (d q : Nat), d + q = xm M → ∀ (i : Nat) (w pt : Int), i < 2 ^ xm M → 0 ≤ pt → pt < 97 → cgr pt (cpM M j i * prodW (fun k => (pt3 x0 x1 x2 k).toInt) i q) →
      (∀ pt' : Int, 0 ≤ pt' → pt' < 97 → cgr pt' (cpM M j i * prodW (fun k => (pt3 x0 x1 x2 k).toInt) i (xm M)) → G yX5_sumOf.cls cX5_sumOf 10 (some .int) (gE 1 Q) 110 [(0, .ref 31), (1, .int (zI j)), (2, .int x0), (3, .int x1), (4, .int x2), (5, .int (zI w)), (6, .int (zI i)), (7, .int (zI pt'))] [] M) →
      G yX5_sumOf.cls cX5_sumOf 10 (some .int) (gE 1 Q) 41 [(0, .ref 31), (1, .int (zI j)), (2, .int x0), (3, .int x1), (4, .int x2), (5, .int (zI w)), (6, .int (zI i)), (7, .int (zI pt)), (8, .int (zI q))] [] M := by
    intro d
    induction d with
    | zero =>
      intro q hq i w pt hi hp1 hp2 hp K
      refine g_iload rfl dX5_sumOf_41 ?_
      refine g_aload_n rfl dX5_sumOf_43 ?_
      refine gf_X5_7 (by decide) rfl dX5_sumOf_44 ?_
      rw [hdg]
      refine g_icmp_ge (tgt := 110) dX5_sumOf_47 (by decide) (fun c47 => ?_) (fun c47 => ?_)
      · refine g_locp [0, 1, 2, 3, 4, 5, 6, 7] rfl ?_
        obtain rfl : q = xm M := by omega
        exact K pt hp1 hp2 hp
      · exact n_lt_of c47 (by omega) (by omega) (by omega) (by omega) (by omega)
    | succ d ih =>
      intro q hq i w pt hi hp1 hp2 hp K
      have hxq := hx q (by omega)
      have hsh : zI (i : Int) >>> (zI (q : Int) &&& 31) &&& zI 1 = zI ((i : Int) / 2 ^ q % 2) := by
        have h4 : 0 ≤ (i : Int) / 2 ^ q := Int.ediv_nonneg (by omega) (by exact Int.le_of_lt (Int.pow_pos (by decide)))
        have h5 : (i : Int) / 2 ^ q ≤ i := Int.ediv_le_self _ (by omega)
        rw [zI_shr (by omega) (by omega) (by omega), zI_and1 h4 (by omega)]
      have tail : ∀ x, x = pt3 x0 x1 x2 q → G yX5_sumOf.cls cX5_sumOf 10 (some .int) (gE 1 Q) 71 [(0, .ref 31), (1, .int (zI j)), (2, .int x0), (3, .int x1), (4, .int x2), (5, .int (zI w)), (6, .int (zI i)), (7, .int (zI pt)), (8, .int (zI q))] [.int x] M := by
        intro x hxe
        subst hxe
        refine g_istore (L2 := [(0, _), (1, _), (2, _), (3, _), (4, _), (5, _), (6, _), (7, _), (8, _), (9, _)]) (by decide) rfl dX5_sumOf_71 ?_
        refine g_iload rfl dX5_sumOf_73 ?_
        refine g_iload rfl dX5_sumOf_75 ?_
        refine g_iload rfl dX5_sumOf_77 ?_
        refine g_ishr dX5_sumOf_79 ?_
        refine g_iconst dX5_sumOf_80 ?_
        refine g_iand dX5_sumOf_81 ?_
        rw [hsh]
        refine g_iconst dX5_sumOf_82 ?_
        refine g_icmp_ne (tgt := 91) dX5_sumOf_83 (by decide) (fun c83 => ?_) (fun c83 => ?_)
        · refine g_iconst dX5_sumOf_91 ?_
          refine g_iload rfl dX5_sumOf_92 ?_
          refine g_isub dX5_sumOf_94 ?_
          rw [← zI_of (pt3 x0 x1 x2 q), zI_sub]
          refine gi_X5_67 (ev_X5_mod (z := 1 - (pt3 x0 x1 x2 q).toInt) (by omega) (by omega) M) rfl rfl ⟨Nat.le_of_ble_eq_true rfl, Nat.le_of_ble_eq_true rfl, Nat.le_of_ble_eq_true rfl, Nat.le_of_ble_eq_true rfl⟩ (Nat.le_of_ble_eq_true rfl) dX5_sumOf_95 (fun r95 M95 hq95 => ?_)
          obtain ⟨rfl, rfl⟩ := hq95
          refine g_imul dX5_sumOf_98 ?_
          first
          | rw [zI_mul]
          | rw [← zI_of (pt3 x0 x1 x2 q), zI_mul]
          refine gi_X5_67 (ev_X5_mod (by first | exact Int.le_trans (by decide) (mul_bd hp1 hp2 (md_bd (1 - (pt3 x0 x1 x2 q).toInt)).1 (Int.lt_trans (md_bd _).2 (by decide))).1 | exact Int.le_trans (by decide) (mul_bd hp1 hp2 hxq.1 (Int.lt_trans hxq.2 (by decide))).1) (by first | exact Int.lt_trans (mul_bd hp1 hp2 (md_bd (1 - (pt3 x0 x1 x2 q).toInt)).1 (Int.lt_trans (md_bd _).2 (by decide))).2 (by decide) | exact Int.lt_trans (mul_bd hp1 hp2 hxq.1 (Int.lt_trans hxq.2 (by decide))).2 (by decide)) M) rfl rfl ⟨Nat.le_of_ble_eq_true rfl, Nat.le_of_ble_eq_true rfl, Nat.le_of_ble_eq_true rfl, Nat.le_of_ble_eq_true rfl⟩ (Nat.le_of_ble_eq_true rfl) dX5_sumOf_99 (fun r99 M99 hq99 => ?_)
          obtain ⟨rfl, rfl⟩ := hq99
          refine g_istore (L2 := [(0, _), (1, _), (2, _), (3, _), (4, _), (5, _), (6, _), (7, _), (8, _), (9, _)]) (by decide) rfl dX5_sumOf_102 ?_
          refine g_iinc (L2 := [(0, _), (1, _), (2, _), (3, _), (4, _), (5, _), (6, _), (7, _), (8, _), (9, _)]) rfl (by decide) rfl dX5_sumOf_104 ?_
          refine g_goto (tgt := 41) dX5_sumOf_107 (by decide) ?_
          refine g_locp [0, 1, 2, 3, 4, 5, 6, 7, 8] rfl ?_
          rw [zI_add]
          refine ih (q + 1) (by omega) i w _ hi (md_bd _).1 (md_bd _).2 ?_ K
          rw [zI_eqz (by omega) (by omega) (by omega) (by omega)] at c83
          rw [prodW, if_neg c83, ← Int.mul_assoc]
          exact cg_t (cg_m _) (cg_x hp (cg_m _))
        · refine g_iload rfl dX5_sumOf_86 ?_
          refine g_goto (tgt := 98) dX5_sumOf_88 (by decide) ?_
          refine g_imul dX5_sumOf_98 ?_
          first
          | rw [zI_mul]
          | rw [← zI_of (pt3 x0 x1 x2 q), zI_mul]
          refine gi_X5_67 (ev_X5_mod (by first | exact Int.le_trans (by decide) (mul_bd hp1 hp2 (md_bd (1 - (pt3 x0 x1 x2 q).toInt)).1 (Int.lt_trans (md_bd _).2 (by decide))).1 | exact Int.le_trans (by decide) (mul_bd hp1 hp2 hxq.1 (Int.lt_trans hxq.2 (by decide))).1) (by first | exact Int.lt_trans (mul_bd hp1 hp2 (md_bd (1 - (pt3 x0 x1 x2 q).toInt)).1 (Int.lt_trans (md_bd _).2 (by decide))).2 (by decide) | exact Int.lt_trans (mul_bd hp1 hp2 hxq.1 (Int.lt_trans hxq.2 (by decide))).2 (by decide)) M) rfl rfl ⟨Nat.le_of_ble_eq_true rfl, Nat.le_of_ble_eq_true rfl, Nat.le_of_ble_eq_true rfl, Nat.le_of_ble_eq_true rfl⟩ (Nat.le_of_ble_eq_true rfl) dX5_sumOf_99 (fun r99 M99 hq99 => ?_)
          obtain ⟨rfl, rfl⟩ := hq99
          refine g_istore (L2 := [(0, _), (1, _), (2, _), (3, _), (4, _), (5, _), (6, _), (7, _), (8, _), (9, _)]) (by decide) rfl dX5_sumOf_102 ?_
          refine g_iinc (L2 := [(0, _), (1, _), (2, _), (3, _), (4, _), (5, _), (6, _), (7, _), (8, _), (9, _)]) rfl (by decide) rfl dX5_sumOf_104 ?_
          refine g_goto (tgt := 41) dX5_sumOf_107 (by decide) ?_
          refine g_locp [0, 1, 2, 3, 4, 5, 6, 7, 8] rfl ?_
          rw [zI_add]
          refine ih (q + 1) (by omega) i w _ hi (md_bd _).1 (md_bd _).2 ?_ K
          rw [zI_eqz (by omega) (by omega) (by omega) (by omega)] at c83
          rw [prodW, if_pos c83, ← Int.mul_assoc]
          exact cg_t (cg_m _) (cg_x hp (cg_r _))
      refine g_iload rfl dX5_sumOf_41 ?_
      refine g_aload_n rfl dX5_sumOf_43 ?_
      refine gf_X5_7 (by decide) rfl dX5_sumOf_44 ?_
      rw [hdg]
      refine g_icmp_ge (tgt := 110) dX5_sumOf_47 (by decide) (fun c47 => ?_) (fun c47 => ?_)
      · exact n_le_of c47 (by omega) (by omega) (by omega) (by omega) (by omega)
      · refine g_iload rfl dX5_sumOf_50 ?_
        refine g_if_ne (tgt := 59) dX5_sumOf_52 (by decide) (fun c52 => ?_) (fun c52 => ?_)
        · refine g_iload rfl dX5_sumOf_59 ?_
          refine g_iconst dX5_sumOf_61 ?_
          refine g_icmp_ne (tgt := 69) dX5_sumOf_62 (by decide) (fun c62 => ?_) (fun c62 => ?_)
          · refine g_iload rfl dX5_sumOf_69 ?_
            rw [zI_zero, zI_eqz (by omega) (by omega) (by decide) (by decide)] at c52
            rw [zI_eqz (by omega) (by omega) (by decide) (by decide)] at c62
            exact tail _ (by unfold pt3; rw [if_neg (by omega), if_neg (by omega)])
          · refine g_iload_n rfl dX5_sumOf_65 ?_
            refine g_goto (tgt := 71) dX5_sumOf_66 (by decide) ?_
            rw [zI_zero, zI_eqz (by omega) (by omega) (by decide) (by decide)] at c52
            rw [zI_eqz (by omega) (by omega) (by decide) (by decide)] at c62
            exact tail _ (by unfold pt3; rw [if_neg (by omega), if_pos (by omega)])
        · refine g_iload_n rfl dX5_sumOf_55 ?_
          refine g_goto (tgt := 71) dX5_sumOf_56 (by decide) ?_
          rw [zI_zero, zI_eqz (by omega) (by omega) (by decide) (by decide)] at c52
          exact tail _ (by unfold pt3; rw [if_pos (by omega)])
  have outer : ∀ (d i : Nat), d + i = 2 ^ xm M → ∀ (w : Int), 0 ≤ w → w < 97 → cgr w (sumW (cpM M j) (fun k => (pt3 x0 x1 x2 k).toInt) (xm M) i) →
      G yX5_sumOf.cls cX5_sumOf 10 (some .int) (gE 1 Q) 6 [(0, .ref 31), (1, .int (zI j)), (2, .int x0), (3, .int x1), (4, .int x2), (5, .int (zI w)), (6, .int (zI i))] [] M := by
    intro d
    induction d with
    | zero =>
      intro i hi w hw1 hw2 hw
      refine g_iload rfl dX5_sumOf_6 ?_
      refine g_aload_n rfl dX5_sumOf_8 ?_
      refine gi_X5_57 (by decide) rfl (ev_X5_size hm1 hm2 hdg) rfl rfl ⟨Nat.le_of_ble_eq_true rfl, Nat.le_of_ble_eq_true rfl, Nat.le_of_ble_eq_true rfl, Nat.le_of_ble_eq_true rfl⟩ (Nat.le_of_ble_eq_true rfl) dX5_sumOf_9 (fun r9 M9 hq9 => ?_)
      obtain ⟨rfl, rfl⟩ := hq9
      refine g_icmp_ge (tgt := 126) dX5_sumOf_12 (by decide) (fun c12 => ?_) (fun c12 => ?_)
      · refine g_iload rfl dX5_sumOf_126 ?_
        refine g_ireturn rfl dX5_sumOf_128 ?_
        rw [cg_lt hw hw1 hw2]
        obtain rfl : i = 2 ^ xm M := by omega
        exact hQ
      · exact n_lt_of c12 (by omega) (by omega) (by omega) (by omega) (by omega)
    | succ d ih =>
      intro i hi w hw1 hw2 hw
      have hci := hcb i (by omega)
      have tail : ∀ x, x = zI (cpM M j i) → G yX5_sumOf.cls cX5_sumOf 10 (some .int) (gE 1 Q) 36 [(0, .ref 31), (1, .int (zI j)), (2, .int x0), (3, .int x1), (4, .int x2), (5, .int (zI w)), (6, .int (zI i))] [.int x] M := by
        intro x hxe
        subst hxe
        refine g_istore (L2 := [(0, _), (1, _), (2, _), (3, _), (4, _), (5, _), (6, _), (7, _)]) (by decide) rfl dX5_sumOf_36 ?_
        refine g_iconst dX5_sumOf_38 ?_
        refine g_istore (L2 := [(0, _), (1, _), (2, _), (3, _), (4, _), (5, _), (6, _), (7, _), (8, _)]) (by decide) rfl dX5_sumOf_39 ?_
        refine inner (xm M) 0 (by omega) i w _ (by omega) hci.1 hci.2 (by rw [prodW, Int.mul_one]; exact cg_r _) (fun pt' hp1 hp2 hp => ?_)
        refine g_iload rfl dX5_sumOf_110 ?_
        refine g_iload rfl dX5_sumOf_112 ?_
        refine g_iadd dX5_sumOf_114 ?_
        rw [zI_add]
        refine gi_X5_67 (ev_X5_mod (z := w + pt') (by omega) (by omega) M) rfl rfl ⟨Nat.le_of_ble_eq_true rfl, Nat.le_of_ble_eq_true rfl, Nat.le_of_ble_eq_true rfl, Nat.le_of_ble_eq_true rfl⟩ (Nat.le_of_ble_eq_true rfl) dX5_sumOf_115 (fun r115 M115 hq115 => ?_)
        obtain ⟨rfl, rfl⟩ := hq115
        refine g_istore (L2 := [(0, _), (1, _), (2, _), (3, _), (4, _), (5, _), (6, _), (7, _)]) (by decide) rfl dX5_sumOf_118 ?_
        refine g_iinc (L2 := [(0, _), (1, _), (2, _), (3, _), (4, _), (5, _), (6, _), (7, _)]) rfl (by decide) rfl dX5_sumOf_120 ?_
        refine g_goto (tgt := 6) dX5_sumOf_123 (by decide) ?_
        refine g_locp [0, 1, 2, 3, 4, 5, 6] rfl ?_
        rw [zI_add]
        refine ih (i + 1) (by omega) _ (md_bd _).1 (md_bd _).2 ?_
        rw [sumW]
        exact cg_t (cg_m _) (cg_a hw hp)
      refine g_iload rfl dX5_sumOf_6 ?_
      refine g_aload_n rfl dX5_sumOf_8 ?_
      refine gi_X5_57 (by decide) rfl (ev_X5_size hm1 hm2 hdg) rfl rfl ⟨Nat.le_of_ble_eq_true rfl, Nat.le_of_ble_eq_true rfl, Nat.le_of_ble_eq_true rfl, Nat.le_of_ble_eq_true rfl⟩ (Nat.le_of_ble_eq_true rfl) dX5_sumOf_9 (fun r9 M9 hq9 => ?_)
      obtain ⟨rfl, rfl⟩ := hq9
      refine g_icmp_ge (tgt := 126) dX5_sumOf_12 (by decide) (fun c12 => ?_) (fun c12 => ?_)
      · exact n_le_of c12 (by omega) (by omega) (by omega) (by omega) (by omega)
      · refine g_iload_n rfl dX5_sumOf_15 ?_
        refine g_if_ne (tgt := 29) dX5_sumOf_16 (by decide) (fun c16 => ?_) (fun c16 => ?_)
        · refine g_aload_n rfl dX5_sumOf_29 ?_
          refine g_iload_n rfl dX5_sumOf_30 ?_
          refine g_iload rfl dX5_sumOf_31 ?_
          refine gi_X5_63 (by decide) rfl (ev_X5_copyOf (j := j) (i := i) hI (by rw [zI_zero, zI_eqz (by omega) (by omega) (by decide) (by decide)] at c16; omega) h2 (by omega)) rfl rfl ⟨Nat.le_of_ble_eq_true rfl, Nat.le_of_ble_eq_true rfl, Nat.le_of_ble_eq_true rfl, Nat.le_of_ble_eq_true rfl⟩ (Nat.le_of_ble_eq_true rfl) dX5_sumOf_33 (fun r33 M33 hq33 => ?_)
          obtain ⟨rfl, rfl⟩ := hq33
          rw [zI_zero, zI_eqz (by omega) (by omega) (by decide) (by decide)] at c16
          exact tail _ (by unfold cpM; rw [if_neg (by omega), mi_z])
        · refine g_aload_n rfl dX5_sumOf_19 ?_
          refine gf_X5_13 (by decide) rfl rfl dX5_sumOf_20 ?_
          refine g_iload rfl dX5_sumOf_23 ?_
          refine g_iald (n := 8) (by decide) rfl rfl (zI_in (by omega) (by omega) (by decide)) dX5_sumOf_25 ?_
          refine g_goto (tgt := 36) dX5_sumOf_26 (by decide) ?_
          rw [zI_zero, zI_eqz (by omega) (by omega) (by decide) (by decide)] at c16
          refine tail _ ?_
          unfold cpM
          rw [if_pos (by omega), mi_z, zI_clamp (by omega) (by omega)]
          exact hI.num i (by omega)
  refine g_iconst dX5_sumOf_0 ?_
  refine g_istore (L2 := [(0, _), (1, _), (2, _), (3, _), (4, _), (5, _)]) (by decide) rfl dX5_sumOf_1 ?_
  refine g_iconst dX5_sumOf_3 ?_
  refine g_istore (L2 := [(0, _), (1, _), (2, _), (3, _), (4, _), (5, _), (6, _)]) (by decide) rfl dX5_sumOf_4 ?_
  exact outer (2 ^ xm M) 0 (by omega) 0 (by decide) (by decide) (cg_r _)
