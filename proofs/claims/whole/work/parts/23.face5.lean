/-! class SilentAsking: what is learnt; what fits -/
def exB (p : Nat → Bool) : Nat → Bool
  | 0 => false
  | n + 1 => exB p n || p n
theorem exB_t {p : Nat → Bool} {i : Nat} (h : p i = true) : ∀ n, i < n → exB p n = true
  | 0, hi => absurd hi (by omega)
  | n + 1, hi => by
    unfold exB
    by_cases e : i = n
    · rw [← e, h, Bool.or_true]
    · rw [exB_t h n (by omega), Bool.true_or]
theorem exB_f {p : Nat → Bool} : ∀ n, (∀ i, i < n → p i = false) → exB p n = false
  | 0, _ => rfl
  | n + 1, h => by rw [exB, exB_f n (fun i hi => h i (by omega)), h n (by omega)]; rfl
/-- whether the ways tell the records apart -/
def appX (M : Mem) (set : Nat) : Bool := exB (fun i => decide (¬ cwX M set i = cwX M set 0)) (2 ^ xm M)
theorem ev_X4_tellsRecordsApart {M : Mem} (hw : WX M) {n : Nat} (hn : n < 1024) (h2 : 2 ≤ n) : EvF yX4_tellsRecordsApart cX4_tellsRecordsApart 3 (some .boolean) 2 [.ref 0, .int (zI n)] M (some (.int (bI (appX M n)))) M := by
  refine EvF.of (by decide +kernel) (Nat.le_of_ble_eq_true rfl) (fun Q hQ => ?_)
  obtain ⟨hm1, hm2, hm3, hm⟩ := hw.m
  have h8 := p2_8 hm1 hm2
  have hz := p2_z (xm M)
  have hpp := pop_pos n hn h2
  have hc0 := cwX_bd hw hpp 0
  have loop : ∀ (d q : Nat), d + q = 2 ^ xm M → (∀ i, i < q → (decide (¬ cwX M n i = cwX M n 0)) = false) → G yX4_tellsRecordsApart.cls cX4_tellsRecordsApart 3 (some .boolean) (gE 2 Q) 2 [(0, .ref 0), (1, .int (zI n)), (2, .int (zI q))] [] M := by
    intro d
    induction d with
    | zero =>
      intro q hq hk
      obtain rfl : q = 2 ^ xm M := by omega
      rw [appX, exB_f _ hk] at hQ
      refine g_iload_n rfl dX4_tellsRecordsApart_2 ?_
      refine g_aload_n rfl dX4_tellsRecordsApart_3 ?_
      refine gi_X4_60 (by decide) rfl (ev_X4_count hm1 hm2 hm) rfl rfl ⟨Nat.le_of_ble_eq_true rfl, Nat.le_of_ble_eq_true rfl, Nat.le_of_ble_eq_true rfl, Nat.le_of_ble_eq_true rfl⟩ (Nat.le_of_ble_eq_true rfl) dX4_tellsRecordsApart_4 (fun r4 M4 hq4 => ?_)
      obtain ⟨rfl, rfl⟩ := hq4
      refine g_icmp_ge (tgt := 40) dX4_tellsRecordsApart_7 (by decide) (fun c7 => ?_) (fun c7 => ?_)
      · refine g_iconst dX4_tellsRecordsApart_40 ?_
        refine g_zreturn rfl rfl dX4_tellsRecordsApart_41 ?_
        exact hQ
      · exact n_lt_of c7 (by omega) (by omega) (by omega) (by omega) (by omega)
    | succ d ih =>
      intro q hq hk
      have hcq := cwX_bd hw hpp q
      refine g_iload_n rfl dX4_tellsRecordsApart_2 ?_
      refine g_aload_n rfl dX4_tellsRecordsApart_3 ?_
      refine gi_X4_60 (by decide) rfl (ev_X4_count hm1 hm2 hm) rfl rfl ⟨Nat.le_of_ble_eq_true rfl, Nat.le_of_ble_eq_true rfl, Nat.le_of_ble_eq_true rfl, Nat.le_of_ble_eq_true rfl⟩ (Nat.le_of_ble_eq_true rfl) dX4_tellsRecordsApart_4 (fun r4 M4 hq4 => ?_)
      obtain ⟨rfl, rfl⟩ := hq4
      refine g_icmp_ge (tgt := 40) dX4_tellsRecordsApart_7 (by decide) (fun c7 => ?_) (fun c7 => ?_)
      · exact n_le_of c7 (by omega) (by omega) (by omega) (by omega) (by omega)
      · refine g_aload_n rfl dX4_tellsRecordsApart_10 ?_
        refine gf_X4_25 (by decide) rfl rfl dX4_tellsRecordsApart_11 ?_
        refine g_iload_n rfl dX4_tellsRecordsApart_14 ?_
        refine g_iload_n rfl dX4_tellsRecordsApart_15 ?_
        refine gi_X4_165 (by decide) rfl (ev_X1_countWays hw (set := n) (i := q) hn hpp (by omega) (by omega)) rfl rfl ⟨Nat.le_of_ble_eq_true rfl, Nat.le_of_ble_eq_true rfl, Nat.le_of_ble_eq_true rfl, Nat.le_of_ble_eq_true rfl⟩ (Nat.le_of_ble_eq_true rfl) dX4_tellsRecordsApart_16 (fun r16 M16 hq16 => ?_)
        obtain ⟨rfl, rfl⟩ := hq16
        refine g_aload_n rfl dX4_tellsRecordsApart_19 ?_
        refine gf_X4_25 (by decide) rfl rfl dX4_tellsRecordsApart_20 ?_
        refine g_iload_n rfl dX4_tellsRecordsApart_23 ?_
        refine g_iconst dX4_tellsRecordsApart_24 ?_
        refine gi_X4_165 (by decide) rfl (ev_X1_countWays hw (set := n) (i := 0) hn hpp (by omega) (by omega)) rfl rfl ⟨Nat.le_of_ble_eq_true rfl, Nat.le_of_ble_eq_true rfl, Nat.le_of_ble_eq_true rfl, Nat.le_of_ble_eq_true rfl⟩ (Nat.le_of_ble_eq_true rfl) dX4_tellsRecordsApart_25 (fun r25 M25 hq25 => ?_)
        obtain ⟨rfl, rfl⟩ := hq25
        refine g_lcmp dX4_tellsRecordsApart_28 ?_
        refine g_if_eq (tgt := 34) dX4_tellsRecordsApart_29 (by decide) (fun c29 => ?_) (fun c29 => ?_)
        · refine g_iinc (L2 := [(0, _), (1, _), (2, _)]) rfl (by decide) rfl dX4_tellsRecordsApart_34 ?_
          refine g_goto (tgt := 2) dX4_tellsRecordsApart_37 (by decide) ?_
          rw [lgc_0 (by omega) (by omega) (by omega) (by omega)] at c29
          rw [zI_add]
          refine ih (q + 1) (by omega) (fun i hi => ?_)
          by_cases e : i = q
          · rw [e]
            simp [c29]
          · exact hk i (by omega)
        · refine g_iconst dX4_tellsRecordsApart_32 ?_
          refine g_zreturn rfl rfl dX4_tellsRecordsApart_33 ?_
          rw [lgc_0 (by omega) (by omega) (by omega) (by omega)] at c29
          rw [appX, exB_t (i := q) (by simp [c29]) _ (by omega)] at hQ
          exact hQ
  refine g_iconst dX4_tellsRecordsApart_0 ?_
  refine g_istore_n (L2 := [(0, _), (1, _), (2, _)]) (by decide) rfl dX4_tellsRecordsApart_1 ?_
  refine loop (2 ^ xm M - 1) 1 (by omega) (fun i hi => ?_)
  obtain rfl : i = 0 := by omega
  simp
theorem ev_X4_learns {M : Mem} (hw : WX M) (s : Int32) : EvF yX4_learns cX4_learns 3 (some .int) 3 [.ref 0, .int s] M (some (.int (if rosX M s = 0 then bI (appX M s.toInt.toNat) else rosX M s))) M := by
  refine EvF.of (by decide +kernel) (Nat.le_of_ble_eq_true rfl) (fun Q hQ => ?_)
  have hro : (if M 22 2 = 0 then zI (-3) else if s = 0 ∨ ¬ s &&& zI (-1023) = 0 then zI (-2) else zI 0) = rosX M s := rfl
  refine g_aload_n rfl dX4_learns_0 ?_
  refine g_iload_n rfl dX4_learns_1 ?_
  refine gi_X4_162 (by decide) rfl (ev_X4_refusalOfSet s) rfl rfl ⟨Nat.le_of_ble_eq_true rfl, Nat.le_of_ble_eq_true rfl, Nat.le_of_ble_eq_true rfl, Nat.le_of_ble_eq_true rfl⟩ (Nat.le_of_ble_eq_true rfl) dX4_learns_2 (fun r2 M2 hq2 => ?_)
  obtain ⟨rfl, rfl⟩ := hq2
  refine g_istore_n (L2 := [(0, _), (1, _), (2, _)]) (by decide) rfl dX4_learns_5 ?_
  rw [hro]
  refine g_iload_n rfl dX4_learns_6 ?_
  refine g_if_eq (tgt := 12) dX4_learns_7 (by decide) (fun c7 => ?_) (fun c7 => ?_)
  · rw [if_pos c7] at hQ
    obtain ⟨h1, h2, h3, h4⟩ := rosX_0 c7
    obtain ⟨n, hn, rfl⟩ : ∃ n : Nat, n < 1024 ∧ s = zI n := ⟨s.toInt.toNat, by omega, by rw [Int.toNat_of_nonneg (by omega), zI_of]⟩
    rw [tiN (by omega)] at h2 h3 h4
    rw [tnN (by omega)] at hQ
    refine g_aload_n rfl dX4_learns_12 ?_
    refine g_iload_n rfl dX4_learns_13 ?_
    refine gi_X4_171 (by decide) rfl (ev_X4_tellsRecordsApart hw hn (by omega)) rfl rfl ⟨Nat.le_of_ble_eq_true rfl, Nat.le_of_ble_eq_true rfl, Nat.le_of_ble_eq_true rfl, Nat.le_of_ble_eq_true rfl⟩ (Nat.le_of_ble_eq_true rfl) dX4_learns_14 (fun r14 M14 hq14 => ?_)
    obtain ⟨rfl, rfl⟩ := hq14
    refine g_if_eq (tgt := 24) dX4_learns_17 (by decide) (fun c17 => ?_) (fun c17 => ?_)
    · refine g_iconst dX4_learns_24 ?_
      refine g_ireturn rfl dX4_learns_25 ?_
      rw [bI_0] at c17
      rw [c17] at hQ
      exact hQ
    · refine g_iconst dX4_learns_20 ?_
      refine g_goto (tgt := 25) dX4_learns_21 (by decide) ?_
      refine g_ireturn rfl dX4_learns_25 ?_
      rw [bI_n0] at c17
      rw [c17] at hQ
      exact hQ
  · refine g_iload_n rfl dX4_learns_10 ?_
    refine g_ireturn rfl dX4_learns_11 ?_
    rw [if_neg c7] at hQ
    exact hQ
/-- the first from k on, within d, that has p -/
def fstF (p : Nat → Bool) : Nat → Nat → Option Nat
  | 0, _ => none
  | d + 1, k => if p k = true then some k else fstF p d (k + 1)
def leaX (M : Mem) : Int32 := match fstF (fun k => appX M (2 * k)) 511 1 with
  | none => zI (-9)
  | some k => zI (2 * k : Nat)
theorem ev_X4_least {M : Mem} (hw : WX M) : EvF yX4_least cX4_least 2 (some .int) 3 [.ref 0] M (some (.int (if M 22 2 = 0 then zI (-3) else leaX M))) M := by
  refine EvF.of (by decide +kernel) (Nat.le_of_ble_eq_true rfl) (fun Q hQ => ?_)
  have loop : ∀ (d k : Nat), d + k = 512 → 1 ≤ k → Q (some (.int (match fstF (fun k => appX M (2 * k)) d k with | none => zI (-9) | some k => zI (2 * k : Nat)))) M → G yX4_least.cls cX4_least 2 (some .int) (gE 3 Q) 15 [(0, .ref 0), (1, .int (zI (2 * k : Nat)))] [] M := by
    intro d
    induction d with
    | zero =>
      intro k hk h1 hQ
      refine g_iload_n rfl dX4_least_15 ?_
      refine g_sipush (by decide) dX4_least_16 ?_
      refine g_icmp_gt (tgt := 38) dX4_least_19 (by decide) (fun c19 => ?_) (fun c19 => ?_)
      · refine g_bipush (by decide) dX4_least_38 ?_
        refine g_ireturn rfl dX4_least_40 ?_
        exact hQ
      · simp (disch := omega) only [i_lt, zI_toInt] at c19
        omega
    | succ d ih =>
      intro k hk h1 hQ
      rw [fstF] at hQ
      refine g_iload_n rfl dX4_least_15 ?_
      refine g_sipush (by decide) dX4_least_16 ?_
      refine g_icmp_gt (tgt := 38) dX4_least_19 (by decide) (fun c19 => ?_) (fun c19 => ?_)
      · simp (disch := omega) only [i_lt, zI_toInt] at c19
        omega
      · refine g_aload_n rfl dX4_least_22 ?_
        refine g_iload_n rfl dX4_least_23 ?_
        refine gi_X4_171 (by decide) rfl (ev_X4_tellsRecordsApart hw (n := 2 * k) (by omega) (by omega)) rfl rfl ⟨Nat.le_of_ble_eq_true rfl, Nat.le_of_ble_eq_true rfl, Nat.le_of_ble_eq_true rfl, Nat.le_of_ble_eq_true rfl⟩ (Nat.le_of_ble_eq_true rfl) dX4_least_24 (fun r24 M24 hq24 => ?_)
        obtain ⟨rfl, rfl⟩ := hq24
        refine g_if_eq (tgt := 32) dX4_least_27 (by decide) (fun c27 => ?_) (fun c27 => ?_)
        · refine g_iinc (L2 := [(0, _), (1, _)]) rfl (by decide) rfl dX4_least_32 ?_
          refine g_goto (tgt := 15) dX4_least_35 (by decide) ?_
          rw [bI_0] at c27
          rw [if_neg (by rw [c27]; decide)] at hQ
          rw [zI_add, show ((2 * k : Nat) : Int) + 2 = (2 * (k + 1) : Nat) by omega]
          exact ih (k + 1) (by omega) (by omega) hQ
        · refine g_iload_n rfl dX4_least_30 ?_
          refine g_ireturn rfl dX4_least_31 ?_
          rw [bI_n0] at c27
          rw [if_pos c27] at hQ
          exact hQ
  refine g_aload_n rfl dX4_least_0 ?_
  refine gf_X4_25 (by decide) rfl rfl dX4_least_1 ?_
  refine gf_X4_72 (by decide) rfl dX4_least_4 ?_
  refine g_if_ne (tgt := 13) dX4_least_7 (by decide) (fun c7 => ?_) (fun c7 => ?_)
  · refine g_iconst dX4_least_13 ?_
    refine g_istore_n (L2 := [(0, _), (1, _)]) (by decide) rfl dX4_least_14 ?_
    rw [if_neg c7] at hQ
    exact loop 511 1 (by omega) (by omega) hQ
  · refine g_bipush (by decide) dX4_least_10 ?_
    refine g_ireturn rfl dX4_least_12 ?_
    rw [if_pos c7] at hQ
    exact hQ
def fpS (n g : Nat) : Nat := (2 ^ (g + 1) - 1) * 2 ^ (n - (g + 1))
set_option maxRecDepth 100000 in
theorem fpS_ok : ∀ n, n < 10 → ∀ g, g < 7 → g + 1 ≤ n → fpS n g < 2 ^ n ∧ popN (fpS n g) = g + 1 := by decide +kernel
def fitB (M : Mem) (n : Nat) (v : Int32) : Bool := decide (cnOn (onX (curX M n (fpS (rowX M n).length (mi M 22 7).toNat))) (rowX M n) (rowX M n).length = (rowX M n).length) && decide (zI (newt (curX M n (fpS (rowX M n).length (mi M 22 7).toNat)) 0) = v)
theorem ev_X4_fits {M : Mem} (hw : WX M) (s v : Int32) : Ev yX4_fits cX4_fits 4 (some .int) 4 [.ref 0, .int s, .int v] M (fun r M1 => some (.int (if okS s ∧ okN v then (if rofX M s = 0 then bI (fitB M s.toInt.toNat v) else rofX M s) else zI (-2))) = r ∧ Sam M M1) := by
  refine Ev.of (by decide +kernel) (Nat.le_of_ble_eq_true rfl) (fun Q hQ => ?_)
  have hg := hw.dgb
  refine g_iload_n rfl dX4_fits_0 ?_
  refine gi_X4_83 (ev_X4_isStore s M) rfl rfl ⟨Nat.le_of_ble_eq_true rfl, Nat.le_of_ble_eq_true rfl, Nat.le_of_ble_eq_true rfl, Nat.le_of_ble_eq_true rfl⟩ (Nat.le_of_ble_eq_true rfl) dX4_fits_1 (fun r1 M1 hq1 => ?_)
  obtain ⟨rfl, rfl⟩ := hq1
  refine g_if_eq (tgt := 14) dX4_fits_4 (by decide) (fun c4 => ?_) (fun c4 => ?_)
  · have ck : ¬ (okS s ∧ okN v) := by
      first
      | (rw [bI_d0] at c4
         exact fun q => c4 q.1)
      | (rw [bI_d0] at c11
         exact fun q => c11 q.2)
    rw [if_neg ck] at hQ
    refine g_bipush (by decide) dX4_fits_14 ?_
    refine g_ireturn rfl dX4_fits_16 ?_
    exact hQ _ _ ⟨rfl, Sam.r M⟩
  · refine g_iload_n rfl dX4_fits_7 ?_
    refine gi_X4_80 (ev_X4_isNumber v M) rfl rfl ⟨Nat.le_of_ble_eq_true rfl, Nat.le_of_ble_eq_true rfl, Nat.le_of_ble_eq_true rfl, Nat.le_of_ble_eq_true rfl⟩ (Nat.le_of_ble_eq_true rfl) dX4_fits_8 (fun r8 M8 hq8 => ?_)
    obtain ⟨rfl, rfl⟩ := hq8
    refine g_if_ne (tgt := 17) dX4_fits_11 (by decide) (fun c11 => ?_) (fun c11 => ?_)
    · rw [bI_dn] at c4 c11
      rw [if_pos ⟨c4, c11⟩] at hQ
      refine g_aload_n rfl dX4_fits_17 ?_
      refine g_iload_n rfl dX4_fits_18 ?_
      refine gi_X4_134 (by decide) rfl (ev_X4_refusalOfFetch hw s) rfl rfl ⟨Nat.le_of_ble_eq_true rfl, Nat.le_of_ble_eq_true rfl, Nat.le_of_ble_eq_true rfl, Nat.le_of_ble_eq_true rfl⟩ (Nat.le_of_ble_eq_true rfl) dX4_fits_19 (fun r19 M19 hq19 => ?_)
      obtain ⟨rfl, rfl⟩ := hq19
      refine g_istore_n (L2 := [(0, _), (1, _), (2, _), (3, _)]) (by decide) rfl dX4_fits_22 ?_
      refine g_iload_n rfl dX4_fits_23 ?_
      refine g_if_eq (tgt := 29) dX4_fits_24 (by decide) (fun c24 => ?_) (fun c24 => ?_)
      · rw [if_pos c24] at hQ
        obtain ⟨h1, h2, h3⟩ := rofX_0 c24
        obtain ⟨n, hn1, hn2, rfl⟩ := okS_n h1
        rw [tnN (by omega)] at hQ h3
        have hlen := rowX_len M n
        have hl9 : (rowX M n).length ≤ 9 := by rw [hlen]; exact Nat.le_trans (cnt_le _ _) (by omega)
        have hok := rowX_ok M hn2
        obtain ⟨hf1, hf2⟩ := fpS_ok (rowX M n).length (by omega) (mi M 22 7).toNat (by omega) (by omega)
        have h512 : 2 ^ (rowX M n).length ≤ 2 ^ 9 := Nat.pow_le_pow_right (by decide) hl9
        have hlf := lenF_pop (rowX M n).length (by omega) (fpS (rowX M n).length (mi M 22 7).toNat) (by omega) hf1
        have hpk := pkS_ok hok (rowX M n).length (fpS (rowX M n).length (mi M 22 7).toNat) (rowX M n).length (Nat.le_refl _)
        have hlen7 : (curX M n (fpS (rowX M n).length (mi M 22 7).toNat)).length ≤ 7 := by
          unfold curX
          rw [layP_len hpk, pkS_len]
          omega
        have hcle := cnOn_le (onX (curX M n (fpS (rowX M n).length (mi M 22 7).toNat))) (rowX M n) (rowX M n).length
        have hnb := newt_bd (curX M n (fpS (rowX M n).length (mi M 22 7).toNat)) 0
        refine g_aload_n rfl dX4_fits_29 ?_
        refine g_iload_n rfl dX4_fits_30 ?_
        refine gi_X4_137 (by decide) rfl (ev_X4_hearStores hw (s := n) hn2) rfl rfl ⟨Nat.le_of_ble_eq_true rfl, Nat.le_of_ble_eq_true rfl, Nat.le_of_ble_eq_true rfl, Nat.le_of_ble_eq_true rfl⟩ (Nat.le_of_ble_eq_true rfl) dX4_fits_31 (fun r31 M31 hq31 => ?_)
        obtain ⟨rfl, hs1, hr1⟩ := hq31
        have hr1 : RowIs M31 (rowX M n) := hr1
        have e227 : M31 22 7 = zI ((mi M 22 7).toNat : Int) := by
          rw [hs1 22 (Or.inl (by decide)), ← mi_z M 22 7]
          congr 1
          omega
        refine g_aload_n rfl dX4_fits_34 ?_
        refine gf_X4_39 (by decide) rfl rfl dX4_fits_35 ?_
        refine g_aload_n rfl dX4_fits_38 ?_
        refine gf_X4_32 (by decide) rfl rfl dX4_fits_39 ?_
        refine g_aload_n rfl dX4_fits_42 ?_
        refine gi_X4_174 (by decide) rfl (ev_X4_firstPicks (n := (rowX M n).length) (g := (mi M 22 7).toNat) hr1.1 e227 (by omega) (by omega) hl9) rfl rfl ⟨Nat.le_of_ble_eq_true rfl, Nat.le_of_ble_eq_true rfl, Nat.le_of_ble_eq_true rfl, Nat.le_of_ble_eq_true rfl⟩ (Nat.le_of_ble_eq_true rfl) dX4_fits_43 (fun r43 M43 hq43 => ?_)
        obtain ⟨rfl, rfl⟩ := hq43
        refine gi_X4_177 (by decide) rfl (ev_X0_layThrough hr1 hl9 hok (picks := fpS (rowX M n).length (mi M 22 7).toNat) (by omega) (by omega)) rfl rfl ⟨Nat.le_of_ble_eq_true rfl, Nat.le_of_ble_eq_true rfl, Nat.le_of_ble_eq_true rfl, Nat.le_of_ble_eq_true rfl⟩ (Nat.le_of_ble_eq_true rfl) dX4_fits_46 (fun r46 M46 hq46 => ?_)
        obtain ⟨rfl, hs2, hc2⟩ := hq46
        have hr2 := hs2.row hr1
        have hc2 : CurIs M46 (curX M n (fpS (rowX M n).length (mi M 22 7).toNat)) := hc2
        have hco : curOk (curX M n (fpS (rowX M n).length (mi M 22 7).toNat)) := layP_ok hpk
        refine g_aload_n rfl dX4_fits_49 ?_
        refine gf_X4_32 (by decide) rfl rfl dX4_fits_50 ?_
        refine g_aload_n rfl dX4_fits_53 ?_
        refine gf_X4_39 (by decide) rfl rfl dX4_fits_54 ?_
        refine gi_X4_181 (by decide) rfl (ev_X2_countOn hr2 hl9 hok hc2 hco hlen7) rfl rfl ⟨Nat.le_of_ble_eq_true rfl, Nat.le_of_ble_eq_true rfl, Nat.le_of_ble_eq_true rfl, Nat.le_of_ble_eq_true rfl⟩ (Nat.le_of_ble_eq_true rfl) dX4_fits_57 (fun r57 M57 hq57 => ?_)
        obtain ⟨rfl, rfl⟩ := hq57
        refine g_aload_n rfl dX4_fits_60 ?_
        refine gf_X4_32 (by decide) rfl rfl dX4_fits_61 ?_
        refine gf_X4_140 (by decide) rfl dX4_fits_64 ?_
        rw [hr2.1]
        refine g_icmp_ne (tgt := 86) dX4_fits_67 (by decide) (fun c67 => ?_) (fun c67 => ?_)
        · refine g_iconst dX4_fits_86 ?_
          refine g_ireturn rfl dX4_fits_87 ?_
          rw [zI_eqz (by omega) (by omega) (by omega) (by omega)] at c67
          refine hQ _ _ ⟨?_, hs1.t hs2.sam⟩
          rw [fitB, decide_eq_false (by omega), Bool.false_and]
          rfl
        · refine g_aload_n rfl dX4_fits_70 ?_
          refine gf_X4_39 (by decide) rfl rfl dX4_fits_71 ?_
          refine g_iconst dX4_fits_74 ?_
          refine gi_X4_153 (by decide) rfl (ev_X0_at (x := 0) hc2 hco hlen7 (by decide) (by decide)) rfl rfl ⟨Nat.le_of_ble_eq_true rfl, Nat.le_of_ble_eq_true rfl, Nat.le_of_ble_eq_true rfl, Nat.le_of_ble_eq_true rfl⟩ (Nat.le_of_ble_eq_true rfl) dX4_fits_75 (fun r75 M75 hq75 => ?_)
          obtain ⟨rfl, rfl⟩ := hq75
          refine g_iload_n rfl dX4_fits_78 ?_
          refine g_icmp_ne (tgt := 86) dX4_fits_79 (by decide) (fun c79 => ?_) (fun c79 => ?_)
          · refine g_iconst dX4_fits_86 ?_
            refine g_ireturn rfl dX4_fits_87 ?_
            refine hQ _ _ ⟨?_, hs1.t hs2.sam⟩
            rw [fitB, decide_eq_false c79, Bool.and_false]
            rfl
          · refine g_iconst dX4_fits_82 ?_
            refine g_goto (tgt := 87) dX4_fits_83 (by decide) ?_
            refine g_ireturn rfl dX4_fits_87 ?_
            rw [zI_eqz (by omega) (by omega) (by omega) (by omega)] at c67
            refine hQ _ _ ⟨?_, hs1.t hs2.sam⟩
            rw [fitB, decide_eq_true (by omega), decide_eq_true c79]
            rfl
      · refine g_iload_n rfl dX4_fits_27 ?_
        refine g_ireturn rfl dX4_fits_28 ?_
        rw [if_neg c24] at hQ
        exact hQ _ _ ⟨rfl, Sam.r M⟩
    · have ck : ¬ (okS s ∧ okN v) := by
        first
        | (rw [bI_d0] at c4
           exact fun q => c4 q.1)
        | (rw [bI_d0] at c11
           exact fun q => c11 q.2)
      rw [if_neg ck] at hQ
      refine g_bipush (by decide) dX4_fits_14 ?_
      refine g_ireturn rfl dX4_fits_16 ?_
      exact hQ _ _ ⟨rfl, Sam.r M⟩
