/-! class SilentAsking: fetching and what is known -/
theorem lgc_0 {a b : Int} (h1 : -1000 ≤ a) (h2 : a < 10000000) (h3 : -1000 ≤ b) (h4 : b < 10000000) : lg_cmp (zL a) (zL b) = 0 ↔ a = b := by
  have hlt : zL b < zL a ↔ b < a := by rw [Int64.lt_iff_toInt_lt, zL_toInt (by omega) (by omega), zL_toInt (by omega) (by omega)]
  have heq : zL a = zL b ↔ a = b := by rw [← Int64.toInt_inj, zL_toInt (by omega) (by omega), zL_toInt (by omega) (by omega)]
  unfold lg_cmp
  by_cases c1 : b < a
  · rw [if_pos (hlt.mpr c1)]
    exact ⟨fun q => absurd q (by decide), fun q => by omega⟩
  · rw [if_neg (fun q => c1 (hlt.mp q))]
    by_cases c2 : a = b
    · rw [if_pos (heq.mpr c2)]
      exact ⟨fun _ => c2, fun _ => rfl⟩
    · rw [if_neg (fun q => c2 (heq.mp q))]
      exact ⟨fun q => absurd q (by decide), fun q => absurd q c2⟩
theorem lgc_p {a b : Int} (h1 : -1000 ≤ a) (h2 : a < 10000000) (h3 : -1000 ≤ b) (h4 : b < 10000000) : lg_cmp (zL a) (zL b) ≤ 0 ↔ a ≤ b := by
  have hlt : zL b < zL a ↔ b < a := by rw [Int64.lt_iff_toInt_lt, zL_toInt (by omega) (by omega), zL_toInt (by omega) (by omega)]
  have heq : zL a = zL b ↔ a = b := by rw [← Int64.toInt_inj, zL_toInt (by omega) (by omega), zL_toInt (by omega) (by omega)]
  unfold lg_cmp
  by_cases c1 : b < a
  · rw [if_pos (hlt.mpr c1)]
    exact ⟨fun q => absurd q (by decide), fun q => by omega⟩
  · rw [if_neg (fun q => c1 (hlt.mp q))]
    refine ⟨fun _ => by omega, fun _ => ?_⟩
    by_cases c2 : a = b
    · rw [if_pos (heq.mpr c2)]
      decide
    · rw [if_neg (fun q => c2 (heq.mp q))]
      decide
theorem Sam.both {M M1 : Mem} (h : Sam M M1) (k j : Nat) (v : Int32) : Sam (mset M k j v) (mset M1 k j v) := by
  intro a ha
  funext b
  unfold mset
  by_cases hk : a = k
  · rw [if_pos hk, if_pos hk, h a ha]
  · rw [if_neg hk, if_neg hk, h a ha]
def rofX (M : Mem) (s : Int32) : Int32 := if okS s then (if ¬ M 22 2 = 0 ∧ mi M 22 7 < (cnt (tells M) s.toInt.toNat : Nat) then zI 0 else zI (-3)) else zI (-2)
theorem ev_X4_refusalOfFetch {M : Mem} (hw : WX M) (s : Int32) : EvF yX4_refusalOfFetch cX4_refusalOfFetch 2 (some .int) 2 [.ref 0, .int s] M (some (.int (rofX M s))) M := by
  refine EvF.of (by decide +kernel) (Nat.le_of_ble_eq_true rfl) (fun Q hQ => ?_)
  have hg := hw.dgb
  have hcl := cnt_le (tells M)
  rw [rofX] at hQ
  refine g_iload_n rfl dX4_refusalOfFetch_0 ?_
  refine gi_X4_83 (ev_X4_isStore s M) rfl rfl ⟨Nat.le_of_ble_eq_true rfl, Nat.le_of_ble_eq_true rfl, Nat.le_of_ble_eq_true rfl, Nat.le_of_ble_eq_true rfl⟩ (Nat.le_of_ble_eq_true rfl) dX4_refusalOfFetch_1 (fun r1 M1 hq1 => ?_)
  obtain ⟨rfl, rfl⟩ := hq1
  refine g_if_ne (tgt := 10) dX4_refusalOfFetch_4 (by decide) (fun c4 => ?_) (fun c4 => ?_)
  · rw [bI_dn] at c4
    rw [if_pos c4] at hQ
    obtain ⟨n, hn1, hn2, rfl⟩ := okS_n c4
    rw [tnN (by omega)] at hQ
    have hcn := hcl n
    refine g_aload_n rfl dX4_refusalOfFetch_10 ?_
    refine gf_X4_25 (by decide) rfl rfl dX4_refusalOfFetch_11 ?_
    refine gf_X4_72 (by decide) rfl dX4_refusalOfFetch_14 ?_
    refine g_if_eq (tgt := 39) dX4_refusalOfFetch_17 (by decide) (fun c17 => ?_) (fun c17 => ?_)
    · refine g_bipush (by decide) dX4_refusalOfFetch_39 ?_
      refine g_ireturn rfl dX4_refusalOfFetch_41 ?_
      rw [if_neg (fun q => q.1 c17)] at hQ
      exact hQ
    · refine g_aload_n rfl dX4_refusalOfFetch_20 ?_
      refine g_iload_n rfl dX4_refusalOfFetch_21 ?_
      refine gi_X4_159 (by decide) rfl (ev_X4_tellingStores (s := n) hn2 M) rfl rfl ⟨Nat.le_of_ble_eq_true rfl, Nat.le_of_ble_eq_true rfl, Nat.le_of_ble_eq_true rfl, Nat.le_of_ble_eq_true rfl⟩ (Nat.le_of_ble_eq_true rfl) dX4_refusalOfFetch_22 (fun r22 M22 hq22 => ?_)
      obtain ⟨rfl, rfl⟩ := hq22
      refine g_aload_n rfl dX4_refusalOfFetch_25 ?_
      refine gf_X4_25 (by decide) rfl rfl dX4_refusalOfFetch_26 ?_
      refine gf_X4_116 (by decide) rfl dX4_refusalOfFetch_29 ?_
      rw [← mi_z M 22 7]
      refine g_icmp_le (tgt := 39) dX4_refusalOfFetch_32 (by decide) (fun c32 => ?_) (fun c32 => ?_)
      · refine g_bipush (by decide) dX4_refusalOfFetch_39 ?_
        refine g_ireturn rfl dX4_refusalOfFetch_41 ?_
        simp (disch := omega) only [i_le, zI_toInt] at c32
        rw [if_neg (fun q => by have := q.2; omega)] at hQ
        exact hQ
      · refine g_iconst dX4_refusalOfFetch_35 ?_
        refine g_goto (tgt := 41) dX4_refusalOfFetch_36 (by decide) ?_
        refine g_ireturn rfl dX4_refusalOfFetch_41 ?_
        simp (disch := omega) only [i_le, zI_toInt] at c32
        rw [if_pos ⟨c17, by omega⟩] at hQ
        exact hQ
  · refine g_bipush (by decide) dX4_refusalOfFetch_7 ?_
    refine g_ireturn rfl dX4_refusalOfFetch_9 ?_
    rw [bI_d0] at c4
    rw [if_neg c4] at hQ
    exact hQ
def rowX (M : Mem) (n : Nat) : List (Nat × Int) := hearL (tells M) (ansX M) n
theorem ansX_bd (M : Mem) (j : Nat) : 0 ≤ ansX M j ∧ ansX M j < 97 := md_bd _
theorem rowX_ok (M : Mem) {n : Nat} (h : n < 10) : rowOk (rowX M n) := by
  intro e he
  obtain ⟨h1, h2, h3⟩ := hearL_in _ _ _ e he
  have := ansX_bd M e.1
  rw [← h3] at this
  exact ⟨h1, by omega, this.1, this.2⟩
theorem rowX_len (M : Mem) (n : Nat) : (rowX M n).length = cnt (tells M) n := hearL_len _ _ _
def enoX (M : Mem) (n : Nat) : Int := (rowX M n).length - ((rowX M n).length - mi M 22 7 - 1) / 2
def fndX (M : Mem) (n : Nat) : Option Nat := findS (rowX M n) (mi M 22 7).toNat (enoX M n) (2 ^ (rowX M n).length - 1)
def curX (M : Mem) (n p : Nat) : List (Int × Int) := layP (pkS (rowX M n) (rowX M n).length p (rowX M n).length)
def ftvX (M : Mem) (n : Nat) : Int32 := match fndX M n with
  | none => zI (-9)
  | some p => zI (newt (curX M n p) 0)
def ftmX (M : Mem) (n : Nat) : Mem := match fndX M n with
  | none => mset (mset M 0 8 (M 0 8 + zI n * M 0 6)) 0 9 (M 0 9 + zI (rowX M n).length)
  | some p => mset (mset (mset M 0 8 (M 0 8 + zI n * M 0 6)) 0 9 (M 0 9 + zI (rowX M n).length)) 0 7 (zI (offS (onX (curX M n p)) (rowX M n) (rowX M n).length : Nat))
theorem findS_pop {l : List (Nat × Int)} {g : Nat} {e : Int} : ∀ q p, findS l g e q = some p → popN p = g + 1 ∧ 1 ≤ p ∧ p ≤ q
  | 0, p, h => by cases h
  | q + 1, p, h => by
    unfold findS at h
    by_cases hc : popN (q + 1) = g + 1 ∧ e ≤ (cnOn (onX (layP (pkS l l.length (q + 1) l.length))) l l.length : Nat)
    · rw [if_pos hc] at h
      cases h
      exact ⟨hc.1, by omega, Nat.le_refl _⟩
    · rw [if_neg hc] at h
      have := findS_pop q p h
      omega
theorem rofX_0 {M : Mem} {s : Int32} (h : rofX M s = 0) : okS s ∧ ¬ M 22 2 = 0 ∧ mi M 22 7 < (cnt (tells M) s.toInt.toNat : Nat) := by
  unfold rofX at h
  by_cases h1 : okS s
  · rw [if_pos h1] at h
    by_cases h2 : ¬ M 22 2 = 0 ∧ mi M 22 7 < (cnt (tells M) s.toInt.toNat : Nat)
    · exact ⟨h1, h2⟩
    · rw [if_neg h2] at h
      exact absurd h (by decide)
  · rw [if_neg h1] at h
    exact absurd h (by decide)
theorem ev_X4_fetch {M : Mem} (hw : WX M) (s : Int32) : Ev yX4_fetch cX4_fetch 3 (some .int) 4 [.ref 0, .int s] M (fun r M1 => some (.int (if rofX M s = 0 then ftvX M s.toInt.toNat else rofX M s)) = r ∧ Sam (if rofX M s = 0 then ftmX M s.toInt.toNat else M) M1) := by
  refine Ev.of (by decide +kernel) (Nat.le_of_ble_eq_true rfl) (fun Q hQ => ?_)
  have hg := hw.dgb
  refine g_aload_n rfl dX4_fetch_0 ?_
  refine g_iload_n rfl dX4_fetch_1 ?_
  refine gi_X4_134 (by decide) rfl (ev_X4_refusalOfFetch hw s) rfl rfl ⟨Nat.le_of_ble_eq_true rfl, Nat.le_of_ble_eq_true rfl, Nat.le_of_ble_eq_true rfl, Nat.le_of_ble_eq_true rfl⟩ (Nat.le_of_ble_eq_true rfl) dX4_fetch_2 (fun r2 M2 hq2 => ?_)
  obtain ⟨rfl, rfl⟩ := hq2
  refine g_istore_n (L2 := [(0, _), (1, _), (2, _)]) (by decide) rfl dX4_fetch_5 ?_
  refine g_iload_n rfl dX4_fetch_6 ?_
  refine g_if_eq (tgt := 12) dX4_fetch_7 (by decide) (fun c7 => ?_) (fun c7 => ?_)
  · rw [if_pos c7] at hQ
    obtain ⟨h1, h2, h3⟩ := rofX_0 c7
    obtain ⟨n, hn1, hn2, rfl⟩ := okS_n h1
    rw [tnN (by omega)] at hQ h3
    have hlen := rowX_len M n
    have hl9 : (rowX M n).length ≤ 9 := by rw [hlen]; exact Nat.le_trans (cnt_le _ _) (by omega)
    have hok := rowX_ok M hn2
    refine g_aload_n rfl dX4_fetch_12 ?_
    refine g_iload_n rfl dX4_fetch_13 ?_
    refine gi_X4_137 (by decide) rfl (ev_X4_hearStores hw (s := n) hn2) rfl rfl ⟨Nat.le_of_ble_eq_true rfl, Nat.le_of_ble_eq_true rfl, Nat.le_of_ble_eq_true rfl, Nat.le_of_ble_eq_true rfl⟩ (Nat.le_of_ble_eq_true rfl) dX4_fetch_14 (fun r14 M14 hq14 => ?_)
    obtain ⟨rfl, hs1, hr1⟩ := hq14
    have hr1 : RowIs M14 (rowX M n) := hr1
    have e08 : M14 0 8 = M 0 8 := congrFun (hs1 0 (Or.inl (by decide))) 8
    have e09 : M14 0 9 = M 0 9 := congrFun (hs1 0 (Or.inl (by decide))) 9
    have e06 : M14 0 6 = M 0 6 := congrFun (hs1 0 (Or.inl (by decide))) 6
    have e227 : M14 22 7 = zI ((mi M 22 7).toNat : Int) := by
      rw [hs1 22 (Or.inl (by decide)), ← mi_z M 22 7]
      congr 1
      omega
    refine g_aload_n rfl dX4_fetch_17 ?_
    refine g_dup rfl dX4_fetch_18 ?_
    refine gf_X4_50 (by decide) rfl dX4_fetch_19 ?_
    rw [e08]
    refine g_iload_n rfl dX4_fetch_22 ?_
    refine g_aload_n rfl dX4_fetch_23 ?_
    refine gf_X4_43 (by decide) rfl dX4_fetch_24 ?_
    rw [e06]
    refine g_imul dX4_fetch_27 ?_
    refine g_iadd dX4_fetch_28 ?_
    refine gp_X4_50 (by decide) rfl dX4_fetch_29 ?_
    refine g_aload_n rfl dX4_fetch_32 ?_
    refine g_dup rfl dX4_fetch_33 ?_
    refine gf_X4_53 (by decide) rfl dX4_fetch_34 ?_
    rw [mset_ne _ _ (Or.inr (by decide)), e09]
    refine g_aload_n rfl dX4_fetch_37 ?_
    refine gf_X4_32 (by decide) rfl rfl dX4_fetch_38 ?_
    refine gf_X4_140 (by decide) rfl dX4_fetch_41 ?_
    rw [mset_other _ _ _ (by decide), hr1.1]
    refine g_iadd dX4_fetch_44 ?_
    refine gp_X4_53 (by decide) rfl dX4_fetch_45 ?_
    have hs2 := ((hs1.both 0 8 (M 0 8 + zI n * M 0 6)).both 0 9 (M 0 9 + zI (rowX M n).length))
    generalize hM2 : mset (mset M14 0 8 (M 0 8 + zI ↑n * M 0 6)) 0 9 (M 0 9 + zI ↑(rowX M n).length) = M2 at hs2
    have hr2 : RowIs M2 (rowX M n) := by
      subst hM2
      refine hr1.ext ?_ ?_ ?_ <;> rw [mset_other _ _ _ (by decide), mset_other _ _ _ (by decide)]
    have e227b : M2 22 7 = zI ((mi M 22 7).toNat : Int) := by
      subst hM2
      rw [mset_other _ _ _ (by decide), mset_other _ _ _ (by decide), e227]
    refine g_aload_n rfl dX4_fetch_48 ?_
    refine g_aload_n rfl dX4_fetch_49 ?_
    refine gf_X4_32 (by decide) rfl rfl dX4_fetch_50 ?_
    refine gf_X4_140 (by decide) rfl dX4_fetch_53 ?_
    rw [hr2.1]
    refine g_aload_n rfl dX4_fetch_56 ?_
    refine g_aload_n rfl dX4_fetch_57 ?_
    refine gf_X4_32 (by decide) rfl rfl dX4_fetch_58 ?_
    refine gf_X4_140 (by decide) rfl dX4_fetch_61 ?_
    rw [hr2.1]
    refine gi_X4_143 (by decide) rfl (ev_X4_liesMended (t := ((rowX M n).length : Nat)) (g := ((mi M 22 7).toNat : Nat)) (M := M2) (by omega) (by omega) (by omega) (by omega) e227b (by omega)) rfl rfl ⟨Nat.le_of_ble_eq_true rfl, Nat.le_of_ble_eq_true rfl, Nat.le_of_ble_eq_true rfl, Nat.le_of_ble_eq_true rfl⟩ (Nat.le_of_ble_eq_true rfl) dX4_fetch_64 (fun r64 M64 hq64 => ?_)
    obtain ⟨rfl, rfl⟩ := hq64
    refine g_isub dX4_fetch_67 ?_
    rw [zI_sub, show (((rowX M n).length : Nat) : Int) - ((((rowX M n).length : Nat) : Int) - (((mi M 22 7).toNat : Nat) : Int) - 1) / 2 = enoX M n by
    unfold enoX
    rw [Int.toNat_of_nonneg (by omega)]]
    refine gi_X4_146 (by decide) rfl (ev_X4_findCurve (g := (mi M 22 7).toNat) (enough := enoX M n) hr2 hl9 hok e227b (by omega) (by unfold enoX; omega)) rfl rfl ⟨Nat.le_of_ble_eq_true rfl, Nat.le_of_ble_eq_true rfl, Nat.le_of_ble_eq_true rfl, Nat.le_of_ble_eq_true rfl⟩ (Nat.le_of_ble_eq_true rfl) dX4_fetch_68 (fun r68 M68 hq68 => ?_)
    obtain ⟨rfl, hs3, hc3⟩ := hq68
    have hfn : findS (rowX M n) (mi M 22 7).toNat (enoX M n) (2 ^ (rowX M n).length - 1) = fndX M n := rfl
    rw [hfn] at hc3 ⊢
    refine g_if_ne (tgt := 77) dX4_fetch_71 (by decide) (fun c71 => ?_) (fun c71 => ?_)
    · cases hf : fndX M n with
      | none =>
        rw [hf] at c71
        exact absurd rfl c71
      | some p =>
        have hc4 := hc3 p hf
        obtain ⟨hp1, hp2, hp3⟩ := findS_pop _ _ hf
        have h512 : 2 ^ (rowX M n).length ≤ 2 ^ 9 := Nat.pow_le_pow_right (by decide) hl9
        have h1p : 1 ≤ 2 ^ (rowX M n).length := Nat.one_le_two_pow
        have hpk := pkS_ok hok (rowX M n).length p (rowX M n).length (Nat.le_refl _)
        have hlen7 : (layP (pkS (rowX M n) (rowX M n).length p (rowX M n).length)).length ≤ 7 := by
          rw [layP_len hpk, pkS_len, lenF_pop (rowX M n).length (by omega) p (by omega) (by omega)]
          omega
        have hr3 := hs3.row hr2
        refine g_aload_n rfl dX4_fetch_77 ?_
        refine g_aload_n rfl dX4_fetch_78 ?_
        refine gf_X4_32 (by decide) rfl rfl dX4_fetch_79 ?_
        refine g_aload_n rfl dX4_fetch_82 ?_
        refine gf_X4_39 (by decide) rfl rfl dX4_fetch_83 ?_
        refine gi_X4_149 (by decide) rfl (ev_X2_storesOff hr3 hl9 hok hc4 (layP_ok hpk) hlen7) rfl rfl ⟨Nat.le_of_ble_eq_true rfl, Nat.le_of_ble_eq_true rfl, Nat.le_of_ble_eq_true rfl, Nat.le_of_ble_eq_true rfl⟩ (Nat.le_of_ble_eq_true rfl) dX4_fetch_86 (fun r86 M86 hq86 => ?_)
        obtain ⟨rfl, rfl⟩ := hq86
        refine gp_X4_47 (by decide) rfl dX4_fetch_89 ?_
        refine g_aload_n rfl dX4_fetch_92 ?_
        refine gf_X4_39 (by decide) rfl rfl dX4_fetch_93 ?_
        refine g_iconst dX4_fetch_96 ?_
        refine gi_X4_153 (by decide) rfl (ev_X0_at (x := 0) (M := mset M68 0 7 (zI (offS (onX (layP (pkS (rowX M n) (rowX M n).length p (rowX M n).length))) (rowX M n) (rowX M n).length : Nat))) ⟨by rw [mset_other _ _ _ (by decide)]; exact hc4.1, fun q x hx => by rw [mset_other _ _ _ (by decide), mset_other _ _ _ (by decide)]; exact hc4.2 q x hx⟩ (layP_ok hpk) hlen7 (by decide) (by decide)) rfl rfl ⟨Nat.le_of_ble_eq_true rfl, Nat.le_of_ble_eq_true rfl, Nat.le_of_ble_eq_true rfl, Nat.le_of_ble_eq_true rfl⟩ (Nat.le_of_ble_eq_true rfl) dX4_fetch_97 (fun r97 M97 hq97 => ?_)
        obtain ⟨rfl, rfl⟩ := hq97
        refine g_ireturn rfl dX4_fetch_100 ?_
        refine hQ _ _ ⟨by rw [ftvX, hf]; rfl, ?_⟩
        rw [if_pos c7, ftmX, hf]
        exact (hs2.t hs3.sam).both 0 7 _
    · cases hf : fndX M n with
      | some p =>
        rw [hf] at c71
        exact absurd c71 (by show ¬ zI 1 = 0; decide)
      | none =>
        refine g_bipush (by decide) dX4_fetch_74 ?_
        refine g_ireturn rfl dX4_fetch_76 ?_
        refine hQ _ _ ⟨by rw [ftvX, hf], ?_⟩
        rw [if_pos c7, ftmX, hf]
        exact hs2.t hs3.sam
  · refine g_iload_n rfl dX4_fetch_10 ?_
    refine g_ireturn rfl dX4_fetch_11 ?_
    rw [if_neg c7] at hQ
    exact hQ _ _ ⟨rfl, by rw [if_neg c7]; exact Sam.r M⟩
theorem ev_X4_caught {M : Mem} (hw : WX M) (j : Int32) : EvF yX4_caught cX4_caught 2 (some .int) 1 [.ref 0, .int j] M (some (.int (if okS j then zI (mi M 0 7 / 2 ^ j.toInt.toNat % 2) else zI (-1)))) M := by
  refine EvF.of (by decide +kernel) (Nat.le_of_ble_eq_true rfl) (fun Q hQ => ?_)
  have hca := hw.ca
  refine g_iload_n rfl dX4_caught_0 ?_
  refine gi_X4_83 (ev_X4_isStore j M) rfl rfl ⟨Nat.le_of_ble_eq_true rfl, Nat.le_of_ble_eq_true rfl, Nat.le_of_ble_eq_true rfl, Nat.le_of_ble_eq_true rfl⟩ (Nat.le_of_ble_eq_true rfl) dX4_caught_1 (fun r1 M1 hq1 => ?_)
  obtain ⟨rfl, rfl⟩ := hq1
  refine g_if_ne (tgt := 9) dX4_caught_4 (by decide) (fun c4 => ?_) (fun c4 => ?_)
  · rw [bI_dn] at c4
    rw [if_pos c4] at hQ
    obtain ⟨n, hn1, hn2, rfl⟩ := okS_n c4
    rw [tnN (by omega)] at hQ
    refine g_aload_n rfl dX4_caught_9 ?_
    refine gf_X4_47 (by decide) rfl dX4_caught_10 ?_
    rw [← mi_z M 0 7]
    refine g_iload_n rfl dX4_caught_13 ?_
    refine gi_X4_156 (ev_X4_bit (a := mi M 0 7) (k := n) hca.1 (by omega) (by omega) M) rfl rfl ⟨Nat.le_of_ble_eq_true rfl, Nat.le_of_ble_eq_true rfl, Nat.le_of_ble_eq_true rfl, Nat.le_of_ble_eq_true rfl⟩ (Nat.le_of_ble_eq_true rfl) dX4_caught_14 (fun r14 M14 hq14 => ?_)
    obtain ⟨rfl, rfl⟩ := hq14
    refine g_ireturn rfl dX4_caught_17 ?_
    exact hQ
  · refine g_iconst dX4_caught_7 ?_
    refine g_ireturn rfl dX4_caught_8 ?_
    rw [bI_d0] at c4
    rw [if_neg c4] at hQ
    exact hQ
theorem ev_X4_mends {M : Mem} (hw : WX M) (s : Int32) : EvF yX4_mends cX4_mends 3 (some .int) 3 [.ref 0, .int s] M (some (.int (if rofX M s = 0 then zI (((cnt (tells M) s.toInt.toNat : Nat) - mi M 22 7 - 1) / 2) else rofX M s))) M := by
  refine EvF.of (by decide +kernel) (Nat.le_of_ble_eq_true rfl) (fun Q hQ => ?_)
  have hg := hw.dgb
  refine g_aload_n rfl dX4_mends_0 ?_
  refine g_iload_n rfl dX4_mends_1 ?_
  refine gi_X4_134 (by decide) rfl (ev_X4_refusalOfFetch hw s) rfl rfl ⟨Nat.le_of_ble_eq_true rfl, Nat.le_of_ble_eq_true rfl, Nat.le_of_ble_eq_true rfl, Nat.le_of_ble_eq_true rfl⟩ (Nat.le_of_ble_eq_true rfl) dX4_mends_2 (fun r2 M2 hq2 => ?_)
  obtain ⟨rfl, rfl⟩ := hq2
  refine g_istore_n (L2 := [(0, _), (1, _), (2, _)]) (by decide) rfl dX4_mends_5 ?_
  refine g_iload_n rfl dX4_mends_6 ?_
  refine g_if_ne (tgt := 22) dX4_mends_7 (by decide) (fun c7 => ?_) (fun c7 => ?_)
  · refine g_iload_n rfl dX4_mends_22 ?_
    refine g_ireturn rfl dX4_mends_23 ?_
    rw [if_neg c7] at hQ
    exact hQ
  · rw [if_pos c7] at hQ
    obtain ⟨h1, h2, h3⟩ := rofX_0 c7
    obtain ⟨n, hn1, hn2, rfl⟩ := okS_n h1
    rw [tnN (by omega)] at hQ h3
    have hcl := cnt_le (tells M) n
    refine g_aload_n rfl dX4_mends_10 ?_
    refine g_aload_n rfl dX4_mends_11 ?_
    refine g_iload_n rfl dX4_mends_12 ?_
    refine gi_X4_159 (by decide) rfl (ev_X4_tellingStores (s := n) hn2 M) rfl rfl ⟨Nat.le_of_ble_eq_true rfl, Nat.le_of_ble_eq_true rfl, Nat.le_of_ble_eq_true rfl, Nat.le_of_ble_eq_true rfl⟩ (Nat.le_of_ble_eq_true rfl) dX4_mends_13 (fun r13 M13 hq13 => ?_)
    obtain ⟨rfl, rfl⟩ := hq13
    refine gi_X4_143 (by decide) rfl (ev_X4_liesMended (t := (cnt (tells M) n : Nat)) (g := mi M 22 7) (M := M) (by omega) (by omega) hg.1 hg.2 (mi_z M 22 7).symm h3) rfl rfl ⟨Nat.le_of_ble_eq_true rfl, Nat.le_of_ble_eq_true rfl, Nat.le_of_ble_eq_true rfl, Nat.le_of_ble_eq_true rfl⟩ (Nat.le_of_ble_eq_true rfl) dX4_mends_16 (fun r16 M16 hq16 => ?_)
    obtain ⟨rfl, rfl⟩ := hq16
    refine g_goto (tgt := 23) dX4_mends_19 (by decide) ?_
    refine g_ireturn rfl dX4_mends_23 ?_
    exact hQ
theorem set_big : ∀ a, a < 1024 → (zI (a : Nat) &&& zI (-1023) = 0 ↔ a % 2 = 0) := by decide +kernel
theorem set_ok (s : Int32) : (s = 0 ∨ ¬ s &&& zI (-1023) = 0) ↔ ¬ (2 ≤ s.toInt ∧ s.toInt ≤ 1022 ∧ s.toInt % 2 = 0) := by
  by_cases h : 0 ≤ s.toInt ∧ s.toInt < 1024
  · obtain ⟨n, hn, rfl⟩ : ∃ n : Nat, n < 1024 ∧ s = zI n := ⟨s.toInt.toNat, by omega, by rw [Int.toNat_of_nonneg h.1, zI_of]⟩
    rw [set_big n hn, tiN (by omega), zI_zero, zI_eqz (by omega) (by omega) (by decide) (by decide)]
    omega
  · refine ⟨fun _ q => h (by omega), fun _ => Or.inr (fun q => h ?_)⟩
    have hb : (s &&& zI (-1023)).toBitVec.toNat = 0 := by rw [q]; rfl
    have hb2 : s.toBitVec.toNat &&& 4294966273 = 0 := hb
    have hlt : s.toBitVec.toNat < 2 ^ 32 := s.toBitVec.isLt
    have h1 : (s.toBitVec.toNat &&& 4294966273) / 2 ^ 10 = s.toBitVec.toNat / 2 ^ 10 := by
      rw [← Nat.shiftRight_eq_div_pow, Nat.shiftRight_and_distrib, Nat.shiftRight_eq_div_pow, show (4294966273 : Nat) >>> 10 = 2 ^ 22 - 1 from by decide, Nat.and_two_pow_sub_one_eq_mod]
      exact Nat.mod_eq_of_lt (by omega)
    rw [hb2] at h1
    have h2 : s.toBitVec.toNat < 1024 := by omega
    have e : s.toInt = (s.toBitVec.toNat : Int) := by
      show s.toBitVec.toInt = _
      rw [BitVec.toInt_eq_toNat_cond, if_pos (by omega)]
    omega
def rosX (M : Mem) (s : Int32) : Int32 := if M 22 2 = 0 then zI (-3) else if s = 0 ∨ ¬ s &&& zI (-1023) = 0 then zI (-2) else zI 0
theorem rosX_0 {M : Mem} {s : Int32} (h : rosX M s = 0) : ¬ M 22 2 = 0 ∧ 2 ≤ s.toInt ∧ s.toInt ≤ 1022 ∧ s.toInt % 2 = 0 := by
  unfold rosX at h
  by_cases h1 : M 22 2 = 0
  · rw [if_pos h1] at h
    exact absurd h (by decide)
  · rw [if_neg h1] at h
    by_cases h2 : s = 0 ∨ ¬ s &&& zI (-1023) = 0
    · rw [if_pos h2] at h
      exact absurd h (by decide)
    · rw [set_ok] at h2
      exact ⟨h1, Classical.not_not.mp h2⟩
set_option maxRecDepth 100000 in
theorem pop_pos : ∀ n, n < 1024 → 2 ≤ n → 1 ≤ popN n := by decide +kernel
theorem cwX_bd {M : Mem} (hw : WX M) {set : Nat} (hs1 : 1 ≤ popN set) (i : Int) : 0 ≤ cwX M set i ∧ cwX M set i < 1000000 := by
  have hkf := hw.kf
  have hqb := hw.qb
  unfold cwX
  split
  · split <;> decide
  · have h3 : ((mi M 22 5 - popN set) * mi M 22 6).toNat ≤ 3 := by
      rcases (by omega : mi M 22 5 - (popN set : Int) = 0 ∨ mi M 22 5 - (popN set : Int) = 1) with e | e <;> rw [e] <;> omega
    generalize ((mi M 22 5 - popN set) * mi M 22 6).toNat = q at h3 ⊢
    rcases (by omega : q = 0 ∨ q = 1 ∨ q = 2 ∨ q = 3) with rfl | rfl | rfl | rfl <;> decide
theorem ev_X4_ways {M : Mem} (hw : WX M) (s i : Int32) : EvF yX4_ways cX4_ways 4 (some .long) 2 [.ref 0, .int s, .int i] M (some (.long (if rosX M s = 0 then (if okR M i then zL (cwX M s.toInt.toNat i.toInt) else zL (-1)) else (rosX M s).toInt64))) M := by
  refine EvF.of (by decide +kernel) (Nat.le_of_ble_eq_true rfl) (fun Q hQ => ?_)
  obtain ⟨hm1, hm2, hm3, hm⟩ := hw.m
  have h8 := p2_8 hm1 hm2
  have hz := p2_z (xm M)
  have hro : (if M 22 2 = 0 then zI (-3) else if s = 0 ∨ ¬ s &&& zI (-1023) = 0 then zI (-2) else zI 0) = rosX M s := rfl
  refine g_aload_n rfl dX4_ways_0 ?_
  refine g_iload_n rfl dX4_ways_1 ?_
  refine gi_X4_162 (by decide) rfl (ev_X4_refusalOfSet s) rfl rfl ⟨Nat.le_of_ble_eq_true rfl, Nat.le_of_ble_eq_true rfl, Nat.le_of_ble_eq_true rfl, Nat.le_of_ble_eq_true rfl⟩ (Nat.le_of_ble_eq_true rfl) dX4_ways_2 (fun r2 M2 hq2 => ?_)
  obtain ⟨rfl, rfl⟩ := hq2
  refine g_istore_n (L2 := [(0, _), (1, _), (2, _), (3, _)]) (by decide) rfl dX4_ways_5 ?_
  rw [hro]
  refine g_iload_n rfl dX4_ways_6 ?_
  refine g_if_eq (tgt := 13) dX4_ways_7 (by decide) (fun c7 => ?_) (fun c7 => ?_)
  · rw [if_pos c7] at hQ
    obtain ⟨h1, h2, h3, h4⟩ := rosX_0 c7
    obtain ⟨n, hn, rfl⟩ : ∃ n : Nat, n < 1024 ∧ s = zI n := ⟨s.toInt.toNat, by omega, by rw [Int.toNat_of_nonneg (by omega), zI_of]⟩
    rw [tiN (by omega)] at h2 h3 h4
    rw [tnN (by omega)] at hQ
    have hpp := pop_pos n hn (by omega)
    refine g_aload_n rfl dX4_ways_13 ?_
    refine g_iload_n rfl dX4_ways_14 ?_
    refine gi_X4_76 (by decide) rfl (ev_X4_isRecord hm1 hm2 hm i) rfl rfl ⟨Nat.le_of_ble_eq_true rfl, Nat.le_of_ble_eq_true rfl, Nat.le_of_ble_eq_true rfl, Nat.le_of_ble_eq_true rfl⟩ (Nat.le_of_ble_eq_true rfl) dX4_ways_15 (fun r15 M15 hq15 => ?_)
    obtain ⟨rfl, rfl⟩ := hq15
    refine g_if_eq (tgt := 33) dX4_ways_18 (by decide) (fun c18 => ?_) (fun c18 => ?_)
    · refine g_ldc2 gl_X4_169 dX4_ways_33 ?_
      refine g_lreturn rfl dX4_ways_36 ?_
      rw [bI_d0] at c18
      rw [if_neg c18] at hQ
      exact hQ
    · rw [bI_dn] at c18
      rw [if_pos c18] at hQ
      refine g_aload_n rfl dX4_ways_21 ?_
      refine gf_X4_25 (by decide) rfl rfl dX4_ways_22 ?_
      refine g_iload_n rfl dX4_ways_25 ?_
      refine g_iload_n rfl dX4_ways_26 ?_
      rw [← zI_of i]
      refine gi_X4_165 (by decide) rfl (ev_X1_countWays hw (set := n) (i := i.toInt) hn hpp c18.1 (by omega)) rfl rfl ⟨Nat.le_of_ble_eq_true rfl, Nat.le_of_ble_eq_true rfl, Nat.le_of_ble_eq_true rfl, Nat.le_of_ble_eq_true rfl⟩ (Nat.le_of_ble_eq_true rfl) dX4_ways_27 (fun r27 M27 hq27 => ?_)
      obtain ⟨rfl, rfl⟩ := hq27
      refine g_goto (tgt := 36) dX4_ways_30 (by decide) ?_
      refine g_lreturn rfl dX4_ways_36 ?_
      exact hQ
  · refine g_iload_n rfl dX4_ways_10 ?_
    refine g_i2l dX4_ways_11 ?_
    refine g_lreturn rfl dX4_ways_12 ?_
    rw [if_neg c7] at hQ
    exact hQ
/-- how many of the first n have p -/
def cnz (p : Nat → Bool) : Nat → Nat
  | 0 => 0
  | i + 1 => cnz p i + (if p i = true then 1 else 0)
theorem ev_X4_might {M : Mem} (hw : WX M) (s : Int32) : EvF yX4_might cX4_might 5 (some .int) 2 [.ref 0, .int s] M (some (.int (if rosX M s = 0 then zI (cnz (fun i => decide (0 < cwX M s.toInt.toNat i)) (2 ^ xm M) : Nat) else rosX M s))) M := by
  refine EvF.of (by decide +kernel) (Nat.le_of_ble_eq_true rfl) (fun Q hQ => ?_)
  obtain ⟨hm1, hm2, hm3, hm⟩ := hw.m
  have h8 := p2_8 hm1 hm2
  have hz := p2_z (xm M)
  have hro : (if M 22 2 = 0 then zI (-3) else if s = 0 ∨ ¬ s &&& zI (-1023) = 0 then zI (-2) else zI 0) = rosX M s := rfl
  refine g_aload_n rfl dX4_might_0 ?_
  refine g_iload_n rfl dX4_might_1 ?_
  refine gi_X4_162 (by decide) rfl (ev_X4_refusalOfSet s) rfl rfl ⟨Nat.le_of_ble_eq_true rfl, Nat.le_of_ble_eq_true rfl, Nat.le_of_ble_eq_true rfl, Nat.le_of_ble_eq_true rfl⟩ (Nat.le_of_ble_eq_true rfl) dX4_might_2 (fun r2 M2 hq2 => ?_)
  obtain ⟨rfl, rfl⟩ := hq2
  refine g_istore_n (L2 := [(0, _), (1, _), (2, _)]) (by decide) rfl dX4_might_5 ?_
  rw [hro]
  refine g_iload_n rfl dX4_might_6 ?_
  refine g_if_eq (tgt := 12) dX4_might_7 (by decide) (fun c7 => ?_) (fun c7 => ?_)
  · rw [if_pos c7] at hQ
    obtain ⟨h1, h2, h3, h4⟩ := rosX_0 c7
    obtain ⟨n, hn, rfl⟩ : ∃ n : Nat, n < 1024 ∧ s = zI n := ⟨s.toInt.toNat, by omega, by rw [Int.toNat_of_nonneg (by omega), zI_of]⟩
    rw [tiN (by omega)] at h2 h3 h4
    rw [tnN (by omega)] at hQ
    have hpp := pop_pos n hn (by omega)
    generalize rosX M (zI n) = ro at *
    have loop : ∀ (d q : Nat), d + q = 2 ^ xm M → G yX4_might.cls cX4_might 5 (some .int) (gE 2 Q) 17 [(0, .ref 0), (1, .int (zI n)), (2, .int ro), (3, .int (zI (cnz (fun i => decide (0 < cwX M n i)) q : Nat))), (4, .int (zI q))] [] M := by
      intro d
      induction d with
      | zero =>
        intro q hq
        obtain rfl : q = 2 ^ xm M := by omega
        refine g_iload rfl dX4_might_17 ?_
        refine g_aload_n rfl dX4_might_19 ?_
        refine gi_X4_60 (by decide) rfl (ev_X4_count hm1 hm2 hm) rfl rfl ⟨Nat.le_of_ble_eq_true rfl, Nat.le_of_ble_eq_true rfl, Nat.le_of_ble_eq_true rfl, Nat.le_of_ble_eq_true rfl⟩ (Nat.le_of_ble_eq_true rfl) dX4_might_20 (fun r20 M20 hq20 => ?_)
        obtain ⟨rfl, rfl⟩ := hq20
        refine g_icmp_ge (tgt := 50) dX4_might_23 (by decide) (fun c23 => ?_) (fun c23 => ?_)
        · refine g_iload_n rfl dX4_might_50 ?_
          refine g_ireturn rfl dX4_might_51 ?_
          exact hQ
        · exact n_lt_of c23 (by omega) (by omega) (by omega) (by omega) (by omega)
      | succ d ih =>
        intro q hq
        have ih := ih (q + 1) (by omega)
        have hcb := cwX_bd hw hpp q
        refine g_iload rfl dX4_might_17 ?_
        refine g_aload_n rfl dX4_might_19 ?_
        refine gi_X4_60 (by decide) rfl (ev_X4_count hm1 hm2 hm) rfl rfl ⟨Nat.le_of_ble_eq_true rfl, Nat.le_of_ble_eq_true rfl, Nat.le_of_ble_eq_true rfl, Nat.le_of_ble_eq_true rfl⟩ (Nat.le_of_ble_eq_true rfl) dX4_might_20 (fun r20 M20 hq20 => ?_)
        obtain ⟨rfl, rfl⟩ := hq20
        refine g_icmp_ge (tgt := 50) dX4_might_23 (by decide) (fun c23 => ?_) (fun c23 => ?_)
        · exact n_le_of c23 (by omega) (by omega) (by omega) (by omega) (by omega)
        · refine g_aload_n rfl dX4_might_26 ?_
          refine gf_X4_25 (by decide) rfl rfl dX4_might_27 ?_
          refine g_iload_n rfl dX4_might_30 ?_
          refine g_iload rfl dX4_might_31 ?_
          refine gi_X4_165 (by decide) rfl (ev_X1_countWays hw (set := n) (i := q) hn hpp (by omega) (by omega)) rfl rfl ⟨Nat.le_of_ble_eq_true rfl, Nat.le_of_ble_eq_true rfl, Nat.le_of_ble_eq_true rfl, Nat.le_of_ble_eq_true rfl⟩ (Nat.le_of_ble_eq_true rfl) dX4_might_33 (fun r33 M33 hq33 => ?_)
          obtain ⟨rfl, rfl⟩ := hq33
          refine g_lconst (v := zL 0) (by decide) dX4_might_36 ?_
          refine g_lcmp dX4_might_37 ?_
          refine g_if_le (tgt := 44) dX4_might_38 (by decide) (fun c38 => ?_) (fun c38 => ?_)
          · refine g_iinc (L2 := [(0, _), (1, _), (2, _), (3, _), (4, _)]) rfl (by decide) rfl dX4_might_44 ?_
            refine g_goto (tgt := 17) dX4_might_47 (by decide) ?_
            rw [lgc_p (by omega) (by omega) (by decide) (by decide)] at c38
            rw [cnz, if_neg (by simp; omega)] at ih
            rw [zI_add]
            exact ih
          · refine g_iinc (L2 := [(0, _), (1, _), (2, _), (3, _), (4, _)]) rfl (by decide) rfl dX4_might_41 ?_
            refine g_iinc (L2 := [(0, _), (1, _), (2, _), (3, _), (4, _)]) rfl (by decide) rfl dX4_might_44 ?_
            refine g_goto (tgt := 17) dX4_might_47 (by decide) ?_
            rw [lgc_p (by omega) (by omega) (by decide) (by decide)] at c38
            rw [cnz, if_pos (by simp; omega)] at ih
            rw [zI_add, zI_add]
            exact ih
    refine g_iconst dX4_might_12 ?_
    refine g_istore_n (L2 := [(0, _), (1, _), (2, _), (3, _)]) (by decide) rfl dX4_might_13 ?_
    refine g_iconst dX4_might_14 ?_
    refine g_istore (L2 := [(0, _), (1, _), (2, _), (3, _), (4, _)]) (by decide) rfl dX4_might_15 ?_
    exact loop (2 ^ xm M) 0 (by omega)
  · refine g_iload_n rfl dX4_might_10 ?_
    refine g_ireturn rfl dX4_might_11 ?_
    rw [if_neg c7] at hQ
    exact hQ
