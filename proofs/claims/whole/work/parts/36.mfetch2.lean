/-! the reference: fetch -/
theorem findS_at {l : List (Nat × Int)} {g : Nat} {e : Int} {p : Nat} (hp : popN p = g + 1) (h1 : 1 ≤ p) : findS l g e p = if e ≤ (cnOn (onX (layP (pkS l l.length p l.length))) l l.length : Nat) then some p else match prv g p with
    | none => none
    | some q => findS l g e q := by
  obtain ⟨q, rfl⟩ : ∃ q, p = q + 1 := ⟨p - 1, by omega⟩
  rw [findS, findS_prv l g e q]
  by_cases h : e ≤ (cnOn (onX (layP (pkS l l.length (q + 1) l.length))) l l.length : Nat)
  · rw [if_pos ⟨hp, h⟩, if_pos h]
  · rw [if_neg (fun z => h z.2), if_neg h]
    cases prv g (q + 1) <;> rfl
theorem offS_top (on : Nat × Int → Bool) (l : List (Nat × Int)) {B : Nat} : ∀ a, (∀ i, i < a → (l.getD i (0, 0)).1 < B) → offS on l a < 2 ^ B
  | 0, _ => Nat.two_pow_pos B
  | a + 1, h => by
    have h1 := offS_top on l a (fun i hi => h i (by omega))
    unfold offS
    split
    · exact h1
    · exact Nat.or_lt_two_pow h1 (Nat.pow_lt_pow_right (by decide) (h a (by omega)))
theorem bit_or (u x j : Nat) : (u ||| 2 ^ x) / 2 ^ j % 2 = if j = x then 1 else u / 2 ^ j % 2 := by
  have h1 : Nat.testBit (u ||| 2 ^ x) j = (Nat.testBit u j || Nat.testBit (2 ^ x) j) := Nat.testBit_or _ _ _
  have h2 : Nat.testBit (2 ^ x) j = decide (x = j) := Nat.testBit_two_pow
  rw [h2] at h1
  rw [Nat.testBit_eq_decide_div_mod_eq, Nat.testBit_eq_decide_div_mod_eq] at h1
  by_cases e : j = x
  · rw [if_pos e]
    rw [decide_eq_true e.symm, Bool.or_true] at h1
    exact of_decide_eq_true h1
  · rw [if_neg e]
    have e2 : decide (x = j) = false := decide_eq_false (fun q => e q.symm)
    rw [e2, Bool.or_false] at h1
    have h3 := decide_eq_decide.mp h1
    have h4 := Nat.mod_lt (u / 2 ^ j) (show 2 > 0 by decide)
    have h5 := Nat.mod_lt ((u ||| 2 ^ x) / 2 ^ j) (show 2 > 0 by decide)
    omega
def FetM (M0 M1 : Mem) (n : Nat) : Prop :=
  (∀ a b, ¬ (38 ≤ a ∧ a ≤ 41 ∨ a = 31 ∧ (b = 0 ∨ b = 13 ∨ b = 14 ∨ b = 16)) → M1 a b = M0 a b) ∧ M1 31 13 = M0 31 13 + M0 31 1 * zI n ∧ M1 31 14 = M0 31 14 + zI (rowX M0 n).length ∧
  ∀ j, j < 10 → M1 38 j = match fndX M0 n with
    | none => M0 38 j
    | some p => zI ((offS (onX (curX M0 n p)) (rowX M0 n) (rowX M0 n).length / 2 ^ j % 2 : Nat))
set_option maxHeartbeats 4000000 in
theorem ev_X5_fetch {M : Mem} (hw : WX (thM M)) (hI : InvQ (thM M)) (s : Int32) : Ev yX5_fetch cX5_fetch 5 (some .int) 4 [.ref 31, .int s] M (fun r M1 => some (.int (if rofX (thM M) s = 0 then ftvX (thM M) s.toInt.toNat else rofX (thM M) s)) = r ∧ (¬ rofX (thM M) s = 0 → SamM (thM M) M1) ∧ (rofX (thM M) s = 0 → FetM (thM M) M1 s.toInt.toNat)) := by
  refine Ev.of (by decide +kernel) (Nat.le_of_ble_eq_true rfl) (fun Q hQ => ?_)
  generalize hM0 : thM M = M0 at hw hI hQ
  have hg := hw.dgb
  refine g_aload_n rfl dX5_fetch_0 ?_
  refine g_iconst dX5_fetch_1 ?_
  refine gp_X5_45 (by decide) rfl dX5_fetch_2 ?_
  refine g_mem hM0 ?_
  refine g_iload_n rfl dX5_fetch_5 ?_
  refine gi_X5_100 (ev_X5_isStore s M0) rfl rfl ⟨Nat.le_of_ble_eq_true rfl, Nat.le_of_ble_eq_true rfl, Nat.le_of_ble_eq_true rfl, Nat.le_of_ble_eq_true rfl⟩ (Nat.le_of_ble_eq_true rfl) dX5_fetch_6 (fun r6 M6 hq6 => ?_)
  obtain ⟨rfl, rfl⟩ := hq6
  refine g_if_ne (tgt := 15) dX5_fetch_9 (by decide) (fun c9 => ?_) (fun c9 => ?_)
  · rw [bI_dn] at c9
    obtain ⟨n, hn1, hn2, rfl⟩ := okS_n c9
    rw [tnN (by omega)] at hQ
    refine g_aload_n rfl dX5_fetch_15 ?_
    refine gf_X5_90 (by decide) rfl dX5_fetch_16 ?_
    rw [hI.as]
    refine g_if_ne (tgt := 25) dX5_fetch_19 (by decide) (fun c19 => ?_) (fun c19 => ?_)
    · have ha : mi M0 22 2 = 1 := Classical.byContradiction fun q => c19 ((asked_iff hw).mpr q)
      have hlen := rowX_len M0 n
      have hcl := cnt_le (tells M0) n
      have hdg : mi M0 0 6 * mi M0 22 5 = mi M0 22 7 := by rw [hw.dg, (hw.aq ha).1]
      have hok := rowX_ok M0 hn2
      have hasc : ascR (rowX M0 n) := hear_asc _ _ _
      refine g_aload_n rfl dX5_fetch_25 ?_
      refine g_iload_n rfl dX5_fetch_26 ?_
      refine gi_X5_140 (by decide) rfl (ev_X5_hear hw hI ha hn2) rfl rfl ⟨Nat.le_of_ble_eq_true rfl, Nat.le_of_ble_eq_true rfl, Nat.le_of_ble_eq_true rfl, Nat.le_of_ble_eq_true rfl⟩ (Nat.le_of_ble_eq_true rfl) dX5_fetch_27 (fun r27 M27 hq27 => ?_)
      obtain ⟨rfl, hs, hr⟩ := hq27
      have e1 : M27 31 1 = zI (mi M0 0 6) := by rw [hs 31 1 (by omega), hI.dg, mi_z]
      have e8 : M27 31 8 = zI (mi M0 22 5) := by rw [hs 31 8 (by omega), (hI.qs ha).2.1, mi_z]
      refine g_aload_n rfl dX5_fetch_30 ?_
      refine gf_X5_131 (by decide) rfl dX5_fetch_31 ?_
      rw [hr.1]
      refine g_aload_n rfl dX5_fetch_34 ?_
      refine gi_X5_81 (by decide) rfl (ev_X5_degree e1 e8) rfl rfl ⟨Nat.le_of_ble_eq_true rfl, Nat.le_of_ble_eq_true rfl, Nat.le_of_ble_eq_true rfl, Nat.le_of_ble_eq_true rfl⟩ (Nat.le_of_ble_eq_true rfl) dX5_fetch_35 (fun r35 M35 hq35 => ?_)
      obtain ⟨rfl, rfl⟩ := hq35
      rw [hdg]
      refine g_icmp_gt (tgt := 44) dX5_fetch_38 (by decide) (fun c38 => ?_) (fun c38 => ?_)
      · simp (disch := omega) only [i_lt, zI_toInt] at c38
        have e : rofX M0 (zI n) = zI 0 := by
          rw [rofX, if_pos c9, tnN (by omega), if_pos ⟨c19, by omega⟩]
        rw [e, if_pos (by decide)] at hQ
        have hQ : ∀ v M1, v = ftvX M0 n → FetM M0 M1 n → Q (some (.int v)) M1 := fun v M1 h1 h2 => hQ _ _ ⟨by rw [h1], fun q => absurd rfl q, fun _ => h2⟩
        have hg3 : mi M0 0 6 * mi M0 22 5 = ((mi M0 22 7).toNat : Nat) := by omega
        have hg6 : (mi M0 22 7).toNat ≤ 6 := by omega
        have hg1 : 1 ≤ (mi M0 22 7).toNat := by omega
        have hgl : (mi M0 22 7).toNat + 1 ≤ (rowX M0 n).length := by omega
        have hl9 : (rowX M0 n).length ≤ 9 := by omega
        have h512 : 2 ^ (rowX M0 n).length ≤ 2 ^ 9 := Nat.pow_le_pow_right (by decide) hl9
        have henb : enoX M0 n = (rowX M0 n).length - ((rowX M0 n).length - mi M0 22 7 - 1) / 2 := rfl
        have hfnd : fndX M0 n = findS (rowX M0 n) (mi M0 22 7).toNat (enoX M0 n) (fpS (rowX M0 n).length (mi M0 22 7).toNat) := by
          have h1 := findS_prv (rowX M0 n) (mi M0 22 7).toNat (enoX M0 n) (2 ^ (rowX M0 n).length - 1)
          have h2 : 1 ≤ 2 ^ (rowX M0 n).length := Nat.one_le_two_pow
          rw [show 2 ^ (rowX M0 n).length - 1 + 1 = 2 ^ (rowX M0 n).length by omega, (fst_all (rowX M0 n).length (by omega) (mi M0 22 7).toNat (by omega) hgl).1] at h1
          exact h1
        have hfe : ∀ p, popN p = (mi M0 22 7).toNat + 1 → p < 2 ^ (rowX M0 n).length → (posL (rowX M0 n).length p).length = (mi M0 22 7).toNat + 1 := fun p h1 h2 => by
          rw [pos_len (rowX M0 n).length (by omega) p (by omega) h2, h1]
        refine g_aload_n rfl dX5_fetch_44 ?_
        refine g_dup rfl dX5_fetch_45 ?_
        refine gf_X5_144 (by decide) rfl dX5_fetch_46 ?_
        rw [hs 31 13 (by omega)]
        refine g_aload_n rfl dX5_fetch_49 ?_
        refine gf_X5_7 (by decide) rfl dX5_fetch_50 ?_
        rw [hs 31 1 (by omega)]
        refine g_iload_n rfl dX5_fetch_53 ?_
        refine g_imul dX5_fetch_54 ?_
        refine g_iadd dX5_fetch_55 ?_
        refine gp_X5_144 (by decide) rfl dX5_fetch_56 ?_
        refine g_aload_n rfl dX5_fetch_59 ?_
        refine g_dup rfl dX5_fetch_60 ?_
        refine gf_X5_147 (by decide) rfl dX5_fetch_61 ?_
        rw [mset_ne _ _ (Or.inr (by decide)), hs 31 14 (by omega)]
        refine g_aload_n rfl dX5_fetch_64 ?_
        refine gf_X5_131 (by decide) rfl dX5_fetch_65 ?_
        rw [mset_ne _ _ (Or.inr (by decide)), hr.1]
        refine g_iadd dX5_fetch_68 ?_
        refine gp_X5_147 (by decide) rfl dX5_fetch_69 ?_
        generalize hMB : mset (mset M27 31 13 (M0 31 13 + M0 31 1 * zI ↑n)) 31 14 (M0 31 14 + zI ↑(rowX M0 n).length) = MB
        have b0 : ∀ a b, ¬ (39 ≤ a ∧ a ≤ 41 ∨ a = 31 ∧ (b = 0 ∨ b = 13 ∨ b = 14 ∨ b = 16)) → MB a b = M0 a b := fun a b hab => by
          rw [← hMB, mset_ne _ _ (by omega), mset_ne _ _ (by omega), hs a b (by omega)]
        have b13 : MB 31 13 = M0 31 13 + M0 31 1 * zI n := by
          rw [← hMB, mset_ne _ _ (Or.inr (by decide)), mset_same]
        have b14 : MB 31 14 = M0 31 14 + zI (rowX M0 n).length := by
          rw [← hMB, mset_same]
        have b16 : MB 31 16 = zI (rowX M0 n).length := by
          rw [← hMB, mset_ne _ _ (Or.inr (by decide)), mset_ne _ _ (Or.inr (by decide)), hr.1]
        have b39 : MB 39 = M27 39 := by rw [← hMB, mset_other _ _ _ (by decide), mset_other _ _ _ (by decide)]
        have b40 : MB 40 = M27 40 := by rw [← hMB, mset_other _ _ _ (by decide), mset_other _ _ _ (by decide)]
        have hrB : RowM MB (rowX M0 n) := ⟨b16, fun p x hx => by rw [b39, b40]; exact hr.2 p x hx⟩
        have e1B : MB 31 1 = zI (mi M0 0 6) := by rw [b0 31 1 (by omega), hI.dg, mi_z]
        have e8B : MB 31 8 = zI (mi M0 22 5) := by rw [b0 31 8 (by omega), (hI.qs ha).2.1, mi_z]
        refine g_aload_n rfl dX5_fetch_72 ?_
        refine gf_X5_131 (by decide) rfl dX5_fetch_73 ?_
        rw [b16]
        refine g_aload_n rfl dX5_fetch_76 ?_
        refine gi_X5_81 (by decide) rfl (ev_X5_degree e1B e8B) rfl rfl ⟨Nat.le_of_ble_eq_true rfl, Nat.le_of_ble_eq_true rfl, Nat.le_of_ble_eq_true rfl, Nat.le_of_ble_eq_true rfl⟩ (Nat.le_of_ble_eq_true rfl) dX5_fetch_77 (fun r77 M77 hq77 => ?_)
        obtain ⟨rfl, rfl⟩ := hq77
        rw [hdg]
        refine g_isub dX5_fetch_80 ?_
        refine g_iconst dX5_fetch_81 ?_
        refine g_isub dX5_fetch_82 ?_
        refine g_iconst dX5_fetch_83 ?_
        refine g_idiv (by decide) dX5_fetch_84 ?_
        rw [zI_sub, zI_sub, zI_div (by omega) (by omega) (by decide) (by decide)]
        refine g_istore_n (L2 := [(0, _), (1, _), (2, _)]) (by decide) rfl dX5_fetch_85 ?_
        refine g_aload_n rfl dX5_fetch_86 ?_
        refine gi_X5_150 (by decide) rfl (ev_X5_first (M := MB) (m := mi M0 0 6) (t := mi M0 22 5) (g := (mi M0 22 7).toNat) e1B e8B hg3 hg6) rfl rfl ⟨Nat.le_of_ble_eq_true rfl, Nat.le_of_ble_eq_true rfl, Nat.le_of_ble_eq_true rfl, Nat.le_of_ble_eq_true rfl⟩ (Nat.le_of_ble_eq_true rfl) dX5_fetch_87 (fun r87 M87 hq87 => ?_)
        obtain ⟨rfl, hs5, hc5⟩ := hq87
        refine g_iconst dX5_fetch_90 ?_
        refine g_istore_n (L2 := [(0, _), (1, _), (2, _), (3, _)]) (by decide) rfl dX5_fetch_91 ?_
        have mk : ∀ M1 : Mem, (∀ a, a ≠ 41 → M1 a = MB a) → ∀ p, popN p = (mi M0 22 7).toNat + 1 → p < 2 ^ (rowX M0 n).length → ChoM M1 (mi M0 22 7).toNat (cF (rowX M0 n).length p) → CurM M1 (rowX M0 n) (mi M0 0 6) (mi M0 22 5) (mi M0 22 7).toNat (cF (rowX M0 n).length p) := fun M1 h1 p h2 h3 h4 => ⟨⟨by rw [h1 31 (by decide)]; exact hrB.1, fun p x hx => by rw [h1 39 (by decide), h1 40 (by decide)]; exact hrB.2 p x hx⟩, hl9, hok, h4, fun a h9 => pos_lt _ _ (by rw [hfe p h2 h3]; omega), by rw [h1 31 (by decide)]; exact e1B, by rw [h1 31 (by decide)]; exact e8B, hg3, hg1, hg6⟩
        have loop : ∀ N p, p < N → popN p = (mi M0 22 7).toNat + 1 → p < 2 ^ (rowX M0 n).length → ∀ M1 : Mem, (∀ a, a ≠ 41 → M1 a = MB a) → ChoM M1 (mi M0 22 7).toNat (cF (rowX M0 n).length p) →
            (∀ M2 : Mem, (∀ a, a ≠ 41 → M2 a = MB a) → (∀ p2, findS (rowX M0 n) (mi M0 22 7).toNat (enoX M0 n) p = some p2 → ChoM M2 (mi M0 22 7).toNat (cF (rowX M0 n).length p2)) → G yX5_fetch.cls cX5_fetch 5 (some .int) (gE 4 Q) 117 [(0, .ref 31), (1, .int (zI n)), (2, .int (zI (((rowX M0 n).length - mi M0 22 7 - 1) / 2))), (3, .int (bI (findS (rowX M0 n) (mi M0 22 7).toNat (enoX M0 n) p).isSome))] [] M2) →
            G yX5_fetch.cls cX5_fetch 5 (some .int) (gE 4 Q) 92 [(0, .ref 31), (1, .int (zI n)), (2, .int (zI (((rowX M0 n).length - mi M0 22 7 - 1) / 2))), (3, .int (zI 1))] [] M1 := by
          intro N
          induction N with
          | zero => intro p hp; omega
          | succ N ih =>
            intro p hpN hp1 hp2 M1 hb hc K
            have hpl := hfe p hp1 hp2
            have hcu := mk M1 hb p hp1 hp2 hc
            have hnz := cur_nz hok hasc hpl
            have hoc := on_cur hok hasc hpl
            have hp0 : 1 ≤ p := by
              rcases Nat.eq_zero_or_pos p with q | q
              · rw [q, pop_0] at hp1
                omega
              · exact q
            have hfs := findS_at (l := rowX M0 n) (e := enoX M0 n) hp1 hp0
            have hcle := cnOn_le (onX (layP (pkS (rowX M0 n) (rowX M0 n).length p (rowX M0 n).length))) (rowX M0 n) (rowX M0 n).length
            have hnx := nx_all (rowX M0 n).length (by omega) p (by omega) hp2 (by omega) (by omega)
            rw [show popN p - 1 = (mi M0 22 7).toNat by omega] at hnx
            unfold chkN at hnx
            refine g_iload_n rfl dX5_fetch_92 ?_
            refine g_if_eq (tgt := 117) dX5_fetch_93 (by decide) (fun c93 => ?_) (fun c93 => ?_)
            · exact absurd c93 (by decide)
            · refine g_aload_n rfl dX5_fetch_96 ?_
              refine gi_X5_153 (by decide) rfl (ev_X5_onCurve hcu hnz) rfl rfl ⟨Nat.le_of_ble_eq_true rfl, Nat.le_of_ble_eq_true rfl, Nat.le_of_ble_eq_true rfl, Nat.le_of_ble_eq_true rfl⟩ (Nat.le_of_ble_eq_true rfl) dX5_fetch_97 (fun r97 M97 hq97 => ?_)
              obtain ⟨rfl, rfl⟩ := hq97
              rw [hoc]
              refine g_aload_n rfl dX5_fetch_100 ?_
              refine gf_X5_131 (by decide) rfl dX5_fetch_101 ?_
              rw [hcu.1.1]
              refine g_iload_n rfl dX5_fetch_104 ?_
              refine g_isub dX5_fetch_105 ?_
              rw [zI_sub]
              refine g_icmp_ge (tgt := 117) dX5_fetch_106 (by decide) (fun c106 => ?_) (fun c106 => ?_)
              · simp (disch := omega) only [i_le, zI_toInt] at c106
                rw [if_pos (by omega)] at hfs
                rw [hfs] at K
                refine K M1 hb (fun p2 h2 => ?_)
                cases h2
                exact hc
              · refine g_aload_n rfl dX5_fetch_109 ?_
                refine gi_X5_156 (by decide) rfl (ev_X5_choose (M := M1) (m := mi M0 0 6) (t := mi M0 22 5) (g := (mi M0 22 7).toNat) (n := (rowX M0 n).length) (c := cF (rowX M0 n).length p) (by rw [hb 31 (by decide)]; exact e1B) (by rw [hb 31 (by decide)]; exact e8B) hg3 hg6 hcu.1.1 hl9 hc (fun a h9 => pos_lt _ _ (by omega)) hgl) rfl rfl ⟨Nat.le_of_ble_eq_true rfl, Nat.le_of_ble_eq_true rfl, Nat.le_of_ble_eq_true rfl, Nat.le_of_ble_eq_true rfl⟩ (Nat.le_of_ble_eq_true rfl) dX5_fetch_110 (fun r110 M110 hq110 => ?_)
                obtain ⟨rfl, hb2, hc2⟩ := hq110
                refine g_istore_n (L2 := [(0, _), (1, _), (2, _), (3, _)]) (by decide) rfl dX5_fetch_113 ?_
                refine g_goto (tgt := 92) dX5_fetch_114 (by decide) ?_
                simp (disch := omega) only [i_le, zI_toInt] at c106
                rw [if_neg (by omega)] at hfs
                have hb3 : ∀ a, a ≠ 41 → M110 a = MB a := fun a h9 => (hb2 a h9).trans (hb a h9)
                cases hf : fndA (rowX M0 n).length (mi M0 22 7).toNat (cF (rowX M0 n).length p) ((mi M0 22 7).toNat + 1) with
                | none =>
                  rw [hf] at hnx
                  have hpn : prv (mi M0 22 7).toNat p = none := Option.isNone_iff_eq_none.mp hnx
                  rw [hpn] at hfs
                  have hfs : findS (rowX M0 n) (mi M0 22 7).toNat (enoX M0 n) p = none := hfs
                  rw [hfs] at K
                  refine g_iload_n rfl dX5_fetch_92 ?_
                  refine g_if_eq (tgt := 117) dX5_fetch_93 (by decide) (fun c93 => ?_) (fun c93 => ?_)
                  · exact K M110 hb3 (fun p2 h2 => by cases h2)
                  · exact absurd rfl c93
                | some a =>
                  rw [hf] at hnx hc2
                  cases hpv : prv (mi M0 22 7).toNat p with
                  | none =>
                    rw [hpv] at hnx
                    cases hnx
                  | some p' =>
                    rw [hpv] at hnx hfs
                    have hfs : findS (rowX M0 n) (mi M0 22 7).toNat (enoX M0 n) p = findS (rowX M0 n) (mi M0 22 7).toNat (enoX M0 n) p' := hfs
                    rw [hfs] at K
                    obtain ⟨k1, k2⟩ := prv_ok _ _ hpv
                    refine ih p' (by omega) k1 (by omega) M110 hb3 (fun b hb9 => ?_) K
                    have h7 := List.all_eq_true.mp hnx b (List.mem_range.mpr (by omega))
                    have h8 : nxtC (cF (rowX M0 n).length p) a b = cF (rowX M0 n).length p' b := by simpa using h7
                    rw [← h8]
                    exact hc2 a rfl b hb9
        obtain ⟨hf1, hf2⟩ := fpS_ok (rowX M0 n).length (by omega) (mi M0 22 7).toNat (by omega) hgl
        have hf4 := (fst_all (rowX M0 n).length (by omega) (mi M0 22 7).toNat (by omega) hgl).2
        have hcf : ∀ a, a ≤ (mi M0 22 7).toNat → cF (rowX M0 n).length (fpS (rowX M0 n).length (mi M0 22 7).toNat) a = a := fun a h9 => by
          have := List.all_eq_true.mp hf4 a (List.mem_range.mpr (by omega))
          simpa using this
        refine loop (fpS (rowX M0 n).length (mi M0 22 7).toNat + 1) (fpS (rowX M0 n).length (mi M0 22 7).toNat) (by omega) hf2 hf1 M87 hs5 (fun a h9 => by rw [hcf a h9]; exact hc5 a h9) (fun M2 hb hc => ?_)
        rw [← hfnd] at hc ⊢
        cases hf : fndX M0 n with
        | none =>
          refine g_iload_n rfl dX5_fetch_117 ?_
          refine g_if_ne (tgt := 124) dX5_fetch_118 (by decide) (fun c118 => ?_) (fun c118 => ?_)
          · exact absurd rfl c118
          · refine g_bipush (by decide) dX5_fetch_121 ?_
            refine g_ireturn rfl dX5_fetch_123 ?_
            refine hQ _ _ (by rw [ftvX, hf]) ⟨fun a b hab => by rw [hb a (by omega), b0 a b (by omega)], by rw [hb 31 (by decide), b13], by rw [hb 31 (by decide), b14], fun j hj => ?_⟩
            rw [hf]
            show M2 38 j = M0 38 j
            rw [hb 38 (by decide), b0 38 j (by omega)]
        | some p =>
          rw [hf] at hc
          have hfp := hf
          rw [hfnd] at hfp
          obtain ⟨u1, u2, u3⟩ := findS_pop _ _ hfp
          have hp2 : p < 2 ^ (rowX M0 n).length := by omega
          have hpl := hfe p u1 hp2
          have hcu := mk M2 hb p u1 hp2 (hc p rfl)
          have hnz := cur_nz hok hasc hpl
          have hlc : ∀ z, lagV (cX (rowX M0 n) (cF (rowX M0 n).length p)) (cY (rowX M0 n) (cF (rowX M0 n).length p)) ((mi M0 22 7).toNat + 1) z = newt (curX M0 n p) z := fun z => lag_cur hok hasc hpl z
          have mkc : ∀ M3 : Mem, (∀ x, x ≠ 38 → M3 x = M2 x) → CurM M3 (rowX M0 n) (mi M0 0 6) (mi M0 22 5) (mi M0 22 7).toNat (cF (rowX M0 n).length p) := fun M3 h3 => ⟨⟨by rw [h3 31 (by decide)]; exact hcu.1.1, fun q x hx => by rw [h3 39 (by decide), h3 40 (by decide)]; exact hcu.1.2 q x hx⟩, hl9, hok, fun a h9 => by rw [h3 41 (by decide)]; exact hc p rfl a h9, hcu.2.2.2.2.1, by rw [h3 31 (by decide)]; exact hcu.2.2.2.2.2.1, by rw [h3 31 (by decide)]; exact hcu.2.2.2.2.2.2.1, hg3, hg1, hg6⟩
          have fin : ∀ M3 : Mem, (∀ x, x ≠ 38 → M3 x = M2 x) → (∀ j, j < 10 → M3 38 j = zI ((offS (onX (curX M0 n p)) (rowX M0 n) (rowX M0 n).length / 2 ^ j % 2 : Nat))) → G yX5_fetch.cls cX5_fetch 5 (some .int) (gE 4 Q) 204 [(0, .ref 31), (1, .int (zI n)), (2, .int (zI (((rowX M0 n).length - mi M0 22 7 - 1) / 2))), (3, .int (zI 1))] [] M3 := by
            intro M3 h3 h38
            refine g_aload_n rfl dX5_fetch_204 ?_
            refine g_iconst dX5_fetch_205 ?_
            refine gi_X5_137 (by decide) rfl (ev_X5_curveAt (mkc M3 h3) hnz (z := 0) (by decide) (by decide)) rfl rfl ⟨Nat.le_of_ble_eq_true rfl, Nat.le_of_ble_eq_true rfl, Nat.le_of_ble_eq_true rfl, Nat.le_of_ble_eq_true rfl⟩ (Nat.le_of_ble_eq_true rfl) dX5_fetch_206 (fun r206 M206 hq206 => ?_)
            obtain ⟨rfl, rfl⟩ := hq206
            refine g_ireturn rfl dX5_fetch_209 ?_
            refine hQ _ _ (by rw [ftvX, hf, hlc 0]) ⟨fun a b hab => by rw [h3 a (by omega), hb a (by omega), b0 a b (by omega)], by rw [h3 31 (by decide), hb 31 (by decide), b13], by rw [h3 31 (by decide), hb 31 (by decide), b14], fun j hj => ?_⟩
            rw [hf]
            exact h38 j hj
          have loop2 : ∀ (d a : Nat), d + a = (rowX M0 n).length → ∀ M3 : Mem, (∀ x, x ≠ 38 → M3 x = M2 x) → (∀ j, j < 10 → M3 38 j = zI ((offS (onX (curX M0 n p)) (rowX M0 n) a / 2 ^ j % 2 : Nat))) → G yX5_fetch.cls cX5_fetch 5 (some .int) (gE 4 Q) 151 [(0, .ref 31), (1, .int (zI n)), (2, .int (zI (((rowX M0 n).length - mi M0 22 7 - 1) / 2))), (3, .int (zI 1)), (4, .int (zI a))] [] M3 := by
            intro d
            induction d with
            | zero =>
              intro a had M3 h3 h38
              obtain rfl : a = (rowX M0 n).length := by omega
              refine g_iload rfl dX5_fetch_151 ?_
              refine g_aload_n rfl dX5_fetch_153 ?_
              refine gf_X5_131 (by decide) rfl dX5_fetch_154 ?_
              rw [h3 31 (by decide), hb 31 (by decide), b16]
              refine g_icmp_ge (tgt := 204) dX5_fetch_157 (by decide) (fun c157 => ?_) (fun c157 => ?_)
              · exact g_locp [0, 1, 2, 3] rfl (fin M3 h3 h38)
              · simp (disch := omega) only [i_le, zI_toInt] at c157
                omega
            | succ d ih =>
              intro a had M3 h3 h38
              have hlt : a < (rowX M0 n).length := by omega
              have hcu3 := mkc M3 h3
              have hge : (rowX M0 n)[a]? = some (rowX M0 n)[a] := List.getElem?_eq_getElem hlt
              obtain ⟨f1, f2⟩ := hcu3.1.2 a _ hge
              obtain ⟨x1, x2, x3, x4⟩ := hok (rowX M0 n)[a] (List.getElem_mem hlt)
              have hgd : (rowX M0 n).getD a (0, 0) = (rowX M0 n)[a] := by rw [List.getD_eq_getElem?_getD, hge]; rfl
              have htop : offS (onX (curX M0 n p)) (rowX M0 n) a < 2 ^ (rowX M0 n)[a].1 := offS_top _ _ a (fun i hi => by
                have := hasc i a hi hlt
                rw [hgd] at this
                exact this)
              have hnb := newt_bd (curX M0 n p) ((rowX M0 n)[a].1 : Nat)
              have hof : offS (onX (curX M0 n p)) (rowX M0 n) (a + 1) = if onX (curX M0 n p) (rowX M0 n)[a] = true then offS (onX (curX M0 n p)) (rowX M0 n) a else offS (onX (curX M0 n p)) (rowX M0 n) a ||| 2 ^ (rowX M0 n)[a].1 := by
                rw [offS, hgd]
              refine g_iload rfl dX5_fetch_151 ?_
              refine g_aload_n rfl dX5_fetch_153 ?_
              refine gf_X5_131 (by decide) rfl dX5_fetch_154 ?_
              rw [h3 31 (by decide), hb 31 (by decide), b16]
              refine g_icmp_ge (tgt := 204) dX5_fetch_157 (by decide) (fun c157 => ?_) (fun c157 => ?_)
              · simp (disch := omega) only [i_le, zI_toInt] at c157
                omega
              · refine g_aload_n rfl dX5_fetch_160 ?_
                refine gf_X5_32 (by decide) rfl rfl dX5_fetch_161 ?_
                refine g_aload_n rfl dX5_fetch_164 ?_
                refine gf_X5_36 (by decide) rfl rfl dX5_fetch_165 ?_
                refine g_iload rfl dX5_fetch_168 ?_
                refine g_iald (n := 9) (by decide) rfl rfl (zI_in (by omega) (by omega) (by decide)) dX5_fetch_170 ?_
                rw [zI_clamp (by omega) (by omega), show ((a : Nat) : Int).toNat = a from rfl, f1]
                refine g_aload_n rfl dX5_fetch_171 ?_
                refine g_aload_n rfl dX5_fetch_172 ?_
                refine gf_X5_36 (by decide) rfl rfl dX5_fetch_173 ?_
                refine g_iload rfl dX5_fetch_176 ?_
                refine g_iald (n := 9) (by decide) rfl rfl (zI_in (by omega) (by omega) (by decide)) dX5_fetch_178 ?_
                rw [zI_clamp (by omega) (by omega), show ((a : Nat) : Int).toNat = a from rfl, f1]
                refine gi_X5_137 (by decide) rfl (ev_X5_curveAt hcu3 hnz (z := ((rowX M0 n)[a].1 : Nat)) (by omega) (by omega)) rfl rfl ⟨Nat.le_of_ble_eq_true rfl, Nat.le_of_ble_eq_true rfl, Nat.le_of_ble_eq_true rfl, Nat.le_of_ble_eq_true rfl⟩ (Nat.le_of_ble_eq_true rfl) dX5_fetch_179 (fun r179 M179 hq179 => ?_)
                obtain ⟨rfl, rfl⟩ := hq179
                rw [hlc]
                refine g_aload_n rfl dX5_fetch_182 ?_
                refine gf_X5_39 (by decide) rfl rfl dX5_fetch_183 ?_
                refine g_iload rfl dX5_fetch_186 ?_
                refine g_iald (n := 9) (by decide) rfl rfl (zI_in (by omega) (by omega) (by decide)) dX5_fetch_188 ?_
                rw [zI_clamp (by omega) (by omega), show ((a : Nat) : Int).toNat = a from rfl, f2]
                refine g_icmp_eq (tgt := 196) dX5_fetch_189 (by decide) (fun c189 => ?_) (fun c189 => ?_)
                · refine g_iconst dX5_fetch_196 ?_
                  refine g_zast (n := 10) (by decide) rfl rfl (zI_in (by omega) (by omega) (by decide)) rfl dX5_fetch_197 ?_
                  rw [zI_clamp (by omega) (by omega), show (((rowX M0 n)[a].1 : Nat) : Int).toNat = (rowX M0 n)[a].1 from rfl]
                  refine g_iinc (L2 := [(0, _), (1, _), (2, _), (3, _), (4, _)]) rfl (by decide) rfl dX5_fetch_198 ?_
                  refine g_goto (tgt := 151) dX5_fetch_201 (by decide) ?_
                  rw [zI_eqz (by omega) (by omega) (by omega) (by omega)] at c189
                  rw [zI_add]
                  rw [if_pos (by rw [onX, decide_eq_true c189])] at hof
                  refine ih (a + 1) (by omega) _ (fun x hx => by rw [mset_other _ _ _ hx, h3 x hx]) (fun j hj => ?_)
                  rw [hof]
                  by_cases hj2 : j = (rowX M0 n)[a].1
                  · rw [hj2, mset_same, Nat.div_eq_of_lt htop]
                    rfl
                  · rw [mset_ne _ _ (Or.inr hj2)]
                    exact h38 j hj
                · refine g_iconst dX5_fetch_192 ?_
                  refine g_goto (tgt := 197) dX5_fetch_193 (by decide) ?_
                  refine g_zast (n := 10) (by decide) rfl rfl (zI_in (by omega) (by omega) (by decide)) rfl dX5_fetch_197 ?_
                  rw [zI_clamp (by omega) (by omega), show (((rowX M0 n)[a].1 : Nat) : Int).toNat = (rowX M0 n)[a].1 from rfl]
                  refine g_iinc (L2 := [(0, _), (1, _), (2, _), (3, _), (4, _)]) rfl (by decide) rfl dX5_fetch_198 ?_
                  refine g_goto (tgt := 151) dX5_fetch_201 (by decide) ?_
                  rw [zI_eqz (by omega) (by omega) (by omega) (by omega)] at c189
                  rw [zI_add]
                  rw [if_neg (by rw [onX, decide_eq_false c189]; decide)] at hof
                  refine ih (a + 1) (by omega) _ (fun x hx => by rw [mset_other _ _ _ hx, h3 x hx]) (fun j hj => ?_)
                  rw [hof, bit_or]
                  by_cases hj2 : j = (rowX M0 n)[a].1
                  · rw [if_pos hj2, hj2, mset_same]
                    rfl
                  · rw [if_neg hj2, mset_ne _ _ (Or.inr hj2)]
                    exact h38 j hj
          have loop1 : ∀ (d q : Nat), d + q = 10 → G yX5_fetch.cls cX5_fetch 5 (some .int) (gE 4 Q) 127 [(0, .ref 31), (1, .int (zI n)), (2, .int (zI (((rowX M0 n).length - mi M0 22 7 - 1) / 2))), (3, .int (zI 1)), (4, .int (zI q))] [] (mfill M2 38 q (fun _ => zI 0)) := by
            intro d
            induction d with
            | zero =>
              intro q hq
              obtain rfl : q = 10 := by omega
              refine g_iload rfl dX5_fetch_127 ?_
              refine g_bipush (by decide) dX5_fetch_129 ?_
              refine g_icmp_ge (tgt := 148) dX5_fetch_131 (by decide) (fun c131 => ?_) (fun c131 => ?_)
              · refine g_iconst dX5_fetch_148 ?_
                refine g_istore (L2 := [(0, _), (1, _), (2, _), (3, _), (4, _)]) (by decide) rfl dX5_fetch_149 ?_
                exact loop2 (rowX M0 n).length 0 (by omega) _ (fun x hx => mfill_ne _ _ hx) (fun j hj => by rw [mfill_in _ _ hj, offS, Nat.zero_div]; rfl)
              · simp (disch := omega) only [i_le, zI_toInt] at c131
                omega
            | succ d ih =>
              intro q hq
              have ih := ih (q + 1) (by omega)
              rw [← mfill_s] at ih
              refine g_iload rfl dX5_fetch_127 ?_
              refine g_bipush (by decide) dX5_fetch_129 ?_
              refine g_icmp_ge (tgt := 148) dX5_fetch_131 (by decide) (fun c131 => ?_) (fun c131 => ?_)
              · simp (disch := omega) only [i_le, zI_toInt] at c131
                omega
              · refine g_aload_n rfl dX5_fetch_134 ?_
                refine gf_X5_32 (by decide) rfl rfl dX5_fetch_135 ?_
                refine g_iload rfl dX5_fetch_138 ?_
                refine g_iconst dX5_fetch_140 ?_
                refine g_zast (n := 10) (by decide) rfl rfl (zI_in (by omega) (by omega) (by decide)) rfl dX5_fetch_141 ?_
                rw [zI_clamp (by omega) (by omega), show ((q : Nat) : Int).toNat = q from rfl]
                refine g_iinc (L2 := [(0, _), (1, _), (2, _), (3, _), (4, _)]) rfl (by decide) rfl dX5_fetch_142 ?_
                refine g_goto (tgt := 127) dX5_fetch_145 (by decide) ?_
                rw [zI_add]
                exact ih
          refine g_iload_n rfl dX5_fetch_117 ?_
          refine g_if_ne (tgt := 124) dX5_fetch_118 (by decide) (fun c118 => ?_) (fun c118 => ?_)
          · refine g_iconst dX5_fetch_124 ?_
            refine g_istore (L2 := [(0, _), (1, _), (2, _), (3, _), (4, _)]) (by decide) rfl dX5_fetch_125 ?_
            have e9 := loop1 10 0 (by omega)
            rw [mfill_0] at e9
            exact e9
          · exact absurd c118 (by show ¬ zI 1 = 0; decide)
      · refine g_bipush (by decide) dX5_fetch_41 ?_
        refine g_ireturn rfl dX5_fetch_43 ?_
        simp (disch := omega) only [i_lt, zI_toInt] at c38
        have e : rofX M0 (zI n) = zI (-3) := by
          rw [rofX, if_pos c9, tnN (by omega), if_neg (fun q => by have := q.2; omega)]
        rw [e] at hQ
        exact hQ _ _ ⟨by rw [if_neg (by decide)], fun _ => hs, fun q => absurd q (by decide)⟩
    · refine g_bipush (by decide) dX5_fetch_22 ?_
      refine g_ireturn rfl dX5_fetch_24 ?_
      have e : rofX M0 (zI n) = zI (-3) := by rw [rofX, if_pos c9, if_neg (fun q => q.1 c19)]
      rw [e] at hQ
      exact hQ _ _ ⟨by rw [if_neg (by decide)], fun _ => SamM.r M0, fun q => absurd q (by decide)⟩
  · refine g_bipush (by decide) dX5_fetch_12 ?_
    refine g_ireturn rfl dX5_fetch_14 ?_
    rw [bI_d0] at c9
    have e : rofX M0 s = zI (-2) := by rw [rofX, if_neg c9]
    rw [e] at hQ
    exact hQ _ _ ⟨by rw [if_neg (by decide)], fun _ => SamM.r M0, fun q => absurd q (by decide)⟩
