/-! the reference: ask and veil -/
def askB (M0 : Mem) (i t : Int32) : Mem := mset (mset (mset (mset (mset M0 31 6 (zI 1)) 31 10 (zI 0)) 31 7 i) 31 8 t) 31 15 (M0 31 15 + zI 1)
/-- the lots of the first places are laid -/
def AskP (Mb : Mem) (s : Int) (T k e : Nat) (M2 : Mem) : Prop :=
  (∀ a, a ≠ 36 → M2 a = Mb a) ∧ (∀ k' e', e' < T → (k' < k ∨ k' = k ∧ e' < e) → M2 36 (2 * k' + e') = zI (lotS s (k' * T + e'))) ∧ (∀ q, q < 6 → 0 ≤ mi M2 36 q ∧ mi M2 36 q < 97)
theorem AskP.step {Mb M2 : Mem} {s : Int} {T k e c : Nat} (h : AskP Mb s T k e M2) (hT : T ≤ 2) (he : e < T) (hc : c = k * T + e) : AskP Mb s T k (e + 1) (mset M2 36 (2 * k + e) (zI (lotS s c))) := by
  subst hc
  have hb := lotS_bd s (k * T + e)
  refine ⟨fun a ha => by rw [mset_other _ _ _ ha, h.1 a ha], fun k' e' h1 h2 => ?_, fun q hq => ?_⟩
  · by_cases hq : k' = k ∧ e' = e
    · obtain ⟨rfl, rfl⟩ := hq
      rw [mset_same]
    · rw [mset_ne _ _ (Or.inr (by omega))]
      exact h.2.1 k' e' h1 (by omega)
  · unfold mi
    by_cases hq2 : q = 2 * k + e
    · rw [hq2, mset_same, zI_toInt (by omega) (by omega)]
      exact hb
    · rw [mset_ne _ _ (Or.inr hq2)]
      exact h.2.2 q hq
theorem AskP.next {Mb M2 : Mem} {s : Int} {T k : Nat} (h : AskP Mb s T k T M2) : AskP Mb s T (k + 1) 0 M2 :=
  ⟨h.1, fun k' e' h1 h2 => h.2.1 k' e' h1 (by omega), h.2.2⟩
theorem ev_X5_ask {M : Mem} (hw : WX (thM M)) (hm : (thM M) 31 1 = zI (xm (thM M))) (hlb : ∀ q, q < 6 → 0 ≤ mi (thM M) 36 q ∧ mi (thM M) 36 q < 97) (i t s : Int32) : Ev yX5_ask cX5_ask 8 (some .int) 2 [.ref 31, .int i, .int t, .int s] M (fun r M1 => some (.int (if okR (thM M) i then (if okA t s then zI (mi (thM M) 0 6 * t.toInt) else zI (-2)) else zI (-1))) = r ∧ (¬ (okR (thM M) i ∧ okA t s) → thM M = M1) ∧ (okR (thM M) i ∧ okA t s → AskP (askB (thM M) i t) s.toInt t.toInt.toNat (xm (thM M)) 0 M1)) := by
  refine Ev.of (by decide +kernel) (Nat.le_of_ble_eq_true rfl) (fun Q hQ => ?_)
  generalize hM0 : thM M = M0 at hw hm hlb hQ
  obtain ⟨hm1, hm2, hm6, -⟩ := hw.m
  have b1 := i_bd t
  have b2 := i_bd s
  have e15 : mset (mset (mset (mset M0 31 6 (zI 1)) 31 10 (zI 0)) 31 7 i) 31 8 t 31 15 = M0 31 15 := by simp [mset]
  have ed : askB M0 i t 31 1 = zI (xm M0) := by
    rw [← hm]
    simp [askB, mset]
  have et : askB M0 i t 31 8 = zI t.toInt := by
    rw [zI_of]
    simp [askB, mset]
  refine g_aload_n rfl dX5_ask_0 ?_
  refine g_iconst dX5_ask_1 ?_
  refine gp_X5_45 (by decide) rfl dX5_ask_2 ?_
  refine g_mem hM0 ?_
  refine g_aload_n rfl dX5_ask_5 ?_
  refine g_iload_n rfl dX5_ask_6 ?_
  refine gi_X5_93 (by decide) rfl (ev_X5_isRecord hw hm i) rfl rfl ⟨Nat.le_of_ble_eq_true rfl, Nat.le_of_ble_eq_true rfl, Nat.le_of_ble_eq_true rfl, Nat.le_of_ble_eq_true rfl⟩ (Nat.le_of_ble_eq_true rfl) dX5_ask_7 (fun r7 M7 hq7 => ?_)
  obtain ⟨rfl, rfl⟩ := hq7
  refine g_if_ne (tgt := 15) dX5_ask_10 (by decide) (fun c10 => ?_) (fun c10 => ?_)
  · refine g_iload_n rfl dX5_ask_15 ?_
    refine g_i2l dX5_ask_16 ?_
    rw [i32l]
    refine g_lconst (v := zL 1) (by decide) dX5_ask_17 ?_
    refine g_ldc2 gz_X5_103 dX5_ask_18 ?_
    refine gi_X5_53 (ev_X5_in (v := t.toInt) (lo := 1) (hi := 2) (by omega) (by omega) (by decide) (by decide) (by decide) (by decide) M0) rfl rfl ⟨Nat.le_of_ble_eq_true rfl, Nat.le_of_ble_eq_true rfl, Nat.le_of_ble_eq_true rfl, Nat.le_of_ble_eq_true rfl⟩ (Nat.le_of_ble_eq_true rfl) dX5_ask_21 (fun r21 M21 hq21 => ?_)
    obtain ⟨rfl, rfl⟩ := hq21
    refine g_if_eq (tgt := 31) dX5_ask_24 (by decide) (fun c24 => ?_) (fun c24 => ?_)
    · rw [bI_dn] at c10
      have ck : ¬ okA t s := by
        first
        | (rw [bI_d0] at c24
           exact fun q => c24 q.1)
        | (simp (disch := omega) only [i_le, zI_toInt, i_0] at c28
           exact fun q => c28 q.2)
      rw [if_pos c10, if_neg ck] at hQ
      refine g_bipush (by decide) dX5_ask_31 ?_
      refine g_ireturn rfl dX5_ask_33 ?_
      exact hQ _ _ ⟨rfl, fun _ => rfl, fun q => absurd q.2 ck⟩
    · refine g_iload_n rfl dX5_ask_27 ?_
      refine g_if_ge (tgt := 34) dX5_ask_28 (by decide) (fun c28 => ?_) (fun c28 => ?_)
      · rw [bI_dn] at c10 c24
        simp (disch := omega) only [i_le, zI_toInt, i_0] at c28
        have ck : okA t s := ⟨c24, c28⟩
        rw [if_pos c10, if_pos ck] at hQ
        obtain ⟨T, hT⟩ : ∃ T, t.toInt.toNat = T := ⟨_, rfl⟩
        have hT2 : t.toInt = (T : Nat) := by omega
        have hend : ∀ M2, AskP (askB M0 i t) s.toInt T (xm M0) 0 M2 → Q (some (.int (zI (mi M0 0 6 * t.toInt)))) M2 := fun M2 h2 => hQ _ _ ⟨rfl, fun q => absurd ⟨c10, ck⟩ q, fun _ => by rw [hT]; exact h2⟩
        have inner : ∀ (k : Nat), k < 3 → (∀ M2, AskP (askB M0 i t) s.toInt T (k + 1) 0 M2 → G yX5_ask.cls cX5_ask 8 (some .int) (gE 2 Q) 71 [(0, .ref 31), (1, .int i), (2, .int t), (3, .int s), (4, .long (zL (lcgs s.toInt ((k + 1) * T)))), (6, .int (zI ((k + 1 : Nat) : Int)))] [] M2) →
            ∀ (d e : Nat) (M2 : Mem), d + e = T → AskP (askB M0 i t) s.toInt T k e M2 → G yX5_ask.cls cX5_ask 8 (some .int) (gE 2 Q) 83 [(0, .ref 31), (1, .int i), (2, .int t), (3, .int s), (4, .long (zL (lcgs s.toInt (k * T + e)))), (6, .int (zI k)), (7, .int (zI e))] [] M2 := by
          intro k hk hout d
          induction d with
          | zero =>
            intro e M2 he hP
            obtain rfl : e = T := by omega
            refine g_iload rfl dX5_ask_83 ?_
            refine g_iload_n rfl dX5_ask_85 ?_
            refine g_icmp_ge (tgt := 119) dX5_ask_86 (by decide) (fun c86 => ?_) (fun c86 => ?_)
            · refine g_iinc (L2 := [(0, _), (1, _), (2, _), (3, _), (4, _), (6, _), (7, _)]) rfl (by decide) rfl dX5_ask_119 ?_
              refine g_goto (tgt := 71) dX5_ask_122 (by decide) ?_
              rw [zI_add, show k * e + e = (k + 1) * e from (Nat.succ_mul k e).symm]
              exact g_locp [0, 1, 2, 3, 4, 5] rfl (hout M2 hP.next)
            · rw [← zI_of t] at c86
              simp (disch := omega) only [i_le, zI_toInt] at c86
              omega
          | succ d ih =>
            intro e M2 he hP
            have ih := fun M3 h3 => ih (e + 1) M3 (by omega) h3
            have hb1 := lcgs_bd (s := s.toInt) c28 b2.2 (k * T + e)
            have hb2 := lcgs_bd (s := s.toInt) c28 b2.2 (k * T + e + 1)
            refine g_iload rfl dX5_ask_83 ?_
            refine g_iload_n rfl dX5_ask_85 ?_
            refine g_icmp_ge (tgt := 119) dX5_ask_86 (by decide) (fun c86 => ?_) (fun c86 => ?_)
            · rw [← zI_of t] at c86
              simp (disch := omega) only [i_le, zI_toInt] at c86
              omega
            · refine g_lload rfl dX5_ask_89 ?_
              refine gi_X5_118 (ev_X5_next hb1.1 hb1.2 M2) rfl rfl ⟨Nat.le_of_ble_eq_true rfl, Nat.le_of_ble_eq_true rfl, Nat.le_of_ble_eq_true rfl, Nat.le_of_ble_eq_true rfl⟩ (Nat.le_of_ble_eq_true rfl) dX5_ask_91 (fun r91 M91 hq91 => ?_)
              obtain ⟨rfl, rfl⟩ := hq91
              refine g_lstore (L2 := [(0, _), (1, _), (2, _), (3, _), (4, _), (6, _), (7, _)]) (by decide) rfl dX5_ask_94 ?_
              refine g_aload_n rfl dX5_ask_96 ?_
              refine gf_X5_26 (by decide) rfl rfl dX5_ask_97 ?_
              refine g_iconst dX5_ask_100 ?_
              refine g_iload rfl dX5_ask_101 ?_
              refine g_imul dX5_ask_103 ?_
              refine g_iload rfl dX5_ask_104 ?_
              refine g_iadd dX5_ask_106 ?_
              rw [zI_mul, zI_add, show (2 : Int) * (k : Nat) + (e : Nat) = ((2 * k + e : Nat) : Int) by omega]
              refine g_lload rfl dX5_ask_107 ?_
              refine gi_X5_122 (ev_X5_lotOf (z := lcgs s.toInt (k * T + e + 1)) hb2.1 hb2.2 M2) rfl rfl ⟨Nat.le_of_ble_eq_true rfl, Nat.le_of_ble_eq_true rfl, Nat.le_of_ble_eq_true rfl, Nat.le_of_ble_eq_true rfl⟩ (Nat.le_of_ble_eq_true rfl) dX5_ask_109 (fun r109 M109 hq109 => ?_)
              obtain ⟨rfl, rfl⟩ := hq109
              refine g_iast (n := 6) (by decide) rfl rfl (zI_in (by omega) (by omega) (by decide)) dX5_ask_112 ?_
              rw [zI_clamp (by omega) (by omega), show ((2 * k + e : Nat) : Int).toNat = 2 * k + e from rfl]
              refine g_iinc (L2 := [(0, _), (1, _), (2, _), (3, _), (4, _), (6, _), (7, _)]) rfl (by decide) rfl dX5_ask_113 ?_
              refine g_goto (tgt := 83) dX5_ask_116 (by decide) ?_
              rw [zI_add]
              exact ih _ (hP.step (c := k * T + e) (by omega) (by omega) rfl)
        have outer : ∀ (d k : Nat) (M2 : Mem), d + k = xm M0 → AskP (askB M0 i t) s.toInt T k 0 M2 → G yX5_ask.cls cX5_ask 8 (some .int) (gE 2 Q) 71 [(0, .ref 31), (1, .int i), (2, .int t), (3, .int s), (4, .long (zL (lcgs s.toInt (k * T)))), (6, .int (zI k))] [] M2 := by
          intro d
          induction d with
          | zero =>
            intro k M2 hk hP
            obtain rfl : k = xm M0 := by omega
            have h31 := hP.1 31 (by decide)
            have e1 : M2 31 1 = zI (xm M0) := by rw [h31, ed]
            have e8 : M2 31 8 = zI t.toInt := by rw [h31, et]
            refine g_iload rfl dX5_ask_71 ?_
            refine g_aload_n rfl dX5_ask_73 ?_
            refine gf_X5_7 (by decide) rfl dX5_ask_74 ?_
            rw [e1]
            refine g_icmp_ge (tgt := 125) dX5_ask_77 (by decide) (fun c77 => ?_) (fun c77 => ?_)
            · refine g_aload_n rfl dX5_ask_125 ?_
              refine gi_X5_81 (by decide) rfl (ev_X5_degree e1 e8) rfl rfl ⟨Nat.le_of_ble_eq_true rfl, Nat.le_of_ble_eq_true rfl, Nat.le_of_ble_eq_true rfl, Nat.le_of_ble_eq_true rfl⟩ (Nat.le_of_ble_eq_true rfl) dX5_ask_126 (fun r126 M126 hq126 => ?_)
              obtain ⟨rfl, rfl⟩ := hq126
              refine g_ireturn rfl dX5_ask_129 ?_
              rw [← hm6]
              exact hend M2 hP
            · simp (disch := omega) only [i_le, zI_toInt] at c77
              omega
          | succ d ih =>
            intro k M2 hk hP
            have h31 := hP.1 31 (by decide)
            have e1 : M2 31 1 = zI (xm M0) := by rw [h31, ed]
            refine g_iload rfl dX5_ask_71 ?_
            refine g_aload_n rfl dX5_ask_73 ?_
            refine gf_X5_7 (by decide) rfl dX5_ask_74 ?_
            rw [e1]
            refine g_icmp_ge (tgt := 125) dX5_ask_77 (by decide) (fun c77 => ?_) (fun c77 => ?_)
            · simp (disch := omega) only [i_le, zI_toInt] at c77
              omega
            · refine g_iconst dX5_ask_80 ?_
              refine g_istore (L2 := [(0, _), (1, _), (2, _), (3, _), (4, _), (6, _), (7, _)]) (by decide) rfl dX5_ask_81 ?_
              exact inner k (by omega) (fun M3 h3 => ih (k + 1) M3 (by omega) h3) T 0 M2 (by omega) hP
        refine g_aload_n rfl dX5_ask_34 ?_
        refine g_iconst dX5_ask_35 ?_
        refine gp_X5_90 (by decide) rfl rfl rfl dX5_ask_36 ?_
        refine g_aload_n rfl dX5_ask_39 ?_
        refine g_iconst dX5_ask_40 ?_
        refine gp_X5_84 (by decide) rfl rfl rfl dX5_ask_41 ?_
        refine g_aload_n rfl dX5_ask_44 ?_
        refine g_iload_n rfl dX5_ask_45 ?_
        refine gp_X5_71 (by decide) rfl dX5_ask_46 ?_
        refine g_aload_n rfl dX5_ask_49 ?_
        refine g_iload_n rfl dX5_ask_50 ?_
        refine gp_X5_48 (by decide) rfl dX5_ask_51 ?_
        refine g_aload_n rfl dX5_ask_54 ?_
        refine g_dup rfl dX5_ask_55 ?_
        refine gf_X5_115 (by decide) rfl dX5_ask_56 ?_
        rw [e15]
        refine g_iconst dX5_ask_59 ?_
        refine g_iadd dX5_ask_60 ?_
        refine gp_X5_115 (by decide) rfl dX5_ask_61 ?_
        refine g_iload_n rfl dX5_ask_64 ?_
        refine g_i2l dX5_ask_65 ?_
        refine g_lstore (L2 := [(0, _), (1, _), (2, _), (3, _), (4, _)]) (by decide) rfl dX5_ask_66 ?_
        refine g_iconst dX5_ask_68 ?_
        refine g_istore (L2 := [(0, _), (1, _), (2, _), (3, _), (4, _), (6, _)]) (by decide) rfl dX5_ask_69 ?_
        rw [← zI_of s, zI_l (by omega) (by omega)]
        have e0 : AskP (askB M0 i t) s.toInt T 0 0 (askB M0 i t) := ⟨fun _ _ => rfl, fun k' e' _ h2 => absurd h2 (by omega), fun q hq => by
          have := hlb q hq
          have e36 : askB M0 i t 36 = M0 36 := by
            unfold askB
            simp only [mset_other _ _ _ (show (36 : Nat) ≠ 31 by decide)]
          unfold mi at this ⊢
          rw [e36]
          exact this⟩
        have := outer (xm M0) 0 _ (by omega) e0
        rw [Nat.zero_mul] at this
        rw [← zI_of s] at this
        simp only [zI_of] at this ⊢
        exact this
      · rw [bI_dn] at c10
        have ck : ¬ okA t s := by
          first
          | (rw [bI_d0] at c24
             exact fun q => c24 q.1)
          | (simp (disch := omega) only [i_le, zI_toInt, i_0] at c28
             exact fun q => c28 q.2)
        rw [if_pos c10, if_neg ck] at hQ
        refine g_bipush (by decide) dX5_ask_31 ?_
        refine g_ireturn rfl dX5_ask_33 ?_
        exact hQ _ _ ⟨rfl, fun _ => rfl, fun q => absurd q.2 ck⟩
  · refine g_iconst dX5_ask_13 ?_
    refine g_ireturn rfl dX5_ask_14 ?_
    rw [bI_d0] at c10
    rw [if_neg c10] at hQ
    exact hQ _ _ ⟨rfl, fun _ => rfl, fun q => absurd q.1 c10⟩
/-- what veil leaves in the reference -/
def VeiM (M0 M1 : Mem) (s : Int) (g : Nat) : Prop :=
  (∀ a, a ≠ 31 → a ≠ 37 → M1 a = M0 a) ∧ (∀ b, b ≠ 10 → M1 31 b = M0 31 b) ∧ (s = -9 → M1 31 10 = zI 0) ∧ (¬ s = -9 → M1 31 10 = zI 1 ∧ ∀ e, e < g → M1 37 (e + 1) = zI (lotS s e))
theorem ev_X5_veil {M : Mem} {m t : Int} {g : Nat} (hg : 1 ≤ g ∧ g ≤ 6) (hd : ¬ (thM M) 31 6 = 0 → (thM M) 31 1 = zI m ∧ (thM M) 31 8 = zI t ∧ m * t = g) (s : Int32) : Ev yX5_veil cX5_veil 6 (some .int) 2 [.ref 31, .int s] M (fun r M1 => some (.int (if okV s then (if (thM M) 31 6 = 0 then zI (-3) else if (thM M) 31 10 = 0 then zI 0 else zI 1) else zI (-2))) = r ∧ (¬ (okV s ∧ ¬ (thM M) 31 6 = 0) → thM M = M1) ∧ (okV s ∧ ¬ (thM M) 31 6 = 0 → VeiM (thM M) M1 s.toInt g)) := by
  refine Ev.of (by decide +kernel) (Nat.le_of_ble_eq_true rfl) (fun Q hQ => ?_)
  generalize hM0 : thM M = M0 at hd hQ
  have b2 := i_bd s
  have hV : okV s ↔ ¬ (s < 0 ∧ ¬ s = zI (-9)) := by
    simp (disch := omega) only [i_lt, i_0]
    constructor
    · rintro (q | q)
      · exact fun z => z.2 q
      · exact fun z => by omega
    · intro q
      by_cases h : s = zI (-9)
      · exact Or.inl h
      · exact Or.inr (Classical.byContradiction fun z => q ⟨by omega, h⟩)
  refine g_aload_n rfl dX5_veil_0 ?_
  refine g_iconst dX5_veil_1 ?_
  refine gp_X5_45 (by decide) rfl dX5_veil_2 ?_
  refine g_mem hM0 ?_
  refine g_iload_n rfl dX5_veil_5 ?_
  refine g_if_ge (tgt := 18) dX5_veil_6 (by decide) (fun c6 => ?_) (fun c6 => ?_)
  · have ck : okV s := by
      first
      | exact Or.inl c12
      | exact Or.inr (by rw [i_le] at c6; exact c6)
    rw [if_pos ck] at hQ
    refine g_aload_n rfl dX5_veil_18 ?_
    refine gf_X5_90 (by decide) rfl dX5_veil_19 ?_
    refine g_if_ne (tgt := 28) dX5_veil_22 (by decide) (fun c22 => ?_) (fun c22 => ?_)
    · rw [if_neg c22] at hQ
      obtain ⟨hm, e8, emg⟩ := hd c22
      have edg : zI (m * t) = zI (g : Nat) := by rw [emg]
      have hend : ∀ M2, VeiM M0 M2 s.toInt g → Q (some (.int (if M0 31 10 = 0 then zI 0 else zI 1))) M2 := fun M2 h2 => hQ _ _ ⟨rfl, fun q => absurd ⟨ck, c22⟩ q, fun _ => h2⟩
      generalize hwas : (if M0 31 10 = 0 then zI 0 else zI 1) = was at hend
      have tail : G yX5_veil.cls cX5_veil 6 (some .int) (gE 2 Q) 41 [(0, .ref 31), (1, .int s), (2, .int was)] [] M0 := by
        have ev1 : ∀ v, mset M0 31 10 v 31 1 = zI m := fun v => by rw [mset_ne _ _ (Or.inr (by decide)), hm]
        have ev8 : ∀ v, mset M0 31 10 v 31 8 = zI t := fun v => by rw [mset_ne _ _ (Or.inr (by decide)), e8]
        refine g_aload_n rfl dX5_veil_41 ?_
        refine g_iload_n rfl dX5_veil_42 ?_
        refine g_bipush (by decide) dX5_veil_43 ?_
        refine g_icmp_eq (tgt := 52) dX5_veil_45 (by decide) (fun c45 => ?_) (fun c45 => ?_)
        · refine g_iconst dX5_veil_52 ?_
          refine gp_X5_84 (by decide) rfl rfl rfl dX5_veil_53 ?_
          refine g_iload_n rfl dX5_veil_56 ?_
          refine g_i2l dX5_veil_57 ?_
          refine g_lstore_n (L2 := [(0, _), (1, _), (2, _), (3, _)]) (by decide) rfl dX5_veil_58 ?_
          refine g_iconst dX5_veil_59 ?_
          refine g_istore (L2 := [(0, _), (1, _), (2, _), (3, _), (5, _)]) (by decide) rfl dX5_veil_60 ?_
          refine g_iload rfl dX5_veil_62 ?_
          refine g_aload_n rfl dX5_veil_64 ?_
          refine gi_X5_81 (by decide) rfl (ev_X5_degree (ev1 (zI 0)) (ev8 (zI 0))) rfl rfl ⟨Nat.le_of_ble_eq_true rfl, Nat.le_of_ble_eq_true rfl, Nat.le_of_ble_eq_true rfl, Nat.le_of_ble_eq_true rfl⟩ (Nat.le_of_ble_eq_true rfl) dX5_veil_65 (fun r65 M65 hq65 => ?_)
          obtain ⟨rfl, rfl⟩ := hq65
          refine g_icmp_gt (tgt := 100) dX5_veil_68 (by decide) (fun c68 => ?_) (fun c68 => ?_)
          · refine g_iload_n rfl dX5_veil_100 ?_
            refine g_ireturn rfl dX5_veil_101 ?_
            refine hend _ ⟨fun a h1 h2 => mset_other _ _ _ h1, fun b hb => mset_ne _ _ (Or.inr hb), fun _ => mset_same _ _ _ _, fun q => absurd ?_ q⟩
            rw [c45]
            decide
          · refine g_aload_n rfl dX5_veil_71 ?_
            refine gf_X5_84 (by decide) rfl dX5_veil_72 ?_
            rw [mset_same]
            refine g_if_eq (tgt := 100) dX5_veil_75 (by decide) (fun c75 => ?_) (fun c75 => ?_)
            · refine g_iload_n rfl dX5_veil_100 ?_
              refine g_ireturn rfl dX5_veil_101 ?_
              refine hend _ ⟨fun a h1 h2 => mset_other _ _ _ h1, fun b hb => mset_ne _ _ (Or.inr hb), fun _ => mset_same _ _ _ _, fun q => absurd ?_ q⟩
              rw [c45]
              decide
            · exact absurd rfl c75
        · refine g_iconst dX5_veil_48 ?_
          refine g_goto (tgt := 53) dX5_veil_49 (by decide) ?_
          refine gp_X5_84 (by decide) rfl rfl rfl dX5_veil_53 ?_
          refine g_iload_n rfl dX5_veil_56 ?_
          refine g_i2l dX5_veil_57 ?_
          refine g_lstore_n (L2 := [(0, _), (1, _), (2, _), (3, _)]) (by decide) rfl dX5_veil_58 ?_
          refine g_iconst dX5_veil_59 ?_
          refine g_istore (L2 := [(0, _), (1, _), (2, _), (3, _), (5, _)]) (by decide) rfl dX5_veil_60 ?_
          have hs9 : ¬ s.toInt = -9 := fun q => c45 (by rw [← zI_of s, q])
          have hs0 : 0 ≤ s.toInt := by
            rcases ck with q | q
            · exact absurd q c45
            · exact q
          have loop : ∀ (d e : Nat) (M2 : Mem), d + e = g → (∀ a, a ≠ 37 → M2 a = mset M0 31 10 (zI 1) a) → (∀ q, q < e → M2 37 (q + 1) = zI (lotS s.toInt q)) → G yX5_veil.cls cX5_veil 6 (some .int) (gE 2 Q) 62 [(0, .ref 31), (1, .int s), (2, .int was), (3, .long (zL (lcgs s.toInt e))), (5, .int (zI ((e + 1 : Nat) : Int)))] [] M2 := by
            intro d
            induction d with
            | zero =>
              intro e M2 he hP hL
              obtain rfl : e = g := by omega
              have e1 : M2 31 1 = zI m := by rw [hP 31 (by decide), ev1]
              have e8 : M2 31 8 = zI t := by rw [hP 31 (by decide), ev8]
              have hb := hP 31 (by decide)
              refine g_iload rfl dX5_veil_62 ?_
              refine g_aload_n rfl dX5_veil_64 ?_
              refine gi_X5_81 (by decide) rfl (ev_X5_degree e1 e8) rfl rfl ⟨Nat.le_of_ble_eq_true rfl, Nat.le_of_ble_eq_true rfl, Nat.le_of_ble_eq_true rfl, Nat.le_of_ble_eq_true rfl⟩ (Nat.le_of_ble_eq_true rfl) dX5_veil_65 (fun r65 M65 hq65 => ?_)
              obtain ⟨rfl, rfl⟩ := hq65
              rw [edg]
              refine g_icmp_gt (tgt := 100) dX5_veil_68 (by decide) (fun c68 => ?_) (fun c68 => ?_)
              · refine g_iload_n rfl dX5_veil_100 ?_
                refine g_ireturn rfl dX5_veil_101 ?_
                exact hend _ ⟨fun a h1 h2 => by rw [hP a h2, mset_other _ _ _ h1], fun b hb2 => by rw [hb, mset_ne _ _ (Or.inr hb2)], fun q => absurd q hs9, fun _ => ⟨by rw [hb, mset_same], hL⟩⟩
              · simp (disch := omega) only [i_lt, i_le, zI_toInt] at c68
                omega
            | succ d ih =>
              intro e M2 he hP hL
              have ih := fun M3 h1 h2 => ih (e + 1) M3 (by omega) h1 h2
              have e1 : M2 31 1 = zI m := by rw [hP 31 (by decide), ev1]
              have e8 : M2 31 8 = zI t := by rw [hP 31 (by decide), ev8]
              have hb1 := lcgs_bd (s := s.toInt) hs0 b2.2 e
              have hb2 := lcgs_bd (s := s.toInt) hs0 b2.2 (e + 1)
              refine g_iload rfl dX5_veil_62 ?_
              refine g_aload_n rfl dX5_veil_64 ?_
              refine gi_X5_81 (by decide) rfl (ev_X5_degree e1 e8) rfl rfl ⟨Nat.le_of_ble_eq_true rfl, Nat.le_of_ble_eq_true rfl, Nat.le_of_ble_eq_true rfl, Nat.le_of_ble_eq_true rfl⟩ (Nat.le_of_ble_eq_true rfl) dX5_veil_65 (fun r65 M65 hq65 => ?_)
              obtain ⟨rfl, rfl⟩ := hq65
              rw [edg]
              refine g_icmp_gt (tgt := 100) dX5_veil_68 (by decide) (fun c68 => ?_) (fun c68 => ?_)
              · simp (disch := omega) only [i_lt, i_le, zI_toInt] at c68
                omega
              · refine g_aload_n rfl dX5_veil_71 ?_
                refine gf_X5_84 (by decide) rfl dX5_veil_72 ?_
                rw [hP 31 (by decide), mset_same]
                refine g_if_eq (tgt := 100) dX5_veil_75 (by decide) (fun c75 => ?_) (fun c75 => ?_)
                · exact absurd c75 (by decide)
                · refine g_lload_n rfl dX5_veil_78 ?_
                  refine gi_X5_118 (ev_X5_next hb1.1 hb1.2 M2) rfl rfl ⟨Nat.le_of_ble_eq_true rfl, Nat.le_of_ble_eq_true rfl, Nat.le_of_ble_eq_true rfl, Nat.le_of_ble_eq_true rfl⟩ (Nat.le_of_ble_eq_true rfl) dX5_veil_79 (fun r79 M79 hq79 => ?_)
                  obtain ⟨rfl, rfl⟩ := hq79
                  refine g_lstore_n (L2 := [(0, _), (1, _), (2, _), (3, _), (5, _)]) (by decide) rfl dX5_veil_82 ?_
                  refine g_aload_n rfl dX5_veil_83 ?_
                  refine gf_X5_29 (by decide) rfl rfl dX5_veil_84 ?_
                  refine g_iload rfl dX5_veil_87 ?_
                  refine g_lload_n rfl dX5_veil_89 ?_
                  refine gi_X5_122 (ev_X5_lotOf (z := lcgs s.toInt (e + 1)) hb2.1 hb2.2 M2) rfl rfl ⟨Nat.le_of_ble_eq_true rfl, Nat.le_of_ble_eq_true rfl, Nat.le_of_ble_eq_true rfl, Nat.le_of_ble_eq_true rfl⟩ (Nat.le_of_ble_eq_true rfl) dX5_veil_90 (fun r90 M90 hq90 => ?_)
                  obtain ⟨rfl, rfl⟩ := hq90
                  refine g_iast (n := 7) (by decide) rfl rfl (zI_in (by omega) (by omega) (by decide)) dX5_veil_93 ?_
                  rw [zI_clamp (by omega) (by omega), show ((e + 1 : Nat) : Int).toNat = e + 1 from rfl]
                  refine g_iinc (L2 := [(0, _), (1, _), (2, _), (3, _), (5, _)]) rfl (by decide) rfl dX5_veil_94 ?_
                  refine g_goto (tgt := 62) dX5_veil_97 (by decide) ?_
                  rw [zI_add]
                  refine ih _ (fun a ha => by rw [mset_other _ _ _ ha, hP a ha]) (fun q hq => ?_)
                  by_cases hqe : q = e
                  · subst hqe
                    rw [mset_same]
                    rfl
                  · rw [mset_ne _ _ (Or.inr (by omega))]
                    exact hL q (by omega)
          have := loop g 0 (mset M0 31 10 (zI 1)) (by omega) (fun _ _ => rfl) (fun q hq => absurd hq (by omega))
          rw [i32l]
          exact this
      refine g_aload_n rfl dX5_veil_28 ?_
      refine gf_X5_84 (by decide) rfl dX5_veil_29 ?_
      refine g_if_eq (tgt := 39) dX5_veil_32 (by decide) (fun c32 => ?_) (fun c32 => ?_)
      · refine g_iconst dX5_veil_39 ?_
        refine g_istore_n (L2 := [(0, _), (1, _), (2, _)]) (by decide) rfl dX5_veil_40 ?_
        first
        | rw [if_pos c32] at hwas
        | rw [if_neg c32] at hwas
        subst hwas
        exact tail
      · refine g_iconst dX5_veil_35 ?_
        refine g_goto (tgt := 40) dX5_veil_36 (by decide) ?_
        refine g_istore_n (L2 := [(0, _), (1, _), (2, _)]) (by decide) rfl dX5_veil_40 ?_
        first
        | rw [if_pos c32] at hwas
        | rw [if_neg c32] at hwas
        subst hwas
        exact tail
    · rw [if_pos (c22)] at hQ
      refine g_bipush (by decide) dX5_veil_25 ?_
      refine g_ireturn rfl dX5_veil_27 ?_
      exact hQ _ _ ⟨rfl, fun _ => rfl, fun q => absurd (c22) q.2⟩
  · refine g_iload_n rfl dX5_veil_9 ?_
    refine g_bipush (by decide) dX5_veil_10 ?_
    refine g_icmp_eq (tgt := 18) dX5_veil_12 (by decide) (fun c12 => ?_) (fun c12 => ?_)
    · have ck : okV s := by
        first
        | exact Or.inl c12
        | exact Or.inr (by rw [i_le] at c6; exact c6)
      rw [if_pos ck] at hQ
      refine g_aload_n rfl dX5_veil_18 ?_
      refine gf_X5_90 (by decide) rfl dX5_veil_19 ?_
      refine g_if_ne (tgt := 28) dX5_veil_22 (by decide) (fun c22 => ?_) (fun c22 => ?_)
      · rw [if_neg c22] at hQ
        obtain ⟨hm, e8, emg⟩ := hd c22
        have edg : zI (m * t) = zI (g : Nat) := by rw [emg]
        have hend : ∀ M2, VeiM M0 M2 s.toInt g → Q (some (.int (if M0 31 10 = 0 then zI 0 else zI 1))) M2 := fun M2 h2 => hQ _ _ ⟨rfl, fun q => absurd ⟨ck, c22⟩ q, fun _ => h2⟩
        generalize hwas : (if M0 31 10 = 0 then zI 0 else zI 1) = was at hend
        have tail : G yX5_veil.cls cX5_veil 6 (some .int) (gE 2 Q) 41 [(0, .ref 31), (1, .int s), (2, .int was)] [] M0 := by
          have ev1 : ∀ v, mset M0 31 10 v 31 1 = zI m := fun v => by rw [mset_ne _ _ (Or.inr (by decide)), hm]
          have ev8 : ∀ v, mset M0 31 10 v 31 8 = zI t := fun v => by rw [mset_ne _ _ (Or.inr (by decide)), e8]
          refine g_aload_n rfl dX5_veil_41 ?_
          refine g_iload_n rfl dX5_veil_42 ?_
          refine g_bipush (by decide) dX5_veil_43 ?_
          refine g_icmp_eq (tgt := 52) dX5_veil_45 (by decide) (fun c45 => ?_) (fun c45 => ?_)
          · refine g_iconst dX5_veil_52 ?_
            refine gp_X5_84 (by decide) rfl rfl rfl dX5_veil_53 ?_
            refine g_iload_n rfl dX5_veil_56 ?_
            refine g_i2l dX5_veil_57 ?_
            refine g_lstore_n (L2 := [(0, _), (1, _), (2, _), (3, _)]) (by decide) rfl dX5_veil_58 ?_
            refine g_iconst dX5_veil_59 ?_
            refine g_istore (L2 := [(0, _), (1, _), (2, _), (3, _), (5, _)]) (by decide) rfl dX5_veil_60 ?_
            refine g_iload rfl dX5_veil_62 ?_
            refine g_aload_n rfl dX5_veil_64 ?_
            refine gi_X5_81 (by decide) rfl (ev_X5_degree (ev1 (zI 0)) (ev8 (zI 0))) rfl rfl ⟨Nat.le_of_ble_eq_true rfl, Nat.le_of_ble_eq_true rfl, Nat.le_of_ble_eq_true rfl, Nat.le_of_ble_eq_true rfl⟩ (Nat.le_of_ble_eq_true rfl) dX5_veil_65 (fun r65 M65 hq65 => ?_)
            obtain ⟨rfl, rfl⟩ := hq65
            refine g_icmp_gt (tgt := 100) dX5_veil_68 (by decide) (fun c68 => ?_) (fun c68 => ?_)
            · refine g_iload_n rfl dX5_veil_100 ?_
              refine g_ireturn rfl dX5_veil_101 ?_
              refine hend _ ⟨fun a h1 h2 => mset_other _ _ _ h1, fun b hb => mset_ne _ _ (Or.inr hb), fun _ => mset_same _ _ _ _, fun q => absurd ?_ q⟩
              rw [c45]
              decide
            · refine g_aload_n rfl dX5_veil_71 ?_
              refine gf_X5_84 (by decide) rfl dX5_veil_72 ?_
              rw [mset_same]
              refine g_if_eq (tgt := 100) dX5_veil_75 (by decide) (fun c75 => ?_) (fun c75 => ?_)
              · refine g_iload_n rfl dX5_veil_100 ?_
                refine g_ireturn rfl dX5_veil_101 ?_
                refine hend _ ⟨fun a h1 h2 => mset_other _ _ _ h1, fun b hb => mset_ne _ _ (Or.inr hb), fun _ => mset_same _ _ _ _, fun q => absurd ?_ q⟩
                rw [c45]
                decide
              · exact absurd rfl c75
          · refine g_iconst dX5_veil_48 ?_
            refine g_goto (tgt := 53) dX5_veil_49 (by decide) ?_
            refine gp_X5_84 (by decide) rfl rfl rfl dX5_veil_53 ?_
            refine g_iload_n rfl dX5_veil_56 ?_
            refine g_i2l dX5_veil_57 ?_
            refine g_lstore_n (L2 := [(0, _), (1, _), (2, _), (3, _)]) (by decide) rfl dX5_veil_58 ?_
            refine g_iconst dX5_veil_59 ?_
            refine g_istore (L2 := [(0, _), (1, _), (2, _), (3, _), (5, _)]) (by decide) rfl dX5_veil_60 ?_
            have hs9 : ¬ s.toInt = -9 := fun q => c45 (by rw [← zI_of s, q])
            have hs0 : 0 ≤ s.toInt := by
              rcases ck with q | q
              · exact absurd q c45
              · exact q
            have loop : ∀ (d e : Nat) (M2 : Mem), d + e = g → (∀ a, a ≠ 37 → M2 a = mset M0 31 10 (zI 1) a) → (∀ q, q < e → M2 37 (q + 1) = zI (lotS s.toInt q)) → G yX5_veil.cls cX5_veil 6 (some .int) (gE 2 Q) 62 [(0, .ref 31), (1, .int s), (2, .int was), (3, .long (zL (lcgs s.toInt e))), (5, .int (zI ((e + 1 : Nat) : Int)))] [] M2 := by
              intro d
              induction d with
              | zero =>
                intro e M2 he hP hL
                obtain rfl : e = g := by omega
                have e1 : M2 31 1 = zI m := by rw [hP 31 (by decide), ev1]
                have e8 : M2 31 8 = zI t := by rw [hP 31 (by decide), ev8]
                have hb := hP 31 (by decide)
                refine g_iload rfl dX5_veil_62 ?_
                refine g_aload_n rfl dX5_veil_64 ?_
                refine gi_X5_81 (by decide) rfl (ev_X5_degree e1 e8) rfl rfl ⟨Nat.le_of_ble_eq_true rfl, Nat.le_of_ble_eq_true rfl, Nat.le_of_ble_eq_true rfl, Nat.le_of_ble_eq_true rfl⟩ (Nat.le_of_ble_eq_true rfl) dX5_veil_65 (fun r65 M65 hq65 => ?_)
                obtain ⟨rfl, rfl⟩ := hq65
                rw [edg]
                refine g_icmp_gt (tgt := 100) dX5_veil_68 (by decide) (fun c68 => ?_) (fun c68 => ?_)
                · refine g_iload_n rfl dX5_veil_100 ?_
                  refine g_ireturn rfl dX5_veil_101 ?_
                  exact hend _ ⟨fun a h1 h2 => by rw [hP a h2, mset_other _ _ _ h1], fun b hb2 => by rw [hb, mset_ne _ _ (Or.inr hb2)], fun q => absurd q hs9, fun _ => ⟨by rw [hb, mset_same], hL⟩⟩
                · simp (disch := omega) only [i_lt, i_le, zI_toInt] at c68
                  omega
              | succ d ih =>
                intro e M2 he hP hL
                have ih := fun M3 h1 h2 => ih (e + 1) M3 (by omega) h1 h2
                have e1 : M2 31 1 = zI m := by rw [hP 31 (by decide), ev1]
                have e8 : M2 31 8 = zI t := by rw [hP 31 (by decide), ev8]
                have hb1 := lcgs_bd (s := s.toInt) hs0 b2.2 e
                have hb2 := lcgs_bd (s := s.toInt) hs0 b2.2 (e + 1)
                refine g_iload rfl dX5_veil_62 ?_
                refine g_aload_n rfl dX5_veil_64 ?_
                refine gi_X5_81 (by decide) rfl (ev_X5_degree e1 e8) rfl rfl ⟨Nat.le_of_ble_eq_true rfl, Nat.le_of_ble_eq_true rfl, Nat.le_of_ble_eq_true rfl, Nat.le_of_ble_eq_true rfl⟩ (Nat.le_of_ble_eq_true rfl) dX5_veil_65 (fun r65 M65 hq65 => ?_)
                obtain ⟨rfl, rfl⟩ := hq65
                rw [edg]
                refine g_icmp_gt (tgt := 100) dX5_veil_68 (by decide) (fun c68 => ?_) (fun c68 => ?_)
                · simp (disch := omega) only [i_lt, i_le, zI_toInt] at c68
                  omega
                · refine g_aload_n rfl dX5_veil_71 ?_
                  refine gf_X5_84 (by decide) rfl dX5_veil_72 ?_
                  rw [hP 31 (by decide), mset_same]
                  refine g_if_eq (tgt := 100) dX5_veil_75 (by decide) (fun c75 => ?_) (fun c75 => ?_)
                  · exact absurd c75 (by decide)
                  · refine g_lload_n rfl dX5_veil_78 ?_
                    refine gi_X5_118 (ev_X5_next hb1.1 hb1.2 M2) rfl rfl ⟨Nat.le_of_ble_eq_true rfl, Nat.le_of_ble_eq_true rfl, Nat.le_of_ble_eq_true rfl, Nat.le_of_ble_eq_true rfl⟩ (Nat.le_of_ble_eq_true rfl) dX5_veil_79 (fun r79 M79 hq79 => ?_)
                    obtain ⟨rfl, rfl⟩ := hq79
                    refine g_lstore_n (L2 := [(0, _), (1, _), (2, _), (3, _), (5, _)]) (by decide) rfl dX5_veil_82 ?_
                    refine g_aload_n rfl dX5_veil_83 ?_
                    refine gf_X5_29 (by decide) rfl rfl dX5_veil_84 ?_
                    refine g_iload rfl dX5_veil_87 ?_
                    refine g_lload_n rfl dX5_veil_89 ?_
                    refine gi_X5_122 (ev_X5_lotOf (z := lcgs s.toInt (e + 1)) hb2.1 hb2.2 M2) rfl rfl ⟨Nat.le_of_ble_eq_true rfl, Nat.le_of_ble_eq_true rfl, Nat.le_of_ble_eq_true rfl, Nat.le_of_ble_eq_true rfl⟩ (Nat.le_of_ble_eq_true rfl) dX5_veil_90 (fun r90 M90 hq90 => ?_)
                    obtain ⟨rfl, rfl⟩ := hq90
                    refine g_iast (n := 7) (by decide) rfl rfl (zI_in (by omega) (by omega) (by decide)) dX5_veil_93 ?_
                    rw [zI_clamp (by omega) (by omega), show ((e + 1 : Nat) : Int).toNat = e + 1 from rfl]
                    refine g_iinc (L2 := [(0, _), (1, _), (2, _), (3, _), (5, _)]) rfl (by decide) rfl dX5_veil_94 ?_
                    refine g_goto (tgt := 62) dX5_veil_97 (by decide) ?_
                    rw [zI_add]
                    refine ih _ (fun a ha => by rw [mset_other _ _ _ ha, hP a ha]) (fun q hq => ?_)
                    by_cases hqe : q = e
                    · subst hqe
                      rw [mset_same]
                      rfl
                    · rw [mset_ne _ _ (Or.inr (by omega))]
                      exact hL q (by omega)
            have := loop g 0 (mset M0 31 10 (zI 1)) (by omega) (fun _ _ => rfl) (fun q hq => absurd hq (by omega))
            rw [i32l]
            exact this
        refine g_aload_n rfl dX5_veil_28 ?_
        refine gf_X5_84 (by decide) rfl dX5_veil_29 ?_
        refine g_if_eq (tgt := 39) dX5_veil_32 (by decide) (fun c32 => ?_) (fun c32 => ?_)
        · refine g_iconst dX5_veil_39 ?_
          refine g_istore_n (L2 := [(0, _), (1, _), (2, _)]) (by decide) rfl dX5_veil_40 ?_
          first
          | rw [if_pos c32] at hwas
          | rw [if_neg c32] at hwas
          subst hwas
          exact tail
        · refine g_iconst dX5_veil_35 ?_
          refine g_goto (tgt := 40) dX5_veil_36 (by decide) ?_
          refine g_istore_n (L2 := [(0, _), (1, _), (2, _)]) (by decide) rfl dX5_veil_40 ?_
          first
          | rw [if_pos c32] at hwas
          | rw [if_neg c32] at hwas
          subst hwas
          exact tail
      · rw [if_pos (c22)] at hQ
        refine g_bipush (by decide) dX5_veil_25 ?_
        refine g_ireturn rfl dX5_veil_27 ?_
        exact hQ _ _ ⟨rfl, fun _ => rfl, fun q => absurd (c22) q.2⟩
    · have ck : ¬ okV s := fun q => (hV.mp q) ⟨by rw [i_lt]; rw [i_le] at c6; omega, c12⟩
      rw [if_neg ck] at hQ
      refine g_bipush (by decide) dX5_veil_15 ?_
      refine g_ireturn rfl dX5_veil_17 ?_
      exact hQ _ _ ⟨rfl, fun _ => rfl, fun q => absurd q.1 ck⟩
