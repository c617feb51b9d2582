/-! class SilentAsking: on and off the curve, finding it -/
def onX (cl : List (Int × Int)) (e : Nat × Int) : Bool := decide (newt cl e.1 = e.2)
def cnOn (on : Nat × Int → Bool) (l : List (Nat × Int)) : Nat → Nat
  | 0 => 0
  | p + 1 => cnOn on l p + (if on (l.getD p (0, 0)) = true then 1 else 0)
theorem cnOn_le (on : Nat × Int → Bool) (l : List (Nat × Int)) : ∀ p, cnOn on l p ≤ p
  | 0 => Nat.le_refl _
  | p + 1 => by
    have := cnOn_le on l p
    unfold cnOn
    split <;> omega
def offS (on : Nat × Int → Bool) (l : List (Nat × Int)) : Nat → Nat
  | 0 => 0
  | p + 1 => if on (l.getD p (0, 0)) = true then offS on l p else offS on l p ||| 2 ^ (l.getD p (0, 0)).1
theorem offS_lt {on : Nat × Int → Bool} {l : List (Nat × Int)} (h : rowOk l) : ∀ p, p ≤ l.length → offS on l p < 1024
  | 0, _ => by show 0 < 1024; decide
  | p + 1, hp => by
    have h1 := offS_lt (on := on) h p (by omega)
    have hlt : p < l.length := by omega
    have hgd : l.getD p (0, 0) = l[p] := by rw [List.getD_eq_getElem?_getD, List.getElem?_eq_getElem hlt]; rfl
    obtain ⟨o1, o2, -, -⟩ := h l[p] (List.getElem_mem hlt)
    unfold offS
    split
    · exact h1
    · refine Nat.or_lt_two_pow (n := 10) h1 ?_
      rw [hgd]
      exact Nat.pow_lt_pow_right (by decide) (by omega)
theorem ev_X2_isOn {M : Mem} {l : List (Nat × Int)} {cl : List (Int × Int)} (hr : RowIs M l) (hl : l.length ≤ 9) (hok : rowOk l) (hc : CurIs M cl) (hco : curOk cl) (hcl : cl.length ≤ 7) {p : Nat} (hp : p < l.length) : EvF yX2_isOn cX2_isOn 3 (some .boolean) 1 [.ref 25, .ref 28, .int (zI p)] M (some (.int (bI (onX cl (l.getD p (0, 0)))))) M := by
  refine EvF.of (by decide +kernel) (Nat.le_of_ble_eq_true rfl) (fun Q hQ => ?_)
  have hg : l[p]? = some l[p] := List.getElem?_eq_getElem hp
  obtain ⟨e1, e2⟩ := hr.2 p _ hg
  obtain ⟨o1, o2, o3, o4⟩ := hok l[p] (List.getElem_mem hp)
  have hgd : l.getD p (0, 0) = l[p] := by rw [List.getD_eq_getElem?_getD, hg]; rfl
  have hn := newt_bd cl (l[p].1 : Nat)
  rw [hgd] at hQ
  refine g_aload_n rfl dX2_isOn_0 ?_
  refine g_aload_n rfl dX2_isOn_1 ?_
  refine gf_X2_9 (by decide) rfl rfl dX2_isOn_2 ?_
  refine g_iload_n rfl dX2_isOn_5 ?_
  refine g_iald (n := 9) (by decide) rfl rfl (zI_in (by omega) (by omega) (by decide)) dX2_isOn_6 ?_
  rw [zI_clamp (by omega) (by omega), show ((p : Nat) : Int).toNat = p from rfl, e1]
  refine gi_X2_22 (by decide) rfl (ev_X0_at (x := (l[p].1 : Nat)) hc hco hcl (by omega) (by omega)) rfl rfl ⟨Nat.le_of_ble_eq_true rfl, Nat.le_of_ble_eq_true rfl, Nat.le_of_ble_eq_true rfl, Nat.le_of_ble_eq_true rfl⟩ (Nat.le_of_ble_eq_true rfl) dX2_isOn_7 (fun r7 M7 hq7 => ?_)
  obtain ⟨rfl, rfl⟩ := hq7
  refine g_aload_n rfl dX2_isOn_10 ?_
  refine gf_X2_15 (by decide) rfl rfl dX2_isOn_11 ?_
  refine g_iload_n rfl dX2_isOn_14 ?_
  refine g_iald (n := 9) (by decide) rfl rfl (zI_in (by omega) (by omega) (by decide)) dX2_isOn_15 ?_
  rw [zI_clamp (by omega) (by omega), show ((p : Nat) : Int).toNat = p from rfl, e2]
  refine g_icmp_ne (tgt := 23) dX2_isOn_16 (by decide) (fun c16 => ?_) (fun c16 => ?_)
  · refine g_iconst dX2_isOn_23 ?_
    refine g_zreturn rfl rfl dX2_isOn_24 ?_
    rw [zI_eqz (by omega) (by omega) (by omega) (by omega)] at c16
    rw [onX, bI_f (decide_eq_false c16)] at hQ
    exact hQ
  · refine g_iconst dX2_isOn_19 ?_
    refine g_goto (tgt := 24) dX2_isOn_20 (by decide) ?_
    refine g_zreturn rfl rfl dX2_isOn_24 ?_
    rw [zI_eqz (by omega) (by omega) (by omega) (by omega)] at c16
    rw [onX, bI_t (decide_eq_true c16)] at hQ
    exact hQ
theorem ev_X2_countOn {M : Mem} {l : List (Nat × Int)} {cl : List (Int × Int)} (hr : RowIs M l) (hl : l.length ≤ 9) (hok : rowOk l) (hc : CurIs M cl) (hco : curOk cl) (hcl : cl.length ≤ 7) : EvF yX2_countOn cX2_countOn 4 (some .int) 2 [.ref 25, .ref 28] M (some (.int (zI (cnOn (onX cl) l l.length : Nat)))) M := by
  refine EvF.of (by decide +kernel) (Nat.le_of_ble_eq_true rfl) (fun Q hQ => ?_)
  have h0 := hr.1
  have loop : ∀ (d q : Nat), d + q = l.length → G yX2_countOn.cls cX2_countOn 4 (some .int) (gE 2 Q) 4 [(0, .ref 25), (1, .ref 28), (2, .int (zI (cnOn (onX cl) l q : Nat))), (3, .int (zI q))] [] M := by
    intro d
    induction d with
    | zero =>
      intro q hq
      refine g_iload_n rfl dX2_countOn_4 ?_
      refine g_aload_n rfl dX2_countOn_5 ?_
      refine gf_X2_18 (by decide) rfl dX2_countOn_6 ?_
      rw [h0]
      refine g_icmp_ge (tgt := 30) dX2_countOn_9 (by decide) (fun c9 => ?_) (fun c9 => ?_)
      · refine g_iload_n rfl dX2_countOn_30 ?_
        refine g_ireturn rfl dX2_countOn_31 ?_
        obtain rfl : q = l.length := by omega
        exact hQ
      · simp (disch := omega) only [i_le, zI_toInt] at c9
        omega
    | succ d ih =>
      intro q hq
      have ih := ih (q + 1) (by omega)
      refine g_iload_n rfl dX2_countOn_4 ?_
      refine g_aload_n rfl dX2_countOn_5 ?_
      refine gf_X2_18 (by decide) rfl dX2_countOn_6 ?_
      rw [h0]
      refine g_icmp_ge (tgt := 30) dX2_countOn_9 (by decide) (fun c9 => ?_) (fun c9 => ?_)
      · simp (disch := omega) only [i_le, zI_toInt] at c9
        omega
      · refine g_aload_n rfl dX2_countOn_12 ?_
        refine g_aload_n rfl dX2_countOn_13 ?_
        refine g_iload_n rfl dX2_countOn_14 ?_
        refine gi_X2_28 (by decide) rfl (ev_X2_isOn hr hl hok hc hco hcl (p := q) (by omega)) rfl rfl ⟨Nat.le_of_ble_eq_true rfl, Nat.le_of_ble_eq_true rfl, Nat.le_of_ble_eq_true rfl, Nat.le_of_ble_eq_true rfl⟩ (Nat.le_of_ble_eq_true rfl) dX2_countOn_15 (fun r15 M15 hq15 => ?_)
        obtain ⟨rfl, rfl⟩ := hq15
        refine g_if_eq (tgt := 24) dX2_countOn_18 (by decide) (fun c18 => ?_) (fun c18 => ?_)
        · refine g_iinc (L2 := [(0, _), (1, _), (2, _), (3, _)]) rfl (by decide) rfl dX2_countOn_24 ?_
          refine g_goto (tgt := 4) dX2_countOn_27 (by decide) ?_
          rw [bI_0] at c18
          rw [cnOn, if_neg (by rw [c18]; decide)] at ih
          rw [zI_add]
          exact ih
        · refine g_iinc (L2 := [(0, _), (1, _), (2, _), (3, _)]) rfl (by decide) rfl dX2_countOn_21 ?_
          refine g_iinc (L2 := [(0, _), (1, _), (2, _), (3, _)]) rfl (by decide) rfl dX2_countOn_24 ?_
          refine g_goto (tgt := 4) dX2_countOn_27 (by decide) ?_
          rw [bI_n0] at c18
          rw [cnOn, if_pos c18] at ih
          rw [zI_add, zI_add]
          exact ih
  refine g_iconst dX2_countOn_0 ?_
  refine g_istore_n (L2 := [(0, _), (1, _), (2, _)]) (by decide) rfl dX2_countOn_1 ?_
  refine g_iconst dX2_countOn_2 ?_
  refine g_istore_n (L2 := [(0, _), (1, _), (2, _), (3, _)]) (by decide) rfl dX2_countOn_3 ?_
  exact loop l.length 0 (by omega)
theorem zI_or {a b : Nat} (h : a < 2147483648) (h2 : b < 2147483648) : zI (a : Int) ||| zI (b : Int) = zI ((a ||| b : Nat) : Int) := by
  rw [zI_nI, zI_nI, zI_nI]
  apply Int32.toBitVec_inj.mp
  apply BitVec.eq_of_toNat_eq
  have hx : a ||| b < 2 ^ 31 := Nat.or_lt_two_pow (by omega) (by omega)
  show ((nI a).toBitVec ||| (nI b).toBitVec).toNat = _
  rw [BitVec.toNat_or, pk_tn (by omega), pk_tn (by omega), pk_tn (by omega)]
theorem ev_X2_storesOff {M : Mem} {l : List (Nat × Int)} {cl : List (Int × Int)} (hr : RowIs M l) (hl : l.length ≤ 9) (hok : rowOk l) (hc : CurIs M cl) (hco : curOk cl) (hcl : cl.length ≤ 7) : EvF yX2_storesOff cX2_storesOff 4 (some .int) 2 [.ref 25, .ref 28] M (some (.int (zI (offS (onX cl) l l.length : Nat)))) M := by
  refine EvF.of (by decide +kernel) (Nat.le_of_ble_eq_true rfl) (fun Q hQ => ?_)
  have h0 := hr.1
  have loop : ∀ (d q : Nat), d + q = l.length → G yX2_storesOff.cls cX2_storesOff 4 (some .int) (gE 2 Q) 4 [(0, .ref 25), (1, .ref 28), (2, .int (zI (offS (onX cl) l q : Nat))), (3, .int (zI q))] [] M := by
    intro d
    induction d with
    | zero =>
      intro q hq
      refine g_iload_n rfl dX2_storesOff_4 ?_
      refine g_aload_n rfl dX2_storesOff_5 ?_
      refine gf_X2_18 (by decide) rfl dX2_storesOff_6 ?_
      rw [h0]
      refine g_icmp_ge (tgt := 38) dX2_storesOff_9 (by decide) (fun c9 => ?_) (fun c9 => ?_)
      · refine g_iload_n rfl dX2_storesOff_38 ?_
        refine g_ireturn rfl dX2_storesOff_39 ?_
        obtain rfl : q = l.length := by omega
        exact hQ
      · simp (disch := omega) only [i_le, zI_toInt] at c9
        omega
    | succ d ih =>
      intro q hq
      have ih := ih (q + 1) (by omega)
      have hlt : q < l.length := by omega
      have hg : l[q]? = some l[q] := List.getElem?_eq_getElem hlt
      obtain ⟨e1, e2⟩ := hr.2 q _ hg
      obtain ⟨o1, o2, -, -⟩ := hok l[q] (List.getElem_mem hlt)
      have hgd : l.getD q (0, 0) = l[q] := by rw [List.getD_eq_getElem?_getD, hg]; rfl
      have hof := offS_lt (on := onX cl) hok q (by omega)
      have hpw : 2 ^ l[q].1 < 2 ^ 10 := Nat.pow_lt_pow_right (by decide) (by omega)
      have hpz := p2_z l[q].1
      refine g_iload_n rfl dX2_storesOff_4 ?_
      refine g_aload_n rfl dX2_storesOff_5 ?_
      refine gf_X2_18 (by decide) rfl dX2_storesOff_6 ?_
      rw [h0]
      refine g_icmp_ge (tgt := 38) dX2_storesOff_9 (by decide) (fun c9 => ?_) (fun c9 => ?_)
      · simp (disch := omega) only [i_le, zI_toInt] at c9
        omega
      · refine g_aload_n rfl dX2_storesOff_12 ?_
        refine g_aload_n rfl dX2_storesOff_13 ?_
        refine g_iload_n rfl dX2_storesOff_14 ?_
        refine gi_X2_28 (by decide) rfl (ev_X2_isOn hr hl hok hc hco hcl (p := q) hlt) rfl rfl ⟨Nat.le_of_ble_eq_true rfl, Nat.le_of_ble_eq_true rfl, Nat.le_of_ble_eq_true rfl, Nat.le_of_ble_eq_true rfl⟩ (Nat.le_of_ble_eq_true rfl) dX2_storesOff_15 (fun r15 M15 hq15 => ?_)
        obtain ⟨rfl, rfl⟩ := hq15
        refine g_if_ne (tgt := 32) dX2_storesOff_18 (by decide) (fun c18 => ?_) (fun c18 => ?_)
        · refine g_iinc (L2 := [(0, _), (1, _), (2, _), (3, _)]) rfl (by decide) rfl dX2_storesOff_32 ?_
          refine g_goto (tgt := 4) dX2_storesOff_35 (by decide) ?_
          rw [bI_n0] at c18
          rw [offS, if_pos c18] at ih
          rw [zI_add]
          exact ih
        · refine g_iload_n rfl dX2_storesOff_21 ?_
          refine g_iconst dX2_storesOff_22 ?_
          refine g_aload_n rfl dX2_storesOff_23 ?_
          refine gf_X2_9 (by decide) rfl rfl dX2_storesOff_24 ?_
          refine g_iload_n rfl dX2_storesOff_27 ?_
          refine g_iald (n := 9) (by decide) rfl rfl (zI_in (by omega) (by omega) (by decide)) dX2_storesOff_28 ?_
          rw [zI_clamp (by omega) (by omega), show ((q : Nat) : Int).toNat = q from rfl, e1]
          refine g_ishl dX2_storesOff_29 ?_
          refine g_ior dX2_storesOff_30 ?_
          refine g_istore_n (L2 := [(0, _), (1, _), (2, _), (3, _)]) (by decide) rfl dX2_storesOff_31 ?_
          refine g_iinc (L2 := [(0, _), (1, _), (2, _), (3, _)]) rfl (by decide) rfl dX2_storesOff_32 ?_
          refine g_goto (tgt := 4) dX2_storesOff_35 (by decide) ?_
          rw [bI_0] at c18
          rw [offS, if_neg (by rw [c18]; decide), hgd] at ih
          rw [zI_shl (by decide) (by omega) (by omega), Int.one_mul, hpz, zI_or (by omega) (by omega), zI_add]
          exact ih
  refine g_iconst dX2_storesOff_0 ?_
  refine g_istore_n (L2 := [(0, _), (1, _), (2, _)]) (by decide) rfl dX2_storesOff_1 ?_
  refine g_iconst dX2_storesOff_2 ?_
  refine g_istore_n (L2 := [(0, _), (1, _), (2, _), (3, _)]) (by decide) rfl dX2_storesOff_3 ?_
  exact loop l.length 0 (by omega)
theorem ev_X4_firstPicks {M : Mem} {n g : Nat} (hn : M 25 2 = zI n) (hg : M 22 7 = zI g) (hg6 : g ≤ 6) (hgn : g + 1 ≤ n) (hn9 : n ≤ 9) : EvF yX4_firstPicks cX4_firstPicks 2 (some .int) 0 [.ref 0] M (some (.int (zI (((2 ^ (g + 1) - 1) * 2 ^ (n - (g + 1)) : Nat))))) M := by
  refine EvF.of (by decide +kernel) (Nat.le_of_ble_eq_true rfl) (fun Q hQ => ?_)
  have hb1 : 2 ^ (g + 1) ≤ 2 ^ 7 := Nat.pow_le_pow_right (by decide) (by omega)
  have hb2 : 2 ^ (n - (g + 1)) ≤ 2 ^ 8 := Nat.pow_le_pow_right (by decide) (by omega)
  have hb3 : (2 ^ (g + 1) - 1) * 2 ^ (n - (g + 1)) ≤ 2 ^ 7 * 2 ^ 8 := Nat.mul_le_mul (by omega) hb2
  have hz1 := p2_z (g + 1)
  have hz2 := p2_z (n - (g + 1))
  have hp : 1 ≤ 2 ^ (g + 1) := Nat.one_le_two_pow
  refine g_aload_n rfl dX4_firstPicks_0 ?_
  refine gf_X4_25 (by decide) rfl rfl dX4_firstPicks_1 ?_
  refine gf_X4_116 (by decide) rfl dX4_firstPicks_4 ?_
  rw [hg]
  refine g_iconst dX4_firstPicks_7 ?_
  refine g_iadd dX4_firstPicks_8 ?_
  rw [zI_add, show (g : Int) + 1 = ((g + 1 : Nat) : Int) from rfl]
  refine g_istore_n (L2 := [(0, _), (1, _)]) (by decide) rfl dX4_firstPicks_9 ?_
  refine g_iconst dX4_firstPicks_10 ?_
  refine g_iload_n rfl dX4_firstPicks_11 ?_
  refine g_ishl dX4_firstPicks_12 ?_
  rw [zI_shl (by decide) (by omega) (by omega), Int.one_mul, hz1]
  refine g_iconst dX4_firstPicks_13 ?_
  refine g_isub dX4_firstPicks_14 ?_
  rw [zI_sub, show ((2 ^ (g + 1) : Nat) : Int) - 1 = ((2 ^ (g + 1) - 1 : Nat) : Int) by omega]
  refine g_aload_n rfl dX4_firstPicks_15 ?_
  refine gf_X4_32 (by decide) rfl rfl dX4_firstPicks_16 ?_
  refine gf_X4_140 (by decide) rfl dX4_firstPicks_19 ?_
  rw [hn]
  refine g_iload_n rfl dX4_firstPicks_22 ?_
  refine g_isub dX4_firstPicks_23 ?_
  rw [zI_sub, show (n : Int) - ((g + 1 : Nat) : Int) = ((n - (g + 1) : Nat) : Int) by omega]
  refine g_ishl dX4_firstPicks_24 ?_
  rw [zI_shl (by omega) (by omega) (by rw [hz2, ← Int.natCast_mul]; omega), hz2, ← Int.natCast_mul]
  refine g_ireturn rfl dX4_firstPicks_25 ?_
  exact hQ
/-- the first of the falling picks whose curve enough are on -/
def findS (l : List (Nat × Int)) (g : Nat) (enough : Int) : Nat → Option Nat
  | 0 => none
  | p + 1 => if popN (p + 1) = g + 1 ∧ enough ≤ (cnOn (onX (layP (pkS l l.length (p + 1) l.length))) l l.length : Nat) then some (p + 1) else findS l g enough p
theorem ev_X4_findCurve {M : Mem} {l : List (Nat × Int)} {g : Nat} {enough : Int} (hr : RowIs M l) (hl : l.length ≤ 9) (hok : rowOk l) (hg : M 22 7 = zI g) (hg6 : g ≤ 6) (he : -100 < enough ∧ enough < 100) :
    Ev yX4_findCurve cX4_findCurve 3 (some .boolean) 3 [.ref 0, .int (zI enough)] M (fun r M1 => some (.int (bI (findS l g enough (2 ^ l.length - 1)).isSome)) = r ∧ Sac M M1 ∧ ∀ p, findS l g enough (2 ^ l.length - 1) = some p → CurIs M1 (layP (pkS l l.length p l.length))) := by
  refine Ev.of (by decide +kernel) (Nat.le_of_ble_eq_true rfl) (fun Q hQ => ?_)
  have h0 := hr.1
  have hb : 2 ^ l.length ≤ 2 ^ 9 := Nat.pow_le_pow_right (by decide) hl
  have hp1 : 1 ≤ 2 ^ l.length := Nat.one_le_two_pow
  have hz := p2_z l.length
  have loop : ∀ (q : Nat), q < 2 ^ l.length → ∀ M1 : Mem, Sac M M1 → (∀ M2, Sac M M2 → (∀ p, findS l g enough q = some p → CurIs M2 (layP (pkS l l.length p l.length))) → Q (some (.int (bI (findS l g enough q).isSome))) M2) → G yX4_findCurve.cls cX4_findCurve 3 (some .boolean) (gE 3 Q) 12 [(0, .ref 0), (1, .int (zI enough)), (2, .int (zI q))] [] M1 := by
    intro q
    induction q with
    | zero =>
      intro hq M1 hs hQ1
      refine g_iload_n rfl dX4_findCurve_12 ?_
      refine g_if_le (tgt := 67) dX4_findCurve_13 (by decide) (fun c13 => ?_) (fun c13 => ?_)
      · refine g_iconst dX4_findCurve_67 ?_
        refine g_zreturn rfl rfl dX4_findCurve_68 ?_
        exact hQ1 M1 hs (fun p hp => by cases hp)
      · simp (disch := omega) only [i_le, zI_toInt, i_0] at c13
        omega
    | succ q ih =>
      intro hq M1 hs hQ1
      have hr1 := hs.row hr
      have hpop := lenF_pop l.length (by omega) (q + 1) (by omega) hq
      have hpb : popN (q + 1) ≤ 10 := cnt_le _ _
      have eg : M1 22 7 = zI g := by rw [hs 22 (by decide)]; exact hg
      refine g_iload_n rfl dX4_findCurve_12 ?_
      refine g_if_le (tgt := 67) dX4_findCurve_13 (by decide) (fun c13 => ?_) (fun c13 => ?_)
      · simp (disch := omega) only [i_le, zI_toInt, i_0] at c13
        omega
      · refine g_iload_n rfl dX4_findCurve_16 ?_
        refine gi_X4_207 (ev_J6_bitCount (n := q + 1) (by omega) M1) rfl rfl ⟨Nat.le_of_ble_eq_true rfl, Nat.le_of_ble_eq_true rfl, Nat.le_of_ble_eq_true rfl, Nat.le_of_ble_eq_true rfl⟩ (Nat.le_of_ble_eq_true rfl) dX4_findCurve_17 (fun r17 M17 hq17 => ?_)
        obtain ⟨rfl, rfl⟩ := hq17
        refine g_aload_n rfl dX4_findCurve_20 ?_
        refine gf_X4_25 (by decide) rfl rfl dX4_findCurve_21 ?_
        refine gf_X4_116 (by decide) rfl dX4_findCurve_24 ?_
        rw [eg]
        refine g_iconst dX4_findCurve_27 ?_
        refine g_iadd dX4_findCurve_28 ?_
        rw [zI_add]
        refine g_icmp_ne (tgt := 61) dX4_findCurve_29 (by decide) (fun c29 => ?_) (fun c29 => ?_)
        · refine g_iinc (L2 := [(0, _), (1, _), (2, _)]) rfl (by decide) rfl dX4_findCurve_61 ?_
          refine g_goto (tgt := 12) dX4_findCurve_64 (by decide) ?_
          rw [zI_eqz (by omega) (by omega) (by omega) (by omega)] at c29
          rw [zI_add, show ((q + 1 : Nat) : Int) + -1 = (q : Nat) by omega]
          refine ih (by omega) M1 hs (fun M2 hs2 hc2 => ?_)
          have e : findS l g enough (q + 1) = findS l g enough q := by
            rw [findS, if_neg (fun z => c29 (by omega))]
          have := hQ1 M2 hs2
          rw [e] at this
          exact this hc2
        · rw [zI_eqz (by omega) (by omega) (by omega) (by omega)] at c29
          have hpk := pkS_ok hok l.length (q + 1) l.length (Nat.le_refl _)
          have hlen7 : (layP (pkS l l.length (q + 1) l.length)).length ≤ 7 := by
            rw [layP_len hpk, pkS_len, hpop]
            omega
          have hle := cnOn_le (onX (layP (pkS l l.length (q + 1) l.length))) l l.length
          refine g_aload_n rfl dX4_findCurve_32 ?_
          refine gf_X4_39 (by decide) rfl rfl dX4_findCurve_33 ?_
          refine g_aload_n rfl dX4_findCurve_36 ?_
          refine gf_X4_32 (by decide) rfl rfl dX4_findCurve_37 ?_
          refine g_iload_n rfl dX4_findCurve_40 ?_
          refine gi_X4_177 (by decide) rfl (ev_X0_layThrough hr1 hl hok (picks := q + 1) (by omega) (by omega)) rfl rfl ⟨Nat.le_of_ble_eq_true rfl, Nat.le_of_ble_eq_true rfl, Nat.le_of_ble_eq_true rfl, Nat.le_of_ble_eq_true rfl⟩ (Nat.le_of_ble_eq_true rfl) dX4_findCurve_41 (fun r41 M41 hq41 => ?_)
          obtain ⟨rfl, hs2, hc2⟩ := hq41
          have hr2 := (hs.t hs2).row hr
          refine g_aload_n rfl dX4_findCurve_44 ?_
          refine gf_X4_32 (by decide) rfl rfl dX4_findCurve_45 ?_
          refine g_aload_n rfl dX4_findCurve_48 ?_
          refine gf_X4_39 (by decide) rfl rfl dX4_findCurve_49 ?_
          refine gi_X4_181 (by decide) rfl (ev_X2_countOn hr2 hl hok hc2 (layP_ok hpk) hlen7) rfl rfl ⟨Nat.le_of_ble_eq_true rfl, Nat.le_of_ble_eq_true rfl, Nat.le_of_ble_eq_true rfl, Nat.le_of_ble_eq_true rfl⟩ (Nat.le_of_ble_eq_true rfl) dX4_findCurve_52 (fun r52 M52 hq52 => ?_)
          obtain ⟨rfl, rfl⟩ := hq52
          refine g_iload_n rfl dX4_findCurve_55 ?_
          refine g_icmp_lt (tgt := 61) dX4_findCurve_56 (by decide) (fun c56 => ?_) (fun c56 => ?_)
          · refine g_iinc (L2 := [(0, _), (1, _), (2, _)]) rfl (by decide) rfl dX4_findCurve_61 ?_
            refine g_goto (tgt := 12) dX4_findCurve_64 (by decide) ?_
            simp (disch := omega) only [i_lt, zI_toInt] at c56
            rw [zI_add, show ((q + 1 : Nat) : Int) + -1 = (q : Nat) by omega]
            refine ih (by omega) M41 (hs.t hs2) (fun M2 hs2 hc2 => ?_)
            have e : findS l g enough (q + 1) = findS l g enough q := by
              rw [findS, if_neg (fun z => absurd z.2 (by omega))]
            have := hQ1 M2 hs2
            rw [e] at this
            exact this hc2
          · refine g_iconst dX4_findCurve_59 ?_
            refine g_zreturn rfl rfl dX4_findCurve_60 ?_
            simp (disch := omega) only [i_lt, zI_toInt] at c56
            have e : findS l g enough (q + 1) = some (q + 1) := by
              rw [findS, if_pos ⟨by omega, by omega⟩]
            rw [e] at hQ1
            refine hQ1 M41 (hs.t hs2) (fun p hp => ?_)
            cases hp
            exact hc2
  refine g_iconst dX4_findCurve_0 ?_
  refine g_aload_n rfl dX4_findCurve_1 ?_
  refine gf_X4_32 (by decide) rfl rfl dX4_findCurve_2 ?_
  refine gf_X4_140 (by decide) rfl dX4_findCurve_5 ?_
  rw [h0]
  refine g_ishl dX4_findCurve_8 ?_
  rw [zI_shl (by decide) (by omega) (by omega), Int.one_mul, hz]
  refine g_iconst dX4_findCurve_9 ?_
  refine g_isub dX4_findCurve_10 ?_
  rw [zI_sub, show ((2 ^ l.length : Nat) : Int) - 1 = ((2 ^ l.length - 1 : Nat) : Int) by omega]
  refine g_istore_n (L2 := [(0, _), (1, _), (2, _)]) (by decide) rfl dX4_findCurve_11 ?_
  exact loop (2 ^ l.length - 1) (by omega) M (Sac.r M) (fun M2 hs2 hc2 => hQ _ _ ⟨rfl, hs2, hc2⟩)
