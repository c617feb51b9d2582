/-! the reference: the curve through the chosen, choosing -/
def prodD (X : Nat → Int) (a : Nat) (z : Int) : Nat → Int
  | 0 => 1
  | b + 1 => if b = a then prodD X a z b else prodD X a z b * (z - X b)
def ivD (X : Nat → Int) (a n : Nat) : Int := (ivS (prodD X a (X a) n % 97).toNat : Nat)
def lagS (X Y : Nat → Int) (z : Int) (n : Nat) : Nat → Int
  | 0 => 0
  | a + 1 => lagS X Y z n a + Y a * prodD X a z n * ivD X a n
def lagV (X Y : Nat → Int) (n : Nat) (z : Int) : Int := lagS X Y z n n % 97
def ChoM (M : Mem) (g : Nat) (c : Nat → Nat) : Prop := ∀ a, a ≤ g → M 41 a = zI (c a : Nat)
def cX (l : List (Nat × Int)) (c : Nat → Nat) (a : Nat) : Int := ((l.getD (c a) (0, 0)).1 : Nat)
def cY (l : List (Nat × Int)) (c : Nat → Nat) (a : Nat) : Int := (l.getD (c a) (0, 0)).2
/-- what the reference's curve stands on -/
def CurM (M : Mem) (l : List (Nat × Int)) (m t : Int) (g : Nat) (c : Nat → Nat) : Prop :=
  RowM M l ∧ l.length ≤ 9 ∧ rowOk l ∧ ChoM M g c ∧ (∀ a, a ≤ g → c a < l.length) ∧ M 31 1 = zI m ∧ M 31 8 = zI t ∧ m * t = g ∧ 1 ≤ g ∧ g ≤ 6
theorem CurM.en {M : Mem} {l : List (Nat × Int)} {m t : Int} {g : Nat} {c : Nat → Nat} (h : CurM M l m t g c) {a : Nat} (ha : a ≤ g) : c a < 9 ∧ M 41 a = zI (c a : Nat) ∧ M 39 (c a) = zI (cX l c a) ∧ M 40 (c a) = zI (cY l c a) ∧ 1 ≤ cX l c a ∧ cX l c a ≤ 9 ∧ 0 ≤ cY l c a ∧ cY l c a < 97 := by
  obtain ⟨hr, hl, hok, hc, hlt, -⟩ := h
  have h1 := hlt a ha
  have hg : l[c a]? = some l[c a] := List.getElem?_eq_getElem h1
  have hgd : l.getD (c a) (0, 0) = l[c a] := by rw [List.getD_eq_getElem?_getD, hg]; rfl
  obtain ⟨e1, e2⟩ := hr.2 _ _ hg
  obtain ⟨o1, o2, o3, o4⟩ := hok l[c a] (List.getElem_mem h1)
  unfold cX cY
  rw [hgd]
  exact ⟨by omega, hc a ha, e1, e2, by omega, by omega, o3, o4⟩
theorem ev_X5_curveAt {M : Mem} {l : List (Nat × Int)} {m t : Int} {g : Nat} {c : Nat → Nat} (h : CurM M l m t g c) (hD : ∀ a, a ≤ g → ¬ prodD (cX l c) a (cX l c a) (g + 1) % 97 = 0) {z : Int} (hz1 : 0 ≤ z) (hz2 : z ≤ 9) : EvF yX5_curveAt cX5_curveAt 7 (some .int) 1 [.ref 31, .int (zI z)] M (some (.int (zI (lagV (cX l c) (cY l c) (g + 1) z)))) M := by
  refine EvF.of (by decide +kernel) (Nat.le_of_ble_eq_true rfl) (fun Q hQ => ?_)
  obtain ⟨-, -, -, -, -, e1, e8, hmt, hg1, hg6⟩ := id h
  have inner : ∀ (d b : Nat), d + b = g + 1 → ∀ (a : Nat) (w v u : Int), a ≤ g → 0 ≤ v → v < 97 → 0 ≤ u → u < 97 → cgr v (cY l c a * prodD (cX l c) a z b) → cgr u (prodD (cX l c) a (cX l c a) b) →
      (∀ v' u' : Int, 0 ≤ v' → v' < 97 → 0 ≤ u' → u' < 97 → cgr v' (cY l c a * prodD (cX l c) a z (g + 1)) → cgr u' (prodD (cX l c) a (cX l c a) (g + 1)) → G yX5_curveAt.cls cX5_curveAt 7 (some .int) (gE 1 Q) 112 [(0, .ref 31), (1, .int (zI z)), (2, .int (zI w)), (3, .int (zI a)), (4, .int (zI v')), (5, .int (zI u'))] [] M) →
      G yX5_curveAt.cls cX5_curveAt 7 (some .int) (gE 1 Q) 31 [(0, .ref 31), (1, .int (zI z)), (2, .int (zI w)), (3, .int (zI a)), (4, .int (zI v)), (5, .int (zI u)), (6, .int (zI b))] [] M := by
    intro d
    induction d with
    | zero =>
      intro b hb a w v u ha hv1 hv2 hu1 hu2 hv hu K
      refine g_iload rfl dX5_curveAt_31 ?_
      refine g_aload_n rfl dX5_curveAt_33 ?_
      refine gi_X5_81 (by decide) rfl (ev_X5_degree e1 e8) rfl rfl ⟨Nat.le_of_ble_eq_true rfl, Nat.le_of_ble_eq_true rfl, Nat.le_of_ble_eq_true rfl, Nat.le_of_ble_eq_true rfl⟩ (Nat.le_of_ble_eq_true rfl) dX5_curveAt_34 (fun r34 M34 hq34 => ?_)
      obtain ⟨rfl, rfl⟩ := hq34
      rw [hmt]
      refine g_icmp_gt (tgt := 112) dX5_curveAt_37 (by decide) (fun c37 => ?_) (fun c37 => ?_)
      · refine g_locp [0, 1, 2, 3, 4, 5] rfl ?_
        obtain rfl : b = g + 1 := by omega
        exact K v u hv1 hv2 hu1 hu2 hv hu
      · simp (disch := omega) only [i_lt, zI_toInt] at c37
        omega
    | succ d ih =>
      intro b hb a w v u ha hv1 hv2 hu1 hu2 hv hu K
      obtain ⟨ca1, ca2, ca3, ca4, ca5, ca6, ca7, ca8⟩ := h.en ha
      obtain ⟨cb1, cb2, cb3, cb4, cb5, cb6, cb7, cb8⟩ := h.en (a := b) (by omega)
      have m1 := md_bd (z - cX l c b)
      have m2 := md_bd (cX l c a - cX l c b)
      have b1 := mul_bd hv1 hv2 m1.1 (Int.lt_trans m1.2 (by decide))
      have b2 := mul_bd hu1 hu2 m2.1 (Int.lt_trans m2.2 (by decide))
      refine g_iload rfl dX5_curveAt_31 ?_
      refine g_aload_n rfl dX5_curveAt_33 ?_
      refine gi_X5_81 (by decide) rfl (ev_X5_degree e1 e8) rfl rfl ⟨Nat.le_of_ble_eq_true rfl, Nat.le_of_ble_eq_true rfl, Nat.le_of_ble_eq_true rfl, Nat.le_of_ble_eq_true rfl⟩ (Nat.le_of_ble_eq_true rfl) dX5_curveAt_34 (fun r34 M34 hq34 => ?_)
      obtain ⟨rfl, rfl⟩ := hq34
      rw [hmt]
      refine g_icmp_gt (tgt := 112) dX5_curveAt_37 (by decide) (fun c37 => ?_) (fun c37 => ?_)
      · simp (disch := omega) only [i_lt, zI_toInt] at c37
        omega
      · refine g_iload rfl dX5_curveAt_40 ?_
        refine g_iload_n rfl dX5_curveAt_42 ?_
        refine g_icmp_eq (tgt := 106) dX5_curveAt_43 (by decide) (fun c43 => ?_) (fun c43 => ?_)
        · refine g_iinc (L2 := [(0, _), (1, _), (2, _), (3, _), (4, _), (5, _), (6, _)]) rfl (by decide) rfl dX5_curveAt_106 ?_
          refine g_goto (tgt := 31) dX5_curveAt_109 (by decide) ?_
          rw [zI_eqz (by omega) (by omega) (by omega) (by omega)] at c43
          rw [zI_add]
          refine ih (b + 1) (by omega) a w v u ha hv1 hv2 hu1 hu2 ?_ ?_ K
          · rw [prodD, if_pos (by omega)]
            exact hv
          · rw [prodD, if_pos (by omega)]
            exact hu
        · refine g_iload rfl dX5_curveAt_46 ?_
          refine g_iload_n rfl dX5_curveAt_48 ?_
          refine g_aload_n rfl dX5_curveAt_49 ?_
          refine gf_X5_36 (by decide) rfl rfl dX5_curveAt_50 ?_
          refine g_aload_n rfl dX5_curveAt_53 ?_
          refine gf_X5_42 (by decide) rfl rfl dX5_curveAt_54 ?_
          refine g_iload rfl dX5_curveAt_57 ?_
          refine g_iald (n := 7) (by decide) rfl rfl (zI_in (by omega) (by omega) (by decide)) dX5_curveAt_59 ?_
          rw [zI_clamp (by omega) (by omega), show ((b : Nat) : Int).toNat = b from rfl, cb2]
          refine g_iald (n := 9) (by decide) rfl rfl (zI_in (by omega) (by omega) (by decide)) dX5_curveAt_60 ?_
          rw [zI_clamp (by omega) (by omega), show ((c b : Nat) : Int).toNat = c b from rfl, cb3]
          refine g_isub dX5_curveAt_61 ?_
          rw [zI_sub]
          refine gi_X5_67 (ev_X5_mod (z := z - cX l c b) (by omega) (by omega) M) rfl rfl ⟨Nat.le_of_ble_eq_true rfl, Nat.le_of_ble_eq_true rfl, Nat.le_of_ble_eq_true rfl, Nat.le_of_ble_eq_true rfl⟩ (Nat.le_of_ble_eq_true rfl) dX5_curveAt_62 (fun r62 M62 hq62 => ?_)
          obtain ⟨rfl, rfl⟩ := hq62
          refine g_imul dX5_curveAt_65 ?_
          rw [zI_mul]
          refine gi_X5_67 (ev_X5_mod (z := v * ((z - cX l c b) % 97)) (by omega) (by omega) M) rfl rfl ⟨Nat.le_of_ble_eq_true rfl, Nat.le_of_ble_eq_true rfl, Nat.le_of_ble_eq_true rfl, Nat.le_of_ble_eq_true rfl⟩ (Nat.le_of_ble_eq_true rfl) dX5_curveAt_66 (fun r66 M66 hq66 => ?_)
          obtain ⟨rfl, rfl⟩ := hq66
          refine g_istore (L2 := [(0, _), (1, _), (2, _), (3, _), (4, _), (5, _), (6, _)]) (by decide) rfl dX5_curveAt_69 ?_
          refine g_iload rfl dX5_curveAt_71 ?_
          refine g_aload_n rfl dX5_curveAt_73 ?_
          refine gf_X5_36 (by decide) rfl rfl dX5_curveAt_74 ?_
          refine g_aload_n rfl dX5_curveAt_77 ?_
          refine gf_X5_42 (by decide) rfl rfl dX5_curveAt_78 ?_
          refine g_iload_n rfl dX5_curveAt_81 ?_
          refine g_iald (n := 7) (by decide) rfl rfl (zI_in (by omega) (by omega) (by decide)) dX5_curveAt_82 ?_
          rw [zI_clamp (by omega) (by omega), show ((a : Nat) : Int).toNat = a from rfl, ca2]
          refine g_iald (n := 9) (by decide) rfl rfl (zI_in (by omega) (by omega) (by decide)) dX5_curveAt_83 ?_
          rw [zI_clamp (by omega) (by omega), show ((c a : Nat) : Int).toNat = c a from rfl, ca3]
          refine g_aload_n rfl dX5_curveAt_84 ?_
          refine gf_X5_36 (by decide) rfl rfl dX5_curveAt_85 ?_
          refine g_aload_n rfl dX5_curveAt_88 ?_
          refine gf_X5_42 (by decide) rfl rfl dX5_curveAt_89 ?_
          refine g_iload rfl dX5_curveAt_92 ?_
          refine g_iald (n := 7) (by decide) rfl rfl (zI_in (by omega) (by omega) (by decide)) dX5_curveAt_94 ?_
          rw [zI_clamp (by omega) (by omega), show ((b : Nat) : Int).toNat = b from rfl, cb2]
          refine g_iald (n := 9) (by decide) rfl rfl (zI_in (by omega) (by omega) (by decide)) dX5_curveAt_95 ?_
          rw [zI_clamp (by omega) (by omega), show ((c b : Nat) : Int).toNat = c b from rfl, cb3]
          refine g_isub dX5_curveAt_96 ?_
          rw [zI_sub]
          refine gi_X5_67 (ev_X5_mod (z := cX l c a - cX l c b) (by omega) (by omega) M) rfl rfl ⟨Nat.le_of_ble_eq_true rfl, Nat.le_of_ble_eq_true rfl, Nat.le_of_ble_eq_true rfl, Nat.le_of_ble_eq_true rfl⟩ (Nat.le_of_ble_eq_true rfl) dX5_curveAt_97 (fun r97 M97 hq97 => ?_)
          obtain ⟨rfl, rfl⟩ := hq97
          refine g_imul dX5_curveAt_100 ?_
          rw [zI_mul]
          refine gi_X5_67 (ev_X5_mod (z := u * ((cX l c a - cX l c b) % 97)) (by omega) (by omega) M) rfl rfl ⟨Nat.le_of_ble_eq_true rfl, Nat.le_of_ble_eq_true rfl, Nat.le_of_ble_eq_true rfl, Nat.le_of_ble_eq_true rfl⟩ (Nat.le_of_ble_eq_true rfl) dX5_curveAt_101 (fun r101 M101 hq101 => ?_)
          obtain ⟨rfl, rfl⟩ := hq101
          refine g_istore (L2 := [(0, _), (1, _), (2, _), (3, _), (4, _), (5, _), (6, _)]) (by decide) rfl dX5_curveAt_104 ?_
          refine g_iinc (L2 := [(0, _), (1, _), (2, _), (3, _), (4, _), (5, _), (6, _)]) rfl (by decide) rfl dX5_curveAt_106 ?_
          refine g_goto (tgt := 31) dX5_curveAt_109 (by decide) ?_
          rw [zI_eqz (by omega) (by omega) (by omega) (by omega)] at c43
          rw [zI_add]
          refine ih (b + 1) (by omega) a w _ _ ha (md_bd _).1 (md_bd _).2 (md_bd _).1 (md_bd _).2 ?_ ?_ K
          · rw [prodD, if_neg (by omega), ← Int.mul_assoc]
            exact cg_t (cg_m _) (cg_x hv (cg_m _))
          · rw [prodD, if_neg (by omega)]
            exact cg_t (cg_m _) (cg_x hu (cg_m _))
  have outer : ∀ (d a : Nat), d + a = g + 1 → ∀ (w : Int), 0 ≤ w → w < 97 → cgr w (lagS (cX l c) (cY l c) z (g + 1) a) →
      G yX5_curveAt.cls cX5_curveAt 7 (some .int) (gE 1 Q) 4 [(0, .ref 31), (1, .int (zI z)), (2, .int (zI w)), (3, .int (zI a))] [] M := by
    intro d
    induction d with
    | zero =>
      intro a ha w hw1 hw2 hw
      refine g_iload_n rfl dX5_curveAt_4 ?_
      refine g_aload_n rfl dX5_curveAt_5 ?_
      refine gi_X5_81 (by decide) rfl (ev_X5_degree e1 e8) rfl rfl ⟨Nat.le_of_ble_eq_true rfl, Nat.le_of_ble_eq_true rfl, Nat.le_of_ble_eq_true rfl, Nat.le_of_ble_eq_true rfl⟩ (Nat.le_of_ble_eq_true rfl) dX5_curveAt_6 (fun r6 M6 hq6 => ?_)
      obtain ⟨rfl, rfl⟩ := hq6
      rw [hmt]
      refine g_icmp_gt (tgt := 132) dX5_curveAt_9 (by decide) (fun c9 => ?_) (fun c9 => ?_)
      · refine g_iload_n rfl dX5_curveAt_132 ?_
        refine g_ireturn rfl dX5_curveAt_133 ?_
        obtain rfl : a = g + 1 := by omega
        rw [cg_lt hw hw1 hw2]
        exact hQ
      · simp (disch := omega) only [i_lt, zI_toInt] at c9
        omega
    | succ d ih =>
      intro a ha w hw1 hw2 hw
      obtain ⟨ca1, ca2, ca3, ca4, ca5, ca6, ca7, ca8⟩ := h.en (a := a) (by omega)
      refine g_iload_n rfl dX5_curveAt_4 ?_
      refine g_aload_n rfl dX5_curveAt_5 ?_
      refine gi_X5_81 (by decide) rfl (ev_X5_degree e1 e8) rfl rfl ⟨Nat.le_of_ble_eq_true rfl, Nat.le_of_ble_eq_true rfl, Nat.le_of_ble_eq_true rfl, Nat.le_of_ble_eq_true rfl⟩ (Nat.le_of_ble_eq_true rfl) dX5_curveAt_6 (fun r6 M6 hq6 => ?_)
      obtain ⟨rfl, rfl⟩ := hq6
      rw [hmt]
      refine g_icmp_gt (tgt := 132) dX5_curveAt_9 (by decide) (fun c9 => ?_) (fun c9 => ?_)
      · simp (disch := omega) only [i_lt, zI_toInt] at c9
        omega
      · refine g_aload_n rfl dX5_curveAt_12 ?_
        refine gf_X5_39 (by decide) rfl rfl dX5_curveAt_13 ?_
        refine g_aload_n rfl dX5_curveAt_16 ?_
        refine gf_X5_42 (by decide) rfl rfl dX5_curveAt_17 ?_
        refine g_iload_n rfl dX5_curveAt_20 ?_
        refine g_iald (n := 7) (by decide) rfl rfl (zI_in (by omega) (by omega) (by decide)) dX5_curveAt_21 ?_
        rw [zI_clamp (by omega) (by omega), show ((a : Nat) : Int).toNat = a from rfl, ca2]
        refine g_iald (n := 9) (by decide) rfl rfl (zI_in (by omega) (by omega) (by decide)) dX5_curveAt_22 ?_
        rw [zI_clamp (by omega) (by omega), show ((c a : Nat) : Int).toNat = c a from rfl, ca4]
        refine g_istore (L2 := [(0, _), (1, _), (2, _), (3, _), (4, _)]) (by decide) rfl dX5_curveAt_23 ?_
        refine g_iconst dX5_curveAt_25 ?_
        refine g_istore (L2 := [(0, _), (1, _), (2, _), (3, _), (4, _), (5, _)]) (by decide) rfl dX5_curveAt_26 ?_
        refine g_iconst dX5_curveAt_28 ?_
        refine g_istore (L2 := [(0, _), (1, _), (2, _), (3, _), (4, _), (5, _), (6, _)]) (by decide) rfl dX5_curveAt_29 ?_
        refine inner (g + 1) 0 (by omega) a w _ 1 (by omega) ca7 ca8 (by decide) (by decide) (by rw [prodD, Int.mul_one]; exact cg_r _) (cg_r _) (fun v u hv1 hv2 hu1 hu2 hv hu => ?_)
        have hda := hD a (by omega)
        have hua : u = prodD (cX l c) a (cX l c a) (g + 1) % 97 := cg_lt hu hu1 hu2
        have hu0 : 1 ≤ u := by omega
        have hiv := iv_all u.toNat (by omega) (by omega)
        have eiv : ((ivS u.toNat : Nat) : Int) = ivD (cX l c) a (g + 1) := by rw [ivD, ← hua]
        have b1 := mul_bd hv1 hv2 (show 0 ≤ ivD (cX l c) a (g + 1) by omega) (by omega)
        refine g_iload_n rfl dX5_curveAt_112 ?_
        refine g_iload rfl dX5_curveAt_113 ?_
        refine g_iload rfl dX5_curveAt_115 ?_
        rw [show u = ((u.toNat : Nat) : Int) by omega]
        refine gi_X5_134 (ev_X5_inverse (v := u.toNat) (by omega) (by omega) M) rfl rfl ⟨Nat.le_of_ble_eq_true rfl, Nat.le_of_ble_eq_true rfl, Nat.le_of_ble_eq_true rfl, Nat.le_of_ble_eq_true rfl⟩ (Nat.le_of_ble_eq_true rfl) dX5_curveAt_117 (fun r117 M117 hq117 => ?_)
        obtain ⟨rfl, rfl⟩ := hq117
        refine g_imul dX5_curveAt_120 ?_
        refine g_iadd dX5_curveAt_121 ?_
        rw [eiv, zI_mul, zI_add]
        refine gi_X5_67 (ev_X5_mod (z := w + v * ivD (cX l c) a (g + 1)) (by omega) (by omega) M) rfl rfl ⟨Nat.le_of_ble_eq_true rfl, Nat.le_of_ble_eq_true rfl, Nat.le_of_ble_eq_true rfl, Nat.le_of_ble_eq_true rfl⟩ (Nat.le_of_ble_eq_true rfl) dX5_curveAt_122 (fun r122 M122 hq122 => ?_)
        obtain ⟨rfl, rfl⟩ := hq122
        refine g_istore_n (L2 := [(0, _), (1, _), (2, _), (3, _), (4, _), (5, _)]) (by decide) rfl dX5_curveAt_125 ?_
        refine g_iinc (L2 := [(0, _), (1, _), (2, _), (3, _), (4, _), (5, _)]) rfl (by decide) rfl dX5_curveAt_126 ?_
        refine g_goto (tgt := 4) dX5_curveAt_129 (by decide) ?_
        refine g_locp [0, 1, 2, 3] rfl ?_
        rw [zI_add]
        refine ih (a + 1) (by omega) _ (md_bd _).1 (md_bd _).2 ?_
        rw [lagS]
        exact cg_t (cg_m _) (cg_a hw (cg_x hv (cg_r _)))
  refine g_iconst dX5_curveAt_0 ?_
  refine g_istore_n (L2 := [(0, _), (1, _), (2, _)]) (by decide) rfl dX5_curveAt_1 ?_
  refine g_iconst dX5_curveAt_2 ?_
  refine g_istore_n (L2 := [(0, _), (1, _), (2, _), (3, _)]) (by decide) rfl dX5_curveAt_3 ?_
  exact outer (g + 1) 0 (by omega) 0 (by decide) (by decide) (cg_r _)
def onM (l : List (Nat × Int)) (c : Nat → Nat) (g : Nat) (e : Nat × Int) : Bool := decide (lagV (cX l c) (cY l c) (g + 1) e.1 = e.2)
theorem ev_X5_onCurve {M : Mem} {l : List (Nat × Int)} {m t : Int} {g : Nat} {c : Nat → Nat} (h : CurM M l m t g c) (hD : ∀ a, a ≤ g → ¬ prodD (cX l c) a (cX l c a) (g + 1) % 97 = 0) : EvF yX5_onCurve cX5_onCurve 3 (some .int) 2 [.ref 31] M (some (.int (zI (cnOn (onM l c g) l l.length : Nat)))) M := by
  refine EvF.of (by decide +kernel) (Nat.le_of_ble_eq_true rfl) (fun Q hQ => ?_)
  obtain ⟨hr, hl, hok, -⟩ := id h
  have h0 := hr.1
  have loop : ∀ (d q : Nat), d + q = l.length → G yX5_onCurve.cls cX5_onCurve 3 (some .int) (gE 2 Q) 4 [(0, .ref 31), (1, .int (zI (cnOn (onM l c g) l q : Nat))), (2, .int (zI q))] [] M := by
    intro d
    induction d with
    | zero =>
      intro q hq
      refine g_iload_n rfl dX5_onCurve_4 ?_
      refine g_aload_n rfl dX5_onCurve_5 ?_
      refine gf_X5_131 (by decide) rfl dX5_onCurve_6 ?_
      rw [h0]
      refine g_icmp_ge (tgt := 45) dX5_onCurve_9 (by decide) (fun c9 => ?_) (fun c9 => ?_)
      · refine g_iload_n rfl dX5_onCurve_45 ?_
        refine g_ireturn rfl dX5_onCurve_46 ?_
        obtain rfl : q = l.length := by omega
        exact hQ
      · simp (disch := omega) only [i_le, zI_toInt] at c9
        omega
    | succ d ih =>
      intro q hq
      have ih := ih (q + 1) (by omega)
      have hlt : q < l.length := by omega
      have hg : l[q]? = some l[q] := List.getElem?_eq_getElem hlt
      obtain ⟨e1, e2⟩ := hr.2 q _ hg
      obtain ⟨o1, o2, o3, o4⟩ := hok l[q] (List.getElem_mem hlt)
      have hgd : l.getD q (0, 0) = l[q] := by rw [List.getD_eq_getElem?_getD, hg]; rfl
      have hlb := md_bd (lagS (cX l c) (cY l c) (l[q].1 : Nat) (g + 1) (g + 1))
      rw [cnOn, hgd] at ih
      refine g_iload_n rfl dX5_onCurve_4 ?_
      refine g_aload_n rfl dX5_onCurve_5 ?_
      refine gf_X5_131 (by decide) rfl dX5_onCurve_6 ?_
      rw [h0]
      refine g_icmp_ge (tgt := 45) dX5_onCurve_9 (by decide) (fun c9 => ?_) (fun c9 => ?_)
      · simp (disch := omega) only [i_le, zI_toInt] at c9
        omega
      · refine g_iload_n rfl dX5_onCurve_12 ?_
        refine g_aload_n rfl dX5_onCurve_13 ?_
        refine g_aload_n rfl dX5_onCurve_14 ?_
        refine gf_X5_36 (by decide) rfl rfl dX5_onCurve_15 ?_
        refine g_iload_n rfl dX5_onCurve_18 ?_
        refine g_iald (n := 9) (by decide) rfl rfl (zI_in (by omega) (by omega) (by decide)) dX5_onCurve_19 ?_
        rw [zI_clamp (by omega) (by omega), show ((q : Nat) : Int).toNat = q from rfl, e1]
        refine gi_X5_137 (by decide) rfl (ev_X5_curveAt h hD (z := (l[q].1 : Nat)) (by omega) (by omega)) rfl rfl ⟨Nat.le_of_ble_eq_true rfl, Nat.le_of_ble_eq_true rfl, Nat.le_of_ble_eq_true rfl, Nat.le_of_ble_eq_true rfl⟩ (Nat.le_of_ble_eq_true rfl) dX5_onCurve_20 (fun r20 M20 hq20 => ?_)
        obtain ⟨rfl, rfl⟩ := hq20
        rw [lagV]
        refine g_aload_n rfl dX5_onCurve_23 ?_
        refine gf_X5_39 (by decide) rfl rfl dX5_onCurve_24 ?_
        refine g_iload_n rfl dX5_onCurve_27 ?_
        refine g_iald (n := 9) (by decide) rfl rfl (zI_in (by omega) (by omega) (by decide)) dX5_onCurve_28 ?_
        rw [zI_clamp (by omega) (by omega), show ((q : Nat) : Int).toNat = q from rfl, e2]
        refine g_icmp_ne (tgt := 36) dX5_onCurve_29 (by decide) (fun c29 => ?_) (fun c29 => ?_)
        · refine g_iconst dX5_onCurve_36 ?_
          refine g_iadd dX5_onCurve_37 ?_
          refine g_istore_n (L2 := [(0, _), (1, _), (2, _)]) (by decide) rfl dX5_onCurve_38 ?_
          refine g_iinc (L2 := [(0, _), (1, _), (2, _)]) rfl (by decide) rfl dX5_onCurve_39 ?_
          refine g_goto (tgt := 4) dX5_onCurve_42 (by decide) ?_
          rw [zI_eqz (by omega) (by omega) (by omega) (by omega)] at c29
          rw [if_neg (by rw [onM, lagV, decide_eq_false c29]; decide)] at ih
          rw [zI_add, zI_add, Int.add_zero]
          exact ih
        · refine g_iconst dX5_onCurve_32 ?_
          refine g_goto (tgt := 37) dX5_onCurve_33 (by decide) ?_
          refine g_iadd dX5_onCurve_37 ?_
          refine g_istore_n (L2 := [(0, _), (1, _), (2, _)]) (by decide) rfl dX5_onCurve_38 ?_
          refine g_iinc (L2 := [(0, _), (1, _), (2, _)]) rfl (by decide) rfl dX5_onCurve_39 ?_
          refine g_goto (tgt := 4) dX5_onCurve_42 (by decide) ?_
          rw [zI_eqz (by omega) (by omega) (by omega) (by omega)] at c29
          rw [if_pos (by rw [onM, lagV, decide_eq_true c29])] at ih
          rw [zI_add, zI_add]
          exact ih
  refine g_iconst dX5_onCurve_0 ?_
  refine g_istore_n (L2 := [(0, _), (1, _)]) (by decide) rfl dX5_onCurve_1 ?_
  refine g_iconst dX5_onCurve_2 ?_
  refine g_istore_n (L2 := [(0, _), (1, _), (2, _)]) (by decide) rfl dX5_onCurve_3 ?_
  exact loop l.length 0 (by omega)
theorem ev_X5_first {M : Mem} {m t : Int} {g : Nat} (e1 : M 31 1 = zI m) (e8 : M 31 8 = zI t) (hmt : m * t = g) (hg6 : g ≤ 6) : Ev yX5_first cX5_first 2 none 1 [.ref 31] M (fun r M1 => none = r ∧ (∀ a, a ≠ 41 → M1 a = M a) ∧ ChoM M1 g id) := by
  refine Ev.of (by decide +kernel) (Nat.le_of_ble_eq_true rfl) (fun Q hQ => ?_)
  have loop : ∀ (d q : Nat), d + q = g + 1 → ∀ M1 : Mem, (∀ a, a ≠ 41 → M1 a = M a) → (∀ a, a < q → M1 41 a = zI (a : Nat)) → G yX5_first.cls cX5_first 2 none (gE 1 Q) 2 [(0, .ref 31), (1, .int (zI q))] [] M1 := by
    intro d
    induction d with
    | zero =>
      intro q hq M1 hs hc
      refine g_iload_n rfl dX5_first_2 ?_
      refine g_aload_n rfl dX5_first_3 ?_
      refine gi_X5_81 (by decide) rfl (ev_X5_degree (m := m) (t := t) (by rw [hs 31 (by decide)]; exact e1) (by rw [hs 31 (by decide)]; exact e8)) rfl rfl ⟨Nat.le_of_ble_eq_true rfl, Nat.le_of_ble_eq_true rfl, Nat.le_of_ble_eq_true rfl, Nat.le_of_ble_eq_true rfl⟩ (Nat.le_of_ble_eq_true rfl) dX5_first_4 (fun r4 M4 hq4 => ?_)
      obtain ⟨rfl, rfl⟩ := hq4
      rw [hmt]
      refine g_icmp_gt (tgt := 23) dX5_first_7 (by decide) (fun c7 => ?_) (fun c7 => ?_)
      · refine g_return rfl dX5_first_23 ?_
        exact hQ _ _ ⟨rfl, hs, fun a ha => hc a (by omega)⟩
      · simp (disch := omega) only [i_lt, zI_toInt] at c7
        omega
    | succ d ih =>
      intro q hq M1 hs hc
      refine g_iload_n rfl dX5_first_2 ?_
      refine g_aload_n rfl dX5_first_3 ?_
      refine gi_X5_81 (by decide) rfl (ev_X5_degree (m := m) (t := t) (by rw [hs 31 (by decide)]; exact e1) (by rw [hs 31 (by decide)]; exact e8)) rfl rfl ⟨Nat.le_of_ble_eq_true rfl, Nat.le_of_ble_eq_true rfl, Nat.le_of_ble_eq_true rfl, Nat.le_of_ble_eq_true rfl⟩ (Nat.le_of_ble_eq_true rfl) dX5_first_4 (fun r4 M4 hq4 => ?_)
      obtain ⟨rfl, rfl⟩ := hq4
      rw [hmt]
      refine g_icmp_gt (tgt := 23) dX5_first_7 (by decide) (fun c7 => ?_) (fun c7 => ?_)
      · simp (disch := omega) only [i_lt, zI_toInt] at c7
        omega
      · refine g_aload_n rfl dX5_first_10 ?_
        refine gf_X5_42 (by decide) rfl rfl dX5_first_11 ?_
        refine g_iload_n rfl dX5_first_14 ?_
        refine g_iload_n rfl dX5_first_15 ?_
        refine g_iast (n := 7) (by decide) rfl rfl (zI_in (by omega) (by omega) (by decide)) dX5_first_16 ?_
        rw [zI_clamp (by omega) (by omega), show ((q : Nat) : Int).toNat = q from rfl]
        refine g_iinc (L2 := [(0, _), (1, _)]) rfl (by decide) rfl dX5_first_17 ?_
        refine g_goto (tgt := 2) dX5_first_20 (by decide) ?_
        rw [zI_add]
        refine ih (q + 1) (by omega) _ (fun a ha => by rw [mset_other _ _ _ ha, hs a ha]) (fun a ha => ?_)
        by_cases e : a = q
        · rw [e, mset_same]
        · rw [mset_ne _ _ (Or.inr e)]
          exact hc a (by omega)
  refine g_iconst dX5_first_0 ?_
  refine g_istore_n (L2 := [(0, _), (1, _)]) (by decide) rfl dX5_first_1 ?_
  exact loop (g + 1) 0 (by omega) M (fun _ _ => rfl) (fun a ha => absurd ha (by omega))
/-- the last place that can still grow -/
def fndA (n g : Nat) (c : Nat → Nat) : Nat → Option Nat
  | 0 => none
  | a + 1 => if c a + g + 1 = n + a then fndA n g c a else some a
def nxtC (c : Nat → Nat) (a : Nat) (b : Nat) : Nat := if b < a then c b else c a + 1 + (b - a)
theorem fndA_le {n g : Nat} {c : Nat → Nat} : ∀ k a, fndA n g c k = some a → a < k
  | 0, a, h => by cases h
  | k + 1, a, h => by
    unfold fndA at h
    split at h
    · have := fndA_le k a h
      omega
    · cases h
      omega
theorem ev_X5_choose {M : Mem} {m t : Int} {g n : Nat} {c : Nat → Nat} (e1 : M 31 1 = zI m) (e8 : M 31 8 = zI t) (hmt : m * t = g) (hg6 : g ≤ 6) (hn : M 31 16 = zI n) (hn9 : n ≤ 9) (hc : ChoM M g c) (hlt : ∀ a, a ≤ g → c a < n) (hgn : g + 1 ≤ n) : Ev yX5_choose cX5_choose 4 (some .boolean) 1 [.ref 31] M (fun r M1 => some (.int (bI (fndA n g c (g + 1)).isSome)) = r ∧ (∀ a, a ≠ 41 → M1 a = M a) ∧ ∀ a, fndA n g c (g + 1) = some a → ChoM M1 g (nxtC c a)) := by
  refine Ev.of (by decide +kernel) (Nat.le_of_ble_eq_true rfl) (fun Q hQ => ?_)
  have loop2 : ∀ a, a ≤ g → fndA n g c (g + 1) = some a → ∀ (d b : Nat), d + b = g + 1 → a < b → ∀ M1 : Mem, (∀ a, a ≠ 41 → M1 a = M a) → (∀ q, q < b → M1 41 q = zI (nxtC c a q : Nat)) → G yX5_choose.cls cX5_choose 4 (some .boolean) (gE 1 Q) 56 [(0, .ref 31), (1, .int (zI g)), (2, .int (zI a)), (3, .int (zI b))] [] M1 := by
    intro a ha hf d
    have hca := hlt a ha
    induction d with
    | zero =>
      intro b hb hab M1 hs hc1
      refine g_iload_n rfl dX5_choose_56 ?_
      refine g_iload_n rfl dX5_choose_57 ?_
      refine g_icmp_gt (tgt := 83) dX5_choose_58 (by decide) (fun c58 => ?_) (fun c58 => ?_)
      · refine g_iconst dX5_choose_83 ?_
        refine g_zreturn rfl rfl dX5_choose_84 ?_
        refine hQ _ _ ⟨by rw [hf]; rfl, hs, fun a2 h2 => ?_⟩
        rw [hf] at h2
        cases h2
        exact fun q hq => hc1 q (by omega)
      · simp (disch := omega) only [i_lt, zI_toInt] at c58
        omega
    | succ d ih =>
      intro b hb hab M1 hs hc1
      have hp := hc1 (b - 1) (by omega)
      have e1 : (zI (b : Int) - zI 1) = zI ((b - 1 : Nat) : Int) := by
        rw [zI_sub]
        congr 1
        omega
      have en : nxtC c a (b - 1) + 1 = nxtC c a b := by
        unfold nxtC
        rw [if_neg (by omega), if_neg (by omega)]
        omega
      have hnb : nxtC c a (b - 1) < 20 := by
        unfold nxtC
        rw [if_neg (by omega)]
        omega
      refine g_iload_n rfl dX5_choose_56 ?_
      refine g_iload_n rfl dX5_choose_57 ?_
      refine g_icmp_gt (tgt := 83) dX5_choose_58 (by decide) (fun c58 => ?_) (fun c58 => ?_)
      · simp (disch := omega) only [i_lt, zI_toInt] at c58
        omega
      · refine g_aload_n rfl dX5_choose_61 ?_
        refine gf_X5_42 (by decide) rfl rfl dX5_choose_62 ?_
        refine g_iload_n rfl dX5_choose_65 ?_
        refine g_aload_n rfl dX5_choose_66 ?_
        refine gf_X5_42 (by decide) rfl rfl dX5_choose_67 ?_
        refine g_iload_n rfl dX5_choose_70 ?_
        refine g_iconst dX5_choose_71 ?_
        refine g_isub dX5_choose_72 ?_
        rw [e1]
        refine g_iald (n := 7) (by decide) rfl rfl (zI_in (by omega) (by omega) (by decide)) dX5_choose_73 ?_
        rw [zI_clamp (by omega) (by omega), show ((b - 1 : Nat) : Int).toNat = b - 1 from rfl, hp]
        refine g_iconst dX5_choose_74 ?_
        refine g_iadd dX5_choose_75 ?_
        rw [zI_add, show ((nxtC c a (b - 1) : Nat) : Int) + 1 = (nxtC c a b : Nat) by omega]
        refine g_iast (n := 7) (by decide) rfl rfl (zI_in (by omega) (by omega) (by decide)) dX5_choose_76 ?_
        rw [zI_clamp (by omega) (by omega), show ((b : Nat) : Int).toNat = b from rfl]
        refine g_iinc (L2 := [(0, _), (1, _), (2, _), (3, _)]) rfl (by decide) rfl dX5_choose_77 ?_
        refine g_goto (tgt := 56) dX5_choose_80 (by decide) ?_
        rw [zI_add]
        refine ih (b + 1) (by omega) (by omega) _ (fun a ha => by rw [mset_other _ _ _ ha, hs a ha]) (fun q hq => ?_)
        by_cases e : q = b
        · rw [e, mset_same]
        · rw [mset_ne _ _ (Or.inr e)]
          exact hc1 q (by omega)
  have loop1 : ∀ (k : Nat), k ≤ g + 1 → fndA n g c (g + 1) = fndA n g c k → G yX5_choose.cls cX5_choose 4 (some .boolean) (gE 1 Q) 7 [(0, .ref 31), (1, .int (zI g)), (2, .int (zI ((k : Int) - 1)))] [] M := by
    intro k
    induction k with
    | zero =>
      intro hk hf
      refine g_iload_n rfl dX5_choose_7 ?_
      refine g_if_lt (tgt := 36) dX5_choose_8 (by decide) (fun c8 => ?_) (fun c8 => ?_)
      · refine g_iload_n rfl dX5_choose_36 ?_
        refine g_if_ge (tgt := 42) dX5_choose_37 (by decide) (fun c37 => ?_) (fun c37 => ?_)
        · simp (disch := omega) only [i_le, zI_toInt, i_0] at c37
          omega
        · refine g_iconst dX5_choose_40 ?_
          refine g_zreturn rfl rfl dX5_choose_41 ?_
          have hf : fndA n g c (g + 1) = none := hf
          exact hQ _ _ ⟨by rw [hf]; rfl, fun _ _ => rfl, fun a h2 => by rw [hf] at h2; cases h2⟩
      · simp (disch := omega) only [i_lt, zI_toInt, i_0] at c8
        omega
    | succ k ih =>
      intro hk hf
      have ef : fndA n g c (k + 1) = if c k + g + 1 = n + k then fndA n g c k else some k := rfl
      rw [ef] at hf
      have hck := hc k (by omega)
      have hlk := hlt k (by omega)
      rw [show ((k + 1 : Nat) : Int) - 1 = (k : Nat) by omega]
      refine g_iload_n rfl dX5_choose_7 ?_
      refine g_if_lt (tgt := 36) dX5_choose_8 (by decide) (fun c8 => ?_) (fun c8 => ?_)
      · simp (disch := omega) only [i_lt, zI_toInt, i_0] at c8
        omega
      · refine g_aload_n rfl dX5_choose_11 ?_
        refine gf_X5_42 (by decide) rfl rfl dX5_choose_12 ?_
        refine g_iload_n rfl dX5_choose_15 ?_
        refine g_iald (n := 7) (by decide) rfl rfl (zI_in (by omega) (by omega) (by decide)) dX5_choose_16 ?_
        rw [zI_clamp (by omega) (by omega), show ((k : Nat) : Int).toNat = k from rfl, hck]
        refine g_aload_n rfl dX5_choose_17 ?_
        refine gf_X5_131 (by decide) rfl dX5_choose_18 ?_
        rw [hn]
        refine g_iconst dX5_choose_21 ?_
        refine g_isub dX5_choose_22 ?_
        refine g_iload_n rfl dX5_choose_23 ?_
        refine g_iload_n rfl dX5_choose_24 ?_
        refine g_isub dX5_choose_25 ?_
        refine g_isub dX5_choose_26 ?_
        rw [zI_sub, zI_sub, zI_sub]
        refine g_icmp_ne (tgt := 36) dX5_choose_27 (by decide) (fun c27 => ?_) (fun c27 => ?_)
        · rw [zI_eqz (by omega) (by omega) (by omega) (by omega)] at c27
          rw [if_neg (by omega)] at hf
          have e2 : ∀ q, q < k → M 41 q = zI (nxtC c k q : Nat) := fun q hq => by
            unfold nxtC
            rw [if_pos hq]
            exact hc q (by omega)
          have e3 : nxtC c k k = c k + 1 := by
            unfold nxtC
            rw [if_neg (by omega)]
            omega
          refine g_iload_n rfl dX5_choose_36 ?_
          refine g_if_ge (tgt := 42) dX5_choose_37 (by decide) (fun c37 => ?_) (fun c37 => ?_)
          · refine g_aload_n rfl dX5_choose_42 ?_
            refine gf_X5_42 (by decide) rfl rfl dX5_choose_43 ?_
            refine g_iload_n rfl dX5_choose_46 ?_
            refine g_dup2 rfl rfl dX5_choose_47 ?_
            refine g_iald (n := 7) (by decide) rfl rfl (zI_in (by omega) (by omega) (by decide)) dX5_choose_48 ?_
            rw [zI_clamp (by omega) (by omega), show ((k : Nat) : Int).toNat = k from rfl, hck]
            refine g_iconst dX5_choose_49 ?_
            refine g_iadd dX5_choose_50 ?_
            rw [zI_add, show ((c k : Nat) : Int) + 1 = (nxtC c k k : Nat) by omega]
            refine g_iast (n := 7) (by decide) rfl rfl (zI_in (by omega) (by omega) (by decide)) dX5_choose_51 ?_
            rw [zI_clamp (by omega) (by omega), show ((k : Nat) : Int).toNat = k from rfl]
            refine g_iload_n rfl dX5_choose_52 ?_
            refine g_iconst dX5_choose_53 ?_
            refine g_iadd dX5_choose_54 ?_
            refine g_istore_n (L2 := [(0, _), (1, _), (2, _), (3, _)]) (by decide) rfl dX5_choose_55 ?_
            rw [zI_add]
            refine loop2 k (by omega) hf (g - k) (k + 1) (by omega) (by omega) _ (fun a ha => mset_other _ _ _ ha) (fun q hq => ?_)
            by_cases e : q = k
            · rw [e, mset_same]
            · rw [mset_ne _ _ (Or.inr e)]
              exact e2 q (by omega)
          · simp (disch := omega) only [i_le, zI_toInt, i_0] at c37
            omega
        · refine g_iinc (L2 := [(0, _), (1, _), (2, _)]) rfl (by decide) rfl dX5_choose_30 ?_
          refine g_goto (tgt := 7) dX5_choose_33 (by decide) ?_
          rw [zI_eqz (by omega) (by omega) (by omega) (by omega)] at c27
          rw [if_pos (by omega)] at hf
          rw [zI_add, show ((k : Nat) : Int) + -1 = (k : Int) - 1 by omega]
          exact ih (by omega) hf
  refine g_aload_n rfl dX5_choose_0 ?_
  refine gi_X5_81 (by decide) rfl (ev_X5_degree e1 e8) rfl rfl ⟨Nat.le_of_ble_eq_true rfl, Nat.le_of_ble_eq_true rfl, Nat.le_of_ble_eq_true rfl, Nat.le_of_ble_eq_true rfl⟩ (Nat.le_of_ble_eq_true rfl) dX5_choose_1 (fun r1 M1 hq1 => ?_)
  obtain ⟨rfl, rfl⟩ := hq1
  rw [hmt]
  refine g_istore_n (L2 := [(0, _), (1, _)]) (by decide) rfl dX5_choose_4 ?_
  refine g_iload_n rfl dX5_choose_5 ?_
  refine g_istore_n (L2 := [(0, _), (1, _), (2, _)]) (by decide) rfl dX5_choose_6 ?_
  have e := loop1 (g + 1) (Nat.le_refl _) rfl
  rw [show ((g + 1 : Nat) : Int) - 1 = (g : Nat) by omega] at e
  exact e
