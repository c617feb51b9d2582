/-! class SilentAsking: the curve -/
def newt : List (Int × Int) → Int → Int
  | [], _ => 0
  | e :: l, x => (newt l x * (x - e.1 + 97) + e.2) % 97
theorem newt_bd (l : List (Int × Int)) (x : Int) : 0 ≤ newt l x ∧ newt l x < 97 := by
  cases l with
  | nil => exact ⟨Int.le_refl _, by show (0 : Int) < 97; decide⟩
  | cons e l => exact md_bd _
def invN (g : Int) : Int := (invL.getD g.toNat 0).toInt
theorem invN_bd (g : Int) : 0 ≤ invN g ∧ invN g < 97 := by
  unfold invN
  by_cases h : g.toNat < 9
  · have hd : ∀ n, n < 9 → 0 ≤ (invL.getD n 0).toInt ∧ (invL.getD n 0).toInt < 97 := by decide
    exact hd _ h
  · rw [List.getD_eq_getElem?_getD, List.getElem?_eq_none (by show 9 ≤ _; omega)]
    decide
/-- the curve (cells 28, 29, 30) holds l -/
def CurIs (M : Mem) (l : List (Int × Int)) : Prop := M 28 2 = zI l.length ∧ ∀ (p : Nat) (x : Int × Int), l[p]? = some x → M 29 p = zI x.1 ∧ M 30 p = zI x.2
theorem CurIs.add {M : Mem} {l : List (Int × Int)} (h : CurIs M l) (j v : Int) : CurIs (mset (mset (mset M 29 l.length (zI j)) 30 l.length (zI v)) 28 2 (zI ((l.length + 1 : Nat) : Int))) (l ++ [(j, v)]) := by
  refine ⟨?_, fun p x hx => ?_⟩
  · rw [mset_same, List.length_append]
    rfl
  · have e6 : (mset (mset (mset M 29 l.length (zI j)) 30 l.length (zI v)) 28 2 (zI ((l.length + 1 : Nat) : Int))) 29 = upd (M 29) l.length (zI j) := by
      rw [mset_other _ _ _ (by decide), mset_other _ _ _ (by decide), mset_row]
    have e7 : (mset (mset (mset M 29 l.length (zI j)) 30 l.length (zI v)) 28 2 (zI ((l.length + 1 : Nat) : Int))) 30 = upd (M 30) l.length (zI v) := by
      rw [mset_other _ _ _ (by decide), mset_row, mset_other _ _ _ (by decide)]
    rw [e6, e7]
    unfold upd
    rcases Nat.lt_trichotomy p l.length with hp | hp | hp
    · rw [List.getElem?_append_left hp] at hx
      rw [if_neg (by omega), if_neg (by omega)]
      exact h.2 p x hx
    · subst hp
      rw [List.getElem?_append_right (Nat.le_refl _), Nat.sub_self] at hx
      cases hx
      rw [if_pos rfl, if_pos rfl]
      exact ⟨rfl, rfl⟩
    · rw [List.getElem?_eq_none (by rw [List.length_append]; simp; omega)] at hx
      cases hx
def curOk (l : List (Int × Int)) : Prop := ∀ e ∈ l, 1 ≤ e.1 ∧ e.1 ≤ 9 ∧ 0 ≤ e.2 ∧ e.2 < 97
theorem ev_X0_at {M : Mem} {l : List (Int × Int)} (h : CurIs M l) (hok : curOk l) (hl : l.length ≤ 7) {x : Int} (hx1 : 0 ≤ x) (hx2 : x ≤ 9) : EvF yX0_at cX0_at 4 (some .int) 0 [.ref 28, .int (zI x)] M (some (.int (zI (newt l x)))) M := by
  refine EvF.of (by decide +kernel) (Nat.le_of_ble_eq_true rfl) (fun Q hQ => ?_)
  have h0 := h.1
  have loop : ∀ (r : Nat), r ≤ l.length → G yX0_at.cls cX0_at 4 (some .int) (gE 0 Q) 9 [(0, .ref 28), (1, .int (zI x)), (2, .int (zI (newt (l.drop r) x))), (3, .int (zI ((r : Int) - 1)))] [] M := by
    intro r
    induction r with
    | zero =>
      intro hr
      refine g_iload_n rfl dX0_at_9 ?_
      refine g_if_lt (tgt := 43) dX0_at_10 (by decide) (fun c10 => ?_) (fun c10 => ?_)
      · refine g_iload_n rfl dX0_at_43 ?_
        refine g_ireturn rfl dX0_at_44 ?_
        exact hQ
      · simp (disch := omega) only [i_lt, zI_toInt, i_0] at c10
        omega
    | succ r ih =>
      intro hr
      have ih := ih (by omega)
      have hlt : r < l.length := by omega
      have hg : l[r]? = some l[r] := List.getElem?_eq_getElem hlt
      obtain ⟨e1, e2⟩ := h.2 r _ hg
      obtain ⟨o1, o2, o3, o4⟩ := hok l[r] (List.getElem_mem hlt)
      rw [List.drop_eq_getElem_cons hlt, newt] at ih
      have hv := newt_bd (l.drop (r + 1)) x
      generalize newt (l.drop (r + 1)) x = v at ih hv ⊢
      have er : ((r + 1 : Nat) : Int) - 1 = (r : Nat) := by omega
      rw [er]
      refine g_iload_n rfl dX0_at_9 ?_
      refine g_if_lt (tgt := 43) dX0_at_10 (by decide) (fun c10 => ?_) (fun c10 => ?_)
      · simp (disch := omega) only [i_lt, zI_toInt, i_0] at c10
        omega
      · refine g_iload_n rfl dX0_at_13 ?_
        refine g_iload_n rfl dX0_at_14 ?_
        refine g_aload_n rfl dX0_at_15 ?_
        refine gf_X0_9 (by decide) rfl rfl dX0_at_16 ?_
        refine g_iload_n rfl dX0_at_19 ?_
        refine g_iald (n := 7) (by decide) rfl rfl (zI_in (by omega) (by omega) (by decide)) dX0_at_20 ?_
        rw [zI_clamp (by omega) (by omega), show ((r : Nat) : Int).toNat = r from rfl, e1]
        refine g_isub dX0_at_21 ?_
        refine g_bipush (by decide) dX0_at_22 ?_
        refine g_iadd dX0_at_24 ?_
        refine g_imul dX0_at_25 ?_
        refine g_aload_n rfl dX0_at_26 ?_
        refine gf_X0_15 (by decide) rfl rfl dX0_at_27 ?_
        refine g_iload_n rfl dX0_at_30 ?_
        refine g_iald (n := 7) (by decide) rfl rfl (zI_in (by omega) (by omega) (by decide)) dX0_at_31 ?_
        rw [zI_clamp (by omega) (by omega), show ((r : Nat) : Int).toNat = r from rfl, e2]
        refine g_iadd dX0_at_32 ?_
        refine g_bipush (by decide) dX0_at_33 ?_
        refine g_irem (by decide) dX0_at_35 ?_
        refine g_istore_n (L2 := [(0, _), (1, _), (2, _), (3, _)]) (by decide) rfl dX0_at_36 ?_
        refine g_iinc (L2 := [(0, _), (1, _), (2, _), (3, _)]) rfl (by decide) rfl dX0_at_37 ?_
        refine g_goto (tgt := 9) dX0_at_40 (by decide) ?_
        have hb := mul_bd hv.1 hv.2 (show 0 ≤ x - l[r].1 + 97 by omega) (by omega)
        rw [zI_sub, zI_add, zI_mul, zI_add, zI_remN (by omega) (by omega) (by decide) (by decide), zI_add]
        exact ih
  refine g_iconst dX0_at_0 ?_
  refine g_istore_n (L2 := [(0, _), (1, _), (2, _)]) (by decide) rfl dX0_at_1 ?_
  refine g_aload_n rfl dX0_at_2 ?_
  refine gf_X0_18 (by decide) rfl dX0_at_3 ?_
  rw [h0]
  refine g_iconst dX0_at_6 ?_
  refine g_isub dX0_at_7 ?_
  refine g_istore_n (L2 := [(0, _), (1, _), (2, _), (3, _)]) (by decide) rfl dX0_at_8 ?_
  have e := loop l.length (Nat.le_refl _)
  rw [List.drop_eq_nil_of_le (Nat.le_refl _)] at e
  rw [zI_sub]
  exact e
def cofS (l : List (Int × Int)) (x f : Int) : Int := l.foldl (fun f e => f * invN (x - e.1) % 97) f
def bendL (l : List (Int × Int)) (x y : Int) : List (Int × Int) := l ++ [(x, cofS l x (y - newt l x + 97) % 97)]
theorem bendL_len (l : List (Int × Int)) (x y : Int) : (bendL l x y).length = l.length + 1 := by simp [bendL]
theorem bendL_ok {l : List (Int × Int)} (h : curOk l) {x : Int} (y : Int) (h1 : 1 ≤ x) (h2 : x ≤ 9) : curOk (bendL l x y) := by
  intro e he
  rcases List.mem_append.mp he with he | he
  · exact h e he
  · rw [List.mem_singleton.mp he]
    have := md_bd (cofS l x (y - newt l x + 97))
    exact ⟨h1, h2, this.1, this.2⟩
def benM (M : Mem) (l : List (Int × Int)) (x y : Int) : Mem := mset (mset (mset M 29 l.length (zI x)) 30 l.length (zI (cofS l x (y - newt l x + 97) % 97))) 28 2 (zI ((l.length + 1 : Nat) : Int))
theorem cofS_bd (l : List (Int × Int)) (x : Int) : ∀ n f, 0 ≤ f → f < 200 → 0 ≤ cofS (l.take n) x f ∧ cofS (l.take n) x f < 200 := by
  intro n
  induction n with
  | zero => intro f h1 h2; exact ⟨h1, h2⟩
  | succ n ih =>
    intro f h1 h2
    unfold cofS at ih ⊢
    by_cases hn : n < l.length
    · rw [List.take_succ_eq_append_getElem hn, List.foldl_append]
      have := md_bd ((l.take n).foldl (fun f e => f * invN (x - e.1) % 97) f * invN (x - l[n].1))
      simp only [List.foldl_cons, List.foldl_nil]
      omega
    · rw [List.take_of_length_le (by omega)]
      have := ih f h1 h2
      rw [List.take_of_length_le (by omega)] at this
      exact this
theorem ev_X0_bend {M : Mem} {l : List (Int × Int)} (h : CurIs M l) (hok : curOk l) (hl : l.length ≤ 6) {x y : Int} (hx1 : 1 ≤ x) (hx2 : x ≤ 9) (hy1 : 0 ≤ y) (hy2 : y < 97) : EvF yX0_bend cX0_bend 5 none 1 [.ref 28, .int (zI x), .int (zI y)] M none (benM M l x y) := by
  refine EvF.of (by decide +kernel) (Nat.le_of_ble_eq_true rfl) (fun Q hQ => ?_)
  have h0 := h.1
  have hnb := newt_bd l x
  have hfb := fun n => cofS_bd l x n (y - newt l x + 97) (by omega) (by omega)
  have loop : ∀ (d q : Nat), d + q = l.length → G yX0_bend.cls cX0_bend 5 none (gE 1 Q) 24 [(0, .ref 28), (1, .int (zI x)), (2, .int (zI y)), (3, .int (zI (cofS (l.take q) x (y - newt l x + 97)))), (4, .int (zI q))] [] M := by
    intro d
    induction d with
    | zero =>
      intro q hq
      obtain rfl : q = l.length := by omega
      have hf := hfb l.length
      rw [List.take_length] at hf ⊢
      refine g_iload rfl dX0_bend_24 ?_
      refine g_aload_n rfl dX0_bend_26 ?_
      refine gf_X0_18 (by decide) rfl dX0_bend_27 ?_
      rw [h0]
      refine g_icmp_ge (tgt := 57) dX0_bend_30 (by decide) (fun c30 => ?_) (fun c30 => ?_)
      · refine g_aload_n rfl dX0_bend_57 ?_
        refine gf_X0_9 (by decide) rfl rfl dX0_bend_58 ?_
        refine g_aload_n rfl dX0_bend_61 ?_
        refine gf_X0_18 (by decide) rfl dX0_bend_62 ?_
        rw [h0]
        refine g_iload_n rfl dX0_bend_65 ?_
        refine g_iast (n := 7) (by decide) rfl rfl (zI_in (by omega) (by omega) (by decide)) dX0_bend_66 ?_
        rw [zI_clamp (by omega) (by omega)]
        refine g_aload_n rfl dX0_bend_67 ?_
        refine gf_X0_15 (by decide) rfl rfl dX0_bend_68 ?_
        refine g_aload_n rfl dX0_bend_71 ?_
        refine gf_X0_18 (by decide) rfl dX0_bend_72 ?_
        rw [mset_ne _ _ (Or.inl (by decide)), h0]
        refine g_iload_n rfl dX0_bend_75 ?_
        refine g_bipush (by decide) dX0_bend_76 ?_
        refine g_irem (by decide) dX0_bend_78 ?_
        rw [zI_remN hf.1 (by omega) (by decide) (by decide)]
        refine g_iast (n := 7) (by decide) rfl rfl (zI_in (by omega) (by omega) (by decide)) dX0_bend_79 ?_
        rw [zI_clamp (by omega) (by omega)]
        refine g_aload_n rfl dX0_bend_80 ?_
        refine g_dup rfl dX0_bend_81 ?_
        refine gf_X0_18 (by decide) rfl dX0_bend_82 ?_
        rw [mset_ne _ _ (Or.inl (by decide)), mset_ne _ _ (Or.inl (by decide)), h0]
        refine g_iconst dX0_bend_85 ?_
        refine g_iadd dX0_bend_86 ?_
        rw [zI_add]
        refine gp_X0_18 (by decide) rfl dX0_bend_87 ?_
        refine g_return rfl dX0_bend_90 ?_
        exact hQ
      · simp (disch := omega) only [i_le, zI_toInt] at c30
        omega
    | succ d ih =>
      intro q hq
      have ih := ih (q + 1) (by omega)
      have hlt : q < l.length := by omega
      have hg : l[q]? = some l[q] := List.getElem?_eq_getElem hlt
      obtain ⟨e1, e2⟩ := h.2 q _ hg
      obtain ⟨o1, o2, o3, o4⟩ := hok l[q] (List.getElem_mem hlt)
      have hf := hfb q
      have hst : cofS (l.take (q + 1)) x (y - newt l x + 97) = cofS (l.take q) x (y - newt l x + 97) * invN (x - l[q].1) % 97 := by
        unfold cofS
        rw [List.take_succ_eq_append_getElem hlt, List.foldl_append]
        rfl
      rw [hst] at ih
      generalize cofS (l.take q) x (y - newt l x + 97) = f at ih hf ⊢
      have hi := invN_bd (x - l[q].1)
      have einv : invL.getD (zI (x - l[q].1)).toInt.toNat 0 = zI (invN (x - l[q].1)) := by
        rw [zI_toInt (by omega) (by omega)]
        unfold invN
        rw [zI_of]
      refine g_iload rfl dX0_bend_24 ?_
      refine g_aload_n rfl dX0_bend_26 ?_
      refine gf_X0_18 (by decide) rfl dX0_bend_27 ?_
      rw [h0]
      refine g_icmp_ge (tgt := 57) dX0_bend_30 (by decide) (fun c30 => ?_) (fun c30 => ?_)
      · simp (disch := omega) only [i_le, zI_toInt] at c30
        omega
      · refine g_iload_n rfl dX0_bend_33 ?_
        refine g_iload_n rfl dX0_bend_34 ?_
        refine g_aload_n rfl dX0_bend_35 ?_
        refine gf_X0_9 (by decide) rfl rfl dX0_bend_36 ?_
        refine g_iload rfl dX0_bend_39 ?_
        refine g_iald (n := 7) (by decide) rfl rfl (zI_in (by omega) (by omega) (by decide)) dX0_bend_41 ?_
        rw [zI_clamp (by omega) (by omega), show ((q : Nat) : Int).toNat = q from rfl, e1]
        refine g_isub dX0_bend_42 ?_
        rw [zI_sub]
        refine gi_X0_43 (ev_X4_inverse (zI (x - l[q].1)) M) rfl rfl ⟨Nat.le_of_ble_eq_true rfl, Nat.le_of_ble_eq_true rfl, Nat.le_of_ble_eq_true rfl, Nat.le_of_ble_eq_true rfl⟩ (Nat.le_of_ble_eq_true rfl) dX0_bend_43 (fun r43 M43 hq43 => ?_)
        obtain ⟨rfl, rfl⟩ := hq43
        rw [einv]
        refine g_imul dX0_bend_46 ?_
        refine g_bipush (by decide) dX0_bend_47 ?_
        refine g_irem (by decide) dX0_bend_49 ?_
        refine g_istore_n (L2 := [(0, _), (1, _), (2, _), (3, _), (4, _)]) (by decide) rfl dX0_bend_50 ?_
        refine g_iinc (L2 := [(0, _), (1, _), (2, _), (3, _), (4, _)]) rfl (by decide) rfl dX0_bend_51 ?_
        refine g_goto (tgt := 24) dX0_bend_54 (by decide) ?_
        have hb := mul_bd2 hf.1 hf.2 hi.1 hi.2
        rw [zI_mul, zI_remN (by omega) (by omega) (by decide) (by decide), zI_add]
        exact ih
  refine g_aload_n rfl dX0_bend_0 ?_
  refine gf_X0_18 (by decide) rfl dX0_bend_1 ?_
  rw [h0]
  refine g_bipush (by decide) dX0_bend_4 ?_
  refine g_icmp_le (tgt := 10) dX0_bend_6 (by decide) (fun c6 => ?_) (fun c6 => ?_)
  · refine g_iload_n rfl dX0_bend_10 ?_
    refine g_aload_n rfl dX0_bend_11 ?_
    refine g_iload_n rfl dX0_bend_12 ?_
    refine gi_X0_39 (by decide) rfl (ev_X0_at h hok (by omega) (by omega) hx2) rfl rfl ⟨Nat.le_of_ble_eq_true rfl, Nat.le_of_ble_eq_true rfl, Nat.le_of_ble_eq_true rfl, Nat.le_of_ble_eq_true rfl⟩ (Nat.le_of_ble_eq_true rfl) dX0_bend_13 (fun r13 M13 hq13 => ?_)
    obtain ⟨rfl, rfl⟩ := hq13
    refine g_isub dX0_bend_16 ?_
    refine g_bipush (by decide) dX0_bend_17 ?_
    refine g_iadd dX0_bend_19 ?_
    refine g_istore_n (L2 := [(0, _), (1, _), (2, _), (3, _)]) (by decide) rfl dX0_bend_20 ?_
    refine g_iconst dX0_bend_21 ?_
    refine g_istore (L2 := [(0, _), (1, _), (2, _), (3, _), (4, _)]) (by decide) rfl dX0_bend_22 ?_
    rw [zI_sub, zI_add]
    exact loop l.length 0 (by omega)
  · simp (disch := omega) only [i_le, zI_toInt] at c6
    omega
theorem benM_is {M : Mem} {l : List (Int × Int)} (h : CurIs M l) (x y : Int) : CurIs (benM M l x y) (bendL l x y) := h.add x _
/-- outside the curve (cells 28, 29, 30) nothing changed -/
def Sac (M M' : Mem) : Prop := ∀ a, (a < 28 ∨ 31 ≤ a) → M' a = M a
theorem Sac.r (M : Mem) : Sac M M := fun _ _ => rfl
theorem Sac.t {M M1 M2 : Mem} (h : Sac M M1) (h2 : Sac M1 M2) : Sac M M2 := fun a ha => (h2 a ha).trans (h a ha)
theorem Sac.sam {M M' : Mem} (h : Sac M M') : Sam M M' := fun a ha => h a (by omega)
theorem Sac.row {M M' : Mem} (h : Sac M M') {l : List (Nat × Int)} (hr : RowIs M l) : RowIs M' l := hr.ext (h 25 (by decide)) (h 26 (by decide)) (h 27 (by decide))
theorem benM_sac (M : Mem) (l : List (Int × Int)) (x y : Int) : Sac M (benM M l x y) := fun a ha => by
  unfold benM
  rw [mset_other _ _ _ (by omega), mset_other _ _ _ (by omega), mset_other _ _ _ (by omega)]
def rowOk (l : List (Nat × Int)) : Prop := ∀ e ∈ l, 1 ≤ e.1 ∧ e.1 ≤ 9 ∧ 0 ≤ e.2 ∧ e.2 < 97
/-- those of the first q that picks picks, the row's first by the highest bit -/
def pkS (l : List (Nat × Int)) (n picks : Nat) : Nat → List (Nat × Int)
  | 0 => []
  | p + 1 => pkS l n picks p ++ (if picks / 2 ^ (n - 1 - p) % 2 = 1 then [l.getD p (0, 0)] else [])
def lenF (n picks : Nat) : Nat → Nat
  | 0 => 0
  | p + 1 => lenF n picks p + (if picks / 2 ^ (n - 1 - p) % 2 = 1 then 1 else 0)
theorem pkS_len (l : List (Nat × Int)) (n picks : Nat) : ∀ p, (pkS l n picks p).length = lenF n picks p
  | 0 => rfl
  | p + 1 => by
    rw [pkS, lenF, List.length_append, pkS_len l n picks p]
    split <;> simp
theorem lenF_mono (n picks : Nat) : ∀ d p, lenF n picks p ≤ lenF n picks (p + d)
  | 0, _ => Nat.le_refl _
  | d + 1, p => by
    have := lenF_mono n picks d p
    rw [← Nat.add_assoc, lenF]
    omega
set_option maxRecDepth 100000 in
theorem lenF_pop : ∀ n, n < 10 → ∀ p, p < 512 → p < 2 ^ n → lenF n p n = popN p := by decide +kernel
theorem pkS_ok {l : List (Nat × Int)} (h : rowOk l) (n picks : Nat) : ∀ p, p ≤ l.length → rowOk (pkS l n picks p)
  | 0, _ => fun e he => by cases he
  | p + 1, hp => by
    intro e he
    rw [pkS] at he
    rcases List.mem_append.mp he with he | he
    · exact pkS_ok h n picks p (by omega) e he
    · by_cases hb : picks / 2 ^ (n - 1 - p) % 2 = 1
      · rw [if_pos hb] at he
        rw [List.mem_singleton.mp he, List.getD_eq_getElem?_getD, List.getElem?_eq_getElem (by omega)]
        exact h _ (List.getElem_mem (by omega))
      · rw [if_neg hb] at he
        cases he
def layP (pl : List (Nat × Int)) : List (Int × Int) := pl.foldl (fun c e => bendL c e.1 e.2) []
theorem layP_add (pl : List (Nat × Int)) (e : Nat × Int) : layP (pl ++ [e]) = bendL (layP pl) e.1 e.2 := by
  unfold layP
  rw [List.foldl_append]
  rfl
theorem layP_all (n : Nat) : ∀ pl : List (Nat × Int), pl.length = n → rowOk pl → curOk (layP pl) ∧ (layP pl).length = n := by
  induction n with
  | zero =>
    intro pl h _
    rw [List.length_eq_zero_iff.mp h]
    exact ⟨(fun e he => by cases he), rfl⟩
  | succ n ih =>
    intro pl h hok
    have hne : pl ≠ [] := fun q => by rw [q] at h; cases h
    have he := List.dropLast_concat_getLast hne
    have h1 := ih pl.dropLast (by rw [List.length_dropLast]; omega) (fun e q => hok e (List.dropLast_subset _ q))
    have h2 := hok _ (List.getLast_mem hne)
    rw [← he, layP_add]
    exact ⟨bendL_ok h1.1 _ (by omega) (by omega), by rw [bendL_len, h1.2]⟩
theorem layP_ok {pl : List (Nat × Int)} (h : rowOk pl) : curOk (layP pl) := (layP_all _ pl rfl h).1
theorem layP_len {pl : List (Nat × Int)} (h : rowOk pl) : (layP pl).length = pl.length := (layP_all _ pl rfl h).2
theorem ev_X0_layThrough {M : Mem} {l : List (Nat × Int)} (hr : RowIs M l) (hl : l.length ≤ 9) (hok : rowOk l) {picks : Nat} (hp : picks < 1024) (h7 : lenF l.length picks l.length ≤ 7) : Ev yX0_layThrough cX0_layThrough 4 none 2 [.ref 28, .ref 25, .int (zI (picks : Nat))] M (fun r M1 => none = r ∧ Sac M M1 ∧ CurIs M1 (layP (pkS l l.length picks l.length))) := by
  refine Ev.of (by decide +kernel) (Nat.le_of_ble_eq_true rfl) (fun Q hQ => ?_)
  have loop : ∀ (d q : Nat), d + q = l.length → ∀ M1 : Mem, Sac M M1 → CurIs M1 (layP (pkS l l.length picks q)) → G yX0_layThrough.cls cX0_layThrough 4 none (gE 2 Q) 7 [(0, .ref 28), (1, .ref 25), (2, .int (zI (picks : Nat))), (3, .int (zI q))] [] M1 := by
    intro d
    induction d with
    | zero =>
      intro q hq M1 hs hc
      have h0 := (hs.row hr).1
      refine g_iload_n rfl dX0_layThrough_7 ?_
      refine g_aload_n rfl dX0_layThrough_8 ?_
      refine gf_X0_22 (by decide) rfl dX0_layThrough_9 ?_
      rw [h0]
      refine g_icmp_ge (tgt := 53) dX0_layThrough_12 (by decide) (fun c12 => ?_) (fun c12 => ?_)
      · refine g_return rfl dX0_layThrough_53 ?_
        obtain rfl : q = l.length := by omega
        exact hQ _ _ ⟨rfl, hs, hc⟩
      · simp (disch := omega) only [i_le, zI_toInt] at c12
        omega
    | succ d ih =>
      intro q hq M1 hs hc
      have hr1 := hs.row hr
      have h0 := hr1.1
      have hlt : q < l.length := by omega
      have hg : l[q]? = some l[q] := List.getElem?_eq_getElem hlt
      obtain ⟨e1, e2⟩ := hr1.2 q _ hg
      obtain ⟨o1, o2, o3, o4⟩ := hok l[q] (List.getElem_mem hlt)
      have hpo := pkS_ok hok l.length picks q (by omega)
      have hgd : l.getD q (0, 0) = l[q] := by rw [List.getD_eq_getElem?_getD, hg]; rfl
      have ek : zI l.length - zI 1 - zI q = zI ((l.length - 1 - q : Nat) : Int) := by
        rw [zI_sub, zI_sub]
        congr 1
        omega
      have hp2 : ((picks : Nat) : Int) / 2 ^ (l.length - 1 - q) % 2 = ((picks / 2 ^ (l.length - 1 - q) % 2 : Nat) : Int) := by
        rw [Int.natCast_emod, Int.natCast_ediv]
        simp
      refine g_iload_n rfl dX0_layThrough_7 ?_
      refine g_aload_n rfl dX0_layThrough_8 ?_
      refine gf_X0_22 (by decide) rfl dX0_layThrough_9 ?_
      rw [h0]
      refine g_icmp_ge (tgt := 53) dX0_layThrough_12 (by decide) (fun c12 => ?_) (fun c12 => ?_)
      · simp (disch := omega) only [i_le, zI_toInt] at c12
        omega
      · refine g_iload_n rfl dX0_layThrough_15 ?_
        refine g_aload_n rfl dX0_layThrough_16 ?_
        refine gf_X0_22 (by decide) rfl dX0_layThrough_17 ?_
        rw [h0]
        refine g_iconst dX0_layThrough_20 ?_
        refine g_isub dX0_layThrough_21 ?_
        refine g_iload_n rfl dX0_layThrough_22 ?_
        refine g_isub dX0_layThrough_23 ?_
        rw [ek]
        refine gi_X0_25 (ev_X4_bit (a := (picks : Nat)) (k := l.length - 1 - q) (by omega) (by omega) (by omega) M1) rfl rfl ⟨Nat.le_of_ble_eq_true rfl, Nat.le_of_ble_eq_true rfl, Nat.le_of_ble_eq_true rfl, Nat.le_of_ble_eq_true rfl⟩ (Nat.le_of_ble_eq_true rfl) dX0_layThrough_24 (fun r24 M24 hq24 => ?_)
        obtain ⟨rfl, rfl⟩ := hq24
        rw [hp2]
        refine g_iconst dX0_layThrough_27 ?_
        refine g_icmp_ne (tgt := 47) dX0_layThrough_28 (by decide) (fun c28 => ?_) (fun c28 => ?_)
        · refine g_iinc (L2 := [(0, _), (1, _), (2, _), (3, _)]) rfl (by decide) rfl dX0_layThrough_47 ?_
          refine g_goto (tgt := 7) dX0_layThrough_50 (by decide) ?_
          rw [zI_eqz (by omega) (by omega) (by decide) (by decide)] at c28
          rw [zI_add]
          refine ih (q + 1) (by omega) M1 hs ?_
          rw [pkS, if_neg (by omega), List.append_nil]
          exact hc
        · refine g_aload_n rfl dX0_layThrough_31 ?_
          refine g_aload_n rfl dX0_layThrough_32 ?_
          refine gf_X0_29 (by decide) rfl rfl dX0_layThrough_33 ?_
          refine g_iload_n rfl dX0_layThrough_36 ?_
          refine g_iald (n := 9) (by decide) rfl rfl (zI_in (by omega) (by omega) (by decide)) dX0_layThrough_37 ?_
          rw [zI_clamp (by omega) (by omega), show ((q : Nat) : Int).toNat = q from rfl, e1]
          refine g_aload_n rfl dX0_layThrough_38 ?_
          refine gf_X0_32 (by decide) rfl rfl dX0_layThrough_39 ?_
          refine g_iload_n rfl dX0_layThrough_42 ?_
          refine g_iald (n := 9) (by decide) rfl rfl (zI_in (by omega) (by omega) (by decide)) dX0_layThrough_43 ?_
          rw [zI_clamp (by omega) (by omega), show ((q : Nat) : Int).toNat = q from rfl, e2]
          have h77 : (layP (pkS l l.length picks q)).length ≤ 6 := by
            have h3 : lenF l.length picks (q + 1) = lenF l.length picks q + 1 := by
              rw [zI_eqz (by omega) (by omega) (by decide) (by decide)] at c28
              rw [lenF, if_pos (by omega)]
            have h4 := lenF_mono l.length picks (l.length - (q + 1)) (q + 1)
            rw [show q + 1 + (l.length - (q + 1)) = l.length by omega] at h4
            rw [layP_len hpo, pkS_len]
            omega
          refine gi_X0_35 (by decide) rfl (ev_X0_bend (x := (l[q].1 : Nat)) (y := l[q].2) hc (layP_ok hpo) h77 (by omega) (by omega) o3 o4) rfl rfl ⟨Nat.le_of_ble_eq_true rfl, Nat.le_of_ble_eq_true rfl, Nat.le_of_ble_eq_true rfl, Nat.le_of_ble_eq_true rfl⟩ (Nat.le_of_ble_eq_true rfl) dX0_layThrough_44 (fun r44 M44 hq44 => ?_)
          obtain ⟨rfl, rfl⟩ := hq44
          refine g_iinc (L2 := [(0, _), (1, _), (2, _), (3, _)]) rfl (by decide) rfl dX0_layThrough_47 ?_
          refine g_goto (tgt := 7) dX0_layThrough_50 (by decide) ?_
          rw [zI_eqz (by omega) (by omega) (by decide) (by decide)] at c28
          rw [zI_add]
          refine ih (q + 1) (by omega) _ (hs.t (benM_sac _ _ _ _)) ?_
          rw [pkS, if_pos (by omega), hgd, layP_add]
          exact benM_is hc _ _
  refine g_aload_n rfl dX0_layThrough_0 ?_
  refine g_iconst dX0_layThrough_1 ?_
  refine gp_X0_18 (by decide) rfl dX0_layThrough_2 ?_
  refine g_iconst dX0_layThrough_5 ?_
  refine g_istore_n (L2 := [(0, _), (1, _), (2, _), (3, _)]) (by decide) rfl dX0_layThrough_6 ?_
  exact loop l.length 0 (by omega) _ (fun a ha => mset_other _ _ _ (by omega)) ⟨mset_same _ _ _ _, fun p x hx => by cases hx⟩
