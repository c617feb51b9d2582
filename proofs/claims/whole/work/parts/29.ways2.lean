/-! the reference: in how many ways, walked -/
def scn (n : Nat) : Nat → Nat × Nat
  | 0 => (0, 0)
  | d + 1 => if n / 2 ^ (9 - d) % 2 = 1 then (9 - d, (scn n d).1) else scn n d
set_option maxRecDepth 100000 in
theorem scn_1 : ∀ n, n < 1024 → 2 ≤ n → n % 2 = 0 → 1 ≤ (scn n 9).1 ∧ (scn n 9).1 ≤ 9 ∧ n / 2 ^ (scn n 9).1 % 2 = 1 := by decide +kernel
set_option maxRecDepth 100000 in
theorem scn_2 : ∀ n, n < 1024 → 2 ≤ n → n % 2 = 0 → ((scn n 9).2 = 0 ↔ popN n = 1) := by decide +kernel
set_option maxRecDepth 100000 in
theorem scn_3 : ∀ n, n < 1024 → 2 ≤ n → n % 2 = 0 → ¬ (scn n 9).2 = 0 → (scn n 9).1 < (scn n 9).2 ∧ (scn n 9).2 ≤ 9 ∧ n / 2 ^ (scn n 9).2 % 2 = 1 := by decide +kernel
set_option maxRecDepth 100000 in
theorem scn_4 : ∀ n, n < 1024 → 2 ≤ n → n % 2 = 0 → popN n = 1 → (List.range 9).all (fun i => !(n / 2 ^ (i + 1) % 2 == 1) || i + 1 == (scn n 9).1) = true := by decide +kernel
set_option maxRecDepth 100000 in
theorem scn_5 : ∀ n, n < 1024 → 2 ≤ n → n % 2 = 0 → popN n ≤ 2 → (List.range 9).all (fun i => !(n / 2 ^ (i + 1) % 2 == 1) || (i + 1 == (scn n 9).1 || i + 1 == (scn n 9).2)) = true := by decide +kernel
set_option maxRecDepth 100000 in
theorem scn_ex : ∀ n, n < 1024 → 2 ≤ n → n % 2 = 0 → (2 ≤ popN n → (List.range 9).any (fun i => n / 2 ^ (i + 1) % 2 == 1 && !(i + 1 == (scn n 9).1)) = true) ∧ (3 ≤ popN n → (List.range 9).any (fun i => n / 2 ^ (i + 1) % 2 == 1 && (!(i + 1 == (scn n 9).1) && !(i + 1 == (scn n 9).2))) = true) := by decide +kernel
theorem ev_pt {M : Mem} (hw : WX M) (hI : InvQ M) (ha : mi M 22 2 = 1) {j k : Nat} (hj : j < 10) (hk : k < xm M) : EvF yX5_pointOf cX5_pointOf 6 (some .int) 1 [.ref 31, .int (zI j), .int (zI k)] M (some (.int (zI (ptX M j k)))) M := by
  obtain ⟨v, -, -, h, e⟩ := ev_X5_pointOf hw hI ha (j := j) (k := k) hj (by have := hw.m; omega)
  rw [h hk] at e
  exact e
def wbX (M : Mem) (k : Nat) : Int := mi M 22 4 / 2 ^ k % 2
def wvX (M : Mem) (n k : Nat) (bit : Int) : Int := if mi M 22 5 = 2 ∧ popN n = 1 then 97 else if (popN n : Int) ≤ mi M 22 5 then 1 else if bit = wbX M k then 1 else 0
/-- a place of the set where the lots found don't fit -/
def faiB (M : Mem) (n k : Nat) (bit a b : Int) (i : Nat) : Bool := decide (n / 2 ^ (i + 1) % 2 = 1) && !decide ((bit + a * ((i + 1 : Nat) : Int) + b * ((i + 1 : Nat) : Int) % 97 * ((i + 1 : Nat) : Int)) % 97 = ptX M (i + 1) k)
theorem sml {x y : Int} (h1 : 0 ≤ x) (h2 : x < 97) (h3 : 0 ≤ y) (h4 : y < 10) : 0 ≤ x * y ∧ x * y < 20000 := mul_bd h1 h2 h3 (by omega)
theorem ev_waysL {M : Mem} (hw : WX M) (hI : InvQ M) (ha : mi M 22 2 = 1) {n k : Nat} (hn : n < 1024) (hk : k < xm M) {bit a b : Int} (hb1 : 0 ≤ bit) (hb2 : bit ≤ 1) (ha1 : 0 ≤ a) (ha2 : a < 97) (hbb1 : 0 ≤ b) (hbb2 : b < 97) {Q : Option Value → Mem → Prop} {o t : Int} (hQ : Q (some (.int (zI (if exB (faiB M n k bit a b) 9 = true then 0 else 1)))) M) :
    G yX5_waysOf.cls cX5_waysOf 9 (some .int) (gE 2 Q) 145 [(0, .ref 31), (1, .int (zI n)), (2, .int (zI k)), (3, .int (zI bit)), (4, .int (zI o)), (5, .int (zI t)), (6, .int (zI a)), (7, .int (zI b))] [] M := by
  have hx3 := hw.m
  have loop : ∀ (d q : Nat), d + q = 9 → (∀ i, i < q → faiB M n k bit a b i = false) → G yX5_waysOf.cls cX5_waysOf 9 (some .int) (gE 2 Q) 148 [(0, .ref 31), (1, .int (zI n)), (2, .int (zI k)), (3, .int (zI bit)), (4, .int (zI o)), (5, .int (zI t)), (6, .int (zI a)), (7, .int (zI b)), (8, .int (zI ((q + 1 : Nat) : Int)))] [] M := by
    intro d
    induction d with
    | zero =>
      intro q hq hf
      refine g_iload rfl dX5_waysOf_148 ?_
      refine g_bipush (by decide) dX5_waysOf_150 ?_
      refine g_icmp_gt (tgt := 205) dX5_waysOf_152 (by decide) (fun c152 => ?_) (fun c152 => ?_)
      · refine g_iconst dX5_waysOf_205 ?_
        refine g_ireturn rfl dX5_waysOf_206 ?_
        obtain rfl : q = 9 := by omega
        rw [if_neg (by rw [exB_f _ hf]; decide)] at hQ
        exact hQ
      · simp (disch := omega) only [i_lt, zI_toInt] at c152
        omega
    | succ d ih =>
      intro q hq hf
      have h4 : 0 ≤ (n : Int) / 2 ^ (q + 1) := Int.ediv_nonneg (by omega) (by exact Int.le_of_lt (Int.pow_pos (by decide)))
      have h5 : (n : Int) / 2 ^ (q + 1) ≤ n := Int.ediv_le_self _ (by omega)
      have hn2 : (n : Int) / 2 ^ (q + 1) % 2 = ((n / 2 ^ (q + 1) % 2 : Nat) : Int) := by
        rw [Int.natCast_emod, Int.natCast_ediv]
        simp
      have g1 := sml ha1 ha2 (y := ((q + 1 : Nat) : Int)) (by omega) (by omega)
      have g2 := sml hbb1 hbb2 (y := ((q + 1 : Nat) : Int)) (by omega) (by omega)
      have g3 := md_bd (b * ((q + 1 : Nat) : Int))
      have g4 := sml g3.1 g3.2 (y := ((q + 1 : Nat) : Int)) (by omega) (by omega)
      have hpt := pntS_bd (mi M 22 4) (mi M 22 5) (mi M 23) (q + 1) k
      have hpe : pntS (mi M 22 4) (mi M 22 5) (mi M 23) (q + 1) k = ptX M (q + 1) k := rfl
      rw [hpe] at hpt
      have nx : faiB M n k bit a b q = false → G yX5_waysOf.cls cX5_waysOf 9 (some .int) (gE 2 Q) 148 [(0, .ref 31), (1, .int (zI n)), (2, .int (zI k)), (3, .int (zI bit)), (4, .int (zI o)), (5, .int (zI t)), (6, .int (zI a)), (7, .int (zI b)), (8, .int (zI ((q + 1 + 1 : Nat) : Int)))] [] M := fun h => ih (q + 1) (by omega) (fun i hi => by
        by_cases e : i = q
        · rw [e]; exact h
        · exact hf i (by omega))
      refine g_iload rfl dX5_waysOf_148 ?_
      refine g_bipush (by decide) dX5_waysOf_150 ?_
      refine g_icmp_gt (tgt := 205) dX5_waysOf_152 (by decide) (fun c152 => ?_) (fun c152 => ?_)
      · simp (disch := omega) only [i_lt, zI_toInt] at c152
        omega
      · refine g_iload_n rfl dX5_waysOf_155 ?_
        refine g_iload rfl dX5_waysOf_156 ?_
        refine g_ishr dX5_waysOf_158 ?_
        refine g_iconst dX5_waysOf_159 ?_
        refine g_iand dX5_waysOf_160 ?_
        rw [zI_shr (by omega) (by omega) (by omega), zI_and1 h4 (by omega), hn2]
        refine g_iconst dX5_waysOf_161 ?_
        refine g_icmp_ne (tgt := 199) dX5_waysOf_162 (by decide) (fun c162 => ?_) (fun c162 => ?_)
        · refine g_iinc (L2 := [(0, _), (1, _), (2, _), (3, _), (4, _), (5, _), (6, _), (7, _), (8, _)]) rfl (by decide) rfl dX5_waysOf_199 ?_
          refine g_goto (tgt := 148) dX5_waysOf_202 (by decide) ?_
          rw [zI_eqz (by omega) (by omega) (by decide) (by decide)] at c162
          rw [zI_add]
          exact nx (by rw [faiB, decide_eq_false (by omega), Bool.false_and])
        · refine g_iload_n rfl dX5_waysOf_165 ?_
          refine g_iload rfl dX5_waysOf_166 ?_
          refine g_iload rfl dX5_waysOf_168 ?_
          refine g_imul dX5_waysOf_170 ?_
          refine g_iadd dX5_waysOf_171 ?_
          refine g_iload rfl dX5_waysOf_172 ?_
          refine g_iload rfl dX5_waysOf_174 ?_
          refine g_imul dX5_waysOf_176 ?_
          rw [zI_mul]
          refine gi_X5_67 (ev_X5_mod (z := b * ((q + 1 : Nat) : Int)) (by omega) (by omega) M) rfl rfl ⟨Nat.le_of_ble_eq_true rfl, Nat.le_of_ble_eq_true rfl, Nat.le_of_ble_eq_true rfl, Nat.le_of_ble_eq_true rfl⟩ (Nat.le_of_ble_eq_true rfl) dX5_waysOf_177 (fun r177 M177 hq177 => ?_)
          obtain ⟨rfl, rfl⟩ := hq177
          refine g_iload rfl dX5_waysOf_180 ?_
          refine g_imul dX5_waysOf_182 ?_
          refine g_iadd dX5_waysOf_183 ?_
          rw [zI_mul, zI_mul, zI_add, zI_add]
          refine gi_X5_67 (ev_X5_mod (z := bit + a * ((q + 1 : Nat) : Int) + b * ((q + 1 : Nat) : Int) % 97 * ((q + 1 : Nat) : Int)) (by omega) (by omega) M) rfl rfl ⟨Nat.le_of_ble_eq_true rfl, Nat.le_of_ble_eq_true rfl, Nat.le_of_ble_eq_true rfl, Nat.le_of_ble_eq_true rfl⟩ (Nat.le_of_ble_eq_true rfl) dX5_waysOf_184 (fun r184 M184 hq184 => ?_)
          obtain ⟨rfl, rfl⟩ := hq184
          refine g_aload_n rfl dX5_waysOf_187 ?_
          refine g_iload rfl dX5_waysOf_188 ?_
          refine g_iload_n rfl dX5_waysOf_190 ?_
          refine gi_X5_74 (by decide) rfl (ev_pt hw hI ha (j := q + 1) (k := k) (by omega) hk) rfl rfl ⟨Nat.le_of_ble_eq_true rfl, Nat.le_of_ble_eq_true rfl, Nat.le_of_ble_eq_true rfl, Nat.le_of_ble_eq_true rfl⟩ (Nat.le_of_ble_eq_true rfl) dX5_waysOf_191 (fun r191 M191 hq191 => ?_)
          obtain ⟨rfl, rfl⟩ := hq191
          refine g_icmp_eq (tgt := 199) dX5_waysOf_194 (by decide) (fun c194 => ?_) (fun c194 => ?_)
          · refine g_iinc (L2 := [(0, _), (1, _), (2, _), (3, _), (4, _), (5, _), (6, _), (7, _), (8, _)]) rfl (by decide) rfl dX5_waysOf_199 ?_
            refine g_goto (tgt := 148) dX5_waysOf_202 (by decide) ?_
            rw [zI_eqz (by omega) (by omega) (by omega) (by omega)] at c194
            rw [zI_add]
            exact nx (by rw [faiB, decide_eq_true c194, Bool.not_true, Bool.and_false])
          · refine g_iconst dX5_waysOf_197 ?_
            refine g_ireturn rfl dX5_waysOf_198 ?_
            rw [zI_eqz (by omega) (by omega) (by decide) (by decide)] at c162
            rw [zI_eqz (by omega) (by omega) (by omega) (by omega)] at c194
            have hfq : faiB M n k bit a b q = true := by rw [faiB, decide_eq_true (by omega), decide_eq_false c194]; rfl
            rw [if_pos (exB_t hfq 9 (by omega))] at hQ
            exact hQ
  refine g_iconst dX5_waysOf_145 ?_
  refine g_istore (L2 := [(0, _), (1, _), (2, _), (3, _), (4, _), (5, _), (6, _), (7, _), (8, _)]) (by decide) rfl dX5_waysOf_146 ?_
  exact loop 9 0 (by omega) (fun i hi => absurd hi (by omega))
theorem nz_sm {x : Int} (h : x ≠ 0) (h1 : -97 < x) (h2 : x < 97) : ¬ cgr x 0 := by
  unfold cgr
  omega
theorem chk1 {M : Mem} (hw : WX M) (hT : mi M 22 5 = 1) {o j k : Nat} (ho1 : 1 ≤ o) (ho2 : o ≤ 9) (hj1 : 1 ≤ j) (hj2 : j ≤ 9) {bit : Int} (hb1 : 0 ≤ bit) (hb2 : bit ≤ 1) : (bit + (ptX M o k - bit) * (ivS o : Nat) % 97 * (j : Nat) + 0 * (j : Nat) % 97 * (j : Nat)) % 97 = ptX M j k ↔ (bit = wbX M k ∨ j = o) := by
  have hwb : 0 ≤ wbX M k ∧ wbX M k < 2 := ⟨Int.emod_nonneg _ (by decide), Int.emod_lt_of_pos _ (by decide)⟩
  have hiv := iv_all o (by omega) ho1
  have hp : ∀ j : Nat, ptX M j k = (wbX M k + mi M 23 (k * 1) * (j : Int)) % 97 := by
    intro j
    unfold ptX pntS wbX
    rw [hT]
    simp [polS, Int.pow_succ]
  have h := way1 (o := o) (j := j) (bit := bit) (wb := wbX M k) (l0 := mi M 23 (k * 1)) (iv := (ivS o : Nat)) (a := (ptX M o k - bit) * (ivS o : Nat) % 97) (P := ptX M o k) (by unfold cgr; omega) (cg_m _) (by rw [hp o]; exact cg_m _)
  have hno : ¬ cgr (o : Int) 0 := nz_sm (by omega) (by omega) (by omega)
  rw [hp j, Int.zero_mul, Int.zero_emod, Int.zero_mul, Int.add_zero]
  refine ⟨fun e => ?_, fun e => ?_⟩
  · have h2 : cgr ((wbX M k - bit) * ((j : Int) - o)) 0 := by
      have h3 := cg_t (cg_s h) (cg_mul_l (o : Int) (show cgr _ _ from e))
      unfold cgr at h3 ⊢
      omega
    rcases cg_prime h2 with h4 | h4
    · refine Or.inl (Classical.byContradiction fun q => nz_sm (x := wbX M k - bit) (by omega) (by omega) (by omega) h4)
    · refine Or.inr (Classical.byContradiction fun q => nz_sm (x := (j : Int) - o) (by omega) (by omega) (by omega) h4)
  · refine cg_cancel hno (cg_t h ?_)
    have h0 : (wbX M k - bit) * ((j : Int) - o) = 0 := by
      rcases e with e | e
      · rw [e, Int.sub_self, Int.zero_mul]
      · rw [e, Int.sub_self, Int.mul_zero]
    rw [h0, Int.add_zero]
    exact cg_r _
theorem chk2 {M : Mem} (hw : WX M) (hT : mi M 22 5 = 2) {o t j k : Nat} (ho1 : 1 ≤ o) (hot : o < t) (ht2 : t ≤ 9) (hj1 : 1 ≤ j) (hj2 : j ≤ 9) {bit a b a' ot : Int} (hb1 : 0 ≤ bit) (hb2 : bit ≤ 1) (ha' : a' = (ptX M o k - bit) * (ivS o : Nat) % 97) (hoe : ot = (ptX M t k - bit) * (ivS t : Nat) % 97) (hbe : b = (a' - ot) % 97 * (ivS (((o : Int) - t) % 97).toNat : Nat) % 97) (hae : a = (a' - b * o) % 97) : (bit + a * (j : Nat) + b * (j : Nat) % 97 * (j : Nat)) % 97 = ptX M j k ↔ (bit = wbX M k ∨ j = o ∨ j = t) := by
  have hwb : 0 ≤ wbX M k ∧ wbX M k < 2 := ⟨Int.emod_nonneg _ (by decide), Int.emod_lt_of_pos _ (by decide)⟩
  have hiv := iv_all o (by omega) ho1
  have hiv2 := iv_all t (by omega) (by omega)
  have hu : (((o : Int) - t) % 97).toNat < 97 ∧ 1 ≤ (((o : Int) - t) % 97).toNat := by omega
  have hiv3 := iv_all _ hu.1 hu.2
  have hp : ∀ j : Nat, cgr (ptX M j k) (wbX M k + mi M 23 (k * 2) * (j : Int) + mi M 23 (k * 2 + 1) * ((j : Int) * j)) := by
    intro j
    unfold ptX pntS wbX
    rw [hT]
    have e : polS (fun e => mi M 23 (k * (2 : Int).toNat + e)) j (2 : Int).toNat = mi M 23 (k * 2) * (j : Int) + mi M 23 (k * 2 + 1) * ((j : Int) * j) := by
      show 0 + mi M 23 (k * 2 + 0) * (j : Int) ^ 1 + mi M 23 (k * 2 + 1) * (j : Int) ^ 2 = _
      grind
    rw [e, ← Int.add_assoc]
    exact cg_m _
  have h3 : cgr ((ivS (((o : Int) - t) % 97).toNat : Nat) * ((o : Int) - t)) 1 := by
    refine cg_t (cg_x (cg_r _) (cg_s (cg_m ((o : Int) - t)))) ?_
    have e : ((((o : Int) - t) % 97).toNat : Int) = ((o : Int) - t) % 97 := by omega
    have h5 := hiv3.2.2
    generalize (((o : Int) - t) % 97).toNat = X at e h5 ⊢
    rw [← e]
    unfold cgr
    omega
  have h := way2 (o := o) (t := t) (j := j) (bit := bit) (wb := wbX M k) (l0 := mi M 23 (k * 2)) (l1 := mi M 23 (k * 2 + 1)) (i1 := (ivS o : Nat)) (i2 := (ivS t : Nat)) (i3 := (ivS (((o : Int) - t) % 97).toNat : Nat)) (a := a) (a' := a') (ot := ot) (b := b) (P1 := ptX M o k) (P2 := ptX M t k) (by unfold cgr; omega) (by unfold cgr; omega) h3 (by rw [ha']; exact cg_m _) (by rw [hoe]; exact cg_m _) (by rw [hbe]; exact cg_t (cg_m _) (cg_x (cg_m _) (cg_r _))) (by rw [hae]; exact cg_m _) (hp o) (hp t)
  have hn1 : ¬ cgr ((o : Int) - t) 0 := nz_sm (by omega) (by omega) (by omega)
  have hn2 : ¬ cgr (o : Int) 0 := nz_sm (by omega) (by omega) (by omega)
  have hn3 : ¬ cgr (t : Int) 0 := nz_sm (by omega) (by omega) (by omega)
  have hno : ¬ cgr (((o : Int) - t) * ((o : Int) * t)) 0 := fun q => by
    rcases cg_prime q with q | q
    · exact hn1 q
    · rcases cg_prime q with q | q
      · exact hn2 q
      · exact hn3 q
  have hl : cgr (bit + a * (j : Nat) + b * (j : Nat) % 97 * (j : Nat)) (bit + a * (j : Nat) + b * (j : Nat) * (j : Nat)) := cg_a (cg_r _) (cg_x (cg_m _) (cg_r _))
  have hpj := hp j
  have hpm : ptX M j k % 97 = ptX M j k := Int.emod_emod_of_dvd _ (Int.dvd_refl 97)
  refine ⟨fun e => ?_, fun e => ?_⟩
  · have e1 : cgr (bit + a * (j : Nat) + b * (j : Nat) * (j : Nat)) (wbX M k + mi M 23 (k * 2) * (j : Int) + mi M 23 (k * 2 + 1) * ((j : Int) * j)) := cg_t (cg_s hl) (cg_t (show cgr _ _ by unfold cgr; rw [e, hpm]) hpj)
    have h2 : cgr (((o : Int) - t) * ((wbX M k - bit) * (((j : Int) - o) * ((j : Int) - t)))) 0 := by
      have h4 := cg_t (cg_s h) (cg_mul_l (((o : Int) - t) * ((o : Int) * t)) e1)
      unfold cgr at h4 ⊢
      omega
    rcases cg_prime h2 with h4 | h4
    · exact absurd h4 hn1
    · rcases cg_prime h4 with h5 | h5
      · refine Or.inl (Classical.byContradiction fun q => nz_sm (x := wbX M k - bit) (by omega) (by omega) (by omega) h5)
      · rcases cg_prime h5 with h6 | h6
        · refine Or.inr (Or.inl (Classical.byContradiction fun q => nz_sm (x := (j : Int) - o) (by omega) (by omega) (by omega) h6))
        · refine Or.inr (Or.inr (Classical.byContradiction fun q => nz_sm (x := (j : Int) - t) (by omega) (by omega) (by omega) h6))
  · have h0 : ((o : Int) - t) * ((wbX M k - bit) * (((j : Int) - o) * ((j : Int) - t))) = 0 := by
      rcases e with e | e | e
      · rw [e, Int.sub_self, Int.zero_mul, Int.mul_zero]
      · rw [e, Int.sub_self, Int.zero_mul, Int.mul_zero, Int.mul_zero]
      · rw [e, Int.sub_self, Int.mul_zero, Int.mul_zero, Int.mul_zero]
    rw [h0, Int.sub_zero] at h
    have e1 := cg_cancel hno h
    rw [← hpm]
    exact cg_t hl (cg_t e1 (cg_s hpj))
theorem exv1 {M : Mem} (hw : WX M) (hT : mi M 22 5 = 1) {n k : Nat} (hn : n < 1024) (hn2 : 2 ≤ n) (he : n % 2 = 0) {bit : Int} (hb1 : 0 ≤ bit) (hb2 : bit ≤ 1) : (if exB (faiB M n k bit ((ptX M (scn n 9).1 k - bit) * (ivS (scn n 9).1 : Nat) % 97) 0) 9 = true then 0 else 1 : Int) = wvX M n k bit := by
  obtain ⟨o1, o2, o3⟩ := scn_1 n hn hn2 he
  have hpp := pop_pos n hn hn2
  have hfi : ∀ i, i < 9 → (faiB M n k bit ((ptX M (scn n 9).1 k - bit) * (ivS (scn n 9).1 : Nat) % 97) 0 i = true ↔ n / 2 ^ (i + 1) % 2 = 1 ∧ ¬ (bit = wbX M k ∨ i + 1 = (scn n 9).1)) := by
    intro i hi
    have h := chk1 hw hT (o := (scn n 9).1) (j := i + 1) (k := k) o1 o2 (by omega) (by omega) hb1 hb2
    unfold faiB
    rw [Bool.and_eq_true, decide_eq_true_eq, Bool.not_eq_true', decide_eq_false_iff_not, h]
  have e : wvX M n k bit = if (popN n : Int) ≤ 1 then 1 else if bit = wbX M k then 1 else 0 := by
    unfold wvX
    rw [if_neg (by omega), hT]
  rw [e]
  by_cases hp1 : popN n = 1
  · have r1 : (popN n : Int) ≤ 1 := by omega
    rw [if_pos r1, exB_f 9 (fun i hi => ?_), if_neg (by decide)]
    · rw [← Bool.not_eq_true, hfi i hi]
      intro q
      have := List.all_eq_true.mp (scn_4 n hn hn2 he hp1) i (List.mem_range.mpr hi)
      simp at this
      exact q.2 (Or.inr (this.resolve_left (by have := q.1; omega)))
  · have r1 : ¬ (popN n : Int) ≤ 1 := by omega
    rw [if_neg r1]
    by_cases hbw : bit = wbX M k
    · rw [if_pos hbw, exB_f 9 (fun i hi => ?_), if_neg (by decide)]
      · rw [← Bool.not_eq_true, hfi i hi]
        exact fun q => q.2 (Or.inl hbw)
    · rw [if_neg hbw]
      obtain ⟨i, hi, hq⟩ := List.any_eq_true.mp ((scn_ex n hn hn2 he).1 (by omega))
      have hi := List.mem_range.mp hi
      simp at hq
      rw [if_pos (exB_t ((hfi i hi).mpr ⟨hq.1, fun z => z.elim hbw hq.2⟩) 9 hi)]
theorem exv2 {M : Mem} (hw : WX M) (hT : mi M 22 5 = 2) {n k : Nat} (hn : n < 1024) (hn2 : 2 ≤ n) (he : n % 2 = 0) (htz : ¬ (scn n 9).2 = 0) {bit a b a' ot : Int} (hb1 : 0 ≤ bit) (hb2 : bit ≤ 1) (ha' : a' = (ptX M (scn n 9).1 k - bit) * (ivS (scn n 9).1 : Nat) % 97) (hoe : ot = (ptX M (scn n 9).2 k - bit) * (ivS (scn n 9).2 : Nat) % 97) (hbe : b = (a' - ot) % 97 * (ivS ((((scn n 9).1 : Int) - (scn n 9).2) % 97).toNat : Nat) % 97) (hae : a = (a' - b * (scn n 9).1) % 97) : (if exB (faiB M n k bit a b) 9 = true then 0 else 1 : Int) = wvX M n k bit := by
  obtain ⟨o1, o2, o3⟩ := scn_1 n hn hn2 he
  obtain ⟨t1, t2, t3⟩ := scn_3 n hn hn2 he htz
  have hp1 : ¬ popN n = 1 := fun q => htz ((scn_2 n hn hn2 he).mpr q)
  have hpp := pop_pos n hn hn2
  have hfi : ∀ i, i < 9 → (faiB M n k bit a b i = true ↔ n / 2 ^ (i + 1) % 2 = 1 ∧ ¬ (bit = wbX M k ∨ i + 1 = (scn n 9).1 ∨ i + 1 = (scn n 9).2)) := by
    intro i hi
    have h := chk2 hw hT (o := (scn n 9).1) (t := (scn n 9).2) (j := i + 1) (k := k) o1 t1 t2 (by omega) (by omega) hb1 hb2 ha' hoe hbe hae
    unfold faiB
    rw [Bool.and_eq_true, decide_eq_true_eq, Bool.not_eq_true', decide_eq_false_iff_not, h]
  have e : wvX M n k bit = if (popN n : Int) ≤ 2 then 1 else if bit = wbX M k then 1 else 0 := by
    unfold wvX
    rw [if_neg (by omega), hT]
  rw [e]
  by_cases hp2 : popN n ≤ 2
  · have r1 : (popN n : Int) ≤ 2 := by omega
    rw [if_pos r1, exB_f 9 (fun i hi => ?_), if_neg (by decide)]
    · rw [← Bool.not_eq_true, hfi i hi]
      intro q
      have := List.all_eq_true.mp (scn_5 n hn hn2 he hp2) i (List.mem_range.mpr hi)
      simp at this
      exact q.2 (Or.inr (this.resolve_left (by have := q.1; omega)))
  · have r1 : ¬ (popN n : Int) ≤ 2 := by omega
    rw [if_neg r1]
    by_cases hbw : bit = wbX M k
    · rw [if_pos hbw, exB_f 9 (fun i hi => ?_), if_neg (by decide)]
      · rw [← Bool.not_eq_true, hfi i hi]
        exact fun q => q.2 (Or.inl hbw)
    · rw [if_neg hbw]
      obtain ⟨i, hi, hq⟩ := List.any_eq_true.mp ((scn_ex n hn hn2 he).2 (by omega))
      have hi := List.mem_range.mp hi
      simp at hq
      rw [if_pos (exB_t ((hfi i hi).mpr ⟨hq.1, fun z => z.elim hbw (fun z => z.elim hq.2.1 hq.2.2)⟩) 9 hi)]
