/-! the law's loop, its start, the claim (from lw_walk on: out of the kit's skeleton) -/
theorem law_loop {bb L : Nat} {xs : Nat → Int32} (hL : L ≤ 2560) : ∀ (n i : Nat) (M : Mem), L < i + n → i ≤ L → Inv M → G RL code 4 ret (EL bb L xs) 18 [(0, .ref 43), (1, .ref 0), (2, .ref 31), (3, .int (zI i))] [] M
  | 0, i, M, h1, h2, _ => absurd h2 (by omega)
  | n + 1, i, M, h1, h2, hI => by
    refine g_iload_n rfl dL_law_18 ?_
    refine g_aload_n rfl dL_law_19 ?_
    refine gl_slen dL_law_20 ?_
    refine g_iconst dL_law_21 ?_
    refine g_isub dL_law_22 ?_
    rw [zI_sub]
    refine g_icmp_gt (tgt := 856) dL_law_23 (by decide) (fun c => ?_) (fun c => ?_)
    · refine g_iconst dL_law_856 ?_
      exact gl_ret dL_law_857
    · have hi : i + 5 ≤ L := by
        rw [i_lt, zI_toInt (by omega) (by omega), zI_toInt (by omega) (by omega)] at c
        omega
      have back : ∀ M2, Inv M2 → G RL code 4 ret (EL bb L xs) 850 [(0, .ref 43), (1, .ref 0), (2, .ref 31), (3, .int (zI i))] [] M2 := by
        intro M2 hI2
        have k9 := law_loop (bb := bb) (xs := xs) hL n (i + 5) M2 (by omega) hi hI2
        have e : zI ((i + 5 : Nat) : Int) = zI i + zI 5 := by
          rw [zI_add]
          rfl
        rw [e] at k9
        refine g_iinc (L2 := [(0, .ref 43), (1, .ref 0), (2, .ref 31), (3, .int (zI i + zI 5))]) rfl (by decide) rfl dL_law_850 ?_
        exact g_goto (tgt := 18) dL_law_853 (by decide) k9
      refine g_aload_n rfl dL_law_26 ?_
      refine g_iload_n rfl dL_law_27 ?_
      refine gl_sld (zI_in (by omega) (by omega) (by omega)) dL_law_28 ?_
      refine g_bipush (by decide) dL_law_29 ?_
      refine g_iand dL_law_31 ?_
      obtain ⟨x, hx⟩ : ∃ x : Int32, x = xs (zI i).toNatClampNeg &&& zI 31 := ⟨_, rfl⟩
      rw [← hx]
      by_cases ho : x.toInt < 0 ∨ 22 < x.toInt
      · exact g_tableOut (tgt := 850) dL_law_32 ho (by decide) (back M hI)
      · rcases (show x.toInt = 0 ∨ x.toInt = 1 ∨ x.toInt = 2 ∨ x.toInt = 3 ∨ x.toInt = 4 ∨ x.toInt = 5 ∨ x.toInt = 6 ∨ x.toInt = 7 ∨ x.toInt = 8 ∨ x.toInt = 9 ∨ x.toInt = 10 ∨ x.toInt = 11 ∨ x.toInt = 12 ∨ x.toInt = 13 ∨ x.toInt = 14 ∨ x.toInt = 15 ∨ x.toInt = 16 ∨ x.toInt = 17 ∨ x.toInt = 18 ∨ x.toInt = 19 ∨ x.toInt = 20 ∨ x.toInt = 21 ∨ x.toInt = 22 by omega) with h | h | h | h | h | h | h | h | h | h | h | h | h | h | h | h | h | h | h | h | h | h | h
        · exact g_tableIn (off := 108) (tgt := 140) dL_law_32 (by omega) (by omega) (by rw [h]; rfl) (by decide) (law_c0 hL hi hI back)
        · exact g_tableIn (off := 131) (tgt := 163) dL_law_32 (by omega) (by omega) (by rw [h]; rfl) (by decide) (law_c1 hL hi hI back)
        · exact g_tableIn (off := 164) (tgt := 196) dL_law_32 (by omega) (by omega) (by rw [h]; rfl) (by decide) (law_c2 hL hi hI back)
        · exact g_tableIn (off := 187) (tgt := 219) dL_law_32 (by omega) (by omega) (by rw [h]; rfl) (by decide) (law_c3 hL hi hI back)
        · exact g_tableIn (off := 230) (tgt := 262) dL_law_32 (by omega) (by omega) (by rw [h]; rfl) (by decide) (law_c4 hL hi hI back)
        · exact g_tableIn (off := 273) (tgt := 305) dL_law_32 (by omega) (by omega) (by rw [h]; rfl) (by decide) (law_c5 hL hi hI back)
        · exact g_tableIn (off := 306) (tgt := 338) dL_law_32 (by omega) (by omega) (by rw [h]; rfl) (by decide) (law_c6 hL hi hI back)
        · exact g_tableIn (off := 349) (tgt := 381) dL_law_32 (by omega) (by omega) (by rw [h]; rfl) (by decide) (law_c7 hL hi hI back)
        · exact g_tableIn (off := 392) (tgt := 424) dL_law_32 (by omega) (by omega) (by rw [h]; rfl) (by decide) (law_c8 hL hi hI back)
        · exact g_tableIn (off := 415) (tgt := 447) dL_law_32 (by omega) (by omega) (by rw [h]; rfl) (by decide) (law_c9 hL hi hI back)
        · exact g_tableIn (off := 448) (tgt := 480) dL_law_32 (by omega) (by omega) (by rw [h]; rfl) (by decide) (law_c10 hL hi hI back)
        · exact g_tableIn (off := 471) (tgt := 503) dL_law_32 (by omega) (by omega) (by rw [h]; rfl) (by decide) (law_c11 hL hi hI back)
        · exact g_tableIn (off := 514) (tgt := 546) dL_law_32 (by omega) (by omega) (by rw [h]; rfl) (by decide) (law_c12 hL hi hI back)
        · exact g_tableIn (off := 537) (tgt := 569) dL_law_32 (by omega) (by omega) (by rw [h]; rfl) (by decide) (law_c13 hL hi hI back)
        · exact g_tableIn (off := 560) (tgt := 592) dL_law_32 (by omega) (by omega) (by rw [h]; rfl) (by decide) (law_c14 hL hi hI back)
        · exact g_tableIn (off := 583) (tgt := 615) dL_law_32 (by omega) (by omega) (by rw [h]; rfl) (by decide) (law_c15 hL hi hI back)
        · exact g_tableIn (off := 617) (tgt := 649) dL_law_32 (by omega) (by omega) (by rw [h]; rfl) (by decide) (law_c16 hL hi hI back)
        · exact g_tableIn (off := 640) (tgt := 672) dL_law_32 (by omega) (by omega) (by rw [h]; rfl) (by decide) (law_c17 hL hi hI back)
        · exact g_tableIn (off := 663) (tgt := 695) dL_law_32 (by omega) (by omega) (by rw [h]; rfl) (by decide) (law_c18 hL hi hI back)
        · exact g_tableIn (off := 676) (tgt := 708) dL_law_32 (by omega) (by omega) (by rw [h]; rfl) (by decide) (law_c19 hL hi hI back)
        · exact g_tableIn (off := 709) (tgt := 741) dL_law_32 (by omega) (by omega) (by rw [h]; rfl) (by decide) (law_c20 hL hi hI back)
        · exact g_tableIn (off := 742) (tgt := 774) dL_law_32 (by omega) (by omega) (by rw [h]; rfl) (by decide) (law_c21 hL hi hI back)
        · exact g_tableIn (off := 795) (tgt := 827) dL_law_32 (by omega) (by omega) (by rw [h]; rfl) (by decide) (law_c22 hL hi hI back)
set_option maxHeartbeats 4000000 in
set_option maxRecDepth 100000 in
/-- THE LAW, from its entry -/
theorem whole_start {p : Program} {e : Env} {s : State} {m : MethodId} {below : List Frame} {meth : Method} {c : Code} (l : Launch) (hflags : l.flags = flags0) {b L : Nat} {xs : Nat → Int32} (hL : L ≤ 2560) (C0 : lw_At p s m meth c b L xs) : W p l e room_1 s m #[Value.ref b] below meth c s.heap [] 0 0 (lw_Z below #[Value.ref b] s) (entryFrame m ([Value.ref b] : List Value).toArray 4) := by
  obtain ⟨hx, hb, hr, hml, hown, hts, hX, hbl, hlocks, hgv⟩ := id C0
  have htb : ∀ w ∈ tb, w.before #[Value.ref b] s = true := fun w hw => hts w (List.mem_filter.mp hw).1
  have hnw : ∀ w ∈ nwl, va_Nw w s := by
    intro w hw
    have h1 := hts w (List.mem_filter.mp hw).1
    have h2 := (List.mem_filter.mp hw).2
    cases w <;> first | exact va_Nw.of rfl h1 | exact absurd h2 (by simp [nestW])
  have hAO : va_AO "SilentAsking$Store" s := va_AO.of (hts _ (List.mem_of_getElem? (i := 67) (by decide +kernel)))
  have hN : ∀ a : Nat, a < s.heap.size → ¬ (fun q : Nat => s.heap.size ≤ q) a := fun a h => Nat.not_le.mpr h
  -- the static array
  have hs := flat_of_before _ hgv
  obtain ⟨t, ht, hT⟩ := va_Tof (args := #[Value.ref b]) (s := s) (tm := .static "SilentAsking" "INVERSE" "[I") (ty := .int) (N := 9) (f := fun j => .int (invL.getD j 0)) (A := fun q : Nat => s.heap.size ≤ q) (by decide) (hs _ (by decide +kernel)) (va_eqt (z := 9) (hs _ (by decide +kernel))) (fun j hj => by
    match j, hj with
    | 0, _ => exact va_eqt (z := 0) (hs _ (by decide +kernel))
    | 1, _ => exact va_eqt (z := 1) (hs _ (by decide +kernel))
    | 2, _ => exact va_eqt (z := 49) (hs _ (by decide +kernel))
    | 3, _ => exact va_eqt (z := 65) (hs _ (by decide +kernel))
    | 4, _ => exact va_eqt (z := 73) (hs _ (by decide +kernel))
    | 5, _ => exact va_eqt (z := 39) (hs _ (by decide +kernel))
    | 6, _ => exact va_eqt (z := 81) (hs _ (by decide +kernel))
    | 7, _ => exact va_eqt (z := 14) (hs _ (by decide +kernel))
    | 8, _ => exact va_eqt (z := 85) (hs _ (by decide +kernel))
    | j + 9, h => exact absurd h (by omega)) hN
  have hZ : va_Z "SilentAsking" "INVERSE" "[I" (.ref t) (fun q : Nat => s.heap.size ≤ q) s s.heap := va_Zref (hts _ (List.mem_of_getElem? (i := 374) (by decide +kernel))) (htb _ (tb_w 50 (by decide +kernel) rfl)) ht hN
  -- classes
  obtain ⟨cI, hI1, hI2⟩ := ak_int (htb _ (tb_w 102 (by decide +kernel) rfl))
  obtain ⟨cZ, hZ1, hZ2⟩ := ak_bool (htb _ (tb_w 526 (by decide +kernel) rfl))
  obtain ⟨cS, hS1, hS2⟩ := ak_obj hAO
  obtain ⟨c0, i0, g0⟩ := u_known htb inX0 (htb _ ww_X0)
  obtain ⟨c1, i1, g1⟩ := u_known htb inX1 (htb _ ww_X1)
  obtain ⟨c2, i2, g2⟩ := u_known htb inX2 (htb _ ww_X2)
  obtain ⟨c3, i3, g3⟩ := u_known htb inX3 (htb _ ww_X3)
  obtain ⟨c4, i4, g4⟩ := u_known htb inX4 (htb _ ww_X4)
  obtain ⟨c5, i5, g5⟩ := u_known htb inX5 (htb _ ww_X5)
  obtain ⟨D, hK⟩ : ∃ D : va_G, va_K D vwCl (ty3 cI cZ cS) s := by
    refine ⟨(fun k => [c0, c1, c2, c3, c4, c5].getD k c0, fun k => [i0, i1, i2, i3, i4, i5].getD k i0), fun k q hq => ?_, fun k q hq => ?_⟩
    · match k, hq with
      | 0, hq => cases hq; exact g0
      | 1, hq => cases hq; exact g1
      | 2, hq => cases hq; exact g2
      | 3, hq => cases hq; exact g3
      | 4, hq => cases hq; exact g4
      | 5, hq => cases hq; exact g5
      | k + 6, hq => simp [vwCl] at hq
    · match k, hq with
      | 0, hq => cases hq; exact ⟨hI1, hI2⟩
      | 1, hq => cases hq; exact ⟨hZ1, hZ2⟩
      | 2, hq => cases hq; exact ⟨hS1, hS2⟩
      | k + 3, hq => simp [ty3] at hq
  have C : KC RL code 4 p s m #[Value.ref b] meth c D cI cZ cS (fun q : Nat => s.heap.size ≤ q) := ⟨hx, hb, hml, hown, htb, hlocks, hK, fun _ h => h, hnw, hAO⟩
  have hS : va_S (fun q : Nat => s.heap.size ≤ q) s.heap s.heap [] := va_S.rf
  have hP : va_P D vwCl [] s.heap := fun k q h => by simp at h
  have hD : va_D (fun q : Nat => s.heap.size ≤ q) [] := ⟨fun i j p q h => by simp at h, fun k q h => by simp at h⟩
  have hl := lv_entry ([.ref b]) (n := 4) (Nat.le_of_ble_eq_true rfl)
  rw [lg_entry_eq]
  generalize (lg_sl ([.ref b]) ++ List.replicate (4 - (lg_sl ([.ref b])).length) Slot.unset).toArray = ls at hl ⊢
  have hl : lv_has ls 4 [(0, .ref b)] := hl
  refine k_new (ci := 4) (fs := fs0_4) C hP hD hS tyX4 inX4 tyX4_ok wk_L_7 ww_X4 wn_X4 rfl df_X4 (Nat.le_of_ble_eq_true rfl) (Nat.le_of_ble_eq_true rfl) dL_law_0 (fun q1 H hP hD hS => ?_)
  refine lv_dup C.1 C.2.1 dL_law_3 rfl ?_
  refine k_callI (ws := []) (h0 := q1) wc_X4_init wm_L_9 wi_X4_init wn_X4 (by decide +kernel) rfl C hP hD hS km_X4 hl.1 ⟨⟨Nat.le_of_ble_eq_true rfl, Nat.le_of_ble_eq_true rfl⟩, Nat.le_of_ble_eq_true rfl, Nat.le_of_ble_eq_true rfl⟩ (Nat.le_of_ble_eq_true rfl) dL_law_4 (fun u H locs hP hD hS => ?_)
  have hP : va_P D vwCl (wA0 cI cS q1 u) H := hP
  have hD : va_D (fun q : Nat => s.heap.size ≤ q) (wA0 cI cS q1 u) := hD
  refine lv_astore_n (lv' := [(1, .ref q1), (0, .ref b)]) C.1 C.2.1 dL_law_7 rfl hl (by decide) rfl (fun ls hl => ?_)
  refine k_new (ci := 5) (fs := fs0_5) C hP hD hS tyX5 inX5 tyX5_ok wk_L_10 ww_X5 wn_X5 rfl df_X5 (Nat.le_of_ble_eq_true rfl) (Nat.le_of_ble_eq_true rfl) dL_law_8 (fun q2 H hP hD hS => ?_)
  refine lv_dup C.1 C.2.1 dL_law_11 rfl ?_
  refine k_callI (ws := wA0 cI cS q1 u) (h0 := q2) wc_X5_init wm_L_12 wi_X5_init wn_X5 (by decide +kernel) rfl C hP hD hS km_X5 hl.1 ⟨⟨Nat.le_of_ble_eq_true rfl, Nat.le_of_ble_eq_true rfl⟩, Nat.le_of_ble_eq_true rfl, Nat.le_of_ble_eq_true rfl⟩ (Nat.le_of_ble_eq_true rfl) dL_law_12 (fun v H locs hP hD hS => ?_)
  have hP := Wd_P (cS := cS) (h0 := q1) (u := u) (q := q2) (v := v) t b hP
  have hD := Wd_D (cS := cS) (h0 := q1) (u := u) (q := q2) (v := v) t b hD
  refine lv_astore_n (lv' := [(2, .ref q2), (1, .ref q1), (0, .ref b)]) C.1 C.2.1 dL_law_15 rfl hl (by decide) rfl (fun ls hl => ?_)
  refine lv_iconst (v := zI 0) C.1 C.2.1 dL_law_16 rfl ?_
  refine lv_istore_n (lv' := [(3, .int (zI 0)), (2, .ref q2), (1, .ref q1), (0, .ref b)]) C.1 C.2.1 dL_law_17 rfl hl (by decide) rfl (fun ls hl => ?_)
  refine W.widen (k := 42) (n := 400) (Nat.le_of_ble_eq_true rfl) (Nat.le_of_ble_eq_true rfl) ?_
  have k9 := law_loop (bb := b) (xs := xs) hL (L + 1) 0 M0 (by omega) (Nat.zero_le _) inv0 p l e s m #[Value.ref b] below meth c D cI cZ cS (adr q1 u q2 v t b) (fun q : Nat => s.heap.size ≤ q) ⟨hx, hb, hr, hml, hown, htb, hlocks, hK, ⟨hZ, hT, hnw⟩, fun _ h => h⟩ ⟨rfl, hX, hbl, rfl⟩ H locs ls hP hD hS (lv_sub hl [3, 2, 1, 0] rfl)
  intro T hT X
  obtain ⟨t9, a9, z9⟩ := k9 T hT X
  exact ⟨t9, a9, z9 rfl⟩
set_option maxHeartbeats 4000000 in
theorem lw_walk (l : Launch) (hflags : l.flags = flags0) (b : Addr) (xs : List Int32) : MetFree l x (headSpec (Jvm.Cond.code x code maxLocals ret :: tables_1) room_1) (lw_P b xs) (fun _ _ _ _ _ => True) lw_Q := by
  refine MetFree.of_bodyS (code := code) (maxLocals := maxLocals) (ret := ret) (by decide) ?_ ?_
  · intro args s m h hn
    obtain ⟨meth, c, h1, h2, h3, h4, h5, h6, -, -⟩ := Cond.code_spec hn (atoms_spec (ws := Jvm.Cond.code x code maxLocals ret :: tables_1) h _ List.mem_cons_self)
    exact ⟨meth, c, h1, h2, h3, h4, h5, h6⟩
  · intro p e s m args below meth c s₁ B hml0 hP _
    obtain ⟨rfl, hx, hbd, hgv⟩ := hP
    obtain ⟨scr, harrAt, hlist, hof, hsmall⟩ := hx
    obtain ⟨hcb, hkn, -, -⟩ := State.arrayAt?_spec harrAt
    have hown : s.vm.findClass R_law = some m.cls := findClass_of_methodNamed B.named
    have hts0 : ∀ c ∈ (Jvm.Cond.code x code maxLocals ret :: tables_1), c.before #[Value.ref b] s = true := atoms_spec (ws := Jvm.Cond.code x code maxLocals ret :: tables_1) B.pre
    have hts : ∀ w ∈ lw_tbl, w.before #[Value.ref b] s = true := k2_hts_sels lw_privs (fun w hw => hts0 w (List.mem_cons_of_mem _ hw)) lw_privs_ok
    have hml : c.maxLocals = 4 := B.maxLocals_eq (hts0 _ List.mem_cons_self)
    have X₀ : Stand p l e room_1 s m #[Value.ref b] below meth c s₁ [] 0 0 := Stand.of_body B
    have hh0 : s₁.heap = s.heap := by rw [B.state]; rfl
    have hsz : scr.slots.size = xs.length := by rw [← Array.length_toList, hlist, List.length_map]
    have hval : ∀ j : Nat, j < xs.length → scr.slots[j]? = some (.int (xs.getD j 0)) := fun j hj => by
      rw [← Array.getElem?_toList, hlist]
      simp [hj]
    have hbl : b < s.heap.size := (Array.getElem?_eq_some_iff.mp hcb).1
    have hX : va_X b xs.length (fun j => xs.getD j 0) s s.heap := ⟨scr, hcb, hof, hkn, hsz, hval⟩
    have K : W p l e room_1 s m #[Value.ref b] below meth c s₁.heap [] 0 0 (lw_Z below #[Value.ref b] s) (entryFrame m ([Value.ref b] : List Value).toArray 4) := by
      rw [hh0]
      exact whole_start l hflags hbd ⟨B.exec, B.bytes, B.returns, hml, hown, hts, hX, hbl, B.notSynchronized, hgv⟩
    obtain ⟨t, a1, o, b1, b2, b3⟩ := K s₁ rfl X₀
    exact ⟨t, o, a1, b1, b2, b3⟩
theorem lw_pre_spec {args : Array Value} {s : State} (h : (Jvm.Cond.and given_1 narrow_1).before args s = true) (hr : rest_1_c.before args s = true) : ∃ (b : Addr) (xs : List Int32), lw_P b xs args s := by
  have hs := flat_of_before _ h
  have hq := flat_of_before _ hr
  have hc : (Cond.count 1).before args s = true := hs _ (by decide +kernel)
  have harr : (Cond.arrayOf (.arg 0) .int).before args s = true := hs _ (by decide +kernel)
  have hle : (Cond.le (.length (.arg 0)) (.int 2560)).before args s = true := hs _ (by decide +kernel)
  have hlen : (Cond.isInt (.length (.arg 0))).before args s = true := hq _ (by decide +kernel)
  have hall : (Cond.all (.arg 0) (.isInt (.elem (.arg 0) (.index 0)))).before args s = true := hq _ (by decide +kernel)
  obtain ⟨b, xs, hb, hx⟩ := State.ints_of_pre rfl harr hlen hall
  have hsm : xs.length < 2 ^ 31 := hx.choose_spec.2.2.2
  have hev : (Term.length (.arg 0)).eval args s none [] s = some (.int xs.length.toInt32) := hx.length_eval hb
  have hv := Cond.le_ints hev (show (Term.int 2560).eval args s none [] s = some (.int 2560) from rfl)
  have hd : xs.length.toInt32 ≤ 2560 := by
    simpa [Cond.before, Cond.holds, hv] using hle
  have hN : xs.length ≤ 2560 := (Int32.ofNat_le_ofNat hsm (by decide)).mp (show Int32.ofNat xs.length ≤ Int32.ofNat 2560 from hd)
  exact ⟨b, xs, Cond.one_arg hc (show args[0]? = some (.ref b) from hb), hx, hN, h⟩
theorem lw_comes (l : Launch) (hflags : l.flags = flags0) : Comes l x (Jvm.Cond.code x code maxLocals ret :: tables_1) room_1 (fun tb e args s => Calls_1 tb e args s ∧ rest_1 tb e args s ∧ Pre_1 tb e args s)
    (fun _ _ args s o t => lw_Q args s o t) := by
  intro p e ha hc hk s m args below hf hfit hheap happ hpre
  obtain ⟨b, xs, hP⟩ := lw_pre_spec hpre.2.2 hpre.2.1
  obtain ⟨k, o, h1, h2, h3, hQ⟩ := lw_walk l hflags b xs p e ha hc hk s m args below hf ((Spec.applies_iff_loose hf).mp happ).1 hP trivial
  exact ⟨k, o, h1, h2, h3, hQ⟩
theorem lw_frame {s t : State} {o : Outcome} {args : Array Value} (h : Framed s o t [] 600000 7302250) :
    Framed s o t (fieldLocs frame_1_writes args s ++ arrayLocs frame_1_arrays args s ++ staticLocs frame_1_statics s) 600000 7302250 := h
theorem lw_limb (L : Cond) (hL : ∀ (args : Array Value) (s t : State), L.after args s (.returned (some (.int 1))) t = true) :
    ArmFor flags0 classFile x code maxLocals ret World_1 tables_1 room_1 Calls_1 rest_1 Pre_1
      (fun tb e a s o t => postC L tb e a s o t ∧ Framed s o t (fieldLocs frame_1_writes a s ++ arrayLocs frame_1_arrays a s ++ staticLocs frame_1_statics s) 600000 7302250) := by
  intro l hflags _ _ p e ha hc hk s m args below hf hfit hheap happ hpre
  obtain ⟨k, o, h1, h2, h3, rfl, hF⟩ := lw_comes l hflags p e ha hc hk s m args below hf hfit hheap happ hpre
  exact ⟨k, _, h1, h2, h3, hL args s _, lw_frame hF⟩
theorem i_vc : Claimed_1_1 ∧ Claimed_1_2 := ⟨lw_limb limb_1_1 (fun args s t => by simp [limb_1_1, Cond.after, Cond.holds, Cond.value]), lw_limb limb_1_2 (fun args s t => Cond.after_iff.mpr (by
  first | (rw [show limb_1_2 = Cond.eq .result (.int 1) from rfl, Cond.eq_ints (x := 1) (y := 1) rfl rfl]; simp; done) | (simp [limb_1_2, Cond.value, Term.eval]; done)))⟩
