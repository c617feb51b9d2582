/-! copying eight numbers; the row of what was told; the curve -/
theorem Wd_setg (cI cZ cS : ClassId) (ad : Nat → Nat) (M M' : Mem) {k : Nat} {x : va_E} (ho : ∀ a, a ≠ k → M' a = M a) (hx : x = ent cI cZ cS ad M' k) : (Wd cI cZ cS ad M).set k (ad k, x) = Wd cI cZ cS ad M' := by
  subst hx
  have he : ∀ a, a ≠ k → ent cI cZ cS ad M' a = ent cI cZ cS ad M a := by
    intro a ha
    unfold ent flds fvA
    rw [ho a ha]
  refine List.ext_getElem? fun i => ?_
  by_cases hi : i < 42
  · rw [Wd_get _ _ _ _ _ hi]
    by_cases hik : i = k
    · subst hik
      rw [List.getElem?_set_self (by simp [Wd, hi])]
    · rw [List.getElem?_set_ne (fun e => hik e.symm), Wd_get _ _ _ _ _ hi, he i hik]
  · rw [List.getElem?_eq_none (by simp [Wd]; omega), List.getElem?_eq_none (by simp [Wd]; omega)]
theorem wk_arr : Cond.methodLink RX3 22 arraycopyName ∈ tb ∧ Cond.native arraycopyName ∈ tb ∧ Cond.static arraycopyName ∈ tb ∧ Cond.initialized "java/lang/System" ∈ tb := ⟨tb_w 206 (by decide +kernel) rfl, tb_w 208 (by decide +kernel) rfl, tb_w 207 (by decide +kernel) rfl, tb_w 56 (by decide +kernel) rfl⟩
set_option maxHeartbeats 4000000 in
theorem g_copy8 {b : ByteArray} {nL : Nat} {ret : Option FieldType} {Q : Option Value → Mem → Prop} {pc : Nat} {L : List (Nat × Value)} {M : Mem} {k0 k1 : Nat} (h0 : k0 < 42) (h1 : k1 < 42) (hs0 : shK k0 = 6) (hs1 : shK k1 = 6) (hn0 : shN k0 = 8) (hn1 : shN k1 = 8) (hdg : decode b pc = .ok (.invokestatic 22, 3))
    (kk : G RX3 b nL ret (gE 1 Q) (pc + 3) L [] (mfill M k1 8 (M k0))) : G RX3 b nL ret (gE 1 Q) pc L [.int (zI 8), .int (zI 0), .ref k1, .int (zI 0), .ref k0] M := by
  intro p l ev s m args below meth c D cI cZ cS ad A C CX H locs ls hP hD hS hl
  have he0 := Wd_get cI cZ cS ad M h0
  have he1 := Wd_get cI cZ cS ad M h1
  rw [ent_int cI cZ cS ad M hs0, hn0] at he0
  rw [ent_int cI cZ cS ad M hs1, hn1] at he1
  have hts := C.2.2.2.2.2.1
  refine va_copyi C.1 C.2.1 (C.2.2.2.1.trans hl.1.symm) C.2.2.2.2.1 (hts _ wk_arr.1) (hts _ wk_arr.2.1) (hts _ wk_arr.2.2.1) (hts _ wk_arr.2.2.2) C.2.2.2.2.2.2.2.1 hP hD hS k0 k1 0 0 he0 he1 rfl rfl rfl (by decide) (by decide) (by decide) (by decide) (by decide) (fun _ _ => rfl) (Nat.le_of_ble_eq_true rfl) (by show 0 + (nativeFrameWords "java/lang/System" "arraycopy" 5 + 11) ≤ 31; decide +kernel) hdg (fun H1 locs1 hP1 hD1 hS1 => ?_)
  have e : (Wd cI cZ cS ad M).set k1 (ad k1, .inl (cI, 8, .inl (va_cpy (M k0) (M k1) (zI 0).toNatClampNeg (zI 0).toNatClampNeg (zI 8).toNatClampNeg))) = Wd cI cZ cS ad (mfill M k1 8 (M k0)) := by
    refine Wd_setg _ _ _ _ _ _ (fun a ha => mfill_ne M _ ha) ?_
    rw [ent_int cI cZ cS ad _ hs1, hn1]
    congr 4
    funext b
    show va_cpy (M k0) (M k1) 0 0 8 b = mfill M k1 8 (M k0) k1 b
    unfold va_cpy mfill
    by_cases hb : b < 8
    · rw [if_pos ⟨by omega, by omega⟩, if_pos ⟨rfl, hb⟩]
      congr 1
      omega
    · rw [if_neg (fun q => hb (by omega)), if_neg (fun q => hb q.2)]
  rw [e] at hP1 hD1
  exact kk p l ev s m args below meth c D cI cZ cS ad A C CX H1 locs1 ls hP1 hD1 hS1 hl
/-- outside what every call may use for its reckoning (cells 2, 25 .. 30) nothing changed -/
def Sam (M M' : Mem) : Prop := ∀ a, (a < 25 ∧ a ≠ 2 ∨ 31 ≤ a) → M' a = M a
theorem Sam.r (M : Mem) : Sam M M := fun _ _ => rfl
theorem Sam.t {M M1 M2 : Mem} (h : Sam M M1) (h2 : Sam M1 M2) : Sam M M2 := fun a ha => (h2 a ha).trans (h a ha)
theorem Sam.m {M M' : Mem} (h : Sam M M') {a : Nat} (ha : a < 25 ∧ a ≠ 2 ∨ 31 ≤ a) (b : Nat) : mi M' a b = mi M a b := by unfold mi; rw [h a ha]
theorem Sam.mf {M M' : Mem} (h : Sam M M') {k n : Nat} (f : Nat → Int32) (hk : k = 2 ∨ 25 ≤ k ∧ k < 31) : Sam M (mfill M' k n f) := fun a ha => by rw [mfill_ne M' f (by omega), h a ha]
theorem Sam.ms {M M' : Mem} (h : Sam M M') {k j : Nat} (v : Int32) (hk : k = 2 ∨ 25 ≤ k ∧ k < 31) : Sam M (mset M' k j v) := fun a ha => by rw [mset_other M' j v (by omega), h a ha]
/-- what is told by 1 .. s, in a row -/
def hearL (tl : Nat → Bool) (an : Nat → Int) : Nat → List (Nat × Int)
  | 0 => []
  | s + 1 => hearL tl an s ++ (if tl (s + 1) = true then [(s + 1, an (s + 1))] else [])
theorem hearL_len (tl : Nat → Bool) (an : Nat → Int) : ∀ s, (hearL tl an s).length = cnt tl s
  | 0 => rfl
  | s + 1 => by
    rw [hearL, cnt, List.length_append, hearL_len tl an s]
    split <;> simp
theorem hearL_in (tl : Nat → Bool) (an : Nat → Int) : ∀ s, ∀ e ∈ hearL tl an s, 1 ≤ e.1 ∧ e.1 ≤ s ∧ e.2 = an e.1
  | 0, e, h => by cases h
  | s + 1, e, h => by
    rw [hearL] at h
    rcases List.mem_append.mp h with h | h
    · have := hearL_in tl an s e h
      exact ⟨this.1, by omega, this.2.2⟩
    · by_cases ht : tl (s + 1) = true
      · rw [if_pos ht] at h
        rw [List.mem_singleton.mp h]
        exact ⟨by omega, Nat.le_refl _, rfl⟩
      · rw [if_neg ht] at h
        cases h
theorem hearL_ext {tl tl' : Nat → Bool} {an an' : Nat → Int} : ∀ s, (∀ j, 1 ≤ j → j ≤ s → tl j = tl' j ∧ an j = an' j) → hearL tl an s = hearL tl' an' s
  | 0, _ => rfl
  | s + 1, h => by rw [hearL, hearL, hearL_ext s (fun j h1 h2 => h j h1 (by omega)), (h (s + 1) (by omega) (by omega)).1, (h (s + 1) (by omega) (by omega)).2]
/-- the row (cells 25, 26, 27) holds l -/
def RowIs (M : Mem) (l : List (Nat × Int)) : Prop := M 25 2 = zI l.length ∧ ∀ (p : Nat) (x : Nat × Int), l[p]? = some x → M 26 p = zI x.1 ∧ M 27 p = zI x.2
theorem RowIs.ext {M M' : Mem} {l : List (Nat × Int)} (h : RowIs M l) (h5 : M' 25 = M 25) (h6 : M' 26 = M 26) (h7 : M' 27 = M 27) : RowIs M' l := by
  unfold RowIs
  rw [h5, h6, h7]
  exact h
theorem RowIs.add {M : Mem} {l : List (Nat × Int)} (h : RowIs M l) (j : Nat) (v : Int) : RowIs (mset (mset (mset M 26 l.length (zI j)) 27 l.length (zI v)) 25 2 (zI ((l.length + 1 : Nat) : Int))) (l ++ [(j, v)]) := by
  refine ⟨?_, fun p x hx => ?_⟩
  · rw [mset_same, List.length_append]
    rfl
  · have e6 : (mset (mset (mset M 26 l.length (zI j)) 27 l.length (zI v)) 25 2 (zI ((l.length + 1 : Nat) : Int))) 26 = upd (M 26) l.length (zI j) := by
      rw [mset_other _ _ _ (by decide), mset_other _ _ _ (by decide), mset_row]
    have e7 : (mset (mset (mset M 26 l.length (zI j)) 27 l.length (zI v)) 25 2 (zI ((l.length + 1 : Nat) : Int))) 27 = upd (M 27) l.length (zI v) := by
      rw [mset_other _ _ _ (by decide), mset_row, mset_other _ _ _ (by decide)]
    rw [e6, e7]
    unfold upd
    rcases Nat.lt_trichotomy p l.length with hp | hp | hp
    · rw [List.getElem?_append_left hp] at hx
      rw [if_neg (by omega), if_neg (by omega)]
      exact h.2 p x hx
    · subst hp
      rw [List.getElem?_append_right (Nat.le_refl _), Nat.sub_self] at hx
      cases hx
      rw [if_pos rfl, if_pos rfl]
      exact ⟨rfl, rfl⟩
    · rw [List.getElem?_eq_none (by rw [List.length_append]; simp; omega)] at hx
      cases hx
