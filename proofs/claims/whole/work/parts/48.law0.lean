/-! the law: its frame (head: out of the kit's skeleton), its rows on the script, what both objects are at first -/
def R_law : String := "SilentAskingLaw"
def lw_P (b : Addr) (xs : List Int32) (args : Array Value) (s : State) : Prop := args = #[.ref b] ∧ s.IntsAt b xs ∧ xs.length ≤ 2560 ∧ (Jvm.Cond.and given_1 narrow_1).before args s = true
def lw_Q (_ : Array Value) (s : State) (o : Outcome) (t : State) : Prop := o = .returned (some (.int 1)) ∧ Framed s o t [] 600000 7302250
def lw_Z (below : List Frame) (a : Array Value) (s : State) : State → Prop := fun t => ∃ o, t.status = .running ∧ Ended t below o ∧ lw_Q a s o t
/-- the law's own end, with 1 on the stack, nothing written that was there before, its room as the claim has it -/
theorem lw_ret {p : Program} {l : Launch} {e : Env} {s : State} {m : MethodId} {below : List Frame} {meth : Method} {c : Code} {b : Nat} (hx : p.tables.exec = Jvm.exec) (hb : c.code = code) (hr : meth.sig.returnType = ret) (hlocks : meth.locks = false) {pc : Nat} {H : Heap} {ls : Array Slot} (hdg : decode code pc = .ok (.ireturn, 1)) : W p l e room_1 s m #[Value.ref b] below meth c H [] 600000 7302250 (lw_Z below #[Value.ref b] s) (F0 m pc ls [.int 1]) := by
  intro T hT X
  obtain ⟨fs, hret, hrun, hended, hW, hframe⟩ := X.leave (v := some (.int 1)) (hlocks := hlocks) (fun h => by rw [hr] at h; cases h)
  have hmeth' : T.vm.method? m = some meth := X.method'
  refine ⟨T.setFrames fs, ?_, .returned (some (.int 1)), hrun, hended, rfl, ⟨_, rfl⟩, hW, hframe⟩
  jvm_step X.here [X.here.top, hx, hb, hdg, hmeth', hr, ret, narrow_b1]
  (try refine ⟨rfl, ?_⟩); (try refine ⟨rfl, ?_⟩)
  first | (intro acts; rw [hret _ acts rfl rfl rfl]) | rw [hret _ _ rfl rfl rfl]
  exact Steps.refl _
/-- what holds at the law's entry: the machine, the code, the tables' words (any of lw_tbl by 'hts w (by decide +kernel)'), the script of L ints xs at the cell b, what the Statement gives of the start (any of its parts by flat_of_before) -/
def lw_At (p : Program) (s : State) (m : MethodId) (meth : Method) (c : Code) (b L : Nat) (xs : Nat → Int32) : Prop :=
  p.tables.exec = Jvm.exec ∧ c.code = code ∧ meth.sig.returnType = ret ∧ c.maxLocals = 4 ∧ s.vm.findClass R_law = some m.cls ∧ (∀ w ∈ lw_tbl, w.before #[Value.ref b] s = true) ∧ va_X b L xs s s.heap ∧ b < s.heap.size ∧ meth.locks = false ∧ (Jvm.Cond.and given_1 narrow_1).before #[Value.ref b] s = true
/-- where the law stands: both objects made; b: the script, at cell 43 -/
def EL (b L : Nat) (xs : Nat → Int32) : GE := (room_1, 42, 400, fun below _ _ _ _ ad _ _ s => fun T => ad 43 = b → lw_Z below #[Value.ref b] s T, fun s args A => args = #[Value.ref b] ∧ va_X b L xs s s.heap ∧ b < s.heap.size ∧ A = fun q => s.heap.size ≤ q)
section LROWS
variable {bb L nL : Nat} {xs : Nat → Int32} {own : String} {b : ByteArray} {ret1 : Option FieldType} {pc : Nat} {Ls : List (Nat × Value)} {rest : List Value} {M : Mem}
theorem gl_sld {i : Int32} (hin : vp_in i L) (hdg : decode b pc = .ok (.iaload, 1)) (kk : G own b nL ret1 (EL bb L xs) (pc + 1) Ls (.int (xs i.toNatClampNeg) :: rest) M) : G own b nL ret1 (EL bb L xs) pc Ls (.int i :: .ref 43 :: rest) M := by
  intro p l e s m args below meth c D cI cZ cS ad A C CX H locs ls hP hD hS hl
  by_cases hb : ad 43 = bb
  · have k9 := kk p l e s m args below meth c D cI cZ cS ad A C CX H locs ls hP hD hS hl
    obtain ⟨-, h2, h3, h4⟩ := CX
    subst hb
    exact va_sld C.1 C.2.1 h2 h3 (by rw [h4]; exact Nat.not_le.mpr h3) hS hin hdg k9
  · intro T hT X
    exact ⟨_, Steps.refl _, fun h => absurd h hb⟩
theorem gl_slen (hdg : decode b pc = .ok (.arraylength, 1)) (kk : G own b nL ret1 (EL bb L xs) (pc + 1) Ls (.int (zI L) :: rest) M) : G own b nL ret1 (EL bb L xs) pc Ls (.ref 43 :: rest) M := by
  intro p l e s m args below meth c D cI cZ cS ad A C CX H locs ls hP hD hS hl
  by_cases hb : ad 43 = bb
  · have k9 := kk p l e s m args below meth c D cI cZ cS ad A C CX H locs ls hP hD hS hl
    obtain ⟨-, h2, h3, h4⟩ := CX
    subst hb
    refine va_slen C.1 C.2.1 h2 h3 (by rw [h4]; exact Nat.not_le.mpr h3) hS hdg ?_
    have e : zI (L : Int) = Int32.ofNat L := Int32.ofInt_eq_ofNat
    rw [← e]
    exact k9
  · intro T hT X
    exact ⟨_, Steps.refl _, fun h => absurd h hb⟩
end LROWS
theorem gl_ret {bb L : Nat} {xs : Nat → Int32} {own : String} {pc : Nat} {Ls : List (Nat × Value)} {M : Mem} (hdg : decode code pc = .ok (.ireturn, 1)) : G own code 4 ret (EL bb L xs) pc Ls [.int (zI 1)] M := by
  intro p l e s m args below meth c D cI cZ cS ad A C CX H locs ls hP hD hS hl
  obtain ⟨h1, h2, h3, h4⟩ := CX
  subst h1
  have k : W p l e room_1 s m #[Value.ref bb] below meth c H [] 600000 7302250 (lw_Z below #[Value.ref bb] s) (F0 m pc ls [.int 1]) := lw_ret C.1 C.2.1 C.2.2.1 C.2.2.2.2.2.2.1 hdg
  refine W.widen (k := 600000) (n := 7302250) (Nat.le_of_ble_eq_true rfl) (Nat.le_of_ble_eq_true rfl) ?_
  refine va_forget (fun q hq => ?_) ?_
  · have h9 := hS.2.2 q hq
    rw [h4] at h9
    exact h9
  · intro T hT X
    obtain ⟨t, a, z⟩ := k T hT X
    exact ⟨t, a, fun _ => z⟩
theorem in_d {L i : Nat} (d : Int) (h0 : 0 ≤ d) (h4 : d ≤ 4) (hL : L ≤ 2560) (hi : i + 5 ≤ L) : vp_in (zI i + zI d) L := by
  rw [zI_add]
  exact zI_in (by omega) (by omega) (by omega)
/-! what both objects are at first -/
def M0 : Mem := fun k => if k = 0 then (fun j => if j = 6 then 1 else 0) else if k = 22 then (fun j => if j = 5 then 1 else if j = 6 then 1 else if j = 7 then 1 else 0) else if k = 31 then (fun j => if j = 1 then 1 else 0) else fun _ => 0
theorem M0_z {k : Nat} (h0 : k ≠ 0) (h1 : k ≠ 22) (h2 : k ≠ 31) (j : Nat) : M0 k j = 0 := by
  unfold M0
  rw [if_neg h0, if_neg h1, if_neg h2]
theorem mi0_z {k : Nat} (h0 : k ≠ 0) (h1 : k ≠ 22) (h2 : k ≠ 31) (j : Nat) : mi M0 k j = 0 := by
  unfold mi
  rw [M0_z h0 h1 h2]
  rfl
theorem inv0 : Inv M0 := by
  have z : ∀ k j, k ≠ 0 → k ≠ 22 → k ≠ 31 → mi M0 k j = 0 := fun k j h0 h1 h2 => mi0_z h0 h1 h2 j
  have m06 : mi M0 0 6 = 1 := rfl
  have m07 : mi M0 0 7 = 0 := rfl
  have m2 : mi M0 22 2 = 0 := rfl
  have m3 : mi M0 22 3 = 0 := rfl
  have m4 : mi M0 22 4 = 0 := rfl
  have m5 : mi M0 22 5 = 1 := rfl
  have m6 : mi M0 22 6 = 1 := rfl
  have m7 : mi M0 22 7 = 1 := rfl
  refine ⟨⟨by rw [m06]; decide, fun i _ => ?_, fun j h1 h2 => ?_, fun j h1 h2 i _ => ?_, Or.inl m2, Or.inl m3, by rw [m4]; decide, by rw [m5]; decide, by rw [m6]; decide, by rw [m7, m6, m5]; rfl, fun q _ => ?_, fun q _ => ?_, fun h => ?_, by rw [m07]; decide⟩, ⟨rfl, fun i _ => rfl, fun j h1 h2 => ?_, fun j h1 h2 => ⟨fun h => ?_, fun _ => ?_⟩, fun j h1 h2 h => ?_, rfl, fun q _ => ?_, fun h => ?_⟩, rfl, rfl, rfl, fun j _ => ?_⟩
  · rw [z 1 i (by decide) (by decide) (by decide)]
    decide
  · rw [z (3 + j) 1 (by omega) (by omega) (by omega), z (3 + j) 2 (by omega) (by omega) (by omega)]
    decide
  · rw [z (12 + j) i (by omega) (by omega) (by omega)]
    decide
  · rw [z 23 q (by decide) (by decide) (by decide)]
    decide
  · rw [z 24 q (by decide) (by decide) (by decide)]
    decide
  · rw [m2] at h
    exact absurd h (by decide)
  · rw [M0_z (by decide) (by decide) (by decide), M0_z (by omega) (by omega) (by omega)]
  · rw [z (3 + j) 1 (by omega) (by omega) (by omega)] at h
    exact absurd h (by decide)
  · rw [M0_z (by omega) (by omega) (by omega)]
    rfl
  · rw [z (3 + j) 1 (by omega) (by omega) (by omega)] at h
    exact absurd h (by decide)
  · rw [z 36 q (by decide) (by decide) (by decide)]
    decide
  · rw [m2] at h
    exact absurd h (by decide)
  · rw [m07, Int.zero_ediv, M0_z (by decide) (by decide) (by decide)]
    rfl
/-- the cells' addresses: the class's, the reference's, the static array's, the script's -/
def adr (h0 : Nat) (u : Nat → Nat) (q : Nat) (v : Nat → Nat) (t b : Nat) : Nat → Nat := fun k => if k < 31 then (if k = 0 then h0 else u k) else if k = 31 then q else if k < 42 then v k else if k = 42 then t else b
theorem st_fun {h0 q t b : Nat} {u v : Nat → Nat} : (fun j => (rf 3 j).map u) = fun j => (rf 3 j).map (adr h0 u q v t b) := by
  funext j
  match j with
  | 0 => rfl
  | 1 => rfl
  | 2 => rfl
  | 3 => rfl
  | 4 => rfl
  | 5 => rfl
  | 6 => rfl
  | 7 => rfl
  | 8 => rfl
  | j + 9 => rfl
def wA0 (cI cS : ClassId) (h0 : Nat) (u : Nat → Nat) : va_W := [(h0, .inr (4, [.ref (u 1), .ref (u 2), .ref (u 3), .ref (u 22), .ref (u 25), .ref (u 28), .int 1, .int 0, .int 0, .int 0, .int 0])), (u 1, .inl (cI, 8, .inl (fun _ => 0))), (u 2, .inl (cI, 3, .inl (fun _ => 0))), (u 3, .inl (cS, 9, .inr (.inr (.inr (.inr (fun j => (rf 3 j).map u)))))), (u 4, .inr (3, [.ref (u 13), .int 0, .int 0])), (u 5, .inr (3, [.ref (u 14), .int 0, .int 0])), (u 6, .inr (3, [.ref (u 15), .int 0, .int 0])), (u 7, .inr (3, [.ref (u 16), .int 0, .int 0])), (u 8, .inr (3, [.ref (u 17), .int 0, .int 0])), (u 9, .inr (3, [.ref (u 18), .int 0, .int 0])), (u 10, .inr (3, [.ref (u 19), .int 0, .int 0])), (u 11, .inr (3, [.ref (u 20), .int 0, .int 0])), (u 12, .inr (3, [.ref (u 21), .int 0, .int 0])), (u 13, .inl (cI, 8, .inl (fun _ => 0))), (u 14, .inl (cI, 8, .inl (fun _ => 0))), (u 15, .inl (cI, 8, .inl (fun _ => 0))), (u 16, .inl (cI, 8, .inl (fun _ => 0))), (u 17, .inl (cI, 8, .inl (fun _ => 0))), (u 18, .inl (cI, 8, .inl (fun _ => 0))), (u 19, .inl (cI, 8, .inl (fun _ => 0))), (u 20, .inl (cI, 8, .inl (fun _ => 0))), (u 21, .inl (cI, 8, .inl (fun _ => 0))), (u 22, .inr (1, [.ref (u 23), .ref (u 24), .int 0, .int 0, .int 0, .int 1, .int 1, .int 1])), (u 23, .inl (cI, 6, .inl (fun _ => 0))), (u 24, .inl (cI, 6, .inl (fun _ => 0))), (u 25, .inr (2, [.ref (u 26), .ref (u 27), .int 0])), (u 26, .inl (cI, 9, .inl (fun _ => 0))), (u 27, .inl (cI, 9, .inl (fun _ => 0))), (u 28, .inr (0, [.ref (u 29), .ref (u 30), .int 0])), (u 29, .inl (cI, 7, .inl (fun _ => 0))), (u 30, .inl (cI, 7, .inl (fun _ => 0)))]
def wM0 (cI cZ : ClassId) (h0 : Nat) (u : Nat → Nat) : va_W := [(h0, .inr (5, [.int 0, .int 1, .ref (u 32), .ref (u 33), .ref (u 34), .ref (u 35), .int 0, .int 0, .int 0, .ref (u 36), .int 0, .ref (u 37), .ref (u 38), .int 0, .int 0, .int 0, .int 0, .ref (u 39), .ref (u 40), .ref (u 41)])), (u 32, .inl (cI, 8, .inl (fun _ => 0))), (u 33, .inl (cI, 10, .inl (fun _ => 0))), (u 34, .inl (cI, 10, .inl (fun _ => 0))), (u 35, .inl (cI, 80, .inl (fun _ => 0))), (u 36, .inl (cI, 6, .inl (fun _ => 0))), (u 37, .inl (cI, 7, .inl (fun _ => 0))), (u 38, .inl (cZ, 10, .inl (fun _ => 0))), (u 39, .inl (cI, 9, .inl (fun _ => 0))), (u 40, .inl (cI, 9, .inl (fun _ => 0))), (u 41, .inl (cI, 7, .inl (fun _ => 0)))]
set_option maxRecDepth 100000 in
theorem Wd_0 (cI cZ cS : ClassId) (h0 : Nat) (u : Nat → Nat) (q : Nat) (v : Nat → Nat) (t b : Nat) : ∀ i, i < 42 → (wA0 cI cS h0 u ++ wM0 cI cZ q v)[i]? = some (adr h0 u q v t b i, ent cI cZ cS (adr h0 u q v t b) M0 i)
  | 0, _ => rfl
  | 1, _ => rfl
  | 2, _ => rfl
  | 3, _ => by
    show some (u 3, (Sum.inl (cS, 9, .inr (.inr (.inr (.inr (fun j => (rf 3 j).map u))))) : va_E)) = some (u 3, Sum.inl (cS, 9, .inr (.inr (.inr (.inr (fun j => (rf 3 j).map (adr h0 u q v t b)))))))
    rw [st_fun]
  | 4, _ => rfl
  | 5, _ => rfl
  | 6, _ => rfl
  | 7, _ => rfl
  | 8, _ => rfl
  | 9, _ => rfl
  | 10, _ => rfl
  | 11, _ => rfl
  | 12, _ => rfl
  | 13, _ => rfl
  | 14, _ => rfl
  | 15, _ => rfl
  | 16, _ => rfl
  | 17, _ => rfl
  | 18, _ => rfl
  | 19, _ => rfl
  | 20, _ => rfl
  | 21, _ => rfl
  | 22, _ => rfl
  | 23, _ => rfl
  | 24, _ => rfl
  | 25, _ => rfl
  | 26, _ => rfl
  | 27, _ => rfl
  | 28, _ => rfl
  | 29, _ => rfl
  | 30, _ => rfl
  | 31, _ => rfl
  | 32, _ => rfl
  | 33, _ => rfl
  | 34, _ => rfl
  | 35, _ => rfl
  | 36, _ => rfl
  | 37, _ => rfl
  | 38, _ => rfl
  | 39, _ => rfl
  | 40, _ => rfl
  | 41, _ => rfl
  | i + 42, h => absurd h (by omega)
theorem Wd_P {D : va_G} {cI cZ cS : ClassId} {h0 : Nat} {u : Nat → Nat} {q : Nat} {v : Nat → Nat} {H : Heap} (t b : Nat) (hP : va_P D vwCl (wA0 cI cS h0 u ++ wM0 cI cZ q v) H) : va_P D vwCl (Wd cI cZ cS (adr h0 u q v t b) M0) H := by
  intro k x hx
  obtain ⟨hk, rfl⟩ := Wd_lt hx
  exact hP k _ (Wd_0 cI cZ cS h0 u q v t b k hk)
theorem Wd_D {A : Nat → Prop} {cI cZ cS : ClassId} {h0 : Nat} {u : Nat → Nat} {q : Nat} {v : Nat → Nat} (t b : Nat) (hD : va_D A (wA0 cI cS h0 u ++ wM0 cI cZ q v)) : va_D A (Wd cI cZ cS (adr h0 u q v t b) M0) := by
  refine ⟨fun i j x y hi hj hxy => ?_, fun k x hx => ?_⟩
  · obtain ⟨h1, rfl⟩ := Wd_lt hi
    obtain ⟨h2, rfl⟩ := Wd_lt hj
    exact hD.1 i j _ _ (Wd_0 cI cZ cS h0 u q v t b i h1) (Wd_0 cI cZ cS h0 u q v t b j h2) hxy
  · obtain ⟨h1, rfl⟩ := Wd_lt hx
    exact hD.2 k _ (Wd_0 cI cZ cS h0 u q v t b k h1)
/-! classes of arrays, the static array, out of the start's words -/
theorem ak_int {s : State} {args : Array Value} (h : (Cond.arrayClass .int).before args s = true) : ∃ cA, ArrOfT s cA .int ∧ va_RA s cA .int := by
  obtain ⟨c, k, comp, h1, h2, h3⟩ := Cond.arrayClass_spec h
  exact ⟨c, fun n z => ⟨fun k h => (by cases h), k, h2, comp, h3⟩, h1⟩
theorem ak_bool {s : State} {args : Array Value} (h : (Cond.arrayClass .boolean).before args s = true) : ∃ cA, ArrOfT s cA .boolean ∧ va_RA s cA .boolean := by
  obtain ⟨c, k, comp, h1, h2, h3⟩ := Cond.arrayClass_spec h
  exact ⟨c, fun n z => ⟨fun k h => (by cases h), k, h2, comp, h3⟩, h1⟩
theorem ak_obj {s : State} {C : String} (h : va_AO C s) : ∃ cA, ArrOfT s cA (.object C) ∧ va_RA s cA (.object C) := by
  obtain ⟨comp, c, k, h1, -, h3, h4, h5⟩ := Cond.arrayOver_spec h
  exact ⟨c, fun n z => ⟨fun k h => (by cases h), k, h3, comp, h4⟩, k, comp, h3, h4, h1, h5⟩
