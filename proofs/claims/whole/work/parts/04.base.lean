/-! THE STATE: one world of 42 cells that never grows once both objects are made; what changes are ints alone. A cell has a number k, its address is ad k; a value .ref k means the cell k (42: the static array INVERSE). -/
/-- the tables' words that a callee may be told; and those on nest mates, which go by another road -/
def tb : List Cond := lw_tbl.filter goodWord
def nestW : Cond → Bool
  | .fieldLinkNest .. | .methodLinkNest .. => true
  | _ => false
def nwl : List Cond := lw_tbl.filter nestW
theorem nwl_warm {w : Cond} {s U : State} (h : w ∈ nwl) (hW : s.WarmedH U.vm) (hZ : va_Nw w s) : va_Nw w U := by
  have h1 := (List.mem_filter.mp h).2
  cases w <;> first | exact va_Nw.warmF hW hZ | exact va_Nw.warmM hW hZ | exact absurd h1 (by simp [nestW])
theorem nwl_same {w : Cond} {u U : State} (h : w ∈ nwl) (hvm : u.vm = U.vm) (hZ : va_Nw w u) : va_Nw w U := by
  have h1 := (List.mem_filter.mp h).2
  cases w <;> first | exact va_Nw.same rfl hvm hZ | exact absurd h1 (by simp [nestW])
/-- the int that a number is -/
def zI (z : Int) : Int32 := Int32.ofInt z
abbrev Mem : Type := Nat → Nat → Int32
def ren (ad : Nat → Nat) : Value → Value
  | .ref k => .ref (ad k)
  | v => v
def renL (ad : Nat → Nat) (L : List (Nat × Value)) : List (Nat × Value) := L.map (fun q => (q.1, ren ad q.2))
/-- a cell's kind: 0 .. 5 an object of that class of vwCl, 6 ints, 7 booleans, 8 stores -/
def shKl : List Nat := [4, 6, 6, 8, 3, 3, 3, 3, 3, 3, 3, 3, 3, 6, 6, 6, 6, 6, 6, 6, 6, 6, 1, 6, 6, 2, 6, 6, 0, 6, 6, 5, 6, 6, 6, 6, 6, 6, 7, 6, 6, 6]
def shK (k : Nat) : Nat := shKl.getD k 9
/-- how many fields or places -/
def shNl : List Nat := [11, 8, 3, 9, 3, 3, 3, 3, 3, 3, 3, 3, 3, 8, 8, 8, 8, 8, 8, 8, 8, 8, 8, 6, 6, 3, 9, 9, 3, 7, 7, 20, 8, 10, 10, 80, 6, 7, 10, 9, 9, 7]
def shN (k : Nat) : Nat := shNl.getD k 0
def rfl_0 : List (Option Nat) := [some 1, some 2, some 3, some 22, some 25, some 28]
def rfl_31 : List (Option Nat) := [none, none, some 32, some 33, some 34, some 35, none, none, none, some 36, none, some 37, some 38, none, none, none, none, some 39, some 40, some 41]
def rfT : List (List (Option Nat)) := [rfl_0, [], [], [some 4, some 5, some 6, some 7, some 8, some 9, some 10, some 11, some 12], [some 13], [some 14], [some 15], [some 16], [some 17], [some 18], [some 19], [some 20], [some 21], [], [], [], [], [], [], [], [], [], [some 23, some 24], [], [], [some 26, some 27], [], [], [some 29, some 30], [], [], rfl_31, [], [], [], [], [], [], [], [], [], []]
def rf (k j : Nat) : Option Nat := (rfT.getD k []).getD j none
/-- what field j of cell k is -/
def fvA (M : Mem) (k j : Nat) : Value := match rf k j with
  | some r => .ref r
  | none => .int (M k j)
def flds (ad : Nat → Nat) (M : Mem) (k : Nat) : List Value := (List.range (shN k)).map (fun j => ren ad (fvA M k j))
def ent (cI cZ cS : ClassId) (ad : Nat → Nat) (M : Mem) (k : Nat) : va_E :=
  if shK k = 6 then .inl (cI, shN k, .inl (M k)) else if shK k = 7 then .inl (cZ, shN k, .inl (M k)) else if shK k = 8 then .inl (cS, shN k, .inr (.inr (.inr (.inr (fun j => (rf k j).map ad))))) else .inr (shK k, flds ad M k)
def Wd (cI cZ cS : ClassId) (ad : Nat → Nat) (M : Mem) : va_W := (List.range 42).map (fun k => (ad k, ent cI cZ cS ad M k))
def mset (M : Mem) (k j : Nat) (v : Int32) : Mem := fun a b => if a = k then (if b = j then v else M a b) else M a b
def ty3 (cI cZ cS : ClassId) : List (ClassId × FieldType) := [(cI, .int), (cZ, .boolean), (cS, .object "SilentAsking$Store")]
def invL : List Int32 := [0, 1, 49, 65, 73, 39, 81, 14, 85]
def ST (ad : Nat → Nat) (A : Nat → Prop) (U : State) : Prop := va_Z "SilentAsking" "INVERSE" "[I" (.ref (ad 42)) A U U.heap ∧ va_T .int (ad 42) 9 (fun j => .int (invL.getD j 0)) A U U.heap ∧ ∀ w ∈ nwl, va_Nw w U
def AA (ad : Nat → Nat) (sz : Nat) : Nat → Prop := fun q => (∃ k, k < 42 ∧ q = ad k) ∨ sz ≤ q
def rmd (h : Nat) : Room := { frames := h, cells := 0, slots := 0, locals := 31 * h }
def Qst (D : va_G) (cI cZ cS : ClassId) (ad : Nat → Nat) (A : Nat → Prop) (Q : Option Value → Mem → Prop) : Array Value → State → Outcome → State → Prop := fun _ st oc t =>
  (∃ (r : Option Value) (M' : Mem), oc = .returned (r.map (ren ad)) ∧ Q r M' ∧ va_P D vwCl (Wd cI cZ cS ad M') t.heap ∧ va_D A (Wd cI cZ cS ad M')) ∧ va_F A st t
def GC (own : String) (b : ByteArray) (nL : Nat) (ret : Option FieldType) (p : Program) (s : State) (m : MethodId) (args : Array Value) (meth : Method) (c : Code) (D : va_G) (cI cZ cS : ClassId) (ad : Nat → Nat) (A : Nat → Prop) : Prop :=
  p.tables.exec = Jvm.exec ∧ c.code = b ∧ meth.sig.returnType = ret ∧ c.maxLocals = nL ∧ s.vm.findClass own = some m.cls ∧ (∀ w ∈ tb, w.before args s = true) ∧ meth.locks = false ∧ va_K D vwCl (ty3 cI cZ cS) s ∧ ST ad A s ∧ (∀ q : Nat, s.heap.size ≤ q → A q)
/-- where a walk stands: its room, what it has made, what its end is, what else is known of its start -/
abbrev GE : Type := Room × Nat × Nat × (List Frame → va_G → ClassId → ClassId → ClassId → (Nat → Nat) → (Nat → Prop) → Array Value → State → State → Prop) × (State → Array Value → (Nat → Prop) → Prop)
/-- a method's walk: its end is that Q holds of what it returns and of the memory -/
def gE (h : Nat) (Q : Option Value → Mem → Prop) : GE := (rmd h, 0, 0, fun below D cI cZ cS ad A args s => MQ below (Qst D cI cZ cS ad A Q) args s 0 0 A, fun _ _ _ => True)
/-- from pc on, with locals L, stack st, memory M: the walk comes to its end -/
def G (own : String) (b : ByteArray) (nL : Nat) (ret : Option FieldType) (E : GE) (pc : Nat) (L : List (Nat × Value)) (st : List Value) (M : Mem) : Prop :=
  ∀ (p : Program) (l : Launch) (e : Env) (s : State) (m : MethodId) (args : Array Value) (below : List Frame) (meth : Method) (c : Code) (D : va_G) (cI cZ cS : ClassId) (ad : Nat → Nat) (A : Nat → Prop), GC own b nL ret p s m args meth c D cI cZ cS ad A → E.2.2.2.2 s args A →
  ∀ (H : Heap) (locs : List Loc) (ls : Array Slot), va_P D vwCl (Wd cI cZ cS ad M) H → va_D A (Wd cI cZ cS ad M) → va_S A s.heap H locs → lv_has ls nL (renL ad L) →
  W p l e E.1 s m args below meth c H locs E.2.1 E.2.2.1 (E.2.2.2.1 below D cI cZ cS ad A args s) (F0 m pc ls (st.map (ren ad)))
/-- a method's contract: on these arguments in this memory it returns, and Q holds -/
def Ev (y : MethodName) (b : ByteArray) (nL : Nat) (ret : Option FieldType) (h : Nat) (avs : List Value) (M : Mem) (Q : Option Value → Mem → Prop) : Prop :=
  ∀ (l : Launch) (D : va_G) (cI cZ cS : ClassId) (ad : Nat → Nat) (sz : Nat), Met l y (.code y b nL ret :: tb) (rmd h)
    (va_Pc (avs.map (ren ad)) (fun U => U.heap.size = sz ∧ va_P D vwCl (Wd cI cZ cS ad M) U.heap ∧ va_K D vwCl (ty3 cI cZ cS) U ∧ va_D (AA ad sz) (Wd cI cZ cS ad M) ∧ ST ad (AA ad sz) U))
    (Qst D cI cZ cS ad (AA ad sz) Q) 0 0 (AA ad sz)
theorem Wd_get (cI cZ cS : ClassId) (ad : Nat → Nat) (M : Mem) {k : Nat} (hk : k < 42) : (Wd cI cZ cS ad M)[k]? = some (ad k, ent cI cZ cS ad M k) := by
  simp [Wd, List.getElem?_range, hk]
theorem Wd_lt {cI cZ cS : ClassId} {ad : Nat → Nat} {M : Mem} {k : Nat} {q : Nat × va_E} (h : (Wd cI cZ cS ad M)[k]? = some q) : k < 42 ∧ q = (ad k, ent cI cZ cS ad M k) := by
  have hl : k < (Wd cI cZ cS ad M).length := (List.getElem?_eq_some_iff.mp h).1
  have hk : k < 42 := by simpa [Wd] using hl
  rw [Wd_get _ _ _ _ _ hk] at h
  exact ⟨hk, (Option.some.inj h).symm⟩
theorem ent_obj (cI cZ cS : ClassId) (ad : Nat → Nat) (M : Mem) {k c : Nat} (h : shK k = c) (hc : c < 6) : ent cI cZ cS ad M k = .inr (c, flds ad M k) := by
  subst h
  unfold ent
  rw [if_neg (by omega), if_neg (by omega), if_neg (by omega)]
theorem ent_int (cI cZ cS : ClassId) (ad : Nat → Nat) (M : Mem) {k : Nat} (h : shK k = 6) : ent cI cZ cS ad M k = .inl (cI, shN k, .inl (M k)) := by
  unfold ent
  rw [if_pos h]
theorem ent_bool (cI cZ cS : ClassId) (ad : Nat → Nat) (M : Mem) {k : Nat} (h : shK k = 7) : ent cI cZ cS ad M k = .inl (cZ, shN k, .inl (M k)) := by
  unfold ent
  rw [if_neg (by omega), if_pos h]
theorem ent_ref (cI cZ cS : ClassId) (ad : Nat → Nat) (M : Mem) {k : Nat} (h : shK k = 8) : ent cI cZ cS ad M k = .inl (cS, shN k, .inr (.inr (.inr (.inr (fun j => (rf k j).map ad))))) := by
  unfold ent
  rw [if_neg (by omega), if_neg (by omega), if_pos h]
theorem flds_get (ad : Nat → Nat) (M : Mem) {k j : Nat} (hj : j < shN k) : (flds ad M k)[j]? = some (ren ad (fvA M k j)) := by
  simp [flds, List.getElem?_range, hj]
theorem mset_same (M : Mem) (k j : Nat) (v : Int32) : mset M k j v k j = v := by simp [mset]
theorem mset_ne (M : Mem) {k j a b : Nat} (v : Int32) (h : a ≠ k ∨ b ≠ j) : mset M k j v a b = M a b := by
  unfold mset
  by_cases ha : a = k
  · subst ha
    rw [if_pos rfl, if_neg (by omega)]
  · rw [if_neg ha]
theorem mset_row (M : Mem) (k j : Nat) (v : Int32) : mset M k j v k = upd (M k) j v := by
  funext b
  simp [mset, upd]
theorem mset_other (M : Mem) {k a : Nat} (j : Nat) (v : Int32) (h : a ≠ k) : mset M k j v a = M a := by
  funext b
  exact mset_ne M v (Or.inl h)
theorem ent_other (cI cZ cS : ClassId) (ad : Nat → Nat) (M : Mem) {k a : Nat} (j : Nat) (v : Int32) (h : a ≠ k) : ent cI cZ cS ad (mset M k j v) a = ent cI cZ cS ad M a := by
  have e : flds ad (mset M k j v) a = flds ad M a := by
    unfold flds fvA
    rw [mset_other M j v h]
  unfold ent
  rw [mset_other M j v h, e]
theorem Wd_set (cI cZ cS : ClassId) (ad : Nat → Nat) (M : Mem) {k j : Nat} (v : Int32) {x : va_E} (hx : x = ent cI cZ cS ad (mset M k j v) k) : (Wd cI cZ cS ad M).set k (ad k, x) = Wd cI cZ cS ad (mset M k j v) := by
  subst hx
  refine List.ext_getElem? fun i => ?_
  by_cases hi : i < 42
  · rw [Wd_get _ _ _ _ _ hi]
    by_cases hik : i = k
    · subst hik
      rw [List.getElem?_set_self (by simp [Wd, hi])]
    · rw [List.getElem?_set_ne (fun e => hik e.symm), Wd_get _ _ _ _ _ hi, ent_other _ _ _ _ _ _ _ hik]
  · rw [List.getElem?_eq_none (by simp [Wd]; omega), List.getElem?_eq_none (by simp [Wd]; omega)]
theorem flds_set (ad : Nat → Nat) (M : Mem) {k j : Nat} (v : Int32) (hr : rf k j = none) : (flds ad M k).set j (.int v) = flds ad (mset M k j v) k := by
  refine List.ext_getElem? fun i => ?_
  by_cases hi : i < shN k
  · rw [flds_get _ _ hi]
    by_cases hij : i = j
    · subst hij
      rw [List.getElem?_set_self (by simp [flds, hi])]
      simp [fvA, hr, mset_same, ren]
    · rw [List.getElem?_set_ne (fun e => hij e.symm), flds_get _ _ hi]
      simp only [fvA, mset_ne M v (Or.inr hij)]
  · rw [List.getElem?_eq_none (by simp [flds]; omega), List.getElem?_eq_none (by simp [flds]; omega)]
theorem ren_cat (ad : Nat → Nat) (v : Value) : (ren ad v).category = v.category := by cases v <;> rfl
theorem renL_args (ad : Nat → Nat) : ∀ (vs : List Value) (i : Nat), lv_args i (vs.map (ren ad)) = renL ad (lv_args i vs)
  | [], _ => rfl
  | v :: vs, i => by
    show (i, ren ad v) :: lv_args (if (ren ad v).category = 2 then i + 2 else i + 1) (vs.map (ren ad)) = (i, ren ad v) :: renL ad (lv_args (if v.category = 2 then i + 2 else i + 1) vs)
    rw [ren_cat, renL_args ad vs]
theorem sum_ren (ad : Nat → Nat) (st : List Value) : ((st.map (ren ad)).map fun v => v.category).sum = (st.map fun v => v.category).sum := by
  rw [List.map_map]
  congr 1
  refine List.map_congr_left fun v _ => ?_
  exact ren_cat ad v
theorem ren_sl (ad : Nat → Nat) (vs : List Value) : (lg_sl (vs.map (ren ad))).length = (lg_sl vs).length := by
  induction vs with
  | nil => rfl
  | cons v vs ih =>
    simp only [lg_sl, List.map_cons, List.flatMap_cons, List.length_append, ren_cat] at ih ⊢
    rw [ih]
    by_cases hv : v.category = 2 <;> simp [hv]
theorem renL_has {ad : Nat → Nat} {ls : Array Slot} {nL : Nat} {L L' : List (Nat × Value)} (h : lv_has ls nL (renL ad L)) (hs : ∀ q ∈ L', q ∈ L) : lv_has ls nL (renL ad L') := by
  refine ⟨h.1, h.2.1, fun q hq => ?_⟩
  obtain ⟨r, h1, h2⟩ := List.mem_map.mp hq
  exact h.2.2 q (List.mem_map.mpr ⟨r, hs r h1, h2⟩)
theorem ST.at {ad : Nat → Nat} {A B : Nat → Prop} {s U : State} {H : Heap} {locs : List Loc} (h : ST ad A s) (hS : va_S A s.heap H locs) (hW : s.WarmedH U.vm) (hU : U.heap = H) (hAB : ∀ q, B q → A q) : ST ad B U := by
  refine ⟨?_, ?_, fun w hw => nwl_warm hw hW (h.2.2 w hw)⟩
  · rw [hU]
    exact va_Z.moved hW.alike (va_Z.narrow (va_Z.kept h.1 hS.2.1) hAB)
  · rw [hU]
    exact va_T.moved hW.alike (va_T.narrow (va_T.kept h.2.1 hS.2.1) hAB)
theorem AA_in {A : Nat → Prop} {cI cZ cS : ClassId} {ad : Nat → Nat} {M : Mem} (hD : va_D A (Wd cI cZ cS ad M)) {H0 H : Heap} {locs : List Loc} (hS : va_S A H0 H locs) (hA : ∀ q, H0.size ≤ q → A q) : ∀ q, AA ad H.size q → A q := by
  intro q hq
  rcases hq with ⟨k, hk, rfl⟩ | hq
  · exact hD.2 k _ (Wd_get cI cZ cS ad M hk)
  · exact hA q (Nat.le_trans hS.1 hq)
theorem AA_self {A : Nat → Prop} {cI cZ cS : ClassId} {ad : Nat → Nat} {M M' : Mem} (hD : va_D A (Wd cI cZ cS ad M)) (sz : Nat) : va_D (AA ad sz) (Wd cI cZ cS ad M') := by
  refine ⟨fun i j x y hi hj hxy => ?_, fun k q hk => ?_⟩
  · obtain ⟨h1, rfl⟩ := Wd_lt hi
    obtain ⟨h2, rfl⟩ := Wd_lt hj
    exact hD.1 i j _ _ (Wd_get cI cZ cS ad M h1) (Wd_get cI cZ cS ad M h2) hxy
  · obtain ⟨h1, rfl⟩ := Wd_lt hk
    exact Or.inl ⟨k, h1, rfl⟩
set_option maxHeartbeats 4000000 in
theorem Ev.of_G {y : MethodName} {b : ByteArray} {nL : Nat} {ret : Option FieldType} {h : Nat} {avs : List Value} {M : Mem} {Q : Option Value → Mem → Prop} (hy : plainName y.cls = true) (hn : (lg_sl avs).length ≤ nL) (hG : G y.cls b nL ret (gE h Q) 0 (lv_args 0 avs) [] M) : Ev y b nL ret h avs M Q := by
  intro l D cI cZ cS ad sz
  refine Met.ofW (cc := b) (maxL := nL) (ret := ret) hy rfl ?_
  intro p e s m args below meth c s₁ B hml hv
  obtain ⟨rfl, hsz, hP, hK, hD, hST⟩ := hv
  subst hsz
  have hts0 := atoms_spec (ws := .code y b nL ret :: tb) B.pre
  have hts : ∀ w ∈ tb, w.before (avs.map (ren ad)).toArray s = true := fun w hw => hts0 w (List.mem_cons_of_mem _ hw)
  have hown : s.vm.findClass y.cls = some m.cls := findClass_of_methodNamed B.named
  have hl := lv_entry (avs.map (ren ad)) (n := nL) (by rw [ren_sl]; exact hn)
  rw [renL_args] at hl
  rw [lg_entry_eq]
  exact hG p l e s m _ below meth c D cI cZ cS ad (AA ad s.heap.size) ⟨B.exec, B.bytes, B.returns, hml, hown, hts, B.notSynchronized, hK, hST, fun q hq => Or.inr hq⟩ trivial s.heap [] _ hP hD va_S.rf hl
/-- fewer, or other, listed locals -/
theorem g_loc {own : String} {b : ByteArray} {nL : Nat} {ret : Option FieldType} {E : GE} {pc : Nat} {L L' : List (Nat × Value)} {st : List Value} {M : Mem} (hs : ∀ q ∈ L', q ∈ L) (k : G own b nL ret E pc L' st M) : G own b nL ret E pc L st M := by
  intro p l e s m args below meth c D cI cZ cS ad A C CX H locs ls hP hD hS hl
  exact k p l e s m args below meth c D cI cZ cS ad A C CX H locs ls hP hD hS (renL_has hl hs)
theorem g_locp {own : String} {b : ByteArray} {nL : Nat} {ret : Option FieldType} {E : GE} {pc : Nat} {L L' : List (Nat × Value)} {st : List Value} {M : Mem} (ks : List Nat) (hs : lv_pick L ks = L') (k : G own b nL ret E pc L' st M) : G own b nL ret E pc L st M := by
  refine g_loc (fun q hq => ?_) k
  subst hs
  obtain ⟨i, -, hi⟩ := List.mem_filterMap.mp hq
  exact List.mem_of_getElem? hi
theorem g_mem {own : String} {b : ByteArray} {nL : Nat} {ret : Option FieldType} {E : GE} {pc : Nat} {L : List (Nat × Value)} {st : List Value} {M M' : Mem} (e : M = M') (k : G own b nL ret E pc L st M') : G own b nL ret E pc L st M := e ▸ k
theorem g_st {own : String} {b : ByteArray} {nL : Nat} {ret : Option FieldType} {E : GE} {pc : Nat} {L : List (Nat × Value)} {st st' : List Value} {M : Mem} (e : st = st') (k : G own b nL ret E pc L st' M) : G own b nL ret E pc L st M := e ▸ k
